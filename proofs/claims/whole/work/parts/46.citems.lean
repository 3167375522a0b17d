/-! PURE PART 27: the class reads items onto its draft -/
def Ot (v v' : VV) : Prop := ∀ i, i ≠ 23 → (i < 58 ∨ 91 ≤ i) → v' i = v i
theorem Ot.tr {a b c : VV} (h1 : Ot a b) (h2 : Ot b c) : Ot a c := fun i hi h => (h2 i hi h).trans (h1 i hi h)
theorem Ot_23 {v v' : VV} (h : ∀ i, i ≠ 23 → v' i = v i) : Ot v v' ∧ rowOf 58 v' = rowOf 58 v := ⟨fun i hi _ => h i hi, rowOf_same (fun i a b => h i (by omega))⟩
theorem Ot_58 {v v' : VV} (h : Out 58 v v') : Ot v v' := fun i _ hi => h i (by omega)
theorem Cs_58 {t p : Nat} {b : Nat → Nat} {v v' : VV} (h : Cs t b v p) (ho : Out 58 v v') : Cs t b v' p := Cs_mv h (ho 23 (by omega)) (ho 24 (by omega))
theorem nI_m1 (x : Nat) (hx : x < 2 ^ 31) : 0 ≤ nI x := nI_pos' hx
/-- an option of an item: its number, or a fault -/
theorem C_rdK {t p k : Nat} {b : Nat → Nat} {v : VV} (h : Cs t b v p) (hp : p ≤ t) (hk : k ≤ 6) (hI : InvB (rowOf 58 v)) : ∃ v', F_X4_readKeeper 58 (nI k) v = some ((itKp t b k (nkS (rowOf 58 v)) p).1, v') ∧ Cs t b v' (itKp t b k (nkS (rowOf 58 v)) p).2.2 ∧ InvB (rowOf 58 v') ∧ Ot v v' ∧ ((itKp t b k (nkS (rowOf 58 v)) p).1 = true → rowOf 58 v' = apN (itKp t b k (nkS (rowOf 58 v)) p).2.1 (rowOf 58 v)) := by
  have ht := h.1.1
  obtain ⟨en, h8⟩ := nk_eq hI
  unfold F_X4_readKeeper F_X1_hasAllKeepers itKp
  rw [rd_1 58 v, en]
  by_cases q : 8 ≤ nkS (rowOf 58 v)
  · rw [if_neg (by rw [show (8 : Int32) = nI 8 from rfl]; exact nI_nlt (by omega) (by omega)), bd_s, if_pos rfl, if_pos q]
    exact ⟨v, rfl, h, hI, fun _ _ _ => rfl, fun z => by cases z⟩
  rw [if_pos (by rw [show (8 : Int32) = nI 8 from rfl]; exact nI_lt (by omega) (by omega)), bd_s, if_neg (by decide), if_neg q]
  obtain ⟨e1, e2⟩ := tkE_le b hp ht
  obtain ⟨v6, s1, s2, s3⟩ := C_stp h hp
  obtain ⟨a1, a2, a3⟩ := rdO_bd (k := 9) (top := 15) (d := 0) (b := b) e2 ht (by decide)
  obtain ⟨v9, c1, c2, c3⟩ := C_opt (k := 9) (top := 15) (d := 0) s2 e2 (by decide) (by decide)
  have c1' : F_X4_readOption 9 15 0 v6 = _ := c1
  rw [s1, bd_s, c1', bd_s]
  dsimp only
  by_cases q1 : (rdO t b 9 15 0 (tkE t b p)).1 = true
  · have l1 := a3 q1
    rw [if_pos q1, if_pos (nI_pos' (by omega)), thn_t q1]
    obtain ⟨b1, b2, b3⟩ := rdO_bd (k := 10) (top := 11) (d := 0) (b := b) a2 ht (by decide)
    obtain ⟨v14, d1, d2, d3⟩ := C_opt (k := 10) (top := 11) (d := 0) c2 a2 (by decide) (by decide)
    have d1' : F_X4_readOption 10 11 0 v9 = _ := d1
    rw [d1', bd_s]
    dsimp only
    by_cases q2 : (rdO t b 10 11 0 (rdO t b 9 15 0 (tkE t b p)).2.2).1 = true
    · have l2 := b3 q2
      rw [if_pos q2, if_pos (nI_pos' (by omega)), thn_t q2]
      obtain ⟨g1, g2, g3⟩ := rdO_bd (k := 11) (top := 15) (d := 6) (b := b) b2 ht (by decide)
      obtain ⟨v19, f1, f2, f3⟩ := C_opt (k := 11) (top := 15) (d := 6) d2 b2 (by decide) (by decide)
      have f1' : F_X4_readOption 11 15 6 v14 = _ := f1
      rw [f1', bd_s]
      dsimp only
      have all : ∀ i, i ≠ 23 → v19 i = v i := fun i hi => by rw [f3 i hi, d3 i hi, c3 i hi, s3 i hi]
      obtain ⟨o19, r19⟩ := Ot_23 all
      by_cases q3 : (rdO t b 11 15 6 (rdO t b 10 11 0 (rdO t b 9 15 0 (tkE t b p)).2.2).2.2).1 = true
      · have l3 := g3 q3
        rw [if_pos q3, if_pos (nI_pos' (by omega)), thn_t q3]
        generalize (rdO t b 11 15 6 (rdO t b 10 11 0 (rdO t b 9 15 0 (tkE t b p)).2.2).2.2) = o3 at *
        generalize (rdO t b 10 11 0 (rdO t b 9 15 0 (tkE t b p)).2.2) = o2 at *
        generalize (rdO t b 9 15 0 (tkE t b p)) = o1 at *
        have hI19 : InvB (rowOf 58 v19) := by rw [r19]; exact hI
        obtain ⟨v24, k1, k2, k3⟩ := C_addKeeper hI19 (by rw [r19]; omega) (nI k) (nI o1.2.1)
        rw [r19] at k2 k1
        rw [en] at k1
        have hk8 : nkS (rowOf 58 v) < 8 := by omega
        rw [k1, bd_s]
        dsimp only
        rw [gu_nI hk8 (by decide), cl_nI (n := nkS (rowOf 58 v)) (by omega)]
        have w2 := wr_k 58 v24 hk8 (by decide : 2 < 6) (nI o2.2.1)
        generalize hx1 : pu v24 (58 + 3 + 2 + nkS (rowOf 58 v) + 8) 2 (nI o2.2.1) = x1 at w2
        have w3 := wr_k 58 x1 hk8 (by decide : 3 < 6) (nI o3.2.1)
        generalize hx2 : pu x1 (58 + 3 + 2 + nkS (rowOf 58 v) + 8) 3 (nI o3.2.1) = x2 at w3
        have w5 := wr_k 58 x2 hk8 (by decide : 5 < 6) 1
        have hs2 : Cs t b x2 o3.2.2 := Cs_58 (Cs_58 (Cs_58 f2 k3) w2.2) w3.2
        have ro2 : rowOf 58 x2 = upd (upd (newK (rowOf 58 v) (nI k) (nI o1.2.1)) (ki (nkS (rowOf 58 v)) 2) (nI o2.2.1)) (ki (nkS (rowOf 58 v)) 3) (nI o3.2.1) := by rw [w3.1, w2.1, k2]
        have ot2 : Ot v x2 := ((o19.tr (Ot_58 k3)).tr (Ot_58 w2.2)).tr (Ot_58 w3.2)
        rw [C_isAt hs2.1 hs2.2 g2 (by decide), bd_s]
        by_cases q4 : isW t b 12 o3.2.2 = true
        · rw [if_pos q4, if_pos q4, if_pos q4]
          have hs5 := Cs_58 hs2 w5.2
          obtain ⟨v32, z1, z2, z3⟩ := C_stp hs5 g2
          obtain ⟨o32, r32⟩ := Ot_23 z3
          rw [z1, bd_s]
          have er : rowOf 58 v32 = apN (k, o1.2.1, o2.2.1, o3.2.1, 1) (rowOf 58 v) := by
            rw [r32, w5.1, ro2, apN_k hk]
            rfl
          refine ⟨v32, rfl, z2, ?_, (ot2.tr (Ot_58 w5.2)).tr o32, fun _ => er⟩
          rw [er]
          exact apN_B hI (Or.inl ⟨hk, hk8, l1, l2, l3, show (1 : Nat) ≤ 1 by decide⟩)
        · rw [if_neg q4, if_neg q4, if_neg q4]
          have er : rowOf 58 x2 = apN (k, o1.2.1, o2.2.1, o3.2.1, 0) (rowOf 58 v) := by
            rw [ro2, apN_k hk]
            have e5 : upd (upd (newK (rowOf 58 v) (nI k) (nI o1.2.1)) (ki (nkS (rowOf 58 v)) 2) (nI o2.2.1)) (ki (nkS (rowOf 58 v)) 3) (nI o3.2.1) (ki (nkS (rowOf 58 v)) 5) = nI 0 := by
              rw [upd_ne _ _ (by simp only [ki]; omega), upd_ne _ _ (by simp only [ki]; omega)]
              exact (newK_at (rowOf 58 v) (nI k) (nI o1.2.1)).2.2.2.2.2.1
            rw [← e5, upd_id]
          refine ⟨x2, rfl, hs2, ?_, ot2, fun _ => er⟩
          rw [er]
          exact apN_B hI (Or.inl ⟨hk, hk8, l1, l2, l3, show (0 : Nat) ≤ 1 by decide⟩)
      · rw [if_neg q3, if_neg (by decide), thn_f q3]
        exact ⟨v19, rfl, f2, by rw [r19]; exact hI, o19, fun z => by cases z⟩
    · rw [if_neg q2, if_neg (by decide), thn_f q2]
      obtain ⟨o14, r14⟩ := Ot_23 (v := v) (v' := v14) (fun i hi => by rw [d3 i hi, c3 i hi, s3 i hi])
      exact ⟨v14, rfl, d2, by rw [r14]; exact hI, o14, fun z => by cases z⟩
  · rw [if_neg q1, if_neg (by decide), thn_f q1]
    obtain ⟨o9, r9⟩ := Ot_23 (v := v) (v' := v9) (fun i hi => by rw [c3 i hi, s3 i hi])
    exact ⟨v9, rfl, c2, by rw [r9]; exact hI, o9, fun z => by cases z⟩
theorem C_rdC {t p : Nat} {b : Nat → Nat} {v : VV} (h : Cs t b v p) (hp : p ≤ t) (hI : InvB (rowOf 58 v)) : ∃ v', F_X4_readChild 58 v = some ((itCh t b (ncS (rowOf 58 v)) p).1, v') ∧ Cs t b v' (itCh t b (ncS (rowOf 58 v)) p).2.2 ∧ InvB (rowOf 58 v') ∧ Ot v v' ∧ ((itCh t b (ncS (rowOf 58 v)) p).1 = true → rowOf 58 v' = apN (itCh t b (ncS (rowOf 58 v)) p).2.1 (rowOf 58 v)) := by
  have ht := h.1.1
  obtain ⟨en, h6⟩ := nc_eq hI
  unfold F_X4_readChild F_X1_hasAllChildren itCh
  rw [rd_3 58 v, en]
  by_cases q : 6 ≤ ncS (rowOf 58 v)
  · rw [if_neg (by rw [show (6 : Int32) = nI 6 from rfl]; exact nI_nlt (by omega) (by omega)), bd_s, if_pos rfl, if_pos q]
    exact ⟨v, rfl, h, hI, fun _ _ _ => rfl, fun z => by cases z⟩
  rw [if_pos (by rw [show (6 : Int32) = nI 6 from rfl]; exact nI_lt (by omega) (by omega)), bd_s, if_neg (by decide), if_neg q]
  obtain ⟨e1, e2⟩ := tkE_le b hp ht
  obtain ⟨v6, s1, s2, s3⟩ := C_stp h hp
  obtain ⟨a1, a2, a3⟩ := rdO_bd (k := 9) (top := 15) (d := 0) (b := b) e2 ht (by decide)
  obtain ⟨v9, c1, c2, c3⟩ := C_opt (k := 9) (top := 15) (d := 0) s2 e2 (by decide) (by decide)
  have c1' : F_X4_readOption 9 15 0 v6 = _ := c1
  rw [s1, bd_s, c1', bd_s]
  dsimp only
  by_cases q1 : (rdO t b 9 15 0 (tkE t b p)).1 = true
  · have l1 := a3 q1
    rw [if_pos q1, if_pos (nI_pos' (by omega)), thn_t q1]
    obtain ⟨b1, b2, b3⟩ := rdO_bd (k := 13) (top := 9) (d := 3) (b := b) a2 ht (by decide)
    obtain ⟨v14, d1, d2, d3⟩ := C_opt (k := 13) (top := 9) (d := 3) c2 a2 (by decide) (by decide)
    have d1' : F_X4_readOption 13 9 3 v9 = _ := d1
    rw [d1', bd_s]
    dsimp only
    by_cases q2 : (rdO t b 13 9 3 (rdO t b 9 15 0 (tkE t b p)).2.2).1 = true
    · have l2 := b3 q2
      rw [if_pos q2, if_pos (nI_pos' (by omega)), thn_t q2]
      obtain ⟨g1, g2, g3⟩ := rdO_bd (k := 14) (top := 4095) (d := 0) (b := b) b2 ht (by decide)
      obtain ⟨v19, f1, f2, f3⟩ := C_opt (k := 14) (top := 4095) (d := 0) d2 b2 (by decide) (by decide)
      have f1' : F_X4_readOption 14 4095 0 v14 = _ := f1
      rw [f1', bd_s]
      dsimp only
      have all : ∀ i, i ≠ 23 → v19 i = v i := fun i hi => by rw [f3 i hi, d3 i hi, c3 i hi, s3 i hi]
      obtain ⟨o19, r19⟩ := Ot_23 all
      by_cases q3 : (rdO t b 14 4095 0 (rdO t b 13 9 3 (rdO t b 9 15 0 (tkE t b p)).2.2).2.2).1 = true
      · have l3 := g3 q3
        rw [if_pos q3, if_pos (nI_pos' (by omega)), thn_t q3]
        generalize (rdO t b 14 4095 0 (rdO t b 13 9 3 (rdO t b 9 15 0 (tkE t b p)).2.2).2.2) = o3 at *
        generalize (rdO t b 13 9 3 (rdO t b 9 15 0 (tkE t b p)).2.2) = o2 at *
        generalize (rdO t b 9 15 0 (tkE t b p)) = o1 at *
        have hI19 : InvB (rowOf 58 v19) := by rw [r19]; exact hI
        obtain ⟨v24, k1, k2, k3⟩ := C_addChild hI19 (by rw [r19]; omega) (nI o1.2.1) (nI o2.2.1)
        rw [r19] at k2 k1
        rw [en] at k1
        have hk6 : ncS (rowOf 58 v) < 6 := by omega
        rw [k1, bd_s]
        dsimp only
        rw [gu_nI hk6 (by decide), cl_nI (n := ncS (rowOf 58 v)) (by omega)]
        have w2 := wr_c 58 v24 hk6 (by decide : 2 < 4) (nI o3.2.1)
        have er : rowOf 58 (pu v24 (58 + 4 + 17 + ncS (rowOf 58 v) + 6) 2 (nI o3.2.1)) = apN (10, o1.2.1, o2.2.1, o3.2.1, 0) (rowOf 58 v) := by rw [w2.1, k2, apN_c]
        refine ⟨_, rfl, Cs_58 (Cs_58 f2 k3) w2.2, ?_, (o19.tr (Ot_58 k3)).tr (Ot_58 w2.2), fun _ => er⟩
        rw [er]
        exact apN_B hI (Or.inr (Or.inl ⟨rfl, hk6, l1, l2, l3⟩))
      · rw [if_neg q3, if_neg (by decide), thn_f q3]
        exact ⟨v19, rfl, f2, by rw [r19]; exact hI, o19, fun z => by cases z⟩
    · rw [if_neg q2, if_neg (by decide), thn_f q2]
      obtain ⟨o14, r14⟩ := Ot_23 (v := v) (v' := v14) (fun i hi => by rw [d3 i hi, c3 i hi, s3 i hi])
      exact ⟨v14, rfl, d2, by rw [r14]; exact hI, o14, fun z => by cases z⟩
  · rw [if_neg q1, if_neg (by decide), thn_f q1]
    obtain ⟨o9, r9⟩ := Ot_23 (v := v) (v' := v9) (fun i hi => by rw [c3 i hi, s3 i hi])
    exact ⟨v9, rfl, c2, by rw [r9]; exact hI, o9, fun z => by cases z⟩
theorem C_rdF {t p : Nat} {b : Nat → Nat} {v : VV} (h : Cs t b v p) (hp : p ≤ t) (hI : InvB (rowOf 58 v)) : ∃ v', F_X4_readFog 58 v = some ((itFg t b p).1, v') ∧ Cs t b v' (itFg t b p).2.2 ∧ InvB (rowOf 58 v') ∧ Ot v v' ∧ ((itFg t b p).1 = true → rowOf 58 v' = apN (itFg t b p).2.1 (rowOf 58 v)) := by
  have ht := h.1.1
  obtain ⟨e1, e2⟩ := tkE_le b hp ht
  obtain ⟨f1, f2⟩ := tkE_le b e2 ht
  obtain ⟨v3, a1, a2, a3⟩ := C_stp h hp
  obtain ⟨o3, r3⟩ := Ot_23 a3
  have n5 : F_X4_numberUpTo 5 v3 = _ := C_num (top := 5) a2 (by decide)
  unfold F_X4_readFog itFg
  rw [a1, bd_s, n5, bd_s]
  by_cases q1 : nOK t b 5 (tkE t b p) = true
  · have n1 : tkN t b (tkE t b p) ≤ 5 := (of_decide_eq_true q1 : _ ∧ _).2
    obtain ⟨v9, b1, b2, b3⟩ := C_stp a2 e2
    obtain ⟨o9, r9⟩ := Ot_23 b3
    have n9 : F_X4_numberUpTo 9 v9 = _ := C_num (top := 9) b2 (by decide)
    rw [if_pos q1, if_pos (nI_pos' (by omega)), if_pos q1, b1, bd_s, n9, bd_s]
    by_cases q2 : nOK t b 9 (tkE t b (tkE t b p)) = true
    · have n2 : tkN t b (tkE t b (tkE t b p)) ≤ 9 := (of_decide_eq_true q2 : _ ∧ _).2
      obtain ⟨v15, z1, z2, z3⟩ := C_stp b2 f2
      obtain ⟨o15, r15⟩ := Ot_23 z3
      rw [if_pos q2, if_pos (nI_pos' (by omega)), if_pos q2, z1, bd_s, gu_nI (by omega) (by decide), cl_nI (n := tkN t b (tkE t b p)) (by omega)]
      have w := wr_l 58 v15 (j := tkN t b (tkE t b p)) (by omega) (nI (tkN t b (tkE t b (tkE t b p))))
      have er : rowOf 58 (pu v15 (58 + 1) (tkN t b (tkE t b p)) (nI (tkN t b (tkE t b (tkE t b p))))) = apN (11, tkN t b (tkE t b p), tkN t b (tkE t b (tkE t b p)), 0, 0) (rowOf 58 v) := by rw [w.1, r15, r9, r3, apN_f n1]
      refine ⟨_, rfl, Cs_58 z2 w.2, ?_, ((o3.tr o9).tr o15).tr (Ot_58 w.2), fun _ => er⟩
      rw [er]
      exact apN_B hI (Or.inr (Or.inr ⟨rfl, n1, n2⟩))
    · rw [if_neg q2, if_neg (by decide), if_neg q2]
      exact ⟨v9, rfl, b2, by rw [r9, r3]; exact hI, o3.tr o9, fun z => by cases z⟩
  · rw [if_neg q1, if_neg (by decide), if_neg q1]
    exact ⟨v3, rfl, a2, by rw [r3]; exact hI, o3, fun z => by cases z⟩
theorem C_wordOf : ∀ k, k < 7 → ∀ v : VV, F_X4_wordOf (nI k) v = some k := by
  intro k hk v
  have hc : k = 0 ∨ k = 1 ∨ k = 2 ∨ k = 3 ∨ k = 4 ∨ k = 5 ∨ k = 6 := by omega
  rcases hc with rfl | rfl | rfl | rfl | rfl | rfl | rfl <;> rfl
theorem C_rdItem {t p : Nat} {b : Nat → Nat} {v : VV} (h : Cs t b v p) (hp : p ≤ t) (hI : InvB (rowOf 58 v)) : ∃ v', F_X4_readItem 58 v = some ((itS t b (nkS (rowOf 58 v)) (ncS (rowOf 58 v)) p).1, v') ∧ Cs t b v' (itS t b (nkS (rowOf 58 v)) (ncS (rowOf 58 v)) p).2.2 ∧ InvB (rowOf 58 v') ∧ Ot v v' ∧ ((itS t b (nkS (rowOf 58 v)) (ncS (rowOf 58 v)) p).1 = true → rowOf 58 v' = apN (itS t b (nkS (rowOf 58 v)) (ncS (rowOf 58 v)) p).2.1 (rowOf 58 v)) := by
  obtain ⟨k1, k2, k3⟩ := kw_sp t b p
  unfold F_X4_readItem itS
  refine loopR (L := fun f (x : VV) i => L_X4_readItem_2 f 58 i x) (N := kwN t b p) (fun j x => x = v) (fun z => ∃ v', z = some ((if kwN t b p < 7 then itKp t b (kwN t b p) (nkS (rowOf 58 v)) p else if isW t b 7 p = true then itCh t b (ncS (rowOf 58 v)) p else if isW t b 8 p = true then itFg t b p else (false, z5, p)).1, v') ∧ Cs t b v' (if kwN t b p < 7 then itKp t b (kwN t b p) (nkS (rowOf 58 v)) p else if isW t b 7 p = true then itCh t b (ncS (rowOf 58 v)) p else if isW t b 8 p = true then itFg t b p else (false, z5, p)).2.2 ∧ InvB (rowOf 58 v') ∧ Ot v v' ∧ ((if kwN t b p < 7 then itKp t b (kwN t b p) (nkS (rowOf 58 v)) p else if isW t b 7 p = true then itCh t b (ncS (rowOf 58 v)) p else if isW t b 8 p = true then itFg t b p else (false, z5, p)).1 = true → rowOf 58 v' = apN (if kwN t b p < 7 then itKp t b (kwN t b p) (nkS (rowOf 58 v)) p else if isW t b 7 p = true then itCh t b (ncS (rowOf 58 v)) p else if isW t b 8 p = true then itFg t b p else (false, z5, p)).2.1 (rowOf 58 v))) (fun f x hx => ?_) (fun f j x hj hx => Or.inl ?_) (kwN t b p) fu 0 v (by omega) (by unfold fu; omega) rfl
  · subst hx
    show ∃ v', L_X4_readItem_2 (f + 1) 58 (nI (kwN t b p)) x = _ ∧ _
    rw [L_X4_readItem_2]
    by_cases q : kwN t b p < 7
    · rw [if_pos q, if_neg (by rw [show (6 : Int32) = nI 6 from rfl]; exact nI_nlt (by omega) (by omega)), C_wordOf _ q, bd_s, C_isAt h.1 h.2 hp (by omega), bd_s, if_pos (k3 q), bd_pair]
      exact C_rdK h hp (by omega) hI
    · rw [if_neg q, if_pos (by rw [show (6 : Int32) = nI 6 from rfl]; exact nI_lt (by omega) (by omega)), C_isAt h.1 h.2 hp (by decide), bd_s]
      by_cases q7 : isW t b 7 p = true
      · rw [if_pos q7, if_pos q7, bd_pair]
        exact C_rdC h hp hI
      · rw [if_neg q7, if_neg q7, C_isAt h.1 h.2 hp (by decide), bd_s]
        by_cases q8 : isW t b 8 p = true
        · rw [if_pos q8, if_pos q8]
          obtain ⟨v', a1, a2, a3, a4, a5⟩ := C_rdF h hp hI
          refine ⟨v', ?_, a2, a3, a4, a5⟩
          rw [a1, bd_s]
          dsimp only
          cases (itFg t b p).1 <;> rfl
        · rw [if_neg q8, if_neg q8]
          exact ⟨x, rfl, h, hI, fun _ _ _ => rfl, fun z => by cases z⟩
  · subst hx
    refine ⟨x, ?_, rfl⟩
    show L_X4_readItem_2 (f + 1) 58 (nI j) x = L_X4_readItem_2 f 58 (nI (j + 1)) x
    rw [L_X4_readItem_2, if_neg (by rw [show (6 : Int32) = nI 6 from rfl]; exact nI_nlt (by omega) (by omega)), C_wordOf _ (by omega), bd_s, C_isAt h.1 h.2 hp (by omega), bd_s, if_neg (k2 j hj), nI_1]
