/-! PURE PART 18: what if: seatFor, quickFor, kindFor, fogFor -/
theorem upd_upd (c : RW) (k : Nat) (a b : Int32) : upd (upd c k a) k b = upd c k b := by
  funext y
  by_cases e : y = k
  · rw [e, upd_self, upd_self]
  · rw [upd_ne _ _ e, upd_ne _ _ e, upd_ne _ _ e]
theorem upd_id (c : RW) (k : Nat) : upd c k (c k) = c := by
  funext y
  by_cases e : y = k
  · rw [e, upd_self]
  · rw [upd_ne _ _ e]
theorem lone_updc {c m : RW} {j : Nat} (h : lone c m j) (h8 : nkS m ≤ 8) {f : Nat} (hf : f < 4) (x : Int32) : lone (upd c (ci 0 f) x) (upd m (ci j f) x) j := by
  obtain ⟨h1, h2, h3, h4, h5⟩ := h
  have e1 : nkS (upd m (ci j f) x) = nkS m := by simp only [nkS]; rw [upd_ne _ _ (by simp only [ci]; omega)]
  have e3 : ncS (upd m (ci j f) x) = ncS m := by simp only [ncS]; rw [upd_ne _ _ (by simp only [ci]; omega)]
  refine ⟨fun y hy hy3 => ?_, fun i' hi' f' hf' => ?_, ?_, by rw [e3]; exact h4, fun f' hf' => ?_⟩
  · rw [upd_ne _ _ (by simp only [ci]; omega), upd_ne _ _ (by simp only [ci]; omega)]; exact h1 y hy hy3
  · rw [e1] at hi'
    rw [upd_ne _ _ (by simp only [ki, ci]; omega), upd_ne _ _ (by simp only [ki, ci]; omega)]; exact h2 i' hi' f' hf'
  · rw [upd_ne _ _ (by simp only [ci]; omega)]; exact h3
  · by_cases e : f' = f
    · rw [e, upd_self, upd_self]
    · rw [upd_ne _ _ (by simp only [ci]; omega), upd_ne _ _ (by simp only [ci]; omega)]; exact h5 f' hf'
/-! the class's drafts with one number changed -/
theorem C_whatC {v : VV} (h : Rel v) {j : Nat} (hj : j < ncS (v 1)) {f : Nat} (hf : f < 4) {t : Nat} (ht : t ≤ tC f) {N : Nat} (hN : N ≤ 200) : ∃ va v1, F_X5_draftLoneChild (nI j) v = some va ∧ F_X1_passDays 58 (nI N) (pu va (((58 + 4) + 17 + 0) + 6) f (nI t)) = some v1 ∧ lone (rowOf 58 v1) (daysS N (upd (v 1) (ci j f) (nI t))) j ∧ InvB (rowOf 58 v1) ∧ Out 58 v v1 := by
  obtain ⟨hC, hM, hs, hp⟩ := h.1
  have h6 := (nc_eq hM).2
  have h8 := (nk_eq hM).2
  obtain ⟨va, a1, a2, a3, a4⟩ := C_draftC h hj
  have w := wr_c 58 va (i := 0) (by decide) hf (nI t)
  have hI : InvB (rowOf 58 (pu va (((58 + 4) + 17 + 0) + 6) f (nI t))) := by rw [w.1]; exact updC a3 (by decide) hf ht
  obtain ⟨v1, b1, b2, b3⟩ := C_days hI hN
  refine ⟨va, v1, a1, b1, ?_, by rw [b2]; exact daysS_B N hI, (a4.trans w.2).trans b3⟩
  rw [b2, w.1]
  exact lone_days N (lone_updc a2 h8 hf _) (updC hM (by omega) hf ht)
theorem C_whatS {v : VV} (h : Rel v) {y P S : Nat} {x : Int32} (hw : ∀ va : VV, rowOf 58 (pu va P S x) = upd (rowOf 58 va) y x ∧ Out 58 va (pu va P S x)) (hI : ∀ c, InvB c → InvB (upd c y x)) (hs : ∀ c m, sim c m → sim (upd c y x) (upd m y x)) {N : Nat} (hN : N ≤ 200) : ∃ va v1, F_X1_become 58 25 v = some va ∧ F_X1_passDays 58 (nI N) (pu va P S x) = some v1 ∧ sim (rowOf 58 v1) (daysS N (upd (v 1) y x)) ∧ InvB (rowOf 58 v1) ∧ Out 58 v v1 := by
  obtain ⟨hC, hM, hsm, hp⟩ := h.1
  obtain ⟨va, a1, a2, a3, a4⟩ := C_become (p := 25) (q := 58) (by omega) hC h.2.1
  have w := hw va
  have hI2 : InvB (rowOf 58 (pu va P S x)) := by rw [w.1]; exact hI _ a3
  obtain ⟨v1, b1, b2, b3⟩ := C_days hI2 hN
  refine ⟨va, v1, a1, b1, ?_, by rw [b2]; exact daysS_B N hI2, (a4.trans w.2).trans b3⟩
  rw [b2, w.1]
  exact sim_days N (hs _ _ (sim_tr a2 hsm)) (hI _ hM)
theorem lone_lrn {c m : RW} {j : Nat} (h : lone c m j) : lrnS c = popS (m (ci j 2)) := by
  obtain ⟨h1, h2, h3, h4, h5⟩ := h
  have n1 : ncS c = 1 := by simp only [ncS]; rw [h3]; rfl
  unfold lrnS
  rw [n1]
  show 0 + popS (c (ci 0 2)) = _
  rw [Int32.zero_add, h5 2 (by decide)]
theorem lone_all {c m : RW} {j : Nat} (h : lone c m j) (n : Int32) : lrP c 0 (ncS c) n = decide (¬ (m (ci j 2) &&& (1 <<< (n &&& 31))) = 0) := by
  obtain ⟨l1, l2, l3, l4, l5⟩ := h
  have n1 : ncS c = 1 := by simp only [ncS]; rw [l3]; rfl
  rw [n1]
  unfold lrP
  congr 1
  refine propext ⟨fun q => ?_, fun q i x y => ?_⟩
  · rw [← l5 2 (by decide)]
    exact q 0 (by omega) (by omega)
  · have ei : i = 0 := by omega
    rw [ei, l5 2 (by decide)]
    exact q
/-! the reference's row with one number changed -/
def Mw (v1 : VV) (y : Nat) (w : VV) : Prop := (∃ s, w 1 = upd (v1 1) y s) ∧ ∀ i, i ≠ 1 → i ≠ 3 → w i = v1 i
theorem Mw_rf (v1 : VV) (y : Nat) : Mw v1 y v1 := ⟨⟨v1 1 y, (upd_id _ _).symm⟩, fun _ _ _ => rfl⟩
theorem Mw_1 {v1 w : VV} {y : Nat} (h : Mw v1 y w) (x : Int32) : pu w 1 y x 1 = upd (v1 1) y x := by
  obtain ⟨⟨s, hs⟩, -⟩ := h
  rw [pu_self, hs, upd_upd]
theorem Mw_pu {v1 w : VV} {y : Nat} (h : Mw v1 y w) (x : Int32) : Mw v1 y (pu w 1 y x) := ⟨⟨x, Mw_1 h x⟩, fun i h1 h3 => by rw [pu_ne _ _ _ h1]; exact h.2 i h1 h3⟩
theorem Mw_thk {v1 w : VV} {y : Nat} (h : Mw v1 y w) : Mw v1 y (thk w (w 1)) := by
  obtain ⟨⟨s, hs⟩, ho⟩ := h
  exact ⟨⟨s, by rw [thk_1]; exact hs⟩, fun i h1 h3 => by rw [thk_ne w h3]; exact ho i h1 h3⟩
theorem Mw_end {v1 w : VV} {y : Nat} (h : Mw v1 y w) : ∀ i, i ≠ 3 → pu w 1 y (v1 1 y) i = v1 i := by
  intro i h3
  by_cases e : i = 1
  · rw [e, Mw_1 h, upd_id]
  · rw [pu_ne _ _ _ e]; exact h.2 i e h3
theorem Mw_rel {v1 w : VV} {y : Nat} (h : Mw v1 y w) (hR : Rel v1) : Rel (pu w 1 y (v1 1 y)) := hR.x (fun i h3 _ _ _ => Mw_end h i h3) (by rw [Mw_end h 0 (by decide)]) (by rw [Mw_end h 0 (by decide)])
theorem M_behW {v1 w : VV} {y : Nat} (h : Mw v1 y w) {x : Int32} (hI : InvB (upd (v1 1) y x)) {z N : Nat} (hz : z < 92) (hN : N ≤ 200) : ∃ w', F_X6_behind (nI z) (nI N) (pu w 1 y x) = some (daysS N (upd (v1 1) y x) z, w') ∧ Mw v1 y w' := by
  have e := Mw_1 h x
  refine ⟨_, ?_, Mw_thk (Mw_pu h x)⟩
  rw [M_behind (by rw [e]; exact hI) hz hN, e]
theorem M_lrnBehind {v : VV} (hI : InvB (v 1)) {N : Nat} (hN : N ≤ 200) : F_X6_learntBehind (nI N) v = some (lrnS (daysS N (v 1)), thk v (v 1)) := by
  unfold F_X6_learntBehind
  rw [M_begin, bd_s, M_daysGo (by rw [thk_1]; exact hI) hN, bd_s, thk_1, thk_up, M_lrn (by rw [thk_1]; exact daysS_B N hI), bd_s, thk_1, M_back (fun y hy => daysS_big N hI hy), bd_s]
theorem M_lrnW {v1 w : VV} {y : Nat} (h : Mw v1 y w) {x : Int32} (hI : InvB (upd (v1 1) y x)) {N : Nat} (hN : N ≤ 200) : ∃ w', F_X6_learntBehind (nI N) (pu w 1 y x) = some (lrnS (daysS N (upd (v1 1) y x)), w') ∧ Mw v1 y w' := by
  have e := Mw_1 h x
  refine ⟨_, ?_, Mw_thk (Mw_pu h x)⟩
  rw [M_lrnBehind (by rw [e]; exact hI) hN, e]
/-- the first best of numbers -/
def bstS (val : Nat → Int32) : Nat → Int32 × Int32 → Int32 × Int32 := fun t x => if val t ≤ x.2 then x else (nI t, val t)
/-! seatFor -/
theorem st_seatFor {v : VV} (h : Rel v) (a b : Int32) : StP (F_X5_seatFor a b) (F_X6_seatFor a b) v := by
  obtain ⟨hC, hM, hs, hp⟩ := h.1
  have e := sim_nc hs
  have h6 := (nc_eq hM).2
  by_cases ha : inR a (ncS (v 1)) = true
  · by_cases hb : inR b 61 = true
    · obtain ⟨j, hj, rfl⟩ := inR_t ha (by omega)
      obtain ⟨N, hN, rfl⟩ := inR_t hb (by decide)
      have hI : ∀ t, t < 16 → InvB (upd (v 1) (ci j 0) (nI t)) := fun t ht => updC hM (by omega) (by decide) (show t ≤ 15 by omega)
      have hc : ∃ v1, L_X5_seatFor_31 fu (nI j) (nI N) 0 (-1) 0 v = some ((itr (bstS (fun t => popS (daysS N (upd (v 1) (ci j 0) (nI t)) (ci j 2)))) 0 16 (0, -1)).1, v1) ∧ Rel v1 ∧ v1 1 = v 1 := by
        refine loopR (L := fun f (x : Int32 × Int32 × VV) i => L_X5_seatFor_31 f (nI j) (nI N) x.1 x.2.1 i x.2.2) (N := 16) (fun i x => (x.1, x.2.1) = itr (bstS (fun t => popS (daysS N (upd (v 1) (ci j 0) (nI t)) (ci j 2)))) 0 i (0, -1) ∧ Rel x.2.2 ∧ x.2.2 1 = v 1) (fun z => ∃ v1, z = some ((itr (bstS (fun t => popS (daysS N (upd (v 1) (ci j 0) (nI t)) (ci j 2)))) 0 16 (0, -1)).1, v1) ∧ Rel v1 ∧ v1 1 = v 1) (fun f x hx => ?_) (fun f t x ht hx => Or.inl ?_) 16 fu 0 (0, -1, v) (by omega) (by unfold fu; omega) ⟨rfl, h, rfl⟩
        · refine ⟨x.2.2, ?_, hx.2⟩
          show L_X5_seatFor_31 (f + 1) (nI j) (nI N) x.1 x.2.1 (nI 16) x.2.2 = _
          rw [L_X5_seatFor_31, if_pos (by decide), ← hx.1]
        · obtain ⟨x1, x2, x3⟩ := x
          obtain ⟨g1, g2, g3⟩ := hx
          dsimp only at g1 g2 g3
          obtain ⟨va, vb, c1, c2, c3, c4, c5⟩ := C_whatC g2 (j := j) (by rw [g3]; exact hj) (f := 0) (by decide) (t := t) (show t ≤ 15 by omega) (N := N) (by omega)
          have e1 : vb 1 = v 1 := by rw [c5 1 (by omega)]; exact g3
          have el := lone_lrn c3
          rw [g3] at el
          refine ⟨((itr (bstS (fun t => popS (daysS N (upd (v 1) (ci j 0) (nI t)) (ci j 2)))) 0 (t + 1) (0, -1)).1, (itr (bstS (fun t => popS (daysS N (upd (v 1) (ci j 0) (nI t)) (ci j 2)))) 0 (t + 1) (0, -1)).2, vb), ?_, rfl, g2.d c5 c4, e1⟩
          show L_X5_seatFor_31 (f + 1) (nI j) (nI N) x1 x2 (nI t) x3 = L_X5_seatFor_31 f (nI j) (nI N) _ _ (nI (t + 1)) vb
          rw [L_X5_seatFor_31, if_neg (by rw [show (15 : Int32) = nI 15 from rfl]; exact nI_nlt (by omega) (by omega)), c1, bd_s, c2, bd_s, C_lrn c4, bd_s, el, nI_1, itr_snoc, Nat.zero_add, ← g1]
          unfold bstS
          dsimp only
          by_cases q : popS (daysS N (upd (v 1) (ci j 0) (nI t)) (ci j 2)) ≤ x2
          · rw [if_pos q, if_pos q]
          · rw [if_neg q, if_neg q]
      obtain ⟨v1, c1, c2, c3⟩ := hc
      have hm : ∃ w, L_X6_seatFor_45 fu (nI j) (nI N) (nI (ci j 0)) (v 1 (ci j 0)) 0 (-1) 0 v1 = some ((itr (bstS (fun t => popS (daysS N (upd (v 1) (ci j 0) (nI t)) (ci j 2)))) 0 16 (0, -1)).1, w) ∧ Rel w := by
        refine loopR (L := fun f (x : Int32 × Int32 × VV) i => L_X6_seatFor_45 f (nI j) (nI N) (nI (ci j 0)) (v 1 (ci j 0)) x.1 x.2.1 i x.2.2) (N := 16) (fun i x => (x.1, x.2.1) = itr (bstS (fun t => popS (daysS N (upd (v 1) (ci j 0) (nI t)) (ci j 2)))) 0 i (0, -1) ∧ Mw v1 (ci j 0) x.2.2) (fun z => ∃ w, z = some ((itr (bstS (fun t => popS (daysS N (upd (v 1) (ci j 0) (nI t)) (ci j 2)))) 0 16 (0, -1)).1, w) ∧ Rel w) (fun f x hx => ?_) (fun f t x ht hx => Or.inl ?_) 16 fu 0 (0, -1, v1) (by omega) (by unfold fu; omega) ⟨rfl, Mw_rf _ _⟩
        · refine ⟨pu x.2.2 1 (ci j 0) (v1 1 (ci j 0)), ?_, Mw_rel hx.2 c2⟩
          show L_X6_seatFor_45 (f + 1) (nI j) (nI N) (nI (ci j 0)) (v 1 (ci j 0)) x.1 x.2.1 (nI 16) x.2.2 = _
          rw [L_X6_seatFor_45, if_pos (by decide), gu_nI (ci_lt (by omega) (by decide)) (by decide), cl_nI (Nat.lt_trans (ci_lt (i := j) (f := 0) (by omega) (by decide)) (by decide)), ← hx.1, c3]
        · obtain ⟨x1, x2, x3⟩ := x
          obtain ⟨g1, g2⟩ := hx
          dsimp only at g1 g2
          obtain ⟨w', d1, d2⟩ := M_behW g2 (x := nI t) (by rw [c3]; exact hI t ht) (z := ci j 2) (ci_lt (by omega) (by decide)) (N := N) (by omega)
          rw [c3] at d1
          obtain ⟨L, hL, eL⟩ := (daysS_B N (hI t ht)).2.2.2.2.2 j (by omega) 2 (by decide)
          refine ⟨((itr (bstS (fun t => popS (daysS N (upd (v 1) (ci j 0) (nI t)) (ci j 2)))) 0 (t + 1) (0, -1)).1, (itr (bstS (fun t => popS (daysS N (upd (v 1) (ci j 0) (nI t)) (ci j 2)))) 0 (t + 1) (0, -1)).2, w'), ?_, rfl, d2⟩
          show L_X6_seatFor_45 (f + 1) (nI j) (nI N) (nI (ci j 0)) (v 1 (ci j 0)) x1 x2 (nI t) x3 = L_X6_seatFor_45 f (nI j) (nI N) (nI (ci j 0)) (v 1 (ci j 0)) _ _ (nI (t + 1)) w'
          rw [L_X6_seatFor_45, if_neg (by rw [show (16 : Int32) = nI 16 from rfl]; exact nI_ge (by omega) (by omega)), gu_nI (ci_lt (by omega) (by decide)) (by decide), cl_nI (Nat.lt_trans (ci_lt (i := j) (f := 0) (by omega) (by decide)) (by decide)), cAt2, bd_s, d1, bd_s]
          dsimp only
          rw [eL, M_bits hL, bd_s, ← eL, nI_1, itr_snoc, Nat.zero_add, ← g1]
          unfold bstS
          dsimp only
          by_cases q : popS (daysS N (upd (v 1) (ci j 0) (nI t)) (ci j 2)) ≤ x2
          · rw [if_pos q, if_pos q]
          · rw [if_neg q, if_neg q]
      obtain ⟨w, m1, m2⟩ := hm
      refine ⟨_, v1, w, Eq.trans ?_ c1, Eq.trans ?_ m1, m2⟩
      · unfold F_X5_seatFor
        rw [C_isChild hC, bd_s, e, if_pos ha, upTo (b := 60) 60 rfl (by decide), bd_s, if_pos hb]
      · unfold F_X6_seatFor
        rw [M_isChild (by rw [c3]; exact hM), bd_s, c3, if_pos ha, M_isThought, bd_s, if_pos hb, cAt0, bd_s, gu_nI (ci_lt (by omega) (by decide)) (by decide), cl_nI (Nat.lt_trans (ci_lt (i := j) (f := 0) (by omega) (by decide)) (by decide))]
    · refine st_f0 h ?_ (fun v1 e1 => ?_)
      · unfold F_X5_seatFor
        rw [C_isChild hC, bd_s, e, if_pos ha, upTo (b := 60) 60 rfl (by decide), bd_s, if_neg hb]
      · unfold F_X6_seatFor
        rw [M_isChild (by rw [e1 1 (by decide)]; exact hM), bd_s, e1 1 (by decide), if_pos ha, M_isThought, bd_s, if_neg hb]
  · refine st_f0 h ?_ (fun v1 e1 => ?_)
    · unfold F_X5_seatFor
      rw [C_isChild hC, bd_s, e, if_neg ha]
    · unfold F_X6_seatFor
      rw [M_isChild (by rw [e1 1 (by decide)]; exact hM), bd_s, e1 1 (by decide), if_neg ha]
/-! kindFor -/
theorem st_kindFor {v : VV} (h : Rel v) (a b : Int32) : StP (F_X5_kindFor a b) (F_X6_kindFor a b) v := by
  obtain ⟨hC, hM, hs, hp⟩ := h.1
  have e := sim_nk hs
  have h8 := (nk_eq hM).2
  by_cases ha : inR a (nkS (v 1)) = true
  · by_cases hb : inR b 61 = true
    · obtain ⟨k, hk, rfl⟩ := inR_t ha (by omega)
      obtain ⟨N, hN, rfl⟩ := inR_t hb (by decide)
      have hk8 : k < 8 := by omega
      have hI : ∀ t, t < 7 → ∀ c, InvB c → InvB (upd c (ki k 0) (nI t)) := fun t ht c hc => updK hc hk8 (by decide) (show t ≤ 6 by omega)
      have hc : ∃ v1, L_X5_kindFor_31 fu (nI k) (nI N) 0 (-1) 0 v = some ((itr (bstS (fun t => lrnS (daysS N (upd (v 1) (ki k 0) (nI t))))) 0 7 (0, -1)).1, v1) ∧ Rel v1 ∧ v1 1 = v 1 := by
        refine loopR (L := fun f (x : Int32 × Int32 × VV) i => L_X5_kindFor_31 f (nI k) (nI N) x.1 x.2.1 i x.2.2) (N := 7) (fun i x => (x.1, x.2.1) = itr (bstS (fun t => lrnS (daysS N (upd (v 1) (ki k 0) (nI t))))) 0 i (0, -1) ∧ Rel x.2.2 ∧ x.2.2 1 = v 1) (fun z => ∃ v1, z = some ((itr (bstS (fun t => lrnS (daysS N (upd (v 1) (ki k 0) (nI t))))) 0 7 (0, -1)).1, v1) ∧ Rel v1 ∧ v1 1 = v 1) (fun f x hx => ?_) (fun f t x ht hx => Or.inl ?_) 7 fu 0 (0, -1, v) (by omega) (by unfold fu; omega) ⟨rfl, h, rfl⟩
        · refine ⟨x.2.2, ?_, hx.2⟩
          show L_X5_kindFor_31 (f + 1) (nI k) (nI N) x.1 x.2.1 (nI 7) x.2.2 = _
          rw [L_X5_kindFor_31, if_pos (by decide), ← hx.1]
        · obtain ⟨x1, x2, x3⟩ := x
          obtain ⟨g1, g2, g3⟩ := hx
          dsimp only at g1 g2 g3
          obtain ⟨va, vb, c1, c2, c3, c4, c5⟩ := C_whatS g2 (fun va => wr_k 58 va hk8 (by decide : 0 < 6) (nI t)) (hI t ht) (fun c m q => sim_updK q (by decide) _) (N := N) (by omega)
          have e1 : vb 1 = v 1 := by rw [c5 1 (by omega)]; exact g3
          have el := sim_lrn c3
          rw [g3] at el
          refine ⟨((itr (bstS (fun t => lrnS (daysS N (upd (v 1) (ki k 0) (nI t))))) 0 (t + 1) (0, -1)).1, (itr (bstS (fun t => lrnS (daysS N (upd (v 1) (ki k 0) (nI t))))) 0 (t + 1) (0, -1)).2, vb), ?_, rfl, g2.d c5 c4, e1⟩
          show L_X5_kindFor_31 (f + 1) (nI k) (nI N) x1 x2 (nI t) x3 = L_X5_kindFor_31 f (nI k) (nI N) _ _ (nI (t + 1)) vb
          rw [L_X5_kindFor_31, if_neg (by rw [show (6 : Int32) = nI 6 from rfl]; exact nI_nlt (by omega) (by omega)), c1, bd_s, gu_nI hk8 (by decide), cl_nI (n := k) (by omega), c2, bd_s, C_lrn c4, bd_s, el, nI_1, itr_snoc, Nat.zero_add, ← g1]
          unfold bstS
          dsimp only
          by_cases q : lrnS (daysS N (upd (v 1) (ki k 0) (nI t))) ≤ x2
          · rw [if_pos q, if_pos q]
          · rw [if_neg q, if_neg q]
      obtain ⟨v1, c1, c2, c3⟩ := hc
      have hm : ∃ w, L_X6_kindFor_45 fu (nI k) (nI N) (nI (ki k 0)) (v 1 (ki k 0)) 0 (-1) 0 v1 = some ((itr (bstS (fun t => lrnS (daysS N (upd (v 1) (ki k 0) (nI t))))) 0 7 (0, -1)).1, w) ∧ Rel w := by
        refine loopR (L := fun f (x : Int32 × Int32 × VV) i => L_X6_kindFor_45 f (nI k) (nI N) (nI (ki k 0)) (v 1 (ki k 0)) x.1 x.2.1 i x.2.2) (N := 7) (fun i x => (x.1, x.2.1) = itr (bstS (fun t => lrnS (daysS N (upd (v 1) (ki k 0) (nI t))))) 0 i (0, -1) ∧ Mw v1 (ki k 0) x.2.2) (fun z => ∃ w, z = some ((itr (bstS (fun t => lrnS (daysS N (upd (v 1) (ki k 0) (nI t))))) 0 7 (0, -1)).1, w) ∧ Rel w) (fun f x hx => ?_) (fun f t x ht hx => Or.inl ?_) 7 fu 0 (0, -1, v1) (by omega) (by unfold fu; omega) ⟨rfl, Mw_rf _ _⟩
        · refine ⟨pu x.2.2 1 (ki k 0) (v1 1 (ki k 0)), ?_, Mw_rel hx.2 c2⟩
          show L_X6_kindFor_45 (f + 1) (nI k) (nI N) (nI (ki k 0)) (v 1 (ki k 0)) x.1 x.2.1 (nI 7) x.2.2 = _
          rw [L_X6_kindFor_45, if_pos (by decide), gu_nI (ki_lt hk8 (by decide)) (by decide), cl_nI (Nat.lt_trans (ki_lt (i := k) (f := 0) hk8 (by decide)) (by decide)), ← hx.1, c3]
        · obtain ⟨x1, x2, x3⟩ := x
          obtain ⟨g1, g2⟩ := hx
          dsimp only at g1 g2
          obtain ⟨w', d1, d2⟩ := M_lrnW g2 (x := nI t) (by rw [c3]; exact hI t ht _ hM) (N := N) (by omega)
          rw [c3] at d1
          refine ⟨((itr (bstS (fun t => lrnS (daysS N (upd (v 1) (ki k 0) (nI t))))) 0 (t + 1) (0, -1)).1, (itr (bstS (fun t => lrnS (daysS N (upd (v 1) (ki k 0) (nI t))))) 0 (t + 1) (0, -1)).2, w'), ?_, rfl, d2⟩
          show L_X6_kindFor_45 (f + 1) (nI k) (nI N) (nI (ki k 0)) (v 1 (ki k 0)) x1 x2 (nI t) x3 = L_X6_kindFor_45 f (nI k) (nI N) (nI (ki k 0)) (v 1 (ki k 0)) _ _ (nI (t + 1)) w'
          rw [L_X6_kindFor_45, if_neg (by rw [show (6 : Int32) = nI 6 from rfl]; exact nI_nlt (by omega) (by omega)), gu_nI (ki_lt hk8 (by decide)) (by decide), cl_nI (Nat.lt_trans (ki_lt (i := k) (f := 0) hk8 (by decide)) (by decide)), d1, bd_s]
          dsimp only
          rw [nI_1, itr_snoc, Nat.zero_add, ← g1]
          unfold bstS
          dsimp only
          by_cases q : lrnS (daysS N (upd (v 1) (ki k 0) (nI t))) ≤ x2
          · rw [if_pos q, if_pos q]
          · rw [if_neg q, if_neg q]
      obtain ⟨w, m1, m2⟩ := hm
      refine ⟨_, v1, w, Eq.trans ?_ c1, Eq.trans ?_ m1, m2⟩
      · unfold F_X5_kindFor
        rw [C_isKeeper hC, bd_s, e, if_pos ha, upTo (b := 60) 60 rfl (by decide), bd_s, if_pos hb]
      · unfold F_X6_kindFor
        rw [M_isKeeper (by rw [c3]; exact hM), bd_s, c3, if_pos ha, M_isThought, bd_s, if_pos hb, kAt0, bd_s, gu_nI (ki_lt hk8 (by decide)) (by decide), cl_nI (Nat.lt_trans (ki_lt (i := k) (f := 0) hk8 (by decide)) (by decide))]
    · refine st_f0 h ?_ (fun v1 e1 => ?_)
      · unfold F_X5_kindFor
        rw [C_isKeeper hC, bd_s, e, if_pos ha, upTo (b := 60) 60 rfl (by decide), bd_s, if_neg hb]
      · unfold F_X6_kindFor
        rw [M_isKeeper (by rw [e1 1 (by decide)]; exact hM), bd_s, e1 1 (by decide), if_pos ha, M_isThought, bd_s, if_neg hb]
  · refine st_f0 h ?_ (fun v1 e1 => ?_)
    · unfold F_X5_kindFor
      rw [C_isKeeper hC, bd_s, e, if_neg ha]
    · unfold F_X6_kindFor
      rw [M_isKeeper (by rw [e1 1 (by decide)]; exact hM), bd_s, e1 1 (by decide), if_neg ha]
