/-! PURE PART 19: quickFor, fogFor -/
theorem great_or (P : Nat → Bool) : ∀ (N : Nat), (∃ r, r < N ∧ P r = true ∧ ∀ d, r < d → d < N → ¬ P d = true) ∨ (∀ d, d < N → ¬ P d = true)
  | 0 => Or.inr (fun d h => by omega)
  | N + 1 => by
    by_cases h : P N = true
    · exact Or.inl ⟨N, by omega, h, fun d h1 h2 => by omega⟩
    · rcases great_or P N with ⟨r, a, b, c⟩ | q
      · refine Or.inl ⟨r, by omega, b, fun d h1 h2 => ?_⟩
        by_cases e : d = N
        · rw [e]; exact h
        · exact c d h1 (by omega)
      · refine Or.inr (fun d hd => ?_)
        by_cases e : d = N
        · rw [e]; exact h
        · exact q d (by omega)
theorem nine : (9 : Int32) = nI 10 + (-1) := by decide
def quP (m : RW) (j N : Nat) (n : Int32) (t : Nat) : Bool := decide (¬ (daysS N (upd m (ci j 1) (nI t)) (ci j 2) &&& (1 <<< (n &&& 31))) = 0)
theorem C_quStep {v x : VV} (hx : Rel x) (ex : x 1 = v 1) {j N t : Nat} (hj : j < ncS (v 1)) (hN : N ≤ 60) (ht : t < 10) (n : Int32) (f : Nat) : ∃ vb, Rel vb ∧ vb 1 = v 1 ∧ L_X5_quickFor_35 (f + 1) (nI j) n (nI N) (nI t) x = if quP (v 1) j N n t = true then some (nI t, vb) else L_X5_quickFor_35 f (nI j) n (nI N) (nI (t + 1)) vb := by
  obtain ⟨va, vb, c1, c2, c3, c4, c5⟩ := C_whatC hx (j := j) (by rw [ex]; exact hj) (f := 1) (by decide) (t := t) (show t ≤ 9 by omega) (N := N) (by omega)
  refine ⟨vb, hx.d c5 c4, by rw [c5 1 (by omega)]; exact ex, ?_⟩
  have el := lone_all c3 n
  rw [ex] at el
  rw [L_X5_quickFor_35, if_neg (by rw [show (9 : Int32) = nI 9 from rfl]; exact nI_nlt (by omega) (by omega)), c1, bd_s, c2, bd_s, C_have c4, bd_s, el, nI_1]
  rfl
theorem M_quStep {v1 w : VV} {j N t : Nat} (hM : InvB (v1 1)) (hj : j < 6) (hN : N ≤ 60) (ht : t < 10) (n x5 x6 : Int32) (hw : Mw v1 (ci j 1) w) (f : Nat) : ∃ w', Mw v1 (ci j 1) w' ∧ L_X6_quickFor_52 (f + 1) (nI j) n (nI N) (nI (ci j 1)) x5 x6 (nI t) w = L_X6_quickFor_52 f (nI j) n (nI N) (nI (ci j 1)) x5 (if quP (v1 1) j N n t = true then nI t else x6) (nI t + (-1)) w' := by
  obtain ⟨w', d1, d2⟩ := M_behW hw (x := nI t) (updC hM hj (by decide) (show t ≤ 9 by omega)) (z := ci j 2) (ci_lt hj (by decide)) (N := N) (by omega)
  refine ⟨w', d2, ?_⟩
  rw [L_X6_quickFor_52, if_neg (nI_pos (by omega)), gu_nI (ci_lt hj (by decide)) (by decide), cl_nI (Nat.lt_trans (ci_lt (i := j) (f := 1) hj (by decide)) (by decide)), cAt2, bd_s, d1, bd_s]
  dsimp only
  unfold quP
  by_cases q : (daysS N (upd (v1 1) (ci j 1) (nI t)) (ci j 2) &&& (1 <<< (n &&& 31))) = 0
  · rw [if_neg (fun z => (B1 _ _).mp z q), if_neg (by rw [decide_eq_false (fun z => z q)]; decide)]
  · rw [if_pos ((B1 _ _).mpr q), if_pos (decide_eq_true q)]
theorem st_quickFor {v : VV} (h : Rel v) (a n b : Int32) : StP (F_X5_quickFor a n b) (F_X6_quickFor a n b) v := by
  obtain ⟨hC, hM, hs, hp⟩ := h.1
  have e := sim_nc hs
  have h6 := (nc_eq hM).2
  by_cases ha : inR a (ncS (v 1)) = true
  · by_cases hn : inR n 12 = true
    · by_cases hb : inR b 61 = true
      · obtain ⟨j, hj, rfl⟩ := inR_t ha (by omega)
        obtain ⟨N, hN, rfl⟩ := inR_t hb (by decide)
        have hj6 : j < 6 := by omega
        have hA : F_X5_quickFor (nI j) n (nI N) v = L_X5_quickFor_35 fu (nI j) n (nI N) (nI 0) v := by
          unfold F_X5_quickFor
          rw [C_isChild hC, bd_s, e, if_pos ha, upTo (b := 11) 11 rfl (by decide), bd_s, if_pos hn, upTo (b := 60) 60 rfl (by decide), bd_s, if_pos hb]
          rfl
        have hB : ∀ v1 : VV, v1 1 = v 1 → F_X6_quickFor (nI j) n (nI N) v1 = L_X6_quickFor_52 fu (nI j) n (nI N) (nI (ci j 1)) (v1 1 (ci j 1)) (-1) (nI 10 + (-1)) v1 := fun v1 e1 => by
          unfold F_X6_quickFor
          rw [M_isChild (by rw [e1]; exact hM), bd_s, e1, if_pos ha, M_isNote, bd_s, if_pos hn, M_isThought, bd_s, if_pos hb, cAt1, bd_s, gu_nI (ci_lt hj6 (by decide)) (by decide), cl_nI (Nat.lt_trans (ci_lt (i := j) (f := 1) hj6 (by decide)) (by decide)), ← nine]
        rcases least_or (quP (v 1) j N n) 10 with ⟨r, r1, r2, r3⟩ | q
        · have hc : ∃ v1, L_X5_quickFor_35 fu (nI j) n (nI N) (nI 0) v = some (nI r, v1) ∧ Rel v1 ∧ v1 1 = v 1 := by
            refine loopR (L := fun f (x : VV) i => L_X5_quickFor_35 f (nI j) n (nI N) i x) (N := r) (fun i x => Rel x ∧ x 1 = v 1) (fun z => ∃ v1, z = some (nI r, v1) ∧ Rel v1 ∧ v1 1 = v 1) (fun f x hx => ?_) (fun f t x ht hx => Or.inl ?_) r fu 0 v (by omega) (by unfold fu; omega) ⟨h, rfl⟩
            · obtain ⟨vb, b1, b2, b3⟩ := C_quStep hx.1 hx.2 hj (N := N) (t := r) (by omega) r1 n f
              exact ⟨vb, by rw [b3, if_pos r2], b1, b2⟩
            · obtain ⟨vb, b1, b2, b3⟩ := C_quStep hx.1 hx.2 hj (N := N) (t := t) (by omega) (by omega) n f
              exact ⟨vb, by rw [b3, if_neg (r3 t ht)], b1, b2⟩
          obtain ⟨v1, c1, c2, c3⟩ := hc
          have hm : ∃ w, L_X6_quickFor_52 fu (nI j) n (nI N) (nI (ci j 1)) (v1 1 (ci j 1)) (-1) (nI 10 + (-1)) v1 = some (nI r, w) ∧ Rel w := by
            refine loopD (L := fun f (x : Int32 × VV) i => L_X6_quickFor_52 f (nI j) n (nI N) (nI (ci j 1)) (v1 1 (ci j 1)) x.1 i x.2) (fun k x => k ≤ 10 ∧ Mw v1 (ci j 1) x.2 ∧ (k ≤ r → x.1 = nI r)) (fun z => ∃ w, z = some (nI r, w) ∧ Rel w) (fun f x hx => ?_) (fun f k x hx => Or.inl ?_) 10 fu (-1, v1) (by unfold fu; omega) ⟨by omega, Mw_rf _ _, fun z => by omega⟩
            · refine ⟨pu x.2 1 (ci j 1) (v1 1 (ci j 1)), ?_, Mw_rel hx.2.1 c2⟩
              show L_X6_quickFor_52 (f + 1) (nI j) n (nI N) (nI (ci j 1)) (v1 1 (ci j 1)) x.1 (-1) x.2 = _
              rw [L_X6_quickFor_52, if_pos (by decide), gu_nI (ci_lt hj6 (by decide)) (by decide), cl_nI (Nat.lt_trans (ci_lt (i := j) (f := 1) hj6 (by decide)) (by decide)), hx.2.2 (by omega), orN1 (by omega), bd_s]
            · obtain ⟨w', b1, b2⟩ := M_quStep (N := N) (t := k) (by rw [c3]; exact hM) hj6 (by omega) (by omega) n (v1 1 (ci j 1)) x.1 hx.2.1 f
              refine ⟨((if quP (v1 1) j N n k = true then nI k else x.1), w'), b2, by omega, b1, fun hk => ?_⟩
              dsimp only
              rw [c3]
              by_cases ek : k = r
              · rw [ek, if_pos r2]
              · rw [if_neg (r3 k (by omega))]
                exact hx.2.2 (by omega)
          obtain ⟨w, m1, m2⟩ := hm
          exact ⟨nI r, v1, w, hA.trans c1, (hB v1 c3).trans m1, m2⟩
        · have hc : ∃ vd, L_X5_quickFor_35 fu (nI j) n (nI N) (nI 0) v = Option.bind (F_X5_finding 3 vd) (fun (r, w) => some (r, w)) ∧ Rel vd ∧ vd 1 = v 1 := by
            refine loopR (L := fun f (x : VV) i => L_X5_quickFor_35 f (nI j) n (nI N) i x) (N := 10) (fun i x => Rel x ∧ x 1 = v 1) (fun z => ∃ vd, z = Option.bind (F_X5_finding 3 vd) (fun (r, w) => some (r, w)) ∧ Rel vd ∧ vd 1 = v 1) (fun f x hx => ?_) (fun f t x ht hx => Or.inl ?_) 10 fu 0 v (by omega) (by unfold fu; omega) ⟨h, rfl⟩
            · refine ⟨x, ?_, hx⟩
              show L_X5_quickFor_35 (f + 1) (nI j) n (nI N) (nI 10) x = _
              rw [L_X5_quickFor_35, if_pos (by decide)]
            · obtain ⟨vb, b1, b2, b3⟩ := C_quStep hx.1 hx.2 hj (N := N) (t := t) (by omega) (by omega) n f
              exact ⟨vb, by rw [b3, if_neg (q t ht)], b1, b2⟩
          obtain ⟨vd, c1, c2, c3⟩ := hc
          refine st_fw (vd := vd) c2 (f := 3) (by decide) (K := 3) (L := -1000004) rfl (by decide) (hA.trans c1) (fun v1 ew => ?_)
          have e1 : v1 1 = v 1 := by rw [ew 1 (by decide)]; exact c3
          rw [hB v1 e1]
          refine loopD (L := fun f (x : Int32 × VV) i => L_X6_quickFor_52 f (nI j) n (nI N) (nI (ci j 1)) (v1 1 (ci j 1)) x.1 i x.2) (fun k x => k ≤ 10 ∧ Mw v1 (ci j 1) x.2 ∧ x.1 = -1) (fun z => ∃ w', (∀ i, i ≠ 3 → i ≠ 6 → i ≠ 10 → i ≠ 0 → w' i = v1 i) ∧ w' 0 3 = v1 0 3 ∧ w' 0 6 = v1 0 6 ∧ z = Option.bind (F_X6_finding (-1000004) w') (fun (r, w) => some (r, w))) (fun f x hx => ?_) (fun f k x hx => Or.inl ?_) 10 fu (-1, v1) (by unfold fu; omega) ⟨by omega, Mw_rf _ _, rfl⟩
          · have me := Mw_end hx.2.1
            refine ⟨pu x.2 1 (ci j 1) (v1 1 (ci j 1)), fun i h3 _ _ _ => me i h3, by rw [me 0 (by decide)], by rw [me 0 (by decide)], ?_⟩
            show L_X6_quickFor_52 (f + 1) (nI j) n (nI N) (nI (ci j 1)) (v1 1 (ci j 1)) x.1 (-1) x.2 = _
            rw [L_X6_quickFor_52, if_pos (by decide), gu_nI (ci_lt hj6 (by decide)) (by decide), cl_nI (Nat.lt_trans (ci_lt (i := j) (f := 1) hj6 (by decide)) (by decide)), hx.2.2, orN2, bd_pair, bd_pair]
          · obtain ⟨w', b1, b2⟩ := M_quStep (N := N) (t := k) (by rw [e1]; exact hM) hj6 (by omega) (by omega) n (v1 1 (ci j 1)) x.1 hx.2.1 f
            refine ⟨((if quP (v1 1) j N n k = true then nI k else x.1), w'), b2, by omega, b1, ?_⟩
            dsimp only
            rw [e1, if_neg (q k (by omega))]
            exact hx.2.2
      · refine st_f0 h ?_ (fun v1 e1 => ?_)
        · unfold F_X5_quickFor
          rw [C_isChild hC, bd_s, e, if_pos ha, upTo (b := 11) 11 rfl (by decide), bd_s, if_pos hn, upTo (b := 60) 60 rfl (by decide), bd_s, if_neg hb]
        · unfold F_X6_quickFor
          rw [M_isChild (by rw [e1 1 (by decide)]; exact hM), bd_s, e1 1 (by decide), if_pos ha, M_isNote, bd_s, if_pos hn, M_isThought, bd_s, if_neg hb]
    · refine st_f0 h ?_ (fun v1 e1 => ?_)
      · unfold F_X5_quickFor
        rw [C_isChild hC, bd_s, e, if_pos ha, upTo (b := 11) 11 rfl (by decide), bd_s, if_neg hn]
      · unfold F_X6_quickFor
        rw [M_isChild (by rw [e1 1 (by decide)]; exact hM), bd_s, e1 1 (by decide), if_pos ha, M_isNote, bd_s, if_neg hn]
  · refine st_f0 h ?_ (fun v1 e1 => ?_)
    · unfold F_X5_quickFor
      rw [C_isChild hC, bd_s, e, if_neg ha]
    · unfold F_X6_quickFor
      rw [M_isChild (by rw [e1 1 (by decide)]; exact hM), bd_s, e1 1 (by decide), if_neg ha]
/-! fogFor -/
def fgP (m : RW) (p N : Nat) (x : Int32) (t : Nat) : Bool := decide (¬ lrnS (daysS N (upd m (4 + p) (nI t))) < x)
theorem C_fgStep {v x : VV} (hx : Rel x) (ex : x 1 = v 1) {p N t : Nat} (hp : p < 6) (hN : N ≤ 60) (ht : t < 10) (n : Int32) (f : Nat) : ∃ vb, Rel vb ∧ vb 1 = v 1 ∧ L_X5_fogFor_36 (f + 1) (nI p) n (nI N) (nI t) x = if fgP (v 1) p N n t = true then some (nI t, vb) else L_X5_fogFor_36 f (nI p) n (nI N) (nI t + (-1)) vb := by
  obtain ⟨va, vb, c1, c2, c3, c4, c5⟩ := C_whatS hx (fun va => wr_l 58 va hp (nI t)) (fun c hc => updL hc hp (by omega)) (fun c m q => sim_updY q (by omega) (by omega) (by omega) _) (N := N) (by omega)
  refine ⟨vb, hx.d c5 c4, by rw [c5 1 (by omega)]; exact ex, ?_⟩
  have el := sim_lrn c3
  rw [ex] at el
  rw [L_X5_fogFor_36, if_neg (nI_pos (by omega)), c1, bd_s, gu_nI hp (by decide), cl_nI (n := p) (by omega), c2, bd_s, C_lrn c4, bd_s, el]
  unfold fgP
  by_cases q : lrnS (daysS N (upd (v 1) (4 + p) (nI t))) < n
  · rw [if_pos q, if_neg (by rw [decide_eq_false (fun z => z q)]; decide)]
  · rw [if_neg q, if_pos (decide_eq_true q)]
theorem M_fgStep {v1 w : VV} {p N t : Nat} (hM : InvB (v1 1)) (hp : p < 6) (hN : N ≤ 60) (ht : t < 10) (n x4 x5 : Int32) (hw : Mw v1 (4 + p) w) (f : Nat) : ∃ w', Mw v1 (4 + p) w' ∧ L_X6_fogFor_47 (f + 1) (nI p) n (nI N) x4 x5 (nI t) w = L_X6_fogFor_47 f (nI p) n (nI N) x4 (if fgP (v1 1) p N n t = true then nI t else x5) (nI (t + 1)) w' := by
  obtain ⟨w', d1, d2⟩ := M_lrnW hw (x := nI t) (updL hM hp (by omega)) (N := N) (by omega)
  refine ⟨w', d2, ?_⟩
  rw [L_X6_fogFor_47, if_neg (by rw [show (9 : Int32) = nI 9 from rfl]; exact nI_nlt (by omega) (by omega)), four_nI, gu_nI (by omega) (by decide), cl_nI (n := 4 + p) (by omega), d1, bd_s, nI_1]
  dsimp only
  unfold fgP
  by_cases q : lrnS (daysS N (upd (v1 1) (4 + p) (nI t))) < n
  · rw [if_pos q, if_neg (by rw [decide_eq_false (fun z => z q)]; decide)]
  · rw [if_neg q, if_pos (decide_eq_true q)]
theorem st_fogFor {v : VV} (h : Rel v) (a n b : Int32) : StP (F_X5_fogFor a n b) (F_X6_fogFor a n b) v := by
  obtain ⟨hC, hM, hs, hp⟩ := h.1
  by_cases ha : inR a 6 = true
  · by_cases hn : inR n 73 = true
    · by_cases hb : inR b 61 = true
      · obtain ⟨p, hp6, rfl⟩ := inR_t ha (by omega)
        obtain ⟨N, hN, rfl⟩ := inR_t hb (by decide)
        have hA : F_X5_fogFor (nI p) n (nI N) v = L_X5_fogFor_36 fu (nI p) n (nI N) (nI 10 + (-1)) v := by
          unfold F_X5_fogFor
          rw [upTo (b := 5) 5 rfl (by decide), bd_s, if_pos ha, upTo (b := 72) 72 rfl (by decide), bd_s, if_pos hn, upTo (b := 60) 60 rfl (by decide), bd_s, if_pos hb, ← nine]
        have hB : ∀ v1 : VV, F_X6_fogFor (nI p) n (nI N) v1 = L_X6_fogFor_47 fu (nI p) n (nI N) (v1 1 (4 + p)) (-1) (nI 0) v1 := fun v1 => by
          unfold F_X6_fogFor
          rw [M_isPlace, bd_s, if_pos ha, wit (b := 72) 72 rfl (by decide), bd_s, if_pos hn, M_isThought, bd_s, if_pos hb, four_nI, gu_nI (by omega) (by decide), cl_nI (n := 4 + p) (by omega)]
          rfl
        rcases great_or (fgP (v 1) p N n) 10 with ⟨r, r1, r2, r3⟩ | q
        · have hc : ∃ v1, L_X5_fogFor_36 fu (nI p) n (nI N) (nI 10 + (-1)) v = some (nI r, v1) ∧ Rel v1 ∧ v1 1 = v 1 := by
            refine loopD (L := fun f (x : VV) i => L_X5_fogFor_36 f (nI p) n (nI N) i x) (fun k x => k ≤ 10 ∧ r < k ∧ Rel x ∧ x 1 = v 1) (fun z => ∃ v1, z = some (nI r, v1) ∧ Rel v1 ∧ v1 1 = v 1) (fun f x hx => by omega) (fun f k x hx => ?_) 10 fu v (by unfold fu; omega) ⟨by omega, r1, h, rfl⟩
            obtain ⟨vb, b1, b2, b3⟩ := C_fgStep hx.2.2.1 hx.2.2.2 hp6 (N := N) (t := k) (by omega) (by omega) n f
            by_cases ek : k = r
            · subst ek
              exact Or.inr ⟨vb, by rw [b3, if_pos r2], b1, b2⟩
            · exact Or.inl ⟨vb, by rw [b3, if_neg (r3 k (by omega) (by omega))], by omega, by omega, b1, b2⟩
          obtain ⟨v1, c1, c2, c3⟩ := hc
          have hm : ∃ w, L_X6_fogFor_47 fu (nI p) n (nI N) (v1 1 (4 + p)) (-1) (nI 0) v1 = some (nI r, w) ∧ Rel w := by
            refine loopR (L := fun f (x : Int32 × VV) i => L_X6_fogFor_47 f (nI p) n (nI N) (v1 1 (4 + p)) x.1 i x.2) (N := 10) (fun k x => Mw v1 (4 + p) x.2 ∧ (r < k → x.1 = nI r)) (fun z => ∃ w, z = some (nI r, w) ∧ Rel w) (fun f x hx => ?_) (fun f k x hk hx => Or.inl ?_) 10 fu 0 (-1, v1) (by omega) (by unfold fu; omega) ⟨Mw_rf _ _, fun z => by omega⟩
            · refine ⟨pu x.2 1 (4 + p) (v1 1 (4 + p)), ?_, Mw_rel hx.1 c2⟩
              show L_X6_fogFor_47 (f + 1) (nI p) n (nI N) (v1 1 (4 + p)) x.1 (nI 10) x.2 = _
              rw [L_X6_fogFor_47, if_pos (by decide), four_nI, gu_nI (by omega) (by decide), cl_nI (n := 4 + p) (by omega), hx.2 (by omega), orN1 (by omega), bd_s]
            · obtain ⟨w', b1, b2⟩ := M_fgStep (N := N) (t := k) (by rw [c3]; exact hM) hp6 (by omega) (by omega) n (v1 1 (4 + p)) x.1 hx.1 f
              refine ⟨((if fgP (v1 1) p N n k = true then nI k else x.1), w'), b2, b1, fun hrk => ?_⟩
              dsimp only
              rw [c3]
              by_cases ek : k = r
              · rw [ek, if_pos r2]
              · rw [if_neg (r3 k (by omega) (by omega))]
                exact hx.2 (by omega)
          obtain ⟨w, m1, m2⟩ := hm
          exact ⟨nI r, v1, w, hA.trans c1, (hB v1).trans m1, m2⟩
        · have hc : ∃ vd, L_X5_fogFor_36 fu (nI p) n (nI N) (nI 10 + (-1)) v = Option.bind (F_X5_finding 3 vd) (fun (r, w) => some (r, w)) ∧ Rel vd ∧ vd 1 = v 1 := by
            refine loopD (L := fun f (x : VV) i => L_X5_fogFor_36 f (nI p) n (nI N) i x) (fun k x => k ≤ 10 ∧ Rel x ∧ x 1 = v 1) (fun z => ∃ vd, z = Option.bind (F_X5_finding 3 vd) (fun (r, w) => some (r, w)) ∧ Rel vd ∧ vd 1 = v 1) (fun f x hx => ?_) (fun f k x hx => Or.inl ?_) 10 fu v (by unfold fu; omega) ⟨by omega, h, rfl⟩
            · refine ⟨x, ?_, hx.2⟩
              show L_X5_fogFor_36 (f + 1) (nI p) n (nI N) (-1) x = _
              rw [L_X5_fogFor_36, if_pos (by decide)]
            · obtain ⟨vb, b1, b2, b3⟩ := C_fgStep hx.2.1 hx.2.2 hp6 (N := N) (t := k) (by omega) (by omega) n f
              exact ⟨vb, by rw [b3, if_neg (q k (by omega))], by omega, b1, b2⟩
          obtain ⟨vd, c1, c2, c3⟩ := hc
          refine st_fw (vd := vd) c2 (f := 3) (by decide) (K := 3) (L := -1000004) rfl (by decide) (hA.trans c1) (fun v1 ew => ?_)
          have e1 : v1 1 = v 1 := by rw [ew 1 (by decide)]; exact c3
          rw [hB v1]
          refine loopR (L := fun f (x : Int32 × VV) i => L_X6_fogFor_47 f (nI p) n (nI N) (v1 1 (4 + p)) x.1 i x.2) (N := 10) (fun k x => Mw v1 (4 + p) x.2 ∧ x.1 = -1) (fun z => ∃ w', (∀ i, i ≠ 3 → i ≠ 6 → i ≠ 10 → i ≠ 0 → w' i = v1 i) ∧ w' 0 3 = v1 0 3 ∧ w' 0 6 = v1 0 6 ∧ z = Option.bind (F_X6_finding (-1000004) w') (fun (r, w) => some (r, w))) (fun f x hx => ?_) (fun f k x hk hx => Or.inl ?_) 10 fu 0 (-1, v1) (by omega) (by unfold fu; omega) ⟨Mw_rf _ _, rfl⟩
          · have me := Mw_end hx.1
            refine ⟨pu x.2 1 (4 + p) (v1 1 (4 + p)), fun i h3 _ _ _ => me i h3, by rw [me 0 (by decide)], by rw [me 0 (by decide)], ?_⟩
            show L_X6_fogFor_47 (f + 1) (nI p) n (nI N) (v1 1 (4 + p)) x.1 (nI 10) x.2 = _
            rw [L_X6_fogFor_47, if_pos (by decide), four_nI, gu_nI (by omega) (by decide), cl_nI (n := 4 + p) (by omega), hx.2, orN2, bd_pair, bd_pair]
          · obtain ⟨w', b1, b2⟩ := M_fgStep (N := N) (t := k) (by rw [e1]; exact hM) hp6 (by omega) (by omega) n (v1 1 (4 + p)) x.1 hx.1 f
            refine ⟨((if fgP (v1 1) p N n k = true then nI k else x.1), w'), b2, b1, ?_⟩
            dsimp only
            rw [e1, if_neg (q k (by omega))]
            exact hx.2
      · refine st_f0 h ?_ (fun v1 e1 => ?_)
        · unfold F_X5_fogFor
          rw [upTo (b := 5) 5 rfl (by decide), bd_s, if_pos ha, upTo (b := 72) 72 rfl (by decide), bd_s, if_pos hn, upTo (b := 60) 60 rfl (by decide), bd_s, if_neg hb]
        · unfold F_X6_fogFor
          rw [M_isPlace, bd_s, if_pos ha, wit (b := 72) 72 rfl (by decide), bd_s, if_pos hn, M_isThought, bd_s, if_neg hb]
    · refine st_f0 h ?_ (fun v1 e1 => ?_)
      · unfold F_X5_fogFor
        rw [upTo (b := 5) 5 rfl (by decide), bd_s, if_pos ha, upTo (b := 72) 72 rfl (by decide), bd_s, if_neg hn]
      · unfold F_X6_fogFor
        rw [M_isPlace, bd_s, if_pos ha, wit (b := 72) 72 rfl (by decide), bd_s, if_neg hn]
  · refine st_f0 h ?_ (fun v1 e1 => ?_)
    · unfold F_X5_fogFor
      rw [upTo (b := 5) 5 rfl (by decide), bd_s, if_neg ha]
    · unfold F_X6_fogFor
      rw [M_isPlace, bd_s, if_neg ha]
