/-! PURE PART 20: fits, kinds -/
def toS (sh : RW) (n : Nat) (c : RW) (y : Nat) : Bool := decide (∀ i, i < n → sh i = -1 ∨ sh i = daysS i c y)
theorem C_asTold {v : VV} {s n y q : Nat} (hs : s < 4) (hn : n ≤ 40) (hI : InvB (rowOf 58 v)) (h2 : v (15 + s) 2 = nI n) (hq : ∀ x : VV, x q 2 = rowOf 58 x y) (hl : gI 2 (ln q) = true) : ∃ v1, F_X5_isDraftAsTold (15 + s) q 2 v = some (toS (v (19 + s)) n (rowOf 58 v) y, v1) ∧ InvB (rowOf 58 v1) ∧ Out 58 v v1 := by
  unfold F_X5_isDraftAsTold
  refine loopR (L := fun f (x : VV) i => L_X5_isDraftAsTold_3 f (15 + s) q 2 i x) (N := n) (fun i x => rowOf 58 x = daysS i (rowOf 58 v) ∧ Out 58 v x ∧ ∀ j, j < i → v (19 + s) j = -1 ∨ v (19 + s) j = daysS j (rowOf 58 v) y) (fun z => ∃ v1, z = some (toS (v (19 + s)) n (rowOf 58 v) y, v1) ∧ InvB (rowOf 58 v1) ∧ Out 58 v v1) (fun f x hx => ?_) (fun f i x hi hx => ?_) n fu 0 v (by omega) (by unfold fu; omega) ⟨rfl, Out.rf, fun j hj => by omega⟩
  · refine ⟨x, ?_, by rw [hx.1]; exact daysS_B n hI, hx.2.1⟩
    show L_X5_isDraftAsTold_3 (f + 1) (15 + s) q 2 (nI n) x = _
    rw [L_X5_isDraftAsTold_3, hx.2.1 (15 + s) (by omega), h2, if_pos (nI_le (Nat.le_refl _) (by omega))]
    unfold toS
    rw [decide_eq_true (fun i hi => hx.2.2 i hi)]
  · have hIx : InvB (rowOf 58 x) := by rw [hx.1]; exact daysS_B i hI
    have e19 : x (15 + s + 4) = v (19 + s) := by rw [sh19]; exact hx.2.1 (19 + s) (by omega)
    obtain ⟨w, c1, c2, c3⟩ := C_day hIx
    have eC : L_X5_isDraftAsTold_3 (f + 1) (15 + s) q 2 (nI i) x = if v (19 + s) i = -1 ∨ v (19 + s) i = daysS i (rowOf 58 v) y then L_X5_isDraftAsTold_3 f (15 + s) q 2 (nI (i + 1)) w else some (false, x) := by
      rw [L_X5_isDraftAsTold_3, hx.2.1 (15 + s) (by omega), h2, if_neg (nI_ge hi (by omega)), gu_nI (by omega) (by decide), gu_nI (by omega) (by decide), cl_nI (n := i) (by omega), e19, hl, gu_t, c1, bd_s, nI_1, show (2 : Int32).toNatClampNeg = 2 from rfl, hq x, hx.1]
      by_cases q1 : v (19 + s) i = -1
      · rw [if_pos q1, if_pos (Or.inl q1)]
      · rw [if_neg q1]
        by_cases q2 : v (19 + s) i = daysS i (rowOf 58 v) y
        · rw [if_pos q2, if_pos (Or.inr q2)]
        · rw [if_neg q2, if_neg (fun z => z.elim q1 q2)]
    rw [eC]
    by_cases qq : v (19 + s) i = -1 ∨ v (19 + s) i = daysS i (rowOf 58 v) y
    · refine Or.inl ⟨w, by rw [if_pos qq], by rw [c2, hx.1, daysS_s], hx.2.1.trans c3, fun j hj => ?_⟩
      by_cases ej : j = i
      · rw [ej]; exact qq
      · exact hx.2.2 j (by omega)
    · refine Or.inr ⟨x, ?_, hIx, hx.2.1⟩
      rw [if_neg qq]
      unfold toS
      rw [decide_eq_false (fun z => qq (z i hi))]
theorem M_copy31 {v : VV} {m' : RW} (hb : ∀ y, 92 ≤ y → m' y = v 1 y) : F_X6_copyRow 3 1 (thk v m') = some (thk v (v 1)) := by
  rw [M_copy (by decide) rfl rfl, thk_3, thk_1, thk_up]
  congr 2
  funext y
  unfold cp92
  by_cases h : y < 92
  · rw [if_pos h, if_pos h]
  · rw [if_neg h]; exact hb y (by omega)
theorem M_isSo {v : VV} {s n y : Nat} {sh : RW} (hs : s < 4) (hn : n ≤ 40) (hy : y < 92) (hI : InvB (v 1)) (h8 : v 8 s = nI n) (h9 : ∀ i, i < 40 → sh i = v 9 (40 * s + i)) : F_X6_isSo (nI s) (nI y) v = some (toS sh n (v 1) y, thk v (v 1)) := by
  unfold F_X6_isSo
  rw [M_begin, bd_s]
  have e8 : ∀ m', thk v m' 8 s = nI n := fun m' => by unfold thk; rw [va_up_ne _ _ (by decide), va_up_ne _ _ (by decide)]; exact h8
  have e9 : ∀ m', thk v m' 9 = v 9 := fun m' => by unfold thk; rw [va_up_ne _ _ (by decide), va_up_ne _ _ (by decide)]
  have bk : ∀ i, F_X6_copyRow 3 1 (thk v (daysS i (v 1))) = some (thk v (v 1)) := fun i => M_copy31 (fun y hy => daysS_big i hI hy)
  have zero : ∀ (f i : Nat), L_X6_isSo_16 (f + 1) (nI s) (nI y) 0 (nI i) (thk v (daysS i (v 1))) = some (false, thk v (v 1)) := fun f i => by
    rw [L_X6_isSo_16, gu_nI hs (by decide), if_pos (show (0 : Int32) = 0 from rfl), bk i, bd_s, gB0, gu_t]
    split <;> rfl
  have nofalse : (∃ j, j < n ∧ ¬ (sh j = -1 ∨ sh j = daysS j (v 1) y)) → toS sh n (v 1) y = false := fun ⟨j, hj, q⟩ => decide_eq_false (fun z => q (z j hj))
  refine loopR (L := fun f (x : Int32 × VV) i => L_X6_isSo_16 f (nI s) (nI y) x.1 i x.2) (N := n) (fun i x => x.2 = thk v (daysS i (v 1)) ∧ ((x.1 = 1 ∧ ∀ j, j < i → sh j = -1 ∨ sh j = daysS j (v 1) y) ∨ (x.1 = 0 ∧ toS sh n (v 1) y = false))) (fun z => z = some (toS sh n (v 1) y, thk v (v 1))) (fun f x hx => ?_) (fun f i x hi hx => ?_) n fu 0 (1, thk v (v 1)) (by omega) (by unfold fu; omega) ⟨rfl, Or.inl ⟨rfl, fun j hj => by omega⟩⟩
  · show L_X6_isSo_16 (f + 1) (nI s) (nI y) x.1 (nI n) x.2 = _
    rw [hx.1]
    rcases hx.2 with ⟨g1, g2⟩ | ⟨g1, g2⟩
    · rw [g1, L_X6_isSo_16, gu_nI hs (by decide), cl_nI (n := s) (by omega), e8, if_pos (nI_le (Nat.le_refl _) (by omega)), bk n, bd_s, gB1, gu_t]
      unfold toS
      rw [decide_eq_true (fun i hi => g2 i hi)]
      rfl
    · rw [g1, zero, g2]
  · rcases hx.2 with ⟨g1, g2⟩ | ⟨g1, g2⟩
    · refine Or.inl ⟨((if sh i = -1 ∨ sh i = daysS i (v 1) y then 1 else 0), thk v (daysS (i + 1) (v 1))), ?_, rfl, ?_⟩
      · show L_X6_isSo_16 (f + 1) (nI s) (nI y) x.1 (nI i) x.2 = L_X6_isSo_16 f (nI s) (nI y) _ (nI (i + 1)) _
        rw [g1, hx.1, L_X6_isSo_16, gu_nI hs (by decide), cl_nI (n := s) (by omega), e8, if_neg (nI_ge hi (by omega)), if_neg (show ¬ (1 : Int32) = 0 by decide), fty, gu_nI (by omega) (by decide), cl_nI (n := 40 * s + i) (by omega), e9, ← h9 i (by omega), gu_nI hy (by decide), cl_nI (n := y) (by omega), M_day (by rw [thk_1]; exact daysS_B i hI), bd_s, bd_s, thk_1, thk_up, nI_1, ← daysS_s]
        by_cases q1 : sh i = -1
        · rw [if_pos q1, if_pos (Or.inl q1)]
        · rw [if_neg q1]
          by_cases q2 : sh i = daysS i (v 1) y
          · rw [if_pos q2, if_pos (Or.inr q2)]
          · rw [if_neg q2, if_neg (fun z => z.elim q1 q2)]
      · by_cases qq : sh i = -1 ∨ sh i = daysS i (v 1) y
        · refine Or.inl ⟨if_pos qq, fun j hj => ?_⟩
          by_cases ej : j = i
          · rw [ej]; exact qq
          · exact g2 j (by omega)
        · exact Or.inr ⟨if_neg qq, nofalse ⟨i, hi, qq⟩⟩
    · refine Or.inr ?_
      show L_X6_isSo_16 (f + 1) (nI s) (nI y) x.1 (nI i) x.2 = _
      rw [g1, hx.1, zero, g2]
/-! what fits: as a set, as a number -/
def fitS (P : Nat → Bool) (M : Nat) : Int32 := itr (fun t x => if P t = true then x ||| (1 <<< (nI t &&& 31)) else x) 0 M 0
def cntS (P : Nat → Bool) (M : Nat) : Int32 := itr (fun t x => if P t = true then x + 1 else x) 0 M 0
theorem fit_tab : ∀ b0 b1 b2 b3 b4 b5 b6 b7 b8 b9 : Bool, L_X6_bits_4 20 0 0 (fitS (fun t => [b0, b1, b2, b3, b4, b5, b6, b7, b8, b9].getD t false) 10) v0 = some (cntS (fun t => [b0, b1, b2, b3, b4, b5, b6, b7, b8, b9].getD t false) 10) := by decide +kernel
theorem fit_bits (P : Nat → Bool) (v : VV) : F_X6_bits (fitS P 10) v = some (cntS P 10) := by
  have e : ∀ t, t < 10 → [P 0, P 1, P 2, P 3, P 4, P 5, P 6, P 7, P 8, P 9].getD t false = P t := by
    intro t ht
    have hc : t = 0 ∨ t = 1 ∨ t = 2 ∨ t = 3 ∨ t = 4 ∨ t = 5 ∨ t = 6 ∨ t = 7 ∨ t = 8 ∨ t = 9 := by omega
    rcases hc with rfl | rfl | rfl | rfl | rfl | rfl | rfl | rfl | rfl | rfl <;> rfl
  have h := fit_tab (P 0) (P 1) (P 2) (P 3) (P 4) (P 5) (P 6) (P 7) (P 8) (P 9)
  have h1 : fitS (fun t => [P 0, P 1, P 2, P 3, P 4, P 5, P 6, P 7, P 8, P 9].getD t false) 10 = fitS P 10 := itr_cg _ _ _ (fun t _ ht x => by show (if List.getD _ t false = true then _ else _) = _; rw [e t (by omega)])
  have h2 : cntS (fun t => [P 0, P 1, P 2, P 3, P 4, P 5, P 6, P 7, P 8, P 9].getD t false) 10 = cntS P 10 := itr_cg _ _ _ (fun t _ ht x => by show (if List.getD _ t false = true then _ else _) = _; rw [e t (by omega)])
  rw [h1, h2] at h
  unfold F_X6_bits
  rw [bits_v]
  exact bits_more 20 _ _ _ h 980
theorem M_fitting {v1 : VV} {s n y z M : Nat} {sh : RW} (hs : s < 4) (hn : n ≤ 40) (hy : y < 92) (hz : z < 92) (hM : M ≤ 10) (hR : Rel v1) (hI : ∀ t, t < M → InvB (upd (v1 1) z (nI t))) (h8 : v1 8 s = nI n) (h9 : ∀ i, i < 40 → sh i = v1 9 (40 * s + i)) : ∃ w, F_X6_fitting (nI s) (nI y) (nI z) (nI M) v1 = some (fitS (fun t => toS sh n (upd (v1 1) z (nI t)) y) M, w) ∧ Rel w := by
  unfold F_X6_fitting
  rw [gu_nI hz (by decide), cl_nI (n := z) (by omega)]
  refine loopR (L := fun f (x : Int32 × VV) i => L_X6_fitting_14 f (nI s) (nI y) (nI z) (nI M) (v1 1 z) x.1 i x.2) (N := M) (fun t x => x.1 = fitS (fun t => toS sh n (upd (v1 1) z (nI t)) y) t ∧ Mw v1 z x.2) (fun u => ∃ w, u = some (fitS (fun t => toS sh n (upd (v1 1) z (nI t)) y) M, w) ∧ Rel w) (fun f x hx => ?_) (fun f t x ht hx => Or.inl ?_) M fu 0 (0, v1) (by omega) (by unfold fu; omega) ⟨rfl, Mw_rf _ _⟩
  · refine ⟨pu x.2 1 z (v1 1 z), ?_, Mw_rel hx.2 hR⟩
    show L_X6_fitting_14 (f + 1) (nI s) (nI y) (nI z) (nI M) (v1 1 z) x.1 (nI M) x.2 = _
    rw [L_X6_fitting_14, if_pos (nI_le (Nat.le_refl _) (by omega)), gu_nI hz (by decide), cl_nI (n := z) (by omega), hx.1]
  · have e1 := Mw_1 hx.2 (nI t)
    have hp := Mw_pu hx.2 (nI t)
    have so := M_isSo (v := pu x.2 1 z (nI t)) (sh := sh) hs hn hy (by rw [e1]; exact hI t ht) (by rw [hp.2 8 (by decide) (by decide)]; exact h8) (fun i hi => by rw [hp.2 9 (by decide) (by decide)]; exact h9 i hi)
    refine ⟨(fitS (fun t => toS sh n (upd (v1 1) z (nI t)) y) (t + 1), thk (pu x.2 1 z (nI t)) (pu x.2 1 z (nI t) 1)), ?_, rfl, Mw_thk hp⟩
    show L_X6_fitting_14 (f + 1) (nI s) (nI y) (nI z) (nI M) (v1 1 z) x.1 (nI t) x.2 = L_X6_fitting_14 f (nI s) (nI y) (nI z) (nI M) (v1 1 z) (fitS (fun t => toS sh n (upd (v1 1) z (nI t)) y) (t + 1)) (nI (t + 1)) _
    rw [L_X6_fitting_14, if_neg (nI_ge ht (by omega)), gu_nI hz (by decide), cl_nI (n := z) (by omega), so, bd_s]
    dsimp only
    rw [e1, hx.1, nI_1, Int32.or_zero]
    unfold fitS
    rw [itr_snoc, Nat.zero_add]
    by_cases q : toS sh n (upd (v1 1) z (nI t)) y = true
    · rw [if_pos q, if_pos q]
    · rw [if_neg q, if_neg q]
theorem M_lk_no {a : Int32} (ha : ¬ inR a 4 = true) (x : Int32) (w : VV) : F_X6_lacks a x w = some (-1000001) := by
  unfold F_X6_lacks
  rw [M_isSheet, bd_s, if_neg ha]
theorem M_lk_mi {s : Nat} (hs : s < 4) {w : VV} (h0 : w 7 s = 0) (x : Int32) : F_X6_lacks (nI s) x w = some (-1000006) := by
  unfold F_X6_lacks
  rw [M_isSheet, bd_s, if_pos (inR_nI hs (by decide)), gu_nI hs (by decide), cl_nI (by omega), if_pos h0]
theorem M_lk_ok {s : Nat} (hs : s < 4) {w : VV} (h0 : ¬ w 7 s = 0) (x : Int32) : F_X6_lacks (nI s) x w = some (if x = 0 then -1000001 else 0) := by
  unfold F_X6_lacks
  rw [M_isSheet, bd_s, if_pos (inR_nI hs (by decide)), gu_nI hs (by decide), cl_nI (by omega), if_neg h0]
  split <;> rfl
theorem toS_cg {sh : RW} {n y y' : Nat} {c m : RW} (h : ∀ d, daysS d c y = daysS d m y') : toS sh n c y = toS sh n m y' := by
  unfold toS
  congr 1
  refine propext ⟨fun q i hi => ?_, fun q i hi => ?_⟩
  · rw [← h i]; exact q i hi
  · rw [h i]; exact q i hi
theorem kLone_updk {c m : RW} {k : Nat} (h : kLone c m k) {f : Nat} (hf : f < 6) (x : Int32) : kLone (upd c (ki 0 f) x) (upd m (ki k f) x) k := by
  obtain ⟨h1, h2, h3, h4, h5⟩ := h
  refine ⟨by rw [upd_ne _ _ (by simp only [ki]; omega)]; exact h1, by rw [upd_ne _ _ (by simp only [ki]; omega), upd_ne _ _ (by simp only [ki]; omega)]; exact h2, fun y a b => by rw [upd_ne _ _ (by simp only [ki]; omega), upd_ne _ _ (by simp only [ki]; omega)]; exact h3 y a b, by simp only [nkS]; rw [upd_ne _ _ (by simp only [ki]; omega)]; exact h4, fun g hg => ?_⟩
  by_cases e : g = f
  · rw [e, upd_self, upd_self]
  · rw [upd_ne _ _ (by simp only [ki]; omega), upd_ne _ _ (by simp only [ki]; omega)]; exact h5 g hg
theorem st_fits {v : VV} (h : Rel v) (a b : Int32) : StP (F_X5_fits a b) (F_X6_fits a b) v := by
  obtain ⟨hC, hM, hsm, hp⟩ := h.1
  have e := sim_nc hsm
  have h6 := (nc_eq hM).2
  have h8k := (nk_eq hM).2
  by_cases ha : inR a 4 = true
  · obtain ⟨s, hs, rfl⟩ := inR_t ha (by decide)
    by_cases h0 : v 7 s = 0
    · obtain ⟨v1, v2, a1, b1, c1, d1, -⟩ := fos_mi h hs h0
      refine ⟨-1000006, v1, v2, ?_, ?_, c1⟩
      · unfold F_X5_fits
        rw [a1, bd_s]
        rfl
      · unfold F_X6_fits
        obtain ⟨x, hx⟩ : ∃ x, F_X6_isChild b v1 = some x := by
          unfold F_X6_isChild F_X6_within
          (repeat' split) <;> exact ⟨_, rfl⟩
        rw [hx, bd_s, M_lk_mi hs (by rw [d1]; exact h0), bd_s, if_neg (by decide), b1]
        rfl
    · obtain ⟨k1, -⟩ := fos_ok h hs h0
      obtain ⟨q1, q2, ⟨n, hn, q3, q4⟩, q5⟩ := h.2.2.2.2.2 s hs
      by_cases hb : inR b (ncS (v 1)) = true
      · obtain ⟨j, hj, rfl⟩ := inR_t hb (by omega)
        have hj6 : j < 6 := by omega
        have hc : ∃ v1, L_X5_fits_32 fu (nI s) (nI j) 0 0 0 v = some (cntS (fun t => toS (v (19 + s)) n (upd (v 1) (ci j 1) (nI t)) (ci j 2)) 10, v1) ∧ Rel v1 ∧ Out 58 v v1 := by
          refine loopR (L := fun f (x : Int32 × VV) i => L_X5_fits_32 f (nI s) (nI j) 0 x.1 i x.2) (N := 10) (fun t x => x.1 = cntS (fun t => toS (v (19 + s)) n (upd (v 1) (ci j 1) (nI t)) (ci j 2)) t ∧ Rel x.2 ∧ Out 58 v x.2) (fun u => ∃ v1, u = some (cntS (fun t => toS (v (19 + s)) n (upd (v 1) (ci j 1) (nI t)) (ci j 2)) 10, v1) ∧ Rel v1 ∧ Out 58 v v1) (fun f x hx => ?_) (fun f t x ht hx => Or.inl ?_) 10 fu 0 (0, v) (by omega) (by unfold fu; omega) ⟨rfl, h, Out.rf⟩
          · refine ⟨x.2, ?_, hx.2⟩
            show L_X5_fits_32 (f + 1) (nI s) (nI j) 0 x.1 (nI 10) x.2 = _
            rw [L_X5_fits_32, if_pos (by decide), hx.1]
          · have ex : x.2 1 = v 1 := hx.2.2 1 (by omega)
            obtain ⟨va, a1, a2, a3, a4⟩ := C_draftC hx.2.1 (j := j) (by rw [ex]; exact hj)
            have w := wr_c 58 va (i := 0) (by decide) (by decide : 1 < 4) (nI t)
            have hI2 : InvB (rowOf 58 (pu va (((58 + 4) + 17 + 0) + 6) 1 (nI t))) := by rw [w.1]; exact updC a3 (by decide) (by decide) (show t ≤ 9 by omega)
            have o2 : Out 58 v (pu va (((58 + 4) + 17 + 0) + 6) 1 (nI t)) := (hx.2.2.trans a4).trans w.2
            have lo : lone (rowOf 58 (pu va (((58 + 4) + 17 + 0) + 6) 1 (nI t))) (upd (v 1) (ci j 1) (nI t)) j := by
              rw [w.1, ← ex]
              exact lone_updc a2 (by rw [ex]; exact h8k) (by decide) _
            obtain ⟨vb, b1, b2, b3⟩ := C_asTold (y := ci 0 2) (q := ((58 + 4) + 17 + 0) + 6) hs hn hI2 (by rw [o2 (15 + s) (by omega)]; exact q3) (fun x => rd_c 58 x (i := 0) (by decide) (by decide)) (by decide)
            rw [o2 (19 + s) (by omega), toS_cg (m := upd (v 1) (ci j 1) (nI t)) (y' := ci j 2) (fun d => (lone_days d lo (updC hM hj6 (by decide) (show t ≤ 9 by omega))).2.2.2.2 2 (by decide))] at b1
            refine ⟨(cntS (fun t => toS (v (19 + s)) n (upd (v 1) (ci j 1) (nI t)) (ci j 2)) (t + 1), vb), ?_, rfl, h.d (o2.trans b3) b2, o2.trans b3⟩
            show L_X5_fits_32 (f + 1) (nI s) (nI j) 0 x.1 (nI t) x.2 = L_X5_fits_32 f (nI s) (nI j) 0 (cntS _ (t + 1)) (nI (t + 1)) vb
            rw [L_X5_fits_32, if_neg (by rw [show (9 : Int32) = nI 9 from rfl]; exact nI_nlt (by omega) (by omega)), a1, bd_s, gu_nI hs (by decide), cl_nI (n := s) (by omega), sh15, b1, bd_s]
            dsimp only
            rw [nI_1, hx.1]
            unfold cntS
            rw [itr_snoc, Nat.zero_add]
            by_cases q : toS (v (19 + s)) n (upd (v 1) (ci j 1) (nI t)) (ci j 2) = true
            · rw [if_pos q, if_pos q]
            · rw [if_neg q, if_neg q]
        obtain ⟨v1, c1, c2, c3⟩ := hc
        have e1 : v1 1 = v 1 := c3 1 (by omega)
        obtain ⟨w, m1, m2⟩ := M_fitting (v1 := v1) (sh := v (19 + s)) (M := 10) (y := ci j 2) (z := ci j 1) hs hn (ci_lt hj6 (by decide)) (ci_lt hj6 (by decide)) (by omega) c2 (fun t ht => by rw [e1]; exact updC hM hj6 (by decide) (show t ≤ 9 by omega)) (by rw [c3 8 (by omega)]; exact q4) (fun i hi => by rw [c3 9 (by omega)]; exact q5 i hi)
        rw [e1] at m1
        refine ⟨_, v1, w, Eq.trans ?_ c1, ?_, m2⟩
        · unfold F_X5_fits
          rw [k1, bd_s]
          dsimp only
          rw [if_pos rfl, C_isChild hC, bd_s, e, if_pos hb]
        · unfold F_X6_fits
          rw [M_isChild (by rw [e1]; exact hM), bd_s, e1, hb, M_lk_ok hs (by rw [c3 7 (by omega)]; exact h0), bd_s, if_pos (by decide), cAt2, bd_s, cAt1, bd_s, show (10 : Int32) = nI 10 from rfl, m1, bd_s]
          dsimp only
          rw [fit_bits, bd_s]
      · refine st_f0 h ?_ (fun v1 e1 => ?_)
        · unfold F_X5_fits
          rw [k1, bd_s]
          dsimp only
          rw [if_pos rfl, C_isChild hC, bd_s, e, if_neg hb]
        · unfold F_X6_fits
          rw [M_isChild (by rw [e1 1 (by decide)]; exact hM), bd_s, e1 1 (by decide), ft hb, M_lk_ok hs (by rw [e1 7 (by omega)]; exact h0), bd_s, if_pos (show bI false = 0 from rfl), if_neg (by decide)]
  · obtain ⟨v1, v2, a1, b1, c1, d1⟩ := fos_no h ha
    refine ⟨-1000001, v1, v2, ?_, ?_, c1⟩
    · unfold F_X5_fits
      rw [a1, bd_s]
      rfl
    · unfold F_X6_fits
      obtain ⟨x, hx⟩ : ∃ x, F_X6_isChild b v1 = some x := by
        unfold F_X6_isChild F_X6_within
        (repeat' split) <;> exact ⟨_, rfl⟩
      rw [hx, bd_s, M_lk_no ha, bd_s, if_neg (by decide), b1]
      rfl
theorem st_kinds {v : VV} (h : Rel v) (a b : Int32) : StP (F_X5_kinds a b) (F_X6_kinds a b) v := by
  obtain ⟨hC, hM, hsm, hp⟩ := h.1
  have e := sim_nk hsm
  have h8k := (nk_eq hM).2
  by_cases ha : inR a 4 = true
  · obtain ⟨s, hs, rfl⟩ := inR_t ha (by decide)
    by_cases h0 : v 7 s = 0
    · obtain ⟨v1, v2, a1, b1, c1, d1, -⟩ := fos_mi h hs h0
      refine ⟨-1000006, v1, v2, ?_, ?_, c1⟩
      · unfold F_X5_kinds
        rw [a1, bd_s]
        rfl
      · unfold F_X6_kinds
        obtain ⟨x, hx⟩ : ∃ x, F_X6_isKeeper b v1 = some x := by
          unfold F_X6_isKeeper F_X6_within
          (repeat' split) <;> exact ⟨_, rfl⟩
        rw [hx, bd_s, M_lk_mi hs (by rw [d1]; exact h0), bd_s, if_neg (by decide), b1]
        rfl
    · obtain ⟨k1, -⟩ := fos_ok h hs h0
      obtain ⟨q1, q2, ⟨n, hn, q3, q4⟩, q5⟩ := h.2.2.2.2.2 s hs
      by_cases hb : inR b (nkS (v 1)) = true
      · obtain ⟨j, hj, rfl⟩ := inR_t hb (by omega)
        have hj8 : j < 8 := by omega
        have hc : ∃ v1, L_X5_kinds_32 fu (nI s) (nI j) 0 0 0 v = some (fitS (fun t => toS (v (19 + s)) n (upd (v 1) (ki j 0) (nI t)) (ki j 2)) 7, v1) ∧ Rel v1 ∧ Out 58 v v1 := by
          refine loopR (L := fun f (x : Int32 × VV) i => L_X5_kinds_32 f (nI s) (nI j) 0 x.1 i x.2) (N := 7) (fun t x => x.1 = fitS (fun t => toS (v (19 + s)) n (upd (v 1) (ki j 0) (nI t)) (ki j 2)) t ∧ Rel x.2 ∧ Out 58 v x.2) (fun u => ∃ v1, u = some (fitS (fun t => toS (v (19 + s)) n (upd (v 1) (ki j 0) (nI t)) (ki j 2)) 7, v1) ∧ Rel v1 ∧ Out 58 v v1) (fun f x hx => ?_) (fun f t x ht hx => Or.inl ?_) 7 fu 0 (0, v) (by omega) (by unfold fu; omega) ⟨rfl, h, Out.rf⟩
          · refine ⟨x.2, ?_, hx.2⟩
            show L_X5_kinds_32 (f + 1) (nI s) (nI j) 0 x.1 (nI 7) x.2 = _
            rw [L_X5_kinds_32, if_pos (by decide), hx.1]
          · have ex : x.2 1 = v 1 := hx.2.2 1 (by omega)
            obtain ⟨va, a1, a2, a3, a4⟩ := C_draftK hx.2.1 (j := j) (by rw [ex]; exact hj)
            have w := wr_k 58 va (i := 0) (by decide) (by decide : 0 < 6) (nI t)
            have hI2 : InvB (rowOf 58 (pu va (((58 + 3) + 2 + 0) + 8) 0 (nI t))) := by rw [w.1]; exact updK a3 (by decide) (by decide) (show t ≤ 6 by omega)
            have o2 : Out 58 v (pu va (((58 + 3) + 2 + 0) + 8) 0 (nI t)) := (hx.2.2.trans a4).trans w.2
            have lo : kLone (rowOf 58 (pu va (((58 + 3) + 2 + 0) + 8) 0 (nI t))) (upd (v 1) (ki j 0) (nI t)) j := by
              rw [w.1, ← ex]
              exact kLone_updk a2 (by decide) _
            obtain ⟨vb, b1, b2, b3⟩ := C_asTold (y := ki 0 2) (q := ((58 + 3) + 2 + 0) + 8) hs hn hI2 (by rw [o2 (15 + s) (by omega)]; exact q3) (fun x => rd_k 58 x (i := 0) (by decide) (by decide)) (by decide)
            rw [o2 (19 + s) (by omega), toS_cg (m := upd (v 1) (ki j 0) (nI t)) (y' := ki j 2) (fun d => (kLone_days d lo (updK hM hj8 (by decide) (show t ≤ 6 by omega))).2.2.2.2 2 (by decide))] at b1
            refine ⟨(fitS (fun t => toS (v (19 + s)) n (upd (v 1) (ki j 0) (nI t)) (ki j 2)) (t + 1), vb), ?_, rfl, h.d (o2.trans b3) b2, o2.trans b3⟩
            show L_X5_kinds_32 (f + 1) (nI s) (nI j) 0 x.1 (nI t) x.2 = L_X5_kinds_32 f (nI s) (nI j) 0 (fitS _ (t + 1)) (nI (t + 1)) vb
            rw [L_X5_kinds_32, if_neg (by rw [show (6 : Int32) = nI 6 from rfl]; exact nI_nlt (by omega) (by omega)), a1, bd_s, gu_nI hs (by decide), cl_nI (n := s) (by omega), sh15, b1, bd_s]
            dsimp only
            rw [nI_1, hx.1]
            unfold fitS
            rw [itr_snoc, Nat.zero_add]
            by_cases q : toS (v (19 + s)) n (upd (v 1) (ki j 0) (nI t)) (ki j 2) = true
            · rw [if_pos q, if_pos q]
            · rw [if_neg q, if_neg q]
        obtain ⟨v1, c1, c2, c3⟩ := hc
        have e1 : v1 1 = v 1 := c3 1 (by omega)
        obtain ⟨w, m1, m2⟩ := M_fitting (v1 := v1) (sh := v (19 + s)) (M := 7) (y := ki j 2) (z := ki j 0) hs hn (ki_lt hj8 (by decide)) (ki_lt hj8 (by decide)) (by omega) c2 (fun t ht => by rw [e1]; exact updK hM hj8 (by decide) (show t ≤ 6 by omega)) (by rw [c3 8 (by omega)]; exact q4) (fun i hi => by rw [c3 9 (by omega)]; exact q5 i hi)
        rw [e1] at m1
        refine ⟨_, v1, w, Eq.trans ?_ c1, ?_, m2⟩
        · unfold F_X5_kinds
          rw [k1, bd_s]
          dsimp only
          rw [if_pos rfl, C_isKeeper hC, bd_s, e, if_pos hb]
        · unfold F_X6_kinds
          rw [M_isKeeper (by rw [e1]; exact hM), bd_s, e1, hb, M_lk_ok hs (by rw [c3 7 (by omega)]; exact h0), bd_s, if_pos (by decide), kAt2, bd_s, kAt0, bd_s, show (7 : Int32) = nI 7 from rfl, m1, bd_s]
      · refine st_f0 h ?_ (fun v1 e1 => ?_)
        · unfold F_X5_kinds
          rw [k1, bd_s]
          dsimp only
          rw [if_pos rfl, C_isKeeper hC, bd_s, e, if_neg hb]
        · unfold F_X6_kinds
          rw [M_isKeeper (by rw [e1 1 (by decide)]; exact hM), bd_s, e1 1 (by decide), ft hb, M_lk_ok hs (by rw [e1 7 (by omega)]; exact h0), bd_s, if_pos (show bI false = 0 from rfl), if_neg (by decide)]
  · obtain ⟨v1, v2, a1, b1, c1, d1⟩ := fos_no h ha
    refine ⟨-1000001, v1, v2, ?_, ?_, c1⟩
    · unfold F_X5_kinds
      rw [a1, bd_s]
      rfl
    · unfold F_X6_kinds
      obtain ⟨x, hx⟩ : ∃ x, F_X6_isKeeper b v1 = some x := by
        unfold F_X6_isKeeper F_X6_within
        (repeat' split) <;> exact ⟨_, rfl⟩
      rw [hx, bd_s, M_lk_no ha, bd_s, if_neg (by decide), b1]
      rfl
