/-! PURE PART 10: more steps -/
theorem cp_at {f g : RW} {y : Nat} (h : y < 92) : cp92 f g y = f y := if_pos h
theorem cp_nk (f g : RW) : nkS (cp92 f g) = nkS f := by show (cp92 f g 1).toNatClampNeg = _; rw [cp_at (by decide)]
theorem cp_nc (f g : RW) : ncS (cp92 f g) = ncS f := by show (cp92 f g 3).toNatClampNeg = _; rw [cp_at (by decide)]
theorem cp_B {f : RW} (h : InvB f) (g : RW) : InvB (cp92 f g) := by
  obtain ⟨h0, h1, h3, h4, h5, h6⟩ := h
  refine ⟨?_, ?_, ?_, fun j hj => ?_, fun i hi f' hf' => ?_, fun i hi f' hf' => ?_⟩
  · rw [cp_at (by decide)]; exact h0
  · rw [cp_at (by decide)]; exact h1
  · rw [cp_at (by decide)]; exact h3
  · rw [cp_at (by omega)]; exact h4 j hj
  · rw [cp_at (ki_lt hi hf')]; exact h5 i hi f' hf'
  · rw [cp_at (ci_lt hi hf')]; exact h6 i hi f' hf'
theorem cp_Sp {f : RW} (h : SpOK f) (g : RW) : SpOK (cp92 f g) := by
  intro j hj
  rw [cp_at (by omega), cp_nk]
  exact h j hj
theorem sim_cp {c f : RW} (h : sim c f) (hI : InvB f) (g : RW) : sim c (cp92 f g) := by
  have h8 := (nk_eq hI).2
  have h6 := (nc_eq hI).2
  refine ⟨fun y hy => by rw [cp_at (by omega)]; exact h.1 y hy, fun i hi f' hf' => ?_, fun i hi f' hf' => ?_⟩
  · rw [cp_nk] at hi
    rw [cp_at (ki_lt (by omega) hf')]; exact h.2.1 i hi f' hf'
  · rw [cp_nc] at hi
    rw [cp_at (ci_lt (by omega) hf')]; exact h.2.2 i hi f' hf'
theorem sim_tr {a b c : RW} (h1 : sim a b) (h2 : sim b c) : sim a c := by
  have e1 := sim_nk h2
  have e3 := sim_nc h2
  exact ⟨fun y hy => (h1.1 y hy).trans (h2.1 y hy), fun i hi f hf => (h1.2.1 i (by omega) f hf).trans (h2.2.1 i hi f hf), fun i hi f hf => (h1.2.2 i (by omega) f hf).trans (h2.2.2 i hi f hf)⟩
theorem tK_st : ∀ f, f < 6 → stA 0 f = nI (tK f) ∧ tK f < 100 := by decide +kernel
theorem tC_st : ∀ f, f < 4 → stA 4 f = nI (tC f) ∧ tC f < 5000 := by decide +kernel
theorem M_isField {w : Nat} (hw : w < 6) (x : Int32) (v : VV) : F_X6_isField (nI w) x v = some (inR x (tK w + 1)) := by
  have hc : w = 0 ∨ w = 1 ∨ w = 2 ∨ w = 3 ∨ w = 4 ∨ w = 5 := by omega
  unfold F_X6_isField
  rcases hc with rfl | rfl | rfl | rfl | rfl | rfl
  · rw [if_pos (show nI 0 = 0 from rfl), M_isKind]; rfl
  · rw [if_neg (by decide), if_pos (show nI 1 = 1 from rfl), M_isCell]; rfl
  · rw [if_neg (by decide), if_neg (by decide), if_pos (show nI 2 = 2 from rfl), M_isNote]; rfl
  · rw [if_neg (by decide), if_neg (by decide), if_neg (by decide), if_pos (show nI 3 = 3 from rfl), wit (b := 15) 15 rfl (by decide)]; rfl
  · rw [if_neg (by decide), if_neg (by decide), if_neg (by decide), if_neg (by decide), if_pos (show nI 4 = 4 from rfl), wit (b := 99) 99 rfl (by decide)]; rfl
  · rw [if_neg (by decide), if_neg (by decide), if_neg (by decide), if_neg (by decide), if_neg (by decide), if_pos (show nI 5 = 5 from rfl), wit (b := 1) 1 rfl (by decide)]; rfl
theorem inR_f {a : Int32} {n : Nat} (h : ¬ inR a n = true) {k : Nat} (hk : k < n) (hn : n < 2 ^ 31) : ¬ a = nI k := fun e => h (by rw [e]; exact inR_nI hk hn)
theorem M_isField_no {a : Int32} (h : ¬ inR a 6 = true) (x : Int32) (v : VV) : F_X6_isField a x v = some false := by
  unfold F_X6_isField
  rw [if_neg (show ¬ a = 0 from inR_f h (k := 0) (by decide) (by decide)), if_neg (show ¬ a = 1 from inR_f h (k := 1) (by decide) (by decide)), if_neg (show ¬ a = 2 from inR_f h (k := 2) (by decide) (by decide)), if_neg (show ¬ a = 3 from inR_f h (k := 3) (by decide) (by decide)), if_neg (show ¬ a = 4 from inR_f h (k := 4) (by decide) (by decide)), if_neg (show ¬ a = 5 from inR_f h (k := 5) (by decide) (by decide))]
theorem st_change {v : VV} (h : Rel v) (a b x : Int32) : StP (F_X5_change a b x) (F_X6_change a b x) v := by
  obtain ⟨hC, hM, hs, hp⟩ := h.1
  have e := sim_nk hs
  have h8 := (nk_eq hM).2
  by_cases ha : inR a (nkS (v 1)) = true
  · by_cases hb : inR b 6 = true
    · obtain ⟨i, hi, rfl⟩ := inR_t ha (by omega)
      obtain ⟨w, hw, rfl⟩ := inR_t hb (by decide)
      obtain ⟨t1, t2⟩ := tK_st w hw
      by_cases hx : inR x (tK w + 1) = true
      · obtain ⟨n, hn, rfl⟩ := inR_t hx (by omega)
        have hi8 : i < 8 := by omega
        have hw' := wr_k 25 v hi8 hw (nI n)
        refine ⟨v 1 (ki i w), pu v (((25 + 3) + 2 + i) + 8) w (nI n), va_up (pu v (((25 + 3) + 2 + i) + 8) w (nI n)) 1 (upd (v 1) (ki i w) (nI n)), ?_, ?_, h.wK hi8 hw (by omega) hw'⟩
        · unfold F_X5_change
          rw [C_isKeeper hC, bd_s, e, if_pos ha, upTo (b := 5) 5 rfl (by decide), bd_s, if_pos hb, gu_nI hw (by decide), cl_nI (by omega), upTo _ t1 (by omega), bd_s, if_pos hx, gu_nI hi8 (by decide), gu_nI hw (by decide), gu_nI hw (by decide), cl_nI (by omega), rd_k 25 v hi8 hw, hs.2.1 i hi w hw]
        · unfold F_X6_change
          have e1 : pu v (((25 + 3) + 2 + i) + 8) w (nI n) 1 = v 1 := pu_ne _ _ _ (by omega)
          rw [M_isKeeper (by rw [e1]; exact hM), bd_s, e1, if_pos ha, M_isField hw, bd_s, if_pos hx, kAt, bd_s, M_become (ki_lt hi8 hw), bd_s, e1]
      · refine st_f0 h ?_ (fun v1 e1 => ?_)
        · unfold F_X5_change
          rw [C_isKeeper hC, bd_s, e, if_pos ha, upTo (b := 5) 5 rfl (by decide), bd_s, if_pos hb, gu_nI hw (by decide), cl_nI (by omega), upTo _ t1 (by omega), bd_s, if_neg hx]
        · unfold F_X6_change
          rw [M_isKeeper (by rw [e1 1 (by decide)]; exact hM), bd_s, e1 1 (by decide), if_pos ha, M_isField hw, bd_s, if_neg hx]
    · refine st_f0 h ?_ (fun v1 e1 => ?_)
      · unfold F_X5_change
        rw [C_isKeeper hC, bd_s, e, if_pos ha, upTo (b := 5) 5 rfl (by decide), bd_s, if_neg hb]
      · unfold F_X6_change
        rw [M_isKeeper (by rw [e1 1 (by decide)]; exact hM), bd_s, e1 1 (by decide), if_pos ha, M_isField_no hb, bd_s, if_neg (by decide)]
  · refine st_f0 h ?_ (fun v1 e1 => ?_)
    · unfold F_X5_change
      rw [C_isKeeper hC, bd_s, e, if_neg ha]
    · unfold F_X6_change
      rw [M_isKeeper (by rw [e1 1 (by decide)]; exact hM), bd_s, e1 1 (by decide), if_neg ha]
theorem st_ofChild {v : VV} (h : Rel v) (a b : Int32) : StP (F_X5_ofChild a b) (F_X6_ofChild a b) v := by
  obtain ⟨hC, hM, hs, hp⟩ := h.1
  have e := sim_nc hs
  have h6 := (nc_eq hM).2
  by_cases ha : inR a (ncS (v 1)) = true
  · by_cases hb : inR b 4 = true
    · obtain ⟨i, hi, rfl⟩ := inR_t ha (by omega)
      obtain ⟨w, hw, rfl⟩ := inR_t hb (by decide)
      have hi6 : i < 6 := by omega
      refine ⟨v 1 (ci i w), v, v, ?_, ?_, h⟩
      · unfold F_X5_ofChild
        rw [C_isChild hC, bd_s, e, if_pos ha, upTo (b := 3) 3 rfl (by decide), bd_s, if_pos hb, gu_nI hi6 (by decide), gu_nI hw (by decide), cl_nI (by omega), cl_nI (by omega), rd_c 25 v hi6 hw, hs.2.2 i hi w hw]
      · unfold F_X6_ofChild
        rw [M_isChild hM, bd_s, if_pos ha, wit (b := 3) 3 rfl (by decide), bd_s, if_pos hb, cIs hi6 hw, bd_s]
    · refine st_f0 h ?_ (fun v1 e1 => ?_)
      · unfold F_X5_ofChild
        rw [C_isChild hC, bd_s, e, if_pos ha, upTo (b := 3) 3 rfl (by decide), bd_s, if_neg hb]
      · unfold F_X6_ofChild
        rw [M_isChild (by rw [e1 1 (by decide)]; exact hM), bd_s, e1 1 (by decide), if_pos ha, wit (b := 3) 3 rfl (by decide), bd_s, if_neg hb]
  · refine st_f0 h ?_ (fun v1 e1 => ?_)
    · unfold F_X5_ofChild
      rw [C_isChild hC, bd_s, e, if_neg ha]
    · unfold F_X6_ofChild
      rw [M_isChild (by rw [e1 1 (by decide)]; exact hM), bd_s, e1 1 (by decide), if_neg ha]
theorem M_isCF {w : Nat} (hw : w < 4) (x : Int32) (v : VV) : F_X6_isChildField (nI w) x v = some (inR x (tC w + 1)) := by
  have hc : w = 0 ∨ w = 1 ∨ w = 2 ∨ w = 3 := by omega
  unfold F_X6_isChildField
  rcases hc with rfl | rfl | rfl | rfl
  · rw [if_pos (show nI 0 = 0 from rfl), M_isCell]; rfl
  · rw [if_neg (by decide), if_pos (show nI 1 = 1 from rfl), wit (b := 9) 9 rfl (by decide)]; rfl
  · rw [if_neg (by decide), if_neg (by decide), if_pos (show nI 2 = 2 from rfl), M_isSet]; rfl
  · rw [if_neg (by decide), if_neg (by decide), if_neg (by decide), if_pos (show nI 3 = 3 from rfl), M_isSet]; rfl
theorem M_isCF_no {a : Int32} (h : ¬ inR a 4 = true) (x : Int32) (v : VV) : F_X6_isChildField a x v = some false := by
  unfold F_X6_isChildField
  rw [if_neg (show ¬ a = 0 from inR_f h (k := 0) (by decide) (by decide)), if_neg (show ¬ a = 1 from inR_f h (k := 1) (by decide) (by decide)), if_neg (show ¬ a = 2 from inR_f h (k := 2) (by decide) (by decide)), if_neg (show ¬ a = 3 from inR_f h (k := 3) (by decide) (by decide))]
theorem st_teach {v : VV} (h : Rel v) (a b x : Int32) : StP (F_X5_teach a b x) (F_X6_teach a b x) v := by
  obtain ⟨hC, hM, hs, hp⟩ := h.1
  have e := sim_nc hs
  have h8 := (nc_eq hM).2
  by_cases ha : inR a (ncS (v 1)) = true
  · by_cases hb : inR b 4 = true
    · obtain ⟨i, hi, rfl⟩ := inR_t ha (by omega)
      obtain ⟨w, hw, rfl⟩ := inR_t hb (by decide)
      obtain ⟨t1, t2⟩ := tC_st w hw
      by_cases hx : inR x (tC w + 1) = true
      · obtain ⟨n, hn, rfl⟩ := inR_t hx (by omega)
        have hi8 : i < 6 := by omega
        have hw' := wr_c 25 v hi8 hw (nI n)
        refine ⟨v 1 (ci i w), pu v (((25 + 4) + 17 + i) + 6) w (nI n), va_up (pu v (((25 + 4) + 17 + i) + 6) w (nI n)) 1 (upd (v 1) (ci i w) (nI n)), ?_, ?_, h.wC hi8 hw (by omega) hw'⟩
        · unfold F_X5_teach
          rw [C_isChild hC, bd_s, e, if_pos ha, upTo (b := 3) 3 rfl (by decide), bd_s, if_pos hb, gu_nI hw (by decide), cl_nI (by omega), upTo _ t1 (by omega), bd_s, if_pos hx, gu_nI hi8 (by decide), gu_nI hw (by decide), gu_nI hw (by decide), cl_nI (by omega), rd_c 25 v hi8 hw, hs.2.2 i hi w hw]
        · unfold F_X6_teach
          have e1 : pu v (((25 + 4) + 17 + i) + 6) w (nI n) 1 = v 1 := pu_ne _ _ _ (by omega)
          rw [M_isChild (by rw [e1]; exact hM), bd_s, e1, if_pos ha, M_isCF hw, bd_s, if_pos hx, cAt, bd_s, M_become (ci_lt hi8 hw), bd_s, e1]
      · refine st_f0 h ?_ (fun v1 e1 => ?_)
        · unfold F_X5_teach
          rw [C_isChild hC, bd_s, e, if_pos ha, upTo (b := 3) 3 rfl (by decide), bd_s, if_pos hb, gu_nI hw (by decide), cl_nI (by omega), upTo _ t1 (by omega), bd_s, if_neg hx]
        · unfold F_X6_teach
          rw [M_isChild (by rw [e1 1 (by decide)]; exact hM), bd_s, e1 1 (by decide), if_pos ha, M_isCF hw, bd_s, if_neg hx]
    · refine st_f0 h ?_ (fun v1 e1 => ?_)
      · unfold F_X5_teach
        rw [C_isChild hC, bd_s, e, if_pos ha, upTo (b := 3) 3 rfl (by decide), bd_s, if_neg hb]
      · unfold F_X6_teach
        rw [M_isChild (by rw [e1 1 (by decide)]; exact hM), bd_s, e1 1 (by decide), if_pos ha, M_isCF_no hb, bd_s, if_neg (by decide)]
  · refine st_f0 h ?_ (fun v1 e1 => ?_)
    · unfold F_X5_teach
      rw [C_isChild hC, bd_s, e, if_neg ha]
    · unfold F_X6_teach
      rw [M_isChild (by rw [e1 1 (by decide)]; exact hM), bd_s, e1 1 (by decide), if_neg ha]
theorem st_seed {v : VV} (h : Rel v) (a : Int32) : StP (F_X5_seed a) (F_X6_seed a) v := by
  obtain ⟨hC, hM, hs, hp⟩ := h.1
  refine ⟨v 1 2, pu v 25 7 a, va_up (pu v 25 7 a) 1 (upd (v 1) 2 a), ?_, ?_, ?_⟩
  · unfold F_X5_seed
    rw [rd_2 25 v, hs.1 2 (by decide)]
  · unfold F_X6_seed
    rw [show (2 : Int32) = nI 2 from rfl, M_become (by decide), bd_s, pu_ne _ _ _ (by decide)]
  · exact h.w (wr_2 25 v a) (fun c hc => updX hc (Or.inl rfl) _) (fun q => sim_updY q (by decide) (by decide) (by decide) _) (fun q => Sp_upd q (by decide) (by decide) _)
theorem st_hold {v : VV} (h : Rel v) (a b : Int32) : StP (F_X5_hold a b) (F_X6_hold a b) v := by
  obtain ⟨hC, hM, hs, hp⟩ := h.1
  have e := sim_nk hs
  have h8 := (nk_eq hM).2
  by_cases ha : inR a 10 = true
  · obtain ⟨i, hi, rfl⟩ := inR_t ha (by decide)
    have hw := wr_s 25 v hi b
    have ten : (10 : Int32) + nI i = nI (10 + i) := by rw [show (10 : Int32) = nI 10 from rfl, nI_add]
    have e1 : pu v (25 + 2) i b 1 = v 1 := pu_ne _ _ _ (by decide)
    by_cases hb : b = -1 ∨ inR b (nkS (v 1)) = true
    · refine ⟨1, pu v (25 + 2) i b, va_up (pu v (25 + 2) i b) 1 (upd (v 1) (10 + i) b), ?_, ?_, ?_⟩
      · unfold F_X5_hold
        rw [upTo (b := 9) 9 rfl (by decide), bd_s, if_pos ha, C_isKeeper hC, bd_s, e]
        by_cases q : inR b (nkS (v 1)) = true
        · rw [if_pos q, gu_nI hi (by decide), cl_nI (by omega)]
        · rw [if_neg q, if_pos (hb.resolve_right q), gu_nI hi (by decide), cl_nI (by omega)]
      · unfold F_X6_hold
        rw [M_isSpot, bd_s, if_pos ha, ten]
        by_cases q : b = -1
        · rw [if_pos q, gu_nI (by omega) (by decide), cl_nI (by omega), pu_up _ 1, e1]
        · rw [if_neg q, M_isKeeper (by rw [e1]; exact hM), bd_s, e1, if_pos (hb.resolve_left q), gu_nI (by omega) (by decide), cl_nI (by omega), pu_up _ 1, e1]
      · refine h.w hw (fun c hc => updX hc (Or.inr ⟨by omega, by omega⟩) _) (fun q => sim_updY q (by omega) (by omega) (by omega) _) (fun q => ?_)
        intro j hj
        rw [show nkS (upd (v 1) (10 + i) b) = nkS (v 1) by simp only [nkS]; rw [upd_ne _ _ (by omega)]]
        by_cases ej : 10 + j = 10 + i
        · rw [ej, upd_self]
          rcases hb with q | q
          · exact Or.inl q
          · obtain ⟨n, hn, en⟩ := inR_t q (by omega)
            exact Or.inr ⟨n, hn, en⟩
        · rw [upd_ne _ _ ej]; exact hp j hj
    · refine st_f0 h ?_ (fun v1 e1 => ?_)
      · unfold F_X5_hold
        rw [upTo (b := 9) 9 rfl (by decide), bd_s, if_pos ha, C_isKeeper hC, bd_s, e, if_neg (fun q => hb (Or.inr q)), if_neg (fun q => hb (Or.inl q))]
      · unfold F_X6_hold
        rw [M_isSpot, bd_s, if_pos ha, if_neg (fun q => hb (Or.inl q)), M_isKeeper (by rw [e1 1 (by decide)]; exact hM), bd_s, e1 1 (by decide), if_neg (fun q => hb (Or.inr q))]
  · refine st_f0 h ?_ (fun v1 e1 => ?_)
    · unfold F_X5_hold
      rw [upTo (b := 9) 9 rfl (by decide), bd_s, if_neg ha]
    · unfold F_X6_hold
      rw [M_isSpot, bd_s, if_neg ha]
/-! images -/
theorem st_image {v : VV} (h : Rel v) : StP F_X5_image F_X6_image v := by
  obtain ⟨⟨hC, hM, hs, hp⟩, hD, ⟨k1, k2, k3, k4⟩, hF, hT, hS⟩ := h
  obtain ⟨w, a1, a2, a3, a4⟩ := C_become (p := 25) (q := 91) (by omega) hC k1
  have e1 : pu w 12 6 1 1 = v 1 := by rw [pu_ne _ _ _ (by decide)]; exact Out1 a4 (by decide)
  refine ⟨1, pu w 12 6 1, pu (va_up (pu w 12 6 1) 2 (cp92 (v 1) (v 2))) 0 3 1, ?_, ?_, ?_⟩
  · unfold F_X5_image
    rw [a1, bd_s]
  · unfold F_X6_image
    rw [M_copy (by decide) rfl rfl, bd_s, e1, pu_ne _ _ _ (show (2 : Nat) ≠ 12 by decide), Out1 a4 (by decide)]
  · have e : ∀ i, (i ≠ 0 ∧ i ≠ 2 ∧ i ≠ 12 ∧ i < 91) → pu (va_up (pu w 12 6 1) 2 (cp92 (v 1) (v 2))) 0 3 1 i = v i := fun i q => by rw [pu_ne _ _ _ q.1, va_up_ne _ _ q.2.1, pu_ne _ _ _ q.2.2.1]; exact Out1 a4 q.2.2.2
    have e0 : ∀ s, s ≠ 3 → pu (va_up (pu w 12 6 1) 2 (cp92 (v 1) (v 2))) 0 3 1 0 s = v 0 s := fun s q => by rw [pu_self, upd_ne _ _ q, va_up_ne _ _ (by decide), pu_ne _ _ _ (by decide)]; rw [Out1 a4 (by decide)]
    have er : rowOf 91 (pu (va_up (pu w 12 6 1) 2 (cp92 (v 1) (v 2))) 0 3 1) = rowOf 91 w := rowOf_same (fun i a b => by rw [pu_ne _ _ _ (by omega), va_up_ne _ _ (by omega), pu_ne _ _ _ (by omega)])
    refine ⟨RelC_cg ⟨hC, hM, hs, hp⟩ (e 1 (by decide)) (fun i a b => e i (by omega)), RelD_cg hD (fun i a b => e i (by omega)), ?_, RelF_cg hF (e 4 (by decide)) (e 13 (by decide)), RelT_cg hT (by rw [e 23 (by decide)]) (e0 6 (by decide)) (e 5 (by decide)) (e 24 (by decide)), RelS_cg hS (e 7 (by decide)) (e 8 (by decide)) (e 9 (by decide)) (fun i a b => e i (by omega))⟩
    have e12 : pu (va_up (pu w 12 6 1) 2 (cp92 (v 1) (v 2))) 0 3 1 12 6 = 1 := by rw [pu_ne _ _ _ (by decide), va_up_ne _ _ (by decide), pu_self, upd_self]
    have e03 : pu (va_up (pu w 12 6 1) 2 (cp92 (v 1) (v 2))) 0 3 1 0 3 = 1 := by rw [pu_self, upd_self]
    have e2 : pu (va_up (pu w 12 6 1) 2 (cp92 (v 1) (v 2))) 0 3 1 2 = cp92 (v 1) (v 2) := by rw [pu_ne _ _ _ (by decide), va_up_self]
    unfold RelK
    rw [er, e12, e03, e2]
    exact ⟨a3, cp_B hM _, rfl, Or.inr ⟨rfl, sim_cp (sim_tr a2 hs) hM _, cp_Sp hp _⟩⟩
theorem st_undo {v : VV} (h : Rel v) : StP F_X5_undo F_X6_undo v := by
  obtain ⟨hC, hM, hs, hp⟩ := h.1
  obtain ⟨k1, k2, k3, k4⟩ := h.2.2.1
  rcases k4 with q | ⟨q, ks, kp⟩
  · refine st_f3 h ?_ (fun v1 e1 => ?_)
    · unfold F_X5_undo
      rw [if_pos q]
    · unfold F_X6_undo
      rw [if_pos (by rw [e1 0 (by decide), ← k3]; exact q)]
  · obtain ⟨w, a1, a2, a3, a4⟩ := C_become (p := 91) (q := 25) (by omega) k1 hC
    have n0 : ¬ (1 : Int32) = 0 := by decide
    refine ⟨v 2 0, w, va_up w 1 (cp92 (v 2) (v 1)), ?_, ?_, ?_⟩
    · unfold F_X5_undo
      rw [if_neg (by rw [q]; exact n0), a1, bd_s, rd_0 25 w, a2.1 0 (by decide), ks.1 0 (by decide)]
    · unfold F_X6_undo
      rw [if_neg (by rw [Out1 a4 (by decide), ← k3, q]; exact n0), M_copy (by decide) rfl rfl, bd_s, va_up_self, cp_at (by decide), Out1 a4 (by decide), Out1 a4 (by decide)]
    · exact h.c a4 a3 (cp_B k2 _) (sim_cp (sim_tr a2 ks) k2 _) (cp_Sp kp _)
theorem st_tear {v : VV} (h : Rel v) : StP F_X5_tear F_X6_tear v := by
  obtain ⟨hC, hD, ⟨k1, k2, k3, k4⟩, hF, hT, hS⟩ := h
  have e : ∀ i, (i ≠ 0 ∧ i ≠ 12) → pu (pu v 12 6 0) 0 3 0 i = v i := fun i q => by rw [pu_ne _ _ _ q.1, pu_ne _ _ _ q.2]
  have rel : Rel (pu (pu v 12 6 0) 0 3 0) := by
    refine ⟨RelC_cg hC (e 1 (by decide)) (fun i a b => e i (by omega)), RelD_cg hD (fun i a b => e i (by omega)), ?_, RelF_cg hF (e 4 (by decide)) (e 13 (by decide)), RelT_cg hT (by rw [e 23 (by decide)]) (by rw [pu_self, upd_ne _ _ (by decide), pu_ne _ _ _ (by decide)]) (e 5 (by decide)) (e 24 (by decide)), RelS_cg hS (e 7 (by decide)) (e 8 (by decide)) (e 9 (by decide)) (fun i a b => e i (by omega))⟩
    unfold RelK
    rw [rowOf_same (v := v) (fun i a b => e i (by omega)), e 2 (by decide)]
    have e12 : pu (pu v 12 6 0) 0 3 0 12 6 = 0 := by rw [pu_ne _ _ _ (by decide), pu_self, upd_self]
    have e03 : pu (pu v 12 6 0) 0 3 0 0 3 = 0 := by rw [pu_self, upd_self]
    rw [e12, e03]
    exact ⟨k1, k2, rfl, Or.inl rfl⟩
  have e0 : pu v 12 6 0 0 = v 0 := pu_ne _ _ _ (by decide)
  by_cases q : v 12 6 = 0
  · refine ⟨0, _, _, by unfold F_X5_tear; rw [if_pos q], by unfold F_X6_tear; rw [if_pos (by rw [e0, ← k3]; exact q)], rel⟩
  · refine ⟨1, _, _, by unfold F_X5_tear; rw [if_neg q], by unfold F_X6_tear; rw [if_neg (by rw [e0, ← k3]; exact q)], rel⟩
theorem st_wipe {v : VV} (h : Rel v) : StP F_X5_wipe F_X6_wipe v := by
  obtain ⟨hC, hD, hK, hF, ⟨t, t1, t2, t3, t4⟩, hS⟩ := h
  have e : ∀ i, (i ≠ 0 ∧ i ≠ 23) → pu (pu v 23 1 0) 0 6 0 i = v i := fun i q => by rw [pu_ne _ _ _ q.1, pu_ne _ _ _ q.2]
  refine ⟨nI t, pu v 23 1 0, pu (pu v 23 1 0) 0 6 0, by unfold F_X5_wipe; rw [t2], by unfold F_X6_wipe; rw [pu_ne _ _ _ (by decide), t3], ?_⟩
  refine ⟨RelC_cg hC (e 1 (by decide)) (fun i a b => e i (by omega)), RelD_cg hD (fun i a b => e i (by omega)), RelK_cg hK (e 2 (by decide)) (by rw [e 12 (by decide)]) (by rw [pu_self, upd_ne _ _ (by decide), pu_ne _ _ _ (by decide)]) (fun i a b => e i (by omega)), RelF_cg hF (e 4 (by decide)) (e 13 (by decide)), ⟨0, by decide, ?_, ?_, fun j hj => by omega⟩, RelS_cg hS (e 7 (by decide)) (e 8 (by decide)) (e 9 (by decide)) (fun i a b => e i (by omega))⟩
  · rw [pu_ne _ _ _ (by decide), pu_self, upd_self]; rfl
  · rw [pu_self, upd_self]; rfl
theorem st_status {v : VV} (h : Rel v) (a : Int32) : StP (F_X5_status a) (F_X6_status a) v := by
  obtain ⟨f1, f2⟩ := h.2.2.2.1
  by_cases m1 : a = -1
  · subst m1
    refine ⟨v 4 0, v, v, ?_, ?_, h⟩
    · unfold F_X5_status
      rw [if_pos rfl]
      have e : L_X5_status_9 fu (-1) 0 0 v = some (0 + v 13 0 + v 13 1 + v 13 2 + v 13 3 + v 13 4 + v 13 5 + v 13 6, v) := rfl
      rw [e, f2, Int32.zero_add]
    · rfl
  · by_cases ha : inR a 7 = true
    · obtain ⟨i, hi, rfl⟩ := inR_t ha (by decide)
      refine ⟨v 13 i, v, v, ?_, ?_, h⟩
      · unfold F_X5_status
        rw [if_neg m1, upTo (b := 6) 6 rfl (by decide), bd_s, if_pos ha, gu_nI hi (by decide), cl_nI (by omega)]
      · have ew : F_X6_within (nI i) (-1) 6 v = some true := (by decide +kernel : ∀ i, i < 7 → F_X6_within (nI i) (-1) 6 (fun _ _ => 0) = some true) i hi
        unfold F_X6_status
        rw [ew, bd_s, if_pos rfl, nI_1, gu_nI (by omega) (by decide), cl_nI (by omega), f1 i hi]
    · refine st_f0 h ?_ (fun v1 e1 => ?_)
      · unfold F_X5_status
        rw [if_neg m1, upTo (b := 6) 6 rfl (by decide), bd_s, if_neg ha]
      · have ew : F_X6_within a (-1) 6 v1 = some false := by
          unfold F_X6_within
          by_cases q : a < -1
          · rw [if_pos q]
          · rw [if_neg q, if_pos]
            have z1 : ¬ a.toInt < (-1 : Int32).toInt := fun z => q ((lt_iff _ _).mpr z)
            have z2 : (-1 : Int32).toInt = -1 := by decide
            have z3 : ¬ a.toInt = -1 := fun z => m1 (Int32.toInt_inj.mp (by rw [z, z2]))
            have z4 : ¬ (0 ≤ a.toInt ∧ a.toInt < (7 : Nat)) := fun z => ha (decide_eq_true z)
            have z5 : (6 : Int32).toInt = 6 := by decide
            rw [lt_iff]
            omega
        unfold F_X6_status
        rw [ew, bd_s, if_neg (by decide)]
