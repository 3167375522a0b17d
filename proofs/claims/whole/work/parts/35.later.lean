/-! PURE PART 16: drafts; later, ahead, learns, taught, weary -/
theorem fnd6 {w v2 : VV} {L r : Int32} (h : F_X6_finding L w = some (r, v2)) : v2 = va_up w 4 (v2 4) ∧ ∀ w' : VV, w' 4 = w 4 → F_X6_finding L w' = some (r, va_up w' 4 (v2 4)) := by
  unfold F_X6_finding at h ⊢
  obtain ⟨g1, h⟩ := gu_some h
  obtain ⟨g2, h⟩ := gu_some h
  have h := Option.some.inj h
  have e1 : L = r := congrArg Prod.fst h
  have e2 := congrArg Prod.snd h
  dsimp only at e2
  subst e1
  have e4 : v2 4 = upd (upd (w 4) (((-1000001) - L) + 1).toNatClampNeg (w 4 (((-1000001) - L) + 1).toNatClampNeg + 1)) 0 (upd (w 4) (((-1000001) - L) + 1).toNatClampNeg (w 4 (((-1000001) - L) + 1).toNatClampNeg + 1) 0 + 1) := by
    rw [← e2, pu_up w, pu_of_up, va_up_self, va_up_self]
  refine ⟨?_, fun w' ew => ?_⟩
  · rw [e4, ← e2, pu_up w, pu_of_up, va_up_self]
  · rw [g1, gu_t, gu_t, e4, pu_up w', pu_of_up, va_up_self, ew]
theorem st_fw {A B : VV → Option (Int32 × VV)} {v vd : VV} (hd : Rel vd) {f : Nat} (hf : f < 7) {K L : Int32} (hK : K = nI f) (hL : (-1000001) - nI f = L) (hA : A v = Option.bind (F_X5_finding K vd) (fun (r, w) => some (r, w))) (hB : ∀ v1 : VV, (∀ i, i ≠ 13 → v1 i = vd i) → ∃ w' : VV, (∀ i, i ≠ 3 → i ≠ 6 → i ≠ 10 → i ≠ 0 → w' i = v1 i) ∧ w' 0 3 = v1 0 3 ∧ w' 0 6 = v1 0 6 ∧ B v1 = Option.bind (F_X6_finding L w') (fun (r, w) => some (r, w))) : StP A B v := by
  obtain ⟨v1, v2, a, b, c, d, -⟩ := fnd hd hf hL
  obtain ⟨w', e, e3, e6, hB⟩ := hB v1 d
  obtain ⟨g1, g2⟩ := fnd6 b
  refine ⟨L, v1, va_up w' 4 (v2 4), ?_, ?_, ?_⟩
  · rw [hA, hK, a]; rfl
  · rw [hB, g2 w' (e 4 (by decide) (by decide) (by decide) (by decide))]; rfl
  · refine c.x (fun i h3 h6 h10 h0 => ?_) ?_ ?_
    · rw [g1]
      by_cases i4 : i = 4
      · rw [i4, va_up_self, va_up_self]
      · rw [va_up_ne _ _ i4, va_up_ne _ _ i4]; exact e i h3 h6 h10 h0
    · rw [g1, va_up_ne _ _ (by decide), va_up_ne _ _ (by decide)]; exact e3
    · rw [g1, va_up_ne _ _ (by decide), va_up_ne _ _ (by decide)]; exact e6
theorem thk_e (v1 : VV) : (∀ i, i ≠ 3 → i ≠ 6 → i ≠ 10 → i ≠ 0 → thk v1 (v1 1) i = v1 i) ∧ thk v1 (v1 1) 0 3 = v1 0 3 ∧ thk v1 (v1 1) 0 6 = v1 0 6 := ⟨fun i h3 _ _ _ => thk_ne v1 h3, by rw [thk_ne v1 (by decide)], by rw [thk_ne v1 (by decide)]⟩
/-! a child, a keeper moved to the first place of its own coast -/
theorem cpy_own {p : Nat} (v : VV) {a b : Nat} (hb : b < 33) {N : Nat} (hN : N < 2 ^ 31) : rowOf p (cpy v (p + a) (p + b) 0 0 (nI N)) = (fun y => if y < 92 ∧ plo y = b ∧ slo y < N then v (p + a) (slo y) else rowOf p v y) ∧ Out p v (cpy v (p + a) (p + b) 0 0 (nI N)) := by
  have e0 : (0 : Int32).toNatClampNeg = 0 := rfl
  refine ⟨?_, fun i hi => va_up_ne _ _ (by omega)⟩
  funext y
  unfold rowOf cpy va_cpy
  by_cases hy : y < 92
  · simp only [if_pos hy]
    by_cases e : plo y = b
    · rw [e, va_up_self, e0, cl_nI hN]
      by_cases h2 : slo y < N
      · rw [if_pos (by omega), if_pos ⟨hy, rfl, h2⟩, show 0 + (slo y - 0) = slo y by omega]
      · rw [if_neg (by omega), if_neg (fun z => h2 z.2.2)]
    · rw [va_up_ne _ _ (by omega), if_neg (fun z => e z.2.1)]
  · simp only [if_neg hy]
    rw [if_neg (fun z => hy z.1)]
theorem C_leaveC {p : Nat} {v : VV} (hI : InvB (rowOf p v)) {j : Nat} (hj : j < 6) : ∃ v', F_X1_leaveOnlyChild p (nI j) v = some v' ∧ InvB (rowOf p v') ∧ Out p v v' ∧ rowOf p v' 3 = 1 ∧ (∀ f, f < 4 → rowOf p v' (ci 0 f) = rowOf p v (ci j f)) ∧ (∀ y, y < 68 → y ≠ 3 → rowOf p v' y = rowOf p v y) := by
  obtain ⟨r1, o1⟩ := cpy_own (p := p) v (a := 27 + j) (b := 27 + 0) (by omega) (N := 4) (by decide)
  have e1 : p + 4 + 17 + j + 6 = p + (27 + j) := by omega
  have e2 : p + 4 + 17 + 0 + 6 = p + (27 + 0) := by omega
  have w := wr_3 p (cpy v (p + (27 + j)) (p + (27 + 0)) 0 0 (nI 4)) 1
  have at' : ∀ f, f < 4 → rowOf p (cpy v (p + (27 + j)) (p + (27 + 0)) 0 0 (nI 4)) (ci 0 f) = rowOf p v (ci j f) := fun f hf => by
    rw [r1]
    dsimp only
    rw [if_pos ⟨ci_lt (by omega) hf, (cd_plo (by omega) hf).1, by rw [(cd_plo (by omega) hf).2]; exact hf⟩, (cd_plo (i := 0) (by omega) hf).2, ← rd_c p v hj hf, e1]
  have ne' : ∀ y, ¬ (ci 0 0 ≤ y ∧ y < ci 0 4) → rowOf p (cpy v (p + (27 + j)) (p + (27 + 0)) 0 0 (nI 4)) y = rowOf p v y := fun y hy => by
    rw [r1]
    dsimp only
    rw [if_neg]
    intro z
    apply hy
    obtain ⟨z1, z2, z3⟩ := z
    unfold plo at z2
    simp only [ci]
    (repeat' split at z2) <;> omega
  refine ⟨_, ?_, ?_, o1.trans w.2, ?_, fun f hf => ?_, fun y hy h3 => ?_⟩
  · unfold F_X1_leaveOnlyChild
    rw [gu_nI hj (by decide), gC_ok.2.2.2, gu_t, cl_nI (by omega), e1, e2]
  · rw [w.1]
    have hB : InvB (rowOf p (cpy v (p + (27 + j)) (p + (27 + 0)) 0 0 (nI 4))) := by
      obtain ⟨h0, h1, h3, h4, h5, h6⟩ := hI
      refine ⟨?_, ?_, ?_, fun i hi => ?_, fun i hi f hf => ?_, fun i hi f hf => ?_⟩
      · rw [ne' _ (by simp only [ci]; omega)]; exact h0
      · rw [ne' _ (by simp only [ci]; omega)]; exact h1
      · rw [ne' _ (by simp only [ci]; omega)]; exact h3
      · rw [ne' _ (by simp only [ci]; omega)]; exact h4 i hi
      · rw [ne' _ (by simp only [ki, ci]; omega)]; exact h5 i hi f hf
      · by_cases e : i = 0
        · rw [e, at' f hf]; exact h6 j hj f hf
        · rw [ne' _ (by simp only [ci]; omega)]; exact h6 i hi f hf
    generalize rowOf p (cpy v (p + (27 + j)) (p + (27 + 0)) 0 0 (nI 4)) = c at hB
    obtain ⟨h0, h1, h3, h4, h5, h6⟩ := hB
    refine ⟨?_, ?_, ⟨1, by omega, upd_self _ _ _⟩, fun i hi => ?_, fun i hi f hf => ?_, fun i hi f hf => ?_⟩
    · rw [upd_ne _ _ (by omega)]; exact h0
    · rw [upd_ne _ _ (by omega)]; exact h1
    · rw [upd_ne _ _ (by omega)]; exact h4 i hi
    · rw [upd_ne _ _ (by simp only [ki]; omega)]; exact h5 i hi f hf
    · rw [upd_ne _ _ (by simp only [ci]; omega)]; exact h6 i hi f hf
  · rw [w.1, upd_self]
  · rw [w.1, upd_ne _ _ (by simp only [ci]; omega)]; exact at' f hf
  · rw [w.1, upd_ne _ _ h3]; exact ne' y (by simp only [ci]; omega)
theorem C_leaveK {p : Nat} {v : VV} (hI : InvB (rowOf p v)) {j : Nat} (hj : j < 8) : ∃ v', F_X1_leaveOnlyKeeper p (nI j) v = some v' ∧ InvB (rowOf p v') ∧ Out p v v' ∧ rowOf p v' 1 = 1 ∧ (∀ f, f < 6 → rowOf p v' (ki 0 f) = rowOf p v (ki j f)) ∧ (∀ y, y < 20 → y ≠ 1 → rowOf p v' y = rowOf p v y) := by
  obtain ⟨r1, o1⟩ := cpy_own (p := p) v (a := 13 + j) (b := 13 + 0) (by omega) (N := 6) (by decide)
  have e1 : p + 3 + 2 + j + 8 = p + (13 + j) := by omega
  have e2 : p + 3 + 2 + 0 + 8 = p + (13 + 0) := by omega
  have w := wr_1 p (cpy v (p + (13 + j)) (p + (13 + 0)) 0 0 (nI 6)) 1
  have at' : ∀ f, f < 6 → rowOf p (cpy v (p + (13 + j)) (p + (13 + 0)) 0 0 (nI 6)) (ki 0 f) = rowOf p v (ki j f) := fun f hf => by
    rw [r1]
    dsimp only
    rw [if_pos ⟨ki_lt (by omega) hf, (kd_plo (by omega) hf).1, by rw [(kd_plo (by omega) hf).2]; exact hf⟩, (kd_plo (i := 0) (by omega) hf).2, ← rd_k p v hj hf, e1]
  have ne' : ∀ y, ¬ (ki 0 0 ≤ y ∧ y < ki 0 6) → rowOf p (cpy v (p + (13 + j)) (p + (13 + 0)) 0 0 (nI 6)) y = rowOf p v y := fun y hy => by
    rw [r1]
    dsimp only
    rw [if_neg]
    intro z
    apply hy
    obtain ⟨z1, z2, z3⟩ := z
    unfold plo at z2
    simp only [ki]
    (repeat' split at z2) <;> omega
  refine ⟨_, ?_, ?_, o1.trans w.2, ?_, fun f hf => ?_, fun y hy h3 => ?_⟩
  · unfold F_X1_leaveOnlyKeeper
    rw [gu_nI hj (by decide), gC_ok.2.2.1, gu_t, cl_nI (by omega), e1, e2]
  · rw [w.1]
    have hB : InvB (rowOf p (cpy v (p + (13 + j)) (p + (13 + 0)) 0 0 (nI 6))) := by
      obtain ⟨h0, h1, h3, h4, h5, h6⟩ := hI
      refine ⟨?_, ?_, ?_, fun i hi => ?_, fun i hi f hf => ?_, fun i hi f hf => ?_⟩
      · rw [ne' _ (by simp only [ki]; omega)]; exact h0
      · rw [ne' _ (by simp only [ki]; omega)]; exact h1
      · rw [ne' _ (by simp only [ki]; omega)]; exact h3
      · rw [ne' _ (by simp only [ki]; omega)]; exact h4 i hi
      · by_cases e : i = 0
        · rw [e, at' f hf]; exact h5 j hj f hf
        · rw [ne' _ (by simp only [ki]; omega)]; exact h5 i hi f hf
      · rw [ne' _ (by simp only [ki, ci]; omega)]; exact h6 i hi f hf
    generalize rowOf p (cpy v (p + (13 + j)) (p + (13 + 0)) 0 0 (nI 6)) = c at hB
    obtain ⟨h0, h1, h3, h4, h5, h6⟩ := hB
    refine ⟨?_, ⟨1, by omega, upd_self _ _ _⟩, ?_, fun i hi => ?_, fun i hi f hf => ?_, fun i hi f hf => ?_⟩
    · rw [upd_ne _ _ (by omega)]; exact h0
    · rw [upd_ne _ _ (by omega)]; exact h3
    · rw [upd_ne _ _ (by omega)]; exact h4 i hi
    · rw [upd_ne _ _ (by simp only [ki]; omega)]; exact h5 i hi f hf
    · rw [upd_ne _ _ (by simp only [ci]; omega)]; exact h6 i hi f hf
  · rw [w.1, upd_self]
  · rw [w.1, upd_ne _ _ (by simp only [ki]; omega)]; exact at' f hf
  · rw [w.1, upd_ne _ _ h3]; exact ne' y (by simp only [ki]; omega)
theorem C_draftC {v : VV} (h : Rel v) {j : Nat} (hj : j < ncS (v 1)) : ∃ v1, F_X5_draftLoneChild (nI j) v = some v1 ∧ lone (rowOf 58 v1) (v 1) j ∧ InvB (rowOf 58 v1) ∧ Out 58 v v1 := by
  obtain ⟨hC, hM, hs, hp⟩ := h.1
  have h6 := (nc_eq hM).2
  have h8 := (nk_eq hM).2
  obtain ⟨w, a1, a2, a3, a4⟩ := C_become (p := 25) (q := 58) (by omega) hC h.2.1
  have s2 := sim_tr a2 hs
  obtain ⟨v1, b1, b2, b3, b4, b5, b6⟩ := C_leaveC a3 (j := j) (by omega)
  refine ⟨v1, ?_, ?_, b2, a4.trans b3⟩
  · unfold F_X5_draftLoneChild
    rw [a1, bd_s, b1, bd_s]
  · exact ⟨fun y hy h3 => by rw [b6 y (by omega) h3]; exact s2.1 y (by omega), fun i hi f hf => by rw [b6 _ (by simp only [ki]; omega) (by simp only [ki]; omega)]; exact s2.2.1 i hi f hf, b4, hj, fun f hf => by rw [b5 f hf]; exact s2.2.2 j hj f hf⟩
theorem C_draftK {v : VV} (h : Rel v) {j : Nat} (hj : j < nkS (v 1)) : ∃ v1, F_X5_draftLoneKeeper (nI j) v = some v1 ∧ kLone (rowOf 58 v1) (v 1) j ∧ InvB (rowOf 58 v1) ∧ Out 58 v v1 := by
  obtain ⟨hC, hM, hs, hp⟩ := h.1
  have h6 := (nc_eq hM).2
  have h8 := (nk_eq hM).2
  obtain ⟨w, a1, a2, a3, a4⟩ := C_become (p := 25) (q := 58) (by omega) hC h.2.1
  have s2 := sim_tr a2 hs
  obtain ⟨v1, b1, b2, b3, b4, b5, b6⟩ := C_leaveK a3 (j := j) (by omega)
  have wr := wr_3 58 v1 0
  refine ⟨pu v1 58 5 0, ?_, ?_, ?_, (a4.trans b3).trans wr.2⟩
  · unfold F_X5_draftLoneKeeper
    rw [a1, bd_s, b1, bd_s]
  · rw [wr.1]
    refine ⟨by rw [upd_ne _ _ (by decide)]; exact b4, ?_, fun y h1 h2 => ?_, hj, fun g hg => ?_⟩
    · rw [upd_ne _ _ (by decide), b6 0 (by decide) (by decide)]; exact s2.1 0 (by decide)
    · rw [upd_ne _ _ (by omega), b6 y (by omega) (by omega)]; exact s2.1 y (by omega)
    · rw [upd_ne _ _ (by simp only [ki]; omega), b5 g hg]; exact s2.2.1 j hj g hg
  · rw [wr.1]
    obtain ⟨h0, h1, h3, h4, h5, h6⟩ := b2
    refine ⟨?_, ?_, ⟨0, by omega, upd_self _ _ _⟩, fun i hi => ?_, fun i hi f hf => ?_, fun i hi f hf => ?_⟩
    · rw [upd_ne _ _ (by omega)]; exact h0
    · rw [upd_ne _ _ (by omega)]; exact h1
    · rw [upd_ne _ _ (by omega)]; exact h4 i hi
    · rw [upd_ne _ _ (by simp only [ki]; omega)]; exact h5 i hi f hf
    · rw [upd_ne _ _ (by simp only [ci]; omega)]; exact h6 i hi f hf
/-! later -/
theorem st_laterW {v : VV} (h : Rel v) {w : Nat} (hw : w = 2 ∨ w = 3) (a c : Int32) : StP (F_X5_later a (nI w)  c) (F_X6_later a (nI w) c) v := by
  obtain ⟨hC, hM, hs, hp⟩ := h.1
  have e := sim_nc hs
  have h6 := (nc_eq hM).2
  have eC : ∀ v : VV, F_X5_later a (nI w) c v = Option.bind (F_X5_isChild a v) (fun r3 => (if r3 = true then (Option.bind (F_X5_isUpTo c 100 v) (fun r11 => (if r11 = true then (Option.bind (F_X5_draftLoneChild a v) (fun v15 => Option.bind (F_X1_passDays 58 c v15) (fun v18 => gu (gI (nI w) 4) (some (v18 (((58 + 4) + 17 + 0) + 6) ((nI w).toNatClampNeg), v18))))) else (Option.bind (F_X5_finding 0 v) (fun (r21, v22) => some (r21, v22)))))) else (Option.bind (F_X5_finding 0 v) (fun (r6, v7) => some (r6, v7))))) := by
    intro v
    unfold F_X5_later
    rcases hw with rfl | rfl
    · rw [if_pos (show nI 2 = 2 from rfl)]
    · rw [if_neg (show ¬ nI 3 = 2 by decide), if_pos (show nI 3 = 3 from rfl)]
  have eW : ∀ v : VV, F_X6_within (nI w) 2 3 v = some true := by
    intro v
    rcases hw with rfl | rfl
    · rfl
    · rfl
  have hw4 : w < 4 := by omega
  by_cases ha : inR a (ncS (v 1)) = true
  · by_cases hc : inR c 101 = true
    · obtain ⟨j, hj, rfl⟩ := inR_t ha (by omega)
      obtain ⟨N, hN, rfl⟩ := inR_t hc (by decide)
      obtain ⟨v1, a1, a2, a3, a4⟩ := C_draftC h hj
      obtain ⟨v2, b1, b2, b3⟩ := C_days a3 (N := N) (by omega)
      have o2 := a4.trans b3
      have e1 : v2 1 = v 1 := o2 1 (by omega)
      refine ⟨daysS N (v 1) (ci j w), v2, thk v2 (v2 1), ?_, ?_, ?_⟩
      · rw [eC, C_isChild hC, bd_s, e, if_pos ha, upTo (b := 100) 100 rfl (by decide), bd_s, if_pos hc, a1, bd_s, b1, bd_s, gu_nI hw4 (by decide), cl_nI (by omega), rd_c 58 v2 (i := 0) (by decide) hw4, b2, (lone_days N a2 hM).2.2.2.2 w hw4]
      · unfold F_X6_later
        rw [M_isChild (by rw [e1]; exact hM), bd_s, e1, if_pos ha, eW, bd_s, if_pos rfl, wit (b := 100) 100 rfl (by decide), bd_s, if_pos hc, cAt, bd_s, M_behind (by rw [e1]; exact hM) (ci_lt (by omega) hw4) (by omega), bd_s, e1]
      · exact (h.d o2 (by rw [b2]; exact daysS_B N a3)).a
    · refine st_f0 h ?_ (fun v1 e1 => ?_)
      · rw [eC, C_isChild hC, bd_s, e, if_pos ha, upTo (b := 100) 100 rfl (by decide), bd_s, if_neg hc]
      · unfold F_X6_later
        rw [M_isChild (by rw [e1 1 (by decide)]; exact hM), bd_s, e1 1 (by decide), if_pos ha, eW, bd_s, if_pos rfl, wit (b := 100) 100 rfl (by decide), bd_s, if_neg hc]
  · refine st_f0 h ?_ (fun v1 e1 => ?_)
    · rw [eC, C_isChild hC, bd_s, e, if_neg ha]
    · unfold F_X6_later
      rw [M_isChild (by rw [e1 1 (by decide)]; exact hM), bd_s, e1 1 (by decide), if_neg ha]
theorem st_later {v : VV} (h : Rel v) (a b c : Int32) : StP (F_X5_later a b c) (F_X6_later a b c) v := by
  by_cases h2 : b = 2
  · rw [h2]; exact st_laterW h (w := 2) (Or.inl rfl) a c
  by_cases h3 : b = 3
  · rw [h3]; exact st_laterW h (w := 3) (Or.inr rfl) a c
  obtain ⟨hC, hM, hs, hp⟩ := h.1
  refine st_f0 h ?_ (fun v1 e1 => ?_)
  · unfold F_X5_later
    rw [if_neg h2, if_neg h3, C_isChild hC, bd_s]
    split <;> rfl
  · have eW : F_X6_within b 2 3 v1 = some false := by
      unfold F_X6_within
      by_cases q : b < 2
      · rw [if_pos q]
      · rw [if_neg q, if_pos]
        have z1 : ¬ b.toInt < (2 : Int32).toInt := fun z => q ((lt_iff _ _).mpr z)
        have z2 : (2 : Int32).toInt = 2 := by decide
        have z3 : (3 : Int32).toInt = 3 := by decide
        have z4 : ¬ b.toInt = 2 := fun z => h2 (Int32.toInt_inj.mp (by rw [z, z2]))
        have z5 : ¬ b.toInt = 3 := fun z => h3 (Int32.toInt_inj.mp (by rw [z, z3]))
        rw [lt_iff]
        omega
    unfold F_X6_later
    rw [M_isChild (by rw [e1 1 (by decide)]; exact hM), bd_s, eW, bd_s, if_neg (show ¬ false = true by decide)]
    split <;> rfl
/-! ahead -/
theorem kL_told {c m : RW} {k : Nat} (h : kLone c m k) {w : Nat} (hw : w = 2 ∨ w = 4 ∨ w = 6) : toldS c 0 w = toldS m k w := by
  obtain ⟨h1, h2, h3, h4, h5⟩ := h
  rcases hw with rfl | rfl | rfl
  · exact h5 2 (by decide)
  · exact h5 4 (by decide)
  · show noteS c 0 = noteS m k
    unfold noteS
    rw [h5 0 (by decide), h5 2 (by decide), h5 4 (by decide), h2]
theorem st_aheadW {v : VV} (h : Rel v) {w : Nat} (hw : w = 2 ∨ w = 4 ∨ w = 6) (a c : Int32) : StP (F_X5_ahead a (nI w) c) (F_X6_ahead a (nI w) c) v := by
  obtain ⟨hC, hM, hs, hp⟩ := h.1
  have e := sim_nk hs
  have h8 := (nk_eq hM).2
  have eC : ∀ v : VV, F_X5_ahead a (nI w) c v = Option.bind (F_X5_isKeeper a v) (fun r3 => (if r3 = true then (Option.bind (F_X5_isUpTo c 100 v) (fun r11 => (if r11 = true then (Option.bind (F_X5_draftLoneKeeper a v) (fun v15 => Option.bind (F_X1_passDays 58 c v15) (fun v18 => Option.bind (F_X1_toldOfKeeper 58 0 (nI w) v18) (fun r20 => some (r20, v18))))) else (Option.bind (F_X5_finding 0 v) (fun (r22, v23) => some (r22, v23)))))) else (Option.bind (F_X5_finding 0 v) (fun (r6, v7) => some (r6, v7))))) := by
    intro v
    unfold F_X5_ahead
    rcases hw with rfl | rfl | rfl
    · rw [if_pos (show nI 2 = 2 from rfl)]
    · rw [if_neg (show ¬ nI 4 = 2 by decide), if_pos (show nI 4 = 4 from rfl)]
    · rw [if_neg (show ¬ nI 6 = 2 by decide), if_neg (show ¬ nI 6 = 4 by decide), if_pos (show nI 6 = 6 from rfl)]
  have eM : ∀ v : VV, F_X6_ahead a (nI w) c v = Option.bind (F_X6_isKeeper a v) (fun r3 => (if r3 = true then (Option.bind (F_X6_within c 0 100 v) (fun r11 => (if r11 = true then (Option.bind (F_X6_copyRow 1 3 v) (fun v15 => Option.bind (F_X6_daysGo c v15) (fun v18 => Option.bind (F_X6_told a (nI w) v18) (fun r20 => Option.bind (F_X6_putBack r20 v18) (fun (r22, v23) => some (r22, v23)))))) else (Option.bind (F_X6_finding (-1000001) v) (fun (r26, v27) => some (r26, v27)))))) else (Option.bind (F_X6_finding (-1000001) v) (fun (r6, v7) => some (r6, v7))))) := by
    intro v
    unfold F_X6_ahead
    rcases hw with rfl | rfl | rfl
    · rw [if_pos (show nI 2 = 2 from rfl)]
    · rw [if_neg (show ¬ nI 4 = 2 by decide), if_pos (show nI 4 = 4 from rfl)]
    · rw [if_neg (show ¬ nI 6 = 2 by decide), if_neg (show ¬ nI 6 = 4 by decide), if_pos (show nI 6 = 6 from rfl)]
  by_cases ha : inR a (nkS (v 1)) = true
  · by_cases hc : inR c 101 = true
    · obtain ⟨k, hk, rfl⟩ := inR_t ha (by omega)
      obtain ⟨N, hN, rfl⟩ := inR_t hc (by decide)
      obtain ⟨v1, a1, a2, a3, a4⟩ := C_draftK h hk
      obtain ⟨v2, b1, b2, b3⟩ := C_days a3 (N := N) (by omega)
      have o2 := a4.trans b3
      have hB2 : InvB (rowOf 58 v2) := by rw [b2]; exact daysS_B N a3
      have e1 : v2 1 = v 1 := o2 1 (by omega)
      refine ⟨toldS (daysS N (v 1)) k w, v2, thk v2 (v2 1), ?_, ?_, ?_⟩
      · rw [eC, C_isKeeper hC, bd_s, e, if_pos ha, upTo (b := 100) 100 rfl (by decide), bd_s, if_pos hc, a1, bd_s, b1, bd_s, nI0, C_told hB2 (by decide) (by omega), bd_s, b2, kL_told (kLone_days N a2 hM) hw]
      · rw [eM, M_isKeeper (by rw [e1]; exact hM), bd_s, e1, if_pos ha, wit (b := 100) 100 rfl (by decide), bd_s, if_pos hc, M_begin, bd_s, M_daysGo (by rw [thk_1, e1]; exact hM) (by omega), bd_s, thk_1, thk_up, M_told (by rw [thk_1, e1]; exact daysS_B N hM) (by omega) (by omega), bd_s, thk_1, M_back (fun y hy => daysS_big N (by rw [e1]; exact hM) hy), bd_s, e1]
      · exact (h.d o2 hB2).a
    · refine st_f0 h ?_ (fun v1 e1 => ?_)
      · rw [eC, C_isKeeper hC, bd_s, e, if_pos ha, upTo (b := 100) 100 rfl (by decide), bd_s, if_neg hc]
      · rw [eM, M_isKeeper (by rw [e1 1 (by decide)]; exact hM), bd_s, e1 1 (by decide), if_pos ha, wit (b := 100) 100 rfl (by decide), bd_s, if_neg hc]
  · refine st_f0 h ?_ (fun v1 e1 => ?_)
    · rw [eC, C_isKeeper hC, bd_s, e, if_neg ha]
    · rw [eM, M_isKeeper (by rw [e1 1 (by decide)]; exact hM), bd_s, e1 1 (by decide), if_neg ha]
theorem st_ahead {v : VV} (h : Rel v) (a b c : Int32) : StP (F_X5_ahead a b c) (F_X6_ahead a b c) v := by
  by_cases h2 : b = 2
  · rw [h2]; exact st_aheadW h (w := 2) (Or.inl rfl) a c
  by_cases h4 : b = 4
  · rw [h4]; exact st_aheadW h (w := 4) (Or.inr (Or.inl rfl)) a c
  by_cases h6 : b = 6
  · rw [h6]; exact st_aheadW h (w := 6) (Or.inr (Or.inr rfl)) a c
  obtain ⟨hC, hM, hs, hp⟩ := h.1
  refine st_f0 h ?_ (fun v1 e1 => ?_)
  · unfold F_X5_ahead
    rw [if_neg h2, if_neg h4, if_neg h6, C_isKeeper hC, bd_s]
    split <;> rfl
  · unfold F_X6_ahead
    rw [if_neg h2, if_neg h4, if_neg h6, M_isKeeper (by rw [e1 1 (by decide)]; exact hM), bd_s]
    split <;> rfl
