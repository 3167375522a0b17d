/-! PURE PART 4: the class's coast as a row; its day -/
def plo (y : Nat) : Nat := if y < 4 then 0 else if y < 10 then 1 else if y < 20 then 2 else if y < 68 then 13 + (y - 20) / 6 else 27 + (y - 68) / 4
def slo (y : Nat) : Nat := if y = 0 then 6 else if y = 1 then 4 else if y = 2 then 7 else if y = 3 then 5 else if y < 10 then y - 4 else if y < 20 then y - 10 else if y < 68 then (y - 20) % 6 else (y - 68) % 4
theorem plo_lt : ∀ y, y < 92 → plo y < 33 := by decide +kernel
theorem lo_in : ∀ y, y < 92 → ∀ z, z < 92 → plo y = plo z → slo y = slo z → y = z := by decide +kernel
theorem lo_inj {y z : Nat} (hz : z < 92) (h1 : plo y = plo z) (h2 : slo y = slo z) : y = z := by
  rcases Nat.lt_or_ge y 92 with q | q
  · exact lo_in y q z hz h1 h2
  · have h3 := plo_lt z hz
    have h4 : 33 ≤ plo y := by
      unfold plo
      rw [if_neg (by omega), if_neg (by omega), if_neg (by omega), if_neg (by omega)]
      omega
    omega
def rowOf (p : Nat) (v : VV) : RW := fun y => if y < 92 then v (p + plo y) (slo y) else 0
theorem rowOf_at (p : Nat) (v : VV) {y : Nat} (h : y < 92) : rowOf p v y = v (p + plo y) (slo y) := if_pos h
theorem rowOf_pu (p : Nat) (v : VV) {y : Nat} (hy : y < 92) (x : Int32) : rowOf p (pu v (p + plo y) (slo y) x) = upd (rowOf p v) y x := by
  funext z
  by_cases e : z = y
  · subst e
    rw [rowOf_at p _ hy, pu_self, upd_self, upd_self]
  · rw [upd_ne _ _ e]
    unfold rowOf
    by_cases hz : z < 92
    · rw [if_pos hz, if_pos hz]
      by_cases e2 : plo z = plo y
      · rw [e2, pu_self, upd_ne]
        intro q
        exact e (lo_inj hy e2 q)
      · rw [pu_ne _ _ _ (by omega)]
    · rw [if_neg hz, if_neg hz]
/-- what lies outside a coast's 33 cells stays -/
def Out (p : Nat) (v v' : VV) : Prop := ∀ i, (i < p ∨ p + 33 ≤ i) → v' i = v i
theorem Out.rf {p : Nat} {v : VV} : Out p v v := fun _ _ => rfl
theorem Out.trans {p : Nat} {a b c : VV} (h1 : Out p a b) (h2 : Out p b c) : Out p a c := fun i h => (h2 i h).trans (h1 i h)
theorem Out_pu (p : Nat) (v : VV) {a k : Nat} (ha : a < 33) (x : Int32) : Out p v (pu v (p + a) k x) := fun i h => pu_ne _ _ _ (by omega)
theorem rowOf_out {p q : Nat} {v v' : VV} (h : Out q v v') (hpq : p + 33 ≤ q ∨ q + 33 ≤ p) : rowOf p v' = rowOf p v := by
  funext y
  unfold rowOf
  by_cases hy : y < 92
  · have := plo_lt y hy
    rw [if_pos hy, if_pos hy, h _ (by omega)]
  · rw [if_neg hy, if_neg hy]
theorem rowOf_same {p : Nat} {v v' : VV} (h : ∀ i, p ≤ i → i < p + 33 → v' i = v i) : rowOf p v' = rowOf p v := by
  funext y
  unfold rowOf
  by_cases hy : y < 92
  · have := plo_lt y hy
    rw [if_pos hy, if_pos hy, h _ (by omega) (by omega)]
  · rw [if_neg hy, if_neg hy]
theorem kd_plo {i f : Nat} (hi : i < 8) (hf : f < 6) : plo (ki i f) = 13 + i ∧ slo (ki i f) = f := by
  simp only [ki]
  unfold plo slo
  refine ⟨?_, ?_⟩
  · rw [if_neg (by omega), if_neg (by omega), if_neg (by omega), if_pos (by omega)]; omega
  · rw [if_neg (by omega), if_neg (by omega), if_neg (by omega), if_neg (by omega), if_neg (by omega), if_neg (by omega), if_pos (by omega)]; omega
theorem cd_plo {i f : Nat} (hi : i < 6) (hf : f < 4) : plo (ci i f) = 27 + i ∧ slo (ci i f) = f := by
  simp only [ci]
  unfold plo slo
  refine ⟨?_, ?_⟩
  · rw [if_neg (by omega), if_neg (by omega), if_neg (by omega), if_neg (by omega)]; omega
  · rw [if_neg (by omega), if_neg (by omega), if_neg (by omega), if_neg (by omega), if_neg (by omega), if_neg (by omega), if_neg (by omega)]; omega
theorem rd_k (p : Nat) (v : VV) {i f : Nat} (hi : i < 8) (hf : f < 6) : v (((p + 3) + 2 + i) + 8) f = rowOf p v (ki i f) := by
  obtain ⟨e1, e2⟩ := kd_plo hi hf
  rw [rowOf_at p v (by simp only [ki]; omega), e1, e2, show p + 3 + 2 + i + 8 = p + (13 + i) by omega]
theorem rd_c (p : Nat) (v : VV) {i f : Nat} (hi : i < 6) (hf : f < 4) : v (((p + 4) + 17 + i) + 6) f = rowOf p v (ci i f) := by
  obtain ⟨e1, e2⟩ := cd_plo hi hf
  rw [rowOf_at p v (by simp only [ci]; omega), e1, e2, show p + 4 + 17 + i + 6 = p + (27 + i) by omega]
theorem wr_k (p : Nat) (v : VV) {i f : Nat} (hi : i < 8) (hf : f < 6) (x : Int32) : rowOf p (pu v (((p + 3) + 2 + i) + 8) f x) = upd (rowOf p v) (ki i f) x ∧ Out p v (pu v (((p + 3) + 2 + i) + 8) f x) := by
  obtain ⟨e1, e2⟩ := kd_plo hi hf
  have h := rowOf_pu p v (y := ki i f) (by simp only [ki]; omega) x
  rw [e1, e2] at h
  rw [show p + 3 + 2 + i + 8 = p + (13 + i) by omega]
  exact ⟨h, Out_pu p v (by omega) x⟩
theorem wr_c (p : Nat) (v : VV) {i f : Nat} (hi : i < 6) (hf : f < 4) (x : Int32) : rowOf p (pu v (((p + 4) + 17 + i) + 6) f x) = upd (rowOf p v) (ci i f) x ∧ Out p v (pu v (((p + 4) + 17 + i) + 6) f x) := by
  obtain ⟨e1, e2⟩ := cd_plo hi hf
  have h := rowOf_pu p v (y := ci i f) (by simp only [ci]; omega) x
  rw [e1, e2] at h
  rw [show p + 4 + 17 + i + 6 = p + (27 + i) by omega]
  exact ⟨h, Out_pu p v (by omega) x⟩
theorem rd_0 (p : Nat) (v : VV) : v p 6 = rowOf p v 0 := rfl
theorem rd_1 (p : Nat) (v : VV) : v p 4 = rowOf p v 1 := rfl
theorem rd_2 (p : Nat) (v : VV) : v p 7 = rowOf p v 2 := rfl
theorem rd_3 (p : Nat) (v : VV) : v p 5 = rowOf p v 3 := rfl
theorem rd_l (p : Nat) (v : VV) {j : Nat} (hj : j < 6) : v (p + 1) j = rowOf p v (4 + j) := by
  rw [rowOf_at p v (by omega)]
  unfold plo slo
  rw [if_neg (by omega), if_pos (by omega), if_neg (by omega), if_neg (by omega), if_neg (by omega), if_neg (by omega), if_pos (by omega), show 4 + j - 4 = j by omega]
theorem rd_s (p : Nat) (v : VV) {j : Nat} (hj : j < 10) : v (p + 2) j = rowOf p v (10 + j) := by
  rw [rowOf_at p v (by omega)]
  unfold plo slo
  rw [if_neg (by omega), if_neg (by omega), if_pos (by omega), if_neg (by omega), if_neg (by omega), if_neg (by omega), if_neg (by omega), if_neg (by omega), if_pos (by omega), show 10 + j - 10 = j by omega]
theorem wr_0 (p : Nat) (v : VV) (x : Int32) : rowOf p (pu v p 6 x) = upd (rowOf p v) 0 x ∧ Out p v (pu v p 6 x) := ⟨rowOf_pu p v (y := 0) (by decide) x, Out_pu p v (a := 0) (by decide) x⟩
theorem wr_1 (p : Nat) (v : VV) (x : Int32) : rowOf p (pu v p 4 x) = upd (rowOf p v) 1 x ∧ Out p v (pu v p 4 x) := ⟨rowOf_pu p v (y := 1) (by decide) x, Out_pu p v (a := 0) (by decide) x⟩
theorem wr_2 (p : Nat) (v : VV) (x : Int32) : rowOf p (pu v p 7 x) = upd (rowOf p v) 2 x ∧ Out p v (pu v p 7 x) := ⟨rowOf_pu p v (y := 2) (by decide) x, Out_pu p v (a := 0) (by decide) x⟩
theorem wr_3 (p : Nat) (v : VV) (x : Int32) : rowOf p (pu v p 5 x) = upd (rowOf p v) 3 x ∧ Out p v (pu v p 5 x) := ⟨rowOf_pu p v (y := 3) (by decide) x, Out_pu p v (a := 0) (by decide) x⟩
theorem wr_l (p : Nat) (v : VV) {j : Nat} (hj : j < 6) (x : Int32) : rowOf p (pu v (p + 1) j x) = upd (rowOf p v) (4 + j) x ∧ Out p v (pu v (p + 1) j x) := by
  have e1 : plo (4 + j) = 1 := by unfold plo; rw [if_neg (by omega), if_pos (by omega)]
  have e2 : slo (4 + j) = j := by unfold slo; rw [if_neg (by omega), if_neg (by omega), if_neg (by omega), if_neg (by omega), if_pos (by omega)]; omega
  have h := rowOf_pu p v (y := 4 + j) (by omega) x
  rw [e1, e2] at h
  exact ⟨h, Out_pu p v (by decide) x⟩
theorem wr_s (p : Nat) (v : VV) {j : Nat} (hj : j < 10) (x : Int32) : rowOf p (pu v (p + 2) j x) = upd (rowOf p v) (10 + j) x ∧ Out p v (pu v (p + 2) j x) := by
  have e1 : plo (10 + j) = 2 := by unfold plo; rw [if_neg (by omega), if_neg (by omega), if_pos (by omega)]
  have e2 : slo (10 + j) = j := by unfold slo; rw [if_neg (by omega), if_neg (by omega), if_neg (by omega), if_neg (by omega), if_neg (by omega), if_pos (by omega)]; omega
  have h := rowOf_pu p v (y := 10 + j) (by omega) x
  rw [e1, e2] at h
  exact ⟨h, Out_pu p v (by decide) x⟩
/-! keepers -/
theorem C_gives (p : Nat) (v : VV) {i : Nat} (hi : i < 8) (d : Int32) : F_X2_gives ((p + 3) + 2 + i) d v = some (gvS (rowOf p v (ki i 0)) (rowOf p v (ki i 2)) (rowOf p v (ki i 4)) d) := by
  unfold F_X2_gives gvS
  simp only [rd_k p v hi (by decide : 0 < 6), rd_k p v hi (by decide : 2 < 6), rd_k p v hi (by decide : 4 < 6)]
  repeat refine if_some (fun _ => rfl) (fun _ => ?_)
  rfl
theorem C_reaches (p : Nat) (v : VV) {i : Nat} (hi : i < 8) (f : Int32) : F_X2_reaches ((p + 3) + 2 + i) f v = some (rcS (rowOf p v (ki i 0)) (rowOf p v (ki i 3)) (rowOf p v (ki i 4)) f) := by
  unfold F_X2_reaches rcS
  simp only [rd_k p v hi (by decide : 0 < 6), rd_k p v hi (by decide : 3 < 6), rd_k p v hi (by decide : 4 < 6)]
  repeat refine if_some (fun _ => rfl) (fun _ => ?_)
  rfl
theorem st_t : ∀ k, k ≤ 6 → gI (nI k) 7 = true ∧ stA 2 k = tmS (nI k) ∧ stA 3 k = tiS (nI k) := by decide +kernel
theorem C_tempo {p : Nat} {v : VV} (hI : InvB (rowOf p v)) {i : Nat} (hi : i < 8) : F_X2_tempo ((p + 3) + 2 + i) v = some (tmS (rowOf p v (ki i 0))) := by
  obtain ⟨k, hk, ek⟩ := hI.2.2.2.2.1 i hi 0 (by decide)
  have hk : k ≤ 6 := hk
  unfold F_X2_tempo
  rw [rd_k p v hi (by decide), ek, (st_t k hk).1, cl_nI (by omega), (st_t k hk).2.1]
  rfl
theorem C_tires {p : Nat} {v : VV} (hI : InvB (rowOf p v)) {i : Nat} (hi : i < 8) : F_X2_tires ((p + 3) + 2 + i) v = some (tiS (rowOf p v (ki i 0))) := by
  obtain ⟨k, hk, ek⟩ := hI.2.2.2.2.1 i hi 0 (by decide)
  have hk : k ≤ 6 := hk
  unfold F_X2_tires
  rw [rd_k p v hi (by decide), ek, (st_t k hk).1, cl_nI (by omega), (st_t k hk).2.2]
  rfl
theorem C_turns (p : Nat) (v : VV) {i : Nat} (hi : i < 8) (d : Int32) : F_X2_turns ((p + 3) + 2 + i) d v = some (tuS (rowOf p v (ki i 0)) d) := by
  unfold F_X2_turns tuS
  simp only [rd_k p v hi (by decide : 0 < 6)]
  refine if_some (fun _ => ?_) (fun _ => ?_)
  · repeat refine if_some (fun _ => rfl) (fun _ => ?_)
    rfl
  · repeat refine if_some (fun _ => rfl) (fun _ => ?_)
    rfl
theorem C_silent {p : Nat} {v : VV} (hI : InvB (rowOf p v)) {i : Nat} (hi : i < 8) : F_X2_isSilent ((p + 3) + 2 + i) v = some (decide (¬ rowOf p v (ki i 5) = 0)) := by
  obtain ⟨k, hk, ek⟩ := hI.2.2.2.2.1 i hi 5 (by decide)
  have hk : k ≤ 1 := hk
  unfold F_X2_isSilent
  rw [rd_k p v hi (by decide), ek]
  exact (by decide +kernel : ∀ k, k ≤ 1 → (if nI k = 1 then some true else some false) = some (decide (¬ nI k = 0))) k hk
theorem C_goOn {p : Nat} {v : VV} (hI : InvB (rowOf p v)) {i : Nat} (hi : i < 8) : ∃ v', F_X2_goOn ((p + 3) + 2 + i) (v p 6) v = some v' ∧ rowOf p v' = kupS (rowOf p v) i ∧ Out p v v' := by
  unfold F_X2_goOn
  rw [C_tires hI hi, bd_s, C_turns p _ hi, bd_s]
  refine ⟨_, rfl, ?_, ?_⟩
  · rw [(wr_k p _ hi (by decide) _).1, (wr_k p _ hi (by decide) _).1, rd_k p (pu v (p + 3 + 2 + i + 8) 4 _) hi (by decide : 2 < 6), rd_k p v hi (by decide : 4 < 6), (wr_k p _ hi (by decide) _).1, upd_ne _ _ (show ki i 2 ≠ ki i 4 by simp only [ki]; omega), upd_ne _ _ (show ki i 0 ≠ ki i 4 by simp only [ki]; omega)]
    rfl
  · exact (wr_k p _ hi (by decide) _).2.trans (wr_k p _ hi (by decide) _).2
theorem C_rest (p : Nat) (v : VV) {i : Nat} (hi : i < 8) : ∃ v', F_X2_rest ((p + 3) + 2 + i) v = some v' ∧ rowOf p v' = restS (rowOf p v) i ∧ Out p v v' := by
  unfold F_X2_rest
  refine ⟨_, rfl, ?_, (wr_k p _ hi (by decide) _).2⟩
  rw [(wr_k p _ hi (by decide) _).1, rd_k p v hi (by decide : 4 < 6)]
  rfl
/-! children -/
theorem C_hasLearnt (p : Nat) (v : VV) {j : Nat} (hj : j < 6) (n : Int32) : F_X0_hasLearnt ((p + 4) + 17 + j) n v = some (decide (¬ (rowOf p v (ci j 2) &&& (1 <<< (n &&& 31))) = 0)) := by
  unfold F_X0_hasLearnt
  rw [rd_c p v hj (by decide)]
  by_cases h : (rowOf p v (ci j 2) &&& (1 <<< (n &&& 31))) = 0
  · rw [if_pos h, decide_eq_false (fun z => z h)]
  · rw [if_neg h, decide_eq_true h]
theorem C_hear (p : Nat) (v : VV) {j : Nat} (hj : j < 6) (n t : Int32) : ∃ v', F_X0_hear ((p + 4) + 17 + j) n t v = some v' ∧ rowOf p v' = writeS (rowOf p v) j n t ∧ Out p v v' := by
  have n32 : ci j 3 ≠ ci j 2 := by simp only [ci]; omega
  have two : ∀ x y : Int32, rowOf p (pu (pu v (((p + 4) + 17 + j) + 6) 2 x) (((p + 4) + 17 + j) + 6) 3 y) = upd (upd (rowOf p v) (ci j 2) x) (ci j 3) y ∧ Out p v (pu (pu v (((p + 4) + 17 + j) + 6) 2 x) (((p + 4) + 17 + j) + 6) 3 y) := fun x y => ⟨by rw [(wr_c p _ hj (by decide) _).1, (wr_c p _ hj (by decide) _).1], (wr_c p _ hj (by decide) _).2.trans (wr_c p _ hj (by decide) _).2⟩
  unfold F_X0_hear
  rw [C_hasLearnt p v hj, bd_s]
  simp only [C_hasLearnt p v hj, bd_s, rd_c p v hj (by decide : 1 < 4), rd_c p v hj (by decide : 2 < 4), rd_c p v hj (by decide : 3 < 4)]
  unfold writeS
  by_cases b1 : (rowOf p v (ci j 2) &&& (1 <<< (n &&& 31))) = 0
  · rw [if_neg (by rw [decide_eq_false (fun z => z b1)]; decide), if_pos b1]
    by_cases b3 : n = 0
    · rw [if_pos b3]
      by_cases b2 : rowOf p v (ci j 1) < t
      · rw [if_pos b2, if_pos b2]
        exact ⟨_, rfl, (wr_c p _ hj (by decide) _).1, (wr_c p _ hj (by decide) _).2⟩
      · rw [if_neg b2, if_neg b2, if_pos (Or.inl b3)]
        refine ⟨_, rfl, ?_, (two _ _).2⟩
        rw [(two _ _).1, rd_c p (pu v (p + 4 + 17 + j + 6) 2 _) hj (by decide : 3 < 4), (wr_c p _ hj (by decide) _).1, upd_ne _ _ n32]
    · rw [if_neg b3]
      by_cases b4 : (rowOf p v (ci j 2) &&& (1 <<< ((n - 1) &&& 31))) = 0
      · rw [if_neg (by rw [decide_eq_false (fun z => z b4)]; decide)]
        by_cases b2 : rowOf p v (ci j 1) < t
        · rw [if_pos b2, if_pos b2]
          exact ⟨_, rfl, (wr_c p _ hj (by decide) _).1, (wr_c p _ hj (by decide) _).2⟩
        · rw [if_neg b2, if_neg b2, if_neg (fun z => z.elim b3 (fun q => q b4))]
          exact ⟨_, rfl, (wr_c p _ hj (by decide) _).1, (wr_c p _ hj (by decide) _).2⟩
      · rw [if_pos (decide_eq_true b4)]
        by_cases b2 : rowOf p v (ci j 1) < t
        · rw [if_pos b2, if_pos b2]
          exact ⟨_, rfl, (wr_c p _ hj (by decide) _).1, (wr_c p _ hj (by decide) _).2⟩
        · rw [if_neg b2, if_neg b2, if_pos (Or.inr b4)]
          refine ⟨_, rfl, ?_, (two _ _).2⟩
          rw [(two _ _).1, rd_c p (pu v (p + 4 + 17 + j + 6) 2 _) hj (by decide : 3 < 4), (wr_c p _ hj (by decide) _).1, upd_ne _ _ n32]
  · rw [if_pos (decide_eq_true b1), if_neg b1]
    exact ⟨v, rfl, rfl, Out.rf⟩
theorem C_isWithin {p : Nat} {v : VV} (hI : InvB (rowOf p v)) {i j : Nat} (hi : i < 8) (hj : j < 6) (r : Int32) : F_X1_isWithin ((p + 3) + 2 + i) ((p + 4) + 17 + j) r v = some (decide (¬ r < apS (rowOf p v (ci j 0)) (rowOf p v (ki i 1)))) := by
  obtain ⟨a, ha, ea⟩ := hI.2.2.2.2.1 i hi 1 (by decide)
  obtain ⟨b, hb, eb⟩ := hI.2.2.2.2.2 j hj 0 (by decide)
  have ha : a ≤ 15 := ha
  have hb : b ≤ 15 := hb
  unfold F_X1_isWithin
  rw [rd_k p v hi (by decide), rd_c p v hj (by decide)]
  show (if r < apS _ _ then some false else some true) = _
  rw [ea, eb, ap_sym b (by omega) a (by omega)]
  by_cases h : r < apS (nI a) (nI b)
  · rw [if_pos h, decide_eq_false (fun z => z h)]
  · rw [if_neg h, decide_eq_true h]
theorem C_soundL {p i : Nat} (hi : i < 8) {c : RW} (hc : InvB c) (f x2 : Int32) : ∀ (k n j : Nat) (v : VV), j + k = ncS c → k < n → Fx c (rowOf p v) → InvB (rowOf p v) → ∃ v', L_X1_sound_25 n p ((p + 3) + 2 + i) x2 (noteS c i) (rcS (c (ki i 0)) (c (ki i 3)) (c (ki i 4)) f) (tmS (c (ki i 0))) (nI j) v = some v' ∧ rowOf p v' = kupS (itr (hrS c i f) j k (rowOf p v)) i ∧ Out p v v' := by
  obtain ⟨e3, h6⟩ := nc_eq hc
  intro k
  induction k with
  | zero =>
    intro n j v hjk hn hF hB
    obtain ⟨n, rfl⟩ : ∃ z, n = z + 1 := ⟨n - 1, by omega⟩
    obtain ⟨v', h1, h2, h3⟩ := C_goOn hB hi
    refine ⟨v', ?_, h2, h3⟩
    rw [L_X1_sound_25, if_pos (by rw [rd_3 p v, Fx_k hF (by omega), e3]; exact nI_le (by omega) (by omega)), h1]
    rfl
  | succ k ih =>
    intro n j v hjk hn hF hB
    obtain ⟨n, rfl⟩ : ∃ z, n = z + 1 := ⟨n - 1, by omega⟩
    have hj : j < 6 := by omega
    have hF2 := hrS_Fx hF i j f
    have hB2 := hrS_B hc hB hi hj f
    rw [itr_s]
    have ew : (decide (¬ rcS (c (ki i 0)) (c (ki i 3)) (c (ki i 4)) f < apS (rowOf p v (ci j 0)) (rowOf p v (ki i 1)))) = wiS c i j f := by
      unfold wiS
      rw [Fx_c hF (by decide), Fx_k hF (by simp only [ki]; omega)]
    simp only [L_X1_sound_25]
    rw [if_neg (by rw [rd_3 p v, Fx_k hF (by omega), e3]; exact nI_ge (by omega) (by omega)), gu_nI (by omega) (by decide), cl_nI (by omega), C_isWithin hB hi hj, bd_s, ew, gu_nI (by omega) (by decide), nI_1]
    by_cases hw : wiS c i j f = true
    · have e : hrS c i f j (rowOf p v) = writeS (rowOf p v) j (noteS c i) (tmS (c (ki i 0))) := by unfold hrS; rw [if_pos hw]
      obtain ⟨v1, g1, g2, g3⟩ := C_hear p v hj (noteS c i) (tmS (c (ki i 0)))
      rw [if_pos hw, g1, bd_s]
      rw [e, ← g2] at hF2 hB2 ⊢
      obtain ⟨v', q1, q2, q3⟩ := ih n (j + 1) v1 (by omega) (by omega) hF2 hB2
      exact ⟨v', q1, q2, g3.trans q3⟩
    · have e : hrS c i f j (rowOf p v) = rowOf p v := by unfold hrS; rw [if_neg hw]
      rw [if_neg hw, e]
      exact ih n (j + 1) v (by omega) (by omega) hF hB
theorem C_sound {p i : Nat} (hi : i < 8) {v : VV} (hI : InvB (rowOf p v)) (f : Int32) : ∃ v', F_X1_sound p ((p + 3) + 2 + i) f v = some v' ∧ rowOf p v' = blowS (rowOf p v) i f ∧ Out p v v' := by
  unfold F_X1_sound
  rw [C_gives p v hi, bd_s, C_reaches p v hi, bd_s, C_tempo hI hi, bd_s]
  exact C_soundL hi hI f f (ncS (rowOf p v)) fu 0 v (by omega) (by have := (nc_eq hI).2; unfold fu; omega) Fx.rf hI
theorem C_dayL {p : Nat} (f : Int32) (nk : Nat) : ∀ (k n i : Nat) (v : VV), i + k = nk → k < n → nk ≤ 8 → InvB (rowOf p v) → rowOf p v 1 = nI nk → ∃ v', L_X1_passDay_7 n p f (nI i) v = some v' ∧ rowOf p v' = upd (itr (oneS f) i k (rowOf p v)) 0 (if itr (oneS f) i k (rowOf p v) 0 + 1 < 99999 then itr (oneS f) i k (rowOf p v) 0 + 1 else 99999) ∧ Out p v v' := by
  intro k
  induction k with
  | zero =>
    intro n i v hik hn h8 hI h1
    obtain ⟨n, rfl⟩ : ∃ z, n = z + 1 := ⟨n - 1, by omega⟩
    rw [L_X1_passDay_7, if_pos (by rw [rd_1 p v, h1]; exact nI_le (by omega) (by omega))]
    exact ⟨_, rfl, (wr_0 p v _).1, (wr_0 p v _).2⟩
  | succ k ih =>
    intro n i v hik hn h8 hI h1
    obtain ⟨n, rfl⟩ : ∃ z, n = z + 1 := ⟨n - 1, by omega⟩
    have hi : i < 8 := by omega
    have hB := oneS_B hI hi f
    have h1' : oneS f i (rowOf p v) 1 = nI nk := by rw [oneS_20 (by omega)]; exact h1
    simp only [L_X1_passDay_7]
    rw [if_neg (by rw [rd_1 p v, h1]; exact nI_ge (by omega) (by omega)), itr_s, gu_nI (by omega) (by decide), cl_nI (by omega), nI_1, gu_nI (by omega) (by decide), gu_nI (by omega) (by decide), C_silent hI hi, bd_s]
    by_cases h0 : f = 0
    · have e : oneS f i (rowOf p v) = restS (rowOf p v) i := by unfold oneS; rw [if_pos h0]
      obtain ⟨v1, g1, g2, g3⟩ := C_rest p v hi
      rw [if_pos h0, g1, bd_s]
      rw [e, ← g2] at hB h1' ⊢
      obtain ⟨v', q1, q2, q3⟩ := ih n (i + 1) v1 (by omega) (by omega) h8 hB h1'
      exact ⟨v', q1, q2, g3.trans q3⟩
    · rw [if_neg h0]
      by_cases hs : rowOf p v (ki i 5) = 0
      · have e : oneS f i (rowOf p v) = blowS (rowOf p v) i f := by unfold oneS; rw [if_neg h0, if_pos hs]
        obtain ⟨v1, g1, g2, g3⟩ := C_sound hi hI f
        rw [if_neg (by rw [decide_eq_false (fun z => z hs)]; decide), g1, bd_s]
        rw [e, ← g2] at hB h1' ⊢
        obtain ⟨v', q1, q2, q3⟩ := ih n (i + 1) v1 (by omega) (by omega) h8 hB h1'
        exact ⟨v', q1, q2, g3.trans q3⟩
      · have e : oneS f i (rowOf p v) = rowOf p v := by unfold oneS; rw [if_neg h0, if_neg hs]
        rw [if_pos (decide_eq_true hs), e]
        exact ih n (i + 1) v (by omega) (by omega) h8 hI h1
theorem C_thick {p : Nat} {v : VV} (hI : InvB (rowOf p v)) : F_X1_thickness p v = some (fogS (rowOf p v)) := by
  obtain ⟨d, hd, ed⟩ := hI.1
  unfold F_X1_thickness fogS
  rw [rd_0 p v, ed, day6 hd, gu_nI (by omega) (by decide), cl_nI (by omega), rd_l p v (by omega)]
theorem C_day {p : Nat} {v : VV} (hI : InvB (rowOf p v)) : ∃ v', F_X1_passDay p v = some v' ∧ rowOf p v' = dayS (rowOf p v) ∧ Out p v v' := by
  unfold F_X1_passDay
  rw [C_thick hI, bd_s]
  obtain ⟨ek, hk⟩ := nk_eq hI
  exact C_dayL _ (nkS (rowOf p v)) (nkS (rowOf p v)) fu 0 v (by omega) (by unfold fu; omega) hk hI ek
theorem C_daysL {p : Nat} (N : Nat) (hN : N ≤ 200) : ∀ (k n i : Nat) (v : VV), i + k = N → k < n → InvB (rowOf p v) → ∃ v', L_X1_passDays_2 n p (nI N) (nI i) v = some v' ∧ rowOf p v' = daysS k (rowOf p v) ∧ Out p v v' := by
  intro k
  induction k with
  | zero =>
    intro n i v hik hn hI
    obtain ⟨n, rfl⟩ : ∃ z, n = z + 1 := ⟨n - 1, by omega⟩
    rw [L_X1_passDays_2, if_pos (nI_le (by omega) (by omega))]
    exact ⟨v, rfl, rfl, Out.rf⟩
  | succ k ih =>
    intro n i v hik hn hI
    obtain ⟨n, rfl⟩ : ∃ z, n = z + 1 := ⟨n - 1, by omega⟩
    obtain ⟨v1, g1, g2, g3⟩ := C_day hI
    rw [L_X1_passDays_2, if_neg (nI_ge (by omega) (by omega)), g1, bd_s, nI_1]
    obtain ⟨v', q1, q2, q3⟩ := ih n (i + 1) v1 (by omega) (by omega) (by rw [g2]; exact dayS_B hI)
    exact ⟨v', q1, by rw [q2, g2]; rfl, g3.trans q3⟩
theorem C_days {p : Nat} {v : VV} (hI : InvB (rowOf p v)) {N : Nat} (hN : N ≤ 200) : ∃ v', F_X1_passDays p (nI N) v = some v' ∧ rowOf p v' = daysS N (rowOf p v) ∧ Out p v v' := by
  unfold F_X1_passDays
  exact C_daysL N hN N fu 0 v (by omega) (by unfold fu; omega) hI
