/-! PURE PART 3: the reference's day -/
theorem M_doesHear {i j : Nat} (hi : i < 8) (hj : j < 6) (f : Int32) (v : VV) : F_X6_doesHear (nI j) (nI i) f v = some (if v 1 (ki i 5) = 0 then wiS (v 1) i j f else false) := by
  unfold F_X6_doesHear
  simp only [cIs0 hj, kIs1 hi, kIs5 hi, bd_s, M_reaches hi]
  refine if_some (fun _ => ?_) (fun _ => rfl)
  unfold wiS
  show (if rcS _ _ _ f < apS _ _ then some false else some true) = _
  by_cases h : rcS (v 1 (ki i 0)) (v 1 (ki i 3)) (v 1 (ki i 4)) f < apS (v 1 (ci j 0)) (v 1 (ki i 1))
  · rw [if_pos h, decide_eq_false (fun z => z h)]
  · rw [if_neg h, decide_eq_true h]
theorem M_more {x : Nat} (hx : x < 92) (a b : Int32) (v : VV) : F_X6_more (nI x) a b v = some (va_up v 1 (upd (v 1) x (if v 1 x + a < b then v 1 x + a else b))) := by
  unfold F_X6_more
  simp only [gu_nI hx (by decide), cl_nI (Nat.lt_trans hx (by decide))]
  rfl
theorem ki_lt {i f : Nat} (hi : i < 8) (hf : f < 6) : ki i f < 92 := by simp only [ki]; omega
theorem ci_lt {i f : Nat} (hi : i < 6) (hf : f < 4) : ci i f < 92 := by simp only [ci]; omega
theorem Fx_k {c c' : RW} (h : Fx c c') {x : Nat} (hx : x < 68) : c' x = c x := h x (by omega)
theorem Fx_c {c c' : RW} (h : Fx c c') {j f : Nat} (hf : f < 2) : c' (ci j f) = c (ci j f) := h _ (by simp only [ci]; omega)
theorem wiS_Fx {c c' : RW} (h : Fx c c') {i : Nat} (hi : i < 8) (j : Nat) (f : Int32) : wiS c' i j f = wiS c i j f := by
  unfold wiS
  rw [Fx_k h (x := ki i 0) (by simp only [ki]; omega), Fx_k h (x := ki i 3) (by simp only [ki]; omega), Fx_k h (x := ki i 4) (by simp only [ki]; omega), Fx_k h (x := ki i 1) (by simp only [ki]; omega), Fx_c h (by decide)]
theorem M_kup {i : Nat} (hi : i < 8) (v : VV) : (Option.bind (F_X6_turns (nI i) v) (fun r5 => Option.bind (F_X6_keeperAt (nI i) 4 v) (fun r7 => Option.bind (F_X6_tires (nI i) v) (fun r9 => Option.bind (F_X6_more r7 r9 99 v) (fun v12 => Option.bind (F_X6_keeperAt (nI i) 2 v12) (fun r14 => Option.bind (F_X6_keeperIs (nI i) 2 v12) (fun r16 => gu (gI r14 92) (some (pu v12 1 ((r14).toNatClampNeg) ((r16 + r5) - (r16 + r5) / 12 * 12)))))))))) = some (va_up v 1 (kupS (v 1) i)) := by
  simp only [M_turns hi, kAt4, M_tires hi, bd_s, M_more (ki_lt hi (by decide : 4 < 6)), kAt2, kIs2 hi, gu_nI (ki_lt hi (by decide : 2 < 6)) (by decide), cl_nI (Nat.lt_trans (ki_lt hi (by decide : 2 < 6)) (by decide)), pu_of_up, va_up_self]
  rw [upd_ne _ _ (show ki i 2 ≠ ki i 4 by simp only [ki]; omega)]
  rfl
theorem M_blowsL {i : Nat} (hi : i < 8) {c : RW} (hc : InvB c) (hs : c (ki i 5) = 0) (f : Int32) : ∀ (k n j : Nat) (v : VV), j + k = ncS c → k < n → Fx c (v 1) → L_X6_blows_9 n (nI i) f (noteS c i) (nI j) v = some (va_up v 1 (kupS (itr (hrS c i f) j k (v 1)) i)) := by
  obtain ⟨e3, h6⟩ := nc_eq hc
  intro k
  induction k with
  | zero =>
    intro n j v hjk hn hF
    obtain ⟨n, rfl⟩ : ∃ z, n = z + 1 := ⟨n - 1, by omega⟩
    rw [L_X6_blows_9, if_pos (by rw [Fx_k hF (by omega), e3]; exact nI_le (by omega) (by omega)), M_kup hi]
    rfl
  | succ k ih =>
    intro n j v hjk hn hF
    obtain ⟨n, rfl⟩ : ∃ z, n = z + 1 := ⟨n - 1, by omega⟩
    have hj : j < 6 := by omega
    have hs' : v 1 (ki i 5) = 0 := by rw [Fx_k hF (by simp only [ki]; omega)]; exact hs
    rw [L_X6_blows_9, if_neg (by rw [Fx_k hF (by omega), e3]; exact nI_ge (by omega) (by omega)), M_doesHear hi hj, if_pos hs', bd_s, wiS_Fx hF hi, nI_1, itr_s]
    have hF2 := hrS_Fx hF i j f
    unfold hrS at hF2
    by_cases hw : wiS c i j f = true
    · rw [if_pos hw, M_tempo hi, bd_s, M_writes hj, bd_s, ih n (j + 1) _ (by omega) (by omega) (by rw [va_up_self]; rw [if_pos hw] at hF2; rw [Fx_k hF (by simp only [ki]; omega)]; exact hF2), up_up, va_up_self]
      unfold hrS
      rw [if_pos hw, Fx_k hF (x := ki i 0) (by simp only [ki]; omega)]
    · rw [if_neg hw, ih n (j + 1) v (by omega) (by omega) hF]
      unfold hrS
      rw [if_neg hw]
theorem M_blows {i : Nat} (hi : i < 8) (f : Int32) {v : VV} (hc : InvB (v 1)) (hs : v 1 (ki i 5) = 0) : F_X6_blows (nI i) f v = some (va_up v 1 (blowS (v 1) i f)) := by
  unfold F_X6_blows
  rw [M_gives hi, bd_s]
  exact M_blowsL hi hc hs f (ncS (v 1)) fu 0 v (by omega) (by have := (nc_eq hc).2; unfold fu; omega) Fx.rf
theorem itr_lt {f : Nat → RW → RW} {x : Nat} (hf : ∀ j c, f j c x = c x) (i k : Nat) (c : RW) : itr f i k c x = c x :=
  itr_keep (P := fun c' => c' x = c x) k i c (fun j c' _ _ h => (hf j c').trans h) rfl
theorem writeS_lt {x : Nat} (hx : x < 68) (c : RW) (j : Nat) (n t : Int32) : writeS c j n t x = c x := writeS_Fx (Fx.rf (c := c)) j n t x (by omega)
theorem hrS_lt {x : Nat} (hx : x < 68) (c : RW) (i : Nat) (f : Int32) (j : Nat) (c' : RW) : hrS c i f j c' x = c' x := by
  unfold hrS
  split
  · exact writeS_lt hx _ _ _ _
  · rfl
theorem kupS_lt {x : Nat} {i : Nat} (h2 : x ≠ ki i 2) (h4 : x ≠ ki i 4) (c : RW) : kupS c i x = c x := by
  unfold kupS
  rw [upd_ne _ _ h2, upd_ne _ _ h4]
theorem blowS_lt {x : Nat} (hx : x < 68) {i : Nat} (h2 : x ≠ ki i 2) (h4 : x ≠ ki i 4) (c : RW) (f : Int32) : blowS c i f x = c x := by
  unfold blowS
  rw [kupS_lt h2 h4]
  exact itr_lt (fun j c' => hrS_lt hx c i f j c') _ _ _
theorem oneS_lt {x : Nat} (hx : x < 68) {i : Nat} (h2 : x ≠ ki i 2) (h4 : x ≠ ki i 4) (c : RW) (f : Int32) : oneS f i c x = c x := by
  unfold oneS
  split
  · unfold restS; rw [upd_ne _ _ h4]
  · split
    · exact blowS_lt hx h2 h4 c f
    · rfl
theorem oneS_20 {x : Nat} (hx : x < 20) (i : Nat) (c : RW) (f : Int32) : oneS f i c x = c x := oneS_lt (by omega) (by simp only [ki]; omega) (by simp only [ki]; omega) c f
theorem M_dayL (f : Int32) (nk : Nat) : ∀ (k n i : Nat) (v : VV), i + k = nk → k < n → nk ≤ 8 → InvB (v 1) → v 1 1 = nI nk → L_X6_day_12 n f (nI i) v = some (va_up v 1 (upd (itr (oneS f) i k (v 1)) 0 (if itr (oneS f) i k (v 1) 0 + 1 < 99999 then itr (oneS f) i k (v 1) 0 + 1 else 99999))) := by
  intro k
  induction k with
  | zero =>
    intro n i v hik hn h8 hI h1
    obtain ⟨n, rfl⟩ : ∃ z, n = z + 1 := ⟨n - 1, by omega⟩
    rw [L_X6_day_12, if_pos (by rw [h1]; exact nI_le (by omega) (by omega)), show (0 : Int32) = nI 0 from rfl, M_more (by decide), bd_s]
    rfl
  | succ k ih =>
    intro n i v hik hn h8 hI h1
    obtain ⟨n, rfl⟩ : ∃ z, n = z + 1 := ⟨n - 1, by omega⟩
    have hi : i < 8 := by omega
    rw [L_X6_day_12, if_neg (by rw [h1]; exact nI_ge (by omega) (by omega)), itr_s]
    have hB := oneS_B hI hi f
    have h1' : oneS f i (v 1) 1 = nI nk := by rw [oneS_20 (by omega)]; exact h1
    by_cases h0 : f = 0
    · rw [if_pos h0, kAt4, bd_s, kIs4 hi, bd_s, gu_nI (ki_lt hi (by decide)) (by decide), cl_nI (Nat.lt_trans (ki_lt hi (by decide : 4 < 6)) (by decide)), nI_1]
      have e : oneS f i (v 1) = restS (v 1) i := by unfold oneS; rw [if_pos h0]
      rw [e] at hB h1' ⊢
      rw [ih n (i + 1) _ (by omega) (by omega) h8 (by rw [pu_up, va_up_self]; exact hB) (by rw [pu_up, va_up_self]; exact h1'), pu_up, up_up, va_up_self]
      rfl
    · rw [if_neg h0, kIs5 hi, bd_s]
      by_cases hs : v 1 (ki i 5) = 0
      · have e : oneS f i (v 1) = blowS (v 1) i f := by unfold oneS; rw [if_neg h0, if_pos hs]
        rw [e] at hB h1' ⊢
        rw [if_pos hs, M_blows hi f hI hs, bd_s, nI_1, ih n (i + 1) _ (by omega) (by omega) h8 (by rw [va_up_self]; exact hB) (by rw [va_up_self]; exact h1'), up_up, va_up_self]
      · have e : oneS f i (v 1) = v 1 := by unfold oneS; rw [if_neg h0, if_neg hs]
        rw [if_neg hs, nI_1, e, ih n (i + 1) v (by omega) (by omega) h8 hI h1]
theorem day6 {d : Nat} (hd : d ≤ 99999) : nI d - nI d / 6 * 6 = nI (d % 6) := pk_rem (a := d) (d := 6) (by omega) (by omega) (by omega)
theorem M_placeNow {v : VV} (hI : InvB (v 1)) : ∃ d, d < 6 ∧ F_X6_placeNow v = some (nI (4 + d)) ∧ fogS (v 1) = v 1 (4 + d) ∧ v 1 0 - v 1 0 / 6 * 6 = nI d := by
  obtain ⟨d, hd, ed⟩ := hI.1
  refine ⟨d % 6, by omega, ?_, ?_, ?_⟩
  · unfold F_X6_placeNow
    rw [ed, day6 hd, show (4 : Int32) = nI 4 from rfl, nI_add]
  · unfold fogS
    rw [ed, day6 hd, cl_nI (by omega)]
  · rw [ed, day6 hd]
theorem M_day {v : VV} (hI : InvB (v 1)) : F_X6_day v = some (va_up v 1 (dayS (v 1))) := by
  obtain ⟨d, hd, e1, e2, -⟩ := M_placeNow hI
  unfold F_X6_day
  rw [e1, bd_s, gu_nI (by omega) (by decide), cl_nI (by omega), ← e2]
  obtain ⟨ek, hk⟩ := nk_eq hI
  exact M_dayL _ (nkS (v 1)) (nkS (v 1)) fu 0 v (by omega) (by unfold fu; omega) hk hI ek
/-- days: n of them -/
def daysS : Nat → RW → RW
  | 0, c => c
  | n + 1, c => daysS n (dayS c)
theorem daysS_B : ∀ (n : Nat) {c : RW}, InvB c → InvB (daysS n c)
  | 0, _, h => h
  | n + 1, _, h => daysS_B n (dayS_B h)
theorem daysS_s (n : Nat) (c : RW) : daysS (n + 1) c = dayS (daysS n c) := by
  induction n generalizing c with
  | zero => rfl
  | succ n ih => rw [daysS, ih (dayS c)]; rfl
theorem M_daysGoL (N : Nat) (hN : N ≤ 200) : ∀ (k n i : Nat) (v : VV), i + k = N → k < n → InvB (v 1) → L_X6_daysGo_2 n (nI N) (nI i) v = some (va_up v 1 (daysS k (v 1))) := by
  intro k
  induction k with
  | zero =>
    intro n i v hik hn hI
    obtain ⟨n, rfl⟩ : ∃ z, n = z + 1 := ⟨n - 1, by omega⟩
    rw [L_X6_daysGo_2, if_pos (nI_le (by omega) (by omega)), daysS, up_id]
  | succ k ih =>
    intro n i v hik hn hI
    obtain ⟨n, rfl⟩ : ∃ z, n = z + 1 := ⟨n - 1, by omega⟩
    rw [L_X6_daysGo_2, if_neg (nI_ge (by omega) (by omega)), M_day hI, bd_s, nI_1, ih n (i + 1) _ (by omega) (by omega) (by rw [va_up_self]; exact dayS_B hI), up_up, va_up_self]
    rfl
theorem M_daysGo {v : VV} (hI : InvB (v 1)) {N : Nat} (hN : N ≤ 200) : F_X6_daysGo (nI N) v = some (va_up v 1 (daysS N (v 1))) := by
  unfold F_X6_daysGo
  exact M_daysGoL N hN N fu 0 v (by omega) (by unfold fu; omega) hI
