/-! THE CELLS BY THEIR PLACES -/
def adF (wm w u1 u2 u3 : Nat → Nat) : Nat → Nat := fun i => if i < 12 then wm i else if i < 25 then w (i - 12) else if i < 58 then u1 (i - 25) else if i < 91 then u2 (i - 58) else u3 (i - 91)
def gF (G : GG) (wm w u1 u2 u3 : Nat → Nat) : GG := (gD G, adF wm w u1 u2 u3, ca G, sa G, sk G, sv G)
def vst : VV := fun i => if i = 1 then mN else if i = 27 ∨ i = 60 ∨ i = 93 then fl 10 10 (-1) z0 else if i = 25 ∨ i = 58 ∨ i = 91 then upd z0 7 1 else z0
theorem adF_a {wm w u1 u2 u3 : Nat → Nat} {i k : Nat} (h : i = 12 + k) (hk : k < 13) : adF wm w u1 u2 u3 i = w k := by
  subst h
  unfold adF
  rw [if_neg (by omega), if_pos (by omega), show 12 + k - 12 = k by omega]
theorem adF_1 {wm w u1 u2 u3 : Nat → Nat} {i k : Nat} (h : i = 25 + k) (hk : k < 33) : adF wm w u1 u2 u3 i = u1 k := by
  subst h
  unfold adF
  rw [if_neg (by omega), if_neg (by omega), if_pos (by omega), show 25 + k - 25 = k by omega]
theorem adF_2 {wm w u1 u2 u3 : Nat → Nat} {i k : Nat} (h : i = 58 + k) (hk : k < 33) : adF wm w u1 u2 u3 i = u2 k := by
  subst h
  unfold adF
  rw [if_neg (by omega), if_neg (by omega), if_neg (by omega), if_pos (by omega), show 58 + k - 58 = k by omega]
theorem adF_3 {wm w u1 u2 u3 : Nat → Nat} {i k : Nat} (h : i = 91 + k) (hk : k < 33) : adF wm w u1 u2 u3 i = u3 k := by
  subst h
  unfold adF
  rw [if_neg (by omega), if_neg (by omega), if_neg (by omega), if_neg (by omega), show 91 + k - 91 = k by omega]
section ASM
variable {G : GG} {wm w u1 u2 u3 : Nat → Nat} {H : Heap}
set_option maxHeartbeats 8000000 in
theorem as_m (hP : va_P (gD G) vwCl (mW G wm) H) : ∀ i, i < 12 → va_at (gD G) vwCl (adF wm w u1 u2 u3 i, cf (gF G wm w u1 u2 u3) vst i) H
  | 0, _ => hP 0 _ rfl
  | 1, _ => hP 1 _ rfl
  | 2, _ => hP 2 _ rfl
  | 3, _ => hP 3 _ rfl
  | 4, _ => hP 4 _ rfl
  | 5, _ => hP 5 _ rfl
  | 6, _ => hP 6 _ rfl
  | 7, _ => hP 7 _ rfl
  | 8, _ => hP 8 _ rfl
  | 9, _ => hP 9 _ rfl
  | 10, _ => hP 10 _ rfl
  | 11, _ => hP 11 _ rfl
  | i + 12, h => absurd h (by omega)
set_option maxHeartbeats 8000000 in
theorem as_f (hP : va_P (gD G) vwCl (fP G w u1 u2 u3) H) : ∀ i, i < 13 → va_at (gD G) vwCl (adF wm w u1 u2 u3 (12 + i), cf (gF G wm w u1 u2 u3) vst (12 + i)) H
  | 0, _ => hP 0 _ rfl
  | 1, _ => hP 1 _ rfl
  | 2, _ => va_at_q (n := 4) (cA := ca G 11) (f := fun j => some (w (3 + j))) (g := fun j => some (adF wm w u1 u2 u3 (14 + 1 + j))) (hP 2 _ rfl) (fun j hj => congrArg some (adF_a (by omega) (by omega)).symm)
  | 3, _ => hP 3 _ rfl
  | 4, _ => hP 4 _ rfl
  | 5, _ => hP 5 _ rfl
  | 6, _ => hP 6 _ rfl
  | 7, _ => hP 7 _ rfl
  | 8, _ => hP 8 _ rfl
  | 9, _ => hP 9 _ rfl
  | 10, _ => hP 10 _ rfl
  | 11, _ => hP 11 _ rfl
  | 12, _ => hP 12 _ rfl
  | i + 13, h => absurd h (by omega)
set_option maxHeartbeats 8000000 in
theorem as_1 (hP : va_P (gD G) vwCl (cW G u1) H) : ∀ i, i < 33 → va_at (gD G) vwCl (adF wm w u1 u2 u3 (25 + i), cf (gF G wm w u1 u2 u3) vst (25 + i)) H
  | 0, _ => hP 0 _ rfl
  | 1, _ => hP 1 _ rfl
  | 2, _ => hP 2 _ rfl
  | 3, _ => va_at_q (n := 8) (cA := ca G 10) (f := fun j => some (u1 (5 + j))) (g := fun j => some (adF wm w u1 u2 u3 (28 + 2 + j))) (hP 3 _ rfl) (fun j hj => congrArg some (adF_1 (by omega) (by omega)).symm)
  | 4, _ => va_at_q (n := 6) (cA := ca G 9) (f := fun j => some (u1 (21 + j))) (g := fun j => some (adF wm w u1 u2 u3 (29 + 17 + j))) (hP 4 _ rfl) (fun j hj => congrArg some (adF_1 (by omega) (by omega)).symm)
  | 5, _ => hP 5 _ rfl
  | 6, _ => hP 6 _ rfl
  | 7, _ => hP 7 _ rfl
  | 8, _ => hP 8 _ rfl
  | 9, _ => hP 9 _ rfl
  | 10, _ => hP 10 _ rfl
  | 11, _ => hP 11 _ rfl
  | 12, _ => hP 12 _ rfl
  | 13, _ => hP 13 _ rfl
  | 14, _ => hP 14 _ rfl
  | 15, _ => hP 15 _ rfl
  | 16, _ => hP 16 _ rfl
  | 17, _ => hP 17 _ rfl
  | 18, _ => hP 18 _ rfl
  | 19, _ => hP 19 _ rfl
  | 20, _ => hP 20 _ rfl
  | 21, _ => hP 21 _ rfl
  | 22, _ => hP 22 _ rfl
  | 23, _ => hP 23 _ rfl
  | 24, _ => hP 24 _ rfl
  | 25, _ => hP 25 _ rfl
  | 26, _ => hP 26 _ rfl
  | 27, _ => hP 27 _ rfl
  | 28, _ => hP 28 _ rfl
  | 29, _ => hP 29 _ rfl
  | 30, _ => hP 30 _ rfl
  | 31, _ => hP 31 _ rfl
  | 32, _ => hP 32 _ rfl
  | i + 33, h => absurd h (by omega)
set_option maxHeartbeats 8000000 in
theorem as_2 (hP : va_P (gD G) vwCl (cW G u2) H) : ∀ i, i < 33 → va_at (gD G) vwCl (adF wm w u1 u2 u3 (58 + i), cf (gF G wm w u1 u2 u3) vst (58 + i)) H
  | 0, _ => hP 0 _ rfl
  | 1, _ => hP 1 _ rfl
  | 2, _ => hP 2 _ rfl
  | 3, _ => va_at_q (n := 8) (cA := ca G 10) (f := fun j => some (u2 (5 + j))) (g := fun j => some (adF wm w u1 u2 u3 (61 + 2 + j))) (hP 3 _ rfl) (fun j hj => congrArg some (adF_2 (by omega) (by omega)).symm)
  | 4, _ => va_at_q (n := 6) (cA := ca G 9) (f := fun j => some (u2 (21 + j))) (g := fun j => some (adF wm w u1 u2 u3 (62 + 17 + j))) (hP 4 _ rfl) (fun j hj => congrArg some (adF_2 (by omega) (by omega)).symm)
  | 5, _ => hP 5 _ rfl
  | 6, _ => hP 6 _ rfl
  | 7, _ => hP 7 _ rfl
  | 8, _ => hP 8 _ rfl
  | 9, _ => hP 9 _ rfl
  | 10, _ => hP 10 _ rfl
  | 11, _ => hP 11 _ rfl
  | 12, _ => hP 12 _ rfl
  | 13, _ => hP 13 _ rfl
  | 14, _ => hP 14 _ rfl
  | 15, _ => hP 15 _ rfl
  | 16, _ => hP 16 _ rfl
  | 17, _ => hP 17 _ rfl
  | 18, _ => hP 18 _ rfl
  | 19, _ => hP 19 _ rfl
  | 20, _ => hP 20 _ rfl
  | 21, _ => hP 21 _ rfl
  | 22, _ => hP 22 _ rfl
  | 23, _ => hP 23 _ rfl
  | 24, _ => hP 24 _ rfl
  | 25, _ => hP 25 _ rfl
  | 26, _ => hP 26 _ rfl
  | 27, _ => hP 27 _ rfl
  | 28, _ => hP 28 _ rfl
  | 29, _ => hP 29 _ rfl
  | 30, _ => hP 30 _ rfl
  | 31, _ => hP 31 _ rfl
  | 32, _ => hP 32 _ rfl
  | i + 33, h => absurd h (by omega)
set_option maxHeartbeats 8000000 in
theorem as_3 (hP : va_P (gD G) vwCl (cW G u3) H) : ∀ i, i < 33 → va_at (gD G) vwCl (adF wm w u1 u2 u3 (91 + i), cf (gF G wm w u1 u2 u3) vst (91 + i)) H
  | 0, _ => hP 0 _ rfl
  | 1, _ => hP 1 _ rfl
  | 2, _ => hP 2 _ rfl
  | 3, _ => va_at_q (n := 8) (cA := ca G 10) (f := fun j => some (u3 (5 + j))) (g := fun j => some (adF wm w u1 u2 u3 (94 + 2 + j))) (hP 3 _ rfl) (fun j hj => congrArg some (adF_3 (by omega) (by omega)).symm)
  | 4, _ => va_at_q (n := 6) (cA := ca G 9) (f := fun j => some (u3 (21 + j))) (g := fun j => some (adF wm w u1 u2 u3 (95 + 17 + j))) (hP 4 _ rfl) (fun j hj => congrArg some (adF_3 (by omega) (by omega)).symm)
  | 5, _ => hP 5 _ rfl
  | 6, _ => hP 6 _ rfl
  | 7, _ => hP 7 _ rfl
  | 8, _ => hP 8 _ rfl
  | 9, _ => hP 9 _ rfl
  | 10, _ => hP 10 _ rfl
  | 11, _ => hP 11 _ rfl
  | 12, _ => hP 12 _ rfl
  | 13, _ => hP 13 _ rfl
  | 14, _ => hP 14 _ rfl
  | 15, _ => hP 15 _ rfl
  | 16, _ => hP 16 _ rfl
  | 17, _ => hP 17 _ rfl
  | 18, _ => hP 18 _ rfl
  | 19, _ => hP 19 _ rfl
  | 20, _ => hP 20 _ rfl
  | 21, _ => hP 21 _ rfl
  | 22, _ => hP 22 _ rfl
  | 23, _ => hP 23 _ rfl
  | 24, _ => hP 24 _ rfl
  | 25, _ => hP 25 _ rfl
  | 26, _ => hP 26 _ rfl
  | 27, _ => hP 27 _ rfl
  | 28, _ => hP 28 _ rfl
  | 29, _ => hP 29 _ rfl
  | 30, _ => hP 30 _ rfl
  | 31, _ => hP 31 _ rfl
  | 32, _ => hP 32 _ rfl
  | i + 33, h => absurd h (by omega)
theorem va_P_l {D : va_G} {cl : List vw_C} {P T : va_W} {H : Heap} (hP : va_P D cl (P ++ T) H) : va_P D cl P H := fun k q h => hP k q (by rw [List.getElem?_append_left (List.getElem?_eq_some_iff.mp h).1]; exact h)
theorem va_P_r {D : va_G} {cl : List vw_C} {P T : va_W} {H : Heap} (hP : va_P D cl (P ++ T) H) : va_P D cl T H := fun k q h => hP (P.length + k) q (by rw [List.getElem?_append_right (by omega), Nat.add_sub_cancel_left]; exact h)
theorem as_W (hP : va_P (gD G) vwCl (fW G w u1 u2 u3 ++ mW G wm) H) : Wd (gF G wm w u1 u2 u3) vst H := by
  have hm := va_P_r hP
  have hf : va_P (gD G) vwCl (fP G w u1 u2 u3 ++ ((cW G u1 ++ cW G u2) ++ cW G u3)) H := va_P_l hP
  have h0 := va_P_l hf
  have h3 := va_P_r (va_P_r hf)
  have h1 := va_P_l (va_P_l (va_P_r hf))
  have h2 := va_P_r (va_P_l (va_P_r hf))
  intro k q hk
  have hl := (List.getElem?_eq_some_iff.mp hk).1
  have hlt : k < 124 := by
    have : (wl (gF G wm w u1 u2 u3) vst).length = 124 := by unfold wl; rw [List.length_map, List.length_range]
    omega
  rw [wl_at hlt] at hk
  have hk := Option.some.inj hk
  subst hk
  show va_at (gD G) vwCl (adF wm w u1 u2 u3 k, cf (gF G wm w u1 u2 u3) vst k) H
  rcases Nat.lt_or_ge k 12 with q | q
  · exact as_m hm k q
  · rcases Nat.lt_or_ge k 25 with q1 | q1
    · obtain ⟨i, rfl⟩ : ∃ i, k = 12 + i := ⟨k - 12, by omega⟩
      exact as_f h0 i (by omega)
    · rcases Nat.lt_or_ge k 58 with q2 | q2
      · obtain ⟨i, rfl⟩ : ∃ i, k = 25 + i := ⟨k - 25, by omega⟩
        exact as_1 h1 i (by omega)
      · rcases Nat.lt_or_ge k 91 with q3 | q3
        · obtain ⟨i, rfl⟩ : ∃ i, k = 58 + i := ⟨k - 58, by omega⟩
          exact as_2 h2 i (by omega)
        · obtain ⟨i, rfl⟩ : ∃ i, k = 91 + i := ⟨k - 91, by omega⟩
          exact as_3 h3 i (by omega)
set_option maxRecDepth 100000 in
theorem as_fst : (fW G w u1 u2 u3 ++ mW G wm).map Prod.fst = (List.range 124).map (fun k => adF wm w u1 u2 u3 (if k < 112 then k + 12 else k - 112)) := rfl
theorem as_at {k : Nat} (hk : k < 124) : ∃ e : va_E, (fW G w u1 u2 u3 ++ mW G wm)[if k < 12 then k + 112 else k - 12]? = some (adF wm w u1 u2 u3 k, e) := by
  generalize hi : (if k < 12 then k + 112 else k - 12) = i
  have hi1 : i < 124 ∧ (if i < 112 then i + 12 else i - 112) = k := by
    subst hi
    by_cases h : k < 12
    · rw [if_pos h]; exact ⟨by omega, by rw [if_neg (by omega)]; omega⟩
    · rw [if_neg h]; exact ⟨by omega, by rw [if_pos (by omega)]; omega⟩
  have e : ((fW G w u1 u2 u3 ++ mW G wm).map Prod.fst)[i]? = some (adF wm w u1 u2 u3 k) := by
    rw [as_fst, List.getElem?_map, List.getElem?_range hi1.1]
    show some (adF wm w u1 u2 u3 (if i < 112 then i + 12 else i - 112)) = _
    rw [hi1.2]
  rw [List.getElem?_map] at e
  cases hq : (fW G w u1 u2 u3 ++ mW G wm)[i]? with
  | none => rw [hq] at e; cases e
  | some q =>
    rw [hq] at e
    have e : q.1 = adF wm w u1 u2 u3 k := Option.some.inj e
    exact ⟨q.2, by rw [← e]⟩
theorem as_I {A : Nat → Prop} (hD : va_D A (fW G w u1 u2 u3 ++ mW G wm)) : Inj (gF G wm w u1 u2 u3) ∧ ∀ q, gA (gF G wm w u1 u2 u3) q → A q := by
  refine ⟨fun i j hi hj hij => ?_, fun q hq => ?_⟩
  · obtain ⟨e1, h1⟩ := as_at (G := G) (wm := wm) (w := w) (u1 := u1) (u2 := u2) (u3 := u3) hi
    obtain ⟨e2, h2⟩ := as_at (G := G) (wm := wm) (w := w) (u1 := u1) (u2 := u2) (u3 := u3) hj
    have := hD.1 _ _ _ _ h1 h2 hij
    by_cases p1 : i < 12
    · by_cases p2 : j < 12
      · rw [if_pos p1, if_pos p2] at this; omega
      · rw [if_pos p1, if_neg p2] at this; omega
    · by_cases p2 : j < 12
      · rw [if_neg p1, if_pos p2] at this; omega
      · rw [if_neg p1, if_neg p2] at this; omega
  · obtain ⟨i, hi, rfl⟩ := hq
    obtain ⟨e1, h1⟩ := as_at (G := G) (wm := wm) (w := w) (u1 := u1) (u2 := u2) (u3 := u3) hi
    exact hD.2 _ _ h1
end ASM
theorem InvB_z {c : RW} (h0 : c 0 = 0) (h1 : c 1 = 0) (h3 : c 3 = 0) (h4 : ∀ j, j < 6 → c (4 + j) = 0) (hk : ∀ i, i < 8 → ∀ f, f < 6 → c (ki i f) = 0) (hc : ∀ j, j < 6 → ∀ f, f < 4 → c (ci j f) = 0) : InvB c := ⟨⟨0, by omega, h0⟩, ⟨0, by omega, h1⟩, ⟨0, by omega, h3⟩, fun j hj => ⟨0, by omega, h4 j hj⟩, fun i hi f hf => ⟨0, by omega, hk i hi f hf⟩, fun j hj f hf => ⟨0, by omega, hc j hj f hf⟩⟩
theorem rel_0 : Rel vst := by
  refine ⟨⟨InvB_z (by decide +kernel) (by decide +kernel) (by decide +kernel) (by decide +kernel) (by decide +kernel) (by decide +kernel), InvB_z (by decide +kernel) (by decide +kernel) (by decide +kernel) (by decide +kernel) (by decide +kernel) (by decide +kernel), ⟨by decide +kernel, by decide +kernel, by decide +kernel⟩, fun j hj => Or.inl (?_)⟩, InvB_z (by decide +kernel) (by decide +kernel) (by decide +kernel) (by decide +kernel) (by decide +kernel) (by decide +kernel), ⟨InvB_z (by decide +kernel) (by decide +kernel) (by decide +kernel) (by decide +kernel) (by decide +kernel) (by decide +kernel), InvB_z (by decide +kernel) (by decide +kernel) (by decide +kernel) (by decide +kernel) (by decide +kernel) (by decide +kernel), rfl, Or.inl rfl⟩, ⟨by decide +kernel, by decide +kernel⟩, ⟨0, by omega, rfl, rfl, fun j hj => absurd hj (by omega)⟩, ?_⟩
  · exact (by decide +kernel : ∀ j, j < 10 → vst 1 (10 + j) = -1) j hj
  · intro s hs
    exact ⟨(by decide +kernel : ∀ s, s < 4 → vst (15 + s) 1 = vst 7 s) s hs, Or.inl ((by decide +kernel : ∀ s, s < 4 → vst 7 s = 0) s hs), ⟨0, by omega, (by decide +kernel : ∀ s, s < 4 → vst (15 + s) 2 = nI 0) s hs, (by decide +kernel : ∀ s, s < 4 → vst 8 s = nI 0) s hs⟩, (by decide +kernel : ∀ s, s < 4 → ∀ j, j < 40 → vst (19 + s) j = vst 9 (40 * s + j)) s hs⟩
