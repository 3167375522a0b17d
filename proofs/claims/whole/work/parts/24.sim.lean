/-! PURE PART 5: rows that agree where it counts -/
def sim (c m : RW) : Prop := (∀ y, y < 20 → c y = m y) ∧ (∀ i, i < nkS m → ∀ f, f < 6 → c (ki i f) = m (ki i f)) ∧ (∀ j, j < ncS m → ∀ f, f < 4 → c (ci j f) = m (ci j f))
theorem sim.rf {c : RW} : sim c c := ⟨fun _ _ => rfl, fun _ _ _ _ => rfl, fun _ _ _ _ => rfl⟩
theorem sim_updK {c m : RW} (h : sim c m) {i f : Nat} (hf : f < 6) (x : Int32) : sim (upd c (ki i f) x) (upd m (ki i f) x) := by
  have e1 : nkS (upd m (ki i f) x) = nkS m := by simp only [nkS]; rw [upd_ne _ _ (by simp only [ki]; omega)]
  have e3 : ncS (upd m (ki i f) x) = ncS m := by simp only [ncS]; rw [upd_ne _ _ (by simp only [ki]; omega)]
  refine ⟨fun y hy => ?_, fun i' hi' f' hf' => ?_, fun j hj f' hf' => ?_⟩
  · rw [upd_ne _ _ (by simp only [ki]; omega), upd_ne _ _ (by simp only [ki]; omega)]; exact h.1 y hy
  · rw [e1] at hi'
    by_cases e : ki i' f' = ki i f
    · rw [e, upd_self, upd_self]
    · rw [upd_ne _ _ e, upd_ne _ _ e]; exact h.2.1 i' hi' f' hf'
  · rw [e3] at hj
    by_cases e : ci j f' = ki i f
    · rw [e, upd_self, upd_self]
    · rw [upd_ne _ _ e, upd_ne _ _ e]; exact h.2.2 j hj f' hf'
theorem sim_updC {c m : RW} (h : sim c m) {i f : Nat} (hf : f < 4) (x : Int32) : sim (upd c (ci i f) x) (upd m (ci i f) x) := by
  have e1 : nkS (upd m (ci i f) x) = nkS m := by simp only [nkS]; rw [upd_ne _ _ (by simp only [ci]; omega)]
  have e3 : ncS (upd m (ci i f) x) = ncS m := by simp only [ncS]; rw [upd_ne _ _ (by simp only [ci]; omega)]
  refine ⟨fun y hy => ?_, fun i' hi' f' hf' => ?_, fun j hj f' hf' => ?_⟩
  · rw [upd_ne _ _ (by simp only [ci]; omega), upd_ne _ _ (by simp only [ci]; omega)]; exact h.1 y hy
  · rw [e1] at hi'
    by_cases e : ki i' f' = ci i f
    · rw [e, upd_self, upd_self]
    · rw [upd_ne _ _ e, upd_ne _ _ e]; exact h.2.1 i' hi' f' hf'
  · rw [e3] at hj
    by_cases e : ci j f' = ci i f
    · rw [e, upd_self, upd_self]
    · rw [upd_ne _ _ e, upd_ne _ _ e]; exact h.2.2 j hj f' hf'
theorem sim_updY {c m : RW} (h : sim c m) {y : Nat} (hy : y < 20) (h1 : y ≠ 1) (h3 : y ≠ 3) (x : Int32) : sim (upd c y x) (upd m y x) := by
  have e1 : nkS (upd m y x) = nkS m := by simp only [nkS]; rw [upd_ne _ _ (Ne.symm h1)]
  have e3 : ncS (upd m y x) = ncS m := by simp only [ncS]; rw [upd_ne _ _ (Ne.symm h3)]
  refine ⟨fun z hz => ?_, fun i' hi' f' hf' => ?_, fun j hj f' hf' => ?_⟩
  · by_cases e : z = y
    · rw [e, upd_self, upd_self]
    · rw [upd_ne _ _ e, upd_ne _ _ e]; exact h.1 z hz
  · rw [e1] at hi'
    rw [upd_ne _ _ (by simp only [ki]; omega), upd_ne _ _ (by simp only [ki]; omega)]; exact h.2.1 i' hi' f' hf'
  · rw [e3] at hj
    rw [upd_ne _ _ (by simp only [ci]; omega), upd_ne _ _ (by simp only [ci]; omega)]; exact h.2.2 j hj f' hf'
theorem sim_nk {c m : RW} (h : sim c m) : nkS c = nkS m := by simp only [nkS]; rw [h.1 1 (by decide)]
theorem sim_nc {c m : RW} (h : sim c m) : ncS c = ncS m := by simp only [ncS]; rw [h.1 3 (by decide)]
theorem sim_note {c m : RW} (h : sim c m) {i : Nat} (hi : i < nkS m) : noteS c i = noteS m i := by
  unfold noteS
  rw [h.2.1 i hi 0 (by decide), h.2.1 i hi 2 (by decide), h.2.1 i hi 4 (by decide), h.1 0 (by decide)]
theorem sim_wi {c m : RW} (h : sim c m) {i j : Nat} (hi : i < nkS m) (hj : j < ncS m) (f : Int32) : wiS c i j f = wiS m i j f := by
  unfold wiS
  rw [h.2.1 i hi 0 (by decide), h.2.1 i hi 3 (by decide), h.2.1 i hi 4 (by decide), h.2.1 i hi 1 (by decide), h.2.2 j hj 0 (by decide)]
theorem sim_write {c m : RW} (h : sim c m) {j : Nat} (hj : j < ncS m) (n t : Int32) : sim (writeS c j n t) (writeS m j n t) := by
  unfold writeS
  rw [h.2.2 j hj 1 (by decide), h.2.2 j hj 2 (by decide), h.2.2 j hj 3 (by decide)]
  (repeat' split)
  · exact sim_updC h (by decide) _
  · exact sim_updC (sim_updC h (by decide) _) (by decide) _
  · exact sim_updC h (by decide) _
  · exact h
theorem sim_kup {c m : RW} (h : sim c m) {i : Nat} (hi : i < nkS m) : sim (kupS c i) (kupS m i) := by
  unfold kupS
  rw [h.2.1 i hi 0 (by decide), h.2.1 i hi 2 (by decide), h.2.1 i hi 4 (by decide), h.1 0 (by decide)]
  exact sim_updK (sim_updK h (by decide) _) (by decide) _
theorem hrS_3 (c : RW) (i : Nat) (f : Int32) (j : Nat) (c' : RW) : ncS (hrS c i f j c') = ncS c' := by simp only [ncS]; rw [hrS_lt (by omega)]
theorem hrS_1 (c : RW) (i : Nat) (f : Int32) (j : Nat) (c' : RW) : nkS (hrS c i f j c') = nkS c' := by simp only [nkS]; rw [hrS_lt (by omega)]
theorem sim_blow {c m : RW} (h : sim c m) {i : Nat} (hi : i < nkS m) (f : Int32) : sim (blowS c i f) (blowS m i f) := by
  unfold blowS
  rw [sim_nc h]
  have hb : sim (itr (hrS c i f) 0 (ncS m) c) (itr (hrS m i f) 0 (ncS m) m) ∧ ncS (itr (hrS m i f) 0 (ncS m) m) = ncS m ∧ nkS (itr (hrS m i f) 0 (ncS m) m) = nkS m := by
    refine itr_two (P := fun a b => sim a b ∧ ncS b = ncS m ∧ nkS b = nkS m) _ _ _ _ (fun j a b _ hj hab => ?_) ⟨h, rfl, rfl⟩
    refine ⟨?_, by rw [hrS_3]; exact hab.2.1, by rw [hrS_1]; exact hab.2.2⟩
    have hj2 : j < ncS m := by omega
    unfold hrS
    rw [sim_wi h hi hj2, sim_note h hi, h.2.1 i hi 0 (by decide)]
    split
    · exact sim_write hab.1 (by rw [hab.2.1]; exact hj2) _ _
    · exact hab.1
  exact sim_kup hb.1 (by rw [hb.2.2]; exact hi)
theorem sim_one {c m : RW} (h : sim c m) {i : Nat} (hi : i < nkS m) (f : Int32) : sim (oneS f i c) (oneS f i m) := by
  unfold oneS
  rw [h.2.1 i hi 5 (by decide)]
  split
  · unfold restS
    rw [h.2.1 i hi 4 (by decide)]
    exact sim_updK h (by decide) _
  · split
    · exact sim_blow h hi f
    · exact h
theorem oneS_nk (f : Int32) (i : Nat) (c : RW) : nkS (oneS f i c) = nkS c := by simp only [nkS]; rw [oneS_20 (by omega)]
theorem oneS_nc (f : Int32) (i : Nat) (c : RW) : ncS (oneS f i c) = ncS c := by simp only [ncS]; rw [oneS_20 (by omega)]
theorem sim_fog {c m : RW} (h : sim c m) (hI : InvB m) : fogS c = fogS m := by
  obtain ⟨d, hd, ed⟩ := hI.1
  unfold fogS
  rw [h.1 0 (by decide), ed, day6 hd, cl_nI (by omega)]
  exact h.1 _ (by omega)
theorem sim_day {c m : RW} (h : sim c m) (hI : InvB m) : sim (dayS c) (dayS m) := by
  unfold dayS
  rw [sim_fog h hI, sim_nk h]
  have hb : sim (itr (oneS (fogS m)) 0 (nkS m) c) (itr (oneS (fogS m)) 0 (nkS m) m) ∧ nkS (itr (oneS (fogS m)) 0 (nkS m) m) = nkS m :=
    itr_two (P := fun a b => sim a b ∧ nkS b = nkS m) _ _ _ _ (fun j a b _ hj hab => ⟨sim_one hab.1 (by rw [hab.2]; omega) _, by rw [oneS_nk]; exact hab.2⟩) ⟨h, rfl⟩
  dsimp only
  rw [hb.1.1 0 (by decide)]
  exact sim_updY hb.1 (by decide) (by decide) (by decide) _
theorem sim_days : ∀ (n : Nat) {c m : RW}, sim c m → InvB m → sim (daysS n c) (daysS n m)
  | 0, _, _, h, _ => h
  | n + 1, _, _, h, hI => sim_days n (sim_day h hI) (dayS_B hI)
/-! a child alone: rows in which it is number 0 -/
theorem writeS_oth {j k : Nat} (h : j ≠ k) (c : RW) (n t : Int32) {f : Nat} (hf : f < 4) : writeS c k n t (ci j f) = c (ci j f) := by
  have e2 : ci j f ≠ ci k 2 := by simp only [ci]; omega
  have e3 : ci j f ≠ ci k 3 := by simp only [ci]; omega
  unfold writeS
  (repeat' split) <;> simp only [upd_ne _ _ e3, upd_ne _ _ e2]
theorem writeS_loc {c m : RW} {j k : Nat} (h : ∀ f, f < 4 → c (ci j f) = m (ci k f)) (n t : Int32) : ∀ f, f < 4 → writeS c j n t (ci j f) = writeS m k n t (ci k f) := by
  have u : ∀ (a : Nat) (x : Int32) (c m : RW), a < 4 → (∀ f, f < 4 → c (ci j f) = m (ci k f)) → ∀ f, f < 4 → upd c (ci j a) x (ci j f) = upd m (ci k a) x (ci k f) := by
    intro a x c m ha hh f hf
    by_cases e : f = a
    · rw [e, upd_self, upd_self]
    · rw [upd_ne _ _ (by simp only [ci]; omega), upd_ne _ _ (by simp only [ci]; omega)]; exact hh f hf
  intro f hf
  unfold writeS
  rw [h 1 (by decide), h 2 (by decide), h 3 (by decide)]
  (repeat' split)
  · exact u 3 _ _ _ (by decide) h f hf
  · exact u 3 _ _ _ (by decide) (u 2 _ _ _ (by decide) h) f hf
  · exact u 3 _ _ _ (by decide) h f hf
  · exact h f hf
theorem itr_child {c : RW} {i : Nat} {f : Int32} {j : Nat} : ∀ (n : Nat) (c' : RW), (∀ g, g < 4 → itr (hrS c i f) 0 n c' (ci j g) = if j < n then hrS c i f j c' (ci j g) else c' (ci j g)) := by
  intro n
  induction n with
  | zero => intro c' g hg; rw [if_neg (by omega)]; rfl
  | succ n ih =>
    intro c' g hg
    rw [itr_snoc, Nat.zero_add]
    by_cases e : j = n
    · subst e
      rw [if_pos (by omega)]
      have h0 : ∀ g, g < 4 → itr (hrS c i f) 0 j c' (ci j g) = c' (ci j g) := fun g hg => by rw [ih c' g hg, if_neg (by omega)]
      unfold hrS at h0 ⊢
      by_cases hw : wiS c i j f = true
      · rw [if_pos hw, if_pos hw]
        exact writeS_loc h0 _ _ g hg
      · rw [if_neg hw, if_neg hw]
        exact h0 g hg
    · have e2 : hrS c i f n (itr (hrS c i f) 0 n c') (ci j g) = itr (hrS c i f) 0 n c' (ci j g) := by
        generalize itr (hrS c i f) 0 n c' = d
        unfold hrS
        split
        · exact writeS_oth e _ _ _ hg
        · rfl
      rw [e2, ih c' g hg]
      by_cases hj : j < n
      · rw [if_pos hj, if_pos (by omega)]
      · rw [if_neg hj, if_neg (by omega)]
theorem kupS_c (c : RW) (i j g : Nat) (hi : i < 8) : kupS c i (ci j g) = c (ci j g) := kupS_lt (by simp only [ki, ci]; omega) (by simp only [ki, ci]; omega) c
/-- a row with one child, beside one with more: the same keepers, and that child -/
def lone (c m : RW) (j : Nat) : Prop := (∀ y, y < 10 → y ≠ 3 → c y = m y) ∧ (∀ i, i < nkS m → ∀ f, f < 6 → c (ki i f) = m (ki i f)) ∧ c 3 = 1 ∧ j < ncS m ∧ (∀ f, f < 4 → c (ci 0 f) = m (ci j f))
theorem lone_upd {c m : RW} {j : Nat} (h : lone c m j) {i f : Nat} (hi : i < 8) (hf : f < 6) (x : Int32) : lone (upd c (ki i f) x) (upd m (ki i f) x) j := by
  obtain ⟨h1, h2, h3, h4, h5⟩ := h
  have e1 : nkS (upd m (ki i f) x) = nkS m := by simp only [nkS]; rw [upd_ne _ _ (by simp only [ki]; omega)]
  have e3 : ncS (upd m (ki i f) x) = ncS m := by simp only [ncS]; rw [upd_ne _ _ (by simp only [ki]; omega)]
  refine ⟨fun y hy hy3 => ?_, fun i' hi' f' hf' => ?_, ?_, by rw [e3]; exact h4, fun f' hf' => ?_⟩
  · rw [upd_ne _ _ (by simp only [ki]; omega), upd_ne _ _ (by simp only [ki]; omega)]; exact h1 y hy hy3
  · rw [e1] at hi'
    by_cases e : ki i' f' = ki i f
    · rw [e, upd_self, upd_self]
    · rw [upd_ne _ _ e, upd_ne _ _ e]; exact h2 i' hi' f' hf'
  · rw [upd_ne _ _ (by simp only [ki]; omega)]; exact h3
  · rw [upd_ne _ _ (by simp only [ki, ci]; omega), upd_ne _ _ (by simp only [ki, ci]; omega)]; exact h5 f' hf'
theorem lone_wi {c m : RW} {j : Nat} (h : lone c m j) {i : Nat} (hi : i < nkS m) (f : Int32) : wiS c i 0 f = wiS m i j f := by
  obtain ⟨h1, h2, h3, h4, h5⟩ := h
  unfold wiS
  rw [h2 i hi 0 (by decide), h2 i hi 3 (by decide), h2 i hi 4 (by decide), h2 i hi 1 (by decide), h5 0 (by decide)]
theorem lone_note {c m : RW} {j : Nat} (h : lone c m j) {i : Nat} (hi : i < nkS m) : noteS c i = noteS m i := by
  obtain ⟨h1, h2, h3, h4, h5⟩ := h
  unfold noteS
  rw [h2 i hi 0 (by decide), h2 i hi 2 (by decide), h2 i hi 4 (by decide), h1 0 (by decide) (by decide)]
theorem lone_blow {c m : RW} {j : Nat} (h : lone c m j) {i : Nat} (hi : i < nkS m) (hk8 : nkS m ≤ 8) (f : Int32) : lone (blowS c i f) (blowS m i f) j := by
  have hw := lone_wi h hi f
  have hn := lone_note h hi
  have h' := h
  obtain ⟨h1, h2, h3, h4, h5⟩ := h
  have en : ncS c = 1 := by simp only [ncS]; rw [h3]; rfl
  have hm : lone (itr (hrS c i f) 0 (ncS c) c) (itr (hrS m i f) 0 (ncS m) m) j := by
    have lt : ∀ {x : Nat}, x < 68 → (itr (hrS c i f) 0 (ncS c) c x = c x ∧ itr (hrS m i f) 0 (ncS m) m x = m x) := fun hx => ⟨itr_lt (fun j c' => hrS_lt hx c i f j c') _ _ _, itr_lt (fun j c' => hrS_lt hx m i f j c') _ _ _⟩
    have e1 : nkS (itr (hrS m i f) 0 (ncS m) m) = nkS m := by simp only [nkS]; rw [(lt (by decide)).2]
    have e3 : ncS (itr (hrS m i f) 0 (ncS m) m) = ncS m := by
      show (itr (hrS m i f) 0 (ncS m) m 3).toNatClampNeg = _
      rw [(lt (by decide)).2]
    refine ⟨fun y hy hy3 => by rw [(lt (by omega)).1, (lt (by omega)).2]; exact h1 y hy hy3, fun i' hi' f' hf' => ?_, by rw [(lt (by decide)).1]; exact h3, by rw [e3]; exact h4, fun g hg => ?_⟩
    · rw [e1] at hi'
      have h68 : ki i' f' < 68 := by simp only [ki]; omega
      rw [(lt h68).1, (lt h68).2]; exact h2 i' hi' f' hf'
    · rw [itr_child _ _ g hg, itr_child _ _ g hg, if_pos (by omega), if_pos h4]
      unfold hrS
      rw [hw, hn, h2 i hi 0 (by decide)]
      split
      · exact writeS_loc h5 _ _ g hg
      · exact h5 g hg
  have e1 : nkS (itr (hrS m i f) 0 (ncS m) m) = nkS m := by
    show (itr (hrS m i f) 0 (ncS m) m 1).toNatClampNeg = _
    rw [itr_lt (fun j c' => hrS_lt (by omega) m i f j c')]
  unfold blowS
  generalize itr (hrS c i f) 0 (ncS c) c = c2 at hm
  generalize itr (hrS m i f) 0 (ncS m) m = m2 at hm e1
  obtain ⟨g1, g2, g3, g4, g5⟩ := id hm
  unfold kupS
  rw [g2 i (by omega) 0 (by decide), g2 i (by omega) 2 (by decide), g2 i (by omega) 4 (by decide), g1 0 (by decide) (by decide)]
  exact lone_upd (lone_upd hm (by omega) (by decide) _) (by omega) (by decide) _
theorem lone_one {c m : RW} {j : Nat} (h : lone c m j) {i : Nat} (hi : i < nkS m) (hk8 : nkS m ≤ 8) (f : Int32) : lone (oneS f i c) (oneS f i m) j := by
  unfold oneS
  rw [h.2.1 i hi 5 (by decide)]
  split
  · unfold restS
    rw [h.2.1 i hi 4 (by decide)]
    exact lone_upd h (by omega) (by decide) _
  · split
    · exact lone_blow h hi hk8 f
    · exact h
theorem lone_nk {c m : RW} {j : Nat} (h : lone c m j) : nkS c = nkS m := by simp only [nkS]; rw [h.1 1 (by decide) (by decide)]
theorem lone_day {c m : RW} {j : Nat} (h : lone c m j) (hI : InvB m) : lone (dayS c) (dayS m) j := by
  have hk8 := (nk_eq hI).2
  have ef : fogS c = fogS m := by
    obtain ⟨d, hd, ed⟩ := hI.1
    unfold fogS
    rw [h.1 0 (by decide) (by decide), ed, day6 hd, cl_nI (by omega)]
    exact h.1 _ (by omega) (by omega)
  unfold dayS
  rw [ef, lone_nk h]
  have hb : lone (itr (oneS (fogS m)) 0 (nkS m) c) (itr (oneS (fogS m)) 0 (nkS m) m) j ∧ nkS (itr (oneS (fogS m)) 0 (nkS m) m) = nkS m :=
    itr_two (P := fun a b => lone a b j ∧ nkS b = nkS m) _ _ _ _ (fun k a b _ hj hab => ⟨lone_one hab.1 (by rw [hab.2]; omega) (by rw [hab.2]; exact hk8) _, by rw [oneS_nk]; exact hab.2⟩) ⟨h, rfl⟩
  dsimp only
  generalize itr (oneS (fogS m)) 0 (nkS m) c = c2 at hb
  generalize itr (oneS (fogS m)) 0 (nkS m) m = m2 at hb
  obtain ⟨⟨g1, g2, g3, g4, g5⟩, e1⟩ := hb
  rw [g1 0 (by decide) (by decide)]
  generalize (if m2 0 + 1 < 99999 then m2 0 + 1 else 99999) = x
  refine ⟨fun y hy hy3 => ?_, fun i' hi' f' hf' => ?_, ?_, ?_, fun g hg => ?_⟩
  · by_cases e : y = 0
    · rw [e, upd_self, upd_self]
    · rw [upd_ne _ _ e, upd_ne _ _ e]; exact g1 y hy hy3
  · rw [upd_ne _ _ (by simp only [ki]; omega), upd_ne _ _ (by simp only [ki]; omega)]
    exact g2 i' (by simp only [nkS] at hi' ⊢; rw [upd_ne _ _ (by decide)] at hi'; exact hi') f' hf'
  · rw [upd_ne _ _ (by decide)]; exact g3
  · simp only [ncS]; rw [upd_ne _ _ (by decide)]; exact g4
  · rw [upd_ne _ _ (by simp only [ci]; omega), upd_ne _ _ (by simp only [ci]; omega)]; exact g5 g hg
theorem lone_days : ∀ (n : Nat) {c m : RW} {j : Nat}, lone c m j → InvB m → lone (daysS n c) (daysS n m) j
  | 0, _, _, _, h, _ => h
  | n + 1, _, _, _, h, hI => lone_days n (lone_day h hI) (dayS_B hI)
/-! a keeper alone: rows in which it is number 0 -/
def kstep (f : Int32) (d : Int32) (r : Nat → Int32) : Nat → Int32 := if f = 0 then upd r 4 (mx0 (r 4 - 3)) else if r 5 = 0 then upd (upd r 4 (if r 4 + tiS (r 0) < 99 then r 4 + tiS (r 0) else 99)) 2 ((r 2 + tuS (r 0) d) - (r 2 + tuS (r 0) d) / 12 * 12) else r
theorem kup_own (c : RW) {i : Nat} : ∀ g, g < 6 → kupS c i (ki i g) = upd (upd (fun g => c (ki i g)) 4 (if c (ki i 4) + tiS (c (ki i 0)) < 99 then c (ki i 4) + tiS (c (ki i 0)) else 99)) 2 ((c (ki i 2) + tuS (c (ki i 0)) (c 0)) - (c (ki i 2) + tuS (c (ki i 0)) (c 0)) / 12 * 12) g := by
  intro g hg
  unfold kupS
  by_cases e2 : g = 2
  · rw [e2, upd_self, upd_self]
  · rw [upd_ne _ _ (show ki i g ≠ ki i 2 by simp only [ki]; omega), upd_ne _ _ e2]
    by_cases e4 : g = 4
    · rw [e4, upd_self, upd_self]
    · rw [upd_ne _ _ (show ki i g ≠ ki i 4 by simp only [ki]; omega), upd_ne _ _ e4]
theorem one_own (f : Int32) (c : RW) {i : Nat} (hi : i < 8) : ∀ g, g < 6 → oneS f i c (ki i g) = kstep f (c 0) (fun g => c (ki i g)) g := by
  intro g hg
  unfold oneS kstep
  by_cases h0 : f = 0
  · rw [if_pos h0, if_pos h0]
    unfold restS
    by_cases e4 : g = 4
    · rw [e4, upd_self, upd_self]
    · rw [upd_ne _ _ (show ki i g ≠ ki i 4 by simp only [ki]; omega), upd_ne _ _ e4]
  · rw [if_neg h0, if_neg h0]
    by_cases hs : c (ki i 5) = 0
    · rw [if_pos hs, if_pos hs]
      unfold blowS
      rw [kup_own _ g hg]
      have e : ∀ {x : Nat}, x < 68 → itr (hrS c i f) 0 (ncS c) c x = c x := fun hx => itr_lt (fun j c' => hrS_lt hx c i f j c') _ _ _
      rw [e (x := ki i 4) (by simp only [ki]; omega), e (x := ki i 0) (by simp only [ki]; omega), e (x := ki i 2) (by simp only [ki]; omega), e (x := 0) (by omega)]
      have ef : (fun g => itr (hrS c i f) 0 (ncS c) c (ki i g)) 0 = c (ki i 0) := e (by simp only [ki]; omega)
      by_cases e2 : g = 2
      · rw [e2, upd_self, upd_self]
      · rw [upd_ne _ _ e2, upd_ne _ _ e2]
        by_cases e4 : g = 4
        · rw [e4, upd_self, upd_self]
        · rw [upd_ne _ _ e4, upd_ne _ _ e4]
          exact e (by simp only [ki]; omega)
    · rw [if_neg hs, if_neg hs]
theorem one_oth (f : Int32) (c : RW) {i k : Nat} (hk : k < 8) (h : k ≠ i) : ∀ g, g < 6 → oneS f i c (ki k g) = c (ki k g) := fun g hg => oneS_lt (by simp only [ki]; omega) (by simp only [ki]; omega) (by simp only [ki]; omega) c f
theorem kstep_cg {f d : Int32} {r s : Nat → Int32} (h : ∀ g, g < 6 → r g = s g) : ∀ g, g < 6 → kstep f d r g = kstep f d s g := by
  have u : ∀ (a : Nat) (x : Int32) (r s : Nat → Int32), (∀ g, g < 6 → r g = s g) → ∀ g, g < 6 → upd r a x g = upd s a x g := by
    intro a x r s hh g hg
    by_cases e : g = a
    · rw [e, upd_self, upd_self]
    · rw [upd_ne _ _ e, upd_ne _ _ e]; exact hh g hg
  intro g hg
  unfold kstep
  rw [h 0 (by decide), h 2 (by decide), h 4 (by decide), h 5 (by decide)]
  (repeat' split) <;> first | exact h g hg | exact u _ _ _ _ h g hg | exact u _ _ _ _ (u _ _ _ _ h) g hg
theorem itr_keeper (f : Int32) {k : Nat} (hk : k < 8) : ∀ (n : Nat), n ≤ 8 → ∀ (c : RW), ∀ g, g < 6 → itr (oneS f) 0 n c (ki k g) = if k < n then kstep f (c 0) (fun g => c (ki k g)) g else c (ki k g) := by
  intro n
  induction n with
  | zero => intro _ c g hg; rw [if_neg (by omega)]; rfl
  | succ n ih =>
    intro hn c g hg
    rw [itr_snoc, Nat.zero_add]
    have e0 : itr (oneS f) 0 n c 0 = c 0 := itr_lt (fun j c' => oneS_20 (by omega) j c' f) _ _ _
    by_cases e : k = n
    · subst e
      rw [if_pos (by omega), one_own f _ hk g hg, e0]
      exact kstep_cg (fun g hg => by rw [ih (by omega) c g hg, if_neg (by omega)]) g hg
    · rw [one_oth f _ hk e g hg, ih (by omega) c g hg]
      by_cases hj : k < n
      · rw [if_pos hj, if_pos (by omega)]
      · rw [if_neg hj, if_neg (by omega)]
def kLone (c m : RW) (k : Nat) : Prop := c 1 = 1 ∧ c 0 = m 0 ∧ (∀ y, 4 ≤ y → y < 10 → c y = m y) ∧ k < nkS m ∧ (∀ g, g < 6 → c (ki 0 g) = m (ki k g))
theorem kLone_day {c m : RW} {k : Nat} (h : kLone c m k) (hI : InvB m) : kLone (dayS c) (dayS m) k := by
  have hk8 := (nk_eq hI).2
  obtain ⟨h1, h0, h4, hk, h5⟩ := h
  have n1 : nkS c = 1 := by simp only [nkS]; rw [h1]; rfl
  have ef : fogS c = fogS m := by
    obtain ⟨d, hd, ed⟩ := hI.1
    unfold fogS
    rw [h0, ed, day6 hd, cl_nI (by omega)]
    exact h4 _ (by omega) (by omega)
  have lt : ∀ (c : RW) (n : Nat) {y : Nat}, y < 20 → y ≠ 0 → upd (itr (oneS (fogS m)) 0 n c) 0 (if itr (oneS (fogS m)) 0 n c 0 + 1 < 99999 then itr (oneS (fogS m)) 0 n c 0 + 1 else 99999) y = c y := fun c n y hy h => by rw [upd_ne _ _ h]; exact itr_lt (fun j c' => oneS_20 hy j c' _) _ _ _
  have z0 : ∀ (c : RW) (n : Nat), itr (oneS (fogS m)) 0 n c 0 = c 0 := fun c n => itr_lt (fun j c' => oneS_20 (by omega) j c' _) _ _ _
  unfold dayS
  rw [ef]
  refine ⟨?_, ?_, fun y hy1 hy2 => ?_, ?_, fun g hg => ?_⟩
  · rw [lt _ _ (by decide) (by decide)]; exact h1
  · dsimp only; rw [upd_self, upd_self, z0, z0, h0]
  · rw [lt _ _ (by omega) (by omega), lt _ _ (by omega) (by omega)]; exact h4 y hy1 hy2
  · show k < (upd (itr (oneS (fogS m)) 0 (nkS m) m) 0 _ 1).toNatClampNeg
    rw [lt _ _ (by decide) (by decide)]; exact hk
  · dsimp only
    rw [upd_ne _ _ (by simp only [ki]; omega), upd_ne _ _ (by simp only [ki]; omega), itr_keeper _ (by omega) _ (by omega) _ g hg, itr_keeper _ (by omega) _ hk8 _ g hg, if_pos (by omega), if_pos hk, h0]
    exact kstep_cg h5 g hg
theorem kLone_days : ∀ (n : Nat) {c m : RW} {k : Nat}, kLone c m k → InvB m → kLone (daysS n c) (daysS n m) k
  | 0, _, _, _, h, _ => h
  | n + 1, _, _, _, h, hI => kLone_days n (kLone_day h hI) (dayS_B hI)
