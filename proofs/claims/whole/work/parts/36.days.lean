/-! PURE PART 17: loops with an early end; learns, taught, weary -/
theorem loopR {α β : Type} {L : Nat → α → Int32 → Option β} {N : Nat} (P : Nat → α → Prop) (Q : Option β → Prop) (h0 : ∀ n x, P N x → Q (L (n + 1) x (nI N))) (hs : ∀ n j x, j < N → P j x → (∃ y, L (n + 1) x (nI j) = L n y (nI (j + 1)) ∧ P (j + 1) y) ∨ Q (L (n + 1) x (nI j))) : ∀ (k n j : Nat) (x : α), j + k = N → k < n → P j x → Q (L n x (nI j)) := by
  intro k
  induction k with
  | zero =>
    intro n j x hjk hn hP
    obtain ⟨n, rfl⟩ : ∃ z, n = z + 1 := ⟨n - 1, by omega⟩
    have e : j = N := by omega
    subst e
    exact h0 n x hP
  | succ k ih =>
    intro n j x hjk hn hP
    obtain ⟨n, rfl⟩ : ∃ z, n = z + 1 := ⟨n - 1, by omega⟩
    rcases hs n j x (by omega) hP with ⟨y, e, hP'⟩ | q
    · rw [e]
      exact ih n (j + 1) y (by omega) (by omega) hP'
    · exact q
theorem loopD {α β : Type} {L : Nat → α → Int32 → Option β} (P : Nat → α → Prop) (Q : Option β → Prop) (h0 : ∀ n x, P 0 x → Q (L (n + 1) x (-1))) (hs : ∀ n k x, P (k + 1) x → (∃ y, L (n + 1) x (nI k) = L n y (nI k + (-1)) ∧ P k y) ∨ Q (L (n + 1) x (nI k))) : ∀ (k n : Nat) (x : α), k < n → P k x → Q (L n x (nI k + (-1))) := by
  intro k
  induction k with
  | zero =>
    intro n x hn hP
    obtain ⟨n, rfl⟩ : ∃ z, n = z + 1 := ⟨n - 1, by omega⟩
    exact h0 n x hP
  | succ k ih =>
    intro n x hn hP
    obtain ⟨n, rfl⟩ : ∃ z, n = z + 1 := ⟨n - 1, by omega⟩
    rw [pk_m1]
    rcases hs n k x hP with ⟨y, e, hP'⟩ | q
    · rw [e]
      exact ih n y (by omega) hP'
    · exact q
/-- a note learnt by all children from one number on -/
def lrP (c : RW) (s K : Nat) (n : Int32) : Bool := decide (∀ j, j < K → s ≤ j → ¬ (c (ci j 2) &&& (1 <<< (n &&& 31))) = 0)
theorem lrP_stop {c : RW} {s K : Nat} {n : Int32} (h : K ≤ s) : lrP c s K n = true := decide_eq_true (fun j h1 h2 => by omega)
theorem lrP_step {c : RW} {s K : Nat} {n : Int32} (h : s < K) (h1 : ¬ (c (ci s 2) &&& (1 <<< (n &&& 31))) = 0) : lrP c s K n = lrP c (s + 1) K n := by
  unfold lrP
  congr 1
  refine propext ⟨fun q j a b => q j a (by omega), fun q j a b => ?_⟩
  by_cases e : j = s
  · rw [e]; exact h1
  · exact q j a (by omega)
theorem lrP_no {c : RW} {s K : Nat} {n : Int32} (h : s < K) (h1 : (c (ci s 2) &&& (1 <<< (n &&& 31))) = 0) : lrP c s K n = false := decide_eq_false (fun q => q s h (Nat.le_refl s) h1)
theorem C_haveL {p : Nat} {v : VV} (hI : InvB (rowOf p v)) (n : Int32) : ∀ (k f j : Nat), j + k = ncS (rowOf p v) → k < f → L_X1_haveAllLearnt_2 f p n (nI j) v = some (lrP (rowOf p v) j (ncS (rowOf p v)) n) := by
  obtain ⟨e, h6⟩ := nc_eq hI
  intro k
  induction k with
  | zero =>
    intro f j hjk hf
    obtain ⟨f, rfl⟩ : ∃ z, f = z + 1 := ⟨f - 1, by omega⟩
    rw [L_X1_haveAllLearnt_2, rd_3 p v, if_pos (by rw [e]; exact nI_le (by omega) (by omega)), lrP_stop (by omega)]
  | succ k ih =>
    intro f j hjk hf
    obtain ⟨f, rfl⟩ : ∃ z, f = z + 1 := ⟨f - 1, by omega⟩
    rw [L_X1_haveAllLearnt_2, rd_3 p v, if_neg (by rw [e]; exact nI_ge (by omega) (by omega)), gu_nI (by omega) (by decide), cl_nI (by omega), C_hasLearnt p v (by omega), bd_s]
    by_cases q : (rowOf p v (ci j 2) &&& (1 <<< (n &&& 31))) = 0
    · rw [if_neg (by rw [decide_eq_false (fun z => z q)]; decide), lrP_no (by omega) q]
    · rw [if_pos (decide_eq_true q), nI_1, ih f (j + 1) (by omega) (by omega), lrP_step (s := j) (by omega) q]
theorem C_have {p : Nat} {v : VV} (hI : InvB (rowOf p v)) (n : Int32) : F_X1_haveAllLearnt p n v = some (lrP (rowOf p v) 0 (ncS (rowOf p v)) n) := by
  have h6 := (nc_eq hI).2
  unfold F_X1_haveAllLearnt
  exact C_haveL hI n (ncS (rowOf p v)) fu 0 (by omega) (by unfold fu; omega)
theorem M_hasL {j : Nat} (hj : j < 6) (n : Int32) (v : VV) : F_X6_hasLearnt (nI j) n v = some (decide (¬ (v 1 (ci j 2) &&& (1 <<< (n &&& 31))) = 0)) := by
  unfold F_X6_hasLearnt
  rw [cIs2 hj, bd_s]
  by_cases h : (v 1 (ci j 2) &&& (1 <<< (n &&& 31))) = 0
  · rw [if_neg (fun z => (B1 _ _).mp z h), decide_eq_false (fun z => z h)]
  · rw [if_pos ((B1 _ _).mpr h), decide_eq_true h]
theorem lt_end {K j : Nat} (hK : K ≤ 6) (hj : j ≤ 6) : nI K - 1 < nI j ↔ K ≤ j := by
  have h : ∀ K, K ≤ 6 → ∀ j, j ≤ 6 → (decide (nI K - 1 < nI j) = decide (K ≤ j)) := by decide +kernel
  have := h K hK j hj
  simpa using this
theorem gB0 : gB 0 = true := by decide
theorem gB1 : gB 1 = true := by decide
theorem M_haveL {K : Nat} (hK : K ≤ 6) (v : VV) (x n : Int32) : ∀ (k f j : Nat), j + k = K → k < f → L_X6_haveLearnt_6 f x (nI K - 1) n 0 (nI j) v = some false ∧ L_X6_haveLearnt_6 f x (nI K - 1) n 1 (nI j) v = some (lrP (v 1) j K n) := by
  intro k
  induction k with
  | zero =>
    intro f j hjk hf
    obtain ⟨f, rfl⟩ : ∃ z, f = z + 1 := ⟨f - 1, by omega⟩
    rw [L_X6_haveLearnt_6, L_X6_haveLearnt_6, if_pos ((lt_end hK (by omega)).mpr (by omega)), if_pos ((lt_end hK (by omega)).mpr (by omega)), lrP_stop (by omega), gB0, gB1]
    exact ⟨rfl, rfl⟩
  | succ k ih =>
    intro f j hjk hf
    obtain ⟨f, rfl⟩ : ∃ z, f = z + 1 := ⟨f - 1, by omega⟩
    obtain ⟨i0, i1⟩ := ih f (j + 1) (by omega) (by omega)
    have nl : ¬ nI K - 1 < nI j := fun z => by have := (lt_end hK (by omega)).mp z; omega
    rw [L_X6_haveLearnt_6, L_X6_haveLearnt_6, if_neg nl, if_neg nl, if_pos rfl, if_neg (by decide), M_hasL (by omega), bd_s, nI_1, i0, i1]
    refine ⟨rfl, ?_⟩
    by_cases q : (v 1 (ci j 2) &&& (1 <<< (n &&& 31))) = 0
    · rw [if_neg (by rw [decide_eq_false (fun z => z q)]; decide), lrP_no (by omega) q]
    · rw [if_pos (decide_eq_true q), lrP_step (s := j) (by omega) q]
theorem M_have {s K : Nat} (hs : s ≤ K) (hK : K ≤ 6) (v : VV) (n : Int32) : F_X6_haveLearnt (nI s) (nI K - 1) n v = some (lrP (v 1) s K n) := by
  unfold F_X6_haveLearnt
  exact (M_haveL hK v (nI s) n (K - s) fu s (by omega) (by unfold fu; omega)).2
/-! the class: days until the draft's children have learnt -/
theorem C_du1 {v : VV} (hI : InvB (rowOf 58 v)) (n : Int32) {r : Nat} (hr : r ≤ 200) (hP : lrP (daysS r (rowOf 58 v)) 0 (ncS (daysS r (rowOf 58 v))) n = true) (hn : ∀ d, d < r → ¬ lrP (daysS d (rowOf 58 v)) 0 (ncS (daysS d (rowOf 58 v))) n = true) : ∃ v1, F_X5_daysUntilDraftLearnt n v = some (nI r, v1) ∧ InvB (rowOf 58 v1) ∧ Out 58 v v1 := by
  unfold F_X5_daysUntilDraftLearnt
  refine loopR (L := fun f (x : VV) i => L_X5_daysUntilDraftLearnt_2 f n i x) (N := r) (fun j x => rowOf 58 x = daysS j (rowOf 58 v) ∧ Out 58 v x) (fun z => ∃ v1, z = some (nI r, v1) ∧ InvB (rowOf 58 v1) ∧ Out 58 v v1) (fun f x hx => ?_) (fun f j x hj hx => Or.inl ?_) r fu 0 v (by omega) (by unfold fu; omega) ⟨rfl, Out.rf⟩
  · have hIx : InvB (rowOf 58 x) := by rw [hx.1]; exact daysS_B r hI
    refine ⟨x, ?_, hIx, hx.2⟩
    show L_X5_daysUntilDraftLearnt_2 (f + 1) n (nI r) x = _
    rw [L_X5_daysUntilDraftLearnt_2, if_neg (by rw [show (200 : Int32) = nI 200 from rfl]; exact nI_nlt (by omega) (by omega)), C_have hIx, bd_s, hx.1, if_pos hP]
  · have hIx : InvB (rowOf 58 x) := by rw [hx.1]; exact daysS_B j hI
    obtain ⟨w, a1, a2, a3⟩ := C_day hIx
    refine ⟨w, ?_, by rw [a2, hx.1, daysS_s], hx.2.trans a3⟩
    show L_X5_daysUntilDraftLearnt_2 (f + 1) n (nI j) x = L_X5_daysUntilDraftLearnt_2 f n (nI (j + 1)) w
    rw [L_X5_daysUntilDraftLearnt_2, if_neg (by rw [show (200 : Int32) = nI 200 from rfl]; exact nI_nlt (by omega) (by omega)), C_have hIx, bd_s, hx.1, if_neg (hn j hj), a1, bd_s, nI_1]
theorem C_du2 {v : VV} (hI : InvB (rowOf 58 v)) (n : Int32) (hn : ∀ d, d < 201 → ¬ lrP (daysS d (rowOf 58 v)) 0 (ncS (daysS d (rowOf 58 v))) n = true) : ∃ v1, F_X5_daysUntilDraftLearnt n v = Option.bind (F_X5_finding 3 v1) (fun (r, w) => some (r, w)) ∧ InvB (rowOf 58 v1) ∧ Out 58 v v1 := by
  unfold F_X5_daysUntilDraftLearnt
  refine loopR (L := fun f (x : VV) i => L_X5_daysUntilDraftLearnt_2 f n i x) (N := 201) (fun j x => rowOf 58 x = daysS j (rowOf 58 v) ∧ Out 58 v x) (fun z => ∃ v1, z = Option.bind (F_X5_finding 3 v1) (fun (r, w) => some (r, w)) ∧ InvB (rowOf 58 v1) ∧ Out 58 v v1) (fun f x hx => ?_) (fun f j x hj hx => Or.inl ?_) 201 fu 0 v (by omega) (by unfold fu; omega) ⟨rfl, Out.rf⟩
  · have hIx : InvB (rowOf 58 x) := by rw [hx.1]; exact daysS_B 201 hI
    refine ⟨x, ?_, hIx, hx.2⟩
    show L_X5_daysUntilDraftLearnt_2 (f + 1) n (nI 201) x = _
    rw [L_X5_daysUntilDraftLearnt_2, if_pos (by decide)]
  · have hIx : InvB (rowOf 58 x) := by rw [hx.1]; exact daysS_B j hI
    obtain ⟨w, a1, a2, a3⟩ := C_day hIx
    refine ⟨w, ?_, by rw [a2, hx.1, daysS_s], hx.2.trans a3⟩
    show L_X5_daysUntilDraftLearnt_2 (f + 1) n (nI j) x = L_X5_daysUntilDraftLearnt_2 f n (nI (j + 1)) w
    rw [L_X5_daysUntilDraftLearnt_2, if_neg (by rw [show (200 : Int32) = nI 200 from rfl]; exact nI_nlt (by omega) (by omega)), C_have hIx, bd_s, hx.1, if_neg (hn j hj), a1, bd_s, nI_1]
/-! the reference: days to -/
theorem M_dt1 {v : VV} (hI : InvB (v 1)) {s K : Nat} (hs : s ≤ K) (hK : K ≤ 6) (n : Int32) {r : Nat} (hr : r ≤ 200) (hP : lrP (daysS r (v 1)) s K n = true) (hn : ∀ d, d < r → ¬ lrP (daysS d (v 1)) s K n = true) : F_X6_daysTo (nI s) (nI K - 1) n v = some (nI r, thk v (v 1)) := by
  unfold F_X6_daysTo
  rw [M_begin, bd_s]
  refine loopR (L := fun f (x : VV) i => L_X6_daysTo_14 f (nI s) (nI K - 1) n i x) (N := r) (fun j x => x = thk v (daysS j (v 1))) (fun z => z = some (nI r, thk v (v 1))) (fun f x hx => ?_) (fun f j x hj hx => Or.inl ?_) r fu 0 (thk v (v 1)) (by omega) (by unfold fu; omega) rfl
  · show L_X6_daysTo_14 (f + 1) (nI s) (nI K - 1) n (nI r) x = _
    have hb := M_back (v := v) (m' := daysS r (v 1)) (fun y hy => daysS_big r hI hy) (nI r)
    subst hx
    rw [L_X6_daysTo_14, M_have hs hK, bd_s, thk_1, if_pos hP, bd_s, if_pos hP, hb, bd_s]
    split <;> rfl
  · subst hx
    refine ⟨thk v (daysS (j + 1) (v 1)), ?_, rfl⟩
    show L_X6_daysTo_14 (f + 1) (nI s) (nI K - 1) n (nI j) _ = L_X6_daysTo_14 f (nI s) (nI K - 1) n (nI (j + 1)) _
    rw [L_X6_daysTo_14, if_neg (by rw [show (200 : Int32) = nI 200 from rfl]; exact nI_ge (by omega) (by omega)), M_have hs hK, bd_s, thk_1, if_neg (hn j hj), M_day (by rw [thk_1]; exact daysS_B j hI), bd_s, thk_1, thk_up, nI_1, daysS_s]
theorem M_dt2 {v : VV} (hI : InvB (v 1)) {s K : Nat} (hs : s ≤ K) (hK : K ≤ 6) (n : Int32) (hn : ∀ d, d < 201 → ¬ lrP (daysS d (v 1)) s K n = true) : F_X6_daysTo (nI s) (nI K - 1) n v = some (-1, thk v (v 1)) := by
  unfold F_X6_daysTo
  rw [M_begin, bd_s]
  refine loopR (L := fun f (x : VV) i => L_X6_daysTo_14 f (nI s) (nI K - 1) n i x) (N := 200) (fun j x => x = thk v (daysS j (v 1))) (fun z => z = some (-1, thk v (v 1))) (fun f x hx => ?_) (fun f j x hj hx => Or.inl ?_) 200 fu 0 (thk v (v 1)) (by omega) (by unfold fu; omega) rfl
  · show L_X6_daysTo_14 (f + 1) (nI s) (nI K - 1) n (nI 200) x = _
    have hb := M_back (v := v) (m' := daysS 200 (v 1)) (fun y hy => daysS_big 200 hI hy) (-1)
    subst hx
    rw [L_X6_daysTo_14, if_pos (by decide), M_have hs hK, bd_s, thk_1, if_neg (hn 200 (by omega)), hb, bd_s]
  · subst hx
    refine ⟨thk v (daysS (j + 1) (v 1)), ?_, rfl⟩
    show L_X6_daysTo_14 (f + 1) (nI s) (nI K - 1) n (nI j) _ = L_X6_daysTo_14 f (nI s) (nI K - 1) n (nI (j + 1)) _
    rw [L_X6_daysTo_14, if_neg (by rw [show (200 : Int32) = nI 200 from rfl]; exact nI_ge (by omega) (by omega)), M_have hs hK, bd_s, thk_1, if_neg (hn j (by omega)), M_day (by rw [thk_1]; exact daysS_B j hI), bd_s, thk_1, thk_up, nI_1, daysS_s]
theorem orN1 {r : Nat} (hr : r < 2 ^ 31) (v : VV) : F_X6_orNone (nI r) v = some (nI r, v) := by
  unfold F_X6_orNone
  rw [if_pos (nI_pos' hr)]
theorem orN2 (v : VV) : F_X6_orNone (-1) v = Option.bind (F_X6_finding (-1000004) v) (fun (r, w) => some (r, w)) := by
  unfold F_X6_orNone
  rw [if_neg (by decide)]
/-- binding over a pair that is handed on -/
theorem bd_pair {α β : Type} (x : Option (α × β)) : Option.bind x (fun (r, w) => some (r, w)) = x := by
  cases x with
  | none => rfl
  | some p => rfl
theorem least_or (P : Nat → Bool) (N : Nat) : (∃ r, r < N ∧ P r = true ∧ ∀ d, d < r → ¬ P d = true) ∨ (∀ d, d < N → ¬ P d = true) := by
  induction N with
  | zero => exact Or.inr (fun d h => by omega)
  | succ N ih =>
    rcases ih with ⟨r, a, b, c⟩ | q
    · exact Or.inl ⟨r, by omega, b, c⟩
    · by_cases h : P N = true
      · exact Or.inl ⟨N, by omega, h, q⟩
      · refine Or.inr (fun d hd => ?_)
        by_cases e : d = N
        · rw [e]; exact h
        · exact q d (by omega)
/-- learns and taught, once the draft stands -/
theorem st_until {A B : VV → Option (Int32 × VV)} {v va : VV} (h : Rel v) {s K : Nat} (hs : s ≤ K) (hK : K ≤ 6) (n : Int32) (hI : InvB (rowOf 58 va)) (ho : Out 58 v va) (he : ∀ d, lrP (daysS d (rowOf 58 va)) 0 (ncS (daysS d (rowOf 58 va))) n = lrP (daysS d (v 1)) s K n) (hA : A v = Option.bind (F_X5_daysUntilDraftLearnt n va) (fun (r, w) => some (r, w))) (hB : ∀ v1 : VV, v1 1 = v 1 → B v1 = Option.bind (F_X6_daysTo (nI s) (nI K - 1) n v1) (fun (r9, v10) => Option.bind (F_X6_orNone r9 v10) (fun (r13, v14) => some (r13, v14)))) : StP A B v := by
  obtain ⟨hC, hM, hsm, hp⟩ := h.1
  rw [bd_pair] at hA
  rcases least_or (fun d => lrP (daysS d (v 1)) s K n) 201 with ⟨r, r1, r2, r3⟩ | q
  · obtain ⟨v1, a1, a2, a3⟩ := C_du1 hI n (r := r) (by omega) (by rw [he]; exact r2) (fun d hd => by rw [he]; exact r3 d hd)
    have o2 := ho.trans a3
    have e1 : v1 1 = v 1 := o2 1 (by omega)
    refine ⟨nI r, v1, thk v1 (v1 1), by rw [hA, a1], ?_, (h.d o2 a2).a⟩
    rw [hB v1 e1, M_dt1 (by rw [e1]; exact hM) hs hK n (r := r) (by omega) (by rw [e1]; exact r2) (by rw [e1]; exact r3), bd_s]
    dsimp only
    rw [orN1 (by omega), bd_s]
  · obtain ⟨v1, a1, a2, a3⟩ := C_du2 hI n (fun d hd => by rw [he]; exact q d hd)
    have o2 := ho.trans a3
    refine st_fw (vd := v1) (h.d o2 a2) (f := 3) (by decide) (K := 3) (L := -1000004) rfl (by decide) (by rw [hA, a1]) (fun w ew => ?_)
    have e1 : w 1 = v 1 := by rw [ew 1 (by decide)]; exact o2 1 (by omega)
    refine ⟨thk w (w 1), (thk_e w).1, (thk_e w).2.1, (thk_e w).2.2, ?_⟩
    rw [hB w e1, M_dt2 (by rw [e1]; exact hM) hs hK n (by rw [e1]; exact q), bd_s]
    dsimp only
    rw [orN2, bd_pair, bd_pair]
theorem st_learns {v : VV} (h : Rel v) (a b : Int32) : StP (F_X5_learns a b) (F_X6_learns a b) v := by
  obtain ⟨hC, hM, hs, hp⟩ := h.1
  have e := sim_nc hs
  have h6 := (nc_eq hM).2
  by_cases ha : inR a (ncS (v 1)) = true
  · by_cases hb : inR b 12 = true
    · obtain ⟨j, hj, rfl⟩ := inR_t ha (by omega)
      obtain ⟨va, a1, a2, a3, a4⟩ := C_draftC h hj
      refine st_until h (s := j) (K := j + 1) (by omega) (by omega) b a3 a4 (fun d => ?_) ?_ (fun v1 e1 => ?_)
      · obtain ⟨l1, l2, l3, l4, l5⟩ := lone_days d a2 hM
        have n1 : ncS (daysS d (rowOf 58 va)) = 1 := by simp only [ncS]; rw [l3]; rfl
        rw [n1]
        unfold lrP
        congr 1
        refine propext ⟨fun q i x y => ?_, fun q i x y => ?_⟩
        · have ei : i = j := by omega
          rw [ei, ← l5 2 (by decide)]
          exact q 0 (by omega) (by omega)
        · have ei : i = 0 := by omega
          rw [ei, l5 2 (by decide)]
          exact q j (by omega) (by omega)
      · unfold F_X5_learns
        rw [C_isChild hC, bd_s, e, if_pos ha, upTo (b := 11) 11 rfl (by decide), bd_s, if_pos hb, a1, bd_s]
      · unfold F_X6_learns
        rw [M_isChild (by rw [e1]; exact hM), bd_s, e1, if_pos ha, M_isNote, bd_s, if_pos hb, nI_pred]
    · refine st_f0 h ?_ (fun v1 e1 => ?_)
      · unfold F_X5_learns
        rw [C_isChild hC, bd_s, e, if_pos ha, upTo (b := 11) 11 rfl (by decide), bd_s, if_neg hb]
      · unfold F_X6_learns
        rw [M_isChild (by rw [e1 1 (by decide)]; exact hM), bd_s, e1 1 (by decide), if_pos ha, M_isNote, bd_s, if_neg hb]
  · refine st_f0 h ?_ (fun v1 e1 => ?_)
    · unfold F_X5_learns
      rw [C_isChild hC, bd_s, e, if_neg ha]
    · unfold F_X6_learns
      rw [M_isChild (by rw [e1 1 (by decide)]; exact hM), bd_s, e1 1 (by decide), if_neg ha]
theorem st_taught {v : VV} (h : Rel v) (b : Int32) : StP (F_X5_taught b) (F_X6_taught b) v := by
  obtain ⟨hC, hM, hs, hp⟩ := h.1
  have h6 := (nc_eq hM).2
  by_cases hb : inR b 12 = true
  · obtain ⟨va, a1, a2, a3, a4⟩ := C_become (p := 25) (q := 58) (by omega) hC h.2.1
    have s2 := sim_tr a2 hs
    refine st_until h (s := 0) (K := ncS (v 1)) (by omega) h6 b a3 a4 (fun d => ?_) ?_ (fun v1 e1 => ?_)
    · have sd := sim_days d s2 hM
      have nd : ncS (daysS d (v 1)) = ncS (v 1) := by simp only [ncS]; rw [daysS_y (by decide) (by decide)]
      rw [sim_nc sd, nd]
      unfold lrP
      congr 1
      refine propext ⟨fun q i x y => ?_, fun q i x y => ?_⟩
      · rw [← sd.2.2 i (by omega) 2 (by decide)]; exact q i x y
      · rw [sd.2.2 i (by omega) 2 (by decide)]; exact q i x y
    · unfold F_X5_taught
      rw [upTo (b := 11) 11 rfl (by decide), bd_s, if_pos hb, a1, bd_s]
    · unfold F_X6_taught
      rw [M_isNote, bd_s, if_pos hb, e1, (nc_eq hM).1]
      rfl
  · refine st_f0 h ?_ (fun v1 e1 => ?_)
    · unfold F_X5_taught
      rw [upTo (b := 11) 11 rfl (by decide), bd_s, if_neg hb]
    · unfold F_X6_taught
      rw [M_isNote, bd_s, if_neg hb]
/-! weary -/
def weP (c : RW) (k : Nat) (x : Int32) : Bool := decide (x ≤ c (ki k 4))
theorem st_weary {v : VV} (h : Rel v) (a b : Int32) : StP (F_X5_weary a b) (F_X6_weary a b) v := by
  obtain ⟨hC, hM, hs, hp⟩ := h.1
  have e := sim_nk hs
  have h8 := (nk_eq hM).2
  have st4 : stA 0 4 = nI 99 := by decide
  by_cases ha : inR a (nkS (v 1)) = true
  · by_cases hb : inR b 100 = true
    · obtain ⟨k, hk, rfl⟩ := inR_t ha (by omega)
      obtain ⟨va, a1, a2, a3, a4⟩ := C_draftK h hk
      have he : ∀ d, daysS d (rowOf 58 va) (ki 0 4) = daysS d (v 1) (ki k 4) := fun d => (kLone_days d a2 hM).2.2.2.2 4 (by decide)
      have hA : F_X5_weary (nI k) b v = L_X5_weary_33 fu (nI k) b 0 va := by
        unfold F_X5_weary
        rw [C_isKeeper hC, bd_s, e, if_pos ha, upTo 99 st4 (by decide), bd_s, if_pos hb, a1, bd_s]
      have hB : ∀ v1 : VV, v1 1 = v 1 → F_X6_weary (nI k) b v1 = L_X6_weary_38 fu (nI k) b 0 (thk v1 (v1 1)) := fun v1 e1 => by
        unfold F_X6_weary
        rw [M_isKeeper (by rw [e1]; exact hM), bd_s, e1, if_pos ha, wit (b := 99) 99 rfl (by decide), bd_s, if_pos hb, M_begin, bd_s, e1]
      have stepC : ∀ (f j : Nat) (x : VV), j < 201 → (rowOf 58 x = daysS j (rowOf 58 va) ∧ Out 58 va x) → ¬ b ≤ daysS j (v 1) (ki k 4) → ∃ y, L_X5_weary_33 (f + 1) (nI k) b (nI j) x = L_X5_weary_33 f (nI k) b (nI (j + 1)) y ∧ (rowOf 58 y = daysS (j + 1) (rowOf 58 va) ∧ Out 58 va y) := by
        intro f j x hj hx hn
        have hIx : InvB (rowOf 58 x) := by rw [hx.1]; exact daysS_B j a3
        obtain ⟨w, c1, c2, c3⟩ := C_day hIx
        refine ⟨w, ?_, by rw [c2, hx.1, daysS_s], hx.2.trans c3⟩
        rw [L_X5_weary_33, if_neg (by rw [show (200 : Int32) = nI 200 from rfl]; exact nI_nlt (by omega) (by omega)), rd_k 58 x (i := 0) (by decide) (by decide), hx.1, he, if_pos (Int32.not_le.mp hn), c1, bd_s, nI_1]
      have stepM : ∀ (v1 : VV), v1 1 = v 1 → ∀ (f j : Nat), j < 200 → ¬ b ≤ daysS j (v 1) (ki k 4) → L_X6_weary_38 (f + 1) (nI k) b (nI j) (thk v1 (daysS j (v1 1))) = L_X6_weary_38 f (nI k) b (nI (j + 1)) (thk v1 (daysS (j + 1) (v1 1))) := by
        intro v1 e1 f j hj hn
        rw [L_X6_weary_38, if_neg (by rw [show (200 : Int32) = nI 200 from rfl]; exact nI_ge (by omega) (by omega)), kIs4 (by omega), bd_s, thk_1, e1, if_neg hn, M_day (by rw [thk_1]; exact daysS_B j hM), bd_s, thk_1, thk_up, nI_1, daysS_s]
      rcases least_or (fun d => weP (daysS d (v 1)) k b) 201 with ⟨r, r1, r2, r3⟩ | q
      · have r2' : b ≤ daysS r (v 1) (ki k 4) := of_decide_eq_true r2
        have r3' : ∀ d, d < r → ¬ b ≤ daysS d (v 1) (ki k 4) := fun d hd z => r3 d hd (decide_eq_true z)
        have hc : ∃ v1, L_X5_weary_33 fu (nI k) b 0 va = some (nI r, v1) ∧ InvB (rowOf 58 v1) ∧ Out 58 va v1 := by
          refine loopR (L := fun f (x : VV) i => L_X5_weary_33 f (nI k) b i x) (N := r) (fun j x => rowOf 58 x = daysS j (rowOf 58 va) ∧ Out 58 va x) (fun z => ∃ v1, z = some (nI r, v1) ∧ InvB (rowOf 58 v1) ∧ Out 58 va v1) (fun f x hx => ?_) (fun f j x hj hx => Or.inl (stepC f j x (by omega) hx (r3' j hj))) r fu 0 va (by omega) (by unfold fu; omega) ⟨rfl, Out.rf⟩
          refine ⟨x, ?_, by rw [hx.1]; exact daysS_B r a3, hx.2⟩
          show L_X5_weary_33 (f + 1) (nI k) b (nI r) x = _
          rw [L_X5_weary_33, if_neg (by rw [show (200 : Int32) = nI 200 from rfl]; exact nI_nlt (by omega) (by omega)), rd_k 58 x (i := 0) (by decide) (by decide), hx.1, he, if_neg (Int32.not_lt.mpr r2')]
        obtain ⟨v1, c1, c2, c3⟩ := hc
        have o2 := a4.trans c3
        have e1 : v1 1 = v 1 := o2 1 (by omega)
        refine ⟨nI r, v1, thk v1 (v1 1), by rw [hA, c1], ?_, (h.d o2 c2).a⟩
        rw [hB v1 e1]
        refine loopR (L := fun f (x : VV) i => L_X6_weary_38 f (nI k) b i x) (N := r) (fun j x => x = thk v1 (daysS j (v1 1))) (fun z => z = some (nI r, thk v1 (v1 1))) (fun f x hx => ?_) (fun f j x hj hx => Or.inl ⟨_, by rw [hx]; exact stepM v1 e1 f j (by omega) (r3' j hj), rfl⟩) r fu 0 (thk v1 (v1 1)) (by omega) (by unfold fu; omega) rfl
        have hb := M_back (v := v1) (m' := daysS r (v1 1)) (fun y hy => daysS_big r (by rw [e1]; exact hM) hy) (nI r)
        subst hx
        show L_X6_weary_38 (f + 1) (nI k) b (nI r) _ = _
        rw [L_X6_weary_38, kIs4 (by omega), bd_s, thk_1]
        rw [e1] at hb ⊢
        rw [if_pos r2', bd_s, if_pos r2', hb, bd_s]
        dsimp only
        rw [orN1 (by omega), bd_s]
        split <;> rfl
      · have q' : ∀ d, d < 201 → ¬ b ≤ daysS d (v 1) (ki k 4) := fun d hd z => q d hd (decide_eq_true z)
        have hc : ∃ v1, L_X5_weary_33 fu (nI k) b 0 va = Option.bind (F_X5_finding 3 v1) (fun (r, w) => some (r, w)) ∧ InvB (rowOf 58 v1) ∧ Out 58 va v1 := by
          refine loopR (L := fun f (x : VV) i => L_X5_weary_33 f (nI k) b i x) (N := 201) (fun j x => rowOf 58 x = daysS j (rowOf 58 va) ∧ Out 58 va x) (fun z => ∃ v1, z = Option.bind (F_X5_finding 3 v1) (fun (r, w) => some (r, w)) ∧ InvB (rowOf 58 v1) ∧ Out 58 va v1) (fun f x hx => ?_) (fun f j x hj hx => Or.inl (stepC f j x (by omega) hx (q' j hj))) 201 fu 0 va (by omega) (by unfold fu; omega) ⟨rfl, Out.rf⟩
          refine ⟨x, ?_, by rw [hx.1]; exact daysS_B 201 a3, hx.2⟩
          show L_X5_weary_33 (f + 1) (nI k) b (nI 201) x = _
          rw [L_X5_weary_33, if_pos (by decide)]
        obtain ⟨vd, c1, c2, c3⟩ := hc
        have o2 := a4.trans c3
        refine st_fw (vd := vd) (h.d o2 c2) (f := 3) (by decide) (K := 3) (L := -1000004) rfl (by decide) (by rw [hA, c1]) (fun v1 ew => ?_)
        have e1 : v1 1 = v 1 := by rw [ew 1 (by decide)]; exact o2 1 (by omega)
        refine ⟨thk v1 (v1 1), (thk_e v1).1, (thk_e v1).2.1, (thk_e v1).2.2, ?_⟩
        rw [hB v1 e1]
        refine loopR (L := fun f (x : VV) i => L_X6_weary_38 f (nI k) b i x) (N := 200) (fun j x => x = thk v1 (daysS j (v1 1))) (fun z => z = Option.bind (F_X6_finding (-1000004) (thk v1 (v1 1))) (fun (r, w) => some (r, w))) (fun f x hx => ?_) (fun f j x hj hx => Or.inl ⟨_, by rw [hx]; exact stepM v1 e1 f j hj (q' j (by omega)), rfl⟩) 200 fu 0 (thk v1 (v1 1)) (by omega) (by unfold fu; omega) rfl
        have hb := M_back (v := v1) (m' := daysS 200 (v1 1)) (fun y hy => daysS_big 200 (by rw [e1]; exact hM) hy) (-1)
        subst hx
        show L_X6_weary_38 (f + 1) (nI k) b (nI 200) _ = _
        rw [L_X6_weary_38, if_pos (by decide), kIs4 (by omega), bd_s, thk_1]
        rw [e1] at hb ⊢
        rw [if_neg (q' 200 (by omega)), hb, bd_s]
        dsimp only
        rw [orN2, bd_pair, bd_pair]
    · refine st_f0 h ?_ (fun v1 e1 => ?_)
      · unfold F_X5_weary
        rw [C_isKeeper hC, bd_s, e, if_pos ha, upTo 99 st4 (by decide), bd_s, if_neg hb]
      · unfold F_X6_weary
        rw [M_isKeeper (by rw [e1 1 (by decide)]; exact hM), bd_s, e1 1 (by decide), if_pos ha, wit (b := 99) 99 rfl (by decide), bd_s, if_neg hb]
  · refine st_f0 h ?_ (fun v1 e1 => ?_)
    · unfold F_X5_weary
      rw [C_isKeeper hC, bd_s, e, if_neg ha]
    · unfold F_X6_weary
      rw [M_isKeeper (by rw [e1 1 (by decide)]; exact hM), bd_s, e1 1 (by decide), if_neg ha]
