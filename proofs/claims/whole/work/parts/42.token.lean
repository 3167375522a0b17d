/-! PURE PART 23: tokens of a text (t bytes b) -/
def isL (n : Nat) : Bool := decide (97 ≤ n ∧ n ≤ 122)
def isD (n : Nat) : Bool := decide (48 ≤ n ∧ n ≤ 57)
def spP (t : Nat) (b : Nat → Nat) (j : Nat) : Bool := decide (j < t) && decide (b j = 32)
def ltP (t : Nat) (b : Nat → Nat) (j : Nat) : Bool := decide (j < t) && isL (b j)
def dgP (t : Nat) (b : Nat → Nat) (j : Nat) : Bool := decide (j < t) && isD (b j)
def tkB (t : Nat) (b : Nat → Nat) (p : Nat) : Nat := stopN (spP t b) 121 p
def tkK (t : Nat) (b : Nat → Nat) (p : Nat) : Nat := if t ≤ tkB t b p then 0 else if isL (b (tkB t b p)) = true then 1 else if isD (b (tkB t b p)) = true then 2 else if b (tkB t b p) = 59 then 3 else 4
def tkE (t : Nat) (b : Nat → Nat) (p : Nat) : Nat := if t ≤ tkB t b p then tkB t b p else if isL (b (tkB t b p)) = true then stopN (ltP t b) 121 (tkB t b p) else if isD (b (tkB t b p)) = true then stopN (dgP t b) 121 (tkB t b p) else tkB t b p + 1
def nmS (b : Nat → Nat) : Nat → Nat → Nat := fun j x => if 10 * x + b j - 48 < 10000 then 10 * x + b j - 48 else 10000
def tkN (t : Nat) (b : Nat → Nat) (p : Nat) : Nat := itr (nmS b) (tkB t b p) (tkE t b p - tkB t b p) 0
theorem stT {P : Nat → Bool} {t p : Nat} (hP : ∀ j, P j = true → j < t) (hp : p ≤ t) (ht : t ≤ 120) : p ≤ stopN P 121 p ∧ stopN P 121 p ≤ t ∧ (∀ j, p ≤ j → j < stopN P 121 p → P j = true) ∧ ¬ P (stopN P 121 p) = true := by
  obtain ⟨h1, h2, h3, h4⟩ := stopN_sp P 121 p
  have h5 : stopN P 121 p ≤ t := by
    rcases Nat.lt_or_ge t (stopN P 121 p) with q | q
    · have := hP _ (h3 (stopN P 121 p - 1) (by omega) (by omega))
      omega
    · exact q
  refine ⟨h1, h5, h3, ?_⟩
  rcases h4 with q | q
  · omega
  · exact q
theorem spP_t {t : Nat} {b : Nat → Nat} : ∀ j, spP t b j = true → j < t := fun j h => by
  unfold spP at h
  rw [Bool.and_eq_true] at h
  exact of_decide_eq_true h.1
theorem ltP_t {t : Nat} {b : Nat → Nat} : ∀ j, ltP t b j = true → j < t := fun j h => by
  unfold ltP at h
  rw [Bool.and_eq_true] at h
  exact of_decide_eq_true h.1
theorem dgP_t {t : Nat} {b : Nat → Nat} : ∀ j, dgP t b j = true → j < t := fun j h => by
  unfold dgP at h
  rw [Bool.and_eq_true] at h
  exact of_decide_eq_true h.1
theorem tkB_sp {t p : Nat} (b : Nat → Nat) (hp : p ≤ t) (ht : t ≤ 120) : p ≤ tkB t b p ∧ tkB t b p ≤ t ∧ (∀ j, p ≤ j → j < tkB t b p → j < t ∧ b j = 32) ∧ (tkB t b p < t → ¬ b (tkB t b p) = 32) := by
  obtain ⟨h1, h2, h3, h4⟩ := stT (P := spP t b) spP_t hp ht
  refine ⟨h1, h2, fun j a c => ?_, fun q z => h4 ?_⟩
  · have := h3 j a c
    unfold spP at this
    rw [Bool.and_eq_true] at this
    exact ⟨of_decide_eq_true this.1, of_decide_eq_true this.2⟩
  · unfold spP
    rw [Bool.and_eq_true]
    exact ⟨decide_eq_true q, decide_eq_true z⟩
/-- letters or digits to their end -/
theorem run_sp {t B : Nat} {b : Nat → Nat} {f : Nat → Bool} (hB : B ≤ t) (ht : t ≤ 120) : B ≤ stopN (fun j => decide (j < t) && f (b j)) 121 B ∧ stopN (fun j => decide (j < t) && f (b j)) 121 B ≤ t ∧ (∀ j, B ≤ j → j < stopN (fun j => decide (j < t) && f (b j)) 121 B → f (b j) = true) ∧ (stopN (fun j => decide (j < t) && f (b j)) 121 B < t → ¬ f (b (stopN (fun j => decide (j < t) && f (b j)) 121 B)) = true) ∧ (B < t → f (b B) = true → B < stopN (fun j => decide (j < t) && f (b j)) 121 B) := by
  obtain ⟨h1, h2, h3, h4⟩ := stT (P := fun j => decide (j < t) && f (b j)) (t := t) (fun j h => by rw [Bool.and_eq_true] at h; exact of_decide_eq_true h.1) hB ht
  refine ⟨h1, h2, fun j a c => ?_, fun q z => h4 ?_, fun q z => ?_⟩
  · have := h3 j a c
    rw [Bool.and_eq_true] at this
    exact this.2
  · rw [Bool.and_eq_true]
    exact ⟨decide_eq_true q, z⟩
  · rcases Nat.lt_or_ge B (stopN (fun j => decide (j < t) && f (b j)) 121 B) with y | y
    · exact y
    · exfalso
      have e : stopN (fun j => decide (j < t) && f (b j)) 121 B = B := by omega
      rw [e] at h4
      apply h4
      rw [Bool.and_eq_true]
      exact ⟨decide_eq_true q, z⟩
theorem tkE_sp {t p : Nat} (b : Nat → Nat) (hp : p ≤ t) (ht : t ≤ 120) : tkB t b p ≤ tkE t b p ∧ tkE t b p ≤ t ∧ (tkK t b p ≠ 0 → tkB t b p < tkE t b p) := by
  obtain ⟨h1, h2, -, -⟩ := tkB_sp b hp ht
  have r1 := run_sp (b := b) (f := isL) h2 ht
  have r2 := run_sp (b := b) (f := isD) h2 ht
  unfold tkE tkK
  by_cases q : t ≤ tkB t b p
  · rw [if_pos q, if_pos q]
    exact ⟨Nat.le_refl _, h2, fun z => absurd rfl z⟩
  · rw [if_neg q, if_neg q]
    by_cases q1 : isL (b (tkB t b p)) = true
    · rw [if_pos q1, if_pos q1]
      exact ⟨r1.1, r1.2.1, fun _ => r1.2.2.2.2 (by omega) q1⟩
    · rw [if_neg q1, if_neg q1]
      by_cases q2 : isD (b (tkB t b p)) = true
      · rw [if_pos q2, if_pos q2]
        exact ⟨r2.1, r2.2.1, fun _ => r2.2.2.2.2 (by omega) q2⟩
      · rw [if_neg q2, if_neg q2]
        exact ⟨by omega, by omega, fun _ => by omega⟩
/-! bytes, as both sides see them -/
def sb (n : Nat) : Int32 := (nI n).toInt8.toInt32
theorem byt_all : ∀ n, n < 256 → F_X4_isLetter (sb n) v0 = some (isL n) ∧ F_X4_isDigit (sb n) v0 = some (isD n) ∧ F_X6_within (nI n) 97 122 v0 = some (isL n) ∧ F_X6_within (nI n) 48 57 v0 = some (isD n) ∧ (sb n = 32 ↔ n = 32) ∧ (nI n = 32 ↔ n = 32) ∧ (sb n = 59 ↔ n = 59) ∧ (nI n = 59 ↔ n = 59) ∧ (isD n = true → sb n = nI n) := by decide +kernel
theorem C_isL {n : Nat} (h : n < 256) (v : VV) : F_X4_isLetter (sb n) v = some (isL n) := (byt_all n h).1
theorem C_isD {n : Nat} (h : n < 256) (v : VV) : F_X4_isDigit (sb n) v = some (isD n) := (byt_all n h).2.1
theorem M_isL {n : Nat} (h : n < 256) (v : VV) : F_X6_within (nI n) 97 122 v = some (isL n) := (byt_all n h).2.2.1
theorem M_isD {n : Nat} (h : n < 256) (v : VV) : F_X6_within (nI n) 48 57 v = some (isD n) := (byt_all n h).2.2.2.1
theorem m1L : ∀ v : VV, F_X6_within (-1) 97 122 v = some false := fun v => rfl
theorem m1D : ∀ v : VV, F_X6_within (-1) 48 57 v = some false := fun v => rfl
/-- the text as it stands in both memories -/
def TxC (t : Nat) (b : Nat → Nat) (v : VV) : Prop := t ≤ 120 ∧ v 23 1 = nI t ∧ ∀ j, j < t → b j < 256 ∧ v 24 j = sb (b j)
def TxM (t : Nat) (b : Nat → Nat) (v : VV) : Prop := t ≤ 120 ∧ v 0 6 = nI t ∧ ∀ j, j < t → b j < 256 ∧ v 5 j = nI (b j)
/-- the class stands at the token behind p -/
def CT (t : Nat) (b : Nat → Nat) (v : VV) (p : Nat) : Prop := v 23 2 = nI (tkK t b p) ∧ v 23 3 = nI (tkB t b p) ∧ v 23 4 = nI (tkE t b p) ∧ (tkK t b p = 2 → v 23 5 = nI (tkN t b p))
def MT (t : Nat) (b : Nat → Nat) (v : VV) (p : Nat) : Prop := v 0 9 = nI (if tkK t b p = 4 then 3 else tkK t b p) ∧ v 0 7 = nI (tkB t b p) ∧ v 0 8 = nI (tkE t b p) ∧ (tkK t b p = 2 → v 0 10 = nI (tkN t b p))
theorem nm_bd (b : Nat → Nat) : ∀ (k j x : Nat), x ≤ 10000 → itr (nmS b) j k x ≤ 10000
  | 0, _, _, h => h
  | k + 1, j, x, h => by
    rw [itr_s]
    refine nm_bd b k (j + 1) _ ?_
    unfold nmS
    split <;> omega
theorem nm_step {x n : Nat} (hx : x ≤ 10000) (hn : isD n = true) : (if ((10 * nI x) + nI n) - 48 < 10000 then ((10 * nI x) + nI n) - 48 else 10000 : Int32) = nI (if 10 * x + n - 48 < 10000 then 10 * x + n - 48 else 10000) := by
  have h : 48 ≤ n ∧ n ≤ 57 := of_decide_eq_true hn
  rw [show (10 : Int32) = nI 10 from rfl, pk_mul, nI_add, show (48 : Int32) = nI 48 from rfl, pk_sub (by omega), show (10000 : Int32) = nI 10000 from rfl]
  by_cases q : 10 * x + n - 48 < 10000
  · rw [if_pos (nI_lt q (by omega)), if_pos q]
  · rw [if_neg (nI_nlt (by omega) (by omega)), if_neg q]
/-! the class steps -/
theorem C_word {t B : Nat} {b : Nat → Nat} {v : VV} (hx : TxC t b v) (hB : B ≤ t) (h4 : v 23 4 = nI B) (f : Nat) (hf : 121 < f) : ∃ v', L_X4_step_93 f v = some v' ∧ v' 23 4 = nI (stopN (ltP t b) 121 B) ∧ (∀ s, s ≠ 4 → v' 23 s = v 23 s) ∧ ∀ i, i ≠ 23 → v' i = v i := by
  obtain ⟨ht, h1, hb⟩ := hx
  obtain ⟨r1, r2, r3, r4, -⟩ := run_sp (b := b) (f := isL) hB ht
  have eN : stopN (fun j => decide (j < t) && isL (b j)) 121 B = stopN (ltP t b) 121 B := rfl
  rw [eN] at r1 r2 r3 r4
  refine loopR (L := fun f (x : VV) _ => L_X4_step_93 f x) (N := stopN (ltP t b) 121 B) (fun j x => x 23 4 = nI j ∧ B ≤ j ∧ (∀ s, s ≠ 4 → x 23 s = v 23 s) ∧ ∀ i, i ≠ 23 → x i = v i) (fun z => ∃ v', z = some v' ∧ v' 23 4 = nI (stopN (ltP t b) 121 B) ∧ (∀ s, s ≠ 4 → v' 23 s = v 23 s) ∧ ∀ i, i ≠ 23 → v' i = v i) (fun f x hx => ?_) (fun f j x hj hx => Or.inl ?_) (stopN (ltP t b) 121 B - B) f B v (by omega) (by omega) ⟨h4, Nat.le_refl _, fun _ _ => rfl, fun _ _ => rfl⟩
  · obtain ⟨g4, gB, gs, go⟩ := hx
    refine ⟨x, ?_, g4, gs, go⟩
    show L_X4_step_93 (f + 1) x = _
    rw [L_X4_step_93, gs 1 (by decide), h1, g4]
    by_cases q : t ≤ stopN (ltP t b) 121 B
    · rw [if_pos (nI_le q (by omega))]
    · rw [if_neg (nI_ge (by omega) (by omega)), gu_nI (by omega) (by decide), cl_nI (by omega), go 24 (by decide), (hb _ (by omega)).2, C_isL (hb _ (by omega)).1, bd_s, if_neg (r4 (by omega))]
  · obtain ⟨g4, gB, gs, go⟩ := hx
    refine ⟨pu x 23 4 (nI (j + 1)), ?_, by rw [pu_self, upd_self], by omega, fun s hs => by rw [pu_self, upd_ne _ _ hs]; exact gs s hs, fun i hi => by rw [pu_ne _ _ _ hi]; exact go i hi⟩
    show L_X4_step_93 (f + 1) x = L_X4_step_93 f _
    rw [L_X4_step_93, gs 1 (by decide), h1, g4, if_neg (nI_ge (by omega) (by omega)), gu_nI (by omega) (by decide), cl_nI (by omega), go 24 (by decide), (hb _ (by omega)).2, C_isL (hb _ (by omega)).1, bd_s, if_pos (r3 j gB hj), nI_1]
theorem C_numb {t B : Nat} {b : Nat → Nat} {v : VV} (hx : TxC t b v) (hB : B ≤ t) (h4 : v 23 4 = nI B) (h5 : v 23 5 = 0) (f : Nat) (hf : 121 < f) : ∃ v', L_X4_step_157 f v = some v' ∧ v' 23 4 = nI (stopN (dgP t b) 121 B) ∧ v' 23 5 = nI (itr (nmS b) B (stopN (dgP t b) 121 B - B) 0) ∧ (∀ s, s ≠ 4 → s ≠ 5 → v' 23 s = v 23 s) ∧ ∀ i, i ≠ 23 → v' i = v i := by
  obtain ⟨ht, h1, hb⟩ := hx
  obtain ⟨r1, r2, r3, r4, -⟩ := run_sp (b := b) (f := isD) hB ht
  have eN : stopN (fun j => decide (j < t) && isD (b j)) 121 B = stopN (dgP t b) 121 B := rfl
  rw [eN] at r1 r2 r3 r4
  refine loopR (L := fun f (x : VV) _ => L_X4_step_157 f x) (N := stopN (dgP t b) 121 B) (fun j x => x 23 4 = nI j ∧ B ≤ j ∧ x 23 5 = nI (itr (nmS b) B (j - B) 0) ∧ (∀ s, s ≠ 4 → s ≠ 5 → x 23 s = v 23 s) ∧ ∀ i, i ≠ 23 → x i = v i) (fun z => ∃ v', z = some v' ∧ v' 23 4 = nI (stopN (dgP t b) 121 B) ∧ v' 23 5 = nI (itr (nmS b) B (stopN (dgP t b) 121 B - B) 0) ∧ (∀ s, s ≠ 4 → s ≠ 5 → v' 23 s = v 23 s) ∧ ∀ i, i ≠ 23 → v' i = v i) (fun f x hx => ?_) (fun f j x hj hx => Or.inl ?_) (stopN (dgP t b) 121 B - B) f B v (by omega) (by omega) ⟨h4, Nat.le_refl _, by rw [h5, Nat.sub_self]; rfl, fun _ _ _ => rfl, fun _ _ => rfl⟩
  · obtain ⟨g4, gB, g5, gs, go⟩ := hx
    refine ⟨x, ?_, g4, g5, gs, go⟩
    show L_X4_step_157 (f + 1) x = _
    rw [L_X4_step_157, gs 1 (by decide) (by decide), h1, g4]
    by_cases q : t ≤ stopN (dgP t b) 121 B
    · rw [if_pos (nI_le q (by omega))]
    · rw [if_neg (nI_ge (by omega) (by omega)), gu_nI (by omega) (by decide), cl_nI (by omega), go 24 (by decide), (hb _ (by omega)).2, C_isD (hb _ (by omega)).1, bd_s, if_neg (r4 (by omega))]
  · obtain ⟨g4, gB, g5, gs, go⟩ := hx
    have hd := r3 j gB hj
    have hb' := (hb j (by omega))
    have esb : sb (b j) = nI (b j) := (byt_all _ hb'.1).2.2.2.2.2.2.2.2 hd
    have eN2 : itr (nmS b) B (j + 1 - B) 0 = if 10 * itr (nmS b) B (j - B) 0 + b j - 48 < 10000 then 10 * itr (nmS b) B (j - B) 0 + b j - 48 else 10000 := by
      rw [show j + 1 - B = (j - B) + 1 by omega, itr_snoc, show B + (j - B) = j by omega]
      rfl
    refine ⟨pu (pu x 23 5 (nI (itr (nmS b) B (j + 1 - B) 0))) 23 4 (nI (j + 1)), ?_, by rw [pu_self, upd_self], by omega, by rw [pu_self, upd_ne _ _ (by decide), pu_self, upd_self], fun s hs h5 => by rw [pu_self, upd_ne _ _ hs, pu_self, upd_ne _ _ h5]; exact gs s hs h5, fun i hi => by rw [pu_ne _ _ _ hi, pu_ne _ _ _ hi]; exact go i hi⟩
    show L_X4_step_157 (f + 1) x = L_X4_step_157 f _
    rw [L_X4_step_157, gs 1 (by decide) (by decide), h1, g4, if_neg (nI_ge (by omega) (by omega)), gu_nI (by omega) (by decide), gu_nI (by omega) (by decide), cl_nI (by omega), go 24 (by decide), hb'.2, C_isD hb'.1, bd_s, if_pos hd, g5, esb, nm_step (nm_bd b _ _ _ (by omega)) hd, ← eN2, pu_self, upd_ne _ _ (show (4 : Nat) ≠ 5 by decide), g4, nI_1]
def innC (x : VV) : Option VV := (if (x 23 3) < (x 23 1) then (gu (gI (x 23 3) 120) (Option.bind (F_X4_isLetter (x 24 ((x 23 3).toNatClampNeg)) x) (fun r5 => (if r5 = true then (L_X4_step_93 fu (pu x 23 2 1)) else (gu (gI (x 23 3) 120) (Option.bind (F_X4_isDigit (x 24 ((x 23 3).toNatClampNeg)) x) (fun r9 => (if r9 = true then (L_X4_step_157 fu (pu (pu x 23 2 2) 23 5 0)) else (gu (gI (x 23 3) 120) ((if (x 24 ((x 23 3).toNatClampNeg)) = 59 then (some (pu (pu x 23 2 3) 23 4 (((pu x 23 2 3) 23 4) + 1))) else (some (pu (pu x 23 2 4) 23 4 (((pu x 23 2 4) 23 4) + 1)))))))))))))) else (some (pu x 23 2 0)))
theorem step8 (n : Nat) (v : VV) : L_X4_step_8 (n + 1) v = if (v 23 1) ≤ (v 23 3) then innC (pu v 23 4 (v 23 3)) else (gu (gI (v 23 3) 120) ((if (v 24 ((v 23 3).toNatClampNeg)) = 32 then (L_X4_step_8 n (pu v 23 3 ((v 23 3) + 1))) else innC (pu v 23 4 (v 23 3))))) := rfl
theorem C_inn {t p : Nat} {b : Nat → Nat} {v : VV} (hx : TxC t b v) (hp : p ≤ t) (h3 : v 23 3 = nI (tkB t b p)) : ∃ v', innC (pu v 23 4 (v 23 3)) = some v' ∧ CT t b v' p ∧ v' 23 1 = nI t ∧ ∀ i, i ≠ 23 → v' i = v i := by
  obtain ⟨ht, h1, hb⟩ := hx
  obtain ⟨a1, a2, a3, a4⟩ := tkB_sp b hp ht
  have e3 : pu v 23 4 (v 23 3) 23 3 = nI (tkB t b p) := by rw [pu_self, upd_ne _ _ (by decide)]; exact h3
  have e1 : pu v 23 4 (v 23 3) 23 1 = nI t := by rw [pu_self, upd_ne _ _ (by decide)]; exact h1
  have e4 : pu v 23 4 (v 23 3) 23 4 = nI (tkB t b p) := by rw [pu_self, upd_self]; exact h3
  have e24 : pu v 23 4 (v 23 3) 24 = v 24 := pu_ne _ _ _ (by decide)
  have eo : ∀ i, i ≠ 23 → pu v 23 4 (v 23 3) i = v i := fun i hi => pu_ne _ _ _ hi
  generalize pu v 23 4 (v 23 3) = x at e3 e1 e4 e24 eo
  unfold innC
  rw [e3, e1]
  unfold CT tkN
  by_cases q : t ≤ tkB t b p
  · have ek : tkK t b p = 0 := by unfold tkK; rw [if_pos q]
    have ee : tkE t b p = tkB t b p := by unfold tkE; rw [if_pos q]
    rw [if_neg (nI_nlt (by omega) (by omega))]
    refine ⟨_, rfl, ⟨?_, ?_, ?_, fun z => by omega⟩, ?_, fun i hi => by rw [pu_ne _ _ _ hi]; exact eo i hi⟩
    · rw [pu_self, upd_self, ek]; rfl
    · rw [pu_self, upd_ne _ _ (by decide)]; exact e3
    · rw [pu_self, upd_ne _ _ (by decide), ee]; exact e4
    · rw [pu_self, upd_ne _ _ (by decide)]; exact e1
  · obtain ⟨b1, b2⟩ := hb (tkB t b p) (by omega)
    rw [if_pos (nI_lt (by omega) (by omega)), gu_nI (by omega) (by decide), gu_nI (by omega) (by decide), gu_nI (by omega) (by decide), cl_nI (by omega), e24, b2, C_isL b1, bd_s, C_isD b1, bd_s]
    by_cases q1 : isL (b (tkB t b p)) = true
    · have ek : tkK t b p = 1 := by unfold tkK; rw [if_neg q, if_pos q1]
      have ee : tkE t b p = stopN (ltP t b) 121 (tkB t b p) := by unfold tkE; rw [if_neg q, if_pos q1]
      rw [if_pos q1]
      obtain ⟨v', c1, c2, c3, c4⟩ := C_word (t := t) (B := tkB t b p) (b := b) (v := pu x 23 2 1) ⟨ht, by rw [pu_self, upd_ne _ _ (by decide)]; exact e1, fun j hj => by rw [pu_ne _ _ _ (by decide), e24]; exact hb j hj⟩ a2 (by rw [pu_self, upd_ne _ _ (by decide)]; exact e4) fu (by unfold fu; omega)
      refine ⟨v', c1, ⟨?_, ?_, by rw [c2, ee], fun z => by omega⟩, ?_, fun i hi => by rw [c4 i hi, pu_ne _ _ _ hi]; exact eo i hi⟩
      · rw [c3 2 (by decide), pu_self, upd_self, ek]; rfl
      · rw [c3 3 (by decide), pu_self, upd_ne _ _ (by decide)]; exact e3
      · rw [c3 1 (by decide), pu_self, upd_ne _ _ (by decide)]; exact e1
    · rw [if_neg q1]
      by_cases q2 : isD (b (tkB t b p)) = true
      · have ek : tkK t b p = 2 := by unfold tkK; rw [if_neg q, if_neg q1, if_pos q2]
        have ee : tkE t b p = stopN (dgP t b) 121 (tkB t b p) := by unfold tkE; rw [if_neg q, if_neg q1, if_pos q2]
        rw [if_pos q2]
        obtain ⟨v', c1, c2, c5, c3, c4⟩ := C_numb (t := t) (B := tkB t b p) (b := b) (v := pu (pu x 23 2 2) 23 5 0) ⟨ht, by rw [pu_self, upd_ne _ _ (by decide), pu_self, upd_ne _ _ (by decide)]; exact e1, fun j hj => by rw [pu_ne _ _ _ (by decide), pu_ne _ _ _ (by decide), e24]; exact hb j hj⟩ a2 (by rw [pu_self, upd_ne _ _ (by decide), pu_self, upd_ne _ _ (by decide)]; exact e4) (by rw [pu_self, upd_self]) fu (by unfold fu; omega)
        refine ⟨v', c1, ⟨?_, ?_, by rw [c2, ee], fun _ => by rw [c5, ee]⟩, ?_, fun i hi => by rw [c4 i hi, pu_ne _ _ _ hi, pu_ne _ _ _ hi]; exact eo i hi⟩
        · rw [c3 2 (by decide) (by decide), pu_self, upd_ne _ _ (by decide), pu_self, upd_self, ek]; rfl
        · rw [c3 3 (by decide) (by decide), pu_self, upd_ne _ _ (by decide), pu_self, upd_ne _ _ (by decide)]; exact e3
        · rw [c3 1 (by decide) (by decide), pu_self, upd_ne _ _ (by decide), pu_self, upd_ne _ _ (by decide)]; exact e1
      · have ee : tkE t b p = tkB t b p + 1 := by unfold tkE; rw [if_neg q, if_neg q1, if_neg q2]
        rw [if_neg q2]
        have fin : ∀ k : Nat, tkK t b p = k → k ≠ 2 → ∃ v', some (pu (pu x 23 2 (nI k)) 23 4 (((pu x 23 2 (nI k)) 23 4) + 1)) = some v' ∧ (v' 23 2 = nI (tkK t b p) ∧ v' 23 3 = nI (tkB t b p) ∧ v' 23 4 = nI (tkE t b p) ∧ (tkK t b p = 2 → v' 23 5 = nI (itr (nmS b) (tkB t b p) (tkE t b p - tkB t b p) 0))) ∧ v' 23 1 = nI t ∧ ∀ i, i ≠ 23 → v' i = v i := fun k hk h2 => by
          refine ⟨_, rfl, ⟨?_, ?_, ?_, fun z => by omega⟩, ?_, fun i hi => by rw [pu_ne _ _ _ hi, pu_ne _ _ _ hi]; exact eo i hi⟩
          · rw [pu_self, upd_ne _ _ (by decide), pu_self, upd_self, hk]
          · rw [pu_self, upd_ne _ _ (by decide), pu_self, upd_ne _ _ (by decide)]; exact e3
          · rw [pu_self, upd_self, pu_self, upd_ne _ _ (by decide), e4, nI_1, ee]
          · rw [pu_self, upd_ne _ _ (by decide), pu_self, upd_ne _ _ (by decide)]; exact e1
        by_cases q3 : b (tkB t b p) = 59
        · rw [if_pos ((byt_all _ b1).2.2.2.2.2.2.1.mpr q3)]
          exact fin 3 (by unfold tkK; rw [if_neg q, if_neg q1, if_neg q2, if_pos q3]) (by decide)
        · rw [if_neg (fun z => q3 ((byt_all _ b1).2.2.2.2.2.2.1.mp z))]
          exact fin 4 (by unfold tkK; rw [if_neg q, if_neg q1, if_neg q2, if_neg q3]) (by decide)
theorem C_step {t p : Nat} {b : Nat → Nat} {v : VV} (hx : TxC t b v) (hp : p ≤ t) (h4 : v 23 4 = nI p) : ∃ v', F_X4_step v = some v' ∧ CT t b v' p ∧ v' 23 1 = nI t ∧ ∀ i, i ≠ 23 → v' i = v i := by
  obtain ⟨ht, h1, hb⟩ := id hx
  obtain ⟨a1, a2, a3, a4⟩ := tkB_sp b hp ht
  unfold F_X4_step
  refine loopR (L := fun f (x : VV) _ => L_X4_step_8 f x) (N := tkB t b p) (fun j x => x 23 3 = nI j ∧ p ≤ j ∧ TxC t b x ∧ ∀ i, i ≠ 23 → x i = v i) (fun z => ∃ v', z = some v' ∧ CT t b v' p ∧ v' 23 1 = nI t ∧ ∀ i, i ≠ 23 → v' i = v i) (fun f x hx => ?_) (fun f j x hj hx => Or.inl ?_) (tkB t b p - p) fu p (pu v 23 3 (v 23 4)) (by omega) (by unfold fu; omega) ⟨by rw [pu_self, upd_self]; exact h4, Nat.le_refl _, ⟨ht, by rw [pu_self, upd_ne _ _ (by decide)]; exact h1, fun j hj => by rw [pu_ne _ _ _ (by decide)]; exact hb j hj⟩, fun i hi => pu_ne _ _ _ hi⟩
  · obtain ⟨g3, gp, gx, go⟩ := hx
    obtain ⟨v', c1, c2, c3, c4⟩ := C_inn gx hp g3
    refine ⟨v', ?_, c2, c3, fun i hi => by rw [c4 i hi]; exact go i hi⟩
    show L_X4_step_8 (f + 1) x = _
    rw [step8, c1, gx.2.1, g3]
    by_cases q : t ≤ tkB t b p
    · rw [if_pos (nI_le q (by omega))]
    · obtain ⟨b1, b2⟩ := gx.2.2 (tkB t b p) (by omega)
      rw [if_neg (nI_ge (by omega) (by omega)), gu_nI (by omega) (by decide), cl_nI (by omega), b2, if_neg (fun z => a4 (by omega) ((byt_all _ b1).2.2.2.2.1.mp z))]
  · obtain ⟨g3, gp, gx, go⟩ := hx
    obtain ⟨j1, j2⟩ := a3 j gp hj
    obtain ⟨b1, b2⟩ := gx.2.2 j j1
    refine ⟨pu x 23 3 (nI (j + 1)), ?_, by rw [pu_self, upd_self], by omega, ⟨ht, by rw [pu_self, upd_ne _ _ (by decide)]; exact gx.2.1, fun j hj => by rw [pu_ne _ _ _ (by decide)]; exact gx.2.2 j hj⟩, fun i hi => by rw [pu_ne _ _ _ hi]; exact go i hi⟩
    show L_X4_step_8 (f + 1) x = L_X4_step_8 f _
    rw [step8, gx.2.1, g3, if_neg (nI_ge (by omega) (by omega)), gu_nI (by omega) (by decide), cl_nI (by omega), b2, if_pos ((byt_all _ b1).2.2.2.2.1.mpr j2), nI_1]
