/-! PURE PART 14: sheets -/
theorem Rel.sh {v v2 : VV} (h : Rel v) (e : ∀ i, (i ≠ 7 ∧ i ≠ 8 ∧ i ≠ 9 ∧ i ≠ 10 ∧ ¬ (15 ≤ i ∧ i < 23)) → v2 i = v i) (hS : RelS v2) : Rel v2 := by
  obtain ⟨hC, hD, hK, hF, hT, -⟩ := h
  exact ⟨RelC_cg hC (e 1 (by decide)) (fun i a b => e i (by omega)), RelD_cg hD (fun i a b => e i (by omega)), RelK_cg hK (e 2 (by decide)) (by rw [e 12 (by decide)]) (by rw [e 0 (by decide)]) (fun i a b => e i (by omega)), RelF_cg hF (e 4 (by decide)) (e 13 (by decide)), RelT_cg hT (by rw [e 23 (by decide)]) (by rw [e 0 (by decide)]) (e 5 (by decide)) (e 24 (by decide)), hS⟩
theorem C_isSheet (a : Int32) (v : VV) : F_X5_isSheet a v = some (inR a 4) := inL (n := 4) (by decide) a
theorem C_inM {n : Nat} (hn : n ≤ 100) (a : Int32) (v : VV) : F_X5_isUpTo a (nI n - 1) v = some (inR a n) := inM hn a v
theorem sh15 (s : Nat) : 14 + 1 + s = 15 + s := by omega
theorem sh19 (s : Nat) : 15 + s + 4 = 19 + s := by omega
theorem ln19 : ∀ s, s < 4 → ln (19 + s) = 40 := by decide
theorem C_fillL {q : Nat} (hq : ln q = 40) (x : Int32) : ∀ (k n i : Nat) (v : VV), i + k = 40 → k < n → L_J7_fill_53178_5 n q x (nI i) (nI 40) v = some (va_up v q (fun j => if i ≤ j ∧ j < 40 then x else v q j)) := by
  intro k
  induction k with
  | zero =>
    intro n i v hik hn
    obtain ⟨n, rfl⟩ : ∃ z, n = z + 1 := ⟨n - 1, by omega⟩
    rw [L_J7_fill_53178_5, if_pos (nI_le (by omega) (by omega))]
    congr 1
    rw [show (fun j => if i ≤ j ∧ j < 40 then x else v q j) = v q from funext (fun y => if_neg (by omega)), up_id]
  | succ k ih =>
    intro n i v hik hn
    obtain ⟨n, rfl⟩ : ∃ z, n = z + 1 := ⟨n - 1, by omega⟩
    rw [L_J7_fill_53178_5, if_neg (nI_ge (by omega) (by omega)), hq, gu_nI (by omega) (by decide), cl_nI (by omega), nI_1, ih n (i + 1) _ (by omega) (by omega), pu_up, up_up, va_up_self]
    congr 2
    funext y
    by_cases e : y = i
    · rw [e, if_neg (by omega), if_pos (by omega), upd_self]
    · rw [upd_ne _ _ e]
      by_cases h : i ≤ y ∧ y < 40
      · rw [if_pos h, if_pos (by omega)]
      · rw [if_neg h, if_neg (by omega)]
theorem C_fill {q : Nat} (hq : ln q = 40) (x : Int32) (v : VV) : F_J7_fill_53178 q x v = some (va_up v q (fun j => if j < 40 then x else v q j)) := by
  unfold F_J7_fill_53178
  rw [hq, nI0, C_fillL hq x 40 fu 0 v (by omega) (by unfold fu; omega)]
  congr 2
  funext y
  by_cases h : y < 40
  · rw [if_pos (by omega), if_pos h]
  · rw [if_neg (by omega), if_neg h]
theorem fty {s : Nat} (i : Nat) : (40 : Int32) * nI s + nI i = nI (40 * s + i) := by rw [show (40 : Int32) = nI 40 from rfl, pk_mul, nI_add]
theorem M_shL {s : Nat} (hs : s < 4) (x y : Int32) : ∀ (k n i : Nat) (v : VV), i + k = 40 → k < n → L_X6_sheet_86 n (nI s) x y (nI i) v = some (v 8 s, va_up v 9 (fun j => if 40 * s + i ≤ j ∧ j < 40 * s + 40 then 0 else v 9 j)) := by
  intro k
  induction k with
  | zero =>
    intro n i v hik hn
    obtain ⟨n, rfl⟩ : ∃ z, n = z + 1 := ⟨n - 1, by omega⟩
    rw [L_X6_sheet_86, if_pos (by rw [show (40 : Int32) = nI 40 from rfl]; exact nI_le (by omega) (by omega)), gu_nI hs (by decide), cl_nI (by omega)]
    congr 2
    rw [show (fun j => if 40 * s + i ≤ j ∧ j < 40 * s + 40 then 0 else v 9 j) = v 9 from funext (fun y => if_neg (by omega)), up_id]
  | succ k ih =>
    intro n i v hik hn
    obtain ⟨n, rfl⟩ : ∃ z, n = z + 1 := ⟨n - 1, by omega⟩
    rw [L_X6_sheet_86, if_neg (by rw [show (40 : Int32) = nI 40 from rfl]; exact nI_ge (by omega) (by omega)), fty, gu_nI (by omega) (by decide), cl_nI (by omega), nI_1, ih n (i + 1) _ (by omega) (by omega), pu_up, up_up, va_up_self, va_up_ne _ _ (by decide)]
    congr 3
    funext y
    by_cases e : y = 40 * s + i
    · rw [e, if_neg (by omega), if_pos (by omega), upd_self]
    · rw [upd_ne _ _ e]
      by_cases h : 40 * s + i ≤ y ∧ y < 40 * s + 40
      · rw [if_pos h, if_pos (by omega)]
      · rw [if_neg h, if_neg (by omega)]
def wOK (a : Int32) : Prop := a = 0 ∨ a = 8 ∨ a = 16 ∨ a = 32
theorem C_shE {b : Int32} (hw : wOK b) (a c : Int32) (v : VV) : F_X5_sheet a b c v = Option.bind (F_X5_isSheet a v) (fun r27 => (if r27 = true then (if 0 ≤ c then (if c ≤ 40 then (gu (gI a 4) (Option.bind (F_X3_begin (14 + 1 + ((a).toNatClampNeg)) b c v) (fun v39 => gu (gI a 4) (some (v39 (14 + 1 + ((a).toNatClampNeg)) 2, v39))))) else (Option.bind (F_X5_finding 0 v) (fun (r42, v43) => some (r42, v43)))) else (Option.bind (F_X5_finding 6 v) (fun (r46, v47) => some (r46, v47)))) else (Option.bind (F_X5_finding 0 v) (fun (r30, v31) => some (r30, v31))))) := by
  unfold F_X5_sheet
  rcases hw with rfl | rfl | rfl | rfl
  · rw [if_pos rfl]
  · rw [if_neg (by decide), if_pos rfl]
  · rw [if_neg (by decide), if_neg (by decide), if_pos rfl]
  · rw [if_neg (by decide), if_neg (by decide), if_neg (by decide), if_pos rfl]
theorem M_shE {b : Int32} (hw : wOK b) (a c : Int32) (v : VV) : F_X6_sheet a b c v = Option.bind (F_X6_isSheet a v) (fun r2 => (if r2 = true then (if 0 ≤ c then (if c ≤ 40 then (gu (gI a 4) ((if b = 0 then (gu (gI a 4) (L_X6_sheet_86 fu a b c 0 (pu (pu v 7 ((a).toNatClampNeg) b) 8 ((a).toNatClampNeg) 0))) else (gu (gI a 4) (L_X6_sheet_86 fu a b c 0 (pu (pu v 7 ((a).toNatClampNeg) b) 8 ((a).toNatClampNeg) c)))))) else (Option.bind (F_X6_finding (-1000001) v) (fun (r19, v20) => some (r19, v20)))) else (Option.bind (F_X6_finding (-1000007) v) (fun (r23, v24) => some (r23, v24)))) else (Option.bind (F_X6_finding (-1000001) v) (fun (r5, v6) => some (r5, v6))))) := by
  unfold F_X6_sheet
  rcases hw with rfl | rfl | rfl | rfl
  · simp only [if_true, if_pos (show (0 : Int32) = 0 from rfl)]
  · simp only [if_true, if_neg (show ¬ (8 : Int32) = 0 by decide), if_pos (show (8 : Int32) = 8 from rfl)]
  · simp only [if_true, if_neg (show ¬ (16 : Int32) = 0 by decide), if_neg (show ¬ (16 : Int32) = 8 by decide), if_pos (show (16 : Int32) = 16 from rfl)]
  · simp only [if_true, if_neg (show ¬ (32 : Int32) = 0 by decide), if_neg (show ¬ (32 : Int32) = 8 by decide), if_neg (show ¬ (32 : Int32) = 16 by decide), if_pos (show (32 : Int32) = 32 from rfl)]
theorem C_shN {b : Int32} (hw : ¬ wOK b) (a c : Int32) (v : VV) : F_X5_sheet a b c v = Option.bind (F_X5_finding 0 v) (fun (r, w) => some (r, w)) := by
  have h0 : ¬ b = 0 := fun q => hw (Or.inl q)
  have h1 : ¬ b = 8 := fun q => hw (Or.inr (Or.inl q))
  have h2 : ¬ b = 16 := fun q => hw (Or.inr (Or.inr (Or.inl q)))
  have h3 : ¬ b = 32 := fun q => hw (Or.inr (Or.inr (Or.inr q)))
  unfold F_X5_sheet
  rw [if_neg h0, if_neg h1, if_neg h2, if_neg h3, C_isSheet, bd_s]
  split <;> rfl
theorem M_shN {b : Int32} (hw : ¬ wOK b) (a c : Int32) (v : VV) : F_X6_sheet a b c v = Option.bind (F_X6_finding (-1000001) v) (fun (r, w) => some (r, w)) := by
  have h0 : ¬ b = 0 := fun q => hw (Or.inl q)
  have h1 : ¬ b = 8 := fun q => hw (Or.inr (Or.inl q))
  have h2 : ¬ b = 16 := fun q => hw (Or.inr (Or.inr (Or.inl q)))
  have h3 : ¬ b = 32 := fun q => hw (Or.inr (Or.inr (Or.inr q)))
  unfold F_X6_sheet
  rw [M_isSheet, bd_s, if_neg h0, if_neg h1, if_neg h2, if_neg h3]
  split <;> rfl
theorem C_shB {s : Nat} (hs : s < 4) (b c : Int32) (v : VV) : F_X3_begin (15 + s) b c v = some (va_up (pu (pu v (15 + s) 1 b) (15 + s) 2 (if b = 0 then 0 else c)) (19 + s) (fun j => if j < 40 then 0 else v (19 + s) j)) := by
  unfold F_X3_begin
  have e : ∀ x : Int32, pu (pu v (15 + s) 1 b) (15 + s) 2 x (19 + s) = v (19 + s) := fun x => by rw [pu_ne _ _ _ (by omega), pu_ne _ _ _ (by omega)]
  rw [sh19, C_fill (ln19 s hs), C_fill (ln19 s hs), bd_s, bd_s, e, e]
  by_cases h : b = 0
  · rw [if_pos h, if_pos h]
  · rw [if_neg h, if_neg h]
theorem st_sheet {v : VV} (h : Rel v) (a b c : Int32) : StP (F_X5_sheet a b c) (F_X6_sheet a b c) v := by
  by_cases hw : wOK b
  · by_cases ha : inR a 4 = true
    · by_cases h0 : 0 ≤ c
      · by_cases h40 : c ≤ 40
        · obtain ⟨s, hs, rfl⟩ := inR_t ha (by decide)
          obtain ⟨n, hn, rfl⟩ : ∃ n, n ≤ 40 ∧ c = nI n := nI_of2 (M := 40) (n := 40) (by decide) (fun q => by have := (lt_iff _ _).mp q; have := (le_iff _ _).mp h0; omega) h40
          have hz : ∃ z, z ≤ 40 ∧ (if b = 0 then (0 : Int32) else nI n) = nI z := by
            by_cases q : b = 0
            · exact ⟨0, by omega, if_pos q⟩
            · exact ⟨n, hn, if_neg q⟩
          obtain ⟨z, hz1, hz2⟩ := hz
          refine ⟨nI z, va_up (pu (pu v (15 + s) 1 b) (15 + s) 2 (nI z)) (19 + s) (fun j => if j < 40 then 0 else v (19 + s) j), ?_⟩
          generalize hv1 : va_up (pu (pu v (15 + s) 1 b) (15 + s) 2 (nI z)) (19 + s) (fun j => if j < 40 then 0 else v (19 + s) j) = v1
          have e2 : v1 (15 + s) 2 = nI z := by rw [← hv1, va_up_ne _ _ (by omega), pu_self, upd_self]
          have e1 : v1 (15 + s) 1 = b := by rw [← hv1, va_up_ne _ _ (by omega), pu_self, upd_ne _ _ (by decide), pu_self, upd_self]
          have e19 : v1 (19 + s) = fun j => if j < 40 then 0 else v (19 + s) j := by rw [← hv1, va_up_self]
          have eo : ∀ i, i ≠ 15 + s → i ≠ 19 + s → v1 i = v i := fun i p q => by rw [← hv1, va_up_ne _ _ q, pu_ne _ _ _ p, pu_ne _ _ _ p]
          refine ⟨va_up (pu (pu v1 7 s b) 8 s (nI z)) 9 (fun j => if 40 * s + 0 ≤ j ∧ j < 40 * s + 40 then 0 else v1 9 j), ?_, ?_, ?_⟩
          · rw [C_shE hw, C_isSheet, bd_s, if_pos ha, if_pos h0, if_pos h40, gu_nI hs (by decide), cl_nI (by omega), sh15, C_shB hs, bd_s, hz2, hv1, gu_nI hs (by decide), e2]
          · rw [M_shE hw, M_isSheet, bd_s, if_pos ha, if_pos h0, if_pos h40, gu_nI hs (by decide), gu_nI hs (by decide), gu_nI hs (by decide), cl_nI (by omega)]
            have hL : ∀ (c : Int32) (w : VV), L_X6_sheet_86 fu (nI s) b c 0 w = some (w 8 s, va_up w 9 (fun j => if 40 * s + 0 ≤ j ∧ j < 40 * s + 40 then 0 else w 9 j)) := fun c w => M_shL hs b c 40 fu 0 w (by omega) (by unfold fu; omega)
            have e9 : ∀ w : VV, pu (pu v1 7 s b) 8 s (nI z) = w → w 8 s = nI z ∧ w 9 = v1 9 := fun w q => by rw [← q]; exact ⟨by rw [pu_self, upd_self], by rw [pu_ne _ _ _ (by decide), pu_ne _ _ _ (by decide)]⟩
            by_cases q : b = 0
            · rw [if_pos q] at hz2
              rw [if_pos q, hL, show pu (pu v1 7 s b) 8 s 0 = pu (pu v1 7 s b) 8 s (nI z) by rw [hz2], (e9 _ rfl).1, (e9 _ rfl).2]
            · rw [if_neg q] at hz2
              rw [if_neg q, hz2, hL, (e9 _ rfl).1, (e9 _ rfl).2]
          · refine h.sh (fun i q => ?_) ?_
            · rw [va_up_ne _ _ q.2.2.1, pu_ne _ _ _ q.2.1, pu_ne _ _ _ q.1, eo i (by omega) (by omega)]
            · have hS := h.2.2.2.2.2
              have w7 : va_up (pu (pu v1 7 s b) 8 s (nI z)) 9 (fun j => if 40 * s + 0 ≤ j ∧ j < 40 * s + 40 then 0 else v1 9 j) 7 = upd (v 7) s b := by rw [va_up_ne _ _ (by decide), pu_ne _ _ _ (by decide), pu_self, eo 7 (by omega) (by omega)]
              have w8 : va_up (pu (pu v1 7 s b) 8 s (nI z)) 9 (fun j => if 40 * s + 0 ≤ j ∧ j < 40 * s + 40 then 0 else v1 9 j) 8 = upd (v 8) s (nI z) := by rw [va_up_ne _ _ (by decide), pu_self, pu_ne _ _ _ (by decide), eo 8 (by omega) (by omega)]
              have w9 : va_up (pu (pu v1 7 s b) 8 s (nI z)) 9 (fun j => if 40 * s + 0 ≤ j ∧ j < 40 * s + 40 then 0 else v1 9 j) 9 = fun j => if 40 * s + 0 ≤ j ∧ j < 40 * s + 40 then 0 else v 9 j := by rw [va_up_self, eo 9 (by omega) (by omega)]
              have wo : ∀ i, 15 ≤ i → va_up (pu (pu v1 7 s b) 8 s (nI z)) 9 (fun j => if 40 * s + 0 ≤ j ∧ j < 40 * s + 40 then 0 else v1 9 j) i = v1 i := fun i p => by rw [va_up_ne _ _ (by omega), pu_ne _ _ _ (by omega), pu_ne _ _ _ (by omega)]
              generalize va_up (pu (pu v1 7 s b) 8 s (nI z)) 9 (fun j => if 40 * s + 0 ≤ j ∧ j < 40 * s + 40 then 0 else v1 9 j) = v2 at w7 w8 w9 wo
              intro t ht
              rw [w7, w8, w9, wo (15 + t) (by omega), wo (19 + t) (by omega)]
              by_cases et : t = s
              · subst et
                rw [upd_self, upd_self, e1, e2, e19]
                refine ⟨rfl, hw, ⟨z, hz1, rfl, rfl⟩, fun j hj => ?_⟩
                dsimp only
                rw [if_pos hj, if_pos (by omega)]
              · rw [upd_ne _ _ et, upd_ne _ _ et, eo (15 + t) (by omega) (by omega), eo (19 + t) (by omega) (by omega)]
                obtain ⟨q1, q2, q3, q4⟩ := hS t ht
                refine ⟨q1, q2, q3, fun j hj => ?_⟩
                dsimp only
                rw [if_neg (by omega)]
                exact q4 j hj
        · refine st_f0 h ?_ (fun v1 e1 => ?_)
          · rw [C_shE hw, C_isSheet, bd_s, if_pos ha, if_pos h0, if_neg h40]
          · rw [M_shE hw, M_isSheet, bd_s, if_pos ha, if_pos h0, if_neg h40]
      · refine st_f6 h ?_ (fun v1 e1 => ?_)
        · rw [C_shE hw, C_isSheet, bd_s, if_pos ha, if_neg h0]
        · rw [M_shE hw, M_isSheet, bd_s, if_pos ha, if_neg h0]
    · refine st_f0 h ?_ (fun v1 e1 => ?_)
      · rw [C_shE hw, C_isSheet, bd_s, if_neg ha]
      · rw [M_shE hw, M_isSheet, bd_s, if_neg ha]
  · refine st_f0 h (C_shN hw a c v) (fun v1 e1 => M_shN hw a c v1)
/-! a sheet that is there, or not -/
theorem fos_no {v : VV} (h : Rel v) {a : Int32} (ha : ¬ inR a 4 = true) : ∃ v1 v2, F_X5_findingOfSheet a v = some (-1000001, v1) ∧ F_X6_finding (-1000001) v1 = some (-1000001, v2) ∧ Rel v2 ∧ ∀ w, F_X6_lacks a 1 w = some (-1000001) := by
  obtain ⟨v1, v2, a1, b1, c1, d1, -⟩ := fnd h (f := 0) (by decide) (L := -1000001) (by decide)
  refine ⟨v1, v2, ?_, b1, c1, fun w => ?_⟩
  · unfold F_X5_findingOfSheet
    rw [C_isSheet, bd_s, if_neg ha, nI0, a1]
    rfl
  · unfold F_X6_lacks
    rw [M_isSheet, bd_s, if_neg ha]
theorem C_missing {q : Nat} (v : VV) : F_X3_isMissing q v = some (decide (v q 1 = 0)) := by
  unfold F_X3_isMissing
  by_cases h : v q 1 = 0
  · rw [if_pos h, decide_eq_true h]
  · rw [if_neg h, decide_eq_false h]
theorem fos_mi {v : VV} (h : Rel v) {s : Nat} (hs : s < 4) (h0 : v 7 s = 0) : ∃ v1 v2, F_X5_findingOfSheet (nI s) v = some (-1000006, v1) ∧ F_X6_finding (-1000006) v1 = some (-1000006, v2) ∧ Rel v2 ∧ v1 7 = v 7 ∧ F_X6_lacks (nI s) 1 v1 = some (-1000006) := by
  obtain ⟨v1, v2, a1, b1, c1, d1, -⟩ := fnd h (f := 5) (by decide) (L := -1000006) (by decide)
  have hi := inR_nI (k := s) (n := 4) hs (by decide)
  refine ⟨v1, v2, ?_, b1, c1, d1 7 (by decide), ?_⟩
  · unfold F_X5_findingOfSheet
    rw [C_isSheet, bd_s, if_pos hi, gu_nI hs (by decide), cl_nI (by omega), C_missing, bd_s, sh15, (h.2.2.2.2.2 s hs).1, if_pos (decide_eq_true h0), show (5 : Int32) = nI 5 from rfl, a1]
    rfl
  · unfold F_X6_lacks
    rw [M_isSheet, bd_s, if_pos hi, gu_nI hs (by decide), cl_nI (by omega), d1 7 (by decide), if_pos h0]
theorem fos_ok {v : VV} (h : Rel v) {s : Nat} (hs : s < 4) (h0 : ¬ v 7 s = 0) : F_X5_findingOfSheet (nI s) v = some (0, v) ∧ ∀ w : VV, w 7 = v 7 → F_X6_lacks (nI s) 1 w = some 0 := by
  have hi := inR_nI (k := s) (n := 4) hs (by decide)
  refine ⟨?_, fun w e => ?_⟩
  · unfold F_X5_findingOfSheet
    rw [C_isSheet, bd_s, if_pos hi, gu_nI hs (by decide), cl_nI (by omega), C_missing, bd_s, sh15, (h.2.2.2.2.2 s hs).1, if_neg (by rw [decide_eq_false h0]; decide)]
  · unfold F_X6_lacks
    rw [M_isSheet, bd_s, if_pos hi, gu_nI hs (by decide), cl_nI (by omega), e, if_neg h0, if_neg (by decide)]
theorem st_write {v : VV} (h : Rel v) (a b c : Int32) : StP (F_X5_write a b c) (F_X6_write a b c) v := by
  by_cases ha : inR a 4 = true
  · obtain ⟨s, hs, rfl⟩ := inR_t ha (by decide)
    by_cases h0 : v 7 s = 0
    · obtain ⟨v1, v2, a1, b1, c1, d1, -⟩ := fos_mi h hs h0
      refine ⟨-1000006, v1, v2, ?_, ?_, c1⟩
      · unfold F_X5_write
        rw [a1, bd_s]
        rfl
      · unfold F_X6_write
        rw [M_isSheet, bd_s, if_pos ha, gu_nI hs (by decide), cl_nI (by omega), d1, if_pos h0, b1]
        rfl
    · obtain ⟨q1, q2, ⟨n, hn, q3, q4⟩, q5⟩ := h.2.2.2.2.2 s hs
      by_cases hb : inR b n = true
      · obtain ⟨j, hj, rfl⟩ := inR_t hb (by omega)
        have hx : ∃ x : Int32, F_X3_put (15 + s) (nI j) c v = some (pu v (19 + s) j x) ∧ ∀ w, F_X6_cutTo c (v 7 s) w = some x := by
          unfold F_X3_put F_X6_cutTo
          rw [q1, sh19]
          by_cases w8 : v 7 s = 8
          · exact ⟨_, by rw [if_pos w8, gu_nI (by omega) (by decide), cl_nI (by omega)], fun w => by rw [if_pos w8]⟩
          · by_cases w16 : v 7 s = 16
            · exact ⟨_, by rw [if_neg w8, if_pos w16, gu_nI (by omega) (by decide), cl_nI (by omega)], fun w => by rw [if_neg w8, if_pos w16]⟩
            · exact ⟨_, by rw [if_neg w8, if_neg w16, gu_nI (by omega) (by decide), cl_nI (by omega)], fun w => by rw [if_neg w8, if_neg w16]⟩
        obtain ⟨x, x1, x2⟩ := hx
        have eo : ∀ i, i ≠ 19 + s → pu v (19 + s) j x i = v i := fun i q => pu_ne _ _ _ q
        refine ⟨1, pu v (19 + s) j x, pu (pu v (19 + s) j x) 9 (40 * s + j) x, ?_, ?_, ?_⟩
        · unfold F_X5_write
          rw [(fos_ok h hs h0).1, bd_s]
          dsimp only
          rw [if_pos rfl, gu_nI hs (by decide), gu_nI hs (by decide), cl_nI (by omega), sh15, q3, C_inM (by omega), bd_s, if_pos hb, x1, bd_s]
        · unfold F_X6_write
          rw [M_isSheet, bd_s, if_pos ha, gu_nI hs (by decide), gu_nI hs (by decide), gu_nI hs (by decide), cl_nI (by omega), eo 7 (by omega), eo 8 (by omega), if_neg h0, q4, inM (by omega), bd_s, if_pos hb, x2, bd_s, fty, gu_nI (by omega) (by decide), cl_nI (by omega)]
        · refine h.sh (fun i q => by rw [pu_ne _ _ _ q.2.2.1, eo i (by omega)]) ?_
          intro t ht
          have w7 : pu (pu v (19 + s) j x) 9 (40 * s + j) x 7 = v 7 := by rw [pu_ne _ _ _ (by decide), eo 7 (by omega)]
          have w8 : pu (pu v (19 + s) j x) 9 (40 * s + j) x 8 = v 8 := by rw [pu_ne _ _ _ (by decide), eo 8 (by omega)]
          have w9 : pu (pu v (19 + s) j x) 9 (40 * s + j) x 9 = upd (v 9) (40 * s + j) x := by rw [pu_self, eo 9 (by omega)]
          have wo : ∀ i, i ≠ 9 → pu (pu v (19 + s) j x) 9 (40 * s + j) x i = pu v (19 + s) j x i := fun i q => pu_ne _ _ _ q
          rw [w7, w8, w9, wo (15 + t) (by omega), wo (19 + t) (by omega), eo (15 + t) (by omega)]
          obtain ⟨r1, r2, r3, r4⟩ := h.2.2.2.2.2 t ht
          refine ⟨r1, r2, r3, fun i hi => ?_⟩
          by_cases et : t = s
          · subst et
            rw [pu_self]
            by_cases ei : i = j
            · rw [ei, upd_self, upd_self]
            · rw [upd_ne _ _ ei, upd_ne _ _ (by omega)]; exact r4 i hi
          · rw [eo (19 + t) (by omega), upd_ne _ _ (by omega)]; exact r4 i hi
      · refine st_f0 h ?_ (fun v1 e1 => ?_)
        · unfold F_X5_write
          rw [(fos_ok h hs h0).1, bd_s]
          dsimp only
          rw [if_pos rfl, gu_nI hs (by decide), cl_nI (by omega), sh15, q3, C_inM (by omega), bd_s, if_neg hb]
        · unfold F_X6_write
          rw [M_isSheet, bd_s, if_pos ha, gu_nI hs (by decide), gu_nI hs (by decide), cl_nI (by omega), e1 7 (by omega), e1 8 (by omega), if_neg h0, q4, inM (by omega), bd_s, if_neg hb]
  · obtain ⟨v1, v2, a1, b1, c1, d1⟩ := fos_no h ha
    refine ⟨-1000001, v1, v2, ?_, ?_, c1⟩
    · unfold F_X5_write
      rw [a1, bd_s]
      rfl
    · unfold F_X6_write
      rw [M_isSheet, bd_s, if_neg ha, b1]
      rfl
/-! copy -/
def runB (n : Nat) (a k : Int32) : Bool := decide (0 ≤ a.toInt ∧ 0 ≤ k.toInt ∧ a.toInt + k.toInt ≤ n)
theorem z32 : (0 : Int32).toInt = 0 := rfl
theorem runB_t {n : Nat} (hn : n ≤ 40) {a k : Int32} (h : runB n a k = true) : ∃ x y, x + y ≤ n ∧ a = nI x ∧ k = nI y := by
  have q : 0 ≤ a.toInt ∧ 0 ≤ k.toInt ∧ a.toInt + k.toInt ≤ n := of_decide_eq_true h
  obtain ⟨x, hx, rfl⟩ := inR_t (a := a) (n := 41) (decide_eq_true (by omega)) (by decide)
  obtain ⟨y, hy, rfl⟩ := inR_t (a := k) (n := 41) (decide_eq_true (by omega)) (by decide)
  have e1 := nI_toInt (n := x) (by omega)
  have e2 := nI_toInt (n := y) (by omega)
  exact ⟨x, y, by omega, rfl, rfl⟩
theorem C_hasRun {q n : Nat} (hn : n ≤ 40) {v : VV} (hq : v q 2 = nI n) (a k : Int32) : F_X3_hasRun q a k v = some (runB n a k) := by
  have en := nI_toInt (n := n) (by omega)
  unfold F_X3_hasRun runB
  rw [hq]
  by_cases h1 : a < 0
  · have := (lt_iff _ _).mp h1
    rw [if_pos h1, decide_eq_false (by rw [z32] at this; omega)]
  rw [if_neg h1]
  have h1' : ¬ a.toInt < (0 : Int32).toInt := fun z => h1 ((lt_iff _ _).mpr z)
  rw [z32] at h1'
  by_cases h2 : k < 0
  · have := (lt_iff _ _).mp h2
    rw [if_pos h2, decide_eq_false (by rw [z32] at this; omega)]
  rw [if_neg h2]
  have h2' : ¬ k.toInt < (0 : Int32).toInt := fun z => h2 ((lt_iff _ _).mpr z)
  rw [z32] at h2'
  by_cases h3 : nI n < a
  · have := (lt_iff _ _).mp h3
    rw [if_pos h3, decide_eq_false (by omega)]
  rw [if_neg h3]
  have h3' : ¬ (nI n).toInt < a.toInt := fun z => h3 ((lt_iff _ _).mpr z)
  obtain ⟨x, hx, rfl⟩ := inR_t (a := a) (n := n + 1) (decide_eq_true (by omega)) (by omega)
  have e1 := nI_toInt (n := x) (by omega)
  rw [pk_sub (by omega)]
  have e2 := nI_toInt (n := n - x) (by omega)
  by_cases h4 : nI (n - x) < k
  · have := (lt_iff _ _).mp h4
    rw [if_pos h4, decide_eq_false (by omega)]
  · have h4' : ¬ (nI (n - x)).toInt < k.toInt := fun z => h4 ((lt_iff _ _).mpr z)
    rw [if_neg h4, decide_eq_true (by omega)]
theorem lsum {x y n : Nat} (hx : x < 2 ^ 31) (hy : y < 2 ^ 31) : (nI x).toInt64 + (nI y).toInt64 = lN (x + y) := by
  rw [nI_l hx, nI_l hy]
  exact (Int64.ofNat_add x y).symm
theorem M_runs {α : Type} {n1 n2 : Nat} (hn1 : n1 ≤ 40) (hn2 : n2 ≤ 40) (a b k : Int32) (X Y : Option α) : (if a < 0 then X else (if b < 0 then X else (if k < 0 then X else (if 0 < (lg_cmp ((a : Int32).toInt64 + (k : Int32).toInt64) (nI n1).toInt64) then X else (if (lg_cmp ((b : Int32).toInt64 + (k : Int32).toInt64) (nI n2).toInt64) ≤ 0 then Y else X))))) = if runB n1 a k = true then (if runB n2 b k = true then Y else X) else X := by
  unfold runB
  by_cases h1 : a < 0
  · have := (lt_iff _ _).mp h1
    rw [if_pos h1, if_neg (by rw [decide_eq_false (by rw [z32] at this; omega)]; decide)]
  rw [if_neg h1]
  obtain ⟨x, hx, rfl⟩ := nI_of h1
  by_cases h2 : b < 0
  · have := (lt_iff _ _).mp h2
    rw [if_pos h2]
    have q : decide (0 ≤ b.toInt ∧ 0 ≤ k.toInt ∧ b.toInt + k.toInt ≤ n2) = false := decide_eq_false (by rw [z32] at this; omega)
    rw [q, if_neg (show ¬ false = true by decide)]
    split <;> rfl
  rw [if_neg h2]
  obtain ⟨y, hy, rfl⟩ := nI_of h2
  by_cases h3 : k < 0
  · have := (lt_iff _ _).mp h3
    rw [if_pos h3, if_neg (by rw [decide_eq_false (by rw [z32] at this; omega)]; decide)]
  rw [if_neg h3]
  obtain ⟨z, hz, rfl⟩ := nI_of h3
  have e1 := nI_toInt (n := x) (by omega)
  have e2 := nI_toInt (n := y) (by omega)
  have e3 := nI_toInt (n := z) (by omega)
  rw [lsum (n := 0) hx hz, lsum (n := 0) hy hz, nI_l (by omega), nI_l (by omega), e1, e2, e3]
  by_cases h4 : n1 < x + z
  · rw [if_pos ((lg_cmp_gt _ _).mpr ((pk_lLT (by omega) (by omega)).mpr h4)), if_neg (by rw [decide_eq_false (by omega)]; decide)]
  · rw [if_neg (fun q => h4 ((pk_lLT (by omega) (by omega)).mp ((lg_cmp_gt _ _).mp q))), if_pos (decide_eq_true (by omega))]
    by_cases h5 : y + z ≤ n2
    · rw [if_pos ((lg_cmp_le _ _).mpr ((pk_lLE (by omega) (by omega)).mpr h5)), if_pos (decide_eq_true (by omega))]
    · rw [if_neg (fun q => h5 ((pk_lLE (by omega) (by omega)).mp ((lg_cmp_le _ _).mp q))), if_neg (by rw [decide_eq_false (by omega)]; decide)]
theorem fty3 (s x i : Nat) : ((40 : Int32) * nI s + nI x) + nI i = nI (40 * s + x + i) := by rw [fty, nI_add]
theorem M_cp2 {s2 y k : Nat} (hs : s2 < 4) (hy : y + k ≤ 40) (a b : Int32) : ∀ (m n i : Nat) (v : VV), i + m = k → m < n → L_X6_copy_165 n a b (nI s2) (nI y) (nI k) (nI i) v = some (nI k, va_up v 9 (fun z => if 40 * s2 + y + i ≤ z ∧ z < 40 * s2 + y + k then v 10 (z - (40 * s2 + y)) else v 9 z)) := by
  intro m
  induction m with
  | zero =>
    intro n i v him hn
    obtain ⟨n, rfl⟩ : ∃ z, n = z + 1 := ⟨n - 1, by omega⟩
    rw [L_X6_copy_165, if_pos (nI_le (by omega) (by omega))]
    congr 2
    rw [show (fun z => if 40 * s2 + y + i ≤ z ∧ z < 40 * s2 + y + k then v 10 (z - (40 * s2 + y)) else v 9 z) = v 9 from funext (fun y => if_neg (by omega)), up_id]
  | succ m ih =>
    intro n i v him hn
    obtain ⟨n, rfl⟩ : ∃ z, n = z + 1 := ⟨n - 1, by omega⟩
    rw [L_X6_copy_165, if_neg (nI_ge (by omega) (by omega)), fty3, gu_nI (by omega) (by decide), gu_nI (by omega) (by decide), cl_nI (by omega), cl_nI (by omega), nI_1, ih n (i + 1) _ (by omega) (by omega), pu_up, up_up, va_up_self, va_up_ne _ _ (by decide)]
    congr 3
    funext z
    by_cases e : z = 40 * s2 + y + i
    · rw [e, if_neg (by omega), if_pos (by omega), upd_self, show 40 * s2 + y + i - (40 * s2 + y) = i by omega]
    · rw [upd_ne _ _ e]
      by_cases h : 40 * s2 + y + i ≤ z ∧ z < 40 * s2 + y + k
      · rw [if_pos h, if_pos (by omega)]
      · rw [if_neg h, if_neg (by omega)]
theorem M_cp1 {s1 x k : Nat} (hs : s1 < 4) (hx : x + k ≤ 40) (a b : Int32) : ∀ (m n i : Nat) (v : VV), i + m = k → m < n → L_X6_copy_128 n (nI s1) (nI x) a b (nI k) (nI i) v = L_X6_copy_165 fu (nI s1) (nI x) a b (nI k) 0 (va_up v 10 (fun z => if i ≤ z ∧ z < k then v 9 (40 * s1 + x + z) else v 10 z)) := by
  intro m
  induction m with
  | zero =>
    intro n i v him hn
    obtain ⟨n, rfl⟩ : ∃ z, n = z + 1 := ⟨n - 1, by omega⟩
    rw [L_X6_copy_128, if_pos (nI_le (by omega) (by omega))]
    congr 1
    rw [show (fun z => if i ≤ z ∧ z < k then v 9 (40 * s1 + x + z) else v 10 z) = v 10 from funext (fun y => if_neg (by omega)), up_id]
  | succ m ih =>
    intro n i v him hn
    obtain ⟨n, rfl⟩ : ∃ z, n = z + 1 := ⟨n - 1, by omega⟩
    rw [L_X6_copy_128, if_neg (nI_ge (by omega) (by omega)), fty3, gu_nI (by omega) (by decide), gu_nI (by omega) (by decide), cl_nI (by omega), cl_nI (by omega), nI_1, ih n (i + 1) _ (by omega) (by omega), pu_up, up_up, va_up_self, va_up_ne _ _ (by decide)]
    congr 2
    funext z
    by_cases e : z = i
    · rw [e, if_neg (by omega), if_pos (by omega), upd_self]
    · rw [upd_ne _ _ e]
      by_cases h : i ≤ z ∧ z < k
      · rw [if_pos h, if_pos (by omega)]
      · rw [if_neg h, if_neg (by omega)]
