/-! PURE PART 7: the relation between the class and the reference, and what keeps it -/
def SpOK (m : RW) : Prop := ∀ j, j < 10 → m (10 + j) = -1 ∨ ∃ n, n < nkS m ∧ m (10 + j) = nI n
def RelC (v : VV) : Prop := InvB (rowOf 25 v) ∧ InvB (v 1) ∧ sim (rowOf 25 v) (v 1) ∧ SpOK (v 1)
def RelD (v : VV) : Prop := InvB (rowOf 58 v)
def RelK (v : VV) : Prop := InvB (rowOf 91 v) ∧ InvB (v 2) ∧ v 12 6 = v 0 3 ∧ (v 12 6 = 0 ∨ (v 12 6 = 1 ∧ sim (rowOf 91 v) (v 2) ∧ SpOK (v 2)))
def RelF (v : VV) : Prop := (∀ f, f < 7 → v 4 (f + 1) = v 13 f) ∧ v 4 0 = v 13 0 + v 13 1 + v 13 2 + v 13 3 + v 13 4 + v 13 5 + v 13 6
def RelT (v : VV) : Prop := ∃ t, t ≤ 120 ∧ v 23 1 = nI t ∧ v 0 6 = nI t ∧ ∀ j, j < t → ∃ b, b < 256 ∧ v 5 j = nI b ∧ v 24 j = (nI b).toInt8.toInt32
def RelS (v : VV) : Prop := ∀ s, s < 4 → v (15 + s) 1 = v 7 s ∧ (v 7 s = 0 ∨ v 7 s = 8 ∨ v 7 s = 16 ∨ v 7 s = 32) ∧ (∃ n, n ≤ 40 ∧ v (15 + s) 2 = nI n ∧ v 8 s = nI n) ∧ ∀ j, j < 40 → v (19 + s) j = v 9 (40 * s + j)
def Rel (v : VV) : Prop := RelC v ∧ RelD v ∧ RelK v ∧ RelF v ∧ RelT v ∧ RelS v
theorem RelC_cg {v v' : VV} (h : RelC v) (e1 : v' 1 = v 1) (e : ∀ i, 25 ≤ i → i < 58 → v' i = v i) : RelC v' := by
  unfold RelC
  rw [e1, rowOf_same (v := v) (v' := v') (fun i a b => e i a (by omega))]
  exact h
theorem RelD_cg {v v' : VV} (h : RelD v) (e : ∀ i, 58 ≤ i → i < 91 → v' i = v i) : RelD v' := by
  unfold RelD
  rw [rowOf_same (v := v) (v' := v') (fun i a b => e i a (by omega))]
  exact h
theorem RelK_cg {v v' : VV} (h : RelK v) (e2 : v' 2 = v 2) (e12 : v' 12 6 = v 12 6) (e0 : v' 0 3 = v 0 3) (e : ∀ i, 91 ≤ i → i < 124 → v' i = v i) : RelK v' := by
  unfold RelK
  rw [e2, e12, e0, rowOf_same (v := v) (v' := v') (fun i a b => e i a (by omega))]
  exact h
theorem RelF_cg {v v' : VV} (h : RelF v) (e4 : v' 4 = v 4) (e13 : v' 13 = v 13) : RelF v' := by
  unfold RelF
  rw [e4, e13]
  exact h
theorem RelT_cg {v v' : VV} (h : RelT v) (e23 : v' 23 1 = v 23 1) (e0 : v' 0 6 = v 0 6) (e5 : v' 5 = v 5) (e24 : v' 24 = v 24) : RelT v' := by
  unfold RelT
  rw [e23, e0, e5, e24]
  exact h
theorem RelS_cg {v v' : VV} (h : RelS v) (e7 : v' 7 = v 7) (e8 : v' 8 = v 8) (e9 : v' 9 = v 9) (e : ∀ i, 15 ≤ i → i < 23 → v' i = v i) : RelS v' := by
  unfold RelS
  intro s hs
  rw [e7, e8, e9, e (15 + s) (by omega) (by omega), e (19 + s) (by omega) (by omega)]
  exact h s hs
/-- the coast changes on both sides -/
theorem Rel.c {v v1 : VV} (h : Rel v) (o : Out 25 v v1) {m' : RW} (hb : InvB (rowOf 25 v1)) (hm : InvB m') (hs : sim (rowOf 25 v1) m') (hp : SpOK m') : Rel (va_up v1 1 m') := by
  obtain ⟨hC, hD, hK, hF, hT, hS⟩ := h
  have e : ∀ i, i ≠ 1 → (i < 25 ∨ 58 ≤ i) → va_up v1 1 m' i = v i := fun i h1 h2 => by rw [va_up_ne _ _ h1]; exact o i (by omega)
  have er : rowOf 25 (va_up v1 1 m') = rowOf 25 v1 := rowOf_same (fun i a b => va_up_ne _ _ (by omega))
  refine ⟨?_, RelD_cg hD (fun i a b => e i (by omega) (by omega)), RelK_cg hK (e 2 (by decide) (by decide)) (by rw [e 12 (by decide) (by decide)]) (by rw [e 0 (by decide) (by decide)]) (fun i a b => e i (by omega) (by omega)), RelF_cg hF (e 4 (by decide) (by decide)) (e 13 (by decide) (by decide)), RelT_cg hT (by rw [e 23 (by decide) (by decide)]) (by rw [e 0 (by decide) (by decide)]) (e 5 (by decide) (by decide)) (e 24 (by decide) (by decide)), RelS_cg hS (e 7 (by decide) (by decide)) (e 8 (by decide) (by decide)) (e 9 (by decide) (by decide)) (fun i a b => e i (by omega) (by omega))⟩
  unfold RelC
  rw [er, va_up_self]
  exact ⟨hb, hm, hs, hp⟩
/-- the draft changes -/
theorem Rel.d {v v1 : VV} (h : Rel v) (o : Out 58 v v1) (hb : InvB (rowOf 58 v1)) : Rel v1 := by
  obtain ⟨hC, hD, hK, hF, hT, hS⟩ := h
  have e : ∀ i, (i < 58 ∨ 91 ≤ i) → v1 i = v i := fun i h2 => o i (by omega)
  exact ⟨RelC_cg hC (e 1 (by decide)) (fun i a b => e i (by omega)), hb, RelK_cg hK (e 2 (by decide)) (by rw [e 12 (by decide)]) (by rw [e 0 (by decide)]) (fun i a b => e i (by omega)), RelF_cg hF (e 4 (by decide)) (e 13 (by decide)), RelT_cg hT (by rw [e 23 (by decide)]) (by rw [e 0 (by decide)]) (e 5 (by decide)) (e 24 (by decide)), RelS_cg hS (e 7 (by decide)) (e 8 (by decide)) (e 9 (by decide)) (fun i a b => e i (by omega))⟩
/-- places of which the relation says nothing -/
theorem Rel.x {v v1 : VV} (h : Rel v) (e : ∀ i, i ≠ 3 → i ≠ 6 → i ≠ 10 → i ≠ 0 → v1 i = v i) (e03 : v1 0 3 = v 0 3) (e06 : v1 0 6 = v 0 6) : Rel v1 := by
  obtain ⟨hC, hD, hK, hF, hT, hS⟩ := h
  have e : ∀ i, (i ≠ 3 ∧ i ≠ 6 ∧ i ≠ 10 ∧ i ≠ 0) → v1 i = v i := fun i q => e i q.1 q.2.1 q.2.2.1 q.2.2.2
  exact ⟨RelC_cg hC (e 1 (by decide)) (fun i a b => e i (by omega)), RelD_cg hD (fun i a b => e i (by omega)), RelK_cg hK (e 2 (by decide)) (by rw [e 12 (by decide)]) e03 (fun i a b => e i (by omega)), RelF_cg hF (e 4 (by decide)) (e 13 (by decide)), RelT_cg hT (by rw [e 23 (by decide)]) e06 (e 5 (by decide)) (e 24 (by decide)), RelS_cg hS (e 7 (by decide)) (e 8 (by decide)) (e 9 (by decide)) (fun i a b => e i (by omega))⟩
theorem thk_ne (v : VV) {i : Nat} (h : i ≠ 3) : thk v (v 1) i = v i := by rw [← thk_0]; exact va_up_ne _ _ h
theorem Rel.a {v : VV} (h : Rel v) : Rel (thk v (v 1)) := h.x (fun i h3 _ _ _ => thk_ne v h3) (by rw [thk_ne v (by decide)]) (by rw [thk_ne v (by decide)])
/-- a step: the class answers, then the reference, alike -/
def StP (A B : VV → Option (Int32 × VV)) (v : VV) : Prop := ∃ r v1 v2, A v = some (r, v1) ∧ B v1 = some (r, v2) ∧ Rel v2
theorem fnd_ix : ∀ f, f < 7 → ((-1000001) - ((-1000001) - nI f)) + 1 = nI (f + 1) := by decide +kernel
theorem fnd {v : VV} (h : Rel v) {f : Nat} (hf : f < 7) {L : Int32} (hL : (-1000001) - nI f = L) : ∃ v1 v2, F_X5_finding (nI f) v = some (L, v1) ∧ F_X6_finding L v1 = some (L, v2) ∧ Rel v2 ∧ (∀ i, i ≠ 13 → v1 i = v i) ∧ (∀ i, i ≠ 13 → i ≠ 4 → v2 i = v i) := by
  subst hL
  have a1 : F_X5_finding (nI f) v = some ((-1000001) - nI f, pu v 13 f (v 13 f + 1)) := by
    unfold F_X5_finding
    rw [gu_nI hf (by decide), gu_nI hf (by decide), cl_nI (by omega)]
  have a2 : ∀ w : VV, F_X6_finding ((-1000001) - nI f) w = some ((-1000001) - nI f, va_up w 4 (upd (upd (w 4) (f + 1) (w 4 (f + 1) + 1)) 0 (w 4 0 + 1))) := by
    intro w
    unfold F_X6_finding
    rw [fnd_ix f hf, gu_nI (by omega) (by decide), gu_nI (by omega) (by decide), cl_nI (by omega), pu_up w, pu_of_up, va_up_self, upd_ne _ _ (by omega)]
  refine ⟨_, _, a1, a2 _, ?_, fun i hi => pu_ne _ _ _ hi, fun i h13 h4 => by rw [va_up_ne _ _ h4, pu_ne _ _ _ h13]⟩
  obtain ⟨hC, hD, hK, hF, hT, hS⟩ := h
  have e : ∀ (x : RW) i, (i ≠ 13 ∧ i ≠ 4) → va_up (pu v 13 f (v 13 f + 1)) 4 x i = v i := fun x i q => by rw [va_up_ne _ _ q.2, pu_ne _ _ _ q.1]
  refine ⟨RelC_cg hC (e _ 1 (by decide)) (fun i a b => e _ i (by omega)), RelD_cg hD (fun i a b => e _ i (by omega)), RelK_cg hK (e _ 2 (by decide)) (by rw [e _ 12 (by decide)]) (by rw [e _ 0 (by decide)]) (fun i a b => e _ i (by omega)), ?_, RelT_cg hT (by rw [e _ 23 (by decide)]) (by rw [e _ 0 (by decide)]) (e _ 5 (by decide)) (e _ 24 (by decide)), RelS_cg hS (e _ 7 (by decide)) (e _ 8 (by decide)) (e _ 9 (by decide)) (fun i a b => e _ i (by omega))⟩
  unfold RelF
  rw [va_up_self, va_up_ne _ _ (by decide), pu_self, pu_ne _ _ _ (show (4 : Nat) ≠ 13 by decide)]
  obtain ⟨f1, f2⟩ := hF
  refine ⟨fun g hg => ?_, ?_⟩
  · rw [upd_ne _ _ (by omega)]
    by_cases e : g = f
    · rw [e, upd_self, upd_self, f1 f hf]
    · rw [upd_ne _ _ (by omega), upd_ne _ _ e]; exact f1 g hg
  · rw [upd_self, f2]
    have add : ∀ a b : Int32, a + 1 + b = a + b + 1 := fun a b => by rw [Int32.add_assoc, Int32.add_comm 1 b, ← Int32.add_assoc]
    have hc : f = 0 ∨ f = 1 ∨ f = 2 ∨ f = 3 ∨ f = 4 ∨ f = 5 ∨ f = 6 := by omega
    rcases hc with rfl | rfl | rfl | rfl | rfl | rfl | rfl <;> simp only [upd_self, upd_ne _ _ (show (0 : Nat) ≠ 1 by decide), upd_ne _ _ (show (0 : Nat) ≠ 2 by decide), upd_ne _ _ (show (0 : Nat) ≠ 3 by decide), upd_ne _ _ (show (0 : Nat) ≠ 4 by decide), upd_ne _ _ (show (0 : Nat) ≠ 5 by decide), upd_ne _ _ (show (0 : Nat) ≠ 6 by decide), upd_ne _ _ (show (1 : Nat) ≠ 0 by decide), upd_ne _ _ (show (1 : Nat) ≠ 2 by decide), upd_ne _ _ (show (1 : Nat) ≠ 3 by decide), upd_ne _ _ (show (1 : Nat) ≠ 4 by decide), upd_ne _ _ (show (1 : Nat) ≠ 5 by decide), upd_ne _ _ (show (1 : Nat) ≠ 6 by decide), upd_ne _ _ (show (2 : Nat) ≠ 0 by decide), upd_ne _ _ (show (2 : Nat) ≠ 1 by decide), upd_ne _ _ (show (2 : Nat) ≠ 3 by decide), upd_ne _ _ (show (2 : Nat) ≠ 4 by decide), upd_ne _ _ (show (2 : Nat) ≠ 5 by decide), upd_ne _ _ (show (2 : Nat) ≠ 6 by decide), upd_ne _ _ (show (3 : Nat) ≠ 0 by decide), upd_ne _ _ (show (3 : Nat) ≠ 1 by decide), upd_ne _ _ (show (3 : Nat) ≠ 2 by decide), upd_ne _ _ (show (3 : Nat) ≠ 4 by decide), upd_ne _ _ (show (3 : Nat) ≠ 5 by decide), upd_ne _ _ (show (3 : Nat) ≠ 6 by decide), upd_ne _ _ (show (4 : Nat) ≠ 0 by decide), upd_ne _ _ (show (4 : Nat) ≠ 1 by decide), upd_ne _ _ (show (4 : Nat) ≠ 2 by decide), upd_ne _ _ (show (4 : Nat) ≠ 3 by decide), upd_ne _ _ (show (4 : Nat) ≠ 5 by decide), upd_ne _ _ (show (4 : Nat) ≠ 6 by decide), upd_ne _ _ (show (5 : Nat) ≠ 0 by decide), upd_ne _ _ (show (5 : Nat) ≠ 1 by decide), upd_ne _ _ (show (5 : Nat) ≠ 2 by decide), upd_ne _ _ (show (5 : Nat) ≠ 3 by decide), upd_ne _ _ (show (5 : Nat) ≠ 4 by decide), upd_ne _ _ (show (5 : Nat) ≠ 6 by decide), upd_ne _ _ (show (6 : Nat) ≠ 0 by decide), upd_ne _ _ (show (6 : Nat) ≠ 1 by decide), upd_ne _ _ (show (6 : Nat) ≠ 2 by decide), upd_ne _ _ (show (6 : Nat) ≠ 3 by decide), upd_ne _ _ (show (6 : Nat) ≠ 4 by decide), upd_ne _ _ (show (6 : Nat) ≠ 5 by decide), add, ← Int32.add_assoc]
/-- a step that is a finding -/
theorem st_f {v : VV} (h : Rel v) {A B : VV → Option (Int32 × VV)} {f : Nat} (hf : f < 7) {K L : Int32} (hK : K = nI f) (hL : (-1000001) - nI f = L) (hA : A v = Option.bind (F_X5_finding K v) (fun (r, w) => some (r, w))) (hB : ∀ v1 : VV, (∀ i, i ≠ 13 → v1 i = v i) → B v1 = Option.bind (F_X6_finding L v1) (fun (r, w) => some (r, w))) : StP A B v := by
  obtain ⟨v1, v2, a, b, c, d, -⟩ := fnd h hf hL
  refine ⟨L, v1, v2, ?_, ?_, c⟩
  · rw [hA, hK, a]; rfl
  · rw [hB v1 d, b]; rfl
/-! tests of arguments -/
def inR (a : Int32) (n : Nat) : Bool := decide (0 ≤ a.toInt ∧ a.toInt < n)
theorem inR_t {a : Int32} {n : Nat} (h : inR a n = true) (hn : n < 2 ^ 31) : ∃ k, k < n ∧ a = nI k := by
  have h2 : 0 ≤ a.toInt ∧ a.toInt < n := of_decide_eq_true h
  exact vp_in_of (vp_in_iff.mpr h2) hn
theorem inR_nI {k n : Nat} (h : k < n) (hn : n < 2 ^ 31) : inR (nI k) n = true := decide_eq_true (vp_in_iff.mp (vp_in_nI h hn))
theorem lt_iff (a b : Int32) : a < b ↔ a.toInt < b.toInt := Int32.lt_iff_toInt_lt
theorem le_iff (a b : Int32) : a ≤ b ↔ a.toInt ≤ b.toInt := Int32.le_iff_toInt_le
theorem upTo {b : Int32} (N : Nat) (hb : b = nI N) (hN : N < 2 ^ 31) (a : Int32) (v : VV) : F_X5_isUpTo a b v = some (inR a (N + 1)) := by
  have e : b.toInt = (N : Int) := by rw [hb]; exact nI_toInt hN
  unfold F_X5_isUpTo inR
  by_cases h1 : a < 0
  · rw [if_pos h1, decide_eq_false]
    have := (lt_iff _ _).mp h1
    intro q
    have z : (0 : Int32).toInt = 0 := rfl
    omega
  · rw [if_neg h1]
    have h1' : ¬ a.toInt < (0 : Int32).toInt := fun q => h1 ((lt_iff _ _).mpr q)
    have z : (0 : Int32).toInt = 0 := rfl
    by_cases h2 : b < a
    · rw [if_pos h2, decide_eq_false]
      have := (lt_iff _ _).mp h2
      omega
    · rw [if_neg h2, decide_eq_true]
      have h2' : ¬ b.toInt < a.toInt := fun q => h2 ((lt_iff _ _).mpr q)
      omega
theorem wit {b : Int32} (N : Nat) (hb : b = nI N) (hN : N < 2 ^ 31) (a : Int32) (v : VV) : F_X6_within a 0 b v = some (inR a (N + 1)) := upTo N hb hN a v
theorem inL {n : Nat} (hn : n < 2 ^ 31) (a : Int32) : (if a < 0 then (some false) else (if nI n ≤ a then (some false) else (some true))) = some (inR a n) := by
  have e : (nI n).toInt = (n : Int) := nI_toInt hn
  have z : (0 : Int32).toInt = 0 := rfl
  unfold inR
  by_cases h1 : a < 0
  · rw [if_pos h1, decide_eq_false]
    have := (lt_iff _ _).mp h1
    omega
  · rw [if_neg h1]
    have h1' : ¬ a.toInt < (0 : Int32).toInt := fun q => h1 ((lt_iff _ _).mpr q)
    by_cases h2 : nI n ≤ a
    · rw [if_pos h2, decide_eq_false]
      have := (le_iff _ _).mp h2
      omega
    · rw [if_neg h2, decide_eq_true]
      have h2' : ¬ (nI n).toInt ≤ a.toInt := fun q => h2 ((le_iff _ _).mpr q)
      omega
theorem inM {n : Nat} (hn : n ≤ 100) (a : Int32) (v : VV) : F_X6_within a 0 (nI n - 1) v = some (inR a n) := by
  rcases Nat.eq_zero_or_pos n with rfl | h
  · unfold F_X6_within inR
    have z : (0 : Int32).toInt = 0 := rfl
    by_cases h1 : a < 0
    · rw [if_pos h1, decide_eq_false (by omega)]
    · rw [if_neg h1]
      have h1' : ¬ a.toInt < (0 : Int32).toInt := fun q => h1 ((lt_iff _ _).mpr q)
      have e : (nI 0 - 1 : Int32).toInt = -1 := by decide
      rw [if_pos ((lt_iff _ _).mpr (by omega)), decide_eq_false (by omega)]
  · obtain ⟨k, rfl⟩ : ∃ k, n = k + 1 := ⟨n - 1, by omega⟩
    rw [nI_pred]
    exact wit k rfl (by omega) a v
theorem C_isKeeper {v : VV} (hI : InvB (rowOf 25 v)) (a : Int32) : F_X5_isKeeper a v = some (inR a (nkS (rowOf 25 v))) := by
  unfold F_X5_isKeeper
  rw [rd_1 25 v, (nk_eq hI).1]
  exact inL (by have := (nk_eq hI).2; omega) a
theorem C_isChild {v : VV} (hI : InvB (rowOf 25 v)) (a : Int32) : F_X5_isChild a v = some (inR a (ncS (rowOf 25 v))) := by
  unfold F_X5_isChild
  rw [rd_3 25 v, (nc_eq hI).1]
  exact inL (by have := (nc_eq hI).2; omega) a
theorem M_isKeeper {v : VV} (hI : InvB (v 1)) (a : Int32) : F_X6_isKeeper a v = some (inR a (nkS (v 1))) := by
  unfold F_X6_isKeeper
  rw [(nk_eq hI).1, inM (by have := (nk_eq hI).2; omega)]
  rfl
theorem M_isChild {v : VV} (hI : InvB (v 1)) (a : Int32) : F_X6_isChild a v = some (inR a (ncS (v 1))) := by
  unfold F_X6_isChild
  rw [(nc_eq hI).1, inM (by have := (nc_eq hI).2; omega)]
  rfl
