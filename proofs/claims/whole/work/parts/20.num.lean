/-! PURE PART 1: numbers, rows, loops -/
abbrev RW : Type := Nat → Int32
def itr {α : Type} (f : Nat → α → α) : Nat → Nat → α → α
  | _, 0, c => c
  | i, k + 1, c => itr f (i + 1) k (f i c)
theorem itr_0 {α : Type} (f : Nat → α → α) (i : Nat) (c : α) : itr f i 0 c = c := rfl
theorem itr_s {α : Type} (f : Nat → α → α) (i k : Nat) (c : α) : itr f i (k + 1) c = itr f (i + 1) k (f i c) := rfl
/-- a property that every step keeps -/
theorem itr_keep {α : Type} {P : α → Prop} {f : Nat → α → α} : ∀ (k i : Nat) (c : α), (∀ j c, i ≤ j → j < i + k → P c → P (f j c)) → P c → P (itr f i k c)
  | 0, _, _, _, h => h
  | k + 1, i, c, hs, h => itr_keep k (i + 1) (f i c) (fun j c h1 h2 => hs j c (by omega) (by omega)) (hs i c (Nat.le_refl i) (by omega) h)
/-- two runs side by side -/
theorem itr_two {α β : Type} {P : α → β → Prop} {f : Nat → α → α} {g : Nat → β → β} : ∀ (k i : Nat) (a : α) (b : β), (∀ j a b, i ≤ j → j < i + k → P a b → P (f j a) (g j b)) → P a b → P (itr f i k a) (itr g i k b)
  | 0, _, _, _, _, h => h
  | k + 1, i, a, b, hs, h => itr_two k (i + 1) (f i a) (g i b) (fun j c d h1 h2 => hs j c d (by omega) (by omega)) (hs i a b (Nat.le_refl i) (by omega) h)
theorem itr_snoc {α : Type} (f : Nat → α → α) : ∀ (k i : Nat) (c : α), itr f i (k + 1) c = f (i + k) (itr f i k c)
  | 0, i, c => rfl
  | k + 1, i, c => by
    rw [itr_s, itr_snoc f k (i + 1) (f i c), itr_s, show i + 1 + k = i + (k + 1) by omega]
theorem gu_t {α : Type} (x : Option α) : gu true x = x := rfl
theorem gI_nI {n N : Nat} (h : n < N) (hN : N < 2 ^ 31) : gI (nI n) N = true := decide_eq_true (nI_in h hN)
theorem cl_nI {n : Nat} (h : n < 2 ^ 31) : (nI n).toNatClampNeg = n := nI_clamp h
theorem gu_nI {α : Type} {n N : Nat} (h : n < N) (hN : N < 2 ^ 31) (x : Option α) : gu (gI (nI n) N) x = x := by rw [gI_nI h hN]; rfl
theorem up_up (v : VV) (i : Nat) (a b : RW) : va_up (va_up v i a) i b = va_up v i b := by
  funext j
  unfold va_up
  by_cases h : j = i <;> simp [h]
theorem up_id (v : VV) (i : Nat) : va_up v i (v i) = v := by
  funext j
  unfold va_up
  by_cases h : j = i <;> simp [h]
theorem pu_up (v : VV) (i k : Nat) (x : Int32) : pu v i k x = va_up v i (upd (v i) k x) := rfl
theorem pu_of_up (v : VV) (i k : Nat) (a : RW) (x : Int32) : pu (va_up v i a) i k x = va_up v i (upd a k x) := by
  rw [pu_up, va_up_self, up_up]
theorem upd_self (c : RW) (k : Nat) (x : Int32) : upd c k x k = x := by simp [upd]
theorem upd_ne (c : RW) {k j : Nat} (x : Int32) (h : j ≠ k) : upd c k x j = c j := by simp [upd, h]
/-- where a keeper's and a child's numbers stand in a row -/
abbrev ki (i f : Nat) : Nat := 20 + 6 * i + f
abbrev ci (j f : Nat) : Nat := 68 + 4 * j + f
theorem nI_lit3 (a b c : Nat) : (nI a + nI b) + nI c = nI (a + b + c) := by rw [nI_add, nI_add]
theorem kix (i f : Nat) : (20 + (6 * nI i)) + nI f = nI (ki i f) := by
  rw [show (20 : Int32) = nI 20 from rfl, show (6 : Int32) = nI 6 from rfl, pk_mul, nI_lit3]
theorem cix (j f : Nat) : (68 + (4 * nI j)) + nI f = nI (ci j f) := by
  rw [show (68 : Int32) = nI 68 from rfl, show (4 : Int32) = nI 4 from rfl, pk_mul, nI_lit3]
theorem kAt (i f : Nat) (v : VV) : F_X6_keeperAt (nI i) (nI f) v = some (nI (ki i f)) := by unfold F_X6_keeperAt; rw [kix]
theorem cAt (j f : Nat) (v : VV) : F_X6_childAt (nI j) (nI f) v = some (nI (ci j f)) := by unfold F_X6_childAt; rw [cix]
theorem kIs {i f : Nat} (hi : i < 8) (hf : f < 6) (v : VV) : F_X6_keeperIs (nI i) (nI f) v = some (v 1 (ki i f)) := by
  unfold F_X6_keeperIs
  rw [kAt]
  show gu _ _ = _
  rw [gu_nI (by simp only [ki]; omega) (by decide), cl_nI (by simp only [ki]; omega)]
theorem cIs {j f : Nat} (hj : j < 6) (hf : f < 4) (v : VV) : F_X6_childIs (nI j) (nI f) v = some (v 1 (ci j f)) := by
  unfold F_X6_childIs
  rw [cAt]
  show gu _ _ = _
  rw [gu_nI (by simp only [ci]; omega) (by decide), cl_nI (by simp only [ci]; omega)]
theorem kIs0 {i : Nat} (hi : i < 8) (v : VV) : F_X6_keeperIs (nI i) 0 v = some (v 1 (ki i 0)) := kIs hi (by decide) v
theorem kIs1 {i : Nat} (hi : i < 8) (v : VV) : F_X6_keeperIs (nI i) 1 v = some (v 1 (ki i 1)) := kIs hi (by decide) v
theorem kIs2 {i : Nat} (hi : i < 8) (v : VV) : F_X6_keeperIs (nI i) 2 v = some (v 1 (ki i 2)) := kIs hi (by decide) v
theorem kIs3 {i : Nat} (hi : i < 8) (v : VV) : F_X6_keeperIs (nI i) 3 v = some (v 1 (ki i 3)) := kIs hi (by decide) v
theorem kIs4 {i : Nat} (hi : i < 8) (v : VV) : F_X6_keeperIs (nI i) 4 v = some (v 1 (ki i 4)) := kIs hi (by decide) v
theorem kIs5 {i : Nat} (hi : i < 8) (v : VV) : F_X6_keeperIs (nI i) 5 v = some (v 1 (ki i 5)) := kIs hi (by decide) v
theorem kAt0 (i : Nat) (v : VV) : F_X6_keeperAt (nI i) 0 v = some (nI (ki i 0)) := kAt i 0 v
theorem kAt2 (i : Nat) (v : VV) : F_X6_keeperAt (nI i) 2 v = some (nI (ki i 2)) := kAt i 2 v
theorem kAt3 (i : Nat) (v : VV) : F_X6_keeperAt (nI i) 3 v = some (nI (ki i 3)) := kAt i 3 v
theorem kAt4 (i : Nat) (v : VV) : F_X6_keeperAt (nI i) 4 v = some (nI (ki i 4)) := kAt i 4 v
theorem kAt5 (i : Nat) (v : VV) : F_X6_keeperAt (nI i) 5 v = some (nI (ki i 5)) := kAt i 5 v
theorem kAt1 (i : Nat) (v : VV) : F_X6_keeperAt (nI i) 1 v = some (nI (ki i 1)) := kAt i 1 v
theorem cAt0 (j : Nat) (v : VV) : F_X6_childAt (nI j) 0 v = some (nI (ci j 0)) := cAt j 0 v
theorem cAt1 (j : Nat) (v : VV) : F_X6_childAt (nI j) 1 v = some (nI (ci j 1)) := cAt j 1 v
theorem cAt2 (j : Nat) (v : VV) : F_X6_childAt (nI j) 2 v = some (nI (ci j 2)) := cAt j 2 v
theorem cAt3 (j : Nat) (v : VV) : F_X6_childAt (nI j) 3 v = some (nI (ci j 3)) := cAt j 3 v
theorem cIs0 {j : Nat} (hj : j < 6) (v : VV) : F_X6_childIs (nI j) 0 v = some (v 1 (ci j 0)) := cIs hj (by decide) v
theorem cIs1 {j : Nat} (hj : j < 6) (v : VV) : F_X6_childIs (nI j) 1 v = some (v 1 (ci j 1)) := cIs hj (by decide) v
theorem cIs2 {j : Nat} (hj : j < 6) (v : VV) : F_X6_childIs (nI j) 2 v = some (v 1 (ci j 2)) := cIs hj (by decide) v
theorem cIs3 {j : Nat} (hj : j < 6) (v : VV) : F_X6_childIs (nI j) 3 v = some (v 1 (ci j 3)) := cIs hj (by decide) v
theorem bd_s {α β : Type} (a : α) (f : α → Option β) : Option.bind (some a) f = f a := rfl
/-! what keepers do, by their numbers -/
def gvS (kind note tired day : Int32) : Int32 := if kind = 2 then (note + tired) - (note + tired) / 12 * 12 else if kind = 3 then ((note + tired) + day) - ((note + tired) + day) / 12 * 12 else if kind = 4 then 0 else if kind = 5 then 11 - note else if kind = 6 then (note + 11) - (note + 11) / 12 * 12 else note
def plS (loud f : Int32) : Int32 := if 0 < (loud - (f / 2)) then (loud - (f / 2)) else 0
def mx0 (x : Int32) : Int32 := if 0 < x then x else 0
def rcS (kind loud tired f : Int32) : Int32 := if kind = 1 then plS loud f + 2 else if kind = 2 then mx0 (plS loud f - (tired / 10)) else if kind = 3 then mx0 (plS loud f - (tired / 10)) else if kind = 4 then 15 else if kind = 5 then plS loud f / 2 else if kind = 6 then plS loud f + 2 else plS loud f
def tmS (kind : Int32) : Int32 := if kind = 1 then 5 else if kind = 2 then 2 else if kind = 3 then 4 else if kind = 4 then 0 else if kind = 5 then 7 else if kind = 6 then 6 else 3
def tiS (kind : Int32) : Int32 := if kind = 1 then 1 else if kind = 2 then 5 else if kind = 3 then 5 else if kind = 4 then 0 else if kind = 5 then 0 else if kind = 6 then 3 else 2
def tuS (kind day : Int32) : Int32 := if day - day / 2 * 2 = 0 then (if kind = 2 then 1 else if kind = 3 then 6 else if kind = 4 then 0 else if kind = 5 then 11 else if kind = 6 then 2 else 1) else (if kind = 2 then 0 else if kind = 3 then 5 else if kind = 4 then 0 else if kind = 5 then 11 else if kind = 6 then 2 else 1)
def apS (a b : Int32) : Int32 := if 0 ≤ (a - b) then (a - b) else 0 - (a - b)
theorem if_some {α : Type} {c : Prop} [Decidable c] {x y : Option α} {a b : α} (h1 : c → x = some a) (h2 : ¬ c → y = some b) : (if c then x else y) = some (if c then a else b) := by
  by_cases h : c
  · rw [if_pos h, if_pos h]; exact h1 h
  · rw [if_neg h, if_neg h]; exact h2 h
theorem M_gives {i : Nat} (hi : i < 8) (v : VV) : F_X6_gives (nI i) v = some (gvS (v 1 (ki i 0)) (v 1 (ki i 2)) (v 1 (ki i 4)) (v 1 0)) := by
  unfold F_X6_gives gvS
  simp only [kIs0 hi, kIs2 hi, kIs4 hi, bd_s]
  repeat refine if_some (fun _ => rfl) (fun _ => ?_)
  rfl
theorem M_reaches {i : Nat} (hi : i < 8) (f : Int32) (v : VV) : F_X6_reaches (nI i) f v = some (rcS (v 1 (ki i 0)) (v 1 (ki i 3)) (v 1 (ki i 4)) f) := by
  unfold F_X6_reaches rcS
  simp only [kIs0 hi, kIs3 hi, kIs4 hi, bd_s]
  repeat refine if_some (fun _ => rfl) (fun _ => ?_)
  rfl
theorem M_tempo {i : Nat} (hi : i < 8) (v : VV) : F_X6_tempo (nI i) v = some (tmS (v 1 (ki i 0))) := by
  unfold F_X6_tempo tmS
  simp only [kIs0 hi, bd_s, apply_ite some]
theorem M_tires {i : Nat} (hi : i < 8) (v : VV) : F_X6_tires (nI i) v = some (tiS (v 1 (ki i 0))) := by
  unfold F_X6_tires tiS
  simp only [kIs0 hi, bd_s, apply_ite some]
theorem M_turns {i : Nat} (hi : i < 8) (v : VV) : F_X6_turns (nI i) v = some (tuS (v 1 (ki i 0)) (v 1 0)) := by
  unfold F_X6_turns tuS
  simp only [kIs0 hi, bd_s, apply_ite some]
  rfl
