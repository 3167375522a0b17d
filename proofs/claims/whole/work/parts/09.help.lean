/-! small words of the decompiled functions -/
def fu : Nat := 1000
def bI : Bool → Int32
  | true => 1
  | false => 0
theorem bI_nar (b : Bool) : narrow .boolean (.int (bI b)) = .int (bI b) := by cases b <;> rfl
theorem bI_fit (b : Bool) : fits .boolean (.int (bI b)) = true := by cases b <;> rfl
theorem bI_t {b : Bool} (h : ¬ bI b = 0) : b = true := by
  cases b
  · exact absurd rfl h
  · rfl
theorem bI_f {b : Bool} (h : bI b = 0) : ¬ b = true := by
  cases b
  · decide
  · exact absurd h (by decide)
def gu {α : Type} (b : Bool) (x : Option α) : Option α := if b = true then x else none
theorem gu_some {α : Type} {b : Bool} {x : Option α} {y : α} (h : gu b x = some y) : b = true ∧ x = some y := by
  unfold gu at h
  by_cases hb : b = true
  · rw [if_pos hb] at h
    exact ⟨hb, h⟩
  · rw [if_neg hb] at h
    cases h
theorem bi_some {α β : Type} {x : Option α} {f : α → Option β} {y : β} (h : Option.bind x f = some y) : ∃ a, x = some a ∧ f a = some y := by
  cases x with
  | none => cases h
  | some a => exact ⟨a, rfl, h⟩
def gI (x : Int32) (n : Nat) : Bool := decide (¬ (x < 0 ∨ n ≤ x.toNatClampNeg))
theorem in_c {x : Int32} {n : Nat} (h : gI x n = true) : vp_in x n := (of_decide_eq_true h : ¬ (x < 0 ∨ n ≤ x.toNatClampNeg))
def gZ (x : Int32) : Bool := decide (¬ x = 0)
theorem gZ_ne {x : Int32} (h : gZ x = true) : ¬ x = 0 := of_decide_eq_true h
def gB (x : Int32) : Bool := decide (x = 0 ∨ x = 1)
theorem gB_eq {x : Int32} (h : gB x = true) : bI (x == 1) = x := by
  rcases (of_decide_eq_true h : x = 0 ∨ x = 1) with rfl | rfl <;> rfl
theorem gB_nar {x : Int32} (h : gB x = true) : narrow .boolean (.int x) = .int x := by
  rcases (of_decide_eq_true h : x = 0 ∨ x = 1) with rfl | rfl <;> rfl
def gC (sp dp n : Int32) (N0 N1 : Nat) : Bool := decide (¬ sp < 0 ∧ ¬ dp < 0 ∧ ¬ n < 0 ∧ sp.toNatClampNeg + n.toNatClampNeg ≤ N0 ∧ dp.toNatClampNeg + n.toNatClampNeg ≤ N1)
def cpy (v : VV) (a b : Nat) (sp dp n : Int32) : VV := va_up v b (va_cpy (v a) (v b) sp.toNatClampNeg dp.toNatClampNeg n.toNatClampNeg)
theorem iinc_eq (x : Int32) {n : Int} {c : Int32} (h : Int32.ofInt n = c) : x + Int32.ofInt n = x + c := by rw [h]
theorem pt_cp {G : GG} {v : VV} {i : Nat} (h : kd i = 7) (f : Nat → Int32) : (wl G v).set i (ad G i, .inl (ca G 7, ln i, .inl f)) = wl G (va_up v i f) := wl_set (kd_lt h (by decide)) (by rw [cf_7 h, va_up_self]) (fun j hj => cf_ne (va_up_ne _ _ hj))
section HELP
variable {p : Program} {l : Launch} {e : Env} {R : Room} {s : State} {m : MethodId} {args : Array Value} {below : List Frame} {meth : Method} {c : Code} {H : Heap} {locs : List Loc} {G : GG} {cc : ByteArray} {nL pc : Nat} {ret0 : Option FieldType} {ls : Array Slot} {v : VV} {Q : State → Prop} {rest : List Value}
theorem r_copy {own : String} {idx : Nat} (M : Mx G own cc nL ret0 p s m args meth c) (hlk : Cond.methodLink own idx arraycopyName ∈ tb) (hl : ls.size = nL) (hS : va_S (gA G) s.heap H locs) (hP : Wd G v H) {i j N0 N1 : Nat} (hi : kd i = 7) (hn0 : ln i = N0) (hj : kd j = 7) (hn1 : ln j = N1) {sp dp n : Int32} (hg : gC sp dp n N0 N1 = true) (hf : 1 ≤ R.frames) (hr : (rest.map fun v => v.category).sum + 18 ≤ R.locals) (hdg : decode cc pc = .ok (.invokestatic idx, 3)) (kk : ∀ (H1 : Heap) (locs1 : List Loc), Wd G (cpy v i j sp dp n) H1 → va_S (gA G) s.heap H1 locs1 → W p l e R s m args below meth c H1 locs1 0 0 Q (F0 m (pc + 3) ls rest)) : W p l e R s m args below meth c H locs 0 0 Q (F0 m pc ls (.int n :: .int dp :: .ref (ad G j) :: .int sp :: .ref (ad G i) :: rest)) := by
  subst hn0; subst hn1
  obtain ⟨h1, h2, h3, h4, h5⟩ := (of_decide_eq_true hg : ¬ sp < 0 ∧ ¬ dp < 0 ∧ ¬ n < 0 ∧ sp.toNatClampNeg + n.toNatClampNeg ≤ ln i ∧ dp.toNatClampNeg + n.toNatClampNeg ≤ ln j)
  exact va_copyi (ty := .int) M.1.1 M.1.2.1 (M.1.2.2.1.trans hl.symm) M.1.2.2.2.1 (M.1.2.2.2.2 _ hlk) (M.1.2.2.2.2 (Cond.native arraycopyName) w_382) (M.1.2.2.2.2 (Cond.static arraycopyName) w_381) (M.1.2.2.2.2 (Cond.initialized "java/lang/System") w_11) M.2.2.2.1 hP (wl_D M.2.2.2.2.1 v) hS i j 0 0 (at_7 hi) (at_7 hj) rfl rfl rfl h1 h2 h3 h4 h5 (fun _ _ => rfl) hf hr hdg (fun H1 locs1 hP1 _ hS1 => kk H1 locs1 (by rw [pt_cp hj] at hP1; exact hP1) hS1)
theorem r_copy_X1_51 (M : Mx G RX1 cc nL ret0 p s m args meth c) (hl : ls.size = nL) (hS : va_S (gA G) s.heap H locs) (hP : Wd G v H) {i j N0 N1 : Nat} (hi : kd i = 7) (hn0 : ln i = N0) (hj : kd j = 7) (hn1 : ln j = N1) {sp dp n : Int32} (hg : gC sp dp n N0 N1 = true) (hf : 1 ≤ R.frames) (hr : (rest.map fun v => v.category).sum + 18 ≤ R.locals) (hdg : decode cc pc = .ok (.invokestatic 51, 3)) (kk : ∀ (H1 : Heap) (locs1 : List Loc), Wd G (cpy v i j sp dp n) H1 → va_S (gA G) s.heap H1 locs1 → W p l e R s m args below meth c H1 locs1 0 0 Q (F0 m (pc + 3) ls rest)) : W p l e R s m args below meth c H locs 0 0 Q (F0 m pc ls (.int n :: .int dp :: .ref (ad G j) :: .int sp :: .ref (ad G i) :: rest)) := r_copy M w_380 hl hS hP hi hn0 hj hn1 hg hf hr hdg kk
theorem r_copy_X5_221 (M : Mx G RX5 cc nL ret0 p s m args meth c) (hl : ls.size = nL) (hS : va_S (gA G) s.heap H locs) (hP : Wd G v H) {i j N0 N1 : Nat} (hi : kd i = 7) (hn0 : ln i = N0) (hj : kd j = 7) (hn1 : ln j = N1) {sp dp n : Int32} (hg : gC sp dp n N0 N1 = true) (hf : 1 ≤ R.frames) (hr : (rest.map fun v => v.category).sum + 18 ≤ R.locals) (hdg : decode cc pc = .ok (.invokestatic 221, 3)) (kk : ∀ (H1 : Heap) (locs1 : List Loc), Wd G (cpy v i j sp dp n) H1 → va_S (gA G) s.heap H1 locs1 → W p l e R s m args below meth c H1 locs1 0 0 Q (F0 m (pc + 3) ls rest)) : W p l e R s m args below meth c H locs 0 0 Q (F0 m pc ls (.int n :: .int dp :: .ref (ad G j) :: .int sp :: .ref (ad G i) :: rest)) := r_copy M w_659 hl hS hP hi hn0 hj hn1 hg hf hr hdg kk
theorem rc_S {own : String} (M : Mx G own cc nL ret0 p s m args meth c) (hS : va_S (gA G) s.heap H locs) {k : Nat} (hk : k < 15) : rcv G s H "java/lang/String" (sk G k) := vk_recv M.2.2.2.2.2.2.2.2.1 hk hS
end HELP
