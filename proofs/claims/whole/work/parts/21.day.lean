/-! PURE PART 2: a day, as a function on rows; the reference's day is that function -/
def bt (x : Int32) (i : Nat) : Bool := x.toBitVec.getLsbD i
theorem b_ext {x y : Int32} (h : ∀ i, i < 32 → bt x i = bt y i) : x = y := Int32.toBitVec_inj.mp (BitVec.eq_of_getLsbD_eq (fun i hi => h i hi))
theorem b_or (x y : Int32) (i : Nat) : bt (x ||| y) i = (bt x i || bt y i) := by unfold bt; rw [Int32.toBitVec_or, BitVec.getLsbD_or]
theorem b_and (x y : Int32) (i : Nat) : bt (x &&& y) i = (bt x i && bt y i) := by unfold bt; rw [Int32.toBitVec_and, BitVec.getLsbD_and]
theorem b_xor (x y : Int32) (i : Nat) : bt (x ^^^ y) i = (bt x i ^^ bt y i) := by unfold bt; rw [Int32.toBitVec_xor, BitVec.getLsbD_xor]
theorem b_0 (i : Nat) : bt 0 i = false := BitVec.getLsbD_zero
theorem b_m1 : ∀ i, i < 32 → bt (-1) i = true := by decide +kernel
theorem b_1 : ∀ i, i < 32 → bt 1 i = decide (i = 0) := by decide +kernel
theorem s_l : ∀ n, n < 32 → ((nI n &&& 31).toBitVec.smod 32).toNat = n := by decide +kernel
theorem b_shl (n : Nat) (hn : n < 32) (x : Int32) {i : Nat} (hi : i < 32) : bt (x <<< (nI n &&& 31)) i = (decide (n ≤ i) && bt x (i - n)) := by
  unfold bt
  rw [Int32.toBitVec_shiftLeft]
  show (x.toBitVec <<< ((nI n &&& 31).toBitVec.smod 32).toNat).getLsbD i = _
  rw [s_l n hn, BitVec.getLsbD_shiftLeft]
  rcases Nat.lt_or_ge i n with h | h
  · simp [h, Nat.not_le.mpr h]
  · simp [hi, h, Nat.not_lt.mpr h]
theorem b_sshr (n : Nat) (hn : n < 32) (x : Int32) {i : Nat} (hi : i < 32) : bt (x >>> (nI n &&& 31)) i = if n + i < 32 then bt x (n + i) else bt x 31 := by
  unfold bt
  rw [Int32.toBitVec_shiftRight]
  show (x.toBitVec.sshiftRight ((nI n &&& 31).toBitVec.smod 32).toNat).getLsbD i = _
  rw [s_l n hn, BitVec.getLsbD_sshiftRight, BitVec.msb_eq_getLsbD_last]
  simp [hi]
theorem nx_and (a b : Nat) : nI a &&& nI b = nI (a &&& b) := by
  apply Int32.toBitVec_inj.1
  show BitVec.ofNat 32 a &&& BitVec.ofNat 32 b = BitVec.ofNat 32 (a &&& b)
  apply BitVec.eq_of_getLsbD_eq
  intro i hi
  simp [hi]
theorem nx_or (a b : Nat) : nI a ||| nI b = nI (a ||| b) := by
  apply Int32.toBitVec_inj.1
  show BitVec.ofNat 32 a ||| BitVec.ofNat 32 b = BitVec.ofNat 32 (a ||| b)
  apply BitVec.eq_of_getLsbD_eq
  intro i hi
  simp [hi]
theorem sh_k (n : Int32) : ∃ k, k < 32 ∧ n &&& 31 = nI k &&& 31 := by
  obtain ⟨k, hk, e⟩ := pk_andE n (m := 31) 5 (by decide)
  refine ⟨k, hk, ?_⟩
  rw [e]
  exact ((by decide +kernel : ∀ k, k < 32 → nI k = nI k &&& 31)) k hk
/-- the bit of a note, whichever way it is asked -/
theorem bit_one (k : Nat) (hk : k < 32) (i : Nat) (hi : i < 32) : bt (1 <<< (nI k &&& 31)) i = decide (i = k) := by
  rw [b_shl k hk 1 hi]
  rcases Nat.lt_or_ge i k with h | h
  · rw [decide_eq_false (by omega), decide_eq_false (by omega)]
    rfl
  · rw [b_1 (i - k) (by omega), decide_eq_true h]
    by_cases e : i = k
    · rw [decide_eq_true e, decide_eq_true (by omega)]
      rfl
    · rw [decide_eq_false e, decide_eq_false (by omega)]
      rfl
theorem bit_and (L : Int32) (k : Nat) (hk : k < 32) : (L &&& (1 <<< (nI k &&& 31))) = 0 ↔ bt L k = false := by
  constructor
  · intro h
    have h2 : bt (L &&& (1 <<< (nI k &&& 31))) k = false := by rw [h]; exact b_0 k
    rw [b_and, bit_one k hk k hk, decide_eq_true rfl, Bool.and_true] at h2
    exact h2
  · intro h
    apply b_ext
    intro i hi
    rw [b_and, bit_one k hk i hi, b_0]
    by_cases e : i = k
    · rw [e, h]; rfl
    · rw [decide_eq_false e, Bool.and_false]
theorem bit_shr (L : Int32) (k : Nat) (hk : k < 32) : ((L >>> (nI k &&& 31)) &&& 1) = if bt L k = true then 1 else 0 := by
  apply b_ext
  intro i hi
  rw [b_and, b_sshr k hk L hi, b_1 i hi]
  by_cases e : i = 0
  · subst e
    rw [if_pos (by omega), decide_eq_true rfl, Bool.and_true, Nat.add_zero]
    by_cases hb : bt L k = true
    · rw [if_pos hb, hb]; rfl
    · rw [if_neg hb, b_0]; simpa using hb
  · rw [decide_eq_false e, Bool.and_false]
    by_cases hb : bt L k = true
    · rw [if_pos hb, b_1 i hi, decide_eq_false e]
    · rw [if_neg hb, b_0]
theorem B0 (L n : Int32) : ((L >>> (n &&& 31)) &&& 1) = 0 ↔ (L &&& (1 <<< (n &&& 31))) = 0 := by
  obtain ⟨k, hk, e⟩ := sh_k n
  rw [e, bit_and L k hk, bit_shr L k hk]
  cases bt L k <;> simp
theorem B1 (L n : Int32) : ((L >>> (n &&& 31)) &&& 1) = 1 ↔ ¬ (L &&& (1 <<< (n &&& 31))) = 0 := by
  obtain ⟨k, hk, e⟩ := sh_k n
  rw [e, bit_and L k hk, bit_shr L k hk]
  cases bt L k <;> simp
/-- a child that hears a note -/
def writeS (c : RW) (j : Nat) (note tempo : Int32) : RW :=
  if (c (ci j 2) &&& (1 <<< (note &&& 31))) = 0 then
    (if c (ci j 1) < tempo then upd c (ci j 3) (c (ci j 3) ||| (1 <<< (note &&& 31)))
     else if note = 0 ∨ ¬ (c (ci j 2) &&& (1 <<< ((note - 1) &&& 31))) = 0 then upd (upd c (ci j 2) (c (ci j 2) ||| (1 <<< (note &&& 31)))) (ci j 3) (c (ci j 3) &&& ((1 <<< (note &&& 31)) ^^^ (-1)))
     else upd c (ci j 3) (c (ci j 3) ||| (1 <<< (note &&& 31))))
  else c
theorem M_writes {j : Nat} (hj : j < 6) (note tempo : Int32) (v : VV) : F_X6_writes (nI j) note tempo v = some (va_up v 1 (writeS (v 1) j note tempo)) := by
  have h2 : ci j 2 < 92 := by simp only [ci]; omega
  have h3 : ci j 3 < 92 := by simp only [ci]; omega
  have n32 : ci j 3 ≠ ci j 2 := by simp only [ci]; omega
  unfold F_X6_writes
  simp only [cIs2 hj, cIs1 hj, cAt2, cAt3, bd_s, gu_nI h2 (by decide), gu_nI h3 (by decide), cl_nI (Nat.lt_trans h2 (by decide)), cl_nI (Nat.lt_trans h3 (by decide))]
  unfold writeS
  by_cases b1 : (v 1 (ci j 2) &&& (1 <<< (note &&& 31))) = 0
  · rw [if_pos ((B0 _ _).mpr b1), if_pos b1]
    by_cases b2 : v 1 (ci j 1) < tempo
    · rw [if_pos b2, if_pos b2]; rfl
    · rw [if_neg b2, if_neg b2]
      by_cases b3 : note = 0
      · rw [if_pos b3, if_pos (Or.inl b3), pu_up v, pu_of_up, va_up_self, upd_ne _ _ n32]
      · rw [if_neg b3]
        by_cases b4 : (v 1 (ci j 2) &&& (1 <<< ((note - 1) &&& 31))) = 0
        · rw [if_neg (fun z => (B1 _ _).mp z b4), if_neg (fun z => z.elim b3 (fun q => q b4))]; rfl
        · rw [if_pos ((B1 _ _).mpr b4), if_pos (Or.inr b4), pu_up v, pu_of_up, va_up_self, upd_ne _ _ n32]
  · rw [if_neg (fun z => b1 ((B0 _ _).mp z)), if_neg b1, up_id]
/-- a keeper heard by a child in a fog (whether silent or not) -/
def wiS (c : RW) (i j : Nat) (f : Int32) : Bool := decide (¬ rcS (c (ki i 0)) (c (ki i 3)) (c (ki i 4)) f < apS (c (ci j 0)) (c (ki i 1)))
theorem ap_sym : ∀ x, x < 16 → ∀ y, y < 16 → apS (nI x) (nI y) = apS (nI y) (nI x) := by decide +kernel
/-- what the numbers of a row are at most -/
def tK (f : Nat) : Nat := [6, 15, 11, 15, 99, 1].getD f 0
def tC (f : Nat) : Nat := [15, 9, 4095, 4095].getD f 0
def InvB (c : RW) : Prop := (∃ n, n ≤ 99999 ∧ c 0 = nI n) ∧ (∃ n, n ≤ 8 ∧ c 1 = nI n) ∧ (∃ n, n ≤ 6 ∧ c 3 = nI n) ∧ (∀ j, j < 6 → ∃ n, n ≤ 9 ∧ c (4 + j) = nI n) ∧ (∀ i, i < 8 → ∀ f, f < 6 → ∃ n, n ≤ tK f ∧ c (ki i f) = nI n) ∧ (∀ j, j < 6 → ∀ f, f < 4 → ∃ n, n ≤ tC f ∧ c (ci j f) = nI n)
abbrev nkS (c : RW) : Nat := (c 1).toNatClampNeg
abbrev ncS (c : RW) : Nat := (c 3).toNatClampNeg
theorem nk_eq {c : RW} (h : InvB c) : c 1 = nI (nkS c) ∧ nkS c ≤ 8 := by
  obtain ⟨n, h1, h2⟩ := h.2.1
  have e : nkS c = n := by simp only [nkS]; rw [h2]; exact cl_nI (by omega)
  rw [e]; exact ⟨h2, h1⟩
theorem nc_eq {c : RW} (h : InvB c) : c 3 = nI (ncS c) ∧ ncS c ≤ 6 := by
  obtain ⟨n, h1, h2⟩ := h.2.2.1
  have e : ncS c = n := by simp only [ncS]; rw [h2]; exact cl_nI (by omega)
  rw [e]; exact ⟨h2, h1⟩
theorem updK {c : RW} (h : InvB c) {i f n : Nat} (hi : i < 8) (hf : f < 6) (hn : n ≤ tK f) : InvB (upd c (ki i f) (nI n)) := by
  obtain ⟨h0, h1, h3, h4, h5, h6⟩ := h
  refine ⟨?_, ?_, ?_, fun j hj => ?_, fun i' hi' f' hf' => ?_, fun j hj f' hf' => ?_⟩
  · rw [upd_ne _ _ (by simp only [ki]; omega)]; exact h0
  · rw [upd_ne _ _ (by simp only [ki]; omega)]; exact h1
  · rw [upd_ne _ _ (by simp only [ki]; omega)]; exact h3
  · rw [upd_ne _ _ (by simp only [ki]; omega)]; exact h4 j hj
  · by_cases e : ki i' f' = ki i f
    · have e1 : f' = f := by simp only [ki] at e; omega
      rw [e, upd_self, e1]; exact ⟨n, hn, rfl⟩
    · rw [upd_ne _ _ e]; exact h5 i' hi' f' hf'
  · rw [upd_ne _ _ (by simp only [ki, ci]; omega)]; exact h6 j hj f' hf'
theorem updC {c : RW} (h : InvB c) {i f n : Nat} (hi : i < 6) (hf : f < 4) (hn : n ≤ tC f) : InvB (upd c (ci i f) (nI n)) := by
  obtain ⟨h0, h1, h3, h4, h5, h6⟩ := h
  refine ⟨?_, ?_, ?_, fun j hj => ?_, fun i' hi' f' hf' => ?_, fun j hj f' hf' => ?_⟩
  · rw [upd_ne _ _ (by simp only [ci]; omega)]; exact h0
  · rw [upd_ne _ _ (by simp only [ci]; omega)]; exact h1
  · rw [upd_ne _ _ (by simp only [ci]; omega)]; exact h3
  · rw [upd_ne _ _ (by simp only [ci]; omega)]; exact h4 j hj
  · rw [upd_ne _ _ (by simp only [ki, ci]; omega)]; exact h5 i' hi' f' hf'
  · by_cases e : ci j f' = ci i f
    · have e1 : f' = f := by simp only [ci] at e; omega
      rw [e, upd_self, e1]; exact ⟨n, hn, rfl⟩
    · rw [upd_ne _ _ e]; exact h6 j hj f' hf'
/-- numbers that stay in their bounds -/
theorem bd_or {M k : Nat} (hM : M ≤ 4095) (hk : k ≤ 11) : ∃ n, n ≤ 4095 ∧ nI M ||| (1 <<< (nI k &&& 31)) = nI n := by
  have e : (1 : Int32) <<< (nI k &&& 31) = nI (2 ^ k) := (by decide +kernel : ∀ k, k ≤ 11 → (1 : Int32) <<< (nI k &&& 31) = nI (2 ^ k)) k hk
  refine ⟨M ||| 2 ^ k, ?_, by rw [e, nx_or]⟩
  have h : M ||| 2 ^ k < 2 ^ 12 := Nat.or_lt_two_pow (by omega) (Nat.pow_lt_pow_right (by omega) (by omega))
  omega
theorem w32 (x : Int32) : ∃ n, n < 2 ^ 32 ∧ x = nI n := by
  refine ⟨x.toBitVec.toNat, x.toBitVec.isLt, ?_⟩
  apply Int32.toBitVec_inj.1
  show x.toBitVec = BitVec.ofNat 32 x.toBitVec.toNat
  simp
theorem bd_and {M : Nat} (y : Int32) : ∃ n, n ≤ M ∧ nI M &&& y = nI n := by
  obtain ⟨b, -, rfl⟩ := w32 y
  exact ⟨M &&& b, Nat.and_le_left, nx_and M b⟩
theorem bd_rem {x : Nat} (hx : x < 2 ^ 31) : nI x - nI x / 12 * 12 = nI (x % 12) := pk_rem (a := x) (d := 12) hx (by omega) (by omega)
theorem gvS_bd {kind note tired day : Nat} (hk : kind ≤ 6) (hn : note ≤ 11) (ht : tired ≤ 99) (hd : day ≤ 99999) : ∃ n, n ≤ 11 ∧ gvS (nI kind) (nI note) (nI tired) (nI day) = nI n := by
  unfold gvS
  split
  · rw [nI_add, bd_rem (by omega)]; exact ⟨_, by omega, rfl⟩
  split
  · rw [nI_add, nI_add, bd_rem (by omega)]; exact ⟨_, by omega, rfl⟩
  split
  · exact ⟨0, by omega, rfl⟩
  split
  · rw [show (11 : Int32) = nI 11 from rfl, pk_sub hn]; exact ⟨_, by omega, rfl⟩
  split
  · rw [show (11 : Int32) = nI 11 from rfl, nI_add, bd_rem (by omega)]; exact ⟨_, by omega, rfl⟩
  · exact ⟨note, hn, rfl⟩
theorem tiS_bd : ∀ k, k ≤ 6 → ∃ n, n ≤ 5 ∧ tiS (nI k) = nI n := by
  intro k hk
  have h : ∀ k, k ≤ 6 → (tiS (nI k)).toNatClampNeg ≤ 5 ∧ tiS (nI k) = nI (tiS (nI k)).toNatClampNeg := by decide +kernel
  exact ⟨_, (h k hk).1, (h k hk).2⟩
theorem tuS_bd (d : Int32) : ∀ k, k ≤ 6 → ∃ n, n ≤ 11 ∧ tuS (nI k) d = nI n := by
  intro k hk
  unfold tuS
  (repeat' split) <;> first | exact ⟨0, by decide, rfl⟩ | exact ⟨1, by decide, rfl⟩ | exact ⟨2, by decide, rfl⟩ | exact ⟨5, by decide, rfl⟩ | exact ⟨6, by decide, rfl⟩ | exact ⟨11, by decide, rfl⟩
/-- a child's hearing keeps the bounds, and all but what was learnt and missed -/
def Fx (c c' : RW) : Prop := ∀ x, ¬ (68 ≤ x ∧ 2 ≤ (x - 68) % 4) → c' x = c x
theorem Fx.rf {c : RW} : Fx c c := fun _ _ => rfl
theorem writeS_Fx {c c' : RW} (h : Fx c c') (j : Nat) (n t : Int32) : Fx c (writeS c' j n t) := by
  intro x hx
  have e2 : x ≠ ci j 2 := fun q => hx (by simp only [ci] at q; omega)
  have e3 : x ≠ ci j 3 := fun q => hx (by simp only [ci] at q; omega)
  rw [← h x hx]
  unfold writeS
  (repeat' split) <;> simp only [upd_ne _ _ e3, upd_ne _ _ e2]
theorem writeS_B {c : RW} (h : InvB c) {j k : Nat} (hj : j < 6) (hk : k ≤ 11) (t : Int32) : InvB (writeS c j (nI k) t) := by
  obtain ⟨L, hL, eL⟩ := h.2.2.2.2.2 j hj 2 (by decide)
  obtain ⟨m, hm, em⟩ := h.2.2.2.2.2 j hj 3 (by decide)
  obtain ⟨a, ha, ea⟩ := bd_or hL hk
  obtain ⟨b, hb, eb⟩ := bd_or hm hk
  obtain ⟨d, hd, ed⟩ := bd_and (M := m) ((1 <<< (nI k &&& 31)) ^^^ (-1))
  unfold writeS
  rw [eL, em, ea, eb, ed]
  (repeat' split)
  · exact updC h hj (by decide) hb
  · exact updC (updC h hj (by decide) ha) hj (by decide) (Nat.le_trans hd hm)
  · exact updC h hj (by decide) hb
  · exact h
/-- a keeper gives its note: children by numbers, then itself -/
def noteS (c : RW) (i : Nat) : Int32 := gvS (c (ki i 0)) (c (ki i 2)) (c (ki i 4)) (c 0)
def hrS (c : RW) (i : Nat) (f : Int32) (j : Nat) (c' : RW) : RW := if wiS c i j f = true then writeS c' j (noteS c i) (tmS (c (ki i 0))) else c'
def kupS (c : RW) (i : Nat) : RW := upd (upd c (ki i 4) (if c (ki i 4) + tiS (c (ki i 0)) < 99 then c (ki i 4) + tiS (c (ki i 0)) else 99)) (ki i 2) ((c (ki i 2) + tuS (c (ki i 0)) (c 0)) - (c (ki i 2) + tuS (c (ki i 0)) (c 0)) / 12 * 12)
def blowS (c : RW) (i : Nat) (f : Int32) : RW := kupS (itr (hrS c i f) 0 (ncS c) c) i
def restS (c : RW) (i : Nat) : RW := upd c (ki i 4) (mx0 (c (ki i 4) - 3))
def oneS (f : Int32) (i : Nat) (c : RW) : RW := if f = 0 then restS c i else if c (ki i 5) = 0 then blowS c i f else c
def fogS (c : RW) : Int32 := c (4 + (c 0 - c 0 / 6 * 6).toNatClampNeg)
def dayS (c : RW) : RW := let d := itr (oneS (fogS c)) 0 (nkS c) c; upd d 0 (if d 0 + 1 < 99999 then d 0 + 1 else 99999)
theorem noteS_bd {c : RW} (h : InvB c) {i : Nat} (hi : i < 8) : ∃ n, n ≤ 11 ∧ noteS c i = nI n := by
  obtain ⟨a, ha, ea⟩ := h.2.2.2.2.1 i hi 0 (by decide)
  obtain ⟨b, hb, eb⟩ := h.2.2.2.2.1 i hi 2 (by decide)
  obtain ⟨d, hd, ed⟩ := h.2.2.2.2.1 i hi 4 (by decide)
  obtain ⟨e, he, ee⟩ := h.1
  unfold noteS
  rw [ea, eb, ed, ee]
  exact gvS_bd ha hb hd he
theorem hrS_B {c c' : RW} (h : InvB c) (h' : InvB c') {i j : Nat} (hi : i < 8) (hj : j < 6) (f : Int32) : InvB (hrS c i f j c') := by
  obtain ⟨n, hn, en⟩ := noteS_bd h hi
  unfold hrS
  rw [en]
  split
  · exact writeS_B h' hj hn _
  · exact h'
theorem hrS_Fx {c c' : RW} (h : Fx c c') (i j : Nat) (f : Int32) : Fx c (hrS c i f j c') := by
  unfold hrS
  split
  · exact writeS_Fx h _ _ _
  · exact h
theorem kupS_B {c : RW} (h : InvB c) {i : Nat} (hi : i < 8) : InvB (kupS c i) := by
  obtain ⟨a, ha, ea⟩ := h.2.2.2.2.1 i hi 0 (by decide)
  obtain ⟨b, hb, eb⟩ := h.2.2.2.2.1 i hi 2 (by decide)
  obtain ⟨d, hd, ed⟩ := h.2.2.2.2.1 i hi 4 (by decide)
  obtain ⟨t, ht, et⟩ := tiS_bd a ha
  obtain ⟨u, hu, eu⟩ := tuS_bd (c 0) a ha
  have hd : d ≤ 99 := hd
  have hb : b ≤ 11 := hb
  unfold kupS
  rw [ea, eb, ed, et, eu, nI_add, nI_add, bd_rem (by omega)]
  refine updK ?_ hi (by decide) (show (b + u) % 12 ≤ 11 by omega)
  split
  · rename_i q
    have q2 : d + t < 99 := (nI_ltI (by omega) (by omega)).mp q
    exact updK h hi (by decide) (show d + t ≤ 99 by omega)
  · exact updK h hi (n := 99) (by decide) (by decide)
theorem blowS_B {c : RW} (h : InvB c) {i : Nat} (hi : i < 8) (f : Int32) : InvB (blowS c i f) :=
  kupS_B (itr_keep (P := InvB) _ _ _ (fun j c' _ h2 h3 => hrS_B h h3 hi (by have := (nc_eq h).2; omega) f) h) hi
theorem restS_B {c : RW} (h : InvB c) {i : Nat} (hi : i < 8) : InvB (restS c i) := by
  obtain ⟨d, hd, ed⟩ := h.2.2.2.2.1 i hi 4 (by decide)
  have hd : d ≤ 99 := hd
  unfold restS
  rw [ed, show (3 : Int32) = nI 3 from rfl]
  rcases Nat.lt_or_ge d 3 with q | q
  · rw [show mx0 (nI d - nI 3) = nI 0 from (by decide +kernel : ∀ d, d < 3 → mx0 (nI d - nI 3) = nI 0) d q]
    exact updK h hi (by decide) (Nat.zero_le _)
  · rw [pk_sub q]
    unfold mx0
    split
    · exact updK h hi (by decide) (show d - 3 ≤ 99 by omega)
    · exact updK h hi (n := 0) (by decide) (Nat.zero_le _)
theorem oneS_B {c : RW} (h : InvB c) {i : Nat} (hi : i < 8) (f : Int32) : InvB (oneS f i c) := by
  unfold oneS
  split
  · exact restS_B h hi
  · split
    · exact blowS_B h hi f
    · exact h
theorem upd0 {c : RW} (h : InvB c) {n : Nat} (hn : n ≤ 99999) : InvB (upd c 0 (nI n)) := by
  obtain ⟨h0, h1, h3, h4, h5, h6⟩ := h
  refine ⟨⟨n, hn, upd_self _ _ _⟩, ?_, ?_, fun j hj => ?_, fun i' hi' f' hf' => ?_, fun j hj f' hf' => ?_⟩
  · rw [upd_ne _ _ (by omega)]; exact h1
  · rw [upd_ne _ _ (by omega)]; exact h3
  · rw [upd_ne _ _ (by omega)]; exact h4 j hj
  · rw [upd_ne _ _ (by simp only [ki]; omega)]; exact h5 i' hi' f' hf'
  · rw [upd_ne _ _ (by simp only [ci]; omega)]; exact h6 j hj f' hf'
theorem dayS_B {c : RW} (h : InvB c) : InvB (dayS c) := by
  unfold dayS
  have hd : InvB (itr (oneS (fogS c)) 0 (nkS c) c) := itr_keep (P := InvB) _ _ _ (fun j c' _ h2 h3 => oneS_B h3 (by have := (nk_eq h).2; omega) _) h
  generalize itr (oneS (fogS c)) 0 (nkS c) c = d at hd
  obtain ⟨n, hn, en⟩ := hd.1
  dsimp only
  rw [en, show (1 : Int32) = nI 1 from rfl, nI_add]
  split
  · rename_i q
    have q2 : n + 1 < 99999 := (nI_ltI (by omega) (by omega)).mp q
    exact upd0 hd (by omega)
  · exact upd0 hd (n := 99999) (Nat.le_refl _)
