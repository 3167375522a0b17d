/-! WHAT THE STATEMENT GIVES AT THE LAW'S ENTRY -/
abbrev fl1 : List Cond := flatC (Jvm.Cond.and given_1 narrow_1)
def tmk : List Nat := [150, 138, 140, 142, 144, 146, 148, 50, 55, 66, 72, 74, 90, 95, 99]
def tmm : List Nat := [27, 29, 31, 33, 35, 37, 39, 325, 330, 297, 305, 307, 309, 318, 320]
abbrev tmT (i : Nat) : Term := .string "FogSchool$Tape" (tmk.getD i 0)
abbrev tmM (i : Nat) : Term := .string "FogSchoolModel" (tmm.getD i 0)
abbrev tmS_ (k : Nat) : Term := .static (stC.getD k "") (stN.getD k "") "[I"
theorem me_ex : ∀ i, i < 15 → Cond.exactly (tmT i) "java/lang/String" ∈ fl1 := by decide +kernel
theorem me_co : ∀ i, i < 15 → Cond.eq (.field (tmT i) "java/lang/String" "coder" "B") (.int 0) ∈ fl1 := by decide +kernel
theorem me_ar : ∀ i, i < 15 → Cond.arrayOf (.field (tmT i) "java/lang/String" "value" "[B") .byte ∈ fl1 := by decide +kernel
theorem me_le : ∀ i, i < 15 → Cond.eq (.length (.field (tmT i) "java/lang/String" "value" "[B")) (.int (Int32.ofNat (lenS.getD i 0))) ∈ fl1 := by decide +kernel
theorem me_el : ∀ i, i < 15 → ∀ j, j < lenS.getD i 0 → Cond.eq (.elem (.field (tmT i) "java/lang/String" "value" "[B") (.int (Int32.ofNat j))) (.int ((bytS.getD i []).getD j 0)) ∈ fl1 := by decide +kernel
theorem me_eq : ∀ i, i < 15 → Cond.eq (tmT i) (tmM i) ∈ fl1 := by decide +kernel
theorem me_sa : ∀ k, k < 5 → Cond.arrayOf (tmS_ k) .int ∈ fl1 := by decide +kernel
theorem me_sl : ∀ k, k < 5 → Cond.eq (.length (tmS_ k)) (.int (Int32.ofNat (stLen k))) ∈ fl1 := by decide +kernel
theorem me_se : ∀ k, k < 5 → ∀ j, j < stLen k → Cond.eq (.elem (tmS_ k) (.int (Int32.ofNat j))) (.int (stA k j)) ∈ fl1 := by decide +kernel
theorem me_cs : Cond.eq (.static "java/lang/String" "COMPACT_STRINGS" "Z") (.int 1) ∈ fl1 := by decide +kernel
theorem me_fm : Cond.isRef (.static "jdk/internal/util/Preconditions" "SIOOBE_FORMATTER" fmtD) ∈ fl1 := by decide +kernel
theorem me_ls : ∀ k, k < 5 → Cond.laysStatic (stC.getD k "") (stN.getD k "") "[I" ∈ tables_1 := by decide +kernel
theorem me_li : ∀ k, k < 5 → Cond.initialized (stC.getD k "") ∈ tables_1 := by decide +kernel
theorem me_sr : ∀ q ∈ strL, Cond.stringRef q.1 q.2.1 q.2.2.1 ∈ tables_1 := by decide +kernel
theorem me_st : ∀ q ∈ strL, q.2.2.2 < 15 ∧ ((q.1 = "FogSchool$Tape" ∧ q.2.1 = tmk.getD q.2.2.2 0) ∨ (q.1 = "FogSchoolModel" ∧ q.2.1 = tmm.getD q.2.2.2 0)) := by decide +kernel
theorem str_diff : ∀ i, i < 15 → ∀ j, j < 15 → i ≠ j → Int32.ofNat (lenS.getD i 0) ≠ Int32.ofNat (lenS.getD j 0) ∨ ∃ k, k < 6 ∧ k < lenS.getD i 0 ∧ k < lenS.getD j 0 ∧ (bytS.getD i []).getD k 0 ≠ (bytS.getD j []).getD k 0 := by decide +kernel
theorem len_lt : ∀ i, i < 15 → lenS.getD i 0 < 2 ^ 31 := by decide +kernel
theorem stLen_lt : ∀ k, k < 5 → stLen k < 2 ^ 31 := by decide +kernel
theorem eq_ref {args : Array Value} {s : State} {t1 t2 : Term} {a : Nat} (h : (Cond.eq t1 t2).before args s = true) (h1 : t1.eval args s none [] s = some (.ref a)) : t2.eval args s none [] s = some (.ref a) := by
  cases hv : t2.eval args s none [] s with
  | none => simp [Cond.before, Cond.holds, Cond.value, h1, hv] at h
  | some w =>
    simp only [Cond.before, Cond.holds, Cond.value, h1, hv] at h
    cases w <;> simp_all
theorem ne_ref {args : Array Value} {s : State} {t1 t2 : Term} {a b : Nat} (h1 : t1.eval args s none [] s = some (.ref a)) (h2 : t2.eval args s none [] s = some (.ref b)) (hab : a ≠ b) : (Cond.not (Cond.eq t1 t2)).before args s = true := by
  simp [Cond.before, Cond.holds, Cond.value, h1, h2, hab]
theorem len_cg {args : Array Value} {s : State} {t u : Term} {o n d : String} (h : t.eval args s none [] s = u.eval args s none [] s) : (Term.length (.field t o n d)).eval args s none [] s = (Term.length (.field u o n d)).eval args s none [] s := by
  simp only [Term.eval, h]
theorem elem_cg {args : Array Value} {s : State} {t u : Term} {o n d : String} {k : Int32} (h : t.eval args s none [] s = u.eval args s none [] s) : (Term.elem (.field t o n d) (.int k)).eval args s none [] s = (Term.elem (.field u o n d) (.int k)).eval args s none [] s := by
  simp only [Term.eval, h]
theorem tm_apart {args : Array Value} {s : State} (hs : ∀ w ∈ fl1, w.before args s = true) {i j : Nat} (hi : i < 15) (hj : j < 15) (hne : i ≠ j) (hij : (tmT i).eval args s none [] s = (tmT j).eval args s none [] s) : False := by
  have e1 : (Term.length (.field (tmT i) "java/lang/String" "value" "[B")).eval args s none [] s = (Term.length (.field (tmT j) "java/lang/String" "value" "[B")).eval args s none [] s := len_cg hij
  have e2 : ∀ k : Int32, (Term.elem (.field (tmT i) "java/lang/String" "value" "[B") (.int k)).eval args s none [] s = (Term.elem (.field (tmT j) "java/lang/String" "value" "[B") (.int k)).eval args s none [] s := fun k => elem_cg hij
  rw [va_eqt (hs _ (me_le i hi)), va_eqt (hs _ (me_le j hj))] at e1
  rcases str_diff i hi j hj hne with d | ⟨k, -, k1, k2, d⟩
  · exact d (by injection e1 with e; injection e)
  · have e3 := e2 (Int32.ofNat k)
    rw [va_eqt (hs _ (me_el i hi k k1)), va_eqt (hs _ (me_el j hj k k2))] at e3
    exact d (by injection e3 with e; injection e)
/-- the classes, the array classes, the static tables, the String constants, as the law's entry has them -/
def CE (G : GG) (A : Nat → Prop) (s : State) : Prop := va_K (gD G) vwCl (tyL G) s ∧ NX s
  ∧ (∀ k, k < 5 → va_Z (stC.getD k "") (stN.getD k "") "[I" (.ref (sa G k)) A s s.heap ∧ va_T .int (sa G k) (stLen k) (fun j => .int (stA k j)) A s s.heap)
  ∧ va_Z "java/lang/String" "COMPACT_STRINGS" "Z" (.int 1) A s s.heap
  ∧ va_Zq "jdk/internal/util/Preconditions" "SIOOBE_FORMATTER" fmtD A s s.heap
  ∧ vk_S 15 lenS bytS (sk G) (sv G) A s s.heap
  ∧ ∀ (k : Nat) (q : String × Nat × String × Nat), strL[k]? = some q → vk_R q.1 q.2.1 q.2.2.1 (sk G q.2.2.2) s
theorem ar_p {args : Array Value} {s : State} {ty : FieldType} (h : (Cond.arrayClass ty).before args s = true) : ∃ cA : ClassId, ArrOfT s cA ty ∧ s.vm.findClass ("[" ++ ty.toString) = some cA := by
  obtain ⟨cA, kA, comp, h1, h2, h3⟩ := Cond.arrayClass_spec h
  exact ⟨cA, fun n z => ⟨fun k h => (by cases h), kA, h2, comp, h3⟩, h1⟩
theorem ar_o {args : Array Value} {s : State} {C : String} (h : (Cond.arrayOver (.object C)).before args s = true) : ∃ cA : ClassId, ArrOfT s cA (.object C) ∧ va_RA s cA (.object C) := by
  obtain ⟨comp, cA, kA, h1, -, h2, h3, h4⟩ := Cond.arrayOver_spec h
  exact ⟨cA, fun n z => ⟨fun k h => (by cases h), kA, h2, comp, h3⟩, kA, comp, h2, h3, h1, h4⟩
set_option maxHeartbeats 4000000 in
theorem law_env {s : State} {b : Nat} (hts : ∀ w ∈ lw_tbl, w.before #[Value.ref b] s = true) (hgv : (Jvm.Cond.and given_1 narrow_1).before #[Value.ref b] s = true) : ∃ G : GG, CE G (fun q => s.heap.size ≤ q) s := by
  have hs : ∀ w ∈ fl1, w.before #[Value.ref b] s = true := flat_of_before _ hgv
  have ht : ∀ w ∈ tables_1, w.before #[Value.ref b] s = true := fun w h => hts w (List.mem_append_right _ h)
  have hb : ∀ w ∈ tb, w.before #[Value.ref b] s = true := fun w h => hts w (List.mem_filter.mp h).1
  have hA : ∀ a : Nat, a < s.heap.size → ¬ (fun q => s.heap.size ≤ q) a := fun a h => Nat.not_le.mpr h
  obtain ⟨k0, i0, hk0⟩ := u_known (C := RX0) (T := TX0) (N := 1) (n := 1) hb inT_0 (hb (.instantiable RX0 1) w_50)
  obtain ⟨k1, i1, hk1⟩ := u_known (C := RX1) (T := TX1) (N := 8) (n := 8) hb inT_1 (hb (.instantiable RX1 8) w_25)
  obtain ⟨k2, i2, hk2⟩ := u_known (C := RX2) (T := TX2) (N := 1) (n := 1) hb inT_2 (hb (.instantiable RX2 1) w_35)
  obtain ⟨k3, i3, hk3⟩ := u_known (C := RX3) (T := TX3) (N := 3) (n := 3) hb inT_3 (hb (.instantiable RX3 3) w_127)
  obtain ⟨k4, i4, hk4⟩ := u_known (C := RX4) (T := TX4) (N := 6) (n := 6) hb inT_4 (hb (.instantiable RX4 6) w_99)
  obtain ⟨k5, i5, hk5⟩ := u_known (C := RX5) (T := TX5) (N := 7) (n := 7) hb inT_5 (hb (.instantiable RX5 7) w_17)
  obtain ⟨k6, i6, hk6⟩ := u_known (C := RX6) (T := TX6) (N := 21) (n := 21) hb inT_6 (hb (.instantiable RX6 21) w_693)
  obtain ⟨dC, dI, hKc⟩ : ∃ (dC : Nat → ClassId) (dI : Nat → Nat → Nat), ∀ (k : Nat) (q : vw_C), vwCl[k]? = some q → u_Kn s q.1 q.2.1 q.2.2 (dC k) (dI k) := by
    refine ⟨fun k => if k = 0 then k0 else if k = 1 then k1 else if k = 2 then k2 else if k = 3 then k3 else if k = 4 then k4 else if k = 5 then k5 else k6, fun k => if k = 0 then i0 else if k = 1 then i1 else if k = 2 then i2 else if k = 3 then i3 else if k = 4 then i4 else if k = 5 then i5 else i6, ?_⟩
    intro k q hq
    match k, hq with
    | 0, hq => cases hq; exact hk0
    | 1, hq => cases hq; exact hk1
    | 2, hq => cases hq; exact hk2
    | 3, hq => cases hq; exact hk3
    | 4, hq => cases hq; exact hk4
    | 5, hq => cases hq; exact hk5
    | 6, hq => cases hq; exact hk6
    | k + 7, hq => cases hq
  obtain ⟨c7, a7, b7⟩ := ar_p (ty := .int) (hb _ w_47)
  obtain ⟨c8, a8, b8⟩ := ar_p (ty := .byte) (hb _ w_124)
  have o9 : (Cond.arrayOver (.object RX0)).before #[Value.ref b] s = true := ht _ w_49
  have o10 : (Cond.arrayOver (.object RX2)).before #[Value.ref b] s = true := ht _ w_34
  have o11 : (Cond.arrayOver (.object RX3)).before #[Value.ref b] s = true := ht _ w_126
  have o12 : (Cond.arrayOver (.object "java/lang/String")).before #[Value.ref b] s = true := ht _ w_699
  obtain ⟨c9, a9, b9⟩ := ar_o o9
  obtain ⟨c10, a10, b10⟩ := ar_o o10
  obtain ⟨c11, a11, b11⟩ := ar_o o11
  obtain ⟨c12, a12, b12⟩ := ar_o o12
  have hst : ∀ k : Nat, ∃ t : Nat, k < 5 → (tmS_ k).eval #[Value.ref b] s none [] s = some (.ref t) ∧ va_T .int t (stLen k) (fun j => .int (stA k j)) (fun q => s.heap.size ≤ q) s s.heap := by
    intro k
    by_cases hk : k < 5
    · obtain ⟨t, h1, h2⟩ := va_Tof (tm := tmS_ k) (N := stLen k) (f := fun j => .int (stA k j)) (stLen_lt k hk) (hs _ (me_sa k hk)) (va_eqt (hs _ (me_sl k hk))) (fun j hj => va_eqt (hs _ (me_se k hk j hj))) hA
      exact ⟨t, fun _ => ⟨h1, h2⟩⟩
    · exact ⟨0, fun h => absurd h hk⟩
  obtain ⟨saF, hsa⟩ := Classical.axiomOfChoice hst
  have hne : ∀ i j : Nat, i < 15 → j < 15 → i ≠ j → (Cond.not (Cond.eq (tmT i) (tmT j))).before #[Value.ref b] s = true ∨ (Cond.not (Cond.eq (tmT j) (tmT i))).before #[Value.ref b] s = true := by
    intro i j hi hj h
    obtain ⟨a, _, _, _, q1, -⟩ := Cond.exactly_spec (args := #[Value.ref b]) (first := s) (o := none) (s := s) (idx := []) (t := tmT i) (cls := "java/lang/String") (hs _ (me_ex i hi))
    obtain ⟨a2, _, _, _, q2, -⟩ := Cond.exactly_spec (args := #[Value.ref b]) (first := s) (o := none) (s := s) (idx := []) (t := tmT j) (cls := "java/lang/String") (hs _ (me_ex j hj))
    exact Or.inl (ne_ref q1 q2 (fun e => tm_apart hs hi hj h (by rw [q1, q2, e])))
  obtain ⟨skF, svF, hSS, hev⟩ := vk_Sof (args := #[Value.ref b]) (s := s) (N := 15) (tm := tmT) (len := lenS) (byt := bytS) (A := fun q => s.heap.size ≤ q) len_lt (fun i hi => hs _ (me_ex i hi)) (fun i hi => hs _ (me_co i hi)) (fun i hi => hs _ (me_ar i hi)) (fun i hi => hs _ (me_le i hi)) (fun i hi j hj => hs _ (me_el i hi j hj)) hne hA
  refine ⟨((dC, dI), fun _ => 0, fun k => if k = 7 then c7 else if k = 8 then c8 else if k = 9 then c9 else if k = 10 then c10 else if k = 11 then c11 else c12, saF, skF, svF), ⟨hKc, fun k q h => ?_⟩, ⟨o10, o9, o11, o12⟩, fun k hk => ⟨va_Zof (ht _ (me_ls k hk)) (ht _ (me_li k hk)) (hsa k hk).1 hA, (hsa k hk).2⟩, va_Zof (ht _ w_549) (hb _ w_12) (va_eqi (hs _ me_cs)) hA, va_Zqof (ht _ w_565) (hb _ w_14) (hs _ me_fm) hA, hSS, fun k q h => ?_⟩
  · match k, h with
    | 0, h => cases h; exact ⟨a7, b7⟩
    | 1, h => cases h; exact ⟨a8, b8⟩
    | 2, h => cases h; exact ⟨a9, b9⟩
    | 3, h => cases h; exact ⟨a10, b10⟩
    | 4, h => cases h; exact ⟨a11, b11⟩
    | 5, h => cases h; exact ⟨a12, b12⟩
    | k + 6, h => cases h
  · have hm := List.mem_of_getElem? h
    obtain ⟨h1, h2⟩ := me_st q hm
    refine vk_R.of (ht _ (me_sr q hm)) ?_
    rcases h2 with ⟨e1, e2⟩ | ⟨e1, e2⟩
    · rw [e1, e2]; exact hev _ h1
    · rw [e1, e2]; exact eq_ref (hs _ (me_eq _ h1)) (hev _ h1)
