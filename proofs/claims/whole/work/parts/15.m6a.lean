theorem ok_X6_61 : okS RX6 61 yX6_copyRow cX6_copyRow 3 none 2 := okS_of w_966 w_967 w_8 w_968 (by decide +kernel)
theorem ok_X6_66 : okV RX6 66 RX6 yX6_finding cX6_finding 2 (some .int) 1 := okV_of w_789 w_791 w_2009 w_8 w_792 (by decide +kernel)
theorem ok_X6_70 : okS RX6 70 yX6_within cX6_within 3 (some .boolean) 3 := okS_of w_778 w_779 w_8 w_780 (by decide +kernel)
theorem ok_X6_74 : okS RX6 74 yX6_isPlace cX6_isPlace 1 (some .boolean) 1 := okS_of w_775 w_776 w_8 w_777 (by decide +kernel)
theorem ok_X6_78 : okS RX6 78 yX6_isFog cX6_isFog 1 (some .boolean) 1 := okS_of w_781 w_782 w_8 w_783 (by decide +kernel)
theorem ok_X6_81 : okV RX6 81 RX6 yX6_become cX6_become 4 (some .int) 2 := okV_of w_784 w_786 w_2008 w_8 w_787 (by decide +kernel)
theorem ok_X6_85 : okS RX6 85 yX6_keeperAt cX6_keeperAt 2 (some .int) 2 := okS_of w_812 w_813 w_8 w_814 (by decide +kernel)
theorem ok_X6_88 : okS RX6 88 yX6_childAt cX6_childAt 2 (some .int) 2 := okS_of w_823 w_824 w_8 w_825 (by decide +kernel)
def F_X6_finding (a1 : Int32) (v : VV) : Option (Int32 × VV) :=
  gu (gI (((-1000001) - a1) + 1) 8) (gu (gI (((-1000001) - a1) + 1) 8) (some (a1, pu (pu v 4 ((((-1000001) - a1) + 1).toNatClampNeg) ((v 4 ((((-1000001) - a1) + 1).toNatClampNeg)) + 1)) 4 0 (((pu v 4 ((((-1000001) - a1) + 1).toNatClampNeg) ((v 4 ((((-1000001) - a1) + 1).toNatClampNeg)) + 1)) 4 0) + 1))))
set_option maxHeartbeats 4000000 in
set_option maxRecDepth 100000 in
theorem c_X6_finding (l : Launch) (G : GG) (a1 : Int32) (v : VV) (r : Int32) (v' : VV) (hF : F_X6_finding a1 v = some (r, v')) : Met l yX6_finding (cdW yX6_finding cX6_finding 2 (some .int)) ({ frames := 0, cells := 0, slots := 0, locals := 0 } : Room) (PC G v [.ref (ad G 0), .int a1]) (QI G r v') 0 0 (gA G) := by
  refine met_in RX6 (by decide) rfl (Nat.le_of_ble_eq_true rfl) ?_
  intro p e s m below meth c M hP ls hl
  have hx := M.1.1
  have hb := M.1.2.1
  have hS : va_S (gA G) s.heap s.heap [] := va_S.rf
  have hl : lv_has ls 2 [(0, .ref (ad G 0)), (1, .int a1)] := hl
  unfold F_X6_finding at hF
  refine lv_aload_n hx hb dX6_finding_0 rfl (lv_at hl 0 rfl) ?_
  refine fg_6_19 M hP dX6_finding_1 ?_
  refine lv_ldc (own := RX6) (v := (-1000001)) hx hb M.1.2.2.2.1 (M.1.2.2.2.2 (Cond.constant RX6 60 (-1000001)) w_788) dX6_finding_4 ?_
  refine lv_iload_n hx hb dX6_finding_6 rfl (lv_at hl 1 rfl) ?_
  refine lv_isub hx hb dX6_finding_7 ?_
  refine lv_iconst (v := 1) hx hb dX6_finding_8 (by decide) ?_
  refine lv_iadd hx hb dX6_finding_9 ?_
  refine lv_dup2_11 hx hb dX6_finding_10 rfl rfl ?_
  obtain ⟨g1, hF⟩ := gu_some hF
  refine r_iald (k := (((-1000001) - a1) + 1).toNatClampNeg) M hP rfl rfl (in_c g1) rfl dX6_finding_11 ?_
  refine lv_iconst (v := 1) hx hb dX6_finding_12 (by decide) ?_
  refine lv_iadd hx hb dX6_finding_13 ?_
  obtain ⟨g2, hF⟩ := gu_some hF
  refine r_iast (k := (((-1000001) - a1) + 1).toNatClampNeg) M hS hP rfl rfl (in_c g2) rfl dX6_finding_14 (fun H locs hP hS => ?_)
  have hP : Wd G (pu v 4 ((((-1000001) - a1) + 1).toNatClampNeg) ((v 4 ((((-1000001) - a1) + 1).toNatClampNeg)) + 1)) H := hP
  refine lv_aload_n hx hb dX6_finding_15 rfl (lv_at hl 0 rfl) ?_
  refine fg_6_19 M hP dX6_finding_16 ?_
  refine lv_iconst (v := 0) hx hb dX6_finding_19 (by decide) ?_
  refine lv_dup2_11 hx hb dX6_finding_20 rfl rfl ?_
  refine r_iald (k := 0) M hP rfl rfl (in_c rfl) rfl dX6_finding_21 ?_
  refine lv_iconst (v := 1) hx hb dX6_finding_22 (by decide) ?_
  refine lv_iadd hx hb dX6_finding_23 ?_
  refine r_iast (k := 0) M hS hP rfl rfl (in_c rfl) rfl dX6_finding_24 (fun H locs hP hS => ?_)
  have hP : Wd G (pu (pu v 4 ((((-1000001) - a1) + 1).toNatClampNeg) ((v 4 ((((-1000001) - a1) + 1).toNatClampNeg)) + 1)) 4 0 (((pu v 4 ((((-1000001) - a1) + 1).toNatClampNeg) ((v 4 ((((-1000001) - a1) + 1).toNatClampNeg)) + 1)) 4 0) + 1)) H := hP
  refine lv_iload_n hx hb dX6_finding_25 rfl (lv_at hl 1 rfl) ?_
  exact ret_i M hS hP (Option.some.inj hF) dX6_finding_26
def F_X6_within (a0 : Int32) (a1 : Int32) (a2 : Int32) (v : VV) : Option Bool :=
  if a0 < a1 then (some false) else (if a2 < a0 then (some false) else (some true))
set_option maxHeartbeats 4000000 in
set_option maxRecDepth 100000 in
theorem c_X6_within (l : Launch) (G : GG) (a0 : Int32) (a1 : Int32) (a2 : Int32) (v : VV) (r : Bool) (hF : F_X6_within a0 a1 a2 v = some r) : Met l yX6_within (cdW yX6_within cX6_within 3 (some .boolean)) ({ frames := 0, cells := 0, slots := 0, locals := 0 } : Room) (PC G v [.int a0, .int a1, .int a2]) (QI G (bI r) v) 0 0 (gA G) := by
  refine met_in RX6 (by decide) rfl (Nat.le_of_ble_eq_true rfl) ?_
  intro p e s m below meth c M hP ls hl
  have hx := M.1.1
  have hb := M.1.2.1
  have hS : va_S (gA G) s.heap s.heap [] := va_S.rf
  have hl : lv_has ls 3 [(0, .int a0), (1, .int a1), (2, .int a2)] := hl
  unfold F_X6_within at hF
  refine lv_iload_n hx hb dX6_within_0 rfl (lv_at hl 0 rfl) ?_
  refine lv_iload_n hx hb dX6_within_1 rfl (lv_at hl 1 rfl) ?_
  refine lv_icmp_lt (tgt := 14) hx hb dX6_within_2 (by decide) (fun c1 => ?_) (fun c1 => ?_)
  · replace hF := (if_pos c1).symm.trans hF
    refine lv_iconst (v := 0) hx hb dX6_within_14 (by decide) ?_
    exact ret_z M hS hP (congrArg (fun z : Bool => (bI z, v)) (Option.some.inj hF)) rfl dX6_within_15
  · replace hF := (if_neg c1).symm.trans hF
    refine lv_iload_n hx hb dX6_within_5 rfl (lv_at hl 0 rfl) ?_
    refine lv_iload_n hx hb dX6_within_6 rfl (lv_at hl 2 rfl) ?_
    refine lv_icmp_gt (tgt := 14) hx hb dX6_within_7 (by decide) (fun c2 => ?_) (fun c2 => ?_)
    · replace hF := (if_pos c2).symm.trans hF
      refine lv_iconst (v := 0) hx hb dX6_within_14 (by decide) ?_
      exact ret_z M hS hP (congrArg (fun z : Bool => (bI z, v)) (Option.some.inj hF)) rfl dX6_within_15
    · replace hF := (if_neg c2).symm.trans hF
      refine lv_iconst (v := 1) hx hb dX6_within_10 (by decide) ?_
      refine lv_goto (tgt := 15) hx hb dX6_within_11 (by decide) ?_
      exact ret_z M hS hP (congrArg (fun z : Bool => (bI z, v)) (Option.some.inj hF)) rfl dX6_within_15
def F_X6_become (a1 : Int32) (a2 : Int32) (v : VV) : Option (Int32 × VV) :=
  gu (gI a1 92) (gu (gI a1 92) (some (v 1 ((a1).toNatClampNeg), pu v 1 ((a1).toNatClampNeg) a2)))
set_option maxHeartbeats 4000000 in
set_option maxRecDepth 100000 in
theorem c_X6_become (l : Launch) (G : GG) (a1 : Int32) (a2 : Int32) (v : VV) (r : Int32) (v' : VV) (hF : F_X6_become a1 a2 v = some (r, v')) : Met l yX6_become (cdW yX6_become cX6_become 4 (some .int)) ({ frames := 0, cells := 0, slots := 0, locals := 0 } : Room) (PC G v [.ref (ad G 0), .int a1, .int a2]) (QI G r v') 0 0 (gA G) := by
  refine met_in RX6 (by decide) rfl (Nat.le_of_ble_eq_true rfl) ?_
  intro p e s m below meth c M hP ls hl
  have hx := M.1.1
  have hb := M.1.2.1
  have hS : va_S (gA G) s.heap s.heap [] := va_S.rf
  have hl : lv_has ls 4 [(0, .ref (ad G 0)), (1, .int a1), (2, .int a2)] := hl
  unfold F_X6_become at hF
  refine lv_aload_n hx hb dX6_become_0 rfl (lv_at hl 0 rfl) ?_
  refine fg_6_9 M hP dX6_become_1 ?_
  refine lv_iload_n hx hb dX6_become_4 rfl (lv_at hl 1 rfl) ?_
  obtain ⟨g1, hF⟩ := gu_some hF
  refine r_iald (k := (a1).toNatClampNeg) M hP rfl rfl (in_c g1) rfl dX6_become_5 ?_
  refine lv_istore_n (lv' := [(3, .int (v 1 ((a1).toNatClampNeg))), (0, .ref (ad G 0)), (1, .int a1), (2, .int a2)]) hx hb dX6_become_6 rfl hl (by decide) rfl (fun ls hl => ?_)
  refine lv_aload_n hx hb dX6_become_7 rfl (lv_at hl 1 rfl) ?_
  refine fg_6_9 M hP dX6_become_8 ?_
  refine lv_iload_n hx hb dX6_become_11 rfl (lv_at hl 2 rfl) ?_
  refine lv_iload_n hx hb dX6_become_12 rfl (lv_at hl 3 rfl) ?_
  obtain ⟨g2, hF⟩ := gu_some hF
  refine r_iast (k := (a1).toNatClampNeg) M hS hP rfl rfl (in_c g2) rfl dX6_become_13 (fun H locs hP hS => ?_)
  have hP : Wd G (pu v 1 ((a1).toNatClampNeg) a2) H := hP
  refine lv_iload_n hx hb dX6_become_14 rfl (lv_at hl 0 rfl) ?_
  exact ret_i M hS hP (Option.some.inj hF) dX6_become_15
def L_X6_copyRow_2 : Nat → Nat → Nat → Int32 → VV → Option VV
  | 0, _, _, _, _ => none
  | n + 1, x0, x1, x2, v =>
  if 92 ≤ x2 then (some v) else (gu (gI x2 (ln x0)) (gu (gI x2 (ln x1)) (L_X6_copyRow_2 n x0 x1 (x2 + 1) (pu v x1 ((x2).toNatClampNeg) (v x0 ((x2).toNatClampNeg))))))
def F_X6_copyRow (a0 : Nat) (a1 : Nat) (v : VV) : Option VV :=
  L_X6_copyRow_2 fu a0 a1 0 v
set_option maxHeartbeats 4000000 in
set_option maxRecDepth 100000 in
theorem l_X6_copyRow_2 {p : Program} {l : Launch} {e : Env} {s : State} {m : MethodId} {args : Array Value} {below : List Frame} {meth : Method} {c : Code} {G : GG} (M : Mx G RX6 cX6_copyRow 3 none p s m args meth c) (v' : VV) : ∀ (n : Nat) (x0 : Nat) (x1 : Nat) (x2 : Int32) (hx0 : kd x0 = 7) (hx1 : kd x1 = 7) (v : VV) (H : Heap) (locs : List Loc) (ls : Array Slot), L_X6_copyRow_2 n x0 x1 x2 v = some v' → Wd G v H → va_S (gA G) s.heap H locs → lv_has ls 3 [(0, .ref (ad G x0)), (1, .ref (ad G x1)), (2, .int x2)] → W p l e ({ frames := 0, cells := 0, slots := 0, locals := 0 } : Room) s m args below meth c H locs 0 0 (MQ below (QV G v') args s 0 0 (gA G)) (F0 m 2 ls []) := by
  have hx := M.1.1
  have hb := M.1.2.1
  intro n
  induction n with
  | zero =>
    intro x0 x1 x2 hx0 hx1 v H locs ls hF hP hS hl
    rw [L_X6_copyRow_2] at hF
    cases hF
  | succ n ih =>
    intro x0 x1 x2 hx0 hx1 v H locs ls hF hP hS hl
    rw [L_X6_copyRow_2] at hF
    refine lv_iload_n hx hb dX6_copyRow_2 rfl (lv_at hl 2 rfl) ?_
    refine lv_bipush (v := 92) hx hb dX6_copyRow_3 (by decide) ?_
    refine lv_icmp_ge (tgt := 20) hx hb dX6_copyRow_5 (by decide) (fun c1 => ?_) (fun c1 => ?_)
    · replace hF := (if_pos c1).symm.trans hF
      exact ret_v M hS hP (Option.some.inj hF) dX6_copyRow_20
    · replace hF := (if_neg c1).symm.trans hF
      refine lv_aload_n hx hb dX6_copyRow_8 rfl (lv_at hl 1 rfl) ?_
      refine lv_iload_n hx hb dX6_copyRow_9 rfl (lv_at hl 2 rfl) ?_
      refine lv_aload_n hx hb dX6_copyRow_10 rfl (lv_at hl 0 rfl) ?_
      refine lv_iload_n hx hb dX6_copyRow_11 rfl (lv_at hl 2 rfl) ?_
      obtain ⟨g2, hF⟩ := gu_some hF
      refine r_iald (k := (x2).toNatClampNeg) M hP hx0 rfl (in_c g2) rfl dX6_copyRow_12 ?_
      obtain ⟨g3, hF⟩ := gu_some hF
      refine r_iast (k := (x2).toNatClampNeg) M hS hP hx1 rfl (in_c g3) rfl dX6_copyRow_13 (fun H locs hP hS => ?_)
      have hP : Wd G (pu v x1 ((x2).toNatClampNeg) (v x0 ((x2).toNatClampNeg))) H := hP
      refine lv_iinc (v := (x2 + 1)) (lv' := [(2, .int (x2 + 1)), (0, .ref (ad G x0)), (1, .ref (ad G x1))]) hx hb dX6_copyRow_14 hl (k := 2) rfl (iinc_eq _ (by decide)) (by decide) rfl (fun ls hl => ?_)
      refine lv_goto (tgt := 2) hx hb dX6_copyRow_17 (by decide) ?_
      exact ih x0 x1 (x2 + 1) hx0 hx1 _ _ _ ls hF hP hS (lv_sub hl [1, 2, 0] rfl)
set_option maxHeartbeats 4000000 in
set_option maxRecDepth 100000 in
theorem c_X6_copyRow (l : Launch) (G : GG) (a0 : Nat) (ha0 : kd a0 = 7) (a1 : Nat) (ha1 : kd a1 = 7) (v : VV) (v' : VV) (hF : F_X6_copyRow a0 a1 v = some v') : Met l yX6_copyRow (cdW yX6_copyRow cX6_copyRow 3 none) ({ frames := 0, cells := 0, slots := 0, locals := 0 } : Room) (PC G v [.ref (ad G a0), .ref (ad G a1)]) (QV G v') 0 0 (gA G) := by
  refine met_in RX6 (by decide) rfl (Nat.le_of_ble_eq_true rfl) ?_
  intro p e s m below meth c M hP ls hl
  have hx := M.1.1
  have hb := M.1.2.1
  have hS : va_S (gA G) s.heap s.heap [] := va_S.rf
  have hl : lv_has ls 3 [(0, .ref (ad G a0)), (1, .ref (ad G a1))] := hl
  unfold F_X6_copyRow at hF
  refine lv_iconst (v := 0) hx hb dX6_copyRow_0 (by decide) ?_
  refine lv_istore_n (lv' := [(2, .int 0), (0, .ref (ad G a0)), (1, .ref (ad G a1))]) hx hb dX6_copyRow_1 rfl hl (by decide) rfl (fun ls hl => ?_)
  exact l_X6_copyRow_2 M _ fu a0 a1 0 ha0 ha1 _ _ _ ls hF hP hS (lv_sub hl [1, 2, 0] rfl)
def F_X6_putBack (a1 : Int32) (v : VV) : Option (Int32 × VV) :=
  Option.bind (F_X6_copyRow 3 1 v) (fun v3 => some (a1, v3))
set_option maxHeartbeats 4000000 in
set_option maxRecDepth 100000 in
theorem c_X6_putBack (l : Launch) (G : GG) (a1 : Int32) (v : VV) (r : Int32) (v' : VV) (hF : F_X6_putBack a1 v = some (r, v')) : Met l yX6_putBack (cdW yX6_putBack cX6_putBack 2 (some .int)) ({ frames := 1, cells := 0, slots := 0, locals := 22 } : Room) (PC G v [.ref (ad G 0), .int a1]) (QI G r v') 0 0 (gA G) := by
  refine met_in RX6 (by decide) rfl (Nat.le_of_ble_eq_true rfl) ?_
  intro p e s m below meth c M hP ls hl
  have hx := M.1.1
  have hb := M.1.2.1
  have hS : va_S (gA G) s.heap s.heap [] := va_S.rf
  have hl : lv_has ls 2 [(0, .ref (ad G 0)), (1, .int a1)] := hl
  unfold F_X6_putBack at hF
  refine lv_aload_n hx hb dX6_putBack_0 rfl (lv_at hl 0 rfl) ?_
  refine fg_6_16 M hP dX6_putBack_1 ?_
  refine lv_aload_n hx hb dX6_putBack_4 rfl (lv_at hl 0 rfl) ?_
  refine fg_6_9 M hP dX6_putBack_5 ?_
  obtain ⟨v3, h1, hF⟩ := bi_some hF
  refine k_v hS (kS_run M hS hP ok_X6_61 (c_X6_copyRow l G 3 rfl 1 rfl v v3 h1) rfl hl.1 rfl (Nat.le_of_ble_eq_true rfl) ⟨rfl, rfl⟩ ⟨Nat.le_of_ble_eq_true rfl, Nat.le_of_ble_eq_true rfl⟩ dX6_putBack_8) (fun H locs hP hS => ?_)
  refine lv_iload_n hx hb dX6_putBack_11 rfl (lv_at hl 1 rfl) ?_
  exact ret_i M hS hP (Option.some.inj hF) dX6_putBack_12
def F_X6_orNone (a1 : Int32) (v : VV) : Option (Int32 × VV) :=
  if 0 ≤ a1 then (some (a1, v)) else (Option.bind (F_X6_finding (-1000004) v) (fun (r3, v4) => some (r3, v4)))
set_option maxHeartbeats 4000000 in
set_option maxRecDepth 100000 in
theorem c_X6_orNone (l : Launch) (G : GG) (a1 : Int32) (v : VV) (r : Int32) (v' : VV) (hF : F_X6_orNone a1 v = some (r, v')) : Met l yX6_orNone (cdW yX6_orNone cX6_orNone 2 (some .int)) ({ frames := 1, cells := 0, slots := 0, locals := 21 } : Room) (PC G v [.ref (ad G 0), .int a1]) (QI G r v') 0 0 (gA G) := by
  refine met_in RX6 (by decide) rfl (Nat.le_of_ble_eq_true rfl) ?_
  intro p e s m below meth c M hP ls hl
  have hx := M.1.1
  have hb := M.1.2.1
  have hS : va_S (gA G) s.heap s.heap [] := va_S.rf
  have hl : lv_has ls 2 [(0, .ref (ad G 0)), (1, .int a1)] := hl
  unfold F_X6_orNone at hF
  refine lv_iload_n hx hb dX6_orNone_0 rfl (lv_at hl 1 rfl) ?_
  refine lv_if_ge (tgt := 13) hx hb dX6_orNone_1 (by decide) (fun c1 => ?_) (fun c1 => ?_)
  · replace hF := (if_pos c1).symm.trans hF
    refine lv_iload_n hx hb dX6_orNone_13 rfl (lv_at hl 1 rfl) ?_
    exact ret_i M hS hP (Option.some.inj hF) dX6_orNone_14
  · replace hF := (if_neg c1).symm.trans hF
    refine lv_aload_n hx hb dX6_orNone_4 rfl (lv_at hl 0 rfl) ?_
    refine lv_ldc (own := RX6) (v := (-1000004)) hx hb M.1.2.2.2.1 (M.1.2.2.2.2 (Cond.constant RX6 65 (-1000004)) w_1001) dX6_orNone_5 ?_
    obtain ⟨⟨r3, v4⟩, h2, hF⟩ := bi_some hF
    dsimp only at hF
    refine k_i hS (kV_run M hS hP ok_X6_66 (c_X6_finding l G (-1000004) v r3 v4 h2) (rc_6 M hP rfl) rfl hl.1 rfl (Nat.le_of_ble_eq_true rfl) ⟨rfl, rfl⟩ ⟨Nat.le_of_ble_eq_true rfl, Nat.le_of_ble_eq_true rfl⟩ dX6_orNone_7) (fun H locs hP hS => ?_)
    refine lv_goto (tgt := 14) hx hb dX6_orNone_10 (by decide) ?_
    exact ret_i M hS hP (Option.some.inj hF) dX6_orNone_14
def L_X6_bits_4 : Nat → Int32 → Int32 → Int32 → VV → Option Int32
  | 0, _, _, _, _ => none
  | n + 1, x0, x1, x2, v =>
  if x2 = 0 then (some x1) else (L_X6_bits_4 n x0 (x1 + 1) (x2 &&& (x2 - 1)) v)
def F_X6_bits (a0 : Int32) (v : VV) : Option Int32 :=
  L_X6_bits_4 fu a0 0 a0 v
set_option maxHeartbeats 4000000 in
set_option maxRecDepth 100000 in
theorem l_X6_bits_4 {p : Program} {l : Launch} {e : Env} {s : State} {m : MethodId} {args : Array Value} {below : List Frame} {meth : Method} {c : Code} {G : GG} (M : Mx G RX6 cX6_bits 3 (some .int) p s m args meth c) (r : Int32) (v : VV) : ∀ (n : Nat) (x0 : Int32) (x1 : Int32) (x2 : Int32) (H : Heap) (locs : List Loc) (ls : Array Slot), L_X6_bits_4 n x0 x1 x2 v = some r → Wd G v H → va_S (gA G) s.heap H locs → lv_has ls 3 [(0, .int x0), (1, .int x1), (2, .int x2)] → W p l e ({ frames := 0, cells := 0, slots := 0, locals := 0 } : Room) s m args below meth c H locs 0 0 (MQ below (QI G r v) args s 0 0 (gA G)) (F0 m 4 ls []) := by
  have hx := M.1.1
  have hb := M.1.2.1
  intro n
  induction n with
  | zero =>
    intro x0 x1 x2 H locs ls hF hP hS hl
    rw [L_X6_bits_4] at hF
    cases hF
  | succ n ih =>
    intro x0 x1 x2 H locs ls hF hP hS hl
    rw [L_X6_bits_4] at hF
    refine lv_iload_n hx hb dX6_bits_4 rfl (lv_at hl 2 rfl) ?_
    refine lv_if_eq (tgt := 20) hx hb dX6_bits_5 (by decide) (fun c1 => ?_) (fun c1 => ?_)
    · replace hF := (if_pos c1).symm.trans hF
      refine lv_iload_n hx hb dX6_bits_20 rfl (lv_at hl 1 rfl) ?_
      exact ret_i M hS hP (congrArg (fun z => (z, v)) (Option.some.inj hF)) dX6_bits_21
    · replace hF := (if_neg c1).symm.trans hF
      refine lv_iinc (v := (x1 + 1)) (lv' := [(1, .int (x1 + 1)), (0, .int x0), (2, .int x2)]) hx hb dX6_bits_8 hl (k := 1) rfl (iinc_eq _ (by decide)) (by decide) rfl (fun ls hl => ?_)
      refine lv_iload_n hx hb dX6_bits_11 rfl (lv_at hl 2 rfl) ?_
      refine lv_iload_n hx hb dX6_bits_12 rfl (lv_at hl 2 rfl) ?_
      refine lv_iconst (v := 1) hx hb dX6_bits_13 (by decide) ?_
      refine lv_isub hx hb dX6_bits_14 ?_
      refine lv_iand hx hb dX6_bits_15 ?_
      refine lv_istore_n (lv' := [(2, .int (x2 &&& (x2 - 1))), (1, .int (x1 + 1)), (0, .int x0)]) hx hb dX6_bits_16 rfl hl (by decide) rfl (fun ls hl => ?_)
      refine lv_goto (tgt := 4) hx hb dX6_bits_17 (by decide) ?_
      exact ih x0 (x1 + 1) (x2 &&& (x2 - 1)) _ _ ls hF hP hS (lv_sub hl [2, 1, 0] rfl)
set_option maxHeartbeats 4000000 in
set_option maxRecDepth 100000 in
theorem c_X6_bits (l : Launch) (G : GG) (a0 : Int32) (v : VV) (r : Int32) (hF : F_X6_bits a0 v = some r) : Met l yX6_bits (cdW yX6_bits cX6_bits 3 (some .int)) ({ frames := 0, cells := 0, slots := 0, locals := 0 } : Room) (PC G v [.int a0]) (QI G r v) 0 0 (gA G) := by
  refine met_in RX6 (by decide) rfl (Nat.le_of_ble_eq_true rfl) ?_
  intro p e s m below meth c M hP ls hl
  have hx := M.1.1
  have hb := M.1.2.1
  have hS : va_S (gA G) s.heap s.heap [] := va_S.rf
  have hl : lv_has ls 3 [(0, .int a0)] := hl
  unfold F_X6_bits at hF
  refine lv_iconst (v := 0) hx hb dX6_bits_0 (by decide) ?_
  refine lv_istore_n (lv' := [(1, .int 0), (0, .int a0)]) hx hb dX6_bits_1 rfl hl (by decide) rfl (fun ls hl => ?_)
  refine lv_iload_n hx hb dX6_bits_2 rfl (lv_at hl 1 rfl) ?_
  refine lv_istore_n (lv' := [(2, .int a0), (1, .int 0), (0, .int a0)]) hx hb dX6_bits_3 rfl hl (by decide) rfl (fun ls hl => ?_)
  exact l_X6_bits_4 M _ _ fu a0 0 a0 _ _ ls hF hP hS (lv_sub hl [2, 1, 0] rfl)
def F_X6_isCell (a0 : Int32) (v : VV) : Option Bool :=
  Option.bind (F_X6_within a0 0 15 v) (fun r2 => some r2)
set_option maxHeartbeats 4000000 in
set_option maxRecDepth 100000 in
theorem c_X6_isCell (l : Launch) (G : GG) (a0 : Int32) (v : VV) (r : Bool) (hF : F_X6_isCell a0 v = some r) : Met l yX6_isCell (cdW yX6_isCell cX6_isCell 1 (some .boolean)) ({ frames := 1, cells := 0, slots := 0, locals := 22 } : Room) (PC G v [.int a0]) (QI G (bI r) v) 0 0 (gA G) := by
  refine met_in RX6 (by decide) rfl (Nat.le_of_ble_eq_true rfl) ?_
  intro p e s m below meth c M hP ls hl
  have hx := M.1.1
  have hb := M.1.2.1
  have hS : va_S (gA G) s.heap s.heap [] := va_S.rf
  have hl : lv_has ls 1 [(0, .int a0)] := hl
  unfold F_X6_isCell at hF
  refine lv_iload_n hx hb dX6_isCell_0 rfl (lv_at hl 0 rfl) ?_
  refine lv_iconst (v := 0) hx hb dX6_isCell_1 (by decide) ?_
  refine lv_bipush (v := 15) hx hb dX6_isCell_2 (by decide) ?_
  obtain ⟨r2, h1, hF⟩ := bi_some hF
  refine k_i hS (kS_run M hS hP ok_X6_70 (c_X6_within l G a0 0 15 v r2 h1) rfl hl.1 rfl (Nat.le_of_ble_eq_true rfl) ⟨rfl, rfl⟩ ⟨Nat.le_of_ble_eq_true rfl, Nat.le_of_ble_eq_true rfl⟩ dX6_isCell_4) (fun H locs hP hS => ?_)
  exact ret_z M hS hP (congrArg (fun z : Bool => (bI z, v)) (Option.some.inj hF)) (bI_nar r2) dX6_isCell_7
def F_X6_isNote (a0 : Int32) (v : VV) : Option Bool :=
  Option.bind (F_X6_within a0 0 11 v) (fun r2 => some r2)
set_option maxHeartbeats 4000000 in
set_option maxRecDepth 100000 in
theorem c_X6_isNote (l : Launch) (G : GG) (a0 : Int32) (v : VV) (r : Bool) (hF : F_X6_isNote a0 v = some r) : Met l yX6_isNote (cdW yX6_isNote cX6_isNote 1 (some .boolean)) ({ frames := 1, cells := 0, slots := 0, locals := 22 } : Room) (PC G v [.int a0]) (QI G (bI r) v) 0 0 (gA G) := by
  refine met_in RX6 (by decide) rfl (Nat.le_of_ble_eq_true rfl) ?_
  intro p e s m below meth c M hP ls hl
  have hx := M.1.1
  have hb := M.1.2.1
  have hS : va_S (gA G) s.heap s.heap [] := va_S.rf
  have hl : lv_has ls 1 [(0, .int a0)] := hl
  unfold F_X6_isNote at hF
  refine lv_iload_n hx hb dX6_isNote_0 rfl (lv_at hl 0 rfl) ?_
  refine lv_iconst (v := 0) hx hb dX6_isNote_1 (by decide) ?_
  refine lv_bipush (v := 11) hx hb dX6_isNote_2 (by decide) ?_
  obtain ⟨r2, h1, hF⟩ := bi_some hF
  refine k_i hS (kS_run M hS hP ok_X6_70 (c_X6_within l G a0 0 11 v r2 h1) rfl hl.1 rfl (Nat.le_of_ble_eq_true rfl) ⟨rfl, rfl⟩ ⟨Nat.le_of_ble_eq_true rfl, Nat.le_of_ble_eq_true rfl⟩ dX6_isNote_4) (fun H locs hP hS => ?_)
  exact ret_z M hS hP (congrArg (fun z : Bool => (bI z, v)) (Option.some.inj hF)) (bI_nar r2) dX6_isNote_7
def F_X6_isFog (a0 : Int32) (v : VV) : Option Bool :=
  Option.bind (F_X6_within a0 0 9 v) (fun r2 => some r2)
set_option maxHeartbeats 4000000 in
set_option maxRecDepth 100000 in
theorem c_X6_isFog (l : Launch) (G : GG) (a0 : Int32) (v : VV) (r : Bool) (hF : F_X6_isFog a0 v = some r) : Met l yX6_isFog (cdW yX6_isFog cX6_isFog 1 (some .boolean)) ({ frames := 1, cells := 0, slots := 0, locals := 22 } : Room) (PC G v [.int a0]) (QI G (bI r) v) 0 0 (gA G) := by
  refine met_in RX6 (by decide) rfl (Nat.le_of_ble_eq_true rfl) ?_
  intro p e s m below meth c M hP ls hl
  have hx := M.1.1
  have hb := M.1.2.1
  have hS : va_S (gA G) s.heap s.heap [] := va_S.rf
  have hl : lv_has ls 1 [(0, .int a0)] := hl
  unfold F_X6_isFog at hF
  refine lv_iload_n hx hb dX6_isFog_0 rfl (lv_at hl 0 rfl) ?_
  refine lv_iconst (v := 0) hx hb dX6_isFog_1 (by decide) ?_
  refine lv_bipush (v := 9) hx hb dX6_isFog_2 (by decide) ?_
  obtain ⟨r2, h1, hF⟩ := bi_some hF
  refine k_i hS (kS_run M hS hP ok_X6_70 (c_X6_within l G a0 0 9 v r2 h1) rfl hl.1 rfl (Nat.le_of_ble_eq_true rfl) ⟨rfl, rfl⟩ ⟨Nat.le_of_ble_eq_true rfl, Nat.le_of_ble_eq_true rfl⟩ dX6_isFog_4) (fun H locs hP hS => ?_)
  exact ret_z M hS hP (congrArg (fun z : Bool => (bI z, v)) (Option.some.inj hF)) (bI_nar r2) dX6_isFog_7
def F_X6_isSet (a0 : Int32) (v : VV) : Option Bool :=
  Option.bind (F_X6_within a0 0 4095 v) (fun r2 => some r2)
set_option maxHeartbeats 4000000 in
set_option maxRecDepth 100000 in
theorem c_X6_isSet (l : Launch) (G : GG) (a0 : Int32) (v : VV) (r : Bool) (hF : F_X6_isSet a0 v = some r) : Met l yX6_isSet (cdW yX6_isSet cX6_isSet 1 (some .boolean)) ({ frames := 1, cells := 0, slots := 0, locals := 22 } : Room) (PC G v [.int a0]) (QI G (bI r) v) 0 0 (gA G) := by
  refine met_in RX6 (by decide) rfl (Nat.le_of_ble_eq_true rfl) ?_
  intro p e s m below meth c M hP ls hl
  have hx := M.1.1
  have hb := M.1.2.1
  have hS : va_S (gA G) s.heap s.heap [] := va_S.rf
  have hl : lv_has ls 1 [(0, .int a0)] := hl
  unfold F_X6_isSet at hF
  refine lv_iload_n hx hb dX6_isSet_0 rfl (lv_at hl 0 rfl) ?_
  refine lv_iconst (v := 0) hx hb dX6_isSet_1 (by decide) ?_
  refine lv_sipush (v := 4095) hx hb dX6_isSet_2 (by decide) ?_
  obtain ⟨r2, h1, hF⟩ := bi_some hF
  refine k_i hS (kS_run M hS hP ok_X6_70 (c_X6_within l G a0 0 4095 v r2 h1) rfl hl.1 rfl (Nat.le_of_ble_eq_true rfl) ⟨rfl, rfl⟩ ⟨Nat.le_of_ble_eq_true rfl, Nat.le_of_ble_eq_true rfl⟩ dX6_isSet_5) (fun H locs hP hS => ?_)
  exact ret_z M hS hP (congrArg (fun z : Bool => (bI z, v)) (Option.some.inj hF)) (bI_nar r2) dX6_isSet_8
def F_X6_isPlace (a0 : Int32) (v : VV) : Option Bool :=
  Option.bind (F_X6_within a0 0 5 v) (fun r2 => some r2)
set_option maxHeartbeats 4000000 in
set_option maxRecDepth 100000 in
theorem c_X6_isPlace (l : Launch) (G : GG) (a0 : Int32) (v : VV) (r : Bool) (hF : F_X6_isPlace a0 v = some r) : Met l yX6_isPlace (cdW yX6_isPlace cX6_isPlace 1 (some .boolean)) ({ frames := 1, cells := 0, slots := 0, locals := 22 } : Room) (PC G v [.int a0]) (QI G (bI r) v) 0 0 (gA G) := by
  refine met_in RX6 (by decide) rfl (Nat.le_of_ble_eq_true rfl) ?_
  intro p e s m below meth c M hP ls hl
  have hx := M.1.1
  have hb := M.1.2.1
  have hS : va_S (gA G) s.heap s.heap [] := va_S.rf
  have hl : lv_has ls 1 [(0, .int a0)] := hl
  unfold F_X6_isPlace at hF
  refine lv_iload_n hx hb dX6_isPlace_0 rfl (lv_at hl 0 rfl) ?_
  refine lv_iconst (v := 0) hx hb dX6_isPlace_1 (by decide) ?_
  refine lv_iconst (v := 5) hx hb dX6_isPlace_2 (by decide) ?_
  obtain ⟨r2, h1, hF⟩ := bi_some hF
  refine k_i hS (kS_run M hS hP ok_X6_70 (c_X6_within l G a0 0 5 v r2 h1) rfl hl.1 rfl (Nat.le_of_ble_eq_true rfl) ⟨rfl, rfl⟩ ⟨Nat.le_of_ble_eq_true rfl, Nat.le_of_ble_eq_true rfl⟩ dX6_isPlace_3) (fun H locs hP hS => ?_)
  exact ret_z M hS hP (congrArg (fun z : Bool => (bI z, v)) (Option.some.inj hF)) (bI_nar r2) dX6_isPlace_6
def F_X6_fog (a1 : Int32) (a2 : Int32) (v : VV) : Option (Int32 × VV) :=
  Option.bind (F_X6_isPlace a1 v) (fun r2 => (if r2 = true then (Option.bind (F_X6_isFog a2 v) (fun r9 => (if r9 = true then (Option.bind (F_X6_become (4 + a1) a2 v) (fun (r16, v17) => some (r16, v17))) else (Option.bind (F_X6_finding (-1000001) v) (fun (r12, v13) => some (r12, v13)))))) else (Option.bind (F_X6_finding (-1000001) v) (fun (r5, v6) => some (r5, v6)))))
set_option maxHeartbeats 4000000 in
set_option maxRecDepth 100000 in
theorem c_X6_fog (l : Launch) (G : GG) (a1 : Int32) (a2 : Int32) (v : VV) (r : Int32) (v' : VV) (hF : F_X6_fog a1 a2 v = some (r, v')) : Met l yX6_fog (cdW yX6_fog cX6_fog 3 (some .int)) ({ frames := 2, cells := 0, slots := 0, locals := 42 } : Room) (PC G v [.ref (ad G 0), .int a1, .int a2]) (QI G r v') 0 0 (gA G) := by
  refine met_in RX6 (by decide) rfl (Nat.le_of_ble_eq_true rfl) ?_
  intro p e s m below meth c M hP ls hl
  have hx := M.1.1
  have hb := M.1.2.1
  have hS : va_S (gA G) s.heap s.heap [] := va_S.rf
  have hl : lv_has ls 3 [(0, .ref (ad G 0)), (1, .int a1), (2, .int a2)] := hl
  unfold F_X6_fog at hF
  refine lv_iload_n hx hb dX6_fog_0 rfl (lv_at hl 1 rfl) ?_
  obtain ⟨r2, h1, hF⟩ := bi_some hF
  refine k_i hS (kS_run M hS hP ok_X6_74 (c_X6_isPlace l G a1 v r2 h1) rfl hl.1 rfl (Nat.le_of_ble_eq_true rfl) ⟨rfl, rfl⟩ ⟨Nat.le_of_ble_eq_true rfl, Nat.le_of_ble_eq_true rfl⟩ dX6_fog_1) (fun H locs hP hS => ?_)
  refine lv_if_eq (tgt := 25) hx hb dX6_fog_4 (by decide) (fun c3 => ?_) (fun c3 => ?_)
  · replace hF := (if_neg (bI_f c3)).symm.trans hF
    refine lv_aload_n hx hb dX6_fog_25 rfl (lv_at hl 0 rfl) ?_
    refine lv_ldc (own := RX6) (v := (-1000001)) hx hb M.1.2.2.2.1 (M.1.2.2.2.2 (Cond.constant RX6 60 (-1000001)) w_788) dX6_fog_26 ?_
    obtain ⟨⟨r5, v6⟩, h4, hF⟩ := bi_some hF
    dsimp only at hF
    refine k_i hS (kV_run M hS hP ok_X6_66 (c_X6_finding l G (-1000001) v r5 v6 h4) (rc_6 M hP rfl) rfl hl.1 rfl (Nat.le_of_ble_eq_true rfl) ⟨rfl, rfl⟩ ⟨Nat.le_of_ble_eq_true rfl, Nat.le_of_ble_eq_true rfl⟩ dX6_fog_28) (fun H locs hP hS => ?_)
    exact ret_i M hS hP (Option.some.inj hF) dX6_fog_31
  · replace hF := (if_pos (bI_t c3)).symm.trans hF
    refine lv_iload_n hx hb dX6_fog_7 rfl (lv_at hl 2 rfl) ?_
    obtain ⟨r9, h8, hF⟩ := bi_some hF
    refine k_i hS (kS_run M hS hP ok_X6_78 (c_X6_isFog l G a2 v r9 h8) rfl hl.1 rfl (Nat.le_of_ble_eq_true rfl) ⟨rfl, rfl⟩ ⟨Nat.le_of_ble_eq_true rfl, Nat.le_of_ble_eq_true rfl⟩ dX6_fog_8) (fun H locs hP hS => ?_)
    refine lv_if_eq (tgt := 25) hx hb dX6_fog_11 (by decide) (fun c10 => ?_) (fun c10 => ?_)
    · replace hF := (if_neg (bI_f c10)).symm.trans hF
      refine lv_aload_n hx hb dX6_fog_25 rfl (lv_at hl 0 rfl) ?_
      refine lv_ldc (own := RX6) (v := (-1000001)) hx hb M.1.2.2.2.1 (M.1.2.2.2.2 (Cond.constant RX6 60 (-1000001)) w_788) dX6_fog_26 ?_
      obtain ⟨⟨r12, v13⟩, h11, hF⟩ := bi_some hF
      dsimp only at hF
      refine k_i hS (kV_run M hS hP ok_X6_66 (c_X6_finding l G (-1000001) v r12 v13 h11) (rc_6 M hP rfl) rfl hl.1 rfl (Nat.le_of_ble_eq_true rfl) ⟨rfl, rfl⟩ ⟨Nat.le_of_ble_eq_true rfl, Nat.le_of_ble_eq_true rfl⟩ dX6_fog_28) (fun H locs hP hS => ?_)
      exact ret_i M hS hP (Option.some.inj hF) dX6_fog_31
    · replace hF := (if_pos (bI_t c10)).symm.trans hF
      refine lv_aload_n hx hb dX6_fog_14 rfl (lv_at hl 0 rfl) ?_
      refine lv_iconst (v := 4) hx hb dX6_fog_15 (by decide) ?_
      refine lv_iload_n hx hb dX6_fog_16 rfl (lv_at hl 1 rfl) ?_
      refine lv_iadd hx hb dX6_fog_17 ?_
      refine lv_iload_n hx hb dX6_fog_18 rfl (lv_at hl 2 rfl) ?_
      obtain ⟨⟨r16, v17⟩, h15, hF⟩ := bi_some hF
      dsimp only at hF
      refine k_i hS (kV_run M hS hP ok_X6_81 (c_X6_become l G (4 + a1) a2 v r16 v17 h15) (rc_6 M hP rfl) rfl hl.1 rfl (Nat.le_of_ble_eq_true rfl) ⟨rfl, rfl⟩ ⟨Nat.le_of_ble_eq_true rfl, Nat.le_of_ble_eq_true rfl⟩ dX6_fog_19) (fun H locs hP hS => ?_)
      refine lv_goto (tgt := 31) hx hb dX6_fog_22 (by decide) ?_
      exact ret_i M hS hP (Option.some.inj hF) dX6_fog_31
def F_X6_listed (a1 : Int32) (v : VV) : Option (Int32 × VV) :=
  Option.bind (F_X6_isPlace a1 v) (fun r2 => (if r2 = true then (gu (gI (4 + a1) 92) (some (v 1 ((4 + a1).toNatClampNeg), v))) else (Option.bind (F_X6_finding (-1000001) v) (fun (r5, v6) => some (r5, v6)))))
set_option maxHeartbeats 4000000 in
set_option maxRecDepth 100000 in
theorem c_X6_listed (l : Launch) (G : GG) (a1 : Int32) (v : VV) (r : Int32) (v' : VV) (hF : F_X6_listed a1 v = some (r, v')) : Met l yX6_listed (cdW yX6_listed cX6_listed 2 (some .int)) ({ frames := 2, cells := 0, slots := 0, locals := 42 } : Room) (PC G v [.ref (ad G 0), .int a1]) (QI G r v') 0 0 (gA G) := by
  refine met_in RX6 (by decide) rfl (Nat.le_of_ble_eq_true rfl) ?_
  intro p e s m below meth c M hP ls hl
  have hx := M.1.1
  have hb := M.1.2.1
  have hS : va_S (gA G) s.heap s.heap [] := va_S.rf
  have hl : lv_has ls 2 [(0, .ref (ad G 0)), (1, .int a1)] := hl
  unfold F_X6_listed at hF
  refine lv_iload_n hx hb dX6_listed_0 rfl (lv_at hl 1 rfl) ?_
  obtain ⟨r2, h1, hF⟩ := bi_some hF
  refine k_i hS (kS_run M hS hP ok_X6_74 (c_X6_isPlace l G a1 v r2 h1) rfl hl.1 rfl (Nat.le_of_ble_eq_true rfl) ⟨rfl, rfl⟩ ⟨Nat.le_of_ble_eq_true rfl, Nat.le_of_ble_eq_true rfl⟩ dX6_listed_1) (fun H locs hP hS => ?_)
  refine lv_if_eq (tgt := 18) hx hb dX6_listed_4 (by decide) (fun c3 => ?_) (fun c3 => ?_)
  · replace hF := (if_neg (bI_f c3)).symm.trans hF
    refine lv_aload_n hx hb dX6_listed_18 rfl (lv_at hl 0 rfl) ?_
    refine lv_ldc (own := RX6) (v := (-1000001)) hx hb M.1.2.2.2.1 (M.1.2.2.2.2 (Cond.constant RX6 60 (-1000001)) w_788) dX6_listed_19 ?_
    obtain ⟨⟨r5, v6⟩, h4, hF⟩ := bi_some hF
    dsimp only at hF
    refine k_i hS (kV_run M hS hP ok_X6_66 (c_X6_finding l G (-1000001) v r5 v6 h4) (rc_6 M hP rfl) rfl hl.1 rfl (Nat.le_of_ble_eq_true rfl) ⟨rfl, rfl⟩ ⟨Nat.le_of_ble_eq_true rfl, Nat.le_of_ble_eq_true rfl⟩ dX6_listed_21) (fun H locs hP hS => ?_)
    exact ret_i M hS hP (Option.some.inj hF) dX6_listed_24
  · replace hF := (if_pos (bI_t c3)).symm.trans hF
    refine lv_aload_n hx hb dX6_listed_7 rfl (lv_at hl 0 rfl) ?_
    refine fg_6_9 M hP dX6_listed_8 ?_
    refine lv_iconst (v := 4) hx hb dX6_listed_11 (by decide) ?_
    refine lv_iload_n hx hb dX6_listed_12 rfl (lv_at hl 1 rfl) ?_
    refine lv_iadd hx hb dX6_listed_13 ?_
    obtain ⟨g8, hF⟩ := gu_some hF
    refine r_iald (k := (4 + a1).toNatClampNeg) M hP rfl rfl (in_c g8) rfl dX6_listed_14 ?_
    refine lv_goto (tgt := 24) hx hb dX6_listed_15 (by decide) ?_
    exact ret_i M hS hP (Option.some.inj hF) dX6_listed_24
def F_X6_placeNow (v : VV) : Option Int32 :=
  some (4 + ((v 1 0) - (v 1 0) / 6 * 6))
set_option maxHeartbeats 4000000 in
set_option maxRecDepth 100000 in
theorem c_X6_placeNow (l : Launch) (G : GG) (v : VV) (r : Int32) (hF : F_X6_placeNow v = some r) : Met l yX6_placeNow (cdW yX6_placeNow cX6_placeNow 1 (some .int)) ({ frames := 0, cells := 0, slots := 0, locals := 0 } : Room) (PC G v [.ref (ad G 0)]) (QI G r v) 0 0 (gA G) := by
  refine met_in RX6 (by decide) rfl (Nat.le_of_ble_eq_true rfl) ?_
  intro p e s m below meth c M hP ls hl
  have hx := M.1.1
  have hb := M.1.2.1
  have hS : va_S (gA G) s.heap s.heap [] := va_S.rf
  have hl : lv_has ls 1 [(0, .ref (ad G 0))] := hl
  unfold F_X6_placeNow at hF
  refine lv_iconst (v := 4) hx hb dX6_placeNow_0 (by decide) ?_
  refine lv_aload_n hx hb dX6_placeNow_1 rfl (lv_at hl 0 rfl) ?_
  refine fg_6_9 M hP dX6_placeNow_2 ?_
  refine lv_iconst (v := 0) hx hb dX6_placeNow_5 (by decide) ?_
  refine r_iald (k := 0) M hP rfl rfl (in_c rfl) rfl dX6_placeNow_6 ?_
  refine lv_bipush (v := 6) hx hb dX6_placeNow_7 (by decide) ?_
  refine lv_irem hx hb dX6_placeNow_9 (by decide) ?_
  refine lv_iadd hx hb dX6_placeNow_10 ?_
  exact ret_i M hS hP (congrArg (fun z => (z, v)) (Option.some.inj hF)) dX6_placeNow_11
def F_X6_keeperAt (a0 : Int32) (a1 : Int32) (v : VV) : Option Int32 :=
  some ((20 + (6 * a0)) + a1)
set_option maxHeartbeats 4000000 in
set_option maxRecDepth 100000 in
theorem c_X6_keeperAt (l : Launch) (G : GG) (a0 : Int32) (a1 : Int32) (v : VV) (r : Int32) (hF : F_X6_keeperAt a0 a1 v = some r) : Met l yX6_keeperAt (cdW yX6_keeperAt cX6_keeperAt 2 (some .int)) ({ frames := 0, cells := 0, slots := 0, locals := 0 } : Room) (PC G v [.int a0, .int a1]) (QI G r v) 0 0 (gA G) := by
  refine met_in RX6 (by decide) rfl (Nat.le_of_ble_eq_true rfl) ?_
  intro p e s m below meth c M hP ls hl
  have hx := M.1.1
  have hb := M.1.2.1
  have hS : va_S (gA G) s.heap s.heap [] := va_S.rf
  have hl : lv_has ls 2 [(0, .int a0), (1, .int a1)] := hl
  unfold F_X6_keeperAt at hF
  refine lv_bipush (v := 20) hx hb dX6_keeperAt_0 (by decide) ?_
  refine lv_bipush (v := 6) hx hb dX6_keeperAt_2 (by decide) ?_
  refine lv_iload_n hx hb dX6_keeperAt_4 rfl (lv_at hl 0 rfl) ?_
  refine lv_imul hx hb dX6_keeperAt_5 ?_
  refine lv_iadd hx hb dX6_keeperAt_6 ?_
  refine lv_iload_n hx hb dX6_keeperAt_7 rfl (lv_at hl 1 rfl) ?_
  refine lv_iadd hx hb dX6_keeperAt_8 ?_
  exact ret_i M hS hP (congrArg (fun z => (z, v)) (Option.some.inj hF)) dX6_keeperAt_9
def F_X6_keeperIs (a1 : Int32) (a2 : Int32) (v : VV) : Option Int32 :=
  Option.bind (F_X6_keeperAt a1 a2 v) (fun r2 => gu (gI r2 92) (some (v 1 ((r2).toNatClampNeg))))
set_option maxHeartbeats 4000000 in
set_option maxRecDepth 100000 in
theorem c_X6_keeperIs (l : Launch) (G : GG) (a1 : Int32) (a2 : Int32) (v : VV) (r : Int32) (hF : F_X6_keeperIs a1 a2 v = some r) : Met l yX6_keeperIs (cdW yX6_keeperIs cX6_keeperIs 3 (some .int)) ({ frames := 1, cells := 0, slots := 0, locals := 21 } : Room) (PC G v [.ref (ad G 0), .int a1, .int a2]) (QI G r v) 0 0 (gA G) := by
  refine met_in RX6 (by decide) rfl (Nat.le_of_ble_eq_true rfl) ?_
  intro p e s m below meth c M hP ls hl
  have hx := M.1.1
  have hb := M.1.2.1
  have hS : va_S (gA G) s.heap s.heap [] := va_S.rf
  have hl : lv_has ls 3 [(0, .ref (ad G 0)), (1, .int a1), (2, .int a2)] := hl
  unfold F_X6_keeperIs at hF
  refine lv_aload_n hx hb dX6_keeperIs_0 rfl (lv_at hl 0 rfl) ?_
  refine fg_6_9 M hP dX6_keeperIs_1 ?_
  refine lv_iload_n hx hb dX6_keeperIs_4 rfl (lv_at hl 1 rfl) ?_
  refine lv_iload_n hx hb dX6_keeperIs_5 rfl (lv_at hl 2 rfl) ?_
  obtain ⟨r2, h1, hF⟩ := bi_some hF
  refine k_i hS (kS_run M hS hP ok_X6_85 (c_X6_keeperAt l G a1 a2 v r2 h1) rfl hl.1 rfl (Nat.le_of_ble_eq_true rfl) ⟨rfl, rfl⟩ ⟨Nat.le_of_ble_eq_true rfl, Nat.le_of_ble_eq_true rfl⟩ dX6_keeperIs_6) (fun H locs hP hS => ?_)
  obtain ⟨g3, hF⟩ := gu_some hF
  refine r_iald (k := (r2).toNatClampNeg) M hP rfl rfl (in_c g3) rfl dX6_keeperIs_9 ?_
  exact ret_i M hS hP (congrArg (fun z => (z, v)) (Option.some.inj hF)) dX6_keeperIs_10
def F_X6_isKeeper (a1 : Int32) (v : VV) : Option Bool :=
  Option.bind (F_X6_within a1 0 ((v 1 1) - 1) v) (fun r2 => some r2)
set_option maxHeartbeats 4000000 in
set_option maxRecDepth 100000 in
theorem c_X6_isKeeper (l : Launch) (G : GG) (a1 : Int32) (v : VV) (r : Bool) (hF : F_X6_isKeeper a1 v = some r) : Met l yX6_isKeeper (cdW yX6_isKeeper cX6_isKeeper 2 (some .boolean)) ({ frames := 1, cells := 0, slots := 0, locals := 22 } : Room) (PC G v [.ref (ad G 0), .int a1]) (QI G (bI r) v) 0 0 (gA G) := by
  refine met_in RX6 (by decide) rfl (Nat.le_of_ble_eq_true rfl) ?_
  intro p e s m below meth c M hP ls hl
  have hx := M.1.1
  have hb := M.1.2.1
  have hS : va_S (gA G) s.heap s.heap [] := va_S.rf
  have hl : lv_has ls 2 [(0, .ref (ad G 0)), (1, .int a1)] := hl
  unfold F_X6_isKeeper at hF
  refine lv_iload_n hx hb dX6_isKeeper_0 rfl (lv_at hl 1 rfl) ?_
  refine lv_iconst (v := 0) hx hb dX6_isKeeper_1 (by decide) ?_
  refine lv_aload_n hx hb dX6_isKeeper_2 rfl (lv_at hl 0 rfl) ?_
  refine fg_6_9 M hP dX6_isKeeper_3 ?_
  refine lv_iconst (v := 1) hx hb dX6_isKeeper_6 (by decide) ?_
  refine r_iald (k := 1) M hP rfl rfl (in_c rfl) rfl dX6_isKeeper_7 ?_
  refine lv_iconst (v := 1) hx hb dX6_isKeeper_8 (by decide) ?_
  refine lv_isub hx hb dX6_isKeeper_9 ?_
  obtain ⟨r2, h1, hF⟩ := bi_some hF
  refine k_i hS (kS_run M hS hP ok_X6_70 (c_X6_within l G a1 0 ((v 1 1) - 1) v r2 h1) rfl hl.1 rfl (Nat.le_of_ble_eq_true rfl) ⟨rfl, rfl⟩ ⟨Nat.le_of_ble_eq_true rfl, Nat.le_of_ble_eq_true rfl⟩ dX6_isKeeper_10) (fun H locs hP hS => ?_)
  exact ret_z M hS hP (congrArg (fun z : Bool => (bI z, v)) (Option.some.inj hF)) (bI_nar r2) dX6_isKeeper_13
def F_X6_childAt (a0 : Int32) (a1 : Int32) (v : VV) : Option Int32 :=
  some ((68 + (4 * a0)) + a1)
set_option maxHeartbeats 4000000 in
set_option maxRecDepth 100000 in
theorem c_X6_childAt (l : Launch) (G : GG) (a0 : Int32) (a1 : Int32) (v : VV) (r : Int32) (hF : F_X6_childAt a0 a1 v = some r) : Met l yX6_childAt (cdW yX6_childAt cX6_childAt 2 (some .int)) ({ frames := 0, cells := 0, slots := 0, locals := 0 } : Room) (PC G v [.int a0, .int a1]) (QI G r v) 0 0 (gA G) := by
  refine met_in RX6 (by decide) rfl (Nat.le_of_ble_eq_true rfl) ?_
  intro p e s m below meth c M hP ls hl
  have hx := M.1.1
  have hb := M.1.2.1
  have hS : va_S (gA G) s.heap s.heap [] := va_S.rf
  have hl : lv_has ls 2 [(0, .int a0), (1, .int a1)] := hl
  unfold F_X6_childAt at hF
  refine lv_bipush (v := 68) hx hb dX6_childAt_0 (by decide) ?_
  refine lv_iconst (v := 4) hx hb dX6_childAt_2 (by decide) ?_
  refine lv_iload_n hx hb dX6_childAt_3 rfl (lv_at hl 0 rfl) ?_
  refine lv_imul hx hb dX6_childAt_4 ?_
  refine lv_iadd hx hb dX6_childAt_5 ?_
  refine lv_iload_n hx hb dX6_childAt_6 rfl (lv_at hl 1 rfl) ?_
  refine lv_iadd hx hb dX6_childAt_7 ?_
  exact ret_i M hS hP (congrArg (fun z => (z, v)) (Option.some.inj hF)) dX6_childAt_8
def F_X6_childIs (a1 : Int32) (a2 : Int32) (v : VV) : Option Int32 :=
  Option.bind (F_X6_childAt a1 a2 v) (fun r2 => gu (gI r2 92) (some (v 1 ((r2).toNatClampNeg))))
set_option maxHeartbeats 4000000 in
set_option maxRecDepth 100000 in
theorem c_X6_childIs (l : Launch) (G : GG) (a1 : Int32) (a2 : Int32) (v : VV) (r : Int32) (hF : F_X6_childIs a1 a2 v = some r) : Met l yX6_childIs (cdW yX6_childIs cX6_childIs 3 (some .int)) ({ frames := 1, cells := 0, slots := 0, locals := 21 } : Room) (PC G v [.ref (ad G 0), .int a1, .int a2]) (QI G r v) 0 0 (gA G) := by
  refine met_in RX6 (by decide) rfl (Nat.le_of_ble_eq_true rfl) ?_
  intro p e s m below meth c M hP ls hl
  have hx := M.1.1
  have hb := M.1.2.1
  have hS : va_S (gA G) s.heap s.heap [] := va_S.rf
  have hl : lv_has ls 3 [(0, .ref (ad G 0)), (1, .int a1), (2, .int a2)] := hl
  unfold F_X6_childIs at hF
  refine lv_aload_n hx hb dX6_childIs_0 rfl (lv_at hl 0 rfl) ?_
  refine fg_6_9 M hP dX6_childIs_1 ?_
  refine lv_iload_n hx hb dX6_childIs_4 rfl (lv_at hl 1 rfl) ?_
  refine lv_iload_n hx hb dX6_childIs_5 rfl (lv_at hl 2 rfl) ?_
  obtain ⟨r2, h1, hF⟩ := bi_some hF
  refine k_i hS (kS_run M hS hP ok_X6_88 (c_X6_childAt l G a1 a2 v r2 h1) rfl hl.1 rfl (Nat.le_of_ble_eq_true rfl) ⟨rfl, rfl⟩ ⟨Nat.le_of_ble_eq_true rfl, Nat.le_of_ble_eq_true rfl⟩ dX6_childIs_6) (fun H locs hP hS => ?_)
  obtain ⟨g3, hF⟩ := gu_some hF
  refine r_iald (k := (r2).toNatClampNeg) M hP rfl rfl (in_c g3) rfl dX6_childIs_9 ?_
  exact ret_i M hS hP (congrArg (fun z => (z, v)) (Option.some.inj hF)) dX6_childIs_10
def F_X6_isChild (a1 : Int32) (v : VV) : Option Bool :=
  Option.bind (F_X6_within a1 0 ((v 1 3) - 1) v) (fun r2 => some r2)
set_option maxHeartbeats 4000000 in
set_option maxRecDepth 100000 in
theorem c_X6_isChild (l : Launch) (G : GG) (a1 : Int32) (v : VV) (r : Bool) (hF : F_X6_isChild a1 v = some r) : Met l yX6_isChild (cdW yX6_isChild cX6_isChild 2 (some .boolean)) ({ frames := 1, cells := 0, slots := 0, locals := 22 } : Room) (PC G v [.ref (ad G 0), .int a1]) (QI G (bI r) v) 0 0 (gA G) := by
  refine met_in RX6 (by decide) rfl (Nat.le_of_ble_eq_true rfl) ?_
  intro p e s m below meth c M hP ls hl
  have hx := M.1.1
  have hb := M.1.2.1
  have hS : va_S (gA G) s.heap s.heap [] := va_S.rf
  have hl : lv_has ls 2 [(0, .ref (ad G 0)), (1, .int a1)] := hl
  unfold F_X6_isChild at hF
  refine lv_iload_n hx hb dX6_isChild_0 rfl (lv_at hl 1 rfl) ?_
  refine lv_iconst (v := 0) hx hb dX6_isChild_1 (by decide) ?_
  refine lv_aload_n hx hb dX6_isChild_2 rfl (lv_at hl 0 rfl) ?_
  refine fg_6_9 M hP dX6_isChild_3 ?_
  refine lv_iconst (v := 3) hx hb dX6_isChild_6 (by decide) ?_
  refine r_iald (k := 3) M hP rfl rfl (in_c rfl) rfl dX6_isChild_7 ?_
  refine lv_iconst (v := 1) hx hb dX6_isChild_8 (by decide) ?_
  refine lv_isub hx hb dX6_isChild_9 ?_
  obtain ⟨r2, h1, hF⟩ := bi_some hF
  refine k_i hS (kS_run M hS hP ok_X6_70 (c_X6_within l G a1 0 ((v 1 3) - 1) v r2 h1) rfl hl.1 rfl (Nat.le_of_ble_eq_true rfl) ⟨rfl, rfl⟩ ⟨Nat.le_of_ble_eq_true rfl, Nat.le_of_ble_eq_true rfl⟩ dX6_isChild_10) (fun H locs hP hS => ?_)
  exact ret_z M hS hP (congrArg (fun z : Bool => (bI z, v)) (Option.some.inj hF)) (bI_nar r2) dX6_isChild_13
def F_X6_isKind (a0 : Int32) (v : VV) : Option Bool :=
  Option.bind (F_X6_within a0 0 6 v) (fun r2 => some r2)
set_option maxHeartbeats 4000000 in
set_option maxRecDepth 100000 in
theorem c_X6_isKind (l : Launch) (G : GG) (a0 : Int32) (v : VV) (r : Bool) (hF : F_X6_isKind a0 v = some r) : Met l yX6_isKind (cdW yX6_isKind cX6_isKind 1 (some .boolean)) ({ frames := 1, cells := 0, slots := 0, locals := 22 } : Room) (PC G v [.int a0]) (QI G (bI r) v) 0 0 (gA G) := by
  refine met_in RX6 (by decide) rfl (Nat.le_of_ble_eq_true rfl) ?_
  intro p e s m below meth c M hP ls hl
  have hx := M.1.1
  have hb := M.1.2.1
  have hS : va_S (gA G) s.heap s.heap [] := va_S.rf
  have hl : lv_has ls 1 [(0, .int a0)] := hl
  unfold F_X6_isKind at hF
  refine lv_iload_n hx hb dX6_isKind_0 rfl (lv_at hl 0 rfl) ?_
  refine lv_iconst (v := 0) hx hb dX6_isKind_1 (by decide) ?_
  refine lv_bipush (v := 6) hx hb dX6_isKind_2 (by decide) ?_
  obtain ⟨r2, h1, hF⟩ := bi_some hF
  refine k_i hS (kS_run M hS hP ok_X6_70 (c_X6_within l G a0 0 6 v r2 h1) rfl hl.1 rfl (Nat.le_of_ble_eq_true rfl) ⟨rfl, rfl⟩ ⟨Nat.le_of_ble_eq_true rfl, Nat.le_of_ble_eq_true rfl⟩ dX6_isKind_4) (fun H locs hP hS => ?_)
  exact ret_z M hS hP (congrArg (fun z : Bool => (bI z, v)) (Option.some.inj hF)) (bI_nar r2) dX6_isKind_7
