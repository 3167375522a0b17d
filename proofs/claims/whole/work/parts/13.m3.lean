theorem ok_X3_20 : okS RX3 20 yJ7_fill_53178 cJ7_fill_53178 4 none 2 := okS_of w_642 w_31 w_3 w_32 (by decide +kernel)
theorem ok_X4_31 : okV RX4 31 RX4 yX4_step cX4_step 1 none 0 := okV_of w_511 w_512 w_513 w_6 w_514 (by decide +kernel)
theorem ok_X4_34 : okV RX4 34 RX4 yX4_readItem cX4_readItem 3 (some .boolean) 1 := okV_of w_522 w_523 w_524 w_6 w_525 (by decide +kernel)
theorem ok_X4_38 : okS RX4 38 yX4_wordOf cX4_wordOf 1 (some (.object "java/lang/String")) 1 := okS_of w_526 w_527 w_6 w_528 (by decide +kernel)
theorem ok_X4_42 : okV RX4 42 RX4 yX4_isAt cX4_isAt 3 (some .boolean) 1 := okV_of w_536 w_537 w_538 w_6 w_539 (by decide +kernel)
theorem ok_X4_46 : okV RX4 46 RX4 yX4_readKeeper cX4_readKeeper 7 (some .boolean) 2 := okV_of w_588 w_589 w_590 w_6 w_591 (by decide +kernel)
theorem ok_X4_52 : okV RX4 52 RX4 yX4_readChild cX4_readChild 5 (some .boolean) 1 := okV_of w_607 w_608 w_609 w_6 w_610 (by decide +kernel)
theorem ok_X4_57 : okV RX4 57 RX4 yX4_readFog cX4_readFog 4 (some .boolean) 1 := okV_of w_616 w_617 w_618 w_6 w_619 (by decide +kernel)
theorem ok_X4_60 : okV RX4 60 RX1 yX1_hasAllKeepers cX1_hasAllKeepers 1 (some .boolean) 0 := okV_of w_592 w_188 w_189 w_2 w_190 (by decide +kernel)
theorem ok_X4_68 : okV RX4 68 RX4 yX4_readOption cX4_readOption 5 (some .int) 3 := okV_of w_594 w_595 w_596 w_6 w_597 (by decide +kernel)
theorem ok_X4_82 : okV RX4 82 RX1 yX1_addKeeper cX1_addKeeper 3 (some .int) 2 := okV_of w_604 w_192 w_193 w_2 w_194 (by decide +kernel)
theorem ok_X4_92 : okV RX4 92 RX1 yX1_hasAllChildren cX1_hasAllChildren 1 (some .boolean) 0 := okV_of w_611 w_204 w_205 w_2 w_206 (by decide +kernel)
theorem ok_X4_105 : okV RX4 105 RX1 yX1_addChild cX1_addChild 3 (some .int) 2 := okV_of w_614 w_208 w_209 w_2 w_210 (by decide +kernel)
theorem ok_X4_109 : okV RX4 109 RX4 yX4_numberUpTo cX4_numberUpTo 2 (some .int) 1 := okV_of w_598 w_599 w_600 w_6 w_601 (by decide +kernel)
theorem ok_X4_116 : okV RX4 116 RJ0 yJ0_length_8abf5 cJ0_length_8abf5 1 (some .int) 0 := okV_of w_540 w_541 w_542 w_12 w_543 (by decide +kernel)
theorem ok_X4_122 : okV RX4 122 RJ0 yJ0_charAt_5068e cJ0_charAt_5068e 2 (some .char) 1 := okV_of w_550 w_551 w_552 w_12 w_553 (by decide +kernel)
theorem ok_X4_126 : okS RX4 126 yX4_isLetter cX4_isLetter 1 (some .boolean) 1 := okS_of w_515 w_516 w_6 w_517 (by decide +kernel)
theorem ok_X4_130 : okS RX4 130 yX4_isDigit cX4_isDigit 1 (some .boolean) 1 := okS_of w_518 w_519 w_6 w_520 (by decide +kernel)
def F_X3_isMissing (q0 : Nat) (v : VV) : Option Bool :=
  if (v q0 1) = 0 then (some true) else (some false)
set_option maxHeartbeats 4000000 in
set_option maxRecDepth 100000 in
theorem c_X3_isMissing (l : Launch) (G : GG) (q0 : Nat) (hq0 : kd q0 = 3) (v : VV) (r : Bool) (hF : F_X3_isMissing q0 v = some r) : Met l yX3_isMissing (cdW yX3_isMissing cX3_isMissing 1 (some .boolean)) ({ frames := 0, cells := 0, slots := 0, locals := 0 } : Room) (PC G v [.ref (ad G q0)]) (QI G (bI r) v) 0 0 (gA G) := by
  refine met_in RX3 (by decide) rfl (Nat.le_of_ble_eq_true rfl) ?_
  intro p e s m below meth c M hP ls hl
  have hx := M.1.1
  have hb := M.1.2.1
  have hS : va_S (gA G) s.heap s.heap [] := va_S.rf
  have hl : lv_has ls 1 [(0, .ref (ad G q0))] := hl
  unfold F_X3_isMissing at hF
  refine lv_aload_n hx hb dX3_isMissing_0 rfl (lv_at hl 0 rfl) ?_
  refine fg_3_13 M hP hq0 dX3_isMissing_1 ?_
  refine lv_if_ne (tgt := 11) hx hb dX3_isMissing_4 (by decide) (fun c1 => ?_) (fun c1 => ?_)
  · replace hF := (if_neg c1).symm.trans hF
    refine lv_iconst (v := 0) hx hb dX3_isMissing_11 (by decide) ?_
    exact ret_z M hS hP (congrArg (fun z : Bool => (bI z, v)) (Option.some.inj hF)) rfl dX3_isMissing_12
  · replace hF := (if_pos c1).symm.trans hF
    refine lv_iconst (v := 1) hx hb dX3_isMissing_7 (by decide) ?_
    refine lv_goto (tgt := 12) hx hb dX3_isMissing_8 (by decide) ?_
    exact ret_z M hS hP (congrArg (fun z : Bool => (bI z, v)) (Option.some.inj hF)) rfl dX3_isMissing_12
def F_X3_begin (q0 : Nat) (a1 : Int32) (a2 : Int32) (v : VV) : Option VV :=
  if a1 = 0 then (Option.bind (F_J7_fill_53178 (q0 + 4) 0 (pu (pu v q0 1 a1) q0 2 0)) (fun v7 => some v7)) else (Option.bind (F_J7_fill_53178 (q0 + 4) 0 (pu (pu v q0 1 a1) q0 2 a2)) (fun v4 => some v4))
set_option maxHeartbeats 4000000 in
set_option maxRecDepth 100000 in
theorem c_X3_begin (l : Launch) (G : GG) (q0 : Nat) (hq0 : kd q0 = 3) (a1 : Int32) (a2 : Int32) (v : VV) (v' : VV) (hF : F_X3_begin q0 a1 a2 v = some v') : Met l yX3_begin (cdW yX3_begin cX3_begin 3 none) ({ frames := 1, cells := 0, slots := 0, locals := 23 } : Room) (PC G v [.ref (ad G q0), .int a1, .int a2]) (QV G v') 0 0 (gA G) := by
  refine met_in RX3 (by decide) rfl (Nat.le_of_ble_eq_true rfl) ?_
  intro p e s m below meth c M hP ls hl
  have hx := M.1.1
  have hb := M.1.2.1
  have hS : va_S (gA G) s.heap s.heap [] := va_S.rf
  have hl : lv_has ls 3 [(0, .ref (ad G q0)), (1, .int a1), (2, .int a2)] := hl
  unfold F_X3_begin at hF
  refine lv_aload_n hx hb dX3_begin_0 rfl (lv_at hl 0 rfl) ?_
  refine lv_iload_n hx hb dX3_begin_1 rfl (lv_at hl 1 rfl) ?_
  refine fp_3_13 M hS hP hq0 dX3_begin_2 (fun H locs hP hS => ?_)
  have hP : Wd G (pu v q0 1 a1) H := hP
  refine lv_aload_n hx hb dX3_begin_5 rfl (lv_at hl 0 rfl) ?_
  refine lv_iload_n hx hb dX3_begin_6 rfl (lv_at hl 1 rfl) ?_
  refine lv_if_ne (tgt := 14) hx hb dX3_begin_7 (by decide) (fun c1 => ?_) (fun c1 => ?_)
  · replace hF := (if_neg c1).symm.trans hF
    refine lv_iload_n hx hb dX3_begin_14 rfl (lv_at hl 2 rfl) ?_
    refine fp_3_17 M hS hP hq0 dX3_begin_15 (fun H locs hP hS => ?_)
    have hP : Wd G (pu (pu v q0 1 a1) q0 2 a2) H := hP
    refine lv_aload_n hx hb dX3_begin_18 rfl (lv_at hl 0 rfl) ?_
    refine fg_3_9 M hP hq0 dX3_begin_19 ?_
    refine lv_iconst (v := 0) hx hb dX3_begin_22 (by decide) ?_
    obtain ⟨v4, h2, hF⟩ := bi_some hF
    refine k_v hS (kS_run M hS hP ok_X3_20 (c_J7_fill_53178 l G (q0 + 4) (ge_3k (i := q0) hq0) 0 (pu (pu v q0 1 a1) q0 2 a2) v4 h2) rfl hl.1 rfl (Nat.le_of_ble_eq_true rfl) ⟨rfl, rfl⟩ ⟨Nat.le_of_ble_eq_true rfl, Nat.le_of_ble_eq_true rfl⟩ dX3_begin_23) (fun H locs hP hS => ?_)
    exact ret_v M hS hP (Option.some.inj hF) dX3_begin_26
  · replace hF := (if_pos c1).symm.trans hF
    refine lv_iconst (v := 0) hx hb dX3_begin_10 (by decide) ?_
    refine lv_goto (tgt := 15) hx hb dX3_begin_11 (by decide) ?_
    refine fp_3_17 M hS hP hq0 dX3_begin_15 (fun H locs hP hS => ?_)
    have hP : Wd G (pu (pu v q0 1 a1) q0 2 0) H := hP
    refine lv_aload_n hx hb dX3_begin_18 rfl (lv_at hl 0 rfl) ?_
    refine fg_3_9 M hP hq0 dX3_begin_19 ?_
    refine lv_iconst (v := 0) hx hb dX3_begin_22 (by decide) ?_
    obtain ⟨v7, h5, hF⟩ := bi_some hF
    refine k_v hS (kS_run M hS hP ok_X3_20 (c_J7_fill_53178 l G (q0 + 4) (ge_3k (i := q0) hq0) 0 (pu (pu v q0 1 a1) q0 2 0) v7 h5) rfl hl.1 rfl (Nat.le_of_ble_eq_true rfl) ⟨rfl, rfl⟩ ⟨Nat.le_of_ble_eq_true rfl, Nat.le_of_ble_eq_true rfl⟩ dX3_begin_23) (fun H locs hP hS => ?_)
    exact ret_v M hS hP (Option.some.inj hF) dX3_begin_26
def F_X3_put (q0 : Nat) (a1 : Int32) (a2 : Int32) (v : VV) : Option VV :=
  if (v q0 1) = 8 then (gu (gI a1 40) (some (pu v (q0 + 4) ((a1).toNatClampNeg) ((a2 : Int32).toInt8.toInt32)))) else (if (v q0 1) = 16 then (gu (gI a1 40) (some (pu v (q0 + 4) ((a1).toNatClampNeg) ((a2 : Int32).toInt16.toInt32)))) else (gu (gI a1 40) (some (pu v (q0 + 4) ((a1).toNatClampNeg) a2))))
set_option maxHeartbeats 4000000 in
set_option maxRecDepth 100000 in
theorem c_X3_put (l : Launch) (G : GG) (q0 : Nat) (hq0 : kd q0 = 3) (a1 : Int32) (a2 : Int32) (v : VV) (v' : VV) (hF : F_X3_put q0 a1 a2 v = some v') : Met l yX3_put (cdW yX3_put cX3_put 3 none) ({ frames := 0, cells := 0, slots := 0, locals := 0 } : Room) (PC G v [.ref (ad G q0), .int a1, .int a2]) (QV G v') 0 0 (gA G) := by
  refine met_in RX3 (by decide) rfl (Nat.le_of_ble_eq_true rfl) ?_
  intro p e s m below meth c M hP ls hl
  have hx := M.1.1
  have hb := M.1.2.1
  have hS : va_S (gA G) s.heap s.heap [] := va_S.rf
  have hl : lv_has ls 3 [(0, .ref (ad G q0)), (1, .int a1), (2, .int a2)] := hl
  unfold F_X3_put at hF
  refine lv_aload_n hx hb dX3_put_0 rfl (lv_at hl 0 rfl) ?_
  refine fg_3_13 M hP hq0 dX3_put_1 ?_
  rcases Decidable.em ((v q0 1) = 8) with c1 | c1
  · replace hF := (if_pos c1).symm.trans hF
    refine lv_lookup (off := 28) (tgt := 32) hx hb dX3_put_4 (by decide) (by rw [c1]; decide) (by decide) ?_
    refine lv_aload_n hx hb dX3_put_32 rfl (lv_at hl 0 rfl) ?_
    refine fg_3_9 M hP hq0 dX3_put_33 ?_
    refine lv_iload_n hx hb dX3_put_36 rfl (lv_at hl 1 rfl) ?_
    refine lv_iload_n hx hb dX3_put_37 rfl (lv_at hl 2 rfl) ?_
    refine lv_i2b hx hb dX3_put_38 rfl ?_
    obtain ⟨g2, hF⟩ := gu_some hF
    refine r_iast (k := (a1).toNatClampNeg) M hS hP (ge_3k (i := q0) hq0) (ge_3l (i := q0) hq0) (in_c g2) rfl dX3_put_39 (fun H locs hP hS => ?_)
    have hP : Wd G (pu v (q0 + 4) ((a1).toNatClampNeg) ((a2 : Int32).toInt8.toInt32)) H := hP
    refine lv_goto (tgt := 61) hx hb dX3_put_40 (by decide) ?_
    exact ret_v M hS hP (Option.some.inj hF) dX3_put_61
  · replace hF := (if_neg c1).symm.trans hF
    rcases Decidable.em ((v q0 1) = 16) with c3 | c3
    · replace hF := (if_pos c3).symm.trans hF
      refine lv_lookup (off := 39) (tgt := 43) hx hb dX3_put_4 (by decide) (by rw [c3]; decide) (by decide) ?_
      refine lv_aload_n hx hb dX3_put_43 rfl (lv_at hl 0 rfl) ?_
      refine fg_3_9 M hP hq0 dX3_put_44 ?_
      refine lv_iload_n hx hb dX3_put_47 rfl (lv_at hl 1 rfl) ?_
      refine lv_iload_n hx hb dX3_put_48 rfl (lv_at hl 2 rfl) ?_
      refine lv_i2s hx hb dX3_put_49 rfl ?_
      obtain ⟨g4, hF⟩ := gu_some hF
      refine r_iast (k := (a1).toNatClampNeg) M hS hP (ge_3k (i := q0) hq0) (ge_3l (i := q0) hq0) (in_c g4) rfl dX3_put_50 (fun H locs hP hS => ?_)
      have hP : Wd G (pu v (q0 + 4) ((a1).toNatClampNeg) ((a2 : Int32).toInt16.toInt32)) H := hP
      refine lv_goto (tgt := 61) hx hb dX3_put_51 (by decide) ?_
      exact ret_v M hS hP (Option.some.inj hF) dX3_put_61
    · replace hF := (if_neg c3).symm.trans hF
      refine lv_lookup (off := 50) (tgt := 54) hx hb dX3_put_4 (by decide) ((lv_osw c1 (by decide)).trans ((lv_osw c3 (by decide)).trans (rfl))) (by decide) ?_
      refine lv_aload_n hx hb dX3_put_54 rfl (lv_at hl 0 rfl) ?_
      refine fg_3_9 M hP hq0 dX3_put_55 ?_
      refine lv_iload_n hx hb dX3_put_58 rfl (lv_at hl 1 rfl) ?_
      refine lv_iload_n hx hb dX3_put_59 rfl (lv_at hl 2 rfl) ?_
      obtain ⟨g5, hF⟩ := gu_some hF
      refine r_iast (k := (a1).toNatClampNeg) M hS hP (ge_3k (i := q0) hq0) (ge_3l (i := q0) hq0) (in_c g5) rfl dX3_put_60 (fun H locs hP hS => ?_)
      have hP : Wd G (pu v (q0 + 4) ((a1).toNatClampNeg) a2) H := hP
      exact ret_v M hS hP (Option.some.inj hF) dX3_put_61
def F_X3_hasRun (q0 : Nat) (a1 : Int32) (a2 : Int32) (v : VV) : Option Bool :=
  if a1 < 0 then (some false) else (if a2 < 0 then (some false) else (if (v q0 2) < a1 then (some false) else (if ((v q0 2) - a1) < a2 then (some false) else (some true))))
set_option maxHeartbeats 4000000 in
set_option maxRecDepth 100000 in
theorem c_X3_hasRun (l : Launch) (G : GG) (q0 : Nat) (hq0 : kd q0 = 3) (a1 : Int32) (a2 : Int32) (v : VV) (r : Bool) (hF : F_X3_hasRun q0 a1 a2 v = some r) : Met l yX3_hasRun (cdW yX3_hasRun cX3_hasRun 3 (some .boolean)) ({ frames := 0, cells := 0, slots := 0, locals := 0 } : Room) (PC G v [.ref (ad G q0), .int a1, .int a2]) (QI G (bI r) v) 0 0 (gA G) := by
  refine met_in RX3 (by decide) rfl (Nat.le_of_ble_eq_true rfl) ?_
  intro p e s m below meth c M hP ls hl
  have hx := M.1.1
  have hb := M.1.2.1
  have hS : va_S (gA G) s.heap s.heap [] := va_S.rf
  have hl : lv_has ls 3 [(0, .ref (ad G q0)), (1, .int a1), (2, .int a2)] := hl
  unfold F_X3_hasRun at hF
  refine lv_iload_n hx hb dX3_hasRun_0 rfl (lv_at hl 1 rfl) ?_
  refine lv_if_lt (tgt := 30) hx hb dX3_hasRun_1 (by decide) (fun c1 => ?_) (fun c1 => ?_)
  · replace hF := (if_pos c1).symm.trans hF
    refine lv_iconst (v := 0) hx hb dX3_hasRun_30 (by decide) ?_
    exact ret_z M hS hP (congrArg (fun z : Bool => (bI z, v)) (Option.some.inj hF)) rfl dX3_hasRun_31
  · replace hF := (if_neg c1).symm.trans hF
    refine lv_iload_n hx hb dX3_hasRun_4 rfl (lv_at hl 2 rfl) ?_
    refine lv_if_lt (tgt := 30) hx hb dX3_hasRun_5 (by decide) (fun c2 => ?_) (fun c2 => ?_)
    · replace hF := (if_pos c2).symm.trans hF
      refine lv_iconst (v := 0) hx hb dX3_hasRun_30 (by decide) ?_
      exact ret_z M hS hP (congrArg (fun z : Bool => (bI z, v)) (Option.some.inj hF)) rfl dX3_hasRun_31
    · replace hF := (if_neg c2).symm.trans hF
      refine lv_iload_n hx hb dX3_hasRun_8 rfl (lv_at hl 1 rfl) ?_
      refine lv_aload_n hx hb dX3_hasRun_9 rfl (lv_at hl 0 rfl) ?_
      refine fg_3_17 M hP hq0 dX3_hasRun_10 ?_
      refine lv_icmp_gt (tgt := 30) hx hb dX3_hasRun_13 (by decide) (fun c3 => ?_) (fun c3 => ?_)
      · replace hF := (if_pos c3).symm.trans hF
        refine lv_iconst (v := 0) hx hb dX3_hasRun_30 (by decide) ?_
        exact ret_z M hS hP (congrArg (fun z : Bool => (bI z, v)) (Option.some.inj hF)) rfl dX3_hasRun_31
      · replace hF := (if_neg c3).symm.trans hF
        refine lv_iload_n hx hb dX3_hasRun_16 rfl (lv_at hl 2 rfl) ?_
        refine lv_aload_n hx hb dX3_hasRun_17 rfl (lv_at hl 0 rfl) ?_
        refine fg_3_17 M hP hq0 dX3_hasRun_18 ?_
        refine lv_iload_n hx hb dX3_hasRun_21 rfl (lv_at hl 1 rfl) ?_
        refine lv_isub hx hb dX3_hasRun_22 ?_
        refine lv_icmp_gt (tgt := 30) hx hb dX3_hasRun_23 (by decide) (fun c4 => ?_) (fun c4 => ?_)
        · replace hF := (if_pos c4).symm.trans hF
          refine lv_iconst (v := 0) hx hb dX3_hasRun_30 (by decide) ?_
          exact ret_z M hS hP (congrArg (fun z : Bool => (bI z, v)) (Option.some.inj hF)) rfl dX3_hasRun_31
        · replace hF := (if_neg c4).symm.trans hF
          refine lv_iconst (v := 1) hx hb dX3_hasRun_26 (by decide) ?_
          refine lv_goto (tgt := 31) hx hb dX3_hasRun_27 (by decide) ?_
          exact ret_z M hS hP (congrArg (fun z : Bool => (bI z, v)) (Option.some.inj hF)) rfl dX3_hasRun_31
def L_X4_append_7 : Nat → Int32 → Int32 → Int32 → VV → Option VV
  | 0, _, _, _, _ => none
  | n + 1, x1, x2, x3, v =>
  if x3 < 0 then (some v) else (gu (gI (v 23 1) 120) (L_X4_append_7 n x1 x2 (x3 + (-8)) (pu (pu v 24 ((v 23 1).toNatClampNeg) (vp_nar .byte ((x1 >>> (x3 &&& 31) : Int32).toInt8.toInt32))) 23 1 (((pu v 24 ((v 23 1).toNatClampNeg) (vp_nar .byte ((x1 >>> (x3 &&& 31) : Int32).toInt8.toInt32))) 23 1) + 1))))
def F_X4_append (a1 : Int32) (a2 : Int32) (v : VV) : Option VV :=
  L_X4_append_7 fu a1 a2 (8 * (a2 - 1)) v
set_option maxHeartbeats 4000000 in
set_option maxRecDepth 100000 in
theorem l_X4_append_7 {p : Program} {l : Launch} {e : Env} {s : State} {m : MethodId} {args : Array Value} {below : List Frame} {meth : Method} {c : Code} {G : GG} (M : Mx G RX4 cX4_append 4 none p s m args meth c) (v' : VV) : ∀ (n : Nat) (x1 : Int32) (x2 : Int32) (x3 : Int32) (v : VV) (H : Heap) (locs : List Loc) (ls : Array Slot), L_X4_append_7 n x1 x2 x3 v = some v' → Wd G v H → va_S (gA G) s.heap H locs → lv_has ls 4 [(0, .ref (ad G 23)), (1, .int x1), (2, .int x2), (3, .int x3)] → W p l e ({ frames := 0, cells := 0, slots := 0, locals := 0 } : Room) s m args below meth c H locs 0 0 (MQ below (QV G v') args s 0 0 (gA G)) (F0 m 7 ls []) := by
  have hx := M.1.1
  have hb := M.1.2.1
  intro n
  induction n with
  | zero =>
    intro x1 x2 x3 v H locs ls hF hP hS hl
    rw [L_X4_append_7] at hF
    cases hF
  | succ n ih =>
    intro x1 x2 x3 v H locs ls hF hP hS hl
    rw [L_X4_append_7] at hF
    refine lv_iload_n hx hb dX4_append_7 rfl (lv_at hl 3 rfl) ?_
    refine lv_if_lt (tgt := 40) hx hb dX4_append_8 (by decide) (fun c1 => ?_) (fun c1 => ?_)
    · replace hF := (if_pos c1).symm.trans hF
      exact ret_v M hS hP (Option.some.inj hF) dX4_append_40
    · replace hF := (if_neg c1).symm.trans hF
      refine lv_aload_n hx hb dX4_append_11 rfl (lv_at hl 0 rfl) ?_
      refine fg_4_11 M hP dX4_append_12 ?_
      refine lv_aload_n hx hb dX4_append_15 rfl (lv_at hl 0 rfl) ?_
      refine fg_4_15 M hP dX4_append_16 ?_
      refine lv_iload_n hx hb dX4_append_19 rfl (lv_at hl 1 rfl) ?_
      refine lv_iload_n hx hb dX4_append_20 rfl (lv_at hl 3 rfl) ?_
      refine lv_ishr hx hb dX4_append_21 ?_
      refine lv_i2b hx hb dX4_append_22 rfl ?_
      obtain ⟨g2, hF⟩ := gu_some hF
      refine r_bast (k := (v 23 1).toNatClampNeg) M hS hP rfl rfl (in_c g2) rfl dX4_append_23 (fun H locs hP hS => ?_)
      have hP : Wd G (pu v 24 ((v 23 1).toNatClampNeg) (vp_nar .byte ((x1 >>> (x3 &&& 31) : Int32).toInt8.toInt32))) H := hP
      refine lv_aload_n hx hb dX4_append_24 rfl (lv_at hl 0 rfl) ?_
      refine lv_dup hx hb dX4_append_25 rfl ?_
      refine fg_4_15 M hP dX4_append_26 ?_
      refine lv_iconst (v := 1) hx hb dX4_append_29 (by decide) ?_
      refine lv_iadd hx hb dX4_append_30 ?_
      refine fp_4_15 M hS hP dX4_append_31 (fun H locs hP hS => ?_)
      have hP : Wd G (pu (pu v 24 ((v 23 1).toNatClampNeg) (vp_nar .byte ((x1 >>> (x3 &&& 31) : Int32).toInt8.toInt32))) 23 1 (((pu v 24 ((v 23 1).toNatClampNeg) (vp_nar .byte ((x1 >>> (x3 &&& 31) : Int32).toInt8.toInt32))) 23 1) + 1)) H := hP
      refine lv_iinc (v := (x3 + (-8))) (lv' := [(3, .int (x3 + (-8))), (0, .ref (ad G 23)), (1, .int x1), (2, .int x2)]) hx hb dX4_append_34 hl (k := 3) rfl (iinc_eq _ (by decide)) (by decide) rfl (fun ls hl => ?_)
      refine lv_goto (tgt := 7) hx hb dX4_append_37 (by decide) ?_
      exact ih x1 x2 (x3 + (-8)) _ _ _ ls hF hP hS (lv_sub hl [1, 2, 3, 0] rfl)
set_option maxHeartbeats 4000000 in
set_option maxRecDepth 100000 in
theorem c_X4_append (l : Launch) (G : GG) (a1 : Int32) (a2 : Int32) (v : VV) (v' : VV) (hF : F_X4_append a1 a2 v = some v') : Met l yX4_append (cdW yX4_append cX4_append 4 none) ({ frames := 0, cells := 0, slots := 0, locals := 0 } : Room) (PC G v [.ref (ad G 23), .int a1, .int a2]) (QV G v') 0 0 (gA G) := by
  refine met_in RX4 (by decide) rfl (Nat.le_of_ble_eq_true rfl) ?_
  intro p e s m below meth c M hP ls hl
  have hx := M.1.1
  have hb := M.1.2.1
  have hS : va_S (gA G) s.heap s.heap [] := va_S.rf
  have hl : lv_has ls 4 [(0, .ref (ad G 23)), (1, .int a1), (2, .int a2)] := hl
  unfold F_X4_append at hF
  refine lv_bipush (v := 8) hx hb dX4_append_0 (by decide) ?_
  refine lv_iload_n hx hb dX4_append_2 rfl (lv_at hl 2 rfl) ?_
  refine lv_iconst (v := 1) hx hb dX4_append_3 (by decide) ?_
  refine lv_isub hx hb dX4_append_4 ?_
  refine lv_imul hx hb dX4_append_5 ?_
  refine lv_istore_n (lv' := [(3, .int (8 * (a2 - 1))), (0, .ref (ad G 23)), (1, .int a1), (2, .int a2)]) hx hb dX4_append_6 rfl hl (by decide) rfl (fun ls hl => ?_)
  exact l_X4_append_7 M _ fu a1 a2 (8 * (a2 - 1)) _ _ _ ls hF hP hS (lv_sub hl [1, 2, 3, 0] rfl)
def L_X4_isAt_28 : Nat → Nat → Int32 → VV → Option Bool
  | 0, _, _, _ => none
  | n + 1, x1, x2, v =>
  Option.bind (F_J0_length_8abf5 x1 v) (fun r6 => (if r6 ≤ x2 then (some true) else (gu (gI ((v 23 3) + x2) 120) (Option.bind (F_J0_charAt_5068e x1 x2 v) (fun r10 => (if (v 24 (((v 23 3) + x2).toNatClampNeg)) = r10 then (L_X4_isAt_28 n x1 (x2 + 1) v) else (some false)))))))
def F_X4_isAt (a1 : Nat) (v : VV) : Option Bool :=
  if (v 23 2) = 1 then (Option.bind (F_J0_length_8abf5 a1 v) (fun r3 => (if ((v 23 4) - (v 23 3)) = r3 then (L_X4_isAt_28 fu a1 0 v) else (some false)))) else (some false)
set_option maxHeartbeats 4000000 in
set_option maxRecDepth 100000 in
theorem l_X4_isAt_28 {p : Program} {l : Launch} {e : Env} {s : State} {m : MethodId} {args : Array Value} {below : List Frame} {meth : Method} {c : Code} {G : GG} (M : Mx G RX4 cX4_isAt 3 (some .boolean) p s m args meth c) (r : Bool) (v : VV) : ∀ (n : Nat) (x1 : Nat) (x2 : Int32) (hx1 : x1 < 15) (H : Heap) (locs : List Loc) (ls : Array Slot), L_X4_isAt_28 n x1 x2 v = some r → Wd G v H → va_S (gA G) s.heap H locs → lv_has ls 3 [(0, .ref (ad G 23)), (1, .ref (sk G x1)), (2, .int x2)] → W p l e ({ frames := 4, cells := 0, slots := 0, locals := 87 } : Room) s m args below meth c H locs 0 0 (MQ below (QI G (bI r) v) args s 0 0 (gA G)) (F0 m 28 ls []) := by
  have hx := M.1.1
  have hb := M.1.2.1
  intro n
  induction n with
  | zero =>
    intro x1 x2 hx1 H locs ls hF hP hS hl
    rw [L_X4_isAt_28] at hF
    cases hF
  | succ n ih =>
    intro x1 x2 hx1 H locs ls hF hP hS hl
    rw [L_X4_isAt_28] at hF
    refine lv_iload_n hx hb dX4_isAt_28 rfl (lv_at hl 2 rfl) ?_
    refine lv_aload_n hx hb dX4_isAt_29 rfl (lv_at hl 1 rfl) ?_
    obtain ⟨r6, h5, hF⟩ := bi_some hF
    refine k_i hS (kV_run M hS hP ok_X4_116 (c_J0_length_8abf5 l G x1 hx1 v r6 h5) (rc_S M hS hx1) rfl hl.1 rfl (Nat.le_of_ble_eq_true rfl) ⟨rfl, rfl⟩ ⟨Nat.le_of_ble_eq_true rfl, Nat.le_of_ble_eq_true rfl⟩ dX4_isAt_30) (fun H locs hP hS => ?_)
    refine lv_icmp_ge (tgt := 63) hx hb dX4_isAt_33 (by decide) (fun c7 => ?_) (fun c7 => ?_)
    · replace hF := (if_pos c7).symm.trans hF
      refine lv_iconst (v := 1) hx hb dX4_isAt_63 (by decide) ?_
      exact ret_z M hS hP (congrArg (fun z : Bool => (bI z, v)) (Option.some.inj hF)) rfl dX4_isAt_64
    · replace hF := (if_neg c7).symm.trans hF
      refine lv_aload_n hx hb dX4_isAt_36 rfl (lv_at hl 0 rfl) ?_
      refine fg_4_11 M hP dX4_isAt_37 ?_
      refine lv_aload_n hx hb dX4_isAt_40 rfl (lv_at hl 0 rfl) ?_
      refine fg_4_22 M hP dX4_isAt_41 ?_
      refine lv_iload_n hx hb dX4_isAt_44 rfl (lv_at hl 2 rfl) ?_
      refine lv_iadd hx hb dX4_isAt_45 ?_
      obtain ⟨g8, hF⟩ := gu_some hF
      refine r_bald (k := ((v 23 3) + x2).toNatClampNeg) M hP rfl rfl (in_c g8) rfl dX4_isAt_46 ?_
      refine lv_aload_n hx hb dX4_isAt_47 rfl (lv_at hl 1 rfl) ?_
      refine lv_iload_n hx hb dX4_isAt_48 rfl (lv_at hl 2 rfl) ?_
      obtain ⟨r10, h9, hF⟩ := bi_some hF
      refine k_i hS (kV_run M hS hP ok_X4_122 (c_J0_charAt_5068e l G x1 hx1 x2 v r10 h9) (rc_S M hS hx1) rfl hl.1 rfl (Nat.le_of_ble_eq_true rfl) ⟨rfl, rfl⟩ ⟨Nat.le_of_ble_eq_true rfl, Nat.le_of_ble_eq_true rfl⟩ dX4_isAt_49) (fun H locs hP hS => ?_)
      refine lv_icmp_eq (tgt := 57) hx hb dX4_isAt_52 (by decide) (fun c11 => ?_) (fun c11 => ?_)
      · replace hF := (if_pos c11).symm.trans hF
        refine lv_iinc (v := (x2 + 1)) (lv' := [(2, .int (x2 + 1)), (0, .ref (ad G 23)), (1, .ref (sk G x1))]) hx hb dX4_isAt_57 hl (k := 2) rfl (iinc_eq _ (by decide)) (by decide) rfl (fun ls hl => ?_)
        refine lv_goto (tgt := 28) hx hb dX4_isAt_60 (by decide) ?_
        exact ih x1 (x2 + 1) hx1 _ _ ls hF hP hS (lv_sub hl [1, 2, 0] rfl)
      · replace hF := (if_neg c11).symm.trans hF
        refine lv_iconst (v := 0) hx hb dX4_isAt_55 (by decide) ?_
        exact ret_z M hS hP (congrArg (fun z : Bool => (bI z, v)) (Option.some.inj hF)) rfl dX4_isAt_56
set_option maxHeartbeats 4000000 in
set_option maxRecDepth 100000 in
theorem c_X4_isAt (l : Launch) (G : GG) (a1 : Nat) (ha1 : a1 < 15) (v : VV) (r : Bool) (hF : F_X4_isAt a1 v = some r) : Met l yX4_isAt (cdW yX4_isAt cX4_isAt 3 (some .boolean)) ({ frames := 4, cells := 0, slots := 0, locals := 87 } : Room) (PC G v [.ref (ad G 23), .ref (sk G a1)]) (QI G (bI r) v) 0 0 (gA G) := by
  refine met_in RX4 (by decide) rfl (Nat.le_of_ble_eq_true rfl) ?_
  intro p e s m below meth c M hP ls hl
  have hx := M.1.1
  have hb := M.1.2.1
  have hS : va_S (gA G) s.heap s.heap [] := va_S.rf
  have hl : lv_has ls 3 [(0, .ref (ad G 23)), (1, .ref (sk G a1))] := hl
  unfold F_X4_isAt at hF
  refine lv_aload_n hx hb dX4_isAt_0 rfl (lv_at hl 0 rfl) ?_
  refine fg_4_19 M hP dX4_isAt_1 ?_
  refine lv_iconst (v := 1) hx hb dX4_isAt_4 (by decide) ?_
  refine lv_icmp_ne (tgt := 24) hx hb dX4_isAt_5 (by decide) (fun c1 => ?_) (fun c1 => ?_)
  · replace hF := (if_neg c1).symm.trans hF
    refine lv_iconst (v := 0) hx hb dX4_isAt_24 (by decide) ?_
    exact ret_z M hS hP (congrArg (fun z : Bool => (bI z, v)) (Option.some.inj hF)) rfl dX4_isAt_25
  · replace hF := (if_pos c1).symm.trans hF
    refine lv_aload_n hx hb dX4_isAt_8 rfl (lv_at hl 0 rfl) ?_
    refine fg_4_25 M hP dX4_isAt_9 ?_
    refine lv_aload_n hx hb dX4_isAt_12 rfl (lv_at hl 0 rfl) ?_
    refine fg_4_22 M hP dX4_isAt_13 ?_
    refine lv_isub hx hb dX4_isAt_16 ?_
    refine lv_aload_n hx hb dX4_isAt_17 rfl (lv_at hl 1 rfl) ?_
    obtain ⟨r3, h2, hF⟩ := bi_some hF
    refine k_i hS (kV_run M hS hP ok_X4_116 (c_J0_length_8abf5 l G a1 ha1 v r3 h2) (rc_S M hS ha1) rfl hl.1 rfl (Nat.le_of_ble_eq_true rfl) ⟨rfl, rfl⟩ ⟨Nat.le_of_ble_eq_true rfl, Nat.le_of_ble_eq_true rfl⟩ dX4_isAt_18) (fun H locs hP hS => ?_)
    refine lv_icmp_eq (tgt := 26) hx hb dX4_isAt_21 (by decide) (fun c4 => ?_) (fun c4 => ?_)
    · replace hF := (if_pos c4).symm.trans hF
      refine lv_iconst (v := 0) hx hb dX4_isAt_26 (by decide) ?_
      refine lv_istore_n (lv' := [(2, .int 0), (0, .ref (ad G 23)), (1, .ref (sk G a1))]) hx hb dX4_isAt_27 rfl hl (by decide) rfl (fun ls hl => ?_)
      exact l_X4_isAt_28 M _ _ fu a1 0 ha1 _ _ ls hF hP hS (lv_sub hl [1, 2, 0] rfl)
    · replace hF := (if_neg c4).symm.trans hF
      refine lv_iconst (v := 0) hx hb dX4_isAt_24 (by decide) ?_
      exact ret_z M hS hP (congrArg (fun z : Bool => (bI z, v)) (Option.some.inj hF)) rfl dX4_isAt_25
def F_X4_numberUpTo (a1 : Int32) (v : VV) : Option Int32 :=
  if (v 23 2) = 2 then (if a1 < (v 23 5) then (some (-1)) else (some (v 23 5))) else (some (-1))
set_option maxHeartbeats 4000000 in
set_option maxRecDepth 100000 in
theorem c_X4_numberUpTo (l : Launch) (G : GG) (a1 : Int32) (v : VV) (r : Int32) (hF : F_X4_numberUpTo a1 v = some r) : Met l yX4_numberUpTo (cdW yX4_numberUpTo cX4_numberUpTo 2 (some .int)) ({ frames := 0, cells := 0, slots := 0, locals := 0 } : Room) (PC G v [.ref (ad G 23), .int a1]) (QI G r v) 0 0 (gA G) := by
  refine met_in RX4 (by decide) rfl (Nat.le_of_ble_eq_true rfl) ?_
  intro p e s m below meth c M hP ls hl
  have hx := M.1.1
  have hb := M.1.2.1
  have hS : va_S (gA G) s.heap s.heap [] := va_S.rf
  have hl : lv_has ls 2 [(0, .ref (ad G 23)), (1, .int a1)] := hl
  unfold F_X4_numberUpTo at hF
  refine lv_aload_n hx hb dX4_numberUpTo_0 rfl (lv_at hl 0 rfl) ?_
  refine fg_4_19 M hP dX4_numberUpTo_1 ?_
  refine lv_iconst (v := 2) hx hb dX4_numberUpTo_4 (by decide) ?_
  refine lv_icmp_ne (tgt := 23) hx hb dX4_numberUpTo_5 (by decide) (fun c1 => ?_) (fun c1 => ?_)
  · replace hF := (if_neg c1).symm.trans hF
    refine lv_iconst (v := (-1)) hx hb dX4_numberUpTo_23 (by decide) ?_
    exact ret_i M hS hP (congrArg (fun z => (z, v)) (Option.some.inj hF)) dX4_numberUpTo_24
  · replace hF := (if_pos c1).symm.trans hF
    refine lv_aload_n hx hb dX4_numberUpTo_8 rfl (lv_at hl 0 rfl) ?_
    refine fg_4_28 M hP dX4_numberUpTo_9 ?_
    refine lv_iload_n hx hb dX4_numberUpTo_12 rfl (lv_at hl 1 rfl) ?_
    refine lv_icmp_gt (tgt := 23) hx hb dX4_numberUpTo_13 (by decide) (fun c2 => ?_) (fun c2 => ?_)
    · replace hF := (if_pos c2).symm.trans hF
      refine lv_iconst (v := (-1)) hx hb dX4_numberUpTo_23 (by decide) ?_
      exact ret_i M hS hP (congrArg (fun z => (z, v)) (Option.some.inj hF)) dX4_numberUpTo_24
    · replace hF := (if_neg c2).symm.trans hF
      refine lv_aload_n hx hb dX4_numberUpTo_16 rfl (lv_at hl 0 rfl) ?_
      refine fg_4_28 M hP dX4_numberUpTo_17 ?_
      refine lv_goto (tgt := 24) hx hb dX4_numberUpTo_20 (by decide) ?_
      exact ret_i M hS hP (congrArg (fun z => (z, v)) (Option.some.inj hF)) dX4_numberUpTo_24
def F_X4_isDigit (a0 : Int32) (v : VV) : Option Bool :=
  if a0 < 48 then (some false) else (if 57 < a0 then (some false) else (some true))
set_option maxHeartbeats 4000000 in
set_option maxRecDepth 100000 in
theorem c_X4_isDigit (l : Launch) (G : GG) (a0 : Int32) (v : VV) (r : Bool) (hF : F_X4_isDigit a0 v = some r) : Met l yX4_isDigit (cdW yX4_isDigit cX4_isDigit 1 (some .boolean)) ({ frames := 0, cells := 0, slots := 0, locals := 0 } : Room) (PC G v [.int a0]) (QI G (bI r) v) 0 0 (gA G) := by
  refine met_in RX4 (by decide) rfl (Nat.le_of_ble_eq_true rfl) ?_
  intro p e s m below meth c M hP ls hl
  have hx := M.1.1
  have hb := M.1.2.1
  have hS : va_S (gA G) s.heap s.heap [] := va_S.rf
  have hl : lv_has ls 1 [(0, .int a0)] := hl
  unfold F_X4_isDigit at hF
  refine lv_iload_n hx hb dX4_isDigit_0 rfl (lv_at hl 0 rfl) ?_
  refine lv_bipush (v := 48) hx hb dX4_isDigit_1 (by decide) ?_
  refine lv_icmp_lt (tgt := 16) hx hb dX4_isDigit_3 (by decide) (fun c1 => ?_) (fun c1 => ?_)
  · replace hF := (if_pos c1).symm.trans hF
    refine lv_iconst (v := 0) hx hb dX4_isDigit_16 (by decide) ?_
    exact ret_z M hS hP (congrArg (fun z : Bool => (bI z, v)) (Option.some.inj hF)) rfl dX4_isDigit_17
  · replace hF := (if_neg c1).symm.trans hF
    refine lv_iload_n hx hb dX4_isDigit_6 rfl (lv_at hl 0 rfl) ?_
    refine lv_bipush (v := 57) hx hb dX4_isDigit_7 (by decide) ?_
    refine lv_icmp_gt (tgt := 16) hx hb dX4_isDigit_9 (by decide) (fun c2 => ?_) (fun c2 => ?_)
    · replace hF := (if_pos c2).symm.trans hF
      refine lv_iconst (v := 0) hx hb dX4_isDigit_16 (by decide) ?_
      exact ret_z M hS hP (congrArg (fun z : Bool => (bI z, v)) (Option.some.inj hF)) rfl dX4_isDigit_17
    · replace hF := (if_neg c2).symm.trans hF
      refine lv_iconst (v := 1) hx hb dX4_isDigit_12 (by decide) ?_
      refine lv_goto (tgt := 17) hx hb dX4_isDigit_13 (by decide) ?_
      exact ret_z M hS hP (congrArg (fun z : Bool => (bI z, v)) (Option.some.inj hF)) rfl dX4_isDigit_17
def F_X4_isLetter (a0 : Int32) (v : VV) : Option Bool :=
  if a0 < 97 then (some false) else (if 122 < a0 then (some false) else (some true))
set_option maxHeartbeats 4000000 in
set_option maxRecDepth 100000 in
theorem c_X4_isLetter (l : Launch) (G : GG) (a0 : Int32) (v : VV) (r : Bool) (hF : F_X4_isLetter a0 v = some r) : Met l yX4_isLetter (cdW yX4_isLetter cX4_isLetter 1 (some .boolean)) ({ frames := 0, cells := 0, slots := 0, locals := 0 } : Room) (PC G v [.int a0]) (QI G (bI r) v) 0 0 (gA G) := by
  refine met_in RX4 (by decide) rfl (Nat.le_of_ble_eq_true rfl) ?_
  intro p e s m below meth c M hP ls hl
  have hx := M.1.1
  have hb := M.1.2.1
  have hS : va_S (gA G) s.heap s.heap [] := va_S.rf
  have hl : lv_has ls 1 [(0, .int a0)] := hl
  unfold F_X4_isLetter at hF
  refine lv_iload_n hx hb dX4_isLetter_0 rfl (lv_at hl 0 rfl) ?_
  refine lv_bipush (v := 97) hx hb dX4_isLetter_1 (by decide) ?_
  refine lv_icmp_lt (tgt := 16) hx hb dX4_isLetter_3 (by decide) (fun c1 => ?_) (fun c1 => ?_)
  · replace hF := (if_pos c1).symm.trans hF
    refine lv_iconst (v := 0) hx hb dX4_isLetter_16 (by decide) ?_
    exact ret_z M hS hP (congrArg (fun z : Bool => (bI z, v)) (Option.some.inj hF)) rfl dX4_isLetter_17
  · replace hF := (if_neg c1).symm.trans hF
    refine lv_iload_n hx hb dX4_isLetter_6 rfl (lv_at hl 0 rfl) ?_
    refine lv_bipush (v := 122) hx hb dX4_isLetter_7 (by decide) ?_
    refine lv_icmp_gt (tgt := 16) hx hb dX4_isLetter_9 (by decide) (fun c2 => ?_) (fun c2 => ?_)
    · replace hF := (if_pos c2).symm.trans hF
      refine lv_iconst (v := 0) hx hb dX4_isLetter_16 (by decide) ?_
      exact ret_z M hS hP (congrArg (fun z : Bool => (bI z, v)) (Option.some.inj hF)) rfl dX4_isLetter_17
    · replace hF := (if_neg c2).symm.trans hF
      refine lv_iconst (v := 1) hx hb dX4_isLetter_12 (by decide) ?_
      refine lv_goto (tgt := 17) hx hb dX4_isLetter_13 (by decide) ?_
      exact ret_z M hS hP (congrArg (fun z : Bool => (bI z, v)) (Option.some.inj hF)) rfl dX4_isLetter_17
def L_X4_step_157 : Nat → VV → Option VV
  | 0, _ => none
  | n + 1, v =>
  if (v 23 1) ≤ (v 23 4) then (some v) else (gu (gI (v 23 4) 120) (Option.bind (F_X4_isDigit (v 24 ((v 23 4).toNatClampNeg)) v) (fun r16 => (if r16 = true then (gu (gI (v 23 4) 120) (L_X4_step_157 n (pu (pu v 23 5 (if (((10 * (v 23 5)) + (v 24 ((v 23 4).toNatClampNeg))) - 48) < 10000 then (((10 * (v 23 5)) + (v 24 ((v 23 4).toNatClampNeg))) - 48) else 10000 : Int32)) 23 4 (((pu v 23 5 (if (((10 * (v 23 5)) + (v 24 ((v 23 4).toNatClampNeg))) - 48) < 10000 then (((10 * (v 23 5)) + (v 24 ((v 23 4).toNatClampNeg))) - 48) else 10000 : Int32)) 23 4) + 1)))) else (some v)))))
def L_X4_step_93 : Nat → VV → Option VV
  | 0, _ => none
  | n + 1, v =>
  if (v 23 1) ≤ (v 23 4) then (some v) else (gu (gI (v 23 4) 120) (Option.bind (F_X4_isLetter (v 24 ((v 23 4).toNatClampNeg)) v) (fun r22 => (if r22 = true then (L_X4_step_93 n (pu v 23 4 ((v 23 4) + 1))) else (some v)))))
def L_X4_step_8 : Nat → VV → Option VV
  | 0, _ => none
  | n + 1, v =>
  if (v 23 1) ≤ (v 23 3) then (if ((pu v 23 4 (v 23 3)) 23 3) < ((pu v 23 4 (v 23 3)) 23 1) then (gu (gI ((pu v 23 4 (v 23 3)) 23 3) 120) (Option.bind (F_X4_isLetter ((pu v 23 4 (v 23 3)) 24 (((pu v 23 4 (v 23 3)) 23 3).toNatClampNeg)) (pu v 23 4 (v 23 3))) (fun r5 => (if r5 = true then (L_X4_step_93 fu (pu (pu v 23 4 (v 23 3)) 23 2 1)) else (gu (gI ((pu v 23 4 (v 23 3)) 23 3) 120) (Option.bind (F_X4_isDigit ((pu v 23 4 (v 23 3)) 24 (((pu v 23 4 (v 23 3)) 23 3).toNatClampNeg)) (pu v 23 4 (v 23 3))) (fun r9 => (if r9 = true then (L_X4_step_157 fu (pu (pu (pu v 23 4 (v 23 3)) 23 2 2) 23 5 0)) else (gu (gI ((pu v 23 4 (v 23 3)) 23 3) 120) ((if ((pu v 23 4 (v 23 3)) 24 (((pu v 23 4 (v 23 3)) 23 3).toNatClampNeg)) = 59 then (some (pu (pu (pu v 23 4 (v 23 3)) 23 2 3) 23 4 (((pu (pu v 23 4 (v 23 3)) 23 2 3) 23 4) + 1))) else (some (pu (pu (pu v 23 4 (v 23 3)) 23 2 4) 23 4 (((pu (pu v 23 4 (v 23 3)) 23 2 4) 23 4) + 1)))))))))))))) else (some (pu (pu v 23 4 (v 23 3)) 23 2 0))) else (gu (gI (v 23 3) 120) ((if (v 24 ((v 23 3).toNatClampNeg)) = 32 then (L_X4_step_8 n (pu v 23 3 ((v 23 3) + 1))) else (if ((pu v 23 4 (v 23 3)) 23 3) < ((pu v 23 4 (v 23 3)) 23 1) then (gu (gI ((pu v 23 4 (v 23 3)) 23 3) 120) (Option.bind (F_X4_isLetter ((pu v 23 4 (v 23 3)) 24 (((pu v 23 4 (v 23 3)) 23 3).toNatClampNeg)) (pu v 23 4 (v 23 3))) (fun r29 => (if r29 = true then (L_X4_step_93 fu (pu (pu v 23 4 (v 23 3)) 23 2 1)) else (gu (gI ((pu v 23 4 (v 23 3)) 23 3) 120) (Option.bind (F_X4_isDigit ((pu v 23 4 (v 23 3)) 24 (((pu v 23 4 (v 23 3)) 23 3).toNatClampNeg)) (pu v 23 4 (v 23 3))) (fun r33 => (if r33 = true then (L_X4_step_157 fu (pu (pu (pu v 23 4 (v 23 3)) 23 2 2) 23 5 0)) else (gu (gI ((pu v 23 4 (v 23 3)) 23 3) 120) ((if ((pu v 23 4 (v 23 3)) 24 (((pu v 23 4 (v 23 3)) 23 3).toNatClampNeg)) = 59 then (some (pu (pu (pu v 23 4 (v 23 3)) 23 2 3) 23 4 (((pu (pu v 23 4 (v 23 3)) 23 2 3) 23 4) + 1))) else (some (pu (pu (pu v 23 4 (v 23 3)) 23 2 4) 23 4 (((pu (pu v 23 4 (v 23 3)) 23 2 4) 23 4) + 1)))))))))))))) else (some (pu (pu v 23 4 (v 23 3)) 23 2 0))))))
def F_X4_step (v : VV) : Option VV :=
  L_X4_step_8 fu (pu v 23 3 (v 23 4))
set_option maxHeartbeats 4000000 in
set_option maxRecDepth 100000 in
theorem l_X4_step_157 {p : Program} {l : Launch} {e : Env} {s : State} {m : MethodId} {args : Array Value} {below : List Frame} {meth : Method} {c : Code} {G : GG} (M : Mx G RX4 cX4_step 1 none p s m args meth c) (v' : VV) : ∀ (n : Nat) (v : VV) (H : Heap) (locs : List Loc) (ls : Array Slot), L_X4_step_157 n v = some v' → Wd G v H → va_S (gA G) s.heap H locs → lv_has ls 1 [(0, .ref (ad G 23))] → W p l e ({ frames := 1, cells := 0, slots := 0, locals := 21 } : Room) s m args below meth c H locs 0 0 (MQ below (QV G v') args s 0 0 (gA G)) (F0 m 157 ls []) := by
  have hx := M.1.1
  have hb := M.1.2.1
  intro n
  induction n with
  | zero =>
    intro v H locs ls hF hP hS hl
    rw [L_X4_step_157] at hF
    cases hF
  | succ n ih =>
    intro v H locs ls hF hP hS hl
    rw [L_X4_step_157] at hF
    refine lv_aload_n hx hb dX4_step_157 rfl (lv_at hl 0 rfl) ?_
    refine fg_4_25 M hP dX4_step_158 ?_
    refine lv_aload_n hx hb dX4_step_161 rfl (lv_at hl 0 rfl) ?_
    refine fg_4_15 M hP dX4_step_162 ?_
    refine lv_icmp_ge (tgt := 259) hx hb dX4_step_165 (by decide) (fun c13 => ?_) (fun c13 => ?_)
    · replace hF := (if_pos c13).symm.trans hF
      exact ret_v M hS hP (Option.some.inj hF) dX4_step_259
    · replace hF := (if_neg c13).symm.trans hF
      refine lv_aload_n hx hb dX4_step_168 rfl (lv_at hl 0 rfl) ?_
      refine fg_4_11 M hP dX4_step_169 ?_
      refine lv_aload_n hx hb dX4_step_172 rfl (lv_at hl 0 rfl) ?_
      refine fg_4_25 M hP dX4_step_173 ?_
      obtain ⟨g14, hF⟩ := gu_some hF
      refine r_bald (k := (v 23 4).toNatClampNeg) M hP rfl rfl (in_c g14) rfl dX4_step_176 ?_
      obtain ⟨r16, h15, hF⟩ := bi_some hF
      refine k_i hS (kS_run M hS hP ok_X4_130 (c_X4_isDigit l G (v 24 ((v 23 4).toNatClampNeg)) v r16 h15) rfl hl.1 rfl (Nat.le_of_ble_eq_true rfl) ⟨rfl, rfl⟩ ⟨Nat.le_of_ble_eq_true rfl, Nat.le_of_ble_eq_true rfl⟩ dX4_step_177) (fun H locs hP hS => ?_)
      refine lv_if_eq (tgt := 259) hx hb dX4_step_180 (by decide) (fun c17 => ?_) (fun c17 => ?_)
      · replace hF := (if_neg (bI_f c17)).symm.trans hF
        exact ret_v M hS hP (Option.some.inj hF) dX4_step_259
      · replace hF := (if_pos (bI_t c17)).symm.trans hF
        refine lv_aload_n hx hb dX4_step_183 rfl (lv_at hl 0 rfl) ?_
        refine lv_sipush (v := 10000) hx hb dX4_step_184 (by decide) ?_
        refine lv_bipush (v := 10) hx hb dX4_step_187 (by decide) ?_
        refine lv_aload_n hx hb dX4_step_189 rfl (lv_at hl 0 rfl) ?_
        refine fg_4_28 M hP dX4_step_190 ?_
        refine lv_imul hx hb dX4_step_193 ?_
        refine lv_aload_n hx hb dX4_step_194 rfl (lv_at hl 0 rfl) ?_
        refine fg_4_11 M hP dX4_step_195 ?_
        refine lv_aload_n hx hb dX4_step_198 rfl (lv_at hl 0 rfl) ?_
        refine fg_4_25 M hP dX4_step_199 ?_
        obtain ⟨g18, hF⟩ := gu_some hF
        refine r_bald (k := (v 23 4).toNatClampNeg) M hP rfl rfl (in_c g18) rfl dX4_step_202 ?_
        refine lv_iadd hx hb dX4_step_203 ?_
        refine lv_bipush (v := 48) hx hb dX4_step_204 (by decide) ?_
        refine lv_isub hx hb dX4_step_206 ?_
        refine mmin_4_133 M hl.1 (Nat.le_of_ble_eq_true rfl) (Nat.le_of_ble_eq_true rfl) dX4_step_207 ?_
        refine fp_4_28 M hS hP dX4_step_210 (fun H locs hP hS => ?_)
        have hP : Wd G (pu v 23 5 (if (((10 * (v 23 5)) + (v 24 ((v 23 4).toNatClampNeg))) - 48) < 10000 then (((10 * (v 23 5)) + (v 24 ((v 23 4).toNatClampNeg))) - 48) else 10000 : Int32)) H := hP
        refine lv_aload_n hx hb dX4_step_213 rfl (lv_at hl 0 rfl) ?_
        refine lv_dup hx hb dX4_step_214 rfl ?_
        refine fg_4_25 M hP dX4_step_215 ?_
        refine lv_iconst (v := 1) hx hb dX4_step_218 (by decide) ?_
        refine lv_iadd hx hb dX4_step_219 ?_
        refine fp_4_25 M hS hP dX4_step_220 (fun H locs hP hS => ?_)
        have hP : Wd G (pu (pu v 23 5 (if (((10 * (v 23 5)) + (v 24 ((v 23 4).toNatClampNeg))) - 48) < 10000 then (((10 * (v 23 5)) + (v 24 ((v 23 4).toNatClampNeg))) - 48) else 10000 : Int32)) 23 4 (((pu v 23 5 (if (((10 * (v 23 5)) + (v 24 ((v 23 4).toNatClampNeg))) - 48) < 10000 then (((10 * (v 23 5)) + (v 24 ((v 23 4).toNatClampNeg))) - 48) else 10000 : Int32)) 23 4) + 1)) H := hP
        refine lv_goto (tgt := 157) hx hb dX4_step_223 (by decide) ?_
        exact ih _ _ _ ls hF hP hS (lv_sub hl [0] rfl)
set_option maxHeartbeats 4000000 in
set_option maxRecDepth 100000 in
theorem l_X4_step_93 {p : Program} {l : Launch} {e : Env} {s : State} {m : MethodId} {args : Array Value} {below : List Frame} {meth : Method} {c : Code} {G : GG} (M : Mx G RX4 cX4_step 1 none p s m args meth c) (v' : VV) : ∀ (n : Nat) (v : VV) (H : Heap) (locs : List Loc) (ls : Array Slot), L_X4_step_93 n v = some v' → Wd G v H → va_S (gA G) s.heap H locs → lv_has ls 1 [(0, .ref (ad G 23))] → W p l e ({ frames := 1, cells := 0, slots := 0, locals := 21 } : Room) s m args below meth c H locs 0 0 (MQ below (QV G v') args s 0 0 (gA G)) (F0 m 93 ls []) := by
  have hx := M.1.1
  have hb := M.1.2.1
  intro n
  induction n with
  | zero =>
    intro v H locs ls hF hP hS hl
    rw [L_X4_step_93] at hF
    cases hF
  | succ n ih =>
    intro v H locs ls hF hP hS hl
    rw [L_X4_step_93] at hF
    refine lv_aload_n hx hb dX4_step_93 rfl (lv_at hl 0 rfl) ?_
    refine fg_4_25 M hP dX4_step_94 ?_
    refine lv_aload_n hx hb dX4_step_97 rfl (lv_at hl 0 rfl) ?_
    refine fg_4_15 M hP dX4_step_98 ?_
    refine lv_icmp_ge (tgt := 259) hx hb dX4_step_101 (by decide) (fun c19 => ?_) (fun c19 => ?_)
    · replace hF := (if_pos c19).symm.trans hF
      exact ret_v M hS hP (Option.some.inj hF) dX4_step_259
    · replace hF := (if_neg c19).symm.trans hF
      refine lv_aload_n hx hb dX4_step_104 rfl (lv_at hl 0 rfl) ?_
      refine fg_4_11 M hP dX4_step_105 ?_
      refine lv_aload_n hx hb dX4_step_108 rfl (lv_at hl 0 rfl) ?_
      refine fg_4_25 M hP dX4_step_109 ?_
      obtain ⟨g20, hF⟩ := gu_some hF
      refine r_bald (k := (v 23 4).toNatClampNeg) M hP rfl rfl (in_c g20) rfl dX4_step_112 ?_
      obtain ⟨r22, h21, hF⟩ := bi_some hF
      refine k_i hS (kS_run M hS hP ok_X4_126 (c_X4_isLetter l G (v 24 ((v 23 4).toNatClampNeg)) v r22 h21) rfl hl.1 rfl (Nat.le_of_ble_eq_true rfl) ⟨rfl, rfl⟩ ⟨Nat.le_of_ble_eq_true rfl, Nat.le_of_ble_eq_true rfl⟩ dX4_step_113) (fun H locs hP hS => ?_)
      refine lv_if_eq (tgt := 259) hx hb dX4_step_116 (by decide) (fun c23 => ?_) (fun c23 => ?_)
      · replace hF := (if_neg (bI_f c23)).symm.trans hF
        exact ret_v M hS hP (Option.some.inj hF) dX4_step_259
      · replace hF := (if_pos (bI_t c23)).symm.trans hF
        refine lv_aload_n hx hb dX4_step_119 rfl (lv_at hl 0 rfl) ?_
        refine lv_dup hx hb dX4_step_120 rfl ?_
        refine fg_4_25 M hP dX4_step_121 ?_
        refine lv_iconst (v := 1) hx hb dX4_step_124 (by decide) ?_
        refine lv_iadd hx hb dX4_step_125 ?_
        refine fp_4_25 M hS hP dX4_step_126 (fun H locs hP hS => ?_)
        have hP : Wd G (pu v 23 4 ((v 23 4) + 1)) H := hP
        refine lv_goto (tgt := 93) hx hb dX4_step_129 (by decide) ?_
        exact ih _ _ _ ls hF hP hS (lv_sub hl [0] rfl)
set_option maxHeartbeats 4000000 in
set_option maxRecDepth 100000 in
theorem l_X4_step_8 {p : Program} {l : Launch} {e : Env} {s : State} {m : MethodId} {args : Array Value} {below : List Frame} {meth : Method} {c : Code} {G : GG} (M : Mx G RX4 cX4_step 1 none p s m args meth c) (v' : VV) : ∀ (n : Nat) (v : VV) (H : Heap) (locs : List Loc) (ls : Array Slot), L_X4_step_8 n v = some v' → Wd G v H → va_S (gA G) s.heap H locs → lv_has ls 1 [(0, .ref (ad G 23))] → W p l e ({ frames := 1, cells := 0, slots := 0, locals := 21 } : Room) s m args below meth c H locs 0 0 (MQ below (QV G v') args s 0 0 (gA G)) (F0 m 8 ls []) := by
  have hx := M.1.1
  have hb := M.1.2.1
  intro n
  induction n with
  | zero =>
    intro v H locs ls hF hP hS hl
    rw [L_X4_step_8] at hF
    cases hF
  | succ n ih =>
    intro v H locs ls hF hP hS hl
    rw [L_X4_step_8] at hF
    refine lv_aload_n hx hb dX4_step_8 rfl (lv_at hl 0 rfl) ?_
    refine fg_4_22 M hP dX4_step_9 ?_
    refine lv_aload_n hx hb dX4_step_12 rfl (lv_at hl 0 rfl) ?_
    refine fg_4_15 M hP dX4_step_13 ?_
    refine lv_icmp_ge (tgt := 46) hx hb dX4_step_16 (by decide) (fun c1 => ?_) (fun c1 => ?_)
    · replace hF := (if_pos c1).symm.trans hF
      refine lv_aload_n hx hb dX4_step_46 rfl (lv_at hl 0 rfl) ?_
      refine lv_aload_n hx hb dX4_step_47 rfl (lv_at hl 0 rfl) ?_
      refine fg_4_22 M hP dX4_step_48 ?_
      refine fp_4_25 M hS hP dX4_step_51 (fun H locs hP hS => ?_)
      have hP : Wd G (pu v 23 4 (v 23 3)) H := hP
      refine lv_aload_n hx hb dX4_step_54 rfl (lv_at hl 0 rfl) ?_
      refine fg_4_22 M hP dX4_step_55 ?_
      refine lv_aload_n hx hb dX4_step_58 rfl (lv_at hl 0 rfl) ?_
      refine fg_4_15 M hP dX4_step_59 ?_
      refine lv_icmp_lt (tgt := 73) hx hb dX4_step_62 (by decide) (fun c2 => ?_) (fun c2 => ?_)
      · replace hF := (if_pos c2).symm.trans hF
        refine lv_aload_n hx hb dX4_step_73 rfl (lv_at hl 0 rfl) ?_
        refine fg_4_11 M hP dX4_step_74 ?_
        refine lv_aload_n hx hb dX4_step_77 rfl (lv_at hl 0 rfl) ?_
        refine fg_4_22 M hP dX4_step_78 ?_
        obtain ⟨g3, hF⟩ := gu_some hF
        refine r_bald (k := ((pu v 23 4 (v 23 3)) 23 3).toNatClampNeg) M hP rfl rfl (in_c g3) rfl dX4_step_81 ?_
        obtain ⟨r5, h4, hF⟩ := bi_some hF
        refine k_i hS (kS_run M hS hP ok_X4_126 (c_X4_isLetter l G ((pu v 23 4 (v 23 3)) 24 (((pu v 23 4 (v 23 3)) 23 3).toNatClampNeg)) (pu v 23 4 (v 23 3)) r5 h4) rfl hl.1 rfl (Nat.le_of_ble_eq_true rfl) ⟨rfl, rfl⟩ ⟨Nat.le_of_ble_eq_true rfl, Nat.le_of_ble_eq_true rfl⟩ dX4_step_82) (fun H locs hP hS => ?_)
        refine lv_if_eq (tgt := 132) hx hb dX4_step_85 (by decide) (fun c6 => ?_) (fun c6 => ?_)
        · replace hF := (if_neg (bI_f c6)).symm.trans hF
          refine lv_aload_n hx hb dX4_step_132 rfl (lv_at hl 0 rfl) ?_
          refine fg_4_11 M hP dX4_step_133 ?_
          refine lv_aload_n hx hb dX4_step_136 rfl (lv_at hl 0 rfl) ?_
          refine fg_4_22 M hP dX4_step_137 ?_
          obtain ⟨g7, hF⟩ := gu_some hF
          refine r_bald (k := ((pu v 23 4 (v 23 3)) 23 3).toNatClampNeg) M hP rfl rfl (in_c g7) rfl dX4_step_140 ?_
          obtain ⟨r9, h8, hF⟩ := bi_some hF
          refine k_i hS (kS_run M hS hP ok_X4_130 (c_X4_isDigit l G ((pu v 23 4 (v 23 3)) 24 (((pu v 23 4 (v 23 3)) 23 3).toNatClampNeg)) (pu v 23 4 (v 23 3)) r9 h8) rfl hl.1 rfl (Nat.le_of_ble_eq_true rfl) ⟨rfl, rfl⟩ ⟨Nat.le_of_ble_eq_true rfl, Nat.le_of_ble_eq_true rfl⟩ dX4_step_141) (fun H locs hP hS => ?_)
          refine lv_if_eq (tgt := 226) hx hb dX4_step_144 (by decide) (fun c10 => ?_) (fun c10 => ?_)
          · replace hF := (if_neg (bI_f c10)).symm.trans hF
            refine lv_aload_n hx hb dX4_step_226 rfl (lv_at hl 0 rfl) ?_
            refine lv_aload_n hx hb dX4_step_227 rfl (lv_at hl 0 rfl) ?_
            refine fg_4_11 M hP dX4_step_228 ?_
            refine lv_aload_n hx hb dX4_step_231 rfl (lv_at hl 0 rfl) ?_
            refine fg_4_22 M hP dX4_step_232 ?_
            obtain ⟨g11, hF⟩ := gu_some hF
            refine r_bald (k := ((pu v 23 4 (v 23 3)) 23 3).toNatClampNeg) M hP rfl rfl (in_c g11) rfl dX4_step_235 ?_
            refine lv_bipush (v := 59) hx hb dX4_step_236 (by decide) ?_
            refine lv_icmp_ne (tgt := 245) hx hb dX4_step_238 (by decide) (fun c12 => ?_) (fun c12 => ?_)
            · replace hF := (if_neg c12).symm.trans hF
              refine lv_iconst (v := 4) hx hb dX4_step_245 (by decide) ?_
              refine fp_4_19 M hS hP dX4_step_246 (fun H locs hP hS => ?_)
              have hP : Wd G (pu (pu v 23 4 (v 23 3)) 23 2 4) H := hP
              refine lv_aload_n hx hb dX4_step_249 rfl (lv_at hl 0 rfl) ?_
              refine lv_dup hx hb dX4_step_250 rfl ?_
              refine fg_4_25 M hP dX4_step_251 ?_
              refine lv_iconst (v := 1) hx hb dX4_step_254 (by decide) ?_
              refine lv_iadd hx hb dX4_step_255 ?_
              refine fp_4_25 M hS hP dX4_step_256 (fun H locs hP hS => ?_)
              have hP : Wd G (pu (pu (pu v 23 4 (v 23 3)) 23 2 4) 23 4 (((pu (pu v 23 4 (v 23 3)) 23 2 4) 23 4) + 1)) H := hP
              exact ret_v M hS hP (Option.some.inj hF) dX4_step_259
            · replace hF := (if_pos c12).symm.trans hF
              refine lv_iconst (v := 3) hx hb dX4_step_241 (by decide) ?_
              refine lv_goto (tgt := 246) hx hb dX4_step_242 (by decide) ?_
              refine fp_4_19 M hS hP dX4_step_246 (fun H locs hP hS => ?_)
              have hP : Wd G (pu (pu v 23 4 (v 23 3)) 23 2 3) H := hP
              refine lv_aload_n hx hb dX4_step_249 rfl (lv_at hl 0 rfl) ?_
              refine lv_dup hx hb dX4_step_250 rfl ?_
              refine fg_4_25 M hP dX4_step_251 ?_
              refine lv_iconst (v := 1) hx hb dX4_step_254 (by decide) ?_
              refine lv_iadd hx hb dX4_step_255 ?_
              refine fp_4_25 M hS hP dX4_step_256 (fun H locs hP hS => ?_)
              have hP : Wd G (pu (pu (pu v 23 4 (v 23 3)) 23 2 3) 23 4 (((pu (pu v 23 4 (v 23 3)) 23 2 3) 23 4) + 1)) H := hP
              exact ret_v M hS hP (Option.some.inj hF) dX4_step_259
          · replace hF := (if_pos (bI_t c10)).symm.trans hF
            refine lv_aload_n hx hb dX4_step_147 rfl (lv_at hl 0 rfl) ?_
            refine lv_iconst (v := 2) hx hb dX4_step_148 (by decide) ?_
            refine fp_4_19 M hS hP dX4_step_149 (fun H locs hP hS => ?_)
            have hP : Wd G (pu (pu v 23 4 (v 23 3)) 23 2 2) H := hP
            refine lv_aload_n hx hb dX4_step_152 rfl (lv_at hl 0 rfl) ?_
            refine lv_iconst (v := 0) hx hb dX4_step_153 (by decide) ?_
            refine fp_4_28 M hS hP dX4_step_154 (fun H locs hP hS => ?_)
            have hP : Wd G (pu (pu (pu v 23 4 (v 23 3)) 23 2 2) 23 5 0) H := hP
            exact l_X4_step_157 M _ fu _ _ _ ls hF hP hS (lv_sub hl [0] rfl)
        · replace hF := (if_pos (bI_t c6)).symm.trans hF
          refine lv_aload_n hx hb dX4_step_88 rfl (lv_at hl 0 rfl) ?_
          refine lv_iconst (v := 1) hx hb dX4_step_89 (by decide) ?_
          refine fp_4_19 M hS hP dX4_step_90 (fun H locs hP hS => ?_)
          have hP : Wd G (pu (pu v 23 4 (v 23 3)) 23 2 1) H := hP
          exact l_X4_step_93 M _ fu _ _ _ ls hF hP hS (lv_sub hl [0] rfl)
      · replace hF := (if_neg c2).symm.trans hF
        refine lv_aload_n hx hb dX4_step_65 rfl (lv_at hl 0 rfl) ?_
        refine lv_iconst (v := 0) hx hb dX4_step_66 (by decide) ?_
        refine fp_4_19 M hS hP dX4_step_67 (fun H locs hP hS => ?_)
        have hP : Wd G (pu (pu v 23 4 (v 23 3)) 23 2 0) H := hP
        refine lv_goto (tgt := 259) hx hb dX4_step_70 (by decide) ?_
        exact ret_v M hS hP (Option.some.inj hF) dX4_step_259
    · replace hF := (if_neg c1).symm.trans hF
      refine lv_aload_n hx hb dX4_step_19 rfl (lv_at hl 0 rfl) ?_
      refine fg_4_11 M hP dX4_step_20 ?_
      refine lv_aload_n hx hb dX4_step_23 rfl (lv_at hl 0 rfl) ?_
      refine fg_4_22 M hP dX4_step_24 ?_
      obtain ⟨g24, hF⟩ := gu_some hF
      refine r_bald (k := (v 23 3).toNatClampNeg) M hP rfl rfl (in_c g24) rfl dX4_step_27 ?_
      refine lv_bipush (v := 32) hx hb dX4_step_28 (by decide) ?_
      refine lv_icmp_ne (tgt := 46) hx hb dX4_step_30 (by decide) (fun c25 => ?_) (fun c25 => ?_)
      · replace hF := (if_neg c25).symm.trans hF
        refine lv_aload_n hx hb dX4_step_46 rfl (lv_at hl 0 rfl) ?_
        refine lv_aload_n hx hb dX4_step_47 rfl (lv_at hl 0 rfl) ?_
        refine fg_4_22 M hP dX4_step_48 ?_
        refine fp_4_25 M hS hP dX4_step_51 (fun H locs hP hS => ?_)
        have hP : Wd G (pu v 23 4 (v 23 3)) H := hP
        refine lv_aload_n hx hb dX4_step_54 rfl (lv_at hl 0 rfl) ?_
        refine fg_4_22 M hP dX4_step_55 ?_
        refine lv_aload_n hx hb dX4_step_58 rfl (lv_at hl 0 rfl) ?_
        refine fg_4_15 M hP dX4_step_59 ?_
        refine lv_icmp_lt (tgt := 73) hx hb dX4_step_62 (by decide) (fun c26 => ?_) (fun c26 => ?_)
        · replace hF := (if_pos c26).symm.trans hF
          refine lv_aload_n hx hb dX4_step_73 rfl (lv_at hl 0 rfl) ?_
          refine fg_4_11 M hP dX4_step_74 ?_
          refine lv_aload_n hx hb dX4_step_77 rfl (lv_at hl 0 rfl) ?_
          refine fg_4_22 M hP dX4_step_78 ?_
          obtain ⟨g27, hF⟩ := gu_some hF
          refine r_bald (k := ((pu v 23 4 (v 23 3)) 23 3).toNatClampNeg) M hP rfl rfl (in_c g27) rfl dX4_step_81 ?_
          obtain ⟨r29, h28, hF⟩ := bi_some hF
          refine k_i hS (kS_run M hS hP ok_X4_126 (c_X4_isLetter l G ((pu v 23 4 (v 23 3)) 24 (((pu v 23 4 (v 23 3)) 23 3).toNatClampNeg)) (pu v 23 4 (v 23 3)) r29 h28) rfl hl.1 rfl (Nat.le_of_ble_eq_true rfl) ⟨rfl, rfl⟩ ⟨Nat.le_of_ble_eq_true rfl, Nat.le_of_ble_eq_true rfl⟩ dX4_step_82) (fun H locs hP hS => ?_)
          refine lv_if_eq (tgt := 132) hx hb dX4_step_85 (by decide) (fun c30 => ?_) (fun c30 => ?_)
          · replace hF := (if_neg (bI_f c30)).symm.trans hF
            refine lv_aload_n hx hb dX4_step_132 rfl (lv_at hl 0 rfl) ?_
            refine fg_4_11 M hP dX4_step_133 ?_
            refine lv_aload_n hx hb dX4_step_136 rfl (lv_at hl 0 rfl) ?_
            refine fg_4_22 M hP dX4_step_137 ?_
            obtain ⟨g31, hF⟩ := gu_some hF
            refine r_bald (k := ((pu v 23 4 (v 23 3)) 23 3).toNatClampNeg) M hP rfl rfl (in_c g31) rfl dX4_step_140 ?_
            obtain ⟨r33, h32, hF⟩ := bi_some hF
            refine k_i hS (kS_run M hS hP ok_X4_130 (c_X4_isDigit l G ((pu v 23 4 (v 23 3)) 24 (((pu v 23 4 (v 23 3)) 23 3).toNatClampNeg)) (pu v 23 4 (v 23 3)) r33 h32) rfl hl.1 rfl (Nat.le_of_ble_eq_true rfl) ⟨rfl, rfl⟩ ⟨Nat.le_of_ble_eq_true rfl, Nat.le_of_ble_eq_true rfl⟩ dX4_step_141) (fun H locs hP hS => ?_)
            refine lv_if_eq (tgt := 226) hx hb dX4_step_144 (by decide) (fun c34 => ?_) (fun c34 => ?_)
            · replace hF := (if_neg (bI_f c34)).symm.trans hF
              refine lv_aload_n hx hb dX4_step_226 rfl (lv_at hl 0 rfl) ?_
              refine lv_aload_n hx hb dX4_step_227 rfl (lv_at hl 0 rfl) ?_
              refine fg_4_11 M hP dX4_step_228 ?_
              refine lv_aload_n hx hb dX4_step_231 rfl (lv_at hl 0 rfl) ?_
              refine fg_4_22 M hP dX4_step_232 ?_
              obtain ⟨g35, hF⟩ := gu_some hF
              refine r_bald (k := ((pu v 23 4 (v 23 3)) 23 3).toNatClampNeg) M hP rfl rfl (in_c g35) rfl dX4_step_235 ?_
              refine lv_bipush (v := 59) hx hb dX4_step_236 (by decide) ?_
              refine lv_icmp_ne (tgt := 245) hx hb dX4_step_238 (by decide) (fun c36 => ?_) (fun c36 => ?_)
              · replace hF := (if_neg c36).symm.trans hF
                refine lv_iconst (v := 4) hx hb dX4_step_245 (by decide) ?_
                refine fp_4_19 M hS hP dX4_step_246 (fun H locs hP hS => ?_)
                have hP : Wd G (pu (pu v 23 4 (v 23 3)) 23 2 4) H := hP
                refine lv_aload_n hx hb dX4_step_249 rfl (lv_at hl 0 rfl) ?_
                refine lv_dup hx hb dX4_step_250 rfl ?_
                refine fg_4_25 M hP dX4_step_251 ?_
                refine lv_iconst (v := 1) hx hb dX4_step_254 (by decide) ?_
                refine lv_iadd hx hb dX4_step_255 ?_
                refine fp_4_25 M hS hP dX4_step_256 (fun H locs hP hS => ?_)
                have hP : Wd G (pu (pu (pu v 23 4 (v 23 3)) 23 2 4) 23 4 (((pu (pu v 23 4 (v 23 3)) 23 2 4) 23 4) + 1)) H := hP
                exact ret_v M hS hP (Option.some.inj hF) dX4_step_259
              · replace hF := (if_pos c36).symm.trans hF
                refine lv_iconst (v := 3) hx hb dX4_step_241 (by decide) ?_
                refine lv_goto (tgt := 246) hx hb dX4_step_242 (by decide) ?_
                refine fp_4_19 M hS hP dX4_step_246 (fun H locs hP hS => ?_)
                have hP : Wd G (pu (pu v 23 4 (v 23 3)) 23 2 3) H := hP
                refine lv_aload_n hx hb dX4_step_249 rfl (lv_at hl 0 rfl) ?_
                refine lv_dup hx hb dX4_step_250 rfl ?_
                refine fg_4_25 M hP dX4_step_251 ?_
                refine lv_iconst (v := 1) hx hb dX4_step_254 (by decide) ?_
                refine lv_iadd hx hb dX4_step_255 ?_
                refine fp_4_25 M hS hP dX4_step_256 (fun H locs hP hS => ?_)
                have hP : Wd G (pu (pu (pu v 23 4 (v 23 3)) 23 2 3) 23 4 (((pu (pu v 23 4 (v 23 3)) 23 2 3) 23 4) + 1)) H := hP
                exact ret_v M hS hP (Option.some.inj hF) dX4_step_259
            · replace hF := (if_pos (bI_t c34)).symm.trans hF
              refine lv_aload_n hx hb dX4_step_147 rfl (lv_at hl 0 rfl) ?_
              refine lv_iconst (v := 2) hx hb dX4_step_148 (by decide) ?_
              refine fp_4_19 M hS hP dX4_step_149 (fun H locs hP hS => ?_)
              have hP : Wd G (pu (pu v 23 4 (v 23 3)) 23 2 2) H := hP
              refine lv_aload_n hx hb dX4_step_152 rfl (lv_at hl 0 rfl) ?_
              refine lv_iconst (v := 0) hx hb dX4_step_153 (by decide) ?_
              refine fp_4_28 M hS hP dX4_step_154 (fun H locs hP hS => ?_)
              have hP : Wd G (pu (pu (pu v 23 4 (v 23 3)) 23 2 2) 23 5 0) H := hP
              exact l_X4_step_157 M _ fu _ _ _ ls hF hP hS (lv_sub hl [0] rfl)
          · replace hF := (if_pos (bI_t c30)).symm.trans hF
            refine lv_aload_n hx hb dX4_step_88 rfl (lv_at hl 0 rfl) ?_
            refine lv_iconst (v := 1) hx hb dX4_step_89 (by decide) ?_
            refine fp_4_19 M hS hP dX4_step_90 (fun H locs hP hS => ?_)
            have hP : Wd G (pu (pu v 23 4 (v 23 3)) 23 2 1) H := hP
            exact l_X4_step_93 M _ fu _ _ _ ls hF hP hS (lv_sub hl [0] rfl)
        · replace hF := (if_neg c26).symm.trans hF
          refine lv_aload_n hx hb dX4_step_65 rfl (lv_at hl 0 rfl) ?_
          refine lv_iconst (v := 0) hx hb dX4_step_66 (by decide) ?_
          refine fp_4_19 M hS hP dX4_step_67 (fun H locs hP hS => ?_)
          have hP : Wd G (pu (pu v 23 4 (v 23 3)) 23 2 0) H := hP
          refine lv_goto (tgt := 259) hx hb dX4_step_70 (by decide) ?_
          exact ret_v M hS hP (Option.some.inj hF) dX4_step_259
      · replace hF := (if_pos c25).symm.trans hF
        refine lv_aload_n hx hb dX4_step_33 rfl (lv_at hl 0 rfl) ?_
        refine lv_dup hx hb dX4_step_34 rfl ?_
        refine fg_4_22 M hP dX4_step_35 ?_
        refine lv_iconst (v := 1) hx hb dX4_step_38 (by decide) ?_
        refine lv_iadd hx hb dX4_step_39 ?_
        refine fp_4_22 M hS hP dX4_step_40 (fun H locs hP hS => ?_)
        have hP : Wd G (pu v 23 3 ((v 23 3) + 1)) H := hP
        refine lv_goto (tgt := 8) hx hb dX4_step_43 (by decide) ?_
        exact ih _ _ _ ls hF hP hS (lv_sub hl [0] rfl)
set_option maxHeartbeats 4000000 in
set_option maxRecDepth 100000 in
theorem c_X4_step (l : Launch) (G : GG) (v : VV) (v' : VV) (hF : F_X4_step v = some v') : Met l yX4_step (cdW yX4_step cX4_step 1 none) ({ frames := 1, cells := 0, slots := 0, locals := 21 } : Room) (PC G v [.ref (ad G 23)]) (QV G v') 0 0 (gA G) := by
  refine met_in RX4 (by decide) rfl (Nat.le_of_ble_eq_true rfl) ?_
  intro p e s m below meth c M hP ls hl
  have hx := M.1.1
  have hb := M.1.2.1
  have hS : va_S (gA G) s.heap s.heap [] := va_S.rf
  have hl : lv_has ls 1 [(0, .ref (ad G 23))] := hl
  unfold F_X4_step at hF
  refine lv_aload_n hx hb dX4_step_0 rfl (lv_at hl 0 rfl) ?_
  refine lv_aload_n hx hb dX4_step_1 rfl (lv_at hl 0 rfl) ?_
  refine fg_4_25 M hP dX4_step_2 ?_
  refine fp_4_22 M hS hP dX4_step_5 (fun H locs hP hS => ?_)
  have hP : Wd G (pu v 23 3 (v 23 4)) H := hP
  exact l_X4_step_8 M _ fu _ _ _ ls hF hP hS (lv_sub hl [0] rfl)
def F_X4_readOption (a1 : Nat) (a2 : Int32) (a3 : Int32) (v : VV) : Option (Int32 × VV) :=
  Option.bind (F_X4_isAt a1 v) (fun r2 => (if r2 = true then (Option.bind (F_X4_step v) (fun v6 => Option.bind (F_X4_numberUpTo a2 v6) (fun r8 => (if r8 < 0 then (some (r8, v6)) else (Option.bind (F_X4_step v6) (fun v12 => some (r8, v12))))))) else (some (a3, v))))
set_option maxHeartbeats 4000000 in
set_option maxRecDepth 100000 in
theorem c_X4_readOption (l : Launch) (G : GG) (a1 : Nat) (ha1 : a1 < 15) (a2 : Int32) (a3 : Int32) (v : VV) (r : Int32) (v' : VV) (hF : F_X4_readOption a1 a2 a3 v = some (r, v')) : Met l yX4_readOption (cdW yX4_readOption cX4_readOption 5 (some .int)) ({ frames := 5, cells := 0, slots := 0, locals := 109 } : Room) (PC G v [.ref (ad G 23), .ref (sk G a1), .int a2, .int a3]) (QI G r v') 0 0 (gA G) := by
  refine met_in RX4 (by decide) rfl (Nat.le_of_ble_eq_true rfl) ?_
  intro p e s m below meth c M hP ls hl
  have hx := M.1.1
  have hb := M.1.2.1
  have hS : va_S (gA G) s.heap s.heap [] := va_S.rf
  have hl : lv_has ls 5 [(0, .ref (ad G 23)), (1, .ref (sk G a1)), (2, .int a2), (3, .int a3)] := hl
  unfold F_X4_readOption at hF
  refine lv_aload_n hx hb dX4_readOption_0 rfl (lv_at hl 0 rfl) ?_
  refine lv_aload_n hx hb dX4_readOption_1 rfl (lv_at hl 1 rfl) ?_
  obtain ⟨r2, h1, hF⟩ := bi_some hF
  refine k_i hS (kV_run M hS hP ok_X4_42 (c_X4_isAt l G a1 ha1 v r2 h1) (rc_4 M hP rfl) rfl hl.1 rfl (Nat.le_of_ble_eq_true rfl) ⟨rfl, rfl⟩ ⟨Nat.le_of_ble_eq_true rfl, Nat.le_of_ble_eq_true rfl⟩ dX4_readOption_2) (fun H locs hP hS => ?_)
  refine lv_if_ne (tgt := 10) hx hb dX4_readOption_5 (by decide) (fun c3 => ?_) (fun c3 => ?_)
  · replace hF := (if_pos (bI_t c3)).symm.trans hF
    refine lv_aload_n hx hb dX4_readOption_10 rfl (lv_at hl 0 rfl) ?_
    obtain ⟨v6, h4, hF⟩ := bi_some hF
    refine k_v hS (kV_run M hS hP ok_X4_31 (c_X4_step l G v v6 h4) (rc_4 M hP rfl) rfl hl.1 rfl (Nat.le_of_ble_eq_true rfl) ⟨rfl, rfl⟩ ⟨Nat.le_of_ble_eq_true rfl, Nat.le_of_ble_eq_true rfl⟩ dX4_readOption_11) (fun H locs hP hS => ?_)
    refine lv_aload_n hx hb dX4_readOption_14 rfl (lv_at hl 0 rfl) ?_
    refine lv_iload_n hx hb dX4_readOption_15 rfl (lv_at hl 2 rfl) ?_
    obtain ⟨r8, h7, hF⟩ := bi_some hF
    refine k_i hS (kV_run M hS hP ok_X4_109 (c_X4_numberUpTo l G a2 v6 r8 h7) (rc_4 M hP rfl) rfl hl.1 rfl (Nat.le_of_ble_eq_true rfl) ⟨rfl, rfl⟩ ⟨Nat.le_of_ble_eq_true rfl, Nat.le_of_ble_eq_true rfl⟩ dX4_readOption_16) (fun H locs hP hS => ?_)
    refine lv_istore (lv' := [(4, .int r8), (0, .ref (ad G 23)), (1, .ref (sk G a1)), (2, .int a2), (3, .int a3)]) hx hb dX4_readOption_19 hl (by decide) rfl (fun ls hl => ?_)
    refine lv_iload hx hb dX4_readOption_21 (lv_at hl 0 rfl) ?_
    refine lv_if_lt (tgt := 30) hx hb dX4_readOption_23 (by decide) (fun c9 => ?_) (fun c9 => ?_)
    · replace hF := (if_pos c9).symm.trans hF
      refine lv_iload hx hb dX4_readOption_30 (lv_at hl 0 rfl) ?_
      exact ret_i M hS hP (Option.some.inj hF) dX4_readOption_32
    · replace hF := (if_neg c9).symm.trans hF
      refine lv_aload_n hx hb dX4_readOption_26 rfl (lv_at hl 1 rfl) ?_
      obtain ⟨v12, h10, hF⟩ := bi_some hF
      refine k_v hS (kV_run M hS hP ok_X4_31 (c_X4_step l G v6 v12 h10) (rc_4 M hP rfl) rfl hl.1 rfl (Nat.le_of_ble_eq_true rfl) ⟨rfl, rfl⟩ ⟨Nat.le_of_ble_eq_true rfl, Nat.le_of_ble_eq_true rfl⟩ dX4_readOption_27) (fun H locs hP hS => ?_)
      refine lv_iload hx hb dX4_readOption_30 (lv_at hl 0 rfl) ?_
      exact ret_i M hS hP (Option.some.inj hF) dX4_readOption_32
  · replace hF := (if_neg (bI_f c3)).symm.trans hF
    refine lv_iload_n hx hb dX4_readOption_8 rfl (lv_at hl 3 rfl) ?_
    exact ret_i M hS hP (Option.some.inj hF) dX4_readOption_9
def F_X4_readChild (a1 : Nat) (v : VV) : Option (Bool × VV) :=
  Option.bind (F_X1_hasAllChildren a1 v) (fun r2 => (if r2 = true then (some (false, v)) else (Option.bind (F_X4_step v) (fun v6 => Option.bind (F_X4_readOption 9 15 0 v6) (fun (r8, v9) => (if 0 ≤ r8 then (Option.bind (F_X4_readOption 13 9 3 v9) (fun (r13, v14) => (if 0 ≤ r13 then (Option.bind (F_X4_readOption 14 4095 0 v14) (fun (r18, v19) => (if 0 ≤ r18 then (Option.bind (F_X1_addChild a1 r8 r13 v19) (fun (r23, v24) => gu (gI r23 6) (some (true, pu v24 (((a1 + 4) + 17 + ((r23).toNatClampNeg)) + 6) 2 r18)))) else (some (false, v19))))) else (some (false, v14))))) else (some (false, v9))))))))
set_option maxHeartbeats 4000000 in
set_option maxRecDepth 100000 in
theorem c_X4_readChild (l : Launch) (G : GG) (a1 : Nat) (ha1 : kd a1 = 1) (v : VV) (r : Bool) (v' : VV) (hF : F_X4_readChild a1 v = some (r, v')) : Met l yX4_readChild (cdW yX4_readChild cX4_readChild 5 (some .boolean)) ({ frames := 6, cells := 0, slots := 0, locals := 133 } : Room) (PC G v [.ref (ad G 23), .ref (ad G a1)]) (QI G (bI r) v') 0 0 (gA G) := by
  refine met_in RX4 (by decide) rfl (Nat.le_of_ble_eq_true rfl) ?_
  intro p e s m below meth c M hP ls hl
  have hx := M.1.1
  have hb := M.1.2.1
  have hS : va_S (gA G) s.heap s.heap [] := va_S.rf
  have hl : lv_has ls 5 [(0, .ref (ad G 23)), (1, .ref (ad G a1))] := hl
  unfold F_X4_readChild at hF
  refine lv_aload_n hx hb dX4_readChild_0 rfl (lv_at hl 1 rfl) ?_
  obtain ⟨r2, h1, hF⟩ := bi_some hF
  refine k_i hS (kV_run M hS hP ok_X4_92 (c_X1_hasAllChildren l G a1 ha1 v r2 h1) (rc_1 M hP ha1) rfl hl.1 rfl (Nat.le_of_ble_eq_true rfl) ⟨rfl, rfl⟩ ⟨Nat.le_of_ble_eq_true rfl, Nat.le_of_ble_eq_true rfl⟩ dX4_readChild_1) (fun H locs hP hS => ?_)
  refine lv_if_eq (tgt := 9) hx hb dX4_readChild_4 (by decide) (fun c3 => ?_) (fun c3 => ?_)
  · replace hF := (if_neg (bI_f c3)).symm.trans hF
    refine lv_aload_n hx hb dX4_readChild_9 rfl (lv_at hl 0 rfl) ?_
    obtain ⟨v6, h4, hF⟩ := bi_some hF
    refine k_v hS (kV_run M hS hP ok_X4_31 (c_X4_step l G v v6 h4) (rc_4 M hP rfl) rfl hl.1 rfl (Nat.le_of_ble_eq_true rfl) ⟨rfl, rfl⟩ ⟨Nat.le_of_ble_eq_true rfl, Nat.le_of_ble_eq_true rfl⟩ dX4_readChild_10) (fun H locs hP hS => ?_)
    refine lv_aload_n hx hb dX4_readChild_13 rfl (lv_at hl 0 rfl) ?_
    refine va_ldcS (own := RX4) (tx := "at") (q := sk G 9) hx hb M.1.2.2.2.1 (sR_9 M.2.2.2) dX4_readChild_14 ?_
    refine lv_bipush (v := 15) hx hb dX4_readChild_16 (by decide) ?_
    refine lv_iconst (v := 0) hx hb dX4_readChild_18 (by decide) ?_
    obtain ⟨⟨r8, v9⟩, h7, hF⟩ := bi_some hF
    dsimp only at hF
    refine k_i hS (kV_run M hS hP ok_X4_68 (c_X4_readOption l G 9 (by decide) 15 0 v6 r8 v9 h7) (rc_4 M hP rfl) rfl hl.1 rfl (Nat.le_of_ble_eq_true rfl) ⟨rfl, rfl⟩ ⟨Nat.le_of_ble_eq_true rfl, Nat.le_of_ble_eq_true rfl⟩ dX4_readChild_19) (fun H locs hP hS => ?_)
    refine lv_istore_n (lv' := [(2, .int r8), (0, .ref (ad G 23)), (1, .ref (ad G a1))]) hx hb dX4_readChild_22 rfl hl (by decide) rfl (fun ls hl => ?_)
    refine lv_iload_n hx hb dX4_readChild_23 rfl (lv_at hl 0 rfl) ?_
    refine lv_if_ge (tgt := 31) hx hb dX4_readChild_24 (by decide) (fun c11 => ?_) (fun c11 => ?_)
    · replace hF := (if_pos c11).symm.trans hF
      refine lv_aload_n hx hb dX4_readChild_31 rfl (lv_at hl 1 rfl) ?_
      refine va_ldcS (own := RX4) (tx := "quick") (q := sk G 13) hx hb M.1.2.2.2.1 (sR_13 M.2.2.2) dX4_readChild_32 ?_
      refine lv_bipush (v := 9) hx hb dX4_readChild_34 (by decide) ?_
      refine lv_iconst (v := 3) hx hb dX4_readChild_36 (by decide) ?_
      obtain ⟨⟨r13, v14⟩, h12, hF⟩ := bi_some hF
      dsimp only at hF
      refine k_i hS (kV_run M hS hP ok_X4_68 (c_X4_readOption l G 13 (by decide) 9 3 v9 r13 v14 h12) (rc_4 M hP rfl) rfl hl.1 rfl (Nat.le_of_ble_eq_true rfl) ⟨rfl, rfl⟩ ⟨Nat.le_of_ble_eq_true rfl, Nat.le_of_ble_eq_true rfl⟩ dX4_readChild_37) (fun H locs hP hS => ?_)
      refine lv_istore_n (lv' := [(3, .int r13), (2, .int r8), (0, .ref (ad G 23)), (1, .ref (ad G a1))]) hx hb dX4_readChild_40 rfl hl (by decide) rfl (fun ls hl => ?_)
      refine lv_iload_n hx hb dX4_readChild_41 rfl (lv_at hl 0 rfl) ?_
      refine lv_if_ge (tgt := 49) hx hb dX4_readChild_42 (by decide) (fun c16 => ?_) (fun c16 => ?_)
      · replace hF := (if_pos c16).symm.trans hF
        refine lv_aload_n hx hb dX4_readChild_49 rfl (lv_at hl 2 rfl) ?_
        refine va_ldcS (own := RX4) (tx := "knows") (q := sk G 14) hx hb M.1.2.2.2.1 (sR_14 M.2.2.2) dX4_readChild_50 ?_
        refine lv_sipush (v := 4095) hx hb dX4_readChild_52 (by decide) ?_
        refine lv_iconst (v := 0) hx hb dX4_readChild_55 (by decide) ?_
        obtain ⟨⟨r18, v19⟩, h17, hF⟩ := bi_some hF
        dsimp only at hF
        refine k_i hS (kV_run M hS hP ok_X4_68 (c_X4_readOption l G 14 (by decide) 4095 0 v14 r18 v19 h17) (rc_4 M hP rfl) rfl hl.1 rfl (Nat.le_of_ble_eq_true rfl) ⟨rfl, rfl⟩ ⟨Nat.le_of_ble_eq_true rfl, Nat.le_of_ble_eq_true rfl⟩ dX4_readChild_56) (fun H locs hP hS => ?_)
        refine lv_istore (lv' := [(4, .int r18), (3, .int r13), (2, .int r8), (0, .ref (ad G 23)), (1, .ref (ad G a1))]) hx hb dX4_readChild_59 hl (by decide) rfl (fun ls hl => ?_)
        refine lv_iload hx hb dX4_readChild_61 (lv_at hl 0 rfl) ?_
        refine lv_if_ge (tgt := 68) hx hb dX4_readChild_63 (by decide) (fun c21 => ?_) (fun c21 => ?_)
        · replace hF := (if_pos c21).symm.trans hF
          refine lv_aload_n hx hb dX4_readChild_68 rfl (lv_at hl 4 rfl) ?_
          refine fg_4_101 M hP ha1 dX4_readChild_69 ?_
          refine lv_aload_n hx hb dX4_readChild_72 rfl (lv_at hl 4 rfl) ?_
          refine lv_iload_n hx hb dX4_readChild_73 rfl (lv_at hl 2 rfl) ?_
          refine lv_iload_n hx hb dX4_readChild_74 rfl (lv_at hl 1 rfl) ?_
          obtain ⟨⟨r23, v24⟩, h22, hF⟩ := bi_some hF
          dsimp only at hF
          refine k_i hS (kV_run M hS hP ok_X4_105 (c_X1_addChild l G a1 ha1 r8 r13 v19 r23 v24 h22) (rc_1 M hP ha1) rfl hl.1 rfl (Nat.le_of_ble_eq_true rfl) ⟨rfl, rfl⟩ ⟨Nat.le_of_ble_eq_true rfl, Nat.le_of_ble_eq_true rfl⟩ dX4_readChild_75) (fun H locs hP hS => ?_)
          obtain ⟨g26, hF⟩ := gu_some hF
          refine r_aald9 (k := (r23).toNatClampNeg) M hP (ge_1_4k (i := a1) ha1) (ge_9l (i := (a1 + 4)) (ge_1_4k (i := a1) ha1)) (in_c g26) rfl dX4_readChild_78 ?_
          refine fg_4_108 M hP (ge_9k (i := (a1 + 4)) (k := (r23).toNatClampNeg) (ge_1_4k (i := a1) ha1) (vin_lt (in_c g26))) dX4_readChild_79 ?_
          refine lv_iconst (v := 2) hx hb dX4_readChild_82 (by decide) ?_
          refine lv_iload hx hb dX4_readChild_83 (lv_at hl 0 rfl) ?_
          refine r_iast (k := 2) M hS hP (ge_0k (i := ((a1 + 4) + 17 + ((r23).toNatClampNeg))) (ge_9k (i := (a1 + 4)) (k := (r23).toNatClampNeg) (ge_1_4k (i := a1) ha1) (vin_lt (in_c g26)))) (ge_0l (i := ((a1 + 4) + 17 + ((r23).toNatClampNeg))) (ge_9k (i := (a1 + 4)) (k := (r23).toNatClampNeg) (ge_1_4k (i := a1) ha1) (vin_lt (in_c g26)))) (in_c rfl) rfl dX4_readChild_85 (fun H locs hP hS => ?_)
          have hP : Wd G (pu v24 (((a1 + 4) + 17 + ((r23).toNatClampNeg)) + 6) 2 r18) H := hP
          refine lv_iconst (v := 1) hx hb dX4_readChild_86 (by decide) ?_
          exact ret_z M hS hP (congrArg (fun z : Bool × VV => (bI z.1, z.2)) (Option.some.inj hF)) rfl dX4_readChild_87
        · replace hF := (if_neg c21).symm.trans hF
          refine lv_iconst (v := 0) hx hb dX4_readChild_66 (by decide) ?_
          exact ret_z M hS hP (congrArg (fun z : Bool × VV => (bI z.1, z.2)) (Option.some.inj hF)) rfl dX4_readChild_67
      · replace hF := (if_neg c16).symm.trans hF
        refine lv_iconst (v := (-1)) hx hb dX4_readChild_45 (by decide) ?_
        refine lv_goto (tgt := 59) hx hb dX4_readChild_46 (by decide) ?_
        refine lv_istore (lv' := [(4, .int (-1)), (3, .int r13), (2, .int r8), (0, .ref (ad G 23)), (1, .ref (ad G a1))]) hx hb dX4_readChild_59 hl (by decide) rfl (fun ls hl => ?_)
        refine lv_iload hx hb dX4_readChild_61 (lv_at hl 0 rfl) ?_
        refine lv_if_ge (tgt := 68) hx hb dX4_readChild_63 (by decide) (fun c27 => ?_) (fun c27 => ?_)
        · exact absurd c27 (by decide)
        · refine lv_iconst (v := 0) hx hb dX4_readChild_66 (by decide) ?_
          exact ret_z M hS hP (congrArg (fun z : Bool × VV => (bI z.1, z.2)) (Option.some.inj hF)) rfl dX4_readChild_67
    · replace hF := (if_neg c11).symm.trans hF
      refine lv_iconst (v := (-1)) hx hb dX4_readChild_27 (by decide) ?_
      refine lv_goto (tgt := 40) hx hb dX4_readChild_28 (by decide) ?_
      refine lv_istore_n (lv' := [(3, .int (-1)), (2, .int r8), (0, .ref (ad G 23)), (1, .ref (ad G a1))]) hx hb dX4_readChild_40 rfl hl (by decide) rfl (fun ls hl => ?_)
      refine lv_iload_n hx hb dX4_readChild_41 rfl (lv_at hl 0 rfl) ?_
      refine lv_if_ge (tgt := 49) hx hb dX4_readChild_42 (by decide) (fun c28 => ?_) (fun c28 => ?_)
      · exact absurd c28 (by decide)
      · refine lv_iconst (v := (-1)) hx hb dX4_readChild_45 (by decide) ?_
        refine lv_goto (tgt := 59) hx hb dX4_readChild_46 (by decide) ?_
        refine lv_istore (lv' := [(4, .int (-1)), (3, .int (-1)), (2, .int r8), (0, .ref (ad G 23)), (1, .ref (ad G a1))]) hx hb dX4_readChild_59 hl (by decide) rfl (fun ls hl => ?_)
        refine lv_iload hx hb dX4_readChild_61 (lv_at hl 0 rfl) ?_
        refine lv_if_ge (tgt := 68) hx hb dX4_readChild_63 (by decide) (fun c29 => ?_) (fun c29 => ?_)
        · exact absurd c29 (by decide)
        · refine lv_iconst (v := 0) hx hb dX4_readChild_66 (by decide) ?_
          exact ret_z M hS hP (congrArg (fun z : Bool × VV => (bI z.1, z.2)) (Option.some.inj hF)) rfl dX4_readChild_67
  · replace hF := (if_pos (bI_t c3)).symm.trans hF
    refine lv_iconst (v := 0) hx hb dX4_readChild_7 (by decide) ?_
    exact ret_z M hS hP (congrArg (fun z : Bool × VV => (bI z.1, z.2)) (Option.some.inj hF)) rfl dX4_readChild_8
def F_X4_readFog (a1 : Nat) (v : VV) : Option (Bool × VV) :=
  Option.bind (F_X4_step v) (fun v3 => Option.bind (F_X4_numberUpTo 5 v3) (fun r5 => (if 0 ≤ r5 then (Option.bind (F_X4_step v3) (fun v9 => Option.bind (F_X4_numberUpTo 9 v9) (fun r11 => (if 0 ≤ r11 then (Option.bind (F_X4_step v9) (fun v15 => gu (gI r5 6) (some (true, pu v15 (a1 + 1) ((r5).toNatClampNeg) r11)))) else (some (false, v9)))))) else (some (false, v3)))))
set_option maxHeartbeats 4000000 in
set_option maxRecDepth 100000 in
theorem c_X4_readFog (l : Launch) (G : GG) (a1 : Nat) (ha1 : kd a1 = 1) (v : VV) (r : Bool) (v' : VV) (hF : F_X4_readFog a1 v = some (r, v')) : Met l yX4_readFog (cdW yX4_readFog cX4_readFog 4 (some .boolean)) ({ frames := 2, cells := 0, slots := 0, locals := 41 } : Room) (PC G v [.ref (ad G 23), .ref (ad G a1)]) (QI G (bI r) v') 0 0 (gA G) := by
  refine met_in RX4 (by decide) rfl (Nat.le_of_ble_eq_true rfl) ?_
  intro p e s m below meth c M hP ls hl
  have hx := M.1.1
  have hb := M.1.2.1
  have hS : va_S (gA G) s.heap s.heap [] := va_S.rf
  have hl : lv_has ls 4 [(0, .ref (ad G 23)), (1, .ref (ad G a1))] := hl
  unfold F_X4_readFog at hF
  refine lv_aload_n hx hb dX4_readFog_0 rfl (lv_at hl 0 rfl) ?_
  obtain ⟨v3, h1, hF⟩ := bi_some hF
  refine k_v hS (kV_run M hS hP ok_X4_31 (c_X4_step l G v v3 h1) (rc_4 M hP rfl) rfl hl.1 rfl (Nat.le_of_ble_eq_true rfl) ⟨rfl, rfl⟩ ⟨Nat.le_of_ble_eq_true rfl, Nat.le_of_ble_eq_true rfl⟩ dX4_readFog_1) (fun H locs hP hS => ?_)
  refine lv_aload_n hx hb dX4_readFog_4 rfl (lv_at hl 0 rfl) ?_
  refine lv_iconst (v := 5) hx hb dX4_readFog_5 (by decide) ?_
  obtain ⟨r5, h4, hF⟩ := bi_some hF
  refine k_i hS (kV_run M hS hP ok_X4_109 (c_X4_numberUpTo l G 5 v3 r5 h4) (rc_4 M hP rfl) rfl hl.1 rfl (Nat.le_of_ble_eq_true rfl) ⟨rfl, rfl⟩ ⟨Nat.le_of_ble_eq_true rfl, Nat.le_of_ble_eq_true rfl⟩ dX4_readFog_6) (fun H locs hP hS => ?_)
  refine lv_istore_n (lv' := [(2, .int r5), (0, .ref (ad G 23)), (1, .ref (ad G a1))]) hx hb dX4_readFog_9 rfl hl (by decide) rfl (fun ls hl => ?_)
  refine lv_iload_n hx hb dX4_readFog_10 rfl (lv_at hl 0 rfl) ?_
  refine lv_if_ge (tgt := 16) hx hb dX4_readFog_11 (by decide) (fun c6 => ?_) (fun c6 => ?_)
  · replace hF := (if_pos c6).symm.trans hF
    refine lv_aload_n hx hb dX4_readFog_16 rfl (lv_at hl 1 rfl) ?_
    obtain ⟨v9, h7, hF⟩ := bi_some hF
    refine k_v hS (kV_run M hS hP ok_X4_31 (c_X4_step l G v3 v9 h7) (rc_4 M hP rfl) rfl hl.1 rfl (Nat.le_of_ble_eq_true rfl) ⟨rfl, rfl⟩ ⟨Nat.le_of_ble_eq_true rfl, Nat.le_of_ble_eq_true rfl⟩ dX4_readFog_17) (fun H locs hP hS => ?_)
    refine lv_aload_n hx hb dX4_readFog_20 rfl (lv_at hl 1 rfl) ?_
    refine lv_bipush (v := 9) hx hb dX4_readFog_21 (by decide) ?_
    obtain ⟨r11, h10, hF⟩ := bi_some hF
    refine k_i hS (kV_run M hS hP ok_X4_109 (c_X4_numberUpTo l G 9 v9 r11 h10) (rc_4 M hP rfl) rfl hl.1 rfl (Nat.le_of_ble_eq_true rfl) ⟨rfl, rfl⟩ ⟨Nat.le_of_ble_eq_true rfl, Nat.le_of_ble_eq_true rfl⟩ dX4_readFog_23) (fun H locs hP hS => ?_)
    refine lv_istore_n (lv' := [(3, .int r11), (2, .int r5), (0, .ref (ad G 23)), (1, .ref (ad G a1))]) hx hb dX4_readFog_26 rfl hl (by decide) rfl (fun ls hl => ?_)
    refine lv_iload_n hx hb dX4_readFog_27 rfl (lv_at hl 0 rfl) ?_
    refine lv_if_ge (tgt := 33) hx hb dX4_readFog_28 (by decide) (fun c12 => ?_) (fun c12 => ?_)
    · replace hF := (if_pos c12).symm.trans hF
      refine lv_aload_n hx hb dX4_readFog_33 rfl (lv_at hl 2 rfl) ?_
      obtain ⟨v15, h13, hF⟩ := bi_some hF
      refine k_v hS (kV_run M hS hP ok_X4_31 (c_X4_step l G v9 v15 h13) (rc_4 M hP rfl) rfl hl.1 rfl (Nat.le_of_ble_eq_true rfl) ⟨rfl, rfl⟩ ⟨Nat.le_of_ble_eq_true rfl, Nat.le_of_ble_eq_true rfl⟩ dX4_readFog_34) (fun H locs hP hS => ?_)
      refine lv_aload_n hx hb dX4_readFog_37 rfl (lv_at hl 3 rfl) ?_
      refine fg_4_113 M hP ha1 dX4_readFog_38 ?_
      refine lv_iload_n hx hb dX4_readFog_41 rfl (lv_at hl 1 rfl) ?_
      refine lv_iload_n hx hb dX4_readFog_42 rfl (lv_at hl 0 rfl) ?_
      obtain ⟨g16, hF⟩ := gu_some hF
      refine r_iast (k := (r5).toNatClampNeg) M hS hP (ge_1_1k (i := a1) ha1) (ge_1_1l (i := a1) ha1) (in_c g16) rfl dX4_readFog_43 (fun H locs hP hS => ?_)
      have hP : Wd G (pu v15 (a1 + 1) ((r5).toNatClampNeg) r11) H := hP
      refine lv_iconst (v := 1) hx hb dX4_readFog_44 (by decide) ?_
      exact ret_z M hS hP (congrArg (fun z : Bool × VV => (bI z.1, z.2)) (Option.some.inj hF)) rfl dX4_readFog_45
    · replace hF := (if_neg c12).symm.trans hF
      refine lv_iconst (v := 0) hx hb dX4_readFog_31 (by decide) ?_
      exact ret_z M hS hP (congrArg (fun z : Bool × VV => (bI z.1, z.2)) (Option.some.inj hF)) rfl dX4_readFog_32
  · replace hF := (if_neg c6).symm.trans hF
    refine lv_iconst (v := 0) hx hb dX4_readFog_14 (by decide) ?_
    exact ret_z M hS hP (congrArg (fun z : Bool × VV => (bI z.1, z.2)) (Option.some.inj hF)) rfl dX4_readFog_15
def F_X4_readKeeper (a1 : Nat) (a2 : Int32) (v : VV) : Option (Bool × VV) :=
  Option.bind (F_X1_hasAllKeepers a1 v) (fun r2 => (if r2 = true then (some (false, v)) else (Option.bind (F_X4_step v) (fun v6 => Option.bind (F_X4_readOption 9 15 0 v6) (fun (r8, v9) => (if 0 ≤ r8 then (Option.bind (F_X4_readOption 10 11 0 v9) (fun (r13, v14) => (if 0 ≤ r13 then (Option.bind (F_X4_readOption 11 15 6 v14) (fun (r18, v19) => (if 0 ≤ r18 then (Option.bind (F_X1_addKeeper a1 a2 r8 v19) (fun (r23, v24) => gu (gI r23 8) (Option.bind (F_X4_isAt 12 (pu (pu v24 (((a1 + 3) + 2 + ((r23).toNatClampNeg)) + 8) 2 r13) (((a1 + 3) + 2 + ((r23).toNatClampNeg)) + 8) 3 r18)) (fun r28 => (if r28 = true then (Option.bind (F_X4_step (pu (pu (pu v24 (((a1 + 3) + 2 + ((r23).toNatClampNeg)) + 8) 2 r13) (((a1 + 3) + 2 + ((r23).toNatClampNeg)) + 8) 3 r18) (((a1 + 3) + 2 + ((r23).toNatClampNeg)) + 8) 5 1)) (fun v32 => some (true, v32))) else (some (true, pu (pu v24 (((a1 + 3) + 2 + ((r23).toNatClampNeg)) + 8) 2 r13) (((a1 + 3) + 2 + ((r23).toNatClampNeg)) + 8) 3 r18))))))) else (some (false, v19))))) else (some (false, v14))))) else (some (false, v9))))))))
set_option maxHeartbeats 4000000 in
set_option maxRecDepth 100000 in
theorem c_X4_readKeeper (l : Launch) (G : GG) (a1 : Nat) (ha1 : kd a1 = 1) (a2 : Int32) (v : VV) (r : Bool) (v' : VV) (hF : F_X4_readKeeper a1 a2 v = some (r, v')) : Met l yX4_readKeeper (cdW yX4_readKeeper cX4_readKeeper 7 (some .boolean)) ({ frames := 6, cells := 0, slots := 0, locals := 133 } : Room) (PC G v [.ref (ad G 23), .ref (ad G a1), .int a2]) (QI G (bI r) v') 0 0 (gA G) := by
  refine met_in RX4 (by decide) rfl (Nat.le_of_ble_eq_true rfl) ?_
  intro p e s m below meth c M hP ls hl
  have hx := M.1.1
  have hb := M.1.2.1
  have hS : va_S (gA G) s.heap s.heap [] := va_S.rf
  have hl : lv_has ls 7 [(0, .ref (ad G 23)), (1, .ref (ad G a1)), (2, .int a2)] := hl
  unfold F_X4_readKeeper at hF
  refine lv_aload_n hx hb dX4_readKeeper_0 rfl (lv_at hl 1 rfl) ?_
  obtain ⟨r2, h1, hF⟩ := bi_some hF
  refine k_i hS (kV_run M hS hP ok_X4_60 (c_X1_hasAllKeepers l G a1 ha1 v r2 h1) (rc_1 M hP ha1) rfl hl.1 rfl (Nat.le_of_ble_eq_true rfl) ⟨rfl, rfl⟩ ⟨Nat.le_of_ble_eq_true rfl, Nat.le_of_ble_eq_true rfl⟩ dX4_readKeeper_1) (fun H locs hP hS => ?_)
  refine lv_if_eq (tgt := 9) hx hb dX4_readKeeper_4 (by decide) (fun c3 => ?_) (fun c3 => ?_)
  · replace hF := (if_neg (bI_f c3)).symm.trans hF
    refine lv_aload_n hx hb dX4_readKeeper_9 rfl (lv_at hl 0 rfl) ?_
    obtain ⟨v6, h4, hF⟩ := bi_some hF
    refine k_v hS (kV_run M hS hP ok_X4_31 (c_X4_step l G v v6 h4) (rc_4 M hP rfl) rfl hl.1 rfl (Nat.le_of_ble_eq_true rfl) ⟨rfl, rfl⟩ ⟨Nat.le_of_ble_eq_true rfl, Nat.le_of_ble_eq_true rfl⟩ dX4_readKeeper_10) (fun H locs hP hS => ?_)
    refine lv_aload_n hx hb dX4_readKeeper_13 rfl (lv_at hl 0 rfl) ?_
    refine va_ldcS (own := RX4) (tx := "at") (q := sk G 9) hx hb M.1.2.2.2.1 (sR_9 M.2.2.2) dX4_readKeeper_14 ?_
    refine lv_bipush (v := 15) hx hb dX4_readKeeper_16 (by decide) ?_
    refine lv_iconst (v := 0) hx hb dX4_readKeeper_18 (by decide) ?_
    obtain ⟨⟨r8, v9⟩, h7, hF⟩ := bi_some hF
    dsimp only at hF
    refine k_i hS (kV_run M hS hP ok_X4_68 (c_X4_readOption l G 9 (by decide) 15 0 v6 r8 v9 h7) (rc_4 M hP rfl) rfl hl.1 rfl (Nat.le_of_ble_eq_true rfl) ⟨rfl, rfl⟩ ⟨Nat.le_of_ble_eq_true rfl, Nat.le_of_ble_eq_true rfl⟩ dX4_readKeeper_19) (fun H locs hP hS => ?_)
    refine lv_istore_n (lv' := [(3, .int r8), (0, .ref (ad G 23)), (1, .ref (ad G a1)), (2, .int a2)]) hx hb dX4_readKeeper_22 rfl hl (by decide) rfl (fun ls hl => ?_)
    refine lv_iload_n hx hb dX4_readKeeper_23 rfl (lv_at hl 0 rfl) ?_
    refine lv_if_ge (tgt := 31) hx hb dX4_readKeeper_24 (by decide) (fun c11 => ?_) (fun c11 => ?_)
    · replace hF := (if_pos c11).symm.trans hF
      refine lv_aload_n hx hb dX4_readKeeper_31 rfl (lv_at hl 1 rfl) ?_
      refine va_ldcS (own := RX4) (tx := "note") (q := sk G 10) hx hb M.1.2.2.2.1 (sR_10 M.2.2.2) dX4_readKeeper_32 ?_
      refine lv_bipush (v := 11) hx hb dX4_readKeeper_34 (by decide) ?_
      refine lv_iconst (v := 0) hx hb dX4_readKeeper_36 (by decide) ?_
      obtain ⟨⟨r13, v14⟩, h12, hF⟩ := bi_some hF
      dsimp only at hF
      refine k_i hS (kV_run M hS hP ok_X4_68 (c_X4_readOption l G 10 (by decide) 11 0 v9 r13 v14 h12) (rc_4 M hP rfl) rfl hl.1 rfl (Nat.le_of_ble_eq_true rfl) ⟨rfl, rfl⟩ ⟨Nat.le_of_ble_eq_true rfl, Nat.le_of_ble_eq_true rfl⟩ dX4_readKeeper_37) (fun H locs hP hS => ?_)
      refine lv_istore (lv' := [(4, .int r13), (3, .int r8), (0, .ref (ad G 23)), (1, .ref (ad G a1)), (2, .int a2)]) hx hb dX4_readKeeper_40 hl (by decide) rfl (fun ls hl => ?_)
      refine lv_iload hx hb dX4_readKeeper_42 (lv_at hl 0 rfl) ?_
      refine lv_if_ge (tgt := 51) hx hb dX4_readKeeper_44 (by decide) (fun c16 => ?_) (fun c16 => ?_)
      · replace hF := (if_pos c16).symm.trans hF
        refine lv_aload_n hx hb dX4_readKeeper_51 rfl (lv_at hl 2 rfl) ?_
        refine va_ldcS (own := RX4) (tx := "loud") (q := sk G 11) hx hb M.1.2.2.2.1 (sR_11 M.2.2.2) dX4_readKeeper_52 ?_
        refine lv_bipush (v := 15) hx hb dX4_readKeeper_54 (by decide) ?_
        refine lv_bipush (v := 6) hx hb dX4_readKeeper_56 (by decide) ?_
        obtain ⟨⟨r18, v19⟩, h17, hF⟩ := bi_some hF
        dsimp only at hF
        refine k_i hS (kV_run M hS hP ok_X4_68 (c_X4_readOption l G 11 (by decide) 15 6 v14 r18 v19 h17) (rc_4 M hP rfl) rfl hl.1 rfl (Nat.le_of_ble_eq_true rfl) ⟨rfl, rfl⟩ ⟨Nat.le_of_ble_eq_true rfl, Nat.le_of_ble_eq_true rfl⟩ dX4_readKeeper_58) (fun H locs hP hS => ?_)
        refine lv_istore (lv' := [(5, .int r18), (4, .int r13), (3, .int r8), (0, .ref (ad G 23)), (1, .ref (ad G a1)), (2, .int a2)]) hx hb dX4_readKeeper_61 hl (by decide) rfl (fun ls hl => ?_)
        refine lv_iload hx hb dX4_readKeeper_63 (lv_at hl 0 rfl) ?_
        refine lv_if_ge (tgt := 70) hx hb dX4_readKeeper_65 (by decide) (fun c21 => ?_) (fun c21 => ?_)
        · replace hF := (if_pos c21).symm.trans hF
          refine lv_aload_n hx hb dX4_readKeeper_70 rfl (lv_at hl 4 rfl) ?_
          refine fg_4_78 M hP ha1 dX4_readKeeper_71 ?_
          refine lv_aload_n hx hb dX4_readKeeper_74 rfl (lv_at hl 4 rfl) ?_
          refine lv_iload_n hx hb dX4_readKeeper_75 rfl (lv_at hl 5 rfl) ?_
          refine lv_iload_n hx hb dX4_readKeeper_76 rfl (lv_at hl 2 rfl) ?_
          obtain ⟨⟨r23, v24⟩, h22, hF⟩ := bi_some hF
          dsimp only at hF
          refine k_i hS (kV_run M hS hP ok_X4_82 (c_X1_addKeeper l G a1 ha1 a2 r8 v19 r23 v24 h22) (rc_1 M hP ha1) rfl hl.1 rfl (Nat.le_of_ble_eq_true rfl) ⟨rfl, rfl⟩ ⟨Nat.le_of_ble_eq_true rfl, Nat.le_of_ble_eq_true rfl⟩ dX4_readKeeper_77) (fun H locs hP hS => ?_)
          obtain ⟨g26, hF⟩ := gu_some hF
          refine r_aald10 (k := (r23).toNatClampNeg) M hP (ge_1_3k (i := a1) ha1) (ge_10l (i := (a1 + 3)) (ge_1_3k (i := a1) ha1)) (in_c g26) rfl dX4_readKeeper_80 ?_
          refine fg_4_86 M hP (ge_10k (i := (a1 + 3)) (k := (r23).toNatClampNeg) (ge_1_3k (i := a1) ha1) (vin_lt (in_c g26))) dX4_readKeeper_81 ?_
          refine lv_astore (lv' := [(6, .ref (ad G (((a1 + 3) + 2 + ((r23).toNatClampNeg)) + 8))), (5, .int r18), (4, .int r13), (3, .int r8), (0, .ref (ad G 23)), (1, .ref (ad G a1)), (2, .int a2)]) hx hb dX4_readKeeper_84 hl (by decide) rfl (fun ls hl => ?_)
          refine lv_aload hx hb dX4_readKeeper_86 (lv_at hl 0 rfl) ?_
          refine lv_iconst (v := 2) hx hb dX4_readKeeper_88 (by decide) ?_
          refine lv_iload hx hb dX4_readKeeper_89 (lv_at hl 2 rfl) ?_
          refine r_iast (k := 2) M hS hP (ge_2k (i := ((a1 + 3) + 2 + ((r23).toNatClampNeg))) (ge_10k (i := (a1 + 3)) (k := (r23).toNatClampNeg) (ge_1_3k (i := a1) ha1) (vin_lt (in_c g26)))) (ge_2l (i := ((a1 + 3) + 2 + ((r23).toNatClampNeg))) (ge_10k (i := (a1 + 3)) (k := (r23).toNatClampNeg) (ge_1_3k (i := a1) ha1) (vin_lt (in_c g26)))) (in_c rfl) rfl dX4_readKeeper_91 (fun H locs hP hS => ?_)
          have hP : Wd G (pu v24 (((a1 + 3) + 2 + ((r23).toNatClampNeg)) + 8) 2 r13) H := hP
          refine lv_aload hx hb dX4_readKeeper_92 (lv_at hl 0 rfl) ?_
          refine lv_iconst (v := 3) hx hb dX4_readKeeper_94 (by decide) ?_
          refine lv_iload hx hb dX4_readKeeper_95 (lv_at hl 1 rfl) ?_
          refine r_iast (k := 3) M hS hP (ge_2k (i := ((a1 + 3) + 2 + ((r23).toNatClampNeg))) (ge_10k (i := (a1 + 3)) (k := (r23).toNatClampNeg) (ge_1_3k (i := a1) ha1) (vin_lt (in_c g26)))) (ge_2l (i := ((a1 + 3) + 2 + ((r23).toNatClampNeg))) (ge_10k (i := (a1 + 3)) (k := (r23).toNatClampNeg) (ge_1_3k (i := a1) ha1) (vin_lt (in_c g26)))) (in_c rfl) rfl dX4_readKeeper_97 (fun H locs hP hS => ?_)
          have hP : Wd G (pu (pu v24 (((a1 + 3) + 2 + ((r23).toNatClampNeg)) + 8) 2 r13) (((a1 + 3) + 2 + ((r23).toNatClampNeg)) + 8) 3 r18) H := hP
          refine lv_aload_n hx hb dX4_readKeeper_98 rfl (lv_at hl 4 rfl) ?_
          refine va_ldcS (own := RX4) (tx := "silent") (q := sk G 12) hx hb M.1.2.2.2.1 (sR_12 M.2.2.2) dX4_readKeeper_99 ?_
          obtain ⟨r28, h27, hF⟩ := bi_some hF
          refine k_i hS (kV_run M hS hP ok_X4_42 (c_X4_isAt l G 12 (by decide) (pu (pu v24 (((a1 + 3) + 2 + ((r23).toNatClampNeg)) + 8) 2 r13) (((a1 + 3) + 2 + ((r23).toNatClampNeg)) + 8) 3 r18) r28 h27) (rc_4 M hP rfl) rfl hl.1 rfl (Nat.le_of_ble_eq_true rfl) ⟨rfl, rfl⟩ ⟨Nat.le_of_ble_eq_true rfl, Nat.le_of_ble_eq_true rfl⟩ dX4_readKeeper_101) (fun H locs hP hS => ?_)
          refine lv_if_eq (tgt := 116) hx hb dX4_readKeeper_104 (by decide) (fun c29 => ?_) (fun c29 => ?_)
          · replace hF := (if_neg (bI_f c29)).symm.trans hF
            refine lv_iconst (v := 1) hx hb dX4_readKeeper_116 (by decide) ?_
            exact ret_z M hS hP (congrArg (fun z : Bool × VV => (bI z.1, z.2)) (Option.some.inj hF)) rfl dX4_readKeeper_117
          · replace hF := (if_pos (bI_t c29)).symm.trans hF
            refine lv_aload hx hb dX4_readKeeper_107 (lv_at hl 0 rfl) ?_
            refine lv_iconst (v := 5) hx hb dX4_readKeeper_109 (by decide) ?_
            refine lv_iconst (v := 1) hx hb dX4_readKeeper_110 (by decide) ?_
            refine r_iast (k := 5) M hS hP (ge_2k (i := ((a1 + 3) + 2 + ((r23).toNatClampNeg))) (ge_10k (i := (a1 + 3)) (k := (r23).toNatClampNeg) (ge_1_3k (i := a1) ha1) (vin_lt (in_c g26)))) (ge_2l (i := ((a1 + 3) + 2 + ((r23).toNatClampNeg))) (ge_10k (i := (a1 + 3)) (k := (r23).toNatClampNeg) (ge_1_3k (i := a1) ha1) (vin_lt (in_c g26)))) (in_c rfl) rfl dX4_readKeeper_111 (fun H locs hP hS => ?_)
            have hP : Wd G (pu (pu (pu v24 (((a1 + 3) + 2 + ((r23).toNatClampNeg)) + 8) 2 r13) (((a1 + 3) + 2 + ((r23).toNatClampNeg)) + 8) 3 r18) (((a1 + 3) + 2 + ((r23).toNatClampNeg)) + 8) 5 1) H := hP
            refine lv_aload_n hx hb dX4_readKeeper_112 rfl (lv_at hl 4 rfl) ?_
            obtain ⟨v32, h30, hF⟩ := bi_some hF
            refine k_v hS (kV_run M hS hP ok_X4_31 (c_X4_step l G (pu (pu (pu v24 (((a1 + 3) + 2 + ((r23).toNatClampNeg)) + 8) 2 r13) (((a1 + 3) + 2 + ((r23).toNatClampNeg)) + 8) 3 r18) (((a1 + 3) + 2 + ((r23).toNatClampNeg)) + 8) 5 1) v32 h30) (rc_4 M hP rfl) rfl hl.1 rfl (Nat.le_of_ble_eq_true rfl) ⟨rfl, rfl⟩ ⟨Nat.le_of_ble_eq_true rfl, Nat.le_of_ble_eq_true rfl⟩ dX4_readKeeper_113) (fun H locs hP hS => ?_)
            refine lv_iconst (v := 1) hx hb dX4_readKeeper_116 (by decide) ?_
            exact ret_z M hS hP (congrArg (fun z : Bool × VV => (bI z.1, z.2)) (Option.some.inj hF)) rfl dX4_readKeeper_117
        · replace hF := (if_neg c21).symm.trans hF
          refine lv_iconst (v := 0) hx hb dX4_readKeeper_68 (by decide) ?_
          exact ret_z M hS hP (congrArg (fun z : Bool × VV => (bI z.1, z.2)) (Option.some.inj hF)) rfl dX4_readKeeper_69
      · replace hF := (if_neg c16).symm.trans hF
        refine lv_iconst (v := (-1)) hx hb dX4_readKeeper_47 (by decide) ?_
        refine lv_goto (tgt := 61) hx hb dX4_readKeeper_48 (by decide) ?_
        refine lv_istore (lv' := [(5, .int (-1)), (4, .int r13), (3, .int r8), (0, .ref (ad G 23)), (1, .ref (ad G a1)), (2, .int a2)]) hx hb dX4_readKeeper_61 hl (by decide) rfl (fun ls hl => ?_)
        refine lv_iload hx hb dX4_readKeeper_63 (lv_at hl 0 rfl) ?_
        refine lv_if_ge (tgt := 70) hx hb dX4_readKeeper_65 (by decide) (fun c33 => ?_) (fun c33 => ?_)
        · exact absurd c33 (by decide)
        · refine lv_iconst (v := 0) hx hb dX4_readKeeper_68 (by decide) ?_
          exact ret_z M hS hP (congrArg (fun z : Bool × VV => (bI z.1, z.2)) (Option.some.inj hF)) rfl dX4_readKeeper_69
    · replace hF := (if_neg c11).symm.trans hF
      refine lv_iconst (v := (-1)) hx hb dX4_readKeeper_27 (by decide) ?_
      refine lv_goto (tgt := 40) hx hb dX4_readKeeper_28 (by decide) ?_
      refine lv_istore (lv' := [(4, .int (-1)), (3, .int r8), (0, .ref (ad G 23)), (1, .ref (ad G a1)), (2, .int a2)]) hx hb dX4_readKeeper_40 hl (by decide) rfl (fun ls hl => ?_)
      refine lv_iload hx hb dX4_readKeeper_42 (lv_at hl 0 rfl) ?_
      refine lv_if_ge (tgt := 51) hx hb dX4_readKeeper_44 (by decide) (fun c34 => ?_) (fun c34 => ?_)
      · exact absurd c34 (by decide)
      · refine lv_iconst (v := (-1)) hx hb dX4_readKeeper_47 (by decide) ?_
        refine lv_goto (tgt := 61) hx hb dX4_readKeeper_48 (by decide) ?_
        refine lv_istore (lv' := [(5, .int (-1)), (4, .int (-1)), (3, .int r8), (0, .ref (ad G 23)), (1, .ref (ad G a1)), (2, .int a2)]) hx hb dX4_readKeeper_61 hl (by decide) rfl (fun ls hl => ?_)
        refine lv_iload hx hb dX4_readKeeper_63 (lv_at hl 0 rfl) ?_
        refine lv_if_ge (tgt := 70) hx hb dX4_readKeeper_65 (by decide) (fun c35 => ?_) (fun c35 => ?_)
        · exact absurd c35 (by decide)
        · refine lv_iconst (v := 0) hx hb dX4_readKeeper_68 (by decide) ?_
          exact ret_z M hS hP (congrArg (fun z : Bool × VV => (bI z.1, z.2)) (Option.some.inj hF)) rfl dX4_readKeeper_69
  · replace hF := (if_pos (bI_t c3)).symm.trans hF
    refine lv_iconst (v := 0) hx hb dX4_readKeeper_7 (by decide) ?_
    exact ret_z M hS hP (congrArg (fun z : Bool × VV => (bI z.1, z.2)) (Option.some.inj hF)) rfl dX4_readKeeper_8
def F_X4_wordOf (a0 : Int32) (v : VV) : Option Nat :=
  if a0 = 1 then (some 1) else (if a0 = 2 then (some 2) else (if a0 = 3 then (some 3) else (if a0 = 4 then (some 4) else (if a0 = 5 then (some 5) else (if a0 = 6 then (some 6) else (some 0))))))
set_option maxHeartbeats 4000000 in
set_option maxRecDepth 100000 in
theorem c_X4_wordOf (l : Launch) (G : GG) (a0 : Int32) (v : VV) (r : Nat) (hF : F_X4_wordOf a0 v = some r) : Met l yX4_wordOf (cdW yX4_wordOf cX4_wordOf 1 (some (.object "java/lang/String"))) ({ frames := 0, cells := 0, slots := 0, locals := 0 } : Room) (PC G v [.int a0]) (QR G (sk G r) v) 0 0 (gA G) := by
  refine met_in RX4 (by decide) rfl (Nat.le_of_ble_eq_true rfl) ?_
  intro p e s m below meth c M hP ls hl
  have hx := M.1.1
  have hb := M.1.2.1
  have hS : va_S (gA G) s.heap s.heap [] := va_S.rf
  have hl : lv_has ls 1 [(0, .int a0)] := hl
  unfold F_X4_wordOf at hF
  refine lv_iload_n hx hb dX4_wordOf_0 rfl (lv_at hl 0 rfl) ?_
  rcases Decidable.em (a0 = 1) with c1 | c1
  · replace hF := (if_pos c1).symm.trans hF
    refine lv_tableIn (tgt := 40) hx hb dX4_wordOf_1 (by rw [c1]; decide) (by rw [c1]; decide) (by rw [c1]; rfl) (by decide) ?_
    refine va_ldcS (own := RX4) (tx := "head") (q := sk G 1) hx hb M.1.2.2.2.1 (sR_1 M.2.2.2) dX4_wordOf_40 ?_
    exact ret_s M hS hP (congrArg (fun z => (z, v)) (Option.some.inj hF)) dX4_wordOf_42
  · replace hF := (if_neg c1).symm.trans hF
    rcases Decidable.em (a0 = 2) with c2 | c2
    · replace hF := (if_pos c2).symm.trans hF
      refine lv_tableIn (tgt := 43) hx hb dX4_wordOf_1 (by rw [c2]; decide) (by rw [c2]; decide) (by rw [c2]; rfl) (by decide) ?_
      refine va_ldcS (own := RX4) (tx := "drunk") (q := sk G 2) hx hb M.1.2.2.2.1 (sR_2 M.2.2.2) dX4_wordOf_43 ?_
      exact ret_s M hS hP (congrArg (fun z => (z, v)) (Option.some.inj hF)) dX4_wordOf_45
    · replace hF := (if_neg c2).symm.trans hF
      rcases Decidable.em (a0 = 3) with c3 | c3
      · replace hF := (if_pos c3).symm.trans hF
        refine lv_tableIn (tgt := 46) hx hb dX4_wordOf_1 (by rw [c3]; decide) (by rw [c3]; decide) (by rw [c3]; rfl) (by decide) ?_
        refine va_ldcS (own := RX4) (tx := "poet") (q := sk G 3) hx hb M.1.2.2.2.1 (sR_3 M.2.2.2) dX4_wordOf_46 ?_
        exact ret_s M hS hP (congrArg (fun z => (z, v)) (Option.some.inj hF)) dX4_wordOf_48
      · replace hF := (if_neg c3).symm.trans hF
        rcases Decidable.em (a0 = 4) with c4 | c4
        · replace hF := (if_pos c4).symm.trans hF
          refine lv_tableIn (tgt := 49) hx hb dX4_wordOf_1 (by rw [c4]; decide) (by rw [c4]; decide) (by rw [c4]; rfl) (by decide) ?_
          refine va_ldcS (own := RX4) (tx := "hum") (q := sk G 4) hx hb M.1.2.2.2.1 (sR_4 M.2.2.2) dX4_wordOf_49 ?_
          exact ret_s M hS hP (congrArg (fun z => (z, v)) (Option.some.inj hF)) dX4_wordOf_51
        · replace hF := (if_neg c4).symm.trans hF
          rcases Decidable.em (a0 = 5) with c5 | c5
          · replace hF := (if_pos c5).symm.trans hF
            refine lv_tableIn (tgt := 52) hx hb dX4_wordOf_1 (by rw [c5]; decide) (by rw [c5]; decide) (by rw [c5]; rfl) (by decide) ?_
            refine va_ldcS (own := RX4) (tx := "echo") (q := sk G 5) hx hb M.1.2.2.2.1 (sR_5 M.2.2.2) dX4_wordOf_52 ?_
            exact ret_s M hS hP (congrArg (fun z => (z, v)) (Option.some.inj hF)) dX4_wordOf_54
          · replace hF := (if_neg c5).symm.trans hF
            rcases Decidable.em (a0 = 6) with c6 | c6
            · replace hF := (if_pos c6).symm.trans hF
              refine lv_tableIn (tgt := 55) hx hb dX4_wordOf_1 (by rw [c6]; decide) (by rw [c6]; decide) (by rw [c6]; rfl) (by decide) ?_
              refine va_ldcS (own := RX4) (tx := "elder") (q := sk G 6) hx hb M.1.2.2.2.1 (sR_6 M.2.2.2) dX4_wordOf_55 ?_
              exact ret_s M hS hP (congrArg (fun z => (z, v)) (Option.some.inj hF)) dX4_wordOf_57
            · replace hF := (if_neg c6).symm.trans hF
              refine lv_tableOut (tgt := 58) hx hb dX4_wordOf_1 (by have q0 := lv_neT (a := 1) c1 (by decide); have q1 := lv_neT (a := 2) c2 (by decide); have q2 := lv_neT (a := 3) c3 (by decide); have q3 := lv_neT (a := 4) c4 (by decide); have q4 := lv_neT (a := 5) c5 (by decide); have q5 := lv_neT (a := 6) c6 (by decide); omega) (by decide) ?_
              refine va_ldcS (own := RX4) (tx := "keeper") (q := sk G 0) hx hb M.1.2.2.2.1 (sR_0 M.2.2.2) dX4_wordOf_58 ?_
              exact ret_s M hS hP (congrArg (fun z => (z, v)) (Option.some.inj hF)) dX4_wordOf_60
theorem str_X4_wordOf {a0 : Int32} {v : VV} {r : Nat} (h : F_X4_wordOf a0 v = some r) : r < 15 := by
  unfold F_X4_wordOf at h
  (repeat' split at h) <;> (cases h; decide)
def L_X4_readItem_2 : Nat → Nat → Int32 → VV → Option (Bool × VV)
  | 0, _, _, _ => none
  | n + 1, x1, x2, v =>
  if 6 < x2 then (Option.bind (F_X4_isAt 7 v) (fun r3 => (if r3 = true then (Option.bind (F_X4_readChild x1 v) (fun (r14, v15) => some (r14, v15))) else (Option.bind (F_X4_isAt 8 v) (fun r6 => (if r6 = true then (Option.bind (F_X4_readFog x1 v) (fun (r9, v10) => (if r9 = true then (some (true, v10)) else (some (false, v10))))) else (some (false, v)))))))) else (Option.bind (F_X4_wordOf x2 v) (fun r18 => Option.bind (F_X4_isAt r18 v) (fun r20 => (if r20 = true then (Option.bind (F_X4_readKeeper x1 x2 v) (fun (r23, v24) => some (r23, v24))) else (L_X4_readItem_2 n x1 (x2 + 1) v)))))
def F_X4_readItem (a1 : Nat) (v : VV) : Option (Bool × VV) :=
  L_X4_readItem_2 fu a1 0 v
set_option maxHeartbeats 4000000 in
set_option maxRecDepth 100000 in
theorem l_X4_readItem_2 {p : Program} {l : Launch} {e : Env} {s : State} {m : MethodId} {args : Array Value} {below : List Frame} {meth : Method} {c : Code} {G : GG} (M : Mx G RX4 cX4_readItem 3 (some .boolean) p s m args meth c) (r : Bool) (v' : VV) : ∀ (n : Nat) (x1 : Nat) (x2 : Int32) (hx1 : kd x1 = 1) (v : VV) (H : Heap) (locs : List Loc) (ls : Array Slot), L_X4_readItem_2 n x1 x2 v = some (r, v') → Wd G v H → va_S (gA G) s.heap H locs → lv_has ls 3 [(0, .ref (ad G 23)), (1, .ref (ad G x1)), (2, .int x2)] → W p l e ({ frames := 7, cells := 0, slots := 0, locals := 159 } : Room) s m args below meth c H locs 0 0 (MQ below (QI G (bI r) v') args s 0 0 (gA G)) (F0 m 2 ls []) := by
  have hx := M.1.1
  have hb := M.1.2.1
  intro n
  induction n with
  | zero =>
    intro x1 x2 hx1 v H locs ls hF hP hS hl
    rw [L_X4_readItem_2] at hF
    cases hF
  | succ n ih =>
    intro x1 x2 hx1 v H locs ls hF hP hS hl
    rw [L_X4_readItem_2] at hF
    refine lv_iload_n hx hb dX4_readItem_2 rfl (lv_at hl 2 rfl) ?_
    refine lv_bipush (v := 6) hx hb dX4_readItem_3 (by decide) ?_
    refine lv_icmp_gt (tgt := 32) hx hb dX4_readItem_5 (by decide) (fun c1 => ?_) (fun c1 => ?_)
    · replace hF := (if_pos c1).symm.trans hF
      refine lv_aload_n hx hb dX4_readItem_32 rfl (lv_at hl 0 rfl) ?_
      refine va_ldcS (own := RX4) (tx := "child") (q := sk G 7) hx hb M.1.2.2.2.1 (sR_7 M.2.2.2) dX4_readItem_33 ?_
      obtain ⟨r3, h2, hF⟩ := bi_some hF
      refine k_i hS (kV_run M hS hP ok_X4_42 (c_X4_isAt l G 7 (by decide) v r3 h2) (rc_4 M hP rfl) rfl hl.1 rfl (Nat.le_of_ble_eq_true rfl) ⟨rfl, rfl⟩ ⟨Nat.le_of_ble_eq_true rfl, Nat.le_of_ble_eq_true rfl⟩ dX4_readItem_35) (fun H locs hP hS => ?_)
      refine lv_if_eq (tgt := 47) hx hb dX4_readItem_38 (by decide) (fun c4 => ?_) (fun c4 => ?_)
      · replace hF := (if_neg (bI_f c4)).symm.trans hF
        refine lv_aload_n hx hb dX4_readItem_47 rfl (lv_at hl 0 rfl) ?_
        refine va_ldcS (own := RX4) (tx := "fog") (q := sk G 8) hx hb M.1.2.2.2.1 (sR_8 M.2.2.2) dX4_readItem_48 ?_
        obtain ⟨r6, h5, hF⟩ := bi_some hF
        refine k_i hS (kV_run M hS hP ok_X4_42 (c_X4_isAt l G 8 (by decide) v r6 h5) (rc_4 M hP rfl) rfl hl.1 rfl (Nat.le_of_ble_eq_true rfl) ⟨rfl, rfl⟩ ⟨Nat.le_of_ble_eq_true rfl, Nat.le_of_ble_eq_true rfl⟩ dX4_readItem_50) (fun H locs hP hS => ?_)
        refine lv_if_eq (tgt := 68) hx hb dX4_readItem_53 (by decide) (fun c7 => ?_) (fun c7 => ?_)
        · replace hF := (if_neg (bI_f c7)).symm.trans hF
          refine lv_iconst (v := 0) hx hb dX4_readItem_68 (by decide) ?_
          exact ret_z M hS hP (congrArg (fun z : Bool × VV => (bI z.1, z.2)) (Option.some.inj hF)) rfl dX4_readItem_69
        · replace hF := (if_pos (bI_t c7)).symm.trans hF
          refine lv_aload_n hx hb dX4_readItem_56 rfl (lv_at hl 0 rfl) ?_
          refine lv_aload_n hx hb dX4_readItem_57 rfl (lv_at hl 1 rfl) ?_
          obtain ⟨⟨r9, v10⟩, h8, hF⟩ := bi_some hF
          dsimp only at hF
          refine k_i hS (kV_run M hS hP ok_X4_57 (c_X4_readFog l G x1 hx1 v r9 v10 h8) (rc_4 M hP rfl) rfl hl.1 rfl (Nat.le_of_ble_eq_true rfl) ⟨rfl, rfl⟩ ⟨Nat.le_of_ble_eq_true rfl, Nat.le_of_ble_eq_true rfl⟩ dX4_readItem_58) (fun H locs hP hS => ?_)
          refine lv_if_eq (tgt := 68) hx hb dX4_readItem_61 (by decide) (fun c12 => ?_) (fun c12 => ?_)
          · replace hF := (if_neg (bI_f c12)).symm.trans hF
            refine lv_iconst (v := 0) hx hb dX4_readItem_68 (by decide) ?_
            exact ret_z M hS hP (congrArg (fun z : Bool × VV => (bI z.1, z.2)) (Option.some.inj hF)) rfl dX4_readItem_69
          · replace hF := (if_pos (bI_t c12)).symm.trans hF
            refine lv_iconst (v := 1) hx hb dX4_readItem_64 (by decide) ?_
            refine lv_goto (tgt := 69) hx hb dX4_readItem_65 (by decide) ?_
            exact ret_z M hS hP (congrArg (fun z : Bool × VV => (bI z.1, z.2)) (Option.some.inj hF)) rfl dX4_readItem_69
      · replace hF := (if_pos (bI_t c4)).symm.trans hF
        refine lv_aload_n hx hb dX4_readItem_41 rfl (lv_at hl 0 rfl) ?_
        refine lv_aload_n hx hb dX4_readItem_42 rfl (lv_at hl 1 rfl) ?_
        obtain ⟨⟨r14, v15⟩, h13, hF⟩ := bi_some hF
        dsimp only at hF
        refine k_i hS (kV_run M hS hP ok_X4_52 (c_X4_readChild l G x1 hx1 v r14 v15 h13) (rc_4 M hP rfl) rfl hl.1 rfl (Nat.le_of_ble_eq_true rfl) ⟨rfl, rfl⟩ ⟨Nat.le_of_ble_eq_true rfl, Nat.le_of_ble_eq_true rfl⟩ dX4_readItem_43) (fun H locs hP hS => ?_)
        exact ret_z M hS hP (congrArg (fun z : Bool × VV => (bI z.1, z.2)) (Option.some.inj hF)) (bI_nar r14) dX4_readItem_46
    · replace hF := (if_neg c1).symm.trans hF
      refine lv_aload_n hx hb dX4_readItem_8 rfl (lv_at hl 0 rfl) ?_
      refine lv_iload_n hx hb dX4_readItem_9 rfl (lv_at hl 2 rfl) ?_
      obtain ⟨r18, h17, hF⟩ := bi_some hF
      refine k_s hS (kS_run M hS hP ok_X4_38 (c_X4_wordOf l G x2 v r18 h17) rfl hl.1 rfl (Nat.le_of_ble_eq_true rfl) ⟨rfl, rfl⟩ ⟨Nat.le_of_ble_eq_true rfl, Nat.le_of_ble_eq_true rfl⟩ dX4_readItem_10) (fun H locs hP hS => ?_)
      obtain ⟨r20, h19, hF⟩ := bi_some hF
      refine k_i hS (kV_run M hS hP ok_X4_42 (c_X4_isAt l G r18 (str_X4_wordOf h17) v r20 h19) (rc_4 M hP rfl) rfl hl.1 rfl (Nat.le_of_ble_eq_true rfl) ⟨rfl, rfl⟩ ⟨Nat.le_of_ble_eq_true rfl, Nat.le_of_ble_eq_true rfl⟩ dX4_readItem_13) (fun H locs hP hS => ?_)
      refine lv_if_eq (tgt := 26) hx hb dX4_readItem_16 (by decide) (fun c21 => ?_) (fun c21 => ?_)
      · replace hF := (if_neg (bI_f c21)).symm.trans hF
        refine lv_iinc (v := (x2 + 1)) (lv' := [(2, .int (x2 + 1)), (0, .ref (ad G 23)), (1, .ref (ad G x1))]) hx hb dX4_readItem_26 hl (k := 2) rfl (iinc_eq _ (by decide)) (by decide) rfl (fun ls hl => ?_)
        refine lv_goto (tgt := 2) hx hb dX4_readItem_29 (by decide) ?_
        exact ih x1 (x2 + 1) hx1 _ _ _ ls hF hP hS (lv_sub hl [1, 2, 0] rfl)
      · replace hF := (if_pos (bI_t c21)).symm.trans hF
        refine lv_aload_n hx hb dX4_readItem_19 rfl (lv_at hl 0 rfl) ?_
        refine lv_aload_n hx hb dX4_readItem_20 rfl (lv_at hl 1 rfl) ?_
        refine lv_iload_n hx hb dX4_readItem_21 rfl (lv_at hl 2 rfl) ?_
        obtain ⟨⟨r23, v24⟩, h22, hF⟩ := bi_some hF
        dsimp only at hF
        refine k_i hS (kV_run M hS hP ok_X4_46 (c_X4_readKeeper l G x1 hx1 x2 v r23 v24 h22) (rc_4 M hP rfl) rfl hl.1 rfl (Nat.le_of_ble_eq_true rfl) ⟨rfl, rfl⟩ ⟨Nat.le_of_ble_eq_true rfl, Nat.le_of_ble_eq_true rfl⟩ dX4_readItem_22) (fun H locs hP hS => ?_)
        exact ret_z M hS hP (congrArg (fun z : Bool × VV => (bI z.1, z.2)) (Option.some.inj hF)) (bI_nar r23) dX4_readItem_25
set_option maxHeartbeats 4000000 in
set_option maxRecDepth 100000 in
theorem c_X4_readItem (l : Launch) (G : GG) (a1 : Nat) (ha1 : kd a1 = 1) (v : VV) (r : Bool) (v' : VV) (hF : F_X4_readItem a1 v = some (r, v')) : Met l yX4_readItem (cdW yX4_readItem cX4_readItem 3 (some .boolean)) ({ frames := 7, cells := 0, slots := 0, locals := 159 } : Room) (PC G v [.ref (ad G 23), .ref (ad G a1)]) (QI G (bI r) v') 0 0 (gA G) := by
  refine met_in RX4 (by decide) rfl (Nat.le_of_ble_eq_true rfl) ?_
  intro p e s m below meth c M hP ls hl
  have hx := M.1.1
  have hb := M.1.2.1
  have hS : va_S (gA G) s.heap s.heap [] := va_S.rf
  have hl : lv_has ls 3 [(0, .ref (ad G 23)), (1, .ref (ad G a1))] := hl
  unfold F_X4_readItem at hF
  refine lv_iconst (v := 0) hx hb dX4_readItem_0 (by decide) ?_
  refine lv_istore_n (lv' := [(2, .int 0), (0, .ref (ad G 23)), (1, .ref (ad G a1))]) hx hb dX4_readItem_1 rfl hl (by decide) rfl (fun ls hl => ?_)
  exact l_X4_readItem_2 M _ _ fu a1 0 ha1 _ _ _ ls hF hP hS (lv_sub hl [1, 2, 0] rfl)
def L_X4_readOnto_7 : Nat → Nat → Int32 → VV → Option (Int32 × VV)
  | 0, _, _, _ => none
  | n + 1, x1, x2, v =>
  if 120 < x2 then (some ((-1) - (v 23 3), v)) else (Option.bind (F_X4_step v) (fun v4 => Option.bind (F_X4_readItem x1 v4) (fun (r6, v7) => (if r6 = true then (if (v7 23 2) = 0 then (some (x2, v7)) else (if (v7 23 2) = 3 then (L_X4_readOnto_7 n x1 (x2 + 1) v7) else (some ((-1) - (v7 23 3), v7)))) else (some ((-1) - (v7 23 3), v7))))))
def F_X4_readOnto (a1 : Nat) (v : VV) : Option (Int32 × VV) :=
  L_X4_readOnto_7 fu a1 1 (pu v 23 4 0)
set_option maxHeartbeats 4000000 in
set_option maxRecDepth 100000 in
theorem l_X4_readOnto_7 {p : Program} {l : Launch} {e : Env} {s : State} {m : MethodId} {args : Array Value} {below : List Frame} {meth : Method} {c : Code} {G : GG} (M : Mx G RX4 cX4_readOnto 3 (some .int) p s m args meth c) (r : Int32) (v' : VV) : ∀ (n : Nat) (x1 : Nat) (x2 : Int32) (hx1 : kd x1 = 1) (v : VV) (H : Heap) (locs : List Loc) (ls : Array Slot), L_X4_readOnto_7 n x1 x2 v = some (r, v') → Wd G v H → va_S (gA G) s.heap H locs → lv_has ls 3 [(0, .ref (ad G 23)), (1, .ref (ad G x1)), (2, .int x2)] → W p l e ({ frames := 8, cells := 0, slots := 0, locals := 181 } : Room) s m args below meth c H locs 0 0 (MQ below (QI G r v') args s 0 0 (gA G)) (F0 m 7 ls []) := by
  have hx := M.1.1
  have hb := M.1.2.1
  intro n
  induction n with
  | zero =>
    intro x1 x2 hx1 v H locs ls hF hP hS hl
    rw [L_X4_readOnto_7] at hF
    cases hF
  | succ n ih =>
    intro x1 x2 hx1 v H locs ls hF hP hS hl
    rw [L_X4_readOnto_7] at hF
    refine lv_iload_n hx hb dX4_readOnto_7 rfl (lv_at hl 2 rfl) ?_
    refine lv_bipush (v := 120) hx hb dX4_readOnto_8 (by decide) ?_
    refine lv_icmp_gt (tgt := 62) hx hb dX4_readOnto_10 (by decide) (fun c1 => ?_) (fun c1 => ?_)
    · replace hF := (if_pos c1).symm.trans hF
      refine lv_iconst (v := (-1)) hx hb dX4_readOnto_62 (by decide) ?_
      refine lv_aload_n hx hb dX4_readOnto_63 rfl (lv_at hl 0 rfl) ?_
      refine fg_4_22 M hP dX4_readOnto_64 ?_
      refine lv_isub hx hb dX4_readOnto_67 ?_
      exact ret_i M hS hP (Option.some.inj hF) dX4_readOnto_68
    · replace hF := (if_neg c1).symm.trans hF
      refine lv_aload_n hx hb dX4_readOnto_13 rfl (lv_at hl 0 rfl) ?_
      obtain ⟨v4, h2, hF⟩ := bi_some hF
      refine k_v hS (kV_run M hS hP ok_X4_31 (c_X4_step l G v v4 h2) (rc_4 M hP rfl) rfl hl.1 rfl (Nat.le_of_ble_eq_true rfl) ⟨rfl, rfl⟩ ⟨Nat.le_of_ble_eq_true rfl, Nat.le_of_ble_eq_true rfl⟩ dX4_readOnto_14) (fun H locs hP hS => ?_)
      refine lv_aload_n hx hb dX4_readOnto_17 rfl (lv_at hl 0 rfl) ?_
      refine lv_aload_n hx hb dX4_readOnto_18 rfl (lv_at hl 1 rfl) ?_
      obtain ⟨⟨r6, v7⟩, h5, hF⟩ := bi_some hF
      dsimp only at hF
      refine k_i hS (kV_run M hS hP ok_X4_34 (c_X4_readItem l G x1 hx1 v4 r6 v7 h5) (rc_4 M hP rfl) rfl hl.1 rfl (Nat.le_of_ble_eq_true rfl) ⟨rfl, rfl⟩ ⟨Nat.le_of_ble_eq_true rfl, Nat.le_of_ble_eq_true rfl⟩ dX4_readOnto_19) (fun H locs hP hS => ?_)
      refine lv_if_ne (tgt := 32) hx hb dX4_readOnto_22 (by decide) (fun c9 => ?_) (fun c9 => ?_)
      · replace hF := (if_pos (bI_t c9)).symm.trans hF
        refine lv_aload_n hx hb dX4_readOnto_32 rfl (lv_at hl 0 rfl) ?_
        refine fg_4_19 M hP dX4_readOnto_33 ?_
        refine lv_if_ne (tgt := 41) hx hb dX4_readOnto_36 (by decide) (fun c10 => ?_) (fun c10 => ?_)
        · replace hF := (if_neg c10).symm.trans hF
          refine lv_aload_n hx hb dX4_readOnto_41 rfl (lv_at hl 0 rfl) ?_
          refine fg_4_19 M hP dX4_readOnto_42 ?_
          refine lv_iconst (v := 3) hx hb dX4_readOnto_45 (by decide) ?_
          refine lv_icmp_eq (tgt := 56) hx hb dX4_readOnto_46 (by decide) (fun c11 => ?_) (fun c11 => ?_)
          · replace hF := (if_pos c11).symm.trans hF
            refine lv_iinc (v := (x2 + 1)) (lv' := [(2, .int (x2 + 1)), (0, .ref (ad G 23)), (1, .ref (ad G x1))]) hx hb dX4_readOnto_56 hl (k := 2) rfl (iinc_eq _ (by decide)) (by decide) rfl (fun ls hl => ?_)
            refine lv_goto (tgt := 7) hx hb dX4_readOnto_59 (by decide) ?_
            exact ih x1 (x2 + 1) hx1 _ _ _ ls hF hP hS (lv_sub hl [1, 2, 0] rfl)
          · replace hF := (if_neg c11).symm.trans hF
            refine lv_iconst (v := (-1)) hx hb dX4_readOnto_49 (by decide) ?_
            refine lv_aload_n hx hb dX4_readOnto_50 rfl (lv_at hl 0 rfl) ?_
            refine fg_4_22 M hP dX4_readOnto_51 ?_
            refine lv_isub hx hb dX4_readOnto_54 ?_
            exact ret_i M hS hP (Option.some.inj hF) dX4_readOnto_55
        · replace hF := (if_pos c10).symm.trans hF
          refine lv_iload_n hx hb dX4_readOnto_39 rfl (lv_at hl 2 rfl) ?_
          exact ret_i M hS hP (Option.some.inj hF) dX4_readOnto_40
      · replace hF := (if_neg (bI_f c9)).symm.trans hF
        refine lv_iconst (v := (-1)) hx hb dX4_readOnto_25 (by decide) ?_
        refine lv_aload_n hx hb dX4_readOnto_26 rfl (lv_at hl 0 rfl) ?_
        refine fg_4_22 M hP dX4_readOnto_27 ?_
        refine lv_isub hx hb dX4_readOnto_30 ?_
        exact ret_i M hS hP (Option.some.inj hF) dX4_readOnto_31
set_option maxHeartbeats 4000000 in
set_option maxRecDepth 100000 in
theorem c_X4_readOnto (l : Launch) (G : GG) (a1 : Nat) (ha1 : kd a1 = 1) (v : VV) (r : Int32) (v' : VV) (hF : F_X4_readOnto a1 v = some (r, v')) : Met l yX4_readOnto (cdW yX4_readOnto cX4_readOnto 3 (some .int)) ({ frames := 8, cells := 0, slots := 0, locals := 181 } : Room) (PC G v [.ref (ad G 23), .ref (ad G a1)]) (QI G r v') 0 0 (gA G) := by
  refine met_in RX4 (by decide) rfl (Nat.le_of_ble_eq_true rfl) ?_
  intro p e s m below meth c M hP ls hl
  have hx := M.1.1
  have hb := M.1.2.1
  have hS : va_S (gA G) s.heap s.heap [] := va_S.rf
  have hl : lv_has ls 3 [(0, .ref (ad G 23)), (1, .ref (ad G a1))] := hl
  unfold F_X4_readOnto at hF
  refine lv_aload_n hx hb dX4_readOnto_0 rfl (lv_at hl 0 rfl) ?_
  refine lv_iconst (v := 0) hx hb dX4_readOnto_1 (by decide) ?_
  refine fp_4_25 M hS hP dX4_readOnto_2 (fun H locs hP hS => ?_)
  have hP : Wd G (pu v 23 4 0) H := hP
  refine lv_iconst (v := 1) hx hb dX4_readOnto_5 (by decide) ?_
  refine lv_istore_n (lv' := [(2, .int 1), (0, .ref (ad G 23)), (1, .ref (ad G a1))]) hx hb dX4_readOnto_6 rfl hl (by decide) rfl (fun ls hl => ?_)
  exact l_X4_readOnto_7 M _ _ fu a1 1 ha1 _ _ _ ls hF hP hS (lv_sub hl [1, 2, 0] rfl)
