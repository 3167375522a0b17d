theorem ok_X0_15 : okV RX0 15 RX0 yX0_hasLearnt cX0_hasLearnt 2 (some .boolean) 1 := okV_of w_321 w_322 w_323 w_5 w_324 (by decide +kernel)
theorem ok_X2_33 : okV RX2 33 RX2 yX2_tires cX2_tires 1 (some .int) 0 := okV_of w_330 w_249 w_250 w_4 w_251 (by decide +kernel)
theorem ok_X2_40 : okV RX2 40 RX2 yX2_turns cX2_turns 3 (some .int) 1 := okV_of w_334 w_255 w_256 w_4 w_257 (by decide +kernel)
def F_X0_begin (q0 : Nat) (a1 : Int32) (a2 : Int32) (v : VV) : Option VV :=
  some (pu (pu (pu (pu v (q0 + 6) 0 a1) (q0 + 6) 1 a2) (q0 + 6) 2 0) (q0 + 6) 3 0)
set_option maxHeartbeats 4000000 in
set_option maxRecDepth 100000 in
theorem c_X0_begin (l : Launch) (G : GG) (q0 : Nat) (hq0 : kd q0 = 0) (a1 : Int32) (a2 : Int32) (v : VV) (v' : VV) (hF : F_X0_begin q0 a1 a2 v = some v') : Met l yX0_begin (cdW yX0_begin cX0_begin 3 none) ({ frames := 0, cells := 0, slots := 0, locals := 0 } : Room) (PC G v [.ref (ad G q0), .int a1, .int a2]) (QV G v') 0 0 (gA G) := by
  refine met_in RX0 (by decide) rfl (Nat.le_of_ble_eq_true rfl) ?_
  intro p e s m below meth c M hP ls hl
  have hx := M.1.1
  have hb := M.1.2.1
  have hS : va_S (gA G) s.heap s.heap [] := va_S.rf
  have hl : lv_has ls 3 [(0, .ref (ad G q0)), (1, .int a1), (2, .int a2)] := hl
  unfold F_X0_begin at hF
  refine lv_aload_n hx hb dX0_begin_0 rfl (lv_at hl 0 rfl) ?_
  refine fg_0_9 M hP hq0 dX0_begin_1 ?_
  refine lv_iconst (v := 0) hx hb dX0_begin_4 (by decide) ?_
  refine lv_iload_n hx hb dX0_begin_5 rfl (lv_at hl 1 rfl) ?_
  refine r_iast (k := 0) M hS hP (ge_0k (i := q0) hq0) (ge_0l (i := q0) hq0) (in_c rfl) rfl dX0_begin_6 (fun H locs hP hS => ?_)
  have hP : Wd G (pu v (q0 + 6) 0 a1) H := hP
  refine lv_aload_n hx hb dX0_begin_7 rfl (lv_at hl 0 rfl) ?_
  refine fg_0_9 M hP hq0 dX0_begin_8 ?_
  refine lv_iconst (v := 1) hx hb dX0_begin_11 (by decide) ?_
  refine lv_iload_n hx hb dX0_begin_12 rfl (lv_at hl 2 rfl) ?_
  refine r_iast (k := 1) M hS hP (ge_0k (i := q0) hq0) (ge_0l (i := q0) hq0) (in_c rfl) rfl dX0_begin_13 (fun H locs hP hS => ?_)
  have hP : Wd G (pu (pu v (q0 + 6) 0 a1) (q0 + 6) 1 a2) H := hP
  refine lv_aload_n hx hb dX0_begin_14 rfl (lv_at hl 0 rfl) ?_
  refine fg_0_9 M hP hq0 dX0_begin_15 ?_
  refine lv_iconst (v := 2) hx hb dX0_begin_18 (by decide) ?_
  refine lv_iconst (v := 0) hx hb dX0_begin_19 (by decide) ?_
  refine r_iast (k := 2) M hS hP (ge_0k (i := q0) hq0) (ge_0l (i := q0) hq0) (in_c rfl) rfl dX0_begin_20 (fun H locs hP hS => ?_)
  have hP : Wd G (pu (pu (pu v (q0 + 6) 0 a1) (q0 + 6) 1 a2) (q0 + 6) 2 0) H := hP
  refine lv_aload_n hx hb dX0_begin_21 rfl (lv_at hl 0 rfl) ?_
  refine fg_0_9 M hP hq0 dX0_begin_22 ?_
  refine lv_iconst (v := 3) hx hb dX0_begin_25 (by decide) ?_
  refine lv_iconst (v := 0) hx hb dX0_begin_26 (by decide) ?_
  refine r_iast (k := 3) M hS hP (ge_0k (i := q0) hq0) (ge_0l (i := q0) hq0) (in_c rfl) rfl dX0_begin_27 (fun H locs hP hS => ?_)
  have hP : Wd G (pu (pu (pu (pu v (q0 + 6) 0 a1) (q0 + 6) 1 a2) (q0 + 6) 2 0) (q0 + 6) 3 0) H := hP
  exact ret_v M hS hP (Option.some.inj hF) dX0_begin_28
def F_X0_hasLearnt (q0 : Nat) (a1 : Int32) (v : VV) : Option Bool :=
  if ((v (q0 + 6) 2) &&& (1 <<< (a1 &&& 31))) = 0 then (some false) else (some true)
set_option maxHeartbeats 4000000 in
set_option maxRecDepth 100000 in
theorem c_X0_hasLearnt (l : Launch) (G : GG) (q0 : Nat) (hq0 : kd q0 = 0) (a1 : Int32) (v : VV) (r : Bool) (hF : F_X0_hasLearnt q0 a1 v = some r) : Met l yX0_hasLearnt (cdW yX0_hasLearnt cX0_hasLearnt 2 (some .boolean)) ({ frames := 0, cells := 0, slots := 0, locals := 0 } : Room) (PC G v [.ref (ad G q0), .int a1]) (QI G (bI r) v) 0 0 (gA G) := by
  refine met_in RX0 (by decide) rfl (Nat.le_of_ble_eq_true rfl) ?_
  intro p e s m below meth c M hP ls hl
  have hx := M.1.1
  have hb := M.1.2.1
  have hS : va_S (gA G) s.heap s.heap [] := va_S.rf
  have hl : lv_has ls 2 [(0, .ref (ad G q0)), (1, .int a1)] := hl
  unfold F_X0_hasLearnt at hF
  refine lv_aload_n hx hb dX0_hasLearnt_0 rfl (lv_at hl 0 rfl) ?_
  refine fg_0_9 M hP hq0 dX0_hasLearnt_1 ?_
  refine lv_iconst (v := 2) hx hb dX0_hasLearnt_4 (by decide) ?_
  refine r_iald (k := 2) M hP (ge_0k (i := q0) hq0) (ge_0l (i := q0) hq0) (in_c rfl) rfl dX0_hasLearnt_5 ?_
  refine lv_iconst (v := 1) hx hb dX0_hasLearnt_6 (by decide) ?_
  refine lv_iload_n hx hb dX0_hasLearnt_7 rfl (lv_at hl 1 rfl) ?_
  refine lv_ishl hx hb dX0_hasLearnt_8 ?_
  refine lv_iand hx hb dX0_hasLearnt_9 ?_
  refine lv_if_eq (tgt := 17) hx hb dX0_hasLearnt_10 (by decide) (fun c1 => ?_) (fun c1 => ?_)
  · replace hF := (if_pos c1).symm.trans hF
    refine lv_iconst (v := 0) hx hb dX0_hasLearnt_17 (by decide) ?_
    exact ret_z M hS hP (congrArg (fun z : Bool => (bI z, v)) (Option.some.inj hF)) rfl dX0_hasLearnt_18
  · replace hF := (if_neg c1).symm.trans hF
    refine lv_iconst (v := 1) hx hb dX0_hasLearnt_13 (by decide) ?_
    refine lv_goto (tgt := 18) hx hb dX0_hasLearnt_14 (by decide) ?_
    exact ret_z M hS hP (congrArg (fun z : Bool => (bI z, v)) (Option.some.inj hF)) rfl dX0_hasLearnt_18
def F_X0_hear (q0 : Nat) (a1 : Int32) (a2 : Int32) (v : VV) : Option VV :=
  Option.bind (F_X0_hasLearnt q0 a1 v) (fun r2 => (if r2 = true then (some v) else (if a1 = 0 then (if (v (q0 + 6) 1) < a2 then (some (pu v (q0 + 6) 3 ((v (q0 + 6) 3) ||| (1 <<< (a1 &&& 31))))) else (some (pu (pu v (q0 + 6) 2 ((v (q0 + 6) 2) ||| (1 <<< (a1 &&& 31)))) (q0 + 6) 3 (((pu v (q0 + 6) 2 ((v (q0 + 6) 2) ||| (1 <<< (a1 &&& 31)))) (q0 + 6) 3) &&& ((1 <<< (a1 &&& 31)) ^^^ (-1)))))) else (Option.bind (F_X0_hasLearnt q0 (a1 - 1) v) (fun r8 => (if r8 = true then (if (v (q0 + 6) 1) < a2 then (some (pu v (q0 + 6) 3 ((v (q0 + 6) 3) ||| (1 <<< (a1 &&& 31))))) else (some (pu (pu v (q0 + 6) 2 ((v (q0 + 6) 2) ||| (1 <<< (a1 &&& 31)))) (q0 + 6) 3 (((pu v (q0 + 6) 2 ((v (q0 + 6) 2) ||| (1 <<< (a1 &&& 31)))) (q0 + 6) 3) &&& ((1 <<< (a1 &&& 31)) ^^^ (-1)))))) else (if (v (q0 + 6) 1) < a2 then (some (pu v (q0 + 6) 3 ((v (q0 + 6) 3) ||| (1 <<< (a1 &&& 31))))) else (some (pu v (q0 + 6) 3 ((v (q0 + 6) 3) ||| (1 <<< (a1 &&& 31))))))))))))
set_option maxHeartbeats 4000000 in
set_option maxRecDepth 100000 in
theorem c_X0_hear (l : Launch) (G : GG) (q0 : Nat) (hq0 : kd q0 = 0) (a1 : Int32) (a2 : Int32) (v : VV) (v' : VV) (hF : F_X0_hear q0 a1 a2 v = some v') : Met l yX0_hear (cdW yX0_hear cX0_hear 4 none) ({ frames := 1, cells := 0, slots := 0, locals := 21 } : Room) (PC G v [.ref (ad G q0), .int a1, .int a2]) (QV G v') 0 0 (gA G) := by
  refine met_in RX0 (by decide) rfl (Nat.le_of_ble_eq_true rfl) ?_
  intro p e s m below meth c M hP ls hl
  have hx := M.1.1
  have hb := M.1.2.1
  have hS : va_S (gA G) s.heap s.heap [] := va_S.rf
  have hl : lv_has ls 4 [(0, .ref (ad G q0)), (1, .int a1), (2, .int a2)] := hl
  unfold F_X0_hear at hF
  refine lv_aload_n hx hb dX0_hear_0 rfl (lv_at hl 0 rfl) ?_
  refine lv_iload_n hx hb dX0_hear_1 rfl (lv_at hl 1 rfl) ?_
  obtain ⟨r2, h1, hF⟩ := bi_some hF
  refine k_i hS (kV_run M hS hP ok_X0_15 (c_X0_hasLearnt l G q0 hq0 a1 v r2 h1) (rc_0 M hP hq0) rfl hl.1 rfl (Nat.le_of_ble_eq_true rfl) ⟨rfl, rfl⟩ ⟨Nat.le_of_ble_eq_true rfl, Nat.le_of_ble_eq_true rfl⟩ dX0_hear_2) (fun H locs hP hS => ?_)
  refine lv_if_eq (tgt := 9) hx hb dX0_hear_5 (by decide) (fun c3 => ?_) (fun c3 => ?_)
  · replace hF := (if_neg (bI_f c3)).symm.trans hF
    refine lv_iload_n hx hb dX0_hear_9 rfl (lv_at hl 1 rfl) ?_
    refine lv_if_eq (tgt := 23) hx hb dX0_hear_10 (by decide) (fun c4 => ?_) (fun c4 => ?_)
    · replace hF := (if_pos c4).symm.trans hF
      refine lv_iconst (v := 1) hx hb dX0_hear_23 (by decide) ?_
      refine lv_goto (tgt := 28) hx hb dX0_hear_24 (by decide) ?_
      refine lv_istore_n (lv' := [(3, .int 1), (0, .ref (ad G q0)), (1, .int a1), (2, .int a2)]) hx hb dX0_hear_28 rfl hl (by decide) rfl (fun ls hl => ?_)
      refine lv_aload_n hx hb dX0_hear_29 rfl (lv_at hl 1 rfl) ?_
      refine fg_0_9 M hP hq0 dX0_hear_30 ?_
      refine lv_iconst (v := 1) hx hb dX0_hear_33 (by decide) ?_
      refine r_iald (k := 1) M hP (ge_0k (i := q0) hq0) (ge_0l (i := q0) hq0) (in_c rfl) rfl dX0_hear_34 ?_
      refine lv_iload_n hx hb dX0_hear_35 rfl (lv_at hl 3 rfl) ?_
      refine lv_icmp_lt (tgt := 72) hx hb dX0_hear_36 (by decide) (fun c5 => ?_) (fun c5 => ?_)
      · replace hF := (if_pos c5).symm.trans hF
        refine lv_aload_n hx hb dX0_hear_72 rfl (lv_at hl 1 rfl) ?_
        refine fg_0_9 M hP hq0 dX0_hear_73 ?_
        refine lv_iconst (v := 3) hx hb dX0_hear_76 (by decide) ?_
        refine lv_dup2_11 hx hb dX0_hear_77 rfl rfl ?_
        refine r_iald (k := 3) M hP (ge_0k (i := q0) hq0) (ge_0l (i := q0) hq0) (in_c rfl) rfl dX0_hear_78 ?_
        refine lv_iconst (v := 1) hx hb dX0_hear_79 (by decide) ?_
        refine lv_iload_n hx hb dX0_hear_80 rfl (lv_at hl 2 rfl) ?_
        refine lv_ishl hx hb dX0_hear_81 ?_
        refine lv_ior hx hb dX0_hear_82 ?_
        refine r_iast (k := 3) M hS hP (ge_0k (i := q0) hq0) (ge_0l (i := q0) hq0) (in_c rfl) rfl dX0_hear_83 (fun H locs hP hS => ?_)
        have hP : Wd G (pu v (q0 + 6) 3 ((v (q0 + 6) 3) ||| (1 <<< (a1 &&& 31)))) H := hP
        exact ret_v M hS hP (Option.some.inj hF) dX0_hear_84
      · replace hF := (if_neg c5).symm.trans hF
        refine lv_iload_n hx hb dX0_hear_39 rfl (lv_at hl 0 rfl) ?_
        refine lv_if_eq (tgt := 72) hx hb dX0_hear_40 (by decide) (fun c6 => ?_) (fun c6 => ?_)
        · exact absurd c6 (by decide)
        · refine lv_aload_n hx hb dX0_hear_43 rfl (lv_at hl 1 rfl) ?_
          refine fg_0_9 M hP hq0 dX0_hear_44 ?_
          refine lv_iconst (v := 2) hx hb dX0_hear_47 (by decide) ?_
          refine lv_dup2_11 hx hb dX0_hear_48 rfl rfl ?_
          refine r_iald (k := 2) M hP (ge_0k (i := q0) hq0) (ge_0l (i := q0) hq0) (in_c rfl) rfl dX0_hear_49 ?_
          refine lv_iconst (v := 1) hx hb dX0_hear_50 (by decide) ?_
          refine lv_iload_n hx hb dX0_hear_51 rfl (lv_at hl 2 rfl) ?_
          refine lv_ishl hx hb dX0_hear_52 ?_
          refine lv_ior hx hb dX0_hear_53 ?_
          refine r_iast (k := 2) M hS hP (ge_0k (i := q0) hq0) (ge_0l (i := q0) hq0) (in_c rfl) rfl dX0_hear_54 (fun H locs hP hS => ?_)
          have hP : Wd G (pu v (q0 + 6) 2 ((v (q0 + 6) 2) ||| (1 <<< (a1 &&& 31)))) H := hP
          refine lv_aload_n hx hb dX0_hear_55 rfl (lv_at hl 1 rfl) ?_
          refine fg_0_9 M hP hq0 dX0_hear_56 ?_
          refine lv_iconst (v := 3) hx hb dX0_hear_59 (by decide) ?_
          refine lv_dup2_11 hx hb dX0_hear_60 rfl rfl ?_
          refine r_iald (k := 3) M hP (ge_0k (i := q0) hq0) (ge_0l (i := q0) hq0) (in_c rfl) rfl dX0_hear_61 ?_
          refine lv_iconst (v := 1) hx hb dX0_hear_62 (by decide) ?_
          refine lv_iload_n hx hb dX0_hear_63 rfl (lv_at hl 2 rfl) ?_
          refine lv_ishl hx hb dX0_hear_64 ?_
          refine lv_iconst (v := (-1)) hx hb dX0_hear_65 (by decide) ?_
          refine lv_ixor hx hb dX0_hear_66 ?_
          refine lv_iand hx hb dX0_hear_67 ?_
          refine r_iast (k := 3) M hS hP (ge_0k (i := q0) hq0) (ge_0l (i := q0) hq0) (in_c rfl) rfl dX0_hear_68 (fun H locs hP hS => ?_)
          have hP : Wd G (pu (pu v (q0 + 6) 2 ((v (q0 + 6) 2) ||| (1 <<< (a1 &&& 31)))) (q0 + 6) 3 (((pu v (q0 + 6) 2 ((v (q0 + 6) 2) ||| (1 <<< (a1 &&& 31)))) (q0 + 6) 3) &&& ((1 <<< (a1 &&& 31)) ^^^ (-1)))) H := hP
          refine lv_goto (tgt := 84) hx hb dX0_hear_69 (by decide) ?_
          exact ret_v M hS hP (Option.some.inj hF) dX0_hear_84
    · replace hF := (if_neg c4).symm.trans hF
      refine lv_aload_n hx hb dX0_hear_13 rfl (lv_at hl 0 rfl) ?_
      refine lv_iload_n hx hb dX0_hear_14 rfl (lv_at hl 1 rfl) ?_
      refine lv_iconst (v := 1) hx hb dX0_hear_15 (by decide) ?_
      refine lv_isub hx hb dX0_hear_16 ?_
      obtain ⟨r8, h7, hF⟩ := bi_some hF
      refine k_i hS (kV_run M hS hP ok_X0_15 (c_X0_hasLearnt l G q0 hq0 (a1 - 1) v r8 h7) (rc_0 M hP hq0) rfl hl.1 rfl (Nat.le_of_ble_eq_true rfl) ⟨rfl, rfl⟩ ⟨Nat.le_of_ble_eq_true rfl, Nat.le_of_ble_eq_true rfl⟩ dX0_hear_17) (fun H locs hP hS => ?_)
      refine lv_if_eq (tgt := 27) hx hb dX0_hear_20 (by decide) (fun c9 => ?_) (fun c9 => ?_)
      · replace hF := (if_neg (bI_f c9)).symm.trans hF
        refine lv_iconst (v := 0) hx hb dX0_hear_27 (by decide) ?_
        refine lv_istore_n (lv' := [(3, .int 0), (0, .ref (ad G q0)), (1, .int a1), (2, .int a2)]) hx hb dX0_hear_28 rfl hl (by decide) rfl (fun ls hl => ?_)
        refine lv_aload_n hx hb dX0_hear_29 rfl (lv_at hl 1 rfl) ?_
        refine fg_0_9 M hP hq0 dX0_hear_30 ?_
        refine lv_iconst (v := 1) hx hb dX0_hear_33 (by decide) ?_
        refine r_iald (k := 1) M hP (ge_0k (i := q0) hq0) (ge_0l (i := q0) hq0) (in_c rfl) rfl dX0_hear_34 ?_
        refine lv_iload_n hx hb dX0_hear_35 rfl (lv_at hl 3 rfl) ?_
        refine lv_icmp_lt (tgt := 72) hx hb dX0_hear_36 (by decide) (fun c10 => ?_) (fun c10 => ?_)
        · replace hF := (if_pos c10).symm.trans hF
          refine lv_aload_n hx hb dX0_hear_72 rfl (lv_at hl 1 rfl) ?_
          refine fg_0_9 M hP hq0 dX0_hear_73 ?_
          refine lv_iconst (v := 3) hx hb dX0_hear_76 (by decide) ?_
          refine lv_dup2_11 hx hb dX0_hear_77 rfl rfl ?_
          refine r_iald (k := 3) M hP (ge_0k (i := q0) hq0) (ge_0l (i := q0) hq0) (in_c rfl) rfl dX0_hear_78 ?_
          refine lv_iconst (v := 1) hx hb dX0_hear_79 (by decide) ?_
          refine lv_iload_n hx hb dX0_hear_80 rfl (lv_at hl 2 rfl) ?_
          refine lv_ishl hx hb dX0_hear_81 ?_
          refine lv_ior hx hb dX0_hear_82 ?_
          refine r_iast (k := 3) M hS hP (ge_0k (i := q0) hq0) (ge_0l (i := q0) hq0) (in_c rfl) rfl dX0_hear_83 (fun H locs hP hS => ?_)
          have hP : Wd G (pu v (q0 + 6) 3 ((v (q0 + 6) 3) ||| (1 <<< (a1 &&& 31)))) H := hP
          exact ret_v M hS hP (Option.some.inj hF) dX0_hear_84
        · replace hF := (if_neg c10).symm.trans hF
          refine lv_iload_n hx hb dX0_hear_39 rfl (lv_at hl 0 rfl) ?_
          refine lv_if_eq (tgt := 72) hx hb dX0_hear_40 (by decide) (fun c11 => ?_) (fun c11 => ?_)
          · refine lv_aload_n hx hb dX0_hear_72 rfl (lv_at hl 1 rfl) ?_
            refine fg_0_9 M hP hq0 dX0_hear_73 ?_
            refine lv_iconst (v := 3) hx hb dX0_hear_76 (by decide) ?_
            refine lv_dup2_11 hx hb dX0_hear_77 rfl rfl ?_
            refine r_iald (k := 3) M hP (ge_0k (i := q0) hq0) (ge_0l (i := q0) hq0) (in_c rfl) rfl dX0_hear_78 ?_
            refine lv_iconst (v := 1) hx hb dX0_hear_79 (by decide) ?_
            refine lv_iload_n hx hb dX0_hear_80 rfl (lv_at hl 2 rfl) ?_
            refine lv_ishl hx hb dX0_hear_81 ?_
            refine lv_ior hx hb dX0_hear_82 ?_
            refine r_iast (k := 3) M hS hP (ge_0k (i := q0) hq0) (ge_0l (i := q0) hq0) (in_c rfl) rfl dX0_hear_83 (fun H locs hP hS => ?_)
            have hP : Wd G (pu v (q0 + 6) 3 ((v (q0 + 6) 3) ||| (1 <<< (a1 &&& 31)))) H := hP
            exact ret_v M hS hP (Option.some.inj hF) dX0_hear_84
          · exact absurd c11 (by decide)
      · replace hF := (if_pos (bI_t c9)).symm.trans hF
        refine lv_iconst (v := 1) hx hb dX0_hear_23 (by decide) ?_
        refine lv_goto (tgt := 28) hx hb dX0_hear_24 (by decide) ?_
        refine lv_istore_n (lv' := [(3, .int 1), (0, .ref (ad G q0)), (1, .int a1), (2, .int a2)]) hx hb dX0_hear_28 rfl hl (by decide) rfl (fun ls hl => ?_)
        refine lv_aload_n hx hb dX0_hear_29 rfl (lv_at hl 1 rfl) ?_
        refine fg_0_9 M hP hq0 dX0_hear_30 ?_
        refine lv_iconst (v := 1) hx hb dX0_hear_33 (by decide) ?_
        refine r_iald (k := 1) M hP (ge_0k (i := q0) hq0) (ge_0l (i := q0) hq0) (in_c rfl) rfl dX0_hear_34 ?_
        refine lv_iload_n hx hb dX0_hear_35 rfl (lv_at hl 3 rfl) ?_
        refine lv_icmp_lt (tgt := 72) hx hb dX0_hear_36 (by decide) (fun c12 => ?_) (fun c12 => ?_)
        · replace hF := (if_pos c12).symm.trans hF
          refine lv_aload_n hx hb dX0_hear_72 rfl (lv_at hl 1 rfl) ?_
          refine fg_0_9 M hP hq0 dX0_hear_73 ?_
          refine lv_iconst (v := 3) hx hb dX0_hear_76 (by decide) ?_
          refine lv_dup2_11 hx hb dX0_hear_77 rfl rfl ?_
          refine r_iald (k := 3) M hP (ge_0k (i := q0) hq0) (ge_0l (i := q0) hq0) (in_c rfl) rfl dX0_hear_78 ?_
          refine lv_iconst (v := 1) hx hb dX0_hear_79 (by decide) ?_
          refine lv_iload_n hx hb dX0_hear_80 rfl (lv_at hl 2 rfl) ?_
          refine lv_ishl hx hb dX0_hear_81 ?_
          refine lv_ior hx hb dX0_hear_82 ?_
          refine r_iast (k := 3) M hS hP (ge_0k (i := q0) hq0) (ge_0l (i := q0) hq0) (in_c rfl) rfl dX0_hear_83 (fun H locs hP hS => ?_)
          have hP : Wd G (pu v (q0 + 6) 3 ((v (q0 + 6) 3) ||| (1 <<< (a1 &&& 31)))) H := hP
          exact ret_v M hS hP (Option.some.inj hF) dX0_hear_84
        · replace hF := (if_neg c12).symm.trans hF
          refine lv_iload_n hx hb dX0_hear_39 rfl (lv_at hl 0 rfl) ?_
          refine lv_if_eq (tgt := 72) hx hb dX0_hear_40 (by decide) (fun c13 => ?_) (fun c13 => ?_)
          · exact absurd c13 (by decide)
          · refine lv_aload_n hx hb dX0_hear_43 rfl (lv_at hl 1 rfl) ?_
            refine fg_0_9 M hP hq0 dX0_hear_44 ?_
            refine lv_iconst (v := 2) hx hb dX0_hear_47 (by decide) ?_
            refine lv_dup2_11 hx hb dX0_hear_48 rfl rfl ?_
            refine r_iald (k := 2) M hP (ge_0k (i := q0) hq0) (ge_0l (i := q0) hq0) (in_c rfl) rfl dX0_hear_49 ?_
            refine lv_iconst (v := 1) hx hb dX0_hear_50 (by decide) ?_
            refine lv_iload_n hx hb dX0_hear_51 rfl (lv_at hl 2 rfl) ?_
            refine lv_ishl hx hb dX0_hear_52 ?_
            refine lv_ior hx hb dX0_hear_53 ?_
            refine r_iast (k := 2) M hS hP (ge_0k (i := q0) hq0) (ge_0l (i := q0) hq0) (in_c rfl) rfl dX0_hear_54 (fun H locs hP hS => ?_)
            have hP : Wd G (pu v (q0 + 6) 2 ((v (q0 + 6) 2) ||| (1 <<< (a1 &&& 31)))) H := hP
            refine lv_aload_n hx hb dX0_hear_55 rfl (lv_at hl 1 rfl) ?_
            refine fg_0_9 M hP hq0 dX0_hear_56 ?_
            refine lv_iconst (v := 3) hx hb dX0_hear_59 (by decide) ?_
            refine lv_dup2_11 hx hb dX0_hear_60 rfl rfl ?_
            refine r_iald (k := 3) M hP (ge_0k (i := q0) hq0) (ge_0l (i := q0) hq0) (in_c rfl) rfl dX0_hear_61 ?_
            refine lv_iconst (v := 1) hx hb dX0_hear_62 (by decide) ?_
            refine lv_iload_n hx hb dX0_hear_63 rfl (lv_at hl 2 rfl) ?_
            refine lv_ishl hx hb dX0_hear_64 ?_
            refine lv_iconst (v := (-1)) hx hb dX0_hear_65 (by decide) ?_
            refine lv_ixor hx hb dX0_hear_66 ?_
            refine lv_iand hx hb dX0_hear_67 ?_
            refine r_iast (k := 3) M hS hP (ge_0k (i := q0) hq0) (ge_0l (i := q0) hq0) (in_c rfl) rfl dX0_hear_68 (fun H locs hP hS => ?_)
            have hP : Wd G (pu (pu v (q0 + 6) 2 ((v (q0 + 6) 2) ||| (1 <<< (a1 &&& 31)))) (q0 + 6) 3 (((pu v (q0 + 6) 2 ((v (q0 + 6) 2) ||| (1 <<< (a1 &&& 31)))) (q0 + 6) 3) &&& ((1 <<< (a1 &&& 31)) ^^^ (-1)))) H := hP
            refine lv_goto (tgt := 84) hx hb dX0_hear_69 (by decide) ?_
            exact ret_v M hS hP (Option.some.inj hF) dX0_hear_84
  · replace hF := (if_pos (bI_t c3)).symm.trans hF
    exact ret_v M hS hP (Option.some.inj hF) dX0_hear_8
def F_X0_rowOn (q0 : Nat) (v : VV) : Option VV :=
  if 15 ≤ (v (q0 + 6) 0) then (some (pu v (q0 + 6) 0 0)) else (some (pu v (q0 + 6) 0 ((v (q0 + 6) 0) + 1)))
set_option maxHeartbeats 4000000 in
set_option maxRecDepth 100000 in
theorem c_X0_rowOn (l : Launch) (G : GG) (q0 : Nat) (hq0 : kd q0 = 0) (v : VV) (v' : VV) (hF : F_X0_rowOn q0 v = some v') : Met l yX0_rowOn (cdW yX0_rowOn cX0_rowOn 1 none) ({ frames := 0, cells := 0, slots := 0, locals := 0 } : Room) (PC G v [.ref (ad G q0)]) (QV G v') 0 0 (gA G) := by
  refine met_in RX0 (by decide) rfl (Nat.le_of_ble_eq_true rfl) ?_
  intro p e s m below meth c M hP ls hl
  have hx := M.1.1
  have hb := M.1.2.1
  have hS : va_S (gA G) s.heap s.heap [] := va_S.rf
  have hl : lv_has ls 1 [(0, .ref (ad G q0))] := hl
  unfold F_X0_rowOn at hF
  refine lv_aload_n hx hb dX0_rowOn_0 rfl (lv_at hl 0 rfl) ?_
  refine fg_0_9 M hP hq0 dX0_rowOn_1 ?_
  refine lv_iconst (v := 0) hx hb dX0_rowOn_4 (by decide) ?_
  refine lv_aload_n hx hb dX0_rowOn_5 rfl (lv_at hl 0 rfl) ?_
  refine fg_0_9 M hP hq0 dX0_rowOn_6 ?_
  refine lv_iconst (v := 0) hx hb dX0_rowOn_9 (by decide) ?_
  refine r_iald (k := 0) M hP (ge_0k (i := q0) hq0) (ge_0l (i := q0) hq0) (in_c rfl) rfl dX0_rowOn_10 ?_
  refine lv_bipush (v := 15) hx hb dX0_rowOn_11 (by decide) ?_
  refine lv_icmp_ge (tgt := 27) hx hb dX0_rowOn_13 (by decide) (fun c1 => ?_) (fun c1 => ?_)
  · replace hF := (if_pos c1).symm.trans hF
    refine lv_iconst (v := 0) hx hb dX0_rowOn_27 (by decide) ?_
    refine r_iast (k := 0) M hS hP (ge_0k (i := q0) hq0) (ge_0l (i := q0) hq0) (in_c rfl) rfl dX0_rowOn_28 (fun H locs hP hS => ?_)
    have hP : Wd G (pu v (q0 + 6) 0 0) H := hP
    exact ret_v M hS hP (Option.some.inj hF) dX0_rowOn_29
  · replace hF := (if_neg c1).symm.trans hF
    refine lv_aload_n hx hb dX0_rowOn_16 rfl (lv_at hl 0 rfl) ?_
    refine fg_0_9 M hP hq0 dX0_rowOn_17 ?_
    refine lv_iconst (v := 0) hx hb dX0_rowOn_20 (by decide) ?_
    refine r_iald (k := 0) M hP (ge_0k (i := q0) hq0) (ge_0l (i := q0) hq0) (in_c rfl) rfl dX0_rowOn_21 ?_
    refine lv_iconst (v := 1) hx hb dX0_rowOn_22 (by decide) ?_
    refine lv_iadd hx hb dX0_rowOn_23 ?_
    refine lv_goto (tgt := 28) hx hb dX0_rowOn_24 (by decide) ?_
    refine r_iast (k := 0) M hS hP (ge_0k (i := q0) hq0) (ge_0l (i := q0) hq0) (in_c rfl) rfl dX0_rowOn_28 (fun H locs hP hS => ?_)
    have hP : Wd G (pu v (q0 + 6) 0 ((v (q0 + 6) 0) + 1)) H := hP
    exact ret_v M hS hP (Option.some.inj hF) dX0_rowOn_29
def F_X2_begin (q0 : Nat) (a1 : Int32) (a2 : Int32) (v : VV) : Option VV :=
  some (pu (pu (pu (pu (pu (pu v (q0 + 8) 0 a1) (q0 + 8) 1 a2) (q0 + 8) 2 0) (q0 + 8) 3 6) (q0 + 8) 4 0) (q0 + 8) 5 0)
set_option maxHeartbeats 4000000 in
set_option maxRecDepth 100000 in
theorem c_X2_begin (l : Launch) (G : GG) (q0 : Nat) (hq0 : kd q0 = 2) (a1 : Int32) (a2 : Int32) (v : VV) (v' : VV) (hF : F_X2_begin q0 a1 a2 v = some v') : Met l yX2_begin (cdW yX2_begin cX2_begin 3 none) ({ frames := 0, cells := 0, slots := 0, locals := 0 } : Room) (PC G v [.ref (ad G q0), .int a1, .int a2]) (QV G v') 0 0 (gA G) := by
  refine met_in RX2 (by decide) rfl (Nat.le_of_ble_eq_true rfl) ?_
  intro p e s m below meth c M hP ls hl
  have hx := M.1.1
  have hb := M.1.2.1
  have hS : va_S (gA G) s.heap s.heap [] := va_S.rf
  have hl : lv_has ls 3 [(0, .ref (ad G q0)), (1, .int a1), (2, .int a2)] := hl
  unfold F_X2_begin at hF
  refine lv_aload_n hx hb dX2_begin_0 rfl (lv_at hl 0 rfl) ?_
  refine fg_2_9 M hP hq0 dX2_begin_1 ?_
  refine lv_iconst (v := 0) hx hb dX2_begin_4 (by decide) ?_
  refine lv_iload_n hx hb dX2_begin_5 rfl (lv_at hl 1 rfl) ?_
  refine r_iast (k := 0) M hS hP (ge_2k (i := q0) hq0) (ge_2l (i := q0) hq0) (in_c rfl) rfl dX2_begin_6 (fun H locs hP hS => ?_)
  have hP : Wd G (pu v (q0 + 8) 0 a1) H := hP
  refine lv_aload_n hx hb dX2_begin_7 rfl (lv_at hl 0 rfl) ?_
  refine fg_2_9 M hP hq0 dX2_begin_8 ?_
  refine lv_iconst (v := 1) hx hb dX2_begin_11 (by decide) ?_
  refine lv_iload_n hx hb dX2_begin_12 rfl (lv_at hl 2 rfl) ?_
  refine r_iast (k := 1) M hS hP (ge_2k (i := q0) hq0) (ge_2l (i := q0) hq0) (in_c rfl) rfl dX2_begin_13 (fun H locs hP hS => ?_)
  have hP : Wd G (pu (pu v (q0 + 8) 0 a1) (q0 + 8) 1 a2) H := hP
  refine lv_aload_n hx hb dX2_begin_14 rfl (lv_at hl 0 rfl) ?_
  refine fg_2_9 M hP hq0 dX2_begin_15 ?_
  refine lv_iconst (v := 2) hx hb dX2_begin_18 (by decide) ?_
  refine lv_iconst (v := 0) hx hb dX2_begin_19 (by decide) ?_
  refine r_iast (k := 2) M hS hP (ge_2k (i := q0) hq0) (ge_2l (i := q0) hq0) (in_c rfl) rfl dX2_begin_20 (fun H locs hP hS => ?_)
  have hP : Wd G (pu (pu (pu v (q0 + 8) 0 a1) (q0 + 8) 1 a2) (q0 + 8) 2 0) H := hP
  refine lv_aload_n hx hb dX2_begin_21 rfl (lv_at hl 0 rfl) ?_
  refine fg_2_9 M hP hq0 dX2_begin_22 ?_
  refine lv_iconst (v := 3) hx hb dX2_begin_25 (by decide) ?_
  refine lv_bipush (v := 6) hx hb dX2_begin_26 (by decide) ?_
  refine r_iast (k := 3) M hS hP (ge_2k (i := q0) hq0) (ge_2l (i := q0) hq0) (in_c rfl) rfl dX2_begin_28 (fun H locs hP hS => ?_)
  have hP : Wd G (pu (pu (pu (pu v (q0 + 8) 0 a1) (q0 + 8) 1 a2) (q0 + 8) 2 0) (q0 + 8) 3 6) H := hP
  refine lv_aload_n hx hb dX2_begin_29 rfl (lv_at hl 0 rfl) ?_
  refine fg_2_9 M hP hq0 dX2_begin_30 ?_
  refine lv_iconst (v := 4) hx hb dX2_begin_33 (by decide) ?_
  refine lv_iconst (v := 0) hx hb dX2_begin_34 (by decide) ?_
  refine r_iast (k := 4) M hS hP (ge_2k (i := q0) hq0) (ge_2l (i := q0) hq0) (in_c rfl) rfl dX2_begin_35 (fun H locs hP hS => ?_)
  have hP : Wd G (pu (pu (pu (pu (pu v (q0 + 8) 0 a1) (q0 + 8) 1 a2) (q0 + 8) 2 0) (q0 + 8) 3 6) (q0 + 8) 4 0) H := hP
  refine lv_aload_n hx hb dX2_begin_36 rfl (lv_at hl 0 rfl) ?_
  refine fg_2_9 M hP hq0 dX2_begin_37 ?_
  refine lv_iconst (v := 5) hx hb dX2_begin_40 (by decide) ?_
  refine lv_iconst (v := 0) hx hb dX2_begin_41 (by decide) ?_
  refine r_iast (k := 5) M hS hP (ge_2k (i := q0) hq0) (ge_2l (i := q0) hq0) (in_c rfl) rfl dX2_begin_42 (fun H locs hP hS => ?_)
  have hP : Wd G (pu (pu (pu (pu (pu (pu v (q0 + 8) 0 a1) (q0 + 8) 1 a2) (q0 + 8) 2 0) (q0 + 8) 3 6) (q0 + 8) 4 0) (q0 + 8) 5 0) H := hP
  exact ret_v M hS hP (Option.some.inj hF) dX2_begin_43
def F_X2_gives (q0 : Nat) (a1 : Int32) (v : VV) : Option Int32 :=
  if (v (q0 + 8) 0) = 2 then (some (((v (q0 + 8) 2) + (v (q0 + 8) 4)) - ((v (q0 + 8) 2) + (v (q0 + 8) 4)) / 12 * 12)) else (if (v (q0 + 8) 0) = 3 then (some ((((v (q0 + 8) 2) + (v (q0 + 8) 4)) + a1) - (((v (q0 + 8) 2) + (v (q0 + 8) 4)) + a1) / 12 * 12)) else (if (v (q0 + 8) 0) = 4 then (some 0) else (if (v (q0 + 8) 0) = 5 then (some (11 - (v (q0 + 8) 2))) else (if (v (q0 + 8) 0) = 6 then (some (((v (q0 + 8) 2) + 11) - ((v (q0 + 8) 2) + 11) / 12 * 12)) else (some (v (q0 + 8) 2))))))
set_option maxHeartbeats 4000000 in
set_option maxRecDepth 100000 in
theorem c_X2_gives (l : Launch) (G : GG) (q0 : Nat) (hq0 : kd q0 = 2) (a1 : Int32) (v : VV) (r : Int32) (hF : F_X2_gives q0 a1 v = some r) : Met l yX2_gives (cdW yX2_gives cX2_gives 2 (some .int)) ({ frames := 0, cells := 0, slots := 0, locals := 0 } : Room) (PC G v [.ref (ad G q0), .int a1]) (QI G r v) 0 0 (gA G) := by
  refine met_in RX2 (by decide) rfl (Nat.le_of_ble_eq_true rfl) ?_
  intro p e s m below meth c M hP ls hl
  have hx := M.1.1
  have hb := M.1.2.1
  have hS : va_S (gA G) s.heap s.heap [] := va_S.rf
  have hl : lv_has ls 2 [(0, .ref (ad G q0)), (1, .int a1)] := hl
  unfold F_X2_gives at hF
  refine lv_aload_n hx hb dX2_gives_0 rfl (lv_at hl 0 rfl) ?_
  refine fg_2_9 M hP hq0 dX2_gives_1 ?_
  refine lv_iconst (v := 0) hx hb dX2_gives_4 (by decide) ?_
  refine r_iald (k := 0) M hP (ge_2k (i := q0) hq0) (ge_2l (i := q0) hq0) (in_c rfl) rfl dX2_gives_5 ?_
  rcases Decidable.em ((v (q0 + 8) 0) = 2) with c1 | c1
  · replace hF := (if_pos c1).symm.trans hF
    refine lv_tableIn (tgt := 40) hx hb dX2_gives_6 (by rw [c1]; decide) (by rw [c1]; decide) (by rw [c1]; rfl) (by decide) ?_
    refine lv_aload_n hx hb dX2_gives_40 rfl (lv_at hl 0 rfl) ?_
    refine fg_2_9 M hP hq0 dX2_gives_41 ?_
    refine lv_iconst (v := 2) hx hb dX2_gives_44 (by decide) ?_
    refine r_iald (k := 2) M hP (ge_2k (i := q0) hq0) (ge_2l (i := q0) hq0) (in_c rfl) rfl dX2_gives_45 ?_
    refine lv_aload_n hx hb dX2_gives_46 rfl (lv_at hl 0 rfl) ?_
    refine fg_2_9 M hP hq0 dX2_gives_47 ?_
    refine lv_iconst (v := 4) hx hb dX2_gives_50 (by decide) ?_
    refine r_iald (k := 4) M hP (ge_2k (i := q0) hq0) (ge_2l (i := q0) hq0) (in_c rfl) rfl dX2_gives_51 ?_
    refine lv_iadd hx hb dX2_gives_52 ?_
    refine lv_bipush (v := 12) hx hb dX2_gives_53 (by decide) ?_
    refine lv_irem hx hb dX2_gives_55 (by decide) ?_
    exact ret_i M hS hP (congrArg (fun z => (z, v)) (Option.some.inj hF)) dX2_gives_56
  · replace hF := (if_neg c1).symm.trans hF
    rcases Decidable.em ((v (q0 + 8) 0) = 3) with c2 | c2
    · replace hF := (if_pos c2).symm.trans hF
      refine lv_tableIn (tgt := 57) hx hb dX2_gives_6 (by rw [c2]; decide) (by rw [c2]; decide) (by rw [c2]; rfl) (by decide) ?_
      refine lv_aload_n hx hb dX2_gives_57 rfl (lv_at hl 0 rfl) ?_
      refine fg_2_9 M hP hq0 dX2_gives_58 ?_
      refine lv_iconst (v := 2) hx hb dX2_gives_61 (by decide) ?_
      refine r_iald (k := 2) M hP (ge_2k (i := q0) hq0) (ge_2l (i := q0) hq0) (in_c rfl) rfl dX2_gives_62 ?_
      refine lv_aload_n hx hb dX2_gives_63 rfl (lv_at hl 0 rfl) ?_
      refine fg_2_9 M hP hq0 dX2_gives_64 ?_
      refine lv_iconst (v := 4) hx hb dX2_gives_67 (by decide) ?_
      refine r_iald (k := 4) M hP (ge_2k (i := q0) hq0) (ge_2l (i := q0) hq0) (in_c rfl) rfl dX2_gives_68 ?_
      refine lv_iadd hx hb dX2_gives_69 ?_
      refine lv_iload_n hx hb dX2_gives_70 rfl (lv_at hl 1 rfl) ?_
      refine lv_iadd hx hb dX2_gives_71 ?_
      refine lv_bipush (v := 12) hx hb dX2_gives_72 (by decide) ?_
      refine lv_irem hx hb dX2_gives_74 (by decide) ?_
      exact ret_i M hS hP (congrArg (fun z => (z, v)) (Option.some.inj hF)) dX2_gives_75
    · replace hF := (if_neg c2).symm.trans hF
      rcases Decidable.em ((v (q0 + 8) 0) = 4) with c3 | c3
      · replace hF := (if_pos c3).symm.trans hF
        refine lv_tableIn (tgt := 76) hx hb dX2_gives_6 (by rw [c3]; decide) (by rw [c3]; decide) (by rw [c3]; rfl) (by decide) ?_
        refine lv_iconst (v := 0) hx hb dX2_gives_76 (by decide) ?_
        exact ret_i M hS hP (congrArg (fun z => (z, v)) (Option.some.inj hF)) dX2_gives_77
      · replace hF := (if_neg c3).symm.trans hF
        rcases Decidable.em ((v (q0 + 8) 0) = 5) with c4 | c4
        · replace hF := (if_pos c4).symm.trans hF
          refine lv_tableIn (tgt := 78) hx hb dX2_gives_6 (by rw [c4]; decide) (by rw [c4]; decide) (by rw [c4]; rfl) (by decide) ?_
          refine lv_bipush (v := 11) hx hb dX2_gives_78 (by decide) ?_
          refine lv_aload_n hx hb dX2_gives_80 rfl (lv_at hl 0 rfl) ?_
          refine fg_2_9 M hP hq0 dX2_gives_81 ?_
          refine lv_iconst (v := 2) hx hb dX2_gives_84 (by decide) ?_
          refine r_iald (k := 2) M hP (ge_2k (i := q0) hq0) (ge_2l (i := q0) hq0) (in_c rfl) rfl dX2_gives_85 ?_
          refine lv_isub hx hb dX2_gives_86 ?_
          exact ret_i M hS hP (congrArg (fun z => (z, v)) (Option.some.inj hF)) dX2_gives_87
        · replace hF := (if_neg c4).symm.trans hF
          rcases Decidable.em ((v (q0 + 8) 0) = 6) with c5 | c5
          · replace hF := (if_pos c5).symm.trans hF
            refine lv_tableIn (tgt := 88) hx hb dX2_gives_6 (by rw [c5]; decide) (by rw [c5]; decide) (by rw [c5]; rfl) (by decide) ?_
            refine lv_aload_n hx hb dX2_gives_88 rfl (lv_at hl 0 rfl) ?_
            refine fg_2_9 M hP hq0 dX2_gives_89 ?_
            refine lv_iconst (v := 2) hx hb dX2_gives_92 (by decide) ?_
            refine r_iald (k := 2) M hP (ge_2k (i := q0) hq0) (ge_2l (i := q0) hq0) (in_c rfl) rfl dX2_gives_93 ?_
            refine lv_bipush (v := 11) hx hb dX2_gives_94 (by decide) ?_
            refine lv_iadd hx hb dX2_gives_96 ?_
            refine lv_bipush (v := 12) hx hb dX2_gives_97 (by decide) ?_
            refine lv_irem hx hb dX2_gives_99 (by decide) ?_
            exact ret_i M hS hP (congrArg (fun z => (z, v)) (Option.some.inj hF)) dX2_gives_100
          · replace hF := (if_neg c5).symm.trans hF
            refine lv_tableOut (tgt := 101) hx hb dX2_gives_6 (by have q0 := lv_neT (a := 2) c1 (by decide); have q1 := lv_neT (a := 3) c2 (by decide); have q2 := lv_neT (a := 4) c3 (by decide); have q3 := lv_neT (a := 5) c4 (by decide); have q4 := lv_neT (a := 6) c5 (by decide); omega) (by decide) ?_
            refine lv_aload_n hx hb dX2_gives_101 rfl (lv_at hl 0 rfl) ?_
            refine fg_2_9 M hP hq0 dX2_gives_102 ?_
            refine lv_iconst (v := 2) hx hb dX2_gives_105 (by decide) ?_
            refine r_iald (k := 2) M hP (ge_2k (i := q0) hq0) (ge_2l (i := q0) hq0) (in_c rfl) rfl dX2_gives_106 ?_
            exact ret_i M hS hP (congrArg (fun z => (z, v)) (Option.some.inj hF)) dX2_gives_107
def F_X2_reaches (q0 : Nat) (a1 : Int32) (v : VV) : Option Int32 :=
  if (v (q0 + 8) 0) = 1 then (some ((if 0 < ((v (q0 + 8) 3) - (a1 / 2)) then ((v (q0 + 8) 3) - (a1 / 2)) else 0 : Int32) + 2)) else (if (v (q0 + 8) 0) = 2 then (some (if 0 < ((if 0 < ((v (q0 + 8) 3) - (a1 / 2)) then ((v (q0 + 8) 3) - (a1 / 2)) else 0 : Int32) - ((v (q0 + 8) 4) / 10)) then ((if 0 < ((v (q0 + 8) 3) - (a1 / 2)) then ((v (q0 + 8) 3) - (a1 / 2)) else 0 : Int32) - ((v (q0 + 8) 4) / 10)) else 0 : Int32)) else (if (v (q0 + 8) 0) = 3 then (some (if 0 < ((if 0 < ((v (q0 + 8) 3) - (a1 / 2)) then ((v (q0 + 8) 3) - (a1 / 2)) else 0 : Int32) - ((v (q0 + 8) 4) / 10)) then ((if 0 < ((v (q0 + 8) 3) - (a1 / 2)) then ((v (q0 + 8) 3) - (a1 / 2)) else 0 : Int32) - ((v (q0 + 8) 4) / 10)) else 0 : Int32)) else (if (v (q0 + 8) 0) = 4 then (some 15) else (if (v (q0 + 8) 0) = 5 then (some ((if 0 < ((v (q0 + 8) 3) - (a1 / 2)) then ((v (q0 + 8) 3) - (a1 / 2)) else 0 : Int32) / 2)) else (if (v (q0 + 8) 0) = 6 then (some ((if 0 < ((v (q0 + 8) 3) - (a1 / 2)) then ((v (q0 + 8) 3) - (a1 / 2)) else 0 : Int32) + 2)) else (some (if 0 < ((v (q0 + 8) 3) - (a1 / 2)) then ((v (q0 + 8) 3) - (a1 / 2)) else 0 : Int32)))))))
set_option maxHeartbeats 4000000 in
set_option maxRecDepth 100000 in
theorem c_X2_reaches (l : Launch) (G : GG) (q0 : Nat) (hq0 : kd q0 = 2) (a1 : Int32) (v : VV) (r : Int32) (hF : F_X2_reaches q0 a1 v = some r) : Met l yX2_reaches (cdW yX2_reaches cX2_reaches 3 (some .int)) ({ frames := 1, cells := 0, slots := 0, locals := 21 } : Room) (PC G v [.ref (ad G q0), .int a1]) (QI G r v) 0 0 (gA G) := by
  refine met_in RX2 (by decide) rfl (Nat.le_of_ble_eq_true rfl) ?_
  intro p e s m below meth c M hP ls hl
  have hx := M.1.1
  have hb := M.1.2.1
  have hS : va_S (gA G) s.heap s.heap [] := va_S.rf
  have hl : lv_has ls 3 [(0, .ref (ad G q0)), (1, .int a1)] := hl
  unfold F_X2_reaches at hF
  refine lv_iconst (v := 0) hx hb dX2_reaches_0 (by decide) ?_
  refine lv_aload_n hx hb dX2_reaches_1 rfl (lv_at hl 0 rfl) ?_
  refine fg_2_9 M hP hq0 dX2_reaches_2 ?_
  refine lv_iconst (v := 3) hx hb dX2_reaches_5 (by decide) ?_
  refine r_iald (k := 3) M hP (ge_2k (i := q0) hq0) (ge_2l (i := q0) hq0) (in_c rfl) rfl dX2_reaches_6 ?_
  refine lv_iload_n hx hb dX2_reaches_7 rfl (lv_at hl 1 rfl) ?_
  refine lv_iconst (v := 2) hx hb dX2_reaches_8 (by decide) ?_
  refine lv_idiv hx hb dX2_reaches_9 (by decide) ?_
  refine lv_isub hx hb dX2_reaches_10 ?_
  refine mmax_2_18 M hl.1 (Nat.le_of_ble_eq_true rfl) (Nat.le_of_ble_eq_true rfl) dX2_reaches_11 ?_
  refine lv_istore_n (lv' := [(2, .int (if 0 < ((v (q0 + 8) 3) - (a1 / 2)) then ((v (q0 + 8) 3) - (a1 / 2)) else 0 : Int32)), (0, .ref (ad G q0)), (1, .int a1)]) hx hb dX2_reaches_14 rfl hl (by decide) rfl (fun ls hl => ?_)
  refine lv_aload_n hx hb dX2_reaches_15 rfl (lv_at hl 1 rfl) ?_
  refine fg_2_9 M hP hq0 dX2_reaches_16 ?_
  refine lv_iconst (v := 0) hx hb dX2_reaches_19 (by decide) ?_
  refine r_iald (k := 0) M hP (ge_2k (i := q0) hq0) (ge_2l (i := q0) hq0) (in_c rfl) rfl dX2_reaches_20 ?_
  rcases Decidable.em ((v (q0 + 8) 0) = 1) with c1 | c1
  · replace hF := (if_pos c1).symm.trans hF
    refine lv_tableIn (tgt := 60) hx hb dX2_reaches_21 (by rw [c1]; decide) (by rw [c1]; decide) (by rw [c1]; rfl) (by decide) ?_
    refine lv_iload_n hx hb dX2_reaches_60 rfl (lv_at hl 0 rfl) ?_
    refine lv_iconst (v := 2) hx hb dX2_reaches_61 (by decide) ?_
    refine lv_iadd hx hb dX2_reaches_62 ?_
    exact ret_i M hS hP (congrArg (fun z => (z, v)) (Option.some.inj hF)) dX2_reaches_63
  · replace hF := (if_neg c1).symm.trans hF
    rcases Decidable.em ((v (q0 + 8) 0) = 2) with c2 | c2
    · replace hF := (if_pos c2).symm.trans hF
      refine lv_tableIn (tgt := 64) hx hb dX2_reaches_21 (by rw [c2]; decide) (by rw [c2]; decide) (by rw [c2]; rfl) (by decide) ?_
      refine lv_iconst (v := 0) hx hb dX2_reaches_64 (by decide) ?_
      refine lv_iload_n hx hb dX2_reaches_65 rfl (lv_at hl 0 rfl) ?_
      refine lv_aload_n hx hb dX2_reaches_66 rfl (lv_at hl 1 rfl) ?_
      refine fg_2_9 M hP hq0 dX2_reaches_67 ?_
      refine lv_iconst (v := 4) hx hb dX2_reaches_70 (by decide) ?_
      refine r_iald (k := 4) M hP (ge_2k (i := q0) hq0) (ge_2l (i := q0) hq0) (in_c rfl) rfl dX2_reaches_71 ?_
      refine lv_bipush (v := 10) hx hb dX2_reaches_72 (by decide) ?_
      refine lv_idiv hx hb dX2_reaches_74 (by decide) ?_
      refine lv_isub hx hb dX2_reaches_75 ?_
      refine mmax_2_18 M hl.1 (Nat.le_of_ble_eq_true rfl) (Nat.le_of_ble_eq_true rfl) dX2_reaches_76 ?_
      exact ret_i M hS hP (congrArg (fun z => (z, v)) (Option.some.inj hF)) dX2_reaches_79
    · replace hF := (if_neg c2).symm.trans hF
      rcases Decidable.em ((v (q0 + 8) 0) = 3) with c3 | c3
      · replace hF := (if_pos c3).symm.trans hF
        refine lv_tableIn (tgt := 64) hx hb dX2_reaches_21 (by rw [c3]; decide) (by rw [c3]; decide) (by rw [c3]; rfl) (by decide) ?_
        refine lv_iconst (v := 0) hx hb dX2_reaches_64 (by decide) ?_
        refine lv_iload_n hx hb dX2_reaches_65 rfl (lv_at hl 0 rfl) ?_
        refine lv_aload_n hx hb dX2_reaches_66 rfl (lv_at hl 1 rfl) ?_
        refine fg_2_9 M hP hq0 dX2_reaches_67 ?_
        refine lv_iconst (v := 4) hx hb dX2_reaches_70 (by decide) ?_
        refine r_iald (k := 4) M hP (ge_2k (i := q0) hq0) (ge_2l (i := q0) hq0) (in_c rfl) rfl dX2_reaches_71 ?_
        refine lv_bipush (v := 10) hx hb dX2_reaches_72 (by decide) ?_
        refine lv_idiv hx hb dX2_reaches_74 (by decide) ?_
        refine lv_isub hx hb dX2_reaches_75 ?_
        refine mmax_2_18 M hl.1 (Nat.le_of_ble_eq_true rfl) (Nat.le_of_ble_eq_true rfl) dX2_reaches_76 ?_
        exact ret_i M hS hP (congrArg (fun z => (z, v)) (Option.some.inj hF)) dX2_reaches_79
      · replace hF := (if_neg c3).symm.trans hF
        rcases Decidable.em ((v (q0 + 8) 0) = 4) with c4 | c4
        · replace hF := (if_pos c4).symm.trans hF
          refine lv_tableIn (tgt := 80) hx hb dX2_reaches_21 (by rw [c4]; decide) (by rw [c4]; decide) (by rw [c4]; rfl) (by decide) ?_
          refine lv_bipush (v := 15) hx hb dX2_reaches_80 (by decide) ?_
          exact ret_i M hS hP (congrArg (fun z => (z, v)) (Option.some.inj hF)) dX2_reaches_82
        · replace hF := (if_neg c4).symm.trans hF
          rcases Decidable.em ((v (q0 + 8) 0) = 5) with c5 | c5
          · replace hF := (if_pos c5).symm.trans hF
            refine lv_tableIn (tgt := 83) hx hb dX2_reaches_21 (by rw [c5]; decide) (by rw [c5]; decide) (by rw [c5]; rfl) (by decide) ?_
            refine lv_iload_n hx hb dX2_reaches_83 rfl (lv_at hl 0 rfl) ?_
            refine lv_iconst (v := 2) hx hb dX2_reaches_84 (by decide) ?_
            refine lv_idiv hx hb dX2_reaches_85 (by decide) ?_
            exact ret_i M hS hP (congrArg (fun z => (z, v)) (Option.some.inj hF)) dX2_reaches_86
          · replace hF := (if_neg c5).symm.trans hF
            rcases Decidable.em ((v (q0 + 8) 0) = 6) with c6 | c6
            · replace hF := (if_pos c6).symm.trans hF
              refine lv_tableIn (tgt := 60) hx hb dX2_reaches_21 (by rw [c6]; decide) (by rw [c6]; decide) (by rw [c6]; rfl) (by decide) ?_
              refine lv_iload_n hx hb dX2_reaches_60 rfl (lv_at hl 0 rfl) ?_
              refine lv_iconst (v := 2) hx hb dX2_reaches_61 (by decide) ?_
              refine lv_iadd hx hb dX2_reaches_62 ?_
              exact ret_i M hS hP (congrArg (fun z => (z, v)) (Option.some.inj hF)) dX2_reaches_63
            · replace hF := (if_neg c6).symm.trans hF
              refine lv_tableOut (tgt := 87) hx hb dX2_reaches_21 (by have q0 := lv_neT (a := 1) c1 (by decide); have q1 := lv_neT (a := 2) c2 (by decide); have q2 := lv_neT (a := 3) c3 (by decide); have q3 := lv_neT (a := 4) c4 (by decide); have q4 := lv_neT (a := 5) c5 (by decide); have q5 := lv_neT (a := 6) c6 (by decide); omega) (by decide) ?_
              refine lv_iload_n hx hb dX2_reaches_87 rfl (lv_at hl 0 rfl) ?_
              exact ret_i M hS hP (congrArg (fun z => (z, v)) (Option.some.inj hF)) dX2_reaches_88
def F_X2_tempo (q0 : Nat) (v : VV) : Option Int32 :=
  gu (gI (v (q0 + 8) 0) 7) (some (stA 2 ((v (q0 + 8) 0).toNatClampNeg)))
set_option maxHeartbeats 4000000 in
set_option maxRecDepth 100000 in
theorem c_X2_tempo (l : Launch) (G : GG) (q0 : Nat) (hq0 : kd q0 = 2) (v : VV) (r : Int32) (hF : F_X2_tempo q0 v = some r) : Met l yX2_tempo (cdW yX2_tempo cX2_tempo 1 (some .int)) ({ frames := 0, cells := 0, slots := 0, locals := 0 } : Room) (PC G v [.ref (ad G q0)]) (QI G r v) 0 0 (gA G) := by
  refine met_in RX2 (by decide) rfl (Nat.le_of_ble_eq_true rfl) ?_
  intro p e s m below meth c M hP ls hl
  have hx := M.1.1
  have hb := M.1.2.1
  have hS : va_S (gA G) s.heap s.heap [] := va_S.rf
  have hl : lv_has ls 1 [(0, .ref (ad G q0))] := hl
  unfold F_X2_tempo at hF
  refine fs_2_24 M hS dX2_tempo_0 ?_
  refine lv_aload_n hx hb dX2_tempo_3 rfl (lv_at hl 0 rfl) ?_
  refine fg_2_9 M hP hq0 dX2_tempo_4 ?_
  refine lv_iconst (v := 0) hx hb dX2_tempo_7 (by decide) ?_
  refine r_iald (k := 0) M hP (ge_2k (i := q0) hq0) (ge_2l (i := q0) hq0) (in_c rfl) rfl dX2_tempo_8 ?_
  obtain ⟨g1, hF⟩ := gu_some hF
  refine r_sald (k := (v (q0 + 8) 0).toNatClampNeg) M hS (t := 2) (by decide) rfl (in_c g1) rfl dX2_tempo_9 ?_
  exact ret_i M hS hP (congrArg (fun z => (z, v)) (Option.some.inj hF)) dX2_tempo_10
def F_X2_tires (q0 : Nat) (v : VV) : Option Int32 :=
  gu (gI (v (q0 + 8) 0) 7) (some (stA 3 ((v (q0 + 8) 0).toNatClampNeg)))
set_option maxHeartbeats 4000000 in
set_option maxRecDepth 100000 in
theorem c_X2_tires (l : Launch) (G : GG) (q0 : Nat) (hq0 : kd q0 = 2) (v : VV) (r : Int32) (hF : F_X2_tires q0 v = some r) : Met l yX2_tires (cdW yX2_tires cX2_tires 1 (some .int)) ({ frames := 0, cells := 0, slots := 0, locals := 0 } : Room) (PC G v [.ref (ad G q0)]) (QI G r v) 0 0 (gA G) := by
  refine met_in RX2 (by decide) rfl (Nat.le_of_ble_eq_true rfl) ?_
  intro p e s m below meth c M hP ls hl
  have hx := M.1.1
  have hb := M.1.2.1
  have hS : va_S (gA G) s.heap s.heap [] := va_S.rf
  have hl : lv_has ls 1 [(0, .ref (ad G q0))] := hl
  unfold F_X2_tires at hF
  refine fs_2_27 M hS dX2_tires_0 ?_
  refine lv_aload_n hx hb dX2_tires_3 rfl (lv_at hl 0 rfl) ?_
  refine fg_2_9 M hP hq0 dX2_tires_4 ?_
  refine lv_iconst (v := 0) hx hb dX2_tires_7 (by decide) ?_
  refine r_iald (k := 0) M hP (ge_2k (i := q0) hq0) (ge_2l (i := q0) hq0) (in_c rfl) rfl dX2_tires_8 ?_
  obtain ⟨g1, hF⟩ := gu_some hF
  refine r_sald (k := (v (q0 + 8) 0).toNatClampNeg) M hS (t := 3) (by decide) rfl (in_c g1) rfl dX2_tires_9 ?_
  exact ret_i M hS hP (congrArg (fun z => (z, v)) (Option.some.inj hF)) dX2_tires_10
def F_X2_turns (q0 : Nat) (a1 : Int32) (v : VV) : Option Int32 :=
  if (a1 - a1 / 2 * 2) = 0 then (if (v (q0 + 8) 0) = 2 then (some 1) else (if (v (q0 + 8) 0) = 3 then (some (1 + 5)) else (if (v (q0 + 8) 0) = 4 then (some 0) else (if (v (q0 + 8) 0) = 5 then (some 11) else (if (v (q0 + 8) 0) = 6 then (some 2) else (some 1)))))) else (if (v (q0 + 8) 0) = 2 then (some 0) else (if (v (q0 + 8) 0) = 3 then (some (0 + 5)) else (if (v (q0 + 8) 0) = 4 then (some 0) else (if (v (q0 + 8) 0) = 5 then (some 11) else (if (v (q0 + 8) 0) = 6 then (some 2) else (some 1))))))
set_option maxHeartbeats 4000000 in
set_option maxRecDepth 100000 in
theorem c_X2_turns (l : Launch) (G : GG) (q0 : Nat) (hq0 : kd q0 = 2) (a1 : Int32) (v : VV) (r : Int32) (hF : F_X2_turns q0 a1 v = some r) : Met l yX2_turns (cdW yX2_turns cX2_turns 3 (some .int)) ({ frames := 0, cells := 0, slots := 0, locals := 0 } : Room) (PC G v [.ref (ad G q0), .int a1]) (QI G r v) 0 0 (gA G) := by
  refine met_in RX2 (by decide) rfl (Nat.le_of_ble_eq_true rfl) ?_
  intro p e s m below meth c M hP ls hl
  have hx := M.1.1
  have hb := M.1.2.1
  have hS : va_S (gA G) s.heap s.heap [] := va_S.rf
  have hl : lv_has ls 3 [(0, .ref (ad G q0)), (1, .int a1)] := hl
  unfold F_X2_turns at hF
  refine lv_iload_n hx hb dX2_turns_0 rfl (lv_at hl 1 rfl) ?_
  refine lv_iconst (v := 2) hx hb dX2_turns_1 (by decide) ?_
  refine lv_irem hx hb dX2_turns_2 (by decide) ?_
  refine lv_if_ne (tgt := 10) hx hb dX2_turns_3 (by decide) (fun c1 => ?_) (fun c1 => ?_)
  · replace hF := (if_neg c1).symm.trans hF
    refine lv_iconst (v := 0) hx hb dX2_turns_10 (by decide) ?_
    refine lv_istore_n (lv' := [(2, .int 0), (0, .ref (ad G q0)), (1, .int a1)]) hx hb dX2_turns_11 rfl hl (by decide) rfl (fun ls hl => ?_)
    refine lv_aload_n hx hb dX2_turns_12 rfl (lv_at hl 1 rfl) ?_
    refine fg_2_9 M hP hq0 dX2_turns_13 ?_
    refine lv_iconst (v := 0) hx hb dX2_turns_16 (by decide) ?_
    refine r_iald (k := 0) M hP (ge_2k (i := q0) hq0) (ge_2l (i := q0) hq0) (in_c rfl) rfl dX2_turns_17 ?_
    rcases Decidable.em ((v (q0 + 8) 0) = 2) with c2 | c2
    · replace hF := (if_pos c2).symm.trans hF
      refine lv_tableIn (tgt := 52) hx hb dX2_turns_18 (by rw [c2]; decide) (by rw [c2]; decide) (by rw [c2]; rfl) (by decide) ?_
      refine lv_iload_n hx hb dX2_turns_52 rfl (lv_at hl 0 rfl) ?_
      exact ret_i M hS hP (congrArg (fun z => (z, v)) (Option.some.inj hF)) dX2_turns_53
    · replace hF := (if_neg c2).symm.trans hF
      rcases Decidable.em ((v (q0 + 8) 0) = 3) with c3 | c3
      · replace hF := (if_pos c3).symm.trans hF
        refine lv_tableIn (tgt := 54) hx hb dX2_turns_18 (by rw [c3]; decide) (by rw [c3]; decide) (by rw [c3]; rfl) (by decide) ?_
        refine lv_iload_n hx hb dX2_turns_54 rfl (lv_at hl 0 rfl) ?_
        refine lv_iconst (v := 5) hx hb dX2_turns_55 (by decide) ?_
        refine lv_iadd hx hb dX2_turns_56 ?_
        exact ret_i M hS hP (congrArg (fun z => (z, v)) (Option.some.inj hF)) dX2_turns_57
      · replace hF := (if_neg c3).symm.trans hF
        rcases Decidable.em ((v (q0 + 8) 0) = 4) with c4 | c4
        · replace hF := (if_pos c4).symm.trans hF
          refine lv_tableIn (tgt := 58) hx hb dX2_turns_18 (by rw [c4]; decide) (by rw [c4]; decide) (by rw [c4]; rfl) (by decide) ?_
          refine lv_iconst (v := 0) hx hb dX2_turns_58 (by decide) ?_
          exact ret_i M hS hP (congrArg (fun z => (z, v)) (Option.some.inj hF)) dX2_turns_59
        · replace hF := (if_neg c4).symm.trans hF
          rcases Decidable.em ((v (q0 + 8) 0) = 5) with c5 | c5
          · replace hF := (if_pos c5).symm.trans hF
            refine lv_tableIn (tgt := 60) hx hb dX2_turns_18 (by rw [c5]; decide) (by rw [c5]; decide) (by rw [c5]; rfl) (by decide) ?_
            refine lv_bipush (v := 11) hx hb dX2_turns_60 (by decide) ?_
            exact ret_i M hS hP (congrArg (fun z => (z, v)) (Option.some.inj hF)) dX2_turns_62
          · replace hF := (if_neg c5).symm.trans hF
            rcases Decidable.em ((v (q0 + 8) 0) = 6) with c6 | c6
            · replace hF := (if_pos c6).symm.trans hF
              refine lv_tableIn (tgt := 63) hx hb dX2_turns_18 (by rw [c6]; decide) (by rw [c6]; decide) (by rw [c6]; rfl) (by decide) ?_
              refine lv_iconst (v := 2) hx hb dX2_turns_63 (by decide) ?_
              exact ret_i M hS hP (congrArg (fun z => (z, v)) (Option.some.inj hF)) dX2_turns_64
            · replace hF := (if_neg c6).symm.trans hF
              refine lv_tableOut (tgt := 65) hx hb dX2_turns_18 (by have q0 := lv_neT (a := 2) c2 (by decide); have q1 := lv_neT (a := 3) c3 (by decide); have q2 := lv_neT (a := 4) c4 (by decide); have q3 := lv_neT (a := 5) c5 (by decide); have q4 := lv_neT (a := 6) c6 (by decide); omega) (by decide) ?_
              refine lv_iconst (v := 1) hx hb dX2_turns_65 (by decide) ?_
              exact ret_i M hS hP (congrArg (fun z => (z, v)) (Option.some.inj hF)) dX2_turns_66
  · replace hF := (if_pos c1).symm.trans hF
    refine lv_iconst (v := 1) hx hb dX2_turns_6 (by decide) ?_
    refine lv_goto (tgt := 11) hx hb dX2_turns_7 (by decide) ?_
    refine lv_istore_n (lv' := [(2, .int 1), (0, .ref (ad G q0)), (1, .int a1)]) hx hb dX2_turns_11 rfl hl (by decide) rfl (fun ls hl => ?_)
    refine lv_aload_n hx hb dX2_turns_12 rfl (lv_at hl 1 rfl) ?_
    refine fg_2_9 M hP hq0 dX2_turns_13 ?_
    refine lv_iconst (v := 0) hx hb dX2_turns_16 (by decide) ?_
    refine r_iald (k := 0) M hP (ge_2k (i := q0) hq0) (ge_2l (i := q0) hq0) (in_c rfl) rfl dX2_turns_17 ?_
    rcases Decidable.em ((v (q0 + 8) 0) = 2) with c7 | c7
    · replace hF := (if_pos c7).symm.trans hF
      refine lv_tableIn (tgt := 52) hx hb dX2_turns_18 (by rw [c7]; decide) (by rw [c7]; decide) (by rw [c7]; rfl) (by decide) ?_
      refine lv_iload_n hx hb dX2_turns_52 rfl (lv_at hl 0 rfl) ?_
      exact ret_i M hS hP (congrArg (fun z => (z, v)) (Option.some.inj hF)) dX2_turns_53
    · replace hF := (if_neg c7).symm.trans hF
      rcases Decidable.em ((v (q0 + 8) 0) = 3) with c8 | c8
      · replace hF := (if_pos c8).symm.trans hF
        refine lv_tableIn (tgt := 54) hx hb dX2_turns_18 (by rw [c8]; decide) (by rw [c8]; decide) (by rw [c8]; rfl) (by decide) ?_
        refine lv_iload_n hx hb dX2_turns_54 rfl (lv_at hl 0 rfl) ?_
        refine lv_iconst (v := 5) hx hb dX2_turns_55 (by decide) ?_
        refine lv_iadd hx hb dX2_turns_56 ?_
        exact ret_i M hS hP (congrArg (fun z => (z, v)) (Option.some.inj hF)) dX2_turns_57
      · replace hF := (if_neg c8).symm.trans hF
        rcases Decidable.em ((v (q0 + 8) 0) = 4) with c9 | c9
        · replace hF := (if_pos c9).symm.trans hF
          refine lv_tableIn (tgt := 58) hx hb dX2_turns_18 (by rw [c9]; decide) (by rw [c9]; decide) (by rw [c9]; rfl) (by decide) ?_
          refine lv_iconst (v := 0) hx hb dX2_turns_58 (by decide) ?_
          exact ret_i M hS hP (congrArg (fun z => (z, v)) (Option.some.inj hF)) dX2_turns_59
        · replace hF := (if_neg c9).symm.trans hF
          rcases Decidable.em ((v (q0 + 8) 0) = 5) with c10 | c10
          · replace hF := (if_pos c10).symm.trans hF
            refine lv_tableIn (tgt := 60) hx hb dX2_turns_18 (by rw [c10]; decide) (by rw [c10]; decide) (by rw [c10]; rfl) (by decide) ?_
            refine lv_bipush (v := 11) hx hb dX2_turns_60 (by decide) ?_
            exact ret_i M hS hP (congrArg (fun z => (z, v)) (Option.some.inj hF)) dX2_turns_62
          · replace hF := (if_neg c10).symm.trans hF
            rcases Decidable.em ((v (q0 + 8) 0) = 6) with c11 | c11
            · replace hF := (if_pos c11).symm.trans hF
              refine lv_tableIn (tgt := 63) hx hb dX2_turns_18 (by rw [c11]; decide) (by rw [c11]; decide) (by rw [c11]; rfl) (by decide) ?_
              refine lv_iconst (v := 2) hx hb dX2_turns_63 (by decide) ?_
              exact ret_i M hS hP (congrArg (fun z => (z, v)) (Option.some.inj hF)) dX2_turns_64
            · replace hF := (if_neg c11).symm.trans hF
              refine lv_tableOut (tgt := 65) hx hb dX2_turns_18 (by have q0 := lv_neT (a := 2) c7 (by decide); have q1 := lv_neT (a := 3) c8 (by decide); have q2 := lv_neT (a := 4) c9 (by decide); have q3 := lv_neT (a := 5) c10 (by decide); have q4 := lv_neT (a := 6) c11 (by decide); omega) (by decide) ?_
              refine lv_iconst (v := 1) hx hb dX2_turns_65 (by decide) ?_
              exact ret_i M hS hP (congrArg (fun z => (z, v)) (Option.some.inj hF)) dX2_turns_66
def F_X2_isSilent (q0 : Nat) (v : VV) : Option Bool :=
  if (v (q0 + 8) 5) = 1 then (some true) else (some false)
set_option maxHeartbeats 4000000 in
set_option maxRecDepth 100000 in
theorem c_X2_isSilent (l : Launch) (G : GG) (q0 : Nat) (hq0 : kd q0 = 2) (v : VV) (r : Bool) (hF : F_X2_isSilent q0 v = some r) : Met l yX2_isSilent (cdW yX2_isSilent cX2_isSilent 1 (some .boolean)) ({ frames := 0, cells := 0, slots := 0, locals := 0 } : Room) (PC G v [.ref (ad G q0)]) (QI G (bI r) v) 0 0 (gA G) := by
  refine met_in RX2 (by decide) rfl (Nat.le_of_ble_eq_true rfl) ?_
  intro p e s m below meth c M hP ls hl
  have hx := M.1.1
  have hb := M.1.2.1
  have hS : va_S (gA G) s.heap s.heap [] := va_S.rf
  have hl : lv_has ls 1 [(0, .ref (ad G q0))] := hl
  unfold F_X2_isSilent at hF
  refine lv_aload_n hx hb dX2_isSilent_0 rfl (lv_at hl 0 rfl) ?_
  refine fg_2_9 M hP hq0 dX2_isSilent_1 ?_
  refine lv_iconst (v := 5) hx hb dX2_isSilent_4 (by decide) ?_
  refine r_iald (k := 5) M hP (ge_2k (i := q0) hq0) (ge_2l (i := q0) hq0) (in_c rfl) rfl dX2_isSilent_5 ?_
  refine lv_iconst (v := 1) hx hb dX2_isSilent_6 (by decide) ?_
  refine lv_icmp_ne (tgt := 14) hx hb dX2_isSilent_7 (by decide) (fun c1 => ?_) (fun c1 => ?_)
  · replace hF := (if_neg c1).symm.trans hF
    refine lv_iconst (v := 0) hx hb dX2_isSilent_14 (by decide) ?_
    exact ret_z M hS hP (congrArg (fun z : Bool => (bI z, v)) (Option.some.inj hF)) rfl dX2_isSilent_15
  · replace hF := (if_pos c1).symm.trans hF
    refine lv_iconst (v := 1) hx hb dX2_isSilent_10 (by decide) ?_
    refine lv_goto (tgt := 15) hx hb dX2_isSilent_11 (by decide) ?_
    exact ret_z M hS hP (congrArg (fun z : Bool => (bI z, v)) (Option.some.inj hF)) rfl dX2_isSilent_15
def F_X2_goOn (q0 : Nat) (a1 : Int32) (v : VV) : Option VV :=
  Option.bind (F_X2_tires q0 v) (fun r2 => Option.bind (F_X2_turns q0 a1 (pu v (q0 + 8) 4 (if ((v (q0 + 8) 4) + r2) < (stA 0 4) then ((v (q0 + 8) 4) + r2) else (stA 0 4) : Int32))) (fun r4 => some (pu (pu v (q0 + 8) 4 (if ((v (q0 + 8) 4) + r2) < (stA 0 4) then ((v (q0 + 8) 4) + r2) else (stA 0 4) : Int32)) (q0 + 8) 2 ((((pu v (q0 + 8) 4 (if ((v (q0 + 8) 4) + r2) < (stA 0 4) then ((v (q0 + 8) 4) + r2) else (stA 0 4) : Int32)) (q0 + 8) 2) + r4) - (((pu v (q0 + 8) 4 (if ((v (q0 + 8) 4) + r2) < (stA 0 4) then ((v (q0 + 8) 4) + r2) else (stA 0 4) : Int32)) (q0 + 8) 2) + r4) / 12 * 12))))
set_option maxHeartbeats 4000000 in
set_option maxRecDepth 100000 in
theorem c_X2_goOn (l : Launch) (G : GG) (q0 : Nat) (hq0 : kd q0 = 2) (a1 : Int32) (v : VV) (v' : VV) (hF : F_X2_goOn q0 a1 v = some v') : Met l yX2_goOn (cdW yX2_goOn cX2_goOn 2 none) ({ frames := 1, cells := 0, slots := 0, locals := 22 } : Room) (PC G v [.ref (ad G q0), .int a1]) (QV G v') 0 0 (gA G) := by
  refine met_in RX2 (by decide) rfl (Nat.le_of_ble_eq_true rfl) ?_
  intro p e s m below meth c M hP ls hl
  have hx := M.1.1
  have hb := M.1.2.1
  have hS : va_S (gA G) s.heap s.heap [] := va_S.rf
  have hl : lv_has ls 2 [(0, .ref (ad G q0)), (1, .int a1)] := hl
  unfold F_X2_goOn at hF
  refine lv_aload_n hx hb dX2_goOn_0 rfl (lv_at hl 0 rfl) ?_
  refine fg_2_9 M hP hq0 dX2_goOn_1 ?_
  refine lv_iconst (v := 4) hx hb dX2_goOn_4 (by decide) ?_
  refine fs_2_30 M hS dX2_goOn_5 ?_
  refine lv_iconst (v := 4) hx hb dX2_goOn_8 (by decide) ?_
  refine r_sald (k := 4) M hS (t := 0) (by decide) rfl (in_c rfl) rfl dX2_goOn_9 ?_
  refine lv_aload_n hx hb dX2_goOn_10 rfl (lv_at hl 0 rfl) ?_
  refine fg_2_9 M hP hq0 dX2_goOn_11 ?_
  refine lv_iconst (v := 4) hx hb dX2_goOn_14 (by decide) ?_
  refine r_iald (k := 4) M hP (ge_2k (i := q0) hq0) (ge_2l (i := q0) hq0) (in_c rfl) rfl dX2_goOn_15 ?_
  refine lv_aload_n hx hb dX2_goOn_16 rfl (lv_at hl 0 rfl) ?_
  obtain ⟨r2, h1, hF⟩ := bi_some hF
  refine k_i hS (kV_run M hS hP ok_X2_33 (c_X2_tires l G q0 hq0 v r2 h1) (rc_2 M hP hq0) rfl hl.1 rfl (Nat.le_of_ble_eq_true rfl) ⟨rfl, rfl⟩ ⟨Nat.le_of_ble_eq_true rfl, Nat.le_of_ble_eq_true rfl⟩ dX2_goOn_17) (fun H locs hP hS => ?_)
  refine lv_iadd hx hb dX2_goOn_20 ?_
  refine mmin_2_37 M hl.1 (Nat.le_of_ble_eq_true rfl) (Nat.le_of_ble_eq_true rfl) dX2_goOn_21 ?_
  refine r_iast (k := 4) M hS hP (ge_2k (i := q0) hq0) (ge_2l (i := q0) hq0) (in_c rfl) rfl dX2_goOn_24 (fun H locs hP hS => ?_)
  have hP : Wd G (pu v (q0 + 8) 4 (if ((v (q0 + 8) 4) + r2) < (stA 0 4) then ((v (q0 + 8) 4) + r2) else (stA 0 4) : Int32)) H := hP
  refine lv_aload_n hx hb dX2_goOn_25 rfl (lv_at hl 0 rfl) ?_
  refine fg_2_9 M hP hq0 dX2_goOn_26 ?_
  refine lv_iconst (v := 2) hx hb dX2_goOn_29 (by decide) ?_
  refine lv_aload_n hx hb dX2_goOn_30 rfl (lv_at hl 0 rfl) ?_
  refine fg_2_9 M hP hq0 dX2_goOn_31 ?_
  refine lv_iconst (v := 2) hx hb dX2_goOn_34 (by decide) ?_
  refine r_iald (k := 2) M hP (ge_2k (i := q0) hq0) (ge_2l (i := q0) hq0) (in_c rfl) rfl dX2_goOn_35 ?_
  refine lv_aload_n hx hb dX2_goOn_36 rfl (lv_at hl 0 rfl) ?_
  refine lv_iload_n hx hb dX2_goOn_37 rfl (lv_at hl 1 rfl) ?_
  obtain ⟨r4, h3, hF⟩ := bi_some hF
  refine k_i hS (kV_run M hS hP ok_X2_40 (c_X2_turns l G q0 hq0 a1 (pu v (q0 + 8) 4 (if ((v (q0 + 8) 4) + r2) < (stA 0 4) then ((v (q0 + 8) 4) + r2) else (stA 0 4) : Int32)) r4 h3) (rc_2 M hP hq0) rfl hl.1 rfl (Nat.le_of_ble_eq_true rfl) ⟨rfl, rfl⟩ ⟨Nat.le_of_ble_eq_true rfl, Nat.le_of_ble_eq_true rfl⟩ dX2_goOn_38) (fun H locs hP hS => ?_)
  refine lv_iadd hx hb dX2_goOn_41 ?_
  refine lv_bipush (v := 12) hx hb dX2_goOn_42 (by decide) ?_
  refine lv_irem hx hb dX2_goOn_44 (by decide) ?_
  refine r_iast (k := 2) M hS hP (ge_2k (i := q0) hq0) (ge_2l (i := q0) hq0) (in_c rfl) rfl dX2_goOn_45 (fun H locs hP hS => ?_)
  have hP : Wd G (pu (pu v (q0 + 8) 4 (if ((v (q0 + 8) 4) + r2) < (stA 0 4) then ((v (q0 + 8) 4) + r2) else (stA 0 4) : Int32)) (q0 + 8) 2 ((((pu v (q0 + 8) 4 (if ((v (q0 + 8) 4) + r2) < (stA 0 4) then ((v (q0 + 8) 4) + r2) else (stA 0 4) : Int32)) (q0 + 8) 2) + r4) - (((pu v (q0 + 8) 4 (if ((v (q0 + 8) 4) + r2) < (stA 0 4) then ((v (q0 + 8) 4) + r2) else (stA 0 4) : Int32)) (q0 + 8) 2) + r4) / 12 * 12)) H := hP
  exact ret_v M hS hP (Option.some.inj hF) dX2_goOn_46
def F_X2_rest (q0 : Nat) (v : VV) : Option VV :=
  some (pu v (q0 + 8) 4 (if 0 < ((v (q0 + 8) 4) - 3) then ((v (q0 + 8) 4) - 3) else 0 : Int32))
set_option maxHeartbeats 4000000 in
set_option maxRecDepth 100000 in
theorem c_X2_rest (l : Launch) (G : GG) (q0 : Nat) (hq0 : kd q0 = 2) (v : VV) (v' : VV) (hF : F_X2_rest q0 v = some v') : Met l yX2_rest (cdW yX2_rest cX2_rest 1 none) ({ frames := 1, cells := 0, slots := 0, locals := 21 } : Room) (PC G v [.ref (ad G q0)]) (QV G v') 0 0 (gA G) := by
  refine met_in RX2 (by decide) rfl (Nat.le_of_ble_eq_true rfl) ?_
  intro p e s m below meth c M hP ls hl
  have hx := M.1.1
  have hb := M.1.2.1
  have hS : va_S (gA G) s.heap s.heap [] := va_S.rf
  have hl : lv_has ls 1 [(0, .ref (ad G q0))] := hl
  unfold F_X2_rest at hF
  refine lv_aload_n hx hb dX2_rest_0 rfl (lv_at hl 0 rfl) ?_
  refine fg_2_9 M hP hq0 dX2_rest_1 ?_
  refine lv_iconst (v := 4) hx hb dX2_rest_4 (by decide) ?_
  refine lv_iconst (v := 0) hx hb dX2_rest_5 (by decide) ?_
  refine lv_aload_n hx hb dX2_rest_6 rfl (lv_at hl 0 rfl) ?_
  refine fg_2_9 M hP hq0 dX2_rest_7 ?_
  refine lv_iconst (v := 4) hx hb dX2_rest_10 (by decide) ?_
  refine r_iald (k := 4) M hP (ge_2k (i := q0) hq0) (ge_2l (i := q0) hq0) (in_c rfl) rfl dX2_rest_11 ?_
  refine lv_iconst (v := 3) hx hb dX2_rest_12 (by decide) ?_
  refine lv_isub hx hb dX2_rest_13 ?_
  refine mmax_2_18 M hl.1 (Nat.le_of_ble_eq_true rfl) (Nat.le_of_ble_eq_true rfl) dX2_rest_14 ?_
  refine r_iast (k := 4) M hS hP (ge_2k (i := q0) hq0) (ge_2l (i := q0) hq0) (in_c rfl) rfl dX2_rest_17 (fun H locs hP hS => ?_)
  have hP : Wd G (pu v (q0 + 8) 4 (if 0 < ((v (q0 + 8) 4) - 3) then ((v (q0 + 8) 4) - 3) else 0 : Int32)) H := hP
  exact ret_v M hS hP (Option.some.inj hF) dX2_rest_18
def F_J6_bitCount_0f7a4 (a0 : Int32) (v : VV) : Option Int32 :=
  some ((((((((a0 - (((a0.toUInt32 >>> ((1 : Int32).toUInt32 &&& Int32.toUInt32 31)).toInt32) &&& 1431655765)) &&& 858993459) + ((((a0 - (((a0.toUInt32 >>> ((1 : Int32).toUInt32 &&& Int32.toUInt32 31)).toInt32) &&& 1431655765)).toUInt32 >>> ((2 : Int32).toUInt32 &&& Int32.toUInt32 31)).toInt32) &&& 858993459)) + (((((a0 - (((a0.toUInt32 >>> ((1 : Int32).toUInt32 &&& Int32.toUInt32 31)).toInt32) &&& 1431655765)) &&& 858993459) + ((((a0 - (((a0.toUInt32 >>> ((1 : Int32).toUInt32 &&& Int32.toUInt32 31)).toInt32) &&& 1431655765)).toUInt32 >>> ((2 : Int32).toUInt32 &&& Int32.toUInt32 31)).toInt32) &&& 858993459)).toUInt32 >>> ((4 : Int32).toUInt32 &&& Int32.toUInt32 31)).toInt32)) &&& 252645135) + (((((((a0 - (((a0.toUInt32 >>> ((1 : Int32).toUInt32 &&& Int32.toUInt32 31)).toInt32) &&& 1431655765)) &&& 858993459) + ((((a0 - (((a0.toUInt32 >>> ((1 : Int32).toUInt32 &&& Int32.toUInt32 31)).toInt32) &&& 1431655765)).toUInt32 >>> ((2 : Int32).toUInt32 &&& Int32.toUInt32 31)).toInt32) &&& 858993459)) + (((((a0 - (((a0.toUInt32 >>> ((1 : Int32).toUInt32 &&& Int32.toUInt32 31)).toInt32) &&& 1431655765)) &&& 858993459) + ((((a0 - (((a0.toUInt32 >>> ((1 : Int32).toUInt32 &&& Int32.toUInt32 31)).toInt32) &&& 1431655765)).toUInt32 >>> ((2 : Int32).toUInt32 &&& Int32.toUInt32 31)).toInt32) &&& 858993459)).toUInt32 >>> ((4 : Int32).toUInt32 &&& Int32.toUInt32 31)).toInt32)) &&& 252645135).toUInt32 >>> ((8 : Int32).toUInt32 &&& Int32.toUInt32 31)).toInt32)) + ((((((((a0 - (((a0.toUInt32 >>> ((1 : Int32).toUInt32 &&& Int32.toUInt32 31)).toInt32) &&& 1431655765)) &&& 858993459) + ((((a0 - (((a0.toUInt32 >>> ((1 : Int32).toUInt32 &&& Int32.toUInt32 31)).toInt32) &&& 1431655765)).toUInt32 >>> ((2 : Int32).toUInt32 &&& Int32.toUInt32 31)).toInt32) &&& 858993459)) + (((((a0 - (((a0.toUInt32 >>> ((1 : Int32).toUInt32 &&& Int32.toUInt32 31)).toInt32) &&& 1431655765)) &&& 858993459) + ((((a0 - (((a0.toUInt32 >>> ((1 : Int32).toUInt32 &&& Int32.toUInt32 31)).toInt32) &&& 1431655765)).toUInt32 >>> ((2 : Int32).toUInt32 &&& Int32.toUInt32 31)).toInt32) &&& 858993459)).toUInt32 >>> ((4 : Int32).toUInt32 &&& Int32.toUInt32 31)).toInt32)) &&& 252645135) + (((((((a0 - (((a0.toUInt32 >>> ((1 : Int32).toUInt32 &&& Int32.toUInt32 31)).toInt32) &&& 1431655765)) &&& 858993459) + ((((a0 - (((a0.toUInt32 >>> ((1 : Int32).toUInt32 &&& Int32.toUInt32 31)).toInt32) &&& 1431655765)).toUInt32 >>> ((2 : Int32).toUInt32 &&& Int32.toUInt32 31)).toInt32) &&& 858993459)) + (((((a0 - (((a0.toUInt32 >>> ((1 : Int32).toUInt32 &&& Int32.toUInt32 31)).toInt32) &&& 1431655765)) &&& 858993459) + ((((a0 - (((a0.toUInt32 >>> ((1 : Int32).toUInt32 &&& Int32.toUInt32 31)).toInt32) &&& 1431655765)).toUInt32 >>> ((2 : Int32).toUInt32 &&& Int32.toUInt32 31)).toInt32) &&& 858993459)).toUInt32 >>> ((4 : Int32).toUInt32 &&& Int32.toUInt32 31)).toInt32)) &&& 252645135).toUInt32 >>> ((8 : Int32).toUInt32 &&& Int32.toUInt32 31)).toInt32)).toUInt32 >>> ((16 : Int32).toUInt32 &&& Int32.toUInt32 31)).toInt32)) &&& 63)
set_option maxHeartbeats 4000000 in
set_option maxRecDepth 100000 in
theorem c_J6_bitCount_0f7a4 (l : Launch) (G : GG) (a0 : Int32) (v : VV) (r : Int32) (hF : F_J6_bitCount_0f7a4 a0 v = some r) : Met l yJ6_bitCount_0f7a4 (cdW yJ6_bitCount_0f7a4 cJ6_bitCount_0f7a4 1 (some .int)) ({ frames := 0, cells := 0, slots := 0, locals := 0 } : Room) (PC G v [.int a0]) (QI G r v) 0 0 (gA G) := by
  refine met_in RJ6 (by decide) rfl (Nat.le_of_ble_eq_true rfl) ?_
  intro p e s m below meth c M hP ls hl
  have hx := M.1.1
  have hb := M.1.2.1
  have hS : va_S (gA G) s.heap s.heap [] := va_S.rf
  have hl : lv_has ls 1 [(0, .int a0)] := hl
  unfold F_J6_bitCount_0f7a4 at hF
  refine lv_iload_n hx hb dJ6_bitCount_0f7a4_0 rfl (lv_at hl 0 rfl) ?_
  refine lv_iload_n hx hb dJ6_bitCount_0f7a4_1 rfl (lv_at hl 0 rfl) ?_
  refine lv_iconst (v := 1) hx hb dJ6_bitCount_0f7a4_2 (by decide) ?_
  refine lv_iushr hx hb dJ6_bitCount_0f7a4_3 rfl ?_
  refine lv_ldcw (own := RJ6) (v := 1431655765) hx hb M.1.2.2.2.1 (M.1.2.2.2.2 (Cond.constant RJ6 265 1431655765) w_344) dJ6_bitCount_0f7a4_4 ?_
  refine lv_iand hx hb dJ6_bitCount_0f7a4_7 ?_
  refine lv_isub hx hb dJ6_bitCount_0f7a4_8 ?_
  refine lv_istore_n (lv' := [(0, .int (a0 - (((a0.toUInt32 >>> ((1 : Int32).toUInt32 &&& Int32.toUInt32 31)).toInt32) &&& 1431655765)))]) hx hb dJ6_bitCount_0f7a4_9 rfl hl (by decide) rfl (fun ls hl => ?_)
  refine lv_iload_n hx hb dJ6_bitCount_0f7a4_10 rfl (lv_at hl 0 rfl) ?_
  refine lv_ldcw (own := RJ6) (v := 858993459) hx hb M.1.2.2.2.1 (M.1.2.2.2.2 (Cond.constant RJ6 266 858993459) w_345) dJ6_bitCount_0f7a4_11 ?_
  refine lv_iand hx hb dJ6_bitCount_0f7a4_14 ?_
  refine lv_iload_n hx hb dJ6_bitCount_0f7a4_15 rfl (lv_at hl 0 rfl) ?_
  refine lv_iconst (v := 2) hx hb dJ6_bitCount_0f7a4_16 (by decide) ?_
  refine lv_iushr hx hb dJ6_bitCount_0f7a4_17 rfl ?_
  refine lv_ldcw (own := RJ6) (v := 858993459) hx hb M.1.2.2.2.1 (M.1.2.2.2.2 (Cond.constant RJ6 266 858993459) w_345) dJ6_bitCount_0f7a4_18 ?_
  refine lv_iand hx hb dJ6_bitCount_0f7a4_21 ?_
  refine lv_iadd hx hb dJ6_bitCount_0f7a4_22 ?_
  refine lv_istore_n (lv' := [(0, .int (((a0 - (((a0.toUInt32 >>> ((1 : Int32).toUInt32 &&& Int32.toUInt32 31)).toInt32) &&& 1431655765)) &&& 858993459) + ((((a0 - (((a0.toUInt32 >>> ((1 : Int32).toUInt32 &&& Int32.toUInt32 31)).toInt32) &&& 1431655765)).toUInt32 >>> ((2 : Int32).toUInt32 &&& Int32.toUInt32 31)).toInt32) &&& 858993459)))]) hx hb dJ6_bitCount_0f7a4_23 rfl hl (by decide) rfl (fun ls hl => ?_)
  refine lv_iload_n hx hb dJ6_bitCount_0f7a4_24 rfl (lv_at hl 0 rfl) ?_
  refine lv_iload_n hx hb dJ6_bitCount_0f7a4_25 rfl (lv_at hl 0 rfl) ?_
  refine lv_iconst (v := 4) hx hb dJ6_bitCount_0f7a4_26 (by decide) ?_
  refine lv_iushr hx hb dJ6_bitCount_0f7a4_27 rfl ?_
  refine lv_iadd hx hb dJ6_bitCount_0f7a4_28 ?_
  refine lv_ldcw (own := RJ6) (v := 252645135) hx hb M.1.2.2.2.1 (M.1.2.2.2.2 (Cond.constant RJ6 267 252645135) w_346) dJ6_bitCount_0f7a4_29 ?_
  refine lv_iand hx hb dJ6_bitCount_0f7a4_32 ?_
  refine lv_istore_n (lv' := [(0, .int (((((a0 - (((a0.toUInt32 >>> ((1 : Int32).toUInt32 &&& Int32.toUInt32 31)).toInt32) &&& 1431655765)) &&& 858993459) + ((((a0 - (((a0.toUInt32 >>> ((1 : Int32).toUInt32 &&& Int32.toUInt32 31)).toInt32) &&& 1431655765)).toUInt32 >>> ((2 : Int32).toUInt32 &&& Int32.toUInt32 31)).toInt32) &&& 858993459)) + (((((a0 - (((a0.toUInt32 >>> ((1 : Int32).toUInt32 &&& Int32.toUInt32 31)).toInt32) &&& 1431655765)) &&& 858993459) + ((((a0 - (((a0.toUInt32 >>> ((1 : Int32).toUInt32 &&& Int32.toUInt32 31)).toInt32) &&& 1431655765)).toUInt32 >>> ((2 : Int32).toUInt32 &&& Int32.toUInt32 31)).toInt32) &&& 858993459)).toUInt32 >>> ((4 : Int32).toUInt32 &&& Int32.toUInt32 31)).toInt32)) &&& 252645135))]) hx hb dJ6_bitCount_0f7a4_33 rfl hl (by decide) rfl (fun ls hl => ?_)
  refine lv_iload_n hx hb dJ6_bitCount_0f7a4_34 rfl (lv_at hl 0 rfl) ?_
  refine lv_iload_n hx hb dJ6_bitCount_0f7a4_35 rfl (lv_at hl 0 rfl) ?_
  refine lv_bipush (v := 8) hx hb dJ6_bitCount_0f7a4_36 (by decide) ?_
  refine lv_iushr hx hb dJ6_bitCount_0f7a4_38 rfl ?_
  refine lv_iadd hx hb dJ6_bitCount_0f7a4_39 ?_
  refine lv_istore_n (lv' := [(0, .int ((((((a0 - (((a0.toUInt32 >>> ((1 : Int32).toUInt32 &&& Int32.toUInt32 31)).toInt32) &&& 1431655765)) &&& 858993459) + ((((a0 - (((a0.toUInt32 >>> ((1 : Int32).toUInt32 &&& Int32.toUInt32 31)).toInt32) &&& 1431655765)).toUInt32 >>> ((2 : Int32).toUInt32 &&& Int32.toUInt32 31)).toInt32) &&& 858993459)) + (((((a0 - (((a0.toUInt32 >>> ((1 : Int32).toUInt32 &&& Int32.toUInt32 31)).toInt32) &&& 1431655765)) &&& 858993459) + ((((a0 - (((a0.toUInt32 >>> ((1 : Int32).toUInt32 &&& Int32.toUInt32 31)).toInt32) &&& 1431655765)).toUInt32 >>> ((2 : Int32).toUInt32 &&& Int32.toUInt32 31)).toInt32) &&& 858993459)).toUInt32 >>> ((4 : Int32).toUInt32 &&& Int32.toUInt32 31)).toInt32)) &&& 252645135) + (((((((a0 - (((a0.toUInt32 >>> ((1 : Int32).toUInt32 &&& Int32.toUInt32 31)).toInt32) &&& 1431655765)) &&& 858993459) + ((((a0 - (((a0.toUInt32 >>> ((1 : Int32).toUInt32 &&& Int32.toUInt32 31)).toInt32) &&& 1431655765)).toUInt32 >>> ((2 : Int32).toUInt32 &&& Int32.toUInt32 31)).toInt32) &&& 858993459)) + (((((a0 - (((a0.toUInt32 >>> ((1 : Int32).toUInt32 &&& Int32.toUInt32 31)).toInt32) &&& 1431655765)) &&& 858993459) + ((((a0 - (((a0.toUInt32 >>> ((1 : Int32).toUInt32 &&& Int32.toUInt32 31)).toInt32) &&& 1431655765)).toUInt32 >>> ((2 : Int32).toUInt32 &&& Int32.toUInt32 31)).toInt32) &&& 858993459)).toUInt32 >>> ((4 : Int32).toUInt32 &&& Int32.toUInt32 31)).toInt32)) &&& 252645135).toUInt32 >>> ((8 : Int32).toUInt32 &&& Int32.toUInt32 31)).toInt32)))]) hx hb dJ6_bitCount_0f7a4_40 rfl hl (by decide) rfl (fun ls hl => ?_)
  refine lv_iload_n hx hb dJ6_bitCount_0f7a4_41 rfl (lv_at hl 0 rfl) ?_
  refine lv_iload_n hx hb dJ6_bitCount_0f7a4_42 rfl (lv_at hl 0 rfl) ?_
  refine lv_bipush (v := 16) hx hb dJ6_bitCount_0f7a4_43 (by decide) ?_
  refine lv_iushr hx hb dJ6_bitCount_0f7a4_45 rfl ?_
  refine lv_iadd hx hb dJ6_bitCount_0f7a4_46 ?_
  refine lv_istore_n (lv' := [(0, .int (((((((a0 - (((a0.toUInt32 >>> ((1 : Int32).toUInt32 &&& Int32.toUInt32 31)).toInt32) &&& 1431655765)) &&& 858993459) + ((((a0 - (((a0.toUInt32 >>> ((1 : Int32).toUInt32 &&& Int32.toUInt32 31)).toInt32) &&& 1431655765)).toUInt32 >>> ((2 : Int32).toUInt32 &&& Int32.toUInt32 31)).toInt32) &&& 858993459)) + (((((a0 - (((a0.toUInt32 >>> ((1 : Int32).toUInt32 &&& Int32.toUInt32 31)).toInt32) &&& 1431655765)) &&& 858993459) + ((((a0 - (((a0.toUInt32 >>> ((1 : Int32).toUInt32 &&& Int32.toUInt32 31)).toInt32) &&& 1431655765)).toUInt32 >>> ((2 : Int32).toUInt32 &&& Int32.toUInt32 31)).toInt32) &&& 858993459)).toUInt32 >>> ((4 : Int32).toUInt32 &&& Int32.toUInt32 31)).toInt32)) &&& 252645135) + (((((((a0 - (((a0.toUInt32 >>> ((1 : Int32).toUInt32 &&& Int32.toUInt32 31)).toInt32) &&& 1431655765)) &&& 858993459) + ((((a0 - (((a0.toUInt32 >>> ((1 : Int32).toUInt32 &&& Int32.toUInt32 31)).toInt32) &&& 1431655765)).toUInt32 >>> ((2 : Int32).toUInt32 &&& Int32.toUInt32 31)).toInt32) &&& 858993459)) + (((((a0 - (((a0.toUInt32 >>> ((1 : Int32).toUInt32 &&& Int32.toUInt32 31)).toInt32) &&& 1431655765)) &&& 858993459) + ((((a0 - (((a0.toUInt32 >>> ((1 : Int32).toUInt32 &&& Int32.toUInt32 31)).toInt32) &&& 1431655765)).toUInt32 >>> ((2 : Int32).toUInt32 &&& Int32.toUInt32 31)).toInt32) &&& 858993459)).toUInt32 >>> ((4 : Int32).toUInt32 &&& Int32.toUInt32 31)).toInt32)) &&& 252645135).toUInt32 >>> ((8 : Int32).toUInt32 &&& Int32.toUInt32 31)).toInt32)) + ((((((((a0 - (((a0.toUInt32 >>> ((1 : Int32).toUInt32 &&& Int32.toUInt32 31)).toInt32) &&& 1431655765)) &&& 858993459) + ((((a0 - (((a0.toUInt32 >>> ((1 : Int32).toUInt32 &&& Int32.toUInt32 31)).toInt32) &&& 1431655765)).toUInt32 >>> ((2 : Int32).toUInt32 &&& Int32.toUInt32 31)).toInt32) &&& 858993459)) + (((((a0 - (((a0.toUInt32 >>> ((1 : Int32).toUInt32 &&& Int32.toUInt32 31)).toInt32) &&& 1431655765)) &&& 858993459) + ((((a0 - (((a0.toUInt32 >>> ((1 : Int32).toUInt32 &&& Int32.toUInt32 31)).toInt32) &&& 1431655765)).toUInt32 >>> ((2 : Int32).toUInt32 &&& Int32.toUInt32 31)).toInt32) &&& 858993459)).toUInt32 >>> ((4 : Int32).toUInt32 &&& Int32.toUInt32 31)).toInt32)) &&& 252645135) + (((((((a0 - (((a0.toUInt32 >>> ((1 : Int32).toUInt32 &&& Int32.toUInt32 31)).toInt32) &&& 1431655765)) &&& 858993459) + ((((a0 - (((a0.toUInt32 >>> ((1 : Int32).toUInt32 &&& Int32.toUInt32 31)).toInt32) &&& 1431655765)).toUInt32 >>> ((2 : Int32).toUInt32 &&& Int32.toUInt32 31)).toInt32) &&& 858993459)) + (((((a0 - (((a0.toUInt32 >>> ((1 : Int32).toUInt32 &&& Int32.toUInt32 31)).toInt32) &&& 1431655765)) &&& 858993459) + ((((a0 - (((a0.toUInt32 >>> ((1 : Int32).toUInt32 &&& Int32.toUInt32 31)).toInt32) &&& 1431655765)).toUInt32 >>> ((2 : Int32).toUInt32 &&& Int32.toUInt32 31)).toInt32) &&& 858993459)).toUInt32 >>> ((4 : Int32).toUInt32 &&& Int32.toUInt32 31)).toInt32)) &&& 252645135).toUInt32 >>> ((8 : Int32).toUInt32 &&& Int32.toUInt32 31)).toInt32)).toUInt32 >>> ((16 : Int32).toUInt32 &&& Int32.toUInt32 31)).toInt32)))]) hx hb dJ6_bitCount_0f7a4_47 rfl hl (by decide) rfl (fun ls hl => ?_)
  refine lv_iload_n hx hb dJ6_bitCount_0f7a4_48 rfl (lv_at hl 0 rfl) ?_
  refine lv_bipush (v := 63) hx hb dJ6_bitCount_0f7a4_49 (by decide) ?_
  refine lv_iand hx hb dJ6_bitCount_0f7a4_51 ?_
  exact ret_i M hS hP (congrArg (fun z => (z, v)) (Option.some.inj hF)) dJ6_bitCount_0f7a4_52
def L_X2_isOf_9 : Nat → Nat → Int32 → Int32 → Int32 → VV → Option Bool
  | 0, _, _, _, _, _ => none
  | n + 1, x0, x1, x2, x3, v =>
  if 6 < x3 then (some false) else (if x2 < 0 then (some false) else (if x2 = x1 then (some true) else (gu (gI x2 7) (L_X2_isOf_9 n x0 x1 (stA 1 ((x2).toNatClampNeg)) (x3 + 1) v))))
def F_X2_isOf (q0 : Nat) (a1 : Int32) (v : VV) : Option Bool :=
  L_X2_isOf_9 fu q0 a1 (v (q0 + 8) 0) 0 v
set_option maxHeartbeats 4000000 in
set_option maxRecDepth 100000 in
theorem l_X2_isOf_9 {p : Program} {l : Launch} {e : Env} {s : State} {m : MethodId} {args : Array Value} {below : List Frame} {meth : Method} {c : Code} {G : GG} (M : Mx G RX2 cX2_isOf 4 (some .boolean) p s m args meth c) (r : Bool) (v : VV) : ∀ (n : Nat) (x0 : Nat) (x1 : Int32) (x2 : Int32) (x3 : Int32) (hx0 : kd x0 = 2) (H : Heap) (locs : List Loc) (ls : Array Slot), L_X2_isOf_9 n x0 x1 x2 x3 v = some r → Wd G v H → va_S (gA G) s.heap H locs → lv_has ls 4 [(0, .ref (ad G x0)), (1, .int x1), (2, .int x2), (3, .int x3)] → W p l e ({ frames := 0, cells := 0, slots := 0, locals := 0 } : Room) s m args below meth c H locs 0 0 (MQ below (QI G (bI r) v) args s 0 0 (gA G)) (F0 m 9 ls []) := by
  have hx := M.1.1
  have hb := M.1.2.1
  intro n
  induction n with
  | zero =>
    intro x0 x1 x2 x3 hx0 H locs ls hF hP hS hl
    rw [L_X2_isOf_9] at hF
    cases hF
  | succ n ih =>
    intro x0 x1 x2 x3 hx0 H locs ls hF hP hS hl
    rw [L_X2_isOf_9] at hF
    refine lv_iload_n hx hb dX2_isOf_9 rfl (lv_at hl 3 rfl) ?_
    refine lv_bipush (v := 6) hx hb dX2_isOf_10 (by decide) ?_
    refine lv_icmp_gt (tgt := 38) hx hb dX2_isOf_12 (by decide) (fun c1 => ?_) (fun c1 => ?_)
    · replace hF := (if_pos c1).symm.trans hF
      refine lv_iconst (v := 0) hx hb dX2_isOf_38 (by decide) ?_
      exact ret_z M hS hP (congrArg (fun z : Bool => (bI z, v)) (Option.some.inj hF)) rfl dX2_isOf_39
    · replace hF := (if_neg c1).symm.trans hF
      refine lv_iload_n hx hb dX2_isOf_15 rfl (lv_at hl 2 rfl) ?_
      refine lv_if_lt (tgt := 38) hx hb dX2_isOf_16 (by decide) (fun c2 => ?_) (fun c2 => ?_)
      · replace hF := (if_pos c2).symm.trans hF
        refine lv_iconst (v := 0) hx hb dX2_isOf_38 (by decide) ?_
        exact ret_z M hS hP (congrArg (fun z : Bool => (bI z, v)) (Option.some.inj hF)) rfl dX2_isOf_39
      · replace hF := (if_neg c2).symm.trans hF
        refine lv_iload_n hx hb dX2_isOf_19 rfl (lv_at hl 2 rfl) ?_
        refine lv_iload_n hx hb dX2_isOf_20 rfl (lv_at hl 1 rfl) ?_
        refine lv_icmp_ne (tgt := 26) hx hb dX2_isOf_21 (by decide) (fun c3 => ?_) (fun c3 => ?_)
        · replace hF := (if_neg c3).symm.trans hF
          refine fs_2_15 M hS dX2_isOf_26 ?_
          refine lv_iload_n hx hb dX2_isOf_29 rfl (lv_at hl 2 rfl) ?_
          obtain ⟨g4, hF⟩ := gu_some hF
          refine r_sald (k := (x2).toNatClampNeg) M hS (t := 1) (by decide) rfl (in_c g4) rfl dX2_isOf_30 ?_
          refine lv_istore_n (lv' := [(2, .int (stA 1 ((x2).toNatClampNeg))), (0, .ref (ad G x0)), (1, .int x1), (3, .int x3)]) hx hb dX2_isOf_31 rfl hl (by decide) rfl (fun ls hl => ?_)
          refine lv_iinc (v := (x3 + 1)) (lv' := [(3, .int (x3 + 1)), (2, .int (stA 1 ((x2).toNatClampNeg))), (0, .ref (ad G x0)), (1, .int x1)]) hx hb dX2_isOf_32 hl (k := 3) rfl (iinc_eq _ (by decide)) (by decide) rfl (fun ls hl => ?_)
          refine lv_goto (tgt := 9) hx hb dX2_isOf_35 (by decide) ?_
          exact ih x0 x1 (stA 1 ((x2).toNatClampNeg)) (x3 + 1) hx0 _ _ ls hF hP hS (lv_sub hl [2, 3, 1, 0] rfl)
        · replace hF := (if_pos c3).symm.trans hF
          refine lv_iconst (v := 1) hx hb dX2_isOf_24 (by decide) ?_
          exact ret_z M hS hP (congrArg (fun z : Bool => (bI z, v)) (Option.some.inj hF)) rfl dX2_isOf_25
set_option maxHeartbeats 4000000 in
set_option maxRecDepth 100000 in
theorem c_X2_isOf (l : Launch) (G : GG) (q0 : Nat) (hq0 : kd q0 = 2) (a1 : Int32) (v : VV) (r : Bool) (hF : F_X2_isOf q0 a1 v = some r) : Met l yX2_isOf (cdW yX2_isOf cX2_isOf 4 (some .boolean)) ({ frames := 0, cells := 0, slots := 0, locals := 0 } : Room) (PC G v [.ref (ad G q0), .int a1]) (QI G (bI r) v) 0 0 (gA G) := by
  refine met_in RX2 (by decide) rfl (Nat.le_of_ble_eq_true rfl) ?_
  intro p e s m below meth c M hP ls hl
  have hx := M.1.1
  have hb := M.1.2.1
  have hS : va_S (gA G) s.heap s.heap [] := va_S.rf
  have hl : lv_has ls 4 [(0, .ref (ad G q0)), (1, .int a1)] := hl
  unfold F_X2_isOf at hF
  refine lv_aload_n hx hb dX2_isOf_0 rfl (lv_at hl 0 rfl) ?_
  refine fg_2_9 M hP hq0 dX2_isOf_1 ?_
  refine lv_iconst (v := 0) hx hb dX2_isOf_4 (by decide) ?_
  refine r_iald (k := 0) M hP (ge_2k (i := q0) hq0) (ge_2l (i := q0) hq0) (in_c rfl) rfl dX2_isOf_5 ?_
  refine lv_istore_n (lv' := [(2, .int (v (q0 + 8) 0)), (0, .ref (ad G q0)), (1, .int a1)]) hx hb dX2_isOf_6 rfl hl (by decide) rfl (fun ls hl => ?_)
  refine lv_iconst (v := 0) hx hb dX2_isOf_7 (by decide) ?_
  refine lv_istore_n (lv' := [(3, .int 0), (2, .int (v (q0 + 8) 0)), (0, .ref (ad G q0)), (1, .int a1)]) hx hb dX2_isOf_8 rfl hl (by decide) rfl (fun ls hl => ?_)
  exact l_X2_isOf_9 M _ _ fu q0 a1 (v (q0 + 8) 0) 0 hq0 _ _ ls hF hP hS (lv_sub hl [2, 3, 1, 0] rfl)
def L_J7_fill_53178_5 : Nat → Nat → Int32 → Int32 → Int32 → VV → Option VV
  | 0, _, _, _, _, _ => none
  | n + 1, x0, x1, x2, x3, v =>
  if x3 ≤ x2 then (some v) else (gu (gI x2 (ln x0)) (L_J7_fill_53178_5 n x0 x1 (x2 + 1) x3 (pu v x0 ((x2).toNatClampNeg) x1)))
def F_J7_fill_53178 (a0 : Nat) (a1 : Int32) (v : VV) : Option VV :=
  L_J7_fill_53178_5 fu a0 a1 0 (nI (ln a0)) v
set_option maxHeartbeats 4000000 in
set_option maxRecDepth 100000 in
theorem l_J7_fill_53178_5 {p : Program} {l : Launch} {e : Env} {s : State} {m : MethodId} {args : Array Value} {below : List Frame} {meth : Method} {c : Code} {G : GG} (M : Mx G RJ7 cJ7_fill_53178 4 none p s m args meth c) (v' : VV) : ∀ (n : Nat) (x0 : Nat) (x1 : Int32) (x2 : Int32) (x3 : Int32) (hx0 : kd x0 = 7) (v : VV) (H : Heap) (locs : List Loc) (ls : Array Slot), L_J7_fill_53178_5 n x0 x1 x2 x3 v = some v' → Wd G v H → va_S (gA G) s.heap H locs → lv_has ls 4 [(0, .ref (ad G x0)), (1, .int x1), (2, .int x2), (3, .int x3)] → W p l e ({ frames := 0, cells := 0, slots := 0, locals := 0 } : Room) s m args below meth c H locs 0 0 (MQ below (QV G v') args s 0 0 (gA G)) (F0 m 5 ls []) := by
  have hx := M.1.1
  have hb := M.1.2.1
  intro n
  induction n with
  | zero =>
    intro x0 x1 x2 x3 hx0 v H locs ls hF hP hS hl
    rw [L_J7_fill_53178_5] at hF
    cases hF
  | succ n ih =>
    intro x0 x1 x2 x3 hx0 v H locs ls hF hP hS hl
    rw [L_J7_fill_53178_5] at hF
    refine lv_iload_n hx hb dJ7_fill_53178_5 rfl (lv_at hl 2 rfl) ?_
    refine lv_iload_n hx hb dJ7_fill_53178_6 rfl (lv_at hl 3 rfl) ?_
    refine lv_icmp_ge (tgt := 20) hx hb dJ7_fill_53178_7 (by decide) (fun c1 => ?_) (fun c1 => ?_)
    · replace hF := (if_pos c1).symm.trans hF
      exact ret_v M hS hP (Option.some.inj hF) dJ7_fill_53178_20
    · replace hF := (if_neg c1).symm.trans hF
      refine lv_aload_n hx hb dJ7_fill_53178_10 rfl (lv_at hl 0 rfl) ?_
      refine lv_iload_n hx hb dJ7_fill_53178_11 rfl (lv_at hl 2 rfl) ?_
      refine lv_iload_n hx hb dJ7_fill_53178_12 rfl (lv_at hl 1 rfl) ?_
      obtain ⟨g2, hF⟩ := gu_some hF
      refine r_iast (k := (x2).toNatClampNeg) M hS hP hx0 rfl (in_c g2) rfl dJ7_fill_53178_13 (fun H locs hP hS => ?_)
      have hP : Wd G (pu v x0 ((x2).toNatClampNeg) x1) H := hP
      refine lv_iinc (v := (x2 + 1)) (lv' := [(2, .int (x2 + 1)), (0, .ref (ad G x0)), (1, .int x1), (3, .int x3)]) hx hb dJ7_fill_53178_14 hl (k := 2) rfl (iinc_eq _ (by decide)) (by decide) rfl (fun ls hl => ?_)
      refine lv_goto (tgt := 5) hx hb dJ7_fill_53178_17 (by decide) ?_
      exact ih x0 x1 (x2 + 1) x3 hx0 _ _ _ ls hF hP hS (lv_sub hl [1, 2, 0, 3] rfl)
set_option maxHeartbeats 4000000 in
set_option maxRecDepth 100000 in
theorem c_J7_fill_53178 (l : Launch) (G : GG) (a0 : Nat) (ha0 : kd a0 = 7) (a1 : Int32) (v : VV) (v' : VV) (hF : F_J7_fill_53178 a0 a1 v = some v') : Met l yJ7_fill_53178 (cdW yJ7_fill_53178 cJ7_fill_53178 4 none) ({ frames := 0, cells := 0, slots := 0, locals := 0 } : Room) (PC G v [.ref (ad G a0), .int a1]) (QV G v') 0 0 (gA G) := by
  refine met_in RJ7 (by decide) rfl (Nat.le_of_ble_eq_true rfl) ?_
  intro p e s m below meth c M hP ls hl
  have hx := M.1.1
  have hb := M.1.2.1
  have hS : va_S (gA G) s.heap s.heap [] := va_S.rf
  have hl : lv_has ls 4 [(0, .ref (ad G a0)), (1, .int a1)] := hl
  unfold F_J7_fill_53178 at hF
  refine lv_iconst (v := 0) hx hb dJ7_fill_53178_0 (by decide) ?_
  refine lv_istore_n (lv' := [(2, .int 0), (0, .ref (ad G a0)), (1, .int a1)]) hx hb dJ7_fill_53178_1 rfl hl (by decide) rfl (fun ls hl => ?_)
  refine lv_aload_n hx hb dJ7_fill_53178_2 rfl (lv_at hl 1 rfl) ?_
  refine r_alen7 M hP ha0 rfl dJ7_fill_53178_3 ?_
  refine lv_istore_n (lv' := [(3, .int (nI (ln a0))), (2, .int 0), (0, .ref (ad G a0)), (1, .int a1)]) hx hb dJ7_fill_53178_4 rfl hl (by decide) rfl (fun ls hl => ?_)
  exact l_J7_fill_53178_5 M _ fu a0 a1 0 (nI (ln a0)) ha0 _ _ _ ls hF hP hS (lv_sub hl [2, 3, 1, 0] rfl)
