theorem ok_X6_228 : okV RX6 228 RX6 yX6_nobodyLearns cX6_nobodyLearns 5 (some .boolean) 2 := okV_of w_1037 w_1039 w_2041 w_8 w_1040 (by decide +kernel)
theorem ok_X6_231 : okS RX6 231 yX6_isSheet cX6_isSheet 1 (some .boolean) 1 := okS_of w_1049 w_1050 w_8 w_1051 (by decide +kernel)
theorem ok_X6_235 : okV RX6 235 RX6 yX6_isSo cX6_isSo 6 (some .boolean) 2 := okV_of w_1057 w_1059 w_2044 w_8 w_1060 (by decide +kernel)
theorem ok_X6_238 : okV RX6 238 RX6 yX6_lacks cX6_lacks 3 (some .int) 2 := okV_of w_1045 w_1047 w_2042 w_8 w_1048 (by decide +kernel)
theorem ok_X6_242 : okV RX6 242 RX6 yX6_fitting cX6_fitting 8 (some .int) 4 := okV_of w_1053 w_1055 w_2043 w_8 w_1056 (by decide +kernel)
theorem ok_X6_247 : okV RX6 247 RX6 yX6_drawn cX6_drawn 1 (some .int) 0 := okV_of w_1069 w_1071 w_2045 w_8 w_1072 (by decide +kernel)
theorem ok_X6_260 : okV RX6 260 RX6 yX6_byteAt cX6_byteAt 2 (some .int) 1 := okV_of w_1098 w_1100 w_2047 w_8 w_1101 (by decide +kernel)
theorem ok_X6_269 : okV RX6 269 RJ0 yJ0_length_8abf5 cJ0_length_8abf5 1 (some .int) 0 := okV_of w_1110 w_541 w_542 w_12 w_543 (by decide +kernel)
theorem ok_X6_272 : okV RX6 272 RJ0 yJ0_charAt_5068e cJ0_charAt_5068e 2 (some .char) 1 := okV_of w_1111 w_551 w_552 w_12 w_553 (by decide +kernel)
theorem ok_X6_280 : okV RX6 280 RX6 yX6_token cX6_token 2 none 0 := okV_of w_1094 w_1096 w_2046 w_8 w_1097 (by decide +kernel)
theorem ok_X6_283 : okV RX6 283 RX6 yX6_must cX6_must 2 none 1 := okV_of w_1116 w_1118 w_2051 w_8 w_1119 (by decide +kernel)
theorem ok_X6_290 : okV RX6 290 RX6 yX6_isWord cX6_isWord 4 (some .boolean) 1 := okV_of w_1106 w_1108 w_2049 w_8 w_1109 (by decide +kernel)
def L_X6_fogFor_47 : Nat → Int32 → Int32 → Int32 → Int32 → Int32 → Int32 → VV → Option (Int32 × VV)
  | 0, _, _, _, _, _, _, _ => none
  | n + 1, x1, x2, x3, x4, x5, x6, v =>
  if 9 < x6 then (gu (gI (4 + x1) 92) (Option.bind (F_X6_orNone x5 (pu v 1 ((4 + x1).toNatClampNeg) x4)) (fun (r22, v23) => some (r22, v23)))) else (gu (gI (4 + x1) 92) (Option.bind (F_X6_learntBehind x3 (pu v 1 ((4 + x1).toNatClampNeg) x6)) (fun (r27, v28) => (if r27 < x2 then (L_X6_fogFor_47 n x1 x2 x3 x4 x5 (x6 + 1) v28) else (L_X6_fogFor_47 n x1 x2 x3 x4 x6 (x6 + 1) v28)))))
def F_X6_fogFor (a1 : Int32) (a2 : Int32) (a3 : Int32) (v : VV) : Option (Int32 × VV) :=
  Option.bind (F_X6_isPlace a1 v) (fun r2 => (if r2 = true then (Option.bind (F_X6_within a2 0 72 v) (fun r9 => (if r9 = true then (Option.bind (F_X6_isThought a3 v) (fun r16 => (if r16 = true then (gu (gI (4 + a1) 92) (L_X6_fogFor_47 fu a1 a2 a3 (v 1 ((4 + a1).toNatClampNeg)) (-1) 0 v)) else (Option.bind (F_X6_finding (-1000001) v) (fun (r32, v33) => some (r32, v33)))))) else (Option.bind (F_X6_finding (-1000001) v) (fun (r12, v13) => some (r12, v13)))))) else (Option.bind (F_X6_finding (-1000001) v) (fun (r5, v6) => some (r5, v6)))))
set_option maxHeartbeats 4000000 in
set_option maxRecDepth 100000 in
theorem l_X6_fogFor_47 {p : Program} {l : Launch} {e : Env} {s : State} {m : MethodId} {args : Array Value} {below : List Frame} {meth : Method} {c : Code} {G : GG} (M : Mx G RX6 cX6_fogFor 7 (some .int) p s m args meth c) (r : Int32) (v' : VV) : ∀ (n : Nat) (x1 : Int32) (x2 : Int32) (x3 : Int32) (x4 : Int32) (x5 : Int32) (x6 : Int32) (v : VV) (H : Heap) (locs : List Loc) (ls : Array Slot), L_X6_fogFor_47 n x1 x2 x3 x4 x5 x6 v = some (r, v') → Wd G v H → va_S (gA G) s.heap H locs → lv_has ls 7 [(0, .ref (ad G 0)), (1, .int x1), (2, .int x2), (3, .int x3), (4, .int x4), (5, .int x5), (6, .int x6)] → W p l e ({ frames := 8, cells := 0, slots := 0, locals := 179 } : Room) s m args below meth c H locs 0 0 (MQ below (QI G r v') args s 0 0 (gA G)) (F0 m 47 ls []) := by
  have hx := M.1.1
  have hb := M.1.2.1
  intro n
  induction n with
  | zero =>
    intro x1 x2 x3 x4 x5 x6 v H locs ls hF hP hS hl
    rw [L_X6_fogFor_47] at hF
    cases hF
  | succ n ih =>
    intro x1 x2 x3 x4 x5 x6 v H locs ls hF hP hS hl
    rw [L_X6_fogFor_47] at hF
    refine lv_iload hx hb dX6_fogFor_47 (lv_at hl 6 rfl) ?_
    refine lv_bipush (v := 9) hx hb dX6_fogFor_49 (by decide) ?_
    refine lv_icmp_gt (tgt := 88) hx hb dX6_fogFor_51 (by decide) (fun c19 => ?_) (fun c19 => ?_)
    · replace hF := (if_pos c19).symm.trans hF
      refine lv_aload_n hx hb dX6_fogFor_88 rfl (lv_at hl 0 rfl) ?_
      refine fg_6_9 M hP dX6_fogFor_89 ?_
      refine lv_iconst (v := 4) hx hb dX6_fogFor_92 (by decide) ?_
      refine lv_iload_n hx hb dX6_fogFor_93 rfl (lv_at hl 1 rfl) ?_
      refine lv_iadd hx hb dX6_fogFor_94 ?_
      refine lv_iload hx hb dX6_fogFor_95 (lv_at hl 4 rfl) ?_
      obtain ⟨g20, hF⟩ := gu_some hF
      refine r_iast (k := (4 + x1).toNatClampNeg) M hS hP rfl rfl (in_c g20) rfl dX6_fogFor_97 (fun H locs hP hS => ?_)
      have hP : Wd G (pu v 1 ((4 + x1).toNatClampNeg) x4) H := hP
      refine lv_aload_n hx hb dX6_fogFor_98 rfl (lv_at hl 0 rfl) ?_
      refine lv_iload hx hb dX6_fogFor_99 (lv_at hl 5 rfl) ?_
      obtain ⟨⟨r22, v23⟩, h21, hF⟩ := bi_some hF
      dsimp only at hF
      refine k_i hS (kV_run M hS hP ok_X6_219 (c_X6_orNone l G x5 (pu v 1 ((4 + x1).toNatClampNeg) x4) r22 v23 h21) (rc_6 M hP rfl) rfl hl.1 rfl (Nat.le_of_ble_eq_true rfl) ⟨rfl, rfl⟩ ⟨Nat.le_of_ble_eq_true rfl, Nat.le_of_ble_eq_true rfl⟩ dX6_fogFor_101) (fun H locs hP hS => ?_)
      exact ret_i M hS hP (Option.some.inj hF) dX6_fogFor_104
    · replace hF := (if_neg c19).symm.trans hF
      refine lv_aload_n hx hb dX6_fogFor_54 rfl (lv_at hl 0 rfl) ?_
      refine fg_6_9 M hP dX6_fogFor_55 ?_
      refine lv_iconst (v := 4) hx hb dX6_fogFor_58 (by decide) ?_
      refine lv_iload_n hx hb dX6_fogFor_59 rfl (lv_at hl 1 rfl) ?_
      refine lv_iadd hx hb dX6_fogFor_60 ?_
      refine lv_iload hx hb dX6_fogFor_61 (lv_at hl 6 rfl) ?_
      obtain ⟨g25, hF⟩ := gu_some hF
      refine r_iast (k := (4 + x1).toNatClampNeg) M hS hP rfl rfl (in_c g25) rfl dX6_fogFor_63 (fun H locs hP hS => ?_)
      have hP : Wd G (pu v 1 ((4 + x1).toNatClampNeg) x6) H := hP
      refine lv_aload_n hx hb dX6_fogFor_64 rfl (lv_at hl 0 rfl) ?_
      refine lv_iload_n hx hb dX6_fogFor_65 rfl (lv_at hl 3 rfl) ?_
      obtain ⟨⟨r27, v28⟩, h26, hF⟩ := bi_some hF
      dsimp only at hF
      refine k_i hS (kV_run M hS hP ok_X6_225 (c_X6_learntBehind l G x3 (pu v 1 ((4 + x1).toNatClampNeg) x6) r27 v28 h26) (rc_6 M hP rfl) rfl hl.1 rfl (Nat.le_of_ble_eq_true rfl) ⟨rfl, rfl⟩ ⟨Nat.le_of_ble_eq_true rfl, Nat.le_of_ble_eq_true rfl⟩ dX6_fogFor_66) (fun H locs hP hS => ?_)
      refine lv_iload_n hx hb dX6_fogFor_69 rfl (lv_at hl 2 rfl) ?_
      refine lv_icmp_lt (tgt := 78) hx hb dX6_fogFor_70 (by decide) (fun c30 => ?_) (fun c30 => ?_)
      · replace hF := (if_pos c30).symm.trans hF
        refine lv_iload hx hb dX6_fogFor_78 (lv_at hl 5 rfl) ?_
        refine lv_istore (lv' := [(5, .int x5), (0, .ref (ad G 0)), (1, .int x1), (2, .int x2), (3, .int x3), (4, .int x4), (6, .int x6)]) hx hb dX6_fogFor_80 hl (by decide) rfl (fun ls hl => ?_)
        refine lv_iinc (v := (x6 + 1)) (lv' := [(6, .int (x6 + 1)), (5, .int x5), (0, .ref (ad G 0)), (1, .int x1), (2, .int x2), (3, .int x3), (4, .int x4)]) hx hb dX6_fogFor_82 hl (k := 6) rfl (iinc_eq _ (by decide)) (by decide) rfl (fun ls hl => ?_)
        refine lv_goto (tgt := 47) hx hb dX6_fogFor_85 (by decide) ?_
        exact ih x1 x2 x3 x4 x5 (x6 + 1) _ _ _ ls hF hP hS (lv_sub hl [2, 3, 4, 5, 6, 1, 0] rfl)
      · replace hF := (if_neg c30).symm.trans hF
        refine lv_iload hx hb dX6_fogFor_73 (lv_at hl 6 rfl) ?_
        refine lv_goto (tgt := 80) hx hb dX6_fogFor_75 (by decide) ?_
        refine lv_istore (lv' := [(5, .int x6), (0, .ref (ad G 0)), (1, .int x1), (2, .int x2), (3, .int x3), (4, .int x4), (6, .int x6)]) hx hb dX6_fogFor_80 hl (by decide) rfl (fun ls hl => ?_)
        refine lv_iinc (v := (x6 + 1)) (lv' := [(6, .int (x6 + 1)), (5, .int x6), (0, .ref (ad G 0)), (1, .int x1), (2, .int x2), (3, .int x3), (4, .int x4)]) hx hb dX6_fogFor_82 hl (k := 6) rfl (iinc_eq _ (by decide)) (by decide) rfl (fun ls hl => ?_)
        refine lv_goto (tgt := 47) hx hb dX6_fogFor_85 (by decide) ?_
        exact ih x1 x2 x3 x4 x6 (x6 + 1) _ _ _ ls hF hP hS (lv_sub hl [2, 3, 4, 5, 6, 1, 0] rfl)
set_option maxHeartbeats 4000000 in
set_option maxRecDepth 100000 in
theorem c_X6_fogFor (l : Launch) (G : GG) (a1 : Int32) (a2 : Int32) (a3 : Int32) (v : VV) (r : Int32) (v' : VV) (hF : F_X6_fogFor a1 a2 a3 v = some (r, v')) : Met l yX6_fogFor (cdW yX6_fogFor cX6_fogFor 7 (some .int)) ({ frames := 8, cells := 0, slots := 0, locals := 179 } : Room) (PC G v [.ref (ad G 0), .int a1, .int a2, .int a3]) (QI G r v') 0 0 (gA G) := by
  refine met_in RX6 (by decide) rfl (Nat.le_of_ble_eq_true rfl) ?_
  intro p e s m below meth c M hP ls hl
  have hx := M.1.1
  have hb := M.1.2.1
  have hS : va_S (gA G) s.heap s.heap [] := va_S.rf
  have hl : lv_has ls 7 [(0, .ref (ad G 0)), (1, .int a1), (2, .int a2), (3, .int a3)] := hl
  unfold F_X6_fogFor at hF
  refine lv_iload_n hx hb dX6_fogFor_0 rfl (lv_at hl 1 rfl) ?_
  obtain ⟨r2, h1, hF⟩ := bi_some hF
  refine k_i hS (kS_run M hS hP ok_X6_74 (c_X6_isPlace l G a1 v r2 h1) rfl hl.1 rfl (Nat.le_of_ble_eq_true rfl) ⟨rfl, rfl⟩ ⟨Nat.le_of_ble_eq_true rfl, Nat.le_of_ble_eq_true rfl⟩ dX6_fogFor_1) (fun H locs hP hS => ?_)
  refine lv_if_eq (tgt := 24) hx hb dX6_fogFor_4 (by decide) (fun c3 => ?_) (fun c3 => ?_)
  · replace hF := (if_neg (bI_f c3)).symm.trans hF
    refine lv_aload_n hx hb dX6_fogFor_24 rfl (lv_at hl 0 rfl) ?_
    refine lv_ldc (own := RX6) (v := (-1000001)) hx hb M.1.2.2.2.1 (M.1.2.2.2.2 (Cond.constant RX6 60 (-1000001)) w_788) dX6_fogFor_25 ?_
    obtain ⟨⟨r5, v6⟩, h4, hF⟩ := bi_some hF
    dsimp only at hF
    refine k_i hS (kV_run M hS hP ok_X6_66 (c_X6_finding l G (-1000001) v r5 v6 h4) (rc_6 M hP rfl) rfl hl.1 rfl (Nat.le_of_ble_eq_true rfl) ⟨rfl, rfl⟩ ⟨Nat.le_of_ble_eq_true rfl, Nat.le_of_ble_eq_true rfl⟩ dX6_fogFor_27) (fun H locs hP hS => ?_)
    exact ret_i M hS hP (Option.some.inj hF) dX6_fogFor_30
  · replace hF := (if_pos (bI_t c3)).symm.trans hF
    refine lv_iload_n hx hb dX6_fogFor_7 rfl (lv_at hl 2 rfl) ?_
    refine lv_iconst (v := 0) hx hb dX6_fogFor_8 (by decide) ?_
    refine lv_bipush (v := 72) hx hb dX6_fogFor_9 (by decide) ?_
    obtain ⟨r9, h8, hF⟩ := bi_some hF
    refine k_i hS (kS_run M hS hP ok_X6_70 (c_X6_within l G a2 0 72 v r9 h8) rfl hl.1 rfl (Nat.le_of_ble_eq_true rfl) ⟨rfl, rfl⟩ ⟨Nat.le_of_ble_eq_true rfl, Nat.le_of_ble_eq_true rfl⟩ dX6_fogFor_11) (fun H locs hP hS => ?_)
    refine lv_if_eq (tgt := 24) hx hb dX6_fogFor_14 (by decide) (fun c10 => ?_) (fun c10 => ?_)
    · replace hF := (if_neg (bI_f c10)).symm.trans hF
      refine lv_aload_n hx hb dX6_fogFor_24 rfl (lv_at hl 0 rfl) ?_
      refine lv_ldc (own := RX6) (v := (-1000001)) hx hb M.1.2.2.2.1 (M.1.2.2.2.2 (Cond.constant RX6 60 (-1000001)) w_788) dX6_fogFor_25 ?_
      obtain ⟨⟨r12, v13⟩, h11, hF⟩ := bi_some hF
      dsimp only at hF
      refine k_i hS (kV_run M hS hP ok_X6_66 (c_X6_finding l G (-1000001) v r12 v13 h11) (rc_6 M hP rfl) rfl hl.1 rfl (Nat.le_of_ble_eq_true rfl) ⟨rfl, rfl⟩ ⟨Nat.le_of_ble_eq_true rfl, Nat.le_of_ble_eq_true rfl⟩ dX6_fogFor_27) (fun H locs hP hS => ?_)
      exact ret_i M hS hP (Option.some.inj hF) dX6_fogFor_30
    · replace hF := (if_pos (bI_t c10)).symm.trans hF
      refine lv_iload_n hx hb dX6_fogFor_17 rfl (lv_at hl 3 rfl) ?_
      obtain ⟨r16, h15, hF⟩ := bi_some hF
      refine k_i hS (kS_run M hS hP ok_X6_222 (c_X6_isThought l G a3 v r16 h15) rfl hl.1 rfl (Nat.le_of_ble_eq_true rfl) ⟨rfl, rfl⟩ ⟨Nat.le_of_ble_eq_true rfl, Nat.le_of_ble_eq_true rfl⟩ dX6_fogFor_18) (fun H locs hP hS => ?_)
      refine lv_if_ne (tgt := 31) hx hb dX6_fogFor_21 (by decide) (fun c17 => ?_) (fun c17 => ?_)
      · replace hF := (if_pos (bI_t c17)).symm.trans hF
        refine lv_aload_n hx hb dX6_fogFor_31 rfl (lv_at hl 0 rfl) ?_
        refine fg_6_9 M hP dX6_fogFor_32 ?_
        refine lv_iconst (v := 4) hx hb dX6_fogFor_35 (by decide) ?_
        refine lv_iload_n hx hb dX6_fogFor_36 rfl (lv_at hl 1 rfl) ?_
        refine lv_iadd hx hb dX6_fogFor_37 ?_
        obtain ⟨g18, hF⟩ := gu_some hF
        refine r_iald (k := (4 + a1).toNatClampNeg) M hP rfl rfl (in_c g18) rfl dX6_fogFor_38 ?_
        refine lv_istore (lv' := [(4, .int (v 1 ((4 + a1).toNatClampNeg))), (0, .ref (ad G 0)), (1, .int a1), (2, .int a2), (3, .int a3)]) hx hb dX6_fogFor_39 hl (by decide) rfl (fun ls hl => ?_)
        refine lv_iconst (v := (-1)) hx hb dX6_fogFor_41 (by decide) ?_
        refine lv_istore (lv' := [(5, .int (-1)), (4, .int (v 1 ((4 + a1).toNatClampNeg))), (0, .ref (ad G 0)), (1, .int a1), (2, .int a2), (3, .int a3)]) hx hb dX6_fogFor_42 hl (by decide) rfl (fun ls hl => ?_)
        refine lv_iconst (v := 0) hx hb dX6_fogFor_44 (by decide) ?_
        refine lv_istore (lv' := [(6, .int 0), (5, .int (-1)), (4, .int (v 1 ((4 + a1).toNatClampNeg))), (0, .ref (ad G 0)), (1, .int a1), (2, .int a2), (3, .int a3)]) hx hb dX6_fogFor_45 hl (by decide) rfl (fun ls hl => ?_)
        exact l_X6_fogFor_47 M _ _ fu a1 a2 a3 (v 1 ((4 + a1).toNatClampNeg)) (-1) 0 _ _ _ ls hF hP hS (lv_sub hl [3, 4, 5, 6, 2, 1, 0] rfl)
      · replace hF := (if_neg (bI_f c17)).symm.trans hF
        refine lv_aload_n hx hb dX6_fogFor_24 rfl (lv_at hl 0 rfl) ?_
        refine lv_ldc (own := RX6) (v := (-1000001)) hx hb M.1.2.2.2.1 (M.1.2.2.2.2 (Cond.constant RX6 60 (-1000001)) w_788) dX6_fogFor_25 ?_
        obtain ⟨⟨r32, v33⟩, h31, hF⟩ := bi_some hF
        dsimp only at hF
        refine k_i hS (kV_run M hS hP ok_X6_66 (c_X6_finding l G (-1000001) v r32 v33 h31) (rc_6 M hP rfl) rfl hl.1 rfl (Nat.le_of_ble_eq_true rfl) ⟨rfl, rfl⟩ ⟨Nat.le_of_ble_eq_true rfl, Nat.le_of_ble_eq_true rfl⟩ dX6_fogFor_27) (fun H locs hP hS => ?_)
        exact ret_i M hS hP (Option.some.inj hF) dX6_fogFor_30
def L_X6_nobodyLearns_19 : Nat → Int32 → Int32 → Int32 → Int32 → VV → Option (Bool × VV)
  | 0, _, _, _, _, _ => none
  | n + 1, x1, x2, x3, x4, v =>
  if (v 1 1) ≤ x4 then (Option.bind (F_X6_daysGo x2 v) (fun v9 => Option.bind (F_X6_learntInAll v9) (fun r11 => (if x3 < r11 then (Option.bind (F_X6_copyRow 3 1 v9) (fun v15 => some (false, v15))) else (Option.bind (F_X6_copyRow 3 1 v9) (fun v18 => some (true, v18))))))) else (if ((x1 >>> (x4 &&& 31)) &&& 1) = 1 then (Option.bind (F_X6_keeperAt x4 5 v) (fun r21 => gu (gI r21 92) (L_X6_nobodyLearns_19 n x1 x2 x3 (x4 + 1) (pu v 1 ((r21).toNatClampNeg) 1)))) else (L_X6_nobodyLearns_19 n x1 x2 x3 (x4 + 1) v))
def F_X6_nobodyLearns (a1 : Int32) (a2 : Int32) (v : VV) : Option (Bool × VV) :=
  Option.bind (F_X6_learntInAll v) (fun r2 => Option.bind (F_X6_copyRow 1 3 v) (fun v5 => L_X6_nobodyLearns_19 fu a1 a2 r2 0 v5))
set_option maxHeartbeats 4000000 in
set_option maxRecDepth 100000 in
theorem l_X6_nobodyLearns_19 {p : Program} {l : Launch} {e : Env} {s : State} {m : MethodId} {args : Array Value} {below : List Frame} {meth : Method} {c : Code} {G : GG} (M : Mx G RX6 cX6_nobodyLearns 5 (some .boolean) p s m args meth c) (r : Bool) (v' : VV) : ∀ (n : Nat) (x1 : Int32) (x2 : Int32) (x3 : Int32) (x4 : Int32) (v : VV) (H : Heap) (locs : List Loc) (ls : Array Slot), L_X6_nobodyLearns_19 n x1 x2 x3 x4 v = some (r, v') → Wd G v H → va_S (gA G) s.heap H locs → lv_has ls 5 [(0, .ref (ad G 0)), (1, .int x1), (2, .int x2), (3, .int x3), (4, .int x4)] → W p l e ({ frames := 7, cells := 0, slots := 0, locals := 158 } : Room) s m args below meth c H locs 0 0 (MQ below (QI G (bI r) v') args s 0 0 (gA G)) (F0 m 19 ls []) := by
  have hx := M.1.1
  have hb := M.1.2.1
  intro n
  induction n with
  | zero =>
    intro x1 x2 x3 x4 v H locs ls hF hP hS hl
    rw [L_X6_nobodyLearns_19] at hF
    cases hF
  | succ n ih =>
    intro x1 x2 x3 x4 v H locs ls hF hP hS hl
    rw [L_X6_nobodyLearns_19] at hF
    refine lv_iload hx hb dX6_nobodyLearns_19 (lv_at hl 4 rfl) ?_
    refine lv_aload_n hx hb dX6_nobodyLearns_21 rfl (lv_at hl 0 rfl) ?_
    refine fg_6_9 M hP dX6_nobodyLearns_22 ?_
    refine lv_iconst (v := 1) hx hb dX6_nobodyLearns_25 (by decide) ?_
    refine r_iald (k := 1) M hP rfl rfl (in_c rfl) rfl dX6_nobodyLearns_26 ?_
    refine lv_icmp_ge (tgt := 58) hx hb dX6_nobodyLearns_27 (by decide) (fun c6 => ?_) (fun c6 => ?_)
    · replace hF := (if_pos c6).symm.trans hF
      refine lv_aload_n hx hb dX6_nobodyLearns_58 rfl (lv_at hl 0 rfl) ?_
      refine lv_iload_n hx hb dX6_nobodyLearns_59 rfl (lv_at hl 2 rfl) ?_
      obtain ⟨v9, h7, hF⟩ := bi_some hF
      refine k_v hS (kV_run M hS hP ok_X6_184 (c_X6_daysGo l G x2 v v9 h7) (rc_6 M hP rfl) rfl hl.1 rfl (Nat.le_of_ble_eq_true rfl) ⟨rfl, rfl⟩ ⟨Nat.le_of_ble_eq_true rfl, Nat.le_of_ble_eq_true rfl⟩ dX6_nobodyLearns_60) (fun H locs hP hS => ?_)
      refine lv_aload_n hx hb dX6_nobodyLearns_63 rfl (lv_at hl 0 rfl) ?_
      obtain ⟨r11, h10, hF⟩ := bi_some hF
      refine k_i hS (kV_run M hS hP ok_X6_188 (c_X6_learntInAll l G v9 r11 h10) (rc_6 M hP rfl) rfl hl.1 rfl (Nat.le_of_ble_eq_true rfl) ⟨rfl, rfl⟩ ⟨Nat.le_of_ble_eq_true rfl, Nat.le_of_ble_eq_true rfl⟩ dX6_nobodyLearns_64) (fun H locs hP hS => ?_)
      refine lv_iload_n hx hb dX6_nobodyLearns_67 rfl (lv_at hl 3 rfl) ?_
      refine lv_icmp_gt (tgt := 75) hx hb dX6_nobodyLearns_68 (by decide) (fun c12 => ?_) (fun c12 => ?_)
      · replace hF := (if_pos c12).symm.trans hF
        refine lv_iconst (v := 0) hx hb dX6_nobodyLearns_75 (by decide) ?_
        refine lv_istore (lv' := [(4, .int 0), (0, .ref (ad G 0)), (1, .int x1), (2, .int x2), (3, .int x3)]) hx hb dX6_nobodyLearns_76 hl (by decide) rfl (fun ls hl => ?_)
        refine lv_aload_n hx hb dX6_nobodyLearns_78 rfl (lv_at hl 1 rfl) ?_
        refine fg_6_16 M hP dX6_nobodyLearns_79 ?_
        refine lv_aload_n hx hb dX6_nobodyLearns_82 rfl (lv_at hl 1 rfl) ?_
        refine fg_6_9 M hP dX6_nobodyLearns_83 ?_
        obtain ⟨v15, h13, hF⟩ := bi_some hF
        refine k_v hS (kS_run M hS hP ok_X6_61 (c_X6_copyRow l G 3 rfl 1 rfl v9 v15 h13) rfl hl.1 rfl (Nat.le_of_ble_eq_true rfl) ⟨rfl, rfl⟩ ⟨Nat.le_of_ble_eq_true rfl, Nat.le_of_ble_eq_true rfl⟩ dX6_nobodyLearns_86) (fun H locs hP hS => ?_)
        refine lv_iload hx hb dX6_nobodyLearns_89 (lv_at hl 0 rfl) ?_
        exact ret_z M hS hP (congrArg (fun z : Bool × VV => (bI z.1, z.2)) (Option.some.inj hF)) rfl dX6_nobodyLearns_91
      · replace hF := (if_neg c12).symm.trans hF
        refine lv_iconst (v := 1) hx hb dX6_nobodyLearns_71 (by decide) ?_
        refine lv_goto (tgt := 76) hx hb dX6_nobodyLearns_72 (by decide) ?_
        refine lv_istore (lv' := [(4, .int 1), (0, .ref (ad G 0)), (1, .int x1), (2, .int x2), (3, .int x3)]) hx hb dX6_nobodyLearns_76 hl (by decide) rfl (fun ls hl => ?_)
        refine lv_aload_n hx hb dX6_nobodyLearns_78 rfl (lv_at hl 1 rfl) ?_
        refine fg_6_16 M hP dX6_nobodyLearns_79 ?_
        refine lv_aload_n hx hb dX6_nobodyLearns_82 rfl (lv_at hl 1 rfl) ?_
        refine fg_6_9 M hP dX6_nobodyLearns_83 ?_
        obtain ⟨v18, h16, hF⟩ := bi_some hF
        refine k_v hS (kS_run M hS hP ok_X6_61 (c_X6_copyRow l G 3 rfl 1 rfl v9 v18 h16) rfl hl.1 rfl (Nat.le_of_ble_eq_true rfl) ⟨rfl, rfl⟩ ⟨Nat.le_of_ble_eq_true rfl, Nat.le_of_ble_eq_true rfl⟩ dX6_nobodyLearns_86) (fun H locs hP hS => ?_)
        refine lv_iload hx hb dX6_nobodyLearns_89 (lv_at hl 0 rfl) ?_
        exact ret_z M hS hP (congrArg (fun z : Bool × VV => (bI z.1, z.2)) (Option.some.inj hF)) rfl dX6_nobodyLearns_91
    · replace hF := (if_neg c6).symm.trans hF
      refine lv_iload_n hx hb dX6_nobodyLearns_30 rfl (lv_at hl 1 rfl) ?_
      refine lv_iload hx hb dX6_nobodyLearns_31 (lv_at hl 4 rfl) ?_
      refine lv_ishr hx hb dX6_nobodyLearns_33 ?_
      refine lv_iconst (v := 1) hx hb dX6_nobodyLearns_34 (by decide) ?_
      refine lv_iand hx hb dX6_nobodyLearns_35 ?_
      refine lv_iconst (v := 1) hx hb dX6_nobodyLearns_36 (by decide) ?_
      refine lv_icmp_ne (tgt := 52) hx hb dX6_nobodyLearns_37 (by decide) (fun c19 => ?_) (fun c19 => ?_)
      · replace hF := (if_neg c19).symm.trans hF
        refine lv_iinc (v := (x4 + 1)) (lv' := [(4, .int (x4 + 1)), (0, .ref (ad G 0)), (1, .int x1), (2, .int x2), (3, .int x3)]) hx hb dX6_nobodyLearns_52 hl (k := 4) rfl (iinc_eq _ (by decide)) (by decide) rfl (fun ls hl => ?_)
        refine lv_goto (tgt := 19) hx hb dX6_nobodyLearns_55 (by decide) ?_
        exact ih x1 x2 x3 (x4 + 1) _ _ _ ls hF hP hS (lv_sub hl [1, 2, 3, 4, 0] rfl)
      · replace hF := (if_pos c19).symm.trans hF
        refine lv_aload_n hx hb dX6_nobodyLearns_40 rfl (lv_at hl 0 rfl) ?_
        refine fg_6_9 M hP dX6_nobodyLearns_41 ?_
        refine lv_iload hx hb dX6_nobodyLearns_44 (lv_at hl 4 rfl) ?_
        refine lv_iconst (v := 5) hx hb dX6_nobodyLearns_46 (by decide) ?_
        obtain ⟨r21, h20, hF⟩ := bi_some hF
        refine k_i hS (kS_run M hS hP ok_X6_85 (c_X6_keeperAt l G x4 5 v r21 h20) rfl hl.1 rfl (Nat.le_of_ble_eq_true rfl) ⟨rfl, rfl⟩ ⟨Nat.le_of_ble_eq_true rfl, Nat.le_of_ble_eq_true rfl⟩ dX6_nobodyLearns_47) (fun H locs hP hS => ?_)
        refine lv_iconst (v := 1) hx hb dX6_nobodyLearns_50 (by decide) ?_
        obtain ⟨g22, hF⟩ := gu_some hF
        refine r_iast (k := (r21).toNatClampNeg) M hS hP rfl rfl (in_c g22) rfl dX6_nobodyLearns_51 (fun H locs hP hS => ?_)
        have hP : Wd G (pu v 1 ((r21).toNatClampNeg) 1) H := hP
        refine lv_iinc (v := (x4 + 1)) (lv' := [(4, .int (x4 + 1)), (0, .ref (ad G 0)), (1, .int x1), (2, .int x2), (3, .int x3)]) hx hb dX6_nobodyLearns_52 hl (k := 4) rfl (iinc_eq _ (by decide)) (by decide) rfl (fun ls hl => ?_)
        refine lv_goto (tgt := 19) hx hb dX6_nobodyLearns_55 (by decide) ?_
        exact ih x1 x2 x3 (x4 + 1) _ _ _ ls hF hP hS (lv_sub hl [1, 2, 3, 4, 0] rfl)
set_option maxHeartbeats 4000000 in
set_option maxRecDepth 100000 in
theorem c_X6_nobodyLearns (l : Launch) (G : GG) (a1 : Int32) (a2 : Int32) (v : VV) (r : Bool) (v' : VV) (hF : F_X6_nobodyLearns a1 a2 v = some (r, v')) : Met l yX6_nobodyLearns (cdW yX6_nobodyLearns cX6_nobodyLearns 5 (some .boolean)) ({ frames := 7, cells := 0, slots := 0, locals := 158 } : Room) (PC G v [.ref (ad G 0), .int a1, .int a2]) (QI G (bI r) v') 0 0 (gA G) := by
  refine met_in RX6 (by decide) rfl (Nat.le_of_ble_eq_true rfl) ?_
  intro p e s m below meth c M hP ls hl
  have hx := M.1.1
  have hb := M.1.2.1
  have hS : va_S (gA G) s.heap s.heap [] := va_S.rf
  have hl : lv_has ls 5 [(0, .ref (ad G 0)), (1, .int a1), (2, .int a2)] := hl
  unfold F_X6_nobodyLearns at hF
  refine lv_aload_n hx hb dX6_nobodyLearns_0 rfl (lv_at hl 0 rfl) ?_
  obtain ⟨r2, h1, hF⟩ := bi_some hF
  refine k_i hS (kV_run M hS hP ok_X6_188 (c_X6_learntInAll l G v r2 h1) (rc_6 M hP rfl) rfl hl.1 rfl (Nat.le_of_ble_eq_true rfl) ⟨rfl, rfl⟩ ⟨Nat.le_of_ble_eq_true rfl, Nat.le_of_ble_eq_true rfl⟩ dX6_nobodyLearns_1) (fun H locs hP hS => ?_)
  refine lv_istore_n (lv' := [(3, .int r2), (0, .ref (ad G 0)), (1, .int a1), (2, .int a2)]) hx hb dX6_nobodyLearns_4 rfl hl (by decide) rfl (fun ls hl => ?_)
  refine lv_aload_n hx hb dX6_nobodyLearns_5 rfl (lv_at hl 1 rfl) ?_
  refine fg_6_9 M hP dX6_nobodyLearns_6 ?_
  refine lv_aload_n hx hb dX6_nobodyLearns_9 rfl (lv_at hl 1 rfl) ?_
  refine fg_6_16 M hP dX6_nobodyLearns_10 ?_
  obtain ⟨v5, h3, hF⟩ := bi_some hF
  refine k_v hS (kS_run M hS hP ok_X6_61 (c_X6_copyRow l G 1 rfl 3 rfl v v5 h3) rfl hl.1 rfl (Nat.le_of_ble_eq_true rfl) ⟨rfl, rfl⟩ ⟨Nat.le_of_ble_eq_true rfl, Nat.le_of_ble_eq_true rfl⟩ dX6_nobodyLearns_13) (fun H locs hP hS => ?_)
  refine lv_iconst (v := 0) hx hb dX6_nobodyLearns_16 (by decide) ?_
  refine lv_istore (lv' := [(4, .int 0), (3, .int r2), (0, .ref (ad G 0)), (1, .int a1), (2, .int a2)]) hx hb dX6_nobodyLearns_17 hl (by decide) rfl (fun ls hl => ?_)
  exact l_X6_nobodyLearns_19 M _ _ fu a1 a2 r2 0 _ _ _ ls hF hP hS (lv_sub hl [2, 3, 4, 1, 0] rfl)
def L_X6_hush_30 : Nat → Int32 → Int32 → Int32 → VV → Option (Int32 × VV)
  | 0, _, _, _, _ => none
  | n + 1, x1, x2, x3, v =>
  if x3 < 0 then (Option.bind (F_X6_orNone x2 v) (fun (r6, v7) => some (r6, v7))) else (if x2 < 0 then (Option.bind (F_X6_nobodyLearns x3 x1 v) (fun (r11, v12) => (if r11 = true then (L_X6_hush_30 n x1 x3 (x3 + (-1)) v12) else (L_X6_hush_30 n x1 x2 (x3 + (-1)) v12)))) else (Option.bind (F_X6_bits x3 v) (fun r16 => Option.bind (F_X6_bits x2 v) (fun r18 => (if r18 < r16 then (L_X6_hush_30 n x1 x2 (x3 + (-1)) v) else (Option.bind (F_X6_nobodyLearns x3 x1 v) (fun (r21, v22) => (if r21 = true then (L_X6_hush_30 n x1 x3 (x3 + (-1)) v22) else (L_X6_hush_30 n x1 x2 (x3 + (-1)) v22)))))))))
def F_X6_hush (a1 : Int32) (v : VV) : Option (Int32 × VV) :=
  Option.bind (F_X6_within a1 0 20 v) (fun r2 => (if r2 = true then (L_X6_hush_30 fu a1 (-1) ((1 <<< ((v 1 1) &&& 31)) - 1) v) else (Option.bind (F_X6_finding (-1000001) v) (fun (r26, v27) => some (r26, v27)))))
set_option maxHeartbeats 4000000 in
set_option maxRecDepth 100000 in
theorem l_X6_hush_30 {p : Program} {l : Launch} {e : Env} {s : State} {m : MethodId} {args : Array Value} {below : List Frame} {meth : Method} {c : Code} {G : GG} (M : Mx G RX6 cX6_hush 4 (some .int) p s m args meth c) (r : Int32) (v' : VV) : ∀ (n : Nat) (x1 : Int32) (x2 : Int32) (x3 : Int32) (v : VV) (H : Heap) (locs : List Loc) (ls : Array Slot), L_X6_hush_30 n x1 x2 x3 v = some (r, v') → Wd G v H → va_S (gA G) s.heap H locs → lv_has ls 4 [(0, .ref (ad G 0)), (1, .int x1), (2, .int x2), (3, .int x3)] → W p l e ({ frames := 8, cells := 0, slots := 0, locals := 182 } : Room) s m args below meth c H locs 0 0 (MQ below (QI G r v') args s 0 0 (gA G)) (F0 m 30 ls []) := by
  have hx := M.1.1
  have hb := M.1.2.1
  intro n
  induction n with
  | zero =>
    intro x1 x2 x3 v H locs ls hF hP hS hl
    rw [L_X6_hush_30] at hF
    cases hF
  | succ n ih =>
    intro x1 x2 x3 v H locs ls hF hP hS hl
    rw [L_X6_hush_30] at hF
    refine lv_iload_n hx hb dX6_hush_30 rfl (lv_at hl 3 rfl) ?_
    refine lv_if_lt (tgt := 70) hx hb dX6_hush_31 (by decide) (fun c4 => ?_) (fun c4 => ?_)
    · replace hF := (if_pos c4).symm.trans hF
      refine lv_aload_n hx hb dX6_hush_70 rfl (lv_at hl 0 rfl) ?_
      refine lv_iload_n hx hb dX6_hush_71 rfl (lv_at hl 2 rfl) ?_
      obtain ⟨⟨r6, v7⟩, h5, hF⟩ := bi_some hF
      dsimp only at hF
      refine k_i hS (kV_run M hS hP ok_X6_219 (c_X6_orNone l G x2 v r6 v7 h5) (rc_6 M hP rfl) rfl hl.1 rfl (Nat.le_of_ble_eq_true rfl) ⟨rfl, rfl⟩ ⟨Nat.le_of_ble_eq_true rfl, Nat.le_of_ble_eq_true rfl⟩ dX6_hush_72) (fun H locs hP hS => ?_)
      exact ret_i M hS hP (Option.some.inj hF) dX6_hush_75
    · replace hF := (if_neg c4).symm.trans hF
      refine lv_iload_n hx hb dX6_hush_34 rfl (lv_at hl 2 rfl) ?_
      refine lv_if_lt (tgt := 49) hx hb dX6_hush_35 (by decide) (fun c9 => ?_) (fun c9 => ?_)
      · replace hF := (if_pos c9).symm.trans hF
        refine lv_aload_n hx hb dX6_hush_49 rfl (lv_at hl 0 rfl) ?_
        refine lv_iload_n hx hb dX6_hush_50 rfl (lv_at hl 3 rfl) ?_
        refine lv_iload_n hx hb dX6_hush_51 rfl (lv_at hl 1 rfl) ?_
        obtain ⟨⟨r11, v12⟩, h10, hF⟩ := bi_some hF
        dsimp only at hF
        refine k_i hS (kV_run M hS hP ok_X6_228 (c_X6_nobodyLearns l G x3 x1 v r11 v12 h10) (rc_6 M hP rfl) rfl hl.1 rfl (Nat.le_of_ble_eq_true rfl) ⟨rfl, rfl⟩ ⟨Nat.le_of_ble_eq_true rfl, Nat.le_of_ble_eq_true rfl⟩ dX6_hush_52) (fun H locs hP hS => ?_)
        refine lv_if_eq (tgt := 62) hx hb dX6_hush_55 (by decide) (fun c14 => ?_) (fun c14 => ?_)
        · replace hF := (if_neg (bI_f c14)).symm.trans hF
          refine lv_iload_n hx hb dX6_hush_62 rfl (lv_at hl 2 rfl) ?_
          refine lv_istore_n (lv' := [(2, .int x2), (0, .ref (ad G 0)), (1, .int x1), (3, .int x3)]) hx hb dX6_hush_63 rfl hl (by decide) rfl (fun ls hl => ?_)
          refine lv_iinc (v := (x3 + (-1))) (lv' := [(3, .int (x3 + (-1))), (2, .int x2), (0, .ref (ad G 0)), (1, .int x1)]) hx hb dX6_hush_64 hl (k := 3) rfl (iinc_eq _ (by decide)) (by decide) rfl (fun ls hl => ?_)
          refine lv_goto (tgt := 30) hx hb dX6_hush_67 (by decide) ?_
          exact ih x1 x2 (x3 + (-1)) _ _ _ ls hF hP hS (lv_sub hl [2, 3, 1, 0] rfl)
        · replace hF := (if_pos (bI_t c14)).symm.trans hF
          refine lv_iload_n hx hb dX6_hush_58 rfl (lv_at hl 3 rfl) ?_
          refine lv_goto (tgt := 63) hx hb dX6_hush_59 (by decide) ?_
          refine lv_istore_n (lv' := [(2, .int x3), (0, .ref (ad G 0)), (1, .int x1), (3, .int x3)]) hx hb dX6_hush_63 rfl hl (by decide) rfl (fun ls hl => ?_)
          refine lv_iinc (v := (x3 + (-1))) (lv' := [(3, .int (x3 + (-1))), (2, .int x3), (0, .ref (ad G 0)), (1, .int x1)]) hx hb dX6_hush_64 hl (k := 3) rfl (iinc_eq _ (by decide)) (by decide) rfl (fun ls hl => ?_)
          refine lv_goto (tgt := 30) hx hb dX6_hush_67 (by decide) ?_
          exact ih x1 x3 (x3 + (-1)) _ _ _ ls hF hP hS (lv_sub hl [2, 3, 1, 0] rfl)
      · replace hF := (if_neg c9).symm.trans hF
        refine lv_iload_n hx hb dX6_hush_38 rfl (lv_at hl 3 rfl) ?_
        obtain ⟨r16, h15, hF⟩ := bi_some hF
        refine k_i hS (kS_run M hS hP ok_X6_180 (c_X6_bits l G x3 v r16 h15) rfl hl.1 rfl (Nat.le_of_ble_eq_true rfl) ⟨rfl, rfl⟩ ⟨Nat.le_of_ble_eq_true rfl, Nat.le_of_ble_eq_true rfl⟩ dX6_hush_39) (fun H locs hP hS => ?_)
        refine lv_iload_n hx hb dX6_hush_42 rfl (lv_at hl 2 rfl) ?_
        obtain ⟨r18, h17, hF⟩ := bi_some hF
        refine k_i hS (kS_run M hS hP ok_X6_180 (c_X6_bits l G x2 v r18 h17) rfl hl.1 rfl (Nat.le_of_ble_eq_true rfl) ⟨rfl, rfl⟩ ⟨Nat.le_of_ble_eq_true rfl, Nat.le_of_ble_eq_true rfl⟩ dX6_hush_43) (fun H locs hP hS => ?_)
        refine lv_icmp_gt (tgt := 62) hx hb dX6_hush_46 (by decide) (fun c19 => ?_) (fun c19 => ?_)
        · replace hF := (if_pos c19).symm.trans hF
          refine lv_iload_n hx hb dX6_hush_62 rfl (lv_at hl 2 rfl) ?_
          refine lv_istore_n (lv' := [(2, .int x2), (0, .ref (ad G 0)), (1, .int x1), (3, .int x3)]) hx hb dX6_hush_63 rfl hl (by decide) rfl (fun ls hl => ?_)
          refine lv_iinc (v := (x3 + (-1))) (lv' := [(3, .int (x3 + (-1))), (2, .int x2), (0, .ref (ad G 0)), (1, .int x1)]) hx hb dX6_hush_64 hl (k := 3) rfl (iinc_eq _ (by decide)) (by decide) rfl (fun ls hl => ?_)
          refine lv_goto (tgt := 30) hx hb dX6_hush_67 (by decide) ?_
          exact ih x1 x2 (x3 + (-1)) _ _ _ ls hF hP hS (lv_sub hl [2, 3, 1, 0] rfl)
        · replace hF := (if_neg c19).symm.trans hF
          refine lv_aload_n hx hb dX6_hush_49 rfl (lv_at hl 0 rfl) ?_
          refine lv_iload_n hx hb dX6_hush_50 rfl (lv_at hl 3 rfl) ?_
          refine lv_iload_n hx hb dX6_hush_51 rfl (lv_at hl 1 rfl) ?_
          obtain ⟨⟨r21, v22⟩, h20, hF⟩ := bi_some hF
          dsimp only at hF
          refine k_i hS (kV_run M hS hP ok_X6_228 (c_X6_nobodyLearns l G x3 x1 v r21 v22 h20) (rc_6 M hP rfl) rfl hl.1 rfl (Nat.le_of_ble_eq_true rfl) ⟨rfl, rfl⟩ ⟨Nat.le_of_ble_eq_true rfl, Nat.le_of_ble_eq_true rfl⟩ dX6_hush_52) (fun H locs hP hS => ?_)
          refine lv_if_eq (tgt := 62) hx hb dX6_hush_55 (by decide) (fun c24 => ?_) (fun c24 => ?_)
          · replace hF := (if_neg (bI_f c24)).symm.trans hF
            refine lv_iload_n hx hb dX6_hush_62 rfl (lv_at hl 2 rfl) ?_
            refine lv_istore_n (lv' := [(2, .int x2), (0, .ref (ad G 0)), (1, .int x1), (3, .int x3)]) hx hb dX6_hush_63 rfl hl (by decide) rfl (fun ls hl => ?_)
            refine lv_iinc (v := (x3 + (-1))) (lv' := [(3, .int (x3 + (-1))), (2, .int x2), (0, .ref (ad G 0)), (1, .int x1)]) hx hb dX6_hush_64 hl (k := 3) rfl (iinc_eq _ (by decide)) (by decide) rfl (fun ls hl => ?_)
            refine lv_goto (tgt := 30) hx hb dX6_hush_67 (by decide) ?_
            exact ih x1 x2 (x3 + (-1)) _ _ _ ls hF hP hS (lv_sub hl [2, 3, 1, 0] rfl)
          · replace hF := (if_pos (bI_t c24)).symm.trans hF
            refine lv_iload_n hx hb dX6_hush_58 rfl (lv_at hl 3 rfl) ?_
            refine lv_goto (tgt := 63) hx hb dX6_hush_59 (by decide) ?_
            refine lv_istore_n (lv' := [(2, .int x3), (0, .ref (ad G 0)), (1, .int x1), (3, .int x3)]) hx hb dX6_hush_63 rfl hl (by decide) rfl (fun ls hl => ?_)
            refine lv_iinc (v := (x3 + (-1))) (lv' := [(3, .int (x3 + (-1))), (2, .int x3), (0, .ref (ad G 0)), (1, .int x1)]) hx hb dX6_hush_64 hl (k := 3) rfl (iinc_eq _ (by decide)) (by decide) rfl (fun ls hl => ?_)
            refine lv_goto (tgt := 30) hx hb dX6_hush_67 (by decide) ?_
            exact ih x1 x3 (x3 + (-1)) _ _ _ ls hF hP hS (lv_sub hl [2, 3, 1, 0] rfl)
set_option maxHeartbeats 4000000 in
set_option maxRecDepth 100000 in
theorem c_X6_hush (l : Launch) (G : GG) (a1 : Int32) (v : VV) (r : Int32) (v' : VV) (hF : F_X6_hush a1 v = some (r, v')) : Met l yX6_hush (cdW yX6_hush cX6_hush 4 (some .int)) ({ frames := 8, cells := 0, slots := 0, locals := 182 } : Room) (PC G v [.ref (ad G 0), .int a1]) (QI G r v') 0 0 (gA G) := by
  refine met_in RX6 (by decide) rfl (Nat.le_of_ble_eq_true rfl) ?_
  intro p e s m below meth c M hP ls hl
  have hx := M.1.1
  have hb := M.1.2.1
  have hS : va_S (gA G) s.heap s.heap [] := va_S.rf
  have hl : lv_has ls 4 [(0, .ref (ad G 0)), (1, .int a1)] := hl
  unfold F_X6_hush at hF
  refine lv_iload_n hx hb dX6_hush_0 rfl (lv_at hl 1 rfl) ?_
  refine lv_iconst (v := 0) hx hb dX6_hush_1 (by decide) ?_
  refine lv_bipush (v := 20) hx hb dX6_hush_2 (by decide) ?_
  obtain ⟨r2, h1, hF⟩ := bi_some hF
  refine k_i hS (kS_run M hS hP ok_X6_70 (c_X6_within l G a1 0 20 v r2 h1) rfl hl.1 rfl (Nat.le_of_ble_eq_true rfl) ⟨rfl, rfl⟩ ⟨Nat.le_of_ble_eq_true rfl, Nat.le_of_ble_eq_true rfl⟩ dX6_hush_4) (fun H locs hP hS => ?_)
  refine lv_if_ne (tgt := 17) hx hb dX6_hush_7 (by decide) (fun c3 => ?_) (fun c3 => ?_)
  · replace hF := (if_pos (bI_t c3)).symm.trans hF
    refine lv_iconst (v := (-1)) hx hb dX6_hush_17 (by decide) ?_
    refine lv_istore_n (lv' := [(2, .int (-1)), (0, .ref (ad G 0)), (1, .int a1)]) hx hb dX6_hush_18 rfl hl (by decide) rfl (fun ls hl => ?_)
    refine lv_iconst (v := 1) hx hb dX6_hush_19 (by decide) ?_
    refine lv_aload_n hx hb dX6_hush_20 rfl (lv_at hl 1 rfl) ?_
    refine fg_6_9 M hP dX6_hush_21 ?_
    refine lv_iconst (v := 1) hx hb dX6_hush_24 (by decide) ?_
    refine r_iald (k := 1) M hP rfl rfl (in_c rfl) rfl dX6_hush_25 ?_
    refine lv_ishl hx hb dX6_hush_26 ?_
    refine lv_iconst (v := 1) hx hb dX6_hush_27 (by decide) ?_
    refine lv_isub hx hb dX6_hush_28 ?_
    refine lv_istore_n (lv' := [(3, .int ((1 <<< ((v 1 1) &&& 31)) - 1)), (2, .int (-1)), (0, .ref (ad G 0)), (1, .int a1)]) hx hb dX6_hush_29 rfl hl (by decide) rfl (fun ls hl => ?_)
    exact l_X6_hush_30 M _ _ fu a1 (-1) ((1 <<< ((v 1 1) &&& 31)) - 1) _ _ _ ls hF hP hS (lv_sub hl [2, 3, 1, 0] rfl)
  · replace hF := (if_neg (bI_f c3)).symm.trans hF
    refine lv_aload_n hx hb dX6_hush_10 rfl (lv_at hl 0 rfl) ?_
    refine lv_ldc (own := RX6) (v := (-1000001)) hx hb M.1.2.2.2.1 (M.1.2.2.2.2 (Cond.constant RX6 60 (-1000001)) w_788) dX6_hush_11 ?_
    obtain ⟨⟨r26, v27⟩, h25, hF⟩ := bi_some hF
    dsimp only at hF
    refine k_i hS (kV_run M hS hP ok_X6_66 (c_X6_finding l G (-1000001) v r26 v27 h25) (rc_6 M hP rfl) rfl hl.1 rfl (Nat.le_of_ble_eq_true rfl) ⟨rfl, rfl⟩ ⟨Nat.le_of_ble_eq_true rfl, Nat.le_of_ble_eq_true rfl⟩ dX6_hush_13) (fun H locs hP hS => ?_)
    exact ret_i M hS hP (Option.some.inj hF) dX6_hush_16
def F_X6_isSheet (a0 : Int32) (v : VV) : Option Bool :=
  Option.bind (F_X6_within a0 0 3 v) (fun r2 => some r2)
set_option maxHeartbeats 4000000 in
set_option maxRecDepth 100000 in
theorem c_X6_isSheet (l : Launch) (G : GG) (a0 : Int32) (v : VV) (r : Bool) (hF : F_X6_isSheet a0 v = some r) : Met l yX6_isSheet (cdW yX6_isSheet cX6_isSheet 1 (some .boolean)) ({ frames := 1, cells := 0, slots := 0, locals := 22 } : Room) (PC G v [.int a0]) (QI G (bI r) v) 0 0 (gA G) := by
  refine met_in RX6 (by decide) rfl (Nat.le_of_ble_eq_true rfl) ?_
  intro p e s m below meth c M hP ls hl
  have hx := M.1.1
  have hb := M.1.2.1
  have hS : va_S (gA G) s.heap s.heap [] := va_S.rf
  have hl : lv_has ls 1 [(0, .int a0)] := hl
  unfold F_X6_isSheet at hF
  refine lv_iload_n hx hb dX6_isSheet_0 rfl (lv_at hl 0 rfl) ?_
  refine lv_iconst (v := 0) hx hb dX6_isSheet_1 (by decide) ?_
  refine lv_iconst (v := 3) hx hb dX6_isSheet_2 (by decide) ?_
  obtain ⟨r2, h1, hF⟩ := bi_some hF
  refine k_i hS (kS_run M hS hP ok_X6_70 (c_X6_within l G a0 0 3 v r2 h1) rfl hl.1 rfl (Nat.le_of_ble_eq_true rfl) ⟨rfl, rfl⟩ ⟨Nat.le_of_ble_eq_true rfl, Nat.le_of_ble_eq_true rfl⟩ dX6_isSheet_3) (fun H locs hP hS => ?_)
  exact ret_z M hS hP (congrArg (fun z : Bool => (bI z, v)) (Option.some.inj hF)) (bI_nar r2) dX6_isSheet_6
def F_X6_lacks (a1 : Int32) (a2 : Int32) (v : VV) : Option Int32 :=
  Option.bind (F_X6_isSheet a1 v) (fun r2 => (if r2 = true then (gu (gI a1 4) ((if (v 7 ((a1).toNatClampNeg)) = 0 then (some (-1000006)) else (if a2 = 0 then (some (-1000001)) else (some 0))))) else (some (-1000001))))
set_option maxHeartbeats 4000000 in
set_option maxRecDepth 100000 in
theorem c_X6_lacks (l : Launch) (G : GG) (a1 : Int32) (a2 : Int32) (v : VV) (r : Int32) (hF : F_X6_lacks a1 a2 v = some r) : Met l yX6_lacks (cdW yX6_lacks cX6_lacks 3 (some .int)) ({ frames := 2, cells := 0, slots := 0, locals := 42 } : Room) (PC G v [.ref (ad G 0), .int a1, .int a2]) (QI G r v) 0 0 (gA G) := by
  refine met_in RX6 (by decide) rfl (Nat.le_of_ble_eq_true rfl) ?_
  intro p e s m below meth c M hP ls hl
  have hx := M.1.1
  have hb := M.1.2.1
  have hS : va_S (gA G) s.heap s.heap [] := va_S.rf
  have hl : lv_has ls 3 [(0, .ref (ad G 0)), (1, .int a1), (2, .int a2)] := hl
  unfold F_X6_lacks at hF
  refine lv_iload_n hx hb dX6_lacks_0 rfl (lv_at hl 1 rfl) ?_
  obtain ⟨r2, h1, hF⟩ := bi_some hF
  refine k_i hS (kS_run M hS hP ok_X6_231 (c_X6_isSheet l G a1 v r2 h1) rfl hl.1 rfl (Nat.le_of_ble_eq_true rfl) ⟨rfl, rfl⟩ ⟨Nat.le_of_ble_eq_true rfl, Nat.le_of_ble_eq_true rfl⟩ dX6_lacks_1) (fun H locs hP hS => ?_)
  refine lv_if_ne (tgt := 12) hx hb dX6_lacks_4 (by decide) (fun c3 => ?_) (fun c3 => ?_)
  · replace hF := (if_pos (bI_t c3)).symm.trans hF
    refine lv_aload_n hx hb dX6_lacks_12 rfl (lv_at hl 0 rfl) ?_
    refine fg_6_48 M hP dX6_lacks_13 ?_
    refine lv_iload_n hx hb dX6_lacks_16 rfl (lv_at hl 1 rfl) ?_
    obtain ⟨g4, hF⟩ := gu_some hF
    refine r_iald (k := (a1).toNatClampNeg) M hP rfl rfl (in_c g4) rfl dX6_lacks_17 ?_
    refine lv_if_ne (tgt := 26) hx hb dX6_lacks_18 (by decide) (fun c5 => ?_) (fun c5 => ?_)
    · replace hF := (if_neg c5).symm.trans hF
      refine lv_iload_n hx hb dX6_lacks_26 rfl (lv_at hl 2 rfl) ?_
      refine lv_if_eq (tgt := 34) hx hb dX6_lacks_27 (by decide) (fun c6 => ?_) (fun c6 => ?_)
      · replace hF := (if_pos c6).symm.trans hF
        refine lv_ldc (own := RX6) (v := (-1000001)) hx hb M.1.2.2.2.1 (M.1.2.2.2.2 (Cond.constant RX6 60 (-1000001)) w_788) dX6_lacks_34 ?_
        exact ret_i M hS hP (congrArg (fun z => (z, v)) (Option.some.inj hF)) dX6_lacks_36
      · replace hF := (if_neg c6).symm.trans hF
        refine lv_iconst (v := 0) hx hb dX6_lacks_30 (by decide) ?_
        refine lv_goto (tgt := 36) hx hb dX6_lacks_31 (by decide) ?_
        exact ret_i M hS hP (congrArg (fun z => (z, v)) (Option.some.inj hF)) dX6_lacks_36
    · replace hF := (if_pos c5).symm.trans hF
      refine lv_ldc (own := RX6) (v := (-1000006)) hx hb M.1.2.2.2.1 (M.1.2.2.2.2 (Cond.constant RX6 234 (-1000006)) w_1052) dX6_lacks_21 ?_
      refine lv_goto (tgt := 36) hx hb dX6_lacks_23 (by decide) ?_
      exact ret_i M hS hP (congrArg (fun z => (z, v)) (Option.some.inj hF)) dX6_lacks_36
  · replace hF := (if_neg (bI_f c3)).symm.trans hF
    refine lv_ldc (own := RX6) (v := (-1000001)) hx hb M.1.2.2.2.1 (M.1.2.2.2.2 (Cond.constant RX6 60 (-1000001)) w_788) dX6_lacks_7 ?_
    refine lv_goto (tgt := 36) hx hb dX6_lacks_9 (by decide) ?_
    exact ret_i M hS hP (congrArg (fun z => (z, v)) (Option.some.inj hF)) dX6_lacks_36
def L_X6_isSo_16 : Nat → Int32 → Int32 → Int32 → Int32 → VV → Option (Bool × VV)
  | 0, _, _, _, _, _ => none
  | n + 1, x1, x2, x3, x4, v =>
  gu (gI x1 4) ((if (v 8 ((x1).toNatClampNeg)) ≤ x4 then (Option.bind (F_X6_copyRow 3 1 v) (fun v8 => gu (gB x3) (some ((x3 == 1), v8)))) else (if x3 = 0 then (Option.bind (F_X6_copyRow 3 1 v) (fun v13 => gu (gB x3) (some ((x3 == 1), v13)))) else (gu (gI ((40 * x1) + x4) 160) ((if (v 9 (((40 * x1) + x4).toNatClampNeg)) = (-1) then (Option.bind (F_X6_day v) (fun v19 => L_X6_isSo_16 n x1 x2 1 (x4 + 1) v19)) else (gu (gI x2 92) ((if (v 9 (((40 * x1) + x4).toNatClampNeg)) = (v 1 ((x2).toNatClampNeg)) then (Option.bind (F_X6_day v) (fun v27 => L_X6_isSo_16 n x1 x2 1 (x4 + 1) v27)) else (Option.bind (F_X6_day v) (fun v24 => L_X6_isSo_16 n x1 x2 0 (x4 + 1) v24)))))))))))
def F_X6_isSo (a1 : Int32) (a2 : Int32) (v : VV) : Option (Bool × VV) :=
  Option.bind (F_X6_copyRow 1 3 v) (fun v3 => L_X6_isSo_16 fu a1 a2 1 0 v3)
set_option maxHeartbeats 4000000 in
set_option maxRecDepth 100000 in
theorem l_X6_isSo_16 {p : Program} {l : Launch} {e : Env} {s : State} {m : MethodId} {args : Array Value} {below : List Frame} {meth : Method} {c : Code} {G : GG} (M : Mx G RX6 cX6_isSo 6 (some .boolean) p s m args meth c) (r : Bool) (v' : VV) : ∀ (n : Nat) (x1 : Int32) (x2 : Int32) (x3 : Int32) (x4 : Int32) (v : VV) (H : Heap) (locs : List Loc) (ls : Array Slot), L_X6_isSo_16 n x1 x2 x3 x4 v = some (r, v') → Wd G v H → va_S (gA G) s.heap H locs → lv_has ls 6 [(0, .ref (ad G 0)), (1, .int x1), (2, .int x2), (3, .int x3), (4, .int x4)] → W p l e ({ frames := 6, cells := 0, slots := 0, locals := 136 } : Room) s m args below meth c H locs 0 0 (MQ below (QI G (bI r) v') args s 0 0 (gA G)) (F0 m 16 ls []) := by
  have hx := M.1.1
  have hb := M.1.2.1
  intro n
  induction n with
  | zero =>
    intro x1 x2 x3 x4 v H locs ls hF hP hS hl
    rw [L_X6_isSo_16] at hF
    cases hF
  | succ n ih =>
    intro x1 x2 x3 x4 v H locs ls hF hP hS hl
    rw [L_X6_isSo_16] at hF
    refine lv_iload hx hb dX6_isSo_16 (lv_at hl 4 rfl) ?_
    refine lv_aload_n hx hb dX6_isSo_18 rfl (lv_at hl 0 rfl) ?_
    refine fg_6_51 M hP dX6_isSo_19 ?_
    refine lv_iload_n hx hb dX6_isSo_22 rfl (lv_at hl 1 rfl) ?_
    obtain ⟨g4, hF⟩ := gu_some hF
    refine r_iald (k := (x1).toNatClampNeg) M hP rfl rfl (in_c g4) rfl dX6_isSo_23 ?_
    refine lv_icmp_ge (tgt := 78) hx hb dX6_isSo_24 (by decide) (fun c5 => ?_) (fun c5 => ?_)
    · replace hF := (if_pos c5).symm.trans hF
      refine lv_aload_n hx hb dX6_isSo_78 rfl (lv_at hl 0 rfl) ?_
      refine fg_6_16 M hP dX6_isSo_79 ?_
      refine lv_aload_n hx hb dX6_isSo_82 rfl (lv_at hl 0 rfl) ?_
      refine fg_6_9 M hP dX6_isSo_83 ?_
      obtain ⟨v8, h6, hF⟩ := bi_some hF
      refine k_v hS (kS_run M hS hP ok_X6_61 (c_X6_copyRow l G 3 rfl 1 rfl v v8 h6) rfl hl.1 rfl (Nat.le_of_ble_eq_true rfl) ⟨rfl, rfl⟩ ⟨Nat.le_of_ble_eq_true rfl, Nat.le_of_ble_eq_true rfl⟩ dX6_isSo_86) (fun H locs hP hS => ?_)
      refine lv_iload_n hx hb dX6_isSo_89 rfl (lv_at hl 3 rfl) ?_
      obtain ⟨g9, hF⟩ := gu_some hF
      exact ret_z M hS hP ((congrArg (fun z => (z, v8)) (gB_eq g9).symm).trans (congrArg (fun z : Bool × VV => (bI z.1, z.2)) (Option.some.inj hF))) (gB_nar g9) dX6_isSo_90
    · replace hF := (if_neg c5).symm.trans hF
      refine lv_iload_n hx hb dX6_isSo_27 rfl (lv_at hl 3 rfl) ?_
      refine lv_if_eq (tgt := 78) hx hb dX6_isSo_28 (by decide) (fun c10 => ?_) (fun c10 => ?_)
      · replace hF := (if_pos c10).symm.trans hF
        refine lv_aload_n hx hb dX6_isSo_78 rfl (lv_at hl 0 rfl) ?_
        refine fg_6_16 M hP dX6_isSo_79 ?_
        refine lv_aload_n hx hb dX6_isSo_82 rfl (lv_at hl 0 rfl) ?_
        refine fg_6_9 M hP dX6_isSo_83 ?_
        obtain ⟨v13, h11, hF⟩ := bi_some hF
        refine k_v hS (kS_run M hS hP ok_X6_61 (c_X6_copyRow l G 3 rfl 1 rfl v v13 h11) rfl hl.1 rfl (Nat.le_of_ble_eq_true rfl) ⟨rfl, rfl⟩ ⟨Nat.le_of_ble_eq_true rfl, Nat.le_of_ble_eq_true rfl⟩ dX6_isSo_86) (fun H locs hP hS => ?_)
        refine lv_iload_n hx hb dX6_isSo_89 rfl (lv_at hl 3 rfl) ?_
        obtain ⟨g14, hF⟩ := gu_some hF
        exact ret_z M hS hP ((congrArg (fun z => (z, v13)) (gB_eq g14).symm).trans (congrArg (fun z : Bool × VV => (bI z.1, z.2)) (Option.some.inj hF))) (gB_nar g14) dX6_isSo_90
      · replace hF := (if_neg c10).symm.trans hF
        refine lv_aload_n hx hb dX6_isSo_31 rfl (lv_at hl 0 rfl) ?_
        refine fg_6_54 M hP dX6_isSo_32 ?_
        refine lv_bipush (v := 40) hx hb dX6_isSo_35 (by decide) ?_
        refine lv_iload_n hx hb dX6_isSo_37 rfl (lv_at hl 1 rfl) ?_
        refine lv_imul hx hb dX6_isSo_38 ?_
        refine lv_iload hx hb dX6_isSo_39 (lv_at hl 4 rfl) ?_
        refine lv_iadd hx hb dX6_isSo_41 ?_
        obtain ⟨g15, hF⟩ := gu_some hF
        refine r_iald (k := ((40 * x1) + x4).toNatClampNeg) M hP rfl rfl (in_c g15) rfl dX6_isSo_42 ?_
        refine lv_istore (lv' := [(5, .int (v 9 (((40 * x1) + x4).toNatClampNeg))), (0, .ref (ad G 0)), (1, .int x1), (2, .int x2), (3, .int x3), (4, .int x4)]) hx hb dX6_isSo_43 hl (by decide) rfl (fun ls hl => ?_)
        refine lv_iload hx hb dX6_isSo_45 (lv_at hl 0 rfl) ?_
        refine lv_iconst (v := (-1)) hx hb dX6_isSo_47 (by decide) ?_
        refine lv_icmp_eq (tgt := 62) hx hb dX6_isSo_48 (by decide) (fun c16 => ?_) (fun c16 => ?_)
        · replace hF := (if_pos c16).symm.trans hF
          refine lv_iconst (v := 1) hx hb dX6_isSo_62 (by decide) ?_
          refine lv_goto (tgt := 67) hx hb dX6_isSo_63 (by decide) ?_
          refine lv_istore_n (lv' := [(3, .int 1), (5, .int (v 9 (((40 * x1) + x4).toNatClampNeg))), (0, .ref (ad G 0)), (1, .int x1), (2, .int x2), (4, .int x4)]) hx hb dX6_isSo_67 rfl hl (by decide) rfl (fun ls hl => ?_)
          refine lv_aload_n hx hb dX6_isSo_68 rfl (lv_at hl 2 rfl) ?_
          obtain ⟨v19, h17, hF⟩ := bi_some hF
          refine k_v hS (kV_run M hS hP ok_X6_177 (c_X6_day l G v v19 h17) (rc_6 M hP rfl) rfl hl.1 rfl (Nat.le_of_ble_eq_true rfl) ⟨rfl, rfl⟩ ⟨Nat.le_of_ble_eq_true rfl, Nat.le_of_ble_eq_true rfl⟩ dX6_isSo_69) (fun H locs hP hS => ?_)
          refine lv_iinc (v := (x4 + 1)) (lv' := [(4, .int (x4 + 1)), (3, .int 1), (5, .int (v 9 (((40 * x1) + x4).toNatClampNeg))), (0, .ref (ad G 0)), (1, .int x1), (2, .int x2)]) hx hb dX6_isSo_72 hl (k := 5) rfl (iinc_eq _ (by decide)) (by decide) rfl (fun ls hl => ?_)
          refine lv_goto (tgt := 16) hx hb dX6_isSo_75 (by decide) ?_
          exact ih x1 x2 1 (x4 + 1) _ _ _ ls hF hP hS (lv_sub hl [3, 4, 5, 1, 0] rfl)
        · replace hF := (if_neg c16).symm.trans hF
          refine lv_iload hx hb dX6_isSo_51 (lv_at hl 0 rfl) ?_
          refine lv_aload_n hx hb dX6_isSo_53 rfl (lv_at hl 1 rfl) ?_
          refine fg_6_9 M hP dX6_isSo_54 ?_
          refine lv_iload_n hx hb dX6_isSo_57 rfl (lv_at hl 3 rfl) ?_
          obtain ⟨g20, hF⟩ := gu_some hF
          refine r_iald (k := (x2).toNatClampNeg) M hP rfl rfl (in_c g20) rfl dX6_isSo_58 ?_
          refine lv_icmp_ne (tgt := 66) hx hb dX6_isSo_59 (by decide) (fun c21 => ?_) (fun c21 => ?_)
          · replace hF := (if_neg c21).symm.trans hF
            refine lv_iconst (v := 0) hx hb dX6_isSo_66 (by decide) ?_
            refine lv_istore_n (lv' := [(3, .int 0), (5, .int (v 9 (((40 * x1) + x4).toNatClampNeg))), (0, .ref (ad G 0)), (1, .int x1), (2, .int x2), (4, .int x4)]) hx hb dX6_isSo_67 rfl hl (by decide) rfl (fun ls hl => ?_)
            refine lv_aload_n hx hb dX6_isSo_68 rfl (lv_at hl 2 rfl) ?_
            obtain ⟨v24, h22, hF⟩ := bi_some hF
            refine k_v hS (kV_run M hS hP ok_X6_177 (c_X6_day l G v v24 h22) (rc_6 M hP rfl) rfl hl.1 rfl (Nat.le_of_ble_eq_true rfl) ⟨rfl, rfl⟩ ⟨Nat.le_of_ble_eq_true rfl, Nat.le_of_ble_eq_true rfl⟩ dX6_isSo_69) (fun H locs hP hS => ?_)
            refine lv_iinc (v := (x4 + 1)) (lv' := [(4, .int (x4 + 1)), (3, .int 0), (5, .int (v 9 (((40 * x1) + x4).toNatClampNeg))), (0, .ref (ad G 0)), (1, .int x1), (2, .int x2)]) hx hb dX6_isSo_72 hl (k := 5) rfl (iinc_eq _ (by decide)) (by decide) rfl (fun ls hl => ?_)
            refine lv_goto (tgt := 16) hx hb dX6_isSo_75 (by decide) ?_
            exact ih x1 x2 0 (x4 + 1) _ _ _ ls hF hP hS (lv_sub hl [3, 4, 5, 1, 0] rfl)
          · replace hF := (if_pos c21).symm.trans hF
            refine lv_iconst (v := 1) hx hb dX6_isSo_62 (by decide) ?_
            refine lv_goto (tgt := 67) hx hb dX6_isSo_63 (by decide) ?_
            refine lv_istore_n (lv' := [(3, .int 1), (5, .int (v 9 (((40 * x1) + x4).toNatClampNeg))), (0, .ref (ad G 0)), (1, .int x1), (2, .int x2), (4, .int x4)]) hx hb dX6_isSo_67 rfl hl (by decide) rfl (fun ls hl => ?_)
            refine lv_aload_n hx hb dX6_isSo_68 rfl (lv_at hl 2 rfl) ?_
            obtain ⟨v27, h25, hF⟩ := bi_some hF
            refine k_v hS (kV_run M hS hP ok_X6_177 (c_X6_day l G v v27 h25) (rc_6 M hP rfl) rfl hl.1 rfl (Nat.le_of_ble_eq_true rfl) ⟨rfl, rfl⟩ ⟨Nat.le_of_ble_eq_true rfl, Nat.le_of_ble_eq_true rfl⟩ dX6_isSo_69) (fun H locs hP hS => ?_)
            refine lv_iinc (v := (x4 + 1)) (lv' := [(4, .int (x4 + 1)), (3, .int 1), (5, .int (v 9 (((40 * x1) + x4).toNatClampNeg))), (0, .ref (ad G 0)), (1, .int x1), (2, .int x2)]) hx hb dX6_isSo_72 hl (k := 5) rfl (iinc_eq _ (by decide)) (by decide) rfl (fun ls hl => ?_)
            refine lv_goto (tgt := 16) hx hb dX6_isSo_75 (by decide) ?_
            exact ih x1 x2 1 (x4 + 1) _ _ _ ls hF hP hS (lv_sub hl [3, 4, 5, 1, 0] rfl)
set_option maxHeartbeats 4000000 in
set_option maxRecDepth 100000 in
theorem c_X6_isSo (l : Launch) (G : GG) (a1 : Int32) (a2 : Int32) (v : VV) (r : Bool) (v' : VV) (hF : F_X6_isSo a1 a2 v = some (r, v')) : Met l yX6_isSo (cdW yX6_isSo cX6_isSo 6 (some .boolean)) ({ frames := 6, cells := 0, slots := 0, locals := 136 } : Room) (PC G v [.ref (ad G 0), .int a1, .int a2]) (QI G (bI r) v') 0 0 (gA G) := by
  refine met_in RX6 (by decide) rfl (Nat.le_of_ble_eq_true rfl) ?_
  intro p e s m below meth c M hP ls hl
  have hx := M.1.1
  have hb := M.1.2.1
  have hS : va_S (gA G) s.heap s.heap [] := va_S.rf
  have hl : lv_has ls 6 [(0, .ref (ad G 0)), (1, .int a1), (2, .int a2)] := hl
  unfold F_X6_isSo at hF
  refine lv_aload_n hx hb dX6_isSo_0 rfl (lv_at hl 0 rfl) ?_
  refine fg_6_9 M hP dX6_isSo_1 ?_
  refine lv_aload_n hx hb dX6_isSo_4 rfl (lv_at hl 0 rfl) ?_
  refine fg_6_16 M hP dX6_isSo_5 ?_
  obtain ⟨v3, h1, hF⟩ := bi_some hF
  refine k_v hS (kS_run M hS hP ok_X6_61 (c_X6_copyRow l G 1 rfl 3 rfl v v3 h1) rfl hl.1 rfl (Nat.le_of_ble_eq_true rfl) ⟨rfl, rfl⟩ ⟨Nat.le_of_ble_eq_true rfl, Nat.le_of_ble_eq_true rfl⟩ dX6_isSo_8) (fun H locs hP hS => ?_)
  refine lv_iconst (v := 1) hx hb dX6_isSo_11 (by decide) ?_
  refine lv_istore_n (lv' := [(3, .int 1), (0, .ref (ad G 0)), (1, .int a1), (2, .int a2)]) hx hb dX6_isSo_12 rfl hl (by decide) rfl (fun ls hl => ?_)
  refine lv_iconst (v := 0) hx hb dX6_isSo_13 (by decide) ?_
  refine lv_istore (lv' := [(4, .int 0), (3, .int 1), (0, .ref (ad G 0)), (1, .int a1), (2, .int a2)]) hx hb dX6_isSo_14 hl (by decide) rfl (fun ls hl => ?_)
  exact l_X6_isSo_16 M _ _ fu a1 a2 1 0 _ _ _ ls hF hP hS (lv_sub hl [2, 3, 4, 1, 0] rfl)
def L_X6_fitting_14 : Nat → Int32 → Int32 → Int32 → Int32 → Int32 → Int32 → Int32 → VV → Option (Int32 × VV)
  | 0, _, _, _, _, _, _, _, _ => none
  | n + 1, x1, x2, x3, x4, x5, x6, x7, v =>
  if x4 ≤ x7 then (gu (gI x3 92) (some (x6, pu v 1 ((x3).toNatClampNeg) x5))) else (gu (gI x3 92) (Option.bind (F_X6_isSo x1 x2 (pu v 1 ((x3).toNatClampNeg) x7)) (fun (r6, v7) => (if r6 = true then (L_X6_fitting_14 n x1 x2 x3 x4 x5 (x6 ||| (1 <<< (x7 &&& 31))) (x7 + 1) v7) else (L_X6_fitting_14 n x1 x2 x3 x4 x5 (x6 ||| 0) (x7 + 1) v7)))))
def F_X6_fitting (a1 : Int32) (a2 : Int32) (a3 : Int32) (a4 : Int32) (v : VV) : Option (Int32 × VV) :=
  gu (gI a3 92) (L_X6_fitting_14 fu a1 a2 a3 a4 (v 1 ((a3).toNatClampNeg)) 0 0 v)
set_option maxHeartbeats 4000000 in
set_option maxRecDepth 100000 in
theorem l_X6_fitting_14 {p : Program} {l : Launch} {e : Env} {s : State} {m : MethodId} {args : Array Value} {below : List Frame} {meth : Method} {c : Code} {G : GG} (M : Mx G RX6 cX6_fitting 8 (some .int) p s m args meth c) (r : Int32) (v' : VV) : ∀ (n : Nat) (x1 : Int32) (x2 : Int32) (x3 : Int32) (x4 : Int32) (x5 : Int32) (x6 : Int32) (x7 : Int32) (v : VV) (H : Heap) (locs : List Loc) (ls : Array Slot), L_X6_fitting_14 n x1 x2 x3 x4 x5 x6 x7 v = some (r, v') → Wd G v H → va_S (gA G) s.heap H locs → lv_has ls 8 [(0, .ref (ad G 0)), (1, .int x1), (2, .int x2), (3, .int x3), (4, .int x4), (5, .int x5), (6, .int x6), (7, .int x7)] → W p l e ({ frames := 7, cells := 0, slots := 0, locals := 161 } : Room) s m args below meth c H locs 0 0 (MQ below (QI G r v') args s 0 0 (gA G)) (F0 m 14 ls []) := by
  have hx := M.1.1
  have hb := M.1.2.1
  intro n
  induction n with
  | zero =>
    intro x1 x2 x3 x4 x5 x6 x7 v H locs ls hF hP hS hl
    rw [L_X6_fitting_14] at hF
    cases hF
  | succ n ih =>
    intro x1 x2 x3 x4 x5 x6 x7 v H locs ls hF hP hS hl
    rw [L_X6_fitting_14] at hF
    refine lv_iload hx hb dX6_fitting_14 (lv_at hl 7 rfl) ?_
    refine lv_iload hx hb dX6_fitting_16 (lv_at hl 4 rfl) ?_
    refine lv_icmp_ge (tgt := 57) hx hb dX6_fitting_18 (by decide) (fun c2 => ?_) (fun c2 => ?_)
    · replace hF := (if_pos c2).symm.trans hF
      refine lv_aload_n hx hb dX6_fitting_57 rfl (lv_at hl 0 rfl) ?_
      refine fg_6_9 M hP dX6_fitting_58 ?_
      refine lv_iload_n hx hb dX6_fitting_61 rfl (lv_at hl 3 rfl) ?_
      refine lv_iload hx hb dX6_fitting_62 (lv_at hl 5 rfl) ?_
      obtain ⟨g3, hF⟩ := gu_some hF
      refine r_iast (k := (x3).toNatClampNeg) M hS hP rfl rfl (in_c g3) rfl dX6_fitting_64 (fun H locs hP hS => ?_)
      have hP : Wd G (pu v 1 ((x3).toNatClampNeg) x5) H := hP
      refine lv_iload hx hb dX6_fitting_65 (lv_at hl 6 rfl) ?_
      exact ret_i M hS hP (Option.some.inj hF) dX6_fitting_67
    · replace hF := (if_neg c2).symm.trans hF
      refine lv_aload_n hx hb dX6_fitting_21 rfl (lv_at hl 0 rfl) ?_
      refine fg_6_9 M hP dX6_fitting_22 ?_
      refine lv_iload_n hx hb dX6_fitting_25 rfl (lv_at hl 3 rfl) ?_
      refine lv_iload hx hb dX6_fitting_26 (lv_at hl 7 rfl) ?_
      obtain ⟨g4, hF⟩ := gu_some hF
      refine r_iast (k := (x3).toNatClampNeg) M hS hP rfl rfl (in_c g4) rfl dX6_fitting_28 (fun H locs hP hS => ?_)
      have hP : Wd G (pu v 1 ((x3).toNatClampNeg) x7) H := hP
      refine lv_iload hx hb dX6_fitting_29 (lv_at hl 6 rfl) ?_
      refine lv_aload_n hx hb dX6_fitting_31 rfl (lv_at hl 0 rfl) ?_
      refine lv_iload_n hx hb dX6_fitting_32 rfl (lv_at hl 1 rfl) ?_
      refine lv_iload_n hx hb dX6_fitting_33 rfl (lv_at hl 2 rfl) ?_
      obtain ⟨⟨r6, v7⟩, h5, hF⟩ := bi_some hF
      dsimp only at hF
      refine k_i hS (kV_run M hS hP ok_X6_235 (c_X6_isSo l G x1 x2 (pu v 1 ((x3).toNatClampNeg) x7) r6 v7 h5) (rc_6 M hP rfl) rfl hl.1 rfl (Nat.le_of_ble_eq_true rfl) ⟨rfl, rfl⟩ ⟨Nat.le_of_ble_eq_true rfl, Nat.le_of_ble_eq_true rfl⟩ dX6_fitting_34) (fun H locs hP hS => ?_)
      refine lv_if_eq (tgt := 47) hx hb dX6_fitting_37 (by decide) (fun c9 => ?_) (fun c9 => ?_)
      · replace hF := (if_neg (bI_f c9)).symm.trans hF
        refine lv_iconst (v := 0) hx hb dX6_fitting_47 (by decide) ?_
        refine lv_ior hx hb dX6_fitting_48 ?_
        refine lv_istore (lv' := [(6, .int (x6 ||| 0)), (0, .ref (ad G 0)), (1, .int x1), (2, .int x2), (3, .int x3), (4, .int x4), (5, .int x5), (7, .int x7)]) hx hb dX6_fitting_49 hl (by decide) rfl (fun ls hl => ?_)
        refine lv_iinc (v := (x7 + 1)) (lv' := [(7, .int (x7 + 1)), (6, .int (x6 ||| 0)), (0, .ref (ad G 0)), (1, .int x1), (2, .int x2), (3, .int x3), (4, .int x4), (5, .int x5)]) hx hb dX6_fitting_51 hl (k := 7) rfl (iinc_eq _ (by decide)) (by decide) rfl (fun ls hl => ?_)
        refine lv_goto (tgt := 14) hx hb dX6_fitting_54 (by decide) ?_
        exact ih x1 x2 x3 x4 x5 (x6 ||| 0) (x7 + 1) _ _ _ ls hF hP hS (lv_sub hl [2, 3, 4, 5, 6, 7, 1, 0] rfl)
      · replace hF := (if_pos (bI_t c9)).symm.trans hF
        refine lv_iconst (v := 1) hx hb dX6_fitting_40 (by decide) ?_
        refine lv_iload hx hb dX6_fitting_41 (lv_at hl 7 rfl) ?_
        refine lv_ishl hx hb dX6_fitting_43 ?_
        refine lv_goto (tgt := 48) hx hb dX6_fitting_44 (by decide) ?_
        refine lv_ior hx hb dX6_fitting_48 ?_
        refine lv_istore (lv' := [(6, .int (x6 ||| (1 <<< (x7 &&& 31)))), (0, .ref (ad G 0)), (1, .int x1), (2, .int x2), (3, .int x3), (4, .int x4), (5, .int x5), (7, .int x7)]) hx hb dX6_fitting_49 hl (by decide) rfl (fun ls hl => ?_)
        refine lv_iinc (v := (x7 + 1)) (lv' := [(7, .int (x7 + 1)), (6, .int (x6 ||| (1 <<< (x7 &&& 31)))), (0, .ref (ad G 0)), (1, .int x1), (2, .int x2), (3, .int x3), (4, .int x4), (5, .int x5)]) hx hb dX6_fitting_51 hl (k := 7) rfl (iinc_eq _ (by decide)) (by decide) rfl (fun ls hl => ?_)
        refine lv_goto (tgt := 14) hx hb dX6_fitting_54 (by decide) ?_
        exact ih x1 x2 x3 x4 x5 (x6 ||| (1 <<< (x7 &&& 31))) (x7 + 1) _ _ _ ls hF hP hS (lv_sub hl [2, 3, 4, 5, 6, 7, 1, 0] rfl)
set_option maxHeartbeats 4000000 in
set_option maxRecDepth 100000 in
theorem c_X6_fitting (l : Launch) (G : GG) (a1 : Int32) (a2 : Int32) (a3 : Int32) (a4 : Int32) (v : VV) (r : Int32) (v' : VV) (hF : F_X6_fitting a1 a2 a3 a4 v = some (r, v')) : Met l yX6_fitting (cdW yX6_fitting cX6_fitting 8 (some .int)) ({ frames := 7, cells := 0, slots := 0, locals := 161 } : Room) (PC G v [.ref (ad G 0), .int a1, .int a2, .int a3, .int a4]) (QI G r v') 0 0 (gA G) := by
  refine met_in RX6 (by decide) rfl (Nat.le_of_ble_eq_true rfl) ?_
  intro p e s m below meth c M hP ls hl
  have hx := M.1.1
  have hb := M.1.2.1
  have hS : va_S (gA G) s.heap s.heap [] := va_S.rf
  have hl : lv_has ls 8 [(0, .ref (ad G 0)), (1, .int a1), (2, .int a2), (3, .int a3), (4, .int a4)] := hl
  unfold F_X6_fitting at hF
  refine lv_aload_n hx hb dX6_fitting_0 rfl (lv_at hl 0 rfl) ?_
  refine fg_6_9 M hP dX6_fitting_1 ?_
  refine lv_iload_n hx hb dX6_fitting_4 rfl (lv_at hl 3 rfl) ?_
  obtain ⟨g1, hF⟩ := gu_some hF
  refine r_iald (k := (a3).toNatClampNeg) M hP rfl rfl (in_c g1) rfl dX6_fitting_5 ?_
  refine lv_istore (lv' := [(5, .int (v 1 ((a3).toNatClampNeg))), (0, .ref (ad G 0)), (1, .int a1), (2, .int a2), (3, .int a3), (4, .int a4)]) hx hb dX6_fitting_6 hl (by decide) rfl (fun ls hl => ?_)
  refine lv_iconst (v := 0) hx hb dX6_fitting_8 (by decide) ?_
  refine lv_istore (lv' := [(6, .int 0), (5, .int (v 1 ((a3).toNatClampNeg))), (0, .ref (ad G 0)), (1, .int a1), (2, .int a2), (3, .int a3), (4, .int a4)]) hx hb dX6_fitting_9 hl (by decide) rfl (fun ls hl => ?_)
  refine lv_iconst (v := 0) hx hb dX6_fitting_11 (by decide) ?_
  refine lv_istore (lv' := [(7, .int 0), (6, .int 0), (5, .int (v 1 ((a3).toNatClampNeg))), (0, .ref (ad G 0)), (1, .int a1), (2, .int a2), (3, .int a3), (4, .int a4)]) hx hb dX6_fitting_12 hl (by decide) rfl (fun ls hl => ?_)
  exact l_X6_fitting_14 M _ _ fu a1 a2 a3 a4 (v 1 ((a3).toNatClampNeg)) 0 0 _ _ _ ls hF hP hS (lv_sub hl [3, 4, 5, 6, 7, 2, 1, 0] rfl)
def F_X6_fits (a1 : Int32) (a2 : Int32) (v : VV) : Option (Int32 × VV) :=
  Option.bind (F_X6_isChild a2 v) (fun r2 => Option.bind (F_X6_lacks a1 (bI r2) v) (fun r4 => (if r4 = 0 then (Option.bind (F_X6_childAt a2 2 v) (fun r7 => Option.bind (F_X6_childAt a2 1 v) (fun r9 => Option.bind (F_X6_fitting a1 r7 r9 10 v) (fun (r11, v12) => Option.bind (F_X6_bits r11 v12) (fun r15 => some (r15, v12)))))) else (Option.bind (F_X6_finding r4 v) (fun (r17, v18) => some (r17, v18))))))
set_option maxHeartbeats 4000000 in
set_option maxRecDepth 100000 in
theorem c_X6_fits (l : Launch) (G : GG) (a1 : Int32) (a2 : Int32) (v : VV) (r : Int32) (v' : VV) (hF : F_X6_fits a1 a2 v = some (r, v')) : Met l yX6_fits (cdW yX6_fits cX6_fits 4 (some .int)) ({ frames := 8, cells := 0, slots := 0, locals := 188 } : Room) (PC G v [.ref (ad G 0), .int a1, .int a2]) (QI G r v') 0 0 (gA G) := by
  refine met_in RX6 (by decide) rfl (Nat.le_of_ble_eq_true rfl) ?_
  intro p e s m below meth c M hP ls hl
  have hx := M.1.1
  have hb := M.1.2.1
  have hS : va_S (gA G) s.heap s.heap [] := va_S.rf
  have hl : lv_has ls 4 [(0, .ref (ad G 0)), (1, .int a1), (2, .int a2)] := hl
  unfold F_X6_fits at hF
  refine lv_aload_n hx hb dX6_fits_0 rfl (lv_at hl 0 rfl) ?_
  refine lv_iload_n hx hb dX6_fits_1 rfl (lv_at hl 1 rfl) ?_
  refine lv_aload_n hx hb dX6_fits_2 rfl (lv_at hl 0 rfl) ?_
  refine lv_iload_n hx hb dX6_fits_3 rfl (lv_at hl 2 rfl) ?_
  obtain ⟨r2, h1, hF⟩ := bi_some hF
  refine k_i hS (kV_run M hS hP ok_X6_144 (c_X6_isChild l G a2 v r2 h1) (rc_6 M hP rfl) rfl hl.1 rfl (Nat.le_of_ble_eq_true rfl) ⟨rfl, rfl⟩ ⟨Nat.le_of_ble_eq_true rfl, Nat.le_of_ble_eq_true rfl⟩ dX6_fits_4) (fun H locs hP hS => ?_)
  obtain ⟨r4, h3, hF⟩ := bi_some hF
  refine k_i hS (kV_run M hS hP ok_X6_238 (c_X6_lacks l G a1 (bI r2) v r4 h3) (rc_6 M hP rfl) rfl hl.1 rfl (Nat.le_of_ble_eq_true rfl) ⟨rfl, rfl⟩ ⟨Nat.le_of_ble_eq_true rfl, Nat.le_of_ble_eq_true rfl⟩ dX6_fits_7) (fun H locs hP hS => ?_)
  refine lv_istore_n (lv' := [(3, .int r4), (0, .ref (ad G 0)), (1, .int a1), (2, .int a2)]) hx hb dX6_fits_10 rfl hl (by decide) rfl (fun ls hl => ?_)
  refine lv_iload_n hx hb dX6_fits_11 rfl (lv_at hl 0 rfl) ?_
  refine lv_if_eq (tgt := 23) hx hb dX6_fits_12 (by decide) (fun c5 => ?_) (fun c5 => ?_)
  · replace hF := (if_pos c5).symm.trans hF
    refine lv_aload_n hx hb dX6_fits_23 rfl (lv_at hl 1 rfl) ?_
    refine lv_iload_n hx hb dX6_fits_24 rfl (lv_at hl 2 rfl) ?_
    refine lv_iload_n hx hb dX6_fits_25 rfl (lv_at hl 3 rfl) ?_
    refine lv_iconst (v := 2) hx hb dX6_fits_26 (by decide) ?_
    obtain ⟨r7, h6, hF⟩ := bi_some hF
    refine k_i hS (kS_run M hS hP ok_X6_88 (c_X6_childAt l G a2 2 v r7 h6) rfl hl.1 rfl (Nat.le_of_ble_eq_true rfl) ⟨rfl, rfl⟩ ⟨Nat.le_of_ble_eq_true rfl, Nat.le_of_ble_eq_true rfl⟩ dX6_fits_27) (fun H locs hP hS => ?_)
    refine lv_iload_n hx hb dX6_fits_30 rfl (lv_at hl 3 rfl) ?_
    refine lv_iconst (v := 1) hx hb dX6_fits_31 (by decide) ?_
    obtain ⟨r9, h8, hF⟩ := bi_some hF
    refine k_i hS (kS_run M hS hP ok_X6_88 (c_X6_childAt l G a2 1 v r9 h8) rfl hl.1 rfl (Nat.le_of_ble_eq_true rfl) ⟨rfl, rfl⟩ ⟨Nat.le_of_ble_eq_true rfl, Nat.le_of_ble_eq_true rfl⟩ dX6_fits_32) (fun H locs hP hS => ?_)
    refine lv_bipush (v := 10) hx hb dX6_fits_35 (by decide) ?_
    obtain ⟨⟨r11, v12⟩, h10, hF⟩ := bi_some hF
    dsimp only at hF
    refine k_i hS (kV_run M hS hP ok_X6_242 (c_X6_fitting l G a1 r7 r9 10 v r11 v12 h10) (rc_6 M hP rfl) rfl hl.1 rfl (Nat.le_of_ble_eq_true rfl) ⟨rfl, rfl⟩ ⟨Nat.le_of_ble_eq_true rfl, Nat.le_of_ble_eq_true rfl⟩ dX6_fits_37) (fun H locs hP hS => ?_)
    obtain ⟨r15, h14, hF⟩ := bi_some hF
    refine k_i hS (kS_run M hS hP ok_X6_180 (c_X6_bits l G r11 v12 r15 h14) rfl hl.1 rfl (Nat.le_of_ble_eq_true rfl) ⟨rfl, rfl⟩ ⟨Nat.le_of_ble_eq_true rfl, Nat.le_of_ble_eq_true rfl⟩ dX6_fits_40) (fun H locs hP hS => ?_)
    exact ret_i M hS hP (Option.some.inj hF) dX6_fits_43
  · replace hF := (if_neg c5).symm.trans hF
    refine lv_aload_n hx hb dX6_fits_15 rfl (lv_at hl 1 rfl) ?_
    refine lv_iload_n hx hb dX6_fits_16 rfl (lv_at hl 0 rfl) ?_
    obtain ⟨⟨r17, v18⟩, h16, hF⟩ := bi_some hF
    dsimp only at hF
    refine k_i hS (kV_run M hS hP ok_X6_66 (c_X6_finding l G r4 v r17 v18 h16) (rc_6 M hP rfl) rfl hl.1 rfl (Nat.le_of_ble_eq_true rfl) ⟨rfl, rfl⟩ ⟨Nat.le_of_ble_eq_true rfl, Nat.le_of_ble_eq_true rfl⟩ dX6_fits_17) (fun H locs hP hS => ?_)
    refine lv_goto (tgt := 43) hx hb dX6_fits_20 (by decide) ?_
    exact ret_i M hS hP (Option.some.inj hF) dX6_fits_43
def F_X6_kinds (a1 : Int32) (a2 : Int32) (v : VV) : Option (Int32 × VV) :=
  Option.bind (F_X6_isKeeper a2 v) (fun r2 => Option.bind (F_X6_lacks a1 (bI r2) v) (fun r4 => (if r4 = 0 then (Option.bind (F_X6_keeperAt a2 2 v) (fun r7 => Option.bind (F_X6_keeperAt a2 0 v) (fun r9 => Option.bind (F_X6_fitting a1 r7 r9 7 v) (fun (r11, v12) => some (r11, v12))))) else (Option.bind (F_X6_finding r4 v) (fun (r15, v16) => some (r15, v16))))))
set_option maxHeartbeats 4000000 in
set_option maxRecDepth 100000 in
theorem c_X6_kinds (l : Launch) (G : GG) (a1 : Int32) (a2 : Int32) (v : VV) (r : Int32) (v' : VV) (hF : F_X6_kinds a1 a2 v = some (r, v')) : Met l yX6_kinds (cdW yX6_kinds cX6_kinds 4 (some .int)) ({ frames := 8, cells := 0, slots := 0, locals := 188 } : Room) (PC G v [.ref (ad G 0), .int a1, .int a2]) (QI G r v') 0 0 (gA G) := by
  refine met_in RX6 (by decide) rfl (Nat.le_of_ble_eq_true rfl) ?_
  intro p e s m below meth c M hP ls hl
  have hx := M.1.1
  have hb := M.1.2.1
  have hS : va_S (gA G) s.heap s.heap [] := va_S.rf
  have hl : lv_has ls 4 [(0, .ref (ad G 0)), (1, .int a1), (2, .int a2)] := hl
  unfold F_X6_kinds at hF
  refine lv_aload_n hx hb dX6_kinds_0 rfl (lv_at hl 0 rfl) ?_
  refine lv_iload_n hx hb dX6_kinds_1 rfl (lv_at hl 1 rfl) ?_
  refine lv_aload_n hx hb dX6_kinds_2 rfl (lv_at hl 0 rfl) ?_
  refine lv_iload_n hx hb dX6_kinds_3 rfl (lv_at hl 2 rfl) ?_
  obtain ⟨r2, h1, hF⟩ := bi_some hF
  refine k_i hS (kV_run M hS hP ok_X6_131 (c_X6_isKeeper l G a2 v r2 h1) (rc_6 M hP rfl) rfl hl.1 rfl (Nat.le_of_ble_eq_true rfl) ⟨rfl, rfl⟩ ⟨Nat.le_of_ble_eq_true rfl, Nat.le_of_ble_eq_true rfl⟩ dX6_kinds_4) (fun H locs hP hS => ?_)
  obtain ⟨r4, h3, hF⟩ := bi_some hF
  refine k_i hS (kV_run M hS hP ok_X6_238 (c_X6_lacks l G a1 (bI r2) v r4 h3) (rc_6 M hP rfl) rfl hl.1 rfl (Nat.le_of_ble_eq_true rfl) ⟨rfl, rfl⟩ ⟨Nat.le_of_ble_eq_true rfl, Nat.le_of_ble_eq_true rfl⟩ dX6_kinds_7) (fun H locs hP hS => ?_)
  refine lv_istore_n (lv' := [(3, .int r4), (0, .ref (ad G 0)), (1, .int a1), (2, .int a2)]) hx hb dX6_kinds_10 rfl hl (by decide) rfl (fun ls hl => ?_)
  refine lv_iload_n hx hb dX6_kinds_11 rfl (lv_at hl 0 rfl) ?_
  refine lv_if_eq (tgt := 23) hx hb dX6_kinds_12 (by decide) (fun c5 => ?_) (fun c5 => ?_)
  · replace hF := (if_pos c5).symm.trans hF
    refine lv_aload_n hx hb dX6_kinds_23 rfl (lv_at hl 1 rfl) ?_
    refine lv_iload_n hx hb dX6_kinds_24 rfl (lv_at hl 2 rfl) ?_
    refine lv_iload_n hx hb dX6_kinds_25 rfl (lv_at hl 3 rfl) ?_
    refine lv_iconst (v := 2) hx hb dX6_kinds_26 (by decide) ?_
    obtain ⟨r7, h6, hF⟩ := bi_some hF
    refine k_i hS (kS_run M hS hP ok_X6_85 (c_X6_keeperAt l G a2 2 v r7 h6) rfl hl.1 rfl (Nat.le_of_ble_eq_true rfl) ⟨rfl, rfl⟩ ⟨Nat.le_of_ble_eq_true rfl, Nat.le_of_ble_eq_true rfl⟩ dX6_kinds_27) (fun H locs hP hS => ?_)
    refine lv_iload_n hx hb dX6_kinds_30 rfl (lv_at hl 3 rfl) ?_
    refine lv_iconst (v := 0) hx hb dX6_kinds_31 (by decide) ?_
    obtain ⟨r9, h8, hF⟩ := bi_some hF
    refine k_i hS (kS_run M hS hP ok_X6_85 (c_X6_keeperAt l G a2 0 v r9 h8) rfl hl.1 rfl (Nat.le_of_ble_eq_true rfl) ⟨rfl, rfl⟩ ⟨Nat.le_of_ble_eq_true rfl, Nat.le_of_ble_eq_true rfl⟩ dX6_kinds_32) (fun H locs hP hS => ?_)
    refine lv_bipush (v := 7) hx hb dX6_kinds_35 (by decide) ?_
    obtain ⟨⟨r11, v12⟩, h10, hF⟩ := bi_some hF
    dsimp only at hF
    refine k_i hS (kV_run M hS hP ok_X6_242 (c_X6_fitting l G a1 r7 r9 7 v r11 v12 h10) (rc_6 M hP rfl) rfl hl.1 rfl (Nat.le_of_ble_eq_true rfl) ⟨rfl, rfl⟩ ⟨Nat.le_of_ble_eq_true rfl, Nat.le_of_ble_eq_true rfl⟩ dX6_kinds_37) (fun H locs hP hS => ?_)
    exact ret_i M hS hP (Option.some.inj hF) dX6_kinds_40
  · replace hF := (if_neg c5).symm.trans hF
    refine lv_aload_n hx hb dX6_kinds_15 rfl (lv_at hl 1 rfl) ?_
    refine lv_iload_n hx hb dX6_kinds_16 rfl (lv_at hl 0 rfl) ?_
    obtain ⟨⟨r15, v16⟩, h14, hF⟩ := bi_some hF
    dsimp only at hF
    refine k_i hS (kV_run M hS hP ok_X6_66 (c_X6_finding l G r4 v r15 v16 h14) (rc_6 M hP rfl) rfl hl.1 rfl (Nat.le_of_ble_eq_true rfl) ⟨rfl, rfl⟩ ⟨Nat.le_of_ble_eq_true rfl, Nat.le_of_ble_eq_true rfl⟩ dX6_kinds_17) (fun H locs hP hS => ?_)
    refine lv_goto (tgt := 40) hx hb dX6_kinds_20 (by decide) ?_
    exact ret_i M hS hP (Option.some.inj hF) dX6_kinds_40
def F_X6_drawn (v : VV) : Option (Int32 × VV) :=
  some ((((pu v 1 2 (((v 1 2) * 1103515245) + 12345)) 1 2).toUInt32 >>> ((8 : Int32).toUInt32 &&& Int32.toUInt32 31)).toInt32, pu v 1 2 (((v 1 2) * 1103515245) + 12345))
set_option maxHeartbeats 4000000 in
set_option maxRecDepth 100000 in
theorem c_X6_drawn (l : Launch) (G : GG) (v : VV) (r : Int32) (v' : VV) (hF : F_X6_drawn v = some (r, v')) : Met l yX6_drawn (cdW yX6_drawn cX6_drawn 1 (some .int)) ({ frames := 0, cells := 0, slots := 0, locals := 0 } : Room) (PC G v [.ref (ad G 0)]) (QI G r v') 0 0 (gA G) := by
  refine met_in RX6 (by decide) rfl (Nat.le_of_ble_eq_true rfl) ?_
  intro p e s m below meth c M hP ls hl
  have hx := M.1.1
  have hb := M.1.2.1
  have hS : va_S (gA G) s.heap s.heap [] := va_S.rf
  have hl : lv_has ls 1 [(0, .ref (ad G 0))] := hl
  unfold F_X6_drawn at hF
  refine lv_aload_n hx hb dX6_drawn_0 rfl (lv_at hl 0 rfl) ?_
  refine fg_6_9 M hP dX6_drawn_1 ?_
  refine lv_iconst (v := 2) hx hb dX6_drawn_4 (by decide) ?_
  refine lv_aload_n hx hb dX6_drawn_5 rfl (lv_at hl 0 rfl) ?_
  refine fg_6_9 M hP dX6_drawn_6 ?_
  refine lv_iconst (v := 2) hx hb dX6_drawn_9 (by decide) ?_
  refine r_iald (k := 2) M hP rfl rfl (in_c rfl) rfl dX6_drawn_10 ?_
  refine lv_ldc (own := RX6) (v := 1103515245) hx hb M.1.2.2.2.1 (M.1.2.2.2.2 (Cond.constant RX6 246 1103515245) w_1073) dX6_drawn_11 ?_
  refine lv_imul hx hb dX6_drawn_13 ?_
  refine lv_sipush (v := 12345) hx hb dX6_drawn_14 (by decide) ?_
  refine lv_iadd hx hb dX6_drawn_17 ?_
  refine r_iast (k := 2) M hS hP rfl rfl (in_c rfl) rfl dX6_drawn_18 (fun H locs hP hS => ?_)
  have hP : Wd G (pu v 1 2 (((v 1 2) * 1103515245) + 12345)) H := hP
  refine lv_aload_n hx hb dX6_drawn_19 rfl (lv_at hl 0 rfl) ?_
  refine fg_6_9 M hP dX6_drawn_20 ?_
  refine lv_iconst (v := 2) hx hb dX6_drawn_23 (by decide) ?_
  refine r_iald (k := 2) M hP rfl rfl (in_c rfl) rfl dX6_drawn_24 ?_
  refine lv_bipush (v := 8) hx hb dX6_drawn_25 (by decide) ?_
  refine lv_iushr hx hb dX6_drawn_27 rfl ?_
  exact ret_i M hS hP (Option.some.inj hF) dX6_drawn_28
def L_X6_autumn_39 : Nat → Int32 → Int32 → VV → Option (Int32 × VV)
  | 0, _, _, _ => none
  | n + 1, x1, x2, v =>
  if x1 ≤ x2 then (Option.bind (F_X6_learntInAll v) (fun r7 => some (r7, v))) else (Option.bind (F_X6_drawn v) (fun (r9, v10) => Option.bind (F_X6_placeNow v10) (fun r13 => gu (gI r13 92) (Option.bind (F_X6_drawn (pu v10 1 ((r13).toNatClampNeg) (r9 - r9 / 10 * 10))) (fun (r16, v17) => Option.bind (F_X6_isChild (r16 - r16 / 8 * 8) v17) (fun r20 => (if r20 = true then (Option.bind (F_X6_childAt (r16 - r16 / 8 * 8) 0 v17) (fun r26 => Option.bind (F_X6_childIs (r16 - r16 / 8 * 8) 0 v17) (fun r28 => gu (gI r26 92) (Option.bind (F_X6_day (pu v17 1 ((r26).toNatClampNeg) ((r28 + 1) - (r28 + 1) / 16 * 16))) (fun v32 => L_X6_autumn_39 n x1 (x2 + 1) v32))))) else (Option.bind (F_X6_day v17) (fun v24 => L_X6_autumn_39 n x1 (x2 + 1) v24)))))))))
def F_X6_autumn (a1 : Int32) (v : VV) : Option (Int32 × VV) :=
  Option.bind (F_X6_within a1 1 20 v) (fun r2 => (if r2 = true then (if ((v 1 0) + a1) ≤ 99999 then (L_X6_autumn_39 fu a1 0 v) else (Option.bind (F_X6_finding (-1000005) v) (fun (r34, v35) => some (r34, v35)))) else (Option.bind (F_X6_finding (-1000001) v) (fun (r38, v39) => some (r38, v39)))))
set_option maxHeartbeats 4000000 in
set_option maxRecDepth 100000 in
theorem l_X6_autumn_39 {p : Program} {l : Launch} {e : Env} {s : State} {m : MethodId} {args : Array Value} {below : List Frame} {meth : Method} {c : Code} {G : GG} (M : Mx G RX6 cX6_autumn 5 (some .int) p s m args meth c) (r : Int32) (v' : VV) : ∀ (n : Nat) (x1 : Int32) (x2 : Int32) (v : VV) (H : Heap) (locs : List Loc) (ls : Array Slot), L_X6_autumn_39 n x1 x2 v = some (r, v') → Wd G v H → va_S (gA G) s.heap H locs → lv_has ls 5 [(0, .ref (ad G 0)), (1, .int x1), (2, .int x2)] → W p l e ({ frames := 6, cells := 0, slots := 0, locals := 136 } : Room) s m args below meth c H locs 0 0 (MQ below (QI G r v') args s 0 0 (gA G)) (F0 m 39 ls []) := by
  have hx := M.1.1
  have hb := M.1.2.1
  intro n
  induction n with
  | zero =>
    intro x1 x2 v H locs ls hF hP hS hl
    rw [L_X6_autumn_39] at hF
    cases hF
  | succ n ih =>
    intro x1 x2 v H locs ls hF hP hS hl
    rw [L_X6_autumn_39] at hF
    refine lv_iload_n hx hb dX6_autumn_39 rfl (lv_at hl 2 rfl) ?_
    refine lv_iload_n hx hb dX6_autumn_40 rfl (lv_at hl 1 rfl) ?_
    refine lv_icmp_ge (tgt := 113) hx hb dX6_autumn_41 (by decide) (fun c5 => ?_) (fun c5 => ?_)
    · replace hF := (if_pos c5).symm.trans hF
      refine lv_aload_n hx hb dX6_autumn_113 rfl (lv_at hl 0 rfl) ?_
      obtain ⟨r7, h6, hF⟩ := bi_some hF
      refine k_i hS (kV_run M hS hP ok_X6_188 (c_X6_learntInAll l G v r7 h6) (rc_6 M hP rfl) rfl hl.1 rfl (Nat.le_of_ble_eq_true rfl) ⟨rfl, rfl⟩ ⟨Nat.le_of_ble_eq_true rfl, Nat.le_of_ble_eq_true rfl⟩ dX6_autumn_114) (fun H locs hP hS => ?_)
      exact ret_i M hS hP (Option.some.inj hF) dX6_autumn_117
    · replace hF := (if_neg c5).symm.trans hF
      refine lv_aload_n hx hb dX6_autumn_44 rfl (lv_at hl 0 rfl) ?_
      obtain ⟨⟨r9, v10⟩, h8, hF⟩ := bi_some hF
      dsimp only at hF
      refine k_i hS (kV_run M hS hP ok_X6_247 (c_X6_drawn l G v r9 v10 h8) (rc_6 M hP rfl) rfl hl.1 rfl (Nat.le_of_ble_eq_true rfl) ⟨rfl, rfl⟩ ⟨Nat.le_of_ble_eq_true rfl, Nat.le_of_ble_eq_true rfl⟩ dX6_autumn_45) (fun H locs hP hS => ?_)
      refine lv_bipush (v := 10) hx hb dX6_autumn_48 (by decide) ?_
      refine lv_irem hx hb dX6_autumn_50 (by decide) ?_
      refine lv_istore_n (lv' := [(3, .int (r9 - r9 / 10 * 10)), (0, .ref (ad G 0)), (1, .int x1), (2, .int x2)]) hx hb dX6_autumn_51 rfl hl (by decide) rfl (fun ls hl => ?_)
      refine lv_aload_n hx hb dX6_autumn_52 rfl (lv_at hl 1 rfl) ?_
      refine fg_6_9 M hP dX6_autumn_53 ?_
      refine lv_aload_n hx hb dX6_autumn_56 rfl (lv_at hl 1 rfl) ?_
      obtain ⟨r13, h12, hF⟩ := bi_some hF
      refine k_i hS (kV_run M hS hP ok_X6_115 (c_X6_placeNow l G v10 r13 h12) (rc_6 M hP rfl) rfl hl.1 rfl (Nat.le_of_ble_eq_true rfl) ⟨rfl, rfl⟩ ⟨Nat.le_of_ble_eq_true rfl, Nat.le_of_ble_eq_true rfl⟩ dX6_autumn_57) (fun H locs hP hS => ?_)
      refine lv_iload_n hx hb dX6_autumn_60 rfl (lv_at hl 0 rfl) ?_
      obtain ⟨g14, hF⟩ := gu_some hF
      refine r_iast (k := (r13).toNatClampNeg) M hS hP rfl rfl (in_c g14) rfl dX6_autumn_61 (fun H locs hP hS => ?_)
      have hP : Wd G (pu v10 1 ((r13).toNatClampNeg) (r9 - r9 / 10 * 10)) H := hP
      refine lv_aload_n hx hb dX6_autumn_62 rfl (lv_at hl 1 rfl) ?_
      obtain ⟨⟨r16, v17⟩, h15, hF⟩ := bi_some hF
      dsimp only at hF
      refine k_i hS (kV_run M hS hP ok_X6_247 (c_X6_drawn l G (pu v10 1 ((r13).toNatClampNeg) (r9 - r9 / 10 * 10)) r16 v17 h15) (rc_6 M hP rfl) rfl hl.1 rfl (Nat.le_of_ble_eq_true rfl) ⟨rfl, rfl⟩ ⟨Nat.le_of_ble_eq_true rfl, Nat.le_of_ble_eq_true rfl⟩ dX6_autumn_63) (fun H locs hP hS => ?_)
      refine lv_bipush (v := 8) hx hb dX6_autumn_66 (by decide) ?_
      refine lv_irem hx hb dX6_autumn_68 (by decide) ?_
      refine lv_istore (lv' := [(4, .int (r16 - r16 / 8 * 8)), (3, .int (r9 - r9 / 10 * 10)), (0, .ref (ad G 0)), (1, .int x1), (2, .int x2)]) hx hb dX6_autumn_69 hl (by decide) rfl (fun ls hl => ?_)
      refine lv_aload_n hx hb dX6_autumn_71 rfl (lv_at hl 2 rfl) ?_
      refine lv_iload hx hb dX6_autumn_72 (lv_at hl 0 rfl) ?_
      obtain ⟨r20, h19, hF⟩ := bi_some hF
      refine k_i hS (kV_run M hS hP ok_X6_144 (c_X6_isChild l G (r16 - r16 / 8 * 8) v17 r20 h19) (rc_6 M hP rfl) rfl hl.1 rfl (Nat.le_of_ble_eq_true rfl) ⟨rfl, rfl⟩ ⟨Nat.le_of_ble_eq_true rfl, Nat.le_of_ble_eq_true rfl⟩ dX6_autumn_74) (fun H locs hP hS => ?_)
      refine lv_if_eq (tgt := 103) hx hb dX6_autumn_77 (by decide) (fun c21 => ?_) (fun c21 => ?_)
      · replace hF := (if_neg (bI_f c21)).symm.trans hF
        refine lv_aload_n hx hb dX6_autumn_103 rfl (lv_at hl 2 rfl) ?_
        obtain ⟨v24, h22, hF⟩ := bi_some hF
        refine k_v hS (kV_run M hS hP ok_X6_177 (c_X6_day l G v17 v24 h22) (rc_6 M hP rfl) rfl hl.1 rfl (Nat.le_of_ble_eq_true rfl) ⟨rfl, rfl⟩ ⟨Nat.le_of_ble_eq_true rfl, Nat.le_of_ble_eq_true rfl⟩ dX6_autumn_104) (fun H locs hP hS => ?_)
        refine lv_iinc (v := (x2 + 1)) (lv' := [(2, .int (x2 + 1)), (4, .int (r16 - r16 / 8 * 8)), (3, .int (r9 - r9 / 10 * 10)), (0, .ref (ad G 0)), (1, .int x1)]) hx hb dX6_autumn_107 hl (k := 4) rfl (iinc_eq _ (by decide)) (by decide) rfl (fun ls hl => ?_)
        refine lv_goto (tgt := 39) hx hb dX6_autumn_110 (by decide) ?_
        exact ih x1 (x2 + 1) _ _ _ ls hF hP hS (lv_sub hl [3, 4, 0] rfl)
      · replace hF := (if_pos (bI_t c21)).symm.trans hF
        refine lv_aload_n hx hb dX6_autumn_80 rfl (lv_at hl 2 rfl) ?_
        refine fg_6_9 M hP dX6_autumn_81 ?_
        refine lv_iload hx hb dX6_autumn_84 (lv_at hl 0 rfl) ?_
        refine lv_iconst (v := 0) hx hb dX6_autumn_86 (by decide) ?_
        obtain ⟨r26, h25, hF⟩ := bi_some hF
        refine k_i hS (kS_run M hS hP ok_X6_88 (c_X6_childAt l G (r16 - r16 / 8 * 8) 0 v17 r26 h25) rfl hl.1 rfl (Nat.le_of_ble_eq_true rfl) ⟨rfl, rfl⟩ ⟨Nat.le_of_ble_eq_true rfl, Nat.le_of_ble_eq_true rfl⟩ dX6_autumn_87) (fun H locs hP hS => ?_)
        refine lv_aload_n hx hb dX6_autumn_90 rfl (lv_at hl 2 rfl) ?_
        refine lv_iload hx hb dX6_autumn_91 (lv_at hl 0 rfl) ?_
        refine lv_iconst (v := 0) hx hb dX6_autumn_93 (by decide) ?_
        obtain ⟨r28, h27, hF⟩ := bi_some hF
        refine k_i hS (kV_run M hS hP ok_X6_147 (c_X6_childIs l G (r16 - r16 / 8 * 8) 0 v17 r28 h27) (rc_6 M hP rfl) rfl hl.1 rfl (Nat.le_of_ble_eq_true rfl) ⟨rfl, rfl⟩ ⟨Nat.le_of_ble_eq_true rfl, Nat.le_of_ble_eq_true rfl⟩ dX6_autumn_94) (fun H locs hP hS => ?_)
        refine lv_iconst (v := 1) hx hb dX6_autumn_97 (by decide) ?_
        refine lv_iadd hx hb dX6_autumn_98 ?_
        refine lv_bipush (v := 16) hx hb dX6_autumn_99 (by decide) ?_
        refine lv_irem hx hb dX6_autumn_101 (by decide) ?_
        obtain ⟨g29, hF⟩ := gu_some hF
        refine r_iast (k := (r26).toNatClampNeg) M hS hP rfl rfl (in_c g29) rfl dX6_autumn_102 (fun H locs hP hS => ?_)
        have hP : Wd G (pu v17 1 ((r26).toNatClampNeg) ((r28 + 1) - (r28 + 1) / 16 * 16)) H := hP
        refine lv_aload_n hx hb dX6_autumn_103 rfl (lv_at hl 2 rfl) ?_
        obtain ⟨v32, h30, hF⟩ := bi_some hF
        refine k_v hS (kV_run M hS hP ok_X6_177 (c_X6_day l G (pu v17 1 ((r26).toNatClampNeg) ((r28 + 1) - (r28 + 1) / 16 * 16)) v32 h30) (rc_6 M hP rfl) rfl hl.1 rfl (Nat.le_of_ble_eq_true rfl) ⟨rfl, rfl⟩ ⟨Nat.le_of_ble_eq_true rfl, Nat.le_of_ble_eq_true rfl⟩ dX6_autumn_104) (fun H locs hP hS => ?_)
        refine lv_iinc (v := (x2 + 1)) (lv' := [(2, .int (x2 + 1)), (4, .int (r16 - r16 / 8 * 8)), (3, .int (r9 - r9 / 10 * 10)), (0, .ref (ad G 0)), (1, .int x1)]) hx hb dX6_autumn_107 hl (k := 4) rfl (iinc_eq _ (by decide)) (by decide) rfl (fun ls hl => ?_)
        refine lv_goto (tgt := 39) hx hb dX6_autumn_110 (by decide) ?_
        exact ih x1 (x2 + 1) _ _ _ ls hF hP hS (lv_sub hl [3, 4, 0] rfl)
set_option maxHeartbeats 4000000 in
set_option maxRecDepth 100000 in
theorem c_X6_autumn (l : Launch) (G : GG) (a1 : Int32) (v : VV) (r : Int32) (v' : VV) (hF : F_X6_autumn a1 v = some (r, v')) : Met l yX6_autumn (cdW yX6_autumn cX6_autumn 5 (some .int)) ({ frames := 6, cells := 0, slots := 0, locals := 136 } : Room) (PC G v [.ref (ad G 0), .int a1]) (QI G r v') 0 0 (gA G) := by
  refine met_in RX6 (by decide) rfl (Nat.le_of_ble_eq_true rfl) ?_
  intro p e s m below meth c M hP ls hl
  have hx := M.1.1
  have hb := M.1.2.1
  have hS : va_S (gA G) s.heap s.heap [] := va_S.rf
  have hl : lv_has ls 5 [(0, .ref (ad G 0)), (1, .int a1)] := hl
  unfold F_X6_autumn at hF
  refine lv_iload_n hx hb dX6_autumn_0 rfl (lv_at hl 1 rfl) ?_
  refine lv_iconst (v := 1) hx hb dX6_autumn_1 (by decide) ?_
  refine lv_bipush (v := 20) hx hb dX6_autumn_2 (by decide) ?_
  obtain ⟨r2, h1, hF⟩ := bi_some hF
  refine k_i hS (kS_run M hS hP ok_X6_70 (c_X6_within l G a1 1 20 v r2 h1) rfl hl.1 rfl (Nat.le_of_ble_eq_true rfl) ⟨rfl, rfl⟩ ⟨Nat.le_of_ble_eq_true rfl, Nat.le_of_ble_eq_true rfl⟩ dX6_autumn_4) (fun H locs hP hS => ?_)
  refine lv_if_ne (tgt := 17) hx hb dX6_autumn_7 (by decide) (fun c3 => ?_) (fun c3 => ?_)
  · replace hF := (if_pos (bI_t c3)).symm.trans hF
    refine lv_aload_n hx hb dX6_autumn_17 rfl (lv_at hl 0 rfl) ?_
    refine fg_6_9 M hP dX6_autumn_18 ?_
    refine lv_iconst (v := 0) hx hb dX6_autumn_21 (by decide) ?_
    refine r_iald (k := 0) M hP rfl rfl (in_c rfl) rfl dX6_autumn_22 ?_
    refine lv_iload_n hx hb dX6_autumn_23 rfl (lv_at hl 1 rfl) ?_
    refine lv_iadd hx hb dX6_autumn_24 ?_
    refine lv_ldc (own := RX6) (v := 99999) hx hb M.1.2.2.2.1 (M.1.2.2.2.2 (Cond.constant RX6 176 99999) w_912) dX6_autumn_25 ?_
    refine lv_icmp_le (tgt := 37) hx hb dX6_autumn_27 (by decide) (fun c4 => ?_) (fun c4 => ?_)
    · replace hF := (if_pos c4).symm.trans hF
      refine lv_iconst (v := 0) hx hb dX6_autumn_37 (by decide) ?_
      refine lv_istore_n (lv' := [(2, .int 0), (0, .ref (ad G 0)), (1, .int a1)]) hx hb dX6_autumn_38 rfl hl (by decide) rfl (fun ls hl => ?_)
      exact l_X6_autumn_39 M _ _ fu a1 0 _ _ _ ls hF hP hS (lv_sub hl [1, 2, 0] rfl)
    · replace hF := (if_neg c4).symm.trans hF
      refine lv_aload_n hx hb dX6_autumn_30 rfl (lv_at hl 0 rfl) ?_
      refine lv_ldc (own := RX6) (v := (-1000005)) hx hb M.1.2.2.2.1 (M.1.2.2.2.2 (Cond.constant RX6 183 (-1000005)) w_913) dX6_autumn_31 ?_
      obtain ⟨⟨r34, v35⟩, h33, hF⟩ := bi_some hF
      dsimp only at hF
      refine k_i hS (kV_run M hS hP ok_X6_66 (c_X6_finding l G (-1000005) v r34 v35 h33) (rc_6 M hP rfl) rfl hl.1 rfl (Nat.le_of_ble_eq_true rfl) ⟨rfl, rfl⟩ ⟨Nat.le_of_ble_eq_true rfl, Nat.le_of_ble_eq_true rfl⟩ dX6_autumn_33) (fun H locs hP hS => ?_)
      exact ret_i M hS hP (Option.some.inj hF) dX6_autumn_36
  · replace hF := (if_neg (bI_f c3)).symm.trans hF
    refine lv_aload_n hx hb dX6_autumn_10 rfl (lv_at hl 0 rfl) ?_
    refine lv_ldc (own := RX6) (v := (-1000001)) hx hb M.1.2.2.2.1 (M.1.2.2.2.2 (Cond.constant RX6 60 (-1000001)) w_788) dX6_autumn_11 ?_
    obtain ⟨⟨r38, v39⟩, h37, hF⟩ := bi_some hF
    dsimp only at hF
    refine k_i hS (kV_run M hS hP ok_X6_66 (c_X6_finding l G (-1000001) v r38 v39 h37) (rc_6 M hP rfl) rfl hl.1 rfl (Nat.le_of_ble_eq_true rfl) ⟨rfl, rfl⟩ ⟨Nat.le_of_ble_eq_true rfl, Nat.le_of_ble_eq_true rfl⟩ dX6_autumn_13) (fun H locs hP hS => ?_)
    exact ret_i M hS hP (Option.some.inj hF) dX6_autumn_16
def L_X6_odds_121 : Nat → Int32 → Int32 → Int32 → Int32 → Int32 → Int32 → Int32 → Int64 → Int32 → VV → Option (Int64 × VV)
  | 0, _, _, _, _, _, _, _, _, _, _ => none
  | n + 1, x1, x2, x3, x4, x5, x6, x7, x8, x10, v =>
  if x3 ≤ x10 then (some (x8, v)) else (if x4 = 0 then (gu (gZ x6) (L_X6_odds_121 n x1 x2 x3 x4 x5 x6 x7 (x8 * ((x5 / x6 : Int32).toInt64)) (x10 + 1) v)) else (gu (gZ x6) (L_X6_odds_121 n x1 x2 x3 x4 x5 x6 x7 (x8 * ((10 / x6 : Int32).toInt64)) (x10 + 1) v)))
def L_X6_odds_92 : Nat → Int32 → Int32 → Int32 → Int32 → Int32 → Int32 → Int32 → VV → Option (Int64 × VV)
  | 0, _, _, _, _, _, _, _, _ => none
  | n + 1, x1, x2, x3, x4, x5, x6, x7, v =>
  if x7 = 0 then (L_X6_odds_121 fu x1 x2 x3 x4 x5 x6 x7 1 0 v) else (gu (gZ x7) (L_X6_odds_92 n x1 x2 x3 x4 x5 x7 (x6 - x6 / x7 * x7) v))
def L_X6_odds_50 : Nat → Int32 → Int32 → Int32 → Int32 → Int32 → Int32 → VV → Option (Int64 × VV)
  | 0, _, _, _, _, _, _, _ => none
  | n + 1, x1, x2, x3, x4, x5, x6, v =>
  if 9 < x6 then (L_X6_odds_92 fu x1 x2 x3 x4 x5 10 x5 v) else (Option.bind (F_X6_doesHear x1 x2 x6 v) (fun r33 => (if r33 = true then (L_X6_odds_50 n x1 x2 x3 x4 (x5 + 1) (x6 + 1) v) else (L_X6_odds_50 n x1 x2 x3 x4 (x5 + 0) (x6 + 1) v))))
def F_X6_odds (a1 : Int32) (a2 : Int32) (a3 : Int32) (a4 : Int32) (v : VV) : Option (Int64 × VV) :=
  Option.bind (F_X6_isChild a1 v) (fun r2 => (if r2 = true then (Option.bind (F_X6_isKeeper a2 v) (fun r9 => (if r9 = true then (Option.bind (F_X6_within a3 0 17 v) (fun r16 => (if r16 = true then (Option.bind (F_X6_within a4 0 1 v) (fun r23 => (if r23 = true then (L_X6_odds_50 fu a1 a2 a3 a4 0 1 v) else (Option.bind (F_X6_finding (-1000001) v) (fun (r36, v37) => some ((r36 : Int32).toInt64, v37)))))) else (Option.bind (F_X6_finding (-1000001) v) (fun (r19, v20) => some ((r19 : Int32).toInt64, v20)))))) else (Option.bind (F_X6_finding (-1000001) v) (fun (r12, v13) => some ((r12 : Int32).toInt64, v13)))))) else (Option.bind (F_X6_finding (-1000001) v) (fun (r5, v6) => some ((r5 : Int32).toInt64, v6)))))
set_option maxHeartbeats 4000000 in
set_option maxRecDepth 100000 in
theorem l_X6_odds_121 {p : Program} {l : Launch} {e : Env} {s : State} {m : MethodId} {args : Array Value} {below : List Frame} {meth : Method} {c : Code} {G : GG} (M : Mx G RX6 cX6_odds 11 (some .long) p s m args meth c) (r : Int64) (v' : VV) : ∀ (n : Nat) (x1 : Int32) (x2 : Int32) (x3 : Int32) (x4 : Int32) (x5 : Int32) (x6 : Int32) (x7 : Int32) (x8 : Int64) (x10 : Int32) (v : VV) (H : Heap) (locs : List Loc) (ls : Array Slot), L_X6_odds_121 n x1 x2 x3 x4 x5 x6 x7 x8 x10 v = some (r, v') → Wd G v H → va_S (gA G) s.heap H locs → lv_has ls 11 [(0, .ref (ad G 0)), (1, .int x1), (2, .int x2), (3, .int x3), (4, .int x4), (5, .int x5), (6, .int x6), (7, .int x7), (8, .long x8), (10, .int x10)] → W p l e ({ frames := 4, cells := 0, slots := 0, locals := 90 } : Room) s m args below meth c H locs 0 0 (MQ below (QL G r v') args s 0 0 (gA G)) (F0 m 121 ls []) := by
  have hx := M.1.1
  have hb := M.1.2.1
  intro n
  induction n with
  | zero =>
    intro x1 x2 x3 x4 x5 x6 x7 x8 x10 v H locs ls hF hP hS hl
    rw [L_X6_odds_121] at hF
    cases hF
  | succ n ih =>
    intro x1 x2 x3 x4 x5 x6 x7 x8 x10 v H locs ls hF hP hS hl
    rw [L_X6_odds_121] at hF
    refine lv_iload hx hb dX6_odds_121 (lv_at hl 9 rfl) ?_
    refine lv_iload_n hx hb dX6_odds_123 rfl (lv_at hl 3 rfl) ?_
    refine lv_icmp_ge (tgt := 154) hx hb dX6_odds_124 (by decide) (fun c27 => ?_) (fun c27 => ?_)
    · replace hF := (if_pos c27).symm.trans hF
      refine lv_lload hx hb dX6_odds_154 (lv_at hl 8 rfl) ?_
      exact ret_l M hS hP (Option.some.inj hF) dX6_odds_156
    · replace hF := (if_neg c27).symm.trans hF
      refine lv_lload hx hb dX6_odds_127 (lv_at hl 8 rfl) ?_
      refine lv_iload hx hb dX6_odds_129 (lv_at hl 4 rfl) ?_
      refine lv_if_ne (tgt := 139) hx hb dX6_odds_131 (by decide) (fun c28 => ?_) (fun c28 => ?_)
      · replace hF := (if_neg c28).symm.trans hF
        refine lv_bipush (v := 10) hx hb dX6_odds_139 (by decide) ?_
        refine lv_iload hx hb dX6_odds_141 (lv_at hl 6 rfl) ?_
        obtain ⟨g29, hF⟩ := gu_some hF
        refine lv_idiv hx hb dX6_odds_143 (gZ_ne g29) ?_
        refine lv_i2l hx hb dX6_odds_144 rfl ?_
        refine lv_lmul hx hb dX6_odds_145 ?_
        refine lv_lstore (lv' := [(8, .long (x8 * ((10 / x6 : Int32).toInt64))), (0, .ref (ad G 0)), (1, .int x1), (2, .int x2), (3, .int x3), (4, .int x4), (5, .int x5), (6, .int x6), (7, .int x7), (10, .int x10)]) hx hb dX6_odds_146 hl (by decide) rfl (fun ls hl => ?_)
        refine lv_iinc (v := (x10 + 1)) (lv' := [(10, .int (x10 + 1)), (8, .long (x8 * ((10 / x6 : Int32).toInt64))), (0, .ref (ad G 0)), (1, .int x1), (2, .int x2), (3, .int x3), (4, .int x4), (5, .int x5), (6, .int x6), (7, .int x7)]) hx hb dX6_odds_148 hl (k := 9) rfl (iinc_eq _ (by decide)) (by decide) rfl (fun ls hl => ?_)
        refine lv_goto (tgt := 121) hx hb dX6_odds_151 (by decide) ?_
        exact ih x1 x2 x3 x4 x5 x6 x7 (x8 * ((10 / x6 : Int32).toInt64)) (x10 + 1) _ _ _ ls hF hP hS (lv_sub hl [2, 3, 4, 5, 6, 7, 8, 9, 1, 0] rfl)
      · replace hF := (if_pos c28).symm.trans hF
        refine lv_iload hx hb dX6_odds_134 (lv_at hl 5 rfl) ?_
        refine lv_goto (tgt := 141) hx hb dX6_odds_136 (by decide) ?_
        refine lv_iload hx hb dX6_odds_141 (lv_at hl 6 rfl) ?_
        obtain ⟨g30, hF⟩ := gu_some hF
        refine lv_idiv hx hb dX6_odds_143 (gZ_ne g30) ?_
        refine lv_i2l hx hb dX6_odds_144 rfl ?_
        refine lv_lmul hx hb dX6_odds_145 ?_
        refine lv_lstore (lv' := [(8, .long (x8 * ((x5 / x6 : Int32).toInt64))), (0, .ref (ad G 0)), (1, .int x1), (2, .int x2), (3, .int x3), (4, .int x4), (5, .int x5), (6, .int x6), (7, .int x7), (10, .int x10)]) hx hb dX6_odds_146 hl (by decide) rfl (fun ls hl => ?_)
        refine lv_iinc (v := (x10 + 1)) (lv' := [(10, .int (x10 + 1)), (8, .long (x8 * ((x5 / x6 : Int32).toInt64))), (0, .ref (ad G 0)), (1, .int x1), (2, .int x2), (3, .int x3), (4, .int x4), (5, .int x5), (6, .int x6), (7, .int x7)]) hx hb dX6_odds_148 hl (k := 9) rfl (iinc_eq _ (by decide)) (by decide) rfl (fun ls hl => ?_)
        refine lv_goto (tgt := 121) hx hb dX6_odds_151 (by decide) ?_
        exact ih x1 x2 x3 x4 x5 x6 x7 (x8 * ((x5 / x6 : Int32).toInt64)) (x10 + 1) _ _ _ ls hF hP hS (lv_sub hl [2, 3, 4, 5, 6, 7, 8, 9, 1, 0] rfl)
set_option maxHeartbeats 4000000 in
set_option maxRecDepth 100000 in
theorem l_X6_odds_92 {p : Program} {l : Launch} {e : Env} {s : State} {m : MethodId} {args : Array Value} {below : List Frame} {meth : Method} {c : Code} {G : GG} (M : Mx G RX6 cX6_odds 11 (some .long) p s m args meth c) (r : Int64) (v' : VV) : ∀ (n : Nat) (x1 : Int32) (x2 : Int32) (x3 : Int32) (x4 : Int32) (x5 : Int32) (x6 : Int32) (x7 : Int32) (v : VV) (H : Heap) (locs : List Loc) (ls : Array Slot), L_X6_odds_92 n x1 x2 x3 x4 x5 x6 x7 v = some (r, v') → Wd G v H → va_S (gA G) s.heap H locs → lv_has ls 11 [(0, .ref (ad G 0)), (1, .int x1), (2, .int x2), (3, .int x3), (4, .int x4), (5, .int x5), (6, .int x6), (7, .int x7)] → W p l e ({ frames := 4, cells := 0, slots := 0, locals := 90 } : Room) s m args below meth c H locs 0 0 (MQ below (QL G r v') args s 0 0 (gA G)) (F0 m 92 ls []) := by
  have hx := M.1.1
  have hb := M.1.2.1
  intro n
  induction n with
  | zero =>
    intro x1 x2 x3 x4 x5 x6 x7 v H locs ls hF hP hS hl
    rw [L_X6_odds_92] at hF
    cases hF
  | succ n ih =>
    intro x1 x2 x3 x4 x5 x6 x7 v H locs ls hF hP hS hl
    rw [L_X6_odds_92] at hF
    refine lv_iload hx hb dX6_odds_92 (lv_at hl 7 rfl) ?_
    refine lv_if_eq (tgt := 115) hx hb dX6_odds_94 (by decide) (fun c26 => ?_) (fun c26 => ?_)
    · replace hF := (if_pos c26).symm.trans hF
      refine lv_lconst (v := 1) hx hb dX6_odds_115 (by decide) ?_
      refine lv_lstore (lv' := [(8, .long 1), (0, .ref (ad G 0)), (1, .int x1), (2, .int x2), (3, .int x3), (4, .int x4), (5, .int x5), (6, .int x6), (7, .int x7)]) hx hb dX6_odds_116 hl (by decide) rfl (fun ls hl => ?_)
      refine lv_iconst (v := 0) hx hb dX6_odds_118 (by decide) ?_
      refine lv_istore (lv' := [(10, .int 0), (8, .long 1), (0, .ref (ad G 0)), (1, .int x1), (2, .int x2), (3, .int x3), (4, .int x4), (5, .int x5), (6, .int x6), (7, .int x7)]) hx hb dX6_odds_119 hl (by decide) rfl (fun ls hl => ?_)
      exact l_X6_odds_121 M _ _ fu x1 x2 x3 x4 x5 x6 x7 1 0 _ _ _ ls hF hP hS (lv_sub hl [2, 3, 4, 5, 6, 7, 8, 9, 1, 0] rfl)
    · replace hF := (if_neg c26).symm.trans hF
      refine lv_iload hx hb dX6_odds_97 (lv_at hl 6 rfl) ?_
      refine lv_iload hx hb dX6_odds_99 (lv_at hl 7 rfl) ?_
      obtain ⟨g31, hF⟩ := gu_some hF
      refine lv_irem hx hb dX6_odds_101 (gZ_ne g31) ?_
      refine lv_istore (lv' := [(8, .int (x6 - x6 / x7 * x7)), (0, .ref (ad G 0)), (1, .int x1), (2, .int x2), (3, .int x3), (4, .int x4), (5, .int x5), (6, .int x6), (7, .int x7)]) hx hb dX6_odds_102 hl (by decide) rfl (fun ls hl => ?_)
      refine lv_iload hx hb dX6_odds_104 (lv_at hl 8 rfl) ?_
      refine lv_istore (lv' := [(6, .int x7), (8, .int (x6 - x6 / x7 * x7)), (0, .ref (ad G 0)), (1, .int x1), (2, .int x2), (3, .int x3), (4, .int x4), (5, .int x5), (7, .int x7)]) hx hb dX6_odds_106 hl (by decide) rfl (fun ls hl => ?_)
      refine lv_iload hx hb dX6_odds_108 (lv_at hl 1 rfl) ?_
      refine lv_istore (lv' := [(7, .int (x6 - x6 / x7 * x7)), (6, .int x7), (8, .int (x6 - x6 / x7 * x7)), (0, .ref (ad G 0)), (1, .int x1), (2, .int x2), (3, .int x3), (4, .int x4), (5, .int x5)]) hx hb dX6_odds_110 hl (by decide) rfl (fun ls hl => ?_)
      refine lv_goto (tgt := 92) hx hb dX6_odds_112 (by decide) ?_
      exact ih x1 x2 x3 x4 x5 x7 (x6 - x6 / x7 * x7) _ _ _ ls hF hP hS (lv_sub hl [3, 4, 5, 6, 7, 8, 1, 0] rfl)
set_option maxHeartbeats 4000000 in
set_option maxRecDepth 100000 in
theorem l_X6_odds_50 {p : Program} {l : Launch} {e : Env} {s : State} {m : MethodId} {args : Array Value} {below : List Frame} {meth : Method} {c : Code} {G : GG} (M : Mx G RX6 cX6_odds 11 (some .long) p s m args meth c) (r : Int64) (v' : VV) : ∀ (n : Nat) (x1 : Int32) (x2 : Int32) (x3 : Int32) (x4 : Int32) (x5 : Int32) (x6 : Int32) (v : VV) (H : Heap) (locs : List Loc) (ls : Array Slot), L_X6_odds_50 n x1 x2 x3 x4 x5 x6 v = some (r, v') → Wd G v H → va_S (gA G) s.heap H locs → lv_has ls 11 [(0, .ref (ad G 0)), (1, .int x1), (2, .int x2), (3, .int x3), (4, .int x4), (5, .int x5), (6, .int x6)] → W p l e ({ frames := 4, cells := 0, slots := 0, locals := 90 } : Room) s m args below meth c H locs 0 0 (MQ below (QL G r v') args s 0 0 (gA G)) (F0 m 50 ls []) := by
  have hx := M.1.1
  have hb := M.1.2.1
  intro n
  induction n with
  | zero =>
    intro x1 x2 x3 x4 x5 x6 v H locs ls hF hP hS hl
    rw [L_X6_odds_50] at hF
    cases hF
  | succ n ih =>
    intro x1 x2 x3 x4 x5 x6 v H locs ls hF hP hS hl
    rw [L_X6_odds_50] at hF
    refine lv_iload hx hb dX6_odds_50 (lv_at hl 6 rfl) ?_
    refine lv_bipush (v := 9) hx hb dX6_odds_52 (by decide) ?_
    refine lv_icmp_gt (tgt := 84) hx hb dX6_odds_54 (by decide) (fun c25 => ?_) (fun c25 => ?_)
    · replace hF := (if_pos c25).symm.trans hF
      refine lv_bipush (v := 10) hx hb dX6_odds_84 (by decide) ?_
      refine lv_istore (lv' := [(6, .int 10), (0, .ref (ad G 0)), (1, .int x1), (2, .int x2), (3, .int x3), (4, .int x4), (5, .int x5)]) hx hb dX6_odds_86 hl (by decide) rfl (fun ls hl => ?_)
      refine lv_iload hx hb dX6_odds_88 (lv_at hl 6 rfl) ?_
      refine lv_istore (lv' := [(7, .int x5), (6, .int 10), (0, .ref (ad G 0)), (1, .int x1), (2, .int x2), (3, .int x3), (4, .int x4), (5, .int x5)]) hx hb dX6_odds_90 hl (by decide) rfl (fun ls hl => ?_)
      exact l_X6_odds_92 M _ _ fu x1 x2 x3 x4 x5 10 x5 _ _ _ ls hF hP hS (lv_sub hl [2, 3, 4, 5, 6, 7, 1, 0] rfl)
    · replace hF := (if_neg c25).symm.trans hF
      refine lv_iload hx hb dX6_odds_57 (lv_at hl 5 rfl) ?_
      refine lv_aload_n hx hb dX6_odds_59 rfl (lv_at hl 0 rfl) ?_
      refine lv_iload_n hx hb dX6_odds_60 rfl (lv_at hl 1 rfl) ?_
      refine lv_iload_n hx hb dX6_odds_61 rfl (lv_at hl 2 rfl) ?_
      refine lv_iload hx hb dX6_odds_62 (lv_at hl 6 rfl) ?_
      obtain ⟨r33, h32, hF⟩ := bi_some hF
      refine k_i hS (kV_run M hS hP ok_X6_159 (c_X6_doesHear l G x1 x2 x6 v r33 h32) (rc_6 M hP rfl) rfl hl.1 rfl (Nat.le_of_ble_eq_true rfl) ⟨rfl, rfl⟩ ⟨Nat.le_of_ble_eq_true rfl, Nat.le_of_ble_eq_true rfl⟩ dX6_odds_64) (fun H locs hP hS => ?_)
      refine lv_if_eq (tgt := 74) hx hb dX6_odds_67 (by decide) (fun c34 => ?_) (fun c34 => ?_)
      · replace hF := (if_neg (bI_f c34)).symm.trans hF
        refine lv_iconst (v := 0) hx hb dX6_odds_74 (by decide) ?_
        refine lv_iadd hx hb dX6_odds_75 ?_
        refine lv_istore (lv' := [(5, .int (x5 + 0)), (0, .ref (ad G 0)), (1, .int x1), (2, .int x2), (3, .int x3), (4, .int x4), (6, .int x6)]) hx hb dX6_odds_76 hl (by decide) rfl (fun ls hl => ?_)
        refine lv_iinc (v := (x6 + 1)) (lv' := [(6, .int (x6 + 1)), (5, .int (x5 + 0)), (0, .ref (ad G 0)), (1, .int x1), (2, .int x2), (3, .int x3), (4, .int x4)]) hx hb dX6_odds_78 hl (k := 6) rfl (iinc_eq _ (by decide)) (by decide) rfl (fun ls hl => ?_)
        refine lv_goto (tgt := 50) hx hb dX6_odds_81 (by decide) ?_
        exact ih x1 x2 x3 x4 (x5 + 0) (x6 + 1) _ _ _ ls hF hP hS (lv_sub hl [2, 3, 4, 5, 6, 1, 0] rfl)
      · replace hF := (if_pos (bI_t c34)).symm.trans hF
        refine lv_iconst (v := 1) hx hb dX6_odds_70 (by decide) ?_
        refine lv_goto (tgt := 75) hx hb dX6_odds_71 (by decide) ?_
        refine lv_iadd hx hb dX6_odds_75 ?_
        refine lv_istore (lv' := [(5, .int (x5 + 1)), (0, .ref (ad G 0)), (1, .int x1), (2, .int x2), (3, .int x3), (4, .int x4), (6, .int x6)]) hx hb dX6_odds_76 hl (by decide) rfl (fun ls hl => ?_)
        refine lv_iinc (v := (x6 + 1)) (lv' := [(6, .int (x6 + 1)), (5, .int (x5 + 1)), (0, .ref (ad G 0)), (1, .int x1), (2, .int x2), (3, .int x3), (4, .int x4)]) hx hb dX6_odds_78 hl (k := 6) rfl (iinc_eq _ (by decide)) (by decide) rfl (fun ls hl => ?_)
        refine lv_goto (tgt := 50) hx hb dX6_odds_81 (by decide) ?_
        exact ih x1 x2 x3 x4 (x5 + 1) (x6 + 1) _ _ _ ls hF hP hS (lv_sub hl [2, 3, 4, 5, 6, 1, 0] rfl)
set_option maxHeartbeats 4000000 in
set_option maxRecDepth 100000 in
theorem c_X6_odds (l : Launch) (G : GG) (a1 : Int32) (a2 : Int32) (a3 : Int32) (a4 : Int32) (v : VV) (r : Int64) (v' : VV) (hF : F_X6_odds a1 a2 a3 a4 v = some (r, v')) : Met l yX6_odds (cdW yX6_odds cX6_odds 11 (some .long)) ({ frames := 4, cells := 0, slots := 0, locals := 90 } : Room) (PC G v [.ref (ad G 0), .int a1, .int a2, .int a3, .int a4]) (QL G r v') 0 0 (gA G) := by
  refine met_in RX6 (by decide) rfl (Nat.le_of_ble_eq_true rfl) ?_
  intro p e s m below meth c M hP ls hl
  have hx := M.1.1
  have hb := M.1.2.1
  have hS : va_S (gA G) s.heap s.heap [] := va_S.rf
  have hl : lv_has ls 11 [(0, .ref (ad G 0)), (1, .int a1), (2, .int a2), (3, .int a3), (4, .int a4)] := hl
  unfold F_X6_odds at hF
  refine lv_aload_n hx hb dX6_odds_0 rfl (lv_at hl 0 rfl) ?_
  refine lv_iload_n hx hb dX6_odds_1 rfl (lv_at hl 1 rfl) ?_
  obtain ⟨r2, h1, hF⟩ := bi_some hF
  refine k_i hS (kV_run M hS hP ok_X6_144 (c_X6_isChild l G a1 v r2 h1) (rc_6 M hP rfl) rfl hl.1 rfl (Nat.le_of_ble_eq_true rfl) ⟨rfl, rfl⟩ ⟨Nat.le_of_ble_eq_true rfl, Nat.le_of_ble_eq_true rfl⟩ dX6_odds_2) (fun H locs hP hS => ?_)
  refine lv_if_eq (tgt := 36) hx hb dX6_odds_5 (by decide) (fun c3 => ?_) (fun c3 => ?_)
  · replace hF := (if_neg (bI_f c3)).symm.trans hF
    refine lv_aload_n hx hb dX6_odds_36 rfl (lv_at hl 0 rfl) ?_
    refine lv_ldc (own := RX6) (v := (-1000001)) hx hb M.1.2.2.2.1 (M.1.2.2.2.2 (Cond.constant RX6 60 (-1000001)) w_788) dX6_odds_37 ?_
    obtain ⟨⟨r5, v6⟩, h4, hF⟩ := bi_some hF
    dsimp only at hF
    refine k_i hS (kV_run M hS hP ok_X6_66 (c_X6_finding l G (-1000001) v r5 v6 h4) (rc_6 M hP rfl) rfl hl.1 rfl (Nat.le_of_ble_eq_true rfl) ⟨rfl, rfl⟩ ⟨Nat.le_of_ble_eq_true rfl, Nat.le_of_ble_eq_true rfl⟩ dX6_odds_39) (fun H locs hP hS => ?_)
    refine lv_i2l hx hb dX6_odds_42 rfl ?_
    exact ret_l M hS hP (Option.some.inj hF) dX6_odds_43
  · replace hF := (if_pos (bI_t c3)).symm.trans hF
    refine lv_aload_n hx hb dX6_odds_8 rfl (lv_at hl 0 rfl) ?_
    refine lv_iload_n hx hb dX6_odds_9 rfl (lv_at hl 2 rfl) ?_
    obtain ⟨r9, h8, hF⟩ := bi_some hF
    refine k_i hS (kV_run M hS hP ok_X6_131 (c_X6_isKeeper l G a2 v r9 h8) (rc_6 M hP rfl) rfl hl.1 rfl (Nat.le_of_ble_eq_true rfl) ⟨rfl, rfl⟩ ⟨Nat.le_of_ble_eq_true rfl, Nat.le_of_ble_eq_true rfl⟩ dX6_odds_10) (fun H locs hP hS => ?_)
    refine lv_if_eq (tgt := 36) hx hb dX6_odds_13 (by decide) (fun c10 => ?_) (fun c10 => ?_)
    · replace hF := (if_neg (bI_f c10)).symm.trans hF
      refine lv_aload_n hx hb dX6_odds_36 rfl (lv_at hl 0 rfl) ?_
      refine lv_ldc (own := RX6) (v := (-1000001)) hx hb M.1.2.2.2.1 (M.1.2.2.2.2 (Cond.constant RX6 60 (-1000001)) w_788) dX6_odds_37 ?_
      obtain ⟨⟨r12, v13⟩, h11, hF⟩ := bi_some hF
      dsimp only at hF
      refine k_i hS (kV_run M hS hP ok_X6_66 (c_X6_finding l G (-1000001) v r12 v13 h11) (rc_6 M hP rfl) rfl hl.1 rfl (Nat.le_of_ble_eq_true rfl) ⟨rfl, rfl⟩ ⟨Nat.le_of_ble_eq_true rfl, Nat.le_of_ble_eq_true rfl⟩ dX6_odds_39) (fun H locs hP hS => ?_)
      refine lv_i2l hx hb dX6_odds_42 rfl ?_
      exact ret_l M hS hP (Option.some.inj hF) dX6_odds_43
    · replace hF := (if_pos (bI_t c10)).symm.trans hF
      refine lv_iload_n hx hb dX6_odds_16 rfl (lv_at hl 3 rfl) ?_
      refine lv_iconst (v := 0) hx hb dX6_odds_17 (by decide) ?_
      refine lv_bipush (v := 17) hx hb dX6_odds_18 (by decide) ?_
      obtain ⟨r16, h15, hF⟩ := bi_some hF
      refine k_i hS (kS_run M hS hP ok_X6_70 (c_X6_within l G a3 0 17 v r16 h15) rfl hl.1 rfl (Nat.le_of_ble_eq_true rfl) ⟨rfl, rfl⟩ ⟨Nat.le_of_ble_eq_true rfl, Nat.le_of_ble_eq_true rfl⟩ dX6_odds_20) (fun H locs hP hS => ?_)
      refine lv_if_eq (tgt := 36) hx hb dX6_odds_23 (by decide) (fun c17 => ?_) (fun c17 => ?_)
      · replace hF := (if_neg (bI_f c17)).symm.trans hF
        refine lv_aload_n hx hb dX6_odds_36 rfl (lv_at hl 0 rfl) ?_
        refine lv_ldc (own := RX6) (v := (-1000001)) hx hb M.1.2.2.2.1 (M.1.2.2.2.2 (Cond.constant RX6 60 (-1000001)) w_788) dX6_odds_37 ?_
        obtain ⟨⟨r19, v20⟩, h18, hF⟩ := bi_some hF
        dsimp only at hF
        refine k_i hS (kV_run M hS hP ok_X6_66 (c_X6_finding l G (-1000001) v r19 v20 h18) (rc_6 M hP rfl) rfl hl.1 rfl (Nat.le_of_ble_eq_true rfl) ⟨rfl, rfl⟩ ⟨Nat.le_of_ble_eq_true rfl, Nat.le_of_ble_eq_true rfl⟩ dX6_odds_39) (fun H locs hP hS => ?_)
        refine lv_i2l hx hb dX6_odds_42 rfl ?_
        exact ret_l M hS hP (Option.some.inj hF) dX6_odds_43
      · replace hF := (if_pos (bI_t c17)).symm.trans hF
        refine lv_iload hx hb dX6_odds_26 (lv_at hl 4 rfl) ?_
        refine lv_iconst (v := 0) hx hb dX6_odds_28 (by decide) ?_
        refine lv_iconst (v := 1) hx hb dX6_odds_29 (by decide) ?_
        obtain ⟨r23, h22, hF⟩ := bi_some hF
        refine k_i hS (kS_run M hS hP ok_X6_70 (c_X6_within l G a4 0 1 v r23 h22) rfl hl.1 rfl (Nat.le_of_ble_eq_true rfl) ⟨rfl, rfl⟩ ⟨Nat.le_of_ble_eq_true rfl, Nat.le_of_ble_eq_true rfl⟩ dX6_odds_30) (fun H locs hP hS => ?_)
        refine lv_if_ne (tgt := 44) hx hb dX6_odds_33 (by decide) (fun c24 => ?_) (fun c24 => ?_)
        · replace hF := (if_pos (bI_t c24)).symm.trans hF
          refine lv_iconst (v := 0) hx hb dX6_odds_44 (by decide) ?_
          refine lv_istore (lv' := [(5, .int 0), (0, .ref (ad G 0)), (1, .int a1), (2, .int a2), (3, .int a3), (4, .int a4)]) hx hb dX6_odds_45 hl (by decide) rfl (fun ls hl => ?_)
          refine lv_iconst (v := 1) hx hb dX6_odds_47 (by decide) ?_
          refine lv_istore (lv' := [(6, .int 1), (5, .int 0), (0, .ref (ad G 0)), (1, .int a1), (2, .int a2), (3, .int a3), (4, .int a4)]) hx hb dX6_odds_48 hl (by decide) rfl (fun ls hl => ?_)
          exact l_X6_odds_50 M _ _ fu a1 a2 a3 a4 0 1 _ _ _ ls hF hP hS (lv_sub hl [2, 3, 4, 5, 6, 1, 0] rfl)
        · replace hF := (if_neg (bI_f c24)).symm.trans hF
          refine lv_aload_n hx hb dX6_odds_36 rfl (lv_at hl 0 rfl) ?_
          refine lv_ldc (own := RX6) (v := (-1000001)) hx hb M.1.2.2.2.1 (M.1.2.2.2.2 (Cond.constant RX6 60 (-1000001)) w_788) dX6_odds_37 ?_
          obtain ⟨⟨r36, v37⟩, h35, hF⟩ := bi_some hF
          dsimp only at hF
          refine k_i hS (kV_run M hS hP ok_X6_66 (c_X6_finding l G (-1000001) v r36 v37 h35) (rc_6 M hP rfl) rfl hl.1 rfl (Nat.le_of_ble_eq_true rfl) ⟨rfl, rfl⟩ ⟨Nat.le_of_ble_eq_true rfl, Nat.le_of_ble_eq_true rfl⟩ dX6_odds_39) (fun H locs hP hS => ?_)
          refine lv_i2l hx hb dX6_odds_42 rfl ?_
          exact ret_l M hS hP (Option.some.inj hF) dX6_odds_43
def F_X6_seed (a1 : Int32) (v : VV) : Option (Int32 × VV) :=
  Option.bind (F_X6_become 2 a1 v) (fun (r2, v3) => some (r2, v3))
set_option maxHeartbeats 4000000 in
set_option maxRecDepth 100000 in
theorem c_X6_seed (l : Launch) (G : GG) (a1 : Int32) (v : VV) (r : Int32) (v' : VV) (hF : F_X6_seed a1 v = some (r, v')) : Met l yX6_seed (cdW yX6_seed cX6_seed 2 (some .int)) ({ frames := 1, cells := 0, slots := 0, locals := 23 } : Room) (PC G v [.ref (ad G 0), .int a1]) (QI G r v') 0 0 (gA G) := by
  refine met_in RX6 (by decide) rfl (Nat.le_of_ble_eq_true rfl) ?_
  intro p e s m below meth c M hP ls hl
  have hx := M.1.1
  have hb := M.1.2.1
  have hS : va_S (gA G) s.heap s.heap [] := va_S.rf
  have hl : lv_has ls 2 [(0, .ref (ad G 0)), (1, .int a1)] := hl
  unfold F_X6_seed at hF
  refine lv_aload_n hx hb dX6_seed_0 rfl (lv_at hl 0 rfl) ?_
  refine lv_iconst (v := 2) hx hb dX6_seed_1 (by decide) ?_
  refine lv_iload_n hx hb dX6_seed_2 rfl (lv_at hl 1 rfl) ?_
  obtain ⟨⟨r2, v3⟩, h1, hF⟩ := bi_some hF
  dsimp only at hF
  refine k_i hS (kV_run M hS hP ok_X6_81 (c_X6_become l G 2 a1 v r2 v3 h1) (rc_6 M hP rfl) rfl hl.1 rfl (Nat.le_of_ble_eq_true rfl) ⟨rfl, rfl⟩ ⟨Nat.le_of_ble_eq_true rfl, Nat.le_of_ble_eq_true rfl⟩ dX6_seed_3) (fun H locs hP hS => ?_)
  exact ret_i M hS hP (Option.some.inj hF) dX6_seed_6
def L_X6_feed_38 : Nat → Int32 → Int32 → Int32 → VV → Option (Int32 × VV)
  | 0, _, _, _, _ => none
  | n + 1, x1, x2, x3, v =>
  if x3 < 0 then (some (v 0 6, v)) else (gu (gI (v 0 6) 120) (L_X6_feed_38 n x1 x2 (x3 + (-1)) (pu (pu v 5 ((v 0 6).toNatClampNeg) ((x1 >>> ((8 * x3) &&& 31)) &&& 255)) 0 6 (((pu v 5 ((v 0 6).toNatClampNeg) ((x1 >>> ((8 * x3) &&& 31)) &&& 255)) 0 6) + 1))))
def F_X6_feed (a1 : Int32) (a2 : Int32) (v : VV) : Option (Int32 × VV) :=
  Option.bind (F_X6_within a2 1 4 v) (fun r2 => (if r2 = true then (if ((v 0 6) + a2) ≤ 120 then (L_X6_feed_38 fu a1 a2 (a2 - 1) v) else (Option.bind (F_X6_finding (-1000002) v) (fun (r8, v9) => some (r8, v9)))) else (Option.bind (F_X6_finding (-1000001) v) (fun (r12, v13) => some (r12, v13)))))
set_option maxHeartbeats 4000000 in
set_option maxRecDepth 100000 in
theorem l_X6_feed_38 {p : Program} {l : Launch} {e : Env} {s : State} {m : MethodId} {args : Array Value} {below : List Frame} {meth : Method} {c : Code} {G : GG} (M : Mx G RX6 cX6_feed 4 (some .int) p s m args meth c) (r : Int32) (v' : VV) : ∀ (n : Nat) (x1 : Int32) (x2 : Int32) (x3 : Int32) (v : VV) (H : Heap) (locs : List Loc) (ls : Array Slot), L_X6_feed_38 n x1 x2 x3 v = some (r, v') → Wd G v H → va_S (gA G) s.heap H locs → lv_has ls 4 [(0, .ref (ad G 0)), (1, .int x1), (2, .int x2), (3, .int x3)] → W p l e ({ frames := 1, cells := 0, slots := 0, locals := 22 } : Room) s m args below meth c H locs 0 0 (MQ below (QI G r v') args s 0 0 (gA G)) (F0 m 38 ls []) := by
  have hx := M.1.1
  have hb := M.1.2.1
  intro n
  induction n with
  | zero =>
    intro x1 x2 x3 v H locs ls hF hP hS hl
    rw [L_X6_feed_38] at hF
    cases hF
  | succ n ih =>
    intro x1 x2 x3 v H locs ls hF hP hS hl
    rw [L_X6_feed_38] at hF
    refine lv_iload_n hx hb dX6_feed_38 rfl (lv_at hl 3 rfl) ?_
    refine lv_if_lt (tgt := 77) hx hb dX6_feed_39 (by decide) (fun c5 => ?_) (fun c5 => ?_)
    · replace hF := (if_pos c5).symm.trans hF
      refine lv_aload_n hx hb dX6_feed_77 rfl (lv_at hl 0 rfl) ?_
      refine fg_6_250 M hP dX6_feed_78 ?_
      exact ret_i M hS hP (Option.some.inj hF) dX6_feed_81
    · replace hF := (if_neg c5).symm.trans hF
      refine lv_aload_n hx hb dX6_feed_42 rfl (lv_at hl 0 rfl) ?_
      refine fg_6_22 M hP dX6_feed_43 ?_
      refine lv_aload_n hx hb dX6_feed_46 rfl (lv_at hl 0 rfl) ?_
      refine fg_6_250 M hP dX6_feed_47 ?_
      refine lv_iload_n hx hb dX6_feed_50 rfl (lv_at hl 1 rfl) ?_
      refine lv_bipush (v := 8) hx hb dX6_feed_51 (by decide) ?_
      refine lv_iload_n hx hb dX6_feed_53 rfl (lv_at hl 3 rfl) ?_
      refine lv_imul hx hb dX6_feed_54 ?_
      refine lv_ishr hx hb dX6_feed_55 ?_
      refine lv_sipush (v := 255) hx hb dX6_feed_56 (by decide) ?_
      refine lv_iand hx hb dX6_feed_59 ?_
      obtain ⟨g6, hF⟩ := gu_some hF
      refine r_iast (k := (v 0 6).toNatClampNeg) M hS hP rfl rfl (in_c g6) rfl dX6_feed_60 (fun H locs hP hS => ?_)
      have hP : Wd G (pu v 5 ((v 0 6).toNatClampNeg) ((x1 >>> ((8 * x3) &&& 31)) &&& 255)) H := hP
      refine lv_aload_n hx hb dX6_feed_61 rfl (lv_at hl 0 rfl) ?_
      refine lv_dup hx hb dX6_feed_62 rfl ?_
      refine fg_6_250 M hP dX6_feed_63 ?_
      refine lv_iconst (v := 1) hx hb dX6_feed_66 (by decide) ?_
      refine lv_iadd hx hb dX6_feed_67 ?_
      refine fp_6_250 M hS hP dX6_feed_68 (fun H locs hP hS => ?_)
      have hP : Wd G (pu (pu v 5 ((v 0 6).toNatClampNeg) ((x1 >>> ((8 * x3) &&& 31)) &&& 255)) 0 6 (((pu v 5 ((v 0 6).toNatClampNeg) ((x1 >>> ((8 * x3) &&& 31)) &&& 255)) 0 6) + 1)) H := hP
      refine lv_iinc (v := (x3 + (-1))) (lv' := [(3, .int (x3 + (-1))), (0, .ref (ad G 0)), (1, .int x1), (2, .int x2)]) hx hb dX6_feed_71 hl (k := 3) rfl (iinc_eq _ (by decide)) (by decide) rfl (fun ls hl => ?_)
      refine lv_goto (tgt := 38) hx hb dX6_feed_74 (by decide) ?_
      exact ih x1 x2 (x3 + (-1)) _ _ _ ls hF hP hS (lv_sub hl [1, 2, 3, 0] rfl)
set_option maxHeartbeats 4000000 in
set_option maxRecDepth 100000 in
theorem c_X6_feed (l : Launch) (G : GG) (a1 : Int32) (a2 : Int32) (v : VV) (r : Int32) (v' : VV) (hF : F_X6_feed a1 a2 v = some (r, v')) : Met l yX6_feed (cdW yX6_feed cX6_feed 4 (some .int)) ({ frames := 1, cells := 0, slots := 0, locals := 22 } : Room) (PC G v [.ref (ad G 0), .int a1, .int a2]) (QI G r v') 0 0 (gA G) := by
  refine met_in RX6 (by decide) rfl (Nat.le_of_ble_eq_true rfl) ?_
  intro p e s m below meth c M hP ls hl
  have hx := M.1.1
  have hb := M.1.2.1
  have hS : va_S (gA G) s.heap s.heap [] := va_S.rf
  have hl : lv_has ls 4 [(0, .ref (ad G 0)), (1, .int a1), (2, .int a2)] := hl
  unfold F_X6_feed at hF
  refine lv_iload_n hx hb dX6_feed_0 rfl (lv_at hl 2 rfl) ?_
  refine lv_iconst (v := 1) hx hb dX6_feed_1 (by decide) ?_
  refine lv_iconst (v := 4) hx hb dX6_feed_2 (by decide) ?_
  obtain ⟨r2, h1, hF⟩ := bi_some hF
  refine k_i hS (kS_run M hS hP ok_X6_70 (c_X6_within l G a2 1 4 v r2 h1) rfl hl.1 rfl (Nat.le_of_ble_eq_true rfl) ⟨rfl, rfl⟩ ⟨Nat.le_of_ble_eq_true rfl, Nat.le_of_ble_eq_true rfl⟩ dX6_feed_3) (fun H locs hP hS => ?_)
  refine lv_if_ne (tgt := 16) hx hb dX6_feed_6 (by decide) (fun c3 => ?_) (fun c3 => ?_)
  · replace hF := (if_pos (bI_t c3)).symm.trans hF
    refine lv_aload_n hx hb dX6_feed_16 rfl (lv_at hl 0 rfl) ?_
    refine fg_6_250 M hP dX6_feed_17 ?_
    refine lv_iload_n hx hb dX6_feed_20 rfl (lv_at hl 2 rfl) ?_
    refine lv_iadd hx hb dX6_feed_21 ?_
    refine lv_bipush (v := 120) hx hb dX6_feed_22 (by decide) ?_
    refine lv_icmp_le (tgt := 34) hx hb dX6_feed_24 (by decide) (fun c4 => ?_) (fun c4 => ?_)
    · replace hF := (if_pos c4).symm.trans hF
      refine lv_iload_n hx hb dX6_feed_34 rfl (lv_at hl 2 rfl) ?_
      refine lv_iconst (v := 1) hx hb dX6_feed_35 (by decide) ?_
      refine lv_isub hx hb dX6_feed_36 ?_
      refine lv_istore_n (lv' := [(3, .int (a2 - 1)), (0, .ref (ad G 0)), (1, .int a1), (2, .int a2)]) hx hb dX6_feed_37 rfl hl (by decide) rfl (fun ls hl => ?_)
      exact l_X6_feed_38 M _ _ fu a1 a2 (a2 - 1) _ _ _ ls hF hP hS (lv_sub hl [1, 2, 3, 0] rfl)
    · replace hF := (if_neg c4).symm.trans hF
      refine lv_aload_n hx hb dX6_feed_27 rfl (lv_at hl 0 rfl) ?_
      refine lv_ldc (own := RX6) (v := (-1000002)) hx hb M.1.2.2.2.1 (M.1.2.2.2.2 (Cond.constant RX6 97 (-1000002)) w_807) dX6_feed_28 ?_
      obtain ⟨⟨r8, v9⟩, h7, hF⟩ := bi_some hF
      dsimp only at hF
      refine k_i hS (kV_run M hS hP ok_X6_66 (c_X6_finding l G (-1000002) v r8 v9 h7) (rc_6 M hP rfl) rfl hl.1 rfl (Nat.le_of_ble_eq_true rfl) ⟨rfl, rfl⟩ ⟨Nat.le_of_ble_eq_true rfl, Nat.le_of_ble_eq_true rfl⟩ dX6_feed_30) (fun H locs hP hS => ?_)
      exact ret_i M hS hP (Option.some.inj hF) dX6_feed_33
  · replace hF := (if_neg (bI_f c3)).symm.trans hF
    refine lv_aload_n hx hb dX6_feed_9 rfl (lv_at hl 0 rfl) ?_
    refine lv_ldc (own := RX6) (v := (-1000001)) hx hb M.1.2.2.2.1 (M.1.2.2.2.2 (Cond.constant RX6 60 (-1000001)) w_788) dX6_feed_10 ?_
    obtain ⟨⟨r12, v13⟩, h11, hF⟩ := bi_some hF
    dsimp only at hF
    refine k_i hS (kV_run M hS hP ok_X6_66 (c_X6_finding l G (-1000001) v r12 v13 h11) (rc_6 M hP rfl) rfl hl.1 rfl (Nat.le_of_ble_eq_true rfl) ⟨rfl, rfl⟩ ⟨Nat.le_of_ble_eq_true rfl, Nat.le_of_ble_eq_true rfl⟩ dX6_feed_12) (fun H locs hP hS => ?_)
    exact ret_i M hS hP (Option.some.inj hF) dX6_feed_15
def F_X6_wipe (v : VV) : Option (Int32 × VV) :=
  some (v 0 6, pu v 0 6 0)
set_option maxHeartbeats 4000000 in
set_option maxRecDepth 100000 in
theorem c_X6_wipe (l : Launch) (G : GG) (v : VV) (r : Int32) (v' : VV) (hF : F_X6_wipe v = some (r, v')) : Met l yX6_wipe (cdW yX6_wipe cX6_wipe 2 (some .int)) ({ frames := 0, cells := 0, slots := 0, locals := 0 } : Room) (PC G v [.ref (ad G 0)]) (QI G r v') 0 0 (gA G) := by
  refine met_in RX6 (by decide) rfl (Nat.le_of_ble_eq_true rfl) ?_
  intro p e s m below meth c M hP ls hl
  have hx := M.1.1
  have hb := M.1.2.1
  have hS : va_S (gA G) s.heap s.heap [] := va_S.rf
  have hl : lv_has ls 2 [(0, .ref (ad G 0))] := hl
  unfold F_X6_wipe at hF
  refine lv_aload_n hx hb dX6_wipe_0 rfl (lv_at hl 0 rfl) ?_
  refine fg_6_250 M hP dX6_wipe_1 ?_
  refine lv_istore_n (lv' := [(1, .int (v 0 6)), (0, .ref (ad G 0))]) hx hb dX6_wipe_4 rfl hl (by decide) rfl (fun ls hl => ?_)
  refine lv_aload_n hx hb dX6_wipe_5 rfl (lv_at hl 1 rfl) ?_
  refine lv_iconst (v := 0) hx hb dX6_wipe_6 (by decide) ?_
  refine fp_6_250 M hS hP dX6_wipe_7 (fun H locs hP hS => ?_)
  have hP : Wd G (pu v 0 6 0) H := hP
  refine lv_iload_n hx hb dX6_wipe_10 rfl (lv_at hl 0 rfl) ?_
  exact ret_i M hS hP (Option.some.inj hF) dX6_wipe_11
def F_X6_byteAt (a1 : Int32) (v : VV) : Option Int32 :=
  if (v 0 6) ≤ a1 then (some (-1)) else (gu (gI a1 120) (some (v 5 ((a1).toNatClampNeg))))
set_option maxHeartbeats 4000000 in
set_option maxRecDepth 100000 in
theorem c_X6_byteAt (l : Launch) (G : GG) (a1 : Int32) (v : VV) (r : Int32) (hF : F_X6_byteAt a1 v = some r) : Met l yX6_byteAt (cdW yX6_byteAt cX6_byteAt 2 (some .int)) ({ frames := 0, cells := 0, slots := 0, locals := 0 } : Room) (PC G v [.ref (ad G 0), .int a1]) (QI G r v) 0 0 (gA G) := by
  refine met_in RX6 (by decide) rfl (Nat.le_of_ble_eq_true rfl) ?_
  intro p e s m below meth c M hP ls hl
  have hx := M.1.1
  have hb := M.1.2.1
  have hS : va_S (gA G) s.heap s.heap [] := va_S.rf
  have hl : lv_has ls 2 [(0, .ref (ad G 0)), (1, .int a1)] := hl
  unfold F_X6_byteAt at hF
  refine lv_iload_n hx hb dX6_byteAt_0 rfl (lv_at hl 1 rfl) ?_
  refine lv_aload_n hx hb dX6_byteAt_1 rfl (lv_at hl 0 rfl) ?_
  refine fg_6_250 M hP dX6_byteAt_2 ?_
  refine lv_icmp_ge (tgt := 17) hx hb dX6_byteAt_5 (by decide) (fun c1 => ?_) (fun c1 => ?_)
  · replace hF := (if_pos c1).symm.trans hF
    refine lv_iconst (v := (-1)) hx hb dX6_byteAt_17 (by decide) ?_
    exact ret_i M hS hP (congrArg (fun z => (z, v)) (Option.some.inj hF)) dX6_byteAt_18
  · replace hF := (if_neg c1).symm.trans hF
    refine lv_aload_n hx hb dX6_byteAt_8 rfl (lv_at hl 0 rfl) ?_
    refine fg_6_22 M hP dX6_byteAt_9 ?_
    refine lv_iload_n hx hb dX6_byteAt_12 rfl (lv_at hl 1 rfl) ?_
    obtain ⟨g2, hF⟩ := gu_some hF
    refine r_iald (k := (a1).toNatClampNeg) M hP rfl rfl (in_c g2) rfl dX6_byteAt_13 ?_
    refine lv_goto (tgt := 18) hx hb dX6_byteAt_14 (by decide) ?_
    exact ret_i M hS hP (congrArg (fun z => (z, v)) (Option.some.inj hF)) dX6_byteAt_18
def L_X6_token_131 : Nat → Int32 → VV → Option VV
  | 0, _, _ => none
  | n + 1, x1, v =>
  Option.bind (F_X6_byteAt (v 0 8) v) (fun r14 => Option.bind (F_X6_within r14 48 57 v) (fun r16 => (if r16 = true then (Option.bind (F_X6_byteAt (v 0 8) v) (fun r19 => L_X6_token_131 n x1 (pu (pu v 0 10 (if (((10 * (v 0 10)) + r19) - 48) < 10000 then (((10 * (v 0 10)) + r19) - 48) else 10000 : Int32)) 0 8 (((pu v 0 10 (if (((10 * (v 0 10)) + r19) - 48) < 10000 then (((10 * (v 0 10)) + r19) - 48) else 10000 : Int32)) 0 8) + 1)))) else (some v))))
def L_X6_token_84 : Nat → Int32 → VV → Option VV
  | 0, _, _ => none
  | n + 1, x1, v =>
  Option.bind (F_X6_byteAt (v 0 8) v) (fun r21 => Option.bind (F_X6_within r21 97 122 v) (fun r23 => (if r23 = true then (L_X6_token_84 n x1 (pu v 0 8 ((v 0 8) + 1))) else (some v))))
def L_X6_token_8 : Nat → VV → Option VV
  | 0, _ => none
  | n + 1, v =>
  Option.bind (F_X6_byteAt (v 0 7) v) (fun r2 => (if r2 = 32 then (L_X6_token_8 n (pu v 0 7 ((v 0 7) + 1))) else (Option.bind (F_X6_byteAt (v 0 7) v) (fun r5 => (if 0 ≤ r5 then (Option.bind (F_X6_within r5 97 122 (pu (pu v 0 8 (v 0 7)) 0 10 0)) (fun r8 => (if r8 = true then (L_X6_token_84 fu r5 (pu (pu (pu v 0 8 (v 0 7)) 0 10 0) 0 9 1)) else (Option.bind (F_X6_within r5 48 57 (pu (pu v 0 8 (v 0 7)) 0 10 0)) (fun r11 => (if r11 = true then (L_X6_token_131 fu r5 (pu (pu (pu v 0 8 (v 0 7)) 0 10 0) 0 9 2)) else (some (pu (pu (pu (pu v 0 8 (v 0 7)) 0 10 0) 0 9 3) 0 8 (((pu (pu (pu v 0 8 (v 0 7)) 0 10 0) 0 9 3) 0 8) + 1))))))))) else (some (pu (pu (pu v 0 8 (v 0 7)) 0 10 0) 0 9 0)))))))
def F_X6_token (v : VV) : Option VV :=
  L_X6_token_8 fu (pu v 0 7 (v 0 8))
set_option maxHeartbeats 4000000 in
set_option maxRecDepth 100000 in
theorem l_X6_token_131 {p : Program} {l : Launch} {e : Env} {s : State} {m : MethodId} {args : Array Value} {below : List Frame} {meth : Method} {c : Code} {G : GG} (M : Mx G RX6 cX6_token 2 none p s m args meth c) (v' : VV) : ∀ (n : Nat) (x1 : Int32) (v : VV) (H : Heap) (locs : List Loc) (ls : Array Slot), L_X6_token_131 n x1 v = some v' → Wd G v H → va_S (gA G) s.heap H locs → lv_has ls 2 [(0, .ref (ad G 0)), (1, .int x1)] → W p l e ({ frames := 1, cells := 0, slots := 0, locals := 22 } : Room) s m args below meth c H locs 0 0 (MQ below (QV G v') args s 0 0 (gA G)) (F0 m 131 ls []) := by
  have hx := M.1.1
  have hb := M.1.2.1
  intro n
  induction n with
  | zero =>
    intro x1 v H locs ls hF hP hS hl
    rw [L_X6_token_131] at hF
    cases hF
  | succ n ih =>
    intro x1 v H locs ls hF hP hS hl
    rw [L_X6_token_131] at hF
    refine lv_aload_n hx hb dX6_token_131 rfl (lv_at hl 0 rfl) ?_
    refine lv_aload_n hx hb dX6_token_132 rfl (lv_at hl 0 rfl) ?_
    refine fg_6_254 M hP dX6_token_133 ?_
    obtain ⟨r14, h13, hF⟩ := bi_some hF
    refine k_i hS (kV_run M hS hP ok_X6_260 (c_X6_byteAt l G (v 0 8) v r14 h13) (rc_6 M hP rfl) rfl hl.1 rfl (Nat.le_of_ble_eq_true rfl) ⟨rfl, rfl⟩ ⟨Nat.le_of_ble_eq_true rfl, Nat.le_of_ble_eq_true rfl⟩ dX6_token_136) (fun H locs hP hS => ?_)
    refine lv_bipush (v := 48) hx hb dX6_token_139 (by decide) ?_
    refine lv_bipush (v := 57) hx hb dX6_token_141 (by decide) ?_
    obtain ⟨r16, h15, hF⟩ := bi_some hF
    refine k_i hS (kS_run M hS hP ok_X6_70 (c_X6_within l G r14 48 57 v r16 h15) rfl hl.1 rfl (Nat.le_of_ble_eq_true rfl) ⟨rfl, rfl⟩ ⟨Nat.le_of_ble_eq_true rfl, Nat.le_of_ble_eq_true rfl⟩ dX6_token_143) (fun H locs hP hS => ?_)
    refine lv_if_eq (tgt := 206) hx hb dX6_token_146 (by decide) (fun c17 => ?_) (fun c17 => ?_)
    · replace hF := (if_neg (bI_f c17)).symm.trans hF
      exact ret_v M hS hP (Option.some.inj hF) dX6_token_206
    · replace hF := (if_pos (bI_t c17)).symm.trans hF
      refine lv_aload_n hx hb dX6_token_149 rfl (lv_at hl 0 rfl) ?_
      refine lv_sipush (v := 10000) hx hb dX6_token_150 (by decide) ?_
      refine lv_bipush (v := 10) hx hb dX6_token_153 (by decide) ?_
      refine lv_aload_n hx hb dX6_token_155 rfl (lv_at hl 0 rfl) ?_
      refine fg_6_263 M hP dX6_token_156 ?_
      refine lv_imul hx hb dX6_token_159 ?_
      refine lv_aload_n hx hb dX6_token_160 rfl (lv_at hl 0 rfl) ?_
      refine lv_aload_n hx hb dX6_token_161 rfl (lv_at hl 0 rfl) ?_
      refine fg_6_254 M hP dX6_token_162 ?_
      obtain ⟨r19, h18, hF⟩ := bi_some hF
      refine k_i hS (kV_run M hS hP ok_X6_260 (c_X6_byteAt l G (v 0 8) v r19 h18) (rc_6 M hP rfl) rfl hl.1 rfl (Nat.le_of_ble_eq_true rfl) ⟨rfl, rfl⟩ ⟨Nat.le_of_ble_eq_true rfl, Nat.le_of_ble_eq_true rfl⟩ dX6_token_165) (fun H locs hP hS => ?_)
      refine lv_iadd hx hb dX6_token_168 ?_
      refine lv_bipush (v := 48) hx hb dX6_token_169 (by decide) ?_
      refine lv_isub hx hb dX6_token_171 ?_
      refine mmin_6_162 M hl.1 (Nat.le_of_ble_eq_true rfl) (Nat.le_of_ble_eq_true rfl) dX6_token_172 ?_
      refine fp_6_263 M hS hP dX6_token_175 (fun H locs hP hS => ?_)
      have hP : Wd G (pu v 0 10 (if (((10 * (v 0 10)) + r19) - 48) < 10000 then (((10 * (v 0 10)) + r19) - 48) else 10000 : Int32)) H := hP
      refine lv_aload_n hx hb dX6_token_178 rfl (lv_at hl 0 rfl) ?_
      refine lv_dup hx hb dX6_token_179 rfl ?_
      refine fg_6_254 M hP dX6_token_180 ?_
      refine lv_iconst (v := 1) hx hb dX6_token_183 (by decide) ?_
      refine lv_iadd hx hb dX6_token_184 ?_
      refine fp_6_254 M hS hP dX6_token_185 (fun H locs hP hS => ?_)
      have hP : Wd G (pu (pu v 0 10 (if (((10 * (v 0 10)) + r19) - 48) < 10000 then (((10 * (v 0 10)) + r19) - 48) else 10000 : Int32)) 0 8 (((pu v 0 10 (if (((10 * (v 0 10)) + r19) - 48) < 10000 then (((10 * (v 0 10)) + r19) - 48) else 10000 : Int32)) 0 8) + 1)) H := hP
      refine lv_goto (tgt := 131) hx hb dX6_token_188 (by decide) ?_
      exact ih x1 _ _ _ ls hF hP hS (lv_sub hl [0, 1] rfl)
set_option maxHeartbeats 4000000 in
set_option maxRecDepth 100000 in
theorem l_X6_token_84 {p : Program} {l : Launch} {e : Env} {s : State} {m : MethodId} {args : Array Value} {below : List Frame} {meth : Method} {c : Code} {G : GG} (M : Mx G RX6 cX6_token 2 none p s m args meth c) (v' : VV) : ∀ (n : Nat) (x1 : Int32) (v : VV) (H : Heap) (locs : List Loc) (ls : Array Slot), L_X6_token_84 n x1 v = some v' → Wd G v H → va_S (gA G) s.heap H locs → lv_has ls 2 [(0, .ref (ad G 0)), (1, .int x1)] → W p l e ({ frames := 1, cells := 0, slots := 0, locals := 22 } : Room) s m args below meth c H locs 0 0 (MQ below (QV G v') args s 0 0 (gA G)) (F0 m 84 ls []) := by
  have hx := M.1.1
  have hb := M.1.2.1
  intro n
  induction n with
  | zero =>
    intro x1 v H locs ls hF hP hS hl
    rw [L_X6_token_84] at hF
    cases hF
  | succ n ih =>
    intro x1 v H locs ls hF hP hS hl
    rw [L_X6_token_84] at hF
    refine lv_aload_n hx hb dX6_token_84 rfl (lv_at hl 0 rfl) ?_
    refine lv_aload_n hx hb dX6_token_85 rfl (lv_at hl 0 rfl) ?_
    refine fg_6_254 M hP dX6_token_86 ?_
    obtain ⟨r21, h20, hF⟩ := bi_some hF
    refine k_i hS (kV_run M hS hP ok_X6_260 (c_X6_byteAt l G (v 0 8) v r21 h20) (rc_6 M hP rfl) rfl hl.1 rfl (Nat.le_of_ble_eq_true rfl) ⟨rfl, rfl⟩ ⟨Nat.le_of_ble_eq_true rfl, Nat.le_of_ble_eq_true rfl⟩ dX6_token_89) (fun H locs hP hS => ?_)
    refine lv_bipush (v := 97) hx hb dX6_token_92 (by decide) ?_
    refine lv_bipush (v := 122) hx hb dX6_token_94 (by decide) ?_
    obtain ⟨r23, h22, hF⟩ := bi_some hF
    refine k_i hS (kS_run M hS hP ok_X6_70 (c_X6_within l G r21 97 122 v r23 h22) rfl hl.1 rfl (Nat.le_of_ble_eq_true rfl) ⟨rfl, rfl⟩ ⟨Nat.le_of_ble_eq_true rfl, Nat.le_of_ble_eq_true rfl⟩ dX6_token_96) (fun H locs hP hS => ?_)
    refine lv_if_eq (tgt := 206) hx hb dX6_token_99 (by decide) (fun c24 => ?_) (fun c24 => ?_)
    · replace hF := (if_neg (bI_f c24)).symm.trans hF
      exact ret_v M hS hP (Option.some.inj hF) dX6_token_206
    · replace hF := (if_pos (bI_t c24)).symm.trans hF
      refine lv_aload_n hx hb dX6_token_102 rfl (lv_at hl 0 rfl) ?_
      refine lv_dup hx hb dX6_token_103 rfl ?_
      refine fg_6_254 M hP dX6_token_104 ?_
      refine lv_iconst (v := 1) hx hb dX6_token_107 (by decide) ?_
      refine lv_iadd hx hb dX6_token_108 ?_
      refine fp_6_254 M hS hP dX6_token_109 (fun H locs hP hS => ?_)
      have hP : Wd G (pu v 0 8 ((v 0 8) + 1)) H := hP
      refine lv_goto (tgt := 84) hx hb dX6_token_112 (by decide) ?_
      exact ih x1 _ _ _ ls hF hP hS (lv_sub hl [0, 1] rfl)
set_option maxHeartbeats 4000000 in
set_option maxRecDepth 100000 in
theorem l_X6_token_8 {p : Program} {l : Launch} {e : Env} {s : State} {m : MethodId} {args : Array Value} {below : List Frame} {meth : Method} {c : Code} {G : GG} (M : Mx G RX6 cX6_token 2 none p s m args meth c) (v' : VV) : ∀ (n : Nat) (v : VV) (H : Heap) (locs : List Loc) (ls : Array Slot), L_X6_token_8 n v = some v' → Wd G v H → va_S (gA G) s.heap H locs → lv_has ls 2 [(0, .ref (ad G 0))] → W p l e ({ frames := 1, cells := 0, slots := 0, locals := 22 } : Room) s m args below meth c H locs 0 0 (MQ below (QV G v') args s 0 0 (gA G)) (F0 m 8 ls []) := by
  have hx := M.1.1
  have hb := M.1.2.1
  intro n
  induction n with
  | zero =>
    intro v H locs ls hF hP hS hl
    rw [L_X6_token_8] at hF
    cases hF
  | succ n ih =>
    intro v H locs ls hF hP hS hl
    rw [L_X6_token_8] at hF
    refine lv_aload_n hx hb dX6_token_8 rfl (lv_at hl 0 rfl) ?_
    refine lv_aload_n hx hb dX6_token_9 rfl (lv_at hl 0 rfl) ?_
    refine fg_6_257 M hP dX6_token_10 ?_
    obtain ⟨r2, h1, hF⟩ := bi_some hF
    refine k_i hS (kV_run M hS hP ok_X6_260 (c_X6_byteAt l G (v 0 7) v r2 h1) (rc_6 M hP rfl) rfl hl.1 rfl (Nat.le_of_ble_eq_true rfl) ⟨rfl, rfl⟩ ⟨Nat.le_of_ble_eq_true rfl, Nat.le_of_ble_eq_true rfl⟩ dX6_token_13) (fun H locs hP hS => ?_)
    refine lv_bipush (v := 32) hx hb dX6_token_16 (by decide) ?_
    refine lv_icmp_ne (tgt := 34) hx hb dX6_token_18 (by decide) (fun c3 => ?_) (fun c3 => ?_)
    · replace hF := (if_neg c3).symm.trans hF
      refine lv_aload_n hx hb dX6_token_34 rfl (lv_at hl 0 rfl) ?_
      refine lv_aload_n hx hb dX6_token_35 rfl (lv_at hl 0 rfl) ?_
      refine fg_6_257 M hP dX6_token_36 ?_
      obtain ⟨r5, h4, hF⟩ := bi_some hF
      refine k_i hS (kV_run M hS hP ok_X6_260 (c_X6_byteAt l G (v 0 7) v r5 h4) (rc_6 M hP rfl) rfl hl.1 rfl (Nat.le_of_ble_eq_true rfl) ⟨rfl, rfl⟩ ⟨Nat.le_of_ble_eq_true rfl, Nat.le_of_ble_eq_true rfl⟩ dX6_token_39) (fun H locs hP hS => ?_)
      refine lv_istore_n (lv' := [(1, .int r5), (0, .ref (ad G 0))]) hx hb dX6_token_42 rfl hl (by decide) rfl (fun ls hl => ?_)
      refine lv_aload_n hx hb dX6_token_43 rfl (lv_at hl 1 rfl) ?_
      refine lv_aload_n hx hb dX6_token_44 rfl (lv_at hl 1 rfl) ?_
      refine fg_6_257 M hP dX6_token_45 ?_
      refine fp_6_254 M hS hP dX6_token_48 (fun H locs hP hS => ?_)
      have hP : Wd G (pu v 0 8 (v 0 7)) H := hP
      refine lv_aload_n hx hb dX6_token_51 rfl (lv_at hl 1 rfl) ?_
      refine lv_iconst (v := 0) hx hb dX6_token_52 (by decide) ?_
      refine fp_6_263 M hS hP dX6_token_53 (fun H locs hP hS => ?_)
      have hP : Wd G (pu (pu v 0 8 (v 0 7)) 0 10 0) H := hP
      refine lv_iload_n hx hb dX6_token_56 rfl (lv_at hl 0 rfl) ?_
      refine lv_if_ge (tgt := 68) hx hb dX6_token_57 (by decide) (fun c6 => ?_) (fun c6 => ?_)
      · replace hF := (if_pos c6).symm.trans hF
        refine lv_iload_n hx hb dX6_token_68 rfl (lv_at hl 0 rfl) ?_
        refine lv_bipush (v := 97) hx hb dX6_token_69 (by decide) ?_
        refine lv_bipush (v := 122) hx hb dX6_token_71 (by decide) ?_
        obtain ⟨r8, h7, hF⟩ := bi_some hF
        refine k_i hS (kS_run M hS hP ok_X6_70 (c_X6_within l G r5 97 122 (pu (pu v 0 8 (v 0 7)) 0 10 0) r8 h7) rfl hl.1 rfl (Nat.le_of_ble_eq_true rfl) ⟨rfl, rfl⟩ ⟨Nat.le_of_ble_eq_true rfl, Nat.le_of_ble_eq_true rfl⟩ dX6_token_73) (fun H locs hP hS => ?_)
        refine lv_if_eq (tgt := 115) hx hb dX6_token_76 (by decide) (fun c9 => ?_) (fun c9 => ?_)
        · replace hF := (if_neg (bI_f c9)).symm.trans hF
          refine lv_iload_n hx hb dX6_token_115 rfl (lv_at hl 0 rfl) ?_
          refine lv_bipush (v := 48) hx hb dX6_token_116 (by decide) ?_
          refine lv_bipush (v := 57) hx hb dX6_token_118 (by decide) ?_
          obtain ⟨r11, h10, hF⟩ := bi_some hF
          refine k_i hS (kS_run M hS hP ok_X6_70 (c_X6_within l G r5 48 57 (pu (pu v 0 8 (v 0 7)) 0 10 0) r11 h10) rfl hl.1 rfl (Nat.le_of_ble_eq_true rfl) ⟨rfl, rfl⟩ ⟨Nat.le_of_ble_eq_true rfl, Nat.le_of_ble_eq_true rfl⟩ dX6_token_120) (fun H locs hP hS => ?_)
          refine lv_if_eq (tgt := 191) hx hb dX6_token_123 (by decide) (fun c12 => ?_) (fun c12 => ?_)
          · replace hF := (if_neg (bI_f c12)).symm.trans hF
            refine lv_aload_n hx hb dX6_token_191 rfl (lv_at hl 1 rfl) ?_
            refine lv_iconst (v := 3) hx hb dX6_token_192 (by decide) ?_
            refine fp_6_266 M hS hP dX6_token_193 (fun H locs hP hS => ?_)
            have hP : Wd G (pu (pu (pu v 0 8 (v 0 7)) 0 10 0) 0 9 3) H := hP
            refine lv_aload_n hx hb dX6_token_196 rfl (lv_at hl 1 rfl) ?_
            refine lv_dup hx hb dX6_token_197 rfl ?_
            refine fg_6_254 M hP dX6_token_198 ?_
            refine lv_iconst (v := 1) hx hb dX6_token_201 (by decide) ?_
            refine lv_iadd hx hb dX6_token_202 ?_
            refine fp_6_254 M hS hP dX6_token_203 (fun H locs hP hS => ?_)
            have hP : Wd G (pu (pu (pu (pu v 0 8 (v 0 7)) 0 10 0) 0 9 3) 0 8 (((pu (pu (pu v 0 8 (v 0 7)) 0 10 0) 0 9 3) 0 8) + 1)) H := hP
            exact ret_v M hS hP (Option.some.inj hF) dX6_token_206
          · replace hF := (if_pos (bI_t c12)).symm.trans hF
            refine lv_aload_n hx hb dX6_token_126 rfl (lv_at hl 1 rfl) ?_
            refine lv_iconst (v := 2) hx hb dX6_token_127 (by decide) ?_
            refine fp_6_266 M hS hP dX6_token_128 (fun H locs hP hS => ?_)
            have hP : Wd G (pu (pu (pu v 0 8 (v 0 7)) 0 10 0) 0 9 2) H := hP
            exact l_X6_token_131 M _ fu r5 _ _ _ ls hF hP hS (lv_sub hl [1, 0] rfl)
        · replace hF := (if_pos (bI_t c9)).symm.trans hF
          refine lv_aload_n hx hb dX6_token_79 rfl (lv_at hl 1 rfl) ?_
          refine lv_iconst (v := 1) hx hb dX6_token_80 (by decide) ?_
          refine fp_6_266 M hS hP dX6_token_81 (fun H locs hP hS => ?_)
          have hP : Wd G (pu (pu (pu v 0 8 (v 0 7)) 0 10 0) 0 9 1) H := hP
          exact l_X6_token_84 M _ fu r5 _ _ _ ls hF hP hS (lv_sub hl [1, 0] rfl)
      · replace hF := (if_neg c6).symm.trans hF
        refine lv_aload_n hx hb dX6_token_60 rfl (lv_at hl 1 rfl) ?_
        refine lv_iconst (v := 0) hx hb dX6_token_61 (by decide) ?_
        refine fp_6_266 M hS hP dX6_token_62 (fun H locs hP hS => ?_)
        have hP : Wd G (pu (pu (pu v 0 8 (v 0 7)) 0 10 0) 0 9 0) H := hP
        refine lv_goto (tgt := 206) hx hb dX6_token_65 (by decide) ?_
        exact ret_v M hS hP (Option.some.inj hF) dX6_token_206
    · replace hF := (if_pos c3).symm.trans hF
      refine lv_aload_n hx hb dX6_token_21 rfl (lv_at hl 0 rfl) ?_
      refine lv_dup hx hb dX6_token_22 rfl ?_
      refine fg_6_257 M hP dX6_token_23 ?_
      refine lv_iconst (v := 1) hx hb dX6_token_26 (by decide) ?_
      refine lv_iadd hx hb dX6_token_27 ?_
      refine fp_6_257 M hS hP dX6_token_28 (fun H locs hP hS => ?_)
      have hP : Wd G (pu v 0 7 ((v 0 7) + 1)) H := hP
      refine lv_goto (tgt := 8) hx hb dX6_token_31 (by decide) ?_
      exact ih _ _ _ ls hF hP hS (lv_sub hl [0] rfl)
set_option maxHeartbeats 4000000 in
set_option maxRecDepth 100000 in
theorem c_X6_token (l : Launch) (G : GG) (v : VV) (v' : VV) (hF : F_X6_token v = some v') : Met l yX6_token (cdW yX6_token cX6_token 2 none) ({ frames := 1, cells := 0, slots := 0, locals := 22 } : Room) (PC G v [.ref (ad G 0)]) (QV G v') 0 0 (gA G) := by
  refine met_in RX6 (by decide) rfl (Nat.le_of_ble_eq_true rfl) ?_
  intro p e s m below meth c M hP ls hl
  have hx := M.1.1
  have hb := M.1.2.1
  have hS : va_S (gA G) s.heap s.heap [] := va_S.rf
  have hl : lv_has ls 2 [(0, .ref (ad G 0))] := hl
  unfold F_X6_token at hF
  refine lv_aload_n hx hb dX6_token_0 rfl (lv_at hl 0 rfl) ?_
  refine lv_aload_n hx hb dX6_token_1 rfl (lv_at hl 0 rfl) ?_
  refine fg_6_254 M hP dX6_token_2 ?_
  refine fp_6_257 M hS hP dX6_token_5 (fun H locs hP hS => ?_)
  have hP : Wd G (pu v 0 7 (v 0 8)) H := hP
  exact l_X6_token_8 M _ fu _ _ _ ls hF hP hS (lv_sub hl [0] rfl)
def L_X6_isWord_32 : Nat → Nat → Int32 → Int32 → VV → Option Bool
  | 0, _, _, _, _ => none
  | n + 1, x1, x2, x3, v =>
  Option.bind (F_J0_length_8abf5 x1 v) (fun r3 => (if r3 ≤ x3 then (gu (gB x2) (some (x2 == 1))) else (if x2 = 0 then (gu (gB x2) (some (x2 == 1))) else (gu (gI ((v 0 7) + x3) 120) (Option.bind (F_J0_charAt_5068e x1 x3 v) (fun r10 => (if (v 5 (((v 0 7) + x3).toNatClampNeg)) = r10 then (L_X6_isWord_32 n x1 1 (x3 + 1) v) else (L_X6_isWord_32 n x1 0 (x3 + 1) v))))))))
def F_X6_isWord (a1 : Nat) (v : VV) : Option Bool :=
  if (v 0 9) = 1 then (Option.bind (F_J0_length_8abf5 a1 v) (fun r13 => (if ((v 0 8) - (v 0 7)) = r13 then (L_X6_isWord_32 fu a1 1 0 v) else (L_X6_isWord_32 fu a1 0 0 v)))) else (L_X6_isWord_32 fu a1 0 0 v)
set_option maxHeartbeats 4000000 in
set_option maxRecDepth 100000 in
theorem l_X6_isWord_32 {p : Program} {l : Launch} {e : Env} {s : State} {m : MethodId} {args : Array Value} {below : List Frame} {meth : Method} {c : Code} {G : GG} (M : Mx G RX6 cX6_isWord 4 (some .boolean) p s m args meth c) (r : Bool) (v : VV) : ∀ (n : Nat) (x1 : Nat) (x2 : Int32) (x3 : Int32) (hx1 : x1 < 15) (H : Heap) (locs : List Loc) (ls : Array Slot), L_X6_isWord_32 n x1 x2 x3 v = some r → Wd G v H → va_S (gA G) s.heap H locs → lv_has ls 4 [(0, .ref (ad G 0)), (1, .ref (sk G x1)), (2, .int x2), (3, .int x3)] → W p l e ({ frames := 4, cells := 0, slots := 0, locals := 87 } : Room) s m args below meth c H locs 0 0 (MQ below (QI G (bI r) v) args s 0 0 (gA G)) (F0 m 32 ls []) := by
  have hx := M.1.1
  have hb := M.1.2.1
  intro n
  induction n with
  | zero =>
    intro x1 x2 x3 hx1 H locs ls hF hP hS hl
    rw [L_X6_isWord_32] at hF
    cases hF
  | succ n ih =>
    intro x1 x2 x3 hx1 H locs ls hF hP hS hl
    rw [L_X6_isWord_32] at hF
    refine lv_iload_n hx hb dX6_isWord_32 rfl (lv_at hl 3 rfl) ?_
    refine lv_aload_n hx hb dX6_isWord_33 rfl (lv_at hl 1 rfl) ?_
    obtain ⟨r3, h2, hF⟩ := bi_some hF
    refine k_i hS (kV_run M hS hP ok_X6_269 (c_J0_length_8abf5 l G x1 hx1 v r3 h2) (rc_S M hS hx1) rfl hl.1 rfl (Nat.le_of_ble_eq_true rfl) ⟨rfl, rfl⟩ ⟨Nat.le_of_ble_eq_true rfl, Nat.le_of_ble_eq_true rfl⟩ dX6_isWord_34) (fun H locs hP hS => ?_)
    refine lv_icmp_ge (tgt := 75) hx hb dX6_isWord_37 (by decide) (fun c4 => ?_) (fun c4 => ?_)
    · replace hF := (if_pos c4).symm.trans hF
      refine lv_iload_n hx hb dX6_isWord_75 rfl (lv_at hl 2 rfl) ?_
      obtain ⟨g5, hF⟩ := gu_some hF
      exact ret_z M hS hP ((congrArg (fun z => (z, v)) (gB_eq g5).symm).trans (congrArg (fun z : Bool => (bI z, v)) (Option.some.inj hF))) (gB_nar g5) dX6_isWord_76
    · replace hF := (if_neg c4).symm.trans hF
      refine lv_iload_n hx hb dX6_isWord_40 rfl (lv_at hl 2 rfl) ?_
      refine lv_if_eq (tgt := 75) hx hb dX6_isWord_41 (by decide) (fun c6 => ?_) (fun c6 => ?_)
      · replace hF := (if_pos c6).symm.trans hF
        refine lv_iload_n hx hb dX6_isWord_75 rfl (lv_at hl 2 rfl) ?_
        obtain ⟨g7, hF⟩ := gu_some hF
        exact ret_z M hS hP ((congrArg (fun z => (z, v)) (gB_eq g7).symm).trans (congrArg (fun z : Bool => (bI z, v)) (Option.some.inj hF))) (gB_nar g7) dX6_isWord_76
      · replace hF := (if_neg c6).symm.trans hF
        refine lv_aload_n hx hb dX6_isWord_44 rfl (lv_at hl 0 rfl) ?_
        refine fg_6_22 M hP dX6_isWord_45 ?_
        refine lv_aload_n hx hb dX6_isWord_48 rfl (lv_at hl 0 rfl) ?_
        refine fg_6_257 M hP dX6_isWord_49 ?_
        refine lv_iload_n hx hb dX6_isWord_52 rfl (lv_at hl 3 rfl) ?_
        refine lv_iadd hx hb dX6_isWord_53 ?_
        obtain ⟨g8, hF⟩ := gu_some hF
        refine r_iald (k := ((v 0 7) + x3).toNatClampNeg) M hP rfl rfl (in_c g8) rfl dX6_isWord_54 ?_
        refine lv_aload_n hx hb dX6_isWord_55 rfl (lv_at hl 1 rfl) ?_
        refine lv_iload_n hx hb dX6_isWord_56 rfl (lv_at hl 3 rfl) ?_
        obtain ⟨r10, h9, hF⟩ := bi_some hF
        refine k_i hS (kV_run M hS hP ok_X6_272 (c_J0_charAt_5068e l G x1 hx1 x3 v r10 h9) (rc_S M hS hx1) rfl hl.1 rfl (Nat.le_of_ble_eq_true rfl) ⟨rfl, rfl⟩ ⟨Nat.le_of_ble_eq_true rfl, Nat.le_of_ble_eq_true rfl⟩ dX6_isWord_57) (fun H locs hP hS => ?_)
        refine lv_icmp_ne (tgt := 67) hx hb dX6_isWord_60 (by decide) (fun c11 => ?_) (fun c11 => ?_)
        · replace hF := (if_neg c11).symm.trans hF
          refine lv_iconst (v := 0) hx hb dX6_isWord_67 (by decide) ?_
          refine lv_istore_n (lv' := [(2, .int 0), (0, .ref (ad G 0)), (1, .ref (sk G x1)), (3, .int x3)]) hx hb dX6_isWord_68 rfl hl (by decide) rfl (fun ls hl => ?_)
          refine lv_iinc (v := (x3 + 1)) (lv' := [(3, .int (x3 + 1)), (2, .int 0), (0, .ref (ad G 0)), (1, .ref (sk G x1))]) hx hb dX6_isWord_69 hl (k := 3) rfl (iinc_eq _ (by decide)) (by decide) rfl (fun ls hl => ?_)
          refine lv_goto (tgt := 32) hx hb dX6_isWord_72 (by decide) ?_
          exact ih x1 0 (x3 + 1) hx1 _ _ ls hF hP hS (lv_sub hl [2, 3, 1, 0] rfl)
        · replace hF := (if_pos c11).symm.trans hF
          refine lv_iconst (v := 1) hx hb dX6_isWord_63 (by decide) ?_
          refine lv_goto (tgt := 68) hx hb dX6_isWord_64 (by decide) ?_
          refine lv_istore_n (lv' := [(2, .int 1), (0, .ref (ad G 0)), (1, .ref (sk G x1)), (3, .int x3)]) hx hb dX6_isWord_68 rfl hl (by decide) rfl (fun ls hl => ?_)
          refine lv_iinc (v := (x3 + 1)) (lv' := [(3, .int (x3 + 1)), (2, .int 1), (0, .ref (ad G 0)), (1, .ref (sk G x1))]) hx hb dX6_isWord_69 hl (k := 3) rfl (iinc_eq _ (by decide)) (by decide) rfl (fun ls hl => ?_)
          refine lv_goto (tgt := 32) hx hb dX6_isWord_72 (by decide) ?_
          exact ih x1 1 (x3 + 1) hx1 _ _ ls hF hP hS (lv_sub hl [2, 3, 1, 0] rfl)
set_option maxHeartbeats 4000000 in
set_option maxRecDepth 100000 in
theorem c_X6_isWord (l : Launch) (G : GG) (a1 : Nat) (ha1 : a1 < 15) (v : VV) (r : Bool) (hF : F_X6_isWord a1 v = some r) : Met l yX6_isWord (cdW yX6_isWord cX6_isWord 4 (some .boolean)) ({ frames := 4, cells := 0, slots := 0, locals := 87 } : Room) (PC G v [.ref (ad G 0), .ref (sk G a1)]) (QI G (bI r) v) 0 0 (gA G) := by
  refine met_in RX6 (by decide) rfl (Nat.le_of_ble_eq_true rfl) ?_
  intro p e s m below meth c M hP ls hl
  have hx := M.1.1
  have hb := M.1.2.1
  have hS : va_S (gA G) s.heap s.heap [] := va_S.rf
  have hl : lv_has ls 4 [(0, .ref (ad G 0)), (1, .ref (sk G a1))] := hl
  unfold F_X6_isWord at hF
  refine lv_aload_n hx hb dX6_isWord_0 rfl (lv_at hl 0 rfl) ?_
  refine fg_6_266 M hP dX6_isWord_1 ?_
  refine lv_iconst (v := 1) hx hb dX6_isWord_4 (by decide) ?_
  refine lv_icmp_ne (tgt := 28) hx hb dX6_isWord_5 (by decide) (fun c1 => ?_) (fun c1 => ?_)
  · replace hF := (if_neg c1).symm.trans hF
    refine lv_iconst (v := 0) hx hb dX6_isWord_28 (by decide) ?_
    refine lv_istore_n (lv' := [(2, .int 0), (0, .ref (ad G 0)), (1, .ref (sk G a1))]) hx hb dX6_isWord_29 rfl hl (by decide) rfl (fun ls hl => ?_)
    refine lv_iconst (v := 0) hx hb dX6_isWord_30 (by decide) ?_
    refine lv_istore_n (lv' := [(3, .int 0), (2, .int 0), (0, .ref (ad G 0)), (1, .ref (sk G a1))]) hx hb dX6_isWord_31 rfl hl (by decide) rfl (fun ls hl => ?_)
    exact l_X6_isWord_32 M _ _ fu a1 0 0 ha1 _ _ ls hF hP hS (lv_sub hl [2, 3, 1, 0] rfl)
  · replace hF := (if_pos c1).symm.trans hF
    refine lv_aload_n hx hb dX6_isWord_8 rfl (lv_at hl 0 rfl) ?_
    refine fg_6_254 M hP dX6_isWord_9 ?_
    refine lv_aload_n hx hb dX6_isWord_12 rfl (lv_at hl 0 rfl) ?_
    refine fg_6_257 M hP dX6_isWord_13 ?_
    refine lv_isub hx hb dX6_isWord_16 ?_
    refine lv_aload_n hx hb dX6_isWord_17 rfl (lv_at hl 1 rfl) ?_
    obtain ⟨r13, h12, hF⟩ := bi_some hF
    refine k_i hS (kV_run M hS hP ok_X6_269 (c_J0_length_8abf5 l G a1 ha1 v r13 h12) (rc_S M hS ha1) rfl hl.1 rfl (Nat.le_of_ble_eq_true rfl) ⟨rfl, rfl⟩ ⟨Nat.le_of_ble_eq_true rfl, Nat.le_of_ble_eq_true rfl⟩ dX6_isWord_18) (fun H locs hP hS => ?_)
    refine lv_icmp_ne (tgt := 28) hx hb dX6_isWord_21 (by decide) (fun c14 => ?_) (fun c14 => ?_)
    · replace hF := (if_neg c14).symm.trans hF
      refine lv_iconst (v := 0) hx hb dX6_isWord_28 (by decide) ?_
      refine lv_istore_n (lv' := [(2, .int 0), (0, .ref (ad G 0)), (1, .ref (sk G a1))]) hx hb dX6_isWord_29 rfl hl (by decide) rfl (fun ls hl => ?_)
      refine lv_iconst (v := 0) hx hb dX6_isWord_30 (by decide) ?_
      refine lv_istore_n (lv' := [(3, .int 0), (2, .int 0), (0, .ref (ad G 0)), (1, .ref (sk G a1))]) hx hb dX6_isWord_31 rfl hl (by decide) rfl (fun ls hl => ?_)
      exact l_X6_isWord_32 M _ _ fu a1 0 0 ha1 _ _ ls hF hP hS (lv_sub hl [2, 3, 1, 0] rfl)
    · replace hF := (if_pos c14).symm.trans hF
      refine lv_iconst (v := 1) hx hb dX6_isWord_24 (by decide) ?_
      refine lv_goto (tgt := 29) hx hb dX6_isWord_25 (by decide) ?_
      refine lv_istore_n (lv' := [(2, .int 1), (0, .ref (ad G 0)), (1, .ref (sk G a1))]) hx hb dX6_isWord_29 rfl hl (by decide) rfl (fun ls hl => ?_)
      refine lv_iconst (v := 0) hx hb dX6_isWord_30 (by decide) ?_
      refine lv_istore_n (lv' := [(3, .int 0), (2, .int 1), (0, .ref (ad G 0)), (1, .ref (sk G a1))]) hx hb dX6_isWord_31 rfl hl (by decide) rfl (fun ls hl => ?_)
      exact l_X6_isWord_32 M _ _ fu a1 1 0 ha1 _ _ ls hF hP hS (lv_sub hl [2, 3, 1, 0] rfl)
def F_X6_must (a1 : Int32) (v : VV) : Option VV :=
  if (v 0 11) = 0 then (if a1 = 0 then (if ((pu v 0 11 1) 0 11) = 0 then (Option.bind (F_X6_token (pu v 0 11 1)) (fun v14 => some v14)) else (some (pu v 0 11 1))) else (if ((pu v 0 11 0) 0 11) = 0 then (Option.bind (F_X6_token (pu v 0 11 0)) (fun v10 => some v10)) else (some (pu v 0 11 0)))) else (if ((pu v 0 11 1) 0 11) = 0 then (Option.bind (F_X6_token (pu v 0 11 1)) (fun v5 => some v5)) else (some (pu v 0 11 1)))
set_option maxHeartbeats 4000000 in
set_option maxRecDepth 100000 in
theorem c_X6_must (l : Launch) (G : GG) (a1 : Int32) (v : VV) (v' : VV) (hF : F_X6_must a1 v = some v') : Met l yX6_must (cdW yX6_must cX6_must 2 none) ({ frames := 2, cells := 0, slots := 0, locals := 43 } : Room) (PC G v [.ref (ad G 0), .int a1]) (QV G v') 0 0 (gA G) := by
  refine met_in RX6 (by decide) rfl (Nat.le_of_ble_eq_true rfl) ?_
  intro p e s m below meth c M hP ls hl
  have hx := M.1.1
  have hb := M.1.2.1
  have hS : va_S (gA G) s.heap s.heap [] := va_S.rf
  have hl : lv_has ls 2 [(0, .ref (ad G 0)), (1, .int a1)] := hl
  unfold F_X6_must at hF
  refine lv_aload_n hx hb dX6_must_0 rfl (lv_at hl 0 rfl) ?_
  refine lv_aload_n hx hb dX6_must_1 rfl (lv_at hl 0 rfl) ?_
  refine fg_6_276 M hP dX6_must_2 ?_
  refine lv_if_ne (tgt := 12) hx hb dX6_must_5 (by decide) (fun c1 => ?_) (fun c1 => ?_)
  · replace hF := (if_neg c1).symm.trans hF
    refine lv_iconst (v := 1) hx hb dX6_must_12 (by decide) ?_
    refine lv_goto (tgt := 17) hx hb dX6_must_13 (by decide) ?_
    refine fp_6_276 M hS hP rfl rfl dX6_must_17 (fun H locs hP hS => ?_)
    have hP : Wd G (pu v 0 11 1) H := hP
    refine lv_aload_n hx hb dX6_must_20 rfl (lv_at hl 0 rfl) ?_
    refine fg_6_276 M hP dX6_must_21 ?_
    refine lv_if_ne (tgt := 31) hx hb dX6_must_24 (by decide) (fun c2 => ?_) (fun c2 => ?_)
    · replace hF := (if_neg c2).symm.trans hF
      exact ret_v M hS hP (Option.some.inj hF) dX6_must_31
    · replace hF := (if_pos c2).symm.trans hF
      refine lv_aload_n hx hb dX6_must_27 rfl (lv_at hl 0 rfl) ?_
      obtain ⟨v5, h3, hF⟩ := bi_some hF
      refine k_v hS (kV_run M hS hP ok_X6_280 (c_X6_token l G (pu v 0 11 1) v5 h3) (rc_6 M hP rfl) rfl hl.1 rfl (Nat.le_of_ble_eq_true rfl) ⟨rfl, rfl⟩ ⟨Nat.le_of_ble_eq_true rfl, Nat.le_of_ble_eq_true rfl⟩ dX6_must_28) (fun H locs hP hS => ?_)
      exact ret_v M hS hP (Option.some.inj hF) dX6_must_31
  · replace hF := (if_pos c1).symm.trans hF
    refine lv_iload_n hx hb dX6_must_8 rfl (lv_at hl 1 rfl) ?_
    refine lv_if_ne (tgt := 16) hx hb dX6_must_9 (by decide) (fun c6 => ?_) (fun c6 => ?_)
    · replace hF := (if_neg c6).symm.trans hF
      refine lv_iconst (v := 0) hx hb dX6_must_16 (by decide) ?_
      refine fp_6_276 M hS hP rfl rfl dX6_must_17 (fun H locs hP hS => ?_)
      have hP : Wd G (pu v 0 11 0) H := hP
      refine lv_aload_n hx hb dX6_must_20 rfl (lv_at hl 0 rfl) ?_
      refine fg_6_276 M hP dX6_must_21 ?_
      refine lv_if_ne (tgt := 31) hx hb dX6_must_24 (by decide) (fun c7 => ?_) (fun c7 => ?_)
      · replace hF := (if_neg c7).symm.trans hF
        exact ret_v M hS hP (Option.some.inj hF) dX6_must_31
      · replace hF := (if_pos c7).symm.trans hF
        refine lv_aload_n hx hb dX6_must_27 rfl (lv_at hl 0 rfl) ?_
        obtain ⟨v10, h8, hF⟩ := bi_some hF
        refine k_v hS (kV_run M hS hP ok_X6_280 (c_X6_token l G (pu v 0 11 0) v10 h8) (rc_6 M hP rfl) rfl hl.1 rfl (Nat.le_of_ble_eq_true rfl) ⟨rfl, rfl⟩ ⟨Nat.le_of_ble_eq_true rfl, Nat.le_of_ble_eq_true rfl⟩ dX6_must_28) (fun H locs hP hS => ?_)
        exact ret_v M hS hP (Option.some.inj hF) dX6_must_31
    · replace hF := (if_pos c6).symm.trans hF
      refine lv_iconst (v := 1) hx hb dX6_must_12 (by decide) ?_
      refine lv_goto (tgt := 17) hx hb dX6_must_13 (by decide) ?_
      refine fp_6_276 M hS hP rfl rfl dX6_must_17 (fun H locs hP hS => ?_)
      have hP : Wd G (pu v 0 11 1) H := hP
      refine lv_aload_n hx hb dX6_must_20 rfl (lv_at hl 0 rfl) ?_
      refine fg_6_276 M hP dX6_must_21 ?_
      refine lv_if_ne (tgt := 31) hx hb dX6_must_24 (by decide) (fun c11 => ?_) (fun c11 => ?_)
      · replace hF := (if_neg c11).symm.trans hF
        exact ret_v M hS hP (Option.some.inj hF) dX6_must_31
      · replace hF := (if_pos c11).symm.trans hF
        refine lv_aload_n hx hb dX6_must_27 rfl (lv_at hl 0 rfl) ?_
        obtain ⟨v14, h12, hF⟩ := bi_some hF
        refine k_v hS (kV_run M hS hP ok_X6_280 (c_X6_token l G (pu v 0 11 1) v14 h12) (rc_6 M hP rfl) rfl hl.1 rfl (Nat.le_of_ble_eq_true rfl) ⟨rfl, rfl⟩ ⟨Nat.le_of_ble_eq_true rfl, Nat.le_of_ble_eq_true rfl⟩ dX6_must_28) (fun H locs hP hS => ?_)
        exact ret_v M hS hP (Option.some.inj hF) dX6_must_31
def F_X6_number (a1 : Int32) (a2 : Int32) (v : VV) : Option (Int32 × VV) :=
  if (v 0 9) = 2 then (Option.bind (F_X6_within (v 0 10) a1 a2 v) (fun r6 => (if r6 = true then (Option.bind (F_X6_must 1 v) (fun v13 => some (v 0 10, v13))) else (Option.bind (F_X6_must 0 v) (fun v10 => some (v 0 10, v10)))))) else (Option.bind (F_X6_must 0 v) (fun v4 => some (v 0 10, v4)))
set_option maxHeartbeats 4000000 in
set_option maxRecDepth 100000 in
theorem c_X6_number (l : Launch) (G : GG) (a1 : Int32) (a2 : Int32) (v : VV) (r : Int32) (v' : VV) (hF : F_X6_number a1 a2 v = some (r, v')) : Met l yX6_number (cdW yX6_number cX6_number 4 (some .int)) ({ frames := 3, cells := 0, slots := 0, locals := 64 } : Room) (PC G v [.ref (ad G 0), .int a1, .int a2]) (QI G r v') 0 0 (gA G) := by
  refine met_in RX6 (by decide) rfl (Nat.le_of_ble_eq_true rfl) ?_
  intro p e s m below meth c M hP ls hl
  have hx := M.1.1
  have hb := M.1.2.1
  have hS : va_S (gA G) s.heap s.heap [] := va_S.rf
  have hl : lv_has ls 4 [(0, .ref (ad G 0)), (1, .int a1), (2, .int a2)] := hl
  unfold F_X6_number at hF
  refine lv_aload_n hx hb dX6_number_0 rfl (lv_at hl 0 rfl) ?_
  refine fg_6_263 M hP dX6_number_1 ?_
  refine lv_istore_n (lv' := [(3, .int (v 0 10)), (0, .ref (ad G 0)), (1, .int a1), (2, .int a2)]) hx hb dX6_number_4 rfl hl (by decide) rfl (fun ls hl => ?_)
  refine lv_aload_n hx hb dX6_number_5 rfl (lv_at hl 1 rfl) ?_
  refine lv_aload_n hx hb dX6_number_6 rfl (lv_at hl 1 rfl) ?_
  refine fg_6_266 M hP dX6_number_7 ?_
  refine lv_iconst (v := 2) hx hb dX6_number_10 (by decide) ?_
  refine lv_icmp_ne (tgt := 27) hx hb dX6_number_11 (by decide) (fun c1 => ?_) (fun c1 => ?_)
  · replace hF := (if_neg c1).symm.trans hF
    refine lv_iconst (v := 0) hx hb dX6_number_27 (by decide) ?_
    obtain ⟨v4, h2, hF⟩ := bi_some hF
    refine k_v hS (kV_run M hS hP ok_X6_283 (c_X6_must l G 0 v v4 h2) (rc_6 M hP rfl) rfl hl.1 rfl (Nat.le_of_ble_eq_true rfl) ⟨rfl, rfl⟩ ⟨Nat.le_of_ble_eq_true rfl, Nat.le_of_ble_eq_true rfl⟩ dX6_number_28) (fun H locs hP hS => ?_)
    refine lv_iload_n hx hb dX6_number_31 rfl (lv_at hl 0 rfl) ?_
    exact ret_i M hS hP (Option.some.inj hF) dX6_number_32
  · replace hF := (if_pos c1).symm.trans hF
    refine lv_iload_n hx hb dX6_number_14 rfl (lv_at hl 0 rfl) ?_
    refine lv_iload_n hx hb dX6_number_15 rfl (lv_at hl 2 rfl) ?_
    refine lv_iload_n hx hb dX6_number_16 rfl (lv_at hl 3 rfl) ?_
    obtain ⟨r6, h5, hF⟩ := bi_some hF
    refine k_i hS (kS_run M hS hP ok_X6_70 (c_X6_within l G (v 0 10) a1 a2 v r6 h5) rfl hl.1 rfl (Nat.le_of_ble_eq_true rfl) ⟨rfl, rfl⟩ ⟨Nat.le_of_ble_eq_true rfl, Nat.le_of_ble_eq_true rfl⟩ dX6_number_17) (fun H locs hP hS => ?_)
    refine lv_if_eq (tgt := 27) hx hb dX6_number_20 (by decide) (fun c7 => ?_) (fun c7 => ?_)
    · replace hF := (if_neg (bI_f c7)).symm.trans hF
      refine lv_iconst (v := 0) hx hb dX6_number_27 (by decide) ?_
      obtain ⟨v10, h8, hF⟩ := bi_some hF
      refine k_v hS (kV_run M hS hP ok_X6_283 (c_X6_must l G 0 v v10 h8) (rc_6 M hP rfl) rfl hl.1 rfl (Nat.le_of_ble_eq_true rfl) ⟨rfl, rfl⟩ ⟨Nat.le_of_ble_eq_true rfl, Nat.le_of_ble_eq_true rfl⟩ dX6_number_28) (fun H locs hP hS => ?_)
      refine lv_iload_n hx hb dX6_number_31 rfl (lv_at hl 0 rfl) ?_
      exact ret_i M hS hP (Option.some.inj hF) dX6_number_32
    · replace hF := (if_pos (bI_t c7)).symm.trans hF
      refine lv_iconst (v := 1) hx hb dX6_number_23 (by decide) ?_
      refine lv_goto (tgt := 28) hx hb dX6_number_24 (by decide) ?_
      obtain ⟨v13, h11, hF⟩ := bi_some hF
      refine k_v hS (kV_run M hS hP ok_X6_283 (c_X6_must l G 1 v v13 h11) (rc_6 M hP rfl) rfl hl.1 rfl (Nat.le_of_ble_eq_true rfl) ⟨rfl, rfl⟩ ⟨Nat.le_of_ble_eq_true rfl, Nat.le_of_ble_eq_true rfl⟩ dX6_number_28) (fun H locs hP hS => ?_)
      refine lv_iload_n hx hb dX6_number_31 rfl (lv_at hl 0 rfl) ?_
      exact ret_i M hS hP (Option.some.inj hF) dX6_number_32
def F_X6_addItem (a1 : Int32) (a2 : Int32) (a3 : Int32) (a4 : Int32) (a5 : Int32) (v : VV) : Option VV :=
  gu (gI (5 * (v 0 14)) 600) (gu (gI ((5 * (v 0 14)) + 1) 600) (gu (gI ((5 * (v 0 14)) + 2) 600) (gu (gI ((5 * (v 0 14)) + 3) 600) (gu (gI ((5 * (v 0 14)) + 4) 600) (some (pu (pu (pu (pu (pu (pu v 6 ((5 * (v 0 14)).toNatClampNeg) a1) 6 (((5 * (v 0 14)) + 1).toNatClampNeg) a2) 6 (((5 * (v 0 14)) + 2).toNatClampNeg) a3) 6 (((5 * (v 0 14)) + 3).toNatClampNeg) a4) 6 (((5 * (v 0 14)) + 4).toNatClampNeg) a5) 0 14 (((pu (pu (pu (pu (pu v 6 ((5 * (v 0 14)).toNatClampNeg) a1) 6 (((5 * (v 0 14)) + 1).toNatClampNeg) a2) 6 (((5 * (v 0 14)) + 2).toNatClampNeg) a3) 6 (((5 * (v 0 14)) + 3).toNatClampNeg) a4) 6 (((5 * (v 0 14)) + 4).toNatClampNeg) a5) 0 14) + 1)))))))
set_option maxHeartbeats 4000000 in
set_option maxRecDepth 100000 in
theorem c_X6_addItem (l : Launch) (G : GG) (a1 : Int32) (a2 : Int32) (a3 : Int32) (a4 : Int32) (a5 : Int32) (v : VV) (v' : VV) (hF : F_X6_addItem a1 a2 a3 a4 a5 v = some v') : Met l yX6_addItem (cdW yX6_addItem cX6_addItem 7 none) ({ frames := 0, cells := 0, slots := 0, locals := 0 } : Room) (PC G v [.ref (ad G 0), .int a1, .int a2, .int a3, .int a4, .int a5]) (QV G v') 0 0 (gA G) := by
  refine met_in RX6 (by decide) rfl (Nat.le_of_ble_eq_true rfl) ?_
  intro p e s m below meth c M hP ls hl
  have hx := M.1.1
  have hb := M.1.2.1
  have hS : va_S (gA G) s.heap s.heap [] := va_S.rf
  have hl : lv_has ls 7 [(0, .ref (ad G 0)), (1, .int a1), (2, .int a2), (3, .int a3), (4, .int a4), (5, .int a5)] := hl
  unfold F_X6_addItem at hF
  refine lv_iconst (v := 5) hx hb dX6_addItem_0 (by decide) ?_
  refine lv_aload_n hx hb dX6_addItem_1 rfl (lv_at hl 0 rfl) ?_
  refine fg_6_287 M hP dX6_addItem_2 ?_
  refine lv_imul hx hb dX6_addItem_5 ?_
  refine lv_istore (lv' := [(6, .int (5 * (v 0 14))), (0, .ref (ad G 0)), (1, .int a1), (2, .int a2), (3, .int a3), (4, .int a4), (5, .int a5)]) hx hb dX6_addItem_6 hl (by decide) rfl (fun ls hl => ?_)
  refine lv_aload_n hx hb dX6_addItem_8 rfl (lv_at hl 1 rfl) ?_
  refine fg_6_45 M hP dX6_addItem_9 ?_
  refine lv_iload hx hb dX6_addItem_12 (lv_at hl 0 rfl) ?_
  refine lv_iload_n hx hb dX6_addItem_14 rfl (lv_at hl 2 rfl) ?_
  obtain ⟨g1, hF⟩ := gu_some hF
  refine r_iast (k := (5 * (v 0 14)).toNatClampNeg) M hS hP rfl rfl (in_c g1) rfl dX6_addItem_15 (fun H locs hP hS => ?_)
  have hP : Wd G (pu v 6 ((5 * (v 0 14)).toNatClampNeg) a1) H := hP
  refine lv_aload_n hx hb dX6_addItem_16 rfl (lv_at hl 1 rfl) ?_
  refine fg_6_45 M hP dX6_addItem_17 ?_
  refine lv_iload hx hb dX6_addItem_20 (lv_at hl 0 rfl) ?_
  refine lv_iconst (v := 1) hx hb dX6_addItem_22 (by decide) ?_
  refine lv_iadd hx hb dX6_addItem_23 ?_
  refine lv_iload_n hx hb dX6_addItem_24 rfl (lv_at hl 3 rfl) ?_
  obtain ⟨g2, hF⟩ := gu_some hF
  refine r_iast (k := ((5 * (v 0 14)) + 1).toNatClampNeg) M hS hP rfl rfl (in_c g2) rfl dX6_addItem_25 (fun H locs hP hS => ?_)
  have hP : Wd G (pu (pu v 6 ((5 * (v 0 14)).toNatClampNeg) a1) 6 (((5 * (v 0 14)) + 1).toNatClampNeg) a2) H := hP
  refine lv_aload_n hx hb dX6_addItem_26 rfl (lv_at hl 1 rfl) ?_
  refine fg_6_45 M hP dX6_addItem_27 ?_
  refine lv_iload hx hb dX6_addItem_30 (lv_at hl 0 rfl) ?_
  refine lv_iconst (v := 2) hx hb dX6_addItem_32 (by decide) ?_
  refine lv_iadd hx hb dX6_addItem_33 ?_
  refine lv_iload_n hx hb dX6_addItem_34 rfl (lv_at hl 4 rfl) ?_
  obtain ⟨g3, hF⟩ := gu_some hF
  refine r_iast (k := ((5 * (v 0 14)) + 2).toNatClampNeg) M hS hP rfl rfl (in_c g3) rfl dX6_addItem_35 (fun H locs hP hS => ?_)
  have hP : Wd G (pu (pu (pu v 6 ((5 * (v 0 14)).toNatClampNeg) a1) 6 (((5 * (v 0 14)) + 1).toNatClampNeg) a2) 6 (((5 * (v 0 14)) + 2).toNatClampNeg) a3) H := hP
  refine lv_aload_n hx hb dX6_addItem_36 rfl (lv_at hl 1 rfl) ?_
  refine fg_6_45 M hP dX6_addItem_37 ?_
  refine lv_iload hx hb dX6_addItem_40 (lv_at hl 0 rfl) ?_
  refine lv_iconst (v := 3) hx hb dX6_addItem_42 (by decide) ?_
  refine lv_iadd hx hb dX6_addItem_43 ?_
  refine lv_iload hx hb dX6_addItem_44 (lv_at hl 5 rfl) ?_
  obtain ⟨g4, hF⟩ := gu_some hF
  refine r_iast (k := ((5 * (v 0 14)) + 3).toNatClampNeg) M hS hP rfl rfl (in_c g4) rfl dX6_addItem_46 (fun H locs hP hS => ?_)
  have hP : Wd G (pu (pu (pu (pu v 6 ((5 * (v 0 14)).toNatClampNeg) a1) 6 (((5 * (v 0 14)) + 1).toNatClampNeg) a2) 6 (((5 * (v 0 14)) + 2).toNatClampNeg) a3) 6 (((5 * (v 0 14)) + 3).toNatClampNeg) a4) H := hP
  refine lv_aload_n hx hb dX6_addItem_47 rfl (lv_at hl 1 rfl) ?_
  refine fg_6_45 M hP dX6_addItem_48 ?_
  refine lv_iload hx hb dX6_addItem_51 (lv_at hl 0 rfl) ?_
  refine lv_iconst (v := 4) hx hb dX6_addItem_53 (by decide) ?_
  refine lv_iadd hx hb dX6_addItem_54 ?_
  refine lv_iload hx hb dX6_addItem_55 (lv_at hl 6 rfl) ?_
  obtain ⟨g5, hF⟩ := gu_some hF
  refine r_iast (k := ((5 * (v 0 14)) + 4).toNatClampNeg) M hS hP rfl rfl (in_c g5) rfl dX6_addItem_57 (fun H locs hP hS => ?_)
  have hP : Wd G (pu (pu (pu (pu (pu v 6 ((5 * (v 0 14)).toNatClampNeg) a1) 6 (((5 * (v 0 14)) + 1).toNatClampNeg) a2) 6 (((5 * (v 0 14)) + 2).toNatClampNeg) a3) 6 (((5 * (v 0 14)) + 3).toNatClampNeg) a4) 6 (((5 * (v 0 14)) + 4).toNatClampNeg) a5) H := hP
  refine lv_aload_n hx hb dX6_addItem_58 rfl (lv_at hl 1 rfl) ?_
  refine lv_dup hx hb dX6_addItem_59 rfl ?_
  refine fg_6_287 M hP dX6_addItem_60 ?_
  refine lv_iconst (v := 1) hx hb dX6_addItem_63 (by decide) ?_
  refine lv_iadd hx hb dX6_addItem_64 ?_
  refine fp_6_287 M hS hP dX6_addItem_65 (fun H locs hP hS => ?_)
  have hP : Wd G (pu (pu (pu (pu (pu (pu v 6 ((5 * (v 0 14)).toNatClampNeg) a1) 6 (((5 * (v 0 14)) + 1).toNatClampNeg) a2) 6 (((5 * (v 0 14)) + 2).toNatClampNeg) a3) 6 (((5 * (v 0 14)) + 3).toNatClampNeg) a4) 6 (((5 * (v 0 14)) + 4).toNatClampNeg) a5) 0 14 (((pu (pu (pu (pu (pu v 6 ((5 * (v 0 14)).toNatClampNeg) a1) 6 (((5 * (v 0 14)) + 1).toNatClampNeg) a2) 6 (((5 * (v 0 14)) + 2).toNatClampNeg) a3) 6 (((5 * (v 0 14)) + 3).toNatClampNeg) a4) 6 (((5 * (v 0 14)) + 4).toNatClampNeg) a5) 0 14) + 1)) H := hP
  exact ret_v M hS hP (Option.some.inj hF) dX6_addItem_68
def F_X6_takesWord (a1 : Nat) (v : VV) : Option (Bool × VV) :=
  if (v 0 11) = 0 then (Option.bind (F_X6_isWord a1 v) (fun r4 => (if r4 = true then (Option.bind (F_X6_must 1 v) (fun v10 => some (true, v10))) else (some (false, v))))) else (some (false, v))
set_option maxHeartbeats 4000000 in
set_option maxRecDepth 100000 in
theorem c_X6_takesWord (l : Launch) (G : GG) (a1 : Nat) (ha1 : a1 < 15) (v : VV) (r : Bool) (v' : VV) (hF : F_X6_takesWord a1 v = some (r, v')) : Met l yX6_takesWord (cdW yX6_takesWord cX6_takesWord 3 (some .boolean)) ({ frames := 5, cells := 0, slots := 0, locals := 110 } : Room) (PC G v [.ref (ad G 0), .ref (sk G a1)]) (QI G (bI r) v') 0 0 (gA G) := by
  refine met_in RX6 (by decide) rfl (Nat.le_of_ble_eq_true rfl) ?_
  intro p e s m below meth c M hP ls hl
  have hx := M.1.1
  have hb := M.1.2.1
  have hS : va_S (gA G) s.heap s.heap [] := va_S.rf
  have hl : lv_has ls 3 [(0, .ref (ad G 0)), (1, .ref (sk G a1))] := hl
  unfold F_X6_takesWord at hF
  refine lv_aload_n hx hb dX6_takesWord_0 rfl (lv_at hl 0 rfl) ?_
  refine fg_6_276 M hP dX6_takesWord_1 ?_
  refine lv_if_ne (tgt := 19) hx hb dX6_takesWord_4 (by decide) (fun c1 => ?_) (fun c1 => ?_)
  · replace hF := (if_neg c1).symm.trans hF
    refine lv_iconst (v := 0) hx hb dX6_takesWord_19 (by decide) ?_
    refine lv_istore_n (lv' := [(2, .int 0), (0, .ref (ad G 0)), (1, .ref (sk G a1))]) hx hb dX6_takesWord_20 rfl hl (by decide) rfl (fun ls hl => ?_)
    refine lv_iload_n hx hb dX6_takesWord_21 rfl (lv_at hl 0 rfl) ?_
    refine lv_if_eq (tgt := 30) hx hb dX6_takesWord_22 (by decide) (fun c2 => ?_) (fun c2 => ?_)
    · refine lv_iload_n hx hb dX6_takesWord_30 rfl (lv_at hl 0 rfl) ?_
      exact ret_z M hS hP (congrArg (fun z : Bool × VV => (bI z.1, z.2)) (Option.some.inj hF)) rfl dX6_takesWord_31
    · exact absurd c2 (by decide)
  · replace hF := (if_pos c1).symm.trans hF
    refine lv_aload_n hx hb dX6_takesWord_7 rfl (lv_at hl 0 rfl) ?_
    refine lv_aload_n hx hb dX6_takesWord_8 rfl (lv_at hl 1 rfl) ?_
    obtain ⟨r4, h3, hF⟩ := bi_some hF
    refine k_i hS (kV_run M hS hP ok_X6_290 (c_X6_isWord l G a1 ha1 v r4 h3) (rc_6 M hP rfl) rfl hl.1 rfl (Nat.le_of_ble_eq_true rfl) ⟨rfl, rfl⟩ ⟨Nat.le_of_ble_eq_true rfl, Nat.le_of_ble_eq_true rfl⟩ dX6_takesWord_9) (fun H locs hP hS => ?_)
    refine lv_if_eq (tgt := 19) hx hb dX6_takesWord_12 (by decide) (fun c5 => ?_) (fun c5 => ?_)
    · replace hF := (if_neg (bI_f c5)).symm.trans hF
      refine lv_iconst (v := 0) hx hb dX6_takesWord_19 (by decide) ?_
      refine lv_istore_n (lv' := [(2, .int 0), (0, .ref (ad G 0)), (1, .ref (sk G a1))]) hx hb dX6_takesWord_20 rfl hl (by decide) rfl (fun ls hl => ?_)
      refine lv_iload_n hx hb dX6_takesWord_21 rfl (lv_at hl 0 rfl) ?_
      refine lv_if_eq (tgt := 30) hx hb dX6_takesWord_22 (by decide) (fun c6 => ?_) (fun c6 => ?_)
      · refine lv_iload_n hx hb dX6_takesWord_30 rfl (lv_at hl 0 rfl) ?_
        exact ret_z M hS hP (congrArg (fun z : Bool × VV => (bI z.1, z.2)) (Option.some.inj hF)) rfl dX6_takesWord_31
      · exact absurd c6 (by decide)
    · replace hF := (if_pos (bI_t c5)).symm.trans hF
      refine lv_iconst (v := 1) hx hb dX6_takesWord_15 (by decide) ?_
      refine lv_goto (tgt := 20) hx hb dX6_takesWord_16 (by decide) ?_
      refine lv_istore_n (lv' := [(2, .int 1), (0, .ref (ad G 0)), (1, .ref (sk G a1))]) hx hb dX6_takesWord_20 rfl hl (by decide) rfl (fun ls hl => ?_)
      refine lv_iload_n hx hb dX6_takesWord_21 rfl (lv_at hl 0 rfl) ?_
      refine lv_if_eq (tgt := 30) hx hb dX6_takesWord_22 (by decide) (fun c7 => ?_) (fun c7 => ?_)
      · exact absurd c7 (by decide)
      · refine lv_aload_n hx hb dX6_takesWord_25 rfl (lv_at hl 1 rfl) ?_
        refine lv_iconst (v := 1) hx hb dX6_takesWord_26 (by decide) ?_
        obtain ⟨v10, h8, hF⟩ := bi_some hF
        refine k_v hS (kV_run M hS hP ok_X6_283 (c_X6_must l G 1 v v10 h8) (rc_6 M hP rfl) rfl hl.1 rfl (Nat.le_of_ble_eq_true rfl) ⟨rfl, rfl⟩ ⟨Nat.le_of_ble_eq_true rfl, Nat.le_of_ble_eq_true rfl⟩ dX6_takesWord_27) (fun H locs hP hS => ?_)
        refine lv_iload_n hx hb dX6_takesWord_30 rfl (lv_at hl 0 rfl) ?_
        exact ret_z M hS hP (congrArg (fun z : Bool × VV => (bI z.1, z.2)) (Option.some.inj hF)) rfl dX6_takesWord_31
