theorem ok_X5_172 : okS RX5 172 yX5_greatestShared cX5_greatestShared 3 (some .int) 2 := okS_of w_481 w_482 w_1 w_483 (by decide +kernel)
theorem ok_X5_175 : okS RX5 175 yX5_power cX5_power 5 (some .long) 2 := okS_of w_484 w_485 w_1 w_486 (by decide +kernel)
theorem ok_X5_185 : okV RX5 185 RX4 yX4_append cX4_append 4 none 2 := okV_of w_495 w_496 w_497 w_6 w_498 (by decide +kernel)
theorem ok_X5_189 : okV RX5 189 RX4 yX4_readOnto cX4_readOnto 3 (some .int) 1 := okV_of w_507 w_508 w_509 w_6 w_510 (by decide +kernel)
theorem ok_X5_196 : okV RX5 196 RX2 yX2_isOf cX2_isOf 4 (some .boolean) 1 := okV_of w_628 w_629 w_630 w_4 w_631 (by decide +kernel)
theorem ok_X5_202 : okV RX5 202 RX3 yX3_begin cX3_begin 3 none 2 := okV_of w_638 w_639 w_640 w_7 w_641 (by decide +kernel)
theorem ok_X5_206 : okV RX5 206 RX3 yX3_put cX3_put 3 none 2 := okV_of w_647 w_648 w_649 w_7 w_650 (by decide +kernel)
theorem ok_X5_215 : okV RX5 215 RX3 yX3_hasRun cX3_hasRun 3 (some .boolean) 2 := okV_of w_655 w_656 w_657 w_7 w_658 (by decide +kernel)
theorem ok_X5_227 : okV RX5 227 RX1 yX1_spotsThatHold cX1_spotsThatHold 3 (some .int) 0 := okV_of w_684 w_685 w_686 w_2 w_687 (by decide +kernel)
def L_X5_odds_47 : Nat → Int32 → Int32 → Int32 → Int32 → Int32 → Int32 → VV → Option (Int64 × VV)
  | 0, _, _, _, _, _, _, _ => none
  | n + 1, x1, x2, x3, x4, x5, x6, v =>
  if 9 < x6 then (Option.bind (F_X5_greatestShared x5 10 v) (fun r27 => (if x4 = 0 then (gu (gZ r27) (Option.bind (F_X5_power (x5 / r27) x3 v) (fun r34 => some (r34, v)))) else (gu (gZ r27) (Option.bind (F_X5_power (10 / r27) x3 v) (fun r31 => some (r31, v))))))) else (Option.bind (F_X1_isHeard 25 x2 x1 x6 v) (fun r36 => (if r36 = true then (L_X5_odds_47 n x1 x2 x3 x4 (x5 + 1) (x6 + 1) v) else (L_X5_odds_47 n x1 x2 x3 x4 x5 (x6 + 1) v))))
def F_X5_odds (a1 : Int32) (a2 : Int32) (a3 : Int32) (a4 : Int32) (v : VV) : Option (Int64 × VV) :=
  Option.bind (F_X5_isChild a1 v) (fun r2 => (if r2 = true then (Option.bind (F_X5_isKeeper a2 v) (fun r9 => (if r9 = true then (Option.bind (F_X5_isUpTo a3 17 v) (fun r16 => (if r16 = true then (Option.bind (F_X5_isUpTo a4 1 v) (fun r23 => (if r23 = true then (L_X5_odds_47 fu a1 a2 a3 a4 0 1 v) else (Option.bind (F_X5_finding 0 v) (fun (r39, v40) => some ((r39 : Int32).toInt64, v40)))))) else (Option.bind (F_X5_finding 0 v) (fun (r19, v20) => some ((r19 : Int32).toInt64, v20)))))) else (Option.bind (F_X5_finding 0 v) (fun (r12, v13) => some ((r12 : Int32).toInt64, v13)))))) else (Option.bind (F_X5_finding 0 v) (fun (r5, v6) => some ((r5 : Int32).toInt64, v6)))))
set_option maxHeartbeats 4000000 in
set_option maxRecDepth 100000 in
theorem l_X5_odds_47 {p : Program} {l : Launch} {e : Env} {s : State} {m : MethodId} {args : Array Value} {below : List Frame} {meth : Method} {c : Code} {G : GG} (M : Mx G RX5 cX5_odds 7 (some .long) p s m args meth c) (r : Int64) (v' : VV) : ∀ (n : Nat) (x1 : Int32) (x2 : Int32) (x3 : Int32) (x4 : Int32) (x5 : Int32) (x6 : Int32) (v : VV) (H : Heap) (locs : List Loc) (ls : Array Slot), L_X5_odds_47 n x1 x2 x3 x4 x5 x6 v = some (r, v') → Wd G v H → va_S (gA G) s.heap H locs → lv_has ls 7 [(0, .ref (ad G 12)), (1, .int x1), (2, .int x2), (3, .int x3), (4, .int x4), (5, .int x5), (6, .int x6)] → W p l e ({ frames := 3, cells := 0, slots := 0, locals := 66 } : Room) s m args below meth c H locs 0 0 (MQ below (QL G r v') args s 0 0 (gA G)) (F0 m 47 ls []) := by
  have hx := M.1.1
  have hb := M.1.2.1
  intro n
  induction n with
  | zero =>
    intro x1 x2 x3 x4 x5 x6 v H locs ls hF hP hS hl
    rw [L_X5_odds_47] at hF
    cases hF
  | succ n ih =>
    intro x1 x2 x3 x4 x5 x6 v H locs ls hF hP hS hl
    rw [L_X5_odds_47] at hF
    refine lv_iload hx hb dX5_odds_47 (lv_at hl 6 rfl) ?_
    refine lv_bipush (v := 9) hx hb dX5_odds_49 (by decide) ?_
    refine lv_icmp_gt (tgt := 77) hx hb dX5_odds_51 (by decide) (fun c25 => ?_) (fun c25 => ?_)
    · replace hF := (if_pos c25).symm.trans hF
      refine lv_iload hx hb dX5_odds_77 (lv_at hl 5 rfl) ?_
      refine lv_bipush (v := 10) hx hb dX5_odds_79 (by decide) ?_
      obtain ⟨r27, h26, hF⟩ := bi_some hF
      refine k_i hS (kS_run M hS hP ok_X5_172 (c_X5_greatestShared l G x5 10 v r27 h26) rfl hl.1 rfl (Nat.le_of_ble_eq_true rfl) ⟨rfl, rfl⟩ ⟨Nat.le_of_ble_eq_true rfl, Nat.le_of_ble_eq_true rfl⟩ dX5_odds_81) (fun H locs hP hS => ?_)
      refine lv_istore (lv' := [(6, .int r27), (0, .ref (ad G 12)), (1, .int x1), (2, .int x2), (3, .int x3), (4, .int x4), (5, .int x5)]) hx hb dX5_odds_84 hl (by decide) rfl (fun ls hl => ?_)
      refine lv_iload hx hb dX5_odds_86 (lv_at hl 5 rfl) ?_
      refine lv_if_ne (tgt := 96) hx hb dX5_odds_88 (by decide) (fun c28 => ?_) (fun c28 => ?_)
      · replace hF := (if_neg c28).symm.trans hF
        refine lv_bipush (v := 10) hx hb dX5_odds_96 (by decide) ?_
        refine lv_iload hx hb dX5_odds_98 (lv_at hl 0 rfl) ?_
        obtain ⟨g29, hF⟩ := gu_some hF
        refine lv_idiv hx hb dX5_odds_100 (gZ_ne g29) ?_
        refine lv_iload_n hx hb dX5_odds_101 rfl (lv_at hl 4 rfl) ?_
        obtain ⟨r31, h30, hF⟩ := bi_some hF
        refine k_l hS (kS_run M hS hP ok_X5_175 (c_X5_power l G (10 / r27) x3 v r31 h30) rfl hl.1 rfl (Nat.le_of_ble_eq_true rfl) ⟨rfl, rfl⟩ ⟨Nat.le_of_ble_eq_true rfl, Nat.le_of_ble_eq_true rfl⟩ dX5_odds_102) (fun H locs hP hS => ?_)
        exact ret_l M hS hP (Option.some.inj hF) dX5_odds_105
      · replace hF := (if_pos c28).symm.trans hF
        refine lv_iload hx hb dX5_odds_91 (lv_at hl 6 rfl) ?_
        refine lv_goto (tgt := 98) hx hb dX5_odds_93 (by decide) ?_
        refine lv_iload hx hb dX5_odds_98 (lv_at hl 0 rfl) ?_
        obtain ⟨g32, hF⟩ := gu_some hF
        refine lv_idiv hx hb dX5_odds_100 (gZ_ne g32) ?_
        refine lv_iload_n hx hb dX5_odds_101 rfl (lv_at hl 4 rfl) ?_
        obtain ⟨r34, h33, hF⟩ := bi_some hF
        refine k_l hS (kS_run M hS hP ok_X5_175 (c_X5_power l G (x5 / r27) x3 v r34 h33) rfl hl.1 rfl (Nat.le_of_ble_eq_true rfl) ⟨rfl, rfl⟩ ⟨Nat.le_of_ble_eq_true rfl, Nat.le_of_ble_eq_true rfl⟩ dX5_odds_102) (fun H locs hP hS => ?_)
        exact ret_l M hS hP (Option.some.inj hF) dX5_odds_105
    · replace hF := (if_neg c25).symm.trans hF
      refine lv_aload_n hx hb dX5_odds_54 rfl (lv_at hl 0 rfl) ?_
      refine fg_5_10 M hP dX5_odds_55 ?_
      refine lv_iload_n hx hb dX5_odds_58 rfl (lv_at hl 2 rfl) ?_
      refine lv_iload_n hx hb dX5_odds_59 rfl (lv_at hl 1 rfl) ?_
      refine lv_iload hx hb dX5_odds_60 (lv_at hl 6 rfl) ?_
      obtain ⟨r36, h35, hF⟩ := bi_some hF
      refine k_i hS (kV_run M hS hP ok_X5_103 (c_X1_isHeard l G 25 rfl x2 x1 x6 v r36 h35) (rc_1 M hP rfl) rfl hl.1 rfl (Nat.le_of_ble_eq_true rfl) ⟨rfl, rfl⟩ ⟨Nat.le_of_ble_eq_true rfl, Nat.le_of_ble_eq_true rfl⟩ dX5_odds_62) (fun H locs hP hS => ?_)
      refine lv_if_eq (tgt := 71) hx hb dX5_odds_65 (by decide) (fun c37 => ?_) (fun c37 => ?_)
      · replace hF := (if_neg (bI_f c37)).symm.trans hF
        refine lv_iinc (v := (x6 + 1)) (lv' := [(6, .int (x6 + 1)), (0, .ref (ad G 12)), (1, .int x1), (2, .int x2), (3, .int x3), (4, .int x4), (5, .int x5)]) hx hb dX5_odds_71 hl (k := 6) rfl (iinc_eq _ (by decide)) (by decide) rfl (fun ls hl => ?_)
        refine lv_goto (tgt := 47) hx hb dX5_odds_74 (by decide) ?_
        exact ih x1 x2 x3 x4 x5 (x6 + 1) _ _ _ ls hF hP hS (lv_sub hl [1, 2, 3, 4, 5, 6, 0] rfl)
      · replace hF := (if_pos (bI_t c37)).symm.trans hF
        refine lv_iinc (v := (x5 + 1)) (lv' := [(5, .int (x5 + 1)), (0, .ref (ad G 12)), (1, .int x1), (2, .int x2), (3, .int x3), (4, .int x4), (6, .int x6)]) hx hb dX5_odds_68 hl (k := 5) rfl (iinc_eq _ (by decide)) (by decide) rfl (fun ls hl => ?_)
        refine lv_iinc (v := (x6 + 1)) (lv' := [(6, .int (x6 + 1)), (5, .int (x5 + 1)), (0, .ref (ad G 12)), (1, .int x1), (2, .int x2), (3, .int x3), (4, .int x4)]) hx hb dX5_odds_71 hl (k := 6) rfl (iinc_eq _ (by decide)) (by decide) rfl (fun ls hl => ?_)
        refine lv_goto (tgt := 47) hx hb dX5_odds_74 (by decide) ?_
        exact ih x1 x2 x3 x4 (x5 + 1) (x6 + 1) _ _ _ ls hF hP hS (lv_sub hl [2, 3, 4, 5, 6, 1, 0] rfl)
set_option maxHeartbeats 4000000 in
set_option maxRecDepth 100000 in
theorem c_X5_odds (l : Launch) (G : GG) (a1 : Int32) (a2 : Int32) (a3 : Int32) (a4 : Int32) (v : VV) (r : Int64) (v' : VV) (hF : F_X5_odds a1 a2 a3 a4 v = some (r, v')) : Met l yX5_odds (cdW yX5_odds cX5_odds 7 (some .long)) ({ frames := 3, cells := 0, slots := 0, locals := 66 } : Room) (PC G v [.ref (ad G 12), .int a1, .int a2, .int a3, .int a4]) (QL G r v') 0 0 (gA G) := by
  refine met_in RX5 (by decide) rfl (Nat.le_of_ble_eq_true rfl) ?_
  intro p e s m below meth c M hP ls hl
  have hx := M.1.1
  have hb := M.1.2.1
  have hS : va_S (gA G) s.heap s.heap [] := va_S.rf
  have hl : lv_has ls 7 [(0, .ref (ad G 12)), (1, .int a1), (2, .int a2), (3, .int a3), (4, .int a4)] := hl
  unfold F_X5_odds at hF
  refine lv_aload_n hx hb dX5_odds_0 rfl (lv_at hl 0 rfl) ?_
  refine lv_iload_n hx hb dX5_odds_1 rfl (lv_at hl 1 rfl) ?_
  obtain ⟨r2, h1, hF⟩ := bi_some hF
  refine k_i hS (kV_run M hS hP ok_X5_88 (c_X5_isChild l G a1 v r2 h1) (rc_5 M hP rfl) rfl hl.1 rfl (Nat.le_of_ble_eq_true rfl) ⟨rfl, rfl⟩ ⟨Nat.le_of_ble_eq_true rfl, Nat.le_of_ble_eq_true rfl⟩ dX5_odds_2) (fun H locs hP hS => ?_)
  refine lv_if_eq (tgt := 34) hx hb dX5_odds_5 (by decide) (fun c3 => ?_) (fun c3 => ?_)
  · replace hF := (if_neg (bI_f c3)).symm.trans hF
    refine lv_aload_n hx hb dX5_odds_34 rfl (lv_at hl 0 rfl) ?_
    refine lv_iconst (v := 0) hx hb dX5_odds_35 (by decide) ?_
    obtain ⟨⟨r5, v6⟩, h4, hF⟩ := bi_some hF
    dsimp only at hF
    refine k_i hS (kV_run M hS hP ok_X5_48 (c_X5_finding l G 0 v r5 v6 h4) (rc_5 M hP rfl) rfl hl.1 rfl (Nat.le_of_ble_eq_true rfl) ⟨rfl, rfl⟩ ⟨Nat.le_of_ble_eq_true rfl, Nat.le_of_ble_eq_true rfl⟩ dX5_odds_36) (fun H locs hP hS => ?_)
    refine lv_i2l hx hb dX5_odds_39 rfl ?_
    exact ret_l M hS hP (Option.some.inj hF) dX5_odds_40
  · replace hF := (if_pos (bI_t c3)).symm.trans hF
    refine lv_aload_n hx hb dX5_odds_8 rfl (lv_at hl 0 rfl) ?_
    refine lv_iload_n hx hb dX5_odds_9 rfl (lv_at hl 2 rfl) ?_
    obtain ⟨r9, h8, hF⟩ := bi_some hF
    refine k_i hS (kV_run M hS hP ok_X5_69 (c_X5_isKeeper l G a2 v r9 h8) (rc_5 M hP rfl) rfl hl.1 rfl (Nat.le_of_ble_eq_true rfl) ⟨rfl, rfl⟩ ⟨Nat.le_of_ble_eq_true rfl, Nat.le_of_ble_eq_true rfl⟩ dX5_odds_10) (fun H locs hP hS => ?_)
    refine lv_if_eq (tgt := 34) hx hb dX5_odds_13 (by decide) (fun c10 => ?_) (fun c10 => ?_)
    · replace hF := (if_neg (bI_f c10)).symm.trans hF
      refine lv_aload_n hx hb dX5_odds_34 rfl (lv_at hl 0 rfl) ?_
      refine lv_iconst (v := 0) hx hb dX5_odds_35 (by decide) ?_
      obtain ⟨⟨r12, v13⟩, h11, hF⟩ := bi_some hF
      dsimp only at hF
      refine k_i hS (kV_run M hS hP ok_X5_48 (c_X5_finding l G 0 v r12 v13 h11) (rc_5 M hP rfl) rfl hl.1 rfl (Nat.le_of_ble_eq_true rfl) ⟨rfl, rfl⟩ ⟨Nat.le_of_ble_eq_true rfl, Nat.le_of_ble_eq_true rfl⟩ dX5_odds_36) (fun H locs hP hS => ?_)
      refine lv_i2l hx hb dX5_odds_39 rfl ?_
      exact ret_l M hS hP (Option.some.inj hF) dX5_odds_40
    · replace hF := (if_pos (bI_t c10)).symm.trans hF
      refine lv_iload_n hx hb dX5_odds_16 rfl (lv_at hl 3 rfl) ?_
      refine lv_bipush (v := 17) hx hb dX5_odds_17 (by decide) ?_
      obtain ⟨r16, h15, hF⟩ := bi_some hF
      refine k_i hS (kS_run M hS hP ok_X5_44 (c_X5_isUpTo l G a3 17 v r16 h15) rfl hl.1 rfl (Nat.le_of_ble_eq_true rfl) ⟨rfl, rfl⟩ ⟨Nat.le_of_ble_eq_true rfl, Nat.le_of_ble_eq_true rfl⟩ dX5_odds_19) (fun H locs hP hS => ?_)
      refine lv_if_eq (tgt := 34) hx hb dX5_odds_22 (by decide) (fun c17 => ?_) (fun c17 => ?_)
      · replace hF := (if_neg (bI_f c17)).symm.trans hF
        refine lv_aload_n hx hb dX5_odds_34 rfl (lv_at hl 0 rfl) ?_
        refine lv_iconst (v := 0) hx hb dX5_odds_35 (by decide) ?_
        obtain ⟨⟨r19, v20⟩, h18, hF⟩ := bi_some hF
        dsimp only at hF
        refine k_i hS (kV_run M hS hP ok_X5_48 (c_X5_finding l G 0 v r19 v20 h18) (rc_5 M hP rfl) rfl hl.1 rfl (Nat.le_of_ble_eq_true rfl) ⟨rfl, rfl⟩ ⟨Nat.le_of_ble_eq_true rfl, Nat.le_of_ble_eq_true rfl⟩ dX5_odds_36) (fun H locs hP hS => ?_)
        refine lv_i2l hx hb dX5_odds_39 rfl ?_
        exact ret_l M hS hP (Option.some.inj hF) dX5_odds_40
      · replace hF := (if_pos (bI_t c17)).symm.trans hF
        refine lv_iload hx hb dX5_odds_25 (lv_at hl 4 rfl) ?_
        refine lv_iconst (v := 1) hx hb dX5_odds_27 (by decide) ?_
        obtain ⟨r23, h22, hF⟩ := bi_some hF
        refine k_i hS (kS_run M hS hP ok_X5_44 (c_X5_isUpTo l G a4 1 v r23 h22) rfl hl.1 rfl (Nat.le_of_ble_eq_true rfl) ⟨rfl, rfl⟩ ⟨Nat.le_of_ble_eq_true rfl, Nat.le_of_ble_eq_true rfl⟩ dX5_odds_28) (fun H locs hP hS => ?_)
        refine lv_if_ne (tgt := 41) hx hb dX5_odds_31 (by decide) (fun c24 => ?_) (fun c24 => ?_)
        · replace hF := (if_pos (bI_t c24)).symm.trans hF
          refine lv_iconst (v := 0) hx hb dX5_odds_41 (by decide) ?_
          refine lv_istore (lv' := [(5, .int 0), (0, .ref (ad G 12)), (1, .int a1), (2, .int a2), (3, .int a3), (4, .int a4)]) hx hb dX5_odds_42 hl (by decide) rfl (fun ls hl => ?_)
          refine lv_iconst (v := 1) hx hb dX5_odds_44 (by decide) ?_
          refine lv_istore (lv' := [(6, .int 1), (5, .int 0), (0, .ref (ad G 12)), (1, .int a1), (2, .int a2), (3, .int a3), (4, .int a4)]) hx hb dX5_odds_45 hl (by decide) rfl (fun ls hl => ?_)
          exact l_X5_odds_47 M _ _ fu a1 a2 a3 a4 0 1 _ _ _ ls hF hP hS (lv_sub hl [2, 3, 4, 5, 6, 1, 0] rfl)
        · replace hF := (if_neg (bI_f c24)).symm.trans hF
          refine lv_aload_n hx hb dX5_odds_34 rfl (lv_at hl 0 rfl) ?_
          refine lv_iconst (v := 0) hx hb dX5_odds_35 (by decide) ?_
          obtain ⟨⟨r39, v40⟩, h38, hF⟩ := bi_some hF
          dsimp only at hF
          refine k_i hS (kV_run M hS hP ok_X5_48 (c_X5_finding l G 0 v r39 v40 h38) (rc_5 M hP rfl) rfl hl.1 rfl (Nat.le_of_ble_eq_true rfl) ⟨rfl, rfl⟩ ⟨Nat.le_of_ble_eq_true rfl, Nat.le_of_ble_eq_true rfl⟩ dX5_odds_36) (fun H locs hP hS => ?_)
          refine lv_i2l hx hb dX5_odds_39 rfl ?_
          exact ret_l M hS hP (Option.some.inj hF) dX5_odds_40
def F_X5_seed (a1 : Int32) (v : VV) : Option (Int32 × VV) :=
  some (v 25 7, pu v 25 7 a1)
set_option maxHeartbeats 4000000 in
set_option maxRecDepth 100000 in
theorem c_X5_seed (l : Launch) (G : GG) (a1 : Int32) (v : VV) (r : Int32) (v' : VV) (hF : F_X5_seed a1 v = some (r, v')) : Met l yX5_seed (cdW yX5_seed cX5_seed 3 (some .int)) ({ frames := 0, cells := 0, slots := 0, locals := 0 } : Room) (PC G v [.ref (ad G 12), .int a1]) (QI G r v') 0 0 (gA G) := by
  refine met_in RX5 (by decide) rfl (Nat.le_of_ble_eq_true rfl) ?_
  intro p e s m below meth c M hP ls hl
  have hx := M.1.1
  have hb := M.1.2.1
  have hS : va_S (gA G) s.heap s.heap [] := va_S.rf
  have hl : lv_has ls 3 [(0, .ref (ad G 12)), (1, .int a1)] := hl
  unfold F_X5_seed at hF
  refine lv_aload_n hx hb dX5_seed_0 rfl (lv_at hl 0 rfl) ?_
  refine fg_5_10 M hP dX5_seed_1 ?_
  refine fg_5_179 M hP rfl dX5_seed_4 ?_
  refine lv_istore_n (lv' := [(2, .int (v 25 7)), (0, .ref (ad G 12)), (1, .int a1)]) hx hb dX5_seed_7 rfl hl (by decide) rfl (fun ls hl => ?_)
  refine lv_aload_n hx hb dX5_seed_8 rfl (lv_at hl 1 rfl) ?_
  refine fg_5_10 M hP dX5_seed_9 ?_
  refine lv_iload_n hx hb dX5_seed_12 rfl (lv_at hl 2 rfl) ?_
  refine fp_5_179 M hS hP rfl dX5_seed_13 (fun H locs hP hS => ?_)
  have hP : Wd G (pu v 25 7 a1) H := hP
  refine lv_iload_n hx hb dX5_seed_16 rfl (lv_at hl 0 rfl) ?_
  exact ret_i M hS hP (Option.some.inj hF) dX5_seed_17
def F_X5_feed (a1 : Int32) (a2 : Int32) (v : VV) : Option (Int32 × VV) :=
  if a2 < 1 then (Option.bind (F_X5_finding 0 v) (fun (r3, v4) => some (r3, v4))) else (if a2 ≤ 4 then (if ((v 23 1) + a2) ≤ 120 then (Option.bind (F_X4_append a1 a2 v) (fun v10 => some (v10 23 1, v10))) else (Option.bind (F_X5_finding 1 v) (fun (r12, v13) => some (r12, v13)))) else (Option.bind (F_X5_finding 0 v) (fun (r16, v17) => some (r16, v17))))
set_option maxHeartbeats 4000000 in
set_option maxRecDepth 100000 in
theorem c_X5_feed (l : Launch) (G : GG) (a1 : Int32) (a2 : Int32) (v : VV) (r : Int32) (v' : VV) (hF : F_X5_feed a1 a2 v = some (r, v')) : Met l yX5_feed (cdW yX5_feed cX5_feed 3 (some .int)) ({ frames := 1, cells := 0, slots := 0, locals := 23 } : Room) (PC G v [.ref (ad G 12), .int a1, .int a2]) (QI G r v') 0 0 (gA G) := by
  refine met_in RX5 (by decide) rfl (Nat.le_of_ble_eq_true rfl) ?_
  intro p e s m below meth c M hP ls hl
  have hx := M.1.1
  have hb := M.1.2.1
  have hS : va_S (gA G) s.heap s.heap [] := va_S.rf
  have hl : lv_has ls 3 [(0, .ref (ad G 12)), (1, .int a1), (2, .int a2)] := hl
  unfold F_X5_feed at hF
  refine lv_iload_n hx hb dX5_feed_0 rfl (lv_at hl 2 rfl) ?_
  refine lv_iconst (v := 1) hx hb dX5_feed_1 (by decide) ?_
  refine lv_icmp_lt (tgt := 10) hx hb dX5_feed_2 (by decide) (fun c1 => ?_) (fun c1 => ?_)
  · replace hF := (if_pos c1).symm.trans hF
    refine lv_aload_n hx hb dX5_feed_10 rfl (lv_at hl 0 rfl) ?_
    refine lv_iconst (v := 0) hx hb dX5_feed_11 (by decide) ?_
    obtain ⟨⟨r3, v4⟩, h2, hF⟩ := bi_some hF
    dsimp only at hF
    refine k_i hS (kV_run M hS hP ok_X5_48 (c_X5_finding l G 0 v r3 v4 h2) (rc_5 M hP rfl) rfl hl.1 rfl (Nat.le_of_ble_eq_true rfl) ⟨rfl, rfl⟩ ⟨Nat.le_of_ble_eq_true rfl, Nat.le_of_ble_eq_true rfl⟩ dX5_feed_12) (fun H locs hP hS => ?_)
    exact ret_i M hS hP (Option.some.inj hF) dX5_feed_15
  · replace hF := (if_neg c1).symm.trans hF
    refine lv_iload_n hx hb dX5_feed_5 rfl (lv_at hl 2 rfl) ?_
    refine lv_iconst (v := 4) hx hb dX5_feed_6 (by decide) ?_
    refine lv_icmp_le (tgt := 16) hx hb dX5_feed_7 (by decide) (fun c6 => ?_) (fun c6 => ?_)
    · replace hF := (if_pos c6).symm.trans hF
      refine lv_aload_n hx hb dX5_feed_16 rfl (lv_at hl 0 rfl) ?_
      refine fg_5_25 M hP dX5_feed_17 ?_
      refine fg_5_182 M hP dX5_feed_20 ?_
      refine lv_iload_n hx hb dX5_feed_23 rfl (lv_at hl 2 rfl) ?_
      refine lv_iadd hx hb dX5_feed_24 ?_
      refine lv_bipush (v := 120) hx hb dX5_feed_25 (by decide) ?_
      refine lv_icmp_le (tgt := 36) hx hb dX5_feed_27 (by decide) (fun c7 => ?_) (fun c7 => ?_)
      · replace hF := (if_pos c7).symm.trans hF
        refine lv_aload_n hx hb dX5_feed_36 rfl (lv_at hl 0 rfl) ?_
        refine fg_5_25 M hP dX5_feed_37 ?_
        refine lv_iload_n hx hb dX5_feed_40 rfl (lv_at hl 1 rfl) ?_
        refine lv_iload_n hx hb dX5_feed_41 rfl (lv_at hl 2 rfl) ?_
        obtain ⟨v10, h8, hF⟩ := bi_some hF
        refine k_v hS (kV_run M hS hP ok_X5_185 (c_X4_append l G a1 a2 v v10 h8) (rc_4 M hP rfl) rfl hl.1 rfl (Nat.le_of_ble_eq_true rfl) ⟨rfl, rfl⟩ ⟨Nat.le_of_ble_eq_true rfl, Nat.le_of_ble_eq_true rfl⟩ dX5_feed_42) (fun H locs hP hS => ?_)
        refine lv_aload_n hx hb dX5_feed_45 rfl (lv_at hl 0 rfl) ?_
        refine fg_5_25 M hP dX5_feed_46 ?_
        refine fg_5_182 M hP dX5_feed_49 ?_
        exact ret_i M hS hP (Option.some.inj hF) dX5_feed_52
      · replace hF := (if_neg c7).symm.trans hF
        refine lv_aload_n hx hb dX5_feed_30 rfl (lv_at hl 0 rfl) ?_
        refine lv_iconst (v := 1) hx hb dX5_feed_31 (by decide) ?_
        obtain ⟨⟨r12, v13⟩, h11, hF⟩ := bi_some hF
        dsimp only at hF
        refine k_i hS (kV_run M hS hP ok_X5_48 (c_X5_finding l G 1 v r12 v13 h11) (rc_5 M hP rfl) rfl hl.1 rfl (Nat.le_of_ble_eq_true rfl) ⟨rfl, rfl⟩ ⟨Nat.le_of_ble_eq_true rfl, Nat.le_of_ble_eq_true rfl⟩ dX5_feed_32) (fun H locs hP hS => ?_)
        exact ret_i M hS hP (Option.some.inj hF) dX5_feed_35
    · replace hF := (if_neg c6).symm.trans hF
      refine lv_aload_n hx hb dX5_feed_10 rfl (lv_at hl 0 rfl) ?_
      refine lv_iconst (v := 0) hx hb dX5_feed_11 (by decide) ?_
      obtain ⟨⟨r16, v17⟩, h15, hF⟩ := bi_some hF
      dsimp only at hF
      refine k_i hS (kV_run M hS hP ok_X5_48 (c_X5_finding l G 0 v r16 v17 h15) (rc_5 M hP rfl) rfl hl.1 rfl (Nat.le_of_ble_eq_true rfl) ⟨rfl, rfl⟩ ⟨Nat.le_of_ble_eq_true rfl, Nat.le_of_ble_eq_true rfl⟩ dX5_feed_12) (fun H locs hP hS => ?_)
      exact ret_i M hS hP (Option.some.inj hF) dX5_feed_15
def F_X5_wipe (v : VV) : Option (Int32 × VV) :=
  some (v 23 1, pu v 23 1 0)
set_option maxHeartbeats 4000000 in
set_option maxRecDepth 100000 in
theorem c_X5_wipe (l : Launch) (G : GG) (v : VV) (r : Int32) (v' : VV) (hF : F_X5_wipe v = some (r, v')) : Met l yX5_wipe (cdW yX5_wipe cX5_wipe 2 (some .int)) ({ frames := 0, cells := 0, slots := 0, locals := 0 } : Room) (PC G v [.ref (ad G 12)]) (QI G r v') 0 0 (gA G) := by
  refine met_in RX5 (by decide) rfl (Nat.le_of_ble_eq_true rfl) ?_
  intro p e s m below meth c M hP ls hl
  have hx := M.1.1
  have hb := M.1.2.1
  have hS : va_S (gA G) s.heap s.heap [] := va_S.rf
  have hl : lv_has ls 2 [(0, .ref (ad G 12))] := hl
  unfold F_X5_wipe at hF
  refine lv_aload_n hx hb dX5_wipe_0 rfl (lv_at hl 0 rfl) ?_
  refine fg_5_25 M hP dX5_wipe_1 ?_
  refine fg_5_182 M hP dX5_wipe_4 ?_
  refine lv_istore_n (lv' := [(1, .int (v 23 1)), (0, .ref (ad G 12))]) hx hb dX5_wipe_7 rfl hl (by decide) rfl (fun ls hl => ?_)
  refine lv_aload_n hx hb dX5_wipe_8 rfl (lv_at hl 1 rfl) ?_
  refine fg_5_25 M hP dX5_wipe_9 ?_
  refine lv_iconst (v := 0) hx hb dX5_wipe_12 (by decide) ?_
  refine fp_5_182 M hS hP dX5_wipe_13 (fun H locs hP hS => ?_)
  have hP : Wd G (pu v 23 1 0) H := hP
  refine lv_iload_n hx hb dX5_wipe_16 rfl (lv_at hl 0 rfl) ?_
  exact ret_i M hS hP (Option.some.inj hF) dX5_wipe_17
def F_X5_text (v : VV) : Option (Int32 × VV) :=
  Option.bind (F_X1_become 58 25 v) (fun v3 => Option.bind (F_X4_readOnto 58 v3) (fun (r5, v6) => (if r5 < 0 then (some (r5, pu v6 23 1 0)) else (Option.bind (F_X1_become 25 58 (pu v6 23 1 0)) (fun v11 => some (r5, v11))))))
set_option maxHeartbeats 4000000 in
set_option maxRecDepth 100000 in
theorem c_X5_text (l : Launch) (G : GG) (v : VV) (r : Int32) (v' : VV) (hF : F_X5_text v = some (r, v')) : Met l yX5_text (cdW yX5_text cX5_text 2 (some .int)) ({ frames := 9, cells := 0, slots := 0, locals := 203 } : Room) (PC G v [.ref (ad G 12)]) (QI G r v') 0 0 (gA G) := by
  refine met_in RX5 (by decide) rfl (Nat.le_of_ble_eq_true rfl) ?_
  intro p e s m below meth c M hP ls hl
  have hx := M.1.1
  have hb := M.1.2.1
  have hS : va_S (gA G) s.heap s.heap [] := va_S.rf
  have hl : lv_has ls 2 [(0, .ref (ad G 12))] := hl
  unfold F_X5_text at hF
  refine lv_aload_n hx hb dX5_text_0 rfl (lv_at hl 0 rfl) ?_
  refine fg_5_16 M hP dX5_text_1 ?_
  refine lv_aload_n hx hb dX5_text_4 rfl (lv_at hl 0 rfl) ?_
  refine fg_5_10 M hP dX5_text_5 ?_
  obtain ⟨v3, h1, hF⟩ := bi_some hF
  refine k_v hS (kV_run M hS hP ok_X5_143 (c_X1_become l G 58 rfl 25 rfl v v3 h1) (rc_1 M hP rfl) rfl hl.1 rfl (Nat.le_of_ble_eq_true rfl) ⟨rfl, rfl⟩ ⟨Nat.le_of_ble_eq_true rfl, Nat.le_of_ble_eq_true rfl⟩ dX5_text_8) (fun H locs hP hS => ?_)
  refine lv_aload_n hx hb dX5_text_11 rfl (lv_at hl 0 rfl) ?_
  refine fg_5_25 M hP dX5_text_12 ?_
  refine lv_aload_n hx hb dX5_text_15 rfl (lv_at hl 0 rfl) ?_
  refine fg_5_16 M hP dX5_text_16 ?_
  obtain ⟨⟨r5, v6⟩, h4, hF⟩ := bi_some hF
  dsimp only at hF
  refine k_i hS (kV_run M hS hP ok_X5_189 (c_X4_readOnto l G 58 rfl v3 r5 v6 h4) (rc_4 M hP rfl) rfl hl.1 rfl (Nat.le_of_ble_eq_true rfl) ⟨rfl, rfl⟩ ⟨Nat.le_of_ble_eq_true rfl, Nat.le_of_ble_eq_true rfl⟩ dX5_text_19) (fun H locs hP hS => ?_)
  refine lv_istore_n (lv' := [(1, .int r5), (0, .ref (ad G 12))]) hx hb dX5_text_22 rfl hl (by decide) rfl (fun ls hl => ?_)
  refine lv_aload_n hx hb dX5_text_23 rfl (lv_at hl 1 rfl) ?_
  refine fg_5_25 M hP dX5_text_24 ?_
  refine lv_iconst (v := 0) hx hb dX5_text_27 (by decide) ?_
  refine fp_5_182 M hS hP dX5_text_28 (fun H locs hP hS => ?_)
  have hP : Wd G (pu v6 23 1 0) H := hP
  refine lv_iload_n hx hb dX5_text_31 rfl (lv_at hl 0 rfl) ?_
  refine lv_if_lt (tgt := 46) hx hb dX5_text_32 (by decide) (fun c8 => ?_) (fun c8 => ?_)
  · replace hF := (if_pos c8).symm.trans hF
    refine lv_iload_n hx hb dX5_text_46 rfl (lv_at hl 0 rfl) ?_
    exact ret_i M hS hP (Option.some.inj hF) dX5_text_47
  · replace hF := (if_neg c8).symm.trans hF
    refine lv_aload_n hx hb dX5_text_35 rfl (lv_at hl 1 rfl) ?_
    refine fg_5_10 M hP dX5_text_36 ?_
    refine lv_aload_n hx hb dX5_text_39 rfl (lv_at hl 1 rfl) ?_
    refine fg_5_16 M hP dX5_text_40 ?_
    obtain ⟨v11, h9, hF⟩ := bi_some hF
    refine k_v hS (kV_run M hS hP ok_X5_143 (c_X1_become l G 25 rfl 58 rfl (pu v6 23 1 0) v11 h9) (rc_1 M hP rfl) rfl hl.1 rfl (Nat.le_of_ble_eq_true rfl) ⟨rfl, rfl⟩ ⟨Nat.le_of_ble_eq_true rfl, Nat.le_of_ble_eq_true rfl⟩ dX5_text_43) (fun H locs hP hS => ?_)
    refine lv_iload_n hx hb dX5_text_46 rfl (lv_at hl 0 rfl) ?_
    exact ret_i M hS hP (Option.some.inj hF) dX5_text_47
def F_X5_hold (a1 : Int32) (a2 : Int32) (v : VV) : Option (Int32 × VV) :=
  Option.bind (F_X5_isUpTo a1 9 v) (fun r2 => (if r2 = true then (Option.bind (F_X5_isKeeper a2 v) (fun r9 => (if r9 = true then (gu (gI a1 10) (some (1, pu v (25 + 2) ((a1).toNatClampNeg) a2))) else (if a2 = (-1) then (gu (gI a1 10) (some (1, pu v (25 + 2) ((a1).toNatClampNeg) a2))) else (Option.bind (F_X5_finding 0 v) (fun (r15, v16) => some (r15, v16))))))) else (Option.bind (F_X5_finding 0 v) (fun (r5, v6) => some (r5, v6)))))
set_option maxHeartbeats 4000000 in
set_option maxRecDepth 100000 in
theorem c_X5_hold (l : Launch) (G : GG) (a1 : Int32) (a2 : Int32) (v : VV) (r : Int32) (v' : VV) (hF : F_X5_hold a1 a2 v = some (r, v')) : Met l yX5_hold (cdW yX5_hold cX5_hold 3 (some .int)) ({ frames := 1, cells := 0, slots := 0, locals := 21 } : Room) (PC G v [.ref (ad G 12), .int a1, .int a2]) (QI G r v') 0 0 (gA G) := by
  refine met_in RX5 (by decide) rfl (Nat.le_of_ble_eq_true rfl) ?_
  intro p e s m below meth c M hP ls hl
  have hx := M.1.1
  have hb := M.1.2.1
  have hS : va_S (gA G) s.heap s.heap [] := va_S.rf
  have hl : lv_has ls 3 [(0, .ref (ad G 12)), (1, .int a1), (2, .int a2)] := hl
  unfold F_X5_hold at hF
  refine lv_iload_n hx hb dX5_hold_0 rfl (lv_at hl 1 rfl) ?_
  refine lv_bipush (v := 9) hx hb dX5_hold_1 (by decide) ?_
  obtain ⟨r2, h1, hF⟩ := bi_some hF
  refine k_i hS (kS_run M hS hP ok_X5_44 (c_X5_isUpTo l G a1 9 v r2 h1) rfl hl.1 rfl (Nat.le_of_ble_eq_true rfl) ⟨rfl, rfl⟩ ⟨Nat.le_of_ble_eq_true rfl, Nat.le_of_ble_eq_true rfl⟩ dX5_hold_3) (fun H locs hP hS => ?_)
  refine lv_if_eq (tgt := 22) hx hb dX5_hold_6 (by decide) (fun c3 => ?_) (fun c3 => ?_)
  · replace hF := (if_neg (bI_f c3)).symm.trans hF
    refine lv_aload_n hx hb dX5_hold_22 rfl (lv_at hl 0 rfl) ?_
    refine lv_iconst (v := 0) hx hb dX5_hold_23 (by decide) ?_
    obtain ⟨⟨r5, v6⟩, h4, hF⟩ := bi_some hF
    dsimp only at hF
    refine k_i hS (kV_run M hS hP ok_X5_48 (c_X5_finding l G 0 v r5 v6 h4) (rc_5 M hP rfl) rfl hl.1 rfl (Nat.le_of_ble_eq_true rfl) ⟨rfl, rfl⟩ ⟨Nat.le_of_ble_eq_true rfl, Nat.le_of_ble_eq_true rfl⟩ dX5_hold_24) (fun H locs hP hS => ?_)
    exact ret_i M hS hP (Option.some.inj hF) dX5_hold_27
  · replace hF := (if_pos (bI_t c3)).symm.trans hF
    refine lv_aload_n hx hb dX5_hold_9 rfl (lv_at hl 0 rfl) ?_
    refine lv_iload_n hx hb dX5_hold_10 rfl (lv_at hl 2 rfl) ?_
    obtain ⟨r9, h8, hF⟩ := bi_some hF
    refine k_i hS (kV_run M hS hP ok_X5_69 (c_X5_isKeeper l G a2 v r9 h8) (rc_5 M hP rfl) rfl hl.1 rfl (Nat.le_of_ble_eq_true rfl) ⟨rfl, rfl⟩ ⟨Nat.le_of_ble_eq_true rfl, Nat.le_of_ble_eq_true rfl⟩ dX5_hold_11) (fun H locs hP hS => ?_)
    refine lv_if_ne (tgt := 28) hx hb dX5_hold_14 (by decide) (fun c10 => ?_) (fun c10 => ?_)
    · replace hF := (if_pos (bI_t c10)).symm.trans hF
      refine lv_aload_n hx hb dX5_hold_28 rfl (lv_at hl 0 rfl) ?_
      refine fg_5_10 M hP dX5_hold_29 ?_
      refine fg_5_193 M hP rfl dX5_hold_32 ?_
      refine lv_iload_n hx hb dX5_hold_35 rfl (lv_at hl 1 rfl) ?_
      refine lv_iload_n hx hb dX5_hold_36 rfl (lv_at hl 2 rfl) ?_
      obtain ⟨g11, hF⟩ := gu_some hF
      refine r_iast (k := (a1).toNatClampNeg) M hS hP (ge_1_2k (i := 25) rfl) (ge_1_2l (i := 25) rfl) (in_c g11) rfl dX5_hold_37 (fun H locs hP hS => ?_)
      have hP : Wd G (pu v (25 + 2) ((a1).toNatClampNeg) a2) H := hP
      refine lv_iconst (v := 1) hx hb dX5_hold_38 (by decide) ?_
      exact ret_i M hS hP (Option.some.inj hF) dX5_hold_39
    · replace hF := (if_neg (bI_f c10)).symm.trans hF
      refine lv_iload_n hx hb dX5_hold_17 rfl (lv_at hl 2 rfl) ?_
      refine lv_iconst (v := (-1)) hx hb dX5_hold_18 (by decide) ?_
      refine lv_icmp_eq (tgt := 28) hx hb dX5_hold_19 (by decide) (fun c12 => ?_) (fun c12 => ?_)
      · replace hF := (if_pos c12).symm.trans hF
        refine lv_aload_n hx hb dX5_hold_28 rfl (lv_at hl 0 rfl) ?_
        refine fg_5_10 M hP dX5_hold_29 ?_
        refine fg_5_193 M hP rfl dX5_hold_32 ?_
        refine lv_iload_n hx hb dX5_hold_35 rfl (lv_at hl 1 rfl) ?_
        refine lv_iload_n hx hb dX5_hold_36 rfl (lv_at hl 2 rfl) ?_
        obtain ⟨g13, hF⟩ := gu_some hF
        refine r_iast (k := (a1).toNatClampNeg) M hS hP (ge_1_2k (i := 25) rfl) (ge_1_2l (i := 25) rfl) (in_c g13) rfl dX5_hold_37 (fun H locs hP hS => ?_)
        have hP : Wd G (pu v (25 + 2) ((a1).toNatClampNeg) a2) H := hP
        refine lv_iconst (v := 1) hx hb dX5_hold_38 (by decide) ?_
        exact ret_i M hS hP (Option.some.inj hF) dX5_hold_39
      · replace hF := (if_neg c12).symm.trans hF
        refine lv_aload_n hx hb dX5_hold_22 rfl (lv_at hl 0 rfl) ?_
        refine lv_iconst (v := 0) hx hb dX5_hold_23 (by decide) ?_
        obtain ⟨⟨r15, v16⟩, h14, hF⟩ := bi_some hF
        dsimp only at hF
        refine k_i hS (kV_run M hS hP ok_X5_48 (c_X5_finding l G 0 v r15 v16 h14) (rc_5 M hP rfl) rfl hl.1 rfl (Nat.le_of_ble_eq_true rfl) ⟨rfl, rfl⟩ ⟨Nat.le_of_ble_eq_true rfl, Nat.le_of_ble_eq_true rfl⟩ dX5_hold_24) (fun H locs hP hS => ?_)
        exact ret_i M hS hP (Option.some.inj hF) dX5_hold_27
def F_X5_as (a1 : Int32) (a2 : Int32) (v : VV) : Option (Int32 × VV) :=
  Option.bind (F_X5_isUpTo a1 9 v) (fun r2 => (if r2 = true then (Option.bind (F_X5_isUpTo a2 6 v) (fun r9 => (if r9 = true then (gu (gI a1 10) (Option.bind (F_X5_isKeeper (v (25 + 2) ((a1).toNatClampNeg)) v) (fun r13 => (if r13 = true then (gu (gI (v (25 + 2) ((a1).toNatClampNeg)) 8) (Option.bind (F_X2_isOf ((25 + 3) + 2 + ((v (25 + 2) ((a1).toNatClampNeg)).toNatClampNeg)) a2 v) (fun r17 => (if r17 = true then (some (v (25 + 2) ((a1).toNatClampNeg), v)) else (Option.bind (F_X5_finding 2 v) (fun (r20, v21) => some (r20, v21))))))) else (Option.bind (F_X5_finding 5 v) (fun (r24, v25) => some (r24, v25))))))) else (Option.bind (F_X5_finding 0 v) (fun (r28, v29) => some (r28, v29)))))) else (Option.bind (F_X5_finding 0 v) (fun (r5, v6) => some (r5, v6)))))
set_option maxHeartbeats 4000000 in
set_option maxRecDepth 100000 in
theorem c_X5_as (l : Launch) (G : GG) (a1 : Int32) (a2 : Int32) (v : VV) (r : Int32) (v' : VV) (hF : F_X5_as a1 a2 v = some (r, v')) : Met l yX5_as (cdW yX5_as cX5_as 4 (some .int)) ({ frames := 1, cells := 0, slots := 0, locals := 23 } : Room) (PC G v [.ref (ad G 12), .int a1, .int a2]) (QI G r v') 0 0 (gA G) := by
  refine met_in RX5 (by decide) rfl (Nat.le_of_ble_eq_true rfl) ?_
  intro p e s m below meth c M hP ls hl
  have hx := M.1.1
  have hb := M.1.2.1
  have hS : va_S (gA G) s.heap s.heap [] := va_S.rf
  have hl : lv_has ls 4 [(0, .ref (ad G 12)), (1, .int a1), (2, .int a2)] := hl
  unfold F_X5_as at hF
  refine lv_iload_n hx hb dX5_as_0 rfl (lv_at hl 1 rfl) ?_
  refine lv_bipush (v := 9) hx hb dX5_as_1 (by decide) ?_
  obtain ⟨r2, h1, hF⟩ := bi_some hF
  refine k_i hS (kS_run M hS hP ok_X5_44 (c_X5_isUpTo l G a1 9 v r2 h1) rfl hl.1 rfl (Nat.le_of_ble_eq_true rfl) ⟨rfl, rfl⟩ ⟨Nat.le_of_ble_eq_true rfl, Nat.le_of_ble_eq_true rfl⟩ dX5_as_3) (fun H locs hP hS => ?_)
  refine lv_if_eq (tgt := 18) hx hb dX5_as_6 (by decide) (fun c3 => ?_) (fun c3 => ?_)
  · replace hF := (if_neg (bI_f c3)).symm.trans hF
    refine lv_aload_n hx hb dX5_as_18 rfl (lv_at hl 0 rfl) ?_
    refine lv_iconst (v := 0) hx hb dX5_as_19 (by decide) ?_
    obtain ⟨⟨r5, v6⟩, h4, hF⟩ := bi_some hF
    dsimp only at hF
    refine k_i hS (kV_run M hS hP ok_X5_48 (c_X5_finding l G 0 v r5 v6 h4) (rc_5 M hP rfl) rfl hl.1 rfl (Nat.le_of_ble_eq_true rfl) ⟨rfl, rfl⟩ ⟨Nat.le_of_ble_eq_true rfl, Nat.le_of_ble_eq_true rfl⟩ dX5_as_20) (fun H locs hP hS => ?_)
    exact ret_i M hS hP (Option.some.inj hF) dX5_as_23
  · replace hF := (if_pos (bI_t c3)).symm.trans hF
    refine lv_iload_n hx hb dX5_as_9 rfl (lv_at hl 2 rfl) ?_
    refine lv_bipush (v := 6) hx hb dX5_as_10 (by decide) ?_
    obtain ⟨r9, h8, hF⟩ := bi_some hF
    refine k_i hS (kS_run M hS hP ok_X5_44 (c_X5_isUpTo l G a2 6 v r9 h8) rfl hl.1 rfl (Nat.le_of_ble_eq_true rfl) ⟨rfl, rfl⟩ ⟨Nat.le_of_ble_eq_true rfl, Nat.le_of_ble_eq_true rfl⟩ dX5_as_12) (fun H locs hP hS => ?_)
    refine lv_if_ne (tgt := 24) hx hb dX5_as_15 (by decide) (fun c10 => ?_) (fun c10 => ?_)
    · replace hF := (if_pos (bI_t c10)).symm.trans hF
      refine lv_aload_n hx hb dX5_as_24 rfl (lv_at hl 0 rfl) ?_
      refine fg_5_10 M hP dX5_as_25 ?_
      refine fg_5_193 M hP rfl dX5_as_28 ?_
      refine lv_iload_n hx hb dX5_as_31 rfl (lv_at hl 1 rfl) ?_
      obtain ⟨g11, hF⟩ := gu_some hF
      refine r_iald (k := (a1).toNatClampNeg) M hP (ge_1_2k (i := 25) rfl) (ge_1_2l (i := 25) rfl) (in_c g11) rfl dX5_as_32 ?_
      refine lv_istore_n (lv' := [(3, .int (v (25 + 2) ((a1).toNatClampNeg))), (0, .ref (ad G 12)), (1, .int a1), (2, .int a2)]) hx hb dX5_as_33 rfl hl (by decide) rfl (fun ls hl => ?_)
      refine lv_aload_n hx hb dX5_as_34 rfl (lv_at hl 1 rfl) ?_
      refine lv_iload_n hx hb dX5_as_35 rfl (lv_at hl 0 rfl) ?_
      obtain ⟨r13, h12, hF⟩ := bi_some hF
      refine k_i hS (kV_run M hS hP ok_X5_69 (c_X5_isKeeper l G (v (25 + 2) ((a1).toNatClampNeg)) v r13 h12) (rc_5 M hP rfl) rfl hl.1 rfl (Nat.le_of_ble_eq_true rfl) ⟨rfl, rfl⟩ ⟨Nat.le_of_ble_eq_true rfl, Nat.le_of_ble_eq_true rfl⟩ dX5_as_36) (fun H locs hP hS => ?_)
      refine lv_if_ne (tgt := 48) hx hb dX5_as_39 (by decide) (fun c14 => ?_) (fun c14 => ?_)
      · replace hF := (if_pos (bI_t c14)).symm.trans hF
        refine lv_aload_n hx hb dX5_as_48 rfl (lv_at hl 1 rfl) ?_
        refine fg_5_10 M hP dX5_as_49 ?_
        refine fg_5_81 M hP rfl dX5_as_52 ?_
        refine lv_iload_n hx hb dX5_as_55 rfl (lv_at hl 0 rfl) ?_
        obtain ⟨g15, hF⟩ := gu_some hF
        refine r_aald10 (k := (v (25 + 2) ((a1).toNatClampNeg)).toNatClampNeg) M hP (ge_1_3k (i := 25) rfl) (ge_10l (i := (25 + 3)) (ge_1_3k (i := 25) rfl)) (in_c g15) rfl dX5_as_56 ?_
        refine lv_iload_n hx hb dX5_as_57 rfl (lv_at hl 3 rfl) ?_
        obtain ⟨r17, h16, hF⟩ := bi_some hF
        refine k_i hS (kV_run M hS hP ok_X5_196 (c_X2_isOf l G ((25 + 3) + 2 + ((v (25 + 2) ((a1).toNatClampNeg)).toNatClampNeg)) (ge_10k (i := (25 + 3)) (k := (v (25 + 2) ((a1).toNatClampNeg)).toNatClampNeg) (ge_1_3k (i := 25) rfl) (vin_lt (in_c g15))) a2 v r17 h16) (rc_2 M hP (ge_10k (i := (25 + 3)) (k := (v (25 + 2) ((a1).toNatClampNeg)).toNatClampNeg) (ge_1_3k (i := 25) rfl) (vin_lt (in_c g15)))) rfl hl.1 rfl (Nat.le_of_ble_eq_true rfl) ⟨rfl, rfl⟩ ⟨Nat.le_of_ble_eq_true rfl, Nat.le_of_ble_eq_true rfl⟩ dX5_as_58) (fun H locs hP hS => ?_)
        refine lv_if_ne (tgt := 70) hx hb dX5_as_61 (by decide) (fun c18 => ?_) (fun c18 => ?_)
        · replace hF := (if_pos (bI_t c18)).symm.trans hF
          refine lv_iload_n hx hb dX5_as_70 rfl (lv_at hl 0 rfl) ?_
          exact ret_i M hS hP (Option.some.inj hF) dX5_as_71
        · replace hF := (if_neg (bI_f c18)).symm.trans hF
          refine lv_aload_n hx hb dX5_as_64 rfl (lv_at hl 1 rfl) ?_
          refine lv_iconst (v := 2) hx hb dX5_as_65 (by decide) ?_
          obtain ⟨⟨r20, v21⟩, h19, hF⟩ := bi_some hF
          dsimp only at hF
          refine k_i hS (kV_run M hS hP ok_X5_48 (c_X5_finding l G 2 v r20 v21 h19) (rc_5 M hP rfl) rfl hl.1 rfl (Nat.le_of_ble_eq_true rfl) ⟨rfl, rfl⟩ ⟨Nat.le_of_ble_eq_true rfl, Nat.le_of_ble_eq_true rfl⟩ dX5_as_66) (fun H locs hP hS => ?_)
          exact ret_i M hS hP (Option.some.inj hF) dX5_as_69
      · replace hF := (if_neg (bI_f c14)).symm.trans hF
        refine lv_aload_n hx hb dX5_as_42 rfl (lv_at hl 1 rfl) ?_
        refine lv_iconst (v := 5) hx hb dX5_as_43 (by decide) ?_
        obtain ⟨⟨r24, v25⟩, h23, hF⟩ := bi_some hF
        dsimp only at hF
        refine k_i hS (kV_run M hS hP ok_X5_48 (c_X5_finding l G 5 v r24 v25 h23) (rc_5 M hP rfl) rfl hl.1 rfl (Nat.le_of_ble_eq_true rfl) ⟨rfl, rfl⟩ ⟨Nat.le_of_ble_eq_true rfl, Nat.le_of_ble_eq_true rfl⟩ dX5_as_44) (fun H locs hP hS => ?_)
        exact ret_i M hS hP (Option.some.inj hF) dX5_as_47
    · replace hF := (if_neg (bI_f c10)).symm.trans hF
      refine lv_aload_n hx hb dX5_as_18 rfl (lv_at hl 0 rfl) ?_
      refine lv_iconst (v := 0) hx hb dX5_as_19 (by decide) ?_
      obtain ⟨⟨r28, v29⟩, h27, hF⟩ := bi_some hF
      dsimp only at hF
      refine k_i hS (kV_run M hS hP ok_X5_48 (c_X5_finding l G 0 v r28 v29 h27) (rc_5 M hP rfl) rfl hl.1 rfl (Nat.le_of_ble_eq_true rfl) ⟨rfl, rfl⟩ ⟨Nat.le_of_ble_eq_true rfl, Nat.le_of_ble_eq_true rfl⟩ dX5_as_20) (fun H locs hP hS => ?_)
      exact ret_i M hS hP (Option.some.inj hF) dX5_as_23
def F_X5_sheet (a1 : Int32) (a2 : Int32) (a3 : Int32) (v : VV) : Option (Int32 × VV) :=
  if a2 = 0 then (Option.bind (F_X5_isSheet a1 v) (fun r3 => (if r3 = true then (if 0 ≤ a3 then (if a3 ≤ 40 then (gu (gI a1 4) (Option.bind (F_X3_begin (14 + 1 + ((a1).toNatClampNeg)) a2 a3 v) (fun v15 => gu (gI a1 4) (some (v15 (14 + 1 + ((a1).toNatClampNeg)) 2, v15))))) else (Option.bind (F_X5_finding 0 v) (fun (r18, v19) => some (r18, v19)))) else (Option.bind (F_X5_finding 6 v) (fun (r22, v23) => some (r22, v23)))) else (Option.bind (F_X5_finding 0 v) (fun (r6, v7) => some (r6, v7)))))) else (if a2 = 8 then (Option.bind (F_X5_isSheet a1 v) (fun r27 => (if r27 = true then (if 0 ≤ a3 then (if a3 ≤ 40 then (gu (gI a1 4) (Option.bind (F_X3_begin (14 + 1 + ((a1).toNatClampNeg)) a2 a3 v) (fun v39 => gu (gI a1 4) (some (v39 (14 + 1 + ((a1).toNatClampNeg)) 2, v39))))) else (Option.bind (F_X5_finding 0 v) (fun (r42, v43) => some (r42, v43)))) else (Option.bind (F_X5_finding 6 v) (fun (r46, v47) => some (r46, v47)))) else (Option.bind (F_X5_finding 0 v) (fun (r30, v31) => some (r30, v31)))))) else (if a2 = 16 then (Option.bind (F_X5_isSheet a1 v) (fun r51 => (if r51 = true then (if 0 ≤ a3 then (if a3 ≤ 40 then (gu (gI a1 4) (Option.bind (F_X3_begin (14 + 1 + ((a1).toNatClampNeg)) a2 a3 v) (fun v63 => gu (gI a1 4) (some (v63 (14 + 1 + ((a1).toNatClampNeg)) 2, v63))))) else (Option.bind (F_X5_finding 0 v) (fun (r66, v67) => some (r66, v67)))) else (Option.bind (F_X5_finding 6 v) (fun (r70, v71) => some (r70, v71)))) else (Option.bind (F_X5_finding 0 v) (fun (r54, v55) => some (r54, v55)))))) else (if a2 = 32 then (Option.bind (F_X5_isSheet a1 v) (fun r87 => (if r87 = true then (if 0 ≤ a3 then (if a3 ≤ 40 then (gu (gI a1 4) (Option.bind (F_X3_begin (14 + 1 + ((a1).toNatClampNeg)) a2 a3 v) (fun v99 => gu (gI a1 4) (some (v99 (14 + 1 + ((a1).toNatClampNeg)) 2, v99))))) else (Option.bind (F_X5_finding 0 v) (fun (r102, v103) => some (r102, v103)))) else (Option.bind (F_X5_finding 6 v) (fun (r106, v107) => some (r106, v107)))) else (Option.bind (F_X5_finding 0 v) (fun (r90, v91) => some (r90, v91)))))) else (Option.bind (F_X5_isSheet a1 v) (fun r75 => (if r75 = true then (Option.bind (F_X5_finding 0 v) (fun (r83, v84) => some (r83, v84))) else (Option.bind (F_X5_finding 0 v) (fun (r78, v79) => some (r78, v79)))))))))
set_option maxHeartbeats 4000000 in
set_option maxRecDepth 100000 in
theorem c_X5_sheet (l : Launch) (G : GG) (a1 : Int32) (a2 : Int32) (a3 : Int32) (v : VV) (r : Int32) (v' : VV) (hF : F_X5_sheet a1 a2 a3 v = some (r, v')) : Met l yX5_sheet (cdW yX5_sheet cX5_sheet 5 (some .int)) ({ frames := 2, cells := 0, slots := 0, locals := 45 } : Room) (PC G v [.ref (ad G 12), .int a1, .int a2, .int a3]) (QI G r v') 0 0 (gA G) := by
  refine met_in RX5 (by decide) rfl (Nat.le_of_ble_eq_true rfl) ?_
  intro p e s m below meth c M hP ls hl
  have hx := M.1.1
  have hb := M.1.2.1
  have hS : va_S (gA G) s.heap s.heap [] := va_S.rf
  have hl : lv_has ls 5 [(0, .ref (ad G 12)), (1, .int a1), (2, .int a2), (3, .int a3)] := hl
  unfold F_X5_sheet at hF
  refine lv_iload_n hx hb dX5_sheet_0 rfl (lv_at hl 2 rfl) ?_
  refine lv_if_eq (tgt := 22) hx hb dX5_sheet_1 (by decide) (fun c1 => ?_) (fun c1 => ?_)
  · replace hF := (if_pos c1).symm.trans hF
    refine lv_iconst (v := 1) hx hb dX5_sheet_22 (by decide) ?_
    refine lv_goto (tgt := 27) hx hb dX5_sheet_23 (by decide) ?_
    refine lv_istore (lv' := [(4, .int 1), (0, .ref (ad G 12)), (1, .int a1), (2, .int a2), (3, .int a3)]) hx hb dX5_sheet_27 hl (by decide) rfl (fun ls hl => ?_)
    refine lv_iload_n hx hb dX5_sheet_29 rfl (lv_at hl 2 rfl) ?_
    obtain ⟨r3, h2, hF⟩ := bi_some hF
    refine k_i hS (kS_run M hS hP ok_X5_199 (c_X5_isSheet l G a1 v r3 h2) rfl hl.1 rfl (Nat.le_of_ble_eq_true rfl) ⟨rfl, rfl⟩ ⟨Nat.le_of_ble_eq_true rfl, Nat.le_of_ble_eq_true rfl⟩ dX5_sheet_30) (fun H locs hP hS => ?_)
    refine lv_if_eq (tgt := 41) hx hb dX5_sheet_33 (by decide) (fun c4 => ?_) (fun c4 => ?_)
    · replace hF := (if_neg (bI_f c4)).symm.trans hF
      refine lv_aload_n hx hb dX5_sheet_41 rfl (lv_at hl 1 rfl) ?_
      refine lv_iconst (v := 0) hx hb dX5_sheet_42 (by decide) ?_
      obtain ⟨⟨r6, v7⟩, h5, hF⟩ := bi_some hF
      dsimp only at hF
      refine k_i hS (kV_run M hS hP ok_X5_48 (c_X5_finding l G 0 v r6 v7 h5) (rc_5 M hP rfl) rfl hl.1 rfl (Nat.le_of_ble_eq_true rfl) ⟨rfl, rfl⟩ ⟨Nat.le_of_ble_eq_true rfl, Nat.le_of_ble_eq_true rfl⟩ dX5_sheet_43) (fun H locs hP hS => ?_)
      exact ret_i M hS hP (Option.some.inj hF) dX5_sheet_46
    · replace hF := (if_pos (bI_t c4)).symm.trans hF
      refine lv_iload hx hb dX5_sheet_36 (lv_at hl 0 rfl) ?_
      refine lv_if_ne (tgt := 47) hx hb dX5_sheet_38 (by decide) (fun c9 => ?_) (fun c9 => ?_)
      · refine lv_iload_n hx hb dX5_sheet_47 rfl (lv_at hl 4 rfl) ?_
        refine lv_if_ge (tgt := 58) hx hb dX5_sheet_48 (by decide) (fun c10 => ?_) (fun c10 => ?_)
        · replace hF := (if_pos c10).symm.trans hF
          refine lv_iload_n hx hb dX5_sheet_58 rfl (lv_at hl 4 rfl) ?_
          refine lv_bipush (v := 40) hx hb dX5_sheet_59 (by decide) ?_
          refine lv_icmp_le (tgt := 70) hx hb dX5_sheet_61 (by decide) (fun c11 => ?_) (fun c11 => ?_)
          · replace hF := (if_pos c11).symm.trans hF
            refine lv_aload_n hx hb dX5_sheet_70 rfl (lv_at hl 1 rfl) ?_
            refine fg_5_31 M hP dX5_sheet_71 ?_
            refine lv_iload_n hx hb dX5_sheet_74 rfl (lv_at hl 2 rfl) ?_
            obtain ⟨g12, hF⟩ := gu_some hF
            refine r_aald11 (k := (a1).toNatClampNeg) M hP rfl rfl (in_c g12) rfl dX5_sheet_75 ?_
            refine lv_iload_n hx hb dX5_sheet_76 rfl (lv_at hl 3 rfl) ?_
            refine lv_iload_n hx hb dX5_sheet_77 rfl (lv_at hl 4 rfl) ?_
            obtain ⟨v15, h13, hF⟩ := bi_some hF
            refine k_v hS (kV_run M hS hP ok_X5_202 (c_X3_begin l G (14 + 1 + ((a1).toNatClampNeg)) (ge_11k (i := 14) (k := (a1).toNatClampNeg) rfl (vin_lt (in_c g12))) a2 a3 v v15 h13) (rc_3 M hP (ge_11k (i := 14) (k := (a1).toNatClampNeg) rfl (vin_lt (in_c g12)))) rfl hl.1 rfl (Nat.le_of_ble_eq_true rfl) ⟨rfl, rfl⟩ ⟨Nat.le_of_ble_eq_true rfl, Nat.le_of_ble_eq_true rfl⟩ dX5_sheet_78) (fun H locs hP hS => ?_)
            refine lv_aload_n hx hb dX5_sheet_81 rfl (lv_at hl 1 rfl) ?_
            refine fg_5_31 M hP dX5_sheet_82 ?_
            refine lv_iload_n hx hb dX5_sheet_85 rfl (lv_at hl 2 rfl) ?_
            obtain ⟨g16, hF⟩ := gu_some hF
            refine r_aald11 (k := (a1).toNatClampNeg) M hP rfl rfl (in_c g16) rfl dX5_sheet_86 ?_
            refine fg_5_205 M hP (ge_11k (i := 14) (k := (a1).toNatClampNeg) rfl (vin_lt (in_c g16))) dX5_sheet_87 ?_
            exact ret_i M hS hP (Option.some.inj hF) dX5_sheet_90
          · replace hF := (if_neg c11).symm.trans hF
            refine lv_aload_n hx hb dX5_sheet_64 rfl (lv_at hl 1 rfl) ?_
            refine lv_iconst (v := 0) hx hb dX5_sheet_65 (by decide) ?_
            obtain ⟨⟨r18, v19⟩, h17, hF⟩ := bi_some hF
            dsimp only at hF
            refine k_i hS (kV_run M hS hP ok_X5_48 (c_X5_finding l G 0 v r18 v19 h17) (rc_5 M hP rfl) rfl hl.1 rfl (Nat.le_of_ble_eq_true rfl) ⟨rfl, rfl⟩ ⟨Nat.le_of_ble_eq_true rfl, Nat.le_of_ble_eq_true rfl⟩ dX5_sheet_66) (fun H locs hP hS => ?_)
            exact ret_i M hS hP (Option.some.inj hF) dX5_sheet_69
        · replace hF := (if_neg c10).symm.trans hF
          refine lv_aload_n hx hb dX5_sheet_51 rfl (lv_at hl 1 rfl) ?_
          refine lv_bipush (v := 6) hx hb dX5_sheet_52 (by decide) ?_
          obtain ⟨⟨r22, v23⟩, h21, hF⟩ := bi_some hF
          dsimp only at hF
          refine k_i hS (kV_run M hS hP ok_X5_48 (c_X5_finding l G 6 v r22 v23 h21) (rc_5 M hP rfl) rfl hl.1 rfl (Nat.le_of_ble_eq_true rfl) ⟨rfl, rfl⟩ ⟨Nat.le_of_ble_eq_true rfl, Nat.le_of_ble_eq_true rfl⟩ dX5_sheet_54) (fun H locs hP hS => ?_)
          exact ret_i M hS hP (Option.some.inj hF) dX5_sheet_57
      · exact absurd c9 (by decide)
  · replace hF := (if_neg c1).symm.trans hF
    refine lv_iload_n hx hb dX5_sheet_4 rfl (lv_at hl 2 rfl) ?_
    refine lv_bipush (v := 8) hx hb dX5_sheet_5 (by decide) ?_
    refine lv_icmp_eq (tgt := 22) hx hb dX5_sheet_7 (by decide) (fun c25 => ?_) (fun c25 => ?_)
    · replace hF := (if_pos c25).symm.trans hF
      refine lv_iconst (v := 1) hx hb dX5_sheet_22 (by decide) ?_
      refine lv_goto (tgt := 27) hx hb dX5_sheet_23 (by decide) ?_
      refine lv_istore (lv' := [(4, .int 1), (0, .ref (ad G 12)), (1, .int a1), (2, .int a2), (3, .int a3)]) hx hb dX5_sheet_27 hl (by decide) rfl (fun ls hl => ?_)
      refine lv_iload_n hx hb dX5_sheet_29 rfl (lv_at hl 2 rfl) ?_
      obtain ⟨r27, h26, hF⟩ := bi_some hF
      refine k_i hS (kS_run M hS hP ok_X5_199 (c_X5_isSheet l G a1 v r27 h26) rfl hl.1 rfl (Nat.le_of_ble_eq_true rfl) ⟨rfl, rfl⟩ ⟨Nat.le_of_ble_eq_true rfl, Nat.le_of_ble_eq_true rfl⟩ dX5_sheet_30) (fun H locs hP hS => ?_)
      refine lv_if_eq (tgt := 41) hx hb dX5_sheet_33 (by decide) (fun c28 => ?_) (fun c28 => ?_)
      · replace hF := (if_neg (bI_f c28)).symm.trans hF
        refine lv_aload_n hx hb dX5_sheet_41 rfl (lv_at hl 1 rfl) ?_
        refine lv_iconst (v := 0) hx hb dX5_sheet_42 (by decide) ?_
        obtain ⟨⟨r30, v31⟩, h29, hF⟩ := bi_some hF
        dsimp only at hF
        refine k_i hS (kV_run M hS hP ok_X5_48 (c_X5_finding l G 0 v r30 v31 h29) (rc_5 M hP rfl) rfl hl.1 rfl (Nat.le_of_ble_eq_true rfl) ⟨rfl, rfl⟩ ⟨Nat.le_of_ble_eq_true rfl, Nat.le_of_ble_eq_true rfl⟩ dX5_sheet_43) (fun H locs hP hS => ?_)
        exact ret_i M hS hP (Option.some.inj hF) dX5_sheet_46
      · replace hF := (if_pos (bI_t c28)).symm.trans hF
        refine lv_iload hx hb dX5_sheet_36 (lv_at hl 0 rfl) ?_
        refine lv_if_ne (tgt := 47) hx hb dX5_sheet_38 (by decide) (fun c33 => ?_) (fun c33 => ?_)
        · refine lv_iload_n hx hb dX5_sheet_47 rfl (lv_at hl 4 rfl) ?_
          refine lv_if_ge (tgt := 58) hx hb dX5_sheet_48 (by decide) (fun c34 => ?_) (fun c34 => ?_)
          · replace hF := (if_pos c34).symm.trans hF
            refine lv_iload_n hx hb dX5_sheet_58 rfl (lv_at hl 4 rfl) ?_
            refine lv_bipush (v := 40) hx hb dX5_sheet_59 (by decide) ?_
            refine lv_icmp_le (tgt := 70) hx hb dX5_sheet_61 (by decide) (fun c35 => ?_) (fun c35 => ?_)
            · replace hF := (if_pos c35).symm.trans hF
              refine lv_aload_n hx hb dX5_sheet_70 rfl (lv_at hl 1 rfl) ?_
              refine fg_5_31 M hP dX5_sheet_71 ?_
              refine lv_iload_n hx hb dX5_sheet_74 rfl (lv_at hl 2 rfl) ?_
              obtain ⟨g36, hF⟩ := gu_some hF
              refine r_aald11 (k := (a1).toNatClampNeg) M hP rfl rfl (in_c g36) rfl dX5_sheet_75 ?_
              refine lv_iload_n hx hb dX5_sheet_76 rfl (lv_at hl 3 rfl) ?_
              refine lv_iload_n hx hb dX5_sheet_77 rfl (lv_at hl 4 rfl) ?_
              obtain ⟨v39, h37, hF⟩ := bi_some hF
              refine k_v hS (kV_run M hS hP ok_X5_202 (c_X3_begin l G (14 + 1 + ((a1).toNatClampNeg)) (ge_11k (i := 14) (k := (a1).toNatClampNeg) rfl (vin_lt (in_c g36))) a2 a3 v v39 h37) (rc_3 M hP (ge_11k (i := 14) (k := (a1).toNatClampNeg) rfl (vin_lt (in_c g36)))) rfl hl.1 rfl (Nat.le_of_ble_eq_true rfl) ⟨rfl, rfl⟩ ⟨Nat.le_of_ble_eq_true rfl, Nat.le_of_ble_eq_true rfl⟩ dX5_sheet_78) (fun H locs hP hS => ?_)
              refine lv_aload_n hx hb dX5_sheet_81 rfl (lv_at hl 1 rfl) ?_
              refine fg_5_31 M hP dX5_sheet_82 ?_
              refine lv_iload_n hx hb dX5_sheet_85 rfl (lv_at hl 2 rfl) ?_
              obtain ⟨g40, hF⟩ := gu_some hF
              refine r_aald11 (k := (a1).toNatClampNeg) M hP rfl rfl (in_c g40) rfl dX5_sheet_86 ?_
              refine fg_5_205 M hP (ge_11k (i := 14) (k := (a1).toNatClampNeg) rfl (vin_lt (in_c g40))) dX5_sheet_87 ?_
              exact ret_i M hS hP (Option.some.inj hF) dX5_sheet_90
            · replace hF := (if_neg c35).symm.trans hF
              refine lv_aload_n hx hb dX5_sheet_64 rfl (lv_at hl 1 rfl) ?_
              refine lv_iconst (v := 0) hx hb dX5_sheet_65 (by decide) ?_
              obtain ⟨⟨r42, v43⟩, h41, hF⟩ := bi_some hF
              dsimp only at hF
              refine k_i hS (kV_run M hS hP ok_X5_48 (c_X5_finding l G 0 v r42 v43 h41) (rc_5 M hP rfl) rfl hl.1 rfl (Nat.le_of_ble_eq_true rfl) ⟨rfl, rfl⟩ ⟨Nat.le_of_ble_eq_true rfl, Nat.le_of_ble_eq_true rfl⟩ dX5_sheet_66) (fun H locs hP hS => ?_)
              exact ret_i M hS hP (Option.some.inj hF) dX5_sheet_69
          · replace hF := (if_neg c34).symm.trans hF
            refine lv_aload_n hx hb dX5_sheet_51 rfl (lv_at hl 1 rfl) ?_
            refine lv_bipush (v := 6) hx hb dX5_sheet_52 (by decide) ?_
            obtain ⟨⟨r46, v47⟩, h45, hF⟩ := bi_some hF
            dsimp only at hF
            refine k_i hS (kV_run M hS hP ok_X5_48 (c_X5_finding l G 6 v r46 v47 h45) (rc_5 M hP rfl) rfl hl.1 rfl (Nat.le_of_ble_eq_true rfl) ⟨rfl, rfl⟩ ⟨Nat.le_of_ble_eq_true rfl, Nat.le_of_ble_eq_true rfl⟩ dX5_sheet_54) (fun H locs hP hS => ?_)
            exact ret_i M hS hP (Option.some.inj hF) dX5_sheet_57
        · exact absurd c33 (by decide)
    · replace hF := (if_neg c25).symm.trans hF
      refine lv_iload_n hx hb dX5_sheet_10 rfl (lv_at hl 2 rfl) ?_
      refine lv_bipush (v := 16) hx hb dX5_sheet_11 (by decide) ?_
      refine lv_icmp_eq (tgt := 22) hx hb dX5_sheet_13 (by decide) (fun c49 => ?_) (fun c49 => ?_)
      · replace hF := (if_pos c49).symm.trans hF
        refine lv_iconst (v := 1) hx hb dX5_sheet_22 (by decide) ?_
        refine lv_goto (tgt := 27) hx hb dX5_sheet_23 (by decide) ?_
        refine lv_istore (lv' := [(4, .int 1), (0, .ref (ad G 12)), (1, .int a1), (2, .int a2), (3, .int a3)]) hx hb dX5_sheet_27 hl (by decide) rfl (fun ls hl => ?_)
        refine lv_iload_n hx hb dX5_sheet_29 rfl (lv_at hl 2 rfl) ?_
        obtain ⟨r51, h50, hF⟩ := bi_some hF
        refine k_i hS (kS_run M hS hP ok_X5_199 (c_X5_isSheet l G a1 v r51 h50) rfl hl.1 rfl (Nat.le_of_ble_eq_true rfl) ⟨rfl, rfl⟩ ⟨Nat.le_of_ble_eq_true rfl, Nat.le_of_ble_eq_true rfl⟩ dX5_sheet_30) (fun H locs hP hS => ?_)
        refine lv_if_eq (tgt := 41) hx hb dX5_sheet_33 (by decide) (fun c52 => ?_) (fun c52 => ?_)
        · replace hF := (if_neg (bI_f c52)).symm.trans hF
          refine lv_aload_n hx hb dX5_sheet_41 rfl (lv_at hl 1 rfl) ?_
          refine lv_iconst (v := 0) hx hb dX5_sheet_42 (by decide) ?_
          obtain ⟨⟨r54, v55⟩, h53, hF⟩ := bi_some hF
          dsimp only at hF
          refine k_i hS (kV_run M hS hP ok_X5_48 (c_X5_finding l G 0 v r54 v55 h53) (rc_5 M hP rfl) rfl hl.1 rfl (Nat.le_of_ble_eq_true rfl) ⟨rfl, rfl⟩ ⟨Nat.le_of_ble_eq_true rfl, Nat.le_of_ble_eq_true rfl⟩ dX5_sheet_43) (fun H locs hP hS => ?_)
          exact ret_i M hS hP (Option.some.inj hF) dX5_sheet_46
        · replace hF := (if_pos (bI_t c52)).symm.trans hF
          refine lv_iload hx hb dX5_sheet_36 (lv_at hl 0 rfl) ?_
          refine lv_if_ne (tgt := 47) hx hb dX5_sheet_38 (by decide) (fun c57 => ?_) (fun c57 => ?_)
          · refine lv_iload_n hx hb dX5_sheet_47 rfl (lv_at hl 4 rfl) ?_
            refine lv_if_ge (tgt := 58) hx hb dX5_sheet_48 (by decide) (fun c58 => ?_) (fun c58 => ?_)
            · replace hF := (if_pos c58).symm.trans hF
              refine lv_iload_n hx hb dX5_sheet_58 rfl (lv_at hl 4 rfl) ?_
              refine lv_bipush (v := 40) hx hb dX5_sheet_59 (by decide) ?_
              refine lv_icmp_le (tgt := 70) hx hb dX5_sheet_61 (by decide) (fun c59 => ?_) (fun c59 => ?_)
              · replace hF := (if_pos c59).symm.trans hF
                refine lv_aload_n hx hb dX5_sheet_70 rfl (lv_at hl 1 rfl) ?_
                refine fg_5_31 M hP dX5_sheet_71 ?_
                refine lv_iload_n hx hb dX5_sheet_74 rfl (lv_at hl 2 rfl) ?_
                obtain ⟨g60, hF⟩ := gu_some hF
                refine r_aald11 (k := (a1).toNatClampNeg) M hP rfl rfl (in_c g60) rfl dX5_sheet_75 ?_
                refine lv_iload_n hx hb dX5_sheet_76 rfl (lv_at hl 3 rfl) ?_
                refine lv_iload_n hx hb dX5_sheet_77 rfl (lv_at hl 4 rfl) ?_
                obtain ⟨v63, h61, hF⟩ := bi_some hF
                refine k_v hS (kV_run M hS hP ok_X5_202 (c_X3_begin l G (14 + 1 + ((a1).toNatClampNeg)) (ge_11k (i := 14) (k := (a1).toNatClampNeg) rfl (vin_lt (in_c g60))) a2 a3 v v63 h61) (rc_3 M hP (ge_11k (i := 14) (k := (a1).toNatClampNeg) rfl (vin_lt (in_c g60)))) rfl hl.1 rfl (Nat.le_of_ble_eq_true rfl) ⟨rfl, rfl⟩ ⟨Nat.le_of_ble_eq_true rfl, Nat.le_of_ble_eq_true rfl⟩ dX5_sheet_78) (fun H locs hP hS => ?_)
                refine lv_aload_n hx hb dX5_sheet_81 rfl (lv_at hl 1 rfl) ?_
                refine fg_5_31 M hP dX5_sheet_82 ?_
                refine lv_iload_n hx hb dX5_sheet_85 rfl (lv_at hl 2 rfl) ?_
                obtain ⟨g64, hF⟩ := gu_some hF
                refine r_aald11 (k := (a1).toNatClampNeg) M hP rfl rfl (in_c g64) rfl dX5_sheet_86 ?_
                refine fg_5_205 M hP (ge_11k (i := 14) (k := (a1).toNatClampNeg) rfl (vin_lt (in_c g64))) dX5_sheet_87 ?_
                exact ret_i M hS hP (Option.some.inj hF) dX5_sheet_90
              · replace hF := (if_neg c59).symm.trans hF
                refine lv_aload_n hx hb dX5_sheet_64 rfl (lv_at hl 1 rfl) ?_
                refine lv_iconst (v := 0) hx hb dX5_sheet_65 (by decide) ?_
                obtain ⟨⟨r66, v67⟩, h65, hF⟩ := bi_some hF
                dsimp only at hF
                refine k_i hS (kV_run M hS hP ok_X5_48 (c_X5_finding l G 0 v r66 v67 h65) (rc_5 M hP rfl) rfl hl.1 rfl (Nat.le_of_ble_eq_true rfl) ⟨rfl, rfl⟩ ⟨Nat.le_of_ble_eq_true rfl, Nat.le_of_ble_eq_true rfl⟩ dX5_sheet_66) (fun H locs hP hS => ?_)
                exact ret_i M hS hP (Option.some.inj hF) dX5_sheet_69
            · replace hF := (if_neg c58).symm.trans hF
              refine lv_aload_n hx hb dX5_sheet_51 rfl (lv_at hl 1 rfl) ?_
              refine lv_bipush (v := 6) hx hb dX5_sheet_52 (by decide) ?_
              obtain ⟨⟨r70, v71⟩, h69, hF⟩ := bi_some hF
              dsimp only at hF
              refine k_i hS (kV_run M hS hP ok_X5_48 (c_X5_finding l G 6 v r70 v71 h69) (rc_5 M hP rfl) rfl hl.1 rfl (Nat.le_of_ble_eq_true rfl) ⟨rfl, rfl⟩ ⟨Nat.le_of_ble_eq_true rfl, Nat.le_of_ble_eq_true rfl⟩ dX5_sheet_54) (fun H locs hP hS => ?_)
              exact ret_i M hS hP (Option.some.inj hF) dX5_sheet_57
          · exact absurd c57 (by decide)
      · replace hF := (if_neg c49).symm.trans hF
        refine lv_iload_n hx hb dX5_sheet_16 rfl (lv_at hl 2 rfl) ?_
        refine lv_bipush (v := 32) hx hb dX5_sheet_17 (by decide) ?_
        refine lv_icmp_ne (tgt := 26) hx hb dX5_sheet_19 (by decide) (fun c73 => ?_) (fun c73 => ?_)
        · replace hF := (if_neg c73).symm.trans hF
          refine lv_iconst (v := 0) hx hb dX5_sheet_26 (by decide) ?_
          refine lv_istore (lv' := [(4, .int 0), (0, .ref (ad G 12)), (1, .int a1), (2, .int a2), (3, .int a3)]) hx hb dX5_sheet_27 hl (by decide) rfl (fun ls hl => ?_)
          refine lv_iload_n hx hb dX5_sheet_29 rfl (lv_at hl 2 rfl) ?_
          obtain ⟨r75, h74, hF⟩ := bi_some hF
          refine k_i hS (kS_run M hS hP ok_X5_199 (c_X5_isSheet l G a1 v r75 h74) rfl hl.1 rfl (Nat.le_of_ble_eq_true rfl) ⟨rfl, rfl⟩ ⟨Nat.le_of_ble_eq_true rfl, Nat.le_of_ble_eq_true rfl⟩ dX5_sheet_30) (fun H locs hP hS => ?_)
          refine lv_if_eq (tgt := 41) hx hb dX5_sheet_33 (by decide) (fun c76 => ?_) (fun c76 => ?_)
          · replace hF := (if_neg (bI_f c76)).symm.trans hF
            refine lv_aload_n hx hb dX5_sheet_41 rfl (lv_at hl 1 rfl) ?_
            refine lv_iconst (v := 0) hx hb dX5_sheet_42 (by decide) ?_
            obtain ⟨⟨r78, v79⟩, h77, hF⟩ := bi_some hF
            dsimp only at hF
            refine k_i hS (kV_run M hS hP ok_X5_48 (c_X5_finding l G 0 v r78 v79 h77) (rc_5 M hP rfl) rfl hl.1 rfl (Nat.le_of_ble_eq_true rfl) ⟨rfl, rfl⟩ ⟨Nat.le_of_ble_eq_true rfl, Nat.le_of_ble_eq_true rfl⟩ dX5_sheet_43) (fun H locs hP hS => ?_)
            exact ret_i M hS hP (Option.some.inj hF) dX5_sheet_46
          · replace hF := (if_pos (bI_t c76)).symm.trans hF
            refine lv_iload hx hb dX5_sheet_36 (lv_at hl 0 rfl) ?_
            refine lv_if_ne (tgt := 47) hx hb dX5_sheet_38 (by decide) (fun c81 => ?_) (fun c81 => ?_)
            · exact absurd c81 (by decide)
            · refine lv_aload_n hx hb dX5_sheet_41 rfl (lv_at hl 1 rfl) ?_
              refine lv_iconst (v := 0) hx hb dX5_sheet_42 (by decide) ?_
              obtain ⟨⟨r83, v84⟩, h82, hF⟩ := bi_some hF
              dsimp only at hF
              refine k_i hS (kV_run M hS hP ok_X5_48 (c_X5_finding l G 0 v r83 v84 h82) (rc_5 M hP rfl) rfl hl.1 rfl (Nat.le_of_ble_eq_true rfl) ⟨rfl, rfl⟩ ⟨Nat.le_of_ble_eq_true rfl, Nat.le_of_ble_eq_true rfl⟩ dX5_sheet_43) (fun H locs hP hS => ?_)
              exact ret_i M hS hP (Option.some.inj hF) dX5_sheet_46
        · replace hF := (if_pos c73).symm.trans hF
          refine lv_iconst (v := 1) hx hb dX5_sheet_22 (by decide) ?_
          refine lv_goto (tgt := 27) hx hb dX5_sheet_23 (by decide) ?_
          refine lv_istore (lv' := [(4, .int 1), (0, .ref (ad G 12)), (1, .int a1), (2, .int a2), (3, .int a3)]) hx hb dX5_sheet_27 hl (by decide) rfl (fun ls hl => ?_)
          refine lv_iload_n hx hb dX5_sheet_29 rfl (lv_at hl 2 rfl) ?_
          obtain ⟨r87, h86, hF⟩ := bi_some hF
          refine k_i hS (kS_run M hS hP ok_X5_199 (c_X5_isSheet l G a1 v r87 h86) rfl hl.1 rfl (Nat.le_of_ble_eq_true rfl) ⟨rfl, rfl⟩ ⟨Nat.le_of_ble_eq_true rfl, Nat.le_of_ble_eq_true rfl⟩ dX5_sheet_30) (fun H locs hP hS => ?_)
          refine lv_if_eq (tgt := 41) hx hb dX5_sheet_33 (by decide) (fun c88 => ?_) (fun c88 => ?_)
          · replace hF := (if_neg (bI_f c88)).symm.trans hF
            refine lv_aload_n hx hb dX5_sheet_41 rfl (lv_at hl 1 rfl) ?_
            refine lv_iconst (v := 0) hx hb dX5_sheet_42 (by decide) ?_
            obtain ⟨⟨r90, v91⟩, h89, hF⟩ := bi_some hF
            dsimp only at hF
            refine k_i hS (kV_run M hS hP ok_X5_48 (c_X5_finding l G 0 v r90 v91 h89) (rc_5 M hP rfl) rfl hl.1 rfl (Nat.le_of_ble_eq_true rfl) ⟨rfl, rfl⟩ ⟨Nat.le_of_ble_eq_true rfl, Nat.le_of_ble_eq_true rfl⟩ dX5_sheet_43) (fun H locs hP hS => ?_)
            exact ret_i M hS hP (Option.some.inj hF) dX5_sheet_46
          · replace hF := (if_pos (bI_t c88)).symm.trans hF
            refine lv_iload hx hb dX5_sheet_36 (lv_at hl 0 rfl) ?_
            refine lv_if_ne (tgt := 47) hx hb dX5_sheet_38 (by decide) (fun c93 => ?_) (fun c93 => ?_)
            · refine lv_iload_n hx hb dX5_sheet_47 rfl (lv_at hl 4 rfl) ?_
              refine lv_if_ge (tgt := 58) hx hb dX5_sheet_48 (by decide) (fun c94 => ?_) (fun c94 => ?_)
              · replace hF := (if_pos c94).symm.trans hF
                refine lv_iload_n hx hb dX5_sheet_58 rfl (lv_at hl 4 rfl) ?_
                refine lv_bipush (v := 40) hx hb dX5_sheet_59 (by decide) ?_
                refine lv_icmp_le (tgt := 70) hx hb dX5_sheet_61 (by decide) (fun c95 => ?_) (fun c95 => ?_)
                · replace hF := (if_pos c95).symm.trans hF
                  refine lv_aload_n hx hb dX5_sheet_70 rfl (lv_at hl 1 rfl) ?_
                  refine fg_5_31 M hP dX5_sheet_71 ?_
                  refine lv_iload_n hx hb dX5_sheet_74 rfl (lv_at hl 2 rfl) ?_
                  obtain ⟨g96, hF⟩ := gu_some hF
                  refine r_aald11 (k := (a1).toNatClampNeg) M hP rfl rfl (in_c g96) rfl dX5_sheet_75 ?_
                  refine lv_iload_n hx hb dX5_sheet_76 rfl (lv_at hl 3 rfl) ?_
                  refine lv_iload_n hx hb dX5_sheet_77 rfl (lv_at hl 4 rfl) ?_
                  obtain ⟨v99, h97, hF⟩ := bi_some hF
                  refine k_v hS (kV_run M hS hP ok_X5_202 (c_X3_begin l G (14 + 1 + ((a1).toNatClampNeg)) (ge_11k (i := 14) (k := (a1).toNatClampNeg) rfl (vin_lt (in_c g96))) a2 a3 v v99 h97) (rc_3 M hP (ge_11k (i := 14) (k := (a1).toNatClampNeg) rfl (vin_lt (in_c g96)))) rfl hl.1 rfl (Nat.le_of_ble_eq_true rfl) ⟨rfl, rfl⟩ ⟨Nat.le_of_ble_eq_true rfl, Nat.le_of_ble_eq_true rfl⟩ dX5_sheet_78) (fun H locs hP hS => ?_)
                  refine lv_aload_n hx hb dX5_sheet_81 rfl (lv_at hl 1 rfl) ?_
                  refine fg_5_31 M hP dX5_sheet_82 ?_
                  refine lv_iload_n hx hb dX5_sheet_85 rfl (lv_at hl 2 rfl) ?_
                  obtain ⟨g100, hF⟩ := gu_some hF
                  refine r_aald11 (k := (a1).toNatClampNeg) M hP rfl rfl (in_c g100) rfl dX5_sheet_86 ?_
                  refine fg_5_205 M hP (ge_11k (i := 14) (k := (a1).toNatClampNeg) rfl (vin_lt (in_c g100))) dX5_sheet_87 ?_
                  exact ret_i M hS hP (Option.some.inj hF) dX5_sheet_90
                · replace hF := (if_neg c95).symm.trans hF
                  refine lv_aload_n hx hb dX5_sheet_64 rfl (lv_at hl 1 rfl) ?_
                  refine lv_iconst (v := 0) hx hb dX5_sheet_65 (by decide) ?_
                  obtain ⟨⟨r102, v103⟩, h101, hF⟩ := bi_some hF
                  dsimp only at hF
                  refine k_i hS (kV_run M hS hP ok_X5_48 (c_X5_finding l G 0 v r102 v103 h101) (rc_5 M hP rfl) rfl hl.1 rfl (Nat.le_of_ble_eq_true rfl) ⟨rfl, rfl⟩ ⟨Nat.le_of_ble_eq_true rfl, Nat.le_of_ble_eq_true rfl⟩ dX5_sheet_66) (fun H locs hP hS => ?_)
                  exact ret_i M hS hP (Option.some.inj hF) dX5_sheet_69
              · replace hF := (if_neg c94).symm.trans hF
                refine lv_aload_n hx hb dX5_sheet_51 rfl (lv_at hl 1 rfl) ?_
                refine lv_bipush (v := 6) hx hb dX5_sheet_52 (by decide) ?_
                obtain ⟨⟨r106, v107⟩, h105, hF⟩ := bi_some hF
                dsimp only at hF
                refine k_i hS (kV_run M hS hP ok_X5_48 (c_X5_finding l G 6 v r106 v107 h105) (rc_5 M hP rfl) rfl hl.1 rfl (Nat.le_of_ble_eq_true rfl) ⟨rfl, rfl⟩ ⟨Nat.le_of_ble_eq_true rfl, Nat.le_of_ble_eq_true rfl⟩ dX5_sheet_54) (fun H locs hP hS => ?_)
                exact ret_i M hS hP (Option.some.inj hF) dX5_sheet_57
            · exact absurd c93 (by decide)
def F_X5_write (a1 : Int32) (a2 : Int32) (a3 : Int32) (v : VV) : Option (Int32 × VV) :=
  Option.bind (F_X5_findingOfSheet a1 v) (fun (r2, v3) => (if r2 = 0 then (gu (gI a1 4) (Option.bind (F_X5_isUpTo a2 ((v3 (14 + 1 + ((a1).toNatClampNeg)) 2) - 1) v3) (fun r8 => (if r8 = true then (gu (gI a1 4) (Option.bind (F_X3_put (14 + 1 + ((a1).toNatClampNeg)) a2 a3 v3) (fun v13 => some (1, v13)))) else (Option.bind (F_X5_finding 0 v3) (fun (r15, v16) => some (r15, v16))))))) else (some (r2, v3))))
set_option maxHeartbeats 4000000 in
set_option maxRecDepth 100000 in
theorem c_X5_write (l : Launch) (G : GG) (a1 : Int32) (a2 : Int32) (a3 : Int32) (v : VV) (r : Int32) (v' : VV) (hF : F_X5_write a1 a2 a3 v = some (r, v')) : Met l yX5_write (cdW yX5_write cX5_write 5 (some .int)) ({ frames := 2, cells := 0, slots := 0, locals := 42 } : Room) (PC G v [.ref (ad G 12), .int a1, .int a2, .int a3]) (QI G r v') 0 0 (gA G) := by
  refine met_in RX5 (by decide) rfl (Nat.le_of_ble_eq_true rfl) ?_
  intro p e s m below meth c M hP ls hl
  have hx := M.1.1
  have hb := M.1.2.1
  have hS : va_S (gA G) s.heap s.heap [] := va_S.rf
  have hl : lv_has ls 5 [(0, .ref (ad G 12)), (1, .int a1), (2, .int a2), (3, .int a3)] := hl
  unfold F_X5_write at hF
  refine lv_aload_n hx hb dX5_write_0 rfl (lv_at hl 0 rfl) ?_
  refine lv_iload_n hx hb dX5_write_1 rfl (lv_at hl 1 rfl) ?_
  obtain ⟨⟨r2, v3⟩, h1, hF⟩ := bi_some hF
  dsimp only at hF
  refine k_i hS (kV_run M hS hP ok_X5_156 (c_X5_findingOfSheet l G a1 v r2 v3 h1) (rc_5 M hP rfl) rfl hl.1 rfl (Nat.le_of_ble_eq_true rfl) ⟨rfl, rfl⟩ ⟨Nat.le_of_ble_eq_true rfl, Nat.le_of_ble_eq_true rfl⟩ dX5_write_2) (fun H locs hP hS => ?_)
  refine lv_istore (lv' := [(4, .int r2), (0, .ref (ad G 12)), (1, .int a1), (2, .int a2), (3, .int a3)]) hx hb dX5_write_5 hl (by decide) rfl (fun ls hl => ?_)
  refine lv_iload hx hb dX5_write_7 (lv_at hl 0 rfl) ?_
  refine lv_if_eq (tgt := 15) hx hb dX5_write_9 (by decide) (fun c5 => ?_) (fun c5 => ?_)
  · replace hF := (if_pos c5).symm.trans hF
    refine lv_iload_n hx hb dX5_write_15 rfl (lv_at hl 3 rfl) ?_
    refine lv_aload_n hx hb dX5_write_16 rfl (lv_at hl 1 rfl) ?_
    refine fg_5_31 M hP dX5_write_17 ?_
    refine lv_iload_n hx hb dX5_write_20 rfl (lv_at hl 2 rfl) ?_
    obtain ⟨g6, hF⟩ := gu_some hF
    refine r_aald11 (k := (a1).toNatClampNeg) M hP rfl rfl (in_c g6) rfl dX5_write_21 ?_
    refine fg_5_205 M hP (ge_11k (i := 14) (k := (a1).toNatClampNeg) rfl (vin_lt (in_c g6))) dX5_write_22 ?_
    refine lv_iconst (v := 1) hx hb dX5_write_25 (by decide) ?_
    refine lv_isub hx hb dX5_write_26 ?_
    obtain ⟨r8, h7, hF⟩ := bi_some hF
    refine k_i hS (kS_run M hS hP ok_X5_44 (c_X5_isUpTo l G a2 ((v3 (14 + 1 + ((a1).toNatClampNeg)) 2) - 1) v3 r8 h7) rfl hl.1 rfl (Nat.le_of_ble_eq_true rfl) ⟨rfl, rfl⟩ ⟨Nat.le_of_ble_eq_true rfl, Nat.le_of_ble_eq_true rfl⟩ dX5_write_27) (fun H locs hP hS => ?_)
    refine lv_if_ne (tgt := 39) hx hb dX5_write_30 (by decide) (fun c9 => ?_) (fun c9 => ?_)
    · replace hF := (if_pos (bI_t c9)).symm.trans hF
      refine lv_aload_n hx hb dX5_write_39 rfl (lv_at hl 1 rfl) ?_
      refine fg_5_31 M hP dX5_write_40 ?_
      refine lv_iload_n hx hb dX5_write_43 rfl (lv_at hl 2 rfl) ?_
      obtain ⟨g10, hF⟩ := gu_some hF
      refine r_aald11 (k := (a1).toNatClampNeg) M hP rfl rfl (in_c g10) rfl dX5_write_44 ?_
      refine lv_iload_n hx hb dX5_write_45 rfl (lv_at hl 3 rfl) ?_
      refine lv_iload_n hx hb dX5_write_46 rfl (lv_at hl 4 rfl) ?_
      obtain ⟨v13, h11, hF⟩ := bi_some hF
      refine k_v hS (kV_run M hS hP ok_X5_206 (c_X3_put l G (14 + 1 + ((a1).toNatClampNeg)) (ge_11k (i := 14) (k := (a1).toNatClampNeg) rfl (vin_lt (in_c g10))) a2 a3 v3 v13 h11) (rc_3 M hP (ge_11k (i := 14) (k := (a1).toNatClampNeg) rfl (vin_lt (in_c g10)))) rfl hl.1 rfl (Nat.le_of_ble_eq_true rfl) ⟨rfl, rfl⟩ ⟨Nat.le_of_ble_eq_true rfl, Nat.le_of_ble_eq_true rfl⟩ dX5_write_47) (fun H locs hP hS => ?_)
      refine lv_iconst (v := 1) hx hb dX5_write_50 (by decide) ?_
      exact ret_i M hS hP (Option.some.inj hF) dX5_write_51
    · replace hF := (if_neg (bI_f c9)).symm.trans hF
      refine lv_aload_n hx hb dX5_write_33 rfl (lv_at hl 1 rfl) ?_
      refine lv_iconst (v := 0) hx hb dX5_write_34 (by decide) ?_
      obtain ⟨⟨r15, v16⟩, h14, hF⟩ := bi_some hF
      dsimp only at hF
      refine k_i hS (kV_run M hS hP ok_X5_48 (c_X5_finding l G 0 v3 r15 v16 h14) (rc_5 M hP rfl) rfl hl.1 rfl (Nat.le_of_ble_eq_true rfl) ⟨rfl, rfl⟩ ⟨Nat.le_of_ble_eq_true rfl, Nat.le_of_ble_eq_true rfl⟩ dX5_write_35) (fun H locs hP hS => ?_)
      exact ret_i M hS hP (Option.some.inj hF) dX5_write_38
  · replace hF := (if_neg c5).symm.trans hF
    refine lv_iload hx hb dX5_write_12 (lv_at hl 0 rfl) ?_
    exact ret_i M hS hP (Option.some.inj hF) dX5_write_14
def F_X5_copy (a1 : Int32) (a2 : Int32) (a3 : Int32) (a4 : Int32) (a5 : Int32) (v : VV) : Option (Int32 × VV) :=
  Option.bind (F_X5_isSheet a1 v) (fun r2 => (if r2 = true then (Option.bind (F_X5_isSheet a3 v) (fun r9 => (if r9 = true then (gu (gI a1 4) (Option.bind (F_X3_isMissing (14 + 1 + ((a1).toNatClampNeg)) v) (fun r13 => (if r13 = true then (Option.bind (F_X5_finding 5 v) (fun (r16, v17) => some (r16, v17))) else (gu (gI a3 4) (Option.bind (F_X3_isMissing (14 + 1 + ((a3).toNatClampNeg)) v) (fun r21 => (if r21 = true then (Option.bind (F_X5_finding 5 v) (fun (r50, v51) => some (r50, v51))) else (gu (gI a1 4) (gu (gI a3 4) ((if (v (14 + 1 + ((a1).toNatClampNeg)) 1) = (v (14 + 1 + ((a3).toNatClampNeg)) 1) then (gu (gI a1 4) (Option.bind (F_X3_hasRun (14 + 1 + ((a1).toNatClampNeg)) a2 a5 v) (fun r28 => (if r28 = true then (gu (gI a3 4) (Option.bind (F_X3_hasRun (14 + 1 + ((a3).toNatClampNeg)) a4 a5 v) (fun r36 => (if r36 = true then (gu (gI a1 4) (gu (gI a3 4) (gu (gC a2 a4 a5 40 40) (some (a5, cpy v ((14 + 1 + ((a1).toNatClampNeg)) + 4) ((14 + 1 + ((a3).toNatClampNeg)) + 4) a2 a4 a5))))) else (Option.bind (F_X5_finding 0 v) (fun (r42, v43) => some (r42, v43))))))) else (Option.bind (F_X5_finding 0 v) (fun (r31, v32) => some (r31, v32))))))) else (Option.bind (F_X5_finding 2 v) (fun (r46, v47) => some (r46, v47))))))))))))))) else (Option.bind (F_X5_finding 0 v) (fun (r54, v55) => some (r54, v55)))))) else (Option.bind (F_X5_finding 0 v) (fun (r5, v6) => some (r5, v6)))))
set_option maxHeartbeats 4000000 in
set_option maxRecDepth 100000 in
theorem c_X5_copy (l : Launch) (G : GG) (a1 : Int32) (a2 : Int32) (a3 : Int32) (a4 : Int32) (a5 : Int32) (v : VV) (r : Int32) (v' : VV) (hF : F_X5_copy a1 a2 a3 a4 a5 v = some (r, v')) : Met l yX5_copy (cdW yX5_copy cX5_copy 6 (some .int)) ({ frames := 1, cells := 0, slots := 0, locals := 26 } : Room) (PC G v [.ref (ad G 12), .int a1, .int a2, .int a3, .int a4, .int a5]) (QI G r v') 0 0 (gA G) := by
  refine met_in RX5 (by decide) rfl (Nat.le_of_ble_eq_true rfl) ?_
  intro p e s m below meth c M hP ls hl
  have hx := M.1.1
  have hb := M.1.2.1
  have hS : va_S (gA G) s.heap s.heap [] := va_S.rf
  have hl : lv_has ls 6 [(0, .ref (ad G 12)), (1, .int a1), (2, .int a2), (3, .int a3), (4, .int a4), (5, .int a5)] := hl
  unfold F_X5_copy at hF
  refine lv_iload_n hx hb dX5_copy_0 rfl (lv_at hl 1 rfl) ?_
  obtain ⟨r2, h1, hF⟩ := bi_some hF
  refine k_i hS (kS_run M hS hP ok_X5_199 (c_X5_isSheet l G a1 v r2 h1) rfl hl.1 rfl (Nat.le_of_ble_eq_true rfl) ⟨rfl, rfl⟩ ⟨Nat.le_of_ble_eq_true rfl, Nat.le_of_ble_eq_true rfl⟩ dX5_copy_1) (fun H locs hP hS => ?_)
  refine lv_if_eq (tgt := 14) hx hb dX5_copy_4 (by decide) (fun c3 => ?_) (fun c3 => ?_)
  · replace hF := (if_neg (bI_f c3)).symm.trans hF
    refine lv_aload_n hx hb dX5_copy_14 rfl (lv_at hl 0 rfl) ?_
    refine lv_iconst (v := 0) hx hb dX5_copy_15 (by decide) ?_
    obtain ⟨⟨r5, v6⟩, h4, hF⟩ := bi_some hF
    dsimp only at hF
    refine k_i hS (kV_run M hS hP ok_X5_48 (c_X5_finding l G 0 v r5 v6 h4) (rc_5 M hP rfl) rfl hl.1 rfl (Nat.le_of_ble_eq_true rfl) ⟨rfl, rfl⟩ ⟨Nat.le_of_ble_eq_true rfl, Nat.le_of_ble_eq_true rfl⟩ dX5_copy_16) (fun H locs hP hS => ?_)
    exact ret_i M hS hP (Option.some.inj hF) dX5_copy_19
  · replace hF := (if_pos (bI_t c3)).symm.trans hF
    refine lv_iload_n hx hb dX5_copy_7 rfl (lv_at hl 3 rfl) ?_
    obtain ⟨r9, h8, hF⟩ := bi_some hF
    refine k_i hS (kS_run M hS hP ok_X5_199 (c_X5_isSheet l G a3 v r9 h8) rfl hl.1 rfl (Nat.le_of_ble_eq_true rfl) ⟨rfl, rfl⟩ ⟨Nat.le_of_ble_eq_true rfl, Nat.le_of_ble_eq_true rfl⟩ dX5_copy_8) (fun H locs hP hS => ?_)
    refine lv_if_ne (tgt := 20) hx hb dX5_copy_11 (by decide) (fun c10 => ?_) (fun c10 => ?_)
    · replace hF := (if_pos (bI_t c10)).symm.trans hF
      refine lv_aload_n hx hb dX5_copy_20 rfl (lv_at hl 0 rfl) ?_
      refine fg_5_31 M hP dX5_copy_21 ?_
      refine lv_iload_n hx hb dX5_copy_24 rfl (lv_at hl 1 rfl) ?_
      obtain ⟨g11, hF⟩ := gu_some hF
      refine r_aald11 (k := (a1).toNatClampNeg) M hP rfl rfl (in_c g11) rfl dX5_copy_25 ?_
      obtain ⟨r13, h12, hF⟩ := bi_some hF
      refine k_i hS (kV_run M hS hP ok_X5_209 (c_X3_isMissing l G (14 + 1 + ((a1).toNatClampNeg)) (ge_11k (i := 14) (k := (a1).toNatClampNeg) rfl (vin_lt (in_c g11))) v r13 h12) (rc_3 M hP (ge_11k (i := 14) (k := (a1).toNatClampNeg) rfl (vin_lt (in_c g11)))) rfl hl.1 rfl (Nat.le_of_ble_eq_true rfl) ⟨rfl, rfl⟩ ⟨Nat.le_of_ble_eq_true rfl, Nat.le_of_ble_eq_true rfl⟩ dX5_copy_26) (fun H locs hP hS => ?_)
      refine lv_if_ne (tgt := 44) hx hb dX5_copy_29 (by decide) (fun c14 => ?_) (fun c14 => ?_)
      · replace hF := (if_pos (bI_t c14)).symm.trans hF
        refine lv_aload_n hx hb dX5_copy_44 rfl (lv_at hl 0 rfl) ?_
        refine lv_iconst (v := 5) hx hb dX5_copy_45 (by decide) ?_
        obtain ⟨⟨r16, v17⟩, h15, hF⟩ := bi_some hF
        dsimp only at hF
        refine k_i hS (kV_run M hS hP ok_X5_48 (c_X5_finding l G 5 v r16 v17 h15) (rc_5 M hP rfl) rfl hl.1 rfl (Nat.le_of_ble_eq_true rfl) ⟨rfl, rfl⟩ ⟨Nat.le_of_ble_eq_true rfl, Nat.le_of_ble_eq_true rfl⟩ dX5_copy_46) (fun H locs hP hS => ?_)
        exact ret_i M hS hP (Option.some.inj hF) dX5_copy_49
      · replace hF := (if_neg (bI_f c14)).symm.trans hF
        refine lv_aload_n hx hb dX5_copy_32 rfl (lv_at hl 0 rfl) ?_
        refine fg_5_31 M hP dX5_copy_33 ?_
        refine lv_iload_n hx hb dX5_copy_36 rfl (lv_at hl 3 rfl) ?_
        obtain ⟨g19, hF⟩ := gu_some hF
        refine r_aald11 (k := (a3).toNatClampNeg) M hP rfl rfl (in_c g19) rfl dX5_copy_37 ?_
        obtain ⟨r21, h20, hF⟩ := bi_some hF
        refine k_i hS (kV_run M hS hP ok_X5_209 (c_X3_isMissing l G (14 + 1 + ((a3).toNatClampNeg)) (ge_11k (i := 14) (k := (a3).toNatClampNeg) rfl (vin_lt (in_c g19))) v r21 h20) (rc_3 M hP (ge_11k (i := 14) (k := (a3).toNatClampNeg) rfl (vin_lt (in_c g19)))) rfl hl.1 rfl (Nat.le_of_ble_eq_true rfl) ⟨rfl, rfl⟩ ⟨Nat.le_of_ble_eq_true rfl, Nat.le_of_ble_eq_true rfl⟩ dX5_copy_38) (fun H locs hP hS => ?_)
        refine lv_if_eq (tgt := 50) hx hb dX5_copy_41 (by decide) (fun c22 => ?_) (fun c22 => ?_)
        · replace hF := (if_neg (bI_f c22)).symm.trans hF
          refine lv_aload_n hx hb dX5_copy_50 rfl (lv_at hl 0 rfl) ?_
          refine fg_5_31 M hP dX5_copy_51 ?_
          refine lv_iload_n hx hb dX5_copy_54 rfl (lv_at hl 1 rfl) ?_
          obtain ⟨g23, hF⟩ := gu_some hF
          refine r_aald11 (k := (a1).toNatClampNeg) M hP rfl rfl (in_c g23) rfl dX5_copy_55 ?_
          refine fg_5_212 M hP (ge_11k (i := 14) (k := (a1).toNatClampNeg) rfl (vin_lt (in_c g23))) dX5_copy_56 ?_
          refine lv_aload_n hx hb dX5_copy_59 rfl (lv_at hl 0 rfl) ?_
          refine fg_5_31 M hP dX5_copy_60 ?_
          refine lv_iload_n hx hb dX5_copy_63 rfl (lv_at hl 3 rfl) ?_
          obtain ⟨g24, hF⟩ := gu_some hF
          refine r_aald11 (k := (a3).toNatClampNeg) M hP rfl rfl (in_c g24) rfl dX5_copy_64 ?_
          refine fg_5_212 M hP (ge_11k (i := 14) (k := (a3).toNatClampNeg) rfl (vin_lt (in_c g24))) dX5_copy_65 ?_
          refine lv_icmp_eq (tgt := 77) hx hb dX5_copy_68 (by decide) (fun c25 => ?_) (fun c25 => ?_)
          · replace hF := (if_pos c25).symm.trans hF
            refine lv_aload_n hx hb dX5_copy_77 rfl (lv_at hl 0 rfl) ?_
            refine fg_5_31 M hP dX5_copy_78 ?_
            refine lv_iload_n hx hb dX5_copy_81 rfl (lv_at hl 1 rfl) ?_
            obtain ⟨g26, hF⟩ := gu_some hF
            refine r_aald11 (k := (a1).toNatClampNeg) M hP rfl rfl (in_c g26) rfl dX5_copy_82 ?_
            refine lv_iload_n hx hb dX5_copy_83 rfl (lv_at hl 2 rfl) ?_
            refine lv_iload hx hb dX5_copy_84 (lv_at hl 5 rfl) ?_
            obtain ⟨r28, h27, hF⟩ := bi_some hF
            refine k_i hS (kV_run M hS hP ok_X5_215 (c_X3_hasRun l G (14 + 1 + ((a1).toNatClampNeg)) (ge_11k (i := 14) (k := (a1).toNatClampNeg) rfl (vin_lt (in_c g26))) a2 a5 v r28 h27) (rc_3 M hP (ge_11k (i := 14) (k := (a1).toNatClampNeg) rfl (vin_lt (in_c g26)))) rfl hl.1 rfl (Nat.le_of_ble_eq_true rfl) ⟨rfl, rfl⟩ ⟨Nat.le_of_ble_eq_true rfl, Nat.le_of_ble_eq_true rfl⟩ dX5_copy_86) (fun H locs hP hS => ?_)
            refine lv_if_eq (tgt := 108) hx hb dX5_copy_89 (by decide) (fun c29 => ?_) (fun c29 => ?_)
            · replace hF := (if_neg (bI_f c29)).symm.trans hF
              refine lv_aload_n hx hb dX5_copy_108 rfl (lv_at hl 0 rfl) ?_
              refine lv_iconst (v := 0) hx hb dX5_copy_109 (by decide) ?_
              obtain ⟨⟨r31, v32⟩, h30, hF⟩ := bi_some hF
              dsimp only at hF
              refine k_i hS (kV_run M hS hP ok_X5_48 (c_X5_finding l G 0 v r31 v32 h30) (rc_5 M hP rfl) rfl hl.1 rfl (Nat.le_of_ble_eq_true rfl) ⟨rfl, rfl⟩ ⟨Nat.le_of_ble_eq_true rfl, Nat.le_of_ble_eq_true rfl⟩ dX5_copy_110) (fun H locs hP hS => ?_)
              exact ret_i M hS hP (Option.some.inj hF) dX5_copy_113
            · replace hF := (if_pos (bI_t c29)).symm.trans hF
              refine lv_aload_n hx hb dX5_copy_92 rfl (lv_at hl 0 rfl) ?_
              refine fg_5_31 M hP dX5_copy_93 ?_
              refine lv_iload_n hx hb dX5_copy_96 rfl (lv_at hl 3 rfl) ?_
              obtain ⟨g34, hF⟩ := gu_some hF
              refine r_aald11 (k := (a3).toNatClampNeg) M hP rfl rfl (in_c g34) rfl dX5_copy_97 ?_
              refine lv_iload hx hb dX5_copy_98 (lv_at hl 4 rfl) ?_
              refine lv_iload hx hb dX5_copy_100 (lv_at hl 5 rfl) ?_
              obtain ⟨r36, h35, hF⟩ := bi_some hF
              refine k_i hS (kV_run M hS hP ok_X5_215 (c_X3_hasRun l G (14 + 1 + ((a3).toNatClampNeg)) (ge_11k (i := 14) (k := (a3).toNatClampNeg) rfl (vin_lt (in_c g34))) a4 a5 v r36 h35) (rc_3 M hP (ge_11k (i := 14) (k := (a3).toNatClampNeg) rfl (vin_lt (in_c g34)))) rfl hl.1 rfl (Nat.le_of_ble_eq_true rfl) ⟨rfl, rfl⟩ ⟨Nat.le_of_ble_eq_true rfl, Nat.le_of_ble_eq_true rfl⟩ dX5_copy_102) (fun H locs hP hS => ?_)
              refine lv_if_ne (tgt := 114) hx hb dX5_copy_105 (by decide) (fun c37 => ?_) (fun c37 => ?_)
              · replace hF := (if_pos (bI_t c37)).symm.trans hF
                refine lv_aload_n hx hb dX5_copy_114 rfl (lv_at hl 0 rfl) ?_
                refine fg_5_31 M hP dX5_copy_115 ?_
                refine lv_iload_n hx hb dX5_copy_118 rfl (lv_at hl 1 rfl) ?_
                obtain ⟨g38, hF⟩ := gu_some hF
                refine r_aald11 (k := (a1).toNatClampNeg) M hP rfl rfl (in_c g38) rfl dX5_copy_119 ?_
                refine fg_5_218 M hP (ge_11k (i := 14) (k := (a1).toNatClampNeg) rfl (vin_lt (in_c g38))) dX5_copy_120 ?_
                refine lv_iload_n hx hb dX5_copy_123 rfl (lv_at hl 2 rfl) ?_
                refine lv_aload_n hx hb dX5_copy_124 rfl (lv_at hl 0 rfl) ?_
                refine fg_5_31 M hP dX5_copy_125 ?_
                refine lv_iload_n hx hb dX5_copy_128 rfl (lv_at hl 3 rfl) ?_
                obtain ⟨g39, hF⟩ := gu_some hF
                refine r_aald11 (k := (a3).toNatClampNeg) M hP rfl rfl (in_c g39) rfl dX5_copy_129 ?_
                refine fg_5_218 M hP (ge_11k (i := 14) (k := (a3).toNatClampNeg) rfl (vin_lt (in_c g39))) dX5_copy_130 ?_
                refine lv_iload hx hb dX5_copy_133 (lv_at hl 4 rfl) ?_
                refine lv_iload hx hb dX5_copy_135 (lv_at hl 5 rfl) ?_
                obtain ⟨g40, hF⟩ := gu_some hF
                refine r_copy_X5_221 M hl.1 hS hP (ge_3k (i := (14 + 1 + ((a1).toNatClampNeg))) (ge_11k (i := 14) (k := (a1).toNatClampNeg) rfl (vin_lt (in_c g38)))) (ge_3l (i := (14 + 1 + ((a1).toNatClampNeg))) (ge_11k (i := 14) (k := (a1).toNatClampNeg) rfl (vin_lt (in_c g38)))) (ge_3k (i := (14 + 1 + ((a3).toNatClampNeg))) (ge_11k (i := 14) (k := (a3).toNatClampNeg) rfl (vin_lt (in_c g39)))) (ge_3l (i := (14 + 1 + ((a3).toNatClampNeg))) (ge_11k (i := 14) (k := (a3).toNatClampNeg) rfl (vin_lt (in_c g39)))) g40 (Nat.le_of_ble_eq_true rfl) (Nat.le_of_ble_eq_true rfl) dX5_copy_137 (fun H locs hP hS => ?_)
                have hP : Wd G (cpy v ((14 + 1 + ((a1).toNatClampNeg)) + 4) ((14 + 1 + ((a3).toNatClampNeg)) + 4) a2 a4 a5) H := hP
                refine lv_iload hx hb dX5_copy_140 (lv_at hl 5 rfl) ?_
                exact ret_i M hS hP (Option.some.inj hF) dX5_copy_142
              · replace hF := (if_neg (bI_f c37)).symm.trans hF
                refine lv_aload_n hx hb dX5_copy_108 rfl (lv_at hl 0 rfl) ?_
                refine lv_iconst (v := 0) hx hb dX5_copy_109 (by decide) ?_
                obtain ⟨⟨r42, v43⟩, h41, hF⟩ := bi_some hF
                dsimp only at hF
                refine k_i hS (kV_run M hS hP ok_X5_48 (c_X5_finding l G 0 v r42 v43 h41) (rc_5 M hP rfl) rfl hl.1 rfl (Nat.le_of_ble_eq_true rfl) ⟨rfl, rfl⟩ ⟨Nat.le_of_ble_eq_true rfl, Nat.le_of_ble_eq_true rfl⟩ dX5_copy_110) (fun H locs hP hS => ?_)
                exact ret_i M hS hP (Option.some.inj hF) dX5_copy_113
          · replace hF := (if_neg c25).symm.trans hF
            refine lv_aload_n hx hb dX5_copy_71 rfl (lv_at hl 0 rfl) ?_
            refine lv_iconst (v := 2) hx hb dX5_copy_72 (by decide) ?_
            obtain ⟨⟨r46, v47⟩, h45, hF⟩ := bi_some hF
            dsimp only at hF
            refine k_i hS (kV_run M hS hP ok_X5_48 (c_X5_finding l G 2 v r46 v47 h45) (rc_5 M hP rfl) rfl hl.1 rfl (Nat.le_of_ble_eq_true rfl) ⟨rfl, rfl⟩ ⟨Nat.le_of_ble_eq_true rfl, Nat.le_of_ble_eq_true rfl⟩ dX5_copy_73) (fun H locs hP hS => ?_)
            exact ret_i M hS hP (Option.some.inj hF) dX5_copy_76
        · replace hF := (if_pos (bI_t c22)).symm.trans hF
          refine lv_aload_n hx hb dX5_copy_44 rfl (lv_at hl 0 rfl) ?_
          refine lv_iconst (v := 5) hx hb dX5_copy_45 (by decide) ?_
          obtain ⟨⟨r50, v51⟩, h49, hF⟩ := bi_some hF
          dsimp only at hF
          refine k_i hS (kV_run M hS hP ok_X5_48 (c_X5_finding l G 5 v r50 v51 h49) (rc_5 M hP rfl) rfl hl.1 rfl (Nat.le_of_ble_eq_true rfl) ⟨rfl, rfl⟩ ⟨Nat.le_of_ble_eq_true rfl, Nat.le_of_ble_eq_true rfl⟩ dX5_copy_46) (fun H locs hP hS => ?_)
          exact ret_i M hS hP (Option.some.inj hF) dX5_copy_49
    · replace hF := (if_neg (bI_f c10)).symm.trans hF
      refine lv_aload_n hx hb dX5_copy_14 rfl (lv_at hl 0 rfl) ?_
      refine lv_iconst (v := 0) hx hb dX5_copy_15 (by decide) ?_
      obtain ⟨⟨r54, v55⟩, h53, hF⟩ := bi_some hF
      dsimp only at hF
      refine k_i hS (kV_run M hS hP ok_X5_48 (c_X5_finding l G 0 v r54 v55 h53) (rc_5 M hP rfl) rfl hl.1 rfl (Nat.le_of_ble_eq_true rfl) ⟨rfl, rfl⟩ ⟨Nat.le_of_ble_eq_true rfl, Nat.le_of_ble_eq_true rfl⟩ dX5_copy_16) (fun H locs hP hS => ?_)
      exact ret_i M hS hP (Option.some.inj hF) dX5_copy_19
def L_X5_load_14 : Nat → Int32 → Int32 → Int32 → VV → Option (Int32 × VV)
  | 0, _, _, _, _ => none
  | n + 1, x1, x2, x3, v =>
  if 6 ≤ x3 then (some (x3, v)) else (gu (gI x1 4) ((if (v (14 + 1 + ((x1).toNatClampNeg)) 2) ≤ x3 then (some (x3, v)) else (gu (gI x1 4) (gu (gI x3 40) (Option.bind (F_X5_isUpTo (v ((14 + 1 + ((x1).toNatClampNeg)) + 4) ((x3).toNatClampNeg)) 9 v) (fun r12 => (if r12 = true then (gu (gI x1 4) (gu (gI x3 40) (gu (gI x3 6) (L_X5_load_14 n x1 x2 (x3 + 1) (pu v (25 + 1) ((x3).toNatClampNeg) (v ((14 + 1 + ((x1).toNatClampNeg)) + 4) ((x3).toNatClampNeg))))))) else (some (x3, v))))))))))
def F_X5_load (a1 : Int32) (v : VV) : Option (Int32 × VV) :=
  Option.bind (F_X5_findingOfSheet a1 v) (fun (r2, v3) => (if r2 = 0 then (L_X5_load_14 fu a1 r2 0 v3) else (some (r2, v3))))
set_option maxHeartbeats 4000000 in
set_option maxRecDepth 100000 in
theorem l_X5_load_14 {p : Program} {l : Launch} {e : Env} {s : State} {m : MethodId} {args : Array Value} {below : List Frame} {meth : Method} {c : Code} {G : GG} (M : Mx G RX5 cX5_load 4 (some .int) p s m args meth c) (r : Int32) (v' : VV) : ∀ (n : Nat) (x1 : Int32) (x2 : Int32) (x3 : Int32) (v : VV) (H : Heap) (locs : List Loc) (ls : Array Slot), L_X5_load_14 n x1 x2 x3 v = some (r, v') → Wd G v H → va_S (gA G) s.heap H locs → lv_has ls 4 [(0, .ref (ad G 12)), (1, .int x1), (2, .int x2), (3, .int x3)] → W p l e ({ frames := 2, cells := 0, slots := 0, locals := 42 } : Room) s m args below meth c H locs 0 0 (MQ below (QI G r v') args s 0 0 (gA G)) (F0 m 14 ls []) := by
  have hx := M.1.1
  have hb := M.1.2.1
  intro n
  induction n with
  | zero =>
    intro x1 x2 x3 v H locs ls hF hP hS hl
    rw [L_X5_load_14] at hF
    cases hF
  | succ n ih =>
    intro x1 x2 x3 v H locs ls hF hP hS hl
    rw [L_X5_load_14] at hF
    refine lv_iload_n hx hb dX5_load_14 rfl (lv_at hl 3 rfl) ?_
    refine lv_bipush (v := 6) hx hb dX5_load_15 (by decide) ?_
    refine lv_icmp_ge (tgt := 78) hx hb dX5_load_17 (by decide) (fun c6 => ?_) (fun c6 => ?_)
    · replace hF := (if_pos c6).symm.trans hF
      refine lv_iload_n hx hb dX5_load_78 rfl (lv_at hl 3 rfl) ?_
      exact ret_i M hS hP (Option.some.inj hF) dX5_load_79
    · replace hF := (if_neg c6).symm.trans hF
      refine lv_iload_n hx hb dX5_load_20 rfl (lv_at hl 3 rfl) ?_
      refine lv_aload_n hx hb dX5_load_21 rfl (lv_at hl 0 rfl) ?_
      refine fg_5_31 M hP dX5_load_22 ?_
      refine lv_iload_n hx hb dX5_load_25 rfl (lv_at hl 1 rfl) ?_
      obtain ⟨g7, hF⟩ := gu_some hF
      refine r_aald11 (k := (x1).toNatClampNeg) M hP rfl rfl (in_c g7) rfl dX5_load_26 ?_
      refine fg_5_205 M hP (ge_11k (i := 14) (k := (x1).toNatClampNeg) rfl (vin_lt (in_c g7))) dX5_load_27 ?_
      refine lv_icmp_ge (tgt := 78) hx hb dX5_load_30 (by decide) (fun c8 => ?_) (fun c8 => ?_)
      · replace hF := (if_pos c8).symm.trans hF
        refine lv_iload_n hx hb dX5_load_78 rfl (lv_at hl 3 rfl) ?_
        exact ret_i M hS hP (Option.some.inj hF) dX5_load_79
      · replace hF := (if_neg c8).symm.trans hF
        refine lv_aload_n hx hb dX5_load_33 rfl (lv_at hl 0 rfl) ?_
        refine fg_5_31 M hP dX5_load_34 ?_
        refine lv_iload_n hx hb dX5_load_37 rfl (lv_at hl 1 rfl) ?_
        obtain ⟨g9, hF⟩ := gu_some hF
        refine r_aald11 (k := (x1).toNatClampNeg) M hP rfl rfl (in_c g9) rfl dX5_load_38 ?_
        refine fg_5_218 M hP (ge_11k (i := 14) (k := (x1).toNatClampNeg) rfl (vin_lt (in_c g9))) dX5_load_39 ?_
        refine lv_iload_n hx hb dX5_load_42 rfl (lv_at hl 3 rfl) ?_
        obtain ⟨g10, hF⟩ := gu_some hF
        refine r_iald (k := (x3).toNatClampNeg) M hP (ge_3k (i := (14 + 1 + ((x1).toNatClampNeg))) (ge_11k (i := 14) (k := (x1).toNatClampNeg) rfl (vin_lt (in_c g9)))) (ge_3l (i := (14 + 1 + ((x1).toNatClampNeg))) (ge_11k (i := 14) (k := (x1).toNatClampNeg) rfl (vin_lt (in_c g9)))) (in_c g10) rfl dX5_load_43 ?_
        refine lv_bipush (v := 9) hx hb dX5_load_44 (by decide) ?_
        obtain ⟨r12, h11, hF⟩ := bi_some hF
        refine k_i hS (kS_run M hS hP ok_X5_44 (c_X5_isUpTo l G (v ((14 + 1 + ((x1).toNatClampNeg)) + 4) ((x3).toNatClampNeg)) 9 v r12 h11) rfl hl.1 rfl (Nat.le_of_ble_eq_true rfl) ⟨rfl, rfl⟩ ⟨Nat.le_of_ble_eq_true rfl, Nat.le_of_ble_eq_true rfl⟩ dX5_load_46) (fun H locs hP hS => ?_)
        refine lv_if_eq (tgt := 78) hx hb dX5_load_49 (by decide) (fun c13 => ?_) (fun c13 => ?_)
        · replace hF := (if_neg (bI_f c13)).symm.trans hF
          refine lv_iload_n hx hb dX5_load_78 rfl (lv_at hl 3 rfl) ?_
          exact ret_i M hS hP (Option.some.inj hF) dX5_load_79
        · replace hF := (if_pos (bI_t c13)).symm.trans hF
          refine lv_aload_n hx hb dX5_load_52 rfl (lv_at hl 0 rfl) ?_
          refine fg_5_10 M hP dX5_load_53 ?_
          refine fg_5_52 M hP rfl dX5_load_56 ?_
          refine lv_iload_n hx hb dX5_load_59 rfl (lv_at hl 3 rfl) ?_
          refine lv_aload_n hx hb dX5_load_60 rfl (lv_at hl 0 rfl) ?_
          refine fg_5_31 M hP dX5_load_61 ?_
          refine lv_iload_n hx hb dX5_load_64 rfl (lv_at hl 1 rfl) ?_
          obtain ⟨g14, hF⟩ := gu_some hF
          refine r_aald11 (k := (x1).toNatClampNeg) M hP rfl rfl (in_c g14) rfl dX5_load_65 ?_
          refine fg_5_218 M hP (ge_11k (i := 14) (k := (x1).toNatClampNeg) rfl (vin_lt (in_c g14))) dX5_load_66 ?_
          refine lv_iload_n hx hb dX5_load_69 rfl (lv_at hl 3 rfl) ?_
          obtain ⟨g15, hF⟩ := gu_some hF
          refine r_iald (k := (x3).toNatClampNeg) M hP (ge_3k (i := (14 + 1 + ((x1).toNatClampNeg))) (ge_11k (i := 14) (k := (x1).toNatClampNeg) rfl (vin_lt (in_c g14)))) (ge_3l (i := (14 + 1 + ((x1).toNatClampNeg))) (ge_11k (i := 14) (k := (x1).toNatClampNeg) rfl (vin_lt (in_c g14)))) (in_c g15) rfl dX5_load_70 ?_
          obtain ⟨g16, hF⟩ := gu_some hF
          refine r_iast (k := (x3).toNatClampNeg) M hS hP (ge_1_1k (i := 25) rfl) (ge_1_1l (i := 25) rfl) (in_c g16) rfl dX5_load_71 (fun H locs hP hS => ?_)
          have hP : Wd G (pu v (25 + 1) ((x3).toNatClampNeg) (v ((14 + 1 + ((x1).toNatClampNeg)) + 4) ((x3).toNatClampNeg))) H := hP
          refine lv_iinc (v := (x3 + 1)) (lv' := [(3, .int (x3 + 1)), (0, .ref (ad G 12)), (1, .int x1), (2, .int x2)]) hx hb dX5_load_72 hl (k := 3) rfl (iinc_eq _ (by decide)) (by decide) rfl (fun ls hl => ?_)
          refine lv_goto (tgt := 14) hx hb dX5_load_75 (by decide) ?_
          exact ih x1 x2 (x3 + 1) _ _ _ ls hF hP hS (lv_sub hl [1, 2, 3, 0] rfl)
set_option maxHeartbeats 4000000 in
set_option maxRecDepth 100000 in
theorem c_X5_load (l : Launch) (G : GG) (a1 : Int32) (v : VV) (r : Int32) (v' : VV) (hF : F_X5_load a1 v = some (r, v')) : Met l yX5_load (cdW yX5_load cX5_load 4 (some .int)) ({ frames := 2, cells := 0, slots := 0, locals := 42 } : Room) (PC G v [.ref (ad G 12), .int a1]) (QI G r v') 0 0 (gA G) := by
  refine met_in RX5 (by decide) rfl (Nat.le_of_ble_eq_true rfl) ?_
  intro p e s m below meth c M hP ls hl
  have hx := M.1.1
  have hb := M.1.2.1
  have hS : va_S (gA G) s.heap s.heap [] := va_S.rf
  have hl : lv_has ls 4 [(0, .ref (ad G 12)), (1, .int a1)] := hl
  unfold F_X5_load at hF
  refine lv_aload_n hx hb dX5_load_0 rfl (lv_at hl 0 rfl) ?_
  refine lv_iload_n hx hb dX5_load_1 rfl (lv_at hl 1 rfl) ?_
  obtain ⟨⟨r2, v3⟩, h1, hF⟩ := bi_some hF
  dsimp only at hF
  refine k_i hS (kV_run M hS hP ok_X5_156 (c_X5_findingOfSheet l G a1 v r2 v3 h1) (rc_5 M hP rfl) rfl hl.1 rfl (Nat.le_of_ble_eq_true rfl) ⟨rfl, rfl⟩ ⟨Nat.le_of_ble_eq_true rfl, Nat.le_of_ble_eq_true rfl⟩ dX5_load_2) (fun H locs hP hS => ?_)
  refine lv_istore_n (lv' := [(2, .int r2), (0, .ref (ad G 12)), (1, .int a1)]) hx hb dX5_load_5 rfl hl (by decide) rfl (fun ls hl => ?_)
  refine lv_iload_n hx hb dX5_load_6 rfl (lv_at hl 0 rfl) ?_
  refine lv_if_eq (tgt := 12) hx hb dX5_load_7 (by decide) (fun c5 => ?_) (fun c5 => ?_)
  · replace hF := (if_pos c5).symm.trans hF
    refine lv_iconst (v := 0) hx hb dX5_load_12 (by decide) ?_
    refine lv_istore_n (lv' := [(3, .int 0), (2, .int r2), (0, .ref (ad G 12)), (1, .int a1)]) hx hb dX5_load_13 rfl hl (by decide) rfl (fun ls hl => ?_)
    exact l_X5_load_14 M _ _ fu a1 r2 0 _ _ _ ls hF hP hS (lv_sub hl [2, 3, 1, 0] rfl)
  · replace hF := (if_neg c5).symm.trans hF
    refine lv_iload_n hx hb dX5_load_10 rfl (lv_at hl 0 rfl) ?_
    exact ret_i M hS hP (Option.some.inj hF) dX5_load_11
def L_X5_judge_14 : Nat → Int32 → Int32 → Int32 → VV → Option (Int32 × VV)
  | 0, _, _, _, _ => none
  | n + 1, x1, x2, x3, v =>
  gu (gI x1 4) ((if (v (14 + 1 + ((x1).toNatClampNeg)) 2) ≤ x3 then (some (0, v)) else (Option.bind (F_X5_isChild x3 v) (fun r9 => (if r9 = true then (gu (gI x3 6) (gu (gI x1 4) (gu (gI x3 40) ((if (v (((25 + 4) + 17 + ((x3).toNatClampNeg)) + 6) 2) = (v ((14 + 1 + ((x1).toNatClampNeg)) + 4) ((x3).toNatClampNeg)) then (L_X5_judge_14 n x1 x2 (x3 + 1) v) else (some (1 + x3, v))))))) else (some (1 + x3, v)))))))
def F_X5_judge (a1 : Int32) (v : VV) : Option (Int32 × VV) :=
  Option.bind (F_X5_findingOfSheet a1 v) (fun (r2, v3) => (if r2 = 0 then (L_X5_judge_14 fu a1 r2 0 v3) else (some (r2, v3))))
set_option maxHeartbeats 4000000 in
set_option maxRecDepth 100000 in
theorem l_X5_judge_14 {p : Program} {l : Launch} {e : Env} {s : State} {m : MethodId} {args : Array Value} {below : List Frame} {meth : Method} {c : Code} {G : GG} (M : Mx G RX5 cX5_judge 4 (some .int) p s m args meth c) (r : Int32) (v' : VV) : ∀ (n : Nat) (x1 : Int32) (x2 : Int32) (x3 : Int32) (v : VV) (H : Heap) (locs : List Loc) (ls : Array Slot), L_X5_judge_14 n x1 x2 x3 v = some (r, v') → Wd G v H → va_S (gA G) s.heap H locs → lv_has ls 4 [(0, .ref (ad G 12)), (1, .int x1), (2, .int x2), (3, .int x3)] → W p l e ({ frames := 2, cells := 0, slots := 0, locals := 42 } : Room) s m args below meth c H locs 0 0 (MQ below (QI G r v') args s 0 0 (gA G)) (F0 m 14 ls []) := by
  have hx := M.1.1
  have hb := M.1.2.1
  intro n
  induction n with
  | zero =>
    intro x1 x2 x3 v H locs ls hF hP hS hl
    rw [L_X5_judge_14] at hF
    cases hF
  | succ n ih =>
    intro x1 x2 x3 v H locs ls hF hP hS hl
    rw [L_X5_judge_14] at hF
    refine lv_iload_n hx hb dX5_judge_14 rfl (lv_at hl 3 rfl) ?_
    refine lv_aload_n hx hb dX5_judge_15 rfl (lv_at hl 0 rfl) ?_
    refine fg_5_31 M hP dX5_judge_16 ?_
    refine lv_iload_n hx hb dX5_judge_19 rfl (lv_at hl 1 rfl) ?_
    obtain ⟨g6, hF⟩ := gu_some hF
    refine r_aald11 (k := (x1).toNatClampNeg) M hP rfl rfl (in_c g6) rfl dX5_judge_20 ?_
    refine fg_5_205 M hP (ge_11k (i := 14) (k := (x1).toNatClampNeg) rfl (vin_lt (in_c g6))) dX5_judge_21 ?_
    refine lv_icmp_ge (tgt := 73) hx hb dX5_judge_24 (by decide) (fun c7 => ?_) (fun c7 => ?_)
    · replace hF := (if_pos c7).symm.trans hF
      refine lv_iconst (v := 0) hx hb dX5_judge_73 (by decide) ?_
      exact ret_i M hS hP (Option.some.inj hF) dX5_judge_74
    · replace hF := (if_neg c7).symm.trans hF
      refine lv_aload_n hx hb dX5_judge_27 rfl (lv_at hl 0 rfl) ?_
      refine lv_iload_n hx hb dX5_judge_28 rfl (lv_at hl 3 rfl) ?_
      obtain ⟨r9, h8, hF⟩ := bi_some hF
      refine k_i hS (kV_run M hS hP ok_X5_88 (c_X5_isChild l G x3 v r9 h8) (rc_5 M hP rfl) rfl hl.1 rfl (Nat.le_of_ble_eq_true rfl) ⟨rfl, rfl⟩ ⟨Nat.le_of_ble_eq_true rfl, Nat.le_of_ble_eq_true rfl⟩ dX5_judge_29) (fun H locs hP hS => ?_)
      refine lv_if_eq (tgt := 63) hx hb dX5_judge_32 (by decide) (fun c10 => ?_) (fun c10 => ?_)
      · replace hF := (if_neg (bI_f c10)).symm.trans hF
        refine lv_iconst (v := 1) hx hb dX5_judge_63 (by decide) ?_
        refine lv_iload_n hx hb dX5_judge_64 rfl (lv_at hl 3 rfl) ?_
        refine lv_iadd hx hb dX5_judge_65 ?_
        exact ret_i M hS hP (Option.some.inj hF) dX5_judge_66
      · replace hF := (if_pos (bI_t c10)).symm.trans hF
        refine lv_aload_n hx hb dX5_judge_35 rfl (lv_at hl 0 rfl) ?_
        refine fg_5_10 M hP dX5_judge_36 ?_
        refine fg_5_93 M hP rfl dX5_judge_39 ?_
        refine lv_iload_n hx hb dX5_judge_42 rfl (lv_at hl 3 rfl) ?_
        obtain ⟨g11, hF⟩ := gu_some hF
        refine r_aald9 (k := (x3).toNatClampNeg) M hP (ge_1_4k (i := 25) rfl) (ge_9l (i := (25 + 4)) (ge_1_4k (i := 25) rfl)) (in_c g11) rfl dX5_judge_43 ?_
        refine fg_5_97 M hP (ge_9k (i := (25 + 4)) (k := (x3).toNatClampNeg) (ge_1_4k (i := 25) rfl) (vin_lt (in_c g11))) dX5_judge_44 ?_
        refine lv_iconst (v := 2) hx hb dX5_judge_47 (by decide) ?_
        refine r_iald (k := 2) M hP (ge_0k (i := ((25 + 4) + 17 + ((x3).toNatClampNeg))) (ge_9k (i := (25 + 4)) (k := (x3).toNatClampNeg) (ge_1_4k (i := 25) rfl) (vin_lt (in_c g11)))) (ge_0l (i := ((25 + 4) + 17 + ((x3).toNatClampNeg))) (ge_9k (i := (25 + 4)) (k := (x3).toNatClampNeg) (ge_1_4k (i := 25) rfl) (vin_lt (in_c g11)))) (in_c rfl) rfl dX5_judge_48 ?_
        refine lv_aload_n hx hb dX5_judge_49 rfl (lv_at hl 0 rfl) ?_
        refine fg_5_31 M hP dX5_judge_50 ?_
        refine lv_iload_n hx hb dX5_judge_53 rfl (lv_at hl 1 rfl) ?_
        obtain ⟨g12, hF⟩ := gu_some hF
        refine r_aald11 (k := (x1).toNatClampNeg) M hP rfl rfl (in_c g12) rfl dX5_judge_54 ?_
        refine fg_5_218 M hP (ge_11k (i := 14) (k := (x1).toNatClampNeg) rfl (vin_lt (in_c g12))) dX5_judge_55 ?_
        refine lv_iload_n hx hb dX5_judge_58 rfl (lv_at hl 3 rfl) ?_
        obtain ⟨g13, hF⟩ := gu_some hF
        refine r_iald (k := (x3).toNatClampNeg) M hP (ge_3k (i := (14 + 1 + ((x1).toNatClampNeg))) (ge_11k (i := 14) (k := (x1).toNatClampNeg) rfl (vin_lt (in_c g12)))) (ge_3l (i := (14 + 1 + ((x1).toNatClampNeg))) (ge_11k (i := 14) (k := (x1).toNatClampNeg) rfl (vin_lt (in_c g12)))) (in_c g13) rfl dX5_judge_59 ?_
        refine lv_icmp_eq (tgt := 67) hx hb dX5_judge_60 (by decide) (fun c14 => ?_) (fun c14 => ?_)
        · replace hF := (if_pos c14).symm.trans hF
          refine lv_iinc (v := (x3 + 1)) (lv' := [(3, .int (x3 + 1)), (0, .ref (ad G 12)), (1, .int x1), (2, .int x2)]) hx hb dX5_judge_67 hl (k := 3) rfl (iinc_eq _ (by decide)) (by decide) rfl (fun ls hl => ?_)
          refine lv_goto (tgt := 14) hx hb dX5_judge_70 (by decide) ?_
          exact ih x1 x2 (x3 + 1) _ _ _ ls hF hP hS (lv_sub hl [1, 2, 3, 0] rfl)
        · replace hF := (if_neg c14).symm.trans hF
          refine lv_iconst (v := 1) hx hb dX5_judge_63 (by decide) ?_
          refine lv_iload_n hx hb dX5_judge_64 rfl (lv_at hl 3 rfl) ?_
          refine lv_iadd hx hb dX5_judge_65 ?_
          exact ret_i M hS hP (Option.some.inj hF) dX5_judge_66
set_option maxHeartbeats 4000000 in
set_option maxRecDepth 100000 in
theorem c_X5_judge (l : Launch) (G : GG) (a1 : Int32) (v : VV) (r : Int32) (v' : VV) (hF : F_X5_judge a1 v = some (r, v')) : Met l yX5_judge (cdW yX5_judge cX5_judge 4 (some .int)) ({ frames := 2, cells := 0, slots := 0, locals := 42 } : Room) (PC G v [.ref (ad G 12), .int a1]) (QI G r v') 0 0 (gA G) := by
  refine met_in RX5 (by decide) rfl (Nat.le_of_ble_eq_true rfl) ?_
  intro p e s m below meth c M hP ls hl
  have hx := M.1.1
  have hb := M.1.2.1
  have hS : va_S (gA G) s.heap s.heap [] := va_S.rf
  have hl : lv_has ls 4 [(0, .ref (ad G 12)), (1, .int a1)] := hl
  unfold F_X5_judge at hF
  refine lv_aload_n hx hb dX5_judge_0 rfl (lv_at hl 0 rfl) ?_
  refine lv_iload_n hx hb dX5_judge_1 rfl (lv_at hl 1 rfl) ?_
  obtain ⟨⟨r2, v3⟩, h1, hF⟩ := bi_some hF
  dsimp only at hF
  refine k_i hS (kV_run M hS hP ok_X5_156 (c_X5_findingOfSheet l G a1 v r2 v3 h1) (rc_5 M hP rfl) rfl hl.1 rfl (Nat.le_of_ble_eq_true rfl) ⟨rfl, rfl⟩ ⟨Nat.le_of_ble_eq_true rfl, Nat.le_of_ble_eq_true rfl⟩ dX5_judge_2) (fun H locs hP hS => ?_)
  refine lv_istore_n (lv' := [(2, .int r2), (0, .ref (ad G 12)), (1, .int a1)]) hx hb dX5_judge_5 rfl hl (by decide) rfl (fun ls hl => ?_)
  refine lv_iload_n hx hb dX5_judge_6 rfl (lv_at hl 0 rfl) ?_
  refine lv_if_eq (tgt := 12) hx hb dX5_judge_7 (by decide) (fun c5 => ?_) (fun c5 => ?_)
  · replace hF := (if_pos c5).symm.trans hF
    refine lv_iconst (v := 0) hx hb dX5_judge_12 (by decide) ?_
    refine lv_istore_n (lv' := [(3, .int 0), (2, .int r2), (0, .ref (ad G 12)), (1, .int a1)]) hx hb dX5_judge_13 rfl hl (by decide) rfl (fun ls hl => ?_)
    exact l_X5_judge_14 M _ _ fu a1 r2 0 _ _ _ ls hF hP hS (lv_sub hl [2, 3, 1, 0] rfl)
  · replace hF := (if_neg c5).symm.trans hF
    refine lv_iload_n hx hb dX5_judge_10 rfl (lv_at hl 0 rfl) ?_
    exact ret_i M hS hP (Option.some.inj hF) dX5_judge_11
def F_X5_image (v : VV) : Option (Int32 × VV) :=
  Option.bind (F_X1_become 91 25 v) (fun v3 => some (1, pu v3 12 6 1))
set_option maxHeartbeats 4000000 in
set_option maxRecDepth 100000 in
theorem c_X5_image (l : Launch) (G : GG) (v : VV) (r : Int32) (v' : VV) (hF : F_X5_image v = some (r, v')) : Met l yX5_image (cdW yX5_image cX5_image 1 (some .int)) ({ frames := 2, cells := 0, slots := 0, locals := 48 } : Room) (PC G v [.ref (ad G 12)]) (QI G r v') 0 0 (gA G) := by
  refine met_in RX5 (by decide) rfl (Nat.le_of_ble_eq_true rfl) ?_
  intro p e s m below meth c M hP ls hl
  have hx := M.1.1
  have hb := M.1.2.1
  have hS : va_S (gA G) s.heap s.heap [] := va_S.rf
  have hl : lv_has ls 1 [(0, .ref (ad G 12))] := hl
  unfold F_X5_image at hF
  refine lv_aload_n hx hb dX5_image_0 rfl (lv_at hl 0 rfl) ?_
  refine fg_5_19 M hP dX5_image_1 ?_
  refine lv_aload_n hx hb dX5_image_4 rfl (lv_at hl 0 rfl) ?_
  refine fg_5_10 M hP dX5_image_5 ?_
  obtain ⟨v3, h1, hF⟩ := bi_some hF
  refine k_v hS (kV_run M hS hP ok_X5_143 (c_X1_become l G 91 rfl 25 rfl v v3 h1) (rc_1 M hP rfl) rfl hl.1 rfl (Nat.le_of_ble_eq_true rfl) ⟨rfl, rfl⟩ ⟨Nat.le_of_ble_eq_true rfl, Nat.le_of_ble_eq_true rfl⟩ dX5_image_8) (fun H locs hP hS => ?_)
  refine lv_aload_n hx hb dX5_image_11 rfl (lv_at hl 0 rfl) ?_
  refine lv_iconst (v := 1) hx hb dX5_image_12 (by decide) ?_
  refine fp_5_40 M hS hP rfl rfl dX5_image_13 (fun H locs hP hS => ?_)
  have hP : Wd G (pu v3 12 6 1) H := hP
  refine lv_iconst (v := 1) hx hb dX5_image_16 (by decide) ?_
  exact ret_i M hS hP (Option.some.inj hF) dX5_image_17
def F_X5_undo (v : VV) : Option (Int32 × VV) :=
  if (v 12 6) = 0 then (Option.bind (F_X5_finding 3 v) (fun (r6, v7) => some (r6, v7))) else (Option.bind (F_X1_become 25 91 v) (fun v4 => some (v4 25 6, v4)))
set_option maxHeartbeats 4000000 in
set_option maxRecDepth 100000 in
theorem c_X5_undo (l : Launch) (G : GG) (v : VV) (r : Int32) (v' : VV) (hF : F_X5_undo v = some (r, v')) : Met l yX5_undo (cdW yX5_undo cX5_undo 1 (some .int)) ({ frames := 2, cells := 0, slots := 0, locals := 48 } : Room) (PC G v [.ref (ad G 12)]) (QI G r v') 0 0 (gA G) := by
  refine met_in RX5 (by decide) rfl (Nat.le_of_ble_eq_true rfl) ?_
  intro p e s m below meth c M hP ls hl
  have hx := M.1.1
  have hb := M.1.2.1
  have hS : va_S (gA G) s.heap s.heap [] := va_S.rf
  have hl : lv_has ls 1 [(0, .ref (ad G 12))] := hl
  unfold F_X5_undo at hF
  refine lv_aload_n hx hb dX5_undo_0 rfl (lv_at hl 0 rfl) ?_
  refine fg_5_40 M hP dX5_undo_1 ?_
  refine lv_if_ne (tgt := 13) hx hb dX5_undo_4 (by decide) (fun c1 => ?_) (fun c1 => ?_)
  · replace hF := (if_neg c1).symm.trans hF
    refine lv_aload_n hx hb dX5_undo_13 rfl (lv_at hl 0 rfl) ?_
    refine fg_5_10 M hP dX5_undo_14 ?_
    refine lv_aload_n hx hb dX5_undo_17 rfl (lv_at hl 0 rfl) ?_
    refine fg_5_19 M hP dX5_undo_18 ?_
    obtain ⟨v4, h2, hF⟩ := bi_some hF
    refine k_v hS (kV_run M hS hP ok_X5_143 (c_X1_become l G 25 rfl 91 rfl v v4 h2) (rc_1 M hP rfl) rfl hl.1 rfl (Nat.le_of_ble_eq_true rfl) ⟨rfl, rfl⟩ ⟨Nat.le_of_ble_eq_true rfl, Nat.le_of_ble_eq_true rfl⟩ dX5_undo_21) (fun H locs hP hS => ?_)
    refine lv_aload_n hx hb dX5_undo_24 rfl (lv_at hl 0 rfl) ?_
    refine fg_5_10 M hP dX5_undo_25 ?_
    refine fg_5_107 M hP rfl dX5_undo_28 ?_
    exact ret_i M hS hP (Option.some.inj hF) dX5_undo_31
  · replace hF := (if_pos c1).symm.trans hF
    refine lv_aload_n hx hb dX5_undo_7 rfl (lv_at hl 0 rfl) ?_
    refine lv_iconst (v := 3) hx hb dX5_undo_8 (by decide) ?_
    obtain ⟨⟨r6, v7⟩, h5, hF⟩ := bi_some hF
    dsimp only at hF
    refine k_i hS (kV_run M hS hP ok_X5_48 (c_X5_finding l G 3 v r6 v7 h5) (rc_5 M hP rfl) rfl hl.1 rfl (Nat.le_of_ble_eq_true rfl) ⟨rfl, rfl⟩ ⟨Nat.le_of_ble_eq_true rfl, Nat.le_of_ble_eq_true rfl⟩ dX5_undo_9) (fun H locs hP hS => ?_)
    exact ret_i M hS hP (Option.some.inj hF) dX5_undo_12
def F_X5_tear (v : VV) : Option (Int32 × VV) :=
  if (v 12 6) = 0 then (some (0, pu v 12 6 0)) else (some (1, pu v 12 6 0))
set_option maxHeartbeats 4000000 in
set_option maxRecDepth 100000 in
theorem c_X5_tear (l : Launch) (G : GG) (v : VV) (r : Int32) (v' : VV) (hF : F_X5_tear v = some (r, v')) : Met l yX5_tear (cdW yX5_tear cX5_tear 2 (some .int)) ({ frames := 0, cells := 0, slots := 0, locals := 0 } : Room) (PC G v [.ref (ad G 12)]) (QI G r v') 0 0 (gA G) := by
  refine met_in RX5 (by decide) rfl (Nat.le_of_ble_eq_true rfl) ?_
  intro p e s m below meth c M hP ls hl
  have hx := M.1.1
  have hb := M.1.2.1
  have hS : va_S (gA G) s.heap s.heap [] := va_S.rf
  have hl : lv_has ls 2 [(0, .ref (ad G 12))] := hl
  unfold F_X5_tear at hF
  refine lv_aload_n hx hb dX5_tear_0 rfl (lv_at hl 0 rfl) ?_
  refine fg_5_40 M hP dX5_tear_1 ?_
  refine lv_if_eq (tgt := 11) hx hb dX5_tear_4 (by decide) (fun c1 => ?_) (fun c1 => ?_)
  · replace hF := (if_pos c1).symm.trans hF
    refine lv_iconst (v := 0) hx hb dX5_tear_11 (by decide) ?_
    refine lv_istore_n (lv' := [(1, .int 0), (0, .ref (ad G 12))]) hx hb dX5_tear_12 rfl hl (by decide) rfl (fun ls hl => ?_)
    refine lv_aload_n hx hb dX5_tear_13 rfl (lv_at hl 1 rfl) ?_
    refine lv_iconst (v := 0) hx hb dX5_tear_14 (by decide) ?_
    refine fp_5_40 M hS hP rfl rfl dX5_tear_15 (fun H locs hP hS => ?_)
    have hP : Wd G (pu v 12 6 0) H := hP
    refine lv_iload_n hx hb dX5_tear_18 rfl (lv_at hl 0 rfl) ?_
    exact ret_i M hS hP (Option.some.inj hF) dX5_tear_19
  · replace hF := (if_neg c1).symm.trans hF
    refine lv_iconst (v := 1) hx hb dX5_tear_7 (by decide) ?_
    refine lv_goto (tgt := 12) hx hb dX5_tear_8 (by decide) ?_
    refine lv_istore_n (lv' := [(1, .int 1), (0, .ref (ad G 12))]) hx hb dX5_tear_12 rfl hl (by decide) rfl (fun ls hl => ?_)
    refine lv_aload_n hx hb dX5_tear_13 rfl (lv_at hl 1 rfl) ?_
    refine lv_iconst (v := 0) hx hb dX5_tear_14 (by decide) ?_
    refine fp_5_40 M hS hP rfl rfl dX5_tear_15 (fun H locs hP hS => ?_)
    have hP : Wd G (pu v 12 6 0) H := hP
    refine lv_iload_n hx hb dX5_tear_18 rfl (lv_at hl 0 rfl) ?_
    exact ret_i M hS hP (Option.some.inj hF) dX5_tear_19
def F_X5_count (a1 : Int32) (v : VV) : Option (Int32 × VV) :=
  if a1 = 0 then (some (v 25 6, v)) else (if a1 = 1 then (some (v 25 4, v)) else (if a1 = 2 then (some (v 25 5, v)) else (if a1 = 3 then (Option.bind (F_X1_learntTogether 25 v) (fun r6 => some (r6, v))) else (if a1 = 4 then (Option.bind (F_X1_tiredTogether 25 v) (fun r9 => some (r9, v))) else (if a1 = 5 then (some (v 23 1, v)) else (if a1 = 6 then (some (v 25 7, v)) else (if a1 = 7 then (Option.bind (F_X1_spotsThatHold 25 v) (fun r14 => some (r14, v))) else (Option.bind (F_X5_finding 0 v) (fun (r16, v17) => some (r16, v17))))))))))
set_option maxHeartbeats 4000000 in
set_option maxRecDepth 100000 in
theorem c_X5_count (l : Launch) (G : GG) (a1 : Int32) (v : VV) (r : Int32) (v' : VV) (hF : F_X5_count a1 v = some (r, v')) : Met l yX5_count (cdW yX5_count cX5_count 2 (some .int)) ({ frames := 2, cells := 0, slots := 0, locals := 42 } : Room) (PC G v [.ref (ad G 12), .int a1]) (QI G r v') 0 0 (gA G) := by
  refine met_in RX5 (by decide) rfl (Nat.le_of_ble_eq_true rfl) ?_
  intro p e s m below meth c M hP ls hl
  have hx := M.1.1
  have hb := M.1.2.1
  have hS : va_S (gA G) s.heap s.heap [] := va_S.rf
  have hl : lv_has ls 2 [(0, .ref (ad G 12)), (1, .int a1)] := hl
  unfold F_X5_count at hF
  refine lv_iload_n hx hb dX5_count_0 rfl (lv_at hl 1 rfl) ?_
  rcases Decidable.em (a1 = 0) with c1 | c1
  · replace hF := (if_pos c1).symm.trans hF
    refine lv_tableIn (tgt := 48) hx hb dX5_count_1 (by rw [c1]; decide) (by rw [c1]; decide) (by rw [c1]; rfl) (by decide) ?_
    refine lv_aload_n hx hb dX5_count_48 rfl (lv_at hl 0 rfl) ?_
    refine fg_5_10 M hP dX5_count_49 ?_
    refine fg_5_107 M hP rfl dX5_count_52 ?_
    exact ret_i M hS hP (Option.some.inj hF) dX5_count_55
  · replace hF := (if_neg c1).symm.trans hF
    rcases Decidable.em (a1 = 1) with c2 | c2
    · replace hF := (if_pos c2).symm.trans hF
      refine lv_tableIn (tgt := 56) hx hb dX5_count_1 (by rw [c2]; decide) (by rw [c2]; decide) (by rw [c2]; rfl) (by decide) ?_
      refine lv_aload_n hx hb dX5_count_56 rfl (lv_at hl 0 rfl) ?_
      refine fg_5_10 M hP dX5_count_57 ?_
      refine fg_5_99 M hP rfl dX5_count_60 ?_
      exact ret_i M hS hP (Option.some.inj hF) dX5_count_63
    · replace hF := (if_neg c2).symm.trans hF
      rcases Decidable.em (a1 = 2) with c3 | c3
      · replace hF := (if_pos c3).symm.trans hF
        refine lv_tableIn (tgt := 64) hx hb dX5_count_1 (by rw [c3]; decide) (by rw [c3]; decide) (by rw [c3]; rfl) (by decide) ?_
        refine lv_aload_n hx hb dX5_count_64 rfl (lv_at hl 0 rfl) ?_
        refine fg_5_10 M hP dX5_count_65 ?_
        refine fg_5_166 M hP rfl dX5_count_68 ?_
        exact ret_i M hS hP (Option.some.inj hF) dX5_count_71
      · replace hF := (if_neg c3).symm.trans hF
        rcases Decidable.em (a1 = 3) with c4 | c4
        · replace hF := (if_pos c4).symm.trans hF
          refine lv_tableIn (tgt := 72) hx hb dX5_count_1 (by rw [c4]; decide) (by rw [c4]; decide) (by rw [c4]; rfl) (by decide) ?_
          refine lv_aload_n hx hb dX5_count_72 rfl (lv_at hl 0 rfl) ?_
          refine fg_5_10 M hP dX5_count_73 ?_
          obtain ⟨r6, h5, hF⟩ := bi_some hF
          refine k_i hS (kV_run M hS hP ok_X5_115 (c_X1_learntTogether l G 25 rfl v r6 h5) (rc_1 M hP rfl) rfl hl.1 rfl (Nat.le_of_ble_eq_true rfl) ⟨rfl, rfl⟩ ⟨Nat.le_of_ble_eq_true rfl, Nat.le_of_ble_eq_true rfl⟩ dX5_count_76) (fun H locs hP hS => ?_)
          exact ret_i M hS hP (Option.some.inj hF) dX5_count_79
        · replace hF := (if_neg c4).symm.trans hF
          rcases Decidable.em (a1 = 4) with c7 | c7
          · replace hF := (if_pos c7).symm.trans hF
            refine lv_tableIn (tgt := 80) hx hb dX5_count_1 (by rw [c7]; decide) (by rw [c7]; decide) (by rw [c7]; rfl) (by decide) ?_
            refine lv_aload_n hx hb dX5_count_80 rfl (lv_at hl 0 rfl) ?_
            refine fg_5_10 M hP dX5_count_81 ?_
            obtain ⟨r9, h8, hF⟩ := bi_some hF
            refine k_i hS (kV_run M hS hP ok_X5_125 (c_X1_tiredTogether l G 25 rfl v r9 h8) (rc_1 M hP rfl) rfl hl.1 rfl (Nat.le_of_ble_eq_true rfl) ⟨rfl, rfl⟩ ⟨Nat.le_of_ble_eq_true rfl, Nat.le_of_ble_eq_true rfl⟩ dX5_count_84) (fun H locs hP hS => ?_)
            exact ret_i M hS hP (Option.some.inj hF) dX5_count_87
          · replace hF := (if_neg c7).symm.trans hF
            rcases Decidable.em (a1 = 5) with c10 | c10
            · replace hF := (if_pos c10).symm.trans hF
              refine lv_tableIn (tgt := 88) hx hb dX5_count_1 (by rw [c10]; decide) (by rw [c10]; decide) (by rw [c10]; rfl) (by decide) ?_
              refine lv_aload_n hx hb dX5_count_88 rfl (lv_at hl 0 rfl) ?_
              refine fg_5_25 M hP dX5_count_89 ?_
              refine fg_5_182 M hP dX5_count_92 ?_
              exact ret_i M hS hP (Option.some.inj hF) dX5_count_95
            · replace hF := (if_neg c10).symm.trans hF
              rcases Decidable.em (a1 = 6) with c11 | c11
              · replace hF := (if_pos c11).symm.trans hF
                refine lv_tableIn (tgt := 96) hx hb dX5_count_1 (by rw [c11]; decide) (by rw [c11]; decide) (by rw [c11]; rfl) (by decide) ?_
                refine lv_aload_n hx hb dX5_count_96 rfl (lv_at hl 0 rfl) ?_
                refine fg_5_10 M hP dX5_count_97 ?_
                refine fg_5_179 M hP rfl dX5_count_100 ?_
                exact ret_i M hS hP (Option.some.inj hF) dX5_count_103
              · replace hF := (if_neg c11).symm.trans hF
                rcases Decidable.em (a1 = 7) with c12 | c12
                · replace hF := (if_pos c12).symm.trans hF
                  refine lv_tableIn (tgt := 104) hx hb dX5_count_1 (by rw [c12]; decide) (by rw [c12]; decide) (by rw [c12]; rfl) (by decide) ?_
                  refine lv_aload_n hx hb dX5_count_104 rfl (lv_at hl 0 rfl) ?_
                  refine fg_5_10 M hP dX5_count_105 ?_
                  obtain ⟨r14, h13, hF⟩ := bi_some hF
                  refine k_i hS (kV_run M hS hP ok_X5_227 (c_X1_spotsThatHold l G 25 rfl v r14 h13) (rc_1 M hP rfl) rfl hl.1 rfl (Nat.le_of_ble_eq_true rfl) ⟨rfl, rfl⟩ ⟨Nat.le_of_ble_eq_true rfl, Nat.le_of_ble_eq_true rfl⟩ dX5_count_108) (fun H locs hP hS => ?_)
                  exact ret_i M hS hP (Option.some.inj hF) dX5_count_111
                · replace hF := (if_neg c12).symm.trans hF
                  refine lv_tableOut (tgt := 112) hx hb dX5_count_1 (by have q0 := lv_neT (a := 0) c1 (by decide); have q1 := lv_neT (a := 1) c2 (by decide); have q2 := lv_neT (a := 2) c3 (by decide); have q3 := lv_neT (a := 3) c4 (by decide); have q4 := lv_neT (a := 4) c7 (by decide); have q5 := lv_neT (a := 5) c10 (by decide); have q6 := lv_neT (a := 6) c11 (by decide); have q7 := lv_neT (a := 7) c12 (by decide); omega) (by decide) ?_
                  refine lv_aload_n hx hb dX5_count_112 rfl (lv_at hl 0 rfl) ?_
                  refine lv_iconst (v := 0) hx hb dX5_count_113 (by decide) ?_
                  obtain ⟨⟨r16, v17⟩, h15, hF⟩ := bi_some hF
                  dsimp only at hF
                  refine k_i hS (kV_run M hS hP ok_X5_48 (c_X5_finding l G 0 v r16 v17 h15) (rc_5 M hP rfl) rfl hl.1 rfl (Nat.le_of_ble_eq_true rfl) ⟨rfl, rfl⟩ ⟨Nat.le_of_ble_eq_true rfl, Nat.le_of_ble_eq_true rfl⟩ dX5_count_114) (fun H locs hP hS => ?_)
                  exact ret_i M hS hP (Option.some.inj hF) dX5_count_117
def L_X5_status_9 : Nat → Int32 → Int32 → Int32 → VV → Option (Int32 × VV)
  | 0, _, _, _, _ => none
  | n + 1, x1, x2, x3, v =>
  if 7 ≤ x3 then (some (x2, v)) else (gu (gI x3 7) (L_X5_status_9 n x1 (x2 + (v 13 ((x3).toNatClampNeg))) (x3 + 1) v))
def F_X5_status (a1 : Int32) (v : VV) : Option (Int32 × VV) :=
  if a1 = (-1) then (L_X5_status_9 fu a1 0 0 v) else (Option.bind (F_X5_isUpTo a1 6 v) (fun r3 => (if r3 = true then (gu (gI a1 7) (some (v 13 ((a1).toNatClampNeg), v))) else (Option.bind (F_X5_finding 0 v) (fun (r7, v8) => some (r7, v8))))))
set_option maxHeartbeats 4000000 in
set_option maxRecDepth 100000 in
theorem l_X5_status_9 {p : Program} {l : Launch} {e : Env} {s : State} {m : MethodId} {args : Array Value} {below : List Frame} {meth : Method} {c : Code} {G : GG} (M : Mx G RX5 cX5_status 4 (some .int) p s m args meth c) (r : Int32) (v' : VV) : ∀ (n : Nat) (x1 : Int32) (x2 : Int32) (x3 : Int32) (v : VV) (H : Heap) (locs : List Loc) (ls : Array Slot), L_X5_status_9 n x1 x2 x3 v = some (r, v') → Wd G v H → va_S (gA G) s.heap H locs → lv_has ls 4 [(0, .ref (ad G 12)), (1, .int x1), (2, .int x2), (3, .int x3)] → W p l e ({ frames := 1, cells := 0, slots := 0, locals := 21 } : Room) s m args below meth c H locs 0 0 (MQ below (QI G r v') args s 0 0 (gA G)) (F0 m 9 ls []) := by
  have hx := M.1.1
  have hb := M.1.2.1
  intro n
  induction n with
  | zero =>
    intro x1 x2 x3 v H locs ls hF hP hS hl
    rw [L_X5_status_9] at hF
    cases hF
  | succ n ih =>
    intro x1 x2 x3 v H locs ls hF hP hS hl
    rw [L_X5_status_9] at hF
    refine lv_iload_n hx hb dX5_status_9 rfl (lv_at hl 3 rfl) ?_
    refine lv_bipush (v := 7) hx hb dX5_status_10 (by decide) ?_
    refine lv_icmp_ge (tgt := 30) hx hb dX5_status_12 (by decide) (fun c10 => ?_) (fun c10 => ?_)
    · replace hF := (if_pos c10).symm.trans hF
      refine lv_iload_n hx hb dX5_status_30 rfl (lv_at hl 2 rfl) ?_
      exact ret_i M hS hP (Option.some.inj hF) dX5_status_31
    · replace hF := (if_neg c10).symm.trans hF
      refine lv_iload_n hx hb dX5_status_15 rfl (lv_at hl 2 rfl) ?_
      refine lv_aload_n hx hb dX5_status_16 rfl (lv_at hl 0 rfl) ?_
      refine fg_5_36 M hP dX5_status_17 ?_
      refine lv_iload_n hx hb dX5_status_20 rfl (lv_at hl 3 rfl) ?_
      obtain ⟨g11, hF⟩ := gu_some hF
      refine r_iald (k := (x3).toNatClampNeg) M hP rfl rfl (in_c g11) rfl dX5_status_21 ?_
      refine lv_iadd hx hb dX5_status_22 ?_
      refine lv_istore_n (lv' := [(2, .int (x2 + (v 13 ((x3).toNatClampNeg)))), (0, .ref (ad G 12)), (1, .int x1), (3, .int x3)]) hx hb dX5_status_23 rfl hl (by decide) rfl (fun ls hl => ?_)
      refine lv_iinc (v := (x3 + 1)) (lv' := [(3, .int (x3 + 1)), (2, .int (x2 + (v 13 ((x3).toNatClampNeg)))), (0, .ref (ad G 12)), (1, .int x1)]) hx hb dX5_status_24 hl (k := 3) rfl (iinc_eq _ (by decide)) (by decide) rfl (fun ls hl => ?_)
      refine lv_goto (tgt := 9) hx hb dX5_status_27 (by decide) ?_
      exact ih x1 (x2 + (v 13 ((x3).toNatClampNeg))) (x3 + 1) _ _ _ ls hF hP hS (lv_sub hl [2, 3, 1, 0] rfl)
set_option maxHeartbeats 4000000 in
set_option maxRecDepth 100000 in
theorem c_X5_status (l : Launch) (G : GG) (a1 : Int32) (v : VV) (r : Int32) (v' : VV) (hF : F_X5_status a1 v = some (r, v')) : Met l yX5_status (cdW yX5_status cX5_status 4 (some .int)) ({ frames := 1, cells := 0, slots := 0, locals := 21 } : Room) (PC G v [.ref (ad G 12), .int a1]) (QI G r v') 0 0 (gA G) := by
  refine met_in RX5 (by decide) rfl (Nat.le_of_ble_eq_true rfl) ?_
  intro p e s m below meth c M hP ls hl
  have hx := M.1.1
  have hb := M.1.2.1
  have hS : va_S (gA G) s.heap s.heap [] := va_S.rf
  have hl : lv_has ls 4 [(0, .ref (ad G 12)), (1, .int a1)] := hl
  unfold F_X5_status at hF
  refine lv_iload_n hx hb dX5_status_0 rfl (lv_at hl 1 rfl) ?_
  refine lv_iconst (v := (-1)) hx hb dX5_status_1 (by decide) ?_
  refine lv_icmp_ne (tgt := 32) hx hb dX5_status_2 (by decide) (fun c1 => ?_) (fun c1 => ?_)
  · replace hF := (if_neg c1).symm.trans hF
    refine lv_iload_n hx hb dX5_status_32 rfl (lv_at hl 1 rfl) ?_
    refine lv_bipush (v := 6) hx hb dX5_status_33 (by decide) ?_
    obtain ⟨r3, h2, hF⟩ := bi_some hF
    refine k_i hS (kS_run M hS hP ok_X5_44 (c_X5_isUpTo l G a1 6 v r3 h2) rfl hl.1 rfl (Nat.le_of_ble_eq_true rfl) ⟨rfl, rfl⟩ ⟨Nat.le_of_ble_eq_true rfl, Nat.le_of_ble_eq_true rfl⟩ dX5_status_35) (fun H locs hP hS => ?_)
    refine lv_if_ne (tgt := 47) hx hb dX5_status_38 (by decide) (fun c4 => ?_) (fun c4 => ?_)
    · replace hF := (if_pos (bI_t c4)).symm.trans hF
      refine lv_aload_n hx hb dX5_status_47 rfl (lv_at hl 0 rfl) ?_
      refine fg_5_36 M hP dX5_status_48 ?_
      refine lv_iload_n hx hb dX5_status_51 rfl (lv_at hl 1 rfl) ?_
      obtain ⟨g5, hF⟩ := gu_some hF
      refine r_iald (k := (a1).toNatClampNeg) M hP rfl rfl (in_c g5) rfl dX5_status_52 ?_
      exact ret_i M hS hP (Option.some.inj hF) dX5_status_53
    · replace hF := (if_neg (bI_f c4)).symm.trans hF
      refine lv_aload_n hx hb dX5_status_41 rfl (lv_at hl 0 rfl) ?_
      refine lv_iconst (v := 0) hx hb dX5_status_42 (by decide) ?_
      obtain ⟨⟨r7, v8⟩, h6, hF⟩ := bi_some hF
      dsimp only at hF
      refine k_i hS (kV_run M hS hP ok_X5_48 (c_X5_finding l G 0 v r7 v8 h6) (rc_5 M hP rfl) rfl hl.1 rfl (Nat.le_of_ble_eq_true rfl) ⟨rfl, rfl⟩ ⟨Nat.le_of_ble_eq_true rfl, Nat.le_of_ble_eq_true rfl⟩ dX5_status_43) (fun H locs hP hS => ?_)
      exact ret_i M hS hP (Option.some.inj hF) dX5_status_46
  · replace hF := (if_pos c1).symm.trans hF
    refine lv_iconst (v := 0) hx hb dX5_status_5 (by decide) ?_
    refine lv_istore_n (lv' := [(2, .int 0), (0, .ref (ad G 12)), (1, .int a1)]) hx hb dX5_status_6 rfl hl (by decide) rfl (fun ls hl => ?_)
    refine lv_iconst (v := 0) hx hb dX5_status_7 (by decide) ?_
    refine lv_istore_n (lv' := [(3, .int 0), (2, .int 0), (0, .ref (ad G 12)), (1, .int a1)]) hx hb dX5_status_8 rfl hl (by decide) rfl (fun ls hl => ?_)
    exact l_X5_status_9 M _ _ fu a1 0 0 _ _ _ ls hF hP hS (lv_sub hl [2, 3, 1, 0] rfl)
