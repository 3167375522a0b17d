theorem ok_X5_137 : okV RX5 137 RX5 yX5_draftLoneChild cX5_draftLoneChild 2 none 1 := okV_of w_391 w_393 w_2004 w_1 w_394 (by decide +kernel)
theorem ok_X5_140 : okV RX5 140 RX5 yX5_daysUntilDraftLearnt cX5_daysUntilDraftLearnt 3 (some .int) 1 := okV_of w_403 w_405 w_2005 w_1 w_406 (by decide +kernel)
theorem ok_X5_147 : okV RX5 147 RX1 yX1_passDay cX1_passDay 3 none 0 := okV_of w_412 w_306 w_307 w_2 w_308 (by decide +kernel)
theorem ok_X5_150 : okV RX5 150 RX1 yX1_haveAllLearnt cX1_haveAllLearnt 3 (some .boolean) 1 := okV_of w_407 w_408 w_409 w_2 w_410 (by decide +kernel)
theorem ok_X5_156 : okV RX5 156 RX5 yX5_findingOfSheet cX5_findingOfSheet 2 (some .int) 1 := okV_of w_445 w_447 w_2006 w_1 w_448 (by decide +kernel)
theorem ok_X5_159 : okV RX5 159 RX5 yX5_isDraftAsTold cX5_isDraftAsTold 5 (some .boolean) 3 := okV_of w_456 w_458 w_2007 w_1 w_459 (by decide +kernel)
theorem ok_X5_163 : okV RX5 163 RX1 yX1_draw cX1_draw 1 (some .int) 0 := okV_of w_468 w_469 w_470 w_2 w_471 (by decide +kernel)
theorem ok_X5_169 : okV RX5 169 RX0 yX0_rowOn cX0_rowOn 1 none 0 := okV_of w_473 w_474 w_475 w_5 w_476 (by decide +kernel)
theorem ok_X5_199 : okS RX5 199 yX5_isSheet cX5_isSheet 1 (some .boolean) 1 := okS_of w_449 w_450 w_1 w_451 (by decide +kernel)
theorem ok_X5_209 : okV RX5 209 RX3 yX3_isMissing cX3_isMissing 1 (some .boolean) 0 := okV_of w_452 w_453 w_454 w_7 w_455 (by decide +kernel)
def F_X5_later (a1 : Int32) (a2 : Int32) (a3 : Int32) (v : VV) : Option (Int32 × VV) :=
  if a2 = 2 then (Option.bind (F_X5_isChild a1 v) (fun r3 => (if r3 = true then (Option.bind (F_X5_isUpTo a3 100 v) (fun r11 => (if r11 = true then (Option.bind (F_X5_draftLoneChild a1 v) (fun v15 => Option.bind (F_X1_passDays 58 a3 v15) (fun v18 => gu (gI a2 4) (some (v18 (((58 + 4) + 17 + 0) + 6) ((a2).toNatClampNeg), v18))))) else (Option.bind (F_X5_finding 0 v) (fun (r21, v22) => some (r21, v22)))))) else (Option.bind (F_X5_finding 0 v) (fun (r6, v7) => some (r6, v7)))))) else (if a2 = 3 then (Option.bind (F_X5_isChild a1 v) (fun r38 => (if r38 = true then (Option.bind (F_X5_isUpTo a3 100 v) (fun r46 => (if r46 = true then (Option.bind (F_X5_draftLoneChild a1 v) (fun v50 => Option.bind (F_X1_passDays 58 a3 v50) (fun v53 => gu (gI a2 4) (some (v53 (((58 + 4) + 17 + 0) + 6) ((a2).toNatClampNeg), v53))))) else (Option.bind (F_X5_finding 0 v) (fun (r56, v57) => some (r56, v57)))))) else (Option.bind (F_X5_finding 0 v) (fun (r41, v42) => some (r41, v42)))))) else (Option.bind (F_X5_isChild a1 v) (fun r26 => (if r26 = true then (Option.bind (F_X5_finding 0 v) (fun (r34, v35) => some (r34, v35))) else (Option.bind (F_X5_finding 0 v) (fun (r29, v30) => some (r29, v30)))))))
set_option maxHeartbeats 4000000 in
set_option maxRecDepth 100000 in
theorem c_X5_later (l : Launch) (G : GG) (a1 : Int32) (a2 : Int32) (a3 : Int32) (v : VV) (r : Int32) (v' : VV) (hF : F_X5_later a1 a2 a3 v = some (r, v')) : Met l yX5_later (cdW yX5_later cX5_later 5 (some .int)) ({ frames := 5, cells := 0, slots := 0, locals := 114 } : Room) (PC G v [.ref (ad G 12), .int a1, .int a2, .int a3]) (QI G r v') 0 0 (gA G) := by
  refine met_in RX5 (by decide) rfl (Nat.le_of_ble_eq_true rfl) ?_
  intro p e s m below meth c M hP ls hl
  have hx := M.1.1
  have hb := M.1.2.1
  have hS : va_S (gA G) s.heap s.heap [] := va_S.rf
  have hl : lv_has ls 5 [(0, .ref (ad G 12)), (1, .int a1), (2, .int a2), (3, .int a3)] := hl
  unfold F_X5_later at hF
  refine lv_iload_n hx hb dX5_later_0 rfl (lv_at hl 2 rfl) ?_
  refine lv_iconst (v := 2) hx hb dX5_later_1 (by decide) ?_
  refine lv_icmp_eq (tgt := 10) hx hb dX5_later_2 (by decide) (fun c1 => ?_) (fun c1 => ?_)
  · replace hF := (if_pos c1).symm.trans hF
    refine lv_iconst (v := 1) hx hb dX5_later_10 (by decide) ?_
    refine lv_goto (tgt := 15) hx hb dX5_later_11 (by decide) ?_
    refine lv_istore (lv' := [(4, .int 1), (0, .ref (ad G 12)), (1, .int a1), (2, .int a2), (3, .int a3)]) hx hb dX5_later_15 hl (by decide) rfl (fun ls hl => ?_)
    refine lv_aload_n hx hb dX5_later_17 rfl (lv_at hl 1 rfl) ?_
    refine lv_iload_n hx hb dX5_later_18 rfl (lv_at hl 2 rfl) ?_
    obtain ⟨r3, h2, hF⟩ := bi_some hF
    refine k_i hS (kV_run M hS hP ok_X5_88 (c_X5_isChild l G a1 v r3 h2) (rc_5 M hP rfl) rfl hl.1 rfl (Nat.le_of_ble_eq_true rfl) ⟨rfl, rfl⟩ ⟨Nat.le_of_ble_eq_true rfl, Nat.le_of_ble_eq_true rfl⟩ dX5_later_19) (fun H locs hP hS => ?_)
    refine lv_if_eq (tgt := 39) hx hb dX5_later_22 (by decide) (fun c4 => ?_) (fun c4 => ?_)
    · replace hF := (if_neg (bI_f c4)).symm.trans hF
      refine lv_aload_n hx hb dX5_later_39 rfl (lv_at hl 1 rfl) ?_
      refine lv_iconst (v := 0) hx hb dX5_later_40 (by decide) ?_
      obtain ⟨⟨r6, v7⟩, h5, hF⟩ := bi_some hF
      dsimp only at hF
      refine k_i hS (kV_run M hS hP ok_X5_48 (c_X5_finding l G 0 v r6 v7 h5) (rc_5 M hP rfl) rfl hl.1 rfl (Nat.le_of_ble_eq_true rfl) ⟨rfl, rfl⟩ ⟨Nat.le_of_ble_eq_true rfl, Nat.le_of_ble_eq_true rfl⟩ dX5_later_41) (fun H locs hP hS => ?_)
      exact ret_i M hS hP (Option.some.inj hF) dX5_later_44
    · replace hF := (if_pos (bI_t c4)).symm.trans hF
      refine lv_iload hx hb dX5_later_25 (lv_at hl 0 rfl) ?_
      refine lv_if_eq (tgt := 39) hx hb dX5_later_27 (by decide) (fun c9 => ?_) (fun c9 => ?_)
      · exact absurd c9 (by decide)
      · refine lv_iload_n hx hb dX5_later_30 rfl (lv_at hl 4 rfl) ?_
        refine lv_bipush (v := 100) hx hb dX5_later_31 (by decide) ?_
        obtain ⟨r11, h10, hF⟩ := bi_some hF
        refine k_i hS (kS_run M hS hP ok_X5_44 (c_X5_isUpTo l G a3 100 v r11 h10) rfl hl.1 rfl (Nat.le_of_ble_eq_true rfl) ⟨rfl, rfl⟩ ⟨Nat.le_of_ble_eq_true rfl, Nat.le_of_ble_eq_true rfl⟩ dX5_later_33) (fun H locs hP hS => ?_)
        refine lv_if_ne (tgt := 45) hx hb dX5_later_36 (by decide) (fun c12 => ?_) (fun c12 => ?_)
        · replace hF := (if_pos (bI_t c12)).symm.trans hF
          refine lv_aload_n hx hb dX5_later_45 rfl (lv_at hl 1 rfl) ?_
          refine lv_iload_n hx hb dX5_later_46 rfl (lv_at hl 2 rfl) ?_
          obtain ⟨v15, h13, hF⟩ := bi_some hF
          refine k_v hS (kV_run M hS hP ok_X5_137 (c_X5_draftLoneChild l G a1 v v15 h13) (rc_5 M hP rfl) rfl hl.1 rfl (Nat.le_of_ble_eq_true rfl) ⟨rfl, rfl⟩ ⟨Nat.le_of_ble_eq_true rfl, Nat.le_of_ble_eq_true rfl⟩ dX5_later_47) (fun H locs hP hS => ?_)
          refine lv_aload_n hx hb dX5_later_50 rfl (lv_at hl 1 rfl) ?_
          refine fg_5_16 M hP dX5_later_51 ?_
          refine lv_iload_n hx hb dX5_later_54 rfl (lv_at hl 4 rfl) ?_
          obtain ⟨v18, h16, hF⟩ := bi_some hF
          refine k_v hS (kV_run M hS hP ok_X5_111 (c_X1_passDays l G 58 rfl a3 v15 v18 h16) (rc_1 M hP rfl) rfl hl.1 rfl (Nat.le_of_ble_eq_true rfl) ⟨rfl, rfl⟩ ⟨Nat.le_of_ble_eq_true rfl, Nat.le_of_ble_eq_true rfl⟩ dX5_later_55) (fun H locs hP hS => ?_)
          refine lv_aload_n hx hb dX5_later_58 rfl (lv_at hl 1 rfl) ?_
          refine fg_5_16 M hP dX5_later_59 ?_
          refine fg_5_93 M hP rfl dX5_later_62 ?_
          refine lv_iconst (v := 0) hx hb dX5_later_65 (by decide) ?_
          refine r_aald9 (k := 0) M hP (ge_1_4k (i := 58) rfl) (ge_9l (i := (58 + 4)) (ge_1_4k (i := 58) rfl)) (in_c rfl) rfl dX5_later_66 ?_
          refine fg_5_97 M hP (ge_9k (i := (58 + 4)) (k := 0) (ge_1_4k (i := 58) rfl) (by decide : 0 < 6)) dX5_later_67 ?_
          refine lv_iload_n hx hb dX5_later_70 rfl (lv_at hl 3 rfl) ?_
          obtain ⟨g19, hF⟩ := gu_some hF
          refine r_iald (k := (a2).toNatClampNeg) M hP (ge_0k (i := ((58 + 4) + 17 + 0)) (ge_9k (i := (58 + 4)) (k := 0) (ge_1_4k (i := 58) rfl) (by decide : 0 < 6))) (ge_0l (i := ((58 + 4) + 17 + 0)) (ge_9k (i := (58 + 4)) (k := 0) (ge_1_4k (i := 58) rfl) (by decide : 0 < 6))) (in_c g19) rfl dX5_later_71 ?_
          exact ret_i M hS hP (Option.some.inj hF) dX5_later_72
        · replace hF := (if_neg (bI_f c12)).symm.trans hF
          refine lv_aload_n hx hb dX5_later_39 rfl (lv_at hl 1 rfl) ?_
          refine lv_iconst (v := 0) hx hb dX5_later_40 (by decide) ?_
          obtain ⟨⟨r21, v22⟩, h20, hF⟩ := bi_some hF
          dsimp only at hF
          refine k_i hS (kV_run M hS hP ok_X5_48 (c_X5_finding l G 0 v r21 v22 h20) (rc_5 M hP rfl) rfl hl.1 rfl (Nat.le_of_ble_eq_true rfl) ⟨rfl, rfl⟩ ⟨Nat.le_of_ble_eq_true rfl, Nat.le_of_ble_eq_true rfl⟩ dX5_later_41) (fun H locs hP hS => ?_)
          exact ret_i M hS hP (Option.some.inj hF) dX5_later_44
  · replace hF := (if_neg c1).symm.trans hF
    refine lv_iload_n hx hb dX5_later_5 rfl (lv_at hl 2 rfl) ?_
    refine lv_iconst (v := 3) hx hb dX5_later_6 (by decide) ?_
    refine lv_icmp_ne (tgt := 14) hx hb dX5_later_7 (by decide) (fun c24 => ?_) (fun c24 => ?_)
    · replace hF := (if_neg c24).symm.trans hF
      refine lv_iconst (v := 0) hx hb dX5_later_14 (by decide) ?_
      refine lv_istore (lv' := [(4, .int 0), (0, .ref (ad G 12)), (1, .int a1), (2, .int a2), (3, .int a3)]) hx hb dX5_later_15 hl (by decide) rfl (fun ls hl => ?_)
      refine lv_aload_n hx hb dX5_later_17 rfl (lv_at hl 1 rfl) ?_
      refine lv_iload_n hx hb dX5_later_18 rfl (lv_at hl 2 rfl) ?_
      obtain ⟨r26, h25, hF⟩ := bi_some hF
      refine k_i hS (kV_run M hS hP ok_X5_88 (c_X5_isChild l G a1 v r26 h25) (rc_5 M hP rfl) rfl hl.1 rfl (Nat.le_of_ble_eq_true rfl) ⟨rfl, rfl⟩ ⟨Nat.le_of_ble_eq_true rfl, Nat.le_of_ble_eq_true rfl⟩ dX5_later_19) (fun H locs hP hS => ?_)
      refine lv_if_eq (tgt := 39) hx hb dX5_later_22 (by decide) (fun c27 => ?_) (fun c27 => ?_)
      · replace hF := (if_neg (bI_f c27)).symm.trans hF
        refine lv_aload_n hx hb dX5_later_39 rfl (lv_at hl 1 rfl) ?_
        refine lv_iconst (v := 0) hx hb dX5_later_40 (by decide) ?_
        obtain ⟨⟨r29, v30⟩, h28, hF⟩ := bi_some hF
        dsimp only at hF
        refine k_i hS (kV_run M hS hP ok_X5_48 (c_X5_finding l G 0 v r29 v30 h28) (rc_5 M hP rfl) rfl hl.1 rfl (Nat.le_of_ble_eq_true rfl) ⟨rfl, rfl⟩ ⟨Nat.le_of_ble_eq_true rfl, Nat.le_of_ble_eq_true rfl⟩ dX5_later_41) (fun H locs hP hS => ?_)
        exact ret_i M hS hP (Option.some.inj hF) dX5_later_44
      · replace hF := (if_pos (bI_t c27)).symm.trans hF
        refine lv_iload hx hb dX5_later_25 (lv_at hl 0 rfl) ?_
        refine lv_if_eq (tgt := 39) hx hb dX5_later_27 (by decide) (fun c32 => ?_) (fun c32 => ?_)
        · refine lv_aload_n hx hb dX5_later_39 rfl (lv_at hl 1 rfl) ?_
          refine lv_iconst (v := 0) hx hb dX5_later_40 (by decide) ?_
          obtain ⟨⟨r34, v35⟩, h33, hF⟩ := bi_some hF
          dsimp only at hF
          refine k_i hS (kV_run M hS hP ok_X5_48 (c_X5_finding l G 0 v r34 v35 h33) (rc_5 M hP rfl) rfl hl.1 rfl (Nat.le_of_ble_eq_true rfl) ⟨rfl, rfl⟩ ⟨Nat.le_of_ble_eq_true rfl, Nat.le_of_ble_eq_true rfl⟩ dX5_later_41) (fun H locs hP hS => ?_)
          exact ret_i M hS hP (Option.some.inj hF) dX5_later_44
        · exact absurd c32 (by decide)
    · replace hF := (if_pos c24).symm.trans hF
      refine lv_iconst (v := 1) hx hb dX5_later_10 (by decide) ?_
      refine lv_goto (tgt := 15) hx hb dX5_later_11 (by decide) ?_
      refine lv_istore (lv' := [(4, .int 1), (0, .ref (ad G 12)), (1, .int a1), (2, .int a2), (3, .int a3)]) hx hb dX5_later_15 hl (by decide) rfl (fun ls hl => ?_)
      refine lv_aload_n hx hb dX5_later_17 rfl (lv_at hl 1 rfl) ?_
      refine lv_iload_n hx hb dX5_later_18 rfl (lv_at hl 2 rfl) ?_
      obtain ⟨r38, h37, hF⟩ := bi_some hF
      refine k_i hS (kV_run M hS hP ok_X5_88 (c_X5_isChild l G a1 v r38 h37) (rc_5 M hP rfl) rfl hl.1 rfl (Nat.le_of_ble_eq_true rfl) ⟨rfl, rfl⟩ ⟨Nat.le_of_ble_eq_true rfl, Nat.le_of_ble_eq_true rfl⟩ dX5_later_19) (fun H locs hP hS => ?_)
      refine lv_if_eq (tgt := 39) hx hb dX5_later_22 (by decide) (fun c39 => ?_) (fun c39 => ?_)
      · replace hF := (if_neg (bI_f c39)).symm.trans hF
        refine lv_aload_n hx hb dX5_later_39 rfl (lv_at hl 1 rfl) ?_
        refine lv_iconst (v := 0) hx hb dX5_later_40 (by decide) ?_
        obtain ⟨⟨r41, v42⟩, h40, hF⟩ := bi_some hF
        dsimp only at hF
        refine k_i hS (kV_run M hS hP ok_X5_48 (c_X5_finding l G 0 v r41 v42 h40) (rc_5 M hP rfl) rfl hl.1 rfl (Nat.le_of_ble_eq_true rfl) ⟨rfl, rfl⟩ ⟨Nat.le_of_ble_eq_true rfl, Nat.le_of_ble_eq_true rfl⟩ dX5_later_41) (fun H locs hP hS => ?_)
        exact ret_i M hS hP (Option.some.inj hF) dX5_later_44
      · replace hF := (if_pos (bI_t c39)).symm.trans hF
        refine lv_iload hx hb dX5_later_25 (lv_at hl 0 rfl) ?_
        refine lv_if_eq (tgt := 39) hx hb dX5_later_27 (by decide) (fun c44 => ?_) (fun c44 => ?_)
        · exact absurd c44 (by decide)
        · refine lv_iload_n hx hb dX5_later_30 rfl (lv_at hl 4 rfl) ?_
          refine lv_bipush (v := 100) hx hb dX5_later_31 (by decide) ?_
          obtain ⟨r46, h45, hF⟩ := bi_some hF
          refine k_i hS (kS_run M hS hP ok_X5_44 (c_X5_isUpTo l G a3 100 v r46 h45) rfl hl.1 rfl (Nat.le_of_ble_eq_true rfl) ⟨rfl, rfl⟩ ⟨Nat.le_of_ble_eq_true rfl, Nat.le_of_ble_eq_true rfl⟩ dX5_later_33) (fun H locs hP hS => ?_)
          refine lv_if_ne (tgt := 45) hx hb dX5_later_36 (by decide) (fun c47 => ?_) (fun c47 => ?_)
          · replace hF := (if_pos (bI_t c47)).symm.trans hF
            refine lv_aload_n hx hb dX5_later_45 rfl (lv_at hl 1 rfl) ?_
            refine lv_iload_n hx hb dX5_later_46 rfl (lv_at hl 2 rfl) ?_
            obtain ⟨v50, h48, hF⟩ := bi_some hF
            refine k_v hS (kV_run M hS hP ok_X5_137 (c_X5_draftLoneChild l G a1 v v50 h48) (rc_5 M hP rfl) rfl hl.1 rfl (Nat.le_of_ble_eq_true rfl) ⟨rfl, rfl⟩ ⟨Nat.le_of_ble_eq_true rfl, Nat.le_of_ble_eq_true rfl⟩ dX5_later_47) (fun H locs hP hS => ?_)
            refine lv_aload_n hx hb dX5_later_50 rfl (lv_at hl 1 rfl) ?_
            refine fg_5_16 M hP dX5_later_51 ?_
            refine lv_iload_n hx hb dX5_later_54 rfl (lv_at hl 4 rfl) ?_
            obtain ⟨v53, h51, hF⟩ := bi_some hF
            refine k_v hS (kV_run M hS hP ok_X5_111 (c_X1_passDays l G 58 rfl a3 v50 v53 h51) (rc_1 M hP rfl) rfl hl.1 rfl (Nat.le_of_ble_eq_true rfl) ⟨rfl, rfl⟩ ⟨Nat.le_of_ble_eq_true rfl, Nat.le_of_ble_eq_true rfl⟩ dX5_later_55) (fun H locs hP hS => ?_)
            refine lv_aload_n hx hb dX5_later_58 rfl (lv_at hl 1 rfl) ?_
            refine fg_5_16 M hP dX5_later_59 ?_
            refine fg_5_93 M hP rfl dX5_later_62 ?_
            refine lv_iconst (v := 0) hx hb dX5_later_65 (by decide) ?_
            refine r_aald9 (k := 0) M hP (ge_1_4k (i := 58) rfl) (ge_9l (i := (58 + 4)) (ge_1_4k (i := 58) rfl)) (in_c rfl) rfl dX5_later_66 ?_
            refine fg_5_97 M hP (ge_9k (i := (58 + 4)) (k := 0) (ge_1_4k (i := 58) rfl) (by decide : 0 < 6)) dX5_later_67 ?_
            refine lv_iload_n hx hb dX5_later_70 rfl (lv_at hl 3 rfl) ?_
            obtain ⟨g54, hF⟩ := gu_some hF
            refine r_iald (k := (a2).toNatClampNeg) M hP (ge_0k (i := ((58 + 4) + 17 + 0)) (ge_9k (i := (58 + 4)) (k := 0) (ge_1_4k (i := 58) rfl) (by decide : 0 < 6))) (ge_0l (i := ((58 + 4) + 17 + 0)) (ge_9k (i := (58 + 4)) (k := 0) (ge_1_4k (i := 58) rfl) (by decide : 0 < 6))) (in_c g54) rfl dX5_later_71 ?_
            exact ret_i M hS hP (Option.some.inj hF) dX5_later_72
          · replace hF := (if_neg (bI_f c47)).symm.trans hF
            refine lv_aload_n hx hb dX5_later_39 rfl (lv_at hl 1 rfl) ?_
            refine lv_iconst (v := 0) hx hb dX5_later_40 (by decide) ?_
            obtain ⟨⟨r56, v57⟩, h55, hF⟩ := bi_some hF
            dsimp only at hF
            refine k_i hS (kV_run M hS hP ok_X5_48 (c_X5_finding l G 0 v r56 v57 h55) (rc_5 M hP rfl) rfl hl.1 rfl (Nat.le_of_ble_eq_true rfl) ⟨rfl, rfl⟩ ⟨Nat.le_of_ble_eq_true rfl, Nat.le_of_ble_eq_true rfl⟩ dX5_later_41) (fun H locs hP hS => ?_)
            exact ret_i M hS hP (Option.some.inj hF) dX5_later_44
def L_X5_daysUntilDraftLearnt_2 : Nat → Int32 → Int32 → VV → Option (Int32 × VV)
  | 0, _, _, _ => none
  | n + 1, x1, x2, v =>
  if 200 < x2 then (Option.bind (F_X5_finding 3 v) (fun (r3, v4) => some (r3, v4))) else (Option.bind (F_X1_haveAllLearnt 58 x1 v) (fun r7 => (if r7 = true then (some (x2, v)) else (Option.bind (F_X1_passDay 58 v) (fun v11 => L_X5_daysUntilDraftLearnt_2 n x1 (x2 + 1) v11)))))
def F_X5_daysUntilDraftLearnt (a1 : Int32) (v : VV) : Option (Int32 × VV) :=
  L_X5_daysUntilDraftLearnt_2 fu a1 0 v
set_option maxHeartbeats 4000000 in
set_option maxRecDepth 100000 in
theorem l_X5_daysUntilDraftLearnt_2 {p : Program} {l : Launch} {e : Env} {s : State} {m : MethodId} {args : Array Value} {below : List Frame} {meth : Method} {c : Code} {G : GG} (M : Mx G RX5 cX5_daysUntilDraftLearnt 3 (some .int) p s m args meth c) (r : Int32) (v' : VV) : ∀ (n : Nat) (x1 : Int32) (x2 : Int32) (v : VV) (H : Heap) (locs : List Loc) (ls : Array Slot), L_X5_daysUntilDraftLearnt_2 n x1 x2 v = some (r, v') → Wd G v H → va_S (gA G) s.heap H locs → lv_has ls 3 [(0, .ref (ad G 12)), (1, .int x1), (2, .int x2)] → W p l e ({ frames := 4, cells := 0, slots := 0, locals := 92 } : Room) s m args below meth c H locs 0 0 (MQ below (QI G r v') args s 0 0 (gA G)) (F0 m 2 ls []) := by
  have hx := M.1.1
  have hb := M.1.2.1
  intro n
  induction n with
  | zero =>
    intro x1 x2 v H locs ls hF hP hS hl
    rw [L_X5_daysUntilDraftLearnt_2] at hF
    cases hF
  | succ n ih =>
    intro x1 x2 v H locs ls hF hP hS hl
    rw [L_X5_daysUntilDraftLearnt_2] at hF
    refine lv_iload_n hx hb dX5_daysUntilDraftLearnt_2 rfl (lv_at hl 2 rfl) ?_
    refine lv_sipush (v := 200) hx hb dX5_daysUntilDraftLearnt_3 (by decide) ?_
    refine lv_icmp_gt (tgt := 35) hx hb dX5_daysUntilDraftLearnt_6 (by decide) (fun c1 => ?_) (fun c1 => ?_)
    · replace hF := (if_pos c1).symm.trans hF
      refine lv_aload_n hx hb dX5_daysUntilDraftLearnt_35 rfl (lv_at hl 0 rfl) ?_
      refine lv_iconst (v := 3) hx hb dX5_daysUntilDraftLearnt_36 (by decide) ?_
      obtain ⟨⟨r3, v4⟩, h2, hF⟩ := bi_some hF
      dsimp only at hF
      refine k_i hS (kV_run M hS hP ok_X5_48 (c_X5_finding l G 3 v r3 v4 h2) (rc_5 M hP rfl) rfl hl.1 rfl (Nat.le_of_ble_eq_true rfl) ⟨rfl, rfl⟩ ⟨Nat.le_of_ble_eq_true rfl, Nat.le_of_ble_eq_true rfl⟩ dX5_daysUntilDraftLearnt_37) (fun H locs hP hS => ?_)
      exact ret_i M hS hP (Option.some.inj hF) dX5_daysUntilDraftLearnt_40
    · replace hF := (if_neg c1).symm.trans hF
      refine lv_aload_n hx hb dX5_daysUntilDraftLearnt_9 rfl (lv_at hl 0 rfl) ?_
      refine fg_5_16 M hP dX5_daysUntilDraftLearnt_10 ?_
      refine lv_iload_n hx hb dX5_daysUntilDraftLearnt_13 rfl (lv_at hl 1 rfl) ?_
      obtain ⟨r7, h6, hF⟩ := bi_some hF
      refine k_i hS (kV_run M hS hP ok_X5_150 (c_X1_haveAllLearnt l G 58 rfl x1 v r7 h6) (rc_1 M hP rfl) rfl hl.1 rfl (Nat.le_of_ble_eq_true rfl) ⟨rfl, rfl⟩ ⟨Nat.le_of_ble_eq_true rfl, Nat.le_of_ble_eq_true rfl⟩ dX5_daysUntilDraftLearnt_14) (fun H locs hP hS => ?_)
      refine lv_if_eq (tgt := 22) hx hb dX5_daysUntilDraftLearnt_17 (by decide) (fun c8 => ?_) (fun c8 => ?_)
      · replace hF := (if_neg (bI_f c8)).symm.trans hF
        refine lv_aload_n hx hb dX5_daysUntilDraftLearnt_22 rfl (lv_at hl 0 rfl) ?_
        refine fg_5_16 M hP dX5_daysUntilDraftLearnt_23 ?_
        obtain ⟨v11, h9, hF⟩ := bi_some hF
        refine k_v hS (kV_run M hS hP ok_X5_147 (c_X1_passDay l G 58 rfl v v11 h9) (rc_1 M hP rfl) rfl hl.1 rfl (Nat.le_of_ble_eq_true rfl) ⟨rfl, rfl⟩ ⟨Nat.le_of_ble_eq_true rfl, Nat.le_of_ble_eq_true rfl⟩ dX5_daysUntilDraftLearnt_26) (fun H locs hP hS => ?_)
        refine lv_iinc (v := (x2 + 1)) (lv' := [(2, .int (x2 + 1)), (0, .ref (ad G 12)), (1, .int x1)]) hx hb dX5_daysUntilDraftLearnt_29 hl (k := 2) rfl (iinc_eq _ (by decide)) (by decide) rfl (fun ls hl => ?_)
        refine lv_goto (tgt := 2) hx hb dX5_daysUntilDraftLearnt_32 (by decide) ?_
        exact ih x1 (x2 + 1) _ _ _ ls hF hP hS (lv_sub hl [1, 2, 0] rfl)
      · replace hF := (if_pos (bI_t c8)).symm.trans hF
        refine lv_iload_n hx hb dX5_daysUntilDraftLearnt_20 rfl (lv_at hl 2 rfl) ?_
        exact ret_i M hS hP (Option.some.inj hF) dX5_daysUntilDraftLearnt_21
set_option maxHeartbeats 4000000 in
set_option maxRecDepth 100000 in
theorem c_X5_daysUntilDraftLearnt (l : Launch) (G : GG) (a1 : Int32) (v : VV) (r : Int32) (v' : VV) (hF : F_X5_daysUntilDraftLearnt a1 v = some (r, v')) : Met l yX5_daysUntilDraftLearnt (cdW yX5_daysUntilDraftLearnt cX5_daysUntilDraftLearnt 3 (some .int)) ({ frames := 4, cells := 0, slots := 0, locals := 92 } : Room) (PC G v [.ref (ad G 12), .int a1]) (QI G r v') 0 0 (gA G) := by
  refine met_in RX5 (by decide) rfl (Nat.le_of_ble_eq_true rfl) ?_
  intro p e s m below meth c M hP ls hl
  have hx := M.1.1
  have hb := M.1.2.1
  have hS : va_S (gA G) s.heap s.heap [] := va_S.rf
  have hl : lv_has ls 3 [(0, .ref (ad G 12)), (1, .int a1)] := hl
  unfold F_X5_daysUntilDraftLearnt at hF
  refine lv_iconst (v := 0) hx hb dX5_daysUntilDraftLearnt_0 (by decide) ?_
  refine lv_istore_n (lv' := [(2, .int 0), (0, .ref (ad G 12)), (1, .int a1)]) hx hb dX5_daysUntilDraftLearnt_1 rfl hl (by decide) rfl (fun ls hl => ?_)
  exact l_X5_daysUntilDraftLearnt_2 M _ _ fu a1 0 _ _ _ ls hF hP hS (lv_sub hl [1, 2, 0] rfl)
def F_X5_learns (a1 : Int32) (a2 : Int32) (v : VV) : Option (Int32 × VV) :=
  Option.bind (F_X5_isChild a1 v) (fun r2 => (if r2 = true then (Option.bind (F_X5_isUpTo a2 11 v) (fun r9 => (if r9 = true then (Option.bind (F_X5_draftLoneChild a1 v) (fun v13 => Option.bind (F_X5_daysUntilDraftLearnt a2 v13) (fun (r15, v16) => some (r15, v16)))) else (Option.bind (F_X5_finding 0 v) (fun (r19, v20) => some (r19, v20)))))) else (Option.bind (F_X5_finding 0 v) (fun (r5, v6) => some (r5, v6)))))
set_option maxHeartbeats 4000000 in
set_option maxRecDepth 100000 in
theorem c_X5_learns (l : Launch) (G : GG) (a1 : Int32) (a2 : Int32) (v : VV) (r : Int32) (v' : VV) (hF : F_X5_learns a1 a2 v = some (r, v')) : Met l yX5_learns (cdW yX5_learns cX5_learns 3 (some .int)) ({ frames := 5, cells := 0, slots := 0, locals := 114 } : Room) (PC G v [.ref (ad G 12), .int a1, .int a2]) (QI G r v') 0 0 (gA G) := by
  refine met_in RX5 (by decide) rfl (Nat.le_of_ble_eq_true rfl) ?_
  intro p e s m below meth c M hP ls hl
  have hx := M.1.1
  have hb := M.1.2.1
  have hS : va_S (gA G) s.heap s.heap [] := va_S.rf
  have hl : lv_has ls 3 [(0, .ref (ad G 12)), (1, .int a1), (2, .int a2)] := hl
  unfold F_X5_learns at hF
  refine lv_aload_n hx hb dX5_learns_0 rfl (lv_at hl 0 rfl) ?_
  refine lv_iload_n hx hb dX5_learns_1 rfl (lv_at hl 1 rfl) ?_
  obtain ⟨r2, h1, hF⟩ := bi_some hF
  refine k_i hS (kV_run M hS hP ok_X5_88 (c_X5_isChild l G a1 v r2 h1) (rc_5 M hP rfl) rfl hl.1 rfl (Nat.le_of_ble_eq_true rfl) ⟨rfl, rfl⟩ ⟨Nat.le_of_ble_eq_true rfl, Nat.le_of_ble_eq_true rfl⟩ dX5_learns_2) (fun H locs hP hS => ?_)
  refine lv_if_eq (tgt := 17) hx hb dX5_learns_5 (by decide) (fun c3 => ?_) (fun c3 => ?_)
  · replace hF := (if_neg (bI_f c3)).symm.trans hF
    refine lv_aload_n hx hb dX5_learns_17 rfl (lv_at hl 0 rfl) ?_
    refine lv_iconst (v := 0) hx hb dX5_learns_18 (by decide) ?_
    obtain ⟨⟨r5, v6⟩, h4, hF⟩ := bi_some hF
    dsimp only at hF
    refine k_i hS (kV_run M hS hP ok_X5_48 (c_X5_finding l G 0 v r5 v6 h4) (rc_5 M hP rfl) rfl hl.1 rfl (Nat.le_of_ble_eq_true rfl) ⟨rfl, rfl⟩ ⟨Nat.le_of_ble_eq_true rfl, Nat.le_of_ble_eq_true rfl⟩ dX5_learns_19) (fun H locs hP hS => ?_)
    exact ret_i M hS hP (Option.some.inj hF) dX5_learns_22
  · replace hF := (if_pos (bI_t c3)).symm.trans hF
    refine lv_iload_n hx hb dX5_learns_8 rfl (lv_at hl 2 rfl) ?_
    refine lv_bipush (v := 11) hx hb dX5_learns_9 (by decide) ?_
    obtain ⟨r9, h8, hF⟩ := bi_some hF
    refine k_i hS (kS_run M hS hP ok_X5_44 (c_X5_isUpTo l G a2 11 v r9 h8) rfl hl.1 rfl (Nat.le_of_ble_eq_true rfl) ⟨rfl, rfl⟩ ⟨Nat.le_of_ble_eq_true rfl, Nat.le_of_ble_eq_true rfl⟩ dX5_learns_11) (fun H locs hP hS => ?_)
    refine lv_if_ne (tgt := 23) hx hb dX5_learns_14 (by decide) (fun c10 => ?_) (fun c10 => ?_)
    · replace hF := (if_pos (bI_t c10)).symm.trans hF
      refine lv_aload_n hx hb dX5_learns_23 rfl (lv_at hl 0 rfl) ?_
      refine lv_iload_n hx hb dX5_learns_24 rfl (lv_at hl 1 rfl) ?_
      obtain ⟨v13, h11, hF⟩ := bi_some hF
      refine k_v hS (kV_run M hS hP ok_X5_137 (c_X5_draftLoneChild l G a1 v v13 h11) (rc_5 M hP rfl) rfl hl.1 rfl (Nat.le_of_ble_eq_true rfl) ⟨rfl, rfl⟩ ⟨Nat.le_of_ble_eq_true rfl, Nat.le_of_ble_eq_true rfl⟩ dX5_learns_25) (fun H locs hP hS => ?_)
      refine lv_aload_n hx hb dX5_learns_28 rfl (lv_at hl 0 rfl) ?_
      refine lv_iload_n hx hb dX5_learns_29 rfl (lv_at hl 2 rfl) ?_
      obtain ⟨⟨r15, v16⟩, h14, hF⟩ := bi_some hF
      dsimp only at hF
      refine k_i hS (kV_run M hS hP ok_X5_140 (c_X5_daysUntilDraftLearnt l G a2 v13 r15 v16 h14) (rc_5 M hP rfl) rfl hl.1 rfl (Nat.le_of_ble_eq_true rfl) ⟨rfl, rfl⟩ ⟨Nat.le_of_ble_eq_true rfl, Nat.le_of_ble_eq_true rfl⟩ dX5_learns_30) (fun H locs hP hS => ?_)
      exact ret_i M hS hP (Option.some.inj hF) dX5_learns_33
    · replace hF := (if_neg (bI_f c10)).symm.trans hF
      refine lv_aload_n hx hb dX5_learns_17 rfl (lv_at hl 0 rfl) ?_
      refine lv_iconst (v := 0) hx hb dX5_learns_18 (by decide) ?_
      obtain ⟨⟨r19, v20⟩, h18, hF⟩ := bi_some hF
      dsimp only at hF
      refine k_i hS (kV_run M hS hP ok_X5_48 (c_X5_finding l G 0 v r19 v20 h18) (rc_5 M hP rfl) rfl hl.1 rfl (Nat.le_of_ble_eq_true rfl) ⟨rfl, rfl⟩ ⟨Nat.le_of_ble_eq_true rfl, Nat.le_of_ble_eq_true rfl⟩ dX5_learns_19) (fun H locs hP hS => ?_)
      exact ret_i M hS hP (Option.some.inj hF) dX5_learns_22
def F_X5_taught (a1 : Int32) (v : VV) : Option (Int32 × VV) :=
  Option.bind (F_X5_isUpTo a1 11 v) (fun r2 => (if r2 = true then (Option.bind (F_X1_become 58 25 v) (fun v6 => Option.bind (F_X5_daysUntilDraftLearnt a1 v6) (fun (r8, v9) => some (r8, v9)))) else (Option.bind (F_X5_finding 0 v) (fun (r12, v13) => some (r12, v13)))))
set_option maxHeartbeats 4000000 in
set_option maxRecDepth 100000 in
theorem c_X5_taught (l : Launch) (G : GG) (a1 : Int32) (v : VV) (r : Int32) (v' : VV) (hF : F_X5_taught a1 v = some (r, v')) : Met l yX5_taught (cdW yX5_taught cX5_taught 2 (some .int)) ({ frames := 5, cells := 0, slots := 0, locals := 114 } : Room) (PC G v [.ref (ad G 12), .int a1]) (QI G r v') 0 0 (gA G) := by
  refine met_in RX5 (by decide) rfl (Nat.le_of_ble_eq_true rfl) ?_
  intro p e s m below meth c M hP ls hl
  have hx := M.1.1
  have hb := M.1.2.1
  have hS : va_S (gA G) s.heap s.heap [] := va_S.rf
  have hl : lv_has ls 2 [(0, .ref (ad G 12)), (1, .int a1)] := hl
  unfold F_X5_taught at hF
  refine lv_iload_n hx hb dX5_taught_0 rfl (lv_at hl 1 rfl) ?_
  refine lv_bipush (v := 11) hx hb dX5_taught_1 (by decide) ?_
  obtain ⟨r2, h1, hF⟩ := bi_some hF
  refine k_i hS (kS_run M hS hP ok_X5_44 (c_X5_isUpTo l G a1 11 v r2 h1) rfl hl.1 rfl (Nat.le_of_ble_eq_true rfl) ⟨rfl, rfl⟩ ⟨Nat.le_of_ble_eq_true rfl, Nat.le_of_ble_eq_true rfl⟩ dX5_taught_3) (fun H locs hP hS => ?_)
  refine lv_if_ne (tgt := 15) hx hb dX5_taught_6 (by decide) (fun c3 => ?_) (fun c3 => ?_)
  · replace hF := (if_pos (bI_t c3)).symm.trans hF
    refine lv_aload_n hx hb dX5_taught_15 rfl (lv_at hl 0 rfl) ?_
    refine fg_5_16 M hP dX5_taught_16 ?_
    refine lv_aload_n hx hb dX5_taught_19 rfl (lv_at hl 0 rfl) ?_
    refine fg_5_10 M hP dX5_taught_20 ?_
    obtain ⟨v6, h4, hF⟩ := bi_some hF
    refine k_v hS (kV_run M hS hP ok_X5_143 (c_X1_become l G 58 rfl 25 rfl v v6 h4) (rc_1 M hP rfl) rfl hl.1 rfl (Nat.le_of_ble_eq_true rfl) ⟨rfl, rfl⟩ ⟨Nat.le_of_ble_eq_true rfl, Nat.le_of_ble_eq_true rfl⟩ dX5_taught_23) (fun H locs hP hS => ?_)
    refine lv_aload_n hx hb dX5_taught_26 rfl (lv_at hl 0 rfl) ?_
    refine lv_iload_n hx hb dX5_taught_27 rfl (lv_at hl 1 rfl) ?_
    obtain ⟨⟨r8, v9⟩, h7, hF⟩ := bi_some hF
    dsimp only at hF
    refine k_i hS (kV_run M hS hP ok_X5_140 (c_X5_daysUntilDraftLearnt l G a1 v6 r8 v9 h7) (rc_5 M hP rfl) rfl hl.1 rfl (Nat.le_of_ble_eq_true rfl) ⟨rfl, rfl⟩ ⟨Nat.le_of_ble_eq_true rfl, Nat.le_of_ble_eq_true rfl⟩ dX5_taught_28) (fun H locs hP hS => ?_)
    exact ret_i M hS hP (Option.some.inj hF) dX5_taught_31
  · replace hF := (if_neg (bI_f c3)).symm.trans hF
    refine lv_aload_n hx hb dX5_taught_9 rfl (lv_at hl 0 rfl) ?_
    refine lv_iconst (v := 0) hx hb dX5_taught_10 (by decide) ?_
    obtain ⟨⟨r12, v13⟩, h11, hF⟩ := bi_some hF
    dsimp only at hF
    refine k_i hS (kV_run M hS hP ok_X5_48 (c_X5_finding l G 0 v r12 v13 h11) (rc_5 M hP rfl) rfl hl.1 rfl (Nat.le_of_ble_eq_true rfl) ⟨rfl, rfl⟩ ⟨Nat.le_of_ble_eq_true rfl, Nat.le_of_ble_eq_true rfl⟩ dX5_taught_11) (fun H locs hP hS => ?_)
    exact ret_i M hS hP (Option.some.inj hF) dX5_taught_14
def L_X5_weary_33 : Nat → Int32 → Int32 → Int32 → VV → Option (Int32 × VV)
  | 0, _, _, _, _ => none
  | n + 1, x1, x2, x3, v =>
  if 200 < x3 then (Option.bind (F_X5_finding 3 v) (fun (r16, v17) => some (r16, v17))) else (if (v (((58 + 3) + 2 + 0) + 8) 4) < x2 then (Option.bind (F_X1_passDay 58 v) (fun v22 => L_X5_weary_33 n x1 x2 (x3 + 1) v22)) else (some (x3, v)))
def F_X5_weary (a1 : Int32) (a2 : Int32) (v : VV) : Option (Int32 × VV) :=
  Option.bind (F_X5_isKeeper a1 v) (fun r2 => (if r2 = true then (Option.bind (F_X5_isUpTo a2 (stA 0 4) v) (fun r9 => (if r9 = true then (Option.bind (F_X5_draftLoneKeeper a1 v) (fun v13 => L_X5_weary_33 fu a1 a2 0 v13)) else (Option.bind (F_X5_finding 0 v) (fun (r24, v25) => some (r24, v25)))))) else (Option.bind (F_X5_finding 0 v) (fun (r5, v6) => some (r5, v6)))))
set_option maxHeartbeats 4000000 in
set_option maxRecDepth 100000 in
theorem l_X5_weary_33 {p : Program} {l : Launch} {e : Env} {s : State} {m : MethodId} {args : Array Value} {below : List Frame} {meth : Method} {c : Code} {G : GG} (M : Mx G RX5 cX5_weary 4 (some .int) p s m args meth c) (r : Int32) (v' : VV) : ∀ (n : Nat) (x1 : Int32) (x2 : Int32) (x3 : Int32) (v : VV) (H : Heap) (locs : List Loc) (ls : Array Slot), L_X5_weary_33 n x1 x2 x3 v = some (r, v') → Wd G v H → va_S (gA G) s.heap H locs → lv_has ls 4 [(0, .ref (ad G 12)), (1, .int x1), (2, .int x2), (3, .int x3)] → W p l e ({ frames := 4, cells := 0, slots := 0, locals := 92 } : Room) s m args below meth c H locs 0 0 (MQ below (QI G r v') args s 0 0 (gA G)) (F0 m 33 ls []) := by
  have hx := M.1.1
  have hb := M.1.2.1
  intro n
  induction n with
  | zero =>
    intro x1 x2 x3 v H locs ls hF hP hS hl
    rw [L_X5_weary_33] at hF
    cases hF
  | succ n ih =>
    intro x1 x2 x3 v H locs ls hF hP hS hl
    rw [L_X5_weary_33] at hF
    refine lv_iload_n hx hb dX5_weary_33 rfl (lv_at hl 3 rfl) ?_
    refine lv_sipush (v := 200) hx hb dX5_weary_34 (by decide) ?_
    refine lv_icmp_gt (tgt := 73) hx hb dX5_weary_37 (by decide) (fun c14 => ?_) (fun c14 => ?_)
    · replace hF := (if_pos c14).symm.trans hF
      refine lv_aload_n hx hb dX5_weary_73 rfl (lv_at hl 0 rfl) ?_
      refine lv_iconst (v := 3) hx hb dX5_weary_74 (by decide) ?_
      obtain ⟨⟨r16, v17⟩, h15, hF⟩ := bi_some hF
      dsimp only at hF
      refine k_i hS (kV_run M hS hP ok_X5_48 (c_X5_finding l G 3 v r16 v17 h15) (rc_5 M hP rfl) rfl hl.1 rfl (Nat.le_of_ble_eq_true rfl) ⟨rfl, rfl⟩ ⟨Nat.le_of_ble_eq_true rfl, Nat.le_of_ble_eq_true rfl⟩ dX5_weary_75) (fun H locs hP hS => ?_)
      exact ret_i M hS hP (Option.some.inj hF) dX5_weary_78
    · replace hF := (if_neg c14).symm.trans hF
      refine lv_aload_n hx hb dX5_weary_40 rfl (lv_at hl 0 rfl) ?_
      refine fg_5_16 M hP dX5_weary_41 ?_
      refine fg_5_81 M hP rfl dX5_weary_44 ?_
      refine lv_iconst (v := 0) hx hb dX5_weary_47 (by decide) ?_
      refine r_aald10 (k := 0) M hP (ge_1_3k (i := 58) rfl) (ge_10l (i := (58 + 3)) (ge_1_3k (i := 58) rfl)) (in_c rfl) rfl dX5_weary_48 ?_
      refine fg_5_85 M hP (ge_10k (i := (58 + 3)) (k := 0) (ge_1_3k (i := 58) rfl) (by decide : 0 < 8)) dX5_weary_49 ?_
      refine lv_iconst (v := 4) hx hb dX5_weary_52 (by decide) ?_
      refine r_iald (k := 4) M hP (ge_2k (i := ((58 + 3) + 2 + 0)) (ge_10k (i := (58 + 3)) (k := 0) (ge_1_3k (i := 58) rfl) (by decide : 0 < 8))) (ge_2l (i := ((58 + 3) + 2 + 0)) (ge_10k (i := (58 + 3)) (k := 0) (ge_1_3k (i := 58) rfl) (by decide : 0 < 8))) (in_c rfl) rfl dX5_weary_53 ?_
      refine lv_iload_n hx hb dX5_weary_54 rfl (lv_at hl 2 rfl) ?_
      refine lv_icmp_lt (tgt := 60) hx hb dX5_weary_55 (by decide) (fun c19 => ?_) (fun c19 => ?_)
      · replace hF := (if_pos c19).symm.trans hF
        refine lv_aload_n hx hb dX5_weary_60 rfl (lv_at hl 0 rfl) ?_
        refine fg_5_16 M hP dX5_weary_61 ?_
        obtain ⟨v22, h20, hF⟩ := bi_some hF
        refine k_v hS (kV_run M hS hP ok_X5_147 (c_X1_passDay l G 58 rfl v v22 h20) (rc_1 M hP rfl) rfl hl.1 rfl (Nat.le_of_ble_eq_true rfl) ⟨rfl, rfl⟩ ⟨Nat.le_of_ble_eq_true rfl, Nat.le_of_ble_eq_true rfl⟩ dX5_weary_64) (fun H locs hP hS => ?_)
        refine lv_iinc (v := (x3 + 1)) (lv' := [(3, .int (x3 + 1)), (0, .ref (ad G 12)), (1, .int x1), (2, .int x2)]) hx hb dX5_weary_67 hl (k := 3) rfl (iinc_eq _ (by decide)) (by decide) rfl (fun ls hl => ?_)
        refine lv_goto (tgt := 33) hx hb dX5_weary_70 (by decide) ?_
        exact ih x1 x2 (x3 + 1) _ _ _ ls hF hP hS (lv_sub hl [1, 2, 3, 0] rfl)
      · replace hF := (if_neg c19).symm.trans hF
        refine lv_iload_n hx hb dX5_weary_58 rfl (lv_at hl 3 rfl) ?_
        exact ret_i M hS hP (Option.some.inj hF) dX5_weary_59
set_option maxHeartbeats 4000000 in
set_option maxRecDepth 100000 in
theorem c_X5_weary (l : Launch) (G : GG) (a1 : Int32) (a2 : Int32) (v : VV) (r : Int32) (v' : VV) (hF : F_X5_weary a1 a2 v = some (r, v')) : Met l yX5_weary (cdW yX5_weary cX5_weary 4 (some .int)) ({ frames := 4, cells := 0, slots := 0, locals := 92 } : Room) (PC G v [.ref (ad G 12), .int a1, .int a2]) (QI G r v') 0 0 (gA G) := by
  refine met_in RX5 (by decide) rfl (Nat.le_of_ble_eq_true rfl) ?_
  intro p e s m below meth c M hP ls hl
  have hx := M.1.1
  have hb := M.1.2.1
  have hS : va_S (gA G) s.heap s.heap [] := va_S.rf
  have hl : lv_has ls 4 [(0, .ref (ad G 12)), (1, .int a1), (2, .int a2)] := hl
  unfold F_X5_weary at hF
  refine lv_aload_n hx hb dX5_weary_0 rfl (lv_at hl 0 rfl) ?_
  refine lv_iload_n hx hb dX5_weary_1 rfl (lv_at hl 1 rfl) ?_
  obtain ⟨r2, h1, hF⟩ := bi_some hF
  refine k_i hS (kV_run M hS hP ok_X5_69 (c_X5_isKeeper l G a1 v r2 h1) (rc_5 M hP rfl) rfl hl.1 rfl (Nat.le_of_ble_eq_true rfl) ⟨rfl, rfl⟩ ⟨Nat.le_of_ble_eq_true rfl, Nat.le_of_ble_eq_true rfl⟩ dX5_weary_2) (fun H locs hP hS => ?_)
  refine lv_if_eq (tgt := 20) hx hb dX5_weary_5 (by decide) (fun c3 => ?_) (fun c3 => ?_)
  · replace hF := (if_neg (bI_f c3)).symm.trans hF
    refine lv_aload_n hx hb dX5_weary_20 rfl (lv_at hl 0 rfl) ?_
    refine lv_iconst (v := 0) hx hb dX5_weary_21 (by decide) ?_
    obtain ⟨⟨r5, v6⟩, h4, hF⟩ := bi_some hF
    dsimp only at hF
    refine k_i hS (kV_run M hS hP ok_X5_48 (c_X5_finding l G 0 v r5 v6 h4) (rc_5 M hP rfl) rfl hl.1 rfl (Nat.le_of_ble_eq_true rfl) ⟨rfl, rfl⟩ ⟨Nat.le_of_ble_eq_true rfl, Nat.le_of_ble_eq_true rfl⟩ dX5_weary_22) (fun H locs hP hS => ?_)
    exact ret_i M hS hP (Option.some.inj hF) dX5_weary_25
  · replace hF := (if_pos (bI_t c3)).symm.trans hF
    refine lv_iload_n hx hb dX5_weary_8 rfl (lv_at hl 2 rfl) ?_
    refine fs_5_78 M hS dX5_weary_9 ?_
    refine lv_iconst (v := 4) hx hb dX5_weary_12 (by decide) ?_
    refine r_sald (k := 4) M hS (t := 0) (by decide) rfl (in_c rfl) rfl dX5_weary_13 ?_
    obtain ⟨r9, h8, hF⟩ := bi_some hF
    refine k_i hS (kS_run M hS hP ok_X5_44 (c_X5_isUpTo l G a2 (stA 0 4) v r9 h8) rfl hl.1 rfl (Nat.le_of_ble_eq_true rfl) ⟨rfl, rfl⟩ ⟨Nat.le_of_ble_eq_true rfl, Nat.le_of_ble_eq_true rfl⟩ dX5_weary_14) (fun H locs hP hS => ?_)
    refine lv_if_ne (tgt := 26) hx hb dX5_weary_17 (by decide) (fun c10 => ?_) (fun c10 => ?_)
    · replace hF := (if_pos (bI_t c10)).symm.trans hF
      refine lv_aload_n hx hb dX5_weary_26 rfl (lv_at hl 0 rfl) ?_
      refine lv_iload_n hx hb dX5_weary_27 rfl (lv_at hl 1 rfl) ?_
      obtain ⟨v13, h11, hF⟩ := bi_some hF
      refine k_v hS (kV_run M hS hP ok_X5_134 (c_X5_draftLoneKeeper l G a1 v v13 h11) (rc_5 M hP rfl) rfl hl.1 rfl (Nat.le_of_ble_eq_true rfl) ⟨rfl, rfl⟩ ⟨Nat.le_of_ble_eq_true rfl, Nat.le_of_ble_eq_true rfl⟩ dX5_weary_28) (fun H locs hP hS => ?_)
      refine lv_iconst (v := 0) hx hb dX5_weary_31 (by decide) ?_
      refine lv_istore_n (lv' := [(3, .int 0), (0, .ref (ad G 12)), (1, .int a1), (2, .int a2)]) hx hb dX5_weary_32 rfl hl (by decide) rfl (fun ls hl => ?_)
      exact l_X5_weary_33 M _ _ fu a1 a2 0 _ _ _ ls hF hP hS (lv_sub hl [1, 2, 3, 0] rfl)
    · replace hF := (if_neg (bI_f c10)).symm.trans hF
      refine lv_aload_n hx hb dX5_weary_20 rfl (lv_at hl 0 rfl) ?_
      refine lv_iconst (v := 0) hx hb dX5_weary_21 (by decide) ?_
      obtain ⟨⟨r24, v25⟩, h23, hF⟩ := bi_some hF
      dsimp only at hF
      refine k_i hS (kV_run M hS hP ok_X5_48 (c_X5_finding l G 0 v r24 v25 h23) (rc_5 M hP rfl) rfl hl.1 rfl (Nat.le_of_ble_eq_true rfl) ⟨rfl, rfl⟩ ⟨Nat.le_of_ble_eq_true rfl, Nat.le_of_ble_eq_true rfl⟩ dX5_weary_22) (fun H locs hP hS => ?_)
      exact ret_i M hS hP (Option.some.inj hF) dX5_weary_25
def L_X5_seatFor_31 : Nat → Int32 → Int32 → Int32 → Int32 → Int32 → VV → Option (Int32 × VV)
  | 0, _, _, _, _, _, _ => none
  | n + 1, x1, x2, x3, x4, x5, v =>
  if 15 < x5 then (some (x3, v)) else (Option.bind (F_X5_draftLoneChild x1 v) (fun v14 => Option.bind (F_X1_passDays 58 x2 (pu v14 (((58 + 4) + 17 + 0) + 6) 0 x5)) (fun v17 => Option.bind (F_X1_learntTogether 58 v17) (fun r19 => (if r19 ≤ x4 then (L_X5_seatFor_31 n x1 x2 x3 x4 (x5 + 1) v17) else (L_X5_seatFor_31 n x1 x2 x5 r19 (x5 + 1) v17))))))
def F_X5_seatFor (a1 : Int32) (a2 : Int32) (v : VV) : Option (Int32 × VV) :=
  Option.bind (F_X5_isChild a1 v) (fun r2 => (if r2 = true then (Option.bind (F_X5_isUpTo a2 60 v) (fun r9 => (if r9 = true then (L_X5_seatFor_31 fu a1 a2 0 (-1) 0 v) else (Option.bind (F_X5_finding 0 v) (fun (r22, v23) => some (r22, v23)))))) else (Option.bind (F_X5_finding 0 v) (fun (r5, v6) => some (r5, v6)))))
set_option maxHeartbeats 4000000 in
set_option maxRecDepth 100000 in
theorem l_X5_seatFor_31 {p : Program} {l : Launch} {e : Env} {s : State} {m : MethodId} {args : Array Value} {below : List Frame} {meth : Method} {c : Code} {G : GG} (M : Mx G RX5 cX5_seatFor 7 (some .int) p s m args meth c) (r : Int32) (v' : VV) : ∀ (n : Nat) (x1 : Int32) (x2 : Int32) (x3 : Int32) (x4 : Int32) (x5 : Int32) (v : VV) (H : Heap) (locs : List Loc) (ls : Array Slot), L_X5_seatFor_31 n x1 x2 x3 x4 x5 v = some (r, v') → Wd G v H → va_S (gA G) s.heap H locs → lv_has ls 7 [(0, .ref (ad G 12)), (1, .int x1), (2, .int x2), (3, .int x3), (4, .int x4), (5, .int x5)] → W p l e ({ frames := 5, cells := 0, slots := 0, locals := 114 } : Room) s m args below meth c H locs 0 0 (MQ below (QI G r v') args s 0 0 (gA G)) (F0 m 31 ls []) := by
  have hx := M.1.1
  have hb := M.1.2.1
  intro n
  induction n with
  | zero =>
    intro x1 x2 x3 x4 x5 v H locs ls hF hP hS hl
    rw [L_X5_seatFor_31] at hF
    cases hF
  | succ n ih =>
    intro x1 x2 x3 x4 x5 v H locs ls hF hP hS hl
    rw [L_X5_seatFor_31] at hF
    refine lv_iload hx hb dX5_seatFor_31 (lv_at hl 5 rfl) ?_
    refine lv_bipush (v := 15) hx hb dX5_seatFor_33 (by decide) ?_
    refine lv_icmp_gt (tgt := 96) hx hb dX5_seatFor_35 (by decide) (fun c11 => ?_) (fun c11 => ?_)
    · replace hF := (if_pos c11).symm.trans hF
      refine lv_iload_n hx hb dX5_seatFor_96 rfl (lv_at hl 3 rfl) ?_
      exact ret_i M hS hP (Option.some.inj hF) dX5_seatFor_97
    · replace hF := (if_neg c11).symm.trans hF
      refine lv_aload_n hx hb dX5_seatFor_38 rfl (lv_at hl 0 rfl) ?_
      refine lv_iload_n hx hb dX5_seatFor_39 rfl (lv_at hl 1 rfl) ?_
      obtain ⟨v14, h12, hF⟩ := bi_some hF
      refine k_v hS (kV_run M hS hP ok_X5_137 (c_X5_draftLoneChild l G x1 v v14 h12) (rc_5 M hP rfl) rfl hl.1 rfl (Nat.le_of_ble_eq_true rfl) ⟨rfl, rfl⟩ ⟨Nat.le_of_ble_eq_true rfl, Nat.le_of_ble_eq_true rfl⟩ dX5_seatFor_40) (fun H locs hP hS => ?_)
      refine lv_aload_n hx hb dX5_seatFor_43 rfl (lv_at hl 0 rfl) ?_
      refine fg_5_16 M hP dX5_seatFor_44 ?_
      refine fg_5_93 M hP rfl dX5_seatFor_47 ?_
      refine lv_iconst (v := 0) hx hb dX5_seatFor_50 (by decide) ?_
      refine r_aald9 (k := 0) M hP (ge_1_4k (i := 58) rfl) (ge_9l (i := (58 + 4)) (ge_1_4k (i := 58) rfl)) (in_c rfl) rfl dX5_seatFor_51 ?_
      refine fg_5_97 M hP (ge_9k (i := (58 + 4)) (k := 0) (ge_1_4k (i := 58) rfl) (by decide : 0 < 6)) dX5_seatFor_52 ?_
      refine lv_iconst (v := 0) hx hb dX5_seatFor_55 (by decide) ?_
      refine lv_iload hx hb dX5_seatFor_56 (lv_at hl 5 rfl) ?_
      refine r_iast (k := 0) M hS hP (ge_0k (i := ((58 + 4) + 17 + 0)) (ge_9k (i := (58 + 4)) (k := 0) (ge_1_4k (i := 58) rfl) (by decide : 0 < 6))) (ge_0l (i := ((58 + 4) + 17 + 0)) (ge_9k (i := (58 + 4)) (k := 0) (ge_1_4k (i := 58) rfl) (by decide : 0 < 6))) (in_c rfl) rfl dX5_seatFor_58 (fun H locs hP hS => ?_)
      have hP : Wd G (pu v14 (((58 + 4) + 17 + 0) + 6) 0 x5) H := hP
      refine lv_aload_n hx hb dX5_seatFor_59 rfl (lv_at hl 0 rfl) ?_
      refine fg_5_16 M hP dX5_seatFor_60 ?_
      refine lv_iload_n hx hb dX5_seatFor_63 rfl (lv_at hl 2 rfl) ?_
      obtain ⟨v17, h15, hF⟩ := bi_some hF
      refine k_v hS (kV_run M hS hP ok_X5_111 (c_X1_passDays l G 58 rfl x2 (pu v14 (((58 + 4) + 17 + 0) + 6) 0 x5) v17 h15) (rc_1 M hP rfl) rfl hl.1 rfl (Nat.le_of_ble_eq_true rfl) ⟨rfl, rfl⟩ ⟨Nat.le_of_ble_eq_true rfl, Nat.le_of_ble_eq_true rfl⟩ dX5_seatFor_64) (fun H locs hP hS => ?_)
      refine lv_aload_n hx hb dX5_seatFor_67 rfl (lv_at hl 0 rfl) ?_
      refine fg_5_16 M hP dX5_seatFor_68 ?_
      obtain ⟨r19, h18, hF⟩ := bi_some hF
      refine k_i hS (kV_run M hS hP ok_X5_115 (c_X1_learntTogether l G 58 rfl v17 r19 h18) (rc_1 M hP rfl) rfl hl.1 rfl (Nat.le_of_ble_eq_true rfl) ⟨rfl, rfl⟩ ⟨Nat.le_of_ble_eq_true rfl, Nat.le_of_ble_eq_true rfl⟩ dX5_seatFor_71) (fun H locs hP hS => ?_)
      refine lv_istore (lv' := [(6, .int r19), (0, .ref (ad G 12)), (1, .int x1), (2, .int x2), (3, .int x3), (4, .int x4), (5, .int x5)]) hx hb dX5_seatFor_74 hl (by decide) rfl (fun ls hl => ?_)
      refine lv_iload hx hb dX5_seatFor_76 (lv_at hl 0 rfl) ?_
      refine lv_iload hx hb dX5_seatFor_78 (lv_at hl 5 rfl) ?_
      refine lv_icmp_le (tgt := 90) hx hb dX5_seatFor_80 (by decide) (fun c20 => ?_) (fun c20 => ?_)
      · replace hF := (if_pos c20).symm.trans hF
        refine lv_iinc (v := (x5 + 1)) (lv' := [(5, .int (x5 + 1)), (6, .int r19), (0, .ref (ad G 12)), (1, .int x1), (2, .int x2), (3, .int x3), (4, .int x4)]) hx hb dX5_seatFor_90 hl (k := 6) rfl (iinc_eq _ (by decide)) (by decide) rfl (fun ls hl => ?_)
        refine lv_goto (tgt := 31) hx hb dX5_seatFor_93 (by decide) ?_
        exact ih x1 x2 x3 x4 (x5 + 1) _ _ _ ls hF hP hS (lv_sub hl [2, 3, 4, 5, 6, 0] rfl)
      · replace hF := (if_neg c20).symm.trans hF
        refine lv_iload hx hb dX5_seatFor_83 (lv_at hl 0 rfl) ?_
        refine lv_istore (lv' := [(4, .int r19), (6, .int r19), (0, .ref (ad G 12)), (1, .int x1), (2, .int x2), (3, .int x3), (5, .int x5)]) hx hb dX5_seatFor_85 hl (by decide) rfl (fun ls hl => ?_)
        refine lv_iload hx hb dX5_seatFor_87 (lv_at hl 6 rfl) ?_
        refine lv_istore_n (lv' := [(3, .int x5), (4, .int r19), (6, .int r19), (0, .ref (ad G 12)), (1, .int x1), (2, .int x2), (5, .int x5)]) hx hb dX5_seatFor_89 rfl hl (by decide) rfl (fun ls hl => ?_)
        refine lv_iinc (v := (x5 + 1)) (lv' := [(5, .int (x5 + 1)), (3, .int x5), (4, .int r19), (6, .int r19), (0, .ref (ad G 12)), (1, .int x1), (2, .int x2)]) hx hb dX5_seatFor_90 hl (k := 6) rfl (iinc_eq _ (by decide)) (by decide) rfl (fun ls hl => ?_)
        refine lv_goto (tgt := 31) hx hb dX5_seatFor_93 (by decide) ?_
        exact ih x1 x2 x5 r19 (x5 + 1) _ _ _ ls hF hP hS (lv_sub hl [4, 5, 6, 1, 2, 0] rfl)
set_option maxHeartbeats 4000000 in
set_option maxRecDepth 100000 in
theorem c_X5_seatFor (l : Launch) (G : GG) (a1 : Int32) (a2 : Int32) (v : VV) (r : Int32) (v' : VV) (hF : F_X5_seatFor a1 a2 v = some (r, v')) : Met l yX5_seatFor (cdW yX5_seatFor cX5_seatFor 7 (some .int)) ({ frames := 5, cells := 0, slots := 0, locals := 114 } : Room) (PC G v [.ref (ad G 12), .int a1, .int a2]) (QI G r v') 0 0 (gA G) := by
  refine met_in RX5 (by decide) rfl (Nat.le_of_ble_eq_true rfl) ?_
  intro p e s m below meth c M hP ls hl
  have hx := M.1.1
  have hb := M.1.2.1
  have hS : va_S (gA G) s.heap s.heap [] := va_S.rf
  have hl : lv_has ls 7 [(0, .ref (ad G 12)), (1, .int a1), (2, .int a2)] := hl
  unfold F_X5_seatFor at hF
  refine lv_aload_n hx hb dX5_seatFor_0 rfl (lv_at hl 0 rfl) ?_
  refine lv_iload_n hx hb dX5_seatFor_1 rfl (lv_at hl 1 rfl) ?_
  obtain ⟨r2, h1, hF⟩ := bi_some hF
  refine k_i hS (kV_run M hS hP ok_X5_88 (c_X5_isChild l G a1 v r2 h1) (rc_5 M hP rfl) rfl hl.1 rfl (Nat.le_of_ble_eq_true rfl) ⟨rfl, rfl⟩ ⟨Nat.le_of_ble_eq_true rfl, Nat.le_of_ble_eq_true rfl⟩ dX5_seatFor_2) (fun H locs hP hS => ?_)
  refine lv_if_eq (tgt := 17) hx hb dX5_seatFor_5 (by decide) (fun c3 => ?_) (fun c3 => ?_)
  · replace hF := (if_neg (bI_f c3)).symm.trans hF
    refine lv_aload_n hx hb dX5_seatFor_17 rfl (lv_at hl 0 rfl) ?_
    refine lv_iconst (v := 0) hx hb dX5_seatFor_18 (by decide) ?_
    obtain ⟨⟨r5, v6⟩, h4, hF⟩ := bi_some hF
    dsimp only at hF
    refine k_i hS (kV_run M hS hP ok_X5_48 (c_X5_finding l G 0 v r5 v6 h4) (rc_5 M hP rfl) rfl hl.1 rfl (Nat.le_of_ble_eq_true rfl) ⟨rfl, rfl⟩ ⟨Nat.le_of_ble_eq_true rfl, Nat.le_of_ble_eq_true rfl⟩ dX5_seatFor_19) (fun H locs hP hS => ?_)
    exact ret_i M hS hP (Option.some.inj hF) dX5_seatFor_22
  · replace hF := (if_pos (bI_t c3)).symm.trans hF
    refine lv_iload_n hx hb dX5_seatFor_8 rfl (lv_at hl 2 rfl) ?_
    refine lv_bipush (v := 60) hx hb dX5_seatFor_9 (by decide) ?_
    obtain ⟨r9, h8, hF⟩ := bi_some hF
    refine k_i hS (kS_run M hS hP ok_X5_44 (c_X5_isUpTo l G a2 60 v r9 h8) rfl hl.1 rfl (Nat.le_of_ble_eq_true rfl) ⟨rfl, rfl⟩ ⟨Nat.le_of_ble_eq_true rfl, Nat.le_of_ble_eq_true rfl⟩ dX5_seatFor_11) (fun H locs hP hS => ?_)
    refine lv_if_ne (tgt := 23) hx hb dX5_seatFor_14 (by decide) (fun c10 => ?_) (fun c10 => ?_)
    · replace hF := (if_pos (bI_t c10)).symm.trans hF
      refine lv_iconst (v := 0) hx hb dX5_seatFor_23 (by decide) ?_
      refine lv_istore_n (lv' := [(3, .int 0), (0, .ref (ad G 12)), (1, .int a1), (2, .int a2)]) hx hb dX5_seatFor_24 rfl hl (by decide) rfl (fun ls hl => ?_)
      refine lv_iconst (v := (-1)) hx hb dX5_seatFor_25 (by decide) ?_
      refine lv_istore (lv' := [(4, .int (-1)), (3, .int 0), (0, .ref (ad G 12)), (1, .int a1), (2, .int a2)]) hx hb dX5_seatFor_26 hl (by decide) rfl (fun ls hl => ?_)
      refine lv_iconst (v := 0) hx hb dX5_seatFor_28 (by decide) ?_
      refine lv_istore (lv' := [(5, .int 0), (4, .int (-1)), (3, .int 0), (0, .ref (ad G 12)), (1, .int a1), (2, .int a2)]) hx hb dX5_seatFor_29 hl (by decide) rfl (fun ls hl => ?_)
      exact l_X5_seatFor_31 M _ _ fu a1 a2 0 (-1) 0 _ _ _ ls hF hP hS (lv_sub hl [3, 4, 5, 2, 1, 0] rfl)
    · replace hF := (if_neg (bI_f c10)).symm.trans hF
      refine lv_aload_n hx hb dX5_seatFor_17 rfl (lv_at hl 0 rfl) ?_
      refine lv_iconst (v := 0) hx hb dX5_seatFor_18 (by decide) ?_
      obtain ⟨⟨r22, v23⟩, h21, hF⟩ := bi_some hF
      dsimp only at hF
      refine k_i hS (kV_run M hS hP ok_X5_48 (c_X5_finding l G 0 v r22 v23 h21) (rc_5 M hP rfl) rfl hl.1 rfl (Nat.le_of_ble_eq_true rfl) ⟨rfl, rfl⟩ ⟨Nat.le_of_ble_eq_true rfl, Nat.le_of_ble_eq_true rfl⟩ dX5_seatFor_19) (fun H locs hP hS => ?_)
      exact ret_i M hS hP (Option.some.inj hF) dX5_seatFor_22
def L_X5_quickFor_35 : Nat → Int32 → Int32 → Int32 → Int32 → VV → Option (Int32 × VV)
  | 0, _, _, _, _, _ => none
  | n + 1, x1, x2, x3, x4, v =>
  if 9 < x4 then (Option.bind (F_X5_finding 3 v) (fun (r20, v21) => some (r20, v21))) else (Option.bind (F_X5_draftLoneChild x1 v) (fun v25 => Option.bind (F_X1_passDays 58 x3 (pu v25 (((58 + 4) + 17 + 0) + 6) 1 x4)) (fun v28 => Option.bind (F_X1_haveAllLearnt 58 x2 v28) (fun r30 => (if r30 = true then (some (x4, v28)) else (L_X5_quickFor_35 n x1 x2 x3 (x4 + 1) v28))))))
def F_X5_quickFor (a1 : Int32) (a2 : Int32) (a3 : Int32) (v : VV) : Option (Int32 × VV) :=
  Option.bind (F_X5_isChild a1 v) (fun r2 => (if r2 = true then (Option.bind (F_X5_isUpTo a2 11 v) (fun r9 => (if r9 = true then (Option.bind (F_X5_isUpTo a3 60 v) (fun r16 => (if r16 = true then (L_X5_quickFor_35 fu a1 a2 a3 0 v) else (Option.bind (F_X5_finding 0 v) (fun (r33, v34) => some (r33, v34)))))) else (Option.bind (F_X5_finding 0 v) (fun (r12, v13) => some (r12, v13)))))) else (Option.bind (F_X5_finding 0 v) (fun (r5, v6) => some (r5, v6)))))
set_option maxHeartbeats 4000000 in
set_option maxRecDepth 100000 in
theorem l_X5_quickFor_35 {p : Program} {l : Launch} {e : Env} {s : State} {m : MethodId} {args : Array Value} {below : List Frame} {meth : Method} {c : Code} {G : GG} (M : Mx G RX5 cX5_quickFor 5 (some .int) p s m args meth c) (r : Int32) (v' : VV) : ∀ (n : Nat) (x1 : Int32) (x2 : Int32) (x3 : Int32) (x4 : Int32) (v : VV) (H : Heap) (locs : List Loc) (ls : Array Slot), L_X5_quickFor_35 n x1 x2 x3 x4 v = some (r, v') → Wd G v H → va_S (gA G) s.heap H locs → lv_has ls 5 [(0, .ref (ad G 12)), (1, .int x1), (2, .int x2), (3, .int x3), (4, .int x4)] → W p l e ({ frames := 5, cells := 0, slots := 0, locals := 114 } : Room) s m args below meth c H locs 0 0 (MQ below (QI G r v') args s 0 0 (gA G)) (F0 m 35 ls []) := by
  have hx := M.1.1
  have hb := M.1.2.1
  intro n
  induction n with
  | zero =>
    intro x1 x2 x3 x4 v H locs ls hF hP hS hl
    rw [L_X5_quickFor_35] at hF
    cases hF
  | succ n ih =>
    intro x1 x2 x3 x4 v H locs ls hF hP hS hl
    rw [L_X5_quickFor_35] at hF
    refine lv_iload hx hb dX5_quickFor_35 (lv_at hl 4 rfl) ?_
    refine lv_bipush (v := 9) hx hb dX5_quickFor_37 (by decide) ?_
    refine lv_icmp_gt (tgt := 91) hx hb dX5_quickFor_39 (by decide) (fun c18 => ?_) (fun c18 => ?_)
    · replace hF := (if_pos c18).symm.trans hF
      refine lv_aload_n hx hb dX5_quickFor_91 rfl (lv_at hl 0 rfl) ?_
      refine lv_iconst (v := 3) hx hb dX5_quickFor_92 (by decide) ?_
      obtain ⟨⟨r20, v21⟩, h19, hF⟩ := bi_some hF
      dsimp only at hF
      refine k_i hS (kV_run M hS hP ok_X5_48 (c_X5_finding l G 3 v r20 v21 h19) (rc_5 M hP rfl) rfl hl.1 rfl (Nat.le_of_ble_eq_true rfl) ⟨rfl, rfl⟩ ⟨Nat.le_of_ble_eq_true rfl, Nat.le_of_ble_eq_true rfl⟩ dX5_quickFor_93) (fun H locs hP hS => ?_)
      exact ret_i M hS hP (Option.some.inj hF) dX5_quickFor_96
    · replace hF := (if_neg c18).symm.trans hF
      refine lv_aload_n hx hb dX5_quickFor_42 rfl (lv_at hl 0 rfl) ?_
      refine lv_iload_n hx hb dX5_quickFor_43 rfl (lv_at hl 1 rfl) ?_
      obtain ⟨v25, h23, hF⟩ := bi_some hF
      refine k_v hS (kV_run M hS hP ok_X5_137 (c_X5_draftLoneChild l G x1 v v25 h23) (rc_5 M hP rfl) rfl hl.1 rfl (Nat.le_of_ble_eq_true rfl) ⟨rfl, rfl⟩ ⟨Nat.le_of_ble_eq_true rfl, Nat.le_of_ble_eq_true rfl⟩ dX5_quickFor_44) (fun H locs hP hS => ?_)
      refine lv_aload_n hx hb dX5_quickFor_47 rfl (lv_at hl 0 rfl) ?_
      refine fg_5_16 M hP dX5_quickFor_48 ?_
      refine fg_5_93 M hP rfl dX5_quickFor_51 ?_
      refine lv_iconst (v := 0) hx hb dX5_quickFor_54 (by decide) ?_
      refine r_aald9 (k := 0) M hP (ge_1_4k (i := 58) rfl) (ge_9l (i := (58 + 4)) (ge_1_4k (i := 58) rfl)) (in_c rfl) rfl dX5_quickFor_55 ?_
      refine fg_5_97 M hP (ge_9k (i := (58 + 4)) (k := 0) (ge_1_4k (i := 58) rfl) (by decide : 0 < 6)) dX5_quickFor_56 ?_
      refine lv_iconst (v := 1) hx hb dX5_quickFor_59 (by decide) ?_
      refine lv_iload hx hb dX5_quickFor_60 (lv_at hl 4 rfl) ?_
      refine r_iast (k := 1) M hS hP (ge_0k (i := ((58 + 4) + 17 + 0)) (ge_9k (i := (58 + 4)) (k := 0) (ge_1_4k (i := 58) rfl) (by decide : 0 < 6))) (ge_0l (i := ((58 + 4) + 17 + 0)) (ge_9k (i := (58 + 4)) (k := 0) (ge_1_4k (i := 58) rfl) (by decide : 0 < 6))) (in_c rfl) rfl dX5_quickFor_62 (fun H locs hP hS => ?_)
      have hP : Wd G (pu v25 (((58 + 4) + 17 + 0) + 6) 1 x4) H := hP
      refine lv_aload_n hx hb dX5_quickFor_63 rfl (lv_at hl 0 rfl) ?_
      refine fg_5_16 M hP dX5_quickFor_64 ?_
      refine lv_iload_n hx hb dX5_quickFor_67 rfl (lv_at hl 3 rfl) ?_
      obtain ⟨v28, h26, hF⟩ := bi_some hF
      refine k_v hS (kV_run M hS hP ok_X5_111 (c_X1_passDays l G 58 rfl x3 (pu v25 (((58 + 4) + 17 + 0) + 6) 1 x4) v28 h26) (rc_1 M hP rfl) rfl hl.1 rfl (Nat.le_of_ble_eq_true rfl) ⟨rfl, rfl⟩ ⟨Nat.le_of_ble_eq_true rfl, Nat.le_of_ble_eq_true rfl⟩ dX5_quickFor_68) (fun H locs hP hS => ?_)
      refine lv_aload_n hx hb dX5_quickFor_71 rfl (lv_at hl 0 rfl) ?_
      refine fg_5_16 M hP dX5_quickFor_72 ?_
      refine lv_iload_n hx hb dX5_quickFor_75 rfl (lv_at hl 2 rfl) ?_
      obtain ⟨r30, h29, hF⟩ := bi_some hF
      refine k_i hS (kV_run M hS hP ok_X5_150 (c_X1_haveAllLearnt l G 58 rfl x2 v28 r30 h29) (rc_1 M hP rfl) rfl hl.1 rfl (Nat.le_of_ble_eq_true rfl) ⟨rfl, rfl⟩ ⟨Nat.le_of_ble_eq_true rfl, Nat.le_of_ble_eq_true rfl⟩ dX5_quickFor_76) (fun H locs hP hS => ?_)
      refine lv_if_eq (tgt := 85) hx hb dX5_quickFor_79 (by decide) (fun c31 => ?_) (fun c31 => ?_)
      · replace hF := (if_neg (bI_f c31)).symm.trans hF
        refine lv_iinc (v := (x4 + 1)) (lv' := [(4, .int (x4 + 1)), (0, .ref (ad G 12)), (1, .int x1), (2, .int x2), (3, .int x3)]) hx hb dX5_quickFor_85 hl (k := 4) rfl (iinc_eq _ (by decide)) (by decide) rfl (fun ls hl => ?_)
        refine lv_goto (tgt := 35) hx hb dX5_quickFor_88 (by decide) ?_
        exact ih x1 x2 x3 (x4 + 1) _ _ _ ls hF hP hS (lv_sub hl [1, 2, 3, 4, 0] rfl)
      · replace hF := (if_pos (bI_t c31)).symm.trans hF
        refine lv_iload hx hb dX5_quickFor_82 (lv_at hl 4 rfl) ?_
        exact ret_i M hS hP (Option.some.inj hF) dX5_quickFor_84
set_option maxHeartbeats 4000000 in
set_option maxRecDepth 100000 in
theorem c_X5_quickFor (l : Launch) (G : GG) (a1 : Int32) (a2 : Int32) (a3 : Int32) (v : VV) (r : Int32) (v' : VV) (hF : F_X5_quickFor a1 a2 a3 v = some (r, v')) : Met l yX5_quickFor (cdW yX5_quickFor cX5_quickFor 5 (some .int)) ({ frames := 5, cells := 0, slots := 0, locals := 114 } : Room) (PC G v [.ref (ad G 12), .int a1, .int a2, .int a3]) (QI G r v') 0 0 (gA G) := by
  refine met_in RX5 (by decide) rfl (Nat.le_of_ble_eq_true rfl) ?_
  intro p e s m below meth c M hP ls hl
  have hx := M.1.1
  have hb := M.1.2.1
  have hS : va_S (gA G) s.heap s.heap [] := va_S.rf
  have hl : lv_has ls 5 [(0, .ref (ad G 12)), (1, .int a1), (2, .int a2), (3, .int a3)] := hl
  unfold F_X5_quickFor at hF
  refine lv_aload_n hx hb dX5_quickFor_0 rfl (lv_at hl 0 rfl) ?_
  refine lv_iload_n hx hb dX5_quickFor_1 rfl (lv_at hl 1 rfl) ?_
  obtain ⟨r2, h1, hF⟩ := bi_some hF
  refine k_i hS (kV_run M hS hP ok_X5_88 (c_X5_isChild l G a1 v r2 h1) (rc_5 M hP rfl) rfl hl.1 rfl (Nat.le_of_ble_eq_true rfl) ⟨rfl, rfl⟩ ⟨Nat.le_of_ble_eq_true rfl, Nat.le_of_ble_eq_true rfl⟩ dX5_quickFor_2) (fun H locs hP hS => ?_)
  refine lv_if_eq (tgt := 26) hx hb dX5_quickFor_5 (by decide) (fun c3 => ?_) (fun c3 => ?_)
  · replace hF := (if_neg (bI_f c3)).symm.trans hF
    refine lv_aload_n hx hb dX5_quickFor_26 rfl (lv_at hl 0 rfl) ?_
    refine lv_iconst (v := 0) hx hb dX5_quickFor_27 (by decide) ?_
    obtain ⟨⟨r5, v6⟩, h4, hF⟩ := bi_some hF
    dsimp only at hF
    refine k_i hS (kV_run M hS hP ok_X5_48 (c_X5_finding l G 0 v r5 v6 h4) (rc_5 M hP rfl) rfl hl.1 rfl (Nat.le_of_ble_eq_true rfl) ⟨rfl, rfl⟩ ⟨Nat.le_of_ble_eq_true rfl, Nat.le_of_ble_eq_true rfl⟩ dX5_quickFor_28) (fun H locs hP hS => ?_)
    exact ret_i M hS hP (Option.some.inj hF) dX5_quickFor_31
  · replace hF := (if_pos (bI_t c3)).symm.trans hF
    refine lv_iload_n hx hb dX5_quickFor_8 rfl (lv_at hl 2 rfl) ?_
    refine lv_bipush (v := 11) hx hb dX5_quickFor_9 (by decide) ?_
    obtain ⟨r9, h8, hF⟩ := bi_some hF
    refine k_i hS (kS_run M hS hP ok_X5_44 (c_X5_isUpTo l G a2 11 v r9 h8) rfl hl.1 rfl (Nat.le_of_ble_eq_true rfl) ⟨rfl, rfl⟩ ⟨Nat.le_of_ble_eq_true rfl, Nat.le_of_ble_eq_true rfl⟩ dX5_quickFor_11) (fun H locs hP hS => ?_)
    refine lv_if_eq (tgt := 26) hx hb dX5_quickFor_14 (by decide) (fun c10 => ?_) (fun c10 => ?_)
    · replace hF := (if_neg (bI_f c10)).symm.trans hF
      refine lv_aload_n hx hb dX5_quickFor_26 rfl (lv_at hl 0 rfl) ?_
      refine lv_iconst (v := 0) hx hb dX5_quickFor_27 (by decide) ?_
      obtain ⟨⟨r12, v13⟩, h11, hF⟩ := bi_some hF
      dsimp only at hF
      refine k_i hS (kV_run M hS hP ok_X5_48 (c_X5_finding l G 0 v r12 v13 h11) (rc_5 M hP rfl) rfl hl.1 rfl (Nat.le_of_ble_eq_true rfl) ⟨rfl, rfl⟩ ⟨Nat.le_of_ble_eq_true rfl, Nat.le_of_ble_eq_true rfl⟩ dX5_quickFor_28) (fun H locs hP hS => ?_)
      exact ret_i M hS hP (Option.some.inj hF) dX5_quickFor_31
    · replace hF := (if_pos (bI_t c10)).symm.trans hF
      refine lv_iload_n hx hb dX5_quickFor_17 rfl (lv_at hl 3 rfl) ?_
      refine lv_bipush (v := 60) hx hb dX5_quickFor_18 (by decide) ?_
      obtain ⟨r16, h15, hF⟩ := bi_some hF
      refine k_i hS (kS_run M hS hP ok_X5_44 (c_X5_isUpTo l G a3 60 v r16 h15) rfl hl.1 rfl (Nat.le_of_ble_eq_true rfl) ⟨rfl, rfl⟩ ⟨Nat.le_of_ble_eq_true rfl, Nat.le_of_ble_eq_true rfl⟩ dX5_quickFor_20) (fun H locs hP hS => ?_)
      refine lv_if_ne (tgt := 32) hx hb dX5_quickFor_23 (by decide) (fun c17 => ?_) (fun c17 => ?_)
      · replace hF := (if_pos (bI_t c17)).symm.trans hF
        refine lv_iconst (v := 0) hx hb dX5_quickFor_32 (by decide) ?_
        refine lv_istore (lv' := [(4, .int 0), (0, .ref (ad G 12)), (1, .int a1), (2, .int a2), (3, .int a3)]) hx hb dX5_quickFor_33 hl (by decide) rfl (fun ls hl => ?_)
        exact l_X5_quickFor_35 M _ _ fu a1 a2 a3 0 _ _ _ ls hF hP hS (lv_sub hl [1, 2, 3, 4, 0] rfl)
      · replace hF := (if_neg (bI_f c17)).symm.trans hF
        refine lv_aload_n hx hb dX5_quickFor_26 rfl (lv_at hl 0 rfl) ?_
        refine lv_iconst (v := 0) hx hb dX5_quickFor_27 (by decide) ?_
        obtain ⟨⟨r33, v34⟩, h32, hF⟩ := bi_some hF
        dsimp only at hF
        refine k_i hS (kV_run M hS hP ok_X5_48 (c_X5_finding l G 0 v r33 v34 h32) (rc_5 M hP rfl) rfl hl.1 rfl (Nat.le_of_ble_eq_true rfl) ⟨rfl, rfl⟩ ⟨Nat.le_of_ble_eq_true rfl, Nat.le_of_ble_eq_true rfl⟩ dX5_quickFor_28) (fun H locs hP hS => ?_)
        exact ret_i M hS hP (Option.some.inj hF) dX5_quickFor_31
def L_X5_kindFor_31 : Nat → Int32 → Int32 → Int32 → Int32 → Int32 → VV → Option (Int32 × VV)
  | 0, _, _, _, _, _, _ => none
  | n + 1, x1, x2, x3, x4, x5, v =>
  if 6 < x5 then (some (x3, v)) else (Option.bind (F_X1_become 58 25 v) (fun v14 => gu (gI x1 8) (Option.bind (F_X1_passDays 58 x2 (pu v14 (((58 + 3) + 2 + ((x1).toNatClampNeg)) + 8) 0 x5)) (fun v18 => Option.bind (F_X1_learntTogether 58 v18) (fun r20 => (if r20 ≤ x4 then (L_X5_kindFor_31 n x1 x2 x3 x4 (x5 + 1) v18) else (L_X5_kindFor_31 n x1 x2 x5 r20 (x5 + 1) v18)))))))
def F_X5_kindFor (a1 : Int32) (a2 : Int32) (v : VV) : Option (Int32 × VV) :=
  Option.bind (F_X5_isKeeper a1 v) (fun r2 => (if r2 = true then (Option.bind (F_X5_isUpTo a2 60 v) (fun r9 => (if r9 = true then (L_X5_kindFor_31 fu a1 a2 0 (-1) 0 v) else (Option.bind (F_X5_finding 0 v) (fun (r23, v24) => some (r23, v24)))))) else (Option.bind (F_X5_finding 0 v) (fun (r5, v6) => some (r5, v6)))))
set_option maxHeartbeats 4000000 in
set_option maxRecDepth 100000 in
theorem l_X5_kindFor_31 {p : Program} {l : Launch} {e : Env} {s : State} {m : MethodId} {args : Array Value} {below : List Frame} {meth : Method} {c : Code} {G : GG} (M : Mx G RX5 cX5_kindFor 7 (some .int) p s m args meth c) (r : Int32) (v' : VV) : ∀ (n : Nat) (x1 : Int32) (x2 : Int32) (x3 : Int32) (x4 : Int32) (x5 : Int32) (v : VV) (H : Heap) (locs : List Loc) (ls : Array Slot), L_X5_kindFor_31 n x1 x2 x3 x4 x5 v = some (r, v') → Wd G v H → va_S (gA G) s.heap H locs → lv_has ls 7 [(0, .ref (ad G 12)), (1, .int x1), (2, .int x2), (3, .int x3), (4, .int x4), (5, .int x5)] → W p l e ({ frames := 5, cells := 0, slots := 0, locals := 114 } : Room) s m args below meth c H locs 0 0 (MQ below (QI G r v') args s 0 0 (gA G)) (F0 m 31 ls []) := by
  have hx := M.1.1
  have hb := M.1.2.1
  intro n
  induction n with
  | zero =>
    intro x1 x2 x3 x4 x5 v H locs ls hF hP hS hl
    rw [L_X5_kindFor_31] at hF
    cases hF
  | succ n ih =>
    intro x1 x2 x3 x4 x5 v H locs ls hF hP hS hl
    rw [L_X5_kindFor_31] at hF
    refine lv_iload hx hb dX5_kindFor_31 (lv_at hl 5 rfl) ?_
    refine lv_bipush (v := 6) hx hb dX5_kindFor_33 (by decide) ?_
    refine lv_icmp_gt (tgt := 102) hx hb dX5_kindFor_35 (by decide) (fun c11 => ?_) (fun c11 => ?_)
    · replace hF := (if_pos c11).symm.trans hF
      refine lv_iload_n hx hb dX5_kindFor_102 rfl (lv_at hl 3 rfl) ?_
      exact ret_i M hS hP (Option.some.inj hF) dX5_kindFor_103
    · replace hF := (if_neg c11).symm.trans hF
      refine lv_aload_n hx hb dX5_kindFor_38 rfl (lv_at hl 0 rfl) ?_
      refine fg_5_16 M hP dX5_kindFor_39 ?_
      refine lv_aload_n hx hb dX5_kindFor_42 rfl (lv_at hl 0 rfl) ?_
      refine fg_5_10 M hP dX5_kindFor_43 ?_
      obtain ⟨v14, h12, hF⟩ := bi_some hF
      refine k_v hS (kV_run M hS hP ok_X5_143 (c_X1_become l G 58 rfl 25 rfl v v14 h12) (rc_1 M hP rfl) rfl hl.1 rfl (Nat.le_of_ble_eq_true rfl) ⟨rfl, rfl⟩ ⟨Nat.le_of_ble_eq_true rfl, Nat.le_of_ble_eq_true rfl⟩ dX5_kindFor_46) (fun H locs hP hS => ?_)
      refine lv_aload_n hx hb dX5_kindFor_49 rfl (lv_at hl 0 rfl) ?_
      refine fg_5_16 M hP dX5_kindFor_50 ?_
      refine fg_5_81 M hP rfl dX5_kindFor_53 ?_
      refine lv_iload_n hx hb dX5_kindFor_56 rfl (lv_at hl 1 rfl) ?_
      obtain ⟨g15, hF⟩ := gu_some hF
      refine r_aald10 (k := (x1).toNatClampNeg) M hP (ge_1_3k (i := 58) rfl) (ge_10l (i := (58 + 3)) (ge_1_3k (i := 58) rfl)) (in_c g15) rfl dX5_kindFor_57 ?_
      refine fg_5_85 M hP (ge_10k (i := (58 + 3)) (k := (x1).toNatClampNeg) (ge_1_3k (i := 58) rfl) (vin_lt (in_c g15))) dX5_kindFor_58 ?_
      refine lv_iconst (v := 0) hx hb dX5_kindFor_61 (by decide) ?_
      refine lv_iload hx hb dX5_kindFor_62 (lv_at hl 5 rfl) ?_
      refine r_iast (k := 0) M hS hP (ge_2k (i := ((58 + 3) + 2 + ((x1).toNatClampNeg))) (ge_10k (i := (58 + 3)) (k := (x1).toNatClampNeg) (ge_1_3k (i := 58) rfl) (vin_lt (in_c g15)))) (ge_2l (i := ((58 + 3) + 2 + ((x1).toNatClampNeg))) (ge_10k (i := (58 + 3)) (k := (x1).toNatClampNeg) (ge_1_3k (i := 58) rfl) (vin_lt (in_c g15)))) (in_c rfl) rfl dX5_kindFor_64 (fun H locs hP hS => ?_)
      have hP : Wd G (pu v14 (((58 + 3) + 2 + ((x1).toNatClampNeg)) + 8) 0 x5) H := hP
      refine lv_aload_n hx hb dX5_kindFor_65 rfl (lv_at hl 0 rfl) ?_
      refine fg_5_16 M hP dX5_kindFor_66 ?_
      refine lv_iload_n hx hb dX5_kindFor_69 rfl (lv_at hl 2 rfl) ?_
      obtain ⟨v18, h16, hF⟩ := bi_some hF
      refine k_v hS (kV_run M hS hP ok_X5_111 (c_X1_passDays l G 58 rfl x2 (pu v14 (((58 + 3) + 2 + ((x1).toNatClampNeg)) + 8) 0 x5) v18 h16) (rc_1 M hP rfl) rfl hl.1 rfl (Nat.le_of_ble_eq_true rfl) ⟨rfl, rfl⟩ ⟨Nat.le_of_ble_eq_true rfl, Nat.le_of_ble_eq_true rfl⟩ dX5_kindFor_70) (fun H locs hP hS => ?_)
      refine lv_aload_n hx hb dX5_kindFor_73 rfl (lv_at hl 0 rfl) ?_
      refine fg_5_16 M hP dX5_kindFor_74 ?_
      obtain ⟨r20, h19, hF⟩ := bi_some hF
      refine k_i hS (kV_run M hS hP ok_X5_115 (c_X1_learntTogether l G 58 rfl v18 r20 h19) (rc_1 M hP rfl) rfl hl.1 rfl (Nat.le_of_ble_eq_true rfl) ⟨rfl, rfl⟩ ⟨Nat.le_of_ble_eq_true rfl, Nat.le_of_ble_eq_true rfl⟩ dX5_kindFor_77) (fun H locs hP hS => ?_)
      refine lv_istore (lv' := [(6, .int r20), (0, .ref (ad G 12)), (1, .int x1), (2, .int x2), (3, .int x3), (4, .int x4), (5, .int x5)]) hx hb dX5_kindFor_80 hl (by decide) rfl (fun ls hl => ?_)
      refine lv_iload hx hb dX5_kindFor_82 (lv_at hl 0 rfl) ?_
      refine lv_iload hx hb dX5_kindFor_84 (lv_at hl 5 rfl) ?_
      refine lv_icmp_le (tgt := 96) hx hb dX5_kindFor_86 (by decide) (fun c21 => ?_) (fun c21 => ?_)
      · replace hF := (if_pos c21).symm.trans hF
        refine lv_iinc (v := (x5 + 1)) (lv' := [(5, .int (x5 + 1)), (6, .int r20), (0, .ref (ad G 12)), (1, .int x1), (2, .int x2), (3, .int x3), (4, .int x4)]) hx hb dX5_kindFor_96 hl (k := 6) rfl (iinc_eq _ (by decide)) (by decide) rfl (fun ls hl => ?_)
        refine lv_goto (tgt := 31) hx hb dX5_kindFor_99 (by decide) ?_
        exact ih x1 x2 x3 x4 (x5 + 1) _ _ _ ls hF hP hS (lv_sub hl [2, 3, 4, 5, 6, 0] rfl)
      · replace hF := (if_neg c21).symm.trans hF
        refine lv_iload hx hb dX5_kindFor_89 (lv_at hl 0 rfl) ?_
        refine lv_istore (lv' := [(4, .int r20), (6, .int r20), (0, .ref (ad G 12)), (1, .int x1), (2, .int x2), (3, .int x3), (5, .int x5)]) hx hb dX5_kindFor_91 hl (by decide) rfl (fun ls hl => ?_)
        refine lv_iload hx hb dX5_kindFor_93 (lv_at hl 6 rfl) ?_
        refine lv_istore_n (lv' := [(3, .int x5), (4, .int r20), (6, .int r20), (0, .ref (ad G 12)), (1, .int x1), (2, .int x2), (5, .int x5)]) hx hb dX5_kindFor_95 rfl hl (by decide) rfl (fun ls hl => ?_)
        refine lv_iinc (v := (x5 + 1)) (lv' := [(5, .int (x5 + 1)), (3, .int x5), (4, .int r20), (6, .int r20), (0, .ref (ad G 12)), (1, .int x1), (2, .int x2)]) hx hb dX5_kindFor_96 hl (k := 6) rfl (iinc_eq _ (by decide)) (by decide) rfl (fun ls hl => ?_)
        refine lv_goto (tgt := 31) hx hb dX5_kindFor_99 (by decide) ?_
        exact ih x1 x2 x5 r20 (x5 + 1) _ _ _ ls hF hP hS (lv_sub hl [4, 5, 6, 1, 2, 0] rfl)
set_option maxHeartbeats 4000000 in
set_option maxRecDepth 100000 in
theorem c_X5_kindFor (l : Launch) (G : GG) (a1 : Int32) (a2 : Int32) (v : VV) (r : Int32) (v' : VV) (hF : F_X5_kindFor a1 a2 v = some (r, v')) : Met l yX5_kindFor (cdW yX5_kindFor cX5_kindFor 7 (some .int)) ({ frames := 5, cells := 0, slots := 0, locals := 114 } : Room) (PC G v [.ref (ad G 12), .int a1, .int a2]) (QI G r v') 0 0 (gA G) := by
  refine met_in RX5 (by decide) rfl (Nat.le_of_ble_eq_true rfl) ?_
  intro p e s m below meth c M hP ls hl
  have hx := M.1.1
  have hb := M.1.2.1
  have hS : va_S (gA G) s.heap s.heap [] := va_S.rf
  have hl : lv_has ls 7 [(0, .ref (ad G 12)), (1, .int a1), (2, .int a2)] := hl
  unfold F_X5_kindFor at hF
  refine lv_aload_n hx hb dX5_kindFor_0 rfl (lv_at hl 0 rfl) ?_
  refine lv_iload_n hx hb dX5_kindFor_1 rfl (lv_at hl 1 rfl) ?_
  obtain ⟨r2, h1, hF⟩ := bi_some hF
  refine k_i hS (kV_run M hS hP ok_X5_69 (c_X5_isKeeper l G a1 v r2 h1) (rc_5 M hP rfl) rfl hl.1 rfl (Nat.le_of_ble_eq_true rfl) ⟨rfl, rfl⟩ ⟨Nat.le_of_ble_eq_true rfl, Nat.le_of_ble_eq_true rfl⟩ dX5_kindFor_2) (fun H locs hP hS => ?_)
  refine lv_if_eq (tgt := 17) hx hb dX5_kindFor_5 (by decide) (fun c3 => ?_) (fun c3 => ?_)
  · replace hF := (if_neg (bI_f c3)).symm.trans hF
    refine lv_aload_n hx hb dX5_kindFor_17 rfl (lv_at hl 0 rfl) ?_
    refine lv_iconst (v := 0) hx hb dX5_kindFor_18 (by decide) ?_
    obtain ⟨⟨r5, v6⟩, h4, hF⟩ := bi_some hF
    dsimp only at hF
    refine k_i hS (kV_run M hS hP ok_X5_48 (c_X5_finding l G 0 v r5 v6 h4) (rc_5 M hP rfl) rfl hl.1 rfl (Nat.le_of_ble_eq_true rfl) ⟨rfl, rfl⟩ ⟨Nat.le_of_ble_eq_true rfl, Nat.le_of_ble_eq_true rfl⟩ dX5_kindFor_19) (fun H locs hP hS => ?_)
    exact ret_i M hS hP (Option.some.inj hF) dX5_kindFor_22
  · replace hF := (if_pos (bI_t c3)).symm.trans hF
    refine lv_iload_n hx hb dX5_kindFor_8 rfl (lv_at hl 2 rfl) ?_
    refine lv_bipush (v := 60) hx hb dX5_kindFor_9 (by decide) ?_
    obtain ⟨r9, h8, hF⟩ := bi_some hF
    refine k_i hS (kS_run M hS hP ok_X5_44 (c_X5_isUpTo l G a2 60 v r9 h8) rfl hl.1 rfl (Nat.le_of_ble_eq_true rfl) ⟨rfl, rfl⟩ ⟨Nat.le_of_ble_eq_true rfl, Nat.le_of_ble_eq_true rfl⟩ dX5_kindFor_11) (fun H locs hP hS => ?_)
    refine lv_if_ne (tgt := 23) hx hb dX5_kindFor_14 (by decide) (fun c10 => ?_) (fun c10 => ?_)
    · replace hF := (if_pos (bI_t c10)).symm.trans hF
      refine lv_iconst (v := 0) hx hb dX5_kindFor_23 (by decide) ?_
      refine lv_istore_n (lv' := [(3, .int 0), (0, .ref (ad G 12)), (1, .int a1), (2, .int a2)]) hx hb dX5_kindFor_24 rfl hl (by decide) rfl (fun ls hl => ?_)
      refine lv_iconst (v := (-1)) hx hb dX5_kindFor_25 (by decide) ?_
      refine lv_istore (lv' := [(4, .int (-1)), (3, .int 0), (0, .ref (ad G 12)), (1, .int a1), (2, .int a2)]) hx hb dX5_kindFor_26 hl (by decide) rfl (fun ls hl => ?_)
      refine lv_iconst (v := 0) hx hb dX5_kindFor_28 (by decide) ?_
      refine lv_istore (lv' := [(5, .int 0), (4, .int (-1)), (3, .int 0), (0, .ref (ad G 12)), (1, .int a1), (2, .int a2)]) hx hb dX5_kindFor_29 hl (by decide) rfl (fun ls hl => ?_)
      exact l_X5_kindFor_31 M _ _ fu a1 a2 0 (-1) 0 _ _ _ ls hF hP hS (lv_sub hl [3, 4, 5, 2, 1, 0] rfl)
    · replace hF := (if_neg (bI_f c10)).symm.trans hF
      refine lv_aload_n hx hb dX5_kindFor_17 rfl (lv_at hl 0 rfl) ?_
      refine lv_iconst (v := 0) hx hb dX5_kindFor_18 (by decide) ?_
      obtain ⟨⟨r23, v24⟩, h22, hF⟩ := bi_some hF
      dsimp only at hF
      refine k_i hS (kV_run M hS hP ok_X5_48 (c_X5_finding l G 0 v r23 v24 h22) (rc_5 M hP rfl) rfl hl.1 rfl (Nat.le_of_ble_eq_true rfl) ⟨rfl, rfl⟩ ⟨Nat.le_of_ble_eq_true rfl, Nat.le_of_ble_eq_true rfl⟩ dX5_kindFor_19) (fun H locs hP hS => ?_)
      exact ret_i M hS hP (Option.some.inj hF) dX5_kindFor_22
def L_X5_fogFor_36 : Nat → Int32 → Int32 → Int32 → Int32 → VV → Option (Int32 × VV)
  | 0, _, _, _, _, _ => none
  | n + 1, x1, x2, x3, x4, v =>
  if x4 < 0 then (Option.bind (F_X5_finding 3 v) (fun (r20, v21) => some (r20, v21))) else (Option.bind (F_X1_become 58 25 v) (fun v25 => gu (gI x1 6) (Option.bind (F_X1_passDays 58 x3 (pu v25 (58 + 1) ((x1).toNatClampNeg) x4)) (fun v29 => Option.bind (F_X1_learntTogether 58 v29) (fun r31 => (if r31 < x2 then (L_X5_fogFor_36 n x1 x2 x3 (x4 + (-1)) v29) else (some (x4, v29))))))))
def F_X5_fogFor (a1 : Int32) (a2 : Int32) (a3 : Int32) (v : VV) : Option (Int32 × VV) :=
  Option.bind (F_X5_isUpTo a1 5 v) (fun r2 => (if r2 = true then (Option.bind (F_X5_isUpTo a2 72 v) (fun r9 => (if r9 = true then (Option.bind (F_X5_isUpTo a3 60 v) (fun r16 => (if r16 = true then (L_X5_fogFor_36 fu a1 a2 a3 9 v) else (Option.bind (F_X5_finding 0 v) (fun (r34, v35) => some (r34, v35)))))) else (Option.bind (F_X5_finding 0 v) (fun (r12, v13) => some (r12, v13)))))) else (Option.bind (F_X5_finding 0 v) (fun (r5, v6) => some (r5, v6)))))
set_option maxHeartbeats 4000000 in
set_option maxRecDepth 100000 in
theorem l_X5_fogFor_36 {p : Program} {l : Launch} {e : Env} {s : State} {m : MethodId} {args : Array Value} {below : List Frame} {meth : Method} {c : Code} {G : GG} (M : Mx G RX5 cX5_fogFor 5 (some .int) p s m args meth c) (r : Int32) (v' : VV) : ∀ (n : Nat) (x1 : Int32) (x2 : Int32) (x3 : Int32) (x4 : Int32) (v : VV) (H : Heap) (locs : List Loc) (ls : Array Slot), L_X5_fogFor_36 n x1 x2 x3 x4 v = some (r, v') → Wd G v H → va_S (gA G) s.heap H locs → lv_has ls 5 [(0, .ref (ad G 12)), (1, .int x1), (2, .int x2), (3, .int x3), (4, .int x4)] → W p l e ({ frames := 5, cells := 0, slots := 0, locals := 114 } : Room) s m args below meth c H locs 0 0 (MQ below (QI G r v') args s 0 0 (gA G)) (F0 m 36 ls []) := by
  have hx := M.1.1
  have hb := M.1.2.1
  intro n
  induction n with
  | zero =>
    intro x1 x2 x3 x4 v H locs ls hF hP hS hl
    rw [L_X5_fogFor_36] at hF
    cases hF
  | succ n ih =>
    intro x1 x2 x3 x4 v H locs ls hF hP hS hl
    rw [L_X5_fogFor_36] at hF
    refine lv_iload hx hb dX5_fogFor_36 (lv_at hl 4 rfl) ?_
    refine lv_if_lt (tgt := 91) hx hb dX5_fogFor_38 (by decide) (fun c18 => ?_) (fun c18 => ?_)
    · replace hF := (if_pos c18).symm.trans hF
      refine lv_aload_n hx hb dX5_fogFor_91 rfl (lv_at hl 0 rfl) ?_
      refine lv_iconst (v := 3) hx hb dX5_fogFor_92 (by decide) ?_
      obtain ⟨⟨r20, v21⟩, h19, hF⟩ := bi_some hF
      dsimp only at hF
      refine k_i hS (kV_run M hS hP ok_X5_48 (c_X5_finding l G 3 v r20 v21 h19) (rc_5 M hP rfl) rfl hl.1 rfl (Nat.le_of_ble_eq_true rfl) ⟨rfl, rfl⟩ ⟨Nat.le_of_ble_eq_true rfl, Nat.le_of_ble_eq_true rfl⟩ dX5_fogFor_93) (fun H locs hP hS => ?_)
      exact ret_i M hS hP (Option.some.inj hF) dX5_fogFor_96
    · replace hF := (if_neg c18).symm.trans hF
      refine lv_aload_n hx hb dX5_fogFor_41 rfl (lv_at hl 0 rfl) ?_
      refine fg_5_16 M hP dX5_fogFor_42 ?_
      refine lv_aload_n hx hb dX5_fogFor_45 rfl (lv_at hl 0 rfl) ?_
      refine fg_5_10 M hP dX5_fogFor_46 ?_
      obtain ⟨v25, h23, hF⟩ := bi_some hF
      refine k_v hS (kV_run M hS hP ok_X5_143 (c_X1_become l G 58 rfl 25 rfl v v25 h23) (rc_1 M hP rfl) rfl hl.1 rfl (Nat.le_of_ble_eq_true rfl) ⟨rfl, rfl⟩ ⟨Nat.le_of_ble_eq_true rfl, Nat.le_of_ble_eq_true rfl⟩ dX5_fogFor_49) (fun H locs hP hS => ?_)
      refine lv_aload_n hx hb dX5_fogFor_52 rfl (lv_at hl 0 rfl) ?_
      refine fg_5_16 M hP dX5_fogFor_53 ?_
      refine fg_5_52 M hP rfl dX5_fogFor_56 ?_
      refine lv_iload_n hx hb dX5_fogFor_59 rfl (lv_at hl 1 rfl) ?_
      refine lv_iload hx hb dX5_fogFor_60 (lv_at hl 4 rfl) ?_
      obtain ⟨g26, hF⟩ := gu_some hF
      refine r_iast (k := (x1).toNatClampNeg) M hS hP (ge_1_1k (i := 58) rfl) (ge_1_1l (i := 58) rfl) (in_c g26) rfl dX5_fogFor_62 (fun H locs hP hS => ?_)
      have hP : Wd G (pu v25 (58 + 1) ((x1).toNatClampNeg) x4) H := hP
      refine lv_aload_n hx hb dX5_fogFor_63 rfl (lv_at hl 0 rfl) ?_
      refine fg_5_16 M hP dX5_fogFor_64 ?_
      refine lv_iload_n hx hb dX5_fogFor_67 rfl (lv_at hl 3 rfl) ?_
      obtain ⟨v29, h27, hF⟩ := bi_some hF
      refine k_v hS (kV_run M hS hP ok_X5_111 (c_X1_passDays l G 58 rfl x3 (pu v25 (58 + 1) ((x1).toNatClampNeg) x4) v29 h27) (rc_1 M hP rfl) rfl hl.1 rfl (Nat.le_of_ble_eq_true rfl) ⟨rfl, rfl⟩ ⟨Nat.le_of_ble_eq_true rfl, Nat.le_of_ble_eq_true rfl⟩ dX5_fogFor_68) (fun H locs hP hS => ?_)
      refine lv_aload_n hx hb dX5_fogFor_71 rfl (lv_at hl 0 rfl) ?_
      refine fg_5_16 M hP dX5_fogFor_72 ?_
      obtain ⟨r31, h30, hF⟩ := bi_some hF
      refine k_i hS (kV_run M hS hP ok_X5_115 (c_X1_learntTogether l G 58 rfl v29 r31 h30) (rc_1 M hP rfl) rfl hl.1 rfl (Nat.le_of_ble_eq_true rfl) ⟨rfl, rfl⟩ ⟨Nat.le_of_ble_eq_true rfl, Nat.le_of_ble_eq_true rfl⟩ dX5_fogFor_75) (fun H locs hP hS => ?_)
      refine lv_iload_n hx hb dX5_fogFor_78 rfl (lv_at hl 2 rfl) ?_
      refine lv_icmp_lt (tgt := 85) hx hb dX5_fogFor_79 (by decide) (fun c32 => ?_) (fun c32 => ?_)
      · replace hF := (if_pos c32).symm.trans hF
        refine lv_iinc (v := (x4 + (-1))) (lv' := [(4, .int (x4 + (-1))), (0, .ref (ad G 12)), (1, .int x1), (2, .int x2), (3, .int x3)]) hx hb dX5_fogFor_85 hl (k := 4) rfl (iinc_eq _ (by decide)) (by decide) rfl (fun ls hl => ?_)
        refine lv_goto (tgt := 36) hx hb dX5_fogFor_88 (by decide) ?_
        exact ih x1 x2 x3 (x4 + (-1)) _ _ _ ls hF hP hS (lv_sub hl [1, 2, 3, 4, 0] rfl)
      · replace hF := (if_neg c32).symm.trans hF
        refine lv_iload hx hb dX5_fogFor_82 (lv_at hl 4 rfl) ?_
        exact ret_i M hS hP (Option.some.inj hF) dX5_fogFor_84
set_option maxHeartbeats 4000000 in
set_option maxRecDepth 100000 in
theorem c_X5_fogFor (l : Launch) (G : GG) (a1 : Int32) (a2 : Int32) (a3 : Int32) (v : VV) (r : Int32) (v' : VV) (hF : F_X5_fogFor a1 a2 a3 v = some (r, v')) : Met l yX5_fogFor (cdW yX5_fogFor cX5_fogFor 5 (some .int)) ({ frames := 5, cells := 0, slots := 0, locals := 114 } : Room) (PC G v [.ref (ad G 12), .int a1, .int a2, .int a3]) (QI G r v') 0 0 (gA G) := by
  refine met_in RX5 (by decide) rfl (Nat.le_of_ble_eq_true rfl) ?_
  intro p e s m below meth c M hP ls hl
  have hx := M.1.1
  have hb := M.1.2.1
  have hS : va_S (gA G) s.heap s.heap [] := va_S.rf
  have hl : lv_has ls 5 [(0, .ref (ad G 12)), (1, .int a1), (2, .int a2), (3, .int a3)] := hl
  unfold F_X5_fogFor at hF
  refine lv_iload_n hx hb dX5_fogFor_0 rfl (lv_at hl 1 rfl) ?_
  refine lv_iconst (v := 5) hx hb dX5_fogFor_1 (by decide) ?_
  obtain ⟨r2, h1, hF⟩ := bi_some hF
  refine k_i hS (kS_run M hS hP ok_X5_44 (c_X5_isUpTo l G a1 5 v r2 h1) rfl hl.1 rfl (Nat.le_of_ble_eq_true rfl) ⟨rfl, rfl⟩ ⟨Nat.le_of_ble_eq_true rfl, Nat.le_of_ble_eq_true rfl⟩ dX5_fogFor_2) (fun H locs hP hS => ?_)
  refine lv_if_eq (tgt := 26) hx hb dX5_fogFor_5 (by decide) (fun c3 => ?_) (fun c3 => ?_)
  · replace hF := (if_neg (bI_f c3)).symm.trans hF
    refine lv_aload_n hx hb dX5_fogFor_26 rfl (lv_at hl 0 rfl) ?_
    refine lv_iconst (v := 0) hx hb dX5_fogFor_27 (by decide) ?_
    obtain ⟨⟨r5, v6⟩, h4, hF⟩ := bi_some hF
    dsimp only at hF
    refine k_i hS (kV_run M hS hP ok_X5_48 (c_X5_finding l G 0 v r5 v6 h4) (rc_5 M hP rfl) rfl hl.1 rfl (Nat.le_of_ble_eq_true rfl) ⟨rfl, rfl⟩ ⟨Nat.le_of_ble_eq_true rfl, Nat.le_of_ble_eq_true rfl⟩ dX5_fogFor_28) (fun H locs hP hS => ?_)
    exact ret_i M hS hP (Option.some.inj hF) dX5_fogFor_31
  · replace hF := (if_pos (bI_t c3)).symm.trans hF
    refine lv_iload_n hx hb dX5_fogFor_8 rfl (lv_at hl 2 rfl) ?_
    refine lv_bipush (v := 72) hx hb dX5_fogFor_9 (by decide) ?_
    obtain ⟨r9, h8, hF⟩ := bi_some hF
    refine k_i hS (kS_run M hS hP ok_X5_44 (c_X5_isUpTo l G a2 72 v r9 h8) rfl hl.1 rfl (Nat.le_of_ble_eq_true rfl) ⟨rfl, rfl⟩ ⟨Nat.le_of_ble_eq_true rfl, Nat.le_of_ble_eq_true rfl⟩ dX5_fogFor_11) (fun H locs hP hS => ?_)
    refine lv_if_eq (tgt := 26) hx hb dX5_fogFor_14 (by decide) (fun c10 => ?_) (fun c10 => ?_)
    · replace hF := (if_neg (bI_f c10)).symm.trans hF
      refine lv_aload_n hx hb dX5_fogFor_26 rfl (lv_at hl 0 rfl) ?_
      refine lv_iconst (v := 0) hx hb dX5_fogFor_27 (by decide) ?_
      obtain ⟨⟨r12, v13⟩, h11, hF⟩ := bi_some hF
      dsimp only at hF
      refine k_i hS (kV_run M hS hP ok_X5_48 (c_X5_finding l G 0 v r12 v13 h11) (rc_5 M hP rfl) rfl hl.1 rfl (Nat.le_of_ble_eq_true rfl) ⟨rfl, rfl⟩ ⟨Nat.le_of_ble_eq_true rfl, Nat.le_of_ble_eq_true rfl⟩ dX5_fogFor_28) (fun H locs hP hS => ?_)
      exact ret_i M hS hP (Option.some.inj hF) dX5_fogFor_31
    · replace hF := (if_pos (bI_t c10)).symm.trans hF
      refine lv_iload_n hx hb dX5_fogFor_17 rfl (lv_at hl 3 rfl) ?_
      refine lv_bipush (v := 60) hx hb dX5_fogFor_18 (by decide) ?_
      obtain ⟨r16, h15, hF⟩ := bi_some hF
      refine k_i hS (kS_run M hS hP ok_X5_44 (c_X5_isUpTo l G a3 60 v r16 h15) rfl hl.1 rfl (Nat.le_of_ble_eq_true rfl) ⟨rfl, rfl⟩ ⟨Nat.le_of_ble_eq_true rfl, Nat.le_of_ble_eq_true rfl⟩ dX5_fogFor_20) (fun H locs hP hS => ?_)
      refine lv_if_ne (tgt := 32) hx hb dX5_fogFor_23 (by decide) (fun c17 => ?_) (fun c17 => ?_)
      · replace hF := (if_pos (bI_t c17)).symm.trans hF
        refine lv_bipush (v := 9) hx hb dX5_fogFor_32 (by decide) ?_
        refine lv_istore (lv' := [(4, .int 9), (0, .ref (ad G 12)), (1, .int a1), (2, .int a2), (3, .int a3)]) hx hb dX5_fogFor_34 hl (by decide) rfl (fun ls hl => ?_)
        exact l_X5_fogFor_36 M _ _ fu a1 a2 a3 9 _ _ _ ls hF hP hS (lv_sub hl [1, 2, 3, 4, 0] rfl)
      · replace hF := (if_neg (bI_f c17)).symm.trans hF
        refine lv_aload_n hx hb dX5_fogFor_26 rfl (lv_at hl 0 rfl) ?_
        refine lv_iconst (v := 0) hx hb dX5_fogFor_27 (by decide) ?_
        obtain ⟨⟨r34, v35⟩, h33, hF⟩ := bi_some hF
        dsimp only at hF
        refine k_i hS (kV_run M hS hP ok_X5_48 (c_X5_finding l G 0 v r34 v35 h33) (rc_5 M hP rfl) rfl hl.1 rfl (Nat.le_of_ble_eq_true rfl) ⟨rfl, rfl⟩ ⟨Nat.le_of_ble_eq_true rfl, Nat.le_of_ble_eq_true rfl⟩ dX5_fogFor_28) (fun H locs hP hS => ?_)
        exact ret_i M hS hP (Option.some.inj hF) dX5_fogFor_31
def L_X5_hush_28 : Nat → Int32 → Int32 → Int32 → Int32 → VV → Option (Int32 × VV)
  | 0, _, _, _, _, _ => none
  | n + 1, x1, x2, x3, x4, v =>
  if (v 25 4) ≤ x4 then (some (x3, v)) else (Option.bind (F_X1_become 58 25 v) (fun v9 => Option.bind (F_X1_leaveOnlyKeeper 58 x4 v9) (fun v12 => Option.bind (F_X1_passDays 58 x1 v12) (fun v15 => Option.bind (F_X1_learntTogether 58 v15) (fun r17 => (if r17 ≤ x2 then (L_X5_hush_28 n x1 x2 x3 (x4 + 1) v15) else (L_X5_hush_28 n x1 x2 (x3 ||| (1 <<< (x4 &&& 31))) (x4 + 1) v15)))))))
def F_X5_hush (a1 : Int32) (v : VV) : Option (Int32 × VV) :=
  Option.bind (F_X5_isUpTo a1 20 v) (fun r2 => (if r2 = true then (Option.bind (F_X1_learntTogether 25 v) (fun r5 => L_X5_hush_28 fu a1 r5 0 0 v)) else (Option.bind (F_X5_finding 0 v) (fun (r20, v21) => some (r20, v21)))))
set_option maxHeartbeats 4000000 in
set_option maxRecDepth 100000 in
theorem l_X5_hush_28 {p : Program} {l : Launch} {e : Env} {s : State} {m : MethodId} {args : Array Value} {below : List Frame} {meth : Method} {c : Code} {G : GG} (M : Mx G RX5 cX5_hush 5 (some .int) p s m args meth c) (r : Int32) (v' : VV) : ∀ (n : Nat) (x1 : Int32) (x2 : Int32) (x3 : Int32) (x4 : Int32) (v : VV) (H : Heap) (locs : List Loc) (ls : Array Slot), L_X5_hush_28 n x1 x2 x3 x4 v = some (r, v') → Wd G v H → va_S (gA G) s.heap H locs → lv_has ls 5 [(0, .ref (ad G 12)), (1, .int x1), (2, .int x2), (3, .int x3), (4, .int x4)] → W p l e ({ frames := 5, cells := 0, slots := 0, locals := 114 } : Room) s m args below meth c H locs 0 0 (MQ below (QI G r v') args s 0 0 (gA G)) (F0 m 28 ls []) := by
  have hx := M.1.1
  have hb := M.1.2.1
  intro n
  induction n with
  | zero =>
    intro x1 x2 x3 x4 v H locs ls hF hP hS hl
    rw [L_X5_hush_28] at hF
    cases hF
  | succ n ih =>
    intro x1 x2 x3 x4 v H locs ls hF hP hS hl
    rw [L_X5_hush_28] at hF
    refine lv_iload hx hb dX5_hush_28 (lv_at hl 4 rfl) ?_
    refine lv_aload_n hx hb dX5_hush_30 rfl (lv_at hl 0 rfl) ?_
    refine fg_5_10 M hP dX5_hush_31 ?_
    refine fg_5_99 M hP rfl dX5_hush_34 ?_
    refine lv_icmp_ge (tgt := 92) hx hb dX5_hush_37 (by decide) (fun c6 => ?_) (fun c6 => ?_)
    · replace hF := (if_pos c6).symm.trans hF
      refine lv_iload_n hx hb dX5_hush_92 rfl (lv_at hl 3 rfl) ?_
      exact ret_i M hS hP (Option.some.inj hF) dX5_hush_93
    · replace hF := (if_neg c6).symm.trans hF
      refine lv_aload_n hx hb dX5_hush_40 rfl (lv_at hl 0 rfl) ?_
      refine fg_5_16 M hP dX5_hush_41 ?_
      refine lv_aload_n hx hb dX5_hush_44 rfl (lv_at hl 0 rfl) ?_
      refine fg_5_10 M hP dX5_hush_45 ?_
      obtain ⟨v9, h7, hF⟩ := bi_some hF
      refine k_v hS (kV_run M hS hP ok_X5_143 (c_X1_become l G 58 rfl 25 rfl v v9 h7) (rc_1 M hP rfl) rfl hl.1 rfl (Nat.le_of_ble_eq_true rfl) ⟨rfl, rfl⟩ ⟨Nat.le_of_ble_eq_true rfl, Nat.le_of_ble_eq_true rfl⟩ dX5_hush_48) (fun H locs hP hS => ?_)
      refine lv_aload_n hx hb dX5_hush_51 rfl (lv_at hl 0 rfl) ?_
      refine fg_5_16 M hP dX5_hush_52 ?_
      refine lv_iload hx hb dX5_hush_55 (lv_at hl 4 rfl) ?_
      obtain ⟨v12, h10, hF⟩ := bi_some hF
      refine k_v hS (kV_run M hS hP ok_X5_153 (c_X1_leaveOnlyKeeper l G 58 rfl x4 v9 v12 h10) (rc_1 M hP rfl) rfl hl.1 rfl (Nat.le_of_ble_eq_true rfl) ⟨rfl, rfl⟩ ⟨Nat.le_of_ble_eq_true rfl, Nat.le_of_ble_eq_true rfl⟩ dX5_hush_57) (fun H locs hP hS => ?_)
      refine lv_aload_n hx hb dX5_hush_60 rfl (lv_at hl 0 rfl) ?_
      refine fg_5_16 M hP dX5_hush_61 ?_
      refine lv_iload_n hx hb dX5_hush_64 rfl (lv_at hl 1 rfl) ?_
      obtain ⟨v15, h13, hF⟩ := bi_some hF
      refine k_v hS (kV_run M hS hP ok_X5_111 (c_X1_passDays l G 58 rfl x1 v12 v15 h13) (rc_1 M hP rfl) rfl hl.1 rfl (Nat.le_of_ble_eq_true rfl) ⟨rfl, rfl⟩ ⟨Nat.le_of_ble_eq_true rfl, Nat.le_of_ble_eq_true rfl⟩ dX5_hush_65) (fun H locs hP hS => ?_)
      refine lv_aload_n hx hb dX5_hush_68 rfl (lv_at hl 0 rfl) ?_
      refine fg_5_16 M hP dX5_hush_69 ?_
      obtain ⟨r17, h16, hF⟩ := bi_some hF
      refine k_i hS (kV_run M hS hP ok_X5_115 (c_X1_learntTogether l G 58 rfl v15 r17 h16) (rc_1 M hP rfl) rfl hl.1 rfl (Nat.le_of_ble_eq_true rfl) ⟨rfl, rfl⟩ ⟨Nat.le_of_ble_eq_true rfl, Nat.le_of_ble_eq_true rfl⟩ dX5_hush_72) (fun H locs hP hS => ?_)
      refine lv_iload_n hx hb dX5_hush_75 rfl (lv_at hl 2 rfl) ?_
      refine lv_icmp_le (tgt := 86) hx hb dX5_hush_76 (by decide) (fun c18 => ?_) (fun c18 => ?_)
      · replace hF := (if_pos c18).symm.trans hF
        refine lv_iinc (v := (x4 + 1)) (lv' := [(4, .int (x4 + 1)), (0, .ref (ad G 12)), (1, .int x1), (2, .int x2), (3, .int x3)]) hx hb dX5_hush_86 hl (k := 4) rfl (iinc_eq _ (by decide)) (by decide) rfl (fun ls hl => ?_)
        refine lv_goto (tgt := 28) hx hb dX5_hush_89 (by decide) ?_
        exact ih x1 x2 x3 (x4 + 1) _ _ _ ls hF hP hS (lv_sub hl [1, 2, 3, 4, 0] rfl)
      · replace hF := (if_neg c18).symm.trans hF
        refine lv_iload_n hx hb dX5_hush_79 rfl (lv_at hl 3 rfl) ?_
        refine lv_iconst (v := 1) hx hb dX5_hush_80 (by decide) ?_
        refine lv_iload hx hb dX5_hush_81 (lv_at hl 4 rfl) ?_
        refine lv_ishl hx hb dX5_hush_83 ?_
        refine lv_ior hx hb dX5_hush_84 ?_
        refine lv_istore_n (lv' := [(3, .int (x3 ||| (1 <<< (x4 &&& 31)))), (0, .ref (ad G 12)), (1, .int x1), (2, .int x2), (4, .int x4)]) hx hb dX5_hush_85 rfl hl (by decide) rfl (fun ls hl => ?_)
        refine lv_iinc (v := (x4 + 1)) (lv' := [(4, .int (x4 + 1)), (3, .int (x3 ||| (1 <<< (x4 &&& 31)))), (0, .ref (ad G 12)), (1, .int x1), (2, .int x2)]) hx hb dX5_hush_86 hl (k := 4) rfl (iinc_eq _ (by decide)) (by decide) rfl (fun ls hl => ?_)
        refine lv_goto (tgt := 28) hx hb dX5_hush_89 (by decide) ?_
        exact ih x1 x2 (x3 ||| (1 <<< (x4 &&& 31))) (x4 + 1) _ _ _ ls hF hP hS (lv_sub hl [2, 3, 4, 1, 0] rfl)
set_option maxHeartbeats 4000000 in
set_option maxRecDepth 100000 in
theorem c_X5_hush (l : Launch) (G : GG) (a1 : Int32) (v : VV) (r : Int32) (v' : VV) (hF : F_X5_hush a1 v = some (r, v')) : Met l yX5_hush (cdW yX5_hush cX5_hush 5 (some .int)) ({ frames := 5, cells := 0, slots := 0, locals := 114 } : Room) (PC G v [.ref (ad G 12), .int a1]) (QI G r v') 0 0 (gA G) := by
  refine met_in RX5 (by decide) rfl (Nat.le_of_ble_eq_true rfl) ?_
  intro p e s m below meth c M hP ls hl
  have hx := M.1.1
  have hb := M.1.2.1
  have hS : va_S (gA G) s.heap s.heap [] := va_S.rf
  have hl : lv_has ls 5 [(0, .ref (ad G 12)), (1, .int a1)] := hl
  unfold F_X5_hush at hF
  refine lv_iload_n hx hb dX5_hush_0 rfl (lv_at hl 1 rfl) ?_
  refine lv_bipush (v := 20) hx hb dX5_hush_1 (by decide) ?_
  obtain ⟨r2, h1, hF⟩ := bi_some hF
  refine k_i hS (kS_run M hS hP ok_X5_44 (c_X5_isUpTo l G a1 20 v r2 h1) rfl hl.1 rfl (Nat.le_of_ble_eq_true rfl) ⟨rfl, rfl⟩ ⟨Nat.le_of_ble_eq_true rfl, Nat.le_of_ble_eq_true rfl⟩ dX5_hush_3) (fun H locs hP hS => ?_)
  refine lv_if_ne (tgt := 15) hx hb dX5_hush_6 (by decide) (fun c3 => ?_) (fun c3 => ?_)
  · replace hF := (if_pos (bI_t c3)).symm.trans hF
    refine lv_aload_n hx hb dX5_hush_15 rfl (lv_at hl 0 rfl) ?_
    refine fg_5_10 M hP dX5_hush_16 ?_
    obtain ⟨r5, h4, hF⟩ := bi_some hF
    refine k_i hS (kV_run M hS hP ok_X5_115 (c_X1_learntTogether l G 25 rfl v r5 h4) (rc_1 M hP rfl) rfl hl.1 rfl (Nat.le_of_ble_eq_true rfl) ⟨rfl, rfl⟩ ⟨Nat.le_of_ble_eq_true rfl, Nat.le_of_ble_eq_true rfl⟩ dX5_hush_19) (fun H locs hP hS => ?_)
    refine lv_istore_n (lv' := [(2, .int r5), (0, .ref (ad G 12)), (1, .int a1)]) hx hb dX5_hush_22 rfl hl (by decide) rfl (fun ls hl => ?_)
    refine lv_iconst (v := 0) hx hb dX5_hush_23 (by decide) ?_
    refine lv_istore_n (lv' := [(3, .int 0), (2, .int r5), (0, .ref (ad G 12)), (1, .int a1)]) hx hb dX5_hush_24 rfl hl (by decide) rfl (fun ls hl => ?_)
    refine lv_iconst (v := 0) hx hb dX5_hush_25 (by decide) ?_
    refine lv_istore (lv' := [(4, .int 0), (3, .int 0), (2, .int r5), (0, .ref (ad G 12)), (1, .int a1)]) hx hb dX5_hush_26 hl (by decide) rfl (fun ls hl => ?_)
    exact l_X5_hush_28 M _ _ fu a1 r5 0 0 _ _ _ ls hF hP hS (lv_sub hl [3, 4, 2, 1, 0] rfl)
  · replace hF := (if_neg (bI_f c3)).symm.trans hF
    refine lv_aload_n hx hb dX5_hush_9 rfl (lv_at hl 0 rfl) ?_
    refine lv_iconst (v := 0) hx hb dX5_hush_10 (by decide) ?_
    obtain ⟨⟨r20, v21⟩, h19, hF⟩ := bi_some hF
    dsimp only at hF
    refine k_i hS (kV_run M hS hP ok_X5_48 (c_X5_finding l G 0 v r20 v21 h19) (rc_5 M hP rfl) rfl hl.1 rfl (Nat.le_of_ble_eq_true rfl) ⟨rfl, rfl⟩ ⟨Nat.le_of_ble_eq_true rfl, Nat.le_of_ble_eq_true rfl⟩ dX5_hush_11) (fun H locs hP hS => ?_)
    exact ret_i M hS hP (Option.some.inj hF) dX5_hush_14
def F_X5_isSheet (a0 : Int32) (v : VV) : Option Bool :=
  if a0 < 0 then (some false) else (if 4 ≤ a0 then (some false) else (some true))
set_option maxHeartbeats 4000000 in
set_option maxRecDepth 100000 in
theorem c_X5_isSheet (l : Launch) (G : GG) (a0 : Int32) (v : VV) (r : Bool) (hF : F_X5_isSheet a0 v = some r) : Met l yX5_isSheet (cdW yX5_isSheet cX5_isSheet 1 (some .boolean)) ({ frames := 0, cells := 0, slots := 0, locals := 0 } : Room) (PC G v [.int a0]) (QI G (bI r) v) 0 0 (gA G) := by
  refine met_in RX5 (by decide) rfl (Nat.le_of_ble_eq_true rfl) ?_
  intro p e s m below meth c M hP ls hl
  have hx := M.1.1
  have hb := M.1.2.1
  have hS : va_S (gA G) s.heap s.heap [] := va_S.rf
  have hl : lv_has ls 1 [(0, .int a0)] := hl
  unfold F_X5_isSheet at hF
  refine lv_iload_n hx hb dX5_isSheet_0 rfl (lv_at hl 0 rfl) ?_
  refine lv_if_lt (tgt := 13) hx hb dX5_isSheet_1 (by decide) (fun c1 => ?_) (fun c1 => ?_)
  · replace hF := (if_pos c1).symm.trans hF
    refine lv_iconst (v := 0) hx hb dX5_isSheet_13 (by decide) ?_
    exact ret_z M hS hP (congrArg (fun z : Bool => (bI z, v)) (Option.some.inj hF)) rfl dX5_isSheet_14
  · replace hF := (if_neg c1).symm.trans hF
    refine lv_iload_n hx hb dX5_isSheet_4 rfl (lv_at hl 0 rfl) ?_
    refine lv_iconst (v := 4) hx hb dX5_isSheet_5 (by decide) ?_
    refine lv_icmp_ge (tgt := 13) hx hb dX5_isSheet_6 (by decide) (fun c2 => ?_) (fun c2 => ?_)
    · replace hF := (if_pos c2).symm.trans hF
      refine lv_iconst (v := 0) hx hb dX5_isSheet_13 (by decide) ?_
      exact ret_z M hS hP (congrArg (fun z : Bool => (bI z, v)) (Option.some.inj hF)) rfl dX5_isSheet_14
    · replace hF := (if_neg c2).symm.trans hF
      refine lv_iconst (v := 1) hx hb dX5_isSheet_9 (by decide) ?_
      refine lv_goto (tgt := 14) hx hb dX5_isSheet_10 (by decide) ?_
      exact ret_z M hS hP (congrArg (fun z : Bool => (bI z, v)) (Option.some.inj hF)) rfl dX5_isSheet_14
def F_X5_findingOfSheet (a1 : Int32) (v : VV) : Option (Int32 × VV) :=
  Option.bind (F_X5_isSheet a1 v) (fun r2 => (if r2 = true then (gu (gI a1 4) (Option.bind (F_X3_isMissing (14 + 1 + ((a1).toNatClampNeg)) v) (fun r6 => (if r6 = true then (Option.bind (F_X5_finding 5 v) (fun (r9, v10) => some (r9, v10))) else (some (0, v)))))) else (Option.bind (F_X5_finding 0 v) (fun (r13, v14) => some (r13, v14)))))
set_option maxHeartbeats 4000000 in
set_option maxRecDepth 100000 in
theorem c_X5_findingOfSheet (l : Launch) (G : GG) (a1 : Int32) (v : VV) (r : Int32) (v' : VV) (hF : F_X5_findingOfSheet a1 v = some (r, v')) : Met l yX5_findingOfSheet (cdW yX5_findingOfSheet cX5_findingOfSheet 2 (some .int)) ({ frames := 1, cells := 0, slots := 0, locals := 21 } : Room) (PC G v [.ref (ad G 12), .int a1]) (QI G r v') 0 0 (gA G) := by
  refine met_in RX5 (by decide) rfl (Nat.le_of_ble_eq_true rfl) ?_
  intro p e s m below meth c M hP ls hl
  have hx := M.1.1
  have hb := M.1.2.1
  have hS : va_S (gA G) s.heap s.heap [] := va_S.rf
  have hl : lv_has ls 2 [(0, .ref (ad G 12)), (1, .int a1)] := hl
  unfold F_X5_findingOfSheet at hF
  refine lv_iload_n hx hb dX5_findingOfSheet_0 rfl (lv_at hl 1 rfl) ?_
  obtain ⟨r2, h1, hF⟩ := bi_some hF
  refine k_i hS (kS_run M hS hP ok_X5_199 (c_X5_isSheet l G a1 v r2 h1) rfl hl.1 rfl (Nat.le_of_ble_eq_true rfl) ⟨rfl, rfl⟩ ⟨Nat.le_of_ble_eq_true rfl, Nat.le_of_ble_eq_true rfl⟩ dX5_findingOfSheet_1) (fun H locs hP hS => ?_)
  refine lv_if_ne (tgt := 13) hx hb dX5_findingOfSheet_4 (by decide) (fun c3 => ?_) (fun c3 => ?_)
  · replace hF := (if_pos (bI_t c3)).symm.trans hF
    refine lv_aload_n hx hb dX5_findingOfSheet_13 rfl (lv_at hl 0 rfl) ?_
    refine fg_5_31 M hP dX5_findingOfSheet_14 ?_
    refine lv_iload_n hx hb dX5_findingOfSheet_17 rfl (lv_at hl 1 rfl) ?_
    obtain ⟨g4, hF⟩ := gu_some hF
    refine r_aald11 (k := (a1).toNatClampNeg) M hP rfl rfl (in_c g4) rfl dX5_findingOfSheet_18 ?_
    obtain ⟨r6, h5, hF⟩ := bi_some hF
    refine k_i hS (kV_run M hS hP ok_X5_209 (c_X3_isMissing l G (14 + 1 + ((a1).toNatClampNeg)) (ge_11k (i := 14) (k := (a1).toNatClampNeg) rfl (vin_lt (in_c g4))) v r6 h5) (rc_3 M hP (ge_11k (i := 14) (k := (a1).toNatClampNeg) rfl (vin_lt (in_c g4)))) rfl hl.1 rfl (Nat.le_of_ble_eq_true rfl) ⟨rfl, rfl⟩ ⟨Nat.le_of_ble_eq_true rfl, Nat.le_of_ble_eq_true rfl⟩ dX5_findingOfSheet_19) (fun H locs hP hS => ?_)
    refine lv_if_eq (tgt := 33) hx hb dX5_findingOfSheet_22 (by decide) (fun c7 => ?_) (fun c7 => ?_)
    · replace hF := (if_neg (bI_f c7)).symm.trans hF
      refine lv_iconst (v := 0) hx hb dX5_findingOfSheet_33 (by decide) ?_
      exact ret_i M hS hP (Option.some.inj hF) dX5_findingOfSheet_34
    · replace hF := (if_pos (bI_t c7)).symm.trans hF
      refine lv_aload_n hx hb dX5_findingOfSheet_25 rfl (lv_at hl 0 rfl) ?_
      refine lv_iconst (v := 5) hx hb dX5_findingOfSheet_26 (by decide) ?_
      obtain ⟨⟨r9, v10⟩, h8, hF⟩ := bi_some hF
      dsimp only at hF
      refine k_i hS (kV_run M hS hP ok_X5_48 (c_X5_finding l G 5 v r9 v10 h8) (rc_5 M hP rfl) rfl hl.1 rfl (Nat.le_of_ble_eq_true rfl) ⟨rfl, rfl⟩ ⟨Nat.le_of_ble_eq_true rfl, Nat.le_of_ble_eq_true rfl⟩ dX5_findingOfSheet_27) (fun H locs hP hS => ?_)
      refine lv_goto (tgt := 34) hx hb dX5_findingOfSheet_30 (by decide) ?_
      exact ret_i M hS hP (Option.some.inj hF) dX5_findingOfSheet_34
  · replace hF := (if_neg (bI_f c3)).symm.trans hF
    refine lv_aload_n hx hb dX5_findingOfSheet_7 rfl (lv_at hl 0 rfl) ?_
    refine lv_iconst (v := 0) hx hb dX5_findingOfSheet_8 (by decide) ?_
    obtain ⟨⟨r13, v14⟩, h12, hF⟩ := bi_some hF
    dsimp only at hF
    refine k_i hS (kV_run M hS hP ok_X5_48 (c_X5_finding l G 0 v r13 v14 h12) (rc_5 M hP rfl) rfl hl.1 rfl (Nat.le_of_ble_eq_true rfl) ⟨rfl, rfl⟩ ⟨Nat.le_of_ble_eq_true rfl, Nat.le_of_ble_eq_true rfl⟩ dX5_findingOfSheet_9) (fun H locs hP hS => ?_)
    exact ret_i M hS hP (Option.some.inj hF) dX5_findingOfSheet_12
def L_X5_isDraftAsTold_3 : Nat → Nat → Nat → Int32 → Int32 → VV → Option (Bool × VV)
  | 0, _, _, _, _, _ => none
  | n + 1, x1, x2, x3, x4, v =>
  if (v x1 2) ≤ x4 then (some (true, v)) else (gu (gI x4 40) ((if (v (x1 + 4) ((x4).toNatClampNeg)) = (-1) then (Option.bind (F_X1_passDay 58 v) (fun v6 => L_X5_isDraftAsTold_3 n x1 x2 x3 (x4 + 1) v6)) else (gu (gI x4 40) (gu (gI x3 (ln x2)) ((if (v (x1 + 4) ((x4).toNatClampNeg)) = (v x2 ((x3).toNatClampNeg)) then (Option.bind (F_X1_passDay 58 v) (fun v12 => L_X5_isDraftAsTold_3 n x1 x2 x3 (x4 + 1) v12)) else (some (false, v)))))))))
def F_X5_isDraftAsTold (a1 : Nat) (a2 : Nat) (a3 : Int32) (v : VV) : Option (Bool × VV) :=
  L_X5_isDraftAsTold_3 fu a1 a2 a3 0 v
set_option maxHeartbeats 4000000 in
set_option maxRecDepth 100000 in
theorem l_X5_isDraftAsTold_3 {p : Program} {l : Launch} {e : Env} {s : State} {m : MethodId} {args : Array Value} {below : List Frame} {meth : Method} {c : Code} {G : GG} (M : Mx G RX5 cX5_isDraftAsTold 5 (some .boolean) p s m args meth c) (r : Bool) (v' : VV) : ∀ (n : Nat) (x1 : Nat) (x2 : Nat) (x3 : Int32) (x4 : Int32) (hx1 : kd x1 = 3) (hx2 : kd x2 = 7) (v : VV) (H : Heap) (locs : List Loc) (ls : Array Slot), L_X5_isDraftAsTold_3 n x1 x2 x3 x4 v = some (r, v') → Wd G v H → va_S (gA G) s.heap H locs → lv_has ls 5 [(0, .ref (ad G 12)), (1, .ref (ad G x1)), (2, .ref (ad G x2)), (3, .int x3), (4, .int x4)] → W p l e ({ frames := 4, cells := 0, slots := 0, locals := 92 } : Room) s m args below meth c H locs 0 0 (MQ below (QI G (bI r) v') args s 0 0 (gA G)) (F0 m 3 ls []) := by
  have hx := M.1.1
  have hb := M.1.2.1
  intro n
  induction n with
  | zero =>
    intro x1 x2 x3 x4 hx1 hx2 v H locs ls hF hP hS hl
    rw [L_X5_isDraftAsTold_3] at hF
    cases hF
  | succ n ih =>
    intro x1 x2 x3 x4 hx1 hx2 v H locs ls hF hP hS hl
    rw [L_X5_isDraftAsTold_3] at hF
    refine lv_iload hx hb dX5_isDraftAsTold_3 (lv_at hl 4 rfl) ?_
    refine lv_aload_n hx hb dX5_isDraftAsTold_5 rfl (lv_at hl 1 rfl) ?_
    refine fg_5_205 M hP hx1 dX5_isDraftAsTold_6 ?_
    refine lv_icmp_ge (tgt := 51) hx hb dX5_isDraftAsTold_9 (by decide) (fun c1 => ?_) (fun c1 => ?_)
    · replace hF := (if_pos c1).symm.trans hF
      refine lv_iconst (v := 1) hx hb dX5_isDraftAsTold_51 (by decide) ?_
      exact ret_z M hS hP (congrArg (fun z : Bool × VV => (bI z.1, z.2)) (Option.some.inj hF)) rfl dX5_isDraftAsTold_52
    · replace hF := (if_neg c1).symm.trans hF
      refine lv_aload_n hx hb dX5_isDraftAsTold_12 rfl (lv_at hl 1 rfl) ?_
      refine fg_5_218 M hP hx1 dX5_isDraftAsTold_13 ?_
      refine lv_iload hx hb dX5_isDraftAsTold_16 (lv_at hl 4 rfl) ?_
      obtain ⟨g2, hF⟩ := gu_some hF
      refine r_iald (k := (x4).toNatClampNeg) M hP (ge_3k (i := x1) hx1) (ge_3l (i := x1) hx1) (in_c g2) rfl dX5_isDraftAsTold_18 ?_
      refine lv_iconst (v := (-1)) hx hb dX5_isDraftAsTold_19 (by decide) ?_
      refine lv_icmp_eq (tgt := 38) hx hb dX5_isDraftAsTold_20 (by decide) (fun c3 => ?_) (fun c3 => ?_)
      · replace hF := (if_pos c3).symm.trans hF
        refine lv_aload_n hx hb dX5_isDraftAsTold_38 rfl (lv_at hl 0 rfl) ?_
        refine fg_5_16 M hP dX5_isDraftAsTold_39 ?_
        obtain ⟨v6, h4, hF⟩ := bi_some hF
        refine k_v hS (kV_run M hS hP ok_X5_147 (c_X1_passDay l G 58 rfl v v6 h4) (rc_1 M hP rfl) rfl hl.1 rfl (Nat.le_of_ble_eq_true rfl) ⟨rfl, rfl⟩ ⟨Nat.le_of_ble_eq_true rfl, Nat.le_of_ble_eq_true rfl⟩ dX5_isDraftAsTold_42) (fun H locs hP hS => ?_)
        refine lv_iinc (v := (x4 + 1)) (lv' := [(4, .int (x4 + 1)), (0, .ref (ad G 12)), (1, .ref (ad G x1)), (2, .ref (ad G x2)), (3, .int x3)]) hx hb dX5_isDraftAsTold_45 hl (k := 4) rfl (iinc_eq _ (by decide)) (by decide) rfl (fun ls hl => ?_)
        refine lv_goto (tgt := 3) hx hb dX5_isDraftAsTold_48 (by decide) ?_
        exact ih x1 x2 x3 (x4 + 1) hx1 hx2 _ _ _ ls hF hP hS (lv_sub hl [1, 2, 3, 4, 0] rfl)
      · replace hF := (if_neg c3).symm.trans hF
        refine lv_aload_n hx hb dX5_isDraftAsTold_23 rfl (lv_at hl 1 rfl) ?_
        refine fg_5_218 M hP hx1 dX5_isDraftAsTold_24 ?_
        refine lv_iload hx hb dX5_isDraftAsTold_27 (lv_at hl 4 rfl) ?_
        obtain ⟨g7, hF⟩ := gu_some hF
        refine r_iald (k := (x4).toNatClampNeg) M hP (ge_3k (i := x1) hx1) (ge_3l (i := x1) hx1) (in_c g7) rfl dX5_isDraftAsTold_29 ?_
        refine lv_aload_n hx hb dX5_isDraftAsTold_30 rfl (lv_at hl 2 rfl) ?_
        refine lv_iload_n hx hb dX5_isDraftAsTold_31 rfl (lv_at hl 3 rfl) ?_
        obtain ⟨g8, hF⟩ := gu_some hF
        refine r_iald (k := (x3).toNatClampNeg) M hP hx2 rfl (in_c g8) rfl dX5_isDraftAsTold_32 ?_
        refine lv_icmp_eq (tgt := 38) hx hb dX5_isDraftAsTold_33 (by decide) (fun c9 => ?_) (fun c9 => ?_)
        · replace hF := (if_pos c9).symm.trans hF
          refine lv_aload_n hx hb dX5_isDraftAsTold_38 rfl (lv_at hl 0 rfl) ?_
          refine fg_5_16 M hP dX5_isDraftAsTold_39 ?_
          obtain ⟨v12, h10, hF⟩ := bi_some hF
          refine k_v hS (kV_run M hS hP ok_X5_147 (c_X1_passDay l G 58 rfl v v12 h10) (rc_1 M hP rfl) rfl hl.1 rfl (Nat.le_of_ble_eq_true rfl) ⟨rfl, rfl⟩ ⟨Nat.le_of_ble_eq_true rfl, Nat.le_of_ble_eq_true rfl⟩ dX5_isDraftAsTold_42) (fun H locs hP hS => ?_)
          refine lv_iinc (v := (x4 + 1)) (lv' := [(4, .int (x4 + 1)), (0, .ref (ad G 12)), (1, .ref (ad G x1)), (2, .ref (ad G x2)), (3, .int x3)]) hx hb dX5_isDraftAsTold_45 hl (k := 4) rfl (iinc_eq _ (by decide)) (by decide) rfl (fun ls hl => ?_)
          refine lv_goto (tgt := 3) hx hb dX5_isDraftAsTold_48 (by decide) ?_
          exact ih x1 x2 x3 (x4 + 1) hx1 hx2 _ _ _ ls hF hP hS (lv_sub hl [1, 2, 3, 4, 0] rfl)
        · replace hF := (if_neg c9).symm.trans hF
          refine lv_iconst (v := 0) hx hb dX5_isDraftAsTold_36 (by decide) ?_
          exact ret_z M hS hP (congrArg (fun z : Bool × VV => (bI z.1, z.2)) (Option.some.inj hF)) rfl dX5_isDraftAsTold_37
set_option maxHeartbeats 4000000 in
set_option maxRecDepth 100000 in
theorem c_X5_isDraftAsTold (l : Launch) (G : GG) (a1 : Nat) (ha1 : kd a1 = 3) (a2 : Nat) (ha2 : kd a2 = 7) (a3 : Int32) (v : VV) (r : Bool) (v' : VV) (hF : F_X5_isDraftAsTold a1 a2 a3 v = some (r, v')) : Met l yX5_isDraftAsTold (cdW yX5_isDraftAsTold cX5_isDraftAsTold 5 (some .boolean)) ({ frames := 4, cells := 0, slots := 0, locals := 92 } : Room) (PC G v [.ref (ad G 12), .ref (ad G a1), .ref (ad G a2), .int a3]) (QI G (bI r) v') 0 0 (gA G) := by
  refine met_in RX5 (by decide) rfl (Nat.le_of_ble_eq_true rfl) ?_
  intro p e s m below meth c M hP ls hl
  have hx := M.1.1
  have hb := M.1.2.1
  have hS : va_S (gA G) s.heap s.heap [] := va_S.rf
  have hl : lv_has ls 5 [(0, .ref (ad G 12)), (1, .ref (ad G a1)), (2, .ref (ad G a2)), (3, .int a3)] := hl
  unfold F_X5_isDraftAsTold at hF
  refine lv_iconst (v := 0) hx hb dX5_isDraftAsTold_0 (by decide) ?_
  refine lv_istore (lv' := [(4, .int 0), (0, .ref (ad G 12)), (1, .ref (ad G a1)), (2, .ref (ad G a2)), (3, .int a3)]) hx hb dX5_isDraftAsTold_1 hl (by decide) rfl (fun ls hl => ?_)
  exact l_X5_isDraftAsTold_3 M _ _ fu a1 a2 a3 0 ha1 ha2 _ _ _ ls hF hP hS (lv_sub hl [1, 2, 3, 4, 0] rfl)
def L_X5_fits_32 : Nat → Int32 → Int32 → Int32 → Int32 → Int32 → VV → Option (Int32 × VV)
  | 0, _, _, _, _, _, _ => none
  | n + 1, x1, x2, x3, x4, x5, v =>
  if 9 < x5 then (some (x4, v)) else (Option.bind (F_X5_draftLoneChild x2 v) (fun v12 => gu (gI x1 4) (Option.bind (F_X5_isDraftAsTold (14 + 1 + ((x1).toNatClampNeg)) (((58 + 4) + 17 + 0) + 6) 2 (pu v12 (((58 + 4) + 17 + 0) + 6) 1 x5)) (fun (r15, v16) => (if r15 = true then (L_X5_fits_32 n x1 x2 x3 (x4 + 1) (x5 + 1) v16) else (L_X5_fits_32 n x1 x2 x3 x4 (x5 + 1) v16))))))
def F_X5_fits (a1 : Int32) (a2 : Int32) (v : VV) : Option (Int32 × VV) :=
  Option.bind (F_X5_findingOfSheet a1 v) (fun (r2, v3) => (if r2 = 0 then (Option.bind (F_X5_isChild a2 v3) (fun r7 => (if r7 = true then (L_X5_fits_32 fu a1 a2 r2 0 0 v3) else (Option.bind (F_X5_finding 0 v3) (fun (r20, v21) => some (r20, v21)))))) else (some (r2, v3))))
set_option maxHeartbeats 4000000 in
set_option maxRecDepth 100000 in
theorem l_X5_fits_32 {p : Program} {l : Launch} {e : Env} {s : State} {m : MethodId} {args : Array Value} {below : List Frame} {meth : Method} {c : Code} {G : GG} (M : Mx G RX5 cX5_fits 6 (some .int) p s m args meth c) (r : Int32) (v' : VV) : ∀ (n : Nat) (x1 : Int32) (x2 : Int32) (x3 : Int32) (x4 : Int32) (x5 : Int32) (v : VV) (H : Heap) (locs : List Loc) (ls : Array Slot), L_X5_fits_32 n x1 x2 x3 x4 x5 v = some (r, v') → Wd G v H → va_S (gA G) s.heap H locs → lv_has ls 6 [(0, .ref (ad G 12)), (1, .int x1), (2, .int x2), (3, .int x3), (4, .int x4), (5, .int x5)] → W p l e ({ frames := 5, cells := 0, slots := 0, locals := 116 } : Room) s m args below meth c H locs 0 0 (MQ below (QI G r v') args s 0 0 (gA G)) (F0 m 32 ls []) := by
  have hx := M.1.1
  have hb := M.1.2.1
  intro n
  induction n with
  | zero =>
    intro x1 x2 x3 x4 x5 v H locs ls hF hP hS hl
    rw [L_X5_fits_32] at hF
    cases hF
  | succ n ih =>
    intro x1 x2 x3 x4 x5 v H locs ls hF hP hS hl
    rw [L_X5_fits_32] at hF
    refine lv_iload hx hb dX5_fits_32 (lv_at hl 5 rfl) ?_
    refine lv_bipush (v := 9) hx hb dX5_fits_34 (by decide) ?_
    refine lv_icmp_gt (tgt := 95) hx hb dX5_fits_36 (by decide) (fun c9 => ?_) (fun c9 => ?_)
    · replace hF := (if_pos c9).symm.trans hF
      refine lv_iload hx hb dX5_fits_95 (lv_at hl 4 rfl) ?_
      exact ret_i M hS hP (Option.some.inj hF) dX5_fits_97
    · replace hF := (if_neg c9).symm.trans hF
      refine lv_aload_n hx hb dX5_fits_39 rfl (lv_at hl 0 rfl) ?_
      refine lv_iload_n hx hb dX5_fits_40 rfl (lv_at hl 2 rfl) ?_
      obtain ⟨v12, h10, hF⟩ := bi_some hF
      refine k_v hS (kV_run M hS hP ok_X5_137 (c_X5_draftLoneChild l G x2 v v12 h10) (rc_5 M hP rfl) rfl hl.1 rfl (Nat.le_of_ble_eq_true rfl) ⟨rfl, rfl⟩ ⟨Nat.le_of_ble_eq_true rfl, Nat.le_of_ble_eq_true rfl⟩ dX5_fits_41) (fun H locs hP hS => ?_)
      refine lv_aload_n hx hb dX5_fits_44 rfl (lv_at hl 0 rfl) ?_
      refine fg_5_16 M hP dX5_fits_45 ?_
      refine fg_5_93 M hP rfl dX5_fits_48 ?_
      refine lv_iconst (v := 0) hx hb dX5_fits_51 (by decide) ?_
      refine r_aald9 (k := 0) M hP (ge_1_4k (i := 58) rfl) (ge_9l (i := (58 + 4)) (ge_1_4k (i := 58) rfl)) (in_c rfl) rfl dX5_fits_52 ?_
      refine fg_5_97 M hP (ge_9k (i := (58 + 4)) (k := 0) (ge_1_4k (i := 58) rfl) (by decide : 0 < 6)) dX5_fits_53 ?_
      refine lv_iconst (v := 1) hx hb dX5_fits_56 (by decide) ?_
      refine lv_iload hx hb dX5_fits_57 (lv_at hl 5 rfl) ?_
      refine r_iast (k := 1) M hS hP (ge_0k (i := ((58 + 4) + 17 + 0)) (ge_9k (i := (58 + 4)) (k := 0) (ge_1_4k (i := 58) rfl) (by decide : 0 < 6))) (ge_0l (i := ((58 + 4) + 17 + 0)) (ge_9k (i := (58 + 4)) (k := 0) (ge_1_4k (i := 58) rfl) (by decide : 0 < 6))) (in_c rfl) rfl dX5_fits_59 (fun H locs hP hS => ?_)
      have hP : Wd G (pu v12 (((58 + 4) + 17 + 0) + 6) 1 x5) H := hP
      refine lv_aload_n hx hb dX5_fits_60 rfl (lv_at hl 0 rfl) ?_
      refine lv_aload_n hx hb dX5_fits_61 rfl (lv_at hl 0 rfl) ?_
      refine fg_5_31 M hP dX5_fits_62 ?_
      refine lv_iload_n hx hb dX5_fits_65 rfl (lv_at hl 1 rfl) ?_
      obtain ⟨g13, hF⟩ := gu_some hF
      refine r_aald11 (k := (x1).toNatClampNeg) M hP rfl rfl (in_c g13) rfl dX5_fits_66 ?_
      refine lv_aload_n hx hb dX5_fits_67 rfl (lv_at hl 0 rfl) ?_
      refine fg_5_16 M hP dX5_fits_68 ?_
      refine fg_5_93 M hP rfl dX5_fits_71 ?_
      refine lv_iconst (v := 0) hx hb dX5_fits_74 (by decide) ?_
      refine r_aald9 (k := 0) M hP (ge_1_4k (i := 58) rfl) (ge_9l (i := (58 + 4)) (ge_1_4k (i := 58) rfl)) (in_c rfl) rfl dX5_fits_75 ?_
      refine fg_5_97 M hP (ge_9k (i := (58 + 4)) (k := 0) (ge_1_4k (i := 58) rfl) (by decide : 0 < 6)) dX5_fits_76 ?_
      refine lv_iconst (v := 2) hx hb dX5_fits_79 (by decide) ?_
      obtain ⟨⟨r15, v16⟩, h14, hF⟩ := bi_some hF
      dsimp only at hF
      refine k_i hS (kV_run M hS hP ok_X5_159 (c_X5_isDraftAsTold l G (14 + 1 + ((x1).toNatClampNeg)) (ge_11k (i := 14) (k := (x1).toNatClampNeg) rfl (vin_lt (in_c g13))) (((58 + 4) + 17 + 0) + 6) (ge_0k (i := ((58 + 4) + 17 + 0)) (ge_9k (i := (58 + 4)) (k := 0) (ge_1_4k (i := 58) rfl) (by decide : 0 < 6))) 2 (pu v12 (((58 + 4) + 17 + 0) + 6) 1 x5) r15 v16 h14) (rc_5 M hP rfl) rfl hl.1 rfl (Nat.le_of_ble_eq_true rfl) ⟨rfl, rfl⟩ ⟨Nat.le_of_ble_eq_true rfl, Nat.le_of_ble_eq_true rfl⟩ dX5_fits_80) (fun H locs hP hS => ?_)
      refine lv_if_eq (tgt := 89) hx hb dX5_fits_83 (by decide) (fun c18 => ?_) (fun c18 => ?_)
      · replace hF := (if_neg (bI_f c18)).symm.trans hF
        refine lv_iinc (v := (x5 + 1)) (lv' := [(5, .int (x5 + 1)), (0, .ref (ad G 12)), (1, .int x1), (2, .int x2), (3, .int x3), (4, .int x4)]) hx hb dX5_fits_89 hl (k := 5) rfl (iinc_eq _ (by decide)) (by decide) rfl (fun ls hl => ?_)
        refine lv_goto (tgt := 32) hx hb dX5_fits_92 (by decide) ?_
        exact ih x1 x2 x3 x4 (x5 + 1) _ _ _ ls hF hP hS (lv_sub hl [1, 2, 3, 4, 5, 0] rfl)
      · replace hF := (if_pos (bI_t c18)).symm.trans hF
        refine lv_iinc (v := (x4 + 1)) (lv' := [(4, .int (x4 + 1)), (0, .ref (ad G 12)), (1, .int x1), (2, .int x2), (3, .int x3), (5, .int x5)]) hx hb dX5_fits_86 hl (k := 4) rfl (iinc_eq _ (by decide)) (by decide) rfl (fun ls hl => ?_)
        refine lv_iinc (v := (x5 + 1)) (lv' := [(5, .int (x5 + 1)), (4, .int (x4 + 1)), (0, .ref (ad G 12)), (1, .int x1), (2, .int x2), (3, .int x3)]) hx hb dX5_fits_89 hl (k := 5) rfl (iinc_eq _ (by decide)) (by decide) rfl (fun ls hl => ?_)
        refine lv_goto (tgt := 32) hx hb dX5_fits_92 (by decide) ?_
        exact ih x1 x2 x3 (x4 + 1) (x5 + 1) _ _ _ ls hF hP hS (lv_sub hl [2, 3, 4, 5, 1, 0] rfl)
set_option maxHeartbeats 4000000 in
set_option maxRecDepth 100000 in
theorem c_X5_fits (l : Launch) (G : GG) (a1 : Int32) (a2 : Int32) (v : VV) (r : Int32) (v' : VV) (hF : F_X5_fits a1 a2 v = some (r, v')) : Met l yX5_fits (cdW yX5_fits cX5_fits 6 (some .int)) ({ frames := 5, cells := 0, slots := 0, locals := 116 } : Room) (PC G v [.ref (ad G 12), .int a1, .int a2]) (QI G r v') 0 0 (gA G) := by
  refine met_in RX5 (by decide) rfl (Nat.le_of_ble_eq_true rfl) ?_
  intro p e s m below meth c M hP ls hl
  have hx := M.1.1
  have hb := M.1.2.1
  have hS : va_S (gA G) s.heap s.heap [] := va_S.rf
  have hl : lv_has ls 6 [(0, .ref (ad G 12)), (1, .int a1), (2, .int a2)] := hl
  unfold F_X5_fits at hF
  refine lv_aload_n hx hb dX5_fits_0 rfl (lv_at hl 0 rfl) ?_
  refine lv_iload_n hx hb dX5_fits_1 rfl (lv_at hl 1 rfl) ?_
  obtain ⟨⟨r2, v3⟩, h1, hF⟩ := bi_some hF
  dsimp only at hF
  refine k_i hS (kV_run M hS hP ok_X5_156 (c_X5_findingOfSheet l G a1 v r2 v3 h1) (rc_5 M hP rfl) rfl hl.1 rfl (Nat.le_of_ble_eq_true rfl) ⟨rfl, rfl⟩ ⟨Nat.le_of_ble_eq_true rfl, Nat.le_of_ble_eq_true rfl⟩ dX5_fits_2) (fun H locs hP hS => ?_)
  refine lv_istore_n (lv' := [(3, .int r2), (0, .ref (ad G 12)), (1, .int a1), (2, .int a2)]) hx hb dX5_fits_5 rfl hl (by decide) rfl (fun ls hl => ?_)
  refine lv_iload_n hx hb dX5_fits_6 rfl (lv_at hl 0 rfl) ?_
  refine lv_if_eq (tgt := 12) hx hb dX5_fits_7 (by decide) (fun c5 => ?_) (fun c5 => ?_)
  · replace hF := (if_pos c5).symm.trans hF
    refine lv_aload_n hx hb dX5_fits_12 rfl (lv_at hl 1 rfl) ?_
    refine lv_iload_n hx hb dX5_fits_13 rfl (lv_at hl 3 rfl) ?_
    obtain ⟨r7, h6, hF⟩ := bi_some hF
    refine k_i hS (kV_run M hS hP ok_X5_88 (c_X5_isChild l G a2 v3 r7 h6) (rc_5 M hP rfl) rfl hl.1 rfl (Nat.le_of_ble_eq_true rfl) ⟨rfl, rfl⟩ ⟨Nat.le_of_ble_eq_true rfl, Nat.le_of_ble_eq_true rfl⟩ dX5_fits_14) (fun H locs hP hS => ?_)
    refine lv_if_ne (tgt := 26) hx hb dX5_fits_17 (by decide) (fun c8 => ?_) (fun c8 => ?_)
    · replace hF := (if_pos (bI_t c8)).symm.trans hF
      refine lv_iconst (v := 0) hx hb dX5_fits_26 (by decide) ?_
      refine lv_istore (lv' := [(4, .int 0), (3, .int r2), (0, .ref (ad G 12)), (1, .int a1), (2, .int a2)]) hx hb dX5_fits_27 hl (by decide) rfl (fun ls hl => ?_)
      refine lv_iconst (v := 0) hx hb dX5_fits_29 (by decide) ?_
      refine lv_istore (lv' := [(5, .int 0), (4, .int 0), (3, .int r2), (0, .ref (ad G 12)), (1, .int a1), (2, .int a2)]) hx hb dX5_fits_30 hl (by decide) rfl (fun ls hl => ?_)
      exact l_X5_fits_32 M _ _ fu a1 a2 r2 0 0 _ _ _ ls hF hP hS (lv_sub hl [3, 4, 5, 2, 1, 0] rfl)
    · replace hF := (if_neg (bI_f c8)).symm.trans hF
      refine lv_aload_n hx hb dX5_fits_20 rfl (lv_at hl 1 rfl) ?_
      refine lv_iconst (v := 0) hx hb dX5_fits_21 (by decide) ?_
      obtain ⟨⟨r20, v21⟩, h19, hF⟩ := bi_some hF
      dsimp only at hF
      refine k_i hS (kV_run M hS hP ok_X5_48 (c_X5_finding l G 0 v3 r20 v21 h19) (rc_5 M hP rfl) rfl hl.1 rfl (Nat.le_of_ble_eq_true rfl) ⟨rfl, rfl⟩ ⟨Nat.le_of_ble_eq_true rfl, Nat.le_of_ble_eq_true rfl⟩ dX5_fits_22) (fun H locs hP hS => ?_)
      exact ret_i M hS hP (Option.some.inj hF) dX5_fits_25
  · replace hF := (if_neg c5).symm.trans hF
    refine lv_iload_n hx hb dX5_fits_10 rfl (lv_at hl 0 rfl) ?_
    exact ret_i M hS hP (Option.some.inj hF) dX5_fits_11
def L_X5_kinds_32 : Nat → Int32 → Int32 → Int32 → Int32 → Int32 → VV → Option (Int32 × VV)
  | 0, _, _, _, _, _, _ => none
  | n + 1, x1, x2, x3, x4, x5, v =>
  if 6 < x5 then (some (x4, v)) else (Option.bind (F_X5_draftLoneKeeper x2 v) (fun v12 => gu (gI x1 4) (Option.bind (F_X5_isDraftAsTold (14 + 1 + ((x1).toNatClampNeg)) (((58 + 3) + 2 + 0) + 8) 2 (pu v12 (((58 + 3) + 2 + 0) + 8) 0 x5)) (fun (r15, v16) => (if r15 = true then (L_X5_kinds_32 n x1 x2 x3 (x4 ||| (1 <<< (x5 &&& 31))) (x5 + 1) v16) else (L_X5_kinds_32 n x1 x2 x3 x4 (x5 + 1) v16))))))
def F_X5_kinds (a1 : Int32) (a2 : Int32) (v : VV) : Option (Int32 × VV) :=
  Option.bind (F_X5_findingOfSheet a1 v) (fun (r2, v3) => (if r2 = 0 then (Option.bind (F_X5_isKeeper a2 v3) (fun r7 => (if r7 = true then (L_X5_kinds_32 fu a1 a2 r2 0 0 v3) else (Option.bind (F_X5_finding 0 v3) (fun (r20, v21) => some (r20, v21)))))) else (some (r2, v3))))
set_option maxHeartbeats 4000000 in
set_option maxRecDepth 100000 in
theorem l_X5_kinds_32 {p : Program} {l : Launch} {e : Env} {s : State} {m : MethodId} {args : Array Value} {below : List Frame} {meth : Method} {c : Code} {G : GG} (M : Mx G RX5 cX5_kinds 6 (some .int) p s m args meth c) (r : Int32) (v' : VV) : ∀ (n : Nat) (x1 : Int32) (x2 : Int32) (x3 : Int32) (x4 : Int32) (x5 : Int32) (v : VV) (H : Heap) (locs : List Loc) (ls : Array Slot), L_X5_kinds_32 n x1 x2 x3 x4 x5 v = some (r, v') → Wd G v H → va_S (gA G) s.heap H locs → lv_has ls 6 [(0, .ref (ad G 12)), (1, .int x1), (2, .int x2), (3, .int x3), (4, .int x4), (5, .int x5)] → W p l e ({ frames := 5, cells := 0, slots := 0, locals := 116 } : Room) s m args below meth c H locs 0 0 (MQ below (QI G r v') args s 0 0 (gA G)) (F0 m 32 ls []) := by
  have hx := M.1.1
  have hb := M.1.2.1
  intro n
  induction n with
  | zero =>
    intro x1 x2 x3 x4 x5 v H locs ls hF hP hS hl
    rw [L_X5_kinds_32] at hF
    cases hF
  | succ n ih =>
    intro x1 x2 x3 x4 x5 v H locs ls hF hP hS hl
    rw [L_X5_kinds_32] at hF
    refine lv_iload hx hb dX5_kinds_32 (lv_at hl 5 rfl) ?_
    refine lv_bipush (v := 6) hx hb dX5_kinds_34 (by decide) ?_
    refine lv_icmp_gt (tgt := 101) hx hb dX5_kinds_36 (by decide) (fun c9 => ?_) (fun c9 => ?_)
    · replace hF := (if_pos c9).symm.trans hF
      refine lv_iload hx hb dX5_kinds_101 (lv_at hl 4 rfl) ?_
      exact ret_i M hS hP (Option.some.inj hF) dX5_kinds_103
    · replace hF := (if_neg c9).symm.trans hF
      refine lv_aload_n hx hb dX5_kinds_39 rfl (lv_at hl 0 rfl) ?_
      refine lv_iload_n hx hb dX5_kinds_40 rfl (lv_at hl 2 rfl) ?_
      obtain ⟨v12, h10, hF⟩ := bi_some hF
      refine k_v hS (kV_run M hS hP ok_X5_134 (c_X5_draftLoneKeeper l G x2 v v12 h10) (rc_5 M hP rfl) rfl hl.1 rfl (Nat.le_of_ble_eq_true rfl) ⟨rfl, rfl⟩ ⟨Nat.le_of_ble_eq_true rfl, Nat.le_of_ble_eq_true rfl⟩ dX5_kinds_41) (fun H locs hP hS => ?_)
      refine lv_aload_n hx hb dX5_kinds_44 rfl (lv_at hl 0 rfl) ?_
      refine fg_5_16 M hP dX5_kinds_45 ?_
      refine fg_5_81 M hP rfl dX5_kinds_48 ?_
      refine lv_iconst (v := 0) hx hb dX5_kinds_51 (by decide) ?_
      refine r_aald10 (k := 0) M hP (ge_1_3k (i := 58) rfl) (ge_10l (i := (58 + 3)) (ge_1_3k (i := 58) rfl)) (in_c rfl) rfl dX5_kinds_52 ?_
      refine fg_5_85 M hP (ge_10k (i := (58 + 3)) (k := 0) (ge_1_3k (i := 58) rfl) (by decide : 0 < 8)) dX5_kinds_53 ?_
      refine lv_iconst (v := 0) hx hb dX5_kinds_56 (by decide) ?_
      refine lv_iload hx hb dX5_kinds_57 (lv_at hl 5 rfl) ?_
      refine r_iast (k := 0) M hS hP (ge_2k (i := ((58 + 3) + 2 + 0)) (ge_10k (i := (58 + 3)) (k := 0) (ge_1_3k (i := 58) rfl) (by decide : 0 < 8))) (ge_2l (i := ((58 + 3) + 2 + 0)) (ge_10k (i := (58 + 3)) (k := 0) (ge_1_3k (i := 58) rfl) (by decide : 0 < 8))) (in_c rfl) rfl dX5_kinds_59 (fun H locs hP hS => ?_)
      have hP : Wd G (pu v12 (((58 + 3) + 2 + 0) + 8) 0 x5) H := hP
      refine lv_aload_n hx hb dX5_kinds_60 rfl (lv_at hl 0 rfl) ?_
      refine lv_aload_n hx hb dX5_kinds_61 rfl (lv_at hl 0 rfl) ?_
      refine fg_5_31 M hP dX5_kinds_62 ?_
      refine lv_iload_n hx hb dX5_kinds_65 rfl (lv_at hl 1 rfl) ?_
      obtain ⟨g13, hF⟩ := gu_some hF
      refine r_aald11 (k := (x1).toNatClampNeg) M hP rfl rfl (in_c g13) rfl dX5_kinds_66 ?_
      refine lv_aload_n hx hb dX5_kinds_67 rfl (lv_at hl 0 rfl) ?_
      refine fg_5_16 M hP dX5_kinds_68 ?_
      refine fg_5_81 M hP rfl dX5_kinds_71 ?_
      refine lv_iconst (v := 0) hx hb dX5_kinds_74 (by decide) ?_
      refine r_aald10 (k := 0) M hP (ge_1_3k (i := 58) rfl) (ge_10l (i := (58 + 3)) (ge_1_3k (i := 58) rfl)) (in_c rfl) rfl dX5_kinds_75 ?_
      refine fg_5_85 M hP (ge_10k (i := (58 + 3)) (k := 0) (ge_1_3k (i := 58) rfl) (by decide : 0 < 8)) dX5_kinds_76 ?_
      refine lv_iconst (v := 2) hx hb dX5_kinds_79 (by decide) ?_
      obtain ⟨⟨r15, v16⟩, h14, hF⟩ := bi_some hF
      dsimp only at hF
      refine k_i hS (kV_run M hS hP ok_X5_159 (c_X5_isDraftAsTold l G (14 + 1 + ((x1).toNatClampNeg)) (ge_11k (i := 14) (k := (x1).toNatClampNeg) rfl (vin_lt (in_c g13))) (((58 + 3) + 2 + 0) + 8) (ge_2k (i := ((58 + 3) + 2 + 0)) (ge_10k (i := (58 + 3)) (k := 0) (ge_1_3k (i := 58) rfl) (by decide : 0 < 8))) 2 (pu v12 (((58 + 3) + 2 + 0) + 8) 0 x5) r15 v16 h14) (rc_5 M hP rfl) rfl hl.1 rfl (Nat.le_of_ble_eq_true rfl) ⟨rfl, rfl⟩ ⟨Nat.le_of_ble_eq_true rfl, Nat.le_of_ble_eq_true rfl⟩ dX5_kinds_80) (fun H locs hP hS => ?_)
      refine lv_if_eq (tgt := 95) hx hb dX5_kinds_83 (by decide) (fun c18 => ?_) (fun c18 => ?_)
      · replace hF := (if_neg (bI_f c18)).symm.trans hF
        refine lv_iinc (v := (x5 + 1)) (lv' := [(5, .int (x5 + 1)), (0, .ref (ad G 12)), (1, .int x1), (2, .int x2), (3, .int x3), (4, .int x4)]) hx hb dX5_kinds_95 hl (k := 5) rfl (iinc_eq _ (by decide)) (by decide) rfl (fun ls hl => ?_)
        refine lv_goto (tgt := 32) hx hb dX5_kinds_98 (by decide) ?_
        exact ih x1 x2 x3 x4 (x5 + 1) _ _ _ ls hF hP hS (lv_sub hl [1, 2, 3, 4, 5, 0] rfl)
      · replace hF := (if_pos (bI_t c18)).symm.trans hF
        refine lv_iload hx hb dX5_kinds_86 (lv_at hl 4 rfl) ?_
        refine lv_iconst (v := 1) hx hb dX5_kinds_88 (by decide) ?_
        refine lv_iload hx hb dX5_kinds_89 (lv_at hl 5 rfl) ?_
        refine lv_ishl hx hb dX5_kinds_91 ?_
        refine lv_ior hx hb dX5_kinds_92 ?_
        refine lv_istore (lv' := [(4, .int (x4 ||| (1 <<< (x5 &&& 31)))), (0, .ref (ad G 12)), (1, .int x1), (2, .int x2), (3, .int x3), (5, .int x5)]) hx hb dX5_kinds_93 hl (by decide) rfl (fun ls hl => ?_)
        refine lv_iinc (v := (x5 + 1)) (lv' := [(5, .int (x5 + 1)), (4, .int (x4 ||| (1 <<< (x5 &&& 31)))), (0, .ref (ad G 12)), (1, .int x1), (2, .int x2), (3, .int x3)]) hx hb dX5_kinds_95 hl (k := 5) rfl (iinc_eq _ (by decide)) (by decide) rfl (fun ls hl => ?_)
        refine lv_goto (tgt := 32) hx hb dX5_kinds_98 (by decide) ?_
        exact ih x1 x2 x3 (x4 ||| (1 <<< (x5 &&& 31))) (x5 + 1) _ _ _ ls hF hP hS (lv_sub hl [2, 3, 4, 5, 1, 0] rfl)
set_option maxHeartbeats 4000000 in
set_option maxRecDepth 100000 in
theorem c_X5_kinds (l : Launch) (G : GG) (a1 : Int32) (a2 : Int32) (v : VV) (r : Int32) (v' : VV) (hF : F_X5_kinds a1 a2 v = some (r, v')) : Met l yX5_kinds (cdW yX5_kinds cX5_kinds 6 (some .int)) ({ frames := 5, cells := 0, slots := 0, locals := 116 } : Room) (PC G v [.ref (ad G 12), .int a1, .int a2]) (QI G r v') 0 0 (gA G) := by
  refine met_in RX5 (by decide) rfl (Nat.le_of_ble_eq_true rfl) ?_
  intro p e s m below meth c M hP ls hl
  have hx := M.1.1
  have hb := M.1.2.1
  have hS : va_S (gA G) s.heap s.heap [] := va_S.rf
  have hl : lv_has ls 6 [(0, .ref (ad G 12)), (1, .int a1), (2, .int a2)] := hl
  unfold F_X5_kinds at hF
  refine lv_aload_n hx hb dX5_kinds_0 rfl (lv_at hl 0 rfl) ?_
  refine lv_iload_n hx hb dX5_kinds_1 rfl (lv_at hl 1 rfl) ?_
  obtain ⟨⟨r2, v3⟩, h1, hF⟩ := bi_some hF
  dsimp only at hF
  refine k_i hS (kV_run M hS hP ok_X5_156 (c_X5_findingOfSheet l G a1 v r2 v3 h1) (rc_5 M hP rfl) rfl hl.1 rfl (Nat.le_of_ble_eq_true rfl) ⟨rfl, rfl⟩ ⟨Nat.le_of_ble_eq_true rfl, Nat.le_of_ble_eq_true rfl⟩ dX5_kinds_2) (fun H locs hP hS => ?_)
  refine lv_istore_n (lv' := [(3, .int r2), (0, .ref (ad G 12)), (1, .int a1), (2, .int a2)]) hx hb dX5_kinds_5 rfl hl (by decide) rfl (fun ls hl => ?_)
  refine lv_iload_n hx hb dX5_kinds_6 rfl (lv_at hl 0 rfl) ?_
  refine lv_if_eq (tgt := 12) hx hb dX5_kinds_7 (by decide) (fun c5 => ?_) (fun c5 => ?_)
  · replace hF := (if_pos c5).symm.trans hF
    refine lv_aload_n hx hb dX5_kinds_12 rfl (lv_at hl 1 rfl) ?_
    refine lv_iload_n hx hb dX5_kinds_13 rfl (lv_at hl 3 rfl) ?_
    obtain ⟨r7, h6, hF⟩ := bi_some hF
    refine k_i hS (kV_run M hS hP ok_X5_69 (c_X5_isKeeper l G a2 v3 r7 h6) (rc_5 M hP rfl) rfl hl.1 rfl (Nat.le_of_ble_eq_true rfl) ⟨rfl, rfl⟩ ⟨Nat.le_of_ble_eq_true rfl, Nat.le_of_ble_eq_true rfl⟩ dX5_kinds_14) (fun H locs hP hS => ?_)
    refine lv_if_ne (tgt := 26) hx hb dX5_kinds_17 (by decide) (fun c8 => ?_) (fun c8 => ?_)
    · replace hF := (if_pos (bI_t c8)).symm.trans hF
      refine lv_iconst (v := 0) hx hb dX5_kinds_26 (by decide) ?_
      refine lv_istore (lv' := [(4, .int 0), (3, .int r2), (0, .ref (ad G 12)), (1, .int a1), (2, .int a2)]) hx hb dX5_kinds_27 hl (by decide) rfl (fun ls hl => ?_)
      refine lv_iconst (v := 0) hx hb dX5_kinds_29 (by decide) ?_
      refine lv_istore (lv' := [(5, .int 0), (4, .int 0), (3, .int r2), (0, .ref (ad G 12)), (1, .int a1), (2, .int a2)]) hx hb dX5_kinds_30 hl (by decide) rfl (fun ls hl => ?_)
      exact l_X5_kinds_32 M _ _ fu a1 a2 r2 0 0 _ _ _ ls hF hP hS (lv_sub hl [3, 4, 5, 2, 1, 0] rfl)
    · replace hF := (if_neg (bI_f c8)).symm.trans hF
      refine lv_aload_n hx hb dX5_kinds_20 rfl (lv_at hl 1 rfl) ?_
      refine lv_iconst (v := 0) hx hb dX5_kinds_21 (by decide) ?_
      obtain ⟨⟨r20, v21⟩, h19, hF⟩ := bi_some hF
      dsimp only at hF
      refine k_i hS (kV_run M hS hP ok_X5_48 (c_X5_finding l G 0 v3 r20 v21 h19) (rc_5 M hP rfl) rfl hl.1 rfl (Nat.le_of_ble_eq_true rfl) ⟨rfl, rfl⟩ ⟨Nat.le_of_ble_eq_true rfl, Nat.le_of_ble_eq_true rfl⟩ dX5_kinds_22) (fun H locs hP hS => ?_)
      exact ret_i M hS hP (Option.some.inj hF) dX5_kinds_25
  · replace hF := (if_neg c5).symm.trans hF
    refine lv_iload_n hx hb dX5_kinds_10 rfl (lv_at hl 0 rfl) ?_
    exact ret_i M hS hP (Option.some.inj hF) dX5_kinds_11
def L_X5_autumn_39 : Nat → Int32 → Int32 → VV → Option (Int32 × VV)
  | 0, _, _, _ => none
  | n + 1, x1, x2, v =>
  if x1 ≤ x2 then (Option.bind (F_X1_learntTogether 25 v) (fun r10 => some (r10, v))) else (Option.bind (F_X1_draw 25 v) (fun (r12, v13) => gu (gI ((v 25 6) - (v 25 6) / 6 * 6) 6) (Option.bind (F_X1_draw 25 (pu v13 (25 + 1) (((v 25 6) - (v 25 6) / 6 * 6).toNatClampNeg) (r12 - r12 / 10 * 10))) (fun (r17, v18) => (if (v18 25 5) ≤ (r17 - r17 / 8 * 8) then (Option.bind (F_X1_passDay 25 v18) (fun v23 => L_X5_autumn_39 n x1 (x2 + 1) v23)) else (gu (gI (r17 - r17 / 8 * 8) 6) (Option.bind (F_X0_rowOn ((25 + 4) + 17 + ((r17 - r17 / 8 * 8).toNatClampNeg)) v18) (fun v27 => Option.bind (F_X1_passDay 25 v27) (fun v30 => L_X5_autumn_39 n x1 (x2 + 1) v30)))))))))
def F_X5_autumn (a1 : Int32) (v : VV) : Option (Int32 × VV) :=
  if a1 < 1 then (Option.bind (F_X5_finding 0 v) (fun (r3, v4) => some (r3, v4))) else (if a1 ≤ 20 then (if ((v 25 6) + a1) ≤ 99999 then (L_X5_autumn_39 fu a1 0 v) else (Option.bind (F_X5_finding 4 v) (fun (r32, v33) => some (r32, v33)))) else (Option.bind (F_X5_finding 0 v) (fun (r36, v37) => some (r36, v37))))
set_option maxHeartbeats 4000000 in
set_option maxRecDepth 100000 in
theorem l_X5_autumn_39 {p : Program} {l : Launch} {e : Env} {s : State} {m : MethodId} {args : Array Value} {below : List Frame} {meth : Method} {c : Code} {G : GG} (M : Mx G RX5 cX5_autumn 4 (some .int) p s m args meth c) (r : Int32) (v' : VV) : ∀ (n : Nat) (x1 : Int32) (x2 : Int32) (v : VV) (H : Heap) (locs : List Loc) (ls : Array Slot), L_X5_autumn_39 n x1 x2 v = some (r, v') → Wd G v H → va_S (gA G) s.heap H locs → lv_has ls 4 [(0, .ref (ad G 12)), (1, .int x1), (2, .int x2)] → W p l e ({ frames := 4, cells := 0, slots := 0, locals := 92 } : Room) s m args below meth c H locs 0 0 (MQ below (QI G r v') args s 0 0 (gA G)) (F0 m 39 ls []) := by
  have hx := M.1.1
  have hb := M.1.2.1
  intro n
  induction n with
  | zero =>
    intro x1 x2 v H locs ls hF hP hS hl
    rw [L_X5_autumn_39] at hF
    cases hF
  | succ n ih =>
    intro x1 x2 v H locs ls hF hP hS hl
    rw [L_X5_autumn_39] at hF
    refine lv_iload_n hx hb dX5_autumn_39 rfl (lv_at hl 2 rfl) ?_
    refine lv_iload_n hx hb dX5_autumn_40 rfl (lv_at hl 1 rfl) ?_
    refine lv_icmp_ge (tgt := 119) hx hb dX5_autumn_41 (by decide) (fun c8 => ?_) (fun c8 => ?_)
    · replace hF := (if_pos c8).symm.trans hF
      refine lv_aload_n hx hb dX5_autumn_119 rfl (lv_at hl 0 rfl) ?_
      refine fg_5_10 M hP dX5_autumn_120 ?_
      obtain ⟨r10, h9, hF⟩ := bi_some hF
      refine k_i hS (kV_run M hS hP ok_X5_115 (c_X1_learntTogether l G 25 rfl v r10 h9) (rc_1 M hP rfl) rfl hl.1 rfl (Nat.le_of_ble_eq_true rfl) ⟨rfl, rfl⟩ ⟨Nat.le_of_ble_eq_true rfl, Nat.le_of_ble_eq_true rfl⟩ dX5_autumn_123) (fun H locs hP hS => ?_)
      exact ret_i M hS hP (Option.some.inj hF) dX5_autumn_126
    · replace hF := (if_neg c8).symm.trans hF
      refine lv_aload_n hx hb dX5_autumn_44 rfl (lv_at hl 0 rfl) ?_
      refine fg_5_10 M hP dX5_autumn_45 ?_
      refine fg_5_52 M hP rfl dX5_autumn_48 ?_
      refine lv_aload_n hx hb dX5_autumn_51 rfl (lv_at hl 0 rfl) ?_
      refine fg_5_10 M hP dX5_autumn_52 ?_
      refine fg_5_107 M hP rfl dX5_autumn_55 ?_
      refine lv_bipush (v := 6) hx hb dX5_autumn_58 (by decide) ?_
      refine lv_irem hx hb dX5_autumn_60 (by decide) ?_
      refine lv_aload_n hx hb dX5_autumn_61 rfl (lv_at hl 0 rfl) ?_
      refine fg_5_10 M hP dX5_autumn_62 ?_
      obtain ⟨⟨r12, v13⟩, h11, hF⟩ := bi_some hF
      dsimp only at hF
      refine k_i hS (kV_run M hS hP ok_X5_163 (c_X1_draw l G 25 rfl v r12 v13 h11) (rc_1 M hP rfl) rfl hl.1 rfl (Nat.le_of_ble_eq_true rfl) ⟨rfl, rfl⟩ ⟨Nat.le_of_ble_eq_true rfl, Nat.le_of_ble_eq_true rfl⟩ dX5_autumn_65) (fun H locs hP hS => ?_)
      refine lv_bipush (v := 10) hx hb dX5_autumn_68 (by decide) ?_
      refine lv_irem hx hb dX5_autumn_70 (by decide) ?_
      obtain ⟨g15, hF⟩ := gu_some hF
      refine r_iast (k := ((v 25 6) - (v 25 6) / 6 * 6).toNatClampNeg) M hS hP (ge_1_1k (i := 25) rfl) (ge_1_1l (i := 25) rfl) (in_c g15) rfl dX5_autumn_71 (fun H locs hP hS => ?_)
      have hP : Wd G (pu v13 (25 + 1) (((v 25 6) - (v 25 6) / 6 * 6).toNatClampNeg) (r12 - r12 / 10 * 10)) H := hP
      refine lv_aload_n hx hb dX5_autumn_72 rfl (lv_at hl 0 rfl) ?_
      refine fg_5_10 M hP dX5_autumn_73 ?_
      obtain ⟨⟨r17, v18⟩, h16, hF⟩ := bi_some hF
      dsimp only at hF
      refine k_i hS (kV_run M hS hP ok_X5_163 (c_X1_draw l G 25 rfl (pu v13 (25 + 1) (((v 25 6) - (v 25 6) / 6 * 6).toNatClampNeg) (r12 - r12 / 10 * 10)) r17 v18 h16) (rc_1 M hP rfl) rfl hl.1 rfl (Nat.le_of_ble_eq_true rfl) ⟨rfl, rfl⟩ ⟨Nat.le_of_ble_eq_true rfl, Nat.le_of_ble_eq_true rfl⟩ dX5_autumn_76) (fun H locs hP hS => ?_)
      refine lv_bipush (v := 8) hx hb dX5_autumn_79 (by decide) ?_
      refine lv_irem hx hb dX5_autumn_81 (by decide) ?_
      refine lv_istore_n (lv' := [(3, .int (r17 - r17 / 8 * 8)), (0, .ref (ad G 12)), (1, .int x1), (2, .int x2)]) hx hb dX5_autumn_82 rfl hl (by decide) rfl (fun ls hl => ?_)
      refine lv_iload_n hx hb dX5_autumn_83 rfl (lv_at hl 0 rfl) ?_
      refine lv_aload_n hx hb dX5_autumn_84 rfl (lv_at hl 1 rfl) ?_
      refine fg_5_10 M hP dX5_autumn_85 ?_
      refine fg_5_166 M hP rfl dX5_autumn_88 ?_
      refine lv_icmp_ge (tgt := 106) hx hb dX5_autumn_91 (by decide) (fun c20 => ?_) (fun c20 => ?_)
      · replace hF := (if_pos c20).symm.trans hF
        refine lv_aload_n hx hb dX5_autumn_106 rfl (lv_at hl 1 rfl) ?_
        refine fg_5_10 M hP dX5_autumn_107 ?_
        obtain ⟨v23, h21, hF⟩ := bi_some hF
        refine k_v hS (kV_run M hS hP ok_X5_147 (c_X1_passDay l G 25 rfl v18 v23 h21) (rc_1 M hP rfl) rfl hl.1 rfl (Nat.le_of_ble_eq_true rfl) ⟨rfl, rfl⟩ ⟨Nat.le_of_ble_eq_true rfl, Nat.le_of_ble_eq_true rfl⟩ dX5_autumn_110) (fun H locs hP hS => ?_)
        refine lv_iinc (v := (x2 + 1)) (lv' := [(2, .int (x2 + 1)), (3, .int (r17 - r17 / 8 * 8)), (0, .ref (ad G 12)), (1, .int x1)]) hx hb dX5_autumn_113 hl (k := 3) rfl (iinc_eq _ (by decide)) (by decide) rfl (fun ls hl => ?_)
        refine lv_goto (tgt := 39) hx hb dX5_autumn_116 (by decide) ?_
        exact ih x1 (x2 + 1) _ _ _ ls hF hP hS (lv_sub hl [2, 3, 0] rfl)
      · replace hF := (if_neg c20).symm.trans hF
        refine lv_aload_n hx hb dX5_autumn_94 rfl (lv_at hl 1 rfl) ?_
        refine fg_5_10 M hP dX5_autumn_95 ?_
        refine fg_5_93 M hP rfl dX5_autumn_98 ?_
        refine lv_iload_n hx hb dX5_autumn_101 rfl (lv_at hl 0 rfl) ?_
        obtain ⟨g24, hF⟩ := gu_some hF
        refine r_aald9 (k := (r17 - r17 / 8 * 8).toNatClampNeg) M hP (ge_1_4k (i := 25) rfl) (ge_9l (i := (25 + 4)) (ge_1_4k (i := 25) rfl)) (in_c g24) rfl dX5_autumn_102 ?_
        obtain ⟨v27, h25, hF⟩ := bi_some hF
        refine k_v hS (kV_run M hS hP ok_X5_169 (c_X0_rowOn l G ((25 + 4) + 17 + ((r17 - r17 / 8 * 8).toNatClampNeg)) (ge_9k (i := (25 + 4)) (k := (r17 - r17 / 8 * 8).toNatClampNeg) (ge_1_4k (i := 25) rfl) (vin_lt (in_c g24))) v18 v27 h25) (rc_0 M hP (ge_9k (i := (25 + 4)) (k := (r17 - r17 / 8 * 8).toNatClampNeg) (ge_1_4k (i := 25) rfl) (vin_lt (in_c g24)))) rfl hl.1 rfl (Nat.le_of_ble_eq_true rfl) ⟨rfl, rfl⟩ ⟨Nat.le_of_ble_eq_true rfl, Nat.le_of_ble_eq_true rfl⟩ dX5_autumn_103) (fun H locs hP hS => ?_)
        refine lv_aload_n hx hb dX5_autumn_106 rfl (lv_at hl 1 rfl) ?_
        refine fg_5_10 M hP dX5_autumn_107 ?_
        obtain ⟨v30, h28, hF⟩ := bi_some hF
        refine k_v hS (kV_run M hS hP ok_X5_147 (c_X1_passDay l G 25 rfl v27 v30 h28) (rc_1 M hP rfl) rfl hl.1 rfl (Nat.le_of_ble_eq_true rfl) ⟨rfl, rfl⟩ ⟨Nat.le_of_ble_eq_true rfl, Nat.le_of_ble_eq_true rfl⟩ dX5_autumn_110) (fun H locs hP hS => ?_)
        refine lv_iinc (v := (x2 + 1)) (lv' := [(2, .int (x2 + 1)), (3, .int (r17 - r17 / 8 * 8)), (0, .ref (ad G 12)), (1, .int x1)]) hx hb dX5_autumn_113 hl (k := 3) rfl (iinc_eq _ (by decide)) (by decide) rfl (fun ls hl => ?_)
        refine lv_goto (tgt := 39) hx hb dX5_autumn_116 (by decide) ?_
        exact ih x1 (x2 + 1) _ _ _ ls hF hP hS (lv_sub hl [2, 3, 0] rfl)
set_option maxHeartbeats 4000000 in
set_option maxRecDepth 100000 in
theorem c_X5_autumn (l : Launch) (G : GG) (a1 : Int32) (v : VV) (r : Int32) (v' : VV) (hF : F_X5_autumn a1 v = some (r, v')) : Met l yX5_autumn (cdW yX5_autumn cX5_autumn 4 (some .int)) ({ frames := 4, cells := 0, slots := 0, locals := 92 } : Room) (PC G v [.ref (ad G 12), .int a1]) (QI G r v') 0 0 (gA G) := by
  refine met_in RX5 (by decide) rfl (Nat.le_of_ble_eq_true rfl) ?_
  intro p e s m below meth c M hP ls hl
  have hx := M.1.1
  have hb := M.1.2.1
  have hS : va_S (gA G) s.heap s.heap [] := va_S.rf
  have hl : lv_has ls 4 [(0, .ref (ad G 12)), (1, .int a1)] := hl
  unfold F_X5_autumn at hF
  refine lv_iload_n hx hb dX5_autumn_0 rfl (lv_at hl 1 rfl) ?_
  refine lv_iconst (v := 1) hx hb dX5_autumn_1 (by decide) ?_
  refine lv_icmp_lt (tgt := 11) hx hb dX5_autumn_2 (by decide) (fun c1 => ?_) (fun c1 => ?_)
  · replace hF := (if_pos c1).symm.trans hF
    refine lv_aload_n hx hb dX5_autumn_11 rfl (lv_at hl 0 rfl) ?_
    refine lv_iconst (v := 0) hx hb dX5_autumn_12 (by decide) ?_
    obtain ⟨⟨r3, v4⟩, h2, hF⟩ := bi_some hF
    dsimp only at hF
    refine k_i hS (kV_run M hS hP ok_X5_48 (c_X5_finding l G 0 v r3 v4 h2) (rc_5 M hP rfl) rfl hl.1 rfl (Nat.le_of_ble_eq_true rfl) ⟨rfl, rfl⟩ ⟨Nat.le_of_ble_eq_true rfl, Nat.le_of_ble_eq_true rfl⟩ dX5_autumn_13) (fun H locs hP hS => ?_)
    exact ret_i M hS hP (Option.some.inj hF) dX5_autumn_16
  · replace hF := (if_neg c1).symm.trans hF
    refine lv_iload_n hx hb dX5_autumn_5 rfl (lv_at hl 1 rfl) ?_
    refine lv_bipush (v := 20) hx hb dX5_autumn_6 (by decide) ?_
    refine lv_icmp_le (tgt := 17) hx hb dX5_autumn_8 (by decide) (fun c6 => ?_) (fun c6 => ?_)
    · replace hF := (if_pos c6).symm.trans hF
      refine lv_aload_n hx hb dX5_autumn_17 rfl (lv_at hl 0 rfl) ?_
      refine fg_5_10 M hP dX5_autumn_18 ?_
      refine fg_5_107 M hP rfl dX5_autumn_21 ?_
      refine lv_iload_n hx hb dX5_autumn_24 rfl (lv_at hl 1 rfl) ?_
      refine lv_iadd hx hb dX5_autumn_25 ?_
      refine lv_ldc (own := RX5) (v := 99999) hx hb M.1.2.2.2.1 (M.1.2.2.2.2 (Cond.constant RX5 110 99999) w_300) dX5_autumn_26 ?_
      refine lv_icmp_le (tgt := 37) hx hb dX5_autumn_28 (by decide) (fun c7 => ?_) (fun c7 => ?_)
      · replace hF := (if_pos c7).symm.trans hF
        refine lv_iconst (v := 0) hx hb dX5_autumn_37 (by decide) ?_
        refine lv_istore_n (lv' := [(2, .int 0), (0, .ref (ad G 12)), (1, .int a1)]) hx hb dX5_autumn_38 rfl hl (by decide) rfl (fun ls hl => ?_)
        exact l_X5_autumn_39 M _ _ fu a1 0 _ _ _ ls hF hP hS (lv_sub hl [1, 2, 0] rfl)
      · replace hF := (if_neg c7).symm.trans hF
        refine lv_aload_n hx hb dX5_autumn_31 rfl (lv_at hl 0 rfl) ?_
        refine lv_iconst (v := 4) hx hb dX5_autumn_32 (by decide) ?_
        obtain ⟨⟨r32, v33⟩, h31, hF⟩ := bi_some hF
        dsimp only at hF
        refine k_i hS (kV_run M hS hP ok_X5_48 (c_X5_finding l G 4 v r32 v33 h31) (rc_5 M hP rfl) rfl hl.1 rfl (Nat.le_of_ble_eq_true rfl) ⟨rfl, rfl⟩ ⟨Nat.le_of_ble_eq_true rfl, Nat.le_of_ble_eq_true rfl⟩ dX5_autumn_33) (fun H locs hP hS => ?_)
        exact ret_i M hS hP (Option.some.inj hF) dX5_autumn_36
    · replace hF := (if_neg c6).symm.trans hF
      refine lv_aload_n hx hb dX5_autumn_11 rfl (lv_at hl 0 rfl) ?_
      refine lv_iconst (v := 0) hx hb dX5_autumn_12 (by decide) ?_
      obtain ⟨⟨r36, v37⟩, h35, hF⟩ := bi_some hF
      dsimp only at hF
      refine k_i hS (kV_run M hS hP ok_X5_48 (c_X5_finding l G 0 v r36 v37 h35) (rc_5 M hP rfl) rfl hl.1 rfl (Nat.le_of_ble_eq_true rfl) ⟨rfl, rfl⟩ ⟨Nat.le_of_ble_eq_true rfl, Nat.le_of_ble_eq_true rfl⟩ dX5_autumn_13) (fun H locs hP hS => ?_)
      exact ret_i M hS hP (Option.some.inj hF) dX5_autumn_16
def L_X5_greatestShared_2 : Nat → Int32 → Int32 → Int32 → VV → Option Int32
  | 0, _, _, _, _ => none
  | n + 1, x0, x1, x2, v =>
  if x2 ≤ 1 then (some 1) else (gu (gZ x2) ((if (x0 - x0 / x2 * x2) = 0 then (gu (gZ x2) ((if (x1 - x1 / x2 * x2) = 0 then (some x2) else (L_X5_greatestShared_2 n x0 x1 (x2 + (-1)) v)))) else (L_X5_greatestShared_2 n x0 x1 (x2 + (-1)) v))))
def F_X5_greatestShared (a0 : Int32) (a1 : Int32) (v : VV) : Option Int32 :=
  L_X5_greatestShared_2 fu a0 a1 a1 v
set_option maxHeartbeats 4000000 in
set_option maxRecDepth 100000 in
theorem l_X5_greatestShared_2 {p : Program} {l : Launch} {e : Env} {s : State} {m : MethodId} {args : Array Value} {below : List Frame} {meth : Method} {c : Code} {G : GG} (M : Mx G RX5 cX5_greatestShared 3 (some .int) p s m args meth c) (r : Int32) (v : VV) : ∀ (n : Nat) (x0 : Int32) (x1 : Int32) (x2 : Int32) (H : Heap) (locs : List Loc) (ls : Array Slot), L_X5_greatestShared_2 n x0 x1 x2 v = some r → Wd G v H → va_S (gA G) s.heap H locs → lv_has ls 3 [(0, .int x0), (1, .int x1), (2, .int x2)] → W p l e ({ frames := 0, cells := 0, slots := 0, locals := 0 } : Room) s m args below meth c H locs 0 0 (MQ below (QI G r v) args s 0 0 (gA G)) (F0 m 2 ls []) := by
  have hx := M.1.1
  have hb := M.1.2.1
  intro n
  induction n with
  | zero =>
    intro x0 x1 x2 H locs ls hF hP hS hl
    rw [L_X5_greatestShared_2] at hF
    cases hF
  | succ n ih =>
    intro x0 x1 x2 H locs ls hF hP hS hl
    rw [L_X5_greatestShared_2] at hF
    refine lv_iload_n hx hb dX5_greatestShared_2 rfl (lv_at hl 2 rfl) ?_
    refine lv_iconst (v := 1) hx hb dX5_greatestShared_3 (by decide) ?_
    refine lv_icmp_le (tgt := 27) hx hb dX5_greatestShared_4 (by decide) (fun c1 => ?_) (fun c1 => ?_)
    · replace hF := (if_pos c1).symm.trans hF
      refine lv_iconst (v := 1) hx hb dX5_greatestShared_27 (by decide) ?_
      exact ret_i M hS hP (congrArg (fun z => (z, v)) (Option.some.inj hF)) dX5_greatestShared_28
    · replace hF := (if_neg c1).symm.trans hF
      refine lv_iload_n hx hb dX5_greatestShared_7 rfl (lv_at hl 0 rfl) ?_
      refine lv_iload_n hx hb dX5_greatestShared_8 rfl (lv_at hl 2 rfl) ?_
      obtain ⟨g2, hF⟩ := gu_some hF
      refine lv_irem hx hb dX5_greatestShared_9 (gZ_ne g2) ?_
      refine lv_if_ne (tgt := 21) hx hb dX5_greatestShared_10 (by decide) (fun c3 => ?_) (fun c3 => ?_)
      · replace hF := (if_neg c3).symm.trans hF
        refine lv_iinc (v := (x2 + (-1))) (lv' := [(2, .int (x2 + (-1))), (0, .int x0), (1, .int x1)]) hx hb dX5_greatestShared_21 hl (k := 2) rfl (iinc_eq _ (by decide)) (by decide) rfl (fun ls hl => ?_)
        refine lv_goto (tgt := 2) hx hb dX5_greatestShared_24 (by decide) ?_
        exact ih x0 x1 (x2 + (-1)) _ _ ls hF hP hS (lv_sub hl [1, 2, 0] rfl)
      · replace hF := (if_pos c3).symm.trans hF
        refine lv_iload_n hx hb dX5_greatestShared_13 rfl (lv_at hl 1 rfl) ?_
        refine lv_iload_n hx hb dX5_greatestShared_14 rfl (lv_at hl 2 rfl) ?_
        obtain ⟨g4, hF⟩ := gu_some hF
        refine lv_irem hx hb dX5_greatestShared_15 (gZ_ne g4) ?_
        refine lv_if_ne (tgt := 21) hx hb dX5_greatestShared_16 (by decide) (fun c5 => ?_) (fun c5 => ?_)
        · replace hF := (if_neg c5).symm.trans hF
          refine lv_iinc (v := (x2 + (-1))) (lv' := [(2, .int (x2 + (-1))), (0, .int x0), (1, .int x1)]) hx hb dX5_greatestShared_21 hl (k := 2) rfl (iinc_eq _ (by decide)) (by decide) rfl (fun ls hl => ?_)
          refine lv_goto (tgt := 2) hx hb dX5_greatestShared_24 (by decide) ?_
          exact ih x0 x1 (x2 + (-1)) _ _ ls hF hP hS (lv_sub hl [1, 2, 0] rfl)
        · replace hF := (if_pos c5).symm.trans hF
          refine lv_iload_n hx hb dX5_greatestShared_19 rfl (lv_at hl 2 rfl) ?_
          exact ret_i M hS hP (congrArg (fun z => (z, v)) (Option.some.inj hF)) dX5_greatestShared_20
set_option maxHeartbeats 4000000 in
set_option maxRecDepth 100000 in
theorem c_X5_greatestShared (l : Launch) (G : GG) (a0 : Int32) (a1 : Int32) (v : VV) (r : Int32) (hF : F_X5_greatestShared a0 a1 v = some r) : Met l yX5_greatestShared (cdW yX5_greatestShared cX5_greatestShared 3 (some .int)) ({ frames := 0, cells := 0, slots := 0, locals := 0 } : Room) (PC G v [.int a0, .int a1]) (QI G r v) 0 0 (gA G) := by
  refine met_in RX5 (by decide) rfl (Nat.le_of_ble_eq_true rfl) ?_
  intro p e s m below meth c M hP ls hl
  have hx := M.1.1
  have hb := M.1.2.1
  have hS : va_S (gA G) s.heap s.heap [] := va_S.rf
  have hl : lv_has ls 3 [(0, .int a0), (1, .int a1)] := hl
  unfold F_X5_greatestShared at hF
  refine lv_iload_n hx hb dX5_greatestShared_0 rfl (lv_at hl 1 rfl) ?_
  refine lv_istore_n (lv' := [(2, .int a1), (0, .int a0), (1, .int a1)]) hx hb dX5_greatestShared_1 rfl hl (by decide) rfl (fun ls hl => ?_)
  exact l_X5_greatestShared_2 M _ _ fu a0 a1 a1 _ _ ls hF hP hS (lv_sub hl [1, 2, 0] rfl)
def L_X5_power_5 : Nat → Int32 → Int32 → Int64 → Int32 → VV → Option Int64
  | 0, _, _, _, _, _ => none
  | n + 1, x0, x1, x2, x4, v =>
  if x1 ≤ x4 then (some x2) else (L_X5_power_5 n x0 x1 (x2 * ((x0 : Int32).toInt64)) (x4 + 1) v)
def F_X5_power (a0 : Int32) (a1 : Int32) (v : VV) : Option Int64 :=
  L_X5_power_5 fu a0 a1 1 0 v
set_option maxHeartbeats 4000000 in
set_option maxRecDepth 100000 in
theorem l_X5_power_5 {p : Program} {l : Launch} {e : Env} {s : State} {m : MethodId} {args : Array Value} {below : List Frame} {meth : Method} {c : Code} {G : GG} (M : Mx G RX5 cX5_power 5 (some .long) p s m args meth c) (r : Int64) (v : VV) : ∀ (n : Nat) (x0 : Int32) (x1 : Int32) (x2 : Int64) (x4 : Int32) (H : Heap) (locs : List Loc) (ls : Array Slot), L_X5_power_5 n x0 x1 x2 x4 v = some r → Wd G v H → va_S (gA G) s.heap H locs → lv_has ls 5 [(0, .int x0), (1, .int x1), (2, .long x2), (4, .int x4)] → W p l e ({ frames := 0, cells := 0, slots := 0, locals := 0 } : Room) s m args below meth c H locs 0 0 (MQ below (QL G r v) args s 0 0 (gA G)) (F0 m 5 ls []) := by
  have hx := M.1.1
  have hb := M.1.2.1
  intro n
  induction n with
  | zero =>
    intro x0 x1 x2 x4 H locs ls hF hP hS hl
    rw [L_X5_power_5] at hF
    cases hF
  | succ n ih =>
    intro x0 x1 x2 x4 H locs ls hF hP hS hl
    rw [L_X5_power_5] at hF
    refine lv_iload hx hb dX5_power_5 (lv_at hl 3 rfl) ?_
    refine lv_iload_n hx hb dX5_power_7 rfl (lv_at hl 1 rfl) ?_
    refine lv_icmp_ge (tgt := 22) hx hb dX5_power_8 (by decide) (fun c1 => ?_) (fun c1 => ?_)
    · replace hF := (if_pos c1).symm.trans hF
      refine lv_lload_n hx hb dX5_power_22 rfl (lv_at hl 2 rfl) ?_
      exact ret_l M hS hP (congrArg (fun z => (z, v)) (Option.some.inj hF)) dX5_power_23
    · replace hF := (if_neg c1).symm.trans hF
      refine lv_lload_n hx hb dX5_power_11 rfl (lv_at hl 2 rfl) ?_
      refine lv_iload_n hx hb dX5_power_12 rfl (lv_at hl 0 rfl) ?_
      refine lv_i2l hx hb dX5_power_13 rfl ?_
      refine lv_lmul hx hb dX5_power_14 ?_
      refine lv_lstore_n (lv' := [(2, .long (x2 * ((x0 : Int32).toInt64))), (0, .int x0), (1, .int x1), (4, .int x4)]) hx hb dX5_power_15 rfl hl (by decide) rfl (fun ls hl => ?_)
      refine lv_iinc (v := (x4 + 1)) (lv' := [(4, .int (x4 + 1)), (2, .long (x2 * ((x0 : Int32).toInt64))), (0, .int x0), (1, .int x1)]) hx hb dX5_power_16 hl (k := 3) rfl (iinc_eq _ (by decide)) (by decide) rfl (fun ls hl => ?_)
      refine lv_goto (tgt := 5) hx hb dX5_power_19 (by decide) ?_
      exact ih x0 x1 (x2 * ((x0 : Int32).toInt64)) (x4 + 1) _ _ ls hF hP hS (lv_sub hl [2, 3, 1, 0] rfl)
set_option maxHeartbeats 4000000 in
set_option maxRecDepth 100000 in
theorem c_X5_power (l : Launch) (G : GG) (a0 : Int32) (a1 : Int32) (v : VV) (r : Int64) (hF : F_X5_power a0 a1 v = some r) : Met l yX5_power (cdW yX5_power cX5_power 5 (some .long)) ({ frames := 0, cells := 0, slots := 0, locals := 0 } : Room) (PC G v [.int a0, .int a1]) (QL G r v) 0 0 (gA G) := by
  refine met_in RX5 (by decide) rfl (Nat.le_of_ble_eq_true rfl) ?_
  intro p e s m below meth c M hP ls hl
  have hx := M.1.1
  have hb := M.1.2.1
  have hS : va_S (gA G) s.heap s.heap [] := va_S.rf
  have hl : lv_has ls 5 [(0, .int a0), (1, .int a1)] := hl
  unfold F_X5_power at hF
  refine lv_lconst (v := 1) hx hb dX5_power_0 (by decide) ?_
  refine lv_lstore_n (lv' := [(2, .long 1), (0, .int a0), (1, .int a1)]) hx hb dX5_power_1 rfl hl (by decide) rfl (fun ls hl => ?_)
  refine lv_iconst (v := 0) hx hb dX5_power_2 (by decide) ?_
  refine lv_istore (lv' := [(4, .int 0), (2, .long 1), (0, .int a0), (1, .int a1)]) hx hb dX5_power_3 hl (by decide) rfl (fun ls hl => ?_)
  exact l_X5_power_5 M _ _ fu a0 a1 1 0 _ _ ls hF hP hS (lv_sub hl [2, 3, 1, 0] rfl)
