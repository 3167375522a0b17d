theorem ok_X6_299 : okV RX6 299 RX6 yX6_takesWord cX6_takesWord 3 (some .boolean) 1 := okV_of w_1121 w_1123 w_2052 w_8 w_1124 (by decide +kernel)
theorem ok_X6_302 : okV RX6 302 RX6 yX6_number cX6_number 4 (some .int) 2 := okV_of w_1125 w_1127 w_2053 w_8 w_1128 (by decide +kernel)
theorem ok_X6_311 : okV RX6 311 RX6 yX6_addItem cX6_addItem 7 none 5 := okV_of w_1132 w_1134 w_2054 w_8 w_1135 (by decide +kernel)
theorem ok_X6_322 : okV RX6 322 RX6 yX6_readKeeper cX6_readKeeper 5 none 1 := okV_of w_1112 w_1114 w_2050 w_8 w_1115 (by decide +kernel)
theorem ok_X6_327 : okV RX6 327 RX6 yX6_readChild cX6_readChild 3 none 0 := okV_of w_1137 w_1139 w_2055 w_8 w_1140 (by decide +kernel)
theorem ok_X6_332 : okV RX6 332 RX6 yX6_readItem cX6_readItem 3 none 0 := okV_of w_1102 w_1104 w_2048 w_8 w_1105 (by decide +kernel)
theorem ok_X6_335 : okV RX6 335 RX6 yX6_isToldSo cX6_isToldSo 5 none 1 := okV_of w_1144 w_1146 w_2056 w_8 w_1147 (by decide +kernel)
theorem ok_X6_338 : okS RX6 338 yX6_isSpot cX6_isSpot 1 (some .boolean) 1 := okS_of w_1152 w_1153 w_8 w_1154 (by decide +kernel)
theorem ok_X6_341 : okS RX6 341 yX6_isUnder cX6_isUnder 3 (some .boolean) 2 := okS_of w_1159 w_1160 w_8 w_1161 (by decide +kernel)
theorem ok_X6_346 : okS RX6 346 yX6_cutTo cX6_cutTo 2 (some .int) 2 := okS_of w_1175 w_1176 w_8 w_1177 (by decide +kernel)
theorem ok_X6_349 : okS RX6 349 yX6_above cX6_above 1 (some .int) 1 := okS_of w_1162 w_1163 w_8 w_1164 (by decide +kernel)
def F_X6_readKeeper (a1 : Int32) (v : VV) : Option VV :=
  if 8 ≤ (v 0 15) then (Option.bind (F_X6_must 0 v) (fun v4 => Option.bind (F_X6_takesWord 9 v4) (fun (r6, v7) => (if r6 = true then (Option.bind (F_X6_number 0 15 v7) (fun (r82, v83) => Option.bind (F_X6_takesWord 10 v83) (fun (r86, v87) => (if r86 = true then (Option.bind (F_X6_number 0 11 v87) (fun (r122, v123) => Option.bind (F_X6_takesWord 11 v123) (fun (r126, v127) => (if r126 = true then (Option.bind (F_X6_number 0 15 v127) (fun (r142, v143) => Option.bind (F_X6_takesWord 12 v143) (fun (r146, v147) => (if r146 = true then (Option.bind (F_X6_addItem a1 r82 r122 r142 1 v147) (fun v155 => some (pu v155 0 15 ((v155 0 15) + 1)))) else (Option.bind (F_X6_addItem a1 r82 r122 r142 0 v147) (fun v152 => some (pu v152 0 15 ((v152 0 15) + 1)))))))) else (Option.bind (F_X6_takesWord 12 v127) (fun (r131, v132) => (if r131 = true then (Option.bind (F_X6_addItem a1 r82 r122 6 1 v132) (fun v140 => some (pu v140 0 15 ((v140 0 15) + 1)))) else (Option.bind (F_X6_addItem a1 r82 r122 6 0 v132) (fun v137 => some (pu v137 0 15 ((v137 0 15) + 1))))))))))) else (Option.bind (F_X6_takesWord 11 v87) (fun (r91, v92) => (if r91 = true then (Option.bind (F_X6_number 0 15 v92) (fun (r107, v108) => Option.bind (F_X6_takesWord 12 v108) (fun (r111, v112) => (if r111 = true then (Option.bind (F_X6_addItem a1 r82 0 r107 1 v112) (fun v120 => some (pu v120 0 15 ((v120 0 15) + 1)))) else (Option.bind (F_X6_addItem a1 r82 0 r107 0 v112) (fun v117 => some (pu v117 0 15 ((v117 0 15) + 1)))))))) else (Option.bind (F_X6_takesWord 12 v92) (fun (r96, v97) => (if r96 = true then (Option.bind (F_X6_addItem a1 r82 0 6 1 v97) (fun v105 => some (pu v105 0 15 ((v105 0 15) + 1)))) else (Option.bind (F_X6_addItem a1 r82 0 6 0 v97) (fun v102 => some (pu v102 0 15 ((v102 0 15) + 1)))))))))))))) else (Option.bind (F_X6_takesWord 10 v7) (fun (r11, v12) => (if r11 = true then (Option.bind (F_X6_number 0 11 v12) (fun (r47, v48) => Option.bind (F_X6_takesWord 11 v48) (fun (r51, v52) => (if r51 = true then (Option.bind (F_X6_number 0 15 v52) (fun (r67, v68) => Option.bind (F_X6_takesWord 12 v68) (fun (r71, v72) => (if r71 = true then (Option.bind (F_X6_addItem a1 0 r47 r67 1 v72) (fun v80 => some (pu v80 0 15 ((v80 0 15) + 1)))) else (Option.bind (F_X6_addItem a1 0 r47 r67 0 v72) (fun v77 => some (pu v77 0 15 ((v77 0 15) + 1)))))))) else (Option.bind (F_X6_takesWord 12 v52) (fun (r56, v57) => (if r56 = true then (Option.bind (F_X6_addItem a1 0 r47 6 1 v57) (fun v65 => some (pu v65 0 15 ((v65 0 15) + 1)))) else (Option.bind (F_X6_addItem a1 0 r47 6 0 v57) (fun v62 => some (pu v62 0 15 ((v62 0 15) + 1))))))))))) else (Option.bind (F_X6_takesWord 11 v12) (fun (r16, v17) => (if r16 = true then (Option.bind (F_X6_number 0 15 v17) (fun (r32, v33) => Option.bind (F_X6_takesWord 12 v33) (fun (r36, v37) => (if r36 = true then (Option.bind (F_X6_addItem a1 0 0 r32 1 v37) (fun v45 => some (pu v45 0 15 ((v45 0 15) + 1)))) else (Option.bind (F_X6_addItem a1 0 0 r32 0 v37) (fun v42 => some (pu v42 0 15 ((v42 0 15) + 1)))))))) else (Option.bind (F_X6_takesWord 12 v17) (fun (r21, v22) => (if r21 = true then (Option.bind (F_X6_addItem a1 0 0 6 1 v22) (fun v30 => some (pu v30 0 15 ((v30 0 15) + 1)))) else (Option.bind (F_X6_addItem a1 0 0 6 0 v22) (fun v27 => some (pu v27 0 15 ((v27 0 15) + 1))))))))))))))))) else (Option.bind (F_X6_must 1 v) (fun v158 => Option.bind (F_X6_takesWord 9 v158) (fun (r160, v161) => (if r160 = true then (Option.bind (F_X6_number 0 15 v161) (fun (r236, v237) => Option.bind (F_X6_takesWord 10 v237) (fun (r240, v241) => (if r240 = true then (Option.bind (F_X6_number 0 11 v241) (fun (r276, v277) => Option.bind (F_X6_takesWord 11 v277) (fun (r280, v281) => (if r280 = true then (Option.bind (F_X6_number 0 15 v281) (fun (r296, v297) => Option.bind (F_X6_takesWord 12 v297) (fun (r300, v301) => (if r300 = true then (Option.bind (F_X6_addItem a1 r236 r276 r296 1 v301) (fun v309 => some (pu v309 0 15 ((v309 0 15) + 1)))) else (Option.bind (F_X6_addItem a1 r236 r276 r296 0 v301) (fun v306 => some (pu v306 0 15 ((v306 0 15) + 1)))))))) else (Option.bind (F_X6_takesWord 12 v281) (fun (r285, v286) => (if r285 = true then (Option.bind (F_X6_addItem a1 r236 r276 6 1 v286) (fun v294 => some (pu v294 0 15 ((v294 0 15) + 1)))) else (Option.bind (F_X6_addItem a1 r236 r276 6 0 v286) (fun v291 => some (pu v291 0 15 ((v291 0 15) + 1))))))))))) else (Option.bind (F_X6_takesWord 11 v241) (fun (r245, v246) => (if r245 = true then (Option.bind (F_X6_number 0 15 v246) (fun (r261, v262) => Option.bind (F_X6_takesWord 12 v262) (fun (r265, v266) => (if r265 = true then (Option.bind (F_X6_addItem a1 r236 0 r261 1 v266) (fun v274 => some (pu v274 0 15 ((v274 0 15) + 1)))) else (Option.bind (F_X6_addItem a1 r236 0 r261 0 v266) (fun v271 => some (pu v271 0 15 ((v271 0 15) + 1)))))))) else (Option.bind (F_X6_takesWord 12 v246) (fun (r250, v251) => (if r250 = true then (Option.bind (F_X6_addItem a1 r236 0 6 1 v251) (fun v259 => some (pu v259 0 15 ((v259 0 15) + 1)))) else (Option.bind (F_X6_addItem a1 r236 0 6 0 v251) (fun v256 => some (pu v256 0 15 ((v256 0 15) + 1)))))))))))))) else (Option.bind (F_X6_takesWord 10 v161) (fun (r165, v166) => (if r165 = true then (Option.bind (F_X6_number 0 11 v166) (fun (r201, v202) => Option.bind (F_X6_takesWord 11 v202) (fun (r205, v206) => (if r205 = true then (Option.bind (F_X6_number 0 15 v206) (fun (r221, v222) => Option.bind (F_X6_takesWord 12 v222) (fun (r225, v226) => (if r225 = true then (Option.bind (F_X6_addItem a1 0 r201 r221 1 v226) (fun v234 => some (pu v234 0 15 ((v234 0 15) + 1)))) else (Option.bind (F_X6_addItem a1 0 r201 r221 0 v226) (fun v231 => some (pu v231 0 15 ((v231 0 15) + 1)))))))) else (Option.bind (F_X6_takesWord 12 v206) (fun (r210, v211) => (if r210 = true then (Option.bind (F_X6_addItem a1 0 r201 6 1 v211) (fun v219 => some (pu v219 0 15 ((v219 0 15) + 1)))) else (Option.bind (F_X6_addItem a1 0 r201 6 0 v211) (fun v216 => some (pu v216 0 15 ((v216 0 15) + 1))))))))))) else (Option.bind (F_X6_takesWord 11 v166) (fun (r170, v171) => (if r170 = true then (Option.bind (F_X6_number 0 15 v171) (fun (r186, v187) => Option.bind (F_X6_takesWord 12 v187) (fun (r190, v191) => (if r190 = true then (Option.bind (F_X6_addItem a1 0 0 r186 1 v191) (fun v199 => some (pu v199 0 15 ((v199 0 15) + 1)))) else (Option.bind (F_X6_addItem a1 0 0 r186 0 v191) (fun v196 => some (pu v196 0 15 ((v196 0 15) + 1)))))))) else (Option.bind (F_X6_takesWord 12 v171) (fun (r175, v176) => (if r175 = true then (Option.bind (F_X6_addItem a1 0 0 6 1 v176) (fun v184 => some (pu v184 0 15 ((v184 0 15) + 1)))) else (Option.bind (F_X6_addItem a1 0 0 6 0 v176) (fun v181 => some (pu v181 0 15 ((v181 0 15) + 1)))))))))))))))))
set_option maxHeartbeats 4000000 in
set_option maxRecDepth 100000 in
theorem c_X6_readKeeper (l : Launch) (G : GG) (a1 : Int32) (v : VV) (v' : VV) (hF : F_X6_readKeeper a1 v = some v') : Met l yX6_readKeeper (cdW yX6_readKeeper cX6_readKeeper 5 none) ({ frames := 6, cells := 0, slots := 0, locals := 132 } : Room) (PC G v [.ref (ad G 0), .int a1]) (QV G v') 0 0 (gA G) := by
  refine met_in RX6 (by decide) rfl (Nat.le_of_ble_eq_true rfl) ?_
  intro p e s m below meth c M hP ls hl
  have hx := M.1.1
  have hb := M.1.2.1
  have hS : va_S (gA G) s.heap s.heap [] := va_S.rf
  have hl : lv_has ls 5 [(0, .ref (ad G 0)), (1, .int a1)] := hl
  unfold F_X6_readKeeper at hF
  refine lv_aload_n hx hb dX6_readKeeper_0 rfl (lv_at hl 0 rfl) ?_
  refine lv_aload_n hx hb dX6_readKeeper_1 rfl (lv_at hl 0 rfl) ?_
  refine fg_6_294 M hP dX6_readKeeper_2 ?_
  refine lv_bipush (v := 8) hx hb dX6_readKeeper_5 (by decide) ?_
  refine lv_icmp_ge (tgt := 14) hx hb dX6_readKeeper_7 (by decide) (fun c1 => ?_) (fun c1 => ?_)
  · replace hF := (if_pos c1).symm.trans hF
    refine lv_iconst (v := 0) hx hb dX6_readKeeper_14 (by decide) ?_
    obtain ⟨v4, h2, hF⟩ := bi_some hF
    refine k_v hS (kV_run M hS hP ok_X6_283 (c_X6_must l G 0 v v4 h2) (rc_6 M hP rfl) rfl hl.1 rfl (Nat.le_of_ble_eq_true rfl) ⟨rfl, rfl⟩ ⟨Nat.le_of_ble_eq_true rfl, Nat.le_of_ble_eq_true rfl⟩ dX6_readKeeper_15) (fun H locs hP hS => ?_)
    refine lv_aload_n hx hb dX6_readKeeper_18 rfl (lv_at hl 0 rfl) ?_
    refine r_ldcw (own := RX6) (tx := "at") (q := sk G 9) hx hb M.1.2.2.2.1 (sR_24 M.2.2.2) dX6_readKeeper_19 ?_
    obtain ⟨⟨r6, v7⟩, h5, hF⟩ := bi_some hF
    dsimp only at hF
    refine k_i hS (kV_run M hS hP ok_X6_299 (c_X6_takesWord l G 9 (by decide) v4 r6 v7 h5) (rc_6 M hP rfl) rfl hl.1 rfl (Nat.le_of_ble_eq_true rfl) ⟨rfl, rfl⟩ ⟨Nat.le_of_ble_eq_true rfl, Nat.le_of_ble_eq_true rfl⟩ dX6_readKeeper_22) (fun H locs hP hS => ?_)
    refine lv_if_eq (tgt := 38) hx hb dX6_readKeeper_25 (by decide) (fun c9 => ?_) (fun c9 => ?_)
    · replace hF := (if_neg (bI_f c9)).symm.trans hF
      refine lv_iconst (v := 0) hx hb dX6_readKeeper_38 (by decide) ?_
      refine lv_istore_n (lv' := [(2, .int 0), (0, .ref (ad G 0)), (1, .int a1)]) hx hb dX6_readKeeper_39 rfl hl (by decide) rfl (fun ls hl => ?_)
      refine lv_aload_n hx hb dX6_readKeeper_40 rfl (lv_at hl 1 rfl) ?_
      refine r_ldcw (own := RX6) (tx := "note") (q := sk G 10) hx hb M.1.2.2.2.1 (sR_25 M.2.2.2) dX6_readKeeper_41 ?_
      obtain ⟨⟨r11, v12⟩, h10, hF⟩ := bi_some hF
      dsimp only at hF
      refine k_i hS (kV_run M hS hP ok_X6_299 (c_X6_takesWord l G 10 (by decide) v7 r11 v12 h10) (rc_6 M hP rfl) rfl hl.1 rfl (Nat.le_of_ble_eq_true rfl) ⟨rfl, rfl⟩ ⟨Nat.le_of_ble_eq_true rfl, Nat.le_of_ble_eq_true rfl⟩ dX6_readKeeper_44) (fun H locs hP hS => ?_)
      refine lv_if_eq (tgt := 60) hx hb dX6_readKeeper_47 (by decide) (fun c14 => ?_) (fun c14 => ?_)
      · replace hF := (if_neg (bI_f c14)).symm.trans hF
        refine lv_iconst (v := 0) hx hb dX6_readKeeper_60 (by decide) ?_
        refine lv_istore_n (lv' := [(3, .int 0), (2, .int 0), (0, .ref (ad G 0)), (1, .int a1)]) hx hb dX6_readKeeper_61 rfl hl (by decide) rfl (fun ls hl => ?_)
        refine lv_aload_n hx hb dX6_readKeeper_62 rfl (lv_at hl 2 rfl) ?_
        refine r_ldcw (own := RX6) (tx := "loud") (q := sk G 11) hx hb M.1.2.2.2.1 (sR_26 M.2.2.2) dX6_readKeeper_63 ?_
        obtain ⟨⟨r16, v17⟩, h15, hF⟩ := bi_some hF
        dsimp only at hF
        refine k_i hS (kV_run M hS hP ok_X6_299 (c_X6_takesWord l G 11 (by decide) v12 r16 v17 h15) (rc_6 M hP rfl) rfl hl.1 rfl (Nat.le_of_ble_eq_true rfl) ⟨rfl, rfl⟩ ⟨Nat.le_of_ble_eq_true rfl, Nat.le_of_ble_eq_true rfl⟩ dX6_readKeeper_66) (fun H locs hP hS => ?_)
        refine lv_if_eq (tgt := 82) hx hb dX6_readKeeper_69 (by decide) (fun c19 => ?_) (fun c19 => ?_)
        · replace hF := (if_neg (bI_f c19)).symm.trans hF
          refine lv_bipush (v := 6) hx hb dX6_readKeeper_82 (by decide) ?_
          refine lv_istore (lv' := [(4, .int 6), (3, .int 0), (2, .int 0), (0, .ref (ad G 0)), (1, .int a1)]) hx hb dX6_readKeeper_84 hl (by decide) rfl (fun ls hl => ?_)
          refine lv_aload_n hx hb dX6_readKeeper_86 rfl (lv_at hl 3 rfl) ?_
          refine lv_iload_n hx hb dX6_readKeeper_87 rfl (lv_at hl 4 rfl) ?_
          refine lv_iload_n hx hb dX6_readKeeper_88 rfl (lv_at hl 2 rfl) ?_
          refine lv_iload_n hx hb dX6_readKeeper_89 rfl (lv_at hl 1 rfl) ?_
          refine lv_iload hx hb dX6_readKeeper_90 (lv_at hl 0 rfl) ?_
          refine lv_aload_n hx hb dX6_readKeeper_92 rfl (lv_at hl 3 rfl) ?_
          refine r_ldcw (own := RX6) (tx := "silent") (q := sk G 12) hx hb M.1.2.2.2.1 (sR_27 M.2.2.2) dX6_readKeeper_93 ?_
          obtain ⟨⟨r21, v22⟩, h20, hF⟩ := bi_some hF
          dsimp only at hF
          refine k_i hS (kV_run M hS hP ok_X6_299 (c_X6_takesWord l G 12 (by decide) v17 r21 v22 h20) (rc_6 M hP rfl) rfl hl.1 rfl (Nat.le_of_ble_eq_true rfl) ⟨rfl, rfl⟩ ⟨Nat.le_of_ble_eq_true rfl, Nat.le_of_ble_eq_true rfl⟩ dX6_readKeeper_96) (fun H locs hP hS => ?_)
          refine lv_if_eq (tgt := 106) hx hb dX6_readKeeper_99 (by decide) (fun c24 => ?_) (fun c24 => ?_)
          · replace hF := (if_neg (bI_f c24)).symm.trans hF
            refine lv_iconst (v := 0) hx hb dX6_readKeeper_106 (by decide) ?_
            obtain ⟨v27, h25, hF⟩ := bi_some hF
            refine k_v hS (kV_run M hS hP ok_X6_311 (c_X6_addItem l G a1 0 0 6 0 v22 v27 h25) (rc_6 M hP rfl) rfl hl.1 rfl (Nat.le_of_ble_eq_true rfl) ⟨rfl, rfl⟩ ⟨Nat.le_of_ble_eq_true rfl, Nat.le_of_ble_eq_true rfl⟩ dX6_readKeeper_107) (fun H locs hP hS => ?_)
            refine lv_aload_n hx hb dX6_readKeeper_110 rfl (lv_at hl 3 rfl) ?_
            refine lv_dup hx hb dX6_readKeeper_111 rfl ?_
            refine fg_6_294 M hP dX6_readKeeper_112 ?_
            refine lv_iconst (v := 1) hx hb dX6_readKeeper_115 (by decide) ?_
            refine lv_iadd hx hb dX6_readKeeper_116 ?_
            refine fp_6_294 M hS hP dX6_readKeeper_117 (fun H locs hP hS => ?_)
            have hP : Wd G (pu v27 0 15 ((v27 0 15) + 1)) H := hP
            exact ret_v M hS hP (Option.some.inj hF) dX6_readKeeper_120
          · replace hF := (if_pos (bI_t c24)).symm.trans hF
            refine lv_iconst (v := 1) hx hb dX6_readKeeper_102 (by decide) ?_
            refine lv_goto (tgt := 107) hx hb dX6_readKeeper_103 (by decide) ?_
            obtain ⟨v30, h28, hF⟩ := bi_some hF
            refine k_v hS (kV_run M hS hP ok_X6_311 (c_X6_addItem l G a1 0 0 6 1 v22 v30 h28) (rc_6 M hP rfl) rfl hl.1 rfl (Nat.le_of_ble_eq_true rfl) ⟨rfl, rfl⟩ ⟨Nat.le_of_ble_eq_true rfl, Nat.le_of_ble_eq_true rfl⟩ dX6_readKeeper_107) (fun H locs hP hS => ?_)
            refine lv_aload_n hx hb dX6_readKeeper_110 rfl (lv_at hl 3 rfl) ?_
            refine lv_dup hx hb dX6_readKeeper_111 rfl ?_
            refine fg_6_294 M hP dX6_readKeeper_112 ?_
            refine lv_iconst (v := 1) hx hb dX6_readKeeper_115 (by decide) ?_
            refine lv_iadd hx hb dX6_readKeeper_116 ?_
            refine fp_6_294 M hS hP dX6_readKeeper_117 (fun H locs hP hS => ?_)
            have hP : Wd G (pu v30 0 15 ((v30 0 15) + 1)) H := hP
            exact ret_v M hS hP (Option.some.inj hF) dX6_readKeeper_120
        · replace hF := (if_pos (bI_t c19)).symm.trans hF
          refine lv_aload_n hx hb dX6_readKeeper_72 rfl (lv_at hl 2 rfl) ?_
          refine lv_iconst (v := 0) hx hb dX6_readKeeper_73 (by decide) ?_
          refine lv_bipush (v := 15) hx hb dX6_readKeeper_74 (by decide) ?_
          obtain ⟨⟨r32, v33⟩, h31, hF⟩ := bi_some hF
          dsimp only at hF
          refine k_i hS (kV_run M hS hP ok_X6_302 (c_X6_number l G 0 15 v17 r32 v33 h31) (rc_6 M hP rfl) rfl hl.1 rfl (Nat.le_of_ble_eq_true rfl) ⟨rfl, rfl⟩ ⟨Nat.le_of_ble_eq_true rfl, Nat.le_of_ble_eq_true rfl⟩ dX6_readKeeper_76) (fun H locs hP hS => ?_)
          refine lv_goto (tgt := 84) hx hb dX6_readKeeper_79 (by decide) ?_
          refine lv_istore (lv' := [(4, .int r32), (3, .int 0), (2, .int 0), (0, .ref (ad G 0)), (1, .int a1)]) hx hb dX6_readKeeper_84 hl (by decide) rfl (fun ls hl => ?_)
          refine lv_aload_n hx hb dX6_readKeeper_86 rfl (lv_at hl 3 rfl) ?_
          refine lv_iload_n hx hb dX6_readKeeper_87 rfl (lv_at hl 4 rfl) ?_
          refine lv_iload_n hx hb dX6_readKeeper_88 rfl (lv_at hl 2 rfl) ?_
          refine lv_iload_n hx hb dX6_readKeeper_89 rfl (lv_at hl 1 rfl) ?_
          refine lv_iload hx hb dX6_readKeeper_90 (lv_at hl 0 rfl) ?_
          refine lv_aload_n hx hb dX6_readKeeper_92 rfl (lv_at hl 3 rfl) ?_
          refine r_ldcw (own := RX6) (tx := "silent") (q := sk G 12) hx hb M.1.2.2.2.1 (sR_27 M.2.2.2) dX6_readKeeper_93 ?_
          obtain ⟨⟨r36, v37⟩, h35, hF⟩ := bi_some hF
          dsimp only at hF
          refine k_i hS (kV_run M hS hP ok_X6_299 (c_X6_takesWord l G 12 (by decide) v33 r36 v37 h35) (rc_6 M hP rfl) rfl hl.1 rfl (Nat.le_of_ble_eq_true rfl) ⟨rfl, rfl⟩ ⟨Nat.le_of_ble_eq_true rfl, Nat.le_of_ble_eq_true rfl⟩ dX6_readKeeper_96) (fun H locs hP hS => ?_)
          refine lv_if_eq (tgt := 106) hx hb dX6_readKeeper_99 (by decide) (fun c39 => ?_) (fun c39 => ?_)
          · replace hF := (if_neg (bI_f c39)).symm.trans hF
            refine lv_iconst (v := 0) hx hb dX6_readKeeper_106 (by decide) ?_
            obtain ⟨v42, h40, hF⟩ := bi_some hF
            refine k_v hS (kV_run M hS hP ok_X6_311 (c_X6_addItem l G a1 0 0 r32 0 v37 v42 h40) (rc_6 M hP rfl) rfl hl.1 rfl (Nat.le_of_ble_eq_true rfl) ⟨rfl, rfl⟩ ⟨Nat.le_of_ble_eq_true rfl, Nat.le_of_ble_eq_true rfl⟩ dX6_readKeeper_107) (fun H locs hP hS => ?_)
            refine lv_aload_n hx hb dX6_readKeeper_110 rfl (lv_at hl 3 rfl) ?_
            refine lv_dup hx hb dX6_readKeeper_111 rfl ?_
            refine fg_6_294 M hP dX6_readKeeper_112 ?_
            refine lv_iconst (v := 1) hx hb dX6_readKeeper_115 (by decide) ?_
            refine lv_iadd hx hb dX6_readKeeper_116 ?_
            refine fp_6_294 M hS hP dX6_readKeeper_117 (fun H locs hP hS => ?_)
            have hP : Wd G (pu v42 0 15 ((v42 0 15) + 1)) H := hP
            exact ret_v M hS hP (Option.some.inj hF) dX6_readKeeper_120
          · replace hF := (if_pos (bI_t c39)).symm.trans hF
            refine lv_iconst (v := 1) hx hb dX6_readKeeper_102 (by decide) ?_
            refine lv_goto (tgt := 107) hx hb dX6_readKeeper_103 (by decide) ?_
            obtain ⟨v45, h43, hF⟩ := bi_some hF
            refine k_v hS (kV_run M hS hP ok_X6_311 (c_X6_addItem l G a1 0 0 r32 1 v37 v45 h43) (rc_6 M hP rfl) rfl hl.1 rfl (Nat.le_of_ble_eq_true rfl) ⟨rfl, rfl⟩ ⟨Nat.le_of_ble_eq_true rfl, Nat.le_of_ble_eq_true rfl⟩ dX6_readKeeper_107) (fun H locs hP hS => ?_)
            refine lv_aload_n hx hb dX6_readKeeper_110 rfl (lv_at hl 3 rfl) ?_
            refine lv_dup hx hb dX6_readKeeper_111 rfl ?_
            refine fg_6_294 M hP dX6_readKeeper_112 ?_
            refine lv_iconst (v := 1) hx hb dX6_readKeeper_115 (by decide) ?_
            refine lv_iadd hx hb dX6_readKeeper_116 ?_
            refine fp_6_294 M hS hP dX6_readKeeper_117 (fun H locs hP hS => ?_)
            have hP : Wd G (pu v45 0 15 ((v45 0 15) + 1)) H := hP
            exact ret_v M hS hP (Option.some.inj hF) dX6_readKeeper_120
      · replace hF := (if_pos (bI_t c14)).symm.trans hF
        refine lv_aload_n hx hb dX6_readKeeper_50 rfl (lv_at hl 1 rfl) ?_
        refine lv_iconst (v := 0) hx hb dX6_readKeeper_51 (by decide) ?_
        refine lv_bipush (v := 11) hx hb dX6_readKeeper_52 (by decide) ?_
        obtain ⟨⟨r47, v48⟩, h46, hF⟩ := bi_some hF
        dsimp only at hF
        refine k_i hS (kV_run M hS hP ok_X6_302 (c_X6_number l G 0 11 v12 r47 v48 h46) (rc_6 M hP rfl) rfl hl.1 rfl (Nat.le_of_ble_eq_true rfl) ⟨rfl, rfl⟩ ⟨Nat.le_of_ble_eq_true rfl, Nat.le_of_ble_eq_true rfl⟩ dX6_readKeeper_54) (fun H locs hP hS => ?_)
        refine lv_goto (tgt := 61) hx hb dX6_readKeeper_57 (by decide) ?_
        refine lv_istore_n (lv' := [(3, .int r47), (2, .int 0), (0, .ref (ad G 0)), (1, .int a1)]) hx hb dX6_readKeeper_61 rfl hl (by decide) rfl (fun ls hl => ?_)
        refine lv_aload_n hx hb dX6_readKeeper_62 rfl (lv_at hl 2 rfl) ?_
        refine r_ldcw (own := RX6) (tx := "loud") (q := sk G 11) hx hb M.1.2.2.2.1 (sR_26 M.2.2.2) dX6_readKeeper_63 ?_
        obtain ⟨⟨r51, v52⟩, h50, hF⟩ := bi_some hF
        dsimp only at hF
        refine k_i hS (kV_run M hS hP ok_X6_299 (c_X6_takesWord l G 11 (by decide) v48 r51 v52 h50) (rc_6 M hP rfl) rfl hl.1 rfl (Nat.le_of_ble_eq_true rfl) ⟨rfl, rfl⟩ ⟨Nat.le_of_ble_eq_true rfl, Nat.le_of_ble_eq_true rfl⟩ dX6_readKeeper_66) (fun H locs hP hS => ?_)
        refine lv_if_eq (tgt := 82) hx hb dX6_readKeeper_69 (by decide) (fun c54 => ?_) (fun c54 => ?_)
        · replace hF := (if_neg (bI_f c54)).symm.trans hF
          refine lv_bipush (v := 6) hx hb dX6_readKeeper_82 (by decide) ?_
          refine lv_istore (lv' := [(4, .int 6), (3, .int r47), (2, .int 0), (0, .ref (ad G 0)), (1, .int a1)]) hx hb dX6_readKeeper_84 hl (by decide) rfl (fun ls hl => ?_)
          refine lv_aload_n hx hb dX6_readKeeper_86 rfl (lv_at hl 3 rfl) ?_
          refine lv_iload_n hx hb dX6_readKeeper_87 rfl (lv_at hl 4 rfl) ?_
          refine lv_iload_n hx hb dX6_readKeeper_88 rfl (lv_at hl 2 rfl) ?_
          refine lv_iload_n hx hb dX6_readKeeper_89 rfl (lv_at hl 1 rfl) ?_
          refine lv_iload hx hb dX6_readKeeper_90 (lv_at hl 0 rfl) ?_
          refine lv_aload_n hx hb dX6_readKeeper_92 rfl (lv_at hl 3 rfl) ?_
          refine r_ldcw (own := RX6) (tx := "silent") (q := sk G 12) hx hb M.1.2.2.2.1 (sR_27 M.2.2.2) dX6_readKeeper_93 ?_
          obtain ⟨⟨r56, v57⟩, h55, hF⟩ := bi_some hF
          dsimp only at hF
          refine k_i hS (kV_run M hS hP ok_X6_299 (c_X6_takesWord l G 12 (by decide) v52 r56 v57 h55) (rc_6 M hP rfl) rfl hl.1 rfl (Nat.le_of_ble_eq_true rfl) ⟨rfl, rfl⟩ ⟨Nat.le_of_ble_eq_true rfl, Nat.le_of_ble_eq_true rfl⟩ dX6_readKeeper_96) (fun H locs hP hS => ?_)
          refine lv_if_eq (tgt := 106) hx hb dX6_readKeeper_99 (by decide) (fun c59 => ?_) (fun c59 => ?_)
          · replace hF := (if_neg (bI_f c59)).symm.trans hF
            refine lv_iconst (v := 0) hx hb dX6_readKeeper_106 (by decide) ?_
            obtain ⟨v62, h60, hF⟩ := bi_some hF
            refine k_v hS (kV_run M hS hP ok_X6_311 (c_X6_addItem l G a1 0 r47 6 0 v57 v62 h60) (rc_6 M hP rfl) rfl hl.1 rfl (Nat.le_of_ble_eq_true rfl) ⟨rfl, rfl⟩ ⟨Nat.le_of_ble_eq_true rfl, Nat.le_of_ble_eq_true rfl⟩ dX6_readKeeper_107) (fun H locs hP hS => ?_)
            refine lv_aload_n hx hb dX6_readKeeper_110 rfl (lv_at hl 3 rfl) ?_
            refine lv_dup hx hb dX6_readKeeper_111 rfl ?_
            refine fg_6_294 M hP dX6_readKeeper_112 ?_
            refine lv_iconst (v := 1) hx hb dX6_readKeeper_115 (by decide) ?_
            refine lv_iadd hx hb dX6_readKeeper_116 ?_
            refine fp_6_294 M hS hP dX6_readKeeper_117 (fun H locs hP hS => ?_)
            have hP : Wd G (pu v62 0 15 ((v62 0 15) + 1)) H := hP
            exact ret_v M hS hP (Option.some.inj hF) dX6_readKeeper_120
          · replace hF := (if_pos (bI_t c59)).symm.trans hF
            refine lv_iconst (v := 1) hx hb dX6_readKeeper_102 (by decide) ?_
            refine lv_goto (tgt := 107) hx hb dX6_readKeeper_103 (by decide) ?_
            obtain ⟨v65, h63, hF⟩ := bi_some hF
            refine k_v hS (kV_run M hS hP ok_X6_311 (c_X6_addItem l G a1 0 r47 6 1 v57 v65 h63) (rc_6 M hP rfl) rfl hl.1 rfl (Nat.le_of_ble_eq_true rfl) ⟨rfl, rfl⟩ ⟨Nat.le_of_ble_eq_true rfl, Nat.le_of_ble_eq_true rfl⟩ dX6_readKeeper_107) (fun H locs hP hS => ?_)
            refine lv_aload_n hx hb dX6_readKeeper_110 rfl (lv_at hl 3 rfl) ?_
            refine lv_dup hx hb dX6_readKeeper_111 rfl ?_
            refine fg_6_294 M hP dX6_readKeeper_112 ?_
            refine lv_iconst (v := 1) hx hb dX6_readKeeper_115 (by decide) ?_
            refine lv_iadd hx hb dX6_readKeeper_116 ?_
            refine fp_6_294 M hS hP dX6_readKeeper_117 (fun H locs hP hS => ?_)
            have hP : Wd G (pu v65 0 15 ((v65 0 15) + 1)) H := hP
            exact ret_v M hS hP (Option.some.inj hF) dX6_readKeeper_120
        · replace hF := (if_pos (bI_t c54)).symm.trans hF
          refine lv_aload_n hx hb dX6_readKeeper_72 rfl (lv_at hl 2 rfl) ?_
          refine lv_iconst (v := 0) hx hb dX6_readKeeper_73 (by decide) ?_
          refine lv_bipush (v := 15) hx hb dX6_readKeeper_74 (by decide) ?_
          obtain ⟨⟨r67, v68⟩, h66, hF⟩ := bi_some hF
          dsimp only at hF
          refine k_i hS (kV_run M hS hP ok_X6_302 (c_X6_number l G 0 15 v52 r67 v68 h66) (rc_6 M hP rfl) rfl hl.1 rfl (Nat.le_of_ble_eq_true rfl) ⟨rfl, rfl⟩ ⟨Nat.le_of_ble_eq_true rfl, Nat.le_of_ble_eq_true rfl⟩ dX6_readKeeper_76) (fun H locs hP hS => ?_)
          refine lv_goto (tgt := 84) hx hb dX6_readKeeper_79 (by decide) ?_
          refine lv_istore (lv' := [(4, .int r67), (3, .int r47), (2, .int 0), (0, .ref (ad G 0)), (1, .int a1)]) hx hb dX6_readKeeper_84 hl (by decide) rfl (fun ls hl => ?_)
          refine lv_aload_n hx hb dX6_readKeeper_86 rfl (lv_at hl 3 rfl) ?_
          refine lv_iload_n hx hb dX6_readKeeper_87 rfl (lv_at hl 4 rfl) ?_
          refine lv_iload_n hx hb dX6_readKeeper_88 rfl (lv_at hl 2 rfl) ?_
          refine lv_iload_n hx hb dX6_readKeeper_89 rfl (lv_at hl 1 rfl) ?_
          refine lv_iload hx hb dX6_readKeeper_90 (lv_at hl 0 rfl) ?_
          refine lv_aload_n hx hb dX6_readKeeper_92 rfl (lv_at hl 3 rfl) ?_
          refine r_ldcw (own := RX6) (tx := "silent") (q := sk G 12) hx hb M.1.2.2.2.1 (sR_27 M.2.2.2) dX6_readKeeper_93 ?_
          obtain ⟨⟨r71, v72⟩, h70, hF⟩ := bi_some hF
          dsimp only at hF
          refine k_i hS (kV_run M hS hP ok_X6_299 (c_X6_takesWord l G 12 (by decide) v68 r71 v72 h70) (rc_6 M hP rfl) rfl hl.1 rfl (Nat.le_of_ble_eq_true rfl) ⟨rfl, rfl⟩ ⟨Nat.le_of_ble_eq_true rfl, Nat.le_of_ble_eq_true rfl⟩ dX6_readKeeper_96) (fun H locs hP hS => ?_)
          refine lv_if_eq (tgt := 106) hx hb dX6_readKeeper_99 (by decide) (fun c74 => ?_) (fun c74 => ?_)
          · replace hF := (if_neg (bI_f c74)).symm.trans hF
            refine lv_iconst (v := 0) hx hb dX6_readKeeper_106 (by decide) ?_
            obtain ⟨v77, h75, hF⟩ := bi_some hF
            refine k_v hS (kV_run M hS hP ok_X6_311 (c_X6_addItem l G a1 0 r47 r67 0 v72 v77 h75) (rc_6 M hP rfl) rfl hl.1 rfl (Nat.le_of_ble_eq_true rfl) ⟨rfl, rfl⟩ ⟨Nat.le_of_ble_eq_true rfl, Nat.le_of_ble_eq_true rfl⟩ dX6_readKeeper_107) (fun H locs hP hS => ?_)
            refine lv_aload_n hx hb dX6_readKeeper_110 rfl (lv_at hl 3 rfl) ?_
            refine lv_dup hx hb dX6_readKeeper_111 rfl ?_
            refine fg_6_294 M hP dX6_readKeeper_112 ?_
            refine lv_iconst (v := 1) hx hb dX6_readKeeper_115 (by decide) ?_
            refine lv_iadd hx hb dX6_readKeeper_116 ?_
            refine fp_6_294 M hS hP dX6_readKeeper_117 (fun H locs hP hS => ?_)
            have hP : Wd G (pu v77 0 15 ((v77 0 15) + 1)) H := hP
            exact ret_v M hS hP (Option.some.inj hF) dX6_readKeeper_120
          · replace hF := (if_pos (bI_t c74)).symm.trans hF
            refine lv_iconst (v := 1) hx hb dX6_readKeeper_102 (by decide) ?_
            refine lv_goto (tgt := 107) hx hb dX6_readKeeper_103 (by decide) ?_
            obtain ⟨v80, h78, hF⟩ := bi_some hF
            refine k_v hS (kV_run M hS hP ok_X6_311 (c_X6_addItem l G a1 0 r47 r67 1 v72 v80 h78) (rc_6 M hP rfl) rfl hl.1 rfl (Nat.le_of_ble_eq_true rfl) ⟨rfl, rfl⟩ ⟨Nat.le_of_ble_eq_true rfl, Nat.le_of_ble_eq_true rfl⟩ dX6_readKeeper_107) (fun H locs hP hS => ?_)
            refine lv_aload_n hx hb dX6_readKeeper_110 rfl (lv_at hl 3 rfl) ?_
            refine lv_dup hx hb dX6_readKeeper_111 rfl ?_
            refine fg_6_294 M hP dX6_readKeeper_112 ?_
            refine lv_iconst (v := 1) hx hb dX6_readKeeper_115 (by decide) ?_
            refine lv_iadd hx hb dX6_readKeeper_116 ?_
            refine fp_6_294 M hS hP dX6_readKeeper_117 (fun H locs hP hS => ?_)
            have hP : Wd G (pu v80 0 15 ((v80 0 15) + 1)) H := hP
            exact ret_v M hS hP (Option.some.inj hF) dX6_readKeeper_120
    · replace hF := (if_pos (bI_t c9)).symm.trans hF
      refine lv_aload_n hx hb dX6_readKeeper_28 rfl (lv_at hl 0 rfl) ?_
      refine lv_iconst (v := 0) hx hb dX6_readKeeper_29 (by decide) ?_
      refine lv_bipush (v := 15) hx hb dX6_readKeeper_30 (by decide) ?_
      obtain ⟨⟨r82, v83⟩, h81, hF⟩ := bi_some hF
      dsimp only at hF
      refine k_i hS (kV_run M hS hP ok_X6_302 (c_X6_number l G 0 15 v7 r82 v83 h81) (rc_6 M hP rfl) rfl hl.1 rfl (Nat.le_of_ble_eq_true rfl) ⟨rfl, rfl⟩ ⟨Nat.le_of_ble_eq_true rfl, Nat.le_of_ble_eq_true rfl⟩ dX6_readKeeper_32) (fun H locs hP hS => ?_)
      refine lv_goto (tgt := 39) hx hb dX6_readKeeper_35 (by decide) ?_
      refine lv_istore_n (lv' := [(2, .int r82), (0, .ref (ad G 0)), (1, .int a1)]) hx hb dX6_readKeeper_39 rfl hl (by decide) rfl (fun ls hl => ?_)
      refine lv_aload_n hx hb dX6_readKeeper_40 rfl (lv_at hl 1 rfl) ?_
      refine r_ldcw (own := RX6) (tx := "note") (q := sk G 10) hx hb M.1.2.2.2.1 (sR_25 M.2.2.2) dX6_readKeeper_41 ?_
      obtain ⟨⟨r86, v87⟩, h85, hF⟩ := bi_some hF
      dsimp only at hF
      refine k_i hS (kV_run M hS hP ok_X6_299 (c_X6_takesWord l G 10 (by decide) v83 r86 v87 h85) (rc_6 M hP rfl) rfl hl.1 rfl (Nat.le_of_ble_eq_true rfl) ⟨rfl, rfl⟩ ⟨Nat.le_of_ble_eq_true rfl, Nat.le_of_ble_eq_true rfl⟩ dX6_readKeeper_44) (fun H locs hP hS => ?_)
      refine lv_if_eq (tgt := 60) hx hb dX6_readKeeper_47 (by decide) (fun c89 => ?_) (fun c89 => ?_)
      · replace hF := (if_neg (bI_f c89)).symm.trans hF
        refine lv_iconst (v := 0) hx hb dX6_readKeeper_60 (by decide) ?_
        refine lv_istore_n (lv' := [(3, .int 0), (2, .int r82), (0, .ref (ad G 0)), (1, .int a1)]) hx hb dX6_readKeeper_61 rfl hl (by decide) rfl (fun ls hl => ?_)
        refine lv_aload_n hx hb dX6_readKeeper_62 rfl (lv_at hl 2 rfl) ?_
        refine r_ldcw (own := RX6) (tx := "loud") (q := sk G 11) hx hb M.1.2.2.2.1 (sR_26 M.2.2.2) dX6_readKeeper_63 ?_
        obtain ⟨⟨r91, v92⟩, h90, hF⟩ := bi_some hF
        dsimp only at hF
        refine k_i hS (kV_run M hS hP ok_X6_299 (c_X6_takesWord l G 11 (by decide) v87 r91 v92 h90) (rc_6 M hP rfl) rfl hl.1 rfl (Nat.le_of_ble_eq_true rfl) ⟨rfl, rfl⟩ ⟨Nat.le_of_ble_eq_true rfl, Nat.le_of_ble_eq_true rfl⟩ dX6_readKeeper_66) (fun H locs hP hS => ?_)
        refine lv_if_eq (tgt := 82) hx hb dX6_readKeeper_69 (by decide) (fun c94 => ?_) (fun c94 => ?_)
        · replace hF := (if_neg (bI_f c94)).symm.trans hF
          refine lv_bipush (v := 6) hx hb dX6_readKeeper_82 (by decide) ?_
          refine lv_istore (lv' := [(4, .int 6), (3, .int 0), (2, .int r82), (0, .ref (ad G 0)), (1, .int a1)]) hx hb dX6_readKeeper_84 hl (by decide) rfl (fun ls hl => ?_)
          refine lv_aload_n hx hb dX6_readKeeper_86 rfl (lv_at hl 3 rfl) ?_
          refine lv_iload_n hx hb dX6_readKeeper_87 rfl (lv_at hl 4 rfl) ?_
          refine lv_iload_n hx hb dX6_readKeeper_88 rfl (lv_at hl 2 rfl) ?_
          refine lv_iload_n hx hb dX6_readKeeper_89 rfl (lv_at hl 1 rfl) ?_
          refine lv_iload hx hb dX6_readKeeper_90 (lv_at hl 0 rfl) ?_
          refine lv_aload_n hx hb dX6_readKeeper_92 rfl (lv_at hl 3 rfl) ?_
          refine r_ldcw (own := RX6) (tx := "silent") (q := sk G 12) hx hb M.1.2.2.2.1 (sR_27 M.2.2.2) dX6_readKeeper_93 ?_
          obtain ⟨⟨r96, v97⟩, h95, hF⟩ := bi_some hF
          dsimp only at hF
          refine k_i hS (kV_run M hS hP ok_X6_299 (c_X6_takesWord l G 12 (by decide) v92 r96 v97 h95) (rc_6 M hP rfl) rfl hl.1 rfl (Nat.le_of_ble_eq_true rfl) ⟨rfl, rfl⟩ ⟨Nat.le_of_ble_eq_true rfl, Nat.le_of_ble_eq_true rfl⟩ dX6_readKeeper_96) (fun H locs hP hS => ?_)
          refine lv_if_eq (tgt := 106) hx hb dX6_readKeeper_99 (by decide) (fun c99 => ?_) (fun c99 => ?_)
          · replace hF := (if_neg (bI_f c99)).symm.trans hF
            refine lv_iconst (v := 0) hx hb dX6_readKeeper_106 (by decide) ?_
            obtain ⟨v102, h100, hF⟩ := bi_some hF
            refine k_v hS (kV_run M hS hP ok_X6_311 (c_X6_addItem l G a1 r82 0 6 0 v97 v102 h100) (rc_6 M hP rfl) rfl hl.1 rfl (Nat.le_of_ble_eq_true rfl) ⟨rfl, rfl⟩ ⟨Nat.le_of_ble_eq_true rfl, Nat.le_of_ble_eq_true rfl⟩ dX6_readKeeper_107) (fun H locs hP hS => ?_)
            refine lv_aload_n hx hb dX6_readKeeper_110 rfl (lv_at hl 3 rfl) ?_
            refine lv_dup hx hb dX6_readKeeper_111 rfl ?_
            refine fg_6_294 M hP dX6_readKeeper_112 ?_
            refine lv_iconst (v := 1) hx hb dX6_readKeeper_115 (by decide) ?_
            refine lv_iadd hx hb dX6_readKeeper_116 ?_
            refine fp_6_294 M hS hP dX6_readKeeper_117 (fun H locs hP hS => ?_)
            have hP : Wd G (pu v102 0 15 ((v102 0 15) + 1)) H := hP
            exact ret_v M hS hP (Option.some.inj hF) dX6_readKeeper_120
          · replace hF := (if_pos (bI_t c99)).symm.trans hF
            refine lv_iconst (v := 1) hx hb dX6_readKeeper_102 (by decide) ?_
            refine lv_goto (tgt := 107) hx hb dX6_readKeeper_103 (by decide) ?_
            obtain ⟨v105, h103, hF⟩ := bi_some hF
            refine k_v hS (kV_run M hS hP ok_X6_311 (c_X6_addItem l G a1 r82 0 6 1 v97 v105 h103) (rc_6 M hP rfl) rfl hl.1 rfl (Nat.le_of_ble_eq_true rfl) ⟨rfl, rfl⟩ ⟨Nat.le_of_ble_eq_true rfl, Nat.le_of_ble_eq_true rfl⟩ dX6_readKeeper_107) (fun H locs hP hS => ?_)
            refine lv_aload_n hx hb dX6_readKeeper_110 rfl (lv_at hl 3 rfl) ?_
            refine lv_dup hx hb dX6_readKeeper_111 rfl ?_
            refine fg_6_294 M hP dX6_readKeeper_112 ?_
            refine lv_iconst (v := 1) hx hb dX6_readKeeper_115 (by decide) ?_
            refine lv_iadd hx hb dX6_readKeeper_116 ?_
            refine fp_6_294 M hS hP dX6_readKeeper_117 (fun H locs hP hS => ?_)
            have hP : Wd G (pu v105 0 15 ((v105 0 15) + 1)) H := hP
            exact ret_v M hS hP (Option.some.inj hF) dX6_readKeeper_120
        · replace hF := (if_pos (bI_t c94)).symm.trans hF
          refine lv_aload_n hx hb dX6_readKeeper_72 rfl (lv_at hl 2 rfl) ?_
          refine lv_iconst (v := 0) hx hb dX6_readKeeper_73 (by decide) ?_
          refine lv_bipush (v := 15) hx hb dX6_readKeeper_74 (by decide) ?_
          obtain ⟨⟨r107, v108⟩, h106, hF⟩ := bi_some hF
          dsimp only at hF
          refine k_i hS (kV_run M hS hP ok_X6_302 (c_X6_number l G 0 15 v92 r107 v108 h106) (rc_6 M hP rfl) rfl hl.1 rfl (Nat.le_of_ble_eq_true rfl) ⟨rfl, rfl⟩ ⟨Nat.le_of_ble_eq_true rfl, Nat.le_of_ble_eq_true rfl⟩ dX6_readKeeper_76) (fun H locs hP hS => ?_)
          refine lv_goto (tgt := 84) hx hb dX6_readKeeper_79 (by decide) ?_
          refine lv_istore (lv' := [(4, .int r107), (3, .int 0), (2, .int r82), (0, .ref (ad G 0)), (1, .int a1)]) hx hb dX6_readKeeper_84 hl (by decide) rfl (fun ls hl => ?_)
          refine lv_aload_n hx hb dX6_readKeeper_86 rfl (lv_at hl 3 rfl) ?_
          refine lv_iload_n hx hb dX6_readKeeper_87 rfl (lv_at hl 4 rfl) ?_
          refine lv_iload_n hx hb dX6_readKeeper_88 rfl (lv_at hl 2 rfl) ?_
          refine lv_iload_n hx hb dX6_readKeeper_89 rfl (lv_at hl 1 rfl) ?_
          refine lv_iload hx hb dX6_readKeeper_90 (lv_at hl 0 rfl) ?_
          refine lv_aload_n hx hb dX6_readKeeper_92 rfl (lv_at hl 3 rfl) ?_
          refine r_ldcw (own := RX6) (tx := "silent") (q := sk G 12) hx hb M.1.2.2.2.1 (sR_27 M.2.2.2) dX6_readKeeper_93 ?_
          obtain ⟨⟨r111, v112⟩, h110, hF⟩ := bi_some hF
          dsimp only at hF
          refine k_i hS (kV_run M hS hP ok_X6_299 (c_X6_takesWord l G 12 (by decide) v108 r111 v112 h110) (rc_6 M hP rfl) rfl hl.1 rfl (Nat.le_of_ble_eq_true rfl) ⟨rfl, rfl⟩ ⟨Nat.le_of_ble_eq_true rfl, Nat.le_of_ble_eq_true rfl⟩ dX6_readKeeper_96) (fun H locs hP hS => ?_)
          refine lv_if_eq (tgt := 106) hx hb dX6_readKeeper_99 (by decide) (fun c114 => ?_) (fun c114 => ?_)
          · replace hF := (if_neg (bI_f c114)).symm.trans hF
            refine lv_iconst (v := 0) hx hb dX6_readKeeper_106 (by decide) ?_
            obtain ⟨v117, h115, hF⟩ := bi_some hF
            refine k_v hS (kV_run M hS hP ok_X6_311 (c_X6_addItem l G a1 r82 0 r107 0 v112 v117 h115) (rc_6 M hP rfl) rfl hl.1 rfl (Nat.le_of_ble_eq_true rfl) ⟨rfl, rfl⟩ ⟨Nat.le_of_ble_eq_true rfl, Nat.le_of_ble_eq_true rfl⟩ dX6_readKeeper_107) (fun H locs hP hS => ?_)
            refine lv_aload_n hx hb dX6_readKeeper_110 rfl (lv_at hl 3 rfl) ?_
            refine lv_dup hx hb dX6_readKeeper_111 rfl ?_
            refine fg_6_294 M hP dX6_readKeeper_112 ?_
            refine lv_iconst (v := 1) hx hb dX6_readKeeper_115 (by decide) ?_
            refine lv_iadd hx hb dX6_readKeeper_116 ?_
            refine fp_6_294 M hS hP dX6_readKeeper_117 (fun H locs hP hS => ?_)
            have hP : Wd G (pu v117 0 15 ((v117 0 15) + 1)) H := hP
            exact ret_v M hS hP (Option.some.inj hF) dX6_readKeeper_120
          · replace hF := (if_pos (bI_t c114)).symm.trans hF
            refine lv_iconst (v := 1) hx hb dX6_readKeeper_102 (by decide) ?_
            refine lv_goto (tgt := 107) hx hb dX6_readKeeper_103 (by decide) ?_
            obtain ⟨v120, h118, hF⟩ := bi_some hF
            refine k_v hS (kV_run M hS hP ok_X6_311 (c_X6_addItem l G a1 r82 0 r107 1 v112 v120 h118) (rc_6 M hP rfl) rfl hl.1 rfl (Nat.le_of_ble_eq_true rfl) ⟨rfl, rfl⟩ ⟨Nat.le_of_ble_eq_true rfl, Nat.le_of_ble_eq_true rfl⟩ dX6_readKeeper_107) (fun H locs hP hS => ?_)
            refine lv_aload_n hx hb dX6_readKeeper_110 rfl (lv_at hl 3 rfl) ?_
            refine lv_dup hx hb dX6_readKeeper_111 rfl ?_
            refine fg_6_294 M hP dX6_readKeeper_112 ?_
            refine lv_iconst (v := 1) hx hb dX6_readKeeper_115 (by decide) ?_
            refine lv_iadd hx hb dX6_readKeeper_116 ?_
            refine fp_6_294 M hS hP dX6_readKeeper_117 (fun H locs hP hS => ?_)
            have hP : Wd G (pu v120 0 15 ((v120 0 15) + 1)) H := hP
            exact ret_v M hS hP (Option.some.inj hF) dX6_readKeeper_120
      · replace hF := (if_pos (bI_t c89)).symm.trans hF
        refine lv_aload_n hx hb dX6_readKeeper_50 rfl (lv_at hl 1 rfl) ?_
        refine lv_iconst (v := 0) hx hb dX6_readKeeper_51 (by decide) ?_
        refine lv_bipush (v := 11) hx hb dX6_readKeeper_52 (by decide) ?_
        obtain ⟨⟨r122, v123⟩, h121, hF⟩ := bi_some hF
        dsimp only at hF
        refine k_i hS (kV_run M hS hP ok_X6_302 (c_X6_number l G 0 11 v87 r122 v123 h121) (rc_6 M hP rfl) rfl hl.1 rfl (Nat.le_of_ble_eq_true rfl) ⟨rfl, rfl⟩ ⟨Nat.le_of_ble_eq_true rfl, Nat.le_of_ble_eq_true rfl⟩ dX6_readKeeper_54) (fun H locs hP hS => ?_)
        refine lv_goto (tgt := 61) hx hb dX6_readKeeper_57 (by decide) ?_
        refine lv_istore_n (lv' := [(3, .int r122), (2, .int r82), (0, .ref (ad G 0)), (1, .int a1)]) hx hb dX6_readKeeper_61 rfl hl (by decide) rfl (fun ls hl => ?_)
        refine lv_aload_n hx hb dX6_readKeeper_62 rfl (lv_at hl 2 rfl) ?_
        refine r_ldcw (own := RX6) (tx := "loud") (q := sk G 11) hx hb M.1.2.2.2.1 (sR_26 M.2.2.2) dX6_readKeeper_63 ?_
        obtain ⟨⟨r126, v127⟩, h125, hF⟩ := bi_some hF
        dsimp only at hF
        refine k_i hS (kV_run M hS hP ok_X6_299 (c_X6_takesWord l G 11 (by decide) v123 r126 v127 h125) (rc_6 M hP rfl) rfl hl.1 rfl (Nat.le_of_ble_eq_true rfl) ⟨rfl, rfl⟩ ⟨Nat.le_of_ble_eq_true rfl, Nat.le_of_ble_eq_true rfl⟩ dX6_readKeeper_66) (fun H locs hP hS => ?_)
        refine lv_if_eq (tgt := 82) hx hb dX6_readKeeper_69 (by decide) (fun c129 => ?_) (fun c129 => ?_)
        · replace hF := (if_neg (bI_f c129)).symm.trans hF
          refine lv_bipush (v := 6) hx hb dX6_readKeeper_82 (by decide) ?_
          refine lv_istore (lv' := [(4, .int 6), (3, .int r122), (2, .int r82), (0, .ref (ad G 0)), (1, .int a1)]) hx hb dX6_readKeeper_84 hl (by decide) rfl (fun ls hl => ?_)
          refine lv_aload_n hx hb dX6_readKeeper_86 rfl (lv_at hl 3 rfl) ?_
          refine lv_iload_n hx hb dX6_readKeeper_87 rfl (lv_at hl 4 rfl) ?_
          refine lv_iload_n hx hb dX6_readKeeper_88 rfl (lv_at hl 2 rfl) ?_
          refine lv_iload_n hx hb dX6_readKeeper_89 rfl (lv_at hl 1 rfl) ?_
          refine lv_iload hx hb dX6_readKeeper_90 (lv_at hl 0 rfl) ?_
          refine lv_aload_n hx hb dX6_readKeeper_92 rfl (lv_at hl 3 rfl) ?_
          refine r_ldcw (own := RX6) (tx := "silent") (q := sk G 12) hx hb M.1.2.2.2.1 (sR_27 M.2.2.2) dX6_readKeeper_93 ?_
          obtain ⟨⟨r131, v132⟩, h130, hF⟩ := bi_some hF
          dsimp only at hF
          refine k_i hS (kV_run M hS hP ok_X6_299 (c_X6_takesWord l G 12 (by decide) v127 r131 v132 h130) (rc_6 M hP rfl) rfl hl.1 rfl (Nat.le_of_ble_eq_true rfl) ⟨rfl, rfl⟩ ⟨Nat.le_of_ble_eq_true rfl, Nat.le_of_ble_eq_true rfl⟩ dX6_readKeeper_96) (fun H locs hP hS => ?_)
          refine lv_if_eq (tgt := 106) hx hb dX6_readKeeper_99 (by decide) (fun c134 => ?_) (fun c134 => ?_)
          · replace hF := (if_neg (bI_f c134)).symm.trans hF
            refine lv_iconst (v := 0) hx hb dX6_readKeeper_106 (by decide) ?_
            obtain ⟨v137, h135, hF⟩ := bi_some hF
            refine k_v hS (kV_run M hS hP ok_X6_311 (c_X6_addItem l G a1 r82 r122 6 0 v132 v137 h135) (rc_6 M hP rfl) rfl hl.1 rfl (Nat.le_of_ble_eq_true rfl) ⟨rfl, rfl⟩ ⟨Nat.le_of_ble_eq_true rfl, Nat.le_of_ble_eq_true rfl⟩ dX6_readKeeper_107) (fun H locs hP hS => ?_)
            refine lv_aload_n hx hb dX6_readKeeper_110 rfl (lv_at hl 3 rfl) ?_
            refine lv_dup hx hb dX6_readKeeper_111 rfl ?_
            refine fg_6_294 M hP dX6_readKeeper_112 ?_
            refine lv_iconst (v := 1) hx hb dX6_readKeeper_115 (by decide) ?_
            refine lv_iadd hx hb dX6_readKeeper_116 ?_
            refine fp_6_294 M hS hP dX6_readKeeper_117 (fun H locs hP hS => ?_)
            have hP : Wd G (pu v137 0 15 ((v137 0 15) + 1)) H := hP
            exact ret_v M hS hP (Option.some.inj hF) dX6_readKeeper_120
          · replace hF := (if_pos (bI_t c134)).symm.trans hF
            refine lv_iconst (v := 1) hx hb dX6_readKeeper_102 (by decide) ?_
            refine lv_goto (tgt := 107) hx hb dX6_readKeeper_103 (by decide) ?_
            obtain ⟨v140, h138, hF⟩ := bi_some hF
            refine k_v hS (kV_run M hS hP ok_X6_311 (c_X6_addItem l G a1 r82 r122 6 1 v132 v140 h138) (rc_6 M hP rfl) rfl hl.1 rfl (Nat.le_of_ble_eq_true rfl) ⟨rfl, rfl⟩ ⟨Nat.le_of_ble_eq_true rfl, Nat.le_of_ble_eq_true rfl⟩ dX6_readKeeper_107) (fun H locs hP hS => ?_)
            refine lv_aload_n hx hb dX6_readKeeper_110 rfl (lv_at hl 3 rfl) ?_
            refine lv_dup hx hb dX6_readKeeper_111 rfl ?_
            refine fg_6_294 M hP dX6_readKeeper_112 ?_
            refine lv_iconst (v := 1) hx hb dX6_readKeeper_115 (by decide) ?_
            refine lv_iadd hx hb dX6_readKeeper_116 ?_
            refine fp_6_294 M hS hP dX6_readKeeper_117 (fun H locs hP hS => ?_)
            have hP : Wd G (pu v140 0 15 ((v140 0 15) + 1)) H := hP
            exact ret_v M hS hP (Option.some.inj hF) dX6_readKeeper_120
        · replace hF := (if_pos (bI_t c129)).symm.trans hF
          refine lv_aload_n hx hb dX6_readKeeper_72 rfl (lv_at hl 2 rfl) ?_
          refine lv_iconst (v := 0) hx hb dX6_readKeeper_73 (by decide) ?_
          refine lv_bipush (v := 15) hx hb dX6_readKeeper_74 (by decide) ?_
          obtain ⟨⟨r142, v143⟩, h141, hF⟩ := bi_some hF
          dsimp only at hF
          refine k_i hS (kV_run M hS hP ok_X6_302 (c_X6_number l G 0 15 v127 r142 v143 h141) (rc_6 M hP rfl) rfl hl.1 rfl (Nat.le_of_ble_eq_true rfl) ⟨rfl, rfl⟩ ⟨Nat.le_of_ble_eq_true rfl, Nat.le_of_ble_eq_true rfl⟩ dX6_readKeeper_76) (fun H locs hP hS => ?_)
          refine lv_goto (tgt := 84) hx hb dX6_readKeeper_79 (by decide) ?_
          refine lv_istore (lv' := [(4, .int r142), (3, .int r122), (2, .int r82), (0, .ref (ad G 0)), (1, .int a1)]) hx hb dX6_readKeeper_84 hl (by decide) rfl (fun ls hl => ?_)
          refine lv_aload_n hx hb dX6_readKeeper_86 rfl (lv_at hl 3 rfl) ?_
          refine lv_iload_n hx hb dX6_readKeeper_87 rfl (lv_at hl 4 rfl) ?_
          refine lv_iload_n hx hb dX6_readKeeper_88 rfl (lv_at hl 2 rfl) ?_
          refine lv_iload_n hx hb dX6_readKeeper_89 rfl (lv_at hl 1 rfl) ?_
          refine lv_iload hx hb dX6_readKeeper_90 (lv_at hl 0 rfl) ?_
          refine lv_aload_n hx hb dX6_readKeeper_92 rfl (lv_at hl 3 rfl) ?_
          refine r_ldcw (own := RX6) (tx := "silent") (q := sk G 12) hx hb M.1.2.2.2.1 (sR_27 M.2.2.2) dX6_readKeeper_93 ?_
          obtain ⟨⟨r146, v147⟩, h145, hF⟩ := bi_some hF
          dsimp only at hF
          refine k_i hS (kV_run M hS hP ok_X6_299 (c_X6_takesWord l G 12 (by decide) v143 r146 v147 h145) (rc_6 M hP rfl) rfl hl.1 rfl (Nat.le_of_ble_eq_true rfl) ⟨rfl, rfl⟩ ⟨Nat.le_of_ble_eq_true rfl, Nat.le_of_ble_eq_true rfl⟩ dX6_readKeeper_96) (fun H locs hP hS => ?_)
          refine lv_if_eq (tgt := 106) hx hb dX6_readKeeper_99 (by decide) (fun c149 => ?_) (fun c149 => ?_)
          · replace hF := (if_neg (bI_f c149)).symm.trans hF
            refine lv_iconst (v := 0) hx hb dX6_readKeeper_106 (by decide) ?_
            obtain ⟨v152, h150, hF⟩ := bi_some hF
            refine k_v hS (kV_run M hS hP ok_X6_311 (c_X6_addItem l G a1 r82 r122 r142 0 v147 v152 h150) (rc_6 M hP rfl) rfl hl.1 rfl (Nat.le_of_ble_eq_true rfl) ⟨rfl, rfl⟩ ⟨Nat.le_of_ble_eq_true rfl, Nat.le_of_ble_eq_true rfl⟩ dX6_readKeeper_107) (fun H locs hP hS => ?_)
            refine lv_aload_n hx hb dX6_readKeeper_110 rfl (lv_at hl 3 rfl) ?_
            refine lv_dup hx hb dX6_readKeeper_111 rfl ?_
            refine fg_6_294 M hP dX6_readKeeper_112 ?_
            refine lv_iconst (v := 1) hx hb dX6_readKeeper_115 (by decide) ?_
            refine lv_iadd hx hb dX6_readKeeper_116 ?_
            refine fp_6_294 M hS hP dX6_readKeeper_117 (fun H locs hP hS => ?_)
            have hP : Wd G (pu v152 0 15 ((v152 0 15) + 1)) H := hP
            exact ret_v M hS hP (Option.some.inj hF) dX6_readKeeper_120
          · replace hF := (if_pos (bI_t c149)).symm.trans hF
            refine lv_iconst (v := 1) hx hb dX6_readKeeper_102 (by decide) ?_
            refine lv_goto (tgt := 107) hx hb dX6_readKeeper_103 (by decide) ?_
            obtain ⟨v155, h153, hF⟩ := bi_some hF
            refine k_v hS (kV_run M hS hP ok_X6_311 (c_X6_addItem l G a1 r82 r122 r142 1 v147 v155 h153) (rc_6 M hP rfl) rfl hl.1 rfl (Nat.le_of_ble_eq_true rfl) ⟨rfl, rfl⟩ ⟨Nat.le_of_ble_eq_true rfl, Nat.le_of_ble_eq_true rfl⟩ dX6_readKeeper_107) (fun H locs hP hS => ?_)
            refine lv_aload_n hx hb dX6_readKeeper_110 rfl (lv_at hl 3 rfl) ?_
            refine lv_dup hx hb dX6_readKeeper_111 rfl ?_
            refine fg_6_294 M hP dX6_readKeeper_112 ?_
            refine lv_iconst (v := 1) hx hb dX6_readKeeper_115 (by decide) ?_
            refine lv_iadd hx hb dX6_readKeeper_116 ?_
            refine fp_6_294 M hS hP dX6_readKeeper_117 (fun H locs hP hS => ?_)
            have hP : Wd G (pu v155 0 15 ((v155 0 15) + 1)) H := hP
            exact ret_v M hS hP (Option.some.inj hF) dX6_readKeeper_120
  · replace hF := (if_neg c1).symm.trans hF
    refine lv_iconst (v := 1) hx hb dX6_readKeeper_10 (by decide) ?_
    refine lv_goto (tgt := 15) hx hb dX6_readKeeper_11 (by decide) ?_
    obtain ⟨v158, h156, hF⟩ := bi_some hF
    refine k_v hS (kV_run M hS hP ok_X6_283 (c_X6_must l G 1 v v158 h156) (rc_6 M hP rfl) rfl hl.1 rfl (Nat.le_of_ble_eq_true rfl) ⟨rfl, rfl⟩ ⟨Nat.le_of_ble_eq_true rfl, Nat.le_of_ble_eq_true rfl⟩ dX6_readKeeper_15) (fun H locs hP hS => ?_)
    refine lv_aload_n hx hb dX6_readKeeper_18 rfl (lv_at hl 0 rfl) ?_
    refine r_ldcw (own := RX6) (tx := "at") (q := sk G 9) hx hb M.1.2.2.2.1 (sR_24 M.2.2.2) dX6_readKeeper_19 ?_
    obtain ⟨⟨r160, v161⟩, h159, hF⟩ := bi_some hF
    dsimp only at hF
    refine k_i hS (kV_run M hS hP ok_X6_299 (c_X6_takesWord l G 9 (by decide) v158 r160 v161 h159) (rc_6 M hP rfl) rfl hl.1 rfl (Nat.le_of_ble_eq_true rfl) ⟨rfl, rfl⟩ ⟨Nat.le_of_ble_eq_true rfl, Nat.le_of_ble_eq_true rfl⟩ dX6_readKeeper_22) (fun H locs hP hS => ?_)
    refine lv_if_eq (tgt := 38) hx hb dX6_readKeeper_25 (by decide) (fun c163 => ?_) (fun c163 => ?_)
    · replace hF := (if_neg (bI_f c163)).symm.trans hF
      refine lv_iconst (v := 0) hx hb dX6_readKeeper_38 (by decide) ?_
      refine lv_istore_n (lv' := [(2, .int 0), (0, .ref (ad G 0)), (1, .int a1)]) hx hb dX6_readKeeper_39 rfl hl (by decide) rfl (fun ls hl => ?_)
      refine lv_aload_n hx hb dX6_readKeeper_40 rfl (lv_at hl 1 rfl) ?_
      refine r_ldcw (own := RX6) (tx := "note") (q := sk G 10) hx hb M.1.2.2.2.1 (sR_25 M.2.2.2) dX6_readKeeper_41 ?_
      obtain ⟨⟨r165, v166⟩, h164, hF⟩ := bi_some hF
      dsimp only at hF
      refine k_i hS (kV_run M hS hP ok_X6_299 (c_X6_takesWord l G 10 (by decide) v161 r165 v166 h164) (rc_6 M hP rfl) rfl hl.1 rfl (Nat.le_of_ble_eq_true rfl) ⟨rfl, rfl⟩ ⟨Nat.le_of_ble_eq_true rfl, Nat.le_of_ble_eq_true rfl⟩ dX6_readKeeper_44) (fun H locs hP hS => ?_)
      refine lv_if_eq (tgt := 60) hx hb dX6_readKeeper_47 (by decide) (fun c168 => ?_) (fun c168 => ?_)
      · replace hF := (if_neg (bI_f c168)).symm.trans hF
        refine lv_iconst (v := 0) hx hb dX6_readKeeper_60 (by decide) ?_
        refine lv_istore_n (lv' := [(3, .int 0), (2, .int 0), (0, .ref (ad G 0)), (1, .int a1)]) hx hb dX6_readKeeper_61 rfl hl (by decide) rfl (fun ls hl => ?_)
        refine lv_aload_n hx hb dX6_readKeeper_62 rfl (lv_at hl 2 rfl) ?_
        refine r_ldcw (own := RX6) (tx := "loud") (q := sk G 11) hx hb M.1.2.2.2.1 (sR_26 M.2.2.2) dX6_readKeeper_63 ?_
        obtain ⟨⟨r170, v171⟩, h169, hF⟩ := bi_some hF
        dsimp only at hF
        refine k_i hS (kV_run M hS hP ok_X6_299 (c_X6_takesWord l G 11 (by decide) v166 r170 v171 h169) (rc_6 M hP rfl) rfl hl.1 rfl (Nat.le_of_ble_eq_true rfl) ⟨rfl, rfl⟩ ⟨Nat.le_of_ble_eq_true rfl, Nat.le_of_ble_eq_true rfl⟩ dX6_readKeeper_66) (fun H locs hP hS => ?_)
        refine lv_if_eq (tgt := 82) hx hb dX6_readKeeper_69 (by decide) (fun c173 => ?_) (fun c173 => ?_)
        · replace hF := (if_neg (bI_f c173)).symm.trans hF
          refine lv_bipush (v := 6) hx hb dX6_readKeeper_82 (by decide) ?_
          refine lv_istore (lv' := [(4, .int 6), (3, .int 0), (2, .int 0), (0, .ref (ad G 0)), (1, .int a1)]) hx hb dX6_readKeeper_84 hl (by decide) rfl (fun ls hl => ?_)
          refine lv_aload_n hx hb dX6_readKeeper_86 rfl (lv_at hl 3 rfl) ?_
          refine lv_iload_n hx hb dX6_readKeeper_87 rfl (lv_at hl 4 rfl) ?_
          refine lv_iload_n hx hb dX6_readKeeper_88 rfl (lv_at hl 2 rfl) ?_
          refine lv_iload_n hx hb dX6_readKeeper_89 rfl (lv_at hl 1 rfl) ?_
          refine lv_iload hx hb dX6_readKeeper_90 (lv_at hl 0 rfl) ?_
          refine lv_aload_n hx hb dX6_readKeeper_92 rfl (lv_at hl 3 rfl) ?_
          refine r_ldcw (own := RX6) (tx := "silent") (q := sk G 12) hx hb M.1.2.2.2.1 (sR_27 M.2.2.2) dX6_readKeeper_93 ?_
          obtain ⟨⟨r175, v176⟩, h174, hF⟩ := bi_some hF
          dsimp only at hF
          refine k_i hS (kV_run M hS hP ok_X6_299 (c_X6_takesWord l G 12 (by decide) v171 r175 v176 h174) (rc_6 M hP rfl) rfl hl.1 rfl (Nat.le_of_ble_eq_true rfl) ⟨rfl, rfl⟩ ⟨Nat.le_of_ble_eq_true rfl, Nat.le_of_ble_eq_true rfl⟩ dX6_readKeeper_96) (fun H locs hP hS => ?_)
          refine lv_if_eq (tgt := 106) hx hb dX6_readKeeper_99 (by decide) (fun c178 => ?_) (fun c178 => ?_)
          · replace hF := (if_neg (bI_f c178)).symm.trans hF
            refine lv_iconst (v := 0) hx hb dX6_readKeeper_106 (by decide) ?_
            obtain ⟨v181, h179, hF⟩ := bi_some hF
            refine k_v hS (kV_run M hS hP ok_X6_311 (c_X6_addItem l G a1 0 0 6 0 v176 v181 h179) (rc_6 M hP rfl) rfl hl.1 rfl (Nat.le_of_ble_eq_true rfl) ⟨rfl, rfl⟩ ⟨Nat.le_of_ble_eq_true rfl, Nat.le_of_ble_eq_true rfl⟩ dX6_readKeeper_107) (fun H locs hP hS => ?_)
            refine lv_aload_n hx hb dX6_readKeeper_110 rfl (lv_at hl 3 rfl) ?_
            refine lv_dup hx hb dX6_readKeeper_111 rfl ?_
            refine fg_6_294 M hP dX6_readKeeper_112 ?_
            refine lv_iconst (v := 1) hx hb dX6_readKeeper_115 (by decide) ?_
            refine lv_iadd hx hb dX6_readKeeper_116 ?_
            refine fp_6_294 M hS hP dX6_readKeeper_117 (fun H locs hP hS => ?_)
            have hP : Wd G (pu v181 0 15 ((v181 0 15) + 1)) H := hP
            exact ret_v M hS hP (Option.some.inj hF) dX6_readKeeper_120
          · replace hF := (if_pos (bI_t c178)).symm.trans hF
            refine lv_iconst (v := 1) hx hb dX6_readKeeper_102 (by decide) ?_
            refine lv_goto (tgt := 107) hx hb dX6_readKeeper_103 (by decide) ?_
            obtain ⟨v184, h182, hF⟩ := bi_some hF
            refine k_v hS (kV_run M hS hP ok_X6_311 (c_X6_addItem l G a1 0 0 6 1 v176 v184 h182) (rc_6 M hP rfl) rfl hl.1 rfl (Nat.le_of_ble_eq_true rfl) ⟨rfl, rfl⟩ ⟨Nat.le_of_ble_eq_true rfl, Nat.le_of_ble_eq_true rfl⟩ dX6_readKeeper_107) (fun H locs hP hS => ?_)
            refine lv_aload_n hx hb dX6_readKeeper_110 rfl (lv_at hl 3 rfl) ?_
            refine lv_dup hx hb dX6_readKeeper_111 rfl ?_
            refine fg_6_294 M hP dX6_readKeeper_112 ?_
            refine lv_iconst (v := 1) hx hb dX6_readKeeper_115 (by decide) ?_
            refine lv_iadd hx hb dX6_readKeeper_116 ?_
            refine fp_6_294 M hS hP dX6_readKeeper_117 (fun H locs hP hS => ?_)
            have hP : Wd G (pu v184 0 15 ((v184 0 15) + 1)) H := hP
            exact ret_v M hS hP (Option.some.inj hF) dX6_readKeeper_120
        · replace hF := (if_pos (bI_t c173)).symm.trans hF
          refine lv_aload_n hx hb dX6_readKeeper_72 rfl (lv_at hl 2 rfl) ?_
          refine lv_iconst (v := 0) hx hb dX6_readKeeper_73 (by decide) ?_
          refine lv_bipush (v := 15) hx hb dX6_readKeeper_74 (by decide) ?_
          obtain ⟨⟨r186, v187⟩, h185, hF⟩ := bi_some hF
          dsimp only at hF
          refine k_i hS (kV_run M hS hP ok_X6_302 (c_X6_number l G 0 15 v171 r186 v187 h185) (rc_6 M hP rfl) rfl hl.1 rfl (Nat.le_of_ble_eq_true rfl) ⟨rfl, rfl⟩ ⟨Nat.le_of_ble_eq_true rfl, Nat.le_of_ble_eq_true rfl⟩ dX6_readKeeper_76) (fun H locs hP hS => ?_)
          refine lv_goto (tgt := 84) hx hb dX6_readKeeper_79 (by decide) ?_
          refine lv_istore (lv' := [(4, .int r186), (3, .int 0), (2, .int 0), (0, .ref (ad G 0)), (1, .int a1)]) hx hb dX6_readKeeper_84 hl (by decide) rfl (fun ls hl => ?_)
          refine lv_aload_n hx hb dX6_readKeeper_86 rfl (lv_at hl 3 rfl) ?_
          refine lv_iload_n hx hb dX6_readKeeper_87 rfl (lv_at hl 4 rfl) ?_
          refine lv_iload_n hx hb dX6_readKeeper_88 rfl (lv_at hl 2 rfl) ?_
          refine lv_iload_n hx hb dX6_readKeeper_89 rfl (lv_at hl 1 rfl) ?_
          refine lv_iload hx hb dX6_readKeeper_90 (lv_at hl 0 rfl) ?_
          refine lv_aload_n hx hb dX6_readKeeper_92 rfl (lv_at hl 3 rfl) ?_
          refine r_ldcw (own := RX6) (tx := "silent") (q := sk G 12) hx hb M.1.2.2.2.1 (sR_27 M.2.2.2) dX6_readKeeper_93 ?_
          obtain ⟨⟨r190, v191⟩, h189, hF⟩ := bi_some hF
          dsimp only at hF
          refine k_i hS (kV_run M hS hP ok_X6_299 (c_X6_takesWord l G 12 (by decide) v187 r190 v191 h189) (rc_6 M hP rfl) rfl hl.1 rfl (Nat.le_of_ble_eq_true rfl) ⟨rfl, rfl⟩ ⟨Nat.le_of_ble_eq_true rfl, Nat.le_of_ble_eq_true rfl⟩ dX6_readKeeper_96) (fun H locs hP hS => ?_)
          refine lv_if_eq (tgt := 106) hx hb dX6_readKeeper_99 (by decide) (fun c193 => ?_) (fun c193 => ?_)
          · replace hF := (if_neg (bI_f c193)).symm.trans hF
            refine lv_iconst (v := 0) hx hb dX6_readKeeper_106 (by decide) ?_
            obtain ⟨v196, h194, hF⟩ := bi_some hF
            refine k_v hS (kV_run M hS hP ok_X6_311 (c_X6_addItem l G a1 0 0 r186 0 v191 v196 h194) (rc_6 M hP rfl) rfl hl.1 rfl (Nat.le_of_ble_eq_true rfl) ⟨rfl, rfl⟩ ⟨Nat.le_of_ble_eq_true rfl, Nat.le_of_ble_eq_true rfl⟩ dX6_readKeeper_107) (fun H locs hP hS => ?_)
            refine lv_aload_n hx hb dX6_readKeeper_110 rfl (lv_at hl 3 rfl) ?_
            refine lv_dup hx hb dX6_readKeeper_111 rfl ?_
            refine fg_6_294 M hP dX6_readKeeper_112 ?_
            refine lv_iconst (v := 1) hx hb dX6_readKeeper_115 (by decide) ?_
            refine lv_iadd hx hb dX6_readKeeper_116 ?_
            refine fp_6_294 M hS hP dX6_readKeeper_117 (fun H locs hP hS => ?_)
            have hP : Wd G (pu v196 0 15 ((v196 0 15) + 1)) H := hP
            exact ret_v M hS hP (Option.some.inj hF) dX6_readKeeper_120
          · replace hF := (if_pos (bI_t c193)).symm.trans hF
            refine lv_iconst (v := 1) hx hb dX6_readKeeper_102 (by decide) ?_
            refine lv_goto (tgt := 107) hx hb dX6_readKeeper_103 (by decide) ?_
            obtain ⟨v199, h197, hF⟩ := bi_some hF
            refine k_v hS (kV_run M hS hP ok_X6_311 (c_X6_addItem l G a1 0 0 r186 1 v191 v199 h197) (rc_6 M hP rfl) rfl hl.1 rfl (Nat.le_of_ble_eq_true rfl) ⟨rfl, rfl⟩ ⟨Nat.le_of_ble_eq_true rfl, Nat.le_of_ble_eq_true rfl⟩ dX6_readKeeper_107) (fun H locs hP hS => ?_)
            refine lv_aload_n hx hb dX6_readKeeper_110 rfl (lv_at hl 3 rfl) ?_
            refine lv_dup hx hb dX6_readKeeper_111 rfl ?_
            refine fg_6_294 M hP dX6_readKeeper_112 ?_
            refine lv_iconst (v := 1) hx hb dX6_readKeeper_115 (by decide) ?_
            refine lv_iadd hx hb dX6_readKeeper_116 ?_
            refine fp_6_294 M hS hP dX6_readKeeper_117 (fun H locs hP hS => ?_)
            have hP : Wd G (pu v199 0 15 ((v199 0 15) + 1)) H := hP
            exact ret_v M hS hP (Option.some.inj hF) dX6_readKeeper_120
      · replace hF := (if_pos (bI_t c168)).symm.trans hF
        refine lv_aload_n hx hb dX6_readKeeper_50 rfl (lv_at hl 1 rfl) ?_
        refine lv_iconst (v := 0) hx hb dX6_readKeeper_51 (by decide) ?_
        refine lv_bipush (v := 11) hx hb dX6_readKeeper_52 (by decide) ?_
        obtain ⟨⟨r201, v202⟩, h200, hF⟩ := bi_some hF
        dsimp only at hF
        refine k_i hS (kV_run M hS hP ok_X6_302 (c_X6_number l G 0 11 v166 r201 v202 h200) (rc_6 M hP rfl) rfl hl.1 rfl (Nat.le_of_ble_eq_true rfl) ⟨rfl, rfl⟩ ⟨Nat.le_of_ble_eq_true rfl, Nat.le_of_ble_eq_true rfl⟩ dX6_readKeeper_54) (fun H locs hP hS => ?_)
        refine lv_goto (tgt := 61) hx hb dX6_readKeeper_57 (by decide) ?_
        refine lv_istore_n (lv' := [(3, .int r201), (2, .int 0), (0, .ref (ad G 0)), (1, .int a1)]) hx hb dX6_readKeeper_61 rfl hl (by decide) rfl (fun ls hl => ?_)
        refine lv_aload_n hx hb dX6_readKeeper_62 rfl (lv_at hl 2 rfl) ?_
        refine r_ldcw (own := RX6) (tx := "loud") (q := sk G 11) hx hb M.1.2.2.2.1 (sR_26 M.2.2.2) dX6_readKeeper_63 ?_
        obtain ⟨⟨r205, v206⟩, h204, hF⟩ := bi_some hF
        dsimp only at hF
        refine k_i hS (kV_run M hS hP ok_X6_299 (c_X6_takesWord l G 11 (by decide) v202 r205 v206 h204) (rc_6 M hP rfl) rfl hl.1 rfl (Nat.le_of_ble_eq_true rfl) ⟨rfl, rfl⟩ ⟨Nat.le_of_ble_eq_true rfl, Nat.le_of_ble_eq_true rfl⟩ dX6_readKeeper_66) (fun H locs hP hS => ?_)
        refine lv_if_eq (tgt := 82) hx hb dX6_readKeeper_69 (by decide) (fun c208 => ?_) (fun c208 => ?_)
        · replace hF := (if_neg (bI_f c208)).symm.trans hF
          refine lv_bipush (v := 6) hx hb dX6_readKeeper_82 (by decide) ?_
          refine lv_istore (lv' := [(4, .int 6), (3, .int r201), (2, .int 0), (0, .ref (ad G 0)), (1, .int a1)]) hx hb dX6_readKeeper_84 hl (by decide) rfl (fun ls hl => ?_)
          refine lv_aload_n hx hb dX6_readKeeper_86 rfl (lv_at hl 3 rfl) ?_
          refine lv_iload_n hx hb dX6_readKeeper_87 rfl (lv_at hl 4 rfl) ?_
          refine lv_iload_n hx hb dX6_readKeeper_88 rfl (lv_at hl 2 rfl) ?_
          refine lv_iload_n hx hb dX6_readKeeper_89 rfl (lv_at hl 1 rfl) ?_
          refine lv_iload hx hb dX6_readKeeper_90 (lv_at hl 0 rfl) ?_
          refine lv_aload_n hx hb dX6_readKeeper_92 rfl (lv_at hl 3 rfl) ?_
          refine r_ldcw (own := RX6) (tx := "silent") (q := sk G 12) hx hb M.1.2.2.2.1 (sR_27 M.2.2.2) dX6_readKeeper_93 ?_
          obtain ⟨⟨r210, v211⟩, h209, hF⟩ := bi_some hF
          dsimp only at hF
          refine k_i hS (kV_run M hS hP ok_X6_299 (c_X6_takesWord l G 12 (by decide) v206 r210 v211 h209) (rc_6 M hP rfl) rfl hl.1 rfl (Nat.le_of_ble_eq_true rfl) ⟨rfl, rfl⟩ ⟨Nat.le_of_ble_eq_true rfl, Nat.le_of_ble_eq_true rfl⟩ dX6_readKeeper_96) (fun H locs hP hS => ?_)
          refine lv_if_eq (tgt := 106) hx hb dX6_readKeeper_99 (by decide) (fun c213 => ?_) (fun c213 => ?_)
          · replace hF := (if_neg (bI_f c213)).symm.trans hF
            refine lv_iconst (v := 0) hx hb dX6_readKeeper_106 (by decide) ?_
            obtain ⟨v216, h214, hF⟩ := bi_some hF
            refine k_v hS (kV_run M hS hP ok_X6_311 (c_X6_addItem l G a1 0 r201 6 0 v211 v216 h214) (rc_6 M hP rfl) rfl hl.1 rfl (Nat.le_of_ble_eq_true rfl) ⟨rfl, rfl⟩ ⟨Nat.le_of_ble_eq_true rfl, Nat.le_of_ble_eq_true rfl⟩ dX6_readKeeper_107) (fun H locs hP hS => ?_)
            refine lv_aload_n hx hb dX6_readKeeper_110 rfl (lv_at hl 3 rfl) ?_
            refine lv_dup hx hb dX6_readKeeper_111 rfl ?_
            refine fg_6_294 M hP dX6_readKeeper_112 ?_
            refine lv_iconst (v := 1) hx hb dX6_readKeeper_115 (by decide) ?_
            refine lv_iadd hx hb dX6_readKeeper_116 ?_
            refine fp_6_294 M hS hP dX6_readKeeper_117 (fun H locs hP hS => ?_)
            have hP : Wd G (pu v216 0 15 ((v216 0 15) + 1)) H := hP
            exact ret_v M hS hP (Option.some.inj hF) dX6_readKeeper_120
          · replace hF := (if_pos (bI_t c213)).symm.trans hF
            refine lv_iconst (v := 1) hx hb dX6_readKeeper_102 (by decide) ?_
            refine lv_goto (tgt := 107) hx hb dX6_readKeeper_103 (by decide) ?_
            obtain ⟨v219, h217, hF⟩ := bi_some hF
            refine k_v hS (kV_run M hS hP ok_X6_311 (c_X6_addItem l G a1 0 r201 6 1 v211 v219 h217) (rc_6 M hP rfl) rfl hl.1 rfl (Nat.le_of_ble_eq_true rfl) ⟨rfl, rfl⟩ ⟨Nat.le_of_ble_eq_true rfl, Nat.le_of_ble_eq_true rfl⟩ dX6_readKeeper_107) (fun H locs hP hS => ?_)
            refine lv_aload_n hx hb dX6_readKeeper_110 rfl (lv_at hl 3 rfl) ?_
            refine lv_dup hx hb dX6_readKeeper_111 rfl ?_
            refine fg_6_294 M hP dX6_readKeeper_112 ?_
            refine lv_iconst (v := 1) hx hb dX6_readKeeper_115 (by decide) ?_
            refine lv_iadd hx hb dX6_readKeeper_116 ?_
            refine fp_6_294 M hS hP dX6_readKeeper_117 (fun H locs hP hS => ?_)
            have hP : Wd G (pu v219 0 15 ((v219 0 15) + 1)) H := hP
            exact ret_v M hS hP (Option.some.inj hF) dX6_readKeeper_120
        · replace hF := (if_pos (bI_t c208)).symm.trans hF
          refine lv_aload_n hx hb dX6_readKeeper_72 rfl (lv_at hl 2 rfl) ?_
          refine lv_iconst (v := 0) hx hb dX6_readKeeper_73 (by decide) ?_
          refine lv_bipush (v := 15) hx hb dX6_readKeeper_74 (by decide) ?_
          obtain ⟨⟨r221, v222⟩, h220, hF⟩ := bi_some hF
          dsimp only at hF
          refine k_i hS (kV_run M hS hP ok_X6_302 (c_X6_number l G 0 15 v206 r221 v222 h220) (rc_6 M hP rfl) rfl hl.1 rfl (Nat.le_of_ble_eq_true rfl) ⟨rfl, rfl⟩ ⟨Nat.le_of_ble_eq_true rfl, Nat.le_of_ble_eq_true rfl⟩ dX6_readKeeper_76) (fun H locs hP hS => ?_)
          refine lv_goto (tgt := 84) hx hb dX6_readKeeper_79 (by decide) ?_
          refine lv_istore (lv' := [(4, .int r221), (3, .int r201), (2, .int 0), (0, .ref (ad G 0)), (1, .int a1)]) hx hb dX6_readKeeper_84 hl (by decide) rfl (fun ls hl => ?_)
          refine lv_aload_n hx hb dX6_readKeeper_86 rfl (lv_at hl 3 rfl) ?_
          refine lv_iload_n hx hb dX6_readKeeper_87 rfl (lv_at hl 4 rfl) ?_
          refine lv_iload_n hx hb dX6_readKeeper_88 rfl (lv_at hl 2 rfl) ?_
          refine lv_iload_n hx hb dX6_readKeeper_89 rfl (lv_at hl 1 rfl) ?_
          refine lv_iload hx hb dX6_readKeeper_90 (lv_at hl 0 rfl) ?_
          refine lv_aload_n hx hb dX6_readKeeper_92 rfl (lv_at hl 3 rfl) ?_
          refine r_ldcw (own := RX6) (tx := "silent") (q := sk G 12) hx hb M.1.2.2.2.1 (sR_27 M.2.2.2) dX6_readKeeper_93 ?_
          obtain ⟨⟨r225, v226⟩, h224, hF⟩ := bi_some hF
          dsimp only at hF
          refine k_i hS (kV_run M hS hP ok_X6_299 (c_X6_takesWord l G 12 (by decide) v222 r225 v226 h224) (rc_6 M hP rfl) rfl hl.1 rfl (Nat.le_of_ble_eq_true rfl) ⟨rfl, rfl⟩ ⟨Nat.le_of_ble_eq_true rfl, Nat.le_of_ble_eq_true rfl⟩ dX6_readKeeper_96) (fun H locs hP hS => ?_)
          refine lv_if_eq (tgt := 106) hx hb dX6_readKeeper_99 (by decide) (fun c228 => ?_) (fun c228 => ?_)
          · replace hF := (if_neg (bI_f c228)).symm.trans hF
            refine lv_iconst (v := 0) hx hb dX6_readKeeper_106 (by decide) ?_
            obtain ⟨v231, h229, hF⟩ := bi_some hF
            refine k_v hS (kV_run M hS hP ok_X6_311 (c_X6_addItem l G a1 0 r201 r221 0 v226 v231 h229) (rc_6 M hP rfl) rfl hl.1 rfl (Nat.le_of_ble_eq_true rfl) ⟨rfl, rfl⟩ ⟨Nat.le_of_ble_eq_true rfl, Nat.le_of_ble_eq_true rfl⟩ dX6_readKeeper_107) (fun H locs hP hS => ?_)
            refine lv_aload_n hx hb dX6_readKeeper_110 rfl (lv_at hl 3 rfl) ?_
            refine lv_dup hx hb dX6_readKeeper_111 rfl ?_
            refine fg_6_294 M hP dX6_readKeeper_112 ?_
            refine lv_iconst (v := 1) hx hb dX6_readKeeper_115 (by decide) ?_
            refine lv_iadd hx hb dX6_readKeeper_116 ?_
            refine fp_6_294 M hS hP dX6_readKeeper_117 (fun H locs hP hS => ?_)
            have hP : Wd G (pu v231 0 15 ((v231 0 15) + 1)) H := hP
            exact ret_v M hS hP (Option.some.inj hF) dX6_readKeeper_120
          · replace hF := (if_pos (bI_t c228)).symm.trans hF
            refine lv_iconst (v := 1) hx hb dX6_readKeeper_102 (by decide) ?_
            refine lv_goto (tgt := 107) hx hb dX6_readKeeper_103 (by decide) ?_
            obtain ⟨v234, h232, hF⟩ := bi_some hF
            refine k_v hS (kV_run M hS hP ok_X6_311 (c_X6_addItem l G a1 0 r201 r221 1 v226 v234 h232) (rc_6 M hP rfl) rfl hl.1 rfl (Nat.le_of_ble_eq_true rfl) ⟨rfl, rfl⟩ ⟨Nat.le_of_ble_eq_true rfl, Nat.le_of_ble_eq_true rfl⟩ dX6_readKeeper_107) (fun H locs hP hS => ?_)
            refine lv_aload_n hx hb dX6_readKeeper_110 rfl (lv_at hl 3 rfl) ?_
            refine lv_dup hx hb dX6_readKeeper_111 rfl ?_
            refine fg_6_294 M hP dX6_readKeeper_112 ?_
            refine lv_iconst (v := 1) hx hb dX6_readKeeper_115 (by decide) ?_
            refine lv_iadd hx hb dX6_readKeeper_116 ?_
            refine fp_6_294 M hS hP dX6_readKeeper_117 (fun H locs hP hS => ?_)
            have hP : Wd G (pu v234 0 15 ((v234 0 15) + 1)) H := hP
            exact ret_v M hS hP (Option.some.inj hF) dX6_readKeeper_120
    · replace hF := (if_pos (bI_t c163)).symm.trans hF
      refine lv_aload_n hx hb dX6_readKeeper_28 rfl (lv_at hl 0 rfl) ?_
      refine lv_iconst (v := 0) hx hb dX6_readKeeper_29 (by decide) ?_
      refine lv_bipush (v := 15) hx hb dX6_readKeeper_30 (by decide) ?_
      obtain ⟨⟨r236, v237⟩, h235, hF⟩ := bi_some hF
      dsimp only at hF
      refine k_i hS (kV_run M hS hP ok_X6_302 (c_X6_number l G 0 15 v161 r236 v237 h235) (rc_6 M hP rfl) rfl hl.1 rfl (Nat.le_of_ble_eq_true rfl) ⟨rfl, rfl⟩ ⟨Nat.le_of_ble_eq_true rfl, Nat.le_of_ble_eq_true rfl⟩ dX6_readKeeper_32) (fun H locs hP hS => ?_)
      refine lv_goto (tgt := 39) hx hb dX6_readKeeper_35 (by decide) ?_
      refine lv_istore_n (lv' := [(2, .int r236), (0, .ref (ad G 0)), (1, .int a1)]) hx hb dX6_readKeeper_39 rfl hl (by decide) rfl (fun ls hl => ?_)
      refine lv_aload_n hx hb dX6_readKeeper_40 rfl (lv_at hl 1 rfl) ?_
      refine r_ldcw (own := RX6) (tx := "note") (q := sk G 10) hx hb M.1.2.2.2.1 (sR_25 M.2.2.2) dX6_readKeeper_41 ?_
      obtain ⟨⟨r240, v241⟩, h239, hF⟩ := bi_some hF
      dsimp only at hF
      refine k_i hS (kV_run M hS hP ok_X6_299 (c_X6_takesWord l G 10 (by decide) v237 r240 v241 h239) (rc_6 M hP rfl) rfl hl.1 rfl (Nat.le_of_ble_eq_true rfl) ⟨rfl, rfl⟩ ⟨Nat.le_of_ble_eq_true rfl, Nat.le_of_ble_eq_true rfl⟩ dX6_readKeeper_44) (fun H locs hP hS => ?_)
      refine lv_if_eq (tgt := 60) hx hb dX6_readKeeper_47 (by decide) (fun c243 => ?_) (fun c243 => ?_)
      · replace hF := (if_neg (bI_f c243)).symm.trans hF
        refine lv_iconst (v := 0) hx hb dX6_readKeeper_60 (by decide) ?_
        refine lv_istore_n (lv' := [(3, .int 0), (2, .int r236), (0, .ref (ad G 0)), (1, .int a1)]) hx hb dX6_readKeeper_61 rfl hl (by decide) rfl (fun ls hl => ?_)
        refine lv_aload_n hx hb dX6_readKeeper_62 rfl (lv_at hl 2 rfl) ?_
        refine r_ldcw (own := RX6) (tx := "loud") (q := sk G 11) hx hb M.1.2.2.2.1 (sR_26 M.2.2.2) dX6_readKeeper_63 ?_
        obtain ⟨⟨r245, v246⟩, h244, hF⟩ := bi_some hF
        dsimp only at hF
        refine k_i hS (kV_run M hS hP ok_X6_299 (c_X6_takesWord l G 11 (by decide) v241 r245 v246 h244) (rc_6 M hP rfl) rfl hl.1 rfl (Nat.le_of_ble_eq_true rfl) ⟨rfl, rfl⟩ ⟨Nat.le_of_ble_eq_true rfl, Nat.le_of_ble_eq_true rfl⟩ dX6_readKeeper_66) (fun H locs hP hS => ?_)
        refine lv_if_eq (tgt := 82) hx hb dX6_readKeeper_69 (by decide) (fun c248 => ?_) (fun c248 => ?_)
        · replace hF := (if_neg (bI_f c248)).symm.trans hF
          refine lv_bipush (v := 6) hx hb dX6_readKeeper_82 (by decide) ?_
          refine lv_istore (lv' := [(4, .int 6), (3, .int 0), (2, .int r236), (0, .ref (ad G 0)), (1, .int a1)]) hx hb dX6_readKeeper_84 hl (by decide) rfl (fun ls hl => ?_)
          refine lv_aload_n hx hb dX6_readKeeper_86 rfl (lv_at hl 3 rfl) ?_
          refine lv_iload_n hx hb dX6_readKeeper_87 rfl (lv_at hl 4 rfl) ?_
          refine lv_iload_n hx hb dX6_readKeeper_88 rfl (lv_at hl 2 rfl) ?_
          refine lv_iload_n hx hb dX6_readKeeper_89 rfl (lv_at hl 1 rfl) ?_
          refine lv_iload hx hb dX6_readKeeper_90 (lv_at hl 0 rfl) ?_
          refine lv_aload_n hx hb dX6_readKeeper_92 rfl (lv_at hl 3 rfl) ?_
          refine r_ldcw (own := RX6) (tx := "silent") (q := sk G 12) hx hb M.1.2.2.2.1 (sR_27 M.2.2.2) dX6_readKeeper_93 ?_
          obtain ⟨⟨r250, v251⟩, h249, hF⟩ := bi_some hF
          dsimp only at hF
          refine k_i hS (kV_run M hS hP ok_X6_299 (c_X6_takesWord l G 12 (by decide) v246 r250 v251 h249) (rc_6 M hP rfl) rfl hl.1 rfl (Nat.le_of_ble_eq_true rfl) ⟨rfl, rfl⟩ ⟨Nat.le_of_ble_eq_true rfl, Nat.le_of_ble_eq_true rfl⟩ dX6_readKeeper_96) (fun H locs hP hS => ?_)
          refine lv_if_eq (tgt := 106) hx hb dX6_readKeeper_99 (by decide) (fun c253 => ?_) (fun c253 => ?_)
          · replace hF := (if_neg (bI_f c253)).symm.trans hF
            refine lv_iconst (v := 0) hx hb dX6_readKeeper_106 (by decide) ?_
            obtain ⟨v256, h254, hF⟩ := bi_some hF
            refine k_v hS (kV_run M hS hP ok_X6_311 (c_X6_addItem l G a1 r236 0 6 0 v251 v256 h254) (rc_6 M hP rfl) rfl hl.1 rfl (Nat.le_of_ble_eq_true rfl) ⟨rfl, rfl⟩ ⟨Nat.le_of_ble_eq_true rfl, Nat.le_of_ble_eq_true rfl⟩ dX6_readKeeper_107) (fun H locs hP hS => ?_)
            refine lv_aload_n hx hb dX6_readKeeper_110 rfl (lv_at hl 3 rfl) ?_
            refine lv_dup hx hb dX6_readKeeper_111 rfl ?_
            refine fg_6_294 M hP dX6_readKeeper_112 ?_
            refine lv_iconst (v := 1) hx hb dX6_readKeeper_115 (by decide) ?_
            refine lv_iadd hx hb dX6_readKeeper_116 ?_
            refine fp_6_294 M hS hP dX6_readKeeper_117 (fun H locs hP hS => ?_)
            have hP : Wd G (pu v256 0 15 ((v256 0 15) + 1)) H := hP
            exact ret_v M hS hP (Option.some.inj hF) dX6_readKeeper_120
          · replace hF := (if_pos (bI_t c253)).symm.trans hF
            refine lv_iconst (v := 1) hx hb dX6_readKeeper_102 (by decide) ?_
            refine lv_goto (tgt := 107) hx hb dX6_readKeeper_103 (by decide) ?_
            obtain ⟨v259, h257, hF⟩ := bi_some hF
            refine k_v hS (kV_run M hS hP ok_X6_311 (c_X6_addItem l G a1 r236 0 6 1 v251 v259 h257) (rc_6 M hP rfl) rfl hl.1 rfl (Nat.le_of_ble_eq_true rfl) ⟨rfl, rfl⟩ ⟨Nat.le_of_ble_eq_true rfl, Nat.le_of_ble_eq_true rfl⟩ dX6_readKeeper_107) (fun H locs hP hS => ?_)
            refine lv_aload_n hx hb dX6_readKeeper_110 rfl (lv_at hl 3 rfl) ?_
            refine lv_dup hx hb dX6_readKeeper_111 rfl ?_
            refine fg_6_294 M hP dX6_readKeeper_112 ?_
            refine lv_iconst (v := 1) hx hb dX6_readKeeper_115 (by decide) ?_
            refine lv_iadd hx hb dX6_readKeeper_116 ?_
            refine fp_6_294 M hS hP dX6_readKeeper_117 (fun H locs hP hS => ?_)
            have hP : Wd G (pu v259 0 15 ((v259 0 15) + 1)) H := hP
            exact ret_v M hS hP (Option.some.inj hF) dX6_readKeeper_120
        · replace hF := (if_pos (bI_t c248)).symm.trans hF
          refine lv_aload_n hx hb dX6_readKeeper_72 rfl (lv_at hl 2 rfl) ?_
          refine lv_iconst (v := 0) hx hb dX6_readKeeper_73 (by decide) ?_
          refine lv_bipush (v := 15) hx hb dX6_readKeeper_74 (by decide) ?_
          obtain ⟨⟨r261, v262⟩, h260, hF⟩ := bi_some hF
          dsimp only at hF
          refine k_i hS (kV_run M hS hP ok_X6_302 (c_X6_number l G 0 15 v246 r261 v262 h260) (rc_6 M hP rfl) rfl hl.1 rfl (Nat.le_of_ble_eq_true rfl) ⟨rfl, rfl⟩ ⟨Nat.le_of_ble_eq_true rfl, Nat.le_of_ble_eq_true rfl⟩ dX6_readKeeper_76) (fun H locs hP hS => ?_)
          refine lv_goto (tgt := 84) hx hb dX6_readKeeper_79 (by decide) ?_
          refine lv_istore (lv' := [(4, .int r261), (3, .int 0), (2, .int r236), (0, .ref (ad G 0)), (1, .int a1)]) hx hb dX6_readKeeper_84 hl (by decide) rfl (fun ls hl => ?_)
          refine lv_aload_n hx hb dX6_readKeeper_86 rfl (lv_at hl 3 rfl) ?_
          refine lv_iload_n hx hb dX6_readKeeper_87 rfl (lv_at hl 4 rfl) ?_
          refine lv_iload_n hx hb dX6_readKeeper_88 rfl (lv_at hl 2 rfl) ?_
          refine lv_iload_n hx hb dX6_readKeeper_89 rfl (lv_at hl 1 rfl) ?_
          refine lv_iload hx hb dX6_readKeeper_90 (lv_at hl 0 rfl) ?_
          refine lv_aload_n hx hb dX6_readKeeper_92 rfl (lv_at hl 3 rfl) ?_
          refine r_ldcw (own := RX6) (tx := "silent") (q := sk G 12) hx hb M.1.2.2.2.1 (sR_27 M.2.2.2) dX6_readKeeper_93 ?_
          obtain ⟨⟨r265, v266⟩, h264, hF⟩ := bi_some hF
          dsimp only at hF
          refine k_i hS (kV_run M hS hP ok_X6_299 (c_X6_takesWord l G 12 (by decide) v262 r265 v266 h264) (rc_6 M hP rfl) rfl hl.1 rfl (Nat.le_of_ble_eq_true rfl) ⟨rfl, rfl⟩ ⟨Nat.le_of_ble_eq_true rfl, Nat.le_of_ble_eq_true rfl⟩ dX6_readKeeper_96) (fun H locs hP hS => ?_)
          refine lv_if_eq (tgt := 106) hx hb dX6_readKeeper_99 (by decide) (fun c268 => ?_) (fun c268 => ?_)
          · replace hF := (if_neg (bI_f c268)).symm.trans hF
            refine lv_iconst (v := 0) hx hb dX6_readKeeper_106 (by decide) ?_
            obtain ⟨v271, h269, hF⟩ := bi_some hF
            refine k_v hS (kV_run M hS hP ok_X6_311 (c_X6_addItem l G a1 r236 0 r261 0 v266 v271 h269) (rc_6 M hP rfl) rfl hl.1 rfl (Nat.le_of_ble_eq_true rfl) ⟨rfl, rfl⟩ ⟨Nat.le_of_ble_eq_true rfl, Nat.le_of_ble_eq_true rfl⟩ dX6_readKeeper_107) (fun H locs hP hS => ?_)
            refine lv_aload_n hx hb dX6_readKeeper_110 rfl (lv_at hl 3 rfl) ?_
            refine lv_dup hx hb dX6_readKeeper_111 rfl ?_
            refine fg_6_294 M hP dX6_readKeeper_112 ?_
            refine lv_iconst (v := 1) hx hb dX6_readKeeper_115 (by decide) ?_
            refine lv_iadd hx hb dX6_readKeeper_116 ?_
            refine fp_6_294 M hS hP dX6_readKeeper_117 (fun H locs hP hS => ?_)
            have hP : Wd G (pu v271 0 15 ((v271 0 15) + 1)) H := hP
            exact ret_v M hS hP (Option.some.inj hF) dX6_readKeeper_120
          · replace hF := (if_pos (bI_t c268)).symm.trans hF
            refine lv_iconst (v := 1) hx hb dX6_readKeeper_102 (by decide) ?_
            refine lv_goto (tgt := 107) hx hb dX6_readKeeper_103 (by decide) ?_
            obtain ⟨v274, h272, hF⟩ := bi_some hF
            refine k_v hS (kV_run M hS hP ok_X6_311 (c_X6_addItem l G a1 r236 0 r261 1 v266 v274 h272) (rc_6 M hP rfl) rfl hl.1 rfl (Nat.le_of_ble_eq_true rfl) ⟨rfl, rfl⟩ ⟨Nat.le_of_ble_eq_true rfl, Nat.le_of_ble_eq_true rfl⟩ dX6_readKeeper_107) (fun H locs hP hS => ?_)
            refine lv_aload_n hx hb dX6_readKeeper_110 rfl (lv_at hl 3 rfl) ?_
            refine lv_dup hx hb dX6_readKeeper_111 rfl ?_
            refine fg_6_294 M hP dX6_readKeeper_112 ?_
            refine lv_iconst (v := 1) hx hb dX6_readKeeper_115 (by decide) ?_
            refine lv_iadd hx hb dX6_readKeeper_116 ?_
            refine fp_6_294 M hS hP dX6_readKeeper_117 (fun H locs hP hS => ?_)
            have hP : Wd G (pu v274 0 15 ((v274 0 15) + 1)) H := hP
            exact ret_v M hS hP (Option.some.inj hF) dX6_readKeeper_120
      · replace hF := (if_pos (bI_t c243)).symm.trans hF
        refine lv_aload_n hx hb dX6_readKeeper_50 rfl (lv_at hl 1 rfl) ?_
        refine lv_iconst (v := 0) hx hb dX6_readKeeper_51 (by decide) ?_
        refine lv_bipush (v := 11) hx hb dX6_readKeeper_52 (by decide) ?_
        obtain ⟨⟨r276, v277⟩, h275, hF⟩ := bi_some hF
        dsimp only at hF
        refine k_i hS (kV_run M hS hP ok_X6_302 (c_X6_number l G 0 11 v241 r276 v277 h275) (rc_6 M hP rfl) rfl hl.1 rfl (Nat.le_of_ble_eq_true rfl) ⟨rfl, rfl⟩ ⟨Nat.le_of_ble_eq_true rfl, Nat.le_of_ble_eq_true rfl⟩ dX6_readKeeper_54) (fun H locs hP hS => ?_)
        refine lv_goto (tgt := 61) hx hb dX6_readKeeper_57 (by decide) ?_
        refine lv_istore_n (lv' := [(3, .int r276), (2, .int r236), (0, .ref (ad G 0)), (1, .int a1)]) hx hb dX6_readKeeper_61 rfl hl (by decide) rfl (fun ls hl => ?_)
        refine lv_aload_n hx hb dX6_readKeeper_62 rfl (lv_at hl 2 rfl) ?_
        refine r_ldcw (own := RX6) (tx := "loud") (q := sk G 11) hx hb M.1.2.2.2.1 (sR_26 M.2.2.2) dX6_readKeeper_63 ?_
        obtain ⟨⟨r280, v281⟩, h279, hF⟩ := bi_some hF
        dsimp only at hF
        refine k_i hS (kV_run M hS hP ok_X6_299 (c_X6_takesWord l G 11 (by decide) v277 r280 v281 h279) (rc_6 M hP rfl) rfl hl.1 rfl (Nat.le_of_ble_eq_true rfl) ⟨rfl, rfl⟩ ⟨Nat.le_of_ble_eq_true rfl, Nat.le_of_ble_eq_true rfl⟩ dX6_readKeeper_66) (fun H locs hP hS => ?_)
        refine lv_if_eq (tgt := 82) hx hb dX6_readKeeper_69 (by decide) (fun c283 => ?_) (fun c283 => ?_)
        · replace hF := (if_neg (bI_f c283)).symm.trans hF
          refine lv_bipush (v := 6) hx hb dX6_readKeeper_82 (by decide) ?_
          refine lv_istore (lv' := [(4, .int 6), (3, .int r276), (2, .int r236), (0, .ref (ad G 0)), (1, .int a1)]) hx hb dX6_readKeeper_84 hl (by decide) rfl (fun ls hl => ?_)
          refine lv_aload_n hx hb dX6_readKeeper_86 rfl (lv_at hl 3 rfl) ?_
          refine lv_iload_n hx hb dX6_readKeeper_87 rfl (lv_at hl 4 rfl) ?_
          refine lv_iload_n hx hb dX6_readKeeper_88 rfl (lv_at hl 2 rfl) ?_
          refine lv_iload_n hx hb dX6_readKeeper_89 rfl (lv_at hl 1 rfl) ?_
          refine lv_iload hx hb dX6_readKeeper_90 (lv_at hl 0 rfl) ?_
          refine lv_aload_n hx hb dX6_readKeeper_92 rfl (lv_at hl 3 rfl) ?_
          refine r_ldcw (own := RX6) (tx := "silent") (q := sk G 12) hx hb M.1.2.2.2.1 (sR_27 M.2.2.2) dX6_readKeeper_93 ?_
          obtain ⟨⟨r285, v286⟩, h284, hF⟩ := bi_some hF
          dsimp only at hF
          refine k_i hS (kV_run M hS hP ok_X6_299 (c_X6_takesWord l G 12 (by decide) v281 r285 v286 h284) (rc_6 M hP rfl) rfl hl.1 rfl (Nat.le_of_ble_eq_true rfl) ⟨rfl, rfl⟩ ⟨Nat.le_of_ble_eq_true rfl, Nat.le_of_ble_eq_true rfl⟩ dX6_readKeeper_96) (fun H locs hP hS => ?_)
          refine lv_if_eq (tgt := 106) hx hb dX6_readKeeper_99 (by decide) (fun c288 => ?_) (fun c288 => ?_)
          · replace hF := (if_neg (bI_f c288)).symm.trans hF
            refine lv_iconst (v := 0) hx hb dX6_readKeeper_106 (by decide) ?_
            obtain ⟨v291, h289, hF⟩ := bi_some hF
            refine k_v hS (kV_run M hS hP ok_X6_311 (c_X6_addItem l G a1 r236 r276 6 0 v286 v291 h289) (rc_6 M hP rfl) rfl hl.1 rfl (Nat.le_of_ble_eq_true rfl) ⟨rfl, rfl⟩ ⟨Nat.le_of_ble_eq_true rfl, Nat.le_of_ble_eq_true rfl⟩ dX6_readKeeper_107) (fun H locs hP hS => ?_)
            refine lv_aload_n hx hb dX6_readKeeper_110 rfl (lv_at hl 3 rfl) ?_
            refine lv_dup hx hb dX6_readKeeper_111 rfl ?_
            refine fg_6_294 M hP dX6_readKeeper_112 ?_
            refine lv_iconst (v := 1) hx hb dX6_readKeeper_115 (by decide) ?_
            refine lv_iadd hx hb dX6_readKeeper_116 ?_
            refine fp_6_294 M hS hP dX6_readKeeper_117 (fun H locs hP hS => ?_)
            have hP : Wd G (pu v291 0 15 ((v291 0 15) + 1)) H := hP
            exact ret_v M hS hP (Option.some.inj hF) dX6_readKeeper_120
          · replace hF := (if_pos (bI_t c288)).symm.trans hF
            refine lv_iconst (v := 1) hx hb dX6_readKeeper_102 (by decide) ?_
            refine lv_goto (tgt := 107) hx hb dX6_readKeeper_103 (by decide) ?_
            obtain ⟨v294, h292, hF⟩ := bi_some hF
            refine k_v hS (kV_run M hS hP ok_X6_311 (c_X6_addItem l G a1 r236 r276 6 1 v286 v294 h292) (rc_6 M hP rfl) rfl hl.1 rfl (Nat.le_of_ble_eq_true rfl) ⟨rfl, rfl⟩ ⟨Nat.le_of_ble_eq_true rfl, Nat.le_of_ble_eq_true rfl⟩ dX6_readKeeper_107) (fun H locs hP hS => ?_)
            refine lv_aload_n hx hb dX6_readKeeper_110 rfl (lv_at hl 3 rfl) ?_
            refine lv_dup hx hb dX6_readKeeper_111 rfl ?_
            refine fg_6_294 M hP dX6_readKeeper_112 ?_
            refine lv_iconst (v := 1) hx hb dX6_readKeeper_115 (by decide) ?_
            refine lv_iadd hx hb dX6_readKeeper_116 ?_
            refine fp_6_294 M hS hP dX6_readKeeper_117 (fun H locs hP hS => ?_)
            have hP : Wd G (pu v294 0 15 ((v294 0 15) + 1)) H := hP
            exact ret_v M hS hP (Option.some.inj hF) dX6_readKeeper_120
        · replace hF := (if_pos (bI_t c283)).symm.trans hF
          refine lv_aload_n hx hb dX6_readKeeper_72 rfl (lv_at hl 2 rfl) ?_
          refine lv_iconst (v := 0) hx hb dX6_readKeeper_73 (by decide) ?_
          refine lv_bipush (v := 15) hx hb dX6_readKeeper_74 (by decide) ?_
          obtain ⟨⟨r296, v297⟩, h295, hF⟩ := bi_some hF
          dsimp only at hF
          refine k_i hS (kV_run M hS hP ok_X6_302 (c_X6_number l G 0 15 v281 r296 v297 h295) (rc_6 M hP rfl) rfl hl.1 rfl (Nat.le_of_ble_eq_true rfl) ⟨rfl, rfl⟩ ⟨Nat.le_of_ble_eq_true rfl, Nat.le_of_ble_eq_true rfl⟩ dX6_readKeeper_76) (fun H locs hP hS => ?_)
          refine lv_goto (tgt := 84) hx hb dX6_readKeeper_79 (by decide) ?_
          refine lv_istore (lv' := [(4, .int r296), (3, .int r276), (2, .int r236), (0, .ref (ad G 0)), (1, .int a1)]) hx hb dX6_readKeeper_84 hl (by decide) rfl (fun ls hl => ?_)
          refine lv_aload_n hx hb dX6_readKeeper_86 rfl (lv_at hl 3 rfl) ?_
          refine lv_iload_n hx hb dX6_readKeeper_87 rfl (lv_at hl 4 rfl) ?_
          refine lv_iload_n hx hb dX6_readKeeper_88 rfl (lv_at hl 2 rfl) ?_
          refine lv_iload_n hx hb dX6_readKeeper_89 rfl (lv_at hl 1 rfl) ?_
          refine lv_iload hx hb dX6_readKeeper_90 (lv_at hl 0 rfl) ?_
          refine lv_aload_n hx hb dX6_readKeeper_92 rfl (lv_at hl 3 rfl) ?_
          refine r_ldcw (own := RX6) (tx := "silent") (q := sk G 12) hx hb M.1.2.2.2.1 (sR_27 M.2.2.2) dX6_readKeeper_93 ?_
          obtain ⟨⟨r300, v301⟩, h299, hF⟩ := bi_some hF
          dsimp only at hF
          refine k_i hS (kV_run M hS hP ok_X6_299 (c_X6_takesWord l G 12 (by decide) v297 r300 v301 h299) (rc_6 M hP rfl) rfl hl.1 rfl (Nat.le_of_ble_eq_true rfl) ⟨rfl, rfl⟩ ⟨Nat.le_of_ble_eq_true rfl, Nat.le_of_ble_eq_true rfl⟩ dX6_readKeeper_96) (fun H locs hP hS => ?_)
          refine lv_if_eq (tgt := 106) hx hb dX6_readKeeper_99 (by decide) (fun c303 => ?_) (fun c303 => ?_)
          · replace hF := (if_neg (bI_f c303)).symm.trans hF
            refine lv_iconst (v := 0) hx hb dX6_readKeeper_106 (by decide) ?_
            obtain ⟨v306, h304, hF⟩ := bi_some hF
            refine k_v hS (kV_run M hS hP ok_X6_311 (c_X6_addItem l G a1 r236 r276 r296 0 v301 v306 h304) (rc_6 M hP rfl) rfl hl.1 rfl (Nat.le_of_ble_eq_true rfl) ⟨rfl, rfl⟩ ⟨Nat.le_of_ble_eq_true rfl, Nat.le_of_ble_eq_true rfl⟩ dX6_readKeeper_107) (fun H locs hP hS => ?_)
            refine lv_aload_n hx hb dX6_readKeeper_110 rfl (lv_at hl 3 rfl) ?_
            refine lv_dup hx hb dX6_readKeeper_111 rfl ?_
            refine fg_6_294 M hP dX6_readKeeper_112 ?_
            refine lv_iconst (v := 1) hx hb dX6_readKeeper_115 (by decide) ?_
            refine lv_iadd hx hb dX6_readKeeper_116 ?_
            refine fp_6_294 M hS hP dX6_readKeeper_117 (fun H locs hP hS => ?_)
            have hP : Wd G (pu v306 0 15 ((v306 0 15) + 1)) H := hP
            exact ret_v M hS hP (Option.some.inj hF) dX6_readKeeper_120
          · replace hF := (if_pos (bI_t c303)).symm.trans hF
            refine lv_iconst (v := 1) hx hb dX6_readKeeper_102 (by decide) ?_
            refine lv_goto (tgt := 107) hx hb dX6_readKeeper_103 (by decide) ?_
            obtain ⟨v309, h307, hF⟩ := bi_some hF
            refine k_v hS (kV_run M hS hP ok_X6_311 (c_X6_addItem l G a1 r236 r276 r296 1 v301 v309 h307) (rc_6 M hP rfl) rfl hl.1 rfl (Nat.le_of_ble_eq_true rfl) ⟨rfl, rfl⟩ ⟨Nat.le_of_ble_eq_true rfl, Nat.le_of_ble_eq_true rfl⟩ dX6_readKeeper_107) (fun H locs hP hS => ?_)
            refine lv_aload_n hx hb dX6_readKeeper_110 rfl (lv_at hl 3 rfl) ?_
            refine lv_dup hx hb dX6_readKeeper_111 rfl ?_
            refine fg_6_294 M hP dX6_readKeeper_112 ?_
            refine lv_iconst (v := 1) hx hb dX6_readKeeper_115 (by decide) ?_
            refine lv_iadd hx hb dX6_readKeeper_116 ?_
            refine fp_6_294 M hS hP dX6_readKeeper_117 (fun H locs hP hS => ?_)
            have hP : Wd G (pu v309 0 15 ((v309 0 15) + 1)) H := hP
            exact ret_v M hS hP (Option.some.inj hF) dX6_readKeeper_120
def F_X6_readChild (v : VV) : Option VV :=
  if 6 ≤ (v 0 16) then (Option.bind (F_X6_must 0 v) (fun v4 => Option.bind (F_X6_takesWord 9 v4) (fun (r6, v7) => (if r6 = true then (Option.bind (F_X6_number 0 15 v7) (fun (r50, v51) => Option.bind (F_X6_takesWord 13 v51) (fun (r54, v55) => (if r54 = true then (Option.bind (F_X6_number 0 9 v55) (fun (r74, v75) => Option.bind (F_X6_takesWord 14 v75) (fun (r78, v79) => (if r78 = true then (Option.bind (F_X6_number 0 4095 v79) (fun (r86, v87) => Option.bind (F_X6_addItem 10 r50 r74 r86 0 v87) (fun v91 => some (pu v91 0 16 ((v91 0 16) + 1))))) else (Option.bind (F_X6_addItem 10 r50 r74 0 0 v79) (fun v84 => some (pu v84 0 16 ((v84 0 16) + 1)))))))) else (Option.bind (F_X6_takesWord 14 v55) (fun (r59, v60) => (if r59 = true then (Option.bind (F_X6_number 0 4095 v60) (fun (r67, v68) => Option.bind (F_X6_addItem 10 r50 3 r67 0 v68) (fun v72 => some (pu v72 0 16 ((v72 0 16) + 1))))) else (Option.bind (F_X6_addItem 10 r50 3 0 0 v60) (fun v65 => some (pu v65 0 16 ((v65 0 16) + 1))))))))))) else (Option.bind (F_X6_takesWord 13 v7) (fun (r11, v12) => (if r11 = true then (Option.bind (F_X6_number 0 9 v12) (fun (r31, v32) => Option.bind (F_X6_takesWord 14 v32) (fun (r35, v36) => (if r35 = true then (Option.bind (F_X6_number 0 4095 v36) (fun (r43, v44) => Option.bind (F_X6_addItem 10 0 r31 r43 0 v44) (fun v48 => some (pu v48 0 16 ((v48 0 16) + 1))))) else (Option.bind (F_X6_addItem 10 0 r31 0 0 v36) (fun v41 => some (pu v41 0 16 ((v41 0 16) + 1)))))))) else (Option.bind (F_X6_takesWord 14 v12) (fun (r16, v17) => (if r16 = true then (Option.bind (F_X6_number 0 4095 v17) (fun (r24, v25) => Option.bind (F_X6_addItem 10 0 3 r24 0 v25) (fun v29 => some (pu v29 0 16 ((v29 0 16) + 1))))) else (Option.bind (F_X6_addItem 10 0 3 0 0 v17) (fun v22 => some (pu v22 0 16 ((v22 0 16) + 1)))))))))))))) else (Option.bind (F_X6_must 1 v) (fun v94 => Option.bind (F_X6_takesWord 9 v94) (fun (r96, v97) => (if r96 = true then (Option.bind (F_X6_number 0 15 v97) (fun (r140, v141) => Option.bind (F_X6_takesWord 13 v141) (fun (r144, v145) => (if r144 = true then (Option.bind (F_X6_number 0 9 v145) (fun (r164, v165) => Option.bind (F_X6_takesWord 14 v165) (fun (r168, v169) => (if r168 = true then (Option.bind (F_X6_number 0 4095 v169) (fun (r176, v177) => Option.bind (F_X6_addItem 10 r140 r164 r176 0 v177) (fun v181 => some (pu v181 0 16 ((v181 0 16) + 1))))) else (Option.bind (F_X6_addItem 10 r140 r164 0 0 v169) (fun v174 => some (pu v174 0 16 ((v174 0 16) + 1)))))))) else (Option.bind (F_X6_takesWord 14 v145) (fun (r149, v150) => (if r149 = true then (Option.bind (F_X6_number 0 4095 v150) (fun (r157, v158) => Option.bind (F_X6_addItem 10 r140 3 r157 0 v158) (fun v162 => some (pu v162 0 16 ((v162 0 16) + 1))))) else (Option.bind (F_X6_addItem 10 r140 3 0 0 v150) (fun v155 => some (pu v155 0 16 ((v155 0 16) + 1))))))))))) else (Option.bind (F_X6_takesWord 13 v97) (fun (r101, v102) => (if r101 = true then (Option.bind (F_X6_number 0 9 v102) (fun (r121, v122) => Option.bind (F_X6_takesWord 14 v122) (fun (r125, v126) => (if r125 = true then (Option.bind (F_X6_number 0 4095 v126) (fun (r133, v134) => Option.bind (F_X6_addItem 10 0 r121 r133 0 v134) (fun v138 => some (pu v138 0 16 ((v138 0 16) + 1))))) else (Option.bind (F_X6_addItem 10 0 r121 0 0 v126) (fun v131 => some (pu v131 0 16 ((v131 0 16) + 1)))))))) else (Option.bind (F_X6_takesWord 14 v102) (fun (r106, v107) => (if r106 = true then (Option.bind (F_X6_number 0 4095 v107) (fun (r114, v115) => Option.bind (F_X6_addItem 10 0 3 r114 0 v115) (fun v119 => some (pu v119 0 16 ((v119 0 16) + 1))))) else (Option.bind (F_X6_addItem 10 0 3 0 0 v107) (fun v112 => some (pu v112 0 16 ((v112 0 16) + 1))))))))))))))
set_option maxHeartbeats 4000000 in
set_option maxRecDepth 100000 in
theorem c_X6_readChild (l : Launch) (G : GG) (v : VV) (v' : VV) (hF : F_X6_readChild v = some v') : Met l yX6_readChild (cdW yX6_readChild cX6_readChild 3 none) ({ frames := 6, cells := 0, slots := 0, locals := 132 } : Room) (PC G v [.ref (ad G 0)]) (QV G v') 0 0 (gA G) := by
  refine met_in RX6 (by decide) rfl (Nat.le_of_ble_eq_true rfl) ?_
  intro p e s m below meth c M hP ls hl
  have hx := M.1.1
  have hb := M.1.2.1
  have hS : va_S (gA G) s.heap s.heap [] := va_S.rf
  have hl : lv_has ls 3 [(0, .ref (ad G 0))] := hl
  unfold F_X6_readChild at hF
  refine lv_aload_n hx hb dX6_readChild_0 rfl (lv_at hl 0 rfl) ?_
  refine lv_aload_n hx hb dX6_readChild_1 rfl (lv_at hl 0 rfl) ?_
  refine fg_6_315 M hP dX6_readChild_2 ?_
  refine lv_bipush (v := 6) hx hb dX6_readChild_5 (by decide) ?_
  refine lv_icmp_ge (tgt := 14) hx hb dX6_readChild_7 (by decide) (fun c1 => ?_) (fun c1 => ?_)
  · replace hF := (if_pos c1).symm.trans hF
    refine lv_iconst (v := 0) hx hb dX6_readChild_14 (by decide) ?_
    obtain ⟨v4, h2, hF⟩ := bi_some hF
    refine k_v hS (kV_run M hS hP ok_X6_283 (c_X6_must l G 0 v v4 h2) (rc_6 M hP rfl) rfl hl.1 rfl (Nat.le_of_ble_eq_true rfl) ⟨rfl, rfl⟩ ⟨Nat.le_of_ble_eq_true rfl, Nat.le_of_ble_eq_true rfl⟩ dX6_readChild_15) (fun H locs hP hS => ?_)
    refine lv_aload_n hx hb dX6_readChild_18 rfl (lv_at hl 0 rfl) ?_
    refine r_ldcw (own := RX6) (tx := "at") (q := sk G 9) hx hb M.1.2.2.2.1 (sR_24 M.2.2.2) dX6_readChild_19 ?_
    obtain ⟨⟨r6, v7⟩, h5, hF⟩ := bi_some hF
    dsimp only at hF
    refine k_i hS (kV_run M hS hP ok_X6_299 (c_X6_takesWord l G 9 (by decide) v4 r6 v7 h5) (rc_6 M hP rfl) rfl hl.1 rfl (Nat.le_of_ble_eq_true rfl) ⟨rfl, rfl⟩ ⟨Nat.le_of_ble_eq_true rfl, Nat.le_of_ble_eq_true rfl⟩ dX6_readChild_22) (fun H locs hP hS => ?_)
    refine lv_if_eq (tgt := 38) hx hb dX6_readChild_25 (by decide) (fun c9 => ?_) (fun c9 => ?_)
    · replace hF := (if_neg (bI_f c9)).symm.trans hF
      refine lv_iconst (v := 0) hx hb dX6_readChild_38 (by decide) ?_
      refine lv_istore_n (lv' := [(1, .int 0), (0, .ref (ad G 0))]) hx hb dX6_readChild_39 rfl hl (by decide) rfl (fun ls hl => ?_)
      refine lv_aload_n hx hb dX6_readChild_40 rfl (lv_at hl 1 rfl) ?_
      refine r_ldcw (own := RX6) (tx := "quick") (q := sk G 13) hx hb M.1.2.2.2.1 (sR_28 M.2.2.2) dX6_readChild_41 ?_
      obtain ⟨⟨r11, v12⟩, h10, hF⟩ := bi_some hF
      dsimp only at hF
      refine k_i hS (kV_run M hS hP ok_X6_299 (c_X6_takesWord l G 13 (by decide) v7 r11 v12 h10) (rc_6 M hP rfl) rfl hl.1 rfl (Nat.le_of_ble_eq_true rfl) ⟨rfl, rfl⟩ ⟨Nat.le_of_ble_eq_true rfl, Nat.le_of_ble_eq_true rfl⟩ dX6_readChild_44) (fun H locs hP hS => ?_)
      refine lv_if_eq (tgt := 60) hx hb dX6_readChild_47 (by decide) (fun c14 => ?_) (fun c14 => ?_)
      · replace hF := (if_neg (bI_f c14)).symm.trans hF
        refine lv_iconst (v := 3) hx hb dX6_readChild_60 (by decide) ?_
        refine lv_istore_n (lv' := [(2, .int 3), (1, .int 0), (0, .ref (ad G 0))]) hx hb dX6_readChild_61 rfl hl (by decide) rfl (fun ls hl => ?_)
        refine lv_aload_n hx hb dX6_readChild_62 rfl (lv_at hl 2 rfl) ?_
        refine lv_bipush (v := 10) hx hb dX6_readChild_63 (by decide) ?_
        refine lv_iload_n hx hb dX6_readChild_65 rfl (lv_at hl 1 rfl) ?_
        refine lv_iload_n hx hb dX6_readChild_66 rfl (lv_at hl 0 rfl) ?_
        refine lv_aload_n hx hb dX6_readChild_67 rfl (lv_at hl 2 rfl) ?_
        refine r_ldcw (own := RX6) (tx := "knows") (q := sk G 14) hx hb M.1.2.2.2.1 (sR_29 M.2.2.2) dX6_readChild_68 ?_
        obtain ⟨⟨r16, v17⟩, h15, hF⟩ := bi_some hF
        dsimp only at hF
        refine k_i hS (kV_run M hS hP ok_X6_299 (c_X6_takesWord l G 14 (by decide) v12 r16 v17 h15) (rc_6 M hP rfl) rfl hl.1 rfl (Nat.le_of_ble_eq_true rfl) ⟨rfl, rfl⟩ ⟨Nat.le_of_ble_eq_true rfl, Nat.le_of_ble_eq_true rfl⟩ dX6_readChild_71) (fun H locs hP hS => ?_)
        refine lv_if_eq (tgt := 88) hx hb dX6_readChild_74 (by decide) (fun c19 => ?_) (fun c19 => ?_)
        · replace hF := (if_neg (bI_f c19)).symm.trans hF
          refine lv_iconst (v := 0) hx hb dX6_readChild_88 (by decide) ?_
          refine lv_iconst (v := 0) hx hb dX6_readChild_89 (by decide) ?_
          obtain ⟨v22, h20, hF⟩ := bi_some hF
          refine k_v hS (kV_run M hS hP ok_X6_311 (c_X6_addItem l G 10 0 3 0 0 v17 v22 h20) (rc_6 M hP rfl) rfl hl.1 rfl (Nat.le_of_ble_eq_true rfl) ⟨rfl, rfl⟩ ⟨Nat.le_of_ble_eq_true rfl, Nat.le_of_ble_eq_true rfl⟩ dX6_readChild_90) (fun H locs hP hS => ?_)
          refine lv_aload_n hx hb dX6_readChild_93 rfl (lv_at hl 2 rfl) ?_
          refine lv_dup hx hb dX6_readChild_94 rfl ?_
          refine fg_6_315 M hP dX6_readChild_95 ?_
          refine lv_iconst (v := 1) hx hb dX6_readChild_98 (by decide) ?_
          refine lv_iadd hx hb dX6_readChild_99 ?_
          refine fp_6_315 M hS hP dX6_readChild_100 (fun H locs hP hS => ?_)
          have hP : Wd G (pu v22 0 16 ((v22 0 16) + 1)) H := hP
          exact ret_v M hS hP (Option.some.inj hF) dX6_readChild_103
        · replace hF := (if_pos (bI_t c19)).symm.trans hF
          refine lv_aload_n hx hb dX6_readChild_77 rfl (lv_at hl 2 rfl) ?_
          refine lv_iconst (v := 0) hx hb dX6_readChild_78 (by decide) ?_
          refine lv_sipush (v := 4095) hx hb dX6_readChild_79 (by decide) ?_
          obtain ⟨⟨r24, v25⟩, h23, hF⟩ := bi_some hF
          dsimp only at hF
          refine k_i hS (kV_run M hS hP ok_X6_302 (c_X6_number l G 0 4095 v17 r24 v25 h23) (rc_6 M hP rfl) rfl hl.1 rfl (Nat.le_of_ble_eq_true rfl) ⟨rfl, rfl⟩ ⟨Nat.le_of_ble_eq_true rfl, Nat.le_of_ble_eq_true rfl⟩ dX6_readChild_82) (fun H locs hP hS => ?_)
          refine lv_goto (tgt := 89) hx hb dX6_readChild_85 (by decide) ?_
          refine lv_iconst (v := 0) hx hb dX6_readChild_89 (by decide) ?_
          obtain ⟨v29, h27, hF⟩ := bi_some hF
          refine k_v hS (kV_run M hS hP ok_X6_311 (c_X6_addItem l G 10 0 3 r24 0 v25 v29 h27) (rc_6 M hP rfl) rfl hl.1 rfl (Nat.le_of_ble_eq_true rfl) ⟨rfl, rfl⟩ ⟨Nat.le_of_ble_eq_true rfl, Nat.le_of_ble_eq_true rfl⟩ dX6_readChild_90) (fun H locs hP hS => ?_)
          refine lv_aload_n hx hb dX6_readChild_93 rfl (lv_at hl 2 rfl) ?_
          refine lv_dup hx hb dX6_readChild_94 rfl ?_
          refine fg_6_315 M hP dX6_readChild_95 ?_
          refine lv_iconst (v := 1) hx hb dX6_readChild_98 (by decide) ?_
          refine lv_iadd hx hb dX6_readChild_99 ?_
          refine fp_6_315 M hS hP dX6_readChild_100 (fun H locs hP hS => ?_)
          have hP : Wd G (pu v29 0 16 ((v29 0 16) + 1)) H := hP
          exact ret_v M hS hP (Option.some.inj hF) dX6_readChild_103
      · replace hF := (if_pos (bI_t c14)).symm.trans hF
        refine lv_aload_n hx hb dX6_readChild_50 rfl (lv_at hl 1 rfl) ?_
        refine lv_iconst (v := 0) hx hb dX6_readChild_51 (by decide) ?_
        refine lv_bipush (v := 9) hx hb dX6_readChild_52 (by decide) ?_
        obtain ⟨⟨r31, v32⟩, h30, hF⟩ := bi_some hF
        dsimp only at hF
        refine k_i hS (kV_run M hS hP ok_X6_302 (c_X6_number l G 0 9 v12 r31 v32 h30) (rc_6 M hP rfl) rfl hl.1 rfl (Nat.le_of_ble_eq_true rfl) ⟨rfl, rfl⟩ ⟨Nat.le_of_ble_eq_true rfl, Nat.le_of_ble_eq_true rfl⟩ dX6_readChild_54) (fun H locs hP hS => ?_)
        refine lv_goto (tgt := 61) hx hb dX6_readChild_57 (by decide) ?_
        refine lv_istore_n (lv' := [(2, .int r31), (1, .int 0), (0, .ref (ad G 0))]) hx hb dX6_readChild_61 rfl hl (by decide) rfl (fun ls hl => ?_)
        refine lv_aload_n hx hb dX6_readChild_62 rfl (lv_at hl 2 rfl) ?_
        refine lv_bipush (v := 10) hx hb dX6_readChild_63 (by decide) ?_
        refine lv_iload_n hx hb dX6_readChild_65 rfl (lv_at hl 1 rfl) ?_
        refine lv_iload_n hx hb dX6_readChild_66 rfl (lv_at hl 0 rfl) ?_
        refine lv_aload_n hx hb dX6_readChild_67 rfl (lv_at hl 2 rfl) ?_
        refine r_ldcw (own := RX6) (tx := "knows") (q := sk G 14) hx hb M.1.2.2.2.1 (sR_29 M.2.2.2) dX6_readChild_68 ?_
        obtain ⟨⟨r35, v36⟩, h34, hF⟩ := bi_some hF
        dsimp only at hF
        refine k_i hS (kV_run M hS hP ok_X6_299 (c_X6_takesWord l G 14 (by decide) v32 r35 v36 h34) (rc_6 M hP rfl) rfl hl.1 rfl (Nat.le_of_ble_eq_true rfl) ⟨rfl, rfl⟩ ⟨Nat.le_of_ble_eq_true rfl, Nat.le_of_ble_eq_true rfl⟩ dX6_readChild_71) (fun H locs hP hS => ?_)
        refine lv_if_eq (tgt := 88) hx hb dX6_readChild_74 (by decide) (fun c38 => ?_) (fun c38 => ?_)
        · replace hF := (if_neg (bI_f c38)).symm.trans hF
          refine lv_iconst (v := 0) hx hb dX6_readChild_88 (by decide) ?_
          refine lv_iconst (v := 0) hx hb dX6_readChild_89 (by decide) ?_
          obtain ⟨v41, h39, hF⟩ := bi_some hF
          refine k_v hS (kV_run M hS hP ok_X6_311 (c_X6_addItem l G 10 0 r31 0 0 v36 v41 h39) (rc_6 M hP rfl) rfl hl.1 rfl (Nat.le_of_ble_eq_true rfl) ⟨rfl, rfl⟩ ⟨Nat.le_of_ble_eq_true rfl, Nat.le_of_ble_eq_true rfl⟩ dX6_readChild_90) (fun H locs hP hS => ?_)
          refine lv_aload_n hx hb dX6_readChild_93 rfl (lv_at hl 2 rfl) ?_
          refine lv_dup hx hb dX6_readChild_94 rfl ?_
          refine fg_6_315 M hP dX6_readChild_95 ?_
          refine lv_iconst (v := 1) hx hb dX6_readChild_98 (by decide) ?_
          refine lv_iadd hx hb dX6_readChild_99 ?_
          refine fp_6_315 M hS hP dX6_readChild_100 (fun H locs hP hS => ?_)
          have hP : Wd G (pu v41 0 16 ((v41 0 16) + 1)) H := hP
          exact ret_v M hS hP (Option.some.inj hF) dX6_readChild_103
        · replace hF := (if_pos (bI_t c38)).symm.trans hF
          refine lv_aload_n hx hb dX6_readChild_77 rfl (lv_at hl 2 rfl) ?_
          refine lv_iconst (v := 0) hx hb dX6_readChild_78 (by decide) ?_
          refine lv_sipush (v := 4095) hx hb dX6_readChild_79 (by decide) ?_
          obtain ⟨⟨r43, v44⟩, h42, hF⟩ := bi_some hF
          dsimp only at hF
          refine k_i hS (kV_run M hS hP ok_X6_302 (c_X6_number l G 0 4095 v36 r43 v44 h42) (rc_6 M hP rfl) rfl hl.1 rfl (Nat.le_of_ble_eq_true rfl) ⟨rfl, rfl⟩ ⟨Nat.le_of_ble_eq_true rfl, Nat.le_of_ble_eq_true rfl⟩ dX6_readChild_82) (fun H locs hP hS => ?_)
          refine lv_goto (tgt := 89) hx hb dX6_readChild_85 (by decide) ?_
          refine lv_iconst (v := 0) hx hb dX6_readChild_89 (by decide) ?_
          obtain ⟨v48, h46, hF⟩ := bi_some hF
          refine k_v hS (kV_run M hS hP ok_X6_311 (c_X6_addItem l G 10 0 r31 r43 0 v44 v48 h46) (rc_6 M hP rfl) rfl hl.1 rfl (Nat.le_of_ble_eq_true rfl) ⟨rfl, rfl⟩ ⟨Nat.le_of_ble_eq_true rfl, Nat.le_of_ble_eq_true rfl⟩ dX6_readChild_90) (fun H locs hP hS => ?_)
          refine lv_aload_n hx hb dX6_readChild_93 rfl (lv_at hl 2 rfl) ?_
          refine lv_dup hx hb dX6_readChild_94 rfl ?_
          refine fg_6_315 M hP dX6_readChild_95 ?_
          refine lv_iconst (v := 1) hx hb dX6_readChild_98 (by decide) ?_
          refine lv_iadd hx hb dX6_readChild_99 ?_
          refine fp_6_315 M hS hP dX6_readChild_100 (fun H locs hP hS => ?_)
          have hP : Wd G (pu v48 0 16 ((v48 0 16) + 1)) H := hP
          exact ret_v M hS hP (Option.some.inj hF) dX6_readChild_103
    · replace hF := (if_pos (bI_t c9)).symm.trans hF
      refine lv_aload_n hx hb dX6_readChild_28 rfl (lv_at hl 0 rfl) ?_
      refine lv_iconst (v := 0) hx hb dX6_readChild_29 (by decide) ?_
      refine lv_bipush (v := 15) hx hb dX6_readChild_30 (by decide) ?_
      obtain ⟨⟨r50, v51⟩, h49, hF⟩ := bi_some hF
      dsimp only at hF
      refine k_i hS (kV_run M hS hP ok_X6_302 (c_X6_number l G 0 15 v7 r50 v51 h49) (rc_6 M hP rfl) rfl hl.1 rfl (Nat.le_of_ble_eq_true rfl) ⟨rfl, rfl⟩ ⟨Nat.le_of_ble_eq_true rfl, Nat.le_of_ble_eq_true rfl⟩ dX6_readChild_32) (fun H locs hP hS => ?_)
      refine lv_goto (tgt := 39) hx hb dX6_readChild_35 (by decide) ?_
      refine lv_istore_n (lv' := [(1, .int r50), (0, .ref (ad G 0))]) hx hb dX6_readChild_39 rfl hl (by decide) rfl (fun ls hl => ?_)
      refine lv_aload_n hx hb dX6_readChild_40 rfl (lv_at hl 1 rfl) ?_
      refine r_ldcw (own := RX6) (tx := "quick") (q := sk G 13) hx hb M.1.2.2.2.1 (sR_28 M.2.2.2) dX6_readChild_41 ?_
      obtain ⟨⟨r54, v55⟩, h53, hF⟩ := bi_some hF
      dsimp only at hF
      refine k_i hS (kV_run M hS hP ok_X6_299 (c_X6_takesWord l G 13 (by decide) v51 r54 v55 h53) (rc_6 M hP rfl) rfl hl.1 rfl (Nat.le_of_ble_eq_true rfl) ⟨rfl, rfl⟩ ⟨Nat.le_of_ble_eq_true rfl, Nat.le_of_ble_eq_true rfl⟩ dX6_readChild_44) (fun H locs hP hS => ?_)
      refine lv_if_eq (tgt := 60) hx hb dX6_readChild_47 (by decide) (fun c57 => ?_) (fun c57 => ?_)
      · replace hF := (if_neg (bI_f c57)).symm.trans hF
        refine lv_iconst (v := 3) hx hb dX6_readChild_60 (by decide) ?_
        refine lv_istore_n (lv' := [(2, .int 3), (1, .int r50), (0, .ref (ad G 0))]) hx hb dX6_readChild_61 rfl hl (by decide) rfl (fun ls hl => ?_)
        refine lv_aload_n hx hb dX6_readChild_62 rfl (lv_at hl 2 rfl) ?_
        refine lv_bipush (v := 10) hx hb dX6_readChild_63 (by decide) ?_
        refine lv_iload_n hx hb dX6_readChild_65 rfl (lv_at hl 1 rfl) ?_
        refine lv_iload_n hx hb dX6_readChild_66 rfl (lv_at hl 0 rfl) ?_
        refine lv_aload_n hx hb dX6_readChild_67 rfl (lv_at hl 2 rfl) ?_
        refine r_ldcw (own := RX6) (tx := "knows") (q := sk G 14) hx hb M.1.2.2.2.1 (sR_29 M.2.2.2) dX6_readChild_68 ?_
        obtain ⟨⟨r59, v60⟩, h58, hF⟩ := bi_some hF
        dsimp only at hF
        refine k_i hS (kV_run M hS hP ok_X6_299 (c_X6_takesWord l G 14 (by decide) v55 r59 v60 h58) (rc_6 M hP rfl) rfl hl.1 rfl (Nat.le_of_ble_eq_true rfl) ⟨rfl, rfl⟩ ⟨Nat.le_of_ble_eq_true rfl, Nat.le_of_ble_eq_true rfl⟩ dX6_readChild_71) (fun H locs hP hS => ?_)
        refine lv_if_eq (tgt := 88) hx hb dX6_readChild_74 (by decide) (fun c62 => ?_) (fun c62 => ?_)
        · replace hF := (if_neg (bI_f c62)).symm.trans hF
          refine lv_iconst (v := 0) hx hb dX6_readChild_88 (by decide) ?_
          refine lv_iconst (v := 0) hx hb dX6_readChild_89 (by decide) ?_
          obtain ⟨v65, h63, hF⟩ := bi_some hF
          refine k_v hS (kV_run M hS hP ok_X6_311 (c_X6_addItem l G 10 r50 3 0 0 v60 v65 h63) (rc_6 M hP rfl) rfl hl.1 rfl (Nat.le_of_ble_eq_true rfl) ⟨rfl, rfl⟩ ⟨Nat.le_of_ble_eq_true rfl, Nat.le_of_ble_eq_true rfl⟩ dX6_readChild_90) (fun H locs hP hS => ?_)
          refine lv_aload_n hx hb dX6_readChild_93 rfl (lv_at hl 2 rfl) ?_
          refine lv_dup hx hb dX6_readChild_94 rfl ?_
          refine fg_6_315 M hP dX6_readChild_95 ?_
          refine lv_iconst (v := 1) hx hb dX6_readChild_98 (by decide) ?_
          refine lv_iadd hx hb dX6_readChild_99 ?_
          refine fp_6_315 M hS hP dX6_readChild_100 (fun H locs hP hS => ?_)
          have hP : Wd G (pu v65 0 16 ((v65 0 16) + 1)) H := hP
          exact ret_v M hS hP (Option.some.inj hF) dX6_readChild_103
        · replace hF := (if_pos (bI_t c62)).symm.trans hF
          refine lv_aload_n hx hb dX6_readChild_77 rfl (lv_at hl 2 rfl) ?_
          refine lv_iconst (v := 0) hx hb dX6_readChild_78 (by decide) ?_
          refine lv_sipush (v := 4095) hx hb dX6_readChild_79 (by decide) ?_
          obtain ⟨⟨r67, v68⟩, h66, hF⟩ := bi_some hF
          dsimp only at hF
          refine k_i hS (kV_run M hS hP ok_X6_302 (c_X6_number l G 0 4095 v60 r67 v68 h66) (rc_6 M hP rfl) rfl hl.1 rfl (Nat.le_of_ble_eq_true rfl) ⟨rfl, rfl⟩ ⟨Nat.le_of_ble_eq_true rfl, Nat.le_of_ble_eq_true rfl⟩ dX6_readChild_82) (fun H locs hP hS => ?_)
          refine lv_goto (tgt := 89) hx hb dX6_readChild_85 (by decide) ?_
          refine lv_iconst (v := 0) hx hb dX6_readChild_89 (by decide) ?_
          obtain ⟨v72, h70, hF⟩ := bi_some hF
          refine k_v hS (kV_run M hS hP ok_X6_311 (c_X6_addItem l G 10 r50 3 r67 0 v68 v72 h70) (rc_6 M hP rfl) rfl hl.1 rfl (Nat.le_of_ble_eq_true rfl) ⟨rfl, rfl⟩ ⟨Nat.le_of_ble_eq_true rfl, Nat.le_of_ble_eq_true rfl⟩ dX6_readChild_90) (fun H locs hP hS => ?_)
          refine lv_aload_n hx hb dX6_readChild_93 rfl (lv_at hl 2 rfl) ?_
          refine lv_dup hx hb dX6_readChild_94 rfl ?_
          refine fg_6_315 M hP dX6_readChild_95 ?_
          refine lv_iconst (v := 1) hx hb dX6_readChild_98 (by decide) ?_
          refine lv_iadd hx hb dX6_readChild_99 ?_
          refine fp_6_315 M hS hP dX6_readChild_100 (fun H locs hP hS => ?_)
          have hP : Wd G (pu v72 0 16 ((v72 0 16) + 1)) H := hP
          exact ret_v M hS hP (Option.some.inj hF) dX6_readChild_103
      · replace hF := (if_pos (bI_t c57)).symm.trans hF
        refine lv_aload_n hx hb dX6_readChild_50 rfl (lv_at hl 1 rfl) ?_
        refine lv_iconst (v := 0) hx hb dX6_readChild_51 (by decide) ?_
        refine lv_bipush (v := 9) hx hb dX6_readChild_52 (by decide) ?_
        obtain ⟨⟨r74, v75⟩, h73, hF⟩ := bi_some hF
        dsimp only at hF
        refine k_i hS (kV_run M hS hP ok_X6_302 (c_X6_number l G 0 9 v55 r74 v75 h73) (rc_6 M hP rfl) rfl hl.1 rfl (Nat.le_of_ble_eq_true rfl) ⟨rfl, rfl⟩ ⟨Nat.le_of_ble_eq_true rfl, Nat.le_of_ble_eq_true rfl⟩ dX6_readChild_54) (fun H locs hP hS => ?_)
        refine lv_goto (tgt := 61) hx hb dX6_readChild_57 (by decide) ?_
        refine lv_istore_n (lv' := [(2, .int r74), (1, .int r50), (0, .ref (ad G 0))]) hx hb dX6_readChild_61 rfl hl (by decide) rfl (fun ls hl => ?_)
        refine lv_aload_n hx hb dX6_readChild_62 rfl (lv_at hl 2 rfl) ?_
        refine lv_bipush (v := 10) hx hb dX6_readChild_63 (by decide) ?_
        refine lv_iload_n hx hb dX6_readChild_65 rfl (lv_at hl 1 rfl) ?_
        refine lv_iload_n hx hb dX6_readChild_66 rfl (lv_at hl 0 rfl) ?_
        refine lv_aload_n hx hb dX6_readChild_67 rfl (lv_at hl 2 rfl) ?_
        refine r_ldcw (own := RX6) (tx := "knows") (q := sk G 14) hx hb M.1.2.2.2.1 (sR_29 M.2.2.2) dX6_readChild_68 ?_
        obtain ⟨⟨r78, v79⟩, h77, hF⟩ := bi_some hF
        dsimp only at hF
        refine k_i hS (kV_run M hS hP ok_X6_299 (c_X6_takesWord l G 14 (by decide) v75 r78 v79 h77) (rc_6 M hP rfl) rfl hl.1 rfl (Nat.le_of_ble_eq_true rfl) ⟨rfl, rfl⟩ ⟨Nat.le_of_ble_eq_true rfl, Nat.le_of_ble_eq_true rfl⟩ dX6_readChild_71) (fun H locs hP hS => ?_)
        refine lv_if_eq (tgt := 88) hx hb dX6_readChild_74 (by decide) (fun c81 => ?_) (fun c81 => ?_)
        · replace hF := (if_neg (bI_f c81)).symm.trans hF
          refine lv_iconst (v := 0) hx hb dX6_readChild_88 (by decide) ?_
          refine lv_iconst (v := 0) hx hb dX6_readChild_89 (by decide) ?_
          obtain ⟨v84, h82, hF⟩ := bi_some hF
          refine k_v hS (kV_run M hS hP ok_X6_311 (c_X6_addItem l G 10 r50 r74 0 0 v79 v84 h82) (rc_6 M hP rfl) rfl hl.1 rfl (Nat.le_of_ble_eq_true rfl) ⟨rfl, rfl⟩ ⟨Nat.le_of_ble_eq_true rfl, Nat.le_of_ble_eq_true rfl⟩ dX6_readChild_90) (fun H locs hP hS => ?_)
          refine lv_aload_n hx hb dX6_readChild_93 rfl (lv_at hl 2 rfl) ?_
          refine lv_dup hx hb dX6_readChild_94 rfl ?_
          refine fg_6_315 M hP dX6_readChild_95 ?_
          refine lv_iconst (v := 1) hx hb dX6_readChild_98 (by decide) ?_
          refine lv_iadd hx hb dX6_readChild_99 ?_
          refine fp_6_315 M hS hP dX6_readChild_100 (fun H locs hP hS => ?_)
          have hP : Wd G (pu v84 0 16 ((v84 0 16) + 1)) H := hP
          exact ret_v M hS hP (Option.some.inj hF) dX6_readChild_103
        · replace hF := (if_pos (bI_t c81)).symm.trans hF
          refine lv_aload_n hx hb dX6_readChild_77 rfl (lv_at hl 2 rfl) ?_
          refine lv_iconst (v := 0) hx hb dX6_readChild_78 (by decide) ?_
          refine lv_sipush (v := 4095) hx hb dX6_readChild_79 (by decide) ?_
          obtain ⟨⟨r86, v87⟩, h85, hF⟩ := bi_some hF
          dsimp only at hF
          refine k_i hS (kV_run M hS hP ok_X6_302 (c_X6_number l G 0 4095 v79 r86 v87 h85) (rc_6 M hP rfl) rfl hl.1 rfl (Nat.le_of_ble_eq_true rfl) ⟨rfl, rfl⟩ ⟨Nat.le_of_ble_eq_true rfl, Nat.le_of_ble_eq_true rfl⟩ dX6_readChild_82) (fun H locs hP hS => ?_)
          refine lv_goto (tgt := 89) hx hb dX6_readChild_85 (by decide) ?_
          refine lv_iconst (v := 0) hx hb dX6_readChild_89 (by decide) ?_
          obtain ⟨v91, h89, hF⟩ := bi_some hF
          refine k_v hS (kV_run M hS hP ok_X6_311 (c_X6_addItem l G 10 r50 r74 r86 0 v87 v91 h89) (rc_6 M hP rfl) rfl hl.1 rfl (Nat.le_of_ble_eq_true rfl) ⟨rfl, rfl⟩ ⟨Nat.le_of_ble_eq_true rfl, Nat.le_of_ble_eq_true rfl⟩ dX6_readChild_90) (fun H locs hP hS => ?_)
          refine lv_aload_n hx hb dX6_readChild_93 rfl (lv_at hl 2 rfl) ?_
          refine lv_dup hx hb dX6_readChild_94 rfl ?_
          refine fg_6_315 M hP dX6_readChild_95 ?_
          refine lv_iconst (v := 1) hx hb dX6_readChild_98 (by decide) ?_
          refine lv_iadd hx hb dX6_readChild_99 ?_
          refine fp_6_315 M hS hP dX6_readChild_100 (fun H locs hP hS => ?_)
          have hP : Wd G (pu v91 0 16 ((v91 0 16) + 1)) H := hP
          exact ret_v M hS hP (Option.some.inj hF) dX6_readChild_103
  · replace hF := (if_neg c1).symm.trans hF
    refine lv_iconst (v := 1) hx hb dX6_readChild_10 (by decide) ?_
    refine lv_goto (tgt := 15) hx hb dX6_readChild_11 (by decide) ?_
    obtain ⟨v94, h92, hF⟩ := bi_some hF
    refine k_v hS (kV_run M hS hP ok_X6_283 (c_X6_must l G 1 v v94 h92) (rc_6 M hP rfl) rfl hl.1 rfl (Nat.le_of_ble_eq_true rfl) ⟨rfl, rfl⟩ ⟨Nat.le_of_ble_eq_true rfl, Nat.le_of_ble_eq_true rfl⟩ dX6_readChild_15) (fun H locs hP hS => ?_)
    refine lv_aload_n hx hb dX6_readChild_18 rfl (lv_at hl 0 rfl) ?_
    refine r_ldcw (own := RX6) (tx := "at") (q := sk G 9) hx hb M.1.2.2.2.1 (sR_24 M.2.2.2) dX6_readChild_19 ?_
    obtain ⟨⟨r96, v97⟩, h95, hF⟩ := bi_some hF
    dsimp only at hF
    refine k_i hS (kV_run M hS hP ok_X6_299 (c_X6_takesWord l G 9 (by decide) v94 r96 v97 h95) (rc_6 M hP rfl) rfl hl.1 rfl (Nat.le_of_ble_eq_true rfl) ⟨rfl, rfl⟩ ⟨Nat.le_of_ble_eq_true rfl, Nat.le_of_ble_eq_true rfl⟩ dX6_readChild_22) (fun H locs hP hS => ?_)
    refine lv_if_eq (tgt := 38) hx hb dX6_readChild_25 (by decide) (fun c99 => ?_) (fun c99 => ?_)
    · replace hF := (if_neg (bI_f c99)).symm.trans hF
      refine lv_iconst (v := 0) hx hb dX6_readChild_38 (by decide) ?_
      refine lv_istore_n (lv' := [(1, .int 0), (0, .ref (ad G 0))]) hx hb dX6_readChild_39 rfl hl (by decide) rfl (fun ls hl => ?_)
      refine lv_aload_n hx hb dX6_readChild_40 rfl (lv_at hl 1 rfl) ?_
      refine r_ldcw (own := RX6) (tx := "quick") (q := sk G 13) hx hb M.1.2.2.2.1 (sR_28 M.2.2.2) dX6_readChild_41 ?_
      obtain ⟨⟨r101, v102⟩, h100, hF⟩ := bi_some hF
      dsimp only at hF
      refine k_i hS (kV_run M hS hP ok_X6_299 (c_X6_takesWord l G 13 (by decide) v97 r101 v102 h100) (rc_6 M hP rfl) rfl hl.1 rfl (Nat.le_of_ble_eq_true rfl) ⟨rfl, rfl⟩ ⟨Nat.le_of_ble_eq_true rfl, Nat.le_of_ble_eq_true rfl⟩ dX6_readChild_44) (fun H locs hP hS => ?_)
      refine lv_if_eq (tgt := 60) hx hb dX6_readChild_47 (by decide) (fun c104 => ?_) (fun c104 => ?_)
      · replace hF := (if_neg (bI_f c104)).symm.trans hF
        refine lv_iconst (v := 3) hx hb dX6_readChild_60 (by decide) ?_
        refine lv_istore_n (lv' := [(2, .int 3), (1, .int 0), (0, .ref (ad G 0))]) hx hb dX6_readChild_61 rfl hl (by decide) rfl (fun ls hl => ?_)
        refine lv_aload_n hx hb dX6_readChild_62 rfl (lv_at hl 2 rfl) ?_
        refine lv_bipush (v := 10) hx hb dX6_readChild_63 (by decide) ?_
        refine lv_iload_n hx hb dX6_readChild_65 rfl (lv_at hl 1 rfl) ?_
        refine lv_iload_n hx hb dX6_readChild_66 rfl (lv_at hl 0 rfl) ?_
        refine lv_aload_n hx hb dX6_readChild_67 rfl (lv_at hl 2 rfl) ?_
        refine r_ldcw (own := RX6) (tx := "knows") (q := sk G 14) hx hb M.1.2.2.2.1 (sR_29 M.2.2.2) dX6_readChild_68 ?_
        obtain ⟨⟨r106, v107⟩, h105, hF⟩ := bi_some hF
        dsimp only at hF
        refine k_i hS (kV_run M hS hP ok_X6_299 (c_X6_takesWord l G 14 (by decide) v102 r106 v107 h105) (rc_6 M hP rfl) rfl hl.1 rfl (Nat.le_of_ble_eq_true rfl) ⟨rfl, rfl⟩ ⟨Nat.le_of_ble_eq_true rfl, Nat.le_of_ble_eq_true rfl⟩ dX6_readChild_71) (fun H locs hP hS => ?_)
        refine lv_if_eq (tgt := 88) hx hb dX6_readChild_74 (by decide) (fun c109 => ?_) (fun c109 => ?_)
        · replace hF := (if_neg (bI_f c109)).symm.trans hF
          refine lv_iconst (v := 0) hx hb dX6_readChild_88 (by decide) ?_
          refine lv_iconst (v := 0) hx hb dX6_readChild_89 (by decide) ?_
          obtain ⟨v112, h110, hF⟩ := bi_some hF
          refine k_v hS (kV_run M hS hP ok_X6_311 (c_X6_addItem l G 10 0 3 0 0 v107 v112 h110) (rc_6 M hP rfl) rfl hl.1 rfl (Nat.le_of_ble_eq_true rfl) ⟨rfl, rfl⟩ ⟨Nat.le_of_ble_eq_true rfl, Nat.le_of_ble_eq_true rfl⟩ dX6_readChild_90) (fun H locs hP hS => ?_)
          refine lv_aload_n hx hb dX6_readChild_93 rfl (lv_at hl 2 rfl) ?_
          refine lv_dup hx hb dX6_readChild_94 rfl ?_
          refine fg_6_315 M hP dX6_readChild_95 ?_
          refine lv_iconst (v := 1) hx hb dX6_readChild_98 (by decide) ?_
          refine lv_iadd hx hb dX6_readChild_99 ?_
          refine fp_6_315 M hS hP dX6_readChild_100 (fun H locs hP hS => ?_)
          have hP : Wd G (pu v112 0 16 ((v112 0 16) + 1)) H := hP
          exact ret_v M hS hP (Option.some.inj hF) dX6_readChild_103
        · replace hF := (if_pos (bI_t c109)).symm.trans hF
          refine lv_aload_n hx hb dX6_readChild_77 rfl (lv_at hl 2 rfl) ?_
          refine lv_iconst (v := 0) hx hb dX6_readChild_78 (by decide) ?_
          refine lv_sipush (v := 4095) hx hb dX6_readChild_79 (by decide) ?_
          obtain ⟨⟨r114, v115⟩, h113, hF⟩ := bi_some hF
          dsimp only at hF
          refine k_i hS (kV_run M hS hP ok_X6_302 (c_X6_number l G 0 4095 v107 r114 v115 h113) (rc_6 M hP rfl) rfl hl.1 rfl (Nat.le_of_ble_eq_true rfl) ⟨rfl, rfl⟩ ⟨Nat.le_of_ble_eq_true rfl, Nat.le_of_ble_eq_true rfl⟩ dX6_readChild_82) (fun H locs hP hS => ?_)
          refine lv_goto (tgt := 89) hx hb dX6_readChild_85 (by decide) ?_
          refine lv_iconst (v := 0) hx hb dX6_readChild_89 (by decide) ?_
          obtain ⟨v119, h117, hF⟩ := bi_some hF
          refine k_v hS (kV_run M hS hP ok_X6_311 (c_X6_addItem l G 10 0 3 r114 0 v115 v119 h117) (rc_6 M hP rfl) rfl hl.1 rfl (Nat.le_of_ble_eq_true rfl) ⟨rfl, rfl⟩ ⟨Nat.le_of_ble_eq_true rfl, Nat.le_of_ble_eq_true rfl⟩ dX6_readChild_90) (fun H locs hP hS => ?_)
          refine lv_aload_n hx hb dX6_readChild_93 rfl (lv_at hl 2 rfl) ?_
          refine lv_dup hx hb dX6_readChild_94 rfl ?_
          refine fg_6_315 M hP dX6_readChild_95 ?_
          refine lv_iconst (v := 1) hx hb dX6_readChild_98 (by decide) ?_
          refine lv_iadd hx hb dX6_readChild_99 ?_
          refine fp_6_315 M hS hP dX6_readChild_100 (fun H locs hP hS => ?_)
          have hP : Wd G (pu v119 0 16 ((v119 0 16) + 1)) H := hP
          exact ret_v M hS hP (Option.some.inj hF) dX6_readChild_103
      · replace hF := (if_pos (bI_t c104)).symm.trans hF
        refine lv_aload_n hx hb dX6_readChild_50 rfl (lv_at hl 1 rfl) ?_
        refine lv_iconst (v := 0) hx hb dX6_readChild_51 (by decide) ?_
        refine lv_bipush (v := 9) hx hb dX6_readChild_52 (by decide) ?_
        obtain ⟨⟨r121, v122⟩, h120, hF⟩ := bi_some hF
        dsimp only at hF
        refine k_i hS (kV_run M hS hP ok_X6_302 (c_X6_number l G 0 9 v102 r121 v122 h120) (rc_6 M hP rfl) rfl hl.1 rfl (Nat.le_of_ble_eq_true rfl) ⟨rfl, rfl⟩ ⟨Nat.le_of_ble_eq_true rfl, Nat.le_of_ble_eq_true rfl⟩ dX6_readChild_54) (fun H locs hP hS => ?_)
        refine lv_goto (tgt := 61) hx hb dX6_readChild_57 (by decide) ?_
        refine lv_istore_n (lv' := [(2, .int r121), (1, .int 0), (0, .ref (ad G 0))]) hx hb dX6_readChild_61 rfl hl (by decide) rfl (fun ls hl => ?_)
        refine lv_aload_n hx hb dX6_readChild_62 rfl (lv_at hl 2 rfl) ?_
        refine lv_bipush (v := 10) hx hb dX6_readChild_63 (by decide) ?_
        refine lv_iload_n hx hb dX6_readChild_65 rfl (lv_at hl 1 rfl) ?_
        refine lv_iload_n hx hb dX6_readChild_66 rfl (lv_at hl 0 rfl) ?_
        refine lv_aload_n hx hb dX6_readChild_67 rfl (lv_at hl 2 rfl) ?_
        refine r_ldcw (own := RX6) (tx := "knows") (q := sk G 14) hx hb M.1.2.2.2.1 (sR_29 M.2.2.2) dX6_readChild_68 ?_
        obtain ⟨⟨r125, v126⟩, h124, hF⟩ := bi_some hF
        dsimp only at hF
        refine k_i hS (kV_run M hS hP ok_X6_299 (c_X6_takesWord l G 14 (by decide) v122 r125 v126 h124) (rc_6 M hP rfl) rfl hl.1 rfl (Nat.le_of_ble_eq_true rfl) ⟨rfl, rfl⟩ ⟨Nat.le_of_ble_eq_true rfl, Nat.le_of_ble_eq_true rfl⟩ dX6_readChild_71) (fun H locs hP hS => ?_)
        refine lv_if_eq (tgt := 88) hx hb dX6_readChild_74 (by decide) (fun c128 => ?_) (fun c128 => ?_)
        · replace hF := (if_neg (bI_f c128)).symm.trans hF
          refine lv_iconst (v := 0) hx hb dX6_readChild_88 (by decide) ?_
          refine lv_iconst (v := 0) hx hb dX6_readChild_89 (by decide) ?_
          obtain ⟨v131, h129, hF⟩ := bi_some hF
          refine k_v hS (kV_run M hS hP ok_X6_311 (c_X6_addItem l G 10 0 r121 0 0 v126 v131 h129) (rc_6 M hP rfl) rfl hl.1 rfl (Nat.le_of_ble_eq_true rfl) ⟨rfl, rfl⟩ ⟨Nat.le_of_ble_eq_true rfl, Nat.le_of_ble_eq_true rfl⟩ dX6_readChild_90) (fun H locs hP hS => ?_)
          refine lv_aload_n hx hb dX6_readChild_93 rfl (lv_at hl 2 rfl) ?_
          refine lv_dup hx hb dX6_readChild_94 rfl ?_
          refine fg_6_315 M hP dX6_readChild_95 ?_
          refine lv_iconst (v := 1) hx hb dX6_readChild_98 (by decide) ?_
          refine lv_iadd hx hb dX6_readChild_99 ?_
          refine fp_6_315 M hS hP dX6_readChild_100 (fun H locs hP hS => ?_)
          have hP : Wd G (pu v131 0 16 ((v131 0 16) + 1)) H := hP
          exact ret_v M hS hP (Option.some.inj hF) dX6_readChild_103
        · replace hF := (if_pos (bI_t c128)).symm.trans hF
          refine lv_aload_n hx hb dX6_readChild_77 rfl (lv_at hl 2 rfl) ?_
          refine lv_iconst (v := 0) hx hb dX6_readChild_78 (by decide) ?_
          refine lv_sipush (v := 4095) hx hb dX6_readChild_79 (by decide) ?_
          obtain ⟨⟨r133, v134⟩, h132, hF⟩ := bi_some hF
          dsimp only at hF
          refine k_i hS (kV_run M hS hP ok_X6_302 (c_X6_number l G 0 4095 v126 r133 v134 h132) (rc_6 M hP rfl) rfl hl.1 rfl (Nat.le_of_ble_eq_true rfl) ⟨rfl, rfl⟩ ⟨Nat.le_of_ble_eq_true rfl, Nat.le_of_ble_eq_true rfl⟩ dX6_readChild_82) (fun H locs hP hS => ?_)
          refine lv_goto (tgt := 89) hx hb dX6_readChild_85 (by decide) ?_
          refine lv_iconst (v := 0) hx hb dX6_readChild_89 (by decide) ?_
          obtain ⟨v138, h136, hF⟩ := bi_some hF
          refine k_v hS (kV_run M hS hP ok_X6_311 (c_X6_addItem l G 10 0 r121 r133 0 v134 v138 h136) (rc_6 M hP rfl) rfl hl.1 rfl (Nat.le_of_ble_eq_true rfl) ⟨rfl, rfl⟩ ⟨Nat.le_of_ble_eq_true rfl, Nat.le_of_ble_eq_true rfl⟩ dX6_readChild_90) (fun H locs hP hS => ?_)
          refine lv_aload_n hx hb dX6_readChild_93 rfl (lv_at hl 2 rfl) ?_
          refine lv_dup hx hb dX6_readChild_94 rfl ?_
          refine fg_6_315 M hP dX6_readChild_95 ?_
          refine lv_iconst (v := 1) hx hb dX6_readChild_98 (by decide) ?_
          refine lv_iadd hx hb dX6_readChild_99 ?_
          refine fp_6_315 M hS hP dX6_readChild_100 (fun H locs hP hS => ?_)
          have hP : Wd G (pu v138 0 16 ((v138 0 16) + 1)) H := hP
          exact ret_v M hS hP (Option.some.inj hF) dX6_readChild_103
    · replace hF := (if_pos (bI_t c99)).symm.trans hF
      refine lv_aload_n hx hb dX6_readChild_28 rfl (lv_at hl 0 rfl) ?_
      refine lv_iconst (v := 0) hx hb dX6_readChild_29 (by decide) ?_
      refine lv_bipush (v := 15) hx hb dX6_readChild_30 (by decide) ?_
      obtain ⟨⟨r140, v141⟩, h139, hF⟩ := bi_some hF
      dsimp only at hF
      refine k_i hS (kV_run M hS hP ok_X6_302 (c_X6_number l G 0 15 v97 r140 v141 h139) (rc_6 M hP rfl) rfl hl.1 rfl (Nat.le_of_ble_eq_true rfl) ⟨rfl, rfl⟩ ⟨Nat.le_of_ble_eq_true rfl, Nat.le_of_ble_eq_true rfl⟩ dX6_readChild_32) (fun H locs hP hS => ?_)
      refine lv_goto (tgt := 39) hx hb dX6_readChild_35 (by decide) ?_
      refine lv_istore_n (lv' := [(1, .int r140), (0, .ref (ad G 0))]) hx hb dX6_readChild_39 rfl hl (by decide) rfl (fun ls hl => ?_)
      refine lv_aload_n hx hb dX6_readChild_40 rfl (lv_at hl 1 rfl) ?_
      refine r_ldcw (own := RX6) (tx := "quick") (q := sk G 13) hx hb M.1.2.2.2.1 (sR_28 M.2.2.2) dX6_readChild_41 ?_
      obtain ⟨⟨r144, v145⟩, h143, hF⟩ := bi_some hF
      dsimp only at hF
      refine k_i hS (kV_run M hS hP ok_X6_299 (c_X6_takesWord l G 13 (by decide) v141 r144 v145 h143) (rc_6 M hP rfl) rfl hl.1 rfl (Nat.le_of_ble_eq_true rfl) ⟨rfl, rfl⟩ ⟨Nat.le_of_ble_eq_true rfl, Nat.le_of_ble_eq_true rfl⟩ dX6_readChild_44) (fun H locs hP hS => ?_)
      refine lv_if_eq (tgt := 60) hx hb dX6_readChild_47 (by decide) (fun c147 => ?_) (fun c147 => ?_)
      · replace hF := (if_neg (bI_f c147)).symm.trans hF
        refine lv_iconst (v := 3) hx hb dX6_readChild_60 (by decide) ?_
        refine lv_istore_n (lv' := [(2, .int 3), (1, .int r140), (0, .ref (ad G 0))]) hx hb dX6_readChild_61 rfl hl (by decide) rfl (fun ls hl => ?_)
        refine lv_aload_n hx hb dX6_readChild_62 rfl (lv_at hl 2 rfl) ?_
        refine lv_bipush (v := 10) hx hb dX6_readChild_63 (by decide) ?_
        refine lv_iload_n hx hb dX6_readChild_65 rfl (lv_at hl 1 rfl) ?_
        refine lv_iload_n hx hb dX6_readChild_66 rfl (lv_at hl 0 rfl) ?_
        refine lv_aload_n hx hb dX6_readChild_67 rfl (lv_at hl 2 rfl) ?_
        refine r_ldcw (own := RX6) (tx := "knows") (q := sk G 14) hx hb M.1.2.2.2.1 (sR_29 M.2.2.2) dX6_readChild_68 ?_
        obtain ⟨⟨r149, v150⟩, h148, hF⟩ := bi_some hF
        dsimp only at hF
        refine k_i hS (kV_run M hS hP ok_X6_299 (c_X6_takesWord l G 14 (by decide) v145 r149 v150 h148) (rc_6 M hP rfl) rfl hl.1 rfl (Nat.le_of_ble_eq_true rfl) ⟨rfl, rfl⟩ ⟨Nat.le_of_ble_eq_true rfl, Nat.le_of_ble_eq_true rfl⟩ dX6_readChild_71) (fun H locs hP hS => ?_)
        refine lv_if_eq (tgt := 88) hx hb dX6_readChild_74 (by decide) (fun c152 => ?_) (fun c152 => ?_)
        · replace hF := (if_neg (bI_f c152)).symm.trans hF
          refine lv_iconst (v := 0) hx hb dX6_readChild_88 (by decide) ?_
          refine lv_iconst (v := 0) hx hb dX6_readChild_89 (by decide) ?_
          obtain ⟨v155, h153, hF⟩ := bi_some hF
          refine k_v hS (kV_run M hS hP ok_X6_311 (c_X6_addItem l G 10 r140 3 0 0 v150 v155 h153) (rc_6 M hP rfl) rfl hl.1 rfl (Nat.le_of_ble_eq_true rfl) ⟨rfl, rfl⟩ ⟨Nat.le_of_ble_eq_true rfl, Nat.le_of_ble_eq_true rfl⟩ dX6_readChild_90) (fun H locs hP hS => ?_)
          refine lv_aload_n hx hb dX6_readChild_93 rfl (lv_at hl 2 rfl) ?_
          refine lv_dup hx hb dX6_readChild_94 rfl ?_
          refine fg_6_315 M hP dX6_readChild_95 ?_
          refine lv_iconst (v := 1) hx hb dX6_readChild_98 (by decide) ?_
          refine lv_iadd hx hb dX6_readChild_99 ?_
          refine fp_6_315 M hS hP dX6_readChild_100 (fun H locs hP hS => ?_)
          have hP : Wd G (pu v155 0 16 ((v155 0 16) + 1)) H := hP
          exact ret_v M hS hP (Option.some.inj hF) dX6_readChild_103
        · replace hF := (if_pos (bI_t c152)).symm.trans hF
          refine lv_aload_n hx hb dX6_readChild_77 rfl (lv_at hl 2 rfl) ?_
          refine lv_iconst (v := 0) hx hb dX6_readChild_78 (by decide) ?_
          refine lv_sipush (v := 4095) hx hb dX6_readChild_79 (by decide) ?_
          obtain ⟨⟨r157, v158⟩, h156, hF⟩ := bi_some hF
          dsimp only at hF
          refine k_i hS (kV_run M hS hP ok_X6_302 (c_X6_number l G 0 4095 v150 r157 v158 h156) (rc_6 M hP rfl) rfl hl.1 rfl (Nat.le_of_ble_eq_true rfl) ⟨rfl, rfl⟩ ⟨Nat.le_of_ble_eq_true rfl, Nat.le_of_ble_eq_true rfl⟩ dX6_readChild_82) (fun H locs hP hS => ?_)
          refine lv_goto (tgt := 89) hx hb dX6_readChild_85 (by decide) ?_
          refine lv_iconst (v := 0) hx hb dX6_readChild_89 (by decide) ?_
          obtain ⟨v162, h160, hF⟩ := bi_some hF
          refine k_v hS (kV_run M hS hP ok_X6_311 (c_X6_addItem l G 10 r140 3 r157 0 v158 v162 h160) (rc_6 M hP rfl) rfl hl.1 rfl (Nat.le_of_ble_eq_true rfl) ⟨rfl, rfl⟩ ⟨Nat.le_of_ble_eq_true rfl, Nat.le_of_ble_eq_true rfl⟩ dX6_readChild_90) (fun H locs hP hS => ?_)
          refine lv_aload_n hx hb dX6_readChild_93 rfl (lv_at hl 2 rfl) ?_
          refine lv_dup hx hb dX6_readChild_94 rfl ?_
          refine fg_6_315 M hP dX6_readChild_95 ?_
          refine lv_iconst (v := 1) hx hb dX6_readChild_98 (by decide) ?_
          refine lv_iadd hx hb dX6_readChild_99 ?_
          refine fp_6_315 M hS hP dX6_readChild_100 (fun H locs hP hS => ?_)
          have hP : Wd G (pu v162 0 16 ((v162 0 16) + 1)) H := hP
          exact ret_v M hS hP (Option.some.inj hF) dX6_readChild_103
      · replace hF := (if_pos (bI_t c147)).symm.trans hF
        refine lv_aload_n hx hb dX6_readChild_50 rfl (lv_at hl 1 rfl) ?_
        refine lv_iconst (v := 0) hx hb dX6_readChild_51 (by decide) ?_
        refine lv_bipush (v := 9) hx hb dX6_readChild_52 (by decide) ?_
        obtain ⟨⟨r164, v165⟩, h163, hF⟩ := bi_some hF
        dsimp only at hF
        refine k_i hS (kV_run M hS hP ok_X6_302 (c_X6_number l G 0 9 v145 r164 v165 h163) (rc_6 M hP rfl) rfl hl.1 rfl (Nat.le_of_ble_eq_true rfl) ⟨rfl, rfl⟩ ⟨Nat.le_of_ble_eq_true rfl, Nat.le_of_ble_eq_true rfl⟩ dX6_readChild_54) (fun H locs hP hS => ?_)
        refine lv_goto (tgt := 61) hx hb dX6_readChild_57 (by decide) ?_
        refine lv_istore_n (lv' := [(2, .int r164), (1, .int r140), (0, .ref (ad G 0))]) hx hb dX6_readChild_61 rfl hl (by decide) rfl (fun ls hl => ?_)
        refine lv_aload_n hx hb dX6_readChild_62 rfl (lv_at hl 2 rfl) ?_
        refine lv_bipush (v := 10) hx hb dX6_readChild_63 (by decide) ?_
        refine lv_iload_n hx hb dX6_readChild_65 rfl (lv_at hl 1 rfl) ?_
        refine lv_iload_n hx hb dX6_readChild_66 rfl (lv_at hl 0 rfl) ?_
        refine lv_aload_n hx hb dX6_readChild_67 rfl (lv_at hl 2 rfl) ?_
        refine r_ldcw (own := RX6) (tx := "knows") (q := sk G 14) hx hb M.1.2.2.2.1 (sR_29 M.2.2.2) dX6_readChild_68 ?_
        obtain ⟨⟨r168, v169⟩, h167, hF⟩ := bi_some hF
        dsimp only at hF
        refine k_i hS (kV_run M hS hP ok_X6_299 (c_X6_takesWord l G 14 (by decide) v165 r168 v169 h167) (rc_6 M hP rfl) rfl hl.1 rfl (Nat.le_of_ble_eq_true rfl) ⟨rfl, rfl⟩ ⟨Nat.le_of_ble_eq_true rfl, Nat.le_of_ble_eq_true rfl⟩ dX6_readChild_71) (fun H locs hP hS => ?_)
        refine lv_if_eq (tgt := 88) hx hb dX6_readChild_74 (by decide) (fun c171 => ?_) (fun c171 => ?_)
        · replace hF := (if_neg (bI_f c171)).symm.trans hF
          refine lv_iconst (v := 0) hx hb dX6_readChild_88 (by decide) ?_
          refine lv_iconst (v := 0) hx hb dX6_readChild_89 (by decide) ?_
          obtain ⟨v174, h172, hF⟩ := bi_some hF
          refine k_v hS (kV_run M hS hP ok_X6_311 (c_X6_addItem l G 10 r140 r164 0 0 v169 v174 h172) (rc_6 M hP rfl) rfl hl.1 rfl (Nat.le_of_ble_eq_true rfl) ⟨rfl, rfl⟩ ⟨Nat.le_of_ble_eq_true rfl, Nat.le_of_ble_eq_true rfl⟩ dX6_readChild_90) (fun H locs hP hS => ?_)
          refine lv_aload_n hx hb dX6_readChild_93 rfl (lv_at hl 2 rfl) ?_
          refine lv_dup hx hb dX6_readChild_94 rfl ?_
          refine fg_6_315 M hP dX6_readChild_95 ?_
          refine lv_iconst (v := 1) hx hb dX6_readChild_98 (by decide) ?_
          refine lv_iadd hx hb dX6_readChild_99 ?_
          refine fp_6_315 M hS hP dX6_readChild_100 (fun H locs hP hS => ?_)
          have hP : Wd G (pu v174 0 16 ((v174 0 16) + 1)) H := hP
          exact ret_v M hS hP (Option.some.inj hF) dX6_readChild_103
        · replace hF := (if_pos (bI_t c171)).symm.trans hF
          refine lv_aload_n hx hb dX6_readChild_77 rfl (lv_at hl 2 rfl) ?_
          refine lv_iconst (v := 0) hx hb dX6_readChild_78 (by decide) ?_
          refine lv_sipush (v := 4095) hx hb dX6_readChild_79 (by decide) ?_
          obtain ⟨⟨r176, v177⟩, h175, hF⟩ := bi_some hF
          dsimp only at hF
          refine k_i hS (kV_run M hS hP ok_X6_302 (c_X6_number l G 0 4095 v169 r176 v177 h175) (rc_6 M hP rfl) rfl hl.1 rfl (Nat.le_of_ble_eq_true rfl) ⟨rfl, rfl⟩ ⟨Nat.le_of_ble_eq_true rfl, Nat.le_of_ble_eq_true rfl⟩ dX6_readChild_82) (fun H locs hP hS => ?_)
          refine lv_goto (tgt := 89) hx hb dX6_readChild_85 (by decide) ?_
          refine lv_iconst (v := 0) hx hb dX6_readChild_89 (by decide) ?_
          obtain ⟨v181, h179, hF⟩ := bi_some hF
          refine k_v hS (kV_run M hS hP ok_X6_311 (c_X6_addItem l G 10 r140 r164 r176 0 v177 v181 h179) (rc_6 M hP rfl) rfl hl.1 rfl (Nat.le_of_ble_eq_true rfl) ⟨rfl, rfl⟩ ⟨Nat.le_of_ble_eq_true rfl, Nat.le_of_ble_eq_true rfl⟩ dX6_readChild_90) (fun H locs hP hS => ?_)
          refine lv_aload_n hx hb dX6_readChild_93 rfl (lv_at hl 2 rfl) ?_
          refine lv_dup hx hb dX6_readChild_94 rfl ?_
          refine fg_6_315 M hP dX6_readChild_95 ?_
          refine lv_iconst (v := 1) hx hb dX6_readChild_98 (by decide) ?_
          refine lv_iadd hx hb dX6_readChild_99 ?_
          refine fp_6_315 M hS hP dX6_readChild_100 (fun H locs hP hS => ?_)
          have hP : Wd G (pu v181 0 16 ((v181 0 16) + 1)) H := hP
          exact ret_v M hS hP (Option.some.inj hF) dX6_readChild_103
def L_X6_readItem_4 : Nat → Int32 → Int32 → VV → Option VV
  | 0, _, _, _ => none
  | n + 1, x1, x2, v =>
  if (nI 7) ≤ x2 then (if x1 < 0 then (Option.bind (F_X6_isWord 7 v) (fun r4 => (if r4 = true then (Option.bind (F_X6_readChild v) (fun v27 => some v27)) else (Option.bind (F_X6_takesWord 8 v) (fun (r7, v8) => (if r7 = true then (Option.bind (F_X6_number 0 5 v8) (fun (r15, v16) => Option.bind (F_X6_number 0 9 v16) (fun (r19, v20) => Option.bind (F_X6_addItem 11 r15 r19 0 0 v20) (fun v24 => some v24)))) else (Option.bind (F_X6_must 0 v8) (fun v13 => some v13)))))))) else (Option.bind (F_X6_readKeeper x1 v) (fun v30 => some v30))) else (gu (gI x2 7) (Option.bind (F_X6_isWord ((x2).toNatClampNeg) v) (fun r33 => (if r33 = true then (L_X6_readItem_4 n x2 (x2 + 1) v) else (L_X6_readItem_4 n x1 (x2 + 1) v)))))
def F_X6_readItem (v : VV) : Option VV :=
  L_X6_readItem_4 fu (-1) 0 v
set_option maxHeartbeats 4000000 in
set_option maxRecDepth 100000 in
theorem l_X6_readItem_4 {p : Program} {l : Launch} {e : Env} {s : State} {m : MethodId} {args : Array Value} {below : List Frame} {meth : Method} {c : Code} {G : GG} (M : Mx G RX6 cX6_readItem 3 none p s m args meth c) (v' : VV) : ∀ (n : Nat) (x1 : Int32) (x2 : Int32) (v : VV) (H : Heap) (locs : List Loc) (ls : Array Slot), L_X6_readItem_4 n x1 x2 v = some v' → Wd G v H → va_S (gA G) s.heap H locs → lv_has ls 3 [(0, .ref (ad G 0)), (1, .int x1), (2, .int x2)] → W p l e ({ frames := 7, cells := 0, slots := 0, locals := 156 } : Room) s m args below meth c H locs 0 0 (MQ below (QV G v') args s 0 0 (gA G)) (F0 m 4 ls []) := by
  have hx := M.1.1
  have hb := M.1.2.1
  intro n
  induction n with
  | zero =>
    intro x1 x2 v H locs ls hF hP hS hl
    rw [L_X6_readItem_4] at hF
    cases hF
  | succ n ih =>
    intro x1 x2 v H locs ls hF hP hS hl
    rw [L_X6_readItem_4] at hF
    refine lv_iload_n hx hb dX6_readItem_4 rfl (lv_at hl 2 rfl) ?_
    refine lv_aload_n hx hb dX6_readItem_5 rfl (lv_at hl 0 rfl) ?_
    refine fg_6_41 M hP dX6_readItem_6 ?_
    refine r_alen12 M hP rfl rfl dX6_readItem_9 ?_
    refine lv_icmp_ge (tgt := 38) hx hb dX6_readItem_10 (by decide) (fun c1 => ?_) (fun c1 => ?_)
    · replace hF := (if_pos c1).symm.trans hF
      refine lv_iload_n hx hb dX6_readItem_38 rfl (lv_at hl 1 rfl) ?_
      refine lv_if_lt (tgt := 50) hx hb dX6_readItem_39 (by decide) (fun c2 => ?_) (fun c2 => ?_)
      · replace hF := (if_pos c2).symm.trans hF
        refine lv_aload_n hx hb dX6_readItem_50 rfl (lv_at hl 0 rfl) ?_
        refine r_ldcw (own := RX6) (tx := "child") (q := sk G 7) hx hb M.1.2.2.2.1 (sR_22 M.2.2.2) dX6_readItem_51 ?_
        obtain ⟨r4, h3, hF⟩ := bi_some hF
        refine k_i hS (kV_run M hS hP ok_X6_290 (c_X6_isWord l G 7 (by decide) v r4 h3) (rc_6 M hP rfl) rfl hl.1 rfl (Nat.le_of_ble_eq_true rfl) ⟨rfl, rfl⟩ ⟨Nat.le_of_ble_eq_true rfl, Nat.le_of_ble_eq_true rfl⟩ dX6_readItem_54) (fun H locs hP hS => ?_)
        refine lv_if_eq (tgt := 67) hx hb dX6_readItem_57 (by decide) (fun c5 => ?_) (fun c5 => ?_)
        · replace hF := (if_neg (bI_f c5)).symm.trans hF
          refine lv_aload_n hx hb dX6_readItem_67 rfl (lv_at hl 0 rfl) ?_
          refine r_ldcw (own := RX6) (tx := "fog") (q := sk G 8) hx hb M.1.2.2.2.1 (sR_23 M.2.2.2) dX6_readItem_68 ?_
          obtain ⟨⟨r7, v8⟩, h6, hF⟩ := bi_some hF
          dsimp only at hF
          refine k_i hS (kV_run M hS hP ok_X6_299 (c_X6_takesWord l G 8 (by decide) v r7 v8 h6) (rc_6 M hP rfl) rfl hl.1 rfl (Nat.le_of_ble_eq_true rfl) ⟨rfl, rfl⟩ ⟨Nat.le_of_ble_eq_true rfl, Nat.le_of_ble_eq_true rfl⟩ dX6_readItem_71) (fun H locs hP hS => ?_)
          refine lv_if_eq (tgt := 103) hx hb dX6_readItem_74 (by decide) (fun c10 => ?_) (fun c10 => ?_)
          · replace hF := (if_neg (bI_f c10)).symm.trans hF
            refine lv_aload_n hx hb dX6_readItem_103 rfl (lv_at hl 0 rfl) ?_
            refine lv_iconst (v := 0) hx hb dX6_readItem_104 (by decide) ?_
            obtain ⟨v13, h11, hF⟩ := bi_some hF
            refine k_v hS (kV_run M hS hP ok_X6_283 (c_X6_must l G 0 v8 v13 h11) (rc_6 M hP rfl) rfl hl.1 rfl (Nat.le_of_ble_eq_true rfl) ⟨rfl, rfl⟩ ⟨Nat.le_of_ble_eq_true rfl, Nat.le_of_ble_eq_true rfl⟩ dX6_readItem_105) (fun H locs hP hS => ?_)
            exact ret_v M hS hP (Option.some.inj hF) dX6_readItem_108
          · replace hF := (if_pos (bI_t c10)).symm.trans hF
            refine lv_aload_n hx hb dX6_readItem_77 rfl (lv_at hl 0 rfl) ?_
            refine lv_iconst (v := 0) hx hb dX6_readItem_78 (by decide) ?_
            refine lv_iconst (v := 5) hx hb dX6_readItem_79 (by decide) ?_
            obtain ⟨⟨r15, v16⟩, h14, hF⟩ := bi_some hF
            dsimp only at hF
            refine k_i hS (kV_run M hS hP ok_X6_302 (c_X6_number l G 0 5 v8 r15 v16 h14) (rc_6 M hP rfl) rfl hl.1 rfl (Nat.le_of_ble_eq_true rfl) ⟨rfl, rfl⟩ ⟨Nat.le_of_ble_eq_true rfl, Nat.le_of_ble_eq_true rfl⟩ dX6_readItem_80) (fun H locs hP hS => ?_)
            refine lv_istore_n (lv' := [(2, .int r15), (0, .ref (ad G 0)), (1, .int x1)]) hx hb dX6_readItem_83 rfl hl (by decide) rfl (fun ls hl => ?_)
            refine lv_aload_n hx hb dX6_readItem_84 rfl (lv_at hl 1 rfl) ?_
            refine lv_bipush (v := 11) hx hb dX6_readItem_85 (by decide) ?_
            refine lv_iload_n hx hb dX6_readItem_87 rfl (lv_at hl 0 rfl) ?_
            refine lv_aload_n hx hb dX6_readItem_88 rfl (lv_at hl 1 rfl) ?_
            refine lv_iconst (v := 0) hx hb dX6_readItem_89 (by decide) ?_
            refine lv_bipush (v := 9) hx hb dX6_readItem_90 (by decide) ?_
            obtain ⟨⟨r19, v20⟩, h18, hF⟩ := bi_some hF
            dsimp only at hF
            refine k_i hS (kV_run M hS hP ok_X6_302 (c_X6_number l G 0 9 v16 r19 v20 h18) (rc_6 M hP rfl) rfl hl.1 rfl (Nat.le_of_ble_eq_true rfl) ⟨rfl, rfl⟩ ⟨Nat.le_of_ble_eq_true rfl, Nat.le_of_ble_eq_true rfl⟩ dX6_readItem_92) (fun H locs hP hS => ?_)
            refine lv_iconst (v := 0) hx hb dX6_readItem_95 (by decide) ?_
            refine lv_iconst (v := 0) hx hb dX6_readItem_96 (by decide) ?_
            obtain ⟨v24, h22, hF⟩ := bi_some hF
            refine k_v hS (kV_run M hS hP ok_X6_311 (c_X6_addItem l G 11 r15 r19 0 0 v20 v24 h22) (rc_6 M hP rfl) rfl hl.1 rfl (Nat.le_of_ble_eq_true rfl) ⟨rfl, rfl⟩ ⟨Nat.le_of_ble_eq_true rfl, Nat.le_of_ble_eq_true rfl⟩ dX6_readItem_97) (fun H locs hP hS => ?_)
            refine lv_goto (tgt := 108) hx hb dX6_readItem_100 (by decide) ?_
            exact ret_v M hS hP (Option.some.inj hF) dX6_readItem_108
        · replace hF := (if_pos (bI_t c5)).symm.trans hF
          refine lv_aload_n hx hb dX6_readItem_60 rfl (lv_at hl 0 rfl) ?_
          obtain ⟨v27, h25, hF⟩ := bi_some hF
          refine k_v hS (kV_run M hS hP ok_X6_327 (c_X6_readChild l G v v27 h25) (rc_6 M hP rfl) rfl hl.1 rfl (Nat.le_of_ble_eq_true rfl) ⟨rfl, rfl⟩ ⟨Nat.le_of_ble_eq_true rfl, Nat.le_of_ble_eq_true rfl⟩ dX6_readItem_61) (fun H locs hP hS => ?_)
          refine lv_goto (tgt := 108) hx hb dX6_readItem_64 (by decide) ?_
          exact ret_v M hS hP (Option.some.inj hF) dX6_readItem_108
      · replace hF := (if_neg c2).symm.trans hF
        refine lv_aload_n hx hb dX6_readItem_42 rfl (lv_at hl 0 rfl) ?_
        refine lv_iload_n hx hb dX6_readItem_43 rfl (lv_at hl 1 rfl) ?_
        obtain ⟨v30, h28, hF⟩ := bi_some hF
        refine k_v hS (kV_run M hS hP ok_X6_322 (c_X6_readKeeper l G x1 v v30 h28) (rc_6 M hP rfl) rfl hl.1 rfl (Nat.le_of_ble_eq_true rfl) ⟨rfl, rfl⟩ ⟨Nat.le_of_ble_eq_true rfl, Nat.le_of_ble_eq_true rfl⟩ dX6_readItem_44) (fun H locs hP hS => ?_)
        refine lv_goto (tgt := 108) hx hb dX6_readItem_47 (by decide) ?_
        exact ret_v M hS hP (Option.some.inj hF) dX6_readItem_108
    · replace hF := (if_neg c1).symm.trans hF
      refine lv_aload_n hx hb dX6_readItem_13 rfl (lv_at hl 0 rfl) ?_
      refine lv_aload_n hx hb dX6_readItem_14 rfl (lv_at hl 0 rfl) ?_
      refine fg_6_41 M hP dX6_readItem_15 ?_
      refine lv_iload_n hx hb dX6_readItem_18 rfl (lv_at hl 2 rfl) ?_
      obtain ⟨g31, hF⟩ := gu_some hF
      refine r_aald12 (k := (x2).toNatClampNeg) M hP rfl rfl (in_c g31) rfl dX6_readItem_19 ?_
      obtain ⟨r33, h32, hF⟩ := bi_some hF
      refine k_i hS (kV_run M hS hP ok_X6_290 (c_X6_isWord l G ((x2).toNatClampNeg) (Nat.lt_of_lt_of_le (vin_lt (in_c g31)) (by decide)) v r33 h32) (rc_6 M hP rfl) rfl hl.1 rfl (Nat.le_of_ble_eq_true rfl) ⟨rfl, rfl⟩ ⟨Nat.le_of_ble_eq_true rfl, Nat.le_of_ble_eq_true rfl⟩ dX6_readItem_20) (fun H locs hP hS => ?_)
      refine lv_if_eq (tgt := 30) hx hb dX6_readItem_23 (by decide) (fun c34 => ?_) (fun c34 => ?_)
      · replace hF := (if_neg (bI_f c34)).symm.trans hF
        refine lv_iload_n hx hb dX6_readItem_30 rfl (lv_at hl 1 rfl) ?_
        refine lv_istore_n (lv' := [(1, .int x1), (0, .ref (ad G 0)), (2, .int x2)]) hx hb dX6_readItem_31 rfl hl (by decide) rfl (fun ls hl => ?_)
        refine lv_iinc (v := (x2 + 1)) (lv' := [(2, .int (x2 + 1)), (1, .int x1), (0, .ref (ad G 0))]) hx hb dX6_readItem_32 hl (k := 2) rfl (iinc_eq _ (by decide)) (by decide) rfl (fun ls hl => ?_)
        refine lv_goto (tgt := 4) hx hb dX6_readItem_35 (by decide) ?_
        exact ih x1 (x2 + 1) _ _ _ ls hF hP hS (lv_sub hl [2, 1, 0] rfl)
      · replace hF := (if_pos (bI_t c34)).symm.trans hF
        refine lv_iload_n hx hb dX6_readItem_26 rfl (lv_at hl 2 rfl) ?_
        refine lv_goto (tgt := 31) hx hb dX6_readItem_27 (by decide) ?_
        refine lv_istore_n (lv' := [(1, .int x2), (0, .ref (ad G 0)), (2, .int x2)]) hx hb dX6_readItem_31 rfl hl (by decide) rfl (fun ls hl => ?_)
        refine lv_iinc (v := (x2 + 1)) (lv' := [(2, .int (x2 + 1)), (1, .int x2), (0, .ref (ad G 0))]) hx hb dX6_readItem_32 hl (k := 2) rfl (iinc_eq _ (by decide)) (by decide) rfl (fun ls hl => ?_)
        refine lv_goto (tgt := 4) hx hb dX6_readItem_35 (by decide) ?_
        exact ih x2 (x2 + 1) _ _ _ ls hF hP hS (lv_sub hl [2, 1, 0] rfl)
set_option maxHeartbeats 4000000 in
set_option maxRecDepth 100000 in
theorem c_X6_readItem (l : Launch) (G : GG) (v : VV) (v' : VV) (hF : F_X6_readItem v = some v') : Met l yX6_readItem (cdW yX6_readItem cX6_readItem 3 none) ({ frames := 7, cells := 0, slots := 0, locals := 156 } : Room) (PC G v [.ref (ad G 0)]) (QV G v') 0 0 (gA G) := by
  refine met_in RX6 (by decide) rfl (Nat.le_of_ble_eq_true rfl) ?_
  intro p e s m below meth c M hP ls hl
  have hx := M.1.1
  have hb := M.1.2.1
  have hS : va_S (gA G) s.heap s.heap [] := va_S.rf
  have hl : lv_has ls 3 [(0, .ref (ad G 0))] := hl
  unfold F_X6_readItem at hF
  refine lv_iconst (v := (-1)) hx hb dX6_readItem_0 (by decide) ?_
  refine lv_istore_n (lv' := [(1, .int (-1)), (0, .ref (ad G 0))]) hx hb dX6_readItem_1 rfl hl (by decide) rfl (fun ls hl => ?_)
  refine lv_iconst (v := 0) hx hb dX6_readItem_2 (by decide) ?_
  refine lv_istore_n (lv' := [(2, .int 0), (1, .int (-1)), (0, .ref (ad G 0))]) hx hb dX6_readItem_3 rfl hl (by decide) rfl (fun ls hl => ?_)
  exact l_X6_readItem_4 M _ fu (-1) 0 _ _ _ ls hF hP hS (lv_sub hl [2, 1, 0] rfl)
def F_X6_isToldSo (a1 : Int32) (v : VV) : Option VV :=
  gu (gI (a1 + 1) 600) (gu (gI (a1 + 2) 600) (gu (gI a1 600) ((if (v 6 ((a1).toNatClampNeg)) = 10 then (Option.bind (F_X6_childComes (v 6 ((a1 + 1).toNatClampNeg)) (v 6 ((a1 + 2).toNatClampNeg)) v) (fun (r6, v7) => Option.bind (F_X6_childAt r6 2 v7) (fun r10 => gu (gI (a1 + 3) 600) (gu (gI r10 92) (some (pu v7 1 ((r10).toNatClampNeg) (v7 6 ((a1 + 3).toNatClampNeg)))))))) else (if (v 6 ((a1).toNatClampNeg)) = 11 then (gu (gI (4 + (v 6 ((a1 + 1).toNatClampNeg))) 92) (some (pu v 1 ((4 + (v 6 ((a1 + 1).toNatClampNeg))).toNatClampNeg) (v 6 ((a1 + 2).toNatClampNeg))))) else (gu (gI a1 600) (Option.bind (F_X6_comes (v 6 ((a1).toNatClampNeg)) (v 6 ((a1 + 1).toNatClampNeg)) v) (fun (r17, v18) => Option.bind (F_X6_keeperAt r17 2 v18) (fun r21 => gu (gI r21 92) (Option.bind (F_X6_keeperAt r17 3 (pu v18 1 ((r21).toNatClampNeg) (v 6 ((a1 + 2).toNatClampNeg)))) (fun r24 => gu (gI (a1 + 3) 600) (gu (gI r24 92) (Option.bind (F_X6_keeperAt r17 5 (pu (pu v18 1 ((r21).toNatClampNeg) (v 6 ((a1 + 2).toNatClampNeg))) 1 ((r24).toNatClampNeg) ((pu v18 1 ((r21).toNatClampNeg) (v 6 ((a1 + 2).toNatClampNeg))) 6 ((a1 + 3).toNatClampNeg)))) (fun r28 => gu (gI (a1 + 4) 600) (gu (gI r28 92) (some (pu (pu (pu v18 1 ((r21).toNatClampNeg) (v 6 ((a1 + 2).toNatClampNeg))) 1 ((r24).toNatClampNeg) ((pu v18 1 ((r21).toNatClampNeg) (v 6 ((a1 + 2).toNatClampNeg))) 6 ((a1 + 3).toNatClampNeg))) 1 ((r28).toNatClampNeg) ((pu (pu v18 1 ((r21).toNatClampNeg) (v 6 ((a1 + 2).toNatClampNeg))) 1 ((r24).toNatClampNeg) ((pu v18 1 ((r21).toNatClampNeg) (v 6 ((a1 + 2).toNatClampNeg))) 6 ((a1 + 3).toNatClampNeg))) 6 ((a1 + 4).toNatClampNeg)))))))))))))))))))
set_option maxHeartbeats 4000000 in
set_option maxRecDepth 100000 in
theorem c_X6_isToldSo (l : Launch) (G : GG) (a1 : Int32) (v : VV) (v' : VV) (hF : F_X6_isToldSo a1 v = some v') : Met l yX6_isToldSo (cdW yX6_isToldSo cX6_isToldSo 5 none) ({ frames := 2, cells := 0, slots := 0, locals := 45 } : Room) (PC G v [.ref (ad G 0), .int a1]) (QV G v') 0 0 (gA G) := by
  refine met_in RX6 (by decide) rfl (Nat.le_of_ble_eq_true rfl) ?_
  intro p e s m below meth c M hP ls hl
  have hx := M.1.1
  have hb := M.1.2.1
  have hS : va_S (gA G) s.heap s.heap [] := va_S.rf
  have hl : lv_has ls 5 [(0, .ref (ad G 0)), (1, .int a1)] := hl
  unfold F_X6_isToldSo at hF
  refine lv_aload_n hx hb dX6_isToldSo_0 rfl (lv_at hl 0 rfl) ?_
  refine fg_6_45 M hP dX6_isToldSo_1 ?_
  refine lv_iload_n hx hb dX6_isToldSo_4 rfl (lv_at hl 1 rfl) ?_
  refine lv_iconst (v := 1) hx hb dX6_isToldSo_5 (by decide) ?_
  refine lv_iadd hx hb dX6_isToldSo_6 ?_
  obtain ⟨g1, hF⟩ := gu_some hF
  refine r_iald (k := (a1 + 1).toNatClampNeg) M hP rfl rfl (in_c g1) rfl dX6_isToldSo_7 ?_
  refine lv_istore_n (lv' := [(2, .int (v 6 ((a1 + 1).toNatClampNeg))), (0, .ref (ad G 0)), (1, .int a1)]) hx hb dX6_isToldSo_8 rfl hl (by decide) rfl (fun ls hl => ?_)
  refine lv_aload_n hx hb dX6_isToldSo_9 rfl (lv_at hl 1 rfl) ?_
  refine fg_6_45 M hP dX6_isToldSo_10 ?_
  refine lv_iload_n hx hb dX6_isToldSo_13 rfl (lv_at hl 2 rfl) ?_
  refine lv_iconst (v := 2) hx hb dX6_isToldSo_14 (by decide) ?_
  refine lv_iadd hx hb dX6_isToldSo_15 ?_
  obtain ⟨g2, hF⟩ := gu_some hF
  refine r_iald (k := (a1 + 2).toNatClampNeg) M hP rfl rfl (in_c g2) rfl dX6_isToldSo_16 ?_
  refine lv_istore_n (lv' := [(3, .int (v 6 ((a1 + 2).toNatClampNeg))), (2, .int (v 6 ((a1 + 1).toNatClampNeg))), (0, .ref (ad G 0)), (1, .int a1)]) hx hb dX6_isToldSo_17 rfl hl (by decide) rfl (fun ls hl => ?_)
  refine lv_iconst (v := 0) hx hb dX6_isToldSo_18 (by decide) ?_
  refine lv_istore (lv' := [(4, .int 0), (3, .int (v 6 ((a1 + 2).toNatClampNeg))), (2, .int (v 6 ((a1 + 1).toNatClampNeg))), (0, .ref (ad G 0)), (1, .int a1)]) hx hb dX6_isToldSo_19 hl (by decide) rfl (fun ls hl => ?_)
  refine lv_aload_n hx hb dX6_isToldSo_21 rfl (lv_at hl 3 rfl) ?_
  refine fg_6_45 M hP dX6_isToldSo_22 ?_
  refine lv_iload_n hx hb dX6_isToldSo_25 rfl (lv_at hl 4 rfl) ?_
  obtain ⟨g3, hF⟩ := gu_some hF
  refine r_iald (k := (a1).toNatClampNeg) M hP rfl rfl (in_c g3) rfl dX6_isToldSo_26 ?_
  rcases Decidable.em ((v 6 ((a1).toNatClampNeg)) = 10) with c4 | c4
  · replace hF := (if_pos c4).symm.trans hF
    refine lv_lookup (off := 25) (tgt := 52) hx hb dX6_isToldSo_27 (by decide) (by rw [c4]; decide) (by decide) ?_
    refine lv_aload_n hx hb dX6_isToldSo_52 rfl (lv_at hl 3 rfl) ?_
    refine lv_iload_n hx hb dX6_isToldSo_53 rfl (lv_at hl 2 rfl) ?_
    refine lv_iload_n hx hb dX6_isToldSo_54 rfl (lv_at hl 1 rfl) ?_
    obtain ⟨⟨r6, v7⟩, h5, hF⟩ := bi_some hF
    dsimp only at hF
    refine k_i hS (kV_run M hS hP ok_X6_101 (c_X6_childComes l G (v 6 ((a1 + 1).toNatClampNeg)) (v 6 ((a1 + 2).toNatClampNeg)) v r6 v7 h5) (rc_6 M hP rfl) rfl hl.1 rfl (Nat.le_of_ble_eq_true rfl) ⟨rfl, rfl⟩ ⟨Nat.le_of_ble_eq_true rfl, Nat.le_of_ble_eq_true rfl⟩ dX6_isToldSo_55) (fun H locs hP hS => ?_)
    refine lv_istore (lv' := [(4, .int r6), (3, .int (v 6 ((a1 + 2).toNatClampNeg))), (2, .int (v 6 ((a1 + 1).toNatClampNeg))), (0, .ref (ad G 0)), (1, .int a1)]) hx hb dX6_isToldSo_58 hl (by decide) rfl (fun ls hl => ?_)
    refine lv_aload_n hx hb dX6_isToldSo_60 rfl (lv_at hl 3 rfl) ?_
    refine fg_6_9 M hP dX6_isToldSo_61 ?_
    refine lv_iload hx hb dX6_isToldSo_64 (lv_at hl 0 rfl) ?_
    refine lv_iconst (v := 2) hx hb dX6_isToldSo_66 (by decide) ?_
    obtain ⟨r10, h9, hF⟩ := bi_some hF
    refine k_i hS (kS_run M hS hP ok_X6_88 (c_X6_childAt l G r6 2 v7 r10 h9) rfl hl.1 rfl (Nat.le_of_ble_eq_true rfl) ⟨rfl, rfl⟩ ⟨Nat.le_of_ble_eq_true rfl, Nat.le_of_ble_eq_true rfl⟩ dX6_isToldSo_67) (fun H locs hP hS => ?_)
    refine lv_aload_n hx hb dX6_isToldSo_70 rfl (lv_at hl 3 rfl) ?_
    refine fg_6_45 M hP dX6_isToldSo_71 ?_
    refine lv_iload_n hx hb dX6_isToldSo_74 rfl (lv_at hl 4 rfl) ?_
    refine lv_iconst (v := 3) hx hb dX6_isToldSo_75 (by decide) ?_
    refine lv_iadd hx hb dX6_isToldSo_76 ?_
    obtain ⟨g11, hF⟩ := gu_some hF
    refine r_iald (k := (a1 + 3).toNatClampNeg) M hP rfl rfl (in_c g11) rfl dX6_isToldSo_77 ?_
    obtain ⟨g12, hF⟩ := gu_some hF
    refine r_iast (k := (r10).toNatClampNeg) M hS hP rfl rfl (in_c g12) rfl dX6_isToldSo_78 (fun H locs hP hS => ?_)
    have hP : Wd G (pu v7 1 ((r10).toNatClampNeg) (v7 6 ((a1 + 3).toNatClampNeg))) H := hP
    refine lv_goto (tgt := 157) hx hb dX6_isToldSo_79 (by decide) ?_
    exact ret_v M hS hP (Option.some.inj hF) dX6_isToldSo_157
  · replace hF := (if_neg c4).symm.trans hF
    rcases Decidable.em ((v 6 ((a1).toNatClampNeg)) = 11) with c13 | c13
    · replace hF := (if_pos c13).symm.trans hF
      refine lv_lookup (off := 55) (tgt := 82) hx hb dX6_isToldSo_27 (by decide) (by rw [c13]; decide) (by decide) ?_
      refine lv_aload_n hx hb dX6_isToldSo_82 rfl (lv_at hl 3 rfl) ?_
      refine fg_6_9 M hP dX6_isToldSo_83 ?_
      refine lv_iconst (v := 4) hx hb dX6_isToldSo_86 (by decide) ?_
      refine lv_iload_n hx hb dX6_isToldSo_87 rfl (lv_at hl 2 rfl) ?_
      refine lv_iadd hx hb dX6_isToldSo_88 ?_
      refine lv_iload_n hx hb dX6_isToldSo_89 rfl (lv_at hl 1 rfl) ?_
      obtain ⟨g14, hF⟩ := gu_some hF
      refine r_iast (k := (4 + (v 6 ((a1 + 1).toNatClampNeg))).toNatClampNeg) M hS hP rfl rfl (in_c g14) rfl dX6_isToldSo_90 (fun H locs hP hS => ?_)
      have hP : Wd G (pu v 1 ((4 + (v 6 ((a1 + 1).toNatClampNeg))).toNatClampNeg) (v 6 ((a1 + 2).toNatClampNeg))) H := hP
      refine lv_goto (tgt := 157) hx hb dX6_isToldSo_91 (by decide) ?_
      exact ret_v M hS hP (Option.some.inj hF) dX6_isToldSo_157
    · replace hF := (if_neg c13).symm.trans hF
      refine lv_lookup (off := 67) (tgt := 94) hx hb dX6_isToldSo_27 (by decide) ((lv_osw c4 (by decide)).trans ((lv_osw c13 (by decide)).trans (rfl))) (by decide) ?_
      refine lv_aload_n hx hb dX6_isToldSo_94 rfl (lv_at hl 3 rfl) ?_
      refine lv_aload_n hx hb dX6_isToldSo_95 rfl (lv_at hl 3 rfl) ?_
      refine fg_6_45 M hP dX6_isToldSo_96 ?_
      refine lv_iload_n hx hb dX6_isToldSo_99 rfl (lv_at hl 4 rfl) ?_
      obtain ⟨g15, hF⟩ := gu_some hF
      refine r_iald (k := (a1).toNatClampNeg) M hP rfl rfl (in_c g15) rfl dX6_isToldSo_100 ?_
      refine lv_iload_n hx hb dX6_isToldSo_101 rfl (lv_at hl 2 rfl) ?_
      obtain ⟨⟨r17, v18⟩, h16, hF⟩ := bi_some hF
      dsimp only at hF
      refine k_i hS (kV_run M hS hP ok_X6_98 (c_X6_comes l G (v 6 ((a1).toNatClampNeg)) (v 6 ((a1 + 1).toNatClampNeg)) v r17 v18 h16) (rc_6 M hP rfl) rfl hl.1 rfl (Nat.le_of_ble_eq_true rfl) ⟨rfl, rfl⟩ ⟨Nat.le_of_ble_eq_true rfl, Nat.le_of_ble_eq_true rfl⟩ dX6_isToldSo_102) (fun H locs hP hS => ?_)
      refine lv_istore (lv' := [(4, .int r17), (3, .int (v 6 ((a1 + 2).toNatClampNeg))), (2, .int (v 6 ((a1 + 1).toNatClampNeg))), (0, .ref (ad G 0)), (1, .int a1)]) hx hb dX6_isToldSo_105 hl (by decide) rfl (fun ls hl => ?_)
      refine lv_aload_n hx hb dX6_isToldSo_107 rfl (lv_at hl 3 rfl) ?_
      refine fg_6_9 M hP dX6_isToldSo_108 ?_
      refine lv_iload hx hb dX6_isToldSo_111 (lv_at hl 0 rfl) ?_
      refine lv_iconst (v := 2) hx hb dX6_isToldSo_113 (by decide) ?_
      obtain ⟨r21, h20, hF⟩ := bi_some hF
      refine k_i hS (kS_run M hS hP ok_X6_85 (c_X6_keeperAt l G r17 2 v18 r21 h20) rfl hl.1 rfl (Nat.le_of_ble_eq_true rfl) ⟨rfl, rfl⟩ ⟨Nat.le_of_ble_eq_true rfl, Nat.le_of_ble_eq_true rfl⟩ dX6_isToldSo_114) (fun H locs hP hS => ?_)
      refine lv_iload_n hx hb dX6_isToldSo_117 rfl (lv_at hl 1 rfl) ?_
      obtain ⟨g22, hF⟩ := gu_some hF
      refine r_iast (k := (r21).toNatClampNeg) M hS hP rfl rfl (in_c g22) rfl dX6_isToldSo_118 (fun H locs hP hS => ?_)
      have hP : Wd G (pu v18 1 ((r21).toNatClampNeg) (v 6 ((a1 + 2).toNatClampNeg))) H := hP
      refine lv_aload_n hx hb dX6_isToldSo_119 rfl (lv_at hl 3 rfl) ?_
      refine fg_6_9 M hP dX6_isToldSo_120 ?_
      refine lv_iload hx hb dX6_isToldSo_123 (lv_at hl 0 rfl) ?_
      refine lv_iconst (v := 3) hx hb dX6_isToldSo_125 (by decide) ?_
      obtain ⟨r24, h23, hF⟩ := bi_some hF
      refine k_i hS (kS_run M hS hP ok_X6_85 (c_X6_keeperAt l G r17 3 (pu v18 1 ((r21).toNatClampNeg) (v 6 ((a1 + 2).toNatClampNeg))) r24 h23) rfl hl.1 rfl (Nat.le_of_ble_eq_true rfl) ⟨rfl, rfl⟩ ⟨Nat.le_of_ble_eq_true rfl, Nat.le_of_ble_eq_true rfl⟩ dX6_isToldSo_126) (fun H locs hP hS => ?_)
      refine lv_aload_n hx hb dX6_isToldSo_129 rfl (lv_at hl 3 rfl) ?_
      refine fg_6_45 M hP dX6_isToldSo_130 ?_
      refine lv_iload_n hx hb dX6_isToldSo_133 rfl (lv_at hl 4 rfl) ?_
      refine lv_iconst (v := 3) hx hb dX6_isToldSo_134 (by decide) ?_
      refine lv_iadd hx hb dX6_isToldSo_135 ?_
      obtain ⟨g25, hF⟩ := gu_some hF
      refine r_iald (k := (a1 + 3).toNatClampNeg) M hP rfl rfl (in_c g25) rfl dX6_isToldSo_136 ?_
      obtain ⟨g26, hF⟩ := gu_some hF
      refine r_iast (k := (r24).toNatClampNeg) M hS hP rfl rfl (in_c g26) rfl dX6_isToldSo_137 (fun H locs hP hS => ?_)
      have hP : Wd G (pu (pu v18 1 ((r21).toNatClampNeg) (v 6 ((a1 + 2).toNatClampNeg))) 1 ((r24).toNatClampNeg) ((pu v18 1 ((r21).toNatClampNeg) (v 6 ((a1 + 2).toNatClampNeg))) 6 ((a1 + 3).toNatClampNeg))) H := hP
      refine lv_aload_n hx hb dX6_isToldSo_138 rfl (lv_at hl 3 rfl) ?_
      refine fg_6_9 M hP dX6_isToldSo_139 ?_
      refine lv_iload hx hb dX6_isToldSo_142 (lv_at hl 0 rfl) ?_
      refine lv_iconst (v := 5) hx hb dX6_isToldSo_144 (by decide) ?_
      obtain ⟨r28, h27, hF⟩ := bi_some hF
      refine k_i hS (kS_run M hS hP ok_X6_85 (c_X6_keeperAt l G r17 5 (pu (pu v18 1 ((r21).toNatClampNeg) (v 6 ((a1 + 2).toNatClampNeg))) 1 ((r24).toNatClampNeg) ((pu v18 1 ((r21).toNatClampNeg) (v 6 ((a1 + 2).toNatClampNeg))) 6 ((a1 + 3).toNatClampNeg))) r28 h27) rfl hl.1 rfl (Nat.le_of_ble_eq_true rfl) ⟨rfl, rfl⟩ ⟨Nat.le_of_ble_eq_true rfl, Nat.le_of_ble_eq_true rfl⟩ dX6_isToldSo_145) (fun H locs hP hS => ?_)
      refine lv_aload_n hx hb dX6_isToldSo_148 rfl (lv_at hl 3 rfl) ?_
      refine fg_6_45 M hP dX6_isToldSo_149 ?_
      refine lv_iload_n hx hb dX6_isToldSo_152 rfl (lv_at hl 4 rfl) ?_
      refine lv_iconst (v := 4) hx hb dX6_isToldSo_153 (by decide) ?_
      refine lv_iadd hx hb dX6_isToldSo_154 ?_
      obtain ⟨g29, hF⟩ := gu_some hF
      refine r_iald (k := (a1 + 4).toNatClampNeg) M hP rfl rfl (in_c g29) rfl dX6_isToldSo_155 ?_
      obtain ⟨g30, hF⟩ := gu_some hF
      refine r_iast (k := (r28).toNatClampNeg) M hS hP rfl rfl (in_c g30) rfl dX6_isToldSo_156 (fun H locs hP hS => ?_)
      have hP : Wd G (pu (pu (pu v18 1 ((r21).toNatClampNeg) (v 6 ((a1 + 2).toNatClampNeg))) 1 ((r24).toNatClampNeg) ((pu v18 1 ((r21).toNatClampNeg) (v 6 ((a1 + 2).toNatClampNeg))) 6 ((a1 + 3).toNatClampNeg))) 1 ((r28).toNatClampNeg) ((pu (pu v18 1 ((r21).toNatClampNeg) (v 6 ((a1 + 2).toNatClampNeg))) 1 ((r24).toNatClampNeg) ((pu v18 1 ((r21).toNatClampNeg) (v 6 ((a1 + 2).toNatClampNeg))) 6 ((a1 + 3).toNatClampNeg))) 6 ((a1 + 4).toNatClampNeg))) H := hP
      exact ret_v M hS hP (Option.some.inj hF) dX6_isToldSo_157
def L_X6_text_121 : Nat → Int32 → VV → Option (Int32 × VV)
  | 0, _, _ => none
  | n + 1, x1, v =>
  if (v 0 14) ≤ x1 then (some (v 0 14, v)) else (Option.bind (F_X6_isToldSo (5 * x1) v) (fun v16 => L_X6_text_121 n (x1 + 1) v16))
def L_X6_text_43 : Nat → VV → Option (Int32 × VV)
  | 0, _ => none
  | n + 1, v =>
  if (v 0 11) = 0 then (if (v 0 9) = 3 then (gu (gI (v 0 7) 120) ((if (v 5 ((v 0 7).toNatClampNeg)) = 59 then (Option.bind (F_X6_must 1 v) (fun v44 => Option.bind (F_X6_readItem v44) (fun v47 => L_X6_text_43 n v47))) else (if (v 0 9) = 0 then (Option.bind (F_X6_must 1 v) (fun v40 => (if ((pu v40 0 6 0) 0 11) = 0 then (L_X6_text_121 fu 0 (pu v40 0 6 0)) else (some ((-1) - ((pu v40 0 6 0) 0 7), pu v40 0 6 0))))) else (Option.bind (F_X6_must 0 v) (fun v36 => (if ((pu v36 0 6 0) 0 11) = 0 then (L_X6_text_121 fu 0 (pu v36 0 6 0)) else (some ((-1) - ((pu v36 0 6 0) 0 7), pu v36 0 6 0))))))))) else (if (v 0 9) = 0 then (Option.bind (F_X6_must 1 v) (fun v29 => (if ((pu v29 0 6 0) 0 11) = 0 then (L_X6_text_121 fu 0 (pu v29 0 6 0)) else (some ((-1) - ((pu v29 0 6 0) 0 7), pu v29 0 6 0))))) else (Option.bind (F_X6_must 0 v) (fun v25 => (if ((pu v25 0 6 0) 0 11) = 0 then (L_X6_text_121 fu 0 (pu v25 0 6 0)) else (some ((-1) - ((pu v25 0 6 0) 0 7), pu v25 0 6 0))))))) else (if (v 0 9) = 0 then (Option.bind (F_X6_must 1 v) (fun v19 => (if ((pu v19 0 6 0) 0 11) = 0 then (L_X6_text_121 fu 0 (pu v19 0 6 0)) else (some ((-1) - ((pu v19 0 6 0) 0 7), pu v19 0 6 0))))) else (Option.bind (F_X6_must 0 v) (fun v11 => (if ((pu v11 0 6 0) 0 11) = 0 then (L_X6_text_121 fu 0 (pu v11 0 6 0)) else (some ((-1) - ((pu v11 0 6 0) 0 7), pu v11 0 6 0))))))
def F_X6_text (v : VV) : Option (Int32 × VV) :=
  Option.bind (F_X6_token (pu (pu (pu (pu (pu v 0 8 0) 0 11 0) 0 14 0) 0 15 ((pu (pu (pu v 0 8 0) 0 11 0) 0 14 0) 1 1)) 0 16 ((pu (pu (pu (pu v 0 8 0) 0 11 0) 0 14 0) 0 15 ((pu (pu (pu v 0 8 0) 0 11 0) 0 14 0) 1 1)) 1 3))) (fun v3 => Option.bind (F_X6_readItem v3) (fun v6 => L_X6_text_43 fu v6))
set_option maxHeartbeats 4000000 in
set_option maxRecDepth 100000 in
theorem l_X6_text_121 {p : Program} {l : Launch} {e : Env} {s : State} {m : MethodId} {args : Array Value} {below : List Frame} {meth : Method} {c : Code} {G : GG} (M : Mx G RX6 cX6_text 2 (some .int) p s m args meth c) (r : Int32) (v' : VV) : ∀ (n : Nat) (x1 : Int32) (v : VV) (H : Heap) (locs : List Loc) (ls : Array Slot), L_X6_text_121 n x1 v = some (r, v') → Wd G v H → va_S (gA G) s.heap H locs → lv_has ls 2 [(0, .ref (ad G 0)), (1, .int x1)] → W p l e ({ frames := 8, cells := 0, slots := 0, locals := 178 } : Room) s m args below meth c H locs 0 0 (MQ below (QI G r v') args s 0 0 (gA G)) (F0 m 121 ls []) := by
  have hx := M.1.1
  have hb := M.1.2.1
  intro n
  induction n with
  | zero =>
    intro x1 v H locs ls hF hP hS hl
    rw [L_X6_text_121] at hF
    cases hF
  | succ n ih =>
    intro x1 v H locs ls hF hP hS hl
    rw [L_X6_text_121] at hF
    refine lv_iload_n hx hb dX6_text_121 rfl (lv_at hl 1 rfl) ?_
    refine lv_aload_n hx hb dX6_text_122 rfl (lv_at hl 0 rfl) ?_
    refine fg_6_287 M hP dX6_text_123 ?_
    refine lv_icmp_ge (tgt := 142) hx hb dX6_text_126 (by decide) (fun c13 => ?_) (fun c13 => ?_)
    · replace hF := (if_pos c13).symm.trans hF
      refine lv_aload_n hx hb dX6_text_142 rfl (lv_at hl 0 rfl) ?_
      refine fg_6_287 M hP dX6_text_143 ?_
      exact ret_i M hS hP (Option.some.inj hF) dX6_text_146
    · replace hF := (if_neg c13).symm.trans hF
      refine lv_aload_n hx hb dX6_text_129 rfl (lv_at hl 0 rfl) ?_
      refine lv_iconst (v := 5) hx hb dX6_text_130 (by decide) ?_
      refine lv_iload_n hx hb dX6_text_131 rfl (lv_at hl 1 rfl) ?_
      refine lv_imul hx hb dX6_text_132 ?_
      obtain ⟨v16, h14, hF⟩ := bi_some hF
      refine k_v hS (kV_run M hS hP ok_X6_335 (c_X6_isToldSo l G (5 * x1) v v16 h14) (rc_6 M hP rfl) rfl hl.1 rfl (Nat.le_of_ble_eq_true rfl) ⟨rfl, rfl⟩ ⟨Nat.le_of_ble_eq_true rfl, Nat.le_of_ble_eq_true rfl⟩ dX6_text_133) (fun H locs hP hS => ?_)
      refine lv_iinc (v := (x1 + 1)) (lv' := [(1, .int (x1 + 1)), (0, .ref (ad G 0))]) hx hb dX6_text_136 hl (k := 1) rfl (iinc_eq _ (by decide)) (by decide) rfl (fun ls hl => ?_)
      refine lv_goto (tgt := 121) hx hb dX6_text_139 (by decide) ?_
      exact ih (x1 + 1) _ _ _ ls hF hP hS (lv_sub hl [1, 0] rfl)
set_option maxHeartbeats 4000000 in
set_option maxRecDepth 100000 in
theorem l_X6_text_43 {p : Program} {l : Launch} {e : Env} {s : State} {m : MethodId} {args : Array Value} {below : List Frame} {meth : Method} {c : Code} {G : GG} (M : Mx G RX6 cX6_text 2 (some .int) p s m args meth c) (r : Int32) (v' : VV) : ∀ (n : Nat) (v : VV) (H : Heap) (locs : List Loc) (ls : Array Slot), L_X6_text_43 n v = some (r, v') → Wd G v H → va_S (gA G) s.heap H locs → lv_has ls 2 [(0, .ref (ad G 0))] → W p l e ({ frames := 8, cells := 0, slots := 0, locals := 178 } : Room) s m args below meth c H locs 0 0 (MQ below (QI G r v') args s 0 0 (gA G)) (F0 m 43 ls []) := by
  have hx := M.1.1
  have hb := M.1.2.1
  intro n
  induction n with
  | zero =>
    intro v H locs ls hF hP hS hl
    rw [L_X6_text_43] at hF
    cases hF
  | succ n ih =>
    intro v H locs ls hF hP hS hl
    rw [L_X6_text_43] at hF
    refine lv_aload_n hx hb dX6_text_43 rfl (lv_at hl 0 rfl) ?_
    refine fg_6_276 M hP dX6_text_44 ?_
    refine lv_if_ne (tgt := 84) hx hb dX6_text_47 (by decide) (fun c7 => ?_) (fun c7 => ?_)
    · replace hF := (if_neg c7).symm.trans hF
      refine lv_aload_n hx hb dX6_text_84 rfl (lv_at hl 0 rfl) ?_
      refine lv_aload_n hx hb dX6_text_85 rfl (lv_at hl 0 rfl) ?_
      refine fg_6_266 M hP dX6_text_86 ?_
      refine lv_if_ne (tgt := 96) hx hb dX6_text_89 (by decide) (fun c8 => ?_) (fun c8 => ?_)
      · replace hF := (if_neg c8).symm.trans hF
        refine lv_iconst (v := 0) hx hb dX6_text_96 (by decide) ?_
        obtain ⟨v11, h9, hF⟩ := bi_some hF
        refine k_v hS (kV_run M hS hP ok_X6_283 (c_X6_must l G 0 v v11 h9) (rc_6 M hP rfl) rfl hl.1 rfl (Nat.le_of_ble_eq_true rfl) ⟨rfl, rfl⟩ ⟨Nat.le_of_ble_eq_true rfl, Nat.le_of_ble_eq_true rfl⟩ dX6_text_97) (fun H locs hP hS => ?_)
        refine lv_aload_n hx hb dX6_text_100 rfl (lv_at hl 0 rfl) ?_
        refine lv_iconst (v := 0) hx hb dX6_text_101 (by decide) ?_
        refine fp_6_250 M hS hP dX6_text_102 (fun H locs hP hS => ?_)
        have hP : Wd G (pu v11 0 6 0) H := hP
        refine lv_aload_n hx hb dX6_text_105 rfl (lv_at hl 0 rfl) ?_
        refine fg_6_276 M hP dX6_text_106 ?_
        refine lv_if_eq (tgt := 119) hx hb dX6_text_109 (by decide) (fun c12 => ?_) (fun c12 => ?_)
        · replace hF := (if_pos c12).symm.trans hF
          refine lv_iconst (v := 0) hx hb dX6_text_119 (by decide) ?_
          refine lv_istore_n (lv' := [(1, .int 0), (0, .ref (ad G 0))]) hx hb dX6_text_120 rfl hl (by decide) rfl (fun ls hl => ?_)
          exact l_X6_text_121 M _ _ fu 0 _ _ _ ls hF hP hS (lv_sub hl [1, 0] rfl)
        · replace hF := (if_neg c12).symm.trans hF
          refine lv_iconst (v := (-1)) hx hb dX6_text_112 (by decide) ?_
          refine lv_aload_n hx hb dX6_text_113 rfl (lv_at hl 0 rfl) ?_
          refine fg_6_257 M hP dX6_text_114 ?_
          refine lv_isub hx hb dX6_text_117 ?_
          exact ret_i M hS hP (Option.some.inj hF) dX6_text_118
      · replace hF := (if_pos c8).symm.trans hF
        refine lv_iconst (v := 1) hx hb dX6_text_92 (by decide) ?_
        refine lv_goto (tgt := 97) hx hb dX6_text_93 (by decide) ?_
        obtain ⟨v19, h17, hF⟩ := bi_some hF
        refine k_v hS (kV_run M hS hP ok_X6_283 (c_X6_must l G 1 v v19 h17) (rc_6 M hP rfl) rfl hl.1 rfl (Nat.le_of_ble_eq_true rfl) ⟨rfl, rfl⟩ ⟨Nat.le_of_ble_eq_true rfl, Nat.le_of_ble_eq_true rfl⟩ dX6_text_97) (fun H locs hP hS => ?_)
        refine lv_aload_n hx hb dX6_text_100 rfl (lv_at hl 0 rfl) ?_
        refine lv_iconst (v := 0) hx hb dX6_text_101 (by decide) ?_
        refine fp_6_250 M hS hP dX6_text_102 (fun H locs hP hS => ?_)
        have hP : Wd G (pu v19 0 6 0) H := hP
        refine lv_aload_n hx hb dX6_text_105 rfl (lv_at hl 0 rfl) ?_
        refine fg_6_276 M hP dX6_text_106 ?_
        refine lv_if_eq (tgt := 119) hx hb dX6_text_109 (by decide) (fun c20 => ?_) (fun c20 => ?_)
        · replace hF := (if_pos c20).symm.trans hF
          refine lv_iconst (v := 0) hx hb dX6_text_119 (by decide) ?_
          refine lv_istore_n (lv' := [(1, .int 0), (0, .ref (ad G 0))]) hx hb dX6_text_120 rfl hl (by decide) rfl (fun ls hl => ?_)
          exact l_X6_text_121 M _ _ fu 0 _ _ _ ls hF hP hS (lv_sub hl [1, 0] rfl)
        · replace hF := (if_neg c20).symm.trans hF
          refine lv_iconst (v := (-1)) hx hb dX6_text_112 (by decide) ?_
          refine lv_aload_n hx hb dX6_text_113 rfl (lv_at hl 0 rfl) ?_
          refine fg_6_257 M hP dX6_text_114 ?_
          refine lv_isub hx hb dX6_text_117 ?_
          exact ret_i M hS hP (Option.some.inj hF) dX6_text_118
    · replace hF := (if_pos c7).symm.trans hF
      refine lv_aload_n hx hb dX6_text_50 rfl (lv_at hl 0 rfl) ?_
      refine fg_6_266 M hP dX6_text_51 ?_
      refine lv_iconst (v := 3) hx hb dX6_text_54 (by decide) ?_
      refine lv_icmp_ne (tgt := 84) hx hb dX6_text_55 (by decide) (fun c21 => ?_) (fun c21 => ?_)
      · replace hF := (if_neg c21).symm.trans hF
        refine lv_aload_n hx hb dX6_text_84 rfl (lv_at hl 0 rfl) ?_
        refine lv_aload_n hx hb dX6_text_85 rfl (lv_at hl 0 rfl) ?_
        refine fg_6_266 M hP dX6_text_86 ?_
        refine lv_if_ne (tgt := 96) hx hb dX6_text_89 (by decide) (fun c22 => ?_) (fun c22 => ?_)
        · replace hF := (if_neg c22).symm.trans hF
          refine lv_iconst (v := 0) hx hb dX6_text_96 (by decide) ?_
          obtain ⟨v25, h23, hF⟩ := bi_some hF
          refine k_v hS (kV_run M hS hP ok_X6_283 (c_X6_must l G 0 v v25 h23) (rc_6 M hP rfl) rfl hl.1 rfl (Nat.le_of_ble_eq_true rfl) ⟨rfl, rfl⟩ ⟨Nat.le_of_ble_eq_true rfl, Nat.le_of_ble_eq_true rfl⟩ dX6_text_97) (fun H locs hP hS => ?_)
          refine lv_aload_n hx hb dX6_text_100 rfl (lv_at hl 0 rfl) ?_
          refine lv_iconst (v := 0) hx hb dX6_text_101 (by decide) ?_
          refine fp_6_250 M hS hP dX6_text_102 (fun H locs hP hS => ?_)
          have hP : Wd G (pu v25 0 6 0) H := hP
          refine lv_aload_n hx hb dX6_text_105 rfl (lv_at hl 0 rfl) ?_
          refine fg_6_276 M hP dX6_text_106 ?_
          refine lv_if_eq (tgt := 119) hx hb dX6_text_109 (by decide) (fun c26 => ?_) (fun c26 => ?_)
          · replace hF := (if_pos c26).symm.trans hF
            refine lv_iconst (v := 0) hx hb dX6_text_119 (by decide) ?_
            refine lv_istore_n (lv' := [(1, .int 0), (0, .ref (ad G 0))]) hx hb dX6_text_120 rfl hl (by decide) rfl (fun ls hl => ?_)
            exact l_X6_text_121 M _ _ fu 0 _ _ _ ls hF hP hS (lv_sub hl [1, 0] rfl)
          · replace hF := (if_neg c26).symm.trans hF
            refine lv_iconst (v := (-1)) hx hb dX6_text_112 (by decide) ?_
            refine lv_aload_n hx hb dX6_text_113 rfl (lv_at hl 0 rfl) ?_
            refine fg_6_257 M hP dX6_text_114 ?_
            refine lv_isub hx hb dX6_text_117 ?_
            exact ret_i M hS hP (Option.some.inj hF) dX6_text_118
        · replace hF := (if_pos c22).symm.trans hF
          refine lv_iconst (v := 1) hx hb dX6_text_92 (by decide) ?_
          refine lv_goto (tgt := 97) hx hb dX6_text_93 (by decide) ?_
          obtain ⟨v29, h27, hF⟩ := bi_some hF
          refine k_v hS (kV_run M hS hP ok_X6_283 (c_X6_must l G 1 v v29 h27) (rc_6 M hP rfl) rfl hl.1 rfl (Nat.le_of_ble_eq_true rfl) ⟨rfl, rfl⟩ ⟨Nat.le_of_ble_eq_true rfl, Nat.le_of_ble_eq_true rfl⟩ dX6_text_97) (fun H locs hP hS => ?_)
          refine lv_aload_n hx hb dX6_text_100 rfl (lv_at hl 0 rfl) ?_
          refine lv_iconst (v := 0) hx hb dX6_text_101 (by decide) ?_
          refine fp_6_250 M hS hP dX6_text_102 (fun H locs hP hS => ?_)
          have hP : Wd G (pu v29 0 6 0) H := hP
          refine lv_aload_n hx hb dX6_text_105 rfl (lv_at hl 0 rfl) ?_
          refine fg_6_276 M hP dX6_text_106 ?_
          refine lv_if_eq (tgt := 119) hx hb dX6_text_109 (by decide) (fun c30 => ?_) (fun c30 => ?_)
          · replace hF := (if_pos c30).symm.trans hF
            refine lv_iconst (v := 0) hx hb dX6_text_119 (by decide) ?_
            refine lv_istore_n (lv' := [(1, .int 0), (0, .ref (ad G 0))]) hx hb dX6_text_120 rfl hl (by decide) rfl (fun ls hl => ?_)
            exact l_X6_text_121 M _ _ fu 0 _ _ _ ls hF hP hS (lv_sub hl [1, 0] rfl)
          · replace hF := (if_neg c30).symm.trans hF
            refine lv_iconst (v := (-1)) hx hb dX6_text_112 (by decide) ?_
            refine lv_aload_n hx hb dX6_text_113 rfl (lv_at hl 0 rfl) ?_
            refine fg_6_257 M hP dX6_text_114 ?_
            refine lv_isub hx hb dX6_text_117 ?_
            exact ret_i M hS hP (Option.some.inj hF) dX6_text_118
      · replace hF := (if_pos c21).symm.trans hF
        refine lv_aload_n hx hb dX6_text_58 rfl (lv_at hl 0 rfl) ?_
        refine fg_6_22 M hP dX6_text_59 ?_
        refine lv_aload_n hx hb dX6_text_62 rfl (lv_at hl 0 rfl) ?_
        refine fg_6_257 M hP dX6_text_63 ?_
        obtain ⟨g31, hF⟩ := gu_some hF
        refine r_iald (k := (v 0 7).toNatClampNeg) M hP rfl rfl (in_c g31) rfl dX6_text_66 ?_
        refine lv_bipush (v := 59) hx hb dX6_text_67 (by decide) ?_
        refine lv_icmp_ne (tgt := 84) hx hb dX6_text_69 (by decide) (fun c32 => ?_) (fun c32 => ?_)
        · replace hF := (if_neg c32).symm.trans hF
          refine lv_aload_n hx hb dX6_text_84 rfl (lv_at hl 0 rfl) ?_
          refine lv_aload_n hx hb dX6_text_85 rfl (lv_at hl 0 rfl) ?_
          refine fg_6_266 M hP dX6_text_86 ?_
          refine lv_if_ne (tgt := 96) hx hb dX6_text_89 (by decide) (fun c33 => ?_) (fun c33 => ?_)
          · replace hF := (if_neg c33).symm.trans hF
            refine lv_iconst (v := 0) hx hb dX6_text_96 (by decide) ?_
            obtain ⟨v36, h34, hF⟩ := bi_some hF
            refine k_v hS (kV_run M hS hP ok_X6_283 (c_X6_must l G 0 v v36 h34) (rc_6 M hP rfl) rfl hl.1 rfl (Nat.le_of_ble_eq_true rfl) ⟨rfl, rfl⟩ ⟨Nat.le_of_ble_eq_true rfl, Nat.le_of_ble_eq_true rfl⟩ dX6_text_97) (fun H locs hP hS => ?_)
            refine lv_aload_n hx hb dX6_text_100 rfl (lv_at hl 0 rfl) ?_
            refine lv_iconst (v := 0) hx hb dX6_text_101 (by decide) ?_
            refine fp_6_250 M hS hP dX6_text_102 (fun H locs hP hS => ?_)
            have hP : Wd G (pu v36 0 6 0) H := hP
            refine lv_aload_n hx hb dX6_text_105 rfl (lv_at hl 0 rfl) ?_
            refine fg_6_276 M hP dX6_text_106 ?_
            refine lv_if_eq (tgt := 119) hx hb dX6_text_109 (by decide) (fun c37 => ?_) (fun c37 => ?_)
            · replace hF := (if_pos c37).symm.trans hF
              refine lv_iconst (v := 0) hx hb dX6_text_119 (by decide) ?_
              refine lv_istore_n (lv' := [(1, .int 0), (0, .ref (ad G 0))]) hx hb dX6_text_120 rfl hl (by decide) rfl (fun ls hl => ?_)
              exact l_X6_text_121 M _ _ fu 0 _ _ _ ls hF hP hS (lv_sub hl [1, 0] rfl)
            · replace hF := (if_neg c37).symm.trans hF
              refine lv_iconst (v := (-1)) hx hb dX6_text_112 (by decide) ?_
              refine lv_aload_n hx hb dX6_text_113 rfl (lv_at hl 0 rfl) ?_
              refine fg_6_257 M hP dX6_text_114 ?_
              refine lv_isub hx hb dX6_text_117 ?_
              exact ret_i M hS hP (Option.some.inj hF) dX6_text_118
          · replace hF := (if_pos c33).symm.trans hF
            refine lv_iconst (v := 1) hx hb dX6_text_92 (by decide) ?_
            refine lv_goto (tgt := 97) hx hb dX6_text_93 (by decide) ?_
            obtain ⟨v40, h38, hF⟩ := bi_some hF
            refine k_v hS (kV_run M hS hP ok_X6_283 (c_X6_must l G 1 v v40 h38) (rc_6 M hP rfl) rfl hl.1 rfl (Nat.le_of_ble_eq_true rfl) ⟨rfl, rfl⟩ ⟨Nat.le_of_ble_eq_true rfl, Nat.le_of_ble_eq_true rfl⟩ dX6_text_97) (fun H locs hP hS => ?_)
            refine lv_aload_n hx hb dX6_text_100 rfl (lv_at hl 0 rfl) ?_
            refine lv_iconst (v := 0) hx hb dX6_text_101 (by decide) ?_
            refine fp_6_250 M hS hP dX6_text_102 (fun H locs hP hS => ?_)
            have hP : Wd G (pu v40 0 6 0) H := hP
            refine lv_aload_n hx hb dX6_text_105 rfl (lv_at hl 0 rfl) ?_
            refine fg_6_276 M hP dX6_text_106 ?_
            refine lv_if_eq (tgt := 119) hx hb dX6_text_109 (by decide) (fun c41 => ?_) (fun c41 => ?_)
            · replace hF := (if_pos c41).symm.trans hF
              refine lv_iconst (v := 0) hx hb dX6_text_119 (by decide) ?_
              refine lv_istore_n (lv' := [(1, .int 0), (0, .ref (ad G 0))]) hx hb dX6_text_120 rfl hl (by decide) rfl (fun ls hl => ?_)
              exact l_X6_text_121 M _ _ fu 0 _ _ _ ls hF hP hS (lv_sub hl [1, 0] rfl)
            · replace hF := (if_neg c41).symm.trans hF
              refine lv_iconst (v := (-1)) hx hb dX6_text_112 (by decide) ?_
              refine lv_aload_n hx hb dX6_text_113 rfl (lv_at hl 0 rfl) ?_
              refine fg_6_257 M hP dX6_text_114 ?_
              refine lv_isub hx hb dX6_text_117 ?_
              exact ret_i M hS hP (Option.some.inj hF) dX6_text_118
        · replace hF := (if_pos c32).symm.trans hF
          refine lv_aload_n hx hb dX6_text_72 rfl (lv_at hl 0 rfl) ?_
          refine lv_iconst (v := 1) hx hb dX6_text_73 (by decide) ?_
          obtain ⟨v44, h42, hF⟩ := bi_some hF
          refine k_v hS (kV_run M hS hP ok_X6_283 (c_X6_must l G 1 v v44 h42) (rc_6 M hP rfl) rfl hl.1 rfl (Nat.le_of_ble_eq_true rfl) ⟨rfl, rfl⟩ ⟨Nat.le_of_ble_eq_true rfl, Nat.le_of_ble_eq_true rfl⟩ dX6_text_74) (fun H locs hP hS => ?_)
          refine lv_aload_n hx hb dX6_text_77 rfl (lv_at hl 0 rfl) ?_
          obtain ⟨v47, h45, hF⟩ := bi_some hF
          refine k_v hS (kV_run M hS hP ok_X6_332 (c_X6_readItem l G v44 v47 h45) (rc_6 M hP rfl) rfl hl.1 rfl (Nat.le_of_ble_eq_true rfl) ⟨rfl, rfl⟩ ⟨Nat.le_of_ble_eq_true rfl, Nat.le_of_ble_eq_true rfl⟩ dX6_text_78) (fun H locs hP hS => ?_)
          refine lv_goto (tgt := 43) hx hb dX6_text_81 (by decide) ?_
          exact ih _ _ _ ls hF hP hS (lv_sub hl [0] rfl)
set_option maxHeartbeats 4000000 in
set_option maxRecDepth 100000 in
theorem c_X6_text (l : Launch) (G : GG) (v : VV) (r : Int32) (v' : VV) (hF : F_X6_text v = some (r, v')) : Met l yX6_text (cdW yX6_text cX6_text 2 (some .int)) ({ frames := 8, cells := 0, slots := 0, locals := 178 } : Room) (PC G v [.ref (ad G 0)]) (QI G r v') 0 0 (gA G) := by
  refine met_in RX6 (by decide) rfl (Nat.le_of_ble_eq_true rfl) ?_
  intro p e s m below meth c M hP ls hl
  have hx := M.1.1
  have hb := M.1.2.1
  have hS : va_S (gA G) s.heap s.heap [] := va_S.rf
  have hl : lv_has ls 2 [(0, .ref (ad G 0))] := hl
  unfold F_X6_text at hF
  refine lv_aload_n hx hb dX6_text_0 rfl (lv_at hl 0 rfl) ?_
  refine lv_iconst (v := 0) hx hb dX6_text_1 (by decide) ?_
  refine fp_6_254 M hS hP dX6_text_2 (fun H locs hP hS => ?_)
  have hP : Wd G (pu v 0 8 0) H := hP
  refine lv_aload_n hx hb dX6_text_5 rfl (lv_at hl 0 rfl) ?_
  refine lv_iconst (v := 0) hx hb dX6_text_6 (by decide) ?_
  refine fp_6_276 M hS hP rfl rfl dX6_text_7 (fun H locs hP hS => ?_)
  have hP : Wd G (pu (pu v 0 8 0) 0 11 0) H := hP
  refine lv_aload_n hx hb dX6_text_10 rfl (lv_at hl 0 rfl) ?_
  refine lv_iconst (v := 0) hx hb dX6_text_11 (by decide) ?_
  refine fp_6_287 M hS hP dX6_text_12 (fun H locs hP hS => ?_)
  have hP : Wd G (pu (pu (pu v 0 8 0) 0 11 0) 0 14 0) H := hP
  refine lv_aload_n hx hb dX6_text_15 rfl (lv_at hl 0 rfl) ?_
  refine lv_aload_n hx hb dX6_text_16 rfl (lv_at hl 0 rfl) ?_
  refine fg_6_9 M hP dX6_text_17 ?_
  refine lv_iconst (v := 1) hx hb dX6_text_20 (by decide) ?_
  refine r_iald (k := 1) M hP rfl rfl (in_c rfl) rfl dX6_text_21 ?_
  refine fp_6_294 M hS hP dX6_text_22 (fun H locs hP hS => ?_)
  have hP : Wd G (pu (pu (pu (pu v 0 8 0) 0 11 0) 0 14 0) 0 15 ((pu (pu (pu v 0 8 0) 0 11 0) 0 14 0) 1 1)) H := hP
  refine lv_aload_n hx hb dX6_text_25 rfl (lv_at hl 0 rfl) ?_
  refine lv_aload_n hx hb dX6_text_26 rfl (lv_at hl 0 rfl) ?_
  refine fg_6_9 M hP dX6_text_27 ?_
  refine lv_iconst (v := 3) hx hb dX6_text_30 (by decide) ?_
  refine r_iald (k := 3) M hP rfl rfl (in_c rfl) rfl dX6_text_31 ?_
  refine fp_6_315 M hS hP dX6_text_32 (fun H locs hP hS => ?_)
  have hP : Wd G (pu (pu (pu (pu (pu v 0 8 0) 0 11 0) 0 14 0) 0 15 ((pu (pu (pu v 0 8 0) 0 11 0) 0 14 0) 1 1)) 0 16 ((pu (pu (pu (pu v 0 8 0) 0 11 0) 0 14 0) 0 15 ((pu (pu (pu v 0 8 0) 0 11 0) 0 14 0) 1 1)) 1 3)) H := hP
  refine lv_aload_n hx hb dX6_text_35 rfl (lv_at hl 0 rfl) ?_
  obtain ⟨v3, h1, hF⟩ := bi_some hF
  refine k_v hS (kV_run M hS hP ok_X6_280 (c_X6_token l G (pu (pu (pu (pu (pu v 0 8 0) 0 11 0) 0 14 0) 0 15 ((pu (pu (pu v 0 8 0) 0 11 0) 0 14 0) 1 1)) 0 16 ((pu (pu (pu (pu v 0 8 0) 0 11 0) 0 14 0) 0 15 ((pu (pu (pu v 0 8 0) 0 11 0) 0 14 0) 1 1)) 1 3)) v3 h1) (rc_6 M hP rfl) rfl hl.1 rfl (Nat.le_of_ble_eq_true rfl) ⟨rfl, rfl⟩ ⟨Nat.le_of_ble_eq_true rfl, Nat.le_of_ble_eq_true rfl⟩ dX6_text_36) (fun H locs hP hS => ?_)
  refine lv_aload_n hx hb dX6_text_39 rfl (lv_at hl 0 rfl) ?_
  obtain ⟨v6, h4, hF⟩ := bi_some hF
  refine k_v hS (kV_run M hS hP ok_X6_332 (c_X6_readItem l G v3 v6 h4) (rc_6 M hP rfl) rfl hl.1 rfl (Nat.le_of_ble_eq_true rfl) ⟨rfl, rfl⟩ ⟨Nat.le_of_ble_eq_true rfl, Nat.le_of_ble_eq_true rfl⟩ dX6_text_40) (fun H locs hP hS => ?_)
  exact l_X6_text_43 M _ _ fu _ _ _ ls hF hP hS (lv_sub hl [0] rfl)
def F_X6_isSpot (a0 : Int32) (v : VV) : Option Bool :=
  Option.bind (F_X6_within a0 0 9 v) (fun r2 => some r2)
set_option maxHeartbeats 4000000 in
set_option maxRecDepth 100000 in
theorem c_X6_isSpot (l : Launch) (G : GG) (a0 : Int32) (v : VV) (r : Bool) (hF : F_X6_isSpot a0 v = some r) : Met l yX6_isSpot (cdW yX6_isSpot cX6_isSpot 1 (some .boolean)) ({ frames := 1, cells := 0, slots := 0, locals := 22 } : Room) (PC G v [.int a0]) (QI G (bI r) v) 0 0 (gA G) := by
  refine met_in RX6 (by decide) rfl (Nat.le_of_ble_eq_true rfl) ?_
  intro p e s m below meth c M hP ls hl
  have hx := M.1.1
  have hb := M.1.2.1
  have hS : va_S (gA G) s.heap s.heap [] := va_S.rf
  have hl : lv_has ls 1 [(0, .int a0)] := hl
  unfold F_X6_isSpot at hF
  refine lv_iload_n hx hb dX6_isSpot_0 rfl (lv_at hl 0 rfl) ?_
  refine lv_iconst (v := 0) hx hb dX6_isSpot_1 (by decide) ?_
  refine lv_bipush (v := 9) hx hb dX6_isSpot_2 (by decide) ?_
  obtain ⟨r2, h1, hF⟩ := bi_some hF
  refine k_i hS (kS_run M hS hP ok_X6_70 (c_X6_within l G a0 0 9 v r2 h1) rfl hl.1 rfl (Nat.le_of_ble_eq_true rfl) ⟨rfl, rfl⟩ ⟨Nat.le_of_ble_eq_true rfl, Nat.le_of_ble_eq_true rfl⟩ dX6_isSpot_4) (fun H locs hP hS => ?_)
  exact ret_z M hS hP (congrArg (fun z : Bool => (bI z, v)) (Option.some.inj hF)) (bI_nar r2) dX6_isSpot_7
def F_X6_hold (a1 : Int32) (a2 : Int32) (v : VV) : Option (Int32 × VV) :=
  Option.bind (F_X6_isSpot a1 v) (fun r2 => (if r2 = true then (if a2 = (-1) then (gu (gI (10 + a1) 92) (some (1, pu v 1 ((10 + a1).toNatClampNeg) a2))) else (Option.bind (F_X6_isKeeper a2 v) (fun r11 => (if r11 = true then (gu (gI (10 + a1) 92) (some (1, pu v 1 ((10 + a1).toNatClampNeg) a2))) else (Option.bind (F_X6_finding (-1000001) v) (fun (r15, v16) => some (r15, v16))))))) else (Option.bind (F_X6_finding (-1000001) v) (fun (r5, v6) => some (r5, v6)))))
set_option maxHeartbeats 4000000 in
set_option maxRecDepth 100000 in
theorem c_X6_hold (l : Launch) (G : GG) (a1 : Int32) (a2 : Int32) (v : VV) (r : Int32) (v' : VV) (hF : F_X6_hold a1 a2 v = some (r, v')) : Met l yX6_hold (cdW yX6_hold cX6_hold 3 (some .int)) ({ frames := 2, cells := 0, slots := 0, locals := 43 } : Room) (PC G v [.ref (ad G 0), .int a1, .int a2]) (QI G r v') 0 0 (gA G) := by
  refine met_in RX6 (by decide) rfl (Nat.le_of_ble_eq_true rfl) ?_
  intro p e s m below meth c M hP ls hl
  have hx := M.1.1
  have hb := M.1.2.1
  have hS : va_S (gA G) s.heap s.heap [] := va_S.rf
  have hl : lv_has ls 3 [(0, .ref (ad G 0)), (1, .int a1), (2, .int a2)] := hl
  unfold F_X6_hold at hF
  refine lv_iload_n hx hb dX6_hold_0 rfl (lv_at hl 1 rfl) ?_
  obtain ⟨r2, h1, hF⟩ := bi_some hF
  refine k_i hS (kS_run M hS hP ok_X6_338 (c_X6_isSpot l G a1 v r2 h1) rfl hl.1 rfl (Nat.le_of_ble_eq_true rfl) ⟨rfl, rfl⟩ ⟨Nat.le_of_ble_eq_true rfl, Nat.le_of_ble_eq_true rfl⟩ dX6_hold_1) (fun H locs hP hS => ?_)
  refine lv_if_eq (tgt := 20) hx hb dX6_hold_4 (by decide) (fun c3 => ?_) (fun c3 => ?_)
  · replace hF := (if_neg (bI_f c3)).symm.trans hF
    refine lv_aload_n hx hb dX6_hold_20 rfl (lv_at hl 0 rfl) ?_
    refine lv_ldc (own := RX6) (v := (-1000001)) hx hb M.1.2.2.2.1 (M.1.2.2.2.2 (Cond.constant RX6 60 (-1000001)) w_788) dX6_hold_21 ?_
    obtain ⟨⟨r5, v6⟩, h4, hF⟩ := bi_some hF
    dsimp only at hF
    refine k_i hS (kV_run M hS hP ok_X6_66 (c_X6_finding l G (-1000001) v r5 v6 h4) (rc_6 M hP rfl) rfl hl.1 rfl (Nat.le_of_ble_eq_true rfl) ⟨rfl, rfl⟩ ⟨Nat.le_of_ble_eq_true rfl, Nat.le_of_ble_eq_true rfl⟩ dX6_hold_23) (fun H locs hP hS => ?_)
    exact ret_i M hS hP (Option.some.inj hF) dX6_hold_26
  · replace hF := (if_pos (bI_t c3)).symm.trans hF
    refine lv_iload_n hx hb dX6_hold_7 rfl (lv_at hl 2 rfl) ?_
    refine lv_iconst (v := (-1)) hx hb dX6_hold_8 (by decide) ?_
    refine lv_icmp_eq (tgt := 27) hx hb dX6_hold_9 (by decide) (fun c8 => ?_) (fun c8 => ?_)
    · replace hF := (if_pos c8).symm.trans hF
      refine lv_aload_n hx hb dX6_hold_27 rfl (lv_at hl 0 rfl) ?_
      refine fg_6_9 M hP dX6_hold_28 ?_
      refine lv_bipush (v := 10) hx hb dX6_hold_31 (by decide) ?_
      refine lv_iload_n hx hb dX6_hold_33 rfl (lv_at hl 1 rfl) ?_
      refine lv_iadd hx hb dX6_hold_34 ?_
      refine lv_iload_n hx hb dX6_hold_35 rfl (lv_at hl 2 rfl) ?_
      obtain ⟨g9, hF⟩ := gu_some hF
      refine r_iast (k := (10 + a1).toNatClampNeg) M hS hP rfl rfl (in_c g9) rfl dX6_hold_36 (fun H locs hP hS => ?_)
      have hP : Wd G (pu v 1 ((10 + a1).toNatClampNeg) a2) H := hP
      refine lv_iconst (v := 1) hx hb dX6_hold_37 (by decide) ?_
      exact ret_i M hS hP (Option.some.inj hF) dX6_hold_38
    · replace hF := (if_neg c8).symm.trans hF
      refine lv_aload_n hx hb dX6_hold_12 rfl (lv_at hl 0 rfl) ?_
      refine lv_iload_n hx hb dX6_hold_13 rfl (lv_at hl 2 rfl) ?_
      obtain ⟨r11, h10, hF⟩ := bi_some hF
      refine k_i hS (kV_run M hS hP ok_X6_131 (c_X6_isKeeper l G a2 v r11 h10) (rc_6 M hP rfl) rfl hl.1 rfl (Nat.le_of_ble_eq_true rfl) ⟨rfl, rfl⟩ ⟨Nat.le_of_ble_eq_true rfl, Nat.le_of_ble_eq_true rfl⟩ dX6_hold_14) (fun H locs hP hS => ?_)
      refine lv_if_ne (tgt := 27) hx hb dX6_hold_17 (by decide) (fun c12 => ?_) (fun c12 => ?_)
      · replace hF := (if_pos (bI_t c12)).symm.trans hF
        refine lv_aload_n hx hb dX6_hold_27 rfl (lv_at hl 0 rfl) ?_
        refine fg_6_9 M hP dX6_hold_28 ?_
        refine lv_bipush (v := 10) hx hb dX6_hold_31 (by decide) ?_
        refine lv_iload_n hx hb dX6_hold_33 rfl (lv_at hl 1 rfl) ?_
        refine lv_iadd hx hb dX6_hold_34 ?_
        refine lv_iload_n hx hb dX6_hold_35 rfl (lv_at hl 2 rfl) ?_
        obtain ⟨g13, hF⟩ := gu_some hF
        refine r_iast (k := (10 + a1).toNatClampNeg) M hS hP rfl rfl (in_c g13) rfl dX6_hold_36 (fun H locs hP hS => ?_)
        have hP : Wd G (pu v 1 ((10 + a1).toNatClampNeg) a2) H := hP
        refine lv_iconst (v := 1) hx hb dX6_hold_37 (by decide) ?_
        exact ret_i M hS hP (Option.some.inj hF) dX6_hold_38
      · replace hF := (if_neg (bI_f c12)).symm.trans hF
        refine lv_aload_n hx hb dX6_hold_20 rfl (lv_at hl 0 rfl) ?_
        refine lv_ldc (own := RX6) (v := (-1000001)) hx hb M.1.2.2.2.1 (M.1.2.2.2.2 (Cond.constant RX6 60 (-1000001)) w_788) dX6_hold_21 ?_
        obtain ⟨⟨r15, v16⟩, h14, hF⟩ := bi_some hF
        dsimp only at hF
        refine k_i hS (kV_run M hS hP ok_X6_66 (c_X6_finding l G (-1000001) v r15 v16 h14) (rc_6 M hP rfl) rfl hl.1 rfl (Nat.le_of_ble_eq_true rfl) ⟨rfl, rfl⟩ ⟨Nat.le_of_ble_eq_true rfl, Nat.le_of_ble_eq_true rfl⟩ dX6_hold_23) (fun H locs hP hS => ?_)
        exact ret_i M hS hP (Option.some.inj hF) dX6_hold_26
def F_X6_above (a0 : Int32) (v : VV) : Option Int32 :=
  if a0 = 0 then (some (-1)) else (if a0 = 3 then (some 2) else (if a0 = 4 then (some 3) else (if a0 = 6 then (some 1) else (some 0))))
set_option maxHeartbeats 4000000 in
set_option maxRecDepth 100000 in
theorem c_X6_above (l : Launch) (G : GG) (a0 : Int32) (v : VV) (r : Int32) (hF : F_X6_above a0 v = some r) : Met l yX6_above (cdW yX6_above cX6_above 1 (some .int)) ({ frames := 0, cells := 0, slots := 0, locals := 0 } : Room) (PC G v [.int a0]) (QI G r v) 0 0 (gA G) := by
  refine met_in RX6 (by decide) rfl (Nat.le_of_ble_eq_true rfl) ?_
  intro p e s m below meth c M hP ls hl
  have hx := M.1.1
  have hb := M.1.2.1
  have hS : va_S (gA G) s.heap s.heap [] := va_S.rf
  have hl : lv_has ls 1 [(0, .int a0)] := hl
  unfold F_X6_above at hF
  refine lv_iload_n hx hb dX6_above_0 rfl (lv_at hl 0 rfl) ?_
  refine lv_if_ne (tgt := 8) hx hb dX6_above_1 (by decide) (fun c1 => ?_) (fun c1 => ?_)
  · replace hF := (if_neg c1).symm.trans hF
    refine lv_iload_n hx hb dX6_above_8 rfl (lv_at hl 0 rfl) ?_
    refine lv_iconst (v := 3) hx hb dX6_above_9 (by decide) ?_
    refine lv_icmp_ne (tgt := 17) hx hb dX6_above_10 (by decide) (fun c2 => ?_) (fun c2 => ?_)
    · replace hF := (if_neg c2).symm.trans hF
      refine lv_iload_n hx hb dX6_above_17 rfl (lv_at hl 0 rfl) ?_
      refine lv_iconst (v := 4) hx hb dX6_above_18 (by decide) ?_
      refine lv_icmp_ne (tgt := 26) hx hb dX6_above_19 (by decide) (fun c3 => ?_) (fun c3 => ?_)
      · replace hF := (if_neg c3).symm.trans hF
        refine lv_iload_n hx hb dX6_above_26 rfl (lv_at hl 0 rfl) ?_
        refine lv_bipush (v := 6) hx hb dX6_above_27 (by decide) ?_
        refine lv_icmp_ne (tgt := 36) hx hb dX6_above_29 (by decide) (fun c4 => ?_) (fun c4 => ?_)
        · replace hF := (if_neg c4).symm.trans hF
          refine lv_iconst (v := 0) hx hb dX6_above_36 (by decide) ?_
          exact ret_i M hS hP (congrArg (fun z => (z, v)) (Option.some.inj hF)) dX6_above_37
        · replace hF := (if_pos c4).symm.trans hF
          refine lv_iconst (v := 1) hx hb dX6_above_32 (by decide) ?_
          refine lv_goto (tgt := 37) hx hb dX6_above_33 (by decide) ?_
          exact ret_i M hS hP (congrArg (fun z => (z, v)) (Option.some.inj hF)) dX6_above_37
      · replace hF := (if_pos c3).symm.trans hF
        refine lv_iconst (v := 3) hx hb dX6_above_22 (by decide) ?_
        refine lv_goto (tgt := 37) hx hb dX6_above_23 (by decide) ?_
        exact ret_i M hS hP (congrArg (fun z => (z, v)) (Option.some.inj hF)) dX6_above_37
    · replace hF := (if_pos c2).symm.trans hF
      refine lv_iconst (v := 2) hx hb dX6_above_13 (by decide) ?_
      refine lv_goto (tgt := 37) hx hb dX6_above_14 (by decide) ?_
      exact ret_i M hS hP (congrArg (fun z => (z, v)) (Option.some.inj hF)) dX6_above_37
  · replace hF := (if_pos c1).symm.trans hF
    refine lv_iconst (v := (-1)) hx hb dX6_above_4 (by decide) ?_
    refine lv_goto (tgt := 37) hx hb dX6_above_5 (by decide) ?_
    exact ret_i M hS hP (congrArg (fun z => (z, v)) (Option.some.inj hF)) dX6_above_37
def L_X6_isUnder_2 : Nat → Int32 → Int32 → Int32 → VV → Option Bool
  | 0, _, _, _, _ => none
  | n + 1, x0, x1, x2, v =>
  if x2 < 0 then (if x2 < 0 then (some false) else (some true)) else (if x2 = x1 then (if x2 < 0 then (some false) else (some true)) else (Option.bind (F_X6_above x2 v) (fun r6 => L_X6_isUnder_2 n x0 x1 r6 v)))
def F_X6_isUnder (a0 : Int32) (a1 : Int32) (v : VV) : Option Bool :=
  L_X6_isUnder_2 fu a0 a1 a0 v
set_option maxHeartbeats 4000000 in
set_option maxRecDepth 100000 in
theorem l_X6_isUnder_2 {p : Program} {l : Launch} {e : Env} {s : State} {m : MethodId} {args : Array Value} {below : List Frame} {meth : Method} {c : Code} {G : GG} (M : Mx G RX6 cX6_isUnder 3 (some .boolean) p s m args meth c) (r : Bool) (v : VV) : ∀ (n : Nat) (x0 : Int32) (x1 : Int32) (x2 : Int32) (H : Heap) (locs : List Loc) (ls : Array Slot), L_X6_isUnder_2 n x0 x1 x2 v = some r → Wd G v H → va_S (gA G) s.heap H locs → lv_has ls 3 [(0, .int x0), (1, .int x1), (2, .int x2)] → W p l e ({ frames := 1, cells := 0, slots := 0, locals := 20 } : Room) s m args below meth c H locs 0 0 (MQ below (QI G (bI r) v) args s 0 0 (gA G)) (F0 m 2 ls []) := by
  have hx := M.1.1
  have hb := M.1.2.1
  intro n
  induction n with
  | zero =>
    intro x0 x1 x2 H locs ls hF hP hS hl
    rw [L_X6_isUnder_2] at hF
    cases hF
  | succ n ih =>
    intro x0 x1 x2 H locs ls hF hP hS hl
    rw [L_X6_isUnder_2] at hF
    refine lv_iload_n hx hb dX6_isUnder_2 rfl (lv_at hl 2 rfl) ?_
    refine lv_if_lt (tgt := 19) hx hb dX6_isUnder_3 (by decide) (fun c1 => ?_) (fun c1 => ?_)
    · replace hF := (if_pos c1).symm.trans hF
      refine lv_iload_n hx hb dX6_isUnder_19 rfl (lv_at hl 2 rfl) ?_
      refine lv_if_lt (tgt := 27) hx hb dX6_isUnder_20 (by decide) (fun c2 => ?_) (fun c2 => ?_)
      · replace hF := (if_pos c2).symm.trans hF
        refine lv_iconst (v := 0) hx hb dX6_isUnder_27 (by decide) ?_
        exact ret_z M hS hP (congrArg (fun z : Bool => (bI z, v)) (Option.some.inj hF)) rfl dX6_isUnder_28
      · replace hF := (if_neg c2).symm.trans hF
        refine lv_iconst (v := 1) hx hb dX6_isUnder_23 (by decide) ?_
        refine lv_goto (tgt := 28) hx hb dX6_isUnder_24 (by decide) ?_
        exact ret_z M hS hP (congrArg (fun z : Bool => (bI z, v)) (Option.some.inj hF)) rfl dX6_isUnder_28
    · replace hF := (if_neg c1).symm.trans hF
      refine lv_iload_n hx hb dX6_isUnder_6 rfl (lv_at hl 2 rfl) ?_
      refine lv_iload_n hx hb dX6_isUnder_7 rfl (lv_at hl 1 rfl) ?_
      refine lv_icmp_eq (tgt := 19) hx hb dX6_isUnder_8 (by decide) (fun c3 => ?_) (fun c3 => ?_)
      · replace hF := (if_pos c3).symm.trans hF
        refine lv_iload_n hx hb dX6_isUnder_19 rfl (lv_at hl 2 rfl) ?_
        refine lv_if_lt (tgt := 27) hx hb dX6_isUnder_20 (by decide) (fun c4 => ?_) (fun c4 => ?_)
        · replace hF := (if_pos c4).symm.trans hF
          refine lv_iconst (v := 0) hx hb dX6_isUnder_27 (by decide) ?_
          exact ret_z M hS hP (congrArg (fun z : Bool => (bI z, v)) (Option.some.inj hF)) rfl dX6_isUnder_28
        · replace hF := (if_neg c4).symm.trans hF
          refine lv_iconst (v := 1) hx hb dX6_isUnder_23 (by decide) ?_
          refine lv_goto (tgt := 28) hx hb dX6_isUnder_24 (by decide) ?_
          exact ret_z M hS hP (congrArg (fun z : Bool => (bI z, v)) (Option.some.inj hF)) rfl dX6_isUnder_28
      · replace hF := (if_neg c3).symm.trans hF
        refine lv_iload_n hx hb dX6_isUnder_11 rfl (lv_at hl 2 rfl) ?_
        obtain ⟨r6, h5, hF⟩ := bi_some hF
        refine k_i hS (kS_run M hS hP ok_X6_349 (c_X6_above l G x2 v r6 h5) rfl hl.1 rfl (Nat.le_of_ble_eq_true rfl) ⟨rfl, rfl⟩ ⟨Nat.le_of_ble_eq_true rfl, Nat.le_of_ble_eq_true rfl⟩ dX6_isUnder_12) (fun H locs hP hS => ?_)
        refine lv_istore_n (lv' := [(2, .int r6), (0, .int x0), (1, .int x1)]) hx hb dX6_isUnder_15 rfl hl (by decide) rfl (fun ls hl => ?_)
        refine lv_goto (tgt := 2) hx hb dX6_isUnder_16 (by decide) ?_
        exact ih x0 x1 r6 _ _ ls hF hP hS (lv_sub hl [1, 2, 0] rfl)
set_option maxHeartbeats 4000000 in
set_option maxRecDepth 100000 in
theorem c_X6_isUnder (l : Launch) (G : GG) (a0 : Int32) (a1 : Int32) (v : VV) (r : Bool) (hF : F_X6_isUnder a0 a1 v = some r) : Met l yX6_isUnder (cdW yX6_isUnder cX6_isUnder 3 (some .boolean)) ({ frames := 1, cells := 0, slots := 0, locals := 20 } : Room) (PC G v [.int a0, .int a1]) (QI G (bI r) v) 0 0 (gA G) := by
  refine met_in RX6 (by decide) rfl (Nat.le_of_ble_eq_true rfl) ?_
  intro p e s m below meth c M hP ls hl
  have hx := M.1.1
  have hb := M.1.2.1
  have hS : va_S (gA G) s.heap s.heap [] := va_S.rf
  have hl : lv_has ls 3 [(0, .int a0), (1, .int a1)] := hl
  unfold F_X6_isUnder at hF
  refine lv_iload_n hx hb dX6_isUnder_0 rfl (lv_at hl 0 rfl) ?_
  refine lv_istore_n (lv' := [(2, .int a0), (0, .int a0), (1, .int a1)]) hx hb dX6_isUnder_1 rfl hl (by decide) rfl (fun ls hl => ?_)
  exact l_X6_isUnder_2 M _ _ fu a0 a1 a0 _ _ ls hF hP hS (lv_sub hl [1, 2, 0] rfl)
def F_X6_as (a1 : Int32) (a2 : Int32) (v : VV) : Option (Int32 × VV) :=
  Option.bind (F_X6_isSpot a1 v) (fun r2 => (if r2 = true then (Option.bind (F_X6_isKind a2 v) (fun r9 => (if r9 = true then (gu (gI (10 + a1) 92) ((if 0 ≤ (v 1 ((10 + a1).toNatClampNeg)) then (Option.bind (F_X6_keeperIs (v 1 ((10 + a1).toNatClampNeg)) 0 v) (fun r14 => Option.bind (F_X6_isUnder r14 a2 v) (fun r16 => (if r16 = true then (some (v 1 ((10 + a1).toNatClampNeg), v)) else (Option.bind (F_X6_finding (-1000003) v) (fun (r19, v20) => some (r19, v20))))))) else (Option.bind (F_X6_finding (-1000006) v) (fun (r23, v24) => some (r23, v24)))))) else (Option.bind (F_X6_finding (-1000001) v) (fun (r27, v28) => some (r27, v28)))))) else (Option.bind (F_X6_finding (-1000001) v) (fun (r5, v6) => some (r5, v6)))))
set_option maxHeartbeats 4000000 in
set_option maxRecDepth 100000 in
theorem c_X6_as (l : Launch) (G : GG) (a1 : Int32) (a2 : Int32) (v : VV) (r : Int32) (v' : VV) (hF : F_X6_as a1 a2 v = some (r, v')) : Met l yX6_as (cdW yX6_as cX6_as 4 (some .int)) ({ frames := 2, cells := 0, slots := 0, locals := 43 } : Room) (PC G v [.ref (ad G 0), .int a1, .int a2]) (QI G r v') 0 0 (gA G) := by
  refine met_in RX6 (by decide) rfl (Nat.le_of_ble_eq_true rfl) ?_
  intro p e s m below meth c M hP ls hl
  have hx := M.1.1
  have hb := M.1.2.1
  have hS : va_S (gA G) s.heap s.heap [] := va_S.rf
  have hl : lv_has ls 4 [(0, .ref (ad G 0)), (1, .int a1), (2, .int a2)] := hl
  unfold F_X6_as at hF
  refine lv_iload_n hx hb dX6_as_0 rfl (lv_at hl 1 rfl) ?_
  obtain ⟨r2, h1, hF⟩ := bi_some hF
  refine k_i hS (kS_run M hS hP ok_X6_338 (c_X6_isSpot l G a1 v r2 h1) rfl hl.1 rfl (Nat.le_of_ble_eq_true rfl) ⟨rfl, rfl⟩ ⟨Nat.le_of_ble_eq_true rfl, Nat.le_of_ble_eq_true rfl⟩ dX6_as_1) (fun H locs hP hS => ?_)
  refine lv_if_eq (tgt := 14) hx hb dX6_as_4 (by decide) (fun c3 => ?_) (fun c3 => ?_)
  · replace hF := (if_neg (bI_f c3)).symm.trans hF
    refine lv_aload_n hx hb dX6_as_14 rfl (lv_at hl 0 rfl) ?_
    refine lv_ldc (own := RX6) (v := (-1000001)) hx hb M.1.2.2.2.1 (M.1.2.2.2.2 (Cond.constant RX6 60 (-1000001)) w_788) dX6_as_15 ?_
    obtain ⟨⟨r5, v6⟩, h4, hF⟩ := bi_some hF
    dsimp only at hF
    refine k_i hS (kV_run M hS hP ok_X6_66 (c_X6_finding l G (-1000001) v r5 v6 h4) (rc_6 M hP rfl) rfl hl.1 rfl (Nat.le_of_ble_eq_true rfl) ⟨rfl, rfl⟩ ⟨Nat.le_of_ble_eq_true rfl, Nat.le_of_ble_eq_true rfl⟩ dX6_as_17) (fun H locs hP hS => ?_)
    exact ret_i M hS hP (Option.some.inj hF) dX6_as_20
  · replace hF := (if_pos (bI_t c3)).symm.trans hF
    refine lv_iload_n hx hb dX6_as_7 rfl (lv_at hl 2 rfl) ?_
    obtain ⟨r9, h8, hF⟩ := bi_some hF
    refine k_i hS (kS_run M hS hP ok_X6_91 (c_X6_isKind l G a2 v r9 h8) rfl hl.1 rfl (Nat.le_of_ble_eq_true rfl) ⟨rfl, rfl⟩ ⟨Nat.le_of_ble_eq_true rfl, Nat.le_of_ble_eq_true rfl⟩ dX6_as_8) (fun H locs hP hS => ?_)
    refine lv_if_ne (tgt := 21) hx hb dX6_as_11 (by decide) (fun c10 => ?_) (fun c10 => ?_)
    · replace hF := (if_pos (bI_t c10)).symm.trans hF
      refine lv_aload_n hx hb dX6_as_21 rfl (lv_at hl 0 rfl) ?_
      refine fg_6_9 M hP dX6_as_22 ?_
      refine lv_bipush (v := 10) hx hb dX6_as_25 (by decide) ?_
      refine lv_iload_n hx hb dX6_as_27 rfl (lv_at hl 1 rfl) ?_
      refine lv_iadd hx hb dX6_as_28 ?_
      obtain ⟨g11, hF⟩ := gu_some hF
      refine r_iald (k := (10 + a1).toNatClampNeg) M hP rfl rfl (in_c g11) rfl dX6_as_29 ?_
      refine lv_istore_n (lv' := [(3, .int (v 1 ((10 + a1).toNatClampNeg))), (0, .ref (ad G 0)), (1, .int a1), (2, .int a2)]) hx hb dX6_as_30 rfl hl (by decide) rfl (fun ls hl => ?_)
      refine lv_iload_n hx hb dX6_as_31 rfl (lv_at hl 0 rfl) ?_
      refine lv_if_ge (tgt := 42) hx hb dX6_as_32 (by decide) (fun c12 => ?_) (fun c12 => ?_)
      · replace hF := (if_pos c12).symm.trans hF
        refine lv_aload_n hx hb dX6_as_42 rfl (lv_at hl 1 rfl) ?_
        refine lv_iload_n hx hb dX6_as_43 rfl (lv_at hl 0 rfl) ?_
        refine lv_iconst (v := 0) hx hb dX6_as_44 (by decide) ?_
        obtain ⟨r14, h13, hF⟩ := bi_some hF
        refine k_i hS (kV_run M hS hP ok_X6_104 (c_X6_keeperIs l G (v 1 ((10 + a1).toNatClampNeg)) 0 v r14 h13) (rc_6 M hP rfl) rfl hl.1 rfl (Nat.le_of_ble_eq_true rfl) ⟨rfl, rfl⟩ ⟨Nat.le_of_ble_eq_true rfl, Nat.le_of_ble_eq_true rfl⟩ dX6_as_45) (fun H locs hP hS => ?_)
        refine lv_iload_n hx hb dX6_as_48 rfl (lv_at hl 3 rfl) ?_
        obtain ⟨r16, h15, hF⟩ := bi_some hF
        refine k_i hS (kS_run M hS hP ok_X6_341 (c_X6_isUnder l G r14 a2 v r16 h15) rfl hl.1 rfl (Nat.le_of_ble_eq_true rfl) ⟨rfl, rfl⟩ ⟨Nat.le_of_ble_eq_true rfl, Nat.le_of_ble_eq_true rfl⟩ dX6_as_49) (fun H locs hP hS => ?_)
        refine lv_if_eq (tgt := 59) hx hb dX6_as_52 (by decide) (fun c17 => ?_) (fun c17 => ?_)
        · replace hF := (if_neg (bI_f c17)).symm.trans hF
          refine lv_aload_n hx hb dX6_as_59 rfl (lv_at hl 1 rfl) ?_
          refine lv_ldcw (own := RX6) (v := (-1000003)) hx hb M.1.2.2.2.1 (M.1.2.2.2.2 (Cond.constant RX6 344 (-1000003)) w_1165) dX6_as_60 ?_
          obtain ⟨⟨r19, v20⟩, h18, hF⟩ := bi_some hF
          dsimp only at hF
          refine k_i hS (kV_run M hS hP ok_X6_66 (c_X6_finding l G (-1000003) v r19 v20 h18) (rc_6 M hP rfl) rfl hl.1 rfl (Nat.le_of_ble_eq_true rfl) ⟨rfl, rfl⟩ ⟨Nat.le_of_ble_eq_true rfl, Nat.le_of_ble_eq_true rfl⟩ dX6_as_63) (fun H locs hP hS => ?_)
          exact ret_i M hS hP (Option.some.inj hF) dX6_as_66
        · replace hF := (if_pos (bI_t c17)).symm.trans hF
          refine lv_iload_n hx hb dX6_as_55 rfl (lv_at hl 0 rfl) ?_
          refine lv_goto (tgt := 66) hx hb dX6_as_56 (by decide) ?_
          exact ret_i M hS hP (Option.some.inj hF) dX6_as_66
      · replace hF := (if_neg c12).symm.trans hF
        refine lv_aload_n hx hb dX6_as_35 rfl (lv_at hl 1 rfl) ?_
        refine lv_ldc (own := RX6) (v := (-1000006)) hx hb M.1.2.2.2.1 (M.1.2.2.2.2 (Cond.constant RX6 234 (-1000006)) w_1052) dX6_as_36 ?_
        obtain ⟨⟨r23, v24⟩, h22, hF⟩ := bi_some hF
        dsimp only at hF
        refine k_i hS (kV_run M hS hP ok_X6_66 (c_X6_finding l G (-1000006) v r23 v24 h22) (rc_6 M hP rfl) rfl hl.1 rfl (Nat.le_of_ble_eq_true rfl) ⟨rfl, rfl⟩ ⟨Nat.le_of_ble_eq_true rfl, Nat.le_of_ble_eq_true rfl⟩ dX6_as_38) (fun H locs hP hS => ?_)
        exact ret_i M hS hP (Option.some.inj hF) dX6_as_41
    · replace hF := (if_neg (bI_f c10)).symm.trans hF
      refine lv_aload_n hx hb dX6_as_14 rfl (lv_at hl 0 rfl) ?_
      refine lv_ldc (own := RX6) (v := (-1000001)) hx hb M.1.2.2.2.1 (M.1.2.2.2.2 (Cond.constant RX6 60 (-1000001)) w_788) dX6_as_15 ?_
      obtain ⟨⟨r27, v28⟩, h26, hF⟩ := bi_some hF
      dsimp only at hF
      refine k_i hS (kV_run M hS hP ok_X6_66 (c_X6_finding l G (-1000001) v r27 v28 h26) (rc_6 M hP rfl) rfl hl.1 rfl (Nat.le_of_ble_eq_true rfl) ⟨rfl, rfl⟩ ⟨Nat.le_of_ble_eq_true rfl, Nat.le_of_ble_eq_true rfl⟩ dX6_as_17) (fun H locs hP hS => ?_)
      exact ret_i M hS hP (Option.some.inj hF) dX6_as_20
def F_X6_cutTo (a0 : Int32) (a1 : Int32) (v : VV) : Option Int32 :=
  if a1 = 8 then (some ((a0 : Int32).toInt8.toInt32)) else (if a1 = 16 then (some ((a0 : Int32).toInt16.toInt32)) else (some a0))
set_option maxHeartbeats 4000000 in
set_option maxRecDepth 100000 in
theorem c_X6_cutTo (l : Launch) (G : GG) (a0 : Int32) (a1 : Int32) (v : VV) (r : Int32) (hF : F_X6_cutTo a0 a1 v = some r) : Met l yX6_cutTo (cdW yX6_cutTo cX6_cutTo 2 (some .int)) ({ frames := 0, cells := 0, slots := 0, locals := 0 } : Room) (PC G v [.int a0, .int a1]) (QI G r v) 0 0 (gA G) := by
  refine met_in RX6 (by decide) rfl (Nat.le_of_ble_eq_true rfl) ?_
  intro p e s m below meth c M hP ls hl
  have hx := M.1.1
  have hb := M.1.2.1
  have hS : va_S (gA G) s.heap s.heap [] := va_S.rf
  have hl : lv_has ls 2 [(0, .int a0), (1, .int a1)] := hl
  unfold F_X6_cutTo at hF
  refine lv_iload_n hx hb dX6_cutTo_0 rfl (lv_at hl 1 rfl) ?_
  refine lv_bipush (v := 8) hx hb dX6_cutTo_1 (by decide) ?_
  refine lv_icmp_ne (tgt := 11) hx hb dX6_cutTo_3 (by decide) (fun c1 => ?_) (fun c1 => ?_)
  · replace hF := (if_neg c1).symm.trans hF
    refine lv_iload_n hx hb dX6_cutTo_11 rfl (lv_at hl 1 rfl) ?_
    refine lv_bipush (v := 16) hx hb dX6_cutTo_12 (by decide) ?_
    refine lv_icmp_ne (tgt := 22) hx hb dX6_cutTo_14 (by decide) (fun c2 => ?_) (fun c2 => ?_)
    · replace hF := (if_neg c2).symm.trans hF
      refine lv_iload_n hx hb dX6_cutTo_22 rfl (lv_at hl 0 rfl) ?_
      exact ret_i M hS hP (congrArg (fun z => (z, v)) (Option.some.inj hF)) dX6_cutTo_23
    · replace hF := (if_pos c2).symm.trans hF
      refine lv_iload_n hx hb dX6_cutTo_17 rfl (lv_at hl 0 rfl) ?_
      refine lv_i2s hx hb dX6_cutTo_18 rfl ?_
      refine lv_goto (tgt := 23) hx hb dX6_cutTo_19 (by decide) ?_
      exact ret_i M hS hP (congrArg (fun z => (z, v)) (Option.some.inj hF)) dX6_cutTo_23
  · replace hF := (if_pos c1).symm.trans hF
    refine lv_iload_n hx hb dX6_cutTo_6 rfl (lv_at hl 0 rfl) ?_
    refine lv_i2b hx hb dX6_cutTo_7 rfl ?_
    refine lv_goto (tgt := 23) hx hb dX6_cutTo_8 (by decide) ?_
    exact ret_i M hS hP (congrArg (fun z => (z, v)) (Option.some.inj hF)) dX6_cutTo_23
def L_X6_sheet_86 : Nat → Int32 → Int32 → Int32 → Int32 → VV → Option (Int32 × VV)
  | 0, _, _, _, _, _ => none
  | n + 1, x1, x2, x3, x4, v =>
  if 40 ≤ x4 then (gu (gI x1 4) (some (v 8 ((x1).toNatClampNeg), v))) else (gu (gI ((40 * x1) + x4) 160) (L_X6_sheet_86 n x1 x2 x3 (x4 + 1) (pu v 9 (((40 * x1) + x4).toNatClampNeg) 0)))
def F_X6_sheet (a1 : Int32) (a2 : Int32) (a3 : Int32) (v : VV) : Option (Int32 × VV) :=
  Option.bind (F_X6_isSheet a1 v) (fun r2 => (if r2 = true then (if a2 = 0 then (if 0 ≤ a3 then (if a3 ≤ 40 then (gu (gI a1 4) ((if a2 = 0 then (gu (gI a1 4) (L_X6_sheet_86 fu a1 a2 a3 0 (pu (pu v 7 ((a1).toNatClampNeg) a2) 8 ((a1).toNatClampNeg) 0))) else (gu (gI a1 4) (L_X6_sheet_86 fu a1 a2 a3 0 (pu (pu v 7 ((a1).toNatClampNeg) a2) 8 ((a1).toNatClampNeg) a3)))))) else (Option.bind (F_X6_finding (-1000001) v) (fun (r19, v20) => some (r19, v20)))) else (Option.bind (F_X6_finding (-1000007) v) (fun (r23, v24) => some (r23, v24)))) else (if a2 = 8 then (if 0 ≤ a3 then (if a3 ≤ 40 then (gu (gI a1 4) ((if a2 = 0 then (gu (gI a1 4) (L_X6_sheet_86 fu a1 a2 a3 0 (pu (pu v 7 ((a1).toNatClampNeg) a2) 8 ((a1).toNatClampNeg) 0))) else (gu (gI a1 4) (L_X6_sheet_86 fu a1 a2 a3 0 (pu (pu v 7 ((a1).toNatClampNeg) a2) 8 ((a1).toNatClampNeg) a3)))))) else (Option.bind (F_X6_finding (-1000001) v) (fun (r34, v35) => some (r34, v35)))) else (Option.bind (F_X6_finding (-1000007) v) (fun (r38, v39) => some (r38, v39)))) else (if a2 = 16 then (if 0 ≤ a3 then (if a3 ≤ 40 then (gu (gI a1 4) ((if a2 = 0 then (gu (gI a1 4) (L_X6_sheet_86 fu a1 a2 a3 0 (pu (pu v 7 ((a1).toNatClampNeg) a2) 8 ((a1).toNatClampNeg) 0))) else (gu (gI a1 4) (L_X6_sheet_86 fu a1 a2 a3 0 (pu (pu v 7 ((a1).toNatClampNeg) a2) 8 ((a1).toNatClampNeg) a3)))))) else (Option.bind (F_X6_finding (-1000001) v) (fun (r49, v50) => some (r49, v50)))) else (Option.bind (F_X6_finding (-1000007) v) (fun (r53, v54) => some (r53, v54)))) else (if a2 = 32 then (if 0 ≤ a3 then (if a3 ≤ 40 then (gu (gI a1 4) ((if a2 = 0 then (gu (gI a1 4) (L_X6_sheet_86 fu a1 a2 a3 0 (pu (pu v 7 ((a1).toNatClampNeg) a2) 8 ((a1).toNatClampNeg) 0))) else (gu (gI a1 4) (L_X6_sheet_86 fu a1 a2 a3 0 (pu (pu v 7 ((a1).toNatClampNeg) a2) 8 ((a1).toNatClampNeg) a3)))))) else (Option.bind (F_X6_finding (-1000001) v) (fun (r64, v65) => some (r64, v65)))) else (Option.bind (F_X6_finding (-1000007) v) (fun (r68, v69) => some (r68, v69)))) else (Option.bind (F_X6_finding (-1000001) v) (fun (r72, v73) => some (r72, v73))))))) else (Option.bind (F_X6_finding (-1000001) v) (fun (r5, v6) => some (r5, v6)))))
set_option maxHeartbeats 4000000 in
set_option maxRecDepth 100000 in
theorem l_X6_sheet_86 {p : Program} {l : Launch} {e : Env} {s : State} {m : MethodId} {args : Array Value} {below : List Frame} {meth : Method} {c : Code} {G : GG} (M : Mx G RX6 cX6_sheet 5 (some .int) p s m args meth c) (r : Int32) (v' : VV) : ∀ (n : Nat) (x1 : Int32) (x2 : Int32) (x3 : Int32) (x4 : Int32) (v : VV) (H : Heap) (locs : List Loc) (ls : Array Slot), L_X6_sheet_86 n x1 x2 x3 x4 v = some (r, v') → Wd G v H → va_S (gA G) s.heap H locs → lv_has ls 5 [(0, .ref (ad G 0)), (1, .int x1), (2, .int x2), (3, .int x3), (4, .int x4)] → W p l e ({ frames := 2, cells := 0, slots := 0, locals := 42 } : Room) s m args below meth c H locs 0 0 (MQ below (QI G r v') args s 0 0 (gA G)) (F0 m 86 ls []) := by
  have hx := M.1.1
  have hb := M.1.2.1
  intro n
  induction n with
  | zero =>
    intro x1 x2 x3 x4 v H locs ls hF hP hS hl
    rw [L_X6_sheet_86] at hF
    cases hF
  | succ n ih =>
    intro x1 x2 x3 x4 v H locs ls hF hP hS hl
    rw [L_X6_sheet_86] at hF
    refine lv_iload hx hb dX6_sheet_86 (lv_at hl 4 rfl) ?_
    refine lv_bipush (v := 40) hx hb dX6_sheet_88 (by decide) ?_
    refine lv_icmp_ge (tgt := 112) hx hb dX6_sheet_90 (by decide) (fun c14 => ?_) (fun c14 => ?_)
    · replace hF := (if_pos c14).symm.trans hF
      refine lv_aload_n hx hb dX6_sheet_112 rfl (lv_at hl 0 rfl) ?_
      refine fg_6_51 M hP dX6_sheet_113 ?_
      refine lv_iload_n hx hb dX6_sheet_116 rfl (lv_at hl 1 rfl) ?_
      obtain ⟨g15, hF⟩ := gu_some hF
      refine r_iald (k := (x1).toNatClampNeg) M hP rfl rfl (in_c g15) rfl dX6_sheet_117 ?_
      exact ret_i M hS hP (Option.some.inj hF) dX6_sheet_118
    · replace hF := (if_neg c14).symm.trans hF
      refine lv_aload_n hx hb dX6_sheet_93 rfl (lv_at hl 0 rfl) ?_
      refine fg_6_54 M hP dX6_sheet_94 ?_
      refine lv_bipush (v := 40) hx hb dX6_sheet_97 (by decide) ?_
      refine lv_iload_n hx hb dX6_sheet_99 rfl (lv_at hl 1 rfl) ?_
      refine lv_imul hx hb dX6_sheet_100 ?_
      refine lv_iload hx hb dX6_sheet_101 (lv_at hl 4 rfl) ?_
      refine lv_iadd hx hb dX6_sheet_103 ?_
      refine lv_iconst (v := 0) hx hb dX6_sheet_104 (by decide) ?_
      obtain ⟨g16, hF⟩ := gu_some hF
      refine r_iast (k := ((40 * x1) + x4).toNatClampNeg) M hS hP rfl rfl (in_c g16) rfl dX6_sheet_105 (fun H locs hP hS => ?_)
      have hP : Wd G (pu v 9 (((40 * x1) + x4).toNatClampNeg) 0) H := hP
      refine lv_iinc (v := (x4 + 1)) (lv' := [(4, .int (x4 + 1)), (0, .ref (ad G 0)), (1, .int x1), (2, .int x2), (3, .int x3)]) hx hb dX6_sheet_106 hl (k := 4) rfl (iinc_eq _ (by decide)) (by decide) rfl (fun ls hl => ?_)
      refine lv_goto (tgt := 86) hx hb dX6_sheet_109 (by decide) ?_
      exact ih x1 x2 x3 (x4 + 1) _ _ _ ls hF hP hS (lv_sub hl [1, 2, 3, 4, 0] rfl)
set_option maxHeartbeats 4000000 in
set_option maxRecDepth 100000 in
theorem c_X6_sheet (l : Launch) (G : GG) (a1 : Int32) (a2 : Int32) (a3 : Int32) (v : VV) (r : Int32) (v' : VV) (hF : F_X6_sheet a1 a2 a3 v = some (r, v')) : Met l yX6_sheet (cdW yX6_sheet cX6_sheet 5 (some .int)) ({ frames := 2, cells := 0, slots := 0, locals := 42 } : Room) (PC G v [.ref (ad G 0), .int a1, .int a2, .int a3]) (QI G r v') 0 0 (gA G) := by
  refine met_in RX6 (by decide) rfl (Nat.le_of_ble_eq_true rfl) ?_
  intro p e s m below meth c M hP ls hl
  have hx := M.1.1
  have hb := M.1.2.1
  have hS : va_S (gA G) s.heap s.heap [] := va_S.rf
  have hl : lv_has ls 5 [(0, .ref (ad G 0)), (1, .int a1), (2, .int a2), (3, .int a3)] := hl
  unfold F_X6_sheet at hF
  refine lv_iload_n hx hb dX6_sheet_0 rfl (lv_at hl 1 rfl) ?_
  obtain ⟨r2, h1, hF⟩ := bi_some hF
  refine k_i hS (kS_run M hS hP ok_X6_231 (c_X6_isSheet l G a1 v r2 h1) rfl hl.1 rfl (Nat.le_of_ble_eq_true rfl) ⟨rfl, rfl⟩ ⟨Nat.le_of_ble_eq_true rfl, Nat.le_of_ble_eq_true rfl⟩ dX6_sheet_1) (fun H locs hP hS => ?_)
  refine lv_if_eq (tgt := 29) hx hb dX6_sheet_4 (by decide) (fun c3 => ?_) (fun c3 => ?_)
  · replace hF := (if_neg (bI_f c3)).symm.trans hF
    refine lv_aload_n hx hb dX6_sheet_29 rfl (lv_at hl 0 rfl) ?_
    refine lv_ldc (own := RX6) (v := (-1000001)) hx hb M.1.2.2.2.1 (M.1.2.2.2.2 (Cond.constant RX6 60 (-1000001)) w_788) dX6_sheet_30 ?_
    obtain ⟨⟨r5, v6⟩, h4, hF⟩ := bi_some hF
    dsimp only at hF
    refine k_i hS (kV_run M hS hP ok_X6_66 (c_X6_finding l G (-1000001) v r5 v6 h4) (rc_6 M hP rfl) rfl hl.1 rfl (Nat.le_of_ble_eq_true rfl) ⟨rfl, rfl⟩ ⟨Nat.le_of_ble_eq_true rfl, Nat.le_of_ble_eq_true rfl⟩ dX6_sheet_32) (fun H locs hP hS => ?_)
    exact ret_i M hS hP (Option.some.inj hF) dX6_sheet_35
  · replace hF := (if_pos (bI_t c3)).symm.trans hF
    refine lv_iload_n hx hb dX6_sheet_7 rfl (lv_at hl 2 rfl) ?_
    refine lv_if_eq (tgt := 36) hx hb dX6_sheet_8 (by decide) (fun c8 => ?_) (fun c8 => ?_)
    · replace hF := (if_pos c8).symm.trans hF
      refine lv_iload_n hx hb dX6_sheet_36 rfl (lv_at hl 3 rfl) ?_
      refine lv_if_ge (tgt := 48) hx hb dX6_sheet_37 (by decide) (fun c9 => ?_) (fun c9 => ?_)
      · replace hF := (if_pos c9).symm.trans hF
        refine lv_iload_n hx hb dX6_sheet_48 rfl (lv_at hl 3 rfl) ?_
        refine lv_bipush (v := 40) hx hb dX6_sheet_49 (by decide) ?_
        refine lv_icmp_le (tgt := 61) hx hb dX6_sheet_51 (by decide) (fun c10 => ?_) (fun c10 => ?_)
        · replace hF := (if_pos c10).symm.trans hF
          refine lv_aload_n hx hb dX6_sheet_61 rfl (lv_at hl 0 rfl) ?_
          refine fg_6_48 M hP dX6_sheet_62 ?_
          refine lv_iload_n hx hb dX6_sheet_65 rfl (lv_at hl 1 rfl) ?_
          refine lv_iload_n hx hb dX6_sheet_66 rfl (lv_at hl 2 rfl) ?_
          obtain ⟨g11, hF⟩ := gu_some hF
          refine r_iast (k := (a1).toNatClampNeg) M hS hP rfl rfl (in_c g11) rfl dX6_sheet_67 (fun H locs hP hS => ?_)
          have hP : Wd G (pu v 7 ((a1).toNatClampNeg) a2) H := hP
          refine lv_aload_n hx hb dX6_sheet_68 rfl (lv_at hl 0 rfl) ?_
          refine fg_6_51 M hP dX6_sheet_69 ?_
          refine lv_iload_n hx hb dX6_sheet_72 rfl (lv_at hl 1 rfl) ?_
          refine lv_iload_n hx hb dX6_sheet_73 rfl (lv_at hl 2 rfl) ?_
          refine lv_if_ne (tgt := 81) hx hb dX6_sheet_74 (by decide) (fun c12 => ?_) (fun c12 => ?_)
          · replace hF := (if_neg c12).symm.trans hF
            refine lv_iload_n hx hb dX6_sheet_81 rfl (lv_at hl 3 rfl) ?_
            obtain ⟨g13, hF⟩ := gu_some hF
            refine r_iast (k := (a1).toNatClampNeg) M hS hP rfl rfl (in_c g13) rfl dX6_sheet_82 (fun H locs hP hS => ?_)
            have hP : Wd G (pu (pu v 7 ((a1).toNatClampNeg) a2) 8 ((a1).toNatClampNeg) a3) H := hP
            refine lv_iconst (v := 0) hx hb dX6_sheet_83 (by decide) ?_
            refine lv_istore (lv' := [(4, .int 0), (0, .ref (ad G 0)), (1, .int a1), (2, .int a2), (3, .int a3)]) hx hb dX6_sheet_84 hl (by decide) rfl (fun ls hl => ?_)
            exact l_X6_sheet_86 M _ _ fu a1 a2 a3 0 _ _ _ ls hF hP hS (lv_sub hl [1, 2, 3, 4, 0] rfl)
          · replace hF := (if_pos c12).symm.trans hF
            refine lv_iconst (v := 0) hx hb dX6_sheet_77 (by decide) ?_
            refine lv_goto (tgt := 82) hx hb dX6_sheet_78 (by decide) ?_
            obtain ⟨g17, hF⟩ := gu_some hF
            refine r_iast (k := (a1).toNatClampNeg) M hS hP rfl rfl (in_c g17) rfl dX6_sheet_82 (fun H locs hP hS => ?_)
            have hP : Wd G (pu (pu v 7 ((a1).toNatClampNeg) a2) 8 ((a1).toNatClampNeg) 0) H := hP
            refine lv_iconst (v := 0) hx hb dX6_sheet_83 (by decide) ?_
            refine lv_istore (lv' := [(4, .int 0), (0, .ref (ad G 0)), (1, .int a1), (2, .int a2), (3, .int a3)]) hx hb dX6_sheet_84 hl (by decide) rfl (fun ls hl => ?_)
            exact l_X6_sheet_86 M _ _ fu a1 a2 a3 0 _ _ _ ls hF hP hS (lv_sub hl [1, 2, 3, 4, 0] rfl)
        · replace hF := (if_neg c10).symm.trans hF
          refine lv_aload_n hx hb dX6_sheet_54 rfl (lv_at hl 0 rfl) ?_
          refine lv_ldc (own := RX6) (v := (-1000001)) hx hb M.1.2.2.2.1 (M.1.2.2.2.2 (Cond.constant RX6 60 (-1000001)) w_788) dX6_sheet_55 ?_
          obtain ⟨⟨r19, v20⟩, h18, hF⟩ := bi_some hF
          dsimp only at hF
          refine k_i hS (kV_run M hS hP ok_X6_66 (c_X6_finding l G (-1000001) v r19 v20 h18) (rc_6 M hP rfl) rfl hl.1 rfl (Nat.le_of_ble_eq_true rfl) ⟨rfl, rfl⟩ ⟨Nat.le_of_ble_eq_true rfl, Nat.le_of_ble_eq_true rfl⟩ dX6_sheet_57) (fun H locs hP hS => ?_)
          exact ret_i M hS hP (Option.some.inj hF) dX6_sheet_60
      · replace hF := (if_neg c9).symm.trans hF
        refine lv_aload_n hx hb dX6_sheet_40 rfl (lv_at hl 0 rfl) ?_
        refine lv_ldcw (own := RX6) (v := (-1000007)) hx hb M.1.2.2.2.1 (M.1.2.2.2.2 (Cond.constant RX6 345 (-1000007)) w_1170) dX6_sheet_41 ?_
        obtain ⟨⟨r23, v24⟩, h22, hF⟩ := bi_some hF
        dsimp only at hF
        refine k_i hS (kV_run M hS hP ok_X6_66 (c_X6_finding l G (-1000007) v r23 v24 h22) (rc_6 M hP rfl) rfl hl.1 rfl (Nat.le_of_ble_eq_true rfl) ⟨rfl, rfl⟩ ⟨Nat.le_of_ble_eq_true rfl, Nat.le_of_ble_eq_true rfl⟩ dX6_sheet_44) (fun H locs hP hS => ?_)
        exact ret_i M hS hP (Option.some.inj hF) dX6_sheet_47
    · replace hF := (if_neg c8).symm.trans hF
      refine lv_iload_n hx hb dX6_sheet_11 rfl (lv_at hl 2 rfl) ?_
      refine lv_bipush (v := 8) hx hb dX6_sheet_12 (by decide) ?_
      refine lv_icmp_eq (tgt := 36) hx hb dX6_sheet_14 (by decide) (fun c26 => ?_) (fun c26 => ?_)
      · replace hF := (if_pos c26).symm.trans hF
        refine lv_iload_n hx hb dX6_sheet_36 rfl (lv_at hl 3 rfl) ?_
        refine lv_if_ge (tgt := 48) hx hb dX6_sheet_37 (by decide) (fun c27 => ?_) (fun c27 => ?_)
        · replace hF := (if_pos c27).symm.trans hF
          refine lv_iload_n hx hb dX6_sheet_48 rfl (lv_at hl 3 rfl) ?_
          refine lv_bipush (v := 40) hx hb dX6_sheet_49 (by decide) ?_
          refine lv_icmp_le (tgt := 61) hx hb dX6_sheet_51 (by decide) (fun c28 => ?_) (fun c28 => ?_)
          · replace hF := (if_pos c28).symm.trans hF
            refine lv_aload_n hx hb dX6_sheet_61 rfl (lv_at hl 0 rfl) ?_
            refine fg_6_48 M hP dX6_sheet_62 ?_
            refine lv_iload_n hx hb dX6_sheet_65 rfl (lv_at hl 1 rfl) ?_
            refine lv_iload_n hx hb dX6_sheet_66 rfl (lv_at hl 2 rfl) ?_
            obtain ⟨g29, hF⟩ := gu_some hF
            refine r_iast (k := (a1).toNatClampNeg) M hS hP rfl rfl (in_c g29) rfl dX6_sheet_67 (fun H locs hP hS => ?_)
            have hP : Wd G (pu v 7 ((a1).toNatClampNeg) a2) H := hP
            refine lv_aload_n hx hb dX6_sheet_68 rfl (lv_at hl 0 rfl) ?_
            refine fg_6_51 M hP dX6_sheet_69 ?_
            refine lv_iload_n hx hb dX6_sheet_72 rfl (lv_at hl 1 rfl) ?_
            refine lv_iload_n hx hb dX6_sheet_73 rfl (lv_at hl 2 rfl) ?_
            refine lv_if_ne (tgt := 81) hx hb dX6_sheet_74 (by decide) (fun c30 => ?_) (fun c30 => ?_)
            · replace hF := (if_neg c30).symm.trans hF
              refine lv_iload_n hx hb dX6_sheet_81 rfl (lv_at hl 3 rfl) ?_
              obtain ⟨g31, hF⟩ := gu_some hF
              refine r_iast (k := (a1).toNatClampNeg) M hS hP rfl rfl (in_c g31) rfl dX6_sheet_82 (fun H locs hP hS => ?_)
              have hP : Wd G (pu (pu v 7 ((a1).toNatClampNeg) a2) 8 ((a1).toNatClampNeg) a3) H := hP
              refine lv_iconst (v := 0) hx hb dX6_sheet_83 (by decide) ?_
              refine lv_istore (lv' := [(4, .int 0), (0, .ref (ad G 0)), (1, .int a1), (2, .int a2), (3, .int a3)]) hx hb dX6_sheet_84 hl (by decide) rfl (fun ls hl => ?_)
              exact l_X6_sheet_86 M _ _ fu a1 a2 a3 0 _ _ _ ls hF hP hS (lv_sub hl [1, 2, 3, 4, 0] rfl)
            · replace hF := (if_pos c30).symm.trans hF
              refine lv_iconst (v := 0) hx hb dX6_sheet_77 (by decide) ?_
              refine lv_goto (tgt := 82) hx hb dX6_sheet_78 (by decide) ?_
              obtain ⟨g32, hF⟩ := gu_some hF
              refine r_iast (k := (a1).toNatClampNeg) M hS hP rfl rfl (in_c g32) rfl dX6_sheet_82 (fun H locs hP hS => ?_)
              have hP : Wd G (pu (pu v 7 ((a1).toNatClampNeg) a2) 8 ((a1).toNatClampNeg) 0) H := hP
              refine lv_iconst (v := 0) hx hb dX6_sheet_83 (by decide) ?_
              refine lv_istore (lv' := [(4, .int 0), (0, .ref (ad G 0)), (1, .int a1), (2, .int a2), (3, .int a3)]) hx hb dX6_sheet_84 hl (by decide) rfl (fun ls hl => ?_)
              exact l_X6_sheet_86 M _ _ fu a1 a2 a3 0 _ _ _ ls hF hP hS (lv_sub hl [1, 2, 3, 4, 0] rfl)
          · replace hF := (if_neg c28).symm.trans hF
            refine lv_aload_n hx hb dX6_sheet_54 rfl (lv_at hl 0 rfl) ?_
            refine lv_ldc (own := RX6) (v := (-1000001)) hx hb M.1.2.2.2.1 (M.1.2.2.2.2 (Cond.constant RX6 60 (-1000001)) w_788) dX6_sheet_55 ?_
            obtain ⟨⟨r34, v35⟩, h33, hF⟩ := bi_some hF
            dsimp only at hF
            refine k_i hS (kV_run M hS hP ok_X6_66 (c_X6_finding l G (-1000001) v r34 v35 h33) (rc_6 M hP rfl) rfl hl.1 rfl (Nat.le_of_ble_eq_true rfl) ⟨rfl, rfl⟩ ⟨Nat.le_of_ble_eq_true rfl, Nat.le_of_ble_eq_true rfl⟩ dX6_sheet_57) (fun H locs hP hS => ?_)
            exact ret_i M hS hP (Option.some.inj hF) dX6_sheet_60
        · replace hF := (if_neg c27).symm.trans hF
          refine lv_aload_n hx hb dX6_sheet_40 rfl (lv_at hl 0 rfl) ?_
          refine lv_ldcw (own := RX6) (v := (-1000007)) hx hb M.1.2.2.2.1 (M.1.2.2.2.2 (Cond.constant RX6 345 (-1000007)) w_1170) dX6_sheet_41 ?_
          obtain ⟨⟨r38, v39⟩, h37, hF⟩ := bi_some hF
          dsimp only at hF
          refine k_i hS (kV_run M hS hP ok_X6_66 (c_X6_finding l G (-1000007) v r38 v39 h37) (rc_6 M hP rfl) rfl hl.1 rfl (Nat.le_of_ble_eq_true rfl) ⟨rfl, rfl⟩ ⟨Nat.le_of_ble_eq_true rfl, Nat.le_of_ble_eq_true rfl⟩ dX6_sheet_44) (fun H locs hP hS => ?_)
          exact ret_i M hS hP (Option.some.inj hF) dX6_sheet_47
      · replace hF := (if_neg c26).symm.trans hF
        refine lv_iload_n hx hb dX6_sheet_17 rfl (lv_at hl 2 rfl) ?_
        refine lv_bipush (v := 16) hx hb dX6_sheet_18 (by decide) ?_
        refine lv_icmp_eq (tgt := 36) hx hb dX6_sheet_20 (by decide) (fun c41 => ?_) (fun c41 => ?_)
        · replace hF := (if_pos c41).symm.trans hF
          refine lv_iload_n hx hb dX6_sheet_36 rfl (lv_at hl 3 rfl) ?_
          refine lv_if_ge (tgt := 48) hx hb dX6_sheet_37 (by decide) (fun c42 => ?_) (fun c42 => ?_)
          · replace hF := (if_pos c42).symm.trans hF
            refine lv_iload_n hx hb dX6_sheet_48 rfl (lv_at hl 3 rfl) ?_
            refine lv_bipush (v := 40) hx hb dX6_sheet_49 (by decide) ?_
            refine lv_icmp_le (tgt := 61) hx hb dX6_sheet_51 (by decide) (fun c43 => ?_) (fun c43 => ?_)
            · replace hF := (if_pos c43).symm.trans hF
              refine lv_aload_n hx hb dX6_sheet_61 rfl (lv_at hl 0 rfl) ?_
              refine fg_6_48 M hP dX6_sheet_62 ?_
              refine lv_iload_n hx hb dX6_sheet_65 rfl (lv_at hl 1 rfl) ?_
              refine lv_iload_n hx hb dX6_sheet_66 rfl (lv_at hl 2 rfl) ?_
              obtain ⟨g44, hF⟩ := gu_some hF
              refine r_iast (k := (a1).toNatClampNeg) M hS hP rfl rfl (in_c g44) rfl dX6_sheet_67 (fun H locs hP hS => ?_)
              have hP : Wd G (pu v 7 ((a1).toNatClampNeg) a2) H := hP
              refine lv_aload_n hx hb dX6_sheet_68 rfl (lv_at hl 0 rfl) ?_
              refine fg_6_51 M hP dX6_sheet_69 ?_
              refine lv_iload_n hx hb dX6_sheet_72 rfl (lv_at hl 1 rfl) ?_
              refine lv_iload_n hx hb dX6_sheet_73 rfl (lv_at hl 2 rfl) ?_
              refine lv_if_ne (tgt := 81) hx hb dX6_sheet_74 (by decide) (fun c45 => ?_) (fun c45 => ?_)
              · replace hF := (if_neg c45).symm.trans hF
                refine lv_iload_n hx hb dX6_sheet_81 rfl (lv_at hl 3 rfl) ?_
                obtain ⟨g46, hF⟩ := gu_some hF
                refine r_iast (k := (a1).toNatClampNeg) M hS hP rfl rfl (in_c g46) rfl dX6_sheet_82 (fun H locs hP hS => ?_)
                have hP : Wd G (pu (pu v 7 ((a1).toNatClampNeg) a2) 8 ((a1).toNatClampNeg) a3) H := hP
                refine lv_iconst (v := 0) hx hb dX6_sheet_83 (by decide) ?_
                refine lv_istore (lv' := [(4, .int 0), (0, .ref (ad G 0)), (1, .int a1), (2, .int a2), (3, .int a3)]) hx hb dX6_sheet_84 hl (by decide) rfl (fun ls hl => ?_)
                exact l_X6_sheet_86 M _ _ fu a1 a2 a3 0 _ _ _ ls hF hP hS (lv_sub hl [1, 2, 3, 4, 0] rfl)
              · replace hF := (if_pos c45).symm.trans hF
                refine lv_iconst (v := 0) hx hb dX6_sheet_77 (by decide) ?_
                refine lv_goto (tgt := 82) hx hb dX6_sheet_78 (by decide) ?_
                obtain ⟨g47, hF⟩ := gu_some hF
                refine r_iast (k := (a1).toNatClampNeg) M hS hP rfl rfl (in_c g47) rfl dX6_sheet_82 (fun H locs hP hS => ?_)
                have hP : Wd G (pu (pu v 7 ((a1).toNatClampNeg) a2) 8 ((a1).toNatClampNeg) 0) H := hP
                refine lv_iconst (v := 0) hx hb dX6_sheet_83 (by decide) ?_
                refine lv_istore (lv' := [(4, .int 0), (0, .ref (ad G 0)), (1, .int a1), (2, .int a2), (3, .int a3)]) hx hb dX6_sheet_84 hl (by decide) rfl (fun ls hl => ?_)
                exact l_X6_sheet_86 M _ _ fu a1 a2 a3 0 _ _ _ ls hF hP hS (lv_sub hl [1, 2, 3, 4, 0] rfl)
            · replace hF := (if_neg c43).symm.trans hF
              refine lv_aload_n hx hb dX6_sheet_54 rfl (lv_at hl 0 rfl) ?_
              refine lv_ldc (own := RX6) (v := (-1000001)) hx hb M.1.2.2.2.1 (M.1.2.2.2.2 (Cond.constant RX6 60 (-1000001)) w_788) dX6_sheet_55 ?_
              obtain ⟨⟨r49, v50⟩, h48, hF⟩ := bi_some hF
              dsimp only at hF
              refine k_i hS (kV_run M hS hP ok_X6_66 (c_X6_finding l G (-1000001) v r49 v50 h48) (rc_6 M hP rfl) rfl hl.1 rfl (Nat.le_of_ble_eq_true rfl) ⟨rfl, rfl⟩ ⟨Nat.le_of_ble_eq_true rfl, Nat.le_of_ble_eq_true rfl⟩ dX6_sheet_57) (fun H locs hP hS => ?_)
              exact ret_i M hS hP (Option.some.inj hF) dX6_sheet_60
          · replace hF := (if_neg c42).symm.trans hF
            refine lv_aload_n hx hb dX6_sheet_40 rfl (lv_at hl 0 rfl) ?_
            refine lv_ldcw (own := RX6) (v := (-1000007)) hx hb M.1.2.2.2.1 (M.1.2.2.2.2 (Cond.constant RX6 345 (-1000007)) w_1170) dX6_sheet_41 ?_
            obtain ⟨⟨r53, v54⟩, h52, hF⟩ := bi_some hF
            dsimp only at hF
            refine k_i hS (kV_run M hS hP ok_X6_66 (c_X6_finding l G (-1000007) v r53 v54 h52) (rc_6 M hP rfl) rfl hl.1 rfl (Nat.le_of_ble_eq_true rfl) ⟨rfl, rfl⟩ ⟨Nat.le_of_ble_eq_true rfl, Nat.le_of_ble_eq_true rfl⟩ dX6_sheet_44) (fun H locs hP hS => ?_)
            exact ret_i M hS hP (Option.some.inj hF) dX6_sheet_47
        · replace hF := (if_neg c41).symm.trans hF
          refine lv_iload_n hx hb dX6_sheet_23 rfl (lv_at hl 2 rfl) ?_
          refine lv_bipush (v := 32) hx hb dX6_sheet_24 (by decide) ?_
          refine lv_icmp_eq (tgt := 36) hx hb dX6_sheet_26 (by decide) (fun c56 => ?_) (fun c56 => ?_)
          · replace hF := (if_pos c56).symm.trans hF
            refine lv_iload_n hx hb dX6_sheet_36 rfl (lv_at hl 3 rfl) ?_
            refine lv_if_ge (tgt := 48) hx hb dX6_sheet_37 (by decide) (fun c57 => ?_) (fun c57 => ?_)
            · replace hF := (if_pos c57).symm.trans hF
              refine lv_iload_n hx hb dX6_sheet_48 rfl (lv_at hl 3 rfl) ?_
              refine lv_bipush (v := 40) hx hb dX6_sheet_49 (by decide) ?_
              refine lv_icmp_le (tgt := 61) hx hb dX6_sheet_51 (by decide) (fun c58 => ?_) (fun c58 => ?_)
              · replace hF := (if_pos c58).symm.trans hF
                refine lv_aload_n hx hb dX6_sheet_61 rfl (lv_at hl 0 rfl) ?_
                refine fg_6_48 M hP dX6_sheet_62 ?_
                refine lv_iload_n hx hb dX6_sheet_65 rfl (lv_at hl 1 rfl) ?_
                refine lv_iload_n hx hb dX6_sheet_66 rfl (lv_at hl 2 rfl) ?_
                obtain ⟨g59, hF⟩ := gu_some hF
                refine r_iast (k := (a1).toNatClampNeg) M hS hP rfl rfl (in_c g59) rfl dX6_sheet_67 (fun H locs hP hS => ?_)
                have hP : Wd G (pu v 7 ((a1).toNatClampNeg) a2) H := hP
                refine lv_aload_n hx hb dX6_sheet_68 rfl (lv_at hl 0 rfl) ?_
                refine fg_6_51 M hP dX6_sheet_69 ?_
                refine lv_iload_n hx hb dX6_sheet_72 rfl (lv_at hl 1 rfl) ?_
                refine lv_iload_n hx hb dX6_sheet_73 rfl (lv_at hl 2 rfl) ?_
                refine lv_if_ne (tgt := 81) hx hb dX6_sheet_74 (by decide) (fun c60 => ?_) (fun c60 => ?_)
                · replace hF := (if_neg c60).symm.trans hF
                  refine lv_iload_n hx hb dX6_sheet_81 rfl (lv_at hl 3 rfl) ?_
                  obtain ⟨g61, hF⟩ := gu_some hF
                  refine r_iast (k := (a1).toNatClampNeg) M hS hP rfl rfl (in_c g61) rfl dX6_sheet_82 (fun H locs hP hS => ?_)
                  have hP : Wd G (pu (pu v 7 ((a1).toNatClampNeg) a2) 8 ((a1).toNatClampNeg) a3) H := hP
                  refine lv_iconst (v := 0) hx hb dX6_sheet_83 (by decide) ?_
                  refine lv_istore (lv' := [(4, .int 0), (0, .ref (ad G 0)), (1, .int a1), (2, .int a2), (3, .int a3)]) hx hb dX6_sheet_84 hl (by decide) rfl (fun ls hl => ?_)
                  exact l_X6_sheet_86 M _ _ fu a1 a2 a3 0 _ _ _ ls hF hP hS (lv_sub hl [1, 2, 3, 4, 0] rfl)
                · replace hF := (if_pos c60).symm.trans hF
                  refine lv_iconst (v := 0) hx hb dX6_sheet_77 (by decide) ?_
                  refine lv_goto (tgt := 82) hx hb dX6_sheet_78 (by decide) ?_
                  obtain ⟨g62, hF⟩ := gu_some hF
                  refine r_iast (k := (a1).toNatClampNeg) M hS hP rfl rfl (in_c g62) rfl dX6_sheet_82 (fun H locs hP hS => ?_)
                  have hP : Wd G (pu (pu v 7 ((a1).toNatClampNeg) a2) 8 ((a1).toNatClampNeg) 0) H := hP
                  refine lv_iconst (v := 0) hx hb dX6_sheet_83 (by decide) ?_
                  refine lv_istore (lv' := [(4, .int 0), (0, .ref (ad G 0)), (1, .int a1), (2, .int a2), (3, .int a3)]) hx hb dX6_sheet_84 hl (by decide) rfl (fun ls hl => ?_)
                  exact l_X6_sheet_86 M _ _ fu a1 a2 a3 0 _ _ _ ls hF hP hS (lv_sub hl [1, 2, 3, 4, 0] rfl)
              · replace hF := (if_neg c58).symm.trans hF
                refine lv_aload_n hx hb dX6_sheet_54 rfl (lv_at hl 0 rfl) ?_
                refine lv_ldc (own := RX6) (v := (-1000001)) hx hb M.1.2.2.2.1 (M.1.2.2.2.2 (Cond.constant RX6 60 (-1000001)) w_788) dX6_sheet_55 ?_
                obtain ⟨⟨r64, v65⟩, h63, hF⟩ := bi_some hF
                dsimp only at hF
                refine k_i hS (kV_run M hS hP ok_X6_66 (c_X6_finding l G (-1000001) v r64 v65 h63) (rc_6 M hP rfl) rfl hl.1 rfl (Nat.le_of_ble_eq_true rfl) ⟨rfl, rfl⟩ ⟨Nat.le_of_ble_eq_true rfl, Nat.le_of_ble_eq_true rfl⟩ dX6_sheet_57) (fun H locs hP hS => ?_)
                exact ret_i M hS hP (Option.some.inj hF) dX6_sheet_60
            · replace hF := (if_neg c57).symm.trans hF
              refine lv_aload_n hx hb dX6_sheet_40 rfl (lv_at hl 0 rfl) ?_
              refine lv_ldcw (own := RX6) (v := (-1000007)) hx hb M.1.2.2.2.1 (M.1.2.2.2.2 (Cond.constant RX6 345 (-1000007)) w_1170) dX6_sheet_41 ?_
              obtain ⟨⟨r68, v69⟩, h67, hF⟩ := bi_some hF
              dsimp only at hF
              refine k_i hS (kV_run M hS hP ok_X6_66 (c_X6_finding l G (-1000007) v r68 v69 h67) (rc_6 M hP rfl) rfl hl.1 rfl (Nat.le_of_ble_eq_true rfl) ⟨rfl, rfl⟩ ⟨Nat.le_of_ble_eq_true rfl, Nat.le_of_ble_eq_true rfl⟩ dX6_sheet_44) (fun H locs hP hS => ?_)
              exact ret_i M hS hP (Option.some.inj hF) dX6_sheet_47
          · replace hF := (if_neg c56).symm.trans hF
            refine lv_aload_n hx hb dX6_sheet_29 rfl (lv_at hl 0 rfl) ?_
            refine lv_ldc (own := RX6) (v := (-1000001)) hx hb M.1.2.2.2.1 (M.1.2.2.2.2 (Cond.constant RX6 60 (-1000001)) w_788) dX6_sheet_30 ?_
            obtain ⟨⟨r72, v73⟩, h71, hF⟩ := bi_some hF
            dsimp only at hF
            refine k_i hS (kV_run M hS hP ok_X6_66 (c_X6_finding l G (-1000001) v r72 v73 h71) (rc_6 M hP rfl) rfl hl.1 rfl (Nat.le_of_ble_eq_true rfl) ⟨rfl, rfl⟩ ⟨Nat.le_of_ble_eq_true rfl, Nat.le_of_ble_eq_true rfl⟩ dX6_sheet_32) (fun H locs hP hS => ?_)
            exact ret_i M hS hP (Option.some.inj hF) dX6_sheet_35
def F_X6_write (a1 : Int32) (a2 : Int32) (a3 : Int32) (v : VV) : Option (Int32 × VV) :=
  Option.bind (F_X6_isSheet a1 v) (fun r2 => (if r2 = true then (gu (gI a1 4) ((if (v 7 ((a1).toNatClampNeg)) = 0 then (Option.bind (F_X6_finding (-1000006) v) (fun (r19, v20) => some (r19, v20))) else (gu (gI a1 4) (Option.bind (F_X6_within a2 0 ((v 8 ((a1).toNatClampNeg)) - 1) v) (fun r8 => (if r8 = true then (gu (gI a1 4) (Option.bind (F_X6_cutTo a3 (v 7 ((a1).toNatClampNeg)) v) (fun r12 => gu (gI ((40 * a1) + a2) 160) (some (1, pu v 9 (((40 * a1) + a2).toNatClampNeg) r12))))) else (Option.bind (F_X6_finding (-1000001) v) (fun (r15, v16) => some (r15, v16)))))))))) else (Option.bind (F_X6_finding (-1000001) v) (fun (r23, v24) => some (r23, v24)))))
set_option maxHeartbeats 4000000 in
set_option maxRecDepth 100000 in
theorem c_X6_write (l : Launch) (G : GG) (a1 : Int32) (a2 : Int32) (a3 : Int32) (v : VV) (r : Int32) (v' : VV) (hF : F_X6_write a1 a2 a3 v = some (r, v')) : Met l yX6_write (cdW yX6_write cX6_write 4 (some .int)) ({ frames := 2, cells := 0, slots := 0, locals := 42 } : Room) (PC G v [.ref (ad G 0), .int a1, .int a2, .int a3]) (QI G r v') 0 0 (gA G) := by
  refine met_in RX6 (by decide) rfl (Nat.le_of_ble_eq_true rfl) ?_
  intro p e s m below meth c M hP ls hl
  have hx := M.1.1
  have hb := M.1.2.1
  have hS : va_S (gA G) s.heap s.heap [] := va_S.rf
  have hl : lv_has ls 4 [(0, .ref (ad G 0)), (1, .int a1), (2, .int a2), (3, .int a3)] := hl
  unfold F_X6_write at hF
  refine lv_iload_n hx hb dX6_write_0 rfl (lv_at hl 1 rfl) ?_
  obtain ⟨r2, h1, hF⟩ := bi_some hF
  refine k_i hS (kS_run M hS hP ok_X6_231 (c_X6_isSheet l G a1 v r2 h1) rfl hl.1 rfl (Nat.le_of_ble_eq_true rfl) ⟨rfl, rfl⟩ ⟨Nat.le_of_ble_eq_true rfl, Nat.le_of_ble_eq_true rfl⟩ dX6_write_1) (fun H locs hP hS => ?_)
  refine lv_if_ne (tgt := 14) hx hb dX6_write_4 (by decide) (fun c3 => ?_) (fun c3 => ?_)
  · replace hF := (if_pos (bI_t c3)).symm.trans hF
    refine lv_aload_n hx hb dX6_write_14 rfl (lv_at hl 0 rfl) ?_
    refine fg_6_48 M hP dX6_write_15 ?_
    refine lv_iload_n hx hb dX6_write_18 rfl (lv_at hl 1 rfl) ?_
    obtain ⟨g4, hF⟩ := gu_some hF
    refine r_iald (k := (a1).toNatClampNeg) M hP rfl rfl (in_c g4) rfl dX6_write_19 ?_
    refine lv_if_ne (tgt := 30) hx hb dX6_write_20 (by decide) (fun c5 => ?_) (fun c5 => ?_)
    · replace hF := (if_neg c5).symm.trans hF
      refine lv_iload_n hx hb dX6_write_30 rfl (lv_at hl 2 rfl) ?_
      refine lv_iconst (v := 0) hx hb dX6_write_31 (by decide) ?_
      refine lv_aload_n hx hb dX6_write_32 rfl (lv_at hl 0 rfl) ?_
      refine fg_6_51 M hP dX6_write_33 ?_
      refine lv_iload_n hx hb dX6_write_36 rfl (lv_at hl 1 rfl) ?_
      obtain ⟨g6, hF⟩ := gu_some hF
      refine r_iald (k := (a1).toNatClampNeg) M hP rfl rfl (in_c g6) rfl dX6_write_37 ?_
      refine lv_iconst (v := 1) hx hb dX6_write_38 (by decide) ?_
      refine lv_isub hx hb dX6_write_39 ?_
      obtain ⟨r8, h7, hF⟩ := bi_some hF
      refine k_i hS (kS_run M hS hP ok_X6_70 (c_X6_within l G a2 0 ((v 8 ((a1).toNatClampNeg)) - 1) v r8 h7) rfl hl.1 rfl (Nat.le_of_ble_eq_true rfl) ⟨rfl, rfl⟩ ⟨Nat.le_of_ble_eq_true rfl, Nat.le_of_ble_eq_true rfl⟩ dX6_write_40) (fun H locs hP hS => ?_)
      refine lv_if_ne (tgt := 53) hx hb dX6_write_43 (by decide) (fun c9 => ?_) (fun c9 => ?_)
      · replace hF := (if_pos (bI_t c9)).symm.trans hF
        refine lv_aload_n hx hb dX6_write_53 rfl (lv_at hl 0 rfl) ?_
        refine fg_6_54 M hP dX6_write_54 ?_
        refine lv_bipush (v := 40) hx hb dX6_write_57 (by decide) ?_
        refine lv_iload_n hx hb dX6_write_59 rfl (lv_at hl 1 rfl) ?_
        refine lv_imul hx hb dX6_write_60 ?_
        refine lv_iload_n hx hb dX6_write_61 rfl (lv_at hl 2 rfl) ?_
        refine lv_iadd hx hb dX6_write_62 ?_
        refine lv_iload_n hx hb dX6_write_63 rfl (lv_at hl 3 rfl) ?_
        refine lv_aload_n hx hb dX6_write_64 rfl (lv_at hl 0 rfl) ?_
        refine fg_6_48 M hP dX6_write_65 ?_
        refine lv_iload_n hx hb dX6_write_68 rfl (lv_at hl 1 rfl) ?_
        obtain ⟨g10, hF⟩ := gu_some hF
        refine r_iald (k := (a1).toNatClampNeg) M hP rfl rfl (in_c g10) rfl dX6_write_69 ?_
        obtain ⟨r12, h11, hF⟩ := bi_some hF
        refine k_i hS (kS_run M hS hP ok_X6_346 (c_X6_cutTo l G a3 (v 7 ((a1).toNatClampNeg)) v r12 h11) rfl hl.1 rfl (Nat.le_of_ble_eq_true rfl) ⟨rfl, rfl⟩ ⟨Nat.le_of_ble_eq_true rfl, Nat.le_of_ble_eq_true rfl⟩ dX6_write_70) (fun H locs hP hS => ?_)
        obtain ⟨g13, hF⟩ := gu_some hF
        refine r_iast (k := ((40 * a1) + a2).toNatClampNeg) M hS hP rfl rfl (in_c g13) rfl dX6_write_73 (fun H locs hP hS => ?_)
        have hP : Wd G (pu v 9 (((40 * a1) + a2).toNatClampNeg) r12) H := hP
        refine lv_iconst (v := 1) hx hb dX6_write_74 (by decide) ?_
        exact ret_i M hS hP (Option.some.inj hF) dX6_write_75
      · replace hF := (if_neg (bI_f c9)).symm.trans hF
        refine lv_aload_n hx hb dX6_write_46 rfl (lv_at hl 0 rfl) ?_
        refine lv_ldc (own := RX6) (v := (-1000001)) hx hb M.1.2.2.2.1 (M.1.2.2.2.2 (Cond.constant RX6 60 (-1000001)) w_788) dX6_write_47 ?_
        obtain ⟨⟨r15, v16⟩, h14, hF⟩ := bi_some hF
        dsimp only at hF
        refine k_i hS (kV_run M hS hP ok_X6_66 (c_X6_finding l G (-1000001) v r15 v16 h14) (rc_6 M hP rfl) rfl hl.1 rfl (Nat.le_of_ble_eq_true rfl) ⟨rfl, rfl⟩ ⟨Nat.le_of_ble_eq_true rfl, Nat.le_of_ble_eq_true rfl⟩ dX6_write_49) (fun H locs hP hS => ?_)
        exact ret_i M hS hP (Option.some.inj hF) dX6_write_52
    · replace hF := (if_pos c5).symm.trans hF
      refine lv_aload_n hx hb dX6_write_23 rfl (lv_at hl 0 rfl) ?_
      refine lv_ldc (own := RX6) (v := (-1000006)) hx hb M.1.2.2.2.1 (M.1.2.2.2.2 (Cond.constant RX6 234 (-1000006)) w_1052) dX6_write_24 ?_
      obtain ⟨⟨r19, v20⟩, h18, hF⟩ := bi_some hF
      dsimp only at hF
      refine k_i hS (kV_run M hS hP ok_X6_66 (c_X6_finding l G (-1000006) v r19 v20 h18) (rc_6 M hP rfl) rfl hl.1 rfl (Nat.le_of_ble_eq_true rfl) ⟨rfl, rfl⟩ ⟨Nat.le_of_ble_eq_true rfl, Nat.le_of_ble_eq_true rfl⟩ dX6_write_26) (fun H locs hP hS => ?_)
      exact ret_i M hS hP (Option.some.inj hF) dX6_write_29
  · replace hF := (if_neg (bI_f c3)).symm.trans hF
    refine lv_aload_n hx hb dX6_write_7 rfl (lv_at hl 0 rfl) ?_
    refine lv_ldc (own := RX6) (v := (-1000001)) hx hb M.1.2.2.2.1 (M.1.2.2.2.2 (Cond.constant RX6 60 (-1000001)) w_788) dX6_write_8 ?_
    obtain ⟨⟨r23, v24⟩, h22, hF⟩ := bi_some hF
    dsimp only at hF
    refine k_i hS (kV_run M hS hP ok_X6_66 (c_X6_finding l G (-1000001) v r23 v24 h22) (rc_6 M hP rfl) rfl hl.1 rfl (Nat.le_of_ble_eq_true rfl) ⟨rfl, rfl⟩ ⟨Nat.le_of_ble_eq_true rfl, Nat.le_of_ble_eq_true rfl⟩ dX6_write_10) (fun H locs hP hS => ?_)
    exact ret_i M hS hP (Option.some.inj hF) dX6_write_13
def L_X6_copy_165 : Nat → Int32 → Int32 → Int32 → Int32 → Int32 → Int32 → VV → Option (Int32 × VV)
  | 0, _, _, _, _, _, _, _ => none
  | n + 1, x1, x2, x3, x4, x5, x6, v =>
  if x5 ≤ x6 then (some (x5, v)) else (gu (gI x6 40) (gu (gI (((40 * x3) + x4) + x6) 160) (L_X6_copy_165 n x1 x2 x3 x4 x5 (x6 + 1) (pu v 9 ((((40 * x3) + x4) + x6).toNatClampNeg) (v 10 ((x6).toNatClampNeg))))))
def L_X6_copy_128 : Nat → Int32 → Int32 → Int32 → Int32 → Int32 → Int32 → VV → Option (Int32 × VV)
  | 0, _, _, _, _, _, _, _ => none
  | n + 1, x1, x2, x3, x4, x5, x6, v =>
  if x5 ≤ x6 then (L_X6_copy_165 fu x1 x2 x3 x4 x5 0 v) else (gu (gI (((40 * x1) + x2) + x6) 160) (gu (gI x6 40) (L_X6_copy_128 n x1 x2 x3 x4 x5 (x6 + 1) (pu v 10 ((x6).toNatClampNeg) (v 9 ((((40 * x1) + x2) + x6).toNatClampNeg))))))
def F_X6_copy (a1 : Int32) (a2 : Int32) (a3 : Int32) (a4 : Int32) (a5 : Int32) (v : VV) : Option (Int32 × VV) :=
  Option.bind (F_X6_isSheet a1 v) (fun r2 => (if r2 = true then (Option.bind (F_X6_isSheet a3 v) (fun r9 => (if r9 = true then (gu (gI a1 4) ((if (v 7 ((a1).toNatClampNeg)) = 0 then (Option.bind (F_X6_finding (-1000006) v) (fun (r14, v15) => some (r14, v15))) else (gu (gI a3 4) ((if (v 7 ((a3).toNatClampNeg)) = 0 then (Option.bind (F_X6_finding (-1000006) v) (fun (r60, v61) => some (r60, v61))) else (gu (gI a1 4) (gu (gI a3 4) ((if (v 7 ((a1).toNatClampNeg)) = (v 7 ((a3).toNatClampNeg)) then (if a2 < 0 then (Option.bind (F_X6_finding (-1000001) v) (fun (r24, v25) => some (r24, v25))) else (if a4 < 0 then (Option.bind (F_X6_finding (-1000001) v) (fun (r29, v30) => some (r29, v30))) else (if a5 < 0 then (Option.bind (F_X6_finding (-1000001) v) (fun (r34, v35) => some (r34, v35))) else (gu (gI a1 4) ((if 0 < (lg_cmp (((a2 : Int32).toInt64) + ((a5 : Int32).toInt64)) ((v 8 ((a1).toNatClampNeg) : Int32).toInt64)) then (Option.bind (F_X6_finding (-1000001) v) (fun (r40, v41) => some (r40, v41))) else (gu (gI a3 4) ((if (lg_cmp (((a4 : Int32).toInt64) + ((a5 : Int32).toInt64)) ((v 8 ((a3).toNatClampNeg) : Int32).toInt64)) ≤ 0 then (L_X6_copy_128 fu a1 a2 a3 a4 a5 0 v) else (Option.bind (F_X6_finding (-1000001) v) (fun (r52, v53) => some (r52, v53)))))))))))) else (Option.bind (F_X6_finding (-1000003) v) (fun (r56, v57) => some (r56, v57))))))))))))) else (Option.bind (F_X6_finding (-1000001) v) (fun (r64, v65) => some (r64, v65)))))) else (Option.bind (F_X6_finding (-1000001) v) (fun (r5, v6) => some (r5, v6)))))
set_option maxHeartbeats 4000000 in
set_option maxRecDepth 100000 in
theorem l_X6_copy_165 {p : Program} {l : Launch} {e : Env} {s : State} {m : MethodId} {args : Array Value} {below : List Frame} {meth : Method} {c : Code} {G : GG} (M : Mx G RX6 cX6_copy 7 (some .int) p s m args meth c) (r : Int32) (v' : VV) : ∀ (n : Nat) (x1 : Int32) (x2 : Int32) (x3 : Int32) (x4 : Int32) (x5 : Int32) (x6 : Int32) (v : VV) (H : Heap) (locs : List Loc) (ls : Array Slot), L_X6_copy_165 n x1 x2 x3 x4 x5 x6 v = some (r, v') → Wd G v H → va_S (gA G) s.heap H locs → lv_has ls 7 [(0, .ref (ad G 0)), (1, .int x1), (2, .int x2), (3, .int x3), (4, .int x4), (5, .int x5), (6, .int x6)] → W p l e ({ frames := 2, cells := 0, slots := 0, locals := 42 } : Room) s m args below meth c H locs 0 0 (MQ below (QI G r v') args s 0 0 (gA G)) (F0 m 165 ls []) := by
  have hx := M.1.1
  have hb := M.1.2.1
  intro n
  induction n with
  | zero =>
    intro x1 x2 x3 x4 x5 x6 v H locs ls hF hP hS hl
    rw [L_X6_copy_165] at hF
    cases hF
  | succ n ih =>
    intro x1 x2 x3 x4 x5 x6 v H locs ls hF hP hS hl
    rw [L_X6_copy_165] at hF
    refine lv_iload hx hb dX6_copy_165 (lv_at hl 6 rfl) ?_
    refine lv_iload hx hb dX6_copy_167 (lv_at hl 5 rfl) ?_
    refine lv_icmp_ge (tgt := 200) hx hb dX6_copy_169 (by decide) (fun c46 => ?_) (fun c46 => ?_)
    · replace hF := (if_pos c46).symm.trans hF
      refine lv_iload hx hb dX6_copy_200 (lv_at hl 5 rfl) ?_
      exact ret_i M hS hP (Option.some.inj hF) dX6_copy_202
    · replace hF := (if_neg c46).symm.trans hF
      refine lv_aload_n hx hb dX6_copy_172 rfl (lv_at hl 0 rfl) ?_
      refine fg_6_54 M hP dX6_copy_173 ?_
      refine lv_bipush (v := 40) hx hb dX6_copy_176 (by decide) ?_
      refine lv_iload_n hx hb dX6_copy_178 rfl (lv_at hl 3 rfl) ?_
      refine lv_imul hx hb dX6_copy_179 ?_
      refine lv_iload hx hb dX6_copy_180 (lv_at hl 4 rfl) ?_
      refine lv_iadd hx hb dX6_copy_182 ?_
      refine lv_iload hx hb dX6_copy_183 (lv_at hl 6 rfl) ?_
      refine lv_iadd hx hb dX6_copy_185 ?_
      refine lv_aload_n hx hb dX6_copy_186 rfl (lv_at hl 0 rfl) ?_
      refine fg_6_57 M hP dX6_copy_187 ?_
      refine lv_iload hx hb dX6_copy_190 (lv_at hl 6 rfl) ?_
      obtain ⟨g47, hF⟩ := gu_some hF
      refine r_iald (k := (x6).toNatClampNeg) M hP rfl rfl (in_c g47) rfl dX6_copy_192 ?_
      obtain ⟨g48, hF⟩ := gu_some hF
      refine r_iast (k := (((40 * x3) + x4) + x6).toNatClampNeg) M hS hP rfl rfl (in_c g48) rfl dX6_copy_193 (fun H locs hP hS => ?_)
      have hP : Wd G (pu v 9 ((((40 * x3) + x4) + x6).toNatClampNeg) (v 10 ((x6).toNatClampNeg))) H := hP
      refine lv_iinc (v := (x6 + 1)) (lv' := [(6, .int (x6 + 1)), (0, .ref (ad G 0)), (1, .int x1), (2, .int x2), (3, .int x3), (4, .int x4), (5, .int x5)]) hx hb dX6_copy_194 hl (k := 6) rfl (iinc_eq _ (by decide)) (by decide) rfl (fun ls hl => ?_)
      refine lv_goto (tgt := 165) hx hb dX6_copy_197 (by decide) ?_
      exact ih x1 x2 x3 x4 x5 (x6 + 1) _ _ _ ls hF hP hS (lv_sub hl [1, 2, 3, 4, 5, 6, 0] rfl)
set_option maxHeartbeats 4000000 in
set_option maxRecDepth 100000 in
theorem l_X6_copy_128 {p : Program} {l : Launch} {e : Env} {s : State} {m : MethodId} {args : Array Value} {below : List Frame} {meth : Method} {c : Code} {G : GG} (M : Mx G RX6 cX6_copy 7 (some .int) p s m args meth c) (r : Int32) (v' : VV) : ∀ (n : Nat) (x1 : Int32) (x2 : Int32) (x3 : Int32) (x4 : Int32) (x5 : Int32) (x6 : Int32) (v : VV) (H : Heap) (locs : List Loc) (ls : Array Slot), L_X6_copy_128 n x1 x2 x3 x4 x5 x6 v = some (r, v') → Wd G v H → va_S (gA G) s.heap H locs → lv_has ls 7 [(0, .ref (ad G 0)), (1, .int x1), (2, .int x2), (3, .int x3), (4, .int x4), (5, .int x5), (6, .int x6)] → W p l e ({ frames := 2, cells := 0, slots := 0, locals := 42 } : Room) s m args below meth c H locs 0 0 (MQ below (QI G r v') args s 0 0 (gA G)) (F0 m 128 ls []) := by
  have hx := M.1.1
  have hb := M.1.2.1
  intro n
  induction n with
  | zero =>
    intro x1 x2 x3 x4 x5 x6 v H locs ls hF hP hS hl
    rw [L_X6_copy_128] at hF
    cases hF
  | succ n ih =>
    intro x1 x2 x3 x4 x5 x6 v H locs ls hF hP hS hl
    rw [L_X6_copy_128] at hF
    refine lv_iload hx hb dX6_copy_128 (lv_at hl 6 rfl) ?_
    refine lv_iload hx hb dX6_copy_130 (lv_at hl 5 rfl) ?_
    refine lv_icmp_ge (tgt := 162) hx hb dX6_copy_132 (by decide) (fun c45 => ?_) (fun c45 => ?_)
    · replace hF := (if_pos c45).symm.trans hF
      refine lv_iconst (v := 0) hx hb dX6_copy_162 (by decide) ?_
      refine lv_istore (lv' := [(6, .int 0), (0, .ref (ad G 0)), (1, .int x1), (2, .int x2), (3, .int x3), (4, .int x4), (5, .int x5)]) hx hb dX6_copy_163 hl (by decide) rfl (fun ls hl => ?_)
      exact l_X6_copy_165 M _ _ fu x1 x2 x3 x4 x5 0 _ _ _ ls hF hP hS (lv_sub hl [1, 2, 3, 4, 5, 6, 0] rfl)
    · replace hF := (if_neg c45).symm.trans hF
      refine lv_aload_n hx hb dX6_copy_135 rfl (lv_at hl 0 rfl) ?_
      refine fg_6_57 M hP dX6_copy_136 ?_
      refine lv_iload hx hb dX6_copy_139 (lv_at hl 6 rfl) ?_
      refine lv_aload_n hx hb dX6_copy_141 rfl (lv_at hl 0 rfl) ?_
      refine fg_6_54 M hP dX6_copy_142 ?_
      refine lv_bipush (v := 40) hx hb dX6_copy_145 (by decide) ?_
      refine lv_iload_n hx hb dX6_copy_147 rfl (lv_at hl 1 rfl) ?_
      refine lv_imul hx hb dX6_copy_148 ?_
      refine lv_iload_n hx hb dX6_copy_149 rfl (lv_at hl 2 rfl) ?_
      refine lv_iadd hx hb dX6_copy_150 ?_
      refine lv_iload hx hb dX6_copy_151 (lv_at hl 6 rfl) ?_
      refine lv_iadd hx hb dX6_copy_153 ?_
      obtain ⟨g49, hF⟩ := gu_some hF
      refine r_iald (k := (((40 * x1) + x2) + x6).toNatClampNeg) M hP rfl rfl (in_c g49) rfl dX6_copy_154 ?_
      obtain ⟨g50, hF⟩ := gu_some hF
      refine r_iast (k := (x6).toNatClampNeg) M hS hP rfl rfl (in_c g50) rfl dX6_copy_155 (fun H locs hP hS => ?_)
      have hP : Wd G (pu v 10 ((x6).toNatClampNeg) (v 9 ((((40 * x1) + x2) + x6).toNatClampNeg))) H := hP
      refine lv_iinc (v := (x6 + 1)) (lv' := [(6, .int (x6 + 1)), (0, .ref (ad G 0)), (1, .int x1), (2, .int x2), (3, .int x3), (4, .int x4), (5, .int x5)]) hx hb dX6_copy_156 hl (k := 6) rfl (iinc_eq _ (by decide)) (by decide) rfl (fun ls hl => ?_)
      refine lv_goto (tgt := 128) hx hb dX6_copy_159 (by decide) ?_
      exact ih x1 x2 x3 x4 x5 (x6 + 1) _ _ _ ls hF hP hS (lv_sub hl [1, 2, 3, 4, 5, 6, 0] rfl)
set_option maxHeartbeats 4000000 in
set_option maxRecDepth 100000 in
theorem c_X6_copy (l : Launch) (G : GG) (a1 : Int32) (a2 : Int32) (a3 : Int32) (a4 : Int32) (a5 : Int32) (v : VV) (r : Int32) (v' : VV) (hF : F_X6_copy a1 a2 a3 a4 a5 v = some (r, v')) : Met l yX6_copy (cdW yX6_copy cX6_copy 7 (some .int)) ({ frames := 2, cells := 0, slots := 0, locals := 42 } : Room) (PC G v [.ref (ad G 0), .int a1, .int a2, .int a3, .int a4, .int a5]) (QI G r v') 0 0 (gA G) := by
  refine met_in RX6 (by decide) rfl (Nat.le_of_ble_eq_true rfl) ?_
  intro p e s m below meth c M hP ls hl
  have hx := M.1.1
  have hb := M.1.2.1
  have hS : va_S (gA G) s.heap s.heap [] := va_S.rf
  have hl : lv_has ls 7 [(0, .ref (ad G 0)), (1, .int a1), (2, .int a2), (3, .int a3), (4, .int a4), (5, .int a5)] := hl
  unfold F_X6_copy at hF
  refine lv_iload_n hx hb dX6_copy_0 rfl (lv_at hl 1 rfl) ?_
  obtain ⟨r2, h1, hF⟩ := bi_some hF
  refine k_i hS (kS_run M hS hP ok_X6_231 (c_X6_isSheet l G a1 v r2 h1) rfl hl.1 rfl (Nat.le_of_ble_eq_true rfl) ⟨rfl, rfl⟩ ⟨Nat.le_of_ble_eq_true rfl, Nat.le_of_ble_eq_true rfl⟩ dX6_copy_1) (fun H locs hP hS => ?_)
  refine lv_if_eq (tgt := 14) hx hb dX6_copy_4 (by decide) (fun c3 => ?_) (fun c3 => ?_)
  · replace hF := (if_neg (bI_f c3)).symm.trans hF
    refine lv_aload_n hx hb dX6_copy_14 rfl (lv_at hl 0 rfl) ?_
    refine lv_ldc (own := RX6) (v := (-1000001)) hx hb M.1.2.2.2.1 (M.1.2.2.2.2 (Cond.constant RX6 60 (-1000001)) w_788) dX6_copy_15 ?_
    obtain ⟨⟨r5, v6⟩, h4, hF⟩ := bi_some hF
    dsimp only at hF
    refine k_i hS (kV_run M hS hP ok_X6_66 (c_X6_finding l G (-1000001) v r5 v6 h4) (rc_6 M hP rfl) rfl hl.1 rfl (Nat.le_of_ble_eq_true rfl) ⟨rfl, rfl⟩ ⟨Nat.le_of_ble_eq_true rfl, Nat.le_of_ble_eq_true rfl⟩ dX6_copy_17) (fun H locs hP hS => ?_)
    exact ret_i M hS hP (Option.some.inj hF) dX6_copy_20
  · replace hF := (if_pos (bI_t c3)).symm.trans hF
    refine lv_iload_n hx hb dX6_copy_7 rfl (lv_at hl 3 rfl) ?_
    obtain ⟨r9, h8, hF⟩ := bi_some hF
    refine k_i hS (kS_run M hS hP ok_X6_231 (c_X6_isSheet l G a3 v r9 h8) rfl hl.1 rfl (Nat.le_of_ble_eq_true rfl) ⟨rfl, rfl⟩ ⟨Nat.le_of_ble_eq_true rfl, Nat.le_of_ble_eq_true rfl⟩ dX6_copy_8) (fun H locs hP hS => ?_)
    refine lv_if_ne (tgt := 21) hx hb dX6_copy_11 (by decide) (fun c10 => ?_) (fun c10 => ?_)
    · replace hF := (if_pos (bI_t c10)).symm.trans hF
      refine lv_aload_n hx hb dX6_copy_21 rfl (lv_at hl 0 rfl) ?_
      refine fg_6_48 M hP dX6_copy_22 ?_
      refine lv_iload_n hx hb dX6_copy_25 rfl (lv_at hl 1 rfl) ?_
      obtain ⟨g11, hF⟩ := gu_some hF
      refine r_iald (k := (a1).toNatClampNeg) M hP rfl rfl (in_c g11) rfl dX6_copy_26 ?_
      refine lv_if_eq (tgt := 39) hx hb dX6_copy_27 (by decide) (fun c12 => ?_) (fun c12 => ?_)
      · replace hF := (if_pos c12).symm.trans hF
        refine lv_aload_n hx hb dX6_copy_39 rfl (lv_at hl 0 rfl) ?_
        refine lv_ldc (own := RX6) (v := (-1000006)) hx hb M.1.2.2.2.1 (M.1.2.2.2.2 (Cond.constant RX6 234 (-1000006)) w_1052) dX6_copy_40 ?_
        obtain ⟨⟨r14, v15⟩, h13, hF⟩ := bi_some hF
        dsimp only at hF
        refine k_i hS (kV_run M hS hP ok_X6_66 (c_X6_finding l G (-1000006) v r14 v15 h13) (rc_6 M hP rfl) rfl hl.1 rfl (Nat.le_of_ble_eq_true rfl) ⟨rfl, rfl⟩ ⟨Nat.le_of_ble_eq_true rfl, Nat.le_of_ble_eq_true rfl⟩ dX6_copy_42) (fun H locs hP hS => ?_)
        exact ret_i M hS hP (Option.some.inj hF) dX6_copy_45
      · replace hF := (if_neg c12).symm.trans hF
        refine lv_aload_n hx hb dX6_copy_30 rfl (lv_at hl 0 rfl) ?_
        refine fg_6_48 M hP dX6_copy_31 ?_
        refine lv_iload_n hx hb dX6_copy_34 rfl (lv_at hl 3 rfl) ?_
        obtain ⟨g17, hF⟩ := gu_some hF
        refine r_iald (k := (a3).toNatClampNeg) M hP rfl rfl (in_c g17) rfl dX6_copy_35 ?_
        refine lv_if_ne (tgt := 46) hx hb dX6_copy_36 (by decide) (fun c18 => ?_) (fun c18 => ?_)
        · replace hF := (if_neg c18).symm.trans hF
          refine lv_aload_n hx hb dX6_copy_46 rfl (lv_at hl 0 rfl) ?_
          refine fg_6_48 M hP dX6_copy_47 ?_
          refine lv_iload_n hx hb dX6_copy_50 rfl (lv_at hl 1 rfl) ?_
          obtain ⟨g19, hF⟩ := gu_some hF
          refine r_iald (k := (a1).toNatClampNeg) M hP rfl rfl (in_c g19) rfl dX6_copy_51 ?_
          refine lv_aload_n hx hb dX6_copy_52 rfl (lv_at hl 0 rfl) ?_
          refine fg_6_48 M hP dX6_copy_53 ?_
          refine lv_iload_n hx hb dX6_copy_56 rfl (lv_at hl 3 rfl) ?_
          obtain ⟨g20, hF⟩ := gu_some hF
          refine r_iald (k := (a3).toNatClampNeg) M hP rfl rfl (in_c g20) rfl dX6_copy_57 ?_
          refine lv_icmp_eq (tgt := 69) hx hb dX6_copy_58 (by decide) (fun c21 => ?_) (fun c21 => ?_)
          · replace hF := (if_pos c21).symm.trans hF
            refine lv_iload_n hx hb dX6_copy_69 rfl (lv_at hl 2 rfl) ?_
            refine lv_if_lt (tgt := 118) hx hb dX6_copy_70 (by decide) (fun c22 => ?_) (fun c22 => ?_)
            · replace hF := (if_pos c22).symm.trans hF
              refine lv_aload_n hx hb dX6_copy_118 rfl (lv_at hl 0 rfl) ?_
              refine lv_ldc (own := RX6) (v := (-1000001)) hx hb M.1.2.2.2.1 (M.1.2.2.2.2 (Cond.constant RX6 60 (-1000001)) w_788) dX6_copy_119 ?_
              obtain ⟨⟨r24, v25⟩, h23, hF⟩ := bi_some hF
              dsimp only at hF
              refine k_i hS (kV_run M hS hP ok_X6_66 (c_X6_finding l G (-1000001) v r24 v25 h23) (rc_6 M hP rfl) rfl hl.1 rfl (Nat.le_of_ble_eq_true rfl) ⟨rfl, rfl⟩ ⟨Nat.le_of_ble_eq_true rfl, Nat.le_of_ble_eq_true rfl⟩ dX6_copy_121) (fun H locs hP hS => ?_)
              exact ret_i M hS hP (Option.some.inj hF) dX6_copy_124
            · replace hF := (if_neg c22).symm.trans hF
              refine lv_iload hx hb dX6_copy_73 (lv_at hl 4 rfl) ?_
              refine lv_if_lt (tgt := 118) hx hb dX6_copy_75 (by decide) (fun c27 => ?_) (fun c27 => ?_)
              · replace hF := (if_pos c27).symm.trans hF
                refine lv_aload_n hx hb dX6_copy_118 rfl (lv_at hl 0 rfl) ?_
                refine lv_ldc (own := RX6) (v := (-1000001)) hx hb M.1.2.2.2.1 (M.1.2.2.2.2 (Cond.constant RX6 60 (-1000001)) w_788) dX6_copy_119 ?_
                obtain ⟨⟨r29, v30⟩, h28, hF⟩ := bi_some hF
                dsimp only at hF
                refine k_i hS (kV_run M hS hP ok_X6_66 (c_X6_finding l G (-1000001) v r29 v30 h28) (rc_6 M hP rfl) rfl hl.1 rfl (Nat.le_of_ble_eq_true rfl) ⟨rfl, rfl⟩ ⟨Nat.le_of_ble_eq_true rfl, Nat.le_of_ble_eq_true rfl⟩ dX6_copy_121) (fun H locs hP hS => ?_)
                exact ret_i M hS hP (Option.some.inj hF) dX6_copy_124
              · replace hF := (if_neg c27).symm.trans hF
                refine lv_iload hx hb dX6_copy_78 (lv_at hl 5 rfl) ?_
                refine lv_if_lt (tgt := 118) hx hb dX6_copy_80 (by decide) (fun c32 => ?_) (fun c32 => ?_)
                · replace hF := (if_pos c32).symm.trans hF
                  refine lv_aload_n hx hb dX6_copy_118 rfl (lv_at hl 0 rfl) ?_
                  refine lv_ldc (own := RX6) (v := (-1000001)) hx hb M.1.2.2.2.1 (M.1.2.2.2.2 (Cond.constant RX6 60 (-1000001)) w_788) dX6_copy_119 ?_
                  obtain ⟨⟨r34, v35⟩, h33, hF⟩ := bi_some hF
                  dsimp only at hF
                  refine k_i hS (kV_run M hS hP ok_X6_66 (c_X6_finding l G (-1000001) v r34 v35 h33) (rc_6 M hP rfl) rfl hl.1 rfl (Nat.le_of_ble_eq_true rfl) ⟨rfl, rfl⟩ ⟨Nat.le_of_ble_eq_true rfl, Nat.le_of_ble_eq_true rfl⟩ dX6_copy_121) (fun H locs hP hS => ?_)
                  exact ret_i M hS hP (Option.some.inj hF) dX6_copy_124
                · replace hF := (if_neg c32).symm.trans hF
                  refine lv_iload_n hx hb dX6_copy_83 rfl (lv_at hl 2 rfl) ?_
                  refine lv_i2l hx hb dX6_copy_84 rfl ?_
                  refine lv_iload hx hb dX6_copy_85 (lv_at hl 5 rfl) ?_
                  refine lv_i2l hx hb dX6_copy_87 rfl ?_
                  refine lv_ladd hx hb dX6_copy_88 ?_
                  refine lv_aload_n hx hb dX6_copy_89 rfl (lv_at hl 0 rfl) ?_
                  refine fg_6_51 M hP dX6_copy_90 ?_
                  refine lv_iload_n hx hb dX6_copy_93 rfl (lv_at hl 1 rfl) ?_
                  obtain ⟨g37, hF⟩ := gu_some hF
                  refine r_iald (k := (a1).toNatClampNeg) M hP rfl rfl (in_c g37) rfl dX6_copy_94 ?_
                  refine lv_i2l hx hb dX6_copy_95 rfl ?_
                  refine W.lcmp hx hb dX6_copy_96 ?_
                  refine lv_if_gt (tgt := 118) hx hb dX6_copy_97 (by decide) (fun c38 => ?_) (fun c38 => ?_)
                  · replace hF := (if_pos c38).symm.trans hF
                    refine lv_aload_n hx hb dX6_copy_118 rfl (lv_at hl 0 rfl) ?_
                    refine lv_ldc (own := RX6) (v := (-1000001)) hx hb M.1.2.2.2.1 (M.1.2.2.2.2 (Cond.constant RX6 60 (-1000001)) w_788) dX6_copy_119 ?_
                    obtain ⟨⟨r40, v41⟩, h39, hF⟩ := bi_some hF
                    dsimp only at hF
                    refine k_i hS (kV_run M hS hP ok_X6_66 (c_X6_finding l G (-1000001) v r40 v41 h39) (rc_6 M hP rfl) rfl hl.1 rfl (Nat.le_of_ble_eq_true rfl) ⟨rfl, rfl⟩ ⟨Nat.le_of_ble_eq_true rfl, Nat.le_of_ble_eq_true rfl⟩ dX6_copy_121) (fun H locs hP hS => ?_)
                    exact ret_i M hS hP (Option.some.inj hF) dX6_copy_124
                  · replace hF := (if_neg c38).symm.trans hF
                    refine lv_iload hx hb dX6_copy_100 (lv_at hl 4 rfl) ?_
                    refine lv_i2l hx hb dX6_copy_102 rfl ?_
                    refine lv_iload hx hb dX6_copy_103 (lv_at hl 5 rfl) ?_
                    refine lv_i2l hx hb dX6_copy_105 rfl ?_
                    refine lv_ladd hx hb dX6_copy_106 ?_
                    refine lv_aload_n hx hb dX6_copy_107 rfl (lv_at hl 0 rfl) ?_
                    refine fg_6_51 M hP dX6_copy_108 ?_
                    refine lv_iload_n hx hb dX6_copy_111 rfl (lv_at hl 3 rfl) ?_
                    obtain ⟨g43, hF⟩ := gu_some hF
                    refine r_iald (k := (a3).toNatClampNeg) M hP rfl rfl (in_c g43) rfl dX6_copy_112 ?_
                    refine lv_i2l hx hb dX6_copy_113 rfl ?_
                    refine W.lcmp hx hb dX6_copy_114 ?_
                    refine lv_if_le (tgt := 125) hx hb dX6_copy_115 (by decide) (fun c44 => ?_) (fun c44 => ?_)
                    · replace hF := (if_pos c44).symm.trans hF
                      refine lv_iconst (v := 0) hx hb dX6_copy_125 (by decide) ?_
                      refine lv_istore (lv' := [(6, .int 0), (0, .ref (ad G 0)), (1, .int a1), (2, .int a2), (3, .int a3), (4, .int a4), (5, .int a5)]) hx hb dX6_copy_126 hl (by decide) rfl (fun ls hl => ?_)
                      exact l_X6_copy_128 M _ _ fu a1 a2 a3 a4 a5 0 _ _ _ ls hF hP hS (lv_sub hl [1, 2, 3, 4, 5, 6, 0] rfl)
                    · replace hF := (if_neg c44).symm.trans hF
                      refine lv_aload_n hx hb dX6_copy_118 rfl (lv_at hl 0 rfl) ?_
                      refine lv_ldc (own := RX6) (v := (-1000001)) hx hb M.1.2.2.2.1 (M.1.2.2.2.2 (Cond.constant RX6 60 (-1000001)) w_788) dX6_copy_119 ?_
                      obtain ⟨⟨r52, v53⟩, h51, hF⟩ := bi_some hF
                      dsimp only at hF
                      refine k_i hS (kV_run M hS hP ok_X6_66 (c_X6_finding l G (-1000001) v r52 v53 h51) (rc_6 M hP rfl) rfl hl.1 rfl (Nat.le_of_ble_eq_true rfl) ⟨rfl, rfl⟩ ⟨Nat.le_of_ble_eq_true rfl, Nat.le_of_ble_eq_true rfl⟩ dX6_copy_121) (fun H locs hP hS => ?_)
                      exact ret_i M hS hP (Option.some.inj hF) dX6_copy_124
          · replace hF := (if_neg c21).symm.trans hF
            refine lv_aload_n hx hb dX6_copy_61 rfl (lv_at hl 0 rfl) ?_
            refine lv_ldcw (own := RX6) (v := (-1000003)) hx hb M.1.2.2.2.1 (M.1.2.2.2.2 (Cond.constant RX6 344 (-1000003)) w_1165) dX6_copy_62 ?_
            obtain ⟨⟨r56, v57⟩, h55, hF⟩ := bi_some hF
            dsimp only at hF
            refine k_i hS (kV_run M hS hP ok_X6_66 (c_X6_finding l G (-1000003) v r56 v57 h55) (rc_6 M hP rfl) rfl hl.1 rfl (Nat.le_of_ble_eq_true rfl) ⟨rfl, rfl⟩ ⟨Nat.le_of_ble_eq_true rfl, Nat.le_of_ble_eq_true rfl⟩ dX6_copy_65) (fun H locs hP hS => ?_)
            exact ret_i M hS hP (Option.some.inj hF) dX6_copy_68
        · replace hF := (if_pos c18).symm.trans hF
          refine lv_aload_n hx hb dX6_copy_39 rfl (lv_at hl 0 rfl) ?_
          refine lv_ldc (own := RX6) (v := (-1000006)) hx hb M.1.2.2.2.1 (M.1.2.2.2.2 (Cond.constant RX6 234 (-1000006)) w_1052) dX6_copy_40 ?_
          obtain ⟨⟨r60, v61⟩, h59, hF⟩ := bi_some hF
          dsimp only at hF
          refine k_i hS (kV_run M hS hP ok_X6_66 (c_X6_finding l G (-1000006) v r60 v61 h59) (rc_6 M hP rfl) rfl hl.1 rfl (Nat.le_of_ble_eq_true rfl) ⟨rfl, rfl⟩ ⟨Nat.le_of_ble_eq_true rfl, Nat.le_of_ble_eq_true rfl⟩ dX6_copy_42) (fun H locs hP hS => ?_)
          exact ret_i M hS hP (Option.some.inj hF) dX6_copy_45
    · replace hF := (if_neg (bI_f c10)).symm.trans hF
      refine lv_aload_n hx hb dX6_copy_14 rfl (lv_at hl 0 rfl) ?_
      refine lv_ldc (own := RX6) (v := (-1000001)) hx hb M.1.2.2.2.1 (M.1.2.2.2.2 (Cond.constant RX6 60 (-1000001)) w_788) dX6_copy_15 ?_
      obtain ⟨⟨r64, v65⟩, h63, hF⟩ := bi_some hF
      dsimp only at hF
      refine k_i hS (kV_run M hS hP ok_X6_66 (c_X6_finding l G (-1000001) v r64 v65 h63) (rc_6 M hP rfl) rfl hl.1 rfl (Nat.le_of_ble_eq_true rfl) ⟨rfl, rfl⟩ ⟨Nat.le_of_ble_eq_true rfl, Nat.le_of_ble_eq_true rfl⟩ dX6_copy_17) (fun H locs hP hS => ?_)
      exact ret_i M hS hP (Option.some.inj hF) dX6_copy_20
def L_X6_load_22 : Nat → Int32 → Int32 → VV → Option (Int32 × VV)
  | 0, _, _, _ => none
  | n + 1, x1, x2, v =>
  gu (gI x1 4) ((if (v 8 ((x1).toNatClampNeg)) ≤ x2 then (some (x2, v)) else (Option.bind (F_X6_isPlace x2 v) (fun r7 => (if r7 = true then (gu (gI ((40 * x1) + x2) 160) (Option.bind (F_X6_isFog (v 9 (((40 * x1) + x2).toNatClampNeg)) v) (fun r11 => (if r11 = true then (gu (gI ((40 * x1) + x2) 160) (gu (gI (4 + x2) 92) (L_X6_load_22 n x1 (x2 + 1) (pu v 1 ((4 + x2).toNatClampNeg) (v 9 (((40 * x1) + x2).toNatClampNeg)))))) else (some (x2, v)))))) else (some (x2, v)))))))
def F_X6_load (a1 : Int32) (v : VV) : Option (Int32 × VV) :=
  Option.bind (F_X6_lacks a1 1 v) (fun r2 => (if r2 = 0 then (L_X6_load_22 fu a1 0 v) else (Option.bind (F_X6_lacks a1 1 v) (fun r16 => Option.bind (F_X6_finding r16 v) (fun (r18, v19) => some (r18, v19))))))
set_option maxHeartbeats 4000000 in
set_option maxRecDepth 100000 in
theorem l_X6_load_22 {p : Program} {l : Launch} {e : Env} {s : State} {m : MethodId} {args : Array Value} {below : List Frame} {meth : Method} {c : Code} {G : GG} (M : Mx G RX6 cX6_load 3 (some .int) p s m args meth c) (r : Int32) (v' : VV) : ∀ (n : Nat) (x1 : Int32) (x2 : Int32) (v : VV) (H : Heap) (locs : List Loc) (ls : Array Slot), L_X6_load_22 n x1 x2 v = some (r, v') → Wd G v H → va_S (gA G) s.heap H locs → lv_has ls 3 [(0, .ref (ad G 0)), (1, .int x1), (2, .int x2)] → W p l e ({ frames := 3, cells := 0, slots := 0, locals := 64 } : Room) s m args below meth c H locs 0 0 (MQ below (QI G r v') args s 0 0 (gA G)) (F0 m 22 ls []) := by
  have hx := M.1.1
  have hb := M.1.2.1
  intro n
  induction n with
  | zero =>
    intro x1 x2 v H locs ls hF hP hS hl
    rw [L_X6_load_22] at hF
    cases hF
  | succ n ih =>
    intro x1 x2 v H locs ls hF hP hS hl
    rw [L_X6_load_22] at hF
    refine lv_iload_n hx hb dX6_load_22 rfl (lv_at hl 2 rfl) ?_
    refine lv_aload_n hx hb dX6_load_23 rfl (lv_at hl 0 rfl) ?_
    refine fg_6_51 M hP dX6_load_24 ?_
    refine lv_iload_n hx hb dX6_load_27 rfl (lv_at hl 1 rfl) ?_
    obtain ⟨g4, hF⟩ := gu_some hF
    refine r_iald (k := (x1).toNatClampNeg) M hP rfl rfl (in_c g4) rfl dX6_load_28 ?_
    refine lv_icmp_ge (tgt := 81) hx hb dX6_load_29 (by decide) (fun c5 => ?_) (fun c5 => ?_)
    · replace hF := (if_pos c5).symm.trans hF
      refine lv_iload_n hx hb dX6_load_81 rfl (lv_at hl 2 rfl) ?_
      exact ret_i M hS hP (Option.some.inj hF) dX6_load_82
    · replace hF := (if_neg c5).symm.trans hF
      refine lv_iload_n hx hb dX6_load_32 rfl (lv_at hl 2 rfl) ?_
      obtain ⟨r7, h6, hF⟩ := bi_some hF
      refine k_i hS (kS_run M hS hP ok_X6_74 (c_X6_isPlace l G x2 v r7 h6) rfl hl.1 rfl (Nat.le_of_ble_eq_true rfl) ⟨rfl, rfl⟩ ⟨Nat.le_of_ble_eq_true rfl, Nat.le_of_ble_eq_true rfl⟩ dX6_load_33) (fun H locs hP hS => ?_)
      refine lv_if_eq (tgt := 81) hx hb dX6_load_36 (by decide) (fun c8 => ?_) (fun c8 => ?_)
      · replace hF := (if_neg (bI_f c8)).symm.trans hF
        refine lv_iload_n hx hb dX6_load_81 rfl (lv_at hl 2 rfl) ?_
        exact ret_i M hS hP (Option.some.inj hF) dX6_load_82
      · replace hF := (if_pos (bI_t c8)).symm.trans hF
        refine lv_aload_n hx hb dX6_load_39 rfl (lv_at hl 0 rfl) ?_
        refine fg_6_54 M hP dX6_load_40 ?_
        refine lv_bipush (v := 40) hx hb dX6_load_43 (by decide) ?_
        refine lv_iload_n hx hb dX6_load_45 rfl (lv_at hl 1 rfl) ?_
        refine lv_imul hx hb dX6_load_46 ?_
        refine lv_iload_n hx hb dX6_load_47 rfl (lv_at hl 2 rfl) ?_
        refine lv_iadd hx hb dX6_load_48 ?_
        obtain ⟨g9, hF⟩ := gu_some hF
        refine r_iald (k := ((40 * x1) + x2).toNatClampNeg) M hP rfl rfl (in_c g9) rfl dX6_load_49 ?_
        obtain ⟨r11, h10, hF⟩ := bi_some hF
        refine k_i hS (kS_run M hS hP ok_X6_78 (c_X6_isFog l G (v 9 (((40 * x1) + x2).toNatClampNeg)) v r11 h10) rfl hl.1 rfl (Nat.le_of_ble_eq_true rfl) ⟨rfl, rfl⟩ ⟨Nat.le_of_ble_eq_true rfl, Nat.le_of_ble_eq_true rfl⟩ dX6_load_50) (fun H locs hP hS => ?_)
        refine lv_if_eq (tgt := 81) hx hb dX6_load_53 (by decide) (fun c12 => ?_) (fun c12 => ?_)
        · replace hF := (if_neg (bI_f c12)).symm.trans hF
          refine lv_iload_n hx hb dX6_load_81 rfl (lv_at hl 2 rfl) ?_
          exact ret_i M hS hP (Option.some.inj hF) dX6_load_82
        · replace hF := (if_pos (bI_t c12)).symm.trans hF
          refine lv_aload_n hx hb dX6_load_56 rfl (lv_at hl 0 rfl) ?_
          refine fg_6_9 M hP dX6_load_57 ?_
          refine lv_iconst (v := 4) hx hb dX6_load_60 (by decide) ?_
          refine lv_iload_n hx hb dX6_load_61 rfl (lv_at hl 2 rfl) ?_
          refine lv_iadd hx hb dX6_load_62 ?_
          refine lv_aload_n hx hb dX6_load_63 rfl (lv_at hl 0 rfl) ?_
          refine fg_6_54 M hP dX6_load_64 ?_
          refine lv_bipush (v := 40) hx hb dX6_load_67 (by decide) ?_
          refine lv_iload_n hx hb dX6_load_69 rfl (lv_at hl 1 rfl) ?_
          refine lv_imul hx hb dX6_load_70 ?_
          refine lv_iload_n hx hb dX6_load_71 rfl (lv_at hl 2 rfl) ?_
          refine lv_iadd hx hb dX6_load_72 ?_
          obtain ⟨g13, hF⟩ := gu_some hF
          refine r_iald (k := ((40 * x1) + x2).toNatClampNeg) M hP rfl rfl (in_c g13) rfl dX6_load_73 ?_
          obtain ⟨g14, hF⟩ := gu_some hF
          refine r_iast (k := (4 + x2).toNatClampNeg) M hS hP rfl rfl (in_c g14) rfl dX6_load_74 (fun H locs hP hS => ?_)
          have hP : Wd G (pu v 1 ((4 + x2).toNatClampNeg) (v 9 (((40 * x1) + x2).toNatClampNeg))) H := hP
          refine lv_iinc (v := (x2 + 1)) (lv' := [(2, .int (x2 + 1)), (0, .ref (ad G 0)), (1, .int x1)]) hx hb dX6_load_75 hl (k := 2) rfl (iinc_eq _ (by decide)) (by decide) rfl (fun ls hl => ?_)
          refine lv_goto (tgt := 22) hx hb dX6_load_78 (by decide) ?_
          exact ih x1 (x2 + 1) _ _ _ ls hF hP hS (lv_sub hl [1, 2, 0] rfl)
set_option maxHeartbeats 4000000 in
set_option maxRecDepth 100000 in
theorem c_X6_load (l : Launch) (G : GG) (a1 : Int32) (v : VV) (r : Int32) (v' : VV) (hF : F_X6_load a1 v = some (r, v')) : Met l yX6_load (cdW yX6_load cX6_load 3 (some .int)) ({ frames := 3, cells := 0, slots := 0, locals := 64 } : Room) (PC G v [.ref (ad G 0), .int a1]) (QI G r v') 0 0 (gA G) := by
  refine met_in RX6 (by decide) rfl (Nat.le_of_ble_eq_true rfl) ?_
  intro p e s m below meth c M hP ls hl
  have hx := M.1.1
  have hb := M.1.2.1
  have hS : va_S (gA G) s.heap s.heap [] := va_S.rf
  have hl : lv_has ls 3 [(0, .ref (ad G 0)), (1, .int a1)] := hl
  unfold F_X6_load at hF
  refine lv_aload_n hx hb dX6_load_0 rfl (lv_at hl 0 rfl) ?_
  refine lv_iload_n hx hb dX6_load_1 rfl (lv_at hl 1 rfl) ?_
  refine lv_iconst (v := 1) hx hb dX6_load_2 (by decide) ?_
  obtain ⟨r2, h1, hF⟩ := bi_some hF
  refine k_i hS (kV_run M hS hP ok_X6_238 (c_X6_lacks l G a1 1 v r2 h1) (rc_6 M hP rfl) rfl hl.1 rfl (Nat.le_of_ble_eq_true rfl) ⟨rfl, rfl⟩ ⟨Nat.le_of_ble_eq_true rfl, Nat.le_of_ble_eq_true rfl⟩ dX6_load_3) (fun H locs hP hS => ?_)
  refine lv_if_eq (tgt := 20) hx hb dX6_load_6 (by decide) (fun c3 => ?_) (fun c3 => ?_)
  · replace hF := (if_pos c3).symm.trans hF
    refine lv_iconst (v := 0) hx hb dX6_load_20 (by decide) ?_
    refine lv_istore_n (lv' := [(2, .int 0), (0, .ref (ad G 0)), (1, .int a1)]) hx hb dX6_load_21 rfl hl (by decide) rfl (fun ls hl => ?_)
    exact l_X6_load_22 M _ _ fu a1 0 _ _ _ ls hF hP hS (lv_sub hl [1, 2, 0] rfl)
  · replace hF := (if_neg c3).symm.trans hF
    refine lv_aload_n hx hb dX6_load_9 rfl (lv_at hl 0 rfl) ?_
    refine lv_aload_n hx hb dX6_load_10 rfl (lv_at hl 0 rfl) ?_
    refine lv_iload_n hx hb dX6_load_11 rfl (lv_at hl 1 rfl) ?_
    refine lv_iconst (v := 1) hx hb dX6_load_12 (by decide) ?_
    obtain ⟨r16, h15, hF⟩ := bi_some hF
    refine k_i hS (kV_run M hS hP ok_X6_238 (c_X6_lacks l G a1 1 v r16 h15) (rc_6 M hP rfl) rfl hl.1 rfl (Nat.le_of_ble_eq_true rfl) ⟨rfl, rfl⟩ ⟨Nat.le_of_ble_eq_true rfl, Nat.le_of_ble_eq_true rfl⟩ dX6_load_13) (fun H locs hP hS => ?_)
    obtain ⟨⟨r18, v19⟩, h17, hF⟩ := bi_some hF
    dsimp only at hF
    refine k_i hS (kV_run M hS hP ok_X6_66 (c_X6_finding l G r16 v r18 v19 h17) (rc_6 M hP rfl) rfl hl.1 rfl (Nat.le_of_ble_eq_true rfl) ⟨rfl, rfl⟩ ⟨Nat.le_of_ble_eq_true rfl, Nat.le_of_ble_eq_true rfl⟩ dX6_load_16) (fun H locs hP hS => ?_)
    exact ret_i M hS hP (Option.some.inj hF) dX6_load_19
def L_X6_judge_22 : Nat → Int32 → Int32 → VV → Option (Int32 × VV)
  | 0, _, _, _ => none
  | n + 1, x1, x2, v =>
  gu (gI x1 4) ((if (v 8 ((x1).toNatClampNeg)) ≤ x2 then (gu (gI x1 4) ((if x2 = (v 8 ((x1).toNatClampNeg)) then (some (0, v)) else (some (1 + x2, v))))) else (Option.bind (F_X6_isChild x2 v) (fun r9 => (if r9 = true then (gu (gI ((40 * x1) + x2) 160) (Option.bind (F_X6_childIs x2 2 v) (fun r15 => (if (v 9 (((40 * x1) + x2).toNatClampNeg)) = r15 then (L_X6_judge_22 n x1 (x2 + 1) v) else (gu (gI x1 4) ((if x2 = (v 8 ((x1).toNatClampNeg)) then (some (0, v)) else (some (1 + x2, v))))))))) else (gu (gI x1 4) ((if x2 = (v 8 ((x1).toNatClampNeg)) then (some (0, v)) else (some (1 + x2, v))))))))))
def F_X6_judge (a1 : Int32) (v : VV) : Option (Int32 × VV) :=
  Option.bind (F_X6_lacks a1 1 v) (fun r2 => (if r2 = 0 then (L_X6_judge_22 fu a1 0 v) else (Option.bind (F_X6_lacks a1 1 v) (fun r20 => Option.bind (F_X6_finding r20 v) (fun (r22, v23) => some (r22, v23))))))
set_option maxHeartbeats 4000000 in
set_option maxRecDepth 100000 in
theorem l_X6_judge_22 {p : Program} {l : Launch} {e : Env} {s : State} {m : MethodId} {args : Array Value} {below : List Frame} {meth : Method} {c : Code} {G : GG} (M : Mx G RX6 cX6_judge 3 (some .int) p s m args meth c) (r : Int32) (v' : VV) : ∀ (n : Nat) (x1 : Int32) (x2 : Int32) (v : VV) (H : Heap) (locs : List Loc) (ls : Array Slot), L_X6_judge_22 n x1 x2 v = some (r, v') → Wd G v H → va_S (gA G) s.heap H locs → lv_has ls 3 [(0, .ref (ad G 0)), (1, .int x1), (2, .int x2)] → W p l e ({ frames := 3, cells := 0, slots := 0, locals := 64 } : Room) s m args below meth c H locs 0 0 (MQ below (QI G r v') args s 0 0 (gA G)) (F0 m 22 ls []) := by
  have hx := M.1.1
  have hb := M.1.2.1
  intro n
  induction n with
  | zero =>
    intro x1 x2 v H locs ls hF hP hS hl
    rw [L_X6_judge_22] at hF
    cases hF
  | succ n ih =>
    intro x1 x2 v H locs ls hF hP hS hl
    rw [L_X6_judge_22] at hF
    refine lv_iload_n hx hb dX6_judge_22 rfl (lv_at hl 2 rfl) ?_
    refine lv_aload_n hx hb dX6_judge_23 rfl (lv_at hl 0 rfl) ?_
    refine fg_6_51 M hP dX6_judge_24 ?_
    refine lv_iload_n hx hb dX6_judge_27 rfl (lv_at hl 1 rfl) ?_
    obtain ⟨g4, hF⟩ := gu_some hF
    refine r_iald (k := (x1).toNatClampNeg) M hP rfl rfl (in_c g4) rfl dX6_judge_28 ?_
    refine lv_icmp_ge (tgt := 66) hx hb dX6_judge_29 (by decide) (fun c5 => ?_) (fun c5 => ?_)
    · replace hF := (if_pos c5).symm.trans hF
      refine lv_iload_n hx hb dX6_judge_66 rfl (lv_at hl 2 rfl) ?_
      refine lv_aload_n hx hb dX6_judge_67 rfl (lv_at hl 0 rfl) ?_
      refine fg_6_51 M hP dX6_judge_68 ?_
      refine lv_iload_n hx hb dX6_judge_71 rfl (lv_at hl 1 rfl) ?_
      obtain ⟨g6, hF⟩ := gu_some hF
      refine r_iald (k := (x1).toNatClampNeg) M hP rfl rfl (in_c g6) rfl dX6_judge_72 ?_
      refine lv_icmp_ne (tgt := 80) hx hb dX6_judge_73 (by decide) (fun c7 => ?_) (fun c7 => ?_)
      · replace hF := (if_neg c7).symm.trans hF
        refine lv_iconst (v := 1) hx hb dX6_judge_80 (by decide) ?_
        refine lv_iload_n hx hb dX6_judge_81 rfl (lv_at hl 2 rfl) ?_
        refine lv_iadd hx hb dX6_judge_82 ?_
        exact ret_i M hS hP (Option.some.inj hF) dX6_judge_83
      · replace hF := (if_pos c7).symm.trans hF
        refine lv_iconst (v := 0) hx hb dX6_judge_76 (by decide) ?_
        refine lv_goto (tgt := 83) hx hb dX6_judge_77 (by decide) ?_
        exact ret_i M hS hP (Option.some.inj hF) dX6_judge_83
    · replace hF := (if_neg c5).symm.trans hF
      refine lv_aload_n hx hb dX6_judge_32 rfl (lv_at hl 0 rfl) ?_
      refine lv_iload_n hx hb dX6_judge_33 rfl (lv_at hl 2 rfl) ?_
      obtain ⟨r9, h8, hF⟩ := bi_some hF
      refine k_i hS (kV_run M hS hP ok_X6_144 (c_X6_isChild l G x2 v r9 h8) (rc_6 M hP rfl) rfl hl.1 rfl (Nat.le_of_ble_eq_true rfl) ⟨rfl, rfl⟩ ⟨Nat.le_of_ble_eq_true rfl, Nat.le_of_ble_eq_true rfl⟩ dX6_judge_34) (fun H locs hP hS => ?_)
      refine lv_if_eq (tgt := 66) hx hb dX6_judge_37 (by decide) (fun c10 => ?_) (fun c10 => ?_)
      · replace hF := (if_neg (bI_f c10)).symm.trans hF
        refine lv_iload_n hx hb dX6_judge_66 rfl (lv_at hl 2 rfl) ?_
        refine lv_aload_n hx hb dX6_judge_67 rfl (lv_at hl 0 rfl) ?_
        refine fg_6_51 M hP dX6_judge_68 ?_
        refine lv_iload_n hx hb dX6_judge_71 rfl (lv_at hl 1 rfl) ?_
        obtain ⟨g11, hF⟩ := gu_some hF
        refine r_iald (k := (x1).toNatClampNeg) M hP rfl rfl (in_c g11) rfl dX6_judge_72 ?_
        refine lv_icmp_ne (tgt := 80) hx hb dX6_judge_73 (by decide) (fun c12 => ?_) (fun c12 => ?_)
        · replace hF := (if_neg c12).symm.trans hF
          refine lv_iconst (v := 1) hx hb dX6_judge_80 (by decide) ?_
          refine lv_iload_n hx hb dX6_judge_81 rfl (lv_at hl 2 rfl) ?_
          refine lv_iadd hx hb dX6_judge_82 ?_
          exact ret_i M hS hP (Option.some.inj hF) dX6_judge_83
        · replace hF := (if_pos c12).symm.trans hF
          refine lv_iconst (v := 0) hx hb dX6_judge_76 (by decide) ?_
          refine lv_goto (tgt := 83) hx hb dX6_judge_77 (by decide) ?_
          exact ret_i M hS hP (Option.some.inj hF) dX6_judge_83
      · replace hF := (if_pos (bI_t c10)).symm.trans hF
        refine lv_aload_n hx hb dX6_judge_40 rfl (lv_at hl 0 rfl) ?_
        refine fg_6_54 M hP dX6_judge_41 ?_
        refine lv_bipush (v := 40) hx hb dX6_judge_44 (by decide) ?_
        refine lv_iload_n hx hb dX6_judge_46 rfl (lv_at hl 1 rfl) ?_
        refine lv_imul hx hb dX6_judge_47 ?_
        refine lv_iload_n hx hb dX6_judge_48 rfl (lv_at hl 2 rfl) ?_
        refine lv_iadd hx hb dX6_judge_49 ?_
        obtain ⟨g13, hF⟩ := gu_some hF
        refine r_iald (k := ((40 * x1) + x2).toNatClampNeg) M hP rfl rfl (in_c g13) rfl dX6_judge_50 ?_
        refine lv_aload_n hx hb dX6_judge_51 rfl (lv_at hl 0 rfl) ?_
        refine lv_iload_n hx hb dX6_judge_52 rfl (lv_at hl 2 rfl) ?_
        refine lv_iconst (v := 2) hx hb dX6_judge_53 (by decide) ?_
        obtain ⟨r15, h14, hF⟩ := bi_some hF
        refine k_i hS (kV_run M hS hP ok_X6_147 (c_X6_childIs l G x2 2 v r15 h14) (rc_6 M hP rfl) rfl hl.1 rfl (Nat.le_of_ble_eq_true rfl) ⟨rfl, rfl⟩ ⟨Nat.le_of_ble_eq_true rfl, Nat.le_of_ble_eq_true rfl⟩ dX6_judge_54) (fun H locs hP hS => ?_)
        refine lv_icmp_ne (tgt := 66) hx hb dX6_judge_57 (by decide) (fun c16 => ?_) (fun c16 => ?_)
        · replace hF := (if_neg c16).symm.trans hF
          refine lv_iload_n hx hb dX6_judge_66 rfl (lv_at hl 2 rfl) ?_
          refine lv_aload_n hx hb dX6_judge_67 rfl (lv_at hl 0 rfl) ?_
          refine fg_6_51 M hP dX6_judge_68 ?_
          refine lv_iload_n hx hb dX6_judge_71 rfl (lv_at hl 1 rfl) ?_
          obtain ⟨g17, hF⟩ := gu_some hF
          refine r_iald (k := (x1).toNatClampNeg) M hP rfl rfl (in_c g17) rfl dX6_judge_72 ?_
          refine lv_icmp_ne (tgt := 80) hx hb dX6_judge_73 (by decide) (fun c18 => ?_) (fun c18 => ?_)
          · replace hF := (if_neg c18).symm.trans hF
            refine lv_iconst (v := 1) hx hb dX6_judge_80 (by decide) ?_
            refine lv_iload_n hx hb dX6_judge_81 rfl (lv_at hl 2 rfl) ?_
            refine lv_iadd hx hb dX6_judge_82 ?_
            exact ret_i M hS hP (Option.some.inj hF) dX6_judge_83
          · replace hF := (if_pos c18).symm.trans hF
            refine lv_iconst (v := 0) hx hb dX6_judge_76 (by decide) ?_
            refine lv_goto (tgt := 83) hx hb dX6_judge_77 (by decide) ?_
            exact ret_i M hS hP (Option.some.inj hF) dX6_judge_83
        · replace hF := (if_pos c16).symm.trans hF
          refine lv_iinc (v := (x2 + 1)) (lv' := [(2, .int (x2 + 1)), (0, .ref (ad G 0)), (1, .int x1)]) hx hb dX6_judge_60 hl (k := 2) rfl (iinc_eq _ (by decide)) (by decide) rfl (fun ls hl => ?_)
          refine lv_goto (tgt := 22) hx hb dX6_judge_63 (by decide) ?_
          exact ih x1 (x2 + 1) _ _ _ ls hF hP hS (lv_sub hl [1, 2, 0] rfl)
set_option maxHeartbeats 4000000 in
set_option maxRecDepth 100000 in
theorem c_X6_judge (l : Launch) (G : GG) (a1 : Int32) (v : VV) (r : Int32) (v' : VV) (hF : F_X6_judge a1 v = some (r, v')) : Met l yX6_judge (cdW yX6_judge cX6_judge 3 (some .int)) ({ frames := 3, cells := 0, slots := 0, locals := 64 } : Room) (PC G v [.ref (ad G 0), .int a1]) (QI G r v') 0 0 (gA G) := by
  refine met_in RX6 (by decide) rfl (Nat.le_of_ble_eq_true rfl) ?_
  intro p e s m below meth c M hP ls hl
  have hx := M.1.1
  have hb := M.1.2.1
  have hS : va_S (gA G) s.heap s.heap [] := va_S.rf
  have hl : lv_has ls 3 [(0, .ref (ad G 0)), (1, .int a1)] := hl
  unfold F_X6_judge at hF
  refine lv_aload_n hx hb dX6_judge_0 rfl (lv_at hl 0 rfl) ?_
  refine lv_iload_n hx hb dX6_judge_1 rfl (lv_at hl 1 rfl) ?_
  refine lv_iconst (v := 1) hx hb dX6_judge_2 (by decide) ?_
  obtain ⟨r2, h1, hF⟩ := bi_some hF
  refine k_i hS (kV_run M hS hP ok_X6_238 (c_X6_lacks l G a1 1 v r2 h1) (rc_6 M hP rfl) rfl hl.1 rfl (Nat.le_of_ble_eq_true rfl) ⟨rfl, rfl⟩ ⟨Nat.le_of_ble_eq_true rfl, Nat.le_of_ble_eq_true rfl⟩ dX6_judge_3) (fun H locs hP hS => ?_)
  refine lv_if_eq (tgt := 20) hx hb dX6_judge_6 (by decide) (fun c3 => ?_) (fun c3 => ?_)
  · replace hF := (if_pos c3).symm.trans hF
    refine lv_iconst (v := 0) hx hb dX6_judge_20 (by decide) ?_
    refine lv_istore_n (lv' := [(2, .int 0), (0, .ref (ad G 0)), (1, .int a1)]) hx hb dX6_judge_21 rfl hl (by decide) rfl (fun ls hl => ?_)
    exact l_X6_judge_22 M _ _ fu a1 0 _ _ _ ls hF hP hS (lv_sub hl [1, 2, 0] rfl)
  · replace hF := (if_neg c3).symm.trans hF
    refine lv_aload_n hx hb dX6_judge_9 rfl (lv_at hl 0 rfl) ?_
    refine lv_aload_n hx hb dX6_judge_10 rfl (lv_at hl 0 rfl) ?_
    refine lv_iload_n hx hb dX6_judge_11 rfl (lv_at hl 1 rfl) ?_
    refine lv_iconst (v := 1) hx hb dX6_judge_12 (by decide) ?_
    obtain ⟨r20, h19, hF⟩ := bi_some hF
    refine k_i hS (kV_run M hS hP ok_X6_238 (c_X6_lacks l G a1 1 v r20 h19) (rc_6 M hP rfl) rfl hl.1 rfl (Nat.le_of_ble_eq_true rfl) ⟨rfl, rfl⟩ ⟨Nat.le_of_ble_eq_true rfl, Nat.le_of_ble_eq_true rfl⟩ dX6_judge_13) (fun H locs hP hS => ?_)
    obtain ⟨⟨r22, v23⟩, h21, hF⟩ := bi_some hF
    dsimp only at hF
    refine k_i hS (kV_run M hS hP ok_X6_66 (c_X6_finding l G r20 v r22 v23 h21) (rc_6 M hP rfl) rfl hl.1 rfl (Nat.le_of_ble_eq_true rfl) ⟨rfl, rfl⟩ ⟨Nat.le_of_ble_eq_true rfl, Nat.le_of_ble_eq_true rfl⟩ dX6_judge_16) (fun H locs hP hS => ?_)
    exact ret_i M hS hP (Option.some.inj hF) dX6_judge_19
def F_X6_image (v : VV) : Option (Int32 × VV) :=
  Option.bind (F_X6_copyRow 1 2 v) (fun v3 => some (1, pu v3 0 3 1))
set_option maxHeartbeats 4000000 in
set_option maxRecDepth 100000 in
theorem c_X6_image (l : Launch) (G : GG) (v : VV) (r : Int32) (v' : VV) (hF : F_X6_image v = some (r, v')) : Met l yX6_image (cdW yX6_image cX6_image 1 (some .int)) ({ frames := 1, cells := 0, slots := 0, locals := 22 } : Room) (PC G v [.ref (ad G 0)]) (QI G r v') 0 0 (gA G) := by
  refine met_in RX6 (by decide) rfl (Nat.le_of_ble_eq_true rfl) ?_
  intro p e s m below meth c M hP ls hl
  have hx := M.1.1
  have hb := M.1.2.1
  have hS : va_S (gA G) s.heap s.heap [] := va_S.rf
  have hl : lv_has ls 1 [(0, .ref (ad G 0))] := hl
  unfold F_X6_image at hF
  refine lv_aload_n hx hb dX6_image_0 rfl (lv_at hl 0 rfl) ?_
  refine fg_6_9 M hP dX6_image_1 ?_
  refine lv_aload_n hx hb dX6_image_4 rfl (lv_at hl 0 rfl) ?_
  refine fg_6_13 M hP dX6_image_5 ?_
  obtain ⟨v3, h1, hF⟩ := bi_some hF
  refine k_v hS (kS_run M hS hP ok_X6_61 (c_X6_copyRow l G 1 rfl 2 rfl v v3 h1) rfl hl.1 rfl (Nat.le_of_ble_eq_true rfl) ⟨rfl, rfl⟩ ⟨Nat.le_of_ble_eq_true rfl, Nat.le_of_ble_eq_true rfl⟩ dX6_image_8) (fun H locs hP hS => ?_)
  refine lv_aload_n hx hb dX6_image_11 rfl (lv_at hl 0 rfl) ?_
  refine lv_iconst (v := 1) hx hb dX6_image_12 (by decide) ?_
  refine fp_6_352 M hS hP rfl rfl dX6_image_13 (fun H locs hP hS => ?_)
  have hP : Wd G (pu v3 0 3 1) H := hP
  refine lv_iconst (v := 1) hx hb dX6_image_16 (by decide) ?_
  exact ret_i M hS hP (Option.some.inj hF) dX6_image_17
def F_X6_undo (v : VV) : Option (Int32 × VV) :=
  if (v 0 3) = 0 then (Option.bind (F_X6_finding (-1000004) v) (fun (r6, v7) => some (r6, v7))) else (Option.bind (F_X6_copyRow 2 1 v) (fun v4 => some (v4 1 0, v4)))
set_option maxHeartbeats 4000000 in
set_option maxRecDepth 100000 in
theorem c_X6_undo (l : Launch) (G : GG) (v : VV) (r : Int32) (v' : VV) (hF : F_X6_undo v = some (r, v')) : Met l yX6_undo (cdW yX6_undo cX6_undo 1 (some .int)) ({ frames := 1, cells := 0, slots := 0, locals := 22 } : Room) (PC G v [.ref (ad G 0)]) (QI G r v') 0 0 (gA G) := by
  refine met_in RX6 (by decide) rfl (Nat.le_of_ble_eq_true rfl) ?_
  intro p e s m below meth c M hP ls hl
  have hx := M.1.1
  have hb := M.1.2.1
  have hS : va_S (gA G) s.heap s.heap [] := va_S.rf
  have hl : lv_has ls 1 [(0, .ref (ad G 0))] := hl
  unfold F_X6_undo at hF
  refine lv_aload_n hx hb dX6_undo_0 rfl (lv_at hl 0 rfl) ?_
  refine fg_6_352 M hP dX6_undo_1 ?_
  refine lv_if_ne (tgt := 14) hx hb dX6_undo_4 (by decide) (fun c1 => ?_) (fun c1 => ?_)
  · replace hF := (if_neg c1).symm.trans hF
    refine lv_aload_n hx hb dX6_undo_14 rfl (lv_at hl 0 rfl) ?_
    refine fg_6_13 M hP dX6_undo_15 ?_
    refine lv_aload_n hx hb dX6_undo_18 rfl (lv_at hl 0 rfl) ?_
    refine fg_6_9 M hP dX6_undo_19 ?_
    obtain ⟨v4, h2, hF⟩ := bi_some hF
    refine k_v hS (kS_run M hS hP ok_X6_61 (c_X6_copyRow l G 2 rfl 1 rfl v v4 h2) rfl hl.1 rfl (Nat.le_of_ble_eq_true rfl) ⟨rfl, rfl⟩ ⟨Nat.le_of_ble_eq_true rfl, Nat.le_of_ble_eq_true rfl⟩ dX6_undo_22) (fun H locs hP hS => ?_)
    refine lv_aload_n hx hb dX6_undo_25 rfl (lv_at hl 0 rfl) ?_
    refine fg_6_9 M hP dX6_undo_26 ?_
    refine lv_iconst (v := 0) hx hb dX6_undo_29 (by decide) ?_
    refine r_iald (k := 0) M hP rfl rfl (in_c rfl) rfl dX6_undo_30 ?_
    exact ret_i M hS hP (Option.some.inj hF) dX6_undo_31
  · replace hF := (if_pos c1).symm.trans hF
    refine lv_aload_n hx hb dX6_undo_7 rfl (lv_at hl 0 rfl) ?_
    refine lv_ldc (own := RX6) (v := (-1000004)) hx hb M.1.2.2.2.1 (M.1.2.2.2.2 (Cond.constant RX6 65 (-1000004)) w_1001) dX6_undo_8 ?_
    obtain ⟨⟨r6, v7⟩, h5, hF⟩ := bi_some hF
    dsimp only at hF
    refine k_i hS (kV_run M hS hP ok_X6_66 (c_X6_finding l G (-1000004) v r6 v7 h5) (rc_6 M hP rfl) rfl hl.1 rfl (Nat.le_of_ble_eq_true rfl) ⟨rfl, rfl⟩ ⟨Nat.le_of_ble_eq_true rfl, Nat.le_of_ble_eq_true rfl⟩ dX6_undo_10) (fun H locs hP hS => ?_)
    exact ret_i M hS hP (Option.some.inj hF) dX6_undo_13
def F_X6_tear (v : VV) : Option (Int32 × VV) :=
  if (v 0 3) = 0 then (some (0, pu v 0 3 0)) else (some (1, pu v 0 3 0))
set_option maxHeartbeats 4000000 in
set_option maxRecDepth 100000 in
theorem c_X6_tear (l : Launch) (G : GG) (v : VV) (r : Int32) (v' : VV) (hF : F_X6_tear v = some (r, v')) : Met l yX6_tear (cdW yX6_tear cX6_tear 2 (some .int)) ({ frames := 0, cells := 0, slots := 0, locals := 0 } : Room) (PC G v [.ref (ad G 0)]) (QI G r v') 0 0 (gA G) := by
  refine met_in RX6 (by decide) rfl (Nat.le_of_ble_eq_true rfl) ?_
  intro p e s m below meth c M hP ls hl
  have hx := M.1.1
  have hb := M.1.2.1
  have hS : va_S (gA G) s.heap s.heap [] := va_S.rf
  have hl : lv_has ls 2 [(0, .ref (ad G 0))] := hl
  unfold F_X6_tear at hF
  refine lv_aload_n hx hb dX6_tear_0 rfl (lv_at hl 0 rfl) ?_
  refine fg_6_352 M hP dX6_tear_1 ?_
  refine lv_if_eq (tgt := 11) hx hb dX6_tear_4 (by decide) (fun c1 => ?_) (fun c1 => ?_)
  · replace hF := (if_pos c1).symm.trans hF
    refine lv_iconst (v := 0) hx hb dX6_tear_11 (by decide) ?_
    refine lv_istore_n (lv' := [(1, .int 0), (0, .ref (ad G 0))]) hx hb dX6_tear_12 rfl hl (by decide) rfl (fun ls hl => ?_)
    refine lv_aload_n hx hb dX6_tear_13 rfl (lv_at hl 1 rfl) ?_
    refine lv_iconst (v := 0) hx hb dX6_tear_14 (by decide) ?_
    refine fp_6_352 M hS hP rfl rfl dX6_tear_15 (fun H locs hP hS => ?_)
    have hP : Wd G (pu v 0 3 0) H := hP
    refine lv_iload_n hx hb dX6_tear_18 rfl (lv_at hl 0 rfl) ?_
    exact ret_i M hS hP (Option.some.inj hF) dX6_tear_19
  · replace hF := (if_neg c1).symm.trans hF
    refine lv_iconst (v := 1) hx hb dX6_tear_7 (by decide) ?_
    refine lv_goto (tgt := 12) hx hb dX6_tear_8 (by decide) ?_
    refine lv_istore_n (lv' := [(1, .int 1), (0, .ref (ad G 0))]) hx hb dX6_tear_12 rfl hl (by decide) rfl (fun ls hl => ?_)
    refine lv_aload_n hx hb dX6_tear_13 rfl (lv_at hl 1 rfl) ?_
    refine lv_iconst (v := 0) hx hb dX6_tear_14 (by decide) ?_
    refine fp_6_352 M hS hP rfl rfl dX6_tear_15 (fun H locs hP hS => ?_)
    have hP : Wd G (pu v 0 3 0) H := hP
    refine lv_iload_n hx hb dX6_tear_18 rfl (lv_at hl 0 rfl) ?_
    exact ret_i M hS hP (Option.some.inj hF) dX6_tear_19
def L_X6_count_93 : Nat → Int32 → Int32 → Int32 → VV → Option (Int32 × VV)
  | 0, _, _, _, _ => none
  | n + 1, x1, x2, x3, v =>
  if 10 ≤ x3 then (some (x2, v)) else (gu (gI (10 + x3) 92) ((if 0 ≤ (v 1 ((10 + x3).toNatClampNeg)) then (L_X6_count_93 n x1 (x2 + 1) (x3 + 1) v) else (L_X6_count_93 n x1 (x2 + 0) (x3 + 1) v))))
def F_X6_count (a1 : Int32) (v : VV) : Option (Int32 × VV) :=
  if a1 = 0 then (some (v 1 0, v)) else (if a1 = 1 then (some (v 1 1, v)) else (if a1 = 2 then (some (v 1 3, v)) else (if a1 = 3 then (Option.bind (F_X6_learntInAll v) (fun r6 => some (r6, v))) else (if a1 = 4 then (Option.bind (F_X6_tiredInAll v) (fun r9 => some (r9, v))) else (if a1 = 5 then (some (v 0 6, v)) else (if a1 = 6 then (some (v 1 2, v)) else (if a1 = 7 then (L_X6_count_93 fu a1 0 0 v) else (Option.bind (F_X6_finding (-1000001) v) (fun (r17, v18) => some (r17, v18))))))))))
set_option maxHeartbeats 4000000 in
set_option maxRecDepth 100000 in
theorem l_X6_count_93 {p : Program} {l : Launch} {e : Env} {s : State} {m : MethodId} {args : Array Value} {below : List Frame} {meth : Method} {c : Code} {G : GG} (M : Mx G RX6 cX6_count 4 (some .int) p s m args meth c) (r : Int32) (v' : VV) : ∀ (n : Nat) (x1 : Int32) (x2 : Int32) (x3 : Int32) (v : VV) (H : Heap) (locs : List Loc) (ls : Array Slot), L_X6_count_93 n x1 x2 x3 v = some (r, v') → Wd G v H → va_S (gA G) s.heap H locs → lv_has ls 4 [(0, .ref (ad G 0)), (1, .int x1), (2, .int x2), (3, .int x3)] → W p l e ({ frames := 3, cells := 0, slots := 0, locals := 65 } : Room) s m args below meth c H locs 0 0 (MQ below (QI G r v') args s 0 0 (gA G)) (F0 m 93 ls []) := by
  have hx := M.1.1
  have hb := M.1.2.1
  intro n
  induction n with
  | zero =>
    intro x1 x2 x3 v H locs ls hF hP hS hl
    rw [L_X6_count_93] at hF
    cases hF
  | succ n ih =>
    intro x1 x2 x3 v H locs ls hF hP hS hl
    rw [L_X6_count_93] at hF
    refine lv_iload_n hx hb dX6_count_93 rfl (lv_at hl 3 rfl) ?_
    refine lv_bipush (v := 10) hx hb dX6_count_94 (by decide) ?_
    refine lv_icmp_ge (tgt := 125) hx hb dX6_count_96 (by decide) (fun c13 => ?_) (fun c13 => ?_)
    · replace hF := (if_pos c13).symm.trans hF
      refine lv_iload_n hx hb dX6_count_125 rfl (lv_at hl 2 rfl) ?_
      exact ret_i M hS hP (Option.some.inj hF) dX6_count_126
    · replace hF := (if_neg c13).symm.trans hF
      refine lv_iload_n hx hb dX6_count_99 rfl (lv_at hl 2 rfl) ?_
      refine lv_aload_n hx hb dX6_count_100 rfl (lv_at hl 0 rfl) ?_
      refine fg_6_9 M hP dX6_count_101 ?_
      refine lv_bipush (v := 10) hx hb dX6_count_104 (by decide) ?_
      refine lv_iload_n hx hb dX6_count_106 rfl (lv_at hl 3 rfl) ?_
      refine lv_iadd hx hb dX6_count_107 ?_
      obtain ⟨g14, hF⟩ := gu_some hF
      refine r_iald (k := (10 + x3).toNatClampNeg) M hP rfl rfl (in_c g14) rfl dX6_count_108 ?_
      refine lv_if_ge (tgt := 116) hx hb dX6_count_109 (by decide) (fun c15 => ?_) (fun c15 => ?_)
      · replace hF := (if_pos c15).symm.trans hF
        refine lv_iconst (v := 1) hx hb dX6_count_116 (by decide) ?_
        refine lv_iadd hx hb dX6_count_117 ?_
        refine lv_istore_n (lv' := [(2, .int (x2 + 1)), (0, .ref (ad G 0)), (1, .int x1), (3, .int x3)]) hx hb dX6_count_118 rfl hl (by decide) rfl (fun ls hl => ?_)
        refine lv_iinc (v := (x3 + 1)) (lv' := [(3, .int (x3 + 1)), (2, .int (x2 + 1)), (0, .ref (ad G 0)), (1, .int x1)]) hx hb dX6_count_119 hl (k := 3) rfl (iinc_eq _ (by decide)) (by decide) rfl (fun ls hl => ?_)
        refine lv_goto (tgt := 93) hx hb dX6_count_122 (by decide) ?_
        exact ih x1 (x2 + 1) (x3 + 1) _ _ _ ls hF hP hS (lv_sub hl [2, 3, 1, 0] rfl)
      · replace hF := (if_neg c15).symm.trans hF
        refine lv_iconst (v := 0) hx hb dX6_count_112 (by decide) ?_
        refine lv_goto (tgt := 117) hx hb dX6_count_113 (by decide) ?_
        refine lv_iadd hx hb dX6_count_117 ?_
        refine lv_istore_n (lv' := [(2, .int (x2 + 0)), (0, .ref (ad G 0)), (1, .int x1), (3, .int x3)]) hx hb dX6_count_118 rfl hl (by decide) rfl (fun ls hl => ?_)
        refine lv_iinc (v := (x3 + 1)) (lv' := [(3, .int (x3 + 1)), (2, .int (x2 + 0)), (0, .ref (ad G 0)), (1, .int x1)]) hx hb dX6_count_119 hl (k := 3) rfl (iinc_eq _ (by decide)) (by decide) rfl (fun ls hl => ?_)
        refine lv_goto (tgt := 93) hx hb dX6_count_122 (by decide) ?_
        exact ih x1 (x2 + 0) (x3 + 1) _ _ _ ls hF hP hS (lv_sub hl [2, 3, 1, 0] rfl)
set_option maxHeartbeats 4000000 in
set_option maxRecDepth 100000 in
theorem c_X6_count (l : Launch) (G : GG) (a1 : Int32) (v : VV) (r : Int32) (v' : VV) (hF : F_X6_count a1 v = some (r, v')) : Met l yX6_count (cdW yX6_count cX6_count 4 (some .int)) ({ frames := 3, cells := 0, slots := 0, locals := 65 } : Room) (PC G v [.ref (ad G 0), .int a1]) (QI G r v') 0 0 (gA G) := by
  refine met_in RX6 (by decide) rfl (Nat.le_of_ble_eq_true rfl) ?_
  intro p e s m below meth c M hP ls hl
  have hx := M.1.1
  have hb := M.1.2.1
  have hS : va_S (gA G) s.heap s.heap [] := va_S.rf
  have hl : lv_has ls 4 [(0, .ref (ad G 0)), (1, .int a1)] := hl
  unfold F_X6_count at hF
  refine lv_iconst (v := 0) hx hb dX6_count_0 (by decide) ?_
  refine lv_istore_n (lv' := [(2, .int 0), (0, .ref (ad G 0)), (1, .int a1)]) hx hb dX6_count_1 rfl hl (by decide) rfl (fun ls hl => ?_)
  refine lv_iload_n hx hb dX6_count_2 rfl (lv_at hl 2 rfl) ?_
  rcases Decidable.em (a1 = 0) with c1 | c1
  · replace hF := (if_pos c1).symm.trans hF
    refine lv_tableIn (tgt := 48) hx hb dX6_count_3 (by rw [c1]; decide) (by rw [c1]; decide) (by rw [c1]; rfl) (by decide) ?_
    refine lv_aload_n hx hb dX6_count_48 rfl (lv_at hl 1 rfl) ?_
    refine fg_6_9 M hP dX6_count_49 ?_
    refine lv_iconst (v := 0) hx hb dX6_count_52 (by decide) ?_
    refine r_iald (k := 0) M hP rfl rfl (in_c rfl) rfl dX6_count_53 ?_
    exact ret_i M hS hP (Option.some.inj hF) dX6_count_54
  · replace hF := (if_neg c1).symm.trans hF
    rcases Decidable.em (a1 = 1) with c2 | c2
    · replace hF := (if_pos c2).symm.trans hF
      refine lv_tableIn (tgt := 55) hx hb dX6_count_3 (by rw [c2]; decide) (by rw [c2]; decide) (by rw [c2]; rfl) (by decide) ?_
      refine lv_aload_n hx hb dX6_count_55 rfl (lv_at hl 1 rfl) ?_
      refine fg_6_9 M hP dX6_count_56 ?_
      refine lv_iconst (v := 1) hx hb dX6_count_59 (by decide) ?_
      refine r_iald (k := 1) M hP rfl rfl (in_c rfl) rfl dX6_count_60 ?_
      exact ret_i M hS hP (Option.some.inj hF) dX6_count_61
    · replace hF := (if_neg c2).symm.trans hF
      rcases Decidable.em (a1 = 2) with c3 | c3
      · replace hF := (if_pos c3).symm.trans hF
        refine lv_tableIn (tgt := 62) hx hb dX6_count_3 (by rw [c3]; decide) (by rw [c3]; decide) (by rw [c3]; rfl) (by decide) ?_
        refine lv_aload_n hx hb dX6_count_62 rfl (lv_at hl 1 rfl) ?_
        refine fg_6_9 M hP dX6_count_63 ?_
        refine lv_iconst (v := 3) hx hb dX6_count_66 (by decide) ?_
        refine r_iald (k := 3) M hP rfl rfl (in_c rfl) rfl dX6_count_67 ?_
        exact ret_i M hS hP (Option.some.inj hF) dX6_count_68
      · replace hF := (if_neg c3).symm.trans hF
        rcases Decidable.em (a1 = 3) with c4 | c4
        · replace hF := (if_pos c4).symm.trans hF
          refine lv_tableIn (tgt := 69) hx hb dX6_count_3 (by rw [c4]; decide) (by rw [c4]; decide) (by rw [c4]; rfl) (by decide) ?_
          refine lv_aload_n hx hb dX6_count_69 rfl (lv_at hl 1 rfl) ?_
          obtain ⟨r6, h5, hF⟩ := bi_some hF
          refine k_i hS (kV_run M hS hP ok_X6_188 (c_X6_learntInAll l G v r6 h5) (rc_6 M hP rfl) rfl hl.1 rfl (Nat.le_of_ble_eq_true rfl) ⟨rfl, rfl⟩ ⟨Nat.le_of_ble_eq_true rfl, Nat.le_of_ble_eq_true rfl⟩ dX6_count_70) (fun H locs hP hS => ?_)
          exact ret_i M hS hP (Option.some.inj hF) dX6_count_73
        · replace hF := (if_neg c4).symm.trans hF
          rcases Decidable.em (a1 = 4) with c7 | c7
          · replace hF := (if_pos c7).symm.trans hF
            refine lv_tableIn (tgt := 74) hx hb dX6_count_3 (by rw [c7]; decide) (by rw [c7]; decide) (by rw [c7]; rfl) (by decide) ?_
            refine lv_aload_n hx hb dX6_count_74 rfl (lv_at hl 1 rfl) ?_
            obtain ⟨r9, h8, hF⟩ := bi_some hF
            refine k_i hS (kV_run M hS hP ok_X6_197 (c_X6_tiredInAll l G v r9 h8) (rc_6 M hP rfl) rfl hl.1 rfl (Nat.le_of_ble_eq_true rfl) ⟨rfl, rfl⟩ ⟨Nat.le_of_ble_eq_true rfl, Nat.le_of_ble_eq_true rfl⟩ dX6_count_75) (fun H locs hP hS => ?_)
            exact ret_i M hS hP (Option.some.inj hF) dX6_count_78
          · replace hF := (if_neg c7).symm.trans hF
            rcases Decidable.em (a1 = 5) with c10 | c10
            · replace hF := (if_pos c10).symm.trans hF
              refine lv_tableIn (tgt := 79) hx hb dX6_count_3 (by rw [c10]; decide) (by rw [c10]; decide) (by rw [c10]; rfl) (by decide) ?_
              refine lv_aload_n hx hb dX6_count_79 rfl (lv_at hl 1 rfl) ?_
              refine fg_6_250 M hP dX6_count_80 ?_
              exact ret_i M hS hP (Option.some.inj hF) dX6_count_83
            · replace hF := (if_neg c10).symm.trans hF
              rcases Decidable.em (a1 = 6) with c11 | c11
              · replace hF := (if_pos c11).symm.trans hF
                refine lv_tableIn (tgt := 84) hx hb dX6_count_3 (by rw [c11]; decide) (by rw [c11]; decide) (by rw [c11]; rfl) (by decide) ?_
                refine lv_aload_n hx hb dX6_count_84 rfl (lv_at hl 1 rfl) ?_
                refine fg_6_9 M hP dX6_count_85 ?_
                refine lv_iconst (v := 2) hx hb dX6_count_88 (by decide) ?_
                refine r_iald (k := 2) M hP rfl rfl (in_c rfl) rfl dX6_count_89 ?_
                exact ret_i M hS hP (Option.some.inj hF) dX6_count_90
              · replace hF := (if_neg c11).symm.trans hF
                rcases Decidable.em (a1 = 7) with c12 | c12
                · replace hF := (if_pos c12).symm.trans hF
                  refine lv_tableIn (tgt := 91) hx hb dX6_count_3 (by rw [c12]; decide) (by rw [c12]; decide) (by rw [c12]; rfl) (by decide) ?_
                  refine lv_iconst (v := 0) hx hb dX6_count_91 (by decide) ?_
                  refine lv_istore_n (lv' := [(3, .int 0), (2, .int 0), (0, .ref (ad G 0)), (1, .int a1)]) hx hb dX6_count_92 rfl hl (by decide) rfl (fun ls hl => ?_)
                  exact l_X6_count_93 M _ _ fu a1 0 0 _ _ _ ls hF hP hS (lv_sub hl [2, 3, 1, 0] rfl)
                · replace hF := (if_neg c12).symm.trans hF
                  refine lv_tableOut (tgt := 127) hx hb dX6_count_3 (by have q0 := lv_neT (a := 0) c1 (by decide); have q1 := lv_neT (a := 1) c2 (by decide); have q2 := lv_neT (a := 2) c3 (by decide); have q3 := lv_neT (a := 3) c4 (by decide); have q4 := lv_neT (a := 4) c7 (by decide); have q5 := lv_neT (a := 5) c10 (by decide); have q6 := lv_neT (a := 6) c11 (by decide); have q7 := lv_neT (a := 7) c12 (by decide); omega) (by decide) ?_
                  refine lv_aload_n hx hb dX6_count_127 rfl (lv_at hl 1 rfl) ?_
                  refine lv_ldc (own := RX6) (v := (-1000001)) hx hb M.1.2.2.2.1 (M.1.2.2.2.2 (Cond.constant RX6 60 (-1000001)) w_788) dX6_count_128 ?_
                  obtain ⟨⟨r17, v18⟩, h16, hF⟩ := bi_some hF
                  dsimp only at hF
                  refine k_i hS (kV_run M hS hP ok_X6_66 (c_X6_finding l G (-1000001) v r17 v18 h16) (rc_6 M hP rfl) rfl hl.1 rfl (Nat.le_of_ble_eq_true rfl) ⟨rfl, rfl⟩ ⟨Nat.le_of_ble_eq_true rfl, Nat.le_of_ble_eq_true rfl⟩ dX6_count_130) (fun H locs hP hS => ?_)
                  exact ret_i M hS hP (Option.some.inj hF) dX6_count_133
def F_X6_status (a1 : Int32) (v : VV) : Option (Int32 × VV) :=
  Option.bind (F_X6_within a1 (-1) 6 v) (fun r2 => (if r2 = true then (gu (gI (a1 + 1) 8) (some (v 4 ((a1 + 1).toNatClampNeg), v))) else (Option.bind (F_X6_finding (-1000001) v) (fun (r5, v6) => some (r5, v6)))))
set_option maxHeartbeats 4000000 in
set_option maxRecDepth 100000 in
theorem c_X6_status (l : Launch) (G : GG) (a1 : Int32) (v : VV) (r : Int32) (v' : VV) (hF : F_X6_status a1 v = some (r, v')) : Met l yX6_status (cdW yX6_status cX6_status 2 (some .int)) ({ frames := 1, cells := 0, slots := 0, locals := 22 } : Room) (PC G v [.ref (ad G 0), .int a1]) (QI G r v') 0 0 (gA G) := by
  refine met_in RX6 (by decide) rfl (Nat.le_of_ble_eq_true rfl) ?_
  intro p e s m below meth c M hP ls hl
  have hx := M.1.1
  have hb := M.1.2.1
  have hS : va_S (gA G) s.heap s.heap [] := va_S.rf
  have hl : lv_has ls 2 [(0, .ref (ad G 0)), (1, .int a1)] := hl
  unfold F_X6_status at hF
  refine lv_iload_n hx hb dX6_status_0 rfl (lv_at hl 1 rfl) ?_
  refine lv_iconst (v := (-1)) hx hb dX6_status_1 (by decide) ?_
  refine lv_bipush (v := 6) hx hb dX6_status_2 (by decide) ?_
  obtain ⟨r2, h1, hF⟩ := bi_some hF
  refine k_i hS (kS_run M hS hP ok_X6_70 (c_X6_within l G a1 (-1) 6 v r2 h1) rfl hl.1 rfl (Nat.le_of_ble_eq_true rfl) ⟨rfl, rfl⟩ ⟨Nat.le_of_ble_eq_true rfl, Nat.le_of_ble_eq_true rfl⟩ dX6_status_4) (fun H locs hP hS => ?_)
  refine lv_if_eq (tgt := 21) hx hb dX6_status_7 (by decide) (fun c3 => ?_) (fun c3 => ?_)
  · replace hF := (if_neg (bI_f c3)).symm.trans hF
    refine lv_aload_n hx hb dX6_status_21 rfl (lv_at hl 0 rfl) ?_
    refine lv_ldc (own := RX6) (v := (-1000001)) hx hb M.1.2.2.2.1 (M.1.2.2.2.2 (Cond.constant RX6 60 (-1000001)) w_788) dX6_status_22 ?_
    obtain ⟨⟨r5, v6⟩, h4, hF⟩ := bi_some hF
    dsimp only at hF
    refine k_i hS (kV_run M hS hP ok_X6_66 (c_X6_finding l G (-1000001) v r5 v6 h4) (rc_6 M hP rfl) rfl hl.1 rfl (Nat.le_of_ble_eq_true rfl) ⟨rfl, rfl⟩ ⟨Nat.le_of_ble_eq_true rfl, Nat.le_of_ble_eq_true rfl⟩ dX6_status_24) (fun H locs hP hS => ?_)
    exact ret_i M hS hP (Option.some.inj hF) dX6_status_27
  · replace hF := (if_pos (bI_t c3)).symm.trans hF
    refine lv_aload_n hx hb dX6_status_10 rfl (lv_at hl 0 rfl) ?_
    refine fg_6_19 M hP dX6_status_11 ?_
    refine lv_iload_n hx hb dX6_status_14 rfl (lv_at hl 1 rfl) ?_
    refine lv_iconst (v := 1) hx hb dX6_status_15 (by decide) ?_
    refine lv_iadd hx hb dX6_status_16 ?_
    obtain ⟨g8, hF⟩ := gu_some hF
    refine r_iald (k := (a1 + 1).toNatClampNeg) M hP rfl rfl (in_c g8) rfl dX6_status_17 ?_
    refine lv_goto (tgt := 27) hx hb dX6_status_18 (by decide) ?_
    exact ret_i M hS hP (Option.some.inj hF) dX6_status_27
