theorem ok_X5_44 : okS RX5 44 yX5_isUpTo cX5_isUpTo 2 (some .boolean) 2 := okS_of w_171 w_172 w_1 w_173 (by decide +kernel)
theorem ok_X5_48 : okV RX5 48 RX5 yX5_finding cX5_finding 2 (some .int) 1 := okV_of w_174 w_176 w_2000 w_1 w_177 (by decide +kernel)
theorem ok_X5_55 : okV RX5 55 RX1 yX1_hasAllKeepers cX1_hasAllKeepers 1 (some .boolean) 0 := okV_of w_187 w_188 w_189 w_2 w_190 (by decide +kernel)
theorem ok_X5_59 : okV RX5 59 RX1 yX1_addKeeper cX1_addKeeper 3 (some .int) 2 := okV_of w_191 w_192 w_193 w_2 w_194 (by decide +kernel)
theorem ok_X5_63 : okV RX5 63 RX1 yX1_hasAllChildren cX1_hasAllChildren 1 (some .boolean) 0 := okV_of w_203 w_204 w_205 w_2 w_206 (by decide +kernel)
theorem ok_X5_66 : okV RX5 66 RX1 yX1_addChild cX1_addChild 3 (some .int) 2 := okV_of w_207 w_208 w_209 w_2 w_210 (by decide +kernel)
theorem ok_X5_69 : okV RX5 69 RX5 yX5_isKeeper cX5_isKeeper 2 (some .boolean) 1 := okV_of w_219 w_221 w_2001 w_1 w_222 (by decide +kernel)
theorem ok_X5_73 : okV RX5 73 RX1 yX1_toldOfKeeper cX1_toldOfKeeper 4 (some .int) 2 := okV_of w_223 w_224 w_225 w_2 w_226 (by decide +kernel)
theorem ok_X5_88 : okV RX5 88 RX5 yX5_isChild cX5_isChild 2 (some .boolean) 1 := okV_of w_268 w_270 w_2002 w_1 w_271 (by decide +kernel)
theorem ok_X5_103 : okV RX5 103 RX1 yX1_isHeard cX1_isHeard 4 (some .boolean) 3 := okV_of w_282 w_283 w_284 w_2 w_285 (by decide +kernel)
theorem ok_X5_111 : okV RX5 111 RX1 yX1_passDays cX1_passDays 3 none 1 := okV_of w_301 w_302 w_303 w_2 w_304 (by decide +kernel)
theorem ok_X5_115 : okV RX5 115 RX1 yX1_learntTogether cX1_learntTogether 3 (some .int) 0 := okV_of w_337 w_338 w_339 w_2 w_340 (by decide +kernel)
theorem ok_X5_119 : okV RX5 119 RX1 yX1_notesOfAll cX1_notesOfAll 4 (some .int) 1 := okV_of w_351 w_352 w_353 w_2 w_354 (by decide +kernel)
theorem ok_X5_122 : okV RX5 122 RX1 yX1_notesGiven cX1_notesGiven 3 (some .int) 0 := okV_of w_355 w_356 w_357 w_2 w_358 (by decide +kernel)
theorem ok_X5_125 : okV RX5 125 RX1 yX1_tiredTogether cX1_tiredTogether 3 (some .int) 0 := okV_of w_359 w_360 w_361 w_2 w_362 (by decide +kernel)
theorem ok_X5_128 : okV RX5 128 RX1 yX1_childrenWhoLearntAll cX1_childrenWhoLearntAll 3 (some .int) 0 := okV_of w_363 w_364 w_365 w_2 w_366 (by decide +kernel)
theorem ok_X5_131 : okV RX5 131 RX1 yX1_thickness cX1_thickness 1 (some .int) 0 := okV_of w_367 w_232 w_233 w_2 w_234 (by decide +kernel)
theorem ok_X5_134 : okV RX5 134 RX5 yX5_draftLoneKeeper cX5_draftLoneKeeper 2 none 1 := okV_of w_372 w_374 w_2003 w_1 w_375 (by decide +kernel)
theorem ok_X5_143 : okV RX5 143 RX1 yX1_become cX1_become 3 none 1 := okV_of w_376 w_377 w_378 w_2 w_379 (by decide +kernel)
theorem ok_X5_153 : okV RX5 153 RX1 yX1_leaveOnlyKeeper cX1_leaveOnlyKeeper 2 none 1 := okV_of w_383 w_384 w_385 w_2 w_386 (by decide +kernel)
theorem ok_X5_231 : okV RX5 231 RX1 yX1_leaveOnlyChild cX1_leaveOnlyChild 2 none 1 := okV_of w_395 w_396 w_397 w_2 w_398 (by decide +kernel)
def F_X5_finding (a1 : Int32) (v : VV) : Option (Int32 × VV) :=
  gu (gI a1 7) (gu (gI a1 7) (some ((-1000001) - a1, pu v 13 ((a1).toNatClampNeg) ((v 13 ((a1).toNatClampNeg)) + 1))))
set_option maxHeartbeats 4000000 in
set_option maxRecDepth 100000 in
theorem c_X5_finding (l : Launch) (G : GG) (a1 : Int32) (v : VV) (r : Int32) (v' : VV) (hF : F_X5_finding a1 v = some (r, v')) : Met l yX5_finding (cdW yX5_finding cX5_finding 2 (some .int)) ({ frames := 0, cells := 0, slots := 0, locals := 0 } : Room) (PC G v [.ref (ad G 12), .int a1]) (QI G r v') 0 0 (gA G) := by
  refine met_in RX5 (by decide) rfl (Nat.le_of_ble_eq_true rfl) ?_
  intro p e s m below meth c M hP ls hl
  have hx := M.1.1
  have hb := M.1.2.1
  have hS : va_S (gA G) s.heap s.heap [] := va_S.rf
  have hl : lv_has ls 2 [(0, .ref (ad G 12)), (1, .int a1)] := hl
  unfold F_X5_finding at hF
  refine lv_aload_n hx hb dX5_finding_0 rfl (lv_at hl 0 rfl) ?_
  refine fg_5_36 M hP dX5_finding_1 ?_
  refine lv_iload_n hx hb dX5_finding_4 rfl (lv_at hl 1 rfl) ?_
  refine lv_dup2_11 hx hb dX5_finding_5 rfl rfl ?_
  obtain ⟨g1, hF⟩ := gu_some hF
  refine r_iald (k := (a1).toNatClampNeg) M hP rfl rfl (in_c g1) rfl dX5_finding_6 ?_
  refine lv_iconst (v := 1) hx hb dX5_finding_7 (by decide) ?_
  refine lv_iadd hx hb dX5_finding_8 ?_
  obtain ⟨g2, hF⟩ := gu_some hF
  refine r_iast (k := (a1).toNatClampNeg) M hS hP rfl rfl (in_c g2) rfl dX5_finding_9 (fun H locs hP hS => ?_)
  have hP : Wd G (pu v 13 ((a1).toNatClampNeg) ((v 13 ((a1).toNatClampNeg)) + 1)) H := hP
  refine lv_ldc (own := RX5) (v := (-1000001)) hx hb M.1.2.2.2.1 (M.1.2.2.2.2 (Cond.constant RX5 230 (-1000001)) w_178) dX5_finding_10 ?_
  refine lv_iload_n hx hb dX5_finding_12 rfl (lv_at hl 1 rfl) ?_
  refine lv_isub hx hb dX5_finding_13 ?_
  exact ret_i M hS hP (Option.some.inj hF) dX5_finding_14
def F_X5_isUpTo (a0 : Int32) (a1 : Int32) (v : VV) : Option Bool :=
  if a0 < 0 then (some false) else (if a1 < a0 then (some false) else (some true))
set_option maxHeartbeats 4000000 in
set_option maxRecDepth 100000 in
theorem c_X5_isUpTo (l : Launch) (G : GG) (a0 : Int32) (a1 : Int32) (v : VV) (r : Bool) (hF : F_X5_isUpTo a0 a1 v = some r) : Met l yX5_isUpTo (cdW yX5_isUpTo cX5_isUpTo 2 (some .boolean)) ({ frames := 0, cells := 0, slots := 0, locals := 0 } : Room) (PC G v [.int a0, .int a1]) (QI G (bI r) v) 0 0 (gA G) := by
  refine met_in RX5 (by decide) rfl (Nat.le_of_ble_eq_true rfl) ?_
  intro p e s m below meth c M hP ls hl
  have hx := M.1.1
  have hb := M.1.2.1
  have hS : va_S (gA G) s.heap s.heap [] := va_S.rf
  have hl : lv_has ls 2 [(0, .int a0), (1, .int a1)] := hl
  unfold F_X5_isUpTo at hF
  refine lv_iload_n hx hb dX5_isUpTo_0 rfl (lv_at hl 0 rfl) ?_
  refine lv_if_lt (tgt := 13) hx hb dX5_isUpTo_1 (by decide) (fun c1 => ?_) (fun c1 => ?_)
  · replace hF := (if_pos c1).symm.trans hF
    refine lv_iconst (v := 0) hx hb dX5_isUpTo_13 (by decide) ?_
    exact ret_z M hS hP (congrArg (fun z : Bool => (bI z, v)) (Option.some.inj hF)) rfl dX5_isUpTo_14
  · replace hF := (if_neg c1).symm.trans hF
    refine lv_iload_n hx hb dX5_isUpTo_4 rfl (lv_at hl 0 rfl) ?_
    refine lv_iload_n hx hb dX5_isUpTo_5 rfl (lv_at hl 1 rfl) ?_
    refine lv_icmp_gt (tgt := 13) hx hb dX5_isUpTo_6 (by decide) (fun c2 => ?_) (fun c2 => ?_)
    · replace hF := (if_pos c2).symm.trans hF
      refine lv_iconst (v := 0) hx hb dX5_isUpTo_13 (by decide) ?_
      exact ret_z M hS hP (congrArg (fun z : Bool => (bI z, v)) (Option.some.inj hF)) rfl dX5_isUpTo_14
    · replace hF := (if_neg c2).symm.trans hF
      refine lv_iconst (v := 1) hx hb dX5_isUpTo_9 (by decide) ?_
      refine lv_goto (tgt := 14) hx hb dX5_isUpTo_10 (by decide) ?_
      exact ret_z M hS hP (congrArg (fun z : Bool => (bI z, v)) (Option.some.inj hF)) rfl dX5_isUpTo_14
def F_X5_fog (a1 : Int32) (a2 : Int32) (v : VV) : Option (Int32 × VV) :=
  Option.bind (F_X5_isUpTo a1 5 v) (fun r2 => (if r2 = true then (Option.bind (F_X5_isUpTo a2 9 v) (fun r9 => (if r9 = true then (gu (gI a1 6) (gu (gI a1 6) (some (v (25 + 1) ((a1).toNatClampNeg), pu v (25 + 1) ((a1).toNatClampNeg) a2)))) else (Option.bind (F_X5_finding 0 v) (fun (r14, v15) => some (r14, v15)))))) else (Option.bind (F_X5_finding 0 v) (fun (r5, v6) => some (r5, v6)))))
set_option maxHeartbeats 4000000 in
set_option maxRecDepth 100000 in
theorem c_X5_fog (l : Launch) (G : GG) (a1 : Int32) (a2 : Int32) (v : VV) (r : Int32) (v' : VV) (hF : F_X5_fog a1 a2 v = some (r, v')) : Met l yX5_fog (cdW yX5_fog cX5_fog 4 (some .int)) ({ frames := 1, cells := 0, slots := 0, locals := 21 } : Room) (PC G v [.ref (ad G 12), .int a1, .int a2]) (QI G r v') 0 0 (gA G) := by
  refine met_in RX5 (by decide) rfl (Nat.le_of_ble_eq_true rfl) ?_
  intro p e s m below meth c M hP ls hl
  have hx := M.1.1
  have hb := M.1.2.1
  have hS : va_S (gA G) s.heap s.heap [] := va_S.rf
  have hl : lv_has ls 4 [(0, .ref (ad G 12)), (1, .int a1), (2, .int a2)] := hl
  unfold F_X5_fog at hF
  refine lv_iload_n hx hb dX5_fog_0 rfl (lv_at hl 1 rfl) ?_
  refine lv_iconst (v := 5) hx hb dX5_fog_1 (by decide) ?_
  obtain ⟨r2, h1, hF⟩ := bi_some hF
  refine k_i hS (kS_run M hS hP ok_X5_44 (c_X5_isUpTo l G a1 5 v r2 h1) rfl hl.1 rfl (Nat.le_of_ble_eq_true rfl) ⟨rfl, rfl⟩ ⟨Nat.le_of_ble_eq_true rfl, Nat.le_of_ble_eq_true rfl⟩ dX5_fog_2) (fun H locs hP hS => ?_)
  refine lv_if_eq (tgt := 17) hx hb dX5_fog_5 (by decide) (fun c3 => ?_) (fun c3 => ?_)
  · replace hF := (if_neg (bI_f c3)).symm.trans hF
    refine lv_aload_n hx hb dX5_fog_17 rfl (lv_at hl 0 rfl) ?_
    refine lv_iconst (v := 0) hx hb dX5_fog_18 (by decide) ?_
    obtain ⟨⟨r5, v6⟩, h4, hF⟩ := bi_some hF
    dsimp only at hF
    refine k_i hS (kV_run M hS hP ok_X5_48 (c_X5_finding l G 0 v r5 v6 h4) (rc_5 M hP rfl) rfl hl.1 rfl (Nat.le_of_ble_eq_true rfl) ⟨rfl, rfl⟩ ⟨Nat.le_of_ble_eq_true rfl, Nat.le_of_ble_eq_true rfl⟩ dX5_fog_19) (fun H locs hP hS => ?_)
    exact ret_i M hS hP (Option.some.inj hF) dX5_fog_22
  · replace hF := (if_pos (bI_t c3)).symm.trans hF
    refine lv_iload_n hx hb dX5_fog_8 rfl (lv_at hl 2 rfl) ?_
    refine lv_bipush (v := 9) hx hb dX5_fog_9 (by decide) ?_
    obtain ⟨r9, h8, hF⟩ := bi_some hF
    refine k_i hS (kS_run M hS hP ok_X5_44 (c_X5_isUpTo l G a2 9 v r9 h8) rfl hl.1 rfl (Nat.le_of_ble_eq_true rfl) ⟨rfl, rfl⟩ ⟨Nat.le_of_ble_eq_true rfl, Nat.le_of_ble_eq_true rfl⟩ dX5_fog_11) (fun H locs hP hS => ?_)
    refine lv_if_ne (tgt := 23) hx hb dX5_fog_14 (by decide) (fun c10 => ?_) (fun c10 => ?_)
    · replace hF := (if_pos (bI_t c10)).symm.trans hF
      refine lv_aload_n hx hb dX5_fog_23 rfl (lv_at hl 0 rfl) ?_
      refine fg_5_10 M hP dX5_fog_24 ?_
      refine fg_5_52 M hP rfl dX5_fog_27 ?_
      refine lv_iload_n hx hb dX5_fog_30 rfl (lv_at hl 1 rfl) ?_
      obtain ⟨g11, hF⟩ := gu_some hF
      refine r_iald (k := (a1).toNatClampNeg) M hP (ge_1_1k (i := 25) rfl) (ge_1_1l (i := 25) rfl) (in_c g11) rfl dX5_fog_31 ?_
      refine lv_istore_n (lv' := [(3, .int (v (25 + 1) ((a1).toNatClampNeg))), (0, .ref (ad G 12)), (1, .int a1), (2, .int a2)]) hx hb dX5_fog_32 rfl hl (by decide) rfl (fun ls hl => ?_)
      refine lv_aload_n hx hb dX5_fog_33 rfl (lv_at hl 1 rfl) ?_
      refine fg_5_10 M hP dX5_fog_34 ?_
      refine fg_5_52 M hP rfl dX5_fog_37 ?_
      refine lv_iload_n hx hb dX5_fog_40 rfl (lv_at hl 2 rfl) ?_
      refine lv_iload_n hx hb dX5_fog_41 rfl (lv_at hl 3 rfl) ?_
      obtain ⟨g12, hF⟩ := gu_some hF
      refine r_iast (k := (a1).toNatClampNeg) M hS hP (ge_1_1k (i := 25) rfl) (ge_1_1l (i := 25) rfl) (in_c g12) rfl dX5_fog_42 (fun H locs hP hS => ?_)
      have hP : Wd G (pu v (25 + 1) ((a1).toNatClampNeg) a2) H := hP
      refine lv_iload_n hx hb dX5_fog_43 rfl (lv_at hl 0 rfl) ?_
      exact ret_i M hS hP (Option.some.inj hF) dX5_fog_44
    · replace hF := (if_neg (bI_f c10)).symm.trans hF
      refine lv_aload_n hx hb dX5_fog_17 rfl (lv_at hl 0 rfl) ?_
      refine lv_iconst (v := 0) hx hb dX5_fog_18 (by decide) ?_
      obtain ⟨⟨r14, v15⟩, h13, hF⟩ := bi_some hF
      dsimp only at hF
      refine k_i hS (kV_run M hS hP ok_X5_48 (c_X5_finding l G 0 v r14 v15 h13) (rc_5 M hP rfl) rfl hl.1 rfl (Nat.le_of_ble_eq_true rfl) ⟨rfl, rfl⟩ ⟨Nat.le_of_ble_eq_true rfl, Nat.le_of_ble_eq_true rfl⟩ dX5_fog_19) (fun H locs hP hS => ?_)
      exact ret_i M hS hP (Option.some.inj hF) dX5_fog_22
def F_X5_listed (a1 : Int32) (v : VV) : Option (Int32 × VV) :=
  Option.bind (F_X5_isUpTo a1 5 v) (fun r2 => (if r2 = true then (gu (gI a1 6) (some (v (25 + 1) ((a1).toNatClampNeg), v))) else (Option.bind (F_X5_finding 0 v) (fun (r6, v7) => some (r6, v7)))))
set_option maxHeartbeats 4000000 in
set_option maxRecDepth 100000 in
theorem c_X5_listed (l : Launch) (G : GG) (a1 : Int32) (v : VV) (r : Int32) (v' : VV) (hF : F_X5_listed a1 v = some (r, v')) : Met l yX5_listed (cdW yX5_listed cX5_listed 2 (some .int)) ({ frames := 1, cells := 0, slots := 0, locals := 21 } : Room) (PC G v [.ref (ad G 12), .int a1]) (QI G r v') 0 0 (gA G) := by
  refine met_in RX5 (by decide) rfl (Nat.le_of_ble_eq_true rfl) ?_
  intro p e s m below meth c M hP ls hl
  have hx := M.1.1
  have hb := M.1.2.1
  have hS : va_S (gA G) s.heap s.heap [] := va_S.rf
  have hl : lv_has ls 2 [(0, .ref (ad G 12)), (1, .int a1)] := hl
  unfold F_X5_listed at hF
  refine lv_iload_n hx hb dX5_listed_0 rfl (lv_at hl 1 rfl) ?_
  refine lv_iconst (v := 5) hx hb dX5_listed_1 (by decide) ?_
  obtain ⟨r2, h1, hF⟩ := bi_some hF
  refine k_i hS (kS_run M hS hP ok_X5_44 (c_X5_isUpTo l G a1 5 v r2 h1) rfl hl.1 rfl (Nat.le_of_ble_eq_true rfl) ⟨rfl, rfl⟩ ⟨Nat.le_of_ble_eq_true rfl, Nat.le_of_ble_eq_true rfl⟩ dX5_listed_2) (fun H locs hP hS => ?_)
  refine lv_if_ne (tgt := 14) hx hb dX5_listed_5 (by decide) (fun c3 => ?_) (fun c3 => ?_)
  · replace hF := (if_pos (bI_t c3)).symm.trans hF
    refine lv_aload_n hx hb dX5_listed_14 rfl (lv_at hl 0 rfl) ?_
    refine fg_5_10 M hP dX5_listed_15 ?_
    refine fg_5_52 M hP rfl dX5_listed_18 ?_
    refine lv_iload_n hx hb dX5_listed_21 rfl (lv_at hl 1 rfl) ?_
    obtain ⟨g4, hF⟩ := gu_some hF
    refine r_iald (k := (a1).toNatClampNeg) M hP (ge_1_1k (i := 25) rfl) (ge_1_1l (i := 25) rfl) (in_c g4) rfl dX5_listed_22 ?_
    exact ret_i M hS hP (Option.some.inj hF) dX5_listed_23
  · replace hF := (if_neg (bI_f c3)).symm.trans hF
    refine lv_aload_n hx hb dX5_listed_8 rfl (lv_at hl 0 rfl) ?_
    refine lv_iconst (v := 0) hx hb dX5_listed_9 (by decide) ?_
    obtain ⟨⟨r6, v7⟩, h5, hF⟩ := bi_some hF
    dsimp only at hF
    refine k_i hS (kV_run M hS hP ok_X5_48 (c_X5_finding l G 0 v r6 v7 h5) (rc_5 M hP rfl) rfl hl.1 rfl (Nat.le_of_ble_eq_true rfl) ⟨rfl, rfl⟩ ⟨Nat.le_of_ble_eq_true rfl, Nat.le_of_ble_eq_true rfl⟩ dX5_listed_10) (fun H locs hP hS => ?_)
    exact ret_i M hS hP (Option.some.inj hF) dX5_listed_13
def F_X5_keeper (a1 : Int32) (a2 : Int32) (v : VV) : Option (Int32 × VV) :=
  Option.bind (F_X5_isUpTo a1 6 v) (fun r2 => (if r2 = true then (Option.bind (F_X5_isUpTo a2 15 v) (fun r9 => (if r9 = true then (Option.bind (F_X1_hasAllKeepers 25 v) (fun r12 => (if r12 = true then (Option.bind (F_X5_finding 1 v) (fun (r19, v20) => some (r19, v20))) else (Option.bind (F_X1_addKeeper 25 a1 a2 v) (fun (r15, v16) => some (r15, v16)))))) else (Option.bind (F_X5_finding 0 v) (fun (r23, v24) => some (r23, v24)))))) else (Option.bind (F_X5_finding 0 v) (fun (r5, v6) => some (r5, v6)))))
set_option maxHeartbeats 4000000 in
set_option maxRecDepth 100000 in
theorem c_X5_keeper (l : Launch) (G : GG) (a1 : Int32) (a2 : Int32) (v : VV) (r : Int32) (v' : VV) (hF : F_X5_keeper a1 a2 v = some (r, v')) : Met l yX5_keeper (cdW yX5_keeper cX5_keeper 3 (some .int)) ({ frames := 2, cells := 0, slots := 0, locals := 44 } : Room) (PC G v [.ref (ad G 12), .int a1, .int a2]) (QI G r v') 0 0 (gA G) := by
  refine met_in RX5 (by decide) rfl (Nat.le_of_ble_eq_true rfl) ?_
  intro p e s m below meth c M hP ls hl
  have hx := M.1.1
  have hb := M.1.2.1
  have hS : va_S (gA G) s.heap s.heap [] := va_S.rf
  have hl : lv_has ls 3 [(0, .ref (ad G 12)), (1, .int a1), (2, .int a2)] := hl
  unfold F_X5_keeper at hF
  refine lv_iload_n hx hb dX5_keeper_0 rfl (lv_at hl 1 rfl) ?_
  refine lv_bipush (v := 6) hx hb dX5_keeper_1 (by decide) ?_
  obtain ⟨r2, h1, hF⟩ := bi_some hF
  refine k_i hS (kS_run M hS hP ok_X5_44 (c_X5_isUpTo l G a1 6 v r2 h1) rfl hl.1 rfl (Nat.le_of_ble_eq_true rfl) ⟨rfl, rfl⟩ ⟨Nat.le_of_ble_eq_true rfl, Nat.le_of_ble_eq_true rfl⟩ dX5_keeper_3) (fun H locs hP hS => ?_)
  refine lv_if_eq (tgt := 18) hx hb dX5_keeper_6 (by decide) (fun c3 => ?_) (fun c3 => ?_)
  · replace hF := (if_neg (bI_f c3)).symm.trans hF
    refine lv_aload_n hx hb dX5_keeper_18 rfl (lv_at hl 0 rfl) ?_
    refine lv_iconst (v := 0) hx hb dX5_keeper_19 (by decide) ?_
    obtain ⟨⟨r5, v6⟩, h4, hF⟩ := bi_some hF
    dsimp only at hF
    refine k_i hS (kV_run M hS hP ok_X5_48 (c_X5_finding l G 0 v r5 v6 h4) (rc_5 M hP rfl) rfl hl.1 rfl (Nat.le_of_ble_eq_true rfl) ⟨rfl, rfl⟩ ⟨Nat.le_of_ble_eq_true rfl, Nat.le_of_ble_eq_true rfl⟩ dX5_keeper_20) (fun H locs hP hS => ?_)
    exact ret_i M hS hP (Option.some.inj hF) dX5_keeper_23
  · replace hF := (if_pos (bI_t c3)).symm.trans hF
    refine lv_iload_n hx hb dX5_keeper_9 rfl (lv_at hl 2 rfl) ?_
    refine lv_bipush (v := 15) hx hb dX5_keeper_10 (by decide) ?_
    obtain ⟨r9, h8, hF⟩ := bi_some hF
    refine k_i hS (kS_run M hS hP ok_X5_44 (c_X5_isUpTo l G a2 15 v r9 h8) rfl hl.1 rfl (Nat.le_of_ble_eq_true rfl) ⟨rfl, rfl⟩ ⟨Nat.le_of_ble_eq_true rfl, Nat.le_of_ble_eq_true rfl⟩ dX5_keeper_12) (fun H locs hP hS => ?_)
    refine lv_if_ne (tgt := 24) hx hb dX5_keeper_15 (by decide) (fun c10 => ?_) (fun c10 => ?_)
    · replace hF := (if_pos (bI_t c10)).symm.trans hF
      refine lv_aload_n hx hb dX5_keeper_24 rfl (lv_at hl 0 rfl) ?_
      refine fg_5_10 M hP dX5_keeper_25 ?_
      obtain ⟨r12, h11, hF⟩ := bi_some hF
      refine k_i hS (kV_run M hS hP ok_X5_55 (c_X1_hasAllKeepers l G 25 rfl v r12 h11) (rc_1 M hP rfl) rfl hl.1 rfl (Nat.le_of_ble_eq_true rfl) ⟨rfl, rfl⟩ ⟨Nat.le_of_ble_eq_true rfl, Nat.le_of_ble_eq_true rfl⟩ dX5_keeper_28) (fun H locs hP hS => ?_)
      refine lv_if_eq (tgt := 40) hx hb dX5_keeper_31 (by decide) (fun c13 => ?_) (fun c13 => ?_)
      · replace hF := (if_neg (bI_f c13)).symm.trans hF
        refine lv_aload_n hx hb dX5_keeper_40 rfl (lv_at hl 0 rfl) ?_
        refine fg_5_10 M hP dX5_keeper_41 ?_
        refine lv_iload_n hx hb dX5_keeper_44 rfl (lv_at hl 1 rfl) ?_
        refine lv_iload_n hx hb dX5_keeper_45 rfl (lv_at hl 2 rfl) ?_
        obtain ⟨⟨r15, v16⟩, h14, hF⟩ := bi_some hF
        dsimp only at hF
        refine k_i hS (kV_run M hS hP ok_X5_59 (c_X1_addKeeper l G 25 rfl a1 a2 v r15 v16 h14) (rc_1 M hP rfl) rfl hl.1 rfl (Nat.le_of_ble_eq_true rfl) ⟨rfl, rfl⟩ ⟨Nat.le_of_ble_eq_true rfl, Nat.le_of_ble_eq_true rfl⟩ dX5_keeper_46) (fun H locs hP hS => ?_)
        exact ret_i M hS hP (Option.some.inj hF) dX5_keeper_49
      · replace hF := (if_pos (bI_t c13)).symm.trans hF
        refine lv_aload_n hx hb dX5_keeper_34 rfl (lv_at hl 0 rfl) ?_
        refine lv_iconst (v := 1) hx hb dX5_keeper_35 (by decide) ?_
        obtain ⟨⟨r19, v20⟩, h18, hF⟩ := bi_some hF
        dsimp only at hF
        refine k_i hS (kV_run M hS hP ok_X5_48 (c_X5_finding l G 1 v r19 v20 h18) (rc_5 M hP rfl) rfl hl.1 rfl (Nat.le_of_ble_eq_true rfl) ⟨rfl, rfl⟩ ⟨Nat.le_of_ble_eq_true rfl, Nat.le_of_ble_eq_true rfl⟩ dX5_keeper_36) (fun H locs hP hS => ?_)
        exact ret_i M hS hP (Option.some.inj hF) dX5_keeper_39
    · replace hF := (if_neg (bI_f c10)).symm.trans hF
      refine lv_aload_n hx hb dX5_keeper_18 rfl (lv_at hl 0 rfl) ?_
      refine lv_iconst (v := 0) hx hb dX5_keeper_19 (by decide) ?_
      obtain ⟨⟨r23, v24⟩, h22, hF⟩ := bi_some hF
      dsimp only at hF
      refine k_i hS (kV_run M hS hP ok_X5_48 (c_X5_finding l G 0 v r23 v24 h22) (rc_5 M hP rfl) rfl hl.1 rfl (Nat.le_of_ble_eq_true rfl) ⟨rfl, rfl⟩ ⟨Nat.le_of_ble_eq_true rfl, Nat.le_of_ble_eq_true rfl⟩ dX5_keeper_20) (fun H locs hP hS => ?_)
      exact ret_i M hS hP (Option.some.inj hF) dX5_keeper_23
def F_X5_child (a1 : Int32) (a2 : Int32) (v : VV) : Option (Int32 × VV) :=
  Option.bind (F_X5_isUpTo a1 15 v) (fun r2 => (if r2 = true then (Option.bind (F_X5_isUpTo a2 9 v) (fun r9 => (if r9 = true then (Option.bind (F_X1_hasAllChildren 25 v) (fun r12 => (if r12 = true then (Option.bind (F_X5_finding 1 v) (fun (r19, v20) => some (r19, v20))) else (Option.bind (F_X1_addChild 25 a1 a2 v) (fun (r15, v16) => some (r15, v16)))))) else (Option.bind (F_X5_finding 0 v) (fun (r23, v24) => some (r23, v24)))))) else (Option.bind (F_X5_finding 0 v) (fun (r5, v6) => some (r5, v6)))))
set_option maxHeartbeats 4000000 in
set_option maxRecDepth 100000 in
theorem c_X5_child (l : Launch) (G : GG) (a1 : Int32) (a2 : Int32) (v : VV) (r : Int32) (v' : VV) (hF : F_X5_child a1 a2 v = some (r, v')) : Met l yX5_child (cdW yX5_child cX5_child 3 (some .int)) ({ frames := 2, cells := 0, slots := 0, locals := 44 } : Room) (PC G v [.ref (ad G 12), .int a1, .int a2]) (QI G r v') 0 0 (gA G) := by
  refine met_in RX5 (by decide) rfl (Nat.le_of_ble_eq_true rfl) ?_
  intro p e s m below meth c M hP ls hl
  have hx := M.1.1
  have hb := M.1.2.1
  have hS : va_S (gA G) s.heap s.heap [] := va_S.rf
  have hl : lv_has ls 3 [(0, .ref (ad G 12)), (1, .int a1), (2, .int a2)] := hl
  unfold F_X5_child at hF
  refine lv_iload_n hx hb dX5_child_0 rfl (lv_at hl 1 rfl) ?_
  refine lv_bipush (v := 15) hx hb dX5_child_1 (by decide) ?_
  obtain ⟨r2, h1, hF⟩ := bi_some hF
  refine k_i hS (kS_run M hS hP ok_X5_44 (c_X5_isUpTo l G a1 15 v r2 h1) rfl hl.1 rfl (Nat.le_of_ble_eq_true rfl) ⟨rfl, rfl⟩ ⟨Nat.le_of_ble_eq_true rfl, Nat.le_of_ble_eq_true rfl⟩ dX5_child_3) (fun H locs hP hS => ?_)
  refine lv_if_eq (tgt := 18) hx hb dX5_child_6 (by decide) (fun c3 => ?_) (fun c3 => ?_)
  · replace hF := (if_neg (bI_f c3)).symm.trans hF
    refine lv_aload_n hx hb dX5_child_18 rfl (lv_at hl 0 rfl) ?_
    refine lv_iconst (v := 0) hx hb dX5_child_19 (by decide) ?_
    obtain ⟨⟨r5, v6⟩, h4, hF⟩ := bi_some hF
    dsimp only at hF
    refine k_i hS (kV_run M hS hP ok_X5_48 (c_X5_finding l G 0 v r5 v6 h4) (rc_5 M hP rfl) rfl hl.1 rfl (Nat.le_of_ble_eq_true rfl) ⟨rfl, rfl⟩ ⟨Nat.le_of_ble_eq_true rfl, Nat.le_of_ble_eq_true rfl⟩ dX5_child_20) (fun H locs hP hS => ?_)
    exact ret_i M hS hP (Option.some.inj hF) dX5_child_23
  · replace hF := (if_pos (bI_t c3)).symm.trans hF
    refine lv_iload_n hx hb dX5_child_9 rfl (lv_at hl 2 rfl) ?_
    refine lv_bipush (v := 9) hx hb dX5_child_10 (by decide) ?_
    obtain ⟨r9, h8, hF⟩ := bi_some hF
    refine k_i hS (kS_run M hS hP ok_X5_44 (c_X5_isUpTo l G a2 9 v r9 h8) rfl hl.1 rfl (Nat.le_of_ble_eq_true rfl) ⟨rfl, rfl⟩ ⟨Nat.le_of_ble_eq_true rfl, Nat.le_of_ble_eq_true rfl⟩ dX5_child_12) (fun H locs hP hS => ?_)
    refine lv_if_ne (tgt := 24) hx hb dX5_child_15 (by decide) (fun c10 => ?_) (fun c10 => ?_)
    · replace hF := (if_pos (bI_t c10)).symm.trans hF
      refine lv_aload_n hx hb dX5_child_24 rfl (lv_at hl 0 rfl) ?_
      refine fg_5_10 M hP dX5_child_25 ?_
      obtain ⟨r12, h11, hF⟩ := bi_some hF
      refine k_i hS (kV_run M hS hP ok_X5_63 (c_X1_hasAllChildren l G 25 rfl v r12 h11) (rc_1 M hP rfl) rfl hl.1 rfl (Nat.le_of_ble_eq_true rfl) ⟨rfl, rfl⟩ ⟨Nat.le_of_ble_eq_true rfl, Nat.le_of_ble_eq_true rfl⟩ dX5_child_28) (fun H locs hP hS => ?_)
      refine lv_if_eq (tgt := 40) hx hb dX5_child_31 (by decide) (fun c13 => ?_) (fun c13 => ?_)
      · replace hF := (if_neg (bI_f c13)).symm.trans hF
        refine lv_aload_n hx hb dX5_child_40 rfl (lv_at hl 0 rfl) ?_
        refine fg_5_10 M hP dX5_child_41 ?_
        refine lv_iload_n hx hb dX5_child_44 rfl (lv_at hl 1 rfl) ?_
        refine lv_iload_n hx hb dX5_child_45 rfl (lv_at hl 2 rfl) ?_
        obtain ⟨⟨r15, v16⟩, h14, hF⟩ := bi_some hF
        dsimp only at hF
        refine k_i hS (kV_run M hS hP ok_X5_66 (c_X1_addChild l G 25 rfl a1 a2 v r15 v16 h14) (rc_1 M hP rfl) rfl hl.1 rfl (Nat.le_of_ble_eq_true rfl) ⟨rfl, rfl⟩ ⟨Nat.le_of_ble_eq_true rfl, Nat.le_of_ble_eq_true rfl⟩ dX5_child_46) (fun H locs hP hS => ?_)
        exact ret_i M hS hP (Option.some.inj hF) dX5_child_49
      · replace hF := (if_pos (bI_t c13)).symm.trans hF
        refine lv_aload_n hx hb dX5_child_34 rfl (lv_at hl 0 rfl) ?_
        refine lv_iconst (v := 1) hx hb dX5_child_35 (by decide) ?_
        obtain ⟨⟨r19, v20⟩, h18, hF⟩ := bi_some hF
        dsimp only at hF
        refine k_i hS (kV_run M hS hP ok_X5_48 (c_X5_finding l G 1 v r19 v20 h18) (rc_5 M hP rfl) rfl hl.1 rfl (Nat.le_of_ble_eq_true rfl) ⟨rfl, rfl⟩ ⟨Nat.le_of_ble_eq_true rfl, Nat.le_of_ble_eq_true rfl⟩ dX5_child_36) (fun H locs hP hS => ?_)
        exact ret_i M hS hP (Option.some.inj hF) dX5_child_39
    · replace hF := (if_neg (bI_f c10)).symm.trans hF
      refine lv_aload_n hx hb dX5_child_18 rfl (lv_at hl 0 rfl) ?_
      refine lv_iconst (v := 0) hx hb dX5_child_19 (by decide) ?_
      obtain ⟨⟨r23, v24⟩, h22, hF⟩ := bi_some hF
      dsimp only at hF
      refine k_i hS (kV_run M hS hP ok_X5_48 (c_X5_finding l G 0 v r23 v24 h22) (rc_5 M hP rfl) rfl hl.1 rfl (Nat.le_of_ble_eq_true rfl) ⟨rfl, rfl⟩ ⟨Nat.le_of_ble_eq_true rfl, Nat.le_of_ble_eq_true rfl⟩ dX5_child_20) (fun H locs hP hS => ?_)
      exact ret_i M hS hP (Option.some.inj hF) dX5_child_23
def F_X5_isKeeper (a1 : Int32) (v : VV) : Option Bool :=
  if a1 < 0 then (some false) else (if (v 25 4) ≤ a1 then (some false) else (some true))
set_option maxHeartbeats 4000000 in
set_option maxRecDepth 100000 in
theorem c_X5_isKeeper (l : Launch) (G : GG) (a1 : Int32) (v : VV) (r : Bool) (hF : F_X5_isKeeper a1 v = some r) : Met l yX5_isKeeper (cdW yX5_isKeeper cX5_isKeeper 2 (some .boolean)) ({ frames := 0, cells := 0, slots := 0, locals := 0 } : Room) (PC G v [.ref (ad G 12), .int a1]) (QI G (bI r) v) 0 0 (gA G) := by
  refine met_in RX5 (by decide) rfl (Nat.le_of_ble_eq_true rfl) ?_
  intro p e s m below meth c M hP ls hl
  have hx := M.1.1
  have hb := M.1.2.1
  have hS : va_S (gA G) s.heap s.heap [] := va_S.rf
  have hl : lv_has ls 2 [(0, .ref (ad G 12)), (1, .int a1)] := hl
  unfold F_X5_isKeeper at hF
  refine lv_iload_n hx hb dX5_isKeeper_0 rfl (lv_at hl 1 rfl) ?_
  refine lv_if_lt (tgt := 19) hx hb dX5_isKeeper_1 (by decide) (fun c1 => ?_) (fun c1 => ?_)
  · replace hF := (if_pos c1).symm.trans hF
    refine lv_iconst (v := 0) hx hb dX5_isKeeper_19 (by decide) ?_
    exact ret_z M hS hP (congrArg (fun z : Bool => (bI z, v)) (Option.some.inj hF)) rfl dX5_isKeeper_20
  · replace hF := (if_neg c1).symm.trans hF
    refine lv_iload_n hx hb dX5_isKeeper_4 rfl (lv_at hl 1 rfl) ?_
    refine lv_aload_n hx hb dX5_isKeeper_5 rfl (lv_at hl 0 rfl) ?_
    refine fg_5_10 M hP dX5_isKeeper_6 ?_
    refine fg_5_99 M hP rfl dX5_isKeeper_9 ?_
    refine lv_icmp_ge (tgt := 19) hx hb dX5_isKeeper_12 (by decide) (fun c2 => ?_) (fun c2 => ?_)
    · replace hF := (if_pos c2).symm.trans hF
      refine lv_iconst (v := 0) hx hb dX5_isKeeper_19 (by decide) ?_
      exact ret_z M hS hP (congrArg (fun z : Bool => (bI z, v)) (Option.some.inj hF)) rfl dX5_isKeeper_20
    · replace hF := (if_neg c2).symm.trans hF
      refine lv_iconst (v := 1) hx hb dX5_isKeeper_15 (by decide) ?_
      refine lv_goto (tgt := 20) hx hb dX5_isKeeper_16 (by decide) ?_
      exact ret_z M hS hP (congrArg (fun z : Bool => (bI z, v)) (Option.some.inj hF)) rfl dX5_isKeeper_20
def F_X5_of (a1 : Int32) (a2 : Int32) (v : VV) : Option (Int32 × VV) :=
  Option.bind (F_X5_isKeeper a1 v) (fun r2 => (if r2 = true then (Option.bind (F_X5_isUpTo a2 10 v) (fun r9 => (if r9 = true then (Option.bind (F_X1_toldOfKeeper 25 a1 a2 v) (fun r12 => some (r12, v))) else (Option.bind (F_X5_finding 0 v) (fun (r14, v15) => some (r14, v15)))))) else (Option.bind (F_X5_finding 0 v) (fun (r5, v6) => some (r5, v6)))))
set_option maxHeartbeats 4000000 in
set_option maxRecDepth 100000 in
theorem c_X5_of (l : Launch) (G : GG) (a1 : Int32) (a2 : Int32) (v : VV) (r : Int32) (v' : VV) (hF : F_X5_of a1 a2 v = some (r, v')) : Met l yX5_of (cdW yX5_of cX5_of 3 (some .int)) ({ frames := 3, cells := 0, slots := 0, locals := 66 } : Room) (PC G v [.ref (ad G 12), .int a1, .int a2]) (QI G r v') 0 0 (gA G) := by
  refine met_in RX5 (by decide) rfl (Nat.le_of_ble_eq_true rfl) ?_
  intro p e s m below meth c M hP ls hl
  have hx := M.1.1
  have hb := M.1.2.1
  have hS : va_S (gA G) s.heap s.heap [] := va_S.rf
  have hl : lv_has ls 3 [(0, .ref (ad G 12)), (1, .int a1), (2, .int a2)] := hl
  unfold F_X5_of at hF
  refine lv_aload_n hx hb dX5_of_0 rfl (lv_at hl 0 rfl) ?_
  refine lv_iload_n hx hb dX5_of_1 rfl (lv_at hl 1 rfl) ?_
  obtain ⟨r2, h1, hF⟩ := bi_some hF
  refine k_i hS (kV_run M hS hP ok_X5_69 (c_X5_isKeeper l G a1 v r2 h1) (rc_5 M hP rfl) rfl hl.1 rfl (Nat.le_of_ble_eq_true rfl) ⟨rfl, rfl⟩ ⟨Nat.le_of_ble_eq_true rfl, Nat.le_of_ble_eq_true rfl⟩ dX5_of_2) (fun H locs hP hS => ?_)
  refine lv_if_eq (tgt := 17) hx hb dX5_of_5 (by decide) (fun c3 => ?_) (fun c3 => ?_)
  · replace hF := (if_neg (bI_f c3)).symm.trans hF
    refine lv_aload_n hx hb dX5_of_17 rfl (lv_at hl 0 rfl) ?_
    refine lv_iconst (v := 0) hx hb dX5_of_18 (by decide) ?_
    obtain ⟨⟨r5, v6⟩, h4, hF⟩ := bi_some hF
    dsimp only at hF
    refine k_i hS (kV_run M hS hP ok_X5_48 (c_X5_finding l G 0 v r5 v6 h4) (rc_5 M hP rfl) rfl hl.1 rfl (Nat.le_of_ble_eq_true rfl) ⟨rfl, rfl⟩ ⟨Nat.le_of_ble_eq_true rfl, Nat.le_of_ble_eq_true rfl⟩ dX5_of_19) (fun H locs hP hS => ?_)
    exact ret_i M hS hP (Option.some.inj hF) dX5_of_22
  · replace hF := (if_pos (bI_t c3)).symm.trans hF
    refine lv_iload_n hx hb dX5_of_8 rfl (lv_at hl 2 rfl) ?_
    refine lv_bipush (v := 10) hx hb dX5_of_9 (by decide) ?_
    obtain ⟨r9, h8, hF⟩ := bi_some hF
    refine k_i hS (kS_run M hS hP ok_X5_44 (c_X5_isUpTo l G a2 10 v r9 h8) rfl hl.1 rfl (Nat.le_of_ble_eq_true rfl) ⟨rfl, rfl⟩ ⟨Nat.le_of_ble_eq_true rfl, Nat.le_of_ble_eq_true rfl⟩ dX5_of_11) (fun H locs hP hS => ?_)
    refine lv_if_ne (tgt := 23) hx hb dX5_of_14 (by decide) (fun c10 => ?_) (fun c10 => ?_)
    · replace hF := (if_pos (bI_t c10)).symm.trans hF
      refine lv_aload_n hx hb dX5_of_23 rfl (lv_at hl 0 rfl) ?_
      refine fg_5_10 M hP dX5_of_24 ?_
      refine lv_iload_n hx hb dX5_of_27 rfl (lv_at hl 1 rfl) ?_
      refine lv_iload_n hx hb dX5_of_28 rfl (lv_at hl 2 rfl) ?_
      obtain ⟨r12, h11, hF⟩ := bi_some hF
      refine k_i hS (kV_run M hS hP ok_X5_73 (c_X1_toldOfKeeper l G 25 rfl a1 a2 v r12 h11) (rc_1 M hP rfl) rfl hl.1 rfl (Nat.le_of_ble_eq_true rfl) ⟨rfl, rfl⟩ ⟨Nat.le_of_ble_eq_true rfl, Nat.le_of_ble_eq_true rfl⟩ dX5_of_29) (fun H locs hP hS => ?_)
      exact ret_i M hS hP (Option.some.inj hF) dX5_of_32
    · replace hF := (if_neg (bI_f c10)).symm.trans hF
      refine lv_aload_n hx hb dX5_of_17 rfl (lv_at hl 0 rfl) ?_
      refine lv_iconst (v := 0) hx hb dX5_of_18 (by decide) ?_
      obtain ⟨⟨r14, v15⟩, h13, hF⟩ := bi_some hF
      dsimp only at hF
      refine k_i hS (kV_run M hS hP ok_X5_48 (c_X5_finding l G 0 v r14 v15 h13) (rc_5 M hP rfl) rfl hl.1 rfl (Nat.le_of_ble_eq_true rfl) ⟨rfl, rfl⟩ ⟨Nat.le_of_ble_eq_true rfl, Nat.le_of_ble_eq_true rfl⟩ dX5_of_19) (fun H locs hP hS => ?_)
      exact ret_i M hS hP (Option.some.inj hF) dX5_of_22
def F_X5_change (a1 : Int32) (a2 : Int32) (a3 : Int32) (v : VV) : Option (Int32 × VV) :=
  Option.bind (F_X5_isKeeper a1 v) (fun r2 => (if r2 = true then (Option.bind (F_X5_isUpTo a2 5 v) (fun r9 => (if r9 = true then (gu (gI a2 6) (Option.bind (F_X5_isUpTo a3 (stA 0 ((a2).toNatClampNeg)) v) (fun r17 => (if r17 = true then (gu (gI a1 8) (gu (gI a2 6) (gu (gI a2 6) (some (v (((25 + 3) + 2 + ((a1).toNatClampNeg)) + 8) ((a2).toNatClampNeg), pu v (((25 + 3) + 2 + ((a1).toNatClampNeg)) + 8) ((a2).toNatClampNeg) a3))))) else (Option.bind (F_X5_finding 0 v) (fun (r23, v24) => some (r23, v24))))))) else (Option.bind (F_X5_finding 0 v) (fun (r12, v13) => some (r12, v13)))))) else (Option.bind (F_X5_finding 0 v) (fun (r5, v6) => some (r5, v6)))))
set_option maxHeartbeats 4000000 in
set_option maxRecDepth 100000 in
theorem c_X5_change (l : Launch) (G : GG) (a1 : Int32) (a2 : Int32) (a3 : Int32) (v : VV) (r : Int32) (v' : VV) (hF : F_X5_change a1 a2 a3 v = some (r, v')) : Met l yX5_change (cdW yX5_change cX5_change 6 (some .int)) ({ frames := 1, cells := 0, slots := 0, locals := 21 } : Room) (PC G v [.ref (ad G 12), .int a1, .int a2, .int a3]) (QI G r v') 0 0 (gA G) := by
  refine met_in RX5 (by decide) rfl (Nat.le_of_ble_eq_true rfl) ?_
  intro p e s m below meth c M hP ls hl
  have hx := M.1.1
  have hb := M.1.2.1
  have hS : va_S (gA G) s.heap s.heap [] := va_S.rf
  have hl : lv_has ls 6 [(0, .ref (ad G 12)), (1, .int a1), (2, .int a2), (3, .int a3)] := hl
  unfold F_X5_change at hF
  refine lv_aload_n hx hb dX5_change_0 rfl (lv_at hl 0 rfl) ?_
  refine lv_iload_n hx hb dX5_change_1 rfl (lv_at hl 1 rfl) ?_
  obtain ⟨r2, h1, hF⟩ := bi_some hF
  refine k_i hS (kV_run M hS hP ok_X5_69 (c_X5_isKeeper l G a1 v r2 h1) (rc_5 M hP rfl) rfl hl.1 rfl (Nat.le_of_ble_eq_true rfl) ⟨rfl, rfl⟩ ⟨Nat.le_of_ble_eq_true rfl, Nat.le_of_ble_eq_true rfl⟩ dX5_change_2) (fun H locs hP hS => ?_)
  refine lv_if_eq (tgt := 28) hx hb dX5_change_5 (by decide) (fun c3 => ?_) (fun c3 => ?_)
  · replace hF := (if_neg (bI_f c3)).symm.trans hF
    refine lv_aload_n hx hb dX5_change_28 rfl (lv_at hl 0 rfl) ?_
    refine lv_iconst (v := 0) hx hb dX5_change_29 (by decide) ?_
    obtain ⟨⟨r5, v6⟩, h4, hF⟩ := bi_some hF
    dsimp only at hF
    refine k_i hS (kV_run M hS hP ok_X5_48 (c_X5_finding l G 0 v r5 v6 h4) (rc_5 M hP rfl) rfl hl.1 rfl (Nat.le_of_ble_eq_true rfl) ⟨rfl, rfl⟩ ⟨Nat.le_of_ble_eq_true rfl, Nat.le_of_ble_eq_true rfl⟩ dX5_change_30) (fun H locs hP hS => ?_)
    exact ret_i M hS hP (Option.some.inj hF) dX5_change_33
  · replace hF := (if_pos (bI_t c3)).symm.trans hF
    refine lv_iload_n hx hb dX5_change_8 rfl (lv_at hl 2 rfl) ?_
    refine lv_iconst (v := 5) hx hb dX5_change_9 (by decide) ?_
    obtain ⟨r9, h8, hF⟩ := bi_some hF
    refine k_i hS (kS_run M hS hP ok_X5_44 (c_X5_isUpTo l G a2 5 v r9 h8) rfl hl.1 rfl (Nat.le_of_ble_eq_true rfl) ⟨rfl, rfl⟩ ⟨Nat.le_of_ble_eq_true rfl, Nat.le_of_ble_eq_true rfl⟩ dX5_change_10) (fun H locs hP hS => ?_)
    refine lv_if_eq (tgt := 28) hx hb dX5_change_13 (by decide) (fun c10 => ?_) (fun c10 => ?_)
    · replace hF := (if_neg (bI_f c10)).symm.trans hF
      refine lv_aload_n hx hb dX5_change_28 rfl (lv_at hl 0 rfl) ?_
      refine lv_iconst (v := 0) hx hb dX5_change_29 (by decide) ?_
      obtain ⟨⟨r12, v13⟩, h11, hF⟩ := bi_some hF
      dsimp only at hF
      refine k_i hS (kV_run M hS hP ok_X5_48 (c_X5_finding l G 0 v r12 v13 h11) (rc_5 M hP rfl) rfl hl.1 rfl (Nat.le_of_ble_eq_true rfl) ⟨rfl, rfl⟩ ⟨Nat.le_of_ble_eq_true rfl, Nat.le_of_ble_eq_true rfl⟩ dX5_change_30) (fun H locs hP hS => ?_)
      exact ret_i M hS hP (Option.some.inj hF) dX5_change_33
    · replace hF := (if_pos (bI_t c10)).symm.trans hF
      refine lv_iload_n hx hb dX5_change_16 rfl (lv_at hl 3 rfl) ?_
      refine fs_5_78 M hS dX5_change_17 ?_
      refine lv_iload_n hx hb dX5_change_20 rfl (lv_at hl 2 rfl) ?_
      obtain ⟨g15, hF⟩ := gu_some hF
      refine r_sald (k := (a2).toNatClampNeg) M hS (t := 0) (by decide) rfl (in_c g15) rfl dX5_change_21 ?_
      obtain ⟨r17, h16, hF⟩ := bi_some hF
      refine k_i hS (kS_run M hS hP ok_X5_44 (c_X5_isUpTo l G a3 (stA 0 ((a2).toNatClampNeg)) v r17 h16) rfl hl.1 rfl (Nat.le_of_ble_eq_true rfl) ⟨rfl, rfl⟩ ⟨Nat.le_of_ble_eq_true rfl, Nat.le_of_ble_eq_true rfl⟩ dX5_change_22) (fun H locs hP hS => ?_)
      refine lv_if_ne (tgt := 34) hx hb dX5_change_25 (by decide) (fun c18 => ?_) (fun c18 => ?_)
      · replace hF := (if_pos (bI_t c18)).symm.trans hF
        refine lv_aload_n hx hb dX5_change_34 rfl (lv_at hl 0 rfl) ?_
        refine fg_5_10 M hP dX5_change_35 ?_
        refine fg_5_81 M hP rfl dX5_change_38 ?_
        refine lv_iload_n hx hb dX5_change_41 rfl (lv_at hl 1 rfl) ?_
        obtain ⟨g19, hF⟩ := gu_some hF
        refine r_aald10 (k := (a1).toNatClampNeg) M hP (ge_1_3k (i := 25) rfl) (ge_10l (i := (25 + 3)) (ge_1_3k (i := 25) rfl)) (in_c g19) rfl dX5_change_42 ?_
        refine fg_5_85 M hP (ge_10k (i := (25 + 3)) (k := (a1).toNatClampNeg) (ge_1_3k (i := 25) rfl) (vin_lt (in_c g19))) dX5_change_43 ?_
        refine lv_astore (lv' := [(4, .ref (ad G (((25 + 3) + 2 + ((a1).toNatClampNeg)) + 8))), (0, .ref (ad G 12)), (1, .int a1), (2, .int a2), (3, .int a3)]) hx hb dX5_change_46 hl (by decide) rfl (fun ls hl => ?_)
        refine lv_aload hx hb dX5_change_48 (lv_at hl 0 rfl) ?_
        refine lv_iload_n hx hb dX5_change_50 rfl (lv_at hl 3 rfl) ?_
        obtain ⟨g20, hF⟩ := gu_some hF
        refine r_iald (k := (a2).toNatClampNeg) M hP (ge_2k (i := ((25 + 3) + 2 + ((a1).toNatClampNeg))) (ge_10k (i := (25 + 3)) (k := (a1).toNatClampNeg) (ge_1_3k (i := 25) rfl) (vin_lt (in_c g19)))) (ge_2l (i := ((25 + 3) + 2 + ((a1).toNatClampNeg))) (ge_10k (i := (25 + 3)) (k := (a1).toNatClampNeg) (ge_1_3k (i := 25) rfl) (vin_lt (in_c g19)))) (in_c g20) rfl dX5_change_51 ?_
        refine lv_istore (lv' := [(5, .int (v (((25 + 3) + 2 + ((a1).toNatClampNeg)) + 8) ((a2).toNatClampNeg))), (4, .ref (ad G (((25 + 3) + 2 + ((a1).toNatClampNeg)) + 8))), (0, .ref (ad G 12)), (1, .int a1), (2, .int a2), (3, .int a3)]) hx hb dX5_change_52 hl (by decide) rfl (fun ls hl => ?_)
        refine lv_aload hx hb dX5_change_54 (lv_at hl 1 rfl) ?_
        refine lv_iload_n hx hb dX5_change_56 rfl (lv_at hl 4 rfl) ?_
        refine lv_iload_n hx hb dX5_change_57 rfl (lv_at hl 5 rfl) ?_
        obtain ⟨g21, hF⟩ := gu_some hF
        refine r_iast (k := (a2).toNatClampNeg) M hS hP (ge_2k (i := ((25 + 3) + 2 + ((a1).toNatClampNeg))) (ge_10k (i := (25 + 3)) (k := (a1).toNatClampNeg) (ge_1_3k (i := 25) rfl) (vin_lt (in_c g19)))) (ge_2l (i := ((25 + 3) + 2 + ((a1).toNatClampNeg))) (ge_10k (i := (25 + 3)) (k := (a1).toNatClampNeg) (ge_1_3k (i := 25) rfl) (vin_lt (in_c g19)))) (in_c g21) rfl dX5_change_58 (fun H locs hP hS => ?_)
        have hP : Wd G (pu v (((25 + 3) + 2 + ((a1).toNatClampNeg)) + 8) ((a2).toNatClampNeg) a3) H := hP
        refine lv_iload hx hb dX5_change_59 (lv_at hl 0 rfl) ?_
        exact ret_i M hS hP (Option.some.inj hF) dX5_change_61
      · replace hF := (if_neg (bI_f c18)).symm.trans hF
        refine lv_aload_n hx hb dX5_change_28 rfl (lv_at hl 0 rfl) ?_
        refine lv_iconst (v := 0) hx hb dX5_change_29 (by decide) ?_
        obtain ⟨⟨r23, v24⟩, h22, hF⟩ := bi_some hF
        dsimp only at hF
        refine k_i hS (kV_run M hS hP ok_X5_48 (c_X5_finding l G 0 v r23 v24 h22) (rc_5 M hP rfl) rfl hl.1 rfl (Nat.le_of_ble_eq_true rfl) ⟨rfl, rfl⟩ ⟨Nat.le_of_ble_eq_true rfl, Nat.le_of_ble_eq_true rfl⟩ dX5_change_30) (fun H locs hP hS => ?_)
        exact ret_i M hS hP (Option.some.inj hF) dX5_change_33
def F_X5_isChild (a1 : Int32) (v : VV) : Option Bool :=
  if a1 < 0 then (some false) else (if (v 25 5) ≤ a1 then (some false) else (some true))
set_option maxHeartbeats 4000000 in
set_option maxRecDepth 100000 in
theorem c_X5_isChild (l : Launch) (G : GG) (a1 : Int32) (v : VV) (r : Bool) (hF : F_X5_isChild a1 v = some r) : Met l yX5_isChild (cdW yX5_isChild cX5_isChild 2 (some .boolean)) ({ frames := 0, cells := 0, slots := 0, locals := 0 } : Room) (PC G v [.ref (ad G 12), .int a1]) (QI G (bI r) v) 0 0 (gA G) := by
  refine met_in RX5 (by decide) rfl (Nat.le_of_ble_eq_true rfl) ?_
  intro p e s m below meth c M hP ls hl
  have hx := M.1.1
  have hb := M.1.2.1
  have hS : va_S (gA G) s.heap s.heap [] := va_S.rf
  have hl : lv_has ls 2 [(0, .ref (ad G 12)), (1, .int a1)] := hl
  unfold F_X5_isChild at hF
  refine lv_iload_n hx hb dX5_isChild_0 rfl (lv_at hl 1 rfl) ?_
  refine lv_if_lt (tgt := 19) hx hb dX5_isChild_1 (by decide) (fun c1 => ?_) (fun c1 => ?_)
  · replace hF := (if_pos c1).symm.trans hF
    refine lv_iconst (v := 0) hx hb dX5_isChild_19 (by decide) ?_
    exact ret_z M hS hP (congrArg (fun z : Bool => (bI z, v)) (Option.some.inj hF)) rfl dX5_isChild_20
  · replace hF := (if_neg c1).symm.trans hF
    refine lv_iload_n hx hb dX5_isChild_4 rfl (lv_at hl 1 rfl) ?_
    refine lv_aload_n hx hb dX5_isChild_5 rfl (lv_at hl 0 rfl) ?_
    refine fg_5_10 M hP dX5_isChild_6 ?_
    refine fg_5_166 M hP rfl dX5_isChild_9 ?_
    refine lv_icmp_ge (tgt := 19) hx hb dX5_isChild_12 (by decide) (fun c2 => ?_) (fun c2 => ?_)
    · replace hF := (if_pos c2).symm.trans hF
      refine lv_iconst (v := 0) hx hb dX5_isChild_19 (by decide) ?_
      exact ret_z M hS hP (congrArg (fun z : Bool => (bI z, v)) (Option.some.inj hF)) rfl dX5_isChild_20
    · replace hF := (if_neg c2).symm.trans hF
      refine lv_iconst (v := 1) hx hb dX5_isChild_15 (by decide) ?_
      refine lv_goto (tgt := 20) hx hb dX5_isChild_16 (by decide) ?_
      exact ret_z M hS hP (congrArg (fun z : Bool => (bI z, v)) (Option.some.inj hF)) rfl dX5_isChild_20
def F_X5_ofChild (a1 : Int32) (a2 : Int32) (v : VV) : Option (Int32 × VV) :=
  Option.bind (F_X5_isChild a1 v) (fun r2 => (if r2 = true then (Option.bind (F_X5_isUpTo a2 3 v) (fun r9 => (if r9 = true then (gu (gI a1 6) (gu (gI a2 4) (some (v (((25 + 4) + 17 + ((a1).toNatClampNeg)) + 6) ((a2).toNatClampNeg), v)))) else (Option.bind (F_X5_finding 0 v) (fun (r14, v15) => some (r14, v15)))))) else (Option.bind (F_X5_finding 0 v) (fun (r5, v6) => some (r5, v6)))))
set_option maxHeartbeats 4000000 in
set_option maxRecDepth 100000 in
theorem c_X5_ofChild (l : Launch) (G : GG) (a1 : Int32) (a2 : Int32) (v : VV) (r : Int32) (v' : VV) (hF : F_X5_ofChild a1 a2 v = some (r, v')) : Met l yX5_ofChild (cdW yX5_ofChild cX5_ofChild 3 (some .int)) ({ frames := 1, cells := 0, slots := 0, locals := 21 } : Room) (PC G v [.ref (ad G 12), .int a1, .int a2]) (QI G r v') 0 0 (gA G) := by
  refine met_in RX5 (by decide) rfl (Nat.le_of_ble_eq_true rfl) ?_
  intro p e s m below meth c M hP ls hl
  have hx := M.1.1
  have hb := M.1.2.1
  have hS : va_S (gA G) s.heap s.heap [] := va_S.rf
  have hl : lv_has ls 3 [(0, .ref (ad G 12)), (1, .int a1), (2, .int a2)] := hl
  unfold F_X5_ofChild at hF
  refine lv_aload_n hx hb dX5_ofChild_0 rfl (lv_at hl 0 rfl) ?_
  refine lv_iload_n hx hb dX5_ofChild_1 rfl (lv_at hl 1 rfl) ?_
  obtain ⟨r2, h1, hF⟩ := bi_some hF
  refine k_i hS (kV_run M hS hP ok_X5_88 (c_X5_isChild l G a1 v r2 h1) (rc_5 M hP rfl) rfl hl.1 rfl (Nat.le_of_ble_eq_true rfl) ⟨rfl, rfl⟩ ⟨Nat.le_of_ble_eq_true rfl, Nat.le_of_ble_eq_true rfl⟩ dX5_ofChild_2) (fun H locs hP hS => ?_)
  refine lv_if_eq (tgt := 16) hx hb dX5_ofChild_5 (by decide) (fun c3 => ?_) (fun c3 => ?_)
  · replace hF := (if_neg (bI_f c3)).symm.trans hF
    refine lv_aload_n hx hb dX5_ofChild_16 rfl (lv_at hl 0 rfl) ?_
    refine lv_iconst (v := 0) hx hb dX5_ofChild_17 (by decide) ?_
    obtain ⟨⟨r5, v6⟩, h4, hF⟩ := bi_some hF
    dsimp only at hF
    refine k_i hS (kV_run M hS hP ok_X5_48 (c_X5_finding l G 0 v r5 v6 h4) (rc_5 M hP rfl) rfl hl.1 rfl (Nat.le_of_ble_eq_true rfl) ⟨rfl, rfl⟩ ⟨Nat.le_of_ble_eq_true rfl, Nat.le_of_ble_eq_true rfl⟩ dX5_ofChild_18) (fun H locs hP hS => ?_)
    exact ret_i M hS hP (Option.some.inj hF) dX5_ofChild_21
  · replace hF := (if_pos (bI_t c3)).symm.trans hF
    refine lv_iload_n hx hb dX5_ofChild_8 rfl (lv_at hl 2 rfl) ?_
    refine lv_iconst (v := 3) hx hb dX5_ofChild_9 (by decide) ?_
    obtain ⟨r9, h8, hF⟩ := bi_some hF
    refine k_i hS (kS_run M hS hP ok_X5_44 (c_X5_isUpTo l G a2 3 v r9 h8) rfl hl.1 rfl (Nat.le_of_ble_eq_true rfl) ⟨rfl, rfl⟩ ⟨Nat.le_of_ble_eq_true rfl, Nat.le_of_ble_eq_true rfl⟩ dX5_ofChild_10) (fun H locs hP hS => ?_)
    refine lv_if_ne (tgt := 22) hx hb dX5_ofChild_13 (by decide) (fun c10 => ?_) (fun c10 => ?_)
    · replace hF := (if_pos (bI_t c10)).symm.trans hF
      refine lv_aload_n hx hb dX5_ofChild_22 rfl (lv_at hl 0 rfl) ?_
      refine fg_5_10 M hP dX5_ofChild_23 ?_
      refine fg_5_93 M hP rfl dX5_ofChild_26 ?_
      refine lv_iload_n hx hb dX5_ofChild_29 rfl (lv_at hl 1 rfl) ?_
      obtain ⟨g11, hF⟩ := gu_some hF
      refine r_aald9 (k := (a1).toNatClampNeg) M hP (ge_1_4k (i := 25) rfl) (ge_9l (i := (25 + 4)) (ge_1_4k (i := 25) rfl)) (in_c g11) rfl dX5_ofChild_30 ?_
      refine fg_5_97 M hP (ge_9k (i := (25 + 4)) (k := (a1).toNatClampNeg) (ge_1_4k (i := 25) rfl) (vin_lt (in_c g11))) dX5_ofChild_31 ?_
      refine lv_iload_n hx hb dX5_ofChild_34 rfl (lv_at hl 2 rfl) ?_
      obtain ⟨g12, hF⟩ := gu_some hF
      refine r_iald (k := (a2).toNatClampNeg) M hP (ge_0k (i := ((25 + 4) + 17 + ((a1).toNatClampNeg))) (ge_9k (i := (25 + 4)) (k := (a1).toNatClampNeg) (ge_1_4k (i := 25) rfl) (vin_lt (in_c g11)))) (ge_0l (i := ((25 + 4) + 17 + ((a1).toNatClampNeg))) (ge_9k (i := (25 + 4)) (k := (a1).toNatClampNeg) (ge_1_4k (i := 25) rfl) (vin_lt (in_c g11)))) (in_c g12) rfl dX5_ofChild_35 ?_
      exact ret_i M hS hP (Option.some.inj hF) dX5_ofChild_36
    · replace hF := (if_neg (bI_f c10)).symm.trans hF
      refine lv_aload_n hx hb dX5_ofChild_16 rfl (lv_at hl 0 rfl) ?_
      refine lv_iconst (v := 0) hx hb dX5_ofChild_17 (by decide) ?_
      obtain ⟨⟨r14, v15⟩, h13, hF⟩ := bi_some hF
      dsimp only at hF
      refine k_i hS (kV_run M hS hP ok_X5_48 (c_X5_finding l G 0 v r14 v15 h13) (rc_5 M hP rfl) rfl hl.1 rfl (Nat.le_of_ble_eq_true rfl) ⟨rfl, rfl⟩ ⟨Nat.le_of_ble_eq_true rfl, Nat.le_of_ble_eq_true rfl⟩ dX5_ofChild_18) (fun H locs hP hS => ?_)
      exact ret_i M hS hP (Option.some.inj hF) dX5_ofChild_21
def F_X5_teach (a1 : Int32) (a2 : Int32) (a3 : Int32) (v : VV) : Option (Int32 × VV) :=
  Option.bind (F_X5_isChild a1 v) (fun r2 => (if r2 = true then (Option.bind (F_X5_isUpTo a2 3 v) (fun r9 => (if r9 = true then (gu (gI a2 4) (Option.bind (F_X5_isUpTo a3 (stA 4 ((a2).toNatClampNeg)) v) (fun r17 => (if r17 = true then (gu (gI a1 6) (gu (gI a2 4) (gu (gI a2 4) (some (v (((25 + 4) + 17 + ((a1).toNatClampNeg)) + 6) ((a2).toNatClampNeg), pu v (((25 + 4) + 17 + ((a1).toNatClampNeg)) + 6) ((a2).toNatClampNeg) a3))))) else (Option.bind (F_X5_finding 0 v) (fun (r23, v24) => some (r23, v24))))))) else (Option.bind (F_X5_finding 0 v) (fun (r12, v13) => some (r12, v13)))))) else (Option.bind (F_X5_finding 0 v) (fun (r5, v6) => some (r5, v6)))))
set_option maxHeartbeats 4000000 in
set_option maxRecDepth 100000 in
theorem c_X5_teach (l : Launch) (G : GG) (a1 : Int32) (a2 : Int32) (a3 : Int32) (v : VV) (r : Int32) (v' : VV) (hF : F_X5_teach a1 a2 a3 v = some (r, v')) : Met l yX5_teach (cdW yX5_teach cX5_teach 6 (some .int)) ({ frames := 1, cells := 0, slots := 0, locals := 21 } : Room) (PC G v [.ref (ad G 12), .int a1, .int a2, .int a3]) (QI G r v') 0 0 (gA G) := by
  refine met_in RX5 (by decide) rfl (Nat.le_of_ble_eq_true rfl) ?_
  intro p e s m below meth c M hP ls hl
  have hx := M.1.1
  have hb := M.1.2.1
  have hS : va_S (gA G) s.heap s.heap [] := va_S.rf
  have hl : lv_has ls 6 [(0, .ref (ad G 12)), (1, .int a1), (2, .int a2), (3, .int a3)] := hl
  unfold F_X5_teach at hF
  refine lv_aload_n hx hb dX5_teach_0 rfl (lv_at hl 0 rfl) ?_
  refine lv_iload_n hx hb dX5_teach_1 rfl (lv_at hl 1 rfl) ?_
  obtain ⟨r2, h1, hF⟩ := bi_some hF
  refine k_i hS (kV_run M hS hP ok_X5_88 (c_X5_isChild l G a1 v r2 h1) (rc_5 M hP rfl) rfl hl.1 rfl (Nat.le_of_ble_eq_true rfl) ⟨rfl, rfl⟩ ⟨Nat.le_of_ble_eq_true rfl, Nat.le_of_ble_eq_true rfl⟩ dX5_teach_2) (fun H locs hP hS => ?_)
  refine lv_if_eq (tgt := 28) hx hb dX5_teach_5 (by decide) (fun c3 => ?_) (fun c3 => ?_)
  · replace hF := (if_neg (bI_f c3)).symm.trans hF
    refine lv_aload_n hx hb dX5_teach_28 rfl (lv_at hl 0 rfl) ?_
    refine lv_iconst (v := 0) hx hb dX5_teach_29 (by decide) ?_
    obtain ⟨⟨r5, v6⟩, h4, hF⟩ := bi_some hF
    dsimp only at hF
    refine k_i hS (kV_run M hS hP ok_X5_48 (c_X5_finding l G 0 v r5 v6 h4) (rc_5 M hP rfl) rfl hl.1 rfl (Nat.le_of_ble_eq_true rfl) ⟨rfl, rfl⟩ ⟨Nat.le_of_ble_eq_true rfl, Nat.le_of_ble_eq_true rfl⟩ dX5_teach_30) (fun H locs hP hS => ?_)
    exact ret_i M hS hP (Option.some.inj hF) dX5_teach_33
  · replace hF := (if_pos (bI_t c3)).symm.trans hF
    refine lv_iload_n hx hb dX5_teach_8 rfl (lv_at hl 2 rfl) ?_
    refine lv_iconst (v := 3) hx hb dX5_teach_9 (by decide) ?_
    obtain ⟨r9, h8, hF⟩ := bi_some hF
    refine k_i hS (kS_run M hS hP ok_X5_44 (c_X5_isUpTo l G a2 3 v r9 h8) rfl hl.1 rfl (Nat.le_of_ble_eq_true rfl) ⟨rfl, rfl⟩ ⟨Nat.le_of_ble_eq_true rfl, Nat.le_of_ble_eq_true rfl⟩ dX5_teach_10) (fun H locs hP hS => ?_)
    refine lv_if_eq (tgt := 28) hx hb dX5_teach_13 (by decide) (fun c10 => ?_) (fun c10 => ?_)
    · replace hF := (if_neg (bI_f c10)).symm.trans hF
      refine lv_aload_n hx hb dX5_teach_28 rfl (lv_at hl 0 rfl) ?_
      refine lv_iconst (v := 0) hx hb dX5_teach_29 (by decide) ?_
      obtain ⟨⟨r12, v13⟩, h11, hF⟩ := bi_some hF
      dsimp only at hF
      refine k_i hS (kV_run M hS hP ok_X5_48 (c_X5_finding l G 0 v r12 v13 h11) (rc_5 M hP rfl) rfl hl.1 rfl (Nat.le_of_ble_eq_true rfl) ⟨rfl, rfl⟩ ⟨Nat.le_of_ble_eq_true rfl, Nat.le_of_ble_eq_true rfl⟩ dX5_teach_30) (fun H locs hP hS => ?_)
      exact ret_i M hS hP (Option.some.inj hF) dX5_teach_33
    · replace hF := (if_pos (bI_t c10)).symm.trans hF
      refine lv_iload_n hx hb dX5_teach_16 rfl (lv_at hl 3 rfl) ?_
      refine fs_5_98 M hS dX5_teach_17 ?_
      refine lv_iload_n hx hb dX5_teach_20 rfl (lv_at hl 2 rfl) ?_
      obtain ⟨g15, hF⟩ := gu_some hF
      refine r_sald (k := (a2).toNatClampNeg) M hS (t := 4) (by decide) rfl (in_c g15) rfl dX5_teach_21 ?_
      obtain ⟨r17, h16, hF⟩ := bi_some hF
      refine k_i hS (kS_run M hS hP ok_X5_44 (c_X5_isUpTo l G a3 (stA 4 ((a2).toNatClampNeg)) v r17 h16) rfl hl.1 rfl (Nat.le_of_ble_eq_true rfl) ⟨rfl, rfl⟩ ⟨Nat.le_of_ble_eq_true rfl, Nat.le_of_ble_eq_true rfl⟩ dX5_teach_22) (fun H locs hP hS => ?_)
      refine lv_if_ne (tgt := 34) hx hb dX5_teach_25 (by decide) (fun c18 => ?_) (fun c18 => ?_)
      · replace hF := (if_pos (bI_t c18)).symm.trans hF
        refine lv_aload_n hx hb dX5_teach_34 rfl (lv_at hl 0 rfl) ?_
        refine fg_5_10 M hP dX5_teach_35 ?_
        refine fg_5_93 M hP rfl dX5_teach_38 ?_
        refine lv_iload_n hx hb dX5_teach_41 rfl (lv_at hl 1 rfl) ?_
        obtain ⟨g19, hF⟩ := gu_some hF
        refine r_aald9 (k := (a1).toNatClampNeg) M hP (ge_1_4k (i := 25) rfl) (ge_9l (i := (25 + 4)) (ge_1_4k (i := 25) rfl)) (in_c g19) rfl dX5_teach_42 ?_
        refine fg_5_97 M hP (ge_9k (i := (25 + 4)) (k := (a1).toNatClampNeg) (ge_1_4k (i := 25) rfl) (vin_lt (in_c g19))) dX5_teach_43 ?_
        refine lv_astore (lv' := [(4, .ref (ad G (((25 + 4) + 17 + ((a1).toNatClampNeg)) + 6))), (0, .ref (ad G 12)), (1, .int a1), (2, .int a2), (3, .int a3)]) hx hb dX5_teach_46 hl (by decide) rfl (fun ls hl => ?_)
        refine lv_aload hx hb dX5_teach_48 (lv_at hl 0 rfl) ?_
        refine lv_iload_n hx hb dX5_teach_50 rfl (lv_at hl 3 rfl) ?_
        obtain ⟨g20, hF⟩ := gu_some hF
        refine r_iald (k := (a2).toNatClampNeg) M hP (ge_0k (i := ((25 + 4) + 17 + ((a1).toNatClampNeg))) (ge_9k (i := (25 + 4)) (k := (a1).toNatClampNeg) (ge_1_4k (i := 25) rfl) (vin_lt (in_c g19)))) (ge_0l (i := ((25 + 4) + 17 + ((a1).toNatClampNeg))) (ge_9k (i := (25 + 4)) (k := (a1).toNatClampNeg) (ge_1_4k (i := 25) rfl) (vin_lt (in_c g19)))) (in_c g20) rfl dX5_teach_51 ?_
        refine lv_istore (lv' := [(5, .int (v (((25 + 4) + 17 + ((a1).toNatClampNeg)) + 6) ((a2).toNatClampNeg))), (4, .ref (ad G (((25 + 4) + 17 + ((a1).toNatClampNeg)) + 6))), (0, .ref (ad G 12)), (1, .int a1), (2, .int a2), (3, .int a3)]) hx hb dX5_teach_52 hl (by decide) rfl (fun ls hl => ?_)
        refine lv_aload hx hb dX5_teach_54 (lv_at hl 1 rfl) ?_
        refine lv_iload_n hx hb dX5_teach_56 rfl (lv_at hl 4 rfl) ?_
        refine lv_iload_n hx hb dX5_teach_57 rfl (lv_at hl 5 rfl) ?_
        obtain ⟨g21, hF⟩ := gu_some hF
        refine r_iast (k := (a2).toNatClampNeg) M hS hP (ge_0k (i := ((25 + 4) + 17 + ((a1).toNatClampNeg))) (ge_9k (i := (25 + 4)) (k := (a1).toNatClampNeg) (ge_1_4k (i := 25) rfl) (vin_lt (in_c g19)))) (ge_0l (i := ((25 + 4) + 17 + ((a1).toNatClampNeg))) (ge_9k (i := (25 + 4)) (k := (a1).toNatClampNeg) (ge_1_4k (i := 25) rfl) (vin_lt (in_c g19)))) (in_c g21) rfl dX5_teach_58 (fun H locs hP hS => ?_)
        have hP : Wd G (pu v (((25 + 4) + 17 + ((a1).toNatClampNeg)) + 6) ((a2).toNatClampNeg) a3) H := hP
        refine lv_iload hx hb dX5_teach_59 (lv_at hl 0 rfl) ?_
        exact ret_i M hS hP (Option.some.inj hF) dX5_teach_61
      · replace hF := (if_neg (bI_f c18)).symm.trans hF
        refine lv_aload_n hx hb dX5_teach_28 rfl (lv_at hl 0 rfl) ?_
        refine lv_iconst (v := 0) hx hb dX5_teach_29 (by decide) ?_
        obtain ⟨⟨r23, v24⟩, h22, hF⟩ := bi_some hF
        dsimp only at hF
        refine k_i hS (kV_run M hS hP ok_X5_48 (c_X5_finding l G 0 v r23 v24 h22) (rc_5 M hP rfl) rfl hl.1 rfl (Nat.le_of_ble_eq_true rfl) ⟨rfl, rfl⟩ ⟨Nat.le_of_ble_eq_true rfl, Nat.le_of_ble_eq_true rfl⟩ dX5_teach_30) (fun H locs hP hS => ?_)
        exact ret_i M hS hP (Option.some.inj hF) dX5_teach_33
def L_X5_hears_30 : Nat → Int32 → Int32 → Int32 → Int32 → VV → Option (Int32 × VV)
  | 0, _, _, _, _, _ => none
  | n + 1, x1, x2, x3, x4, v =>
  if (v 25 4) ≤ x4 then (some (x3, v)) else (Option.bind (F_X1_isHeard 25 x4 x1 x2 v) (fun r16 => (if r16 = true then (L_X5_hears_30 n x1 x2 (x3 ||| (1 <<< (x4 &&& 31))) (x4 + 1) v) else (L_X5_hears_30 n x1 x2 x3 (x4 + 1) v))))
def F_X5_hears (a1 : Int32) (a2 : Int32) (v : VV) : Option (Int32 × VV) :=
  Option.bind (F_X5_isChild a1 v) (fun r2 => (if r2 = true then (if a2 < 1 then (Option.bind (F_X5_finding 0 v) (fun (r10, v11) => some (r10, v11))) else (if a2 ≤ 9 then (L_X5_hears_30 fu a1 a2 0 0 v) else (Option.bind (F_X5_finding 0 v) (fun (r19, v20) => some (r19, v20))))) else (Option.bind (F_X5_finding 0 v) (fun (r5, v6) => some (r5, v6)))))
set_option maxHeartbeats 4000000 in
set_option maxRecDepth 100000 in
theorem l_X5_hears_30 {p : Program} {l : Launch} {e : Env} {s : State} {m : MethodId} {args : Array Value} {below : List Frame} {meth : Method} {c : Code} {G : GG} (M : Mx G RX5 cX5_hears 5 (some .int) p s m args meth c) (r : Int32) (v' : VV) : ∀ (n : Nat) (x1 : Int32) (x2 : Int32) (x3 : Int32) (x4 : Int32) (v : VV) (H : Heap) (locs : List Loc) (ls : Array Slot), L_X5_hears_30 n x1 x2 x3 x4 v = some (r, v') → Wd G v H → va_S (gA G) s.heap H locs → lv_has ls 5 [(0, .ref (ad G 12)), (1, .int x1), (2, .int x2), (3, .int x3), (4, .int x4)] → W p l e ({ frames := 3, cells := 0, slots := 0, locals := 66 } : Room) s m args below meth c H locs 0 0 (MQ below (QI G r v') args s 0 0 (gA G)) (F0 m 30 ls []) := by
  have hx := M.1.1
  have hb := M.1.2.1
  intro n
  induction n with
  | zero =>
    intro x1 x2 x3 x4 v H locs ls hF hP hS hl
    rw [L_X5_hears_30] at hF
    cases hF
  | succ n ih =>
    intro x1 x2 x3 x4 v H locs ls hF hP hS hl
    rw [L_X5_hears_30] at hF
    refine lv_iload hx hb dX5_hears_30 (lv_at hl 4 rfl) ?_
    refine lv_aload_n hx hb dX5_hears_32 rfl (lv_at hl 0 rfl) ?_
    refine fg_5_10 M hP dX5_hears_33 ?_
    refine fg_5_99 M hP rfl dX5_hears_36 ?_
    refine lv_icmp_ge (tgt := 69) hx hb dX5_hears_39 (by decide) (fun c14 => ?_) (fun c14 => ?_)
    · replace hF := (if_pos c14).symm.trans hF
      refine lv_iload_n hx hb dX5_hears_69 rfl (lv_at hl 3 rfl) ?_
      exact ret_i M hS hP (Option.some.inj hF) dX5_hears_70
    · replace hF := (if_neg c14).symm.trans hF
      refine lv_aload_n hx hb dX5_hears_42 rfl (lv_at hl 0 rfl) ?_
      refine fg_5_10 M hP dX5_hears_43 ?_
      refine lv_iload hx hb dX5_hears_46 (lv_at hl 4 rfl) ?_
      refine lv_iload_n hx hb dX5_hears_48 rfl (lv_at hl 1 rfl) ?_
      refine lv_iload_n hx hb dX5_hears_49 rfl (lv_at hl 2 rfl) ?_
      obtain ⟨r16, h15, hF⟩ := bi_some hF
      refine k_i hS (kV_run M hS hP ok_X5_103 (c_X1_isHeard l G 25 rfl x4 x1 x2 v r16 h15) (rc_1 M hP rfl) rfl hl.1 rfl (Nat.le_of_ble_eq_true rfl) ⟨rfl, rfl⟩ ⟨Nat.le_of_ble_eq_true rfl, Nat.le_of_ble_eq_true rfl⟩ dX5_hears_50) (fun H locs hP hS => ?_)
      refine lv_if_eq (tgt := 63) hx hb dX5_hears_53 (by decide) (fun c17 => ?_) (fun c17 => ?_)
      · replace hF := (if_neg (bI_f c17)).symm.trans hF
        refine lv_iinc (v := (x4 + 1)) (lv' := [(4, .int (x4 + 1)), (0, .ref (ad G 12)), (1, .int x1), (2, .int x2), (3, .int x3)]) hx hb dX5_hears_63 hl (k := 4) rfl (iinc_eq _ (by decide)) (by decide) rfl (fun ls hl => ?_)
        refine lv_goto (tgt := 30) hx hb dX5_hears_66 (by decide) ?_
        exact ih x1 x2 x3 (x4 + 1) _ _ _ ls hF hP hS (lv_sub hl [1, 2, 3, 4, 0] rfl)
      · replace hF := (if_pos (bI_t c17)).symm.trans hF
        refine lv_iload_n hx hb dX5_hears_56 rfl (lv_at hl 3 rfl) ?_
        refine lv_iconst (v := 1) hx hb dX5_hears_57 (by decide) ?_
        refine lv_iload hx hb dX5_hears_58 (lv_at hl 4 rfl) ?_
        refine lv_ishl hx hb dX5_hears_60 ?_
        refine lv_ior hx hb dX5_hears_61 ?_
        refine lv_istore_n (lv' := [(3, .int (x3 ||| (1 <<< (x4 &&& 31)))), (0, .ref (ad G 12)), (1, .int x1), (2, .int x2), (4, .int x4)]) hx hb dX5_hears_62 rfl hl (by decide) rfl (fun ls hl => ?_)
        refine lv_iinc (v := (x4 + 1)) (lv' := [(4, .int (x4 + 1)), (3, .int (x3 ||| (1 <<< (x4 &&& 31)))), (0, .ref (ad G 12)), (1, .int x1), (2, .int x2)]) hx hb dX5_hears_63 hl (k := 4) rfl (iinc_eq _ (by decide)) (by decide) rfl (fun ls hl => ?_)
        refine lv_goto (tgt := 30) hx hb dX5_hears_66 (by decide) ?_
        exact ih x1 x2 (x3 ||| (1 <<< (x4 &&& 31))) (x4 + 1) _ _ _ ls hF hP hS (lv_sub hl [2, 3, 4, 1, 0] rfl)
set_option maxHeartbeats 4000000 in
set_option maxRecDepth 100000 in
theorem c_X5_hears (l : Launch) (G : GG) (a1 : Int32) (a2 : Int32) (v : VV) (r : Int32) (v' : VV) (hF : F_X5_hears a1 a2 v = some (r, v')) : Met l yX5_hears (cdW yX5_hears cX5_hears 5 (some .int)) ({ frames := 3, cells := 0, slots := 0, locals := 66 } : Room) (PC G v [.ref (ad G 12), .int a1, .int a2]) (QI G r v') 0 0 (gA G) := by
  refine met_in RX5 (by decide) rfl (Nat.le_of_ble_eq_true rfl) ?_
  intro p e s m below meth c M hP ls hl
  have hx := M.1.1
  have hb := M.1.2.1
  have hS : va_S (gA G) s.heap s.heap [] := va_S.rf
  have hl : lv_has ls 5 [(0, .ref (ad G 12)), (1, .int a1), (2, .int a2)] := hl
  unfold F_X5_hears at hF
  refine lv_aload_n hx hb dX5_hears_0 rfl (lv_at hl 0 rfl) ?_
  refine lv_iload_n hx hb dX5_hears_1 rfl (lv_at hl 1 rfl) ?_
  obtain ⟨r2, h1, hF⟩ := bi_some hF
  refine k_i hS (kV_run M hS hP ok_X5_88 (c_X5_isChild l G a1 v r2 h1) (rc_5 M hP rfl) rfl hl.1 rfl (Nat.le_of_ble_eq_true rfl) ⟨rfl, rfl⟩ ⟨Nat.le_of_ble_eq_true rfl, Nat.le_of_ble_eq_true rfl⟩ dX5_hears_2) (fun H locs hP hS => ?_)
  refine lv_if_eq (tgt := 19) hx hb dX5_hears_5 (by decide) (fun c3 => ?_) (fun c3 => ?_)
  · replace hF := (if_neg (bI_f c3)).symm.trans hF
    refine lv_aload_n hx hb dX5_hears_19 rfl (lv_at hl 0 rfl) ?_
    refine lv_iconst (v := 0) hx hb dX5_hears_20 (by decide) ?_
    obtain ⟨⟨r5, v6⟩, h4, hF⟩ := bi_some hF
    dsimp only at hF
    refine k_i hS (kV_run M hS hP ok_X5_48 (c_X5_finding l G 0 v r5 v6 h4) (rc_5 M hP rfl) rfl hl.1 rfl (Nat.le_of_ble_eq_true rfl) ⟨rfl, rfl⟩ ⟨Nat.le_of_ble_eq_true rfl, Nat.le_of_ble_eq_true rfl⟩ dX5_hears_21) (fun H locs hP hS => ?_)
    exact ret_i M hS hP (Option.some.inj hF) dX5_hears_24
  · replace hF := (if_pos (bI_t c3)).symm.trans hF
    refine lv_iload_n hx hb dX5_hears_8 rfl (lv_at hl 2 rfl) ?_
    refine lv_iconst (v := 1) hx hb dX5_hears_9 (by decide) ?_
    refine lv_icmp_lt (tgt := 19) hx hb dX5_hears_10 (by decide) (fun c8 => ?_) (fun c8 => ?_)
    · replace hF := (if_pos c8).symm.trans hF
      refine lv_aload_n hx hb dX5_hears_19 rfl (lv_at hl 0 rfl) ?_
      refine lv_iconst (v := 0) hx hb dX5_hears_20 (by decide) ?_
      obtain ⟨⟨r10, v11⟩, h9, hF⟩ := bi_some hF
      dsimp only at hF
      refine k_i hS (kV_run M hS hP ok_X5_48 (c_X5_finding l G 0 v r10 v11 h9) (rc_5 M hP rfl) rfl hl.1 rfl (Nat.le_of_ble_eq_true rfl) ⟨rfl, rfl⟩ ⟨Nat.le_of_ble_eq_true rfl, Nat.le_of_ble_eq_true rfl⟩ dX5_hears_21) (fun H locs hP hS => ?_)
      exact ret_i M hS hP (Option.some.inj hF) dX5_hears_24
    · replace hF := (if_neg c8).symm.trans hF
      refine lv_iload_n hx hb dX5_hears_13 rfl (lv_at hl 2 rfl) ?_
      refine lv_bipush (v := 9) hx hb dX5_hears_14 (by decide) ?_
      refine lv_icmp_le (tgt := 25) hx hb dX5_hears_16 (by decide) (fun c13 => ?_) (fun c13 => ?_)
      · replace hF := (if_pos c13).symm.trans hF
        refine lv_iconst (v := 0) hx hb dX5_hears_25 (by decide) ?_
        refine lv_istore_n (lv' := [(3, .int 0), (0, .ref (ad G 12)), (1, .int a1), (2, .int a2)]) hx hb dX5_hears_26 rfl hl (by decide) rfl (fun ls hl => ?_)
        refine lv_iconst (v := 0) hx hb dX5_hears_27 (by decide) ?_
        refine lv_istore (lv' := [(4, .int 0), (3, .int 0), (0, .ref (ad G 12)), (1, .int a1), (2, .int a2)]) hx hb dX5_hears_28 hl (by decide) rfl (fun ls hl => ?_)
        exact l_X5_hears_30 M _ _ fu a1 a2 0 0 _ _ _ ls hF hP hS (lv_sub hl [2, 3, 4, 1, 0] rfl)
      · replace hF := (if_neg c13).symm.trans hF
        refine lv_aload_n hx hb dX5_hears_19 rfl (lv_at hl 0 rfl) ?_
        refine lv_iconst (v := 0) hx hb dX5_hears_20 (by decide) ?_
        obtain ⟨⟨r19, v20⟩, h18, hF⟩ := bi_some hF
        dsimp only at hF
        refine k_i hS (kV_run M hS hP ok_X5_48 (c_X5_finding l G 0 v r19 v20 h18) (rc_5 M hP rfl) rfl hl.1 rfl (Nat.le_of_ble_eq_true rfl) ⟨rfl, rfl⟩ ⟨Nat.le_of_ble_eq_true rfl, Nat.le_of_ble_eq_true rfl⟩ dX5_hears_21) (fun H locs hP hS => ?_)
        exact ret_i M hS hP (Option.some.inj hF) dX5_hears_24
def F_X5_go (a1 : Int32) (v : VV) : Option (Int32 × VV) :=
  if a1 < 1 then (Option.bind (F_X5_finding 0 v) (fun (r3, v4) => some (r3, v4))) else (if a1 ≤ 60 then (if ((v 25 6) + a1) ≤ 99999 then (Option.bind (F_X1_passDays 25 a1 v) (fun v10 => Option.bind (F_X1_learntTogether 25 v10) (fun r12 => some (r12, v10)))) else (Option.bind (F_X5_finding 4 v) (fun (r14, v15) => some (r14, v15)))) else (Option.bind (F_X5_finding 0 v) (fun (r18, v19) => some (r18, v19))))
set_option maxHeartbeats 4000000 in
set_option maxRecDepth 100000 in
theorem c_X5_go (l : Launch) (G : GG) (a1 : Int32) (v : VV) (r : Int32) (v' : VV) (hF : F_X5_go a1 v = some (r, v')) : Met l yX5_go (cdW yX5_go cX5_go 2 (some .int)) ({ frames := 5, cells := 0, slots := 0, locals := 114 } : Room) (PC G v [.ref (ad G 12), .int a1]) (QI G r v') 0 0 (gA G) := by
  refine met_in RX5 (by decide) rfl (Nat.le_of_ble_eq_true rfl) ?_
  intro p e s m below meth c M hP ls hl
  have hx := M.1.1
  have hb := M.1.2.1
  have hS : va_S (gA G) s.heap s.heap [] := va_S.rf
  have hl : lv_has ls 2 [(0, .ref (ad G 12)), (1, .int a1)] := hl
  unfold F_X5_go at hF
  refine lv_iload_n hx hb dX5_go_0 rfl (lv_at hl 1 rfl) ?_
  refine lv_iconst (v := 1) hx hb dX5_go_1 (by decide) ?_
  refine lv_icmp_lt (tgt := 11) hx hb dX5_go_2 (by decide) (fun c1 => ?_) (fun c1 => ?_)
  · replace hF := (if_pos c1).symm.trans hF
    refine lv_aload_n hx hb dX5_go_11 rfl (lv_at hl 0 rfl) ?_
    refine lv_iconst (v := 0) hx hb dX5_go_12 (by decide) ?_
    obtain ⟨⟨r3, v4⟩, h2, hF⟩ := bi_some hF
    dsimp only at hF
    refine k_i hS (kV_run M hS hP ok_X5_48 (c_X5_finding l G 0 v r3 v4 h2) (rc_5 M hP rfl) rfl hl.1 rfl (Nat.le_of_ble_eq_true rfl) ⟨rfl, rfl⟩ ⟨Nat.le_of_ble_eq_true rfl, Nat.le_of_ble_eq_true rfl⟩ dX5_go_13) (fun H locs hP hS => ?_)
    exact ret_i M hS hP (Option.some.inj hF) dX5_go_16
  · replace hF := (if_neg c1).symm.trans hF
    refine lv_iload_n hx hb dX5_go_5 rfl (lv_at hl 1 rfl) ?_
    refine lv_bipush (v := 60) hx hb dX5_go_6 (by decide) ?_
    refine lv_icmp_le (tgt := 17) hx hb dX5_go_8 (by decide) (fun c6 => ?_) (fun c6 => ?_)
    · replace hF := (if_pos c6).symm.trans hF
      refine lv_aload_n hx hb dX5_go_17 rfl (lv_at hl 0 rfl) ?_
      refine fg_5_10 M hP dX5_go_18 ?_
      refine fg_5_107 M hP rfl dX5_go_21 ?_
      refine lv_iload_n hx hb dX5_go_24 rfl (lv_at hl 1 rfl) ?_
      refine lv_iadd hx hb dX5_go_25 ?_
      refine lv_ldc (own := RX5) (v := 99999) hx hb M.1.2.2.2.1 (M.1.2.2.2.2 (Cond.constant RX5 110 99999) w_300) dX5_go_26 ?_
      refine lv_icmp_le (tgt := 37) hx hb dX5_go_28 (by decide) (fun c7 => ?_) (fun c7 => ?_)
      · replace hF := (if_pos c7).symm.trans hF
        refine lv_aload_n hx hb dX5_go_37 rfl (lv_at hl 0 rfl) ?_
        refine fg_5_10 M hP dX5_go_38 ?_
        refine lv_iload_n hx hb dX5_go_41 rfl (lv_at hl 1 rfl) ?_
        obtain ⟨v10, h8, hF⟩ := bi_some hF
        refine k_v hS (kV_run M hS hP ok_X5_111 (c_X1_passDays l G 25 rfl a1 v v10 h8) (rc_1 M hP rfl) rfl hl.1 rfl (Nat.le_of_ble_eq_true rfl) ⟨rfl, rfl⟩ ⟨Nat.le_of_ble_eq_true rfl, Nat.le_of_ble_eq_true rfl⟩ dX5_go_42) (fun H locs hP hS => ?_)
        refine lv_aload_n hx hb dX5_go_45 rfl (lv_at hl 0 rfl) ?_
        refine fg_5_10 M hP dX5_go_46 ?_
        obtain ⟨r12, h11, hF⟩ := bi_some hF
        refine k_i hS (kV_run M hS hP ok_X5_115 (c_X1_learntTogether l G 25 rfl v10 r12 h11) (rc_1 M hP rfl) rfl hl.1 rfl (Nat.le_of_ble_eq_true rfl) ⟨rfl, rfl⟩ ⟨Nat.le_of_ble_eq_true rfl, Nat.le_of_ble_eq_true rfl⟩ dX5_go_49) (fun H locs hP hS => ?_)
        exact ret_i M hS hP (Option.some.inj hF) dX5_go_52
      · replace hF := (if_neg c7).symm.trans hF
        refine lv_aload_n hx hb dX5_go_31 rfl (lv_at hl 0 rfl) ?_
        refine lv_iconst (v := 4) hx hb dX5_go_32 (by decide) ?_
        obtain ⟨⟨r14, v15⟩, h13, hF⟩ := bi_some hF
        dsimp only at hF
        refine k_i hS (kV_run M hS hP ok_X5_48 (c_X5_finding l G 4 v r14 v15 h13) (rc_5 M hP rfl) rfl hl.1 rfl (Nat.le_of_ble_eq_true rfl) ⟨rfl, rfl⟩ ⟨Nat.le_of_ble_eq_true rfl, Nat.le_of_ble_eq_true rfl⟩ dX5_go_33) (fun H locs hP hS => ?_)
        exact ret_i M hS hP (Option.some.inj hF) dX5_go_36
    · replace hF := (if_neg c6).symm.trans hF
      refine lv_aload_n hx hb dX5_go_11 rfl (lv_at hl 0 rfl) ?_
      refine lv_iconst (v := 0) hx hb dX5_go_12 (by decide) ?_
      obtain ⟨⟨r18, v19⟩, h17, hF⟩ := bi_some hF
      dsimp only at hF
      refine k_i hS (kV_run M hS hP ok_X5_48 (c_X5_finding l G 0 v r18 v19 h17) (rc_5 M hP rfl) rfl hl.1 rfl (Nat.le_of_ble_eq_true rfl) ⟨rfl, rfl⟩ ⟨Nat.le_of_ble_eq_true rfl, Nat.le_of_ble_eq_true rfl⟩ dX5_go_13) (fun H locs hP hS => ?_)
      exact ret_i M hS hP (Option.some.inj hF) dX5_go_16
def F_X5_now (a1 : Int32) (v : VV) : Option (Int32 × VV) :=
  if a1 = 0 then (some (v 25 6, v)) else (if a1 = 1 then (Option.bind (F_X1_learntTogether 25 v) (fun r4 => some (r4, v))) else (if a1 = 2 then (Option.bind (F_X1_notesOfAll 25 2 v) (fun r7 => some (r7, v))) else (if a1 = 3 then (Option.bind (F_X1_notesOfAll 25 3 v) (fun r10 => some (r10, v))) else (if a1 = 4 then (Option.bind (F_X1_notesGiven 25 v) (fun r13 => some (r13, v))) else (if a1 = 5 then (Option.bind (F_X1_tiredTogether 25 v) (fun r16 => some (r16, v))) else (if a1 = 6 then (Option.bind (F_X1_childrenWhoLearntAll 25 v) (fun r19 => some (r19, v))) else (if a1 = 7 then (Option.bind (F_X1_thickness 25 v) (fun r22 => some (r22, v))) else (Option.bind (F_X5_finding 0 v) (fun (r24, v25) => some (r24, v25))))))))))
set_option maxHeartbeats 4000000 in
set_option maxRecDepth 100000 in
theorem c_X5_now (l : Launch) (G : GG) (a1 : Int32) (v : VV) (r : Int32) (v' : VV) (hF : F_X5_now a1 v = some (r, v')) : Met l yX5_now (cdW yX5_now cX5_now 2 (some .int)) ({ frames := 2, cells := 0, slots := 0, locals := 43 } : Room) (PC G v [.ref (ad G 12), .int a1]) (QI G r v') 0 0 (gA G) := by
  refine met_in RX5 (by decide) rfl (Nat.le_of_ble_eq_true rfl) ?_
  intro p e s m below meth c M hP ls hl
  have hx := M.1.1
  have hb := M.1.2.1
  have hS : va_S (gA G) s.heap s.heap [] := va_S.rf
  have hl : lv_has ls 2 [(0, .ref (ad G 12)), (1, .int a1)] := hl
  unfold F_X5_now at hF
  refine lv_iload_n hx hb dX5_now_0 rfl (lv_at hl 1 rfl) ?_
  rcases Decidable.em (a1 = 0) with c1 | c1
  · replace hF := (if_pos c1).symm.trans hF
    refine lv_tableIn (tgt := 48) hx hb dX5_now_1 (by rw [c1]; decide) (by rw [c1]; decide) (by rw [c1]; rfl) (by decide) ?_
    refine lv_aload_n hx hb dX5_now_48 rfl (lv_at hl 0 rfl) ?_
    refine fg_5_10 M hP dX5_now_49 ?_
    refine fg_5_107 M hP rfl dX5_now_52 ?_
    exact ret_i M hS hP (Option.some.inj hF) dX5_now_55
  · replace hF := (if_neg c1).symm.trans hF
    rcases Decidable.em (a1 = 1) with c2 | c2
    · replace hF := (if_pos c2).symm.trans hF
      refine lv_tableIn (tgt := 56) hx hb dX5_now_1 (by rw [c2]; decide) (by rw [c2]; decide) (by rw [c2]; rfl) (by decide) ?_
      refine lv_aload_n hx hb dX5_now_56 rfl (lv_at hl 0 rfl) ?_
      refine fg_5_10 M hP dX5_now_57 ?_
      obtain ⟨r4, h3, hF⟩ := bi_some hF
      refine k_i hS (kV_run M hS hP ok_X5_115 (c_X1_learntTogether l G 25 rfl v r4 h3) (rc_1 M hP rfl) rfl hl.1 rfl (Nat.le_of_ble_eq_true rfl) ⟨rfl, rfl⟩ ⟨Nat.le_of_ble_eq_true rfl, Nat.le_of_ble_eq_true rfl⟩ dX5_now_60) (fun H locs hP hS => ?_)
      exact ret_i M hS hP (Option.some.inj hF) dX5_now_63
    · replace hF := (if_neg c2).symm.trans hF
      rcases Decidable.em (a1 = 2) with c5 | c5
      · replace hF := (if_pos c5).symm.trans hF
        refine lv_tableIn (tgt := 64) hx hb dX5_now_1 (by rw [c5]; decide) (by rw [c5]; decide) (by rw [c5]; rfl) (by decide) ?_
        refine lv_aload_n hx hb dX5_now_64 rfl (lv_at hl 0 rfl) ?_
        refine fg_5_10 M hP dX5_now_65 ?_
        refine lv_iconst (v := 2) hx hb dX5_now_68 (by decide) ?_
        obtain ⟨r7, h6, hF⟩ := bi_some hF
        refine k_i hS (kV_run M hS hP ok_X5_119 (c_X1_notesOfAll l G 25 rfl 2 v r7 h6) (rc_1 M hP rfl) rfl hl.1 rfl (Nat.le_of_ble_eq_true rfl) ⟨rfl, rfl⟩ ⟨Nat.le_of_ble_eq_true rfl, Nat.le_of_ble_eq_true rfl⟩ dX5_now_69) (fun H locs hP hS => ?_)
        exact ret_i M hS hP (Option.some.inj hF) dX5_now_72
      · replace hF := (if_neg c5).symm.trans hF
        rcases Decidable.em (a1 = 3) with c8 | c8
        · replace hF := (if_pos c8).symm.trans hF
          refine lv_tableIn (tgt := 73) hx hb dX5_now_1 (by rw [c8]; decide) (by rw [c8]; decide) (by rw [c8]; rfl) (by decide) ?_
          refine lv_aload_n hx hb dX5_now_73 rfl (lv_at hl 0 rfl) ?_
          refine fg_5_10 M hP dX5_now_74 ?_
          refine lv_iconst (v := 3) hx hb dX5_now_77 (by decide) ?_
          obtain ⟨r10, h9, hF⟩ := bi_some hF
          refine k_i hS (kV_run M hS hP ok_X5_119 (c_X1_notesOfAll l G 25 rfl 3 v r10 h9) (rc_1 M hP rfl) rfl hl.1 rfl (Nat.le_of_ble_eq_true rfl) ⟨rfl, rfl⟩ ⟨Nat.le_of_ble_eq_true rfl, Nat.le_of_ble_eq_true rfl⟩ dX5_now_78) (fun H locs hP hS => ?_)
          exact ret_i M hS hP (Option.some.inj hF) dX5_now_81
        · replace hF := (if_neg c8).symm.trans hF
          rcases Decidable.em (a1 = 4) with c11 | c11
          · replace hF := (if_pos c11).symm.trans hF
            refine lv_tableIn (tgt := 82) hx hb dX5_now_1 (by rw [c11]; decide) (by rw [c11]; decide) (by rw [c11]; rfl) (by decide) ?_
            refine lv_aload_n hx hb dX5_now_82 rfl (lv_at hl 0 rfl) ?_
            refine fg_5_10 M hP dX5_now_83 ?_
            obtain ⟨r13, h12, hF⟩ := bi_some hF
            refine k_i hS (kV_run M hS hP ok_X5_122 (c_X1_notesGiven l G 25 rfl v r13 h12) (rc_1 M hP rfl) rfl hl.1 rfl (Nat.le_of_ble_eq_true rfl) ⟨rfl, rfl⟩ ⟨Nat.le_of_ble_eq_true rfl, Nat.le_of_ble_eq_true rfl⟩ dX5_now_86) (fun H locs hP hS => ?_)
            exact ret_i M hS hP (Option.some.inj hF) dX5_now_89
          · replace hF := (if_neg c11).symm.trans hF
            rcases Decidable.em (a1 = 5) with c14 | c14
            · replace hF := (if_pos c14).symm.trans hF
              refine lv_tableIn (tgt := 90) hx hb dX5_now_1 (by rw [c14]; decide) (by rw [c14]; decide) (by rw [c14]; rfl) (by decide) ?_
              refine lv_aload_n hx hb dX5_now_90 rfl (lv_at hl 0 rfl) ?_
              refine fg_5_10 M hP dX5_now_91 ?_
              obtain ⟨r16, h15, hF⟩ := bi_some hF
              refine k_i hS (kV_run M hS hP ok_X5_125 (c_X1_tiredTogether l G 25 rfl v r16 h15) (rc_1 M hP rfl) rfl hl.1 rfl (Nat.le_of_ble_eq_true rfl) ⟨rfl, rfl⟩ ⟨Nat.le_of_ble_eq_true rfl, Nat.le_of_ble_eq_true rfl⟩ dX5_now_94) (fun H locs hP hS => ?_)
              exact ret_i M hS hP (Option.some.inj hF) dX5_now_97
            · replace hF := (if_neg c14).symm.trans hF
              rcases Decidable.em (a1 = 6) with c17 | c17
              · replace hF := (if_pos c17).symm.trans hF
                refine lv_tableIn (tgt := 98) hx hb dX5_now_1 (by rw [c17]; decide) (by rw [c17]; decide) (by rw [c17]; rfl) (by decide) ?_
                refine lv_aload_n hx hb dX5_now_98 rfl (lv_at hl 0 rfl) ?_
                refine fg_5_10 M hP dX5_now_99 ?_
                obtain ⟨r19, h18, hF⟩ := bi_some hF
                refine k_i hS (kV_run M hS hP ok_X5_128 (c_X1_childrenWhoLearntAll l G 25 rfl v r19 h18) (rc_1 M hP rfl) rfl hl.1 rfl (Nat.le_of_ble_eq_true rfl) ⟨rfl, rfl⟩ ⟨Nat.le_of_ble_eq_true rfl, Nat.le_of_ble_eq_true rfl⟩ dX5_now_102) (fun H locs hP hS => ?_)
                exact ret_i M hS hP (Option.some.inj hF) dX5_now_105
              · replace hF := (if_neg c17).symm.trans hF
                rcases Decidable.em (a1 = 7) with c20 | c20
                · replace hF := (if_pos c20).symm.trans hF
                  refine lv_tableIn (tgt := 106) hx hb dX5_now_1 (by rw [c20]; decide) (by rw [c20]; decide) (by rw [c20]; rfl) (by decide) ?_
                  refine lv_aload_n hx hb dX5_now_106 rfl (lv_at hl 0 rfl) ?_
                  refine fg_5_10 M hP dX5_now_107 ?_
                  obtain ⟨r22, h21, hF⟩ := bi_some hF
                  refine k_i hS (kV_run M hS hP ok_X5_131 (c_X1_thickness l G 25 rfl v r22 h21) (rc_1 M hP rfl) rfl hl.1 rfl (Nat.le_of_ble_eq_true rfl) ⟨rfl, rfl⟩ ⟨Nat.le_of_ble_eq_true rfl, Nat.le_of_ble_eq_true rfl⟩ dX5_now_110) (fun H locs hP hS => ?_)
                  exact ret_i M hS hP (Option.some.inj hF) dX5_now_113
                · replace hF := (if_neg c20).symm.trans hF
                  refine lv_tableOut (tgt := 114) hx hb dX5_now_1 (by have q0 := lv_neT (a := 0) c1 (by decide); have q1 := lv_neT (a := 1) c2 (by decide); have q2 := lv_neT (a := 2) c5 (by decide); have q3 := lv_neT (a := 3) c8 (by decide); have q4 := lv_neT (a := 4) c11 (by decide); have q5 := lv_neT (a := 5) c14 (by decide); have q6 := lv_neT (a := 6) c17 (by decide); have q7 := lv_neT (a := 7) c20 (by decide); omega) (by decide) ?_
                  refine lv_aload_n hx hb dX5_now_114 rfl (lv_at hl 0 rfl) ?_
                  refine lv_iconst (v := 0) hx hb dX5_now_115 (by decide) ?_
                  obtain ⟨⟨r24, v25⟩, h23, hF⟩ := bi_some hF
                  dsimp only at hF
                  refine k_i hS (kV_run M hS hP ok_X5_48 (c_X5_finding l G 0 v r24 v25 h23) (rc_5 M hP rfl) rfl hl.1 rfl (Nat.le_of_ble_eq_true rfl) ⟨rfl, rfl⟩ ⟨Nat.le_of_ble_eq_true rfl, Nat.le_of_ble_eq_true rfl⟩ dX5_now_116) (fun H locs hP hS => ?_)
                  exact ret_i M hS hP (Option.some.inj hF) dX5_now_119
def F_X5_draftLoneKeeper (a1 : Int32) (v : VV) : Option VV :=
  Option.bind (F_X1_become 58 25 v) (fun v3 => Option.bind (F_X1_leaveOnlyKeeper 58 a1 v3) (fun v6 => some (pu v6 58 5 0)))
set_option maxHeartbeats 4000000 in
set_option maxRecDepth 100000 in
theorem c_X5_draftLoneKeeper (l : Launch) (G : GG) (a1 : Int32) (v : VV) (v' : VV) (hF : F_X5_draftLoneKeeper a1 v = some v') : Met l yX5_draftLoneKeeper (cdW yX5_draftLoneKeeper cX5_draftLoneKeeper 2 none) ({ frames := 2, cells := 0, slots := 0, locals := 48 } : Room) (PC G v [.ref (ad G 12), .int a1]) (QV G v') 0 0 (gA G) := by
  refine met_in RX5 (by decide) rfl (Nat.le_of_ble_eq_true rfl) ?_
  intro p e s m below meth c M hP ls hl
  have hx := M.1.1
  have hb := M.1.2.1
  have hS : va_S (gA G) s.heap s.heap [] := va_S.rf
  have hl : lv_has ls 2 [(0, .ref (ad G 12)), (1, .int a1)] := hl
  unfold F_X5_draftLoneKeeper at hF
  refine lv_aload_n hx hb dX5_draftLoneKeeper_0 rfl (lv_at hl 0 rfl) ?_
  refine fg_5_16 M hP dX5_draftLoneKeeper_1 ?_
  refine lv_aload_n hx hb dX5_draftLoneKeeper_4 rfl (lv_at hl 0 rfl) ?_
  refine fg_5_10 M hP dX5_draftLoneKeeper_5 ?_
  obtain ⟨v3, h1, hF⟩ := bi_some hF
  refine k_v hS (kV_run M hS hP ok_X5_143 (c_X1_become l G 58 rfl 25 rfl v v3 h1) (rc_1 M hP rfl) rfl hl.1 rfl (Nat.le_of_ble_eq_true rfl) ⟨rfl, rfl⟩ ⟨Nat.le_of_ble_eq_true rfl, Nat.le_of_ble_eq_true rfl⟩ dX5_draftLoneKeeper_8) (fun H locs hP hS => ?_)
  refine lv_aload_n hx hb dX5_draftLoneKeeper_11 rfl (lv_at hl 0 rfl) ?_
  refine fg_5_16 M hP dX5_draftLoneKeeper_12 ?_
  refine lv_iload_n hx hb dX5_draftLoneKeeper_15 rfl (lv_at hl 1 rfl) ?_
  obtain ⟨v6, h4, hF⟩ := bi_some hF
  refine k_v hS (kV_run M hS hP ok_X5_153 (c_X1_leaveOnlyKeeper l G 58 rfl a1 v3 v6 h4) (rc_1 M hP rfl) rfl hl.1 rfl (Nat.le_of_ble_eq_true rfl) ⟨rfl, rfl⟩ ⟨Nat.le_of_ble_eq_true rfl, Nat.le_of_ble_eq_true rfl⟩ dX5_draftLoneKeeper_16) (fun H locs hP hS => ?_)
  refine lv_aload_n hx hb dX5_draftLoneKeeper_19 rfl (lv_at hl 0 rfl) ?_
  refine fg_5_16 M hP dX5_draftLoneKeeper_20 ?_
  refine lv_iconst (v := 0) hx hb dX5_draftLoneKeeper_23 (by decide) ?_
  refine fp_5_166 M hS hP rfl dX5_draftLoneKeeper_24 (fun H locs hP hS => ?_)
  have hP : Wd G (pu v6 58 5 0) H := hP
  exact ret_v M hS hP (Option.some.inj hF) dX5_draftLoneKeeper_27
def F_X5_ahead (a1 : Int32) (a2 : Int32) (a3 : Int32) (v : VV) : Option (Int32 × VV) :=
  if a2 = 2 then (Option.bind (F_X5_isKeeper a1 v) (fun r3 => (if r3 = true then (Option.bind (F_X5_isUpTo a3 100 v) (fun r11 => (if r11 = true then (Option.bind (F_X5_draftLoneKeeper a1 v) (fun v15 => Option.bind (F_X1_passDays 58 a3 v15) (fun v18 => Option.bind (F_X1_toldOfKeeper 58 0 a2 v18) (fun r20 => some (r20, v18))))) else (Option.bind (F_X5_finding 0 v) (fun (r22, v23) => some (r22, v23)))))) else (Option.bind (F_X5_finding 0 v) (fun (r6, v7) => some (r6, v7)))))) else (if a2 = 4 then (Option.bind (F_X5_isKeeper a1 v) (fun r27 => (if r27 = true then (Option.bind (F_X5_isUpTo a3 100 v) (fun r35 => (if r35 = true then (Option.bind (F_X5_draftLoneKeeper a1 v) (fun v39 => Option.bind (F_X1_passDays 58 a3 v39) (fun v42 => Option.bind (F_X1_toldOfKeeper 58 0 a2 v42) (fun r44 => some (r44, v42))))) else (Option.bind (F_X5_finding 0 v) (fun (r46, v47) => some (r46, v47)))))) else (Option.bind (F_X5_finding 0 v) (fun (r30, v31) => some (r30, v31)))))) else (if a2 = 6 then (Option.bind (F_X5_isKeeper a1 v) (fun r63 => (if r63 = true then (Option.bind (F_X5_isUpTo a3 100 v) (fun r71 => (if r71 = true then (Option.bind (F_X5_draftLoneKeeper a1 v) (fun v75 => Option.bind (F_X1_passDays 58 a3 v75) (fun v78 => Option.bind (F_X1_toldOfKeeper 58 0 a2 v78) (fun r80 => some (r80, v78))))) else (Option.bind (F_X5_finding 0 v) (fun (r82, v83) => some (r82, v83)))))) else (Option.bind (F_X5_finding 0 v) (fun (r66, v67) => some (r66, v67)))))) else (Option.bind (F_X5_isKeeper a1 v) (fun r51 => (if r51 = true then (Option.bind (F_X5_finding 0 v) (fun (r59, v60) => some (r59, v60))) else (Option.bind (F_X5_finding 0 v) (fun (r54, v55) => some (r54, v55))))))))
set_option maxHeartbeats 4000000 in
set_option maxRecDepth 100000 in
theorem c_X5_ahead (l : Launch) (G : GG) (a1 : Int32) (a2 : Int32) (a3 : Int32) (v : VV) (r : Int32) (v' : VV) (hF : F_X5_ahead a1 a2 a3 v = some (r, v')) : Met l yX5_ahead (cdW yX5_ahead cX5_ahead 5 (some .int)) ({ frames := 5, cells := 0, slots := 0, locals := 114 } : Room) (PC G v [.ref (ad G 12), .int a1, .int a2, .int a3]) (QI G r v') 0 0 (gA G) := by
  refine met_in RX5 (by decide) rfl (Nat.le_of_ble_eq_true rfl) ?_
  intro p e s m below meth c M hP ls hl
  have hx := M.1.1
  have hb := M.1.2.1
  have hS : va_S (gA G) s.heap s.heap [] := va_S.rf
  have hl : lv_has ls 5 [(0, .ref (ad G 12)), (1, .int a1), (2, .int a2), (3, .int a3)] := hl
  unfold F_X5_ahead at hF
  refine lv_iload_n hx hb dX5_ahead_0 rfl (lv_at hl 2 rfl) ?_
  refine lv_iconst (v := 2) hx hb dX5_ahead_1 (by decide) ?_
  refine lv_icmp_eq (tgt := 16) hx hb dX5_ahead_2 (by decide) (fun c1 => ?_) (fun c1 => ?_)
  · replace hF := (if_pos c1).symm.trans hF
    refine lv_iconst (v := 1) hx hb dX5_ahead_16 (by decide) ?_
    refine lv_goto (tgt := 21) hx hb dX5_ahead_17 (by decide) ?_
    refine lv_istore (lv' := [(4, .int 1), (0, .ref (ad G 12)), (1, .int a1), (2, .int a2), (3, .int a3)]) hx hb dX5_ahead_21 hl (by decide) rfl (fun ls hl => ?_)
    refine lv_aload_n hx hb dX5_ahead_23 rfl (lv_at hl 1 rfl) ?_
    refine lv_iload_n hx hb dX5_ahead_24 rfl (lv_at hl 2 rfl) ?_
    obtain ⟨r3, h2, hF⟩ := bi_some hF
    refine k_i hS (kV_run M hS hP ok_X5_69 (c_X5_isKeeper l G a1 v r3 h2) (rc_5 M hP rfl) rfl hl.1 rfl (Nat.le_of_ble_eq_true rfl) ⟨rfl, rfl⟩ ⟨Nat.le_of_ble_eq_true rfl, Nat.le_of_ble_eq_true rfl⟩ dX5_ahead_25) (fun H locs hP hS => ?_)
    refine lv_if_eq (tgt := 45) hx hb dX5_ahead_28 (by decide) (fun c4 => ?_) (fun c4 => ?_)
    · replace hF := (if_neg (bI_f c4)).symm.trans hF
      refine lv_aload_n hx hb dX5_ahead_45 rfl (lv_at hl 1 rfl) ?_
      refine lv_iconst (v := 0) hx hb dX5_ahead_46 (by decide) ?_
      obtain ⟨⟨r6, v7⟩, h5, hF⟩ := bi_some hF
      dsimp only at hF
      refine k_i hS (kV_run M hS hP ok_X5_48 (c_X5_finding l G 0 v r6 v7 h5) (rc_5 M hP rfl) rfl hl.1 rfl (Nat.le_of_ble_eq_true rfl) ⟨rfl, rfl⟩ ⟨Nat.le_of_ble_eq_true rfl, Nat.le_of_ble_eq_true rfl⟩ dX5_ahead_47) (fun H locs hP hS => ?_)
      exact ret_i M hS hP (Option.some.inj hF) dX5_ahead_50
    · replace hF := (if_pos (bI_t c4)).symm.trans hF
      refine lv_iload hx hb dX5_ahead_31 (lv_at hl 0 rfl) ?_
      refine lv_if_eq (tgt := 45) hx hb dX5_ahead_33 (by decide) (fun c9 => ?_) (fun c9 => ?_)
      · exact absurd c9 (by decide)
      · refine lv_iload_n hx hb dX5_ahead_36 rfl (lv_at hl 4 rfl) ?_
        refine lv_bipush (v := 100) hx hb dX5_ahead_37 (by decide) ?_
        obtain ⟨r11, h10, hF⟩ := bi_some hF
        refine k_i hS (kS_run M hS hP ok_X5_44 (c_X5_isUpTo l G a3 100 v r11 h10) rfl hl.1 rfl (Nat.le_of_ble_eq_true rfl) ⟨rfl, rfl⟩ ⟨Nat.le_of_ble_eq_true rfl, Nat.le_of_ble_eq_true rfl⟩ dX5_ahead_39) (fun H locs hP hS => ?_)
        refine lv_if_ne (tgt := 51) hx hb dX5_ahead_42 (by decide) (fun c12 => ?_) (fun c12 => ?_)
        · replace hF := (if_pos (bI_t c12)).symm.trans hF
          refine lv_aload_n hx hb dX5_ahead_51 rfl (lv_at hl 1 rfl) ?_
          refine lv_iload_n hx hb dX5_ahead_52 rfl (lv_at hl 2 rfl) ?_
          obtain ⟨v15, h13, hF⟩ := bi_some hF
          refine k_v hS (kV_run M hS hP ok_X5_134 (c_X5_draftLoneKeeper l G a1 v v15 h13) (rc_5 M hP rfl) rfl hl.1 rfl (Nat.le_of_ble_eq_true rfl) ⟨rfl, rfl⟩ ⟨Nat.le_of_ble_eq_true rfl, Nat.le_of_ble_eq_true rfl⟩ dX5_ahead_53) (fun H locs hP hS => ?_)
          refine lv_aload_n hx hb dX5_ahead_56 rfl (lv_at hl 1 rfl) ?_
          refine fg_5_16 M hP dX5_ahead_57 ?_
          refine lv_iload_n hx hb dX5_ahead_60 rfl (lv_at hl 4 rfl) ?_
          obtain ⟨v18, h16, hF⟩ := bi_some hF
          refine k_v hS (kV_run M hS hP ok_X5_111 (c_X1_passDays l G 58 rfl a3 v15 v18 h16) (rc_1 M hP rfl) rfl hl.1 rfl (Nat.le_of_ble_eq_true rfl) ⟨rfl, rfl⟩ ⟨Nat.le_of_ble_eq_true rfl, Nat.le_of_ble_eq_true rfl⟩ dX5_ahead_61) (fun H locs hP hS => ?_)
          refine lv_aload_n hx hb dX5_ahead_64 rfl (lv_at hl 1 rfl) ?_
          refine fg_5_16 M hP dX5_ahead_65 ?_
          refine lv_iconst (v := 0) hx hb dX5_ahead_68 (by decide) ?_
          refine lv_iload_n hx hb dX5_ahead_69 rfl (lv_at hl 3 rfl) ?_
          obtain ⟨r20, h19, hF⟩ := bi_some hF
          refine k_i hS (kV_run M hS hP ok_X5_73 (c_X1_toldOfKeeper l G 58 rfl 0 a2 v18 r20 h19) (rc_1 M hP rfl) rfl hl.1 rfl (Nat.le_of_ble_eq_true rfl) ⟨rfl, rfl⟩ ⟨Nat.le_of_ble_eq_true rfl, Nat.le_of_ble_eq_true rfl⟩ dX5_ahead_70) (fun H locs hP hS => ?_)
          exact ret_i M hS hP (Option.some.inj hF) dX5_ahead_73
        · replace hF := (if_neg (bI_f c12)).symm.trans hF
          refine lv_aload_n hx hb dX5_ahead_45 rfl (lv_at hl 1 rfl) ?_
          refine lv_iconst (v := 0) hx hb dX5_ahead_46 (by decide) ?_
          obtain ⟨⟨r22, v23⟩, h21, hF⟩ := bi_some hF
          dsimp only at hF
          refine k_i hS (kV_run M hS hP ok_X5_48 (c_X5_finding l G 0 v r22 v23 h21) (rc_5 M hP rfl) rfl hl.1 rfl (Nat.le_of_ble_eq_true rfl) ⟨rfl, rfl⟩ ⟨Nat.le_of_ble_eq_true rfl, Nat.le_of_ble_eq_true rfl⟩ dX5_ahead_47) (fun H locs hP hS => ?_)
          exact ret_i M hS hP (Option.some.inj hF) dX5_ahead_50
  · replace hF := (if_neg c1).symm.trans hF
    refine lv_iload_n hx hb dX5_ahead_5 rfl (lv_at hl 2 rfl) ?_
    refine lv_iconst (v := 4) hx hb dX5_ahead_6 (by decide) ?_
    refine lv_icmp_eq (tgt := 16) hx hb dX5_ahead_7 (by decide) (fun c25 => ?_) (fun c25 => ?_)
    · replace hF := (if_pos c25).symm.trans hF
      refine lv_iconst (v := 1) hx hb dX5_ahead_16 (by decide) ?_
      refine lv_goto (tgt := 21) hx hb dX5_ahead_17 (by decide) ?_
      refine lv_istore (lv' := [(4, .int 1), (0, .ref (ad G 12)), (1, .int a1), (2, .int a2), (3, .int a3)]) hx hb dX5_ahead_21 hl (by decide) rfl (fun ls hl => ?_)
      refine lv_aload_n hx hb dX5_ahead_23 rfl (lv_at hl 1 rfl) ?_
      refine lv_iload_n hx hb dX5_ahead_24 rfl (lv_at hl 2 rfl) ?_
      obtain ⟨r27, h26, hF⟩ := bi_some hF
      refine k_i hS (kV_run M hS hP ok_X5_69 (c_X5_isKeeper l G a1 v r27 h26) (rc_5 M hP rfl) rfl hl.1 rfl (Nat.le_of_ble_eq_true rfl) ⟨rfl, rfl⟩ ⟨Nat.le_of_ble_eq_true rfl, Nat.le_of_ble_eq_true rfl⟩ dX5_ahead_25) (fun H locs hP hS => ?_)
      refine lv_if_eq (tgt := 45) hx hb dX5_ahead_28 (by decide) (fun c28 => ?_) (fun c28 => ?_)
      · replace hF := (if_neg (bI_f c28)).symm.trans hF
        refine lv_aload_n hx hb dX5_ahead_45 rfl (lv_at hl 1 rfl) ?_
        refine lv_iconst (v := 0) hx hb dX5_ahead_46 (by decide) ?_
        obtain ⟨⟨r30, v31⟩, h29, hF⟩ := bi_some hF
        dsimp only at hF
        refine k_i hS (kV_run M hS hP ok_X5_48 (c_X5_finding l G 0 v r30 v31 h29) (rc_5 M hP rfl) rfl hl.1 rfl (Nat.le_of_ble_eq_true rfl) ⟨rfl, rfl⟩ ⟨Nat.le_of_ble_eq_true rfl, Nat.le_of_ble_eq_true rfl⟩ dX5_ahead_47) (fun H locs hP hS => ?_)
        exact ret_i M hS hP (Option.some.inj hF) dX5_ahead_50
      · replace hF := (if_pos (bI_t c28)).symm.trans hF
        refine lv_iload hx hb dX5_ahead_31 (lv_at hl 0 rfl) ?_
        refine lv_if_eq (tgt := 45) hx hb dX5_ahead_33 (by decide) (fun c33 => ?_) (fun c33 => ?_)
        · exact absurd c33 (by decide)
        · refine lv_iload_n hx hb dX5_ahead_36 rfl (lv_at hl 4 rfl) ?_
          refine lv_bipush (v := 100) hx hb dX5_ahead_37 (by decide) ?_
          obtain ⟨r35, h34, hF⟩ := bi_some hF
          refine k_i hS (kS_run M hS hP ok_X5_44 (c_X5_isUpTo l G a3 100 v r35 h34) rfl hl.1 rfl (Nat.le_of_ble_eq_true rfl) ⟨rfl, rfl⟩ ⟨Nat.le_of_ble_eq_true rfl, Nat.le_of_ble_eq_true rfl⟩ dX5_ahead_39) (fun H locs hP hS => ?_)
          refine lv_if_ne (tgt := 51) hx hb dX5_ahead_42 (by decide) (fun c36 => ?_) (fun c36 => ?_)
          · replace hF := (if_pos (bI_t c36)).symm.trans hF
            refine lv_aload_n hx hb dX5_ahead_51 rfl (lv_at hl 1 rfl) ?_
            refine lv_iload_n hx hb dX5_ahead_52 rfl (lv_at hl 2 rfl) ?_
            obtain ⟨v39, h37, hF⟩ := bi_some hF
            refine k_v hS (kV_run M hS hP ok_X5_134 (c_X5_draftLoneKeeper l G a1 v v39 h37) (rc_5 M hP rfl) rfl hl.1 rfl (Nat.le_of_ble_eq_true rfl) ⟨rfl, rfl⟩ ⟨Nat.le_of_ble_eq_true rfl, Nat.le_of_ble_eq_true rfl⟩ dX5_ahead_53) (fun H locs hP hS => ?_)
            refine lv_aload_n hx hb dX5_ahead_56 rfl (lv_at hl 1 rfl) ?_
            refine fg_5_16 M hP dX5_ahead_57 ?_
            refine lv_iload_n hx hb dX5_ahead_60 rfl (lv_at hl 4 rfl) ?_
            obtain ⟨v42, h40, hF⟩ := bi_some hF
            refine k_v hS (kV_run M hS hP ok_X5_111 (c_X1_passDays l G 58 rfl a3 v39 v42 h40) (rc_1 M hP rfl) rfl hl.1 rfl (Nat.le_of_ble_eq_true rfl) ⟨rfl, rfl⟩ ⟨Nat.le_of_ble_eq_true rfl, Nat.le_of_ble_eq_true rfl⟩ dX5_ahead_61) (fun H locs hP hS => ?_)
            refine lv_aload_n hx hb dX5_ahead_64 rfl (lv_at hl 1 rfl) ?_
            refine fg_5_16 M hP dX5_ahead_65 ?_
            refine lv_iconst (v := 0) hx hb dX5_ahead_68 (by decide) ?_
            refine lv_iload_n hx hb dX5_ahead_69 rfl (lv_at hl 3 rfl) ?_
            obtain ⟨r44, h43, hF⟩ := bi_some hF
            refine k_i hS (kV_run M hS hP ok_X5_73 (c_X1_toldOfKeeper l G 58 rfl 0 a2 v42 r44 h43) (rc_1 M hP rfl) rfl hl.1 rfl (Nat.le_of_ble_eq_true rfl) ⟨rfl, rfl⟩ ⟨Nat.le_of_ble_eq_true rfl, Nat.le_of_ble_eq_true rfl⟩ dX5_ahead_70) (fun H locs hP hS => ?_)
            exact ret_i M hS hP (Option.some.inj hF) dX5_ahead_73
          · replace hF := (if_neg (bI_f c36)).symm.trans hF
            refine lv_aload_n hx hb dX5_ahead_45 rfl (lv_at hl 1 rfl) ?_
            refine lv_iconst (v := 0) hx hb dX5_ahead_46 (by decide) ?_
            obtain ⟨⟨r46, v47⟩, h45, hF⟩ := bi_some hF
            dsimp only at hF
            refine k_i hS (kV_run M hS hP ok_X5_48 (c_X5_finding l G 0 v r46 v47 h45) (rc_5 M hP rfl) rfl hl.1 rfl (Nat.le_of_ble_eq_true rfl) ⟨rfl, rfl⟩ ⟨Nat.le_of_ble_eq_true rfl, Nat.le_of_ble_eq_true rfl⟩ dX5_ahead_47) (fun H locs hP hS => ?_)
            exact ret_i M hS hP (Option.some.inj hF) dX5_ahead_50
    · replace hF := (if_neg c25).symm.trans hF
      refine lv_iload_n hx hb dX5_ahead_10 rfl (lv_at hl 2 rfl) ?_
      refine lv_bipush (v := 6) hx hb dX5_ahead_11 (by decide) ?_
      refine lv_icmp_ne (tgt := 20) hx hb dX5_ahead_13 (by decide) (fun c49 => ?_) (fun c49 => ?_)
      · replace hF := (if_neg c49).symm.trans hF
        refine lv_iconst (v := 0) hx hb dX5_ahead_20 (by decide) ?_
        refine lv_istore (lv' := [(4, .int 0), (0, .ref (ad G 12)), (1, .int a1), (2, .int a2), (3, .int a3)]) hx hb dX5_ahead_21 hl (by decide) rfl (fun ls hl => ?_)
        refine lv_aload_n hx hb dX5_ahead_23 rfl (lv_at hl 1 rfl) ?_
        refine lv_iload_n hx hb dX5_ahead_24 rfl (lv_at hl 2 rfl) ?_
        obtain ⟨r51, h50, hF⟩ := bi_some hF
        refine k_i hS (kV_run M hS hP ok_X5_69 (c_X5_isKeeper l G a1 v r51 h50) (rc_5 M hP rfl) rfl hl.1 rfl (Nat.le_of_ble_eq_true rfl) ⟨rfl, rfl⟩ ⟨Nat.le_of_ble_eq_true rfl, Nat.le_of_ble_eq_true rfl⟩ dX5_ahead_25) (fun H locs hP hS => ?_)
        refine lv_if_eq (tgt := 45) hx hb dX5_ahead_28 (by decide) (fun c52 => ?_) (fun c52 => ?_)
        · replace hF := (if_neg (bI_f c52)).symm.trans hF
          refine lv_aload_n hx hb dX5_ahead_45 rfl (lv_at hl 1 rfl) ?_
          refine lv_iconst (v := 0) hx hb dX5_ahead_46 (by decide) ?_
          obtain ⟨⟨r54, v55⟩, h53, hF⟩ := bi_some hF
          dsimp only at hF
          refine k_i hS (kV_run M hS hP ok_X5_48 (c_X5_finding l G 0 v r54 v55 h53) (rc_5 M hP rfl) rfl hl.1 rfl (Nat.le_of_ble_eq_true rfl) ⟨rfl, rfl⟩ ⟨Nat.le_of_ble_eq_true rfl, Nat.le_of_ble_eq_true rfl⟩ dX5_ahead_47) (fun H locs hP hS => ?_)
          exact ret_i M hS hP (Option.some.inj hF) dX5_ahead_50
        · replace hF := (if_pos (bI_t c52)).symm.trans hF
          refine lv_iload hx hb dX5_ahead_31 (lv_at hl 0 rfl) ?_
          refine lv_if_eq (tgt := 45) hx hb dX5_ahead_33 (by decide) (fun c57 => ?_) (fun c57 => ?_)
          · refine lv_aload_n hx hb dX5_ahead_45 rfl (lv_at hl 1 rfl) ?_
            refine lv_iconst (v := 0) hx hb dX5_ahead_46 (by decide) ?_
            obtain ⟨⟨r59, v60⟩, h58, hF⟩ := bi_some hF
            dsimp only at hF
            refine k_i hS (kV_run M hS hP ok_X5_48 (c_X5_finding l G 0 v r59 v60 h58) (rc_5 M hP rfl) rfl hl.1 rfl (Nat.le_of_ble_eq_true rfl) ⟨rfl, rfl⟩ ⟨Nat.le_of_ble_eq_true rfl, Nat.le_of_ble_eq_true rfl⟩ dX5_ahead_47) (fun H locs hP hS => ?_)
            exact ret_i M hS hP (Option.some.inj hF) dX5_ahead_50
          · exact absurd c57 (by decide)
      · replace hF := (if_pos c49).symm.trans hF
        refine lv_iconst (v := 1) hx hb dX5_ahead_16 (by decide) ?_
        refine lv_goto (tgt := 21) hx hb dX5_ahead_17 (by decide) ?_
        refine lv_istore (lv' := [(4, .int 1), (0, .ref (ad G 12)), (1, .int a1), (2, .int a2), (3, .int a3)]) hx hb dX5_ahead_21 hl (by decide) rfl (fun ls hl => ?_)
        refine lv_aload_n hx hb dX5_ahead_23 rfl (lv_at hl 1 rfl) ?_
        refine lv_iload_n hx hb dX5_ahead_24 rfl (lv_at hl 2 rfl) ?_
        obtain ⟨r63, h62, hF⟩ := bi_some hF
        refine k_i hS (kV_run M hS hP ok_X5_69 (c_X5_isKeeper l G a1 v r63 h62) (rc_5 M hP rfl) rfl hl.1 rfl (Nat.le_of_ble_eq_true rfl) ⟨rfl, rfl⟩ ⟨Nat.le_of_ble_eq_true rfl, Nat.le_of_ble_eq_true rfl⟩ dX5_ahead_25) (fun H locs hP hS => ?_)
        refine lv_if_eq (tgt := 45) hx hb dX5_ahead_28 (by decide) (fun c64 => ?_) (fun c64 => ?_)
        · replace hF := (if_neg (bI_f c64)).symm.trans hF
          refine lv_aload_n hx hb dX5_ahead_45 rfl (lv_at hl 1 rfl) ?_
          refine lv_iconst (v := 0) hx hb dX5_ahead_46 (by decide) ?_
          obtain ⟨⟨r66, v67⟩, h65, hF⟩ := bi_some hF
          dsimp only at hF
          refine k_i hS (kV_run M hS hP ok_X5_48 (c_X5_finding l G 0 v r66 v67 h65) (rc_5 M hP rfl) rfl hl.1 rfl (Nat.le_of_ble_eq_true rfl) ⟨rfl, rfl⟩ ⟨Nat.le_of_ble_eq_true rfl, Nat.le_of_ble_eq_true rfl⟩ dX5_ahead_47) (fun H locs hP hS => ?_)
          exact ret_i M hS hP (Option.some.inj hF) dX5_ahead_50
        · replace hF := (if_pos (bI_t c64)).symm.trans hF
          refine lv_iload hx hb dX5_ahead_31 (lv_at hl 0 rfl) ?_
          refine lv_if_eq (tgt := 45) hx hb dX5_ahead_33 (by decide) (fun c69 => ?_) (fun c69 => ?_)
          · exact absurd c69 (by decide)
          · refine lv_iload_n hx hb dX5_ahead_36 rfl (lv_at hl 4 rfl) ?_
            refine lv_bipush (v := 100) hx hb dX5_ahead_37 (by decide) ?_
            obtain ⟨r71, h70, hF⟩ := bi_some hF
            refine k_i hS (kS_run M hS hP ok_X5_44 (c_X5_isUpTo l G a3 100 v r71 h70) rfl hl.1 rfl (Nat.le_of_ble_eq_true rfl) ⟨rfl, rfl⟩ ⟨Nat.le_of_ble_eq_true rfl, Nat.le_of_ble_eq_true rfl⟩ dX5_ahead_39) (fun H locs hP hS => ?_)
            refine lv_if_ne (tgt := 51) hx hb dX5_ahead_42 (by decide) (fun c72 => ?_) (fun c72 => ?_)
            · replace hF := (if_pos (bI_t c72)).symm.trans hF
              refine lv_aload_n hx hb dX5_ahead_51 rfl (lv_at hl 1 rfl) ?_
              refine lv_iload_n hx hb dX5_ahead_52 rfl (lv_at hl 2 rfl) ?_
              obtain ⟨v75, h73, hF⟩ := bi_some hF
              refine k_v hS (kV_run M hS hP ok_X5_134 (c_X5_draftLoneKeeper l G a1 v v75 h73) (rc_5 M hP rfl) rfl hl.1 rfl (Nat.le_of_ble_eq_true rfl) ⟨rfl, rfl⟩ ⟨Nat.le_of_ble_eq_true rfl, Nat.le_of_ble_eq_true rfl⟩ dX5_ahead_53) (fun H locs hP hS => ?_)
              refine lv_aload_n hx hb dX5_ahead_56 rfl (lv_at hl 1 rfl) ?_
              refine fg_5_16 M hP dX5_ahead_57 ?_
              refine lv_iload_n hx hb dX5_ahead_60 rfl (lv_at hl 4 rfl) ?_
              obtain ⟨v78, h76, hF⟩ := bi_some hF
              refine k_v hS (kV_run M hS hP ok_X5_111 (c_X1_passDays l G 58 rfl a3 v75 v78 h76) (rc_1 M hP rfl) rfl hl.1 rfl (Nat.le_of_ble_eq_true rfl) ⟨rfl, rfl⟩ ⟨Nat.le_of_ble_eq_true rfl, Nat.le_of_ble_eq_true rfl⟩ dX5_ahead_61) (fun H locs hP hS => ?_)
              refine lv_aload_n hx hb dX5_ahead_64 rfl (lv_at hl 1 rfl) ?_
              refine fg_5_16 M hP dX5_ahead_65 ?_
              refine lv_iconst (v := 0) hx hb dX5_ahead_68 (by decide) ?_
              refine lv_iload_n hx hb dX5_ahead_69 rfl (lv_at hl 3 rfl) ?_
              obtain ⟨r80, h79, hF⟩ := bi_some hF
              refine k_i hS (kV_run M hS hP ok_X5_73 (c_X1_toldOfKeeper l G 58 rfl 0 a2 v78 r80 h79) (rc_1 M hP rfl) rfl hl.1 rfl (Nat.le_of_ble_eq_true rfl) ⟨rfl, rfl⟩ ⟨Nat.le_of_ble_eq_true rfl, Nat.le_of_ble_eq_true rfl⟩ dX5_ahead_70) (fun H locs hP hS => ?_)
              exact ret_i M hS hP (Option.some.inj hF) dX5_ahead_73
            · replace hF := (if_neg (bI_f c72)).symm.trans hF
              refine lv_aload_n hx hb dX5_ahead_45 rfl (lv_at hl 1 rfl) ?_
              refine lv_iconst (v := 0) hx hb dX5_ahead_46 (by decide) ?_
              obtain ⟨⟨r82, v83⟩, h81, hF⟩ := bi_some hF
              dsimp only at hF
              refine k_i hS (kV_run M hS hP ok_X5_48 (c_X5_finding l G 0 v r82 v83 h81) (rc_5 M hP rfl) rfl hl.1 rfl (Nat.le_of_ble_eq_true rfl) ⟨rfl, rfl⟩ ⟨Nat.le_of_ble_eq_true rfl, Nat.le_of_ble_eq_true rfl⟩ dX5_ahead_47) (fun H locs hP hS => ?_)
              exact ret_i M hS hP (Option.some.inj hF) dX5_ahead_50
def F_X5_draftLoneChild (a1 : Int32) (v : VV) : Option VV :=
  Option.bind (F_X1_become 58 25 v) (fun v3 => Option.bind (F_X1_leaveOnlyChild 58 a1 v3) (fun v6 => some v6))
set_option maxHeartbeats 4000000 in
set_option maxRecDepth 100000 in
theorem c_X5_draftLoneChild (l : Launch) (G : GG) (a1 : Int32) (v : VV) (v' : VV) (hF : F_X5_draftLoneChild a1 v = some v') : Met l yX5_draftLoneChild (cdW yX5_draftLoneChild cX5_draftLoneChild 2 none) ({ frames := 2, cells := 0, slots := 0, locals := 48 } : Room) (PC G v [.ref (ad G 12), .int a1]) (QV G v') 0 0 (gA G) := by
  refine met_in RX5 (by decide) rfl (Nat.le_of_ble_eq_true rfl) ?_
  intro p e s m below meth c M hP ls hl
  have hx := M.1.1
  have hb := M.1.2.1
  have hS : va_S (gA G) s.heap s.heap [] := va_S.rf
  have hl : lv_has ls 2 [(0, .ref (ad G 12)), (1, .int a1)] := hl
  unfold F_X5_draftLoneChild at hF
  refine lv_aload_n hx hb dX5_draftLoneChild_0 rfl (lv_at hl 0 rfl) ?_
  refine fg_5_16 M hP dX5_draftLoneChild_1 ?_
  refine lv_aload_n hx hb dX5_draftLoneChild_4 rfl (lv_at hl 0 rfl) ?_
  refine fg_5_10 M hP dX5_draftLoneChild_5 ?_
  obtain ⟨v3, h1, hF⟩ := bi_some hF
  refine k_v hS (kV_run M hS hP ok_X5_143 (c_X1_become l G 58 rfl 25 rfl v v3 h1) (rc_1 M hP rfl) rfl hl.1 rfl (Nat.le_of_ble_eq_true rfl) ⟨rfl, rfl⟩ ⟨Nat.le_of_ble_eq_true rfl, Nat.le_of_ble_eq_true rfl⟩ dX5_draftLoneChild_8) (fun H locs hP hS => ?_)
  refine lv_aload_n hx hb dX5_draftLoneChild_11 rfl (lv_at hl 0 rfl) ?_
  refine fg_5_16 M hP dX5_draftLoneChild_12 ?_
  refine lv_iload_n hx hb dX5_draftLoneChild_15 rfl (lv_at hl 1 rfl) ?_
  obtain ⟨v6, h4, hF⟩ := bi_some hF
  refine k_v hS (kV_run M hS hP ok_X5_231 (c_X1_leaveOnlyChild l G 58 rfl a1 v3 v6 h4) (rc_1 M hP rfl) rfl hl.1 rfl (Nat.le_of_ble_eq_true rfl) ⟨rfl, rfl⟩ ⟨Nat.le_of_ble_eq_true rfl, Nat.le_of_ble_eq_true rfl⟩ dX5_draftLoneChild_16) (fun H locs hP hS => ?_)
  exact ret_v M hS hP (Option.some.inj hF) dX5_draftLoneChild_19
