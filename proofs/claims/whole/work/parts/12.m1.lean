theorem ok_X1_61 : okV RX1 61 RX2 yX2_begin cX2_begin 3 none 2 := okV_of w_195 w_196 w_197 w_4 w_198 (by decide +kernel)
theorem ok_X1_65 : okV RX1 65 RX0 yX0_begin cX0_begin 3 none 2 := okV_of w_211 w_212 w_213 w_5 w_214 (by decide +kernel)
theorem ok_X1_66 : okV RX1 66 RX2 yX2_gives cX2_gives 2 (some .int) 1 := okV_of w_227 w_228 w_229 w_4 w_230 (by decide +kernel)
theorem ok_X1_70 : okV RX1 70 RX1 yX1_thickness cX1_thickness 1 (some .int) 0 := okV_of w_231 w_232 w_233 w_2 w_234 (by decide +kernel)
theorem ok_X1_74 : okV RX1 74 RX2 yX2_reaches cX2_reaches 3 (some .int) 1 := okV_of w_235 w_236 w_237 w_4 w_238 (by decide +kernel)
theorem ok_X1_77 : okV RX1 77 RX2 yX2_tempo cX2_tempo 1 (some .int) 0 := okV_of w_242 w_243 w_244 w_4 w_245 (by decide +kernel)
theorem ok_X1_80 : okV RX1 80 RX2 yX2_tires cX2_tires 1 (some .int) 0 := okV_of w_248 w_249 w_250 w_4 w_251 (by decide +kernel)
theorem ok_X1_83 : okV RX1 83 RX2 yX2_turns cX2_turns 3 (some .int) 1 := okV_of w_254 w_255 w_256 w_4 w_257 (by decide +kernel)
theorem ok_X1_86 : okV RX1 86 RX2 yX2_isSilent cX2_isSilent 1 (some .boolean) 0 := okV_of w_286 w_287 w_288 w_4 w_289 (by decide +kernel)
theorem ok_X1_90 : okS RX1 90 yX1_isWithin cX1_isWithin 3 (some .boolean) 3 := okS_of w_290 w_291 w_2 w_292 (by decide +kernel)
theorem ok_X1_100 : okV RX1 100 RX1 yX1_passDay cX1_passDay 3 none 0 := okV_of w_305 w_306 w_307 w_2 w_308 (by decide +kernel)
theorem ok_X1_103 : okV RX1 103 RX2 yX2_rest cX2_rest 1 none 0 := okV_of w_309 w_310 w_311 w_4 w_312 (by decide +kernel)
theorem ok_X1_106 : okV RX1 106 RX1 yX1_sound cX1_sound 7 none 2 := okV_of w_313 w_314 w_315 w_2 w_316 (by decide +kernel)
theorem ok_X1_115 : okV RX1 115 RX0 yX0_hear cX0_hear 4 none 2 := okV_of w_317 w_318 w_319 w_5 w_320 (by decide +kernel)
theorem ok_X1_118 : okV RX1 118 RX2 yX2_goOn cX2_goOn 2 none 1 := okV_of w_325 w_326 w_327 w_4 w_328 (by decide +kernel)
theorem ok_X1_122 : okV RX1 122 RX0 yX0_hasLearnt cX0_hasLearnt 2 (some .boolean) 1 := okV_of w_411 w_322 w_323 w_5 w_324 (by decide +kernel)
theorem ok_X1_126 : okS RX1 126 yJ6_bitCount_0f7a4 cJ6_bitCount_0f7a4 1 (some .int) 1 := okS_of w_341 w_342 w_10 w_343 (by decide +kernel)
def L_X1_become_81 : Nat → Nat → Nat → Int32 → VV → Option VV
  | 0, _, _, _, _ => none
  | n + 1, x0, x1, x2, v =>
  if (v x1 5) ≤ x2 then (some (pu (pu (pu (pu v x0 4 (v x1 4)) x0 5 ((pu v x0 4 (v x1 4)) x1 5)) x0 6 ((pu (pu v x0 4 (v x1 4)) x0 5 ((pu v x0 4 (v x1 4)) x1 5)) x1 6)) x0 7 ((pu (pu (pu v x0 4 (v x1 4)) x0 5 ((pu v x0 4 (v x1 4)) x1 5)) x0 6 ((pu (pu v x0 4 (v x1 4)) x0 5 ((pu v x0 4 (v x1 4)) x1 5)) x1 6)) x1 7))) else (gu (gI x2 6) (gu (gI x2 6) (gu (gI x2 6) (gu (gC 0 0 (nI 4) 4 4) (L_X1_become_81 n x0 x1 (x2 + 1) (cpy v (((x1 + 4) + 17 + ((x2).toNatClampNeg)) + 6) (((x0 + 4) + 17 + ((x2).toNatClampNeg)) + 6) 0 0 (nI 4)))))))
def L_X1_become_32 : Nat → Nat → Nat → Int32 → VV → Option VV
  | 0, _, _, _, _ => none
  | n + 1, x0, x1, x2, v =>
  if (v x1 4) ≤ x2 then (L_X1_become_81 fu x0 x1 0 v) else (gu (gI x2 8) (gu (gI x2 8) (gu (gI x2 8) (gu (gC 0 0 (nI 6) 6 6) (L_X1_become_32 n x0 x1 (x2 + 1) (cpy v (((x1 + 3) + 2 + ((x2).toNatClampNeg)) + 8) (((x0 + 3) + 2 + ((x2).toNatClampNeg)) + 8) 0 0 (nI 6)))))))
def F_X1_become (q0 : Nat) (a1 : Nat) (v : VV) : Option VV :=
  gu (gC 0 0 6 6 6) (gu (gC 0 0 10 10 10) (L_X1_become_32 fu q0 a1 0 (cpy (cpy v (a1 + 1) (q0 + 1) 0 0 6) (a1 + 2) (q0 + 2) 0 0 10)))
set_option maxHeartbeats 4000000 in
set_option maxRecDepth 100000 in
theorem l_X1_become_81 {p : Program} {l : Launch} {e : Env} {s : State} {m : MethodId} {args : Array Value} {below : List Frame} {meth : Method} {c : Code} {G : GG} (M : Mx G RX1 cX1_become 3 none p s m args meth c) (v' : VV) : ∀ (n : Nat) (x0 : Nat) (x1 : Nat) (x2 : Int32) (hx0 : kd x0 = 1) (hx1 : kd x1 = 1) (v : VV) (H : Heap) (locs : List Loc) (ls : Array Slot), L_X1_become_81 n x0 x1 x2 v = some v' → Wd G v H → va_S (gA G) s.heap H locs → lv_has ls 3 [(0, .ref (ad G x0)), (1, .ref (ad G x1)), (2, .int x2)] → W p l e ({ frames := 1, cells := 0, slots := 0, locals := 26 } : Room) s m args below meth c H locs 0 0 (MQ below (QV G v') args s 0 0 (gA G)) (F0 m 81 ls []) := by
  have hx := M.1.1
  have hb := M.1.2.1
  intro n
  induction n with
  | zero =>
    intro x0 x1 x2 hx0 hx1 v H locs ls hF hP hS hl
    rw [L_X1_become_81] at hF
    cases hF
  | succ n ih =>
    intro x0 x1 x2 hx0 hx1 v H locs ls hF hP hS hl
    rw [L_X1_become_81] at hF
    refine lv_iload_n hx hb dX1_become_81 rfl (lv_at hl 2 rfl) ?_
    refine lv_aload_n hx hb dX1_become_82 rfl (lv_at hl 1 rfl) ?_
    refine fg_1_42 M hP hx1 dX1_become_83 ?_
    refine lv_icmp_ge (tgt := 128) hx hb dX1_become_86 (by decide) (fun c4 => ?_) (fun c4 => ?_)
    · replace hF := (if_pos c4).symm.trans hF
      refine lv_aload_n hx hb dX1_become_128 rfl (lv_at hl 0 rfl) ?_
      refine lv_aload_n hx hb dX1_become_129 rfl (lv_at hl 1 rfl) ?_
      refine fg_1_38 M hP hx1 dX1_become_130 ?_
      refine fp_1_38 M hS hP hx0 dX1_become_133 (fun H locs hP hS => ?_)
      have hP : Wd G (pu v x0 4 (v x1 4)) H := hP
      refine lv_aload_n hx hb dX1_become_136 rfl (lv_at hl 0 rfl) ?_
      refine lv_aload_n hx hb dX1_become_137 rfl (lv_at hl 1 rfl) ?_
      refine fg_1_42 M hP hx1 dX1_become_138 ?_
      refine fp_1_42 M hS hP hx0 dX1_become_141 (fun H locs hP hS => ?_)
      have hP : Wd G (pu (pu v x0 4 (v x1 4)) x0 5 ((pu v x0 4 (v x1 4)) x1 5)) H := hP
      refine lv_aload_n hx hb dX1_become_144 rfl (lv_at hl 0 rfl) ?_
      refine lv_aload_n hx hb dX1_become_145 rfl (lv_at hl 1 rfl) ?_
      refine fg_1_45 M hP hx1 dX1_become_146 ?_
      refine fp_1_45 M hS hP hx0 dX1_become_149 (fun H locs hP hS => ?_)
      have hP : Wd G (pu (pu (pu v x0 4 (v x1 4)) x0 5 ((pu v x0 4 (v x1 4)) x1 5)) x0 6 ((pu (pu v x0 4 (v x1 4)) x0 5 ((pu v x0 4 (v x1 4)) x1 5)) x1 6)) H := hP
      refine lv_aload_n hx hb dX1_become_152 rfl (lv_at hl 0 rfl) ?_
      refine lv_aload_n hx hb dX1_become_153 rfl (lv_at hl 1 rfl) ?_
      refine fg_1_48 M hP hx1 dX1_become_154 ?_
      refine fp_1_48 M hS hP hx0 dX1_become_157 (fun H locs hP hS => ?_)
      have hP : Wd G (pu (pu (pu (pu v x0 4 (v x1 4)) x0 5 ((pu v x0 4 (v x1 4)) x1 5)) x0 6 ((pu (pu v x0 4 (v x1 4)) x0 5 ((pu v x0 4 (v x1 4)) x1 5)) x1 6)) x0 7 ((pu (pu (pu v x0 4 (v x1 4)) x0 5 ((pu v x0 4 (v x1 4)) x1 5)) x0 6 ((pu (pu v x0 4 (v x1 4)) x0 5 ((pu v x0 4 (v x1 4)) x1 5)) x1 6)) x1 7)) H := hP
      exact ret_v M hS hP (Option.some.inj hF) dX1_become_160
    · replace hF := (if_neg c4).symm.trans hF
      refine lv_aload_n hx hb dX1_become_89 rfl (lv_at hl 1 rfl) ?_
      refine fg_1_33 M hP hx1 dX1_become_90 ?_
      refine lv_iload_n hx hb dX1_become_93 rfl (lv_at hl 2 rfl) ?_
      obtain ⟨g5, hF⟩ := gu_some hF
      refine r_aald9 (k := (x2).toNatClampNeg) M hP (ge_1_4k (i := x1) hx1) (ge_9l (i := (x1 + 4)) (ge_1_4k (i := x1) hx1)) (in_c g5) rfl dX1_become_94 ?_
      refine fg_1_60 M hP (ge_9k (i := (x1 + 4)) (k := (x2).toNatClampNeg) (ge_1_4k (i := x1) hx1) (vin_lt (in_c g5))) dX1_become_95 ?_
      refine lv_iconst (v := 0) hx hb dX1_become_98 (by decide) ?_
      refine lv_aload_n hx hb dX1_become_99 rfl (lv_at hl 0 rfl) ?_
      refine fg_1_33 M hP hx0 dX1_become_100 ?_
      refine lv_iload_n hx hb dX1_become_103 rfl (lv_at hl 2 rfl) ?_
      obtain ⟨g6, hF⟩ := gu_some hF
      refine r_aald9 (k := (x2).toNatClampNeg) M hP (ge_1_4k (i := x0) hx0) (ge_9l (i := (x0 + 4)) (ge_1_4k (i := x0) hx0)) (in_c g6) rfl dX1_become_104 ?_
      refine fg_1_60 M hP (ge_9k (i := (x0 + 4)) (k := (x2).toNatClampNeg) (ge_1_4k (i := x0) hx0) (vin_lt (in_c g6))) dX1_become_105 ?_
      refine lv_iconst (v := 0) hx hb dX1_become_108 (by decide) ?_
      refine lv_aload_n hx hb dX1_become_109 rfl (lv_at hl 0 rfl) ?_
      refine fg_1_33 M hP hx0 dX1_become_110 ?_
      refine lv_iload_n hx hb dX1_become_113 rfl (lv_at hl 2 rfl) ?_
      obtain ⟨g7, hF⟩ := gu_some hF
      refine r_aald9 (k := (x2).toNatClampNeg) M hP (ge_1_4k (i := x0) hx0) (ge_9l (i := (x0 + 4)) (ge_1_4k (i := x0) hx0)) (in_c g7) rfl dX1_become_114 ?_
      refine fg_1_60 M hP (ge_9k (i := (x0 + 4)) (k := (x2).toNatClampNeg) (ge_1_4k (i := x0) hx0) (vin_lt (in_c g7))) dX1_become_115 ?_
      refine r_alen7 M hP (ge_0k (i := ((x0 + 4) + 17 + ((x2).toNatClampNeg))) (ge_9k (i := (x0 + 4)) (k := (x2).toNatClampNeg) (ge_1_4k (i := x0) hx0) (vin_lt (in_c g7)))) (ge_0l (i := ((x0 + 4) + 17 + ((x2).toNatClampNeg))) (ge_9k (i := (x0 + 4)) (k := (x2).toNatClampNeg) (ge_1_4k (i := x0) hx0) (vin_lt (in_c g7)))) dX1_become_118 ?_
      obtain ⟨g8, hF⟩ := gu_some hF
      refine r_copy_X1_51 M hl.1 hS hP (ge_0k (i := ((x1 + 4) + 17 + ((x2).toNatClampNeg))) (ge_9k (i := (x1 + 4)) (k := (x2).toNatClampNeg) (ge_1_4k (i := x1) hx1) (vin_lt (in_c g5)))) (ge_0l (i := ((x1 + 4) + 17 + ((x2).toNatClampNeg))) (ge_9k (i := (x1 + 4)) (k := (x2).toNatClampNeg) (ge_1_4k (i := x1) hx1) (vin_lt (in_c g5)))) (ge_0k (i := ((x0 + 4) + 17 + ((x2).toNatClampNeg))) (ge_9k (i := (x0 + 4)) (k := (x2).toNatClampNeg) (ge_1_4k (i := x0) hx0) (vin_lt (in_c g6)))) (ge_0l (i := ((x0 + 4) + 17 + ((x2).toNatClampNeg))) (ge_9k (i := (x0 + 4)) (k := (x2).toNatClampNeg) (ge_1_4k (i := x0) hx0) (vin_lt (in_c g6)))) g8 (Nat.le_of_ble_eq_true rfl) (Nat.le_of_ble_eq_true rfl) dX1_become_119 (fun H locs hP hS => ?_)
      have hP : Wd G (cpy v (((x1 + 4) + 17 + ((x2).toNatClampNeg)) + 6) (((x0 + 4) + 17 + ((x2).toNatClampNeg)) + 6) 0 0 (nI 4)) H := hP
      refine lv_iinc (v := (x2 + 1)) (lv' := [(2, .int (x2 + 1)), (0, .ref (ad G x0)), (1, .ref (ad G x1))]) hx hb dX1_become_122 hl (k := 2) rfl (iinc_eq _ (by decide)) (by decide) rfl (fun ls hl => ?_)
      refine lv_goto (tgt := 81) hx hb dX1_become_125 (by decide) ?_
      exact ih x0 x1 (x2 + 1) hx0 hx1 _ _ _ ls hF hP hS (lv_sub hl [1, 2, 0] rfl)
set_option maxHeartbeats 4000000 in
set_option maxRecDepth 100000 in
theorem l_X1_become_32 {p : Program} {l : Launch} {e : Env} {s : State} {m : MethodId} {args : Array Value} {below : List Frame} {meth : Method} {c : Code} {G : GG} (M : Mx G RX1 cX1_become 3 none p s m args meth c) (v' : VV) : ∀ (n : Nat) (x0 : Nat) (x1 : Nat) (x2 : Int32) (hx0 : kd x0 = 1) (hx1 : kd x1 = 1) (v : VV) (H : Heap) (locs : List Loc) (ls : Array Slot), L_X1_become_32 n x0 x1 x2 v = some v' → Wd G v H → va_S (gA G) s.heap H locs → lv_has ls 3 [(0, .ref (ad G x0)), (1, .ref (ad G x1)), (2, .int x2)] → W p l e ({ frames := 1, cells := 0, slots := 0, locals := 26 } : Room) s m args below meth c H locs 0 0 (MQ below (QV G v') args s 0 0 (gA G)) (F0 m 32 ls []) := by
  have hx := M.1.1
  have hb := M.1.2.1
  intro n
  induction n with
  | zero =>
    intro x0 x1 x2 hx0 hx1 v H locs ls hF hP hS hl
    rw [L_X1_become_32] at hF
    cases hF
  | succ n ih =>
    intro x0 x1 x2 hx0 hx1 v H locs ls hF hP hS hl
    rw [L_X1_become_32] at hF
    refine lv_iload_n hx hb dX1_become_32 rfl (lv_at hl 2 rfl) ?_
    refine lv_aload_n hx hb dX1_become_33 rfl (lv_at hl 1 rfl) ?_
    refine fg_1_38 M hP hx1 dX1_become_34 ?_
    refine lv_icmp_ge (tgt := 79) hx hb dX1_become_37 (by decide) (fun c3 => ?_) (fun c3 => ?_)
    · replace hF := (if_pos c3).symm.trans hF
      refine lv_iconst (v := 0) hx hb dX1_become_79 (by decide) ?_
      refine lv_istore_n (lv' := [(2, .int 0), (0, .ref (ad G x0)), (1, .ref (ad G x1))]) hx hb dX1_become_80 rfl hl (by decide) rfl (fun ls hl => ?_)
      exact l_X1_become_81 M _ fu x0 x1 0 hx0 hx1 _ _ _ ls hF hP hS (lv_sub hl [1, 2, 0] rfl)
    · replace hF := (if_neg c3).symm.trans hF
      refine lv_aload_n hx hb dX1_become_40 rfl (lv_at hl 1 rfl) ?_
      refine fg_1_26 M hP hx1 dX1_become_41 ?_
      refine lv_iload_n hx hb dX1_become_44 rfl (lv_at hl 2 rfl) ?_
      obtain ⟨g9, hF⟩ := gu_some hF
      refine r_aald10 (k := (x2).toNatClampNeg) M hP (ge_1_3k (i := x1) hx1) (ge_10l (i := (x1 + 3)) (ge_1_3k (i := x1) hx1)) (in_c g9) rfl dX1_become_45 ?_
      refine fg_1_57 M hP (ge_10k (i := (x1 + 3)) (k := (x2).toNatClampNeg) (ge_1_3k (i := x1) hx1) (vin_lt (in_c g9))) dX1_become_46 ?_
      refine lv_iconst (v := 0) hx hb dX1_become_49 (by decide) ?_
      refine lv_aload_n hx hb dX1_become_50 rfl (lv_at hl 0 rfl) ?_
      refine fg_1_26 M hP hx0 dX1_become_51 ?_
      refine lv_iload_n hx hb dX1_become_54 rfl (lv_at hl 2 rfl) ?_
      obtain ⟨g10, hF⟩ := gu_some hF
      refine r_aald10 (k := (x2).toNatClampNeg) M hP (ge_1_3k (i := x0) hx0) (ge_10l (i := (x0 + 3)) (ge_1_3k (i := x0) hx0)) (in_c g10) rfl dX1_become_55 ?_
      refine fg_1_57 M hP (ge_10k (i := (x0 + 3)) (k := (x2).toNatClampNeg) (ge_1_3k (i := x0) hx0) (vin_lt (in_c g10))) dX1_become_56 ?_
      refine lv_iconst (v := 0) hx hb dX1_become_59 (by decide) ?_
      refine lv_aload_n hx hb dX1_become_60 rfl (lv_at hl 0 rfl) ?_
      refine fg_1_26 M hP hx0 dX1_become_61 ?_
      refine lv_iload_n hx hb dX1_become_64 rfl (lv_at hl 2 rfl) ?_
      obtain ⟨g11, hF⟩ := gu_some hF
      refine r_aald10 (k := (x2).toNatClampNeg) M hP (ge_1_3k (i := x0) hx0) (ge_10l (i := (x0 + 3)) (ge_1_3k (i := x0) hx0)) (in_c g11) rfl dX1_become_65 ?_
      refine fg_1_57 M hP (ge_10k (i := (x0 + 3)) (k := (x2).toNatClampNeg) (ge_1_3k (i := x0) hx0) (vin_lt (in_c g11))) dX1_become_66 ?_
      refine r_alen7 M hP (ge_2k (i := ((x0 + 3) + 2 + ((x2).toNatClampNeg))) (ge_10k (i := (x0 + 3)) (k := (x2).toNatClampNeg) (ge_1_3k (i := x0) hx0) (vin_lt (in_c g11)))) (ge_2l (i := ((x0 + 3) + 2 + ((x2).toNatClampNeg))) (ge_10k (i := (x0 + 3)) (k := (x2).toNatClampNeg) (ge_1_3k (i := x0) hx0) (vin_lt (in_c g11)))) dX1_become_69 ?_
      obtain ⟨g12, hF⟩ := gu_some hF
      refine r_copy_X1_51 M hl.1 hS hP (ge_2k (i := ((x1 + 3) + 2 + ((x2).toNatClampNeg))) (ge_10k (i := (x1 + 3)) (k := (x2).toNatClampNeg) (ge_1_3k (i := x1) hx1) (vin_lt (in_c g9)))) (ge_2l (i := ((x1 + 3) + 2 + ((x2).toNatClampNeg))) (ge_10k (i := (x1 + 3)) (k := (x2).toNatClampNeg) (ge_1_3k (i := x1) hx1) (vin_lt (in_c g9)))) (ge_2k (i := ((x0 + 3) + 2 + ((x2).toNatClampNeg))) (ge_10k (i := (x0 + 3)) (k := (x2).toNatClampNeg) (ge_1_3k (i := x0) hx0) (vin_lt (in_c g10)))) (ge_2l (i := ((x0 + 3) + 2 + ((x2).toNatClampNeg))) (ge_10k (i := (x0 + 3)) (k := (x2).toNatClampNeg) (ge_1_3k (i := x0) hx0) (vin_lt (in_c g10)))) g12 (Nat.le_of_ble_eq_true rfl) (Nat.le_of_ble_eq_true rfl) dX1_become_70 (fun H locs hP hS => ?_)
      have hP : Wd G (cpy v (((x1 + 3) + 2 + ((x2).toNatClampNeg)) + 8) (((x0 + 3) + 2 + ((x2).toNatClampNeg)) + 8) 0 0 (nI 6)) H := hP
      refine lv_iinc (v := (x2 + 1)) (lv' := [(2, .int (x2 + 1)), (0, .ref (ad G x0)), (1, .ref (ad G x1))]) hx hb dX1_become_73 hl (k := 2) rfl (iinc_eq _ (by decide)) (by decide) rfl (fun ls hl => ?_)
      refine lv_goto (tgt := 32) hx hb dX1_become_76 (by decide) ?_
      exact ih x0 x1 (x2 + 1) hx0 hx1 _ _ _ ls hF hP hS (lv_sub hl [1, 2, 0] rfl)
set_option maxHeartbeats 4000000 in
set_option maxRecDepth 100000 in
theorem c_X1_become (l : Launch) (G : GG) (q0 : Nat) (hq0 : kd q0 = 1) (a1 : Nat) (ha1 : kd a1 = 1) (v : VV) (v' : VV) (hF : F_X1_become q0 a1 v = some v') : Met l yX1_become (cdW yX1_become cX1_become 3 none) ({ frames := 1, cells := 0, slots := 0, locals := 26 } : Room) (PC G v [.ref (ad G q0), .ref (ad G a1)]) (QV G v') 0 0 (gA G) := by
  refine met_in RX1 (by decide) rfl (Nat.le_of_ble_eq_true rfl) ?_
  intro p e s m below meth c M hP ls hl
  have hx := M.1.1
  have hb := M.1.2.1
  have hS : va_S (gA G) s.heap s.heap [] := va_S.rf
  have hl : lv_has ls 3 [(0, .ref (ad G q0)), (1, .ref (ad G a1))] := hl
  unfold F_X1_become at hF
  refine lv_aload_n hx hb dX1_become_0 rfl (lv_at hl 1 rfl) ?_
  refine fg_1_9 M hP ha1 dX1_become_1 ?_
  refine lv_iconst (v := 0) hx hb dX1_become_4 (by decide) ?_
  refine lv_aload_n hx hb dX1_become_5 rfl (lv_at hl 0 rfl) ?_
  refine fg_1_9 M hP hq0 dX1_become_6 ?_
  refine lv_iconst (v := 0) hx hb dX1_become_9 (by decide) ?_
  refine lv_bipush (v := 6) hx hb dX1_become_10 (by decide) ?_
  obtain ⟨g1, hF⟩ := gu_some hF
  refine r_copy_X1_51 M hl.1 hS hP (ge_1_1k (i := a1) ha1) (ge_1_1l (i := a1) ha1) (ge_1_1k (i := q0) hq0) (ge_1_1l (i := q0) hq0) g1 (Nat.le_of_ble_eq_true rfl) (Nat.le_of_ble_eq_true rfl) dX1_become_12 (fun H locs hP hS => ?_)
  have hP : Wd G (cpy v (a1 + 1) (q0 + 1) 0 0 6) H := hP
  refine lv_aload_n hx hb dX1_become_15 rfl (lv_at hl 1 rfl) ?_
  refine fg_1_15 M hP ha1 dX1_become_16 ?_
  refine lv_iconst (v := 0) hx hb dX1_become_19 (by decide) ?_
  refine lv_aload_n hx hb dX1_become_20 rfl (lv_at hl 0 rfl) ?_
  refine fg_1_15 M hP hq0 dX1_become_21 ?_
  refine lv_iconst (v := 0) hx hb dX1_become_24 (by decide) ?_
  refine lv_bipush (v := 10) hx hb dX1_become_25 (by decide) ?_
  obtain ⟨g2, hF⟩ := gu_some hF
  refine r_copy_X1_51 M hl.1 hS hP (ge_1_2k (i := a1) ha1) (ge_1_2l (i := a1) ha1) (ge_1_2k (i := q0) hq0) (ge_1_2l (i := q0) hq0) g2 (Nat.le_of_ble_eq_true rfl) (Nat.le_of_ble_eq_true rfl) dX1_become_27 (fun H locs hP hS => ?_)
  have hP : Wd G (cpy (cpy v (a1 + 1) (q0 + 1) 0 0 6) (a1 + 2) (q0 + 2) 0 0 10) H := hP
  refine lv_iconst (v := 0) hx hb dX1_become_30 (by decide) ?_
  refine lv_istore_n (lv' := [(2, .int 0), (0, .ref (ad G q0)), (1, .ref (ad G a1))]) hx hb dX1_become_31 rfl hl (by decide) rfl (fun ls hl => ?_)
  exact l_X1_become_32 M _ fu q0 a1 0 hq0 ha1 _ _ _ ls hF hP hS (lv_sub hl [1, 2, 0] rfl)
def F_X1_leaveOnlyKeeper (q0 : Nat) (a1 : Int32) (v : VV) : Option VV :=
  gu (gI a1 8) (gu (gC 0 0 (nI 6) 6 6) (some (pu (cpy v (((q0 + 3) + 2 + ((a1).toNatClampNeg)) + 8) (((q0 + 3) + 2 + 0) + 8) 0 0 (nI 6)) q0 4 1)))
set_option maxHeartbeats 4000000 in
set_option maxRecDepth 100000 in
theorem c_X1_leaveOnlyKeeper (l : Launch) (G : GG) (q0 : Nat) (hq0 : kd q0 = 1) (a1 : Int32) (v : VV) (v' : VV) (hF : F_X1_leaveOnlyKeeper q0 a1 v = some v') : Met l yX1_leaveOnlyKeeper (cdW yX1_leaveOnlyKeeper cX1_leaveOnlyKeeper 2 none) ({ frames := 1, cells := 0, slots := 0, locals := 26 } : Room) (PC G v [.ref (ad G q0), .int a1]) (QV G v') 0 0 (gA G) := by
  refine met_in RX1 (by decide) rfl (Nat.le_of_ble_eq_true rfl) ?_
  intro p e s m below meth c M hP ls hl
  have hx := M.1.1
  have hb := M.1.2.1
  have hS : va_S (gA G) s.heap s.heap [] := va_S.rf
  have hl : lv_has ls 2 [(0, .ref (ad G q0)), (1, .int a1)] := hl
  unfold F_X1_leaveOnlyKeeper at hF
  refine lv_aload_n hx hb dX1_leaveOnlyKeeper_0 rfl (lv_at hl 0 rfl) ?_
  refine fg_1_26 M hP hq0 dX1_leaveOnlyKeeper_1 ?_
  refine lv_iload_n hx hb dX1_leaveOnlyKeeper_4 rfl (lv_at hl 1 rfl) ?_
  obtain ⟨g1, hF⟩ := gu_some hF
  refine r_aald10 (k := (a1).toNatClampNeg) M hP (ge_1_3k (i := q0) hq0) (ge_10l (i := (q0 + 3)) (ge_1_3k (i := q0) hq0)) (in_c g1) rfl dX1_leaveOnlyKeeper_5 ?_
  refine fg_1_57 M hP (ge_10k (i := (q0 + 3)) (k := (a1).toNatClampNeg) (ge_1_3k (i := q0) hq0) (vin_lt (in_c g1))) dX1_leaveOnlyKeeper_6 ?_
  refine lv_iconst (v := 0) hx hb dX1_leaveOnlyKeeper_9 (by decide) ?_
  refine lv_aload_n hx hb dX1_leaveOnlyKeeper_10 rfl (lv_at hl 0 rfl) ?_
  refine fg_1_26 M hP hq0 dX1_leaveOnlyKeeper_11 ?_
  refine lv_iconst (v := 0) hx hb dX1_leaveOnlyKeeper_14 (by decide) ?_
  refine r_aald10 (k := 0) M hP (ge_1_3k (i := q0) hq0) (ge_10l (i := (q0 + 3)) (ge_1_3k (i := q0) hq0)) (in_c rfl) rfl dX1_leaveOnlyKeeper_15 ?_
  refine fg_1_57 M hP (ge_10k (i := (q0 + 3)) (k := 0) (ge_1_3k (i := q0) hq0) (by decide : 0 < 8)) dX1_leaveOnlyKeeper_16 ?_
  refine lv_iconst (v := 0) hx hb dX1_leaveOnlyKeeper_19 (by decide) ?_
  refine lv_aload_n hx hb dX1_leaveOnlyKeeper_20 rfl (lv_at hl 0 rfl) ?_
  refine fg_1_26 M hP hq0 dX1_leaveOnlyKeeper_21 ?_
  refine lv_iconst (v := 0) hx hb dX1_leaveOnlyKeeper_24 (by decide) ?_
  refine r_aald10 (k := 0) M hP (ge_1_3k (i := q0) hq0) (ge_10l (i := (q0 + 3)) (ge_1_3k (i := q0) hq0)) (in_c rfl) rfl dX1_leaveOnlyKeeper_25 ?_
  refine fg_1_57 M hP (ge_10k (i := (q0 + 3)) (k := 0) (ge_1_3k (i := q0) hq0) (by decide : 0 < 8)) dX1_leaveOnlyKeeper_26 ?_
  refine r_alen7 M hP (ge_2k (i := ((q0 + 3) + 2 + 0)) (ge_10k (i := (q0 + 3)) (k := 0) (ge_1_3k (i := q0) hq0) (by decide : 0 < 8))) (ge_2l (i := ((q0 + 3) + 2 + 0)) (ge_10k (i := (q0 + 3)) (k := 0) (ge_1_3k (i := q0) hq0) (by decide : 0 < 8))) dX1_leaveOnlyKeeper_29 ?_
  obtain ⟨g2, hF⟩ := gu_some hF
  refine r_copy_X1_51 M hl.1 hS hP (ge_2k (i := ((q0 + 3) + 2 + ((a1).toNatClampNeg))) (ge_10k (i := (q0 + 3)) (k := (a1).toNatClampNeg) (ge_1_3k (i := q0) hq0) (vin_lt (in_c g1)))) (ge_2l (i := ((q0 + 3) + 2 + ((a1).toNatClampNeg))) (ge_10k (i := (q0 + 3)) (k := (a1).toNatClampNeg) (ge_1_3k (i := q0) hq0) (vin_lt (in_c g1)))) (ge_2k (i := ((q0 + 3) + 2 + 0)) (ge_10k (i := (q0 + 3)) (k := 0) (ge_1_3k (i := q0) hq0) (by decide : 0 < 8))) (ge_2l (i := ((q0 + 3) + 2 + 0)) (ge_10k (i := (q0 + 3)) (k := 0) (ge_1_3k (i := q0) hq0) (by decide : 0 < 8))) g2 (Nat.le_of_ble_eq_true rfl) (Nat.le_of_ble_eq_true rfl) dX1_leaveOnlyKeeper_30 (fun H locs hP hS => ?_)
  have hP : Wd G (cpy v (((q0 + 3) + 2 + ((a1).toNatClampNeg)) + 8) (((q0 + 3) + 2 + 0) + 8) 0 0 (nI 6)) H := hP
  refine lv_aload_n hx hb dX1_leaveOnlyKeeper_33 rfl (lv_at hl 0 rfl) ?_
  refine lv_iconst (v := 1) hx hb dX1_leaveOnlyKeeper_34 (by decide) ?_
  refine fp_1_38 M hS hP hq0 dX1_leaveOnlyKeeper_35 (fun H locs hP hS => ?_)
  have hP : Wd G (pu (cpy v (((q0 + 3) + 2 + ((a1).toNatClampNeg)) + 8) (((q0 + 3) + 2 + 0) + 8) 0 0 (nI 6)) q0 4 1) H := hP
  exact ret_v M hS hP (Option.some.inj hF) dX1_leaveOnlyKeeper_38
def F_X1_leaveOnlyChild (q0 : Nat) (a1 : Int32) (v : VV) : Option VV :=
  gu (gI a1 6) (gu (gC 0 0 (nI 4) 4 4) (some (pu (cpy v (((q0 + 4) + 17 + ((a1).toNatClampNeg)) + 6) (((q0 + 4) + 17 + 0) + 6) 0 0 (nI 4)) q0 5 1)))
set_option maxHeartbeats 4000000 in
set_option maxRecDepth 100000 in
theorem c_X1_leaveOnlyChild (l : Launch) (G : GG) (q0 : Nat) (hq0 : kd q0 = 1) (a1 : Int32) (v : VV) (v' : VV) (hF : F_X1_leaveOnlyChild q0 a1 v = some v') : Met l yX1_leaveOnlyChild (cdW yX1_leaveOnlyChild cX1_leaveOnlyChild 2 none) ({ frames := 1, cells := 0, slots := 0, locals := 26 } : Room) (PC G v [.ref (ad G q0), .int a1]) (QV G v') 0 0 (gA G) := by
  refine met_in RX1 (by decide) rfl (Nat.le_of_ble_eq_true rfl) ?_
  intro p e s m below meth c M hP ls hl
  have hx := M.1.1
  have hb := M.1.2.1
  have hS : va_S (gA G) s.heap s.heap [] := va_S.rf
  have hl : lv_has ls 2 [(0, .ref (ad G q0)), (1, .int a1)] := hl
  unfold F_X1_leaveOnlyChild at hF
  refine lv_aload_n hx hb dX1_leaveOnlyChild_0 rfl (lv_at hl 0 rfl) ?_
  refine fg_1_33 M hP hq0 dX1_leaveOnlyChild_1 ?_
  refine lv_iload_n hx hb dX1_leaveOnlyChild_4 rfl (lv_at hl 1 rfl) ?_
  obtain ⟨g1, hF⟩ := gu_some hF
  refine r_aald9 (k := (a1).toNatClampNeg) M hP (ge_1_4k (i := q0) hq0) (ge_9l (i := (q0 + 4)) (ge_1_4k (i := q0) hq0)) (in_c g1) rfl dX1_leaveOnlyChild_5 ?_
  refine fg_1_60 M hP (ge_9k (i := (q0 + 4)) (k := (a1).toNatClampNeg) (ge_1_4k (i := q0) hq0) (vin_lt (in_c g1))) dX1_leaveOnlyChild_6 ?_
  refine lv_iconst (v := 0) hx hb dX1_leaveOnlyChild_9 (by decide) ?_
  refine lv_aload_n hx hb dX1_leaveOnlyChild_10 rfl (lv_at hl 0 rfl) ?_
  refine fg_1_33 M hP hq0 dX1_leaveOnlyChild_11 ?_
  refine lv_iconst (v := 0) hx hb dX1_leaveOnlyChild_14 (by decide) ?_
  refine r_aald9 (k := 0) M hP (ge_1_4k (i := q0) hq0) (ge_9l (i := (q0 + 4)) (ge_1_4k (i := q0) hq0)) (in_c rfl) rfl dX1_leaveOnlyChild_15 ?_
  refine fg_1_60 M hP (ge_9k (i := (q0 + 4)) (k := 0) (ge_1_4k (i := q0) hq0) (by decide : 0 < 6)) dX1_leaveOnlyChild_16 ?_
  refine lv_iconst (v := 0) hx hb dX1_leaveOnlyChild_19 (by decide) ?_
  refine lv_aload_n hx hb dX1_leaveOnlyChild_20 rfl (lv_at hl 0 rfl) ?_
  refine fg_1_33 M hP hq0 dX1_leaveOnlyChild_21 ?_
  refine lv_iconst (v := 0) hx hb dX1_leaveOnlyChild_24 (by decide) ?_
  refine r_aald9 (k := 0) M hP (ge_1_4k (i := q0) hq0) (ge_9l (i := (q0 + 4)) (ge_1_4k (i := q0) hq0)) (in_c rfl) rfl dX1_leaveOnlyChild_25 ?_
  refine fg_1_60 M hP (ge_9k (i := (q0 + 4)) (k := 0) (ge_1_4k (i := q0) hq0) (by decide : 0 < 6)) dX1_leaveOnlyChild_26 ?_
  refine r_alen7 M hP (ge_0k (i := ((q0 + 4) + 17 + 0)) (ge_9k (i := (q0 + 4)) (k := 0) (ge_1_4k (i := q0) hq0) (by decide : 0 < 6))) (ge_0l (i := ((q0 + 4) + 17 + 0)) (ge_9k (i := (q0 + 4)) (k := 0) (ge_1_4k (i := q0) hq0) (by decide : 0 < 6))) dX1_leaveOnlyChild_29 ?_
  obtain ⟨g2, hF⟩ := gu_some hF
  refine r_copy_X1_51 M hl.1 hS hP (ge_0k (i := ((q0 + 4) + 17 + ((a1).toNatClampNeg))) (ge_9k (i := (q0 + 4)) (k := (a1).toNatClampNeg) (ge_1_4k (i := q0) hq0) (vin_lt (in_c g1)))) (ge_0l (i := ((q0 + 4) + 17 + ((a1).toNatClampNeg))) (ge_9k (i := (q0 + 4)) (k := (a1).toNatClampNeg) (ge_1_4k (i := q0) hq0) (vin_lt (in_c g1)))) (ge_0k (i := ((q0 + 4) + 17 + 0)) (ge_9k (i := (q0 + 4)) (k := 0) (ge_1_4k (i := q0) hq0) (by decide : 0 < 6))) (ge_0l (i := ((q0 + 4) + 17 + 0)) (ge_9k (i := (q0 + 4)) (k := 0) (ge_1_4k (i := q0) hq0) (by decide : 0 < 6))) g2 (Nat.le_of_ble_eq_true rfl) (Nat.le_of_ble_eq_true rfl) dX1_leaveOnlyChild_30 (fun H locs hP hS => ?_)
  have hP : Wd G (cpy v (((q0 + 4) + 17 + ((a1).toNatClampNeg)) + 6) (((q0 + 4) + 17 + 0) + 6) 0 0 (nI 4)) H := hP
  refine lv_aload_n hx hb dX1_leaveOnlyChild_33 rfl (lv_at hl 0 rfl) ?_
  refine lv_iconst (v := 1) hx hb dX1_leaveOnlyChild_34 (by decide) ?_
  refine fp_1_42 M hS hP hq0 dX1_leaveOnlyChild_35 (fun H locs hP hS => ?_)
  have hP : Wd G (pu (cpy v (((q0 + 4) + 17 + ((a1).toNatClampNeg)) + 6) (((q0 + 4) + 17 + 0) + 6) 0 0 (nI 4)) q0 5 1) H := hP
  exact ret_v M hS hP (Option.some.inj hF) dX1_leaveOnlyChild_38
def F_X1_hasAllKeepers (q0 : Nat) (v : VV) : Option Bool :=
  if (v q0 4) < 8 then (some false) else (some true)
set_option maxHeartbeats 4000000 in
set_option maxRecDepth 100000 in
theorem c_X1_hasAllKeepers (l : Launch) (G : GG) (q0 : Nat) (hq0 : kd q0 = 1) (v : VV) (r : Bool) (hF : F_X1_hasAllKeepers q0 v = some r) : Met l yX1_hasAllKeepers (cdW yX1_hasAllKeepers cX1_hasAllKeepers 1 (some .boolean)) ({ frames := 0, cells := 0, slots := 0, locals := 0 } : Room) (PC G v [.ref (ad G q0)]) (QI G (bI r) v) 0 0 (gA G) := by
  refine met_in RX1 (by decide) rfl (Nat.le_of_ble_eq_true rfl) ?_
  intro p e s m below meth c M hP ls hl
  have hx := M.1.1
  have hb := M.1.2.1
  have hS : va_S (gA G) s.heap s.heap [] := va_S.rf
  have hl : lv_has ls 1 [(0, .ref (ad G q0))] := hl
  unfold F_X1_hasAllKeepers at hF
  refine lv_aload_n hx hb dX1_hasAllKeepers_0 rfl (lv_at hl 0 rfl) ?_
  refine fg_1_38 M hP hq0 dX1_hasAllKeepers_1 ?_
  refine lv_bipush (v := 8) hx hb dX1_hasAllKeepers_4 (by decide) ?_
  refine lv_icmp_lt (tgt := 13) hx hb dX1_hasAllKeepers_6 (by decide) (fun c1 => ?_) (fun c1 => ?_)
  · replace hF := (if_pos c1).symm.trans hF
    refine lv_iconst (v := 0) hx hb dX1_hasAllKeepers_13 (by decide) ?_
    exact ret_z M hS hP (congrArg (fun z : Bool => (bI z, v)) (Option.some.inj hF)) rfl dX1_hasAllKeepers_14
  · replace hF := (if_neg c1).symm.trans hF
    refine lv_iconst (v := 1) hx hb dX1_hasAllKeepers_9 (by decide) ?_
    refine lv_goto (tgt := 14) hx hb dX1_hasAllKeepers_10 (by decide) ?_
    exact ret_z M hS hP (congrArg (fun z : Bool => (bI z, v)) (Option.some.inj hF)) rfl dX1_hasAllKeepers_14
def F_X1_hasAllChildren (q0 : Nat) (v : VV) : Option Bool :=
  if (v q0 5) < 6 then (some false) else (some true)
set_option maxHeartbeats 4000000 in
set_option maxRecDepth 100000 in
theorem c_X1_hasAllChildren (l : Launch) (G : GG) (q0 : Nat) (hq0 : kd q0 = 1) (v : VV) (r : Bool) (hF : F_X1_hasAllChildren q0 v = some r) : Met l yX1_hasAllChildren (cdW yX1_hasAllChildren cX1_hasAllChildren 1 (some .boolean)) ({ frames := 0, cells := 0, slots := 0, locals := 0 } : Room) (PC G v [.ref (ad G q0)]) (QI G (bI r) v) 0 0 (gA G) := by
  refine met_in RX1 (by decide) rfl (Nat.le_of_ble_eq_true rfl) ?_
  intro p e s m below meth c M hP ls hl
  have hx := M.1.1
  have hb := M.1.2.1
  have hS : va_S (gA G) s.heap s.heap [] := va_S.rf
  have hl : lv_has ls 1 [(0, .ref (ad G q0))] := hl
  unfold F_X1_hasAllChildren at hF
  refine lv_aload_n hx hb dX1_hasAllChildren_0 rfl (lv_at hl 0 rfl) ?_
  refine fg_1_42 M hP hq0 dX1_hasAllChildren_1 ?_
  refine lv_bipush (v := 6) hx hb dX1_hasAllChildren_4 (by decide) ?_
  refine lv_icmp_lt (tgt := 13) hx hb dX1_hasAllChildren_6 (by decide) (fun c1 => ?_) (fun c1 => ?_)
  · replace hF := (if_pos c1).symm.trans hF
    refine lv_iconst (v := 0) hx hb dX1_hasAllChildren_13 (by decide) ?_
    exact ret_z M hS hP (congrArg (fun z : Bool => (bI z, v)) (Option.some.inj hF)) rfl dX1_hasAllChildren_14
  · replace hF := (if_neg c1).symm.trans hF
    refine lv_iconst (v := 1) hx hb dX1_hasAllChildren_9 (by decide) ?_
    refine lv_goto (tgt := 14) hx hb dX1_hasAllChildren_10 (by decide) ?_
    exact ret_z M hS hP (congrArg (fun z : Bool => (bI z, v)) (Option.some.inj hF)) rfl dX1_hasAllChildren_14
def F_X1_addKeeper (q0 : Nat) (a1 : Int32) (a2 : Int32) (v : VV) : Option (Int32 × VV) :=
  gu (gI (v q0 4) 8) (Option.bind (F_X2_begin ((q0 + 3) + 2 + ((v q0 4).toNatClampNeg)) a1 a2 v) (fun v4 => some (v4 q0 4, pu v4 q0 4 ((v4 q0 4) + 1))))
set_option maxHeartbeats 4000000 in
set_option maxRecDepth 100000 in
theorem c_X1_addKeeper (l : Launch) (G : GG) (q0 : Nat) (hq0 : kd q0 = 1) (a1 : Int32) (a2 : Int32) (v : VV) (r : Int32) (v' : VV) (hF : F_X1_addKeeper q0 a1 a2 v = some (r, v')) : Met l yX1_addKeeper (cdW yX1_addKeeper cX1_addKeeper 3 (some .int)) ({ frames := 1, cells := 0, slots := 0, locals := 22 } : Room) (PC G v [.ref (ad G q0), .int a1, .int a2]) (QI G r v') 0 0 (gA G) := by
  refine met_in RX1 (by decide) rfl (Nat.le_of_ble_eq_true rfl) ?_
  intro p e s m below meth c M hP ls hl
  have hx := M.1.1
  have hb := M.1.2.1
  have hS : va_S (gA G) s.heap s.heap [] := va_S.rf
  have hl : lv_has ls 3 [(0, .ref (ad G q0)), (1, .int a1), (2, .int a2)] := hl
  unfold F_X1_addKeeper at hF
  refine lv_aload_n hx hb dX1_addKeeper_0 rfl (lv_at hl 0 rfl) ?_
  refine fg_1_26 M hP hq0 dX1_addKeeper_1 ?_
  refine lv_aload_n hx hb dX1_addKeeper_4 rfl (lv_at hl 0 rfl) ?_
  refine fg_1_38 M hP hq0 dX1_addKeeper_5 ?_
  obtain ⟨g1, hF⟩ := gu_some hF
  refine r_aald10 (k := (v q0 4).toNatClampNeg) M hP (ge_1_3k (i := q0) hq0) (ge_10l (i := (q0 + 3)) (ge_1_3k (i := q0) hq0)) (in_c g1) rfl dX1_addKeeper_8 ?_
  refine lv_iload_n hx hb dX1_addKeeper_9 rfl (lv_at hl 1 rfl) ?_
  refine lv_iload_n hx hb dX1_addKeeper_10 rfl (lv_at hl 2 rfl) ?_
  obtain ⟨v4, h2, hF⟩ := bi_some hF
  refine k_v hS (kV_run M hS hP ok_X1_61 (c_X2_begin l G ((q0 + 3) + 2 + ((v q0 4).toNatClampNeg)) (ge_10k (i := (q0 + 3)) (k := (v q0 4).toNatClampNeg) (ge_1_3k (i := q0) hq0) (vin_lt (in_c g1))) a1 a2 v v4 h2) (rc_2 M hP (ge_10k (i := (q0 + 3)) (k := (v q0 4).toNatClampNeg) (ge_1_3k (i := q0) hq0) (vin_lt (in_c g1)))) rfl hl.1 rfl (Nat.le_of_ble_eq_true rfl) ⟨rfl, rfl⟩ ⟨Nat.le_of_ble_eq_true rfl, Nat.le_of_ble_eq_true rfl⟩ dX1_addKeeper_11) (fun H locs hP hS => ?_)
  refine lv_aload_n hx hb dX1_addKeeper_14 rfl (lv_at hl 0 rfl) ?_
  refine lv_dup hx hb dX1_addKeeper_15 rfl ?_
  refine fg_1_38 M hP hq0 dX1_addKeeper_16 ?_
  refine lv_dup_x1 hx hb dX1_addKeeper_19 rfl rfl ?_
  refine lv_iconst (v := 1) hx hb dX1_addKeeper_20 (by decide) ?_
  refine lv_iadd hx hb dX1_addKeeper_21 ?_
  refine fp_1_38 M hS hP hq0 dX1_addKeeper_22 (fun H locs hP hS => ?_)
  have hP : Wd G (pu v4 q0 4 ((v4 q0 4) + 1)) H := hP
  exact ret_i M hS hP (Option.some.inj hF) dX1_addKeeper_25
def F_X1_addChild (q0 : Nat) (a1 : Int32) (a2 : Int32) (v : VV) : Option (Int32 × VV) :=
  gu (gI (v q0 5) 6) (Option.bind (F_X0_begin ((q0 + 4) + 17 + ((v q0 5).toNatClampNeg)) a1 a2 v) (fun v4 => some (v4 q0 5, pu v4 q0 5 ((v4 q0 5) + 1))))
set_option maxHeartbeats 4000000 in
set_option maxRecDepth 100000 in
theorem c_X1_addChild (l : Launch) (G : GG) (q0 : Nat) (hq0 : kd q0 = 1) (a1 : Int32) (a2 : Int32) (v : VV) (r : Int32) (v' : VV) (hF : F_X1_addChild q0 a1 a2 v = some (r, v')) : Met l yX1_addChild (cdW yX1_addChild cX1_addChild 3 (some .int)) ({ frames := 1, cells := 0, slots := 0, locals := 22 } : Room) (PC G v [.ref (ad G q0), .int a1, .int a2]) (QI G r v') 0 0 (gA G) := by
  refine met_in RX1 (by decide) rfl (Nat.le_of_ble_eq_true rfl) ?_
  intro p e s m below meth c M hP ls hl
  have hx := M.1.1
  have hb := M.1.2.1
  have hS : va_S (gA G) s.heap s.heap [] := va_S.rf
  have hl : lv_has ls 3 [(0, .ref (ad G q0)), (1, .int a1), (2, .int a2)] := hl
  unfold F_X1_addChild at hF
  refine lv_aload_n hx hb dX1_addChild_0 rfl (lv_at hl 0 rfl) ?_
  refine fg_1_33 M hP hq0 dX1_addChild_1 ?_
  refine lv_aload_n hx hb dX1_addChild_4 rfl (lv_at hl 0 rfl) ?_
  refine fg_1_42 M hP hq0 dX1_addChild_5 ?_
  obtain ⟨g1, hF⟩ := gu_some hF
  refine r_aald9 (k := (v q0 5).toNatClampNeg) M hP (ge_1_4k (i := q0) hq0) (ge_9l (i := (q0 + 4)) (ge_1_4k (i := q0) hq0)) (in_c g1) rfl dX1_addChild_8 ?_
  refine lv_iload_n hx hb dX1_addChild_9 rfl (lv_at hl 1 rfl) ?_
  refine lv_iload_n hx hb dX1_addChild_10 rfl (lv_at hl 2 rfl) ?_
  obtain ⟨v4, h2, hF⟩ := bi_some hF
  refine k_v hS (kV_run M hS hP ok_X1_65 (c_X0_begin l G ((q0 + 4) + 17 + ((v q0 5).toNatClampNeg)) (ge_9k (i := (q0 + 4)) (k := (v q0 5).toNatClampNeg) (ge_1_4k (i := q0) hq0) (vin_lt (in_c g1))) a1 a2 v v4 h2) (rc_0 M hP (ge_9k (i := (q0 + 4)) (k := (v q0 5).toNatClampNeg) (ge_1_4k (i := q0) hq0) (vin_lt (in_c g1)))) rfl hl.1 rfl (Nat.le_of_ble_eq_true rfl) ⟨rfl, rfl⟩ ⟨Nat.le_of_ble_eq_true rfl, Nat.le_of_ble_eq_true rfl⟩ dX1_addChild_11) (fun H locs hP hS => ?_)
  refine lv_aload_n hx hb dX1_addChild_14 rfl (lv_at hl 0 rfl) ?_
  refine lv_dup hx hb dX1_addChild_15 rfl ?_
  refine fg_1_42 M hP hq0 dX1_addChild_16 ?_
  refine lv_dup_x1 hx hb dX1_addChild_19 rfl rfl ?_
  refine lv_iconst (v := 1) hx hb dX1_addChild_20 (by decide) ?_
  refine lv_iadd hx hb dX1_addChild_21 ?_
  refine fp_1_42 M hS hP hq0 dX1_addChild_22 (fun H locs hP hS => ?_)
  have hP : Wd G (pu v4 q0 5 ((v4 q0 5) + 1)) H := hP
  exact ret_i M hS hP (Option.some.inj hF) dX1_addChild_25
def F_X1_thickness (q0 : Nat) (v : VV) : Option Int32 :=
  gu (gI ((v q0 6) - (v q0 6) / 6 * 6) 6) (some (v (q0 + 1) (((v q0 6) - (v q0 6) / 6 * 6).toNatClampNeg)))
set_option maxHeartbeats 4000000 in
set_option maxRecDepth 100000 in
theorem c_X1_thickness (l : Launch) (G : GG) (q0 : Nat) (hq0 : kd q0 = 1) (v : VV) (r : Int32) (hF : F_X1_thickness q0 v = some r) : Met l yX1_thickness (cdW yX1_thickness cX1_thickness 1 (some .int)) ({ frames := 0, cells := 0, slots := 0, locals := 0 } : Room) (PC G v [.ref (ad G q0)]) (QI G r v) 0 0 (gA G) := by
  refine met_in RX1 (by decide) rfl (Nat.le_of_ble_eq_true rfl) ?_
  intro p e s m below meth c M hP ls hl
  have hx := M.1.1
  have hb := M.1.2.1
  have hS : va_S (gA G) s.heap s.heap [] := va_S.rf
  have hl : lv_has ls 1 [(0, .ref (ad G q0))] := hl
  unfold F_X1_thickness at hF
  refine lv_aload_n hx hb dX1_thickness_0 rfl (lv_at hl 0 rfl) ?_
  refine fg_1_9 M hP hq0 dX1_thickness_1 ?_
  refine lv_aload_n hx hb dX1_thickness_4 rfl (lv_at hl 0 rfl) ?_
  refine fg_1_45 M hP hq0 dX1_thickness_5 ?_
  refine lv_bipush (v := 6) hx hb dX1_thickness_8 (by decide) ?_
  refine lv_irem hx hb dX1_thickness_10 (by decide) ?_
  obtain ⟨g1, hF⟩ := gu_some hF
  refine r_iald (k := ((v q0 6) - (v q0 6) / 6 * 6).toNatClampNeg) M hP (ge_1_1k (i := q0) hq0) (ge_1_1l (i := q0) hq0) (in_c g1) rfl dX1_thickness_11 ?_
  exact ret_i M hS hP (congrArg (fun z => (z, v)) (Option.some.inj hF)) dX1_thickness_12
def F_X1_toldOfKeeper (q0 : Nat) (a1 : Int32) (a2 : Int32) (v : VV) : Option Int32 :=
  gu (gI a1 8) ((if a2 = 6 then (Option.bind (F_X2_gives ((q0 + 3) + 2 + ((a1).toNatClampNeg)) (v q0 6) v) (fun r4 => some r4)) else (if a2 = 7 then (Option.bind (F_X1_thickness q0 v) (fun r7 => Option.bind (F_X2_reaches ((q0 + 3) + 2 + ((a1).toNatClampNeg)) r7 v) (fun r9 => some r9))) else (if a2 = 8 then (Option.bind (F_X2_tempo ((q0 + 3) + 2 + ((a1).toNatClampNeg)) v) (fun r12 => some r12)) else (if a2 = 9 then (Option.bind (F_X2_tires ((q0 + 3) + 2 + ((a1).toNatClampNeg)) v) (fun r15 => some r15)) else (if a2 = 10 then (Option.bind (F_X2_turns ((q0 + 3) + 2 + ((a1).toNatClampNeg)) (v q0 6) v) (fun r18 => some r18)) else (gu (gI a2 6) (some (v (((q0 + 3) + 2 + ((a1).toNatClampNeg)) + 8) ((a2).toNatClampNeg))))))))))
set_option maxHeartbeats 4000000 in
set_option maxRecDepth 100000 in
theorem c_X1_toldOfKeeper (l : Launch) (G : GG) (q0 : Nat) (hq0 : kd q0 = 1) (a1 : Int32) (a2 : Int32) (v : VV) (r : Int32) (hF : F_X1_toldOfKeeper q0 a1 a2 v = some r) : Met l yX1_toldOfKeeper (cdW yX1_toldOfKeeper cX1_toldOfKeeper 4 (some .int)) ({ frames := 2, cells := 0, slots := 0, locals := 43 } : Room) (PC G v [.ref (ad G q0), .int a1, .int a2]) (QI G r v) 0 0 (gA G) := by
  refine met_in RX1 (by decide) rfl (Nat.le_of_ble_eq_true rfl) ?_
  intro p e s m below meth c M hP ls hl
  have hx := M.1.1
  have hb := M.1.2.1
  have hS : va_S (gA G) s.heap s.heap [] := va_S.rf
  have hl : lv_has ls 4 [(0, .ref (ad G q0)), (1, .int a1), (2, .int a2)] := hl
  unfold F_X1_toldOfKeeper at hF
  refine lv_aload_n hx hb dX1_toldOfKeeper_0 rfl (lv_at hl 0 rfl) ?_
  refine fg_1_26 M hP hq0 dX1_toldOfKeeper_1 ?_
  refine lv_iload_n hx hb dX1_toldOfKeeper_4 rfl (lv_at hl 1 rfl) ?_
  obtain ⟨g1, hF⟩ := gu_some hF
  refine r_aald10 (k := (a1).toNatClampNeg) M hP (ge_1_3k (i := q0) hq0) (ge_10l (i := (q0 + 3)) (ge_1_3k (i := q0) hq0)) (in_c g1) rfl dX1_toldOfKeeper_5 ?_
  refine lv_astore_n (lv' := [(3, .ref (ad G ((q0 + 3) + 2 + ((a1).toNatClampNeg)))), (0, .ref (ad G q0)), (1, .int a1), (2, .int a2)]) hx hb dX1_toldOfKeeper_6 rfl hl (by decide) rfl (fun ls hl => ?_)
  refine lv_iload_n hx hb dX1_toldOfKeeper_7 rfl (lv_at hl 3 rfl) ?_
  rcases Decidable.em (a2 = 6) with c2 | c2
  · replace hF := (if_pos c2).symm.trans hF
    refine lv_tableIn (tgt := 44) hx hb dX1_toldOfKeeper_8 (by rw [c2]; decide) (by rw [c2]; decide) (by rw [c2]; rfl) (by decide) ?_
    refine lv_aload_n hx hb dX1_toldOfKeeper_44 rfl (lv_at hl 0 rfl) ?_
    refine lv_aload_n hx hb dX1_toldOfKeeper_45 rfl (lv_at hl 1 rfl) ?_
    refine fg_1_45 M hP hq0 dX1_toldOfKeeper_46 ?_
    obtain ⟨r4, h3, hF⟩ := bi_some hF
    refine k_i hS (kV_run M hS hP ok_X1_66 (c_X2_gives l G ((q0 + 3) + 2 + ((a1).toNatClampNeg)) (ge_10k (i := (q0 + 3)) (k := (a1).toNatClampNeg) (ge_1_3k (i := q0) hq0) (vin_lt (in_c g1))) (v q0 6) v r4 h3) (rc_2 M hP (ge_10k (i := (q0 + 3)) (k := (a1).toNatClampNeg) (ge_1_3k (i := q0) hq0) (vin_lt (in_c g1)))) rfl hl.1 rfl (Nat.le_of_ble_eq_true rfl) ⟨rfl, rfl⟩ ⟨Nat.le_of_ble_eq_true rfl, Nat.le_of_ble_eq_true rfl⟩ dX1_toldOfKeeper_49) (fun H locs hP hS => ?_)
    exact ret_i M hS hP (congrArg (fun z => (z, v)) (Option.some.inj hF)) dX1_toldOfKeeper_52
  · replace hF := (if_neg c2).symm.trans hF
    rcases Decidable.em (a2 = 7) with c5 | c5
    · replace hF := (if_pos c5).symm.trans hF
      refine lv_tableIn (tgt := 53) hx hb dX1_toldOfKeeper_8 (by rw [c5]; decide) (by rw [c5]; decide) (by rw [c5]; rfl) (by decide) ?_
      refine lv_aload_n hx hb dX1_toldOfKeeper_53 rfl (lv_at hl 0 rfl) ?_
      refine lv_aload_n hx hb dX1_toldOfKeeper_54 rfl (lv_at hl 1 rfl) ?_
      obtain ⟨r7, h6, hF⟩ := bi_some hF
      refine k_i hS (kV_run M hS hP ok_X1_70 (c_X1_thickness l G q0 hq0 v r7 h6) (rc_1 M hP hq0) rfl hl.1 rfl (Nat.le_of_ble_eq_true rfl) ⟨rfl, rfl⟩ ⟨Nat.le_of_ble_eq_true rfl, Nat.le_of_ble_eq_true rfl⟩ dX1_toldOfKeeper_55) (fun H locs hP hS => ?_)
      obtain ⟨r9, h8, hF⟩ := bi_some hF
      refine k_i hS (kV_run M hS hP ok_X1_74 (c_X2_reaches l G ((q0 + 3) + 2 + ((a1).toNatClampNeg)) (ge_10k (i := (q0 + 3)) (k := (a1).toNatClampNeg) (ge_1_3k (i := q0) hq0) (vin_lt (in_c g1))) r7 v r9 h8) (rc_2 M hP (ge_10k (i := (q0 + 3)) (k := (a1).toNatClampNeg) (ge_1_3k (i := q0) hq0) (vin_lt (in_c g1)))) rfl hl.1 rfl (Nat.le_of_ble_eq_true rfl) ⟨rfl, rfl⟩ ⟨Nat.le_of_ble_eq_true rfl, Nat.le_of_ble_eq_true rfl⟩ dX1_toldOfKeeper_58) (fun H locs hP hS => ?_)
      exact ret_i M hS hP (congrArg (fun z => (z, v)) (Option.some.inj hF)) dX1_toldOfKeeper_61
    · replace hF := (if_neg c5).symm.trans hF
      rcases Decidable.em (a2 = 8) with c10 | c10
      · replace hF := (if_pos c10).symm.trans hF
        refine lv_tableIn (tgt := 62) hx hb dX1_toldOfKeeper_8 (by rw [c10]; decide) (by rw [c10]; decide) (by rw [c10]; rfl) (by decide) ?_
        refine lv_aload_n hx hb dX1_toldOfKeeper_62 rfl (lv_at hl 0 rfl) ?_
        obtain ⟨r12, h11, hF⟩ := bi_some hF
        refine k_i hS (kV_run M hS hP ok_X1_77 (c_X2_tempo l G ((q0 + 3) + 2 + ((a1).toNatClampNeg)) (ge_10k (i := (q0 + 3)) (k := (a1).toNatClampNeg) (ge_1_3k (i := q0) hq0) (vin_lt (in_c g1))) v r12 h11) (rc_2 M hP (ge_10k (i := (q0 + 3)) (k := (a1).toNatClampNeg) (ge_1_3k (i := q0) hq0) (vin_lt (in_c g1)))) rfl hl.1 rfl (Nat.le_of_ble_eq_true rfl) ⟨rfl, rfl⟩ ⟨Nat.le_of_ble_eq_true rfl, Nat.le_of_ble_eq_true rfl⟩ dX1_toldOfKeeper_63) (fun H locs hP hS => ?_)
        exact ret_i M hS hP (congrArg (fun z => (z, v)) (Option.some.inj hF)) dX1_toldOfKeeper_66
      · replace hF := (if_neg c10).symm.trans hF
        rcases Decidable.em (a2 = 9) with c13 | c13
        · replace hF := (if_pos c13).symm.trans hF
          refine lv_tableIn (tgt := 67) hx hb dX1_toldOfKeeper_8 (by rw [c13]; decide) (by rw [c13]; decide) (by rw [c13]; rfl) (by decide) ?_
          refine lv_aload_n hx hb dX1_toldOfKeeper_67 rfl (lv_at hl 0 rfl) ?_
          obtain ⟨r15, h14, hF⟩ := bi_some hF
          refine k_i hS (kV_run M hS hP ok_X1_80 (c_X2_tires l G ((q0 + 3) + 2 + ((a1).toNatClampNeg)) (ge_10k (i := (q0 + 3)) (k := (a1).toNatClampNeg) (ge_1_3k (i := q0) hq0) (vin_lt (in_c g1))) v r15 h14) (rc_2 M hP (ge_10k (i := (q0 + 3)) (k := (a1).toNatClampNeg) (ge_1_3k (i := q0) hq0) (vin_lt (in_c g1)))) rfl hl.1 rfl (Nat.le_of_ble_eq_true rfl) ⟨rfl, rfl⟩ ⟨Nat.le_of_ble_eq_true rfl, Nat.le_of_ble_eq_true rfl⟩ dX1_toldOfKeeper_68) (fun H locs hP hS => ?_)
          exact ret_i M hS hP (congrArg (fun z => (z, v)) (Option.some.inj hF)) dX1_toldOfKeeper_71
        · replace hF := (if_neg c13).symm.trans hF
          rcases Decidable.em (a2 = 10) with c16 | c16
          · replace hF := (if_pos c16).symm.trans hF
            refine lv_tableIn (tgt := 72) hx hb dX1_toldOfKeeper_8 (by rw [c16]; decide) (by rw [c16]; decide) (by rw [c16]; rfl) (by decide) ?_
            refine lv_aload_n hx hb dX1_toldOfKeeper_72 rfl (lv_at hl 0 rfl) ?_
            refine lv_aload_n hx hb dX1_toldOfKeeper_73 rfl (lv_at hl 1 rfl) ?_
            refine fg_1_45 M hP hq0 dX1_toldOfKeeper_74 ?_
            obtain ⟨r18, h17, hF⟩ := bi_some hF
            refine k_i hS (kV_run M hS hP ok_X1_83 (c_X2_turns l G ((q0 + 3) + 2 + ((a1).toNatClampNeg)) (ge_10k (i := (q0 + 3)) (k := (a1).toNatClampNeg) (ge_1_3k (i := q0) hq0) (vin_lt (in_c g1))) (v q0 6) v r18 h17) (rc_2 M hP (ge_10k (i := (q0 + 3)) (k := (a1).toNatClampNeg) (ge_1_3k (i := q0) hq0) (vin_lt (in_c g1)))) rfl hl.1 rfl (Nat.le_of_ble_eq_true rfl) ⟨rfl, rfl⟩ ⟨Nat.le_of_ble_eq_true rfl, Nat.le_of_ble_eq_true rfl⟩ dX1_toldOfKeeper_77) (fun H locs hP hS => ?_)
            exact ret_i M hS hP (congrArg (fun z => (z, v)) (Option.some.inj hF)) dX1_toldOfKeeper_80
          · replace hF := (if_neg c16).symm.trans hF
            refine lv_tableOut (tgt := 81) hx hb dX1_toldOfKeeper_8 (by have q0 := lv_neT (a := 6) c2 (by decide); have q1 := lv_neT (a := 7) c5 (by decide); have q2 := lv_neT (a := 8) c10 (by decide); have q3 := lv_neT (a := 9) c13 (by decide); have q4 := lv_neT (a := 10) c16 (by decide); omega) (by decide) ?_
            refine lv_aload_n hx hb dX1_toldOfKeeper_81 rfl (lv_at hl 0 rfl) ?_
            refine fg_1_57 M hP (ge_10k (i := (q0 + 3)) (k := (a1).toNatClampNeg) (ge_1_3k (i := q0) hq0) (vin_lt (in_c g1))) dX1_toldOfKeeper_82 ?_
            refine lv_iload_n hx hb dX1_toldOfKeeper_85 rfl (lv_at hl 3 rfl) ?_
            obtain ⟨g19, hF⟩ := gu_some hF
            refine r_iald (k := (a2).toNatClampNeg) M hP (ge_2k (i := ((q0 + 3) + 2 + ((a1).toNatClampNeg))) (ge_10k (i := (q0 + 3)) (k := (a1).toNatClampNeg) (ge_1_3k (i := q0) hq0) (vin_lt (in_c g1)))) (ge_2l (i := ((q0 + 3) + 2 + ((a1).toNatClampNeg))) (ge_10k (i := (q0 + 3)) (k := (a1).toNatClampNeg) (ge_1_3k (i := q0) hq0) (vin_lt (in_c g1)))) (in_c g19) rfl dX1_toldOfKeeper_86 ?_
            exact ret_i M hS hP (congrArg (fun z => (z, v)) (Option.some.inj hF)) dX1_toldOfKeeper_87
def F_X1_isWithin (a0 : Nat) (a1 : Nat) (a2 : Int32) (v : VV) : Option Bool :=
  if a2 < (if 0 ≤ ((v (a0 + 8) 1) - (v (a1 + 6) 0)) then ((v (a0 + 8) 1) - (v (a1 + 6) 0)) else 0 - ((v (a0 + 8) 1) - (v (a1 + 6) 0)) : Int32) then (some false) else (some true)
set_option maxHeartbeats 4000000 in
set_option maxRecDepth 100000 in
theorem c_X1_isWithin (l : Launch) (G : GG) (a0 : Nat) (ha0 : kd a0 = 2) (a1 : Nat) (ha1 : kd a1 = 0) (a2 : Int32) (v : VV) (r : Bool) (hF : F_X1_isWithin a0 a1 a2 v = some r) : Met l yX1_isWithin (cdW yX1_isWithin cX1_isWithin 3 (some .boolean)) ({ frames := 1, cells := 0, slots := 0, locals := 21 } : Room) (PC G v [.ref (ad G a0), .ref (ad G a1), .int a2]) (QI G (bI r) v) 0 0 (gA G) := by
  refine met_in RX1 (by decide) rfl (Nat.le_of_ble_eq_true rfl) ?_
  intro p e s m below meth c M hP ls hl
  have hx := M.1.1
  have hb := M.1.2.1
  have hS : va_S (gA G) s.heap s.heap [] := va_S.rf
  have hl : lv_has ls 3 [(0, .ref (ad G a0)), (1, .ref (ad G a1)), (2, .int a2)] := hl
  unfold F_X1_isWithin at hF
  refine lv_aload_n hx hb dX1_isWithin_0 rfl (lv_at hl 0 rfl) ?_
  refine fg_1_57 M hP ha0 dX1_isWithin_1 ?_
  refine lv_iconst (v := 1) hx hb dX1_isWithin_4 (by decide) ?_
  refine r_iald (k := 1) M hP (ge_2k (i := a0) ha0) (ge_2l (i := a0) ha0) (in_c rfl) rfl dX1_isWithin_5 ?_
  refine lv_aload_n hx hb dX1_isWithin_6 rfl (lv_at hl 1 rfl) ?_
  refine fg_1_60 M hP ha1 dX1_isWithin_7 ?_
  refine lv_iconst (v := 0) hx hb dX1_isWithin_10 (by decide) ?_
  refine r_iald (k := 0) M hP (ge_0k (i := a1) ha1) (ge_0l (i := a1) ha1) (in_c rfl) rfl dX1_isWithin_11 ?_
  refine lv_isub hx hb dX1_isWithin_12 ?_
  refine mabs_1_94 M hl.1 (Nat.le_of_ble_eq_true rfl) (Nat.le_of_ble_eq_true rfl) dX1_isWithin_13 ?_
  refine lv_iload_n hx hb dX1_isWithin_16 rfl (lv_at hl 2 rfl) ?_
  refine lv_icmp_gt (tgt := 24) hx hb dX1_isWithin_17 (by decide) (fun c1 => ?_) (fun c1 => ?_)
  · replace hF := (if_pos c1).symm.trans hF
    refine lv_iconst (v := 0) hx hb dX1_isWithin_24 (by decide) ?_
    exact ret_z M hS hP (congrArg (fun z : Bool => (bI z, v)) (Option.some.inj hF)) rfl dX1_isWithin_25
  · replace hF := (if_neg c1).symm.trans hF
    refine lv_iconst (v := 1) hx hb dX1_isWithin_20 (by decide) ?_
    refine lv_goto (tgt := 25) hx hb dX1_isWithin_21 (by decide) ?_
    exact ret_z M hS hP (congrArg (fun z : Bool => (bI z, v)) (Option.some.inj hF)) rfl dX1_isWithin_25
def F_X1_isHeard (q0 : Nat) (a1 : Int32) (a2 : Int32) (a3 : Int32) (v : VV) : Option Bool :=
  gu (gI a1 8) (Option.bind (F_X2_isSilent ((q0 + 3) + 2 + ((a1).toNatClampNeg)) v) (fun r3 => (if r3 = true then (some false) else (gu (gI a1 8) (gu (gI a2 6) (gu (gI a1 8) (Option.bind (F_X2_reaches ((q0 + 3) + 2 + ((a1).toNatClampNeg)) a3 v) (fun r9 => Option.bind (F_X1_isWithin ((q0 + 3) + 2 + ((a1).toNatClampNeg)) ((q0 + 4) + 17 + ((a2).toNatClampNeg)) r9 v) (fun r11 => (if r11 = true then (some true) else (some false)))))))))))
set_option maxHeartbeats 4000000 in
set_option maxRecDepth 100000 in
theorem c_X1_isHeard (l : Launch) (G : GG) (q0 : Nat) (hq0 : kd q0 = 1) (a1 : Int32) (a2 : Int32) (a3 : Int32) (v : VV) (r : Bool) (hF : F_X1_isHeard q0 a1 a2 a3 v = some r) : Met l yX1_isHeard (cdW yX1_isHeard cX1_isHeard 4 (some .boolean)) ({ frames := 2, cells := 0, slots := 0, locals := 43 } : Room) (PC G v [.ref (ad G q0), .int a1, .int a2, .int a3]) (QI G (bI r) v) 0 0 (gA G) := by
  refine met_in RX1 (by decide) rfl (Nat.le_of_ble_eq_true rfl) ?_
  intro p e s m below meth c M hP ls hl
  have hx := M.1.1
  have hb := M.1.2.1
  have hS : va_S (gA G) s.heap s.heap [] := va_S.rf
  have hl : lv_has ls 4 [(0, .ref (ad G q0)), (1, .int a1), (2, .int a2), (3, .int a3)] := hl
  unfold F_X1_isHeard at hF
  refine lv_aload_n hx hb dX1_isHeard_0 rfl (lv_at hl 0 rfl) ?_
  refine fg_1_26 M hP hq0 dX1_isHeard_1 ?_
  refine lv_iload_n hx hb dX1_isHeard_4 rfl (lv_at hl 1 rfl) ?_
  obtain ⟨g1, hF⟩ := gu_some hF
  refine r_aald10 (k := (a1).toNatClampNeg) M hP (ge_1_3k (i := q0) hq0) (ge_10l (i := (q0 + 3)) (ge_1_3k (i := q0) hq0)) (in_c g1) rfl dX1_isHeard_5 ?_
  obtain ⟨r3, h2, hF⟩ := bi_some hF
  refine k_i hS (kV_run M hS hP ok_X1_86 (c_X2_isSilent l G ((q0 + 3) + 2 + ((a1).toNatClampNeg)) (ge_10k (i := (q0 + 3)) (k := (a1).toNatClampNeg) (ge_1_3k (i := q0) hq0) (vin_lt (in_c g1))) v r3 h2) (rc_2 M hP (ge_10k (i := (q0 + 3)) (k := (a1).toNatClampNeg) (ge_1_3k (i := q0) hq0) (vin_lt (in_c g1)))) rfl hl.1 rfl (Nat.le_of_ble_eq_true rfl) ⟨rfl, rfl⟩ ⟨Nat.le_of_ble_eq_true rfl, Nat.le_of_ble_eq_true rfl⟩ dX1_isHeard_6) (fun H locs hP hS => ?_)
  refine lv_if_ne (tgt := 44) hx hb dX1_isHeard_9 (by decide) (fun c4 => ?_) (fun c4 => ?_)
  · replace hF := (if_pos (bI_t c4)).symm.trans hF
    refine lv_iconst (v := 0) hx hb dX1_isHeard_44 (by decide) ?_
    exact ret_z M hS hP (congrArg (fun z : Bool => (bI z, v)) (Option.some.inj hF)) rfl dX1_isHeard_45
  · replace hF := (if_neg (bI_f c4)).symm.trans hF
    refine lv_aload_n hx hb dX1_isHeard_12 rfl (lv_at hl 0 rfl) ?_
    refine fg_1_26 M hP hq0 dX1_isHeard_13 ?_
    refine lv_iload_n hx hb dX1_isHeard_16 rfl (lv_at hl 1 rfl) ?_
    obtain ⟨g5, hF⟩ := gu_some hF
    refine r_aald10 (k := (a1).toNatClampNeg) M hP (ge_1_3k (i := q0) hq0) (ge_10l (i := (q0 + 3)) (ge_1_3k (i := q0) hq0)) (in_c g5) rfl dX1_isHeard_17 ?_
    refine lv_aload_n hx hb dX1_isHeard_18 rfl (lv_at hl 0 rfl) ?_
    refine fg_1_33 M hP hq0 dX1_isHeard_19 ?_
    refine lv_iload_n hx hb dX1_isHeard_22 rfl (lv_at hl 2 rfl) ?_
    obtain ⟨g6, hF⟩ := gu_some hF
    refine r_aald9 (k := (a2).toNatClampNeg) M hP (ge_1_4k (i := q0) hq0) (ge_9l (i := (q0 + 4)) (ge_1_4k (i := q0) hq0)) (in_c g6) rfl dX1_isHeard_23 ?_
    refine lv_aload_n hx hb dX1_isHeard_24 rfl (lv_at hl 0 rfl) ?_
    refine fg_1_26 M hP hq0 dX1_isHeard_25 ?_
    refine lv_iload_n hx hb dX1_isHeard_28 rfl (lv_at hl 1 rfl) ?_
    obtain ⟨g7, hF⟩ := gu_some hF
    refine r_aald10 (k := (a1).toNatClampNeg) M hP (ge_1_3k (i := q0) hq0) (ge_10l (i := (q0 + 3)) (ge_1_3k (i := q0) hq0)) (in_c g7) rfl dX1_isHeard_29 ?_
    refine lv_iload_n hx hb dX1_isHeard_30 rfl (lv_at hl 3 rfl) ?_
    obtain ⟨r9, h8, hF⟩ := bi_some hF
    refine k_i hS (kV_run M hS hP ok_X1_74 (c_X2_reaches l G ((q0 + 3) + 2 + ((a1).toNatClampNeg)) (ge_10k (i := (q0 + 3)) (k := (a1).toNatClampNeg) (ge_1_3k (i := q0) hq0) (vin_lt (in_c g7))) a3 v r9 h8) (rc_2 M hP (ge_10k (i := (q0 + 3)) (k := (a1).toNatClampNeg) (ge_1_3k (i := q0) hq0) (vin_lt (in_c g7)))) rfl hl.1 rfl (Nat.le_of_ble_eq_true rfl) ⟨rfl, rfl⟩ ⟨Nat.le_of_ble_eq_true rfl, Nat.le_of_ble_eq_true rfl⟩ dX1_isHeard_31) (fun H locs hP hS => ?_)
    obtain ⟨r11, h10, hF⟩ := bi_some hF
    refine k_i hS (kS_run M hS hP ok_X1_90 (c_X1_isWithin l G ((q0 + 3) + 2 + ((a1).toNatClampNeg)) (ge_10k (i := (q0 + 3)) (k := (a1).toNatClampNeg) (ge_1_3k (i := q0) hq0) (vin_lt (in_c g5))) ((q0 + 4) + 17 + ((a2).toNatClampNeg)) (ge_9k (i := (q0 + 4)) (k := (a2).toNatClampNeg) (ge_1_4k (i := q0) hq0) (vin_lt (in_c g6))) r9 v r11 h10) rfl hl.1 rfl (Nat.le_of_ble_eq_true rfl) ⟨rfl, rfl⟩ ⟨Nat.le_of_ble_eq_true rfl, Nat.le_of_ble_eq_true rfl⟩ dX1_isHeard_34) (fun H locs hP hS => ?_)
    refine lv_if_eq (tgt := 44) hx hb dX1_isHeard_37 (by decide) (fun c12 => ?_) (fun c12 => ?_)
    · replace hF := (if_neg (bI_f c12)).symm.trans hF
      refine lv_iconst (v := 0) hx hb dX1_isHeard_44 (by decide) ?_
      exact ret_z M hS hP (congrArg (fun z : Bool => (bI z, v)) (Option.some.inj hF)) rfl dX1_isHeard_45
    · replace hF := (if_pos (bI_t c12)).symm.trans hF
      refine lv_iconst (v := 1) hx hb dX1_isHeard_40 (by decide) ?_
      refine lv_goto (tgt := 45) hx hb dX1_isHeard_41 (by decide) ?_
      exact ret_z M hS hP (congrArg (fun z : Bool => (bI z, v)) (Option.some.inj hF)) rfl dX1_isHeard_45
def F_X1_draw (q0 : Nat) (v : VV) : Option (Int32 × VV) :=
  some ((((pu v q0 7 (((v q0 7) * 1103515245) + 12345)) q0 7).toUInt32 >>> ((8 : Int32).toUInt32 &&& Int32.toUInt32 31)).toInt32, pu v q0 7 (((v q0 7) * 1103515245) + 12345))
set_option maxHeartbeats 4000000 in
set_option maxRecDepth 100000 in
theorem c_X1_draw (l : Launch) (G : GG) (q0 : Nat) (hq0 : kd q0 = 1) (v : VV) (r : Int32) (v' : VV) (hF : F_X1_draw q0 v = some (r, v')) : Met l yX1_draw (cdW yX1_draw cX1_draw 1 (some .int)) ({ frames := 0, cells := 0, slots := 0, locals := 0 } : Room) (PC G v [.ref (ad G q0)]) (QI G r v') 0 0 (gA G) := by
  refine met_in RX1 (by decide) rfl (Nat.le_of_ble_eq_true rfl) ?_
  intro p e s m below meth c M hP ls hl
  have hx := M.1.1
  have hb := M.1.2.1
  have hS : va_S (gA G) s.heap s.heap [] := va_S.rf
  have hl : lv_has ls 1 [(0, .ref (ad G q0))] := hl
  unfold F_X1_draw at hF
  refine lv_aload_n hx hb dX1_draw_0 rfl (lv_at hl 0 rfl) ?_
  refine lv_aload_n hx hb dX1_draw_1 rfl (lv_at hl 0 rfl) ?_
  refine fg_1_48 M hP hq0 dX1_draw_2 ?_
  refine lv_ldc (own := RX1) (v := 1103515245) hx hb M.1.2.2.2.1 (M.1.2.2.2.2 (Cond.constant RX1 99 1103515245) w_472) dX1_draw_5 ?_
  refine lv_imul hx hb dX1_draw_7 ?_
  refine lv_sipush (v := 12345) hx hb dX1_draw_8 (by decide) ?_
  refine lv_iadd hx hb dX1_draw_11 ?_
  refine fp_1_48 M hS hP hq0 dX1_draw_12 (fun H locs hP hS => ?_)
  have hP : Wd G (pu v q0 7 (((v q0 7) * 1103515245) + 12345)) H := hP
  refine lv_aload_n hx hb dX1_draw_15 rfl (lv_at hl 0 rfl) ?_
  refine fg_1_48 M hP hq0 dX1_draw_16 ?_
  refine lv_bipush (v := 8) hx hb dX1_draw_19 (by decide) ?_
  refine lv_iushr hx hb dX1_draw_21 rfl ?_
  exact ret_i M hS hP (Option.some.inj hF) dX1_draw_22
def L_X1_sound_25 : Nat → Nat → Nat → Int32 → Int32 → Int32 → Int32 → Int32 → VV → Option VV
  | 0, _, _, _, _, _, _, _, _ => none
  | n + 1, x0, x1, x2, x3, x4, x5, x6, v =>
  if (v x0 5) ≤ x6 then (Option.bind (F_X2_goOn x1 (v x0 6) v) (fun v10 => some v10)) else (gu (gI x6 6) (Option.bind (F_X1_isWithin x1 ((x0 + 4) + 17 + ((x6).toNatClampNeg)) x4 v) (fun r13 => (if r13 = true then (gu (gI x6 6) (Option.bind (F_X0_hear ((x0 + 4) + 17 + ((x6).toNatClampNeg)) x3 x5 v) (fun v18 => L_X1_sound_25 n x0 x1 x2 x3 x4 x5 (x6 + 1) v18))) else (L_X1_sound_25 n x0 x1 x2 x3 x4 x5 (x6 + 1) v)))))
def F_X1_sound (q0 : Nat) (a1 : Nat) (a2 : Int32) (v : VV) : Option VV :=
  Option.bind (F_X2_gives a1 (v q0 6) v) (fun r2 => Option.bind (F_X2_reaches a1 a2 v) (fun r4 => Option.bind (F_X2_tempo a1 v) (fun r6 => L_X1_sound_25 fu q0 a1 a2 r2 r4 r6 0 v)))
set_option maxHeartbeats 4000000 in
set_option maxRecDepth 100000 in
theorem l_X1_sound_25 {p : Program} {l : Launch} {e : Env} {s : State} {m : MethodId} {args : Array Value} {below : List Frame} {meth : Method} {c : Code} {G : GG} (M : Mx G RX1 cX1_sound 7 none p s m args meth c) (v' : VV) : ∀ (n : Nat) (x0 : Nat) (x1 : Nat) (x2 : Int32) (x3 : Int32) (x4 : Int32) (x5 : Int32) (x6 : Int32) (hx0 : kd x0 = 1) (hx1 : kd x1 = 2) (v : VV) (H : Heap) (locs : List Loc) (ls : Array Slot), L_X1_sound_25 n x0 x1 x2 x3 x4 x5 x6 v = some v' → Wd G v H → va_S (gA G) s.heap H locs → lv_has ls 7 [(0, .ref (ad G x0)), (1, .ref (ad G x1)), (2, .int x2), (3, .int x3), (4, .int x4), (5, .int x5), (6, .int x6)] → W p l e ({ frames := 2, cells := 0, slots := 0, locals := 44 } : Room) s m args below meth c H locs 0 0 (MQ below (QV G v') args s 0 0 (gA G)) (F0 m 25 ls []) := by
  have hx := M.1.1
  have hb := M.1.2.1
  intro n
  induction n with
  | zero =>
    intro x0 x1 x2 x3 x4 x5 x6 hx0 hx1 v H locs ls hF hP hS hl
    rw [L_X1_sound_25] at hF
    cases hF
  | succ n ih =>
    intro x0 x1 x2 x3 x4 x5 x6 hx0 hx1 v H locs ls hF hP hS hl
    rw [L_X1_sound_25] at hF
    refine lv_iload hx hb dX1_sound_25 (lv_at hl 6 rfl) ?_
    refine lv_aload_n hx hb dX1_sound_27 rfl (lv_at hl 0 rfl) ?_
    refine fg_1_42 M hP hx0 dX1_sound_28 ?_
    refine lv_icmp_ge (tgt := 69) hx hb dX1_sound_31 (by decide) (fun c7 => ?_) (fun c7 => ?_)
    · replace hF := (if_pos c7).symm.trans hF
      refine lv_aload_n hx hb dX1_sound_69 rfl (lv_at hl 1 rfl) ?_
      refine lv_aload_n hx hb dX1_sound_70 rfl (lv_at hl 0 rfl) ?_
      refine fg_1_45 M hP hx0 dX1_sound_71 ?_
      obtain ⟨v10, h8, hF⟩ := bi_some hF
      refine k_v hS (kV_run M hS hP ok_X1_118 (c_X2_goOn l G x1 hx1 (v x0 6) v v10 h8) (rc_2 M hP hx1) rfl hl.1 rfl (Nat.le_of_ble_eq_true rfl) ⟨rfl, rfl⟩ ⟨Nat.le_of_ble_eq_true rfl, Nat.le_of_ble_eq_true rfl⟩ dX1_sound_74) (fun H locs hP hS => ?_)
      exact ret_v M hS hP (Option.some.inj hF) dX1_sound_77
    · replace hF := (if_neg c7).symm.trans hF
      refine lv_aload_n hx hb dX1_sound_34 rfl (lv_at hl 1 rfl) ?_
      refine lv_aload_n hx hb dX1_sound_35 rfl (lv_at hl 0 rfl) ?_
      refine fg_1_33 M hP hx0 dX1_sound_36 ?_
      refine lv_iload hx hb dX1_sound_39 (lv_at hl 6 rfl) ?_
      obtain ⟨g11, hF⟩ := gu_some hF
      refine r_aald9 (k := (x6).toNatClampNeg) M hP (ge_1_4k (i := x0) hx0) (ge_9l (i := (x0 + 4)) (ge_1_4k (i := x0) hx0)) (in_c g11) rfl dX1_sound_41 ?_
      refine lv_iload hx hb dX1_sound_42 (lv_at hl 4 rfl) ?_
      obtain ⟨r13, h12, hF⟩ := bi_some hF
      refine k_i hS (kS_run M hS hP ok_X1_90 (c_X1_isWithin l G x1 hx1 ((x0 + 4) + 17 + ((x6).toNatClampNeg)) (ge_9k (i := (x0 + 4)) (k := (x6).toNatClampNeg) (ge_1_4k (i := x0) hx0) (vin_lt (in_c g11))) x4 v r13 h12) rfl hl.1 rfl (Nat.le_of_ble_eq_true rfl) ⟨rfl, rfl⟩ ⟨Nat.le_of_ble_eq_true rfl, Nat.le_of_ble_eq_true rfl⟩ dX1_sound_44) (fun H locs hP hS => ?_)
      refine lv_if_eq (tgt := 63) hx hb dX1_sound_47 (by decide) (fun c14 => ?_) (fun c14 => ?_)
      · replace hF := (if_neg (bI_f c14)).symm.trans hF
        refine lv_iinc (v := (x6 + 1)) (lv' := [(6, .int (x6 + 1)), (0, .ref (ad G x0)), (1, .ref (ad G x1)), (2, .int x2), (3, .int x3), (4, .int x4), (5, .int x5)]) hx hb dX1_sound_63 hl (k := 6) rfl (iinc_eq _ (by decide)) (by decide) rfl (fun ls hl => ?_)
        refine lv_goto (tgt := 25) hx hb dX1_sound_66 (by decide) ?_
        exact ih x0 x1 x2 x3 x4 x5 (x6 + 1) hx0 hx1 _ _ _ ls hF hP hS (lv_sub hl [1, 2, 3, 4, 5, 6, 0] rfl)
      · replace hF := (if_pos (bI_t c14)).symm.trans hF
        refine lv_aload_n hx hb dX1_sound_50 rfl (lv_at hl 0 rfl) ?_
        refine fg_1_33 M hP hx0 dX1_sound_51 ?_
        refine lv_iload hx hb dX1_sound_54 (lv_at hl 6 rfl) ?_
        obtain ⟨g15, hF⟩ := gu_some hF
        refine r_aald9 (k := (x6).toNatClampNeg) M hP (ge_1_4k (i := x0) hx0) (ge_9l (i := (x0 + 4)) (ge_1_4k (i := x0) hx0)) (in_c g15) rfl dX1_sound_56 ?_
        refine lv_iload_n hx hb dX1_sound_57 rfl (lv_at hl 3 rfl) ?_
        refine lv_iload hx hb dX1_sound_58 (lv_at hl 5 rfl) ?_
        obtain ⟨v18, h16, hF⟩ := bi_some hF
        refine k_v hS (kV_run M hS hP ok_X1_115 (c_X0_hear l G ((x0 + 4) + 17 + ((x6).toNatClampNeg)) (ge_9k (i := (x0 + 4)) (k := (x6).toNatClampNeg) (ge_1_4k (i := x0) hx0) (vin_lt (in_c g15))) x3 x5 v v18 h16) (rc_0 M hP (ge_9k (i := (x0 + 4)) (k := (x6).toNatClampNeg) (ge_1_4k (i := x0) hx0) (vin_lt (in_c g15)))) rfl hl.1 rfl (Nat.le_of_ble_eq_true rfl) ⟨rfl, rfl⟩ ⟨Nat.le_of_ble_eq_true rfl, Nat.le_of_ble_eq_true rfl⟩ dX1_sound_60) (fun H locs hP hS => ?_)
        refine lv_iinc (v := (x6 + 1)) (lv' := [(6, .int (x6 + 1)), (0, .ref (ad G x0)), (1, .ref (ad G x1)), (2, .int x2), (3, .int x3), (4, .int x4), (5, .int x5)]) hx hb dX1_sound_63 hl (k := 6) rfl (iinc_eq _ (by decide)) (by decide) rfl (fun ls hl => ?_)
        refine lv_goto (tgt := 25) hx hb dX1_sound_66 (by decide) ?_
        exact ih x0 x1 x2 x3 x4 x5 (x6 + 1) hx0 hx1 _ _ _ ls hF hP hS (lv_sub hl [1, 2, 3, 4, 5, 6, 0] rfl)
set_option maxHeartbeats 4000000 in
set_option maxRecDepth 100000 in
theorem c_X1_sound (l : Launch) (G : GG) (q0 : Nat) (hq0 : kd q0 = 1) (a1 : Nat) (ha1 : kd a1 = 2) (a2 : Int32) (v : VV) (v' : VV) (hF : F_X1_sound q0 a1 a2 v = some v') : Met l yX1_sound (cdW yX1_sound cX1_sound 7 none) ({ frames := 2, cells := 0, slots := 0, locals := 44 } : Room) (PC G v [.ref (ad G q0), .ref (ad G a1), .int a2]) (QV G v') 0 0 (gA G) := by
  refine met_in RX1 (by decide) rfl (Nat.le_of_ble_eq_true rfl) ?_
  intro p e s m below meth c M hP ls hl
  have hx := M.1.1
  have hb := M.1.2.1
  have hS : va_S (gA G) s.heap s.heap [] := va_S.rf
  have hl : lv_has ls 7 [(0, .ref (ad G q0)), (1, .ref (ad G a1)), (2, .int a2)] := hl
  unfold F_X1_sound at hF
  refine lv_aload_n hx hb dX1_sound_0 rfl (lv_at hl 1 rfl) ?_
  refine lv_aload_n hx hb dX1_sound_1 rfl (lv_at hl 0 rfl) ?_
  refine fg_1_45 M hP hq0 dX1_sound_2 ?_
  obtain ⟨r2, h1, hF⟩ := bi_some hF
  refine k_i hS (kV_run M hS hP ok_X1_66 (c_X2_gives l G a1 ha1 (v q0 6) v r2 h1) (rc_2 M hP ha1) rfl hl.1 rfl (Nat.le_of_ble_eq_true rfl) ⟨rfl, rfl⟩ ⟨Nat.le_of_ble_eq_true rfl, Nat.le_of_ble_eq_true rfl⟩ dX1_sound_5) (fun H locs hP hS => ?_)
  refine lv_istore_n (lv' := [(3, .int r2), (0, .ref (ad G q0)), (1, .ref (ad G a1)), (2, .int a2)]) hx hb dX1_sound_8 rfl hl (by decide) rfl (fun ls hl => ?_)
  refine lv_aload_n hx hb dX1_sound_9 rfl (lv_at hl 2 rfl) ?_
  refine lv_iload_n hx hb dX1_sound_10 rfl (lv_at hl 3 rfl) ?_
  obtain ⟨r4, h3, hF⟩ := bi_some hF
  refine k_i hS (kV_run M hS hP ok_X1_74 (c_X2_reaches l G a1 ha1 a2 v r4 h3) (rc_2 M hP ha1) rfl hl.1 rfl (Nat.le_of_ble_eq_true rfl) ⟨rfl, rfl⟩ ⟨Nat.le_of_ble_eq_true rfl, Nat.le_of_ble_eq_true rfl⟩ dX1_sound_11) (fun H locs hP hS => ?_)
  refine lv_istore (lv' := [(4, .int r4), (3, .int r2), (0, .ref (ad G q0)), (1, .ref (ad G a1)), (2, .int a2)]) hx hb dX1_sound_14 hl (by decide) rfl (fun ls hl => ?_)
  refine lv_aload_n hx hb dX1_sound_16 rfl (lv_at hl 3 rfl) ?_
  obtain ⟨r6, h5, hF⟩ := bi_some hF
  refine k_i hS (kV_run M hS hP ok_X1_77 (c_X2_tempo l G a1 ha1 v r6 h5) (rc_2 M hP ha1) rfl hl.1 rfl (Nat.le_of_ble_eq_true rfl) ⟨rfl, rfl⟩ ⟨Nat.le_of_ble_eq_true rfl, Nat.le_of_ble_eq_true rfl⟩ dX1_sound_17) (fun H locs hP hS => ?_)
  refine lv_istore (lv' := [(5, .int r6), (4, .int r4), (3, .int r2), (0, .ref (ad G q0)), (1, .ref (ad G a1)), (2, .int a2)]) hx hb dX1_sound_20 hl (by decide) rfl (fun ls hl => ?_)
  refine lv_iconst (v := 0) hx hb dX1_sound_22 (by decide) ?_
  refine lv_istore (lv' := [(6, .int 0), (5, .int r6), (4, .int r4), (3, .int r2), (0, .ref (ad G q0)), (1, .ref (ad G a1)), (2, .int a2)]) hx hb dX1_sound_23 hl (by decide) rfl (fun ls hl => ?_)
  exact l_X1_sound_25 M _ fu q0 a1 a2 r2 r4 r6 0 hq0 ha1 _ _ _ ls hF hP hS (lv_sub hl [4, 5, 6, 3, 2, 1, 0] rfl)
def L_X1_passDay_7 : Nat → Nat → Int32 → Int32 → VV → Option VV
  | 0, _, _, _, _ => none
  | n + 1, x0, x1, x2, v =>
  if (v x0 4) ≤ x2 then (some (pu v x0 6 (if ((v x0 6) + 1) < 99999 then ((v x0 6) + 1) else 99999 : Int32))) else (if x1 = 0 then (gu (gI x2 8) (Option.bind (F_X2_rest ((x0 + 3) + 2 + ((x2).toNatClampNeg)) v) (fun v16 => L_X1_passDay_7 n x0 x1 (x2 + 1) v16))) else (gu (gI x2 8) (Option.bind (F_X2_isSilent ((x0 + 3) + 2 + ((x2).toNatClampNeg)) v) (fun r7 => (if r7 = true then (L_X1_passDay_7 n x0 x1 (x2 + 1) v) else (gu (gI x2 8) (Option.bind (F_X1_sound x0 ((x0 + 3) + 2 + ((x2).toNatClampNeg)) x1 v) (fun v12 => L_X1_passDay_7 n x0 x1 (x2 + 1) v12))))))))
def F_X1_passDay (q0 : Nat) (v : VV) : Option VV :=
  Option.bind (F_X1_thickness q0 v) (fun r2 => L_X1_passDay_7 fu q0 r2 0 v)
set_option maxHeartbeats 4000000 in
set_option maxRecDepth 100000 in
theorem l_X1_passDay_7 {p : Program} {l : Launch} {e : Env} {s : State} {m : MethodId} {args : Array Value} {below : List Frame} {meth : Method} {c : Code} {G : GG} (M : Mx G RX1 cX1_passDay 3 none p s m args meth c) (v' : VV) : ∀ (n : Nat) (x0 : Nat) (x1 : Int32) (x2 : Int32) (hx0 : kd x0 = 1) (v : VV) (H : Heap) (locs : List Loc) (ls : Array Slot), L_X1_passDay_7 n x0 x1 x2 v = some v' → Wd G v H → va_S (gA G) s.heap H locs → lv_has ls 3 [(0, .ref (ad G x0)), (1, .int x1), (2, .int x2)] → W p l e ({ frames := 3, cells := 0, slots := 0, locals := 70 } : Room) s m args below meth c H locs 0 0 (MQ below (QV G v') args s 0 0 (gA G)) (F0 m 7 ls []) := by
  have hx := M.1.1
  have hb := M.1.2.1
  intro n
  induction n with
  | zero =>
    intro x0 x1 x2 hx0 v H locs ls hF hP hS hl
    rw [L_X1_passDay_7] at hF
    cases hF
  | succ n ih =>
    intro x0 x1 x2 hx0 v H locs ls hF hP hS hl
    rw [L_X1_passDay_7] at hF
    refine lv_iload_n hx hb dX1_passDay_7 rfl (lv_at hl 2 rfl) ?_
    refine lv_aload_n hx hb dX1_passDay_8 rfl (lv_at hl 0 rfl) ?_
    refine fg_1_38 M hP hx0 dX1_passDay_9 ?_
    refine lv_icmp_ge (tgt := 60) hx hb dX1_passDay_12 (by decide) (fun c3 => ?_) (fun c3 => ?_)
    · replace hF := (if_pos c3).symm.trans hF
      refine lv_aload_n hx hb dX1_passDay_60 rfl (lv_at hl 0 rfl) ?_
      refine lv_ldc (own := RX1) (v := 99999) hx hb M.1.2.2.2.1 (M.1.2.2.2.2 (Cond.constant RX1 110 99999) w_335) dX1_passDay_61 ?_
      refine lv_aload_n hx hb dX1_passDay_63 rfl (lv_at hl 0 rfl) ?_
      refine fg_1_45 M hP hx0 dX1_passDay_64 ?_
      refine lv_iconst (v := 1) hx hb dX1_passDay_67 (by decide) ?_
      refine lv_iadd hx hb dX1_passDay_68 ?_
      refine mmin_1_111 M hl.1 (Nat.le_of_ble_eq_true rfl) (Nat.le_of_ble_eq_true rfl) dX1_passDay_69 ?_
      refine fp_1_45 M hS hP hx0 dX1_passDay_72 (fun H locs hP hS => ?_)
      have hP : Wd G (pu v x0 6 (if ((v x0 6) + 1) < 99999 then ((v x0 6) + 1) else 99999 : Int32)) H := hP
      exact ret_v M hS hP (Option.some.inj hF) dX1_passDay_75
    · replace hF := (if_neg c3).symm.trans hF
      refine lv_iload_n hx hb dX1_passDay_15 rfl (lv_at hl 1 rfl) ?_
      refine lv_if_ne (tgt := 31) hx hb dX1_passDay_16 (by decide) (fun c4 => ?_) (fun c4 => ?_)
      · replace hF := (if_neg c4).symm.trans hF
        refine lv_aload_n hx hb dX1_passDay_31 rfl (lv_at hl 0 rfl) ?_
        refine fg_1_26 M hP hx0 dX1_passDay_32 ?_
        refine lv_iload_n hx hb dX1_passDay_35 rfl (lv_at hl 2 rfl) ?_
        obtain ⟨g5, hF⟩ := gu_some hF
        refine r_aald10 (k := (x2).toNatClampNeg) M hP (ge_1_3k (i := x0) hx0) (ge_10l (i := (x0 + 3)) (ge_1_3k (i := x0) hx0)) (in_c g5) rfl dX1_passDay_36 ?_
        obtain ⟨r7, h6, hF⟩ := bi_some hF
        refine k_i hS (kV_run M hS hP ok_X1_86 (c_X2_isSilent l G ((x0 + 3) + 2 + ((x2).toNatClampNeg)) (ge_10k (i := (x0 + 3)) (k := (x2).toNatClampNeg) (ge_1_3k (i := x0) hx0) (vin_lt (in_c g5))) v r7 h6) (rc_2 M hP (ge_10k (i := (x0 + 3)) (k := (x2).toNatClampNeg) (ge_1_3k (i := x0) hx0) (vin_lt (in_c g5)))) rfl hl.1 rfl (Nat.le_of_ble_eq_true rfl) ⟨rfl, rfl⟩ ⟨Nat.le_of_ble_eq_true rfl, Nat.le_of_ble_eq_true rfl⟩ dX1_passDay_37) (fun H locs hP hS => ?_)
        refine lv_if_ne (tgt := 54) hx hb dX1_passDay_40 (by decide) (fun c8 => ?_) (fun c8 => ?_)
        · replace hF := (if_pos (bI_t c8)).symm.trans hF
          refine lv_iinc (v := (x2 + 1)) (lv' := [(2, .int (x2 + 1)), (0, .ref (ad G x0)), (1, .int x1)]) hx hb dX1_passDay_54 hl (k := 2) rfl (iinc_eq _ (by decide)) (by decide) rfl (fun ls hl => ?_)
          refine lv_goto (tgt := 7) hx hb dX1_passDay_57 (by decide) ?_
          exact ih x0 x1 (x2 + 1) hx0 _ _ _ ls hF hP hS (lv_sub hl [1, 2, 0] rfl)
        · replace hF := (if_neg (bI_f c8)).symm.trans hF
          refine lv_aload_n hx hb dX1_passDay_43 rfl (lv_at hl 0 rfl) ?_
          refine lv_aload_n hx hb dX1_passDay_44 rfl (lv_at hl 0 rfl) ?_
          refine fg_1_26 M hP hx0 dX1_passDay_45 ?_
          refine lv_iload_n hx hb dX1_passDay_48 rfl (lv_at hl 2 rfl) ?_
          obtain ⟨g9, hF⟩ := gu_some hF
          refine r_aald10 (k := (x2).toNatClampNeg) M hP (ge_1_3k (i := x0) hx0) (ge_10l (i := (x0 + 3)) (ge_1_3k (i := x0) hx0)) (in_c g9) rfl dX1_passDay_49 ?_
          refine lv_iload_n hx hb dX1_passDay_50 rfl (lv_at hl 1 rfl) ?_
          obtain ⟨v12, h10, hF⟩ := bi_some hF
          refine k_v hS (kV_run M hS hP ok_X1_106 (c_X1_sound l G x0 hx0 ((x0 + 3) + 2 + ((x2).toNatClampNeg)) (ge_10k (i := (x0 + 3)) (k := (x2).toNatClampNeg) (ge_1_3k (i := x0) hx0) (vin_lt (in_c g9))) x1 v v12 h10) (rc_1 M hP hx0) rfl hl.1 rfl (Nat.le_of_ble_eq_true rfl) ⟨rfl, rfl⟩ ⟨Nat.le_of_ble_eq_true rfl, Nat.le_of_ble_eq_true rfl⟩ dX1_passDay_51) (fun H locs hP hS => ?_)
          refine lv_iinc (v := (x2 + 1)) (lv' := [(2, .int (x2 + 1)), (0, .ref (ad G x0)), (1, .int x1)]) hx hb dX1_passDay_54 hl (k := 2) rfl (iinc_eq _ (by decide)) (by decide) rfl (fun ls hl => ?_)
          refine lv_goto (tgt := 7) hx hb dX1_passDay_57 (by decide) ?_
          exact ih x0 x1 (x2 + 1) hx0 _ _ _ ls hF hP hS (lv_sub hl [1, 2, 0] rfl)
      · replace hF := (if_pos c4).symm.trans hF
        refine lv_aload_n hx hb dX1_passDay_19 rfl (lv_at hl 0 rfl) ?_
        refine fg_1_26 M hP hx0 dX1_passDay_20 ?_
        refine lv_iload_n hx hb dX1_passDay_23 rfl (lv_at hl 2 rfl) ?_
        obtain ⟨g13, hF⟩ := gu_some hF
        refine r_aald10 (k := (x2).toNatClampNeg) M hP (ge_1_3k (i := x0) hx0) (ge_10l (i := (x0 + 3)) (ge_1_3k (i := x0) hx0)) (in_c g13) rfl dX1_passDay_24 ?_
        obtain ⟨v16, h14, hF⟩ := bi_some hF
        refine k_v hS (kV_run M hS hP ok_X1_103 (c_X2_rest l G ((x0 + 3) + 2 + ((x2).toNatClampNeg)) (ge_10k (i := (x0 + 3)) (k := (x2).toNatClampNeg) (ge_1_3k (i := x0) hx0) (vin_lt (in_c g13))) v v16 h14) (rc_2 M hP (ge_10k (i := (x0 + 3)) (k := (x2).toNatClampNeg) (ge_1_3k (i := x0) hx0) (vin_lt (in_c g13)))) rfl hl.1 rfl (Nat.le_of_ble_eq_true rfl) ⟨rfl, rfl⟩ ⟨Nat.le_of_ble_eq_true rfl, Nat.le_of_ble_eq_true rfl⟩ dX1_passDay_25) (fun H locs hP hS => ?_)
        refine lv_goto (tgt := 54) hx hb dX1_passDay_28 (by decide) ?_
        refine lv_iinc (v := (x2 + 1)) (lv' := [(2, .int (x2 + 1)), (0, .ref (ad G x0)), (1, .int x1)]) hx hb dX1_passDay_54 hl (k := 2) rfl (iinc_eq _ (by decide)) (by decide) rfl (fun ls hl => ?_)
        refine lv_goto (tgt := 7) hx hb dX1_passDay_57 (by decide) ?_
        exact ih x0 x1 (x2 + 1) hx0 _ _ _ ls hF hP hS (lv_sub hl [1, 2, 0] rfl)
set_option maxHeartbeats 4000000 in
set_option maxRecDepth 100000 in
theorem c_X1_passDay (l : Launch) (G : GG) (q0 : Nat) (hq0 : kd q0 = 1) (v : VV) (v' : VV) (hF : F_X1_passDay q0 v = some v') : Met l yX1_passDay (cdW yX1_passDay cX1_passDay 3 none) ({ frames := 3, cells := 0, slots := 0, locals := 70 } : Room) (PC G v [.ref (ad G q0)]) (QV G v') 0 0 (gA G) := by
  refine met_in RX1 (by decide) rfl (Nat.le_of_ble_eq_true rfl) ?_
  intro p e s m below meth c M hP ls hl
  have hx := M.1.1
  have hb := M.1.2.1
  have hS : va_S (gA G) s.heap s.heap [] := va_S.rf
  have hl : lv_has ls 3 [(0, .ref (ad G q0))] := hl
  unfold F_X1_passDay at hF
  refine lv_aload_n hx hb dX1_passDay_0 rfl (lv_at hl 0 rfl) ?_
  obtain ⟨r2, h1, hF⟩ := bi_some hF
  refine k_i hS (kV_run M hS hP ok_X1_70 (c_X1_thickness l G q0 hq0 v r2 h1) (rc_1 M hP hq0) rfl hl.1 rfl (Nat.le_of_ble_eq_true rfl) ⟨rfl, rfl⟩ ⟨Nat.le_of_ble_eq_true rfl, Nat.le_of_ble_eq_true rfl⟩ dX1_passDay_1) (fun H locs hP hS => ?_)
  refine lv_istore_n (lv' := [(1, .int r2), (0, .ref (ad G q0))]) hx hb dX1_passDay_4 rfl hl (by decide) rfl (fun ls hl => ?_)
  refine lv_iconst (v := 0) hx hb dX1_passDay_5 (by decide) ?_
  refine lv_istore_n (lv' := [(2, .int 0), (1, .int r2), (0, .ref (ad G q0))]) hx hb dX1_passDay_6 rfl hl (by decide) rfl (fun ls hl => ?_)
  exact l_X1_passDay_7 M _ fu q0 r2 0 hq0 _ _ _ ls hF hP hS (lv_sub hl [2, 1, 0] rfl)
def L_X1_passDays_2 : Nat → Nat → Int32 → Int32 → VV → Option VV
  | 0, _, _, _, _ => none
  | n + 1, x0, x1, x2, v =>
  if x1 ≤ x2 then (some v) else (Option.bind (F_X1_passDay x0 v) (fun v4 => L_X1_passDays_2 n x0 x1 (x2 + 1) v4))
def F_X1_passDays (q0 : Nat) (a1 : Int32) (v : VV) : Option VV :=
  L_X1_passDays_2 fu q0 a1 0 v
set_option maxHeartbeats 4000000 in
set_option maxRecDepth 100000 in
theorem l_X1_passDays_2 {p : Program} {l : Launch} {e : Env} {s : State} {m : MethodId} {args : Array Value} {below : List Frame} {meth : Method} {c : Code} {G : GG} (M : Mx G RX1 cX1_passDays 3 none p s m args meth c) (v' : VV) : ∀ (n : Nat) (x0 : Nat) (x1 : Int32) (x2 : Int32) (hx0 : kd x0 = 1) (v : VV) (H : Heap) (locs : List Loc) (ls : Array Slot), L_X1_passDays_2 n x0 x1 x2 v = some v' → Wd G v H → va_S (gA G) s.heap H locs → lv_has ls 3 [(0, .ref (ad G x0)), (1, .int x1), (2, .int x2)] → W p l e ({ frames := 4, cells := 0, slots := 0, locals := 92 } : Room) s m args below meth c H locs 0 0 (MQ below (QV G v') args s 0 0 (gA G)) (F0 m 2 ls []) := by
  have hx := M.1.1
  have hb := M.1.2.1
  intro n
  induction n with
  | zero =>
    intro x0 x1 x2 hx0 v H locs ls hF hP hS hl
    rw [L_X1_passDays_2] at hF
    cases hF
  | succ n ih =>
    intro x0 x1 x2 hx0 v H locs ls hF hP hS hl
    rw [L_X1_passDays_2] at hF
    refine lv_iload_n hx hb dX1_passDays_2 rfl (lv_at hl 2 rfl) ?_
    refine lv_iload_n hx hb dX1_passDays_3 rfl (lv_at hl 1 rfl) ?_
    refine lv_icmp_ge (tgt := 17) hx hb dX1_passDays_4 (by decide) (fun c1 => ?_) (fun c1 => ?_)
    · replace hF := (if_pos c1).symm.trans hF
      exact ret_v M hS hP (Option.some.inj hF) dX1_passDays_17
    · replace hF := (if_neg c1).symm.trans hF
      refine lv_aload_n hx hb dX1_passDays_7 rfl (lv_at hl 0 rfl) ?_
      obtain ⟨v4, h2, hF⟩ := bi_some hF
      refine k_v hS (kV_run M hS hP ok_X1_100 (c_X1_passDay l G x0 hx0 v v4 h2) (rc_1 M hP hx0) rfl hl.1 rfl (Nat.le_of_ble_eq_true rfl) ⟨rfl, rfl⟩ ⟨Nat.le_of_ble_eq_true rfl, Nat.le_of_ble_eq_true rfl⟩ dX1_passDays_8) (fun H locs hP hS => ?_)
      refine lv_iinc (v := (x2 + 1)) (lv' := [(2, .int (x2 + 1)), (0, .ref (ad G x0)), (1, .int x1)]) hx hb dX1_passDays_11 hl (k := 2) rfl (iinc_eq _ (by decide)) (by decide) rfl (fun ls hl => ?_)
      refine lv_goto (tgt := 2) hx hb dX1_passDays_14 (by decide) ?_
      exact ih x0 x1 (x2 + 1) hx0 _ _ _ ls hF hP hS (lv_sub hl [1, 2, 0] rfl)
set_option maxHeartbeats 4000000 in
set_option maxRecDepth 100000 in
theorem c_X1_passDays (l : Launch) (G : GG) (q0 : Nat) (hq0 : kd q0 = 1) (a1 : Int32) (v : VV) (v' : VV) (hF : F_X1_passDays q0 a1 v = some v') : Met l yX1_passDays (cdW yX1_passDays cX1_passDays 3 none) ({ frames := 4, cells := 0, slots := 0, locals := 92 } : Room) (PC G v [.ref (ad G q0), .int a1]) (QV G v') 0 0 (gA G) := by
  refine met_in RX1 (by decide) rfl (Nat.le_of_ble_eq_true rfl) ?_
  intro p e s m below meth c M hP ls hl
  have hx := M.1.1
  have hb := M.1.2.1
  have hS : va_S (gA G) s.heap s.heap [] := va_S.rf
  have hl : lv_has ls 3 [(0, .ref (ad G q0)), (1, .int a1)] := hl
  unfold F_X1_passDays at hF
  refine lv_iconst (v := 0) hx hb dX1_passDays_0 (by decide) ?_
  refine lv_istore_n (lv' := [(2, .int 0), (0, .ref (ad G q0)), (1, .int a1)]) hx hb dX1_passDays_1 rfl hl (by decide) rfl (fun ls hl => ?_)
  exact l_X1_passDays_2 M _ fu q0 a1 0 hq0 _ _ _ ls hF hP hS (lv_sub hl [1, 2, 0] rfl)
def L_X1_haveAllLearnt_2 : Nat → Nat → Int32 → Int32 → VV → Option Bool
  | 0, _, _, _, _ => none
  | n + 1, x0, x1, x2, v =>
  if (v x0 5) ≤ x2 then (some true) else (gu (gI x2 6) (Option.bind (F_X0_hasLearnt ((x0 + 4) + 17 + ((x2).toNatClampNeg)) x1 v) (fun r4 => (if r4 = true then (L_X1_haveAllLearnt_2 n x0 x1 (x2 + 1) v) else (some false)))))
def F_X1_haveAllLearnt (q0 : Nat) (a1 : Int32) (v : VV) : Option Bool :=
  L_X1_haveAllLearnt_2 fu q0 a1 0 v
set_option maxHeartbeats 4000000 in
set_option maxRecDepth 100000 in
theorem l_X1_haveAllLearnt_2 {p : Program} {l : Launch} {e : Env} {s : State} {m : MethodId} {args : Array Value} {below : List Frame} {meth : Method} {c : Code} {G : GG} (M : Mx G RX1 cX1_haveAllLearnt 3 (some .boolean) p s m args meth c) (r : Bool) (v : VV) : ∀ (n : Nat) (x0 : Nat) (x1 : Int32) (x2 : Int32) (hx0 : kd x0 = 1) (H : Heap) (locs : List Loc) (ls : Array Slot), L_X1_haveAllLearnt_2 n x0 x1 x2 v = some r → Wd G v H → va_S (gA G) s.heap H locs → lv_has ls 3 [(0, .ref (ad G x0)), (1, .int x1), (2, .int x2)] → W p l e ({ frames := 1, cells := 0, slots := 0, locals := 21 } : Room) s m args below meth c H locs 0 0 (MQ below (QI G (bI r) v) args s 0 0 (gA G)) (F0 m 2 ls []) := by
  have hx := M.1.1
  have hb := M.1.2.1
  intro n
  induction n with
  | zero =>
    intro x0 x1 x2 hx0 H locs ls hF hP hS hl
    rw [L_X1_haveAllLearnt_2] at hF
    cases hF
  | succ n ih =>
    intro x0 x1 x2 hx0 H locs ls hF hP hS hl
    rw [L_X1_haveAllLearnt_2] at hF
    refine lv_iload_n hx hb dX1_haveAllLearnt_2 rfl (lv_at hl 2 rfl) ?_
    refine lv_aload_n hx hb dX1_haveAllLearnt_3 rfl (lv_at hl 0 rfl) ?_
    refine fg_1_42 M hP hx0 dX1_haveAllLearnt_4 ?_
    refine lv_icmp_ge (tgt := 31) hx hb dX1_haveAllLearnt_7 (by decide) (fun c1 => ?_) (fun c1 => ?_)
    · replace hF := (if_pos c1).symm.trans hF
      refine lv_iconst (v := 1) hx hb dX1_haveAllLearnt_31 (by decide) ?_
      exact ret_z M hS hP (congrArg (fun z : Bool => (bI z, v)) (Option.some.inj hF)) rfl dX1_haveAllLearnt_32
    · replace hF := (if_neg c1).symm.trans hF
      refine lv_aload_n hx hb dX1_haveAllLearnt_10 rfl (lv_at hl 0 rfl) ?_
      refine fg_1_33 M hP hx0 dX1_haveAllLearnt_11 ?_
      refine lv_iload_n hx hb dX1_haveAllLearnt_14 rfl (lv_at hl 2 rfl) ?_
      obtain ⟨g2, hF⟩ := gu_some hF
      refine r_aald9 (k := (x2).toNatClampNeg) M hP (ge_1_4k (i := x0) hx0) (ge_9l (i := (x0 + 4)) (ge_1_4k (i := x0) hx0)) (in_c g2) rfl dX1_haveAllLearnt_15 ?_
      refine lv_iload_n hx hb dX1_haveAllLearnt_16 rfl (lv_at hl 1 rfl) ?_
      obtain ⟨r4, h3, hF⟩ := bi_some hF
      refine k_i hS (kV_run M hS hP ok_X1_122 (c_X0_hasLearnt l G ((x0 + 4) + 17 + ((x2).toNatClampNeg)) (ge_9k (i := (x0 + 4)) (k := (x2).toNatClampNeg) (ge_1_4k (i := x0) hx0) (vin_lt (in_c g2))) x1 v r4 h3) (rc_0 M hP (ge_9k (i := (x0 + 4)) (k := (x2).toNatClampNeg) (ge_1_4k (i := x0) hx0) (vin_lt (in_c g2)))) rfl hl.1 rfl (Nat.le_of_ble_eq_true rfl) ⟨rfl, rfl⟩ ⟨Nat.le_of_ble_eq_true rfl, Nat.le_of_ble_eq_true rfl⟩ dX1_haveAllLearnt_17) (fun H locs hP hS => ?_)
      refine lv_if_ne (tgt := 25) hx hb dX1_haveAllLearnt_20 (by decide) (fun c5 => ?_) (fun c5 => ?_)
      · replace hF := (if_pos (bI_t c5)).symm.trans hF
        refine lv_iinc (v := (x2 + 1)) (lv' := [(2, .int (x2 + 1)), (0, .ref (ad G x0)), (1, .int x1)]) hx hb dX1_haveAllLearnt_25 hl (k := 2) rfl (iinc_eq _ (by decide)) (by decide) rfl (fun ls hl => ?_)
        refine lv_goto (tgt := 2) hx hb dX1_haveAllLearnt_28 (by decide) ?_
        exact ih x0 x1 (x2 + 1) hx0 _ _ ls hF hP hS (lv_sub hl [1, 2, 0] rfl)
      · replace hF := (if_neg (bI_f c5)).symm.trans hF
        refine lv_iconst (v := 0) hx hb dX1_haveAllLearnt_23 (by decide) ?_
        exact ret_z M hS hP (congrArg (fun z : Bool => (bI z, v)) (Option.some.inj hF)) rfl dX1_haveAllLearnt_24
set_option maxHeartbeats 4000000 in
set_option maxRecDepth 100000 in
theorem c_X1_haveAllLearnt (l : Launch) (G : GG) (q0 : Nat) (hq0 : kd q0 = 1) (a1 : Int32) (v : VV) (r : Bool) (hF : F_X1_haveAllLearnt q0 a1 v = some r) : Met l yX1_haveAllLearnt (cdW yX1_haveAllLearnt cX1_haveAllLearnt 3 (some .boolean)) ({ frames := 1, cells := 0, slots := 0, locals := 21 } : Room) (PC G v [.ref (ad G q0), .int a1]) (QI G (bI r) v) 0 0 (gA G) := by
  refine met_in RX1 (by decide) rfl (Nat.le_of_ble_eq_true rfl) ?_
  intro p e s m below meth c M hP ls hl
  have hx := M.1.1
  have hb := M.1.2.1
  have hS : va_S (gA G) s.heap s.heap [] := va_S.rf
  have hl : lv_has ls 3 [(0, .ref (ad G q0)), (1, .int a1)] := hl
  unfold F_X1_haveAllLearnt at hF
  refine lv_iconst (v := 0) hx hb dX1_haveAllLearnt_0 (by decide) ?_
  refine lv_istore_n (lv' := [(2, .int 0), (0, .ref (ad G q0)), (1, .int a1)]) hx hb dX1_haveAllLearnt_1 rfl hl (by decide) rfl (fun ls hl => ?_)
  exact l_X1_haveAllLearnt_2 M _ _ fu q0 a1 0 hq0 _ _ ls hF hP hS (lv_sub hl [1, 2, 0] rfl)
def L_X1_learntTogether_4 : Nat → Nat → Int32 → Int32 → VV → Option Int32
  | 0, _, _, _, _ => none
  | n + 1, x0, x1, x2, v =>
  if (v x0 5) ≤ x2 then (some x1) else (gu (gI x2 6) (Option.bind (F_J6_bitCount_0f7a4 (v (((x0 + 4) + 17 + ((x2).toNatClampNeg)) + 6) 2) v) (fun r4 => L_X1_learntTogether_4 n x0 (x1 + r4) (x2 + 1) v)))
def F_X1_learntTogether (q0 : Nat) (v : VV) : Option Int32 :=
  L_X1_learntTogether_4 fu q0 0 0 v
set_option maxHeartbeats 4000000 in
set_option maxRecDepth 100000 in
theorem l_X1_learntTogether_4 {p : Program} {l : Launch} {e : Env} {s : State} {m : MethodId} {args : Array Value} {below : List Frame} {meth : Method} {c : Code} {G : GG} (M : Mx G RX1 cX1_learntTogether 3 (some .int) p s m args meth c) (r : Int32) (v : VV) : ∀ (n : Nat) (x0 : Nat) (x1 : Int32) (x2 : Int32) (hx0 : kd x0 = 1) (H : Heap) (locs : List Loc) (ls : Array Slot), L_X1_learntTogether_4 n x0 x1 x2 v = some r → Wd G v H → va_S (gA G) s.heap H locs → lv_has ls 3 [(0, .ref (ad G x0)), (1, .int x1), (2, .int x2)] → W p l e ({ frames := 1, cells := 0, slots := 0, locals := 20 } : Room) s m args below meth c H locs 0 0 (MQ below (QI G r v) args s 0 0 (gA G)) (F0 m 4 ls []) := by
  have hx := M.1.1
  have hb := M.1.2.1
  intro n
  induction n with
  | zero =>
    intro x0 x1 x2 hx0 H locs ls hF hP hS hl
    rw [L_X1_learntTogether_4] at hF
    cases hF
  | succ n ih =>
    intro x0 x1 x2 hx0 H locs ls hF hP hS hl
    rw [L_X1_learntTogether_4] at hF
    refine lv_iload_n hx hb dX1_learntTogether_4 rfl (lv_at hl 2 rfl) ?_
    refine lv_aload_n hx hb dX1_learntTogether_5 rfl (lv_at hl 0 rfl) ?_
    refine fg_1_42 M hP hx0 dX1_learntTogether_6 ?_
    refine lv_icmp_ge (tgt := 35) hx hb dX1_learntTogether_9 (by decide) (fun c1 => ?_) (fun c1 => ?_)
    · replace hF := (if_pos c1).symm.trans hF
      refine lv_iload_n hx hb dX1_learntTogether_35 rfl (lv_at hl 1 rfl) ?_
      exact ret_i M hS hP (congrArg (fun z => (z, v)) (Option.some.inj hF)) dX1_learntTogether_36
    · replace hF := (if_neg c1).symm.trans hF
      refine lv_iload_n hx hb dX1_learntTogether_12 rfl (lv_at hl 1 rfl) ?_
      refine lv_aload_n hx hb dX1_learntTogether_13 rfl (lv_at hl 0 rfl) ?_
      refine fg_1_33 M hP hx0 dX1_learntTogether_14 ?_
      refine lv_iload_n hx hb dX1_learntTogether_17 rfl (lv_at hl 2 rfl) ?_
      obtain ⟨g2, hF⟩ := gu_some hF
      refine r_aald9 (k := (x2).toNatClampNeg) M hP (ge_1_4k (i := x0) hx0) (ge_9l (i := (x0 + 4)) (ge_1_4k (i := x0) hx0)) (in_c g2) rfl dX1_learntTogether_18 ?_
      refine fg_1_60 M hP (ge_9k (i := (x0 + 4)) (k := (x2).toNatClampNeg) (ge_1_4k (i := x0) hx0) (vin_lt (in_c g2))) dX1_learntTogether_19 ?_
      refine lv_iconst (v := 2) hx hb dX1_learntTogether_22 (by decide) ?_
      refine r_iald (k := 2) M hP (ge_0k (i := ((x0 + 4) + 17 + ((x2).toNatClampNeg))) (ge_9k (i := (x0 + 4)) (k := (x2).toNatClampNeg) (ge_1_4k (i := x0) hx0) (vin_lt (in_c g2)))) (ge_0l (i := ((x0 + 4) + 17 + ((x2).toNatClampNeg))) (ge_9k (i := (x0 + 4)) (k := (x2).toNatClampNeg) (ge_1_4k (i := x0) hx0) (vin_lt (in_c g2)))) (in_c rfl) rfl dX1_learntTogether_23 ?_
      obtain ⟨r4, h3, hF⟩ := bi_some hF
      refine k_i hS (kS_run M hS hP ok_X1_126 (c_J6_bitCount_0f7a4 l G (v (((x0 + 4) + 17 + ((x2).toNatClampNeg)) + 6) 2) v r4 h3) rfl hl.1 rfl (Nat.le_of_ble_eq_true rfl) ⟨rfl, rfl⟩ ⟨Nat.le_of_ble_eq_true rfl, Nat.le_of_ble_eq_true rfl⟩ dX1_learntTogether_24) (fun H locs hP hS => ?_)
      refine lv_iadd hx hb dX1_learntTogether_27 ?_
      refine lv_istore_n (lv' := [(1, .int (x1 + r4)), (0, .ref (ad G x0)), (2, .int x2)]) hx hb dX1_learntTogether_28 rfl hl (by decide) rfl (fun ls hl => ?_)
      refine lv_iinc (v := (x2 + 1)) (lv' := [(2, .int (x2 + 1)), (1, .int (x1 + r4)), (0, .ref (ad G x0))]) hx hb dX1_learntTogether_29 hl (k := 2) rfl (iinc_eq _ (by decide)) (by decide) rfl (fun ls hl => ?_)
      refine lv_goto (tgt := 4) hx hb dX1_learntTogether_32 (by decide) ?_
      exact ih x0 (x1 + r4) (x2 + 1) hx0 _ _ ls hF hP hS (lv_sub hl [2, 1, 0] rfl)
set_option maxHeartbeats 4000000 in
set_option maxRecDepth 100000 in
theorem c_X1_learntTogether (l : Launch) (G : GG) (q0 : Nat) (hq0 : kd q0 = 1) (v : VV) (r : Int32) (hF : F_X1_learntTogether q0 v = some r) : Met l yX1_learntTogether (cdW yX1_learntTogether cX1_learntTogether 3 (some .int)) ({ frames := 1, cells := 0, slots := 0, locals := 20 } : Room) (PC G v [.ref (ad G q0)]) (QI G r v) 0 0 (gA G) := by
  refine met_in RX1 (by decide) rfl (Nat.le_of_ble_eq_true rfl) ?_
  intro p e s m below meth c M hP ls hl
  have hx := M.1.1
  have hb := M.1.2.1
  have hS : va_S (gA G) s.heap s.heap [] := va_S.rf
  have hl : lv_has ls 3 [(0, .ref (ad G q0))] := hl
  unfold F_X1_learntTogether at hF
  refine lv_iconst (v := 0) hx hb dX1_learntTogether_0 (by decide) ?_
  refine lv_istore_n (lv' := [(1, .int 0), (0, .ref (ad G q0))]) hx hb dX1_learntTogether_1 rfl hl (by decide) rfl (fun ls hl => ?_)
  refine lv_iconst (v := 0) hx hb dX1_learntTogether_2 (by decide) ?_
  refine lv_istore_n (lv' := [(2, .int 0), (1, .int 0), (0, .ref (ad G q0))]) hx hb dX1_learntTogether_3 rfl hl (by decide) rfl (fun ls hl => ?_)
  exact l_X1_learntTogether_4 M _ _ fu q0 0 0 hq0 _ _ ls hF hP hS (lv_sub hl [2, 1, 0] rfl)
def L_X1_notesOfAll_4 : Nat → Nat → Int32 → Int32 → Int32 → VV → Option Int32
  | 0, _, _, _, _, _ => none
  | n + 1, x0, x1, x2, x3, v =>
  if (v x0 5) ≤ x3 then (some x2) else (gu (gI x3 6) (gu (gI x1 4) (L_X1_notesOfAll_4 n x0 x1 (x2 ||| (v (((x0 + 4) + 17 + ((x3).toNatClampNeg)) + 6) ((x1).toNatClampNeg))) (x3 + 1) v)))
def F_X1_notesOfAll (q0 : Nat) (a1 : Int32) (v : VV) : Option Int32 :=
  L_X1_notesOfAll_4 fu q0 a1 0 0 v
set_option maxHeartbeats 4000000 in
set_option maxRecDepth 100000 in
theorem l_X1_notesOfAll_4 {p : Program} {l : Launch} {e : Env} {s : State} {m : MethodId} {args : Array Value} {below : List Frame} {meth : Method} {c : Code} {G : GG} (M : Mx G RX1 cX1_notesOfAll 4 (some .int) p s m args meth c) (r : Int32) (v : VV) : ∀ (n : Nat) (x0 : Nat) (x1 : Int32) (x2 : Int32) (x3 : Int32) (hx0 : kd x0 = 1) (H : Heap) (locs : List Loc) (ls : Array Slot), L_X1_notesOfAll_4 n x0 x1 x2 x3 v = some r → Wd G v H → va_S (gA G) s.heap H locs → lv_has ls 4 [(0, .ref (ad G x0)), (1, .int x1), (2, .int x2), (3, .int x3)] → W p l e ({ frames := 0, cells := 0, slots := 0, locals := 0 } : Room) s m args below meth c H locs 0 0 (MQ below (QI G r v) args s 0 0 (gA G)) (F0 m 4 ls []) := by
  have hx := M.1.1
  have hb := M.1.2.1
  intro n
  induction n with
  | zero =>
    intro x0 x1 x2 x3 hx0 H locs ls hF hP hS hl
    rw [L_X1_notesOfAll_4] at hF
    cases hF
  | succ n ih =>
    intro x0 x1 x2 x3 hx0 H locs ls hF hP hS hl
    rw [L_X1_notesOfAll_4] at hF
    refine lv_iload_n hx hb dX1_notesOfAll_4 rfl (lv_at hl 3 rfl) ?_
    refine lv_aload_n hx hb dX1_notesOfAll_5 rfl (lv_at hl 0 rfl) ?_
    refine fg_1_42 M hP hx0 dX1_notesOfAll_6 ?_
    refine lv_icmp_ge (tgt := 32) hx hb dX1_notesOfAll_9 (by decide) (fun c1 => ?_) (fun c1 => ?_)
    · replace hF := (if_pos c1).symm.trans hF
      refine lv_iload_n hx hb dX1_notesOfAll_32 rfl (lv_at hl 2 rfl) ?_
      exact ret_i M hS hP (congrArg (fun z => (z, v)) (Option.some.inj hF)) dX1_notesOfAll_33
    · replace hF := (if_neg c1).symm.trans hF
      refine lv_iload_n hx hb dX1_notesOfAll_12 rfl (lv_at hl 2 rfl) ?_
      refine lv_aload_n hx hb dX1_notesOfAll_13 rfl (lv_at hl 0 rfl) ?_
      refine fg_1_33 M hP hx0 dX1_notesOfAll_14 ?_
      refine lv_iload_n hx hb dX1_notesOfAll_17 rfl (lv_at hl 3 rfl) ?_
      obtain ⟨g2, hF⟩ := gu_some hF
      refine r_aald9 (k := (x3).toNatClampNeg) M hP (ge_1_4k (i := x0) hx0) (ge_9l (i := (x0 + 4)) (ge_1_4k (i := x0) hx0)) (in_c g2) rfl dX1_notesOfAll_18 ?_
      refine fg_1_60 M hP (ge_9k (i := (x0 + 4)) (k := (x3).toNatClampNeg) (ge_1_4k (i := x0) hx0) (vin_lt (in_c g2))) dX1_notesOfAll_19 ?_
      refine lv_iload_n hx hb dX1_notesOfAll_22 rfl (lv_at hl 1 rfl) ?_
      obtain ⟨g3, hF⟩ := gu_some hF
      refine r_iald (k := (x1).toNatClampNeg) M hP (ge_0k (i := ((x0 + 4) + 17 + ((x3).toNatClampNeg))) (ge_9k (i := (x0 + 4)) (k := (x3).toNatClampNeg) (ge_1_4k (i := x0) hx0) (vin_lt (in_c g2)))) (ge_0l (i := ((x0 + 4) + 17 + ((x3).toNatClampNeg))) (ge_9k (i := (x0 + 4)) (k := (x3).toNatClampNeg) (ge_1_4k (i := x0) hx0) (vin_lt (in_c g2)))) (in_c g3) rfl dX1_notesOfAll_23 ?_
      refine lv_ior hx hb dX1_notesOfAll_24 ?_
      refine lv_istore_n (lv' := [(2, .int (x2 ||| (v (((x0 + 4) + 17 + ((x3).toNatClampNeg)) + 6) ((x1).toNatClampNeg)))), (0, .ref (ad G x0)), (1, .int x1), (3, .int x3)]) hx hb dX1_notesOfAll_25 rfl hl (by decide) rfl (fun ls hl => ?_)
      refine lv_iinc (v := (x3 + 1)) (lv' := [(3, .int (x3 + 1)), (2, .int (x2 ||| (v (((x0 + 4) + 17 + ((x3).toNatClampNeg)) + 6) ((x1).toNatClampNeg)))), (0, .ref (ad G x0)), (1, .int x1)]) hx hb dX1_notesOfAll_26 hl (k := 3) rfl (iinc_eq _ (by decide)) (by decide) rfl (fun ls hl => ?_)
      refine lv_goto (tgt := 4) hx hb dX1_notesOfAll_29 (by decide) ?_
      exact ih x0 x1 (x2 ||| (v (((x0 + 4) + 17 + ((x3).toNatClampNeg)) + 6) ((x1).toNatClampNeg))) (x3 + 1) hx0 _ _ ls hF hP hS (lv_sub hl [2, 3, 1, 0] rfl)
set_option maxHeartbeats 4000000 in
set_option maxRecDepth 100000 in
theorem c_X1_notesOfAll (l : Launch) (G : GG) (q0 : Nat) (hq0 : kd q0 = 1) (a1 : Int32) (v : VV) (r : Int32) (hF : F_X1_notesOfAll q0 a1 v = some r) : Met l yX1_notesOfAll (cdW yX1_notesOfAll cX1_notesOfAll 4 (some .int)) ({ frames := 0, cells := 0, slots := 0, locals := 0 } : Room) (PC G v [.ref (ad G q0), .int a1]) (QI G r v) 0 0 (gA G) := by
  refine met_in RX1 (by decide) rfl (Nat.le_of_ble_eq_true rfl) ?_
  intro p e s m below meth c M hP ls hl
  have hx := M.1.1
  have hb := M.1.2.1
  have hS : va_S (gA G) s.heap s.heap [] := va_S.rf
  have hl : lv_has ls 4 [(0, .ref (ad G q0)), (1, .int a1)] := hl
  unfold F_X1_notesOfAll at hF
  refine lv_iconst (v := 0) hx hb dX1_notesOfAll_0 (by decide) ?_
  refine lv_istore_n (lv' := [(2, .int 0), (0, .ref (ad G q0)), (1, .int a1)]) hx hb dX1_notesOfAll_1 rfl hl (by decide) rfl (fun ls hl => ?_)
  refine lv_iconst (v := 0) hx hb dX1_notesOfAll_2 (by decide) ?_
  refine lv_istore_n (lv' := [(3, .int 0), (2, .int 0), (0, .ref (ad G q0)), (1, .int a1)]) hx hb dX1_notesOfAll_3 rfl hl (by decide) rfl (fun ls hl => ?_)
  exact l_X1_notesOfAll_4 M _ _ fu q0 a1 0 0 hq0 _ _ ls hF hP hS (lv_sub hl [2, 3, 1, 0] rfl)
def L_X1_notesGiven_4 : Nat → Nat → Int32 → Int32 → VV → Option Int32
  | 0, _, _, _, _ => none
  | n + 1, x0, x1, x2, v =>
  if (v x0 4) ≤ x2 then (some x1) else (gu (gI x2 8) (Option.bind (F_X2_isSilent ((x0 + 3) + 2 + ((x2).toNatClampNeg)) v) (fun r4 => (if r4 = true then (L_X1_notesGiven_4 n x0 x1 (x2 + 1) v) else (gu (gI x2 8) (Option.bind (F_X2_gives ((x0 + 3) + 2 + ((x2).toNatClampNeg)) (v x0 6) v) (fun r8 => L_X1_notesGiven_4 n x0 (x1 ||| (1 <<< (r8 &&& 31))) (x2 + 1) v)))))))
def F_X1_notesGiven (q0 : Nat) (v : VV) : Option Int32 :=
  L_X1_notesGiven_4 fu q0 0 0 v
set_option maxHeartbeats 4000000 in
set_option maxRecDepth 100000 in
theorem l_X1_notesGiven_4 {p : Program} {l : Launch} {e : Env} {s : State} {m : MethodId} {args : Array Value} {below : List Frame} {meth : Method} {c : Code} {G : GG} (M : Mx G RX1 cX1_notesGiven 3 (some .int) p s m args meth c) (r : Int32) (v : VV) : ∀ (n : Nat) (x0 : Nat) (x1 : Int32) (x2 : Int32) (hx0 : kd x0 = 1) (H : Heap) (locs : List Loc) (ls : Array Slot), L_X1_notesGiven_4 n x0 x1 x2 v = some r → Wd G v H → va_S (gA G) s.heap H locs → lv_has ls 3 [(0, .ref (ad G x0)), (1, .int x1), (2, .int x2)] → W p l e ({ frames := 1, cells := 0, slots := 0, locals := 21 } : Room) s m args below meth c H locs 0 0 (MQ below (QI G r v) args s 0 0 (gA G)) (F0 m 4 ls []) := by
  have hx := M.1.1
  have hb := M.1.2.1
  intro n
  induction n with
  | zero =>
    intro x0 x1 x2 hx0 H locs ls hF hP hS hl
    rw [L_X1_notesGiven_4] at hF
    cases hF
  | succ n ih =>
    intro x0 x1 x2 hx0 H locs ls hF hP hS hl
    rw [L_X1_notesGiven_4] at hF
    refine lv_iload_n hx hb dX1_notesGiven_4 rfl (lv_at hl 2 rfl) ?_
    refine lv_aload_n hx hb dX1_notesGiven_5 rfl (lv_at hl 0 rfl) ?_
    refine fg_1_38 M hP hx0 dX1_notesGiven_6 ?_
    refine lv_icmp_ge (tgt := 48) hx hb dX1_notesGiven_9 (by decide) (fun c1 => ?_) (fun c1 => ?_)
    · replace hF := (if_pos c1).symm.trans hF
      refine lv_iload_n hx hb dX1_notesGiven_48 rfl (lv_at hl 1 rfl) ?_
      exact ret_i M hS hP (congrArg (fun z => (z, v)) (Option.some.inj hF)) dX1_notesGiven_49
    · replace hF := (if_neg c1).symm.trans hF
      refine lv_aload_n hx hb dX1_notesGiven_12 rfl (lv_at hl 0 rfl) ?_
      refine fg_1_26 M hP hx0 dX1_notesGiven_13 ?_
      refine lv_iload_n hx hb dX1_notesGiven_16 rfl (lv_at hl 2 rfl) ?_
      obtain ⟨g2, hF⟩ := gu_some hF
      refine r_aald10 (k := (x2).toNatClampNeg) M hP (ge_1_3k (i := x0) hx0) (ge_10l (i := (x0 + 3)) (ge_1_3k (i := x0) hx0)) (in_c g2) rfl dX1_notesGiven_17 ?_
      obtain ⟨r4, h3, hF⟩ := bi_some hF
      refine k_i hS (kV_run M hS hP ok_X1_86 (c_X2_isSilent l G ((x0 + 3) + 2 + ((x2).toNatClampNeg)) (ge_10k (i := (x0 + 3)) (k := (x2).toNatClampNeg) (ge_1_3k (i := x0) hx0) (vin_lt (in_c g2))) v r4 h3) (rc_2 M hP (ge_10k (i := (x0 + 3)) (k := (x2).toNatClampNeg) (ge_1_3k (i := x0) hx0) (vin_lt (in_c g2)))) rfl hl.1 rfl (Nat.le_of_ble_eq_true rfl) ⟨rfl, rfl⟩ ⟨Nat.le_of_ble_eq_true rfl, Nat.le_of_ble_eq_true rfl⟩ dX1_notesGiven_18) (fun H locs hP hS => ?_)
      refine lv_if_ne (tgt := 42) hx hb dX1_notesGiven_21 (by decide) (fun c5 => ?_) (fun c5 => ?_)
      · replace hF := (if_pos (bI_t c5)).symm.trans hF
        refine lv_iinc (v := (x2 + 1)) (lv' := [(2, .int (x2 + 1)), (0, .ref (ad G x0)), (1, .int x1)]) hx hb dX1_notesGiven_42 hl (k := 2) rfl (iinc_eq _ (by decide)) (by decide) rfl (fun ls hl => ?_)
        refine lv_goto (tgt := 4) hx hb dX1_notesGiven_45 (by decide) ?_
        exact ih x0 x1 (x2 + 1) hx0 _ _ ls hF hP hS (lv_sub hl [1, 2, 0] rfl)
      · replace hF := (if_neg (bI_f c5)).symm.trans hF
        refine lv_iload_n hx hb dX1_notesGiven_24 rfl (lv_at hl 1 rfl) ?_
        refine lv_iconst (v := 1) hx hb dX1_notesGiven_25 (by decide) ?_
        refine lv_aload_n hx hb dX1_notesGiven_26 rfl (lv_at hl 0 rfl) ?_
        refine fg_1_26 M hP hx0 dX1_notesGiven_27 ?_
        refine lv_iload_n hx hb dX1_notesGiven_30 rfl (lv_at hl 2 rfl) ?_
        obtain ⟨g6, hF⟩ := gu_some hF
        refine r_aald10 (k := (x2).toNatClampNeg) M hP (ge_1_3k (i := x0) hx0) (ge_10l (i := (x0 + 3)) (ge_1_3k (i := x0) hx0)) (in_c g6) rfl dX1_notesGiven_31 ?_
        refine lv_aload_n hx hb dX1_notesGiven_32 rfl (lv_at hl 0 rfl) ?_
        refine fg_1_45 M hP hx0 dX1_notesGiven_33 ?_
        obtain ⟨r8, h7, hF⟩ := bi_some hF
        refine k_i hS (kV_run M hS hP ok_X1_66 (c_X2_gives l G ((x0 + 3) + 2 + ((x2).toNatClampNeg)) (ge_10k (i := (x0 + 3)) (k := (x2).toNatClampNeg) (ge_1_3k (i := x0) hx0) (vin_lt (in_c g6))) (v x0 6) v r8 h7) (rc_2 M hP (ge_10k (i := (x0 + 3)) (k := (x2).toNatClampNeg) (ge_1_3k (i := x0) hx0) (vin_lt (in_c g6)))) rfl hl.1 rfl (Nat.le_of_ble_eq_true rfl) ⟨rfl, rfl⟩ ⟨Nat.le_of_ble_eq_true rfl, Nat.le_of_ble_eq_true rfl⟩ dX1_notesGiven_36) (fun H locs hP hS => ?_)
        refine lv_ishl hx hb dX1_notesGiven_39 ?_
        refine lv_ior hx hb dX1_notesGiven_40 ?_
        refine lv_istore_n (lv' := [(1, .int (x1 ||| (1 <<< (r8 &&& 31)))), (0, .ref (ad G x0)), (2, .int x2)]) hx hb dX1_notesGiven_41 rfl hl (by decide) rfl (fun ls hl => ?_)
        refine lv_iinc (v := (x2 + 1)) (lv' := [(2, .int (x2 + 1)), (1, .int (x1 ||| (1 <<< (r8 &&& 31)))), (0, .ref (ad G x0))]) hx hb dX1_notesGiven_42 hl (k := 2) rfl (iinc_eq _ (by decide)) (by decide) rfl (fun ls hl => ?_)
        refine lv_goto (tgt := 4) hx hb dX1_notesGiven_45 (by decide) ?_
        exact ih x0 (x1 ||| (1 <<< (r8 &&& 31))) (x2 + 1) hx0 _ _ ls hF hP hS (lv_sub hl [2, 1, 0] rfl)
set_option maxHeartbeats 4000000 in
set_option maxRecDepth 100000 in
theorem c_X1_notesGiven (l : Launch) (G : GG) (q0 : Nat) (hq0 : kd q0 = 1) (v : VV) (r : Int32) (hF : F_X1_notesGiven q0 v = some r) : Met l yX1_notesGiven (cdW yX1_notesGiven cX1_notesGiven 3 (some .int)) ({ frames := 1, cells := 0, slots := 0, locals := 21 } : Room) (PC G v [.ref (ad G q0)]) (QI G r v) 0 0 (gA G) := by
  refine met_in RX1 (by decide) rfl (Nat.le_of_ble_eq_true rfl) ?_
  intro p e s m below meth c M hP ls hl
  have hx := M.1.1
  have hb := M.1.2.1
  have hS : va_S (gA G) s.heap s.heap [] := va_S.rf
  have hl : lv_has ls 3 [(0, .ref (ad G q0))] := hl
  unfold F_X1_notesGiven at hF
  refine lv_iconst (v := 0) hx hb dX1_notesGiven_0 (by decide) ?_
  refine lv_istore_n (lv' := [(1, .int 0), (0, .ref (ad G q0))]) hx hb dX1_notesGiven_1 rfl hl (by decide) rfl (fun ls hl => ?_)
  refine lv_iconst (v := 0) hx hb dX1_notesGiven_2 (by decide) ?_
  refine lv_istore_n (lv' := [(2, .int 0), (1, .int 0), (0, .ref (ad G q0))]) hx hb dX1_notesGiven_3 rfl hl (by decide) rfl (fun ls hl => ?_)
  exact l_X1_notesGiven_4 M _ _ fu q0 0 0 hq0 _ _ ls hF hP hS (lv_sub hl [2, 1, 0] rfl)
def L_X1_tiredTogether_4 : Nat → Nat → Int32 → Int32 → VV → Option Int32
  | 0, _, _, _, _ => none
  | n + 1, x0, x1, x2, v =>
  if (v x0 4) ≤ x2 then (some x1) else (gu (gI x2 8) (L_X1_tiredTogether_4 n x0 (x1 + (v (((x0 + 3) + 2 + ((x2).toNatClampNeg)) + 8) 4)) (x2 + 1) v))
def F_X1_tiredTogether (q0 : Nat) (v : VV) : Option Int32 :=
  L_X1_tiredTogether_4 fu q0 0 0 v
set_option maxHeartbeats 4000000 in
set_option maxRecDepth 100000 in
theorem l_X1_tiredTogether_4 {p : Program} {l : Launch} {e : Env} {s : State} {m : MethodId} {args : Array Value} {below : List Frame} {meth : Method} {c : Code} {G : GG} (M : Mx G RX1 cX1_tiredTogether 3 (some .int) p s m args meth c) (r : Int32) (v : VV) : ∀ (n : Nat) (x0 : Nat) (x1 : Int32) (x2 : Int32) (hx0 : kd x0 = 1) (H : Heap) (locs : List Loc) (ls : Array Slot), L_X1_tiredTogether_4 n x0 x1 x2 v = some r → Wd G v H → va_S (gA G) s.heap H locs → lv_has ls 3 [(0, .ref (ad G x0)), (1, .int x1), (2, .int x2)] → W p l e ({ frames := 0, cells := 0, slots := 0, locals := 0 } : Room) s m args below meth c H locs 0 0 (MQ below (QI G r v) args s 0 0 (gA G)) (F0 m 4 ls []) := by
  have hx := M.1.1
  have hb := M.1.2.1
  intro n
  induction n with
  | zero =>
    intro x0 x1 x2 hx0 H locs ls hF hP hS hl
    rw [L_X1_tiredTogether_4] at hF
    cases hF
  | succ n ih =>
    intro x0 x1 x2 hx0 H locs ls hF hP hS hl
    rw [L_X1_tiredTogether_4] at hF
    refine lv_iload_n hx hb dX1_tiredTogether_4 rfl (lv_at hl 2 rfl) ?_
    refine lv_aload_n hx hb dX1_tiredTogether_5 rfl (lv_at hl 0 rfl) ?_
    refine fg_1_38 M hP hx0 dX1_tiredTogether_6 ?_
    refine lv_icmp_ge (tgt := 32) hx hb dX1_tiredTogether_9 (by decide) (fun c1 => ?_) (fun c1 => ?_)
    · replace hF := (if_pos c1).symm.trans hF
      refine lv_iload_n hx hb dX1_tiredTogether_32 rfl (lv_at hl 1 rfl) ?_
      exact ret_i M hS hP (congrArg (fun z => (z, v)) (Option.some.inj hF)) dX1_tiredTogether_33
    · replace hF := (if_neg c1).symm.trans hF
      refine lv_iload_n hx hb dX1_tiredTogether_12 rfl (lv_at hl 1 rfl) ?_
      refine lv_aload_n hx hb dX1_tiredTogether_13 rfl (lv_at hl 0 rfl) ?_
      refine fg_1_26 M hP hx0 dX1_tiredTogether_14 ?_
      refine lv_iload_n hx hb dX1_tiredTogether_17 rfl (lv_at hl 2 rfl) ?_
      obtain ⟨g2, hF⟩ := gu_some hF
      refine r_aald10 (k := (x2).toNatClampNeg) M hP (ge_1_3k (i := x0) hx0) (ge_10l (i := (x0 + 3)) (ge_1_3k (i := x0) hx0)) (in_c g2) rfl dX1_tiredTogether_18 ?_
      refine fg_1_57 M hP (ge_10k (i := (x0 + 3)) (k := (x2).toNatClampNeg) (ge_1_3k (i := x0) hx0) (vin_lt (in_c g2))) dX1_tiredTogether_19 ?_
      refine lv_iconst (v := 4) hx hb dX1_tiredTogether_22 (by decide) ?_
      refine r_iald (k := 4) M hP (ge_2k (i := ((x0 + 3) + 2 + ((x2).toNatClampNeg))) (ge_10k (i := (x0 + 3)) (k := (x2).toNatClampNeg) (ge_1_3k (i := x0) hx0) (vin_lt (in_c g2)))) (ge_2l (i := ((x0 + 3) + 2 + ((x2).toNatClampNeg))) (ge_10k (i := (x0 + 3)) (k := (x2).toNatClampNeg) (ge_1_3k (i := x0) hx0) (vin_lt (in_c g2)))) (in_c rfl) rfl dX1_tiredTogether_23 ?_
      refine lv_iadd hx hb dX1_tiredTogether_24 ?_
      refine lv_istore_n (lv' := [(1, .int (x1 + (v (((x0 + 3) + 2 + ((x2).toNatClampNeg)) + 8) 4))), (0, .ref (ad G x0)), (2, .int x2)]) hx hb dX1_tiredTogether_25 rfl hl (by decide) rfl (fun ls hl => ?_)
      refine lv_iinc (v := (x2 + 1)) (lv' := [(2, .int (x2 + 1)), (1, .int (x1 + (v (((x0 + 3) + 2 + ((x2).toNatClampNeg)) + 8) 4))), (0, .ref (ad G x0))]) hx hb dX1_tiredTogether_26 hl (k := 2) rfl (iinc_eq _ (by decide)) (by decide) rfl (fun ls hl => ?_)
      refine lv_goto (tgt := 4) hx hb dX1_tiredTogether_29 (by decide) ?_
      exact ih x0 (x1 + (v (((x0 + 3) + 2 + ((x2).toNatClampNeg)) + 8) 4)) (x2 + 1) hx0 _ _ ls hF hP hS (lv_sub hl [2, 1, 0] rfl)
set_option maxHeartbeats 4000000 in
set_option maxRecDepth 100000 in
theorem c_X1_tiredTogether (l : Launch) (G : GG) (q0 : Nat) (hq0 : kd q0 = 1) (v : VV) (r : Int32) (hF : F_X1_tiredTogether q0 v = some r) : Met l yX1_tiredTogether (cdW yX1_tiredTogether cX1_tiredTogether 3 (some .int)) ({ frames := 0, cells := 0, slots := 0, locals := 0 } : Room) (PC G v [.ref (ad G q0)]) (QI G r v) 0 0 (gA G) := by
  refine met_in RX1 (by decide) rfl (Nat.le_of_ble_eq_true rfl) ?_
  intro p e s m below meth c M hP ls hl
  have hx := M.1.1
  have hb := M.1.2.1
  have hS : va_S (gA G) s.heap s.heap [] := va_S.rf
  have hl : lv_has ls 3 [(0, .ref (ad G q0))] := hl
  unfold F_X1_tiredTogether at hF
  refine lv_iconst (v := 0) hx hb dX1_tiredTogether_0 (by decide) ?_
  refine lv_istore_n (lv' := [(1, .int 0), (0, .ref (ad G q0))]) hx hb dX1_tiredTogether_1 rfl hl (by decide) rfl (fun ls hl => ?_)
  refine lv_iconst (v := 0) hx hb dX1_tiredTogether_2 (by decide) ?_
  refine lv_istore_n (lv' := [(2, .int 0), (1, .int 0), (0, .ref (ad G q0))]) hx hb dX1_tiredTogether_3 rfl hl (by decide) rfl (fun ls hl => ?_)
  exact l_X1_tiredTogether_4 M _ _ fu q0 0 0 hq0 _ _ ls hF hP hS (lv_sub hl [2, 1, 0] rfl)
def L_X1_childrenWhoLearntAll_4 : Nat → Nat → Int32 → Int32 → VV → Option Int32
  | 0, _, _, _, _ => none
  | n + 1, x0, x1, x2, v =>
  if (v x0 5) ≤ x2 then (some x1) else (gu (gI x2 6) ((if (v (((x0 + 4) + 17 + ((x2).toNatClampNeg)) + 6) 2) = 4095 then (L_X1_childrenWhoLearntAll_4 n x0 (x1 ||| (1 <<< (x2 &&& 31))) (x2 + 1) v) else (L_X1_childrenWhoLearntAll_4 n x0 x1 (x2 + 1) v))))
def F_X1_childrenWhoLearntAll (q0 : Nat) (v : VV) : Option Int32 :=
  L_X1_childrenWhoLearntAll_4 fu q0 0 0 v
set_option maxHeartbeats 4000000 in
set_option maxRecDepth 100000 in
theorem l_X1_childrenWhoLearntAll_4 {p : Program} {l : Launch} {e : Env} {s : State} {m : MethodId} {args : Array Value} {below : List Frame} {meth : Method} {c : Code} {G : GG} (M : Mx G RX1 cX1_childrenWhoLearntAll 3 (some .int) p s m args meth c) (r : Int32) (v : VV) : ∀ (n : Nat) (x0 : Nat) (x1 : Int32) (x2 : Int32) (hx0 : kd x0 = 1) (H : Heap) (locs : List Loc) (ls : Array Slot), L_X1_childrenWhoLearntAll_4 n x0 x1 x2 v = some r → Wd G v H → va_S (gA G) s.heap H locs → lv_has ls 3 [(0, .ref (ad G x0)), (1, .int x1), (2, .int x2)] → W p l e ({ frames := 0, cells := 0, slots := 0, locals := 0 } : Room) s m args below meth c H locs 0 0 (MQ below (QI G r v) args s 0 0 (gA G)) (F0 m 4 ls []) := by
  have hx := M.1.1
  have hb := M.1.2.1
  intro n
  induction n with
  | zero =>
    intro x0 x1 x2 hx0 H locs ls hF hP hS hl
    rw [L_X1_childrenWhoLearntAll_4] at hF
    cases hF
  | succ n ih =>
    intro x0 x1 x2 hx0 H locs ls hF hP hS hl
    rw [L_X1_childrenWhoLearntAll_4] at hF
    refine lv_iload_n hx hb dX1_childrenWhoLearntAll_4 rfl (lv_at hl 2 rfl) ?_
    refine lv_aload_n hx hb dX1_childrenWhoLearntAll_5 rfl (lv_at hl 0 rfl) ?_
    refine fg_1_42 M hP hx0 dX1_childrenWhoLearntAll_6 ?_
    refine lv_icmp_ge (tgt := 41) hx hb dX1_childrenWhoLearntAll_9 (by decide) (fun c1 => ?_) (fun c1 => ?_)
    · replace hF := (if_pos c1).symm.trans hF
      refine lv_iload_n hx hb dX1_childrenWhoLearntAll_41 rfl (lv_at hl 1 rfl) ?_
      exact ret_i M hS hP (congrArg (fun z => (z, v)) (Option.some.inj hF)) dX1_childrenWhoLearntAll_42
    · replace hF := (if_neg c1).symm.trans hF
      refine lv_aload_n hx hb dX1_childrenWhoLearntAll_12 rfl (lv_at hl 0 rfl) ?_
      refine fg_1_33 M hP hx0 dX1_childrenWhoLearntAll_13 ?_
      refine lv_iload_n hx hb dX1_childrenWhoLearntAll_16 rfl (lv_at hl 2 rfl) ?_
      obtain ⟨g2, hF⟩ := gu_some hF
      refine r_aald9 (k := (x2).toNatClampNeg) M hP (ge_1_4k (i := x0) hx0) (ge_9l (i := (x0 + 4)) (ge_1_4k (i := x0) hx0)) (in_c g2) rfl dX1_childrenWhoLearntAll_17 ?_
      refine fg_1_60 M hP (ge_9k (i := (x0 + 4)) (k := (x2).toNatClampNeg) (ge_1_4k (i := x0) hx0) (vin_lt (in_c g2))) dX1_childrenWhoLearntAll_18 ?_
      refine lv_iconst (v := 2) hx hb dX1_childrenWhoLearntAll_21 (by decide) ?_
      refine r_iald (k := 2) M hP (ge_0k (i := ((x0 + 4) + 17 + ((x2).toNatClampNeg))) (ge_9k (i := (x0 + 4)) (k := (x2).toNatClampNeg) (ge_1_4k (i := x0) hx0) (vin_lt (in_c g2)))) (ge_0l (i := ((x0 + 4) + 17 + ((x2).toNatClampNeg))) (ge_9k (i := (x0 + 4)) (k := (x2).toNatClampNeg) (ge_1_4k (i := x0) hx0) (vin_lt (in_c g2)))) (in_c rfl) rfl dX1_childrenWhoLearntAll_22 ?_
      refine lv_sipush (v := 4095) hx hb dX1_childrenWhoLearntAll_23 (by decide) ?_
      refine lv_icmp_ne (tgt := 35) hx hb dX1_childrenWhoLearntAll_26 (by decide) (fun c3 => ?_) (fun c3 => ?_)
      · replace hF := (if_neg c3).symm.trans hF
        refine lv_iinc (v := (x2 + 1)) (lv' := [(2, .int (x2 + 1)), (0, .ref (ad G x0)), (1, .int x1)]) hx hb dX1_childrenWhoLearntAll_35 hl (k := 2) rfl (iinc_eq _ (by decide)) (by decide) rfl (fun ls hl => ?_)
        refine lv_goto (tgt := 4) hx hb dX1_childrenWhoLearntAll_38 (by decide) ?_
        exact ih x0 x1 (x2 + 1) hx0 _ _ ls hF hP hS (lv_sub hl [1, 2, 0] rfl)
      · replace hF := (if_pos c3).symm.trans hF
        refine lv_iload_n hx hb dX1_childrenWhoLearntAll_29 rfl (lv_at hl 1 rfl) ?_
        refine lv_iconst (v := 1) hx hb dX1_childrenWhoLearntAll_30 (by decide) ?_
        refine lv_iload_n hx hb dX1_childrenWhoLearntAll_31 rfl (lv_at hl 2 rfl) ?_
        refine lv_ishl hx hb dX1_childrenWhoLearntAll_32 ?_
        refine lv_ior hx hb dX1_childrenWhoLearntAll_33 ?_
        refine lv_istore_n (lv' := [(1, .int (x1 ||| (1 <<< (x2 &&& 31)))), (0, .ref (ad G x0)), (2, .int x2)]) hx hb dX1_childrenWhoLearntAll_34 rfl hl (by decide) rfl (fun ls hl => ?_)
        refine lv_iinc (v := (x2 + 1)) (lv' := [(2, .int (x2 + 1)), (1, .int (x1 ||| (1 <<< (x2 &&& 31)))), (0, .ref (ad G x0))]) hx hb dX1_childrenWhoLearntAll_35 hl (k := 2) rfl (iinc_eq _ (by decide)) (by decide) rfl (fun ls hl => ?_)
        refine lv_goto (tgt := 4) hx hb dX1_childrenWhoLearntAll_38 (by decide) ?_
        exact ih x0 (x1 ||| (1 <<< (x2 &&& 31))) (x2 + 1) hx0 _ _ ls hF hP hS (lv_sub hl [2, 1, 0] rfl)
set_option maxHeartbeats 4000000 in
set_option maxRecDepth 100000 in
theorem c_X1_childrenWhoLearntAll (l : Launch) (G : GG) (q0 : Nat) (hq0 : kd q0 = 1) (v : VV) (r : Int32) (hF : F_X1_childrenWhoLearntAll q0 v = some r) : Met l yX1_childrenWhoLearntAll (cdW yX1_childrenWhoLearntAll cX1_childrenWhoLearntAll 3 (some .int)) ({ frames := 0, cells := 0, slots := 0, locals := 0 } : Room) (PC G v [.ref (ad G q0)]) (QI G r v) 0 0 (gA G) := by
  refine met_in RX1 (by decide) rfl (Nat.le_of_ble_eq_true rfl) ?_
  intro p e s m below meth c M hP ls hl
  have hx := M.1.1
  have hb := M.1.2.1
  have hS : va_S (gA G) s.heap s.heap [] := va_S.rf
  have hl : lv_has ls 3 [(0, .ref (ad G q0))] := hl
  unfold F_X1_childrenWhoLearntAll at hF
  refine lv_iconst (v := 0) hx hb dX1_childrenWhoLearntAll_0 (by decide) ?_
  refine lv_istore_n (lv' := [(1, .int 0), (0, .ref (ad G q0))]) hx hb dX1_childrenWhoLearntAll_1 rfl hl (by decide) rfl (fun ls hl => ?_)
  refine lv_iconst (v := 0) hx hb dX1_childrenWhoLearntAll_2 (by decide) ?_
  refine lv_istore_n (lv' := [(2, .int 0), (1, .int 0), (0, .ref (ad G q0))]) hx hb dX1_childrenWhoLearntAll_3 rfl hl (by decide) rfl (fun ls hl => ?_)
  exact l_X1_childrenWhoLearntAll_4 M _ _ fu q0 0 0 hq0 _ _ ls hF hP hS (lv_sub hl [2, 1, 0] rfl)
def L_X1_spotsThatHold_4 : Nat → Nat → Int32 → Int32 → VV → Option Int32
  | 0, _, _, _, _ => none
  | n + 1, x0, x1, x2, v =>
  if 10 ≤ x2 then (some x1) else (gu (gI x2 10) ((if (v (x0 + 2) ((x2).toNatClampNeg)) = (-1) then (L_X1_spotsThatHold_4 n x0 x1 (x2 + 1) v) else (L_X1_spotsThatHold_4 n x0 (x1 + 1) (x2 + 1) v))))
def F_X1_spotsThatHold (q0 : Nat) (v : VV) : Option Int32 :=
  L_X1_spotsThatHold_4 fu q0 0 0 v
set_option maxHeartbeats 4000000 in
set_option maxRecDepth 100000 in
theorem l_X1_spotsThatHold_4 {p : Program} {l : Launch} {e : Env} {s : State} {m : MethodId} {args : Array Value} {below : List Frame} {meth : Method} {c : Code} {G : GG} (M : Mx G RX1 cX1_spotsThatHold 3 (some .int) p s m args meth c) (r : Int32) (v : VV) : ∀ (n : Nat) (x0 : Nat) (x1 : Int32) (x2 : Int32) (hx0 : kd x0 = 1) (H : Heap) (locs : List Loc) (ls : Array Slot), L_X1_spotsThatHold_4 n x0 x1 x2 v = some r → Wd G v H → va_S (gA G) s.heap H locs → lv_has ls 3 [(0, .ref (ad G x0)), (1, .int x1), (2, .int x2)] → W p l e ({ frames := 0, cells := 0, slots := 0, locals := 0 } : Room) s m args below meth c H locs 0 0 (MQ below (QI G r v) args s 0 0 (gA G)) (F0 m 4 ls []) := by
  have hx := M.1.1
  have hb := M.1.2.1
  intro n
  induction n with
  | zero =>
    intro x0 x1 x2 hx0 H locs ls hF hP hS hl
    rw [L_X1_spotsThatHold_4] at hF
    cases hF
  | succ n ih =>
    intro x0 x1 x2 hx0 H locs ls hF hP hS hl
    rw [L_X1_spotsThatHold_4] at hF
    refine lv_iload_n hx hb dX1_spotsThatHold_4 rfl (lv_at hl 2 rfl) ?_
    refine lv_bipush (v := 10) hx hb dX1_spotsThatHold_5 (by decide) ?_
    refine lv_icmp_ge (tgt := 29) hx hb dX1_spotsThatHold_7 (by decide) (fun c1 => ?_) (fun c1 => ?_)
    · replace hF := (if_pos c1).symm.trans hF
      refine lv_iload_n hx hb dX1_spotsThatHold_29 rfl (lv_at hl 1 rfl) ?_
      exact ret_i M hS hP (congrArg (fun z => (z, v)) (Option.some.inj hF)) dX1_spotsThatHold_30
    · replace hF := (if_neg c1).symm.trans hF
      refine lv_aload_n hx hb dX1_spotsThatHold_10 rfl (lv_at hl 0 rfl) ?_
      refine fg_1_15 M hP hx0 dX1_spotsThatHold_11 ?_
      refine lv_iload_n hx hb dX1_spotsThatHold_14 rfl (lv_at hl 2 rfl) ?_
      obtain ⟨g2, hF⟩ := gu_some hF
      refine r_iald (k := (x2).toNatClampNeg) M hP (ge_1_2k (i := x0) hx0) (ge_1_2l (i := x0) hx0) (in_c g2) rfl dX1_spotsThatHold_15 ?_
      refine lv_iconst (v := (-1)) hx hb dX1_spotsThatHold_16 (by decide) ?_
      refine lv_icmp_eq (tgt := 23) hx hb dX1_spotsThatHold_17 (by decide) (fun c3 => ?_) (fun c3 => ?_)
      · replace hF := (if_pos c3).symm.trans hF
        refine lv_iinc (v := (x2 + 1)) (lv' := [(2, .int (x2 + 1)), (0, .ref (ad G x0)), (1, .int x1)]) hx hb dX1_spotsThatHold_23 hl (k := 2) rfl (iinc_eq _ (by decide)) (by decide) rfl (fun ls hl => ?_)
        refine lv_goto (tgt := 4) hx hb dX1_spotsThatHold_26 (by decide) ?_
        exact ih x0 x1 (x2 + 1) hx0 _ _ ls hF hP hS (lv_sub hl [1, 2, 0] rfl)
      · replace hF := (if_neg c3).symm.trans hF
        refine lv_iinc (v := (x1 + 1)) (lv' := [(1, .int (x1 + 1)), (0, .ref (ad G x0)), (2, .int x2)]) hx hb dX1_spotsThatHold_20 hl (k := 1) rfl (iinc_eq _ (by decide)) (by decide) rfl (fun ls hl => ?_)
        refine lv_iinc (v := (x2 + 1)) (lv' := [(2, .int (x2 + 1)), (1, .int (x1 + 1)), (0, .ref (ad G x0))]) hx hb dX1_spotsThatHold_23 hl (k := 2) rfl (iinc_eq _ (by decide)) (by decide) rfl (fun ls hl => ?_)
        refine lv_goto (tgt := 4) hx hb dX1_spotsThatHold_26 (by decide) ?_
        exact ih x0 (x1 + 1) (x2 + 1) hx0 _ _ ls hF hP hS (lv_sub hl [2, 1, 0] rfl)
set_option maxHeartbeats 4000000 in
set_option maxRecDepth 100000 in
theorem c_X1_spotsThatHold (l : Launch) (G : GG) (q0 : Nat) (hq0 : kd q0 = 1) (v : VV) (r : Int32) (hF : F_X1_spotsThatHold q0 v = some r) : Met l yX1_spotsThatHold (cdW yX1_spotsThatHold cX1_spotsThatHold 3 (some .int)) ({ frames := 0, cells := 0, slots := 0, locals := 0 } : Room) (PC G v [.ref (ad G q0)]) (QI G r v) 0 0 (gA G) := by
  refine met_in RX1 (by decide) rfl (Nat.le_of_ble_eq_true rfl) ?_
  intro p e s m below meth c M hP ls hl
  have hx := M.1.1
  have hb := M.1.2.1
  have hS : va_S (gA G) s.heap s.heap [] := va_S.rf
  have hl : lv_has ls 3 [(0, .ref (ad G q0))] := hl
  unfold F_X1_spotsThatHold at hF
  refine lv_iconst (v := 0) hx hb dX1_spotsThatHold_0 (by decide) ?_
  refine lv_istore_n (lv' := [(1, .int 0), (0, .ref (ad G q0))]) hx hb dX1_spotsThatHold_1 rfl hl (by decide) rfl (fun ls hl => ?_)
  refine lv_iconst (v := 0) hx hb dX1_spotsThatHold_2 (by decide) ?_
  refine lv_istore_n (lv' := [(2, .int 0), (1, .int 0), (0, .ref (ad G q0))]) hx hb dX1_spotsThatHold_3 rfl hl (by decide) rfl (fun ls hl => ?_)
  exact l_X1_spotsThatHold_4 M _ _ fu q0 0 0 hq0 _ _ ls hF hP hS (lv_sub hl [2, 1, 0] rfl)
