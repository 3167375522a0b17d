set_option maxHeartbeats 8000000 in
set_option maxRecDepth 100000 in
theorem c_X2_init (l : Launch) (G : GG) (h0 sz : Nat) : Met l yX2_init (cdW yX2_init cX2_init 1 none) ({ frames := 1, cells := 1, slots := 6, locals := 12 } : Room) (PN G h0 (.inr (2, [.null])) sz (fun _ => True)) (QN G h0 (.inr (2, [.null])) sz (fun _ : Nat => True) (fun u => [(h0, .inr (2, [.ref u])), (u, aI G 6 z0)])) 1 6 (va_A [(h0, .inr (2, [.null]))] sz) := by
  refine met_new RX2 (by decide) rfl rfl (by decide) ?_
  intro p e s m below meth c A M hE hAe hA hP hD ls hl
  have hx := M.1.1
  have hb := M.1.2.1
  have hown := M.1.2.2.2.1
  have hts := M.1.2.2.2.2
  have hin := M.2.2.2.1
  have hK := M.2.2.2.2.1
  have hN := M.2.2.2.2.2
  have hS : va_S A s.heap s.heap [] := va_S.rf
  refine lv_aload_n hx hb dX2_init_0 rfl (lv_at hl 0 rfl) ?_
  refine kO (b0 := h0) M.1 w_39 hl.1 (Nat.le_of_ble_eq_true rfl) (Nat.le_of_ble_eq_true rfl) dX2_init_1 ?_
  refine lv_aload_n hx hb dX2_init_4 rfl (lv_at hl 0 rfl) ?_
  refine lv_bipush (v := 6) hx hb dX2_init_5 (by decide) ?_
  refine nA_i hx hb (hts _ w_47) hK hP hD hS hA 6 (by decide) rfl (Nat.le_of_ble_eq_true rfl) (Nat.le_of_ble_eq_true rfl) (Nat.le_of_ble_eq_true rfl) dX2_init_7 (fun q1 H hP hD hS => ?_)
  have hP : va_P (gD G) vwCl [(h0, .inr (2, [.null])), (q1, aI G 6 z0)] H := hP
  have hD : va_D A [(h0, .inr (2, [.null])), (q1, aI G 6 z0)] := hD
  refine W.widen (k := 1) (n := 6) (Nat.le_of_ble_eq_true rfl) (Nat.le_of_ble_eq_true rfl) ?_
  refine va_putF (D := gD G) (ci := 2) (v := .ref q1) (ty := .array .int) (C := RX2) (T := TX2) (N := 1) hx hb hts inT_2 tyX2 tyX2_ok nmX2 hown hK hP hD hS 0 rfl rfl 0 (by decide) (hts (.fieldLink RX2 9 "FogSchool$Keeper" "row" "[I") w_40) (fun _ h9 => h9) rfl hin rfl (by decide +kernel) rfl rfl (Nat.le_of_ble_eq_true rfl) dX2_init_9 (fun H locs hP hD hS => ?_)
  have hP : va_P (gD G) vwCl [(h0, .inr (2, [.ref q1])), (q1, aI G 6 z0)] H := hP
  have hD : va_D A [(h0, .inr (2, [.ref q1])), (q1, aI G 6 z0)] := hD
  exact retN M q1 trivial hP hD hS dX2_init_12
set_option maxHeartbeats 8000000 in
set_option maxRecDepth 100000 in
theorem c_X0_init (l : Launch) (G : GG) (h0 sz : Nat) : Met l yX0_init (cdW yX0_init cX0_init 1 none) ({ frames := 1, cells := 1, slots := 4, locals := 12 } : Room) (PN G h0 (.inr (0, [.null])) sz (fun _ => True)) (QN G h0 (.inr (0, [.null])) sz (fun _ : Nat => True) (fun u => [(h0, .inr (0, [.ref u])), (u, aI G 4 z0)])) 1 4 (va_A [(h0, .inr (0, [.null]))] sz) := by
  refine met_new RX0 (by decide) rfl rfl (by decide) ?_
  intro p e s m below meth c A M hE hAe hA hP hD ls hl
  have hx := M.1.1
  have hb := M.1.2.1
  have hown := M.1.2.2.2.1
  have hts := M.1.2.2.2.2
  have hin := M.2.2.2.1
  have hK := M.2.2.2.2.1
  have hN := M.2.2.2.2.2
  have hS : va_S A s.heap s.heap [] := va_S.rf
  refine lv_aload_n hx hb dX0_init_0 rfl (lv_at hl 0 rfl) ?_
  refine kO (b0 := h0) M.1 w_54 hl.1 (Nat.le_of_ble_eq_true rfl) (Nat.le_of_ble_eq_true rfl) dX0_init_1 ?_
  refine lv_aload_n hx hb dX0_init_4 rfl (lv_at hl 0 rfl) ?_
  refine lv_iconst (v := 4) hx hb dX0_init_5 (by decide) ?_
  refine nA_i hx hb (hts _ w_47) hK hP hD hS hA 4 (by decide) rfl (Nat.le_of_ble_eq_true rfl) (Nat.le_of_ble_eq_true rfl) (Nat.le_of_ble_eq_true rfl) dX0_init_6 (fun q1 H hP hD hS => ?_)
  have hP : va_P (gD G) vwCl [(h0, .inr (0, [.null])), (q1, aI G 4 z0)] H := hP
  have hD : va_D A [(h0, .inr (0, [.null])), (q1, aI G 4 z0)] := hD
  refine W.widen (k := 1) (n := 4) (Nat.le_of_ble_eq_true rfl) (Nat.le_of_ble_eq_true rfl) ?_
  refine va_putF (D := gD G) (ci := 0) (v := .ref q1) (ty := .array .int) (C := RX0) (T := TX0) (N := 1) hx hb hts inT_0 tyX0 tyX0_ok nmX0 hown hK hP hD hS 0 rfl rfl 0 (by decide) (hts (.fieldLink RX0 9 "FogSchool$Child" "row" "[I") w_55) (fun _ h9 => h9) rfl hin rfl (by decide +kernel) rfl rfl (Nat.le_of_ble_eq_true rfl) dX0_init_8 (fun H locs hP hD hS => ?_)
  have hP : va_P (gD G) vwCl [(h0, .inr (0, [.ref q1])), (q1, aI G 4 z0)] H := hP
  have hD : va_D A [(h0, .inr (0, [.ref q1])), (q1, aI G 4 z0)] := hD
  exact retN M q1 trivial hP hD hS dX0_init_11
set_option maxHeartbeats 8000000 in
set_option maxRecDepth 100000 in
theorem c_X3_init (l : Launch) (G : GG) (h0 sz : Nat) : Met l yX3_init (cdW yX3_init cX3_init 1 none) ({ frames := 1, cells := 1, slots := 40, locals := 12 } : Room) (PN G h0 (.inr (3, [.null, .int 0, .int 0])) sz (fun _ => True)) (QN G h0 (.inr (3, [.null, .int 0, .int 0])) sz (fun _ : Nat => True) (fun u => [(h0, .inr (3, [.ref u, .int 0, .int 0])), (u, aI G 40 z0)])) 1 40 (va_A [(h0, .inr (3, [.null, .int 0, .int 0]))] sz) := by
  refine met_new RX3 (by decide) rfl rfl (by decide) ?_
  intro p e s m below meth c A M hE hAe hA hP hD ls hl
  have hx := M.1.1
  have hb := M.1.2.1
  have hown := M.1.2.2.2.1
  have hts := M.1.2.2.2.2
  have hin := M.2.2.2.1
  have hK := M.2.2.2.2.1
  have hN := M.2.2.2.2.2
  have hS : va_S A s.heap s.heap [] := va_S.rf
  refine lv_aload_n hx hb dX3_init_0 rfl (lv_at hl 0 rfl) ?_
  refine kO (b0 := h0) M.1 w_131 hl.1 (Nat.le_of_ble_eq_true rfl) (Nat.le_of_ble_eq_true rfl) dX3_init_1 ?_
  refine lv_aload_n hx hb dX3_init_4 rfl (lv_at hl 0 rfl) ?_
  refine lv_bipush (v := 40) hx hb dX3_init_5 (by decide) ?_
  refine nA_i hx hb (hts _ w_47) hK hP hD hS hA 40 (by decide) rfl (Nat.le_of_ble_eq_true rfl) (Nat.le_of_ble_eq_true rfl) (Nat.le_of_ble_eq_true rfl) dX3_init_7 (fun q1 H hP hD hS => ?_)
  have hP : va_P (gD G) vwCl [(h0, .inr (3, [.null, .int 0, .int 0])), (q1, aI G 40 z0)] H := hP
  have hD : va_D A [(h0, .inr (3, [.null, .int 0, .int 0])), (q1, aI G 40 z0)] := hD
  refine W.widen (k := 1) (n := 40) (Nat.le_of_ble_eq_true rfl) (Nat.le_of_ble_eq_true rfl) ?_
  refine va_putF (D := gD G) (ci := 3) (v := .ref q1) (ty := .array .int) (C := RX3) (T := TX3) (N := 3) hx hb hts inT_3 tyX3 tyX3_ok nmX3 hown hK hP hD hS 0 rfl rfl 0 (by decide) (hts (.fieldLink RX3 9 "FogSchool$Sheet" "numbers" "[I") w_132) (fun _ h9 => h9) rfl hin rfl (by decide +kernel) rfl rfl (Nat.le_of_ble_eq_true rfl) dX3_init_9 (fun H locs hP hD hS => ?_)
  have hP : va_P (gD G) vwCl [(h0, .inr (3, [.ref q1, .int 0, .int 0])), (q1, aI G 40 z0)] H := hP
  have hD : va_D A [(h0, .inr (3, [.ref q1, .int 0, .int 0])), (q1, aI G 40 z0)] := hD
  refine lv_aload_n hx hb dX3_init_12 rfl (lv_at hl 0 rfl) ?_
  refine lv_iconst (v := 0) hx hb dX3_init_13 (by decide) ?_
  refine va_put (D := gD G) (ci := 3) (v := .int 0) (ty := .int) (C := RX3) (T := TX3) (N := 3) hx hb hts inT_3 tyX3 tyX3_ok nmX3 hown hK hP hD hS 0 rfl rfl 1 (by decide) (hts (.fieldLink RX3 13 "FogSchool$Sheet" "bits" "I") w_134) (fun _ h9 => h9) rfl (by decide +kernel) rfl rfl (Nat.le_of_ble_eq_true rfl) dX3_init_14 (fun H locs hP hD hS => ?_)
  have hP : va_P (gD G) vwCl [(h0, .inr (3, [.ref q1, .int 0, .int 0])), (q1, aI G 40 z0)] H := hP
  have hD : va_D A [(h0, .inr (3, [.ref q1, .int 0, .int 0])), (q1, aI G 40 z0)] := hD
  refine lv_aload_n hx hb dX3_init_17 rfl (lv_at hl 0 rfl) ?_
  refine lv_iconst (v := 0) hx hb dX3_init_18 (by decide) ?_
  refine va_put (D := gD G) (ci := 3) (v := .int 0) (ty := .int) (C := RX3) (T := TX3) (N := 3) hx hb hts inT_3 tyX3 tyX3_ok nmX3 hown hK hP hD hS 0 rfl rfl 2 (by decide) (hts (.fieldLink RX3 17 "FogSchool$Sheet" "size" "I") w_136) (fun _ h9 => h9) rfl (by decide +kernel) rfl rfl (Nat.le_of_ble_eq_true rfl) dX3_init_19 (fun H locs hP hD hS => ?_)
  have hP : va_P (gD G) vwCl [(h0, .inr (3, [.ref q1, .int 0, .int 0])), (q1, aI G 40 z0)] H := hP
  have hD : va_D A [(h0, .inr (3, [.ref q1, .int 0, .int 0])), (q1, aI G 40 z0)] := hD
  exact retN M q1 trivial hP hD hS dX3_init_22
set_option maxHeartbeats 8000000 in
set_option maxRecDepth 100000 in
theorem c_X4_init (l : Launch) (G : GG) (h0 sz : Nat) : Met l yX4_init (cdW yX4_init cX4_init 1 none) ({ frames := 1, cells := 1, slots := 120, locals := 12 } : Room) (PN G h0 (.inr (4, [.null, .int 0, .int 0, .int 0, .int 0, .int 0])) sz (fun _ => True)) (QN G h0 (.inr (4, [.null, .int 0, .int 0, .int 0, .int 0, .int 0])) sz (fun _ : Nat => True) (fun u => [(h0, .inr (4, [.ref u, .int 0, .int 0, .int 0, .int 0, .int 0])), (u, aB G 120 z0)])) 1 120 (va_A [(h0, .inr (4, [.null, .int 0, .int 0, .int 0, .int 0, .int 0]))] sz) := by
  refine met_new RX4 (by decide) rfl rfl (by decide) ?_
  intro p e s m below meth c A M hE hAe hA hP hD ls hl
  have hx := M.1.1
  have hb := M.1.2.1
  have hown := M.1.2.2.2.1
  have hts := M.1.2.2.2.2
  have hin := M.2.2.2.1
  have hK := M.2.2.2.2.1
  have hN := M.2.2.2.2.2
  have hS : va_S A s.heap s.heap [] := va_S.rf
  refine lv_aload_n hx hb dX4_init_0 rfl (lv_at hl 0 rfl) ?_
  refine kO (b0 := h0) M.1 w_103 hl.1 (Nat.le_of_ble_eq_true rfl) (Nat.le_of_ble_eq_true rfl) dX4_init_1 ?_
  refine lv_aload_n hx hb dX4_init_4 rfl (lv_at hl 0 rfl) ?_
  refine lv_bipush (v := 120) hx hb dX4_init_5 (by decide) ?_
  refine nA_b hx hb (hts _ w_124) hK hP hD hS hA 120 (by decide) rfl (Nat.le_of_ble_eq_true rfl) (Nat.le_of_ble_eq_true rfl) (Nat.le_of_ble_eq_true rfl) dX4_init_7 (fun q1 H hP hD hS => ?_)
  have hP : va_P (gD G) vwCl [(h0, .inr (4, [.null, .int 0, .int 0, .int 0, .int 0, .int 0])), (q1, aB G 120 z0)] H := hP
  have hD : va_D A [(h0, .inr (4, [.null, .int 0, .int 0, .int 0, .int 0, .int 0])), (q1, aB G 120 z0)] := hD
  refine W.widen (k := 1) (n := 120) (Nat.le_of_ble_eq_true rfl) (Nat.le_of_ble_eq_true rfl) ?_
  refine va_putF (D := gD G) (ci := 4) (v := .ref q1) (ty := .array .byte) (C := RX4) (T := TX4) (N := 6) hx hb hts inT_4 tyX4 tyX4_ok nmX4 hown hK hP hD hS 0 rfl rfl 0 (by decide) (hts (.fieldLink RX4 11 "FogSchool$Tape" "bytes" "[B") w_104) (fun _ h9 => h9) rfl hin rfl (by decide +kernel) rfl rfl (Nat.le_of_ble_eq_true rfl) dX4_init_9 (fun H locs hP hD hS => ?_)
  have hP : va_P (gD G) vwCl [(h0, .inr (4, [.ref q1, .int 0, .int 0, .int 0, .int 0, .int 0])), (q1, aB G 120 z0)] H := hP
  have hD : va_D A [(h0, .inr (4, [.ref q1, .int 0, .int 0, .int 0, .int 0, .int 0])), (q1, aB G 120 z0)] := hD
  refine lv_aload_n hx hb dX4_init_12 rfl (lv_at hl 0 rfl) ?_
  refine lv_iconst (v := 0) hx hb dX4_init_13 (by decide) ?_
  refine va_put (D := gD G) (ci := 4) (v := .int 0) (ty := .int) (C := RX4) (T := TX4) (N := 6) hx hb hts inT_4 tyX4 tyX4_ok nmX4 hown hK hP hD hS 0 rfl rfl 1 (by decide) (hts (.fieldLink RX4 15 "FogSchool$Tape" "size" "I") w_105) (fun _ h9 => h9) rfl (by decide +kernel) rfl rfl (Nat.le_of_ble_eq_true rfl) dX4_init_14 (fun H locs hP hD hS => ?_)
  have hP : va_P (gD G) vwCl [(h0, .inr (4, [.ref q1, .int 0, .int 0, .int 0, .int 0, .int 0])), (q1, aB G 120 z0)] H := hP
  have hD : va_D A [(h0, .inr (4, [.ref q1, .int 0, .int 0, .int 0, .int 0, .int 0])), (q1, aB G 120 z0)] := hD
  refine lv_aload_n hx hb dX4_init_17 rfl (lv_at hl 0 rfl) ?_
  refine lv_iconst (v := 0) hx hb dX4_init_18 (by decide) ?_
  refine va_put (D := gD G) (ci := 4) (v := .int 0) (ty := .int) (C := RX4) (T := TX4) (N := 6) hx hb hts inT_4 tyX4 tyX4_ok nmX4 hown hK hP hD hS 0 rfl rfl 2 (by decide) (hts (.fieldLink RX4 19 "FogSchool$Tape" "token" "I") w_107) (fun _ h9 => h9) rfl (by decide +kernel) rfl rfl (Nat.le_of_ble_eq_true rfl) dX4_init_19 (fun H locs hP hD hS => ?_)
  have hP : va_P (gD G) vwCl [(h0, .inr (4, [.ref q1, .int 0, .int 0, .int 0, .int 0, .int 0])), (q1, aB G 120 z0)] H := hP
  have hD : va_D A [(h0, .inr (4, [.ref q1, .int 0, .int 0, .int 0, .int 0, .int 0])), (q1, aB G 120 z0)] := hD
  refine lv_aload_n hx hb dX4_init_22 rfl (lv_at hl 0 rfl) ?_
  refine lv_iconst (v := 0) hx hb dX4_init_23 (by decide) ?_
  refine va_put (D := gD G) (ci := 4) (v := .int 0) (ty := .int) (C := RX4) (T := TX4) (N := 6) hx hb hts inT_4 tyX4 tyX4_ok nmX4 hown hK hP hD hS 0 rfl rfl 3 (by decide) (hts (.fieldLink RX4 22 "FogSchool$Tape" "begin" "I") w_108) (fun _ h9 => h9) rfl (by decide +kernel) rfl rfl (Nat.le_of_ble_eq_true rfl) dX4_init_24 (fun H locs hP hD hS => ?_)
  have hP : va_P (gD G) vwCl [(h0, .inr (4, [.ref q1, .int 0, .int 0, .int 0, .int 0, .int 0])), (q1, aB G 120 z0)] H := hP
  have hD : va_D A [(h0, .inr (4, [.ref q1, .int 0, .int 0, .int 0, .int 0, .int 0])), (q1, aB G 120 z0)] := hD
  refine lv_aload_n hx hb dX4_init_27 rfl (lv_at hl 0 rfl) ?_
  refine lv_iconst (v := 0) hx hb dX4_init_28 (by decide) ?_
  refine va_put (D := gD G) (ci := 4) (v := .int 0) (ty := .int) (C := RX4) (T := TX4) (N := 6) hx hb hts inT_4 tyX4 tyX4_ok nmX4 hown hK hP hD hS 0 rfl rfl 4 (by decide) (hts (.fieldLink RX4 25 "FogSchool$Tape" "behind" "I") w_109) (fun _ h9 => h9) rfl (by decide +kernel) rfl rfl (Nat.le_of_ble_eq_true rfl) dX4_init_29 (fun H locs hP hD hS => ?_)
  have hP : va_P (gD G) vwCl [(h0, .inr (4, [.ref q1, .int 0, .int 0, .int 0, .int 0, .int 0])), (q1, aB G 120 z0)] H := hP
  have hD : va_D A [(h0, .inr (4, [.ref q1, .int 0, .int 0, .int 0, .int 0, .int 0])), (q1, aB G 120 z0)] := hD
  refine lv_aload_n hx hb dX4_init_32 rfl (lv_at hl 0 rfl) ?_
  refine lv_iconst (v := 0) hx hb dX4_init_33 (by decide) ?_
  refine va_put (D := gD G) (ci := 4) (v := .int 0) (ty := .int) (C := RX4) (T := TX4) (N := 6) hx hb hts inT_4 tyX4 tyX4_ok nmX4 hown hK hP hD hS 0 rfl rfl 5 (by decide) (hts (.fieldLink RX4 28 "FogSchool$Tape" "number" "I") w_110) (fun _ h9 => h9) rfl (by decide +kernel) rfl rfl (Nat.le_of_ble_eq_true rfl) dX4_init_34 (fun H locs hP hD hS => ?_)
  have hP : va_P (gD G) vwCl [(h0, .inr (4, [.ref q1, .int 0, .int 0, .int 0, .int 0, .int 0])), (q1, aB G 120 z0)] H := hP
  have hD : va_D A [(h0, .inr (4, [.ref q1, .int 0, .int 0, .int 0, .int 0, .int 0])), (q1, aB G 120 z0)] := hD
  exact retN M q1 trivial hP hD hS dX4_init_37
