/-- what the reference's constructor asks of the String constants -/
def EX (G : GG) (h0 : Nat) (U : State) : Prop := (∀ (k : Nat) (q : String × Nat × String × Nat), strL[k]? = some q → vk_R q.1 q.2.1 q.2.2.1 (sk G q.2.2.2) U) ∧ vk_S 15 lenS bytS (sk G) (sv G) (va_A [(h0, .inr (6, [.null, .null, .null, .int 0, .null, .null, .int 0, .int 0, .int 0, .int 0, .int 0, .int 0, .null, .null, .int 0, .int 0, .int 0, .null, .null, .null, .null]))] U.heap.size) U U.heap
def mN : Nat → Int32 := upd (upd (upd (upd (upd (upd (upd (upd (upd (upd (upd (z0) 2 1) 10 (-1)) 11 (-1)) 12 (-1)) 13 (-1)) 14 (-1)) 15 (-1)) 16 (-1)) 17 (-1)) 18 (-1)) 19 (-1)
/-- a new reference's cells, by their places -/
def mW (G : GG) (w : Nat → Nat) : va_W := [(w 0, .inr (6, [.ref (w 1), .ref (w 2), .ref (w 3), .int 0, .ref (w 4), .ref (w 5), .int 0, .int 0, .int 0, .int 0, .int 0, .int 0, .ref (w 11), .ref (w 6), .int 0, .int 0, .int 0, .ref (w 7), .ref (w 8), .ref (w 9), .ref (w 10)])), (w 1, aI G 92 mN), (w 2, aI G 92 z0), (w 3, aI G 92 z0), (w 4, aI G 8 z0), (w 5, aI G 120 z0), (w 6, aI G 600 z0), (w 7, aI G 4 z0), (w 8, aI G 4 z0), (w 9, aI G 160 z0), (w 10, aI G 40 z0), (w 11, aQ G 12 7 (fun j => some (sk G j)))]
set_option maxHeartbeats 8000000 in
set_option maxRecDepth 100000 in
theorem c_X6_init (l : Launch) (G : GG) (h0 sz : Nat) : Met l yX6_init (cdW yX6_init cX6_init 2 none) ({ frames := 1, cells := 11, slots := 1219, locals := 12 } : Room) (PN G h0 (.inr (6, [.null, .null, .null, .int 0, .null, .null, .int 0, .int 0, .int 0, .int 0, .int 0, .int 0, .null, .null, .int 0, .int 0, .int 0, .null, .null, .null, .null])) sz (EX G h0)) (QN G h0 (.inr (6, [.null, .null, .null, .int 0, .null, .null, .int 0, .int 0, .int 0, .int 0, .int 0, .int 0, .null, .null, .int 0, .int 0, .int 0, .null, .null, .null, .null])) sz (fun u : Nat → Nat => u 0 = h0) (fun u => mW G u)) 11 1219 (va_A [(h0, .inr (6, [.null, .null, .null, .int 0, .null, .null, .int 0, .int 0, .int 0, .int 0, .int 0, .int 0, .null, .null, .int 0, .int 0, .int 0, .null, .null, .null, .null]))] sz) := by
  refine met_new RX6 (by decide) rfl rfl (by decide) ?_
  intro p e s m below meth c A M hE hAe hA hP hD ls hl
  have hx := M.1.1
  have hb := M.1.2.1
  have hown := M.1.2.2.2.1
  have hts := M.1.2.2.2.2
  have hin := M.2.2.2.1
  have hK := M.2.2.2.2.1
  have hN := M.2.2.2.2.2
  have hS : va_S A s.heap s.heap [] := va_S.rf
  rw [EX, hAe] at hE
  refine lv_aload_n hx hb dX6_init_0 rfl (lv_at hl 0 rfl) ?_
  refine kO (b0 := h0) M.1 w_697 hl.1 (Nat.le_of_ble_eq_true rfl) (Nat.le_of_ble_eq_true rfl) dX6_init_1 ?_
  refine lv_aload_n hx hb dX6_init_4 rfl (lv_at hl 0 rfl) ?_
  refine lv_bipush (v := 92) hx hb dX6_init_5 (by decide) ?_
  refine nA_i hx hb (hts _ w_47) hK hP hD hS hA 92 (by decide) rfl (Nat.le_of_ble_eq_true rfl) (Nat.le_of_ble_eq_true rfl) (Nat.le_of_ble_eq_true rfl) dX6_init_7 (fun q1 H hP hD hS => ?_)
  have hP : va_P (gD G) vwCl [(h0, .inr (6, [.null, .null, .null, .int 0, .null, .null, .int 0, .int 0, .int 0, .int 0, .int 0, .int 0, .null, .null, .int 0, .int 0, .int 0, .null, .null, .null, .null])), (q1, aI G 92 z0)] H := hP
  have hD : va_D A [(h0, .inr (6, [.null, .null, .null, .int 0, .null, .null, .int 0, .int 0, .int 0, .int 0, .int 0, .int 0, .null, .null, .int 0, .int 0, .int 0, .null, .null, .null, .null])), (q1, aI G 92 z0)] := hD
  refine W.widen (k := 1) (n := 92) (Nat.le_of_ble_eq_true rfl) (Nat.le_of_ble_eq_true rfl) ?_
  refine va_putF (D := gD G) (ci := 6) (v := .ref q1) (ty := .array .int) (C := RX6) (T := TX6) (N := 21) hx hb hts inT_6 tyX6 tyX6_ok nmX6 hown hK hP hD hS 0 rfl rfl 0 (by decide) (hts (.fieldLink RX6 9 "FogSchoolModel" "now" "[I") w_707) (fun _ h9 => h9) rfl hin rfl (by decide +kernel) rfl rfl (Nat.le_of_ble_eq_true rfl) dX6_init_9 (fun H locs hP hD hS => ?_)
  have hP : va_P (gD G) vwCl [(h0, .inr (6, [.ref q1, .null, .null, .int 0, .null, .null, .int 0, .int 0, .int 0, .int 0, .int 0, .int 0, .null, .null, .int 0, .int 0, .int 0, .null, .null, .null, .null])), (q1, aI G 92 z0)] H := hP
  have hD : va_D A [(h0, .inr (6, [.ref q1, .null, .null, .int 0, .null, .null, .int 0, .int 0, .int 0, .int 0, .int 0, .int 0, .null, .null, .int 0, .int 0, .int 0, .null, .null, .null, .null])), (q1, aI G 92 z0)] := hD
  refine lv_aload_n hx hb dX6_init_12 rfl (lv_at hl 0 rfl) ?_
  refine lv_bipush (v := 92) hx hb dX6_init_13 (by decide) ?_
  refine nA_i hx hb (hts _ w_47) hK hP hD hS hA 92 (by decide) rfl (Nat.le_of_ble_eq_true rfl) (Nat.le_of_ble_eq_true rfl) (Nat.le_of_ble_eq_true rfl) dX6_init_15 (fun q2 H hP hD hS => ?_)
  have hP : va_P (gD G) vwCl [(h0, .inr (6, [.ref q1, .null, .null, .int 0, .null, .null, .int 0, .int 0, .int 0, .int 0, .int 0, .int 0, .null, .null, .int 0, .int 0, .int 0, .null, .null, .null, .null])), (q1, aI G 92 z0), (q2, aI G 92 z0)] H := hP
  have hD : va_D A [(h0, .inr (6, [.ref q1, .null, .null, .int 0, .null, .null, .int 0, .int 0, .int 0, .int 0, .int 0, .int 0, .null, .null, .int 0, .int 0, .int 0, .null, .null, .null, .null])), (q1, aI G 92 z0), (q2, aI G 92 z0)] := hD
  refine W.widen (k := 2) (n := 184) (Nat.le_of_ble_eq_true rfl) (Nat.le_of_ble_eq_true rfl) ?_
  refine va_putF (D := gD G) (ci := 6) (v := .ref q2) (ty := .array .int) (C := RX6) (T := TX6) (N := 21) hx hb hts inT_6 tyX6 tyX6_ok nmX6 hown hK hP hD hS 0 rfl rfl 1 (by decide) (hts (.fieldLink RX6 13 "FogSchoolModel" "kept" "[I") w_708) (fun _ h9 => h9) rfl hin rfl (by decide +kernel) rfl rfl (Nat.le_of_ble_eq_true rfl) dX6_init_17 (fun H locs hP hD hS => ?_)
  have hP : va_P (gD G) vwCl [(h0, .inr (6, [.ref q1, .ref q2, .null, .int 0, .null, .null, .int 0, .int 0, .int 0, .int 0, .int 0, .int 0, .null, .null, .int 0, .int 0, .int 0, .null, .null, .null, .null])), (q1, aI G 92 z0), (q2, aI G 92 z0)] H := hP
  have hD : va_D A [(h0, .inr (6, [.ref q1, .ref q2, .null, .int 0, .null, .null, .int 0, .int 0, .int 0, .int 0, .int 0, .int 0, .null, .null, .int 0, .int 0, .int 0, .null, .null, .null, .null])), (q1, aI G 92 z0), (q2, aI G 92 z0)] := hD
  refine lv_aload_n hx hb dX6_init_20 rfl (lv_at hl 0 rfl) ?_
  refine lv_bipush (v := 92) hx hb dX6_init_21 (by decide) ?_
  refine nA_i hx hb (hts _ w_47) hK hP hD hS hA 92 (by decide) rfl (Nat.le_of_ble_eq_true rfl) (Nat.le_of_ble_eq_true rfl) (Nat.le_of_ble_eq_true rfl) dX6_init_23 (fun q3 H hP hD hS => ?_)
  have hP : va_P (gD G) vwCl [(h0, .inr (6, [.ref q1, .ref q2, .null, .int 0, .null, .null, .int 0, .int 0, .int 0, .int 0, .int 0, .int 0, .null, .null, .int 0, .int 0, .int 0, .null, .null, .null, .null])), (q1, aI G 92 z0), (q2, aI G 92 z0), (q3, aI G 92 z0)] H := hP
  have hD : va_D A [(h0, .inr (6, [.ref q1, .ref q2, .null, .int 0, .null, .null, .int 0, .int 0, .int 0, .int 0, .int 0, .int 0, .null, .null, .int 0, .int 0, .int 0, .null, .null, .null, .null])), (q1, aI G 92 z0), (q2, aI G 92 z0), (q3, aI G 92 z0)] := hD
  refine W.widen (k := 3) (n := 276) (Nat.le_of_ble_eq_true rfl) (Nat.le_of_ble_eq_true rfl) ?_
  refine va_putF (D := gD G) (ci := 6) (v := .ref q3) (ty := .array .int) (C := RX6) (T := TX6) (N := 21) hx hb hts inT_6 tyX6 tyX6_ok nmX6 hown hK hP hD hS 0 rfl rfl 2 (by decide) (hts (.fieldLink RX6 16 "FogSchoolModel" "aside" "[I") w_709) (fun _ h9 => h9) rfl hin rfl (by decide +kernel) rfl rfl (Nat.le_of_ble_eq_true rfl) dX6_init_25 (fun H locs hP hD hS => ?_)
  have hP : va_P (gD G) vwCl [(h0, .inr (6, [.ref q1, .ref q2, .ref q3, .int 0, .null, .null, .int 0, .int 0, .int 0, .int 0, .int 0, .int 0, .null, .null, .int 0, .int 0, .int 0, .null, .null, .null, .null])), (q1, aI G 92 z0), (q2, aI G 92 z0), (q3, aI G 92 z0)] H := hP
  have hD : va_D A [(h0, .inr (6, [.ref q1, .ref q2, .ref q3, .int 0, .null, .null, .int 0, .int 0, .int 0, .int 0, .int 0, .int 0, .null, .null, .int 0, .int 0, .int 0, .null, .null, .null, .null])), (q1, aI G 92 z0), (q2, aI G 92 z0), (q3, aI G 92 z0)] := hD
  refine lv_aload_n hx hb dX6_init_28 rfl (lv_at hl 0 rfl) ?_
  refine lv_bipush (v := 8) hx hb dX6_init_29 (by decide) ?_
  refine nA_i hx hb (hts _ w_47) hK hP hD hS hA 8 (by decide) rfl (Nat.le_of_ble_eq_true rfl) (Nat.le_of_ble_eq_true rfl) (Nat.le_of_ble_eq_true rfl) dX6_init_31 (fun q4 H hP hD hS => ?_)
  have hP : va_P (gD G) vwCl [(h0, .inr (6, [.ref q1, .ref q2, .ref q3, .int 0, .null, .null, .int 0, .int 0, .int 0, .int 0, .int 0, .int 0, .null, .null, .int 0, .int 0, .int 0, .null, .null, .null, .null])), (q1, aI G 92 z0), (q2, aI G 92 z0), (q3, aI G 92 z0), (q4, aI G 8 z0)] H := hP
  have hD : va_D A [(h0, .inr (6, [.ref q1, .ref q2, .ref q3, .int 0, .null, .null, .int 0, .int 0, .int 0, .int 0, .int 0, .int 0, .null, .null, .int 0, .int 0, .int 0, .null, .null, .null, .null])), (q1, aI G 92 z0), (q2, aI G 92 z0), (q3, aI G 92 z0), (q4, aI G 8 z0)] := hD
  refine W.widen (k := 4) (n := 284) (Nat.le_of_ble_eq_true rfl) (Nat.le_of_ble_eq_true rfl) ?_
  refine va_putF (D := gD G) (ci := 6) (v := .ref q4) (ty := .array .int) (C := RX6) (T := TX6) (N := 21) hx hb hts inT_6 tyX6 tyX6_ok nmX6 hown hK hP hD hS 0 rfl rfl 4 (by decide) (hts (.fieldLink RX6 19 "FogSchoolModel" "found" "[I") w_711) (fun _ h9 => h9) rfl hin rfl (by decide +kernel) rfl rfl (Nat.le_of_ble_eq_true rfl) dX6_init_33 (fun H locs hP hD hS => ?_)
  have hP : va_P (gD G) vwCl [(h0, .inr (6, [.ref q1, .ref q2, .ref q3, .int 0, .ref q4, .null, .int 0, .int 0, .int 0, .int 0, .int 0, .int 0, .null, .null, .int 0, .int 0, .int 0, .null, .null, .null, .null])), (q1, aI G 92 z0), (q2, aI G 92 z0), (q3, aI G 92 z0), (q4, aI G 8 z0)] H := hP
  have hD : va_D A [(h0, .inr (6, [.ref q1, .ref q2, .ref q3, .int 0, .ref q4, .null, .int 0, .int 0, .int 0, .int 0, .int 0, .int 0, .null, .null, .int 0, .int 0, .int 0, .null, .null, .null, .null])), (q1, aI G 92 z0), (q2, aI G 92 z0), (q3, aI G 92 z0), (q4, aI G 8 z0)] := hD
  refine lv_aload_n hx hb dX6_init_36 rfl (lv_at hl 0 rfl) ?_
  refine lv_bipush (v := 120) hx hb dX6_init_37 (by decide) ?_
  refine nA_i hx hb (hts _ w_47) hK hP hD hS hA 120 (by decide) rfl (Nat.le_of_ble_eq_true rfl) (Nat.le_of_ble_eq_true rfl) (Nat.le_of_ble_eq_true rfl) dX6_init_39 (fun q5 H hP hD hS => ?_)
  have hP : va_P (gD G) vwCl [(h0, .inr (6, [.ref q1, .ref q2, .ref q3, .int 0, .ref q4, .null, .int 0, .int 0, .int 0, .int 0, .int 0, .int 0, .null, .null, .int 0, .int 0, .int 0, .null, .null, .null, .null])), (q1, aI G 92 z0), (q2, aI G 92 z0), (q3, aI G 92 z0), (q4, aI G 8 z0), (q5, aI G 120 z0)] H := hP
  have hD : va_D A [(h0, .inr (6, [.ref q1, .ref q2, .ref q3, .int 0, .ref q4, .null, .int 0, .int 0, .int 0, .int 0, .int 0, .int 0, .null, .null, .int 0, .int 0, .int 0, .null, .null, .null, .null])), (q1, aI G 92 z0), (q2, aI G 92 z0), (q3, aI G 92 z0), (q4, aI G 8 z0), (q5, aI G 120 z0)] := hD
  refine W.widen (k := 5) (n := 404) (Nat.le_of_ble_eq_true rfl) (Nat.le_of_ble_eq_true rfl) ?_
  refine va_putF (D := gD G) (ci := 6) (v := .ref q5) (ty := .array .int) (C := RX6) (T := TX6) (N := 21) hx hb hts inT_6 tyX6 tyX6_ok nmX6 hown hK hP hD hS 0 rfl rfl 5 (by decide) (hts (.fieldLink RX6 22 "FogSchoolModel" "tape" "[I") w_712) (fun _ h9 => h9) rfl hin rfl (by decide +kernel) rfl rfl (Nat.le_of_ble_eq_true rfl) dX6_init_41 (fun H locs hP hD hS => ?_)
  have hP : va_P (gD G) vwCl [(h0, .inr (6, [.ref q1, .ref q2, .ref q3, .int 0, .ref q4, .ref q5, .int 0, .int 0, .int 0, .int 0, .int 0, .int 0, .null, .null, .int 0, .int 0, .int 0, .null, .null, .null, .null])), (q1, aI G 92 z0), (q2, aI G 92 z0), (q3, aI G 92 z0), (q4, aI G 8 z0), (q5, aI G 120 z0)] H := hP
  have hD : va_D A [(h0, .inr (6, [.ref q1, .ref q2, .ref q3, .int 0, .ref q4, .ref q5, .int 0, .int 0, .int 0, .int 0, .int 0, .int 0, .null, .null, .int 0, .int 0, .int 0, .null, .null, .null, .null])), (q1, aI G 92 z0), (q2, aI G 92 z0), (q3, aI G 92 z0), (q4, aI G 8 z0), (q5, aI G 120 z0)] := hD
  refine lv_aload_n hx hb dX6_init_44 rfl (lv_at hl 0 rfl) ?_
  refine lv_bipush (v := 7) hx hb dX6_init_45 (by decide) ?_
  refine nA_q (own := RX6) hx hb hown 5 12 rfl (hts _ w_698) hN.2.2.2 hK hP hD hS hA 7 (by decide) rfl (Nat.le_of_ble_eq_true rfl) (Nat.le_of_ble_eq_true rfl) (Nat.le_of_ble_eq_true rfl) dX6_init_47 (fun q6 H hP hD hS => ?_)
  have hP : va_P (gD G) vwCl [(h0, .inr (6, [.ref q1, .ref q2, .ref q3, .int 0, .ref q4, .ref q5, .int 0, .int 0, .int 0, .int 0, .int 0, .int 0, .null, .null, .int 0, .int 0, .int 0, .null, .null, .null, .null])), (q1, aI G 92 z0), (q2, aI G 92 z0), (q3, aI G 92 z0), (q4, aI G 8 z0), (q5, aI G 120 z0), (q6, aQ G 12 7 n0)] H := hP
  have hD : va_D A [(h0, .inr (6, [.ref q1, .ref q2, .ref q3, .int 0, .ref q4, .ref q5, .int 0, .int 0, .int 0, .int 0, .int 0, .int 0, .null, .null, .int 0, .int 0, .int 0, .null, .null, .null, .null])), (q1, aI G 92 z0), (q2, aI G 92 z0), (q3, aI G 92 z0), (q4, aI G 8 z0), (q5, aI G 120 z0), (q6, aQ G 12 7 n0)] := hD
  refine W.widen (k := 6) (n := 411) (Nat.le_of_ble_eq_true rfl) (Nat.le_of_ble_eq_true rfl) ?_
  refine lv_dup hx hb dX6_init_50 rfl ?_
  refine lv_iconst (v := 0) hx hb dX6_init_51 (by decide) ?_
  refine va_ldcS (own := RX6) (tx := "keeper") (q := sk G 0) hx hb hown (show vk_R RX6 27 "keeper" (sk G 0) s from hE.1 15 _ rfl) dX6_init_52 ?_
  refine sA_s hx hb hK hP hD hS hE.2 6 0 (by decide) rfl 0 rfl (in_c rfl) dX6_init_54 (fun H locs f7 hf7 hP hD hS => ?_)
  have hP : va_P (gD G) vwCl [(h0, .inr (6, [.ref q1, .ref q2, .ref q3, .int 0, .ref q4, .ref q5, .int 0, .int 0, .int 0, .int 0, .int 0, .int 0, .null, .null, .int 0, .int 0, .int 0, .null, .null, .null, .null])), (q1, aI G 92 z0), (q2, aI G 92 z0), (q3, aI G 92 z0), (q4, aI G 8 z0), (q5, aI G 120 z0), (q6, aQ G 12 7 f7)] H := hP
  have hD : va_D A [(h0, .inr (6, [.ref q1, .ref q2, .ref q3, .int 0, .ref q4, .ref q5, .int 0, .int 0, .int 0, .int 0, .int 0, .int 0, .null, .null, .int 0, .int 0, .int 0, .null, .null, .null, .null])), (q1, aI G 92 z0), (q2, aI G 92 z0), (q3, aI G 92 z0), (q4, aI G 8 z0), (q5, aI G 120 z0), (q6, aQ G 12 7 f7)] := hD
  refine lv_dup hx hb dX6_init_55 rfl ?_
  refine lv_iconst (v := 1) hx hb dX6_init_56 (by decide) ?_
  refine va_ldcS (own := RX6) (tx := "head") (q := sk G 1) hx hb hown (show vk_R RX6 29 "head" (sk G 1) s from hE.1 16 _ rfl) dX6_init_57 ?_
  refine sA_s hx hb hK hP hD hS hE.2 6 1 (by decide) rfl 1 rfl (in_c rfl) dX6_init_59 (fun H locs f8 hf8 hP hD hS => ?_)
  have hP : va_P (gD G) vwCl [(h0, .inr (6, [.ref q1, .ref q2, .ref q3, .int 0, .ref q4, .ref q5, .int 0, .int 0, .int 0, .int 0, .int 0, .int 0, .null, .null, .int 0, .int 0, .int 0, .null, .null, .null, .null])), (q1, aI G 92 z0), (q2, aI G 92 z0), (q3, aI G 92 z0), (q4, aI G 8 z0), (q5, aI G 120 z0), (q6, aQ G 12 7 f8)] H := hP
  have hD : va_D A [(h0, .inr (6, [.ref q1, .ref q2, .ref q3, .int 0, .ref q4, .ref q5, .int 0, .int 0, .int 0, .int 0, .int 0, .int 0, .null, .null, .int 0, .int 0, .int 0, .null, .null, .null, .null])), (q1, aI G 92 z0), (q2, aI G 92 z0), (q3, aI G 92 z0), (q4, aI G 8 z0), (q5, aI G 120 z0), (q6, aQ G 12 7 f8)] := hD
  refine lv_dup hx hb dX6_init_60 rfl ?_
  refine lv_iconst (v := 2) hx hb dX6_init_61 (by decide) ?_
  refine va_ldcS (own := RX6) (tx := "drunk") (q := sk G 2) hx hb hown (show vk_R RX6 31 "drunk" (sk G 2) s from hE.1 17 _ rfl) dX6_init_62 ?_
  refine sA_s hx hb hK hP hD hS hE.2 6 2 (by decide) rfl 2 rfl (in_c rfl) dX6_init_64 (fun H locs f9 hf9 hP hD hS => ?_)
  have hP : va_P (gD G) vwCl [(h0, .inr (6, [.ref q1, .ref q2, .ref q3, .int 0, .ref q4, .ref q5, .int 0, .int 0, .int 0, .int 0, .int 0, .int 0, .null, .null, .int 0, .int 0, .int 0, .null, .null, .null, .null])), (q1, aI G 92 z0), (q2, aI G 92 z0), (q3, aI G 92 z0), (q4, aI G 8 z0), (q5, aI G 120 z0), (q6, aQ G 12 7 f9)] H := hP
  have hD : va_D A [(h0, .inr (6, [.ref q1, .ref q2, .ref q3, .int 0, .ref q4, .ref q5, .int 0, .int 0, .int 0, .int 0, .int 0, .int 0, .null, .null, .int 0, .int 0, .int 0, .null, .null, .null, .null])), (q1, aI G 92 z0), (q2, aI G 92 z0), (q3, aI G 92 z0), (q4, aI G 8 z0), (q5, aI G 120 z0), (q6, aQ G 12 7 f9)] := hD
  refine lv_dup hx hb dX6_init_65 rfl ?_
  refine lv_iconst (v := 3) hx hb dX6_init_66 (by decide) ?_
  refine va_ldcS (own := RX6) (tx := "poet") (q := sk G 3) hx hb hown (show vk_R RX6 33 "poet" (sk G 3) s from hE.1 18 _ rfl) dX6_init_67 ?_
  refine sA_s hx hb hK hP hD hS hE.2 6 3 (by decide) rfl 3 rfl (in_c rfl) dX6_init_69 (fun H locs f10 hf10 hP hD hS => ?_)
  have hP : va_P (gD G) vwCl [(h0, .inr (6, [.ref q1, .ref q2, .ref q3, .int 0, .ref q4, .ref q5, .int 0, .int 0, .int 0, .int 0, .int 0, .int 0, .null, .null, .int 0, .int 0, .int 0, .null, .null, .null, .null])), (q1, aI G 92 z0), (q2, aI G 92 z0), (q3, aI G 92 z0), (q4, aI G 8 z0), (q5, aI G 120 z0), (q6, aQ G 12 7 f10)] H := hP
  have hD : va_D A [(h0, .inr (6, [.ref q1, .ref q2, .ref q3, .int 0, .ref q4, .ref q5, .int 0, .int 0, .int 0, .int 0, .int 0, .int 0, .null, .null, .int 0, .int 0, .int 0, .null, .null, .null, .null])), (q1, aI G 92 z0), (q2, aI G 92 z0), (q3, aI G 92 z0), (q4, aI G 8 z0), (q5, aI G 120 z0), (q6, aQ G 12 7 f10)] := hD
  refine lv_dup hx hb dX6_init_70 rfl ?_
  refine lv_iconst (v := 4) hx hb dX6_init_71 (by decide) ?_
  refine va_ldcS (own := RX6) (tx := "hum") (q := sk G 4) hx hb hown (show vk_R RX6 35 "hum" (sk G 4) s from hE.1 19 _ rfl) dX6_init_72 ?_
  refine sA_s hx hb hK hP hD hS hE.2 6 4 (by decide) rfl 4 rfl (in_c rfl) dX6_init_74 (fun H locs f11 hf11 hP hD hS => ?_)
  have hP : va_P (gD G) vwCl [(h0, .inr (6, [.ref q1, .ref q2, .ref q3, .int 0, .ref q4, .ref q5, .int 0, .int 0, .int 0, .int 0, .int 0, .int 0, .null, .null, .int 0, .int 0, .int 0, .null, .null, .null, .null])), (q1, aI G 92 z0), (q2, aI G 92 z0), (q3, aI G 92 z0), (q4, aI G 8 z0), (q5, aI G 120 z0), (q6, aQ G 12 7 f11)] H := hP
  have hD : va_D A [(h0, .inr (6, [.ref q1, .ref q2, .ref q3, .int 0, .ref q4, .ref q5, .int 0, .int 0, .int 0, .int 0, .int 0, .int 0, .null, .null, .int 0, .int 0, .int 0, .null, .null, .null, .null])), (q1, aI G 92 z0), (q2, aI G 92 z0), (q3, aI G 92 z0), (q4, aI G 8 z0), (q5, aI G 120 z0), (q6, aQ G 12 7 f11)] := hD
  refine lv_dup hx hb dX6_init_75 rfl ?_
  refine lv_iconst (v := 5) hx hb dX6_init_76 (by decide) ?_
  refine va_ldcS (own := RX6) (tx := "echo") (q := sk G 5) hx hb hown (show vk_R RX6 37 "echo" (sk G 5) s from hE.1 20 _ rfl) dX6_init_77 ?_
  refine sA_s hx hb hK hP hD hS hE.2 6 5 (by decide) rfl 5 rfl (in_c rfl) dX6_init_79 (fun H locs f12 hf12 hP hD hS => ?_)
  have hP : va_P (gD G) vwCl [(h0, .inr (6, [.ref q1, .ref q2, .ref q3, .int 0, .ref q4, .ref q5, .int 0, .int 0, .int 0, .int 0, .int 0, .int 0, .null, .null, .int 0, .int 0, .int 0, .null, .null, .null, .null])), (q1, aI G 92 z0), (q2, aI G 92 z0), (q3, aI G 92 z0), (q4, aI G 8 z0), (q5, aI G 120 z0), (q6, aQ G 12 7 f12)] H := hP
  have hD : va_D A [(h0, .inr (6, [.ref q1, .ref q2, .ref q3, .int 0, .ref q4, .ref q5, .int 0, .int 0, .int 0, .int 0, .int 0, .int 0, .null, .null, .int 0, .int 0, .int 0, .null, .null, .null, .null])), (q1, aI G 92 z0), (q2, aI G 92 z0), (q3, aI G 92 z0), (q4, aI G 8 z0), (q5, aI G 120 z0), (q6, aQ G 12 7 f12)] := hD
  refine lv_dup hx hb dX6_init_80 rfl ?_
  refine lv_bipush (v := 6) hx hb dX6_init_81 (by decide) ?_
  refine va_ldcS (own := RX6) (tx := "elder") (q := sk G 6) hx hb hown (show vk_R RX6 39 "elder" (sk G 6) s from hE.1 21 _ rfl) dX6_init_83 ?_
  refine sA_s hx hb hK hP hD hS hE.2 6 6 (by decide) rfl 6 rfl (in_c rfl) dX6_init_85 (fun H locs f13 hf13 hP hD hS => ?_)
  have hP : va_P (gD G) vwCl [(h0, .inr (6, [.ref q1, .ref q2, .ref q3, .int 0, .ref q4, .ref q5, .int 0, .int 0, .int 0, .int 0, .int 0, .int 0, .null, .null, .int 0, .int 0, .int 0, .null, .null, .null, .null])), (q1, aI G 92 z0), (q2, aI G 92 z0), (q3, aI G 92 z0), (q4, aI G 8 z0), (q5, aI G 120 z0), (q6, aQ G 12 7 f13)] H := hP
  have hD : va_D A [(h0, .inr (6, [.ref q1, .ref q2, .ref q3, .int 0, .ref q4, .ref q5, .int 0, .int 0, .int 0, .int 0, .int 0, .int 0, .null, .null, .int 0, .int 0, .int 0, .null, .null, .null, .null])), (q1, aI G 92 z0), (q2, aI G 92 z0), (q3, aI G 92 z0), (q4, aI G 8 z0), (q5, aI G 120 z0), (q6, aQ G 12 7 f13)] := hD
  refine va_putF (D := gD G) (ci := 6) (v := .ref q6) (ty := .array (.object "java/lang/String")) (C := RX6) (T := TX6) (N := 21) hx hb hts inT_6 tyX6 tyX6_ok nmX6 hown hK hP hD hS 0 rfl rfl 12 (by decide) (hts (.fieldLink RX6 41 "FogSchoolModel" "kindNames" "[Ljava/lang/String;") w_719) (fun _ h9 => h9) rfl hin rfl (by decide +kernel) rfl rfl (Nat.le_of_ble_eq_true rfl) dX6_init_86 (fun H locs hP hD hS => ?_)
  have hP : va_P (gD G) vwCl [(h0, .inr (6, [.ref q1, .ref q2, .ref q3, .int 0, .ref q4, .ref q5, .int 0, .int 0, .int 0, .int 0, .int 0, .int 0, .ref q6, .null, .int 0, .int 0, .int 0, .null, .null, .null, .null])), (q1, aI G 92 z0), (q2, aI G 92 z0), (q3, aI G 92 z0), (q4, aI G 8 z0), (q5, aI G 120 z0), (q6, aQ G 12 7 f13)] H := hP
  have hD : va_D A [(h0, .inr (6, [.ref q1, .ref q2, .ref q3, .int 0, .ref q4, .ref q5, .int 0, .int 0, .int 0, .int 0, .int 0, .int 0, .ref q6, .null, .int 0, .int 0, .int 0, .null, .null, .null, .null])), (q1, aI G 92 z0), (q2, aI G 92 z0), (q3, aI G 92 z0), (q4, aI G 8 z0), (q5, aI G 120 z0), (q6, aQ G 12 7 f13)] := hD
  refine lv_aload_n hx hb dX6_init_89 rfl (lv_at hl 0 rfl) ?_
  refine lv_sipush (v := 600) hx hb dX6_init_90 (by decide) ?_
  refine nA_i hx hb (hts _ w_47) hK hP hD hS hA 600 (by decide) rfl (Nat.le_of_ble_eq_true rfl) (Nat.le_of_ble_eq_true rfl) (Nat.le_of_ble_eq_true rfl) dX6_init_93 (fun q14 H hP hD hS => ?_)
  have hP : va_P (gD G) vwCl [(h0, .inr (6, [.ref q1, .ref q2, .ref q3, .int 0, .ref q4, .ref q5, .int 0, .int 0, .int 0, .int 0, .int 0, .int 0, .ref q6, .null, .int 0, .int 0, .int 0, .null, .null, .null, .null])), (q1, aI G 92 z0), (q2, aI G 92 z0), (q3, aI G 92 z0), (q4, aI G 8 z0), (q5, aI G 120 z0), (q6, aQ G 12 7 f13), (q14, aI G 600 z0)] H := hP
  have hD : va_D A [(h0, .inr (6, [.ref q1, .ref q2, .ref q3, .int 0, .ref q4, .ref q5, .int 0, .int 0, .int 0, .int 0, .int 0, .int 0, .ref q6, .null, .int 0, .int 0, .int 0, .null, .null, .null, .null])), (q1, aI G 92 z0), (q2, aI G 92 z0), (q3, aI G 92 z0), (q4, aI G 8 z0), (q5, aI G 120 z0), (q6, aQ G 12 7 f13), (q14, aI G 600 z0)] := hD
  refine W.widen (k := 7) (n := 1011) (Nat.le_of_ble_eq_true rfl) (Nat.le_of_ble_eq_true rfl) ?_
  refine va_putF (D := gD G) (ci := 6) (v := .ref q14) (ty := .array .int) (C := RX6) (T := TX6) (N := 21) hx hb hts inT_6 tyX6 tyX6_ok nmX6 hown hK hP hD hS 0 rfl rfl 13 (by decide) (hts (.fieldLink RX6 45 "FogSchoolModel" "items" "[I") w_720) (fun _ h9 => h9) rfl hin rfl (by decide +kernel) rfl rfl (Nat.le_of_ble_eq_true rfl) dX6_init_95 (fun H locs hP hD hS => ?_)
  have hP : va_P (gD G) vwCl [(h0, .inr (6, [.ref q1, .ref q2, .ref q3, .int 0, .ref q4, .ref q5, .int 0, .int 0, .int 0, .int 0, .int 0, .int 0, .ref q6, .ref q14, .int 0, .int 0, .int 0, .null, .null, .null, .null])), (q1, aI G 92 z0), (q2, aI G 92 z0), (q3, aI G 92 z0), (q4, aI G 8 z0), (q5, aI G 120 z0), (q6, aQ G 12 7 f13), (q14, aI G 600 z0)] H := hP
  have hD : va_D A [(h0, .inr (6, [.ref q1, .ref q2, .ref q3, .int 0, .ref q4, .ref q5, .int 0, .int 0, .int 0, .int 0, .int 0, .int 0, .ref q6, .ref q14, .int 0, .int 0, .int 0, .null, .null, .null, .null])), (q1, aI G 92 z0), (q2, aI G 92 z0), (q3, aI G 92 z0), (q4, aI G 8 z0), (q5, aI G 120 z0), (q6, aQ G 12 7 f13), (q14, aI G 600 z0)] := hD
  refine lv_aload_n hx hb dX6_init_98 rfl (lv_at hl 0 rfl) ?_
  refine lv_iconst (v := 4) hx hb dX6_init_99 (by decide) ?_
  refine nA_i hx hb (hts _ w_47) hK hP hD hS hA 4 (by decide) rfl (Nat.le_of_ble_eq_true rfl) (Nat.le_of_ble_eq_true rfl) (Nat.le_of_ble_eq_true rfl) dX6_init_100 (fun q15 H hP hD hS => ?_)
  have hP : va_P (gD G) vwCl [(h0, .inr (6, [.ref q1, .ref q2, .ref q3, .int 0, .ref q4, .ref q5, .int 0, .int 0, .int 0, .int 0, .int 0, .int 0, .ref q6, .ref q14, .int 0, .int 0, .int 0, .null, .null, .null, .null])), (q1, aI G 92 z0), (q2, aI G 92 z0), (q3, aI G 92 z0), (q4, aI G 8 z0), (q5, aI G 120 z0), (q6, aQ G 12 7 f13), (q14, aI G 600 z0), (q15, aI G 4 z0)] H := hP
  have hD : va_D A [(h0, .inr (6, [.ref q1, .ref q2, .ref q3, .int 0, .ref q4, .ref q5, .int 0, .int 0, .int 0, .int 0, .int 0, .int 0, .ref q6, .ref q14, .int 0, .int 0, .int 0, .null, .null, .null, .null])), (q1, aI G 92 z0), (q2, aI G 92 z0), (q3, aI G 92 z0), (q4, aI G 8 z0), (q5, aI G 120 z0), (q6, aQ G 12 7 f13), (q14, aI G 600 z0), (q15, aI G 4 z0)] := hD
  refine W.widen (k := 8) (n := 1015) (Nat.le_of_ble_eq_true rfl) (Nat.le_of_ble_eq_true rfl) ?_
  refine va_putF (D := gD G) (ci := 6) (v := .ref q15) (ty := .array .int) (C := RX6) (T := TX6) (N := 21) hx hb hts inT_6 tyX6 tyX6_ok nmX6 hown hK hP hD hS 0 rfl rfl 17 (by decide) (hts (.fieldLink RX6 48 "FogSchoolModel" "widths" "[I") w_724) (fun _ h9 => h9) rfl hin rfl (by decide +kernel) rfl rfl (Nat.le_of_ble_eq_true rfl) dX6_init_102 (fun H locs hP hD hS => ?_)
  have hP : va_P (gD G) vwCl [(h0, .inr (6, [.ref q1, .ref q2, .ref q3, .int 0, .ref q4, .ref q5, .int 0, .int 0, .int 0, .int 0, .int 0, .int 0, .ref q6, .ref q14, .int 0, .int 0, .int 0, .ref q15, .null, .null, .null])), (q1, aI G 92 z0), (q2, aI G 92 z0), (q3, aI G 92 z0), (q4, aI G 8 z0), (q5, aI G 120 z0), (q6, aQ G 12 7 f13), (q14, aI G 600 z0), (q15, aI G 4 z0)] H := hP
  have hD : va_D A [(h0, .inr (6, [.ref q1, .ref q2, .ref q3, .int 0, .ref q4, .ref q5, .int 0, .int 0, .int 0, .int 0, .int 0, .int 0, .ref q6, .ref q14, .int 0, .int 0, .int 0, .ref q15, .null, .null, .null])), (q1, aI G 92 z0), (q2, aI G 92 z0), (q3, aI G 92 z0), (q4, aI G 8 z0), (q5, aI G 120 z0), (q6, aQ G 12 7 f13), (q14, aI G 600 z0), (q15, aI G 4 z0)] := hD
  refine lv_aload_n hx hb dX6_init_105 rfl (lv_at hl 0 rfl) ?_
  refine lv_iconst (v := 4) hx hb dX6_init_106 (by decide) ?_
  refine nA_i hx hb (hts _ w_47) hK hP hD hS hA 4 (by decide) rfl (Nat.le_of_ble_eq_true rfl) (Nat.le_of_ble_eq_true rfl) (Nat.le_of_ble_eq_true rfl) dX6_init_107 (fun q16 H hP hD hS => ?_)
  have hP : va_P (gD G) vwCl [(h0, .inr (6, [.ref q1, .ref q2, .ref q3, .int 0, .ref q4, .ref q5, .int 0, .int 0, .int 0, .int 0, .int 0, .int 0, .ref q6, .ref q14, .int 0, .int 0, .int 0, .ref q15, .null, .null, .null])), (q1, aI G 92 z0), (q2, aI G 92 z0), (q3, aI G 92 z0), (q4, aI G 8 z0), (q5, aI G 120 z0), (q6, aQ G 12 7 f13), (q14, aI G 600 z0), (q15, aI G 4 z0), (q16, aI G 4 z0)] H := hP
  have hD : va_D A [(h0, .inr (6, [.ref q1, .ref q2, .ref q3, .int 0, .ref q4, .ref q5, .int 0, .int 0, .int 0, .int 0, .int 0, .int 0, .ref q6, .ref q14, .int 0, .int 0, .int 0, .ref q15, .null, .null, .null])), (q1, aI G 92 z0), (q2, aI G 92 z0), (q3, aI G 92 z0), (q4, aI G 8 z0), (q5, aI G 120 z0), (q6, aQ G 12 7 f13), (q14, aI G 600 z0), (q15, aI G 4 z0), (q16, aI G 4 z0)] := hD
  refine W.widen (k := 9) (n := 1019) (Nat.le_of_ble_eq_true rfl) (Nat.le_of_ble_eq_true rfl) ?_
  refine va_putF (D := gD G) (ci := 6) (v := .ref q16) (ty := .array .int) (C := RX6) (T := TX6) (N := 21) hx hb hts inT_6 tyX6 tyX6_ok nmX6 hown hK hP hD hS 0 rfl rfl 18 (by decide) (hts (.fieldLink RX6 51 "FogSchoolModel" "sizes" "[I") w_725) (fun _ h9 => h9) rfl hin rfl (by decide +kernel) rfl rfl (Nat.le_of_ble_eq_true rfl) dX6_init_109 (fun H locs hP hD hS => ?_)
  have hP : va_P (gD G) vwCl [(h0, .inr (6, [.ref q1, .ref q2, .ref q3, .int 0, .ref q4, .ref q5, .int 0, .int 0, .int 0, .int 0, .int 0, .int 0, .ref q6, .ref q14, .int 0, .int 0, .int 0, .ref q15, .ref q16, .null, .null])), (q1, aI G 92 z0), (q2, aI G 92 z0), (q3, aI G 92 z0), (q4, aI G 8 z0), (q5, aI G 120 z0), (q6, aQ G 12 7 f13), (q14, aI G 600 z0), (q15, aI G 4 z0), (q16, aI G 4 z0)] H := hP
  have hD : va_D A [(h0, .inr (6, [.ref q1, .ref q2, .ref q3, .int 0, .ref q4, .ref q5, .int 0, .int 0, .int 0, .int 0, .int 0, .int 0, .ref q6, .ref q14, .int 0, .int 0, .int 0, .ref q15, .ref q16, .null, .null])), (q1, aI G 92 z0), (q2, aI G 92 z0), (q3, aI G 92 z0), (q4, aI G 8 z0), (q5, aI G 120 z0), (q6, aQ G 12 7 f13), (q14, aI G 600 z0), (q15, aI G 4 z0), (q16, aI G 4 z0)] := hD
  refine lv_aload_n hx hb dX6_init_112 rfl (lv_at hl 0 rfl) ?_
  refine lv_sipush (v := 160) hx hb dX6_init_113 (by decide) ?_
  refine nA_i hx hb (hts _ w_47) hK hP hD hS hA 160 (by decide) rfl (Nat.le_of_ble_eq_true rfl) (Nat.le_of_ble_eq_true rfl) (Nat.le_of_ble_eq_true rfl) dX6_init_116 (fun q17 H hP hD hS => ?_)
  have hP : va_P (gD G) vwCl [(h0, .inr (6, [.ref q1, .ref q2, .ref q3, .int 0, .ref q4, .ref q5, .int 0, .int 0, .int 0, .int 0, .int 0, .int 0, .ref q6, .ref q14, .int 0, .int 0, .int 0, .ref q15, .ref q16, .null, .null])), (q1, aI G 92 z0), (q2, aI G 92 z0), (q3, aI G 92 z0), (q4, aI G 8 z0), (q5, aI G 120 z0), (q6, aQ G 12 7 f13), (q14, aI G 600 z0), (q15, aI G 4 z0), (q16, aI G 4 z0), (q17, aI G 160 z0)] H := hP
  have hD : va_D A [(h0, .inr (6, [.ref q1, .ref q2, .ref q3, .int 0, .ref q4, .ref q5, .int 0, .int 0, .int 0, .int 0, .int 0, .int 0, .ref q6, .ref q14, .int 0, .int 0, .int 0, .ref q15, .ref q16, .null, .null])), (q1, aI G 92 z0), (q2, aI G 92 z0), (q3, aI G 92 z0), (q4, aI G 8 z0), (q5, aI G 120 z0), (q6, aQ G 12 7 f13), (q14, aI G 600 z0), (q15, aI G 4 z0), (q16, aI G 4 z0), (q17, aI G 160 z0)] := hD
  refine W.widen (k := 10) (n := 1179) (Nat.le_of_ble_eq_true rfl) (Nat.le_of_ble_eq_true rfl) ?_
  refine va_putF (D := gD G) (ci := 6) (v := .ref q17) (ty := .array .int) (C := RX6) (T := TX6) (N := 21) hx hb hts inT_6 tyX6 tyX6_ok nmX6 hown hK hP hD hS 0 rfl rfl 19 (by decide) (hts (.fieldLink RX6 54 "FogSchoolModel" "numbers" "[I") w_726) (fun _ h9 => h9) rfl hin rfl (by decide +kernel) rfl rfl (Nat.le_of_ble_eq_true rfl) dX6_init_118 (fun H locs hP hD hS => ?_)
  have hP : va_P (gD G) vwCl [(h0, .inr (6, [.ref q1, .ref q2, .ref q3, .int 0, .ref q4, .ref q5, .int 0, .int 0, .int 0, .int 0, .int 0, .int 0, .ref q6, .ref q14, .int 0, .int 0, .int 0, .ref q15, .ref q16, .ref q17, .null])), (q1, aI G 92 z0), (q2, aI G 92 z0), (q3, aI G 92 z0), (q4, aI G 8 z0), (q5, aI G 120 z0), (q6, aQ G 12 7 f13), (q14, aI G 600 z0), (q15, aI G 4 z0), (q16, aI G 4 z0), (q17, aI G 160 z0)] H := hP
  have hD : va_D A [(h0, .inr (6, [.ref q1, .ref q2, .ref q3, .int 0, .ref q4, .ref q5, .int 0, .int 0, .int 0, .int 0, .int 0, .int 0, .ref q6, .ref q14, .int 0, .int 0, .int 0, .ref q15, .ref q16, .ref q17, .null])), (q1, aI G 92 z0), (q2, aI G 92 z0), (q3, aI G 92 z0), (q4, aI G 8 z0), (q5, aI G 120 z0), (q6, aQ G 12 7 f13), (q14, aI G 600 z0), (q15, aI G 4 z0), (q16, aI G 4 z0), (q17, aI G 160 z0)] := hD
  refine lv_aload_n hx hb dX6_init_121 rfl (lv_at hl 0 rfl) ?_
  refine lv_bipush (v := 40) hx hb dX6_init_122 (by decide) ?_
  refine nA_i hx hb (hts _ w_47) hK hP hD hS hA 40 (by decide) rfl (Nat.le_of_ble_eq_true rfl) (Nat.le_of_ble_eq_true rfl) (Nat.le_of_ble_eq_true rfl) dX6_init_124 (fun q18 H hP hD hS => ?_)
  have hP : va_P (gD G) vwCl [(h0, .inr (6, [.ref q1, .ref q2, .ref q3, .int 0, .ref q4, .ref q5, .int 0, .int 0, .int 0, .int 0, .int 0, .int 0, .ref q6, .ref q14, .int 0, .int 0, .int 0, .ref q15, .ref q16, .ref q17, .null])), (q1, aI G 92 z0), (q2, aI G 92 z0), (q3, aI G 92 z0), (q4, aI G 8 z0), (q5, aI G 120 z0), (q6, aQ G 12 7 f13), (q14, aI G 600 z0), (q15, aI G 4 z0), (q16, aI G 4 z0), (q17, aI G 160 z0), (q18, aI G 40 z0)] H := hP
  have hD : va_D A [(h0, .inr (6, [.ref q1, .ref q2, .ref q3, .int 0, .ref q4, .ref q5, .int 0, .int 0, .int 0, .int 0, .int 0, .int 0, .ref q6, .ref q14, .int 0, .int 0, .int 0, .ref q15, .ref q16, .ref q17, .null])), (q1, aI G 92 z0), (q2, aI G 92 z0), (q3, aI G 92 z0), (q4, aI G 8 z0), (q5, aI G 120 z0), (q6, aQ G 12 7 f13), (q14, aI G 600 z0), (q15, aI G 4 z0), (q16, aI G 4 z0), (q17, aI G 160 z0), (q18, aI G 40 z0)] := hD
  refine W.widen (k := 11) (n := 1219) (Nat.le_of_ble_eq_true rfl) (Nat.le_of_ble_eq_true rfl) ?_
  refine va_putF (D := gD G) (ci := 6) (v := .ref q18) (ty := .array .int) (C := RX6) (T := TX6) (N := 21) hx hb hts inT_6 tyX6 tyX6_ok nmX6 hown hK hP hD hS 0 rfl rfl 20 (by decide) (hts (.fieldLink RX6 57 "FogSchoolModel" "moved" "[I") w_727) (fun _ h9 => h9) rfl hin rfl (by decide +kernel) rfl rfl (Nat.le_of_ble_eq_true rfl) dX6_init_126 (fun H locs hP hD hS => ?_)
  have hP : va_P (gD G) vwCl [(h0, .inr (6, [.ref q1, .ref q2, .ref q3, .int 0, .ref q4, .ref q5, .int 0, .int 0, .int 0, .int 0, .int 0, .int 0, .ref q6, .ref q14, .int 0, .int 0, .int 0, .ref q15, .ref q16, .ref q17, .ref q18])), (q1, aI G 92 z0), (q2, aI G 92 z0), (q3, aI G 92 z0), (q4, aI G 8 z0), (q5, aI G 120 z0), (q6, aQ G 12 7 f13), (q14, aI G 600 z0), (q15, aI G 4 z0), (q16, aI G 4 z0), (q17, aI G 160 z0), (q18, aI G 40 z0)] H := hP
  have hD : va_D A [(h0, .inr (6, [.ref q1, .ref q2, .ref q3, .int 0, .ref q4, .ref q5, .int 0, .int 0, .int 0, .int 0, .int 0, .int 0, .ref q6, .ref q14, .int 0, .int 0, .int 0, .ref q15, .ref q16, .ref q17, .ref q18])), (q1, aI G 92 z0), (q2, aI G 92 z0), (q3, aI G 92 z0), (q4, aI G 8 z0), (q5, aI G 120 z0), (q6, aQ G 12 7 f13), (q14, aI G 600 z0), (q15, aI G 4 z0), (q16, aI G 4 z0), (q17, aI G 160 z0), (q18, aI G 40 z0)] := hD
  refine lv_aload_n hx hb dX6_init_129 rfl (lv_at hl 0 rfl) ?_
  refine va_get (D := gD G) (ci := 6) (v := .ref q1) (C := RX6) (T := TX6) (N := 21) hx hb hts inT_6 hown hK hP 0 rfl rfl 0 (by decide) (hts (.fieldLink RX6 9 "FogSchoolModel" "now" "[I") w_707) (fun _ h9 => h9) rfl dX6_init_130 ?_
  refine lv_iconst (v := 2) hx hb dX6_init_133 (by decide) ?_
  refine lv_iconst (v := 1) hx hb dX6_init_134 (by decide) ?_
  refine sA_i hx hb hK hP hD hS 1 rfl 2 rfl (in_c rfl) dX6_init_135 (fun H locs f19 hf19 hP hD hS => ?_)
  have hP : va_P (gD G) vwCl [(h0, .inr (6, [.ref q1, .ref q2, .ref q3, .int 0, .ref q4, .ref q5, .int 0, .int 0, .int 0, .int 0, .int 0, .int 0, .ref q6, .ref q14, .int 0, .int 0, .int 0, .ref q15, .ref q16, .ref q17, .ref q18])), (q1, aI G 92 f19), (q2, aI G 92 z0), (q3, aI G 92 z0), (q4, aI G 8 z0), (q5, aI G 120 z0), (q6, aQ G 12 7 f13), (q14, aI G 600 z0), (q15, aI G 4 z0), (q16, aI G 4 z0), (q17, aI G 160 z0), (q18, aI G 40 z0)] H := hP
  have hD : va_D A [(h0, .inr (6, [.ref q1, .ref q2, .ref q3, .int 0, .ref q4, .ref q5, .int 0, .int 0, .int 0, .int 0, .int 0, .int 0, .ref q6, .ref q14, .int 0, .int 0, .int 0, .ref q15, .ref q16, .ref q17, .ref q18])), (q1, aI G 92 f19), (q2, aI G 92 z0), (q3, aI G 92 z0), (q4, aI G 8 z0), (q5, aI G 120 z0), (q6, aQ G 12 7 f13), (q14, aI G 600 z0), (q15, aI G 4 z0), (q16, aI G 4 z0), (q17, aI G 160 z0), (q18, aI G 40 z0)] := hD
  refine lv_iconst (v := 0) hx hb dX6_init_136 (by decide) ?_
  refine lv_istore_n (lv' := [(1, .int 0), (0, .ref h0)]) hx hb dX6_init_137 rfl hl (by decide) rfl (fun ls hl => ?_)
  refine lv_iload_n hx hb dX6_init_138 rfl (lv_at hl 0 rfl) ?_
  refine lv_bipush (v := 10) hx hb dX6_init_139 (by decide) ?_
  refine lv_icmp_ge (tgt := 160) hx hb dX6_init_141 (by decide) (fun c9 => absurd c9 (by decide)) (fun c9 => ?_)
  refine lv_aload_n hx hb dX6_init_144 rfl (lv_at hl 1 rfl) ?_
  refine va_get (D := gD G) (ci := 6) (v := .ref q1) (C := RX6) (T := TX6) (N := 21) hx hb hts inT_6 hown hK hP 0 rfl rfl 0 (by decide) (hts (.fieldLink RX6 9 "FogSchoolModel" "now" "[I") w_707) (fun _ h9 => h9) rfl dX6_init_145 ?_
  refine lv_bipush (v := 10) hx hb dX6_init_148 (by decide) ?_
  refine lv_iload_n hx hb dX6_init_150 rfl (lv_at hl 0 rfl) ?_
  refine lv_iadd hx hb dX6_init_151 ?_
  refine lv_iconst (v := (-1)) hx hb dX6_init_152 (by decide) ?_
  refine sA_i hx hb hK hP hD hS 1 rfl 10 rfl (in_c rfl) dX6_init_153 (fun H locs f20 hf20 hP hD hS => ?_)
  have hP : va_P (gD G) vwCl [(h0, .inr (6, [.ref q1, .ref q2, .ref q3, .int 0, .ref q4, .ref q5, .int 0, .int 0, .int 0, .int 0, .int 0, .int 0, .ref q6, .ref q14, .int 0, .int 0, .int 0, .ref q15, .ref q16, .ref q17, .ref q18])), (q1, aI G 92 f20), (q2, aI G 92 z0), (q3, aI G 92 z0), (q4, aI G 8 z0), (q5, aI G 120 z0), (q6, aQ G 12 7 f13), (q14, aI G 600 z0), (q15, aI G 4 z0), (q16, aI G 4 z0), (q17, aI G 160 z0), (q18, aI G 40 z0)] H := hP
  have hD : va_D A [(h0, .inr (6, [.ref q1, .ref q2, .ref q3, .int 0, .ref q4, .ref q5, .int 0, .int 0, .int 0, .int 0, .int 0, .int 0, .ref q6, .ref q14, .int 0, .int 0, .int 0, .ref q15, .ref q16, .ref q17, .ref q18])), (q1, aI G 92 f20), (q2, aI G 92 z0), (q3, aI G 92 z0), (q4, aI G 8 z0), (q5, aI G 120 z0), (q6, aQ G 12 7 f13), (q14, aI G 600 z0), (q15, aI G 4 z0), (q16, aI G 4 z0), (q17, aI G 160 z0), (q18, aI G 40 z0)] := hD
  refine lv_iinc (v := 1) (lv' := [(1, .int 1), (0, .ref h0)]) hx hb dX6_init_154 hl (k := 0) rfl rfl (by decide) rfl (fun ls hl => ?_)
  refine lv_goto (tgt := 138) hx hb dX6_init_157 (by decide) ?_
  refine lv_iload_n hx hb dX6_init_138 rfl (lv_at hl 0 rfl) ?_
  refine lv_bipush (v := 10) hx hb dX6_init_139 (by decide) ?_
  refine lv_icmp_ge (tgt := 160) hx hb dX6_init_141 (by decide) (fun c9 => absurd c9 (by decide)) (fun c9 => ?_)
  refine lv_aload_n hx hb dX6_init_144 rfl (lv_at hl 1 rfl) ?_
  refine va_get (D := gD G) (ci := 6) (v := .ref q1) (C := RX6) (T := TX6) (N := 21) hx hb hts inT_6 hown hK hP 0 rfl rfl 0 (by decide) (hts (.fieldLink RX6 9 "FogSchoolModel" "now" "[I") w_707) (fun _ h9 => h9) rfl dX6_init_145 ?_
  refine lv_bipush (v := 10) hx hb dX6_init_148 (by decide) ?_
  refine lv_iload_n hx hb dX6_init_150 rfl (lv_at hl 0 rfl) ?_
  refine lv_iadd hx hb dX6_init_151 ?_
  refine lv_iconst (v := (-1)) hx hb dX6_init_152 (by decide) ?_
  refine sA_i hx hb hK hP hD hS 1 rfl 11 rfl (in_c rfl) dX6_init_153 (fun H locs f21 hf21 hP hD hS => ?_)
  have hP : va_P (gD G) vwCl [(h0, .inr (6, [.ref q1, .ref q2, .ref q3, .int 0, .ref q4, .ref q5, .int 0, .int 0, .int 0, .int 0, .int 0, .int 0, .ref q6, .ref q14, .int 0, .int 0, .int 0, .ref q15, .ref q16, .ref q17, .ref q18])), (q1, aI G 92 f21), (q2, aI G 92 z0), (q3, aI G 92 z0), (q4, aI G 8 z0), (q5, aI G 120 z0), (q6, aQ G 12 7 f13), (q14, aI G 600 z0), (q15, aI G 4 z0), (q16, aI G 4 z0), (q17, aI G 160 z0), (q18, aI G 40 z0)] H := hP
  have hD : va_D A [(h0, .inr (6, [.ref q1, .ref q2, .ref q3, .int 0, .ref q4, .ref q5, .int 0, .int 0, .int 0, .int 0, .int 0, .int 0, .ref q6, .ref q14, .int 0, .int 0, .int 0, .ref q15, .ref q16, .ref q17, .ref q18])), (q1, aI G 92 f21), (q2, aI G 92 z0), (q3, aI G 92 z0), (q4, aI G 8 z0), (q5, aI G 120 z0), (q6, aQ G 12 7 f13), (q14, aI G 600 z0), (q15, aI G 4 z0), (q16, aI G 4 z0), (q17, aI G 160 z0), (q18, aI G 40 z0)] := hD
  refine lv_iinc (v := 2) (lv' := [(1, .int 2), (0, .ref h0)]) hx hb dX6_init_154 hl (k := 0) rfl rfl (by decide) rfl (fun ls hl => ?_)
  refine lv_goto (tgt := 138) hx hb dX6_init_157 (by decide) ?_
  refine lv_iload_n hx hb dX6_init_138 rfl (lv_at hl 0 rfl) ?_
  refine lv_bipush (v := 10) hx hb dX6_init_139 (by decide) ?_
  refine lv_icmp_ge (tgt := 160) hx hb dX6_init_141 (by decide) (fun c9 => absurd c9 (by decide)) (fun c9 => ?_)
  refine lv_aload_n hx hb dX6_init_144 rfl (lv_at hl 1 rfl) ?_
  refine va_get (D := gD G) (ci := 6) (v := .ref q1) (C := RX6) (T := TX6) (N := 21) hx hb hts inT_6 hown hK hP 0 rfl rfl 0 (by decide) (hts (.fieldLink RX6 9 "FogSchoolModel" "now" "[I") w_707) (fun _ h9 => h9) rfl dX6_init_145 ?_
  refine lv_bipush (v := 10) hx hb dX6_init_148 (by decide) ?_
  refine lv_iload_n hx hb dX6_init_150 rfl (lv_at hl 0 rfl) ?_
  refine lv_iadd hx hb dX6_init_151 ?_
  refine lv_iconst (v := (-1)) hx hb dX6_init_152 (by decide) ?_
  refine sA_i hx hb hK hP hD hS 1 rfl 12 rfl (in_c rfl) dX6_init_153 (fun H locs f22 hf22 hP hD hS => ?_)
  have hP : va_P (gD G) vwCl [(h0, .inr (6, [.ref q1, .ref q2, .ref q3, .int 0, .ref q4, .ref q5, .int 0, .int 0, .int 0, .int 0, .int 0, .int 0, .ref q6, .ref q14, .int 0, .int 0, .int 0, .ref q15, .ref q16, .ref q17, .ref q18])), (q1, aI G 92 f22), (q2, aI G 92 z0), (q3, aI G 92 z0), (q4, aI G 8 z0), (q5, aI G 120 z0), (q6, aQ G 12 7 f13), (q14, aI G 600 z0), (q15, aI G 4 z0), (q16, aI G 4 z0), (q17, aI G 160 z0), (q18, aI G 40 z0)] H := hP
  have hD : va_D A [(h0, .inr (6, [.ref q1, .ref q2, .ref q3, .int 0, .ref q4, .ref q5, .int 0, .int 0, .int 0, .int 0, .int 0, .int 0, .ref q6, .ref q14, .int 0, .int 0, .int 0, .ref q15, .ref q16, .ref q17, .ref q18])), (q1, aI G 92 f22), (q2, aI G 92 z0), (q3, aI G 92 z0), (q4, aI G 8 z0), (q5, aI G 120 z0), (q6, aQ G 12 7 f13), (q14, aI G 600 z0), (q15, aI G 4 z0), (q16, aI G 4 z0), (q17, aI G 160 z0), (q18, aI G 40 z0)] := hD
  refine lv_iinc (v := 3) (lv' := [(1, .int 3), (0, .ref h0)]) hx hb dX6_init_154 hl (k := 0) rfl rfl (by decide) rfl (fun ls hl => ?_)
  refine lv_goto (tgt := 138) hx hb dX6_init_157 (by decide) ?_
  refine lv_iload_n hx hb dX6_init_138 rfl (lv_at hl 0 rfl) ?_
  refine lv_bipush (v := 10) hx hb dX6_init_139 (by decide) ?_
  refine lv_icmp_ge (tgt := 160) hx hb dX6_init_141 (by decide) (fun c9 => absurd c9 (by decide)) (fun c9 => ?_)
  refine lv_aload_n hx hb dX6_init_144 rfl (lv_at hl 1 rfl) ?_
  refine va_get (D := gD G) (ci := 6) (v := .ref q1) (C := RX6) (T := TX6) (N := 21) hx hb hts inT_6 hown hK hP 0 rfl rfl 0 (by decide) (hts (.fieldLink RX6 9 "FogSchoolModel" "now" "[I") w_707) (fun _ h9 => h9) rfl dX6_init_145 ?_
  refine lv_bipush (v := 10) hx hb dX6_init_148 (by decide) ?_
  refine lv_iload_n hx hb dX6_init_150 rfl (lv_at hl 0 rfl) ?_
  refine lv_iadd hx hb dX6_init_151 ?_
  refine lv_iconst (v := (-1)) hx hb dX6_init_152 (by decide) ?_
  refine sA_i hx hb hK hP hD hS 1 rfl 13 rfl (in_c rfl) dX6_init_153 (fun H locs f23 hf23 hP hD hS => ?_)
  have hP : va_P (gD G) vwCl [(h0, .inr (6, [.ref q1, .ref q2, .ref q3, .int 0, .ref q4, .ref q5, .int 0, .int 0, .int 0, .int 0, .int 0, .int 0, .ref q6, .ref q14, .int 0, .int 0, .int 0, .ref q15, .ref q16, .ref q17, .ref q18])), (q1, aI G 92 f23), (q2, aI G 92 z0), (q3, aI G 92 z0), (q4, aI G 8 z0), (q5, aI G 120 z0), (q6, aQ G 12 7 f13), (q14, aI G 600 z0), (q15, aI G 4 z0), (q16, aI G 4 z0), (q17, aI G 160 z0), (q18, aI G 40 z0)] H := hP
  have hD : va_D A [(h0, .inr (6, [.ref q1, .ref q2, .ref q3, .int 0, .ref q4, .ref q5, .int 0, .int 0, .int 0, .int 0, .int 0, .int 0, .ref q6, .ref q14, .int 0, .int 0, .int 0, .ref q15, .ref q16, .ref q17, .ref q18])), (q1, aI G 92 f23), (q2, aI G 92 z0), (q3, aI G 92 z0), (q4, aI G 8 z0), (q5, aI G 120 z0), (q6, aQ G 12 7 f13), (q14, aI G 600 z0), (q15, aI G 4 z0), (q16, aI G 4 z0), (q17, aI G 160 z0), (q18, aI G 40 z0)] := hD
  refine lv_iinc (v := 4) (lv' := [(1, .int 4), (0, .ref h0)]) hx hb dX6_init_154 hl (k := 0) rfl rfl (by decide) rfl (fun ls hl => ?_)
  refine lv_goto (tgt := 138) hx hb dX6_init_157 (by decide) ?_
  refine lv_iload_n hx hb dX6_init_138 rfl (lv_at hl 0 rfl) ?_
  refine lv_bipush (v := 10) hx hb dX6_init_139 (by decide) ?_
  refine lv_icmp_ge (tgt := 160) hx hb dX6_init_141 (by decide) (fun c9 => absurd c9 (by decide)) (fun c9 => ?_)
  refine lv_aload_n hx hb dX6_init_144 rfl (lv_at hl 1 rfl) ?_
  refine va_get (D := gD G) (ci := 6) (v := .ref q1) (C := RX6) (T := TX6) (N := 21) hx hb hts inT_6 hown hK hP 0 rfl rfl 0 (by decide) (hts (.fieldLink RX6 9 "FogSchoolModel" "now" "[I") w_707) (fun _ h9 => h9) rfl dX6_init_145 ?_
  refine lv_bipush (v := 10) hx hb dX6_init_148 (by decide) ?_
  refine lv_iload_n hx hb dX6_init_150 rfl (lv_at hl 0 rfl) ?_
  refine lv_iadd hx hb dX6_init_151 ?_
  refine lv_iconst (v := (-1)) hx hb dX6_init_152 (by decide) ?_
  refine sA_i hx hb hK hP hD hS 1 rfl 14 rfl (in_c rfl) dX6_init_153 (fun H locs f24 hf24 hP hD hS => ?_)
  have hP : va_P (gD G) vwCl [(h0, .inr (6, [.ref q1, .ref q2, .ref q3, .int 0, .ref q4, .ref q5, .int 0, .int 0, .int 0, .int 0, .int 0, .int 0, .ref q6, .ref q14, .int 0, .int 0, .int 0, .ref q15, .ref q16, .ref q17, .ref q18])), (q1, aI G 92 f24), (q2, aI G 92 z0), (q3, aI G 92 z0), (q4, aI G 8 z0), (q5, aI G 120 z0), (q6, aQ G 12 7 f13), (q14, aI G 600 z0), (q15, aI G 4 z0), (q16, aI G 4 z0), (q17, aI G 160 z0), (q18, aI G 40 z0)] H := hP
  have hD : va_D A [(h0, .inr (6, [.ref q1, .ref q2, .ref q3, .int 0, .ref q4, .ref q5, .int 0, .int 0, .int 0, .int 0, .int 0, .int 0, .ref q6, .ref q14, .int 0, .int 0, .int 0, .ref q15, .ref q16, .ref q17, .ref q18])), (q1, aI G 92 f24), (q2, aI G 92 z0), (q3, aI G 92 z0), (q4, aI G 8 z0), (q5, aI G 120 z0), (q6, aQ G 12 7 f13), (q14, aI G 600 z0), (q15, aI G 4 z0), (q16, aI G 4 z0), (q17, aI G 160 z0), (q18, aI G 40 z0)] := hD
  refine lv_iinc (v := 5) (lv' := [(1, .int 5), (0, .ref h0)]) hx hb dX6_init_154 hl (k := 0) rfl rfl (by decide) rfl (fun ls hl => ?_)
  refine lv_goto (tgt := 138) hx hb dX6_init_157 (by decide) ?_
  refine lv_iload_n hx hb dX6_init_138 rfl (lv_at hl 0 rfl) ?_
  refine lv_bipush (v := 10) hx hb dX6_init_139 (by decide) ?_
  refine lv_icmp_ge (tgt := 160) hx hb dX6_init_141 (by decide) (fun c9 => absurd c9 (by decide)) (fun c9 => ?_)
  refine lv_aload_n hx hb dX6_init_144 rfl (lv_at hl 1 rfl) ?_
  refine va_get (D := gD G) (ci := 6) (v := .ref q1) (C := RX6) (T := TX6) (N := 21) hx hb hts inT_6 hown hK hP 0 rfl rfl 0 (by decide) (hts (.fieldLink RX6 9 "FogSchoolModel" "now" "[I") w_707) (fun _ h9 => h9) rfl dX6_init_145 ?_
  refine lv_bipush (v := 10) hx hb dX6_init_148 (by decide) ?_
  refine lv_iload_n hx hb dX6_init_150 rfl (lv_at hl 0 rfl) ?_
  refine lv_iadd hx hb dX6_init_151 ?_
  refine lv_iconst (v := (-1)) hx hb dX6_init_152 (by decide) ?_
  refine sA_i hx hb hK hP hD hS 1 rfl 15 rfl (in_c rfl) dX6_init_153 (fun H locs f25 hf25 hP hD hS => ?_)
  have hP : va_P (gD G) vwCl [(h0, .inr (6, [.ref q1, .ref q2, .ref q3, .int 0, .ref q4, .ref q5, .int 0, .int 0, .int 0, .int 0, .int 0, .int 0, .ref q6, .ref q14, .int 0, .int 0, .int 0, .ref q15, .ref q16, .ref q17, .ref q18])), (q1, aI G 92 f25), (q2, aI G 92 z0), (q3, aI G 92 z0), (q4, aI G 8 z0), (q5, aI G 120 z0), (q6, aQ G 12 7 f13), (q14, aI G 600 z0), (q15, aI G 4 z0), (q16, aI G 4 z0), (q17, aI G 160 z0), (q18, aI G 40 z0)] H := hP
  have hD : va_D A [(h0, .inr (6, [.ref q1, .ref q2, .ref q3, .int 0, .ref q4, .ref q5, .int 0, .int 0, .int 0, .int 0, .int 0, .int 0, .ref q6, .ref q14, .int 0, .int 0, .int 0, .ref q15, .ref q16, .ref q17, .ref q18])), (q1, aI G 92 f25), (q2, aI G 92 z0), (q3, aI G 92 z0), (q4, aI G 8 z0), (q5, aI G 120 z0), (q6, aQ G 12 7 f13), (q14, aI G 600 z0), (q15, aI G 4 z0), (q16, aI G 4 z0), (q17, aI G 160 z0), (q18, aI G 40 z0)] := hD
  refine lv_iinc (v := 6) (lv' := [(1, .int 6), (0, .ref h0)]) hx hb dX6_init_154 hl (k := 0) rfl rfl (by decide) rfl (fun ls hl => ?_)
  refine lv_goto (tgt := 138) hx hb dX6_init_157 (by decide) ?_
  refine lv_iload_n hx hb dX6_init_138 rfl (lv_at hl 0 rfl) ?_
  refine lv_bipush (v := 10) hx hb dX6_init_139 (by decide) ?_
  refine lv_icmp_ge (tgt := 160) hx hb dX6_init_141 (by decide) (fun c9 => absurd c9 (by decide)) (fun c9 => ?_)
  refine lv_aload_n hx hb dX6_init_144 rfl (lv_at hl 1 rfl) ?_
  refine va_get (D := gD G) (ci := 6) (v := .ref q1) (C := RX6) (T := TX6) (N := 21) hx hb hts inT_6 hown hK hP 0 rfl rfl 0 (by decide) (hts (.fieldLink RX6 9 "FogSchoolModel" "now" "[I") w_707) (fun _ h9 => h9) rfl dX6_init_145 ?_
  refine lv_bipush (v := 10) hx hb dX6_init_148 (by decide) ?_
  refine lv_iload_n hx hb dX6_init_150 rfl (lv_at hl 0 rfl) ?_
  refine lv_iadd hx hb dX6_init_151 ?_
  refine lv_iconst (v := (-1)) hx hb dX6_init_152 (by decide) ?_
  refine sA_i hx hb hK hP hD hS 1 rfl 16 rfl (in_c rfl) dX6_init_153 (fun H locs f26 hf26 hP hD hS => ?_)
  have hP : va_P (gD G) vwCl [(h0, .inr (6, [.ref q1, .ref q2, .ref q3, .int 0, .ref q4, .ref q5, .int 0, .int 0, .int 0, .int 0, .int 0, .int 0, .ref q6, .ref q14, .int 0, .int 0, .int 0, .ref q15, .ref q16, .ref q17, .ref q18])), (q1, aI G 92 f26), (q2, aI G 92 z0), (q3, aI G 92 z0), (q4, aI G 8 z0), (q5, aI G 120 z0), (q6, aQ G 12 7 f13), (q14, aI G 600 z0), (q15, aI G 4 z0), (q16, aI G 4 z0), (q17, aI G 160 z0), (q18, aI G 40 z0)] H := hP
  have hD : va_D A [(h0, .inr (6, [.ref q1, .ref q2, .ref q3, .int 0, .ref q4, .ref q5, .int 0, .int 0, .int 0, .int 0, .int 0, .int 0, .ref q6, .ref q14, .int 0, .int 0, .int 0, .ref q15, .ref q16, .ref q17, .ref q18])), (q1, aI G 92 f26), (q2, aI G 92 z0), (q3, aI G 92 z0), (q4, aI G 8 z0), (q5, aI G 120 z0), (q6, aQ G 12 7 f13), (q14, aI G 600 z0), (q15, aI G 4 z0), (q16, aI G 4 z0), (q17, aI G 160 z0), (q18, aI G 40 z0)] := hD
  refine lv_iinc (v := 7) (lv' := [(1, .int 7), (0, .ref h0)]) hx hb dX6_init_154 hl (k := 0) rfl rfl (by decide) rfl (fun ls hl => ?_)
  refine lv_goto (tgt := 138) hx hb dX6_init_157 (by decide) ?_
  refine lv_iload_n hx hb dX6_init_138 rfl (lv_at hl 0 rfl) ?_
  refine lv_bipush (v := 10) hx hb dX6_init_139 (by decide) ?_
  refine lv_icmp_ge (tgt := 160) hx hb dX6_init_141 (by decide) (fun c9 => absurd c9 (by decide)) (fun c9 => ?_)
  refine lv_aload_n hx hb dX6_init_144 rfl (lv_at hl 1 rfl) ?_
  refine va_get (D := gD G) (ci := 6) (v := .ref q1) (C := RX6) (T := TX6) (N := 21) hx hb hts inT_6 hown hK hP 0 rfl rfl 0 (by decide) (hts (.fieldLink RX6 9 "FogSchoolModel" "now" "[I") w_707) (fun _ h9 => h9) rfl dX6_init_145 ?_
  refine lv_bipush (v := 10) hx hb dX6_init_148 (by decide) ?_
  refine lv_iload_n hx hb dX6_init_150 rfl (lv_at hl 0 rfl) ?_
  refine lv_iadd hx hb dX6_init_151 ?_
  refine lv_iconst (v := (-1)) hx hb dX6_init_152 (by decide) ?_
  refine sA_i hx hb hK hP hD hS 1 rfl 17 rfl (in_c rfl) dX6_init_153 (fun H locs f27 hf27 hP hD hS => ?_)
  have hP : va_P (gD G) vwCl [(h0, .inr (6, [.ref q1, .ref q2, .ref q3, .int 0, .ref q4, .ref q5, .int 0, .int 0, .int 0, .int 0, .int 0, .int 0, .ref q6, .ref q14, .int 0, .int 0, .int 0, .ref q15, .ref q16, .ref q17, .ref q18])), (q1, aI G 92 f27), (q2, aI G 92 z0), (q3, aI G 92 z0), (q4, aI G 8 z0), (q5, aI G 120 z0), (q6, aQ G 12 7 f13), (q14, aI G 600 z0), (q15, aI G 4 z0), (q16, aI G 4 z0), (q17, aI G 160 z0), (q18, aI G 40 z0)] H := hP
  have hD : va_D A [(h0, .inr (6, [.ref q1, .ref q2, .ref q3, .int 0, .ref q4, .ref q5, .int 0, .int 0, .int 0, .int 0, .int 0, .int 0, .ref q6, .ref q14, .int 0, .int 0, .int 0, .ref q15, .ref q16, .ref q17, .ref q18])), (q1, aI G 92 f27), (q2, aI G 92 z0), (q3, aI G 92 z0), (q4, aI G 8 z0), (q5, aI G 120 z0), (q6, aQ G 12 7 f13), (q14, aI G 600 z0), (q15, aI G 4 z0), (q16, aI G 4 z0), (q17, aI G 160 z0), (q18, aI G 40 z0)] := hD
  refine lv_iinc (v := 8) (lv' := [(1, .int 8), (0, .ref h0)]) hx hb dX6_init_154 hl (k := 0) rfl rfl (by decide) rfl (fun ls hl => ?_)
  refine lv_goto (tgt := 138) hx hb dX6_init_157 (by decide) ?_
  refine lv_iload_n hx hb dX6_init_138 rfl (lv_at hl 0 rfl) ?_
  refine lv_bipush (v := 10) hx hb dX6_init_139 (by decide) ?_
  refine lv_icmp_ge (tgt := 160) hx hb dX6_init_141 (by decide) (fun c9 => absurd c9 (by decide)) (fun c9 => ?_)
  refine lv_aload_n hx hb dX6_init_144 rfl (lv_at hl 1 rfl) ?_
  refine va_get (D := gD G) (ci := 6) (v := .ref q1) (C := RX6) (T := TX6) (N := 21) hx hb hts inT_6 hown hK hP 0 rfl rfl 0 (by decide) (hts (.fieldLink RX6 9 "FogSchoolModel" "now" "[I") w_707) (fun _ h9 => h9) rfl dX6_init_145 ?_
  refine lv_bipush (v := 10) hx hb dX6_init_148 (by decide) ?_
  refine lv_iload_n hx hb dX6_init_150 rfl (lv_at hl 0 rfl) ?_
  refine lv_iadd hx hb dX6_init_151 ?_
  refine lv_iconst (v := (-1)) hx hb dX6_init_152 (by decide) ?_
  refine sA_i hx hb hK hP hD hS 1 rfl 18 rfl (in_c rfl) dX6_init_153 (fun H locs f28 hf28 hP hD hS => ?_)
  have hP : va_P (gD G) vwCl [(h0, .inr (6, [.ref q1, .ref q2, .ref q3, .int 0, .ref q4, .ref q5, .int 0, .int 0, .int 0, .int 0, .int 0, .int 0, .ref q6, .ref q14, .int 0, .int 0, .int 0, .ref q15, .ref q16, .ref q17, .ref q18])), (q1, aI G 92 f28), (q2, aI G 92 z0), (q3, aI G 92 z0), (q4, aI G 8 z0), (q5, aI G 120 z0), (q6, aQ G 12 7 f13), (q14, aI G 600 z0), (q15, aI G 4 z0), (q16, aI G 4 z0), (q17, aI G 160 z0), (q18, aI G 40 z0)] H := hP
  have hD : va_D A [(h0, .inr (6, [.ref q1, .ref q2, .ref q3, .int 0, .ref q4, .ref q5, .int 0, .int 0, .int 0, .int 0, .int 0, .int 0, .ref q6, .ref q14, .int 0, .int 0, .int 0, .ref q15, .ref q16, .ref q17, .ref q18])), (q1, aI G 92 f28), (q2, aI G 92 z0), (q3, aI G 92 z0), (q4, aI G 8 z0), (q5, aI G 120 z0), (q6, aQ G 12 7 f13), (q14, aI G 600 z0), (q15, aI G 4 z0), (q16, aI G 4 z0), (q17, aI G 160 z0), (q18, aI G 40 z0)] := hD
  refine lv_iinc (v := 9) (lv' := [(1, .int 9), (0, .ref h0)]) hx hb dX6_init_154 hl (k := 0) rfl rfl (by decide) rfl (fun ls hl => ?_)
  refine lv_goto (tgt := 138) hx hb dX6_init_157 (by decide) ?_
  refine lv_iload_n hx hb dX6_init_138 rfl (lv_at hl 0 rfl) ?_
  refine lv_bipush (v := 10) hx hb dX6_init_139 (by decide) ?_
  refine lv_icmp_ge (tgt := 160) hx hb dX6_init_141 (by decide) (fun c9 => absurd c9 (by decide)) (fun c9 => ?_)
  refine lv_aload_n hx hb dX6_init_144 rfl (lv_at hl 1 rfl) ?_
  refine va_get (D := gD G) (ci := 6) (v := .ref q1) (C := RX6) (T := TX6) (N := 21) hx hb hts inT_6 hown hK hP 0 rfl rfl 0 (by decide) (hts (.fieldLink RX6 9 "FogSchoolModel" "now" "[I") w_707) (fun _ h9 => h9) rfl dX6_init_145 ?_
  refine lv_bipush (v := 10) hx hb dX6_init_148 (by decide) ?_
  refine lv_iload_n hx hb dX6_init_150 rfl (lv_at hl 0 rfl) ?_
  refine lv_iadd hx hb dX6_init_151 ?_
  refine lv_iconst (v := (-1)) hx hb dX6_init_152 (by decide) ?_
  refine sA_i hx hb hK hP hD hS 1 rfl 19 rfl (in_c rfl) dX6_init_153 (fun H locs f29 hf29 hP hD hS => ?_)
  have hP : va_P (gD G) vwCl [(h0, .inr (6, [.ref q1, .ref q2, .ref q3, .int 0, .ref q4, .ref q5, .int 0, .int 0, .int 0, .int 0, .int 0, .int 0, .ref q6, .ref q14, .int 0, .int 0, .int 0, .ref q15, .ref q16, .ref q17, .ref q18])), (q1, aI G 92 f29), (q2, aI G 92 z0), (q3, aI G 92 z0), (q4, aI G 8 z0), (q5, aI G 120 z0), (q6, aQ G 12 7 f13), (q14, aI G 600 z0), (q15, aI G 4 z0), (q16, aI G 4 z0), (q17, aI G 160 z0), (q18, aI G 40 z0)] H := hP
  have hD : va_D A [(h0, .inr (6, [.ref q1, .ref q2, .ref q3, .int 0, .ref q4, .ref q5, .int 0, .int 0, .int 0, .int 0, .int 0, .int 0, .ref q6, .ref q14, .int 0, .int 0, .int 0, .ref q15, .ref q16, .ref q17, .ref q18])), (q1, aI G 92 f29), (q2, aI G 92 z0), (q3, aI G 92 z0), (q4, aI G 8 z0), (q5, aI G 120 z0), (q6, aQ G 12 7 f13), (q14, aI G 600 z0), (q15, aI G 4 z0), (q16, aI G 4 z0), (q17, aI G 160 z0), (q18, aI G 40 z0)] := hD
  refine lv_iinc (v := 10) (lv' := [(1, .int 10), (0, .ref h0)]) hx hb dX6_init_154 hl (k := 0) rfl rfl (by decide) rfl (fun ls hl => ?_)
  refine lv_goto (tgt := 138) hx hb dX6_init_157 (by decide) ?_
  refine lv_iload_n hx hb dX6_init_138 rfl (lv_at hl 0 rfl) ?_
  refine lv_bipush (v := 10) hx hb dX6_init_139 (by decide) ?_
  refine lv_icmp_ge (tgt := 160) hx hb dX6_init_141 (by decide) (fun c9 => ?_) (fun c9 => absurd (by decide) c9)
  have e9 : va_at (gD G) vwCl (q6, aQ G 12 7 (fun j => some (sk G j))) H := va_at_q (hP 6 _ rfl) (fun j hj => by
    subst hf7; subst hf8; subst hf9; subst hf10; subst hf11; subst hf12; subst hf13
    rcases (show j = 0 ∨ j = 1 ∨ j = 2 ∨ j = 3 ∨ j = 4 ∨ j = 5 ∨ j = 6 by omega) with rfl | rfl | rfl | rfl | rfl | rfl | rfl <;> rfl)
  have hP9 := va_P_cg hP hD (i := 6) rfl e9
  have hD9 := hD.set (p := 6) (e := aQ G 12 7 (fun j => some (sk G j))) rfl
  have hP : va_P (gD G) vwCl [(h0, .inr (6, [.ref q1, .ref q2, .ref q3, .int 0, .ref q4, .ref q5, .int 0, .int 0, .int 0, .int 0, .int 0, .int 0, .ref q6, .ref q14, .int 0, .int 0, .int 0, .ref q15, .ref q16, .ref q17, .ref q18])), (q1, aI G 92 f29), (q2, aI G 92 z0), (q3, aI G 92 z0), (q4, aI G 8 z0), (q5, aI G 120 z0), (q6, aQ G 12 7 (fun j => some (sk G j))), (q14, aI G 600 z0), (q15, aI G 4 z0), (q16, aI G 4 z0), (q17, aI G 160 z0), (q18, aI G 40 z0)] H := hP9
  have hD : va_D A [(h0, .inr (6, [.ref q1, .ref q2, .ref q3, .int 0, .ref q4, .ref q5, .int 0, .int 0, .int 0, .int 0, .int 0, .int 0, .ref q6, .ref q14, .int 0, .int 0, .int 0, .ref q15, .ref q16, .ref q17, .ref q18])), (q1, aI G 92 f29), (q2, aI G 92 z0), (q3, aI G 92 z0), (q4, aI G 8 z0), (q5, aI G 120 z0), (q6, aQ G 12 7 (fun j => some (sk G j))), (q14, aI G 600 z0), (q15, aI G 4 z0), (q16, aI G 4 z0), (q17, aI G 160 z0), (q18, aI G 40 z0)] := hD9
  have e8 : f29 = mN := by
    subst hf19; subst hf20; subst hf21; subst hf22; subst hf23; subst hf24; subst hf25; subst hf26; subst hf27; subst hf28; subst hf29
    rfl
  rw [e8] at hP hD
  have hP : va_P (gD G) vwCl (mW G (fun i => [h0, q1, q2, q3, q4, q5, q14, q15, q16, q17, q18, q6].getD i 0)) H := hP.sub [0, 1, 2, 3, 4, 5, 7, 8, 9, 10, 11, 6] rfl
  have hD : va_D A (mW G (fun i => [h0, q1, q2, q3, q4, q5, q14, q15, q16, q17, q18, q6].getD i 0)) := hD.sub [0, 1, 2, 3, 4, 5, 7, 8, 9, 10, 11, 6] (by decide) rfl
  exact retN M (fun i => [h0, q1, q2, q3, q4, q5, q14, q15, q16, q17, q18, q6].getD i 0) rfl hP hD hS dX6_init_160
