theorem pre_at {α : Type} {P P' : List α} {is : List Nat} (hs : is.map (fun i => P[i]?) = P'.map some) {k : Nat} {q : α} (h : P'[k]? = some q) : ∃ i, is[k]? = some i ∧ P[i]? = some q := by
  have h1 : (is.map (fun i => P[i]?))[k]? = some (some q) := by rw [hs, List.getElem?_map, h]; rfl
  rw [List.getElem?_map] at h1
  cases hi : is[k]? with
  | none => rw [hi] at h1; cases h1
  | some i => rw [hi] at h1; exact ⟨i, rfl, Option.some.inj h1⟩
theorem pre_P {D : va_G} {cl : List vw_C} {P P' T : va_W} {H : Heap} (is : List Nat) (hs : is.map (fun i => P[i]?) = P'.map some) (hP : va_P D cl (P ++ T) H) : va_P D cl (P' ++ T) H := by
  refine va_P.app (fun k q h => ?_) (fun k q h => ?_)
  · obtain ⟨i, -, hi⟩ := pre_at hs h
    have hl := (List.getElem?_eq_some_iff.mp hi).1
    exact hP i q (by rw [List.getElem?_append_left hl]; exact hi)
  · exact hP (P.length + k) q (by rw [List.getElem?_append_right (by omega), Nat.add_sub_cancel_left]; exact h)
theorem pre_D {A : Nat → Prop} {P P' T : va_W} (is : List Nat) (hn : va_nd is = true) (hs : is.map (fun i => P[i]?) = P'.map some) (hD : va_D A (P ++ T)) : va_D A (P' ++ T) := by
  have hl : ∀ (i : Nat) (q : Nat × va_E), P[i]? = some q → (P ++ T)[i]? = some q ∧ i < P.length := fun i q h => by
    have hl := (List.getElem?_eq_some_iff.mp h).1
    exact ⟨by rw [List.getElem?_append_left hl]; exact h, hl⟩
  have hr : ∀ (k : Nat) (q : Nat × va_E), T[k]? = some q → (P ++ T)[P.length + k]? = some q := fun k q h => by
    rw [List.getElem?_append_right (by omega), Nat.add_sub_cancel_left]; exact h
  have h1 : va_D A P := ⟨fun i j p q hp hq hpq => hD.1 i j p q (hl i p hp).1 (hl j q hq).1 hpq, fun k q h => hD.2 k q (hl k q h).1⟩
  have h2 : va_D A T := ⟨fun i j p q hp hq hpq => by have := hD.1 _ _ p q (hr i p hp) (hr j q hq) hpq; omega, fun k q h => hD.2 _ q (hr k q h)⟩
  refine va_D.app (h1.sub is hn hs) h2 (fun i j p q hp hq hpq => ?_)
  obtain ⟨k, -, hk⟩ := pre_at hs hp
  have := hD.1 k _ p q (hl k p hk).1 (hr j q hq) hpq
  have := (hl k p hk).2
  omega
/-- a new school's own cells, by their places from 12 on; then the three coasts -/
def fP (G : GG) (w u1 u2 u3 : Nat → Nat) : va_W := [(w 0, .inr (5, [.ref (u1 0), .ref (u2 0), .ref (u3 0), .ref (w 11), .ref (w 2), .ref (w 1), .int 0])), (w 1, aI G 7 z0), (w 2, aQ G 11 4 (fun j => some (w (3 + j)))), (w 3, .inr (3, [.ref (w 7), .int 0, .int 0])), (w 4, .inr (3, [.ref (w 8), .int 0, .int 0])), (w 5, .inr (3, [.ref (w 9), .int 0, .int 0])), (w 6, .inr (3, [.ref (w 10), .int 0, .int 0])), (w 7, aI G 40 z0), (w 8, aI G 40 z0), (w 9, aI G 40 z0), (w 10, aI G 40 z0), (w 11, .inr (4, [.ref (w 12), .int 0, .int 0, .int 0, .int 0, .int 0])), (w 12, aB G 120 z0)]
def fW (G : GG) (w u1 u2 u3 : Nat → Nat) : va_W := fP G w u1 u2 u3 ++ ((cW G u1 ++ cW G u2) ++ cW G u3)
set_option maxHeartbeats 8000000 in
set_option maxRecDepth 100000 in
theorem c_X5_init (l : Launch) (G : GG) (h0 sz : Nat) : Met l yX5_init (cdW yX5_init cX5_init 2 none) ({ frames := 3, cells := 111, slots := 681, locals := 53 } : Room) (PN G h0 (.inr (5, [.null, .null, .null, .null, .null, .null, .int 0])) sz (fun _ => True)) (QN G h0 (.inr (5, [.null, .null, .null, .null, .null, .null, .int 0])) sz (fun u : (Nat → Nat) × (Nat → Nat) × (Nat → Nat) × (Nat → Nat) => u.1 0 = h0) (fun u => fW G u.1 u.2.1 u.2.2.1 u.2.2.2)) 111 681 (va_A [(h0, .inr (5, [.null, .null, .null, .null, .null, .null, .int 0]))] sz) := by
  refine met_new RX5 (by decide) rfl rfl (by decide) ?_
  intro p e s m below meth c A M hE hAe hA hP hD ls hl
  have hx := M.1.1
  have hb := M.1.2.1
  have hown := M.1.2.2.2.1
  have hts := M.1.2.2.2.2
  have hin := M.2.2.2.1
  have hK := M.2.2.2.2.1
  have hN := M.2.2.2.2.2
  have hS : va_S A s.heap s.heap [] := va_S.rf
  refine lv_aload_n hx hb dX5_init_0 rfl (lv_at hl 0 rfl) ?_
  refine kO (b0 := h0) M.1 w_21 hl.1 (Nat.le_of_ble_eq_true rfl) (Nat.le_of_ble_eq_true rfl) dX5_init_1 ?_
  refine lv_aload_n hx hb dX5_init_4 rfl (lv_at hl 0 rfl) ?_
  refine va_new (ci := 1) (fs := [.null, .null, .null, .null, .int 0, .int 0, .int 0, .int 0]) (C := RX1) (T := TX1) (N := 8) hx hb hts inT_1 tyX1 tyX1_ok hown (hts (.classLink RX5 7 RX1) w_24) (hts (.instantiable RX1 8) w_25) (hts (.initialized RX1) w_2) hK hP hD hS hA rfl nf_1 (Nat.le_of_ble_eq_true rfl) (Nat.le_of_ble_eq_true rfl) dX5_init_5 (fun q1 H hP hD hS => ?_)
  refine W.widen (k := 1) (n := 8) (Nat.le_of_ble_eq_true rfl) (Nat.le_of_ble_eq_true rfl) ?_
  refine lv_dup hx hb dX5_init_8 rfl ?_
  refine kN M.1 hK hN hP hD hS hA (fun _ _ _ _ h => h) (fun _ _ _ => trivial) (c_X1_init l G q1 H.size) okI_5_9 rfl rfl ⟨Nat.le_of_ble_eq_true rfl, Nat.le_of_ble_eq_true rfl⟩ hl.1 (Nat.le_of_ble_eq_true rfl) ⟨Nat.le_of_ble_eq_true rfl, Nat.le_of_ble_eq_true rfl⟩ dX5_init_9 (fun u2 H locs hu2 hP hD hS => ?_)
  refine W.widen (k := 33) (n := 124) (Nat.le_of_ble_eq_true rfl) (Nat.le_of_ble_eq_true rfl) ?_
  have hP : va_P (gD G) vwCl ((h0, .inr (5, [.null, .null, .null, .null, .null, .null, .int 0])) :: cW G u2) H := hP
  have hD : va_D A ((h0, .inr (5, [.null, .null, .null, .null, .null, .null, .int 0])) :: cW G u2) := hD
  refine va_putF (D := gD G) (ci := 5) (v := .ref q1) (ty := .object "FogSchool$Coast") (C := RX5) (T := TX5) (N := 7) hx hb hts inT_5 tyX5 tyX5_ok nmX5 hown hK hP hD hS 0 rfl rfl 0 (by decide) (hts (.fieldLink RX5 10 "FogSchool" "coast" "LFogSchool$Coast;") w_145) (fun _ h9 => h9) rfl hin rfl (by decide +kernel) rfl rfl (Nat.le_of_ble_eq_true rfl) dX5_init_12 (fun H locs hP hD hS => ?_)
  have hP : va_P (gD G) vwCl ((h0, .inr (5, [.ref q1, .null, .null, .null, .null, .null, .int 0])) :: cW G u2) H := hP
  have hD : va_D A ((h0, .inr (5, [.ref q1, .null, .null, .null, .null, .null, .int 0])) :: cW G u2) := hD
  refine lv_aload_n hx hb dX5_init_15 rfl (lv_at hl 0 rfl) ?_
  refine va_new (ci := 1) (fs := [.null, .null, .null, .null, .int 0, .int 0, .int 0, .int 0]) (C := RX1) (T := TX1) (N := 8) hx hb hts inT_1 tyX1 tyX1_ok hown (hts (.classLink RX5 7 RX1) w_24) (hts (.instantiable RX1 8) w_25) (hts (.initialized RX1) w_2) hK hP hD hS hA rfl nf_1 (Nat.le_of_ble_eq_true rfl) (Nat.le_of_ble_eq_true rfl) dX5_init_16 (fun q3 H hP hD hS => ?_)
  refine W.widen (k := 34) (n := 132) (Nat.le_of_ble_eq_true rfl) (Nat.le_of_ble_eq_true rfl) ?_
  refine lv_dup hx hb dX5_init_19 rfl ?_
  refine kN M.1 hK hN hP hD hS hA (fun _ _ _ _ h => h) (fun _ _ _ => trivial) (c_X1_init l G q3 H.size) okI_5_9 rfl rfl ⟨Nat.le_of_ble_eq_true rfl, Nat.le_of_ble_eq_true rfl⟩ hl.1 (Nat.le_of_ble_eq_true rfl) ⟨Nat.le_of_ble_eq_true rfl, Nat.le_of_ble_eq_true rfl⟩ dX5_init_20 (fun u4 H locs hu4 hP hD hS => ?_)
  refine W.widen (k := 66) (n := 248) (Nat.le_of_ble_eq_true rfl) (Nat.le_of_ble_eq_true rfl) ?_
  have hP : va_P (gD G) vwCl ((h0, .inr (5, [.ref q1, .null, .null, .null, .null, .null, .int 0])) :: (cW G u2 ++ cW G u4)) H := hP
  have hD : va_D A ((h0, .inr (5, [.ref q1, .null, .null, .null, .null, .null, .int 0])) :: (cW G u2 ++ cW G u4)) := hD
  refine va_putF (D := gD G) (ci := 5) (v := .ref q3) (ty := .object "FogSchool$Coast") (C := RX5) (T := TX5) (N := 7) hx hb hts inT_5 tyX5 tyX5_ok nmX5 hown hK hP hD hS 0 rfl rfl 1 (by decide) (hts (.fieldLink RX5 16 "FogSchool" "draft" "LFogSchool$Coast;") w_146) (fun _ h9 => h9) rfl hin rfl (by decide +kernel) rfl rfl (Nat.le_of_ble_eq_true rfl) dX5_init_23 (fun H locs hP hD hS => ?_)
  have hP : va_P (gD G) vwCl ((h0, .inr (5, [.ref q1, .ref q3, .null, .null, .null, .null, .int 0])) :: (cW G u2 ++ cW G u4)) H := hP
  have hD : va_D A ((h0, .inr (5, [.ref q1, .ref q3, .null, .null, .null, .null, .int 0])) :: (cW G u2 ++ cW G u4)) := hD
  refine lv_aload_n hx hb dX5_init_26 rfl (lv_at hl 0 rfl) ?_
  refine va_new (ci := 1) (fs := [.null, .null, .null, .null, .int 0, .int 0, .int 0, .int 0]) (C := RX1) (T := TX1) (N := 8) hx hb hts inT_1 tyX1 tyX1_ok hown (hts (.classLink RX5 7 RX1) w_24) (hts (.instantiable RX1 8) w_25) (hts (.initialized RX1) w_2) hK hP hD hS hA rfl nf_1 (Nat.le_of_ble_eq_true rfl) (Nat.le_of_ble_eq_true rfl) dX5_init_27 (fun q5 H hP hD hS => ?_)
  refine W.widen (k := 67) (n := 256) (Nat.le_of_ble_eq_true rfl) (Nat.le_of_ble_eq_true rfl) ?_
  refine lv_dup hx hb dX5_init_30 rfl ?_
  refine kN M.1 hK hN hP hD hS hA (fun _ _ _ _ h => h) (fun _ _ _ => trivial) (c_X1_init l G q5 H.size) okI_5_9 rfl rfl ⟨Nat.le_of_ble_eq_true rfl, Nat.le_of_ble_eq_true rfl⟩ hl.1 (Nat.le_of_ble_eq_true rfl) ⟨Nat.le_of_ble_eq_true rfl, Nat.le_of_ble_eq_true rfl⟩ dX5_init_31 (fun u6 H locs hu6 hP hD hS => ?_)
  refine W.widen (k := 99) (n := 372) (Nat.le_of_ble_eq_true rfl) (Nat.le_of_ble_eq_true rfl) ?_
  have hP : va_P (gD G) vwCl ((h0, .inr (5, [.ref q1, .ref q3, .null, .null, .null, .null, .int 0])) :: ((cW G u2 ++ cW G u4) ++ cW G u6)) H := hP
  have hD : va_D A ((h0, .inr (5, [.ref q1, .ref q3, .null, .null, .null, .null, .int 0])) :: ((cW G u2 ++ cW G u4) ++ cW G u6)) := hD
  refine va_putF (D := gD G) (ci := 5) (v := .ref q5) (ty := .object "FogSchool$Coast") (C := RX5) (T := TX5) (N := 7) hx hb hts inT_5 tyX5 tyX5_ok nmX5 hown hK hP hD hS 0 rfl rfl 2 (by decide) (hts (.fieldLink RX5 19 "FogSchool" "kept" "LFogSchool$Coast;") w_147) (fun _ h9 => h9) rfl hin rfl (by decide +kernel) rfl rfl (Nat.le_of_ble_eq_true rfl) dX5_init_34 (fun H locs hP hD hS => ?_)
  have hP : va_P (gD G) vwCl ((h0, .inr (5, [.ref q1, .ref q3, .ref q5, .null, .null, .null, .int 0])) :: ((cW G u2 ++ cW G u4) ++ cW G u6)) H := hP
  have hD : va_D A ((h0, .inr (5, [.ref q1, .ref q3, .ref q5, .null, .null, .null, .int 0])) :: ((cW G u2 ++ cW G u4) ++ cW G u6)) := hD
  refine lv_aload_n hx hb dX5_init_37 rfl (lv_at hl 0 rfl) ?_
  refine va_new (ci := 4) (fs := [.null, .int 0, .int 0, .int 0, .int 0, .int 0]) (C := RX4) (T := TX4) (N := 6) hx hb hts inT_4 tyX4 tyX4_ok hown (hts (.classLink RX5 22 RX4) w_98) (hts (.instantiable RX4 6) w_99) (hts (.initialized RX4) w_6) hK hP hD hS hA rfl nf_4 (Nat.le_of_ble_eq_true rfl) (Nat.le_of_ble_eq_true rfl) dX5_init_38 (fun q7 H hP hD hS => ?_)
  refine W.widen (k := 100) (n := 378) (Nat.le_of_ble_eq_true rfl) (Nat.le_of_ble_eq_true rfl) ?_
  refine lv_dup hx hb dX5_init_41 rfl ?_
  refine kN M.1 hK hN hP hD hS hA (fun _ _ _ _ h => h) (fun _ _ _ => trivial) (c_X4_init l G q7 H.size) okI_5_24 rfl rfl ⟨Nat.le_of_ble_eq_true rfl, Nat.le_of_ble_eq_true rfl⟩ hl.1 (Nat.le_of_ble_eq_true rfl) ⟨Nat.le_of_ble_eq_true rfl, Nat.le_of_ble_eq_true rfl⟩ dX5_init_42 (fun q8 H locs hq8 hP hD hS => ?_)
  refine W.widen (k := 101) (n := 498) (Nat.le_of_ble_eq_true rfl) (Nat.le_of_ble_eq_true rfl) ?_
  have hP := rotP (P := [(h0, .inr (5, [.ref q1, .ref q3, .ref q5, .null, .null, .null, .int 0]))]) (T := ((cW G u2 ++ cW G u4) ++ cW G u6)) (Z := [(q7, .inr (4, [.ref q8, .int 0, .int 0, .int 0, .int 0, .int 0])), (q8, aB G 120 z0)]) hP
  have hD := rotD (P := [(h0, .inr (5, [.ref q1, .ref q3, .ref q5, .null, .null, .null, .int 0]))]) (T := ((cW G u2 ++ cW G u4) ++ cW G u6)) (Z := [(q7, .inr (4, [.ref q8, .int 0, .int 0, .int 0, .int 0, .int 0])), (q8, aB G 120 z0)]) hD
  have hP : va_P (gD G) vwCl ((h0, .inr (5, [.ref q1, .ref q3, .ref q5, .null, .null, .null, .int 0])) :: (q7, .inr (4, [.ref q8, .int 0, .int 0, .int 0, .int 0, .int 0])) :: (q8, aB G 120 z0) :: ((cW G u2 ++ cW G u4) ++ cW G u6)) H := hP
  have hD : va_D A ((h0, .inr (5, [.ref q1, .ref q3, .ref q5, .null, .null, .null, .int 0])) :: (q7, .inr (4, [.ref q8, .int 0, .int 0, .int 0, .int 0, .int 0])) :: (q8, aB G 120 z0) :: ((cW G u2 ++ cW G u4) ++ cW G u6)) := hD
  refine va_putF (D := gD G) (ci := 5) (v := .ref q7) (ty := .object "FogSchool$Tape") (C := RX5) (T := TX5) (N := 7) hx hb hts inT_5 tyX5 tyX5_ok nmX5 hown hK hP hD hS 0 rfl rfl 3 (by decide) (hts (.fieldLink RX5 25 "FogSchool" "tape" "LFogSchool$Tape;") w_148) (fun _ h9 => h9) rfl hin rfl (by decide +kernel) rfl rfl (Nat.le_of_ble_eq_true rfl) dX5_init_45 (fun H locs hP hD hS => ?_)
  have hP : va_P (gD G) vwCl ((h0, .inr (5, [.ref q1, .ref q3, .ref q5, .ref q7, .null, .null, .int 0])) :: (q7, .inr (4, [.ref q8, .int 0, .int 0, .int 0, .int 0, .int 0])) :: (q8, aB G 120 z0) :: ((cW G u2 ++ cW G u4) ++ cW G u6)) H := hP
  have hD : va_D A ((h0, .inr (5, [.ref q1, .ref q3, .ref q5, .ref q7, .null, .null, .int 0])) :: (q7, .inr (4, [.ref q8, .int 0, .int 0, .int 0, .int 0, .int 0])) :: (q8, aB G 120 z0) :: ((cW G u2 ++ cW G u4) ++ cW G u6)) := hD
  refine lv_aload_n hx hb dX5_init_48 rfl (lv_at hl 0 rfl) ?_
  refine lv_iconst (v := 4) hx hb dX5_init_49 (by decide) ?_
  refine nA_q (own := RX5) hx hb hown 4 11 rfl (hts _ w_125) hN.2.2.1 hK hP hD hS hA 4 (by decide) rfl (Nat.le_of_ble_eq_true rfl) (Nat.le_of_ble_eq_true rfl) (Nat.le_of_ble_eq_true rfl) dX5_init_50 (fun q9 H hP hD hS => ?_)
  have hP := rotP (P := [(h0, .inr (5, [.ref q1, .ref q3, .ref q5, .ref q7, .null, .null, .int 0])), (q7, .inr (4, [.ref q8, .int 0, .int 0, .int 0, .int 0, .int 0])), (q8, aB G 120 z0)]) (T := ((cW G u2 ++ cW G u4) ++ cW G u6)) (Z := [(q9, aQ G 11 4 n0)]) hP
  have hD := rotD (P := [(h0, .inr (5, [.ref q1, .ref q3, .ref q5, .ref q7, .null, .null, .int 0])), (q7, .inr (4, [.ref q8, .int 0, .int 0, .int 0, .int 0, .int 0])), (q8, aB G 120 z0)]) (T := ((cW G u2 ++ cW G u4) ++ cW G u6)) (Z := [(q9, aQ G 11 4 n0)]) hD
  have hP : va_P (gD G) vwCl ((h0, .inr (5, [.ref q1, .ref q3, .ref q5, .ref q7, .null, .null, .int 0])) :: (q7, .inr (4, [.ref q8, .int 0, .int 0, .int 0, .int 0, .int 0])) :: (q8, aB G 120 z0) :: (q9, aQ G 11 4 n0) :: ((cW G u2 ++ cW G u4) ++ cW G u6)) H := hP
  have hD : va_D A ((h0, .inr (5, [.ref q1, .ref q3, .ref q5, .ref q7, .null, .null, .int 0])) :: (q7, .inr (4, [.ref q8, .int 0, .int 0, .int 0, .int 0, .int 0])) :: (q8, aB G 120 z0) :: (q9, aQ G 11 4 n0) :: ((cW G u2 ++ cW G u4) ++ cW G u6)) := hD
  refine W.widen (k := 102) (n := 502) (Nat.le_of_ble_eq_true rfl) (Nat.le_of_ble_eq_true rfl) ?_
  refine va_putF (D := gD G) (ci := 5) (v := .ref q9) (ty := .array (.object "FogSchool$Sheet")) (C := RX5) (T := TX5) (N := 7) hx hb hts inT_5 tyX5 tyX5_ok nmX5 hown hK hP hD hS 0 rfl rfl 4 (by decide) (hts (.fieldLink RX5 31 "FogSchool" "sheets" "[LFogSchool$Sheet;") w_149) (fun _ h9 => h9) rfl hin rfl (by decide +kernel) rfl rfl (Nat.le_of_ble_eq_true rfl) dX5_init_53 (fun H locs hP hD hS => ?_)
  have hP : va_P (gD G) vwCl ((h0, .inr (5, [.ref q1, .ref q3, .ref q5, .ref q7, .ref q9, .null, .int 0])) :: (q7, .inr (4, [.ref q8, .int 0, .int 0, .int 0, .int 0, .int 0])) :: (q8, aB G 120 z0) :: (q9, aQ G 11 4 n0) :: ((cW G u2 ++ cW G u4) ++ cW G u6)) H := hP
  have hD : va_D A ((h0, .inr (5, [.ref q1, .ref q3, .ref q5, .ref q7, .ref q9, .null, .int 0])) :: (q7, .inr (4, [.ref q8, .int 0, .int 0, .int 0, .int 0, .int 0])) :: (q8, aB G 120 z0) :: (q9, aQ G 11 4 n0) :: ((cW G u2 ++ cW G u4) ++ cW G u6)) := hD
  refine lv_iconst (v := 0) hx hb dX5_init_56 (by decide) ?_
  refine lv_istore_n (lv' := [(1, .int 0), (0, .ref h0)]) hx hb dX5_init_57 rfl hl (by decide) rfl (fun ls hl => ?_)
  refine lv_iload_n hx hb dX5_init_58 rfl (lv_at hl 0 rfl) ?_
  refine lv_iconst (v := 4) hx hb dX5_init_59 (by decide) ?_
  refine lv_icmp_ge (tgt := 82) hx hb dX5_init_60 (by decide) (fun c9 => absurd c9 (by decide)) (fun c9 => ?_)
  refine lv_aload_n hx hb dX5_init_63 rfl (lv_at hl 1 rfl) ?_
  refine va_get (D := gD G) (ci := 5) (v := .ref q9) (C := RX5) (T := TX5) (N := 7) hx hb hts inT_5 hown hK hP 0 rfl rfl 4 (by decide) (hts (.fieldLink RX5 31 "FogSchool" "sheets" "[LFogSchool$Sheet;") w_149) (fun _ h9 => h9) rfl dX5_init_64 ?_
  refine lv_iload_n hx hb dX5_init_67 rfl (lv_at hl 0 rfl) ?_
  refine va_new (ci := 3) (fs := [.null, .int 0, .int 0]) (C := RX3) (T := TX3) (N := 3) hx hb hts inT_3 tyX3 tyX3_ok hown (hts (.classLink RX5 29 RX3) w_125) (hts (.instantiable RX3 3) w_127) (hts (.initialized RX3) w_7) hK hP hD hS hA rfl nf_3 (Nat.le_of_ble_eq_true rfl) (Nat.le_of_ble_eq_true rfl) dX5_init_68 (fun q10 H hP hD hS => ?_)
  refine W.widen (k := 103) (n := 505) (Nat.le_of_ble_eq_true rfl) (Nat.le_of_ble_eq_true rfl) ?_
  refine lv_dup hx hb dX5_init_71 rfl ?_
  refine kN M.1 hK hN hP hD hS hA (fun _ _ _ _ h => h) (fun _ _ _ => trivial) (c_X3_init l G q10 H.size) okI_5_35 rfl rfl ⟨Nat.le_of_ble_eq_true rfl, Nat.le_of_ble_eq_true rfl⟩ hl.1 (Nat.le_of_ble_eq_true rfl) ⟨Nat.le_of_ble_eq_true rfl, Nat.le_of_ble_eq_true rfl⟩ dX5_init_72 (fun q11 H locs hq11 hP hD hS => ?_)
  refine W.widen (k := 104) (n := 545) (Nat.le_of_ble_eq_true rfl) (Nat.le_of_ble_eq_true rfl) ?_
  have hP := rotP (P := [(h0, .inr (5, [.ref q1, .ref q3, .ref q5, .ref q7, .ref q9, .null, .int 0])), (q7, .inr (4, [.ref q8, .int 0, .int 0, .int 0, .int 0, .int 0])), (q8, aB G 120 z0), (q9, aQ G 11 4 n0)]) (T := ((cW G u2 ++ cW G u4) ++ cW G u6)) (Z := [(q10, .inr (3, [.ref q11, .int 0, .int 0])), (q11, aI G 40 z0)]) hP
  have hD := rotD (P := [(h0, .inr (5, [.ref q1, .ref q3, .ref q5, .ref q7, .ref q9, .null, .int 0])), (q7, .inr (4, [.ref q8, .int 0, .int 0, .int 0, .int 0, .int 0])), (q8, aB G 120 z0), (q9, aQ G 11 4 n0)]) (T := ((cW G u2 ++ cW G u4) ++ cW G u6)) (Z := [(q10, .inr (3, [.ref q11, .int 0, .int 0])), (q11, aI G 40 z0)]) hD
  have hP : va_P (gD G) vwCl ((h0, .inr (5, [.ref q1, .ref q3, .ref q5, .ref q7, .ref q9, .null, .int 0])) :: (q7, .inr (4, [.ref q8, .int 0, .int 0, .int 0, .int 0, .int 0])) :: (q8, aB G 120 z0) :: (q9, aQ G 11 4 n0) :: (q10, .inr (3, [.ref q11, .int 0, .int 0])) :: (q11, aI G 40 z0) :: ((cW G u2 ++ cW G u4) ++ cW G u6)) H := hP
  have hD : va_D A ((h0, .inr (5, [.ref q1, .ref q3, .ref q5, .ref q7, .ref q9, .null, .int 0])) :: (q7, .inr (4, [.ref q8, .int 0, .int 0, .int 0, .int 0, .int 0])) :: (q8, aB G 120 z0) :: (q9, aQ G 11 4 n0) :: (q10, .inr (3, [.ref q11, .int 0, .int 0])) :: (q11, aI G 40 z0) :: ((cW G u2 ++ cW G u4) ++ cW G u6)) := hD
  refine sA_q (r := (RX3, TX3, 3)) hx hb hK hP hD hS 3 4 4 3 rfl rfl rfl rfl 0 rfl (in_c rfl) dX5_init_75 (fun H locs f12 hf12 hP hD hS => ?_)
  have hP : va_P (gD G) vwCl ((h0, .inr (5, [.ref q1, .ref q3, .ref q5, .ref q7, .ref q9, .null, .int 0])) :: (q7, .inr (4, [.ref q8, .int 0, .int 0, .int 0, .int 0, .int 0])) :: (q8, aB G 120 z0) :: (q9, aQ G 11 4 f12) :: (q10, .inr (3, [.ref q11, .int 0, .int 0])) :: (q11, aI G 40 z0) :: ((cW G u2 ++ cW G u4) ++ cW G u6)) H := hP
  have hD : va_D A ((h0, .inr (5, [.ref q1, .ref q3, .ref q5, .ref q7, .ref q9, .null, .int 0])) :: (q7, .inr (4, [.ref q8, .int 0, .int 0, .int 0, .int 0, .int 0])) :: (q8, aB G 120 z0) :: (q9, aQ G 11 4 f12) :: (q10, .inr (3, [.ref q11, .int 0, .int 0])) :: (q11, aI G 40 z0) :: ((cW G u2 ++ cW G u4) ++ cW G u6)) := hD
  refine lv_iinc (v := 1) (lv' := [(1, .int 1), (0, .ref h0)]) hx hb dX5_init_76 hl (k := 0) rfl rfl (by decide) rfl (fun ls hl => ?_)
  refine lv_goto (tgt := 58) hx hb dX5_init_79 (by decide) ?_
  refine lv_iload_n hx hb dX5_init_58 rfl (lv_at hl 0 rfl) ?_
  refine lv_iconst (v := 4) hx hb dX5_init_59 (by decide) ?_
  refine lv_icmp_ge (tgt := 82) hx hb dX5_init_60 (by decide) (fun c9 => absurd c9 (by decide)) (fun c9 => ?_)
  refine lv_aload_n hx hb dX5_init_63 rfl (lv_at hl 1 rfl) ?_
  refine va_get (D := gD G) (ci := 5) (v := .ref q9) (C := RX5) (T := TX5) (N := 7) hx hb hts inT_5 hown hK hP 0 rfl rfl 4 (by decide) (hts (.fieldLink RX5 31 "FogSchool" "sheets" "[LFogSchool$Sheet;") w_149) (fun _ h9 => h9) rfl dX5_init_64 ?_
  refine lv_iload_n hx hb dX5_init_67 rfl (lv_at hl 0 rfl) ?_
  refine va_new (ci := 3) (fs := [.null, .int 0, .int 0]) (C := RX3) (T := TX3) (N := 3) hx hb hts inT_3 tyX3 tyX3_ok hown (hts (.classLink RX5 29 RX3) w_125) (hts (.instantiable RX3 3) w_127) (hts (.initialized RX3) w_7) hK hP hD hS hA rfl nf_3 (Nat.le_of_ble_eq_true rfl) (Nat.le_of_ble_eq_true rfl) dX5_init_68 (fun q13 H hP hD hS => ?_)
  refine W.widen (k := 105) (n := 548) (Nat.le_of_ble_eq_true rfl) (Nat.le_of_ble_eq_true rfl) ?_
  refine lv_dup hx hb dX5_init_71 rfl ?_
  refine kN M.1 hK hN hP hD hS hA (fun _ _ _ _ h => h) (fun _ _ _ => trivial) (c_X3_init l G q13 H.size) okI_5_35 rfl rfl ⟨Nat.le_of_ble_eq_true rfl, Nat.le_of_ble_eq_true rfl⟩ hl.1 (Nat.le_of_ble_eq_true rfl) ⟨Nat.le_of_ble_eq_true rfl, Nat.le_of_ble_eq_true rfl⟩ dX5_init_72 (fun q14 H locs hq14 hP hD hS => ?_)
  refine W.widen (k := 106) (n := 588) (Nat.le_of_ble_eq_true rfl) (Nat.le_of_ble_eq_true rfl) ?_
  have hP := rotP (P := [(h0, .inr (5, [.ref q1, .ref q3, .ref q5, .ref q7, .ref q9, .null, .int 0])), (q7, .inr (4, [.ref q8, .int 0, .int 0, .int 0, .int 0, .int 0])), (q8, aB G 120 z0), (q9, aQ G 11 4 f12), (q10, .inr (3, [.ref q11, .int 0, .int 0])), (q11, aI G 40 z0)]) (T := ((cW G u2 ++ cW G u4) ++ cW G u6)) (Z := [(q13, .inr (3, [.ref q14, .int 0, .int 0])), (q14, aI G 40 z0)]) hP
  have hD := rotD (P := [(h0, .inr (5, [.ref q1, .ref q3, .ref q5, .ref q7, .ref q9, .null, .int 0])), (q7, .inr (4, [.ref q8, .int 0, .int 0, .int 0, .int 0, .int 0])), (q8, aB G 120 z0), (q9, aQ G 11 4 f12), (q10, .inr (3, [.ref q11, .int 0, .int 0])), (q11, aI G 40 z0)]) (T := ((cW G u2 ++ cW G u4) ++ cW G u6)) (Z := [(q13, .inr (3, [.ref q14, .int 0, .int 0])), (q14, aI G 40 z0)]) hD
  have hP : va_P (gD G) vwCl ((h0, .inr (5, [.ref q1, .ref q3, .ref q5, .ref q7, .ref q9, .null, .int 0])) :: (q7, .inr (4, [.ref q8, .int 0, .int 0, .int 0, .int 0, .int 0])) :: (q8, aB G 120 z0) :: (q9, aQ G 11 4 f12) :: (q10, .inr (3, [.ref q11, .int 0, .int 0])) :: (q11, aI G 40 z0) :: (q13, .inr (3, [.ref q14, .int 0, .int 0])) :: (q14, aI G 40 z0) :: ((cW G u2 ++ cW G u4) ++ cW G u6)) H := hP
  have hD : va_D A ((h0, .inr (5, [.ref q1, .ref q3, .ref q5, .ref q7, .ref q9, .null, .int 0])) :: (q7, .inr (4, [.ref q8, .int 0, .int 0, .int 0, .int 0, .int 0])) :: (q8, aB G 120 z0) :: (q9, aQ G 11 4 f12) :: (q10, .inr (3, [.ref q11, .int 0, .int 0])) :: (q11, aI G 40 z0) :: (q13, .inr (3, [.ref q14, .int 0, .int 0])) :: (q14, aI G 40 z0) :: ((cW G u2 ++ cW G u4) ++ cW G u6)) := hD
  refine sA_q (r := (RX3, TX3, 3)) hx hb hK hP hD hS 3 4 6 3 rfl rfl rfl rfl 1 rfl (in_c rfl) dX5_init_75 (fun H locs f15 hf15 hP hD hS => ?_)
  have hP : va_P (gD G) vwCl ((h0, .inr (5, [.ref q1, .ref q3, .ref q5, .ref q7, .ref q9, .null, .int 0])) :: (q7, .inr (4, [.ref q8, .int 0, .int 0, .int 0, .int 0, .int 0])) :: (q8, aB G 120 z0) :: (q9, aQ G 11 4 f15) :: (q10, .inr (3, [.ref q11, .int 0, .int 0])) :: (q11, aI G 40 z0) :: (q13, .inr (3, [.ref q14, .int 0, .int 0])) :: (q14, aI G 40 z0) :: ((cW G u2 ++ cW G u4) ++ cW G u6)) H := hP
  have hD : va_D A ((h0, .inr (5, [.ref q1, .ref q3, .ref q5, .ref q7, .ref q9, .null, .int 0])) :: (q7, .inr (4, [.ref q8, .int 0, .int 0, .int 0, .int 0, .int 0])) :: (q8, aB G 120 z0) :: (q9, aQ G 11 4 f15) :: (q10, .inr (3, [.ref q11, .int 0, .int 0])) :: (q11, aI G 40 z0) :: (q13, .inr (3, [.ref q14, .int 0, .int 0])) :: (q14, aI G 40 z0) :: ((cW G u2 ++ cW G u4) ++ cW G u6)) := hD
  refine lv_iinc (v := 2) (lv' := [(1, .int 2), (0, .ref h0)]) hx hb dX5_init_76 hl (k := 0) rfl rfl (by decide) rfl (fun ls hl => ?_)
  refine lv_goto (tgt := 58) hx hb dX5_init_79 (by decide) ?_
  refine lv_iload_n hx hb dX5_init_58 rfl (lv_at hl 0 rfl) ?_
  refine lv_iconst (v := 4) hx hb dX5_init_59 (by decide) ?_
  refine lv_icmp_ge (tgt := 82) hx hb dX5_init_60 (by decide) (fun c9 => absurd c9 (by decide)) (fun c9 => ?_)
  refine lv_aload_n hx hb dX5_init_63 rfl (lv_at hl 1 rfl) ?_
  refine va_get (D := gD G) (ci := 5) (v := .ref q9) (C := RX5) (T := TX5) (N := 7) hx hb hts inT_5 hown hK hP 0 rfl rfl 4 (by decide) (hts (.fieldLink RX5 31 "FogSchool" "sheets" "[LFogSchool$Sheet;") w_149) (fun _ h9 => h9) rfl dX5_init_64 ?_
  refine lv_iload_n hx hb dX5_init_67 rfl (lv_at hl 0 rfl) ?_
  refine va_new (ci := 3) (fs := [.null, .int 0, .int 0]) (C := RX3) (T := TX3) (N := 3) hx hb hts inT_3 tyX3 tyX3_ok hown (hts (.classLink RX5 29 RX3) w_125) (hts (.instantiable RX3 3) w_127) (hts (.initialized RX3) w_7) hK hP hD hS hA rfl nf_3 (Nat.le_of_ble_eq_true rfl) (Nat.le_of_ble_eq_true rfl) dX5_init_68 (fun q16 H hP hD hS => ?_)
  refine W.widen (k := 107) (n := 591) (Nat.le_of_ble_eq_true rfl) (Nat.le_of_ble_eq_true rfl) ?_
  refine lv_dup hx hb dX5_init_71 rfl ?_
  refine kN M.1 hK hN hP hD hS hA (fun _ _ _ _ h => h) (fun _ _ _ => trivial) (c_X3_init l G q16 H.size) okI_5_35 rfl rfl ⟨Nat.le_of_ble_eq_true rfl, Nat.le_of_ble_eq_true rfl⟩ hl.1 (Nat.le_of_ble_eq_true rfl) ⟨Nat.le_of_ble_eq_true rfl, Nat.le_of_ble_eq_true rfl⟩ dX5_init_72 (fun q17 H locs hq17 hP hD hS => ?_)
  refine W.widen (k := 108) (n := 631) (Nat.le_of_ble_eq_true rfl) (Nat.le_of_ble_eq_true rfl) ?_
  have hP := rotP (P := [(h0, .inr (5, [.ref q1, .ref q3, .ref q5, .ref q7, .ref q9, .null, .int 0])), (q7, .inr (4, [.ref q8, .int 0, .int 0, .int 0, .int 0, .int 0])), (q8, aB G 120 z0), (q9, aQ G 11 4 f15), (q10, .inr (3, [.ref q11, .int 0, .int 0])), (q11, aI G 40 z0), (q13, .inr (3, [.ref q14, .int 0, .int 0])), (q14, aI G 40 z0)]) (T := ((cW G u2 ++ cW G u4) ++ cW G u6)) (Z := [(q16, .inr (3, [.ref q17, .int 0, .int 0])), (q17, aI G 40 z0)]) hP
  have hD := rotD (P := [(h0, .inr (5, [.ref q1, .ref q3, .ref q5, .ref q7, .ref q9, .null, .int 0])), (q7, .inr (4, [.ref q8, .int 0, .int 0, .int 0, .int 0, .int 0])), (q8, aB G 120 z0), (q9, aQ G 11 4 f15), (q10, .inr (3, [.ref q11, .int 0, .int 0])), (q11, aI G 40 z0), (q13, .inr (3, [.ref q14, .int 0, .int 0])), (q14, aI G 40 z0)]) (T := ((cW G u2 ++ cW G u4) ++ cW G u6)) (Z := [(q16, .inr (3, [.ref q17, .int 0, .int 0])), (q17, aI G 40 z0)]) hD
  have hP : va_P (gD G) vwCl ((h0, .inr (5, [.ref q1, .ref q3, .ref q5, .ref q7, .ref q9, .null, .int 0])) :: (q7, .inr (4, [.ref q8, .int 0, .int 0, .int 0, .int 0, .int 0])) :: (q8, aB G 120 z0) :: (q9, aQ G 11 4 f15) :: (q10, .inr (3, [.ref q11, .int 0, .int 0])) :: (q11, aI G 40 z0) :: (q13, .inr (3, [.ref q14, .int 0, .int 0])) :: (q14, aI G 40 z0) :: (q16, .inr (3, [.ref q17, .int 0, .int 0])) :: (q17, aI G 40 z0) :: ((cW G u2 ++ cW G u4) ++ cW G u6)) H := hP
  have hD : va_D A ((h0, .inr (5, [.ref q1, .ref q3, .ref q5, .ref q7, .ref q9, .null, .int 0])) :: (q7, .inr (4, [.ref q8, .int 0, .int 0, .int 0, .int 0, .int 0])) :: (q8, aB G 120 z0) :: (q9, aQ G 11 4 f15) :: (q10, .inr (3, [.ref q11, .int 0, .int 0])) :: (q11, aI G 40 z0) :: (q13, .inr (3, [.ref q14, .int 0, .int 0])) :: (q14, aI G 40 z0) :: (q16, .inr (3, [.ref q17, .int 0, .int 0])) :: (q17, aI G 40 z0) :: ((cW G u2 ++ cW G u4) ++ cW G u6)) := hD
  refine sA_q (r := (RX3, TX3, 3)) hx hb hK hP hD hS 3 4 8 3 rfl rfl rfl rfl 2 rfl (in_c rfl) dX5_init_75 (fun H locs f18 hf18 hP hD hS => ?_)
  have hP : va_P (gD G) vwCl ((h0, .inr (5, [.ref q1, .ref q3, .ref q5, .ref q7, .ref q9, .null, .int 0])) :: (q7, .inr (4, [.ref q8, .int 0, .int 0, .int 0, .int 0, .int 0])) :: (q8, aB G 120 z0) :: (q9, aQ G 11 4 f18) :: (q10, .inr (3, [.ref q11, .int 0, .int 0])) :: (q11, aI G 40 z0) :: (q13, .inr (3, [.ref q14, .int 0, .int 0])) :: (q14, aI G 40 z0) :: (q16, .inr (3, [.ref q17, .int 0, .int 0])) :: (q17, aI G 40 z0) :: ((cW G u2 ++ cW G u4) ++ cW G u6)) H := hP
  have hD : va_D A ((h0, .inr (5, [.ref q1, .ref q3, .ref q5, .ref q7, .ref q9, .null, .int 0])) :: (q7, .inr (4, [.ref q8, .int 0, .int 0, .int 0, .int 0, .int 0])) :: (q8, aB G 120 z0) :: (q9, aQ G 11 4 f18) :: (q10, .inr (3, [.ref q11, .int 0, .int 0])) :: (q11, aI G 40 z0) :: (q13, .inr (3, [.ref q14, .int 0, .int 0])) :: (q14, aI G 40 z0) :: (q16, .inr (3, [.ref q17, .int 0, .int 0])) :: (q17, aI G 40 z0) :: ((cW G u2 ++ cW G u4) ++ cW G u6)) := hD
  refine lv_iinc (v := 3) (lv' := [(1, .int 3), (0, .ref h0)]) hx hb dX5_init_76 hl (k := 0) rfl rfl (by decide) rfl (fun ls hl => ?_)
  refine lv_goto (tgt := 58) hx hb dX5_init_79 (by decide) ?_
  refine lv_iload_n hx hb dX5_init_58 rfl (lv_at hl 0 rfl) ?_
  refine lv_iconst (v := 4) hx hb dX5_init_59 (by decide) ?_
  refine lv_icmp_ge (tgt := 82) hx hb dX5_init_60 (by decide) (fun c9 => absurd c9 (by decide)) (fun c9 => ?_)
  refine lv_aload_n hx hb dX5_init_63 rfl (lv_at hl 1 rfl) ?_
  refine va_get (D := gD G) (ci := 5) (v := .ref q9) (C := RX5) (T := TX5) (N := 7) hx hb hts inT_5 hown hK hP 0 rfl rfl 4 (by decide) (hts (.fieldLink RX5 31 "FogSchool" "sheets" "[LFogSchool$Sheet;") w_149) (fun _ h9 => h9) rfl dX5_init_64 ?_
  refine lv_iload_n hx hb dX5_init_67 rfl (lv_at hl 0 rfl) ?_
  refine va_new (ci := 3) (fs := [.null, .int 0, .int 0]) (C := RX3) (T := TX3) (N := 3) hx hb hts inT_3 tyX3 tyX3_ok hown (hts (.classLink RX5 29 RX3) w_125) (hts (.instantiable RX3 3) w_127) (hts (.initialized RX3) w_7) hK hP hD hS hA rfl nf_3 (Nat.le_of_ble_eq_true rfl) (Nat.le_of_ble_eq_true rfl) dX5_init_68 (fun q19 H hP hD hS => ?_)
  refine W.widen (k := 109) (n := 634) (Nat.le_of_ble_eq_true rfl) (Nat.le_of_ble_eq_true rfl) ?_
  refine lv_dup hx hb dX5_init_71 rfl ?_
  refine kN M.1 hK hN hP hD hS hA (fun _ _ _ _ h => h) (fun _ _ _ => trivial) (c_X3_init l G q19 H.size) okI_5_35 rfl rfl ⟨Nat.le_of_ble_eq_true rfl, Nat.le_of_ble_eq_true rfl⟩ hl.1 (Nat.le_of_ble_eq_true rfl) ⟨Nat.le_of_ble_eq_true rfl, Nat.le_of_ble_eq_true rfl⟩ dX5_init_72 (fun q20 H locs hq20 hP hD hS => ?_)
  refine W.widen (k := 110) (n := 674) (Nat.le_of_ble_eq_true rfl) (Nat.le_of_ble_eq_true rfl) ?_
  have hP := rotP (P := [(h0, .inr (5, [.ref q1, .ref q3, .ref q5, .ref q7, .ref q9, .null, .int 0])), (q7, .inr (4, [.ref q8, .int 0, .int 0, .int 0, .int 0, .int 0])), (q8, aB G 120 z0), (q9, aQ G 11 4 f18), (q10, .inr (3, [.ref q11, .int 0, .int 0])), (q11, aI G 40 z0), (q13, .inr (3, [.ref q14, .int 0, .int 0])), (q14, aI G 40 z0), (q16, .inr (3, [.ref q17, .int 0, .int 0])), (q17, aI G 40 z0)]) (T := ((cW G u2 ++ cW G u4) ++ cW G u6)) (Z := [(q19, .inr (3, [.ref q20, .int 0, .int 0])), (q20, aI G 40 z0)]) hP
  have hD := rotD (P := [(h0, .inr (5, [.ref q1, .ref q3, .ref q5, .ref q7, .ref q9, .null, .int 0])), (q7, .inr (4, [.ref q8, .int 0, .int 0, .int 0, .int 0, .int 0])), (q8, aB G 120 z0), (q9, aQ G 11 4 f18), (q10, .inr (3, [.ref q11, .int 0, .int 0])), (q11, aI G 40 z0), (q13, .inr (3, [.ref q14, .int 0, .int 0])), (q14, aI G 40 z0), (q16, .inr (3, [.ref q17, .int 0, .int 0])), (q17, aI G 40 z0)]) (T := ((cW G u2 ++ cW G u4) ++ cW G u6)) (Z := [(q19, .inr (3, [.ref q20, .int 0, .int 0])), (q20, aI G 40 z0)]) hD
  have hP : va_P (gD G) vwCl ((h0, .inr (5, [.ref q1, .ref q3, .ref q5, .ref q7, .ref q9, .null, .int 0])) :: (q7, .inr (4, [.ref q8, .int 0, .int 0, .int 0, .int 0, .int 0])) :: (q8, aB G 120 z0) :: (q9, aQ G 11 4 f18) :: (q10, .inr (3, [.ref q11, .int 0, .int 0])) :: (q11, aI G 40 z0) :: (q13, .inr (3, [.ref q14, .int 0, .int 0])) :: (q14, aI G 40 z0) :: (q16, .inr (3, [.ref q17, .int 0, .int 0])) :: (q17, aI G 40 z0) :: (q19, .inr (3, [.ref q20, .int 0, .int 0])) :: (q20, aI G 40 z0) :: ((cW G u2 ++ cW G u4) ++ cW G u6)) H := hP
  have hD : va_D A ((h0, .inr (5, [.ref q1, .ref q3, .ref q5, .ref q7, .ref q9, .null, .int 0])) :: (q7, .inr (4, [.ref q8, .int 0, .int 0, .int 0, .int 0, .int 0])) :: (q8, aB G 120 z0) :: (q9, aQ G 11 4 f18) :: (q10, .inr (3, [.ref q11, .int 0, .int 0])) :: (q11, aI G 40 z0) :: (q13, .inr (3, [.ref q14, .int 0, .int 0])) :: (q14, aI G 40 z0) :: (q16, .inr (3, [.ref q17, .int 0, .int 0])) :: (q17, aI G 40 z0) :: (q19, .inr (3, [.ref q20, .int 0, .int 0])) :: (q20, aI G 40 z0) :: ((cW G u2 ++ cW G u4) ++ cW G u6)) := hD
  refine sA_q (r := (RX3, TX3, 3)) hx hb hK hP hD hS 3 4 10 3 rfl rfl rfl rfl 3 rfl (in_c rfl) dX5_init_75 (fun H locs f21 hf21 hP hD hS => ?_)
  have hP : va_P (gD G) vwCl ((h0, .inr (5, [.ref q1, .ref q3, .ref q5, .ref q7, .ref q9, .null, .int 0])) :: (q7, .inr (4, [.ref q8, .int 0, .int 0, .int 0, .int 0, .int 0])) :: (q8, aB G 120 z0) :: (q9, aQ G 11 4 f21) :: (q10, .inr (3, [.ref q11, .int 0, .int 0])) :: (q11, aI G 40 z0) :: (q13, .inr (3, [.ref q14, .int 0, .int 0])) :: (q14, aI G 40 z0) :: (q16, .inr (3, [.ref q17, .int 0, .int 0])) :: (q17, aI G 40 z0) :: (q19, .inr (3, [.ref q20, .int 0, .int 0])) :: (q20, aI G 40 z0) :: ((cW G u2 ++ cW G u4) ++ cW G u6)) H := hP
  have hD : va_D A ((h0, .inr (5, [.ref q1, .ref q3, .ref q5, .ref q7, .ref q9, .null, .int 0])) :: (q7, .inr (4, [.ref q8, .int 0, .int 0, .int 0, .int 0, .int 0])) :: (q8, aB G 120 z0) :: (q9, aQ G 11 4 f21) :: (q10, .inr (3, [.ref q11, .int 0, .int 0])) :: (q11, aI G 40 z0) :: (q13, .inr (3, [.ref q14, .int 0, .int 0])) :: (q14, aI G 40 z0) :: (q16, .inr (3, [.ref q17, .int 0, .int 0])) :: (q17, aI G 40 z0) :: (q19, .inr (3, [.ref q20, .int 0, .int 0])) :: (q20, aI G 40 z0) :: ((cW G u2 ++ cW G u4) ++ cW G u6)) := hD
  refine lv_iinc (v := 4) (lv' := [(1, .int 4), (0, .ref h0)]) hx hb dX5_init_76 hl (k := 0) rfl rfl (by decide) rfl (fun ls hl => ?_)
  refine lv_goto (tgt := 58) hx hb dX5_init_79 (by decide) ?_
  refine lv_iload_n hx hb dX5_init_58 rfl (lv_at hl 0 rfl) ?_
  refine lv_iconst (v := 4) hx hb dX5_init_59 (by decide) ?_
  refine lv_icmp_ge (tgt := 82) hx hb dX5_init_60 (by decide) (fun c9 => ?_) (fun c9 => absurd (by decide) c9)
  refine lv_aload_n hx hb dX5_init_82 rfl (lv_at hl 1 rfl) ?_
  refine lv_bipush (v := 7) hx hb dX5_init_83 (by decide) ?_
  refine nA_i hx hb (hts _ w_47) hK hP hD hS hA 7 (by decide) rfl (Nat.le_of_ble_eq_true rfl) (Nat.le_of_ble_eq_true rfl) (Nat.le_of_ble_eq_true rfl) dX5_init_85 (fun q22 H hP hD hS => ?_)
  have hP := rotP (P := [(h0, .inr (5, [.ref q1, .ref q3, .ref q5, .ref q7, .ref q9, .null, .int 0])), (q7, .inr (4, [.ref q8, .int 0, .int 0, .int 0, .int 0, .int 0])), (q8, aB G 120 z0), (q9, aQ G 11 4 f21), (q10, .inr (3, [.ref q11, .int 0, .int 0])), (q11, aI G 40 z0), (q13, .inr (3, [.ref q14, .int 0, .int 0])), (q14, aI G 40 z0), (q16, .inr (3, [.ref q17, .int 0, .int 0])), (q17, aI G 40 z0), (q19, .inr (3, [.ref q20, .int 0, .int 0])), (q20, aI G 40 z0)]) (T := ((cW G u2 ++ cW G u4) ++ cW G u6)) (Z := [(q22, aI G 7 z0)]) hP
  have hD := rotD (P := [(h0, .inr (5, [.ref q1, .ref q3, .ref q5, .ref q7, .ref q9, .null, .int 0])), (q7, .inr (4, [.ref q8, .int 0, .int 0, .int 0, .int 0, .int 0])), (q8, aB G 120 z0), (q9, aQ G 11 4 f21), (q10, .inr (3, [.ref q11, .int 0, .int 0])), (q11, aI G 40 z0), (q13, .inr (3, [.ref q14, .int 0, .int 0])), (q14, aI G 40 z0), (q16, .inr (3, [.ref q17, .int 0, .int 0])), (q17, aI G 40 z0), (q19, .inr (3, [.ref q20, .int 0, .int 0])), (q20, aI G 40 z0)]) (T := ((cW G u2 ++ cW G u4) ++ cW G u6)) (Z := [(q22, aI G 7 z0)]) hD
  have hP : va_P (gD G) vwCl ((h0, .inr (5, [.ref q1, .ref q3, .ref q5, .ref q7, .ref q9, .null, .int 0])) :: (q7, .inr (4, [.ref q8, .int 0, .int 0, .int 0, .int 0, .int 0])) :: (q8, aB G 120 z0) :: (q9, aQ G 11 4 f21) :: (q10, .inr (3, [.ref q11, .int 0, .int 0])) :: (q11, aI G 40 z0) :: (q13, .inr (3, [.ref q14, .int 0, .int 0])) :: (q14, aI G 40 z0) :: (q16, .inr (3, [.ref q17, .int 0, .int 0])) :: (q17, aI G 40 z0) :: (q19, .inr (3, [.ref q20, .int 0, .int 0])) :: (q20, aI G 40 z0) :: (q22, aI G 7 z0) :: ((cW G u2 ++ cW G u4) ++ cW G u6)) H := hP
  have hD : va_D A ((h0, .inr (5, [.ref q1, .ref q3, .ref q5, .ref q7, .ref q9, .null, .int 0])) :: (q7, .inr (4, [.ref q8, .int 0, .int 0, .int 0, .int 0, .int 0])) :: (q8, aB G 120 z0) :: (q9, aQ G 11 4 f21) :: (q10, .inr (3, [.ref q11, .int 0, .int 0])) :: (q11, aI G 40 z0) :: (q13, .inr (3, [.ref q14, .int 0, .int 0])) :: (q14, aI G 40 z0) :: (q16, .inr (3, [.ref q17, .int 0, .int 0])) :: (q17, aI G 40 z0) :: (q19, .inr (3, [.ref q20, .int 0, .int 0])) :: (q20, aI G 40 z0) :: (q22, aI G 7 z0) :: ((cW G u2 ++ cW G u4) ++ cW G u6)) := hD
  refine W.widen (k := 111) (n := 681) (Nat.le_of_ble_eq_true rfl) (Nat.le_of_ble_eq_true rfl) ?_
  refine va_putF (D := gD G) (ci := 5) (v := .ref q22) (ty := .array .int) (C := RX5) (T := TX5) (N := 7) hx hb hts inT_5 tyX5 tyX5_ok nmX5 hown hK hP hD hS 0 rfl rfl 5 (by decide) (hts (.fieldLink RX5 36 "FogSchool" "findings" "[I") w_150) (fun _ h9 => h9) rfl hin rfl (by decide +kernel) rfl rfl (Nat.le_of_ble_eq_true rfl) dX5_init_87 (fun H locs hP hD hS => ?_)
  have hP : va_P (gD G) vwCl ((h0, .inr (5, [.ref q1, .ref q3, .ref q5, .ref q7, .ref q9, .ref q22, .int 0])) :: (q7, .inr (4, [.ref q8, .int 0, .int 0, .int 0, .int 0, .int 0])) :: (q8, aB G 120 z0) :: (q9, aQ G 11 4 f21) :: (q10, .inr (3, [.ref q11, .int 0, .int 0])) :: (q11, aI G 40 z0) :: (q13, .inr (3, [.ref q14, .int 0, .int 0])) :: (q14, aI G 40 z0) :: (q16, .inr (3, [.ref q17, .int 0, .int 0])) :: (q17, aI G 40 z0) :: (q19, .inr (3, [.ref q20, .int 0, .int 0])) :: (q20, aI G 40 z0) :: (q22, aI G 7 z0) :: ((cW G u2 ++ cW G u4) ++ cW G u6)) H := hP
  have hD : va_D A ((h0, .inr (5, [.ref q1, .ref q3, .ref q5, .ref q7, .ref q9, .ref q22, .int 0])) :: (q7, .inr (4, [.ref q8, .int 0, .int 0, .int 0, .int 0, .int 0])) :: (q8, aB G 120 z0) :: (q9, aQ G 11 4 f21) :: (q10, .inr (3, [.ref q11, .int 0, .int 0])) :: (q11, aI G 40 z0) :: (q13, .inr (3, [.ref q14, .int 0, .int 0])) :: (q14, aI G 40 z0) :: (q16, .inr (3, [.ref q17, .int 0, .int 0])) :: (q17, aI G 40 z0) :: (q19, .inr (3, [.ref q20, .int 0, .int 0])) :: (q20, aI G 40 z0) :: (q22, aI G 7 z0) :: ((cW G u2 ++ cW G u4) ++ cW G u6)) := hD
  refine lv_aload_n hx hb dX5_init_90 rfl (lv_at hl 1 rfl) ?_
  refine lv_iconst (v := 0) hx hb dX5_init_91 (by decide) ?_
  refine va_put (D := gD G) (ci := 5) (v := .int 0) (ty := .boolean) (C := RX5) (T := TX5) (N := 7) hx hb hts inT_5 tyX5 tyX5_ok nmX5 hown hK hP hD hS 0 rfl rfl 6 (by decide) (hts (.fieldLink RX5 40 "FogSchool" "isKept" "Z") w_151) (fun _ h9 => h9) rfl (by decide +kernel) rfl rfl (Nat.le_of_ble_eq_true rfl) dX5_init_92 (fun H locs hP hD hS => ?_)
  have hP : va_P (gD G) vwCl ((h0, .inr (5, [.ref q1, .ref q3, .ref q5, .ref q7, .ref q9, .ref q22, .int 0])) :: (q7, .inr (4, [.ref q8, .int 0, .int 0, .int 0, .int 0, .int 0])) :: (q8, aB G 120 z0) :: (q9, aQ G 11 4 f21) :: (q10, .inr (3, [.ref q11, .int 0, .int 0])) :: (q11, aI G 40 z0) :: (q13, .inr (3, [.ref q14, .int 0, .int 0])) :: (q14, aI G 40 z0) :: (q16, .inr (3, [.ref q17, .int 0, .int 0])) :: (q17, aI G 40 z0) :: (q19, .inr (3, [.ref q20, .int 0, .int 0])) :: (q20, aI G 40 z0) :: (q22, aI G 7 z0) :: ((cW G u2 ++ cW G u4) ++ cW G u6)) H := hP
  have hD : va_D A ((h0, .inr (5, [.ref q1, .ref q3, .ref q5, .ref q7, .ref q9, .ref q22, .int 0])) :: (q7, .inr (4, [.ref q8, .int 0, .int 0, .int 0, .int 0, .int 0])) :: (q8, aB G 120 z0) :: (q9, aQ G 11 4 f21) :: (q10, .inr (3, [.ref q11, .int 0, .int 0])) :: (q11, aI G 40 z0) :: (q13, .inr (3, [.ref q14, .int 0, .int 0])) :: (q14, aI G 40 z0) :: (q16, .inr (3, [.ref q17, .int 0, .int 0])) :: (q17, aI G 40 z0) :: (q19, .inr (3, [.ref q20, .int 0, .int 0])) :: (q20, aI G 40 z0) :: (q22, aI G 7 z0) :: ((cW G u2 ++ cW G u4) ++ cW G u6)) := hD
  have e9 : va_at (gD G) vwCl (q9, aQ G 11 4 (fun j => some ((fun i => [h0, q22, q9, q10, q13, q16, q19, q11, q14, q17, q20, q7, q8].getD i 0) (3 + j)))) H := va_at_q (hP 3 _ rfl) (fun j hj => by
    subst hf12; subst hf15; subst hf18; subst hf21
    rcases (show j = 0 ∨ j = 1 ∨ j = 2 ∨ j = 3 by omega) with rfl | rfl | rfl | rfl <;> rfl)
  have hP9 := va_P_cg hP hD (i := 3) rfl e9
  have hD9 := hD.set (p := 3) (e := aQ G 11 4 (fun j => some ((fun i => [h0, q22, q9, q10, q13, q16, q19, q11, q14, q17, q20, q7, q8].getD i 0) (3 + j)))) rfl
  have hP : va_P (gD G) vwCl ((h0, .inr (5, [.ref q1, .ref q3, .ref q5, .ref q7, .ref q9, .ref q22, .int 0])) :: (q7, .inr (4, [.ref q8, .int 0, .int 0, .int 0, .int 0, .int 0])) :: (q8, aB G 120 z0) :: (q9, aQ G 11 4 (fun j => some ((fun i => [h0, q22, q9, q10, q13, q16, q19, q11, q14, q17, q20, q7, q8].getD i 0) (3 + j)))) :: (q10, .inr (3, [.ref q11, .int 0, .int 0])) :: (q11, aI G 40 z0) :: (q13, .inr (3, [.ref q14, .int 0, .int 0])) :: (q14, aI G 40 z0) :: (q16, .inr (3, [.ref q17, .int 0, .int 0])) :: (q17, aI G 40 z0) :: (q19, .inr (3, [.ref q20, .int 0, .int 0])) :: (q20, aI G 40 z0) :: (q22, aI G 7 z0) :: ((cW G u2 ++ cW G u4) ++ cW G u6)) H := hP9
  have hD : va_D A ((h0, .inr (5, [.ref q1, .ref q3, .ref q5, .ref q7, .ref q9, .ref q22, .int 0])) :: (q7, .inr (4, [.ref q8, .int 0, .int 0, .int 0, .int 0, .int 0])) :: (q8, aB G 120 z0) :: (q9, aQ G 11 4 (fun j => some ((fun i => [h0, q22, q9, q10, q13, q16, q19, q11, q14, q17, q20, q7, q8].getD i 0) (3 + j)))) :: (q10, .inr (3, [.ref q11, .int 0, .int 0])) :: (q11, aI G 40 z0) :: (q13, .inr (3, [.ref q14, .int 0, .int 0])) :: (q14, aI G 40 z0) :: (q16, .inr (3, [.ref q17, .int 0, .int 0])) :: (q17, aI G 40 z0) :: (q19, .inr (3, [.ref q20, .int 0, .int 0])) :: (q20, aI G 40 z0) :: (q22, aI G 7 z0) :: ((cW G u2 ++ cW G u4) ++ cW G u6)) := hD9
  subst hu2; subst hu4; subst hu6
  have hP : va_P (gD G) vwCl (fW G (fun i => [h0, q22, q9, q10, q13, q16, q19, q11, q14, q17, q20, q7, q8].getD i 0) u2 u4 u6) H := pre_P (P := [(h0, .inr (5, [.ref (u2 0), .ref (u4 0), .ref (u6 0), .ref q7, .ref q9, .ref q22, .int 0])), (q7, .inr (4, [.ref q8, .int 0, .int 0, .int 0, .int 0, .int 0])), (q8, aB G 120 z0), (q9, aQ G 11 4 (fun j => some ((fun i => [h0, q22, q9, q10, q13, q16, q19, q11, q14, q17, q20, q7, q8].getD i 0) (3 + j)))), (q10, .inr (3, [.ref q11, .int 0, .int 0])), (q11, aI G 40 z0), (q13, .inr (3, [.ref q14, .int 0, .int 0])), (q14, aI G 40 z0), (q16, .inr (3, [.ref q17, .int 0, .int 0])), (q17, aI G 40 z0), (q19, .inr (3, [.ref q20, .int 0, .int 0])), (q20, aI G 40 z0), (q22, aI G 7 z0)]) (T := ((cW G u2 ++ cW G u4) ++ cW G u6)) [0, 12, 3, 4, 6, 8, 10, 5, 7, 9, 11, 1, 2] rfl hP
  have hD : va_D A (fW G (fun i => [h0, q22, q9, q10, q13, q16, q19, q11, q14, q17, q20, q7, q8].getD i 0) u2 u4 u6) := pre_D (P := [(h0, .inr (5, [.ref (u2 0), .ref (u4 0), .ref (u6 0), .ref q7, .ref q9, .ref q22, .int 0])), (q7, .inr (4, [.ref q8, .int 0, .int 0, .int 0, .int 0, .int 0])), (q8, aB G 120 z0), (q9, aQ G 11 4 (fun j => some ((fun i => [h0, q22, q9, q10, q13, q16, q19, q11, q14, q17, q20, q7, q8].getD i 0) (3 + j)))), (q10, .inr (3, [.ref q11, .int 0, .int 0])), (q11, aI G 40 z0), (q13, .inr (3, [.ref q14, .int 0, .int 0])), (q14, aI G 40 z0), (q16, .inr (3, [.ref q17, .int 0, .int 0])), (q17, aI G 40 z0), (q19, .inr (3, [.ref q20, .int 0, .int 0])), (q20, aI G 40 z0), (q22, aI G 7 z0)]) (T := ((cW G u2 ++ cW G u4) ++ cW G u6)) [0, 12, 3, 4, 6, 8, 10, 5, 7, 9, 11, 1, 2] (by decide) rfl hD
  exact retN M ((fun i => [h0, q22, q9, q10, q13, q16, q19, q11, q14, q17, q20, q7, q8].getD i 0), u2, u4, u6) rfl hP hD hS dX5_init_95
