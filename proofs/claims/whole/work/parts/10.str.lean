theorem ok_J0_335 : okV RJ0 335 RJ0 yJ0_coder_7d493 cJ0_coder_7d493 1 (some .byte) 0 := okV_of w_544 w_545 w_546 w_12 w_547 (by decide +kernel)
theorem ok_J0_492 : okV RJ0 492 RJ0 yJ0_isLatin1_aae02 cJ0_isLatin1_aae02 1 (some .boolean) 0 := okV_of w_554 w_555 w_556 w_12 w_557 (by decide +kernel)
theorem ok_J0_495 : okS RJ0 495 yJ1_charAt_3b067 cJ1_charAt_3b067 2 (some .char) 2 := okS_of w_558 w_559 w_13 w_560 (by decide +kernel)
theorem ok_J1_9 : okS RJ1 9 yJ0_checkIndex_df160 cJ0_checkIndex_df160 2 none 2 := okS_of w_561 w_562 w_12 w_563 (by decide +kernel)
theorem ok_J0_1059 : okS RJ0 1059 yJ3_checkIndex_8e157 cJ3_checkIndex_8e157 3 (some .int) 3 := okS_of w_566 w_567 w_14 w_568 (by decide +kernel)
def lnS (k : Nat) : Nat := lenS.getD k 0
def chS (k j : Nat) : Int32 := (bytS.getD k []).getD j 0
theorem lnS_lt : ∀ k, k < 15 → lnS k < 100 := by decide +kernel
theorem chS_ok : ∀ k, k < 15 → ∀ j, j < 6 → ((chS k j &&& 255).toUInt32 % 65536).toInt32 = chS k j ∧ narrow .char (.int (chS k j)) = .int (chS k j) := by decide +kernel
theorem lnS_6 : ∀ k, k < 15 → lnS k ≤ 6 := by decide +kernel
theorem lnS_shr : ∀ k, k < 15 → nI (lnS k) >>> ((0 : Int32) &&& 31) = nI (lnS k) := by decide +kernel
def F_J0_length_8abf5 (k : Nat) (v : VV) : Option Int32 := some (nI (lnS k))
def F_J0_charAt_5068e (k : Nat) (x : Int32) (v : VV) : Option Int32 := gu (gI x (lnS k)) (some (chS k x.toNatClampNeg))
theorem c_J0_coder_7d493 (l : Launch) (G : GG) (k : Nat) (hk : k < 15) (v : VV) : Met l yJ0_coder_7d493 (cdW yJ0_coder_7d493 cJ0_coder_7d493 1 (some .byte)) ({ frames := 0, cells := 0, slots := 0, locals := 0 } : Room) (PC G v [.ref (sk G k)]) (QI G 0 v) 0 0 (gA G) := by
  refine met_in RJ0 (by decide) rfl (Nat.le_of_ble_eq_true rfl) ?_
  intro p e s m below meth c M hP ls hl
  have hx := M.1.1
  have hb := M.1.2.1
  have hS : va_S (gA G) s.heap s.heap [] := va_S.rf
  have hl : lv_has ls 1 [(0, .ref (sk G k))] := hl
  have hE := M.2.2.2.2.2.2.2.2.1.1 k hk
  refine va_gets (C := "java/lang/String") (n := "COMPACT_STRINGS") (d := "Z") (ref := "java/lang/String") hx hb M.2.2.2.2.2.2.1 hS M.1.2.2.2.1 (M.1.2.2.2.2 (Cond.fieldLink RJ0 38 "java/lang/String" "COMPACT_STRINGS" "Z") w_548) (fun _ h9 => h9) dJ0_coder_7d493_0 ?_
  refine lv_if_eq (tgt := 13) hx hb dJ0_coder_7d493_3 (by decide) (fun c1 => absurd c1 (by decide)) (fun c1 => ?_)
  refine lv_aload_n hx hb dJ0_coder_7d493_6 rfl (lv_at hl 0 rfl) ?_
  refine vk_getf (o := "java/lang/String") (ref := "java/lang/String") hx hb hE.2.1 hS M.1.2.2.2.1 (M.1.2.2.2.2 (Cond.fieldLink RJ0 15 "java/lang/String" "coder" "B") w_1211) (fun _ h9 => h9) dJ0_coder_7d493_7 ?_
  refine lv_goto (tgt := 14) hx hb dJ0_coder_7d493_10 (by decide) ?_
  exact ret_b M hS hP rfl rfl dJ0_coder_7d493_14
theorem c_J0_isLatin1_aae02 (l : Launch) (G : GG) (k : Nat) (hk : k < 15) (v : VV) : Met l yJ0_isLatin1_aae02 (cdW yJ0_isLatin1_aae02 cJ0_isLatin1_aae02 1 (some .boolean)) ({ frames := 0, cells := 0, slots := 0, locals := 0 } : Room) (PC G v [.ref (sk G k)]) (QI G 1 v) 0 0 (gA G) := by
  refine met_in RJ0 (by decide) rfl (Nat.le_of_ble_eq_true rfl) ?_
  intro p e s m below meth c M hP ls hl
  have hx := M.1.1
  have hb := M.1.2.1
  have hS : va_S (gA G) s.heap s.heap [] := va_S.rf
  have hl : lv_has ls 1 [(0, .ref (sk G k))] := hl
  have hE := M.2.2.2.2.2.2.2.2.1.1 k hk
  refine va_gets (C := "java/lang/String") (n := "COMPACT_STRINGS") (d := "Z") (ref := "java/lang/String") hx hb M.2.2.2.2.2.2.1 hS M.1.2.2.2.1 (M.1.2.2.2.2 (Cond.fieldLink RJ0 38 "java/lang/String" "COMPACT_STRINGS" "Z") w_548) (fun _ h9 => h9) dJ0_isLatin1_aae02_0 ?_
  refine lv_if_eq (tgt := 17) hx hb dJ0_isLatin1_aae02_3 (by decide) (fun c1 => absurd c1 (by decide)) (fun c1 => ?_)
  refine lv_aload_n hx hb dJ0_isLatin1_aae02_6 rfl (lv_at hl 0 rfl) ?_
  refine vk_getf (o := "java/lang/String") (ref := "java/lang/String") hx hb hE.2.1 hS M.1.2.2.2.1 (M.1.2.2.2.2 (Cond.fieldLink RJ0 15 "java/lang/String" "coder" "B") w_1211) (fun _ h9 => h9) dJ0_isLatin1_aae02_7 ?_
  refine lv_if_ne (tgt := 17) hx hb dJ0_isLatin1_aae02_10 (by decide) (fun c1 => absurd rfl c1) (fun c1 => ?_)
  refine lv_iconst (v := 1) hx hb dJ0_isLatin1_aae02_13 (by decide) ?_
  refine lv_goto (tgt := 18) hx hb dJ0_isLatin1_aae02_14 (by decide) ?_
  exact ret_z M hS hP rfl rfl dJ0_isLatin1_aae02_18
theorem c_J0_length_8abf5 (l : Launch) (G : GG) (k : Nat) (hk : k < 15) (v : VV) (r : Int32) (hF : F_J0_length_8abf5 k v = some r) : Met l yJ0_length_8abf5 (cdW yJ0_length_8abf5 cJ0_length_8abf5 1 (some .int)) ({ frames := 1, cells := 0, slots := 0, locals := 20 } : Room) (PC G v [.ref (sk G k)]) (QI G r v) 0 0 (gA G) := by
  refine met_in RJ0 (by decide) rfl (Nat.le_of_ble_eq_true rfl) ?_
  intro p e s m below meth c M hP ls hl
  have hx := M.1.1
  have hb := M.1.2.1
  have hS : va_S (gA G) s.heap s.heap [] := va_S.rf
  have hl : lv_has ls 1 [(0, .ref (sk G k))] := hl
  have hE := M.2.2.2.2.2.2.2.2.1.1 k hk
  have hr : nI (lnS k) = r := Option.some.inj hF
  subst hr
  refine lv_aload_n hx hb dJ0_length_8abf5_0 rfl (lv_at hl 0 rfl) ?_
  refine vk_getf (o := "java/lang/String") (ref := "java/lang/String") hx hb hE.2.2.1 hS M.1.2.2.2.1 (M.1.2.2.2.2 (Cond.fieldLink RJ0 9 "java/lang/String" "value" "[B") w_1210) (fun _ h9 => h9) dJ0_length_8abf5_1 ?_
  refine va_tlen hx hb hE.2.2.2 hS (v := nI (lnS k)) rfl dJ0_length_8abf5_4 ?_
  refine lv_aload_n hx hb dJ0_length_8abf5_5 rfl (lv_at hl 0 rfl) ?_
  refine k_i hS (kV_run M hS hP ok_J0_335 (c_J0_coder_7d493 l G k hk v) (rc_S M hS hk) rfl hl.1 rfl (Nat.le_of_ble_eq_true rfl) ⟨rfl, rfl⟩ ⟨Nat.le_of_ble_eq_true rfl, Nat.le_of_ble_eq_true rfl⟩ dJ0_length_8abf5_6) (fun H locs hP hS => ?_)
  refine lv_ishr hx hb dJ0_length_8abf5_9 ?_
  exact ret_i M hS hP (congrArg (fun z => (z, v)) (lnS_shr k hk)) dJ0_length_8abf5_10
theorem c_J3_checkIndex_8e157 (l : Launch) (G : GG) (x y : Int32) (w : Value) (hw : w = .null ∨ ∃ a, w = .ref a) (h0 : ¬ x < 0) (h1 : x < y) (v : VV) : Met l yJ3_checkIndex_8e157 (cdW yJ3_checkIndex_8e157 cJ3_checkIndex_8e157 3 (some .int)) ({ frames := 0, cells := 0, slots := 0, locals := 0 } : Room) (PC G v [.int x, .int y, w]) (QI G x v) 0 0 (gA G) := by
  have hc : w.category = 1 := by rcases hw with rfl | ⟨a, rfl⟩ <;> rfl
  refine met_in RJ3 (by decide) rfl (by rcases hw with rfl | ⟨a, rfl⟩ <;> exact Nat.le_of_ble_eq_true rfl) ?_
  intro p e s m below meth c M hP ls hl
  have hx := M.1.1
  have hb := M.1.2.1
  have hS : va_S (gA G) s.heap s.heap [] := va_S.rf
  have hl : lv_has ls 3 [(0, .int x), (1, .int y), (2, w)] := hl
  refine lv_iload_n hx hb dJ3_checkIndex_8e157_0 rfl (lv_at hl 0 rfl) ?_
  refine lv_if_lt (tgt := 9) hx hb dJ3_checkIndex_8e157_1 (by decide) (fun c1 => absurd c1 h0) (fun c1 => ?_)
  refine lv_iload_n hx hb dJ3_checkIndex_8e157_4 rfl (lv_at hl 0 rfl) ?_
  refine lv_iload_n hx hb dJ3_checkIndex_8e157_5 rfl (lv_at hl 1 rfl) ?_
  refine lv_icmp_lt (tgt := 16) hx hb dJ3_checkIndex_8e157_6 (by decide) (fun c1 => ?_) (fun c1 => absurd h1 c1)
  refine lv_iload_n hx hb dJ3_checkIndex_8e157_16 rfl (lv_at hl 0 rfl) ?_
  exact ret_i M hS hP rfl dJ3_checkIndex_8e157_17
theorem c_J0_checkIndex_df160 (l : Launch) (G : GG) (x y : Int32) (h0 : ¬ x < 0) (h1 : x < y) (v : VV) : Met l yJ0_checkIndex_df160 (cdW yJ0_checkIndex_df160 cJ0_checkIndex_df160 2 none) ({ frames := 1, cells := 0, slots := 0, locals := 22 } : Room) (PC G v [.int x, .int y]) (QV G v) 0 0 (gA G) := by
  refine met_in RJ0 (by decide) rfl (Nat.le_of_ble_eq_true rfl) ?_
  intro p e s m below meth c M hP ls hl
  have hx := M.1.1
  have hb := M.1.2.1
  have hS : va_S (gA G) s.heap s.heap [] := va_S.rf
  have hl : lv_has ls 2 [(0, .int x), (1, .int y)] := hl
  refine lv_iload_n hx hb dJ0_checkIndex_df160_0 rfl (lv_at hl 0 rfl) ?_
  refine lv_iload_n hx hb dJ0_checkIndex_df160_1 rfl (lv_at hl 1 rfl) ?_
  rcases M.2.2.2.2.2.2.2.1 with z | ⟨t, z⟩
  · refine va_gets (C := "jdk/internal/util/Preconditions") (n := "SIOOBE_FORMATTER") (d := fmtD) (ref := "jdk/internal/util/Preconditions") hx hb z hS M.1.2.2.2.1 (M.1.2.2.2.2 (Cond.fieldLink RJ0 1053 "jdk/internal/util/Preconditions" "SIOOBE_FORMATTER" fmtD) w_564) (fun _ h9 => h9) dJ0_checkIndex_df160_2 ?_
    refine k_i hS (kS_run M hS hP ok_J0_1059 (c_J3_checkIndex_8e157 l G x y _ (Or.inl rfl) h0 h1 v) rfl hl.1 rfl (Nat.le_of_ble_eq_true rfl) ⟨rfl, rfl⟩ ⟨Nat.le_of_ble_eq_true rfl, Nat.le_of_ble_eq_true rfl⟩ dJ0_checkIndex_df160_5) (fun H locs hP hS => ?_)
    refine lv_pop hx hb dJ0_checkIndex_df160_8 rfl ?_
    exact ret_v M hS hP rfl dJ0_checkIndex_df160_9
  · refine va_gets (C := "jdk/internal/util/Preconditions") (n := "SIOOBE_FORMATTER") (d := fmtD) (ref := "jdk/internal/util/Preconditions") hx hb z hS M.1.2.2.2.1 (M.1.2.2.2.2 (Cond.fieldLink RJ0 1053 "jdk/internal/util/Preconditions" "SIOOBE_FORMATTER" fmtD) w_564) (fun _ h9 => h9) dJ0_checkIndex_df160_2 ?_
    refine k_i hS (kS_run M hS hP ok_J0_1059 (c_J3_checkIndex_8e157 l G x y _ (Or.inr ⟨_, rfl⟩) h0 h1 v) rfl hl.1 rfl (Nat.le_of_ble_eq_true rfl) ⟨rfl, rfl⟩ ⟨Nat.le_of_ble_eq_true rfl, Nat.le_of_ble_eq_true rfl⟩ dJ0_checkIndex_df160_5) (fun H locs hP hS => ?_)
    refine lv_pop hx hb dJ0_checkIndex_df160_8 rfl ?_
    exact ret_v M hS hP rfl dJ0_checkIndex_df160_9
theorem c_J1_charAt_3b067 (l : Launch) (G : GG) (k : Nat) (hk : k < 15) (x : Int32) (hx0 : gI x (lnS k) = true) (v : VV) : Met l yJ1_charAt_3b067 (cdW yJ1_charAt_3b067 cJ1_charAt_3b067 2 (some .char)) ({ frames := 2, cells := 0, slots := 0, locals := 43 } : Room) (PC G v [.ref (sv G k), .int x]) (QI G (chS k x.toNatClampNeg) v) 0 0 (gA G) := by
  refine met_in RJ1 (by decide) rfl (Nat.le_of_ble_eq_true rfl) ?_
  intro p e s m below meth c M hP ls hl
  have hx := M.1.1
  have hb := M.1.2.1
  have hS : va_S (gA G) s.heap s.heap [] := va_S.rf
  have hl : lv_has ls 2 [(0, .ref (sv G k)), (1, .int x)] := hl
  have hE := M.2.2.2.2.2.2.2.2.1.1 k hk
  have hin := in_c hx0
  obtain ⟨j, hj, ej⟩ := vp_in_of hin (Nat.lt_trans (lnS_lt k hk) (by decide))
  have h0 : ¬ x < 0 := fun q => hin (Or.inl q)
  have h1 : x < nI (lnS k) := by rw [ej]; exact nI_lt hj (Nat.lt_trans (lnS_lt k hk) (by decide))
  refine lv_iload_n hx hb dJ1_charAt_3b067_0 rfl (lv_at hl 1 rfl) ?_
  refine lv_aload_n hx hb dJ1_charAt_3b067_1 rfl (lv_at hl 0 rfl) ?_
  refine va_tlen hx hb hE.2.2.2 hS (v := nI (lnS k)) rfl dJ1_charAt_3b067_2 ?_
  refine k_v hS (kS_run M hS hP ok_J1_9 (c_J0_checkIndex_df160 l G x (nI (lnS k)) h0 h1 v) rfl hl.1 rfl (Nat.le_of_ble_eq_true rfl) ⟨rfl, rfl⟩ ⟨Nat.le_of_ble_eq_true rfl, Nat.le_of_ble_eq_true rfl⟩ dJ1_charAt_3b067_3) (fun H locs hP hS => ?_)
  refine lv_aload_n hx hb dJ1_charAt_3b067_6 rfl (lv_at hl 0 rfl) ?_
  refine lv_iload_n hx hb dJ1_charAt_3b067_7 rfl (lv_at hl 1 rfl) ?_
  refine va_tb hx hb hE.2.2.2 hS hin (v := .int (chS k x.toNatClampNeg)) rfl dJ1_charAt_3b067_8 ?_
  refine lv_sipush (v := 255) hx hb dJ1_charAt_3b067_9 (by decide) ?_
  refine lv_iand hx hb dJ1_charAt_3b067_12 ?_
  have hc := chS_ok k hk x.toNatClampNeg (Nat.lt_of_lt_of_le (vin_lt hin) (lnS_6 k hk))
  refine lv_i2c hx hb dJ1_charAt_3b067_13 hc.1 ?_
  exact ret_c M hS hP rfl hc.2 dJ1_charAt_3b067_14
theorem c_J0_charAt_5068e (l : Launch) (G : GG) (k : Nat) (hk : k < 15) (x : Int32) (v : VV) (r : Int32) (hF : F_J0_charAt_5068e k x v = some r) : Met l yJ0_charAt_5068e (cdW yJ0_charAt_5068e cJ0_charAt_5068e 2 (some .char)) ({ frames := 3, cells := 0, slots := 0, locals := 66 } : Room) (PC G v [.ref (sk G k), .int x]) (QI G r v) 0 0 (gA G) := by
  refine met_in RJ0 (by decide) rfl (Nat.le_of_ble_eq_true rfl) ?_
  intro p e s m below meth c M hP ls hl
  have hx := M.1.1
  have hb := M.1.2.1
  have hS : va_S (gA G) s.heap s.heap [] := va_S.rf
  have hl : lv_has ls 2 [(0, .ref (sk G k)), (1, .int x)] := hl
  have hE := M.2.2.2.2.2.2.2.2.1.1 k hk
  obtain ⟨g1, hF⟩ := gu_some hF
  have hr : chS k x.toNatClampNeg = r := Option.some.inj hF
  subst hr
  have hin := in_c g1
  have hc := chS_ok k hk x.toNatClampNeg (Nat.lt_of_lt_of_le (vin_lt hin) (lnS_6 k hk))
  refine lv_aload_n hx hb dJ0_charAt_5068e_0 rfl (lv_at hl 0 rfl) ?_
  refine k_i hS (kV_run M hS hP ok_J0_492 (c_J0_isLatin1_aae02 l G k hk v) (rc_S M hS hk) rfl hl.1 rfl (Nat.le_of_ble_eq_true rfl) ⟨rfl, rfl⟩ ⟨Nat.le_of_ble_eq_true rfl, Nat.le_of_ble_eq_true rfl⟩ dJ0_charAt_5068e_1) (fun H locs hP hS => ?_)
  refine lv_if_eq (tgt := 16) hx hb dJ0_charAt_5068e_4 (by decide) (fun c1 => absurd c1 (by decide)) (fun c1 => ?_)
  refine lv_aload_n hx hb dJ0_charAt_5068e_7 rfl (lv_at hl 0 rfl) ?_
  refine vk_getf (o := "java/lang/String") (ref := "java/lang/String") hx hb hE.2.2.1 hS M.1.2.2.2.1 (M.1.2.2.2.2 (Cond.fieldLink RJ0 9 "java/lang/String" "value" "[B") w_1210) (fun _ h9 => h9) dJ0_charAt_5068e_8 ?_
  refine lv_iload_n hx hb dJ0_charAt_5068e_11 rfl (lv_at hl 1 rfl) ?_
  refine k_i hS (kS_run M hS hP ok_J0_495 (c_J1_charAt_3b067 l G k hk x g1 v) rfl hl.1 rfl (Nat.le_of_ble_eq_true rfl) ⟨rfl, rfl⟩ ⟨Nat.le_of_ble_eq_true rfl, Nat.le_of_ble_eq_true rfl⟩ dJ0_charAt_5068e_12) (fun H locs hP hS => ?_)
  exact ret_c M hS hP rfl hc.2 dJ0_charAt_5068e_15
section LDCW
variable {p : Program} {l : Launch} {e : Env} {R : Room} {s : State} {m : MethodId} {args : Array Value} {below : List Frame} {meth : Method} {c : Code} {H : Heap} {locs : List Loc} {G : GG} {cc : ByteArray} {nL pc : Nat} {ret0 : Option FieldType} {ls : Array Slot} {v : VV} {Q : State → Prop} {rest : List Value}
theorem r_ldcw {own tx : String} {index q : Nat} (hexec : p.tables.exec = Jvm.exec) (hb : c.code = cc) (hown : s.vm.findClass own = some m.cls) (hZ : vk_R own index tx q s) (hdg : decode cc pc = .ok (.ldc_w index, 3))
    (k : W p l e R s m args below meth c H locs 0 0 Q (F0 m (pc + 3) ls (.ref q :: rest))) : W p l e R s m args below meth c H locs 0 0 Q (F0 m pc ls rest) := by
  intro T hT X
  obtain ⟨t, a1, b1⟩ := k T hT X
  refine ⟨t, ?_, b1⟩
  obtain ⟨k, cf, i, a', hk, hcf, hcp, -, hr, hev'⟩ := Cond.stringRef_spec hown hZ.1
  cases hZ.2.symm.trans hev'
  obtain ⟨k', hk', he⟩ := X.warmed.alike.2.2 _ _ hk
  have hr' : k'.resolved[index]? = some (some (.string q)) := by
    rcases X.warmed.entry hk hk' index with h | ⟨h, -⟩
    · rw [h]; exact hr
    · rw [hr] at h; cases h
  have hdg' : decode c.code (F0 m pc ls rest).pc = .ok (.ldc_w index, 3) := by rw [hb]; exact hdg
  jvm_step X.here [hexec, hdg', ldc_w.wp_string (e := e) (s := T) (f := F0 m pc ls rest) X.here.top hk' (by rw [he]; exact hcf) hcp hr']
  exact a1
end LDCW
theorem sR_0 {G : GG} {s : State} (X : Cx G s) : vk_R RX4 150 "keeper" (sk G 0) s := X.2.2.2.2.2.2 0 ("FogSchool$Tape", 150, "keeper", 0) rfl
theorem sR_1 {G : GG} {s : State} (X : Cx G s) : vk_R RX4 138 "head" (sk G 1) s := X.2.2.2.2.2.2 1 ("FogSchool$Tape", 138, "head", 1) rfl
theorem sR_2 {G : GG} {s : State} (X : Cx G s) : vk_R RX4 140 "drunk" (sk G 2) s := X.2.2.2.2.2.2 2 ("FogSchool$Tape", 140, "drunk", 2) rfl
theorem sR_3 {G : GG} {s : State} (X : Cx G s) : vk_R RX4 142 "poet" (sk G 3) s := X.2.2.2.2.2.2 3 ("FogSchool$Tape", 142, "poet", 3) rfl
theorem sR_4 {G : GG} {s : State} (X : Cx G s) : vk_R RX4 144 "hum" (sk G 4) s := X.2.2.2.2.2.2 4 ("FogSchool$Tape", 144, "hum", 4) rfl
theorem sR_5 {G : GG} {s : State} (X : Cx G s) : vk_R RX4 146 "echo" (sk G 5) s := X.2.2.2.2.2.2 5 ("FogSchool$Tape", 146, "echo", 5) rfl
theorem sR_6 {G : GG} {s : State} (X : Cx G s) : vk_R RX4 148 "elder" (sk G 6) s := X.2.2.2.2.2.2 6 ("FogSchool$Tape", 148, "elder", 6) rfl
theorem sR_7 {G : GG} {s : State} (X : Cx G s) : vk_R RX4 50 "child" (sk G 7) s := X.2.2.2.2.2.2 7 ("FogSchool$Tape", 50, "child", 7) rfl
theorem sR_8 {G : GG} {s : State} (X : Cx G s) : vk_R RX4 55 "fog" (sk G 8) s := X.2.2.2.2.2.2 8 ("FogSchool$Tape", 55, "fog", 8) rfl
theorem sR_9 {G : GG} {s : State} (X : Cx G s) : vk_R RX4 66 "at" (sk G 9) s := X.2.2.2.2.2.2 9 ("FogSchool$Tape", 66, "at", 9) rfl
theorem sR_10 {G : GG} {s : State} (X : Cx G s) : vk_R RX4 72 "note" (sk G 10) s := X.2.2.2.2.2.2 10 ("FogSchool$Tape", 72, "note", 10) rfl
theorem sR_11 {G : GG} {s : State} (X : Cx G s) : vk_R RX4 74 "loud" (sk G 11) s := X.2.2.2.2.2.2 11 ("FogSchool$Tape", 74, "loud", 11) rfl
theorem sR_12 {G : GG} {s : State} (X : Cx G s) : vk_R RX4 90 "silent" (sk G 12) s := X.2.2.2.2.2.2 12 ("FogSchool$Tape", 90, "silent", 12) rfl
theorem sR_13 {G : GG} {s : State} (X : Cx G s) : vk_R RX4 95 "quick" (sk G 13) s := X.2.2.2.2.2.2 13 ("FogSchool$Tape", 95, "quick", 13) rfl
theorem sR_14 {G : GG} {s : State} (X : Cx G s) : vk_R RX4 99 "knows" (sk G 14) s := X.2.2.2.2.2.2 14 ("FogSchool$Tape", 99, "knows", 14) rfl
theorem sR_15 {G : GG} {s : State} (X : Cx G s) : vk_R RX6 27 "keeper" (sk G 0) s := X.2.2.2.2.2.2 15 ("FogSchoolModel", 27, "keeper", 0) rfl
theorem sR_16 {G : GG} {s : State} (X : Cx G s) : vk_R RX6 29 "head" (sk G 1) s := X.2.2.2.2.2.2 16 ("FogSchoolModel", 29, "head", 1) rfl
theorem sR_17 {G : GG} {s : State} (X : Cx G s) : vk_R RX6 31 "drunk" (sk G 2) s := X.2.2.2.2.2.2 17 ("FogSchoolModel", 31, "drunk", 2) rfl
theorem sR_18 {G : GG} {s : State} (X : Cx G s) : vk_R RX6 33 "poet" (sk G 3) s := X.2.2.2.2.2.2 18 ("FogSchoolModel", 33, "poet", 3) rfl
theorem sR_19 {G : GG} {s : State} (X : Cx G s) : vk_R RX6 35 "hum" (sk G 4) s := X.2.2.2.2.2.2 19 ("FogSchoolModel", 35, "hum", 4) rfl
theorem sR_20 {G : GG} {s : State} (X : Cx G s) : vk_R RX6 37 "echo" (sk G 5) s := X.2.2.2.2.2.2 20 ("FogSchoolModel", 37, "echo", 5) rfl
theorem sR_21 {G : GG} {s : State} (X : Cx G s) : vk_R RX6 39 "elder" (sk G 6) s := X.2.2.2.2.2.2 21 ("FogSchoolModel", 39, "elder", 6) rfl
theorem sR_22 {G : GG} {s : State} (X : Cx G s) : vk_R RX6 325 "child" (sk G 7) s := X.2.2.2.2.2.2 22 ("FogSchoolModel", 325, "child", 7) rfl
theorem sR_23 {G : GG} {s : State} (X : Cx G s) : vk_R RX6 330 "fog" (sk G 8) s := X.2.2.2.2.2.2 23 ("FogSchoolModel", 330, "fog", 8) rfl
theorem sR_24 {G : GG} {s : State} (X : Cx G s) : vk_R RX6 297 "at" (sk G 9) s := X.2.2.2.2.2.2 24 ("FogSchoolModel", 297, "at", 9) rfl
theorem sR_25 {G : GG} {s : State} (X : Cx G s) : vk_R RX6 305 "note" (sk G 10) s := X.2.2.2.2.2.2 25 ("FogSchoolModel", 305, "note", 10) rfl
theorem sR_26 {G : GG} {s : State} (X : Cx G s) : vk_R RX6 307 "loud" (sk G 11) s := X.2.2.2.2.2.2 26 ("FogSchoolModel", 307, "loud", 11) rfl
theorem sR_27 {G : GG} {s : State} (X : Cx G s) : vk_R RX6 309 "silent" (sk G 12) s := X.2.2.2.2.2.2 27 ("FogSchoolModel", 309, "silent", 12) rfl
theorem sR_28 {G : GG} {s : State} (X : Cx G s) : vk_R RX6 318 "quick" (sk G 13) s := X.2.2.2.2.2.2 28 ("FogSchoolModel", 318, "quick", 13) rfl
theorem sR_29 {G : GG} {s : State} (X : Cx G s) : vk_R RX6 320 "knows" (sk G 14) s := X.2.2.2.2.2.2 29 ("FogSchoolModel", 320, "knows", 14) rfl
