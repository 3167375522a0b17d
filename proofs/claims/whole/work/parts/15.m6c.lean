theorem ok_X6_177 : okV RX6 177 RX6 yX6_day cX6_day 3 none 0 := okV_of w_918 w_920 w_2025 w_8 w_921 (by decide +kernel)
theorem ok_X6_180 : okS RX6 180 yX6_bits cX6_bits 3 (some .int) 1 := okS_of w_939 w_940 w_8 w_941 (by decide +kernel)
theorem ok_X6_184 : okV RX6 184 RX6 yX6_daysGo cX6_daysGo 3 none 1 := okV_of w_914 w_916 w_2024 w_8 w_917 (by decide +kernel)
theorem ok_X6_188 : okV RX6 188 RX6 yX6_learntInAll cX6_learntInAll 3 (some .int) 0 := okV_of w_935 w_937 w_2029 w_8 w_938 (by decide +kernel)
theorem ok_X6_191 : okV RX6 191 RX6 yX6_anyOf cX6_anyOf 4 (some .int) 1 := okV_of w_946 w_948 w_2030 w_8 w_949 (by decide +kernel)
theorem ok_X6_194 : okV RX6 194 RX6 yX6_given cX6_given 3 (some .int) 0 := okV_of w_950 w_952 w_2031 w_8 w_953 (by decide +kernel)
theorem ok_X6_197 : okV RX6 197 RX6 yX6_tiredInAll cX6_tiredInAll 3 (some .int) 0 := okV_of w_954 w_956 w_2032 w_8 w_957 (by decide +kernel)
theorem ok_X6_200 : okV RX6 200 RX6 yX6_wiseOnes cX6_wiseOnes 3 (some .int) 0 := okV_of w_958 w_960 w_2033 w_8 w_961 (by decide +kernel)
theorem ok_X6_203 : okV RX6 203 RX6 yX6_putBack cX6_putBack 2 (some .int) 1 := okV_of w_969 w_971 w_2034 w_8 w_972 (by decide +kernel)
theorem ok_X6_206 : okV RX6 206 RX6 yX6_behind cX6_behind 3 (some .int) 2 := okV_of w_977 w_979 w_2035 w_8 w_980 (by decide +kernel)
theorem ok_X6_209 : okV RX6 209 RX6 yX6_hasLearnt cX6_hasLearnt 3 (some .boolean) 2 := okV_of w_993 w_995 w_2038 w_8 w_996 (by decide +kernel)
theorem ok_X6_212 : okV RX6 212 RX6 yX6_haveLearnt cX6_haveLearnt 6 (some .boolean) 3 := okV_of w_989 w_991 w_2037 w_8 w_992 (by decide +kernel)
theorem ok_X6_215 : okV RX6 215 RX6 yX6_daysTo cX6_daysTo 5 (some .int) 3 := okV_of w_985 w_987 w_2036 w_8 w_988 (by decide +kernel)
theorem ok_X6_219 : okV RX6 219 RX6 yX6_orNone cX6_orNone 2 (some .int) 1 := okV_of w_997 w_999 w_2039 w_8 w_1000 (by decide +kernel)
theorem ok_X6_222 : okS RX6 222 yX6_isThought cX6_isThought 1 (some .boolean) 1 := okS_of w_1014 w_1015 w_8 w_1016 (by decide +kernel)
theorem ok_X6_225 : okV RX6 225 RX6 yX6_learntBehind cX6_learntBehind 2 (some .int) 1 := okV_of w_1025 w_1027 w_2040 w_8 w_1028 (by decide +kernel)
def L_X6_daysGo_2 : Nat → Int32 → Int32 → VV → Option VV
  | 0, _, _, _ => none
  | n + 1, x1, x2, v =>
  if x1 ≤ x2 then (some v) else (Option.bind (F_X6_day v) (fun v4 => L_X6_daysGo_2 n x1 (x2 + 1) v4))
def F_X6_daysGo (a1 : Int32) (v : VV) : Option VV :=
  L_X6_daysGo_2 fu a1 0 v
set_option maxHeartbeats 4000000 in
set_option maxRecDepth 100000 in
theorem l_X6_daysGo_2 {p : Program} {l : Launch} {e : Env} {s : State} {m : MethodId} {args : Array Value} {below : List Frame} {meth : Method} {c : Code} {G : GG} (M : Mx G RX6 cX6_daysGo 3 none p s m args meth c) (v' : VV) : ∀ (n : Nat) (x1 : Int32) (x2 : Int32) (v : VV) (H : Heap) (locs : List Loc) (ls : Array Slot), L_X6_daysGo_2 n x1 x2 v = some v' → Wd G v H → va_S (gA G) s.heap H locs → lv_has ls 3 [(0, .ref (ad G 0)), (1, .int x1), (2, .int x2)] → W p l e ({ frames := 6, cells := 0, slots := 0, locals := 136 } : Room) s m args below meth c H locs 0 0 (MQ below (QV G v') args s 0 0 (gA G)) (F0 m 2 ls []) := by
  have hx := M.1.1
  have hb := M.1.2.1
  intro n
  induction n with
  | zero =>
    intro x1 x2 v H locs ls hF hP hS hl
    rw [L_X6_daysGo_2] at hF
    cases hF
  | succ n ih =>
    intro x1 x2 v H locs ls hF hP hS hl
    rw [L_X6_daysGo_2] at hF
    refine lv_iload_n hx hb dX6_daysGo_2 rfl (lv_at hl 2 rfl) ?_
    refine lv_iload_n hx hb dX6_daysGo_3 rfl (lv_at hl 1 rfl) ?_
    refine lv_icmp_ge (tgt := 17) hx hb dX6_daysGo_4 (by decide) (fun c1 => ?_) (fun c1 => ?_)
    · replace hF := (if_pos c1).symm.trans hF
      exact ret_v M hS hP (Option.some.inj hF) dX6_daysGo_17
    · replace hF := (if_neg c1).symm.trans hF
      refine lv_aload_n hx hb dX6_daysGo_7 rfl (lv_at hl 0 rfl) ?_
      obtain ⟨v4, h2, hF⟩ := bi_some hF
      refine k_v hS (kV_run M hS hP ok_X6_177 (c_X6_day l G v v4 h2) (rc_6 M hP rfl) rfl hl.1 rfl (Nat.le_of_ble_eq_true rfl) ⟨rfl, rfl⟩ ⟨Nat.le_of_ble_eq_true rfl, Nat.le_of_ble_eq_true rfl⟩ dX6_daysGo_8) (fun H locs hP hS => ?_)
      refine lv_iinc (v := (x2 + 1)) (lv' := [(2, .int (x2 + 1)), (0, .ref (ad G 0)), (1, .int x1)]) hx hb dX6_daysGo_11 hl (k := 2) rfl (iinc_eq _ (by decide)) (by decide) rfl (fun ls hl => ?_)
      refine lv_goto (tgt := 2) hx hb dX6_daysGo_14 (by decide) ?_
      exact ih x1 (x2 + 1) _ _ _ ls hF hP hS (lv_sub hl [1, 2, 0] rfl)
set_option maxHeartbeats 4000000 in
set_option maxRecDepth 100000 in
theorem c_X6_daysGo (l : Launch) (G : GG) (a1 : Int32) (v : VV) (v' : VV) (hF : F_X6_daysGo a1 v = some v') : Met l yX6_daysGo (cdW yX6_daysGo cX6_daysGo 3 none) ({ frames := 6, cells := 0, slots := 0, locals := 136 } : Room) (PC G v [.ref (ad G 0), .int a1]) (QV G v') 0 0 (gA G) := by
  refine met_in RX6 (by decide) rfl (Nat.le_of_ble_eq_true rfl) ?_
  intro p e s m below meth c M hP ls hl
  have hx := M.1.1
  have hb := M.1.2.1
  have hS : va_S (gA G) s.heap s.heap [] := va_S.rf
  have hl : lv_has ls 3 [(0, .ref (ad G 0)), (1, .int a1)] := hl
  unfold F_X6_daysGo at hF
  refine lv_iconst (v := 0) hx hb dX6_daysGo_0 (by decide) ?_
  refine lv_istore_n (lv' := [(2, .int 0), (0, .ref (ad G 0)), (1, .int a1)]) hx hb dX6_daysGo_1 rfl hl (by decide) rfl (fun ls hl => ?_)
  exact l_X6_daysGo_2 M _ fu a1 0 _ _ _ ls hF hP hS (lv_sub hl [1, 2, 0] rfl)
def L_X6_learntInAll_4 : Nat → Int32 → Int32 → VV → Option Int32
  | 0, _, _, _ => none
  | n + 1, x1, x2, v =>
  if (v 1 3) ≤ x2 then (some x1) else (Option.bind (F_X6_childIs x2 2 v) (fun r3 => Option.bind (F_X6_bits r3 v) (fun r5 => L_X6_learntInAll_4 n (x1 + r5) (x2 + 1) v)))
def F_X6_learntInAll (v : VV) : Option Int32 :=
  L_X6_learntInAll_4 fu 0 0 v
set_option maxHeartbeats 4000000 in
set_option maxRecDepth 100000 in
theorem l_X6_learntInAll_4 {p : Program} {l : Launch} {e : Env} {s : State} {m : MethodId} {args : Array Value} {below : List Frame} {meth : Method} {c : Code} {G : GG} (M : Mx G RX6 cX6_learntInAll 3 (some .int) p s m args meth c) (r : Int32) (v : VV) : ∀ (n : Nat) (x1 : Int32) (x2 : Int32) (H : Heap) (locs : List Loc) (ls : Array Slot), L_X6_learntInAll_4 n x1 x2 v = some r → Wd G v H → va_S (gA G) s.heap H locs → lv_has ls 3 [(0, .ref (ad G 0)), (1, .int x1), (2, .int x2)] → W p l e ({ frames := 2, cells := 0, slots := 0, locals := 43 } : Room) s m args below meth c H locs 0 0 (MQ below (QI G r v) args s 0 0 (gA G)) (F0 m 4 ls []) := by
  have hx := M.1.1
  have hb := M.1.2.1
  intro n
  induction n with
  | zero =>
    intro x1 x2 H locs ls hF hP hS hl
    rw [L_X6_learntInAll_4] at hF
    cases hF
  | succ n ih =>
    intro x1 x2 H locs ls hF hP hS hl
    rw [L_X6_learntInAll_4] at hF
    refine lv_iload_n hx hb dX6_learntInAll_4 rfl (lv_at hl 2 rfl) ?_
    refine lv_aload_n hx hb dX6_learntInAll_5 rfl (lv_at hl 0 rfl) ?_
    refine fg_6_9 M hP dX6_learntInAll_6 ?_
    refine lv_iconst (v := 3) hx hb dX6_learntInAll_9 (by decide) ?_
    refine r_iald (k := 3) M hP rfl rfl (in_c rfl) rfl dX6_learntInAll_10 ?_
    refine lv_icmp_ge (tgt := 32) hx hb dX6_learntInAll_11 (by decide) (fun c1 => ?_) (fun c1 => ?_)
    · replace hF := (if_pos c1).symm.trans hF
      refine lv_iload_n hx hb dX6_learntInAll_32 rfl (lv_at hl 1 rfl) ?_
      exact ret_i M hS hP (congrArg (fun z => (z, v)) (Option.some.inj hF)) dX6_learntInAll_33
    · replace hF := (if_neg c1).symm.trans hF
      refine lv_iload_n hx hb dX6_learntInAll_14 rfl (lv_at hl 1 rfl) ?_
      refine lv_aload_n hx hb dX6_learntInAll_15 rfl (lv_at hl 0 rfl) ?_
      refine lv_iload_n hx hb dX6_learntInAll_16 rfl (lv_at hl 2 rfl) ?_
      refine lv_iconst (v := 2) hx hb dX6_learntInAll_17 (by decide) ?_
      obtain ⟨r3, h2, hF⟩ := bi_some hF
      refine k_i hS (kV_run M hS hP ok_X6_147 (c_X6_childIs l G x2 2 v r3 h2) (rc_6 M hP rfl) rfl hl.1 rfl (Nat.le_of_ble_eq_true rfl) ⟨rfl, rfl⟩ ⟨Nat.le_of_ble_eq_true rfl, Nat.le_of_ble_eq_true rfl⟩ dX6_learntInAll_18) (fun H locs hP hS => ?_)
      obtain ⟨r5, h4, hF⟩ := bi_some hF
      refine k_i hS (kS_run M hS hP ok_X6_180 (c_X6_bits l G r3 v r5 h4) rfl hl.1 rfl (Nat.le_of_ble_eq_true rfl) ⟨rfl, rfl⟩ ⟨Nat.le_of_ble_eq_true rfl, Nat.le_of_ble_eq_true rfl⟩ dX6_learntInAll_21) (fun H locs hP hS => ?_)
      refine lv_iadd hx hb dX6_learntInAll_24 ?_
      refine lv_istore_n (lv' := [(1, .int (x1 + r5)), (0, .ref (ad G 0)), (2, .int x2)]) hx hb dX6_learntInAll_25 rfl hl (by decide) rfl (fun ls hl => ?_)
      refine lv_iinc (v := (x2 + 1)) (lv' := [(2, .int (x2 + 1)), (1, .int (x1 + r5)), (0, .ref (ad G 0))]) hx hb dX6_learntInAll_26 hl (k := 2) rfl (iinc_eq _ (by decide)) (by decide) rfl (fun ls hl => ?_)
      refine lv_goto (tgt := 4) hx hb dX6_learntInAll_29 (by decide) ?_
      exact ih (x1 + r5) (x2 + 1) _ _ ls hF hP hS (lv_sub hl [2, 1, 0] rfl)
set_option maxHeartbeats 4000000 in
set_option maxRecDepth 100000 in
theorem c_X6_learntInAll (l : Launch) (G : GG) (v : VV) (r : Int32) (hF : F_X6_learntInAll v = some r) : Met l yX6_learntInAll (cdW yX6_learntInAll cX6_learntInAll 3 (some .int)) ({ frames := 2, cells := 0, slots := 0, locals := 43 } : Room) (PC G v [.ref (ad G 0)]) (QI G r v) 0 0 (gA G) := by
  refine met_in RX6 (by decide) rfl (Nat.le_of_ble_eq_true rfl) ?_
  intro p e s m below meth c M hP ls hl
  have hx := M.1.1
  have hb := M.1.2.1
  have hS : va_S (gA G) s.heap s.heap [] := va_S.rf
  have hl : lv_has ls 3 [(0, .ref (ad G 0))] := hl
  unfold F_X6_learntInAll at hF
  refine lv_iconst (v := 0) hx hb dX6_learntInAll_0 (by decide) ?_
  refine lv_istore_n (lv' := [(1, .int 0), (0, .ref (ad G 0))]) hx hb dX6_learntInAll_1 rfl hl (by decide) rfl (fun ls hl => ?_)
  refine lv_iconst (v := 0) hx hb dX6_learntInAll_2 (by decide) ?_
  refine lv_istore_n (lv' := [(2, .int 0), (1, .int 0), (0, .ref (ad G 0))]) hx hb dX6_learntInAll_3 rfl hl (by decide) rfl (fun ls hl => ?_)
  exact l_X6_learntInAll_4 M _ _ fu 0 0 _ _ ls hF hP hS (lv_sub hl [2, 1, 0] rfl)
def F_X6_go (a1 : Int32) (v : VV) : Option (Int32 × VV) :=
  Option.bind (F_X6_within a1 1 60 v) (fun r2 => (if r2 = true then (if ((v 1 0) + a1) ≤ 99999 then (Option.bind (F_X6_daysGo a1 v) (fun v7 => Option.bind (F_X6_learntInAll v7) (fun r9 => some (r9, v7)))) else (Option.bind (F_X6_finding (-1000005) v) (fun (r11, v12) => some (r11, v12)))) else (Option.bind (F_X6_finding (-1000001) v) (fun (r15, v16) => some (r15, v16)))))
set_option maxHeartbeats 4000000 in
set_option maxRecDepth 100000 in
theorem c_X6_go (l : Launch) (G : GG) (a1 : Int32) (v : VV) (r : Int32) (v' : VV) (hF : F_X6_go a1 v = some (r, v')) : Met l yX6_go (cdW yX6_go cX6_go 2 (some .int)) ({ frames := 7, cells := 0, slots := 0, locals := 158 } : Room) (PC G v [.ref (ad G 0), .int a1]) (QI G r v') 0 0 (gA G) := by
  refine met_in RX6 (by decide) rfl (Nat.le_of_ble_eq_true rfl) ?_
  intro p e s m below meth c M hP ls hl
  have hx := M.1.1
  have hb := M.1.2.1
  have hS : va_S (gA G) s.heap s.heap [] := va_S.rf
  have hl : lv_has ls 2 [(0, .ref (ad G 0)), (1, .int a1)] := hl
  unfold F_X6_go at hF
  refine lv_iload_n hx hb dX6_go_0 rfl (lv_at hl 1 rfl) ?_
  refine lv_iconst (v := 1) hx hb dX6_go_1 (by decide) ?_
  refine lv_bipush (v := 60) hx hb dX6_go_2 (by decide) ?_
  obtain ⟨r2, h1, hF⟩ := bi_some hF
  refine k_i hS (kS_run M hS hP ok_X6_70 (c_X6_within l G a1 1 60 v r2 h1) rfl hl.1 rfl (Nat.le_of_ble_eq_true rfl) ⟨rfl, rfl⟩ ⟨Nat.le_of_ble_eq_true rfl, Nat.le_of_ble_eq_true rfl⟩ dX6_go_4) (fun H locs hP hS => ?_)
  refine lv_if_ne (tgt := 17) hx hb dX6_go_7 (by decide) (fun c3 => ?_) (fun c3 => ?_)
  · replace hF := (if_pos (bI_t c3)).symm.trans hF
    refine lv_aload_n hx hb dX6_go_17 rfl (lv_at hl 0 rfl) ?_
    refine fg_6_9 M hP dX6_go_18 ?_
    refine lv_iconst (v := 0) hx hb dX6_go_21 (by decide) ?_
    refine r_iald (k := 0) M hP rfl rfl (in_c rfl) rfl dX6_go_22 ?_
    refine lv_iload_n hx hb dX6_go_23 rfl (lv_at hl 1 rfl) ?_
    refine lv_iadd hx hb dX6_go_24 ?_
    refine lv_ldc (own := RX6) (v := 99999) hx hb M.1.2.2.2.1 (M.1.2.2.2.2 (Cond.constant RX6 176 99999) w_912) dX6_go_25 ?_
    refine lv_icmp_le (tgt := 37) hx hb dX6_go_27 (by decide) (fun c4 => ?_) (fun c4 => ?_)
    · replace hF := (if_pos c4).symm.trans hF
      refine lv_aload_n hx hb dX6_go_37 rfl (lv_at hl 0 rfl) ?_
      refine lv_iload_n hx hb dX6_go_38 rfl (lv_at hl 1 rfl) ?_
      obtain ⟨v7, h5, hF⟩ := bi_some hF
      refine k_v hS (kV_run M hS hP ok_X6_184 (c_X6_daysGo l G a1 v v7 h5) (rc_6 M hP rfl) rfl hl.1 rfl (Nat.le_of_ble_eq_true rfl) ⟨rfl, rfl⟩ ⟨Nat.le_of_ble_eq_true rfl, Nat.le_of_ble_eq_true rfl⟩ dX6_go_39) (fun H locs hP hS => ?_)
      refine lv_aload_n hx hb dX6_go_42 rfl (lv_at hl 0 rfl) ?_
      obtain ⟨r9, h8, hF⟩ := bi_some hF
      refine k_i hS (kV_run M hS hP ok_X6_188 (c_X6_learntInAll l G v7 r9 h8) (rc_6 M hP rfl) rfl hl.1 rfl (Nat.le_of_ble_eq_true rfl) ⟨rfl, rfl⟩ ⟨Nat.le_of_ble_eq_true rfl, Nat.le_of_ble_eq_true rfl⟩ dX6_go_43) (fun H locs hP hS => ?_)
      exact ret_i M hS hP (Option.some.inj hF) dX6_go_46
    · replace hF := (if_neg c4).symm.trans hF
      refine lv_aload_n hx hb dX6_go_30 rfl (lv_at hl 0 rfl) ?_
      refine lv_ldc (own := RX6) (v := (-1000005)) hx hb M.1.2.2.2.1 (M.1.2.2.2.2 (Cond.constant RX6 183 (-1000005)) w_913) dX6_go_31 ?_
      obtain ⟨⟨r11, v12⟩, h10, hF⟩ := bi_some hF
      dsimp only at hF
      refine k_i hS (kV_run M hS hP ok_X6_66 (c_X6_finding l G (-1000005) v r11 v12 h10) (rc_6 M hP rfl) rfl hl.1 rfl (Nat.le_of_ble_eq_true rfl) ⟨rfl, rfl⟩ ⟨Nat.le_of_ble_eq_true rfl, Nat.le_of_ble_eq_true rfl⟩ dX6_go_33) (fun H locs hP hS => ?_)
      exact ret_i M hS hP (Option.some.inj hF) dX6_go_36
  · replace hF := (if_neg (bI_f c3)).symm.trans hF
    refine lv_aload_n hx hb dX6_go_10 rfl (lv_at hl 0 rfl) ?_
    refine lv_ldc (own := RX6) (v := (-1000001)) hx hb M.1.2.2.2.1 (M.1.2.2.2.2 (Cond.constant RX6 60 (-1000001)) w_788) dX6_go_11 ?_
    obtain ⟨⟨r15, v16⟩, h14, hF⟩ := bi_some hF
    dsimp only at hF
    refine k_i hS (kV_run M hS hP ok_X6_66 (c_X6_finding l G (-1000001) v r15 v16 h14) (rc_6 M hP rfl) rfl hl.1 rfl (Nat.le_of_ble_eq_true rfl) ⟨rfl, rfl⟩ ⟨Nat.le_of_ble_eq_true rfl, Nat.le_of_ble_eq_true rfl⟩ dX6_go_13) (fun H locs hP hS => ?_)
    exact ret_i M hS hP (Option.some.inj hF) dX6_go_16
def L_X6_anyOf_4 : Nat → Int32 → Int32 → Int32 → VV → Option Int32
  | 0, _, _, _, _ => none
  | n + 1, x1, x2, x3, v =>
  if (v 1 3) ≤ x3 then (some x2) else (Option.bind (F_X6_childIs x3 x1 v) (fun r3 => L_X6_anyOf_4 n x1 (x2 ||| r3) (x3 + 1) v))
def F_X6_anyOf (a1 : Int32) (v : VV) : Option Int32 :=
  L_X6_anyOf_4 fu a1 0 0 v
set_option maxHeartbeats 4000000 in
set_option maxRecDepth 100000 in
theorem l_X6_anyOf_4 {p : Program} {l : Launch} {e : Env} {s : State} {m : MethodId} {args : Array Value} {below : List Frame} {meth : Method} {c : Code} {G : GG} (M : Mx G RX6 cX6_anyOf 4 (some .int) p s m args meth c) (r : Int32) (v : VV) : ∀ (n : Nat) (x1 : Int32) (x2 : Int32) (x3 : Int32) (H : Heap) (locs : List Loc) (ls : Array Slot), L_X6_anyOf_4 n x1 x2 x3 v = some r → Wd G v H → va_S (gA G) s.heap H locs → lv_has ls 4 [(0, .ref (ad G 0)), (1, .int x1), (2, .int x2), (3, .int x3)] → W p l e ({ frames := 2, cells := 0, slots := 0, locals := 43 } : Room) s m args below meth c H locs 0 0 (MQ below (QI G r v) args s 0 0 (gA G)) (F0 m 4 ls []) := by
  have hx := M.1.1
  have hb := M.1.2.1
  intro n
  induction n with
  | zero =>
    intro x1 x2 x3 H locs ls hF hP hS hl
    rw [L_X6_anyOf_4] at hF
    cases hF
  | succ n ih =>
    intro x1 x2 x3 H locs ls hF hP hS hl
    rw [L_X6_anyOf_4] at hF
    refine lv_iload_n hx hb dX6_anyOf_4 rfl (lv_at hl 3 rfl) ?_
    refine lv_aload_n hx hb dX6_anyOf_5 rfl (lv_at hl 0 rfl) ?_
    refine fg_6_9 M hP dX6_anyOf_6 ?_
    refine lv_iconst (v := 3) hx hb dX6_anyOf_9 (by decide) ?_
    refine r_iald (k := 3) M hP rfl rfl (in_c rfl) rfl dX6_anyOf_10 ?_
    refine lv_icmp_ge (tgt := 29) hx hb dX6_anyOf_11 (by decide) (fun c1 => ?_) (fun c1 => ?_)
    · replace hF := (if_pos c1).symm.trans hF
      refine lv_iload_n hx hb dX6_anyOf_29 rfl (lv_at hl 2 rfl) ?_
      exact ret_i M hS hP (congrArg (fun z => (z, v)) (Option.some.inj hF)) dX6_anyOf_30
    · replace hF := (if_neg c1).symm.trans hF
      refine lv_iload_n hx hb dX6_anyOf_14 rfl (lv_at hl 2 rfl) ?_
      refine lv_aload_n hx hb dX6_anyOf_15 rfl (lv_at hl 0 rfl) ?_
      refine lv_iload_n hx hb dX6_anyOf_16 rfl (lv_at hl 3 rfl) ?_
      refine lv_iload_n hx hb dX6_anyOf_17 rfl (lv_at hl 1 rfl) ?_
      obtain ⟨r3, h2, hF⟩ := bi_some hF
      refine k_i hS (kV_run M hS hP ok_X6_147 (c_X6_childIs l G x3 x1 v r3 h2) (rc_6 M hP rfl) rfl hl.1 rfl (Nat.le_of_ble_eq_true rfl) ⟨rfl, rfl⟩ ⟨Nat.le_of_ble_eq_true rfl, Nat.le_of_ble_eq_true rfl⟩ dX6_anyOf_18) (fun H locs hP hS => ?_)
      refine lv_ior hx hb dX6_anyOf_21 ?_
      refine lv_istore_n (lv' := [(2, .int (x2 ||| r3)), (0, .ref (ad G 0)), (1, .int x1), (3, .int x3)]) hx hb dX6_anyOf_22 rfl hl (by decide) rfl (fun ls hl => ?_)
      refine lv_iinc (v := (x3 + 1)) (lv' := [(3, .int (x3 + 1)), (2, .int (x2 ||| r3)), (0, .ref (ad G 0)), (1, .int x1)]) hx hb dX6_anyOf_23 hl (k := 3) rfl (iinc_eq _ (by decide)) (by decide) rfl (fun ls hl => ?_)
      refine lv_goto (tgt := 4) hx hb dX6_anyOf_26 (by decide) ?_
      exact ih x1 (x2 ||| r3) (x3 + 1) _ _ ls hF hP hS (lv_sub hl [2, 3, 1, 0] rfl)
set_option maxHeartbeats 4000000 in
set_option maxRecDepth 100000 in
theorem c_X6_anyOf (l : Launch) (G : GG) (a1 : Int32) (v : VV) (r : Int32) (hF : F_X6_anyOf a1 v = some r) : Met l yX6_anyOf (cdW yX6_anyOf cX6_anyOf 4 (some .int)) ({ frames := 2, cells := 0, slots := 0, locals := 43 } : Room) (PC G v [.ref (ad G 0), .int a1]) (QI G r v) 0 0 (gA G) := by
  refine met_in RX6 (by decide) rfl (Nat.le_of_ble_eq_true rfl) ?_
  intro p e s m below meth c M hP ls hl
  have hx := M.1.1
  have hb := M.1.2.1
  have hS : va_S (gA G) s.heap s.heap [] := va_S.rf
  have hl : lv_has ls 4 [(0, .ref (ad G 0)), (1, .int a1)] := hl
  unfold F_X6_anyOf at hF
  refine lv_iconst (v := 0) hx hb dX6_anyOf_0 (by decide) ?_
  refine lv_istore_n (lv' := [(2, .int 0), (0, .ref (ad G 0)), (1, .int a1)]) hx hb dX6_anyOf_1 rfl hl (by decide) rfl (fun ls hl => ?_)
  refine lv_iconst (v := 0) hx hb dX6_anyOf_2 (by decide) ?_
  refine lv_istore_n (lv' := [(3, .int 0), (2, .int 0), (0, .ref (ad G 0)), (1, .int a1)]) hx hb dX6_anyOf_3 rfl hl (by decide) rfl (fun ls hl => ?_)
  exact l_X6_anyOf_4 M _ _ fu a1 0 0 _ _ ls hF hP hS (lv_sub hl [2, 3, 1, 0] rfl)
def L_X6_given_4 : Nat → Int32 → Int32 → VV → Option Int32
  | 0, _, _, _ => none
  | n + 1, x1, x2, v =>
  if (v 1 1) ≤ x2 then (some x1) else (Option.bind (F_X6_keeperIs x2 5 v) (fun r3 => (if r3 = 0 then (Option.bind (F_X6_gives x2 v) (fun r6 => L_X6_given_4 n (x1 ||| (1 <<< (r6 &&& 31))) (x2 + 1) v)) else (L_X6_given_4 n (x1 ||| 0) (x2 + 1) v))))
def F_X6_given (v : VV) : Option Int32 :=
  L_X6_given_4 fu 0 0 v
set_option maxHeartbeats 4000000 in
set_option maxRecDepth 100000 in
theorem l_X6_given_4 {p : Program} {l : Launch} {e : Env} {s : State} {m : MethodId} {args : Array Value} {below : List Frame} {meth : Method} {c : Code} {G : GG} (M : Mx G RX6 cX6_given 3 (some .int) p s m args meth c) (r : Int32) (v : VV) : ∀ (n : Nat) (x1 : Int32) (x2 : Int32) (H : Heap) (locs : List Loc) (ls : Array Slot), L_X6_given_4 n x1 x2 v = some r → Wd G v H → va_S (gA G) s.heap H locs → lv_has ls 3 [(0, .ref (ad G 0)), (1, .int x1), (2, .int x2)] → W p l e ({ frames := 3, cells := 0, slots := 0, locals := 65 } : Room) s m args below meth c H locs 0 0 (MQ below (QI G r v) args s 0 0 (gA G)) (F0 m 4 ls []) := by
  have hx := M.1.1
  have hb := M.1.2.1
  intro n
  induction n with
  | zero =>
    intro x1 x2 H locs ls hF hP hS hl
    rw [L_X6_given_4] at hF
    cases hF
  | succ n ih =>
    intro x1 x2 H locs ls hF hP hS hl
    rw [L_X6_given_4] at hF
    refine lv_iload_n hx hb dX6_given_4 rfl (lv_at hl 2 rfl) ?_
    refine lv_aload_n hx hb dX6_given_5 rfl (lv_at hl 0 rfl) ?_
    refine fg_6_9 M hP dX6_given_6 ?_
    refine lv_iconst (v := 1) hx hb dX6_given_9 (by decide) ?_
    refine r_iald (k := 1) M hP rfl rfl (in_c rfl) rfl dX6_given_10 ?_
    refine lv_icmp_ge (tgt := 43) hx hb dX6_given_11 (by decide) (fun c1 => ?_) (fun c1 => ?_)
    · replace hF := (if_pos c1).symm.trans hF
      refine lv_iload_n hx hb dX6_given_43 rfl (lv_at hl 1 rfl) ?_
      exact ret_i M hS hP (congrArg (fun z => (z, v)) (Option.some.inj hF)) dX6_given_44
    · replace hF := (if_neg c1).symm.trans hF
      refine lv_iload_n hx hb dX6_given_14 rfl (lv_at hl 1 rfl) ?_
      refine lv_aload_n hx hb dX6_given_15 rfl (lv_at hl 0 rfl) ?_
      refine lv_iload_n hx hb dX6_given_16 rfl (lv_at hl 2 rfl) ?_
      refine lv_iconst (v := 5) hx hb dX6_given_17 (by decide) ?_
      obtain ⟨r3, h2, hF⟩ := bi_some hF
      refine k_i hS (kV_run M hS hP ok_X6_104 (c_X6_keeperIs l G x2 5 v r3 h2) (rc_6 M hP rfl) rfl hl.1 rfl (Nat.le_of_ble_eq_true rfl) ⟨rfl, rfl⟩ ⟨Nat.le_of_ble_eq_true rfl, Nat.le_of_ble_eq_true rfl⟩ dX6_given_18) (fun H locs hP hS => ?_)
      refine lv_if_ne (tgt := 34) hx hb dX6_given_21 (by decide) (fun c4 => ?_) (fun c4 => ?_)
      · replace hF := (if_neg c4).symm.trans hF
        refine lv_iconst (v := 0) hx hb dX6_given_34 (by decide) ?_
        refine lv_ior hx hb dX6_given_35 ?_
        refine lv_istore_n (lv' := [(1, .int (x1 ||| 0)), (0, .ref (ad G 0)), (2, .int x2)]) hx hb dX6_given_36 rfl hl (by decide) rfl (fun ls hl => ?_)
        refine lv_iinc (v := (x2 + 1)) (lv' := [(2, .int (x2 + 1)), (1, .int (x1 ||| 0)), (0, .ref (ad G 0))]) hx hb dX6_given_37 hl (k := 2) rfl (iinc_eq _ (by decide)) (by decide) rfl (fun ls hl => ?_)
        refine lv_goto (tgt := 4) hx hb dX6_given_40 (by decide) ?_
        exact ih (x1 ||| 0) (x2 + 1) _ _ ls hF hP hS (lv_sub hl [2, 1, 0] rfl)
      · replace hF := (if_pos c4).symm.trans hF
        refine lv_iconst (v := 1) hx hb dX6_given_24 (by decide) ?_
        refine lv_aload_n hx hb dX6_given_25 rfl (lv_at hl 0 rfl) ?_
        refine lv_iload_n hx hb dX6_given_26 rfl (lv_at hl 2 rfl) ?_
        obtain ⟨r6, h5, hF⟩ := bi_some hF
        refine k_i hS (kV_run M hS hP ok_X6_112 (c_X6_gives l G x2 v r6 h5) (rc_6 M hP rfl) rfl hl.1 rfl (Nat.le_of_ble_eq_true rfl) ⟨rfl, rfl⟩ ⟨Nat.le_of_ble_eq_true rfl, Nat.le_of_ble_eq_true rfl⟩ dX6_given_27) (fun H locs hP hS => ?_)
        refine lv_ishl hx hb dX6_given_30 ?_
        refine lv_goto (tgt := 35) hx hb dX6_given_31 (by decide) ?_
        refine lv_ior hx hb dX6_given_35 ?_
        refine lv_istore_n (lv' := [(1, .int (x1 ||| (1 <<< (r6 &&& 31)))), (0, .ref (ad G 0)), (2, .int x2)]) hx hb dX6_given_36 rfl hl (by decide) rfl (fun ls hl => ?_)
        refine lv_iinc (v := (x2 + 1)) (lv' := [(2, .int (x2 + 1)), (1, .int (x1 ||| (1 <<< (r6 &&& 31)))), (0, .ref (ad G 0))]) hx hb dX6_given_37 hl (k := 2) rfl (iinc_eq _ (by decide)) (by decide) rfl (fun ls hl => ?_)
        refine lv_goto (tgt := 4) hx hb dX6_given_40 (by decide) ?_
        exact ih (x1 ||| (1 <<< (r6 &&& 31))) (x2 + 1) _ _ ls hF hP hS (lv_sub hl [2, 1, 0] rfl)
set_option maxHeartbeats 4000000 in
set_option maxRecDepth 100000 in
theorem c_X6_given (l : Launch) (G : GG) (v : VV) (r : Int32) (hF : F_X6_given v = some r) : Met l yX6_given (cdW yX6_given cX6_given 3 (some .int)) ({ frames := 3, cells := 0, slots := 0, locals := 65 } : Room) (PC G v [.ref (ad G 0)]) (QI G r v) 0 0 (gA G) := by
  refine met_in RX6 (by decide) rfl (Nat.le_of_ble_eq_true rfl) ?_
  intro p e s m below meth c M hP ls hl
  have hx := M.1.1
  have hb := M.1.2.1
  have hS : va_S (gA G) s.heap s.heap [] := va_S.rf
  have hl : lv_has ls 3 [(0, .ref (ad G 0))] := hl
  unfold F_X6_given at hF
  refine lv_iconst (v := 0) hx hb dX6_given_0 (by decide) ?_
  refine lv_istore_n (lv' := [(1, .int 0), (0, .ref (ad G 0))]) hx hb dX6_given_1 rfl hl (by decide) rfl (fun ls hl => ?_)
  refine lv_iconst (v := 0) hx hb dX6_given_2 (by decide) ?_
  refine lv_istore_n (lv' := [(2, .int 0), (1, .int 0), (0, .ref (ad G 0))]) hx hb dX6_given_3 rfl hl (by decide) rfl (fun ls hl => ?_)
  exact l_X6_given_4 M _ _ fu 0 0 _ _ ls hF hP hS (lv_sub hl [2, 1, 0] rfl)
def L_X6_tiredInAll_4 : Nat → Int32 → Int32 → VV → Option Int32
  | 0, _, _, _ => none
  | n + 1, x1, x2, v =>
  if (v 1 1) ≤ x2 then (some x1) else (Option.bind (F_X6_keeperIs x2 4 v) (fun r3 => L_X6_tiredInAll_4 n (x1 + r3) (x2 + 1) v))
def F_X6_tiredInAll (v : VV) : Option Int32 :=
  L_X6_tiredInAll_4 fu 0 0 v
set_option maxHeartbeats 4000000 in
set_option maxRecDepth 100000 in
theorem l_X6_tiredInAll_4 {p : Program} {l : Launch} {e : Env} {s : State} {m : MethodId} {args : Array Value} {below : List Frame} {meth : Method} {c : Code} {G : GG} (M : Mx G RX6 cX6_tiredInAll 3 (some .int) p s m args meth c) (r : Int32) (v : VV) : ∀ (n : Nat) (x1 : Int32) (x2 : Int32) (H : Heap) (locs : List Loc) (ls : Array Slot), L_X6_tiredInAll_4 n x1 x2 v = some r → Wd G v H → va_S (gA G) s.heap H locs → lv_has ls 3 [(0, .ref (ad G 0)), (1, .int x1), (2, .int x2)] → W p l e ({ frames := 2, cells := 0, slots := 0, locals := 43 } : Room) s m args below meth c H locs 0 0 (MQ below (QI G r v) args s 0 0 (gA G)) (F0 m 4 ls []) := by
  have hx := M.1.1
  have hb := M.1.2.1
  intro n
  induction n with
  | zero =>
    intro x1 x2 H locs ls hF hP hS hl
    rw [L_X6_tiredInAll_4] at hF
    cases hF
  | succ n ih =>
    intro x1 x2 H locs ls hF hP hS hl
    rw [L_X6_tiredInAll_4] at hF
    refine lv_iload_n hx hb dX6_tiredInAll_4 rfl (lv_at hl 2 rfl) ?_
    refine lv_aload_n hx hb dX6_tiredInAll_5 rfl (lv_at hl 0 rfl) ?_
    refine fg_6_9 M hP dX6_tiredInAll_6 ?_
    refine lv_iconst (v := 1) hx hb dX6_tiredInAll_9 (by decide) ?_
    refine r_iald (k := 1) M hP rfl rfl (in_c rfl) rfl dX6_tiredInAll_10 ?_
    refine lv_icmp_ge (tgt := 29) hx hb dX6_tiredInAll_11 (by decide) (fun c1 => ?_) (fun c1 => ?_)
    · replace hF := (if_pos c1).symm.trans hF
      refine lv_iload_n hx hb dX6_tiredInAll_29 rfl (lv_at hl 1 rfl) ?_
      exact ret_i M hS hP (congrArg (fun z => (z, v)) (Option.some.inj hF)) dX6_tiredInAll_30
    · replace hF := (if_neg c1).symm.trans hF
      refine lv_iload_n hx hb dX6_tiredInAll_14 rfl (lv_at hl 1 rfl) ?_
      refine lv_aload_n hx hb dX6_tiredInAll_15 rfl (lv_at hl 0 rfl) ?_
      refine lv_iload_n hx hb dX6_tiredInAll_16 rfl (lv_at hl 2 rfl) ?_
      refine lv_iconst (v := 4) hx hb dX6_tiredInAll_17 (by decide) ?_
      obtain ⟨r3, h2, hF⟩ := bi_some hF
      refine k_i hS (kV_run M hS hP ok_X6_104 (c_X6_keeperIs l G x2 4 v r3 h2) (rc_6 M hP rfl) rfl hl.1 rfl (Nat.le_of_ble_eq_true rfl) ⟨rfl, rfl⟩ ⟨Nat.le_of_ble_eq_true rfl, Nat.le_of_ble_eq_true rfl⟩ dX6_tiredInAll_18) (fun H locs hP hS => ?_)
      refine lv_iadd hx hb dX6_tiredInAll_21 ?_
      refine lv_istore_n (lv' := [(1, .int (x1 + r3)), (0, .ref (ad G 0)), (2, .int x2)]) hx hb dX6_tiredInAll_22 rfl hl (by decide) rfl (fun ls hl => ?_)
      refine lv_iinc (v := (x2 + 1)) (lv' := [(2, .int (x2 + 1)), (1, .int (x1 + r3)), (0, .ref (ad G 0))]) hx hb dX6_tiredInAll_23 hl (k := 2) rfl (iinc_eq _ (by decide)) (by decide) rfl (fun ls hl => ?_)
      refine lv_goto (tgt := 4) hx hb dX6_tiredInAll_26 (by decide) ?_
      exact ih (x1 + r3) (x2 + 1) _ _ ls hF hP hS (lv_sub hl [2, 1, 0] rfl)
set_option maxHeartbeats 4000000 in
set_option maxRecDepth 100000 in
theorem c_X6_tiredInAll (l : Launch) (G : GG) (v : VV) (r : Int32) (hF : F_X6_tiredInAll v = some r) : Met l yX6_tiredInAll (cdW yX6_tiredInAll cX6_tiredInAll 3 (some .int)) ({ frames := 2, cells := 0, slots := 0, locals := 43 } : Room) (PC G v [.ref (ad G 0)]) (QI G r v) 0 0 (gA G) := by
  refine met_in RX6 (by decide) rfl (Nat.le_of_ble_eq_true rfl) ?_
  intro p e s m below meth c M hP ls hl
  have hx := M.1.1
  have hb := M.1.2.1
  have hS : va_S (gA G) s.heap s.heap [] := va_S.rf
  have hl : lv_has ls 3 [(0, .ref (ad G 0))] := hl
  unfold F_X6_tiredInAll at hF
  refine lv_iconst (v := 0) hx hb dX6_tiredInAll_0 (by decide) ?_
  refine lv_istore_n (lv' := [(1, .int 0), (0, .ref (ad G 0))]) hx hb dX6_tiredInAll_1 rfl hl (by decide) rfl (fun ls hl => ?_)
  refine lv_iconst (v := 0) hx hb dX6_tiredInAll_2 (by decide) ?_
  refine lv_istore_n (lv' := [(2, .int 0), (1, .int 0), (0, .ref (ad G 0))]) hx hb dX6_tiredInAll_3 rfl hl (by decide) rfl (fun ls hl => ?_)
  exact l_X6_tiredInAll_4 M _ _ fu 0 0 _ _ ls hF hP hS (lv_sub hl [2, 1, 0] rfl)
def L_X6_wiseOnes_4 : Nat → Int32 → Int32 → VV → Option Int32
  | 0, _, _, _ => none
  | n + 1, x1, x2, v =>
  if (v 1 3) ≤ x2 then (some x1) else (Option.bind (F_X6_childIs x2 2 v) (fun r3 => (if r3 = 4095 then (L_X6_wiseOnes_4 n (x1 ||| (1 <<< (x2 &&& 31))) (x2 + 1) v) else (L_X6_wiseOnes_4 n (x1 ||| 0) (x2 + 1) v))))
def F_X6_wiseOnes (v : VV) : Option Int32 :=
  L_X6_wiseOnes_4 fu 0 0 v
set_option maxHeartbeats 4000000 in
set_option maxRecDepth 100000 in
theorem l_X6_wiseOnes_4 {p : Program} {l : Launch} {e : Env} {s : State} {m : MethodId} {args : Array Value} {below : List Frame} {meth : Method} {c : Code} {G : GG} (M : Mx G RX6 cX6_wiseOnes 3 (some .int) p s m args meth c) (r : Int32) (v : VV) : ∀ (n : Nat) (x1 : Int32) (x2 : Int32) (H : Heap) (locs : List Loc) (ls : Array Slot), L_X6_wiseOnes_4 n x1 x2 v = some r → Wd G v H → va_S (gA G) s.heap H locs → lv_has ls 3 [(0, .ref (ad G 0)), (1, .int x1), (2, .int x2)] → W p l e ({ frames := 2, cells := 0, slots := 0, locals := 43 } : Room) s m args below meth c H locs 0 0 (MQ below (QI G r v) args s 0 0 (gA G)) (F0 m 4 ls []) := by
  have hx := M.1.1
  have hb := M.1.2.1
  intro n
  induction n with
  | zero =>
    intro x1 x2 H locs ls hF hP hS hl
    rw [L_X6_wiseOnes_4] at hF
    cases hF
  | succ n ih =>
    intro x1 x2 H locs ls hF hP hS hl
    rw [L_X6_wiseOnes_4] at hF
    refine lv_iload_n hx hb dX6_wiseOnes_4 rfl (lv_at hl 2 rfl) ?_
    refine lv_aload_n hx hb dX6_wiseOnes_5 rfl (lv_at hl 0 rfl) ?_
    refine fg_6_9 M hP dX6_wiseOnes_6 ?_
    refine lv_iconst (v := 3) hx hb dX6_wiseOnes_9 (by decide) ?_
    refine r_iald (k := 3) M hP rfl rfl (in_c rfl) rfl dX6_wiseOnes_10 ?_
    refine lv_icmp_ge (tgt := 42) hx hb dX6_wiseOnes_11 (by decide) (fun c1 => ?_) (fun c1 => ?_)
    · replace hF := (if_pos c1).symm.trans hF
      refine lv_iload_n hx hb dX6_wiseOnes_42 rfl (lv_at hl 1 rfl) ?_
      exact ret_i M hS hP (congrArg (fun z => (z, v)) (Option.some.inj hF)) dX6_wiseOnes_43
    · replace hF := (if_neg c1).symm.trans hF
      refine lv_iload_n hx hb dX6_wiseOnes_14 rfl (lv_at hl 1 rfl) ?_
      refine lv_aload_n hx hb dX6_wiseOnes_15 rfl (lv_at hl 0 rfl) ?_
      refine lv_iload_n hx hb dX6_wiseOnes_16 rfl (lv_at hl 2 rfl) ?_
      refine lv_iconst (v := 2) hx hb dX6_wiseOnes_17 (by decide) ?_
      obtain ⟨r3, h2, hF⟩ := bi_some hF
      refine k_i hS (kV_run M hS hP ok_X6_147 (c_X6_childIs l G x2 2 v r3 h2) (rc_6 M hP rfl) rfl hl.1 rfl (Nat.le_of_ble_eq_true rfl) ⟨rfl, rfl⟩ ⟨Nat.le_of_ble_eq_true rfl, Nat.le_of_ble_eq_true rfl⟩ dX6_wiseOnes_18) (fun H locs hP hS => ?_)
      refine lv_sipush (v := 4095) hx hb dX6_wiseOnes_21 (by decide) ?_
      refine lv_icmp_ne (tgt := 33) hx hb dX6_wiseOnes_24 (by decide) (fun c4 => ?_) (fun c4 => ?_)
      · replace hF := (if_neg c4).symm.trans hF
        refine lv_iconst (v := 0) hx hb dX6_wiseOnes_33 (by decide) ?_
        refine lv_ior hx hb dX6_wiseOnes_34 ?_
        refine lv_istore_n (lv' := [(1, .int (x1 ||| 0)), (0, .ref (ad G 0)), (2, .int x2)]) hx hb dX6_wiseOnes_35 rfl hl (by decide) rfl (fun ls hl => ?_)
        refine lv_iinc (v := (x2 + 1)) (lv' := [(2, .int (x2 + 1)), (1, .int (x1 ||| 0)), (0, .ref (ad G 0))]) hx hb dX6_wiseOnes_36 hl (k := 2) rfl (iinc_eq _ (by decide)) (by decide) rfl (fun ls hl => ?_)
        refine lv_goto (tgt := 4) hx hb dX6_wiseOnes_39 (by decide) ?_
        exact ih (x1 ||| 0) (x2 + 1) _ _ ls hF hP hS (lv_sub hl [2, 1, 0] rfl)
      · replace hF := (if_pos c4).symm.trans hF
        refine lv_iconst (v := 1) hx hb dX6_wiseOnes_27 (by decide) ?_
        refine lv_iload_n hx hb dX6_wiseOnes_28 rfl (lv_at hl 2 rfl) ?_
        refine lv_ishl hx hb dX6_wiseOnes_29 ?_
        refine lv_goto (tgt := 34) hx hb dX6_wiseOnes_30 (by decide) ?_
        refine lv_ior hx hb dX6_wiseOnes_34 ?_
        refine lv_istore_n (lv' := [(1, .int (x1 ||| (1 <<< (x2 &&& 31)))), (0, .ref (ad G 0)), (2, .int x2)]) hx hb dX6_wiseOnes_35 rfl hl (by decide) rfl (fun ls hl => ?_)
        refine lv_iinc (v := (x2 + 1)) (lv' := [(2, .int (x2 + 1)), (1, .int (x1 ||| (1 <<< (x2 &&& 31)))), (0, .ref (ad G 0))]) hx hb dX6_wiseOnes_36 hl (k := 2) rfl (iinc_eq _ (by decide)) (by decide) rfl (fun ls hl => ?_)
        refine lv_goto (tgt := 4) hx hb dX6_wiseOnes_39 (by decide) ?_
        exact ih (x1 ||| (1 <<< (x2 &&& 31))) (x2 + 1) _ _ ls hF hP hS (lv_sub hl [2, 1, 0] rfl)
set_option maxHeartbeats 4000000 in
set_option maxRecDepth 100000 in
theorem c_X6_wiseOnes (l : Launch) (G : GG) (v : VV) (r : Int32) (hF : F_X6_wiseOnes v = some r) : Met l yX6_wiseOnes (cdW yX6_wiseOnes cX6_wiseOnes 3 (some .int)) ({ frames := 2, cells := 0, slots := 0, locals := 43 } : Room) (PC G v [.ref (ad G 0)]) (QI G r v) 0 0 (gA G) := by
  refine met_in RX6 (by decide) rfl (Nat.le_of_ble_eq_true rfl) ?_
  intro p e s m below meth c M hP ls hl
  have hx := M.1.1
  have hb := M.1.2.1
  have hS : va_S (gA G) s.heap s.heap [] := va_S.rf
  have hl : lv_has ls 3 [(0, .ref (ad G 0))] := hl
  unfold F_X6_wiseOnes at hF
  refine lv_iconst (v := 0) hx hb dX6_wiseOnes_0 (by decide) ?_
  refine lv_istore_n (lv' := [(1, .int 0), (0, .ref (ad G 0))]) hx hb dX6_wiseOnes_1 rfl hl (by decide) rfl (fun ls hl => ?_)
  refine lv_iconst (v := 0) hx hb dX6_wiseOnes_2 (by decide) ?_
  refine lv_istore_n (lv' := [(2, .int 0), (1, .int 0), (0, .ref (ad G 0))]) hx hb dX6_wiseOnes_3 rfl hl (by decide) rfl (fun ls hl => ?_)
  exact l_X6_wiseOnes_4 M _ _ fu 0 0 _ _ ls hF hP hS (lv_sub hl [2, 1, 0] rfl)
def F_X6_now (a1 : Int32) (v : VV) : Option (Int32 × VV) :=
  if a1 = 0 then (some (v 1 0, v)) else (if a1 = 1 then (Option.bind (F_X6_learntInAll v) (fun r4 => some (r4, v))) else (if a1 = 2 then (Option.bind (F_X6_anyOf 2 v) (fun r7 => some (r7, v))) else (if a1 = 3 then (Option.bind (F_X6_anyOf 3 v) (fun r10 => some (r10, v))) else (if a1 = 4 then (Option.bind (F_X6_given v) (fun r13 => some (r13, v))) else (if a1 = 5 then (Option.bind (F_X6_tiredInAll v) (fun r16 => some (r16, v))) else (if a1 = 6 then (Option.bind (F_X6_wiseOnes v) (fun r19 => some (r19, v))) else (if a1 = 7 then (Option.bind (F_X6_placeNow v) (fun r22 => gu (gI r22 92) (some (v 1 ((r22).toNatClampNeg), v)))) else (Option.bind (F_X6_finding (-1000001) v) (fun (r25, v26) => some (r25, v26))))))))))
set_option maxHeartbeats 4000000 in
set_option maxRecDepth 100000 in
theorem c_X6_now (l : Launch) (G : GG) (a1 : Int32) (v : VV) (r : Int32) (v' : VV) (hF : F_X6_now a1 v = some (r, v')) : Met l yX6_now (cdW yX6_now cX6_now 2 (some .int)) ({ frames := 4, cells := 0, slots := 0, locals := 87 } : Room) (PC G v [.ref (ad G 0), .int a1]) (QI G r v') 0 0 (gA G) := by
  refine met_in RX6 (by decide) rfl (Nat.le_of_ble_eq_true rfl) ?_
  intro p e s m below meth c M hP ls hl
  have hx := M.1.1
  have hb := M.1.2.1
  have hS : va_S (gA G) s.heap s.heap [] := va_S.rf
  have hl : lv_has ls 2 [(0, .ref (ad G 0)), (1, .int a1)] := hl
  unfold F_X6_now at hF
  refine lv_iload_n hx hb dX6_now_0 rfl (lv_at hl 1 rfl) ?_
  rcases Decidable.em (a1 = 0) with c1 | c1
  · replace hF := (if_pos c1).symm.trans hF
    refine lv_tableIn (tgt := 48) hx hb dX6_now_1 (by rw [c1]; decide) (by rw [c1]; decide) (by rw [c1]; rfl) (by decide) ?_
    refine lv_aload_n hx hb dX6_now_48 rfl (lv_at hl 0 rfl) ?_
    refine fg_6_9 M hP dX6_now_49 ?_
    refine lv_iconst (v := 0) hx hb dX6_now_52 (by decide) ?_
    refine r_iald (k := 0) M hP rfl rfl (in_c rfl) rfl dX6_now_53 ?_
    exact ret_i M hS hP (Option.some.inj hF) dX6_now_54
  · replace hF := (if_neg c1).symm.trans hF
    rcases Decidable.em (a1 = 1) with c2 | c2
    · replace hF := (if_pos c2).symm.trans hF
      refine lv_tableIn (tgt := 55) hx hb dX6_now_1 (by rw [c2]; decide) (by rw [c2]; decide) (by rw [c2]; rfl) (by decide) ?_
      refine lv_aload_n hx hb dX6_now_55 rfl (lv_at hl 0 rfl) ?_
      obtain ⟨r4, h3, hF⟩ := bi_some hF
      refine k_i hS (kV_run M hS hP ok_X6_188 (c_X6_learntInAll l G v r4 h3) (rc_6 M hP rfl) rfl hl.1 rfl (Nat.le_of_ble_eq_true rfl) ⟨rfl, rfl⟩ ⟨Nat.le_of_ble_eq_true rfl, Nat.le_of_ble_eq_true rfl⟩ dX6_now_56) (fun H locs hP hS => ?_)
      exact ret_i M hS hP (Option.some.inj hF) dX6_now_59
    · replace hF := (if_neg c2).symm.trans hF
      rcases Decidable.em (a1 = 2) with c5 | c5
      · replace hF := (if_pos c5).symm.trans hF
        refine lv_tableIn (tgt := 60) hx hb dX6_now_1 (by rw [c5]; decide) (by rw [c5]; decide) (by rw [c5]; rfl) (by decide) ?_
        refine lv_aload_n hx hb dX6_now_60 rfl (lv_at hl 0 rfl) ?_
        refine lv_iconst (v := 2) hx hb dX6_now_61 (by decide) ?_
        obtain ⟨r7, h6, hF⟩ := bi_some hF
        refine k_i hS (kV_run M hS hP ok_X6_191 (c_X6_anyOf l G 2 v r7 h6) (rc_6 M hP rfl) rfl hl.1 rfl (Nat.le_of_ble_eq_true rfl) ⟨rfl, rfl⟩ ⟨Nat.le_of_ble_eq_true rfl, Nat.le_of_ble_eq_true rfl⟩ dX6_now_62) (fun H locs hP hS => ?_)
        exact ret_i M hS hP (Option.some.inj hF) dX6_now_65
      · replace hF := (if_neg c5).symm.trans hF
        rcases Decidable.em (a1 = 3) with c8 | c8
        · replace hF := (if_pos c8).symm.trans hF
          refine lv_tableIn (tgt := 66) hx hb dX6_now_1 (by rw [c8]; decide) (by rw [c8]; decide) (by rw [c8]; rfl) (by decide) ?_
          refine lv_aload_n hx hb dX6_now_66 rfl (lv_at hl 0 rfl) ?_
          refine lv_iconst (v := 3) hx hb dX6_now_67 (by decide) ?_
          obtain ⟨r10, h9, hF⟩ := bi_some hF
          refine k_i hS (kV_run M hS hP ok_X6_191 (c_X6_anyOf l G 3 v r10 h9) (rc_6 M hP rfl) rfl hl.1 rfl (Nat.le_of_ble_eq_true rfl) ⟨rfl, rfl⟩ ⟨Nat.le_of_ble_eq_true rfl, Nat.le_of_ble_eq_true rfl⟩ dX6_now_68) (fun H locs hP hS => ?_)
          exact ret_i M hS hP (Option.some.inj hF) dX6_now_71
        · replace hF := (if_neg c8).symm.trans hF
          rcases Decidable.em (a1 = 4) with c11 | c11
          · replace hF := (if_pos c11).symm.trans hF
            refine lv_tableIn (tgt := 72) hx hb dX6_now_1 (by rw [c11]; decide) (by rw [c11]; decide) (by rw [c11]; rfl) (by decide) ?_
            refine lv_aload_n hx hb dX6_now_72 rfl (lv_at hl 0 rfl) ?_
            obtain ⟨r13, h12, hF⟩ := bi_some hF
            refine k_i hS (kV_run M hS hP ok_X6_194 (c_X6_given l G v r13 h12) (rc_6 M hP rfl) rfl hl.1 rfl (Nat.le_of_ble_eq_true rfl) ⟨rfl, rfl⟩ ⟨Nat.le_of_ble_eq_true rfl, Nat.le_of_ble_eq_true rfl⟩ dX6_now_73) (fun H locs hP hS => ?_)
            exact ret_i M hS hP (Option.some.inj hF) dX6_now_76
          · replace hF := (if_neg c11).symm.trans hF
            rcases Decidable.em (a1 = 5) with c14 | c14
            · replace hF := (if_pos c14).symm.trans hF
              refine lv_tableIn (tgt := 77) hx hb dX6_now_1 (by rw [c14]; decide) (by rw [c14]; decide) (by rw [c14]; rfl) (by decide) ?_
              refine lv_aload_n hx hb dX6_now_77 rfl (lv_at hl 0 rfl) ?_
              obtain ⟨r16, h15, hF⟩ := bi_some hF
              refine k_i hS (kV_run M hS hP ok_X6_197 (c_X6_tiredInAll l G v r16 h15) (rc_6 M hP rfl) rfl hl.1 rfl (Nat.le_of_ble_eq_true rfl) ⟨rfl, rfl⟩ ⟨Nat.le_of_ble_eq_true rfl, Nat.le_of_ble_eq_true rfl⟩ dX6_now_78) (fun H locs hP hS => ?_)
              exact ret_i M hS hP (Option.some.inj hF) dX6_now_81
            · replace hF := (if_neg c14).symm.trans hF
              rcases Decidable.em (a1 = 6) with c17 | c17
              · replace hF := (if_pos c17).symm.trans hF
                refine lv_tableIn (tgt := 82) hx hb dX6_now_1 (by rw [c17]; decide) (by rw [c17]; decide) (by rw [c17]; rfl) (by decide) ?_
                refine lv_aload_n hx hb dX6_now_82 rfl (lv_at hl 0 rfl) ?_
                obtain ⟨r19, h18, hF⟩ := bi_some hF
                refine k_i hS (kV_run M hS hP ok_X6_200 (c_X6_wiseOnes l G v r19 h18) (rc_6 M hP rfl) rfl hl.1 rfl (Nat.le_of_ble_eq_true rfl) ⟨rfl, rfl⟩ ⟨Nat.le_of_ble_eq_true rfl, Nat.le_of_ble_eq_true rfl⟩ dX6_now_83) (fun H locs hP hS => ?_)
                exact ret_i M hS hP (Option.some.inj hF) dX6_now_86
              · replace hF := (if_neg c17).symm.trans hF
                rcases Decidable.em (a1 = 7) with c20 | c20
                · replace hF := (if_pos c20).symm.trans hF
                  refine lv_tableIn (tgt := 87) hx hb dX6_now_1 (by rw [c20]; decide) (by rw [c20]; decide) (by rw [c20]; rfl) (by decide) ?_
                  refine lv_aload_n hx hb dX6_now_87 rfl (lv_at hl 0 rfl) ?_
                  refine fg_6_9 M hP dX6_now_88 ?_
                  refine lv_aload_n hx hb dX6_now_91 rfl (lv_at hl 0 rfl) ?_
                  obtain ⟨r22, h21, hF⟩ := bi_some hF
                  refine k_i hS (kV_run M hS hP ok_X6_115 (c_X6_placeNow l G v r22 h21) (rc_6 M hP rfl) rfl hl.1 rfl (Nat.le_of_ble_eq_true rfl) ⟨rfl, rfl⟩ ⟨Nat.le_of_ble_eq_true rfl, Nat.le_of_ble_eq_true rfl⟩ dX6_now_92) (fun H locs hP hS => ?_)
                  obtain ⟨g23, hF⟩ := gu_some hF
                  refine r_iald (k := (r22).toNatClampNeg) M hP rfl rfl (in_c g23) rfl dX6_now_95 ?_
                  exact ret_i M hS hP (Option.some.inj hF) dX6_now_96
                · replace hF := (if_neg c20).symm.trans hF
                  refine lv_tableOut (tgt := 97) hx hb dX6_now_1 (by have q0 := lv_neT (a := 0) c1 (by decide); have q1 := lv_neT (a := 1) c2 (by decide); have q2 := lv_neT (a := 2) c5 (by decide); have q3 := lv_neT (a := 3) c8 (by decide); have q4 := lv_neT (a := 4) c11 (by decide); have q5 := lv_neT (a := 5) c14 (by decide); have q6 := lv_neT (a := 6) c17 (by decide); have q7 := lv_neT (a := 7) c20 (by decide); omega) (by decide) ?_
                  refine lv_aload_n hx hb dX6_now_97 rfl (lv_at hl 0 rfl) ?_
                  refine lv_ldc (own := RX6) (v := (-1000001)) hx hb M.1.2.2.2.1 (M.1.2.2.2.2 (Cond.constant RX6 60 (-1000001)) w_788) dX6_now_98 ?_
                  obtain ⟨⟨r25, v26⟩, h24, hF⟩ := bi_some hF
                  dsimp only at hF
                  refine k_i hS (kV_run M hS hP ok_X6_66 (c_X6_finding l G (-1000001) v r25 v26 h24) (rc_6 M hP rfl) rfl hl.1 rfl (Nat.le_of_ble_eq_true rfl) ⟨rfl, rfl⟩ ⟨Nat.le_of_ble_eq_true rfl, Nat.le_of_ble_eq_true rfl⟩ dX6_now_100) (fun H locs hP hS => ?_)
                  exact ret_i M hS hP (Option.some.inj hF) dX6_now_103
def F_X6_behind (a1 : Int32) (a2 : Int32) (v : VV) : Option (Int32 × VV) :=
  Option.bind (F_X6_copyRow 1 3 v) (fun v3 => Option.bind (F_X6_daysGo a2 v3) (fun v6 => gu (gI a1 92) (Option.bind (F_X6_putBack (v6 1 ((a1).toNatClampNeg)) v6) (fun (r9, v10) => some (r9, v10)))))
set_option maxHeartbeats 4000000 in
set_option maxRecDepth 100000 in
theorem c_X6_behind (l : Launch) (G : GG) (a1 : Int32) (a2 : Int32) (v : VV) (r : Int32) (v' : VV) (hF : F_X6_behind a1 a2 v = some (r, v')) : Met l yX6_behind (cdW yX6_behind cX6_behind 3 (some .int)) ({ frames := 7, cells := 0, slots := 0, locals := 158 } : Room) (PC G v [.ref (ad G 0), .int a1, .int a2]) (QI G r v') 0 0 (gA G) := by
  refine met_in RX6 (by decide) rfl (Nat.le_of_ble_eq_true rfl) ?_
  intro p e s m below meth c M hP ls hl
  have hx := M.1.1
  have hb := M.1.2.1
  have hS : va_S (gA G) s.heap s.heap [] := va_S.rf
  have hl : lv_has ls 3 [(0, .ref (ad G 0)), (1, .int a1), (2, .int a2)] := hl
  unfold F_X6_behind at hF
  refine lv_aload_n hx hb dX6_behind_0 rfl (lv_at hl 0 rfl) ?_
  refine fg_6_9 M hP dX6_behind_1 ?_
  refine lv_aload_n hx hb dX6_behind_4 rfl (lv_at hl 0 rfl) ?_
  refine fg_6_16 M hP dX6_behind_5 ?_
  obtain ⟨v3, h1, hF⟩ := bi_some hF
  refine k_v hS (kS_run M hS hP ok_X6_61 (c_X6_copyRow l G 1 rfl 3 rfl v v3 h1) rfl hl.1 rfl (Nat.le_of_ble_eq_true rfl) ⟨rfl, rfl⟩ ⟨Nat.le_of_ble_eq_true rfl, Nat.le_of_ble_eq_true rfl⟩ dX6_behind_8) (fun H locs hP hS => ?_)
  refine lv_aload_n hx hb dX6_behind_11 rfl (lv_at hl 0 rfl) ?_
  refine lv_iload_n hx hb dX6_behind_12 rfl (lv_at hl 2 rfl) ?_
  obtain ⟨v6, h4, hF⟩ := bi_some hF
  refine k_v hS (kV_run M hS hP ok_X6_184 (c_X6_daysGo l G a2 v3 v6 h4) (rc_6 M hP rfl) rfl hl.1 rfl (Nat.le_of_ble_eq_true rfl) ⟨rfl, rfl⟩ ⟨Nat.le_of_ble_eq_true rfl, Nat.le_of_ble_eq_true rfl⟩ dX6_behind_13) (fun H locs hP hS => ?_)
  refine lv_aload_n hx hb dX6_behind_16 rfl (lv_at hl 0 rfl) ?_
  refine lv_aload_n hx hb dX6_behind_17 rfl (lv_at hl 0 rfl) ?_
  refine fg_6_9 M hP dX6_behind_18 ?_
  refine lv_iload_n hx hb dX6_behind_21 rfl (lv_at hl 1 rfl) ?_
  obtain ⟨g7, hF⟩ := gu_some hF
  refine r_iald (k := (a1).toNatClampNeg) M hP rfl rfl (in_c g7) rfl dX6_behind_22 ?_
  obtain ⟨⟨r9, v10⟩, h8, hF⟩ := bi_some hF
  dsimp only at hF
  refine k_i hS (kV_run M hS hP ok_X6_203 (c_X6_putBack l G (v6 1 ((a1).toNatClampNeg)) v6 r9 v10 h8) (rc_6 M hP rfl) rfl hl.1 rfl (Nat.le_of_ble_eq_true rfl) ⟨rfl, rfl⟩ ⟨Nat.le_of_ble_eq_true rfl, Nat.le_of_ble_eq_true rfl⟩ dX6_behind_23) (fun H locs hP hS => ?_)
  exact ret_i M hS hP (Option.some.inj hF) dX6_behind_26
def F_X6_learntBehind (a1 : Int32) (v : VV) : Option (Int32 × VV) :=
  Option.bind (F_X6_copyRow 1 3 v) (fun v3 => Option.bind (F_X6_daysGo a1 v3) (fun v6 => Option.bind (F_X6_learntInAll v6) (fun r8 => Option.bind (F_X6_putBack r8 v6) (fun (r10, v11) => some (r10, v11)))))
set_option maxHeartbeats 4000000 in
set_option maxRecDepth 100000 in
theorem c_X6_learntBehind (l : Launch) (G : GG) (a1 : Int32) (v : VV) (r : Int32) (v' : VV) (hF : F_X6_learntBehind a1 v = some (r, v')) : Met l yX6_learntBehind (cdW yX6_learntBehind cX6_learntBehind 2 (some .int)) ({ frames := 7, cells := 0, slots := 0, locals := 158 } : Room) (PC G v [.ref (ad G 0), .int a1]) (QI G r v') 0 0 (gA G) := by
  refine met_in RX6 (by decide) rfl (Nat.le_of_ble_eq_true rfl) ?_
  intro p e s m below meth c M hP ls hl
  have hx := M.1.1
  have hb := M.1.2.1
  have hS : va_S (gA G) s.heap s.heap [] := va_S.rf
  have hl : lv_has ls 2 [(0, .ref (ad G 0)), (1, .int a1)] := hl
  unfold F_X6_learntBehind at hF
  refine lv_aload_n hx hb dX6_learntBehind_0 rfl (lv_at hl 0 rfl) ?_
  refine fg_6_9 M hP dX6_learntBehind_1 ?_
  refine lv_aload_n hx hb dX6_learntBehind_4 rfl (lv_at hl 0 rfl) ?_
  refine fg_6_16 M hP dX6_learntBehind_5 ?_
  obtain ⟨v3, h1, hF⟩ := bi_some hF
  refine k_v hS (kS_run M hS hP ok_X6_61 (c_X6_copyRow l G 1 rfl 3 rfl v v3 h1) rfl hl.1 rfl (Nat.le_of_ble_eq_true rfl) ⟨rfl, rfl⟩ ⟨Nat.le_of_ble_eq_true rfl, Nat.le_of_ble_eq_true rfl⟩ dX6_learntBehind_8) (fun H locs hP hS => ?_)
  refine lv_aload_n hx hb dX6_learntBehind_11 rfl (lv_at hl 0 rfl) ?_
  refine lv_iload_n hx hb dX6_learntBehind_12 rfl (lv_at hl 1 rfl) ?_
  obtain ⟨v6, h4, hF⟩ := bi_some hF
  refine k_v hS (kV_run M hS hP ok_X6_184 (c_X6_daysGo l G a1 v3 v6 h4) (rc_6 M hP rfl) rfl hl.1 rfl (Nat.le_of_ble_eq_true rfl) ⟨rfl, rfl⟩ ⟨Nat.le_of_ble_eq_true rfl, Nat.le_of_ble_eq_true rfl⟩ dX6_learntBehind_13) (fun H locs hP hS => ?_)
  refine lv_aload_n hx hb dX6_learntBehind_16 rfl (lv_at hl 0 rfl) ?_
  refine lv_aload_n hx hb dX6_learntBehind_17 rfl (lv_at hl 0 rfl) ?_
  obtain ⟨r8, h7, hF⟩ := bi_some hF
  refine k_i hS (kV_run M hS hP ok_X6_188 (c_X6_learntInAll l G v6 r8 h7) (rc_6 M hP rfl) rfl hl.1 rfl (Nat.le_of_ble_eq_true rfl) ⟨rfl, rfl⟩ ⟨Nat.le_of_ble_eq_true rfl, Nat.le_of_ble_eq_true rfl⟩ dX6_learntBehind_18) (fun H locs hP hS => ?_)
  obtain ⟨⟨r10, v11⟩, h9, hF⟩ := bi_some hF
  dsimp only at hF
  refine k_i hS (kV_run M hS hP ok_X6_203 (c_X6_putBack l G r8 v6 r10 v11 h9) (rc_6 M hP rfl) rfl hl.1 rfl (Nat.le_of_ble_eq_true rfl) ⟨rfl, rfl⟩ ⟨Nat.le_of_ble_eq_true rfl, Nat.le_of_ble_eq_true rfl⟩ dX6_learntBehind_21) (fun H locs hP hS => ?_)
  exact ret_i M hS hP (Option.some.inj hF) dX6_learntBehind_24
def F_X6_ahead (a1 : Int32) (a2 : Int32) (a3 : Int32) (v : VV) : Option (Int32 × VV) :=
  if a2 = 2 then (Option.bind (F_X6_isKeeper a1 v) (fun r3 => (if r3 = true then (Option.bind (F_X6_within a3 0 100 v) (fun r11 => (if r11 = true then (Option.bind (F_X6_copyRow 1 3 v) (fun v15 => Option.bind (F_X6_daysGo a3 v15) (fun v18 => Option.bind (F_X6_told a1 a2 v18) (fun r20 => Option.bind (F_X6_putBack r20 v18) (fun (r22, v23) => some (r22, v23)))))) else (Option.bind (F_X6_finding (-1000001) v) (fun (r26, v27) => some (r26, v27)))))) else (Option.bind (F_X6_finding (-1000001) v) (fun (r6, v7) => some (r6, v7)))))) else (if a2 = 4 then (Option.bind (F_X6_isKeeper a1 v) (fun r31 => (if r31 = true then (Option.bind (F_X6_within a3 0 100 v) (fun r39 => (if r39 = true then (Option.bind (F_X6_copyRow 1 3 v) (fun v43 => Option.bind (F_X6_daysGo a3 v43) (fun v46 => Option.bind (F_X6_told a1 a2 v46) (fun r48 => Option.bind (F_X6_putBack r48 v46) (fun (r50, v51) => some (r50, v51)))))) else (Option.bind (F_X6_finding (-1000001) v) (fun (r54, v55) => some (r54, v55)))))) else (Option.bind (F_X6_finding (-1000001) v) (fun (r34, v35) => some (r34, v35)))))) else (if a2 = 6 then (Option.bind (F_X6_isKeeper a1 v) (fun r71 => (if r71 = true then (Option.bind (F_X6_within a3 0 100 v) (fun r79 => (if r79 = true then (Option.bind (F_X6_copyRow 1 3 v) (fun v83 => Option.bind (F_X6_daysGo a3 v83) (fun v86 => Option.bind (F_X6_told a1 a2 v86) (fun r88 => Option.bind (F_X6_putBack r88 v86) (fun (r90, v91) => some (r90, v91)))))) else (Option.bind (F_X6_finding (-1000001) v) (fun (r94, v95) => some (r94, v95)))))) else (Option.bind (F_X6_finding (-1000001) v) (fun (r74, v75) => some (r74, v75)))))) else (Option.bind (F_X6_isKeeper a1 v) (fun r59 => (if r59 = true then (Option.bind (F_X6_finding (-1000001) v) (fun (r67, v68) => some (r67, v68))) else (Option.bind (F_X6_finding (-1000001) v) (fun (r62, v63) => some (r62, v63))))))))
set_option maxHeartbeats 4000000 in
set_option maxRecDepth 100000 in
theorem c_X6_ahead (l : Launch) (G : GG) (a1 : Int32) (a2 : Int32) (a3 : Int32) (v : VV) (r : Int32) (v' : VV) (hF : F_X6_ahead a1 a2 a3 v = some (r, v')) : Met l yX6_ahead (cdW yX6_ahead cX6_ahead 5 (some .int)) ({ frames := 7, cells := 0, slots := 0, locals := 158 } : Room) (PC G v [.ref (ad G 0), .int a1, .int a2, .int a3]) (QI G r v') 0 0 (gA G) := by
  refine met_in RX6 (by decide) rfl (Nat.le_of_ble_eq_true rfl) ?_
  intro p e s m below meth c M hP ls hl
  have hx := M.1.1
  have hb := M.1.2.1
  have hS : va_S (gA G) s.heap s.heap [] := va_S.rf
  have hl : lv_has ls 5 [(0, .ref (ad G 0)), (1, .int a1), (2, .int a2), (3, .int a3)] := hl
  unfold F_X6_ahead at hF
  refine lv_iload_n hx hb dX6_ahead_0 rfl (lv_at hl 2 rfl) ?_
  refine lv_iconst (v := 2) hx hb dX6_ahead_1 (by decide) ?_
  refine lv_icmp_eq (tgt := 16) hx hb dX6_ahead_2 (by decide) (fun c1 => ?_) (fun c1 => ?_)
  · replace hF := (if_pos c1).symm.trans hF
    refine lv_iconst (v := 1) hx hb dX6_ahead_16 (by decide) ?_
    refine lv_goto (tgt := 21) hx hb dX6_ahead_17 (by decide) ?_
    refine lv_istore (lv' := [(4, .int 1), (0, .ref (ad G 0)), (1, .int a1), (2, .int a2), (3, .int a3)]) hx hb dX6_ahead_21 hl (by decide) rfl (fun ls hl => ?_)
    refine lv_aload_n hx hb dX6_ahead_23 rfl (lv_at hl 1 rfl) ?_
    refine lv_iload_n hx hb dX6_ahead_24 rfl (lv_at hl 2 rfl) ?_
    obtain ⟨r3, h2, hF⟩ := bi_some hF
    refine k_i hS (kV_run M hS hP ok_X6_131 (c_X6_isKeeper l G a1 v r3 h2) (rc_6 M hP rfl) rfl hl.1 rfl (Nat.le_of_ble_eq_true rfl) ⟨rfl, rfl⟩ ⟨Nat.le_of_ble_eq_true rfl, Nat.le_of_ble_eq_true rfl⟩ dX6_ahead_25) (fun H locs hP hS => ?_)
    refine lv_if_eq (tgt := 46) hx hb dX6_ahead_28 (by decide) (fun c4 => ?_) (fun c4 => ?_)
    · replace hF := (if_neg (bI_f c4)).symm.trans hF
      refine lv_aload_n hx hb dX6_ahead_46 rfl (lv_at hl 1 rfl) ?_
      refine lv_ldc (own := RX6) (v := (-1000001)) hx hb M.1.2.2.2.1 (M.1.2.2.2.2 (Cond.constant RX6 60 (-1000001)) w_788) dX6_ahead_47 ?_
      obtain ⟨⟨r6, v7⟩, h5, hF⟩ := bi_some hF
      dsimp only at hF
      refine k_i hS (kV_run M hS hP ok_X6_66 (c_X6_finding l G (-1000001) v r6 v7 h5) (rc_6 M hP rfl) rfl hl.1 rfl (Nat.le_of_ble_eq_true rfl) ⟨rfl, rfl⟩ ⟨Nat.le_of_ble_eq_true rfl, Nat.le_of_ble_eq_true rfl⟩ dX6_ahead_49) (fun H locs hP hS => ?_)
      exact ret_i M hS hP (Option.some.inj hF) dX6_ahead_52
    · replace hF := (if_pos (bI_t c4)).symm.trans hF
      refine lv_iload hx hb dX6_ahead_31 (lv_at hl 0 rfl) ?_
      refine lv_if_eq (tgt := 46) hx hb dX6_ahead_33 (by decide) (fun c9 => ?_) (fun c9 => ?_)
      · exact absurd c9 (by decide)
      · refine lv_iload_n hx hb dX6_ahead_36 rfl (lv_at hl 4 rfl) ?_
        refine lv_iconst (v := 0) hx hb dX6_ahead_37 (by decide) ?_
        refine lv_bipush (v := 100) hx hb dX6_ahead_38 (by decide) ?_
        obtain ⟨r11, h10, hF⟩ := bi_some hF
        refine k_i hS (kS_run M hS hP ok_X6_70 (c_X6_within l G a3 0 100 v r11 h10) rfl hl.1 rfl (Nat.le_of_ble_eq_true rfl) ⟨rfl, rfl⟩ ⟨Nat.le_of_ble_eq_true rfl, Nat.le_of_ble_eq_true rfl⟩ dX6_ahead_40) (fun H locs hP hS => ?_)
        refine lv_if_ne (tgt := 53) hx hb dX6_ahead_43 (by decide) (fun c12 => ?_) (fun c12 => ?_)
        · replace hF := (if_pos (bI_t c12)).symm.trans hF
          refine lv_aload_n hx hb dX6_ahead_53 rfl (lv_at hl 1 rfl) ?_
          refine fg_6_9 M hP dX6_ahead_54 ?_
          refine lv_aload_n hx hb dX6_ahead_57 rfl (lv_at hl 1 rfl) ?_
          refine fg_6_16 M hP dX6_ahead_58 ?_
          obtain ⟨v15, h13, hF⟩ := bi_some hF
          refine k_v hS (kS_run M hS hP ok_X6_61 (c_X6_copyRow l G 1 rfl 3 rfl v v15 h13) rfl hl.1 rfl (Nat.le_of_ble_eq_true rfl) ⟨rfl, rfl⟩ ⟨Nat.le_of_ble_eq_true rfl, Nat.le_of_ble_eq_true rfl⟩ dX6_ahead_61) (fun H locs hP hS => ?_)
          refine lv_aload_n hx hb dX6_ahead_64 rfl (lv_at hl 1 rfl) ?_
          refine lv_iload_n hx hb dX6_ahead_65 rfl (lv_at hl 4 rfl) ?_
          obtain ⟨v18, h16, hF⟩ := bi_some hF
          refine k_v hS (kV_run M hS hP ok_X6_184 (c_X6_daysGo l G a3 v15 v18 h16) (rc_6 M hP rfl) rfl hl.1 rfl (Nat.le_of_ble_eq_true rfl) ⟨rfl, rfl⟩ ⟨Nat.le_of_ble_eq_true rfl, Nat.le_of_ble_eq_true rfl⟩ dX6_ahead_66) (fun H locs hP hS => ?_)
          refine lv_aload_n hx hb dX6_ahead_69 rfl (lv_at hl 1 rfl) ?_
          refine lv_aload_n hx hb dX6_ahead_70 rfl (lv_at hl 1 rfl) ?_
          refine lv_iload_n hx hb dX6_ahead_71 rfl (lv_at hl 2 rfl) ?_
          refine lv_iload_n hx hb dX6_ahead_72 rfl (lv_at hl 3 rfl) ?_
          obtain ⟨r20, h19, hF⟩ := bi_some hF
          refine k_i hS (kV_run M hS hP ok_X6_134 (c_X6_told l G a1 a2 v18 r20 h19) (rc_6 M hP rfl) rfl hl.1 rfl (Nat.le_of_ble_eq_true rfl) ⟨rfl, rfl⟩ ⟨Nat.le_of_ble_eq_true rfl, Nat.le_of_ble_eq_true rfl⟩ dX6_ahead_73) (fun H locs hP hS => ?_)
          obtain ⟨⟨r22, v23⟩, h21, hF⟩ := bi_some hF
          dsimp only at hF
          refine k_i hS (kV_run M hS hP ok_X6_203 (c_X6_putBack l G r20 v18 r22 v23 h21) (rc_6 M hP rfl) rfl hl.1 rfl (Nat.le_of_ble_eq_true rfl) ⟨rfl, rfl⟩ ⟨Nat.le_of_ble_eq_true rfl, Nat.le_of_ble_eq_true rfl⟩ dX6_ahead_76) (fun H locs hP hS => ?_)
          exact ret_i M hS hP (Option.some.inj hF) dX6_ahead_79
        · replace hF := (if_neg (bI_f c12)).symm.trans hF
          refine lv_aload_n hx hb dX6_ahead_46 rfl (lv_at hl 1 rfl) ?_
          refine lv_ldc (own := RX6) (v := (-1000001)) hx hb M.1.2.2.2.1 (M.1.2.2.2.2 (Cond.constant RX6 60 (-1000001)) w_788) dX6_ahead_47 ?_
          obtain ⟨⟨r26, v27⟩, h25, hF⟩ := bi_some hF
          dsimp only at hF
          refine k_i hS (kV_run M hS hP ok_X6_66 (c_X6_finding l G (-1000001) v r26 v27 h25) (rc_6 M hP rfl) rfl hl.1 rfl (Nat.le_of_ble_eq_true rfl) ⟨rfl, rfl⟩ ⟨Nat.le_of_ble_eq_true rfl, Nat.le_of_ble_eq_true rfl⟩ dX6_ahead_49) (fun H locs hP hS => ?_)
          exact ret_i M hS hP (Option.some.inj hF) dX6_ahead_52
  · replace hF := (if_neg c1).symm.trans hF
    refine lv_iload_n hx hb dX6_ahead_5 rfl (lv_at hl 2 rfl) ?_
    refine lv_iconst (v := 4) hx hb dX6_ahead_6 (by decide) ?_
    refine lv_icmp_eq (tgt := 16) hx hb dX6_ahead_7 (by decide) (fun c29 => ?_) (fun c29 => ?_)
    · replace hF := (if_pos c29).symm.trans hF
      refine lv_iconst (v := 1) hx hb dX6_ahead_16 (by decide) ?_
      refine lv_goto (tgt := 21) hx hb dX6_ahead_17 (by decide) ?_
      refine lv_istore (lv' := [(4, .int 1), (0, .ref (ad G 0)), (1, .int a1), (2, .int a2), (3, .int a3)]) hx hb dX6_ahead_21 hl (by decide) rfl (fun ls hl => ?_)
      refine lv_aload_n hx hb dX6_ahead_23 rfl (lv_at hl 1 rfl) ?_
      refine lv_iload_n hx hb dX6_ahead_24 rfl (lv_at hl 2 rfl) ?_
      obtain ⟨r31, h30, hF⟩ := bi_some hF
      refine k_i hS (kV_run M hS hP ok_X6_131 (c_X6_isKeeper l G a1 v r31 h30) (rc_6 M hP rfl) rfl hl.1 rfl (Nat.le_of_ble_eq_true rfl) ⟨rfl, rfl⟩ ⟨Nat.le_of_ble_eq_true rfl, Nat.le_of_ble_eq_true rfl⟩ dX6_ahead_25) (fun H locs hP hS => ?_)
      refine lv_if_eq (tgt := 46) hx hb dX6_ahead_28 (by decide) (fun c32 => ?_) (fun c32 => ?_)
      · replace hF := (if_neg (bI_f c32)).symm.trans hF
        refine lv_aload_n hx hb dX6_ahead_46 rfl (lv_at hl 1 rfl) ?_
        refine lv_ldc (own := RX6) (v := (-1000001)) hx hb M.1.2.2.2.1 (M.1.2.2.2.2 (Cond.constant RX6 60 (-1000001)) w_788) dX6_ahead_47 ?_
        obtain ⟨⟨r34, v35⟩, h33, hF⟩ := bi_some hF
        dsimp only at hF
        refine k_i hS (kV_run M hS hP ok_X6_66 (c_X6_finding l G (-1000001) v r34 v35 h33) (rc_6 M hP rfl) rfl hl.1 rfl (Nat.le_of_ble_eq_true rfl) ⟨rfl, rfl⟩ ⟨Nat.le_of_ble_eq_true rfl, Nat.le_of_ble_eq_true rfl⟩ dX6_ahead_49) (fun H locs hP hS => ?_)
        exact ret_i M hS hP (Option.some.inj hF) dX6_ahead_52
      · replace hF := (if_pos (bI_t c32)).symm.trans hF
        refine lv_iload hx hb dX6_ahead_31 (lv_at hl 0 rfl) ?_
        refine lv_if_eq (tgt := 46) hx hb dX6_ahead_33 (by decide) (fun c37 => ?_) (fun c37 => ?_)
        · exact absurd c37 (by decide)
        · refine lv_iload_n hx hb dX6_ahead_36 rfl (lv_at hl 4 rfl) ?_
          refine lv_iconst (v := 0) hx hb dX6_ahead_37 (by decide) ?_
          refine lv_bipush (v := 100) hx hb dX6_ahead_38 (by decide) ?_
          obtain ⟨r39, h38, hF⟩ := bi_some hF
          refine k_i hS (kS_run M hS hP ok_X6_70 (c_X6_within l G a3 0 100 v r39 h38) rfl hl.1 rfl (Nat.le_of_ble_eq_true rfl) ⟨rfl, rfl⟩ ⟨Nat.le_of_ble_eq_true rfl, Nat.le_of_ble_eq_true rfl⟩ dX6_ahead_40) (fun H locs hP hS => ?_)
          refine lv_if_ne (tgt := 53) hx hb dX6_ahead_43 (by decide) (fun c40 => ?_) (fun c40 => ?_)
          · replace hF := (if_pos (bI_t c40)).symm.trans hF
            refine lv_aload_n hx hb dX6_ahead_53 rfl (lv_at hl 1 rfl) ?_
            refine fg_6_9 M hP dX6_ahead_54 ?_
            refine lv_aload_n hx hb dX6_ahead_57 rfl (lv_at hl 1 rfl) ?_
            refine fg_6_16 M hP dX6_ahead_58 ?_
            obtain ⟨v43, h41, hF⟩ := bi_some hF
            refine k_v hS (kS_run M hS hP ok_X6_61 (c_X6_copyRow l G 1 rfl 3 rfl v v43 h41) rfl hl.1 rfl (Nat.le_of_ble_eq_true rfl) ⟨rfl, rfl⟩ ⟨Nat.le_of_ble_eq_true rfl, Nat.le_of_ble_eq_true rfl⟩ dX6_ahead_61) (fun H locs hP hS => ?_)
            refine lv_aload_n hx hb dX6_ahead_64 rfl (lv_at hl 1 rfl) ?_
            refine lv_iload_n hx hb dX6_ahead_65 rfl (lv_at hl 4 rfl) ?_
            obtain ⟨v46, h44, hF⟩ := bi_some hF
            refine k_v hS (kV_run M hS hP ok_X6_184 (c_X6_daysGo l G a3 v43 v46 h44) (rc_6 M hP rfl) rfl hl.1 rfl (Nat.le_of_ble_eq_true rfl) ⟨rfl, rfl⟩ ⟨Nat.le_of_ble_eq_true rfl, Nat.le_of_ble_eq_true rfl⟩ dX6_ahead_66) (fun H locs hP hS => ?_)
            refine lv_aload_n hx hb dX6_ahead_69 rfl (lv_at hl 1 rfl) ?_
            refine lv_aload_n hx hb dX6_ahead_70 rfl (lv_at hl 1 rfl) ?_
            refine lv_iload_n hx hb dX6_ahead_71 rfl (lv_at hl 2 rfl) ?_
            refine lv_iload_n hx hb dX6_ahead_72 rfl (lv_at hl 3 rfl) ?_
            obtain ⟨r48, h47, hF⟩ := bi_some hF
            refine k_i hS (kV_run M hS hP ok_X6_134 (c_X6_told l G a1 a2 v46 r48 h47) (rc_6 M hP rfl) rfl hl.1 rfl (Nat.le_of_ble_eq_true rfl) ⟨rfl, rfl⟩ ⟨Nat.le_of_ble_eq_true rfl, Nat.le_of_ble_eq_true rfl⟩ dX6_ahead_73) (fun H locs hP hS => ?_)
            obtain ⟨⟨r50, v51⟩, h49, hF⟩ := bi_some hF
            dsimp only at hF
            refine k_i hS (kV_run M hS hP ok_X6_203 (c_X6_putBack l G r48 v46 r50 v51 h49) (rc_6 M hP rfl) rfl hl.1 rfl (Nat.le_of_ble_eq_true rfl) ⟨rfl, rfl⟩ ⟨Nat.le_of_ble_eq_true rfl, Nat.le_of_ble_eq_true rfl⟩ dX6_ahead_76) (fun H locs hP hS => ?_)
            exact ret_i M hS hP (Option.some.inj hF) dX6_ahead_79
          · replace hF := (if_neg (bI_f c40)).symm.trans hF
            refine lv_aload_n hx hb dX6_ahead_46 rfl (lv_at hl 1 rfl) ?_
            refine lv_ldc (own := RX6) (v := (-1000001)) hx hb M.1.2.2.2.1 (M.1.2.2.2.2 (Cond.constant RX6 60 (-1000001)) w_788) dX6_ahead_47 ?_
            obtain ⟨⟨r54, v55⟩, h53, hF⟩ := bi_some hF
            dsimp only at hF
            refine k_i hS (kV_run M hS hP ok_X6_66 (c_X6_finding l G (-1000001) v r54 v55 h53) (rc_6 M hP rfl) rfl hl.1 rfl (Nat.le_of_ble_eq_true rfl) ⟨rfl, rfl⟩ ⟨Nat.le_of_ble_eq_true rfl, Nat.le_of_ble_eq_true rfl⟩ dX6_ahead_49) (fun H locs hP hS => ?_)
            exact ret_i M hS hP (Option.some.inj hF) dX6_ahead_52
    · replace hF := (if_neg c29).symm.trans hF
      refine lv_iload_n hx hb dX6_ahead_10 rfl (lv_at hl 2 rfl) ?_
      refine lv_bipush (v := 6) hx hb dX6_ahead_11 (by decide) ?_
      refine lv_icmp_ne (tgt := 20) hx hb dX6_ahead_13 (by decide) (fun c57 => ?_) (fun c57 => ?_)
      · replace hF := (if_neg c57).symm.trans hF
        refine lv_iconst (v := 0) hx hb dX6_ahead_20 (by decide) ?_
        refine lv_istore (lv' := [(4, .int 0), (0, .ref (ad G 0)), (1, .int a1), (2, .int a2), (3, .int a3)]) hx hb dX6_ahead_21 hl (by decide) rfl (fun ls hl => ?_)
        refine lv_aload_n hx hb dX6_ahead_23 rfl (lv_at hl 1 rfl) ?_
        refine lv_iload_n hx hb dX6_ahead_24 rfl (lv_at hl 2 rfl) ?_
        obtain ⟨r59, h58, hF⟩ := bi_some hF
        refine k_i hS (kV_run M hS hP ok_X6_131 (c_X6_isKeeper l G a1 v r59 h58) (rc_6 M hP rfl) rfl hl.1 rfl (Nat.le_of_ble_eq_true rfl) ⟨rfl, rfl⟩ ⟨Nat.le_of_ble_eq_true rfl, Nat.le_of_ble_eq_true rfl⟩ dX6_ahead_25) (fun H locs hP hS => ?_)
        refine lv_if_eq (tgt := 46) hx hb dX6_ahead_28 (by decide) (fun c60 => ?_) (fun c60 => ?_)
        · replace hF := (if_neg (bI_f c60)).symm.trans hF
          refine lv_aload_n hx hb dX6_ahead_46 rfl (lv_at hl 1 rfl) ?_
          refine lv_ldc (own := RX6) (v := (-1000001)) hx hb M.1.2.2.2.1 (M.1.2.2.2.2 (Cond.constant RX6 60 (-1000001)) w_788) dX6_ahead_47 ?_
          obtain ⟨⟨r62, v63⟩, h61, hF⟩ := bi_some hF
          dsimp only at hF
          refine k_i hS (kV_run M hS hP ok_X6_66 (c_X6_finding l G (-1000001) v r62 v63 h61) (rc_6 M hP rfl) rfl hl.1 rfl (Nat.le_of_ble_eq_true rfl) ⟨rfl, rfl⟩ ⟨Nat.le_of_ble_eq_true rfl, Nat.le_of_ble_eq_true rfl⟩ dX6_ahead_49) (fun H locs hP hS => ?_)
          exact ret_i M hS hP (Option.some.inj hF) dX6_ahead_52
        · replace hF := (if_pos (bI_t c60)).symm.trans hF
          refine lv_iload hx hb dX6_ahead_31 (lv_at hl 0 rfl) ?_
          refine lv_if_eq (tgt := 46) hx hb dX6_ahead_33 (by decide) (fun c65 => ?_) (fun c65 => ?_)
          · refine lv_aload_n hx hb dX6_ahead_46 rfl (lv_at hl 1 rfl) ?_
            refine lv_ldc (own := RX6) (v := (-1000001)) hx hb M.1.2.2.2.1 (M.1.2.2.2.2 (Cond.constant RX6 60 (-1000001)) w_788) dX6_ahead_47 ?_
            obtain ⟨⟨r67, v68⟩, h66, hF⟩ := bi_some hF
            dsimp only at hF
            refine k_i hS (kV_run M hS hP ok_X6_66 (c_X6_finding l G (-1000001) v r67 v68 h66) (rc_6 M hP rfl) rfl hl.1 rfl (Nat.le_of_ble_eq_true rfl) ⟨rfl, rfl⟩ ⟨Nat.le_of_ble_eq_true rfl, Nat.le_of_ble_eq_true rfl⟩ dX6_ahead_49) (fun H locs hP hS => ?_)
            exact ret_i M hS hP (Option.some.inj hF) dX6_ahead_52
          · exact absurd c65 (by decide)
      · replace hF := (if_pos c57).symm.trans hF
        refine lv_iconst (v := 1) hx hb dX6_ahead_16 (by decide) ?_
        refine lv_goto (tgt := 21) hx hb dX6_ahead_17 (by decide) ?_
        refine lv_istore (lv' := [(4, .int 1), (0, .ref (ad G 0)), (1, .int a1), (2, .int a2), (3, .int a3)]) hx hb dX6_ahead_21 hl (by decide) rfl (fun ls hl => ?_)
        refine lv_aload_n hx hb dX6_ahead_23 rfl (lv_at hl 1 rfl) ?_
        refine lv_iload_n hx hb dX6_ahead_24 rfl (lv_at hl 2 rfl) ?_
        obtain ⟨r71, h70, hF⟩ := bi_some hF
        refine k_i hS (kV_run M hS hP ok_X6_131 (c_X6_isKeeper l G a1 v r71 h70) (rc_6 M hP rfl) rfl hl.1 rfl (Nat.le_of_ble_eq_true rfl) ⟨rfl, rfl⟩ ⟨Nat.le_of_ble_eq_true rfl, Nat.le_of_ble_eq_true rfl⟩ dX6_ahead_25) (fun H locs hP hS => ?_)
        refine lv_if_eq (tgt := 46) hx hb dX6_ahead_28 (by decide) (fun c72 => ?_) (fun c72 => ?_)
        · replace hF := (if_neg (bI_f c72)).symm.trans hF
          refine lv_aload_n hx hb dX6_ahead_46 rfl (lv_at hl 1 rfl) ?_
          refine lv_ldc (own := RX6) (v := (-1000001)) hx hb M.1.2.2.2.1 (M.1.2.2.2.2 (Cond.constant RX6 60 (-1000001)) w_788) dX6_ahead_47 ?_
          obtain ⟨⟨r74, v75⟩, h73, hF⟩ := bi_some hF
          dsimp only at hF
          refine k_i hS (kV_run M hS hP ok_X6_66 (c_X6_finding l G (-1000001) v r74 v75 h73) (rc_6 M hP rfl) rfl hl.1 rfl (Nat.le_of_ble_eq_true rfl) ⟨rfl, rfl⟩ ⟨Nat.le_of_ble_eq_true rfl, Nat.le_of_ble_eq_true rfl⟩ dX6_ahead_49) (fun H locs hP hS => ?_)
          exact ret_i M hS hP (Option.some.inj hF) dX6_ahead_52
        · replace hF := (if_pos (bI_t c72)).symm.trans hF
          refine lv_iload hx hb dX6_ahead_31 (lv_at hl 0 rfl) ?_
          refine lv_if_eq (tgt := 46) hx hb dX6_ahead_33 (by decide) (fun c77 => ?_) (fun c77 => ?_)
          · exact absurd c77 (by decide)
          · refine lv_iload_n hx hb dX6_ahead_36 rfl (lv_at hl 4 rfl) ?_
            refine lv_iconst (v := 0) hx hb dX6_ahead_37 (by decide) ?_
            refine lv_bipush (v := 100) hx hb dX6_ahead_38 (by decide) ?_
            obtain ⟨r79, h78, hF⟩ := bi_some hF
            refine k_i hS (kS_run M hS hP ok_X6_70 (c_X6_within l G a3 0 100 v r79 h78) rfl hl.1 rfl (Nat.le_of_ble_eq_true rfl) ⟨rfl, rfl⟩ ⟨Nat.le_of_ble_eq_true rfl, Nat.le_of_ble_eq_true rfl⟩ dX6_ahead_40) (fun H locs hP hS => ?_)
            refine lv_if_ne (tgt := 53) hx hb dX6_ahead_43 (by decide) (fun c80 => ?_) (fun c80 => ?_)
            · replace hF := (if_pos (bI_t c80)).symm.trans hF
              refine lv_aload_n hx hb dX6_ahead_53 rfl (lv_at hl 1 rfl) ?_
              refine fg_6_9 M hP dX6_ahead_54 ?_
              refine lv_aload_n hx hb dX6_ahead_57 rfl (lv_at hl 1 rfl) ?_
              refine fg_6_16 M hP dX6_ahead_58 ?_
              obtain ⟨v83, h81, hF⟩ := bi_some hF
              refine k_v hS (kS_run M hS hP ok_X6_61 (c_X6_copyRow l G 1 rfl 3 rfl v v83 h81) rfl hl.1 rfl (Nat.le_of_ble_eq_true rfl) ⟨rfl, rfl⟩ ⟨Nat.le_of_ble_eq_true rfl, Nat.le_of_ble_eq_true rfl⟩ dX6_ahead_61) (fun H locs hP hS => ?_)
              refine lv_aload_n hx hb dX6_ahead_64 rfl (lv_at hl 1 rfl) ?_
              refine lv_iload_n hx hb dX6_ahead_65 rfl (lv_at hl 4 rfl) ?_
              obtain ⟨v86, h84, hF⟩ := bi_some hF
              refine k_v hS (kV_run M hS hP ok_X6_184 (c_X6_daysGo l G a3 v83 v86 h84) (rc_6 M hP rfl) rfl hl.1 rfl (Nat.le_of_ble_eq_true rfl) ⟨rfl, rfl⟩ ⟨Nat.le_of_ble_eq_true rfl, Nat.le_of_ble_eq_true rfl⟩ dX6_ahead_66) (fun H locs hP hS => ?_)
              refine lv_aload_n hx hb dX6_ahead_69 rfl (lv_at hl 1 rfl) ?_
              refine lv_aload_n hx hb dX6_ahead_70 rfl (lv_at hl 1 rfl) ?_
              refine lv_iload_n hx hb dX6_ahead_71 rfl (lv_at hl 2 rfl) ?_
              refine lv_iload_n hx hb dX6_ahead_72 rfl (lv_at hl 3 rfl) ?_
              obtain ⟨r88, h87, hF⟩ := bi_some hF
              refine k_i hS (kV_run M hS hP ok_X6_134 (c_X6_told l G a1 a2 v86 r88 h87) (rc_6 M hP rfl) rfl hl.1 rfl (Nat.le_of_ble_eq_true rfl) ⟨rfl, rfl⟩ ⟨Nat.le_of_ble_eq_true rfl, Nat.le_of_ble_eq_true rfl⟩ dX6_ahead_73) (fun H locs hP hS => ?_)
              obtain ⟨⟨r90, v91⟩, h89, hF⟩ := bi_some hF
              dsimp only at hF
              refine k_i hS (kV_run M hS hP ok_X6_203 (c_X6_putBack l G r88 v86 r90 v91 h89) (rc_6 M hP rfl) rfl hl.1 rfl (Nat.le_of_ble_eq_true rfl) ⟨rfl, rfl⟩ ⟨Nat.le_of_ble_eq_true rfl, Nat.le_of_ble_eq_true rfl⟩ dX6_ahead_76) (fun H locs hP hS => ?_)
              exact ret_i M hS hP (Option.some.inj hF) dX6_ahead_79
            · replace hF := (if_neg (bI_f c80)).symm.trans hF
              refine lv_aload_n hx hb dX6_ahead_46 rfl (lv_at hl 1 rfl) ?_
              refine lv_ldc (own := RX6) (v := (-1000001)) hx hb M.1.2.2.2.1 (M.1.2.2.2.2 (Cond.constant RX6 60 (-1000001)) w_788) dX6_ahead_47 ?_
              obtain ⟨⟨r94, v95⟩, h93, hF⟩ := bi_some hF
              dsimp only at hF
              refine k_i hS (kV_run M hS hP ok_X6_66 (c_X6_finding l G (-1000001) v r94 v95 h93) (rc_6 M hP rfl) rfl hl.1 rfl (Nat.le_of_ble_eq_true rfl) ⟨rfl, rfl⟩ ⟨Nat.le_of_ble_eq_true rfl, Nat.le_of_ble_eq_true rfl⟩ dX6_ahead_49) (fun H locs hP hS => ?_)
              exact ret_i M hS hP (Option.some.inj hF) dX6_ahead_52
def F_X6_later (a1 : Int32) (a2 : Int32) (a3 : Int32) (v : VV) : Option (Int32 × VV) :=
  Option.bind (F_X6_isChild a1 v) (fun r2 => (if r2 = true then (Option.bind (F_X6_within a2 2 3 v) (fun r9 => (if r9 = true then (Option.bind (F_X6_within a3 0 100 v) (fun r16 => (if r16 = true then (Option.bind (F_X6_childAt a1 a2 v) (fun r23 => Option.bind (F_X6_behind r23 a3 v) (fun (r25, v26) => some (r25, v26)))) else (Option.bind (F_X6_finding (-1000001) v) (fun (r19, v20) => some (r19, v20)))))) else (Option.bind (F_X6_finding (-1000001) v) (fun (r12, v13) => some (r12, v13)))))) else (Option.bind (F_X6_finding (-1000001) v) (fun (r5, v6) => some (r5, v6)))))
set_option maxHeartbeats 4000000 in
set_option maxRecDepth 100000 in
theorem c_X6_later (l : Launch) (G : GG) (a1 : Int32) (a2 : Int32) (a3 : Int32) (v : VV) (r : Int32) (v' : VV) (hF : F_X6_later a1 a2 a3 v = some (r, v')) : Met l yX6_later (cdW yX6_later cX6_later 4 (some .int)) ({ frames := 8, cells := 0, slots := 0, locals := 180 } : Room) (PC G v [.ref (ad G 0), .int a1, .int a2, .int a3]) (QI G r v') 0 0 (gA G) := by
  refine met_in RX6 (by decide) rfl (Nat.le_of_ble_eq_true rfl) ?_
  intro p e s m below meth c M hP ls hl
  have hx := M.1.1
  have hb := M.1.2.1
  have hS : va_S (gA G) s.heap s.heap [] := va_S.rf
  have hl : lv_has ls 4 [(0, .ref (ad G 0)), (1, .int a1), (2, .int a2), (3, .int a3)] := hl
  unfold F_X6_later at hF
  refine lv_aload_n hx hb dX6_later_0 rfl (lv_at hl 0 rfl) ?_
  refine lv_iload_n hx hb dX6_later_1 rfl (lv_at hl 1 rfl) ?_
  obtain ⟨r2, h1, hF⟩ := bi_some hF
  refine k_i hS (kV_run M hS hP ok_X6_144 (c_X6_isChild l G a1 v r2 h1) (rc_6 M hP rfl) rfl hl.1 rfl (Nat.le_of_ble_eq_true rfl) ⟨rfl, rfl⟩ ⟨Nat.le_of_ble_eq_true rfl, Nat.le_of_ble_eq_true rfl⟩ dX6_later_2) (fun H locs hP hS => ?_)
  refine lv_if_eq (tgt := 40) hx hb dX6_later_5 (by decide) (fun c3 => ?_) (fun c3 => ?_)
  · replace hF := (if_neg (bI_f c3)).symm.trans hF
    refine lv_aload_n hx hb dX6_later_40 rfl (lv_at hl 0 rfl) ?_
    refine lv_ldc (own := RX6) (v := (-1000001)) hx hb M.1.2.2.2.1 (M.1.2.2.2.2 (Cond.constant RX6 60 (-1000001)) w_788) dX6_later_41 ?_
    obtain ⟨⟨r5, v6⟩, h4, hF⟩ := bi_some hF
    dsimp only at hF
    refine k_i hS (kV_run M hS hP ok_X6_66 (c_X6_finding l G (-1000001) v r5 v6 h4) (rc_6 M hP rfl) rfl hl.1 rfl (Nat.le_of_ble_eq_true rfl) ⟨rfl, rfl⟩ ⟨Nat.le_of_ble_eq_true rfl, Nat.le_of_ble_eq_true rfl⟩ dX6_later_43) (fun H locs hP hS => ?_)
    exact ret_i M hS hP (Option.some.inj hF) dX6_later_46
  · replace hF := (if_pos (bI_t c3)).symm.trans hF
    refine lv_iload_n hx hb dX6_later_8 rfl (lv_at hl 2 rfl) ?_
    refine lv_iconst (v := 2) hx hb dX6_later_9 (by decide) ?_
    refine lv_iconst (v := 3) hx hb dX6_later_10 (by decide) ?_
    obtain ⟨r9, h8, hF⟩ := bi_some hF
    refine k_i hS (kS_run M hS hP ok_X6_70 (c_X6_within l G a2 2 3 v r9 h8) rfl hl.1 rfl (Nat.le_of_ble_eq_true rfl) ⟨rfl, rfl⟩ ⟨Nat.le_of_ble_eq_true rfl, Nat.le_of_ble_eq_true rfl⟩ dX6_later_11) (fun H locs hP hS => ?_)
    refine lv_if_eq (tgt := 40) hx hb dX6_later_14 (by decide) (fun c10 => ?_) (fun c10 => ?_)
    · replace hF := (if_neg (bI_f c10)).symm.trans hF
      refine lv_aload_n hx hb dX6_later_40 rfl (lv_at hl 0 rfl) ?_
      refine lv_ldc (own := RX6) (v := (-1000001)) hx hb M.1.2.2.2.1 (M.1.2.2.2.2 (Cond.constant RX6 60 (-1000001)) w_788) dX6_later_41 ?_
      obtain ⟨⟨r12, v13⟩, h11, hF⟩ := bi_some hF
      dsimp only at hF
      refine k_i hS (kV_run M hS hP ok_X6_66 (c_X6_finding l G (-1000001) v r12 v13 h11) (rc_6 M hP rfl) rfl hl.1 rfl (Nat.le_of_ble_eq_true rfl) ⟨rfl, rfl⟩ ⟨Nat.le_of_ble_eq_true rfl, Nat.le_of_ble_eq_true rfl⟩ dX6_later_43) (fun H locs hP hS => ?_)
      exact ret_i M hS hP (Option.some.inj hF) dX6_later_46
    · replace hF := (if_pos (bI_t c10)).symm.trans hF
      refine lv_iload_n hx hb dX6_later_17 rfl (lv_at hl 3 rfl) ?_
      refine lv_iconst (v := 0) hx hb dX6_later_18 (by decide) ?_
      refine lv_bipush (v := 100) hx hb dX6_later_19 (by decide) ?_
      obtain ⟨r16, h15, hF⟩ := bi_some hF
      refine k_i hS (kS_run M hS hP ok_X6_70 (c_X6_within l G a3 0 100 v r16 h15) rfl hl.1 rfl (Nat.le_of_ble_eq_true rfl) ⟨rfl, rfl⟩ ⟨Nat.le_of_ble_eq_true rfl, Nat.le_of_ble_eq_true rfl⟩ dX6_later_21) (fun H locs hP hS => ?_)
      refine lv_if_eq (tgt := 40) hx hb dX6_later_24 (by decide) (fun c17 => ?_) (fun c17 => ?_)
      · replace hF := (if_neg (bI_f c17)).symm.trans hF
        refine lv_aload_n hx hb dX6_later_40 rfl (lv_at hl 0 rfl) ?_
        refine lv_ldc (own := RX6) (v := (-1000001)) hx hb M.1.2.2.2.1 (M.1.2.2.2.2 (Cond.constant RX6 60 (-1000001)) w_788) dX6_later_41 ?_
        obtain ⟨⟨r19, v20⟩, h18, hF⟩ := bi_some hF
        dsimp only at hF
        refine k_i hS (kV_run M hS hP ok_X6_66 (c_X6_finding l G (-1000001) v r19 v20 h18) (rc_6 M hP rfl) rfl hl.1 rfl (Nat.le_of_ble_eq_true rfl) ⟨rfl, rfl⟩ ⟨Nat.le_of_ble_eq_true rfl, Nat.le_of_ble_eq_true rfl⟩ dX6_later_43) (fun H locs hP hS => ?_)
        exact ret_i M hS hP (Option.some.inj hF) dX6_later_46
      · replace hF := (if_pos (bI_t c17)).symm.trans hF
        refine lv_aload_n hx hb dX6_later_27 rfl (lv_at hl 0 rfl) ?_
        refine lv_iload_n hx hb dX6_later_28 rfl (lv_at hl 1 rfl) ?_
        refine lv_iload_n hx hb dX6_later_29 rfl (lv_at hl 2 rfl) ?_
        obtain ⟨r23, h22, hF⟩ := bi_some hF
        refine k_i hS (kS_run M hS hP ok_X6_88 (c_X6_childAt l G a1 a2 v r23 h22) rfl hl.1 rfl (Nat.le_of_ble_eq_true rfl) ⟨rfl, rfl⟩ ⟨Nat.le_of_ble_eq_true rfl, Nat.le_of_ble_eq_true rfl⟩ dX6_later_30) (fun H locs hP hS => ?_)
        refine lv_iload_n hx hb dX6_later_33 rfl (lv_at hl 3 rfl) ?_
        obtain ⟨⟨r25, v26⟩, h24, hF⟩ := bi_some hF
        dsimp only at hF
        refine k_i hS (kV_run M hS hP ok_X6_206 (c_X6_behind l G r23 a3 v r25 v26 h24) (rc_6 M hP rfl) rfl hl.1 rfl (Nat.le_of_ble_eq_true rfl) ⟨rfl, rfl⟩ ⟨Nat.le_of_ble_eq_true rfl, Nat.le_of_ble_eq_true rfl⟩ dX6_later_34) (fun H locs hP hS => ?_)
        refine lv_goto (tgt := 46) hx hb dX6_later_37 (by decide) ?_
        exact ret_i M hS hP (Option.some.inj hF) dX6_later_46
def F_X6_hasLearnt (a1 : Int32) (a2 : Int32) (v : VV) : Option Bool :=
  Option.bind (F_X6_childIs a1 2 v) (fun r2 => (if ((r2 >>> (a2 &&& 31)) &&& 1) = 1 then (some true) else (some false)))
set_option maxHeartbeats 4000000 in
set_option maxRecDepth 100000 in
theorem c_X6_hasLearnt (l : Launch) (G : GG) (a1 : Int32) (a2 : Int32) (v : VV) (r : Bool) (hF : F_X6_hasLearnt a1 a2 v = some r) : Met l yX6_hasLearnt (cdW yX6_hasLearnt cX6_hasLearnt 3 (some .boolean)) ({ frames := 2, cells := 0, slots := 0, locals := 43 } : Room) (PC G v [.ref (ad G 0), .int a1, .int a2]) (QI G (bI r) v) 0 0 (gA G) := by
  refine met_in RX6 (by decide) rfl (Nat.le_of_ble_eq_true rfl) ?_
  intro p e s m below meth c M hP ls hl
  have hx := M.1.1
  have hb := M.1.2.1
  have hS : va_S (gA G) s.heap s.heap [] := va_S.rf
  have hl : lv_has ls 3 [(0, .ref (ad G 0)), (1, .int a1), (2, .int a2)] := hl
  unfold F_X6_hasLearnt at hF
  refine lv_aload_n hx hb dX6_hasLearnt_0 rfl (lv_at hl 0 rfl) ?_
  refine lv_iload_n hx hb dX6_hasLearnt_1 rfl (lv_at hl 1 rfl) ?_
  refine lv_iconst (v := 2) hx hb dX6_hasLearnt_2 (by decide) ?_
  obtain ⟨r2, h1, hF⟩ := bi_some hF
  refine k_i hS (kV_run M hS hP ok_X6_147 (c_X6_childIs l G a1 2 v r2 h1) (rc_6 M hP rfl) rfl hl.1 rfl (Nat.le_of_ble_eq_true rfl) ⟨rfl, rfl⟩ ⟨Nat.le_of_ble_eq_true rfl, Nat.le_of_ble_eq_true rfl⟩ dX6_hasLearnt_3) (fun H locs hP hS => ?_)
  refine lv_iload_n hx hb dX6_hasLearnt_6 rfl (lv_at hl 2 rfl) ?_
  refine lv_ishr hx hb dX6_hasLearnt_7 ?_
  refine lv_iconst (v := 1) hx hb dX6_hasLearnt_8 (by decide) ?_
  refine lv_iand hx hb dX6_hasLearnt_9 ?_
  refine lv_iconst (v := 1) hx hb dX6_hasLearnt_10 (by decide) ?_
  refine lv_icmp_ne (tgt := 18) hx hb dX6_hasLearnt_11 (by decide) (fun c3 => ?_) (fun c3 => ?_)
  · replace hF := (if_neg c3).symm.trans hF
    refine lv_iconst (v := 0) hx hb dX6_hasLearnt_18 (by decide) ?_
    exact ret_z M hS hP (congrArg (fun z : Bool => (bI z, v)) (Option.some.inj hF)) rfl dX6_hasLearnt_19
  · replace hF := (if_pos c3).symm.trans hF
    refine lv_iconst (v := 1) hx hb dX6_hasLearnt_14 (by decide) ?_
    refine lv_goto (tgt := 19) hx hb dX6_hasLearnt_15 (by decide) ?_
    exact ret_z M hS hP (congrArg (fun z : Bool => (bI z, v)) (Option.some.inj hF)) rfl dX6_hasLearnt_19
def L_X6_haveLearnt_6 : Nat → Int32 → Int32 → Int32 → Int32 → Int32 → VV → Option Bool
  | 0, _, _, _, _, _, _ => none
  | n + 1, x1, x2, x3, x4, x5, v =>
  if x2 < x5 then (gu (gB x4) (some (x4 == 1))) else (if x4 = 0 then (L_X6_haveLearnt_6 n x1 x2 x3 0 (x5 + 1) v) else (Option.bind (F_X6_hasLearnt x5 x3 v) (fun r5 => (if r5 = true then (L_X6_haveLearnt_6 n x1 x2 x3 1 (x5 + 1) v) else (L_X6_haveLearnt_6 n x1 x2 x3 0 (x5 + 1) v)))))
def F_X6_haveLearnt (a1 : Int32) (a2 : Int32) (a3 : Int32) (v : VV) : Option Bool :=
  L_X6_haveLearnt_6 fu a1 a2 a3 1 a1 v
set_option maxHeartbeats 4000000 in
set_option maxRecDepth 100000 in
theorem l_X6_haveLearnt_6 {p : Program} {l : Launch} {e : Env} {s : State} {m : MethodId} {args : Array Value} {below : List Frame} {meth : Method} {c : Code} {G : GG} (M : Mx G RX6 cX6_haveLearnt 6 (some .boolean) p s m args meth c) (r : Bool) (v : VV) : ∀ (n : Nat) (x1 : Int32) (x2 : Int32) (x3 : Int32) (x4 : Int32) (x5 : Int32) (H : Heap) (locs : List Loc) (ls : Array Slot), L_X6_haveLearnt_6 n x1 x2 x3 x4 x5 v = some r → Wd G v H → va_S (gA G) s.heap H locs → lv_has ls 6 [(0, .ref (ad G 0)), (1, .int x1), (2, .int x2), (3, .int x3), (4, .int x4), (5, .int x5)] → W p l e ({ frames := 3, cells := 0, slots := 0, locals := 65 } : Room) s m args below meth c H locs 0 0 (MQ below (QI G (bI r) v) args s 0 0 (gA G)) (F0 m 6 ls []) := by
  have hx := M.1.1
  have hb := M.1.2.1
  intro n
  induction n with
  | zero =>
    intro x1 x2 x3 x4 x5 H locs ls hF hP hS hl
    rw [L_X6_haveLearnt_6] at hF
    cases hF
  | succ n ih =>
    intro x1 x2 x3 x4 x5 H locs ls hF hP hS hl
    rw [L_X6_haveLearnt_6] at hF
    refine lv_iload hx hb dX6_haveLearnt_6 (lv_at hl 5 rfl) ?_
    refine lv_iload_n hx hb dX6_haveLearnt_8 rfl (lv_at hl 2 rfl) ?_
    refine lv_icmp_gt (tgt := 40) hx hb dX6_haveLearnt_9 (by decide) (fun c1 => ?_) (fun c1 => ?_)
    · replace hF := (if_pos c1).symm.trans hF
      refine lv_iload hx hb dX6_haveLearnt_40 (lv_at hl 4 rfl) ?_
      obtain ⟨g2, hF⟩ := gu_some hF
      exact ret_z M hS hP ((congrArg (fun z => (z, v)) (gB_eq g2).symm).trans (congrArg (fun z : Bool => (bI z, v)) (Option.some.inj hF))) (gB_nar g2) dX6_haveLearnt_42
    · replace hF := (if_neg c1).symm.trans hF
      refine lv_iload hx hb dX6_haveLearnt_12 (lv_at hl 4 rfl) ?_
      refine lv_if_eq (tgt := 31) hx hb dX6_haveLearnt_14 (by decide) (fun c3 => ?_) (fun c3 => ?_)
      · replace hF := (if_pos c3).symm.trans hF
        refine lv_iconst (v := 0) hx hb dX6_haveLearnt_31 (by decide) ?_
        refine lv_istore (lv' := [(4, .int 0), (0, .ref (ad G 0)), (1, .int x1), (2, .int x2), (3, .int x3), (5, .int x5)]) hx hb dX6_haveLearnt_32 hl (by decide) rfl (fun ls hl => ?_)
        refine lv_iinc (v := (x5 + 1)) (lv' := [(5, .int (x5 + 1)), (4, .int 0), (0, .ref (ad G 0)), (1, .int x1), (2, .int x2), (3, .int x3)]) hx hb dX6_haveLearnt_34 hl (k := 5) rfl (iinc_eq _ (by decide)) (by decide) rfl (fun ls hl => ?_)
        refine lv_goto (tgt := 6) hx hb dX6_haveLearnt_37 (by decide) ?_
        exact ih x1 x2 x3 0 (x5 + 1) _ _ ls hF hP hS (lv_sub hl [2, 3, 4, 5, 1, 0] rfl)
      · replace hF := (if_neg c3).symm.trans hF
        refine lv_aload_n hx hb dX6_haveLearnt_17 rfl (lv_at hl 0 rfl) ?_
        refine lv_iload hx hb dX6_haveLearnt_18 (lv_at hl 5 rfl) ?_
        refine lv_iload_n hx hb dX6_haveLearnt_20 rfl (lv_at hl 3 rfl) ?_
        obtain ⟨r5, h4, hF⟩ := bi_some hF
        refine k_i hS (kV_run M hS hP ok_X6_209 (c_X6_hasLearnt l G x5 x3 v r5 h4) (rc_6 M hP rfl) rfl hl.1 rfl (Nat.le_of_ble_eq_true rfl) ⟨rfl, rfl⟩ ⟨Nat.le_of_ble_eq_true rfl, Nat.le_of_ble_eq_true rfl⟩ dX6_haveLearnt_21) (fun H locs hP hS => ?_)
        refine lv_if_eq (tgt := 31) hx hb dX6_haveLearnt_24 (by decide) (fun c6 => ?_) (fun c6 => ?_)
        · replace hF := (if_neg (bI_f c6)).symm.trans hF
          refine lv_iconst (v := 0) hx hb dX6_haveLearnt_31 (by decide) ?_
          refine lv_istore (lv' := [(4, .int 0), (0, .ref (ad G 0)), (1, .int x1), (2, .int x2), (3, .int x3), (5, .int x5)]) hx hb dX6_haveLearnt_32 hl (by decide) rfl (fun ls hl => ?_)
          refine lv_iinc (v := (x5 + 1)) (lv' := [(5, .int (x5 + 1)), (4, .int 0), (0, .ref (ad G 0)), (1, .int x1), (2, .int x2), (3, .int x3)]) hx hb dX6_haveLearnt_34 hl (k := 5) rfl (iinc_eq _ (by decide)) (by decide) rfl (fun ls hl => ?_)
          refine lv_goto (tgt := 6) hx hb dX6_haveLearnt_37 (by decide) ?_
          exact ih x1 x2 x3 0 (x5 + 1) _ _ ls hF hP hS (lv_sub hl [2, 3, 4, 5, 1, 0] rfl)
        · replace hF := (if_pos (bI_t c6)).symm.trans hF
          refine lv_iconst (v := 1) hx hb dX6_haveLearnt_27 (by decide) ?_
          refine lv_goto (tgt := 32) hx hb dX6_haveLearnt_28 (by decide) ?_
          refine lv_istore (lv' := [(4, .int 1), (0, .ref (ad G 0)), (1, .int x1), (2, .int x2), (3, .int x3), (5, .int x5)]) hx hb dX6_haveLearnt_32 hl (by decide) rfl (fun ls hl => ?_)
          refine lv_iinc (v := (x5 + 1)) (lv' := [(5, .int (x5 + 1)), (4, .int 1), (0, .ref (ad G 0)), (1, .int x1), (2, .int x2), (3, .int x3)]) hx hb dX6_haveLearnt_34 hl (k := 5) rfl (iinc_eq _ (by decide)) (by decide) rfl (fun ls hl => ?_)
          refine lv_goto (tgt := 6) hx hb dX6_haveLearnt_37 (by decide) ?_
          exact ih x1 x2 x3 1 (x5 + 1) _ _ ls hF hP hS (lv_sub hl [2, 3, 4, 5, 1, 0] rfl)
set_option maxHeartbeats 4000000 in
set_option maxRecDepth 100000 in
theorem c_X6_haveLearnt (l : Launch) (G : GG) (a1 : Int32) (a2 : Int32) (a3 : Int32) (v : VV) (r : Bool) (hF : F_X6_haveLearnt a1 a2 a3 v = some r) : Met l yX6_haveLearnt (cdW yX6_haveLearnt cX6_haveLearnt 6 (some .boolean)) ({ frames := 3, cells := 0, slots := 0, locals := 65 } : Room) (PC G v [.ref (ad G 0), .int a1, .int a2, .int a3]) (QI G (bI r) v) 0 0 (gA G) := by
  refine met_in RX6 (by decide) rfl (Nat.le_of_ble_eq_true rfl) ?_
  intro p e s m below meth c M hP ls hl
  have hx := M.1.1
  have hb := M.1.2.1
  have hS : va_S (gA G) s.heap s.heap [] := va_S.rf
  have hl : lv_has ls 6 [(0, .ref (ad G 0)), (1, .int a1), (2, .int a2), (3, .int a3)] := hl
  unfold F_X6_haveLearnt at hF
  refine lv_iconst (v := 1) hx hb dX6_haveLearnt_0 (by decide) ?_
  refine lv_istore (lv' := [(4, .int 1), (0, .ref (ad G 0)), (1, .int a1), (2, .int a2), (3, .int a3)]) hx hb dX6_haveLearnt_1 hl (by decide) rfl (fun ls hl => ?_)
  refine lv_iload_n hx hb dX6_haveLearnt_3 rfl (lv_at hl 2 rfl) ?_
  refine lv_istore (lv' := [(5, .int a1), (4, .int 1), (0, .ref (ad G 0)), (1, .int a1), (2, .int a2), (3, .int a3)]) hx hb dX6_haveLearnt_4 hl (by decide) rfl (fun ls hl => ?_)
  exact l_X6_haveLearnt_6 M _ _ fu a1 a2 a3 1 a1 _ _ ls hF hP hS (lv_sub hl [2, 3, 4, 5, 1, 0] rfl)
def L_X6_daysTo_14 : Nat → Int32 → Int32 → Int32 → Int32 → VV → Option (Int32 × VV)
  | 0, _, _, _, _, _ => none
  | n + 1, x1, x2, x3, x4, v =>
  if 200 ≤ x4 then (Option.bind (F_X6_haveLearnt x1 x2 x3 v) (fun r6 => (if r6 = true then (Option.bind (F_X6_putBack x4 v) (fun (r13, v14) => some (r13, v14))) else (Option.bind (F_X6_putBack (-1) v) (fun (r9, v10) => some (r9, v10)))))) else (Option.bind (F_X6_haveLearnt x1 x2 x3 v) (fun r17 => (if r17 = true then (Option.bind (F_X6_haveLearnt x1 x2 x3 v) (fun r20 => (if r20 = true then (Option.bind (F_X6_putBack x4 v) (fun (r27, v28) => some (r27, v28))) else (Option.bind (F_X6_putBack (-1) v) (fun (r23, v24) => some (r23, v24)))))) else (Option.bind (F_X6_day v) (fun v32 => L_X6_daysTo_14 n x1 x2 x3 (x4 + 1) v32)))))
def F_X6_daysTo (a1 : Int32) (a2 : Int32) (a3 : Int32) (v : VV) : Option (Int32 × VV) :=
  Option.bind (F_X6_copyRow 1 3 v) (fun v3 => L_X6_daysTo_14 fu a1 a2 a3 0 v3)
set_option maxHeartbeats 4000000 in
set_option maxRecDepth 100000 in
theorem l_X6_daysTo_14 {p : Program} {l : Launch} {e : Env} {s : State} {m : MethodId} {args : Array Value} {below : List Frame} {meth : Method} {c : Code} {G : GG} (M : Mx G RX6 cX6_daysTo 5 (some .int) p s m args meth c) (r : Int32) (v' : VV) : ∀ (n : Nat) (x1 : Int32) (x2 : Int32) (x3 : Int32) (x4 : Int32) (v : VV) (H : Heap) (locs : List Loc) (ls : Array Slot), L_X6_daysTo_14 n x1 x2 x3 x4 v = some (r, v') → Wd G v H → va_S (gA G) s.heap H locs → lv_has ls 5 [(0, .ref (ad G 0)), (1, .int x1), (2, .int x2), (3, .int x3), (4, .int x4)] → W p l e ({ frames := 6, cells := 0, slots := 0, locals := 136 } : Room) s m args below meth c H locs 0 0 (MQ below (QI G r v') args s 0 0 (gA G)) (F0 m 14 ls []) := by
  have hx := M.1.1
  have hb := M.1.2.1
  intro n
  induction n with
  | zero =>
    intro x1 x2 x3 x4 v H locs ls hF hP hS hl
    rw [L_X6_daysTo_14] at hF
    cases hF
  | succ n ih =>
    intro x1 x2 x3 x4 v H locs ls hF hP hS hl
    rw [L_X6_daysTo_14] at hF
    refine lv_iload hx hb dX6_daysTo_14 (lv_at hl 4 rfl) ?_
    refine lv_sipush (v := 200) hx hb dX6_daysTo_16 (by decide) ?_
    refine lv_icmp_ge (tgt := 42) hx hb dX6_daysTo_19 (by decide) (fun c4 => ?_) (fun c4 => ?_)
    · replace hF := (if_pos c4).symm.trans hF
      refine lv_aload_n hx hb dX6_daysTo_42 rfl (lv_at hl 0 rfl) ?_
      refine lv_aload_n hx hb dX6_daysTo_43 rfl (lv_at hl 0 rfl) ?_
      refine lv_iload_n hx hb dX6_daysTo_44 rfl (lv_at hl 1 rfl) ?_
      refine lv_iload_n hx hb dX6_daysTo_45 rfl (lv_at hl 2 rfl) ?_
      refine lv_iload_n hx hb dX6_daysTo_46 rfl (lv_at hl 3 rfl) ?_
      obtain ⟨r6, h5, hF⟩ := bi_some hF
      refine k_i hS (kV_run M hS hP ok_X6_212 (c_X6_haveLearnt l G x1 x2 x3 v r6 h5) (rc_6 M hP rfl) rfl hl.1 rfl (Nat.le_of_ble_eq_true rfl) ⟨rfl, rfl⟩ ⟨Nat.le_of_ble_eq_true rfl, Nat.le_of_ble_eq_true rfl⟩ dX6_daysTo_47) (fun H locs hP hS => ?_)
      refine lv_if_eq (tgt := 58) hx hb dX6_daysTo_50 (by decide) (fun c7 => ?_) (fun c7 => ?_)
      · replace hF := (if_neg (bI_f c7)).symm.trans hF
        refine lv_iconst (v := (-1)) hx hb dX6_daysTo_58 (by decide) ?_
        obtain ⟨⟨r9, v10⟩, h8, hF⟩ := bi_some hF
        dsimp only at hF
        refine k_i hS (kV_run M hS hP ok_X6_203 (c_X6_putBack l G (-1) v r9 v10 h8) (rc_6 M hP rfl) rfl hl.1 rfl (Nat.le_of_ble_eq_true rfl) ⟨rfl, rfl⟩ ⟨Nat.le_of_ble_eq_true rfl, Nat.le_of_ble_eq_true rfl⟩ dX6_daysTo_59) (fun H locs hP hS => ?_)
        exact ret_i M hS hP (Option.some.inj hF) dX6_daysTo_62
      · replace hF := (if_pos (bI_t c7)).symm.trans hF
        refine lv_iload hx hb dX6_daysTo_53 (lv_at hl 4 rfl) ?_
        refine lv_goto (tgt := 59) hx hb dX6_daysTo_55 (by decide) ?_
        obtain ⟨⟨r13, v14⟩, h12, hF⟩ := bi_some hF
        dsimp only at hF
        refine k_i hS (kV_run M hS hP ok_X6_203 (c_X6_putBack l G x4 v r13 v14 h12) (rc_6 M hP rfl) rfl hl.1 rfl (Nat.le_of_ble_eq_true rfl) ⟨rfl, rfl⟩ ⟨Nat.le_of_ble_eq_true rfl, Nat.le_of_ble_eq_true rfl⟩ dX6_daysTo_59) (fun H locs hP hS => ?_)
        exact ret_i M hS hP (Option.some.inj hF) dX6_daysTo_62
    · replace hF := (if_neg c4).symm.trans hF
      refine lv_aload_n hx hb dX6_daysTo_22 rfl (lv_at hl 0 rfl) ?_
      refine lv_iload_n hx hb dX6_daysTo_23 rfl (lv_at hl 1 rfl) ?_
      refine lv_iload_n hx hb dX6_daysTo_24 rfl (lv_at hl 2 rfl) ?_
      refine lv_iload_n hx hb dX6_daysTo_25 rfl (lv_at hl 3 rfl) ?_
      obtain ⟨r17, h16, hF⟩ := bi_some hF
      refine k_i hS (kV_run M hS hP ok_X6_212 (c_X6_haveLearnt l G x1 x2 x3 v r17 h16) (rc_6 M hP rfl) rfl hl.1 rfl (Nat.le_of_ble_eq_true rfl) ⟨rfl, rfl⟩ ⟨Nat.le_of_ble_eq_true rfl, Nat.le_of_ble_eq_true rfl⟩ dX6_daysTo_26) (fun H locs hP hS => ?_)
      refine lv_if_ne (tgt := 42) hx hb dX6_daysTo_29 (by decide) (fun c18 => ?_) (fun c18 => ?_)
      · replace hF := (if_pos (bI_t c18)).symm.trans hF
        refine lv_aload_n hx hb dX6_daysTo_42 rfl (lv_at hl 0 rfl) ?_
        refine lv_aload_n hx hb dX6_daysTo_43 rfl (lv_at hl 0 rfl) ?_
        refine lv_iload_n hx hb dX6_daysTo_44 rfl (lv_at hl 1 rfl) ?_
        refine lv_iload_n hx hb dX6_daysTo_45 rfl (lv_at hl 2 rfl) ?_
        refine lv_iload_n hx hb dX6_daysTo_46 rfl (lv_at hl 3 rfl) ?_
        obtain ⟨r20, h19, hF⟩ := bi_some hF
        refine k_i hS (kV_run M hS hP ok_X6_212 (c_X6_haveLearnt l G x1 x2 x3 v r20 h19) (rc_6 M hP rfl) rfl hl.1 rfl (Nat.le_of_ble_eq_true rfl) ⟨rfl, rfl⟩ ⟨Nat.le_of_ble_eq_true rfl, Nat.le_of_ble_eq_true rfl⟩ dX6_daysTo_47) (fun H locs hP hS => ?_)
        refine lv_if_eq (tgt := 58) hx hb dX6_daysTo_50 (by decide) (fun c21 => ?_) (fun c21 => ?_)
        · replace hF := (if_neg (bI_f c21)).symm.trans hF
          refine lv_iconst (v := (-1)) hx hb dX6_daysTo_58 (by decide) ?_
          obtain ⟨⟨r23, v24⟩, h22, hF⟩ := bi_some hF
          dsimp only at hF
          refine k_i hS (kV_run M hS hP ok_X6_203 (c_X6_putBack l G (-1) v r23 v24 h22) (rc_6 M hP rfl) rfl hl.1 rfl (Nat.le_of_ble_eq_true rfl) ⟨rfl, rfl⟩ ⟨Nat.le_of_ble_eq_true rfl, Nat.le_of_ble_eq_true rfl⟩ dX6_daysTo_59) (fun H locs hP hS => ?_)
          exact ret_i M hS hP (Option.some.inj hF) dX6_daysTo_62
        · replace hF := (if_pos (bI_t c21)).symm.trans hF
          refine lv_iload hx hb dX6_daysTo_53 (lv_at hl 4 rfl) ?_
          refine lv_goto (tgt := 59) hx hb dX6_daysTo_55 (by decide) ?_
          obtain ⟨⟨r27, v28⟩, h26, hF⟩ := bi_some hF
          dsimp only at hF
          refine k_i hS (kV_run M hS hP ok_X6_203 (c_X6_putBack l G x4 v r27 v28 h26) (rc_6 M hP rfl) rfl hl.1 rfl (Nat.le_of_ble_eq_true rfl) ⟨rfl, rfl⟩ ⟨Nat.le_of_ble_eq_true rfl, Nat.le_of_ble_eq_true rfl⟩ dX6_daysTo_59) (fun H locs hP hS => ?_)
          exact ret_i M hS hP (Option.some.inj hF) dX6_daysTo_62
      · replace hF := (if_neg (bI_f c18)).symm.trans hF
        refine lv_aload_n hx hb dX6_daysTo_32 rfl (lv_at hl 0 rfl) ?_
        obtain ⟨v32, h30, hF⟩ := bi_some hF
        refine k_v hS (kV_run M hS hP ok_X6_177 (c_X6_day l G v v32 h30) (rc_6 M hP rfl) rfl hl.1 rfl (Nat.le_of_ble_eq_true rfl) ⟨rfl, rfl⟩ ⟨Nat.le_of_ble_eq_true rfl, Nat.le_of_ble_eq_true rfl⟩ dX6_daysTo_33) (fun H locs hP hS => ?_)
        refine lv_iinc (v := (x4 + 1)) (lv' := [(4, .int (x4 + 1)), (0, .ref (ad G 0)), (1, .int x1), (2, .int x2), (3, .int x3)]) hx hb dX6_daysTo_36 hl (k := 4) rfl (iinc_eq _ (by decide)) (by decide) rfl (fun ls hl => ?_)
        refine lv_goto (tgt := 14) hx hb dX6_daysTo_39 (by decide) ?_
        exact ih x1 x2 x3 (x4 + 1) _ _ _ ls hF hP hS (lv_sub hl [1, 2, 3, 4, 0] rfl)
set_option maxHeartbeats 4000000 in
set_option maxRecDepth 100000 in
theorem c_X6_daysTo (l : Launch) (G : GG) (a1 : Int32) (a2 : Int32) (a3 : Int32) (v : VV) (r : Int32) (v' : VV) (hF : F_X6_daysTo a1 a2 a3 v = some (r, v')) : Met l yX6_daysTo (cdW yX6_daysTo cX6_daysTo 5 (some .int)) ({ frames := 6, cells := 0, slots := 0, locals := 136 } : Room) (PC G v [.ref (ad G 0), .int a1, .int a2, .int a3]) (QI G r v') 0 0 (gA G) := by
  refine met_in RX6 (by decide) rfl (Nat.le_of_ble_eq_true rfl) ?_
  intro p e s m below meth c M hP ls hl
  have hx := M.1.1
  have hb := M.1.2.1
  have hS : va_S (gA G) s.heap s.heap [] := va_S.rf
  have hl : lv_has ls 5 [(0, .ref (ad G 0)), (1, .int a1), (2, .int a2), (3, .int a3)] := hl
  unfold F_X6_daysTo at hF
  refine lv_aload_n hx hb dX6_daysTo_0 rfl (lv_at hl 0 rfl) ?_
  refine fg_6_9 M hP dX6_daysTo_1 ?_
  refine lv_aload_n hx hb dX6_daysTo_4 rfl (lv_at hl 0 rfl) ?_
  refine fg_6_16 M hP dX6_daysTo_5 ?_
  obtain ⟨v3, h1, hF⟩ := bi_some hF
  refine k_v hS (kS_run M hS hP ok_X6_61 (c_X6_copyRow l G 1 rfl 3 rfl v v3 h1) rfl hl.1 rfl (Nat.le_of_ble_eq_true rfl) ⟨rfl, rfl⟩ ⟨Nat.le_of_ble_eq_true rfl, Nat.le_of_ble_eq_true rfl⟩ dX6_daysTo_8) (fun H locs hP hS => ?_)
  refine lv_iconst (v := 0) hx hb dX6_daysTo_11 (by decide) ?_
  refine lv_istore (lv' := [(4, .int 0), (0, .ref (ad G 0)), (1, .int a1), (2, .int a2), (3, .int a3)]) hx hb dX6_daysTo_12 hl (by decide) rfl (fun ls hl => ?_)
  exact l_X6_daysTo_14 M _ _ fu a1 a2 a3 0 _ _ _ ls hF hP hS (lv_sub hl [1, 2, 3, 4, 0] rfl)
def F_X6_learns (a1 : Int32) (a2 : Int32) (v : VV) : Option (Int32 × VV) :=
  Option.bind (F_X6_isChild a1 v) (fun r2 => (if r2 = true then (Option.bind (F_X6_isNote a2 v) (fun r9 => (if r9 = true then (Option.bind (F_X6_daysTo a1 a1 a2 v) (fun (r16, v17) => Option.bind (F_X6_orNone r16 v17) (fun (r20, v21) => some (r20, v21)))) else (Option.bind (F_X6_finding (-1000001) v) (fun (r12, v13) => some (r12, v13)))))) else (Option.bind (F_X6_finding (-1000001) v) (fun (r5, v6) => some (r5, v6)))))
set_option maxHeartbeats 4000000 in
set_option maxRecDepth 100000 in
theorem c_X6_learns (l : Launch) (G : GG) (a1 : Int32) (a2 : Int32) (v : VV) (r : Int32) (v' : VV) (hF : F_X6_learns a1 a2 v = some (r, v')) : Met l yX6_learns (cdW yX6_learns cX6_learns 3 (some .int)) ({ frames := 7, cells := 0, slots := 0, locals := 160 } : Room) (PC G v [.ref (ad G 0), .int a1, .int a2]) (QI G r v') 0 0 (gA G) := by
  refine met_in RX6 (by decide) rfl (Nat.le_of_ble_eq_true rfl) ?_
  intro p e s m below meth c M hP ls hl
  have hx := M.1.1
  have hb := M.1.2.1
  have hS : va_S (gA G) s.heap s.heap [] := va_S.rf
  have hl : lv_has ls 3 [(0, .ref (ad G 0)), (1, .int a1), (2, .int a2)] := hl
  unfold F_X6_learns at hF
  refine lv_aload_n hx hb dX6_learns_0 rfl (lv_at hl 0 rfl) ?_
  refine lv_iload_n hx hb dX6_learns_1 rfl (lv_at hl 1 rfl) ?_
  obtain ⟨r2, h1, hF⟩ := bi_some hF
  refine k_i hS (kV_run M hS hP ok_X6_144 (c_X6_isChild l G a1 v r2 h1) (rc_6 M hP rfl) rfl hl.1 rfl (Nat.le_of_ble_eq_true rfl) ⟨rfl, rfl⟩ ⟨Nat.le_of_ble_eq_true rfl, Nat.le_of_ble_eq_true rfl⟩ dX6_learns_2) (fun H locs hP hS => ?_)
  refine lv_if_eq (tgt := 29) hx hb dX6_learns_5 (by decide) (fun c3 => ?_) (fun c3 => ?_)
  · replace hF := (if_neg (bI_f c3)).symm.trans hF
    refine lv_aload_n hx hb dX6_learns_29 rfl (lv_at hl 0 rfl) ?_
    refine lv_ldc (own := RX6) (v := (-1000001)) hx hb M.1.2.2.2.1 (M.1.2.2.2.2 (Cond.constant RX6 60 (-1000001)) w_788) dX6_learns_30 ?_
    obtain ⟨⟨r5, v6⟩, h4, hF⟩ := bi_some hF
    dsimp only at hF
    refine k_i hS (kV_run M hS hP ok_X6_66 (c_X6_finding l G (-1000001) v r5 v6 h4) (rc_6 M hP rfl) rfl hl.1 rfl (Nat.le_of_ble_eq_true rfl) ⟨rfl, rfl⟩ ⟨Nat.le_of_ble_eq_true rfl, Nat.le_of_ble_eq_true rfl⟩ dX6_learns_32) (fun H locs hP hS => ?_)
    exact ret_i M hS hP (Option.some.inj hF) dX6_learns_35
  · replace hF := (if_pos (bI_t c3)).symm.trans hF
    refine lv_iload_n hx hb dX6_learns_8 rfl (lv_at hl 2 rfl) ?_
    obtain ⟨r9, h8, hF⟩ := bi_some hF
    refine k_i hS (kS_run M hS hP ok_X6_137 (c_X6_isNote l G a2 v r9 h8) rfl hl.1 rfl (Nat.le_of_ble_eq_true rfl) ⟨rfl, rfl⟩ ⟨Nat.le_of_ble_eq_true rfl, Nat.le_of_ble_eq_true rfl⟩ dX6_learns_9) (fun H locs hP hS => ?_)
    refine lv_if_eq (tgt := 29) hx hb dX6_learns_12 (by decide) (fun c10 => ?_) (fun c10 => ?_)
    · replace hF := (if_neg (bI_f c10)).symm.trans hF
      refine lv_aload_n hx hb dX6_learns_29 rfl (lv_at hl 0 rfl) ?_
      refine lv_ldc (own := RX6) (v := (-1000001)) hx hb M.1.2.2.2.1 (M.1.2.2.2.2 (Cond.constant RX6 60 (-1000001)) w_788) dX6_learns_30 ?_
      obtain ⟨⟨r12, v13⟩, h11, hF⟩ := bi_some hF
      dsimp only at hF
      refine k_i hS (kV_run M hS hP ok_X6_66 (c_X6_finding l G (-1000001) v r12 v13 h11) (rc_6 M hP rfl) rfl hl.1 rfl (Nat.le_of_ble_eq_true rfl) ⟨rfl, rfl⟩ ⟨Nat.le_of_ble_eq_true rfl, Nat.le_of_ble_eq_true rfl⟩ dX6_learns_32) (fun H locs hP hS => ?_)
      exact ret_i M hS hP (Option.some.inj hF) dX6_learns_35
    · replace hF := (if_pos (bI_t c10)).symm.trans hF
      refine lv_aload_n hx hb dX6_learns_15 rfl (lv_at hl 0 rfl) ?_
      refine lv_aload_n hx hb dX6_learns_16 rfl (lv_at hl 0 rfl) ?_
      refine lv_iload_n hx hb dX6_learns_17 rfl (lv_at hl 1 rfl) ?_
      refine lv_iload_n hx hb dX6_learns_18 rfl (lv_at hl 1 rfl) ?_
      refine lv_iload_n hx hb dX6_learns_19 rfl (lv_at hl 2 rfl) ?_
      obtain ⟨⟨r16, v17⟩, h15, hF⟩ := bi_some hF
      dsimp only at hF
      refine k_i hS (kV_run M hS hP ok_X6_215 (c_X6_daysTo l G a1 a1 a2 v r16 v17 h15) (rc_6 M hP rfl) rfl hl.1 rfl (Nat.le_of_ble_eq_true rfl) ⟨rfl, rfl⟩ ⟨Nat.le_of_ble_eq_true rfl, Nat.le_of_ble_eq_true rfl⟩ dX6_learns_20) (fun H locs hP hS => ?_)
      obtain ⟨⟨r20, v21⟩, h19, hF⟩ := bi_some hF
      dsimp only at hF
      refine k_i hS (kV_run M hS hP ok_X6_219 (c_X6_orNone l G r16 v17 r20 v21 h19) (rc_6 M hP rfl) rfl hl.1 rfl (Nat.le_of_ble_eq_true rfl) ⟨rfl, rfl⟩ ⟨Nat.le_of_ble_eq_true rfl, Nat.le_of_ble_eq_true rfl⟩ dX6_learns_23) (fun H locs hP hS => ?_)
      refine lv_goto (tgt := 35) hx hb dX6_learns_26 (by decide) ?_
      exact ret_i M hS hP (Option.some.inj hF) dX6_learns_35
def F_X6_taught (a1 : Int32) (v : VV) : Option (Int32 × VV) :=
  Option.bind (F_X6_isNote a1 v) (fun r2 => (if r2 = true then (Option.bind (F_X6_daysTo 0 ((v 1 3) - 1) a1 v) (fun (r9, v10) => Option.bind (F_X6_orNone r9 v10) (fun (r13, v14) => some (r13, v14)))) else (Option.bind (F_X6_finding (-1000001) v) (fun (r5, v6) => some (r5, v6)))))
set_option maxHeartbeats 4000000 in
set_option maxRecDepth 100000 in
theorem c_X6_taught (l : Launch) (G : GG) (a1 : Int32) (v : VV) (r : Int32) (v' : VV) (hF : F_X6_taught a1 v = some (r, v')) : Met l yX6_taught (cdW yX6_taught cX6_taught 2 (some .int)) ({ frames := 7, cells := 0, slots := 0, locals := 160 } : Room) (PC G v [.ref (ad G 0), .int a1]) (QI G r v') 0 0 (gA G) := by
  refine met_in RX6 (by decide) rfl (Nat.le_of_ble_eq_true rfl) ?_
  intro p e s m below meth c M hP ls hl
  have hx := M.1.1
  have hb := M.1.2.1
  have hS : va_S (gA G) s.heap s.heap [] := va_S.rf
  have hl : lv_has ls 2 [(0, .ref (ad G 0)), (1, .int a1)] := hl
  unfold F_X6_taught at hF
  refine lv_iload_n hx hb dX6_taught_0 rfl (lv_at hl 1 rfl) ?_
  obtain ⟨r2, h1, hF⟩ := bi_some hF
  refine k_i hS (kS_run M hS hP ok_X6_137 (c_X6_isNote l G a1 v r2 h1) rfl hl.1 rfl (Nat.le_of_ble_eq_true rfl) ⟨rfl, rfl⟩ ⟨Nat.le_of_ble_eq_true rfl, Nat.le_of_ble_eq_true rfl⟩ dX6_taught_1) (fun H locs hP hS => ?_)
  refine lv_if_eq (tgt := 28) hx hb dX6_taught_4 (by decide) (fun c3 => ?_) (fun c3 => ?_)
  · replace hF := (if_neg (bI_f c3)).symm.trans hF
    refine lv_aload_n hx hb dX6_taught_28 rfl (lv_at hl 0 rfl) ?_
    refine lv_ldc (own := RX6) (v := (-1000001)) hx hb M.1.2.2.2.1 (M.1.2.2.2.2 (Cond.constant RX6 60 (-1000001)) w_788) dX6_taught_29 ?_
    obtain ⟨⟨r5, v6⟩, h4, hF⟩ := bi_some hF
    dsimp only at hF
    refine k_i hS (kV_run M hS hP ok_X6_66 (c_X6_finding l G (-1000001) v r5 v6 h4) (rc_6 M hP rfl) rfl hl.1 rfl (Nat.le_of_ble_eq_true rfl) ⟨rfl, rfl⟩ ⟨Nat.le_of_ble_eq_true rfl, Nat.le_of_ble_eq_true rfl⟩ dX6_taught_31) (fun H locs hP hS => ?_)
    exact ret_i M hS hP (Option.some.inj hF) dX6_taught_34
  · replace hF := (if_pos (bI_t c3)).symm.trans hF
    refine lv_aload_n hx hb dX6_taught_7 rfl (lv_at hl 0 rfl) ?_
    refine lv_aload_n hx hb dX6_taught_8 rfl (lv_at hl 0 rfl) ?_
    refine lv_iconst (v := 0) hx hb dX6_taught_9 (by decide) ?_
    refine lv_aload_n hx hb dX6_taught_10 rfl (lv_at hl 0 rfl) ?_
    refine fg_6_9 M hP dX6_taught_11 ?_
    refine lv_iconst (v := 3) hx hb dX6_taught_14 (by decide) ?_
    refine r_iald (k := 3) M hP rfl rfl (in_c rfl) rfl dX6_taught_15 ?_
    refine lv_iconst (v := 1) hx hb dX6_taught_16 (by decide) ?_
    refine lv_isub hx hb dX6_taught_17 ?_
    refine lv_iload_n hx hb dX6_taught_18 rfl (lv_at hl 1 rfl) ?_
    obtain ⟨⟨r9, v10⟩, h8, hF⟩ := bi_some hF
    dsimp only at hF
    refine k_i hS (kV_run M hS hP ok_X6_215 (c_X6_daysTo l G 0 ((v 1 3) - 1) a1 v r9 v10 h8) (rc_6 M hP rfl) rfl hl.1 rfl (Nat.le_of_ble_eq_true rfl) ⟨rfl, rfl⟩ ⟨Nat.le_of_ble_eq_true rfl, Nat.le_of_ble_eq_true rfl⟩ dX6_taught_19) (fun H locs hP hS => ?_)
    obtain ⟨⟨r13, v14⟩, h12, hF⟩ := bi_some hF
    dsimp only at hF
    refine k_i hS (kV_run M hS hP ok_X6_219 (c_X6_orNone l G r9 v10 r13 v14 h12) (rc_6 M hP rfl) rfl hl.1 rfl (Nat.le_of_ble_eq_true rfl) ⟨rfl, rfl⟩ ⟨Nat.le_of_ble_eq_true rfl, Nat.le_of_ble_eq_true rfl⟩ dX6_taught_22) (fun H locs hP hS => ?_)
    refine lv_goto (tgt := 34) hx hb dX6_taught_25 (by decide) ?_
    exact ret_i M hS hP (Option.some.inj hF) dX6_taught_34
def L_X6_weary_38 : Nat → Int32 → Int32 → Int32 → VV → Option (Int32 × VV)
  | 0, _, _, _, _ => none
  | n + 1, x1, x2, x3, v =>
  if 200 ≤ x3 then (Option.bind (F_X6_keeperIs x1 4 v) (fun r16 => (if x2 ≤ r16 then (Option.bind (F_X6_putBack x3 v) (fun (r19, v20) => Option.bind (F_X6_orNone r19 v20) (fun (r23, v24) => some (r23, v24)))) else (Option.bind (F_X6_putBack (-1) v) (fun (r27, v28) => Option.bind (F_X6_orNone r27 v28) (fun (r31, v32) => some (r31, v32))))))) else (Option.bind (F_X6_keeperIs x1 4 v) (fun r35 => (if x2 ≤ r35 then (Option.bind (F_X6_keeperIs x1 4 v) (fun r38 => (if x2 ≤ r38 then (Option.bind (F_X6_putBack x3 v) (fun (r41, v42) => Option.bind (F_X6_orNone r41 v42) (fun (r45, v46) => some (r45, v46)))) else (Option.bind (F_X6_putBack (-1) v) (fun (r49, v50) => Option.bind (F_X6_orNone r49 v50) (fun (r53, v54) => some (r53, v54))))))) else (Option.bind (F_X6_day v) (fun v58 => L_X6_weary_38 n x1 x2 (x3 + 1) v58)))))
def F_X6_weary (a1 : Int32) (a2 : Int32) (v : VV) : Option (Int32 × VV) :=
  Option.bind (F_X6_isKeeper a1 v) (fun r2 => (if r2 = true then (Option.bind (F_X6_within a2 0 99 v) (fun r9 => (if r9 = true then (Option.bind (F_X6_copyRow 1 3 v) (fun v13 => L_X6_weary_38 fu a1 a2 0 v13)) else (Option.bind (F_X6_finding (-1000001) v) (fun (r60, v61) => some (r60, v61)))))) else (Option.bind (F_X6_finding (-1000001) v) (fun (r5, v6) => some (r5, v6)))))
set_option maxHeartbeats 4000000 in
set_option maxRecDepth 100000 in
theorem l_X6_weary_38 {p : Program} {l : Launch} {e : Env} {s : State} {m : MethodId} {args : Array Value} {below : List Frame} {meth : Method} {c : Code} {G : GG} (M : Mx G RX6 cX6_weary 4 (some .int) p s m args meth c) (r : Int32) (v' : VV) : ∀ (n : Nat) (x1 : Int32) (x2 : Int32) (x3 : Int32) (v : VV) (H : Heap) (locs : List Loc) (ls : Array Slot), L_X6_weary_38 n x1 x2 x3 v = some (r, v') → Wd G v H → va_S (gA G) s.heap H locs → lv_has ls 4 [(0, .ref (ad G 0)), (1, .int x1), (2, .int x2), (3, .int x3)] → W p l e ({ frames := 6, cells := 0, slots := 0, locals := 136 } : Room) s m args below meth c H locs 0 0 (MQ below (QI G r v') args s 0 0 (gA G)) (F0 m 38 ls []) := by
  have hx := M.1.1
  have hb := M.1.2.1
  intro n
  induction n with
  | zero =>
    intro x1 x2 x3 v H locs ls hF hP hS hl
    rw [L_X6_weary_38] at hF
    cases hF
  | succ n ih =>
    intro x1 x2 x3 v H locs ls hF hP hS hl
    rw [L_X6_weary_38] at hF
    refine lv_iload_n hx hb dX6_weary_38 rfl (lv_at hl 3 rfl) ?_
    refine lv_sipush (v := 200) hx hb dX6_weary_39 (by decide) ?_
    refine lv_icmp_ge (tgt := 65) hx hb dX6_weary_42 (by decide) (fun c14 => ?_) (fun c14 => ?_)
    · replace hF := (if_pos c14).symm.trans hF
      refine lv_aload_n hx hb dX6_weary_65 rfl (lv_at hl 0 rfl) ?_
      refine lv_aload_n hx hb dX6_weary_66 rfl (lv_at hl 0 rfl) ?_
      refine lv_aload_n hx hb dX6_weary_67 rfl (lv_at hl 0 rfl) ?_
      refine lv_iload_n hx hb dX6_weary_68 rfl (lv_at hl 1 rfl) ?_
      refine lv_iconst (v := 4) hx hb dX6_weary_69 (by decide) ?_
      obtain ⟨r16, h15, hF⟩ := bi_some hF
      refine k_i hS (kV_run M hS hP ok_X6_104 (c_X6_keeperIs l G x1 4 v r16 h15) (rc_6 M hP rfl) rfl hl.1 rfl (Nat.le_of_ble_eq_true rfl) ⟨rfl, rfl⟩ ⟨Nat.le_of_ble_eq_true rfl, Nat.le_of_ble_eq_true rfl⟩ dX6_weary_70) (fun H locs hP hS => ?_)
      refine lv_iload_n hx hb dX6_weary_73 rfl (lv_at hl 2 rfl) ?_
      refine lv_icmp_ge (tgt := 81) hx hb dX6_weary_74 (by decide) (fun c17 => ?_) (fun c17 => ?_)
      · replace hF := (if_pos c17).symm.trans hF
        refine lv_iload_n hx hb dX6_weary_81 rfl (lv_at hl 3 rfl) ?_
        obtain ⟨⟨r19, v20⟩, h18, hF⟩ := bi_some hF
        dsimp only at hF
        refine k_i hS (kV_run M hS hP ok_X6_203 (c_X6_putBack l G x3 v r19 v20 h18) (rc_6 M hP rfl) rfl hl.1 rfl (Nat.le_of_ble_eq_true rfl) ⟨rfl, rfl⟩ ⟨Nat.le_of_ble_eq_true rfl, Nat.le_of_ble_eq_true rfl⟩ dX6_weary_82) (fun H locs hP hS => ?_)
        obtain ⟨⟨r23, v24⟩, h22, hF⟩ := bi_some hF
        dsimp only at hF
        refine k_i hS (kV_run M hS hP ok_X6_219 (c_X6_orNone l G r19 v20 r23 v24 h22) (rc_6 M hP rfl) rfl hl.1 rfl (Nat.le_of_ble_eq_true rfl) ⟨rfl, rfl⟩ ⟨Nat.le_of_ble_eq_true rfl, Nat.le_of_ble_eq_true rfl⟩ dX6_weary_85) (fun H locs hP hS => ?_)
        exact ret_i M hS hP (Option.some.inj hF) dX6_weary_88
      · replace hF := (if_neg c17).symm.trans hF
        refine lv_iconst (v := (-1)) hx hb dX6_weary_77 (by decide) ?_
        refine lv_goto (tgt := 82) hx hb dX6_weary_78 (by decide) ?_
        obtain ⟨⟨r27, v28⟩, h26, hF⟩ := bi_some hF
        dsimp only at hF
        refine k_i hS (kV_run M hS hP ok_X6_203 (c_X6_putBack l G (-1) v r27 v28 h26) (rc_6 M hP rfl) rfl hl.1 rfl (Nat.le_of_ble_eq_true rfl) ⟨rfl, rfl⟩ ⟨Nat.le_of_ble_eq_true rfl, Nat.le_of_ble_eq_true rfl⟩ dX6_weary_82) (fun H locs hP hS => ?_)
        obtain ⟨⟨r31, v32⟩, h30, hF⟩ := bi_some hF
        dsimp only at hF
        refine k_i hS (kV_run M hS hP ok_X6_219 (c_X6_orNone l G r27 v28 r31 v32 h30) (rc_6 M hP rfl) rfl hl.1 rfl (Nat.le_of_ble_eq_true rfl) ⟨rfl, rfl⟩ ⟨Nat.le_of_ble_eq_true rfl, Nat.le_of_ble_eq_true rfl⟩ dX6_weary_85) (fun H locs hP hS => ?_)
        exact ret_i M hS hP (Option.some.inj hF) dX6_weary_88
    · replace hF := (if_neg c14).symm.trans hF
      refine lv_aload_n hx hb dX6_weary_45 rfl (lv_at hl 0 rfl) ?_
      refine lv_iload_n hx hb dX6_weary_46 rfl (lv_at hl 1 rfl) ?_
      refine lv_iconst (v := 4) hx hb dX6_weary_47 (by decide) ?_
      obtain ⟨r35, h34, hF⟩ := bi_some hF
      refine k_i hS (kV_run M hS hP ok_X6_104 (c_X6_keeperIs l G x1 4 v r35 h34) (rc_6 M hP rfl) rfl hl.1 rfl (Nat.le_of_ble_eq_true rfl) ⟨rfl, rfl⟩ ⟨Nat.le_of_ble_eq_true rfl, Nat.le_of_ble_eq_true rfl⟩ dX6_weary_48) (fun H locs hP hS => ?_)
      refine lv_iload_n hx hb dX6_weary_51 rfl (lv_at hl 2 rfl) ?_
      refine lv_icmp_ge (tgt := 65) hx hb dX6_weary_52 (by decide) (fun c36 => ?_) (fun c36 => ?_)
      · replace hF := (if_pos c36).symm.trans hF
        refine lv_aload_n hx hb dX6_weary_65 rfl (lv_at hl 0 rfl) ?_
        refine lv_aload_n hx hb dX6_weary_66 rfl (lv_at hl 0 rfl) ?_
        refine lv_aload_n hx hb dX6_weary_67 rfl (lv_at hl 0 rfl) ?_
        refine lv_iload_n hx hb dX6_weary_68 rfl (lv_at hl 1 rfl) ?_
        refine lv_iconst (v := 4) hx hb dX6_weary_69 (by decide) ?_
        obtain ⟨r38, h37, hF⟩ := bi_some hF
        refine k_i hS (kV_run M hS hP ok_X6_104 (c_X6_keeperIs l G x1 4 v r38 h37) (rc_6 M hP rfl) rfl hl.1 rfl (Nat.le_of_ble_eq_true rfl) ⟨rfl, rfl⟩ ⟨Nat.le_of_ble_eq_true rfl, Nat.le_of_ble_eq_true rfl⟩ dX6_weary_70) (fun H locs hP hS => ?_)
        refine lv_iload_n hx hb dX6_weary_73 rfl (lv_at hl 2 rfl) ?_
        refine lv_icmp_ge (tgt := 81) hx hb dX6_weary_74 (by decide) (fun c39 => ?_) (fun c39 => ?_)
        · replace hF := (if_pos c39).symm.trans hF
          refine lv_iload_n hx hb dX6_weary_81 rfl (lv_at hl 3 rfl) ?_
          obtain ⟨⟨r41, v42⟩, h40, hF⟩ := bi_some hF
          dsimp only at hF
          refine k_i hS (kV_run M hS hP ok_X6_203 (c_X6_putBack l G x3 v r41 v42 h40) (rc_6 M hP rfl) rfl hl.1 rfl (Nat.le_of_ble_eq_true rfl) ⟨rfl, rfl⟩ ⟨Nat.le_of_ble_eq_true rfl, Nat.le_of_ble_eq_true rfl⟩ dX6_weary_82) (fun H locs hP hS => ?_)
          obtain ⟨⟨r45, v46⟩, h44, hF⟩ := bi_some hF
          dsimp only at hF
          refine k_i hS (kV_run M hS hP ok_X6_219 (c_X6_orNone l G r41 v42 r45 v46 h44) (rc_6 M hP rfl) rfl hl.1 rfl (Nat.le_of_ble_eq_true rfl) ⟨rfl, rfl⟩ ⟨Nat.le_of_ble_eq_true rfl, Nat.le_of_ble_eq_true rfl⟩ dX6_weary_85) (fun H locs hP hS => ?_)
          exact ret_i M hS hP (Option.some.inj hF) dX6_weary_88
        · replace hF := (if_neg c39).symm.trans hF
          refine lv_iconst (v := (-1)) hx hb dX6_weary_77 (by decide) ?_
          refine lv_goto (tgt := 82) hx hb dX6_weary_78 (by decide) ?_
          obtain ⟨⟨r49, v50⟩, h48, hF⟩ := bi_some hF
          dsimp only at hF
          refine k_i hS (kV_run M hS hP ok_X6_203 (c_X6_putBack l G (-1) v r49 v50 h48) (rc_6 M hP rfl) rfl hl.1 rfl (Nat.le_of_ble_eq_true rfl) ⟨rfl, rfl⟩ ⟨Nat.le_of_ble_eq_true rfl, Nat.le_of_ble_eq_true rfl⟩ dX6_weary_82) (fun H locs hP hS => ?_)
          obtain ⟨⟨r53, v54⟩, h52, hF⟩ := bi_some hF
          dsimp only at hF
          refine k_i hS (kV_run M hS hP ok_X6_219 (c_X6_orNone l G r49 v50 r53 v54 h52) (rc_6 M hP rfl) rfl hl.1 rfl (Nat.le_of_ble_eq_true rfl) ⟨rfl, rfl⟩ ⟨Nat.le_of_ble_eq_true rfl, Nat.le_of_ble_eq_true rfl⟩ dX6_weary_85) (fun H locs hP hS => ?_)
          exact ret_i M hS hP (Option.some.inj hF) dX6_weary_88
      · replace hF := (if_neg c36).symm.trans hF
        refine lv_aload_n hx hb dX6_weary_55 rfl (lv_at hl 0 rfl) ?_
        obtain ⟨v58, h56, hF⟩ := bi_some hF
        refine k_v hS (kV_run M hS hP ok_X6_177 (c_X6_day l G v v58 h56) (rc_6 M hP rfl) rfl hl.1 rfl (Nat.le_of_ble_eq_true rfl) ⟨rfl, rfl⟩ ⟨Nat.le_of_ble_eq_true rfl, Nat.le_of_ble_eq_true rfl⟩ dX6_weary_56) (fun H locs hP hS => ?_)
        refine lv_iinc (v := (x3 + 1)) (lv' := [(3, .int (x3 + 1)), (0, .ref (ad G 0)), (1, .int x1), (2, .int x2)]) hx hb dX6_weary_59 hl (k := 3) rfl (iinc_eq _ (by decide)) (by decide) rfl (fun ls hl => ?_)
        refine lv_goto (tgt := 38) hx hb dX6_weary_62 (by decide) ?_
        exact ih x1 x2 (x3 + 1) _ _ _ ls hF hP hS (lv_sub hl [1, 2, 3, 0] rfl)
set_option maxHeartbeats 4000000 in
set_option maxRecDepth 100000 in
theorem c_X6_weary (l : Launch) (G : GG) (a1 : Int32) (a2 : Int32) (v : VV) (r : Int32) (v' : VV) (hF : F_X6_weary a1 a2 v = some (r, v')) : Met l yX6_weary (cdW yX6_weary cX6_weary 4 (some .int)) ({ frames := 6, cells := 0, slots := 0, locals := 136 } : Room) (PC G v [.ref (ad G 0), .int a1, .int a2]) (QI G r v') 0 0 (gA G) := by
  refine met_in RX6 (by decide) rfl (Nat.le_of_ble_eq_true rfl) ?_
  intro p e s m below meth c M hP ls hl
  have hx := M.1.1
  have hb := M.1.2.1
  have hS : va_S (gA G) s.heap s.heap [] := va_S.rf
  have hl : lv_has ls 4 [(0, .ref (ad G 0)), (1, .int a1), (2, .int a2)] := hl
  unfold F_X6_weary at hF
  refine lv_aload_n hx hb dX6_weary_0 rfl (lv_at hl 0 rfl) ?_
  refine lv_iload_n hx hb dX6_weary_1 rfl (lv_at hl 1 rfl) ?_
  obtain ⟨r2, h1, hF⟩ := bi_some hF
  refine k_i hS (kV_run M hS hP ok_X6_131 (c_X6_isKeeper l G a1 v r2 h1) (rc_6 M hP rfl) rfl hl.1 rfl (Nat.le_of_ble_eq_true rfl) ⟨rfl, rfl⟩ ⟨Nat.le_of_ble_eq_true rfl, Nat.le_of_ble_eq_true rfl⟩ dX6_weary_2) (fun H locs hP hS => ?_)
  refine lv_if_eq (tgt := 18) hx hb dX6_weary_5 (by decide) (fun c3 => ?_) (fun c3 => ?_)
  · replace hF := (if_neg (bI_f c3)).symm.trans hF
    refine lv_aload_n hx hb dX6_weary_18 rfl (lv_at hl 0 rfl) ?_
    refine lv_ldc (own := RX6) (v := (-1000001)) hx hb M.1.2.2.2.1 (M.1.2.2.2.2 (Cond.constant RX6 60 (-1000001)) w_788) dX6_weary_19 ?_
    obtain ⟨⟨r5, v6⟩, h4, hF⟩ := bi_some hF
    dsimp only at hF
    refine k_i hS (kV_run M hS hP ok_X6_66 (c_X6_finding l G (-1000001) v r5 v6 h4) (rc_6 M hP rfl) rfl hl.1 rfl (Nat.le_of_ble_eq_true rfl) ⟨rfl, rfl⟩ ⟨Nat.le_of_ble_eq_true rfl, Nat.le_of_ble_eq_true rfl⟩ dX6_weary_21) (fun H locs hP hS => ?_)
    exact ret_i M hS hP (Option.some.inj hF) dX6_weary_24
  · replace hF := (if_pos (bI_t c3)).symm.trans hF
    refine lv_iload_n hx hb dX6_weary_8 rfl (lv_at hl 2 rfl) ?_
    refine lv_iconst (v := 0) hx hb dX6_weary_9 (by decide) ?_
    refine lv_bipush (v := 99) hx hb dX6_weary_10 (by decide) ?_
    obtain ⟨r9, h8, hF⟩ := bi_some hF
    refine k_i hS (kS_run M hS hP ok_X6_70 (c_X6_within l G a2 0 99 v r9 h8) rfl hl.1 rfl (Nat.le_of_ble_eq_true rfl) ⟨rfl, rfl⟩ ⟨Nat.le_of_ble_eq_true rfl, Nat.le_of_ble_eq_true rfl⟩ dX6_weary_12) (fun H locs hP hS => ?_)
    refine lv_if_ne (tgt := 25) hx hb dX6_weary_15 (by decide) (fun c10 => ?_) (fun c10 => ?_)
    · replace hF := (if_pos (bI_t c10)).symm.trans hF
      refine lv_aload_n hx hb dX6_weary_25 rfl (lv_at hl 0 rfl) ?_
      refine fg_6_9 M hP dX6_weary_26 ?_
      refine lv_aload_n hx hb dX6_weary_29 rfl (lv_at hl 0 rfl) ?_
      refine fg_6_16 M hP dX6_weary_30 ?_
      obtain ⟨v13, h11, hF⟩ := bi_some hF
      refine k_v hS (kS_run M hS hP ok_X6_61 (c_X6_copyRow l G 1 rfl 3 rfl v v13 h11) rfl hl.1 rfl (Nat.le_of_ble_eq_true rfl) ⟨rfl, rfl⟩ ⟨Nat.le_of_ble_eq_true rfl, Nat.le_of_ble_eq_true rfl⟩ dX6_weary_33) (fun H locs hP hS => ?_)
      refine lv_iconst (v := 0) hx hb dX6_weary_36 (by decide) ?_
      refine lv_istore_n (lv' := [(3, .int 0), (0, .ref (ad G 0)), (1, .int a1), (2, .int a2)]) hx hb dX6_weary_37 rfl hl (by decide) rfl (fun ls hl => ?_)
      exact l_X6_weary_38 M _ _ fu a1 a2 0 _ _ _ ls hF hP hS (lv_sub hl [1, 2, 3, 0] rfl)
    · replace hF := (if_neg (bI_f c10)).symm.trans hF
      refine lv_aload_n hx hb dX6_weary_18 rfl (lv_at hl 0 rfl) ?_
      refine lv_ldc (own := RX6) (v := (-1000001)) hx hb M.1.2.2.2.1 (M.1.2.2.2.2 (Cond.constant RX6 60 (-1000001)) w_788) dX6_weary_19 ?_
      obtain ⟨⟨r60, v61⟩, h59, hF⟩ := bi_some hF
      dsimp only at hF
      refine k_i hS (kV_run M hS hP ok_X6_66 (c_X6_finding l G (-1000001) v r60 v61 h59) (rc_6 M hP rfl) rfl hl.1 rfl (Nat.le_of_ble_eq_true rfl) ⟨rfl, rfl⟩ ⟨Nat.le_of_ble_eq_true rfl, Nat.le_of_ble_eq_true rfl⟩ dX6_weary_21) (fun H locs hP hS => ?_)
      exact ret_i M hS hP (Option.some.inj hF) dX6_weary_24
def F_X6_isThought (a0 : Int32) (v : VV) : Option Bool :=
  Option.bind (F_X6_within a0 0 60 v) (fun r2 => some r2)
set_option maxHeartbeats 4000000 in
set_option maxRecDepth 100000 in
theorem c_X6_isThought (l : Launch) (G : GG) (a0 : Int32) (v : VV) (r : Bool) (hF : F_X6_isThought a0 v = some r) : Met l yX6_isThought (cdW yX6_isThought cX6_isThought 1 (some .boolean)) ({ frames := 1, cells := 0, slots := 0, locals := 22 } : Room) (PC G v [.int a0]) (QI G (bI r) v) 0 0 (gA G) := by
  refine met_in RX6 (by decide) rfl (Nat.le_of_ble_eq_true rfl) ?_
  intro p e s m below meth c M hP ls hl
  have hx := M.1.1
  have hb := M.1.2.1
  have hS : va_S (gA G) s.heap s.heap [] := va_S.rf
  have hl : lv_has ls 1 [(0, .int a0)] := hl
  unfold F_X6_isThought at hF
  refine lv_iload_n hx hb dX6_isThought_0 rfl (lv_at hl 0 rfl) ?_
  refine lv_iconst (v := 0) hx hb dX6_isThought_1 (by decide) ?_
  refine lv_bipush (v := 60) hx hb dX6_isThought_2 (by decide) ?_
  obtain ⟨r2, h1, hF⟩ := bi_some hF
  refine k_i hS (kS_run M hS hP ok_X6_70 (c_X6_within l G a0 0 60 v r2 h1) rfl hl.1 rfl (Nat.le_of_ble_eq_true rfl) ⟨rfl, rfl⟩ ⟨Nat.le_of_ble_eq_true rfl, Nat.le_of_ble_eq_true rfl⟩ dX6_isThought_4) (fun H locs hP hS => ?_)
  exact ret_z M hS hP (congrArg (fun z : Bool => (bI z, v)) (Option.some.inj hF)) (bI_nar r2) dX6_isThought_7
def L_X6_seatFor_45 : Nat → Int32 → Int32 → Int32 → Int32 → Int32 → Int32 → Int32 → VV → Option (Int32 × VV)
  | 0, _, _, _, _, _, _, _, _ => none
  | n + 1, x1, x2, x3, x4, x5, x6, x7, v =>
  if 16 ≤ x7 then (gu (gI x3 92) (some (x5, pu v 1 ((x3).toNatClampNeg) x4))) else (gu (gI x3 92) (Option.bind (F_X6_childAt x1 2 (pu v 1 ((x3).toNatClampNeg) x7)) (fun r18 => Option.bind (F_X6_behind r18 x2 (pu v 1 ((x3).toNatClampNeg) x7)) (fun (r20, v21) => Option.bind (F_X6_bits r20 v21) (fun r24 => (if r24 ≤ x6 then (L_X6_seatFor_45 n x1 x2 x3 x4 x5 x6 (x7 + 1) v21) else (L_X6_seatFor_45 n x1 x2 x3 x4 x7 r24 (x7 + 1) v21)))))))
def F_X6_seatFor (a1 : Int32) (a2 : Int32) (v : VV) : Option (Int32 × VV) :=
  Option.bind (F_X6_isChild a1 v) (fun r2 => (if r2 = true then (Option.bind (F_X6_isThought a2 v) (fun r9 => (if r9 = true then (Option.bind (F_X6_childAt a1 0 v) (fun r12 => gu (gI r12 92) (L_X6_seatFor_45 fu a1 a2 r12 (v 1 ((r12).toNatClampNeg)) 0 (-1) 0 v))) else (Option.bind (F_X6_finding (-1000001) v) (fun (r27, v28) => some (r27, v28)))))) else (Option.bind (F_X6_finding (-1000001) v) (fun (r5, v6) => some (r5, v6)))))
set_option maxHeartbeats 4000000 in
set_option maxRecDepth 100000 in
theorem l_X6_seatFor_45 {p : Program} {l : Launch} {e : Env} {s : State} {m : MethodId} {args : Array Value} {below : List Frame} {meth : Method} {c : Code} {G : GG} (M : Mx G RX6 cX6_seatFor 9 (some .int) p s m args meth c) (r : Int32) (v' : VV) : ∀ (n : Nat) (x1 : Int32) (x2 : Int32) (x3 : Int32) (x4 : Int32) (x5 : Int32) (x6 : Int32) (x7 : Int32) (v : VV) (H : Heap) (locs : List Loc) (ls : Array Slot), L_X6_seatFor_45 n x1 x2 x3 x4 x5 x6 x7 v = some (r, v') → Wd G v H → va_S (gA G) s.heap H locs → lv_has ls 9 [(0, .ref (ad G 0)), (1, .int x1), (2, .int x2), (3, .int x3), (4, .int x4), (5, .int x5), (6, .int x6), (7, .int x7)] → W p l e ({ frames := 8, cells := 0, slots := 0, locals := 180 } : Room) s m args below meth c H locs 0 0 (MQ below (QI G r v') args s 0 0 (gA G)) (F0 m 45 ls []) := by
  have hx := M.1.1
  have hb := M.1.2.1
  intro n
  induction n with
  | zero =>
    intro x1 x2 x3 x4 x5 x6 x7 v H locs ls hF hP hS hl
    rw [L_X6_seatFor_45] at hF
    cases hF
  | succ n ih =>
    intro x1 x2 x3 x4 x5 x6 x7 v H locs ls hF hP hS hl
    rw [L_X6_seatFor_45] at hF
    refine lv_iload hx hb dX6_seatFor_45 (lv_at hl 7 rfl) ?_
    refine lv_bipush (v := 16) hx hb dX6_seatFor_47 (by decide) ?_
    refine lv_icmp_ge (tgt := 96) hx hb dX6_seatFor_49 (by decide) (fun c14 => ?_) (fun c14 => ?_)
    · replace hF := (if_pos c14).symm.trans hF
      refine lv_aload_n hx hb dX6_seatFor_96 rfl (lv_at hl 0 rfl) ?_
      refine fg_6_9 M hP dX6_seatFor_97 ?_
      refine lv_iload_n hx hb dX6_seatFor_100 rfl (lv_at hl 3 rfl) ?_
      refine lv_iload hx hb dX6_seatFor_101 (lv_at hl 4 rfl) ?_
      obtain ⟨g15, hF⟩ := gu_some hF
      refine r_iast (k := (x3).toNatClampNeg) M hS hP rfl rfl (in_c g15) rfl dX6_seatFor_103 (fun H locs hP hS => ?_)
      have hP : Wd G (pu v 1 ((x3).toNatClampNeg) x4) H := hP
      refine lv_iload hx hb dX6_seatFor_104 (lv_at hl 5 rfl) ?_
      exact ret_i M hS hP (Option.some.inj hF) dX6_seatFor_106
    · replace hF := (if_neg c14).symm.trans hF
      refine lv_aload_n hx hb dX6_seatFor_52 rfl (lv_at hl 0 rfl) ?_
      refine fg_6_9 M hP dX6_seatFor_53 ?_
      refine lv_iload_n hx hb dX6_seatFor_56 rfl (lv_at hl 3 rfl) ?_
      refine lv_iload hx hb dX6_seatFor_57 (lv_at hl 7 rfl) ?_
      obtain ⟨g16, hF⟩ := gu_some hF
      refine r_iast (k := (x3).toNatClampNeg) M hS hP rfl rfl (in_c g16) rfl dX6_seatFor_59 (fun H locs hP hS => ?_)
      have hP : Wd G (pu v 1 ((x3).toNatClampNeg) x7) H := hP
      refine lv_aload_n hx hb dX6_seatFor_60 rfl (lv_at hl 0 rfl) ?_
      refine lv_iload_n hx hb dX6_seatFor_61 rfl (lv_at hl 1 rfl) ?_
      refine lv_iconst (v := 2) hx hb dX6_seatFor_62 (by decide) ?_
      obtain ⟨r18, h17, hF⟩ := bi_some hF
      refine k_i hS (kS_run M hS hP ok_X6_88 (c_X6_childAt l G x1 2 (pu v 1 ((x3).toNatClampNeg) x7) r18 h17) rfl hl.1 rfl (Nat.le_of_ble_eq_true rfl) ⟨rfl, rfl⟩ ⟨Nat.le_of_ble_eq_true rfl, Nat.le_of_ble_eq_true rfl⟩ dX6_seatFor_63) (fun H locs hP hS => ?_)
      refine lv_iload_n hx hb dX6_seatFor_66 rfl (lv_at hl 2 rfl) ?_
      obtain ⟨⟨r20, v21⟩, h19, hF⟩ := bi_some hF
      dsimp only at hF
      refine k_i hS (kV_run M hS hP ok_X6_206 (c_X6_behind l G r18 x2 (pu v 1 ((x3).toNatClampNeg) x7) r20 v21 h19) (rc_6 M hP rfl) rfl hl.1 rfl (Nat.le_of_ble_eq_true rfl) ⟨rfl, rfl⟩ ⟨Nat.le_of_ble_eq_true rfl, Nat.le_of_ble_eq_true rfl⟩ dX6_seatFor_67) (fun H locs hP hS => ?_)
      obtain ⟨r24, h23, hF⟩ := bi_some hF
      refine k_i hS (kS_run M hS hP ok_X6_180 (c_X6_bits l G r20 v21 r24 h23) rfl hl.1 rfl (Nat.le_of_ble_eq_true rfl) ⟨rfl, rfl⟩ ⟨Nat.le_of_ble_eq_true rfl, Nat.le_of_ble_eq_true rfl⟩ dX6_seatFor_70) (fun H locs hP hS => ?_)
      refine lv_istore (lv' := [(8, .int r24), (0, .ref (ad G 0)), (1, .int x1), (2, .int x2), (3, .int x3), (4, .int x4), (5, .int x5), (6, .int x6), (7, .int x7)]) hx hb dX6_seatFor_73 hl (by decide) rfl (fun ls hl => ?_)
      refine lv_iload hx hb dX6_seatFor_75 (lv_at hl 0 rfl) ?_
      refine lv_iload hx hb dX6_seatFor_77 (lv_at hl 7 rfl) ?_
      refine lv_icmp_le (tgt := 90) hx hb dX6_seatFor_79 (by decide) (fun c25 => ?_) (fun c25 => ?_)
      · replace hF := (if_pos c25).symm.trans hF
        refine lv_iinc (v := (x7 + 1)) (lv' := [(7, .int (x7 + 1)), (8, .int r24), (0, .ref (ad G 0)), (1, .int x1), (2, .int x2), (3, .int x3), (4, .int x4), (5, .int x5), (6, .int x6)]) hx hb dX6_seatFor_90 hl (k := 8) rfl (iinc_eq _ (by decide)) (by decide) rfl (fun ls hl => ?_)
        refine lv_goto (tgt := 45) hx hb dX6_seatFor_93 (by decide) ?_
        exact ih x1 x2 x3 x4 x5 x6 (x7 + 1) _ _ _ ls hF hP hS (lv_sub hl [2, 3, 4, 5, 6, 7, 8, 0] rfl)
      · replace hF := (if_neg c25).symm.trans hF
        refine lv_iload hx hb dX6_seatFor_82 (lv_at hl 8 rfl) ?_
        refine lv_istore (lv' := [(5, .int x7), (8, .int r24), (0, .ref (ad G 0)), (1, .int x1), (2, .int x2), (3, .int x3), (4, .int x4), (6, .int x6), (7, .int x7)]) hx hb dX6_seatFor_84 hl (by decide) rfl (fun ls hl => ?_)
        refine lv_iload hx hb dX6_seatFor_86 (lv_at hl 1 rfl) ?_
        refine lv_istore (lv' := [(6, .int r24), (5, .int x7), (8, .int r24), (0, .ref (ad G 0)), (1, .int x1), (2, .int x2), (3, .int x3), (4, .int x4), (7, .int x7)]) hx hb dX6_seatFor_88 hl (by decide) rfl (fun ls hl => ?_)
        refine lv_iinc (v := (x7 + 1)) (lv' := [(7, .int (x7 + 1)), (6, .int r24), (5, .int x7), (8, .int r24), (0, .ref (ad G 0)), (1, .int x1), (2, .int x2), (3, .int x3), (4, .int x4)]) hx hb dX6_seatFor_90 hl (k := 8) rfl (iinc_eq _ (by decide)) (by decide) rfl (fun ls hl => ?_)
        refine lv_goto (tgt := 45) hx hb dX6_seatFor_93 (by decide) ?_
        exact ih x1 x2 x3 x4 x7 r24 (x7 + 1) _ _ _ ls hF hP hS (lv_sub hl [4, 5, 6, 7, 8, 2, 1, 0] rfl)
set_option maxHeartbeats 4000000 in
set_option maxRecDepth 100000 in
theorem c_X6_seatFor (l : Launch) (G : GG) (a1 : Int32) (a2 : Int32) (v : VV) (r : Int32) (v' : VV) (hF : F_X6_seatFor a1 a2 v = some (r, v')) : Met l yX6_seatFor (cdW yX6_seatFor cX6_seatFor 9 (some .int)) ({ frames := 8, cells := 0, slots := 0, locals := 180 } : Room) (PC G v [.ref (ad G 0), .int a1, .int a2]) (QI G r v') 0 0 (gA G) := by
  refine met_in RX6 (by decide) rfl (Nat.le_of_ble_eq_true rfl) ?_
  intro p e s m below meth c M hP ls hl
  have hx := M.1.1
  have hb := M.1.2.1
  have hS : va_S (gA G) s.heap s.heap [] := va_S.rf
  have hl : lv_has ls 9 [(0, .ref (ad G 0)), (1, .int a1), (2, .int a2)] := hl
  unfold F_X6_seatFor at hF
  refine lv_aload_n hx hb dX6_seatFor_0 rfl (lv_at hl 0 rfl) ?_
  refine lv_iload_n hx hb dX6_seatFor_1 rfl (lv_at hl 1 rfl) ?_
  obtain ⟨r2, h1, hF⟩ := bi_some hF
  refine k_i hS (kV_run M hS hP ok_X6_144 (c_X6_isChild l G a1 v r2 h1) (rc_6 M hP rfl) rfl hl.1 rfl (Nat.le_of_ble_eq_true rfl) ⟨rfl, rfl⟩ ⟨Nat.le_of_ble_eq_true rfl, Nat.le_of_ble_eq_true rfl⟩ dX6_seatFor_2) (fun H locs hP hS => ?_)
  refine lv_if_eq (tgt := 15) hx hb dX6_seatFor_5 (by decide) (fun c3 => ?_) (fun c3 => ?_)
  · replace hF := (if_neg (bI_f c3)).symm.trans hF
    refine lv_aload_n hx hb dX6_seatFor_15 rfl (lv_at hl 0 rfl) ?_
    refine lv_ldc (own := RX6) (v := (-1000001)) hx hb M.1.2.2.2.1 (M.1.2.2.2.2 (Cond.constant RX6 60 (-1000001)) w_788) dX6_seatFor_16 ?_
    obtain ⟨⟨r5, v6⟩, h4, hF⟩ := bi_some hF
    dsimp only at hF
    refine k_i hS (kV_run M hS hP ok_X6_66 (c_X6_finding l G (-1000001) v r5 v6 h4) (rc_6 M hP rfl) rfl hl.1 rfl (Nat.le_of_ble_eq_true rfl) ⟨rfl, rfl⟩ ⟨Nat.le_of_ble_eq_true rfl, Nat.le_of_ble_eq_true rfl⟩ dX6_seatFor_18) (fun H locs hP hS => ?_)
    exact ret_i M hS hP (Option.some.inj hF) dX6_seatFor_21
  · replace hF := (if_pos (bI_t c3)).symm.trans hF
    refine lv_iload_n hx hb dX6_seatFor_8 rfl (lv_at hl 2 rfl) ?_
    obtain ⟨r9, h8, hF⟩ := bi_some hF
    refine k_i hS (kS_run M hS hP ok_X6_222 (c_X6_isThought l G a2 v r9 h8) rfl hl.1 rfl (Nat.le_of_ble_eq_true rfl) ⟨rfl, rfl⟩ ⟨Nat.le_of_ble_eq_true rfl, Nat.le_of_ble_eq_true rfl⟩ dX6_seatFor_9) (fun H locs hP hS => ?_)
    refine lv_if_ne (tgt := 22) hx hb dX6_seatFor_12 (by decide) (fun c10 => ?_) (fun c10 => ?_)
    · replace hF := (if_pos (bI_t c10)).symm.trans hF
      refine lv_iload_n hx hb dX6_seatFor_22 rfl (lv_at hl 1 rfl) ?_
      refine lv_iconst (v := 0) hx hb dX6_seatFor_23 (by decide) ?_
      obtain ⟨r12, h11, hF⟩ := bi_some hF
      refine k_i hS (kS_run M hS hP ok_X6_88 (c_X6_childAt l G a1 0 v r12 h11) rfl hl.1 rfl (Nat.le_of_ble_eq_true rfl) ⟨rfl, rfl⟩ ⟨Nat.le_of_ble_eq_true rfl, Nat.le_of_ble_eq_true rfl⟩ dX6_seatFor_24) (fun H locs hP hS => ?_)
      refine lv_istore_n (lv' := [(3, .int r12), (0, .ref (ad G 0)), (1, .int a1), (2, .int a2)]) hx hb dX6_seatFor_27 rfl hl (by decide) rfl (fun ls hl => ?_)
      refine lv_aload_n hx hb dX6_seatFor_28 rfl (lv_at hl 1 rfl) ?_
      refine fg_6_9 M hP dX6_seatFor_29 ?_
      refine lv_iload_n hx hb dX6_seatFor_32 rfl (lv_at hl 0 rfl) ?_
      obtain ⟨g13, hF⟩ := gu_some hF
      refine r_iald (k := (r12).toNatClampNeg) M hP rfl rfl (in_c g13) rfl dX6_seatFor_33 ?_
      refine lv_istore (lv' := [(4, .int (v 1 ((r12).toNatClampNeg))), (3, .int r12), (0, .ref (ad G 0)), (1, .int a1), (2, .int a2)]) hx hb dX6_seatFor_34 hl (by decide) rfl (fun ls hl => ?_)
      refine lv_iconst (v := 0) hx hb dX6_seatFor_36 (by decide) ?_
      refine lv_istore (lv' := [(5, .int 0), (4, .int (v 1 ((r12).toNatClampNeg))), (3, .int r12), (0, .ref (ad G 0)), (1, .int a1), (2, .int a2)]) hx hb dX6_seatFor_37 hl (by decide) rfl (fun ls hl => ?_)
      refine lv_iconst (v := (-1)) hx hb dX6_seatFor_39 (by decide) ?_
      refine lv_istore (lv' := [(6, .int (-1)), (5, .int 0), (4, .int (v 1 ((r12).toNatClampNeg))), (3, .int r12), (0, .ref (ad G 0)), (1, .int a1), (2, .int a2)]) hx hb dX6_seatFor_40 hl (by decide) rfl (fun ls hl => ?_)
      refine lv_iconst (v := 0) hx hb dX6_seatFor_42 (by decide) ?_
      refine lv_istore (lv' := [(7, .int 0), (6, .int (-1)), (5, .int 0), (4, .int (v 1 ((r12).toNatClampNeg))), (3, .int r12), (0, .ref (ad G 0)), (1, .int a1), (2, .int a2)]) hx hb dX6_seatFor_43 hl (by decide) rfl (fun ls hl => ?_)
      exact l_X6_seatFor_45 M _ _ fu a1 a2 r12 (v 1 ((r12).toNatClampNeg)) 0 (-1) 0 _ _ _ ls hF hP hS (lv_sub hl [5, 6, 7, 4, 3, 2, 1, 0] rfl)
    · replace hF := (if_neg (bI_f c10)).symm.trans hF
      refine lv_aload_n hx hb dX6_seatFor_15 rfl (lv_at hl 0 rfl) ?_
      refine lv_ldc (own := RX6) (v := (-1000001)) hx hb M.1.2.2.2.1 (M.1.2.2.2.2 (Cond.constant RX6 60 (-1000001)) w_788) dX6_seatFor_16 ?_
      obtain ⟨⟨r27, v28⟩, h26, hF⟩ := bi_some hF
      dsimp only at hF
      refine k_i hS (kV_run M hS hP ok_X6_66 (c_X6_finding l G (-1000001) v r27 v28 h26) (rc_6 M hP rfl) rfl hl.1 rfl (Nat.le_of_ble_eq_true rfl) ⟨rfl, rfl⟩ ⟨Nat.le_of_ble_eq_true rfl, Nat.le_of_ble_eq_true rfl⟩ dX6_seatFor_18) (fun H locs hP hS => ?_)
      exact ret_i M hS hP (Option.some.inj hF) dX6_seatFor_21
def L_X6_quickFor_52 : Nat → Int32 → Int32 → Int32 → Int32 → Int32 → Int32 → Int32 → VV → Option (Int32 × VV)
  | 0, _, _, _, _, _, _, _, _ => none
  | n + 1, x1, x2, x3, x4, x5, x6, x7, v =>
  if x7 < 0 then (gu (gI x4 92) (Option.bind (F_X6_orNone x6 (pu v 1 ((x4).toNatClampNeg) x5)) (fun (r24, v25) => some (r24, v25)))) else (gu (gI x4 92) (Option.bind (F_X6_childAt x1 2 (pu v 1 ((x4).toNatClampNeg) x7)) (fun r29 => Option.bind (F_X6_behind r29 x3 (pu v 1 ((x4).toNatClampNeg) x7)) (fun (r31, v32) => (if ((r31 >>> (x2 &&& 31)) &&& 1) = 1 then (L_X6_quickFor_52 n x1 x2 x3 x4 x5 x7 (x7 + (-1)) v32) else (L_X6_quickFor_52 n x1 x2 x3 x4 x5 x6 (x7 + (-1)) v32))))))
def F_X6_quickFor (a1 : Int32) (a2 : Int32) (a3 : Int32) (v : VV) : Option (Int32 × VV) :=
  Option.bind (F_X6_isChild a1 v) (fun r2 => (if r2 = true then (Option.bind (F_X6_isNote a2 v) (fun r9 => (if r9 = true then (Option.bind (F_X6_isThought a3 v) (fun r16 => (if r16 = true then (Option.bind (F_X6_childAt a1 1 v) (fun r19 => gu (gI r19 92) (L_X6_quickFor_52 fu a1 a2 a3 r19 (v 1 ((r19).toNatClampNeg)) (-1) 9 v))) else (Option.bind (F_X6_finding (-1000001) v) (fun (r36, v37) => some (r36, v37)))))) else (Option.bind (F_X6_finding (-1000001) v) (fun (r12, v13) => some (r12, v13)))))) else (Option.bind (F_X6_finding (-1000001) v) (fun (r5, v6) => some (r5, v6)))))
set_option maxHeartbeats 4000000 in
set_option maxRecDepth 100000 in
theorem l_X6_quickFor_52 {p : Program} {l : Launch} {e : Env} {s : State} {m : MethodId} {args : Array Value} {below : List Frame} {meth : Method} {c : Code} {G : GG} (M : Mx G RX6 cX6_quickFor 8 (some .int) p s m args meth c) (r : Int32) (v' : VV) : ∀ (n : Nat) (x1 : Int32) (x2 : Int32) (x3 : Int32) (x4 : Int32) (x5 : Int32) (x6 : Int32) (x7 : Int32) (v : VV) (H : Heap) (locs : List Loc) (ls : Array Slot), L_X6_quickFor_52 n x1 x2 x3 x4 x5 x6 x7 v = some (r, v') → Wd G v H → va_S (gA G) s.heap H locs → lv_has ls 8 [(0, .ref (ad G 0)), (1, .int x1), (2, .int x2), (3, .int x3), (4, .int x4), (5, .int x5), (6, .int x6), (7, .int x7)] → W p l e ({ frames := 8, cells := 0, slots := 0, locals := 180 } : Room) s m args below meth c H locs 0 0 (MQ below (QI G r v') args s 0 0 (gA G)) (F0 m 52 ls []) := by
  have hx := M.1.1
  have hb := M.1.2.1
  intro n
  induction n with
  | zero =>
    intro x1 x2 x3 x4 x5 x6 x7 v H locs ls hF hP hS hl
    rw [L_X6_quickFor_52] at hF
    cases hF
  | succ n ih =>
    intro x1 x2 x3 x4 x5 x6 x7 v H locs ls hF hP hS hl
    rw [L_X6_quickFor_52] at hF
    refine lv_iload hx hb dX6_quickFor_52 (lv_at hl 7 rfl) ?_
    refine lv_if_lt (tgt := 99) hx hb dX6_quickFor_54 (by decide) (fun c21 => ?_) (fun c21 => ?_)
    · replace hF := (if_pos c21).symm.trans hF
      refine lv_aload_n hx hb dX6_quickFor_99 rfl (lv_at hl 0 rfl) ?_
      refine fg_6_9 M hP dX6_quickFor_100 ?_
      refine lv_iload hx hb dX6_quickFor_103 (lv_at hl 4 rfl) ?_
      refine lv_iload hx hb dX6_quickFor_105 (lv_at hl 5 rfl) ?_
      obtain ⟨g22, hF⟩ := gu_some hF
      refine r_iast (k := (x4).toNatClampNeg) M hS hP rfl rfl (in_c g22) rfl dX6_quickFor_107 (fun H locs hP hS => ?_)
      have hP : Wd G (pu v 1 ((x4).toNatClampNeg) x5) H := hP
      refine lv_aload_n hx hb dX6_quickFor_108 rfl (lv_at hl 0 rfl) ?_
      refine lv_iload hx hb dX6_quickFor_109 (lv_at hl 6 rfl) ?_
      obtain ⟨⟨r24, v25⟩, h23, hF⟩ := bi_some hF
      dsimp only at hF
      refine k_i hS (kV_run M hS hP ok_X6_219 (c_X6_orNone l G x6 (pu v 1 ((x4).toNatClampNeg) x5) r24 v25 h23) (rc_6 M hP rfl) rfl hl.1 rfl (Nat.le_of_ble_eq_true rfl) ⟨rfl, rfl⟩ ⟨Nat.le_of_ble_eq_true rfl, Nat.le_of_ble_eq_true rfl⟩ dX6_quickFor_111) (fun H locs hP hS => ?_)
      exact ret_i M hS hP (Option.some.inj hF) dX6_quickFor_114
    · replace hF := (if_neg c21).symm.trans hF
      refine lv_aload_n hx hb dX6_quickFor_57 rfl (lv_at hl 0 rfl) ?_
      refine fg_6_9 M hP dX6_quickFor_58 ?_
      refine lv_iload hx hb dX6_quickFor_61 (lv_at hl 4 rfl) ?_
      refine lv_iload hx hb dX6_quickFor_63 (lv_at hl 7 rfl) ?_
      obtain ⟨g27, hF⟩ := gu_some hF
      refine r_iast (k := (x4).toNatClampNeg) M hS hP rfl rfl (in_c g27) rfl dX6_quickFor_65 (fun H locs hP hS => ?_)
      have hP : Wd G (pu v 1 ((x4).toNatClampNeg) x7) H := hP
      refine lv_aload_n hx hb dX6_quickFor_66 rfl (lv_at hl 0 rfl) ?_
      refine lv_iload_n hx hb dX6_quickFor_67 rfl (lv_at hl 1 rfl) ?_
      refine lv_iconst (v := 2) hx hb dX6_quickFor_68 (by decide) ?_
      obtain ⟨r29, h28, hF⟩ := bi_some hF
      refine k_i hS (kS_run M hS hP ok_X6_88 (c_X6_childAt l G x1 2 (pu v 1 ((x4).toNatClampNeg) x7) r29 h28) rfl hl.1 rfl (Nat.le_of_ble_eq_true rfl) ⟨rfl, rfl⟩ ⟨Nat.le_of_ble_eq_true rfl, Nat.le_of_ble_eq_true rfl⟩ dX6_quickFor_69) (fun H locs hP hS => ?_)
      refine lv_iload_n hx hb dX6_quickFor_72 rfl (lv_at hl 3 rfl) ?_
      obtain ⟨⟨r31, v32⟩, h30, hF⟩ := bi_some hF
      dsimp only at hF
      refine k_i hS (kV_run M hS hP ok_X6_206 (c_X6_behind l G r29 x3 (pu v 1 ((x4).toNatClampNeg) x7) r31 v32 h30) (rc_6 M hP rfl) rfl hl.1 rfl (Nat.le_of_ble_eq_true rfl) ⟨rfl, rfl⟩ ⟨Nat.le_of_ble_eq_true rfl, Nat.le_of_ble_eq_true rfl⟩ dX6_quickFor_73) (fun H locs hP hS => ?_)
      refine lv_iload_n hx hb dX6_quickFor_76 rfl (lv_at hl 2 rfl) ?_
      refine lv_ishr hx hb dX6_quickFor_77 ?_
      refine lv_iconst (v := 1) hx hb dX6_quickFor_78 (by decide) ?_
      refine lv_iand hx hb dX6_quickFor_79 ?_
      refine lv_iconst (v := 1) hx hb dX6_quickFor_80 (by decide) ?_
      refine lv_icmp_ne (tgt := 89) hx hb dX6_quickFor_81 (by decide) (fun c34 => ?_) (fun c34 => ?_)
      · replace hF := (if_neg c34).symm.trans hF
        refine lv_iload hx hb dX6_quickFor_89 (lv_at hl 6 rfl) ?_
        refine lv_istore (lv' := [(6, .int x6), (0, .ref (ad G 0)), (1, .int x1), (2, .int x2), (3, .int x3), (4, .int x4), (5, .int x5), (7, .int x7)]) hx hb dX6_quickFor_91 hl (by decide) rfl (fun ls hl => ?_)
        refine lv_iinc (v := (x7 + (-1))) (lv' := [(7, .int (x7 + (-1))), (6, .int x6), (0, .ref (ad G 0)), (1, .int x1), (2, .int x2), (3, .int x3), (4, .int x4), (5, .int x5)]) hx hb dX6_quickFor_93 hl (k := 7) rfl (iinc_eq _ (by decide)) (by decide) rfl (fun ls hl => ?_)
        refine lv_goto (tgt := 52) hx hb dX6_quickFor_96 (by decide) ?_
        exact ih x1 x2 x3 x4 x5 x6 (x7 + (-1)) _ _ _ ls hF hP hS (lv_sub hl [2, 3, 4, 5, 6, 7, 1, 0] rfl)
      · replace hF := (if_pos c34).symm.trans hF
        refine lv_iload hx hb dX6_quickFor_84 (lv_at hl 7 rfl) ?_
        refine lv_goto (tgt := 91) hx hb dX6_quickFor_86 (by decide) ?_
        refine lv_istore (lv' := [(6, .int x7), (0, .ref (ad G 0)), (1, .int x1), (2, .int x2), (3, .int x3), (4, .int x4), (5, .int x5), (7, .int x7)]) hx hb dX6_quickFor_91 hl (by decide) rfl (fun ls hl => ?_)
        refine lv_iinc (v := (x7 + (-1))) (lv' := [(7, .int (x7 + (-1))), (6, .int x7), (0, .ref (ad G 0)), (1, .int x1), (2, .int x2), (3, .int x3), (4, .int x4), (5, .int x5)]) hx hb dX6_quickFor_93 hl (k := 7) rfl (iinc_eq _ (by decide)) (by decide) rfl (fun ls hl => ?_)
        refine lv_goto (tgt := 52) hx hb dX6_quickFor_96 (by decide) ?_
        exact ih x1 x2 x3 x4 x5 x7 (x7 + (-1)) _ _ _ ls hF hP hS (lv_sub hl [2, 3, 4, 5, 6, 7, 1, 0] rfl)
set_option maxHeartbeats 4000000 in
set_option maxRecDepth 100000 in
theorem c_X6_quickFor (l : Launch) (G : GG) (a1 : Int32) (a2 : Int32) (a3 : Int32) (v : VV) (r : Int32) (v' : VV) (hF : F_X6_quickFor a1 a2 a3 v = some (r, v')) : Met l yX6_quickFor (cdW yX6_quickFor cX6_quickFor 8 (some .int)) ({ frames := 8, cells := 0, slots := 0, locals := 180 } : Room) (PC G v [.ref (ad G 0), .int a1, .int a2, .int a3]) (QI G r v') 0 0 (gA G) := by
  refine met_in RX6 (by decide) rfl (Nat.le_of_ble_eq_true rfl) ?_
  intro p e s m below meth c M hP ls hl
  have hx := M.1.1
  have hb := M.1.2.1
  have hS : va_S (gA G) s.heap s.heap [] := va_S.rf
  have hl : lv_has ls 8 [(0, .ref (ad G 0)), (1, .int a1), (2, .int a2), (3, .int a3)] := hl
  unfold F_X6_quickFor at hF
  refine lv_aload_n hx hb dX6_quickFor_0 rfl (lv_at hl 0 rfl) ?_
  refine lv_iload_n hx hb dX6_quickFor_1 rfl (lv_at hl 1 rfl) ?_
  obtain ⟨r2, h1, hF⟩ := bi_some hF
  refine k_i hS (kV_run M hS hP ok_X6_144 (c_X6_isChild l G a1 v r2 h1) (rc_6 M hP rfl) rfl hl.1 rfl (Nat.le_of_ble_eq_true rfl) ⟨rfl, rfl⟩ ⟨Nat.le_of_ble_eq_true rfl, Nat.le_of_ble_eq_true rfl⟩ dX6_quickFor_2) (fun H locs hP hS => ?_)
  refine lv_if_eq (tgt := 22) hx hb dX6_quickFor_5 (by decide) (fun c3 => ?_) (fun c3 => ?_)
  · replace hF := (if_neg (bI_f c3)).symm.trans hF
    refine lv_aload_n hx hb dX6_quickFor_22 rfl (lv_at hl 0 rfl) ?_
    refine lv_ldc (own := RX6) (v := (-1000001)) hx hb M.1.2.2.2.1 (M.1.2.2.2.2 (Cond.constant RX6 60 (-1000001)) w_788) dX6_quickFor_23 ?_
    obtain ⟨⟨r5, v6⟩, h4, hF⟩ := bi_some hF
    dsimp only at hF
    refine k_i hS (kV_run M hS hP ok_X6_66 (c_X6_finding l G (-1000001) v r5 v6 h4) (rc_6 M hP rfl) rfl hl.1 rfl (Nat.le_of_ble_eq_true rfl) ⟨rfl, rfl⟩ ⟨Nat.le_of_ble_eq_true rfl, Nat.le_of_ble_eq_true rfl⟩ dX6_quickFor_25) (fun H locs hP hS => ?_)
    exact ret_i M hS hP (Option.some.inj hF) dX6_quickFor_28
  · replace hF := (if_pos (bI_t c3)).symm.trans hF
    refine lv_iload_n hx hb dX6_quickFor_8 rfl (lv_at hl 2 rfl) ?_
    obtain ⟨r9, h8, hF⟩ := bi_some hF
    refine k_i hS (kS_run M hS hP ok_X6_137 (c_X6_isNote l G a2 v r9 h8) rfl hl.1 rfl (Nat.le_of_ble_eq_true rfl) ⟨rfl, rfl⟩ ⟨Nat.le_of_ble_eq_true rfl, Nat.le_of_ble_eq_true rfl⟩ dX6_quickFor_9) (fun H locs hP hS => ?_)
    refine lv_if_eq (tgt := 22) hx hb dX6_quickFor_12 (by decide) (fun c10 => ?_) (fun c10 => ?_)
    · replace hF := (if_neg (bI_f c10)).symm.trans hF
      refine lv_aload_n hx hb dX6_quickFor_22 rfl (lv_at hl 0 rfl) ?_
      refine lv_ldc (own := RX6) (v := (-1000001)) hx hb M.1.2.2.2.1 (M.1.2.2.2.2 (Cond.constant RX6 60 (-1000001)) w_788) dX6_quickFor_23 ?_
      obtain ⟨⟨r12, v13⟩, h11, hF⟩ := bi_some hF
      dsimp only at hF
      refine k_i hS (kV_run M hS hP ok_X6_66 (c_X6_finding l G (-1000001) v r12 v13 h11) (rc_6 M hP rfl) rfl hl.1 rfl (Nat.le_of_ble_eq_true rfl) ⟨rfl, rfl⟩ ⟨Nat.le_of_ble_eq_true rfl, Nat.le_of_ble_eq_true rfl⟩ dX6_quickFor_25) (fun H locs hP hS => ?_)
      exact ret_i M hS hP (Option.some.inj hF) dX6_quickFor_28
    · replace hF := (if_pos (bI_t c10)).symm.trans hF
      refine lv_iload_n hx hb dX6_quickFor_15 rfl (lv_at hl 3 rfl) ?_
      obtain ⟨r16, h15, hF⟩ := bi_some hF
      refine k_i hS (kS_run M hS hP ok_X6_222 (c_X6_isThought l G a3 v r16 h15) rfl hl.1 rfl (Nat.le_of_ble_eq_true rfl) ⟨rfl, rfl⟩ ⟨Nat.le_of_ble_eq_true rfl, Nat.le_of_ble_eq_true rfl⟩ dX6_quickFor_16) (fun H locs hP hS => ?_)
      refine lv_if_ne (tgt := 29) hx hb dX6_quickFor_19 (by decide) (fun c17 => ?_) (fun c17 => ?_)
      · replace hF := (if_pos (bI_t c17)).symm.trans hF
        refine lv_iload_n hx hb dX6_quickFor_29 rfl (lv_at hl 1 rfl) ?_
        refine lv_iconst (v := 1) hx hb dX6_quickFor_30 (by decide) ?_
        obtain ⟨r19, h18, hF⟩ := bi_some hF
        refine k_i hS (kS_run M hS hP ok_X6_88 (c_X6_childAt l G a1 1 v r19 h18) rfl hl.1 rfl (Nat.le_of_ble_eq_true rfl) ⟨rfl, rfl⟩ ⟨Nat.le_of_ble_eq_true rfl, Nat.le_of_ble_eq_true rfl⟩ dX6_quickFor_31) (fun H locs hP hS => ?_)
        refine lv_istore (lv' := [(4, .int r19), (0, .ref (ad G 0)), (1, .int a1), (2, .int a2), (3, .int a3)]) hx hb dX6_quickFor_34 hl (by decide) rfl (fun ls hl => ?_)
        refine lv_aload_n hx hb dX6_quickFor_36 rfl (lv_at hl 1 rfl) ?_
        refine fg_6_9 M hP dX6_quickFor_37 ?_
        refine lv_iload hx hb dX6_quickFor_40 (lv_at hl 0 rfl) ?_
        obtain ⟨g20, hF⟩ := gu_some hF
        refine r_iald (k := (r19).toNatClampNeg) M hP rfl rfl (in_c g20) rfl dX6_quickFor_42 ?_
        refine lv_istore (lv' := [(5, .int (v 1 ((r19).toNatClampNeg))), (4, .int r19), (0, .ref (ad G 0)), (1, .int a1), (2, .int a2), (3, .int a3)]) hx hb dX6_quickFor_43 hl (by decide) rfl (fun ls hl => ?_)
        refine lv_iconst (v := (-1)) hx hb dX6_quickFor_45 (by decide) ?_
        refine lv_istore (lv' := [(6, .int (-1)), (5, .int (v 1 ((r19).toNatClampNeg))), (4, .int r19), (0, .ref (ad G 0)), (1, .int a1), (2, .int a2), (3, .int a3)]) hx hb dX6_quickFor_46 hl (by decide) rfl (fun ls hl => ?_)
        refine lv_bipush (v := 9) hx hb dX6_quickFor_48 (by decide) ?_
        refine lv_istore (lv' := [(7, .int 9), (6, .int (-1)), (5, .int (v 1 ((r19).toNatClampNeg))), (4, .int r19), (0, .ref (ad G 0)), (1, .int a1), (2, .int a2), (3, .int a3)]) hx hb dX6_quickFor_50 hl (by decide) rfl (fun ls hl => ?_)
        exact l_X6_quickFor_52 M _ _ fu a1 a2 a3 r19 (v 1 ((r19).toNatClampNeg)) (-1) 9 _ _ _ ls hF hP hS (lv_sub hl [4, 5, 6, 7, 3, 2, 1, 0] rfl)
      · replace hF := (if_neg (bI_f c17)).symm.trans hF
        refine lv_aload_n hx hb dX6_quickFor_22 rfl (lv_at hl 0 rfl) ?_
        refine lv_ldc (own := RX6) (v := (-1000001)) hx hb M.1.2.2.2.1 (M.1.2.2.2.2 (Cond.constant RX6 60 (-1000001)) w_788) dX6_quickFor_23 ?_
        obtain ⟨⟨r36, v37⟩, h35, hF⟩ := bi_some hF
        dsimp only at hF
        refine k_i hS (kV_run M hS hP ok_X6_66 (c_X6_finding l G (-1000001) v r36 v37 h35) (rc_6 M hP rfl) rfl hl.1 rfl (Nat.le_of_ble_eq_true rfl) ⟨rfl, rfl⟩ ⟨Nat.le_of_ble_eq_true rfl, Nat.le_of_ble_eq_true rfl⟩ dX6_quickFor_25) (fun H locs hP hS => ?_)
        exact ret_i M hS hP (Option.some.inj hF) dX6_quickFor_28
def L_X6_kindFor_45 : Nat → Int32 → Int32 → Int32 → Int32 → Int32 → Int32 → Int32 → VV → Option (Int32 × VV)
  | 0, _, _, _, _, _, _, _, _ => none
  | n + 1, x1, x2, x3, x4, x5, x6, x7, v =>
  if 6 < x7 then (gu (gI x3 92) (some (x5, pu v 1 ((x3).toNatClampNeg) x4))) else (gu (gI x3 92) (Option.bind (F_X6_learntBehind x2 (pu v 1 ((x3).toNatClampNeg) x7)) (fun (r18, v19) => (if r18 ≤ x6 then (L_X6_kindFor_45 n x1 x2 x3 x4 x5 x6 (x7 + 1) v19) else (L_X6_kindFor_45 n x1 x2 x3 x4 x7 r18 (x7 + 1) v19)))))
def F_X6_kindFor (a1 : Int32) (a2 : Int32) (v : VV) : Option (Int32 × VV) :=
  Option.bind (F_X6_isKeeper a1 v) (fun r2 => (if r2 = true then (Option.bind (F_X6_isThought a2 v) (fun r9 => (if r9 = true then (Option.bind (F_X6_keeperAt a1 0 v) (fun r12 => gu (gI r12 92) (L_X6_kindFor_45 fu a1 a2 r12 (v 1 ((r12).toNatClampNeg)) 0 (-1) 0 v))) else (Option.bind (F_X6_finding (-1000001) v) (fun (r23, v24) => some (r23, v24)))))) else (Option.bind (F_X6_finding (-1000001) v) (fun (r5, v6) => some (r5, v6)))))
set_option maxHeartbeats 4000000 in
set_option maxRecDepth 100000 in
theorem l_X6_kindFor_45 {p : Program} {l : Launch} {e : Env} {s : State} {m : MethodId} {args : Array Value} {below : List Frame} {meth : Method} {c : Code} {G : GG} (M : Mx G RX6 cX6_kindFor 9 (some .int) p s m args meth c) (r : Int32) (v' : VV) : ∀ (n : Nat) (x1 : Int32) (x2 : Int32) (x3 : Int32) (x4 : Int32) (x5 : Int32) (x6 : Int32) (x7 : Int32) (v : VV) (H : Heap) (locs : List Loc) (ls : Array Slot), L_X6_kindFor_45 n x1 x2 x3 x4 x5 x6 x7 v = some (r, v') → Wd G v H → va_S (gA G) s.heap H locs → lv_has ls 9 [(0, .ref (ad G 0)), (1, .int x1), (2, .int x2), (3, .int x3), (4, .int x4), (5, .int x5), (6, .int x6), (7, .int x7)] → W p l e ({ frames := 8, cells := 0, slots := 0, locals := 179 } : Room) s m args below meth c H locs 0 0 (MQ below (QI G r v') args s 0 0 (gA G)) (F0 m 45 ls []) := by
  have hx := M.1.1
  have hb := M.1.2.1
  intro n
  induction n with
  | zero =>
    intro x1 x2 x3 x4 x5 x6 x7 v H locs ls hF hP hS hl
    rw [L_X6_kindFor_45] at hF
    cases hF
  | succ n ih =>
    intro x1 x2 x3 x4 x5 x6 x7 v H locs ls hF hP hS hl
    rw [L_X6_kindFor_45] at hF
    refine lv_iload hx hb dX6_kindFor_45 (lv_at hl 7 rfl) ?_
    refine lv_bipush (v := 6) hx hb dX6_kindFor_47 (by decide) ?_
    refine lv_icmp_gt (tgt := 88) hx hb dX6_kindFor_49 (by decide) (fun c14 => ?_) (fun c14 => ?_)
    · replace hF := (if_pos c14).symm.trans hF
      refine lv_aload_n hx hb dX6_kindFor_88 rfl (lv_at hl 0 rfl) ?_
      refine fg_6_9 M hP dX6_kindFor_89 ?_
      refine lv_iload_n hx hb dX6_kindFor_92 rfl (lv_at hl 3 rfl) ?_
      refine lv_iload hx hb dX6_kindFor_93 (lv_at hl 4 rfl) ?_
      obtain ⟨g15, hF⟩ := gu_some hF
      refine r_iast (k := (x3).toNatClampNeg) M hS hP rfl rfl (in_c g15) rfl dX6_kindFor_95 (fun H locs hP hS => ?_)
      have hP : Wd G (pu v 1 ((x3).toNatClampNeg) x4) H := hP
      refine lv_iload hx hb dX6_kindFor_96 (lv_at hl 5 rfl) ?_
      exact ret_i M hS hP (Option.some.inj hF) dX6_kindFor_98
    · replace hF := (if_neg c14).symm.trans hF
      refine lv_aload_n hx hb dX6_kindFor_52 rfl (lv_at hl 0 rfl) ?_
      refine fg_6_9 M hP dX6_kindFor_53 ?_
      refine lv_iload_n hx hb dX6_kindFor_56 rfl (lv_at hl 3 rfl) ?_
      refine lv_iload hx hb dX6_kindFor_57 (lv_at hl 7 rfl) ?_
      obtain ⟨g16, hF⟩ := gu_some hF
      refine r_iast (k := (x3).toNatClampNeg) M hS hP rfl rfl (in_c g16) rfl dX6_kindFor_59 (fun H locs hP hS => ?_)
      have hP : Wd G (pu v 1 ((x3).toNatClampNeg) x7) H := hP
      refine lv_aload_n hx hb dX6_kindFor_60 rfl (lv_at hl 0 rfl) ?_
      refine lv_iload_n hx hb dX6_kindFor_61 rfl (lv_at hl 2 rfl) ?_
      obtain ⟨⟨r18, v19⟩, h17, hF⟩ := bi_some hF
      dsimp only at hF
      refine k_i hS (kV_run M hS hP ok_X6_225 (c_X6_learntBehind l G x2 (pu v 1 ((x3).toNatClampNeg) x7) r18 v19 h17) (rc_6 M hP rfl) rfl hl.1 rfl (Nat.le_of_ble_eq_true rfl) ⟨rfl, rfl⟩ ⟨Nat.le_of_ble_eq_true rfl, Nat.le_of_ble_eq_true rfl⟩ dX6_kindFor_62) (fun H locs hP hS => ?_)
      refine lv_istore (lv' := [(8, .int r18), (0, .ref (ad G 0)), (1, .int x1), (2, .int x2), (3, .int x3), (4, .int x4), (5, .int x5), (6, .int x6), (7, .int x7)]) hx hb dX6_kindFor_65 hl (by decide) rfl (fun ls hl => ?_)
      refine lv_iload hx hb dX6_kindFor_67 (lv_at hl 0 rfl) ?_
      refine lv_iload hx hb dX6_kindFor_69 (lv_at hl 7 rfl) ?_
      refine lv_icmp_le (tgt := 82) hx hb dX6_kindFor_71 (by decide) (fun c21 => ?_) (fun c21 => ?_)
      · replace hF := (if_pos c21).symm.trans hF
        refine lv_iinc (v := (x7 + 1)) (lv' := [(7, .int (x7 + 1)), (8, .int r18), (0, .ref (ad G 0)), (1, .int x1), (2, .int x2), (3, .int x3), (4, .int x4), (5, .int x5), (6, .int x6)]) hx hb dX6_kindFor_82 hl (k := 8) rfl (iinc_eq _ (by decide)) (by decide) rfl (fun ls hl => ?_)
        refine lv_goto (tgt := 45) hx hb dX6_kindFor_85 (by decide) ?_
        exact ih x1 x2 x3 x4 x5 x6 (x7 + 1) _ _ _ ls hF hP hS (lv_sub hl [2, 3, 4, 5, 6, 7, 8, 0] rfl)
      · replace hF := (if_neg c21).symm.trans hF
        refine lv_iload hx hb dX6_kindFor_74 (lv_at hl 8 rfl) ?_
        refine lv_istore (lv' := [(5, .int x7), (8, .int r18), (0, .ref (ad G 0)), (1, .int x1), (2, .int x2), (3, .int x3), (4, .int x4), (6, .int x6), (7, .int x7)]) hx hb dX6_kindFor_76 hl (by decide) rfl (fun ls hl => ?_)
        refine lv_iload hx hb dX6_kindFor_78 (lv_at hl 1 rfl) ?_
        refine lv_istore (lv' := [(6, .int r18), (5, .int x7), (8, .int r18), (0, .ref (ad G 0)), (1, .int x1), (2, .int x2), (3, .int x3), (4, .int x4), (7, .int x7)]) hx hb dX6_kindFor_80 hl (by decide) rfl (fun ls hl => ?_)
        refine lv_iinc (v := (x7 + 1)) (lv' := [(7, .int (x7 + 1)), (6, .int r18), (5, .int x7), (8, .int r18), (0, .ref (ad G 0)), (1, .int x1), (2, .int x2), (3, .int x3), (4, .int x4)]) hx hb dX6_kindFor_82 hl (k := 8) rfl (iinc_eq _ (by decide)) (by decide) rfl (fun ls hl => ?_)
        refine lv_goto (tgt := 45) hx hb dX6_kindFor_85 (by decide) ?_
        exact ih x1 x2 x3 x4 x7 r18 (x7 + 1) _ _ _ ls hF hP hS (lv_sub hl [4, 5, 6, 7, 8, 2, 1, 0] rfl)
set_option maxHeartbeats 4000000 in
set_option maxRecDepth 100000 in
theorem c_X6_kindFor (l : Launch) (G : GG) (a1 : Int32) (a2 : Int32) (v : VV) (r : Int32) (v' : VV) (hF : F_X6_kindFor a1 a2 v = some (r, v')) : Met l yX6_kindFor (cdW yX6_kindFor cX6_kindFor 9 (some .int)) ({ frames := 8, cells := 0, slots := 0, locals := 179 } : Room) (PC G v [.ref (ad G 0), .int a1, .int a2]) (QI G r v') 0 0 (gA G) := by
  refine met_in RX6 (by decide) rfl (Nat.le_of_ble_eq_true rfl) ?_
  intro p e s m below meth c M hP ls hl
  have hx := M.1.1
  have hb := M.1.2.1
  have hS : va_S (gA G) s.heap s.heap [] := va_S.rf
  have hl : lv_has ls 9 [(0, .ref (ad G 0)), (1, .int a1), (2, .int a2)] := hl
  unfold F_X6_kindFor at hF
  refine lv_aload_n hx hb dX6_kindFor_0 rfl (lv_at hl 0 rfl) ?_
  refine lv_iload_n hx hb dX6_kindFor_1 rfl (lv_at hl 1 rfl) ?_
  obtain ⟨r2, h1, hF⟩ := bi_some hF
  refine k_i hS (kV_run M hS hP ok_X6_131 (c_X6_isKeeper l G a1 v r2 h1) (rc_6 M hP rfl) rfl hl.1 rfl (Nat.le_of_ble_eq_true rfl) ⟨rfl, rfl⟩ ⟨Nat.le_of_ble_eq_true rfl, Nat.le_of_ble_eq_true rfl⟩ dX6_kindFor_2) (fun H locs hP hS => ?_)
  refine lv_if_eq (tgt := 15) hx hb dX6_kindFor_5 (by decide) (fun c3 => ?_) (fun c3 => ?_)
  · replace hF := (if_neg (bI_f c3)).symm.trans hF
    refine lv_aload_n hx hb dX6_kindFor_15 rfl (lv_at hl 0 rfl) ?_
    refine lv_ldc (own := RX6) (v := (-1000001)) hx hb M.1.2.2.2.1 (M.1.2.2.2.2 (Cond.constant RX6 60 (-1000001)) w_788) dX6_kindFor_16 ?_
    obtain ⟨⟨r5, v6⟩, h4, hF⟩ := bi_some hF
    dsimp only at hF
    refine k_i hS (kV_run M hS hP ok_X6_66 (c_X6_finding l G (-1000001) v r5 v6 h4) (rc_6 M hP rfl) rfl hl.1 rfl (Nat.le_of_ble_eq_true rfl) ⟨rfl, rfl⟩ ⟨Nat.le_of_ble_eq_true rfl, Nat.le_of_ble_eq_true rfl⟩ dX6_kindFor_18) (fun H locs hP hS => ?_)
    exact ret_i M hS hP (Option.some.inj hF) dX6_kindFor_21
  · replace hF := (if_pos (bI_t c3)).symm.trans hF
    refine lv_iload_n hx hb dX6_kindFor_8 rfl (lv_at hl 2 rfl) ?_
    obtain ⟨r9, h8, hF⟩ := bi_some hF
    refine k_i hS (kS_run M hS hP ok_X6_222 (c_X6_isThought l G a2 v r9 h8) rfl hl.1 rfl (Nat.le_of_ble_eq_true rfl) ⟨rfl, rfl⟩ ⟨Nat.le_of_ble_eq_true rfl, Nat.le_of_ble_eq_true rfl⟩ dX6_kindFor_9) (fun H locs hP hS => ?_)
    refine lv_if_ne (tgt := 22) hx hb dX6_kindFor_12 (by decide) (fun c10 => ?_) (fun c10 => ?_)
    · replace hF := (if_pos (bI_t c10)).symm.trans hF
      refine lv_iload_n hx hb dX6_kindFor_22 rfl (lv_at hl 1 rfl) ?_
      refine lv_iconst (v := 0) hx hb dX6_kindFor_23 (by decide) ?_
      obtain ⟨r12, h11, hF⟩ := bi_some hF
      refine k_i hS (kS_run M hS hP ok_X6_85 (c_X6_keeperAt l G a1 0 v r12 h11) rfl hl.1 rfl (Nat.le_of_ble_eq_true rfl) ⟨rfl, rfl⟩ ⟨Nat.le_of_ble_eq_true rfl, Nat.le_of_ble_eq_true rfl⟩ dX6_kindFor_24) (fun H locs hP hS => ?_)
      refine lv_istore_n (lv' := [(3, .int r12), (0, .ref (ad G 0)), (1, .int a1), (2, .int a2)]) hx hb dX6_kindFor_27 rfl hl (by decide) rfl (fun ls hl => ?_)
      refine lv_aload_n hx hb dX6_kindFor_28 rfl (lv_at hl 1 rfl) ?_
      refine fg_6_9 M hP dX6_kindFor_29 ?_
      refine lv_iload_n hx hb dX6_kindFor_32 rfl (lv_at hl 0 rfl) ?_
      obtain ⟨g13, hF⟩ := gu_some hF
      refine r_iald (k := (r12).toNatClampNeg) M hP rfl rfl (in_c g13) rfl dX6_kindFor_33 ?_
      refine lv_istore (lv' := [(4, .int (v 1 ((r12).toNatClampNeg))), (3, .int r12), (0, .ref (ad G 0)), (1, .int a1), (2, .int a2)]) hx hb dX6_kindFor_34 hl (by decide) rfl (fun ls hl => ?_)
      refine lv_iconst (v := 0) hx hb dX6_kindFor_36 (by decide) ?_
      refine lv_istore (lv' := [(5, .int 0), (4, .int (v 1 ((r12).toNatClampNeg))), (3, .int r12), (0, .ref (ad G 0)), (1, .int a1), (2, .int a2)]) hx hb dX6_kindFor_37 hl (by decide) rfl (fun ls hl => ?_)
      refine lv_iconst (v := (-1)) hx hb dX6_kindFor_39 (by decide) ?_
      refine lv_istore (lv' := [(6, .int (-1)), (5, .int 0), (4, .int (v 1 ((r12).toNatClampNeg))), (3, .int r12), (0, .ref (ad G 0)), (1, .int a1), (2, .int a2)]) hx hb dX6_kindFor_40 hl (by decide) rfl (fun ls hl => ?_)
      refine lv_iconst (v := 0) hx hb dX6_kindFor_42 (by decide) ?_
      refine lv_istore (lv' := [(7, .int 0), (6, .int (-1)), (5, .int 0), (4, .int (v 1 ((r12).toNatClampNeg))), (3, .int r12), (0, .ref (ad G 0)), (1, .int a1), (2, .int a2)]) hx hb dX6_kindFor_43 hl (by decide) rfl (fun ls hl => ?_)
      exact l_X6_kindFor_45 M _ _ fu a1 a2 r12 (v 1 ((r12).toNatClampNeg)) 0 (-1) 0 _ _ _ ls hF hP hS (lv_sub hl [5, 6, 7, 4, 3, 2, 1, 0] rfl)
    · replace hF := (if_neg (bI_f c10)).symm.trans hF
      refine lv_aload_n hx hb dX6_kindFor_15 rfl (lv_at hl 0 rfl) ?_
      refine lv_ldc (own := RX6) (v := (-1000001)) hx hb M.1.2.2.2.1 (M.1.2.2.2.2 (Cond.constant RX6 60 (-1000001)) w_788) dX6_kindFor_16 ?_
      obtain ⟨⟨r23, v24⟩, h22, hF⟩ := bi_some hF
      dsimp only at hF
      refine k_i hS (kV_run M hS hP ok_X6_66 (c_X6_finding l G (-1000001) v r23 v24 h22) (rc_6 M hP rfl) rfl hl.1 rfl (Nat.le_of_ble_eq_true rfl) ⟨rfl, rfl⟩ ⟨Nat.le_of_ble_eq_true rfl, Nat.le_of_ble_eq_true rfl⟩ dX6_kindFor_18) (fun H locs hP hS => ?_)
      exact ret_i M hS hP (Option.some.inj hF) dX6_kindFor_21
