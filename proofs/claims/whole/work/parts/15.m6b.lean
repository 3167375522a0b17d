theorem ok_X6_91 : okS RX6 91 yX6_isKind cX6_isKind 1 (some .boolean) 1 := okS_of w_801 w_802 w_8 w_803 (by decide +kernel)
theorem ok_X6_94 : okS RX6 94 yX6_isCell cX6_isCell 1 (some .boolean) 1 := okS_of w_804 w_805 w_8 w_806 (by decide +kernel)
theorem ok_X6_98 : okV RX6 98 RX6 yX6_comes cX6_comes 5 (some .int) 2 := okV_of w_808 w_810 w_2010 w_8 w_811 (by decide +kernel)
theorem ok_X6_101 : okV RX6 101 RX6 yX6_childComes cX6_childComes 4 (some .int) 2 := okV_of w_819 w_821 w_2011 w_8 w_822 (by decide +kernel)
theorem ok_X6_104 : okV RX6 104 RX6 yX6_keeperIs cX6_keeperIs 3 (some .int) 2 := okV_of w_842 w_844 w_2015 w_8 w_845 (by decide +kernel)
theorem ok_X6_112 : okV RX6 112 RX6 yX6_gives cX6_gives 3 (some .int) 1 := okV_of w_838 w_840 w_2014 w_8 w_841 (by decide +kernel)
theorem ok_X6_115 : okV RX6 115 RX6 yX6_placeNow cX6_placeNow 1 (some .int) 0 := okV_of w_846 w_848 w_2016 w_8 w_849 (by decide +kernel)
theorem ok_X6_119 : okV RX6 119 RX6 yX6_reaches cX6_reaches 4 (some .int) 2 := okV_of w_850 w_852 w_2017 w_8 w_853 (by decide +kernel)
theorem ok_X6_122 : okV RX6 122 RX6 yX6_tempo cX6_tempo 2 (some .int) 1 := okV_of w_855 w_857 w_2018 w_8 w_858 (by decide +kernel)
theorem ok_X6_125 : okV RX6 125 RX6 yX6_tires cX6_tires 2 (some .int) 1 := okV_of w_859 w_861 w_2019 w_8 w_862 (by decide +kernel)
theorem ok_X6_128 : okV RX6 128 RX6 yX6_turns cX6_turns 3 (some .int) 1 := okV_of w_863 w_865 w_2020 w_8 w_866 (by decide +kernel)
theorem ok_X6_131 : okV RX6 131 RX6 yX6_isKeeper cX6_isKeeper 2 (some .boolean) 1 := okV_of w_830 w_832 w_2012 w_8 w_833 (by decide +kernel)
theorem ok_X6_134 : okV RX6 134 RX6 yX6_told cX6_told 3 (some .int) 2 := okV_of w_834 w_836 w_2013 w_8 w_837 (by decide +kernel)
theorem ok_X6_137 : okS RX6 137 yX6_isNote cX6_isNote 1 (some .boolean) 1 := okS_of w_874 w_875 w_8 w_876 (by decide +kernel)
theorem ok_X6_140 : okS RX6 140 yX6_isField cX6_isField 2 (some .boolean) 2 := okS_of w_871 w_872 w_8 w_873 (by decide +kernel)
theorem ok_X6_144 : okV RX6 144 RX6 yX6_isChild cX6_isChild 2 (some .boolean) 1 := okV_of w_881 w_883 w_2021 w_8 w_884 (by decide +kernel)
theorem ok_X6_147 : okV RX6 147 RX6 yX6_childIs cX6_childIs 3 (some .int) 2 := okV_of w_885 w_887 w_2022 w_8 w_888 (by decide +kernel)
theorem ok_X6_150 : okS RX6 150 yX6_isSet cX6_isSet 1 (some .boolean) 1 := okS_of w_896 w_897 w_8 w_898 (by decide +kernel)
theorem ok_X6_153 : okS RX6 153 yX6_isChildField cX6_isChildField 2 (some .boolean) 2 := okS_of w_893 w_894 w_8 w_895 (by decide +kernel)
theorem ok_X6_159 : okV RX6 159 RX6 yX6_doesHear cX6_doesHear 5 (some .boolean) 3 := okV_of w_903 w_905 w_2023 w_8 w_906 (by decide +kernel)
theorem ok_X6_165 : okV RX6 165 RX6 yX6_writes cX6_writes 6 none 3 := okV_of w_926 w_928 w_2027 w_8 w_929 (by decide +kernel)
theorem ok_X6_169 : okV RX6 169 RX6 yX6_more cX6_more 4 none 3 := okV_of w_930 w_932 w_2028 w_8 w_933 (by decide +kernel)
theorem ok_X6_172 : okV RX6 172 RX6 yX6_blows cX6_blows 5 none 2 := okV_of w_922 w_924 w_2026 w_8 w_925 (by decide +kernel)
def L_X6_comes_10 : Nat → Int32 → Int32 → Int32 → Int32 → VV → Option (Int32 × VV)
  | 0, _, _, _, _, _ => none
  | n + 1, x1, x2, x3, x4, v =>
  if 6 ≤ x4 then (Option.bind (F_X6_keeperAt x3 0 v) (fun r3 => gu (gI r3 92) (Option.bind (F_X6_keeperAt x3 1 (pu v 1 ((r3).toNatClampNeg) x1)) (fun r6 => gu (gI r6 92) (Option.bind (F_X6_keeperAt x3 3 (pu (pu v 1 ((r3).toNatClampNeg) x1) 1 ((r6).toNatClampNeg) x2)) (fun r9 => gu (gI r9 92) (some (x3, pu (pu (pu (pu v 1 ((r3).toNatClampNeg) x1) 1 ((r6).toNatClampNeg) x2) 1 ((r9).toNatClampNeg) 6) 1 1 (((pu (pu (pu v 1 ((r3).toNatClampNeg) x1) 1 ((r6).toNatClampNeg) x2) 1 ((r9).toNatClampNeg) 6) 1 1) + 1))))))))) else (Option.bind (F_X6_keeperAt x3 x4 v) (fun r12 => gu (gI r12 92) (L_X6_comes_10 n x1 x2 x3 (x4 + 1) (pu v 1 ((r12).toNatClampNeg) 0))))
def F_X6_comes (a1 : Int32) (a2 : Int32) (v : VV) : Option (Int32 × VV) :=
  L_X6_comes_10 fu a1 a2 (v 1 1) 0 v
set_option maxHeartbeats 4000000 in
set_option maxRecDepth 100000 in
theorem l_X6_comes_10 {p : Program} {l : Launch} {e : Env} {s : State} {m : MethodId} {args : Array Value} {below : List Frame} {meth : Method} {c : Code} {G : GG} (M : Mx G RX6 cX6_comes 5 (some .int) p s m args meth c) (r : Int32) (v' : VV) : ∀ (n : Nat) (x1 : Int32) (x2 : Int32) (x3 : Int32) (x4 : Int32) (v : VV) (H : Heap) (locs : List Loc) (ls : Array Slot), L_X6_comes_10 n x1 x2 x3 x4 v = some (r, v') → Wd G v H → va_S (gA G) s.heap H locs → lv_has ls 5 [(0, .ref (ad G 0)), (1, .int x1), (2, .int x2), (3, .int x3), (4, .int x4)] → W p l e ({ frames := 1, cells := 0, slots := 0, locals := 21 } : Room) s m args below meth c H locs 0 0 (MQ below (QI G r v') args s 0 0 (gA G)) (F0 m 10 ls []) := by
  have hx := M.1.1
  have hb := M.1.2.1
  intro n
  induction n with
  | zero =>
    intro x1 x2 x3 x4 v H locs ls hF hP hS hl
    rw [L_X6_comes_10] at hF
    cases hF
  | succ n ih =>
    intro x1 x2 x3 x4 v H locs ls hF hP hS hl
    rw [L_X6_comes_10] at hF
    refine lv_iload hx hb dX6_comes_10 (lv_at hl 4 rfl) ?_
    refine lv_bipush (v := 6) hx hb dX6_comes_12 (by decide) ?_
    refine lv_icmp_ge (tgt := 35) hx hb dX6_comes_14 (by decide) (fun c1 => ?_) (fun c1 => ?_)
    · replace hF := (if_pos c1).symm.trans hF
      refine lv_aload_n hx hb dX6_comes_35 rfl (lv_at hl 0 rfl) ?_
      refine fg_6_9 M hP dX6_comes_36 ?_
      refine lv_iload_n hx hb dX6_comes_39 rfl (lv_at hl 3 rfl) ?_
      refine lv_iconst (v := 0) hx hb dX6_comes_40 (by decide) ?_
      obtain ⟨r3, h2, hF⟩ := bi_some hF
      refine k_i hS (kS_run M hS hP ok_X6_85 (c_X6_keeperAt l G x3 0 v r3 h2) rfl hl.1 rfl (Nat.le_of_ble_eq_true rfl) ⟨rfl, rfl⟩ ⟨Nat.le_of_ble_eq_true rfl, Nat.le_of_ble_eq_true rfl⟩ dX6_comes_41) (fun H locs hP hS => ?_)
      refine lv_iload_n hx hb dX6_comes_44 rfl (lv_at hl 1 rfl) ?_
      obtain ⟨g4, hF⟩ := gu_some hF
      refine r_iast (k := (r3).toNatClampNeg) M hS hP rfl rfl (in_c g4) rfl dX6_comes_45 (fun H locs hP hS => ?_)
      have hP : Wd G (pu v 1 ((r3).toNatClampNeg) x1) H := hP
      refine lv_aload_n hx hb dX6_comes_46 rfl (lv_at hl 0 rfl) ?_
      refine fg_6_9 M hP dX6_comes_47 ?_
      refine lv_iload_n hx hb dX6_comes_50 rfl (lv_at hl 3 rfl) ?_
      refine lv_iconst (v := 1) hx hb dX6_comes_51 (by decide) ?_
      obtain ⟨r6, h5, hF⟩ := bi_some hF
      refine k_i hS (kS_run M hS hP ok_X6_85 (c_X6_keeperAt l G x3 1 (pu v 1 ((r3).toNatClampNeg) x1) r6 h5) rfl hl.1 rfl (Nat.le_of_ble_eq_true rfl) ⟨rfl, rfl⟩ ⟨Nat.le_of_ble_eq_true rfl, Nat.le_of_ble_eq_true rfl⟩ dX6_comes_52) (fun H locs hP hS => ?_)
      refine lv_iload_n hx hb dX6_comes_55 rfl (lv_at hl 2 rfl) ?_
      obtain ⟨g7, hF⟩ := gu_some hF
      refine r_iast (k := (r6).toNatClampNeg) M hS hP rfl rfl (in_c g7) rfl dX6_comes_56 (fun H locs hP hS => ?_)
      have hP : Wd G (pu (pu v 1 ((r3).toNatClampNeg) x1) 1 ((r6).toNatClampNeg) x2) H := hP
      refine lv_aload_n hx hb dX6_comes_57 rfl (lv_at hl 0 rfl) ?_
      refine fg_6_9 M hP dX6_comes_58 ?_
      refine lv_iload_n hx hb dX6_comes_61 rfl (lv_at hl 3 rfl) ?_
      refine lv_iconst (v := 3) hx hb dX6_comes_62 (by decide) ?_
      obtain ⟨r9, h8, hF⟩ := bi_some hF
      refine k_i hS (kS_run M hS hP ok_X6_85 (c_X6_keeperAt l G x3 3 (pu (pu v 1 ((r3).toNatClampNeg) x1) 1 ((r6).toNatClampNeg) x2) r9 h8) rfl hl.1 rfl (Nat.le_of_ble_eq_true rfl) ⟨rfl, rfl⟩ ⟨Nat.le_of_ble_eq_true rfl, Nat.le_of_ble_eq_true rfl⟩ dX6_comes_63) (fun H locs hP hS => ?_)
      refine lv_bipush (v := 6) hx hb dX6_comes_66 (by decide) ?_
      obtain ⟨g10, hF⟩ := gu_some hF
      refine r_iast (k := (r9).toNatClampNeg) M hS hP rfl rfl (in_c g10) rfl dX6_comes_68 (fun H locs hP hS => ?_)
      have hP : Wd G (pu (pu (pu v 1 ((r3).toNatClampNeg) x1) 1 ((r6).toNatClampNeg) x2) 1 ((r9).toNatClampNeg) 6) H := hP
      refine lv_aload_n hx hb dX6_comes_69 rfl (lv_at hl 0 rfl) ?_
      refine fg_6_9 M hP dX6_comes_70 ?_
      refine lv_iconst (v := 1) hx hb dX6_comes_73 (by decide) ?_
      refine lv_dup2_11 hx hb dX6_comes_74 rfl rfl ?_
      refine r_iald (k := 1) M hP rfl rfl (in_c rfl) rfl dX6_comes_75 ?_
      refine lv_iconst (v := 1) hx hb dX6_comes_76 (by decide) ?_
      refine lv_iadd hx hb dX6_comes_77 ?_
      refine r_iast (k := 1) M hS hP rfl rfl (in_c rfl) rfl dX6_comes_78 (fun H locs hP hS => ?_)
      have hP : Wd G (pu (pu (pu (pu v 1 ((r3).toNatClampNeg) x1) 1 ((r6).toNatClampNeg) x2) 1 ((r9).toNatClampNeg) 6) 1 1 (((pu (pu (pu v 1 ((r3).toNatClampNeg) x1) 1 ((r6).toNatClampNeg) x2) 1 ((r9).toNatClampNeg) 6) 1 1) + 1)) H := hP
      refine lv_iload_n hx hb dX6_comes_79 rfl (lv_at hl 3 rfl) ?_
      exact ret_i M hS hP (Option.some.inj hF) dX6_comes_80
    · replace hF := (if_neg c1).symm.trans hF
      refine lv_aload_n hx hb dX6_comes_17 rfl (lv_at hl 0 rfl) ?_
      refine fg_6_9 M hP dX6_comes_18 ?_
      refine lv_iload_n hx hb dX6_comes_21 rfl (lv_at hl 3 rfl) ?_
      refine lv_iload hx hb dX6_comes_22 (lv_at hl 4 rfl) ?_
      obtain ⟨r12, h11, hF⟩ := bi_some hF
      refine k_i hS (kS_run M hS hP ok_X6_85 (c_X6_keeperAt l G x3 x4 v r12 h11) rfl hl.1 rfl (Nat.le_of_ble_eq_true rfl) ⟨rfl, rfl⟩ ⟨Nat.le_of_ble_eq_true rfl, Nat.le_of_ble_eq_true rfl⟩ dX6_comes_24) (fun H locs hP hS => ?_)
      refine lv_iconst (v := 0) hx hb dX6_comes_27 (by decide) ?_
      obtain ⟨g13, hF⟩ := gu_some hF
      refine r_iast (k := (r12).toNatClampNeg) M hS hP rfl rfl (in_c g13) rfl dX6_comes_28 (fun H locs hP hS => ?_)
      have hP : Wd G (pu v 1 ((r12).toNatClampNeg) 0) H := hP
      refine lv_iinc (v := (x4 + 1)) (lv' := [(4, .int (x4 + 1)), (0, .ref (ad G 0)), (1, .int x1), (2, .int x2), (3, .int x3)]) hx hb dX6_comes_29 hl (k := 4) rfl (iinc_eq _ (by decide)) (by decide) rfl (fun ls hl => ?_)
      refine lv_goto (tgt := 10) hx hb dX6_comes_32 (by decide) ?_
      exact ih x1 x2 x3 (x4 + 1) _ _ _ ls hF hP hS (lv_sub hl [1, 2, 3, 4, 0] rfl)
set_option maxHeartbeats 4000000 in
set_option maxRecDepth 100000 in
theorem c_X6_comes (l : Launch) (G : GG) (a1 : Int32) (a2 : Int32) (v : VV) (r : Int32) (v' : VV) (hF : F_X6_comes a1 a2 v = some (r, v')) : Met l yX6_comes (cdW yX6_comes cX6_comes 5 (some .int)) ({ frames := 1, cells := 0, slots := 0, locals := 21 } : Room) (PC G v [.ref (ad G 0), .int a1, .int a2]) (QI G r v') 0 0 (gA G) := by
  refine met_in RX6 (by decide) rfl (Nat.le_of_ble_eq_true rfl) ?_
  intro p e s m below meth c M hP ls hl
  have hx := M.1.1
  have hb := M.1.2.1
  have hS : va_S (gA G) s.heap s.heap [] := va_S.rf
  have hl : lv_has ls 5 [(0, .ref (ad G 0)), (1, .int a1), (2, .int a2)] := hl
  unfold F_X6_comes at hF
  refine lv_aload_n hx hb dX6_comes_0 rfl (lv_at hl 0 rfl) ?_
  refine fg_6_9 M hP dX6_comes_1 ?_
  refine lv_iconst (v := 1) hx hb dX6_comes_4 (by decide) ?_
  refine r_iald (k := 1) M hP rfl rfl (in_c rfl) rfl dX6_comes_5 ?_
  refine lv_istore_n (lv' := [(3, .int (v 1 1)), (0, .ref (ad G 0)), (1, .int a1), (2, .int a2)]) hx hb dX6_comes_6 rfl hl (by decide) rfl (fun ls hl => ?_)
  refine lv_iconst (v := 0) hx hb dX6_comes_7 (by decide) ?_
  refine lv_istore (lv' := [(4, .int 0), (3, .int (v 1 1)), (0, .ref (ad G 0)), (1, .int a1), (2, .int a2)]) hx hb dX6_comes_8 hl (by decide) rfl (fun ls hl => ?_)
  exact l_X6_comes_10 M _ _ fu a1 a2 (v 1 1) 0 _ _ _ ls hF hP hS (lv_sub hl [2, 3, 4, 1, 0] rfl)
def F_X6_childComes (a1 : Int32) (a2 : Int32) (v : VV) : Option (Int32 × VV) :=
  Option.bind (F_X6_childAt (v 1 3) 0 v) (fun r2 => gu (gI r2 92) (Option.bind (F_X6_childAt (v 1 3) 1 (pu v 1 ((r2).toNatClampNeg) a1)) (fun r5 => gu (gI r5 92) (Option.bind (F_X6_childAt (v 1 3) 2 (pu (pu v 1 ((r2).toNatClampNeg) a1) 1 ((r5).toNatClampNeg) a2)) (fun r8 => gu (gI r8 92) (Option.bind (F_X6_childAt (v 1 3) 3 (pu (pu (pu v 1 ((r2).toNatClampNeg) a1) 1 ((r5).toNatClampNeg) a2) 1 ((r8).toNatClampNeg) 0)) (fun r11 => gu (gI r11 92) (some (v 1 3, pu (pu (pu (pu (pu v 1 ((r2).toNatClampNeg) a1) 1 ((r5).toNatClampNeg) a2) 1 ((r8).toNatClampNeg) 0) 1 ((r11).toNatClampNeg) 0) 1 3 (((pu (pu (pu (pu v 1 ((r2).toNatClampNeg) a1) 1 ((r5).toNatClampNeg) a2) 1 ((r8).toNatClampNeg) 0) 1 ((r11).toNatClampNeg) 0) 1 3) + 1))))))))))
set_option maxHeartbeats 4000000 in
set_option maxRecDepth 100000 in
theorem c_X6_childComes (l : Launch) (G : GG) (a1 : Int32) (a2 : Int32) (v : VV) (r : Int32) (v' : VV) (hF : F_X6_childComes a1 a2 v = some (r, v')) : Met l yX6_childComes (cdW yX6_childComes cX6_childComes 4 (some .int)) ({ frames := 1, cells := 0, slots := 0, locals := 21 } : Room) (PC G v [.ref (ad G 0), .int a1, .int a2]) (QI G r v') 0 0 (gA G) := by
  refine met_in RX6 (by decide) rfl (Nat.le_of_ble_eq_true rfl) ?_
  intro p e s m below meth c M hP ls hl
  have hx := M.1.1
  have hb := M.1.2.1
  have hS : va_S (gA G) s.heap s.heap [] := va_S.rf
  have hl : lv_has ls 4 [(0, .ref (ad G 0)), (1, .int a1), (2, .int a2)] := hl
  unfold F_X6_childComes at hF
  refine lv_aload_n hx hb dX6_childComes_0 rfl (lv_at hl 0 rfl) ?_
  refine fg_6_9 M hP dX6_childComes_1 ?_
  refine lv_iconst (v := 3) hx hb dX6_childComes_4 (by decide) ?_
  refine r_iald (k := 3) M hP rfl rfl (in_c rfl) rfl dX6_childComes_5 ?_
  refine lv_istore_n (lv' := [(3, .int (v 1 3)), (0, .ref (ad G 0)), (1, .int a1), (2, .int a2)]) hx hb dX6_childComes_6 rfl hl (by decide) rfl (fun ls hl => ?_)
  refine lv_aload_n hx hb dX6_childComes_7 rfl (lv_at hl 1 rfl) ?_
  refine fg_6_9 M hP dX6_childComes_8 ?_
  refine lv_iload_n hx hb dX6_childComes_11 rfl (lv_at hl 0 rfl) ?_
  refine lv_iconst (v := 0) hx hb dX6_childComes_12 (by decide) ?_
  obtain ⟨r2, h1, hF⟩ := bi_some hF
  refine k_i hS (kS_run M hS hP ok_X6_88 (c_X6_childAt l G (v 1 3) 0 v r2 h1) rfl hl.1 rfl (Nat.le_of_ble_eq_true rfl) ⟨rfl, rfl⟩ ⟨Nat.le_of_ble_eq_true rfl, Nat.le_of_ble_eq_true rfl⟩ dX6_childComes_13) (fun H locs hP hS => ?_)
  refine lv_iload_n hx hb dX6_childComes_16 rfl (lv_at hl 2 rfl) ?_
  obtain ⟨g3, hF⟩ := gu_some hF
  refine r_iast (k := (r2).toNatClampNeg) M hS hP rfl rfl (in_c g3) rfl dX6_childComes_17 (fun H locs hP hS => ?_)
  have hP : Wd G (pu v 1 ((r2).toNatClampNeg) a1) H := hP
  refine lv_aload_n hx hb dX6_childComes_18 rfl (lv_at hl 1 rfl) ?_
  refine fg_6_9 M hP dX6_childComes_19 ?_
  refine lv_iload_n hx hb dX6_childComes_22 rfl (lv_at hl 0 rfl) ?_
  refine lv_iconst (v := 1) hx hb dX6_childComes_23 (by decide) ?_
  obtain ⟨r5, h4, hF⟩ := bi_some hF
  refine k_i hS (kS_run M hS hP ok_X6_88 (c_X6_childAt l G (v 1 3) 1 (pu v 1 ((r2).toNatClampNeg) a1) r5 h4) rfl hl.1 rfl (Nat.le_of_ble_eq_true rfl) ⟨rfl, rfl⟩ ⟨Nat.le_of_ble_eq_true rfl, Nat.le_of_ble_eq_true rfl⟩ dX6_childComes_24) (fun H locs hP hS => ?_)
  refine lv_iload_n hx hb dX6_childComes_27 rfl (lv_at hl 3 rfl) ?_
  obtain ⟨g6, hF⟩ := gu_some hF
  refine r_iast (k := (r5).toNatClampNeg) M hS hP rfl rfl (in_c g6) rfl dX6_childComes_28 (fun H locs hP hS => ?_)
  have hP : Wd G (pu (pu v 1 ((r2).toNatClampNeg) a1) 1 ((r5).toNatClampNeg) a2) H := hP
  refine lv_aload_n hx hb dX6_childComes_29 rfl (lv_at hl 1 rfl) ?_
  refine fg_6_9 M hP dX6_childComes_30 ?_
  refine lv_iload_n hx hb dX6_childComes_33 rfl (lv_at hl 0 rfl) ?_
  refine lv_iconst (v := 2) hx hb dX6_childComes_34 (by decide) ?_
  obtain ⟨r8, h7, hF⟩ := bi_some hF
  refine k_i hS (kS_run M hS hP ok_X6_88 (c_X6_childAt l G (v 1 3) 2 (pu (pu v 1 ((r2).toNatClampNeg) a1) 1 ((r5).toNatClampNeg) a2) r8 h7) rfl hl.1 rfl (Nat.le_of_ble_eq_true rfl) ⟨rfl, rfl⟩ ⟨Nat.le_of_ble_eq_true rfl, Nat.le_of_ble_eq_true rfl⟩ dX6_childComes_35) (fun H locs hP hS => ?_)
  refine lv_iconst (v := 0) hx hb dX6_childComes_38 (by decide) ?_
  obtain ⟨g9, hF⟩ := gu_some hF
  refine r_iast (k := (r8).toNatClampNeg) M hS hP rfl rfl (in_c g9) rfl dX6_childComes_39 (fun H locs hP hS => ?_)
  have hP : Wd G (pu (pu (pu v 1 ((r2).toNatClampNeg) a1) 1 ((r5).toNatClampNeg) a2) 1 ((r8).toNatClampNeg) 0) H := hP
  refine lv_aload_n hx hb dX6_childComes_40 rfl (lv_at hl 1 rfl) ?_
  refine fg_6_9 M hP dX6_childComes_41 ?_
  refine lv_iload_n hx hb dX6_childComes_44 rfl (lv_at hl 0 rfl) ?_
  refine lv_iconst (v := 3) hx hb dX6_childComes_45 (by decide) ?_
  obtain ⟨r11, h10, hF⟩ := bi_some hF
  refine k_i hS (kS_run M hS hP ok_X6_88 (c_X6_childAt l G (v 1 3) 3 (pu (pu (pu v 1 ((r2).toNatClampNeg) a1) 1 ((r5).toNatClampNeg) a2) 1 ((r8).toNatClampNeg) 0) r11 h10) rfl hl.1 rfl (Nat.le_of_ble_eq_true rfl) ⟨rfl, rfl⟩ ⟨Nat.le_of_ble_eq_true rfl, Nat.le_of_ble_eq_true rfl⟩ dX6_childComes_46) (fun H locs hP hS => ?_)
  refine lv_iconst (v := 0) hx hb dX6_childComes_49 (by decide) ?_
  obtain ⟨g12, hF⟩ := gu_some hF
  refine r_iast (k := (r11).toNatClampNeg) M hS hP rfl rfl (in_c g12) rfl dX6_childComes_50 (fun H locs hP hS => ?_)
  have hP : Wd G (pu (pu (pu (pu v 1 ((r2).toNatClampNeg) a1) 1 ((r5).toNatClampNeg) a2) 1 ((r8).toNatClampNeg) 0) 1 ((r11).toNatClampNeg) 0) H := hP
  refine lv_aload_n hx hb dX6_childComes_51 rfl (lv_at hl 1 rfl) ?_
  refine fg_6_9 M hP dX6_childComes_52 ?_
  refine lv_iconst (v := 3) hx hb dX6_childComes_55 (by decide) ?_
  refine lv_dup2_11 hx hb dX6_childComes_56 rfl rfl ?_
  refine r_iald (k := 3) M hP rfl rfl (in_c rfl) rfl dX6_childComes_57 ?_
  refine lv_iconst (v := 1) hx hb dX6_childComes_58 (by decide) ?_
  refine lv_iadd hx hb dX6_childComes_59 ?_
  refine r_iast (k := 3) M hS hP rfl rfl (in_c rfl) rfl dX6_childComes_60 (fun H locs hP hS => ?_)
  have hP : Wd G (pu (pu (pu (pu (pu v 1 ((r2).toNatClampNeg) a1) 1 ((r5).toNatClampNeg) a2) 1 ((r8).toNatClampNeg) 0) 1 ((r11).toNatClampNeg) 0) 1 3 (((pu (pu (pu (pu v 1 ((r2).toNatClampNeg) a1) 1 ((r5).toNatClampNeg) a2) 1 ((r8).toNatClampNeg) 0) 1 ((r11).toNatClampNeg) 0) 1 3) + 1)) H := hP
  refine lv_iload_n hx hb dX6_childComes_61 rfl (lv_at hl 0 rfl) ?_
  exact ret_i M hS hP (Option.some.inj hF) dX6_childComes_62
def F_X6_keeper (a1 : Int32) (a2 : Int32) (v : VV) : Option (Int32 × VV) :=
  Option.bind (F_X6_isKind a1 v) (fun r2 => (if r2 = true then (Option.bind (F_X6_isCell a2 v) (fun r9 => (if r9 = true then (if (v 1 1) = 8 then (Option.bind (F_X6_finding (-1000002) v) (fun (r17, v18) => some (r17, v18))) else (Option.bind (F_X6_comes a1 a2 v) (fun (r13, v14) => some (r13, v14)))) else (Option.bind (F_X6_finding (-1000001) v) (fun (r21, v22) => some (r21, v22)))))) else (Option.bind (F_X6_finding (-1000001) v) (fun (r5, v6) => some (r5, v6)))))
set_option maxHeartbeats 4000000 in
set_option maxRecDepth 100000 in
theorem c_X6_keeper (l : Launch) (G : GG) (a1 : Int32) (a2 : Int32) (v : VV) (r : Int32) (v' : VV) (hF : F_X6_keeper a1 a2 v = some (r, v')) : Met l yX6_keeper (cdW yX6_keeper cX6_keeper 3 (some .int)) ({ frames := 2, cells := 0, slots := 0, locals := 45 } : Room) (PC G v [.ref (ad G 0), .int a1, .int a2]) (QI G r v') 0 0 (gA G) := by
  refine met_in RX6 (by decide) rfl (Nat.le_of_ble_eq_true rfl) ?_
  intro p e s m below meth c M hP ls hl
  have hx := M.1.1
  have hb := M.1.2.1
  have hS : va_S (gA G) s.heap s.heap [] := va_S.rf
  have hl : lv_has ls 3 [(0, .ref (ad G 0)), (1, .int a1), (2, .int a2)] := hl
  unfold F_X6_keeper at hF
  refine lv_iload_n hx hb dX6_keeper_0 rfl (lv_at hl 1 rfl) ?_
  obtain ⟨r2, h1, hF⟩ := bi_some hF
  refine k_i hS (kS_run M hS hP ok_X6_91 (c_X6_isKind l G a1 v r2 h1) rfl hl.1 rfl (Nat.le_of_ble_eq_true rfl) ⟨rfl, rfl⟩ ⟨Nat.le_of_ble_eq_true rfl, Nat.le_of_ble_eq_true rfl⟩ dX6_keeper_1) (fun H locs hP hS => ?_)
  refine lv_if_eq (tgt := 14) hx hb dX6_keeper_4 (by decide) (fun c3 => ?_) (fun c3 => ?_)
  · replace hF := (if_neg (bI_f c3)).symm.trans hF
    refine lv_aload_n hx hb dX6_keeper_14 rfl (lv_at hl 0 rfl) ?_
    refine lv_ldc (own := RX6) (v := (-1000001)) hx hb M.1.2.2.2.1 (M.1.2.2.2.2 (Cond.constant RX6 60 (-1000001)) w_788) dX6_keeper_15 ?_
    obtain ⟨⟨r5, v6⟩, h4, hF⟩ := bi_some hF
    dsimp only at hF
    refine k_i hS (kV_run M hS hP ok_X6_66 (c_X6_finding l G (-1000001) v r5 v6 h4) (rc_6 M hP rfl) rfl hl.1 rfl (Nat.le_of_ble_eq_true rfl) ⟨rfl, rfl⟩ ⟨Nat.le_of_ble_eq_true rfl, Nat.le_of_ble_eq_true rfl⟩ dX6_keeper_17) (fun H locs hP hS => ?_)
    exact ret_i M hS hP (Option.some.inj hF) dX6_keeper_20
  · replace hF := (if_pos (bI_t c3)).symm.trans hF
    refine lv_iload_n hx hb dX6_keeper_7 rfl (lv_at hl 2 rfl) ?_
    obtain ⟨r9, h8, hF⟩ := bi_some hF
    refine k_i hS (kS_run M hS hP ok_X6_94 (c_X6_isCell l G a2 v r9 h8) rfl hl.1 rfl (Nat.le_of_ble_eq_true rfl) ⟨rfl, rfl⟩ ⟨Nat.le_of_ble_eq_true rfl, Nat.le_of_ble_eq_true rfl⟩ dX6_keeper_8) (fun H locs hP hS => ?_)
    refine lv_if_ne (tgt := 21) hx hb dX6_keeper_11 (by decide) (fun c10 => ?_) (fun c10 => ?_)
    · replace hF := (if_pos (bI_t c10)).symm.trans hF
      refine lv_aload_n hx hb dX6_keeper_21 rfl (lv_at hl 0 rfl) ?_
      refine fg_6_9 M hP dX6_keeper_22 ?_
      refine lv_iconst (v := 1) hx hb dX6_keeper_25 (by decide) ?_
      refine r_iald (k := 1) M hP rfl rfl (in_c rfl) rfl dX6_keeper_26 ?_
      refine lv_bipush (v := 8) hx hb dX6_keeper_27 (by decide) ?_
      refine lv_icmp_ne (tgt := 41) hx hb dX6_keeper_29 (by decide) (fun c11 => ?_) (fun c11 => ?_)
      · replace hF := (if_neg c11).symm.trans hF
        refine lv_aload_n hx hb dX6_keeper_41 rfl (lv_at hl 0 rfl) ?_
        refine lv_iload_n hx hb dX6_keeper_42 rfl (lv_at hl 1 rfl) ?_
        refine lv_iload_n hx hb dX6_keeper_43 rfl (lv_at hl 2 rfl) ?_
        obtain ⟨⟨r13, v14⟩, h12, hF⟩ := bi_some hF
        dsimp only at hF
        refine k_i hS (kV_run M hS hP ok_X6_98 (c_X6_comes l G a1 a2 v r13 v14 h12) (rc_6 M hP rfl) rfl hl.1 rfl (Nat.le_of_ble_eq_true rfl) ⟨rfl, rfl⟩ ⟨Nat.le_of_ble_eq_true rfl, Nat.le_of_ble_eq_true rfl⟩ dX6_keeper_44) (fun H locs hP hS => ?_)
        exact ret_i M hS hP (Option.some.inj hF) dX6_keeper_47
      · replace hF := (if_pos c11).symm.trans hF
        refine lv_aload_n hx hb dX6_keeper_32 rfl (lv_at hl 0 rfl) ?_
        refine lv_ldc (own := RX6) (v := (-1000002)) hx hb M.1.2.2.2.1 (M.1.2.2.2.2 (Cond.constant RX6 97 (-1000002)) w_807) dX6_keeper_33 ?_
        obtain ⟨⟨r17, v18⟩, h16, hF⟩ := bi_some hF
        dsimp only at hF
        refine k_i hS (kV_run M hS hP ok_X6_66 (c_X6_finding l G (-1000002) v r17 v18 h16) (rc_6 M hP rfl) rfl hl.1 rfl (Nat.le_of_ble_eq_true rfl) ⟨rfl, rfl⟩ ⟨Nat.le_of_ble_eq_true rfl, Nat.le_of_ble_eq_true rfl⟩ dX6_keeper_35) (fun H locs hP hS => ?_)
        refine lv_goto (tgt := 47) hx hb dX6_keeper_38 (by decide) ?_
        exact ret_i M hS hP (Option.some.inj hF) dX6_keeper_47
    · replace hF := (if_neg (bI_f c10)).symm.trans hF
      refine lv_aload_n hx hb dX6_keeper_14 rfl (lv_at hl 0 rfl) ?_
      refine lv_ldc (own := RX6) (v := (-1000001)) hx hb M.1.2.2.2.1 (M.1.2.2.2.2 (Cond.constant RX6 60 (-1000001)) w_788) dX6_keeper_15 ?_
      obtain ⟨⟨r21, v22⟩, h20, hF⟩ := bi_some hF
      dsimp only at hF
      refine k_i hS (kV_run M hS hP ok_X6_66 (c_X6_finding l G (-1000001) v r21 v22 h20) (rc_6 M hP rfl) rfl hl.1 rfl (Nat.le_of_ble_eq_true rfl) ⟨rfl, rfl⟩ ⟨Nat.le_of_ble_eq_true rfl, Nat.le_of_ble_eq_true rfl⟩ dX6_keeper_17) (fun H locs hP hS => ?_)
      exact ret_i M hS hP (Option.some.inj hF) dX6_keeper_20
def F_X6_child (a1 : Int32) (a2 : Int32) (v : VV) : Option (Int32 × VV) :=
  Option.bind (F_X6_isCell a1 v) (fun r2 => (if r2 = true then (Option.bind (F_X6_within a2 0 9 v) (fun r9 => (if r9 = true then (if (v 1 3) = 6 then (Option.bind (F_X6_finding (-1000002) v) (fun (r17, v18) => some (r17, v18))) else (Option.bind (F_X6_childComes a1 a2 v) (fun (r13, v14) => some (r13, v14)))) else (Option.bind (F_X6_finding (-1000001) v) (fun (r21, v22) => some (r21, v22)))))) else (Option.bind (F_X6_finding (-1000001) v) (fun (r5, v6) => some (r5, v6)))))
set_option maxHeartbeats 4000000 in
set_option maxRecDepth 100000 in
theorem c_X6_child (l : Launch) (G : GG) (a1 : Int32) (a2 : Int32) (v : VV) (r : Int32) (v' : VV) (hF : F_X6_child a1 a2 v = some (r, v')) : Met l yX6_child (cdW yX6_child cX6_child 3 (some .int)) ({ frames := 2, cells := 0, slots := 0, locals := 44 } : Room) (PC G v [.ref (ad G 0), .int a1, .int a2]) (QI G r v') 0 0 (gA G) := by
  refine met_in RX6 (by decide) rfl (Nat.le_of_ble_eq_true rfl) ?_
  intro p e s m below meth c M hP ls hl
  have hx := M.1.1
  have hb := M.1.2.1
  have hS : va_S (gA G) s.heap s.heap [] := va_S.rf
  have hl : lv_has ls 3 [(0, .ref (ad G 0)), (1, .int a1), (2, .int a2)] := hl
  unfold F_X6_child at hF
  refine lv_iload_n hx hb dX6_child_0 rfl (lv_at hl 1 rfl) ?_
  obtain ⟨r2, h1, hF⟩ := bi_some hF
  refine k_i hS (kS_run M hS hP ok_X6_94 (c_X6_isCell l G a1 v r2 h1) rfl hl.1 rfl (Nat.le_of_ble_eq_true rfl) ⟨rfl, rfl⟩ ⟨Nat.le_of_ble_eq_true rfl, Nat.le_of_ble_eq_true rfl⟩ dX6_child_1) (fun H locs hP hS => ?_)
  refine lv_if_eq (tgt := 17) hx hb dX6_child_4 (by decide) (fun c3 => ?_) (fun c3 => ?_)
  · replace hF := (if_neg (bI_f c3)).symm.trans hF
    refine lv_aload_n hx hb dX6_child_17 rfl (lv_at hl 0 rfl) ?_
    refine lv_ldc (own := RX6) (v := (-1000001)) hx hb M.1.2.2.2.1 (M.1.2.2.2.2 (Cond.constant RX6 60 (-1000001)) w_788) dX6_child_18 ?_
    obtain ⟨⟨r5, v6⟩, h4, hF⟩ := bi_some hF
    dsimp only at hF
    refine k_i hS (kV_run M hS hP ok_X6_66 (c_X6_finding l G (-1000001) v r5 v6 h4) (rc_6 M hP rfl) rfl hl.1 rfl (Nat.le_of_ble_eq_true rfl) ⟨rfl, rfl⟩ ⟨Nat.le_of_ble_eq_true rfl, Nat.le_of_ble_eq_true rfl⟩ dX6_child_20) (fun H locs hP hS => ?_)
    exact ret_i M hS hP (Option.some.inj hF) dX6_child_23
  · replace hF := (if_pos (bI_t c3)).symm.trans hF
    refine lv_iload_n hx hb dX6_child_7 rfl (lv_at hl 2 rfl) ?_
    refine lv_iconst (v := 0) hx hb dX6_child_8 (by decide) ?_
    refine lv_bipush (v := 9) hx hb dX6_child_9 (by decide) ?_
    obtain ⟨r9, h8, hF⟩ := bi_some hF
    refine k_i hS (kS_run M hS hP ok_X6_70 (c_X6_within l G a2 0 9 v r9 h8) rfl hl.1 rfl (Nat.le_of_ble_eq_true rfl) ⟨rfl, rfl⟩ ⟨Nat.le_of_ble_eq_true rfl, Nat.le_of_ble_eq_true rfl⟩ dX6_child_11) (fun H locs hP hS => ?_)
    refine lv_if_ne (tgt := 24) hx hb dX6_child_14 (by decide) (fun c10 => ?_) (fun c10 => ?_)
    · replace hF := (if_pos (bI_t c10)).symm.trans hF
      refine lv_aload_n hx hb dX6_child_24 rfl (lv_at hl 0 rfl) ?_
      refine fg_6_9 M hP dX6_child_25 ?_
      refine lv_iconst (v := 3) hx hb dX6_child_28 (by decide) ?_
      refine r_iald (k := 3) M hP rfl rfl (in_c rfl) rfl dX6_child_29 ?_
      refine lv_bipush (v := 6) hx hb dX6_child_30 (by decide) ?_
      refine lv_icmp_ne (tgt := 44) hx hb dX6_child_32 (by decide) (fun c11 => ?_) (fun c11 => ?_)
      · replace hF := (if_neg c11).symm.trans hF
        refine lv_aload_n hx hb dX6_child_44 rfl (lv_at hl 0 rfl) ?_
        refine lv_iload_n hx hb dX6_child_45 rfl (lv_at hl 1 rfl) ?_
        refine lv_iload_n hx hb dX6_child_46 rfl (lv_at hl 2 rfl) ?_
        obtain ⟨⟨r13, v14⟩, h12, hF⟩ := bi_some hF
        dsimp only at hF
        refine k_i hS (kV_run M hS hP ok_X6_101 (c_X6_childComes l G a1 a2 v r13 v14 h12) (rc_6 M hP rfl) rfl hl.1 rfl (Nat.le_of_ble_eq_true rfl) ⟨rfl, rfl⟩ ⟨Nat.le_of_ble_eq_true rfl, Nat.le_of_ble_eq_true rfl⟩ dX6_child_47) (fun H locs hP hS => ?_)
        exact ret_i M hS hP (Option.some.inj hF) dX6_child_50
      · replace hF := (if_pos c11).symm.trans hF
        refine lv_aload_n hx hb dX6_child_35 rfl (lv_at hl 0 rfl) ?_
        refine lv_ldc (own := RX6) (v := (-1000002)) hx hb M.1.2.2.2.1 (M.1.2.2.2.2 (Cond.constant RX6 97 (-1000002)) w_807) dX6_child_36 ?_
        obtain ⟨⟨r17, v18⟩, h16, hF⟩ := bi_some hF
        dsimp only at hF
        refine k_i hS (kV_run M hS hP ok_X6_66 (c_X6_finding l G (-1000002) v r17 v18 h16) (rc_6 M hP rfl) rfl hl.1 rfl (Nat.le_of_ble_eq_true rfl) ⟨rfl, rfl⟩ ⟨Nat.le_of_ble_eq_true rfl, Nat.le_of_ble_eq_true rfl⟩ dX6_child_38) (fun H locs hP hS => ?_)
        refine lv_goto (tgt := 50) hx hb dX6_child_41 (by decide) ?_
        exact ret_i M hS hP (Option.some.inj hF) dX6_child_50
    · replace hF := (if_neg (bI_f c10)).symm.trans hF
      refine lv_aload_n hx hb dX6_child_17 rfl (lv_at hl 0 rfl) ?_
      refine lv_ldc (own := RX6) (v := (-1000001)) hx hb M.1.2.2.2.1 (M.1.2.2.2.2 (Cond.constant RX6 60 (-1000001)) w_788) dX6_child_18 ?_
      obtain ⟨⟨r21, v22⟩, h20, hF⟩ := bi_some hF
      dsimp only at hF
      refine k_i hS (kV_run M hS hP ok_X6_66 (c_X6_finding l G (-1000001) v r21 v22 h20) (rc_6 M hP rfl) rfl hl.1 rfl (Nat.le_of_ble_eq_true rfl) ⟨rfl, rfl⟩ ⟨Nat.le_of_ble_eq_true rfl, Nat.le_of_ble_eq_true rfl⟩ dX6_child_20) (fun H locs hP hS => ?_)
      exact ret_i M hS hP (Option.some.inj hF) dX6_child_23
def F_X6_gives (a1 : Int32) (v : VV) : Option Int32 :=
  Option.bind (F_X6_keeperIs a1 2 v) (fun r2 => Option.bind (F_X6_keeperIs a1 0 v) (fun r4 => (if r4 = 2 then (Option.bind (F_X6_keeperIs a1 4 v) (fun r7 => some ((r2 + r7) - (r2 + r7) / 12 * 12))) else (if r4 = 3 then (Option.bind (F_X6_keeperIs a1 4 v) (fun r10 => some (((r2 + r10) + (v 1 0)) - ((r2 + r10) + (v 1 0)) / 12 * 12))) else (if r4 = 4 then (some 0) else (if r4 = 5 then (some (11 - r2)) else (if r4 = 6 then (some ((r2 + 11) - (r2 + 11) / 12 * 12)) else (some r2))))))))
set_option maxHeartbeats 4000000 in
set_option maxRecDepth 100000 in
theorem c_X6_gives (l : Launch) (G : GG) (a1 : Int32) (v : VV) (r : Int32) (hF : F_X6_gives a1 v = some r) : Met l yX6_gives (cdW yX6_gives cX6_gives 3 (some .int)) ({ frames := 2, cells := 0, slots := 0, locals := 43 } : Room) (PC G v [.ref (ad G 0), .int a1]) (QI G r v) 0 0 (gA G) := by
  refine met_in RX6 (by decide) rfl (Nat.le_of_ble_eq_true rfl) ?_
  intro p e s m below meth c M hP ls hl
  have hx := M.1.1
  have hb := M.1.2.1
  have hS : va_S (gA G) s.heap s.heap [] := va_S.rf
  have hl : lv_has ls 3 [(0, .ref (ad G 0)), (1, .int a1)] := hl
  unfold F_X6_gives at hF
  refine lv_aload_n hx hb dX6_gives_0 rfl (lv_at hl 0 rfl) ?_
  refine lv_iload_n hx hb dX6_gives_1 rfl (lv_at hl 1 rfl) ?_
  refine lv_iconst (v := 2) hx hb dX6_gives_2 (by decide) ?_
  obtain ⟨r2, h1, hF⟩ := bi_some hF
  refine k_i hS (kV_run M hS hP ok_X6_104 (c_X6_keeperIs l G a1 2 v r2 h1) (rc_6 M hP rfl) rfl hl.1 rfl (Nat.le_of_ble_eq_true rfl) ⟨rfl, rfl⟩ ⟨Nat.le_of_ble_eq_true rfl, Nat.le_of_ble_eq_true rfl⟩ dX6_gives_3) (fun H locs hP hS => ?_)
  refine lv_istore_n (lv' := [(2, .int r2), (0, .ref (ad G 0)), (1, .int a1)]) hx hb dX6_gives_6 rfl hl (by decide) rfl (fun ls hl => ?_)
  refine lv_aload_n hx hb dX6_gives_7 rfl (lv_at hl 1 rfl) ?_
  refine lv_iload_n hx hb dX6_gives_8 rfl (lv_at hl 2 rfl) ?_
  refine lv_iconst (v := 0) hx hb dX6_gives_9 (by decide) ?_
  obtain ⟨r4, h3, hF⟩ := bi_some hF
  refine k_i hS (kV_run M hS hP ok_X6_104 (c_X6_keeperIs l G a1 0 v r4 h3) (rc_6 M hP rfl) rfl hl.1 rfl (Nat.le_of_ble_eq_true rfl) ⟨rfl, rfl⟩ ⟨Nat.le_of_ble_eq_true rfl, Nat.le_of_ble_eq_true rfl⟩ dX6_gives_10) (fun H locs hP hS => ?_)
  rcases Decidable.em (r4 = 2) with c5 | c5
  · replace hF := (if_pos c5).symm.trans hF
    refine lv_tableIn (tgt := 56) hx hb dX6_gives_13 (by rw [c5]; decide) (by rw [c5]; decide) (by rw [c5]; rfl) (by decide) ?_
    refine lv_iload_n hx hb dX6_gives_56 rfl (lv_at hl 0 rfl) ?_
    refine lv_aload_n hx hb dX6_gives_57 rfl (lv_at hl 1 rfl) ?_
    refine lv_iload_n hx hb dX6_gives_58 rfl (lv_at hl 2 rfl) ?_
    refine lv_iconst (v := 4) hx hb dX6_gives_59 (by decide) ?_
    obtain ⟨r7, h6, hF⟩ := bi_some hF
    refine k_i hS (kV_run M hS hP ok_X6_104 (c_X6_keeperIs l G a1 4 v r7 h6) (rc_6 M hP rfl) rfl hl.1 rfl (Nat.le_of_ble_eq_true rfl) ⟨rfl, rfl⟩ ⟨Nat.le_of_ble_eq_true rfl, Nat.le_of_ble_eq_true rfl⟩ dX6_gives_60) (fun H locs hP hS => ?_)
    refine lv_iadd hx hb dX6_gives_63 ?_
    refine lv_bipush (v := 12) hx hb dX6_gives_64 (by decide) ?_
    refine lv_irem hx hb dX6_gives_66 (by decide) ?_
    exact ret_i M hS hP (congrArg (fun z => (z, v)) (Option.some.inj hF)) dX6_gives_67
  · replace hF := (if_neg c5).symm.trans hF
    rcases Decidable.em (r4 = 3) with c8 | c8
    · replace hF := (if_pos c8).symm.trans hF
      refine lv_tableIn (tgt := 68) hx hb dX6_gives_13 (by rw [c8]; decide) (by rw [c8]; decide) (by rw [c8]; rfl) (by decide) ?_
      refine lv_iload_n hx hb dX6_gives_68 rfl (lv_at hl 0 rfl) ?_
      refine lv_aload_n hx hb dX6_gives_69 rfl (lv_at hl 1 rfl) ?_
      refine lv_iload_n hx hb dX6_gives_70 rfl (lv_at hl 2 rfl) ?_
      refine lv_iconst (v := 4) hx hb dX6_gives_71 (by decide) ?_
      obtain ⟨r10, h9, hF⟩ := bi_some hF
      refine k_i hS (kV_run M hS hP ok_X6_104 (c_X6_keeperIs l G a1 4 v r10 h9) (rc_6 M hP rfl) rfl hl.1 rfl (Nat.le_of_ble_eq_true rfl) ⟨rfl, rfl⟩ ⟨Nat.le_of_ble_eq_true rfl, Nat.le_of_ble_eq_true rfl⟩ dX6_gives_72) (fun H locs hP hS => ?_)
      refine lv_iadd hx hb dX6_gives_75 ?_
      refine lv_aload_n hx hb dX6_gives_76 rfl (lv_at hl 1 rfl) ?_
      refine fg_6_9 M hP dX6_gives_77 ?_
      refine lv_iconst (v := 0) hx hb dX6_gives_80 (by decide) ?_
      refine r_iald (k := 0) M hP rfl rfl (in_c rfl) rfl dX6_gives_81 ?_
      refine lv_iadd hx hb dX6_gives_82 ?_
      refine lv_bipush (v := 12) hx hb dX6_gives_83 (by decide) ?_
      refine lv_irem hx hb dX6_gives_85 (by decide) ?_
      exact ret_i M hS hP (congrArg (fun z => (z, v)) (Option.some.inj hF)) dX6_gives_86
    · replace hF := (if_neg c8).symm.trans hF
      rcases Decidable.em (r4 = 4) with c11 | c11
      · replace hF := (if_pos c11).symm.trans hF
        refine lv_tableIn (tgt := 87) hx hb dX6_gives_13 (by rw [c11]; decide) (by rw [c11]; decide) (by rw [c11]; rfl) (by decide) ?_
        refine lv_iconst (v := 0) hx hb dX6_gives_87 (by decide) ?_
        exact ret_i M hS hP (congrArg (fun z => (z, v)) (Option.some.inj hF)) dX6_gives_88
      · replace hF := (if_neg c11).symm.trans hF
        rcases Decidable.em (r4 = 5) with c12 | c12
        · replace hF := (if_pos c12).symm.trans hF
          refine lv_tableIn (tgt := 89) hx hb dX6_gives_13 (by rw [c12]; decide) (by rw [c12]; decide) (by rw [c12]; rfl) (by decide) ?_
          refine lv_bipush (v := 11) hx hb dX6_gives_89 (by decide) ?_
          refine lv_iload_n hx hb dX6_gives_91 rfl (lv_at hl 0 rfl) ?_
          refine lv_isub hx hb dX6_gives_92 ?_
          exact ret_i M hS hP (congrArg (fun z => (z, v)) (Option.some.inj hF)) dX6_gives_93
        · replace hF := (if_neg c12).symm.trans hF
          rcases Decidable.em (r4 = 6) with c13 | c13
          · replace hF := (if_pos c13).symm.trans hF
            refine lv_tableIn (tgt := 48) hx hb dX6_gives_13 (by rw [c13]; decide) (by rw [c13]; decide) (by rw [c13]; rfl) (by decide) ?_
            refine lv_iload_n hx hb dX6_gives_48 rfl (lv_at hl 0 rfl) ?_
            refine lv_bipush (v := 11) hx hb dX6_gives_49 (by decide) ?_
            refine lv_iadd hx hb dX6_gives_51 ?_
            refine lv_bipush (v := 12) hx hb dX6_gives_52 (by decide) ?_
            refine lv_irem hx hb dX6_gives_54 (by decide) ?_
            exact ret_i M hS hP (congrArg (fun z => (z, v)) (Option.some.inj hF)) dX6_gives_55
          · replace hF := (if_neg c13).symm.trans hF
            refine lv_tableOut (tgt := 94) hx hb dX6_gives_13 (by have q0 := lv_neT (a := 2) c5 (by decide); have q1 := lv_neT (a := 3) c8 (by decide); have q2 := lv_neT (a := 4) c11 (by decide); have q3 := lv_neT (a := 5) c12 (by decide); have q4 := lv_neT (a := 6) c13 (by decide); omega) (by decide) ?_
            refine lv_iload_n hx hb dX6_gives_94 rfl (lv_at hl 0 rfl) ?_
            exact ret_i M hS hP (congrArg (fun z => (z, v)) (Option.some.inj hF)) dX6_gives_95
def F_X6_reaches (a1 : Int32) (a2 : Int32) (v : VV) : Option Int32 :=
  Option.bind (F_X6_keeperIs a1 3 v) (fun r2 => Option.bind (F_X6_keeperIs a1 0 v) (fun r4 => (if r4 = 1 then (some ((if 0 < (r2 - (a2 / 2)) then (r2 - (a2 / 2)) else 0 : Int32) + 2)) else (if r4 = 2 then (Option.bind (F_X6_keeperIs a1 4 v) (fun r8 => some (if 0 < ((if 0 < (r2 - (a2 / 2)) then (r2 - (a2 / 2)) else 0 : Int32) - (r8 / 10)) then ((if 0 < (r2 - (a2 / 2)) then (r2 - (a2 / 2)) else 0 : Int32) - (r8 / 10)) else 0 : Int32))) else (if r4 = 3 then (Option.bind (F_X6_keeperIs a1 4 v) (fun r11 => some (if 0 < ((if 0 < (r2 - (a2 / 2)) then (r2 - (a2 / 2)) else 0 : Int32) - (r11 / 10)) then ((if 0 < (r2 - (a2 / 2)) then (r2 - (a2 / 2)) else 0 : Int32) - (r11 / 10)) else 0 : Int32))) else (if r4 = 4 then (some 15) else (if r4 = 5 then (some ((if 0 < (r2 - (a2 / 2)) then (r2 - (a2 / 2)) else 0 : Int32) / 2)) else (if r4 = 6 then (some ((if 0 < (r2 - (a2 / 2)) then (r2 - (a2 / 2)) else 0 : Int32) + 2)) else (some (if 0 < (r2 - (a2 / 2)) then (r2 - (a2 / 2)) else 0 : Int32))))))))))
set_option maxHeartbeats 4000000 in
set_option maxRecDepth 100000 in
theorem c_X6_reaches (l : Launch) (G : GG) (a1 : Int32) (a2 : Int32) (v : VV) (r : Int32) (hF : F_X6_reaches a1 a2 v = some r) : Met l yX6_reaches (cdW yX6_reaches cX6_reaches 4 (some .int)) ({ frames := 2, cells := 0, slots := 0, locals := 43 } : Room) (PC G v [.ref (ad G 0), .int a1, .int a2]) (QI G r v) 0 0 (gA G) := by
  refine met_in RX6 (by decide) rfl (Nat.le_of_ble_eq_true rfl) ?_
  intro p e s m below meth c M hP ls hl
  have hx := M.1.1
  have hb := M.1.2.1
  have hS : va_S (gA G) s.heap s.heap [] := va_S.rf
  have hl : lv_has ls 4 [(0, .ref (ad G 0)), (1, .int a1), (2, .int a2)] := hl
  unfold F_X6_reaches at hF
  refine lv_iconst (v := 0) hx hb dX6_reaches_0 (by decide) ?_
  refine lv_aload_n hx hb dX6_reaches_1 rfl (lv_at hl 0 rfl) ?_
  refine lv_iload_n hx hb dX6_reaches_2 rfl (lv_at hl 1 rfl) ?_
  refine lv_iconst (v := 3) hx hb dX6_reaches_3 (by decide) ?_
  obtain ⟨r2, h1, hF⟩ := bi_some hF
  refine k_i hS (kV_run M hS hP ok_X6_104 (c_X6_keeperIs l G a1 3 v r2 h1) (rc_6 M hP rfl) rfl hl.1 rfl (Nat.le_of_ble_eq_true rfl) ⟨rfl, rfl⟩ ⟨Nat.le_of_ble_eq_true rfl, Nat.le_of_ble_eq_true rfl⟩ dX6_reaches_4) (fun H locs hP hS => ?_)
  refine lv_iload_n hx hb dX6_reaches_7 rfl (lv_at hl 2 rfl) ?_
  refine lv_iconst (v := 2) hx hb dX6_reaches_8 (by decide) ?_
  refine lv_idiv hx hb dX6_reaches_9 (by decide) ?_
  refine lv_isub hx hb dX6_reaches_10 ?_
  refine mmax_6_107 M hl.1 (Nat.le_of_ble_eq_true rfl) (Nat.le_of_ble_eq_true rfl) dX6_reaches_11 ?_
  refine lv_istore_n (lv' := [(3, .int (if 0 < (r2 - (a2 / 2)) then (r2 - (a2 / 2)) else 0 : Int32)), (0, .ref (ad G 0)), (1, .int a1), (2, .int a2)]) hx hb dX6_reaches_14 rfl hl (by decide) rfl (fun ls hl => ?_)
  refine lv_aload_n hx hb dX6_reaches_15 rfl (lv_at hl 1 rfl) ?_
  refine lv_iload_n hx hb dX6_reaches_16 rfl (lv_at hl 2 rfl) ?_
  refine lv_iconst (v := 0) hx hb dX6_reaches_17 (by decide) ?_
  obtain ⟨r4, h3, hF⟩ := bi_some hF
  refine k_i hS (kV_run M hS hP ok_X6_104 (c_X6_keeperIs l G a1 0 v r4 h3) (rc_6 M hP rfl) rfl hl.1 rfl (Nat.le_of_ble_eq_true rfl) ⟨rfl, rfl⟩ ⟨Nat.le_of_ble_eq_true rfl, Nat.le_of_ble_eq_true rfl⟩ dX6_reaches_18) (fun H locs hP hS => ?_)
  rcases Decidable.em (r4 = 1) with c5 | c5
  · replace hF := (if_pos c5).symm.trans hF
    refine lv_tableIn (tgt := 60) hx hb dX6_reaches_21 (by rw [c5]; decide) (by rw [c5]; decide) (by rw [c5]; rfl) (by decide) ?_
    refine lv_iload_n hx hb dX6_reaches_60 rfl (lv_at hl 0 rfl) ?_
    refine lv_iconst (v := 2) hx hb dX6_reaches_61 (by decide) ?_
    refine lv_iadd hx hb dX6_reaches_62 ?_
    exact ret_i M hS hP (congrArg (fun z => (z, v)) (Option.some.inj hF)) dX6_reaches_63
  · replace hF := (if_neg c5).symm.trans hF
    rcases Decidable.em (r4 = 2) with c6 | c6
    · replace hF := (if_pos c6).symm.trans hF
      refine lv_tableIn (tgt := 64) hx hb dX6_reaches_21 (by rw [c6]; decide) (by rw [c6]; decide) (by rw [c6]; rfl) (by decide) ?_
      refine lv_iconst (v := 0) hx hb dX6_reaches_64 (by decide) ?_
      refine lv_iload_n hx hb dX6_reaches_65 rfl (lv_at hl 0 rfl) ?_
      refine lv_aload_n hx hb dX6_reaches_66 rfl (lv_at hl 1 rfl) ?_
      refine lv_iload_n hx hb dX6_reaches_67 rfl (lv_at hl 2 rfl) ?_
      refine lv_iconst (v := 4) hx hb dX6_reaches_68 (by decide) ?_
      obtain ⟨r8, h7, hF⟩ := bi_some hF
      refine k_i hS (kV_run M hS hP ok_X6_104 (c_X6_keeperIs l G a1 4 v r8 h7) (rc_6 M hP rfl) rfl hl.1 rfl (Nat.le_of_ble_eq_true rfl) ⟨rfl, rfl⟩ ⟨Nat.le_of_ble_eq_true rfl, Nat.le_of_ble_eq_true rfl⟩ dX6_reaches_69) (fun H locs hP hS => ?_)
      refine lv_bipush (v := 10) hx hb dX6_reaches_72 (by decide) ?_
      refine lv_idiv hx hb dX6_reaches_74 (by decide) ?_
      refine lv_isub hx hb dX6_reaches_75 ?_
      refine mmax_6_107 M hl.1 (Nat.le_of_ble_eq_true rfl) (Nat.le_of_ble_eq_true rfl) dX6_reaches_76 ?_
      exact ret_i M hS hP (congrArg (fun z => (z, v)) (Option.some.inj hF)) dX6_reaches_79
    · replace hF := (if_neg c6).symm.trans hF
      rcases Decidable.em (r4 = 3) with c9 | c9
      · replace hF := (if_pos c9).symm.trans hF
        refine lv_tableIn (tgt := 64) hx hb dX6_reaches_21 (by rw [c9]; decide) (by rw [c9]; decide) (by rw [c9]; rfl) (by decide) ?_
        refine lv_iconst (v := 0) hx hb dX6_reaches_64 (by decide) ?_
        refine lv_iload_n hx hb dX6_reaches_65 rfl (lv_at hl 0 rfl) ?_
        refine lv_aload_n hx hb dX6_reaches_66 rfl (lv_at hl 1 rfl) ?_
        refine lv_iload_n hx hb dX6_reaches_67 rfl (lv_at hl 2 rfl) ?_
        refine lv_iconst (v := 4) hx hb dX6_reaches_68 (by decide) ?_
        obtain ⟨r11, h10, hF⟩ := bi_some hF
        refine k_i hS (kV_run M hS hP ok_X6_104 (c_X6_keeperIs l G a1 4 v r11 h10) (rc_6 M hP rfl) rfl hl.1 rfl (Nat.le_of_ble_eq_true rfl) ⟨rfl, rfl⟩ ⟨Nat.le_of_ble_eq_true rfl, Nat.le_of_ble_eq_true rfl⟩ dX6_reaches_69) (fun H locs hP hS => ?_)
        refine lv_bipush (v := 10) hx hb dX6_reaches_72 (by decide) ?_
        refine lv_idiv hx hb dX6_reaches_74 (by decide) ?_
        refine lv_isub hx hb dX6_reaches_75 ?_
        refine mmax_6_107 M hl.1 (Nat.le_of_ble_eq_true rfl) (Nat.le_of_ble_eq_true rfl) dX6_reaches_76 ?_
        exact ret_i M hS hP (congrArg (fun z => (z, v)) (Option.some.inj hF)) dX6_reaches_79
      · replace hF := (if_neg c9).symm.trans hF
        rcases Decidable.em (r4 = 4) with c12 | c12
        · replace hF := (if_pos c12).symm.trans hF
          refine lv_tableIn (tgt := 80) hx hb dX6_reaches_21 (by rw [c12]; decide) (by rw [c12]; decide) (by rw [c12]; rfl) (by decide) ?_
          refine lv_bipush (v := 15) hx hb dX6_reaches_80 (by decide) ?_
          exact ret_i M hS hP (congrArg (fun z => (z, v)) (Option.some.inj hF)) dX6_reaches_82
        · replace hF := (if_neg c12).symm.trans hF
          rcases Decidable.em (r4 = 5) with c13 | c13
          · replace hF := (if_pos c13).symm.trans hF
            refine lv_tableIn (tgt := 83) hx hb dX6_reaches_21 (by rw [c13]; decide) (by rw [c13]; decide) (by rw [c13]; rfl) (by decide) ?_
            refine lv_iload_n hx hb dX6_reaches_83 rfl (lv_at hl 0 rfl) ?_
            refine lv_iconst (v := 2) hx hb dX6_reaches_84 (by decide) ?_
            refine lv_idiv hx hb dX6_reaches_85 (by decide) ?_
            exact ret_i M hS hP (congrArg (fun z => (z, v)) (Option.some.inj hF)) dX6_reaches_86
          · replace hF := (if_neg c13).symm.trans hF
            rcases Decidable.em (r4 = 6) with c14 | c14
            · replace hF := (if_pos c14).symm.trans hF
              refine lv_tableIn (tgt := 60) hx hb dX6_reaches_21 (by rw [c14]; decide) (by rw [c14]; decide) (by rw [c14]; rfl) (by decide) ?_
              refine lv_iload_n hx hb dX6_reaches_60 rfl (lv_at hl 0 rfl) ?_
              refine lv_iconst (v := 2) hx hb dX6_reaches_61 (by decide) ?_
              refine lv_iadd hx hb dX6_reaches_62 ?_
              exact ret_i M hS hP (congrArg (fun z => (z, v)) (Option.some.inj hF)) dX6_reaches_63
            · replace hF := (if_neg c14).symm.trans hF
              refine lv_tableOut (tgt := 87) hx hb dX6_reaches_21 (by have q0 := lv_neT (a := 1) c5 (by decide); have q1 := lv_neT (a := 2) c6 (by decide); have q2 := lv_neT (a := 3) c9 (by decide); have q3 := lv_neT (a := 4) c12 (by decide); have q4 := lv_neT (a := 5) c13 (by decide); have q5 := lv_neT (a := 6) c14 (by decide); omega) (by decide) ?_
              refine lv_iload_n hx hb dX6_reaches_87 rfl (lv_at hl 0 rfl) ?_
              exact ret_i M hS hP (congrArg (fun z => (z, v)) (Option.some.inj hF)) dX6_reaches_88
def F_X6_tempo (a1 : Int32) (v : VV) : Option Int32 :=
  Option.bind (F_X6_keeperIs a1 0 v) (fun r2 => (if r2 = 1 then (some 5) else (if r2 = 2 then (some 2) else (if r2 = 3 then (some 4) else (if r2 = 4 then (some 0) else (if r2 = 5 then (some 7) else (if r2 = 6 then (some 6) else (some 3))))))))
set_option maxHeartbeats 4000000 in
set_option maxRecDepth 100000 in
theorem c_X6_tempo (l : Launch) (G : GG) (a1 : Int32) (v : VV) (r : Int32) (hF : F_X6_tempo a1 v = some r) : Met l yX6_tempo (cdW yX6_tempo cX6_tempo 2 (some .int)) ({ frames := 2, cells := 0, slots := 0, locals := 43 } : Room) (PC G v [.ref (ad G 0), .int a1]) (QI G r v) 0 0 (gA G) := by
  refine met_in RX6 (by decide) rfl (Nat.le_of_ble_eq_true rfl) ?_
  intro p e s m below meth c M hP ls hl
  have hx := M.1.1
  have hb := M.1.2.1
  have hS : va_S (gA G) s.heap s.heap [] := va_S.rf
  have hl : lv_has ls 2 [(0, .ref (ad G 0)), (1, .int a1)] := hl
  unfold F_X6_tempo at hF
  refine lv_aload_n hx hb dX6_tempo_0 rfl (lv_at hl 0 rfl) ?_
  refine lv_iload_n hx hb dX6_tempo_1 rfl (lv_at hl 1 rfl) ?_
  refine lv_iconst (v := 0) hx hb dX6_tempo_2 (by decide) ?_
  obtain ⟨r2, h1, hF⟩ := bi_some hF
  refine k_i hS (kV_run M hS hP ok_X6_104 (c_X6_keeperIs l G a1 0 v r2 h1) (rc_6 M hP rfl) rfl hl.1 rfl (Nat.le_of_ble_eq_true rfl) ⟨rfl, rfl⟩ ⟨Nat.le_of_ble_eq_true rfl, Nat.le_of_ble_eq_true rfl⟩ dX6_tempo_3) (fun H locs hP hS => ?_)
  rcases Decidable.em (r2 = 1) with c3 | c3
  · replace hF := (if_pos c3).symm.trans hF
    refine lv_tableIn (tgt := 44) hx hb dX6_tempo_6 (by rw [c3]; decide) (by rw [c3]; decide) (by rw [c3]; rfl) (by decide) ?_
    refine lv_iconst (v := 5) hx hb dX6_tempo_44 (by decide) ?_
    exact ret_i M hS hP (congrArg (fun z => (z, v)) (Option.some.inj hF)) dX6_tempo_45
  · replace hF := (if_neg c3).symm.trans hF
    rcases Decidable.em (r2 = 2) with c4 | c4
    · replace hF := (if_pos c4).symm.trans hF
      refine lv_tableIn (tgt := 49) hx hb dX6_tempo_6 (by rw [c4]; decide) (by rw [c4]; decide) (by rw [c4]; rfl) (by decide) ?_
      refine lv_iconst (v := 2) hx hb dX6_tempo_49 (by decide) ?_
      exact ret_i M hS hP (congrArg (fun z => (z, v)) (Option.some.inj hF)) dX6_tempo_50
    · replace hF := (if_neg c4).symm.trans hF
      rcases Decidable.em (r2 = 3) with c5 | c5
      · replace hF := (if_pos c5).symm.trans hF
        refine lv_tableIn (tgt := 51) hx hb dX6_tempo_6 (by rw [c5]; decide) (by rw [c5]; decide) (by rw [c5]; rfl) (by decide) ?_
        refine lv_iconst (v := 4) hx hb dX6_tempo_51 (by decide) ?_
        exact ret_i M hS hP (congrArg (fun z => (z, v)) (Option.some.inj hF)) dX6_tempo_52
      · replace hF := (if_neg c5).symm.trans hF
        rcases Decidable.em (r2 = 4) with c6 | c6
        · replace hF := (if_pos c6).symm.trans hF
          refine lv_tableIn (tgt := 53) hx hb dX6_tempo_6 (by rw [c6]; decide) (by rw [c6]; decide) (by rw [c6]; rfl) (by decide) ?_
          refine lv_iconst (v := 0) hx hb dX6_tempo_53 (by decide) ?_
          exact ret_i M hS hP (congrArg (fun z => (z, v)) (Option.some.inj hF)) dX6_tempo_54
        · replace hF := (if_neg c6).symm.trans hF
          rcases Decidable.em (r2 = 5) with c7 | c7
          · replace hF := (if_pos c7).symm.trans hF
            refine lv_tableIn (tgt := 55) hx hb dX6_tempo_6 (by rw [c7]; decide) (by rw [c7]; decide) (by rw [c7]; rfl) (by decide) ?_
            refine lv_bipush (v := 7) hx hb dX6_tempo_55 (by decide) ?_
            exact ret_i M hS hP (congrArg (fun z => (z, v)) (Option.some.inj hF)) dX6_tempo_57
          · replace hF := (if_neg c7).symm.trans hF
            rcases Decidable.em (r2 = 6) with c8 | c8
            · replace hF := (if_pos c8).symm.trans hF
              refine lv_tableIn (tgt := 46) hx hb dX6_tempo_6 (by rw [c8]; decide) (by rw [c8]; decide) (by rw [c8]; rfl) (by decide) ?_
              refine lv_bipush (v := 6) hx hb dX6_tempo_46 (by decide) ?_
              exact ret_i M hS hP (congrArg (fun z => (z, v)) (Option.some.inj hF)) dX6_tempo_48
            · replace hF := (if_neg c8).symm.trans hF
              refine lv_tableOut (tgt := 58) hx hb dX6_tempo_6 (by have q0 := lv_neT (a := 1) c3 (by decide); have q1 := lv_neT (a := 2) c4 (by decide); have q2 := lv_neT (a := 3) c5 (by decide); have q3 := lv_neT (a := 4) c6 (by decide); have q4 := lv_neT (a := 5) c7 (by decide); have q5 := lv_neT (a := 6) c8 (by decide); omega) (by decide) ?_
              refine lv_iconst (v := 3) hx hb dX6_tempo_58 (by decide) ?_
              exact ret_i M hS hP (congrArg (fun z => (z, v)) (Option.some.inj hF)) dX6_tempo_59
def F_X6_tires (a1 : Int32) (v : VV) : Option Int32 :=
  Option.bind (F_X6_keeperIs a1 0 v) (fun r2 => (if r2 = 1 then (some 1) else (if r2 = 2 then (some 5) else (if r2 = 3 then (some 5) else (if r2 = 4 then (some 0) else (if r2 = 5 then (some 0) else (if r2 = 6 then (some 3) else (some 2))))))))
set_option maxHeartbeats 4000000 in
set_option maxRecDepth 100000 in
theorem c_X6_tires (l : Launch) (G : GG) (a1 : Int32) (v : VV) (r : Int32) (hF : F_X6_tires a1 v = some r) : Met l yX6_tires (cdW yX6_tires cX6_tires 2 (some .int)) ({ frames := 2, cells := 0, slots := 0, locals := 43 } : Room) (PC G v [.ref (ad G 0), .int a1]) (QI G r v) 0 0 (gA G) := by
  refine met_in RX6 (by decide) rfl (Nat.le_of_ble_eq_true rfl) ?_
  intro p e s m below meth c M hP ls hl
  have hx := M.1.1
  have hb := M.1.2.1
  have hS : va_S (gA G) s.heap s.heap [] := va_S.rf
  have hl : lv_has ls 2 [(0, .ref (ad G 0)), (1, .int a1)] := hl
  unfold F_X6_tires at hF
  refine lv_aload_n hx hb dX6_tires_0 rfl (lv_at hl 0 rfl) ?_
  refine lv_iload_n hx hb dX6_tires_1 rfl (lv_at hl 1 rfl) ?_
  refine lv_iconst (v := 0) hx hb dX6_tires_2 (by decide) ?_
  obtain ⟨r2, h1, hF⟩ := bi_some hF
  refine k_i hS (kV_run M hS hP ok_X6_104 (c_X6_keeperIs l G a1 0 v r2 h1) (rc_6 M hP rfl) rfl hl.1 rfl (Nat.le_of_ble_eq_true rfl) ⟨rfl, rfl⟩ ⟨Nat.le_of_ble_eq_true rfl, Nat.le_of_ble_eq_true rfl⟩ dX6_tires_3) (fun H locs hP hS => ?_)
  rcases Decidable.em (r2 = 1) with c3 | c3
  · replace hF := (if_pos c3).symm.trans hF
    refine lv_tableIn (tgt := 44) hx hb dX6_tires_6 (by rw [c3]; decide) (by rw [c3]; decide) (by rw [c3]; rfl) (by decide) ?_
    refine lv_iconst (v := 1) hx hb dX6_tires_44 (by decide) ?_
    exact ret_i M hS hP (congrArg (fun z => (z, v)) (Option.some.inj hF)) dX6_tires_45
  · replace hF := (if_neg c3).symm.trans hF
    rcases Decidable.em (r2 = 2) with c4 | c4
    · replace hF := (if_pos c4).symm.trans hF
      refine lv_tableIn (tgt := 48) hx hb dX6_tires_6 (by rw [c4]; decide) (by rw [c4]; decide) (by rw [c4]; rfl) (by decide) ?_
      refine lv_iconst (v := 5) hx hb dX6_tires_48 (by decide) ?_
      exact ret_i M hS hP (congrArg (fun z => (z, v)) (Option.some.inj hF)) dX6_tires_49
    · replace hF := (if_neg c4).symm.trans hF
      rcases Decidable.em (r2 = 3) with c5 | c5
      · replace hF := (if_pos c5).symm.trans hF
        refine lv_tableIn (tgt := 48) hx hb dX6_tires_6 (by rw [c5]; decide) (by rw [c5]; decide) (by rw [c5]; rfl) (by decide) ?_
        refine lv_iconst (v := 5) hx hb dX6_tires_48 (by decide) ?_
        exact ret_i M hS hP (congrArg (fun z => (z, v)) (Option.some.inj hF)) dX6_tires_49
      · replace hF := (if_neg c5).symm.trans hF
        rcases Decidable.em (r2 = 4) with c6 | c6
        · replace hF := (if_pos c6).symm.trans hF
          refine lv_tableIn (tgt := 50) hx hb dX6_tires_6 (by rw [c6]; decide) (by rw [c6]; decide) (by rw [c6]; rfl) (by decide) ?_
          refine lv_iconst (v := 0) hx hb dX6_tires_50 (by decide) ?_
          exact ret_i M hS hP (congrArg (fun z => (z, v)) (Option.some.inj hF)) dX6_tires_51
        · replace hF := (if_neg c6).symm.trans hF
          rcases Decidable.em (r2 = 5) with c7 | c7
          · replace hF := (if_pos c7).symm.trans hF
            refine lv_tableIn (tgt := 50) hx hb dX6_tires_6 (by rw [c7]; decide) (by rw [c7]; decide) (by rw [c7]; rfl) (by decide) ?_
            refine lv_iconst (v := 0) hx hb dX6_tires_50 (by decide) ?_
            exact ret_i M hS hP (congrArg (fun z => (z, v)) (Option.some.inj hF)) dX6_tires_51
          · replace hF := (if_neg c7).symm.trans hF
            rcases Decidable.em (r2 = 6) with c8 | c8
            · replace hF := (if_pos c8).symm.trans hF
              refine lv_tableIn (tgt := 46) hx hb dX6_tires_6 (by rw [c8]; decide) (by rw [c8]; decide) (by rw [c8]; rfl) (by decide) ?_
              refine lv_iconst (v := 3) hx hb dX6_tires_46 (by decide) ?_
              exact ret_i M hS hP (congrArg (fun z => (z, v)) (Option.some.inj hF)) dX6_tires_47
            · replace hF := (if_neg c8).symm.trans hF
              refine lv_tableOut (tgt := 52) hx hb dX6_tires_6 (by have q0 := lv_neT (a := 1) c3 (by decide); have q1 := lv_neT (a := 2) c4 (by decide); have q2 := lv_neT (a := 3) c5 (by decide); have q3 := lv_neT (a := 4) c6 (by decide); have q4 := lv_neT (a := 5) c7 (by decide); have q5 := lv_neT (a := 6) c8 (by decide); omega) (by decide) ?_
              refine lv_iconst (v := 2) hx hb dX6_tires_52 (by decide) ?_
              exact ret_i M hS hP (congrArg (fun z => (z, v)) (Option.some.inj hF)) dX6_tires_53
def F_X6_turns (a1 : Int32) (v : VV) : Option Int32 :=
  if ((v 1 0) - (v 1 0) / 2 * 2) = 0 then (Option.bind (F_X6_keeperIs a1 0 v) (fun r10 => (if r10 = 2 then (some 1) else (if r10 = 3 then (some (1 + 5)) else (if r10 = 4 then (some 0) else (if r10 = 5 then (some 11) else (if r10 = 6 then (some 2) else (some 1)))))))) else (Option.bind (F_X6_keeperIs a1 0 v) (fun r3 => (if r3 = 2 then (some 0) else (if r3 = 3 then (some (0 + 5)) else (if r3 = 4 then (some 0) else (if r3 = 5 then (some 11) else (if r3 = 6 then (some 2) else (some 1))))))))
set_option maxHeartbeats 4000000 in
set_option maxRecDepth 100000 in
theorem c_X6_turns (l : Launch) (G : GG) (a1 : Int32) (v : VV) (r : Int32) (hF : F_X6_turns a1 v = some r) : Met l yX6_turns (cdW yX6_turns cX6_turns 3 (some .int)) ({ frames := 2, cells := 0, slots := 0, locals := 43 } : Room) (PC G v [.ref (ad G 0), .int a1]) (QI G r v) 0 0 (gA G) := by
  refine met_in RX6 (by decide) rfl (Nat.le_of_ble_eq_true rfl) ?_
  intro p e s m below meth c M hP ls hl
  have hx := M.1.1
  have hb := M.1.2.1
  have hS : va_S (gA G) s.heap s.heap [] := va_S.rf
  have hl : lv_has ls 3 [(0, .ref (ad G 0)), (1, .int a1)] := hl
  unfold F_X6_turns at hF
  refine lv_aload_n hx hb dX6_turns_0 rfl (lv_at hl 0 rfl) ?_
  refine fg_6_9 M hP dX6_turns_1 ?_
  refine lv_iconst (v := 0) hx hb dX6_turns_4 (by decide) ?_
  refine r_iald (k := 0) M hP rfl rfl (in_c rfl) rfl dX6_turns_5 ?_
  refine lv_iconst (v := 2) hx hb dX6_turns_6 (by decide) ?_
  refine lv_irem hx hb dX6_turns_7 (by decide) ?_
  refine lv_if_ne (tgt := 15) hx hb dX6_turns_8 (by decide) (fun c1 => ?_) (fun c1 => ?_)
  · replace hF := (if_neg c1).symm.trans hF
    refine lv_iconst (v := 0) hx hb dX6_turns_15 (by decide) ?_
    refine lv_istore_n (lv' := [(2, .int 0), (0, .ref (ad G 0)), (1, .int a1)]) hx hb dX6_turns_16 rfl hl (by decide) rfl (fun ls hl => ?_)
    refine lv_aload_n hx hb dX6_turns_17 rfl (lv_at hl 1 rfl) ?_
    refine lv_iload_n hx hb dX6_turns_18 rfl (lv_at hl 2 rfl) ?_
    refine lv_iconst (v := 0) hx hb dX6_turns_19 (by decide) ?_
    obtain ⟨r3, h2, hF⟩ := bi_some hF
    refine k_i hS (kV_run M hS hP ok_X6_104 (c_X6_keeperIs l G a1 0 v r3 h2) (rc_6 M hP rfl) rfl hl.1 rfl (Nat.le_of_ble_eq_true rfl) ⟨rfl, rfl⟩ ⟨Nat.le_of_ble_eq_true rfl, Nat.le_of_ble_eq_true rfl⟩ dX6_turns_20) (fun H locs hP hS => ?_)
    rcases Decidable.em (r3 = 2) with c4 | c4
    · replace hF := (if_pos c4).symm.trans hF
      refine lv_tableIn (tgt := 58) hx hb dX6_turns_23 (by rw [c4]; decide) (by rw [c4]; decide) (by rw [c4]; rfl) (by decide) ?_
      refine lv_iload_n hx hb dX6_turns_58 rfl (lv_at hl 0 rfl) ?_
      exact ret_i M hS hP (congrArg (fun z => (z, v)) (Option.some.inj hF)) dX6_turns_59
    · replace hF := (if_neg c4).symm.trans hF
      rcases Decidable.em (r3 = 3) with c5 | c5
      · replace hF := (if_pos c5).symm.trans hF
        refine lv_tableIn (tgt := 60) hx hb dX6_turns_23 (by rw [c5]; decide) (by rw [c5]; decide) (by rw [c5]; rfl) (by decide) ?_
        refine lv_iload_n hx hb dX6_turns_60 rfl (lv_at hl 0 rfl) ?_
        refine lv_iconst (v := 5) hx hb dX6_turns_61 (by decide) ?_
        refine lv_iadd hx hb dX6_turns_62 ?_
        exact ret_i M hS hP (congrArg (fun z => (z, v)) (Option.some.inj hF)) dX6_turns_63
      · replace hF := (if_neg c5).symm.trans hF
        rcases Decidable.em (r3 = 4) with c6 | c6
        · replace hF := (if_pos c6).symm.trans hF
          refine lv_tableIn (tgt := 64) hx hb dX6_turns_23 (by rw [c6]; decide) (by rw [c6]; decide) (by rw [c6]; rfl) (by decide) ?_
          refine lv_iconst (v := 0) hx hb dX6_turns_64 (by decide) ?_
          exact ret_i M hS hP (congrArg (fun z => (z, v)) (Option.some.inj hF)) dX6_turns_65
        · replace hF := (if_neg c6).symm.trans hF
          rcases Decidable.em (r3 = 5) with c7 | c7
          · replace hF := (if_pos c7).symm.trans hF
            refine lv_tableIn (tgt := 66) hx hb dX6_turns_23 (by rw [c7]; decide) (by rw [c7]; decide) (by rw [c7]; rfl) (by decide) ?_
            refine lv_bipush (v := 11) hx hb dX6_turns_66 (by decide) ?_
            exact ret_i M hS hP (congrArg (fun z => (z, v)) (Option.some.inj hF)) dX6_turns_68
          · replace hF := (if_neg c7).symm.trans hF
            rcases Decidable.em (r3 = 6) with c8 | c8
            · replace hF := (if_pos c8).symm.trans hF
              refine lv_tableIn (tgt := 56) hx hb dX6_turns_23 (by rw [c8]; decide) (by rw [c8]; decide) (by rw [c8]; rfl) (by decide) ?_
              refine lv_iconst (v := 2) hx hb dX6_turns_56 (by decide) ?_
              exact ret_i M hS hP (congrArg (fun z => (z, v)) (Option.some.inj hF)) dX6_turns_57
            · replace hF := (if_neg c8).symm.trans hF
              refine lv_tableOut (tgt := 69) hx hb dX6_turns_23 (by have q0 := lv_neT (a := 2) c4 (by decide); have q1 := lv_neT (a := 3) c5 (by decide); have q2 := lv_neT (a := 4) c6 (by decide); have q3 := lv_neT (a := 5) c7 (by decide); have q4 := lv_neT (a := 6) c8 (by decide); omega) (by decide) ?_
              refine lv_iconst (v := 1) hx hb dX6_turns_69 (by decide) ?_
              exact ret_i M hS hP (congrArg (fun z => (z, v)) (Option.some.inj hF)) dX6_turns_70
  · replace hF := (if_pos c1).symm.trans hF
    refine lv_iconst (v := 1) hx hb dX6_turns_11 (by decide) ?_
    refine lv_goto (tgt := 16) hx hb dX6_turns_12 (by decide) ?_
    refine lv_istore_n (lv' := [(2, .int 1), (0, .ref (ad G 0)), (1, .int a1)]) hx hb dX6_turns_16 rfl hl (by decide) rfl (fun ls hl => ?_)
    refine lv_aload_n hx hb dX6_turns_17 rfl (lv_at hl 1 rfl) ?_
    refine lv_iload_n hx hb dX6_turns_18 rfl (lv_at hl 2 rfl) ?_
    refine lv_iconst (v := 0) hx hb dX6_turns_19 (by decide) ?_
    obtain ⟨r10, h9, hF⟩ := bi_some hF
    refine k_i hS (kV_run M hS hP ok_X6_104 (c_X6_keeperIs l G a1 0 v r10 h9) (rc_6 M hP rfl) rfl hl.1 rfl (Nat.le_of_ble_eq_true rfl) ⟨rfl, rfl⟩ ⟨Nat.le_of_ble_eq_true rfl, Nat.le_of_ble_eq_true rfl⟩ dX6_turns_20) (fun H locs hP hS => ?_)
    rcases Decidable.em (r10 = 2) with c11 | c11
    · replace hF := (if_pos c11).symm.trans hF
      refine lv_tableIn (tgt := 58) hx hb dX6_turns_23 (by rw [c11]; decide) (by rw [c11]; decide) (by rw [c11]; rfl) (by decide) ?_
      refine lv_iload_n hx hb dX6_turns_58 rfl (lv_at hl 0 rfl) ?_
      exact ret_i M hS hP (congrArg (fun z => (z, v)) (Option.some.inj hF)) dX6_turns_59
    · replace hF := (if_neg c11).symm.trans hF
      rcases Decidable.em (r10 = 3) with c12 | c12
      · replace hF := (if_pos c12).symm.trans hF
        refine lv_tableIn (tgt := 60) hx hb dX6_turns_23 (by rw [c12]; decide) (by rw [c12]; decide) (by rw [c12]; rfl) (by decide) ?_
        refine lv_iload_n hx hb dX6_turns_60 rfl (lv_at hl 0 rfl) ?_
        refine lv_iconst (v := 5) hx hb dX6_turns_61 (by decide) ?_
        refine lv_iadd hx hb dX6_turns_62 ?_
        exact ret_i M hS hP (congrArg (fun z => (z, v)) (Option.some.inj hF)) dX6_turns_63
      · replace hF := (if_neg c12).symm.trans hF
        rcases Decidable.em (r10 = 4) with c13 | c13
        · replace hF := (if_pos c13).symm.trans hF
          refine lv_tableIn (tgt := 64) hx hb dX6_turns_23 (by rw [c13]; decide) (by rw [c13]; decide) (by rw [c13]; rfl) (by decide) ?_
          refine lv_iconst (v := 0) hx hb dX6_turns_64 (by decide) ?_
          exact ret_i M hS hP (congrArg (fun z => (z, v)) (Option.some.inj hF)) dX6_turns_65
        · replace hF := (if_neg c13).symm.trans hF
          rcases Decidable.em (r10 = 5) with c14 | c14
          · replace hF := (if_pos c14).symm.trans hF
            refine lv_tableIn (tgt := 66) hx hb dX6_turns_23 (by rw [c14]; decide) (by rw [c14]; decide) (by rw [c14]; rfl) (by decide) ?_
            refine lv_bipush (v := 11) hx hb dX6_turns_66 (by decide) ?_
            exact ret_i M hS hP (congrArg (fun z => (z, v)) (Option.some.inj hF)) dX6_turns_68
          · replace hF := (if_neg c14).symm.trans hF
            rcases Decidable.em (r10 = 6) with c15 | c15
            · replace hF := (if_pos c15).symm.trans hF
              refine lv_tableIn (tgt := 56) hx hb dX6_turns_23 (by rw [c15]; decide) (by rw [c15]; decide) (by rw [c15]; rfl) (by decide) ?_
              refine lv_iconst (v := 2) hx hb dX6_turns_56 (by decide) ?_
              exact ret_i M hS hP (congrArg (fun z => (z, v)) (Option.some.inj hF)) dX6_turns_57
            · replace hF := (if_neg c15).symm.trans hF
              refine lv_tableOut (tgt := 69) hx hb dX6_turns_23 (by have q0 := lv_neT (a := 2) c11 (by decide); have q1 := lv_neT (a := 3) c12 (by decide); have q2 := lv_neT (a := 4) c13 (by decide); have q3 := lv_neT (a := 5) c14 (by decide); have q4 := lv_neT (a := 6) c15 (by decide); omega) (by decide) ?_
              refine lv_iconst (v := 1) hx hb dX6_turns_69 (by decide) ?_
              exact ret_i M hS hP (congrArg (fun z => (z, v)) (Option.some.inj hF)) dX6_turns_70
def F_X6_told (a1 : Int32) (a2 : Int32) (v : VV) : Option Int32 :=
  if a2 = 6 then (Option.bind (F_X6_gives a1 v) (fun r3 => some r3)) else (if a2 = 7 then (Option.bind (F_X6_placeNow v) (fun r6 => gu (gI r6 92) (Option.bind (F_X6_reaches a1 (v 1 ((r6).toNatClampNeg)) v) (fun r9 => some r9)))) else (if a2 = 8 then (Option.bind (F_X6_tempo a1 v) (fun r12 => some r12)) else (if a2 = 9 then (Option.bind (F_X6_tires a1 v) (fun r15 => some r15)) else (if a2 = 10 then (Option.bind (F_X6_turns a1 v) (fun r18 => some r18)) else (Option.bind (F_X6_keeperIs a1 a2 v) (fun r20 => some r20))))))
set_option maxHeartbeats 4000000 in
set_option maxRecDepth 100000 in
theorem c_X6_told (l : Launch) (G : GG) (a1 : Int32) (a2 : Int32) (v : VV) (r : Int32) (hF : F_X6_told a1 a2 v = some r) : Met l yX6_told (cdW yX6_told cX6_told 3 (some .int)) ({ frames := 3, cells := 0, slots := 0, locals := 66 } : Room) (PC G v [.ref (ad G 0), .int a1, .int a2]) (QI G r v) 0 0 (gA G) := by
  refine met_in RX6 (by decide) rfl (Nat.le_of_ble_eq_true rfl) ?_
  intro p e s m below meth c M hP ls hl
  have hx := M.1.1
  have hb := M.1.2.1
  have hS : va_S (gA G) s.heap s.heap [] := va_S.rf
  have hl : lv_has ls 3 [(0, .ref (ad G 0)), (1, .int a1), (2, .int a2)] := hl
  unfold F_X6_told at hF
  refine lv_iload_n hx hb dX6_told_0 rfl (lv_at hl 2 rfl) ?_
  rcases Decidable.em (a2 = 6) with c1 | c1
  · replace hF := (if_pos c1).symm.trans hF
    refine lv_tableIn (tgt := 36) hx hb dX6_told_1 (by rw [c1]; decide) (by rw [c1]; decide) (by rw [c1]; rfl) (by decide) ?_
    refine lv_aload_n hx hb dX6_told_36 rfl (lv_at hl 0 rfl) ?_
    refine lv_iload_n hx hb dX6_told_37 rfl (lv_at hl 1 rfl) ?_
    obtain ⟨r3, h2, hF⟩ := bi_some hF
    refine k_i hS (kV_run M hS hP ok_X6_112 (c_X6_gives l G a1 v r3 h2) (rc_6 M hP rfl) rfl hl.1 rfl (Nat.le_of_ble_eq_true rfl) ⟨rfl, rfl⟩ ⟨Nat.le_of_ble_eq_true rfl, Nat.le_of_ble_eq_true rfl⟩ dX6_told_38) (fun H locs hP hS => ?_)
    exact ret_i M hS hP (congrArg (fun z => (z, v)) (Option.some.inj hF)) dX6_told_41
  · replace hF := (if_neg c1).symm.trans hF
    rcases Decidable.em (a2 = 7) with c4 | c4
    · replace hF := (if_pos c4).symm.trans hF
      refine lv_tableIn (tgt := 42) hx hb dX6_told_1 (by rw [c4]; decide) (by rw [c4]; decide) (by rw [c4]; rfl) (by decide) ?_
      refine lv_aload_n hx hb dX6_told_42 rfl (lv_at hl 0 rfl) ?_
      refine lv_iload_n hx hb dX6_told_43 rfl (lv_at hl 1 rfl) ?_
      refine lv_aload_n hx hb dX6_told_44 rfl (lv_at hl 0 rfl) ?_
      refine fg_6_9 M hP dX6_told_45 ?_
      refine lv_aload_n hx hb dX6_told_48 rfl (lv_at hl 0 rfl) ?_
      obtain ⟨r6, h5, hF⟩ := bi_some hF
      refine k_i hS (kV_run M hS hP ok_X6_115 (c_X6_placeNow l G v r6 h5) (rc_6 M hP rfl) rfl hl.1 rfl (Nat.le_of_ble_eq_true rfl) ⟨rfl, rfl⟩ ⟨Nat.le_of_ble_eq_true rfl, Nat.le_of_ble_eq_true rfl⟩ dX6_told_49) (fun H locs hP hS => ?_)
      obtain ⟨g7, hF⟩ := gu_some hF
      refine r_iald (k := (r6).toNatClampNeg) M hP rfl rfl (in_c g7) rfl dX6_told_52 ?_
      obtain ⟨r9, h8, hF⟩ := bi_some hF
      refine k_i hS (kV_run M hS hP ok_X6_119 (c_X6_reaches l G a1 (v 1 ((r6).toNatClampNeg)) v r9 h8) (rc_6 M hP rfl) rfl hl.1 rfl (Nat.le_of_ble_eq_true rfl) ⟨rfl, rfl⟩ ⟨Nat.le_of_ble_eq_true rfl, Nat.le_of_ble_eq_true rfl⟩ dX6_told_53) (fun H locs hP hS => ?_)
      exact ret_i M hS hP (congrArg (fun z => (z, v)) (Option.some.inj hF)) dX6_told_56
    · replace hF := (if_neg c4).symm.trans hF
      rcases Decidable.em (a2 = 8) with c10 | c10
      · replace hF := (if_pos c10).symm.trans hF
        refine lv_tableIn (tgt := 57) hx hb dX6_told_1 (by rw [c10]; decide) (by rw [c10]; decide) (by rw [c10]; rfl) (by decide) ?_
        refine lv_aload_n hx hb dX6_told_57 rfl (lv_at hl 0 rfl) ?_
        refine lv_iload_n hx hb dX6_told_58 rfl (lv_at hl 1 rfl) ?_
        obtain ⟨r12, h11, hF⟩ := bi_some hF
        refine k_i hS (kV_run M hS hP ok_X6_122 (c_X6_tempo l G a1 v r12 h11) (rc_6 M hP rfl) rfl hl.1 rfl (Nat.le_of_ble_eq_true rfl) ⟨rfl, rfl⟩ ⟨Nat.le_of_ble_eq_true rfl, Nat.le_of_ble_eq_true rfl⟩ dX6_told_59) (fun H locs hP hS => ?_)
        exact ret_i M hS hP (congrArg (fun z => (z, v)) (Option.some.inj hF)) dX6_told_62
      · replace hF := (if_neg c10).symm.trans hF
        rcases Decidable.em (a2 = 9) with c13 | c13
        · replace hF := (if_pos c13).symm.trans hF
          refine lv_tableIn (tgt := 63) hx hb dX6_told_1 (by rw [c13]; decide) (by rw [c13]; decide) (by rw [c13]; rfl) (by decide) ?_
          refine lv_aload_n hx hb dX6_told_63 rfl (lv_at hl 0 rfl) ?_
          refine lv_iload_n hx hb dX6_told_64 rfl (lv_at hl 1 rfl) ?_
          obtain ⟨r15, h14, hF⟩ := bi_some hF
          refine k_i hS (kV_run M hS hP ok_X6_125 (c_X6_tires l G a1 v r15 h14) (rc_6 M hP rfl) rfl hl.1 rfl (Nat.le_of_ble_eq_true rfl) ⟨rfl, rfl⟩ ⟨Nat.le_of_ble_eq_true rfl, Nat.le_of_ble_eq_true rfl⟩ dX6_told_65) (fun H locs hP hS => ?_)
          exact ret_i M hS hP (congrArg (fun z => (z, v)) (Option.some.inj hF)) dX6_told_68
        · replace hF := (if_neg c13).symm.trans hF
          rcases Decidable.em (a2 = 10) with c16 | c16
          · replace hF := (if_pos c16).symm.trans hF
            refine lv_tableIn (tgt := 69) hx hb dX6_told_1 (by rw [c16]; decide) (by rw [c16]; decide) (by rw [c16]; rfl) (by decide) ?_
            refine lv_aload_n hx hb dX6_told_69 rfl (lv_at hl 0 rfl) ?_
            refine lv_iload_n hx hb dX6_told_70 rfl (lv_at hl 1 rfl) ?_
            obtain ⟨r18, h17, hF⟩ := bi_some hF
            refine k_i hS (kV_run M hS hP ok_X6_128 (c_X6_turns l G a1 v r18 h17) (rc_6 M hP rfl) rfl hl.1 rfl (Nat.le_of_ble_eq_true rfl) ⟨rfl, rfl⟩ ⟨Nat.le_of_ble_eq_true rfl, Nat.le_of_ble_eq_true rfl⟩ dX6_told_71) (fun H locs hP hS => ?_)
            exact ret_i M hS hP (congrArg (fun z => (z, v)) (Option.some.inj hF)) dX6_told_74
          · replace hF := (if_neg c16).symm.trans hF
            refine lv_tableOut (tgt := 75) hx hb dX6_told_1 (by have q0 := lv_neT (a := 6) c1 (by decide); have q1 := lv_neT (a := 7) c4 (by decide); have q2 := lv_neT (a := 8) c10 (by decide); have q3 := lv_neT (a := 9) c13 (by decide); have q4 := lv_neT (a := 10) c16 (by decide); omega) (by decide) ?_
            refine lv_aload_n hx hb dX6_told_75 rfl (lv_at hl 0 rfl) ?_
            refine lv_iload_n hx hb dX6_told_76 rfl (lv_at hl 1 rfl) ?_
            refine lv_iload_n hx hb dX6_told_77 rfl (lv_at hl 2 rfl) ?_
            obtain ⟨r20, h19, hF⟩ := bi_some hF
            refine k_i hS (kV_run M hS hP ok_X6_104 (c_X6_keeperIs l G a1 a2 v r20 h19) (rc_6 M hP rfl) rfl hl.1 rfl (Nat.le_of_ble_eq_true rfl) ⟨rfl, rfl⟩ ⟨Nat.le_of_ble_eq_true rfl, Nat.le_of_ble_eq_true rfl⟩ dX6_told_78) (fun H locs hP hS => ?_)
            exact ret_i M hS hP (congrArg (fun z => (z, v)) (Option.some.inj hF)) dX6_told_81
def F_X6_of (a1 : Int32) (a2 : Int32) (v : VV) : Option (Int32 × VV) :=
  Option.bind (F_X6_isKeeper a1 v) (fun r2 => (if r2 = true then (Option.bind (F_X6_within a2 0 10 v) (fun r9 => (if r9 = true then (Option.bind (F_X6_told a1 a2 v) (fun r16 => some (r16, v))) else (Option.bind (F_X6_finding (-1000001) v) (fun (r12, v13) => some (r12, v13)))))) else (Option.bind (F_X6_finding (-1000001) v) (fun (r5, v6) => some (r5, v6)))))
set_option maxHeartbeats 4000000 in
set_option maxRecDepth 100000 in
theorem c_X6_of (l : Launch) (G : GG) (a1 : Int32) (a2 : Int32) (v : VV) (r : Int32) (v' : VV) (hF : F_X6_of a1 a2 v = some (r, v')) : Met l yX6_of (cdW yX6_of cX6_of 3 (some .int)) ({ frames := 4, cells := 0, slots := 0, locals := 88 } : Room) (PC G v [.ref (ad G 0), .int a1, .int a2]) (QI G r v') 0 0 (gA G) := by
  refine met_in RX6 (by decide) rfl (Nat.le_of_ble_eq_true rfl) ?_
  intro p e s m below meth c M hP ls hl
  have hx := M.1.1
  have hb := M.1.2.1
  have hS : va_S (gA G) s.heap s.heap [] := va_S.rf
  have hl : lv_has ls 3 [(0, .ref (ad G 0)), (1, .int a1), (2, .int a2)] := hl
  unfold F_X6_of at hF
  refine lv_aload_n hx hb dX6_of_0 rfl (lv_at hl 0 rfl) ?_
  refine lv_iload_n hx hb dX6_of_1 rfl (lv_at hl 1 rfl) ?_
  obtain ⟨r2, h1, hF⟩ := bi_some hF
  refine k_i hS (kV_run M hS hP ok_X6_131 (c_X6_isKeeper l G a1 v r2 h1) (rc_6 M hP rfl) rfl hl.1 rfl (Nat.le_of_ble_eq_true rfl) ⟨rfl, rfl⟩ ⟨Nat.le_of_ble_eq_true rfl, Nat.le_of_ble_eq_true rfl⟩ dX6_of_2) (fun H locs hP hS => ?_)
  refine lv_if_eq (tgt := 27) hx hb dX6_of_5 (by decide) (fun c3 => ?_) (fun c3 => ?_)
  · replace hF := (if_neg (bI_f c3)).symm.trans hF
    refine lv_aload_n hx hb dX6_of_27 rfl (lv_at hl 0 rfl) ?_
    refine lv_ldc (own := RX6) (v := (-1000001)) hx hb M.1.2.2.2.1 (M.1.2.2.2.2 (Cond.constant RX6 60 (-1000001)) w_788) dX6_of_28 ?_
    obtain ⟨⟨r5, v6⟩, h4, hF⟩ := bi_some hF
    dsimp only at hF
    refine k_i hS (kV_run M hS hP ok_X6_66 (c_X6_finding l G (-1000001) v r5 v6 h4) (rc_6 M hP rfl) rfl hl.1 rfl (Nat.le_of_ble_eq_true rfl) ⟨rfl, rfl⟩ ⟨Nat.le_of_ble_eq_true rfl, Nat.le_of_ble_eq_true rfl⟩ dX6_of_30) (fun H locs hP hS => ?_)
    exact ret_i M hS hP (Option.some.inj hF) dX6_of_33
  · replace hF := (if_pos (bI_t c3)).symm.trans hF
    refine lv_iload_n hx hb dX6_of_8 rfl (lv_at hl 2 rfl) ?_
    refine lv_iconst (v := 0) hx hb dX6_of_9 (by decide) ?_
    refine lv_bipush (v := 10) hx hb dX6_of_10 (by decide) ?_
    obtain ⟨r9, h8, hF⟩ := bi_some hF
    refine k_i hS (kS_run M hS hP ok_X6_70 (c_X6_within l G a2 0 10 v r9 h8) rfl hl.1 rfl (Nat.le_of_ble_eq_true rfl) ⟨rfl, rfl⟩ ⟨Nat.le_of_ble_eq_true rfl, Nat.le_of_ble_eq_true rfl⟩ dX6_of_12) (fun H locs hP hS => ?_)
    refine lv_if_eq (tgt := 27) hx hb dX6_of_15 (by decide) (fun c10 => ?_) (fun c10 => ?_)
    · replace hF := (if_neg (bI_f c10)).symm.trans hF
      refine lv_aload_n hx hb dX6_of_27 rfl (lv_at hl 0 rfl) ?_
      refine lv_ldc (own := RX6) (v := (-1000001)) hx hb M.1.2.2.2.1 (M.1.2.2.2.2 (Cond.constant RX6 60 (-1000001)) w_788) dX6_of_28 ?_
      obtain ⟨⟨r12, v13⟩, h11, hF⟩ := bi_some hF
      dsimp only at hF
      refine k_i hS (kV_run M hS hP ok_X6_66 (c_X6_finding l G (-1000001) v r12 v13 h11) (rc_6 M hP rfl) rfl hl.1 rfl (Nat.le_of_ble_eq_true rfl) ⟨rfl, rfl⟩ ⟨Nat.le_of_ble_eq_true rfl, Nat.le_of_ble_eq_true rfl⟩ dX6_of_30) (fun H locs hP hS => ?_)
      exact ret_i M hS hP (Option.some.inj hF) dX6_of_33
    · replace hF := (if_pos (bI_t c10)).symm.trans hF
      refine lv_aload_n hx hb dX6_of_18 rfl (lv_at hl 0 rfl) ?_
      refine lv_iload_n hx hb dX6_of_19 rfl (lv_at hl 1 rfl) ?_
      refine lv_iload_n hx hb dX6_of_20 rfl (lv_at hl 2 rfl) ?_
      obtain ⟨r16, h15, hF⟩ := bi_some hF
      refine k_i hS (kV_run M hS hP ok_X6_134 (c_X6_told l G a1 a2 v r16 h15) (rc_6 M hP rfl) rfl hl.1 rfl (Nat.le_of_ble_eq_true rfl) ⟨rfl, rfl⟩ ⟨Nat.le_of_ble_eq_true rfl, Nat.le_of_ble_eq_true rfl⟩ dX6_of_21) (fun H locs hP hS => ?_)
      refine lv_goto (tgt := 33) hx hb dX6_of_24 (by decide) ?_
      exact ret_i M hS hP (Option.some.inj hF) dX6_of_33
def F_X6_isField (a0 : Int32) (a1 : Int32) (v : VV) : Option Bool :=
  if a0 = 0 then (Option.bind (F_X6_isKind a1 v) (fun r3 => some r3)) else (if a0 = 1 then (Option.bind (F_X6_isCell a1 v) (fun r6 => some r6)) else (if a0 = 2 then (Option.bind (F_X6_isNote a1 v) (fun r9 => some r9)) else (if a0 = 3 then (Option.bind (F_X6_within a1 0 15 v) (fun r12 => some r12)) else (if a0 = 4 then (Option.bind (F_X6_within a1 0 99 v) (fun r15 => some r15)) else (if a0 = 5 then (Option.bind (F_X6_within a1 0 1 v) (fun r18 => some r18)) else (some false))))))
set_option maxHeartbeats 4000000 in
set_option maxRecDepth 100000 in
theorem c_X6_isField (l : Launch) (G : GG) (a0 : Int32) (a1 : Int32) (v : VV) (r : Bool) (hF : F_X6_isField a0 a1 v = some r) : Met l yX6_isField (cdW yX6_isField cX6_isField 2 (some .boolean)) ({ frames := 2, cells := 0, slots := 0, locals := 42 } : Room) (PC G v [.int a0, .int a1]) (QI G (bI r) v) 0 0 (gA G) := by
  refine met_in RX6 (by decide) rfl (Nat.le_of_ble_eq_true rfl) ?_
  intro p e s m below meth c M hP ls hl
  have hx := M.1.1
  have hb := M.1.2.1
  have hS : va_S (gA G) s.heap s.heap [] := va_S.rf
  have hl : lv_has ls 2 [(0, .int a0), (1, .int a1)] := hl
  unfold F_X6_isField at hF
  refine lv_iload_n hx hb dX6_isField_0 rfl (lv_at hl 0 rfl) ?_
  rcases Decidable.em (a0 = 0) with c1 | c1
  · replace hF := (if_pos c1).symm.trans hF
    refine lv_tableIn (tgt := 40) hx hb dX6_isField_1 (by rw [c1]; decide) (by rw [c1]; decide) (by rw [c1]; rfl) (by decide) ?_
    refine lv_iload_n hx hb dX6_isField_40 rfl (lv_at hl 1 rfl) ?_
    obtain ⟨r3, h2, hF⟩ := bi_some hF
    refine k_i hS (kS_run M hS hP ok_X6_91 (c_X6_isKind l G a1 v r3 h2) rfl hl.1 rfl (Nat.le_of_ble_eq_true rfl) ⟨rfl, rfl⟩ ⟨Nat.le_of_ble_eq_true rfl, Nat.le_of_ble_eq_true rfl⟩ dX6_isField_41) (fun H locs hP hS => ?_)
    exact ret_z M hS hP (congrArg (fun z : Bool => (bI z, v)) (Option.some.inj hF)) (bI_nar r3) dX6_isField_44
  · replace hF := (if_neg c1).symm.trans hF
    rcases Decidable.em (a0 = 1) with c4 | c4
    · replace hF := (if_pos c4).symm.trans hF
      refine lv_tableIn (tgt := 45) hx hb dX6_isField_1 (by rw [c4]; decide) (by rw [c4]; decide) (by rw [c4]; rfl) (by decide) ?_
      refine lv_iload_n hx hb dX6_isField_45 rfl (lv_at hl 1 rfl) ?_
      obtain ⟨r6, h5, hF⟩ := bi_some hF
      refine k_i hS (kS_run M hS hP ok_X6_94 (c_X6_isCell l G a1 v r6 h5) rfl hl.1 rfl (Nat.le_of_ble_eq_true rfl) ⟨rfl, rfl⟩ ⟨Nat.le_of_ble_eq_true rfl, Nat.le_of_ble_eq_true rfl⟩ dX6_isField_46) (fun H locs hP hS => ?_)
      exact ret_z M hS hP (congrArg (fun z : Bool => (bI z, v)) (Option.some.inj hF)) (bI_nar r6) dX6_isField_49
    · replace hF := (if_neg c4).symm.trans hF
      rcases Decidable.em (a0 = 2) with c7 | c7
      · replace hF := (if_pos c7).symm.trans hF
        refine lv_tableIn (tgt := 50) hx hb dX6_isField_1 (by rw [c7]; decide) (by rw [c7]; decide) (by rw [c7]; rfl) (by decide) ?_
        refine lv_iload_n hx hb dX6_isField_50 rfl (lv_at hl 1 rfl) ?_
        obtain ⟨r9, h8, hF⟩ := bi_some hF
        refine k_i hS (kS_run M hS hP ok_X6_137 (c_X6_isNote l G a1 v r9 h8) rfl hl.1 rfl (Nat.le_of_ble_eq_true rfl) ⟨rfl, rfl⟩ ⟨Nat.le_of_ble_eq_true rfl, Nat.le_of_ble_eq_true rfl⟩ dX6_isField_51) (fun H locs hP hS => ?_)
        exact ret_z M hS hP (congrArg (fun z : Bool => (bI z, v)) (Option.some.inj hF)) (bI_nar r9) dX6_isField_54
      · replace hF := (if_neg c7).symm.trans hF
        rcases Decidable.em (a0 = 3) with c10 | c10
        · replace hF := (if_pos c10).symm.trans hF
          refine lv_tableIn (tgt := 55) hx hb dX6_isField_1 (by rw [c10]; decide) (by rw [c10]; decide) (by rw [c10]; rfl) (by decide) ?_
          refine lv_iload_n hx hb dX6_isField_55 rfl (lv_at hl 1 rfl) ?_
          refine lv_iconst (v := 0) hx hb dX6_isField_56 (by decide) ?_
          refine lv_bipush (v := 15) hx hb dX6_isField_57 (by decide) ?_
          obtain ⟨r12, h11, hF⟩ := bi_some hF
          refine k_i hS (kS_run M hS hP ok_X6_70 (c_X6_within l G a1 0 15 v r12 h11) rfl hl.1 rfl (Nat.le_of_ble_eq_true rfl) ⟨rfl, rfl⟩ ⟨Nat.le_of_ble_eq_true rfl, Nat.le_of_ble_eq_true rfl⟩ dX6_isField_59) (fun H locs hP hS => ?_)
          exact ret_z M hS hP (congrArg (fun z : Bool => (bI z, v)) (Option.some.inj hF)) (bI_nar r12) dX6_isField_62
        · replace hF := (if_neg c10).symm.trans hF
          rcases Decidable.em (a0 = 4) with c13 | c13
          · replace hF := (if_pos c13).symm.trans hF
            refine lv_tableIn (tgt := 63) hx hb dX6_isField_1 (by rw [c13]; decide) (by rw [c13]; decide) (by rw [c13]; rfl) (by decide) ?_
            refine lv_iload_n hx hb dX6_isField_63 rfl (lv_at hl 1 rfl) ?_
            refine lv_iconst (v := 0) hx hb dX6_isField_64 (by decide) ?_
            refine lv_bipush (v := 99) hx hb dX6_isField_65 (by decide) ?_
            obtain ⟨r15, h14, hF⟩ := bi_some hF
            refine k_i hS (kS_run M hS hP ok_X6_70 (c_X6_within l G a1 0 99 v r15 h14) rfl hl.1 rfl (Nat.le_of_ble_eq_true rfl) ⟨rfl, rfl⟩ ⟨Nat.le_of_ble_eq_true rfl, Nat.le_of_ble_eq_true rfl⟩ dX6_isField_67) (fun H locs hP hS => ?_)
            exact ret_z M hS hP (congrArg (fun z : Bool => (bI z, v)) (Option.some.inj hF)) (bI_nar r15) dX6_isField_70
          · replace hF := (if_neg c13).symm.trans hF
            rcases Decidable.em (a0 = 5) with c16 | c16
            · replace hF := (if_pos c16).symm.trans hF
              refine lv_tableIn (tgt := 71) hx hb dX6_isField_1 (by rw [c16]; decide) (by rw [c16]; decide) (by rw [c16]; rfl) (by decide) ?_
              refine lv_iload_n hx hb dX6_isField_71 rfl (lv_at hl 1 rfl) ?_
              refine lv_iconst (v := 0) hx hb dX6_isField_72 (by decide) ?_
              refine lv_iconst (v := 1) hx hb dX6_isField_73 (by decide) ?_
              obtain ⟨r18, h17, hF⟩ := bi_some hF
              refine k_i hS (kS_run M hS hP ok_X6_70 (c_X6_within l G a1 0 1 v r18 h17) rfl hl.1 rfl (Nat.le_of_ble_eq_true rfl) ⟨rfl, rfl⟩ ⟨Nat.le_of_ble_eq_true rfl, Nat.le_of_ble_eq_true rfl⟩ dX6_isField_74) (fun H locs hP hS => ?_)
              exact ret_z M hS hP (congrArg (fun z : Bool => (bI z, v)) (Option.some.inj hF)) (bI_nar r18) dX6_isField_77
            · replace hF := (if_neg c16).symm.trans hF
              refine lv_tableOut (tgt := 78) hx hb dX6_isField_1 (by have q0 := lv_neT (a := 0) c1 (by decide); have q1 := lv_neT (a := 1) c4 (by decide); have q2 := lv_neT (a := 2) c7 (by decide); have q3 := lv_neT (a := 3) c10 (by decide); have q4 := lv_neT (a := 4) c13 (by decide); have q5 := lv_neT (a := 5) c16 (by decide); omega) (by decide) ?_
              refine lv_iconst (v := 0) hx hb dX6_isField_78 (by decide) ?_
              exact ret_z M hS hP (congrArg (fun z : Bool => (bI z, v)) (Option.some.inj hF)) rfl dX6_isField_79
def F_X6_change (a1 : Int32) (a2 : Int32) (a3 : Int32) (v : VV) : Option (Int32 × VV) :=
  Option.bind (F_X6_isKeeper a1 v) (fun r2 => (if r2 = true then (Option.bind (F_X6_isField a2 a3 v) (fun r9 => (if r9 = true then (Option.bind (F_X6_keeperAt a1 a2 v) (fun r16 => Option.bind (F_X6_become r16 a3 v) (fun (r18, v19) => some (r18, v19)))) else (Option.bind (F_X6_finding (-1000001) v) (fun (r12, v13) => some (r12, v13)))))) else (Option.bind (F_X6_finding (-1000001) v) (fun (r5, v6) => some (r5, v6)))))
set_option maxHeartbeats 4000000 in
set_option maxRecDepth 100000 in
theorem c_X6_change (l : Launch) (G : GG) (a1 : Int32) (a2 : Int32) (a3 : Int32) (v : VV) (r : Int32) (v' : VV) (hF : F_X6_change a1 a2 a3 v = some (r, v')) : Met l yX6_change (cdW yX6_change cX6_change 4 (some .int)) ({ frames := 3, cells := 0, slots := 0, locals := 63 } : Room) (PC G v [.ref (ad G 0), .int a1, .int a2, .int a3]) (QI G r v') 0 0 (gA G) := by
  refine met_in RX6 (by decide) rfl (Nat.le_of_ble_eq_true rfl) ?_
  intro p e s m below meth c M hP ls hl
  have hx := M.1.1
  have hb := M.1.2.1
  have hS : va_S (gA G) s.heap s.heap [] := va_S.rf
  have hl : lv_has ls 4 [(0, .ref (ad G 0)), (1, .int a1), (2, .int a2), (3, .int a3)] := hl
  unfold F_X6_change at hF
  refine lv_aload_n hx hb dX6_change_0 rfl (lv_at hl 0 rfl) ?_
  refine lv_iload_n hx hb dX6_change_1 rfl (lv_at hl 1 rfl) ?_
  obtain ⟨r2, h1, hF⟩ := bi_some hF
  refine k_i hS (kV_run M hS hP ok_X6_131 (c_X6_isKeeper l G a1 v r2 h1) (rc_6 M hP rfl) rfl hl.1 rfl (Nat.le_of_ble_eq_true rfl) ⟨rfl, rfl⟩ ⟨Nat.le_of_ble_eq_true rfl, Nat.le_of_ble_eq_true rfl⟩ dX6_change_2) (fun H locs hP hS => ?_)
  refine lv_if_eq (tgt := 29) hx hb dX6_change_5 (by decide) (fun c3 => ?_) (fun c3 => ?_)
  · replace hF := (if_neg (bI_f c3)).symm.trans hF
    refine lv_aload_n hx hb dX6_change_29 rfl (lv_at hl 0 rfl) ?_
    refine lv_ldc (own := RX6) (v := (-1000001)) hx hb M.1.2.2.2.1 (M.1.2.2.2.2 (Cond.constant RX6 60 (-1000001)) w_788) dX6_change_30 ?_
    obtain ⟨⟨r5, v6⟩, h4, hF⟩ := bi_some hF
    dsimp only at hF
    refine k_i hS (kV_run M hS hP ok_X6_66 (c_X6_finding l G (-1000001) v r5 v6 h4) (rc_6 M hP rfl) rfl hl.1 rfl (Nat.le_of_ble_eq_true rfl) ⟨rfl, rfl⟩ ⟨Nat.le_of_ble_eq_true rfl, Nat.le_of_ble_eq_true rfl⟩ dX6_change_32) (fun H locs hP hS => ?_)
    exact ret_i M hS hP (Option.some.inj hF) dX6_change_35
  · replace hF := (if_pos (bI_t c3)).symm.trans hF
    refine lv_iload_n hx hb dX6_change_8 rfl (lv_at hl 2 rfl) ?_
    refine lv_iload_n hx hb dX6_change_9 rfl (lv_at hl 3 rfl) ?_
    obtain ⟨r9, h8, hF⟩ := bi_some hF
    refine k_i hS (kS_run M hS hP ok_X6_140 (c_X6_isField l G a2 a3 v r9 h8) rfl hl.1 rfl (Nat.le_of_ble_eq_true rfl) ⟨rfl, rfl⟩ ⟨Nat.le_of_ble_eq_true rfl, Nat.le_of_ble_eq_true rfl⟩ dX6_change_10) (fun H locs hP hS => ?_)
    refine lv_if_eq (tgt := 29) hx hb dX6_change_13 (by decide) (fun c10 => ?_) (fun c10 => ?_)
    · replace hF := (if_neg (bI_f c10)).symm.trans hF
      refine lv_aload_n hx hb dX6_change_29 rfl (lv_at hl 0 rfl) ?_
      refine lv_ldc (own := RX6) (v := (-1000001)) hx hb M.1.2.2.2.1 (M.1.2.2.2.2 (Cond.constant RX6 60 (-1000001)) w_788) dX6_change_30 ?_
      obtain ⟨⟨r12, v13⟩, h11, hF⟩ := bi_some hF
      dsimp only at hF
      refine k_i hS (kV_run M hS hP ok_X6_66 (c_X6_finding l G (-1000001) v r12 v13 h11) (rc_6 M hP rfl) rfl hl.1 rfl (Nat.le_of_ble_eq_true rfl) ⟨rfl, rfl⟩ ⟨Nat.le_of_ble_eq_true rfl, Nat.le_of_ble_eq_true rfl⟩ dX6_change_32) (fun H locs hP hS => ?_)
      exact ret_i M hS hP (Option.some.inj hF) dX6_change_35
    · replace hF := (if_pos (bI_t c10)).symm.trans hF
      refine lv_aload_n hx hb dX6_change_16 rfl (lv_at hl 0 rfl) ?_
      refine lv_iload_n hx hb dX6_change_17 rfl (lv_at hl 1 rfl) ?_
      refine lv_iload_n hx hb dX6_change_18 rfl (lv_at hl 2 rfl) ?_
      obtain ⟨r16, h15, hF⟩ := bi_some hF
      refine k_i hS (kS_run M hS hP ok_X6_85 (c_X6_keeperAt l G a1 a2 v r16 h15) rfl hl.1 rfl (Nat.le_of_ble_eq_true rfl) ⟨rfl, rfl⟩ ⟨Nat.le_of_ble_eq_true rfl, Nat.le_of_ble_eq_true rfl⟩ dX6_change_19) (fun H locs hP hS => ?_)
      refine lv_iload_n hx hb dX6_change_22 rfl (lv_at hl 3 rfl) ?_
      obtain ⟨⟨r18, v19⟩, h17, hF⟩ := bi_some hF
      dsimp only at hF
      refine k_i hS (kV_run M hS hP ok_X6_81 (c_X6_become l G r16 a3 v r18 v19 h17) (rc_6 M hP rfl) rfl hl.1 rfl (Nat.le_of_ble_eq_true rfl) ⟨rfl, rfl⟩ ⟨Nat.le_of_ble_eq_true rfl, Nat.le_of_ble_eq_true rfl⟩ dX6_change_23) (fun H locs hP hS => ?_)
      refine lv_goto (tgt := 35) hx hb dX6_change_26 (by decide) ?_
      exact ret_i M hS hP (Option.some.inj hF) dX6_change_35
def F_X6_ofChild (a1 : Int32) (a2 : Int32) (v : VV) : Option (Int32 × VV) :=
  Option.bind (F_X6_isChild a1 v) (fun r2 => (if r2 = true then (Option.bind (F_X6_within a2 0 3 v) (fun r9 => (if r9 = true then (Option.bind (F_X6_childIs a1 a2 v) (fun r16 => some (r16, v))) else (Option.bind (F_X6_finding (-1000001) v) (fun (r12, v13) => some (r12, v13)))))) else (Option.bind (F_X6_finding (-1000001) v) (fun (r5, v6) => some (r5, v6)))))
set_option maxHeartbeats 4000000 in
set_option maxRecDepth 100000 in
theorem c_X6_ofChild (l : Launch) (G : GG) (a1 : Int32) (a2 : Int32) (v : VV) (r : Int32) (v' : VV) (hF : F_X6_ofChild a1 a2 v = some (r, v')) : Met l yX6_ofChild (cdW yX6_ofChild cX6_ofChild 3 (some .int)) ({ frames := 2, cells := 0, slots := 0, locals := 43 } : Room) (PC G v [.ref (ad G 0), .int a1, .int a2]) (QI G r v') 0 0 (gA G) := by
  refine met_in RX6 (by decide) rfl (Nat.le_of_ble_eq_true rfl) ?_
  intro p e s m below meth c M hP ls hl
  have hx := M.1.1
  have hb := M.1.2.1
  have hS : va_S (gA G) s.heap s.heap [] := va_S.rf
  have hl : lv_has ls 3 [(0, .ref (ad G 0)), (1, .int a1), (2, .int a2)] := hl
  unfold F_X6_ofChild at hF
  refine lv_aload_n hx hb dX6_ofChild_0 rfl (lv_at hl 0 rfl) ?_
  refine lv_iload_n hx hb dX6_ofChild_1 rfl (lv_at hl 1 rfl) ?_
  obtain ⟨r2, h1, hF⟩ := bi_some hF
  refine k_i hS (kV_run M hS hP ok_X6_144 (c_X6_isChild l G a1 v r2 h1) (rc_6 M hP rfl) rfl hl.1 rfl (Nat.le_of_ble_eq_true rfl) ⟨rfl, rfl⟩ ⟨Nat.le_of_ble_eq_true rfl, Nat.le_of_ble_eq_true rfl⟩ dX6_ofChild_2) (fun H locs hP hS => ?_)
  refine lv_if_eq (tgt := 26) hx hb dX6_ofChild_5 (by decide) (fun c3 => ?_) (fun c3 => ?_)
  · replace hF := (if_neg (bI_f c3)).symm.trans hF
    refine lv_aload_n hx hb dX6_ofChild_26 rfl (lv_at hl 0 rfl) ?_
    refine lv_ldc (own := RX6) (v := (-1000001)) hx hb M.1.2.2.2.1 (M.1.2.2.2.2 (Cond.constant RX6 60 (-1000001)) w_788) dX6_ofChild_27 ?_
    obtain ⟨⟨r5, v6⟩, h4, hF⟩ := bi_some hF
    dsimp only at hF
    refine k_i hS (kV_run M hS hP ok_X6_66 (c_X6_finding l G (-1000001) v r5 v6 h4) (rc_6 M hP rfl) rfl hl.1 rfl (Nat.le_of_ble_eq_true rfl) ⟨rfl, rfl⟩ ⟨Nat.le_of_ble_eq_true rfl, Nat.le_of_ble_eq_true rfl⟩ dX6_ofChild_29) (fun H locs hP hS => ?_)
    exact ret_i M hS hP (Option.some.inj hF) dX6_ofChild_32
  · replace hF := (if_pos (bI_t c3)).symm.trans hF
    refine lv_iload_n hx hb dX6_ofChild_8 rfl (lv_at hl 2 rfl) ?_
    refine lv_iconst (v := 0) hx hb dX6_ofChild_9 (by decide) ?_
    refine lv_iconst (v := 3) hx hb dX6_ofChild_10 (by decide) ?_
    obtain ⟨r9, h8, hF⟩ := bi_some hF
    refine k_i hS (kS_run M hS hP ok_X6_70 (c_X6_within l G a2 0 3 v r9 h8) rfl hl.1 rfl (Nat.le_of_ble_eq_true rfl) ⟨rfl, rfl⟩ ⟨Nat.le_of_ble_eq_true rfl, Nat.le_of_ble_eq_true rfl⟩ dX6_ofChild_11) (fun H locs hP hS => ?_)
    refine lv_if_eq (tgt := 26) hx hb dX6_ofChild_14 (by decide) (fun c10 => ?_) (fun c10 => ?_)
    · replace hF := (if_neg (bI_f c10)).symm.trans hF
      refine lv_aload_n hx hb dX6_ofChild_26 rfl (lv_at hl 0 rfl) ?_
      refine lv_ldc (own := RX6) (v := (-1000001)) hx hb M.1.2.2.2.1 (M.1.2.2.2.2 (Cond.constant RX6 60 (-1000001)) w_788) dX6_ofChild_27 ?_
      obtain ⟨⟨r12, v13⟩, h11, hF⟩ := bi_some hF
      dsimp only at hF
      refine k_i hS (kV_run M hS hP ok_X6_66 (c_X6_finding l G (-1000001) v r12 v13 h11) (rc_6 M hP rfl) rfl hl.1 rfl (Nat.le_of_ble_eq_true rfl) ⟨rfl, rfl⟩ ⟨Nat.le_of_ble_eq_true rfl, Nat.le_of_ble_eq_true rfl⟩ dX6_ofChild_29) (fun H locs hP hS => ?_)
      exact ret_i M hS hP (Option.some.inj hF) dX6_ofChild_32
    · replace hF := (if_pos (bI_t c10)).symm.trans hF
      refine lv_aload_n hx hb dX6_ofChild_17 rfl (lv_at hl 0 rfl) ?_
      refine lv_iload_n hx hb dX6_ofChild_18 rfl (lv_at hl 1 rfl) ?_
      refine lv_iload_n hx hb dX6_ofChild_19 rfl (lv_at hl 2 rfl) ?_
      obtain ⟨r16, h15, hF⟩ := bi_some hF
      refine k_i hS (kV_run M hS hP ok_X6_147 (c_X6_childIs l G a1 a2 v r16 h15) (rc_6 M hP rfl) rfl hl.1 rfl (Nat.le_of_ble_eq_true rfl) ⟨rfl, rfl⟩ ⟨Nat.le_of_ble_eq_true rfl, Nat.le_of_ble_eq_true rfl⟩ dX6_ofChild_20) (fun H locs hP hS => ?_)
      refine lv_goto (tgt := 32) hx hb dX6_ofChild_23 (by decide) ?_
      exact ret_i M hS hP (Option.some.inj hF) dX6_ofChild_32
def F_X6_isChildField (a0 : Int32) (a1 : Int32) (v : VV) : Option Bool :=
  if a0 = 0 then (Option.bind (F_X6_isCell a1 v) (fun r3 => some r3)) else (if a0 = 1 then (Option.bind (F_X6_within a1 0 9 v) (fun r6 => some r6)) else (if a0 = 2 then (Option.bind (F_X6_isSet a1 v) (fun r9 => some r9)) else (if a0 = 3 then (Option.bind (F_X6_isSet a1 v) (fun r12 => some r12)) else (some false))))
set_option maxHeartbeats 4000000 in
set_option maxRecDepth 100000 in
theorem c_X6_isChildField (l : Launch) (G : GG) (a0 : Int32) (a1 : Int32) (v : VV) (r : Bool) (hF : F_X6_isChildField a0 a1 v = some r) : Met l yX6_isChildField (cdW yX6_isChildField cX6_isChildField 2 (some .boolean)) ({ frames := 2, cells := 0, slots := 0, locals := 42 } : Room) (PC G v [.int a0, .int a1]) (QI G (bI r) v) 0 0 (gA G) := by
  refine met_in RX6 (by decide) rfl (Nat.le_of_ble_eq_true rfl) ?_
  intro p e s m below meth c M hP ls hl
  have hx := M.1.1
  have hb := M.1.2.1
  have hS : va_S (gA G) s.heap s.heap [] := va_S.rf
  have hl : lv_has ls 2 [(0, .int a0), (1, .int a1)] := hl
  unfold F_X6_isChildField at hF
  refine lv_iload_n hx hb dX6_isChildField_0 rfl (lv_at hl 0 rfl) ?_
  rcases Decidable.em (a0 = 0) with c1 | c1
  · replace hF := (if_pos c1).symm.trans hF
    refine lv_tableIn (tgt := 32) hx hb dX6_isChildField_1 (by rw [c1]; decide) (by rw [c1]; decide) (by rw [c1]; rfl) (by decide) ?_
    refine lv_iload_n hx hb dX6_isChildField_32 rfl (lv_at hl 1 rfl) ?_
    obtain ⟨r3, h2, hF⟩ := bi_some hF
    refine k_i hS (kS_run M hS hP ok_X6_94 (c_X6_isCell l G a1 v r3 h2) rfl hl.1 rfl (Nat.le_of_ble_eq_true rfl) ⟨rfl, rfl⟩ ⟨Nat.le_of_ble_eq_true rfl, Nat.le_of_ble_eq_true rfl⟩ dX6_isChildField_33) (fun H locs hP hS => ?_)
    exact ret_z M hS hP (congrArg (fun z : Bool => (bI z, v)) (Option.some.inj hF)) (bI_nar r3) dX6_isChildField_36
  · replace hF := (if_neg c1).symm.trans hF
    rcases Decidable.em (a0 = 1) with c4 | c4
    · replace hF := (if_pos c4).symm.trans hF
      refine lv_tableIn (tgt := 37) hx hb dX6_isChildField_1 (by rw [c4]; decide) (by rw [c4]; decide) (by rw [c4]; rfl) (by decide) ?_
      refine lv_iload_n hx hb dX6_isChildField_37 rfl (lv_at hl 1 rfl) ?_
      refine lv_iconst (v := 0) hx hb dX6_isChildField_38 (by decide) ?_
      refine lv_bipush (v := 9) hx hb dX6_isChildField_39 (by decide) ?_
      obtain ⟨r6, h5, hF⟩ := bi_some hF
      refine k_i hS (kS_run M hS hP ok_X6_70 (c_X6_within l G a1 0 9 v r6 h5) rfl hl.1 rfl (Nat.le_of_ble_eq_true rfl) ⟨rfl, rfl⟩ ⟨Nat.le_of_ble_eq_true rfl, Nat.le_of_ble_eq_true rfl⟩ dX6_isChildField_41) (fun H locs hP hS => ?_)
      exact ret_z M hS hP (congrArg (fun z : Bool => (bI z, v)) (Option.some.inj hF)) (bI_nar r6) dX6_isChildField_44
    · replace hF := (if_neg c4).symm.trans hF
      rcases Decidable.em (a0 = 2) with c7 | c7
      · replace hF := (if_pos c7).symm.trans hF
        refine lv_tableIn (tgt := 45) hx hb dX6_isChildField_1 (by rw [c7]; decide) (by rw [c7]; decide) (by rw [c7]; rfl) (by decide) ?_
        refine lv_iload_n hx hb dX6_isChildField_45 rfl (lv_at hl 1 rfl) ?_
        obtain ⟨r9, h8, hF⟩ := bi_some hF
        refine k_i hS (kS_run M hS hP ok_X6_150 (c_X6_isSet l G a1 v r9 h8) rfl hl.1 rfl (Nat.le_of_ble_eq_true rfl) ⟨rfl, rfl⟩ ⟨Nat.le_of_ble_eq_true rfl, Nat.le_of_ble_eq_true rfl⟩ dX6_isChildField_46) (fun H locs hP hS => ?_)
        exact ret_z M hS hP (congrArg (fun z : Bool => (bI z, v)) (Option.some.inj hF)) (bI_nar r9) dX6_isChildField_49
      · replace hF := (if_neg c7).symm.trans hF
        rcases Decidable.em (a0 = 3) with c10 | c10
        · replace hF := (if_pos c10).symm.trans hF
          refine lv_tableIn (tgt := 45) hx hb dX6_isChildField_1 (by rw [c10]; decide) (by rw [c10]; decide) (by rw [c10]; rfl) (by decide) ?_
          refine lv_iload_n hx hb dX6_isChildField_45 rfl (lv_at hl 1 rfl) ?_
          obtain ⟨r12, h11, hF⟩ := bi_some hF
          refine k_i hS (kS_run M hS hP ok_X6_150 (c_X6_isSet l G a1 v r12 h11) rfl hl.1 rfl (Nat.le_of_ble_eq_true rfl) ⟨rfl, rfl⟩ ⟨Nat.le_of_ble_eq_true rfl, Nat.le_of_ble_eq_true rfl⟩ dX6_isChildField_46) (fun H locs hP hS => ?_)
          exact ret_z M hS hP (congrArg (fun z : Bool => (bI z, v)) (Option.some.inj hF)) (bI_nar r12) dX6_isChildField_49
        · replace hF := (if_neg c10).symm.trans hF
          refine lv_tableOut (tgt := 50) hx hb dX6_isChildField_1 (by have q0 := lv_neT (a := 0) c1 (by decide); have q1 := lv_neT (a := 1) c4 (by decide); have q2 := lv_neT (a := 2) c7 (by decide); have q3 := lv_neT (a := 3) c10 (by decide); omega) (by decide) ?_
          refine lv_iconst (v := 0) hx hb dX6_isChildField_50 (by decide) ?_
          exact ret_z M hS hP (congrArg (fun z : Bool => (bI z, v)) (Option.some.inj hF)) rfl dX6_isChildField_51
def F_X6_teach (a1 : Int32) (a2 : Int32) (a3 : Int32) (v : VV) : Option (Int32 × VV) :=
  Option.bind (F_X6_isChild a1 v) (fun r2 => (if r2 = true then (Option.bind (F_X6_isChildField a2 a3 v) (fun r9 => (if r9 = true then (Option.bind (F_X6_childAt a1 a2 v) (fun r16 => Option.bind (F_X6_become r16 a3 v) (fun (r18, v19) => some (r18, v19)))) else (Option.bind (F_X6_finding (-1000001) v) (fun (r12, v13) => some (r12, v13)))))) else (Option.bind (F_X6_finding (-1000001) v) (fun (r5, v6) => some (r5, v6)))))
set_option maxHeartbeats 4000000 in
set_option maxRecDepth 100000 in
theorem c_X6_teach (l : Launch) (G : GG) (a1 : Int32) (a2 : Int32) (a3 : Int32) (v : VV) (r : Int32) (v' : VV) (hF : F_X6_teach a1 a2 a3 v = some (r, v')) : Met l yX6_teach (cdW yX6_teach cX6_teach 4 (some .int)) ({ frames := 3, cells := 0, slots := 0, locals := 63 } : Room) (PC G v [.ref (ad G 0), .int a1, .int a2, .int a3]) (QI G r v') 0 0 (gA G) := by
  refine met_in RX6 (by decide) rfl (Nat.le_of_ble_eq_true rfl) ?_
  intro p e s m below meth c M hP ls hl
  have hx := M.1.1
  have hb := M.1.2.1
  have hS : va_S (gA G) s.heap s.heap [] := va_S.rf
  have hl : lv_has ls 4 [(0, .ref (ad G 0)), (1, .int a1), (2, .int a2), (3, .int a3)] := hl
  unfold F_X6_teach at hF
  refine lv_aload_n hx hb dX6_teach_0 rfl (lv_at hl 0 rfl) ?_
  refine lv_iload_n hx hb dX6_teach_1 rfl (lv_at hl 1 rfl) ?_
  obtain ⟨r2, h1, hF⟩ := bi_some hF
  refine k_i hS (kV_run M hS hP ok_X6_144 (c_X6_isChild l G a1 v r2 h1) (rc_6 M hP rfl) rfl hl.1 rfl (Nat.le_of_ble_eq_true rfl) ⟨rfl, rfl⟩ ⟨Nat.le_of_ble_eq_true rfl, Nat.le_of_ble_eq_true rfl⟩ dX6_teach_2) (fun H locs hP hS => ?_)
  refine lv_if_eq (tgt := 29) hx hb dX6_teach_5 (by decide) (fun c3 => ?_) (fun c3 => ?_)
  · replace hF := (if_neg (bI_f c3)).symm.trans hF
    refine lv_aload_n hx hb dX6_teach_29 rfl (lv_at hl 0 rfl) ?_
    refine lv_ldc (own := RX6) (v := (-1000001)) hx hb M.1.2.2.2.1 (M.1.2.2.2.2 (Cond.constant RX6 60 (-1000001)) w_788) dX6_teach_30 ?_
    obtain ⟨⟨r5, v6⟩, h4, hF⟩ := bi_some hF
    dsimp only at hF
    refine k_i hS (kV_run M hS hP ok_X6_66 (c_X6_finding l G (-1000001) v r5 v6 h4) (rc_6 M hP rfl) rfl hl.1 rfl (Nat.le_of_ble_eq_true rfl) ⟨rfl, rfl⟩ ⟨Nat.le_of_ble_eq_true rfl, Nat.le_of_ble_eq_true rfl⟩ dX6_teach_32) (fun H locs hP hS => ?_)
    exact ret_i M hS hP (Option.some.inj hF) dX6_teach_35
  · replace hF := (if_pos (bI_t c3)).symm.trans hF
    refine lv_iload_n hx hb dX6_teach_8 rfl (lv_at hl 2 rfl) ?_
    refine lv_iload_n hx hb dX6_teach_9 rfl (lv_at hl 3 rfl) ?_
    obtain ⟨r9, h8, hF⟩ := bi_some hF
    refine k_i hS (kS_run M hS hP ok_X6_153 (c_X6_isChildField l G a2 a3 v r9 h8) rfl hl.1 rfl (Nat.le_of_ble_eq_true rfl) ⟨rfl, rfl⟩ ⟨Nat.le_of_ble_eq_true rfl, Nat.le_of_ble_eq_true rfl⟩ dX6_teach_10) (fun H locs hP hS => ?_)
    refine lv_if_eq (tgt := 29) hx hb dX6_teach_13 (by decide) (fun c10 => ?_) (fun c10 => ?_)
    · replace hF := (if_neg (bI_f c10)).symm.trans hF
      refine lv_aload_n hx hb dX6_teach_29 rfl (lv_at hl 0 rfl) ?_
      refine lv_ldc (own := RX6) (v := (-1000001)) hx hb M.1.2.2.2.1 (M.1.2.2.2.2 (Cond.constant RX6 60 (-1000001)) w_788) dX6_teach_30 ?_
      obtain ⟨⟨r12, v13⟩, h11, hF⟩ := bi_some hF
      dsimp only at hF
      refine k_i hS (kV_run M hS hP ok_X6_66 (c_X6_finding l G (-1000001) v r12 v13 h11) (rc_6 M hP rfl) rfl hl.1 rfl (Nat.le_of_ble_eq_true rfl) ⟨rfl, rfl⟩ ⟨Nat.le_of_ble_eq_true rfl, Nat.le_of_ble_eq_true rfl⟩ dX6_teach_32) (fun H locs hP hS => ?_)
      exact ret_i M hS hP (Option.some.inj hF) dX6_teach_35
    · replace hF := (if_pos (bI_t c10)).symm.trans hF
      refine lv_aload_n hx hb dX6_teach_16 rfl (lv_at hl 0 rfl) ?_
      refine lv_iload_n hx hb dX6_teach_17 rfl (lv_at hl 1 rfl) ?_
      refine lv_iload_n hx hb dX6_teach_18 rfl (lv_at hl 2 rfl) ?_
      obtain ⟨r16, h15, hF⟩ := bi_some hF
      refine k_i hS (kS_run M hS hP ok_X6_88 (c_X6_childAt l G a1 a2 v r16 h15) rfl hl.1 rfl (Nat.le_of_ble_eq_true rfl) ⟨rfl, rfl⟩ ⟨Nat.le_of_ble_eq_true rfl, Nat.le_of_ble_eq_true rfl⟩ dX6_teach_19) (fun H locs hP hS => ?_)
      refine lv_iload_n hx hb dX6_teach_22 rfl (lv_at hl 3 rfl) ?_
      obtain ⟨⟨r18, v19⟩, h17, hF⟩ := bi_some hF
      dsimp only at hF
      refine k_i hS (kV_run M hS hP ok_X6_81 (c_X6_become l G r16 a3 v r18 v19 h17) (rc_6 M hP rfl) rfl hl.1 rfl (Nat.le_of_ble_eq_true rfl) ⟨rfl, rfl⟩ ⟨Nat.le_of_ble_eq_true rfl, Nat.le_of_ble_eq_true rfl⟩ dX6_teach_23) (fun H locs hP hS => ?_)
      refine lv_goto (tgt := 35) hx hb dX6_teach_26 (by decide) ?_
      exact ret_i M hS hP (Option.some.inj hF) dX6_teach_35
def F_X6_doesHear (a1 : Int32) (a2 : Int32) (a3 : Int32) (v : VV) : Option Bool :=
  Option.bind (F_X6_childIs a1 0 v) (fun r2 => Option.bind (F_X6_keeperIs a2 1 v) (fun r4 => Option.bind (F_X6_keeperIs a2 5 v) (fun r6 => (if r6 = 0 then (Option.bind (F_X6_reaches a2 a3 v) (fun r9 => (if r9 < (if 0 ≤ (r2 - r4) then (r2 - r4) else 0 - (r2 - r4) : Int32) then (some false) else (some true)))) else (some false)))))
set_option maxHeartbeats 4000000 in
set_option maxRecDepth 100000 in
theorem c_X6_doesHear (l : Launch) (G : GG) (a1 : Int32) (a2 : Int32) (a3 : Int32) (v : VV) (r : Bool) (hF : F_X6_doesHear a1 a2 a3 v = some r) : Met l yX6_doesHear (cdW yX6_doesHear cX6_doesHear 5 (some .boolean)) ({ frames := 3, cells := 0, slots := 0, locals := 66 } : Room) (PC G v [.ref (ad G 0), .int a1, .int a2, .int a3]) (QI G (bI r) v) 0 0 (gA G) := by
  refine met_in RX6 (by decide) rfl (Nat.le_of_ble_eq_true rfl) ?_
  intro p e s m below meth c M hP ls hl
  have hx := M.1.1
  have hb := M.1.2.1
  have hS : va_S (gA G) s.heap s.heap [] := va_S.rf
  have hl : lv_has ls 5 [(0, .ref (ad G 0)), (1, .int a1), (2, .int a2), (3, .int a3)] := hl
  unfold F_X6_doesHear at hF
  refine lv_aload_n hx hb dX6_doesHear_0 rfl (lv_at hl 0 rfl) ?_
  refine lv_iload_n hx hb dX6_doesHear_1 rfl (lv_at hl 1 rfl) ?_
  refine lv_iconst (v := 0) hx hb dX6_doesHear_2 (by decide) ?_
  obtain ⟨r2, h1, hF⟩ := bi_some hF
  refine k_i hS (kV_run M hS hP ok_X6_147 (c_X6_childIs l G a1 0 v r2 h1) (rc_6 M hP rfl) rfl hl.1 rfl (Nat.le_of_ble_eq_true rfl) ⟨rfl, rfl⟩ ⟨Nat.le_of_ble_eq_true rfl, Nat.le_of_ble_eq_true rfl⟩ dX6_doesHear_3) (fun H locs hP hS => ?_)
  refine lv_aload_n hx hb dX6_doesHear_6 rfl (lv_at hl 0 rfl) ?_
  refine lv_iload_n hx hb dX6_doesHear_7 rfl (lv_at hl 2 rfl) ?_
  refine lv_iconst (v := 1) hx hb dX6_doesHear_8 (by decide) ?_
  obtain ⟨r4, h3, hF⟩ := bi_some hF
  refine k_i hS (kV_run M hS hP ok_X6_104 (c_X6_keeperIs l G a2 1 v r4 h3) (rc_6 M hP rfl) rfl hl.1 rfl (Nat.le_of_ble_eq_true rfl) ⟨rfl, rfl⟩ ⟨Nat.le_of_ble_eq_true rfl, Nat.le_of_ble_eq_true rfl⟩ dX6_doesHear_9) (fun H locs hP hS => ?_)
  refine lv_isub hx hb dX6_doesHear_12 ?_
  refine mabs_6_156 M hl.1 (Nat.le_of_ble_eq_true rfl) (Nat.le_of_ble_eq_true rfl) dX6_doesHear_13 ?_
  refine lv_istore (lv' := [(4, .int (if 0 ≤ (r2 - r4) then (r2 - r4) else 0 - (r2 - r4) : Int32)), (0, .ref (ad G 0)), (1, .int a1), (2, .int a2), (3, .int a3)]) hx hb dX6_doesHear_16 hl (by decide) rfl (fun ls hl => ?_)
  refine lv_aload_n hx hb dX6_doesHear_18 rfl (lv_at hl 1 rfl) ?_
  refine lv_iload_n hx hb dX6_doesHear_19 rfl (lv_at hl 3 rfl) ?_
  refine lv_iconst (v := 5) hx hb dX6_doesHear_20 (by decide) ?_
  obtain ⟨r6, h5, hF⟩ := bi_some hF
  refine k_i hS (kV_run M hS hP ok_X6_104 (c_X6_keeperIs l G a2 5 v r6 h5) (rc_6 M hP rfl) rfl hl.1 rfl (Nat.le_of_ble_eq_true rfl) ⟨rfl, rfl⟩ ⟨Nat.le_of_ble_eq_true rfl, Nat.le_of_ble_eq_true rfl⟩ dX6_doesHear_21) (fun H locs hP hS => ?_)
  refine lv_if_ne (tgt := 42) hx hb dX6_doesHear_24 (by decide) (fun c7 => ?_) (fun c7 => ?_)
  · replace hF := (if_neg c7).symm.trans hF
    refine lv_iconst (v := 0) hx hb dX6_doesHear_42 (by decide) ?_
    exact ret_z M hS hP (congrArg (fun z : Bool => (bI z, v)) (Option.some.inj hF)) rfl dX6_doesHear_43
  · replace hF := (if_pos c7).symm.trans hF
    refine lv_iload hx hb dX6_doesHear_27 (lv_at hl 0 rfl) ?_
    refine lv_aload_n hx hb dX6_doesHear_29 rfl (lv_at hl 1 rfl) ?_
    refine lv_iload_n hx hb dX6_doesHear_30 rfl (lv_at hl 3 rfl) ?_
    refine lv_iload_n hx hb dX6_doesHear_31 rfl (lv_at hl 4 rfl) ?_
    obtain ⟨r9, h8, hF⟩ := bi_some hF
    refine k_i hS (kV_run M hS hP ok_X6_119 (c_X6_reaches l G a2 a3 v r9 h8) (rc_6 M hP rfl) rfl hl.1 rfl (Nat.le_of_ble_eq_true rfl) ⟨rfl, rfl⟩ ⟨Nat.le_of_ble_eq_true rfl, Nat.le_of_ble_eq_true rfl⟩ dX6_doesHear_32) (fun H locs hP hS => ?_)
    refine lv_icmp_gt (tgt := 42) hx hb dX6_doesHear_35 (by decide) (fun c10 => ?_) (fun c10 => ?_)
    · replace hF := (if_pos c10).symm.trans hF
      refine lv_iconst (v := 0) hx hb dX6_doesHear_42 (by decide) ?_
      exact ret_z M hS hP (congrArg (fun z : Bool => (bI z, v)) (Option.some.inj hF)) rfl dX6_doesHear_43
    · replace hF := (if_neg c10).symm.trans hF
      refine lv_iconst (v := 1) hx hb dX6_doesHear_38 (by decide) ?_
      refine lv_goto (tgt := 43) hx hb dX6_doesHear_39 (by decide) ?_
      exact ret_z M hS hP (congrArg (fun z : Bool => (bI z, v)) (Option.some.inj hF)) rfl dX6_doesHear_43
def L_X6_hears_30 : Nat → Int32 → Int32 → Int32 → Int32 → VV → Option (Int32 × VV)
  | 0, _, _, _, _, _ => none
  | n + 1, x1, x2, x3, x4, v =>
  if (v 1 1) ≤ x4 then (some (x3, v)) else (Option.bind (F_X6_doesHear x1 x4 x2 v) (fun r13 => (if r13 = true then (L_X6_hears_30 n x1 x2 (x3 ||| (1 <<< (x4 &&& 31))) (x4 + 1) v) else (L_X6_hears_30 n x1 x2 (x3 ||| 0) (x4 + 1) v))))
def F_X6_hears (a1 : Int32) (a2 : Int32) (v : VV) : Option (Int32 × VV) :=
  Option.bind (F_X6_isChild a1 v) (fun r2 => (if r2 = true then (Option.bind (F_X6_within a2 1 9 v) (fun r9 => (if r9 = true then (L_X6_hears_30 fu a1 a2 0 0 v) else (Option.bind (F_X6_finding (-1000001) v) (fun (r16, v17) => some (r16, v17)))))) else (Option.bind (F_X6_finding (-1000001) v) (fun (r5, v6) => some (r5, v6)))))
set_option maxHeartbeats 4000000 in
set_option maxRecDepth 100000 in
theorem l_X6_hears_30 {p : Program} {l : Launch} {e : Env} {s : State} {m : MethodId} {args : Array Value} {below : List Frame} {meth : Method} {c : Code} {G : GG} (M : Mx G RX6 cX6_hears 5 (some .int) p s m args meth c) (r : Int32) (v' : VV) : ∀ (n : Nat) (x1 : Int32) (x2 : Int32) (x3 : Int32) (x4 : Int32) (v : VV) (H : Heap) (locs : List Loc) (ls : Array Slot), L_X6_hears_30 n x1 x2 x3 x4 v = some (r, v') → Wd G v H → va_S (gA G) s.heap H locs → lv_has ls 5 [(0, .ref (ad G 0)), (1, .int x1), (2, .int x2), (3, .int x3), (4, .int x4)] → W p l e ({ frames := 4, cells := 0, slots := 0, locals := 90 } : Room) s m args below meth c H locs 0 0 (MQ below (QI G r v') args s 0 0 (gA G)) (F0 m 30 ls []) := by
  have hx := M.1.1
  have hb := M.1.2.1
  intro n
  induction n with
  | zero =>
    intro x1 x2 x3 x4 v H locs ls hF hP hS hl
    rw [L_X6_hears_30] at hF
    cases hF
  | succ n ih =>
    intro x1 x2 x3 x4 v H locs ls hF hP hS hl
    rw [L_X6_hears_30] at hF
    refine lv_iload hx hb dX6_hears_30 (lv_at hl 4 rfl) ?_
    refine lv_aload_n hx hb dX6_hears_32 rfl (lv_at hl 0 rfl) ?_
    refine fg_6_9 M hP dX6_hears_33 ?_
    refine lv_iconst (v := 1) hx hb dX6_hears_36 (by decide) ?_
    refine r_iald (k := 1) M hP rfl rfl (in_c rfl) rfl dX6_hears_37 ?_
    refine lv_icmp_ge (tgt := 69) hx hb dX6_hears_38 (by decide) (fun c11 => ?_) (fun c11 => ?_)
    · replace hF := (if_pos c11).symm.trans hF
      refine lv_iload_n hx hb dX6_hears_69 rfl (lv_at hl 3 rfl) ?_
      exact ret_i M hS hP (Option.some.inj hF) dX6_hears_70
    · replace hF := (if_neg c11).symm.trans hF
      refine lv_iload_n hx hb dX6_hears_41 rfl (lv_at hl 3 rfl) ?_
      refine lv_aload_n hx hb dX6_hears_42 rfl (lv_at hl 0 rfl) ?_
      refine lv_iload_n hx hb dX6_hears_43 rfl (lv_at hl 1 rfl) ?_
      refine lv_iload hx hb dX6_hears_44 (lv_at hl 4 rfl) ?_
      refine lv_iload_n hx hb dX6_hears_46 rfl (lv_at hl 2 rfl) ?_
      obtain ⟨r13, h12, hF⟩ := bi_some hF
      refine k_i hS (kV_run M hS hP ok_X6_159 (c_X6_doesHear l G x1 x4 x2 v r13 h12) (rc_6 M hP rfl) rfl hl.1 rfl (Nat.le_of_ble_eq_true rfl) ⟨rfl, rfl⟩ ⟨Nat.le_of_ble_eq_true rfl, Nat.le_of_ble_eq_true rfl⟩ dX6_hears_47) (fun H locs hP hS => ?_)
      refine lv_if_eq (tgt := 60) hx hb dX6_hears_50 (by decide) (fun c14 => ?_) (fun c14 => ?_)
      · replace hF := (if_neg (bI_f c14)).symm.trans hF
        refine lv_iconst (v := 0) hx hb dX6_hears_60 (by decide) ?_
        refine lv_ior hx hb dX6_hears_61 ?_
        refine lv_istore_n (lv' := [(3, .int (x3 ||| 0)), (0, .ref (ad G 0)), (1, .int x1), (2, .int x2), (4, .int x4)]) hx hb dX6_hears_62 rfl hl (by decide) rfl (fun ls hl => ?_)
        refine lv_iinc (v := (x4 + 1)) (lv' := [(4, .int (x4 + 1)), (3, .int (x3 ||| 0)), (0, .ref (ad G 0)), (1, .int x1), (2, .int x2)]) hx hb dX6_hears_63 hl (k := 4) rfl (iinc_eq _ (by decide)) (by decide) rfl (fun ls hl => ?_)
        refine lv_goto (tgt := 30) hx hb dX6_hears_66 (by decide) ?_
        exact ih x1 x2 (x3 ||| 0) (x4 + 1) _ _ _ ls hF hP hS (lv_sub hl [2, 3, 4, 1, 0] rfl)
      · replace hF := (if_pos (bI_t c14)).symm.trans hF
        refine lv_iconst (v := 1) hx hb dX6_hears_53 (by decide) ?_
        refine lv_iload hx hb dX6_hears_54 (lv_at hl 4 rfl) ?_
        refine lv_ishl hx hb dX6_hears_56 ?_
        refine lv_goto (tgt := 61) hx hb dX6_hears_57 (by decide) ?_
        refine lv_ior hx hb dX6_hears_61 ?_
        refine lv_istore_n (lv' := [(3, .int (x3 ||| (1 <<< (x4 &&& 31)))), (0, .ref (ad G 0)), (1, .int x1), (2, .int x2), (4, .int x4)]) hx hb dX6_hears_62 rfl hl (by decide) rfl (fun ls hl => ?_)
        refine lv_iinc (v := (x4 + 1)) (lv' := [(4, .int (x4 + 1)), (3, .int (x3 ||| (1 <<< (x4 &&& 31)))), (0, .ref (ad G 0)), (1, .int x1), (2, .int x2)]) hx hb dX6_hears_63 hl (k := 4) rfl (iinc_eq _ (by decide)) (by decide) rfl (fun ls hl => ?_)
        refine lv_goto (tgt := 30) hx hb dX6_hears_66 (by decide) ?_
        exact ih x1 x2 (x3 ||| (1 <<< (x4 &&& 31))) (x4 + 1) _ _ _ ls hF hP hS (lv_sub hl [2, 3, 4, 1, 0] rfl)
set_option maxHeartbeats 4000000 in
set_option maxRecDepth 100000 in
theorem c_X6_hears (l : Launch) (G : GG) (a1 : Int32) (a2 : Int32) (v : VV) (r : Int32) (v' : VV) (hF : F_X6_hears a1 a2 v = some (r, v')) : Met l yX6_hears (cdW yX6_hears cX6_hears 5 (some .int)) ({ frames := 4, cells := 0, slots := 0, locals := 90 } : Room) (PC G v [.ref (ad G 0), .int a1, .int a2]) (QI G r v') 0 0 (gA G) := by
  refine met_in RX6 (by decide) rfl (Nat.le_of_ble_eq_true rfl) ?_
  intro p e s m below meth c M hP ls hl
  have hx := M.1.1
  have hb := M.1.2.1
  have hS : va_S (gA G) s.heap s.heap [] := va_S.rf
  have hl : lv_has ls 5 [(0, .ref (ad G 0)), (1, .int a1), (2, .int a2)] := hl
  unfold F_X6_hears at hF
  refine lv_aload_n hx hb dX6_hears_0 rfl (lv_at hl 0 rfl) ?_
  refine lv_iload_n hx hb dX6_hears_1 rfl (lv_at hl 1 rfl) ?_
  obtain ⟨r2, h1, hF⟩ := bi_some hF
  refine k_i hS (kV_run M hS hP ok_X6_144 (c_X6_isChild l G a1 v r2 h1) (rc_6 M hP rfl) rfl hl.1 rfl (Nat.le_of_ble_eq_true rfl) ⟨rfl, rfl⟩ ⟨Nat.le_of_ble_eq_true rfl, Nat.le_of_ble_eq_true rfl⟩ dX6_hears_2) (fun H locs hP hS => ?_)
  refine lv_if_eq (tgt := 18) hx hb dX6_hears_5 (by decide) (fun c3 => ?_) (fun c3 => ?_)
  · replace hF := (if_neg (bI_f c3)).symm.trans hF
    refine lv_aload_n hx hb dX6_hears_18 rfl (lv_at hl 0 rfl) ?_
    refine lv_ldc (own := RX6) (v := (-1000001)) hx hb M.1.2.2.2.1 (M.1.2.2.2.2 (Cond.constant RX6 60 (-1000001)) w_788) dX6_hears_19 ?_
    obtain ⟨⟨r5, v6⟩, h4, hF⟩ := bi_some hF
    dsimp only at hF
    refine k_i hS (kV_run M hS hP ok_X6_66 (c_X6_finding l G (-1000001) v r5 v6 h4) (rc_6 M hP rfl) rfl hl.1 rfl (Nat.le_of_ble_eq_true rfl) ⟨rfl, rfl⟩ ⟨Nat.le_of_ble_eq_true rfl, Nat.le_of_ble_eq_true rfl⟩ dX6_hears_21) (fun H locs hP hS => ?_)
    exact ret_i M hS hP (Option.some.inj hF) dX6_hears_24
  · replace hF := (if_pos (bI_t c3)).symm.trans hF
    refine lv_iload_n hx hb dX6_hears_8 rfl (lv_at hl 2 rfl) ?_
    refine lv_iconst (v := 1) hx hb dX6_hears_9 (by decide) ?_
    refine lv_bipush (v := 9) hx hb dX6_hears_10 (by decide) ?_
    obtain ⟨r9, h8, hF⟩ := bi_some hF
    refine k_i hS (kS_run M hS hP ok_X6_70 (c_X6_within l G a2 1 9 v r9 h8) rfl hl.1 rfl (Nat.le_of_ble_eq_true rfl) ⟨rfl, rfl⟩ ⟨Nat.le_of_ble_eq_true rfl, Nat.le_of_ble_eq_true rfl⟩ dX6_hears_12) (fun H locs hP hS => ?_)
    refine lv_if_ne (tgt := 25) hx hb dX6_hears_15 (by decide) (fun c10 => ?_) (fun c10 => ?_)
    · replace hF := (if_pos (bI_t c10)).symm.trans hF
      refine lv_iconst (v := 0) hx hb dX6_hears_25 (by decide) ?_
      refine lv_istore_n (lv' := [(3, .int 0), (0, .ref (ad G 0)), (1, .int a1), (2, .int a2)]) hx hb dX6_hears_26 rfl hl (by decide) rfl (fun ls hl => ?_)
      refine lv_iconst (v := 0) hx hb dX6_hears_27 (by decide) ?_
      refine lv_istore (lv' := [(4, .int 0), (3, .int 0), (0, .ref (ad G 0)), (1, .int a1), (2, .int a2)]) hx hb dX6_hears_28 hl (by decide) rfl (fun ls hl => ?_)
      exact l_X6_hears_30 M _ _ fu a1 a2 0 0 _ _ _ ls hF hP hS (lv_sub hl [2, 3, 4, 1, 0] rfl)
    · replace hF := (if_neg (bI_f c10)).symm.trans hF
      refine lv_aload_n hx hb dX6_hears_18 rfl (lv_at hl 0 rfl) ?_
      refine lv_ldc (own := RX6) (v := (-1000001)) hx hb M.1.2.2.2.1 (M.1.2.2.2.2 (Cond.constant RX6 60 (-1000001)) w_788) dX6_hears_19 ?_
      obtain ⟨⟨r16, v17⟩, h15, hF⟩ := bi_some hF
      dsimp only at hF
      refine k_i hS (kV_run M hS hP ok_X6_66 (c_X6_finding l G (-1000001) v r16 v17 h15) (rc_6 M hP rfl) rfl hl.1 rfl (Nat.le_of_ble_eq_true rfl) ⟨rfl, rfl⟩ ⟨Nat.le_of_ble_eq_true rfl, Nat.le_of_ble_eq_true rfl⟩ dX6_hears_21) (fun H locs hP hS => ?_)
      exact ret_i M hS hP (Option.some.inj hF) dX6_hears_24
def F_X6_more (a1 : Int32) (a2 : Int32) (a3 : Int32) (v : VV) : Option VV :=
  gu (gI a1 92) (gu (gI a1 92) (some (pu v 1 ((a1).toNatClampNeg) (if ((v 1 ((a1).toNatClampNeg)) + a2) < a3 then ((v 1 ((a1).toNatClampNeg)) + a2) else a3 : Int32))))
set_option maxHeartbeats 4000000 in
set_option maxRecDepth 100000 in
theorem c_X6_more (l : Launch) (G : GG) (a1 : Int32) (a2 : Int32) (a3 : Int32) (v : VV) (v' : VV) (hF : F_X6_more a1 a2 a3 v = some v') : Met l yX6_more (cdW yX6_more cX6_more 4 none) ({ frames := 1, cells := 0, slots := 0, locals := 21 } : Room) (PC G v [.ref (ad G 0), .int a1, .int a2, .int a3]) (QV G v') 0 0 (gA G) := by
  refine met_in RX6 (by decide) rfl (Nat.le_of_ble_eq_true rfl) ?_
  intro p e s m below meth c M hP ls hl
  have hx := M.1.1
  have hb := M.1.2.1
  have hS : va_S (gA G) s.heap s.heap [] := va_S.rf
  have hl : lv_has ls 4 [(0, .ref (ad G 0)), (1, .int a1), (2, .int a2), (3, .int a3)] := hl
  unfold F_X6_more at hF
  refine lv_aload_n hx hb dX6_more_0 rfl (lv_at hl 0 rfl) ?_
  refine fg_6_9 M hP dX6_more_1 ?_
  refine lv_iload_n hx hb dX6_more_4 rfl (lv_at hl 1 rfl) ?_
  refine lv_iload_n hx hb dX6_more_5 rfl (lv_at hl 3 rfl) ?_
  refine lv_aload_n hx hb dX6_more_6 rfl (lv_at hl 0 rfl) ?_
  refine fg_6_9 M hP dX6_more_7 ?_
  refine lv_iload_n hx hb dX6_more_10 rfl (lv_at hl 1 rfl) ?_
  obtain ⟨g1, hF⟩ := gu_some hF
  refine r_iald (k := (a1).toNatClampNeg) M hP rfl rfl (in_c g1) rfl dX6_more_11 ?_
  refine lv_iload_n hx hb dX6_more_12 rfl (lv_at hl 2 rfl) ?_
  refine lv_iadd hx hb dX6_more_13 ?_
  refine mmin_6_162 M hl.1 (Nat.le_of_ble_eq_true rfl) (Nat.le_of_ble_eq_true rfl) dX6_more_14 ?_
  obtain ⟨g2, hF⟩ := gu_some hF
  refine r_iast (k := (a1).toNatClampNeg) M hS hP rfl rfl (in_c g2) rfl dX6_more_17 (fun H locs hP hS => ?_)
  have hP : Wd G (pu v 1 ((a1).toNatClampNeg) (if ((v 1 ((a1).toNatClampNeg)) + a2) < a3 then ((v 1 ((a1).toNatClampNeg)) + a2) else a3 : Int32)) H := hP
  exact ret_v M hS hP (Option.some.inj hF) dX6_more_18
def F_X6_writes (a1 : Int32) (a2 : Int32) (a3 : Int32) (v : VV) : Option VV :=
  Option.bind (F_X6_childIs a1 2 v) (fun r2 => (if ((r2 >>> (a2 &&& 31)) &&& 1) = 0 then (Option.bind (F_X6_childIs a1 1 v) (fun r5 => (if r5 < a3 then (Option.bind (F_X6_childAt a1 3 v) (fun r9 => gu (gI r9 92) (gu (gI r9 92) (some (pu v 1 ((r9).toNatClampNeg) ((v 1 ((r9).toNatClampNeg)) ||| (1 <<< (a2 &&& 31)))))))) else (if a2 = 0 then (Option.bind (F_X6_childAt a1 2 v) (fun r15 => gu (gI r15 92) (gu (gI r15 92) (Option.bind (F_X6_childAt a1 3 (pu v 1 ((r15).toNatClampNeg) ((v 1 ((r15).toNatClampNeg)) ||| (1 <<< (a2 &&& 31))))) (fun r19 => gu (gI r19 92) (gu (gI r19 92) (some (pu (pu v 1 ((r15).toNatClampNeg) ((v 1 ((r15).toNatClampNeg)) ||| (1 <<< (a2 &&& 31)))) 1 ((r19).toNatClampNeg) (((pu v 1 ((r15).toNatClampNeg) ((v 1 ((r15).toNatClampNeg)) ||| (1 <<< (a2 &&& 31)))) 1 ((r19).toNatClampNeg)) &&& ((1 <<< (a2 &&& 31)) ^^^ (-1))))))))))) else (if ((r2 >>> ((a2 - 1) &&& 31)) &&& 1) = 1 then (Option.bind (F_X6_childAt a1 2 v) (fun r30 => gu (gI r30 92) (gu (gI r30 92) (Option.bind (F_X6_childAt a1 3 (pu v 1 ((r30).toNatClampNeg) ((v 1 ((r30).toNatClampNeg)) ||| (1 <<< (a2 &&& 31))))) (fun r34 => gu (gI r34 92) (gu (gI r34 92) (some (pu (pu v 1 ((r30).toNatClampNeg) ((v 1 ((r30).toNatClampNeg)) ||| (1 <<< (a2 &&& 31)))) 1 ((r34).toNatClampNeg) (((pu v 1 ((r30).toNatClampNeg) ((v 1 ((r30).toNatClampNeg)) ||| (1 <<< (a2 &&& 31)))) 1 ((r34).toNatClampNeg)) &&& ((1 <<< (a2 &&& 31)) ^^^ (-1))))))))))) else (Option.bind (F_X6_childAt a1 3 v) (fun r25 => gu (gI r25 92) (gu (gI r25 92) (some (pu v 1 ((r25).toNatClampNeg) ((v 1 ((r25).toNatClampNeg)) ||| (1 <<< (a2 &&& 31))))))))))))) else (some v)))
set_option maxHeartbeats 4000000 in
set_option maxRecDepth 100000 in
theorem c_X6_writes (l : Launch) (G : GG) (a1 : Int32) (a2 : Int32) (a3 : Int32) (v : VV) (v' : VV) (hF : F_X6_writes a1 a2 a3 v = some v') : Met l yX6_writes (cdW yX6_writes cX6_writes 6 none) ({ frames := 2, cells := 0, slots := 0, locals := 43 } : Room) (PC G v [.ref (ad G 0), .int a1, .int a2, .int a3]) (QV G v') 0 0 (gA G) := by
  refine met_in RX6 (by decide) rfl (Nat.le_of_ble_eq_true rfl) ?_
  intro p e s m below meth c M hP ls hl
  have hx := M.1.1
  have hb := M.1.2.1
  have hS : va_S (gA G) s.heap s.heap [] := va_S.rf
  have hl : lv_has ls 6 [(0, .ref (ad G 0)), (1, .int a1), (2, .int a2), (3, .int a3)] := hl
  unfold F_X6_writes at hF
  refine lv_aload_n hx hb dX6_writes_0 rfl (lv_at hl 0 rfl) ?_
  refine lv_iload_n hx hb dX6_writes_1 rfl (lv_at hl 1 rfl) ?_
  refine lv_iconst (v := 2) hx hb dX6_writes_2 (by decide) ?_
  obtain ⟨r2, h1, hF⟩ := bi_some hF
  refine k_i hS (kV_run M hS hP ok_X6_147 (c_X6_childIs l G a1 2 v r2 h1) (rc_6 M hP rfl) rfl hl.1 rfl (Nat.le_of_ble_eq_true rfl) ⟨rfl, rfl⟩ ⟨Nat.le_of_ble_eq_true rfl, Nat.le_of_ble_eq_true rfl⟩ dX6_writes_3) (fun H locs hP hS => ?_)
  refine lv_istore (lv' := [(4, .int r2), (0, .ref (ad G 0)), (1, .int a1), (2, .int a2), (3, .int a3)]) hx hb dX6_writes_6 hl (by decide) rfl (fun ls hl => ?_)
  refine lv_iload hx hb dX6_writes_8 (lv_at hl 0 rfl) ?_
  refine lv_iload_n hx hb dX6_writes_10 rfl (lv_at hl 3 rfl) ?_
  refine lv_ishr hx hb dX6_writes_11 ?_
  refine lv_iconst (v := 1) hx hb dX6_writes_12 (by decide) ?_
  refine lv_iand hx hb dX6_writes_13 ?_
  refine lv_if_ne (tgt := 108) hx hb dX6_writes_14 (by decide) (fun c3 => ?_) (fun c3 => ?_)
  · replace hF := (if_neg c3).symm.trans hF
    exact ret_v M hS hP (Option.some.inj hF) dX6_writes_108
  · replace hF := (if_pos c3).symm.trans hF
    refine lv_aload_n hx hb dX6_writes_17 rfl (lv_at hl 1 rfl) ?_
    refine lv_iload_n hx hb dX6_writes_18 rfl (lv_at hl 2 rfl) ?_
    refine lv_iconst (v := 1) hx hb dX6_writes_19 (by decide) ?_
    obtain ⟨r5, h4, hF⟩ := bi_some hF
    refine k_i hS (kV_run M hS hP ok_X6_147 (c_X6_childIs l G a1 1 v r5 h4) (rc_6 M hP rfl) rfl hl.1 rfl (Nat.le_of_ble_eq_true rfl) ⟨rfl, rfl⟩ ⟨Nat.le_of_ble_eq_true rfl, Nat.le_of_ble_eq_true rfl⟩ dX6_writes_20) (fun H locs hP hS => ?_)
    refine lv_iload_n hx hb dX6_writes_23 rfl (lv_at hl 4 rfl) ?_
    refine lv_icmp_lt (tgt := 47) hx hb dX6_writes_24 (by decide) (fun c6 => ?_) (fun c6 => ?_)
    · replace hF := (if_pos c6).symm.trans hF
      refine lv_iconst (v := 0) hx hb dX6_writes_47 (by decide) ?_
      refine lv_istore (lv' := [(5, .int 0), (4, .int r2), (0, .ref (ad G 0)), (1, .int a1), (2, .int a2), (3, .int a3)]) hx hb dX6_writes_48 hl (by decide) rfl (fun ls hl => ?_)
      refine lv_iload hx hb dX6_writes_50 (lv_at hl 0 rfl) ?_
      refine lv_if_eq (tgt := 92) hx hb dX6_writes_52 (by decide) (fun c7 => ?_) (fun c7 => ?_)
      · refine lv_aload_n hx hb dX6_writes_92 rfl (lv_at hl 2 rfl) ?_
        refine fg_6_9 M hP dX6_writes_93 ?_
        refine lv_iload_n hx hb dX6_writes_96 rfl (lv_at hl 3 rfl) ?_
        refine lv_iconst (v := 3) hx hb dX6_writes_97 (by decide) ?_
        obtain ⟨r9, h8, hF⟩ := bi_some hF
        refine k_i hS (kS_run M hS hP ok_X6_88 (c_X6_childAt l G a1 3 v r9 h8) rfl hl.1 rfl (Nat.le_of_ble_eq_true rfl) ⟨rfl, rfl⟩ ⟨Nat.le_of_ble_eq_true rfl, Nat.le_of_ble_eq_true rfl⟩ dX6_writes_98) (fun H locs hP hS => ?_)
        refine lv_dup2_11 hx hb dX6_writes_101 rfl rfl ?_
        obtain ⟨g10, hF⟩ := gu_some hF
        refine r_iald (k := (r9).toNatClampNeg) M hP rfl rfl (in_c g10) rfl dX6_writes_102 ?_
        refine lv_iconst (v := 1) hx hb dX6_writes_103 (by decide) ?_
        refine lv_iload_n hx hb dX6_writes_104 rfl (lv_at hl 4 rfl) ?_
        refine lv_ishl hx hb dX6_writes_105 ?_
        refine lv_ior hx hb dX6_writes_106 ?_
        obtain ⟨g11, hF⟩ := gu_some hF
        refine r_iast (k := (r9).toNatClampNeg) M hS hP rfl rfl (in_c g11) rfl dX6_writes_107 (fun H locs hP hS => ?_)
        have hP : Wd G (pu v 1 ((r9).toNatClampNeg) ((v 1 ((r9).toNatClampNeg)) ||| (1 <<< (a2 &&& 31)))) H := hP
        exact ret_v M hS hP (Option.some.inj hF) dX6_writes_108
      · exact absurd c7 (by decide)
    · replace hF := (if_neg c6).symm.trans hF
      refine lv_iload_n hx hb dX6_writes_27 rfl (lv_at hl 3 rfl) ?_
      refine lv_if_eq (tgt := 43) hx hb dX6_writes_28 (by decide) (fun c12 => ?_) (fun c12 => ?_)
      · replace hF := (if_pos c12).symm.trans hF
        refine lv_iconst (v := 1) hx hb dX6_writes_43 (by decide) ?_
        refine lv_goto (tgt := 48) hx hb dX6_writes_44 (by decide) ?_
        refine lv_istore (lv' := [(5, .int 1), (4, .int r2), (0, .ref (ad G 0)), (1, .int a1), (2, .int a2), (3, .int a3)]) hx hb dX6_writes_48 hl (by decide) rfl (fun ls hl => ?_)
        refine lv_iload hx hb dX6_writes_50 (lv_at hl 0 rfl) ?_
        refine lv_if_eq (tgt := 92) hx hb dX6_writes_52 (by decide) (fun c13 => ?_) (fun c13 => ?_)
        · exact absurd c13 (by decide)
        · refine lv_aload_n hx hb dX6_writes_55 rfl (lv_at hl 2 rfl) ?_
          refine fg_6_9 M hP dX6_writes_56 ?_
          refine lv_iload_n hx hb dX6_writes_59 rfl (lv_at hl 3 rfl) ?_
          refine lv_iconst (v := 2) hx hb dX6_writes_60 (by decide) ?_
          obtain ⟨r15, h14, hF⟩ := bi_some hF
          refine k_i hS (kS_run M hS hP ok_X6_88 (c_X6_childAt l G a1 2 v r15 h14) rfl hl.1 rfl (Nat.le_of_ble_eq_true rfl) ⟨rfl, rfl⟩ ⟨Nat.le_of_ble_eq_true rfl, Nat.le_of_ble_eq_true rfl⟩ dX6_writes_61) (fun H locs hP hS => ?_)
          refine lv_dup2_11 hx hb dX6_writes_64 rfl rfl ?_
          obtain ⟨g16, hF⟩ := gu_some hF
          refine r_iald (k := (r15).toNatClampNeg) M hP rfl rfl (in_c g16) rfl dX6_writes_65 ?_
          refine lv_iconst (v := 1) hx hb dX6_writes_66 (by decide) ?_
          refine lv_iload_n hx hb dX6_writes_67 rfl (lv_at hl 4 rfl) ?_
          refine lv_ishl hx hb dX6_writes_68 ?_
          refine lv_ior hx hb dX6_writes_69 ?_
          obtain ⟨g17, hF⟩ := gu_some hF
          refine r_iast (k := (r15).toNatClampNeg) M hS hP rfl rfl (in_c g17) rfl dX6_writes_70 (fun H locs hP hS => ?_)
          have hP : Wd G (pu v 1 ((r15).toNatClampNeg) ((v 1 ((r15).toNatClampNeg)) ||| (1 <<< (a2 &&& 31)))) H := hP
          refine lv_aload_n hx hb dX6_writes_71 rfl (lv_at hl 2 rfl) ?_
          refine fg_6_9 M hP dX6_writes_72 ?_
          refine lv_iload_n hx hb dX6_writes_75 rfl (lv_at hl 3 rfl) ?_
          refine lv_iconst (v := 3) hx hb dX6_writes_76 (by decide) ?_
          obtain ⟨r19, h18, hF⟩ := bi_some hF
          refine k_i hS (kS_run M hS hP ok_X6_88 (c_X6_childAt l G a1 3 (pu v 1 ((r15).toNatClampNeg) ((v 1 ((r15).toNatClampNeg)) ||| (1 <<< (a2 &&& 31)))) r19 h18) rfl hl.1 rfl (Nat.le_of_ble_eq_true rfl) ⟨rfl, rfl⟩ ⟨Nat.le_of_ble_eq_true rfl, Nat.le_of_ble_eq_true rfl⟩ dX6_writes_77) (fun H locs hP hS => ?_)
          refine lv_dup2_11 hx hb dX6_writes_80 rfl rfl ?_
          obtain ⟨g20, hF⟩ := gu_some hF
          refine r_iald (k := (r19).toNatClampNeg) M hP rfl rfl (in_c g20) rfl dX6_writes_81 ?_
          refine lv_iconst (v := 1) hx hb dX6_writes_82 (by decide) ?_
          refine lv_iload_n hx hb dX6_writes_83 rfl (lv_at hl 4 rfl) ?_
          refine lv_ishl hx hb dX6_writes_84 ?_
          refine lv_iconst (v := (-1)) hx hb dX6_writes_85 (by decide) ?_
          refine lv_ixor hx hb dX6_writes_86 ?_
          refine lv_iand hx hb dX6_writes_87 ?_
          obtain ⟨g21, hF⟩ := gu_some hF
          refine r_iast (k := (r19).toNatClampNeg) M hS hP rfl rfl (in_c g21) rfl dX6_writes_88 (fun H locs hP hS => ?_)
          have hP : Wd G (pu (pu v 1 ((r15).toNatClampNeg) ((v 1 ((r15).toNatClampNeg)) ||| (1 <<< (a2 &&& 31)))) 1 ((r19).toNatClampNeg) (((pu v 1 ((r15).toNatClampNeg) ((v 1 ((r15).toNatClampNeg)) ||| (1 <<< (a2 &&& 31)))) 1 ((r19).toNatClampNeg)) &&& ((1 <<< (a2 &&& 31)) ^^^ (-1)))) H := hP
          refine lv_goto (tgt := 108) hx hb dX6_writes_89 (by decide) ?_
          exact ret_v M hS hP (Option.some.inj hF) dX6_writes_108
      · replace hF := (if_neg c12).symm.trans hF
        refine lv_iload hx hb dX6_writes_31 (lv_at hl 0 rfl) ?_
        refine lv_iload_n hx hb dX6_writes_33 rfl (lv_at hl 3 rfl) ?_
        refine lv_iconst (v := 1) hx hb dX6_writes_34 (by decide) ?_
        refine lv_isub hx hb dX6_writes_35 ?_
        refine lv_ishr hx hb dX6_writes_36 ?_
        refine lv_iconst (v := 1) hx hb dX6_writes_37 (by decide) ?_
        refine lv_iand hx hb dX6_writes_38 ?_
        refine lv_iconst (v := 1) hx hb dX6_writes_39 (by decide) ?_
        refine lv_icmp_ne (tgt := 47) hx hb dX6_writes_40 (by decide) (fun c22 => ?_) (fun c22 => ?_)
        · replace hF := (if_neg c22).symm.trans hF
          refine lv_iconst (v := 0) hx hb dX6_writes_47 (by decide) ?_
          refine lv_istore (lv' := [(5, .int 0), (4, .int r2), (0, .ref (ad G 0)), (1, .int a1), (2, .int a2), (3, .int a3)]) hx hb dX6_writes_48 hl (by decide) rfl (fun ls hl => ?_)
          refine lv_iload hx hb dX6_writes_50 (lv_at hl 0 rfl) ?_
          refine lv_if_eq (tgt := 92) hx hb dX6_writes_52 (by decide) (fun c23 => ?_) (fun c23 => ?_)
          · refine lv_aload_n hx hb dX6_writes_92 rfl (lv_at hl 2 rfl) ?_
            refine fg_6_9 M hP dX6_writes_93 ?_
            refine lv_iload_n hx hb dX6_writes_96 rfl (lv_at hl 3 rfl) ?_
            refine lv_iconst (v := 3) hx hb dX6_writes_97 (by decide) ?_
            obtain ⟨r25, h24, hF⟩ := bi_some hF
            refine k_i hS (kS_run M hS hP ok_X6_88 (c_X6_childAt l G a1 3 v r25 h24) rfl hl.1 rfl (Nat.le_of_ble_eq_true rfl) ⟨rfl, rfl⟩ ⟨Nat.le_of_ble_eq_true rfl, Nat.le_of_ble_eq_true rfl⟩ dX6_writes_98) (fun H locs hP hS => ?_)
            refine lv_dup2_11 hx hb dX6_writes_101 rfl rfl ?_
            obtain ⟨g26, hF⟩ := gu_some hF
            refine r_iald (k := (r25).toNatClampNeg) M hP rfl rfl (in_c g26) rfl dX6_writes_102 ?_
            refine lv_iconst (v := 1) hx hb dX6_writes_103 (by decide) ?_
            refine lv_iload_n hx hb dX6_writes_104 rfl (lv_at hl 4 rfl) ?_
            refine lv_ishl hx hb dX6_writes_105 ?_
            refine lv_ior hx hb dX6_writes_106 ?_
            obtain ⟨g27, hF⟩ := gu_some hF
            refine r_iast (k := (r25).toNatClampNeg) M hS hP rfl rfl (in_c g27) rfl dX6_writes_107 (fun H locs hP hS => ?_)
            have hP : Wd G (pu v 1 ((r25).toNatClampNeg) ((v 1 ((r25).toNatClampNeg)) ||| (1 <<< (a2 &&& 31)))) H := hP
            exact ret_v M hS hP (Option.some.inj hF) dX6_writes_108
          · exact absurd c23 (by decide)
        · replace hF := (if_pos c22).symm.trans hF
          refine lv_iconst (v := 1) hx hb dX6_writes_43 (by decide) ?_
          refine lv_goto (tgt := 48) hx hb dX6_writes_44 (by decide) ?_
          refine lv_istore (lv' := [(5, .int 1), (4, .int r2), (0, .ref (ad G 0)), (1, .int a1), (2, .int a2), (3, .int a3)]) hx hb dX6_writes_48 hl (by decide) rfl (fun ls hl => ?_)
          refine lv_iload hx hb dX6_writes_50 (lv_at hl 0 rfl) ?_
          refine lv_if_eq (tgt := 92) hx hb dX6_writes_52 (by decide) (fun c28 => ?_) (fun c28 => ?_)
          · exact absurd c28 (by decide)
          · refine lv_aload_n hx hb dX6_writes_55 rfl (lv_at hl 2 rfl) ?_
            refine fg_6_9 M hP dX6_writes_56 ?_
            refine lv_iload_n hx hb dX6_writes_59 rfl (lv_at hl 3 rfl) ?_
            refine lv_iconst (v := 2) hx hb dX6_writes_60 (by decide) ?_
            obtain ⟨r30, h29, hF⟩ := bi_some hF
            refine k_i hS (kS_run M hS hP ok_X6_88 (c_X6_childAt l G a1 2 v r30 h29) rfl hl.1 rfl (Nat.le_of_ble_eq_true rfl) ⟨rfl, rfl⟩ ⟨Nat.le_of_ble_eq_true rfl, Nat.le_of_ble_eq_true rfl⟩ dX6_writes_61) (fun H locs hP hS => ?_)
            refine lv_dup2_11 hx hb dX6_writes_64 rfl rfl ?_
            obtain ⟨g31, hF⟩ := gu_some hF
            refine r_iald (k := (r30).toNatClampNeg) M hP rfl rfl (in_c g31) rfl dX6_writes_65 ?_
            refine lv_iconst (v := 1) hx hb dX6_writes_66 (by decide) ?_
            refine lv_iload_n hx hb dX6_writes_67 rfl (lv_at hl 4 rfl) ?_
            refine lv_ishl hx hb dX6_writes_68 ?_
            refine lv_ior hx hb dX6_writes_69 ?_
            obtain ⟨g32, hF⟩ := gu_some hF
            refine r_iast (k := (r30).toNatClampNeg) M hS hP rfl rfl (in_c g32) rfl dX6_writes_70 (fun H locs hP hS => ?_)
            have hP : Wd G (pu v 1 ((r30).toNatClampNeg) ((v 1 ((r30).toNatClampNeg)) ||| (1 <<< (a2 &&& 31)))) H := hP
            refine lv_aload_n hx hb dX6_writes_71 rfl (lv_at hl 2 rfl) ?_
            refine fg_6_9 M hP dX6_writes_72 ?_
            refine lv_iload_n hx hb dX6_writes_75 rfl (lv_at hl 3 rfl) ?_
            refine lv_iconst (v := 3) hx hb dX6_writes_76 (by decide) ?_
            obtain ⟨r34, h33, hF⟩ := bi_some hF
            refine k_i hS (kS_run M hS hP ok_X6_88 (c_X6_childAt l G a1 3 (pu v 1 ((r30).toNatClampNeg) ((v 1 ((r30).toNatClampNeg)) ||| (1 <<< (a2 &&& 31)))) r34 h33) rfl hl.1 rfl (Nat.le_of_ble_eq_true rfl) ⟨rfl, rfl⟩ ⟨Nat.le_of_ble_eq_true rfl, Nat.le_of_ble_eq_true rfl⟩ dX6_writes_77) (fun H locs hP hS => ?_)
            refine lv_dup2_11 hx hb dX6_writes_80 rfl rfl ?_
            obtain ⟨g35, hF⟩ := gu_some hF
            refine r_iald (k := (r34).toNatClampNeg) M hP rfl rfl (in_c g35) rfl dX6_writes_81 ?_
            refine lv_iconst (v := 1) hx hb dX6_writes_82 (by decide) ?_
            refine lv_iload_n hx hb dX6_writes_83 rfl (lv_at hl 4 rfl) ?_
            refine lv_ishl hx hb dX6_writes_84 ?_
            refine lv_iconst (v := (-1)) hx hb dX6_writes_85 (by decide) ?_
            refine lv_ixor hx hb dX6_writes_86 ?_
            refine lv_iand hx hb dX6_writes_87 ?_
            obtain ⟨g36, hF⟩ := gu_some hF
            refine r_iast (k := (r34).toNatClampNeg) M hS hP rfl rfl (in_c g36) rfl dX6_writes_88 (fun H locs hP hS => ?_)
            have hP : Wd G (pu (pu v 1 ((r30).toNatClampNeg) ((v 1 ((r30).toNatClampNeg)) ||| (1 <<< (a2 &&& 31)))) 1 ((r34).toNatClampNeg) (((pu v 1 ((r30).toNatClampNeg) ((v 1 ((r30).toNatClampNeg)) ||| (1 <<< (a2 &&& 31)))) 1 ((r34).toNatClampNeg)) &&& ((1 <<< (a2 &&& 31)) ^^^ (-1)))) H := hP
            refine lv_goto (tgt := 108) hx hb dX6_writes_89 (by decide) ?_
            exact ret_v M hS hP (Option.some.inj hF) dX6_writes_108
def L_X6_blows_9 : Nat → Int32 → Int32 → Int32 → Int32 → VV → Option VV
  | 0, _, _, _, _, _ => none
  | n + 1, x1, x2, x3, x4, v =>
  if (v 1 3) ≤ x4 then (Option.bind (F_X6_turns x1 v) (fun r5 => Option.bind (F_X6_keeperAt x1 4 v) (fun r7 => Option.bind (F_X6_tires x1 v) (fun r9 => Option.bind (F_X6_more r7 r9 99 v) (fun v12 => Option.bind (F_X6_keeperAt x1 2 v12) (fun r14 => Option.bind (F_X6_keeperIs x1 2 v12) (fun r16 => gu (gI r14 92) (some (pu v12 1 ((r14).toNatClampNeg) ((r16 + r5) - (r16 + r5) / 12 * 12)))))))))) else (Option.bind (F_X6_doesHear x4 x1 x2 v) (fun r19 => (if r19 = true then (Option.bind (F_X6_tempo x1 v) (fun r22 => Option.bind (F_X6_writes x4 x3 r22 v) (fun v25 => L_X6_blows_9 n x1 x2 x3 (x4 + 1) v25))) else (L_X6_blows_9 n x1 x2 x3 (x4 + 1) v))))
def F_X6_blows (a1 : Int32) (a2 : Int32) (v : VV) : Option VV :=
  Option.bind (F_X6_gives a1 v) (fun r2 => L_X6_blows_9 fu a1 a2 r2 0 v)
set_option maxHeartbeats 4000000 in
set_option maxRecDepth 100000 in
theorem l_X6_blows_9 {p : Program} {l : Launch} {e : Env} {s : State} {m : MethodId} {args : Array Value} {below : List Frame} {meth : Method} {c : Code} {G : GG} (M : Mx G RX6 cX6_blows 5 none p s m args meth c) (v' : VV) : ∀ (n : Nat) (x1 : Int32) (x2 : Int32) (x3 : Int32) (x4 : Int32) (v : VV) (H : Heap) (locs : List Loc) (ls : Array Slot), L_X6_blows_9 n x1 x2 x3 x4 v = some v' → Wd G v H → va_S (gA G) s.heap H locs → lv_has ls 5 [(0, .ref (ad G 0)), (1, .int x1), (2, .int x2), (3, .int x3), (4, .int x4)] → W p l e ({ frames := 4, cells := 0, slots := 0, locals := 90 } : Room) s m args below meth c H locs 0 0 (MQ below (QV G v') args s 0 0 (gA G)) (F0 m 9 ls []) := by
  have hx := M.1.1
  have hb := M.1.2.1
  intro n
  induction n with
  | zero =>
    intro x1 x2 x3 x4 v H locs ls hF hP hS hl
    rw [L_X6_blows_9] at hF
    cases hF
  | succ n ih =>
    intro x1 x2 x3 x4 v H locs ls hF hP hS hl
    rw [L_X6_blows_9] at hF
    refine lv_iload hx hb dX6_blows_9 (lv_at hl 4 rfl) ?_
    refine lv_aload_n hx hb dX6_blows_11 rfl (lv_at hl 0 rfl) ?_
    refine fg_6_9 M hP dX6_blows_12 ?_
    refine lv_iconst (v := 3) hx hb dX6_blows_15 (by decide) ?_
    refine r_iald (k := 3) M hP rfl rfl (in_c rfl) rfl dX6_blows_16 ?_
    refine lv_icmp_ge (tgt := 49) hx hb dX6_blows_17 (by decide) (fun c3 => ?_) (fun c3 => ?_)
    · replace hF := (if_pos c3).symm.trans hF
      refine lv_aload_n hx hb dX6_blows_49 rfl (lv_at hl 0 rfl) ?_
      refine lv_iload_n hx hb dX6_blows_50 rfl (lv_at hl 1 rfl) ?_
      obtain ⟨r5, h4, hF⟩ := bi_some hF
      refine k_i hS (kV_run M hS hP ok_X6_128 (c_X6_turns l G x1 v r5 h4) (rc_6 M hP rfl) rfl hl.1 rfl (Nat.le_of_ble_eq_true rfl) ⟨rfl, rfl⟩ ⟨Nat.le_of_ble_eq_true rfl, Nat.le_of_ble_eq_true rfl⟩ dX6_blows_51) (fun H locs hP hS => ?_)
      refine lv_istore (lv' := [(4, .int r5), (0, .ref (ad G 0)), (1, .int x1), (2, .int x2), (3, .int x3)]) hx hb dX6_blows_54 hl (by decide) rfl (fun ls hl => ?_)
      refine lv_aload_n hx hb dX6_blows_56 rfl (lv_at hl 1 rfl) ?_
      refine lv_iload_n hx hb dX6_blows_57 rfl (lv_at hl 2 rfl) ?_
      refine lv_iconst (v := 4) hx hb dX6_blows_58 (by decide) ?_
      obtain ⟨r7, h6, hF⟩ := bi_some hF
      refine k_i hS (kS_run M hS hP ok_X6_85 (c_X6_keeperAt l G x1 4 v r7 h6) rfl hl.1 rfl (Nat.le_of_ble_eq_true rfl) ⟨rfl, rfl⟩ ⟨Nat.le_of_ble_eq_true rfl, Nat.le_of_ble_eq_true rfl⟩ dX6_blows_59) (fun H locs hP hS => ?_)
      refine lv_aload_n hx hb dX6_blows_62 rfl (lv_at hl 1 rfl) ?_
      refine lv_iload_n hx hb dX6_blows_63 rfl (lv_at hl 2 rfl) ?_
      obtain ⟨r9, h8, hF⟩ := bi_some hF
      refine k_i hS (kV_run M hS hP ok_X6_125 (c_X6_tires l G x1 v r9 h8) (rc_6 M hP rfl) rfl hl.1 rfl (Nat.le_of_ble_eq_true rfl) ⟨rfl, rfl⟩ ⟨Nat.le_of_ble_eq_true rfl, Nat.le_of_ble_eq_true rfl⟩ dX6_blows_64) (fun H locs hP hS => ?_)
      refine lv_bipush (v := 99) hx hb dX6_blows_67 (by decide) ?_
      obtain ⟨v12, h10, hF⟩ := bi_some hF
      refine k_v hS (kV_run M hS hP ok_X6_169 (c_X6_more l G r7 r9 99 v v12 h10) (rc_6 M hP rfl) rfl hl.1 rfl (Nat.le_of_ble_eq_true rfl) ⟨rfl, rfl⟩ ⟨Nat.le_of_ble_eq_true rfl, Nat.le_of_ble_eq_true rfl⟩ dX6_blows_69) (fun H locs hP hS => ?_)
      refine lv_aload_n hx hb dX6_blows_72 rfl (lv_at hl 1 rfl) ?_
      refine fg_6_9 M hP dX6_blows_73 ?_
      refine lv_iload_n hx hb dX6_blows_76 rfl (lv_at hl 2 rfl) ?_
      refine lv_iconst (v := 2) hx hb dX6_blows_77 (by decide) ?_
      obtain ⟨r14, h13, hF⟩ := bi_some hF
      refine k_i hS (kS_run M hS hP ok_X6_85 (c_X6_keeperAt l G x1 2 v12 r14 h13) rfl hl.1 rfl (Nat.le_of_ble_eq_true rfl) ⟨rfl, rfl⟩ ⟨Nat.le_of_ble_eq_true rfl, Nat.le_of_ble_eq_true rfl⟩ dX6_blows_78) (fun H locs hP hS => ?_)
      refine lv_aload_n hx hb dX6_blows_81 rfl (lv_at hl 1 rfl) ?_
      refine lv_iload_n hx hb dX6_blows_82 rfl (lv_at hl 2 rfl) ?_
      refine lv_iconst (v := 2) hx hb dX6_blows_83 (by decide) ?_
      obtain ⟨r16, h15, hF⟩ := bi_some hF
      refine k_i hS (kV_run M hS hP ok_X6_104 (c_X6_keeperIs l G x1 2 v12 r16 h15) (rc_6 M hP rfl) rfl hl.1 rfl (Nat.le_of_ble_eq_true rfl) ⟨rfl, rfl⟩ ⟨Nat.le_of_ble_eq_true rfl, Nat.le_of_ble_eq_true rfl⟩ dX6_blows_84) (fun H locs hP hS => ?_)
      refine lv_iload hx hb dX6_blows_87 (lv_at hl 0 rfl) ?_
      refine lv_iadd hx hb dX6_blows_89 ?_
      refine lv_bipush (v := 12) hx hb dX6_blows_90 (by decide) ?_
      refine lv_irem hx hb dX6_blows_92 (by decide) ?_
      obtain ⟨g17, hF⟩ := gu_some hF
      refine r_iast (k := (r14).toNatClampNeg) M hS hP rfl rfl (in_c g17) rfl dX6_blows_93 (fun H locs hP hS => ?_)
      have hP : Wd G (pu v12 1 ((r14).toNatClampNeg) ((r16 + r5) - (r16 + r5) / 12 * 12)) H := hP
      exact ret_v M hS hP (Option.some.inj hF) dX6_blows_94
    · replace hF := (if_neg c3).symm.trans hF
      refine lv_aload_n hx hb dX6_blows_20 rfl (lv_at hl 0 rfl) ?_
      refine lv_iload hx hb dX6_blows_21 (lv_at hl 4 rfl) ?_
      refine lv_iload_n hx hb dX6_blows_23 rfl (lv_at hl 1 rfl) ?_
      refine lv_iload_n hx hb dX6_blows_24 rfl (lv_at hl 2 rfl) ?_
      obtain ⟨r19, h18, hF⟩ := bi_some hF
      refine k_i hS (kV_run M hS hP ok_X6_159 (c_X6_doesHear l G x4 x1 x2 v r19 h18) (rc_6 M hP rfl) rfl hl.1 rfl (Nat.le_of_ble_eq_true rfl) ⟨rfl, rfl⟩ ⟨Nat.le_of_ble_eq_true rfl, Nat.le_of_ble_eq_true rfl⟩ dX6_blows_25) (fun H locs hP hS => ?_)
      refine lv_if_eq (tgt := 43) hx hb dX6_blows_28 (by decide) (fun c20 => ?_) (fun c20 => ?_)
      · replace hF := (if_neg (bI_f c20)).symm.trans hF
        refine lv_iinc (v := (x4 + 1)) (lv' := [(4, .int (x4 + 1)), (0, .ref (ad G 0)), (1, .int x1), (2, .int x2), (3, .int x3)]) hx hb dX6_blows_43 hl (k := 4) rfl (iinc_eq _ (by decide)) (by decide) rfl (fun ls hl => ?_)
        refine lv_goto (tgt := 9) hx hb dX6_blows_46 (by decide) ?_
        exact ih x1 x2 x3 (x4 + 1) _ _ _ ls hF hP hS (lv_sub hl [1, 2, 3, 4, 0] rfl)
      · replace hF := (if_pos (bI_t c20)).symm.trans hF
        refine lv_aload_n hx hb dX6_blows_31 rfl (lv_at hl 0 rfl) ?_
        refine lv_iload hx hb dX6_blows_32 (lv_at hl 4 rfl) ?_
        refine lv_iload_n hx hb dX6_blows_34 rfl (lv_at hl 3 rfl) ?_
        refine lv_aload_n hx hb dX6_blows_35 rfl (lv_at hl 0 rfl) ?_
        refine lv_iload_n hx hb dX6_blows_36 rfl (lv_at hl 1 rfl) ?_
        obtain ⟨r22, h21, hF⟩ := bi_some hF
        refine k_i hS (kV_run M hS hP ok_X6_122 (c_X6_tempo l G x1 v r22 h21) (rc_6 M hP rfl) rfl hl.1 rfl (Nat.le_of_ble_eq_true rfl) ⟨rfl, rfl⟩ ⟨Nat.le_of_ble_eq_true rfl, Nat.le_of_ble_eq_true rfl⟩ dX6_blows_37) (fun H locs hP hS => ?_)
        obtain ⟨v25, h23, hF⟩ := bi_some hF
        refine k_v hS (kV_run M hS hP ok_X6_165 (c_X6_writes l G x4 x3 r22 v v25 h23) (rc_6 M hP rfl) rfl hl.1 rfl (Nat.le_of_ble_eq_true rfl) ⟨rfl, rfl⟩ ⟨Nat.le_of_ble_eq_true rfl, Nat.le_of_ble_eq_true rfl⟩ dX6_blows_40) (fun H locs hP hS => ?_)
        refine lv_iinc (v := (x4 + 1)) (lv' := [(4, .int (x4 + 1)), (0, .ref (ad G 0)), (1, .int x1), (2, .int x2), (3, .int x3)]) hx hb dX6_blows_43 hl (k := 4) rfl (iinc_eq _ (by decide)) (by decide) rfl (fun ls hl => ?_)
        refine lv_goto (tgt := 9) hx hb dX6_blows_46 (by decide) ?_
        exact ih x1 x2 x3 (x4 + 1) _ _ _ ls hF hP hS (lv_sub hl [1, 2, 3, 4, 0] rfl)
set_option maxHeartbeats 4000000 in
set_option maxRecDepth 100000 in
theorem c_X6_blows (l : Launch) (G : GG) (a1 : Int32) (a2 : Int32) (v : VV) (v' : VV) (hF : F_X6_blows a1 a2 v = some v') : Met l yX6_blows (cdW yX6_blows cX6_blows 5 none) ({ frames := 4, cells := 0, slots := 0, locals := 90 } : Room) (PC G v [.ref (ad G 0), .int a1, .int a2]) (QV G v') 0 0 (gA G) := by
  refine met_in RX6 (by decide) rfl (Nat.le_of_ble_eq_true rfl) ?_
  intro p e s m below meth c M hP ls hl
  have hx := M.1.1
  have hb := M.1.2.1
  have hS : va_S (gA G) s.heap s.heap [] := va_S.rf
  have hl : lv_has ls 5 [(0, .ref (ad G 0)), (1, .int a1), (2, .int a2)] := hl
  unfold F_X6_blows at hF
  refine lv_aload_n hx hb dX6_blows_0 rfl (lv_at hl 0 rfl) ?_
  refine lv_iload_n hx hb dX6_blows_1 rfl (lv_at hl 1 rfl) ?_
  obtain ⟨r2, h1, hF⟩ := bi_some hF
  refine k_i hS (kV_run M hS hP ok_X6_112 (c_X6_gives l G a1 v r2 h1) (rc_6 M hP rfl) rfl hl.1 rfl (Nat.le_of_ble_eq_true rfl) ⟨rfl, rfl⟩ ⟨Nat.le_of_ble_eq_true rfl, Nat.le_of_ble_eq_true rfl⟩ dX6_blows_2) (fun H locs hP hS => ?_)
  refine lv_istore_n (lv' := [(3, .int r2), (0, .ref (ad G 0)), (1, .int a1), (2, .int a2)]) hx hb dX6_blows_5 rfl hl (by decide) rfl (fun ls hl => ?_)
  refine lv_iconst (v := 0) hx hb dX6_blows_6 (by decide) ?_
  refine lv_istore (lv' := [(4, .int 0), (3, .int r2), (0, .ref (ad G 0)), (1, .int a1), (2, .int a2)]) hx hb dX6_blows_7 hl (by decide) rfl (fun ls hl => ?_)
  exact l_X6_blows_9 M _ fu a1 a2 r2 0 _ _ _ ls hF hP hS (lv_sub hl [2, 3, 4, 1, 0] rfl)
def L_X6_day_12 : Nat → Int32 → Int32 → VV → Option VV
  | 0, _, _, _ => none
  | n + 1, x1, x2, v =>
  if (v 1 1) ≤ x2 then (Option.bind (F_X6_more 0 1 99999 v) (fun v7 => some v7)) else (if x1 = 0 then (Option.bind (F_X6_keeperAt x2 4 v) (fun r16 => Option.bind (F_X6_keeperIs x2 4 v) (fun r18 => gu (gI r16 92) (L_X6_day_12 n x1 (x2 + 1) (pu v 1 ((r16).toNatClampNeg) (if 0 < (r18 - 3) then (r18 - 3) else 0 : Int32)))))) else (Option.bind (F_X6_keeperIs x2 5 v) (fun r10 => (if r10 = 0 then (Option.bind (F_X6_blows x2 x1 v) (fun v14 => L_X6_day_12 n x1 (x2 + 1) v14)) else (L_X6_day_12 n x1 (x2 + 1) v)))))
def F_X6_day (v : VV) : Option VV :=
  Option.bind (F_X6_placeNow v) (fun r2 => gu (gI r2 92) (L_X6_day_12 fu (v 1 ((r2).toNatClampNeg)) 0 v))
set_option maxHeartbeats 4000000 in
set_option maxRecDepth 100000 in
theorem l_X6_day_12 {p : Program} {l : Launch} {e : Env} {s : State} {m : MethodId} {args : Array Value} {below : List Frame} {meth : Method} {c : Code} {G : GG} (M : Mx G RX6 cX6_day 3 none p s m args meth c) (v' : VV) : ∀ (n : Nat) (x1 : Int32) (x2 : Int32) (v : VV) (H : Heap) (locs : List Loc) (ls : Array Slot), L_X6_day_12 n x1 x2 v = some v' → Wd G v H → va_S (gA G) s.heap H locs → lv_has ls 3 [(0, .ref (ad G 0)), (1, .int x1), (2, .int x2)] → W p l e ({ frames := 5, cells := 0, slots := 0, locals := 114 } : Room) s m args below meth c H locs 0 0 (MQ below (QV G v') args s 0 0 (gA G)) (F0 m 12 ls []) := by
  have hx := M.1.1
  have hb := M.1.2.1
  intro n
  induction n with
  | zero =>
    intro x1 x2 v H locs ls hF hP hS hl
    rw [L_X6_day_12] at hF
    cases hF
  | succ n ih =>
    intro x1 x2 v H locs ls hF hP hS hl
    rw [L_X6_day_12] at hF
    refine lv_iload_n hx hb dX6_day_12 rfl (lv_at hl 2 rfl) ?_
    refine lv_aload_n hx hb dX6_day_13 rfl (lv_at hl 0 rfl) ?_
    refine fg_6_9 M hP dX6_day_14 ?_
    refine lv_iconst (v := 1) hx hb dX6_day_17 (by decide) ?_
    refine r_iald (k := 1) M hP rfl rfl (in_c rfl) rfl dX6_day_18 ?_
    refine lv_icmp_ge (tgt := 72) hx hb dX6_day_19 (by decide) (fun c4 => ?_) (fun c4 => ?_)
    · replace hF := (if_pos c4).symm.trans hF
      refine lv_aload_n hx hb dX6_day_72 rfl (lv_at hl 0 rfl) ?_
      refine lv_iconst (v := 0) hx hb dX6_day_73 (by decide) ?_
      refine lv_iconst (v := 1) hx hb dX6_day_74 (by decide) ?_
      refine lv_ldc (own := RX6) (v := 99999) hx hb M.1.2.2.2.1 (M.1.2.2.2.2 (Cond.constant RX6 176 99999) w_912) dX6_day_75 ?_
      obtain ⟨v7, h5, hF⟩ := bi_some hF
      refine k_v hS (kV_run M hS hP ok_X6_169 (c_X6_more l G 0 1 99999 v v7 h5) (rc_6 M hP rfl) rfl hl.1 rfl (Nat.le_of_ble_eq_true rfl) ⟨rfl, rfl⟩ ⟨Nat.le_of_ble_eq_true rfl, Nat.le_of_ble_eq_true rfl⟩ dX6_day_77) (fun H locs hP hS => ?_)
      exact ret_v M hS hP (Option.some.inj hF) dX6_day_80
    · replace hF := (if_neg c4).symm.trans hF
      refine lv_iload_n hx hb dX6_day_22 rfl (lv_at hl 1 rfl) ?_
      refine lv_if_ne (tgt := 51) hx hb dX6_day_23 (by decide) (fun c8 => ?_) (fun c8 => ?_)
      · replace hF := (if_neg c8).symm.trans hF
        refine lv_aload_n hx hb dX6_day_51 rfl (lv_at hl 0 rfl) ?_
        refine lv_iload_n hx hb dX6_day_52 rfl (lv_at hl 2 rfl) ?_
        refine lv_iconst (v := 5) hx hb dX6_day_53 (by decide) ?_
        obtain ⟨r10, h9, hF⟩ := bi_some hF
        refine k_i hS (kV_run M hS hP ok_X6_104 (c_X6_keeperIs l G x2 5 v r10 h9) (rc_6 M hP rfl) rfl hl.1 rfl (Nat.le_of_ble_eq_true rfl) ⟨rfl, rfl⟩ ⟨Nat.le_of_ble_eq_true rfl, Nat.le_of_ble_eq_true rfl⟩ dX6_day_54) (fun H locs hP hS => ?_)
        refine lv_if_ne (tgt := 66) hx hb dX6_day_57 (by decide) (fun c11 => ?_) (fun c11 => ?_)
        · replace hF := (if_neg c11).symm.trans hF
          refine lv_iinc (v := (x2 + 1)) (lv' := [(2, .int (x2 + 1)), (0, .ref (ad G 0)), (1, .int x1)]) hx hb dX6_day_66 hl (k := 2) rfl (iinc_eq _ (by decide)) (by decide) rfl (fun ls hl => ?_)
          refine lv_goto (tgt := 12) hx hb dX6_day_69 (by decide) ?_
          exact ih x1 (x2 + 1) _ _ _ ls hF hP hS (lv_sub hl [1, 2, 0] rfl)
        · replace hF := (if_pos c11).symm.trans hF
          refine lv_aload_n hx hb dX6_day_60 rfl (lv_at hl 0 rfl) ?_
          refine lv_iload_n hx hb dX6_day_61 rfl (lv_at hl 2 rfl) ?_
          refine lv_iload_n hx hb dX6_day_62 rfl (lv_at hl 1 rfl) ?_
          obtain ⟨v14, h12, hF⟩ := bi_some hF
          refine k_v hS (kV_run M hS hP ok_X6_172 (c_X6_blows l G x2 x1 v v14 h12) (rc_6 M hP rfl) rfl hl.1 rfl (Nat.le_of_ble_eq_true rfl) ⟨rfl, rfl⟩ ⟨Nat.le_of_ble_eq_true rfl, Nat.le_of_ble_eq_true rfl⟩ dX6_day_63) (fun H locs hP hS => ?_)
          refine lv_iinc (v := (x2 + 1)) (lv' := [(2, .int (x2 + 1)), (0, .ref (ad G 0)), (1, .int x1)]) hx hb dX6_day_66 hl (k := 2) rfl (iinc_eq _ (by decide)) (by decide) rfl (fun ls hl => ?_)
          refine lv_goto (tgt := 12) hx hb dX6_day_69 (by decide) ?_
          exact ih x1 (x2 + 1) _ _ _ ls hF hP hS (lv_sub hl [1, 2, 0] rfl)
      · replace hF := (if_pos c8).symm.trans hF
        refine lv_aload_n hx hb dX6_day_26 rfl (lv_at hl 0 rfl) ?_
        refine fg_6_9 M hP dX6_day_27 ?_
        refine lv_iload_n hx hb dX6_day_30 rfl (lv_at hl 2 rfl) ?_
        refine lv_iconst (v := 4) hx hb dX6_day_31 (by decide) ?_
        obtain ⟨r16, h15, hF⟩ := bi_some hF
        refine k_i hS (kS_run M hS hP ok_X6_85 (c_X6_keeperAt l G x2 4 v r16 h15) rfl hl.1 rfl (Nat.le_of_ble_eq_true rfl) ⟨rfl, rfl⟩ ⟨Nat.le_of_ble_eq_true rfl, Nat.le_of_ble_eq_true rfl⟩ dX6_day_32) (fun H locs hP hS => ?_)
        refine lv_iconst (v := 0) hx hb dX6_day_35 (by decide) ?_
        refine lv_aload_n hx hb dX6_day_36 rfl (lv_at hl 0 rfl) ?_
        refine lv_iload_n hx hb dX6_day_37 rfl (lv_at hl 2 rfl) ?_
        refine lv_iconst (v := 4) hx hb dX6_day_38 (by decide) ?_
        obtain ⟨r18, h17, hF⟩ := bi_some hF
        refine k_i hS (kV_run M hS hP ok_X6_104 (c_X6_keeperIs l G x2 4 v r18 h17) (rc_6 M hP rfl) rfl hl.1 rfl (Nat.le_of_ble_eq_true rfl) ⟨rfl, rfl⟩ ⟨Nat.le_of_ble_eq_true rfl, Nat.le_of_ble_eq_true rfl⟩ dX6_day_39) (fun H locs hP hS => ?_)
        refine lv_iconst (v := 3) hx hb dX6_day_42 (by decide) ?_
        refine lv_isub hx hb dX6_day_43 ?_
        refine mmax_6_107 M hl.1 (Nat.le_of_ble_eq_true rfl) (Nat.le_of_ble_eq_true rfl) dX6_day_44 ?_
        obtain ⟨g19, hF⟩ := gu_some hF
        refine r_iast (k := (r16).toNatClampNeg) M hS hP rfl rfl (in_c g19) rfl dX6_day_47 (fun H locs hP hS => ?_)
        have hP : Wd G (pu v 1 ((r16).toNatClampNeg) (if 0 < (r18 - 3) then (r18 - 3) else 0 : Int32)) H := hP
        refine lv_goto (tgt := 66) hx hb dX6_day_48 (by decide) ?_
        refine lv_iinc (v := (x2 + 1)) (lv' := [(2, .int (x2 + 1)), (0, .ref (ad G 0)), (1, .int x1)]) hx hb dX6_day_66 hl (k := 2) rfl (iinc_eq _ (by decide)) (by decide) rfl (fun ls hl => ?_)
        refine lv_goto (tgt := 12) hx hb dX6_day_69 (by decide) ?_
        exact ih x1 (x2 + 1) _ _ _ ls hF hP hS (lv_sub hl [1, 2, 0] rfl)
set_option maxHeartbeats 4000000 in
set_option maxRecDepth 100000 in
theorem c_X6_day (l : Launch) (G : GG) (v : VV) (v' : VV) (hF : F_X6_day v = some v') : Met l yX6_day (cdW yX6_day cX6_day 3 none) ({ frames := 5, cells := 0, slots := 0, locals := 114 } : Room) (PC G v [.ref (ad G 0)]) (QV G v') 0 0 (gA G) := by
  refine met_in RX6 (by decide) rfl (Nat.le_of_ble_eq_true rfl) ?_
  intro p e s m below meth c M hP ls hl
  have hx := M.1.1
  have hb := M.1.2.1
  have hS : va_S (gA G) s.heap s.heap [] := va_S.rf
  have hl : lv_has ls 3 [(0, .ref (ad G 0))] := hl
  unfold F_X6_day at hF
  refine lv_aload_n hx hb dX6_day_0 rfl (lv_at hl 0 rfl) ?_
  refine fg_6_9 M hP dX6_day_1 ?_
  refine lv_aload_n hx hb dX6_day_4 rfl (lv_at hl 0 rfl) ?_
  obtain ⟨r2, h1, hF⟩ := bi_some hF
  refine k_i hS (kV_run M hS hP ok_X6_115 (c_X6_placeNow l G v r2 h1) (rc_6 M hP rfl) rfl hl.1 rfl (Nat.le_of_ble_eq_true rfl) ⟨rfl, rfl⟩ ⟨Nat.le_of_ble_eq_true rfl, Nat.le_of_ble_eq_true rfl⟩ dX6_day_5) (fun H locs hP hS => ?_)
  obtain ⟨g3, hF⟩ := gu_some hF
  refine r_iald (k := (r2).toNatClampNeg) M hP rfl rfl (in_c g3) rfl dX6_day_8 ?_
  refine lv_istore_n (lv' := [(1, .int (v 1 ((r2).toNatClampNeg))), (0, .ref (ad G 0))]) hx hb dX6_day_9 rfl hl (by decide) rfl (fun ls hl => ?_)
  refine lv_iconst (v := 0) hx hb dX6_day_10 (by decide) ?_
  refine lv_istore_n (lv' := [(2, .int 0), (1, .int (v 1 ((r2).toNatClampNeg))), (0, .ref (ad G 0))]) hx hb dX6_day_11 rfl hl (by decide) rfl (fun ls hl => ?_)
  exact l_X6_day_12 M _ fu (v 1 ((r2).toNatClampNeg)) 0 _ _ _ ls hF hP hS (lv_sub hl [2, 1, 0] rfl)
