set_option maxHeartbeats 4000000 in
theorem lc_21 {p : Program} {l : Launch} {e : Env} {s : State} {m : MethodId} {below : List Frame} {meth : Method} {c : Code} {H : Heap} {locs : List Loc} {G : GG} {v : VV} {Q : State → Prop} {b L cells slots : Nat} {xs : Nat → Int32} {x3 : Int32} {ls : Array Slot} (X : LX G p s m meth c b L xs cells slots) (h1 : vp_in (x3 + 1) L) (h2 : vp_in (x3 + 2) L) (h3 : vp_in (x3 + 3) L) (h4 : vp_in (x3 + 4) L) (h5 : vp_in (x3 + 5) L) (hP : Wd G v H) (hR : Rel v) (hS : va_S (gA G) s.heap H locs) (hl : lv_has ls 4 [(0, .ref b), (1, .ref (ad G 12)), (2, .ref (ad G 0)), (3, .int x3)])
    (kk : ∀ (v2 : VV) (H : Heap) (locs : List Loc), Wd G v2 H → Rel v2 → va_S (gA G) s.heap H locs → W p l e room_1 s m #[Value.ref b] below meth c H locs cells slots Q (F0 m 1486 ls [])) : W p l e room_1 s m #[Value.ref b] below meth c H locs cells slots Q (F0 m 915 ls []) := by
  obtain ⟨M, hX, hbl, hbA, hcs⟩ := X
  have hx := M.1.1
  have hb := M.1.2.1
  obtain ⟨r, v1, v2, f1, f2, hR2⟩ := st_fits hR (xs (x3 + 1).toNatClampNeg) (xs (x3 + 2).toNatClampNeg)
  refine lv_aload_n hx hb dL_law_915 rfl (lv_at hl 1 rfl) ?_
  refine lv_aload_n hx hb dL_law_916 rfl (lv_at hl 0 rfl) ?_
  refine lv_iload_n hx hb dL_law_917 rfl (lv_at hl 3 rfl) ?_
  refine lv_iconst (v := 1) hx hb dL_law_918 (by decide) ?_
  refine lv_iadd hx hb dL_law_919 ?_
  refine va_sld hx hb hX hbl hbA hS h1 dL_law_920 ?_
  refine lv_aload_n hx hb dL_law_921 rfl (lv_at hl 0 rfl) ?_
  refine lv_iload_n hx hb dL_law_922 rfl (lv_at hl 3 rfl) ?_
  refine lv_iconst (v := 2) hx hb dL_law_923 (by decide) ?_
  refine lv_iadd hx hb dL_law_924 ?_
  refine va_sld hx hb hX hbl hbA hS h2 dL_law_925 ?_
  refine kL_i hS (kL_run M hS hP hcs ok_L_100 (c_X5_fits l G (xs (x3 + 1).toNatClampNeg) (xs (x3 + 2).toNatClampNeg) v r v1 f1) (rc_5 M hP (i := 12) rfl) rfl hl.1 rfl (Nat.le_of_ble_eq_true rfl) ⟨rfl, rfl⟩ ⟨Nat.le_of_ble_eq_true rfl, Nat.le_of_ble_eq_true rfl⟩ dL_law_926) (fun H locs hP hS => ?_)
  refine lv_aload_n hx hb dL_law_929 rfl (lv_at hl 2 rfl) ?_
  refine lv_aload_n hx hb dL_law_930 rfl (lv_at hl 0 rfl) ?_
  refine lv_iload_n hx hb dL_law_931 rfl (lv_at hl 3 rfl) ?_
  refine lv_iconst (v := 1) hx hb dL_law_932 (by decide) ?_
  refine lv_iadd hx hb dL_law_933 ?_
  refine va_sld hx hb hX hbl hbA hS h1 dL_law_934 ?_
  refine lv_aload_n hx hb dL_law_935 rfl (lv_at hl 0 rfl) ?_
  refine lv_iload_n hx hb dL_law_936 rfl (lv_at hl 3 rfl) ?_
  refine lv_iconst (v := 2) hx hb dL_law_937 (by decide) ?_
  refine lv_iadd hx hb dL_law_938 ?_
  refine va_sld hx hb hX hbl hbA hS h2 dL_law_939 ?_
  refine kL_i hS (kL_run M hS hP hcs ok_L_103 (c_X6_fits l G (xs (x3 + 1).toNatClampNeg) (xs (x3 + 2).toNatClampNeg) v1 r v2 f2) (rc_6 M hP (i := 0) rfl) rfl hl.1 rfl (Nat.le_of_ble_eq_true rfl) ⟨rfl, rfl⟩ ⟨Nat.le_of_ble_eq_true rfl, Nat.le_of_ble_eq_true rfl⟩ dL_law_940) (fun H locs hP hS => ?_)
  refine lv_icmp_eq (tgt := 1486) hx hb dL_law_943 (by decide) (fun _ => ?_) (fun q => absurd rfl q)
  exact kk v2 H locs hP hR2 hS
set_option maxHeartbeats 4000000 in
theorem lc_22 {p : Program} {l : Launch} {e : Env} {s : State} {m : MethodId} {below : List Frame} {meth : Method} {c : Code} {H : Heap} {locs : List Loc} {G : GG} {v : VV} {Q : State → Prop} {b L cells slots : Nat} {xs : Nat → Int32} {x3 : Int32} {ls : Array Slot} (X : LX G p s m meth c b L xs cells slots) (h1 : vp_in (x3 + 1) L) (h2 : vp_in (x3 + 2) L) (h3 : vp_in (x3 + 3) L) (h4 : vp_in (x3 + 4) L) (h5 : vp_in (x3 + 5) L) (hP : Wd G v H) (hR : Rel v) (hS : va_S (gA G) s.heap H locs) (hl : lv_has ls 4 [(0, .ref b), (1, .ref (ad G 12)), (2, .ref (ad G 0)), (3, .int x3)])
    (kk : ∀ (v2 : VV) (H : Heap) (locs : List Loc), Wd G v2 H → Rel v2 → va_S (gA G) s.heap H locs → W p l e room_1 s m #[Value.ref b] below meth c H locs cells slots Q (F0 m 1486 ls [])) : W p l e room_1 s m #[Value.ref b] below meth c H locs cells slots Q (F0 m 948 ls []) := by
  obtain ⟨M, hX, hbl, hbA, hcs⟩ := X
  have hx := M.1.1
  have hb := M.1.2.1
  obtain ⟨r, v1, v2, f1, f2, hR2⟩ := st_kinds hR (xs (x3 + 1).toNatClampNeg) (xs (x3 + 2).toNatClampNeg)
  refine lv_aload_n hx hb dL_law_948 rfl (lv_at hl 1 rfl) ?_
  refine lv_aload_n hx hb dL_law_949 rfl (lv_at hl 0 rfl) ?_
  refine lv_iload_n hx hb dL_law_950 rfl (lv_at hl 3 rfl) ?_
  refine lv_iconst (v := 1) hx hb dL_law_951 (by decide) ?_
  refine lv_iadd hx hb dL_law_952 ?_
  refine va_sld hx hb hX hbl hbA hS h1 dL_law_953 ?_
  refine lv_aload_n hx hb dL_law_954 rfl (lv_at hl 0 rfl) ?_
  refine lv_iload_n hx hb dL_law_955 rfl (lv_at hl 3 rfl) ?_
  refine lv_iconst (v := 2) hx hb dL_law_956 (by decide) ?_
  refine lv_iadd hx hb dL_law_957 ?_
  refine va_sld hx hb hX hbl hbA hS h2 dL_law_958 ?_
  refine kL_i hS (kL_run M hS hP hcs ok_L_104 (c_X5_kinds l G (xs (x3 + 1).toNatClampNeg) (xs (x3 + 2).toNatClampNeg) v r v1 f1) (rc_5 M hP (i := 12) rfl) rfl hl.1 rfl (Nat.le_of_ble_eq_true rfl) ⟨rfl, rfl⟩ ⟨Nat.le_of_ble_eq_true rfl, Nat.le_of_ble_eq_true rfl⟩ dL_law_959) (fun H locs hP hS => ?_)
  refine lv_aload_n hx hb dL_law_962 rfl (lv_at hl 2 rfl) ?_
  refine lv_aload_n hx hb dL_law_963 rfl (lv_at hl 0 rfl) ?_
  refine lv_iload_n hx hb dL_law_964 rfl (lv_at hl 3 rfl) ?_
  refine lv_iconst (v := 1) hx hb dL_law_965 (by decide) ?_
  refine lv_iadd hx hb dL_law_966 ?_
  refine va_sld hx hb hX hbl hbA hS h1 dL_law_967 ?_
  refine lv_aload_n hx hb dL_law_968 rfl (lv_at hl 0 rfl) ?_
  refine lv_iload_n hx hb dL_law_969 rfl (lv_at hl 3 rfl) ?_
  refine lv_iconst (v := 2) hx hb dL_law_970 (by decide) ?_
  refine lv_iadd hx hb dL_law_971 ?_
  refine va_sld hx hb hX hbl hbA hS h2 dL_law_972 ?_
  refine kL_i hS (kL_run M hS hP hcs ok_L_107 (c_X6_kinds l G (xs (x3 + 1).toNatClampNeg) (xs (x3 + 2).toNatClampNeg) v1 r v2 f2) (rc_6 M hP (i := 0) rfl) rfl hl.1 rfl (Nat.le_of_ble_eq_true rfl) ⟨rfl, rfl⟩ ⟨Nat.le_of_ble_eq_true rfl, Nat.le_of_ble_eq_true rfl⟩ dL_law_973) (fun H locs hP hS => ?_)
  refine lv_icmp_eq (tgt := 1486) hx hb dL_law_976 (by decide) (fun _ => ?_) (fun q => absurd rfl q)
  exact kk v2 H locs hP hR2 hS
set_option maxHeartbeats 4000000 in
theorem lc_23 {p : Program} {l : Launch} {e : Env} {s : State} {m : MethodId} {below : List Frame} {meth : Method} {c : Code} {H : Heap} {locs : List Loc} {G : GG} {v : VV} {Q : State → Prop} {b L cells slots : Nat} {xs : Nat → Int32} {x3 : Int32} {ls : Array Slot} (X : LX G p s m meth c b L xs cells slots) (h1 : vp_in (x3 + 1) L) (h2 : vp_in (x3 + 2) L) (h3 : vp_in (x3 + 3) L) (h4 : vp_in (x3 + 4) L) (h5 : vp_in (x3 + 5) L) (hP : Wd G v H) (hR : Rel v) (hS : va_S (gA G) s.heap H locs) (hl : lv_has ls 4 [(0, .ref b), (1, .ref (ad G 12)), (2, .ref (ad G 0)), (3, .int x3)])
    (kk : ∀ (v2 : VV) (H : Heap) (locs : List Loc), Wd G v2 H → Rel v2 → va_S (gA G) s.heap H locs → W p l e room_1 s m #[Value.ref b] below meth c H locs cells slots Q (F0 m 1486 ls [])) : W p l e room_1 s m #[Value.ref b] below meth c H locs cells slots Q (F0 m 981 ls []) := by
  obtain ⟨M, hX, hbl, hbA, hcs⟩ := X
  have hx := M.1.1
  have hb := M.1.2.1
  obtain ⟨r, v1, v2, f1, f2, hR2⟩ := st_autumn hR (xs (x3 + 1).toNatClampNeg)
  refine lv_aload_n hx hb dL_law_981 rfl (lv_at hl 1 rfl) ?_
  refine lv_aload_n hx hb dL_law_982 rfl (lv_at hl 0 rfl) ?_
  refine lv_iload_n hx hb dL_law_983 rfl (lv_at hl 3 rfl) ?_
  refine lv_iconst (v := 1) hx hb dL_law_984 (by decide) ?_
  refine lv_iadd hx hb dL_law_985 ?_
  refine va_sld hx hb hX hbl hbA hS h1 dL_law_986 ?_
  refine kL_i hS (kL_run M hS hP hcs ok_L_108 (c_X5_autumn l G (xs (x3 + 1).toNatClampNeg) v r v1 f1) (rc_5 M hP (i := 12) rfl) rfl hl.1 rfl (Nat.le_of_ble_eq_true rfl) ⟨rfl, rfl⟩ ⟨Nat.le_of_ble_eq_true rfl, Nat.le_of_ble_eq_true rfl⟩ dL_law_987) (fun H locs hP hS => ?_)
  refine lv_aload_n hx hb dL_law_990 rfl (lv_at hl 2 rfl) ?_
  refine lv_aload_n hx hb dL_law_991 rfl (lv_at hl 0 rfl) ?_
  refine lv_iload_n hx hb dL_law_992 rfl (lv_at hl 3 rfl) ?_
  refine lv_iconst (v := 1) hx hb dL_law_993 (by decide) ?_
  refine lv_iadd hx hb dL_law_994 ?_
  refine va_sld hx hb hX hbl hbA hS h1 dL_law_995 ?_
  refine kL_i hS (kL_run M hS hP hcs ok_L_111 (c_X6_autumn l G (xs (x3 + 1).toNatClampNeg) v1 r v2 f2) (rc_6 M hP (i := 0) rfl) rfl hl.1 rfl (Nat.le_of_ble_eq_true rfl) ⟨rfl, rfl⟩ ⟨Nat.le_of_ble_eq_true rfl, Nat.le_of_ble_eq_true rfl⟩ dL_law_996) (fun H locs hP hS => ?_)
  refine lv_icmp_eq (tgt := 1486) hx hb dL_law_999 (by decide) (fun _ => ?_) (fun q => absurd rfl q)
  exact kk v2 H locs hP hR2 hS
set_option maxHeartbeats 4000000 in
theorem lc_24 {p : Program} {l : Launch} {e : Env} {s : State} {m : MethodId} {below : List Frame} {meth : Method} {c : Code} {H : Heap} {locs : List Loc} {G : GG} {v : VV} {Q : State → Prop} {b L cells slots : Nat} {xs : Nat → Int32} {x3 : Int32} {ls : Array Slot} (X : LX G p s m meth c b L xs cells slots) (h1 : vp_in (x3 + 1) L) (h2 : vp_in (x3 + 2) L) (h3 : vp_in (x3 + 3) L) (h4 : vp_in (x3 + 4) L) (h5 : vp_in (x3 + 5) L) (hP : Wd G v H) (hR : Rel v) (hS : va_S (gA G) s.heap H locs) (hl : lv_has ls 4 [(0, .ref b), (1, .ref (ad G 12)), (2, .ref (ad G 0)), (3, .int x3)])
    (kk : ∀ (v2 : VV) (H : Heap) (locs : List Loc), Wd G v2 H → Rel v2 → va_S (gA G) s.heap H locs → W p l e room_1 s m #[Value.ref b] below meth c H locs cells slots Q (F0 m 1486 ls [])) : W p l e room_1 s m #[Value.ref b] below meth c H locs cells slots Q (F0 m 1004 ls []) := by
  obtain ⟨M, hX, hbl, hbA, hcs⟩ := X
  have hx := M.1.1
  have hb := M.1.2.1
  obtain ⟨r, v1, v2, f1, f2, hR2⟩ := st_odds hR (xs (x3 + 1).toNatClampNeg) (xs (x3 + 2).toNatClampNeg) (xs (x3 + 3).toNatClampNeg) (xs (x3 + 4).toNatClampNeg)
  refine lv_aload_n hx hb dL_law_1004 rfl (lv_at hl 1 rfl) ?_
  refine lv_aload_n hx hb dL_law_1005 rfl (lv_at hl 0 rfl) ?_
  refine lv_iload_n hx hb dL_law_1006 rfl (lv_at hl 3 rfl) ?_
  refine lv_iconst (v := 1) hx hb dL_law_1007 (by decide) ?_
  refine lv_iadd hx hb dL_law_1008 ?_
  refine va_sld hx hb hX hbl hbA hS h1 dL_law_1009 ?_
  refine lv_aload_n hx hb dL_law_1010 rfl (lv_at hl 0 rfl) ?_
  refine lv_iload_n hx hb dL_law_1011 rfl (lv_at hl 3 rfl) ?_
  refine lv_iconst (v := 2) hx hb dL_law_1012 (by decide) ?_
  refine lv_iadd hx hb dL_law_1013 ?_
  refine va_sld hx hb hX hbl hbA hS h2 dL_law_1014 ?_
  refine lv_aload_n hx hb dL_law_1015 rfl (lv_at hl 0 rfl) ?_
  refine lv_iload_n hx hb dL_law_1016 rfl (lv_at hl 3 rfl) ?_
  refine lv_iconst (v := 3) hx hb dL_law_1017 (by decide) ?_
  refine lv_iadd hx hb dL_law_1018 ?_
  refine va_sld hx hb hX hbl hbA hS h3 dL_law_1019 ?_
  refine lv_aload_n hx hb dL_law_1020 rfl (lv_at hl 0 rfl) ?_
  refine lv_iload_n hx hb dL_law_1021 rfl (lv_at hl 3 rfl) ?_
  refine lv_iconst (v := 4) hx hb dL_law_1022 (by decide) ?_
  refine lv_iadd hx hb dL_law_1023 ?_
  refine va_sld hx hb hX hbl hbA hS h4 dL_law_1024 ?_
  refine kL_l hS (kL_run M hS hP hcs ok_L_112 (c_X5_odds l G (xs (x3 + 1).toNatClampNeg) (xs (x3 + 2).toNatClampNeg) (xs (x3 + 3).toNatClampNeg) (xs (x3 + 4).toNatClampNeg) v r v1 f1) (rc_5 M hP (i := 12) rfl) rfl hl.1 rfl (Nat.le_of_ble_eq_true rfl) ⟨rfl, rfl⟩ ⟨Nat.le_of_ble_eq_true rfl, Nat.le_of_ble_eq_true rfl⟩ dL_law_1025) (fun H locs hP hS => ?_)
  refine lv_aload_n hx hb dL_law_1028 rfl (lv_at hl 2 rfl) ?_
  refine lv_aload_n hx hb dL_law_1029 rfl (lv_at hl 0 rfl) ?_
  refine lv_iload_n hx hb dL_law_1030 rfl (lv_at hl 3 rfl) ?_
  refine lv_iconst (v := 1) hx hb dL_law_1031 (by decide) ?_
  refine lv_iadd hx hb dL_law_1032 ?_
  refine va_sld hx hb hX hbl hbA hS h1 dL_law_1033 ?_
  refine lv_aload_n hx hb dL_law_1034 rfl (lv_at hl 0 rfl) ?_
  refine lv_iload_n hx hb dL_law_1035 rfl (lv_at hl 3 rfl) ?_
  refine lv_iconst (v := 2) hx hb dL_law_1036 (by decide) ?_
  refine lv_iadd hx hb dL_law_1037 ?_
  refine va_sld hx hb hX hbl hbA hS h2 dL_law_1038 ?_
  refine lv_aload_n hx hb dL_law_1039 rfl (lv_at hl 0 rfl) ?_
  refine lv_iload_n hx hb dL_law_1040 rfl (lv_at hl 3 rfl) ?_
  refine lv_iconst (v := 3) hx hb dL_law_1041 (by decide) ?_
  refine lv_iadd hx hb dL_law_1042 ?_
  refine va_sld hx hb hX hbl hbA hS h3 dL_law_1043 ?_
  refine lv_aload_n hx hb dL_law_1044 rfl (lv_at hl 0 rfl) ?_
  refine lv_iload_n hx hb dL_law_1045 rfl (lv_at hl 3 rfl) ?_
  refine lv_iconst (v := 4) hx hb dL_law_1046 (by decide) ?_
  refine lv_iadd hx hb dL_law_1047 ?_
  refine va_sld hx hb hX hbl hbA hS h4 dL_law_1048 ?_
  refine kL_l hS (kL_run M hS hP hcs ok_L_116 (c_X6_odds l G (xs (x3 + 1).toNatClampNeg) (xs (x3 + 2).toNatClampNeg) (xs (x3 + 3).toNatClampNeg) (xs (x3 + 4).toNatClampNeg) v1 r v2 f2) (rc_6 M hP (i := 0) rfl) rfl hl.1 rfl (Nat.le_of_ble_eq_true rfl) ⟨rfl, rfl⟩ ⟨Nat.le_of_ble_eq_true rfl, Nat.le_of_ble_eq_true rfl⟩ dL_law_1049) (fun H locs hP hS => ?_)
  refine W.lcmp hx hb dL_law_1052 ?_
  refine lv_if_eq (tgt := 1486) hx hb dL_law_1053 (by decide) (fun _ => ?_) (fun q => absurd (lg_cmp_self r) q)
  exact kk v2 H locs hP hR2 hS
set_option maxHeartbeats 4000000 in
theorem lc_25 {p : Program} {l : Launch} {e : Env} {s : State} {m : MethodId} {below : List Frame} {meth : Method} {c : Code} {H : Heap} {locs : List Loc} {G : GG} {v : VV} {Q : State → Prop} {b L cells slots : Nat} {xs : Nat → Int32} {x3 : Int32} {ls : Array Slot} (X : LX G p s m meth c b L xs cells slots) (h1 : vp_in (x3 + 1) L) (h2 : vp_in (x3 + 2) L) (h3 : vp_in (x3 + 3) L) (h4 : vp_in (x3 + 4) L) (h5 : vp_in (x3 + 5) L) (hP : Wd G v H) (hR : Rel v) (hS : va_S (gA G) s.heap H locs) (hl : lv_has ls 4 [(0, .ref b), (1, .ref (ad G 12)), (2, .ref (ad G 0)), (3, .int x3)])
    (kk : ∀ (v2 : VV) (H : Heap) (locs : List Loc), Wd G v2 H → Rel v2 → va_S (gA G) s.heap H locs → W p l e room_1 s m #[Value.ref b] below meth c H locs cells slots Q (F0 m 1486 ls [])) : W p l e room_1 s m #[Value.ref b] below meth c H locs cells slots Q (F0 m 1058 ls []) := by
  obtain ⟨M, hX, hbl, hbA, hcs⟩ := X
  have hx := M.1.1
  have hb := M.1.2.1
  obtain ⟨r, v1, v2, f1, f2, hR2⟩ := st_seed hR (xs (x3 + 1).toNatClampNeg)
  refine lv_aload_n hx hb dL_law_1058 rfl (lv_at hl 1 rfl) ?_
  refine lv_aload_n hx hb dL_law_1059 rfl (lv_at hl 0 rfl) ?_
  refine lv_iload_n hx hb dL_law_1060 rfl (lv_at hl 3 rfl) ?_
  refine lv_iconst (v := 1) hx hb dL_law_1061 (by decide) ?_
  refine lv_iadd hx hb dL_law_1062 ?_
  refine va_sld hx hb hX hbl hbA hS h1 dL_law_1063 ?_
  refine kL_i hS (kL_run M hS hP hcs ok_L_117 (c_X5_seed l G (xs (x3 + 1).toNatClampNeg) v r v1 f1) (rc_5 M hP (i := 12) rfl) rfl hl.1 rfl (Nat.le_of_ble_eq_true rfl) ⟨rfl, rfl⟩ ⟨Nat.le_of_ble_eq_true rfl, Nat.le_of_ble_eq_true rfl⟩ dL_law_1064) (fun H locs hP hS => ?_)
  refine lv_aload_n hx hb dL_law_1067 rfl (lv_at hl 2 rfl) ?_
  refine lv_aload_n hx hb dL_law_1068 rfl (lv_at hl 0 rfl) ?_
  refine lv_iload_n hx hb dL_law_1069 rfl (lv_at hl 3 rfl) ?_
  refine lv_iconst (v := 1) hx hb dL_law_1070 (by decide) ?_
  refine lv_iadd hx hb dL_law_1071 ?_
  refine va_sld hx hb hX hbl hbA hS h1 dL_law_1072 ?_
  refine kL_i hS (kL_run M hS hP hcs ok_L_120 (c_X6_seed l G (xs (x3 + 1).toNatClampNeg) v1 r v2 f2) (rc_6 M hP (i := 0) rfl) rfl hl.1 rfl (Nat.le_of_ble_eq_true rfl) ⟨rfl, rfl⟩ ⟨Nat.le_of_ble_eq_true rfl, Nat.le_of_ble_eq_true rfl⟩ dL_law_1073) (fun H locs hP hS => ?_)
  refine lv_icmp_eq (tgt := 1486) hx hb dL_law_1076 (by decide) (fun _ => ?_) (fun q => absurd rfl q)
  exact kk v2 H locs hP hR2 hS
set_option maxHeartbeats 4000000 in
theorem lc_26 {p : Program} {l : Launch} {e : Env} {s : State} {m : MethodId} {below : List Frame} {meth : Method} {c : Code} {H : Heap} {locs : List Loc} {G : GG} {v : VV} {Q : State → Prop} {b L cells slots : Nat} {xs : Nat → Int32} {x3 : Int32} {ls : Array Slot} (X : LX G p s m meth c b L xs cells slots) (h1 : vp_in (x3 + 1) L) (h2 : vp_in (x3 + 2) L) (h3 : vp_in (x3 + 3) L) (h4 : vp_in (x3 + 4) L) (h5 : vp_in (x3 + 5) L) (hP : Wd G v H) (hR : Rel v) (hS : va_S (gA G) s.heap H locs) (hl : lv_has ls 4 [(0, .ref b), (1, .ref (ad G 12)), (2, .ref (ad G 0)), (3, .int x3)])
    (kk : ∀ (v2 : VV) (H : Heap) (locs : List Loc), Wd G v2 H → Rel v2 → va_S (gA G) s.heap H locs → W p l e room_1 s m #[Value.ref b] below meth c H locs cells slots Q (F0 m 1486 ls [])) : W p l e room_1 s m #[Value.ref b] below meth c H locs cells slots Q (F0 m 1081 ls []) := by
  obtain ⟨M, hX, hbl, hbA, hcs⟩ := X
  have hx := M.1.1
  have hb := M.1.2.1
  obtain ⟨r, v1, v2, f1, f2, hR2⟩ := st_feed hR (xs (x3 + 1).toNatClampNeg) (xs (x3 + 2).toNatClampNeg)
  refine lv_aload_n hx hb dL_law_1081 rfl (lv_at hl 1 rfl) ?_
  refine lv_aload_n hx hb dL_law_1082 rfl (lv_at hl 0 rfl) ?_
  refine lv_iload_n hx hb dL_law_1083 rfl (lv_at hl 3 rfl) ?_
  refine lv_iconst (v := 1) hx hb dL_law_1084 (by decide) ?_
  refine lv_iadd hx hb dL_law_1085 ?_
  refine va_sld hx hb hX hbl hbA hS h1 dL_law_1086 ?_
  refine lv_aload_n hx hb dL_law_1087 rfl (lv_at hl 0 rfl) ?_
  refine lv_iload_n hx hb dL_law_1088 rfl (lv_at hl 3 rfl) ?_
  refine lv_iconst (v := 2) hx hb dL_law_1089 (by decide) ?_
  refine lv_iadd hx hb dL_law_1090 ?_
  refine va_sld hx hb hX hbl hbA hS h2 dL_law_1091 ?_
  refine kL_i hS (kL_run M hS hP hcs ok_L_121 (c_X5_feed l G (xs (x3 + 1).toNatClampNeg) (xs (x3 + 2).toNatClampNeg) v r v1 f1) (rc_5 M hP (i := 12) rfl) rfl hl.1 rfl (Nat.le_of_ble_eq_true rfl) ⟨rfl, rfl⟩ ⟨Nat.le_of_ble_eq_true rfl, Nat.le_of_ble_eq_true rfl⟩ dL_law_1092) (fun H locs hP hS => ?_)
  refine lv_aload_n hx hb dL_law_1095 rfl (lv_at hl 2 rfl) ?_
  refine lv_aload_n hx hb dL_law_1096 rfl (lv_at hl 0 rfl) ?_
  refine lv_iload_n hx hb dL_law_1097 rfl (lv_at hl 3 rfl) ?_
  refine lv_iconst (v := 1) hx hb dL_law_1098 (by decide) ?_
  refine lv_iadd hx hb dL_law_1099 ?_
  refine va_sld hx hb hX hbl hbA hS h1 dL_law_1100 ?_
  refine lv_aload_n hx hb dL_law_1101 rfl (lv_at hl 0 rfl) ?_
  refine lv_iload_n hx hb dL_law_1102 rfl (lv_at hl 3 rfl) ?_
  refine lv_iconst (v := 2) hx hb dL_law_1103 (by decide) ?_
  refine lv_iadd hx hb dL_law_1104 ?_
  refine va_sld hx hb hX hbl hbA hS h2 dL_law_1105 ?_
  refine kL_i hS (kL_run M hS hP hcs ok_L_124 (c_X6_feed l G (xs (x3 + 1).toNatClampNeg) (xs (x3 + 2).toNatClampNeg) v1 r v2 f2) (rc_6 M hP (i := 0) rfl) rfl hl.1 rfl (Nat.le_of_ble_eq_true rfl) ⟨rfl, rfl⟩ ⟨Nat.le_of_ble_eq_true rfl, Nat.le_of_ble_eq_true rfl⟩ dL_law_1106) (fun H locs hP hS => ?_)
  refine lv_icmp_eq (tgt := 1486) hx hb dL_law_1109 (by decide) (fun _ => ?_) (fun q => absurd rfl q)
  exact kk v2 H locs hP hR2 hS
set_option maxHeartbeats 4000000 in
theorem lc_27 {p : Program} {l : Launch} {e : Env} {s : State} {m : MethodId} {below : List Frame} {meth : Method} {c : Code} {H : Heap} {locs : List Loc} {G : GG} {v : VV} {Q : State → Prop} {b L cells slots : Nat} {xs : Nat → Int32} {x3 : Int32} {ls : Array Slot} (X : LX G p s m meth c b L xs cells slots) (h1 : vp_in (x3 + 1) L) (h2 : vp_in (x3 + 2) L) (h3 : vp_in (x3 + 3) L) (h4 : vp_in (x3 + 4) L) (h5 : vp_in (x3 + 5) L) (hP : Wd G v H) (hR : Rel v) (hS : va_S (gA G) s.heap H locs) (hl : lv_has ls 4 [(0, .ref b), (1, .ref (ad G 12)), (2, .ref (ad G 0)), (3, .int x3)])
    (kk : ∀ (v2 : VV) (H : Heap) (locs : List Loc), Wd G v2 H → Rel v2 → va_S (gA G) s.heap H locs → W p l e room_1 s m #[Value.ref b] below meth c H locs cells slots Q (F0 m 1486 ls [])) : W p l e room_1 s m #[Value.ref b] below meth c H locs cells slots Q (F0 m 1114 ls []) := by
  obtain ⟨M, hX, hbl, hbA, hcs⟩ := X
  have hx := M.1.1
  have hb := M.1.2.1
  obtain ⟨r, v1, v2, f1, f2, hR2⟩ := st_wipe hR
  refine lv_aload_n hx hb dL_law_1114 rfl (lv_at hl 1 rfl) ?_
  refine kL_i hS (kL_run M hS hP hcs ok_L_125 (c_X5_wipe l G v r v1 f1) (rc_5 M hP (i := 12) rfl) rfl hl.1 rfl (Nat.le_of_ble_eq_true rfl) ⟨rfl, rfl⟩ ⟨Nat.le_of_ble_eq_true rfl, Nat.le_of_ble_eq_true rfl⟩ dL_law_1115) (fun H locs hP hS => ?_)
  refine lv_aload_n hx hb dL_law_1118 rfl (lv_at hl 2 rfl) ?_
  refine kL_i hS (kL_run M hS hP hcs ok_L_129 (c_X6_wipe l G v1 r v2 f2) (rc_6 M hP (i := 0) rfl) rfl hl.1 rfl (Nat.le_of_ble_eq_true rfl) ⟨rfl, rfl⟩ ⟨Nat.le_of_ble_eq_true rfl, Nat.le_of_ble_eq_true rfl⟩ dL_law_1119) (fun H locs hP hS => ?_)
  refine lv_icmp_eq (tgt := 1486) hx hb dL_law_1122 (by decide) (fun _ => ?_) (fun q => absurd rfl q)
  exact kk v2 H locs hP hR2 hS
set_option maxHeartbeats 4000000 in
theorem lc_28 {p : Program} {l : Launch} {e : Env} {s : State} {m : MethodId} {below : List Frame} {meth : Method} {c : Code} {H : Heap} {locs : List Loc} {G : GG} {v : VV} {Q : State → Prop} {b L cells slots : Nat} {xs : Nat → Int32} {x3 : Int32} {ls : Array Slot} (X : LX G p s m meth c b L xs cells slots) (h1 : vp_in (x3 + 1) L) (h2 : vp_in (x3 + 2) L) (h3 : vp_in (x3 + 3) L) (h4 : vp_in (x3 + 4) L) (h5 : vp_in (x3 + 5) L) (hP : Wd G v H) (hR : Rel v) (hS : va_S (gA G) s.heap H locs) (hl : lv_has ls 4 [(0, .ref b), (1, .ref (ad G 12)), (2, .ref (ad G 0)), (3, .int x3)])
    (kk : ∀ (v2 : VV) (H : Heap) (locs : List Loc), Wd G v2 H → Rel v2 → va_S (gA G) s.heap H locs → W p l e room_1 s m #[Value.ref b] below meth c H locs cells slots Q (F0 m 1486 ls [])) : W p l e room_1 s m #[Value.ref b] below meth c H locs cells slots Q (F0 m 1127 ls []) := by
  obtain ⟨M, hX, hbl, hbA, hcs⟩ := X
  have hx := M.1.1
  have hb := M.1.2.1
  obtain ⟨r, v1, v2, f1, f2, hR2⟩ := st_text hR
  refine lv_aload_n hx hb dL_law_1127 rfl (lv_at hl 1 rfl) ?_
  refine kL_i hS (kL_run M hS hP hcs ok_L_130 (c_X5_text l G v r v1 f1) (rc_5 M hP (i := 12) rfl) rfl hl.1 rfl (Nat.le_of_ble_eq_true rfl) ⟨rfl, rfl⟩ ⟨Nat.le_of_ble_eq_true rfl, Nat.le_of_ble_eq_true rfl⟩ dL_law_1128) (fun H locs hP hS => ?_)
  refine lv_aload_n hx hb dL_law_1131 rfl (lv_at hl 2 rfl) ?_
  refine kL_i hS (kL_run M hS hP hcs ok_L_133 (c_X6_text l G v1 r v2 f2) (rc_6 M hP (i := 0) rfl) rfl hl.1 rfl (Nat.le_of_ble_eq_true rfl) ⟨rfl, rfl⟩ ⟨Nat.le_of_ble_eq_true rfl, Nat.le_of_ble_eq_true rfl⟩ dL_law_1132) (fun H locs hP hS => ?_)
  refine lv_icmp_eq (tgt := 1486) hx hb dL_law_1135 (by decide) (fun _ => ?_) (fun q => absurd rfl q)
  exact kk v2 H locs hP hR2 hS
set_option maxHeartbeats 4000000 in
theorem lc_29 {p : Program} {l : Launch} {e : Env} {s : State} {m : MethodId} {below : List Frame} {meth : Method} {c : Code} {H : Heap} {locs : List Loc} {G : GG} {v : VV} {Q : State → Prop} {b L cells slots : Nat} {xs : Nat → Int32} {x3 : Int32} {ls : Array Slot} (X : LX G p s m meth c b L xs cells slots) (h1 : vp_in (x3 + 1) L) (h2 : vp_in (x3 + 2) L) (h3 : vp_in (x3 + 3) L) (h4 : vp_in (x3 + 4) L) (h5 : vp_in (x3 + 5) L) (hP : Wd G v H) (hR : Rel v) (hS : va_S (gA G) s.heap H locs) (hl : lv_has ls 4 [(0, .ref b), (1, .ref (ad G 12)), (2, .ref (ad G 0)), (3, .int x3)])
    (kk : ∀ (v2 : VV) (H : Heap) (locs : List Loc), Wd G v2 H → Rel v2 → va_S (gA G) s.heap H locs → W p l e room_1 s m #[Value.ref b] below meth c H locs cells slots Q (F0 m 1486 ls [])) : W p l e room_1 s m #[Value.ref b] below meth c H locs cells slots Q (F0 m 1140 ls []) := by
  obtain ⟨M, hX, hbl, hbA, hcs⟩ := X
  have hx := M.1.1
  have hb := M.1.2.1
  obtain ⟨r, v1, v2, f1, f2, hR2⟩ := st_hold hR (xs (x3 + 1).toNatClampNeg) (xs (x3 + 2).toNatClampNeg)
  refine lv_aload_n hx hb dL_law_1140 rfl (lv_at hl 1 rfl) ?_
  refine lv_aload_n hx hb dL_law_1141 rfl (lv_at hl 0 rfl) ?_
  refine lv_iload_n hx hb dL_law_1142 rfl (lv_at hl 3 rfl) ?_
  refine lv_iconst (v := 1) hx hb dL_law_1143 (by decide) ?_
  refine lv_iadd hx hb dL_law_1144 ?_
  refine va_sld hx hb hX hbl hbA hS h1 dL_law_1145 ?_
  refine lv_aload_n hx hb dL_law_1146 rfl (lv_at hl 0 rfl) ?_
  refine lv_iload_n hx hb dL_law_1147 rfl (lv_at hl 3 rfl) ?_
  refine lv_iconst (v := 2) hx hb dL_law_1148 (by decide) ?_
  refine lv_iadd hx hb dL_law_1149 ?_
  refine va_sld hx hb hX hbl hbA hS h2 dL_law_1150 ?_
  refine kL_i hS (kL_run M hS hP hcs ok_L_134 (c_X5_hold l G (xs (x3 + 1).toNatClampNeg) (xs (x3 + 2).toNatClampNeg) v r v1 f1) (rc_5 M hP (i := 12) rfl) rfl hl.1 rfl (Nat.le_of_ble_eq_true rfl) ⟨rfl, rfl⟩ ⟨Nat.le_of_ble_eq_true rfl, Nat.le_of_ble_eq_true rfl⟩ dL_law_1151) (fun H locs hP hS => ?_)
  refine lv_aload_n hx hb dL_law_1154 rfl (lv_at hl 2 rfl) ?_
  refine lv_aload_n hx hb dL_law_1155 rfl (lv_at hl 0 rfl) ?_
  refine lv_iload_n hx hb dL_law_1156 rfl (lv_at hl 3 rfl) ?_
  refine lv_iconst (v := 1) hx hb dL_law_1157 (by decide) ?_
  refine lv_iadd hx hb dL_law_1158 ?_
  refine va_sld hx hb hX hbl hbA hS h1 dL_law_1159 ?_
  refine lv_aload_n hx hb dL_law_1160 rfl (lv_at hl 0 rfl) ?_
  refine lv_iload_n hx hb dL_law_1161 rfl (lv_at hl 3 rfl) ?_
  refine lv_iconst (v := 2) hx hb dL_law_1162 (by decide) ?_
  refine lv_iadd hx hb dL_law_1163 ?_
  refine va_sld hx hb hX hbl hbA hS h2 dL_law_1164 ?_
  refine kL_i hS (kL_run M hS hP hcs ok_L_137 (c_X6_hold l G (xs (x3 + 1).toNatClampNeg) (xs (x3 + 2).toNatClampNeg) v1 r v2 f2) (rc_6 M hP (i := 0) rfl) rfl hl.1 rfl (Nat.le_of_ble_eq_true rfl) ⟨rfl, rfl⟩ ⟨Nat.le_of_ble_eq_true rfl, Nat.le_of_ble_eq_true rfl⟩ dL_law_1165) (fun H locs hP hS => ?_)
  refine lv_icmp_eq (tgt := 1486) hx hb dL_law_1168 (by decide) (fun _ => ?_) (fun q => absurd rfl q)
  exact kk v2 H locs hP hR2 hS
set_option maxHeartbeats 4000000 in
theorem lc_30 {p : Program} {l : Launch} {e : Env} {s : State} {m : MethodId} {below : List Frame} {meth : Method} {c : Code} {H : Heap} {locs : List Loc} {G : GG} {v : VV} {Q : State → Prop} {b L cells slots : Nat} {xs : Nat → Int32} {x3 : Int32} {ls : Array Slot} (X : LX G p s m meth c b L xs cells slots) (h1 : vp_in (x3 + 1) L) (h2 : vp_in (x3 + 2) L) (h3 : vp_in (x3 + 3) L) (h4 : vp_in (x3 + 4) L) (h5 : vp_in (x3 + 5) L) (hP : Wd G v H) (hR : Rel v) (hS : va_S (gA G) s.heap H locs) (hl : lv_has ls 4 [(0, .ref b), (1, .ref (ad G 12)), (2, .ref (ad G 0)), (3, .int x3)])
    (kk : ∀ (v2 : VV) (H : Heap) (locs : List Loc), Wd G v2 H → Rel v2 → va_S (gA G) s.heap H locs → W p l e room_1 s m #[Value.ref b] below meth c H locs cells slots Q (F0 m 1486 ls [])) : W p l e room_1 s m #[Value.ref b] below meth c H locs cells slots Q (F0 m 1173 ls []) := by
  obtain ⟨M, hX, hbl, hbA, hcs⟩ := X
  have hx := M.1.1
  have hb := M.1.2.1
  obtain ⟨r, v1, v2, f1, f2, hR2⟩ := st_as hR (xs (x3 + 1).toNatClampNeg) (xs (x3 + 2).toNatClampNeg)
  refine lv_aload_n hx hb dL_law_1173 rfl (lv_at hl 1 rfl) ?_
  refine lv_aload_n hx hb dL_law_1174 rfl (lv_at hl 0 rfl) ?_
  refine lv_iload_n hx hb dL_law_1175 rfl (lv_at hl 3 rfl) ?_
  refine lv_iconst (v := 1) hx hb dL_law_1176 (by decide) ?_
  refine lv_iadd hx hb dL_law_1177 ?_
  refine va_sld hx hb hX hbl hbA hS h1 dL_law_1178 ?_
  refine lv_aload_n hx hb dL_law_1179 rfl (lv_at hl 0 rfl) ?_
  refine lv_iload_n hx hb dL_law_1180 rfl (lv_at hl 3 rfl) ?_
  refine lv_iconst (v := 2) hx hb dL_law_1181 (by decide) ?_
  refine lv_iadd hx hb dL_law_1182 ?_
  refine va_sld hx hb hX hbl hbA hS h2 dL_law_1183 ?_
  refine kL_i hS (kL_run M hS hP hcs ok_L_138 (c_X5_as l G (xs (x3 + 1).toNatClampNeg) (xs (x3 + 2).toNatClampNeg) v r v1 f1) (rc_5 M hP (i := 12) rfl) rfl hl.1 rfl (Nat.le_of_ble_eq_true rfl) ⟨rfl, rfl⟩ ⟨Nat.le_of_ble_eq_true rfl, Nat.le_of_ble_eq_true rfl⟩ dL_law_1184) (fun H locs hP hS => ?_)
  refine lv_aload_n hx hb dL_law_1187 rfl (lv_at hl 2 rfl) ?_
  refine lv_aload_n hx hb dL_law_1188 rfl (lv_at hl 0 rfl) ?_
  refine lv_iload_n hx hb dL_law_1189 rfl (lv_at hl 3 rfl) ?_
  refine lv_iconst (v := 1) hx hb dL_law_1190 (by decide) ?_
  refine lv_iadd hx hb dL_law_1191 ?_
  refine va_sld hx hb hX hbl hbA hS h1 dL_law_1192 ?_
  refine lv_aload_n hx hb dL_law_1193 rfl (lv_at hl 0 rfl) ?_
  refine lv_iload_n hx hb dL_law_1194 rfl (lv_at hl 3 rfl) ?_
  refine lv_iconst (v := 2) hx hb dL_law_1195 (by decide) ?_
  refine lv_iadd hx hb dL_law_1196 ?_
  refine va_sld hx hb hX hbl hbA hS h2 dL_law_1197 ?_
  refine kL_i hS (kL_run M hS hP hcs ok_L_141 (c_X6_as l G (xs (x3 + 1).toNatClampNeg) (xs (x3 + 2).toNatClampNeg) v1 r v2 f2) (rc_6 M hP (i := 0) rfl) rfl hl.1 rfl (Nat.le_of_ble_eq_true rfl) ⟨rfl, rfl⟩ ⟨Nat.le_of_ble_eq_true rfl, Nat.le_of_ble_eq_true rfl⟩ dL_law_1198) (fun H locs hP hS => ?_)
  refine lv_icmp_eq (tgt := 1486) hx hb dL_law_1201 (by decide) (fun _ => ?_) (fun q => absurd rfl q)
  exact kk v2 H locs hP hR2 hS
set_option maxHeartbeats 4000000 in
theorem lc_31 {p : Program} {l : Launch} {e : Env} {s : State} {m : MethodId} {below : List Frame} {meth : Method} {c : Code} {H : Heap} {locs : List Loc} {G : GG} {v : VV} {Q : State → Prop} {b L cells slots : Nat} {xs : Nat → Int32} {x3 : Int32} {ls : Array Slot} (X : LX G p s m meth c b L xs cells slots) (h1 : vp_in (x3 + 1) L) (h2 : vp_in (x3 + 2) L) (h3 : vp_in (x3 + 3) L) (h4 : vp_in (x3 + 4) L) (h5 : vp_in (x3 + 5) L) (hP : Wd G v H) (hR : Rel v) (hS : va_S (gA G) s.heap H locs) (hl : lv_has ls 4 [(0, .ref b), (1, .ref (ad G 12)), (2, .ref (ad G 0)), (3, .int x3)])
    (kk : ∀ (v2 : VV) (H : Heap) (locs : List Loc), Wd G v2 H → Rel v2 → va_S (gA G) s.heap H locs → W p l e room_1 s m #[Value.ref b] below meth c H locs cells slots Q (F0 m 1486 ls [])) : W p l e room_1 s m #[Value.ref b] below meth c H locs cells slots Q (F0 m 1206 ls []) := by
  obtain ⟨M, hX, hbl, hbA, hcs⟩ := X
  have hx := M.1.1
  have hb := M.1.2.1
  obtain ⟨r, v1, v2, f1, f2, hR2⟩ := st_sheet hR (xs (x3 + 1).toNatClampNeg) (xs (x3 + 2).toNatClampNeg) (xs (x3 + 3).toNatClampNeg)
  refine lv_aload_n hx hb dL_law_1206 rfl (lv_at hl 1 rfl) ?_
  refine lv_aload_n hx hb dL_law_1207 rfl (lv_at hl 0 rfl) ?_
  refine lv_iload_n hx hb dL_law_1208 rfl (lv_at hl 3 rfl) ?_
  refine lv_iconst (v := 1) hx hb dL_law_1209 (by decide) ?_
  refine lv_iadd hx hb dL_law_1210 ?_
  refine va_sld hx hb hX hbl hbA hS h1 dL_law_1211 ?_
  refine lv_aload_n hx hb dL_law_1212 rfl (lv_at hl 0 rfl) ?_
  refine lv_iload_n hx hb dL_law_1213 rfl (lv_at hl 3 rfl) ?_
  refine lv_iconst (v := 2) hx hb dL_law_1214 (by decide) ?_
  refine lv_iadd hx hb dL_law_1215 ?_
  refine va_sld hx hb hX hbl hbA hS h2 dL_law_1216 ?_
  refine lv_aload_n hx hb dL_law_1217 rfl (lv_at hl 0 rfl) ?_
  refine lv_iload_n hx hb dL_law_1218 rfl (lv_at hl 3 rfl) ?_
  refine lv_iconst (v := 3) hx hb dL_law_1219 (by decide) ?_
  refine lv_iadd hx hb dL_law_1220 ?_
  refine va_sld hx hb hX hbl hbA hS h3 dL_law_1221 ?_
  refine kL_i hS (kL_run M hS hP hcs ok_L_142 (c_X5_sheet l G (xs (x3 + 1).toNatClampNeg) (xs (x3 + 2).toNatClampNeg) (xs (x3 + 3).toNatClampNeg) v r v1 f1) (rc_5 M hP (i := 12) rfl) rfl hl.1 rfl (Nat.le_of_ble_eq_true rfl) ⟨rfl, rfl⟩ ⟨Nat.le_of_ble_eq_true rfl, Nat.le_of_ble_eq_true rfl⟩ dL_law_1222) (fun H locs hP hS => ?_)
  refine lv_aload_n hx hb dL_law_1225 rfl (lv_at hl 2 rfl) ?_
  refine lv_aload_n hx hb dL_law_1226 rfl (lv_at hl 0 rfl) ?_
  refine lv_iload_n hx hb dL_law_1227 rfl (lv_at hl 3 rfl) ?_
  refine lv_iconst (v := 1) hx hb dL_law_1228 (by decide) ?_
  refine lv_iadd hx hb dL_law_1229 ?_
  refine va_sld hx hb hX hbl hbA hS h1 dL_law_1230 ?_
  refine lv_aload_n hx hb dL_law_1231 rfl (lv_at hl 0 rfl) ?_
  refine lv_iload_n hx hb dL_law_1232 rfl (lv_at hl 3 rfl) ?_
  refine lv_iconst (v := 2) hx hb dL_law_1233 (by decide) ?_
  refine lv_iadd hx hb dL_law_1234 ?_
  refine va_sld hx hb hX hbl hbA hS h2 dL_law_1235 ?_
  refine lv_aload_n hx hb dL_law_1236 rfl (lv_at hl 0 rfl) ?_
  refine lv_iload_n hx hb dL_law_1237 rfl (lv_at hl 3 rfl) ?_
  refine lv_iconst (v := 3) hx hb dL_law_1238 (by decide) ?_
  refine lv_iadd hx hb dL_law_1239 ?_
  refine va_sld hx hb hX hbl hbA hS h3 dL_law_1240 ?_
  refine kL_i hS (kL_run M hS hP hcs ok_L_145 (c_X6_sheet l G (xs (x3 + 1).toNatClampNeg) (xs (x3 + 2).toNatClampNeg) (xs (x3 + 3).toNatClampNeg) v1 r v2 f2) (rc_6 M hP (i := 0) rfl) rfl hl.1 rfl (Nat.le_of_ble_eq_true rfl) ⟨rfl, rfl⟩ ⟨Nat.le_of_ble_eq_true rfl, Nat.le_of_ble_eq_true rfl⟩ dL_law_1241) (fun H locs hP hS => ?_)
  refine lv_icmp_eq (tgt := 1486) hx hb dL_law_1244 (by decide) (fun _ => ?_) (fun q => absurd rfl q)
  exact kk v2 H locs hP hR2 hS
set_option maxHeartbeats 4000000 in
theorem lc_32 {p : Program} {l : Launch} {e : Env} {s : State} {m : MethodId} {below : List Frame} {meth : Method} {c : Code} {H : Heap} {locs : List Loc} {G : GG} {v : VV} {Q : State → Prop} {b L cells slots : Nat} {xs : Nat → Int32} {x3 : Int32} {ls : Array Slot} (X : LX G p s m meth c b L xs cells slots) (h1 : vp_in (x3 + 1) L) (h2 : vp_in (x3 + 2) L) (h3 : vp_in (x3 + 3) L) (h4 : vp_in (x3 + 4) L) (h5 : vp_in (x3 + 5) L) (hP : Wd G v H) (hR : Rel v) (hS : va_S (gA G) s.heap H locs) (hl : lv_has ls 4 [(0, .ref b), (1, .ref (ad G 12)), (2, .ref (ad G 0)), (3, .int x3)])
    (kk : ∀ (v2 : VV) (H : Heap) (locs : List Loc), Wd G v2 H → Rel v2 → va_S (gA G) s.heap H locs → W p l e room_1 s m #[Value.ref b] below meth c H locs cells slots Q (F0 m 1486 ls [])) : W p l e room_1 s m #[Value.ref b] below meth c H locs cells slots Q (F0 m 1249 ls []) := by
  obtain ⟨M, hX, hbl, hbA, hcs⟩ := X
  have hx := M.1.1
  have hb := M.1.2.1
  obtain ⟨r, v1, v2, f1, f2, hR2⟩ := st_write hR (xs (x3 + 1).toNatClampNeg) (xs (x3 + 2).toNatClampNeg) (xs (x3 + 3).toNatClampNeg)
  refine lv_aload_n hx hb dL_law_1249 rfl (lv_at hl 1 rfl) ?_
  refine lv_aload_n hx hb dL_law_1250 rfl (lv_at hl 0 rfl) ?_
  refine lv_iload_n hx hb dL_law_1251 rfl (lv_at hl 3 rfl) ?_
  refine lv_iconst (v := 1) hx hb dL_law_1252 (by decide) ?_
  refine lv_iadd hx hb dL_law_1253 ?_
  refine va_sld hx hb hX hbl hbA hS h1 dL_law_1254 ?_
  refine lv_aload_n hx hb dL_law_1255 rfl (lv_at hl 0 rfl) ?_
  refine lv_iload_n hx hb dL_law_1256 rfl (lv_at hl 3 rfl) ?_
  refine lv_iconst (v := 2) hx hb dL_law_1257 (by decide) ?_
  refine lv_iadd hx hb dL_law_1258 ?_
  refine va_sld hx hb hX hbl hbA hS h2 dL_law_1259 ?_
  refine lv_aload_n hx hb dL_law_1260 rfl (lv_at hl 0 rfl) ?_
  refine lv_iload_n hx hb dL_law_1261 rfl (lv_at hl 3 rfl) ?_
  refine lv_iconst (v := 3) hx hb dL_law_1262 (by decide) ?_
  refine lv_iadd hx hb dL_law_1263 ?_
  refine va_sld hx hb hX hbl hbA hS h3 dL_law_1264 ?_
  refine kL_i hS (kL_run M hS hP hcs ok_L_146 (c_X5_write l G (xs (x3 + 1).toNatClampNeg) (xs (x3 + 2).toNatClampNeg) (xs (x3 + 3).toNatClampNeg) v r v1 f1) (rc_5 M hP (i := 12) rfl) rfl hl.1 rfl (Nat.le_of_ble_eq_true rfl) ⟨rfl, rfl⟩ ⟨Nat.le_of_ble_eq_true rfl, Nat.le_of_ble_eq_true rfl⟩ dL_law_1265) (fun H locs hP hS => ?_)
  refine lv_aload_n hx hb dL_law_1268 rfl (lv_at hl 2 rfl) ?_
  refine lv_aload_n hx hb dL_law_1269 rfl (lv_at hl 0 rfl) ?_
  refine lv_iload_n hx hb dL_law_1270 rfl (lv_at hl 3 rfl) ?_
  refine lv_iconst (v := 1) hx hb dL_law_1271 (by decide) ?_
  refine lv_iadd hx hb dL_law_1272 ?_
  refine va_sld hx hb hX hbl hbA hS h1 dL_law_1273 ?_
  refine lv_aload_n hx hb dL_law_1274 rfl (lv_at hl 0 rfl) ?_
  refine lv_iload_n hx hb dL_law_1275 rfl (lv_at hl 3 rfl) ?_
  refine lv_iconst (v := 2) hx hb dL_law_1276 (by decide) ?_
  refine lv_iadd hx hb dL_law_1277 ?_
  refine va_sld hx hb hX hbl hbA hS h2 dL_law_1278 ?_
  refine lv_aload_n hx hb dL_law_1279 rfl (lv_at hl 0 rfl) ?_
  refine lv_iload_n hx hb dL_law_1280 rfl (lv_at hl 3 rfl) ?_
  refine lv_iconst (v := 3) hx hb dL_law_1281 (by decide) ?_
  refine lv_iadd hx hb dL_law_1282 ?_
  refine va_sld hx hb hX hbl hbA hS h3 dL_law_1283 ?_
  refine kL_i hS (kL_run M hS hP hcs ok_L_149 (c_X6_write l G (xs (x3 + 1).toNatClampNeg) (xs (x3 + 2).toNatClampNeg) (xs (x3 + 3).toNatClampNeg) v1 r v2 f2) (rc_6 M hP (i := 0) rfl) rfl hl.1 rfl (Nat.le_of_ble_eq_true rfl) ⟨rfl, rfl⟩ ⟨Nat.le_of_ble_eq_true rfl, Nat.le_of_ble_eq_true rfl⟩ dL_law_1284) (fun H locs hP hS => ?_)
  refine lv_icmp_eq (tgt := 1486) hx hb dL_law_1287 (by decide) (fun _ => ?_) (fun q => absurd rfl q)
  exact kk v2 H locs hP hR2 hS
set_option maxHeartbeats 4000000 in
theorem lc_33 {p : Program} {l : Launch} {e : Env} {s : State} {m : MethodId} {below : List Frame} {meth : Method} {c : Code} {H : Heap} {locs : List Loc} {G : GG} {v : VV} {Q : State → Prop} {b L cells slots : Nat} {xs : Nat → Int32} {x3 : Int32} {ls : Array Slot} (X : LX G p s m meth c b L xs cells slots) (h1 : vp_in (x3 + 1) L) (h2 : vp_in (x3 + 2) L) (h3 : vp_in (x3 + 3) L) (h4 : vp_in (x3 + 4) L) (h5 : vp_in (x3 + 5) L) (hP : Wd G v H) (hR : Rel v) (hS : va_S (gA G) s.heap H locs) (hl : lv_has ls 4 [(0, .ref b), (1, .ref (ad G 12)), (2, .ref (ad G 0)), (3, .int x3)])
    (kk : ∀ (v2 : VV) (H : Heap) (locs : List Loc), Wd G v2 H → Rel v2 → va_S (gA G) s.heap H locs → W p l e room_1 s m #[Value.ref b] below meth c H locs cells slots Q (F0 m 1486 ls [])) : W p l e room_1 s m #[Value.ref b] below meth c H locs cells slots Q (F0 m 1292 ls []) := by
  obtain ⟨M, hX, hbl, hbA, hcs⟩ := X
  have hx := M.1.1
  have hb := M.1.2.1
  obtain ⟨r, v1, v2, f1, f2, hR2⟩ := st_copy hR (xs (x3 + 1).toNatClampNeg) (xs (x3 + 2).toNatClampNeg) (xs (x3 + 3).toNatClampNeg) (xs (x3 + 4).toNatClampNeg) (xs (x3 + 5).toNatClampNeg)
  refine lv_aload_n hx hb dL_law_1292 rfl (lv_at hl 1 rfl) ?_
  refine lv_aload_n hx hb dL_law_1293 rfl (lv_at hl 0 rfl) ?_
  refine lv_iload_n hx hb dL_law_1294 rfl (lv_at hl 3 rfl) ?_
  refine lv_iconst (v := 1) hx hb dL_law_1295 (by decide) ?_
  refine lv_iadd hx hb dL_law_1296 ?_
  refine va_sld hx hb hX hbl hbA hS h1 dL_law_1297 ?_
  refine lv_aload_n hx hb dL_law_1298 rfl (lv_at hl 0 rfl) ?_
  refine lv_iload_n hx hb dL_law_1299 rfl (lv_at hl 3 rfl) ?_
  refine lv_iconst (v := 2) hx hb dL_law_1300 (by decide) ?_
  refine lv_iadd hx hb dL_law_1301 ?_
  refine va_sld hx hb hX hbl hbA hS h2 dL_law_1302 ?_
  refine lv_aload_n hx hb dL_law_1303 rfl (lv_at hl 0 rfl) ?_
  refine lv_iload_n hx hb dL_law_1304 rfl (lv_at hl 3 rfl) ?_
  refine lv_iconst (v := 3) hx hb dL_law_1305 (by decide) ?_
  refine lv_iadd hx hb dL_law_1306 ?_
  refine va_sld hx hb hX hbl hbA hS h3 dL_law_1307 ?_
  refine lv_aload_n hx hb dL_law_1308 rfl (lv_at hl 0 rfl) ?_
  refine lv_iload_n hx hb dL_law_1309 rfl (lv_at hl 3 rfl) ?_
  refine lv_iconst (v := 4) hx hb dL_law_1310 (by decide) ?_
  refine lv_iadd hx hb dL_law_1311 ?_
  refine va_sld hx hb hX hbl hbA hS h4 dL_law_1312 ?_
  refine lv_aload_n hx hb dL_law_1313 rfl (lv_at hl 0 rfl) ?_
  refine lv_iload_n hx hb dL_law_1314 rfl (lv_at hl 3 rfl) ?_
  refine lv_iconst (v := 5) hx hb dL_law_1315 (by decide) ?_
  refine lv_iadd hx hb dL_law_1316 ?_
  refine va_sld hx hb hX hbl hbA hS h5 dL_law_1317 ?_
  refine kL_i hS (kL_run M hS hP hcs ok_L_150 (c_X5_copy l G (xs (x3 + 1).toNatClampNeg) (xs (x3 + 2).toNatClampNeg) (xs (x3 + 3).toNatClampNeg) (xs (x3 + 4).toNatClampNeg) (xs (x3 + 5).toNatClampNeg) v r v1 f1) (rc_5 M hP (i := 12) rfl) rfl hl.1 rfl (Nat.le_of_ble_eq_true rfl) ⟨rfl, rfl⟩ ⟨Nat.le_of_ble_eq_true rfl, Nat.le_of_ble_eq_true rfl⟩ dL_law_1318) (fun H locs hP hS => ?_)
  refine lv_aload_n hx hb dL_law_1321 rfl (lv_at hl 2 rfl) ?_
  refine lv_aload_n hx hb dL_law_1322 rfl (lv_at hl 0 rfl) ?_
  refine lv_iload_n hx hb dL_law_1323 rfl (lv_at hl 3 rfl) ?_
  refine lv_iconst (v := 1) hx hb dL_law_1324 (by decide) ?_
  refine lv_iadd hx hb dL_law_1325 ?_
  refine va_sld hx hb hX hbl hbA hS h1 dL_law_1326 ?_
  refine lv_aload_n hx hb dL_law_1327 rfl (lv_at hl 0 rfl) ?_
  refine lv_iload_n hx hb dL_law_1328 rfl (lv_at hl 3 rfl) ?_
  refine lv_iconst (v := 2) hx hb dL_law_1329 (by decide) ?_
  refine lv_iadd hx hb dL_law_1330 ?_
  refine va_sld hx hb hX hbl hbA hS h2 dL_law_1331 ?_
  refine lv_aload_n hx hb dL_law_1332 rfl (lv_at hl 0 rfl) ?_
  refine lv_iload_n hx hb dL_law_1333 rfl (lv_at hl 3 rfl) ?_
  refine lv_iconst (v := 3) hx hb dL_law_1334 (by decide) ?_
  refine lv_iadd hx hb dL_law_1335 ?_
  refine va_sld hx hb hX hbl hbA hS h3 dL_law_1336 ?_
  refine lv_aload_n hx hb dL_law_1337 rfl (lv_at hl 0 rfl) ?_
  refine lv_iload_n hx hb dL_law_1338 rfl (lv_at hl 3 rfl) ?_
  refine lv_iconst (v := 4) hx hb dL_law_1339 (by decide) ?_
  refine lv_iadd hx hb dL_law_1340 ?_
  refine va_sld hx hb hX hbl hbA hS h4 dL_law_1341 ?_
  refine lv_aload_n hx hb dL_law_1342 rfl (lv_at hl 0 rfl) ?_
  refine lv_iload_n hx hb dL_law_1343 rfl (lv_at hl 3 rfl) ?_
  refine lv_iconst (v := 5) hx hb dL_law_1344 (by decide) ?_
  refine lv_iadd hx hb dL_law_1345 ?_
  refine va_sld hx hb hX hbl hbA hS h5 dL_law_1346 ?_
  refine kL_i hS (kL_run M hS hP hcs ok_L_154 (c_X6_copy l G (xs (x3 + 1).toNatClampNeg) (xs (x3 + 2).toNatClampNeg) (xs (x3 + 3).toNatClampNeg) (xs (x3 + 4).toNatClampNeg) (xs (x3 + 5).toNatClampNeg) v1 r v2 f2) (rc_6 M hP (i := 0) rfl) rfl hl.1 rfl (Nat.le_of_ble_eq_true rfl) ⟨rfl, rfl⟩ ⟨Nat.le_of_ble_eq_true rfl, Nat.le_of_ble_eq_true rfl⟩ dL_law_1347) (fun H locs hP hS => ?_)
  refine lv_icmp_eq (tgt := 1486) hx hb dL_law_1350 (by decide) (fun _ => ?_) (fun q => absurd rfl q)
  exact kk v2 H locs hP hR2 hS
set_option maxHeartbeats 4000000 in
theorem lc_34 {p : Program} {l : Launch} {e : Env} {s : State} {m : MethodId} {below : List Frame} {meth : Method} {c : Code} {H : Heap} {locs : List Loc} {G : GG} {v : VV} {Q : State → Prop} {b L cells slots : Nat} {xs : Nat → Int32} {x3 : Int32} {ls : Array Slot} (X : LX G p s m meth c b L xs cells slots) (h1 : vp_in (x3 + 1) L) (h2 : vp_in (x3 + 2) L) (h3 : vp_in (x3 + 3) L) (h4 : vp_in (x3 + 4) L) (h5 : vp_in (x3 + 5) L) (hP : Wd G v H) (hR : Rel v) (hS : va_S (gA G) s.heap H locs) (hl : lv_has ls 4 [(0, .ref b), (1, .ref (ad G 12)), (2, .ref (ad G 0)), (3, .int x3)])
    (kk : ∀ (v2 : VV) (H : Heap) (locs : List Loc), Wd G v2 H → Rel v2 → va_S (gA G) s.heap H locs → W p l e room_1 s m #[Value.ref b] below meth c H locs cells slots Q (F0 m 1486 ls [])) : W p l e room_1 s m #[Value.ref b] below meth c H locs cells slots Q (F0 m 1355 ls []) := by
  obtain ⟨M, hX, hbl, hbA, hcs⟩ := X
  have hx := M.1.1
  have hb := M.1.2.1
  obtain ⟨r, v1, v2, f1, f2, hR2⟩ := st_load hR (xs (x3 + 1).toNatClampNeg)
  refine lv_aload_n hx hb dL_law_1355 rfl (lv_at hl 1 rfl) ?_
  refine lv_aload_n hx hb dL_law_1356 rfl (lv_at hl 0 rfl) ?_
  refine lv_iload_n hx hb dL_law_1357 rfl (lv_at hl 3 rfl) ?_
  refine lv_iconst (v := 1) hx hb dL_law_1358 (by decide) ?_
  refine lv_iadd hx hb dL_law_1359 ?_
  refine va_sld hx hb hX hbl hbA hS h1 dL_law_1360 ?_
  refine kL_i hS (kL_run M hS hP hcs ok_L_155 (c_X5_load l G (xs (x3 + 1).toNatClampNeg) v r v1 f1) (rc_5 M hP (i := 12) rfl) rfl hl.1 rfl (Nat.le_of_ble_eq_true rfl) ⟨rfl, rfl⟩ ⟨Nat.le_of_ble_eq_true rfl, Nat.le_of_ble_eq_true rfl⟩ dL_law_1361) (fun H locs hP hS => ?_)
  refine lv_aload_n hx hb dL_law_1364 rfl (lv_at hl 2 rfl) ?_
  refine lv_aload_n hx hb dL_law_1365 rfl (lv_at hl 0 rfl) ?_
  refine lv_iload_n hx hb dL_law_1366 rfl (lv_at hl 3 rfl) ?_
  refine lv_iconst (v := 1) hx hb dL_law_1367 (by decide) ?_
  refine lv_iadd hx hb dL_law_1368 ?_
  refine va_sld hx hb hX hbl hbA hS h1 dL_law_1369 ?_
  refine kL_i hS (kL_run M hS hP hcs ok_L_158 (c_X6_load l G (xs (x3 + 1).toNatClampNeg) v1 r v2 f2) (rc_6 M hP (i := 0) rfl) rfl hl.1 rfl (Nat.le_of_ble_eq_true rfl) ⟨rfl, rfl⟩ ⟨Nat.le_of_ble_eq_true rfl, Nat.le_of_ble_eq_true rfl⟩ dL_law_1370) (fun H locs hP hS => ?_)
  refine lv_icmp_eq (tgt := 1486) hx hb dL_law_1373 (by decide) (fun _ => ?_) (fun q => absurd rfl q)
  exact kk v2 H locs hP hR2 hS
set_option maxHeartbeats 4000000 in
theorem lc_35 {p : Program} {l : Launch} {e : Env} {s : State} {m : MethodId} {below : List Frame} {meth : Method} {c : Code} {H : Heap} {locs : List Loc} {G : GG} {v : VV} {Q : State → Prop} {b L cells slots : Nat} {xs : Nat → Int32} {x3 : Int32} {ls : Array Slot} (X : LX G p s m meth c b L xs cells slots) (h1 : vp_in (x3 + 1) L) (h2 : vp_in (x3 + 2) L) (h3 : vp_in (x3 + 3) L) (h4 : vp_in (x3 + 4) L) (h5 : vp_in (x3 + 5) L) (hP : Wd G v H) (hR : Rel v) (hS : va_S (gA G) s.heap H locs) (hl : lv_has ls 4 [(0, .ref b), (1, .ref (ad G 12)), (2, .ref (ad G 0)), (3, .int x3)])
    (kk : ∀ (v2 : VV) (H : Heap) (locs : List Loc), Wd G v2 H → Rel v2 → va_S (gA G) s.heap H locs → W p l e room_1 s m #[Value.ref b] below meth c H locs cells slots Q (F0 m 1486 ls [])) : W p l e room_1 s m #[Value.ref b] below meth c H locs cells slots Q (F0 m 1378 ls []) := by
  obtain ⟨M, hX, hbl, hbA, hcs⟩ := X
  have hx := M.1.1
  have hb := M.1.2.1
  obtain ⟨r, v1, v2, f1, f2, hR2⟩ := st_judge hR (xs (x3 + 1).toNatClampNeg)
  refine lv_aload_n hx hb dL_law_1378 rfl (lv_at hl 1 rfl) ?_
  refine lv_aload_n hx hb dL_law_1379 rfl (lv_at hl 0 rfl) ?_
  refine lv_iload_n hx hb dL_law_1380 rfl (lv_at hl 3 rfl) ?_
  refine lv_iconst (v := 1) hx hb dL_law_1381 (by decide) ?_
  refine lv_iadd hx hb dL_law_1382 ?_
  refine va_sld hx hb hX hbl hbA hS h1 dL_law_1383 ?_
  refine kL_i hS (kL_run M hS hP hcs ok_L_159 (c_X5_judge l G (xs (x3 + 1).toNatClampNeg) v r v1 f1) (rc_5 M hP (i := 12) rfl) rfl hl.1 rfl (Nat.le_of_ble_eq_true rfl) ⟨rfl, rfl⟩ ⟨Nat.le_of_ble_eq_true rfl, Nat.le_of_ble_eq_true rfl⟩ dL_law_1384) (fun H locs hP hS => ?_)
  refine lv_aload_n hx hb dL_law_1387 rfl (lv_at hl 2 rfl) ?_
  refine lv_aload_n hx hb dL_law_1388 rfl (lv_at hl 0 rfl) ?_
  refine lv_iload_n hx hb dL_law_1389 rfl (lv_at hl 3 rfl) ?_
  refine lv_iconst (v := 1) hx hb dL_law_1390 (by decide) ?_
  refine lv_iadd hx hb dL_law_1391 ?_
  refine va_sld hx hb hX hbl hbA hS h1 dL_law_1392 ?_
  refine kL_i hS (kL_run M hS hP hcs ok_L_162 (c_X6_judge l G (xs (x3 + 1).toNatClampNeg) v1 r v2 f2) (rc_6 M hP (i := 0) rfl) rfl hl.1 rfl (Nat.le_of_ble_eq_true rfl) ⟨rfl, rfl⟩ ⟨Nat.le_of_ble_eq_true rfl, Nat.le_of_ble_eq_true rfl⟩ dL_law_1393) (fun H locs hP hS => ?_)
  refine lv_icmp_eq (tgt := 1486) hx hb dL_law_1396 (by decide) (fun _ => ?_) (fun q => absurd rfl q)
  exact kk v2 H locs hP hR2 hS
set_option maxHeartbeats 4000000 in
theorem lc_36 {p : Program} {l : Launch} {e : Env} {s : State} {m : MethodId} {below : List Frame} {meth : Method} {c : Code} {H : Heap} {locs : List Loc} {G : GG} {v : VV} {Q : State → Prop} {b L cells slots : Nat} {xs : Nat → Int32} {x3 : Int32} {ls : Array Slot} (X : LX G p s m meth c b L xs cells slots) (h1 : vp_in (x3 + 1) L) (h2 : vp_in (x3 + 2) L) (h3 : vp_in (x3 + 3) L) (h4 : vp_in (x3 + 4) L) (h5 : vp_in (x3 + 5) L) (hP : Wd G v H) (hR : Rel v) (hS : va_S (gA G) s.heap H locs) (hl : lv_has ls 4 [(0, .ref b), (1, .ref (ad G 12)), (2, .ref (ad G 0)), (3, .int x3)])
    (kk : ∀ (v2 : VV) (H : Heap) (locs : List Loc), Wd G v2 H → Rel v2 → va_S (gA G) s.heap H locs → W p l e room_1 s m #[Value.ref b] below meth c H locs cells slots Q (F0 m 1486 ls [])) : W p l e room_1 s m #[Value.ref b] below meth c H locs cells slots Q (F0 m 1401 ls []) := by
  obtain ⟨M, hX, hbl, hbA, hcs⟩ := X
  have hx := M.1.1
  have hb := M.1.2.1
  obtain ⟨r, v1, v2, f1, f2, hR2⟩ := st_image hR
  refine lv_aload_n hx hb dL_law_1401 rfl (lv_at hl 1 rfl) ?_
  refine kL_i hS (kL_run M hS hP hcs ok_L_163 (c_X5_image l G v r v1 f1) (rc_5 M hP (i := 12) rfl) rfl hl.1 rfl (Nat.le_of_ble_eq_true rfl) ⟨rfl, rfl⟩ ⟨Nat.le_of_ble_eq_true rfl, Nat.le_of_ble_eq_true rfl⟩ dL_law_1402) (fun H locs hP hS => ?_)
  refine lv_aload_n hx hb dL_law_1405 rfl (lv_at hl 2 rfl) ?_
  refine kL_i hS (kL_run M hS hP hcs ok_L_166 (c_X6_image l G v1 r v2 f2) (rc_6 M hP (i := 0) rfl) rfl hl.1 rfl (Nat.le_of_ble_eq_true rfl) ⟨rfl, rfl⟩ ⟨Nat.le_of_ble_eq_true rfl, Nat.le_of_ble_eq_true rfl⟩ dL_law_1406) (fun H locs hP hS => ?_)
  refine lv_icmp_eq (tgt := 1486) hx hb dL_law_1409 (by decide) (fun _ => ?_) (fun q => absurd rfl q)
  exact kk v2 H locs hP hR2 hS
set_option maxHeartbeats 4000000 in
theorem lc_37 {p : Program} {l : Launch} {e : Env} {s : State} {m : MethodId} {below : List Frame} {meth : Method} {c : Code} {H : Heap} {locs : List Loc} {G : GG} {v : VV} {Q : State → Prop} {b L cells slots : Nat} {xs : Nat → Int32} {x3 : Int32} {ls : Array Slot} (X : LX G p s m meth c b L xs cells slots) (h1 : vp_in (x3 + 1) L) (h2 : vp_in (x3 + 2) L) (h3 : vp_in (x3 + 3) L) (h4 : vp_in (x3 + 4) L) (h5 : vp_in (x3 + 5) L) (hP : Wd G v H) (hR : Rel v) (hS : va_S (gA G) s.heap H locs) (hl : lv_has ls 4 [(0, .ref b), (1, .ref (ad G 12)), (2, .ref (ad G 0)), (3, .int x3)])
    (kk : ∀ (v2 : VV) (H : Heap) (locs : List Loc), Wd G v2 H → Rel v2 → va_S (gA G) s.heap H locs → W p l e room_1 s m #[Value.ref b] below meth c H locs cells slots Q (F0 m 1486 ls [])) : W p l e room_1 s m #[Value.ref b] below meth c H locs cells slots Q (F0 m 1414 ls []) := by
  obtain ⟨M, hX, hbl, hbA, hcs⟩ := X
  have hx := M.1.1
  have hb := M.1.2.1
  obtain ⟨r, v1, v2, f1, f2, hR2⟩ := st_undo hR
  refine lv_aload_n hx hb dL_law_1414 rfl (lv_at hl 1 rfl) ?_
  refine kL_i hS (kL_run M hS hP hcs ok_L_167 (c_X5_undo l G v r v1 f1) (rc_5 M hP (i := 12) rfl) rfl hl.1 rfl (Nat.le_of_ble_eq_true rfl) ⟨rfl, rfl⟩ ⟨Nat.le_of_ble_eq_true rfl, Nat.le_of_ble_eq_true rfl⟩ dL_law_1415) (fun H locs hP hS => ?_)
  refine lv_aload_n hx hb dL_law_1418 rfl (lv_at hl 2 rfl) ?_
  refine kL_i hS (kL_run M hS hP hcs ok_L_170 (c_X6_undo l G v1 r v2 f2) (rc_6 M hP (i := 0) rfl) rfl hl.1 rfl (Nat.le_of_ble_eq_true rfl) ⟨rfl, rfl⟩ ⟨Nat.le_of_ble_eq_true rfl, Nat.le_of_ble_eq_true rfl⟩ dL_law_1419) (fun H locs hP hS => ?_)
  refine lv_icmp_eq (tgt := 1486) hx hb dL_law_1422 (by decide) (fun _ => ?_) (fun q => absurd rfl q)
  exact kk v2 H locs hP hR2 hS
set_option maxHeartbeats 4000000 in
theorem lc_38 {p : Program} {l : Launch} {e : Env} {s : State} {m : MethodId} {below : List Frame} {meth : Method} {c : Code} {H : Heap} {locs : List Loc} {G : GG} {v : VV} {Q : State → Prop} {b L cells slots : Nat} {xs : Nat → Int32} {x3 : Int32} {ls : Array Slot} (X : LX G p s m meth c b L xs cells slots) (h1 : vp_in (x3 + 1) L) (h2 : vp_in (x3 + 2) L) (h3 : vp_in (x3 + 3) L) (h4 : vp_in (x3 + 4) L) (h5 : vp_in (x3 + 5) L) (hP : Wd G v H) (hR : Rel v) (hS : va_S (gA G) s.heap H locs) (hl : lv_has ls 4 [(0, .ref b), (1, .ref (ad G 12)), (2, .ref (ad G 0)), (3, .int x3)])
    (kk : ∀ (v2 : VV) (H : Heap) (locs : List Loc), Wd G v2 H → Rel v2 → va_S (gA G) s.heap H locs → W p l e room_1 s m #[Value.ref b] below meth c H locs cells slots Q (F0 m 1486 ls [])) : W p l e room_1 s m #[Value.ref b] below meth c H locs cells slots Q (F0 m 1427 ls []) := by
  obtain ⟨M, hX, hbl, hbA, hcs⟩ := X
  have hx := M.1.1
  have hb := M.1.2.1
  obtain ⟨r, v1, v2, f1, f2, hR2⟩ := st_tear hR
  refine lv_aload_n hx hb dL_law_1427 rfl (lv_at hl 1 rfl) ?_
  refine kL_i hS (kL_run M hS hP hcs ok_L_171 (c_X5_tear l G v r v1 f1) (rc_5 M hP (i := 12) rfl) rfl hl.1 rfl (Nat.le_of_ble_eq_true rfl) ⟨rfl, rfl⟩ ⟨Nat.le_of_ble_eq_true rfl, Nat.le_of_ble_eq_true rfl⟩ dL_law_1428) (fun H locs hP hS => ?_)
  refine lv_aload_n hx hb dL_law_1431 rfl (lv_at hl 2 rfl) ?_
  refine kL_i hS (kL_run M hS hP hcs ok_L_174 (c_X6_tear l G v1 r v2 f2) (rc_6 M hP (i := 0) rfl) rfl hl.1 rfl (Nat.le_of_ble_eq_true rfl) ⟨rfl, rfl⟩ ⟨Nat.le_of_ble_eq_true rfl, Nat.le_of_ble_eq_true rfl⟩ dL_law_1432) (fun H locs hP hS => ?_)
  refine lv_icmp_eq (tgt := 1486) hx hb dL_law_1435 (by decide) (fun _ => ?_) (fun q => absurd rfl q)
  exact kk v2 H locs hP hR2 hS
set_option maxHeartbeats 4000000 in
theorem lc_39 {p : Program} {l : Launch} {e : Env} {s : State} {m : MethodId} {below : List Frame} {meth : Method} {c : Code} {H : Heap} {locs : List Loc} {G : GG} {v : VV} {Q : State → Prop} {b L cells slots : Nat} {xs : Nat → Int32} {x3 : Int32} {ls : Array Slot} (X : LX G p s m meth c b L xs cells slots) (h1 : vp_in (x3 + 1) L) (h2 : vp_in (x3 + 2) L) (h3 : vp_in (x3 + 3) L) (h4 : vp_in (x3 + 4) L) (h5 : vp_in (x3 + 5) L) (hP : Wd G v H) (hR : Rel v) (hS : va_S (gA G) s.heap H locs) (hl : lv_has ls 4 [(0, .ref b), (1, .ref (ad G 12)), (2, .ref (ad G 0)), (3, .int x3)])
    (kk : ∀ (v2 : VV) (H : Heap) (locs : List Loc), Wd G v2 H → Rel v2 → va_S (gA G) s.heap H locs → W p l e room_1 s m #[Value.ref b] below meth c H locs cells slots Q (F0 m 1486 ls [])) : W p l e room_1 s m #[Value.ref b] below meth c H locs cells slots Q (F0 m 1440 ls []) := by
  obtain ⟨M, hX, hbl, hbA, hcs⟩ := X
  have hx := M.1.1
  have hb := M.1.2.1
  obtain ⟨r, v1, v2, f1, f2, hR2⟩ := st_count hR (xs (x3 + 1).toNatClampNeg)
  refine lv_aload_n hx hb dL_law_1440 rfl (lv_at hl 1 rfl) ?_
  refine lv_aload_n hx hb dL_law_1441 rfl (lv_at hl 0 rfl) ?_
  refine lv_iload_n hx hb dL_law_1442 rfl (lv_at hl 3 rfl) ?_
  refine lv_iconst (v := 1) hx hb dL_law_1443 (by decide) ?_
  refine lv_iadd hx hb dL_law_1444 ?_
  refine va_sld hx hb hX hbl hbA hS h1 dL_law_1445 ?_
  refine kL_i hS (kL_run M hS hP hcs ok_L_175 (c_X5_count l G (xs (x3 + 1).toNatClampNeg) v r v1 f1) (rc_5 M hP (i := 12) rfl) rfl hl.1 rfl (Nat.le_of_ble_eq_true rfl) ⟨rfl, rfl⟩ ⟨Nat.le_of_ble_eq_true rfl, Nat.le_of_ble_eq_true rfl⟩ dL_law_1446) (fun H locs hP hS => ?_)
  refine lv_aload_n hx hb dL_law_1449 rfl (lv_at hl 2 rfl) ?_
  refine lv_aload_n hx hb dL_law_1450 rfl (lv_at hl 0 rfl) ?_
  refine lv_iload_n hx hb dL_law_1451 rfl (lv_at hl 3 rfl) ?_
  refine lv_iconst (v := 1) hx hb dL_law_1452 (by decide) ?_
  refine lv_iadd hx hb dL_law_1453 ?_
  refine va_sld hx hb hX hbl hbA hS h1 dL_law_1454 ?_
  refine kL_i hS (kL_run M hS hP hcs ok_L_178 (c_X6_count l G (xs (x3 + 1).toNatClampNeg) v1 r v2 f2) (rc_6 M hP (i := 0) rfl) rfl hl.1 rfl (Nat.le_of_ble_eq_true rfl) ⟨rfl, rfl⟩ ⟨Nat.le_of_ble_eq_true rfl, Nat.le_of_ble_eq_true rfl⟩ dL_law_1455) (fun H locs hP hS => ?_)
  refine lv_icmp_eq (tgt := 1486) hx hb dL_law_1458 (by decide) (fun _ => ?_) (fun q => absurd rfl q)
  exact kk v2 H locs hP hR2 hS
set_option maxHeartbeats 4000000 in
theorem lc_40 {p : Program} {l : Launch} {e : Env} {s : State} {m : MethodId} {below : List Frame} {meth : Method} {c : Code} {H : Heap} {locs : List Loc} {G : GG} {v : VV} {Q : State → Prop} {b L cells slots : Nat} {xs : Nat → Int32} {x3 : Int32} {ls : Array Slot} (X : LX G p s m meth c b L xs cells slots) (h1 : vp_in (x3 + 1) L) (h2 : vp_in (x3 + 2) L) (h3 : vp_in (x3 + 3) L) (h4 : vp_in (x3 + 4) L) (h5 : vp_in (x3 + 5) L) (hP : Wd G v H) (hR : Rel v) (hS : va_S (gA G) s.heap H locs) (hl : lv_has ls 4 [(0, .ref b), (1, .ref (ad G 12)), (2, .ref (ad G 0)), (3, .int x3)])
    (kk : ∀ (v2 : VV) (H : Heap) (locs : List Loc), Wd G v2 H → Rel v2 → va_S (gA G) s.heap H locs → W p l e room_1 s m #[Value.ref b] below meth c H locs cells slots Q (F0 m 1486 ls [])) : W p l e room_1 s m #[Value.ref b] below meth c H locs cells slots Q (F0 m 1463 ls []) := by
  obtain ⟨M, hX, hbl, hbA, hcs⟩ := X
  have hx := M.1.1
  have hb := M.1.2.1
  obtain ⟨r, v1, v2, f1, f2, hR2⟩ := st_status hR (xs (x3 + 1).toNatClampNeg)
  refine lv_aload_n hx hb dL_law_1463 rfl (lv_at hl 1 rfl) ?_
  refine lv_aload_n hx hb dL_law_1464 rfl (lv_at hl 0 rfl) ?_
  refine lv_iload_n hx hb dL_law_1465 rfl (lv_at hl 3 rfl) ?_
  refine lv_iconst (v := 1) hx hb dL_law_1466 (by decide) ?_
  refine lv_iadd hx hb dL_law_1467 ?_
  refine va_sld hx hb hX hbl hbA hS h1 dL_law_1468 ?_
  refine kL_i hS (kL_run M hS hP hcs ok_L_179 (c_X5_status l G (xs (x3 + 1).toNatClampNeg) v r v1 f1) (rc_5 M hP (i := 12) rfl) rfl hl.1 rfl (Nat.le_of_ble_eq_true rfl) ⟨rfl, rfl⟩ ⟨Nat.le_of_ble_eq_true rfl, Nat.le_of_ble_eq_true rfl⟩ dL_law_1469) (fun H locs hP hS => ?_)
  refine lv_aload_n hx hb dL_law_1472 rfl (lv_at hl 2 rfl) ?_
  refine lv_aload_n hx hb dL_law_1473 rfl (lv_at hl 0 rfl) ?_
  refine lv_iload_n hx hb dL_law_1474 rfl (lv_at hl 3 rfl) ?_
  refine lv_iconst (v := 1) hx hb dL_law_1475 (by decide) ?_
  refine lv_iadd hx hb dL_law_1476 ?_
  refine va_sld hx hb hX hbl hbA hS h1 dL_law_1477 ?_
  refine kL_i hS (kL_run M hS hP hcs ok_L_182 (c_X6_status l G (xs (x3 + 1).toNatClampNeg) v1 r v2 f2) (rc_6 M hP (i := 0) rfl) rfl hl.1 rfl (Nat.le_of_ble_eq_true rfl) ⟨rfl, rfl⟩ ⟨Nat.le_of_ble_eq_true rfl, Nat.le_of_ble_eq_true rfl⟩ dL_law_1478) (fun H locs hP hS => ?_)
  refine lv_icmp_eq (tgt := 1486) hx hb dL_law_1481 (by decide) (fun _ => ?_) (fun q => absurd rfl q)
  exact kk v2 H locs hP hR2 hS
