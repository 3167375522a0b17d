/-! the law's calls: as kV_run and k_i, with the law's own cells and slots behind it -/
section LCALLS
variable {p : Program} {l : Launch} {e : Env} {R : Room} {s : State} {m : MethodId} {args : Array Value} {below : List Frame} {meth : Method} {c : Code} {H : Heap} {locs : List Loc} {G : GG} {own C : String} {cc b : ByteArray} {nL n na pc idx cells slots : Nat} {ret0 ret : Option FieldType} {ls : Array Slot} {v v' : VV} {Q : State → Prop} {As rest st : List Value} {y : MethodName} {rm : Room} {a : Nat}
theorem kL_run {Qc : Array Value → State → Outcome → State → Prop} (M : Mx G own cc nL ret0 p s m args meth c) (hS : va_S (gA G) s.heap H locs) (hP : Wd G v H) (hcs : cells ≤ R.cells ∧ slots ≤ R.slots) (hk : okV own idx C y b n ret na) (hM : Met l y (cdW y b n ret) rm (PC G v (.ref a :: As)) Qc 0 0 (gA G)) (hrv : rcv G s H C a)
    (hn : As.length = na) (hl : ls.size = nL) (hst : st = As.reverse ++ .ref a :: rest) (hrest : (rest.map fun v => v.category).sum ≤ 8) (hrc : rm.cells = 0 ∧ rm.slots = 0) (hR : rm.frames + 1 ≤ R.frames ∧ 8 + (n + 11) + rm.locals ≤ R.locals) (hdg : decode cc pc = .ok (.invokevirtual idx, 3)) :
    va_Run p l e R s m args below meth c H locs cells slots 0 0 (F0 m pc ls st) rest (Qc (Value.ref a :: As).toArray) (gA G) := by
  obtain ⟨⟨hx, hb, hml, hown, hts⟩, hr, hlocks, hX⟩ := M
  exact va_runV (As := As) (rest := rest) ⟨hx, hb, hml, hown, hts⟩ hM (cwV na hts hk.1 rfl hrc.1 hrc.2 hk.2 hR) ⟨PC_blind, hrv, fun U hU hW => ⟨rfl, by rw [hU]; exact hP, hX.go hS hU hW⟩⟩ rfl hn hl hst (lv_room hrest) hdg hcs
theorem kL_i {r : Int32} {ar : Array Value} (hS : va_S (gA G) s.heap H locs) (hr : va_Run p l e R s m args below meth c H locs cells slots 0 0 (F0 m pc ls st) rest (QI G r v' ar) (gA G)) (kk : ∀ (H1 : Heap) (locs1 : List Loc), Wd G v' H1 → va_S (gA G) s.heap H1 locs1 → W p l e R s m args below meth c H1 locs1 cells slots Q (F0 m (pc + 3) ls (.int r :: rest))) : W p l e R s m args below meth c H locs cells slots Q (F0 m pc ls st) :=
  va_calli hr hS (fun _ _ h => h) (fun _ h => h) (fun r2 _ t H1 locs1 ht hvm hw hB _ _ hS1 => by cases hw; exact kk H1 locs1 (ht ▸ hB) hS1)
theorem kL_l {r : Int64} {ar : Array Value} (hS : va_S (gA G) s.heap H locs) (hr : va_Run p l e R s m args below meth c H locs cells slots 0 0 (F0 m pc ls st) rest (QL G r v' ar) (gA G)) (kk : ∀ (H1 : Heap) (locs1 : List Loc), Wd G v' H1 → va_S (gA G) s.heap H1 locs1 → W p l e R s m args below meth c H1 locs1 cells slots Q (F0 m (pc + 3) ls (.long r :: rest))) : W p l e R s m args below meth c H locs cells slots Q (F0 m pc ls st) :=
  va_calll hr hS (fun _ _ h => h) (fun _ h => h) (fun r2 _ t H1 locs1 ht hvm hw hB _ _ hS1 => by cases hw; exact kk H1 locs1 (ht ▸ hB) hS1)
end LCALLS
/-- what holds all along the law's loop, beside the world: the script at b, apart from the world; room for what was made -/
def LX (G : GG) (p : Program) (s : State) (m : MethodId) (meth : Method) (c : Code) (b L : Nat) (xs : Nat → Int32) (cells slots : Nat) : Prop :=
  Mx G RL code 4 ret p s m #[Value.ref b] meth c ∧ va_X b L xs s s.heap ∧ b < s.heap.size ∧ ¬ gA G b ∧ cells ≤ room_1.cells ∧ slots ≤ room_1.slots
theorem lg_cmp_self (x : Int64) : lg_cmp x x = 0 := by
  unfold lg_cmp
  rw [if_neg Int64.lt_irrefl, if_pos rfl]
theorem ok_L_13 : okV RL 13 RX5 yX5_fog cX5_fog 4 (some .int) 2 := okV_of w_167 w_168 w_169 w_1 w_170 (by decide +kernel)
theorem ok_L_17 : okV RL 17 RX6 yX6_fog cX6_fog 3 (some .int) 2 := okV_of w_771 w_772 w_773 w_8 w_774 (by decide +kernel)
theorem ok_L_18 : okV RL 18 RX5 yX5_listed cX5_listed 2 (some .int) 1 := okV_of w_179 w_180 w_181 w_1 w_182 (by decide +kernel)
theorem ok_L_22 : okV RL 22 RX6 yX6_listed cX6_listed 2 (some .int) 1 := okV_of w_793 w_794 w_795 w_8 w_796 (by decide +kernel)
theorem ok_L_23 : okV RL 23 RX5 yX5_keeper cX5_keeper 3 (some .int) 2 := okV_of w_183 w_184 w_185 w_1 w_186 (by decide +kernel)
theorem ok_L_26 : okV RL 26 RX6 yX6_keeper cX6_keeper 3 (some .int) 2 := okV_of w_797 w_798 w_799 w_8 w_800 (by decide +kernel)
theorem ok_L_27 : okV RL 27 RX5 yX5_child cX5_child 3 (some .int) 2 := okV_of w_199 w_200 w_201 w_1 w_202 (by decide +kernel)
theorem ok_L_30 : okV RL 30 RX6 yX6_child cX6_child 3 (some .int) 2 := okV_of w_815 w_816 w_817 w_8 w_818 (by decide +kernel)
theorem ok_L_31 : okV RL 31 RX5 yX5_of cX5_of 3 (some .int) 2 := okV_of w_215 w_216 w_217 w_1 w_218 (by decide +kernel)
theorem ok_L_34 : okV RL 34 RX6 yX6_of cX6_of 3 (some .int) 2 := okV_of w_826 w_827 w_828 w_8 w_829 (by decide +kernel)
theorem ok_L_35 : okV RL 35 RX5 yX5_change cX5_change 6 (some .int) 3 := okV_of w_258 w_259 w_260 w_1 w_261 (by decide +kernel)
theorem ok_L_39 : okV RL 39 RX6 yX6_change cX6_change 4 (some .int) 3 := okV_of w_867 w_868 w_869 w_8 w_870 (by decide +kernel)
theorem ok_L_40 : okV RL 40 RX5 yX5_ofChild cX5_ofChild 3 (some .int) 2 := okV_of w_264 w_265 w_266 w_1 w_267 (by decide +kernel)
theorem ok_L_43 : okV RL 43 RX6 yX6_ofChild cX6_ofChild 3 (some .int) 2 := okV_of w_877 w_878 w_879 w_8 w_880 (by decide +kernel)
theorem ok_L_44 : okV RL 44 RX5 yX5_teach cX5_teach 6 (some .int) 3 := okV_of w_272 w_273 w_274 w_1 w_275 (by decide +kernel)
theorem ok_L_47 : okV RL 47 RX6 yX6_teach cX6_teach 4 (some .int) 3 := okV_of w_889 w_890 w_891 w_8 w_892 (by decide +kernel)
theorem ok_L_48 : okV RL 48 RX5 yX5_hears cX5_hears 5 (some .int) 2 := okV_of w_278 w_279 w_280 w_1 w_281 (by decide +kernel)
theorem ok_L_51 : okV RL 51 RX6 yX6_hears cX6_hears 5 (some .int) 2 := okV_of w_899 w_900 w_901 w_8 w_902 (by decide +kernel)
theorem ok_L_52 : okV RL 52 RX5 yX5_go cX5_go 2 (some .int) 1 := okV_of w_296 w_297 w_298 w_1 w_299 (by decide +kernel)
theorem ok_L_55 : okV RL 55 RX6 yX6_go cX6_go 2 (some .int) 1 := okV_of w_908 w_909 w_910 w_8 w_911 (by decide +kernel)
theorem ok_L_56 : okV RL 56 RX5 yX5_now cX5_now 2 (some .int) 1 := okV_of w_347 w_348 w_349 w_1 w_350 (by decide +kernel)
theorem ok_L_59 : okV RL 59 RX6 yX6_now cX6_now 2 (some .int) 1 := okV_of w_942 w_943 w_944 w_8 w_945 (by decide +kernel)
theorem ok_L_60 : okV RL 60 RX5 yX5_ahead cX5_ahead 5 (some .int) 3 := okV_of w_368 w_369 w_370 w_1 w_371 (by decide +kernel)
theorem ok_L_63 : okV RL 63 RX6 yX6_ahead cX6_ahead 5 (some .int) 3 := okV_of w_962 w_963 w_964 w_8 w_965 (by decide +kernel)
theorem ok_L_64 : okV RL 64 RX5 yX5_later cX5_later 5 (some .int) 3 := okV_of w_387 w_388 w_389 w_1 w_390 (by decide +kernel)
theorem ok_L_67 : okV RL 67 RX6 yX6_later cX6_later 4 (some .int) 3 := okV_of w_973 w_974 w_975 w_8 w_976 (by decide +kernel)
theorem ok_L_68 : okV RL 68 RX5 yX5_learns cX5_learns 3 (some .int) 2 := okV_of w_399 w_400 w_401 w_1 w_402 (by decide +kernel)
theorem ok_L_71 : okV RL 71 RX6 yX6_learns cX6_learns 3 (some .int) 2 := okV_of w_981 w_982 w_983 w_8 w_984 (by decide +kernel)
theorem ok_L_72 : okV RL 72 RX5 yX5_taught cX5_taught 2 (some .int) 1 := okV_of w_413 w_414 w_415 w_1 w_416 (by decide +kernel)
theorem ok_L_75 : okV RL 75 RX6 yX6_taught cX6_taught 2 (some .int) 1 := okV_of w_1002 w_1003 w_1004 w_8 w_1005 (by decide +kernel)
theorem ok_L_76 : okV RL 76 RX5 yX5_weary cX5_weary 4 (some .int) 2 := okV_of w_417 w_418 w_419 w_1 w_420 (by decide +kernel)
theorem ok_L_79 : okV RL 79 RX6 yX6_weary cX6_weary 4 (some .int) 2 := okV_of w_1006 w_1007 w_1008 w_8 w_1009 (by decide +kernel)
theorem ok_L_80 : okV RL 80 RX5 yX5_seatFor cX5_seatFor 7 (some .int) 2 := okV_of w_421 w_422 w_423 w_1 w_424 (by decide +kernel)
theorem ok_L_83 : okV RL 83 RX6 yX6_seatFor cX6_seatFor 9 (some .int) 2 := okV_of w_1010 w_1011 w_1012 w_8 w_1013 (by decide +kernel)
theorem ok_L_84 : okV RL 84 RX5 yX5_quickFor cX5_quickFor 5 (some .int) 3 := okV_of w_425 w_426 w_427 w_1 w_428 (by decide +kernel)
theorem ok_L_87 : okV RL 87 RX6 yX6_quickFor cX6_quickFor 8 (some .int) 3 := okV_of w_1017 w_1018 w_1019 w_8 w_1020 (by decide +kernel)
theorem ok_L_88 : okV RL 88 RX5 yX5_kindFor cX5_kindFor 7 (some .int) 2 := okV_of w_429 w_430 w_431 w_1 w_432 (by decide +kernel)
theorem ok_L_91 : okV RL 91 RX6 yX6_kindFor cX6_kindFor 9 (some .int) 2 := okV_of w_1021 w_1022 w_1023 w_8 w_1024 (by decide +kernel)
theorem ok_L_92 : okV RL 92 RX5 yX5_fogFor cX5_fogFor 5 (some .int) 3 := okV_of w_433 w_434 w_435 w_1 w_436 (by decide +kernel)
theorem ok_L_95 : okV RL 95 RX6 yX6_fogFor cX6_fogFor 7 (some .int) 3 := okV_of w_1029 w_1030 w_1031 w_8 w_1032 (by decide +kernel)
theorem ok_L_96 : okV RL 96 RX5 yX5_hush cX5_hush 5 (some .int) 1 := okV_of w_437 w_438 w_439 w_1 w_440 (by decide +kernel)
theorem ok_L_99 : okV RL 99 RX6 yX6_hush cX6_hush 4 (some .int) 1 := okV_of w_1033 w_1034 w_1035 w_8 w_1036 (by decide +kernel)
theorem ok_L_100 : okV RL 100 RX5 yX5_fits cX5_fits 6 (some .int) 2 := okV_of w_441 w_442 w_443 w_1 w_444 (by decide +kernel)
theorem ok_L_103 : okV RL 103 RX6 yX6_fits cX6_fits 4 (some .int) 2 := okV_of w_1041 w_1042 w_1043 w_8 w_1044 (by decide +kernel)
theorem ok_L_104 : okV RL 104 RX5 yX5_kinds cX5_kinds 6 (some .int) 2 := okV_of w_460 w_461 w_462 w_1 w_463 (by decide +kernel)
theorem ok_L_107 : okV RL 107 RX6 yX6_kinds cX6_kinds 4 (some .int) 2 := okV_of w_1061 w_1062 w_1063 w_8 w_1064 (by decide +kernel)
theorem ok_L_108 : okV RL 108 RX5 yX5_autumn cX5_autumn 4 (some .int) 1 := okV_of w_464 w_465 w_466 w_1 w_467 (by decide +kernel)
theorem ok_L_111 : okV RL 111 RX6 yX6_autumn cX6_autumn 5 (some .int) 1 := okV_of w_1065 w_1066 w_1067 w_8 w_1068 (by decide +kernel)
theorem ok_L_112 : okV RL 112 RX5 yX5_odds cX5_odds 7 (some .long) 4 := okV_of w_477 w_478 w_479 w_1 w_480 (by decide +kernel)
theorem ok_L_116 : okV RL 116 RX6 yX6_odds cX6_odds 11 (some .long) 4 := okV_of w_1074 w_1075 w_1076 w_8 w_1077 (by decide +kernel)
theorem ok_L_117 : okV RL 117 RX5 yX5_seed cX5_seed 3 (some .int) 1 := okV_of w_487 w_488 w_489 w_1 w_490 (by decide +kernel)
theorem ok_L_120 : okV RL 120 RX6 yX6_seed cX6_seed 2 (some .int) 1 := okV_of w_1078 w_1079 w_1080 w_8 w_1081 (by decide +kernel)
theorem ok_L_121 : okV RL 121 RX5 yX5_feed cX5_feed 3 (some .int) 2 := okV_of w_491 w_492 w_493 w_1 w_494 (by decide +kernel)
theorem ok_L_124 : okV RL 124 RX6 yX6_feed cX6_feed 4 (some .int) 2 := okV_of w_1082 w_1083 w_1084 w_8 w_1085 (by decide +kernel)
theorem ok_L_125 : okV RL 125 RX5 yX5_wipe cX5_wipe 2 (some .int) 0 := okV_of w_499 w_500 w_501 w_1 w_502 (by decide +kernel)
theorem ok_L_129 : okV RL 129 RX6 yX6_wipe cX6_wipe 2 (some .int) 0 := okV_of w_1086 w_1087 w_1088 w_8 w_1089 (by decide +kernel)
theorem ok_L_130 : okV RL 130 RX5 yX5_text cX5_text 2 (some .int) 0 := okV_of w_503 w_504 w_505 w_1 w_506 (by decide +kernel)
theorem ok_L_133 : okV RL 133 RX6 yX6_text cX6_text 2 (some .int) 0 := okV_of w_1090 w_1091 w_1092 w_8 w_1093 (by decide +kernel)
theorem ok_L_134 : okV RL 134 RX5 yX5_hold cX5_hold 3 (some .int) 2 := okV_of w_620 w_621 w_622 w_1 w_623 (by decide +kernel)
theorem ok_L_137 : okV RL 137 RX6 yX6_hold cX6_hold 3 (some .int) 2 := okV_of w_1148 w_1149 w_1150 w_8 w_1151 (by decide +kernel)
theorem ok_L_138 : okV RL 138 RX5 yX5_as cX5_as 4 (some .int) 2 := okV_of w_624 w_625 w_626 w_1 w_627 (by decide +kernel)
theorem ok_L_141 : okV RL 141 RX6 yX6_as cX6_as 4 (some .int) 2 := okV_of w_1155 w_1156 w_1157 w_8 w_1158 (by decide +kernel)
theorem ok_L_142 : okV RL 142 RX5 yX5_sheet cX5_sheet 5 (some .int) 3 := okV_of w_634 w_635 w_636 w_1 w_637 (by decide +kernel)
theorem ok_L_145 : okV RL 145 RX6 yX6_sheet cX6_sheet 5 (some .int) 3 := okV_of w_1166 w_1167 w_1168 w_8 w_1169 (by decide +kernel)
theorem ok_L_146 : okV RL 146 RX5 yX5_write cX5_write 5 (some .int) 3 := okV_of w_643 w_644 w_645 w_1 w_646 (by decide +kernel)
theorem ok_L_149 : okV RL 149 RX6 yX6_write cX6_write 4 (some .int) 3 := okV_of w_1171 w_1172 w_1173 w_8 w_1174 (by decide +kernel)
theorem ok_L_150 : okV RL 150 RX5 yX5_copy cX5_copy 6 (some .int) 5 := okV_of w_651 w_652 w_653 w_1 w_654 (by decide +kernel)
theorem ok_L_154 : okV RL 154 RX6 yX6_copy cX6_copy 7 (some .int) 5 := okV_of w_1178 w_1179 w_1180 w_8 w_1181 (by decide +kernel)
theorem ok_L_155 : okV RL 155 RX5 yX5_load cX5_load 4 (some .int) 1 := okV_of w_660 w_661 w_662 w_1 w_663 (by decide +kernel)
theorem ok_L_158 : okV RL 158 RX6 yX6_load cX6_load 3 (some .int) 1 := okV_of w_1182 w_1183 w_1184 w_8 w_1185 (by decide +kernel)
theorem ok_L_159 : okV RL 159 RX5 yX5_judge cX5_judge 4 (some .int) 1 := okV_of w_664 w_665 w_666 w_1 w_667 (by decide +kernel)
theorem ok_L_162 : okV RL 162 RX6 yX6_judge cX6_judge 3 (some .int) 1 := okV_of w_1186 w_1187 w_1188 w_8 w_1189 (by decide +kernel)
theorem ok_L_163 : okV RL 163 RX5 yX5_image cX5_image 1 (some .int) 0 := okV_of w_668 w_669 w_670 w_1 w_671 (by decide +kernel)
theorem ok_L_166 : okV RL 166 RX6 yX6_image cX6_image 1 (some .int) 0 := okV_of w_1190 w_1191 w_1192 w_8 w_1193 (by decide +kernel)
theorem ok_L_167 : okV RL 167 RX5 yX5_undo cX5_undo 1 (some .int) 0 := okV_of w_672 w_673 w_674 w_1 w_675 (by decide +kernel)
theorem ok_L_170 : okV RL 170 RX6 yX6_undo cX6_undo 1 (some .int) 0 := okV_of w_1194 w_1195 w_1196 w_8 w_1197 (by decide +kernel)
theorem ok_L_171 : okV RL 171 RX5 yX5_tear cX5_tear 2 (some .int) 0 := okV_of w_676 w_677 w_678 w_1 w_679 (by decide +kernel)
theorem ok_L_174 : okV RL 174 RX6 yX6_tear cX6_tear 2 (some .int) 0 := okV_of w_1198 w_1199 w_1200 w_8 w_1201 (by decide +kernel)
theorem ok_L_175 : okV RL 175 RX5 yX5_count cX5_count 2 (some .int) 1 := okV_of w_680 w_681 w_682 w_1 w_683 (by decide +kernel)
theorem ok_L_178 : okV RL 178 RX6 yX6_count cX6_count 4 (some .int) 1 := okV_of w_1202 w_1203 w_1204 w_8 w_1205 (by decide +kernel)
theorem ok_L_179 : okV RL 179 RX5 yX5_status cX5_status 4 (some .int) 1 := okV_of w_688 w_689 w_690 w_1 w_691 (by decide +kernel)
theorem ok_L_182 : okV RL 182 RX6 yX6_status cX6_status 2 (some .int) 1 := okV_of w_1206 w_1207 w_1208 w_8 w_1209 (by decide +kernel)
set_option maxHeartbeats 4000000 in
theorem lc_0 {p : Program} {l : Launch} {e : Env} {s : State} {m : MethodId} {below : List Frame} {meth : Method} {c : Code} {H : Heap} {locs : List Loc} {G : GG} {v : VV} {Q : State → Prop} {b L cells slots : Nat} {xs : Nat → Int32} {x3 : Int32} {ls : Array Slot} (X : LX G p s m meth c b L xs cells slots) (h1 : vp_in (x3 + 1) L) (h2 : vp_in (x3 + 2) L) (h3 : vp_in (x3 + 3) L) (h4 : vp_in (x3 + 4) L) (h5 : vp_in (x3 + 5) L) (hP : Wd G v H) (hR : Rel v) (hS : va_S (gA G) s.heap H locs) (hl : lv_has ls 4 [(0, .ref b), (1, .ref (ad G 12)), (2, .ref (ad G 0)), (3, .int x3)])
    (kk : ∀ (v2 : VV) (H : Heap) (locs : List Loc), Wd G v2 H → Rel v2 → va_S (gA G) s.heap H locs → W p l e room_1 s m #[Value.ref b] below meth c H locs cells slots Q (F0 m 1486 ls [])) : W p l e room_1 s m #[Value.ref b] below meth c H locs cells slots Q (F0 m 212 ls []) := by
  obtain ⟨M, hX, hbl, hbA, hcs⟩ := X
  have hx := M.1.1
  have hb := M.1.2.1
  obtain ⟨r, v1, v2, f1, f2, hR2⟩ := st_fog hR (xs (x3 + 1).toNatClampNeg) (xs (x3 + 2).toNatClampNeg)
  refine lv_aload_n hx hb dL_law_212 rfl (lv_at hl 1 rfl) ?_
  refine lv_aload_n hx hb dL_law_213 rfl (lv_at hl 0 rfl) ?_
  refine lv_iload_n hx hb dL_law_214 rfl (lv_at hl 3 rfl) ?_
  refine lv_iconst (v := 1) hx hb dL_law_215 (by decide) ?_
  refine lv_iadd hx hb dL_law_216 ?_
  refine va_sld hx hb hX hbl hbA hS h1 dL_law_217 ?_
  refine lv_aload_n hx hb dL_law_218 rfl (lv_at hl 0 rfl) ?_
  refine lv_iload_n hx hb dL_law_219 rfl (lv_at hl 3 rfl) ?_
  refine lv_iconst (v := 2) hx hb dL_law_220 (by decide) ?_
  refine lv_iadd hx hb dL_law_221 ?_
  refine va_sld hx hb hX hbl hbA hS h2 dL_law_222 ?_
  refine kL_i hS (kL_run M hS hP hcs ok_L_13 (c_X5_fog l G (xs (x3 + 1).toNatClampNeg) (xs (x3 + 2).toNatClampNeg) v r v1 f1) (rc_5 M hP (i := 12) rfl) rfl hl.1 rfl (Nat.le_of_ble_eq_true rfl) ⟨rfl, rfl⟩ ⟨Nat.le_of_ble_eq_true rfl, Nat.le_of_ble_eq_true rfl⟩ dL_law_223) (fun H locs hP hS => ?_)
  refine lv_aload_n hx hb dL_law_226 rfl (lv_at hl 2 rfl) ?_
  refine lv_aload_n hx hb dL_law_227 rfl (lv_at hl 0 rfl) ?_
  refine lv_iload_n hx hb dL_law_228 rfl (lv_at hl 3 rfl) ?_
  refine lv_iconst (v := 1) hx hb dL_law_229 (by decide) ?_
  refine lv_iadd hx hb dL_law_230 ?_
  refine va_sld hx hb hX hbl hbA hS h1 dL_law_231 ?_
  refine lv_aload_n hx hb dL_law_232 rfl (lv_at hl 0 rfl) ?_
  refine lv_iload_n hx hb dL_law_233 rfl (lv_at hl 3 rfl) ?_
  refine lv_iconst (v := 2) hx hb dL_law_234 (by decide) ?_
  refine lv_iadd hx hb dL_law_235 ?_
  refine va_sld hx hb hX hbl hbA hS h2 dL_law_236 ?_
  refine kL_i hS (kL_run M hS hP hcs ok_L_17 (c_X6_fog l G (xs (x3 + 1).toNatClampNeg) (xs (x3 + 2).toNatClampNeg) v1 r v2 f2) (rc_6 M hP (i := 0) rfl) rfl hl.1 rfl (Nat.le_of_ble_eq_true rfl) ⟨rfl, rfl⟩ ⟨Nat.le_of_ble_eq_true rfl, Nat.le_of_ble_eq_true rfl⟩ dL_law_237) (fun H locs hP hS => ?_)
  refine lv_icmp_eq (tgt := 1486) hx hb dL_law_240 (by decide) (fun _ => ?_) (fun q => absurd rfl q)
  exact kk v2 H locs hP hR2 hS
set_option maxHeartbeats 4000000 in
theorem lc_1 {p : Program} {l : Launch} {e : Env} {s : State} {m : MethodId} {below : List Frame} {meth : Method} {c : Code} {H : Heap} {locs : List Loc} {G : GG} {v : VV} {Q : State → Prop} {b L cells slots : Nat} {xs : Nat → Int32} {x3 : Int32} {ls : Array Slot} (X : LX G p s m meth c b L xs cells slots) (h1 : vp_in (x3 + 1) L) (h2 : vp_in (x3 + 2) L) (h3 : vp_in (x3 + 3) L) (h4 : vp_in (x3 + 4) L) (h5 : vp_in (x3 + 5) L) (hP : Wd G v H) (hR : Rel v) (hS : va_S (gA G) s.heap H locs) (hl : lv_has ls 4 [(0, .ref b), (1, .ref (ad G 12)), (2, .ref (ad G 0)), (3, .int x3)])
    (kk : ∀ (v2 : VV) (H : Heap) (locs : List Loc), Wd G v2 H → Rel v2 → va_S (gA G) s.heap H locs → W p l e room_1 s m #[Value.ref b] below meth c H locs cells slots Q (F0 m 1486 ls [])) : W p l e room_1 s m #[Value.ref b] below meth c H locs cells slots Q (F0 m 245 ls []) := by
  obtain ⟨M, hX, hbl, hbA, hcs⟩ := X
  have hx := M.1.1
  have hb := M.1.2.1
  obtain ⟨r, v1, v2, f1, f2, hR2⟩ := st_listed hR (xs (x3 + 1).toNatClampNeg)
  refine lv_aload_n hx hb dL_law_245 rfl (lv_at hl 1 rfl) ?_
  refine lv_aload_n hx hb dL_law_246 rfl (lv_at hl 0 rfl) ?_
  refine lv_iload_n hx hb dL_law_247 rfl (lv_at hl 3 rfl) ?_
  refine lv_iconst (v := 1) hx hb dL_law_248 (by decide) ?_
  refine lv_iadd hx hb dL_law_249 ?_
  refine va_sld hx hb hX hbl hbA hS h1 dL_law_250 ?_
  refine kL_i hS (kL_run M hS hP hcs ok_L_18 (c_X5_listed l G (xs (x3 + 1).toNatClampNeg) v r v1 f1) (rc_5 M hP (i := 12) rfl) rfl hl.1 rfl (Nat.le_of_ble_eq_true rfl) ⟨rfl, rfl⟩ ⟨Nat.le_of_ble_eq_true rfl, Nat.le_of_ble_eq_true rfl⟩ dL_law_251) (fun H locs hP hS => ?_)
  refine lv_aload_n hx hb dL_law_254 rfl (lv_at hl 2 rfl) ?_
  refine lv_aload_n hx hb dL_law_255 rfl (lv_at hl 0 rfl) ?_
  refine lv_iload_n hx hb dL_law_256 rfl (lv_at hl 3 rfl) ?_
  refine lv_iconst (v := 1) hx hb dL_law_257 (by decide) ?_
  refine lv_iadd hx hb dL_law_258 ?_
  refine va_sld hx hb hX hbl hbA hS h1 dL_law_259 ?_
  refine kL_i hS (kL_run M hS hP hcs ok_L_22 (c_X6_listed l G (xs (x3 + 1).toNatClampNeg) v1 r v2 f2) (rc_6 M hP (i := 0) rfl) rfl hl.1 rfl (Nat.le_of_ble_eq_true rfl) ⟨rfl, rfl⟩ ⟨Nat.le_of_ble_eq_true rfl, Nat.le_of_ble_eq_true rfl⟩ dL_law_260) (fun H locs hP hS => ?_)
  refine lv_icmp_eq (tgt := 1486) hx hb dL_law_263 (by decide) (fun _ => ?_) (fun q => absurd rfl q)
  exact kk v2 H locs hP hR2 hS
set_option maxHeartbeats 4000000 in
theorem lc_2 {p : Program} {l : Launch} {e : Env} {s : State} {m : MethodId} {below : List Frame} {meth : Method} {c : Code} {H : Heap} {locs : List Loc} {G : GG} {v : VV} {Q : State → Prop} {b L cells slots : Nat} {xs : Nat → Int32} {x3 : Int32} {ls : Array Slot} (X : LX G p s m meth c b L xs cells slots) (h1 : vp_in (x3 + 1) L) (h2 : vp_in (x3 + 2) L) (h3 : vp_in (x3 + 3) L) (h4 : vp_in (x3 + 4) L) (h5 : vp_in (x3 + 5) L) (hP : Wd G v H) (hR : Rel v) (hS : va_S (gA G) s.heap H locs) (hl : lv_has ls 4 [(0, .ref b), (1, .ref (ad G 12)), (2, .ref (ad G 0)), (3, .int x3)])
    (kk : ∀ (v2 : VV) (H : Heap) (locs : List Loc), Wd G v2 H → Rel v2 → va_S (gA G) s.heap H locs → W p l e room_1 s m #[Value.ref b] below meth c H locs cells slots Q (F0 m 1486 ls [])) : W p l e room_1 s m #[Value.ref b] below meth c H locs cells slots Q (F0 m 268 ls []) := by
  obtain ⟨M, hX, hbl, hbA, hcs⟩ := X
  have hx := M.1.1
  have hb := M.1.2.1
  obtain ⟨r, v1, v2, f1, f2, hR2⟩ := st_keeper hR (xs (x3 + 1).toNatClampNeg) (xs (x3 + 2).toNatClampNeg)
  refine lv_aload_n hx hb dL_law_268 rfl (lv_at hl 1 rfl) ?_
  refine lv_aload_n hx hb dL_law_269 rfl (lv_at hl 0 rfl) ?_
  refine lv_iload_n hx hb dL_law_270 rfl (lv_at hl 3 rfl) ?_
  refine lv_iconst (v := 1) hx hb dL_law_271 (by decide) ?_
  refine lv_iadd hx hb dL_law_272 ?_
  refine va_sld hx hb hX hbl hbA hS h1 dL_law_273 ?_
  refine lv_aload_n hx hb dL_law_274 rfl (lv_at hl 0 rfl) ?_
  refine lv_iload_n hx hb dL_law_275 rfl (lv_at hl 3 rfl) ?_
  refine lv_iconst (v := 2) hx hb dL_law_276 (by decide) ?_
  refine lv_iadd hx hb dL_law_277 ?_
  refine va_sld hx hb hX hbl hbA hS h2 dL_law_278 ?_
  refine kL_i hS (kL_run M hS hP hcs ok_L_23 (c_X5_keeper l G (xs (x3 + 1).toNatClampNeg) (xs (x3 + 2).toNatClampNeg) v r v1 f1) (rc_5 M hP (i := 12) rfl) rfl hl.1 rfl (Nat.le_of_ble_eq_true rfl) ⟨rfl, rfl⟩ ⟨Nat.le_of_ble_eq_true rfl, Nat.le_of_ble_eq_true rfl⟩ dL_law_279) (fun H locs hP hS => ?_)
  refine lv_aload_n hx hb dL_law_282 rfl (lv_at hl 2 rfl) ?_
  refine lv_aload_n hx hb dL_law_283 rfl (lv_at hl 0 rfl) ?_
  refine lv_iload_n hx hb dL_law_284 rfl (lv_at hl 3 rfl) ?_
  refine lv_iconst (v := 1) hx hb dL_law_285 (by decide) ?_
  refine lv_iadd hx hb dL_law_286 ?_
  refine va_sld hx hb hX hbl hbA hS h1 dL_law_287 ?_
  refine lv_aload_n hx hb dL_law_288 rfl (lv_at hl 0 rfl) ?_
  refine lv_iload_n hx hb dL_law_289 rfl (lv_at hl 3 rfl) ?_
  refine lv_iconst (v := 2) hx hb dL_law_290 (by decide) ?_
  refine lv_iadd hx hb dL_law_291 ?_
  refine va_sld hx hb hX hbl hbA hS h2 dL_law_292 ?_
  refine kL_i hS (kL_run M hS hP hcs ok_L_26 (c_X6_keeper l G (xs (x3 + 1).toNatClampNeg) (xs (x3 + 2).toNatClampNeg) v1 r v2 f2) (rc_6 M hP (i := 0) rfl) rfl hl.1 rfl (Nat.le_of_ble_eq_true rfl) ⟨rfl, rfl⟩ ⟨Nat.le_of_ble_eq_true rfl, Nat.le_of_ble_eq_true rfl⟩ dL_law_293) (fun H locs hP hS => ?_)
  refine lv_icmp_eq (tgt := 1486) hx hb dL_law_296 (by decide) (fun _ => ?_) (fun q => absurd rfl q)
  exact kk v2 H locs hP hR2 hS
set_option maxHeartbeats 4000000 in
theorem lc_3 {p : Program} {l : Launch} {e : Env} {s : State} {m : MethodId} {below : List Frame} {meth : Method} {c : Code} {H : Heap} {locs : List Loc} {G : GG} {v : VV} {Q : State → Prop} {b L cells slots : Nat} {xs : Nat → Int32} {x3 : Int32} {ls : Array Slot} (X : LX G p s m meth c b L xs cells slots) (h1 : vp_in (x3 + 1) L) (h2 : vp_in (x3 + 2) L) (h3 : vp_in (x3 + 3) L) (h4 : vp_in (x3 + 4) L) (h5 : vp_in (x3 + 5) L) (hP : Wd G v H) (hR : Rel v) (hS : va_S (gA G) s.heap H locs) (hl : lv_has ls 4 [(0, .ref b), (1, .ref (ad G 12)), (2, .ref (ad G 0)), (3, .int x3)])
    (kk : ∀ (v2 : VV) (H : Heap) (locs : List Loc), Wd G v2 H → Rel v2 → va_S (gA G) s.heap H locs → W p l e room_1 s m #[Value.ref b] below meth c H locs cells slots Q (F0 m 1486 ls [])) : W p l e room_1 s m #[Value.ref b] below meth c H locs cells slots Q (F0 m 301 ls []) := by
  obtain ⟨M, hX, hbl, hbA, hcs⟩ := X
  have hx := M.1.1
  have hb := M.1.2.1
  obtain ⟨r, v1, v2, f1, f2, hR2⟩ := st_child hR (xs (x3 + 1).toNatClampNeg) (xs (x3 + 2).toNatClampNeg)
  refine lv_aload_n hx hb dL_law_301 rfl (lv_at hl 1 rfl) ?_
  refine lv_aload_n hx hb dL_law_302 rfl (lv_at hl 0 rfl) ?_
  refine lv_iload_n hx hb dL_law_303 rfl (lv_at hl 3 rfl) ?_
  refine lv_iconst (v := 1) hx hb dL_law_304 (by decide) ?_
  refine lv_iadd hx hb dL_law_305 ?_
  refine va_sld hx hb hX hbl hbA hS h1 dL_law_306 ?_
  refine lv_aload_n hx hb dL_law_307 rfl (lv_at hl 0 rfl) ?_
  refine lv_iload_n hx hb dL_law_308 rfl (lv_at hl 3 rfl) ?_
  refine lv_iconst (v := 2) hx hb dL_law_309 (by decide) ?_
  refine lv_iadd hx hb dL_law_310 ?_
  refine va_sld hx hb hX hbl hbA hS h2 dL_law_311 ?_
  refine kL_i hS (kL_run M hS hP hcs ok_L_27 (c_X5_child l G (xs (x3 + 1).toNatClampNeg) (xs (x3 + 2).toNatClampNeg) v r v1 f1) (rc_5 M hP (i := 12) rfl) rfl hl.1 rfl (Nat.le_of_ble_eq_true rfl) ⟨rfl, rfl⟩ ⟨Nat.le_of_ble_eq_true rfl, Nat.le_of_ble_eq_true rfl⟩ dL_law_312) (fun H locs hP hS => ?_)
  refine lv_aload_n hx hb dL_law_315 rfl (lv_at hl 2 rfl) ?_
  refine lv_aload_n hx hb dL_law_316 rfl (lv_at hl 0 rfl) ?_
  refine lv_iload_n hx hb dL_law_317 rfl (lv_at hl 3 rfl) ?_
  refine lv_iconst (v := 1) hx hb dL_law_318 (by decide) ?_
  refine lv_iadd hx hb dL_law_319 ?_
  refine va_sld hx hb hX hbl hbA hS h1 dL_law_320 ?_
  refine lv_aload_n hx hb dL_law_321 rfl (lv_at hl 0 rfl) ?_
  refine lv_iload_n hx hb dL_law_322 rfl (lv_at hl 3 rfl) ?_
  refine lv_iconst (v := 2) hx hb dL_law_323 (by decide) ?_
  refine lv_iadd hx hb dL_law_324 ?_
  refine va_sld hx hb hX hbl hbA hS h2 dL_law_325 ?_
  refine kL_i hS (kL_run M hS hP hcs ok_L_30 (c_X6_child l G (xs (x3 + 1).toNatClampNeg) (xs (x3 + 2).toNatClampNeg) v1 r v2 f2) (rc_6 M hP (i := 0) rfl) rfl hl.1 rfl (Nat.le_of_ble_eq_true rfl) ⟨rfl, rfl⟩ ⟨Nat.le_of_ble_eq_true rfl, Nat.le_of_ble_eq_true rfl⟩ dL_law_326) (fun H locs hP hS => ?_)
  refine lv_icmp_eq (tgt := 1486) hx hb dL_law_329 (by decide) (fun _ => ?_) (fun q => absurd rfl q)
  exact kk v2 H locs hP hR2 hS
set_option maxHeartbeats 4000000 in
theorem lc_4 {p : Program} {l : Launch} {e : Env} {s : State} {m : MethodId} {below : List Frame} {meth : Method} {c : Code} {H : Heap} {locs : List Loc} {G : GG} {v : VV} {Q : State → Prop} {b L cells slots : Nat} {xs : Nat → Int32} {x3 : Int32} {ls : Array Slot} (X : LX G p s m meth c b L xs cells slots) (h1 : vp_in (x3 + 1) L) (h2 : vp_in (x3 + 2) L) (h3 : vp_in (x3 + 3) L) (h4 : vp_in (x3 + 4) L) (h5 : vp_in (x3 + 5) L) (hP : Wd G v H) (hR : Rel v) (hS : va_S (gA G) s.heap H locs) (hl : lv_has ls 4 [(0, .ref b), (1, .ref (ad G 12)), (2, .ref (ad G 0)), (3, .int x3)])
    (kk : ∀ (v2 : VV) (H : Heap) (locs : List Loc), Wd G v2 H → Rel v2 → va_S (gA G) s.heap H locs → W p l e room_1 s m #[Value.ref b] below meth c H locs cells slots Q (F0 m 1486 ls [])) : W p l e room_1 s m #[Value.ref b] below meth c H locs cells slots Q (F0 m 334 ls []) := by
  obtain ⟨M, hX, hbl, hbA, hcs⟩ := X
  have hx := M.1.1
  have hb := M.1.2.1
  obtain ⟨r, v1, v2, f1, f2, hR2⟩ := st_of hR (xs (x3 + 1).toNatClampNeg) (xs (x3 + 2).toNatClampNeg)
  refine lv_aload_n hx hb dL_law_334 rfl (lv_at hl 1 rfl) ?_
  refine lv_aload_n hx hb dL_law_335 rfl (lv_at hl 0 rfl) ?_
  refine lv_iload_n hx hb dL_law_336 rfl (lv_at hl 3 rfl) ?_
  refine lv_iconst (v := 1) hx hb dL_law_337 (by decide) ?_
  refine lv_iadd hx hb dL_law_338 ?_
  refine va_sld hx hb hX hbl hbA hS h1 dL_law_339 ?_
  refine lv_aload_n hx hb dL_law_340 rfl (lv_at hl 0 rfl) ?_
  refine lv_iload_n hx hb dL_law_341 rfl (lv_at hl 3 rfl) ?_
  refine lv_iconst (v := 2) hx hb dL_law_342 (by decide) ?_
  refine lv_iadd hx hb dL_law_343 ?_
  refine va_sld hx hb hX hbl hbA hS h2 dL_law_344 ?_
  refine kL_i hS (kL_run M hS hP hcs ok_L_31 (c_X5_of l G (xs (x3 + 1).toNatClampNeg) (xs (x3 + 2).toNatClampNeg) v r v1 f1) (rc_5 M hP (i := 12) rfl) rfl hl.1 rfl (Nat.le_of_ble_eq_true rfl) ⟨rfl, rfl⟩ ⟨Nat.le_of_ble_eq_true rfl, Nat.le_of_ble_eq_true rfl⟩ dL_law_345) (fun H locs hP hS => ?_)
  refine lv_aload_n hx hb dL_law_348 rfl (lv_at hl 2 rfl) ?_
  refine lv_aload_n hx hb dL_law_349 rfl (lv_at hl 0 rfl) ?_
  refine lv_iload_n hx hb dL_law_350 rfl (lv_at hl 3 rfl) ?_
  refine lv_iconst (v := 1) hx hb dL_law_351 (by decide) ?_
  refine lv_iadd hx hb dL_law_352 ?_
  refine va_sld hx hb hX hbl hbA hS h1 dL_law_353 ?_
  refine lv_aload_n hx hb dL_law_354 rfl (lv_at hl 0 rfl) ?_
  refine lv_iload_n hx hb dL_law_355 rfl (lv_at hl 3 rfl) ?_
  refine lv_iconst (v := 2) hx hb dL_law_356 (by decide) ?_
  refine lv_iadd hx hb dL_law_357 ?_
  refine va_sld hx hb hX hbl hbA hS h2 dL_law_358 ?_
  refine kL_i hS (kL_run M hS hP hcs ok_L_34 (c_X6_of l G (xs (x3 + 1).toNatClampNeg) (xs (x3 + 2).toNatClampNeg) v1 r v2 f2) (rc_6 M hP (i := 0) rfl) rfl hl.1 rfl (Nat.le_of_ble_eq_true rfl) ⟨rfl, rfl⟩ ⟨Nat.le_of_ble_eq_true rfl, Nat.le_of_ble_eq_true rfl⟩ dL_law_359) (fun H locs hP hS => ?_)
  refine lv_icmp_eq (tgt := 1486) hx hb dL_law_362 (by decide) (fun _ => ?_) (fun q => absurd rfl q)
  exact kk v2 H locs hP hR2 hS
set_option maxHeartbeats 4000000 in
theorem lc_5 {p : Program} {l : Launch} {e : Env} {s : State} {m : MethodId} {below : List Frame} {meth : Method} {c : Code} {H : Heap} {locs : List Loc} {G : GG} {v : VV} {Q : State → Prop} {b L cells slots : Nat} {xs : Nat → Int32} {x3 : Int32} {ls : Array Slot} (X : LX G p s m meth c b L xs cells slots) (h1 : vp_in (x3 + 1) L) (h2 : vp_in (x3 + 2) L) (h3 : vp_in (x3 + 3) L) (h4 : vp_in (x3 + 4) L) (h5 : vp_in (x3 + 5) L) (hP : Wd G v H) (hR : Rel v) (hS : va_S (gA G) s.heap H locs) (hl : lv_has ls 4 [(0, .ref b), (1, .ref (ad G 12)), (2, .ref (ad G 0)), (3, .int x3)])
    (kk : ∀ (v2 : VV) (H : Heap) (locs : List Loc), Wd G v2 H → Rel v2 → va_S (gA G) s.heap H locs → W p l e room_1 s m #[Value.ref b] below meth c H locs cells slots Q (F0 m 1486 ls [])) : W p l e room_1 s m #[Value.ref b] below meth c H locs cells slots Q (F0 m 367 ls []) := by
  obtain ⟨M, hX, hbl, hbA, hcs⟩ := X
  have hx := M.1.1
  have hb := M.1.2.1
  obtain ⟨r, v1, v2, f1, f2, hR2⟩ := st_change hR (xs (x3 + 1).toNatClampNeg) (xs (x3 + 2).toNatClampNeg) (xs (x3 + 3).toNatClampNeg)
  refine lv_aload_n hx hb dL_law_367 rfl (lv_at hl 1 rfl) ?_
  refine lv_aload_n hx hb dL_law_368 rfl (lv_at hl 0 rfl) ?_
  refine lv_iload_n hx hb dL_law_369 rfl (lv_at hl 3 rfl) ?_
  refine lv_iconst (v := 1) hx hb dL_law_370 (by decide) ?_
  refine lv_iadd hx hb dL_law_371 ?_
  refine va_sld hx hb hX hbl hbA hS h1 dL_law_372 ?_
  refine lv_aload_n hx hb dL_law_373 rfl (lv_at hl 0 rfl) ?_
  refine lv_iload_n hx hb dL_law_374 rfl (lv_at hl 3 rfl) ?_
  refine lv_iconst (v := 2) hx hb dL_law_375 (by decide) ?_
  refine lv_iadd hx hb dL_law_376 ?_
  refine va_sld hx hb hX hbl hbA hS h2 dL_law_377 ?_
  refine lv_aload_n hx hb dL_law_378 rfl (lv_at hl 0 rfl) ?_
  refine lv_iload_n hx hb dL_law_379 rfl (lv_at hl 3 rfl) ?_
  refine lv_iconst (v := 3) hx hb dL_law_380 (by decide) ?_
  refine lv_iadd hx hb dL_law_381 ?_
  refine va_sld hx hb hX hbl hbA hS h3 dL_law_382 ?_
  refine kL_i hS (kL_run M hS hP hcs ok_L_35 (c_X5_change l G (xs (x3 + 1).toNatClampNeg) (xs (x3 + 2).toNatClampNeg) (xs (x3 + 3).toNatClampNeg) v r v1 f1) (rc_5 M hP (i := 12) rfl) rfl hl.1 rfl (Nat.le_of_ble_eq_true rfl) ⟨rfl, rfl⟩ ⟨Nat.le_of_ble_eq_true rfl, Nat.le_of_ble_eq_true rfl⟩ dL_law_383) (fun H locs hP hS => ?_)
  refine lv_aload_n hx hb dL_law_386 rfl (lv_at hl 2 rfl) ?_
  refine lv_aload_n hx hb dL_law_387 rfl (lv_at hl 0 rfl) ?_
  refine lv_iload_n hx hb dL_law_388 rfl (lv_at hl 3 rfl) ?_
  refine lv_iconst (v := 1) hx hb dL_law_389 (by decide) ?_
  refine lv_iadd hx hb dL_law_390 ?_
  refine va_sld hx hb hX hbl hbA hS h1 dL_law_391 ?_
  refine lv_aload_n hx hb dL_law_392 rfl (lv_at hl 0 rfl) ?_
  refine lv_iload_n hx hb dL_law_393 rfl (lv_at hl 3 rfl) ?_
  refine lv_iconst (v := 2) hx hb dL_law_394 (by decide) ?_
  refine lv_iadd hx hb dL_law_395 ?_
  refine va_sld hx hb hX hbl hbA hS h2 dL_law_396 ?_
  refine lv_aload_n hx hb dL_law_397 rfl (lv_at hl 0 rfl) ?_
  refine lv_iload_n hx hb dL_law_398 rfl (lv_at hl 3 rfl) ?_
  refine lv_iconst (v := 3) hx hb dL_law_399 (by decide) ?_
  refine lv_iadd hx hb dL_law_400 ?_
  refine va_sld hx hb hX hbl hbA hS h3 dL_law_401 ?_
  refine kL_i hS (kL_run M hS hP hcs ok_L_39 (c_X6_change l G (xs (x3 + 1).toNatClampNeg) (xs (x3 + 2).toNatClampNeg) (xs (x3 + 3).toNatClampNeg) v1 r v2 f2) (rc_6 M hP (i := 0) rfl) rfl hl.1 rfl (Nat.le_of_ble_eq_true rfl) ⟨rfl, rfl⟩ ⟨Nat.le_of_ble_eq_true rfl, Nat.le_of_ble_eq_true rfl⟩ dL_law_402) (fun H locs hP hS => ?_)
  refine lv_icmp_eq (tgt := 1486) hx hb dL_law_405 (by decide) (fun _ => ?_) (fun q => absurd rfl q)
  exact kk v2 H locs hP hR2 hS
set_option maxHeartbeats 4000000 in
theorem lc_6 {p : Program} {l : Launch} {e : Env} {s : State} {m : MethodId} {below : List Frame} {meth : Method} {c : Code} {H : Heap} {locs : List Loc} {G : GG} {v : VV} {Q : State → Prop} {b L cells slots : Nat} {xs : Nat → Int32} {x3 : Int32} {ls : Array Slot} (X : LX G p s m meth c b L xs cells slots) (h1 : vp_in (x3 + 1) L) (h2 : vp_in (x3 + 2) L) (h3 : vp_in (x3 + 3) L) (h4 : vp_in (x3 + 4) L) (h5 : vp_in (x3 + 5) L) (hP : Wd G v H) (hR : Rel v) (hS : va_S (gA G) s.heap H locs) (hl : lv_has ls 4 [(0, .ref b), (1, .ref (ad G 12)), (2, .ref (ad G 0)), (3, .int x3)])
    (kk : ∀ (v2 : VV) (H : Heap) (locs : List Loc), Wd G v2 H → Rel v2 → va_S (gA G) s.heap H locs → W p l e room_1 s m #[Value.ref b] below meth c H locs cells slots Q (F0 m 1486 ls [])) : W p l e room_1 s m #[Value.ref b] below meth c H locs cells slots Q (F0 m 410 ls []) := by
  obtain ⟨M, hX, hbl, hbA, hcs⟩ := X
  have hx := M.1.1
  have hb := M.1.2.1
  obtain ⟨r, v1, v2, f1, f2, hR2⟩ := st_ofChild hR (xs (x3 + 1).toNatClampNeg) (xs (x3 + 2).toNatClampNeg)
  refine lv_aload_n hx hb dL_law_410 rfl (lv_at hl 1 rfl) ?_
  refine lv_aload_n hx hb dL_law_411 rfl (lv_at hl 0 rfl) ?_
  refine lv_iload_n hx hb dL_law_412 rfl (lv_at hl 3 rfl) ?_
  refine lv_iconst (v := 1) hx hb dL_law_413 (by decide) ?_
  refine lv_iadd hx hb dL_law_414 ?_
  refine va_sld hx hb hX hbl hbA hS h1 dL_law_415 ?_
  refine lv_aload_n hx hb dL_law_416 rfl (lv_at hl 0 rfl) ?_
  refine lv_iload_n hx hb dL_law_417 rfl (lv_at hl 3 rfl) ?_
  refine lv_iconst (v := 2) hx hb dL_law_418 (by decide) ?_
  refine lv_iadd hx hb dL_law_419 ?_
  refine va_sld hx hb hX hbl hbA hS h2 dL_law_420 ?_
  refine kL_i hS (kL_run M hS hP hcs ok_L_40 (c_X5_ofChild l G (xs (x3 + 1).toNatClampNeg) (xs (x3 + 2).toNatClampNeg) v r v1 f1) (rc_5 M hP (i := 12) rfl) rfl hl.1 rfl (Nat.le_of_ble_eq_true rfl) ⟨rfl, rfl⟩ ⟨Nat.le_of_ble_eq_true rfl, Nat.le_of_ble_eq_true rfl⟩ dL_law_421) (fun H locs hP hS => ?_)
  refine lv_aload_n hx hb dL_law_424 rfl (lv_at hl 2 rfl) ?_
  refine lv_aload_n hx hb dL_law_425 rfl (lv_at hl 0 rfl) ?_
  refine lv_iload_n hx hb dL_law_426 rfl (lv_at hl 3 rfl) ?_
  refine lv_iconst (v := 1) hx hb dL_law_427 (by decide) ?_
  refine lv_iadd hx hb dL_law_428 ?_
  refine va_sld hx hb hX hbl hbA hS h1 dL_law_429 ?_
  refine lv_aload_n hx hb dL_law_430 rfl (lv_at hl 0 rfl) ?_
  refine lv_iload_n hx hb dL_law_431 rfl (lv_at hl 3 rfl) ?_
  refine lv_iconst (v := 2) hx hb dL_law_432 (by decide) ?_
  refine lv_iadd hx hb dL_law_433 ?_
  refine va_sld hx hb hX hbl hbA hS h2 dL_law_434 ?_
  refine kL_i hS (kL_run M hS hP hcs ok_L_43 (c_X6_ofChild l G (xs (x3 + 1).toNatClampNeg) (xs (x3 + 2).toNatClampNeg) v1 r v2 f2) (rc_6 M hP (i := 0) rfl) rfl hl.1 rfl (Nat.le_of_ble_eq_true rfl) ⟨rfl, rfl⟩ ⟨Nat.le_of_ble_eq_true rfl, Nat.le_of_ble_eq_true rfl⟩ dL_law_435) (fun H locs hP hS => ?_)
  refine lv_icmp_eq (tgt := 1486) hx hb dL_law_438 (by decide) (fun _ => ?_) (fun q => absurd rfl q)
  exact kk v2 H locs hP hR2 hS
set_option maxHeartbeats 4000000 in
theorem lc_7 {p : Program} {l : Launch} {e : Env} {s : State} {m : MethodId} {below : List Frame} {meth : Method} {c : Code} {H : Heap} {locs : List Loc} {G : GG} {v : VV} {Q : State → Prop} {b L cells slots : Nat} {xs : Nat → Int32} {x3 : Int32} {ls : Array Slot} (X : LX G p s m meth c b L xs cells slots) (h1 : vp_in (x3 + 1) L) (h2 : vp_in (x3 + 2) L) (h3 : vp_in (x3 + 3) L) (h4 : vp_in (x3 + 4) L) (h5 : vp_in (x3 + 5) L) (hP : Wd G v H) (hR : Rel v) (hS : va_S (gA G) s.heap H locs) (hl : lv_has ls 4 [(0, .ref b), (1, .ref (ad G 12)), (2, .ref (ad G 0)), (3, .int x3)])
    (kk : ∀ (v2 : VV) (H : Heap) (locs : List Loc), Wd G v2 H → Rel v2 → va_S (gA G) s.heap H locs → W p l e room_1 s m #[Value.ref b] below meth c H locs cells slots Q (F0 m 1486 ls [])) : W p l e room_1 s m #[Value.ref b] below meth c H locs cells slots Q (F0 m 443 ls []) := by
  obtain ⟨M, hX, hbl, hbA, hcs⟩ := X
  have hx := M.1.1
  have hb := M.1.2.1
  obtain ⟨r, v1, v2, f1, f2, hR2⟩ := st_teach hR (xs (x3 + 1).toNatClampNeg) (xs (x3 + 2).toNatClampNeg) (xs (x3 + 3).toNatClampNeg)
  refine lv_aload_n hx hb dL_law_443 rfl (lv_at hl 1 rfl) ?_
  refine lv_aload_n hx hb dL_law_444 rfl (lv_at hl 0 rfl) ?_
  refine lv_iload_n hx hb dL_law_445 rfl (lv_at hl 3 rfl) ?_
  refine lv_iconst (v := 1) hx hb dL_law_446 (by decide) ?_
  refine lv_iadd hx hb dL_law_447 ?_
  refine va_sld hx hb hX hbl hbA hS h1 dL_law_448 ?_
  refine lv_aload_n hx hb dL_law_449 rfl (lv_at hl 0 rfl) ?_
  refine lv_iload_n hx hb dL_law_450 rfl (lv_at hl 3 rfl) ?_
  refine lv_iconst (v := 2) hx hb dL_law_451 (by decide) ?_
  refine lv_iadd hx hb dL_law_452 ?_
  refine va_sld hx hb hX hbl hbA hS h2 dL_law_453 ?_
  refine lv_aload_n hx hb dL_law_454 rfl (lv_at hl 0 rfl) ?_
  refine lv_iload_n hx hb dL_law_455 rfl (lv_at hl 3 rfl) ?_
  refine lv_iconst (v := 3) hx hb dL_law_456 (by decide) ?_
  refine lv_iadd hx hb dL_law_457 ?_
  refine va_sld hx hb hX hbl hbA hS h3 dL_law_458 ?_
  refine kL_i hS (kL_run M hS hP hcs ok_L_44 (c_X5_teach l G (xs (x3 + 1).toNatClampNeg) (xs (x3 + 2).toNatClampNeg) (xs (x3 + 3).toNatClampNeg) v r v1 f1) (rc_5 M hP (i := 12) rfl) rfl hl.1 rfl (Nat.le_of_ble_eq_true rfl) ⟨rfl, rfl⟩ ⟨Nat.le_of_ble_eq_true rfl, Nat.le_of_ble_eq_true rfl⟩ dL_law_459) (fun H locs hP hS => ?_)
  refine lv_aload_n hx hb dL_law_462 rfl (lv_at hl 2 rfl) ?_
  refine lv_aload_n hx hb dL_law_463 rfl (lv_at hl 0 rfl) ?_
  refine lv_iload_n hx hb dL_law_464 rfl (lv_at hl 3 rfl) ?_
  refine lv_iconst (v := 1) hx hb dL_law_465 (by decide) ?_
  refine lv_iadd hx hb dL_law_466 ?_
  refine va_sld hx hb hX hbl hbA hS h1 dL_law_467 ?_
  refine lv_aload_n hx hb dL_law_468 rfl (lv_at hl 0 rfl) ?_
  refine lv_iload_n hx hb dL_law_469 rfl (lv_at hl 3 rfl) ?_
  refine lv_iconst (v := 2) hx hb dL_law_470 (by decide) ?_
  refine lv_iadd hx hb dL_law_471 ?_
  refine va_sld hx hb hX hbl hbA hS h2 dL_law_472 ?_
  refine lv_aload_n hx hb dL_law_473 rfl (lv_at hl 0 rfl) ?_
  refine lv_iload_n hx hb dL_law_474 rfl (lv_at hl 3 rfl) ?_
  refine lv_iconst (v := 3) hx hb dL_law_475 (by decide) ?_
  refine lv_iadd hx hb dL_law_476 ?_
  refine va_sld hx hb hX hbl hbA hS h3 dL_law_477 ?_
  refine kL_i hS (kL_run M hS hP hcs ok_L_47 (c_X6_teach l G (xs (x3 + 1).toNatClampNeg) (xs (x3 + 2).toNatClampNeg) (xs (x3 + 3).toNatClampNeg) v1 r v2 f2) (rc_6 M hP (i := 0) rfl) rfl hl.1 rfl (Nat.le_of_ble_eq_true rfl) ⟨rfl, rfl⟩ ⟨Nat.le_of_ble_eq_true rfl, Nat.le_of_ble_eq_true rfl⟩ dL_law_478) (fun H locs hP hS => ?_)
  refine lv_icmp_eq (tgt := 1486) hx hb dL_law_481 (by decide) (fun _ => ?_) (fun q => absurd rfl q)
  exact kk v2 H locs hP hR2 hS
set_option maxHeartbeats 4000000 in
theorem lc_8 {p : Program} {l : Launch} {e : Env} {s : State} {m : MethodId} {below : List Frame} {meth : Method} {c : Code} {H : Heap} {locs : List Loc} {G : GG} {v : VV} {Q : State → Prop} {b L cells slots : Nat} {xs : Nat → Int32} {x3 : Int32} {ls : Array Slot} (X : LX G p s m meth c b L xs cells slots) (h1 : vp_in (x3 + 1) L) (h2 : vp_in (x3 + 2) L) (h3 : vp_in (x3 + 3) L) (h4 : vp_in (x3 + 4) L) (h5 : vp_in (x3 + 5) L) (hP : Wd G v H) (hR : Rel v) (hS : va_S (gA G) s.heap H locs) (hl : lv_has ls 4 [(0, .ref b), (1, .ref (ad G 12)), (2, .ref (ad G 0)), (3, .int x3)])
    (kk : ∀ (v2 : VV) (H : Heap) (locs : List Loc), Wd G v2 H → Rel v2 → va_S (gA G) s.heap H locs → W p l e room_1 s m #[Value.ref b] below meth c H locs cells slots Q (F0 m 1486 ls [])) : W p l e room_1 s m #[Value.ref b] below meth c H locs cells slots Q (F0 m 486 ls []) := by
  obtain ⟨M, hX, hbl, hbA, hcs⟩ := X
  have hx := M.1.1
  have hb := M.1.2.1
  obtain ⟨r, v1, v2, f1, f2, hR2⟩ := st_hears hR (xs (x3 + 1).toNatClampNeg) (xs (x3 + 2).toNatClampNeg)
  refine lv_aload_n hx hb dL_law_486 rfl (lv_at hl 1 rfl) ?_
  refine lv_aload_n hx hb dL_law_487 rfl (lv_at hl 0 rfl) ?_
  refine lv_iload_n hx hb dL_law_488 rfl (lv_at hl 3 rfl) ?_
  refine lv_iconst (v := 1) hx hb dL_law_489 (by decide) ?_
  refine lv_iadd hx hb dL_law_490 ?_
  refine va_sld hx hb hX hbl hbA hS h1 dL_law_491 ?_
  refine lv_aload_n hx hb dL_law_492 rfl (lv_at hl 0 rfl) ?_
  refine lv_iload_n hx hb dL_law_493 rfl (lv_at hl 3 rfl) ?_
  refine lv_iconst (v := 2) hx hb dL_law_494 (by decide) ?_
  refine lv_iadd hx hb dL_law_495 ?_
  refine va_sld hx hb hX hbl hbA hS h2 dL_law_496 ?_
  refine kL_i hS (kL_run M hS hP hcs ok_L_48 (c_X5_hears l G (xs (x3 + 1).toNatClampNeg) (xs (x3 + 2).toNatClampNeg) v r v1 f1) (rc_5 M hP (i := 12) rfl) rfl hl.1 rfl (Nat.le_of_ble_eq_true rfl) ⟨rfl, rfl⟩ ⟨Nat.le_of_ble_eq_true rfl, Nat.le_of_ble_eq_true rfl⟩ dL_law_497) (fun H locs hP hS => ?_)
  refine lv_aload_n hx hb dL_law_500 rfl (lv_at hl 2 rfl) ?_
  refine lv_aload_n hx hb dL_law_501 rfl (lv_at hl 0 rfl) ?_
  refine lv_iload_n hx hb dL_law_502 rfl (lv_at hl 3 rfl) ?_
  refine lv_iconst (v := 1) hx hb dL_law_503 (by decide) ?_
  refine lv_iadd hx hb dL_law_504 ?_
  refine va_sld hx hb hX hbl hbA hS h1 dL_law_505 ?_
  refine lv_aload_n hx hb dL_law_506 rfl (lv_at hl 0 rfl) ?_
  refine lv_iload_n hx hb dL_law_507 rfl (lv_at hl 3 rfl) ?_
  refine lv_iconst (v := 2) hx hb dL_law_508 (by decide) ?_
  refine lv_iadd hx hb dL_law_509 ?_
  refine va_sld hx hb hX hbl hbA hS h2 dL_law_510 ?_
  refine kL_i hS (kL_run M hS hP hcs ok_L_51 (c_X6_hears l G (xs (x3 + 1).toNatClampNeg) (xs (x3 + 2).toNatClampNeg) v1 r v2 f2) (rc_6 M hP (i := 0) rfl) rfl hl.1 rfl (Nat.le_of_ble_eq_true rfl) ⟨rfl, rfl⟩ ⟨Nat.le_of_ble_eq_true rfl, Nat.le_of_ble_eq_true rfl⟩ dL_law_511) (fun H locs hP hS => ?_)
  refine lv_icmp_eq (tgt := 1486) hx hb dL_law_514 (by decide) (fun _ => ?_) (fun q => absurd rfl q)
  exact kk v2 H locs hP hR2 hS
set_option maxHeartbeats 4000000 in
theorem lc_9 {p : Program} {l : Launch} {e : Env} {s : State} {m : MethodId} {below : List Frame} {meth : Method} {c : Code} {H : Heap} {locs : List Loc} {G : GG} {v : VV} {Q : State → Prop} {b L cells slots : Nat} {xs : Nat → Int32} {x3 : Int32} {ls : Array Slot} (X : LX G p s m meth c b L xs cells slots) (h1 : vp_in (x3 + 1) L) (h2 : vp_in (x3 + 2) L) (h3 : vp_in (x3 + 3) L) (h4 : vp_in (x3 + 4) L) (h5 : vp_in (x3 + 5) L) (hP : Wd G v H) (hR : Rel v) (hS : va_S (gA G) s.heap H locs) (hl : lv_has ls 4 [(0, .ref b), (1, .ref (ad G 12)), (2, .ref (ad G 0)), (3, .int x3)])
    (kk : ∀ (v2 : VV) (H : Heap) (locs : List Loc), Wd G v2 H → Rel v2 → va_S (gA G) s.heap H locs → W p l e room_1 s m #[Value.ref b] below meth c H locs cells slots Q (F0 m 1486 ls [])) : W p l e room_1 s m #[Value.ref b] below meth c H locs cells slots Q (F0 m 519 ls []) := by
  obtain ⟨M, hX, hbl, hbA, hcs⟩ := X
  have hx := M.1.1
  have hb := M.1.2.1
  obtain ⟨r, v1, v2, f1, f2, hR2⟩ := st_go hR (xs (x3 + 1).toNatClampNeg)
  refine lv_aload_n hx hb dL_law_519 rfl (lv_at hl 1 rfl) ?_
  refine lv_aload_n hx hb dL_law_520 rfl (lv_at hl 0 rfl) ?_
  refine lv_iload_n hx hb dL_law_521 rfl (lv_at hl 3 rfl) ?_
  refine lv_iconst (v := 1) hx hb dL_law_522 (by decide) ?_
  refine lv_iadd hx hb dL_law_523 ?_
  refine va_sld hx hb hX hbl hbA hS h1 dL_law_524 ?_
  refine kL_i hS (kL_run M hS hP hcs ok_L_52 (c_X5_go l G (xs (x3 + 1).toNatClampNeg) v r v1 f1) (rc_5 M hP (i := 12) rfl) rfl hl.1 rfl (Nat.le_of_ble_eq_true rfl) ⟨rfl, rfl⟩ ⟨Nat.le_of_ble_eq_true rfl, Nat.le_of_ble_eq_true rfl⟩ dL_law_525) (fun H locs hP hS => ?_)
  refine lv_aload_n hx hb dL_law_528 rfl (lv_at hl 2 rfl) ?_
  refine lv_aload_n hx hb dL_law_529 rfl (lv_at hl 0 rfl) ?_
  refine lv_iload_n hx hb dL_law_530 rfl (lv_at hl 3 rfl) ?_
  refine lv_iconst (v := 1) hx hb dL_law_531 (by decide) ?_
  refine lv_iadd hx hb dL_law_532 ?_
  refine va_sld hx hb hX hbl hbA hS h1 dL_law_533 ?_
  refine kL_i hS (kL_run M hS hP hcs ok_L_55 (c_X6_go l G (xs (x3 + 1).toNatClampNeg) v1 r v2 f2) (rc_6 M hP (i := 0) rfl) rfl hl.1 rfl (Nat.le_of_ble_eq_true rfl) ⟨rfl, rfl⟩ ⟨Nat.le_of_ble_eq_true rfl, Nat.le_of_ble_eq_true rfl⟩ dL_law_534) (fun H locs hP hS => ?_)
  refine lv_icmp_eq (tgt := 1486) hx hb dL_law_537 (by decide) (fun _ => ?_) (fun q => absurd rfl q)
  exact kk v2 H locs hP hR2 hS
set_option maxHeartbeats 4000000 in
theorem lc_10 {p : Program} {l : Launch} {e : Env} {s : State} {m : MethodId} {below : List Frame} {meth : Method} {c : Code} {H : Heap} {locs : List Loc} {G : GG} {v : VV} {Q : State → Prop} {b L cells slots : Nat} {xs : Nat → Int32} {x3 : Int32} {ls : Array Slot} (X : LX G p s m meth c b L xs cells slots) (h1 : vp_in (x3 + 1) L) (h2 : vp_in (x3 + 2) L) (h3 : vp_in (x3 + 3) L) (h4 : vp_in (x3 + 4) L) (h5 : vp_in (x3 + 5) L) (hP : Wd G v H) (hR : Rel v) (hS : va_S (gA G) s.heap H locs) (hl : lv_has ls 4 [(0, .ref b), (1, .ref (ad G 12)), (2, .ref (ad G 0)), (3, .int x3)])
    (kk : ∀ (v2 : VV) (H : Heap) (locs : List Loc), Wd G v2 H → Rel v2 → va_S (gA G) s.heap H locs → W p l e room_1 s m #[Value.ref b] below meth c H locs cells slots Q (F0 m 1486 ls [])) : W p l e room_1 s m #[Value.ref b] below meth c H locs cells slots Q (F0 m 542 ls []) := by
  obtain ⟨M, hX, hbl, hbA, hcs⟩ := X
  have hx := M.1.1
  have hb := M.1.2.1
  obtain ⟨r, v1, v2, f1, f2, hR2⟩ := st_now hR (xs (x3 + 1).toNatClampNeg)
  refine lv_aload_n hx hb dL_law_542 rfl (lv_at hl 1 rfl) ?_
  refine lv_aload_n hx hb dL_law_543 rfl (lv_at hl 0 rfl) ?_
  refine lv_iload_n hx hb dL_law_544 rfl (lv_at hl 3 rfl) ?_
  refine lv_iconst (v := 1) hx hb dL_law_545 (by decide) ?_
  refine lv_iadd hx hb dL_law_546 ?_
  refine va_sld hx hb hX hbl hbA hS h1 dL_law_547 ?_
  refine kL_i hS (kL_run M hS hP hcs ok_L_56 (c_X5_now l G (xs (x3 + 1).toNatClampNeg) v r v1 f1) (rc_5 M hP (i := 12) rfl) rfl hl.1 rfl (Nat.le_of_ble_eq_true rfl) ⟨rfl, rfl⟩ ⟨Nat.le_of_ble_eq_true rfl, Nat.le_of_ble_eq_true rfl⟩ dL_law_548) (fun H locs hP hS => ?_)
  refine lv_aload_n hx hb dL_law_551 rfl (lv_at hl 2 rfl) ?_
  refine lv_aload_n hx hb dL_law_552 rfl (lv_at hl 0 rfl) ?_
  refine lv_iload_n hx hb dL_law_553 rfl (lv_at hl 3 rfl) ?_
  refine lv_iconst (v := 1) hx hb dL_law_554 (by decide) ?_
  refine lv_iadd hx hb dL_law_555 ?_
  refine va_sld hx hb hX hbl hbA hS h1 dL_law_556 ?_
  refine kL_i hS (kL_run M hS hP hcs ok_L_59 (c_X6_now l G (xs (x3 + 1).toNatClampNeg) v1 r v2 f2) (rc_6 M hP (i := 0) rfl) rfl hl.1 rfl (Nat.le_of_ble_eq_true rfl) ⟨rfl, rfl⟩ ⟨Nat.le_of_ble_eq_true rfl, Nat.le_of_ble_eq_true rfl⟩ dL_law_557) (fun H locs hP hS => ?_)
  refine lv_icmp_eq (tgt := 1486) hx hb dL_law_560 (by decide) (fun _ => ?_) (fun q => absurd rfl q)
  exact kk v2 H locs hP hR2 hS
set_option maxHeartbeats 4000000 in
theorem lc_11 {p : Program} {l : Launch} {e : Env} {s : State} {m : MethodId} {below : List Frame} {meth : Method} {c : Code} {H : Heap} {locs : List Loc} {G : GG} {v : VV} {Q : State → Prop} {b L cells slots : Nat} {xs : Nat → Int32} {x3 : Int32} {ls : Array Slot} (X : LX G p s m meth c b L xs cells slots) (h1 : vp_in (x3 + 1) L) (h2 : vp_in (x3 + 2) L) (h3 : vp_in (x3 + 3) L) (h4 : vp_in (x3 + 4) L) (h5 : vp_in (x3 + 5) L) (hP : Wd G v H) (hR : Rel v) (hS : va_S (gA G) s.heap H locs) (hl : lv_has ls 4 [(0, .ref b), (1, .ref (ad G 12)), (2, .ref (ad G 0)), (3, .int x3)])
    (kk : ∀ (v2 : VV) (H : Heap) (locs : List Loc), Wd G v2 H → Rel v2 → va_S (gA G) s.heap H locs → W p l e room_1 s m #[Value.ref b] below meth c H locs cells slots Q (F0 m 1486 ls [])) : W p l e room_1 s m #[Value.ref b] below meth c H locs cells slots Q (F0 m 565 ls []) := by
  obtain ⟨M, hX, hbl, hbA, hcs⟩ := X
  have hx := M.1.1
  have hb := M.1.2.1
  obtain ⟨r, v1, v2, f1, f2, hR2⟩ := st_ahead hR (xs (x3 + 1).toNatClampNeg) (xs (x3 + 2).toNatClampNeg) (xs (x3 + 3).toNatClampNeg)
  refine lv_aload_n hx hb dL_law_565 rfl (lv_at hl 1 rfl) ?_
  refine lv_aload_n hx hb dL_law_566 rfl (lv_at hl 0 rfl) ?_
  refine lv_iload_n hx hb dL_law_567 rfl (lv_at hl 3 rfl) ?_
  refine lv_iconst (v := 1) hx hb dL_law_568 (by decide) ?_
  refine lv_iadd hx hb dL_law_569 ?_
  refine va_sld hx hb hX hbl hbA hS h1 dL_law_570 ?_
  refine lv_aload_n hx hb dL_law_571 rfl (lv_at hl 0 rfl) ?_
  refine lv_iload_n hx hb dL_law_572 rfl (lv_at hl 3 rfl) ?_
  refine lv_iconst (v := 2) hx hb dL_law_573 (by decide) ?_
  refine lv_iadd hx hb dL_law_574 ?_
  refine va_sld hx hb hX hbl hbA hS h2 dL_law_575 ?_
  refine lv_aload_n hx hb dL_law_576 rfl (lv_at hl 0 rfl) ?_
  refine lv_iload_n hx hb dL_law_577 rfl (lv_at hl 3 rfl) ?_
  refine lv_iconst (v := 3) hx hb dL_law_578 (by decide) ?_
  refine lv_iadd hx hb dL_law_579 ?_
  refine va_sld hx hb hX hbl hbA hS h3 dL_law_580 ?_
  refine kL_i hS (kL_run M hS hP hcs ok_L_60 (c_X5_ahead l G (xs (x3 + 1).toNatClampNeg) (xs (x3 + 2).toNatClampNeg) (xs (x3 + 3).toNatClampNeg) v r v1 f1) (rc_5 M hP (i := 12) rfl) rfl hl.1 rfl (Nat.le_of_ble_eq_true rfl) ⟨rfl, rfl⟩ ⟨Nat.le_of_ble_eq_true rfl, Nat.le_of_ble_eq_true rfl⟩ dL_law_581) (fun H locs hP hS => ?_)
  refine lv_aload_n hx hb dL_law_584 rfl (lv_at hl 2 rfl) ?_
  refine lv_aload_n hx hb dL_law_585 rfl (lv_at hl 0 rfl) ?_
  refine lv_iload_n hx hb dL_law_586 rfl (lv_at hl 3 rfl) ?_
  refine lv_iconst (v := 1) hx hb dL_law_587 (by decide) ?_
  refine lv_iadd hx hb dL_law_588 ?_
  refine va_sld hx hb hX hbl hbA hS h1 dL_law_589 ?_
  refine lv_aload_n hx hb dL_law_590 rfl (lv_at hl 0 rfl) ?_
  refine lv_iload_n hx hb dL_law_591 rfl (lv_at hl 3 rfl) ?_
  refine lv_iconst (v := 2) hx hb dL_law_592 (by decide) ?_
  refine lv_iadd hx hb dL_law_593 ?_
  refine va_sld hx hb hX hbl hbA hS h2 dL_law_594 ?_
  refine lv_aload_n hx hb dL_law_595 rfl (lv_at hl 0 rfl) ?_
  refine lv_iload_n hx hb dL_law_596 rfl (lv_at hl 3 rfl) ?_
  refine lv_iconst (v := 3) hx hb dL_law_597 (by decide) ?_
  refine lv_iadd hx hb dL_law_598 ?_
  refine va_sld hx hb hX hbl hbA hS h3 dL_law_599 ?_
  refine kL_i hS (kL_run M hS hP hcs ok_L_63 (c_X6_ahead l G (xs (x3 + 1).toNatClampNeg) (xs (x3 + 2).toNatClampNeg) (xs (x3 + 3).toNatClampNeg) v1 r v2 f2) (rc_6 M hP (i := 0) rfl) rfl hl.1 rfl (Nat.le_of_ble_eq_true rfl) ⟨rfl, rfl⟩ ⟨Nat.le_of_ble_eq_true rfl, Nat.le_of_ble_eq_true rfl⟩ dL_law_600) (fun H locs hP hS => ?_)
  refine lv_icmp_eq (tgt := 1486) hx hb dL_law_603 (by decide) (fun _ => ?_) (fun q => absurd rfl q)
  exact kk v2 H locs hP hR2 hS
set_option maxHeartbeats 4000000 in
theorem lc_12 {p : Program} {l : Launch} {e : Env} {s : State} {m : MethodId} {below : List Frame} {meth : Method} {c : Code} {H : Heap} {locs : List Loc} {G : GG} {v : VV} {Q : State → Prop} {b L cells slots : Nat} {xs : Nat → Int32} {x3 : Int32} {ls : Array Slot} (X : LX G p s m meth c b L xs cells slots) (h1 : vp_in (x3 + 1) L) (h2 : vp_in (x3 + 2) L) (h3 : vp_in (x3 + 3) L) (h4 : vp_in (x3 + 4) L) (h5 : vp_in (x3 + 5) L) (hP : Wd G v H) (hR : Rel v) (hS : va_S (gA G) s.heap H locs) (hl : lv_has ls 4 [(0, .ref b), (1, .ref (ad G 12)), (2, .ref (ad G 0)), (3, .int x3)])
    (kk : ∀ (v2 : VV) (H : Heap) (locs : List Loc), Wd G v2 H → Rel v2 → va_S (gA G) s.heap H locs → W p l e room_1 s m #[Value.ref b] below meth c H locs cells slots Q (F0 m 1486 ls [])) : W p l e room_1 s m #[Value.ref b] below meth c H locs cells slots Q (F0 m 608 ls []) := by
  obtain ⟨M, hX, hbl, hbA, hcs⟩ := X
  have hx := M.1.1
  have hb := M.1.2.1
  obtain ⟨r, v1, v2, f1, f2, hR2⟩ := st_later hR (xs (x3 + 1).toNatClampNeg) (xs (x3 + 2).toNatClampNeg) (xs (x3 + 3).toNatClampNeg)
  refine lv_aload_n hx hb dL_law_608 rfl (lv_at hl 1 rfl) ?_
  refine lv_aload_n hx hb dL_law_609 rfl (lv_at hl 0 rfl) ?_
  refine lv_iload_n hx hb dL_law_610 rfl (lv_at hl 3 rfl) ?_
  refine lv_iconst (v := 1) hx hb dL_law_611 (by decide) ?_
  refine lv_iadd hx hb dL_law_612 ?_
  refine va_sld hx hb hX hbl hbA hS h1 dL_law_613 ?_
  refine lv_aload_n hx hb dL_law_614 rfl (lv_at hl 0 rfl) ?_
  refine lv_iload_n hx hb dL_law_615 rfl (lv_at hl 3 rfl) ?_
  refine lv_iconst (v := 2) hx hb dL_law_616 (by decide) ?_
  refine lv_iadd hx hb dL_law_617 ?_
  refine va_sld hx hb hX hbl hbA hS h2 dL_law_618 ?_
  refine lv_aload_n hx hb dL_law_619 rfl (lv_at hl 0 rfl) ?_
  refine lv_iload_n hx hb dL_law_620 rfl (lv_at hl 3 rfl) ?_
  refine lv_iconst (v := 3) hx hb dL_law_621 (by decide) ?_
  refine lv_iadd hx hb dL_law_622 ?_
  refine va_sld hx hb hX hbl hbA hS h3 dL_law_623 ?_
  refine kL_i hS (kL_run M hS hP hcs ok_L_64 (c_X5_later l G (xs (x3 + 1).toNatClampNeg) (xs (x3 + 2).toNatClampNeg) (xs (x3 + 3).toNatClampNeg) v r v1 f1) (rc_5 M hP (i := 12) rfl) rfl hl.1 rfl (Nat.le_of_ble_eq_true rfl) ⟨rfl, rfl⟩ ⟨Nat.le_of_ble_eq_true rfl, Nat.le_of_ble_eq_true rfl⟩ dL_law_624) (fun H locs hP hS => ?_)
  refine lv_aload_n hx hb dL_law_627 rfl (lv_at hl 2 rfl) ?_
  refine lv_aload_n hx hb dL_law_628 rfl (lv_at hl 0 rfl) ?_
  refine lv_iload_n hx hb dL_law_629 rfl (lv_at hl 3 rfl) ?_
  refine lv_iconst (v := 1) hx hb dL_law_630 (by decide) ?_
  refine lv_iadd hx hb dL_law_631 ?_
  refine va_sld hx hb hX hbl hbA hS h1 dL_law_632 ?_
  refine lv_aload_n hx hb dL_law_633 rfl (lv_at hl 0 rfl) ?_
  refine lv_iload_n hx hb dL_law_634 rfl (lv_at hl 3 rfl) ?_
  refine lv_iconst (v := 2) hx hb dL_law_635 (by decide) ?_
  refine lv_iadd hx hb dL_law_636 ?_
  refine va_sld hx hb hX hbl hbA hS h2 dL_law_637 ?_
  refine lv_aload_n hx hb dL_law_638 rfl (lv_at hl 0 rfl) ?_
  refine lv_iload_n hx hb dL_law_639 rfl (lv_at hl 3 rfl) ?_
  refine lv_iconst (v := 3) hx hb dL_law_640 (by decide) ?_
  refine lv_iadd hx hb dL_law_641 ?_
  refine va_sld hx hb hX hbl hbA hS h3 dL_law_642 ?_
  refine kL_i hS (kL_run M hS hP hcs ok_L_67 (c_X6_later l G (xs (x3 + 1).toNatClampNeg) (xs (x3 + 2).toNatClampNeg) (xs (x3 + 3).toNatClampNeg) v1 r v2 f2) (rc_6 M hP (i := 0) rfl) rfl hl.1 rfl (Nat.le_of_ble_eq_true rfl) ⟨rfl, rfl⟩ ⟨Nat.le_of_ble_eq_true rfl, Nat.le_of_ble_eq_true rfl⟩ dL_law_643) (fun H locs hP hS => ?_)
  refine lv_icmp_eq (tgt := 1486) hx hb dL_law_646 (by decide) (fun _ => ?_) (fun q => absurd rfl q)
  exact kk v2 H locs hP hR2 hS
set_option maxHeartbeats 4000000 in
theorem lc_13 {p : Program} {l : Launch} {e : Env} {s : State} {m : MethodId} {below : List Frame} {meth : Method} {c : Code} {H : Heap} {locs : List Loc} {G : GG} {v : VV} {Q : State → Prop} {b L cells slots : Nat} {xs : Nat → Int32} {x3 : Int32} {ls : Array Slot} (X : LX G p s m meth c b L xs cells slots) (h1 : vp_in (x3 + 1) L) (h2 : vp_in (x3 + 2) L) (h3 : vp_in (x3 + 3) L) (h4 : vp_in (x3 + 4) L) (h5 : vp_in (x3 + 5) L) (hP : Wd G v H) (hR : Rel v) (hS : va_S (gA G) s.heap H locs) (hl : lv_has ls 4 [(0, .ref b), (1, .ref (ad G 12)), (2, .ref (ad G 0)), (3, .int x3)])
    (kk : ∀ (v2 : VV) (H : Heap) (locs : List Loc), Wd G v2 H → Rel v2 → va_S (gA G) s.heap H locs → W p l e room_1 s m #[Value.ref b] below meth c H locs cells slots Q (F0 m 1486 ls [])) : W p l e room_1 s m #[Value.ref b] below meth c H locs cells slots Q (F0 m 651 ls []) := by
  obtain ⟨M, hX, hbl, hbA, hcs⟩ := X
  have hx := M.1.1
  have hb := M.1.2.1
  obtain ⟨r, v1, v2, f1, f2, hR2⟩ := st_learns hR (xs (x3 + 1).toNatClampNeg) (xs (x3 + 2).toNatClampNeg)
  refine lv_aload_n hx hb dL_law_651 rfl (lv_at hl 1 rfl) ?_
  refine lv_aload_n hx hb dL_law_652 rfl (lv_at hl 0 rfl) ?_
  refine lv_iload_n hx hb dL_law_653 rfl (lv_at hl 3 rfl) ?_
  refine lv_iconst (v := 1) hx hb dL_law_654 (by decide) ?_
  refine lv_iadd hx hb dL_law_655 ?_
  refine va_sld hx hb hX hbl hbA hS h1 dL_law_656 ?_
  refine lv_aload_n hx hb dL_law_657 rfl (lv_at hl 0 rfl) ?_
  refine lv_iload_n hx hb dL_law_658 rfl (lv_at hl 3 rfl) ?_
  refine lv_iconst (v := 2) hx hb dL_law_659 (by decide) ?_
  refine lv_iadd hx hb dL_law_660 ?_
  refine va_sld hx hb hX hbl hbA hS h2 dL_law_661 ?_
  refine kL_i hS (kL_run M hS hP hcs ok_L_68 (c_X5_learns l G (xs (x3 + 1).toNatClampNeg) (xs (x3 + 2).toNatClampNeg) v r v1 f1) (rc_5 M hP (i := 12) rfl) rfl hl.1 rfl (Nat.le_of_ble_eq_true rfl) ⟨rfl, rfl⟩ ⟨Nat.le_of_ble_eq_true rfl, Nat.le_of_ble_eq_true rfl⟩ dL_law_662) (fun H locs hP hS => ?_)
  refine lv_aload_n hx hb dL_law_665 rfl (lv_at hl 2 rfl) ?_
  refine lv_aload_n hx hb dL_law_666 rfl (lv_at hl 0 rfl) ?_
  refine lv_iload_n hx hb dL_law_667 rfl (lv_at hl 3 rfl) ?_
  refine lv_iconst (v := 1) hx hb dL_law_668 (by decide) ?_
  refine lv_iadd hx hb dL_law_669 ?_
  refine va_sld hx hb hX hbl hbA hS h1 dL_law_670 ?_
  refine lv_aload_n hx hb dL_law_671 rfl (lv_at hl 0 rfl) ?_
  refine lv_iload_n hx hb dL_law_672 rfl (lv_at hl 3 rfl) ?_
  refine lv_iconst (v := 2) hx hb dL_law_673 (by decide) ?_
  refine lv_iadd hx hb dL_law_674 ?_
  refine va_sld hx hb hX hbl hbA hS h2 dL_law_675 ?_
  refine kL_i hS (kL_run M hS hP hcs ok_L_71 (c_X6_learns l G (xs (x3 + 1).toNatClampNeg) (xs (x3 + 2).toNatClampNeg) v1 r v2 f2) (rc_6 M hP (i := 0) rfl) rfl hl.1 rfl (Nat.le_of_ble_eq_true rfl) ⟨rfl, rfl⟩ ⟨Nat.le_of_ble_eq_true rfl, Nat.le_of_ble_eq_true rfl⟩ dL_law_676) (fun H locs hP hS => ?_)
  refine lv_icmp_eq (tgt := 1486) hx hb dL_law_679 (by decide) (fun _ => ?_) (fun q => absurd rfl q)
  exact kk v2 H locs hP hR2 hS
set_option maxHeartbeats 4000000 in
theorem lc_14 {p : Program} {l : Launch} {e : Env} {s : State} {m : MethodId} {below : List Frame} {meth : Method} {c : Code} {H : Heap} {locs : List Loc} {G : GG} {v : VV} {Q : State → Prop} {b L cells slots : Nat} {xs : Nat → Int32} {x3 : Int32} {ls : Array Slot} (X : LX G p s m meth c b L xs cells slots) (h1 : vp_in (x3 + 1) L) (h2 : vp_in (x3 + 2) L) (h3 : vp_in (x3 + 3) L) (h4 : vp_in (x3 + 4) L) (h5 : vp_in (x3 + 5) L) (hP : Wd G v H) (hR : Rel v) (hS : va_S (gA G) s.heap H locs) (hl : lv_has ls 4 [(0, .ref b), (1, .ref (ad G 12)), (2, .ref (ad G 0)), (3, .int x3)])
    (kk : ∀ (v2 : VV) (H : Heap) (locs : List Loc), Wd G v2 H → Rel v2 → va_S (gA G) s.heap H locs → W p l e room_1 s m #[Value.ref b] below meth c H locs cells slots Q (F0 m 1486 ls [])) : W p l e room_1 s m #[Value.ref b] below meth c H locs cells slots Q (F0 m 684 ls []) := by
  obtain ⟨M, hX, hbl, hbA, hcs⟩ := X
  have hx := M.1.1
  have hb := M.1.2.1
  obtain ⟨r, v1, v2, f1, f2, hR2⟩ := st_taught hR (xs (x3 + 1).toNatClampNeg)
  refine lv_aload_n hx hb dL_law_684 rfl (lv_at hl 1 rfl) ?_
  refine lv_aload_n hx hb dL_law_685 rfl (lv_at hl 0 rfl) ?_
  refine lv_iload_n hx hb dL_law_686 rfl (lv_at hl 3 rfl) ?_
  refine lv_iconst (v := 1) hx hb dL_law_687 (by decide) ?_
  refine lv_iadd hx hb dL_law_688 ?_
  refine va_sld hx hb hX hbl hbA hS h1 dL_law_689 ?_
  refine kL_i hS (kL_run M hS hP hcs ok_L_72 (c_X5_taught l G (xs (x3 + 1).toNatClampNeg) v r v1 f1) (rc_5 M hP (i := 12) rfl) rfl hl.1 rfl (Nat.le_of_ble_eq_true rfl) ⟨rfl, rfl⟩ ⟨Nat.le_of_ble_eq_true rfl, Nat.le_of_ble_eq_true rfl⟩ dL_law_690) (fun H locs hP hS => ?_)
  refine lv_aload_n hx hb dL_law_693 rfl (lv_at hl 2 rfl) ?_
  refine lv_aload_n hx hb dL_law_694 rfl (lv_at hl 0 rfl) ?_
  refine lv_iload_n hx hb dL_law_695 rfl (lv_at hl 3 rfl) ?_
  refine lv_iconst (v := 1) hx hb dL_law_696 (by decide) ?_
  refine lv_iadd hx hb dL_law_697 ?_
  refine va_sld hx hb hX hbl hbA hS h1 dL_law_698 ?_
  refine kL_i hS (kL_run M hS hP hcs ok_L_75 (c_X6_taught l G (xs (x3 + 1).toNatClampNeg) v1 r v2 f2) (rc_6 M hP (i := 0) rfl) rfl hl.1 rfl (Nat.le_of_ble_eq_true rfl) ⟨rfl, rfl⟩ ⟨Nat.le_of_ble_eq_true rfl, Nat.le_of_ble_eq_true rfl⟩ dL_law_699) (fun H locs hP hS => ?_)
  refine lv_icmp_eq (tgt := 1486) hx hb dL_law_702 (by decide) (fun _ => ?_) (fun q => absurd rfl q)
  exact kk v2 H locs hP hR2 hS
set_option maxHeartbeats 4000000 in
theorem lc_15 {p : Program} {l : Launch} {e : Env} {s : State} {m : MethodId} {below : List Frame} {meth : Method} {c : Code} {H : Heap} {locs : List Loc} {G : GG} {v : VV} {Q : State → Prop} {b L cells slots : Nat} {xs : Nat → Int32} {x3 : Int32} {ls : Array Slot} (X : LX G p s m meth c b L xs cells slots) (h1 : vp_in (x3 + 1) L) (h2 : vp_in (x3 + 2) L) (h3 : vp_in (x3 + 3) L) (h4 : vp_in (x3 + 4) L) (h5 : vp_in (x3 + 5) L) (hP : Wd G v H) (hR : Rel v) (hS : va_S (gA G) s.heap H locs) (hl : lv_has ls 4 [(0, .ref b), (1, .ref (ad G 12)), (2, .ref (ad G 0)), (3, .int x3)])
    (kk : ∀ (v2 : VV) (H : Heap) (locs : List Loc), Wd G v2 H → Rel v2 → va_S (gA G) s.heap H locs → W p l e room_1 s m #[Value.ref b] below meth c H locs cells slots Q (F0 m 1486 ls [])) : W p l e room_1 s m #[Value.ref b] below meth c H locs cells slots Q (F0 m 707 ls []) := by
  obtain ⟨M, hX, hbl, hbA, hcs⟩ := X
  have hx := M.1.1
  have hb := M.1.2.1
  obtain ⟨r, v1, v2, f1, f2, hR2⟩ := st_weary hR (xs (x3 + 1).toNatClampNeg) (xs (x3 + 2).toNatClampNeg)
  refine lv_aload_n hx hb dL_law_707 rfl (lv_at hl 1 rfl) ?_
  refine lv_aload_n hx hb dL_law_708 rfl (lv_at hl 0 rfl) ?_
  refine lv_iload_n hx hb dL_law_709 rfl (lv_at hl 3 rfl) ?_
  refine lv_iconst (v := 1) hx hb dL_law_710 (by decide) ?_
  refine lv_iadd hx hb dL_law_711 ?_
  refine va_sld hx hb hX hbl hbA hS h1 dL_law_712 ?_
  refine lv_aload_n hx hb dL_law_713 rfl (lv_at hl 0 rfl) ?_
  refine lv_iload_n hx hb dL_law_714 rfl (lv_at hl 3 rfl) ?_
  refine lv_iconst (v := 2) hx hb dL_law_715 (by decide) ?_
  refine lv_iadd hx hb dL_law_716 ?_
  refine va_sld hx hb hX hbl hbA hS h2 dL_law_717 ?_
  refine kL_i hS (kL_run M hS hP hcs ok_L_76 (c_X5_weary l G (xs (x3 + 1).toNatClampNeg) (xs (x3 + 2).toNatClampNeg) v r v1 f1) (rc_5 M hP (i := 12) rfl) rfl hl.1 rfl (Nat.le_of_ble_eq_true rfl) ⟨rfl, rfl⟩ ⟨Nat.le_of_ble_eq_true rfl, Nat.le_of_ble_eq_true rfl⟩ dL_law_718) (fun H locs hP hS => ?_)
  refine lv_aload_n hx hb dL_law_721 rfl (lv_at hl 2 rfl) ?_
  refine lv_aload_n hx hb dL_law_722 rfl (lv_at hl 0 rfl) ?_
  refine lv_iload_n hx hb dL_law_723 rfl (lv_at hl 3 rfl) ?_
  refine lv_iconst (v := 1) hx hb dL_law_724 (by decide) ?_
  refine lv_iadd hx hb dL_law_725 ?_
  refine va_sld hx hb hX hbl hbA hS h1 dL_law_726 ?_
  refine lv_aload_n hx hb dL_law_727 rfl (lv_at hl 0 rfl) ?_
  refine lv_iload_n hx hb dL_law_728 rfl (lv_at hl 3 rfl) ?_
  refine lv_iconst (v := 2) hx hb dL_law_729 (by decide) ?_
  refine lv_iadd hx hb dL_law_730 ?_
  refine va_sld hx hb hX hbl hbA hS h2 dL_law_731 ?_
  refine kL_i hS (kL_run M hS hP hcs ok_L_79 (c_X6_weary l G (xs (x3 + 1).toNatClampNeg) (xs (x3 + 2).toNatClampNeg) v1 r v2 f2) (rc_6 M hP (i := 0) rfl) rfl hl.1 rfl (Nat.le_of_ble_eq_true rfl) ⟨rfl, rfl⟩ ⟨Nat.le_of_ble_eq_true rfl, Nat.le_of_ble_eq_true rfl⟩ dL_law_732) (fun H locs hP hS => ?_)
  refine lv_icmp_eq (tgt := 1486) hx hb dL_law_735 (by decide) (fun _ => ?_) (fun q => absurd rfl q)
  exact kk v2 H locs hP hR2 hS
set_option maxHeartbeats 4000000 in
theorem lc_16 {p : Program} {l : Launch} {e : Env} {s : State} {m : MethodId} {below : List Frame} {meth : Method} {c : Code} {H : Heap} {locs : List Loc} {G : GG} {v : VV} {Q : State → Prop} {b L cells slots : Nat} {xs : Nat → Int32} {x3 : Int32} {ls : Array Slot} (X : LX G p s m meth c b L xs cells slots) (h1 : vp_in (x3 + 1) L) (h2 : vp_in (x3 + 2) L) (h3 : vp_in (x3 + 3) L) (h4 : vp_in (x3 + 4) L) (h5 : vp_in (x3 + 5) L) (hP : Wd G v H) (hR : Rel v) (hS : va_S (gA G) s.heap H locs) (hl : lv_has ls 4 [(0, .ref b), (1, .ref (ad G 12)), (2, .ref (ad G 0)), (3, .int x3)])
    (kk : ∀ (v2 : VV) (H : Heap) (locs : List Loc), Wd G v2 H → Rel v2 → va_S (gA G) s.heap H locs → W p l e room_1 s m #[Value.ref b] below meth c H locs cells slots Q (F0 m 1486 ls [])) : W p l e room_1 s m #[Value.ref b] below meth c H locs cells slots Q (F0 m 740 ls []) := by
  obtain ⟨M, hX, hbl, hbA, hcs⟩ := X
  have hx := M.1.1
  have hb := M.1.2.1
  obtain ⟨r, v1, v2, f1, f2, hR2⟩ := st_seatFor hR (xs (x3 + 1).toNatClampNeg) (xs (x3 + 2).toNatClampNeg)
  refine lv_aload_n hx hb dL_law_740 rfl (lv_at hl 1 rfl) ?_
  refine lv_aload_n hx hb dL_law_741 rfl (lv_at hl 0 rfl) ?_
  refine lv_iload_n hx hb dL_law_742 rfl (lv_at hl 3 rfl) ?_
  refine lv_iconst (v := 1) hx hb dL_law_743 (by decide) ?_
  refine lv_iadd hx hb dL_law_744 ?_
  refine va_sld hx hb hX hbl hbA hS h1 dL_law_745 ?_
  refine lv_aload_n hx hb dL_law_746 rfl (lv_at hl 0 rfl) ?_
  refine lv_iload_n hx hb dL_law_747 rfl (lv_at hl 3 rfl) ?_
  refine lv_iconst (v := 2) hx hb dL_law_748 (by decide) ?_
  refine lv_iadd hx hb dL_law_749 ?_
  refine va_sld hx hb hX hbl hbA hS h2 dL_law_750 ?_
  refine kL_i hS (kL_run M hS hP hcs ok_L_80 (c_X5_seatFor l G (xs (x3 + 1).toNatClampNeg) (xs (x3 + 2).toNatClampNeg) v r v1 f1) (rc_5 M hP (i := 12) rfl) rfl hl.1 rfl (Nat.le_of_ble_eq_true rfl) ⟨rfl, rfl⟩ ⟨Nat.le_of_ble_eq_true rfl, Nat.le_of_ble_eq_true rfl⟩ dL_law_751) (fun H locs hP hS => ?_)
  refine lv_aload_n hx hb dL_law_754 rfl (lv_at hl 2 rfl) ?_
  refine lv_aload_n hx hb dL_law_755 rfl (lv_at hl 0 rfl) ?_
  refine lv_iload_n hx hb dL_law_756 rfl (lv_at hl 3 rfl) ?_
  refine lv_iconst (v := 1) hx hb dL_law_757 (by decide) ?_
  refine lv_iadd hx hb dL_law_758 ?_
  refine va_sld hx hb hX hbl hbA hS h1 dL_law_759 ?_
  refine lv_aload_n hx hb dL_law_760 rfl (lv_at hl 0 rfl) ?_
  refine lv_iload_n hx hb dL_law_761 rfl (lv_at hl 3 rfl) ?_
  refine lv_iconst (v := 2) hx hb dL_law_762 (by decide) ?_
  refine lv_iadd hx hb dL_law_763 ?_
  refine va_sld hx hb hX hbl hbA hS h2 dL_law_764 ?_
  refine kL_i hS (kL_run M hS hP hcs ok_L_83 (c_X6_seatFor l G (xs (x3 + 1).toNatClampNeg) (xs (x3 + 2).toNatClampNeg) v1 r v2 f2) (rc_6 M hP (i := 0) rfl) rfl hl.1 rfl (Nat.le_of_ble_eq_true rfl) ⟨rfl, rfl⟩ ⟨Nat.le_of_ble_eq_true rfl, Nat.le_of_ble_eq_true rfl⟩ dL_law_765) (fun H locs hP hS => ?_)
  refine lv_icmp_eq (tgt := 1486) hx hb dL_law_768 (by decide) (fun _ => ?_) (fun q => absurd rfl q)
  exact kk v2 H locs hP hR2 hS
set_option maxHeartbeats 4000000 in
theorem lc_17 {p : Program} {l : Launch} {e : Env} {s : State} {m : MethodId} {below : List Frame} {meth : Method} {c : Code} {H : Heap} {locs : List Loc} {G : GG} {v : VV} {Q : State → Prop} {b L cells slots : Nat} {xs : Nat → Int32} {x3 : Int32} {ls : Array Slot} (X : LX G p s m meth c b L xs cells slots) (h1 : vp_in (x3 + 1) L) (h2 : vp_in (x3 + 2) L) (h3 : vp_in (x3 + 3) L) (h4 : vp_in (x3 + 4) L) (h5 : vp_in (x3 + 5) L) (hP : Wd G v H) (hR : Rel v) (hS : va_S (gA G) s.heap H locs) (hl : lv_has ls 4 [(0, .ref b), (1, .ref (ad G 12)), (2, .ref (ad G 0)), (3, .int x3)])
    (kk : ∀ (v2 : VV) (H : Heap) (locs : List Loc), Wd G v2 H → Rel v2 → va_S (gA G) s.heap H locs → W p l e room_1 s m #[Value.ref b] below meth c H locs cells slots Q (F0 m 1486 ls [])) : W p l e room_1 s m #[Value.ref b] below meth c H locs cells slots Q (F0 m 773 ls []) := by
  obtain ⟨M, hX, hbl, hbA, hcs⟩ := X
  have hx := M.1.1
  have hb := M.1.2.1
  obtain ⟨r, v1, v2, f1, f2, hR2⟩ := st_quickFor hR (xs (x3 + 1).toNatClampNeg) (xs (x3 + 2).toNatClampNeg) (xs (x3 + 3).toNatClampNeg)
  refine lv_aload_n hx hb dL_law_773 rfl (lv_at hl 1 rfl) ?_
  refine lv_aload_n hx hb dL_law_774 rfl (lv_at hl 0 rfl) ?_
  refine lv_iload_n hx hb dL_law_775 rfl (lv_at hl 3 rfl) ?_
  refine lv_iconst (v := 1) hx hb dL_law_776 (by decide) ?_
  refine lv_iadd hx hb dL_law_777 ?_
  refine va_sld hx hb hX hbl hbA hS h1 dL_law_778 ?_
  refine lv_aload_n hx hb dL_law_779 rfl (lv_at hl 0 rfl) ?_
  refine lv_iload_n hx hb dL_law_780 rfl (lv_at hl 3 rfl) ?_
  refine lv_iconst (v := 2) hx hb dL_law_781 (by decide) ?_
  refine lv_iadd hx hb dL_law_782 ?_
  refine va_sld hx hb hX hbl hbA hS h2 dL_law_783 ?_
  refine lv_aload_n hx hb dL_law_784 rfl (lv_at hl 0 rfl) ?_
  refine lv_iload_n hx hb dL_law_785 rfl (lv_at hl 3 rfl) ?_
  refine lv_iconst (v := 3) hx hb dL_law_786 (by decide) ?_
  refine lv_iadd hx hb dL_law_787 ?_
  refine va_sld hx hb hX hbl hbA hS h3 dL_law_788 ?_
  refine kL_i hS (kL_run M hS hP hcs ok_L_84 (c_X5_quickFor l G (xs (x3 + 1).toNatClampNeg) (xs (x3 + 2).toNatClampNeg) (xs (x3 + 3).toNatClampNeg) v r v1 f1) (rc_5 M hP (i := 12) rfl) rfl hl.1 rfl (Nat.le_of_ble_eq_true rfl) ⟨rfl, rfl⟩ ⟨Nat.le_of_ble_eq_true rfl, Nat.le_of_ble_eq_true rfl⟩ dL_law_789) (fun H locs hP hS => ?_)
  refine lv_aload_n hx hb dL_law_792 rfl (lv_at hl 2 rfl) ?_
  refine lv_aload_n hx hb dL_law_793 rfl (lv_at hl 0 rfl) ?_
  refine lv_iload_n hx hb dL_law_794 rfl (lv_at hl 3 rfl) ?_
  refine lv_iconst (v := 1) hx hb dL_law_795 (by decide) ?_
  refine lv_iadd hx hb dL_law_796 ?_
  refine va_sld hx hb hX hbl hbA hS h1 dL_law_797 ?_
  refine lv_aload_n hx hb dL_law_798 rfl (lv_at hl 0 rfl) ?_
  refine lv_iload_n hx hb dL_law_799 rfl (lv_at hl 3 rfl) ?_
  refine lv_iconst (v := 2) hx hb dL_law_800 (by decide) ?_
  refine lv_iadd hx hb dL_law_801 ?_
  refine va_sld hx hb hX hbl hbA hS h2 dL_law_802 ?_
  refine lv_aload_n hx hb dL_law_803 rfl (lv_at hl 0 rfl) ?_
  refine lv_iload_n hx hb dL_law_804 rfl (lv_at hl 3 rfl) ?_
  refine lv_iconst (v := 3) hx hb dL_law_805 (by decide) ?_
  refine lv_iadd hx hb dL_law_806 ?_
  refine va_sld hx hb hX hbl hbA hS h3 dL_law_807 ?_
  refine kL_i hS (kL_run M hS hP hcs ok_L_87 (c_X6_quickFor l G (xs (x3 + 1).toNatClampNeg) (xs (x3 + 2).toNatClampNeg) (xs (x3 + 3).toNatClampNeg) v1 r v2 f2) (rc_6 M hP (i := 0) rfl) rfl hl.1 rfl (Nat.le_of_ble_eq_true rfl) ⟨rfl, rfl⟩ ⟨Nat.le_of_ble_eq_true rfl, Nat.le_of_ble_eq_true rfl⟩ dL_law_808) (fun H locs hP hS => ?_)
  refine lv_icmp_eq (tgt := 1486) hx hb dL_law_811 (by decide) (fun _ => ?_) (fun q => absurd rfl q)
  exact kk v2 H locs hP hR2 hS
set_option maxHeartbeats 4000000 in
theorem lc_18 {p : Program} {l : Launch} {e : Env} {s : State} {m : MethodId} {below : List Frame} {meth : Method} {c : Code} {H : Heap} {locs : List Loc} {G : GG} {v : VV} {Q : State → Prop} {b L cells slots : Nat} {xs : Nat → Int32} {x3 : Int32} {ls : Array Slot} (X : LX G p s m meth c b L xs cells slots) (h1 : vp_in (x3 + 1) L) (h2 : vp_in (x3 + 2) L) (h3 : vp_in (x3 + 3) L) (h4 : vp_in (x3 + 4) L) (h5 : vp_in (x3 + 5) L) (hP : Wd G v H) (hR : Rel v) (hS : va_S (gA G) s.heap H locs) (hl : lv_has ls 4 [(0, .ref b), (1, .ref (ad G 12)), (2, .ref (ad G 0)), (3, .int x3)])
    (kk : ∀ (v2 : VV) (H : Heap) (locs : List Loc), Wd G v2 H → Rel v2 → va_S (gA G) s.heap H locs → W p l e room_1 s m #[Value.ref b] below meth c H locs cells slots Q (F0 m 1486 ls [])) : W p l e room_1 s m #[Value.ref b] below meth c H locs cells slots Q (F0 m 816 ls []) := by
  obtain ⟨M, hX, hbl, hbA, hcs⟩ := X
  have hx := M.1.1
  have hb := M.1.2.1
  obtain ⟨r, v1, v2, f1, f2, hR2⟩ := st_kindFor hR (xs (x3 + 1).toNatClampNeg) (xs (x3 + 2).toNatClampNeg)
  refine lv_aload_n hx hb dL_law_816 rfl (lv_at hl 1 rfl) ?_
  refine lv_aload_n hx hb dL_law_817 rfl (lv_at hl 0 rfl) ?_
  refine lv_iload_n hx hb dL_law_818 rfl (lv_at hl 3 rfl) ?_
  refine lv_iconst (v := 1) hx hb dL_law_819 (by decide) ?_
  refine lv_iadd hx hb dL_law_820 ?_
  refine va_sld hx hb hX hbl hbA hS h1 dL_law_821 ?_
  refine lv_aload_n hx hb dL_law_822 rfl (lv_at hl 0 rfl) ?_
  refine lv_iload_n hx hb dL_law_823 rfl (lv_at hl 3 rfl) ?_
  refine lv_iconst (v := 2) hx hb dL_law_824 (by decide) ?_
  refine lv_iadd hx hb dL_law_825 ?_
  refine va_sld hx hb hX hbl hbA hS h2 dL_law_826 ?_
  refine kL_i hS (kL_run M hS hP hcs ok_L_88 (c_X5_kindFor l G (xs (x3 + 1).toNatClampNeg) (xs (x3 + 2).toNatClampNeg) v r v1 f1) (rc_5 M hP (i := 12) rfl) rfl hl.1 rfl (Nat.le_of_ble_eq_true rfl) ⟨rfl, rfl⟩ ⟨Nat.le_of_ble_eq_true rfl, Nat.le_of_ble_eq_true rfl⟩ dL_law_827) (fun H locs hP hS => ?_)
  refine lv_aload_n hx hb dL_law_830 rfl (lv_at hl 2 rfl) ?_
  refine lv_aload_n hx hb dL_law_831 rfl (lv_at hl 0 rfl) ?_
  refine lv_iload_n hx hb dL_law_832 rfl (lv_at hl 3 rfl) ?_
  refine lv_iconst (v := 1) hx hb dL_law_833 (by decide) ?_
  refine lv_iadd hx hb dL_law_834 ?_
  refine va_sld hx hb hX hbl hbA hS h1 dL_law_835 ?_
  refine lv_aload_n hx hb dL_law_836 rfl (lv_at hl 0 rfl) ?_
  refine lv_iload_n hx hb dL_law_837 rfl (lv_at hl 3 rfl) ?_
  refine lv_iconst (v := 2) hx hb dL_law_838 (by decide) ?_
  refine lv_iadd hx hb dL_law_839 ?_
  refine va_sld hx hb hX hbl hbA hS h2 dL_law_840 ?_
  refine kL_i hS (kL_run M hS hP hcs ok_L_91 (c_X6_kindFor l G (xs (x3 + 1).toNatClampNeg) (xs (x3 + 2).toNatClampNeg) v1 r v2 f2) (rc_6 M hP (i := 0) rfl) rfl hl.1 rfl (Nat.le_of_ble_eq_true rfl) ⟨rfl, rfl⟩ ⟨Nat.le_of_ble_eq_true rfl, Nat.le_of_ble_eq_true rfl⟩ dL_law_841) (fun H locs hP hS => ?_)
  refine lv_icmp_eq (tgt := 1486) hx hb dL_law_844 (by decide) (fun _ => ?_) (fun q => absurd rfl q)
  exact kk v2 H locs hP hR2 hS
set_option maxHeartbeats 4000000 in
theorem lc_19 {p : Program} {l : Launch} {e : Env} {s : State} {m : MethodId} {below : List Frame} {meth : Method} {c : Code} {H : Heap} {locs : List Loc} {G : GG} {v : VV} {Q : State → Prop} {b L cells slots : Nat} {xs : Nat → Int32} {x3 : Int32} {ls : Array Slot} (X : LX G p s m meth c b L xs cells slots) (h1 : vp_in (x3 + 1) L) (h2 : vp_in (x3 + 2) L) (h3 : vp_in (x3 + 3) L) (h4 : vp_in (x3 + 4) L) (h5 : vp_in (x3 + 5) L) (hP : Wd G v H) (hR : Rel v) (hS : va_S (gA G) s.heap H locs) (hl : lv_has ls 4 [(0, .ref b), (1, .ref (ad G 12)), (2, .ref (ad G 0)), (3, .int x3)])
    (kk : ∀ (v2 : VV) (H : Heap) (locs : List Loc), Wd G v2 H → Rel v2 → va_S (gA G) s.heap H locs → W p l e room_1 s m #[Value.ref b] below meth c H locs cells slots Q (F0 m 1486 ls [])) : W p l e room_1 s m #[Value.ref b] below meth c H locs cells slots Q (F0 m 849 ls []) := by
  obtain ⟨M, hX, hbl, hbA, hcs⟩ := X
  have hx := M.1.1
  have hb := M.1.2.1
  obtain ⟨r, v1, v2, f1, f2, hR2⟩ := st_fogFor hR (xs (x3 + 1).toNatClampNeg) (xs (x3 + 2).toNatClampNeg) (xs (x3 + 3).toNatClampNeg)
  refine lv_aload_n hx hb dL_law_849 rfl (lv_at hl 1 rfl) ?_
  refine lv_aload_n hx hb dL_law_850 rfl (lv_at hl 0 rfl) ?_
  refine lv_iload_n hx hb dL_law_851 rfl (lv_at hl 3 rfl) ?_
  refine lv_iconst (v := 1) hx hb dL_law_852 (by decide) ?_
  refine lv_iadd hx hb dL_law_853 ?_
  refine va_sld hx hb hX hbl hbA hS h1 dL_law_854 ?_
  refine lv_aload_n hx hb dL_law_855 rfl (lv_at hl 0 rfl) ?_
  refine lv_iload_n hx hb dL_law_856 rfl (lv_at hl 3 rfl) ?_
  refine lv_iconst (v := 2) hx hb dL_law_857 (by decide) ?_
  refine lv_iadd hx hb dL_law_858 ?_
  refine va_sld hx hb hX hbl hbA hS h2 dL_law_859 ?_
  refine lv_aload_n hx hb dL_law_860 rfl (lv_at hl 0 rfl) ?_
  refine lv_iload_n hx hb dL_law_861 rfl (lv_at hl 3 rfl) ?_
  refine lv_iconst (v := 3) hx hb dL_law_862 (by decide) ?_
  refine lv_iadd hx hb dL_law_863 ?_
  refine va_sld hx hb hX hbl hbA hS h3 dL_law_864 ?_
  refine kL_i hS (kL_run M hS hP hcs ok_L_92 (c_X5_fogFor l G (xs (x3 + 1).toNatClampNeg) (xs (x3 + 2).toNatClampNeg) (xs (x3 + 3).toNatClampNeg) v r v1 f1) (rc_5 M hP (i := 12) rfl) rfl hl.1 rfl (Nat.le_of_ble_eq_true rfl) ⟨rfl, rfl⟩ ⟨Nat.le_of_ble_eq_true rfl, Nat.le_of_ble_eq_true rfl⟩ dL_law_865) (fun H locs hP hS => ?_)
  refine lv_aload_n hx hb dL_law_868 rfl (lv_at hl 2 rfl) ?_
  refine lv_aload_n hx hb dL_law_869 rfl (lv_at hl 0 rfl) ?_
  refine lv_iload_n hx hb dL_law_870 rfl (lv_at hl 3 rfl) ?_
  refine lv_iconst (v := 1) hx hb dL_law_871 (by decide) ?_
  refine lv_iadd hx hb dL_law_872 ?_
  refine va_sld hx hb hX hbl hbA hS h1 dL_law_873 ?_
  refine lv_aload_n hx hb dL_law_874 rfl (lv_at hl 0 rfl) ?_
  refine lv_iload_n hx hb dL_law_875 rfl (lv_at hl 3 rfl) ?_
  refine lv_iconst (v := 2) hx hb dL_law_876 (by decide) ?_
  refine lv_iadd hx hb dL_law_877 ?_
  refine va_sld hx hb hX hbl hbA hS h2 dL_law_878 ?_
  refine lv_aload_n hx hb dL_law_879 rfl (lv_at hl 0 rfl) ?_
  refine lv_iload_n hx hb dL_law_880 rfl (lv_at hl 3 rfl) ?_
  refine lv_iconst (v := 3) hx hb dL_law_881 (by decide) ?_
  refine lv_iadd hx hb dL_law_882 ?_
  refine va_sld hx hb hX hbl hbA hS h3 dL_law_883 ?_
  refine kL_i hS (kL_run M hS hP hcs ok_L_95 (c_X6_fogFor l G (xs (x3 + 1).toNatClampNeg) (xs (x3 + 2).toNatClampNeg) (xs (x3 + 3).toNatClampNeg) v1 r v2 f2) (rc_6 M hP (i := 0) rfl) rfl hl.1 rfl (Nat.le_of_ble_eq_true rfl) ⟨rfl, rfl⟩ ⟨Nat.le_of_ble_eq_true rfl, Nat.le_of_ble_eq_true rfl⟩ dL_law_884) (fun H locs hP hS => ?_)
  refine lv_icmp_eq (tgt := 1486) hx hb dL_law_887 (by decide) (fun _ => ?_) (fun q => absurd rfl q)
  exact kk v2 H locs hP hR2 hS
set_option maxHeartbeats 4000000 in
theorem lc_20 {p : Program} {l : Launch} {e : Env} {s : State} {m : MethodId} {below : List Frame} {meth : Method} {c : Code} {H : Heap} {locs : List Loc} {G : GG} {v : VV} {Q : State → Prop} {b L cells slots : Nat} {xs : Nat → Int32} {x3 : Int32} {ls : Array Slot} (X : LX G p s m meth c b L xs cells slots) (h1 : vp_in (x3 + 1) L) (h2 : vp_in (x3 + 2) L) (h3 : vp_in (x3 + 3) L) (h4 : vp_in (x3 + 4) L) (h5 : vp_in (x3 + 5) L) (hP : Wd G v H) (hR : Rel v) (hS : va_S (gA G) s.heap H locs) (hl : lv_has ls 4 [(0, .ref b), (1, .ref (ad G 12)), (2, .ref (ad G 0)), (3, .int x3)])
    (kk : ∀ (v2 : VV) (H : Heap) (locs : List Loc), Wd G v2 H → Rel v2 → va_S (gA G) s.heap H locs → W p l e room_1 s m #[Value.ref b] below meth c H locs cells slots Q (F0 m 1486 ls [])) : W p l e room_1 s m #[Value.ref b] below meth c H locs cells slots Q (F0 m 892 ls []) := by
  obtain ⟨M, hX, hbl, hbA, hcs⟩ := X
  have hx := M.1.1
  have hb := M.1.2.1
  obtain ⟨r, v1, v2, f1, f2, hR2⟩ := st_hush hR (xs (x3 + 1).toNatClampNeg)
  refine lv_aload_n hx hb dL_law_892 rfl (lv_at hl 1 rfl) ?_
  refine lv_aload_n hx hb dL_law_893 rfl (lv_at hl 0 rfl) ?_
  refine lv_iload_n hx hb dL_law_894 rfl (lv_at hl 3 rfl) ?_
  refine lv_iconst (v := 1) hx hb dL_law_895 (by decide) ?_
  refine lv_iadd hx hb dL_law_896 ?_
  refine va_sld hx hb hX hbl hbA hS h1 dL_law_897 ?_
  refine kL_i hS (kL_run M hS hP hcs ok_L_96 (c_X5_hush l G (xs (x3 + 1).toNatClampNeg) v r v1 f1) (rc_5 M hP (i := 12) rfl) rfl hl.1 rfl (Nat.le_of_ble_eq_true rfl) ⟨rfl, rfl⟩ ⟨Nat.le_of_ble_eq_true rfl, Nat.le_of_ble_eq_true rfl⟩ dL_law_898) (fun H locs hP hS => ?_)
  refine lv_aload_n hx hb dL_law_901 rfl (lv_at hl 2 rfl) ?_
  refine lv_aload_n hx hb dL_law_902 rfl (lv_at hl 0 rfl) ?_
  refine lv_iload_n hx hb dL_law_903 rfl (lv_at hl 3 rfl) ?_
  refine lv_iconst (v := 1) hx hb dL_law_904 (by decide) ?_
  refine lv_iadd hx hb dL_law_905 ?_
  refine va_sld hx hb hX hbl hbA hS h1 dL_law_906 ?_
  refine kL_i hS (kL_run M hS hP hcs ok_L_99 (c_X6_hush l G (xs (x3 + 1).toNatClampNeg) v1 r v2 f2) (rc_6 M hP (i := 0) rfl) rfl hl.1 rfl (Nat.le_of_ble_eq_true rfl) ⟨rfl, rfl⟩ ⟨Nat.le_of_ble_eq_true rfl, Nat.le_of_ble_eq_true rfl⟩ dL_law_907) (fun H locs hP hS => ?_)
  refine lv_icmp_eq (tgt := 1486) hx hb dL_law_910 (by decide) (fun _ => ?_) (fun q => absurd rfl q)
  exact kk v2 H locs hP hR2 hS
