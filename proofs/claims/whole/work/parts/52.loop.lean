/-! THE CLAIM OUT OF ONE WALK OF THE LAW'S BODY. Your part is whole_start (and what it stands on); all else here is the same for every law, but numbers. -/
def R_law : String := "FogSchoolLaw"
def lw_P (b : Addr) (xs : List Int32) (args : Array Value) (s : State) : Prop := args = #[.ref b] ∧ s.IntsAt b xs ∧ xs.length ≤ 3072 ∧ (Jvm.Cond.and given_1 narrow_1).before args s = true
def lw_Q (_ : Array Value) (s : State) (o : Outcome) (t : State) : Prop := o = .returned (some (.int 1)) ∧ Framed s o t [] 600000 7302250
def lw_Z (below : List Frame) (a : Array Value) (s : State) : State → Prop := fun t => ∃ o, t.status = .running ∧ Ended t below o ∧ lw_Q a s o t
/-- the law's own end, with 1 on the stack, nothing written that was there before, its room as the claim has it -/
theorem lw_ret {p : Program} {l : Launch} {e : Env} {s : State} {m : MethodId} {below : List Frame} {meth : Method} {c : Code} {b : Nat} (hx : p.tables.exec = Jvm.exec) (hb : c.code = code) (hr : meth.sig.returnType = ret) (hlocks : meth.locks = false) {pc : Nat} {H : Heap} {ls : Array Slot} (hdg : decode code pc = .ok (.ireturn, 1)) : W p l e room_1 s m #[Value.ref b] below meth c H [] 600000 7302250 (lw_Z below #[Value.ref b] s) (F0 m pc ls [.int 1]) := by
  intro T hT X
  obtain ⟨fs, hret, hrun, hended, hW, hframe⟩ := X.leave (v := some (.int 1)) (hlocks := hlocks) (fun h => by rw [hr] at h; cases h)
  have hmeth' : T.vm.method? m = some meth := X.method'
  refine ⟨T.setFrames fs, ?_, .returned (some (.int 1)), hrun, hended, rfl, ⟨_, rfl⟩, hW, hframe⟩
  jvm_step X.here [X.here.top, hx, hb, hdg, hmeth', hr, ret, narrow_b1]
  (try refine ⟨rfl, ?_⟩); (try refine ⟨rfl, ?_⟩)
  first | (intro acts; rw [hret _ acts rfl rfl rfl]) | rw [hret _ _ rfl rfl rfl]
  exact Steps.refl _
/-- what holds at the law's entry: the machine, the code, the tables' words (any of lw_tbl by 'hts w (by decide +kernel)'), the script of L ints xs at the cell b, what the Statement gives of the start (any of its parts by flat_of_before) -/
def lw_At (p : Program) (s : State) (m : MethodId) (meth : Method) (c : Code) (b L : Nat) (xs : Nat → Int32) : Prop :=
  p.tables.exec = Jvm.exec ∧ c.code = code ∧ meth.sig.returnType = ret ∧ c.maxLocals = 4 ∧ s.vm.findClass R_law = some m.cls ∧ (∀ w ∈ lw_tbl, w.before #[Value.ref b] s = true) ∧ va_X b L xs s s.heap ∧ b < s.heap.size ∧ meth.locks = false ∧ (Jvm.Cond.and given_1 narrow_1).before #[Value.ref b] s = true
theorem nI_6 (k : Nat) : nI (k + 6) - 6 = nI k := by
  rw [show nI (k + 6) = nI k + 6 from Int32.ofNat_add k 6, Int32.add_sub_cancel]
theorem neg_6 : ∀ L, L < 6 → (nI L - 6).toInt < 0 := by decide +kernel
theorem nI_le6 {L i : Nat} (hL : L ≤ 3072) (h : ¬ (Int32.ofNat L - 6) < nI i) (hi : i < 2 ^ 31) : i + 6 ≤ L := by
  have h : ¬ (nI L - 6) < nI i := h
  rcases Nat.lt_or_ge L 6 with q | q
  · exact absurd (Int32.lt_iff_toInt_lt.mpr (by have := neg_6 L q; rw [nI_toInt hi]; omega)) h
  · obtain ⟨k, rfl⟩ : ∃ k, L = k + 6 := ⟨L - 6, by omega⟩
    rw [nI_6] at h
    rcases Nat.lt_or_ge k i with z | z
    · exact absurd (nI_lt z hi) h
    · omega
theorem in_k {L i k : Nat} {y : Int32} (hL : L ≤ 3072) (hi : i + 6 ≤ L) (hk : k < 6) (e : y = nI k) : vp_in (nI i + y) L := by
  rw [e, show nI i + nI k = nI (i + k) from (Int32.ofNat_add i k).symm]
  exact vp_in_nI (by omega) (by omega)
set_option maxHeartbeats 4000000 in
set_option maxRecDepth 100000 in
/-- the law's loop -/
theorem law_loop {p : Program} {l : Launch} {e : Env} {s : State} {m : MethodId} {below : List Frame} {meth : Method} {c : Code} {G : GG} {b L cells slots : Nat} {xs : Nat → Int32} (hL : L ≤ 3072) (X : LX G p s m meth c b L xs cells slots) (hnew : ∀ q, gA G q → s.heap.size ≤ q) (hc6 : cells ≤ 600000) (hs7 : slots ≤ 7302250) :
    ∀ (n i : Nat) (v : VV) (H : Heap) (locs : List Loc) (ls : Array Slot), L + 6 < n + i → i ≤ L + 6 → Wd G v H → Rel v → va_S (gA G) s.heap H locs → lv_has ls 4 [(0, .ref b), (1, .ref (ad G 12)), (2, .ref (ad G 0)), (3, .int (nI i))] →
      W p l e room_1 s m #[Value.ref b] below meth c H locs cells slots (lw_Z below #[Value.ref b] s) (F0 m 18 ls []) := by
  obtain ⟨M, hX, hbl, hbA, hcs⟩ := id X
  have hx := M.1.1
  have hb := M.1.2.1
  intro n
  induction n with
  | zero =>
    intro i v H locs ls h1 h2
    omega
  | succ n ih =>
    intro i v H locs ls hn hi hP hR hS hl
    refine lv_iload_n hx hb dL_law_18 rfl (lv_at hl 3 rfl) ?_
    refine lv_aload_n hx hb dL_law_19 rfl (lv_at hl 0 rfl) ?_
    refine va_slen hx hb hX hbl hbA hS dL_law_20 ?_
    refine lv_bipush (v := 6) hx hb dL_law_21 (by decide) ?_
    refine lv_isub hx hb dL_law_23 ?_
    refine lv_icmp_gt (tgt := 1492) hx hb dL_law_24 (by decide) (fun _ => ?_) (fun q => ?_)
    · refine va_forget (fun z hz => hnew _ (hS.2.2 z hz)) ?_
      refine W.widen (k := 600000) (n := 7302250) hc6 hs7 ?_
      refine lv_iconst (v := 1) hx hb dL_law_1492 (by decide) ?_
      exact lw_ret hx hb M.2.1 M.2.2.1 dL_law_1493
    · have h6 : i + 6 ≤ L := nI_le6 hL q (by omega)
      have h0 : vp_in (nI i) L := vp_in_nI (by omega) (by omega)
      have h1 : vp_in (nI i + 1) L := in_k hL h6 (k := 1) (by omega) rfl
      have h2 : vp_in (nI i + 2) L := in_k hL h6 (k := 2) (by omega) rfl
      have h3 : vp_in (nI i + 3) L := in_k hL h6 (k := 3) (by omega) rfl
      have h4 : vp_in (nI i + 4) L := in_k hL h6 (k := 4) (by omega) rfl
      have h5 : vp_in (nI i + 5) L := in_k hL h6 (k := 5) (by omega) rfl
      have kk : ∀ (v2 : VV) (H : Heap) (locs : List Loc), Wd G v2 H → Rel v2 → va_S (gA G) s.heap H locs → W p l e room_1 s m #[Value.ref b] below meth c H locs cells slots (lw_Z below #[Value.ref b] s) (F0 m 1486 ls []) := by
        intro v2 H locs hP hR hS
        refine lv_iinc (v := nI (i + 6)) (lv' := [(3, .int (nI (i + 6))), (0, .ref b), (1, .ref (ad G 12)), (2, .ref (ad G 0))]) hx hb dL_law_1486 hl (k := 3) rfl (Int32.ofNat_add i 6).symm (by decide) rfl (fun ls hl => ?_)
        refine lv_goto (tgt := 18) hx hb dL_law_1489 (by decide) ?_
        exact ih (i + 6) v2 H locs ls (by omega) (by omega) hP hR hS (lv_sub hl [1, 2, 3, 0] rfl)
      refine lv_aload_n hx hb dL_law_27 rfl (lv_at hl 0 rfl) ?_
      refine lv_iload_n hx hb dL_law_28 rfl (lv_at hl 3 rfl) ?_
      refine va_sld hx hb hX hbl hbA hS h0 dL_law_29 ?_
      refine lv_bipush (v := 63) hx hb dL_law_30 (by decide) ?_
      refine lv_iand hx hb dL_law_32 ?_
      refine lv_topi (fun y ey => ?_)
      obtain ⟨k, hk, ek⟩ := pk_andE (xs (nI i).toNatClampNeg) (m := 63) 6 rfl
      have ey : y = nI k := ey.trans ek
      match k, hk, ey with
      | 0, _, ey => exact lv_tableIn (off := 179) (tgt := 212) hx hb dL_law_33 (by rw [ey]; decide) (by rw [ey]; decide) (by rw [ey]; decide) (by decide) (lc_0 X h1 h2 h3 h4 h5 hP hR hS hl kk)
      | 1, _, ey => exact lv_tableIn (off := 212) (tgt := 245) hx hb dL_law_33 (by rw [ey]; decide) (by rw [ey]; decide) (by rw [ey]; decide) (by decide) (lc_1 X h1 h2 h3 h4 h5 hP hR hS hl kk)
      | 2, _, ey => exact lv_tableIn (off := 235) (tgt := 268) hx hb dL_law_33 (by rw [ey]; decide) (by rw [ey]; decide) (by rw [ey]; decide) (by decide) (lc_2 X h1 h2 h3 h4 h5 hP hR hS hl kk)
      | 3, _, ey => exact lv_tableIn (off := 268) (tgt := 301) hx hb dL_law_33 (by rw [ey]; decide) (by rw [ey]; decide) (by rw [ey]; decide) (by decide) (lc_3 X h1 h2 h3 h4 h5 hP hR hS hl kk)
      | 4, _, ey => exact lv_tableIn (off := 301) (tgt := 334) hx hb dL_law_33 (by rw [ey]; decide) (by rw [ey]; decide) (by rw [ey]; decide) (by decide) (lc_4 X h1 h2 h3 h4 h5 hP hR hS hl kk)
      | 5, _, ey => exact lv_tableIn (off := 334) (tgt := 367) hx hb dL_law_33 (by rw [ey]; decide) (by rw [ey]; decide) (by rw [ey]; decide) (by decide) (lc_5 X h1 h2 h3 h4 h5 hP hR hS hl kk)
      | 6, _, ey => exact lv_tableIn (off := 377) (tgt := 410) hx hb dL_law_33 (by rw [ey]; decide) (by rw [ey]; decide) (by rw [ey]; decide) (by decide) (lc_6 X h1 h2 h3 h4 h5 hP hR hS hl kk)
      | 7, _, ey => exact lv_tableIn (off := 410) (tgt := 443) hx hb dL_law_33 (by rw [ey]; decide) (by rw [ey]; decide) (by rw [ey]; decide) (by decide) (lc_7 X h1 h2 h3 h4 h5 hP hR hS hl kk)
      | 8, _, ey => exact lv_tableIn (off := 453) (tgt := 486) hx hb dL_law_33 (by rw [ey]; decide) (by rw [ey]; decide) (by rw [ey]; decide) (by decide) (lc_8 X h1 h2 h3 h4 h5 hP hR hS hl kk)
      | 9, _, ey => exact lv_tableIn (off := 486) (tgt := 519) hx hb dL_law_33 (by rw [ey]; decide) (by rw [ey]; decide) (by rw [ey]; decide) (by decide) (lc_9 X h1 h2 h3 h4 h5 hP hR hS hl kk)
      | 10, _, ey => exact lv_tableIn (off := 509) (tgt := 542) hx hb dL_law_33 (by rw [ey]; decide) (by rw [ey]; decide) (by rw [ey]; decide) (by decide) (lc_10 X h1 h2 h3 h4 h5 hP hR hS hl kk)
      | 11, _, ey => exact lv_tableIn (off := 532) (tgt := 565) hx hb dL_law_33 (by rw [ey]; decide) (by rw [ey]; decide) (by rw [ey]; decide) (by decide) (lc_11 X h1 h2 h3 h4 h5 hP hR hS hl kk)
      | 12, _, ey => exact lv_tableIn (off := 575) (tgt := 608) hx hb dL_law_33 (by rw [ey]; decide) (by rw [ey]; decide) (by rw [ey]; decide) (by decide) (lc_12 X h1 h2 h3 h4 h5 hP hR hS hl kk)
      | 13, _, ey => exact lv_tableIn (off := 618) (tgt := 651) hx hb dL_law_33 (by rw [ey]; decide) (by rw [ey]; decide) (by rw [ey]; decide) (by decide) (lc_13 X h1 h2 h3 h4 h5 hP hR hS hl kk)
      | 14, _, ey => exact lv_tableIn (off := 651) (tgt := 684) hx hb dL_law_33 (by rw [ey]; decide) (by rw [ey]; decide) (by rw [ey]; decide) (by decide) (lc_14 X h1 h2 h3 h4 h5 hP hR hS hl kk)
      | 15, _, ey => exact lv_tableIn (off := 674) (tgt := 707) hx hb dL_law_33 (by rw [ey]; decide) (by rw [ey]; decide) (by rw [ey]; decide) (by decide) (lc_15 X h1 h2 h3 h4 h5 hP hR hS hl kk)
      | 16, _, ey => exact lv_tableIn (off := 707) (tgt := 740) hx hb dL_law_33 (by rw [ey]; decide) (by rw [ey]; decide) (by rw [ey]; decide) (by decide) (lc_16 X h1 h2 h3 h4 h5 hP hR hS hl kk)
      | 17, _, ey => exact lv_tableIn (off := 740) (tgt := 773) hx hb dL_law_33 (by rw [ey]; decide) (by rw [ey]; decide) (by rw [ey]; decide) (by decide) (lc_17 X h1 h2 h3 h4 h5 hP hR hS hl kk)
      | 18, _, ey => exact lv_tableIn (off := 783) (tgt := 816) hx hb dL_law_33 (by rw [ey]; decide) (by rw [ey]; decide) (by rw [ey]; decide) (by decide) (lc_18 X h1 h2 h3 h4 h5 hP hR hS hl kk)
      | 19, _, ey => exact lv_tableIn (off := 816) (tgt := 849) hx hb dL_law_33 (by rw [ey]; decide) (by rw [ey]; decide) (by rw [ey]; decide) (by decide) (lc_19 X h1 h2 h3 h4 h5 hP hR hS hl kk)
      | 20, _, ey => exact lv_tableIn (off := 859) (tgt := 892) hx hb dL_law_33 (by rw [ey]; decide) (by rw [ey]; decide) (by rw [ey]; decide) (by decide) (lc_20 X h1 h2 h3 h4 h5 hP hR hS hl kk)
      | 21, _, ey => exact lv_tableIn (off := 882) (tgt := 915) hx hb dL_law_33 (by rw [ey]; decide) (by rw [ey]; decide) (by rw [ey]; decide) (by decide) (lc_21 X h1 h2 h3 h4 h5 hP hR hS hl kk)
      | 22, _, ey => exact lv_tableIn (off := 915) (tgt := 948) hx hb dL_law_33 (by rw [ey]; decide) (by rw [ey]; decide) (by rw [ey]; decide) (by decide) (lc_22 X h1 h2 h3 h4 h5 hP hR hS hl kk)
      | 23, _, ey => exact lv_tableIn (off := 948) (tgt := 981) hx hb dL_law_33 (by rw [ey]; decide) (by rw [ey]; decide) (by rw [ey]; decide) (by decide) (lc_23 X h1 h2 h3 h4 h5 hP hR hS hl kk)
      | 24, _, ey => exact lv_tableIn (off := 971) (tgt := 1004) hx hb dL_law_33 (by rw [ey]; decide) (by rw [ey]; decide) (by rw [ey]; decide) (by decide) (lc_24 X h1 h2 h3 h4 h5 hP hR hS hl kk)
      | 25, _, ey => exact lv_tableIn (off := 1025) (tgt := 1058) hx hb dL_law_33 (by rw [ey]; decide) (by rw [ey]; decide) (by rw [ey]; decide) (by decide) (lc_25 X h1 h2 h3 h4 h5 hP hR hS hl kk)
      | 26, _, ey => exact lv_tableIn (off := 1048) (tgt := 1081) hx hb dL_law_33 (by rw [ey]; decide) (by rw [ey]; decide) (by rw [ey]; decide) (by decide) (lc_26 X h1 h2 h3 h4 h5 hP hR hS hl kk)
      | 27, _, ey => exact lv_tableIn (off := 1081) (tgt := 1114) hx hb dL_law_33 (by rw [ey]; decide) (by rw [ey]; decide) (by rw [ey]; decide) (by decide) (lc_27 X h1 h2 h3 h4 h5 hP hR hS hl kk)
      | 28, _, ey => exact lv_tableIn (off := 1094) (tgt := 1127) hx hb dL_law_33 (by rw [ey]; decide) (by rw [ey]; decide) (by rw [ey]; decide) (by decide) (lc_28 X h1 h2 h3 h4 h5 hP hR hS hl kk)
      | 29, _, ey => exact lv_tableIn (off := 1107) (tgt := 1140) hx hb dL_law_33 (by rw [ey]; decide) (by rw [ey]; decide) (by rw [ey]; decide) (by decide) (lc_29 X h1 h2 h3 h4 h5 hP hR hS hl kk)
      | 30, _, ey => exact lv_tableIn (off := 1140) (tgt := 1173) hx hb dL_law_33 (by rw [ey]; decide) (by rw [ey]; decide) (by rw [ey]; decide) (by decide) (lc_30 X h1 h2 h3 h4 h5 hP hR hS hl kk)
      | 31, _, ey => exact lv_tableIn (off := 1173) (tgt := 1206) hx hb dL_law_33 (by rw [ey]; decide) (by rw [ey]; decide) (by rw [ey]; decide) (by decide) (lc_31 X h1 h2 h3 h4 h5 hP hR hS hl kk)
      | 32, _, ey => exact lv_tableIn (off := 1216) (tgt := 1249) hx hb dL_law_33 (by rw [ey]; decide) (by rw [ey]; decide) (by rw [ey]; decide) (by decide) (lc_32 X h1 h2 h3 h4 h5 hP hR hS hl kk)
      | 33, _, ey => exact lv_tableIn (off := 1259) (tgt := 1292) hx hb dL_law_33 (by rw [ey]; decide) (by rw [ey]; decide) (by rw [ey]; decide) (by decide) (lc_33 X h1 h2 h3 h4 h5 hP hR hS hl kk)
      | 34, _, ey => exact lv_tableIn (off := 1322) (tgt := 1355) hx hb dL_law_33 (by rw [ey]; decide) (by rw [ey]; decide) (by rw [ey]; decide) (by decide) (lc_34 X h1 h2 h3 h4 h5 hP hR hS hl kk)
      | 35, _, ey => exact lv_tableIn (off := 1345) (tgt := 1378) hx hb dL_law_33 (by rw [ey]; decide) (by rw [ey]; decide) (by rw [ey]; decide) (by decide) (lc_35 X h1 h2 h3 h4 h5 hP hR hS hl kk)
      | 36, _, ey => exact lv_tableIn (off := 1368) (tgt := 1401) hx hb dL_law_33 (by rw [ey]; decide) (by rw [ey]; decide) (by rw [ey]; decide) (by decide) (lc_36 X h1 h2 h3 h4 h5 hP hR hS hl kk)
      | 37, _, ey => exact lv_tableIn (off := 1381) (tgt := 1414) hx hb dL_law_33 (by rw [ey]; decide) (by rw [ey]; decide) (by rw [ey]; decide) (by decide) (lc_37 X h1 h2 h3 h4 h5 hP hR hS hl kk)
      | 38, _, ey => exact lv_tableIn (off := 1394) (tgt := 1427) hx hb dL_law_33 (by rw [ey]; decide) (by rw [ey]; decide) (by rw [ey]; decide) (by decide) (lc_38 X h1 h2 h3 h4 h5 hP hR hS hl kk)
      | 39, _, ey => exact lv_tableIn (off := 1407) (tgt := 1440) hx hb dL_law_33 (by rw [ey]; decide) (by rw [ey]; decide) (by rw [ey]; decide) (by decide) (lc_39 X h1 h2 h3 h4 h5 hP hR hS hl kk)
      | 40, _, ey => exact lv_tableIn (off := 1430) (tgt := 1463) hx hb dL_law_33 (by rw [ey]; decide) (by rw [ey]; decide) (by rw [ey]; decide) (by decide) (lc_40 X h1 h2 h3 h4 h5 hP hR hS hl kk)
      | k + 41, hk, ey => exact lv_tableOut (tgt := 1486) hx hb dL_law_33 (by rw [ey, nI_toInt (by omega)]; omega) (by decide) (kk v H locs hP hR hS)
