/-! PURE PART 22: hush -/
def kSame (c m : RW) (i k : Nat) : Prop := c 0 = m 0 ∧ (∀ y, 4 ≤ y → y < 10 → c y = m y) ∧ i < nkS c ∧ k < nkS m ∧ (∀ g, g < 6 → c (ki i g) = m (ki k g))
theorem fog_cg {c m : RW} (hm : InvB m) (h0 : c 0 = m 0) (hl : ∀ y, 4 ≤ y → y < 10 → c y = m y) : fogS c = fogS m := by
  obtain ⟨d, hd, ed⟩ := hm.1
  unfold fogS
  rw [h0, ed, day6 hd, cl_nI (by omega)]
  exact hl _ (by omega) (by omega)
theorem day_k (c : RW) (hI : InvB c) {i : Nat} (hi : i < nkS c) {g : Nat} (hg : g < 6) : dayS c (ki i g) = kstep (fogS c) (c 0) (fun g => c (ki i g)) g := by
  have h8 := (nk_eq hI).2
  unfold dayS
  show upd _ 0 _ _ = _
  rw [upd_ne _ _ (by simp only [ki]; omega), itr_keeper _ (by omega) _ h8 c g hg, if_pos hi]
theorem day_0 (c : RW) : dayS c 0 = if c 0 + 1 < 99999 then c 0 + 1 else 99999 := by
  unfold dayS
  show upd _ 0 _ 0 = _
  rw [upd_self, itr_lt (fun j c' => oneS_20 (by decide) j c' _)]
theorem kSame_day {c m : RW} {i k : Nat} (h : kSame c m i k) (hc : InvB c) (hm : InvB m) : kSame (dayS c) (dayS m) i k := by
  obtain ⟨h0, hl, hi, hk, hf⟩ := h
  refine ⟨by rw [day_0, day_0, h0], fun y a b => by rw [dayS_y (by omega) (by omega), dayS_y (by omega) (by omega)]; exact hl y a b, by simp only [nkS]; rw [dayS_y (by decide) (by decide)]; exact hi, by simp only [nkS]; rw [dayS_y (by decide) (by decide)]; exact hk, fun g hg => ?_⟩
  rw [day_k c hc hi hg, day_k m hm hk hg, fog_cg hm h0 hl, h0]
  exact kstep_cg (fun g hg => hf g hg) g hg
theorem kSame_days {c m : RW} {i k : Nat} (h : kSame c m i k) (hc : InvB c) (hm : InvB m) : ∀ (d : Nat), kSame (daysS d c) (daysS d m) i k
  | 0 => h
  | d + 1 => by rw [daysS_s, daysS_s]; exact kSame_day (kSame_days h hc hm d) (daysS_B d hc) (daysS_B d hm)
theorem day_k5 {c : RW} (hI : InvB c) {i : Nat} (hi : i < nkS c) : dayS c (ki i 5) = c (ki i 5) := by
  rw [day_k c hI hi (by decide)]
  unfold kstep
  (repeat' split) <;> first | rfl | simp only [upd_ne _ _ (show (5 : Nat) ≠ 2 by decide), upd_ne _ _ (show (5 : Nat) ≠ 4 by decide)]
theorem days_k5 {c : RW} (hI : InvB c) {i : Nat} (hi : i < nkS c) : ∀ (d : Nat), daysS d c (ki i 5) = c (ki i 5)
  | 0 => rfl
  | d + 1 => by rw [daysS_s, day_k5 (daysS_B d hI) (by rw [days_nk]; exact hi)]; exact days_k5 hI hi d
theorem lrM_tr {m m' c c' : RW} {i k j : Nat} (hk : kSame c c' i k) (hm' : InvB c') (hch : ∀ g, g < 3 → m (ci j g) = m' (ci j g)) : lrM m c (fogS c) i j ↔ lrM m' c' (fogS c') k j := by
  obtain ⟨h0, hl, hi, hk', hf⟩ := hk
  unfold lrM noteS
  rw [fog_cg hm' h0 hl, hf 0 (by decide), hf 1 (by decide), hf 2 (by decide), hf 3 (by decide), hf 4 (by decide), hf 5 (by decide), h0, hch 0 (by decide), hch 1 (by decide), hch 2 (by decide)]
/-- a keeper teaches something within N days -/
def tchP (m : RW) (N k : Nat) : Prop := ∃ d, d < N ∧ ∃ j, j < ncS m ∧ lrM m (daysS d m) (fogS (daysS d m)) k j
noncomputable def tchB (m : RW) (N k : Nat) : Bool := @decide (tchP m N k) (Classical.propDecidable _)
theorem tchB_t {m : RW} {N k : Nat} : tchB m N k = true ↔ tchP m N k := ⟨fun h => @of_decide_eq_true _ (Classical.propDecidable _) h, fun h => @decide_eq_true _ (Classical.propDecidable _) h⟩
/-- alone -/
theorem alone_t {c m : RW} (hc : InvB c) (hm : InvB m) {k : Nat} (h1 : nkS c = 1) (h3 : ncS c = ncS m) (hk : kSame c m 0 k) (hch : ∀ j, j < ncS m → ∀ g, g < 3 → c (ci j g) = m (ci j g)) (N : Nat) : lrnS m < lrnS (daysS N c) ↔ tchP m N k := by
  have el : lrnS c = lrnS m := by
    unfold lrnS
    rw [h3]
    exact itr_cg _ _ _ (fun j _ hj x => by rw [hch j (by omega) 2 (by decide)])
  rw [← el, days_learn hc N]
  unfold tchP
  constructor
  · rintro ⟨d, hd, i, hi, j, hj, q⟩
    have i0 : i = 0 := by omega
    subst i0
    exact ⟨d, hd, j, by omega, (lrM_tr (kSame_days hk hc hm d) (daysS_B d hm) (fun g hg => hch j (by omega) g hg)).mp q⟩
  · rintro ⟨d, hd, j, hj, q⟩
    exact ⟨d, hd, 0, by omega, j, by omega, (lrM_tr (kSame_days hk hc hm d) (daysS_B d hm) (fun g hg => hch j (by omega) g hg)).mpr q⟩
/-! sets of keepers silenced -/
def silS (m : RW) (S : Int32) (n : Nat) : RW := itr (fun k c => if bt S k = true then upd c (ki k 5) 1 else c) 0 n m
theorem silS_s (m : RW) (S : Int32) (n : Nat) : silS m S (n + 1) = if bt S n = true then upd (silS m S n) (ki n 5) 1 else silS m S n := by
  unfold silS
  rw [itr_snoc, Nat.zero_add]
theorem silS_at (m : RW) (S : Int32) : ∀ (n : Nat), (∀ k, k < n → silS m S n (ki k 5) = if bt S k = true then 1 else m (ki k 5)) ∧ ∀ y, (∀ k, k < n → y ≠ ki k 5) → silS m S n y = m y
  | 0 => ⟨fun k hk => by omega, fun y _ => rfl⟩
  | n + 1 => by
    obtain ⟨h1, h2⟩ := silS_at m S n
    rw [silS_s]
    refine ⟨fun k hk => ?_, fun y hy => ?_⟩
    · by_cases e : k = n
      · subst e
        by_cases q : bt S k = true
        · rw [if_pos q, if_pos q, upd_self]
        · rw [if_neg q, if_neg q]
          exact h2 _ (fun k' hk' => by simp only [ki]; omega)
      · by_cases q : bt S n = true
        · rw [if_pos q, upd_ne _ _ (by simp only [ki]; omega)]
          exact h1 k (by omega)
        · rw [if_neg q]
          exact h1 k (by omega)
    · by_cases q : bt S n = true
      · rw [if_pos q, upd_ne _ _ (hy n (by omega))]
        exact h2 y (fun k hk => hy k (by omega))
      · rw [if_neg q]
        exact h2 y (fun k hk => hy k (by omega))
theorem silS_B {m : RW} (hm : InvB m) (S : Int32) {n : Nat} (hn : n ≤ 8) : InvB (silS m S n) :=
  itr_keep (P := InvB) _ _ _ (fun k c _ hk hc => by
    split
    · exact updK hc (n := 1) (by omega) (by decide) (by decide)
    · exact hc) hm
theorem sil_t {m : RW} (hm : InvB m) (S : Int32) (N : Nat) : lrnS m < lrnS (daysS N (silS m S (nkS m))) ↔ ∃ k, k < nkS m ∧ ¬ bt S k = true ∧ tchP m N k := by
  have h8 := (nk_eq hm).2
  obtain ⟨a1, a2⟩ := silS_at m S (nkS m)
  have hB := silS_B hm S h8
  generalize silS m S (nkS m) = c at a1 a2 hB
  have e1 : nkS c = nkS m := by simp only [nkS]; rw [a2 1 (fun k _ => by simp only [ki]; omega)]
  have e3 : ncS c = ncS m := by simp only [ncS]; rw [a2 3 (fun k _ => by simp only [ki]; omega)]
  have hch : ∀ j, ∀ g, g < 3 → c (ci j g) = m (ci j g) := fun j g hg => a2 _ (fun k hk => by simp only [ki, ci]; omega)
  have el : lrnS c = lrnS m := by
    unfold lrnS
    rw [e3]
    exact itr_cg _ _ _ (fun j _ hj x => by rw [hch j 2 (by decide)])
  have ks : ∀ k, k < nkS m → ¬ bt S k = true → kSame c m k k := fun k hk q => ⟨a2 0 (fun k _ => by simp only [ki]; omega), fun y _ _ => a2 y (fun k _ => by simp only [ki]; omega), by omega, hk, fun g hg => by
    by_cases g5 : g = 5
    · rw [g5, a1 k hk, if_neg q]
    · exact a2 _ (fun k' _ => by simp only [ki]; omega)⟩
  rw [← el, days_learn hB N]
  constructor
  · rintro ⟨d, hd, i, hi, j, hj, q⟩
    have hi' : i < nkS m := by omega
    have nb : ¬ bt S i = true := by
      intro z
      have h5 := q.2.1
      rw [days_k5 hB hi, a1 i hi', if_pos z] at h5
      exact absurd h5 (by decide)
    exact ⟨i, hi', nb, d, hd, j, by omega, (lrM_tr (kSame_days (ks i hi' nb) hB hm d) (daysS_B d hm) (fun g hg => hch j g hg)).mp q⟩
  · rintro ⟨k, hk, nb, d, hd, j, hj, q⟩
    exact ⟨d, hd, k, by omega, j, by omega, (lrM_tr (kSame_days (ks k hk nb) hB hm d) (daysS_B d hm) (fun g hg => hch j g hg)).mpr q⟩
/-! the class -/
theorem C_leaveK3 {p : Nat} (v : VV) {j : Nat} (hj : j < 8) : ∃ v', F_X1_leaveOnlyKeeper p (nI j) v = some v' ∧ ∀ y, 26 ≤ y → rowOf p v' y = rowOf p v y := by
  obtain ⟨r1, o1⟩ := cpy_own (p := p) v (a := 13 + j) (b := 13 + 0) (by omega) (N := 6) (by decide)
  have e1 : p + 3 + 2 + j + 8 = p + (13 + j) := by omega
  have e2 : p + 3 + 2 + 0 + 8 = p + (13 + 0) := by omega
  have w := wr_1 p (cpy v (p + (13 + j)) (p + (13 + 0)) 0 0 (nI 6)) 1
  refine ⟨pu (cpy v (p + (13 + j)) (p + (13 + 0)) 0 0 (nI 6)) p 4 1, ?_, fun y hy => ?_⟩
  · unfold F_X1_leaveOnlyKeeper
    rw [gu_nI hj (by decide), gC_ok.2.2.1, gu_t, cl_nI (by omega), e1, e2]
  · rw [w.1, upd_ne _ _ (by omega), r1]
    dsimp only
    rw [if_neg]
    intro z
    obtain ⟨z1, z2, z3⟩ := z
    unfold plo at z2
    (repeat' split at z2) <;> omega
theorem C_huL {v : VV} (h : Rel v) {N : Nat} (hN : N ≤ 20) : ∃ v1, L_X5_hush_28 fu (nI N) (lrnS (v 1)) 0 0 v = some (fitS (tchB (v 1) N) (nkS (v 1)), v1) ∧ Rel v1 ∧ v1 1 = v 1 := by
  obtain ⟨hC, hM, hs, hp⟩ := h.1
  have h8 := (nk_eq hM).2
  refine loopR (L := fun f (x : Int32 × VV) i => L_X5_hush_28 f (nI N) (lrnS (v 1)) x.1 i x.2) (N := nkS (v 1)) (fun k x => x.1 = fitS (tchB (v 1) N) k ∧ Rel x.2 ∧ x.2 1 = v 1) (fun z => ∃ v1, z = some (fitS (tchB (v 1) N) (nkS (v 1)), v1) ∧ Rel v1 ∧ v1 1 = v 1) (fun f x hx => ?_) (fun f k x hk hx => Or.inl ?_) (nkS (v 1)) fu 0 (0, v) (by omega) (by unfold fu; omega) ⟨rfl, h, rfl⟩
  · obtain ⟨gC, gM, gs, gp⟩ := hx.2.1.1
    rw [hx.2.2] at gs gM
    refine ⟨x.2, ?_, hx.2⟩
    show L_X5_hush_28 (f + 1) (nI N) (lrnS (v 1)) x.1 (nI (nkS (v 1))) x.2 = _
    rw [L_X5_hush_28, rd_1 25 x.2, gs.1 1 (by decide), (nk_eq gM).1, if_pos (nI_le (Nat.le_refl _) (by omega)), hx.1]
  · obtain ⟨gC, gM, gs, gp⟩ := hx.2.1.1
    rw [hx.2.2] at gs gM
    obtain ⟨va, a1, a2, a3, a4⟩ := C_become (p := 25) (q := 58) (by omega) gC hx.2.1.2.1
    have s2 := sim_tr a2 gs
    obtain ⟨vb, b1, b2, b3, b4, b5, b6⟩ := C_leaveK a3 (j := k) (by omega)
    obtain ⟨vb', b1', b7⟩ := C_leaveK3 (p := 58) va (j := k) (by omega)
    have eb : vb' = vb := Option.some.inj (b1'.symm.trans b1)
    subst eb
    obtain ⟨vc, c1, c2, c3⟩ := C_days b2 (N := N) (by omega)
    have hIc : InvB (rowOf 58 vc) := by rw [c2]; exact daysS_B N b2
    have hn1 : nkS (rowOf 58 vb') = 1 := by simp only [nkS]; rw [b4]; rfl
    have hn3 : ncS (rowOf 58 vb') = ncS (v 1) := by simp only [ncS]; rw [b6 3 (by decide) (by decide), s2.1 3 (by decide)]
    have ks : kSame (rowOf 58 vb') (v 1) 0 k := ⟨by rw [b6 0 (by decide) (by decide)]; exact s2.1 0 (by decide), fun y a b => by rw [b6 y (by omega) (by omega)]; exact s2.1 y (by omega), by omega, hk, fun g hg => by rw [b5 g hg]; exact s2.2.1 k hk g hg⟩
    have tt := alone_t b2 hM hn1 hn3 ks (fun j hj g hg => by rw [b7 _ (by simp only [ci]; omega)]; exact s2.2.2 j hj g (by omega)) N
    have o2 := (a4.trans b3).trans c3
    refine ⟨(fitS (tchB (v 1) N) (k + 1), vc), ?_, rfl, hx.2.1.d o2 hIc, by show vc 1 = v 1; rw [o2 1 (by omega)]; exact hx.2.2⟩
    show L_X5_hush_28 (f + 1) (nI N) (lrnS (v 1)) x.1 (nI k) x.2 = L_X5_hush_28 f (nI N) (lrnS (v 1)) (fitS (tchB (v 1) N) (k + 1)) (nI (k + 1)) vc
    rw [L_X5_hush_28, rd_1 25 x.2, gs.1 1 (by decide), (nk_eq gM).1, if_neg (nI_ge hk (by omega)), a1, bd_s, b1, bd_s, c1, bd_s, C_lrn hIc, bd_s, c2, nI_1, hx.1]
    unfold fitS
    rw [itr_snoc, Nat.zero_add]
    by_cases q : tchB (v 1) N k = true
    · rw [if_neg (Int32.not_le.mpr (tt.mpr (tchB_t.mp q))), if_pos q]
    · rw [if_pos (Int32.not_lt.mp (fun z => q (tchB_t.mpr (tt.mp z)))), if_neg q]
/-! the reference -/
theorem M_nobody {v : VV} (hI : InvB (v 1)) {N : Nat} (hN : N ≤ 200) (S : Int32) : F_X6_nobodyLearns S (nI N) v = some (decide (¬ lrnS (v 1) < lrnS (daysS N (silS (v 1) S (nkS (v 1))))), thk v (v 1)) := by
  obtain ⟨ek, h8⟩ := nk_eq hI
  unfold F_X6_nobodyLearns
  rw [M_lrn hI, bd_s, M_begin, bd_s]
  have big : ∀ n, n ≤ 8 → ∀ y, 92 ≤ y → silS (v 1) S n y = v 1 y := fun n hn y hy => (silS_at (v 1) S n).2 y (fun k hk => by simp only [ki]; omega)
  have e1 : ∀ n, n ≤ 8 → silS (v 1) S n 1 = v 1 1 := fun n hn => (silS_at (v 1) S n).2 1 (fun k hk => by simp only [ki]; omega)
  refine loopR (L := fun f (x : VV) i => L_X6_nobodyLearns_19 f S (nI N) (lrnS (v 1)) i x) (N := nkS (v 1)) (fun k x => x = thk v (silS (v 1) S k)) (fun z => z = some (decide (¬ lrnS (v 1) < lrnS (daysS N (silS (v 1) S (nkS (v 1))))), thk v (v 1))) (fun f x hx => ?_) (fun f k x hk hx => Or.inl ?_) (nkS (v 1)) fu 0 (thk v (v 1)) (by omega) (by unfold fu; omega) rfl
  · subst hx
    show L_X6_nobodyLearns_19 (f + 1) S (nI N) (lrnS (v 1)) (nI (nkS (v 1))) _ = _
    have hB := silS_B hI S h8
    have hb := M_copy31 (v := v) (m' := daysS N (silS (v 1) S (nkS (v 1)))) (fun y hy => by rw [daysS_big N hB hy]; exact big _ h8 y hy)
    rw [L_X6_nobodyLearns_19, thk_1, e1 _ h8, ek, if_pos (nI_le (Nat.le_refl _) (by omega)), M_daysGo (by rw [thk_1]; exact hB) hN, bd_s, thk_1, thk_up, M_lrn (by rw [thk_1]; exact daysS_B N hB), bd_s, thk_1, hb, bd_s, bd_s]
    by_cases q : lrnS (v 1) < lrnS (daysS N (silS (v 1) S (nkS (v 1))))
    · rw [if_pos q, decide_eq_false (fun z => z q)]
    · rw [if_neg q, decide_eq_true q]
  · subst hx
    refine ⟨thk v (silS (v 1) S (k + 1)), ?_, rfl⟩
    show L_X6_nobodyLearns_19 (f + 1) S (nI N) (lrnS (v 1)) (nI k) _ = L_X6_nobodyLearns_19 f S (nI N) (lrnS (v 1)) (nI (k + 1)) _
    rw [L_X6_nobodyLearns_19, thk_1, e1 _ (by omega), ek, if_neg (nI_ge hk (by omega)), bit_shr S k (by omega), kAt5, bd_s, gu_nI (ki_lt (by omega) (by decide)) (by decide), cl_nI (Nat.lt_trans (ki_lt (i := k) (f := 5) (by omega) (by decide)) (by decide)), nI_1, silS_s]
    by_cases q : bt S k = true
    · rw [if_pos q, if_pos rfl, if_pos q, pu_up, thk_1, thk_up]
    · rw [if_neg q, if_neg (by decide), if_neg q]
/-! sets as numbers -/
theorem bt_nI (T : Nat) {k : Nat} (hk : k < 32) : bt (nI T) k = T.testBit k := by
  unfold bt
  show (BitVec.ofNat 32 T).getLsbD k = _
  rw [BitVec.getLsbD_ofNat, decide_eq_true hk, Bool.true_and]
theorem one_sh : ∀ k, k ≤ 11 → (1 : Int32) <<< (nI k &&& 31) = nI (2 ^ k) := by decide +kernel
theorem mask_of (P : Nat → Bool) : ∀ (n : Nat), n ≤ 8 → ∃ s, s < 2 ^ n ∧ fitS P n = nI s ∧ ∀ k, k < n → s.testBit k = P k
  | 0, _ => ⟨0, by decide, rfl, fun k hk => by omega⟩
  | n + 1, h => by
    obtain ⟨s, h1, h2, h3⟩ := mask_of P n (by omega)
    have h4 : 2 ^ n < 2 ^ (n + 1) := Nat.pow_lt_pow_right (by omega) (by omega)
    have e : fitS P (n + 1) = if P n = true then fitS P n ||| (1 <<< (nI n &&& 31)) else fitS P n := by
      unfold fitS
      rw [itr_snoc, Nat.zero_add]
    by_cases q : P n = true
    · refine ⟨s ||| 2 ^ n, Nat.or_lt_two_pow (by omega) h4, by rw [e, if_pos q, h2, one_sh n (by omega), nx_or], fun k hk => ?_⟩
      rw [Nat.testBit_or, Nat.testBit_two_pow]
      by_cases ek : k = n
      · rw [ek, q, decide_eq_true rfl, Bool.or_true]
      · rw [decide_eq_false (fun z => ek z.symm), Bool.or_false]
        exact h3 k (by omega)
    · refine ⟨s, by omega, by rw [e, if_neg q, h2], fun k hk => ?_⟩
      by_cases ek : k = n
      · rw [ek, Nat.testBit_lt_two_pow h1, ft q]
      · exact h3 k (by omega)
theorem sub_nat {s t : Nat} (h : ∀ k, s.testBit k = true → t.testBit k = true) : s ≤ t := by
  have e : s &&& t = s := by
    apply Nat.eq_of_testBit_eq
    intro k
    rw [Nat.testBit_and]
    by_cases q : s.testBit k = true
    · rw [q, h k q]; rfl
    · rw [ft q]; rfl
  rw [← e]
  exact Nat.and_le_right
theorem top_all : ∀ n, n ≤ 8 → ((1 : Int32) <<< (nI n &&& 31)) - 1 = nI (2 ^ n) + (-1) ∧ 2 ^ n ≤ 256 := by decide +kernel
theorem M_hu {v1 : VV} (hR : Rel v1) {N s : Nat} (hN : N ≤ 20) (h1 : s < 2 ^ nkS (v1 1)) (h3 : ∀ k, k < nkS (v1 1) → s.testBit k = tchB (v1 1) N k) : ∃ w, L_X6_hush_30 fu (nI N) (-1) (nI (2 ^ nkS (v1 1)) + (-1)) v1 = some (nI s, w) ∧ Rel w := by
  obtain ⟨hC, hM, hs, hp⟩ := hR.1
  have h8 := (nk_eq hM).2
  have h256 := (top_all _ h8).2
  /- nobody learns where all teachers are within the set -/
  have nob : ∀ t w, w 1 = v1 1 → F_X6_nobodyLearns (nI t) (nI N) w = some (decide (∀ k, k < nkS (v1 1) → tchB (v1 1) N k = true → t.testBit k = true), thk w (w 1)) := fun t w ew => by
    rw [M_nobody (by rw [ew]; exact hM) (by omega), ew]
    congr 2
    apply decide_eq_decide.mpr
    rw [sil_t hM]
    constructor
    · intro q k hk hb
      apply Classical.byContradiction
      intro z
      exact q ⟨k, hk, by rw [bt_nI t (by omega)]; exact z, tchB_t.mp hb⟩
    · rintro q ⟨k, hk, z, hb⟩
      rw [bt_nI t (by omega)] at z
      exact z (q k hk (tchB_t.mpr hb))
  have sk : ∀ T : Nat, (∀ k, k < nkS (v1 1) → tchB (v1 1) N k = true → T.testBit k = true) → ∀ k, s.testBit k = true → T.testBit k = true := fun T hT k hk => by
    by_cases q : k < nkS (v1 1)
    · exact hT k q (by rw [← h3 k q]; exact hk)
    · rw [Nat.testBit_lt_two_pow (Nat.lt_of_lt_of_le h1 (Nat.pow_le_pow_right (by omega) (by omega)))] at hk
      cases hk
  have own : ∀ k, k < nkS (v1 1) → tchB (v1 1) N k = true → s.testBit k = true := fun k hk q => by rw [h3 k hk]; exact q
  have thk' : ∀ w : VV, (∀ i, i ≠ 3 → w i = v1 i) → ∀ i, i ≠ 3 → thk w (w 1) i = v1 i := fun w hw i h3 => by rw [thk_ne w h3]; exact hw i h3
  refine loopD (L := fun f (x : Int32 × VV) i => L_X6_hush_30 f (nI N) x.1 i x.2) (fun k x => k ≤ 256 ∧ (∀ i, i ≠ 3 → x.2 i = v1 i) ∧ (k ≤ s → x.1 = nI s) ∧ (s < k → x.1 = -1 ∨ ∃ T, T < 256 ∧ x.1 = nI T ∧ ∀ k, k < nkS (v1 1) → tchB (v1 1) N k = true → T.testBit k = true)) (fun z => ∃ w, z = some (nI s, w) ∧ Rel w) (fun f x hx => ?_) (fun f t x hx => Or.inl ?_) (2 ^ nkS (v1 1)) fu (-1, v1) (by unfold fu; omega) ⟨h256, fun _ _ => rfl, fun z => by omega, fun _ => Or.inl rfl⟩
  · refine ⟨x.2, ?_, hR.x (fun i q _ _ _ => hx.2.1 i q) (by rw [hx.2.1 0 (by decide)]) (by rw [hx.2.1 0 (by decide)])⟩
    show L_X6_hush_30 (f + 1) (nI N) x.1 (-1) x.2 = _
    rw [L_X6_hush_30, if_pos (by decide), hx.2.2.1 (by omega), orN1 (by omega), bd_s]
  · obtain ⟨x2, w⟩ := x
    obtain ⟨k1, hw, hx1, hx2⟩ := hx
    dsimp only at hw hx1 hx2
    have ew : w 1 = v1 1 := hw 1 (by decide)
    show ∃ y : Int32 × VV, L_X6_hush_30 (f + 1) (nI N) x2 (nI t) w = L_X6_hush_30 f (nI N) y.1 (nI t + (-1)) y.2 ∧ _
    rw [L_X6_hush_30, if_neg (nI_pos (by omega))]
    /- after a test of this set -/
    have tst : ∀ y2 : Int32, ((∀ k, k < nkS (v1 1) → tchB (v1 1) N k = true → t.testBit k = true) → y2 = nI t) → (¬ (∀ k, k < nkS (v1 1) → tchB (v1 1) N k = true → t.testBit k = true) → y2 = x2) → (t ≤ s → y2 = nI s) ∧ (s < t → y2 = -1 ∨ ∃ T, T < 256 ∧ y2 = nI T ∧ ∀ k, k < nkS (v1 1) → tchB (v1 1) N k = true → T.testBit k = true) := by
      intro y2 ya yb
      refine ⟨fun hts => ?_, fun hst => ?_⟩
      · by_cases e : t = s
        · rw [e] at ya; exact ya own
        · rw [yb (fun q => by have := sub_nat (sk t q); omega)]
          exact hx1 (by omega)
      · by_cases q : ∀ k, k < nkS (v1 1) → tchB (v1 1) N k = true → t.testBit k = true
        · exact Or.inr ⟨t, by omega, ya q, q⟩
        · rw [yb q]; exact hx2 (by omega)
    have go : (Option.bind (F_X6_nobodyLearns (nI t) (nI N) w) (fun (r11, v12) => (if r11 = true then (L_X6_hush_30 f (nI N) (nI t) (nI t + (-1)) v12) else (L_X6_hush_30 f (nI N) x2 (nI t + (-1)) v12)))) = L_X6_hush_30 f (nI N) (if decide (∀ k, k < nkS (v1 1) → tchB (v1 1) N k = true → t.testBit k = true) = true then nI t else x2) (nI t + (-1)) (thk w (w 1)) := by
      rw [nob t w ew, bd_s]
      dsimp only
      split <;> rfl
    have fin : ∃ y : Int32 × VV, (Option.bind (F_X6_nobodyLearns (nI t) (nI N) w) (fun (r11, v12) => (if r11 = true then (L_X6_hush_30 f (nI N) (nI t) (nI t + (-1)) v12) else (L_X6_hush_30 f (nI N) x2 (nI t + (-1)) v12)))) = L_X6_hush_30 f (nI N) y.1 (nI t + (-1)) y.2 ∧ t ≤ 256 ∧ (∀ i, i ≠ 3 → y.2 i = v1 i) ∧ (t ≤ s → y.1 = nI s) ∧ (s < t → y.1 = -1 ∨ ∃ T, T < 256 ∧ y.1 = nI T ∧ ∀ k, k < nkS (v1 1) → tchB (v1 1) N k = true → T.testBit k = true) := by
      have := tst (if decide (∀ k, k < nkS (v1 1) → tchB (v1 1) N k = true → t.testBit k = true) = true then nI t else x2) (fun q => if_pos (decide_eq_true q)) (fun q => if_neg (by rw [decide_eq_false q]; decide))
      exact ⟨(_, thk w (w 1)), go, by omega, thk' w hw, this.1, this.2⟩
    by_cases neg : x2 < 0
    · rw [if_pos neg]
      exact fin
    · rw [if_neg neg]
      have hT : ∃ T, T < 256 ∧ x2 = nI T ∧ ∀ k, k < nkS (v1 1) → tchB (v1 1) N k = true → T.testBit k = true := by
        by_cases q : s < t + 1
        · rcases hx2 q with z | z
          · rw [z] at neg; exact absurd (by decide) neg
          · exact z
        · exact ⟨s, by omega, hx1 (by omega), own⟩
      obtain ⟨T, T1, T2, T3⟩ := hT
      have b2 : F_X6_bits x2 w = some (nI (popN (nI T))) := by rw [T2, M_bits (by omega), pop_eq (by omega)]
      have b1 : F_X6_bits (nI t) w = some (nI (popN (nI t))) := by rw [M_bits (by omega), pop_eq (by omega)]
      have p1 := popN_bd (nI t)
      have p2 := popN_bd (nI T)
      rw [b1, bd_s, b2, bd_s]
      by_cases lt : popN (nI T) < popN (nI t)
      · rw [if_pos (nI_lt lt (by omega))]
        refine ⟨(x2, w), rfl, by omega, hw, fun hts => ?_, fun hst => hx2 (by omega)⟩
        by_cases e : t = s
        · subst e
          have := pop_le (a := nI t) (b := nI T) (fun i hi q => by rw [bt_nI T hi]; rw [bt_nI t hi] at q; exact sk T T3 i q)
          omega
        · exact hx1 (by omega)
      · rw [if_neg (nI_nlt (by omega) (by omega))]
        exact fin
theorem st_hush {v : VV} (h : Rel v) (a : Int32) : StP (F_X5_hush a) (F_X6_hush a) v := by
  obtain ⟨hC, hM, hs, hp⟩ := h.1
  have h8 := (nk_eq hM).2
  by_cases ha : inR a 21 = true
  · obtain ⟨N, hN, rfl⟩ := inR_t ha (by decide)
    obtain ⟨v1, c1, c2, c3⟩ := C_huL h (N := N) (by omega)
    obtain ⟨s, s1, s2, s3⟩ := mask_of (tchB (v 1) N) (nkS (v 1)) h8
    obtain ⟨w, m1, m2⟩ := M_hu c2 (N := N) (s := s) (by omega) (by rw [c3]; exact s1) (by rw [c3]; exact s3)
    rw [c3] at m1
    rw [s2] at c1
    refine ⟨nI s, v1, w, ?_, ?_, m2⟩
    · unfold F_X5_hush
      rw [upTo (b := 20) 20 rfl (by decide), bd_s, if_pos ha, C_lrn hC, bd_s, sim_lrn hs, c1]
    · unfold F_X6_hush
      rw [wit (b := 20) 20 rfl (by decide), bd_s, if_pos ha, c3, (nk_eq hM).1, (top_all _ h8).1, m1]
  · refine st_f0 h ?_ (fun v1 e1 => ?_)
    · unfold F_X5_hush
      rw [upTo (b := 20) 20 rfl (by decide), bd_s, if_neg ha]
    · unfold F_X6_hush
      rw [wit (b := 20) 20 rfl (by decide), bd_s, if_neg ha]
