/-! PURE PART 29: text -/
theorem wd_one : ∀ k, k < 7 → ∀ j, j < 7 → lnS k = lnS j → (∀ i, i < 6 → chS k i = chS j i) → k = j := by decide +kernel
theorem ch_end : ∀ k, k < 7 → ∀ i, i < 6 → lnS k ≤ i → chS k i = 0 := by decide +kernel
theorem isW_uniq {t p k j : Nat} {b : Nat → Nat} (hk : k < 7) (hj : j < 7) (h1 : isW t b k p = true) (h2 : isW t b j p = true) : k = j := by
  obtain ⟨-, a2, a3⟩ := (of_decide_eq_true h1 : _ ∧ _ ∧ _)
  obtain ⟨-, b2, b3⟩ := (of_decide_eq_true h2 : _ ∧ _ ∧ _)
  have el : lnS k = lnS j := by rw [← a2, ← b2]
  refine wd_one k hk j hj el (fun i hi => ?_)
  by_cases q : i < lnS k
  · rw [← a3 i q, ← b3 i (by omega)]
  · rw [ch_end k hk i hi (by omega), ch_end j hj i hi (by omega)]
theorem M_rdF {t p n nk nc : Nat} {b : Nat → Nat} {w : VV} (h : MS t b w p 0) (hp : p ≤ t) (hn : n < 120) (hc : Ct w n nk nc) : ∃ w', Option.bind (F_X6_takesWord 8 w) (fun (r7, v8) => (if r7 = true then (Option.bind (F_X6_number 0 5 v8) (fun (r15, v16) => Option.bind (F_X6_number 0 9 v16) (fun (r19, v20) => Option.bind (F_X6_addItem 11 r15 r19 0 0 v20) (fun v24 => some v24)))) else (Option.bind (F_X6_must 0 v8) (fun v13 => some v13)))) = some w' ∧ Po t b w w' n nk nc (if isW t b 8 p = true then itFg t b p else (false, z5, p)) := by
  obtain ⟨e1, e2⟩ := tkE_le b hp h.1.1
  obtain ⟨f1, f2⟩ := tkE_le b e2 h.1.1
  obtain ⟨w1, a1, a2, a3⟩ := M_tak0 (k := 8) h hp (by decide)
  rw [a1, bd_s]
  dsimp only
  by_cases q : isW t b 8 p = true
  · rw [if_pos q] at a2
    rw [if_pos q, if_pos q]
    have add : ∀ (w2 : VV) (x y : Int32), w2 0 14 = nI n → ∃ w3, F_X6_addItem 11 x y 0 0 w2 = some w3 ∧ Sx w2 w3 ∧ (∀ s, s < 14 → w3 0 s = w2 0 s) ∧ w3 5 = w2 5 ∧ w3 0 14 = nI (n + 1) ∧ w3 0 15 = w2 0 15 ∧ w3 0 16 = w2 0 16 ∧ (∀ z, z < 5 * n → w3 6 z = w2 6 z) ∧ w3 6 (5 * n) = 11 ∧ w3 6 (5 * n + 1) = x ∧ w3 6 (5 * n + 2) = y ∧ w3 6 (5 * n + 3) = 0 ∧ w3 6 (5 * n + 4) = 0 := fun w2 x y h14 => by
      obtain ⟨w3, b1, b2, b3, b4, b5, b6, b7, b8, b9, b10⟩ := M_add hn h14 11 x y 0 0
      exact ⟨w3, b1, ⟨b4, fun s hs => b3 s (by omega)⟩, fun s hs => b3 s (by omega), b4 5 (by decide) (by decide), b2, b3 15 (by decide), b3 16 (by decide), b5, b6, b7, b8, b9, b10⟩
    unfold itFg
    obtain ⟨x, w2, c1, c2, c3, c4⟩ := M_num0 (top := 5) a2 e2 (by decide)
    have c1' : F_X6_number 0 5 w1 = _ := c1
    rw [c1', bd_s]
    dsimp only
    by_cases q1 : nOK t b 5 (tkE t b p) = true
    · obtain ⟨ex, hs2⟩ := c3 q1
      rw [if_pos q1]
      obtain ⟨y, w3, d1, d2, d3, d4⟩ := M_num0 (top := 9) hs2 f2 (by decide)
      have d1' : F_X6_number 0 9 w2 = _ := d1
      have hc3 := Ct_mv (Ct_mv (Ct_mv hc a3) c2) d2
      obtain ⟨w4, g1, g2, g3, g5, g14, g15, g16, gy, g6, g7, g8, g9, g10⟩ := add w3 x y hc3.1
      rw [d1', bd_s]
      dsimp only
      rw [g1, bd_s]
      have pre : ∀ r, Po t b w3 w4 n nk nc r → Po t b w w4 n nk nc r := fun r hr => Po_pre a3 (Po_pre c2 (Po_pre d2 hr))
      by_cases q2 : nOK t b 9 (tkE t b (tkE t b p)) = true
      · obtain ⟨ey, hs3⟩ := d3 q2
        rw [if_pos q2]
        refine ⟨w4, rfl, pre _ ⟨g2, fun _ => ⟨MS_mv hs3 g5 g3, ⟨g14, ?_, ?_⟩, ⟨g6, by rw [g7, ex], by rw [g8, ey], g9, g10⟩, gy⟩, fun z => absurd rfl z⟩⟩
        · rw [g15, hc3.2.1, if_neg (show ¬ (11 : Nat) ≤ 6 by decide)]
        · rw [g16, hc3.2.2, if_neg (show ¬ (11 : Nat) = 10 by decide)]
      · rw [if_neg q2]
        exact ⟨w4, rfl, pre _ ⟨g2, fun z => (by cases z), fun _ => MS_mv (d4 q2) g5 g3⟩⟩
    · rw [if_neg q1]
      obtain ⟨y, w3, d1, d2, d3⟩ := M_numF (c4 q1) 0 9
      have hc3 := Ct_mv (Ct_mv (Ct_mv hc a3) c2) d2
      obtain ⟨w4, g1, g2, g3, g5, -⟩ := add w3 x y hc3.1
      rw [d1, bd_s]
      dsimp only
      rw [g1, bd_s]
      exact ⟨w4, rfl, ((a3.sx.tr c2.sx).tr d2.sx).tr g2, fun z => (by cases z), fun _ => MS_mv d3 g5 g3⟩
  · rw [if_neg q] at a2
    rw [if_neg q, if_neg q]
    obtain ⟨w2, b1, b2, b3⟩ := M_must0 a2
    rw [b1, bd_s]
    exact ⟨w2, rfl, a3.sx.tr b3.sx, fun z => (by cases z), fun _ => b2⟩
theorem M_rdItem {t p n nk nc : Nat} {b : Nat → Nat} {w : VV} (h : MS t b w p 0) (hp : p ≤ t) (hn : n < 120) (hc : Ct w n nk nc) (hnk : nk ≤ 8) (hnc : nc ≤ 6) : ∃ w', F_X6_readItem w = some w' ∧ Po t b w w' n nk nc (itS t b nk nc p) := by
  obtain ⟨k1, k2, k3⟩ := kw_sp t b p
  unfold F_X6_readItem
  refine loopR (L := fun f (x : Int32) i => L_X6_readItem_4 f x i w) (N := 7) (fun j x => x = if kwN t b p < j then nI (kwN t b p) else -1) (fun z => ∃ w', z = some w' ∧ Po t b w w' n nk nc (itS t b nk nc p)) (fun f x hx => ?_) (fun f j x hj hx => Or.inl ?_) 7 fu 0 (-1) (by omega) (by unfold fu; omega) (by rw [if_neg (by omega)])
  · show ∃ w', L_X6_readItem_4 (f + 1) x (nI 7) w = some w' ∧ _
    rw [L_X6_readItem_4, if_pos (nI_le (Nat.le_refl _) (by decide)), hx]
    unfold itS
    by_cases q : kwN t b p < 7
    · rw [if_pos q, if_pos q, if_neg (nI_pos (by omega))]
      obtain ⟨w', a1, a2⟩ := M_rdK h hp hn hc hnk (k := kwN t b p) (by omega)
      rw [a1, bd_s]
      exact ⟨w', rfl, a2⟩
    · rw [if_neg q, if_neg q, if_pos (by decide), M_isWord h.1 h.2.1 hp (by decide), bd_s]
      by_cases q7 : isW t b 7 p = true
      · rw [if_pos q7, if_pos q7]
        obtain ⟨w', a1, a2⟩ := M_rdC h hp hn hc hnc
        rw [a1, bd_s]
        exact ⟨w', rfl, a2⟩
      · rw [if_neg q7, if_neg q7]
        exact M_rdF h hp hn hc
  · refine ⟨if kwN t b p < j + 1 then nI (kwN t b p) else -1, ?_, rfl⟩
    show L_X6_readItem_4 (f + 1) x (nI j) w = L_X6_readItem_4 f _ (nI (j + 1)) w
    rw [L_X6_readItem_4, if_neg (nI_ge hj (by decide)), gu_nI hj (by decide), cl_nI (n := j) (by omega), M_isWord h.1 h.2.1 hp (by omega), bd_s, nI_1, hx]
    by_cases q : isW t b j p = true
    · rw [if_pos q]
      have ej : kwN t b p = j := by
        have : ¬ j < kwN t b p := fun z => k2 j z q
        have k7 : kwN t b p < 7 := by omega
        exact isW_uniq k7 hj (k3 k7) q
      rw [ej, if_pos (by omega)]
    · rw [if_neg q]
      by_cases e : kwN t b p = j
      · have := k3 (by omega)
        rw [e] at this
        exact absurd this q
      · by_cases z : kwN t b p < j
        · rw [if_pos z, if_pos (by omega)]
        · rw [if_neg z, if_neg (by omega)]
/-! the whole text -/
def prs (t : Nat) (b : Nat → Nat) : Nat → Nat → Nat → Nat → List I5 × Nat × Bool
  | 0, p, _, _ => ([], p, false)
  | f + 1, p, nk, nc =>
    if (itS t b nk nc p).1 = true then
      if tkK t b (itS t b nk nc p).2.2 = 0 then ([(itS t b nk nc p).2.1], (itS t b nk nc p).2.2, true)
      else if tkK t b (itS t b nk nc p).2.2 = 3 then
        ((itS t b nk nc p).2.1 :: (prs t b f (tkE t b (itS t b nk nc p).2.2) (if (itS t b nk nc p).2.1.1 ≤ 6 then nk + 1 else nk) (if (itS t b nk nc p).2.1.1 = 10 then nc + 1 else nc)).1, (prs t b f (tkE t b (itS t b nk nc p).2.2) (if (itS t b nk nc p).2.1.1 ≤ 6 then nk + 1 else nk) (if (itS t b nk nc p).2.1.1 = 10 then nc + 1 else nc)).2.1, (prs t b f (tkE t b (itS t b nk nc p).2.2) (if (itS t b nk nc p).2.1.1 ≤ 6 then nk + 1 else nk) (if (itS t b nk nc p).2.1.1 = 10 then nc + 1 else nc)).2.2)
      else ([], (itS t b nk nc p).2.2, false)
    else ([], (itS t b nk nc p).2.2, false)
def fld (L : List I5) (c : RW) : RW := L.foldl (fun c I => apN I c) c
def okL : List I5 → RW → Prop
  | [], _ => True
  | I :: L, c => itOK I (nkS c) (ncS c) ∧ okL L (apN I c)
theorem fld_B : ∀ (L : List I5) {c : RW}, InvB c → okL L c → InvB (fld L c)
  | [], _, h, _ => h
  | _ :: L, _, h, ok => fld_B L (apN_B h ok.1) ok.2
theorem okL_sim : ∀ (L : List I5) {c m : RW}, sim c m → InvB m → okL L c → okL L m
  | [], _, _, _, _, _ => trivial
  | I :: L, c, m, hs, hm, ok => by
    have o1 : itOK I (nkS m) (ncS m) := by rw [← sim_nk hs, ← sim_nc hs]; exact ok.1
    exact ⟨o1, okL_sim L (sim_ap hs hm o1) (apN_B hm o1) ok.2⟩
theorem fld_sim : ∀ (L : List I5) {c m : RW}, sim c m → InvB m → SpOK m → okL L m → sim (fld L c) (fld L m) ∧ SpOK (fld L m)
  | [], _, _, hs, _, hp, _ => ⟨hs, hp⟩
  | _ :: L, _, _, hs, hm, hp, ok => fld_sim L (sim_ap hs hm ok.1) (apN_B hm ok.1) (Sp_ap hp hm ok.1) ok.2
theorem neg_all : ∀ B, B ≤ 120 → (-1 : Int32) - nI B < 0 := by decide +kernel
theorem C_text {t : Nat} {b : Nat → Nat} : ∀ (f g n p : Nat) (v : VV), f + n = 121 → 1 ≤ n → 2 * n ≤ p + 2 → f < g → p ≤ t → TxC t b v → v 23 4 = nI p → InvB (rowOf 58 v) → ∃ v', L_X4_readOnto_7 g 58 (nI n) v = some (if (prs t b f p (nkS (rowOf 58 v)) (ncS (rowOf 58 v))).2.2 = true then nI (n - 1 + (prs t b f p (nkS (rowOf 58 v)) (ncS (rowOf 58 v))).1.length) else (-1) - nI (tkB t b (prs t b f p (nkS (rowOf 58 v)) (ncS (rowOf 58 v))).2.1), v') ∧ InvB (rowOf 58 v') ∧ Ot v v' ∧ (prs t b f p (nkS (rowOf 58 v)) (ncS (rowOf 58 v))).2.1 ≤ t ∧ (prs t b f p (nkS (rowOf 58 v)) (ncS (rowOf 58 v))).1.length ≤ f ∧ okL (prs t b f p (nkS (rowOf 58 v)) (ncS (rowOf 58 v))).1 (rowOf 58 v) ∧ ((prs t b f p (nkS (rowOf 58 v)) (ncS (rowOf 58 v))).2.2 = true → rowOf 58 v' = fld (prs t b f p (nkS (rowOf 58 v)) (ncS (rowOf 58 v))).1 (rowOf 58 v)) := by
  intro f
  induction f with
  | zero =>
    intro g n p v hfn h1 h2 hg hp hx h4 hI
    have := hx.1
    omega
  | succ f ih =>
    intro g n p v hfn h1 h2 hg hp hx h4 hI
    have ht := hx.1
    obtain ⟨g, rfl⟩ : ∃ z, g = z + 1 := ⟨g - 1, by omega⟩
    obtain ⟨va, a1, a2, a3, a4⟩ := C_step hx hp h4
    have ca : Cs t b va p := ⟨TxC_mv hx a3 (a4 24 (by decide)), a2⟩
    obtain ⟨oa, ra⟩ := Ot_23 a4
    obtain ⟨vb, b1, b2, b3, b4, b5⟩ := C_rdItem ca hp (by rw [ra]; exact hI)
    rw [ra] at b1 b2 b5
    obtain ⟨i1, i2⟩ := itS_ok (b := b) hp ht (nkS (rowOf 58 v)) (ncS (rowOf 58 v))
    rw [L_X4_readOnto_7, if_neg (by rw [show (120 : Int32) = nI 120 from rfl]; exact nI_nlt (by omega) (by omega)), a1, bd_s, b1, bd_s]
    dsimp only
    unfold prs
    by_cases q : (itS t b (nkS (rowOf 58 v)) (ncS (rowOf 58 v)) p).1 = true
    · obtain ⟨j1, j2⟩ := i2 q
      have b5' := b5 q
      have hK := tkK_le t b (itS t b (nkS (rowOf 58 v)) (ncS (rowOf 58 v)) p).2.2
      rw [if_pos q, if_pos q, b2.2.1]
      by_cases q0 : tkK t b (itS t b (nkS (rowOf 58 v)) (ncS (rowOf 58 v)) p).2.2 = 0
      · rw [if_pos (show nI (tkK t b (itS t b (nkS (rowOf 58 v)) (ncS (rowOf 58 v)) p).2.2) = 0 by rw [q0]; rfl), if_pos q0]
        refine ⟨vb, ?_, b3, oa.tr b4, i1, by show 1 ≤ f + 1; omega, ⟨j1, trivial⟩, fun _ => b5'⟩
        rw [if_pos rfl]
        show some (nI n, vb) = some (nI (n - 1 + 1), vb)
        rw [show n - 1 + 1 = n by omega]
      · rw [if_neg (show ¬ nI (tkK t b (itS t b (nkS (rowOf 58 v)) (ncS (rowOf 58 v)) p).2.2) = 0 from fun z => q0 ((nI_eq (b := 0) (by omega) (by decide)).mp z)), if_neg q0]
        by_cases q3 : tkK t b (itS t b (nkS (rowOf 58 v)) (ncS (rowOf 58 v)) p).2.2 = 3
        · rw [if_pos (show nI (tkK t b (itS t b (nkS (rowOf 58 v)) (ncS (rowOf 58 v)) p).2.2) = 3 by rw [q3]; rfl), if_pos q3, nI_1]
          obtain ⟨m1, m2⟩ := tkE_le b i1 ht
          have m3 := (tkE_sp b i1 ht).2.2 (by rw [q3]; decide)
          have m4 := (tkB_sp b i1 ht).1
          obtain ⟨c1, c2⟩ := ap_nk hI j1
          have en : nkS (rowOf 58 vb) = (if (itS t b (nkS (rowOf 58 v)) (ncS (rowOf 58 v)) p).2.1.1 ≤ 6 then nkS (rowOf 58 v) + 1 else nkS (rowOf 58 v)) := by rw [b5']; exact c1
          have ec : ncS (rowOf 58 vb) = (if (itS t b (nkS (rowOf 58 v)) (ncS (rowOf 58 v)) p).2.1.1 = 10 then ncS (rowOf 58 v) + 1 else ncS (rowOf 58 v)) := by rw [b5']; exact c2
          obtain ⟨v', d1, d2, d3, d4, d5, d6, d7⟩ := ih g (n + 1) (tkE t b (itS t b (nkS (rowOf 58 v)) (ncS (rowOf 58 v)) p).2.2) vb (by omega) (by omega) (by omega) (by omega) m2 b2.1 b2.2.2.2.1 b3
          rw [en, ec] at d1 d4 d5 d6 d7
          rw [b5'] at d6 d7
          generalize prs t b f (tkE t b (itS t b (nkS (rowOf 58 v)) (ncS (rowOf 58 v)) p).2.2) (if (itS t b (nkS (rowOf 58 v)) (ncS (rowOf 58 v)) p).2.1.1 ≤ 6 then nkS (rowOf 58 v) + 1 else nkS (rowOf 58 v)) (if (itS t b (nkS (rowOf 58 v)) (ncS (rowOf 58 v)) p).2.1.1 = 10 then ncS (rowOf 58 v) + 1 else ncS (rowOf 58 v)) = R at d1 d4 d5 d6 d7 ⊢
          refine ⟨v', ?_, d2, (oa.tr b4).tr d3, d4, by show R.1.length + 1 ≤ f + 1; omega, ⟨j1, d6⟩, d7⟩
          rw [d1]
          dsimp only
          rw [List.length_cons, show n + 1 - 1 + R.1.length = n - 1 + (R.1.length + 1) by omega]
        · rw [if_neg (show ¬ nI (tkK t b (itS t b (nkS (rowOf 58 v)) (ncS (rowOf 58 v)) p).2.2) = 3 from fun z => q3 ((nI_eq (b := 3) (by omega) (by decide)).mp z)), if_neg q3, b2.2.2.1]
          exact ⟨vb, rfl, b3, oa.tr b4, i1, by show 0 ≤ f + 1; omega, trivial, fun z => (by cases z)⟩
    · rw [if_neg q, if_neg q, b2.2.2.1]
      exact ⟨vb, rfl, b3, oa.tr b4, i1, by show 0 ≤ f + 1; omega, trivial, fun z => (by cases z)⟩
/-! the reference's loop -/
def Sy (w w' : VV) : Prop := (∀ i, i ≠ 0 → i ≠ 6 → w' i = w i) ∧ w' 0 3 = w 0 3 ∧ w' 0 6 = 0
theorem MT_k0 {t p : Nat} {b : Nat → Nat} {w : VV} (h : MT t b w p) : (w 0 9 = 0) ↔ tkK t b p = 0 := by
  have h4 := tkK_le t b p
  rw [h.1]
  by_cases q : tkK t b p = 4
  · rw [if_pos q, q]; decide
  · rw [if_neg q, show (0 : Int32) = nI 0 from rfl, nI_eq (by omega) (by decide)]
theorem tk3 {t p : Nat} {b : Nat → Nat} (hk : tkK t b p = 3 ∨ tkK t b p = 4) : tkB t b p < t ∧ (tkK t b p = 3 ↔ b (tkB t b p) = 59) := by
  unfold tkK at hk ⊢
  by_cases q : t ≤ tkB t b p
  · rw [if_pos q] at hk; omega
  · rw [if_neg q] at hk ⊢
    by_cases q1 : isL (b (tkB t b p)) = true
    · rw [if_pos q1] at hk; omega
    · rw [if_neg q1] at hk ⊢
      by_cases q2 : isD (b (tkB t b p)) = true
      · rw [if_pos q2] at hk; omega
      · rw [if_neg q2]
        by_cases q3 : b (tkB t b p) = 59
        · rw [if_pos q3]; exact ⟨by omega, fun _ => q3, fun _ => rfl⟩
        · rw [if_neg q3]; exact ⟨by omega, fun z => by omega, fun z => absurd z q3⟩
theorem tx_F {t p : Nat} {b : Nat → Nat} {w : VV} (h : MS t b w p 1) (g : Nat) : ∃ w', L_X6_text_43 (g + 1) w = some ((-1) - nI (tkB t b p), w') ∧ Sy w w' := by
  rw [L_X6_text_43, if_neg (by rw [h.2.2]; decide)]
  have fin : ∀ a, ∃ w', Option.bind (F_X6_must a w) (fun v19 => (if ((pu v19 0 6 0) 0 11) = 0 then (L_X6_text_121 fu 0 (pu v19 0 6 0)) else (some ((-1) - ((pu v19 0 6 0) 0 7), pu v19 0 6 0)))) = some ((-1) - nI (tkB t b p), w') ∧ Sy w w' := fun a => by
    obtain ⟨w1, a1, a2, a3⟩ := M_mustF h a
    have e : ∀ s, s ≠ 6 → pu w1 0 6 0 0 s = w1 0 s := fun s hs => by rw [pu_self, upd_ne _ _ hs]
    rw [a1, bd_s, if_neg (by rw [e 11 (by decide), a2.2.2]; decide), e 7 (by decide), a2.2.1.2.1]
    exact ⟨_, rfl, fun i h0 h6 => by rw [pu_ne _ _ _ h0]; exact a3.1 i h0, by rw [e 3 (by decide)]; exact a3.2 3 (by decide) (by decide) (by decide) (by decide) (by decide), by rw [pu_self, upd_self]⟩
  split
  · exact fin 1
  · exact fin 0
theorem tx_0 {t p : Nat} {b : Nat → Nat} {w : VV} (h : MS t b w p 0) (hp : p ≤ t) (g : Nat) : (tkK t b p = 3 → L_X6_text_43 (g + 1) w = Option.bind (F_X6_must 1 w) (fun v44 => Option.bind (F_X6_readItem v44) (fun v47 => L_X6_text_43 g v47))) ∧ (tkK t b p = 0 → ∃ w1, F_X6_must 1 w = some w1 ∧ L_X6_text_43 (g + 1) w = L_X6_text_121 fu 0 (pu w1 0 6 0) ∧ Sm w w1) ∧ (tkK t b p ≠ 3 → tkK t b p ≠ 0 → ∃ w', L_X6_text_43 (g + 1) w = some ((-1) - nI (tkB t b p), w') ∧ Sy w w') := by
  have h4 := tkK_le t b p
  have h120 := h.1.1
  have bad : ∃ w', Option.bind (F_X6_must 0 w) (fun v19 => (if ((pu v19 0 6 0) 0 11) = 0 then (L_X6_text_121 fu 0 (pu v19 0 6 0)) else (some ((-1) - ((pu v19 0 6 0) 0 7), pu v19 0 6 0)))) = some ((-1) - nI (tkB t b p), w') ∧ Sy w w' := by
    obtain ⟨w1, a1, a2, a3⟩ := M_must0 h
    have e : ∀ s, s ≠ 6 → pu w1 0 6 0 0 s = w1 0 s := fun s hs => by rw [pu_self, upd_ne _ _ hs]
    rw [a1, bd_s, if_neg (by rw [e 11 (by decide), a2.2.2]; decide), e 7 (by decide), a2.2.1.2.1]
    exact ⟨_, rfl, fun i h0 h6 => by rw [pu_ne _ _ _ h0]; exact a3.1 i h0, by rw [e 3 (by decide)]; exact a3.2 3 (by decide) (by decide) (by decide) (by decide) (by decide), by rw [pu_self, upd_self]⟩
  rw [L_X6_text_43, if_pos (by rw [h.2.2]; rfl)]
  have hk0 := MT_k0 h.2.1
  refine ⟨fun q => ?_, fun q => ?_, fun q3 q0 => ?_⟩
  · have e9 : w 0 9 = 3 := by rw [h.2.1.1, q]; rfl
    obtain ⟨lt, t59⟩ := tk3 (b := b) (Or.inl q)
    obtain ⟨b1, b2⟩ := h.1.2.2 (tkB t b p) lt
    rw [if_pos e9, h.2.1.2.1, gu_nI (by omega) (by decide), cl_nI (by omega), b2, if_pos ((byt_all _ b1).2.2.2.2.2.2.2.1.mpr (t59.mp q))]
  · have e9 : w 0 9 = 0 := hk0.mpr q
    obtain ⟨w1, a1, a2, a3⟩ := M_must1 h hp
    refine ⟨w1, a1, ?_, a3⟩
    rw [if_neg (by rw [e9]; decide), if_pos e9, a1, bd_s, if_pos (by rw [pu_self, upd_ne _ _ (by decide), a2.2.2]; rfl)]
  · have e9 : ¬ w 0 9 = 0 := fun z => q0 (hk0.mp z)
    by_cases q4 : tkK t b p = 4
    · have e3 : w 0 9 = 3 := by rw [h.2.1.1, if_pos q4]; rfl
      obtain ⟨lt, t59⟩ := tk3 (b := b) (Or.inr q4)
      obtain ⟨b1, b2⟩ := h.1.2.2 (tkB t b p) lt
      rw [if_pos e3, h.2.1.2.1, gu_nI (by omega) (by decide), cl_nI (by omega), b2, if_neg (fun z => q3 (t59.mpr ((byt_all _ b1).2.2.2.2.2.2.2.1.mp z))), if_neg e9]
      exact bad
    · have e3 : ¬ w 0 9 = 3 := by
        rw [h.2.1.1, if_neg q4]
        exact fun z => q3 ((nI_eq (b := 3) (by omega) (by decide)).mp z)
      rw [if_neg e3, if_neg e9]
      exact bad
theorem itAt_mv {w w' : VV} {n m : Nat} {I : I5} (h : itAt w m I) (hm : m < n) (he : ∀ y, y < 5 * n → w' 6 y = w 6 y) : itAt w' m I := by
  unfold itAt
  rw [he _ (by omega), he _ (by omega), he _ (by omega), he _ (by omega), he _ (by omega)]
  exact h
theorem M_text {t : Nat} {b : Nat → Nat} : ∀ (f g n p nk nc : Nat) (w : VV), f + n = 120 → 2 * n ≤ p → f + 1 < g → p ≤ t → nk ≤ 8 → nc ≤ 6 → MS t b w p 0 → Ct w n nk nc → ∃ w', Option.bind (F_X6_readItem w) (fun v6 => L_X6_text_43 g v6) = (if (prs t b f p nk nc).2.2 = true then L_X6_text_121 fu 0 w' else some ((-1) - nI (tkB t b (prs t b f p nk nc).2.1), w')) ∧ Sy w w' ∧ ((prs t b f p nk nc).2.2 = true → w' 0 14 = nI (n + (prs t b f p nk nc).1.length) ∧ (∀ i, i < (prs t b f p nk nc).1.length → itAt w' (n + i) ((prs t b f p nk nc).1.getD i z5)) ∧ ∀ y, y < 5 * n → w' 6 y = w 6 y) := by
  intro f
  induction f with
  | zero =>
    intro g n p nk nc w hfn h2 hg hp hnk hnc hS hC
    have := hS.1.1
    omega
  | succ f ih =>
    intro g n p nk nc w hfn h2 hg hp hnk hnc hS hC
    have ht := hS.1.1
    obtain ⟨g, rfl⟩ : ∃ z, g = z + 1 := ⟨g - 1, by omega⟩
    obtain ⟨w1, a1, a2⟩ := M_rdItem hS hp (by omega) hC hnk hnc
    obtain ⟨i1, i2⟩ := itS_ok (b := b) hp ht nk nc
    rw [a1, bd_s]
    unfold prs
    by_cases q : (itS t b nk nc p).1 = true
    · obtain ⟨j1, j2⟩ := i2 q
      obtain ⟨s1, r1, r2, r3⟩ := a2.2.1 q
      obtain ⟨x3, x0, xo⟩ := tx_0 s1 i1 g
      rw [if_pos q]
      by_cases q0 : tkK t b (itS t b nk nc p).2.2 = 0
      · obtain ⟨w2, c1, c2, c3⟩ := x0 q0
        have e6 : pu w2 0 6 0 6 = w1 6 := by rw [pu_ne _ _ _ (by decide)]; exact c3.1 6 (by decide)
        rw [if_pos q0, c2]
        refine ⟨pu w2 0 6 0, (if_pos rfl).symm, ⟨fun i h0 h6 => by rw [pu_ne _ _ _ h0, c3.1 i h0]; exact a2.1.1 i h0 h6, ?_, by rw [pu_self, upd_self]⟩, fun _ => ⟨?_, fun i hi => ?_, fun y hy => by rw [e6]; exact r3 y hy⟩⟩
        · rw [pu_self, upd_ne _ _ (by decide), c3.2 3 (by decide) (by decide) (by decide) (by decide) (by decide)]; exact a2.1.2 3 (by decide)
        · rw [pu_self, upd_ne _ _ (by decide), c3.2 14 (by decide) (by decide) (by decide) (by decide) (by decide)]; exact r1.1
        · have i0 : i = 0 := by have : i < 1 := hi; omega
          subst i0
          unfold itAt
          rw [e6]
          exact r2
      · rw [if_neg q0]
        by_cases q3 : tkK t b (itS t b nk nc p).2.2 = 3
        · rw [if_pos q3, x3 q3]
          obtain ⟨w2, c1, c2, c3⟩ := M_must1 s1 i1
          obtain ⟨m1, m2⟩ := tkE_le b i1 ht
          have m3 := (tkE_sp b i1 ht).2.2 (by rw [q3]; decide)
          have m4 := (tkB_sp b i1 ht).1
          have bk : (if (itS t b nk nc p).2.1.1 ≤ 6 then nk + 1 else nk) ≤ 8 ∧ (if (itS t b nk nc p).2.1.1 = 10 then nc + 1 else nc) ≤ 6 := by
            rcases j1 with z | z | z
            · exact ⟨by rw [if_pos z.1]; omega, by rw [if_neg (by omega)]; exact hnc⟩
            · exact ⟨by rw [if_neg (by omega)]; exact hnk, by rw [if_pos z.1]; omega⟩
            · exact ⟨by rw [if_neg (by omega)]; exact hnk, by rw [if_neg (by omega)]; exact hnc⟩
          rw [c1, bd_s]
          obtain ⟨w', d1, d2, d3⟩ := ih g (n + 1) (tkE t b (itS t b nk nc p).2.2) _ _ w2 (by omega) (by omega) (by omega) m2 bk.1 bk.2 c2 (Ct_mv r1 c3)
          generalize prs t b f (tkE t b (itS t b nk nc p).2.2) (if (itS t b nk nc p).2.1.1 ≤ 6 then nk + 1 else nk) (if (itS t b nk nc p).2.1.1 = 10 then nc + 1 else nc) = R at d1 d3 ⊢
          refine ⟨w', d1, ⟨fun i h0 h6 => by rw [d2.1 i h0 h6, c3.1 i h0]; exact a2.1.1 i h0 h6, by rw [d2.2.1, c3.2 3 (by decide) (by decide) (by decide) (by decide) (by decide)]; exact a2.1.2 3 (by decide), d2.2.2⟩, fun z => ?_⟩
          obtain ⟨e1, e2, e3⟩ := d3 z
          have e6 : w2 6 = w1 6 := c3.1 6 (by decide)
          refine ⟨by rw [e1]; dsimp only; rw [List.length_cons, show n + 1 + R.1.length = n + (R.1.length + 1) by omega], fun i hi => ?_, fun y hy => by rw [e3 y (by omega), e6]; exact r3 y hy⟩
          cases i with
          | zero =>
            show itAt w' n (itS t b nk nc p).2.1
            exact itAt_mv (w := w1) r2 (n := n + 1) (by omega) (fun y hy => by rw [e3 y hy, e6])
          | succ i =>
            have hi' : i < R.1.length := by
              have : i + 1 < R.1.length + 1 := hi
              omega
            have := e2 i hi'
            rw [show n + 1 + i = n + (i + 1) by omega] at this
            exact this
        · rw [if_neg q3]
          obtain ⟨w', c1, c2⟩ := xo q3 q0
          rw [c1]
          exact ⟨w', rfl, ⟨fun i h0 h6 => by rw [c2.1 i h0 h6]; exact a2.1.1 i h0 h6, by rw [c2.2.1]; exact a2.1.2 3 (by decide), c2.2.2⟩, fun z => (by cases z)⟩
    · rw [if_neg q]
      obtain ⟨w', c1, c2⟩ := tx_F (a2.2.2 q) g
      rw [c1]
      exact ⟨w', rfl, ⟨fun i h0 h6 => by rw [c2.1 i h0 h6]; exact a2.1.1 i h0 h6, by rw [c2.2.1]; exact a2.1.2 3 (by decide), c2.2.2⟩, fun z => (by cases z)⟩
/-! what was read is told -/
theorem M_toldI {w : VV} {i : Nat} {I : I5} (hi : i < 120) (hI : InvB (w 1)) (hat : itAt w i I) (ok : itOK I (nkS (w 1)) (ncS (w 1))) : F_X6_isToldSo (nI (5 * i)) w = some (va_up w 1 (apN I (w 1))) := by
  obtain ⟨t0, t1, t2, t3, t4⟩ := hat
  have e1 : nI (5 * i) + 1 = nI (5 * i + 1) := nI_1 _
  have e2 : nI (5 * i) + 2 = nI (5 * i + 2) := nI_add (5 * i) 2
  have e3 : nI (5 * i) + 3 = nI (5 * i + 3) := nI_add (5 * i) 3
  have e4 : nI (5 * i) + 4 = nI (5 * i + 4) := nI_add (5 * i) 4
  unfold F_X6_isToldSo
  rw [e1, e2, e3, e4, gu_nI (by omega) (by decide), gu_nI (by omega) (by decide), gu_nI (by omega) (by decide), cl_nI (n := 5 * i) (by omega), cl_nI (n := 5 * i + 1) (by omega), cl_nI (n := 5 * i + 2) (by omega), cl_nI (n := 5 * i + 3) (by omega), cl_nI (n := 5 * i + 4) (by omega), t0, t1, t2]
  rcases it_cases ok with ⟨k, x, n, l, s, rfl, a1, a2, a3, a4, a5, a6⟩ | ⟨x, q, l, s, rfl, a1, a2, a3, a4⟩ | ⟨x, q, l, s, rfl, a1, a2⟩
  · dsimp only at t3 t4 ⊢
    rw [if_neg (show ¬ nI k = 10 from fun z => by have := (nI_eq (b := 10) (by omega) (by decide)).mp z; omega), if_neg (show ¬ nI k = 11 from fun z => by have := (nI_eq (b := 11) (by omega) (by decide)).mp z; omega), gu_nI (by omega) (by decide), M_comes hI a2, bd_s]
    dsimp only
    rw [(nk_eq hI).1, kAt2, bd_s, gu_nI (ki_lt a2 (by decide)) (by decide), cl_nI (Nat.lt_trans (ki_lt (i := nkS (w 1)) (f := 2) a2 (by decide)) (by decide)), pu_of_up, kAt3, bd_s, gu_nI (by omega) (by decide), gu_nI (ki_lt a2 (by decide)) (by decide), cl_nI (Nat.lt_trans (ki_lt (i := nkS (w 1)) (f := 3) a2 (by decide)) (by decide)), va_up_ne _ _ (show (6 : Nat) ≠ 1 by decide), t3, pu_of_up, kAt5, bd_s, gu_nI (by omega) (by decide), gu_nI (ki_lt a2 (by decide)) (by decide), cl_nI (Nat.lt_trans (ki_lt (i := nkS (w 1)) (f := 5) a2 (by decide)) (by decide)), va_up_ne _ _ (show (6 : Nat) ≠ 1 by decide), t4, pu_of_up, apN_k a1]
  · dsimp only at t3 t4 ⊢
    rw [if_pos (show nI 10 = 10 from rfl), M_childComes hI a1, bd_s]
    dsimp only
    rw [(nc_eq hI).1, cAt2, bd_s, gu_nI (by omega) (by decide), gu_nI (ci_lt a1 (by decide)) (by decide), cl_nI (Nat.lt_trans (ci_lt (i := ncS (w 1)) (f := 2) a1 (by decide)) (by decide)), va_up_ne _ _ (show (6 : Nat) ≠ 1 by decide), t3, pu_of_up, apN_c]
  · dsimp only at t3 t4 ⊢
    rw [if_neg (show ¬ nI 11 = 10 by decide), if_pos (show nI 11 = 11 from rfl), four_nI, gu_nI (by omega) (by decide), cl_nI (n := 4 + x) (by omega), pu_up, apN_f a1]
theorem M_apply : ∀ (L : List I5) (i g : Nat) (w : VV), i + L.length ≤ 120 → L.length < g → w 0 14 = nI (i + L.length) → (∀ j, j < L.length → itAt w (i + j) (L.getD j z5)) → InvB (w 1) → okL L (w 1) → L_X6_text_121 g (nI i) w = some (nI (i + L.length), va_up w 1 (fld L (w 1)))
  | [], i, g, w, h1, hg, h14, hat, hI, ok => by
    obtain ⟨g, rfl⟩ : ∃ z, g = z + 1 := ⟨g - 1, by omega⟩
    have hl : nI (i + ([] : List I5).length) ≤ nI i := nI_le (Nat.le_refl i) (by have : i + 0 ≤ 120 := h1; omega)
    rw [L_X6_text_121, h14, if_pos hl]
    show _ = some (_, va_up w 1 (w 1))
    rw [up_id]
  | I :: L, i, g, w, h1, hg, h14, hat, hI, ok => by
    rw [List.length_cons] at h1 hg h14
    obtain ⟨g, rfl⟩ : ∃ z, g = z + 1 := ⟨g - 1, by omega⟩
    have a0 : itAt w i I := hat 0 (by rw [List.length_cons]; omega)
    rw [L_X6_text_121, h14, if_neg (nI_ge (by omega) (by omega)), show (5 : Int32) * nI i = nI (5 * i) by rw [show (5 : Int32) = nI 5 from rfl, pk_mul], M_toldI (by omega) hI a0 ok.1, bd_s, nI_1, M_apply L (i + 1) g (va_up w 1 (apN I (w 1))) (by omega) (by omega) (by rw [va_up_ne _ _ (by decide), h14, show i + (L.length + 1) = i + 1 + L.length by omega]) (fun j hj => by
      have := hat (j + 1) (by rw [List.length_cons]; omega)
      unfold itAt
      rw [va_up_ne _ _ (by decide), show i + 1 + j = i + (j + 1) by omega]
      exact this) (by rw [va_up_self]; exact apN_B hI ok.1) (by rw [va_up_self]; exact ok.2), va_up_self, up_up, List.length_cons, show i + 1 + L.length = i + (L.length + 1) by omega]
    rfl
theorem st_text {v : VV} (h : Rel v) : StP F_X5_text F_X6_text v := by
  have hR := h
  obtain ⟨⟨hC, hM, hs, hp⟩, hD, hK, hF, ⟨t, ht, t1, t2, t3⟩, hS⟩ := h
  have hb : ∀ j, j < t → (v 5 j).toNatClampNeg < 256 ∧ v 5 j = nI (v 5 j).toNatClampNeg ∧ v 24 j = sb (v 5 j).toNatClampNeg := fun j hj => by
    obtain ⟨y, y1, y2, y3⟩ := t3 j hj
    have e : (v 5 j).toNatClampNeg = y := by rw [y2]; exact cl_nI (by omega)
    rw [e]
    exact ⟨y1, y2, y3⟩
  generalize hbb : (fun j => (v 5 j).toNatClampNeg) = b
  have hb' : ∀ j, j < t → b j < 256 ∧ v 5 j = nI (b j) ∧ v 24 j = sb (b j) := fun j hj => by rw [← hbb]; exact hb j hj
  obtain ⟨v3, a1, a2, a3, a4⟩ := C_become (p := 25) (q := 58) (by omega) hC hD
  have s2 := sim_tr a2 hs
  have e23 : v3 23 = v 23 := a4 23 (by omega)
  have e24 : v3 24 = v 24 := a4 24 (by omega)
  have hx3 : TxC t b (pu v3 23 4 0) := ⟨ht, by rw [pu_self, upd_ne _ _ (by decide), e23]; exact t1, fun j hj => by rw [pu_ne _ _ _ (by decide), e24]; exact ⟨(hb' j hj).1, (hb' j hj).2.2⟩⟩
  have r3 : rowOf 58 (pu v3 23 4 0) = rowOf 58 v3 := rowOf_same (fun i a b => pu_ne _ _ _ (by omega))
  obtain ⟨v6, c1, c2, c3, c4, c5, c6, c7⟩ := C_text (t := t) (b := b) 120 fu 1 0 (pu v3 23 4 0) (by omega) (by omega) (by omega) (by unfold fu; omega) (by omega) hx3 (by rw [pu_self, upd_self]; rfl) (by rw [r3]; exact a3)
  rw [r3, sim_nk s2, sim_nc s2] at c1 c4 c5 c6 c7
  have o6 : ∀ i, i ≠ 23 → (i < 58 ∨ 91 ≤ i) → v6 i = v i := fun i hi ho => by rw [c3 i hi ho, pu_ne _ _ _ hi]; exact a4 i (by omega)
  have hA : F_X5_text v = Option.bind (L_X4_readOnto_7 fu 58 (nI 1) (pu v3 23 4 0)) (fun (r5, v6) => (if r5 < 0 then (some (r5, pu v6 23 1 0)) else (Option.bind (F_X1_become 25 58 (pu v6 23 1 0)) (fun v11 => some (r5, v11))))) := by
    unfold F_X5_text F_X4_readOnto
    rw [a1, bd_s]
    rfl
  /- the reference, at any memory with the same text, row and counts -/
  have hB : ∀ v1 : VV, v1 0 = v 0 → v1 1 = v 1 → v1 5 = v 5 → ∃ w', F_X6_text v1 = (if (prs t b 120 0 (nkS (v 1)) (ncS (v 1))).2.2 = true then L_X6_text_121 fu 0 w' else some ((-1) - nI (tkB t b (prs t b 120 0 (nkS (v 1)) (ncS (v 1))).2.1), w')) ∧ Sy v1 w' ∧ ((prs t b 120 0 (nkS (v 1)) (ncS (v 1))).2.2 = true → w' 0 14 = nI (prs t b 120 0 (nkS (v 1)) (ncS (v 1))).1.length ∧ (∀ i, i < (prs t b 120 0 (nkS (v 1)) (ncS (v 1))).1.length → itAt w' i ((prs t b 120 0 (nkS (v 1)) (ncS (v 1))).1.getD i z5))) := fun v1 e0 e1 e5 => by
    unfold F_X6_text
    have y0 : ∀ y : VV, y = (pu (pu (pu (pu (pu v1 0 8 0) 0 11 0) 0 14 0) 0 15 ((pu (pu (pu v1 0 8 0) 0 11 0) 0 14 0) 1 1)) 0 16 ((pu (pu (pu (pu v1 0 8 0) 0 11 0) 0 14 0) 0 15 ((pu (pu (pu v1 0 8 0) 0 11 0) 0 14 0) 1 1)) 1 3)) → y 0 8 = 0 ∧ y 0 11 = 0 ∧ y 0 14 = 0 ∧ y 0 15 = v 1 1 ∧ y 0 16 = v 1 3 ∧ (∀ s, s < 7 → y 0 s = v 0 s) ∧ ∀ i, i ≠ 0 → y i = v1 i := fun y ey => by
      rw [ey]
      simp only [pu_self, pu_ne _ _ _ (show (1 : Nat) ≠ 0 by decide), e1]
      refine ⟨?_, ?_, ?_, ?_, ?_, fun s hs => ?_, fun i hi => ?_⟩
      · rw [upd_ne _ _ (by decide), upd_ne _ _ (by decide), upd_ne _ _ (by decide), upd_ne _ _ (by decide), upd_self]
      · rw [upd_ne _ _ (by decide), upd_ne _ _ (by decide), upd_ne _ _ (by decide), upd_self]
      · rw [upd_ne _ _ (by decide), upd_ne _ _ (by decide), upd_self]
      · rw [upd_ne _ _ (by decide), upd_self]
      · rw [upd_self]
      · rw [upd_ne _ _ (by omega), upd_ne _ _ (by omega), upd_ne _ _ (by omega), upd_ne _ _ (by omega), upd_ne _ _ (by omega), e0]
      · rw [pu_ne _ _ _ hi, pu_ne _ _ _ hi, pu_ne _ _ _ hi, pu_ne _ _ _ hi, pu_ne _ _ _ hi]
    obtain ⟨z8, z11, z14, z15, z16, zs, zo⟩ := y0 _ rfl
    generalize (pu (pu (pu (pu (pu v1 0 8 0) 0 11 0) 0 14 0) 0 15 ((pu (pu (pu v1 0 8 0) 0 11 0) 0 14 0) 1 1)) 0 16 ((pu (pu (pu (pu v1 0 8 0) 0 11 0) 0 14 0) 0 15 ((pu (pu (pu v1 0 8 0) 0 11 0) 0 14 0) 1 1)) 1 3)) = y at z8 z11 z14 z15 z16 zs zo
    have hx : TxM t b y := ⟨ht, by rw [zs 6 (by decide)]; exact t2, fun j hj => by rw [zo 5 (by decide), e5]; exact ⟨(hb' j hj).1, (hb' j hj).2.1⟩⟩
    obtain ⟨w3, d1, d2, d3, d4⟩ := M_token hx (p := 0) (by omega) (by rw [z8]; rfl)
    have hS3 : MS t b w3 0 0 := ⟨⟨ht, by rw [d3 6 (by decide) (by decide) (by decide) (by decide)]; exact hx.2.1, fun j hj => by rw [d4 5 (by decide)]; exact hx.2.2 j hj⟩, d2, by rw [d3 11 (by decide) (by decide) (by decide) (by decide), z11]; rfl⟩
    have hC3 : Ct w3 0 (nkS (v 1)) (ncS (v 1)) := ⟨by rw [d3 14 (by decide) (by decide) (by decide) (by decide), z14]; rfl, by rw [d3 15 (by decide) (by decide) (by decide) (by decide), z15]; exact (nk_eq hM).1, by rw [d3 16 (by decide) (by decide) (by decide) (by decide), z16]; exact (nc_eq hM).1⟩
    obtain ⟨w', g1, g2, g3⟩ := M_text (t := t) (b := b) 120 fu 0 0 _ _ w3 (by omega) (by omega) (by unfold fu; omega) (by omega) (nk_eq hM).2 (nc_eq hM).2 hS3 hC3
    rw [d1, bd_s]
    refine ⟨w', g1, ⟨fun i h0 h6 => by rw [g2.1 i h0 h6, d4 i h0]; exact zo i h0, by rw [g2.2.1, d3 3 (by decide) (by decide) (by decide) (by decide), zs 3 (by decide), e0], g2.2.2⟩, fun z => ?_⟩
    obtain ⟨k1, k2, -⟩ := g3 z
    refine ⟨by rw [k1, Nat.zero_add], fun i hi => ?_⟩
    have := k2 i hi
    rw [Nat.zero_add] at this
    exact this
  by_cases q : (prs t b 120 0 (nkS (v 1)) (ncS (v 1))).2.2 = true
  · rw [if_pos q] at c1
    rw [show 1 - 1 + (prs t b 120 0 (nkS (v 1)) (ncS (v 1))).1.length = (prs t b 120 0 (nkS (v 1)) (ncS (v 1))).1.length by omega] at c1
    have c7' := c7 q
    generalize hL : (prs t b 120 0 (nkS (v 1)) (ncS (v 1))).1 = L at c1 c5 c6 c7'
    have r6 : rowOf 58 (pu v6 23 1 0) = rowOf 58 v6 := rowOf_same (fun i a b => pu_ne _ _ _ (by omega))
    have r25 : rowOf 25 (pu v6 23 1 0) = rowOf 25 v := rowOf_same (fun i a b => by rw [pu_ne _ _ _ (by omega)]; exact o6 i (by omega) (by omega))
    obtain ⟨v11, d1, d2, d3, d4⟩ := C_become (p := 58) (q := 25) (v := pu v6 23 1 0) (by omega) (by rw [r6]; exact c2) (by rw [r25]; exact hC)
    rw [r6, c7'] at d2
    have o11 : ∀ i, i ≠ 23 → (i < 25 ∨ 91 ≤ i) → v11 i = v i := fun i hi ho => by rw [d4 i (by omega), pu_ne _ _ _ hi]; exact o6 i hi (by omega)
    obtain ⟨w', g1, g2, g3⟩ := hB v11 (o11 0 (by decide) (by omega)) (o11 1 (by decide) (by omega)) (o11 5 (by decide) (by omega))
    rw [if_pos q] at g1
    obtain ⟨k1, k2⟩ := g3 q
    rw [hL] at k1 k2
    have w1 : w' 1 = v 1 := by rw [g2.1 1 (by decide) (by decide)]; exact o11 1 (by decide) (by omega)
    have okm : okL L (v 1) := okL_sim L s2 hM c6
    have ap := M_apply L 0 fu w' (by omega) (by unfold fu; omega) (by rw [k1, Nat.zero_add]) (fun j hj => by rw [Nat.zero_add]; exact k2 j hj) (by rw [w1]; exact hM) (by rw [w1]; exact okm)
    rw [w1, Nat.zero_add] at ap
    obtain ⟨fs, fp⟩ := fld_sim L s2 hM hp okm
    refine ⟨nI L.length, v11, va_up w' 1 (fld L (v 1)), ?_, ?_, ?_⟩
    · rw [hA, c1, bd_s]
      dsimp only
      rw [if_neg (nI_pos (by omega)), d1, bd_s]
    · rw [g1]
      exact ap
    · have eo : ∀ i, (i ≠ 0 ∧ i ≠ 1 ∧ i ≠ 6 ∧ i ≠ 23 ∧ (i < 25 ∨ 91 ≤ i)) → va_up w' 1 (fld L (v 1)) i = v i := fun i z => by rw [va_up_ne _ _ z.2.1, g2.1 i z.1 z.2.2.1]; exact o11 i z.2.2.2.1 z.2.2.2.2
      have e11 : ∀ i, (i ≠ 0 ∧ i ≠ 1 ∧ i ≠ 6) → va_up w' 1 (fld L (v 1)) i = v11 i := fun i z => by rw [va_up_ne _ _ z.2.1]; exact g2.1 i z.1 z.2.2
      refine ⟨⟨?_, ?_, ?_, ?_⟩, ?_, RelK_cg hK (eo 2 (by decide)) (by rw [eo 12 (by decide)]) (by rw [va_up_ne _ _ (by decide), g2.2.1, o11 0 (by decide) (by omega)]) (fun i a b => eo i (by omega)), RelF_cg hF (eo 4 (by decide)) (eo 13 (by decide)), ⟨0, by decide, ?_, ?_, fun j hj => by omega⟩, RelS_cg hS (eo 7 (by decide)) (eo 8 (by decide)) (eo 9 (by decide)) (fun i a b => eo i (by omega))⟩
      · rw [rowOf_same (v := v11) (fun i a b => e11 i (by omega))]; exact d3
      · rw [va_up_self]; exact fld_B L hM okm
      · rw [va_up_self, rowOf_same (v := v11) (fun i a b => e11 i (by omega))]
        exact sim_tr d2 fs
      · rw [va_up_self]; exact fp
      · show InvB (rowOf 58 _)
        rw [rowOf_same (v := v11) (fun i a b => e11 i (by omega)), rowOf_out d4 (by omega), r6]; exact c2
      · rw [e11 23 (by decide), d4 23 (by omega), pu_self, upd_self]; rfl
      · rw [va_up_ne _ _ (by decide), g2.2.2]; rfl
  · rw [if_neg q] at c1
    have hB120 : tkB t b (prs t b 120 0 (nkS (v 1)) (ncS (v 1))).2.1 ≤ 120 := by have := (tkB_sp b c4 ht).2.1; omega
    have ng := neg_all _ hB120
    have o6' : ∀ i, i ≠ 23 → (i < 58 ∨ 91 ≤ i) → pu v6 23 1 0 i = v i := fun i hi ho => by rw [pu_ne _ _ _ hi]; exact o6 i hi ho
    obtain ⟨w', g1, g2, -⟩ := hB (pu v6 23 1 0) (o6' 0 (by decide) (by omega)) (o6' 1 (by decide) (by omega)) (o6' 5 (by decide) (by omega))
    rw [if_neg q] at g1
    refine ⟨(-1) - nI (tkB t b (prs t b 120 0 (nkS (v 1)) (ncS (v 1))).2.1), pu v6 23 1 0, w', ?_, g1, ?_⟩
    · rw [hA, c1, bd_s]
      dsimp only
      rw [if_pos ng]
    · have e6 : ∀ i, (i ≠ 0 ∧ i ≠ 6) → w' i = pu v6 23 1 0 i := fun i z => g2.1 i z.1 z.2
      have eo : ∀ i, (i ≠ 0 ∧ i ≠ 6 ∧ i ≠ 23 ∧ (i < 58 ∨ 91 ≤ i)) → w' i = v i := fun i z => by rw [e6 i ⟨z.1, z.2.1⟩]; exact o6' i z.2.2.1 z.2.2.2
      refine ⟨RelC_cg ⟨hC, hM, hs, hp⟩ (eo 1 (by decide)) (fun i a b => eo i (by omega)), ?_, RelK_cg hK (eo 2 (by decide)) (by rw [eo 12 (by decide)]) (by rw [g2.2.1, o6' 0 (by decide) (by omega)]) (fun i a b => eo i (by omega)), RelF_cg hF (eo 4 (by decide)) (eo 13 (by decide)), ⟨0, by decide, ?_, ?_, fun j hj => by omega⟩, RelS_cg hS (eo 7 (by decide)) (eo 8 (by decide)) (eo 9 (by decide)) (fun i a b => eo i (by omega))⟩
      · show InvB (rowOf 58 _)
        rw [rowOf_same (v := pu v6 23 1 0) (fun i a b => e6 i (by omega)), rowOf_same (v := v6) (fun i a b => pu_ne _ _ _ (by omega))]; exact c2
      · rw [e6 23 (by decide), pu_self, upd_self]; rfl
      · rw [g2.2.2]; rfl
