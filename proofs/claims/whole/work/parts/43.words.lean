/-! PURE PART 24: the reference's tokens; words and numbers on both sides -/
theorem M_byte {t j : Nat} {b : Nat → Nat} {w : VV} (hx : TxM t b w) (hj : j < 2 ^ 20) : F_X6_byteAt (nI j) w = some (if t ≤ j then -1 else nI (b j)) := by
  obtain ⟨ht, h6, hb⟩ := hx
  unfold F_X6_byteAt
  rw [h6]
  by_cases q : t ≤ j
  · rw [if_pos (nI_le q (by omega)), if_pos q]
  · rw [if_neg (nI_ge (by omega) (by omega)), if_neg q, gu_nI (by omega) (by decide), cl_nI (by omega), (hb j (by omega)).2]
theorem M_word {t B : Nat} {b : Nat → Nat} {w : VV} (hx : TxM t b w) (hB : B ≤ t) (h8 : w 0 8 = nI B) (r : Int32) (f : Nat) (hf : 121 < f) : ∃ w', L_X6_token_84 f r w = some w' ∧ w' 0 8 = nI (stopN (ltP t b) 121 B) ∧ (∀ s, s ≠ 8 → w' 0 s = w 0 s) ∧ ∀ i, i ≠ 0 → w' i = w i := by
  obtain ⟨ht, h6, hb⟩ := id hx
  obtain ⟨r1, r2, r3, r4, -⟩ := run_sp (b := b) (f := isL) hB ht
  have eN : stopN (fun j => decide (j < t) && isL (b j)) 121 B = stopN (ltP t b) 121 B := rfl
  rw [eN] at r1 r2 r3 r4
  refine loopR (L := fun f (x : VV) _ => L_X6_token_84 f r x) (N := stopN (ltP t b) 121 B) (fun j x => x 0 8 = nI j ∧ B ≤ j ∧ (∀ s, s ≠ 8 → x 0 s = w 0 s) ∧ ∀ i, i ≠ 0 → x i = w i) (fun z => ∃ w', z = some w' ∧ w' 0 8 = nI (stopN (ltP t b) 121 B) ∧ (∀ s, s ≠ 8 → w' 0 s = w 0 s) ∧ ∀ i, i ≠ 0 → w' i = w i) (fun f x hx => ?_) (fun f j x hj hx => Or.inl ?_) (stopN (ltP t b) 121 B - B) f B w (by omega) (by omega) ⟨h8, Nat.le_refl _, fun _ _ => rfl, fun _ _ => rfl⟩
  · obtain ⟨g8, gB, gs, go⟩ := hx
    have gx : TxM t b x := ⟨ht, by rw [gs 6 (by decide)]; exact h6, fun j hj => by rw [go 5 (by decide)]; exact hb j hj⟩
    refine ⟨x, ?_, g8, gs, go⟩
    show L_X6_token_84 (f + 1) r x = _
    rw [L_X6_token_84, g8, M_byte gx (by omega), bd_s]
    by_cases q : t ≤ stopN (ltP t b) 121 B
    · rw [if_pos q, m1L, bd_s, if_neg (by decide)]
    · rw [if_neg q, M_isL (hb _ (by omega)).1, bd_s, if_neg (r4 (by omega))]
  · obtain ⟨g8, gB, gs, go⟩ := hx
    have gx : TxM t b x := ⟨ht, by rw [gs 6 (by decide)]; exact h6, fun j hj => by rw [go 5 (by decide)]; exact hb j hj⟩
    refine ⟨pu x 0 8 (nI (j + 1)), ?_, by rw [pu_self, upd_self], by omega, fun s hs => by rw [pu_self, upd_ne _ _ hs]; exact gs s hs, fun i hi => by rw [pu_ne _ _ _ hi]; exact go i hi⟩
    show L_X6_token_84 (f + 1) r x = L_X6_token_84 f r _
    rw [L_X6_token_84, g8, M_byte gx (by omega), bd_s, if_neg (by omega), M_isL (hb _ (by omega)).1, bd_s, if_pos (r3 j gB hj), nI_1]
theorem M_numb {t B : Nat} {b : Nat → Nat} {w : VV} (hx : TxM t b w) (hB : B ≤ t) (h8 : w 0 8 = nI B) (h10 : w 0 10 = 0) (r : Int32) (f : Nat) (hf : 121 < f) : ∃ w', L_X6_token_131 f r w = some w' ∧ w' 0 8 = nI (stopN (dgP t b) 121 B) ∧ w' 0 10 = nI (itr (nmS b) B (stopN (dgP t b) 121 B - B) 0) ∧ (∀ s, s ≠ 8 → s ≠ 10 → w' 0 s = w 0 s) ∧ ∀ i, i ≠ 0 → w' i = w i := by
  obtain ⟨ht, h6, hb⟩ := id hx
  obtain ⟨r1, r2, r3, r4, -⟩ := run_sp (b := b) (f := isD) hB ht
  have eN : stopN (fun j => decide (j < t) && isD (b j)) 121 B = stopN (dgP t b) 121 B := rfl
  rw [eN] at r1 r2 r3 r4
  refine loopR (L := fun f (x : VV) _ => L_X6_token_131 f r x) (N := stopN (dgP t b) 121 B) (fun j x => x 0 8 = nI j ∧ B ≤ j ∧ x 0 10 = nI (itr (nmS b) B (j - B) 0) ∧ (∀ s, s ≠ 8 → s ≠ 10 → x 0 s = w 0 s) ∧ ∀ i, i ≠ 0 → x i = w i) (fun z => ∃ w', z = some w' ∧ w' 0 8 = nI (stopN (dgP t b) 121 B) ∧ w' 0 10 = nI (itr (nmS b) B (stopN (dgP t b) 121 B - B) 0) ∧ (∀ s, s ≠ 8 → s ≠ 10 → w' 0 s = w 0 s) ∧ ∀ i, i ≠ 0 → w' i = w i) (fun f x hx => ?_) (fun f j x hj hx => Or.inl ?_) (stopN (dgP t b) 121 B - B) f B w (by omega) (by omega) ⟨h8, Nat.le_refl _, by rw [h10, Nat.sub_self]; rfl, fun _ _ _ => rfl, fun _ _ => rfl⟩
  · obtain ⟨g8, gB, g10, gs, go⟩ := hx
    have gx : TxM t b x := ⟨ht, by rw [gs 6 (by decide) (by decide)]; exact h6, fun j hj => by rw [go 5 (by decide)]; exact hb j hj⟩
    refine ⟨x, ?_, g8, g10, gs, go⟩
    show L_X6_token_131 (f + 1) r x = _
    rw [L_X6_token_131, g8, M_byte gx (by omega), bd_s]
    by_cases q : t ≤ stopN (dgP t b) 121 B
    · rw [if_pos q, m1D, bd_s, if_neg (by decide)]
    · rw [if_neg q, M_isD (hb _ (by omega)).1, bd_s, if_neg (r4 (by omega))]
  · obtain ⟨g8, gB, g10, gs, go⟩ := hx
    have gx : TxM t b x := ⟨ht, by rw [gs 6 (by decide) (by decide)]; exact h6, fun j hj => by rw [go 5 (by decide)]; exact hb j hj⟩
    have hd := r3 j gB hj
    have eN2 : itr (nmS b) B (j + 1 - B) 0 = if 10 * itr (nmS b) B (j - B) 0 + b j - 48 < 10000 then 10 * itr (nmS b) B (j - B) 0 + b j - 48 else 10000 := by
      rw [show j + 1 - B = (j - B) + 1 by omega, itr_snoc, show B + (j - B) = j by omega]
      rfl
    refine ⟨pu (pu x 0 10 (nI (itr (nmS b) B (j + 1 - B) 0))) 0 8 (nI (j + 1)), ?_, by rw [pu_self, upd_self], by omega, by rw [pu_self, upd_ne _ _ (by decide), pu_self, upd_self], fun s hs h5 => by rw [pu_self, upd_ne _ _ hs, pu_self, upd_ne _ _ h5]; exact gs s hs h5, fun i hi => by rw [pu_ne _ _ _ hi, pu_ne _ _ _ hi]; exact go i hi⟩
    show L_X6_token_131 (f + 1) r x = L_X6_token_131 f r _
    rw [L_X6_token_131, g8, M_byte gx (by omega), bd_s, if_neg (by omega), M_isD (hb _ (by omega)).1, bd_s, if_pos hd, bd_s, g10, nm_step (nm_bd b _ _ _ (by omega)) hd, ← eN2, pu_self, upd_ne _ _ (show (8 : Nat) ≠ 10 by decide), g8, nI_1]
theorem M_token {t p : Nat} {b : Nat → Nat} {w : VV} (hx : TxM t b w) (hp : p ≤ t) (h8 : w 0 8 = nI p) : ∃ w', F_X6_token w = some w' ∧ MT t b w' p ∧ (∀ s, s ≠ 7 → s ≠ 8 → s ≠ 9 → s ≠ 10 → w' 0 s = w 0 s) ∧ ∀ i, i ≠ 0 → w' i = w i := by
  obtain ⟨ht, h6, hb⟩ := id hx
  obtain ⟨a1, a2, a3, a4⟩ := tkB_sp b hp ht
  unfold F_X6_token
  refine loopR (L := fun f (x : VV) _ => L_X6_token_8 f x) (N := tkB t b p) (fun j x => x 0 7 = nI j ∧ p ≤ j ∧ (∀ s, s ≠ 7 → x 0 s = w 0 s) ∧ ∀ i, i ≠ 0 → x i = w i) (fun z => ∃ w', z = some w' ∧ MT t b w' p ∧ (∀ s, s ≠ 7 → s ≠ 8 → s ≠ 9 → s ≠ 10 → w' 0 s = w 0 s) ∧ ∀ i, i ≠ 0 → w' i = w i) (fun f x hx => ?_) (fun f j x hj hx => Or.inl ?_) (tkB t b p - p) fu p (pu w 0 7 (w 0 8)) (by omega) (by unfold fu; omega) ⟨by rw [pu_self, upd_self]; exact h8, Nat.le_refl _, fun s hs => by rw [pu_self, upd_ne _ _ hs], fun i hi => pu_ne _ _ _ hi⟩
  · obtain ⟨g7, gp, gs, go⟩ := hx
    have gx : TxM t b x := ⟨ht, by rw [gs 6 (by decide)]; exact h6, fun j hj => by rw [go 5 (by decide)]; exact hb j hj⟩
    show ∃ w', L_X6_token_8 (f + 1) x = some w' ∧ _
    rw [L_X6_token_8, g7, M_byte gx (by omega), bd_s]
    have y8 : ∀ y : VV, y = pu (pu x 0 8 (nI (tkB t b p))) 0 10 0 → y 0 8 = nI (tkB t b p) ∧ y 0 10 = 0 ∧ y 0 7 = nI (tkB t b p) ∧ (∀ s, s ≠ 8 → s ≠ 10 → y 0 s = x 0 s) ∧ ∀ i, i ≠ 0 → y i = x i := fun y e => by
      rw [e]
      exact ⟨by rw [pu_self, upd_ne _ _ (by decide), pu_self, upd_self], by rw [pu_self, upd_self], by rw [pu_self, upd_ne _ _ (by decide), pu_self, upd_ne _ _ (by decide)]; exact g7, fun s h1 h2 => by rw [pu_self, upd_ne _ _ h2, pu_self, upd_ne _ _ h1], fun i hi => by rw [pu_ne _ _ _ hi, pu_ne _ _ _ hi]⟩
    obtain ⟨z8, z10, z7, zs, zo⟩ := y8 _ rfl
    generalize pu (pu x 0 8 (nI (tkB t b p))) 0 10 0 = y at z8 z10 z7 zs zo
    unfold MT tkN
    by_cases q : t ≤ tkB t b p
    · have ek : tkK t b p = 0 := by unfold tkK; rw [if_pos q]
      have ee : tkE t b p = tkB t b p := by unfold tkE; rw [if_pos q]
      rw [if_pos q, if_neg (by decide), bd_s, if_neg (by decide)]
      refine ⟨_, rfl, ⟨?_, ?_, ?_, fun z => by omega⟩, fun s c7 c8 c9 c10 => ?_, fun i hi => by rw [pu_ne _ _ _ hi, zo i hi]; exact go i hi⟩
      · rw [pu_self, upd_self, ek]; rfl
      · rw [pu_self, upd_ne _ _ (by decide)]; exact z7
      · rw [pu_self, upd_ne _ _ (by decide), ee]; exact z8
      · rw [pu_self, upd_ne _ _ c9, zs s c8 c10]; exact gs s c7
    · obtain ⟨b1, b2⟩ := hb (tkB t b p) (by omega)
      have yx : TxM t b y := ⟨ht, by rw [zs 6 (by decide) (by decide)]; exact gx.2.1, fun j hj => by rw [zo 5 (by decide)]; exact gx.2.2 j hj⟩
      rw [if_neg q, if_neg (fun z => a4 (by omega) ((byt_all _ b1).2.2.2.2.2.1.mp z)), bd_s, if_pos (nI_pos' (by omega)), M_isL b1, bd_s, M_isD b1, bd_s]
      by_cases q1 : isL (b (tkB t b p)) = true
      · have ek : tkK t b p = 1 := by unfold tkK; rw [if_neg q, if_pos q1]
        have ee : tkE t b p = stopN (ltP t b) 121 (tkB t b p) := by unfold tkE; rw [if_neg q, if_pos q1]
        rw [if_pos q1]
        obtain ⟨w', c1, c2, c3, c4⟩ := M_word (t := t) (B := tkB t b p) (b := b) (w := pu y 0 9 1) ⟨ht, by rw [pu_self, upd_ne _ _ (by decide)]; exact yx.2.1, fun j hj => by rw [pu_ne _ _ _ (by decide)]; exact yx.2.2 j hj⟩ a2 (by rw [pu_self, upd_ne _ _ (by decide)]; exact z8) (nI (b (tkB t b p))) fu (by unfold fu; omega)
        refine ⟨w', c1, ⟨?_, ?_, by rw [c2, ee], fun z => by omega⟩, fun s d7 d8 d9 d10 => ?_, fun i hi => by rw [c4 i hi, pu_ne _ _ _ hi, zo i hi]; exact go i hi⟩
        · rw [c3 9 (by decide), pu_self, upd_self, ek]; rfl
        · rw [c3 7 (by decide), pu_self, upd_ne _ _ (by decide)]; exact z7
        · rw [c3 s d8, pu_self, upd_ne _ _ d9, zs s d8 d10]; exact gs s d7
      · rw [if_neg q1]
        by_cases q2 : isD (b (tkB t b p)) = true
        · have ek : tkK t b p = 2 := by unfold tkK; rw [if_neg q, if_neg q1, if_pos q2]
          have ee : tkE t b p = stopN (dgP t b) 121 (tkB t b p) := by unfold tkE; rw [if_neg q, if_neg q1, if_pos q2]
          rw [if_pos q2]
          obtain ⟨w', c1, c2, c5, c3, c4⟩ := M_numb (t := t) (B := tkB t b p) (b := b) (w := pu y 0 9 2) ⟨ht, by rw [pu_self, upd_ne _ _ (by decide)]; exact yx.2.1, fun j hj => by rw [pu_ne _ _ _ (by decide)]; exact yx.2.2 j hj⟩ a2 (by rw [pu_self, upd_ne _ _ (by decide)]; exact z8) (by rw [pu_self, upd_ne _ _ (by decide)]; exact z10) (nI (b (tkB t b p))) fu (by unfold fu; omega)
          refine ⟨w', c1, ⟨?_, ?_, by rw [c2, ee], fun _ => by rw [c5, ee]⟩, fun s d7 d8 d9 d10 => ?_, fun i hi => by rw [c4 i hi, pu_ne _ _ _ hi, zo i hi]; exact go i hi⟩
          · rw [c3 9 (by decide) (by decide), pu_self, upd_self, ek]; rfl
          · rw [c3 7 (by decide) (by decide), pu_self, upd_ne _ _ (by decide)]; exact z7
          · rw [c3 s d8 d10, pu_self, upd_ne _ _ d9, zs s d8 d10]; exact gs s d7
        · have ee : tkE t b p = tkB t b p + 1 := by unfold tkE; rw [if_neg q, if_neg q1, if_neg q2]
          have ek : tkK t b p ≠ 2 ∧ (if tkK t b p = 4 then 3 else tkK t b p) = 3 := by
            unfold tkK
            rw [if_neg q, if_neg q1, if_neg q2]
            by_cases q3 : b (tkB t b p) = 59
            · rw [if_pos q3]; decide
            · rw [if_neg q3]; decide
          rw [if_neg q2]
          refine ⟨_, rfl, ⟨?_, ?_, ?_, fun z => absurd z ek.1⟩, fun s c7 c8 c9 c10 => ?_, fun i hi => by rw [pu_ne _ _ _ hi, pu_ne _ _ _ hi, zo i hi]; exact go i hi⟩
          · rw [pu_self, upd_ne _ _ (by decide), pu_self, upd_self, ek.2]; rfl
          · rw [pu_self, upd_ne _ _ (by decide), pu_self, upd_ne _ _ (by decide)]; exact z7
          · rw [pu_self, upd_self, pu_self, upd_ne _ _ (by decide), z8, nI_1, ee]
          · rw [pu_self, upd_ne _ _ c8, pu_self, upd_ne _ _ c9, zs s c8 c10]; exact gs s c7
  · obtain ⟨g7, gp, gs, go⟩ := hx
    have gx : TxM t b x := ⟨ht, by rw [gs 6 (by decide)]; exact h6, fun j hj => by rw [go 5 (by decide)]; exact hb j hj⟩
    obtain ⟨j1, j2⟩ := a3 j gp hj
    refine ⟨pu x 0 7 (nI (j + 1)), ?_, by rw [pu_self, upd_self], by omega, fun s hs => by rw [pu_self, upd_ne _ _ hs]; exact gs s hs, fun i hi => by rw [pu_ne _ _ _ hi]; exact go i hi⟩
    show L_X6_token_8 (f + 1) x = L_X6_token_8 f _
    rw [L_X6_token_8, g7, M_byte gx (by omega), bd_s, if_neg (show ¬ t ≤ j by omega), if_pos (show nI (b j) = 32 by rw [j2]; rfl), nI_1]
/-! words -/
def isW (t : Nat) (b : Nat → Nat) (k p : Nat) : Bool := decide (tkK t b p = 1 ∧ tkE t b p - tkB t b p = lnS k ∧ ∀ i, i < lnS k → nI (b (tkB t b p + i)) = chS k i)
theorem ch_all : ∀ n, n < 256 → ∀ k, k < 15 → ∀ i, i < 6 → (sb n = chS k i ↔ nI n = chS k i) := by decide +kernel
theorem C_isAt {t p k : Nat} {b : Nat → Nat} {v : VV} (hx : TxC t b v) (hc : CT t b v p) (hp : p ≤ t) (hk : k < 15) : F_X4_isAt k v = some (isW t b k p) := by
  obtain ⟨ht, h1, hb⟩ := hx
  obtain ⟨c2, c3, c4, -⟩ := hc
  obtain ⟨a1, a2, -, -⟩ := tkB_sp b hp ht
  obtain ⟨e1, e2, -⟩ := tkE_sp b hp ht
  have hk4 : tkK t b p < 2 ^ 31 := by unfold tkK; (repeat' split) <;> decide
  have l6 := lnS_6 k hk
  unfold F_X4_isAt F_J0_length_8abf5 isW
  rw [c2, c3, c4, pk_sub e1]
  by_cases q : tkK t b p = 1
  · rw [if_pos (by rw [q]; rfl), bd_s]
    by_cases ql : tkE t b p - tkB t b p = lnS k
    · rw [if_pos (by rw [ql])]
      have key : ∀ (m f i : Nat), i + m = lnS k → m < f → L_X4_isAt_28 f k (nI i) v = some (decide (∀ i', i' < lnS k → i ≤ i' → nI (b (tkB t b p + i')) = chS k i')) := by
        intro m
        induction m with
        | zero =>
          intro f i him hf
          obtain ⟨f, rfl⟩ : ∃ z, f = z + 1 := ⟨f - 1, by omega⟩
          rw [L_X4_isAt_28]
          unfold F_J0_length_8abf5
          rw [bd_s, if_pos (nI_le (by omega) (by omega)), decide_eq_true (fun i' x y => by omega)]
        | succ m ih =>
          intro f i him hf
          obtain ⟨f, rfl⟩ : ∃ z, f = z + 1 := ⟨f - 1, by omega⟩
          obtain ⟨b1, b2⟩ := hb (tkB t b p + i) (by omega)
          rw [L_X4_isAt_28]
          unfold F_J0_length_8abf5 F_J0_charAt_5068e
          rw [bd_s, if_neg (nI_ge (by omega) (by omega)), c3, nI_add, gu_nI (by omega) (by decide), gu_nI (by omega) (by omega), cl_nI (n := tkB t b p + i) (by omega), cl_nI (n := i) (by omega), bd_s, b2, nI_1, ih f (i + 1) (by omega) (by omega)]
          by_cases z : nI (b (tkB t b p + i)) = chS k i
          · rw [if_pos ((ch_all _ b1 k hk i (by omega)).mpr z)]
            congr 1
            apply decide_eq_decide.mpr
            refine ⟨fun y i' x1 x2 => ?_, fun y i' x1 x2 => y i' x1 (by omega)⟩
            by_cases e : i' = i
            · rw [e]; exact z
            · exact y i' x1 (by omega)
          · rw [if_neg (fun y => z ((ch_all _ b1 k hk i (by omega)).mp y)), decide_eq_false (fun y => z (y i (by omega) (Nat.le_refl _)))]
      rw [nI0, key (lnS k) fu 0 (by omega) (by unfold fu; omega)]
      congr 1
      apply decide_eq_decide.mpr
      exact ⟨fun y => ⟨q, ql, fun i hi => y i hi (by omega)⟩, fun y i hi _ => y.2.2 i hi⟩
    · rw [if_neg (by rw [nI_eq (by omega) (by omega)]; exact ql), decide_eq_false (fun y => ql y.2.1)]
  · rw [if_neg (show ¬ nI (tkK t b p) = 1 from fun z => q ((nI_eq (b := 1) hk4 (by decide)).mp z)), decide_eq_false (fun y => q y.1)]
theorem M_isW0 {k : Nat} (i : Int32) (f : Nat) (w : VV) : L_X6_isWord_32 (f + 1) k 0 i w = some false := by
  rw [L_X6_isWord_32]
  unfold F_J0_length_8abf5
  rw [bd_s, gB0, gu_t, if_pos (show (0 : Int32) = 0 from rfl)]
  split <;> rfl
theorem M_isWord {t p k : Nat} {b : Nat → Nat} {w : VV} (hx : TxM t b w) (hc : MT t b w p) (hp : p ≤ t) (hk : k < 15) : F_X6_isWord k w = some (isW t b k p) := by
  obtain ⟨ht, h1, hb⟩ := hx
  obtain ⟨c9, c7, c8, -⟩ := hc
  obtain ⟨a1, a2, -, -⟩ := tkB_sp b hp ht
  obtain ⟨e1, e2, -⟩ := tkE_sp b hp ht
  have l6 := lnS_6 k hk
  have kk : (w 0 9 = 1) ↔ tkK t b p = 1 := by
    rw [c9]
    have h4 : tkK t b p ≤ 4 := by unfold tkK; (repeat' split) <;> decide
    by_cases q : tkK t b p = 4
    · rw [if_pos q, q]; decide
    · rw [if_neg q, show (1 : Int32) = nI 1 from rfl, nI_eq (by omega) (by decide)]
  unfold F_X6_isWord F_J0_length_8abf5 isW
  rw [c7, c8, pk_sub e1]
  by_cases q : tkK t b p = 1
  · rw [if_pos (kk.mpr q), bd_s]
    by_cases ql : tkE t b p - tkB t b p = lnS k
    · rw [if_pos (by rw [ql])]
      have key : ∀ (m f i : Nat), i + m = lnS k → m + 1 < f → L_X6_isWord_32 f k 1 (nI i) w = some (decide (∀ i', i' < lnS k → i ≤ i' → nI (b (tkB t b p + i')) = chS k i')) := by
        intro m
        induction m with
        | zero =>
          intro f i him hf
          obtain ⟨f, rfl⟩ : ∃ z, f = z + 1 := ⟨f - 1, by omega⟩
          rw [L_X6_isWord_32]
          unfold F_J0_length_8abf5
          rw [bd_s, if_pos (nI_le (by omega) (by omega)), gB1, gu_t, decide_eq_true (fun i' x y => by omega)]
          rfl
        | succ m ih =>
          intro f i him hf
          obtain ⟨f, rfl⟩ : ∃ z, f = z + 2 := ⟨f - 2, by omega⟩
          obtain ⟨b1, b2⟩ := hb (tkB t b p + i) (by omega)
          rw [L_X6_isWord_32]
          unfold F_J0_length_8abf5 F_J0_charAt_5068e
          rw [bd_s, if_neg (nI_ge (by omega) (by omega)), if_neg (by decide), c7, nI_add, gu_nI (by omega) (by decide), gu_nI (by omega) (by omega), cl_nI (n := tkB t b p + i) (by omega), cl_nI (n := i) (by omega), bd_s, b2, nI_1, ih (f + 1) (i + 1) (by omega) (by omega), M_isW0]
          by_cases z : nI (b (tkB t b p + i)) = chS k i
          · rw [if_pos z]
            congr 1
            apply decide_eq_decide.mpr
            refine ⟨fun y i' x1 x2 => ?_, fun y i' x1 x2 => y i' x1 (by omega)⟩
            by_cases e : i' = i
            · rw [e]; exact z
            · exact y i' x1 (by omega)
          · rw [if_neg z, decide_eq_false (fun y => z (y i (by omega) (Nat.le_refl _)))]
      rw [nI0, key (lnS k) fu 0 (by omega) (by unfold fu; omega)]
      congr 1
      apply decide_eq_decide.mpr
      exact ⟨fun y => ⟨q, ql, fun i hi => y i hi (by omega)⟩, fun y i hi _ => y.2.2 i hi⟩
    · rw [if_neg (by rw [nI_eq (by omega) (by omega)]; exact ql), show fu = 999 + 1 from rfl, M_isW0, decide_eq_false (fun y => ql y.2.1)]
  · rw [if_neg (fun z => q (kk.mp z)), show fu = 999 + 1 from rfl, M_isW0, decide_eq_false (fun y => q y.1)]
