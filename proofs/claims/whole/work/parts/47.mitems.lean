/-! PURE PART 28: the reference reads items -/
def Sx (w w' : VV) : Prop := (∀ i, i ≠ 0 → i ≠ 6 → w' i = w i) ∧ ∀ s, s < 7 → w' 0 s = w 0 s
theorem Sx.tr {a b c : VV} (h1 : Sx a b) (h2 : Sx b c) : Sx a c := ⟨fun i h0 h6 => (h2.1 i h0 h6).trans (h1.1 i h0 h6), fun s hs => (h2.2 s hs).trans (h1.2 s hs)⟩
theorem Sm.sx {w w' : VV} (h : Sm w w') : Sx w w' := ⟨fun i h0 _ => h.1 i h0, fun s hs => h.2 s (by omega) (by omega) (by omega) (by omega) (by omega)⟩
/-- counts and items as they stand -/
def Ct (w : VV) (n nk nc : Nat) : Prop := w 0 14 = nI n ∧ w 0 15 = nI nk ∧ w 0 16 = nI nc
theorem Ct_mv {w w' : VV} {n nk nc : Nat} (h : Ct w n nk nc) (hs : Sm w w') : Ct w' n nk nc := ⟨by rw [hs.2 14 (by decide) (by decide) (by decide) (by decide) (by decide)]; exact h.1, by rw [hs.2 15 (by decide) (by decide) (by decide) (by decide) (by decide)]; exact h.2.1, by rw [hs.2 16 (by decide) (by decide) (by decide) (by decide) (by decide)]; exact h.2.2⟩
def itAt (w : VV) (n : Nat) (I : I5) : Prop := w 6 (5 * n) = nI I.1 ∧ w 6 (5 * n + 1) = nI I.2.1 ∧ w 6 (5 * n + 2) = nI I.2.2.1 ∧ w 6 (5 * n + 3) = nI I.2.2.2.1 ∧ w 6 (5 * n + 4) = nI I.2.2.2.2
theorem MS_mv {t p fl : Nat} {b : Nat → Nat} {w w' : VV} (h : MS t b w p fl) (h5 : w' 5 = w 5) (hs : ∀ s, s < 14 → w' 0 s = w 0 s) : MS t b w' p fl := by
  obtain ⟨⟨ht, h6, hb⟩, ⟨m9, m7, m8, m10⟩, h11⟩ := h
  refine ⟨⟨ht, by rw [hs 6 (by decide)]; exact h6, fun j hj => by rw [h5]; exact hb j hj⟩, ?_, by rw [hs 11 (by decide)]; exact h11⟩
  unfold MT
  rw [hs 9 (by decide), hs 7 (by decide), hs 8 (by decide), hs 10 (by decide)]
  exact ⟨m9, m7, m8, m10⟩
theorem M_add {w : VV} {n : Nat} (hn : n < 120) (h14 : w 0 14 = nI n) (a c d e f : Int32) : ∃ w', F_X6_addItem a c d e f w = some w' ∧ w' 0 14 = nI (n + 1) ∧ (∀ s, s ≠ 14 → w' 0 s = w 0 s) ∧ (∀ i, i ≠ 0 → i ≠ 6 → w' i = w i) ∧ (∀ y, y < 5 * n → w' 6 y = w 6 y) ∧ w' 6 (5 * n) = a ∧ w' 6 (5 * n + 1) = c ∧ w' 6 (5 * n + 2) = d ∧ w' 6 (5 * n + 3) = e ∧ w' 6 (5 * n + 4) = f := by
  have e0 : (5 : Int32) * nI n = nI (5 * n) := by rw [show (5 : Int32) = nI 5 from rfl, pk_mul]
  have e1 : nI (5 * n) + 1 = nI (5 * n + 1) := nI_1 _
  have e2 : nI (5 * n) + 2 = nI (5 * n + 2) := nI_add (5 * n) 2
  have e3 : nI (5 * n) + 3 = nI (5 * n + 3) := nI_add (5 * n) 3
  have e4 : nI (5 * n) + 4 = nI (5 * n + 4) := nI_add (5 * n) 4
  unfold F_X6_addItem
  rw [h14, e0, e1, e2, e3, e4, gu_nI (by omega) (by decide), gu_nI (by omega) (by decide), gu_nI (by omega) (by decide), gu_nI (by omega) (by decide), gu_nI (by omega) (by decide), cl_nI (n := 5 * n) (by omega), cl_nI (n := 5 * n + 1) (by omega), cl_nI (n := 5 * n + 2) (by omega), cl_nI (n := 5 * n + 3) (by omega), cl_nI (n := 5 * n + 4) (by omega)]
  have x14 : ∀ x : VV, x = pu (pu (pu (pu (pu w 6 (5 * n) a) 6 (5 * n + 1) c) 6 (5 * n + 2) d) 6 (5 * n + 3) e) 6 (5 * n + 4) f → x 0 = w 0 ∧ (∀ i, i ≠ 6 → x i = w i) ∧ x 6 = upd (upd (upd (upd (upd (w 6) (5 * n) a) (5 * n + 1) c) (5 * n + 2) d) (5 * n + 3) e) (5 * n + 4) f := fun x ex => by
    rw [ex]
    refine ⟨?_, fun i hi => ?_, ?_⟩
    · rw [pu_ne _ _ _ (by decide), pu_ne _ _ _ (by decide), pu_ne _ _ _ (by decide), pu_ne _ _ _ (by decide), pu_ne _ _ _ (by decide)]
    · rw [pu_ne _ _ _ hi, pu_ne _ _ _ hi, pu_ne _ _ _ hi, pu_ne _ _ _ hi, pu_ne _ _ _ hi]
    · rw [pu_self, pu_self, pu_self, pu_self, pu_self]
  obtain ⟨y0, yo, y6⟩ := x14 _ rfl
  generalize pu (pu (pu (pu (pu w 6 (5 * n) a) 6 (5 * n + 1) c) 6 (5 * n + 2) d) 6 (5 * n + 3) e) 6 (5 * n + 4) f = x at y0 yo y6
  refine ⟨_, rfl, ?_, fun s hs => ?_, fun i h0 h6 => ?_, fun y hy => ?_, ?_, ?_, ?_, ?_, ?_⟩
  · rw [pu_self, upd_self, y0, h14, nI_1]
  · rw [pu_self, upd_ne _ _ hs, y0]
  · rw [pu_ne _ _ _ h0]; exact yo i h6
  · rw [pu_ne _ _ _ (by decide), y6, upd_ne _ _ (by omega), upd_ne _ _ (by omega), upd_ne _ _ (by omega), upd_ne _ _ (by omega), upd_ne _ _ (by omega)]
  · rw [pu_ne _ _ _ (by decide), y6, upd_ne _ _ (by omega), upd_ne _ _ (by omega), upd_ne _ _ (by omega), upd_ne _ _ (by omega), upd_self]
  · rw [pu_ne _ _ _ (by decide), y6, upd_ne _ _ (by omega), upd_ne _ _ (by omega), upd_ne _ _ (by omega), upd_self]
  · rw [pu_ne _ _ _ (by decide), y6, upd_ne _ _ (by omega), upd_ne _ _ (by omega), upd_self]
  · rw [pu_ne _ _ _ (by decide), y6, upd_ne _ _ (by omega), upd_self]
  · rw [pu_ne _ _ _ (by decide), y6, upd_self]
/-- after an item: well read, or a fault -/
def Rc (w w' : VV) (n nk nc : Nat) (I : I5) : Prop := Ct w' (n + 1) (if I.1 ≤ 6 then nk + 1 else nk) (if I.1 = 10 then nc + 1 else nc) ∧ itAt w' n I ∧ ∀ y, y < 5 * n → w' 6 y = w 6 y
def Po (t : Nat) (b : Nat → Nat) (w w' : VV) (n nk nc : Nat) (r : R5) : Prop := Sx w w' ∧ (r.1 = true → MS t b w' r.2.2 0 ∧ Rc w w' n nk nc r.2.1) ∧ (¬ r.1 = true → MS t b w' r.2.2 1)
theorem Po_pre {t n nk nc : Nat} {b : Nat → Nat} {w w1 w' : VV} {r : R5} (h : Sm w w1) (hp : Po t b w1 w' n nk nc r) : Po t b w w' n nk nc r := by
  refine ⟨h.sx.tr hp.1, fun z => ⟨(hp.2.1 z).1, (hp.2.1 z).2.1, (hp.2.1 z).2.2.1, fun y hy => ?_⟩, hp.2.2⟩
  rw [(hp.2.1 z).2.2.2 y hy, h.1 6 (by decide)]
/-! keepers -/
def q12 (a c n l : Int32) (w : VV) : Option VV := Option.bind (F_X6_takesWord 12 w) (fun (r, w') => if r = true then Option.bind (F_X6_addItem a c n l 1 w') (fun z => some (pu z 0 15 ((z 0 15) + 1))) else Option.bind (F_X6_addItem a c n l 0 w') (fun z => some (pu z 0 15 ((z 0 15) + 1))))
def q11 (a c n : Int32) (w : VV) : Option VV := Option.bind (F_X6_takesWord 11 w) (fun (r, w') => if r = true then Option.bind (F_X6_number 0 15 w') (fun (x, w'') => q12 a c n x w'') else q12 a c n 6 w')
def q10 (a c : Int32) (w : VV) : Option VV := Option.bind (F_X6_takesWord 10 w) (fun (r, w') => if r = true then Option.bind (F_X6_number 0 11 w') (fun (x, w'') => q11 a c x w'') else q11 a c 0 w')
def q9 (a : Int32) (w : VV) : Option VV := Option.bind (F_X6_takesWord 9 w) (fun (r, w') => if r = true then Option.bind (F_X6_number 0 15 w') (fun (x, w'') => q10 a x w'') else q10 a 0 w')
theorem rk_q (a : Int32) (w : VV) : F_X6_readKeeper a w = if 8 ≤ w 0 15 then Option.bind (F_X6_must 0 w) (fun x => q9 a x) else Option.bind (F_X6_must 1 w) (fun x => q9 a x) := rfl
theorem q11_f (a c n : Int32) (w : VV) : q11 a c n w = Option.bind (optM 11 (nI 15) (nI 6) w) (fun (x, w') => q12 a c n x w') := opt_fold 11 15 6 w (fun (x, w') => q12 a c n x w')
theorem q10_f (a c : Int32) (w : VV) : q10 a c w = Option.bind (optM 10 (nI 11) (nI 0) w) (fun (x, w') => q11 a c x w') := opt_fold 10 11 0 w (fun (x, w') => q11 a c x w')
theorem q9_f (a : Int32) (w : VV) : q9 a w = Option.bind (optM 9 (nI 15) (nI 0) w) (fun (x, w') => q10 a x w') := opt_fold 9 15 0 w (fun (x, w') => q10 a x w')
theorem add15 {w w1 : VV} {n : Nat} (h : w1 0 14 = nI (n + 1) ∧ (∀ s, s ≠ 14 → w1 0 s = w 0 s) ∧ (∀ i, i ≠ 0 → i ≠ 6 → w1 i = w i)) (s0 : Nat) (hs0 : 15 ≤ s0) (x : Int32) : Sx w (pu w1 0 s0 x) ∧ (∀ s, s < 14 → pu w1 0 s0 x 0 s = w 0 s) ∧ pu w1 0 s0 x 5 = w 5 := by
  refine ⟨⟨fun i h0 h6 => by rw [pu_ne _ _ _ h0]; exact h.2.2 i h0 h6, fun s hs => by rw [pu_self, upd_ne _ _ (by omega)]; exact h.2.1 s (by omega)⟩, fun s hs => by rw [pu_self, upd_ne _ _ (by omega)]; exact h.2.1 s (by omega), by rw [pu_ne _ _ _ (by decide)]; exact h.2.2 5 (by decide) (by decide)⟩
theorem q12_F {t p n nk nc : Nat} {b : Nat → Nat} {w : VV} (h : MS t b w p 1) (hn : n < 120) (hc : Ct w n nk nc) (a c d l : Int32) : ∃ w', q12 a c d l w = some w' ∧ Sx w w' ∧ MS t b w' p 1 := by
  unfold q12
  rw [M_takF h, bd_s]
  dsimp only
  rw [if_neg (by decide)]
  obtain ⟨w1, a1, a2, a3, a4, -⟩ := M_add hn hc.1 a c d l 0
  obtain ⟨x1, x2, x3⟩ := add15 ⟨a2, a3, a4⟩ 15 (by decide) (w1 0 15 + 1)
  rw [a1, bd_s]
  exact ⟨_, rfl, x1, MS_mv h x3 x2⟩
theorem q12_0 {t p n nk nc : Nat} {b : Nat → Nat} {w : VV} (h : MS t b w p 0) (hp : p ≤ t) (hn : n < 120) (hc : Ct w n nk nc) {k c d l : Nat} (hk : k ≤ 6) : ∃ w', q12 (nI k) (nI c) (nI d) (nI l) w = some w' ∧ Po t b w w' n nk nc (true, (k, c, d, l, if isW t b 12 p = true then 1 else 0), if isW t b 12 p = true then tkE t b p else p) := by
  obtain ⟨w1, a1, a2, a3⟩ := M_tak0 (k := 12) h hp (by decide)
  have hc1 := Ct_mv hc a3
  unfold q12
  rw [a1, bd_s]
  dsimp only
  have fin : ∀ (s : Nat) (q : Nat), MS t b w1 q 0 → ∃ w', Option.bind (F_X6_addItem (nI k) (nI c) (nI d) (nI l) (nI s) w1) (fun z => some (pu z 0 15 ((z 0 15) + 1))) = some w' ∧ Po t b w w' n nk nc (true, (k, c, d, l, s), q) := fun s q hq => by
    obtain ⟨w2, b1, b2, b3, b4, b5, b6, b7, b8, b9, b10⟩ := M_add hn hc1.1 (nI k) (nI c) (nI d) (nI l) (nI s)
    obtain ⟨x1, x2, x3⟩ := add15 ⟨b2, b3, b4⟩ 15 (by decide) (w2 0 15 + 1)
    have e6 : ∀ x, pu w2 0 15 x 6 = w2 6 := fun x => pu_ne _ _ _ (by decide)
    rw [b1, bd_s]
    refine ⟨_, rfl, Po_pre a3 ⟨x1, fun _ => ⟨MS_mv hq x3 x2, ⟨?_, ?_, ?_⟩, ?_, fun y hy => by rw [e6]; exact b5 y hy⟩, fun z => absurd rfl z⟩⟩
    · rw [pu_self, upd_ne _ _ (by decide)]; exact b2
    · dsimp only
      rw [pu_self, upd_self, b3 15 (by decide), hc1.2.1, nI_1, if_pos hk]
    · dsimp only
      rw [pu_self, upd_ne _ _ (by decide), b3 16 (by decide), hc1.2.2, if_neg (by omega)]
    · unfold itAt
      rw [e6]
      exact ⟨b6, b7, b8, b9, b10⟩
  by_cases q : isW t b 12 p = true
  · rw [if_pos q] at a2
    rw [if_pos q, if_pos q, if_pos q]
    exact fin 1 _ a2
  · rw [if_neg q] at a2
    rw [if_neg q, if_neg q, if_neg q]
    exact fin 0 _ a2
theorem q11_F {t p n nk nc : Nat} {b : Nat → Nat} {w : VV} (h : MS t b w p 1) (hp : p ≤ t) (hn : n < 120) (hc : Ct w n nk nc) (a c d : Int32) : ∃ w', q11 a c d w = some w' ∧ Sx w w' ∧ MS t b w' p 1 := by
  obtain ⟨x, w1, a1, a2, -, -, a5⟩ := M_opt (k := 11) (top := 15) (d := 6) h (Or.inr rfl) hp (by decide) (by decide)
  rw [q11_f, a1, bd_s]
  obtain ⟨w', b1, b2, b3⟩ := q12_F (a5 rfl) hn (Ct_mv hc a2) a c d x
  exact ⟨w', b1, a2.sx.tr b2, b3⟩
theorem q11_0 {t p n nk nc : Nat} {b : Nat → Nat} {w : VV} (h : MS t b w p 0) (hp : p ≤ t) (hn : n < 120) (hc : Ct w n nk nc) {k c d : Nat} (hk : k ≤ 6) : ∃ w', q11 (nI k) (nI c) (nI d) w = some w' ∧ Po t b w w' n nk nc (thn (rdO t b 11 15 6 p) (fun l p3 => (true, (k, c, d, l, if isW t b 12 p3 = true then 1 else 0), if isW t b 12 p3 = true then tkE t b p3 else p3))) := by
  obtain ⟨x, w1, a1, a2, a3, a4, -⟩ := M_opt (k := 11) (top := 15) (d := 6) h (Or.inl rfl) hp (by decide) (by decide)
  obtain ⟨r1, r2, r3⟩ := rdO_bd (k := 11) (top := 15) (d := 6) (b := b) hp h.1.1 (by decide)
  rw [q11_f, a1, bd_s]
  dsimp only
  by_cases q : (rdO t b 11 15 6 p).1 = true
  · obtain ⟨e, hs⟩ := a3 rfl q
    rw [e, thn_t q]
    obtain ⟨w', b1, b2⟩ := q12_0 (k := k) (c := c) (d := d) (l := (rdO t b 11 15 6 p).2.1) hs r2 hn (Ct_mv hc a2) hk
    exact ⟨w', b1, Po_pre a2 b2⟩
  · rw [thn_f q]
    obtain ⟨w', b1, b2, b3⟩ := q12_F (a4 rfl q) hn (Ct_mv hc a2) (nI k) (nI c) (nI d) x
    exact ⟨w', b1, a2.sx.tr b2, fun z => (by cases z), fun _ => b3⟩
theorem q10_F {t p n nk nc : Nat} {b : Nat → Nat} {w : VV} (h : MS t b w p 1) (hp : p ≤ t) (hn : n < 120) (hc : Ct w n nk nc) (a c : Int32) : ∃ w', q10 a c w = some w' ∧ Sx w w' ∧ MS t b w' p 1 := by
  obtain ⟨x, w1, a1, a2, -, -, a5⟩ := M_opt (k := 10) (top := 11) (d := 0) h (Or.inr rfl) hp (by decide) (by decide)
  rw [q10_f, a1, bd_s]
  obtain ⟨w', b1, b2, b3⟩ := q11_F (a5 rfl) hp hn (Ct_mv hc a2) a c x
  exact ⟨w', b1, a2.sx.tr b2, b3⟩
theorem q10_0 {t p n nk nc : Nat} {b : Nat → Nat} {w : VV} (h : MS t b w p 0) (hp : p ≤ t) (hn : n < 120) (hc : Ct w n nk nc) {k c : Nat} (hk : k ≤ 6) : ∃ w', q10 (nI k) (nI c) w = some w' ∧ Po t b w w' n nk nc (thn (rdO t b 10 11 0 p) (fun n p2 => thn (rdO t b 11 15 6 p2) (fun l p3 => (true, (k, c, n, l, if isW t b 12 p3 = true then 1 else 0), if isW t b 12 p3 = true then tkE t b p3 else p3)))) := by
  obtain ⟨x, w1, a1, a2, a3, a4, -⟩ := M_opt (k := 10) (top := 11) (d := 0) h (Or.inl rfl) hp (by decide) (by decide)
  obtain ⟨r1, r2, r3⟩ := rdO_bd (k := 10) (top := 11) (d := 0) (b := b) hp h.1.1 (by decide)
  rw [q10_f, a1, bd_s]
  dsimp only
  by_cases q : (rdO t b 10 11 0 p).1 = true
  · obtain ⟨e, hs⟩ := a3 rfl q
    rw [e, thn_t q]
    obtain ⟨w', b1, b2⟩ := q11_0 (k := k) (c := c) (d := (rdO t b 10 11 0 p).2.1) hs r2 hn (Ct_mv hc a2) hk
    exact ⟨w', b1, Po_pre a2 b2⟩
  · rw [thn_f q]
    obtain ⟨w', b1, b2, b3⟩ := q11_F (a4 rfl q) r2 hn (Ct_mv hc a2) (nI k) (nI c) x
    exact ⟨w', b1, a2.sx.tr b2, fun z => (by cases z), fun _ => b3⟩
theorem q9_F {t p n nk nc : Nat} {b : Nat → Nat} {w : VV} (h : MS t b w p 1) (hp : p ≤ t) (hn : n < 120) (hc : Ct w n nk nc) (a : Int32) : ∃ w', q9 a w = some w' ∧ Sx w w' ∧ MS t b w' p 1 := by
  obtain ⟨x, w1, a1, a2, -, -, a5⟩ := M_opt (k := 9) (top := 15) (d := 0) h (Or.inr rfl) hp (by decide) (by decide)
  rw [q9_f, a1, bd_s]
  obtain ⟨w', b1, b2, b3⟩ := q10_F (a5 rfl) hp hn (Ct_mv hc a2) a x
  exact ⟨w', b1, a2.sx.tr b2, b3⟩
theorem M_rdK {t p n nk nc k : Nat} {b : Nat → Nat} {w : VV} (h : MS t b w p 0) (hp : p ≤ t) (hn : n < 120) (hc : Ct w n nk nc) (hnk : nk ≤ 8) (hk : k ≤ 6) : ∃ w', F_X6_readKeeper (nI k) w = some w' ∧ Po t b w w' n nk nc (itKp t b k nk p) := by
  rw [rk_q, hc.2.1]
  unfold itKp
  by_cases q : 8 ≤ nk
  · rw [if_pos (show (8 : Int32) ≤ nI nk from nI_le (a := 8) q (by omega)), if_pos q]
    obtain ⟨w1, a1, a2, a3⟩ := M_must0 h
    obtain ⟨w', b1, b2, b3⟩ := q9_F a2 hp hn (Ct_mv hc a3) (nI k)
    rw [a1, bd_s]
    exact ⟨w', b1, a3.sx.tr b2, fun z => (by cases z), fun _ => b3⟩
  · rw [if_neg (show ¬ (8 : Int32) ≤ nI nk from nI_ge (b := 8) (by omega) (by decide)), if_neg q]
    obtain ⟨w1, a1, a2, a3⟩ := M_must1 h hp
    obtain ⟨e1, e2⟩ := tkE_le b hp h.1.1
    rw [a1, bd_s]
    obtain ⟨x, w2, c1, c2, c3, c4, -⟩ := M_opt (k := 9) (top := 15) (d := 0) a2 (Or.inl rfl) e2 (by decide) (by decide)
    obtain ⟨r1, r2, r3⟩ := rdO_bd (k := 9) (top := 15) (d := 0) (b := b) e2 h.1.1 (by decide)
    rw [q9_f, c1, bd_s]
    dsimp only
    by_cases q1 : (rdO t b 9 15 0 (tkE t b p)).1 = true
    · obtain ⟨ee, hs⟩ := c3 rfl q1
      rw [ee, thn_t q1]
      obtain ⟨w', b1, b2⟩ := q10_0 (k := k) (c := (rdO t b 9 15 0 (tkE t b p)).2.1) hs r2 hn (Ct_mv (Ct_mv hc a3) c2) hk
      exact ⟨w', b1, Po_pre a3 (Po_pre c2 b2)⟩
    · rw [thn_f q1]
      obtain ⟨w', b1, b2, b3⟩ := q10_F (c4 rfl q1) r2 hn (Ct_mv (Ct_mv hc a3) c2) (nI k) x
      exact ⟨w', b1, (a3.sx.tr c2.sx).tr b2, fun z => (by cases z), fun _ => b3⟩
/-! children -/
def p14 (c q : Int32) (w : VV) : Option VV := Option.bind (F_X6_takesWord 14 w) (fun (r, w') => if r = true then Option.bind (F_X6_number 0 4095 w') (fun (x, w'') => Option.bind (F_X6_addItem 10 c q x 0 w'') (fun z => some (pu z 0 16 ((z 0 16) + 1)))) else Option.bind (F_X6_addItem 10 c q 0 0 w') (fun z => some (pu z 0 16 ((z 0 16) + 1))))
def p13 (c : Int32) (w : VV) : Option VV := Option.bind (F_X6_takesWord 13 w) (fun (r, w') => if r = true then Option.bind (F_X6_number 0 9 w') (fun (x, w'') => p14 c x w'') else p14 c 3 w')
def p9 (w : VV) : Option VV := Option.bind (F_X6_takesWord 9 w) (fun (r, w') => if r = true then Option.bind (F_X6_number 0 15 w') (fun (x, w'') => p13 x w'') else p13 0 w')
theorem rc_p (w : VV) : F_X6_readChild w = if 6 ≤ w 0 16 then Option.bind (F_X6_must 0 w) (fun x => p9 x) else Option.bind (F_X6_must 1 w) (fun x => p9 x) := rfl
theorem p14_f (c q : Int32) (w : VV) : p14 c q w = Option.bind (optM 14 (nI 4095) (nI 0) w) (fun (x, w') => Option.bind (F_X6_addItem 10 c q x 0 w') (fun z => some (pu z 0 16 ((z 0 16) + 1)))) := opt_fold 14 4095 0 w (fun (x, w') => Option.bind (F_X6_addItem 10 c q x 0 w') (fun z => some (pu z 0 16 ((z 0 16) + 1))))
theorem p13_f (c : Int32) (w : VV) : p13 c w = Option.bind (optM 13 (nI 9) (nI 3) w) (fun (x, w') => p14 c x w') := opt_fold 13 9 3 w (fun (x, w') => p14 c x w')
theorem p9_f (w : VV) : p9 w = Option.bind (optM 9 (nI 15) (nI 0) w) (fun (x, w') => p13 x w') := opt_fold 9 15 0 w (fun (x, w') => p13 x w')
theorem p14_F {t p n nk nc : Nat} {b : Nat → Nat} {w : VV} (h : MS t b w p 1) (hp : p ≤ t) (hn : n < 120) (hc : Ct w n nk nc) (c q : Int32) : ∃ w', p14 c q w = some w' ∧ Sx w w' ∧ MS t b w' p 1 := by
  obtain ⟨x, w1, a1, a2, -, -, a5⟩ := M_opt (k := 14) (top := 4095) (d := 0) h (Or.inr rfl) hp (by decide) (by decide)
  rw [p14_f, a1, bd_s]
  dsimp only
  obtain ⟨w2, b1, b2, b3, b4, -⟩ := M_add hn (Ct_mv hc a2).1 10 c q x 0
  obtain ⟨x1, x2, x3⟩ := add15 ⟨b2, b3, b4⟩ 16 (by decide) (w2 0 16 + 1)
  rw [b1, bd_s]
  exact ⟨_, rfl, a2.sx.tr x1, MS_mv (a5 rfl) x3 x2⟩
theorem p14_0 {t p n nk nc : Nat} {b : Nat → Nat} {w : VV} (h : MS t b w p 0) (hp : p ≤ t) (hn : n < 120) (hc : Ct w n nk nc) {c q : Nat} : ∃ w', p14 (nI c) (nI q) w = some w' ∧ Po t b w w' n nk nc (thn (rdO t b 14 4095 0 p) (fun l p3 => (true, (10, c, q, l, 0), p3))) := by
  obtain ⟨x, w1, a1, a2, a3, a4, -⟩ := M_opt (k := 14) (top := 4095) (d := 0) h (Or.inl rfl) hp (by decide) (by decide)
  rw [p14_f, a1, bd_s]
  dsimp only
  have hc1 := Ct_mv hc a2
  obtain ⟨w2, b1, b2, b3, b4, b5, b6, b7, b8, b9, b10⟩ := M_add hn hc1.1 10 (nI c) (nI q) x 0
  obtain ⟨x1, x2, x3⟩ := add15 ⟨b2, b3, b4⟩ 16 (by decide) (w2 0 16 + 1)
  have e6 : ∀ x, pu w2 0 16 x 6 = w2 6 := fun x => pu_ne _ _ _ (by decide)
  rw [b1, bd_s]
  by_cases z : (rdO t b 14 4095 0 p).1 = true
  · obtain ⟨e, hs⟩ := a3 rfl z
    rw [thn_t z]
    refine ⟨_, rfl, Po_pre a2 ⟨x1, fun _ => ⟨MS_mv hs x3 x2, ⟨?_, ?_, ?_⟩, ?_, fun y hy => by rw [e6]; exact b5 y hy⟩, fun z => absurd rfl z⟩⟩
    · rw [pu_self, upd_ne _ _ (by decide)]; exact b2
    · rw [pu_self, upd_ne _ _ (by decide), b3 15 (by decide), hc1.2.1, if_neg (show ¬ (10 : Nat) ≤ 6 by decide)]
    · rw [pu_self, upd_self, b3 16 (by decide), hc1.2.2, nI_1, if_pos (show (10 : Nat) = 10 from rfl)]
    · unfold itAt
      rw [e6]
      exact ⟨b6, b7, b8, by rw [b9, e], b10⟩
  · rw [thn_f z]
    exact ⟨_, rfl, a2.sx.tr x1, fun y => (by cases y), fun _ => MS_mv (a4 rfl z) x3 x2⟩
theorem p13_F {t p n nk nc : Nat} {b : Nat → Nat} {w : VV} (h : MS t b w p 1) (hp : p ≤ t) (hn : n < 120) (hc : Ct w n nk nc) (c : Int32) : ∃ w', p13 c w = some w' ∧ Sx w w' ∧ MS t b w' p 1 := by
  obtain ⟨x, w1, a1, a2, -, -, a5⟩ := M_opt (k := 13) (top := 9) (d := 3) h (Or.inr rfl) hp (by decide) (by decide)
  rw [p13_f, a1, bd_s]
  obtain ⟨w', b1, b2, b3⟩ := p14_F (a5 rfl) hp hn (Ct_mv hc a2) c x
  exact ⟨w', b1, a2.sx.tr b2, b3⟩
theorem p13_0 {t p n nk nc : Nat} {b : Nat → Nat} {w : VV} (h : MS t b w p 0) (hp : p ≤ t) (hn : n < 120) (hc : Ct w n nk nc) {c : Nat} : ∃ w', p13 (nI c) w = some w' ∧ Po t b w w' n nk nc (thn (rdO t b 13 9 3 p) (fun q p2 => thn (rdO t b 14 4095 0 p2) (fun l p3 => (true, (10, c, q, l, 0), p3)))) := by
  obtain ⟨x, w1, a1, a2, a3, a4, -⟩ := M_opt (k := 13) (top := 9) (d := 3) h (Or.inl rfl) hp (by decide) (by decide)
  obtain ⟨r1, r2, r3⟩ := rdO_bd (k := 13) (top := 9) (d := 3) (b := b) hp h.1.1 (by decide)
  rw [p13_f, a1, bd_s]
  dsimp only
  by_cases q : (rdO t b 13 9 3 p).1 = true
  · obtain ⟨e, hs⟩ := a3 rfl q
    rw [e, thn_t q]
    obtain ⟨w', b1, b2⟩ := p14_0 (c := c) (q := (rdO t b 13 9 3 p).2.1) hs r2 hn (Ct_mv hc a2)
    exact ⟨w', b1, Po_pre a2 b2⟩
  · rw [thn_f q]
    obtain ⟨w', b1, b2, b3⟩ := p14_F (a4 rfl q) r2 hn (Ct_mv hc a2) (nI c) x
    exact ⟨w', b1, a2.sx.tr b2, fun z => (by cases z), fun _ => b3⟩
theorem p9_F {t p n nk nc : Nat} {b : Nat → Nat} {w : VV} (h : MS t b w p 1) (hp : p ≤ t) (hn : n < 120) (hc : Ct w n nk nc) : ∃ w', p9 w = some w' ∧ Sx w w' ∧ MS t b w' p 1 := by
  obtain ⟨x, w1, a1, a2, -, -, a5⟩ := M_opt (k := 9) (top := 15) (d := 0) h (Or.inr rfl) hp (by decide) (by decide)
  rw [p9_f, a1, bd_s]
  obtain ⟨w', b1, b2, b3⟩ := p13_F (a5 rfl) hp hn (Ct_mv hc a2) x
  exact ⟨w', b1, a2.sx.tr b2, b3⟩
theorem M_rdC {t p n nk nc : Nat} {b : Nat → Nat} {w : VV} (h : MS t b w p 0) (hp : p ≤ t) (hn : n < 120) (hc : Ct w n nk nc) (hnc : nc ≤ 6) : ∃ w', F_X6_readChild w = some w' ∧ Po t b w w' n nk nc (itCh t b nc p) := by
  rw [rc_p, hc.2.2]
  unfold itCh
  by_cases q : 6 ≤ nc
  · rw [if_pos (show (6 : Int32) ≤ nI nc from nI_le (a := 6) q (by omega)), if_pos q]
    obtain ⟨w1, a1, a2, a3⟩ := M_must0 h
    obtain ⟨w', b1, b2, b3⟩ := p9_F a2 hp hn (Ct_mv hc a3)
    rw [a1, bd_s]
    exact ⟨w', b1, a3.sx.tr b2, fun z => (by cases z), fun _ => b3⟩
  · rw [if_neg (show ¬ (6 : Int32) ≤ nI nc from nI_ge (b := 6) (by omega) (by decide)), if_neg q]
    obtain ⟨w1, a1, a2, a3⟩ := M_must1 h hp
    obtain ⟨e1, e2⟩ := tkE_le b hp h.1.1
    rw [a1, bd_s]
    obtain ⟨x, w2, c1, c2, c3, c4, -⟩ := M_opt (k := 9) (top := 15) (d := 0) a2 (Or.inl rfl) e2 (by decide) (by decide)
    obtain ⟨r1, r2, r3⟩ := rdO_bd (k := 9) (top := 15) (d := 0) (b := b) e2 h.1.1 (by decide)
    rw [p9_f, c1, bd_s]
    dsimp only
    by_cases q1 : (rdO t b 9 15 0 (tkE t b p)).1 = true
    · obtain ⟨ee, hs⟩ := c3 rfl q1
      rw [ee, thn_t q1]
      obtain ⟨w', b1, b2⟩ := p13_0 (c := (rdO t b 9 15 0 (tkE t b p)).2.1) hs r2 hn (Ct_mv (Ct_mv hc a3) c2)
      exact ⟨w', b1, Po_pre a3 (Po_pre c2 b2)⟩
    · rw [thn_f q1]
      obtain ⟨w', b1, b2, b3⟩ := p13_F (c4 rfl q1) r2 hn (Ct_mv (Ct_mv hc a3) c2) x
      exact ⟨w', b1, (a3.sx.tr c2.sx).tr b2, fun z => (by cases z), fun _ => b3⟩
