/-! PURE PART 26: items, and what they do to a row -/
abbrev I5 : Type := Nat × Nat × Nat × Nat × Nat
def apI (x0 x1 x2 x3 x4 : Int32) (c : RW) : RW :=
  if x0 = 10 then upd (newC c x1 x2) (ci (ncS c) 2) x3
  else if x0 = 11 then upd c (4 + x1.toNatClampNeg) x2
  else upd (upd (upd (newK c x0 x1) (ki (nkS c) 2) x2) (ki (nkS c) 3) x3) (ki (nkS c) 5) x4
def apN (I : I5) (c : RW) : RW := apI (nI I.1) (nI I.2.1) (nI I.2.2.1) (nI I.2.2.2.1) (nI I.2.2.2.2) c
def itOK (I : I5) (nk nc : Nat) : Prop := (I.1 ≤ 6 ∧ nk < 8 ∧ I.2.1 ≤ 15 ∧ I.2.2.1 ≤ 11 ∧ I.2.2.2.1 ≤ 15 ∧ I.2.2.2.2 ≤ 1) ∨ (I.1 = 10 ∧ nc < 6 ∧ I.2.1 ≤ 15 ∧ I.2.2.1 ≤ 9 ∧ I.2.2.2.1 ≤ 4095) ∨ (I.1 = 11 ∧ I.2.1 ≤ 5 ∧ I.2.2.1 ≤ 9)
theorem apN_k {k x n l s : Nat} (hk : k ≤ 6) (c : RW) : apN (k, x, n, l, s) c = upd (upd (upd (newK c (nI k) (nI x)) (ki (nkS c) 2) (nI n)) (ki (nkS c) 3) (nI l)) (ki (nkS c) 5) (nI s) := by
  unfold apN apI
  dsimp only
  rw [if_neg (show ¬ nI k = 10 from fun z => by have := (nI_eq (b := 10) (by omega) (by decide)).mp z; omega), if_neg (show ¬ nI k = 11 from fun z => by have := (nI_eq (b := 11) (by omega) (by decide)).mp z; omega)]
theorem apN_c {x q l s : Nat} (c : RW) : apN (10, x, q, l, s) c = upd (newC c (nI x) (nI q)) (ci (ncS c) 2) (nI l) := by
  unfold apN apI
  dsimp only
  rw [if_pos (show nI 10 = 10 from rfl)]
theorem apN_f {x q l s : Nat} (hx : x ≤ 5) (c : RW) : apN (11, x, q, l, s) c = upd c (4 + x) (nI q) := by
  unfold apN apI
  dsimp only
  rw [if_neg (show ¬ nI 11 = 10 by decide), if_pos (show nI 11 = 11 from rfl), cl_nI (by omega)]
theorem it_cases {I : I5} {nk nc : Nat} (h : itOK I nk nc) : (∃ k x n l s, I = (k, x, n, l, s) ∧ k ≤ 6 ∧ nk < 8 ∧ x ≤ 15 ∧ n ≤ 11 ∧ l ≤ 15 ∧ s ≤ 1) ∨ (∃ x q l s, I = (10, x, q, l, s) ∧ nc < 6 ∧ x ≤ 15 ∧ q ≤ 9 ∧ l ≤ 4095) ∨ (∃ x q l s, I = (11, x, q, l, s) ∧ x ≤ 5 ∧ q ≤ 9) := by
  obtain ⟨a, b, c, d, e⟩ := I
  rcases h with h | h | h
  · exact Or.inl ⟨a, b, c, d, e, rfl, h⟩
  · obtain ⟨h1, h2⟩ := h
    dsimp only at h1
    subst h1
    exact Or.inr (Or.inl ⟨b, c, d, e, rfl, h2⟩)
  · obtain ⟨h1, h2⟩ := h
    dsimp only at h1
    subst h1
    exact Or.inr (Or.inr ⟨b, c, d, e, rfl, h2⟩)
theorem apN_B {I : I5} {c : RW} (hI : InvB c) (h : itOK I (nkS c) (ncS c)) : InvB (apN I c) := by
  rcases it_cases h with ⟨k, x, n, l, s, rfl, a1, a2, a3, a4, a5, a6⟩ | ⟨x, q, l, s, rfl, a1, a2, a3, a4⟩ | ⟨x, q, l, s, rfl, a1, a2⟩
  · rw [apN_k a1]
    exact updK (updK (updK (newK_B hI a2 a1 a3) a2 (by decide) (show n ≤ 11 from a4)) a2 (by decide) (show l ≤ 15 from a5)) a2 (by decide) (show s ≤ 1 from a6)
  · rw [apN_c]
    exact updC (newC_B hI a1 a2 a3) a1 (by decide) (show l ≤ 4095 from a4)
  · rw [apN_f a1]
    exact updL hI (by omega) a2
theorem sim_ap {I : I5} {c m : RW} (hs : sim c m) (hI : InvB m) (h : itOK I (nkS m) (ncS m)) : sim (apN I c) (apN I m) := by
  rcases it_cases h with ⟨k, x, n, l, s, rfl, a1, a2, a3, a4, a5, a6⟩ | ⟨x, q, l, s, rfl, a1, a2, a3, a4⟩ | ⟨x, q, l, s, rfl, a1, a2⟩
  · rw [apN_k a1, apN_k a1, sim_nk hs]
    exact sim_updK (sim_updK (sim_updK (sim_newK hs hI a2 _ _) (by decide) _) (by decide) _) (by decide) _
  · rw [apN_c, apN_c, sim_nc hs]
    exact sim_updC (sim_newC hs hI a1 _ _) (by decide) _
  · rw [apN_f a1, apN_f a1]
    exact sim_updY hs (by omega) (by omega) (by omega) _
theorem Sp_ap {I : I5} {m : RW} (hp : SpOK m) (hI : InvB m) (h : itOK I (nkS m) (ncS m)) : SpOK (apN I m) := by
  rcases it_cases h with ⟨k, x, n, l, s, rfl, a1, a2, a3, a4, a5, a6⟩ | ⟨x, q, l, s, rfl, a1, a2, a3, a4⟩ | ⟨x, q, l, s, rfl, a1, a2⟩
  · rw [apN_k a1]
    exact Sp_upd (Sp_upd (Sp_upd (Sp_newK hp hI a2 _ _) (by simp only [ki]; omega) (by simp only [ki]; omega) _) (by simp only [ki]; omega) (by simp only [ki]; omega) _) (by simp only [ki]; omega) (by simp only [ki]; omega) _
  · rw [apN_c]
    exact Sp_upd (Sp_newC hp _ _) (by simp only [ci]; omega) (by simp only [ci]; omega) _
  · rw [apN_f a1]
    exact Sp_upd hp (by omega) (by omega) _
theorem ap_nk {I : I5} {c : RW} (hI : InvB c) (h : itOK I (nkS c) (ncS c)) : nkS (apN I c) = (if I.1 ≤ 6 then nkS c + 1 else nkS c) ∧ ncS (apN I c) = (if I.1 = 10 then ncS c + 1 else ncS c) := by
  rcases it_cases h with ⟨k, x, n, l, s, rfl, a1, a2, a3, a4, a5, a6⟩ | ⟨x, q, l, s, rfl, a1, a2, a3, a4⟩ | ⟨x, q, l, s, rfl, a1, a2⟩
  · rw [apN_k a1, if_pos a1, if_neg (show ¬ k = 10 by omega)]
    refine ⟨?_, ?_⟩
    · rw [← (newK_nk hI a2 (nI k) (nI x)).2]
      simp only [nkS]
      rw [upd_ne _ _ (by simp only [ki]; omega), upd_ne _ _ (by simp only [ki]; omega), upd_ne _ _ (by simp only [ki]; omega)]
    · simp only [ncS]
      rw [upd_ne _ _ (by simp only [ki]; omega), upd_ne _ _ (by simp only [ki]; omega), upd_ne _ _ (by simp only [ki]; omega), (newK_at c (nI k) (nI x)).2.2.2.2.2.2.2 3 (by decide) (by simp only [ki]; omega)]
  · rw [apN_c, if_neg (show ¬ (10 : Nat) ≤ 6 by decide), if_pos rfl]
    refine ⟨?_, ?_⟩
    · simp only [nkS]
      rw [upd_ne _ _ (by simp only [ci]; omega), (newC_at c (nI x) (nI q)).2.2.2.2.2 1 (by decide) (by simp only [ci]; omega)]
    · rw [← (newC_nc hI a1 (nI x) (nI q)).2]
      simp only [ncS]
      rw [upd_ne _ _ (by simp only [ci]; omega)]
  · rw [apN_f a1, if_neg (show ¬ (11 : Nat) ≤ 6 by decide), if_neg (show ¬ (11 : Nat) = 10 by decide)]
    exact ⟨by simp only [nkS]; rw [upd_ne _ _ (by omega)], by simp only [ncS]; rw [upd_ne _ _ (by omega)]⟩
/-! items read: spec -/
abbrev R5 : Type := Bool × I5 × Nat
def z5 : I5 := (0, 0, 0, 0, 0)
def thn (o : Bool × Nat × Nat) (f : Nat → Nat → R5) : R5 := if o.1 = true then f o.2.1 o.2.2 else (false, z5, o.2.2)
theorem thn_t {o : Bool × Nat × Nat} {f : Nat → Nat → R5} (h : o.1 = true) : thn o f = f o.2.1 o.2.2 := if_pos h
theorem thn_f {o : Bool × Nat × Nat} {f : Nat → Nat → R5} (h : ¬ o.1 = true) : thn o f = (false, z5, o.2.2) := if_neg h
def itKp (t : Nat) (b : Nat → Nat) (k nk p : Nat) : R5 := if 8 ≤ nk then (false, z5, p) else thn (rdO t b 9 15 0 (tkE t b p)) (fun c p1 => thn (rdO t b 10 11 0 p1) (fun n p2 => thn (rdO t b 11 15 6 p2) (fun l p3 => (true, (k, c, n, l, if isW t b 12 p3 = true then 1 else 0), if isW t b 12 p3 = true then tkE t b p3 else p3))))
def itCh (t : Nat) (b : Nat → Nat) (nc p : Nat) : R5 := if 6 ≤ nc then (false, z5, p) else thn (rdO t b 9 15 0 (tkE t b p)) (fun c p1 => thn (rdO t b 13 9 3 p1) (fun q p2 => thn (rdO t b 14 4095 0 p2) (fun l p3 => (true, (10, c, q, l, 0), p3))))
def itFg (t : Nat) (b : Nat → Nat) (p : Nat) : R5 := if nOK t b 5 (tkE t b p) = true then (if nOK t b 9 (tkE t b (tkE t b p)) = true then (true, (11, tkN t b (tkE t b p), tkN t b (tkE t b (tkE t b p)), 0, 0), tkE t b (tkE t b (tkE t b p))) else (false, z5, tkE t b (tkE t b p))) else (false, z5, tkE t b p)
def kwN (t : Nat) (b : Nat → Nat) (p : Nat) : Nat := stopN (fun k => !isW t b k p) 7 0
def itS (t : Nat) (b : Nat → Nat) (nk nc p : Nat) : R5 := if kwN t b p < 7 then itKp t b (kwN t b p) nk p else if isW t b 7 p = true then itCh t b nc p else if isW t b 8 p = true then itFg t b p else (false, z5, p)
theorem isW_k {t k p : Nat} {b : Nat → Nat} (h : isW t b k p = true) : tkK t b p = 1 := (of_decide_eq_true h : _ ∧ _).1
theorem isW_adv {t k p : Nat} {b : Nat → Nat} (h : isW t b k p = true) (hp : p ≤ t) (ht : t ≤ 120) : p < tkE t b p := by
  have h1 := tkB_sp b hp ht
  have h2 := (tkE_sp b hp ht).2.2 (by rw [isW_k h]; decide)
  omega
theorem kw_sp (t : Nat) (b : Nat → Nat) (p : Nat) : kwN t b p ≤ 7 ∧ (∀ k, k < kwN t b p → ¬ isW t b k p = true) ∧ (kwN t b p < 7 → isW t b (kwN t b p) p = true) := by
  obtain ⟨-, h2, h3, h4⟩ := stopN_sp (fun k => !isW t b k p) 7 0
  have e : stopN (fun k => !isW t b k p) 7 0 = kwN t b p := rfl
  rw [e] at h2 h3 h4
  refine ⟨by omega, fun k hk z => ?_, fun hk => ?_⟩
  · have := h3 k (by omega) hk
    rw [z] at this
    cases this
  · rcases h4 with q | q
    · omega
    · cases z : isW t b (kwN t b p) p with
      | true => rfl
      | false => rw [z] at q; exact absurd rfl q
/-- what is read well, is well; and the reader goes on -/
theorem itKp_ok {t k nk p : Nat} {b : Nat → Nat} (hp : p ≤ t) (ht : t ≤ 120) (hk : k ≤ 6) (nc : Nat) : (itKp t b k nk p).2.2 ≤ t ∧ ((itKp t b k nk p).1 = true → itOK (itKp t b k nk p).2.1 nk nc ∧ tkE t b p ≤ (itKp t b k nk p).2.2) := by
  obtain ⟨e1, e2⟩ := tkE_le b hp ht
  unfold itKp
  by_cases q : 8 ≤ nk
  · rw [if_pos q]; exact ⟨hp, fun z => by cases z⟩
  rw [if_neg q]
  obtain ⟨a1, a2, a3⟩ := rdO_bd (k := 9) (top := 15) (d := 0) (b := b) e2 ht (by decide)
  by_cases q1 : (rdO t b 9 15 0 (tkE t b p)).1 = true
  · rw [thn_t q1]
    obtain ⟨b1, b2, b3⟩ := rdO_bd (k := 10) (top := 11) (d := 0) (b := b) a2 ht (by decide)
    by_cases q2 : (rdO t b 10 11 0 (rdO t b 9 15 0 (tkE t b p)).2.2).1 = true
    · rw [thn_t q2]
      obtain ⟨c1, c2, c3⟩ := rdO_bd (k := 11) (top := 15) (d := 6) (b := b) b2 ht (by decide)
      by_cases q3 : (rdO t b 11 15 6 (rdO t b 10 11 0 (rdO t b 9 15 0 (tkE t b p)).2.2).2.2).1 = true
      · rw [thn_t q3]
        obtain ⟨d1, d2⟩ := tkE_le b c2 ht
        dsimp only
        refine ⟨by split <;> omega, fun _ => ⟨Or.inl ⟨hk, by omega, a3 q1, b3 q2, c3 q3, by dsimp only; split <;> omega⟩, by split <;> omega⟩⟩
      · rw [thn_f q3]; exact ⟨c2, fun z => by cases z⟩
    · rw [thn_f q2]; exact ⟨b2, fun z => by cases z⟩
  · rw [thn_f q1]; exact ⟨a2, fun z => by cases z⟩
theorem itCh_ok {t nc p : Nat} {b : Nat → Nat} (hp : p ≤ t) (ht : t ≤ 120) (nk : Nat) : (itCh t b nc p).2.2 ≤ t ∧ ((itCh t b nc p).1 = true → itOK (itCh t b nc p).2.1 nk nc ∧ tkE t b p ≤ (itCh t b nc p).2.2) := by
  obtain ⟨e1, e2⟩ := tkE_le b hp ht
  unfold itCh
  by_cases q : 6 ≤ nc
  · rw [if_pos q]; exact ⟨hp, fun z => by cases z⟩
  rw [if_neg q]
  obtain ⟨a1, a2, a3⟩ := rdO_bd (k := 9) (top := 15) (d := 0) (b := b) e2 ht (by decide)
  by_cases q1 : (rdO t b 9 15 0 (tkE t b p)).1 = true
  · rw [thn_t q1]
    obtain ⟨b1, b2, b3⟩ := rdO_bd (k := 13) (top := 9) (d := 3) (b := b) a2 ht (by decide)
    by_cases q2 : (rdO t b 13 9 3 (rdO t b 9 15 0 (tkE t b p)).2.2).1 = true
    · rw [thn_t q2]
      obtain ⟨c1, c2, c3⟩ := rdO_bd (k := 14) (top := 4095) (d := 0) (b := b) b2 ht (by decide)
      by_cases q3 : (rdO t b 14 4095 0 (rdO t b 13 9 3 (rdO t b 9 15 0 (tkE t b p)).2.2).2.2).1 = true
      · rw [thn_t q3]
        exact ⟨c2, fun _ => ⟨Or.inr (Or.inl ⟨rfl, by omega, a3 q1, b3 q2, c3 q3⟩), by dsimp only; omega⟩⟩
      · rw [thn_f q3]; exact ⟨c2, fun z => by cases z⟩
    · rw [thn_f q2]; exact ⟨b2, fun z => by cases z⟩
  · rw [thn_f q1]; exact ⟨a2, fun z => by cases z⟩
theorem itFg_ok {t p : Nat} {b : Nat → Nat} (hp : p ≤ t) (ht : t ≤ 120) (nk nc : Nat) : (itFg t b p).2.2 ≤ t ∧ ((itFg t b p).1 = true → itOK (itFg t b p).2.1 nk nc ∧ tkE t b p ≤ (itFg t b p).2.2) := by
  obtain ⟨e1, e2⟩ := tkE_le b hp ht
  obtain ⟨f1, f2⟩ := tkE_le b e2 ht
  obtain ⟨g1, g2⟩ := tkE_le b f2 ht
  unfold itFg
  by_cases q1 : nOK t b 5 (tkE t b p) = true
  · rw [if_pos q1]
    by_cases q2 : nOK t b 9 (tkE t b (tkE t b p)) = true
    · rw [if_pos q2]
      exact ⟨g2, fun _ => ⟨Or.inr (Or.inr ⟨rfl, (of_decide_eq_true q1 : _ ∧ _).2, (of_decide_eq_true q2 : _ ∧ _).2⟩), by dsimp only; omega⟩⟩
    · rw [if_neg q2]; exact ⟨f2, fun z => by cases z⟩
  · rw [if_neg q1]; exact ⟨e2, fun z => by cases z⟩
theorem itS_ok {t p : Nat} {b : Nat → Nat} (hp : p ≤ t) (ht : t ≤ 120) (nk nc : Nat) : (itS t b nk nc p).2.2 ≤ t ∧ ((itS t b nk nc p).1 = true → itOK (itS t b nk nc p).2.1 nk nc ∧ p < (itS t b nk nc p).2.2) := by
  obtain ⟨k1, k2, k3⟩ := kw_sp t b p
  unfold itS
  by_cases q : kwN t b p < 7
  · rw [if_pos q]
    obtain ⟨a1, a2⟩ := itKp_ok (nk := nk) (k := kwN t b p) (b := b) hp ht (by omega) nc
    have := isW_adv (k3 q) hp ht
    exact ⟨a1, fun z => ⟨(a2 z).1, by have := (a2 z).2; omega⟩⟩
  · rw [if_neg q]
    by_cases q7 : isW t b 7 p = true
    · rw [if_pos q7]
      obtain ⟨a1, a2⟩ := itCh_ok (nc := nc) (b := b) hp ht nk
      have := isW_adv q7 hp ht
      exact ⟨a1, fun z => ⟨(a2 z).1, by have := (a2 z).2; omega⟩⟩
    · rw [if_neg q7]
      by_cases q8 : isW t b 8 p = true
      · rw [if_pos q8]
        obtain ⟨a1, a2⟩ := itFg_ok (b := b) hp ht nk nc
        have := isW_adv q8 hp ht
        exact ⟨a1, fun z => ⟨(a2 z).1, by have := (a2 z).2; omega⟩⟩
      · rw [if_neg q8]
        exact ⟨hp, fun z => by cases z⟩
