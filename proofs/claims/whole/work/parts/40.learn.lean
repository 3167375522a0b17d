/-! PURE PART 21: when something is learnt -/
def sumN (f : Nat → Nat) : Nat → Nat
  | 0 => 0
  | k + 1 => sumN f k + f k
theorem sumN_le {f g : Nat → Nat} : ∀ (k : Nat), (∀ i, i < k → f i ≤ g i) → sumN f k ≤ sumN g k
  | 0, _ => Nat.le_refl _
  | k + 1, h => Nat.add_le_add (sumN_le k (fun i hi => h i (by omega))) (h k (by omega))
theorem sumN_lt {f g : Nat → Nat} : ∀ (k : Nat), (∀ i, i < k → f i ≤ g i) → (∃ i, i < k ∧ f i < g i) → sumN f k < sumN g k
  | 0, _, ⟨i, hi, _⟩ => by omega
  | k + 1, h, ⟨i, hi, q⟩ => by
    have h1 := sumN_le k (fun i hi => h i (by omega))
    have h2 := h k (by omega)
    show sumN f k + f k < sumN g k + g k
    by_cases e : i = k
    · rw [e] at q; omega
    · have := sumN_lt k (fun i hi => h i (by omega)) ⟨i, by omega, q⟩
      omega
theorem sumN_bd {f : Nat → Nat} {b : Nat} : ∀ (k : Nat), (∀ i, i < k → f i ≤ b) → sumN f k ≤ b * k
  | 0, _ => Nat.zero_le _
  | k + 1, h => by
    have h1 := sumN_bd k (fun i hi => h i (by omega))
    have h2 := h k (by omega)
    show sumN f k + f k ≤ b * (k + 1)
    rw [Nat.mul_succ]
    omega
theorem sumN_cg {f g : Nat → Nat} : ∀ (k : Nat), (∀ i, i < k → f i = g i) → sumN f k = sumN g k
  | 0, _ => rfl
  | k + 1, h => by
    show sumN f k + f k = sumN g k + g k
    rw [sumN_cg k (fun i hi => h i (by omega)), h k (by omega)]
def popN (x : Int32) : Nat := sumN (fun i => if bt x i = true then 1 else 0) 12
theorem popN_all : ∀ a, a < 64 → ∀ b, b < 64 → popS (nI (64 * a + b)) = nI (popN (nI (64 * a + b))) := by decide +kernel
theorem pop_eq {n : Nat} (h : n ≤ 4095) : popS (nI n) = nI (popN (nI n)) := by
  have e := popN_all (n / 64) (by omega) (n % 64) (by omega)
  rw [show 64 * (n / 64) + n % 64 = n by omega] at e
  exact e
theorem popN_bd (x : Int32) : popN x ≤ 12 := by
  have := sumN_bd (f := fun i => if bt x i = true then 1 else 0) (b := 1) 12 (fun i _ => by split <;> omega)
  exact this
/-- one set within another -/
def sub (a b : Int32) : Prop := ∀ i, i < 32 → bt a i = true → bt b i = true
theorem sub.rf {a : Int32} : sub a a := fun _ _ h => h
theorem sub.tr {a b c : Int32} (h1 : sub a b) (h2 : sub b c) : sub a c := fun i hi q => h2 i hi (h1 i hi q)
theorem sub.an {a b : Int32} (h1 : sub a b) (h2 : sub b a) : a = b := b_ext (fun i hi => by
  by_cases q : bt a i = true
  · rw [q, h1 i hi q]
  · by_cases r : bt b i = true
    · exact absurd (h2 i hi r) q
    · rw [ft q, ft r])
theorem sub_or (a b : Int32) : sub a (a ||| b) := fun i hi q => by rw [b_or, q, Bool.true_or]
theorem bt_hi {n : Nat} (h : n ≤ 4095) {i : Nat} (h1 : 12 ≤ i) : bt (nI n) i = false := by
  unfold bt
  show (BitVec.ofNat 32 n).getLsbD i = false
  rw [BitVec.getLsbD_ofNat, Nat.testBit_lt_two_pow (Nat.lt_of_lt_of_le (show n < 2 ^ 12 by omega) (Nat.pow_le_pow_right (by omega) h1)), Bool.and_false]
theorem pop_le {a b : Int32} (h : sub a b) : popN a ≤ popN b := sumN_le 12 (fun i hi => by
  by_cases q : bt a i = true
  · rw [if_pos q, if_pos (h i (by omega) q)]; exact Nat.le_refl _
  · rw [if_neg q]; exact Nat.zero_le _)
theorem pop_lt {a b : Nat} (ha : a ≤ 4095) (hb : b ≤ 4095) (h : sub (nI a) (nI b)) (hne : nI a ≠ nI b) : popN (nI a) < popN (nI b) := by
  refine sumN_lt 12 (fun i hi => ?_) ?_
  · by_cases q : bt (nI a) i = true
    · rw [if_pos q, if_pos (h i (by omega) q)]; exact Nat.le_refl _
    · rw [if_neg q]; exact Nat.zero_le _
  · apply Classical.byContradiction
    intro hn
    apply hne
    refine b_ext (fun i hi => ?_)
    by_cases i12 : i < 12
    · by_cases q : bt (nI a) i = true
      · rw [q, h i hi q]
      · by_cases r : bt (nI b) i = true
        · exact absurd ⟨i, i12, by rw [if_neg q, if_pos r]; omega⟩ hn
        · rw [ft q, ft r]
    · rw [bt_hi ha (by omega), bt_hi hb (by omega)]
/-- all that is learnt, as a number -/
def lrN (c : RW) : Nat := sumN (fun j => popN (c (ci j 2))) (ncS c)
theorem itr_sum {f : Nat → Int32} {g : Nat → Nat} : ∀ (k : Nat), (∀ j, j < k → f j = nI (g j)) → itr (fun j x => x + f j) 0 k 0 = nI (sumN g k)
  | 0, _ => rfl
  | k + 1, h => by
    rw [itr_snoc, Nat.zero_add, itr_sum k (fun j hj => h j (by omega)), h k (by omega), nI_add]
    rfl
theorem lrn_eq {c : RW} (hI : InvB c) : lrnS c = nI (lrN c) ∧ lrN c ≤ 72 := by
  have h6 := (nc_eq hI).2
  refine ⟨?_, ?_⟩
  · unfold lrnS lrN
    refine itr_sum _ (fun j hj => ?_)
    obtain ⟨L, hL, eL⟩ := hI.2.2.2.2.2 j (by omega) 2 (by decide)
    rw [eL, pop_eq hL]
  · have := sumN_bd (f := fun j => popN (c (ci j 2))) (b := 12) (ncS c) (fun j _ => popN_bd _)
    unfold lrN
    omega
/-- children at c' have learnt what they had at c, and more -/
def grw (c c' : RW) : Prop := ∀ j, j < ncS c → sub (c (ci j 2)) (c' (ci j 2))
def sml (c c' : RW) : Prop := ∀ j, j < ncS c → c' (ci j 2) = c (ci j 2)
theorem lrn_lt {c c' : RW} (hI : InvB c) (hI' : InvB c') (hn : ncS c' = ncS c) (hg : grw c c') : lrnS c < lrnS c' ↔ ¬ sml c c' := by
  obtain ⟨e1, b1⟩ := lrn_eq hI
  obtain ⟨e2, b2⟩ := lrn_eq hI'
  have h6 := (nc_eq hI).2
  rw [e1, e2, nI_ltI (by omega) (by omega)]
  constructor
  · intro h hs
    have : lrN c' = lrN c := by
      unfold lrN
      rw [hn]
      exact sumN_cg _ (fun j hj => by rw [hs j hj])
    omega
  · intro h
    have hx : ∃ j, j < ncS c ∧ c' (ci j 2) ≠ c (ci j 2) := by
      apply Classical.byContradiction
      intro q
      exact h (fun j hj => Classical.byContradiction (fun z => q ⟨j, hj, z⟩))
    obtain ⟨j, hj, ne⟩ := hx
    unfold lrN
    rw [hn]
    refine sumN_lt _ (fun i hi => pop_le (hg i hi)) ⟨j, hj, ?_⟩
    obtain ⟨a, ha, ea⟩ := hI.2.2.2.2.2 j (by omega) 2 (by decide)
    obtain ⟨b, hb, eb⟩ := hI'.2.2.2.2.2 j (by omega) 2 (by decide)
    have hs := hg j hj
    rw [ea, eb] at hs ne ⊢
    exact pop_lt ha hb hs (fun z => ne z.symm)
/-! a keeper teaches a child -/
def lcd (L q n t : Int32) : Prop := (L &&& (1 <<< (n &&& 31))) = 0 ∧ ¬ q < t ∧ (n = 0 ∨ ¬ (L &&& (1 <<< ((n - 1) &&& 31))) = 0)
def lrM (m c : RW) (f : Int32) (i j : Nat) : Prop := ¬ f = 0 ∧ c (ki i 5) = 0 ∧ ¬ rcS (c (ki i 0)) (c (ki i 3)) (c (ki i 4)) f < apS (m (ci j 0)) (c (ki i 1)) ∧ lcd (m (ci j 2)) (m (ci j 1)) (noteS c i) (tmS (c (ki i 0)))
theorem one_c01 (f : Int32) (i : Nat) (hi : i < 8) (c : RW) (j : Nat) {g : Nat} (hg : g < 2) : oneS f i c (ci j g) = c (ci j g) := by
  unfold oneS
  split
  · unfold restS; rw [upd_ne _ _ (by simp only [ki, ci]; omega)]
  · split
    · unfold blowS
      rw [kupS_c _ _ _ _ hi]
      exact Fx_c (itr_keep (P := Fx c) _ _ _ (fun k c' _ _ q => hrS_Fx q i k f) Fx.rf) hg
    · rfl
theorem one_c2 (f : Int32) (i : Nat) (hi : i < 8) (c : RW) (j : Nat) (hj : j < ncS c) : (lrM c c f i j → oneS f i c (ci j 2) = c (ci j 2) ||| (1 <<< (noteS c i &&& 31))) ∧ (¬ lrM c c f i j → oneS f i c (ci j 2) = c (ci j 2)) := by
  unfold oneS lrM
  by_cases h0 : f = 0
  · rw [if_pos h0]
    refine ⟨fun q => absurd h0 q.1, fun _ => ?_⟩
    unfold restS; rw [upd_ne _ _ (by simp only [ki, ci]; omega)]
  rw [if_neg h0]
  by_cases h5 : c (ki i 5) = 0
  · rw [if_pos h5]
    unfold blowS
    rw [kupS_c _ _ _ _ hi, itr_child _ _ 2 (by decide), if_pos hj]
    unfold hrS
    by_cases hw : wiS c i j f = true
    · rw [if_pos hw]
      have hw' : ¬ rcS (c (ki i 0)) (c (ki i 3)) (c (ki i 4)) f < apS (c (ci j 0)) (c (ki i 1)) := of_decide_eq_true hw
      have ne32 : ci j 2 ≠ ci j 3 := by simp only [ci]; omega
      unfold writeS
      by_cases b1 : (c (ci j 2) &&& (1 <<< (noteS c i &&& 31))) = 0
      · rw [if_pos b1]
        by_cases b2 : c (ci j 1) < tmS (c (ki i 0))
        · rw [if_pos b2, upd_ne _ _ ne32]
          exact ⟨fun q => absurd b2 q.2.2.2.2.1, fun _ => rfl⟩
        · rw [if_neg b2]
          by_cases b3 : noteS c i = 0 ∨ ¬ (c (ci j 2) &&& (1 <<< ((noteS c i - 1) &&& 31))) = 0
          · rw [if_pos b3, upd_ne _ _ ne32, upd_self]
            exact ⟨fun _ => rfl, fun q => absurd ⟨h0, h5, hw', b1, b2, b3⟩ q⟩
          · rw [if_neg b3, upd_ne _ _ ne32]
            exact ⟨fun q => absurd q.2.2.2.2.2 b3, fun _ => rfl⟩
      · rw [if_neg b1]
        exact ⟨fun q => absurd q.2.2.2.1 b1, fun _ => rfl⟩
    · rw [if_neg hw]
      exact ⟨fun q => absurd (decide_eq_true q.2.2.1) hw, fun _ => rfl⟩
  · rw [if_neg h5]
    exact ⟨fun q => absurd q.2.1 h5, fun _ => rfl⟩
theorem bit_new {L n : Int32} (h : (L &&& (1 <<< (n &&& 31))) = 0) : L ||| (1 <<< (n &&& 31)) ≠ L := by
  obtain ⟨k, hk, e⟩ := sh_k n
  rw [e] at h ⊢
  have h1 := (bit_and L k hk).mp h
  intro q
  have : bt (L ||| (1 <<< (nI k &&& 31))) k = true := by rw [b_or, bit_one k hk k hk, decide_eq_true rfl, Bool.or_true]
  rw [q, h1] at this
  cases this
theorem one_grw (f : Int32) {i : Nat} (hi : i < 8) (c : RW) {j : Nat} (hj : j < ncS c) : sub (c (ci j 2)) (oneS f i c (ci j 2)) := by
  by_cases q : lrM c c f i j
  · rw [(one_c2 f i hi c j hj).1 q]; exact sub_or _ _
  · rw [(one_c2 f i hi c j hj).2 q]; exact sub.rf
/-- what a day's keepers leave: the row before keeper n -/
theorem itr_nc (f : Int32) (n : Nat) (c : RW) : ncS (itr (oneS f) 0 n c) = ncS c := by
  show (itr (oneS f) 0 n c 3).toNatClampNeg = _
  rw [itr_lt (fun j c' => oneS_20 (by decide) j c' f)]
theorem itr_grw (f : Int32) (c : RW) {j : Nat} (hj : j < ncS c) : ∀ (n k : Nat), n + k ≤ 8 → sub (itr (oneS f) 0 n c (ci j 2)) (itr (oneS f) 0 (n + k) c (ci j 2))
  | n, 0, _ => sub.rf
  | n, k + 1, h => by
    rw [show n + (k + 1) = (n + k) + 1 by omega, itr_snoc, Nat.zero_add]
    exact (itr_grw f c hj n k (by omega)).tr (one_grw f (by omega) _ (by rw [itr_nc]; exact hj))
/-- before keeper n, its own numbers stand as in the morning; lrM is then as in the morning -/
theorem lrM_mid (m c : RW) (f : Int32) {n : Nat} (hn : n < 8) (j : Nat) : lrM m (itr (oneS f) 0 n c) f n j ↔ lrM m c f n j := by
  have e : ∀ g, g < 6 → itr (oneS f) 0 n c (ki n g) = c (ki n g) := fun g hg => by rw [itr_keeper f hn n (by omega) c g hg, if_neg (by omega)]
  have e0 : itr (oneS f) 0 n c 0 = c 0 := itr_lt (fun j c' => oneS_20 (by decide) j c' f) _ _ _
  unfold lrM noteS
  rw [e 0 (by decide), e 1 (by decide), e 2 (by decide), e 3 (by decide), e 4 (by decide), e 5 (by decide), e0]
theorem lrM_ch {m m' c : RW} {f : Int32} {i j : Nat} (h : ∀ g, g < 3 → m' (ci j g) = m (ci j g)) : lrM m' c f i j ↔ lrM m c f i j := by
  unfold lrM
  rw [h 0 (by decide), h 1 (by decide), h 2 (by decide)]
theorem itr_c01 (f : Int32) (c : RW) (j : Nat) {g : Nat} (hg : g < 2) : ∀ (n : Nat), n ≤ 8 → itr (oneS f) 0 n c (ci j g) = c (ci j g)
  | 0, _ => rfl
  | n + 1, h => by rw [itr_snoc, Nat.zero_add, one_c01 f n (by omega) _ j hg]; exact itr_c01 f c j hg n (by omega)
theorem day_c (c : RW) (j g : Nat) : dayS c (ci j g) = itr (oneS (fogS c)) 0 (nkS c) c (ci j g) := by
  unfold dayS
  show upd _ 0 _ _ = _
  rw [upd_ne _ _ (by simp only [ci]; omega)]
theorem day_c01 {c : RW} (hI : InvB c) (j : Nat) {g : Nat} (hg : g < 2) : dayS c (ci j g) = c (ci j g) := by
  rw [day_c]
  exact itr_c01 _ c j hg _ (nk_eq hI).2
theorem day_grw {c : RW} (hI : InvB c) : grw c (dayS c) := fun j hj => by
  rw [day_c]
  have := itr_grw (fogS c) c hj 0 (nkS c) (by have := (nk_eq hI).2; omega)
  rw [Nat.zero_add] at this
  exact this
theorem day_no {c : RW} (hI : InvB c) (h : ∀ i, i < nkS c → ∀ j, j < ncS c → ¬ lrM c c (fogS c) i j) : sml c (dayS c) := by
  have h8 := (nk_eq hI).2
  have key : ∀ n, n ≤ nkS c → ∀ j, j < ncS c → itr (oneS (fogS c)) 0 n c (ci j 2) = c (ci j 2) := by
    intro n
    induction n with
    | zero => intro _ j _; rfl
    | succ n ih =>
      intro hn j hj
      have ihn := ih (by omega)
      rw [itr_snoc, Nat.zero_add]
      have h2 := (one_c2 (fogS c) n (by omega) (itr (oneS (fogS c)) 0 n c) j (by rw [itr_nc]; exact hj)).2
      rw [h2, ihn j hj]
      rw [lrM_mid _ _ _ (by omega), lrM_ch (m := c)]
      · exact h n (by omega) j hj
      · intro g hg
        by_cases g2 : g = 2
        · rw [g2]; exact ihn j hj
        · exact itr_c01 _ c j (by omega) n (by omega)
  intro j hj
  rw [day_c]
  exact key _ (Nat.le_refl _) j hj
theorem day_yes {c : RW} (hI : InvB c) {i j : Nat} (hi : i < nkS c) (hj : j < ncS c) (h : lrM c c (fogS c) i j) : ¬ sml c (dayS c) := by
  have h8 := (nk_eq hI).2
  intro hs
  have mid : ∀ n, n ≤ nkS c → ∀ j, j < ncS c → itr (oneS (fogS c)) 0 n c (ci j 2) = c (ci j 2) := fun n hn j hj => by
    have a := itr_grw (fogS c) c hj 0 n (by omega)
    have b := itr_grw (fogS c) c hj n (nkS c - n) (by omega)
    rw [Nat.zero_add] at a
    rw [show n + (nkS c - n) = nkS c by omega, ← day_c, hs j hj] at b
    exact b.an a
  have h2 := (one_c2 (fogS c) i (by omega) (itr (oneS (fogS c)) 0 i c) j (by rw [itr_nc]; exact hj)).1
  have hm : lrM (itr (oneS (fogS c)) 0 i c) (itr (oneS (fogS c)) 0 i c) (fogS c) i j := by
    rw [lrM_mid _ _ _ (by omega), lrM_ch (m := c)]
    · exact h
    · intro g hg
      by_cases g2 : g = 2
      · rw [g2]; exact mid i (by omega) j hj
      · exact itr_c01 _ c j (by omega) i (by omega)
  have h3 := h2 hm
  have h4 := mid (i + 1) (by omega) j hj
  rw [itr_snoc, Nat.zero_add, h3] at h4
  have hl := hm.2.2.2.1
  rw [mid i (by omega) j hj] at h4 hl
  exact bit_new hl h4
/-! days -/
theorem days_nc (d : Nat) (c : RW) : ncS (daysS d c) = ncS c := by simp only [ncS]; rw [daysS_y (by decide) (by decide)]
theorem days_nk (d : Nat) (c : RW) : nkS (daysS d c) = nkS c := by simp only [nkS]; rw [daysS_y (by decide) (by decide)]
theorem days_c01 {c : RW} (hI : InvB c) (j : Nat) {g : Nat} (hg : g < 2) : ∀ (d : Nat), daysS d c (ci j g) = c (ci j g)
  | 0 => rfl
  | d + 1 => by rw [daysS_s, day_c01 (daysS_B d hI) j hg]; exact days_c01 hI j hg d
theorem days_grw {c : RW} (hI : InvB c) {j : Nat} (hj : j < ncS c) : ∀ (d k : Nat), sub (daysS d c (ci j 2)) (daysS (d + k) c (ci j 2))
  | d, 0 => sub.rf
  | d, k + 1 => by
    rw [show d + (k + 1) = (d + k) + 1 by omega, daysS_s]
    exact (days_grw hI hj d k).tr (day_grw (daysS_B (d + k) hI) j (by rw [days_nc]; exact hj))
/-- something is learnt in N days just where a keeper teaches a child as it was -/
theorem days_learn {c : RW} (hI : InvB c) (N : Nat) : lrnS c < lrnS (daysS N c) ↔ ∃ d, d < N ∧ ∃ i, i < nkS c ∧ ∃ j, j < ncS c ∧ lrM c (daysS d c) (fogS (daysS d c)) i j := by
  rw [lrn_lt hI (daysS_B N hI) (days_nc N c) (fun j hj => by have := days_grw hI hj 0 N; rw [Nat.zero_add] at this; exact this)]
  constructor
  · intro hn
    apply Classical.byContradiction
    intro hx
    apply hn
    have key : ∀ d, d ≤ N → sml c (daysS d c) := by
      intro d
      induction d with
      | zero => intro _ j _; rfl
      | succ d ih =>
        intro hd j hj
        have ihd := ih (by omega)
        have h := day_no (daysS_B d hI) (fun i hi j' hj' q => hx ⟨d, by omega, i, by rw [days_nk] at hi; exact hi, j', by rw [days_nc] at hj'; exact hj', (lrM_ch (m := c) (m' := daysS d c) (fun g hg => by
          rw [days_nc] at hj'
          by_cases g2 : g = 2
          · rw [g2]; exact ihd j' hj'
          · exact days_c01 hI j' (by omega) d)).mp q⟩) j (by rw [days_nc]; exact hj)
        rw [daysS_s, h]
        exact ihd j hj
    exact key N (Nat.le_refl _)
  · rintro ⟨d, hd, i, hi, j, hj, q⟩ hs
    have mid : ∀ d, d ≤ N → sml c (daysS d c) := fun d hd j hj => by
      have a := days_grw hI hj 0 d
      have b := days_grw hI hj d (N - d)
      rw [Nat.zero_add] at a
      rw [show d + (N - d) = N by omega, hs j hj] at b
      exact b.an a
    refine day_yes (daysS_B d hI) (i := i) (j := j) (by rw [days_nk]; exact hi) (by rw [days_nc]; exact hj) ((lrM_ch (m := c) (fun g hg => ?_)).mpr q) (fun j' hj' => ?_)
    · by_cases g2 : g = 2
      · rw [g2]; exact mid d (by omega) j hj
      · exact days_c01 hI j (by omega) d
    · rw [days_nc] at hj'
      rw [← daysS_s, mid (d + 1) (by omega) j' hj', mid d (by omega) j' hj']
