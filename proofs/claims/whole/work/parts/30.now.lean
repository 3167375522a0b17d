/-! PURE PART 11: loops in general; hears, as, go, now, count, autumn -/
theorem loopA {α β : Type} {L : Nat → α → Int32 → Option β} {N : Nat} (P : Nat → α → Prop) (g : Nat → α → α) (fin : α → Option β) (h0 : ∀ n x, P N x → L (n + 1) x (nI N) = fin x) (hs : ∀ n j x, j < N → P j x → L (n + 1) x (nI j) = L n (g j x) (nI (j + 1)) ∧ P (j + 1) (g j x)) : ∀ (k n j : Nat) (x : α), j + k = N → k < n → P j x → L n x (nI j) = fin (itr g j k x) ∧ P N (itr g j k x) := by
  intro k
  induction k with
  | zero =>
    intro n j x hjk hn hP
    obtain ⟨n, rfl⟩ : ∃ z, n = z + 1 := ⟨n - 1, by omega⟩
    have e : j = N := by omega
    subst e
    exact ⟨h0 n x hP, hP⟩
  | succ k ih =>
    intro n j x hjk hn hP
    obtain ⟨n, rfl⟩ : ∃ z, n = z + 1 := ⟨n - 1, by omega⟩
    obtain ⟨e, hP'⟩ := hs n j x (by omega) hP
    rw [e, itr_s]
    exact ih n (j + 1) (g j x) (by omega) (by omega) hP'
/-- the same, from 0, without a property -/
theorem loopI {α β : Type} {L : Nat → α → Int32 → Option β} {N : Nat} (hN : N < 900) (g : Nat → α → α) (fin : α → Option β) (h0 : ∀ n x, L (n + 1) x (nI N) = fin x) (hs : ∀ n j x, j < N → L (n + 1) x (nI j) = L n (g j x) (nI (j + 1))) (x : α) : L fu x 0 = fin (itr g 0 N x) :=
  (loopA (L := L) (fun _ _ => True) g fin (fun n x _ => h0 n x) (fun n j x hj _ => ⟨hs n j x hj, trivial⟩) N fu 0 x (by omega) (by unfold fu; omega) trivial).1
theorem itr_cg {α : Type} {f g : Nat → α → α} : ∀ (k i : Nat) (x : α), (∀ j, i ≤ j → j < i + k → ∀ x, f j x = g j x) → itr f i k x = itr g i k x
  | 0, _, _, _ => rfl
  | k + 1, i, x, h => by
    rw [itr_s, itr_s, h i (Nat.le_refl i) (by omega)]
    exact itr_cg k (i + 1) _ (fun j h1 h2 => h j (by omega) (by omega))
theorem nI0 : (0 : Int32) = nI 0 := rfl
/-! numbers of bits -/
def v0 : VV := fun _ _ => 0
def popS (x : Int32) : Int32 := (F_J6_bitCount_0f7a4 x v0).getD 0
theorem C_pop (x : Int32) (v : VV) : F_J6_bitCount_0f7a4 x v = some (popS x) := rfl
theorem bits_v : ∀ (n : Nat) (a x y : Int32) (v : VV), L_X6_bits_4 n a x y v = L_X6_bits_4 n 0 x y v0
  | 0, _, _, _, _ => rfl
  | n + 1, a, x, y, v => by
    rw [L_X6_bits_4, L_X6_bits_4, bits_v n a]
theorem bits_all : ∀ a, a < 64 → ∀ b, b < 64 → L_X6_bits_4 20 0 0 (nI (64 * a + b)) v0 = some (popS (nI (64 * a + b))) := by decide +kernel
theorem bits_more : ∀ (n : Nat) (x y z : Int32), L_X6_bits_4 n 0 x y v0 = some z → ∀ m, L_X6_bits_4 (n + m) 0 x y v0 = some z
  | 0, _, _, _, h, _ => by cases h
  | n + 1, x, y, z, h, m => by
    rw [show n + 1 + m = (n + m) + 1 by omega]
    rw [L_X6_bits_4] at h ⊢
    by_cases q : y = 0
    · rw [if_pos q] at h ⊢; exact h
    · rw [if_neg q] at h ⊢; exact bits_more n _ _ _ h m
theorem M_bits {n : Nat} (h : n ≤ 4095) (v : VV) : F_X6_bits (nI n) v = some (popS (nI n)) := by
  unfold F_X6_bits
  rw [bits_v]
  have e := bits_all (n / 64) (by omega) (n % 64) (by omega)
  rw [show 64 * (n / 64) + n % 64 = n by omega] at e
  exact bits_more 20 _ _ _ e 980
/-! sums over children and keepers -/
def lrnS (c : RW) : Int32 := itr (fun j x => x + popS (c (ci j 2))) 0 (ncS c) 0
def anyS (c : RW) (w : Nat) : Int32 := itr (fun j x => x ||| c (ci j w)) 0 (ncS c) 0
def givS (c : RW) : Int32 := itr (fun i x => if c (ki i 5) = 0 then x ||| (1 <<< (noteS c i &&& 31)) else x) 0 (nkS c) 0
def tirS (c : RW) : Int32 := itr (fun i x => x + c (ki i 4)) 0 (nkS c) 0
def wseS (c : RW) : Int32 := itr (fun j x => if c (ci j 2) = 4095 then x ||| (1 <<< (nI j &&& 31)) else x) 0 (ncS c) 0
def sptS (c : RW) : Int32 := itr (fun j x => if c (10 + j) = -1 then x else x + 1) 0 10 0
def herS (c : RW) (j : Nat) (f : Int32) : Int32 := itr (fun i x => if (c (ki i 5) = 0 ∧ wiS c i j f = true) then x ||| (1 <<< (nI i &&& 31)) else x) 0 (nkS c) 0
theorem sim_lrn {c m : RW} (h : sim c m) : lrnS c = lrnS m := by
  unfold lrnS
  rw [sim_nc h]
  exact itr_cg _ _ _ (fun j _ hj x => by rw [h.2.2 j (by omega) 2 (by decide)])
theorem sim_any {c m : RW} (h : sim c m) {w : Nat} (hw : w < 4) : anyS c w = anyS m w := by
  unfold anyS
  rw [sim_nc h]
  exact itr_cg _ _ _ (fun j _ hj x => by rw [h.2.2 j (by omega) w hw])
theorem sim_giv {c m : RW} (h : sim c m) : givS c = givS m := by
  unfold givS
  rw [sim_nk h]
  exact itr_cg _ _ _ (fun j _ hj x => by rw [h.2.1 j (by omega) 5 (by decide), sim_note h (by omega)])
theorem sim_tir {c m : RW} (h : sim c m) : tirS c = tirS m := by
  unfold tirS
  rw [sim_nk h]
  exact itr_cg _ _ _ (fun j _ hj x => by rw [h.2.1 j (by omega) 4 (by decide)])
theorem sim_wse {c m : RW} (h : sim c m) : wseS c = wseS m := by
  unfold wseS
  rw [sim_nc h]
  exact itr_cg _ _ _ (fun j _ hj x => by rw [h.2.2 j (by omega) 2 (by decide)])
theorem sim_spt {c m : RW} (h : sim c m) : sptS c = sptS m := by
  unfold sptS
  exact itr_cg _ _ _ (fun j _ hj x => by rw [h.1 (10 + j) (by omega)])
theorem sim_her {c m : RW} (h : sim c m) {j : Nat} (hj : j < ncS m) (f : Int32) : herS c j f = herS m j f := by
  unfold herS
  rw [sim_nk h]
  exact itr_cg _ _ _ (fun i _ hi x => by rw [h.2.1 i (by omega) 5 (by decide), sim_wi h (by omega) hj])
/-! the class's sums -/
theorem C_lrn {p : Nat} {v : VV} (hI : InvB (rowOf p v)) : F_X1_learntTogether p v = some (lrnS (rowOf p v)) := by
  obtain ⟨e, h6⟩ := nc_eq hI
  unfold F_X1_learntTogether
  refine loopI (L := fun n x i => L_X1_learntTogether_4 n p x i v) (N := ncS (rowOf p v)) (by omega) _ (fun x => some x) (fun n x => ?_) (fun n j x hj => ?_) 0
  · show L_X1_learntTogether_4 (n + 1) p x (nI _) v = _
    rw [L_X1_learntTogether_4, rd_3 p v, if_pos (by rw [e]; exact nI_le (Nat.le_refl _) (by omega))]
  · show L_X1_learntTogether_4 (n + 1) p x (nI j) v = L_X1_learntTogether_4 n p _ (nI (j + 1)) v
    rw [L_X1_learntTogether_4, rd_3 p v, if_neg (by rw [e]; exact nI_ge hj (by omega)), gu_nI (by omega) (by decide), cl_nI (by omega), rd_c p v (by omega) (by decide), C_pop, bd_s, nI_1]
theorem C_any {p : Nat} {v : VV} (hI : InvB (rowOf p v)) {w : Nat} (hw : w < 4) : F_X1_notesOfAll p (nI w) v = some (anyS (rowOf p v) w) := by
  obtain ⟨e, h6⟩ := nc_eq hI
  unfold F_X1_notesOfAll
  refine loopI (L := fun n x i => L_X1_notesOfAll_4 n p (nI w) x i v) (N := ncS (rowOf p v)) (by omega) _ (fun x => some x) (fun n x => ?_) (fun n j x hj => ?_) 0
  · show L_X1_notesOfAll_4 (n + 1) p (nI w) x (nI _) v = _
    rw [L_X1_notesOfAll_4, rd_3 p v, if_pos (by rw [e]; exact nI_le (Nat.le_refl _) (by omega))]
  · show L_X1_notesOfAll_4 (n + 1) p (nI w) x (nI j) v = L_X1_notesOfAll_4 n p (nI w) _ (nI (j + 1)) v
    rw [L_X1_notesOfAll_4, rd_3 p v, if_neg (by rw [e]; exact nI_ge hj (by omega)), gu_nI (by omega) (by decide), gu_nI hw (by decide), cl_nI (by omega), cl_nI (by omega), rd_c p v (by omega) hw, nI_1]
theorem C_giv {p : Nat} {v : VV} (hI : InvB (rowOf p v)) : F_X1_notesGiven p v = some (givS (rowOf p v)) := by
  obtain ⟨e, h8⟩ := nk_eq hI
  unfold F_X1_notesGiven
  refine loopI (L := fun n x i => L_X1_notesGiven_4 n p x i v) (N := nkS (rowOf p v)) (by omega) _ (fun x => some x) (fun n x => ?_) (fun n j x hj => ?_) 0
  · show L_X1_notesGiven_4 (n + 1) p x (nI _) v = _
    rw [L_X1_notesGiven_4, rd_1 p v, if_pos (by rw [e]; exact nI_le (Nat.le_refl _) (by omega))]
  · show L_X1_notesGiven_4 (n + 1) p x (nI j) v = L_X1_notesGiven_4 n p _ (nI (j + 1)) v
    rw [L_X1_notesGiven_4, rd_1 p v, if_neg (by rw [e]; exact nI_ge hj (by omega)), gu_nI (by omega) (by decide), gu_nI (by omega) (by decide), cl_nI (by omega), C_silent hI (by omega), bd_s, nI_1]
    by_cases q : rowOf p v (ki j 5) = 0
    · rw [if_neg (by rw [decide_eq_false (fun z => z q)]; decide), C_gives p v (by omega), bd_s, if_pos q]
      rfl
    · rw [if_pos (decide_eq_true q), if_neg q]
theorem C_tir {p : Nat} {v : VV} (hI : InvB (rowOf p v)) : F_X1_tiredTogether p v = some (tirS (rowOf p v)) := by
  obtain ⟨e, h8⟩ := nk_eq hI
  unfold F_X1_tiredTogether
  refine loopI (L := fun n x i => L_X1_tiredTogether_4 n p x i v) (N := nkS (rowOf p v)) (by omega) _ (fun x => some x) (fun n x => ?_) (fun n j x hj => ?_) 0
  · show L_X1_tiredTogether_4 (n + 1) p x (nI _) v = _
    rw [L_X1_tiredTogether_4, rd_1 p v, if_pos (by rw [e]; exact nI_le (Nat.le_refl _) (by omega))]
  · show L_X1_tiredTogether_4 (n + 1) p x (nI j) v = L_X1_tiredTogether_4 n p _ (nI (j + 1)) v
    rw [L_X1_tiredTogether_4, rd_1 p v, if_neg (by rw [e]; exact nI_ge hj (by omega)), gu_nI (by omega) (by decide), cl_nI (by omega), rd_k p v (by omega) (by decide), nI_1]
theorem C_wse {p : Nat} {v : VV} (hI : InvB (rowOf p v)) : F_X1_childrenWhoLearntAll p v = some (wseS (rowOf p v)) := by
  obtain ⟨e, h6⟩ := nc_eq hI
  unfold F_X1_childrenWhoLearntAll
  refine loopI (L := fun n x i => L_X1_childrenWhoLearntAll_4 n p x i v) (N := ncS (rowOf p v)) (by omega) _ (fun x => some x) (fun n x => ?_) (fun n j x hj => ?_) 0
  · show L_X1_childrenWhoLearntAll_4 (n + 1) p x (nI _) v = _
    rw [L_X1_childrenWhoLearntAll_4, rd_3 p v, if_pos (by rw [e]; exact nI_le (Nat.le_refl _) (by omega))]
  · show L_X1_childrenWhoLearntAll_4 (n + 1) p x (nI j) v = L_X1_childrenWhoLearntAll_4 n p _ (nI (j + 1)) v
    rw [L_X1_childrenWhoLearntAll_4, rd_3 p v, if_neg (by rw [e]; exact nI_ge hj (by omega)), gu_nI (by omega) (by decide), cl_nI (by omega), rd_c p v (by omega) (by decide), nI_1]
    by_cases q : rowOf p v (ci j 2) = 4095
    · rw [if_pos q, if_pos q]
    · rw [if_neg q, if_neg q]
theorem C_spt (p : Nat) (v : VV) : F_X1_spotsThatHold p v = some (sptS (rowOf p v)) := by
  unfold F_X1_spotsThatHold
  refine loopI (L := fun n x i => L_X1_spotsThatHold_4 n p x i v) (N := 10) (by omega) _ (fun x => some x) (fun n x => ?_) (fun n j x hj => ?_) 0
  · show L_X1_spotsThatHold_4 (n + 1) p x (nI _) v = _
    rw [L_X1_spotsThatHold_4, if_pos (by decide)]
  · show L_X1_spotsThatHold_4 (n + 1) p x (nI j) v = L_X1_spotsThatHold_4 n p _ (nI (j + 1)) v
    rw [L_X1_spotsThatHold_4, if_neg (by rw [show (10 : Int32) = nI 10 from rfl]; exact nI_ge hj (by omega)), gu_nI (by omega) (by decide), cl_nI (by omega), rd_s p v hj, nI_1]
    by_cases q : rowOf p v (10 + j) = -1
    · rw [if_pos q, if_pos q]
    · rw [if_neg q, if_neg q]
theorem C_wi {p : Nat} {v : VV} (hI : InvB (rowOf p v)) {i j : Nat} (hi : i < 8) (hj : j < 6) (f : Int32) : F_X1_isWithin ((p + 3) + 2 + i) ((p + 4) + 17 + j) (rcS (rowOf p v (ki i 0)) (rowOf p v (ki i 3)) (rowOf p v (ki i 4)) f) v = some (wiS (rowOf p v) i j f) := C_isWithin hI hi hj _
theorem C_her {v : VV} (hI : InvB (rowOf 25 v)) {j : Nat} (hj : j < 6) (f : Int32) : L_X5_hears_30 fu (nI j) f 0 0 v = some (herS (rowOf 25 v) j f, v) := by
  obtain ⟨e, h8⟩ := nk_eq hI
  refine loopI (L := fun n x i => L_X5_hears_30 n (nI j) f x i v) (N := nkS (rowOf 25 v)) (by omega) _ (fun x => some (x, v)) (fun n x => ?_) (fun n i x hi => ?_) 0
  · show L_X5_hears_30 (n + 1) (nI j) f x (nI _) v = _
    rw [L_X5_hears_30, rd_1 25 v, if_pos (by rw [e]; exact nI_le (Nat.le_refl _) (by omega))]
  · show L_X5_hears_30 (n + 1) (nI j) f x (nI i) v = L_X5_hears_30 n (nI j) f _ (nI (i + 1)) v
    have hi8 : i < 8 := by omega
    rw [L_X5_hears_30, rd_1 25 v, if_neg (by rw [e]; exact nI_ge hi (by omega)), nI_1]
    unfold F_X1_isHeard
    rw [gu_nI hi8 (by decide), gu_nI hi8 (by decide), gu_nI hj (by decide), gu_nI hi8 (by decide), cl_nI (by omega), cl_nI (by omega), C_silent hI hi8, bd_s]
    by_cases q : rowOf 25 v (ki i 5) = 0
    · rw [if_neg (by rw [decide_eq_false (fun z => z q)]; decide), C_reaches 25 v hi8, bd_s, C_wi hI hi8 hj, bd_s]
      by_cases w : wiS (rowOf 25 v) i j f = true
      · rw [if_pos w, bd_s, if_pos rfl, if_pos ⟨q, w⟩]
      · rw [if_neg w, bd_s, if_neg (by decide), if_neg (fun z => w z.2)]
    · rw [if_pos (decide_eq_true q), bd_s, if_neg (by decide), if_neg (fun z => q z.1)]
/-! the reference's sums -/
theorem M_lrn {v : VV} (hI : InvB (v 1)) : F_X6_learntInAll v = some (lrnS (v 1)) := by
  obtain ⟨e, h6⟩ := nc_eq hI
  unfold F_X6_learntInAll
  refine loopI (L := fun n x i => L_X6_learntInAll_4 n x i v) (N := ncS (v 1)) (by omega) _ (fun x => some x) (fun n x => ?_) (fun n j x hj => ?_) 0
  · show L_X6_learntInAll_4 (n + 1) x (nI _) v = _
    rw [L_X6_learntInAll_4, if_pos (by rw [e]; exact nI_le (Nat.le_refl _) (by omega))]
  · show L_X6_learntInAll_4 (n + 1) x (nI j) v = L_X6_learntInAll_4 n _ (nI (j + 1)) v
    obtain ⟨L, hL, eL⟩ := hI.2.2.2.2.2 j (by omega) 2 (by decide)
    rw [L_X6_learntInAll_4, if_neg (by rw [e]; exact nI_ge hj (by omega)), cIs2 (by omega), bd_s, eL, M_bits hL, bd_s, nI_1]
theorem M_any {v : VV} (hI : InvB (v 1)) {w : Nat} (hw : w < 4) : F_X6_anyOf (nI w) v = some (anyS (v 1) w) := by
  obtain ⟨e, h6⟩ := nc_eq hI
  unfold F_X6_anyOf
  refine loopI (L := fun n x i => L_X6_anyOf_4 n (nI w) x i v) (N := ncS (v 1)) (by omega) _ (fun x => some x) (fun n x => ?_) (fun n j x hj => ?_) 0
  · show L_X6_anyOf_4 (n + 1) (nI w) x (nI _) v = _
    rw [L_X6_anyOf_4, if_pos (by rw [e]; exact nI_le (Nat.le_refl _) (by omega))]
  · show L_X6_anyOf_4 (n + 1) (nI w) x (nI j) v = L_X6_anyOf_4 n (nI w) _ (nI (j + 1)) v
    rw [L_X6_anyOf_4, if_neg (by rw [e]; exact nI_ge hj (by omega)), cIs (by omega) hw, bd_s, nI_1]
theorem M_giv {v : VV} (hI : InvB (v 1)) : F_X6_given v = some (givS (v 1)) := by
  obtain ⟨e, h8⟩ := nk_eq hI
  unfold F_X6_given
  refine loopI (L := fun n x i => L_X6_given_4 n x i v) (N := nkS (v 1)) (by omega) _ (fun x => some x) (fun n x => ?_) (fun n j x hj => ?_) 0
  · show L_X6_given_4 (n + 1) x (nI _) v = _
    rw [L_X6_given_4, if_pos (by rw [e]; exact nI_le (Nat.le_refl _) (by omega))]
  · show L_X6_given_4 (n + 1) x (nI j) v = L_X6_given_4 n _ (nI (j + 1)) v
    rw [L_X6_given_4, if_neg (by rw [e]; exact nI_ge hj (by omega)), kIs5 (by omega), bd_s, nI_1]
    by_cases q : v 1 (ki j 5) = 0
    · rw [if_pos q, M_gives (by omega), bd_s, if_pos q]
      rfl
    · rw [if_neg q, if_neg q, Int32.or_zero]
theorem M_tir {v : VV} (hI : InvB (v 1)) : F_X6_tiredInAll v = some (tirS (v 1)) := by
  obtain ⟨e, h8⟩ := nk_eq hI
  unfold F_X6_tiredInAll
  refine loopI (L := fun n x i => L_X6_tiredInAll_4 n x i v) (N := nkS (v 1)) (by omega) _ (fun x => some x) (fun n x => ?_) (fun n j x hj => ?_) 0
  · show L_X6_tiredInAll_4 (n + 1) x (nI _) v = _
    rw [L_X6_tiredInAll_4, if_pos (by rw [e]; exact nI_le (Nat.le_refl _) (by omega))]
  · show L_X6_tiredInAll_4 (n + 1) x (nI j) v = L_X6_tiredInAll_4 n _ (nI (j + 1)) v
    rw [L_X6_tiredInAll_4, if_neg (by rw [e]; exact nI_ge hj (by omega)), kIs4 (by omega), bd_s, nI_1]
theorem M_wse {v : VV} (hI : InvB (v 1)) : F_X6_wiseOnes v = some (wseS (v 1)) := by
  obtain ⟨e, h6⟩ := nc_eq hI
  unfold F_X6_wiseOnes
  refine loopI (L := fun n x i => L_X6_wiseOnes_4 n x i v) (N := ncS (v 1)) (by omega) _ (fun x => some x) (fun n x => ?_) (fun n j x hj => ?_) 0
  · show L_X6_wiseOnes_4 (n + 1) x (nI _) v = _
    rw [L_X6_wiseOnes_4, if_pos (by rw [e]; exact nI_le (Nat.le_refl _) (by omega))]
  · show L_X6_wiseOnes_4 (n + 1) x (nI j) v = L_X6_wiseOnes_4 n _ (nI (j + 1)) v
    rw [L_X6_wiseOnes_4, if_neg (by rw [e]; exact nI_ge hj (by omega)), cIs2 (by omega), bd_s, nI_1]
    by_cases q : v 1 (ci j 2) = 4095
    · rw [if_pos q, if_pos q]
    · rw [if_neg q, if_neg q, Int32.or_zero]
theorem M_spt {v : VV} (hI : InvB (v 1)) (hp : SpOK (v 1)) (a : Int32) : L_X6_count_93 fu a 0 0 v = some (sptS (v 1), v) := by
  have h8 := (nk_eq hI).2
  refine loopI (L := fun n x i => L_X6_count_93 n a x i v) (N := 10) (by omega) _ (fun x => some (x, v)) (fun n x => ?_) (fun n j x hj => ?_) 0
  · show L_X6_count_93 (n + 1) a x (nI _) v = _
    rw [L_X6_count_93, if_pos (by decide)]
  · show L_X6_count_93 (n + 1) a x (nI j) v = L_X6_count_93 n a _ (nI (j + 1)) v
    rw [L_X6_count_93, if_neg (by rw [show (10 : Int32) = nI 10 from rfl]; exact nI_ge hj (by omega)), show (10 : Int32) + nI j = nI (10 + j) by rw [show (10 : Int32) = nI 10 from rfl, nI_add], gu_nI (by omega) (by decide), cl_nI (by omega), nI_1]
    rcases hp j hj with q | ⟨m, hm, q⟩
    · rw [q, if_neg (by decide), if_pos rfl, Int32.add_zero]
    · rw [q, if_pos (nI_pos' (by omega)), if_neg]
      intro z
      have := nI_pos' (n := m) (by omega)
      rw [z] at this
      exact absurd this (by decide)
theorem M_her {v : VV} (hI : InvB (v 1)) {j : Nat} (hj : j < 6) (f : Int32) : L_X6_hears_30 fu (nI j) f 0 0 v = some (herS (v 1) j f, v) := by
  obtain ⟨e, h8⟩ := nk_eq hI
  refine loopI (L := fun n x i => L_X6_hears_30 n (nI j) f x i v) (N := nkS (v 1)) (by omega) _ (fun x => some (x, v)) (fun n x => ?_) (fun n i x hi => ?_) 0
  · show L_X6_hears_30 (n + 1) (nI j) f x (nI _) v = _
    rw [L_X6_hears_30, if_pos (by rw [e]; exact nI_le (Nat.le_refl _) (by omega))]
  · show L_X6_hears_30 (n + 1) (nI j) f x (nI i) v = L_X6_hears_30 n (nI j) f _ (nI (i + 1)) v
    rw [L_X6_hears_30, if_neg (by rw [e]; exact nI_ge hi (by omega)), M_doesHear (by omega) hj, bd_s, nI_1]
    by_cases q : v 1 (ki i 5) = 0
    · rw [if_pos q]
      by_cases w : wiS (v 1) i j f = true
      · rw [if_pos w, if_pos ⟨q, w⟩]
      · rw [if_neg w, if_neg (fun z => w z.2), Int32.or_zero]
    · rw [if_neg q, if_neg (by decide), if_neg (fun z => q z.1), Int32.or_zero]
/-! arguments from 1 on -/
def in1 (a : Int32) (N : Nat) : Bool := decide (1 ≤ a.toInt ∧ a.toInt ≤ N)
theorem in1_t {a : Int32} {N : Nat} (h : in1 a N = true) (hN : N < 2 ^ 30) : ∃ k, 1 ≤ k ∧ k ≤ N ∧ a = nI k := by
  have h2 : 1 ≤ a.toInt ∧ a.toInt ≤ N := of_decide_eq_true h
  obtain ⟨k, hk, rfl⟩ := inR_t (a := a) (n := N + 1) (decide_eq_true (by omega)) (by omega)
  have e := nI_toInt (n := k) (by omega)
  exact ⟨k, by omega, by omega, rfl⟩
theorem wit1 {b : Int32} (N : Nat) (hb : b = nI N) (hN : N < 2 ^ 31) (a : Int32) (v : VV) : F_X6_within a 1 b v = some (in1 a N) := by
  have e : b.toInt = (N : Int) := by rw [hb]; exact nI_toInt hN
  have z : (1 : Int32).toInt = 1 := by decide
  unfold F_X6_within in1
  by_cases h1 : a < 1
  · rw [if_pos h1, decide_eq_false]
    have := (lt_iff _ _).mp h1
    omega
  · rw [if_neg h1]
    have h1' : ¬ a.toInt < (1 : Int32).toInt := fun q => h1 ((lt_iff _ _).mpr q)
    by_cases h2 : b < a
    · rw [if_pos h2, decide_eq_false]
      have := (lt_iff _ _).mp h2
      omega
    · rw [if_neg h2, decide_eq_true]
      have h2' : ¬ b.toInt < a.toInt := fun q => h2 ((lt_iff _ _).mpr q)
      omega
theorem cl1 {α : Type} {b : Int32} (N : Nat) (hb : b = nI N) (hN : N < 2 ^ 31) (a : Int32) (X Y : α) : (if a < 1 then X else (if a ≤ b then Y else X)) = if in1 a N = true then Y else X := by
  have e : b.toInt = (N : Int) := by rw [hb]; exact nI_toInt hN
  have z : (1 : Int32).toInt = 1 := by decide
  unfold in1
  by_cases h1 : a < 1
  · rw [if_pos h1, if_neg]
    have := (lt_iff _ _).mp h1
    intro q
    have := of_decide_eq_true q
    omega
  · rw [if_neg h1]
    have h1' : ¬ a.toInt < (1 : Int32).toInt := fun q => h1 ((lt_iff _ _).mpr q)
    by_cases h2 : a ≤ b
    · rw [if_pos h2, if_pos]
      have := (le_iff _ _).mp h2
      exact decide_eq_true (by omega)
    · rw [if_neg h2, if_neg]
      have h2' : ¬ a.toInt ≤ b.toInt := fun q => h2 ((le_iff _ _).mpr q)
      intro q
      have := of_decide_eq_true q
      omega
theorem st_hears {v : VV} (h : Rel v) (a b : Int32) : StP (F_X5_hears a b) (F_X6_hears a b) v := by
  obtain ⟨hC, hM, hs, hp⟩ := h.1
  have e := sim_nc hs
  have h6 := (nc_eq hM).2
  by_cases ha : inR a (ncS (v 1)) = true
  · obtain ⟨j, hj, rfl⟩ := inR_t ha (by omega)
    by_cases hb : in1 b 9 = true
    · refine ⟨herS (v 1) j b, v, v, ?_, ?_, h⟩
      · unfold F_X5_hears
        rw [C_isChild hC, bd_s, e, if_pos ha, cl1 (b := 9) 9 rfl (by decide), if_pos hb, C_her hC (by omega), sim_her hs hj]
      · unfold F_X6_hears
        rw [M_isChild hM, bd_s, if_pos ha, wit1 (b := 9) 9 rfl (by decide), bd_s, if_pos hb, M_her hM (by omega)]
    · refine st_f0 h ?_ (fun v1 e1 => ?_)
      · unfold F_X5_hears
        rw [C_isChild hC, bd_s, e, if_pos ha, cl1 (b := 9) 9 rfl (by decide), if_neg hb]
      · unfold F_X6_hears
        rw [M_isChild (by rw [e1 1 (by decide)]; exact hM), bd_s, e1 1 (by decide), if_pos ha, wit1 (b := 9) 9 rfl (by decide), bd_s, if_neg hb]
  · refine st_f0 h ?_ (fun v1 e1 => ?_)
    · unfold F_X5_hears
      rw [C_isChild hC, bd_s, e, if_neg ha]
    · unfold F_X6_hears
      rw [M_isChild (by rw [e1 1 (by decide)]; exact hM), bd_s, e1 1 (by decide), if_neg ha]
/-! kinds under kinds -/
theorem isOf_v : ∀ (n q : Nat) (a x y : Int32) (v : VV), L_X2_isOf_9 n q a x y v = L_X2_isOf_9 n 0 a x y v0
  | 0, _, _, _, _, _ => rfl
  | n + 1, q, a, x, y, v => by
    rw [L_X2_isOf_9, L_X2_isOf_9, isOf_v n q]
theorem isUn_v : ∀ (n : Nat) (q a x : Int32) (v : VV), L_X6_isUnder_2 n q a x v = L_X6_isUnder_2 n 0 a x v0
  | 0, _, _, _, _ => rfl
  | n + 1, q, a, x, v => by
    rw [L_X6_isUnder_2, L_X6_isUnder_2]
    have e : ∀ r, L_X6_isUnder_2 n q a r v = L_X6_isUnder_2 n 0 a r v0 := fun r => isUn_v n q a r v
    simp only [e]
    rfl
def undS (k a : Int32) : Bool := (L_X6_isUnder_2 fu 0 a k v0).getD false
theorem und_all : ∀ k, k < 7 → ∀ a, a < 7 → L_X6_isUnder_2 fu 0 (nI a) (nI k) v0 = some (undS (nI k) (nI a)) ∧ L_X2_isOf_9 fu 0 (nI a) (nI k) 0 v0 = some (undS (nI k) (nI a)) := by decide +kernel
theorem C_isOf {p : Nat} {v : VV} (hI : InvB (rowOf p v)) {i a : Nat} (hi : i < 8) (ha : a < 7) : F_X2_isOf ((p + 3) + 2 + i) (nI a) v = some (undS (rowOf p v (ki i 0)) (nI a)) := by
  obtain ⟨k, hk, ek⟩ := hI.2.2.2.2.1 i hi 0 (by decide)
  have hk : k ≤ 6 := hk
  unfold F_X2_isOf
  rw [rd_k p v hi (by decide), ek, isOf_v]
  exact (und_all k (by omega) a ha).2
theorem M_isUnder {k a : Nat} (hk : k < 7) (ha : a < 7) (v : VV) : F_X6_isUnder (nI k) (nI a) v = some (undS (nI k) (nI a)) := by
  unfold F_X6_isUnder
  rw [isUn_v]
  exact (und_all k hk a ha).1
theorem inR_m1 : ∀ n, n ≤ 8 → inR (-1) n = false := by decide +kernel
theorem st_as {v : VV} (h : Rel v) (a b : Int32) : StP (F_X5_as a b) (F_X6_as a b) v := by
  obtain ⟨hC, hM, hs, hp⟩ := h.1
  have e := sim_nk hs
  have h8 := (nk_eq hM).2
  by_cases ha : inR a 10 = true
  · by_cases hb : inR b 7 = true
    · obtain ⟨i, hi, rfl⟩ := inR_t ha (by decide)
      obtain ⟨k, hk, rfl⟩ := inR_t hb (by decide)
      have ten : (10 : Int32) + nI i = nI (10 + i) := by rw [show (10 : Int32) = nI 10 from rfl, nI_add]
      rcases hp i hi with q | ⟨n, hn, q⟩
      · refine st_f5 h ?_ (fun v1 e1 => ?_)
        · unfold F_X5_as
          rw [upTo (b := 9) 9 rfl (by decide), bd_s, if_pos ha, upTo (b := 6) 6 rfl (by decide), bd_s, if_pos hb, gu_nI hi (by decide), cl_nI (by omega), rd_s 25 v hi, hs.1 _ (by omega), q, C_isKeeper hC, e, inR_m1 _ h8, bd_s, if_neg (by decide)]
        · unfold F_X6_as
          rw [M_isSpot, bd_s, if_pos ha, M_isKind, bd_s, if_pos hb, ten, gu_nI (by omega) (by decide), cl_nI (by omega), e1 1 (by decide), q, if_neg (by decide)]
      · have hn8 : n < 8 := by omega
        obtain ⟨g, hg, eg⟩ := hM.2.2.2.2.1 n hn8 0 (by decide)
        have hg : g ≤ 6 := hg
        by_cases u : undS (nI g) (nI k) = true
        · refine ⟨nI n, v, v, ?_, ?_, h⟩
          · unfold F_X5_as
            rw [upTo (b := 9) 9 rfl (by decide), bd_s, if_pos ha, upTo (b := 6) 6 rfl (by decide), bd_s, if_pos hb, gu_nI hi (by decide), cl_nI (by omega), rd_s 25 v hi, hs.1 _ (by omega), q, C_isKeeper hC, e, inR_nI hn (by omega), bd_s, if_pos rfl, gu_nI hn8 (by decide), cl_nI (by omega), C_isOf hC hn8 hk, bd_s, hs.2.1 n hn 0 (by decide), eg, if_pos u]
          · unfold F_X6_as
            rw [M_isSpot, bd_s, if_pos ha, M_isKind, bd_s, if_pos hb, ten, gu_nI (by omega) (by decide), cl_nI (by omega), q, if_pos (nI_pos' (by omega)), kIs0 hn8, bd_s, eg, M_isUnder (by omega) hk, bd_s, if_pos u]
        · refine st_f2 h ?_ (fun v1 e1 => ?_)
          · unfold F_X5_as
            rw [upTo (b := 9) 9 rfl (by decide), bd_s, if_pos ha, upTo (b := 6) 6 rfl (by decide), bd_s, if_pos hb, gu_nI hi (by decide), cl_nI (by omega), rd_s 25 v hi, hs.1 _ (by omega), q, C_isKeeper hC, e, inR_nI hn (by omega), bd_s, if_pos rfl, gu_nI hn8 (by decide), cl_nI (by omega), C_isOf hC hn8 hk, bd_s, hs.2.1 n hn 0 (by decide), eg, if_neg u]
          · unfold F_X6_as
            rw [M_isSpot, bd_s, if_pos ha, M_isKind, bd_s, if_pos hb, ten, gu_nI (by omega) (by decide), cl_nI (by omega), e1 1 (by decide), q, if_pos (nI_pos' (by omega)), kIs0 hn8, bd_s, e1 1 (by decide), eg, M_isUnder (by omega) hk, bd_s, if_neg u]
    · refine st_f0 h ?_ (fun v1 e1 => ?_)
      · unfold F_X5_as
        rw [upTo (b := 9) 9 rfl (by decide), bd_s, if_pos ha, upTo (b := 6) 6 rfl (by decide), bd_s, if_neg hb]
      · unfold F_X6_as
        rw [M_isSpot, bd_s, if_pos ha, M_isKind, bd_s, if_neg hb]
  · refine st_f0 h ?_ (fun v1 e1 => ?_)
    · unfold F_X5_as
      rw [upTo (b := 9) 9 rfl (by decide), bd_s, if_neg ha]
    · unfold F_X6_as
      rw [M_isSpot, bd_s, if_neg ha]
/-! now, count -/
theorem C_any2 {v : VV} (hI : InvB (rowOf 25 v)) : F_X1_notesOfAll 25 2 v = some (anyS (rowOf 25 v) 2) := C_any hI (w := 2) (by decide)
theorem C_any3 {v : VV} (hI : InvB (rowOf 25 v)) : F_X1_notesOfAll 25 3 v = some (anyS (rowOf 25 v) 3) := C_any hI (w := 3) (by decide)
theorem M_any2 {v : VV} (hI : InvB (v 1)) : F_X6_anyOf 2 v = some (anyS (v 1) 2) := M_any hI (w := 2) (by decide)
theorem M_any3 {v : VV} (hI : InvB (v 1)) : F_X6_anyOf 3 v = some (anyS (v 1) 3) := M_any hI (w := 3) (by decide)
theorem st_now {v : VV} (h : Rel v) (a : Int32) : StP (F_X5_now a) (F_X6_now a) v := by
  obtain ⟨hC, hM, hs, hp⟩ := h.1
  by_cases h0 : a = 0
  · exact ⟨v 1 0, v, v, by unfold F_X5_now; rw [if_pos h0, rd_0 25 v, hs.1 0 (by decide)], by unfold F_X6_now; rw [if_pos h0], h⟩
  by_cases h1 : a = 1
  · exact ⟨lrnS (v 1), v, v, by unfold F_X5_now; rw [if_neg h0, if_pos h1, C_lrn hC, bd_s, sim_lrn hs], by unfold F_X6_now; rw [if_neg h0, if_pos h1, M_lrn hM, bd_s], h⟩
  by_cases h2 : a = 2
  · exact ⟨anyS (v 1) 2, v, v, by unfold F_X5_now; rw [if_neg h0, if_neg h1, if_pos h2, C_any2 hC, bd_s, sim_any hs (by decide)], by unfold F_X6_now; rw [if_neg h0, if_neg h1, if_pos h2, M_any2 hM, bd_s], h⟩
  by_cases h3 : a = 3
  · exact ⟨anyS (v 1) 3, v, v, by unfold F_X5_now; rw [if_neg h0, if_neg h1, if_neg h2, if_pos h3, C_any3 hC, bd_s, sim_any hs (by decide)], by unfold F_X6_now; rw [if_neg h0, if_neg h1, if_neg h2, if_pos h3, M_any3 hM, bd_s], h⟩
  by_cases h4 : a = 4
  · exact ⟨givS (v 1), v, v, by unfold F_X5_now; rw [if_neg h0, if_neg h1, if_neg h2, if_neg h3, if_pos h4, C_giv hC, bd_s, sim_giv hs], by unfold F_X6_now; rw [if_neg h0, if_neg h1, if_neg h2, if_neg h3, if_pos h4, M_giv hM, bd_s], h⟩
  by_cases h5 : a = 5
  · exact ⟨tirS (v 1), v, v, by unfold F_X5_now; rw [if_neg h0, if_neg h1, if_neg h2, if_neg h3, if_neg h4, if_pos h5, C_tir hC, bd_s, sim_tir hs], by unfold F_X6_now; rw [if_neg h0, if_neg h1, if_neg h2, if_neg h3, if_neg h4, if_pos h5, M_tir hM, bd_s], h⟩
  by_cases h6 : a = 6
  · exact ⟨wseS (v 1), v, v, by unfold F_X5_now; rw [if_neg h0, if_neg h1, if_neg h2, if_neg h3, if_neg h4, if_neg h5, if_pos h6, C_wse hC, bd_s, sim_wse hs], by unfold F_X6_now; rw [if_neg h0, if_neg h1, if_neg h2, if_neg h3, if_neg h4, if_neg h5, if_pos h6, M_wse hM, bd_s], h⟩
  by_cases h7 : a = 7
  · obtain ⟨d, hd, e1, e2, -⟩ := M_placeNow hM
    exact ⟨fogS (v 1), v, v, by unfold F_X5_now; rw [if_neg h0, if_neg h1, if_neg h2, if_neg h3, if_neg h4, if_neg h5, if_neg h6, if_pos h7, C_thick hC, bd_s, sim_fog hs hM], by unfold F_X6_now; rw [if_neg h0, if_neg h1, if_neg h2, if_neg h3, if_neg h4, if_neg h5, if_neg h6, if_pos h7, e1, bd_s, gu_nI (by omega) (by decide), cl_nI (by omega), e2], h⟩
  · refine st_f0 h ?_ (fun v1 e1 => ?_)
    · unfold F_X5_now
      rw [if_neg h0, if_neg h1, if_neg h2, if_neg h3, if_neg h4, if_neg h5, if_neg h6, if_neg h7]
    · unfold F_X6_now
      rw [if_neg h0, if_neg h1, if_neg h2, if_neg h3, if_neg h4, if_neg h5, if_neg h6, if_neg h7]
theorem st_count {v : VV} (h : Rel v) (a : Int32) : StP (F_X5_count a) (F_X6_count a) v := by
  obtain ⟨hC, hM, hs, hp⟩ := h.1
  obtain ⟨t, ht, t1, t2, -⟩ := h.2.2.2.2.1
  by_cases h0 : a = 0
  · exact ⟨v 1 0, v, v, by unfold F_X5_count; rw [if_pos h0, rd_0 25 v, hs.1 0 (by decide)], by unfold F_X6_count; rw [if_pos h0], h⟩
  by_cases h1 : a = 1
  · exact ⟨v 1 1, v, v, by unfold F_X5_count; rw [if_neg h0, if_pos h1, rd_1 25 v, hs.1 1 (by decide)], by unfold F_X6_count; rw [if_neg h0, if_pos h1], h⟩
  by_cases h2 : a = 2
  · exact ⟨v 1 3, v, v, by unfold F_X5_count; rw [if_neg h0, if_neg h1, if_pos h2, rd_3 25 v, hs.1 3 (by decide)], by unfold F_X6_count; rw [if_neg h0, if_neg h1, if_pos h2], h⟩
  by_cases h3 : a = 3
  · exact ⟨lrnS (v 1), v, v, by unfold F_X5_count; rw [if_neg h0, if_neg h1, if_neg h2, if_pos h3, C_lrn hC, bd_s, sim_lrn hs], by unfold F_X6_count; rw [if_neg h0, if_neg h1, if_neg h2, if_pos h3, M_lrn hM, bd_s], h⟩
  by_cases h4 : a = 4
  · exact ⟨tirS (v 1), v, v, by unfold F_X5_count; rw [if_neg h0, if_neg h1, if_neg h2, if_neg h3, if_pos h4, C_tir hC, bd_s, sim_tir hs], by unfold F_X6_count; rw [if_neg h0, if_neg h1, if_neg h2, if_neg h3, if_pos h4, M_tir hM, bd_s], h⟩
  by_cases h5 : a = 5
  · exact ⟨nI t, v, v, by unfold F_X5_count; rw [if_neg h0, if_neg h1, if_neg h2, if_neg h3, if_neg h4, if_pos h5, t1], by unfold F_X6_count; rw [if_neg h0, if_neg h1, if_neg h2, if_neg h3, if_neg h4, if_pos h5, t2], h⟩
  by_cases h6 : a = 6
  · exact ⟨v 1 2, v, v, by unfold F_X5_count; rw [if_neg h0, if_neg h1, if_neg h2, if_neg h3, if_neg h4, if_neg h5, if_pos h6, rd_2 25 v, hs.1 2 (by decide)], by unfold F_X6_count; rw [if_neg h0, if_neg h1, if_neg h2, if_neg h3, if_neg h4, if_neg h5, if_pos h6], h⟩
  by_cases h7 : a = 7
  · exact ⟨sptS (v 1), v, v, by unfold F_X5_count; rw [if_neg h0, if_neg h1, if_neg h2, if_neg h3, if_neg h4, if_neg h5, if_neg h6, if_pos h7, C_spt, bd_s, sim_spt hs], by unfold F_X6_count; rw [if_neg h0, if_neg h1, if_neg h2, if_neg h3, if_neg h4, if_neg h5, if_neg h6, if_pos h7, M_spt hM hp], h⟩
  · refine st_f0 h ?_ (fun v1 e1 => ?_)
    · unfold F_X5_count
      rw [if_neg h0, if_neg h1, if_neg h2, if_neg h3, if_neg h4, if_neg h5, if_neg h6, if_neg h7]
    · unfold F_X6_count
      rw [if_neg h0, if_neg h1, if_neg h2, if_neg h3, if_neg h4, if_neg h5, if_neg h6, if_neg h7]
/-! go, autumn -/
theorem dayS_y {y : Nat} (hy : y < 20) (h0 : y ≠ 0) (c : RW) : dayS c y = c y := by
  unfold dayS
  show upd _ 0 _ y = _
  rw [upd_ne _ _ h0]
  exact itr_lt (fun j c' => oneS_20 hy j c' _) _ _ _
theorem daysS_y {y : Nat} (hy : y < 20) (h0 : y ≠ 0) : ∀ (n : Nat) (c : RW), daysS n c y = c y
  | 0, _ => rfl
  | n + 1, c => (daysS_y hy h0 n (dayS c)).trans (dayS_y hy h0 c)
theorem Sp_cg {m m' : RW} (h : SpOK m) (e1 : m' 1 = m 1) (e : ∀ j, j < 10 → m' (10 + j) = m (10 + j)) : SpOK m' := by
  intro j hj
  rw [e j hj, show nkS m' = nkS m by simp only [nkS]; rw [e1]]
  exact h j hj
theorem Sp_day {m : RW} (h : SpOK m) : SpOK (dayS m) := Sp_cg h (dayS_y (by decide) (by decide) m) (fun j hj => dayS_y (by omega) (by omega) m)
theorem Sp_days {m : RW} (h : SpOK m) (n : Nat) : SpOK (daysS n m) := Sp_cg h (daysS_y (by decide) (by decide) n m) (fun j hj => daysS_y (by omega) (by omega) n m)
theorem st_go {v : VV} (h : Rel v) (a : Int32) : StP (F_X5_go a) (F_X6_go a) v := by
  obtain ⟨hC, hM, hs, hp⟩ := h.1
  by_cases ha : in1 a 60 = true
  · obtain ⟨N, h1, hN, rfl⟩ := in1_t ha (by decide)
    by_cases hd : v 1 0 + nI N ≤ 99999
    · obtain ⟨v1, a1, a2, a3⟩ := C_days hC (N := N) (by omega)
      have hI1 : InvB (rowOf 25 v1) := by rw [a2]; exact daysS_B N hC
      have e1 : v1 1 = v 1 := Out1 a3 (by decide)
      have hs1 : sim (rowOf 25 v1) (daysS N (v 1)) := by rw [a2]; exact sim_days N hs hM
      refine ⟨lrnS (daysS N (v 1)), v1, va_up v1 1 (daysS N (v 1)), ?_, ?_, h.c a3 hI1 (daysS_B N hM) hs1 (Sp_days hp N)⟩
      · unfold F_X5_go
        rw [cl1 (b := 60) 60 rfl (by decide), if_pos ha, rd_0 25 v, hs.1 0 (by decide), if_pos hd, a1, bd_s, C_lrn hI1, bd_s, sim_lrn hs1]
      · unfold F_X6_go
        rw [wit1 (b := 60) 60 rfl (by decide), bd_s, if_pos ha, e1, if_pos hd, M_daysGo (by rw [e1]; exact hM) (by omega), bd_s, e1, M_lrn (by rw [va_up_self]; exact daysS_B N hM), bd_s, va_up_self]
    · refine st_f4 h ?_ (fun v1 e1 => ?_)
      · unfold F_X5_go
        rw [cl1 (b := 60) 60 rfl (by decide), if_pos ha, rd_0 25 v, hs.1 0 (by decide), if_neg hd]
      · unfold F_X6_go
        rw [wit1 (b := 60) 60 rfl (by decide), bd_s, if_pos ha, e1 1 (by decide), if_neg hd]
  · refine st_f0 h ?_ (fun v1 e1 => ?_)
    · unfold F_X5_go
      rw [cl1 (b := 60) 60 rfl (by decide), if_neg ha]
    · unfold F_X6_go
      rw [wit1 (b := 60) 60 rfl (by decide), bd_s, if_neg ha]
