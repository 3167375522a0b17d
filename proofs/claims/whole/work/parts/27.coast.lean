/-! PURE PART 8: steps on the coast -/
theorem updL {c : RW} (h : InvB c) {j n : Nat} (hj : j < 6) (hn : n ≤ 9) : InvB (upd c (4 + j) (nI n)) := by
  obtain ⟨h0, h1, h3, h4, h5, h6⟩ := h
  refine ⟨?_, ?_, ?_, fun j' hj' => ?_, fun i' hi' f' hf' => ?_, fun j hj f' hf' => ?_⟩
  · rw [upd_ne _ _ (by omega)]; exact h0
  · rw [upd_ne _ _ (by omega)]; exact h1
  · rw [upd_ne _ _ (by omega)]; exact h3
  · by_cases e : 4 + j' = 4 + j
    · rw [e, upd_self]; exact ⟨n, hn, rfl⟩
    · rw [upd_ne _ _ e]; exact h4 j' hj'
  · rw [upd_ne _ _ (by simp only [ki]; omega)]; exact h5 i' hi' f' hf'
  · rw [upd_ne _ _ (by simp only [ci]; omega)]; exact h6 j hj f' hf'
theorem updX {c : RW} (h : InvB c) {y : Nat} (hy : y = 2 ∨ (10 ≤ y ∧ y < 20)) (x : Int32) : InvB (upd c y x) := by
  obtain ⟨h0, h1, h3, h4, h5, h6⟩ := h
  refine ⟨?_, ?_, ?_, fun j' hj' => ?_, fun i' hi' f' hf' => ?_, fun j hj f' hf' => ?_⟩
  · rw [upd_ne _ _ (by omega)]; exact h0
  · rw [upd_ne _ _ (by omega)]; exact h1
  · rw [upd_ne _ _ (by omega)]; exact h3
  · rw [upd_ne _ _ (by omega)]; exact h4 j' hj'
  · rw [upd_ne _ _ (by simp only [ki]; omega)]; exact h5 i' hi' f' hf'
  · rw [upd_ne _ _ (by simp only [ci]; omega)]; exact h6 j hj f' hf'
theorem Sp_upd {m : RW} (h : SpOK m) {y : Nat} (h1 : y ≠ 1) (hy : ¬ (10 ≤ y ∧ y < 20)) (x : Int32) : SpOK (upd m y x) := by
  intro j hj
  rw [upd_ne _ _ (by omega), show nkS (upd m y x) = nkS m by simp only [nkS]; rw [upd_ne _ _ (Ne.symm h1)]]
  exact h j hj
/-- the class wrote one number of its coast, the reference the same -/
theorem Rel.w {v v1 : VV} (h : Rel v) {y : Nat} {x : Int32} (hw : rowOf 25 v1 = upd (rowOf 25 v) y x ∧ Out 25 v v1) (hI : ∀ c, InvB c → InvB (upd c y x)) (hs : sim (rowOf 25 v) (v 1) → sim (upd (rowOf 25 v) y x) (upd (v 1) y x)) (hp : SpOK (v 1) → SpOK (upd (v 1) y x)) : Rel (va_up v1 1 (upd (v 1) y x)) := by
  obtain ⟨a, b, c, d⟩ := h.1
  refine h.c hw.2 ?_ (hI _ b) ?_ (hp d)
  · rw [hw.1]; exact hI _ a
  · rw [hw.1]; exact hs c
theorem Rel.wK {v v1 : VV} (h : Rel v) {i f n : Nat} (hi : i < 8) (hf : f < 6) (hn : n ≤ tK f) (hw : rowOf 25 v1 = upd (rowOf 25 v) (ki i f) (nI n) ∧ Out 25 v v1) : Rel (va_up v1 1 (upd (v 1) (ki i f) (nI n))) :=
  h.w hw (fun _ hc => updK hc hi hf hn) (fun hs => sim_updK hs hf _) (fun hp => Sp_upd hp (by simp only [ki]; omega) (by simp only [ki]; omega) _)
theorem Rel.wC {v v1 : VV} (h : Rel v) {i f n : Nat} (hi : i < 6) (hf : f < 4) (hn : n ≤ tC f) (hw : rowOf 25 v1 = upd (rowOf 25 v) (ci i f) (nI n) ∧ Out 25 v v1) : Rel (va_up v1 1 (upd (v 1) (ci i f) (nI n))) :=
  h.w hw (fun _ hc => updC hc hi hf hn) (fun hs => sim_updC hs hf _) (fun hp => Sp_upd hp (by simp only [ci]; omega) (by simp only [ci]; omega) _)
theorem Rel.wL {v v1 : VV} (h : Rel v) {j n : Nat} (hj : j < 6) (hn : n ≤ 9) (hw : rowOf 25 v1 = upd (rowOf 25 v) (4 + j) (nI n) ∧ Out 25 v v1) : Rel (va_up v1 1 (upd (v 1) (4 + j) (nI n))) :=
  h.w hw (fun _ hc => updL hc hj hn) (fun hs => sim_updY hs (by omega) (by omega) (by omega) _) (fun hp => Sp_upd hp (by omega) (by omega) _)
theorem M_become {x : Nat} (hx : x < 92) (y : Int32) (v : VV) : F_X6_become (nI x) y v = some (v 1 x, va_up v 1 (upd (v 1) x y)) := by
  unfold F_X6_become
  rw [gu_nI hx (by decide), gu_nI hx (by decide), cl_nI (by omega)]
  rfl
theorem M_isPlace (a : Int32) (v : VV) : F_X6_isPlace a v = some (inR a 6) := by unfold F_X6_isPlace; rw [wit (b := 5) 5 rfl (by decide)]; rfl
theorem M_isFog (a : Int32) (v : VV) : F_X6_isFog a v = some (inR a 10) := by unfold F_X6_isFog; rw [wit (b := 9) 9 rfl (by decide)]; rfl
theorem M_isCell (a : Int32) (v : VV) : F_X6_isCell a v = some (inR a 16) := by unfold F_X6_isCell; rw [wit (b := 15) 15 rfl (by decide)]; rfl
theorem M_isNote (a : Int32) (v : VV) : F_X6_isNote a v = some (inR a 12) := by unfold F_X6_isNote; rw [wit (b := 11) 11 rfl (by decide)]; rfl
theorem M_isSet (a : Int32) (v : VV) : F_X6_isSet a v = some (inR a 4096) := by unfold F_X6_isSet; rw [wit (b := 4095) 4095 rfl (by decide)]; rfl
theorem M_isKind (a : Int32) (v : VV) : F_X6_isKind a v = some (inR a 7) := by unfold F_X6_isKind; rw [wit (b := 6) 6 rfl (by decide)]; rfl
theorem M_isSpot (a : Int32) (v : VV) : F_X6_isSpot a v = some (inR a 10) := by unfold F_X6_isSpot; rw [wit (b := 9) 9 rfl (by decide)]; rfl
theorem M_isSheet (a : Int32) (v : VV) : F_X6_isSheet a v = some (inR a 4) := by unfold F_X6_isSheet; rw [wit (b := 3) 3 rfl (by decide)]; rfl
theorem M_isThought (a : Int32) (v : VV) : F_X6_isThought a v = some (inR a 61) := by unfold F_X6_isThought; rw [wit (b := 60) 60 rfl (by decide)]; rfl
theorem ft {b : Bool} (h : ¬ b = true) : b = false := by cases b <;> simp_all
theorem four_nI (i : Nat) : (4 : Int32) + nI i = nI (4 + i) := by rw [show (4 : Int32) = nI 4 from rfl, nI_add]
theorem st_f0 {v : VV} (h : Rel v) {A B : VV → Option (Int32 × VV)} (hA : A v = Option.bind (F_X5_finding 0 v) (fun (r, w) => some (r, w))) (hB : ∀ v1 : VV, (∀ i, i ≠ 13 → v1 i = v i) → B v1 = Option.bind (F_X6_finding (-1000001) v1) (fun (r, w) => some (r, w))) : StP A B v := st_f h (f := 0) (by decide) (K := 0) (L := -1000001) rfl (by decide) hA hB
theorem st_f1 {v : VV} (h : Rel v) {A B : VV → Option (Int32 × VV)} (hA : A v = Option.bind (F_X5_finding 1 v) (fun (r, w) => some (r, w))) (hB : ∀ v1 : VV, (∀ i, i ≠ 13 → v1 i = v i) → B v1 = Option.bind (F_X6_finding (-1000002) v1) (fun (r, w) => some (r, w))) : StP A B v := st_f h (f := 1) (by decide) (K := 1) (L := -1000002) rfl (by decide) hA hB
theorem st_f2 {v : VV} (h : Rel v) {A B : VV → Option (Int32 × VV)} (hA : A v = Option.bind (F_X5_finding 2 v) (fun (r, w) => some (r, w))) (hB : ∀ v1 : VV, (∀ i, i ≠ 13 → v1 i = v i) → B v1 = Option.bind (F_X6_finding (-1000003) v1) (fun (r, w) => some (r, w))) : StP A B v := st_f h (f := 2) (by decide) (K := 2) (L := -1000003) rfl (by decide) hA hB
theorem st_f3 {v : VV} (h : Rel v) {A B : VV → Option (Int32 × VV)} (hA : A v = Option.bind (F_X5_finding 3 v) (fun (r, w) => some (r, w))) (hB : ∀ v1 : VV, (∀ i, i ≠ 13 → v1 i = v i) → B v1 = Option.bind (F_X6_finding (-1000004) v1) (fun (r, w) => some (r, w))) : StP A B v := st_f h (f := 3) (by decide) (K := 3) (L := -1000004) rfl (by decide) hA hB
theorem st_f4 {v : VV} (h : Rel v) {A B : VV → Option (Int32 × VV)} (hA : A v = Option.bind (F_X5_finding 4 v) (fun (r, w) => some (r, w))) (hB : ∀ v1 : VV, (∀ i, i ≠ 13 → v1 i = v i) → B v1 = Option.bind (F_X6_finding (-1000005) v1) (fun (r, w) => some (r, w))) : StP A B v := st_f h (f := 4) (by decide) (K := 4) (L := -1000005) rfl (by decide) hA hB
theorem st_f5 {v : VV} (h : Rel v) {A B : VV → Option (Int32 × VV)} (hA : A v = Option.bind (F_X5_finding 5 v) (fun (r, w) => some (r, w))) (hB : ∀ v1 : VV, (∀ i, i ≠ 13 → v1 i = v i) → B v1 = Option.bind (F_X6_finding (-1000006) v1) (fun (r, w) => some (r, w))) : StP A B v := st_f h (f := 5) (by decide) (K := 5) (L := -1000006) rfl (by decide) hA hB
theorem st_f6 {v : VV} (h : Rel v) {A B : VV → Option (Int32 × VV)} (hA : A v = Option.bind (F_X5_finding 6 v) (fun (r, w) => some (r, w))) (hB : ∀ v1 : VV, (∀ i, i ≠ 13 → v1 i = v i) → B v1 = Option.bind (F_X6_finding (-1000007) v1) (fun (r, w) => some (r, w))) : StP A B v := st_f h (f := 6) (by decide) (K := 6) (L := -1000007) rfl (by decide) hA hB
theorem st_fog {v : VV} (h : Rel v) (a b : Int32) : StP (F_X5_fog a b) (F_X6_fog a b) v := by
  by_cases ha : inR a 6 = true
  · by_cases hb : inR b 10 = true
    · obtain ⟨i, hi, rfl⟩ := inR_t ha (by decide)
      obtain ⟨x, hx, rfl⟩ := inR_t hb (by decide)
      have hw := wr_l 25 v hi (nI x)
      refine ⟨v 1 (4 + i), pu v (25 + 1) i (nI x), va_up (pu v (25 + 1) i (nI x)) 1 (upd (v 1) (4 + i) (nI x)), ?_, ?_, h.wL hi (by omega) hw⟩
      · unfold F_X5_fog
        rw [upTo (b := 5) 5 rfl (by decide), bd_s, if_pos ha, upTo (b := 9) 9 rfl (by decide), bd_s, if_pos hb, gu_nI hi (by decide), gu_nI hi (by decide), cl_nI (by omega), rd_l 25 v hi, h.1.2.2.1.1 _ (by omega)]
      · unfold F_X6_fog
        rw [M_isPlace, bd_s, if_pos ha, M_isFog, bd_s, if_pos hb, four_nI, M_become (by omega), bd_s, pu_ne _ _ _ (by decide)]
    · refine st_f0 h ?_ (fun v1 e => ?_)
      · unfold F_X5_fog
        rw [upTo (b := 5) 5 rfl (by decide), bd_s, if_pos ha, upTo (b := 9) 9 rfl (by decide), bd_s, if_neg hb]
      · unfold F_X6_fog
        rw [M_isPlace, bd_s, if_pos ha, M_isFog, bd_s, if_neg hb]
  · refine st_f0 h ?_ (fun v1 e => ?_)
    · unfold F_X5_fog
      rw [upTo (b := 5) 5 rfl (by decide), bd_s, if_neg ha]
    · unfold F_X6_fog
      rw [M_isPlace, bd_s, if_neg ha]
theorem st_listed {v : VV} (h : Rel v) (a : Int32) : StP (F_X5_listed a) (F_X6_listed a) v := by
  by_cases ha : inR a 6 = true
  · obtain ⟨i, hi, rfl⟩ := inR_t ha (by decide)
    refine ⟨v 1 (4 + i), v, v, ?_, ?_, h⟩
    · unfold F_X5_listed
      rw [upTo (b := 5) 5 rfl (by decide), bd_s, if_pos ha, gu_nI hi (by decide), cl_nI (by omega), rd_l 25 v hi, h.1.2.2.1.1 _ (by omega)]
    · unfold F_X6_listed
      rw [M_isPlace, bd_s, if_pos ha, four_nI, gu_nI (by omega) (by decide), cl_nI (by omega)]
  · refine st_f0 h ?_ (fun v1 e => ?_)
    · unfold F_X5_listed
      rw [upTo (b := 5) 5 rfl (by decide), bd_s, if_neg ha]
    · unfold F_X6_listed
      rw [M_isPlace, bd_s, if_neg ha]
/-- a new keeper, a new child, on a row -/
def newK (c : RW) (kind cell : Int32) : RW := let i := nkS c; upd (upd (upd (upd (upd (upd (upd c (ki i 0) kind) (ki i 1) cell) (ki i 2) 0) (ki i 3) 6) (ki i 4) 0) (ki i 5) 0) 1 (c 1 + 1)
def newC (c : RW) (cell quick : Int32) : RW := let i := ncS c; upd (upd (upd (upd (upd c (ci i 0) cell) (ci i 1) quick) (ci i 2) 0) (ci i 3) 0) 3 (c 3 + 1)
theorem C_addKeeper {p : Nat} {v : VV} (hI : InvB (rowOf p v)) (h8 : nkS (rowOf p v) < 8) (kind cell : Int32) : ∃ v1, F_X1_addKeeper p kind cell v = some (rowOf p v 1, v1) ∧ rowOf p v1 = newK (rowOf p v) kind cell ∧ Out p v v1 := by
  unfold F_X1_addKeeper F_X2_begin
  rw [rd_1 p v, (nk_eq hI).1, gu_nI h8 (by decide), cl_nI (by omega), bd_s]
  have pk : ∀ (w : VV) (f : Nat) (x : Int32), pu w (((p + 3) + 2 + nkS (rowOf p v)) + 8) f x p = w p := fun w f x => pu_ne _ _ _ (by omega)
  simp only [pk]
  rw [rd_1 p v, (nk_eq hI).1]
  refine ⟨_, rfl, ?_, ?_⟩
  · rw [(wr_1 p _ _).1, (wr_k p _ h8 (by decide) _).1, (wr_k p _ h8 (by decide) _).1, (wr_k p _ h8 (by decide) _).1, (wr_k p _ h8 (by decide) _).1, (wr_k p _ h8 (by decide) _).1, (wr_k p _ h8 (by decide) _).1]
    unfold newK
    dsimp only
    rw [(nk_eq hI).1]
  · exact ((((((wr_k p _ h8 (by decide) _).2.trans (wr_k p _ h8 (by decide) _).2).trans (wr_k p _ h8 (by decide) _).2).trans (wr_k p _ h8 (by decide) _).2).trans (wr_k p _ h8 (by decide) _).2).trans (wr_k p _ h8 (by decide) _).2).trans (wr_1 p _ _).2
theorem C_addChild {p : Nat} {v : VV} (hI : InvB (rowOf p v)) (h6 : ncS (rowOf p v) < 6) (cell quick : Int32) : ∃ v1, F_X1_addChild p cell quick v = some (rowOf p v 3, v1) ∧ rowOf p v1 = newC (rowOf p v) cell quick ∧ Out p v v1 := by
  unfold F_X1_addChild F_X0_begin
  rw [rd_3 p v, (nc_eq hI).1, gu_nI h6 (by decide), cl_nI (by omega), bd_s]
  have pk : ∀ (w : VV) (f : Nat) (x : Int32), pu w (((p + 4) + 17 + ncS (rowOf p v)) + 6) f x p = w p := fun w f x => pu_ne _ _ _ (by omega)
  simp only [pk]
  rw [rd_3 p v, (nc_eq hI).1]
  refine ⟨_, rfl, ?_, ?_⟩
  · rw [(wr_3 p _ _).1, (wr_c p _ h6 (by decide) _).1, (wr_c p _ h6 (by decide) _).1, (wr_c p _ h6 (by decide) _).1, (wr_c p _ h6 (by decide) _).1]
    unfold newC
    dsimp only
    rw [(nc_eq hI).1]
  · exact ((((wr_c p _ h6 (by decide) _).2.trans (wr_c p _ h6 (by decide) _).2).trans (wr_c p _ h6 (by decide) _).2).trans (wr_c p _ h6 (by decide) _).2).trans (wr_3 p _ _).2
theorem M_comesL {i : Nat} (hi : i < 8) (kind cell : Int32) : ∀ (k n f : Nat) (v : VV), f + k = 6 → k < n → (∀ g, g < f → v 1 (ki i g) = 0) → ∃ m', L_X6_comes_10 n kind cell (nI i) (nI f) v = some (nI i, va_up v 1 m') ∧ m' (ki i 0) = kind ∧ m' (ki i 1) = cell ∧ m' (ki i 2) = 0 ∧ m' (ki i 3) = 6 ∧ m' (ki i 4) = 0 ∧ m' (ki i 5) = 0 ∧ m' 1 = v 1 1 + 1 ∧ ∀ y, y ≠ 1 → ¬ (ki i 0 ≤ y ∧ y < ki i 6) → m' y = v 1 y := by
  intro k
  induction k with
  | zero =>
    intro n f v hfk hn hz
    obtain ⟨n, rfl⟩ : ∃ z, n = z + 1 := ⟨n - 1, by omega⟩
    rw [L_X6_comes_10, if_pos (by rw [show (6 : Int32) = nI 6 from rfl]; exact nI_le (by omega) (by omega)), kAt0, bd_s, gu_nI (ki_lt hi (by decide)) (by decide), kAt1, bd_s, gu_nI (ki_lt hi (by decide)) (by decide), kAt3, bd_s, gu_nI (ki_lt hi (by decide)) (by decide), cl_nI (Nat.lt_trans (ki_lt hi (by decide : 0 < 6)) (by decide)), cl_nI (Nat.lt_trans (ki_lt hi (by decide : 1 < 6)) (by decide)), cl_nI (Nat.lt_trans (ki_lt hi (by decide : 3 < 6)) (by decide)), pu_up v, pu_of_up, pu_of_up, pu_of_up, va_up_self]
    refine ⟨_, rfl, ?_, ?_, ?_, ?_, ?_, ?_, ?_, fun y h1 h2 => ?_⟩
    · rw [upd_ne _ _ (by simp only [ki]; omega), upd_ne _ _ (by simp only [ki]; omega), upd_ne _ _ (by simp only [ki]; omega), upd_self]
    · rw [upd_ne _ _ (by simp only [ki]; omega), upd_ne _ _ (by simp only [ki]; omega), upd_self]
    · rw [upd_ne _ _ (by simp only [ki]; omega), upd_ne _ _ (by simp only [ki]; omega), upd_ne _ _ (by simp only [ki]; omega), upd_ne _ _ (by simp only [ki]; omega)]; exact hz 2 (by omega)
    · rw [upd_ne _ _ (by simp only [ki]; omega), upd_self]
    · rw [upd_ne _ _ (by simp only [ki]; omega), upd_ne _ _ (by simp only [ki]; omega), upd_ne _ _ (by simp only [ki]; omega), upd_ne _ _ (by simp only [ki]; omega)]; exact hz 4 (by omega)
    · rw [upd_ne _ _ (by simp only [ki]; omega), upd_ne _ _ (by simp only [ki]; omega), upd_ne _ _ (by simp only [ki]; omega), upd_ne _ _ (by simp only [ki]; omega)]; exact hz 5 (by omega)
    · rw [upd_self, upd_ne _ _ (by simp only [ki]; omega), upd_ne _ _ (by simp only [ki]; omega), upd_ne _ _ (by simp only [ki]; omega)]
    · rw [upd_ne _ _ h1, upd_ne _ _ (by simp only [ki] at h2 ⊢; omega), upd_ne _ _ (by simp only [ki] at h2 ⊢; omega), upd_ne _ _ (by simp only [ki] at h2 ⊢; omega)]
  | succ k ih =>
    intro n f v hfk hn hz
    obtain ⟨n, rfl⟩ : ∃ z, n = z + 1 := ⟨n - 1, by omega⟩
    rw [L_X6_comes_10, if_neg (by rw [show (6 : Int32) = nI 6 from rfl]; exact nI_ge (by omega) (by omega)), kAt, bd_s, gu_nI (ki_lt hi (by omega)) (by decide), cl_nI (Nat.lt_trans (ki_lt hi (by omega : f < 6)) (by decide)), nI_1]
    obtain ⟨m', e, h⟩ := ih n (f + 1) (pu v 1 (ki i f) 0) (by omega) (by omega) (fun g hg => by
      rw [pu_self]
      by_cases eg : g = f
      · rw [eg, upd_self]
      · rw [upd_ne _ _ (by simp only [ki]; omega)]; exact hz g (by omega))
    refine ⟨m', by rw [e, pu_up, up_up], h.1, h.2.1, h.2.2.1, h.2.2.2.1, h.2.2.2.2.1, h.2.2.2.2.2.1, ?_, fun y h1 h2 => ?_⟩
    · rw [h.2.2.2.2.2.2.1, pu_self, upd_ne _ _ (by simp only [ki]; omega)]
    · rw [h.2.2.2.2.2.2.2 y h1 h2, pu_self, upd_ne _ _ (by simp only [ki] at h2 ⊢; omega)]
theorem newK_at (c : RW) (kind cell : Int32) : newK c kind cell (ki (nkS c) 0) = kind ∧ newK c kind cell (ki (nkS c) 1) = cell ∧ newK c kind cell (ki (nkS c) 2) = 0 ∧ newK c kind cell (ki (nkS c) 3) = 6 ∧ newK c kind cell (ki (nkS c) 4) = 0 ∧ newK c kind cell (ki (nkS c) 5) = 0 ∧ newK c kind cell 1 = c 1 + 1 ∧ ∀ y, y ≠ 1 → ¬ (ki (nkS c) 0 ≤ y ∧ y < ki (nkS c) 6) → newK c kind cell y = c y := by
  unfold newK
  generalize nkS c = i
  refine ⟨?_, ?_, ?_, ?_, ?_, ?_, ?_, fun y h1 h2 => ?_⟩
  · rw [upd_ne _ _ (by simp only [ki]; omega), upd_ne _ _ (by simp only [ki]; omega), upd_ne _ _ (by simp only [ki]; omega), upd_ne _ _ (by simp only [ki]; omega), upd_ne _ _ (by simp only [ki]; omega), upd_ne _ _ (by simp only [ki]; omega), upd_self]
  · rw [upd_ne _ _ (by simp only [ki]; omega), upd_ne _ _ (by simp only [ki]; omega), upd_ne _ _ (by simp only [ki]; omega), upd_ne _ _ (by simp only [ki]; omega), upd_ne _ _ (by simp only [ki]; omega), upd_self]
  · rw [upd_ne _ _ (by simp only [ki]; omega), upd_ne _ _ (by simp only [ki]; omega), upd_ne _ _ (by simp only [ki]; omega), upd_ne _ _ (by simp only [ki]; omega), upd_self]
  · rw [upd_ne _ _ (by simp only [ki]; omega), upd_ne _ _ (by simp only [ki]; omega), upd_ne _ _ (by simp only [ki]; omega), upd_self]
  · rw [upd_ne _ _ (by simp only [ki]; omega), upd_ne _ _ (by simp only [ki]; omega), upd_self]
  · rw [upd_ne _ _ (by simp only [ki]; omega), upd_self]
  · rw [upd_self]
  · rw [upd_ne _ _ h1, upd_ne _ _ (by simp only [ki] at h2 ⊢; omega), upd_ne _ _ (by simp only [ki] at h2 ⊢; omega), upd_ne _ _ (by simp only [ki] at h2 ⊢; omega), upd_ne _ _ (by simp only [ki] at h2 ⊢; omega), upd_ne _ _ (by simp only [ki] at h2 ⊢; omega), upd_ne _ _ (by simp only [ki] at h2 ⊢; omega)]
theorem M_comes {v : VV} (hI : InvB (v 1)) (h8 : nkS (v 1) < 8) (kind cell : Int32) : F_X6_comes kind cell v = some (v 1 1, va_up v 1 (newK (v 1) kind cell)) := by
  obtain ⟨m', e, g⟩ := M_comesL h8 kind cell 6 fu 0 v (by omega) (by unfold fu; omega) (fun g hg => by omega)
  unfold F_X6_comes
  have e1 := (nk_eq hI).1
  rw [e1, show (0 : Int32) = nI 0 from rfl, e]
  obtain ⟨k0, k1, k2, k3, k4, k5, k6, k7⟩ := newK_at (v 1) kind cell
  obtain ⟨g0, g1, g2, g3, g4, g5, g6, g7⟩ := g
  congr 3
  funext y
  by_cases y1 : y = 1
  · rw [y1, g6, k6]
  · by_cases hy : ki (nkS (v 1)) 0 ≤ y ∧ y < ki (nkS (v 1)) 6
    · have hc : y = ki (nkS (v 1)) 0 ∨ y = ki (nkS (v 1)) 1 ∨ y = ki (nkS (v 1)) 2 ∨ y = ki (nkS (v 1)) 3 ∨ y = ki (nkS (v 1)) 4 ∨ y = ki (nkS (v 1)) 5 := by simp only [ki] at hy ⊢; omega
      rcases hc with q | q | q | q | q | q <;> rw [q]
      · rw [g0, k0]
      · rw [g1, k1]
      · rw [g2, k2]
      · rw [g3, k3]
      · rw [g4, k4]
      · rw [g5, k5]
    · rw [g7 y y1 hy, k7 y y1 hy]
theorem M_childComes {v : VV} (hI : InvB (v 1)) (h6 : ncS (v 1) < 6) (cell quick : Int32) : F_X6_childComes cell quick v = some (v 1 3, va_up v 1 (newC (v 1) cell quick)) := by
  unfold F_X6_childComes
  have e3 := (nc_eq hI).1
  rw [e3, cAt0, bd_s, gu_nI (ci_lt h6 (by decide)) (by decide), cAt1, bd_s, gu_nI (ci_lt h6 (by decide)) (by decide), cAt2, bd_s, gu_nI (ci_lt h6 (by decide)) (by decide), cAt3, bd_s, gu_nI (ci_lt h6 (by decide)) (by decide), cl_nI (Nat.lt_trans (ci_lt h6 (by decide : 0 < 4)) (by decide)), cl_nI (Nat.lt_trans (ci_lt h6 (by decide : 1 < 4)) (by decide)), cl_nI (Nat.lt_trans (ci_lt h6 (by decide : 2 < 4)) (by decide)), cl_nI (Nat.lt_trans (ci_lt h6 (by decide : 3 < 4)) (by decide)), pu_up v, pu_of_up, pu_of_up, pu_of_up, pu_of_up, va_up_self, upd_ne _ _ (show (3 : Nat) ≠ ci (ncS (v 1)) 3 by simp only [ci]; omega), upd_ne _ _ (show (3 : Nat) ≠ ci (ncS (v 1)) 2 by simp only [ci]; omega), upd_ne _ _ (show (3 : Nat) ≠ ci (ncS (v 1)) 1 by simp only [ci]; omega), upd_ne _ _ (show (3 : Nat) ≠ ci (ncS (v 1)) 0 by simp only [ci]; omega)]
  rfl
