/-! PURE PART 9: keepers, children: steps -/
theorem newC_at (c : RW) (cell quick : Int32) : newC c cell quick (ci (ncS c) 0) = cell ∧ newC c cell quick (ci (ncS c) 1) = quick ∧ newC c cell quick (ci (ncS c) 2) = 0 ∧ newC c cell quick (ci (ncS c) 3) = 0 ∧ newC c cell quick 3 = c 3 + 1 ∧ ∀ y, y ≠ 3 → ¬ (ci (ncS c) 0 ≤ y ∧ y < ci (ncS c) 4) → newC c cell quick y = c y := by
  unfold newC
  generalize ncS c = i
  refine ⟨?_, ?_, ?_, ?_, ?_, fun y h1 h2 => ?_⟩
  · rw [upd_ne _ _ (by simp only [ci]; omega), upd_ne _ _ (by simp only [ci]; omega), upd_ne _ _ (by simp only [ci]; omega), upd_ne _ _ (by simp only [ci]; omega), upd_self]
  · rw [upd_ne _ _ (by simp only [ci]; omega), upd_ne _ _ (by simp only [ci]; omega), upd_ne _ _ (by simp only [ci]; omega), upd_self]
  · rw [upd_ne _ _ (by simp only [ci]; omega), upd_ne _ _ (by simp only [ci]; omega), upd_self]
  · rw [upd_ne _ _ (by simp only [ci]; omega), upd_self]
  · rw [upd_self]
  · rw [upd_ne _ _ h1, upd_ne _ _ (by simp only [ci] at h2 ⊢; omega), upd_ne _ _ (by simp only [ci] at h2 ⊢; omega), upd_ne _ _ (by simp only [ci] at h2 ⊢; omega), upd_ne _ _ (by simp only [ci] at h2 ⊢; omega)]
theorem newK_f {c : RW} (kind cell : Int32) : ∀ f, f < 6 → newK c kind cell (ki (nkS c) f) = [kind, cell, 0, 6, 0, 0].getD f 0 := by
  obtain ⟨k0, k1, k2, k3, k4, k5, -, -⟩ := newK_at c kind cell
  intro f hf
  have hc : f = 0 ∨ f = 1 ∨ f = 2 ∨ f = 3 ∨ f = 4 ∨ f = 5 := by omega
  rcases hc with rfl | rfl | rfl | rfl | rfl | rfl <;> assumption
theorem newC_f {c : RW} (cell quick : Int32) : ∀ f, f < 4 → newC c cell quick (ci (ncS c) f) = [cell, quick, 0, 0].getD f 0 := by
  obtain ⟨k0, k1, k2, k3, -, -⟩ := newC_at c cell quick
  intro f hf
  have hc : f = 0 ∨ f = 1 ∨ f = 2 ∨ f = 3 := by omega
  rcases hc with rfl | rfl | rfl | rfl <;> assumption
theorem newK_nk {c : RW} (hI : InvB c) (h8 : nkS c < 8) (kind cell : Int32) : newK c kind cell 1 = nI (nkS c + 1) ∧ nkS (newK c kind cell) = nkS c + 1 := by
  have e : newK c kind cell 1 = nI (nkS c + 1) := by rw [(newK_at c kind cell).2.2.2.2.2.2.1, (nk_eq hI).1, nI_1]
  refine ⟨e, ?_⟩
  show (newK c kind cell 1).toNatClampNeg = _
  rw [e]
  exact cl_nI (by omega)
theorem newC_nc {c : RW} (hI : InvB c) (h6 : ncS c < 6) (cell quick : Int32) : newC c cell quick 3 = nI (ncS c + 1) ∧ ncS (newC c cell quick) = ncS c + 1 := by
  have e : newC c cell quick 3 = nI (ncS c + 1) := by rw [(newC_at c cell quick).2.2.2.2.1, (nc_eq hI).1, nI_1]
  refine ⟨e, ?_⟩
  show (newC c cell quick 3).toNatClampNeg = _
  rw [e]
  exact cl_nI (by omega)
theorem newK_B {c : RW} (hI : InvB c) (h8 : nkS c < 8) {k x : Nat} (hk : k ≤ 6) (hx : x ≤ 15) : InvB (newK c (nI k) (nI x)) := by
  have at' := newK_at c (nI k) (nI x)
  have k7 := at'.2.2.2.2.2.2.2
  have e1 := (newK_nk hI h8 (nI k) (nI x)).1
  obtain ⟨h0, h1, h3, h4, h5, h6⟩ := hI
  refine ⟨?_, ⟨nkS c + 1, by omega, e1⟩, ?_, fun j hj => ?_, fun i hi f hf => ?_, fun j hj f hf => ?_⟩
  · rw [k7 0 (by decide) (by simp only [ki]; omega)]; exact h0
  · rw [k7 3 (by decide) (by simp only [ki]; omega)]; exact h3
  · rw [k7 _ (by omega) (by simp only [ki]; omega)]; exact h4 j hj
  · by_cases e : i = nkS c
    · rw [e, newK_f _ _ f hf]
      have hc : f = 0 ∨ f = 1 ∨ f = 2 ∨ f = 3 ∨ f = 4 ∨ f = 5 := by omega
      rcases hc with rfl | rfl | rfl | rfl | rfl | rfl
      · exact ⟨k, hk, rfl⟩
      · exact ⟨x, hx, rfl⟩
      · exact ⟨0, by decide, rfl⟩
      · exact ⟨6, by decide, rfl⟩
      · exact ⟨0, by decide, rfl⟩
      · exact ⟨0, by decide, rfl⟩
    · rw [k7 _ (by simp only [ki]; omega) (by simp only [ki]; omega)]; exact h5 i hi f hf
  · rw [k7 _ (by simp only [ci]; omega) (by simp only [ki, ci]; omega)]; exact h6 j hj f hf
theorem newC_B {c : RW} (hI : InvB c) (h6' : ncS c < 6) {k x : Nat} (hk : k ≤ 15) (hx : x ≤ 9) : InvB (newC c (nI k) (nI x)) := by
  have k7 := (newC_at c (nI k) (nI x)).2.2.2.2.2
  have e1 := (newC_nc hI h6' (nI k) (nI x)).1
  obtain ⟨h0, h1, h3, h4, h5, h6⟩ := hI
  refine ⟨?_, ?_, ⟨ncS c + 1, by omega, e1⟩, fun j hj => ?_, fun i hi f hf => ?_, fun i hi f hf => ?_⟩
  · rw [k7 0 (by decide) (by simp only [ci]; omega)]; exact h0
  · rw [k7 1 (by decide) (by simp only [ci]; omega)]; exact h1
  · rw [k7 _ (by omega) (by simp only [ci]; omega)]; exact h4 j hj
  · rw [k7 _ (by simp only [ki]; omega) (by simp only [ki, ci]; omega)]; exact h5 i hi f hf
  · by_cases e : i = ncS c
    · rw [e, newC_f _ _ f hf]
      have hc : f = 0 ∨ f = 1 ∨ f = 2 ∨ f = 3 := by omega
      rcases hc with rfl | rfl | rfl | rfl
      · exact ⟨k, hk, rfl⟩
      · exact ⟨x, hx, rfl⟩
      · exact ⟨0, by decide, rfl⟩
      · exact ⟨0, by decide, rfl⟩
    · rw [k7 _ (by simp only [ci]; omega) (by simp only [ci]; omega)]; exact h6 i hi f hf
theorem sim_newK {c m : RW} (h : sim c m) (hI : InvB m) (h8 : nkS m < 8) (kind cell : Int32) : sim (newK c kind cell) (newK m kind cell) := by
  have e : nkS c = nkS m := sim_nk h
  have a := newK_at c kind cell
  have b := newK_at m kind cell
  have fc := newK_f (c := c) kind cell
  have fm := newK_f (c := m) kind cell
  have n := (newK_nk hI h8 kind cell).2
  rw [e] at a fc
  have a7 := a.2.2.2.2.2.2.2
  have b7 := b.2.2.2.2.2.2.2
  refine ⟨fun y hy => ?_, fun i hi f hf => ?_, fun j hj f hf => ?_⟩
  · by_cases y1 : y = 1
    · rw [y1, a.2.2.2.2.2.2.1, b.2.2.2.2.2.2.1, h.1 1 (by decide)]
    · rw [a7 y y1 (by simp only [ki]; omega), b7 y y1 (by simp only [ki]; omega)]; exact h.1 y hy
  · rw [n] at hi
    by_cases ei : i = nkS m
    · rw [ei, fc f hf, fm f hf]
    · rw [a7 _ (by simp only [ki]; omega) (by simp only [ki]; omega), b7 _ (by simp only [ki]; omega) (by simp only [ki]; omega)]; exact h.2.1 i (by omega) f hf
  · have ec : ncS (newK m kind cell) = ncS m := by show (newK m kind cell 3).toNatClampNeg = _; rw [b7 3 (by decide) (by simp only [ki]; omega)]
    rw [ec] at hj
    rw [a7 _ (by simp only [ci]; omega) (by simp only [ki, ci]; omega), b7 _ (by simp only [ci]; omega) (by simp only [ki, ci]; omega)]; exact h.2.2 j hj f hf
theorem sim_newC {c m : RW} (h : sim c m) (hI : InvB m) (h6 : ncS m < 6) (cell quick : Int32) : sim (newC c cell quick) (newC m cell quick) := by
  have hk8 := (nk_eq hI).2
  have e : ncS c = ncS m := sim_nc h
  have a := newC_at c cell quick
  have b := newC_at m cell quick
  have fc := newC_f (c := c) cell quick
  have fm := newC_f (c := m) cell quick
  have n := (newC_nc hI h6 cell quick).2
  rw [e] at a fc
  have a7 := a.2.2.2.2.2
  have b7 := b.2.2.2.2.2
  refine ⟨fun y hy => ?_, fun i hi f hf => ?_, fun j hj f hf => ?_⟩
  · by_cases y1 : y = 3
    · rw [y1, a.2.2.2.2.1, b.2.2.2.2.1, h.1 3 (by decide)]
    · rw [a7 y y1 (by simp only [ci]; omega), b7 y y1 (by simp only [ci]; omega)]; exact h.1 y hy
  · have ec : nkS (newC m cell quick) = nkS m := by show (newC m cell quick 1).toNatClampNeg = _; rw [b7 1 (by decide) (by simp only [ci]; omega)]
    rw [ec] at hi
    rw [a7 _ (by simp only [ki]; omega) (by simp only [ki, ci]; omega), b7 _ (by simp only [ki]; omega) (by simp only [ki, ci]; omega)]; exact h.2.1 i hi f hf
  · rw [n] at hj
    by_cases ei : j = ncS m
    · rw [ei, fc f hf, fm f hf]
    · rw [a7 _ (by simp only [ci]; omega) (by simp only [ci]; omega), b7 _ (by simp only [ci]; omega) (by simp only [ci]; omega)]; exact h.2.2 j (by omega) f hf
theorem Sp_newK {m : RW} (h : SpOK m) (hI : InvB m) (h8 : nkS m < 8) (kind cell : Int32) : SpOK (newK m kind cell) := by
  intro j hj
  rw [(newK_at m kind cell).2.2.2.2.2.2.2 _ (by omega) (by simp only [ki]; omega), (newK_nk hI h8 kind cell).2]
  rcases h j hj with q | ⟨n, a, b⟩
  · exact Or.inl q
  · exact Or.inr ⟨n, by omega, b⟩
theorem Sp_newC {m : RW} (h : SpOK m) (cell quick : Int32) : SpOK (newC m cell quick) := by
  have b7 := (newC_at m cell quick).2.2.2.2.2
  intro j hj
  have ec : nkS (newC m cell quick) = nkS m := by show (newC m cell quick 1).toNatClampNeg = _; rw [b7 1 (by decide) (by simp only [ci]; omega)]
  rw [b7 _ (by omega) (by simp only [ci]; omega), ec]
  exact h j hj
theorem Out1 {v v1 : VV} {p : Nat} (h : Out p v v1) {i : Nat} (hi : i < p) : v1 i = v i := h i (Or.inl hi)
theorem st_keeper {v : VV} (h : Rel v) (a b : Int32) : StP (F_X5_keeper a b) (F_X6_keeper a b) v := by
  obtain ⟨hC, hM, hs, hp⟩ := h.1
  by_cases ha : inR a 7 = true
  · by_cases hb : inR b 16 = true
    · obtain ⟨k, hk, rfl⟩ := inR_t ha (by decide)
      obtain ⟨x, hx, rfl⟩ := inR_t hb (by decide)
      have e := sim_nk hs
      by_cases h8 : nkS (v 1) < 8
      · obtain ⟨v1, a1, a2, a3⟩ := C_addKeeper hC (by omega) (nI k) (nI x)
        refine ⟨v 1 1, v1, va_up v1 1 (newK (v1 1) (nI k) (nI x)), ?_, ?_, ?_⟩
        · unfold F_X5_keeper F_X1_hasAllKeepers
          rw [upTo (b := 6) 6 rfl (by decide), bd_s, if_pos ha, upTo (b := 15) 15 rfl (by decide), bd_s, if_pos hb, rd_1 25 v, (nk_eq hC).1, if_pos (by rw [show (8 : Int32) = nI 8 from rfl]; exact nI_lt (by omega) (by omega)), bd_s, if_neg (by decide), a1, bd_s, hs.1 1 (by decide)]
        · unfold F_X6_keeper
          rw [M_isKind, bd_s, if_pos ha, M_isCell, bd_s, if_pos hb, Out1 a3 (by decide), if_neg (by rw [(nk_eq hM).1, show (8 : Int32) = nI 8 from rfl]; intro q; have := (nI_eq (by omega) (by omega)).mp q; omega), M_comes (by rw [Out1 a3 (by decide)]; exact hM) (by rw [Out1 a3 (by decide)]; exact h8), bd_s, Out1 a3 (by decide)]
        · rw [Out1 a3 (by decide)]
          exact h.c a3 (by rw [a2]; exact newK_B hC (by omega) (by omega) (by omega)) (newK_B hM h8 (by omega) (by omega)) (by rw [a2]; exact sim_newK hs hM h8 _ _) (Sp_newK hp hM h8 _ _)
      · have e8 : nkS (v 1) = 8 := by have := (nk_eq hM).2; omega
        refine st_f1 h ?_ (fun v1 e1 => ?_)
        · unfold F_X5_keeper F_X1_hasAllKeepers
          rw [upTo (b := 6) 6 rfl (by decide), bd_s, if_pos ha, upTo (b := 15) 15 rfl (by decide), bd_s, if_pos hb, rd_1 25 v, (nk_eq hC).1, e, e8, if_neg (by decide), bd_s, if_pos rfl]
        · unfold F_X6_keeper
          rw [M_isKind, bd_s, if_pos ha, M_isCell, bd_s, if_pos hb, e1 1 (by decide), (nk_eq hM).1, e8, if_pos (show nI 8 = 8 from rfl)]
    · refine st_f0 h ?_ (fun v1 e1 => ?_)
      · unfold F_X5_keeper
        rw [upTo (b := 6) 6 rfl (by decide), bd_s, if_pos ha, upTo (b := 15) 15 rfl (by decide), bd_s, if_neg hb]
      · unfold F_X6_keeper
        rw [M_isKind, bd_s, if_pos ha, M_isCell, bd_s, if_neg hb]
  · refine st_f0 h ?_ (fun v1 e1 => ?_)
    · unfold F_X5_keeper
      rw [upTo (b := 6) 6 rfl (by decide), bd_s, if_neg ha]
    · unfold F_X6_keeper
      rw [M_isKind, bd_s, if_neg ha]
theorem st_child {v : VV} (h : Rel v) (a b : Int32) : StP (F_X5_child a b) (F_X6_child a b) v := by
  obtain ⟨hC, hM, hs, hp⟩ := h.1
  by_cases ha : inR a 16 = true
  · by_cases hb : inR b 10 = true
    · obtain ⟨k, hk, rfl⟩ := inR_t ha (by decide)
      obtain ⟨x, hx, rfl⟩ := inR_t hb (by decide)
      have e := sim_nc hs
      by_cases h8 : ncS (v 1) < 6
      · obtain ⟨v1, a1, a2, a3⟩ := C_addChild hC (by omega) (nI k) (nI x)
        refine ⟨v 1 3, v1, va_up v1 1 (newC (v1 1) (nI k) (nI x)), ?_, ?_, ?_⟩
        · unfold F_X5_child F_X1_hasAllChildren
          rw [upTo (b := 15) 15 rfl (by decide), bd_s, if_pos ha, upTo (b := 9) 9 rfl (by decide), bd_s, if_pos hb, rd_3 25 v, (nc_eq hC).1, if_pos (by rw [show (6 : Int32) = nI 6 from rfl]; exact nI_lt (by omega) (by omega)), bd_s, if_neg (by decide), a1, bd_s, hs.1 3 (by decide)]
        · unfold F_X6_child
          rw [M_isCell, bd_s, if_pos ha, wit (b := 9) 9 rfl (by decide), bd_s, if_pos hb, Out1 a3 (by decide), if_neg (by rw [(nc_eq hM).1, show (6 : Int32) = nI 6 from rfl]; intro q; have := (nI_eq (by omega) (by omega)).mp q; omega), M_childComes (by rw [Out1 a3 (by decide)]; exact hM) (by rw [Out1 a3 (by decide)]; exact h8), bd_s, Out1 a3 (by decide)]
        · rw [Out1 a3 (by decide)]
          exact h.c a3 (by rw [a2]; exact newC_B hC (by omega) (by omega) (by omega)) (newC_B hM h8 (by omega) (by omega)) (by rw [a2]; exact sim_newC hs hM h8 _ _) (Sp_newC hp _ _)
      · have e8 : ncS (v 1) = 6 := by have := (nc_eq hM).2; omega
        refine st_f1 h ?_ (fun v1 e1 => ?_)
        · unfold F_X5_child F_X1_hasAllChildren
          rw [upTo (b := 15) 15 rfl (by decide), bd_s, if_pos ha, upTo (b := 9) 9 rfl (by decide), bd_s, if_pos hb, rd_3 25 v, (nc_eq hC).1, e, e8, if_neg (by decide), bd_s, if_pos rfl]
        · unfold F_X6_child
          rw [M_isCell, bd_s, if_pos ha, wit (b := 9) 9 rfl (by decide), bd_s, if_pos hb, e1 1 (by decide), (nc_eq hM).1, e8, if_pos (show nI 6 = 6 from rfl)]
    · refine st_f0 h ?_ (fun v1 e1 => ?_)
      · unfold F_X5_child
        rw [upTo (b := 15) 15 rfl (by decide), bd_s, if_pos ha, upTo (b := 9) 9 rfl (by decide), bd_s, if_neg hb]
      · unfold F_X6_child
        rw [M_isCell, bd_s, if_pos ha, wit (b := 9) 9 rfl (by decide), bd_s, if_neg hb]
  · refine st_f0 h ?_ (fun v1 e1 => ?_)
    · unfold F_X5_child
      rw [upTo (b := 15) 15 rfl (by decide), bd_s, if_neg ha]
    · unfold F_X6_child
      rw [M_isCell, bd_s, if_neg ha]
/-- what is told of a keeper, by what, on a row -/
def toldS (c : RW) (i : Nat) (w : Nat) : Int32 := if w = 6 then noteS c i else if w = 7 then rcS (c (ki i 0)) (c (ki i 3)) (c (ki i 4)) (fogS c) else if w = 8 then tmS (c (ki i 0)) else if w = 9 then tiS (c (ki i 0)) else if w = 10 then tuS (c (ki i 0)) (c 0) else c (ki i w)
theorem nIl {a b : Nat} (ha : a < 2 ^ 31) (hb : b < 2 ^ 31) : (nI a = nI b) = (a = b) := propext (nI_eq ha hb)
theorem C_told {p : Nat} {v : VV} (hI : InvB (rowOf p v)) {i w : Nat} (hi : i < 8) (hw : w < 11) : F_X1_toldOfKeeper p (nI i) (nI w) v = some (toldS (rowOf p v) i w) := by
  unfold F_X1_toldOfKeeper toldS
  rw [gu_nI hi (by decide), cl_nI (by omega)]
  simp only [show (6 : Int32) = nI 6 from rfl, show (7 : Int32) = nI 7 from rfl, show (8 : Int32) = nI 8 from rfl, show (9 : Int32) = nI 9 from rfl, show (10 : Int32) = nI 10 from rfl, nIl (show w < 2 ^ 31 by omega) (show (6 : Nat) < 2 ^ 31 by decide), nIl (show w < 2 ^ 31 by omega) (show (7 : Nat) < 2 ^ 31 by decide), nIl (show w < 2 ^ 31 by omega) (show (8 : Nat) < 2 ^ 31 by decide), nIl (show w < 2 ^ 31 by omega) (show (9 : Nat) < 2 ^ 31 by decide), nIl (show w < 2 ^ 31 by omega) (show (10 : Nat) < 2 ^ 31 by decide)]
  rw [C_gives p v hi, C_thick hI, C_tempo hI hi, C_tires hI hi, C_turns p v hi]
  refine if_some (fun _ => rfl) (fun _ => if_some (fun _ => ?_) (fun _ => if_some (fun _ => rfl) (fun _ => if_some (fun _ => rfl) (fun _ => if_some (fun _ => rfl) (fun _ => ?_)))))
  · rw [bd_s, C_reaches p v hi]; rfl
  · rw [gu_nI (by omega) (by decide), cl_nI (by omega), rd_k p v hi (by omega)]
theorem M_told {v : VV} (hI : InvB (v 1)) {i w : Nat} (hi : i < 8) (hw : w < 11) : F_X6_told (nI i) (nI w) v = some (toldS (v 1) i w) := by
  obtain ⟨d, hd, e1, e2, -⟩ := M_placeNow hI
  unfold F_X6_told toldS
  simp only [show (6 : Int32) = nI 6 from rfl, show (7 : Int32) = nI 7 from rfl, show (8 : Int32) = nI 8 from rfl, show (9 : Int32) = nI 9 from rfl, show (10 : Int32) = nI 10 from rfl, nIl (show w < 2 ^ 31 by omega) (show (6 : Nat) < 2 ^ 31 by decide), nIl (show w < 2 ^ 31 by omega) (show (7 : Nat) < 2 ^ 31 by decide), nIl (show w < 2 ^ 31 by omega) (show (8 : Nat) < 2 ^ 31 by decide), nIl (show w < 2 ^ 31 by omega) (show (9 : Nat) < 2 ^ 31 by decide), nIl (show w < 2 ^ 31 by omega) (show (10 : Nat) < 2 ^ 31 by decide)]
  rw [M_gives hi, e1, M_tempo hi, M_tires hi, M_turns hi]
  refine if_some (fun _ => rfl) (fun _ => if_some (fun _ => ?_) (fun _ => if_some (fun _ => rfl) (fun _ => if_some (fun _ => rfl) (fun _ => if_some (fun _ => rfl) (fun _ => ?_)))))
  · rw [bd_s, gu_nI (by omega) (by decide), cl_nI (by omega), M_reaches hi, bd_s, e2]
  · rw [kIs hi (by omega)]; rfl
theorem sim_told {c m : RW} (h : sim c m) (hI : InvB m) {i w : Nat} (hi : i < nkS m) (hw : w < 11) : toldS c i w = toldS m i w := by
  unfold toldS
  rw [sim_note h hi, sim_fog h hI, h.1 0 (by decide), h.2.1 i hi 0 (by decide), h.2.1 i hi 3 (by decide), h.2.1 i hi 4 (by decide)]
  by_cases q : w < 6
  · rw [h.2.1 i hi w q]
  · have hc : w = 6 ∨ w = 7 ∨ w = 8 ∨ w = 9 ∨ w = 10 := by omega
    rcases hc with rfl | rfl | rfl | rfl | rfl <;> rfl
theorem st_of {v : VV} (h : Rel v) (a b : Int32) : StP (F_X5_of a b) (F_X6_of a b) v := by
  obtain ⟨hC, hM, hs, hp⟩ := h.1
  have e := sim_nk hs
  have h8 := (nk_eq hM).2
  by_cases ha : inR a (nkS (v 1)) = true
  · by_cases hb : inR b 11 = true
    · obtain ⟨i, hi, rfl⟩ := inR_t ha (by omega)
      obtain ⟨w, hw, rfl⟩ := inR_t hb (by decide)
      refine ⟨toldS (v 1) i w, v, v, ?_, ?_, h⟩
      · unfold F_X5_of
        rw [C_isKeeper hC, bd_s, e, if_pos ha, upTo (b := 10) 10 rfl (by decide), bd_s, if_pos hb, C_told hC (by omega) hw, bd_s, sim_told hs hM hi hw]
      · unfold F_X6_of
        rw [M_isKeeper hM, bd_s, if_pos ha, wit (b := 10) 10 rfl (by decide), bd_s, if_pos hb, M_told hM (by omega) hw, bd_s]
    · refine st_f0 h ?_ (fun v1 e1 => ?_)
      · unfold F_X5_of
        rw [C_isKeeper hC, bd_s, e, if_pos ha, upTo (b := 10) 10 rfl (by decide), bd_s, if_neg hb]
      · unfold F_X6_of
        rw [M_isKeeper (by rw [e1 1 (by decide)]; exact hM), bd_s, e1 1 (by decide), if_pos ha, wit (b := 10) 10 rfl (by decide), bd_s, if_neg hb]
  · refine st_f0 h ?_ (fun v1 e1 => ?_)
    · unfold F_X5_of
      rw [C_isKeeper hC, bd_s, e, if_neg ha]
    · unfold F_X6_of
      rw [M_isKeeper (by rw [e1 1 (by decide)]; exact hM), bd_s, e1 1 (by decide), if_neg ha]
