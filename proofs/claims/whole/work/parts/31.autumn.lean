/-! PURE PART 12: autumns -/
theorem u_nI (u : UInt32) : u.toInt32 = nI u.toNat := by
  apply Int32.toBitVec_inj.1
  show u.toBitVec = BitVec.ofNat 32 u.toBitVec.toNat
  simp
def dwR (x : Int32) : Int32 := (x.toUInt32 >>> ((8 : Int32).toUInt32 &&& Int32.toUInt32 31)).toInt32
theorem dwR_bd (x : Int32) : ∃ n, n < 2 ^ 24 ∧ dwR x = nI n := by
  refine ⟨(x.toUInt32 >>> ((8 : Int32).toUInt32 &&& Int32.toUInt32 31)).toNat, ?_, u_nI _⟩
  rw [UInt32.toNat_shiftRight, show (((8 : Int32).toUInt32 &&& Int32.toUInt32 31).toNat % 32) = 8 by decide, Nat.shiftRight_eq_div_pow]
  have := x.toUInt32.toNat_lt
  omega
def sdS (x : Int32) : Int32 := x * 1103515245 + 12345
def dwS (c : RW) : RW := upd c 2 (sdS (c 2))
def mdS (x : Int32) (d : Nat) : Int32 := x - x / nI d * nI d
theorem md_bd {n d : Nat} (hn : n < 2 ^ 24) (h0 : 0 < d) (hd : d < 100) : mdS (nI n) d = nI (n % d) := pk_rem (by omega) h0 (by omega)
/-- a day of autumn before it passes: the fog drawn, a child drawn rows on -/
def autA (c : RW) : RW := upd (dwS c) (4 + (c 0 - c 0 / 6 * 6).toNatClampNeg) (mdS (dwR (sdS (c 2))) 10)
def autK (c : RW) : Nat := (mdS (dwR (sdS (sdS (c 2)))) 8).toNatClampNeg
def autB (c : RW) : RW := let d := dwS (autA c); if autK c < ncS c then upd d (ci (autK c) 0) ((d (ci (autK c) 0) + 1) - (d (ci (autK c) 0) + 1) / 16 * 16) else d
def autS (c : RW) : RW := dayS (autB c)
theorem dwS_B {c : RW} (h : InvB c) : InvB (dwS c) := updX h (Or.inl rfl) _
theorem autA_B {c : RW} (h : InvB c) : InvB (autA c) := by
  obtain ⟨d, hd, ed⟩ := h.1
  obtain ⟨n, hn, en⟩ := dwR_bd (sdS (c 2))
  unfold autA
  rw [ed, day6 hd, cl_nI (by omega), en, md_bd hn (by decide) (by decide)]
  exact updL (dwS_B h) (by omega) (by omega)
theorem autA_2 {c : RW} (h : InvB c) : autA c 2 = sdS (c 2) := by
  unfold autA
  rw [upd_ne _ _ (by omega)]
  exact upd_self _ _ _
theorem autA_y {c : RW} (h : InvB c) {y : Nat} (hy : y < 4 ∨ 10 ≤ y) (h2 : y ≠ 2) : autA c y = c y := by
  obtain ⟨d, hd, ed⟩ := h.1
  unfold autA
  rw [ed, day6 hd, cl_nI (by omega), upd_ne _ _ (by omega)]
  exact upd_ne _ _ h2
theorem autK_bd (c : RW) : autK c < 8 ∧ mdS (dwR (sdS (sdS (c 2)))) 8 = nI (autK c) := by
  obtain ⟨n, hn, en⟩ := dwR_bd (sdS (sdS (c 2)))
  unfold autK
  rw [en, md_bd hn (by decide) (by decide), cl_nI (by omega)]
  exact ⟨by omega, rfl⟩
theorem row16 : ∀ x, x ≤ 15 → (nI x + 1) - (nI x + 1) / 16 * 16 = nI ((x + 1) % 16) ∧ (if 15 ≤ nI x then (0 : Int32) else nI x + 1) = nI ((x + 1) % 16) := by decide +kernel
theorem autB_B {c : RW} (h : InvB c) : InvB (autB c) := by
  have h6 := (nc_eq h).2
  have hd := dwS_B (autA_B h)
  unfold autB
  dsimp only
  split
  · rename_i q
    obtain ⟨x, hx, ex⟩ := hd.2.2.2.2.2 (autK c) (by omega) 0 (by decide)
    have hx : x ≤ 15 := hx
    rw [ex, (row16 x hx).1]
    exact updC hd (by omega) (by decide) (show (x + 1) % 16 ≤ 15 by omega)
  · exact hd
theorem autS_B {c : RW} (h : InvB c) : InvB (autS c) := dayS_B (autB_B h)
theorem sim_autA {c m : RW} (h : sim c m) (hI : InvB m) : sim (autA c) (autA m) := by
  obtain ⟨d, hd, ed⟩ := hI.1
  unfold autA dwS
  rw [h.1 0 (by decide), h.1 2 (by decide), ed, day6 hd, cl_nI (by omega)]
  exact sim_updY (sim_updY h (by decide) (by decide) (by decide) _) (by omega) (by omega) (by omega) _
theorem sim_autB {c m : RW} (h : sim c m) (hI : InvB m) : sim (autB c) (autB m) := by
  have hA := sim_autA h hI
  have hd : sim (dwS (autA c)) (dwS (autA m)) := by
    unfold dwS
    rw [hA.1 2 (by decide)]
    exact sim_updY hA (by decide) (by decide) (by decide) _
  have ek : autK c = autK m := by unfold autK; rw [h.1 2 (by decide)]
  have en : ncS (dwS (autA m)) = ncS m := by
    show (dwS (autA m) 3).toNatClampNeg = _
    unfold dwS
    rw [upd_ne _ _ (by decide), autA_y hI (by omega) (by decide)]
  unfold autB
  dsimp only
  rw [ek, sim_nc h]
  split
  · rename_i q
    rw [hd.2.2 (autK m) (by omega) 0 (by decide)]
    exact sim_updC hd (by decide) _
  · exact hd
theorem sim_autS {c m : RW} (h : sim c m) (hI : InvB m) : sim (autS c) (autS m) := sim_day (sim_autB h hI) (autB_B hI)
theorem Sp_autB {m : RW} (h : SpOK m) (hI : InvB m) : SpOK (autB m) := by
  have e : ∀ y, (y = 1 ∨ (10 ≤ y ∧ y < 20)) → autB m y = m y := by
    intro y hy
    have ed : dwS (autA m) y = m y := by
      unfold dwS
      rw [upd_ne _ _ (by omega), autA_y hI (by omega) (by omega)]
    unfold autB
    split
    · rw [upd_ne _ _ (by simp only [ci]; omega)]; exact ed
    · exact ed
  exact Sp_cg h (e 1 (by omega)) (fun j hj => e _ (by omega))
/-! the class -/
theorem C_draw (p : Nat) (v : VV) : ∃ v1, F_X1_draw p v = some (dwR (sdS (rowOf p v 2)), v1) ∧ rowOf p v1 = dwS (rowOf p v) ∧ Out p v v1 := by
  obtain ⟨w1, w2⟩ := wr_2 p v (sdS (rowOf p v 2))
  refine ⟨pu v p 7 (sdS (rowOf p v 2)), ?_, w1, w2⟩
  unfold F_X1_draw
  rw [pu_self, upd_self, rd_2 p v]
  rfl
theorem C_rowOn {p : Nat} {v : VV} (hI : InvB (rowOf p v)) {j : Nat} (hj : j < 6) : ∃ v1, F_X0_rowOn ((p + 4) + 17 + j) v = some v1 ∧ rowOf p v1 = upd (rowOf p v) (ci j 0) ((rowOf p v (ci j 0) + 1) - (rowOf p v (ci j 0) + 1) / 16 * 16) ∧ Out p v v1 := by
  obtain ⟨x, hx, ex⟩ := hI.2.2.2.2.2 j hj 0 (by decide)
  have hx : x ≤ 15 := hx
  obtain ⟨r1, r2⟩ := row16 x hx
  unfold F_X0_rowOn
  rw [rd_c p v hj (by decide), ex, r1, ← r2]
  split
  · exact ⟨_, rfl, (wr_c p v hj (by decide) _).1, (wr_c p v hj (by decide) _).2⟩
  · exact ⟨_, rfl, (wr_c p v hj (by decide) _).1, (wr_c p v hj (by decide) _).2⟩
theorem itr_k {α : Type} (f : α → α) : ∀ (k i j : Nat) (c : α), itr (fun _ => f) i k c = itr (fun _ => f) j k c
  | 0, _, _, _ => rfl
  | k + 1, i, j, c => by rw [itr_s, itr_s]; exact itr_k f k (i + 1) (j + 1) (f c)
theorem C_aut1 {v : VV} (hI : InvB (rowOf 25 v)) (n : Nat) (N i : Int32) (hi : ¬ N ≤ i) : ∃ v1, L_X5_autumn_39 (n + 1) N i v = L_X5_autumn_39 n N (i + 1) v1 ∧ rowOf 25 v1 = autS (rowOf 25 v) ∧ Out 25 v v1 := by
  obtain ⟨d, hd, ed⟩ := hI.1
  have hI' := hI
  have h6 := (nc_eq hI).2
  obtain ⟨w1, a1, a2, a3⟩ := C_draw 25 v
  obtain ⟨b1, b2⟩ := wr_l 25 w1 (j := d % 6) (by omega) (mdS (dwR (sdS (rowOf 25 v 2))) 10)
  have eA : rowOf 25 (pu w1 (25 + 1) (d % 6) (mdS (dwR (sdS (rowOf 25 v 2))) 10)) = autA (rowOf 25 v) := by
    rw [b1, a2]
    unfold autA
    rw [ed, day6 hd, cl_nI (by omega)]
  generalize hw2 : pu w1 (25 + 1) (d % 6) (mdS (dwR (sdS (rowOf 25 v 2))) 10) = w2 at eA b2
  obtain ⟨w3, c1, c2, c3⟩ := C_draw 25 w2
  rw [eA] at c1 c2
  rw [autA_2 hI] at c1
  have o3 : Out 25 v w3 := (a3.trans b2).trans c3
  have hI3 : InvB (rowOf 25 w3) := by rw [c2]; exact dwS_B (autA_B hI)
  have e3 : rowOf 25 w3 3 = rowOf 25 v 3 := by
    rw [c2]
    unfold dwS
    rw [upd_ne _ _ (by decide), autA_y hI (by omega) (by decide)]
  obtain ⟨k1, k2⟩ := autK_bd (rowOf 25 v)
  rw [L_X5_autumn_39, if_neg hi, a1, bd_s]
  dsimp only
  rw [rd_0 25 v, ed, day6 hd, gu_nI (by omega) (by decide), cl_nI (by omega), show dwR (sdS (rowOf 25 v 2)) - dwR (sdS (rowOf 25 v 2)) / 10 * 10 = mdS (dwR (sdS (rowOf 25 v 2))) 10 from rfl, hw2, c1, bd_s]
  dsimp only
  have k3 : dwR (sdS (sdS (rowOf 25 v 2))) - dwR (sdS (sdS (rowOf 25 v 2))) / 8 * 8 = nI (autK (rowOf 25 v)) := k2
  have e5 : w3 25 5 = nI (ncS (rowOf 25 v)) := by rw [rd_3 25 w3]; exact e3.trans (nc_eq hI).1
  rw [k3]
  by_cases q : ncS (rowOf 25 v) ≤ autK (rowOf 25 v)
  · rw [if_pos (e5 ▸ nI_le q (by omega))]
    obtain ⟨w4, d1, d2, d3⟩ := C_day hI3
    rw [d1, bd_s]
    refine ⟨w4, rfl, ?_, o3.trans d3⟩
    rw [d2, c2]
    unfold autS autB
    dsimp only
    rw [if_neg (by omega)]
  · have q' : autK (rowOf 25 v) < ncS (rowOf 25 v) := by omega
    rw [if_neg (e5 ▸ nI_ge q' (by omega)), gu_nI (by omega) (by decide), cl_nI (by omega)]
    obtain ⟨w4, d1, d2, d3⟩ := C_rowOn hI3 (j := autK (rowOf 25 v)) (by omega)
    rw [d1, bd_s]
    have e4 : rowOf 25 w4 = autB (rowOf 25 v) := by
      rw [d2, c2]
      unfold autB
      dsimp only
      rw [if_pos q']
    obtain ⟨w5, f1, f2, f3⟩ := C_day (v := w4) (p := 25) (by rw [e4]; exact autB_B hI)
    rw [f1, bd_s]
    refine ⟨w5, rfl, ?_, (o3.trans d3).trans f3⟩
    rw [f2, e4]
    rfl
theorem C_autL {N : Nat} (hN : N ≤ 20) : ∀ (k n i : Nat) (v : VV), i + k = N → k < n → InvB (rowOf 25 v) → ∃ v1, L_X5_autumn_39 n (nI N) (nI i) v = some (lrnS (rowOf 25 v1), v1) ∧ rowOf 25 v1 = itr (fun _ => autS) i k (rowOf 25 v) ∧ Out 25 v v1 := by
  intro k
  induction k with
  | zero =>
    intro n i v hik hn hI
    obtain ⟨n, rfl⟩ : ∃ z, n = z + 1 := ⟨n - 1, by omega⟩
    refine ⟨v, ?_, rfl, Out.rf⟩
    rw [L_X5_autumn_39, if_pos (nI_le (by omega) (by omega)), C_lrn hI, bd_s]
  | succ k ih =>
    intro n i v hik hn hI
    obtain ⟨n, rfl⟩ : ∃ z, n = z + 1 := ⟨n - 1, by omega⟩
    obtain ⟨w, a1, a2, a3⟩ := C_aut1 hI n (nI N) (nI i) (nI_ge (by omega) (by omega))
    rw [a1, nI_1]
    obtain ⟨v1, b1, b2, b3⟩ := ih n (i + 1) w (by omega) (by omega) (by rw [a2]; exact autS_B hI)
    exact ⟨v1, b1, by rw [b2, a2, itr_s], a3.trans b3⟩
/-! the reference -/
theorem M_drawn (v : VV) : F_X6_drawn v = some (dwR (sdS (v 1 2)), va_up v 1 (dwS (v 1))) := by
  unfold F_X6_drawn
  rw [pu_self, upd_self]
  rfl
theorem M_aut1 {v : VV} (hI : InvB (v 1)) (n : Nat) (N i : Int32) (hi : ¬ N ≤ i) : L_X6_autumn_39 (n + 1) N i v = L_X6_autumn_39 n N (i + 1) (va_up v 1 (autS (v 1))) := by
  obtain ⟨d, hd, ed⟩ := hI.1
  have h6 := (nc_eq hI).2
  obtain ⟨k1, k2⟩ := autK_bd (v 1)
  have hP : F_X6_placeNow (va_up v 1 (dwS (v 1))) = some (nI (4 + d % 6)) := by
    unfold F_X6_placeNow
    rw [va_up_self]
    unfold dwS
    rw [upd_ne _ _ (by decide), ed, day6 hd, show (4 : Int32) = nI 4 from rfl, nI_add]
  have eA : upd (dwS (v 1)) (4 + d % 6) (mdS (dwR (sdS (v 1 2))) 10) = autA (v 1) := by
    unfold autA
    rw [ed, day6 hd, cl_nI (by omega)]
  have hd3 := dwS_B (autA_B hI)
  have e3 : ncS (dwS (autA (v 1))) = ncS (v 1) := by
    show (dwS (autA (v 1)) 3).toNatClampNeg = _
    unfold dwS
    rw [upd_ne _ _ (by decide), autA_y hI (by omega) (by decide)]
  rw [L_X6_autumn_39, if_neg hi, M_drawn, bd_s]
  dsimp only
  rw [hP, bd_s, gu_nI (by omega) (by decide), cl_nI (by omega), pu_of_up, show dwR (sdS (v 1 2)) - dwR (sdS (v 1 2)) / 10 * 10 = mdS (dwR (sdS (v 1 2))) 10 from rfl, eA, M_drawn, bd_s]
  dsimp only
  rw [va_up_self, autA_2 hI, up_up, show dwR (sdS (sdS (v 1 2))) - dwR (sdS (sdS (v 1 2))) / 8 * 8 = mdS (dwR (sdS (sdS (v 1 2)))) 8 from rfl, k2, M_isChild (by rw [va_up_self]; exact hd3), bd_s, va_up_self, e3]
  by_cases q : autK (v 1) < ncS (v 1)
  · rw [if_pos (inR_nI q (by omega)), cAt0, bd_s, cIs0 (by omega), bd_s, gu_nI (ci_lt (by omega) (by decide)) (by decide), cl_nI (Nat.lt_trans (ci_lt (i := autK (v 1)) (f := 0) (by omega) (by decide)) (by decide)), pu_of_up, va_up_self]
    have eB : upd (dwS (autA (v 1))) (ci (autK (v 1)) 0) ((dwS (autA (v 1)) (ci (autK (v 1)) 0) + 1) - (dwS (autA (v 1)) (ci (autK (v 1)) 0) + 1) / 16 * 16) = autB (v 1) := by
      unfold autB
      dsimp only
      rw [if_pos q]
    rw [eB, M_day (by rw [va_up_self]; exact autB_B hI), bd_s, va_up_self, up_up]
    rfl
  · have nin : ¬ inR (nI (autK (v 1))) (ncS (v 1)) = true := by
      intro z
      have := (of_decide_eq_true z : 0 ≤ (nI (autK (v 1))).toInt ∧ _)
      rw [nI_toInt (by omega)] at this
      omega
    have eB : dwS (autA (v 1)) = autB (v 1) := by
      unfold autB
      dsimp only
      rw [if_neg q]
    rw [if_neg nin, eB, M_day (by rw [va_up_self]; exact autB_B hI), bd_s, va_up_self, up_up]
    rfl
theorem M_autL {N : Nat} (hN : N ≤ 20) : ∀ (k n i : Nat) (v : VV), i + k = N → k < n → InvB (v 1) → L_X6_autumn_39 n (nI N) (nI i) v = some (lrnS (itr (fun _ => autS) i k (v 1)), va_up v 1 (itr (fun _ => autS) i k (v 1))) := by
  intro k
  induction k with
  | zero =>
    intro n i v hik hn hI
    obtain ⟨n, rfl⟩ : ∃ z, n = z + 1 := ⟨n - 1, by omega⟩
    rw [L_X6_autumn_39, if_pos (nI_le (by omega) (by omega)), M_lrn hI, bd_s, itr_0, up_id]
  | succ k ih =>
    intro n i v hik hn hI
    obtain ⟨n, rfl⟩ : ∃ z, n = z + 1 := ⟨n - 1, by omega⟩
    rw [M_aut1 hI n (nI N) (nI i) (nI_ge (by omega) (by omega)), nI_1, ih n (i + 1) _ (by omega) (by omega) (by rw [va_up_self]; exact autS_B hI), va_up_self, up_up, itr_s]
theorem aut_two {c m : RW} (h : sim c m) (hI : InvB m) (hp : SpOK m) (k : Nat) : sim (itr (fun _ => autS) 0 k c) (itr (fun _ => autS) 0 k m) ∧ InvB (itr (fun _ => autS) 0 k m) ∧ SpOK (itr (fun _ => autS) 0 k m) :=
  itr_two (P := fun a b => sim a b ∧ InvB b ∧ SpOK b) k 0 c m (fun _ a b _ _ q => ⟨sim_autS q.1 q.2.1, autS_B q.2.1, Sp_day (Sp_autB q.2.2 q.2.1)⟩) ⟨h, hI, hp⟩
theorem st_autumn {v : VV} (h : Rel v) (a : Int32) : StP (F_X5_autumn a) (F_X6_autumn a) v := by
  obtain ⟨hC, hM, hs, hp⟩ := h.1
  by_cases ha : in1 a 20 = true
  · obtain ⟨N, h1, hN, rfl⟩ := in1_t ha (by decide)
    by_cases hd : v 1 0 + nI N ≤ 99999
    · obtain ⟨v1, a1, a2, a3⟩ := C_autL hN N fu 0 v (by omega) (by unfold fu; omega) hC
      obtain ⟨s1, s2, s3⟩ := aut_two hs hM hp N
      have e1 : v1 1 = v 1 := Out1 a3 (by decide)
      have hI1 : InvB (rowOf 25 v1) := by rw [a2]; exact itr_keep (P := InvB) _ _ _ (fun _ _ _ _ q => autS_B q) hC
      rw [← a2] at s1
      refine ⟨lrnS (rowOf 25 v1), v1, va_up v1 1 (itr (fun _ => autS) 0 N (v 1)), ?_, ?_, h.c a3 hI1 s2 s1 s3⟩
      · unfold F_X5_autumn
        rw [cl1 (b := 20) 20 rfl (by decide), if_pos ha, rd_0 25 v, hs.1 0 (by decide), if_pos hd, nI0, a1]
      · unfold F_X6_autumn
        rw [wit1 (b := 20) 20 rfl (by decide), bd_s, if_pos ha, e1, if_pos hd, nI0, M_autL hN N fu 0 v1 (by omega) (by unfold fu; omega) (by rw [e1]; exact hM), e1, sim_lrn s1]
    · refine st_f4 h ?_ (fun v1 e1 => ?_)
      · unfold F_X5_autumn
        rw [cl1 (b := 20) 20 rfl (by decide), if_pos ha, rd_0 25 v, hs.1 0 (by decide), if_neg hd]
      · unfold F_X6_autumn
        rw [wit1 (b := 20) 20 rfl (by decide), bd_s, if_pos ha, e1 1 (by decide), if_neg hd]
  · refine st_f0 h ?_ (fun v1 e1 => ?_)
    · unfold F_X5_autumn
      rw [cl1 (b := 20) 20 rfl (by decide), if_neg ha]
    · unfold F_X6_autumn
      rw [wit1 (b := 20) 20 rfl (by decide), bd_s, if_neg ha]
