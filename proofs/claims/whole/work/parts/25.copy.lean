/-! PURE PART 6: rows copied, thought of and put back -/
def cp92 (f g : RW) : RW := fun y => if y < 92 then f y else g y
theorem M_copyL {a b : Nat} (hab : a ≠ b) (ha : ln a = 92) (hb : ln b = 92) : ∀ (k n i : Nat) (v : VV), i + k = 92 → k < n → L_X6_copyRow_2 n a b (nI i) v = some (va_up v b (fun y => if i ≤ y ∧ y < 92 then v a y else v b y)) := by
  intro k
  induction k with
  | zero =>
    intro n i v hik hn
    obtain ⟨n, rfl⟩ : ∃ z, n = z + 1 := ⟨n - 1, by omega⟩
    rw [L_X6_copyRow_2, if_pos (by rw [show (92 : Int32) = nI 92 from rfl]; exact nI_le (by omega) (by omega))]
    congr 1
    rw [show (fun y => if i ≤ y ∧ y < 92 then v a y else v b y) = v b from funext (fun y => if_neg (by omega)), up_id]
  | succ k ih =>
    intro n i v hik hn
    obtain ⟨n, rfl⟩ : ∃ z, n = z + 1 := ⟨n - 1, by omega⟩
    rw [L_X6_copyRow_2, if_neg (by rw [show (92 : Int32) = nI 92 from rfl]; exact nI_ge (by omega) (by omega)), ha, hb, gu_nI (by omega) (by decide), gu_nI (by omega) (by decide), cl_nI (by omega), nI_1, ih n (i + 1) _ (by omega) (by omega), pu_up, up_up, va_up_ne _ _ hab, va_up_self]
    congr 2
    funext y
    by_cases e : y = i
    · rw [e, if_neg (by omega), if_pos (by omega), upd_self]
    · rw [upd_ne _ _ e]
      by_cases h : i ≤ y ∧ y < 92
      · rw [if_pos h, if_pos (by omega)]
      · rw [if_neg h, if_neg (by omega)]
theorem M_copy {a b : Nat} (hab : a ≠ b) (ha : ln a = 92) (hb : ln b = 92) (v : VV) : F_X6_copyRow a b v = some (va_up v b (cp92 (v a) (v b))) := by
  unfold F_X6_copyRow
  rw [show (0 : Int32) = nI 0 from rfl, M_copyL hab ha hb 92 fu 0 v (by omega) (by unfold fu; omega)]
  congr 2
  funext y
  unfold cp92
  by_cases h : y < 92
  · rw [if_pos (by omega), if_pos h]
  · rw [if_neg (by omega), if_neg h]
theorem oneS_big {c : RW} (hI : InvB c) {y : Nat} (hy : 92 ≤ y) {i : Nat} (hi : i < 8) (f : Int32) : oneS f i c y = c y := by
  have h6 := (nc_eq hI).2
  unfold oneS
  split
  · unfold restS; rw [upd_ne _ _ (by simp only [ki]; omega)]
  · split
    · unfold blowS
      rw [kupS_lt (by simp only [ki]; omega) (by simp only [ki]; omega)]
      refine itr_keep (P := fun c' : RW => c' y = c y) _ _ _ (fun j c' _ hj h => ?_) rfl
      unfold hrS
      split
      · have e2 : y ≠ ci j 2 := by simp only [ci]; omega
        have e3 : y ≠ ci j 3 := by simp only [ci]; omega
        rw [← h]
        unfold writeS
        (repeat' split) <;> simp only [upd_ne _ _ e3, upd_ne _ _ e2]
      · exact h
    · rfl
theorem dayS_big {c : RW} (hI : InvB c) {y : Nat} (hy : 92 ≤ y) : dayS c y = c y := by
  have h8 := (nk_eq hI).2
  unfold dayS
  show upd _ 0 _ y = _
  rw [upd_ne _ _ (by omega)]
  exact (itr_keep (P := fun c' : RW => InvB c' ∧ c' y = c y) _ _ _ (fun j c' _ hj h => ⟨oneS_B h.1 (by omega) _, by rw [oneS_big h.1 hy (by omega)]; exact h.2⟩) ⟨hI, rfl⟩).2
theorem daysS_big : ∀ (n : Nat) {c : RW}, InvB c → ∀ {y : Nat}, 92 ≤ y → daysS n c y = c y
  | 0, _, _, _, _ => rfl
  | n + 1, _, hI, _, hy => (daysS_big n (dayS_B hI) hy).trans (dayS_big hI hy)
theorem M_putBack {m a m' : RW} {v : VV} (h3 : v 3 = cp92 m a) (h1 : v 1 = m') (hb : ∀ y, 92 ≤ y → m' y = m y) (r : Int32) : F_X6_putBack r v = some (r, va_up v 1 m) := by
  unfold F_X6_putBack
  rw [M_copy (by decide) rfl rfl, bd_s]
  congr 3
  funext y
  rw [h3, h1]
  unfold cp92
  by_cases h : y < 92
  · rw [if_pos h, if_pos h]
  · rw [if_neg h]; exact hb y (by omega)
theorem up_comm (v : VV) {i j : Nat} (h : i ≠ j) (a b : RW) : va_up (va_up v i a) j b = va_up (va_up v j b) i a := by
  funext k
  unfold va_up
  by_cases e1 : k = j <;> by_cases e2 : k = i
  · omega
  · rw [if_pos e1, if_neg e2, if_pos e1]
  · rw [if_neg e1, if_pos e2, if_pos e2]
  · rw [if_neg e1, if_neg e2, if_neg e2, if_neg e1]
/-- the memory while a thought runs: aside kept, the row m' now -/
def thk (v : VV) (m' : RW) : VV := va_up (va_up v 3 (cp92 (v 1) (v 3))) 1 m'
theorem thk_1 (v : VV) (m' : RW) : thk v m' 1 = m' := va_up_self _ _ _
theorem thk_3 (v : VV) (m' : RW) : thk v m' 3 = cp92 (v 1) (v 3) := by unfold thk; rw [va_up_ne _ _ (by decide), va_up_self]
theorem thk_0 (v : VV) : va_up v 3 (cp92 (v 1) (v 3)) = thk v (v 1) := by
  unfold thk
  rw [up_comm v (by decide), up_id]
theorem thk_up (v : VV) (m' m'' : RW) : va_up (thk v m') 1 m'' = thk v m'' := by unfold thk; rw [up_up]
theorem M_begin (v : VV) : F_X6_copyRow 1 3 v = some (thk v (v 1)) := by rw [M_copy (by decide) rfl rfl, thk_0]
theorem M_back {v : VV} {m' : RW} (hb : ∀ y, 92 ≤ y → m' y = v 1 y) (r : Int32) : F_X6_putBack r (thk v m') = some (r, thk v (v 1)) := by
  rw [M_putBack (thk_3 v m') (thk_1 v m') hb, thk_up]
theorem M_behind {v : VV} (hI : InvB (v 1)) {x N : Nat} (hx : x < 92) (hN : N ≤ 200) : F_X6_behind (nI x) (nI N) v = some (daysS N (v 1) x, thk v (v 1)) := by
  unfold F_X6_behind
  rw [M_begin, bd_s, M_daysGo (by rw [thk_1]; exact hI) hN, bd_s, gu_nI hx (by decide), cl_nI (by omega), thk_1, thk_up, thk_1, M_back (fun y hy => daysS_big N hI hy), bd_s]
/-! the class: a coast becomes another -/
theorem cpy_row {p q : Nat} (hpq : p + 33 ≤ q ∨ q + 33 ≤ p) (v : VV) {a : Nat} (ha : a < 33) {N : Nat} (hN : N < 2 ^ 31) : rowOf q (cpy v (p + a) (q + a) 0 0 (nI N)) = (fun y => if y < 92 ∧ plo y = a ∧ slo y < N then rowOf p v y else rowOf q v y) ∧ Out q v (cpy v (p + a) (q + a) 0 0 (nI N)) := by
  have e0 : (0 : Int32).toNatClampNeg = 0 := rfl
  refine ⟨?_, fun i hi => va_up_ne _ _ (by omega)⟩
  funext y
  unfold rowOf cpy va_cpy
  by_cases hy : y < 92
  · simp only [if_pos hy]
    by_cases e : plo y = a
    · rw [e, va_up_self, e0, cl_nI hN]
      by_cases h2 : slo y < N
      · rw [if_pos (by omega), if_pos ⟨hy, rfl, h2⟩, show 0 + (slo y - 0) = slo y by omega]
      · rw [if_neg (by omega), if_neg (fun z => h2 z.2.2)]
    · rw [va_up_ne _ _ (by omega), if_neg (fun z => e z.2.1)]
  · simp only [if_neg hy]
    rw [if_neg (fun z => hy z.1)]
theorem Inv_mix {c d : RW} (hc : InvB c) (hd : InvB d) (P : Nat → Prop) (dec : ∀ y, Decidable (P y)) : InvB (fun y => @ite _ (P y) (dec y) (c y) (d y)) := by
  obtain ⟨c0, c1, c3, c4, c5, c6⟩ := hc
  obtain ⟨d0, d1, d3, d4, d5, d6⟩ := hd
  refine ⟨?_, ?_, ?_, fun j hj => ?_, fun i hi f hf => ?_, fun j hj f hf => ?_⟩ <;> dsimp only
  · split
    · exact c0
    · exact d0
  · split
    · exact c1
    · exact d1
  · split
    · exact c3
    · exact d3
  · split
    · exact c4 j hj
    · exact d4 j hj
  · split
    · exact c5 i hi f hf
    · exact d5 i hi f hf
  · split
    · exact c6 j hj f hf
    · exact d6 j hj f hf
theorem lo_zone : ∀ y, y < 92 → (plo y = 1 ↔ (4 ≤ y ∧ y < 10)) ∧ (plo y = 2 ↔ (10 ≤ y ∧ y < 20)) ∧ slo y < 10 ∧ (plo y = 1 → slo y < 6) := by decide +kernel
theorem gC_ok : gC 0 0 6 6 6 = true ∧ gC 0 0 10 10 10 = true ∧ gC 0 0 (nI 6) 6 6 = true ∧ gC 0 0 (nI 4) 4 4 = true := by decide +kernel
/-- a keeper's row, a child's row copied -/
theorem cpy_k {p q : Nat} (hpq : p + 33 ≤ q ∨ q + 33 ≤ p) (v : VV) {i : Nat} (hi : i < 8) : ∃ w, cpy v (((p + 3) + 2 + i) + 8) (((q + 3) + 2 + i) + 8) 0 0 (nI 6) = w ∧ Out q v w ∧ (InvB (rowOf p v) → InvB (rowOf q v) → InvB (rowOf q w)) ∧ (∀ f, f < 6 → rowOf q w (ki i f) = rowOf p v (ki i f)) ∧ (∀ y, ¬ (ki i 0 ≤ y ∧ y < ki i 6) → rowOf q w y = rowOf q v y) := by
  obtain ⟨h1, h2⟩ := cpy_row hpq v (a := 13 + i) (by omega) (N := 6) (by decide)
  rw [show p + 3 + 2 + i + 8 = p + (13 + i) by omega, show q + 3 + 2 + i + 8 = q + (13 + i) by omega]
  refine ⟨_, rfl, h2, fun a b => ?_, fun f hf => ?_, fun y hy => ?_⟩
  · rw [h1]; exact Inv_mix a b _ _
  · rw [h1]; dsimp only
    rw [if_pos ⟨ki_lt hi hf, (kd_plo hi hf).1, by rw [(kd_plo hi hf).2]; exact hf⟩]
  · rw [h1]; dsimp only
    rw [if_neg]
    intro z
    apply hy
    obtain ⟨z1, z2, z3⟩ := z
    unfold plo at z2
    simp only [ki]
    (repeat' split at z2) <;> omega
theorem cpy_c {p q : Nat} (hpq : p + 33 ≤ q ∨ q + 33 ≤ p) (v : VV) {i : Nat} (hi : i < 6) : ∃ w, cpy v (((p + 4) + 17 + i) + 6) (((q + 4) + 17 + i) + 6) 0 0 (nI 4) = w ∧ Out q v w ∧ (InvB (rowOf p v) → InvB (rowOf q v) → InvB (rowOf q w)) ∧ (∀ f, f < 4 → rowOf q w (ci i f) = rowOf p v (ci i f)) ∧ (∀ y, ¬ (ci i 0 ≤ y ∧ y < ci i 4) → rowOf q w y = rowOf q v y) := by
  obtain ⟨h1, h2⟩ := cpy_row hpq v (a := 27 + i) (by omega) (N := 4) (by decide)
  rw [show p + 4 + 17 + i + 6 = p + (27 + i) by omega, show q + 4 + 17 + i + 6 = q + (27 + i) by omega]
  refine ⟨_, rfl, h2, fun a b => ?_, fun f hf => ?_, fun y hy => ?_⟩
  · rw [h1]; exact Inv_mix a b _ _
  · rw [h1]; dsimp only
    rw [if_pos ⟨ci_lt hi hf, (cd_plo hi hf).1, by rw [(cd_plo hi hf).2]; exact hf⟩]
  · rw [h1]; dsimp only
    rw [if_neg]
    intro z
    apply hy
    obtain ⟨z1, z2, z3⟩ := z
    unfold plo at z2
    simp only [ci]
    (repeat' split at z2) <;> omega
theorem C_becL2 {p q : Nat} (hpq : p + 33 ≤ q ∨ q + 33 ≤ p) {c : RW} (hc : InvB c) : ∀ (k n i : Nat) (v : VV), i + k = ncS c → k < n → rowOf p v = c → InvB (rowOf q v) → (∀ y, 4 ≤ y → y < 20 → rowOf q v y = c y) → (∀ i, i < nkS c → ∀ f, f < 6 → rowOf q v (ki i f) = c (ki i f)) → (∀ j, j < i → ∀ f, f < 4 → rowOf q v (ci j f) = c (ci j f)) → ∃ v', L_X1_become_81 n q p (nI i) v = some v' ∧ sim (rowOf q v') c ∧ InvB (rowOf q v') ∧ Out q v v' := by
  obtain ⟨e3, h6⟩ := nc_eq hc
  have hk8 := (nk_eq hc).2
  intro k
  induction k with
  | zero =>
    intro n i v hik hn hp hB hl hK hC
    obtain ⟨n, rfl⟩ : ∃ z, n = z + 1 := ⟨n - 1, by omega⟩
    rw [L_X1_become_81, if_pos (by rw [rd_3 p v, hp, e3]; exact nI_le (by omega) (by omega))]
    have pp : ∀ (w : VV) (s : Nat) (x : Int32), pu w q s x p = w p := fun w s x => pu_ne _ _ _ (by omega)
    simp only [pp]
    rw [rd_1 p v, rd_3 p v, rd_0 p v, rd_2 p v, hp]
    refine ⟨_, rfl, ?_, ?_, ?_⟩
    · rw [(wr_2 q _ _).1, (wr_0 q _ _).1, (wr_3 q _ _).1, (wr_1 q _ _).1]
      refine ⟨fun y hy => ?_, fun i hi f hf => ?_, fun j hj f hf => ?_⟩
      · by_cases y2 : y = 2
        · rw [y2, upd_self]
        rw [upd_ne _ _ y2]
        by_cases y0 : y = 0
        · rw [y0, upd_self]
        rw [upd_ne _ _ y0]
        by_cases y3 : y = 3
        · rw [y3, upd_self]
        rw [upd_ne _ _ y3]
        by_cases y1 : y = 1
        · rw [y1, upd_self]
        rw [upd_ne _ _ y1]
        exact hl y (by omega) hy
      · rw [upd_ne _ _ (by simp only [ki]; omega), upd_ne _ _ (by simp only [ki]; omega), upd_ne _ _ (by simp only [ki]; omega), upd_ne _ _ (by simp only [ki]; omega)]
        exact hK i hi f hf
      · rw [upd_ne _ _ (by simp only [ci]; omega), upd_ne _ _ (by simp only [ci]; omega), upd_ne _ _ (by simp only [ci]; omega), upd_ne _ _ (by simp only [ci]; omega)]
        exact hC j (by omega) f hf
    · rw [(wr_2 q _ _).1, (wr_0 q _ _).1, (wr_3 q _ _).1, (wr_1 q _ _).1]
      obtain ⟨g0, g1, g3, g4, g5, g6⟩ := hB
      obtain ⟨f0, f1, f3, -, -, -⟩ := hc
      refine ⟨?_, ?_, ?_, fun j hj => ?_, fun i hi f hf => ?_, fun j hj f hf => ?_⟩
      · rw [upd_ne _ _ (by decide), upd_self]; exact f0
      · rw [upd_ne _ _ (by decide), upd_ne _ _ (by decide), upd_ne _ _ (by decide), upd_self]; exact f1
      · rw [upd_ne _ _ (by decide), upd_ne _ _ (by decide), upd_self]; exact f3
      · rw [upd_ne _ _ (by omega), upd_ne _ _ (by omega), upd_ne _ _ (by omega), upd_ne _ _ (by omega)]; exact g4 j hj
      · rw [upd_ne _ _ (by simp only [ki]; omega), upd_ne _ _ (by simp only [ki]; omega), upd_ne _ _ (by simp only [ki]; omega), upd_ne _ _ (by simp only [ki]; omega)]; exact g5 i hi f hf
      · rw [upd_ne _ _ (by simp only [ci]; omega), upd_ne _ _ (by simp only [ci]; omega), upd_ne _ _ (by simp only [ci]; omega), upd_ne _ _ (by simp only [ci]; omega)]; exact g6 j hj f hf
    · exact (((wr_1 q _ _).2.trans (wr_3 q _ _).2).trans (wr_0 q _ _).2).trans (wr_2 q _ _).2
  | succ k ih =>
    intro n i v hik hn hp hB hl hK hC
    obtain ⟨n, rfl⟩ : ∃ z, n = z + 1 := ⟨n - 1, by omega⟩
    rw [L_X1_become_81, if_neg (by rw [rd_3 p v, hp, e3]; exact nI_ge (by omega) (by omega)), gu_nI (by omega) (by decide), gu_nI (by omega) (by decide), gu_nI (by omega) (by decide), gC_ok.2.2.2, gu_t, cl_nI (by omega), nI_1]
    obtain ⟨w, e, w1, w2, w3, w4⟩ := cpy_c hpq v (i := i) (by omega)
    rw [e]
    have hpw : rowOf p w = c := by rw [rowOf_out w1 (by omega)]; exact hp
    obtain ⟨v', q1, q2, q3, q4⟩ := ih n (i + 1) w (by omega) (by omega) hpw (w2 (by rw [hp]; exact hc) hB) (fun y h1 h2 => by rw [w4 y (by simp only [ci]; omega)]; exact hl y h1 h2) (fun i' hi' f hf => by rw [w4 _ (by simp only [ki, ci]; omega)]; exact hK i' hi' f hf) (fun j hj f hf => by
      by_cases ej : j = i
      · rw [ej, w3 f hf, hp]
      · rw [w4 _ (by simp only [ci]; omega)]; exact hC j (by omega) f hf)
    exact ⟨v', q1, q2, q3, w1.trans q4⟩
theorem C_becL1 {p q : Nat} (hpq : p + 33 ≤ q ∨ q + 33 ≤ p) {c : RW} (hc : InvB c) : ∀ (k n i : Nat) (v : VV), i + k = nkS c → k < n → rowOf p v = c → InvB (rowOf q v) → (∀ y, 4 ≤ y → y < 20 → rowOf q v y = c y) → (∀ i', i' < i → ∀ f, f < 6 → rowOf q v (ki i' f) = c (ki i' f)) → ∃ v', L_X1_become_32 n q p (nI i) v = some v' ∧ sim (rowOf q v') c ∧ InvB (rowOf q v') ∧ Out q v v' := by
  obtain ⟨e1, h8⟩ := nk_eq hc
  have h6 := (nc_eq hc).2
  intro k
  induction k with
  | zero =>
    intro n i v hik hn hp hB hl hK
    obtain ⟨n, rfl⟩ : ∃ z, n = z + 1 := ⟨n - 1, by omega⟩
    rw [L_X1_become_32, if_pos (by rw [rd_1 p v, hp, e1]; exact nI_le (by omega) (by omega))]
    exact C_becL2 hpq hc (ncS c) fu 0 v (by omega) (by unfold fu; omega) hp hB hl (fun i' hi' f hf => hK i' (by omega) f hf) (fun j hj => by omega)
  | succ k ih =>
    intro n i v hik hn hp hB hl hK
    obtain ⟨n, rfl⟩ : ∃ z, n = z + 1 := ⟨n - 1, by omega⟩
    rw [L_X1_become_32, if_neg (by rw [rd_1 p v, hp, e1]; exact nI_ge (by omega) (by omega)), gu_nI (by omega) (by decide), gu_nI (by omega) (by decide), gu_nI (by omega) (by decide), gC_ok.2.2.1, gu_t, cl_nI (by omega), nI_1]
    obtain ⟨w, e, w1, w2, w3, w4⟩ := cpy_k hpq v (i := i) (by omega)
    rw [e]
    have hpw : rowOf p w = c := by rw [rowOf_out w1 (by omega)]; exact hp
    obtain ⟨v', q1, q2, q3, q4⟩ := ih n (i + 1) w (by omega) (by omega) hpw (w2 (by rw [hp]; exact hc) hB) (fun y h1 h2 => by rw [w4 y (by simp only [ki]; omega)]; exact hl y h1 h2) (fun j hj f hf => by
      by_cases ej : j = i
      · rw [ej, w3 f hf, hp]
      · rw [w4 _ (by simp only [ki]; omega)]; exact hK j (by omega) f hf)
    exact ⟨v', q1, q2, q3, w1.trans q4⟩
theorem C_become {p q : Nat} (hpq : p + 33 ≤ q ∨ q + 33 ≤ p) {v : VV} (hc : InvB (rowOf p v)) (hB : InvB (rowOf q v)) : ∃ v', F_X1_become q p v = some v' ∧ sim (rowOf q v') (rowOf p v) ∧ InvB (rowOf q v') ∧ Out q v v' := by
  have h8 := (nk_eq hc).2
  obtain ⟨r1, o1⟩ := cpy_row hpq v (a := 1) (by decide) (N := 6) (by decide)
  have p1 : rowOf p (cpy v (p + 1) (q + 1) 0 0 (nI 6)) = rowOf p v := rowOf_out o1 (by omega)
  obtain ⟨r2, o2⟩ := cpy_row hpq (cpy v (p + 1) (q + 1) 0 0 (nI 6)) (a := 2) (by decide) (N := 10) (by decide)
  have p2 := rowOf_out o2 (p := p) (by omega)
  unfold F_X1_become
  rw [gC_ok.1, gu_t, gC_ok.2.1, gu_t]
  obtain ⟨v', q1, q2, q3, q4⟩ := C_becL1 hpq hc (nkS (rowOf p v)) fu 0 (cpy (cpy v (p + 1) (q + 1) 0 0 (nI 6)) (p + 2) (q + 2) 0 0 (nI 10)) (by omega) (by unfold fu; omega) (p2.trans p1) (by rw [r2]; exact Inv_mix (by rw [p1]; exact hc) (by rw [r1]; exact Inv_mix hc hB _ _) _ _) (fun y h1 h2 => by
    have z := lo_zone y (by omega)
    rw [r2]
    dsimp only
    by_cases e : plo y = 2
    · rw [if_pos ⟨by omega, e, z.2.2.1⟩, p1]
    · rw [if_neg (fun q => e q.2.1), r1]
      dsimp only
      have e1 : plo y = 1 := z.1.mpr ⟨h1, by have := z.2.1; omega⟩
      rw [if_pos ⟨by omega, e1, z.2.2.2 e1⟩]) (fun i' hi' => by omega)
  exact ⟨v', q1, q2, q3, (o1.trans o2).trans q4⟩
