/-! PURE PART 13: odds and feed -/
def StL (A B : VV → Option (Int64 × VV)) (v : VV) : Prop := ∃ r v1 v2, A v = some (r, v1) ∧ B v1 = some (r, v2) ∧ Rel v2
theorem sl_f0 {v : VV} (h : Rel v) {A B : VV → Option (Int64 × VV)} (hA : A v = Option.bind (F_X5_finding 0 v) (fun (r, w) => some ((r : Int32).toInt64, w))) (hB : ∀ v1 : VV, (∀ i, i ≠ 13 → v1 i = v i) → B v1 = Option.bind (F_X6_finding (-1000001) v1) (fun (r, w) => some ((r : Int32).toInt64, w))) : StL A B v := by
  obtain ⟨v1, v2, a, b, c, d, -⟩ := fnd h (f := 0) (by decide) (L := -1000001) (by decide)
  refine ⟨(-1000001 : Int32).toInt64, v1, v2, ?_, ?_, c⟩
  · rw [hA, nI0, a]; rfl
  · rw [hB v1 d, b]; rfl
theorem gu_map {α β : Type} (b : Bool) (x : Option α) (f : α → β) : gu b (x.map f) = (gu b x).map f := by
  unfold gu
  by_cases h : b = true
  · rw [if_pos h, if_pos h]
  · rw [if_neg h, if_neg h]; rfl
theorem o121 : ∀ (n : Nat) (x1 x2 x3 x4 x5 x6 x7 : Int32) (x8 : Int64) (x10 : Int32) (v : VV), L_X6_odds_121 n x1 x2 x3 x4 x5 x6 x7 x8 x10 v = (L_X6_odds_121 n 0 0 x3 x4 x5 x6 0 x8 x10 v0).map (fun q => (q.1, v))
  | 0, _, _, _, _, _, _, _, _, _, _ => rfl
  | n + 1, x1, x2, x3, x4, x5, x6, x7, x8, x10, v => by
    rw [L_X6_odds_121, L_X6_odds_121]
    by_cases h1 : x3 ≤ x10
    · rw [if_pos h1, if_pos h1]; rfl
    · rw [if_neg h1, if_neg h1]
      by_cases h2 : x4 = 0
      · rw [if_pos h2, if_pos h2, o121 n x1, gu_map]
      · rw [if_neg h2, if_neg h2, o121 n x1, gu_map]
theorem o92 : ∀ (n : Nat) (x1 x2 x3 x4 x5 x6 x7 : Int32) (v : VV), L_X6_odds_92 n x1 x2 x3 x4 x5 x6 x7 v = (L_X6_odds_92 n 0 0 x3 x4 x5 x6 x7 v0).map (fun q => (q.1, v))
  | 0, _, _, _, _, _, _, _, _ => rfl
  | n + 1, x1, x2, x3, x4, x5, x6, x7, v => by
    rw [L_X6_odds_92, L_X6_odds_92]
    by_cases h1 : x7 = 0
    · rw [if_pos h1, if_pos h1, o121, o121 fu 0 0 x3 x4 x5 x6 x7, Option.map_map]
      rfl
    · rw [if_neg h1, if_neg h1, o92 n x1, gu_map]
theorem gs_v : ∀ (n : Nat) (x0 x1 x2 : Int32) (v : VV), L_X5_greatestShared_2 n x0 x1 x2 v = L_X5_greatestShared_2 n x0 x1 x2 v0
  | 0, _, _, _, _ => rfl
  | n + 1, x0, x1, x2, v => by rw [L_X5_greatestShared_2, L_X5_greatestShared_2, gs_v n]
theorem pw_v : ∀ (n : Nat) (x0 x1 : Int32) (x2 : Int64) (x4 : Int32) (v : VV), L_X5_power_5 n x0 x1 x2 x4 v = L_X5_power_5 n x0 x1 x2 x4 v0
  | 0, _, _, _, _, _ => rfl
  | n + 1, x0, x1, x2, x4, v => by rw [L_X5_power_5, L_X5_power_5, pw_v n]
def oddS (h e w : Int32) : Int64 := ((L_X6_odds_92 fu 0 0 e w h 10 h v0).map Prod.fst).getD 0
theorem odd_all : ∀ h, h < 10 → ∀ e, e < 18 → ∀ w, w < 2 → (L_X6_odds_92 fu 0 0 (nI e) (nI w) (nI h) 10 (nI h) v0).map Prod.fst = some (oddS (nI h) (nI e) (nI w)) ∧ Option.bind (F_X5_greatestShared (nI h) 10 v0) (fun r => if nI w = 0 then gu (gZ r) (F_X5_power (nI h / r) (nI e) v0) else gu (gZ r) (F_X5_power (10 / r) (nI e) v0)) = some (oddS (nI h) (nI e) (nI w)) := by decide +kernel
theorem M_oddE {h e w : Nat} (hh : h < 10) (he : e < 18) (hw : w < 2) (x1 x2 : Int32) (v : VV) : L_X6_odds_92 fu x1 x2 (nI e) (nI w) (nI h) 10 (nI h) v = some (oddS (nI h) (nI e) (nI w), v) := by
  have a := (odd_all h hh e he w hw).1
  rw [o92]
  cases q : L_X6_odds_92 fu 0 0 (nI e) (nI w) (nI h) 10 (nI h) v0 with
  | none => rw [q] at a; cases a
  | some z =>
    rw [q] at a
    have a2 : z.1 = oddS (nI h) (nI e) (nI w) := Option.some.inj a
    show some (z.1, v) = _
    rw [a2]
theorem C_oddE {h e w : Nat} (hh : h < 10) (he : e < 18) (hw : w < 2) (v : VV) : Option.bind (F_X5_greatestShared (nI h) 10 v) (fun r27 => (if nI w = 0 then (gu (gZ r27) (Option.bind (F_X5_power (nI h / r27) (nI e) v) (fun r34 => some (r34, v)))) else (gu (gZ r27) (Option.bind (F_X5_power (10 / r27) (nI e) v) (fun r31 => some (r31, v)))))) = some (oddS (nI h) (nI e) (nI w), v) := by
  obtain ⟨g, hg, a⟩ := bi_some (odd_all h hh e he w hw).2
  have e1 : F_X5_greatestShared (nI h) 10 v = some g := by unfold F_X5_greatestShared at hg ⊢; rw [gs_v]; exact hg
  rw [e1, bd_s]
  by_cases q : nI w = 0
  · rw [if_pos q] at a ⊢
    obtain ⟨z, a⟩ := gu_some a
    rw [z, gu_t, show F_X5_power (nI h / g) (nI e) v = some (oddS (nI h) (nI e) (nI w)) by unfold F_X5_power at a ⊢; rw [pw_v]; exact a, bd_s]
  · rw [if_neg q] at a ⊢
    obtain ⟨z, a⟩ := gu_some a
    rw [z, gu_t, show F_X5_power (10 / g) (nI e) v = some (oddS (nI h) (nI e) (nI w)) by unfold F_X5_power at a ⊢; rw [pw_v]; exact a, bd_s]
/-- in how many fogs a keeper is heard by a child -/
def hitS (c : RW) (i j : Nat) : Nat → Nat → Nat := fun f x => if (c (ki i 5) = 0 ∧ wiS c i j (nI f) = true) then x + 1 else x
theorem hit_le (c : RW) (i j : Nat) : ∀ (k f x : Nat), itr (hitS c i j) f k x ≤ x + k
  | 0, _, _ => Nat.le_refl _
  | k + 1, f, x => by
    rw [itr_s]
    have h := hit_le c i j k (f + 1) (hitS c i j f x)
    have : hitS c i j f x ≤ x + 1 := by unfold hitS; split <;> omega
    omega
theorem C_isHeard {p : Nat} {v : VV} (hI : InvB (rowOf p v)) {i j : Nat} (hi8 : i < 8) (hj : j < 6) (f : Int32) : F_X1_isHeard p (nI i) (nI j) f v = some (decide (rowOf p v (ki i 5) = 0 ∧ wiS (rowOf p v) i j f = true)) := by
  unfold F_X1_isHeard
  rw [gu_nI hi8 (by decide), gu_nI hi8 (by decide), gu_nI hj (by decide), gu_nI hi8 (by decide), cl_nI (by omega), cl_nI (by omega), C_silent hI hi8, bd_s]
  by_cases q : rowOf p v (ki i 5) = 0
  · rw [if_neg (by rw [decide_eq_false (fun z => z q)]; decide), C_reaches p v hi8, bd_s, C_wi hI hi8 hj, bd_s]
    by_cases w : wiS (rowOf p v) i j f = true
    · rw [if_pos w, decide_eq_true ⟨q, w⟩]
    · rw [if_neg w, decide_eq_false (fun z => w z.2)]
  · rw [if_pos (decide_eq_true q), decide_eq_false (fun z => q z.1)]
theorem C_oddL {v : VV} (hI : InvB (rowOf 25 v)) {i j e w : Nat} (hi : i < 8) (hj : j < 6) (he : e < 18) (hw : w < 2) : ∀ (k n f h : Nat), f + k = 10 → k < n → h + k < 10 → L_X5_odds_47 n (nI j) (nI i) (nI e) (nI w) (nI h) (nI f) v = some (oddS (nI (itr (hitS (rowOf 25 v) i j) f k h)) (nI e) (nI w), v) := by
  intro k
  induction k with
  | zero =>
    intro n f h hfk hn hh
    obtain ⟨n, rfl⟩ : ∃ z, n = z + 1 := ⟨n - 1, by omega⟩
    rw [L_X5_odds_47, if_pos (by rw [show (9 : Int32) = nI 9 from rfl]; exact nI_lt (by omega) (by omega))]
    exact C_oddE (by omega) he hw v
  | succ k ih =>
    intro n f h hfk hn hh
    obtain ⟨n, rfl⟩ : ∃ z, n = z + 1 := ⟨n - 1, by omega⟩
    rw [L_X5_odds_47, if_neg (by rw [show (9 : Int32) = nI 9 from rfl]; exact nI_nlt (by omega) (by omega)), C_isHeard hI hi hj, bd_s, itr_s, nI_1, nI_1]
    by_cases q : rowOf 25 v (ki i 5) = 0 ∧ wiS (rowOf 25 v) i j (nI f) = true
    · rw [if_pos (decide_eq_true q), ih n (f + 1) (h + 1) (by omega) (by omega) (by omega)]
      unfold hitS
      rw [if_pos q]
    · rw [if_neg (by rw [decide_eq_false q]; decide), ih n (f + 1) h (by omega) (by omega) (by omega)]
      unfold hitS
      rw [if_neg q]
theorem M_oddL {v : VV} (hI : InvB (v 1)) {i j e w : Nat} (hi : i < 8) (hj : j < 6) (he : e < 18) (hw : w < 2) : ∀ (k n f h : Nat), f + k = 10 → k < n → h + k < 10 → L_X6_odds_50 n (nI j) (nI i) (nI e) (nI w) (nI h) (nI f) v = some (oddS (nI (itr (hitS (v 1) i j) f k h)) (nI e) (nI w), v) := by
  intro k
  induction k with
  | zero =>
    intro n f h hfk hn hh
    obtain ⟨n, rfl⟩ : ∃ z, n = z + 1 := ⟨n - 1, by omega⟩
    rw [L_X6_odds_50, if_pos (by rw [show (9 : Int32) = nI 9 from rfl]; exact nI_lt (by omega) (by omega))]
    exact M_oddE (by omega) he hw _ _ v
  | succ k ih =>
    intro n f h hfk hn hh
    obtain ⟨n, rfl⟩ : ∃ z, n = z + 1 := ⟨n - 1, by omega⟩
    rw [L_X6_odds_50, if_neg (by rw [show (9 : Int32) = nI 9 from rfl]; exact nI_nlt (by omega) (by omega)), M_doesHear hi hj, bd_s, itr_s, nI_1, nI_1, Int32.add_zero]
    by_cases q : v 1 (ki i 5) = 0
    · rw [if_pos q]
      by_cases z : wiS (v 1) i j (nI f) = true
      · rw [if_pos z, ih n (f + 1) (h + 1) (by omega) (by omega) (by omega)]
        unfold hitS
        rw [if_pos ⟨q, z⟩]
      · rw [if_neg z, ih n (f + 1) h (by omega) (by omega) (by omega)]
        unfold hitS
        rw [if_neg (fun y => z y.2)]
    · rw [if_neg q, if_neg (by decide), ih n (f + 1) h (by omega) (by omega) (by omega)]
      unfold hitS
      rw [if_neg (fun y => q y.1)]
theorem sim_hit {c m : RW} (h : sim c m) {i j : Nat} (hi : i < nkS m) (hj : j < ncS m) (f k x : Nat) : itr (hitS c i j) f k x = itr (hitS m i j) f k x := by
  refine itr_cg _ _ _ (fun g _ _ x => ?_)
  unfold hitS
  rw [h.2.1 i hi 5 (by decide), sim_wi h hi hj]
theorem st_odds {v : VV} (h : Rel v) (a b c d : Int32) : StL (F_X5_odds a b c d) (F_X6_odds a b c d) v := by
  obtain ⟨hC, hM, hs, hp⟩ := h.1
  have e := sim_nc hs
  have h6 := (nc_eq hM).2
  have e8 := sim_nk hs
  have h8 := (nk_eq hM).2
  by_cases ha : inR a (ncS (v 1)) = true
  · by_cases hb : inR b (nkS (v 1)) = true
    · by_cases hc : inR c 18 = true
      · by_cases hd : inR d 2 = true
        · obtain ⟨j, hj, rfl⟩ := inR_t ha (by omega)
          obtain ⟨i, hi, rfl⟩ := inR_t hb (by omega)
          obtain ⟨x, hx, rfl⟩ := inR_t hc (by omega)
          obtain ⟨w, hw, rfl⟩ := inR_t hd (by omega)
          refine ⟨oddS (nI (itr (hitS (v 1) i j) 1 9 0)) (nI x) (nI w), v, v, ?_, ?_, h⟩
          · unfold F_X5_odds
            rw [C_isChild hC, bd_s, e, if_pos ha, C_isKeeper hC, bd_s, e8, if_pos hb, upTo (b := 17) 17 rfl (by decide), bd_s, if_pos hc, upTo (b := 1) 1 rfl (by decide), bd_s, if_pos hd, nI0, show (1 : Int32) = nI 1 from rfl, C_oddL hC (by omega) (by omega) hx hw 9 fu 1 0 (by omega) (by unfold fu; omega) (by omega), sim_hit hs hi hj]
          · unfold F_X6_odds
            rw [M_isChild hM, bd_s, if_pos ha, M_isKeeper hM, bd_s, if_pos hb, wit (b := 17) 17 rfl (by decide), bd_s, if_pos hc, wit (b := 1) 1 rfl (by decide), bd_s, if_pos hd, nI0, show (1 : Int32) = nI 1 from rfl, M_oddL hM (by omega) (by omega) hx hw 9 fu 1 0 (by omega) (by unfold fu; omega) (by omega)]
        · refine sl_f0 h ?_ (fun v1 e1 => ?_)
          · unfold F_X5_odds
            rw [C_isChild hC, bd_s, e, if_pos ha, C_isKeeper hC, bd_s, e8, if_pos hb, upTo (b := 17) 17 rfl (by decide), bd_s, if_pos hc, upTo (b := 1) 1 rfl (by decide), bd_s, if_neg hd]
          · unfold F_X6_odds
            rw [M_isChild (by rw [e1 1 (by decide)]; exact hM), bd_s, M_isKeeper (by rw [e1 1 (by decide)]; exact hM), e1 1 (by decide), if_pos ha, bd_s, if_pos hb, wit (b := 17) 17 rfl (by decide), bd_s, if_pos hc, wit (b := 1) 1 rfl (by decide), bd_s, if_neg hd]
      · refine sl_f0 h ?_ (fun v1 e1 => ?_)
        · unfold F_X5_odds
          rw [C_isChild hC, bd_s, e, if_pos ha, C_isKeeper hC, bd_s, e8, if_pos hb, upTo (b := 17) 17 rfl (by decide), bd_s, if_neg hc]
        · unfold F_X6_odds
          rw [M_isChild (by rw [e1 1 (by decide)]; exact hM), bd_s, M_isKeeper (by rw [e1 1 (by decide)]; exact hM), e1 1 (by decide), if_pos ha, bd_s, if_pos hb, wit (b := 17) 17 rfl (by decide), bd_s, if_neg hc]
    · refine sl_f0 h ?_ (fun v1 e1 => ?_)
      · unfold F_X5_odds
        rw [C_isChild hC, bd_s, e, if_pos ha, C_isKeeper hC, bd_s, e8, if_neg hb]
      · unfold F_X6_odds
        rw [M_isChild (by rw [e1 1 (by decide)]; exact hM), bd_s, M_isKeeper (by rw [e1 1 (by decide)]; exact hM), e1 1 (by decide), if_pos ha, bd_s, if_neg hb]
  · refine sl_f0 h ?_ (fun v1 e1 => ?_)
    · unfold F_X5_odds
      rw [C_isChild hC, bd_s, e, if_neg ha]
    · unfold F_X6_odds
      rw [M_isChild (by rw [e1 1 (by decide)]; exact hM), bd_s, e1 1 (by decide), if_neg ha]
/-! feed -/
theorem b_255 : ∀ i, i < 8 → bt 255 i = true := by decide +kernel
theorem nar_and (y : Int32) : (y &&& 255).toInt8 = y.toInt8 := by
  apply Int8.toBitVec_inj.1
  show (y &&& 255).toBitVec.signExtend 8 = y.toBitVec.signExtend 8
  apply BitVec.eq_of_getLsbD_eq
  intro i hi
  rw [BitVec.getLsbD_signExtend, BitVec.getLsbD_signExtend]
  have e : bt (y &&& 255) i = bt y i := by rw [b_and, b_255 i hi, Bool.and_true]
  have e2 : (y &&& 255).toBitVec.getLsbD i = y.toBitVec.getLsbD i := e
  rw [e2]
  simp [hi, show i < 32 by omega]
def shK (k : Nat) : Int32 := 8 * (nI k - 1)
def dnK (k : Nat) : Int32 := nI k - 1
theorem sh_0 : shK 0 < 0 ∧ dnK 0 < 0 := by decide
theorem sh_s : ∀ k, k < 4 → ¬ shK (k + 1) < 0 ∧ shK (k + 1) + (-8) = shK k ∧ shK (k + 1) = nI (8 * k) ∧ ¬ dnK (k + 1) < 0 ∧ dnK (k + 1) + (-1) = dnK k ∧ (8 : Int32) * dnK (k + 1) = nI (8 * k) := by decide +kernel
def byK (x : Int32) (k : Nat) : Int32 := x >>> (nI (8 * k) &&& 31)
theorem C_appL (x y : Int32) : ∀ (k n t : Nat) (v : VV), k ≤ 4 → k < n → t + k ≤ 120 → v 23 1 = nI t → ∃ v', L_X4_append_7 n x y (shK k) v = some v' ∧ v' 23 1 = nI (t + k) ∧ (∀ j, j < t → v' 24 j = v 24 j) ∧ (∀ r, r < k → v' 24 (t + r) = (byK x (k - 1 - r)).toInt8.toInt32) ∧ (∀ i, i ≠ 23 → i ≠ 24 → v' i = v i) := by
  intro k
  induction k with
  | zero =>
    intro n t v hk hn ht hv
    obtain ⟨n, rfl⟩ : ∃ z, n = z + 1 := ⟨n - 1, by omega⟩
    refine ⟨v, ?_, by rw [hv]; rfl, fun j _ => rfl, fun r hr => by omega, fun i _ _ => rfl⟩
    rw [L_X4_append_7, if_pos sh_0.1]
  | succ k ih =>
    intro n t v hk hn ht hv
    obtain ⟨n, rfl⟩ : ∃ z, n = z + 1 := ⟨n - 1, by omega⟩
    obtain ⟨s1, s2, s3, -⟩ := sh_s k (by omega)
    rw [L_X4_append_7, if_neg s1, hv, gu_nI (by omega) (by decide), cl_nI (by omega), s2, s3, pk_vb]
    have e1 : pu v 24 t (byK x k).toInt8.toInt32 23 1 = nI t := by rw [pu_ne _ _ _ (by decide)]; exact hv
    have e1' : pu v 24 t (x >>> (nI (8 * k) &&& 31)).toInt8.toInt32 23 1 = nI t := e1
    rw [e1', nI_1]
    obtain ⟨v', a1, a2, a3, a4, a5⟩ := ih n (t + 1) (pu (pu v 24 t (byK x k).toInt8.toInt32) 23 1 (nI (t + 1))) (by omega) (by omega) (by omega) (by rw [pu_self, upd_self])
    refine ⟨v', a1, by rw [a2, show t + 1 + k = t + (k + 1) by omega], fun j hj => ?_, fun r hr => ?_, fun i h1 h2 => ?_⟩
    · rw [a3 j (by omega), pu_ne _ _ _ (by decide), pu_self, upd_ne _ _ (by omega)]
    · rcases Nat.eq_zero_or_pos r with rfl | hr0
      · rw [Nat.add_zero, a3 t (by omega), pu_ne _ _ _ (by decide), pu_self, upd_self]
        rfl
      · have := a4 (r - 1) (by omega)
        rw [show t + 1 + (r - 1) = t + r by omega, show k - 1 - (r - 1) = k + 1 - 1 - r by omega] at this
        exact this
    · rw [a5 i h1 h2, pu_ne _ _ _ h1, pu_ne _ _ _ h2]
theorem M_appL (x y : Int32) : ∀ (k n t : Nat) (v : VV), k ≤ 4 → k < n → t + k ≤ 120 → v 0 6 = nI t → ∃ v', L_X6_feed_38 n x y (dnK k) v = some (nI (t + k), v') ∧ v' 0 6 = nI (t + k) ∧ (∀ s, s ≠ 6 → v' 0 s = v 0 s) ∧ (∀ j, j < t → v' 5 j = v 5 j) ∧ (∀ r, r < k → v' 5 (t + r) = byK x (k - 1 - r) &&& 255) ∧ (∀ i, i ≠ 0 → i ≠ 5 → v' i = v i) := by
  intro k
  induction k with
  | zero =>
    intro n t v hk hn ht hv
    obtain ⟨n, rfl⟩ : ∃ z, n = z + 1 := ⟨n - 1, by omega⟩
    refine ⟨v, ?_, by rw [hv]; rfl, fun s _ => rfl, fun j _ => rfl, fun r hr => by omega, fun i _ _ => rfl⟩
    rw [L_X6_feed_38, if_pos sh_0.2, hv]
    rfl
  | succ k ih =>
    intro n t v hk hn ht hv
    obtain ⟨n, rfl⟩ : ∃ z, n = z + 1 := ⟨n - 1, by omega⟩
    obtain ⟨-, -, -, s1, s2, s3⟩ := sh_s k (by omega)
    rw [L_X6_feed_38, if_neg s1, hv, gu_nI (by omega) (by decide), cl_nI (by omega), s2, s3]
    have e1' : pu v 5 t ((x >>> (nI (8 * k) &&& 31)) &&& 255) 0 6 = nI t := by rw [pu_ne _ _ _ (by decide)]; exact hv
    rw [e1', nI_1]
    obtain ⟨v', a1, a2, a0, a3, a4, a5⟩ := ih n (t + 1) (pu (pu v 5 t (byK x k &&& 255)) 0 6 (nI (t + 1))) (by omega) (by omega) (by omega) (by rw [pu_self, upd_self])
    refine ⟨v', ?_, by rw [a2, show t + 1 + k = t + (k + 1) by omega], fun s hs => ?_, fun j hj => ?_, fun r hr => ?_, fun i h1 h2 => ?_⟩
    · rw [show t + (k + 1) = t + 1 + k by omega]; exact a1
    · rw [a0 s hs, pu_self, upd_ne _ _ hs, pu_ne _ _ _ (by decide)]
    · rw [a3 j (by omega), pu_ne _ _ _ (by decide), pu_self, upd_ne _ _ (by omega)]
    · rcases Nat.eq_zero_or_pos r with rfl | hr0
      · rw [Nat.add_zero, a3 t (by omega), pu_ne _ _ _ (by decide), pu_self, upd_self]
        rfl
      · have := a4 (r - 1) (by omega)
        rw [show t + 1 + (r - 1) = t + r by omega, show k - 1 - (r - 1) = k + 1 - 1 - r by omega] at this
        exact this
    · rw [a5 i h1 h2, pu_ne _ _ _ h1, pu_ne _ _ _ h2]
theorem st_feed {v : VV} (h : Rel v) (x b : Int32) : StP (F_X5_feed x b) (F_X6_feed x b) v := by
  have hR := h
  obtain ⟨hC, hD, hK, hF, ⟨t, ht, t1, t2, t3⟩, hS⟩ := h
  by_cases hb : in1 b 4 = true
  · obtain ⟨N, n1, hN, rfl⟩ := in1_t hb (by decide)
    by_cases hd : t + N ≤ 120
    · have hle : nI (t + N) ≤ 120 := by rw [show (120 : Int32) = nI 120 from rfl]; exact nI_le hd (by omega)
      obtain ⟨v1, a1, a2, a3, a4, a5⟩ := C_appL x (nI N) N fu t v hN (by unfold fu; omega) hd t1
      obtain ⟨v2, b1, b2, b0, b3, b4, b5⟩ := M_appL x (nI N) N fu t v1 hN (by unfold fu; omega) hd (by rw [a5 0 (by decide) (by decide)]; exact t2)
      refine ⟨nI (t + N), v1, v2, ?_, ?_, ?_⟩
      · unfold F_X5_feed F_X4_append
        rw [cl1 (b := 4) 4 rfl (by decide), if_pos hb, t1, nI_add, if_pos hle, show (8 : Int32) * (nI N - 1) = shK N from rfl, a1, bd_s, a2]
      · unfold F_X6_feed
        rw [wit1 (b := 4) 4 rfl (by decide), bd_s, if_pos hb, a5 0 (by decide) (by decide), t2, nI_add, if_pos hle, show nI N - 1 = dnK N from rfl, b1]
      · have e : ∀ i, (i ≠ 0 ∧ i ≠ 5 ∧ i ≠ 23 ∧ i ≠ 24) → v2 i = v i := fun i q => by rw [b5 i q.1 q.2.1, a5 i q.2.2.1 q.2.2.2]
        refine ⟨RelC_cg hC (e 1 (by decide)) (fun i a b => e i (by omega)), RelD_cg hD (fun i a b => e i (by omega)), RelK_cg hK (e 2 (by decide)) (by rw [e 12 (by decide)]) (by rw [b0 3 (by decide), a5 0 (by decide) (by decide)]) (fun i a b => e i (by omega)), RelF_cg hF (e 4 (by decide)) (e 13 (by decide)), ⟨t + N, hd, ?_, b2, fun j hj => ?_⟩, RelS_cg hS (e 7 (by decide)) (e 8 (by decide)) (e 9 (by decide)) (fun i a b => e i (by omega))⟩
        · rw [b5 23 (by decide) (by decide)]; exact a2
        · rw [b5 24 (by decide) (by decide)]
          rcases Nat.lt_or_ge j t with q | q
          · rw [b3 j q, a3 j q, a5 5 (by decide) (by decide)]; exact t3 j q
          · obtain ⟨r, rfl⟩ : ∃ r, j = t + r := ⟨j - t, by omega⟩
            rw [a4 r (by omega), b4 r (by omega)]
            obtain ⟨y, hy, ey⟩ := pk_andE (byK x (N - 1 - r)) (m := 255) 8 (by decide)
            refine ⟨y, hy, ey, ?_⟩
            rw [← ey, nar_and]
    · have hle : ¬ nI (t + N) ≤ 120 := by rw [show (120 : Int32) = nI 120 from rfl]; exact nI_ge (by omega) (by omega)
      refine st_f1 hR ?_ (fun v1 e1 => ?_)
      · unfold F_X5_feed
        rw [cl1 (b := 4) 4 rfl (by decide), if_pos hb, t1, nI_add, if_neg hle]
      · unfold F_X6_feed
        rw [wit1 (b := 4) 4 rfl (by decide), bd_s, if_pos hb, e1 0 (by decide), t2, nI_add, if_neg hle]
  · refine st_f0 hR ?_ (fun v1 e1 => ?_)
    · unfold F_X5_feed
      rw [cl1 (b := 4) 4 rfl (by decide), if_neg hb]
    · unfold F_X6_feed
      rw [wit1 (b := 4) 4 rfl (by decide), bd_s, if_neg hb]
