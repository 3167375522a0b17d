/-! PURE PART 15: copy, load, judge -/
theorem gC_nI {x y k N1 N2 : Nat} (h1 : x + k ≤ N1) (h2 : y + k ≤ N2) (hN1 : N1 < 2 ^ 31) (hN2 : N2 < 2 ^ 31) : gC (nI x) (nI y) (nI k) N1 N2 = true := by
  refine decide_eq_true ⟨nI_pos (by omega), nI_pos (by omega), nI_pos (by omega), ?_, ?_⟩
  · rw [cl_nI (by omega), cl_nI (by omega)]; exact h1
  · rw [cl_nI (by omega), cl_nI (by omega)]; exact h2
theorem st_copy {v : VV} (h : Rel v) (a b c d k : Int32) : StP (F_X5_copy a b c d k) (F_X6_copy a b c d k) v := by
  by_cases ha : inR a 4 = true
  · by_cases hc : inR c 4 = true
    · obtain ⟨s, hs, rfl⟩ := inR_t ha (by decide)
      obtain ⟨t, ht, rfl⟩ := inR_t hc (by decide)
      obtain ⟨q1, q2, ⟨n, hn, q3, q4⟩, q5⟩ := h.2.2.2.2.2 s hs
      obtain ⟨p1, p2, ⟨m, hm, p3, p4⟩, p5⟩ := h.2.2.2.2.2 t ht
      by_cases h1 : v 7 s = 0
      · refine st_f5 h ?_ (fun v1 e1 => ?_)
        · unfold F_X5_copy
          rw [C_isSheet, bd_s, if_pos ha, C_isSheet, bd_s, if_pos hc, gu_nI hs (by decide), cl_nI (n := s) (by omega), C_missing, bd_s, sh15 s, q1, if_pos (decide_eq_true h1)]
        · unfold F_X6_copy
          rw [M_isSheet, bd_s, if_pos ha, M_isSheet, bd_s, if_pos hc, gu_nI hs (by decide), cl_nI (n := s) (by omega), e1 7 (by decide), if_pos h1]
      · have d1 : ¬ decide (v 7 s = 0) = true := by rw [decide_eq_false h1]; decide
        by_cases h2 : v 7 t = 0
        · refine st_f5 h ?_ (fun v1 e1 => ?_)
          · unfold F_X5_copy
            rw [C_isSheet, bd_s, if_pos ha, C_isSheet, bd_s, if_pos hc, gu_nI hs (by decide), cl_nI (n := s) (by omega), C_missing, bd_s, sh15 s, q1, if_neg d1, gu_nI ht (by decide), cl_nI (n := t) (by omega), C_missing, bd_s, sh15 t, p1, if_pos (decide_eq_true h2)]
          · unfold F_X6_copy
            rw [M_isSheet, bd_s, if_pos ha, M_isSheet, bd_s, if_pos hc, gu_nI hs (by decide), cl_nI (n := s) (by omega), e1 7 (by decide), if_neg h1, gu_nI ht (by decide), cl_nI (n := t) (by omega), if_pos h2]
        · have d2 : ¬ decide (v 7 t = 0) = true := by rw [decide_eq_false h2]; decide
          by_cases hw : v 7 s = v 7 t
          · have hC : F_X5_copy (nI s) b (nI t) d k v = Option.bind (F_X3_hasRun (15 + s) b k v) (fun r28 => (if r28 = true then (gu (gI (nI t) 4) (Option.bind (F_X3_hasRun (15 + t) d k v) (fun r36 => (if r36 = true then (gu (gI (nI s) 4) (gu (gI (nI t) 4) (gu (gC b d k 40 40) (some (k, cpy v ((15 + s) + 4) ((15 + t) + 4) b d k))))) else (Option.bind (F_X5_finding 0 v) (fun (r42, v43) => some (r42, v43))))))) else (Option.bind (F_X5_finding 0 v) (fun (r31, v32) => some (r31, v32))))) := by
              unfold F_X5_copy
              rw [C_isSheet, bd_s, if_pos ha, C_isSheet, bd_s, if_pos hc, gu_nI hs (by decide), cl_nI (n := s) (by omega), C_missing, bd_s, sh15 s, q1, if_neg d1, gu_nI ht (by decide), cl_nI (n := t) (by omega), C_missing, bd_s, sh15 t, p1, if_neg d2, gu_nI hs (by decide), gu_nI ht (by decide), if_pos hw, gu_nI hs (by decide)]
            have hM : ∀ v1 : VV, v1 7 = v 7 → v1 8 = v 8 → F_X6_copy (nI s) b (nI t) d k v1 = if runB n b k = true then (if runB m d k = true then (L_X6_copy_128 fu (nI s) b (nI t) d k 0 v1) else (Option.bind (F_X6_finding (-1000001) v1) (fun (r52, v53) => some (r52, v53)))) else (Option.bind (F_X6_finding (-1000001) v1) (fun (r52, v53) => some (r52, v53))) := by
              intro v1 e7 e8
              unfold F_X6_copy
              rw [M_isSheet, bd_s, if_pos ha, M_isSheet, bd_s, if_pos hc, gu_nI hs (by decide), cl_nI (n := s) (by omega), e7, if_neg h1, gu_nI ht (by decide), cl_nI (n := t) (by omega), if_neg h2, gu_nI hs (by decide), gu_nI ht (by decide), if_pos hw, gu_nI hs (by decide), gu_nI ht (by decide), e8, q4, p4]
              exact M_runs hn hm b d k _ _
            by_cases r1 : runB n b k = true
            · by_cases r2 : runB m d k = true
              · obtain ⟨x, y, xy, rfl, rfl⟩ := runB_t hn r1
                obtain ⟨z, y', zy, rfl, ey⟩ := runB_t hm r2
                have ey' : y' = y := by
                  have f1 := of_decide_eq_true r2
                  have f2 : (nI y).toInt = y := nI_toInt (by omega)
                  have f3 : (nI y').toInt = y' := nI_toInt (by omega)
                  rw [ey, f3] at f2
                  omega
                subst ey'
                refine ⟨nI y', va_up v (19 + t) (va_cpy (v (19 + s)) (v (19 + t)) x z y'), ?_⟩
                generalize hv1 : va_up v (19 + t) (va_cpy (v (19 + s)) (v (19 + t)) x z y') = v1
                have eo : ∀ i, i ≠ 19 + t → v1 i = v i := fun i q => by rw [← hv1, va_up_ne _ _ q]
                have et : v1 (19 + t) = va_cpy (v (19 + s)) (v (19 + t)) x z y' := by rw [← hv1, va_up_self]
                refine ⟨va_up (va_up v1 10 (fun u => if 0 ≤ u ∧ u < y' then v1 9 (40 * s + x + u) else v1 10 u)) 9 (fun u => if 40 * t + z + 0 ≤ u ∧ u < 40 * t + z + y' then (va_up v1 10 (fun u => if 0 ≤ u ∧ u < y' then v1 9 (40 * s + x + u) else v1 10 u)) 10 (u - (40 * t + z)) else (va_up v1 10 (fun u => if 0 ≤ u ∧ u < y' then v1 9 (40 * s + x + u) else v1 10 u)) 9 u), ?_, ?_, ?_⟩
                · rw [hC, C_hasRun hn q3, bd_s, if_pos r1, gu_nI ht (by decide), C_hasRun hm p3, bd_s, if_pos r2, gu_nI hs (by decide), gu_nI ht (by decide), gC_nI (by omega) (by omega) (by decide) (by decide), gu_t, sh19, sh19]
                  unfold cpy
                  rw [cl_nI (n := x) (by omega), cl_nI (n := z) (by omega), cl_nI (n := y') (by omega), hv1]
                · rw [hM v1 (eo 7 (by omega)) (eo 8 (by omega)), if_pos r1, if_pos r2, nI0, M_cp1 hs (by omega) (nI t) (nI z) y' fu 0 v1 (by omega) (by unfold fu; omega), nI0, M_cp2 ht (by omega) (nI s) (nI x) y' fu 0 _ (by omega) (by unfold fu; omega)]
                · refine h.sh (fun i q => ?_) ?_
                  · rw [va_up_ne _ _ q.2.2.1, va_up_ne _ _ q.2.2.2.1, eo i (by omega)]
                  · have w7 : ∀ f g : RW, va_up (va_up v1 10 f) 9 g 7 = v 7 := fun f g => by rw [va_up_ne _ _ (by decide), va_up_ne _ _ (by decide), eo 7 (by omega)]
                    have w8 : ∀ f g : RW, va_up (va_up v1 10 f) 9 g 8 = v 8 := fun f g => by rw [va_up_ne _ _ (by decide), va_up_ne _ _ (by decide), eo 8 (by omega)]
                    have wo : ∀ (f g : RW) i, 15 ≤ i → va_up (va_up v1 10 f) 9 g i = v1 i := fun f g i q => by rw [va_up_ne _ _ (by omega), va_up_ne _ _ (by omega)]
                    intro r hr
                    rw [w7, w8, wo _ _ (15 + r) (by omega), wo _ _ (19 + r) (by omega), va_up_self, va_up_self, va_up_ne _ _ (show (9 : Nat) ≠ 10 by decide), eo (15 + r) (by omega), eo 9 (by omega)]
                    obtain ⟨o1, o2, o3, o4⟩ := h.2.2.2.2.2 r hr
                    refine ⟨o1, o2, o3, fun j hj => ?_⟩
                    by_cases er : r = t
                    · subst er
                      rw [et]
                      by_cases jj : z ≤ j ∧ j < z + y'
                      · rw [pk_cpy_in jj.1 jj.2, if_pos (by omega), if_pos (by omega), q5 _ (by omega)]
                        congr 1
                        omega
                      · rw [pk_cpy_out (by omega), if_neg (by omega)]
                        exact o4 j hj
                    · rw [eo (19 + r) (by omega), if_neg (by omega)]
                      exact o4 j hj
              · refine st_f0 h ?_ (fun v1 e1 => ?_)
                · rw [hC, C_hasRun hn q3, bd_s, if_pos r1, gu_nI ht (by decide), C_hasRun hm p3, bd_s, if_neg r2]
                · rw [hM v1 (e1 7 (by decide)) (e1 8 (by decide)), if_pos r1, if_neg r2]
            · refine st_f0 h ?_ (fun v1 e1 => ?_)
              · rw [hC, C_hasRun hn q3, bd_s, if_neg r1]
              · rw [hM v1 (e1 7 (by decide)) (e1 8 (by decide)), if_neg r1]
          · refine st_f2 h ?_ (fun v1 e1 => ?_)
            · unfold F_X5_copy
              rw [C_isSheet, bd_s, if_pos ha, C_isSheet, bd_s, if_pos hc, gu_nI hs (by decide), cl_nI (n := s) (by omega), C_missing, bd_s, sh15 s, q1, if_neg d1, gu_nI ht (by decide), cl_nI (n := t) (by omega), C_missing, bd_s, sh15 t, p1, if_neg d2, gu_nI hs (by decide), gu_nI ht (by decide), if_neg hw]
            · unfold F_X6_copy
              rw [M_isSheet, bd_s, if_pos ha, M_isSheet, bd_s, if_pos hc, gu_nI hs (by decide), cl_nI (n := s) (by omega), e1 7 (by decide), if_neg h1, gu_nI ht (by decide), cl_nI (n := t) (by omega), if_neg h2, gu_nI hs (by decide), gu_nI ht (by decide), if_neg hw]
    · refine st_f0 h ?_ (fun v1 e1 => ?_)
      · unfold F_X5_copy
        rw [C_isSheet, bd_s, if_pos ha, C_isSheet, bd_s, if_neg hc]
      · unfold F_X6_copy
        rw [M_isSheet, bd_s, if_pos ha, M_isSheet, bd_s, if_neg hc]
  · refine st_f0 h ?_ (fun v1 e1 => ?_)
    · unfold F_X5_copy
      rw [C_isSheet, bd_s, if_neg ha]
    · unfold F_X6_copy
      rw [M_isSheet, bd_s, if_neg ha]
/-! the first number at which a test stops -/
def stopN (P : Nat → Bool) : Nat → Nat → Nat
  | 0, i => i
  | k + 1, i => if P i = true then stopN P k (i + 1) else i
theorem stopN_sp (P : Nat → Bool) : ∀ (k i : Nat), i ≤ stopN P k i ∧ stopN P k i ≤ i + k ∧ (∀ j, i ≤ j → j < stopN P k i → P j = true) ∧ (stopN P k i = i + k ∨ ¬ P (stopN P k i) = true)
  | 0, i => ⟨Nat.le_refl _, Nat.le_refl _, fun j h1 h2 => by have : j < i := h2; omega, Or.inl rfl⟩
  | k + 1, i => by
    unfold stopN
    by_cases h : P i = true
    · rw [if_pos h]
      obtain ⟨a, b, c, d⟩ := stopN_sp P k (i + 1)
      refine ⟨by omega, by omega, fun j h1 h2 => ?_, ?_⟩
      · by_cases e : j = i
        · rw [e]; exact h
        · exact c j (by omega) h2
      · rcases d with q | q
        · exact Or.inl (by omega)
        · exact Or.inr q
    · rw [if_neg h]
      exact ⟨Nat.le_refl _, by omega, fun j h1 h2 => by omega, Or.inr h⟩
def ldU (sh : RW) : Nat → RW → RW := fun i c => upd c (4 + i) (sh i)
theorem st_load {v : VV} (h : Rel v) (a : Int32) : StP (F_X5_load a) (F_X6_load a) v := by
  by_cases ha : inR a 4 = true
  · obtain ⟨s, hs, rfl⟩ := inR_t ha (by decide)
    by_cases h0 : v 7 s = 0
    · obtain ⟨v1, v2, a1, b1, c1, d1, f1⟩ := fos_mi h hs h0
      refine ⟨-1000006, v1, v2, ?_, ?_, c1⟩
      · unfold F_X5_load
        rw [a1, bd_s]
        rfl
      · unfold F_X6_load
        rw [f1, bd_s, if_neg (by decide), bd_s, b1]
        rfl
    · obtain ⟨k1, k2⟩ := fos_ok h hs h0
      obtain ⟨hC, hM, hsm, hp⟩ := h.1
      obtain ⟨q1, q2, ⟨n, hn, q3, q4⟩, q5⟩ := h.2.2.2.2.2 s hs
      obtain ⟨-, N6, Nall, Nend⟩ := stopN_sp (fun i => decide (i < n) && inR (v (19 + s) i) 10) 6 0
      generalize stopN (fun i => decide (i < n) && inR (v (19 + s) i) 10) 6 0 = N at N6 Nall Nend
      have Nall' : ∀ j, j < N → j < n ∧ inR (v (19 + s) j) 10 = true := fun j hj => by
        have := Nall j (by omega) hj
        rw [Bool.and_eq_true] at this
        exact ⟨of_decide_eq_true this.1, this.2⟩
      have Nend' : N = 6 ∨ n ≤ N ∨ ¬ inR (v (19 + s) N) 10 = true := by
        rcases Nend with q | q
        · exact Or.inl (by omega)
        · by_cases z : N < n
          · refine Or.inr (Or.inr (fun y => q ?_))
            rw [Bool.and_eq_true]
            exact ⟨decide_eq_true z, y⟩
          · exact Or.inr (Or.inl (by omega))
      have Nn : N ≤ n := by
        rcases Nat.eq_zero_or_pos N with z | z
        · omega
        · have := (Nall' (N - 1) (by omega)).1
          omega
      obtain ⟨z1, z2⟩ := loopA (L := fun f (x : VV) i => L_X5_load_14 f (nI s) 0 i x) (N := N) (fun j x => Out 25 v x ∧ rowOf 25 x = itr (ldU (v (19 + s))) 0 j (rowOf 25 v)) (fun j x => pu x (25 + 1) j (v (19 + s) j)) (fun x => some (nI N, x)) (fun f x hP => by
          show L_X5_load_14 (f + 1) (nI s) 0 (nI N) x = _
          have e15 : x (15 + s) 2 = nI n := by rw [hP.1 (15 + s) (by omega)]; exact q3
          have e19 : x (19 + s) = v (19 + s) := hP.1 (19 + s) (by omega)
          rw [L_X5_load_14]
          by_cases y6 : N = 6
          · subst y6
            rw [if_pos (by decide)]
          · rw [if_neg (by rw [show (6 : Int32) = nI 6 from rfl]; exact nI_ge (by omega) (by omega)), gu_nI hs (by decide), cl_nI (n := s) (by omega), sh15, e15]
            by_cases yn : n ≤ N
            · rw [if_pos (nI_le yn (by omega))]
            · rw [if_neg (nI_ge (by omega) (by omega)), gu_nI hs (by decide), gu_nI (by omega) (by decide), cl_nI (n := N) (by omega), sh19, e19, upTo (b := 9) 9 rfl (by decide), bd_s, if_neg ((Nend'.resolve_left y6).resolve_left yn)]) (fun f j x hj hP => by
          have e15 : x (15 + s) 2 = nI n := by rw [hP.1 (15 + s) (by omega)]; exact q3
          have e19 : x (19 + s) = v (19 + s) := hP.1 (19 + s) (by omega)
          obtain ⟨j1, j2⟩ := Nall' j hj
          have w := wr_l 25 x (j := j) (by omega) (v (19 + s) j)
          refine ⟨?_, hP.1.trans w.2, ?_⟩
          · show L_X5_load_14 (f + 1) (nI s) 0 (nI j) x = L_X5_load_14 f (nI s) 0 (nI (j + 1)) _
            rw [L_X5_load_14, if_neg (by rw [show (6 : Int32) = nI 6 from rfl]; exact nI_ge (by omega) (by omega)), gu_nI hs (by decide), cl_nI (n := s) (by omega), sh15, e15, if_neg (nI_ge (by omega) (by omega)), gu_nI hs (by decide), gu_nI (by omega) (by decide), cl_nI (n := j) (by omega), sh19, e19, upTo (b := 9) 9 rfl (by decide), bd_s, if_pos j2, gu_nI hs (by decide), gu_nI (by omega) (by decide), gu_nI (by omega) (by decide), nI_1]
          · rw [w.1, hP.2, itr_snoc, Nat.zero_add]
            rfl) N fu 0 v (by omega) (by unfold fu; omega) ⟨Out.rf, rfl⟩
      generalize itr (fun j x => pu x (25 + 1) j (v (19 + s) j)) 0 N v = v1 at z1 z2
      obtain ⟨o1, o2⟩ := z2
      obtain ⟨y1, y2⟩ := loopA (L := fun f (x : VV) i => L_X6_load_22 f (nI s) i x) (N := N) (fun j x => x = va_up v1 1 (itr (ldU (v (19 + s))) 0 j (v 1))) (fun j x => pu x 1 (4 + j) (v (19 + s) j)) (fun x => some (nI N, x)) (fun f x hP => by
          show L_X6_load_22 (f + 1) (nI s) (nI N) x = _
          have e8 : x 8 s = nI n := by rw [hP, va_up_ne _ _ (by decide), o1 8 (by omega)]; exact q4
          have e9 : x 9 = v 9 := by rw [hP, va_up_ne _ _ (by decide), o1 9 (by omega)]
          rw [L_X6_load_22, gu_nI hs (by decide), cl_nI (n := s) (by omega), e8]
          by_cases yn : n ≤ N
          · rw [if_pos (nI_le yn (by omega))]
          · rw [if_neg (nI_ge (by omega) (by omega)), M_isPlace, bd_s]
            by_cases y6 : N = 6
            · subst y6
              rw [if_neg (by decide)]
            · rw [if_pos (inR_nI (by omega) (by decide)), fty, gu_nI (by omega) (by decide), cl_nI (n := 40 * s + N) (by omega), e9, ← q5 N (by omega), M_isFog, bd_s, if_neg ((Nend'.resolve_left y6).resolve_left yn)]) (fun f j x hj hP => by
          have e8 : x 8 s = nI n := by rw [hP, va_up_ne _ _ (by decide), o1 8 (by omega)]; exact q4
          have e9 : x 9 = v 9 := by rw [hP, va_up_ne _ _ (by decide), o1 9 (by omega)]
          obtain ⟨j1, j2⟩ := Nall' j hj
          refine ⟨?_, ?_⟩
          · show L_X6_load_22 (f + 1) (nI s) (nI j) x = L_X6_load_22 f (nI s) (nI (j + 1)) _
            rw [L_X6_load_22, gu_nI hs (by decide), cl_nI (n := s) (by omega), e8, if_neg (nI_ge (by omega) (by omega)), M_isPlace, bd_s, if_pos (inR_nI (by omega) (by decide)), fty, gu_nI (by omega) (by decide), cl_nI (n := 40 * s + j) (by omega), e9, ← q5 j (by omega), M_isFog, bd_s, if_pos j2, gu_nI (by omega) (by decide), four_nI, gu_nI (by omega) (by decide), cl_nI (n := 4 + j) (by omega), nI_1]
          · rw [hP, pu_of_up, itr_snoc, Nat.zero_add]
            rfl) N fu 0 v1 (by omega) (by unfold fu; omega) (by rw [itr_0, ← o1 1 (by omega), up_id])
      generalize itr (fun j x => pu x 1 (4 + j) (v (19 + s) j)) 0 N v1 = v2 at y1 y2
      have st : ∀ (c m : RW), sim c m → InvB c → InvB m → SpOK m → sim (itr (ldU (v (19 + s))) 0 N c) (itr (ldU (v (19 + s))) 0 N m) ∧ InvB (itr (ldU (v (19 + s))) 0 N c) ∧ InvB (itr (ldU (v (19 + s))) 0 N m) ∧ SpOK (itr (ldU (v (19 + s))) 0 N m) := fun c m g1 g2 g3 g4 => itr_two (P := fun a b => sim a b ∧ InvB a ∧ InvB b ∧ SpOK b) N 0 c m (fun j a b _ hj q => by
        obtain ⟨j1, j2⟩ := Nall' j (by omega)
        obtain ⟨x, hx, ex⟩ := inR_t j2 (by decide)
        unfold ldU
        rw [ex]
        exact ⟨sim_updY q.1 (by omega) (by omega) (by omega) _, updL q.2.1 (by omega) (by omega), updL q.2.2.1 (by omega) (by omega), Sp_upd q.2.2.2 (by omega) (by omega) _⟩) ⟨g1, g2, g3, g4⟩
      obtain ⟨t1, t2, t3, t4⟩ := st _ _ hsm hC hM hp
      refine ⟨nI N, v1, v2, ?_, ?_, ?_⟩
      · unfold F_X5_load
        rw [k1, bd_s]
        dsimp only
        rw [if_pos rfl]
        exact z1
      · unfold F_X6_load
        rw [k2 v1 (o1 7 (by omega)), bd_s, if_pos rfl]
        exact y1
      · rw [y2]
        exact h.c o1 (by rw [o2]; exact t2) t3 (by rw [o2]; exact t1) t4
  · obtain ⟨v1, v2, a1, b1, c1, d1⟩ := fos_no h ha
    refine ⟨-1000001, v1, v2, ?_, ?_, c1⟩
    · unfold F_X5_load
      rw [a1, bd_s]
      rfl
    · unfold F_X6_load
      rw [d1 v1, bd_s, if_neg (by decide), bd_s, b1]
      rfl
theorem judge2 {v : VV} (h : Rel v) {s n : Nat} (hs : s < 4) (hn : n ≤ 40) (q3 : v (15 + s) 2 = nI n) (q4 : v 8 s = nI n) (q5 : ∀ j, j < 40 → v (19 + s) j = v 9 (40 * s + j)) (x : Int32) : ∀ (k f g i : Nat), i + k = 7 → k < f → k < g → i ≤ n → ∃ r, L_X5_judge_14 f (nI s) x (nI i) v = some (r, v) ∧ L_X6_judge_22 g (nI s) (nI i) v = some (r, v) := by
  obtain ⟨hC, hM, hsm, hp⟩ := h.1
  have en := sim_nc hsm
  have h6 := (nc_eq hM).2
  intro k
  induction k with
  | zero =>
    intro f g i hik hf hg hi
    obtain ⟨f, rfl⟩ : ∃ z, f = z + 1 := ⟨f - 1, by omega⟩
    obtain ⟨g, rfl⟩ : ∃ z, g = z + 1 := ⟨g - 1, by omega⟩
    have i7 : i = 7 := by omega
    subst i7
    have nin : ¬ inR (nI 7) (ncS (v 1)) = true := by
      intro z
      have := (of_decide_eq_true z : 0 ≤ (nI 7).toInt ∧ _)
      rw [nI_toInt (by omega)] at this
      omega
    rw [L_X5_judge_14, L_X6_judge_22, gu_nI hs (by decide), gu_nI hs (by decide), gu_nI hs (by decide), gu_nI hs (by decide), cl_nI (n := s) (by omega), sh15, q3, q4]
    by_cases e : n ≤ 7
    · exact ⟨0, by rw [if_pos (nI_le e (by omega))], by rw [if_pos (nI_le e (by omega)), if_pos (by rw [show n = 7 by omega])]⟩
    · refine ⟨1 + nI 7, ?_, ?_⟩
      · rw [if_neg (nI_ge (by omega) (by omega)), C_isChild hC, bd_s, en, if_neg nin]
      · rw [if_neg (nI_ge (by omega) (by omega)), M_isChild hM, bd_s, if_neg nin, if_neg (by rw [nI_eq (by omega) (by omega)]; omega)]
  | succ k ih =>
    intro f g i hik hf hg hi
    obtain ⟨f, rfl⟩ : ∃ z, f = z + 1 := ⟨f - 1, by omega⟩
    obtain ⟨g, rfl⟩ : ∃ z, g = z + 1 := ⟨g - 1, by omega⟩
    rw [L_X5_judge_14, L_X6_judge_22, gu_nI hs (by decide), gu_nI hs (by decide), gu_nI hs (by decide), cl_nI (n := s) (by omega), sh15, q3, q4]
    by_cases e : n ≤ i
    · exact ⟨0, by rw [if_pos (nI_le e (by omega))], by rw [if_pos (nI_le e (by omega)), if_pos (by rw [show n = i by omega]), gu_nI hs (by decide)]⟩
    · have ni : ¬ nI i = nI n := by rw [nI_eq (by omega) (by omega)]; omega
      rw [if_neg (nI_ge (by omega) (by omega)), if_neg (nI_ge (by omega) (by omega)), C_isChild hC, bd_s, en, M_isChild hM, bd_s]
      by_cases hc : i < ncS (v 1)
      · rw [if_pos (inR_nI hc (by omega)), if_pos (inR_nI hc (by omega)), gu_nI (by omega) (by decide), gu_nI hs (by decide), gu_nI (by omega) (by decide), cl_nI (n := i) (by omega), rd_c 25 v (by omega) (by decide), hsm.2.2 i hc 2 (by decide), sh19, q5 i (by omega), fty, gu_nI (by omega) (by decide), cIs2 (by omega), bd_s, cl_nI (n := 40 * s + i) (by omega), nI_1]
        by_cases w : v 1 (ci i 2) = v 9 (40 * s + i)
        · rw [if_pos w, if_pos w.symm]
          exact ih f g (i + 1) (by omega) (by omega) (by omega) (by omega)
        · rw [if_neg w, if_neg (fun q => w q.symm), if_neg ni]
          exact ⟨_, rfl, rfl⟩
      · have nin : ¬ inR (nI i) (ncS (v 1)) = true := by
          intro z
          have := (of_decide_eq_true z : 0 ≤ (nI i).toInt ∧ _)
          rw [nI_toInt (by omega)] at this
          omega
        rw [if_neg nin, if_neg nin, gu_nI hs (by decide), if_neg ni]
        exact ⟨_, rfl, rfl⟩
theorem st_judge {v : VV} (h : Rel v) (a : Int32) : StP (F_X5_judge a) (F_X6_judge a) v := by
  by_cases ha : inR a 4 = true
  · obtain ⟨s, hs, rfl⟩ := inR_t ha (by decide)
    by_cases h0 : v 7 s = 0
    · obtain ⟨v1, v2, a1, b1, c1, d1, f1⟩ := fos_mi h hs h0
      refine ⟨-1000006, v1, v2, ?_, ?_, c1⟩
      · unfold F_X5_judge
        rw [a1, bd_s]
        rfl
      · unfold F_X6_judge
        rw [f1, bd_s, if_neg (by decide), bd_s, b1]
        rfl
    · obtain ⟨k1, k2⟩ := fos_ok h hs h0
      obtain ⟨q1, q2, ⟨n, hn, q3, q4⟩, q5⟩ := h.2.2.2.2.2 s hs
      obtain ⟨r, r1, r2⟩ := judge2 h hs hn q3 q4 q5 0 7 fu fu 0 (by omega) (by unfold fu; omega) (by unfold fu; omega) (by omega)
      refine ⟨r, v, v, ?_, ?_, h⟩
      · unfold F_X5_judge
        rw [k1, bd_s]
        dsimp only
        rw [if_pos rfl]
        exact r1
      · unfold F_X6_judge
        rw [k2 v rfl, bd_s, if_pos rfl]
        exact r2
  · obtain ⟨v1, v2, a1, b1, c1, d1⟩ := fos_no h ha
    refine ⟨-1000001, v1, v2, ?_, ?_, c1⟩
    · unfold F_X5_judge
      rw [a1, bd_s]
      rfl
    · unfold F_X6_judge
      rw [d1 v1, bd_s, if_neg (by decide), bd_s, b1]
      rfl
