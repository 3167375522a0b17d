/-! PURE PART 25: options of items -/
def nOK (t : Nat) (b : Nat → Nat) (top q : Nat) : Bool := decide (tkK t b q = 2 ∧ tkN t b q ≤ top)
def rdO (t : Nat) (b : Nat → Nat) (k top d p : Nat) : Bool × Nat × Nat := if isW t b k p = true then (if nOK t b top (tkE t b p) = true then (true, tkN t b (tkE t b p), tkE t b (tkE t b p)) else (false, 0, tkE t b p)) else (true, d, p)
theorem tkE_le {t p : Nat} (b : Nat → Nat) (hp : p ≤ t) (ht : t ≤ 120) : p ≤ tkE t b p ∧ tkE t b p ≤ t := by
  have h1 := tkB_sp b hp ht
  have h2 := tkE_sp b hp ht
  exact ⟨by omega, h2.2.1⟩
theorem tkK_le (t : Nat) (b : Nat → Nat) (p : Nat) : tkK t b p ≤ 4 := by unfold tkK; (repeat' split) <;> decide
theorem tkN_le (t : Nat) (b : Nat → Nat) (p : Nat) : tkN t b p ≤ 10000 := nm_bd b _ _ _ (by omega)
theorem rdO_bd {t k top d p : Nat} {b : Nat → Nat} (hp : p ≤ t) (ht : t ≤ 120) (hd : d ≤ top) : p ≤ (rdO t b k top d p).2.2 ∧ (rdO t b k top d p).2.2 ≤ t ∧ ((rdO t b k top d p).1 = true → (rdO t b k top d p).2.1 ≤ top) := by
  obtain ⟨e1, e2⟩ := tkE_le b hp ht
  obtain ⟨f1, f2⟩ := tkE_le b e2 ht
  unfold rdO
  by_cases q : isW t b k p = true
  · rw [if_pos q]
    by_cases r : nOK t b top (tkE t b p) = true
    · rw [if_pos r]
      have r' : tkK t b (tkE t b p) = 2 ∧ tkN t b (tkE t b p) ≤ top := of_decide_eq_true r
      exact ⟨by dsimp only; omega, f2, fun _ => r'.2⟩
    · rw [if_neg r]
      exact ⟨e1, e2, fun z => by cases z⟩
  · rw [if_neg q]
    exact ⟨Nat.le_refl _, hp, fun _ => hd⟩
/-! the class -/
def Cs (t : Nat) (b : Nat → Nat) (v : VV) (p : Nat) : Prop := TxC t b v ∧ CT t b v p
theorem TxC_mv {t : Nat} {b : Nat → Nat} {v v' : VV} (h : TxC t b v) (h1 : v' 23 1 = nI t) (h24 : v' 24 = v 24) : TxC t b v' := ⟨h.1, h1, fun j hj => by rw [h24]; exact h.2.2 j hj⟩
theorem Cs_mv {t p : Nat} {b : Nat → Nat} {v v' : VV} (h : Cs t b v p) (h23 : v' 23 = v 23) (h24 : v' 24 = v 24) : Cs t b v' p := by
  refine ⟨TxC_mv h.1 (by rw [h23]; exact h.1.2.1) h24, ?_⟩
  unfold CT
  rw [h23]
  exact h.2
theorem C_stp {t p : Nat} {b : Nat → Nat} {v : VV} (h : Cs t b v p) (hp : p ≤ t) : ∃ v', F_X4_step v = some v' ∧ Cs t b v' (tkE t b p) ∧ ∀ i, i ≠ 23 → v' i = v i := by
  obtain ⟨v', a1, a2, a3, a4⟩ := C_step h.1 (tkE_le b hp h.1.1).2 h.2.2.2.1
  exact ⟨v', a1, ⟨TxC_mv h.1 a3 (a4 24 (by decide)), a2⟩, a4⟩
theorem C_num {t p top : Nat} {b : Nat → Nat} {v : VV} (h : Cs t b v p) (htop : top < 9999) : F_X4_numberUpTo (nI top) v = some (if nOK t b top p = true then nI (tkN t b p) else -1) := by
  have hN := tkN_le t b p
  have hK := tkK_le t b p
  unfold F_X4_numberUpTo nOK
  rw [h.2.1]
  by_cases q : tkK t b p = 2
  · rw [if_pos (show nI (tkK t b p) = 2 by rw [q]; rfl), h.2.2.2.2 q]
    by_cases r : tkN t b p ≤ top
    · rw [if_neg (nI_nlt r (by omega)), if_pos (decide_eq_true ⟨q, r⟩)]
    · rw [if_pos (nI_lt (by omega) (by omega)), if_neg (by rw [decide_eq_false (fun z => r z.2)]; decide)]
  · rw [if_neg (show ¬ nI (tkK t b p) = 2 from fun z => q ((nI_eq (b := 2) (by omega) (by decide)).mp z)), if_neg (by rw [decide_eq_false (fun z => q z.1)]; decide)]
theorem C_opt {t p k top d : Nat} {b : Nat → Nat} {v : VV} (h : Cs t b v p) (hp : p ≤ t) (hk : k < 15) (htop : top < 9999) : ∃ v', F_X4_readOption k (nI top) (nI d) v = some (if (rdO t b k top d p).1 = true then nI (rdO t b k top d p).2.1 else -1, v') ∧ Cs t b v' (rdO t b k top d p).2.2 ∧ ∀ i, i ≠ 23 → v' i = v i := by
  unfold F_X4_readOption rdO
  rw [C_isAt h.1 h.2 hp hk, bd_s]
  by_cases q : isW t b k p = true
  · obtain ⟨e1, e2⟩ := tkE_le b hp h.1.1
    obtain ⟨v1, a1, a2, a3⟩ := C_stp h hp
    have hN := tkN_le t b (tkE t b p)
    rw [if_pos q, if_pos q, a1, bd_s, C_num a2 htop, bd_s]
    by_cases r : nOK t b top (tkE t b p) = true
    · obtain ⟨v2, b1, b2, b3⟩ := C_stp a2 e2
      rw [if_pos r, if_pos r, if_neg (show ¬ nI (tkN t b (tkE t b p)) < 0 from nI_nlt (b := 0) (Nat.zero_le _) (by omega)), b1, bd_s]
      exact ⟨v2, rfl, b2, fun i hi => by rw [b3 i hi, a3 i hi]⟩
    · rw [if_neg r, if_neg r, if_pos (by decide)]
      exact ⟨v1, rfl, a2, a3⟩
  · rw [if_neg q, if_neg q]
    exact ⟨v, rfl, h, fun _ _ => rfl⟩
/-! the reference -/
def MS (t : Nat) (b : Nat → Nat) (w : VV) (p fl : Nat) : Prop := TxM t b w ∧ MT t b w p ∧ w 0 11 = nI fl
def Sm (w w' : VV) : Prop := (∀ i, i ≠ 0 → w' i = w i) ∧ ∀ s, s ≠ 7 → s ≠ 8 → s ≠ 9 → s ≠ 10 → s ≠ 11 → w' 0 s = w 0 s
theorem Sm.rf {w : VV} : Sm w w := ⟨fun _ _ => rfl, fun _ _ _ _ _ _ => rfl⟩
theorem Sm.tr {a b c : VV} (h1 : Sm a b) (h2 : Sm b c) : Sm a c := ⟨fun i hi => (h2.1 i hi).trans (h1.1 i hi), fun s a7 a8 a9 a10 a11 => (h2.2 s a7 a8 a9 a10 a11).trans (h1.2 s a7 a8 a9 a10 a11)⟩
theorem Sm_11 (w : VV) (x : Int32) : Sm w (pu w 0 11 x) := ⟨fun i hi => pu_ne _ _ _ hi, fun s _ _ _ _ h => by rw [pu_self, upd_ne _ _ h]⟩
theorem MS_11 {t p fl : Nat} {b : Nat → Nat} {w : VV} (h : MS t b w p fl) (fl' : Nat) : MS t b (pu w 0 11 (nI fl')) p fl' := by
  obtain ⟨⟨ht, h6, hb⟩, ⟨m9, m7, m8, m10⟩, -⟩ := h
  have e : ∀ s, s ≠ 11 → pu w 0 11 (nI fl') 0 s = w 0 s := fun s hs => by rw [pu_self, upd_ne _ _ hs]
  refine ⟨⟨ht, by rw [e 6 (by decide)]; exact h6, fun j hj => by rw [pu_ne _ _ _ (by decide)]; exact hb j hj⟩, ?_, by rw [pu_self, upd_self]⟩
  unfold MT
  rw [e 9 (by decide), e 7 (by decide), e 8 (by decide), e 10 (by decide)]
  exact ⟨m9, m7, m8, m10⟩
theorem M_must1 {t p : Nat} {b : Nat → Nat} {w : VV} (h : MS t b w p 0) (hp : p ≤ t) : ∃ w', F_X6_must 1 w = some w' ∧ MS t b w' (tkE t b p) 0 ∧ Sm w w' := by
  have h' := MS_11 h 0
  obtain ⟨w', a1, a2, a3, a4⟩ := M_token h'.1 (tkE_le b hp h.1.1).2 h'.2.1.2.2.1
  refine ⟨w', ?_, ⟨⟨h.1.1, by rw [a3 6 (by decide) (by decide) (by decide) (by decide)]; exact h'.1.2.1, fun j hj => by rw [a4 5 (by decide)]; exact h'.1.2.2 j hj⟩, a2, by rw [a3 11 (by decide) (by decide) (by decide) (by decide)]; exact h'.2.2⟩, (Sm_11 w (nI 0)).tr ⟨a4, fun s s7 s8 s9 s10 _ => a3 s s7 s8 s9 s10⟩⟩
  unfold F_X6_must
  rw [if_pos (by rw [h.2.2]; rfl), if_neg (by decide), if_pos (by rw [pu_self, upd_self]), nI0, a1, bd_s]
theorem M_must0 {t p : Nat} {b : Nat → Nat} {w : VV} (h : MS t b w p 0) : ∃ w', F_X6_must 0 w = some w' ∧ MS t b w' p 1 ∧ Sm w w' := by
  refine ⟨pu w 0 11 1, ?_, MS_11 h 1, Sm_11 w 1⟩
  unfold F_X6_must
  rw [if_pos (by rw [h.2.2]; rfl), if_pos rfl, if_neg (by rw [pu_self, upd_self]; decide)]
theorem M_mustF {t p : Nat} {b : Nat → Nat} {w : VV} (h : MS t b w p 1) (a : Int32) : ∃ w', F_X6_must a w = some w' ∧ MS t b w' p 1 ∧ Sm w w' := by
  refine ⟨pu w 0 11 1, ?_, MS_11 h 1, Sm_11 w 1⟩
  unfold F_X6_must
  rw [if_neg (by rw [h.2.2]; decide), if_neg (by rw [pu_self, upd_self]; decide)]
theorem M_tak0 {t p k : Nat} {b : Nat → Nat} {w : VV} (h : MS t b w p 0) (hp : p ≤ t) (hk : k < 15) : ∃ w', F_X6_takesWord k w = some (isW t b k p, w') ∧ MS t b w' (if isW t b k p = true then tkE t b p else p) 0 ∧ Sm w w' := by
  unfold F_X6_takesWord
  rw [if_pos (by rw [h.2.2]; rfl), M_isWord h.1 h.2.1 hp hk, bd_s]
  by_cases q : isW t b k p = true
  · obtain ⟨w', a1, a2, a3⟩ := M_must1 h hp
    rw [if_pos q, a1, bd_s, if_pos q, q]
    exact ⟨w', rfl, a2, a3⟩
  · rw [if_neg q, if_neg q, ft q]
    exact ⟨w, rfl, h, Sm.rf⟩
theorem M_takF {t p k : Nat} {b : Nat → Nat} {w : VV} (h : MS t b w p 1) : F_X6_takesWord k w = some (false, w) := by
  unfold F_X6_takesWord
  rw [if_neg (by rw [h.2.2]; decide)]
theorem MT_k2 {t p : Nat} {b : Nat → Nat} {w : VV} (h : MT t b w p) : (w 0 9 = 2) ↔ tkK t b p = 2 := by
  have h4 := tkK_le t b p
  rw [h.1]
  by_cases q : tkK t b p = 4
  · rw [if_pos q, q]; decide
  · rw [if_neg q, show (2 : Int32) = nI 2 from rfl, nI_eq (by omega) (by decide)]
theorem M_num0 {t p top : Nat} {b : Nat → Nat} {w : VV} (h : MS t b w p 0) (hp : p ≤ t) (htop : top < 9999) : ∃ x w', F_X6_number 0 (nI top) w = some (x, w') ∧ Sm w w' ∧ (nOK t b top p = true → x = nI (tkN t b p) ∧ MS t b w' (tkE t b p) 0) ∧ (¬ nOK t b top p = true → MS t b w' p 1) := by
  have hN := tkN_le t b p
  unfold F_X6_number nOK
  by_cases q : tkK t b p = 2
  · rw [if_pos ((MT_k2 h.2.1).mpr q), h.2.1.2.2.2 q, wit top rfl (by omega), bd_s]
    by_cases r : tkN t b p ≤ top
    · obtain ⟨w', a1, a2, a3⟩ := M_must1 h hp
      rw [if_pos (inR_nI (by omega) (by omega)), a1, bd_s]
      exact ⟨_, w', rfl, a3, fun _ => ⟨rfl, a2⟩, fun z => absurd (decide_eq_true ⟨q, r⟩) z⟩
    · obtain ⟨w', a1, a2, a3⟩ := M_must0 h
      have nin : ¬ inR (nI (tkN t b p)) (top + 1) = true := by
        intro z
        have := (of_decide_eq_true z : 0 ≤ (nI (tkN t b p)).toInt ∧ _)
        rw [nI_toInt (by omega)] at this
        omega
      rw [if_neg nin, a1, bd_s]
      exact ⟨_, w', rfl, a3, fun z => absurd (of_decide_eq_true z).2 r, fun _ => a2⟩
  · obtain ⟨w', a1, a2, a3⟩ := M_must0 h
    rw [if_neg (fun z => q ((MT_k2 h.2.1).mp z)), a1, bd_s]
    exact ⟨_, w', rfl, a3, fun z => absurd (of_decide_eq_true z).1 q, fun _ => a2⟩
theorem M_numF {t p : Nat} {b : Nat → Nat} {w : VV} (h : MS t b w p 1) (lo hi : Int32) : ∃ x w', F_X6_number lo hi w = some (x, w') ∧ Sm w w' ∧ MS t b w' p 1 := by
  obtain ⟨w0, a1, a2, a3⟩ := M_mustF h 0
  obtain ⟨w1, b1, b2, b3⟩ := M_mustF h 1
  obtain ⟨r, hr⟩ : ∃ r, F_X6_within (w 0 10) lo hi w = some r := by
    unfold F_X6_within
    (repeat' split) <;> exact ⟨_, rfl⟩
  unfold F_X6_number
  rw [hr, bd_s, a1, bd_s, b1, bd_s]
  (repeat' split)
  · exact ⟨_, _, rfl, b3, b2⟩
  · exact ⟨_, _, rfl, a3, a2⟩
  · exact ⟨_, _, rfl, a3, a2⟩
def optM (k : Nat) (hi d : Int32) (w : VV) : Option (Int32 × VV) := Option.bind (F_X6_takesWord k w) (fun (r, w') => if r = true then F_X6_number 0 hi w' else some (d, w'))
theorem opt_fold {α : Type} (k : Nat) (hi d : Int32) (w : VV) (K : Int32 × VV → Option α) : Option.bind (F_X6_takesWord k w) (fun (r, w') => if r = true then Option.bind (F_X6_number 0 hi w') K else K (d, w')) = Option.bind (optM k hi d w) K := by
  unfold optM
  cases F_X6_takesWord k w with
  | none => rfl
  | some p =>
    obtain ⟨r, w'⟩ := p
    cases r
    · rfl
    · rfl
theorem M_opt {t p k top d fl : Nat} {b : Nat → Nat} {w : VV} (h : MS t b w p fl) (hf : fl = 0 ∨ fl = 1) (hp : p ≤ t) (hk : k < 15) (htop : top < 9999) : ∃ x w', optM k (nI top) (nI d) w = some (x, w') ∧ Sm w w' ∧ (fl = 0 → (rdO t b k top d p).1 = true → x = nI (rdO t b k top d p).2.1 ∧ MS t b w' (rdO t b k top d p).2.2 0) ∧ (fl = 0 → ¬ (rdO t b k top d p).1 = true → MS t b w' (rdO t b k top d p).2.2 1) ∧ (fl = 1 → MS t b w' p 1) := by
  unfold optM
  rcases hf with rfl | rfl
  · obtain ⟨w1, a1, a2, a3⟩ := M_tak0 h hp hk
    rw [a1, bd_s]
    dsimp only
    unfold rdO
    by_cases q : isW t b k p = true
    · rw [if_pos q] at a2
      rw [if_pos q, if_pos q]
      obtain ⟨x, w', b1, b2, b3, b4⟩ := M_num0 a2 (tkE_le b hp h.1.1).2 htop
      refine ⟨x, w', b1, a3.tr b2, fun _ z => ?_, fun _ z => ?_, fun z => by cases z⟩
      · by_cases r : nOK t b top (tkE t b p) = true
        · rw [if_pos r]; exact b3 r
        · rw [if_neg r] at z; cases z
      · by_cases r : nOK t b top (tkE t b p) = true
        · rw [if_pos r] at z; exact absurd rfl z
        · rw [if_neg r]; exact b4 r
    · rw [if_neg q] at a2
      rw [if_neg q, if_neg q]
      exact ⟨_, w1, rfl, a3, fun _ _ => ⟨rfl, a2⟩, fun _ z => absurd rfl z, fun z => by cases z⟩
  · rw [M_takF h, bd_s]
    exact ⟨_, w, rfl, Sm.rf, fun z => absurd z (by decide), fun z => absurd z (by decide), fun _ => h⟩
