/-! Arrays.fill over one row; the words of the constructors' calls; what a new object's fields hold -/

def fl (N k : Nat) (x : Int32) (f : Nat → Int32) : Nat → Int32 := fun j => if j < k then x else f j
theorem fl_0 (N : Nat) (x : Int32) (f : Nat → Int32) : fl N 0 x f = f := funext fun j => if_neg (Nat.not_lt_zero j)
theorem fl_s (N k : Nat) (x : Int32) (f : Nat → Int32) : upd (fl N k x f) k x = fl N (k + 1) x f := by
  funext j
  unfold upd fl
  by_cases h : j = k
  · rw [if_pos h, if_pos (by omega)]
  · rw [if_neg h]
    by_cases h2 : j < k
    · rw [if_pos h2, if_pos (by omega)]
    · rw [if_neg h2, if_neg (by omega)]
theorem l_fill {p : Program} {l : Launch} {e : Env} {s : State} {m : MethodId} {below : List Frame} {meth : Method} {c : Code} {G : GG} {A : Nat → Prop} {a N : Nat} {x : Int32} {f : Nat → Int32} {args : Array Value} (CF : CallFix p m c cJ7_fill_53178 4 s args tb RJ7) (hr : meth.sig.returnType = none) (hlocks : meth.locks = false) (hK : va_K (gD G) vwCl (tyL G) s) (hN : N < 1000) :
    ∀ (n k : Nat) (H : Heap) (locs : List Loc) (ls : Array Slot), N < n + k → k ≤ N → va_P (gD G) vwCl [(a, aI G N (fl N k x f))] H → va_D A [(a, aI G N (fl N k x f))] → va_S A s.heap H locs → lv_has ls 4 [(0, .ref a), (1, .int x), (2, .int (nI k)), (3, .int (nI N))] →
      W p l e ({ frames := 0, cells := 0, slots := 0, locals := 0 } : Room) s m args below meth c H locs 0 0 (MQ below (va_Qv (fun _ : Unit => True) (fun _ t => va_P (gD G) vwCl [(a, aI G N (fl N N x f))] t.heap ∧ va_D A [(a, aI G N (fl N N x f))]) A) args s 0 0 A) (F0 m 5 ls []) := by
  obtain ⟨hx, hb, hml, hown, hts⟩ := CF
  intro n
  induction n with
  | zero =>
    intro k H locs ls h1 h2
    omega
  | succ n ih =>
    intro k H locs ls h1 h2 hP hD hS hl
    refine lv_iload_n hx hb dJ7_fill_53178_5 rfl (lv_at hl 2 rfl) ?_
    refine lv_iload_n hx hb dJ7_fill_53178_6 rfl (lv_at hl 3 rfl) ?_
    refine lv_icmp_ge (tgt := 20) hx hb dJ7_fill_53178_7 (by decide) (fun c1 => ?_) (fun c1 => ?_)
    · have hk : k = N := by
        rcases Nat.lt_or_ge k N with q | q
        · exact absurd c1 (nI_ge q (by omega))
        · omega
      subst hk
      exact W.vret hx hb hr (fun t ht hW => ⟨⟨(), rfl, trivial, by rw [ht]; exact hP, hD⟩, hS.F ht⟩) hS.2.2 dJ7_fill_53178_20
    · have hk : k < N := by
        rcases Nat.lt_or_ge k N with q | q
        · exact q
        · exact absurd (nI_le q (by omega)) c1
      refine lv_aload_n hx hb dJ7_fill_53178_10 rfl (lv_at hl 0 rfl) ?_
      refine lv_iload_n hx hb dJ7_fill_53178_11 rfl (lv_at hl 2 rfl) ?_
      refine lv_iload_n hx hb dJ7_fill_53178_12 rfl (lv_at hl 1 rfl) ?_
      refine sA_i hx hb hK hP hD hS 0 rfl k (nI_clamp (by omega)) (vp_in_nI hk (by omega)) dJ7_fill_53178_13 (fun H locs f1 hf1 hP hD hS => ?_)
      rw [fl_s] at hf1
      subst hf1
      refine lv_iinc (v := nI (k + 1)) (lv' := [(2, .int (nI (k + 1))), (0, .ref a), (1, .int x), (3, .int (nI N))]) hx hb dJ7_fill_53178_14 hl (k := 2) rfl (nI_succ k).symm (by decide) rfl (fun ls hl => ?_)
      refine lv_goto (tgt := 5) hx hb dJ7_fill_53178_17 (by decide) ?_
      exact ih (k + 1) H locs ls (by omega) (by omega) hP hD hS (lv_sub hl [1, 2, 0, 3] rfl)
def PF (G : GG) (a sz N : Nat) (x : Int32) (f : Nat → Int32) : Array Value → State → Prop := va_Pc [.ref a, .int x] (fun U => U.heap.size = sz ∧ va_P (gD G) vwCl [(a, aI G N f)] U.heap ∧ va_K (gD G) vwCl (tyL G) U)
theorem PF_blind {G : GG} {a sz N : Nat} {x : Int32} {f : Nat → Int32} : FrameBlind (PF G a sz N x f) := fun a U g mk q => ⟨q.1, q.2.1, q.2.2.1, va_K.moved (u := U) (U := U.calling g mk a) (Vm.Alike.refl U.vm) q.2.2.2⟩
set_option maxHeartbeats 4000000 in
theorem c_fill (l : Launch) (G : GG) (a sz N : Nat) (x : Int32) (f : Nat → Int32) (hN : N < 1000) : Met l yJ7_fill_53178 (cdW yJ7_fill_53178 cJ7_fill_53178 4 none) ({ frames := 0, cells := 0, slots := 0, locals := 0 } : Room) (PF G a sz N x f) (va_Qv (fun _ : Unit => True) (fun _ t => va_P (gD G) vwCl [(a, aI G N (fl N N x f))] t.heap ∧ va_D (va_A [(a, aI G N f)] sz) [(a, aI G N (fl N N x f))]) (va_A [(a, aI G N f)] sz)) 0 0 (va_A [(a, aI G N f)] sz) := by
  refine Met.ofW (cc := cJ7_fill_53178) (maxL := 4) (ret := none) (by decide) rfl ?_
  intro p e s m args below meth c s₁ B hml hv
  obtain ⟨rfl, hsz, hP, hK⟩ := hv
  subst hsz
  have hts0 := atoms_spec (ws := cdW yJ7_fill_53178 cJ7_fill_53178 4 none) B.pre
  have hown : s.vm.findClass RJ7 = some m.cls := findClass_of_methodNamed B.named
  have hx := B.exec
  have hb := B.bytes
  have hts : ∀ w ∈ tb, w.before _ s = true := fun w h => hts0 w (List.mem_cons_of_mem _ h)
  have hD : va_D (va_A [(a, aI G N f)] s.heap.size) [(a, aI G N f)] := by
    refine ⟨fun i j x y hx hy _ => ?_, fun k q hk => va_A.in hk⟩
    have := (List.getElem?_eq_some_iff.mp hx).1
    have := (List.getElem?_eq_some_iff.mp hy).1
    simp only [List.length_cons, List.length_nil] at *
    omega
  generalize hAe : va_A [(a, aI G N f)] s.heap.size = A at hD ⊢
  have hS : va_S A s.heap s.heap [] := va_S.rf
  have hl := lv_entry ([.ref a, .int x] : List Value) (n := 4) (Nat.le_of_ble_eq_true rfl)
  rw [lg_entry_eq]
  generalize (lg_sl ([.ref a, .int x] : List Value) ++ List.replicate (4 - (lg_sl ([.ref a, .int x] : List Value)).length) Slot.unset).toArray = ls at hl ⊢
  have hl : lv_has ls 4 [(0, .ref a), (1, .int x)] := hl
  refine lv_iconst (v := 0) hx hb dJ7_fill_53178_0 (by decide) ?_
  refine lv_istore_n (lv' := [(2, .int 0), (0, .ref a), (1, .int x)]) hx hb dJ7_fill_53178_1 rfl hl (by decide) rfl (fun ls hl => ?_)
  refine lv_aload_n hx hb dJ7_fill_53178_2 rfl (lv_at hl 1 rfl) ?_
  refine va_alen (x := (N, .inl f)) hx hb hK hP 0 0 rfl rfl rfl dJ7_fill_53178_3 ?_
  refine lv_istore_n (lv' := [(3, .int (nI N)), (2, .int 0), (0, .ref a), (1, .int x)]) hx hb dJ7_fill_53178_4 rfl hl (by decide) rfl (fun ls hl => ?_)
  exact l_fill ⟨hx, hb, hml, hown, hts⟩ B.returns B.notSynchronized hK hN (N + 1) 0 _ _ ls (by omega) (by omega) (by rw [fl_0]; exact hP) (by rw [fl_0]; exact hD) hS (lv_sub hl [2, 3, 1, 0] rfl)
theorem ok_fill : okS RX1 18 yJ7_fill_53178 cJ7_fill_53178 4 none 2 := okS_of w_30 w_31 w_3 w_32 (by decide +kernel)
theorem kF {p : Program} {l : Launch} {e : Env} {R : Room} {s : State} {m : MethodId} {args : Array Value} {below : List Frame} {meth : Method} {c : Code} {H : Heap} {locs : List Loc} {G : GG} {own : String} {cc : ByteArray} {nL pc idx cells slots a N : Nat} {ls : Array Slot} {Q : State → Prop} {rest : List Value} {A : Nat → Prop} {X : va_W} {x : Int32} {f : Nat → Int32} (CF : CallFix p m c cc nL s args tb own) (hK : va_K (gD G) vwCl (tyL G) s) (hP : va_P (gD G) vwCl (X ++ [(a, aI G N f)]) H) (hD : va_D A (X ++ [(a, aI G N f)])) (hS : va_S A s.heap H locs) (hA : ∀ q, s.heap.size ≤ q → A q)
    (ok : okS own idx yJ7_fill_53178 cJ7_fill_53178 4 none 2) (hN : Nat.blt N 1000 = true) (hR : 0 + 1 ≤ R.frames ∧ 8 + (4 + 11) + 0 ≤ R.locals) (hl : ls.size = nL) (hrest : (rest.map fun v => v.category).sum ≤ 8) (hcs : cells ≤ R.cells ∧ slots ≤ R.slots) (hdg : decode cc pc = .ok (.invokestatic idx, 3))
    (kk : ∀ (H1 : Heap) (locs1 : List Loc), va_P (gD G) vwCl (X ++ [(a, aI G N (fl N N x f))]) H1 → va_D A (X ++ [(a, aI G N (fl N N x f))]) → va_S A s.heap H1 locs1 → W p l e R s m args below meth c H1 locs1 cells slots Q (F0 m (pc + 3) ls rest)) : W p l e R s m args below meth c H locs cells slots Q (F0 m pc ls (.int x :: .ref a :: rest)) := by
  have hts := CF.2.2.2.2
  have hN : N < 1000 := Nat.le_of_ble_eq_true hN
  refine va_callv (va_runS (As := [.ref a, .int x]) (rest := rest) CF (c_fill l G a H.size N x f hN) (va_cwS 2 hts ok.1 rfl rfl rfl ok.2 hR) ⟨PF_blind, fun U hU hW => ⟨rfl, by rw [hU], by rw [hU]; exact jl hP, va_K.moved hW.alike hK⟩⟩ rfl rfl hl rfl (lv_room hrest) hdg hcs) hS (fun q _ h => jf hD hS hA q h) (jf hD hS hA) (fun u t H1 locs1 ht hvm hw hB hz1 hk1 hS1 => ?_)
  obtain ⟨hP1, hD1⟩ := hB
  rw [ht] at hP1
  obtain ⟨a1, a2⟩ := jn hP hD hk1 (jf hD hS hA) hP1 hD1
  exact kk H1 locs1 a1 a2 hS1

theorem nf_0 : ∀ j, j < 1 → defaultValue (tyX0 j) = vp_V [.null] j := fun j hj => by
  rcases (show j = 0 by omega) with rfl <;> rfl
theorem nf_1 : ∀ j, j < 8 → defaultValue (tyX1 j) = vp_V [.null, .null, .null, .null, .int 0, .int 0, .int 0, .int 0] j := fun j hj => by
  rcases (show j = 0 ∨ j = 1 ∨ j = 2 ∨ j = 3 ∨ j = 4 ∨ j = 5 ∨ j = 6 ∨ j = 7 by omega) with rfl | rfl | rfl | rfl | rfl | rfl | rfl | rfl <;> rfl
theorem nf_2 : ∀ j, j < 1 → defaultValue (tyX2 j) = vp_V [.null] j := fun j hj => by
  rcases (show j = 0 by omega) with rfl <;> rfl
theorem nf_3 : ∀ j, j < 3 → defaultValue (tyX3 j) = vp_V [.null, .int 0, .int 0] j := fun j hj => by
  rcases (show j = 0 ∨ j = 1 ∨ j = 2 by omega) with rfl | rfl | rfl <;> rfl
theorem nf_4 : ∀ j, j < 6 → defaultValue (tyX4 j) = vp_V [.null, .int 0, .int 0, .int 0, .int 0, .int 0] j := fun j hj => by
  rcases (show j = 0 ∨ j = 1 ∨ j = 2 ∨ j = 3 ∨ j = 4 ∨ j = 5 by omega) with rfl | rfl | rfl | rfl | rfl | rfl <;> rfl
theorem nf_5 : ∀ j, j < 7 → defaultValue (tyX5 j) = vp_V [.null, .null, .null, .null, .null, .null, .int 0] j := fun j hj => by
  rcases (show j = 0 ∨ j = 1 ∨ j = 2 ∨ j = 3 ∨ j = 4 ∨ j = 5 ∨ j = 6 by omega) with rfl | rfl | rfl | rfl | rfl | rfl | rfl <;> rfl
theorem nf_6 : ∀ j, j < 21 → defaultValue (tyX6 j) = vp_V [.null, .null, .null, .int 0, .null, .null, .int 0, .int 0, .int 0, .int 0, .int 0, .int 0, .null, .null, .int 0, .int 0, .int 0, .null, .null, .null, .null] j := fun j hj => by
  rcases (show j = 0 ∨ j = 1 ∨ j = 2 ∨ j = 3 ∨ j = 4 ∨ j = 5 ∨ j = 6 ∨ j = 7 ∨ j = 8 ∨ j = 9 ∨ j = 10 ∨ j = 11 ∨ j = 12 ∨ j = 13 ∨ j = 14 ∨ j = 15 ∨ j = 16 ∨ j = 17 ∨ j = 18 ∨ j = 19 ∨ j = 20 by omega) with rfl | rfl | rfl | rfl | rfl | rfl | rfl | rfl | rfl | rfl | rfl | rfl | rfl | rfl | rfl | rfl | rfl | rfl | rfl | rfl | rfl <;> rfl
theorem okI_5_9 : okI RX5 9 yX1_init cX1_init 2 := okI_of w_26 w_27 w_2 w_28 rfl (by decide +kernel)
theorem okI_5_24 : okI RX5 24 yX4_init cX4_init 1 := okI_of w_100 w_101 w_6 w_102 rfl (by decide +kernel)
theorem okI_5_35 : okI RX5 35 yX3_init cX3_init 1 := okI_of w_128 w_129 w_7 w_130 rfl (by decide +kernel)
theorem okI_1_30 : okI RX1 30 yX2_init cX2_init 1 := okI_of w_36 w_37 w_4 w_38 rfl (by decide +kernel)
theorem okI_1_37 : okI RX1 37 yX0_init cX0_init 1 := okI_of w_51 w_52 w_5 w_53 rfl (by decide +kernel)
