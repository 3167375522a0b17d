theorem okI_L_9 : okI RL 9 yX5_init cX5_init 2 := okI_of w_18 w_19 w_1 w_20 rfl (by decide +kernel)
theorem okI_L_12 : okI RL 12 yX6_init cX6_init 2 := okI_of w_694 w_695 w_8 w_696 rfl (by decide +kernel)
theorem EX_blind {G : GG} {h0 : Nat} (U : State) (g : JFrame) (mk : MethodId) (a : Array Value) (h : EX G h0 U) : EX G h0 (U.calling g mk a) :=
  ⟨fun k q hk => vk_R.same (u := U) (U := U.calling g mk a) rfl (h.1 k q hk), vk_S.moved (u := U) (U := U.calling g mk a) (Vm.Alike.refl U.vm) h.2⟩
set_option maxHeartbeats 8000000 in
set_option maxRecDepth 100000 in
/-- THE LAW, from its entry -/
theorem whole_start {p : Program} {e : Env} {s : State} {m : MethodId} {below : List Frame} {meth : Method} {c : Code} (l : Launch) (hflags : l.flags = flags0) {b L : Nat} {xs : Nat → Int32} (hL : L ≤ 3072) (C0 : lw_At p s m meth c b L xs) : W p l e room_1 s m #[Value.ref b] below meth c s.heap [] 0 0 (lw_Z below #[Value.ref b] s) (entryFrame m ([Value.ref b] : List Value).toArray 4) := by
  obtain ⟨hx, hb, hr, hml, hown, hts0, hX, hbl, hlocks, hgv⟩ := C0
  have hown : s.vm.findClass RL = some m.cls := hown
  have hts : ∀ w ∈ tb, w.before #[Value.ref b] s = true := fun w h => hts0 w (List.mem_filter.mp h).1
  obtain ⟨G, hK, hN, e3, e4, e5, e6, e7⟩ := law_env hts0 hgv
  have CF : CallFix p m c code 4 s #[Value.ref b] tb RL := ⟨hx, hb, hml, hown, hts⟩
  have hA : ∀ q : Nat, s.heap.size ≤ q → (fun q : Nat => s.heap.size ≤ q) q := fun _ h => h
  have hS : va_S (fun q : Nat => s.heap.size ≤ q) s.heap s.heap [] := va_S.rf
  have hP : va_P (gD G) vwCl [] s.heap := fun k q h => by simp at h
  have hD : va_D (fun q : Nat => s.heap.size ≤ q) [] := ⟨fun i j p q h => by simp at h, fun k q h => by simp at h⟩
  have hl := lv_entry ([.ref b]) (n := 4) (Nat.le_of_ble_eq_true rfl)
  rw [lg_entry_eq]
  generalize (lg_sl ([.ref b]) ++ List.replicate (4 - (lg_sl ([.ref b])).length) Slot.unset).toArray = ls at hl ⊢
  have hl : lv_has ls 4 [(0, .ref b)] := hl
  refine va_new (ci := 5) (fs := [.null, .null, .null, .null, .null, .null, .int 0]) (C := RX5) (T := TX5) (N := 7) hx hb hts inT_5 tyX5 tyX5_ok hown (hts (.classLink RL 7 RX5) w_16) (hts (.instantiable RX5 7) w_17) (hts (.initialized RX5) w_1) hK hP hD hS hA rfl nf_5 (Nat.le_of_ble_eq_true rfl) (Nat.le_of_ble_eq_true rfl) dL_law_0 (fun q0 H hP hD hS => ?_)
  refine W.widen (k := 1) (n := 7) (Nat.le_of_ble_eq_true rfl) (Nat.le_of_ble_eq_true rfl) ?_
  refine lv_dup hx hb dL_law_3 rfl ?_
  refine kN CF hK hN hP hD hS hA (fun _ _ _ _ h => h) (fun _ _ _ => trivial) (c_X5_init l G q0 H.size) okI_L_9 rfl rfl ⟨Nat.le_of_ble_eq_true rfl, Nat.le_of_ble_eq_true rfl⟩ hl.1 (Nat.le_of_ble_eq_true rfl) ⟨Nat.le_of_ble_eq_true rfl, Nat.le_of_ble_eq_true rfl⟩ dL_law_4 (fun u H locs hu hP hD hS => ?_)
  obtain ⟨w, u1, u2, u3⟩ := u
  have hu : w 0 = q0 := hu
  have hP : va_P (gD G) vwCl (fW G w u1 u2 u3) H := hP
  have hD : va_D (fun q : Nat => s.heap.size ≤ q) (fW G w u1 u2 u3) := hD
  refine W.widen (k := 112) (n := 688) (Nat.le_of_ble_eq_true rfl) (Nat.le_of_ble_eq_true rfl) ?_
  refine lv_astore_n (lv' := [(1, .ref q0), (0, .ref b)]) hx hb dL_law_7 rfl hl (by decide) rfl (fun ls hl => ?_)
  refine va_new (ci := 6) (fs := [.null, .null, .null, .int 0, .null, .null, .int 0, .int 0, .int 0, .int 0, .int 0, .int 0, .null, .null, .int 0, .int 0, .int 0, .null, .null, .null, .null]) (C := RX6) (T := TX6) (N := 21) hx hb hts inT_6 tyX6 tyX6_ok hown (hts (.classLink RL 10 RX6) w_692) (hts (.instantiable RX6 21) w_693) (hts (.initialized RX6) w_8) hK hP hD hS hA rfl nf_6 (Nat.le_of_ble_eq_true rfl) (Nat.le_of_ble_eq_true rfl) dL_law_8 (fun m0 H hP hD hS => ?_)
  refine W.widen (k := 113) (n := 709) (Nat.le_of_ble_eq_true rfl) (Nat.le_of_ble_eq_true rfl) ?_
  refine lv_dup hx hb dL_law_11 rfl ?_
  have hE : ∀ U : State, U.heap = H → s.WarmedH U.vm → EX G m0 U := fun U hU hW => by
    refine ⟨fun k q hk => (e7 k q hk).warm hW, ?_⟩
    rw [hU]
    exact vk_S.moved hW.alike (vk_S.narrow (e6.kept (fun a h1 h2 => hS.2.1 a h1 h2)) (fun q h => jf hD hS hA q h))
  refine kN CF hK hN hP hD hS hA EX_blind hE (c_X6_init l G m0 H.size) okI_L_12 rfl rfl ⟨Nat.le_of_ble_eq_true rfl, Nat.le_of_ble_eq_true rfl⟩ hl.1 (Nat.le_of_ble_eq_true rfl) ⟨Nat.le_of_ble_eq_true rfl, Nat.le_of_ble_eq_true rfl⟩ dL_law_12 (fun wm H locs hm hP hD hS => ?_)
  refine W.widen (k := 124) (n := 1928) (Nat.le_of_ble_eq_true rfl) (Nat.le_of_ble_eq_true rfl) ?_
  have hm : wm 0 = m0 := hm
  obtain ⟨hI, hG⟩ := as_I hD
  have hW := as_W hP
  have n3 : ∀ q, gA (gF G wm w u1 u2 u3) q → (fun q : Nat => s.heap.size ≤ q) q := hG
  have X : Cx (gF G wm w u1 u2 u3) s := ⟨hK, hI, fun k hk => ⟨(e3 k hk).1.narrow n3, (e3 k hk).2.narrow n3⟩, e4.narrow n3, e5.narrow n3, e6.narrow n3, e7⟩
  refine lv_astore_n (lv' := [(2, .ref m0), (1, .ref q0), (0, .ref b)]) hx hb dL_law_15 rfl hl (by decide) rfl (fun ls hl => ?_)
  refine lv_iconst (v := 0) hx hb dL_law_16 (by decide) ?_
  refine lv_istore_n (lv' := [(3, .int 0), (2, .ref m0), (1, .ref q0), (0, .ref b)]) hx hb dL_law_17 rfl hl (by decide) rfl (fun ls hl => ?_)
  subst hu
  subst hm
  have hS2 : va_S (gA (gF G wm w u1 u2 u3)) s.heap H [] := ⟨hS.1, fun q h1 h2 => hS.2.1 q h1 (Nat.not_le.mpr h1), fun _ h => by cases h⟩
  refine va_forget (fun z hz => hS.2.2 z hz) ?_
  exact law_loop (G := gF G wm w u1 u2 u3) hL ⟨⟨CF, hr, hlocks, X⟩, hX, hbl, fun h => absurd (hG _ h) (Nat.not_le.mpr hbl), Nat.le_of_ble_eq_true rfl, Nat.le_of_ble_eq_true rfl⟩ hG (Nat.le_of_ble_eq_true rfl) (Nat.le_of_ble_eq_true rfl) (L + 7) 0 vst H [] ls (by omega) (by omega) hW rel_0 hS2 (lv_sub hl [3, 2, 1, 0] rfl)
