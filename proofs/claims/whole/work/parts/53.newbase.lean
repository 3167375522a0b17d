/-! CONSTRUCTORS: worlds that grow at their ends -/
abbrev aI (G : GG) (n : Nat) (f : Nat → Int32) : va_E := .inl (ca G 7, n, .inl f)
abbrev aB (G : GG) (n : Nat) (f : Nat → Int32) : va_E := .inl (ca G 8, n, .inl f)
abbrev aQ (G : GG) (k n : Nat) (f : Nat → Option Nat) : va_E := .inl (ca G k, n, .inr (.inr (.inr (.inr f))))
abbrev z0 : Nat → Int32 := fun _ => 0
abbrev n0 : Nat → Option Nat := fun _ => none
abbrev pN (G : GG) (ws : va_W) (H : Heap) : Prop := va_P (gD G) vwCl ws H
theorem jn {A0 : Nat → Prop} {D : va_G} {cl : List vw_C} {X w1 : va_W} {x : Nat × va_E} {H H1 : Heap} (hP : va_P D cl (X ++ [x]) H) (hD : va_D A0 (X ++ [x])) (hk : ∀ q : Nat, q < H.size → ¬ va_A [x] H.size q → H1[q]? = H[q]?) (hF : ∀ q, va_A [x] H.size q → A0 q) (hP1 : va_P D cl w1 H1) (hD1 : va_D (va_A [x] H.size) w1) : va_P D cl (X ++ w1) H1 ∧ va_D A0 (X ++ w1) := by
  have hx : (X ++ [x])[X.length]? = some x := by simp
  have hX : ∀ (k : Nat) (q : Nat × va_E), X[k]? = some q → (X ++ [x])[k]? = some q ∧ k < X.length := fun k q h => by
    have hl := (List.getElem?_eq_some_iff.mp h).1
    exact ⟨by rw [List.getElem?_append_left hl]; exact h, hl⟩
  have apart : ∀ (k : Nat) (q : Nat × va_E), X[k]? = some q → q.1 < H.size ∧ ¬ va_A [x] H.size q.1 := by
    intro k q h
    obtain ⟨h1, h2⟩ := hX k q h
    have hl := (hP k q h1).lt
    refine ⟨hl, fun z => ?_⟩
    rcases z with ⟨k2, e, z⟩ | z
    · have hk2 : k2 < 1 := (List.getElem?_eq_some_iff.mp z).1
      obtain rfl : k2 = 0 := by omega
      have z : x = (q.1, e) := Option.some.inj z
      have := hD.1 k X.length q x h1 hx (by rw [z])
      omega
    · omega
  refine ⟨va_P.app (fun k q h => ?_) hP1, va_D.app ⟨fun i j p q h1 h2 h3 => hD.1 i j p q (hX i p h1).1 (hX j q h2).1 h3, fun k q h => hD.2 k q (hX k q h).1⟩ (hD1.weaken (fun k q _ h => hF q.1 h)) (fun i j p q h1 h2 h3 => (apart i p h1).2 (by rw [h3]; exact hD1.2 j q h2))⟩
  obtain ⟨h1, -⟩ := hX k q h
  obtain ⟨g1, g2⟩ := apart k q h
  exact (hP k q h1).kept (hk q.1 g1 g2)
theorem jl {D : va_G} {cl : List vw_C} {X : va_W} {x : Nat × va_E} {H : Heap} (hP : va_P D cl (X ++ [x]) H) : va_P D cl [x] H := by
  intro k q h
  have hk : k < 1 := (List.getElem?_eq_some_iff.mp h).1
  obtain rfl : k = 0 := by omega
  have h : x = q := Option.some.inj h
  subst h
  exact hP X.length _ (by simp)
theorem jf {A0 : Nat → Prop} {X : va_W} {x : Nat × va_E} {H0 H : Heap} {locs : List Loc} (hD : va_D A0 (X ++ [x])) (hS : va_S A0 H0 H locs) (hA : ∀ q, H0.size ≤ q → A0 q) : ∀ q, va_A [x] H.size q → A0 q := by
  intro q h
  rcases h with ⟨k, e, h⟩ | h
  · have hk : k < 1 := (List.getElem?_eq_some_iff.mp h).1
    obtain rfl : k = 0 := by omega
    have h : x = (q, e) := Option.some.inj h
    subst h
    exact hD.2 X.length (q, e) (by simp)
  · exact hA q (Nat.le_trans hS.1 h)
theorem rot_i {α : Type} {P T Z : List α} {k : Nat} {q : α} (h : (P ++ (Z ++ T))[k]? = some q) : ∃ i, ((P ++ T) ++ Z)[i]? = some q ∧ i = (if k < P.length then k else if k < P.length + Z.length then k + T.length else k - Z.length) := by
  by_cases h1 : k < P.length
  · refine ⟨_, ?_, rfl⟩
    rw [if_pos h1, List.getElem?_append_left (by rw [List.length_append]; omega), List.getElem?_append_left h1]
    rw [List.getElem?_append_left h1] at h
    exact h
  · refine ⟨_, ?_, rfl⟩
    rw [if_neg h1]
    rw [List.getElem?_append_right (by omega)] at h
    by_cases h2 : k < P.length + Z.length
    · rw [if_pos h2, List.getElem?_append_right (by rw [List.length_append]; omega), List.length_append, show k + T.length - (P.length + T.length) = k - P.length by omega]
      rw [List.getElem?_append_left (by omega)] at h
      exact h
    · rw [if_neg h2]
      rw [List.getElem?_append_right (by omega)] at h
      have hl := (List.getElem?_eq_some_iff.mp h).1
      rw [List.getElem?_append_left (by rw [List.length_append]; omega), List.getElem?_append_right (by omega), show k - Z.length - P.length = k - P.length - Z.length by omega]
      exact h
theorem rotP {D : va_G} {cl : List vw_C} {P T Z : va_W} {H : Heap} (hP : va_P D cl ((P ++ T) ++ Z) H) : va_P D cl (P ++ (Z ++ T)) H := by
  intro k q h
  obtain ⟨i, hi, -⟩ := rot_i h
  exact hP i q hi
theorem rotD {A : Nat → Prop} {P T Z : va_W} (hD : va_D A ((P ++ T) ++ Z)) : va_D A (P ++ (Z ++ T)) := by
  refine ⟨fun i j x y hx hy hxy => ?_, fun k q h => ?_⟩
  · obtain ⟨i', hi, ei⟩ := rot_i hx
    obtain ⟨j', hj, ej⟩ := rot_i hy
    have := hD.1 i' j' x y hi hj hxy
    have hli := (List.getElem?_eq_some_iff.mp hx).1
    have hlj := (List.getElem?_eq_some_iff.mp hy).1
    rw [List.length_append, List.length_append] at hli hlj
    subst ei; subst ej
    split at this <;> split at this <;> (try split at this) <;> (try split at this) <;> omega
  · obtain ⟨i, hi, -⟩ := rot_i h
    exact hD.2 i q hi
theorem va_at_q {D : va_G} {cl : List vw_C} {a n : Nat} {cA : ClassId} {f g : Nat → Option Nat} {H : Heap} (h : va_at D cl (a, .inl (cA, n, .inr (.inr (.inr (.inr f))))) H) (hfg : ∀ j, j < n → f j = g j) : va_at D cl (a, .inl (cA, n, .inr (.inr (.inr (.inr g))))) H := by
  have h : H[a]? = some (vp_cell cA (n, .inr (.inr (.inr (.inr f))))) := h
  show H[a]? = some (vp_cell cA (n, .inr (.inr (.inr (.inr g)))))
  rw [h, vp_cell_q, vp_cell_q]
  unfold arrV
  congr 3
  funext j
  show va_rf (f j.val) = va_rf (g j.val)
  rw [hfg j.val j.isLt]
theorem va_P_cg {D : va_G} {cl : List vw_C} {A : Nat → Prop} {ws : va_W} {i a : Nat} {e0 e : va_E} {H : Heap} (hP : va_P D cl ws H) (hD : va_D A ws) (h : ws[i]? = some (a, e0)) (he : va_at D cl (a, e) H) : va_P D cl (ws.set i (a, e)) H := hP.set hD h he (fun _ _ => rfl)
/-- what the tables say of the array classes whose makers are here -/
def NX (U : State) : Prop := va_AO RX2 U ∧ va_AO RX0 U ∧ va_AO RX3 U ∧ va_AO "java/lang/String" U
theorem NX.moved {u U : State} (hvm : u.vm.Alike U.vm) (h : NX u) : NX U := ⟨h.1.moved hvm, h.2.1.moved hvm, h.2.2.1.moved hvm, h.2.2.2.moved hvm⟩
def PN (G : GG) (h0 : Nat) (e0 : va_E) (sz : Nat) (E : State → Prop) : Array Value → State → Prop := va_Pc [.ref h0] (fun U => U.heap.size = sz ∧ va_P (gD G) vwCl [(h0, e0)] U.heap ∧ va_K (gD G) vwCl (tyL G) U ∧ NX U ∧ E U)
def QN (G : GG) (h0 : Nat) (e0 : va_E) (sz : Nat) {S : Type} (post : S → Prop) (ww : S → va_W) : Array Value → State → Outcome → State → Prop := va_Qv post (fun u t => va_P (gD G) vwCl (ww u) t.heap ∧ va_D (va_A [(h0, e0)] sz) (ww u)) (va_A [(h0, e0)] sz)
theorem PN_blind {G : GG} {h0 sz : Nat} {e0 : va_E} {E : State → Prop} (hE : ∀ (U : State) (g : JFrame) (mk : MethodId) (a : Array Value), E U → E (U.calling g mk a)) : FrameBlind (PN G h0 e0 sz E) := fun a U g mk q => ⟨q.1, q.2.1, q.2.2.1, va_K.moved (u := U) (U := U.calling g mk a) (Vm.Alike.refl U.vm) q.2.2.2.1, NX.moved (u := U) (U := U.calling g mk a) (Vm.Alike.refl U.vm) q.2.2.2.2.1, hE U g mk a q.2.2.2.2.2⟩
/-- what holds all along a constructor's body -/
def MN (G : GG) (own : String) (cc : ByteArray) (nL : Nat) (p : Program) (s : State) (m : MethodId) (args : Array Value) (meth : Method) (c : Code) : Prop :=
  CallFix p m c cc nL s args tb own ∧ meth.sig.returnType = none ∧ meth.locks = false ∧ meth.name = "<init>" ∧ va_K (gD G) vwCl (tyL G) s ∧ NX s
theorem met_new {l : Launch} {G : GG} {y : MethodName} {b : ByteArray} {n : Nat} {rm : Room} {h0 sz mc ms : Nat} {e0 : va_E} {E : State → Prop} {S : Type} {post : S → Prop} {ww : S → va_W} (own : String) (hy : plainName y.cls = true) (hown : y.cls = own) (hnm : y.name = "<init>") (hn : 1 ≤ n)
    (body : ∀ (p : Program) (e : Env) (s : State) (m : MethodId) (below : List Frame) (meth : Method) (c : Code) (A : Nat → Prop), MN G own b n p s m #[Value.ref h0] meth c → E s → (va_A [(h0, e0)] s.heap.size = A) → (∀ q : Nat, s.heap.size ≤ q → A q) → va_P (gD G) vwCl [(h0, e0)] s.heap → va_D A [(h0, e0)] → ∀ ls : Array Slot, lv_has ls n [(0, .ref h0)] →
      W p l e rm s m #[Value.ref h0] below meth c s.heap [] 0 0 (MQ below (va_Qv post (fun u t => va_P (gD G) vwCl (ww u) t.heap ∧ va_D A (ww u)) A) #[Value.ref h0] s mc ms A) (F0 m 0 ls [])) : Met l y (cdW y b n none) rm (PN G h0 e0 sz E) (QN G h0 e0 sz post ww) mc ms (va_A [(h0, e0)] sz) := by
  refine Met.ofW (cc := b) (maxL := n) (ret := none) hy rfl ?_
  intro p e s m args below meth c s₁ B hml hv
  obtain ⟨rfl, hsz, hP, hK, hN, hE⟩ := hv
  subst hsz
  have hts := atoms_spec (ws := cdW y b n none) B.pre
  have hown2 : s.vm.findClass y.cls = some m.cls := findClass_of_methodNamed B.named
  have hin : meth.name = "<init>" := (name_of_methodNamed B.named B.method).1.trans hnm
  have hl := lv_entry ([.ref h0] : List Value) (n := n) (by show 1 ≤ n; exact hn)
  rw [lg_entry_eq]
  generalize (lg_sl ([.ref h0] : List Value) ++ List.replicate (n - (lg_sl ([.ref h0] : List Value)).length) Slot.unset).toArray = ls at hl ⊢
  refine body p e s m below meth c _ ⟨⟨B.exec, B.bytes, hml, by rw [← hown]; exact hown2, fun w h => hts w (List.mem_cons_of_mem _ h)⟩, B.returns, B.notSynchronized, hin, hK, hN⟩ hE rfl (fun q h => Or.inr h) hP ?_ ls hl
  refine ⟨fun i j x y hx hy _ => ?_, fun k q hk => va_A.in hk⟩
  have := (List.getElem?_eq_some_iff.mp hx).1
  have := (List.getElem?_eq_some_iff.mp hy).1
  simp only [List.length_cons, List.length_nil] at *
  omega
/-- the words of a call of a constructor without arguments -/
def okI (own : String) (idx : Nat) (y : MethodName) (b : ByteArray) (n : Nat) : Prop :=
  GoodIn tb (cdW y b n none) ∧ Cond.initialized y.cls ∈ tb ∧ Cond.methodLink own idx y ∈ tb ∧ Cond.instanceMethod y ∈ tb ∧ y.name = "<init>" ∧ (y.cls ≠ "java/lang/invoke/MethodHandle" ∧ y.cls ≠ "java/lang/invoke/VarHandle" ∧ (parseMethodDescriptor y.desc).map (fun d => d.parameters.length) = some 0)
theorem okI_of {own : String} {idx : Nat} {y : MethodName} {b : ByteArray} {n : Nat} (h1 : Cond.methodLink own idx y ∈ tb) (h2 : Cond.instanceMethod y ∈ tb) (h4 : Cond.initialized y.cls ∈ tb) (h5 : Cond.code y b n none ∈ tb) (hn : y.name = "<init>")
    (hd : y.cls ≠ "java/lang/invoke/MethodHandle" ∧ y.cls ≠ "java/lang/invoke/VarHandle" ∧ (parseMethodDescriptor y.desc).map (fun d => d.parameters.length) = some 0) : okI own idx y b n := by
  refine ⟨fun w hw => ?_, h4, h1, h2, hn, hd⟩
  rcases List.mem_cons.mp hw with rfl | h
  · exact good_tb h5
  · exact good_tb h
section NEWS
variable {p : Program} {l : Launch} {e : Env} {R : Room} {s : State} {m : MethodId} {args : Array Value} {below : List Frame} {meth : Method} {c : Code} {H : Heap} {locs : List Loc} {G : GG} {own : String} {cc bb : ByteArray} {nL n pc idx cells slots mc ms b0 : Nat} {ls : Array Slot} {Q : State → Prop} {rest : List Value} {y : MethodName} {rm : Room} {A : Nat → Prop} {X ws : va_W} {e0 : va_E} {E : State → Prop}
/-- a constructor's call on the cell that was made last -/
theorem kN {S : Type} {post : S → Prop} {ww : S → va_W} (CF : CallFix p m c cc nL s args tb own) (hK : va_K (gD G) vwCl (tyL G) s) (hN : NX s) (hP : va_P (gD G) vwCl (X ++ [(b0, e0)]) H) (hD : va_D A (X ++ [(b0, e0)])) (hS : va_S A s.heap H locs) (hA : ∀ q, s.heap.size ≤ q → A q) (hEb : ∀ (U : State) (g : JFrame) (mk : MethodId) (a : Array Value), E U → E (U.calling g mk a)) (hE : ∀ U : State, U.heap = H → s.WarmedH U.vm → E U)
    (hM : Met l y (cdW y bb n none) rm (PN G b0 e0 H.size E) (QN G b0 e0 H.size post ww) mc ms (va_A [(b0, e0)] H.size)) (ok : okI own idx y bb n) (hrc : rm.cells = mc) (hrs : rm.slots = ms) (hR : rm.frames + 1 ≤ R.frames ∧ 8 + (n + 11) + rm.locals ≤ R.locals) (hl : ls.size = nL) (hrest : (rest.map fun v => v.category).sum ≤ 8) (hcs : cells + mc ≤ R.cells ∧ slots + ms ≤ R.slots) (hdg : decode cc pc = .ok (.invokespecial idx, 3))
    (kk : ∀ (u : S) (H1 : Heap) (locs1 : List Loc), post u → va_P (gD G) vwCl (X ++ ww u) H1 → va_D A (X ++ ww u) → va_S A s.heap H1 locs1 → W p l e R s m args below meth c H1 locs1 (cells + mc) (slots + ms) Q (F0 m (pc + 3) ls rest)) : W p l e R s m args below meth c H locs cells slots Q (F0 m pc ls (.ref b0 :: rest)) := by
  obtain ⟨g1, g2, g3, g4, g5, g6⟩ := ok
  have hts := CF.2.2.2.2
  refine va_callv (va_runI (As := []) (rest := rest) CF hM (cwI 0 hts g1 rfl hrc hrs (hts _ g2) (hts _ g3) (hts _ g4) g5 g6 hR) ⟨PN_blind hEb, fun U hU hW => ⟨rfl, by rw [hU], by rw [hU]; exact jl hP, va_K.moved hW.alike hK, NX.moved hW.alike hN, hE U hU hW⟩⟩ rfl rfl hl rfl (lv_room hrest) hdg hcs) hS (fun q _ h => jf hD hS hA q h) (jf hD hS hA) (fun u t H1 locs1 ht hvm hw hB hz1 hk1 hS1 => ?_)
  obtain ⟨hP1, hD1⟩ := hB
  rw [ht] at hP1
  obtain ⟨a1, a2⟩ := jn hP hD hk1 (jf hD hS hA) hP1 hD1
  exact kk u H1 locs1 hw a1 a2 hS1
/-- Object's own constructor -/
theorem kO (CF : CallFix p m c cc nL s args tb own) (hlk : Cond.methodLink own idx objectInit ∈ tb) (hl : ls.size = nL) (hf : 1 ≤ R.frames) (hr : (rest.map fun v => v.category).sum + 12 ≤ R.locals) (hdg : decode cc pc = .ok (.invokespecial idx, 3)) (kk : W p l e R s m args below meth c H locs cells slots Q (F0 m (pc + 3) ls rest)) : W p l e R s m args below meth c H locs cells slots Q (F0 m pc ls (.ref b0 :: rest)) := by
  obtain ⟨hx, hb, hml, hown, hts⟩ := CF
  refine W.objInit hx hb hown (hts _ hlk) (hts (.instanceMethod objectInit) w_22) (hts (.code objectInit ⟨#[0xb1]⟩ 1 none) w_23) rfl (by rw [hml]; exact hl) rfl hdg hf (by show 2 * 0 + _ + 12 ≤ _; omega) ?_
  exact W.eq rfl kk
/-- an int array -/
theorem nA_i (hx : p.tables.exec = Jvm.exec) (hb : c.code = cc) (harr : (Cond.arrayClass .int).before args s = true) (hK : va_K (gD G) vwCl (tyL G) s) (hP : va_P (gD G) vwCl ws H) (hD : va_D A ws) (hS : va_S A s.heap H locs) (hA : ∀ q, s.heap.size ≤ q → A q) {k : Int32} (N : Nat) (hn : ¬ k < 0) (hN : k.toNatClampNeg = N) (hby : N * 4 ≤ 536870912) (hc : cells + 1 ≤ R.cells) (hs : slots + N ≤ R.slots) (hdg : decode cc pc = .ok (.newarray .int, 2))
    (kk : ∀ (q : Nat) (H1 : Heap), va_P (gD G) vwCl (ws ++ [(q, aI G N z0)]) H1 → va_D A (ws ++ [(q, aI G N z0)]) → va_S A s.heap H1 locs → W p l e R s m args below meth c H1 locs (cells + 1) (slots + N) Q (F0 m (pc + 2) ls (.ref q :: rest))) : W p l e R s m args below meth c H locs cells slots Q (F0 m pc ls (.int k :: rest)) := by
  refine va_newa (atype := .int) (a0 := (N, .inl z0)) hx hb harr rfl hK hP hD hS hA (fun _ => rfl) hn hN hby hc hs hdg (fun q cA H1 hK1 hP1 hD1 hS1 => ?_)
  have e1 : va_RA s cA .int := (hK1.2 6 _ rfl).2
  have e2 : va_RA s (ca G 7) .int := (hK.2 0 _ rfl).2
  have : cA = ca G 7 := Option.some.inj (Eq.trans (Eq.symm e1) e2)
  subst this
  exact kk q H1 hP1 hD1 hS1
theorem nA_b (hx : p.tables.exec = Jvm.exec) (hb : c.code = cc) (harr : (Cond.arrayClass .byte).before args s = true) (hK : va_K (gD G) vwCl (tyL G) s) (hP : va_P (gD G) vwCl ws H) (hD : va_D A ws) (hS : va_S A s.heap H locs) (hA : ∀ q, s.heap.size ≤ q → A q) {k : Int32} (N : Nat) (hn : ¬ k < 0) (hN : k.toNatClampNeg = N) (hby : N * 1 ≤ 536870912) (hc : cells + 1 ≤ R.cells) (hs : slots + N ≤ R.slots) (hdg : decode cc pc = .ok (.newarray .byte, 2))
    (kk : ∀ (q : Nat) (H1 : Heap), va_P (gD G) vwCl (ws ++ [(q, aB G N z0)]) H1 → va_D A (ws ++ [(q, aB G N z0)]) → va_S A s.heap H1 locs → W p l e R s m args below meth c H1 locs (cells + 1) (slots + N) Q (F0 m (pc + 2) ls (.ref q :: rest))) : W p l e R s m args below meth c H locs cells slots Q (F0 m pc ls (.int k :: rest)) := by
  refine va_newa (atype := .byte) (a0 := (N, .inl z0)) hx hb harr rfl hK hP hD hS hA (fun _ => rfl) hn hN hby hc hs hdg (fun q cA H1 hK1 hP1 hD1 hS1 => ?_)
  have e1 : va_RA s cA .byte := (hK1.2 6 _ rfl).2
  have e2 : va_RA s (ca G 8) .byte := (hK.2 1 _ rfl).2
  have : cA = ca G 8 := Option.some.inj (Eq.trans (Eq.symm e1) e2)
  subst this
  exact kk q H1 hP1 hD1 hS1
/-- an array of references, of the class whose array class is the tables' t0-th -/
theorem nA_q (hx : p.tables.exec = Jvm.exec) (hb : c.code = cc) (hown : s.vm.findClass own = some m.cls) {C : String} (t0 kc : Nat) (ht : (tyL G)[t0]? = some (ca G kc, .object C)) (hlk : (Cond.classLink own idx C).before args s = true) (hover : va_AO C s) (hK : va_K (gD G) vwCl (tyL G) s) (hP : va_P (gD G) vwCl ws H) (hD : va_D A ws) (hS : va_S A s.heap H locs) (hA : ∀ q, s.heap.size ≤ q → A q) {k : Int32} (N : Nat) (hn : ¬ k < 0) (hN : k.toNatClampNeg = N) (hby : N * 4 ≤ 536870912) (hc : cells + 1 ≤ R.cells) (hs : slots + N ≤ R.slots) (hdg : decode cc pc = .ok (.anewarray idx, 3))
    (kk : ∀ (q : Nat) (H1 : Heap), va_P (gD G) vwCl (ws ++ [(q, aQ G kc N n0)]) H1 → va_D A (ws ++ [(q, aQ G kc N n0)]) → va_S A s.heap H1 locs → W p l e R s m args below meth c H1 locs (cells + 1) (slots + N) Q (F0 m (pc + 3) ls (.ref q :: rest))) : W p l e R s m args below meth c H locs cells slots Q (F0 m pc ls (.int k :: rest)) := by
  refine va_newq hx hb hown hlk hover hK hP hD hS hA hn hN hby hc hs hdg (fun q cA H1 hK1 hP1 hD1 hS1 => ?_)
  obtain ⟨_, _, _, _, _, e1⟩ : va_RA s cA (.object C) := (hK1.2 6 _ rfl).2
  obtain ⟨_, _, _, _, _, e2⟩ : va_RA s (ca G kc) (.object C) := (hK.2 t0 _ ht).2
  have : cA = ca G kc := Option.some.inj (Eq.trans (Eq.symm e1) e2)
  subst this
  exact kk q H1 hP1 hD1 hS1
/-- a store of an object into an array of references -/
theorem sA_q (hx : p.tables.exec = Jvm.exec) (hb : c.code = cc) (hK : va_K (gD G) vwCl (tyL G) s) (hP : va_P (gD G) vwCl ws H) (hD : va_D A ws) (hS : va_S A s.heap H locs) (q0 t0 qk ci : Nat) {a kc N v : Nat} {r : vw_C} {vs : List Value} {f : Nat → Option Nat} (ha : ws[q0]? = some (a, aQ G kc N f)) (ht : (tyL G)[t0]? = some (ca G kc, .object r.1)) (hv : ws[qk]? = some (v, .inr (ci, vs))) (hc : vwCl[ci]? = some r) {i : Int32} (k : Nat) (hi : i.toNatClampNeg = k) (hin : vp_in i N) (hdg : decode cc pc = .ok (.aastore, 1))
    (kk : ∀ (H1 : Heap) (locs1 : List Loc) (f' : Nat → Option Nat), f' = va_up f k (some v) → va_P (gD G) vwCl (ws.set q0 (a, aQ G kc N f')) H1 → va_D A (ws.set q0 (a, aQ G kc N f')) → va_S A s.heap H1 locs1 → W p l e R s m args below meth c H1 locs1 cells slots Q (F0 m (pc + 1) ls rest)) : W p l e R s m args below meth c H locs cells slots Q (F0 m pc ls (.ref v :: .int i :: .ref a :: rest)) := by
  subst hi
  exact va_astq hx hb hK hP hD hS q0 t0 qk ci ha ht hv hc hin hdg (fun H1 locs1 hP1 hD1 hS1 => kk H1 locs1 _ rfl hP1 hD1 hS1)
/-- a store of a String constant -/
theorem sA_s (hx : p.tables.exec = Jvm.exec) (hb : c.code = cc) (hK : va_K (gD G) vwCl (tyL G) s) (hP : va_P (gD G) vwCl ws H) (hD : va_D A ws) (hS : va_S A s.heap H locs) (hE : vk_S 15 lenS bytS (sk G) (sv G) A s s.heap) (q0 j : Nat) (hj : j < 15) {a N : Nat} {f : Nat → Option Nat} (ha : ws[q0]? = some (a, aQ G 12 N f)) {i : Int32} (k : Nat) (hi : i.toNatClampNeg = k) (hin : vp_in i N) (hdg : decode cc pc = .ok (.aastore, 1))
    (kk : ∀ (H1 : Heap) (locs1 : List Loc) (f' : Nat → Option Nat), f' = va_up f k (some (sk G j)) → va_P (gD G) vwCl (ws.set q0 (a, aQ G 12 N f')) H1 → va_D A (ws.set q0 (a, aQ G 12 N f')) → va_S A s.heap H1 locs1 → W p l e R s m args below meth c H1 locs1 cells slots Q (F0 m (pc + 1) ls rest)) : W p l e R s m args below meth c H locs cells slots Q (F0 m pc ls (.ref (sk G j) :: .int i :: .ref a :: rest)) := by
  subst hi
  exact vb_astq (E := "java/lang/String") (C := "java/lang/String") hx hb hK hP hD hS q0 5 ha rfl (vk_recv hE hj hS) vb_asgS hin hdg (fun H1 locs1 hP1 hD1 hS1 => kk H1 locs1 _ rfl hP1 hD1 hS1)
/-- a store into an int array -/
theorem sA_i (hx : p.tables.exec = Jvm.exec) (hb : c.code = cc) (hK : va_K (gD G) vwCl (tyL G) s) (hP : va_P (gD G) vwCl ws H) (hD : va_D A ws) (hS : va_S A s.heap H locs) (q0 : Nat) {a N : Nat} {f : Nat → Int32} (ha : ws[q0]? = some (a, aI G N f)) {i x : Int32} (k : Nat) (hi : i.toNatClampNeg = k) (hin : vp_in i N) (hdg : decode cc pc = .ok (.iastore, 1))
    (kk : ∀ (H1 : Heap) (locs1 : List Loc) (f' : Nat → Int32), f' = upd f k x → va_P (gD G) vwCl (ws.set q0 (a, aI G N f')) H1 → va_D A (ws.set q0 (a, aI G N f')) → va_S A s.heap H1 locs1 → W p l e R s m args below meth c H1 locs1 cells slots Q (F0 m (pc + 1) ls rest)) : W p l e R s m args below meth c H locs cells slots Q (F0 m pc ls (.int x :: .int i :: .ref a :: rest)) := by
  subst hi
  exact va_iast hx hb hK hP hD hS q0 0 ha rfl hin hdg (fun H1 locs1 hP1 hD1 hS1 => kk H1 locs1 _ rfl hP1 hD1 hS1)
/-- a constructor's end -/
theorem retN {S : Type} {post : S → Prop} {ww : S → va_W} (M : MN G own cc nL p s m args meth c) (u : S) (hu : post u) (hP : va_P (gD G) vwCl (ww u) H) (hD : va_D A (ww u)) (hS : va_S A s.heap H locs) (hdg : decode cc pc = .ok (.return_, 1)) : W p l e R s m args below meth c H locs cells slots (MQ below (va_Qv post (fun u t => va_P (gD G) vwCl (ww u) t.heap ∧ va_D A (ww u)) A) args s cells slots A) (F0 m pc ls []) := by
  obtain ⟨⟨hx, hb, hml, hown, hts⟩, hr, hlocks, -⟩ := M
  exact W.vret hx hb hr (fun t ht hW => ⟨⟨u, rfl, hu, by rw [ht]; exact hP, hD⟩, hS.F ht⟩) hS.2.2 hdg
end NEWS
