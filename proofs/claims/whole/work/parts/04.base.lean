/-! THE WORLD: a fixed shape of 124 cells (places), whose numbers are a memory v : place → slot → Int32.
0 FogSchoolModel; 1 now, 2 kept, 3 aside, 4 found, 5 tape, 6 items, 7 widths, 8 sizes, 9 numbers, 10 moved, 11 kindNames;
12 FogSchool; 13 findings; 14 sheets; 15..18 Sheet; 19..22 their numbers; 23 Tape; 24 its bytes; 25, 58, 91: coast, draft, kept, each
+0 Coast, +1 list, +2 spots, +3 keepers, +4 children, +5.. 8 Keeper, +13.. their rows, +21.. 6 Child, +27.. their rows. -/
abbrev VV : Type := Nat → Nat → Int32
abbrev GG : Type := va_G × (Nat → Nat) × (Nat → ClassId) × (Nat → Nat) × (Nat → Nat) × (Nat → Nat)
abbrev gD (G : GG) : va_G := G.1
abbrev ad (G : GG) : Nat → Nat := G.2.1
abbrev ca (G : GG) : Nat → ClassId := G.2.2.1
abbrev sa (G : GG) : Nat → Nat := G.2.2.2.1
abbrev sk (G : GG) : Nat → Nat := G.2.2.2.2.1
abbrev sv (G : GG) : Nat → Nat := G.2.2.2.2.2
def kdC : List Nat := [1, 7, 7, 10, 9, 2, 2, 2, 2, 2, 2, 2, 2, 7, 7, 7, 7, 7, 7, 7, 7, 0, 0, 0, 0, 0, 0, 7, 7, 7, 7, 7, 7]
def lnC : List Nat := [0, 6, 10, 8, 6, 0, 0, 0, 0, 0, 0, 0, 0, 6, 6, 6, 6, 6, 6, 6, 6, 0, 0, 0, 0, 0, 0, 4, 4, 4, 4, 4, 4]
def kdL : List Nat := [6, 7, 7, 7, 7, 7, 7, 7, 7, 7, 7, 12, 5, 7, 11, 3, 3, 3, 3, 7, 7, 7, 7, 4, 8] ++ (kdC ++ (kdC ++ kdC))
def lnL : List Nat := [0, 92, 92, 92, 8, 120, 600, 4, 4, 160, 40, 7, 0, 7, 4, 0, 0, 0, 0, 40, 40, 40, 40, 0, 120] ++ (lnC ++ (lnC ++ lnC))
def kd (i : Nat) : Nat := kdL.getD i 99
def ln (i : Nat) : Nat := lnL.getD i 0
theorem kd_len : kdL.length = 124 := rfl
theorem kd_lt {i k : Nat} (h : kd i = k) (hk : k < 99) : i < 124 := by
  rcases Nat.lt_or_ge i 124 with q | q
  · exact q
  · have e : kd i = 99 := by
      show (kdL[i]?).getD 99 = 99
      rw [List.getElem?_eq_none (by rw [kd_len]; exact q)]
      rfl
    omega
def cf (G : GG) (v : VV) (i : Nat) : va_E := match kd i with
  | 0 => .inr (0, [.ref (ad G (i + 6))])
  | 1 => .inr (1, [.ref (ad G (i + 1)), .ref (ad G (i + 2)), .ref (ad G (i + 3)), .ref (ad G (i + 4)), .int (v i 4), .int (v i 5), .int (v i 6), .int (v i 7)])
  | 2 => .inr (2, [.ref (ad G (i + 8))])
  | 3 => .inr (3, [.ref (ad G (i + 4)), .int (v i 1), .int (v i 2)])
  | 4 => .inr (4, [.ref (ad G (i + 1)), .int (v i 1), .int (v i 2), .int (v i 3), .int (v i 4), .int (v i 5)])
  | 5 => .inr (5, [.ref (ad G (i + 13)), .ref (ad G (i + 46)), .ref (ad G (i + 79)), .ref (ad G (i + 11)), .ref (ad G (i + 2)), .ref (ad G (i + 1)), .int (v i 6)])
  | 6 => .inr (6, [.ref (ad G (i + 1)), .ref (ad G (i + 2)), .ref (ad G (i + 3)), .int (v i 3), .ref (ad G (i + 4)), .ref (ad G (i + 5)), .int (v i 6), .int (v i 7), .int (v i 8), .int (v i 9), .int (v i 10), .int (v i 11), .ref (ad G (i + 11)), .ref (ad G (i + 6)), .int (v i 14), .int (v i 15), .int (v i 16), .ref (ad G (i + 7)), .ref (ad G (i + 8)), .ref (ad G (i + 9)), .ref (ad G (i + 10))])
  | 7 => .inl (ca G 7, ln i, .inl (v i))
  | 8 => .inl (ca G 8, ln i, .inl (v i))
  | 9 => .inl (ca G 9, ln i, .inr (.inr (.inr (.inr (fun j => some (ad G (i + 17 + j)))))))
  | 10 => .inl (ca G 10, ln i, .inr (.inr (.inr (.inr (fun j => some (ad G (i + 2 + j)))))))
  | 11 => .inl (ca G 11, ln i, .inr (.inr (.inr (.inr (fun j => some (ad G (i + 1 + j)))))))
  | _ => .inl (ca G 12, ln i, .inr (.inr (.inr (.inr (fun j => some (sk G j))))))
def wl (G : GG) (v : VV) : va_W := (List.range 124).map (fun i => (ad G i, cf G v i))
theorem wl_at {G : GG} {v : VV} {i : Nat} (h : i < 124) : (wl G v)[i]? = some (ad G i, cf G v i) := by
  unfold wl
  rw [List.getElem?_map, List.getElem?_range h]
  rfl
theorem wl_set {G : GG} {v v' : VV} {i : Nat} {e : va_E} (h : i < 124) (h1 : cf G v' i = e) (h2 : ∀ j, j ≠ i → cf G v' j = cf G v j) : (wl G v).set i (ad G i, e) = wl G v' := by
  apply List.ext_getElem?
  intro j
  by_cases hj : j = i
  · subst hj
    rw [List.getElem?_set_self (by unfold wl; rw [List.length_map, List.length_range]; exact h), wl_at h, h1]
  · rw [List.getElem?_set_ne (Ne.symm hj)]
    unfold wl
    rw [List.getElem?_map, List.getElem?_map]
    cases hr : (List.range 124)[j]? with
    | none => rfl
    | some k =>
      have hk : k = j := by
        have hl := (List.getElem?_eq_some_iff.mp hr).1
        rw [List.length_range] at hl
        rw [List.getElem?_range hl] at hr
        exact (Option.some.inj hr).symm
      subst hk
      show some (ad G k, cf G v k) = some (ad G k, cf G v' k)
      rw [h2 k hj]
def pu (v : VV) (i k : Nat) (x : Int32) : VV := va_up v i (upd (v i) k x)
theorem pu_self (v : VV) (i k : Nat) (x : Int32) : pu v i k x i = upd (v i) k x := va_up_self _ _ _
theorem pu_ne (v : VV) {i j : Nat} (k : Nat) (x : Int32) (h : j ≠ i) : pu v i k x j = v j := va_up_ne _ _ h
theorem cf_ne {G : GG} {v v' : VV} {j : Nat} (h : v' j = v j) : cf G v' j = cf G v j := by
  unfold cf
  rw [h]
def gA (G : GG) : Nat → Prop := fun q => ∃ i, i < 124 ∧ q = ad G i
def Wd (G : GG) (v : VV) (H : Heap) : Prop := va_P (gD G) vwCl (wl G v) H
def tyL (G : GG) : List (ClassId × FieldType) := [(ca G 7, .int), (ca G 8, .byte), (ca G 9, .object RX0), (ca G 10, .object RX2), (ca G 11, .object RX3), (ca G 12, .object "java/lang/String")]
def Inj (G : GG) : Prop := ∀ i j, i < 124 → j < 124 → ad G i = ad G j → i = j
theorem wl_D {G : GG} (hI : Inj G) (v : VV) : va_D (gA G) (wl G v) := by
  have key : ∀ (k : Nat) (q : Nat × va_E), (wl G v)[k]? = some q → k < 124 ∧ q.1 = ad G k := by
    intro k q hq
    have hl := (List.getElem?_eq_some_iff.mp hq).1
    have hk : k < 124 := by
      have : (wl G v).length = 124 := by unfold wl; rw [List.length_map, List.length_range]
      omega
    rw [wl_at hk] at hq
    exact ⟨hk, by rw [← Option.some.inj hq]⟩
  refine ⟨fun i j x y hx hy hxy => ?_, fun k q hk => ?_⟩
  · obtain ⟨a1, a2⟩ := key i x hx
    obtain ⟨b1, b2⟩ := key j y hy
    exact hI i j a1 b1 (by rw [← a2, ← b2]; exact hxy)
  · obtain ⟨a1, a2⟩ := key k q hk
    exact ⟨k, a1, a2⟩
/-- the static tables: class, name, numbers -/
def stC : List String := ["FogSchool$Keeper", "FogSchool$Keeper", "FogSchool$Keeper", "FogSchool$Keeper", "FogSchool$Child"]
def stN : List String := ["TOPS", "UNDER", "TEMPO", "TIRES", "TOPS"]
def stV : List (List Int32) := [[6, 15, 11, 15, 99, 1], [-1, 0, 0, 2, 3, 0, 1], [3, 5, 2, 4, 0, 7, 6], [2, 1, 5, 5, 0, 0, 3], [15, 9, 4095, 4095]]
def stA (k j : Nat) : Int32 := (stV.getD k []).getD j 0
def stLen (k : Nat) : Nat := (stV.getD k []).length
/-- the String constants: their texts' lengths and bytes; where the classes name them -/
def lenS : List Nat := [6, 4, 5, 4, 3, 4, 5, 5, 3, 2, 4, 4, 6, 5, 5]
def bytS : List (List Int32) := [[107, 101, 101, 112, 101, 114], [104, 101, 97, 100], [100, 114, 117, 110, 107], [112, 111, 101, 116], [104, 117, 109], [101, 99, 104, 111], [101, 108, 100, 101, 114], [99, 104, 105, 108, 100], [102, 111, 103], [97, 116], [110, 111, 116, 101], [108, 111, 117, 100], [115, 105, 108, 101, 110, 116], [113, 117, 105, 99, 107], [107, 110, 111, 119, 115]]
def strL : List (String × Nat × String × Nat) := [("FogSchool$Tape", 150, "keeper", 0), ("FogSchool$Tape", 138, "head", 1), ("FogSchool$Tape", 140, "drunk", 2), ("FogSchool$Tape", 142, "poet", 3), ("FogSchool$Tape", 144, "hum", 4), ("FogSchool$Tape", 146, "echo", 5), ("FogSchool$Tape", 148, "elder", 6), ("FogSchool$Tape", 50, "child", 7), ("FogSchool$Tape", 55, "fog", 8), ("FogSchool$Tape", 66, "at", 9), ("FogSchool$Tape", 72, "note", 10), ("FogSchool$Tape", 74, "loud", 11), ("FogSchool$Tape", 90, "silent", 12), ("FogSchool$Tape", 95, "quick", 13), ("FogSchool$Tape", 99, "knows", 14), ("FogSchoolModel", 27, "keeper", 0), ("FogSchoolModel", 29, "head", 1), ("FogSchoolModel", 31, "drunk", 2), ("FogSchoolModel", 33, "poet", 3), ("FogSchoolModel", 35, "hum", 4), ("FogSchoolModel", 37, "echo", 5), ("FogSchoolModel", 39, "elder", 6), ("FogSchoolModel", 325, "child", 7), ("FogSchoolModel", 330, "fog", 8), ("FogSchoolModel", 297, "at", 9), ("FogSchoolModel", 305, "note", 10), ("FogSchoolModel", 307, "loud", 11), ("FogSchoolModel", 309, "silent", 12), ("FogSchoolModel", 318, "quick", 13), ("FogSchoolModel", 320, "knows", 14)]
def fmtD : String := "Ljava/util/function/BiFunction;"
/-- what holds all along beside the world: the tables, the addresses apart, the static tables, the String constants -/
def Cx (G : GG) (U : State) : Prop := va_K (gD G) vwCl (tyL G) U ∧ Inj G
  ∧ (∀ k, k < 5 → va_Z (stC.getD k "") (stN.getD k "") "[I" (.ref (sa G k)) (gA G) U U.heap ∧ va_T .int (sa G k) (stLen k) (fun j => .int (stA k j)) (gA G) U U.heap)
  ∧ va_Z "java/lang/String" "COMPACT_STRINGS" "Z" (.int 1) (gA G) U U.heap
  ∧ va_Zq "jdk/internal/util/Preconditions" "SIOOBE_FORMATTER" fmtD (gA G) U U.heap
  ∧ vk_S 15 lenS bytS (sk G) (sv G) (gA G) U U.heap
  ∧ ∀ (k : Nat) (q : String × Nat × String × Nat), strL[k]? = some q → vk_R q.1 q.2.1 q.2.2.1 (sk G q.2.2.2) U
theorem Cx.go {G : GG} {s U : State} {H : Heap} {locs : List Loc} (X : Cx G s) (hS : va_S (gA G) s.heap H locs) (hU : U.heap = H) (hW : s.WarmedH U.vm) : Cx G U := by
  obtain ⟨h1, h2, h3, h4, h5, h6, h7⟩ := X
  have hq : ∀ a : Nat, a < s.heap.size → ¬ gA G a → U.heap[a]? = s.heap[a]? := fun a p1 p2 => by rw [hU]; exact hS.2.1 a p1 p2
  have al := hW.alike
  exact ⟨h1.moved al, h2, fun k hk => ⟨va_Z.moved al ((h3 k hk).1.kept hq), va_T.moved al ((h3 k hk).2.kept hq)⟩, va_Z.moved al (h4.kept hq), va_Zq.moved al (h5.kept hq), vk_S.moved al (h6.kept hq), fun k q hk => (h7 k q hk).warm hW⟩
theorem Cx.same {G : GG} {u U : State} (hh : U.heap = u.heap) (hv : U.vm = u.vm) (X : Cx G u) : Cx G U :=
  X.go (va_S.rf) hh (by rw [hv]; exact State.WarmedH.refl u)
/-! contracts: a method's start and end -/
abbrev cdW (y : MethodName) (b : ByteArray) (n : Nat) (ret : Option FieldType) : List Cond := Cond.code y b n ret :: tb
def PC (G : GG) (v : VV) (av : List Value) : Array Value → State → Prop := va_Pc av (fun U => Wd G v U.heap ∧ Cx G U)
def QI (G : GG) (r : Int32) (v : VV) : Array Value → State → Outcome → State → Prop := va_Qi (fun (a : Int32) (_ : Unit) => a = r) (fun _ t => Wd G v t.heap) (gA G)
def QL (G : GG) (r : Int64) (v : VV) : Array Value → State → Outcome → State → Prop := va_Ql (fun (a : Int64) (_ : Unit) => a = r) (fun _ t => Wd G v t.heap) (gA G)
def QV (G : GG) (v : VV) : Array Value → State → Outcome → State → Prop := va_Qv (fun (_ : Unit) => True) (fun _ t => Wd G v t.heap) (gA G)
def QR (G : GG) (r : Nat) (v : VV) : Array Value → State → Outcome → State → Prop := va_Qr (fun (_ : Unit) => True) (fun _ a t => a = r ∧ Wd G v t.heap) (gA G)
theorem PC_blind {G : GG} {v : VV} {av : List Value} : FrameBlind (PC G v av) := fun a U g mk q => ⟨q.1, q.2.1, Cx.same (u := U) (U := U.calling g mk a) rfl rfl q.2.2⟩
/-- what holds all along a method's body -/
def Mx (G : GG) (own : String) (cc : ByteArray) (nL : Nat) (ret : Option FieldType) (p : Program) (s : State) (m : MethodId) (args : Array Value) (meth : Method) (c : Code) : Prop :=
  CallFix p m c cc nL s args tb own ∧ meth.sig.returnType = ret ∧ meth.locks = false ∧ Cx G s
theorem met_in {l : Launch} {G : GG} {y : MethodName} {b : ByteArray} {n : Nat} {ret : Option FieldType} {rm : Room} {av : List Value} {v : VV} {Qc : Array Value → State → Outcome → State → Prop} (own : String) (hy : plainName y.cls = true) (hown : y.cls = own) (hn : (lg_sl av).length ≤ n)
    (body : ∀ (p : Program) (e : Env) (s : State) (m : MethodId) (below : List Frame) (meth : Method) (c : Code), Mx G own b n ret p s m av.toArray meth c → Wd G v s.heap → ∀ ls : Array Slot, lv_has ls n (lv_args 0 av) →
      W p l e rm s m av.toArray below meth c s.heap [] 0 0 (MQ below Qc av.toArray s 0 0 (gA G)) (F0 m 0 ls [])) : Met l y (cdW y b n ret) rm (PC G v av) Qc 0 0 (gA G) := by
  refine Met.ofW (cc := b) (maxL := n) (ret := ret) hy rfl ?_
  intro p e s m args below meth c s₁ B hml hv
  obtain ⟨rfl, hP, hX⟩ := hv
  have hts := atoms_spec (ws := cdW y b n ret) B.pre
  have hown2 : s.vm.findClass y.cls = some m.cls := findClass_of_methodNamed B.named
  have hl := lv_entry av (n := n) hn
  rw [lg_entry_eq]
  generalize (lg_sl av ++ List.replicate (n - (lg_sl av).length) Slot.unset).toArray = ls at hl ⊢
  exact body p e s m below meth c ⟨⟨B.exec, B.bytes, hml, by rw [← hown]; exact hown2, fun w h => hts w (List.mem_cons_of_mem _ h)⟩, B.returns, B.notSynchronized, hX⟩ hP ls hl
/-! ends -/
section ENDS
variable {p : Program} {l : Launch} {e : Env} {R : Room} {s : State} {m : MethodId} {args : Array Value} {below : List Frame} {meth : Method} {c : Code} {H : Heap} {locs : List Loc} {G : GG} {own : String} {cc : ByteArray} {nL pc : Nat} {ls : Array Slot} {v v' : VV}
theorem ret_i {x r : Int32} (M : Mx G own cc nL (some .int) p s m args meth c) (hS : va_S (gA G) s.heap H locs) (hP : Wd G v H) (hF : (x, v) = (r, v')) (hdg : decode cc pc = .ok (.ireturn, 1)) : W p l e R s m args below meth c H locs 0 0 (MQ below (QI G r v') args s 0 0 (gA G)) (F0 m pc ls [.int x]) := by
  cases hF
  obtain ⟨⟨hx, hb, hml, hown, hts⟩, hr, hlocks, hX⟩ := M
  exact W.iret hx hb hr (fun t ht hW => ⟨⟨_, (), rfl, rfl, (ht.symm ▸ hP : Wd G v _)⟩, hS.F ht⟩) hS.2.2 hdg
theorem ret_z {x r : Int32} (M : Mx G own cc nL (some .boolean) p s m args meth c) (hS : va_S (gA G) s.heap H locs) (hP : Wd G v H) (hF : (x, v) = (r, v')) (hn : narrow .boolean (.int x) = .int x) (hdg : decode cc pc = .ok (.ireturn, 1)) : W p l e R s m args below meth c H locs 0 0 (MQ below (QI G r v') args s 0 0 (gA G)) (F0 m pc ls [.int x]) := by
  cases hF
  obtain ⟨⟨hx, hb, hml, hown, hts⟩, hr, hlocks, hX⟩ := M
  exact W.zret hx hb hr hn (fun t ht hW => ⟨⟨_, (), rfl, rfl, (ht.symm ▸ hP : Wd G v _)⟩, hS.F ht⟩) hS.2.2 hdg
theorem ret_b {x r : Int32} (M : Mx G own cc nL (some .byte) p s m args meth c) (hS : va_S (gA G) s.heap H locs) (hP : Wd G v H) (hF : (x, v) = (r, v')) (hn : narrow .byte (.int x) = .int x) (hdg : decode cc pc = .ok (.ireturn, 1)) : W p l e R s m args below meth c H locs 0 0 (MQ below (QI G r v') args s 0 0 (gA G)) (F0 m pc ls [.int x]) := by
  cases hF
  obtain ⟨⟨hx, hb, hml, hown, hts⟩, hr, hlocks, hX⟩ := M
  exact W.zret hx hb hr hn (fun t ht hW => ⟨⟨_, (), rfl, rfl, (ht.symm ▸ hP : Wd G v _)⟩, hS.F ht⟩) hS.2.2 hdg
theorem ret_c {x r : Int32} (M : Mx G own cc nL (some .char) p s m args meth c) (hS : va_S (gA G) s.heap H locs) (hP : Wd G v H) (hF : (x, v) = (r, v')) (hn : narrow .char (.int x) = .int x) (hdg : decode cc pc = .ok (.ireturn, 1)) : W p l e R s m args below meth c H locs 0 0 (MQ below (QI G r v') args s 0 0 (gA G)) (F0 m pc ls [.int x]) := by
  cases hF
  obtain ⟨⟨hx, hb, hml, hown, hts⟩, hr, hlocks, hX⟩ := M
  exact W.zret hx hb hr hn (fun t ht hW => ⟨⟨_, (), rfl, rfl, (ht.symm ▸ hP : Wd G v _)⟩, hS.F ht⟩) hS.2.2 hdg
theorem ret_l {x r : Int64} (M : Mx G own cc nL (some .long) p s m args meth c) (hS : va_S (gA G) s.heap H locs) (hP : Wd G v H) (hF : (x, v) = (r, v')) (hdg : decode cc pc = .ok (.lreturn, 1)) : W p l e R s m args below meth c H locs 0 0 (MQ below (QL G r v') args s 0 0 (gA G)) (F0 m pc ls [.long x]) := by
  cases hF
  obtain ⟨⟨hx, hb, hml, hown, hts⟩, hr, hlocks, hX⟩ := M
  exact W.lret hx hb hr (fun t ht hW => ⟨⟨_, (), rfl, rfl, (ht.symm ▸ hP : Wd G v _)⟩, hS.F ht⟩) hS.2.2 hdg
theorem ret_v (M : Mx G own cc nL none p s m args meth c) (hS : va_S (gA G) s.heap H locs) (hP : Wd G v H) (hF : v = v') (hdg : decode cc pc = .ok (.return_, 1)) : W p l e R s m args below meth c H locs 0 0 (MQ below (QV G v') args s 0 0 (gA G)) (F0 m pc ls []) := by
  cases hF
  obtain ⟨⟨hx, hb, hml, hown, hts⟩, hr, hlocks, hX⟩ := M
  exact W.vret hx hb hr (fun t ht hW => ⟨⟨(), rfl, trivial, (ht.symm ▸ hP : Wd G v _)⟩, hS.F ht⟩) hS.2.2 hdg
theorem ret_s {k r : Nat} (M : Mx G own cc nL (some (.object "java/lang/String")) p s m args meth c) (hS : va_S (gA G) s.heap H locs) (hP : Wd G v H) (hF : (k, v) = (r, v')) (hdg : decode cc pc = .ok (.areturn, 1)) : W p l e R s m args below meth c H locs 0 0 (MQ below (QR G (sk G r) v') args s 0 0 (gA G)) (F0 m pc ls [.ref (sk G k)]) := by
  cases hF
  obtain ⟨⟨hx, hb, hml, hown, hts⟩, hr, hlocks, hX⟩ := M
  exact W.aret hx hb hr (Or.inl ⟨_, rfl⟩) (Or.inr ⟨_, rfl⟩) (fun t ht hW => ⟨⟨(), _, rfl, trivial, rfl, (ht.symm ▸ hP : Wd G v _)⟩, hS.F ht⟩) hS.2.2 hdg
end ENDS
/-! calls -/
/-- all that a call's own words say: the link, the method's kind, its code -/
def okV (own : String) (idx : Nat) (C : String) (y : MethodName) (b : ByteArray) (n : Nat) (ret : Option FieldType) (na : Nat) : Prop :=
  GoodIn tb (wsV own idx C y (cdW y b n ret)) ∧ (y.cls = C ∧ y.cls ≠ "java/lang/invoke/MethodHandle" ∧ y.cls ≠ "java/lang/invoke/VarHandle" ∧ (parseMethodDescriptor y.desc).map (fun d => d.parameters.length) = some na)
def okS (own : String) (idx : Nat) (y : MethodName) (b : ByteArray) (n : Nat) (ret : Option FieldType) (na : Nat) : Prop :=
  GoodIn tb (va_wsS own idx y (cdW y b n ret)) ∧ (y.cls ≠ "java/lang/invoke/MethodHandle" ∧ y.cls ≠ "java/lang/invoke/VarHandle" ∧ (parseMethodDescriptor y.desc).map (fun d => d.parameters.length) = some na)
theorem good_tb {w : Cond} (h : w ∈ tb) : w ∈ tb ∧ ((w.onTables && w.keeps) = true ∨ ∃ ty, w = .arrayClass ty) := ⟨h, good_of_word (tb_ok h)⟩
theorem okV_of {own : String} {idx : Nat} {C : String} {y : MethodName} {b : ByteArray} {n : Nat} {ret : Option FieldType} {na : Nat} (h1 : Cond.methodLink own idx y ∈ tb) (h2 : Cond.instanceMethod y ∈ tb) (h3 : Cond.selects C y y ∈ tb) (h4 : Cond.initialized C ∈ tb) (h5 : Cond.code y b n ret ∈ tb)
    (hd : y.cls = C ∧ y.cls ≠ "java/lang/invoke/MethodHandle" ∧ y.cls ≠ "java/lang/invoke/VarHandle" ∧ (parseMethodDescriptor y.desc).map (fun d => d.parameters.length) = some na) : okV own idx C y b n ret na := by
  refine ⟨fun w hw => ?_, hd⟩
  have hw2 : w = Cond.methodLink own idx y ∨ w = Cond.instanceMethod y ∨ w = Cond.selects C y y ∨ w = Cond.initialized C ∨ w = Cond.code y b n ret ∨ w ∈ tb := by
    simpa [wsV] using hw
  rcases hw2 with rfl | rfl | rfl | rfl | rfl | h
  · exact good_tb h1
  · exact good_tb h2
  · exact good_tb h3
  · exact good_tb h4
  · exact good_tb h5
  · exact good_tb h
theorem okS_of {own : String} {idx : Nat} {y : MethodName} {b : ByteArray} {n : Nat} {ret : Option FieldType} {na : Nat} (h1 : Cond.methodLink own idx y ∈ tb) (h2 : Cond.static y ∈ tb) (h4 : Cond.initialized y.cls ∈ tb) (h5 : Cond.code y b n ret ∈ tb)
    (hd : y.cls ≠ "java/lang/invoke/MethodHandle" ∧ y.cls ≠ "java/lang/invoke/VarHandle" ∧ (parseMethodDescriptor y.desc).map (fun d => d.parameters.length) = some na) : okS own idx y b n ret na := by
  refine ⟨fun w hw => ?_, hd⟩
  have hw2 : w = Cond.methodLink own idx y ∨ w = Cond.static y ∨ w = Cond.initialized y.cls ∨ w = Cond.code y b n ret ∨ w ∈ tb := by
    simpa [va_wsS] using hw
  rcases hw2 with rfl | rfl | rfl | rfl | h
  · exact good_tb h1
  · exact good_tb h2
  · exact good_tb h4
  · exact good_tb h5
  · exact good_tb h
/-- the receiver's class by its place -/
def rcv (G : GG) (s : State) (H : Heap) (C : String) (a : Nat) : Prop := ∃ cell : Cell, H[a]? = some cell ∧ cell.vm.isStatics = false ∧ s.vm.findClass C = some cell.cls
section CALLS
variable {p : Program} {l : Launch} {e : Env} {R : Room} {s : State} {m : MethodId} {args : Array Value} {below : List Frame} {meth : Method} {c : Code} {H : Heap} {locs : List Loc} {G : GG} {own C : String} {cc b : ByteArray} {nL n na pc idx : Nat} {ret0 ret : Option FieldType} {ls : Array Slot} {v v' : VV} {Q : State → Prop} {As rest st : List Value} {y : MethodName} {rm : Room} {a : Nat}
theorem kV_run {Qc : Array Value → State → Outcome → State → Prop} (M : Mx G own cc nL ret0 p s m args meth c) (hS : va_S (gA G) s.heap H locs) (hP : Wd G v H) (hk : okV own idx C y b n ret na) (hM : Met l y (cdW y b n ret) rm (PC G v (.ref a :: As)) Qc 0 0 (gA G)) (hrv : rcv G s H C a)
    (hn : As.length = na) (hl : ls.size = nL) (hst : st = As.reverse ++ .ref a :: rest) (hrest : (rest.map fun v => v.category).sum ≤ 8) (hrc : rm.cells = 0 ∧ rm.slots = 0) (hR : rm.frames + 1 ≤ R.frames ∧ 8 + (n + 11) + rm.locals ≤ R.locals) (hdg : decode cc pc = .ok (.invokevirtual idx, 3)) :
    va_Run p l e R s m args below meth c H locs 0 0 0 0 (F0 m pc ls st) rest (Qc (Value.ref a :: As).toArray) (gA G) := by
  obtain ⟨⟨hx, hb, hml, hown, hts⟩, hr, hlocks, hX⟩ := M
  exact va_runV (As := As) (rest := rest) ⟨hx, hb, hml, hown, hts⟩ hM (cwV na hts hk.1 rfl hrc.1 hrc.2 hk.2 hR) ⟨PC_blind, hrv, fun U hU hW => ⟨rfl, by rw [hU]; exact hP, hX.go hS hU hW⟩⟩ rfl hn hl hst (lv_room hrest) hdg ⟨Nat.zero_le _, Nat.zero_le _⟩
theorem kS_run {Qc : Array Value → State → Outcome → State → Prop} (M : Mx G own cc nL ret0 p s m args meth c) (hS : va_S (gA G) s.heap H locs) (hP : Wd G v H) (hk : okS own idx y b n ret na) (hM : Met l y (cdW y b n ret) rm (PC G v As) Qc 0 0 (gA G))
    (hn : As.length = na) (hl : ls.size = nL) (hst : st = As.reverse ++ rest) (hrest : (rest.map fun v => v.category).sum ≤ 8) (hrc : rm.cells = 0 ∧ rm.slots = 0) (hR : rm.frames + 1 ≤ R.frames ∧ 8 + (n + 11) + rm.locals ≤ R.locals) (hdg : decode cc pc = .ok (.invokestatic idx, 3)) :
    va_Run p l e R s m args below meth c H locs 0 0 0 0 (F0 m pc ls st) rest (Qc As.toArray) (gA G) := by
  obtain ⟨⟨hx, hb, hml, hown, hts⟩, hr, hlocks, hX⟩ := M
  exact va_runS (As := As) (rest := rest) ⟨hx, hb, hml, hown, hts⟩ hM (va_cwS na hts hk.1 rfl hrc.1 hrc.2 hk.2 hR) ⟨PC_blind, fun U hU hW => ⟨rfl, by rw [hU]; exact hP, hX.go hS hU hW⟩⟩ rfl hn hl hst (lv_room hrest) hdg ⟨Nat.zero_le _, Nat.zero_le _⟩
/-- behind a call: the world that came back -/
theorem k_i {r : Int32} {ar : Array Value} (hS : va_S (gA G) s.heap H locs) (hr : va_Run p l e R s m args below meth c H locs 0 0 0 0 (F0 m pc ls st) rest (QI G r v' ar) (gA G)) (kk : ∀ (H1 : Heap) (locs1 : List Loc), Wd G v' H1 → va_S (gA G) s.heap H1 locs1 → W p l e R s m args below meth c H1 locs1 0 0 Q (F0 m (pc + 3) ls (.int r :: rest))) : W p l e R s m args below meth c H locs 0 0 Q (F0 m pc ls st) :=
  va_calli hr hS (fun _ _ h => h) (fun _ h => h) (fun r2 _ t H1 locs1 ht hvm hw hB _ _ hS1 => by cases hw; exact kk H1 locs1 (ht ▸ hB) hS1)
theorem k_l {r : Int64} {ar : Array Value} (hS : va_S (gA G) s.heap H locs) (hr : va_Run p l e R s m args below meth c H locs 0 0 0 0 (F0 m pc ls st) rest (QL G r v' ar) (gA G)) (kk : ∀ (H1 : Heap) (locs1 : List Loc), Wd G v' H1 → va_S (gA G) s.heap H1 locs1 → W p l e R s m args below meth c H1 locs1 0 0 Q (F0 m (pc + 3) ls (.long r :: rest))) : W p l e R s m args below meth c H locs 0 0 Q (F0 m pc ls st) :=
  va_calll hr hS (fun _ _ h => h) (fun _ h => h) (fun r2 _ t H1 locs1 ht hvm hw hB _ _ hS1 => by cases hw; exact kk H1 locs1 (ht ▸ hB) hS1)
theorem k_v {ar : Array Value} (hS : va_S (gA G) s.heap H locs) (hr : va_Run p l e R s m args below meth c H locs 0 0 0 0 (F0 m pc ls st) rest (QV G v' ar) (gA G)) (kk : ∀ (H1 : Heap) (locs1 : List Loc), Wd G v' H1 → va_S (gA G) s.heap H1 locs1 → W p l e R s m args below meth c H1 locs1 0 0 Q (F0 m (pc + 3) ls rest)) : W p l e R s m args below meth c H locs 0 0 Q (F0 m pc ls st) :=
  va_callv hr hS (fun _ _ h => h) (fun _ h => h) (fun _ t H1 locs1 ht hvm hw hB _ _ hS1 => kk H1 locs1 (ht ▸ hB) hS1)
theorem k_s {r : Nat} {ar : Array Value} (hS : va_S (gA G) s.heap H locs) (hr : va_Run p l e R s m args below meth c H locs 0 0 0 0 (F0 m pc ls st) rest (QR G r v' ar) (gA G)) (kk : ∀ (H1 : Heap) (locs1 : List Loc), Wd G v' H1 → va_S (gA G) s.heap H1 locs1 → W p l e R s m args below meth c H1 locs1 0 0 Q (F0 m (pc + 3) ls (.ref r :: rest))) : W p l e R s m args below meth c H locs 0 0 Q (F0 m pc ls st) :=
  va_callr hr hS (fun _ _ h => h) (fun _ h => h) (fun _ ra t H1 locs1 ht hvm hw hB _ _ hS1 => by obtain ⟨e1, hB⟩ := hB; subst e1; exact kk H1 locs1 (ht ▸ hB) hS1)
end CALLS
