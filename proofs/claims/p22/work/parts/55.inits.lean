abbrev ftI : Nat → Int32 := fun j => ([10, 20, 35, 55, 75, 90, 95, 85, 65, 45, 25, 12] : List Int32).getD j 0
abbrev NESTW : List Cond := [.methodLinkNest RX5 9 yX3_init "DrownedPost", .methodLinkNest RX3 20 yX0_init "DrownedPost", .methodLinkNest RX3 27 yX1_init "DrownedPost", .methodLinkNest RX3 34 yX2_init "DrownedPost", .fieldLinkNest RX4 15 "DrownedPost" "FIRST_TIDES" "[I" "DrownedPost"]
theorem nestw_warm {s U : State} (hW : s.WarmedH U.vm) (h : ∀ w ∈ NESTW, va_Nw w s) : ∀ w ∈ NESTW, va_Nw w U :=
  List.forall_mem_cons.mpr ⟨va_Nw.warmM hW (h _ (List.mem_of_getElem? (i := 0) rfl)), List.forall_mem_cons.mpr ⟨va_Nw.warmM hW (h _ (List.mem_of_getElem? (i := 1) rfl)), List.forall_mem_cons.mpr ⟨va_Nw.warmM hW (h _ (List.mem_of_getElem? (i := 2) rfl)), List.forall_mem_cons.mpr ⟨va_Nw.warmM hW (h _ (List.mem_of_getElem? (i := 3) rfl)), List.forall_mem_cons.mpr ⟨va_Nw.warmF hW (h _ (List.mem_of_getElem? (i := 4) rfl)), fun _ h => absurd h List.not_mem_nil⟩⟩⟩⟩⟩
theorem nestw_tab : ∀ w ∈ NESTW, w.onTables = true := by decide +kernel
def FT (A : Nat → Prop) (U : State) : Prop := (∀ w ∈ NESTW, va_Nw w U) ∧ ∃ t : Nat, va_Z "DrownedPost" "FIRST_TIDES" "[I" (.ref t) A U U.heap ∧ va_T .int t 12 (fun j => .int (ftI j)) A U U.heap
theorem FT.go {A B : Nat → Prop} {s U : State} {H : Heap} {locs : List Loc} (h : FT A s) (hW : s.WarmedH U.vm) (hU : U.heap = H) (hS : va_S A s.heap H locs) (hB : ∀ q : Nat, B q → A q) : FT B U := by
  obtain ⟨h1, t, h2, h3⟩ := h
  refine ⟨nestw_warm hW h1, t, ?_, ?_⟩
  · rw [hU]; exact ((h2.moved hW.alike).kept hS.2.1).narrow hB
  · rw [hU]; exact ((h3.moved hW.alike).kept hS.2.1).narrow hB
theorem FT.calling {A : Nat → Prop} {U : State} {g : JFrame} {mk : MethodId} {a : Array Value} (h : FT A U) : FT A (U.calling g mk a) := by
  obtain ⟨h1, t, h2, h3⟩ := h
  exact ⟨fun w hw => va_tabs (nestw_tab w hw) (u := U) (U := U.calling g mk a) rfl (h1 w hw), t, va_Z.moved (u := U) (U := U.calling g mk a) (Vm.Alike.refl U.vm) h2, va_T.moved (u := U) (U := U.calling g mk a) (Vm.Alike.refl U.vm) h3⟩
def PcF (D : va_G) (tys : TYS) (ws : va_W) (sz : Nat) (av : List Value) : Array Value → State → Prop := va_Pc av (fun U => U.heap.size = sz ∧ va_P D vwCl ws U.heap ∧ va_K D vwCl tys U ∧ va_D (fun _ => True) ws ∧ FT (va_A ws sz) U)
theorem WS.sub {D : va_G} {s : State} {A0 : Nat → Prop} {ws wc : va_W} {H : Heap} {locs : List Loc} (h : WS D s A0 ws H locs) (hs : SUB ws wc) : WS D s A0 wc H locs := ⟨hs.P h.1, hs.2 _ h.2.1, h.2.2⟩
theorem JN.app {S : Type} {D : va_G} {ws wc wr : va_W} {wcU : S → va_W} (isC isR : List Nat) (hC : isC.map (fun i => ws[i]?) = wc.map some) (hR : isR.map (fun i => ws[i]?) = wr.map some) (hn : va_nd isR = true) (hdis : ∀ i ∈ isR, i ∉ isC) : JN D ws wc wcU (fun u => wr ++ wcU u) :=
  fun _ _ _ _ hP hD hk hF hP1 hD1 => va_join hP hD isC isR hC hR hn hdis hk hF hP1 hD1
section CPT
variable {p : Program} {l : Launch} {e : Env} {R : Room} {s : State} {m : MethodId} {args : Array Value} {below : List Frame} {meth : Method} {c : Code} {H : Heap} {locs : List Loc} {cells slots : Nat} {Q : State → Prop}
variable {cc : ByteArray} {pc : Nat} {ls : Array Slot} {rest : List Value} {D : va_G} {cl : List vw_C} {A : Nat → Prop} {a : Nat} {tys : TYS} {ws : va_W} {H0 : Heap}
theorem cpT (hexec : p.tables.exec = Jvm.exec) (hb : c.code = cc) (hml : c.maxLocals = ls.size) {own : String} {index : Nat} (hown : s.vm.findClass own = some m.cls) (hlink : (Cond.methodLink own index arraycopyName).before args s = true) (hnat : (Cond.native arraycopyName).before args s = true) (hstat : (Cond.static arraycopyName).before args s = true) (hini : (Cond.initialized "java/lang/System").before args s = true)
    (hK : va_K D cl tys s) (hP : va_P D cl ws H) (hD : va_D A ws) (hS : va_S A s.heap H locs) {b0 n0 : Nat} {f : Nat → Int32} (hX : va_T .int b0 n0 (fun j => .int (f j)) A s s.heap) (q1 t1 : Nat) {c1 : ClassId} {n1 : Nat} {g : Nat → Int32} (ha1 : ws[q1]? = some (a, .inl (c1, n1, .inl g))) (ht1 : tys[t1]? = some (c1, .int))
    {sp dp n : Int32} (h1 : ¬ sp < 0) (h2 : ¬ dp < 0) (h3 : ¬ n < 0) (h4 : sp.toNatClampNeg + n.toNatClampNeg ≤ n0) (h5 : dp.toNatClampNeg + n.toNatClampNeg ≤ n1) (hfit : ∀ i : Nat, i < n.toNatClampNeg → fits .int (.int (f (sp.toNatClampNeg + i))) = true)
    (hframes : 1 ≤ R.frames) (hlocals : (rest.map fun v => v.category).sum + (nativeFrameWords "java/lang/System" "arraycopy" 5 + 11) ≤ R.locals) (hdg : decode cc pc = .ok (.invokestatic index, 3))
    (kk : ∀ (H1 : Heap) (locs1 : List Loc), va_P D cl (ws.set q1 (a, .inl (c1, n1, .inl (va_cpy f g sp.toNatClampNeg dp.toNatClampNeg n.toNatClampNeg)))) H1 → va_D A (ws.set q1 (a, .inl (c1, n1, .inl (va_cpy f g sp.toNatClampNeg dp.toNatClampNeg n.toNatClampNeg)))) → va_S A s.heap H1 locs1 → W p l e R s m args below meth c H1 locs1 cells slots Q (F0 m (pc + 3) ls rest)) : W p l e R s m args below meth c H locs cells slots Q (F0 m pc ls (.int n :: .int dp :: .ref a :: .int sp :: .ref b0 :: rest)) := by
  have nn : ∀ z : Int32, ¬ z < 0 → z.toInt = (z.toNatClampNeg : Int) := by
    intro z hz
    have hz0 : (0 : Int) ≤ z.toInt := by
      have := Int32.not_lt.mp hz
      simpa using Int32.le_iff_toInt_le.mp this
    show z.toInt = ((z.toInt.toNat : Nat) : Int)
    omega
  intro T hT X
  obtain ⟨scr, hs1, hs2, hs3, hs4, -, hs5, hs7⟩ := hX
  have hc0 : H[b0]? = some scr := by rw [hS.2.1 b0 (Array.getElem?_eq_some_iff.mp hs1).1 hs7]; exact hs1
  have hc1 : H[a]? = some (vp_cell c1 (n1, .inl g)) := hP q1 _ ha1
  obtain ⟨hs6, k0, hk0, cm0, hkk0⟩ := hs2
  obtain ⟨-, k1, hk1, cm1, hkk1⟩ := (hK.2 t1 _ ht1).1 n1 (fun j => .int (g j))
  obtain ⟨vm', X', step⟩ := X.arraycopy hexec hown hlink hnat hstat hini (src := b0) (dst := a) (cs := scr) (cd := vp_cell c1 (n1, .inl g)) (srcPos := sp) (destPos := dp) (n := n) (by rw [hT]; exact hc0) (by rw [hT]; exact hc1)
    hs6 (fun _ h => by cases h) hs3 (fun h => by cases h) hk0 hk1 hkk0 hkk1 (by simp [refKind]) h1 h2 h3
    (by rw [nn sp h1, nn n h3]; omega)
    (by rw [nn dp h2, nn n h3]; show ¬ _ > ((arrV c1 n1 (fun j => .int (g j))).slots.size : Int); rw [arrV_size]; omega)
    (fun vm₁ _ i hi => by
      have e : scr.slots.getD (sp.toNatClampNeg + i) .null = .int (f (sp.toNatClampNeg + i)) := by
        rw [Array.getD_eq_getD_getElem?, hs5 _ (by omega)]
        rfl
      refine ⟨?_, ?_⟩
      · rw [e]
        exact hfit i hi
      · rw [e]
        exact trivial)
    (g := F0 m pc ls (.int n :: .int dp :: .ref a :: .int sp :: .ref b0 :: rest)) rfl (by rw [hml]) (rest := rest) rfl (by rw [hb]; exact hdg) hframes (by show 2 * 0 + _ + _ ≤ _; omega)
  have e1 : copied scr (vp_cell c1 (n1, .inl g)) sp dp n = vp_cell c1 (n1, .inl (va_cpy f g sp.toNatClampNeg dp.toNatClampNeg n.toNatClampNeg)) := va_copiedX (fun z => .int z) scr c1 f g hs5 h4
  rw [e1] at X' step
  have hl : a < H.size := (Array.getElem?_eq_some_iff.mp hc1).1
  have hheap : ((T.setVm vm').setCell a (vp_cell c1 (n1, .inl (va_cpy f g sp.toNatClampNeg dp.toNatClampNeg n.toNatClampNeg)))).heap = H.setIfInBounds a (vp_cell c1 (n1, .inl (va_cpy f g sp.toNatClampNeg dp.toNatClampNeg n.toNatClampNeg))) := by rw [← hT]; rfl
  have oq : ∀ q : Nat, q ≠ a → (H.setIfInBounds a (vp_cell c1 (n1, .inl (va_cpy f g sp.toNatClampNeg dp.toNatClampNeg n.toNatClampNeg))))[q]? = H[q]? := fun q hq => by simp [Array.getElem?_setIfInBounds, Ne.symm hq]
  obtain ⟨t, a1, b1⟩ := kk _ _ (hP.set hD ha1 (show (H.setIfInBounds a _)[a]? = some _ by simp [Array.getElem?_setIfInBounds, hl]) oq) (hD.set ha1) ⟨by simp; exact hS.1, fun q g1 g2 => by
      rw [oq q (fun e => g2 (by rw [e]; exact hD.2 q1 _ ha1))]
      exact hS.2.1 q g1 g2, fun q hq => by
      rcases List.mem_append.mp hq with h | h
      · exact hS.2.2 q h
      · obtain ⟨z, -, hz⟩ := List.mem_map.mp h
        rw [← hz]
        exact hD.2 q1 _ ha1⟩ _ hheap X'
  exact ⟨t, step t a1, b1⟩
end CPT
section INI
variable {S : Type} {own C : String} {cc : ByteArray} {nL : Nat} {Ts : List Cond} {D : va_G} {tys tysC : TYS} {p : Program} {l : Launch} {e : Env} {R : Room} {s : State} {m : MethodId} {args : Array Value} {below : List Frame} {meth : Method} {c : Code} {A0 : Nat → Prop} {H : Heap} {locs : List Loc} {cells slots : Nat} {Z : State → Prop} {ws wc : va_W} {wcU wsU : S → va_W}
variable {y : MethodName} {wsY ws' : List Cond} {rm rmY : Room} {bytes : ByteArray} {maxL n index mc ms : Nat} {ret : Option FieldType} {av : List Value} {b : Addr} {pc : Nat} {ls : Array Slot} {lv : List (Nat × Value)} {st0 rest : List Value} {q : vw_C} {ci : Nat} {fs : List Value} {sz : Nat}
theorem newCI (cx : CX own cc nL Ts D tys p s m args c A0) (harr : (Cond.arrayClass .int).before args s = true) (hw : WS D s A0 ws H locs) (t0 : Nat) {cA : ClassId} (ht : tys[t0]? = some (cA, .int)) {n : Int32} {N' : Nat} (hn : ¬ n < 0) (hN : n.toNatClampNeg = N') (hbytes : N' * componentBytes .int ≤ 536870912) (hcells : cells + 1 ≤ R.cells) (hslots : slots + N' ≤ R.slots) {c1 s1 : Nat} (hc1 : cells + 1 = c1) (hs1 : slots + N' = s1) (hd : decode cc pc = .ok (.newarray .int, 2))
    (kk : ∀ (q : Nat) (H1 : Heap), WS D s A0 (ws ++ [(q, .inl (cA, N', .inl (fun _ => 0)))]) H1 locs → W p l e R s m args below meth c H1 locs c1 s1 Z (F0 m (pc + 2) ls (.ref q :: rest))) : W p l e R s m args below meth c H locs cells slots Z (F0 m pc ls (.int n :: rest)) := by
  subst hc1
  subst hs1
  obtain ⟨hx, hb, hml, hown, hts, hK, hA⟩ := cx
  obtain ⟨hP, hD, hS⟩ := hw
  refine va_newa (atype := .int) hx hb harr rfl hK hP hD hS hA (a0 := (N', .inl (fun _ => 0))) (fun _ => rfl) hn hN hbytes hcells hslots hd (fun q c9 H1 hK1 hP1 hD1 hS1 => ?_)
  have h1 : s.vm.findClass ("[" ++ FieldType.int.toString) = some cA := (hK.2 t0 _ ht).2
  have h2 : s.vm.findClass ("[" ++ FieldType.int.toString) = some c9 := (hK1.2 tys.length (c9, .int) (by rw [List.getElem?_append_right (Nat.le_refl _), Nat.sub_self]; rfl)).2
  have h3 : c9 = cA := Option.some.inj (h2.symm.trans h1)
  subst h3
  exact kk q H1 ⟨hP1, hD1, hS1⟩
theorem newCZ (cx : CX own cc nL Ts D tys p s m args c A0) (harr : (Cond.arrayClass .boolean).before args s = true) (hw : WS D s A0 ws H locs) (t0 : Nat) {cA : ClassId} (ht : tys[t0]? = some (cA, .boolean)) {n : Int32} {N' : Nat} (hn : ¬ n < 0) (hN : n.toNatClampNeg = N') (hbytes : N' * componentBytes .boolean ≤ 536870912) (hcells : cells + 1 ≤ R.cells) (hslots : slots + N' ≤ R.slots) {c1 s1 : Nat} (hc1 : cells + 1 = c1) (hs1 : slots + N' = s1) (hd : decode cc pc = .ok (.newarray .boolean, 2))
    (kk : ∀ (q : Nat) (H1 : Heap), WS D s A0 (ws ++ [(q, .inl (cA, N', .inl (fun _ => 0)))]) H1 locs → W p l e R s m args below meth c H1 locs c1 s1 Z (F0 m (pc + 2) ls (.ref q :: rest))) : W p l e R s m args below meth c H locs cells slots Z (F0 m pc ls (.int n :: rest)) := by
  subst hc1
  subst hs1
  obtain ⟨hx, hb, hml, hown, hts, hK, hA⟩ := cx
  obtain ⟨hP, hD, hS⟩ := hw
  refine va_newa (atype := .boolean) hx hb harr rfl hK hP hD hS hA (a0 := (N', .inl (fun _ => 0))) (fun _ => rfl) hn hN hbytes hcells hslots hd (fun q c9 H1 hK1 hP1 hD1 hS1 => ?_)
  have h1 : s.vm.findClass ("[" ++ FieldType.boolean.toString) = some cA := (hK.2 t0 _ ht).2
  have h2 : s.vm.findClass ("[" ++ FieldType.boolean.toString) = some c9 := (hK1.2 tys.length (c9, .boolean) (by rw [List.getElem?_append_right (Nat.le_refl _), Nat.sub_self]; rfl)).2
  have h3 : c9 = cA := Option.some.inj (h2.symm.trans h1)
  subst h3
  exact kk q H1 ⟨hP1, hD1, hS1⟩
theorem newO {T N} (cx : CX own cc nL Ts D tys p s m args c A0) (hin : ∀ w ∈ u_ws C T N, w ∈ Ts) (ty : Nat → FieldType) (hty : ∀ k, k < N → parseFieldDescriptor (T k).2.2.1 = some (ty k)) (hcl : Cond.classLink own index C ∈ Ts) (hinst : Cond.instantiable C N ∈ Ts) (hini : Cond.initialized C ∈ Ts) (hw : WS D s A0 ws H locs) (hc : vwCl[ci]? = some (C, T, N)) (hfs : ∀ j, j < N → defaultValue (ty j) = vp_V fs j) (hcells : cells + 1 ≤ R.cells) (hslots : slots + N ≤ R.slots) {c1 s1 : Nat} (hc1 : cells + 1 = c1) (hs1 : slots + N = s1) (hd : decode cc pc = .ok (.new index, 3))
    (kk : ∀ (q : Nat) (H1 : Heap), WS D s A0 (ws ++ [(q, .inr (ci, fs))]) H1 locs → W p l e R s m args below meth c H1 locs c1 s1 Z (F0 m (pc + 3) ls (.ref q :: rest))) : W p l e R s m args below meth c H locs cells slots Z (F0 m pc ls rest) := by
  subst hc1
  subst hs1
  obtain ⟨hx, hb, hml, hown, hts, hK, hA⟩ := cx
  obtain ⟨hP, hD, hS⟩ := hw
  exact va_new hx hb hts hin ty hty hown (hts _ hcl) (hts _ hinst) (hts _ hini) hK hP hD hS hA hc hfs hcells hslots hd (fun q H1 a b d => kk q H1 ⟨a, b, d⟩)
theorem puFF {T N} (cx : CX own cc nL Ts D tys p s m args c A0) (hin : ∀ w ∈ u_ws C T N, w ∈ Ts) (ty0 : Nat → FieldType) (hty : ∀ k, k < N → parseFieldDescriptor (T k).2.2.1 = some (ty0 k)) (hnm : ∀ a, a < N → ∀ b, b < N → a ≠ b → (T a).2.1 ≠ (T b).2.1) (hc : vwCl[ci]? = some (C, T, N)) (k : Nat) (hk : k < N) (hfin : (T k).2.2.2 = true) (hin2 : meth.name = "<init>") (hdecl : (T k).1 = own) (hlk : Cond.fieldLink own index (T k).1 (T k).2.1 (T k).2.2.1 ∈ Ts) (hw : WS D s A0 ws H locs) (q0 : Nat) {ty : FieldType} {r : Nat} {a : Nat} (he : ws[q0]? = some (a, .inr (ci, fs))) (hd2 : parseFieldDescriptor (T k).2.2.1 = some ty) (hn : narrow ty (.ref r) = .ref r) (hfit : fits ty (.ref r) = true) (hl : k < fs.length) {ws1 : va_W} (hs : ws.set q0 (a, .inr (ci, fs.set k (.ref r))) = ws1) (hd : decode cc pc = .ok (.putfield index, 3))
    (kk : ∀ (H1 : Heap) (locs1 : List Loc), WS D s A0 ws1 H1 locs1 → W p l e R s m args below meth c H1 locs1 cells slots Z (F0 m (pc + 3) ls rest)) : W p l e R s m args below meth c H locs cells slots Z (F0 m pc ls (.ref r :: .ref a :: rest)) := by
  obtain ⟨hx, hb, hml, hown, hts, hK, hA⟩ := cx
  obtain ⟨hP, hD, hS⟩ := hw
  subst hs
  exact va_putF hx hb hts hin ty0 hty hnm hown hK hP hD hS q0 he hc k hk (hts _ hlk) (fun _ h => h) hfin hin2 hdecl hd2 hn hfit hl hd (fun H1 locs1 h1 h2 h3 => kk H1 locs1 ⟨h1, h2, h3⟩)
theorem startC {post : S → Prop} (hy : plainName y.cls = true) (hyi : y.name = "<init>") (hw : wsY = Cond.code y cc maxL none :: ws') (hav : (lg_sl av).length ≤ maxL)
    (body : ∀ (p : Program) (e : Env) (s : State) (m : MethodId) (args : Array Value) (below : List Frame) (meth : Method) (c : Code) (A0 : Nat → Prop) (Z : State → Prop), CX y.cls cc maxL wsY D tys p s m args c A0 → WS D s A0 ws s.heap [] → FT A0 s → meth.name = "<init>" →
      (∀ (pc : Nat) (ls : Array Slot) (u : S) (H : Heap) (locs : List Loc), decode cc pc = .ok (.return_, 1) → post u → WS D s A0 (wsU u) H locs → W p l e rm s m args below meth c H locs rm.cells rm.slots Z (F0 m pc ls [])) →
      ∀ ls : Array Slot, lv_has ls maxL (lv_args 0 av) → W p l e rm s m args below meth c s.heap [] 0 0 Z (F0 m 0 ls [])) :
    Met l y wsY rm (PcF D tys ws sz av) (QvW D tys ws sz wsU post) rm.cells rm.slots (va_A ws sz) := by
  refine Met.ofW (cc := cc) (maxL := maxL) (ret := none) hy hw ?_
  intro p e s m args below meth c s₁ B hml hv
  obtain ⟨rfl, hsz, hP, hK, hD0, hF⟩ := hv
  have hts := atoms_spec (ws := wsY) B.pre
  have hown := findClass_of_methodNamed B.named
  have hin := (name_of_methodNamed B.named B.method).1
  rw [hyi] at hin
  subst hsz
  have hD := hD0.self (sz := s.heap.size)
  have hl := lv_entry av (n := maxL) hav
  rw [lg_entry_eq]
  refine body p e s m _ below meth c (va_A ws s.heap.size) _ ⟨B.exec, B.bytes, hml, hown, hts, hK, fun q h => Or.inr h⟩ ⟨hP, hD, va_S.rf⟩ hF hin ?_ _ hl
  intro pc ls u H locs hd hpost hws
  exact W.vret B.exec B.bytes B.returns (fun t ht hW => ⟨⟨u, rfl, hpost, by rw [ht]; exact hws.1, va_K.moved hW.alike hK, hws.2.1⟩, hws.2.2.F ht⟩) hws.2.2.2.2 hd
/-- a constructor is called -/
theorem callIp {post : S → Prop} (cx : CX own cc nL Ts D tys p s m args c A0) (hw : WS D s A0 ws H locs) (hls : lv_has ls nL lv) (hF : FT A0 s)
    (hM : Met l y wsY rmY (PcF D tysC wc H.size [.ref b]) (QvW D tysC wc H.size wcU post) mc ms (va_A wc H.size))
    (cw : (∀ w ∈ Ts, w.before args s = true) → CallB R s args own index y bytes maxL none wsY rmY mc ms 0 ∧ y.name = "<init>" ∧ (Cond.instanceMethod y).before args s = true) (hsub : SUB ws wc) (ist : List Nat) (hT : ist.filterMap (fun i => tys[i]?) = tysC)
    (hjn : JN D ws wc wcU wsU) (hst : st0 = .ref b :: rest) (hroom : (rest.map fun v => v.category).sum ≤ 8) (hf : cells + mc ≤ R.cells ∧ slots + ms ≤ R.slots) {c1 s1 : Nat} (hc1 : cells + mc = c1) (hs1 : slots + ms = s1) (hd : decode cc pc = .ok (.invokespecial index, 3))
    (kk : ∀ (u : S) (H1 : Heap) (locs1 : List Loc), post u → WS D s A0 (wsU u) H1 locs1 → W p l e R s m args below meth c H1 locs1 c1 s1 Z (F0 m (pc + 3) ls rest)) : W p l e R s m args below meth c H locs cells slots Z (F0 m pc ls st0) := by
  subst hc1
  subst hs1
  obtain ⟨hx, hb, hml, hown, hts, hK, hA⟩ := cx
  obtain ⟨hP, hD, hS⟩ := hw
  have hPc := hsub.P hP
  have hDc := hsub.2 _ hD
  have hKc := hK.sub ist hT
  have hFc := hsub.F hD hS hA
  refine va_callv (va_runI (As := []) (rest := rest) ⟨hx, hb, hml, hown, hts⟩ hM (cw hts) ⟨fun a U g mk q => by obtain ⟨q0, q1, qP, qK, qD, qF⟩ := q; exact ⟨q0, q1, qP, va_K.moved (u := U) (U := U.calling g mk a) (Vm.Alike.refl U.vm) qK, qD, qF.calling⟩, fun U hU hW => ⟨rfl, by rw [hU], by rw [hU]; exact hPc, va_K.moved hW.alike hKc, hDc.weaken (fun _ _ _ _ => trivial), hF.go hW hU hS hFc⟩⟩ rfl rfl hls.1 hst (lv_room hroom) hd hf) hS (fun q _ h => hFc q h) hFc (fun u t H1 locs1 ht hvm hw hB hz1 hk1 hS1 => ?_)
  obtain ⟨hP1, hK1, hD1⟩ := hB
  rw [ht] at hP1
  obtain ⟨h1, h2⟩ := hjn A0 H H1 u hP hD hk1 hFc hP1 hD1
  exact kk u H1 locs1 hw ⟨h1, h2, hS1⟩
/-- a private constructor of a nest mate is called -/
theorem callIN {host : String} {post : S → Prop} (cx : CX own cc nL Ts D tys p s m args c A0) (hw : WS D s A0 ws H locs) (hls : lv_has ls nL lv) (hF : FT A0 s)
    (hM : Met l y wsY rmY (PcF D tysC wc H.size [.ref b]) (QvW D tysC wc H.size wcU post) mc ms (va_A wc H.size))
    (cw : (∀ w ∈ Ts, w.before args s = true) → va_CN R s args own index y host bytes maxL none wsY rmY mc ms 0 ∧ y.name = "<init>" ∧ (Cond.instanceMethod y).before args s = true) (hsub : SUB ws wc) (ist : List Nat) (hT : ist.filterMap (fun i => tys[i]?) = tysC)
    (hjn : JN D ws wc wcU wsU) (hst : st0 = .ref b :: rest) (hroom : (rest.map fun v => v.category).sum ≤ 8) (hf : cells + mc ≤ R.cells ∧ slots + ms ≤ R.slots) {c1 s1 : Nat} (hc1 : cells + mc = c1) (hs1 : slots + ms = s1) (hd : decode cc pc = .ok (.invokespecial index, 3))
    (kk : ∀ (u : S) (H1 : Heap) (locs1 : List Loc), post u → WS D s A0 (wsU u) H1 locs1 → W p l e R s m args below meth c H1 locs1 c1 s1 Z (F0 m (pc + 3) ls rest)) : W p l e R s m args below meth c H locs cells slots Z (F0 m pc ls st0) := by
  subst hc1
  subst hs1
  obtain ⟨hx, hb, hml, hown, hts, hK, hA⟩ := cx
  obtain ⟨hP, hD, hS⟩ := hw
  have hPc := hsub.P hP
  have hDc := hsub.2 _ hD
  have hKc := hK.sub ist hT
  have hFc := hsub.F hD hS hA
  refine va_callv (va_runIN (As := []) (rest := rest) ⟨hx, hb, hml, hown, hts⟩ hM (cw hts) ⟨fun a U g mk q => by obtain ⟨q0, q1, qP, qK, qD, qF⟩ := q; exact ⟨q0, q1, qP, va_K.moved (u := U) (U := U.calling g mk a) (Vm.Alike.refl U.vm) qK, qD, qF.calling⟩, fun U hU hW => ⟨rfl, by rw [hU], by rw [hU]; exact hPc, va_K.moved hW.alike hKc, hDc.weaken (fun _ _ _ _ => trivial), hF.go hW hU hS hFc⟩⟩ rfl rfl hls.1 hst (lv_room hroom) hd hf) hS (fun q _ h => hFc q h) hFc (fun u t H1 locs1 ht hvm hw hB hz1 hk1 hS1 => ?_)
  obtain ⟨hP1, hK1, hD1⟩ := hB
  rw [ht] at hP1
  obtain ⟨h1, h2⟩ := hjn A0 H H1 u hP hD hk1 hFc hP1 hD1
  exact kk u H1 locs1 hw ⟨h1, h2, hS1⟩
end INI
abbrev rmX0_init : Room := { frames := 1, cells := 3, slots := 30, locals := 20 }
theorem inX0_init_X0 : ∀ w ∈ wsX00, w ∈ wsX0_init := by decide +kernel
theorem kX0_init_w_arrayClass__int : Cond.arrayClass .int ∈ wsX0_init := by decide +kernel
theorem kX0_init_w_code_objectInit____0xb1___1_none : Cond.code objectInit ⟨#[0xb1]⟩ 1 none ∈ wsX0_init := by decide +kernel
theorem kX0_init_w_fieldLink_RX0_15__DrownedPost_Bins___room____I_ : Cond.fieldLink RX0 15 "DrownedPost$Bins" "room" "[I" ∈ wsX0_init := by decide +kernel
theorem kX0_init_w_fieldLink_RX0_18__DrownedPost_Bins___filled____I_ : Cond.fieldLink RX0 18 "DrownedPost$Bins" "filled" "[I" ∈ wsX0_init := by decide +kernel
theorem kX0_init_w_fieldLink_RX0_9__DrownedPost_Bins___height____I_ : Cond.fieldLink RX0 9 "DrownedPost$Bins" "height" "[I" ∈ wsX0_init := by decide +kernel
theorem kX0_init_w_instanceMethod_objectInit : Cond.instanceMethod objectInit ∈ wsX0_init := by decide +kernel
theorem kX0_init_w_methodLink_RX0_3_objectInit : Cond.methodLink RX0 3 objectInit ∈ wsX0_init := by decide +kernel
set_option maxHeartbeats 4000000 in
set_option maxRecDepth 100000 in
theorem metX0_init (l : Launch) (D : va_G) (cI cZ : ClassId) (h0 sz : Nat) : Met l yX0_init wsX0_init rmX0_init (PcF D [(cI, .int), (cZ, .boolean)] [(h0, .inr (0, [.null, .null, .null, .int 0]))] sz [.ref h0]) (QvW D [(cI, .int), (cZ, .boolean)] [(h0, .inr (0, [.null, .null, .null, .int 0]))] sz (fun u : Nat → Nat => [(h0, .inr (0, [.ref (u 0), .ref (u 1), .ref (u 2), .int 0])), ((u 0), .inl (cI, 10, .inl (fun _ => 0))), ((u 1), .inl (cI, 10, .inl (fun _ => 0))), ((u 2), .inl (cI, 10, .inl (fun _ => 0)))]) (fun _ => True)) rmX0_init.cells rmX0_init.slots (va_A [(h0, .inr (0, [.null, .null, .null, .int 0]))] sz) := by
  refine startC (by decide) rfl rfl (Nat.le_of_ble_eq_true rfl) ?_
  intro p e s m args below meth c A0 Z cx hw hF hin hret ls hl
  obtain ⟨hx, hb, hml, hown, hts, hK, hA⟩ := id cx
  have hl : lv_has ls 1 [(0, .ref h0)] := hl
  refine lv_aload_n (pc := 0) hx hb dX0_init_0 rfl (lv_at hl 0 rfl) ?_
  refine W.objInit hx hb hown (hts _ kX0_init_w_methodLink_RX0_3_objectInit) (hts _ kX0_init_w_instanceMethod_objectInit) (hts _ kX0_init_w_code_objectInit____0xb1___1_none) rfl (by rw [hml]; exact hl.1) rfl dX0_init_1 (Nat.le_of_ble_eq_true rfl) (Nat.le_of_ble_eq_true rfl) ?_
  refine W.eq (g2 := F0 m 4 ls []) rfl ?_
  refine lv_aload_n (pc := 4) hx hb dX0_init_4 rfl (lv_at hl 0 rfl) ?_
  refine lv_bipush (pc := 5) (v := (10 : Int32)) hx hb dX0_init_5 (by decide) ?_
  refine newCI (pc := 7) (c1 := 1) (s1 := 10) (N' := 10) cx (hts _ kX0_init_w_arrayClass__int) hw 0 rfl (by decide) (by decide) (by decide) (Nat.le_of_ble_eq_true rfl) (Nat.le_of_ble_eq_true rfl) rfl rfl dX0_init_7 (fun q1 H hw => ?_)
  have hw : WS D s A0 [(h0, .inr (0, [.null, .null, .null, .int 0])), (q1, .inl (cI, 10, .inl (fun _ => 0)))] _ _ := hw
  refine puFF (pc := 9) (C := RX0) (T := TX0) (N := 4) (ci := 0) (ty := tyX0 0) cx inX0_init_X0 tyX0 tyX0_ok nmX0 rfl 0 (by decide) rfl hin rfl kX0_init_w_fieldLink_RX0_9__DrownedPost_Bins___height____I_ hw 0 rfl (tyX0_ok 0 (by decide)) rfl rfl (Nat.le_of_ble_eq_true rfl) (ws1 := [(h0, .inr (0, [.ref q1, .null, .null, .int 0])), (q1, .inl (cI, 10, .inl (fun _ => 0)))]) rfl dX0_init_9 (fun H locs hw => ?_)
  refine lv_aload_n (pc := 12) hx hb dX0_init_12 rfl (lv_at hl 0 rfl) ?_
  refine lv_bipush (pc := 13) (v := (10 : Int32)) hx hb dX0_init_13 (by decide) ?_
  refine newCI (pc := 15) (c1 := 2) (s1 := 20) (N' := 10) cx (hts _ kX0_init_w_arrayClass__int) hw 0 rfl (by decide) (by decide) (by decide) (Nat.le_of_ble_eq_true rfl) (Nat.le_of_ble_eq_true rfl) rfl rfl dX0_init_15 (fun q2 H hw => ?_)
  have hw : WS D s A0 [(h0, .inr (0, [.ref q1, .null, .null, .int 0])), (q1, .inl (cI, 10, .inl (fun _ => 0))), (q2, .inl (cI, 10, .inl (fun _ => 0)))] _ _ := hw
  refine puFF (pc := 17) (C := RX0) (T := TX0) (N := 4) (ci := 0) (ty := tyX0 1) cx inX0_init_X0 tyX0 tyX0_ok nmX0 rfl 1 (by decide) rfl hin rfl kX0_init_w_fieldLink_RX0_15__DrownedPost_Bins___room____I_ hw 0 rfl (tyX0_ok 1 (by decide)) rfl rfl (Nat.le_of_ble_eq_true rfl) (ws1 := [(h0, .inr (0, [.ref q1, .ref q2, .null, .int 0])), (q1, .inl (cI, 10, .inl (fun _ => 0))), (q2, .inl (cI, 10, .inl (fun _ => 0)))]) rfl dX0_init_17 (fun H locs hw => ?_)
  refine lv_aload_n (pc := 20) hx hb dX0_init_20 rfl (lv_at hl 0 rfl) ?_
  refine lv_bipush (pc := 21) (v := (10 : Int32)) hx hb dX0_init_21 (by decide) ?_
  refine newCI (pc := 23) (c1 := 3) (s1 := 30) (N' := 10) cx (hts _ kX0_init_w_arrayClass__int) hw 0 rfl (by decide) (by decide) (by decide) (Nat.le_of_ble_eq_true rfl) (Nat.le_of_ble_eq_true rfl) rfl rfl dX0_init_23 (fun q3 H hw => ?_)
  have hw : WS D s A0 [(h0, .inr (0, [.ref q1, .ref q2, .null, .int 0])), (q1, .inl (cI, 10, .inl (fun _ => 0))), (q2, .inl (cI, 10, .inl (fun _ => 0))), (q3, .inl (cI, 10, .inl (fun _ => 0)))] _ _ := hw
  refine puFF (pc := 25) (C := RX0) (T := TX0) (N := 4) (ci := 0) (ty := tyX0 2) cx inX0_init_X0 tyX0 tyX0_ok nmX0 rfl 2 (by decide) rfl hin rfl kX0_init_w_fieldLink_RX0_18__DrownedPost_Bins___filled____I_ hw 0 rfl (tyX0_ok 2 (by decide)) rfl rfl (Nat.le_of_ble_eq_true rfl) (ws1 := [(h0, .inr (0, [.ref q1, .ref q2, .ref q3, .int 0])), (q1, .inl (cI, 10, .inl (fun _ => 0))), (q2, .inl (cI, 10, .inl (fun _ => 0))), (q3, .inl (cI, 10, .inl (fun _ => 0)))]) rfl dX0_init_25 (fun H locs hw => ?_)
  exact hret 28 _ (fun k => [q1, q2, q3].getD k 0) _ _ dX0_init_28 trivial hw
abbrev rmX1_init : Room := { frames := 1, cells := 5, slots := 80, locals := 20 }
theorem inX1_init_X1 : ∀ w ∈ wsX10, w ∈ wsX1_init := by decide +kernel
theorem kX1_init_w_arrayClass__int : Cond.arrayClass .int ∈ wsX1_init := by decide +kernel
theorem kX1_init_w_code_objectInit____0xb1___1_none : Cond.code objectInit ⟨#[0xb1]⟩ 1 none ∈ wsX1_init := by decide +kernel
theorem kX1_init_w_fieldLink_RX1_15__DrownedPost_Drowned___n____I_ : Cond.fieldLink RX1 15 "DrownedPost$Drowned" "n" "[I" ∈ wsX1_init := by decide +kernel
theorem kX1_init_w_fieldLink_RX1_18__DrownedPost_Drowned___lag____I_ : Cond.fieldLink RX1 18 "DrownedPost$Drowned" "lag" "[I" ∈ wsX1_init := by decide +kernel
theorem kX1_init_w_fieldLink_RX1_21__DrownedPost_Drowned___got____I_ : Cond.fieldLink RX1 21 "DrownedPost$Drowned" "got" "[I" ∈ wsX1_init := by decide +kernel
theorem kX1_init_w_fieldLink_RX1_24__DrownedPost_Drowned___written____I_ : Cond.fieldLink RX1 24 "DrownedPost$Drowned" "written" "[I" ∈ wsX1_init := by decide +kernel
theorem kX1_init_w_fieldLink_RX1_9__DrownedPost_Drowned___height____I_ : Cond.fieldLink RX1 9 "DrownedPost$Drowned" "height" "[I" ∈ wsX1_init := by decide +kernel
theorem kX1_init_w_instanceMethod_objectInit : Cond.instanceMethod objectInit ∈ wsX1_init := by decide +kernel
theorem kX1_init_w_methodLink_RX1_3_objectInit : Cond.methodLink RX1 3 objectInit ∈ wsX1_init := by decide +kernel
set_option maxHeartbeats 4000000 in
set_option maxRecDepth 100000 in
theorem metX1_init (l : Launch) (D : va_G) (cI cZ : ClassId) (h0 sz : Nat) : Met l yX1_init wsX1_init rmX1_init (PcF D [(cI, .int), (cZ, .boolean)] [(h0, .inr (1, [.null, .null, .null, .null, .null, .int 0]))] sz [.ref h0]) (QvW D [(cI, .int), (cZ, .boolean)] [(h0, .inr (1, [.null, .null, .null, .null, .null, .int 0]))] sz (fun u : Nat → Nat => [(h0, .inr (1, [.ref (u 0), .ref (u 1), .ref (u 2), .ref (u 3), .ref (u 4), .int 0])), ((u 0), .inl (cI, 16, .inl (fun _ => 0))), ((u 1), .inl (cI, 16, .inl (fun _ => 0))), ((u 2), .inl (cI, 16, .inl (fun _ => 0))), ((u 3), .inl (cI, 16, .inl (fun _ => 0))), ((u 4), .inl (cI, 16, .inl (fun _ => 0)))]) (fun _ => True)) rmX1_init.cells rmX1_init.slots (va_A [(h0, .inr (1, [.null, .null, .null, .null, .null, .int 0]))] sz) := by
  refine startC (by decide) rfl rfl (Nat.le_of_ble_eq_true rfl) ?_
  intro p e s m args below meth c A0 Z cx hw hF hin hret ls hl
  obtain ⟨hx, hb, hml, hown, hts, hK, hA⟩ := id cx
  have hl : lv_has ls 1 [(0, .ref h0)] := hl
  refine lv_aload_n (pc := 0) hx hb dX1_init_0 rfl (lv_at hl 0 rfl) ?_
  refine W.objInit hx hb hown (hts _ kX1_init_w_methodLink_RX1_3_objectInit) (hts _ kX1_init_w_instanceMethod_objectInit) (hts _ kX1_init_w_code_objectInit____0xb1___1_none) rfl (by rw [hml]; exact hl.1) rfl dX1_init_1 (Nat.le_of_ble_eq_true rfl) (Nat.le_of_ble_eq_true rfl) ?_
  refine W.eq (g2 := F0 m 4 ls []) rfl ?_
  refine lv_aload_n (pc := 4) hx hb dX1_init_4 rfl (lv_at hl 0 rfl) ?_
  refine lv_bipush (pc := 5) (v := (16 : Int32)) hx hb dX1_init_5 (by decide) ?_
  refine newCI (pc := 7) (c1 := 1) (s1 := 16) (N' := 16) cx (hts _ kX1_init_w_arrayClass__int) hw 0 rfl (by decide) (by decide) (by decide) (Nat.le_of_ble_eq_true rfl) (Nat.le_of_ble_eq_true rfl) rfl rfl dX1_init_7 (fun q1 H hw => ?_)
  have hw : WS D s A0 [(h0, .inr (1, [.null, .null, .null, .null, .null, .int 0])), (q1, .inl (cI, 16, .inl (fun _ => 0)))] _ _ := hw
  refine puFF (pc := 9) (C := RX1) (T := TX1) (N := 6) (ci := 1) (ty := tyX1 0) cx inX1_init_X1 tyX1 tyX1_ok nmX1 rfl 0 (by decide) rfl hin rfl kX1_init_w_fieldLink_RX1_9__DrownedPost_Drowned___height____I_ hw 0 rfl (tyX1_ok 0 (by decide)) rfl rfl (Nat.le_of_ble_eq_true rfl) (ws1 := [(h0, .inr (1, [.ref q1, .null, .null, .null, .null, .int 0])), (q1, .inl (cI, 16, .inl (fun _ => 0)))]) rfl dX1_init_9 (fun H locs hw => ?_)
  refine lv_aload_n (pc := 12) hx hb dX1_init_12 rfl (lv_at hl 0 rfl) ?_
  refine lv_bipush (pc := 13) (v := (16 : Int32)) hx hb dX1_init_13 (by decide) ?_
  refine newCI (pc := 15) (c1 := 2) (s1 := 32) (N' := 16) cx (hts _ kX1_init_w_arrayClass__int) hw 0 rfl (by decide) (by decide) (by decide) (Nat.le_of_ble_eq_true rfl) (Nat.le_of_ble_eq_true rfl) rfl rfl dX1_init_15 (fun q2 H hw => ?_)
  have hw : WS D s A0 [(h0, .inr (1, [.ref q1, .null, .null, .null, .null, .int 0])), (q1, .inl (cI, 16, .inl (fun _ => 0))), (q2, .inl (cI, 16, .inl (fun _ => 0)))] _ _ := hw
  refine puFF (pc := 17) (C := RX1) (T := TX1) (N := 6) (ci := 1) (ty := tyX1 1) cx inX1_init_X1 tyX1 tyX1_ok nmX1 rfl 1 (by decide) rfl hin rfl kX1_init_w_fieldLink_RX1_15__DrownedPost_Drowned___n____I_ hw 0 rfl (tyX1_ok 1 (by decide)) rfl rfl (Nat.le_of_ble_eq_true rfl) (ws1 := [(h0, .inr (1, [.ref q1, .ref q2, .null, .null, .null, .int 0])), (q1, .inl (cI, 16, .inl (fun _ => 0))), (q2, .inl (cI, 16, .inl (fun _ => 0)))]) rfl dX1_init_17 (fun H locs hw => ?_)
  refine lv_aload_n (pc := 20) hx hb dX1_init_20 rfl (lv_at hl 0 rfl) ?_
  refine lv_bipush (pc := 21) (v := (16 : Int32)) hx hb dX1_init_21 (by decide) ?_
  refine newCI (pc := 23) (c1 := 3) (s1 := 48) (N' := 16) cx (hts _ kX1_init_w_arrayClass__int) hw 0 rfl (by decide) (by decide) (by decide) (Nat.le_of_ble_eq_true rfl) (Nat.le_of_ble_eq_true rfl) rfl rfl dX1_init_23 (fun q3 H hw => ?_)
  have hw : WS D s A0 [(h0, .inr (1, [.ref q1, .ref q2, .null, .null, .null, .int 0])), (q1, .inl (cI, 16, .inl (fun _ => 0))), (q2, .inl (cI, 16, .inl (fun _ => 0))), (q3, .inl (cI, 16, .inl (fun _ => 0)))] _ _ := hw
  refine puFF (pc := 25) (C := RX1) (T := TX1) (N := 6) (ci := 1) (ty := tyX1 2) cx inX1_init_X1 tyX1 tyX1_ok nmX1 rfl 2 (by decide) rfl hin rfl kX1_init_w_fieldLink_RX1_18__DrownedPost_Drowned___lag____I_ hw 0 rfl (tyX1_ok 2 (by decide)) rfl rfl (Nat.le_of_ble_eq_true rfl) (ws1 := [(h0, .inr (1, [.ref q1, .ref q2, .ref q3, .null, .null, .int 0])), (q1, .inl (cI, 16, .inl (fun _ => 0))), (q2, .inl (cI, 16, .inl (fun _ => 0))), (q3, .inl (cI, 16, .inl (fun _ => 0)))]) rfl dX1_init_25 (fun H locs hw => ?_)
  refine lv_aload_n (pc := 28) hx hb dX1_init_28 rfl (lv_at hl 0 rfl) ?_
  refine lv_bipush (pc := 29) (v := (16 : Int32)) hx hb dX1_init_29 (by decide) ?_
  refine newCI (pc := 31) (c1 := 4) (s1 := 64) (N' := 16) cx (hts _ kX1_init_w_arrayClass__int) hw 0 rfl (by decide) (by decide) (by decide) (Nat.le_of_ble_eq_true rfl) (Nat.le_of_ble_eq_true rfl) rfl rfl dX1_init_31 (fun q4 H hw => ?_)
  have hw : WS D s A0 [(h0, .inr (1, [.ref q1, .ref q2, .ref q3, .null, .null, .int 0])), (q1, .inl (cI, 16, .inl (fun _ => 0))), (q2, .inl (cI, 16, .inl (fun _ => 0))), (q3, .inl (cI, 16, .inl (fun _ => 0))), (q4, .inl (cI, 16, .inl (fun _ => 0)))] _ _ := hw
  refine puFF (pc := 33) (C := RX1) (T := TX1) (N := 6) (ci := 1) (ty := tyX1 3) cx inX1_init_X1 tyX1 tyX1_ok nmX1 rfl 3 (by decide) rfl hin rfl kX1_init_w_fieldLink_RX1_21__DrownedPost_Drowned___got____I_ hw 0 rfl (tyX1_ok 3 (by decide)) rfl rfl (Nat.le_of_ble_eq_true rfl) (ws1 := [(h0, .inr (1, [.ref q1, .ref q2, .ref q3, .ref q4, .null, .int 0])), (q1, .inl (cI, 16, .inl (fun _ => 0))), (q2, .inl (cI, 16, .inl (fun _ => 0))), (q3, .inl (cI, 16, .inl (fun _ => 0))), (q4, .inl (cI, 16, .inl (fun _ => 0)))]) rfl dX1_init_33 (fun H locs hw => ?_)
  refine lv_aload_n (pc := 36) hx hb dX1_init_36 rfl (lv_at hl 0 rfl) ?_
  refine lv_bipush (pc := 37) (v := (16 : Int32)) hx hb dX1_init_37 (by decide) ?_
  refine newCI (pc := 39) (c1 := 5) (s1 := 80) (N' := 16) cx (hts _ kX1_init_w_arrayClass__int) hw 0 rfl (by decide) (by decide) (by decide) (Nat.le_of_ble_eq_true rfl) (Nat.le_of_ble_eq_true rfl) rfl rfl dX1_init_39 (fun q5 H hw => ?_)
  have hw : WS D s A0 [(h0, .inr (1, [.ref q1, .ref q2, .ref q3, .ref q4, .null, .int 0])), (q1, .inl (cI, 16, .inl (fun _ => 0))), (q2, .inl (cI, 16, .inl (fun _ => 0))), (q3, .inl (cI, 16, .inl (fun _ => 0))), (q4, .inl (cI, 16, .inl (fun _ => 0))), (q5, .inl (cI, 16, .inl (fun _ => 0)))] _ _ := hw
  refine puFF (pc := 41) (C := RX1) (T := TX1) (N := 6) (ci := 1) (ty := tyX1 4) cx inX1_init_X1 tyX1 tyX1_ok nmX1 rfl 4 (by decide) rfl hin rfl kX1_init_w_fieldLink_RX1_24__DrownedPost_Drowned___written____I_ hw 0 rfl (tyX1_ok 4 (by decide)) rfl rfl (Nat.le_of_ble_eq_true rfl) (ws1 := [(h0, .inr (1, [.ref q1, .ref q2, .ref q3, .ref q4, .ref q5, .int 0])), (q1, .inl (cI, 16, .inl (fun _ => 0))), (q2, .inl (cI, 16, .inl (fun _ => 0))), (q3, .inl (cI, 16, .inl (fun _ => 0))), (q4, .inl (cI, 16, .inl (fun _ => 0))), (q5, .inl (cI, 16, .inl (fun _ => 0)))]) rfl dX1_init_41 (fun H locs hw => ?_)
  exact hret 44 _ (fun k => [q1, q2, q3, q4, q5].getD k 0) _ _ dX1_init_44 trivial hw
abbrev rmX2_init : Room := { frames := 1, cells := 9, slots := 1350, locals := 20 }
theorem inX2_init_X2 : ∀ w ∈ wsX20, w ∈ wsX2_init := by decide +kernel
theorem kX2_init_w_arrayClass__int : Cond.arrayClass .int ∈ wsX2_init := by decide +kernel
theorem kX2_init_w_code_objectInit____0xb1___1_none : Cond.code objectInit ⟨#[0xb1]⟩ 1 none ∈ wsX2_init := by decide +kernel
theorem kX2_init_w_fieldLink_RX2_15__DrownedPost_Letters___weight____I_ : Cond.fieldLink RX2 15 "DrownedPost$Letters" "weight" "[I" ∈ wsX2_init := by decide +kernel
theorem kX2_init_w_fieldLink_RX2_18__DrownedPost_Letters___seal____I_ : Cond.fieldLink RX2 18 "DrownedPost$Letters" "seal" "[I" ∈ wsX2_init := by decide +kernel
theorem kX2_init_w_fieldLink_RX2_21__DrownedPost_Letters___state____I_ : Cond.fieldLink RX2 21 "DrownedPost$Letters" "state" "[I" ∈ wsX2_init := by decide +kernel
theorem kX2_init_w_fieldLink_RX2_24__DrownedPost_Letters___growth____I_ : Cond.fieldLink RX2 24 "DrownedPost$Letters" "growth" "[I" ∈ wsX2_init := by decide +kernel
theorem kX2_init_w_fieldLink_RX2_27__DrownedPost_Letters___bin____I_ : Cond.fieldLink RX2 27 "DrownedPost$Letters" "bin" "[I" ∈ wsX2_init := by decide +kernel
theorem kX2_init_w_fieldLink_RX2_30__DrownedPost_Letters___held____I_ : Cond.fieldLink RX2 30 "DrownedPost$Letters" "held" "[I" ∈ wsX2_init := by decide +kernel
theorem kX2_init_w_fieldLink_RX2_33__DrownedPost_Letters___hoursBefore____I_ : Cond.fieldLink RX2 33 "DrownedPost$Letters" "hoursBefore" "[I" ∈ wsX2_init := by decide +kernel
theorem kX2_init_w_fieldLink_RX2_36__DrownedPost_Letters___answered____I_ : Cond.fieldLink RX2 36 "DrownedPost$Letters" "answered" "[I" ∈ wsX2_init := by decide +kernel
theorem kX2_init_w_fieldLink_RX2_9__DrownedPost_Letters___to____I_ : Cond.fieldLink RX2 9 "DrownedPost$Letters" "to" "[I" ∈ wsX2_init := by decide +kernel
theorem kX2_init_w_instanceMethod_objectInit : Cond.instanceMethod objectInit ∈ wsX2_init := by decide +kernel
theorem kX2_init_w_methodLink_RX2_3_objectInit : Cond.methodLink RX2 3 objectInit ∈ wsX2_init := by decide +kernel
set_option maxHeartbeats 4000000 in
set_option maxRecDepth 100000 in
theorem metX2_init (l : Launch) (D : va_G) (cI cZ : ClassId) (h0 sz : Nat) : Met l yX2_init wsX2_init rmX2_init (PcF D [(cI, .int), (cZ, .boolean)] [(h0, .inr (2, [.null, .null, .null, .null, .null, .null, .null, .null, .null, .int 0]))] sz [.ref h0]) (QvW D [(cI, .int), (cZ, .boolean)] [(h0, .inr (2, [.null, .null, .null, .null, .null, .null, .null, .null, .null, .int 0]))] sz (fun u : Nat → Nat => [(h0, .inr (2, [.ref (u 0), .ref (u 1), .ref (u 2), .ref (u 3), .ref (u 4), .ref (u 5), .ref (u 6), .ref (u 7), .ref (u 8), .int 0])), ((u 0), .inl (cI, 150, .inl (fun _ => 0))), ((u 1), .inl (cI, 150, .inl (fun _ => 0))), ((u 2), .inl (cI, 150, .inl (fun _ => 0))), ((u 3), .inl (cI, 150, .inl (fun _ => 0))), ((u 4), .inl (cI, 150, .inl (fun _ => 0))), ((u 5), .inl (cI, 150, .inl (fun _ => 0))), ((u 6), .inl (cI, 150, .inl (fun _ => 0))), ((u 7), .inl (cI, 150, .inl (fun _ => 0))), ((u 8), .inl (cI, 150, .inl (fun _ => 0)))]) (fun _ => True)) rmX2_init.cells rmX2_init.slots (va_A [(h0, .inr (2, [.null, .null, .null, .null, .null, .null, .null, .null, .null, .int 0]))] sz) := by
  refine startC (by decide) rfl rfl (Nat.le_of_ble_eq_true rfl) ?_
  intro p e s m args below meth c A0 Z cx hw hF hin hret ls hl
  obtain ⟨hx, hb, hml, hown, hts, hK, hA⟩ := id cx
  have hl : lv_has ls 1 [(0, .ref h0)] := hl
  refine lv_aload_n (pc := 0) hx hb dX2_init_0 rfl (lv_at hl 0 rfl) ?_
  refine W.objInit hx hb hown (hts _ kX2_init_w_methodLink_RX2_3_objectInit) (hts _ kX2_init_w_instanceMethod_objectInit) (hts _ kX2_init_w_code_objectInit____0xb1___1_none) rfl (by rw [hml]; exact hl.1) rfl dX2_init_1 (Nat.le_of_ble_eq_true rfl) (Nat.le_of_ble_eq_true rfl) ?_
  refine W.eq (g2 := F0 m 4 ls []) rfl ?_
  refine lv_aload_n (pc := 4) hx hb dX2_init_4 rfl (lv_at hl 0 rfl) ?_
  refine lv_sipush (pc := 5) (v := (150 : Int32)) hx hb dX2_init_5 (by decide) ?_
  refine newCI (pc := 8) (c1 := 1) (s1 := 150) (N' := 150) cx (hts _ kX2_init_w_arrayClass__int) hw 0 rfl (by decide) (by decide) (by decide) (Nat.le_of_ble_eq_true rfl) (Nat.le_of_ble_eq_true rfl) rfl rfl dX2_init_8 (fun q1 H hw => ?_)
  have hw : WS D s A0 [(h0, .inr (2, [.null, .null, .null, .null, .null, .null, .null, .null, .null, .int 0])), (q1, .inl (cI, 150, .inl (fun _ => 0)))] _ _ := hw
  refine puFF (pc := 10) (C := RX2) (T := TX2) (N := 10) (ci := 2) (ty := tyX2 0) cx inX2_init_X2 tyX2 tyX2_ok nmX2 rfl 0 (by decide) rfl hin rfl kX2_init_w_fieldLink_RX2_9__DrownedPost_Letters___to____I_ hw 0 rfl (tyX2_ok 0 (by decide)) rfl rfl (Nat.le_of_ble_eq_true rfl) (ws1 := [(h0, .inr (2, [.ref q1, .null, .null, .null, .null, .null, .null, .null, .null, .int 0])), (q1, .inl (cI, 150, .inl (fun _ => 0)))]) rfl dX2_init_10 (fun H locs hw => ?_)
  refine lv_aload_n (pc := 13) hx hb dX2_init_13 rfl (lv_at hl 0 rfl) ?_
  refine lv_sipush (pc := 14) (v := (150 : Int32)) hx hb dX2_init_14 (by decide) ?_
  refine newCI (pc := 17) (c1 := 2) (s1 := 300) (N' := 150) cx (hts _ kX2_init_w_arrayClass__int) hw 0 rfl (by decide) (by decide) (by decide) (Nat.le_of_ble_eq_true rfl) (Nat.le_of_ble_eq_true rfl) rfl rfl dX2_init_17 (fun q2 H hw => ?_)
  have hw : WS D s A0 [(h0, .inr (2, [.ref q1, .null, .null, .null, .null, .null, .null, .null, .null, .int 0])), (q1, .inl (cI, 150, .inl (fun _ => 0))), (q2, .inl (cI, 150, .inl (fun _ => 0)))] _ _ := hw
  refine puFF (pc := 19) (C := RX2) (T := TX2) (N := 10) (ci := 2) (ty := tyX2 1) cx inX2_init_X2 tyX2 tyX2_ok nmX2 rfl 1 (by decide) rfl hin rfl kX2_init_w_fieldLink_RX2_15__DrownedPost_Letters___weight____I_ hw 0 rfl (tyX2_ok 1 (by decide)) rfl rfl (Nat.le_of_ble_eq_true rfl) (ws1 := [(h0, .inr (2, [.ref q1, .ref q2, .null, .null, .null, .null, .null, .null, .null, .int 0])), (q1, .inl (cI, 150, .inl (fun _ => 0))), (q2, .inl (cI, 150, .inl (fun _ => 0)))]) rfl dX2_init_19 (fun H locs hw => ?_)
  refine lv_aload_n (pc := 22) hx hb dX2_init_22 rfl (lv_at hl 0 rfl) ?_
  refine lv_sipush (pc := 23) (v := (150 : Int32)) hx hb dX2_init_23 (by decide) ?_
  refine newCI (pc := 26) (c1 := 3) (s1 := 450) (N' := 150) cx (hts _ kX2_init_w_arrayClass__int) hw 0 rfl (by decide) (by decide) (by decide) (Nat.le_of_ble_eq_true rfl) (Nat.le_of_ble_eq_true rfl) rfl rfl dX2_init_26 (fun q3 H hw => ?_)
  have hw : WS D s A0 [(h0, .inr (2, [.ref q1, .ref q2, .null, .null, .null, .null, .null, .null, .null, .int 0])), (q1, .inl (cI, 150, .inl (fun _ => 0))), (q2, .inl (cI, 150, .inl (fun _ => 0))), (q3, .inl (cI, 150, .inl (fun _ => 0)))] _ _ := hw
  refine puFF (pc := 28) (C := RX2) (T := TX2) (N := 10) (ci := 2) (ty := tyX2 2) cx inX2_init_X2 tyX2 tyX2_ok nmX2 rfl 2 (by decide) rfl hin rfl kX2_init_w_fieldLink_RX2_18__DrownedPost_Letters___seal____I_ hw 0 rfl (tyX2_ok 2 (by decide)) rfl rfl (Nat.le_of_ble_eq_true rfl) (ws1 := [(h0, .inr (2, [.ref q1, .ref q2, .ref q3, .null, .null, .null, .null, .null, .null, .int 0])), (q1, .inl (cI, 150, .inl (fun _ => 0))), (q2, .inl (cI, 150, .inl (fun _ => 0))), (q3, .inl (cI, 150, .inl (fun _ => 0)))]) rfl dX2_init_28 (fun H locs hw => ?_)
  refine lv_aload_n (pc := 31) hx hb dX2_init_31 rfl (lv_at hl 0 rfl) ?_
  refine lv_sipush (pc := 32) (v := (150 : Int32)) hx hb dX2_init_32 (by decide) ?_
  refine newCI (pc := 35) (c1 := 4) (s1 := 600) (N' := 150) cx (hts _ kX2_init_w_arrayClass__int) hw 0 rfl (by decide) (by decide) (by decide) (Nat.le_of_ble_eq_true rfl) (Nat.le_of_ble_eq_true rfl) rfl rfl dX2_init_35 (fun q4 H hw => ?_)
  have hw : WS D s A0 [(h0, .inr (2, [.ref q1, .ref q2, .ref q3, .null, .null, .null, .null, .null, .null, .int 0])), (q1, .inl (cI, 150, .inl (fun _ => 0))), (q2, .inl (cI, 150, .inl (fun _ => 0))), (q3, .inl (cI, 150, .inl (fun _ => 0))), (q4, .inl (cI, 150, .inl (fun _ => 0)))] _ _ := hw
  refine puFF (pc := 37) (C := RX2) (T := TX2) (N := 10) (ci := 2) (ty := tyX2 3) cx inX2_init_X2 tyX2 tyX2_ok nmX2 rfl 3 (by decide) rfl hin rfl kX2_init_w_fieldLink_RX2_21__DrownedPost_Letters___state____I_ hw 0 rfl (tyX2_ok 3 (by decide)) rfl rfl (Nat.le_of_ble_eq_true rfl) (ws1 := [(h0, .inr (2, [.ref q1, .ref q2, .ref q3, .ref q4, .null, .null, .null, .null, .null, .int 0])), (q1, .inl (cI, 150, .inl (fun _ => 0))), (q2, .inl (cI, 150, .inl (fun _ => 0))), (q3, .inl (cI, 150, .inl (fun _ => 0))), (q4, .inl (cI, 150, .inl (fun _ => 0)))]) rfl dX2_init_37 (fun H locs hw => ?_)
  refine lv_aload_n (pc := 40) hx hb dX2_init_40 rfl (lv_at hl 0 rfl) ?_
  refine lv_sipush (pc := 41) (v := (150 : Int32)) hx hb dX2_init_41 (by decide) ?_
  refine newCI (pc := 44) (c1 := 5) (s1 := 750) (N' := 150) cx (hts _ kX2_init_w_arrayClass__int) hw 0 rfl (by decide) (by decide) (by decide) (Nat.le_of_ble_eq_true rfl) (Nat.le_of_ble_eq_true rfl) rfl rfl dX2_init_44 (fun q5 H hw => ?_)
  have hw : WS D s A0 [(h0, .inr (2, [.ref q1, .ref q2, .ref q3, .ref q4, .null, .null, .null, .null, .null, .int 0])), (q1, .inl (cI, 150, .inl (fun _ => 0))), (q2, .inl (cI, 150, .inl (fun _ => 0))), (q3, .inl (cI, 150, .inl (fun _ => 0))), (q4, .inl (cI, 150, .inl (fun _ => 0))), (q5, .inl (cI, 150, .inl (fun _ => 0)))] _ _ := hw
  refine puFF (pc := 46) (C := RX2) (T := TX2) (N := 10) (ci := 2) (ty := tyX2 4) cx inX2_init_X2 tyX2 tyX2_ok nmX2 rfl 4 (by decide) rfl hin rfl kX2_init_w_fieldLink_RX2_24__DrownedPost_Letters___growth____I_ hw 0 rfl (tyX2_ok 4 (by decide)) rfl rfl (Nat.le_of_ble_eq_true rfl) (ws1 := [(h0, .inr (2, [.ref q1, .ref q2, .ref q3, .ref q4, .ref q5, .null, .null, .null, .null, .int 0])), (q1, .inl (cI, 150, .inl (fun _ => 0))), (q2, .inl (cI, 150, .inl (fun _ => 0))), (q3, .inl (cI, 150, .inl (fun _ => 0))), (q4, .inl (cI, 150, .inl (fun _ => 0))), (q5, .inl (cI, 150, .inl (fun _ => 0)))]) rfl dX2_init_46 (fun H locs hw => ?_)
  refine lv_aload_n (pc := 49) hx hb dX2_init_49 rfl (lv_at hl 0 rfl) ?_
  refine lv_sipush (pc := 50) (v := (150 : Int32)) hx hb dX2_init_50 (by decide) ?_
  refine newCI (pc := 53) (c1 := 6) (s1 := 900) (N' := 150) cx (hts _ kX2_init_w_arrayClass__int) hw 0 rfl (by decide) (by decide) (by decide) (Nat.le_of_ble_eq_true rfl) (Nat.le_of_ble_eq_true rfl) rfl rfl dX2_init_53 (fun q6 H hw => ?_)
  have hw : WS D s A0 [(h0, .inr (2, [.ref q1, .ref q2, .ref q3, .ref q4, .ref q5, .null, .null, .null, .null, .int 0])), (q1, .inl (cI, 150, .inl (fun _ => 0))), (q2, .inl (cI, 150, .inl (fun _ => 0))), (q3, .inl (cI, 150, .inl (fun _ => 0))), (q4, .inl (cI, 150, .inl (fun _ => 0))), (q5, .inl (cI, 150, .inl (fun _ => 0))), (q6, .inl (cI, 150, .inl (fun _ => 0)))] _ _ := hw
  refine puFF (pc := 55) (C := RX2) (T := TX2) (N := 10) (ci := 2) (ty := tyX2 5) cx inX2_init_X2 tyX2 tyX2_ok nmX2 rfl 5 (by decide) rfl hin rfl kX2_init_w_fieldLink_RX2_27__DrownedPost_Letters___bin____I_ hw 0 rfl (tyX2_ok 5 (by decide)) rfl rfl (Nat.le_of_ble_eq_true rfl) (ws1 := [(h0, .inr (2, [.ref q1, .ref q2, .ref q3, .ref q4, .ref q5, .ref q6, .null, .null, .null, .int 0])), (q1, .inl (cI, 150, .inl (fun _ => 0))), (q2, .inl (cI, 150, .inl (fun _ => 0))), (q3, .inl (cI, 150, .inl (fun _ => 0))), (q4, .inl (cI, 150, .inl (fun _ => 0))), (q5, .inl (cI, 150, .inl (fun _ => 0))), (q6, .inl (cI, 150, .inl (fun _ => 0)))]) rfl dX2_init_55 (fun H locs hw => ?_)
  refine lv_aload_n (pc := 58) hx hb dX2_init_58 rfl (lv_at hl 0 rfl) ?_
  refine lv_sipush (pc := 59) (v := (150 : Int32)) hx hb dX2_init_59 (by decide) ?_
  refine newCI (pc := 62) (c1 := 7) (s1 := 1050) (N' := 150) cx (hts _ kX2_init_w_arrayClass__int) hw 0 rfl (by decide) (by decide) (by decide) (Nat.le_of_ble_eq_true rfl) (Nat.le_of_ble_eq_true rfl) rfl rfl dX2_init_62 (fun q7 H hw => ?_)
  have hw : WS D s A0 [(h0, .inr (2, [.ref q1, .ref q2, .ref q3, .ref q4, .ref q5, .ref q6, .null, .null, .null, .int 0])), (q1, .inl (cI, 150, .inl (fun _ => 0))), (q2, .inl (cI, 150, .inl (fun _ => 0))), (q3, .inl (cI, 150, .inl (fun _ => 0))), (q4, .inl (cI, 150, .inl (fun _ => 0))), (q5, .inl (cI, 150, .inl (fun _ => 0))), (q6, .inl (cI, 150, .inl (fun _ => 0))), (q7, .inl (cI, 150, .inl (fun _ => 0)))] _ _ := hw
  refine puFF (pc := 64) (C := RX2) (T := TX2) (N := 10) (ci := 2) (ty := tyX2 6) cx inX2_init_X2 tyX2 tyX2_ok nmX2 rfl 6 (by decide) rfl hin rfl kX2_init_w_fieldLink_RX2_30__DrownedPost_Letters___held____I_ hw 0 rfl (tyX2_ok 6 (by decide)) rfl rfl (Nat.le_of_ble_eq_true rfl) (ws1 := [(h0, .inr (2, [.ref q1, .ref q2, .ref q3, .ref q4, .ref q5, .ref q6, .ref q7, .null, .null, .int 0])), (q1, .inl (cI, 150, .inl (fun _ => 0))), (q2, .inl (cI, 150, .inl (fun _ => 0))), (q3, .inl (cI, 150, .inl (fun _ => 0))), (q4, .inl (cI, 150, .inl (fun _ => 0))), (q5, .inl (cI, 150, .inl (fun _ => 0))), (q6, .inl (cI, 150, .inl (fun _ => 0))), (q7, .inl (cI, 150, .inl (fun _ => 0)))]) rfl dX2_init_64 (fun H locs hw => ?_)
  refine lv_aload_n (pc := 67) hx hb dX2_init_67 rfl (lv_at hl 0 rfl) ?_
  refine lv_sipush (pc := 68) (v := (150 : Int32)) hx hb dX2_init_68 (by decide) ?_
  refine newCI (pc := 71) (c1 := 8) (s1 := 1200) (N' := 150) cx (hts _ kX2_init_w_arrayClass__int) hw 0 rfl (by decide) (by decide) (by decide) (Nat.le_of_ble_eq_true rfl) (Nat.le_of_ble_eq_true rfl) rfl rfl dX2_init_71 (fun q8 H hw => ?_)
  have hw : WS D s A0 [(h0, .inr (2, [.ref q1, .ref q2, .ref q3, .ref q4, .ref q5, .ref q6, .ref q7, .null, .null, .int 0])), (q1, .inl (cI, 150, .inl (fun _ => 0))), (q2, .inl (cI, 150, .inl (fun _ => 0))), (q3, .inl (cI, 150, .inl (fun _ => 0))), (q4, .inl (cI, 150, .inl (fun _ => 0))), (q5, .inl (cI, 150, .inl (fun _ => 0))), (q6, .inl (cI, 150, .inl (fun _ => 0))), (q7, .inl (cI, 150, .inl (fun _ => 0))), (q8, .inl (cI, 150, .inl (fun _ => 0)))] _ _ := hw
  refine puFF (pc := 73) (C := RX2) (T := TX2) (N := 10) (ci := 2) (ty := tyX2 7) cx inX2_init_X2 tyX2 tyX2_ok nmX2 rfl 7 (by decide) rfl hin rfl kX2_init_w_fieldLink_RX2_33__DrownedPost_Letters___hoursBefore____I_ hw 0 rfl (tyX2_ok 7 (by decide)) rfl rfl (Nat.le_of_ble_eq_true rfl) (ws1 := [(h0, .inr (2, [.ref q1, .ref q2, .ref q3, .ref q4, .ref q5, .ref q6, .ref q7, .ref q8, .null, .int 0])), (q1, .inl (cI, 150, .inl (fun _ => 0))), (q2, .inl (cI, 150, .inl (fun _ => 0))), (q3, .inl (cI, 150, .inl (fun _ => 0))), (q4, .inl (cI, 150, .inl (fun _ => 0))), (q5, .inl (cI, 150, .inl (fun _ => 0))), (q6, .inl (cI, 150, .inl (fun _ => 0))), (q7, .inl (cI, 150, .inl (fun _ => 0))), (q8, .inl (cI, 150, .inl (fun _ => 0)))]) rfl dX2_init_73 (fun H locs hw => ?_)
  refine lv_aload_n (pc := 76) hx hb dX2_init_76 rfl (lv_at hl 0 rfl) ?_
  refine lv_sipush (pc := 77) (v := (150 : Int32)) hx hb dX2_init_77 (by decide) ?_
  refine newCI (pc := 80) (c1 := 9) (s1 := 1350) (N' := 150) cx (hts _ kX2_init_w_arrayClass__int) hw 0 rfl (by decide) (by decide) (by decide) (Nat.le_of_ble_eq_true rfl) (Nat.le_of_ble_eq_true rfl) rfl rfl dX2_init_80 (fun q9 H hw => ?_)
  have hw : WS D s A0 [(h0, .inr (2, [.ref q1, .ref q2, .ref q3, .ref q4, .ref q5, .ref q6, .ref q7, .ref q8, .null, .int 0])), (q1, .inl (cI, 150, .inl (fun _ => 0))), (q2, .inl (cI, 150, .inl (fun _ => 0))), (q3, .inl (cI, 150, .inl (fun _ => 0))), (q4, .inl (cI, 150, .inl (fun _ => 0))), (q5, .inl (cI, 150, .inl (fun _ => 0))), (q6, .inl (cI, 150, .inl (fun _ => 0))), (q7, .inl (cI, 150, .inl (fun _ => 0))), (q8, .inl (cI, 150, .inl (fun _ => 0))), (q9, .inl (cI, 150, .inl (fun _ => 0)))] _ _ := hw
  refine puFF (pc := 82) (C := RX2) (T := TX2) (N := 10) (ci := 2) (ty := tyX2 8) cx inX2_init_X2 tyX2 tyX2_ok nmX2 rfl 8 (by decide) rfl hin rfl kX2_init_w_fieldLink_RX2_36__DrownedPost_Letters___answered____I_ hw 0 rfl (tyX2_ok 8 (by decide)) rfl rfl (Nat.le_of_ble_eq_true rfl) (ws1 := [(h0, .inr (2, [.ref q1, .ref q2, .ref q3, .ref q4, .ref q5, .ref q6, .ref q7, .ref q8, .ref q9, .int 0])), (q1, .inl (cI, 150, .inl (fun _ => 0))), (q2, .inl (cI, 150, .inl (fun _ => 0))), (q3, .inl (cI, 150, .inl (fun _ => 0))), (q4, .inl (cI, 150, .inl (fun _ => 0))), (q5, .inl (cI, 150, .inl (fun _ => 0))), (q6, .inl (cI, 150, .inl (fun _ => 0))), (q7, .inl (cI, 150, .inl (fun _ => 0))), (q8, .inl (cI, 150, .inl (fun _ => 0))), (q9, .inl (cI, 150, .inl (fun _ => 0)))]) rfl dX2_init_82 (fun H locs hw => ?_)
  exact hret 85 _ (fun k => [q1, q2, q3, q4, q5, q6, q7, q8, q9].getD k 0) _ _ dX2_init_85 trivial hw
abbrev rmX4_init : Room := { frames := 1, cells := 1, slots := 30, locals := 80 }
theorem inX4_init_X4 : ∀ w ∈ wsX40, w ∈ wsX4_init := by decide +kernel
theorem kX4_init_w_arrayClass__int : Cond.arrayClass .int ∈ wsX4_init := by decide +kernel
theorem kX4_init_w_code_objectInit____0xb1___1_none : Cond.code objectInit ⟨#[0xb1]⟩ 1 none ∈ wsX4_init := by decide +kernel
theorem kX4_init_w_fieldLink_RX4_18__DrownedPost_Tides___count___I_ : Cond.fieldLink RX4 18 "DrownedPost$Tides" "count" "I" ∈ wsX4_init := by decide +kernel
theorem kX4_init_w_fieldLink_RX4_9__DrownedPost_Tides___heights____I_ : Cond.fieldLink RX4 9 "DrownedPost$Tides" "heights" "[I" ∈ wsX4_init := by decide +kernel
theorem kX4_init_w_initialized__java_lang_System_ : Cond.initialized "java/lang/System" ∈ wsX4_init := by decide +kernel
theorem kX4_init_w_instanceMethod_objectInit : Cond.instanceMethod objectInit ∈ wsX4_init := by decide +kernel
theorem kX4_init_w_methodLink_RX4_22_arraycopyName : Cond.methodLink RX4 22 arraycopyName ∈ wsX4_init := by decide +kernel
theorem kX4_init_w_methodLink_RX4_3_objectInit : Cond.methodLink RX4 3 objectInit ∈ wsX4_init := by decide +kernel
theorem kX4_init_w_native_arraycopyName : Cond.native arraycopyName ∈ wsX4_init := by decide +kernel
theorem kX4_init_w_static_arraycopyName : Cond.static arraycopyName ∈ wsX4_init := by decide +kernel
set_option maxHeartbeats 4000000 in
set_option maxRecDepth 100000 in
theorem metX4_init (l : Launch) (D : va_G) (cI cZ : ClassId) (h0 sz : Nat) : Met l yX4_init wsX4_init rmX4_init (PcF D [(cI, .int), (cZ, .boolean)] [(h0, .inr (4, [.null, .int 0]))] sz [.ref h0]) (QvW D [(cI, .int), (cZ, .boolean)] [(h0, .inr (4, [.null, .int 0]))] sz (fun u : Nat → Nat => [(h0, .inr (4, [.ref (u 0), .int 12])), ((u 0), .inl (cI, 30, .inl (va_cpy ftI (fun _ => 0) (0 : Int32).toNatClampNeg (0 : Int32).toNatClampNeg (12 : Int32).toNatClampNeg)))]) (fun _ => True)) rmX4_init.cells rmX4_init.slots (va_A [(h0, .inr (4, [.null, .int 0]))] sz) := by
  refine startC (by decide) rfl rfl (Nat.le_of_ble_eq_true rfl) ?_
  intro p e s m args below meth c A0 Z cx hw hF hin hret ls hl
  obtain ⟨hx, hb, hml, hown, hts, hK, hA⟩ := id cx
  obtain ⟨-, t, hZ, hT⟩ := id hF
  have hl : lv_has ls 1 [(0, .ref h0)] := hl
  refine lv_aload_n (pc := 0) hx hb dX4_init_0 rfl (lv_at hl 0 rfl) ?_
  refine W.objInit hx hb hown (hts _ kX4_init_w_methodLink_RX4_3_objectInit) (hts _ kX4_init_w_instanceMethod_objectInit) (hts _ kX4_init_w_code_objectInit____0xb1___1_none) rfl (by rw [hml]; exact hl.1) rfl dX4_init_1 (Nat.le_of_ble_eq_true rfl) (Nat.le_of_ble_eq_true rfl) ?_
  refine W.eq (g2 := F0 m 4 ls []) rfl ?_
  refine lv_aload_n (pc := 4) hx hb dX4_init_4 rfl (lv_at hl 0 rfl) ?_
  refine lv_bipush (pc := 5) (v := (30 : Int32)) hx hb dX4_init_5 (by decide) ?_
  refine newCI (pc := 7) (c1 := 1) (s1 := 30) (N' := 30) cx (hts _ kX4_init_w_arrayClass__int) hw 0 rfl (by decide) (by decide) (by decide) (Nat.le_of_ble_eq_true rfl) (Nat.le_of_ble_eq_true rfl) rfl rfl dX4_init_7 (fun q1 H hw => ?_)
  have hw : WS D s A0 [(h0, .inr (4, [.null, .int 0])), (q1, .inl (cI, 30, .inl (fun _ => 0)))] _ _ := hw
  refine puFF (pc := 9) (C := RX4) (T := TX4) (N := 2) (ci := 4) (ty := tyX4 0) cx inX4_init_X4 tyX4 tyX4_ok nmX4 rfl 0 (by decide) rfl hin rfl kX4_init_w_fieldLink_RX4_9__DrownedPost_Tides___heights____I_ hw 0 rfl (tyX4_ok 0 (by decide)) rfl rfl (Nat.le_of_ble_eq_true rfl) (ws1 := [(h0, .inr (4, [.ref q1, .int 0])), (q1, .inl (cI, 30, .inl (fun _ => 0)))]) rfl dX4_init_9 (fun H locs hw => ?_)
  refine lv_aload_n (pc := 12) hx hb dX4_init_12 rfl (lv_at hl 0 rfl) ?_
  refine va_getsN (pc := 13) (C := "DrownedPost") (n := "FIRST_TIDES") (d := "[I") (v := .ref t) (index := 15) (ref := "DrownedPost") (host := "DrownedPost") hx hb hZ hw.2.2 hown (va_Nw.use rfl (hF.1 _ (List.mem_of_getElem? (i := 4) rfl))) (fun _ h => h) dX4_init_13 ?_
  refine va_tlen (pc := 16) hx hb hT hw.2.2 (v := (12 : Int32)) (by decide) dX4_init_16 ?_
  refine puF (pc := 17) (C := RX4) (T := TX4) (N := 2) (ci := 4) cx inX4_init_X4 tyX4 tyX4_ok nmX4 rfl 1 (by decide) rfl rfl kX4_init_w_fieldLink_RX4_18__DrownedPost_Tides___count___I_ hw 0 rfl (Nat.le_of_ble_eq_true rfl) (ws1 := [(h0, .inr (4, [.ref q1, .int (12 : Int32)])), (q1, .inl (cI, 30, .inl (fun _ => 0)))]) rfl dX4_init_17 (fun H locs hw => ?_)
  refine va_getsN (pc := 20) (C := "DrownedPost") (n := "FIRST_TIDES") (d := "[I") (v := .ref t) (index := 15) (ref := "DrownedPost") (host := "DrownedPost") hx hb hZ hw.2.2 hown (va_Nw.use rfl (hF.1 _ (List.mem_of_getElem? (i := 4) rfl))) (fun _ h => h) dX4_init_20 ?_
  refine lv_iconst (pc := 23) (v := (0 : Int32)) hx hb dX4_init_23 (by decide) ?_
  refine lv_aload_n (pc := 24) hx hb dX4_init_24 rfl (lv_at hl 0 rfl) ?_
  refine geF (pc := 25) (C := RX4) (T := TX4) (N := 2) (ci := 4) cx inX4_init_X4 rfl 0 (by decide) kX4_init_w_fieldLink_RX4_9__DrownedPost_Tides___heights____I_ hw 0 rfl rfl dX4_init_25 ?_
  refine lv_iconst (pc := 28) (v := (0 : Int32)) hx hb dX4_init_28 (by decide) ?_
  refine va_getsN (pc := 29) (C := "DrownedPost") (n := "FIRST_TIDES") (d := "[I") (v := .ref t) (index := 15) (ref := "DrownedPost") (host := "DrownedPost") hx hb hZ hw.2.2 hown (va_Nw.use rfl (hF.1 _ (List.mem_of_getElem? (i := 4) rfl))) (fun _ h => h) dX4_init_29 ?_
  refine va_tlen (pc := 32) hx hb hT hw.2.2 (v := (12 : Int32)) (by decide) dX4_init_32 ?_
  refine cpT (pc := 33) hx hb (hml.trans hl.1.symm) hown (hts _ kX4_init_w_methodLink_RX4_22_arraycopyName) (hts _ kX4_init_w_native_arraycopyName) (hts _ kX4_init_w_static_arraycopyName) (hts _ kX4_init_w_initialized__java_lang_System_) hK hw.1 hw.2.1 hw.2.2 hT 1 0 (a := q1) rfl rfl (by decide) (by decide) (by decide) (by decide) (by decide) (fun _ _ => rfl) (Nat.le_of_ble_eq_true rfl) (Nat.le_of_ble_eq_true rfl) dX4_init_33 (fun H locs x1 x2 x3 => ?_)
  have hw : WS D s A0 [(h0, .inr (4, [.ref q1, .int (12 : Int32)])), (q1, .inl (cI, 30, .inl (va_cpy ftI (fun _ => 0) (0 : Int32).toNatClampNeg (0 : Int32).toNatClampNeg (12 : Int32).toNatClampNeg)))] _ _ := ⟨x1, x2, x3⟩
  exact hret 36 _ (fun k => [q1].getD k 0) _ _ dX4_init_36 trivial hw
abbrev rmX3_init : Room := { frames := 2, cells := 24, slots := 1812, locals := 110 }
theorem inX3_init_X0 : ∀ w ∈ wsX00, w ∈ wsX3_init := by decide +kernel
theorem inX3_init_X1 : ∀ w ∈ wsX10, w ∈ wsX3_init := by decide +kernel
theorem inX3_init_X2 : ∀ w ∈ wsX20, w ∈ wsX3_init := by decide +kernel
theorem inX3_init_X3 : ∀ w ∈ wsX30, w ∈ wsX3_init := by decide +kernel
theorem inX3_init_X4 : ∀ w ∈ wsX40, w ∈ wsX3_init := by decide +kernel
theorem kX3_init_w_arrayClass__boolean : Cond.arrayClass .boolean ∈ wsX3_init := by decide +kernel
theorem kX3_init_w_arrayClass__int : Cond.arrayClass .int ∈ wsX3_init := by decide +kernel
theorem kX3_init_w_classLink_RX3_18_RX0 : Cond.classLink RX3 18 RX0 ∈ wsX3_init := by decide +kernel
theorem kX3_init_w_classLink_RX3_25_RX1 : Cond.classLink RX3 25 RX1 ∈ wsX3_init := by decide +kernel
theorem kX3_init_w_classLink_RX3_32_RX2 : Cond.classLink RX3 32 RX2 ∈ wsX3_init := by decide +kernel
theorem kX3_init_w_classLink_RX3_9_RX4 : Cond.classLink RX3 9 RX4 ∈ wsX3_init := by decide +kernel
theorem kX3_init_w_code_objectInit____0xb1___1_none : Cond.code objectInit ⟨#[0xb1]⟩ 1 none ∈ wsX3_init := by decide +kernel
theorem kX3_init_w_fieldLink_RX3_12__DrownedPost_Office___tides___LDrownedPost : Cond.fieldLink RX3 12 "DrownedPost$Office" "tides" "LDrownedPost$Tides;" ∈ wsX3_init := by decide +kernel
theorem kX3_init_w_fieldLink_RX3_21__DrownedPost_Office___bins___LDrownedPost_ : Cond.fieldLink RX3 21 "DrownedPost$Office" "bins" "LDrownedPost$Bins;" ∈ wsX3_init := by decide +kernel
theorem kX3_init_w_fieldLink_RX3_28__DrownedPost_Office___drowned___LDrownedPo : Cond.fieldLink RX3 28 "DrownedPost$Office" "drowned" "LDrownedPost$Drowned;" ∈ wsX3_init := by decide +kernel
theorem kX3_init_w_fieldLink_RX3_35__DrownedPost_Office___letters___LDrownedPo : Cond.fieldLink RX3 35 "DrownedPost$Office" "letters" "LDrownedPost$Letters;" ∈ wsX3_init := by decide +kernel
theorem kX3_init_w_fieldLink_RX3_39__DrownedPost_Office___scrapers___I_ : Cond.fieldLink RX3 39 "DrownedPost$Office" "scrapers" "I" ∈ wsX3_init := by decide +kernel
theorem kX3_init_w_fieldLink_RX3_43__DrownedPost_Office___sorters___I_ : Cond.fieldLink RX3 43 "DrownedPost$Office" "sorters" "I" ∈ wsX3_init := by decide +kernel
theorem kX3_init_w_fieldLink_RX3_46__DrownedPost_Office___sunk____I_ : Cond.fieldLink RX3 46 "DrownedPost$Office" "sunk" "[I" ∈ wsX3_init := by decide +kernel
theorem kX3_init_w_fieldLink_RX3_50__DrownedPost_Office___scraped____Z_ : Cond.fieldLink RX3 50 "DrownedPost$Office" "scraped" "[Z" ∈ wsX3_init := by decide +kernel
theorem kX3_init_w_initialized_RX0 : Cond.initialized RX0 ∈ wsX3_init := by decide +kernel
theorem kX3_init_w_initialized_RX1 : Cond.initialized RX1 ∈ wsX3_init := by decide +kernel
theorem kX3_init_w_initialized_RX2 : Cond.initialized RX2 ∈ wsX3_init := by decide +kernel
theorem kX3_init_w_initialized_RX4 : Cond.initialized RX4 ∈ wsX3_init := by decide +kernel
theorem kX3_init_w_instanceMethod_objectInit : Cond.instanceMethod objectInit ∈ wsX3_init := by decide +kernel
theorem kX3_init_w_instanceMethod_yX0_init : Cond.instanceMethod yX0_init ∈ wsX3_init := by decide +kernel
theorem kX3_init_w_instanceMethod_yX1_init : Cond.instanceMethod yX1_init ∈ wsX3_init := by decide +kernel
theorem kX3_init_w_instanceMethod_yX2_init : Cond.instanceMethod yX2_init ∈ wsX3_init := by decide +kernel
theorem kX3_init_w_instanceMethod_yX4_init : Cond.instanceMethod yX4_init ∈ wsX3_init := by decide +kernel
theorem kX3_init_w_instantiable_RX0_4 : Cond.instantiable RX0 4 ∈ wsX3_init := by decide +kernel
theorem kX3_init_w_instantiable_RX1_6 : Cond.instantiable RX1 6 ∈ wsX3_init := by decide +kernel
theorem kX3_init_w_instantiable_RX2_10 : Cond.instantiable RX2 10 ∈ wsX3_init := by decide +kernel
theorem kX3_init_w_instantiable_RX4_2 : Cond.instantiable RX4 2 ∈ wsX3_init := by decide +kernel
theorem kX3_init_w_methodLink_RX3_11_yX4_init : Cond.methodLink RX3 11 yX4_init ∈ wsX3_init := by decide +kernel
theorem kX3_init_w_methodLink_RX3_3_objectInit : Cond.methodLink RX3 3 objectInit ∈ wsX3_init := by decide +kernel
def A0o : SA := fun k => if k = 0 then (va_cpy ftI (fun _ => 0) (0 : Int32).toNatClampNeg (0 : Int32).toNatClampNeg (12 : Int32).toNatClampNeg) else fun _ => 0
def V0o : SV := fun k => if k = 0 then 12 else if k = 5 then 2 else if k = 6 then 3 else 0
set_option maxHeartbeats 4000000 in
set_option maxRecDepth 100000 in
theorem metX3_init (l : Launch) (D : va_G) (cI cZ : ClassId) (h0 sz : Nat) : Met l yX3_init wsX3_init rmX3_init (PcF D [(cI, .int), (cZ, .boolean)] [(h0, .inr (3, [.null, .null, .null, .null, .int 0, .int 0, .int 0, .null, .int 0, .null]))] sz [.ref h0]) (QvW D [(cI, .int), (cZ, .boolean)] [(h0, .inr (3, [.null, .null, .null, .null, .int 0, .int 0, .int 0, .null, .int 0, .null]))] sz (fun u : Nat → Nat => wO u cI cZ A0o V0o) (fun u => u 0 = h0)) rmX3_init.cells rmX3_init.slots (va_A [(h0, .inr (3, [.null, .null, .null, .null, .int 0, .int 0, .int 0, .null, .int 0, .null]))] sz) := by
  refine startC (by decide) rfl rfl (Nat.le_of_ble_eq_true rfl) ?_
  intro p e s m args below meth c A0 Z cx hw hF hin hret ls hl
  obtain ⟨hx, hb, hml, hown, hts, hK, hA⟩ := id cx
  have hl : lv_has ls 1 [(0, .ref h0)] := hl
  refine lv_aload_n (pc := 0) hx hb dX3_init_0 rfl (lv_at hl 0 rfl) ?_
  refine W.objInit hx hb hown (hts _ kX3_init_w_methodLink_RX3_3_objectInit) (hts _ kX3_init_w_instanceMethod_objectInit) (hts _ kX3_init_w_code_objectInit____0xb1___1_none) rfl (by rw [hml]; exact hl.1) rfl dX3_init_1 (Nat.le_of_ble_eq_true rfl) (Nat.le_of_ble_eq_true rfl) ?_
  refine W.eq (g2 := F0 m 4 ls []) rfl ?_
  refine lv_aload_n (pc := 4) hx hb dX3_init_4 rfl (lv_at hl 0 rfl) ?_
  refine newO (pc := 5) (c1 := 1) (s1 := 2) (T := TX4) (N := 2) (C := RX4) (ci := 4) (fs := [.null, .int 0]) cx inX3_init_X4 tyX4 tyX4_ok kX3_init_w_classLink_RX3_9_RX4 kX3_init_w_instantiable_RX4_2 kX3_init_w_initialized_RX4 hw rfl (by decide) (Nat.le_of_ble_eq_true rfl) (Nat.le_of_ble_eq_true rfl) rfl rfl dX3_init_5 (fun q1 H hw => ?_)
  have hw : WS D s A0 [(h0, .inr (3, [.null, .null, .null, .null, .int 0, .int 0, .int 0, .null, .int 0, .null])), (q1, .inr (4, [.null, .int 0]))] _ _ := hw
  refine lv_dup (pc := 8) hx hb dX3_init_8 rfl ?_
  refine callIp (pc := 9) (rest := [.ref q1, .ref h0]) (c1 := 2) (s1 := 32) cx hw hl hF (metX4_init l D cI cZ q1 H.size) (fun hts => cwI 0 hts gX3_init_X4_init rfl rfl rfl (hts _ kX3_init_w_initialized_RX4) (hts _ kX3_init_w_methodLink_RX3_11_yX4_init) (hts _ kX3_init_w_instanceMethod_yX4_init) rfl (by decide +kernel) ⟨Nat.le_of_ble_eq_true rfl, Nat.le_of_ble_eq_true rfl⟩) (SUB.by [1] (by decide) rfl) [0, 1] rfl (JN.app (wr := [(h0, .inr (3, [.null, .null, .null, .null, .int 0, .int 0, .int 0, .null, .int 0, .null]))]) [1] [0] rfl rfl (by decide) (by decide)) rfl (Nat.le_of_ble_eq_true rfl) ⟨Nat.le_of_ble_eq_true rfl, Nat.le_of_ble_eq_true rfl⟩ rfl rfl dX3_init_9 (fun u2 H locs hu2 hw => ?_)
  have hw : WS D s A0 [(h0, .inr (3, [.null, .null, .null, .null, .int 0, .int 0, .int 0, .null, .int 0, .null])), (q1, .inr (4, [.ref (u2 0), .int 12])), ((u2 0), .inl (cI, 30, .inl (va_cpy ftI (fun _ => 0) (0 : Int32).toNatClampNeg (0 : Int32).toNatClampNeg (12 : Int32).toNatClampNeg)))] _ _ := hw
  refine puFF (pc := 12) (C := RX3) (T := TX3) (N := 10) (ci := 3) (ty := tyX3 0) cx inX3_init_X3 tyX3 tyX3_ok nmX3 rfl 0 (by decide) rfl hin rfl kX3_init_w_fieldLink_RX3_12__DrownedPost_Office___tides___LDrownedPost hw 0 rfl (tyX3_ok 0 (by decide)) rfl rfl (Nat.le_of_ble_eq_true rfl) (ws1 := [(h0, .inr (3, [.ref q1, .null, .null, .null, .int 0, .int 0, .int 0, .null, .int 0, .null])), (q1, .inr (4, [.ref (u2 0), .int 12])), ((u2 0), .inl (cI, 30, .inl (va_cpy ftI (fun _ => 0) (0 : Int32).toNatClampNeg (0 : Int32).toNatClampNeg (12 : Int32).toNatClampNeg)))]) rfl dX3_init_12 (fun H locs hw => ?_)
  refine lv_aload_n (pc := 15) hx hb dX3_init_15 rfl (lv_at hl 0 rfl) ?_
  refine newO (pc := 16) (c1 := 3) (s1 := 36) (T := TX0) (N := 4) (C := RX0) (ci := 0) (fs := [.null, .null, .null, .int 0]) cx inX3_init_X0 tyX0 tyX0_ok kX3_init_w_classLink_RX3_18_RX0 kX3_init_w_instantiable_RX0_4 kX3_init_w_initialized_RX0 hw rfl (by decide) (Nat.le_of_ble_eq_true rfl) (Nat.le_of_ble_eq_true rfl) rfl rfl dX3_init_16 (fun q3 H hw => ?_)
  have hw : WS D s A0 [(h0, .inr (3, [.ref q1, .null, .null, .null, .int 0, .int 0, .int 0, .null, .int 0, .null])), (q1, .inr (4, [.ref (u2 0), .int 12])), ((u2 0), .inl (cI, 30, .inl (va_cpy ftI (fun _ => 0) (0 : Int32).toNatClampNeg (0 : Int32).toNatClampNeg (12 : Int32).toNatClampNeg))), (q3, .inr (0, [.null, .null, .null, .int 0]))] _ _ := hw
  refine lv_dup (pc := 19) hx hb dX3_init_19 rfl ?_
  refine callIN (pc := 20) (rest := [.ref q3, .ref h0]) (c1 := 6) (s1 := 66) cx hw hl hF (metX0_init l D cI cZ q3 H.size) (fun hts => ⟨va_cnB (host := "DrownedPost") 0 hts gX3_init_X0_init_n20 rfl rfl rfl (hF.1 _ (List.mem_of_getElem? (i := 1) rfl)) (hts _ kX3_init_w_initialized_RX0) (by decide +kernel) ⟨Nat.le_of_ble_eq_true rfl, Nat.le_of_ble_eq_true rfl⟩, rfl, hts _ kX3_init_w_instanceMethod_yX0_init⟩) (SUB.by [3] (by decide) rfl) [0, 1] rfl (JN.app (wr := [(h0, .inr (3, [.ref q1, .null, .null, .null, .int 0, .int 0, .int 0, .null, .int 0, .null])), (q1, .inr (4, [.ref (u2 0), .int 12])), ((u2 0), .inl (cI, 30, .inl (va_cpy ftI (fun _ => 0) (0 : Int32).toNatClampNeg (0 : Int32).toNatClampNeg (12 : Int32).toNatClampNeg)))]) [3] [0, 1, 2] rfl rfl (by decide) (by decide)) rfl (Nat.le_of_ble_eq_true rfl) ⟨Nat.le_of_ble_eq_true rfl, Nat.le_of_ble_eq_true rfl⟩ rfl rfl dX3_init_20 (fun u4 H locs hu4 hw => ?_)
  have hw : WS D s A0 [(h0, .inr (3, [.ref q1, .null, .null, .null, .int 0, .int 0, .int 0, .null, .int 0, .null])), (q1, .inr (4, [.ref (u2 0), .int 12])), ((u2 0), .inl (cI, 30, .inl (va_cpy ftI (fun _ => 0) (0 : Int32).toNatClampNeg (0 : Int32).toNatClampNeg (12 : Int32).toNatClampNeg))), (q3, .inr (0, [.ref (u4 0), .ref (u4 1), .ref (u4 2), .int 0])), ((u4 0), .inl (cI, 10, .inl (fun _ => 0))), ((u4 1), .inl (cI, 10, .inl (fun _ => 0))), ((u4 2), .inl (cI, 10, .inl (fun _ => 0)))] _ _ := hw
  refine puFF (pc := 23) (C := RX3) (T := TX3) (N := 10) (ci := 3) (ty := tyX3 1) cx inX3_init_X3 tyX3 tyX3_ok nmX3 rfl 1 (by decide) rfl hin rfl kX3_init_w_fieldLink_RX3_21__DrownedPost_Office___bins___LDrownedPost_ hw 0 rfl (tyX3_ok 1 (by decide)) rfl rfl (Nat.le_of_ble_eq_true rfl) (ws1 := [(h0, .inr (3, [.ref q1, .ref q3, .null, .null, .int 0, .int 0, .int 0, .null, .int 0, .null])), (q1, .inr (4, [.ref (u2 0), .int 12])), ((u2 0), .inl (cI, 30, .inl (va_cpy ftI (fun _ => 0) (0 : Int32).toNatClampNeg (0 : Int32).toNatClampNeg (12 : Int32).toNatClampNeg))), (q3, .inr (0, [.ref (u4 0), .ref (u4 1), .ref (u4 2), .int 0])), ((u4 0), .inl (cI, 10, .inl (fun _ => 0))), ((u4 1), .inl (cI, 10, .inl (fun _ => 0))), ((u4 2), .inl (cI, 10, .inl (fun _ => 0)))]) rfl dX3_init_23 (fun H locs hw => ?_)
  refine lv_aload_n (pc := 26) hx hb dX3_init_26 rfl (lv_at hl 0 rfl) ?_
  refine newO (pc := 27) (c1 := 7) (s1 := 72) (T := TX1) (N := 6) (C := RX1) (ci := 1) (fs := [.null, .null, .null, .null, .null, .int 0]) cx inX3_init_X1 tyX1 tyX1_ok kX3_init_w_classLink_RX3_25_RX1 kX3_init_w_instantiable_RX1_6 kX3_init_w_initialized_RX1 hw rfl (by decide) (Nat.le_of_ble_eq_true rfl) (Nat.le_of_ble_eq_true rfl) rfl rfl dX3_init_27 (fun q5 H hw => ?_)
  have hw : WS D s A0 [(h0, .inr (3, [.ref q1, .ref q3, .null, .null, .int 0, .int 0, .int 0, .null, .int 0, .null])), (q1, .inr (4, [.ref (u2 0), .int 12])), ((u2 0), .inl (cI, 30, .inl (va_cpy ftI (fun _ => 0) (0 : Int32).toNatClampNeg (0 : Int32).toNatClampNeg (12 : Int32).toNatClampNeg))), (q3, .inr (0, [.ref (u4 0), .ref (u4 1), .ref (u4 2), .int 0])), ((u4 0), .inl (cI, 10, .inl (fun _ => 0))), ((u4 1), .inl (cI, 10, .inl (fun _ => 0))), ((u4 2), .inl (cI, 10, .inl (fun _ => 0))), (q5, .inr (1, [.null, .null, .null, .null, .null, .int 0]))] _ _ := hw
  refine lv_dup (pc := 30) hx hb dX3_init_30 rfl ?_
  refine callIN (pc := 31) (rest := [.ref q5, .ref h0]) (c1 := 12) (s1 := 152) cx hw hl hF (metX1_init l D cI cZ q5 H.size) (fun hts => ⟨va_cnB (host := "DrownedPost") 0 hts gX3_init_X1_init_n27 rfl rfl rfl (hF.1 _ (List.mem_of_getElem? (i := 2) rfl)) (hts _ kX3_init_w_initialized_RX1) (by decide +kernel) ⟨Nat.le_of_ble_eq_true rfl, Nat.le_of_ble_eq_true rfl⟩, rfl, hts _ kX3_init_w_instanceMethod_yX1_init⟩) (SUB.by [7] (by decide) rfl) [0, 1] rfl (JN.app (wr := [(h0, .inr (3, [.ref q1, .ref q3, .null, .null, .int 0, .int 0, .int 0, .null, .int 0, .null])), (q1, .inr (4, [.ref (u2 0), .int 12])), ((u2 0), .inl (cI, 30, .inl (va_cpy ftI (fun _ => 0) (0 : Int32).toNatClampNeg (0 : Int32).toNatClampNeg (12 : Int32).toNatClampNeg))), (q3, .inr (0, [.ref (u4 0), .ref (u4 1), .ref (u4 2), .int 0])), ((u4 0), .inl (cI, 10, .inl (fun _ => 0))), ((u4 1), .inl (cI, 10, .inl (fun _ => 0))), ((u4 2), .inl (cI, 10, .inl (fun _ => 0)))]) [7] [0, 1, 2, 3, 4, 5, 6] rfl rfl (by decide) (by decide)) rfl (Nat.le_of_ble_eq_true rfl) ⟨Nat.le_of_ble_eq_true rfl, Nat.le_of_ble_eq_true rfl⟩ rfl rfl dX3_init_31 (fun u6 H locs hu6 hw => ?_)
  have hw : WS D s A0 [(h0, .inr (3, [.ref q1, .ref q3, .null, .null, .int 0, .int 0, .int 0, .null, .int 0, .null])), (q1, .inr (4, [.ref (u2 0), .int 12])), ((u2 0), .inl (cI, 30, .inl (va_cpy ftI (fun _ => 0) (0 : Int32).toNatClampNeg (0 : Int32).toNatClampNeg (12 : Int32).toNatClampNeg))), (q3, .inr (0, [.ref (u4 0), .ref (u4 1), .ref (u4 2), .int 0])), ((u4 0), .inl (cI, 10, .inl (fun _ => 0))), ((u4 1), .inl (cI, 10, .inl (fun _ => 0))), ((u4 2), .inl (cI, 10, .inl (fun _ => 0))), (q5, .inr (1, [.ref (u6 0), .ref (u6 1), .ref (u6 2), .ref (u6 3), .ref (u6 4), .int 0])), ((u6 0), .inl (cI, 16, .inl (fun _ => 0))), ((u6 1), .inl (cI, 16, .inl (fun _ => 0))), ((u6 2), .inl (cI, 16, .inl (fun _ => 0))), ((u6 3), .inl (cI, 16, .inl (fun _ => 0))), ((u6 4), .inl (cI, 16, .inl (fun _ => 0)))] _ _ := hw
  refine puFF (pc := 34) (C := RX3) (T := TX3) (N := 10) (ci := 3) (ty := tyX3 2) cx inX3_init_X3 tyX3 tyX3_ok nmX3 rfl 2 (by decide) rfl hin rfl kX3_init_w_fieldLink_RX3_28__DrownedPost_Office___drowned___LDrownedPo hw 0 rfl (tyX3_ok 2 (by decide)) rfl rfl (Nat.le_of_ble_eq_true rfl) (ws1 := [(h0, .inr (3, [.ref q1, .ref q3, .ref q5, .null, .int 0, .int 0, .int 0, .null, .int 0, .null])), (q1, .inr (4, [.ref (u2 0), .int 12])), ((u2 0), .inl (cI, 30, .inl (va_cpy ftI (fun _ => 0) (0 : Int32).toNatClampNeg (0 : Int32).toNatClampNeg (12 : Int32).toNatClampNeg))), (q3, .inr (0, [.ref (u4 0), .ref (u4 1), .ref (u4 2), .int 0])), ((u4 0), .inl (cI, 10, .inl (fun _ => 0))), ((u4 1), .inl (cI, 10, .inl (fun _ => 0))), ((u4 2), .inl (cI, 10, .inl (fun _ => 0))), (q5, .inr (1, [.ref (u6 0), .ref (u6 1), .ref (u6 2), .ref (u6 3), .ref (u6 4), .int 0])), ((u6 0), .inl (cI, 16, .inl (fun _ => 0))), ((u6 1), .inl (cI, 16, .inl (fun _ => 0))), ((u6 2), .inl (cI, 16, .inl (fun _ => 0))), ((u6 3), .inl (cI, 16, .inl (fun _ => 0))), ((u6 4), .inl (cI, 16, .inl (fun _ => 0)))]) rfl dX3_init_34 (fun H locs hw => ?_)
  refine lv_aload_n (pc := 37) hx hb dX3_init_37 rfl (lv_at hl 0 rfl) ?_
  refine newO (pc := 38) (c1 := 13) (s1 := 162) (T := TX2) (N := 10) (C := RX2) (ci := 2) (fs := [.null, .null, .null, .null, .null, .null, .null, .null, .null, .int 0]) cx inX3_init_X2 tyX2 tyX2_ok kX3_init_w_classLink_RX3_32_RX2 kX3_init_w_instantiable_RX2_10 kX3_init_w_initialized_RX2 hw rfl (by decide) (Nat.le_of_ble_eq_true rfl) (Nat.le_of_ble_eq_true rfl) rfl rfl dX3_init_38 (fun q7 H hw => ?_)
  have hw : WS D s A0 [(h0, .inr (3, [.ref q1, .ref q3, .ref q5, .null, .int 0, .int 0, .int 0, .null, .int 0, .null])), (q1, .inr (4, [.ref (u2 0), .int 12])), ((u2 0), .inl (cI, 30, .inl (va_cpy ftI (fun _ => 0) (0 : Int32).toNatClampNeg (0 : Int32).toNatClampNeg (12 : Int32).toNatClampNeg))), (q3, .inr (0, [.ref (u4 0), .ref (u4 1), .ref (u4 2), .int 0])), ((u4 0), .inl (cI, 10, .inl (fun _ => 0))), ((u4 1), .inl (cI, 10, .inl (fun _ => 0))), ((u4 2), .inl (cI, 10, .inl (fun _ => 0))), (q5, .inr (1, [.ref (u6 0), .ref (u6 1), .ref (u6 2), .ref (u6 3), .ref (u6 4), .int 0])), ((u6 0), .inl (cI, 16, .inl (fun _ => 0))), ((u6 1), .inl (cI, 16, .inl (fun _ => 0))), ((u6 2), .inl (cI, 16, .inl (fun _ => 0))), ((u6 3), .inl (cI, 16, .inl (fun _ => 0))), ((u6 4), .inl (cI, 16, .inl (fun _ => 0))), (q7, .inr (2, [.null, .null, .null, .null, .null, .null, .null, .null, .null, .int 0]))] _ _ := hw
  refine lv_dup (pc := 41) hx hb dX3_init_41 rfl ?_
  refine callIN (pc := 42) (rest := [.ref q7, .ref h0]) (c1 := 22) (s1 := 1512) cx hw hl hF (metX2_init l D cI cZ q7 H.size) (fun hts => ⟨va_cnB (host := "DrownedPost") 0 hts gX3_init_X2_init_n34 rfl rfl rfl (hF.1 _ (List.mem_of_getElem? (i := 3) rfl)) (hts _ kX3_init_w_initialized_RX2) (by decide +kernel) ⟨Nat.le_of_ble_eq_true rfl, Nat.le_of_ble_eq_true rfl⟩, rfl, hts _ kX3_init_w_instanceMethod_yX2_init⟩) (SUB.by [13] (by decide) rfl) [0, 1] rfl (JN.app (wr := [(h0, .inr (3, [.ref q1, .ref q3, .ref q5, .null, .int 0, .int 0, .int 0, .null, .int 0, .null])), (q1, .inr (4, [.ref (u2 0), .int 12])), ((u2 0), .inl (cI, 30, .inl (va_cpy ftI (fun _ => 0) (0 : Int32).toNatClampNeg (0 : Int32).toNatClampNeg (12 : Int32).toNatClampNeg))), (q3, .inr (0, [.ref (u4 0), .ref (u4 1), .ref (u4 2), .int 0])), ((u4 0), .inl (cI, 10, .inl (fun _ => 0))), ((u4 1), .inl (cI, 10, .inl (fun _ => 0))), ((u4 2), .inl (cI, 10, .inl (fun _ => 0))), (q5, .inr (1, [.ref (u6 0), .ref (u6 1), .ref (u6 2), .ref (u6 3), .ref (u6 4), .int 0])), ((u6 0), .inl (cI, 16, .inl (fun _ => 0))), ((u6 1), .inl (cI, 16, .inl (fun _ => 0))), ((u6 2), .inl (cI, 16, .inl (fun _ => 0))), ((u6 3), .inl (cI, 16, .inl (fun _ => 0))), ((u6 4), .inl (cI, 16, .inl (fun _ => 0)))]) [13] [0, 1, 2, 3, 4, 5, 6, 7, 8, 9, 10, 11, 12] rfl rfl (by decide) (by decide)) rfl (Nat.le_of_ble_eq_true rfl) ⟨Nat.le_of_ble_eq_true rfl, Nat.le_of_ble_eq_true rfl⟩ rfl rfl dX3_init_42 (fun u8 H locs hu8 hw => ?_)
  have hw : WS D s A0 [(h0, .inr (3, [.ref q1, .ref q3, .ref q5, .null, .int 0, .int 0, .int 0, .null, .int 0, .null])), (q1, .inr (4, [.ref (u2 0), .int 12])), ((u2 0), .inl (cI, 30, .inl (va_cpy ftI (fun _ => 0) (0 : Int32).toNatClampNeg (0 : Int32).toNatClampNeg (12 : Int32).toNatClampNeg))), (q3, .inr (0, [.ref (u4 0), .ref (u4 1), .ref (u4 2), .int 0])), ((u4 0), .inl (cI, 10, .inl (fun _ => 0))), ((u4 1), .inl (cI, 10, .inl (fun _ => 0))), ((u4 2), .inl (cI, 10, .inl (fun _ => 0))), (q5, .inr (1, [.ref (u6 0), .ref (u6 1), .ref (u6 2), .ref (u6 3), .ref (u6 4), .int 0])), ((u6 0), .inl (cI, 16, .inl (fun _ => 0))), ((u6 1), .inl (cI, 16, .inl (fun _ => 0))), ((u6 2), .inl (cI, 16, .inl (fun _ => 0))), ((u6 3), .inl (cI, 16, .inl (fun _ => 0))), ((u6 4), .inl (cI, 16, .inl (fun _ => 0))), (q7, .inr (2, [.ref (u8 0), .ref (u8 1), .ref (u8 2), .ref (u8 3), .ref (u8 4), .ref (u8 5), .ref (u8 6), .ref (u8 7), .ref (u8 8), .int 0])), ((u8 0), .inl (cI, 150, .inl (fun _ => 0))), ((u8 1), .inl (cI, 150, .inl (fun _ => 0))), ((u8 2), .inl (cI, 150, .inl (fun _ => 0))), ((u8 3), .inl (cI, 150, .inl (fun _ => 0))), ((u8 4), .inl (cI, 150, .inl (fun _ => 0))), ((u8 5), .inl (cI, 150, .inl (fun _ => 0))), ((u8 6), .inl (cI, 150, .inl (fun _ => 0))), ((u8 7), .inl (cI, 150, .inl (fun _ => 0))), ((u8 8), .inl (cI, 150, .inl (fun _ => 0)))] _ _ := hw
  refine puFF (pc := 45) (C := RX3) (T := TX3) (N := 10) (ci := 3) (ty := tyX3 3) cx inX3_init_X3 tyX3 tyX3_ok nmX3 rfl 3 (by decide) rfl hin rfl kX3_init_w_fieldLink_RX3_35__DrownedPost_Office___letters___LDrownedPo hw 0 rfl (tyX3_ok 3 (by decide)) rfl rfl (Nat.le_of_ble_eq_true rfl) (ws1 := [(h0, .inr (3, [.ref q1, .ref q3, .ref q5, .ref q7, .int 0, .int 0, .int 0, .null, .int 0, .null])), (q1, .inr (4, [.ref (u2 0), .int 12])), ((u2 0), .inl (cI, 30, .inl (va_cpy ftI (fun _ => 0) (0 : Int32).toNatClampNeg (0 : Int32).toNatClampNeg (12 : Int32).toNatClampNeg))), (q3, .inr (0, [.ref (u4 0), .ref (u4 1), .ref (u4 2), .int 0])), ((u4 0), .inl (cI, 10, .inl (fun _ => 0))), ((u4 1), .inl (cI, 10, .inl (fun _ => 0))), ((u4 2), .inl (cI, 10, .inl (fun _ => 0))), (q5, .inr (1, [.ref (u6 0), .ref (u6 1), .ref (u6 2), .ref (u6 3), .ref (u6 4), .int 0])), ((u6 0), .inl (cI, 16, .inl (fun _ => 0))), ((u6 1), .inl (cI, 16, .inl (fun _ => 0))), ((u6 2), .inl (cI, 16, .inl (fun _ => 0))), ((u6 3), .inl (cI, 16, .inl (fun _ => 0))), ((u6 4), .inl (cI, 16, .inl (fun _ => 0))), (q7, .inr (2, [.ref (u8 0), .ref (u8 1), .ref (u8 2), .ref (u8 3), .ref (u8 4), .ref (u8 5), .ref (u8 6), .ref (u8 7), .ref (u8 8), .int 0])), ((u8 0), .inl (cI, 150, .inl (fun _ => 0))), ((u8 1), .inl (cI, 150, .inl (fun _ => 0))), ((u8 2), .inl (cI, 150, .inl (fun _ => 0))), ((u8 3), .inl (cI, 150, .inl (fun _ => 0))), ((u8 4), .inl (cI, 150, .inl (fun _ => 0))), ((u8 5), .inl (cI, 150, .inl (fun _ => 0))), ((u8 6), .inl (cI, 150, .inl (fun _ => 0))), ((u8 7), .inl (cI, 150, .inl (fun _ => 0))), ((u8 8), .inl (cI, 150, .inl (fun _ => 0)))]) rfl dX3_init_45 (fun H locs hw => ?_)
  refine lv_aload_n (pc := 48) hx hb dX3_init_48 rfl (lv_at hl 0 rfl) ?_
  refine lv_iconst (pc := 49) (v := (2 : Int32)) hx hb dX3_init_49 (by decide) ?_
  refine puF (pc := 50) (C := RX3) (T := TX3) (N := 10) (ci := 3) cx inX3_init_X3 tyX3 tyX3_ok nmX3 rfl 5 (by decide) rfl rfl kX3_init_w_fieldLink_RX3_39__DrownedPost_Office___scrapers___I_ hw 0 rfl (Nat.le_of_ble_eq_true rfl) (ws1 := [(h0, .inr (3, [.ref q1, .ref q3, .ref q5, .ref q7, .int 0, .int (2 : Int32), .int 0, .null, .int 0, .null])), (q1, .inr (4, [.ref (u2 0), .int 12])), ((u2 0), .inl (cI, 30, .inl (va_cpy ftI (fun _ => 0) (0 : Int32).toNatClampNeg (0 : Int32).toNatClampNeg (12 : Int32).toNatClampNeg))), (q3, .inr (0, [.ref (u4 0), .ref (u4 1), .ref (u4 2), .int 0])), ((u4 0), .inl (cI, 10, .inl (fun _ => 0))), ((u4 1), .inl (cI, 10, .inl (fun _ => 0))), ((u4 2), .inl (cI, 10, .inl (fun _ => 0))), (q5, .inr (1, [.ref (u6 0), .ref (u6 1), .ref (u6 2), .ref (u6 3), .ref (u6 4), .int 0])), ((u6 0), .inl (cI, 16, .inl (fun _ => 0))), ((u6 1), .inl (cI, 16, .inl (fun _ => 0))), ((u6 2), .inl (cI, 16, .inl (fun _ => 0))), ((u6 3), .inl (cI, 16, .inl (fun _ => 0))), ((u6 4), .inl (cI, 16, .inl (fun _ => 0))), (q7, .inr (2, [.ref (u8 0), .ref (u8 1), .ref (u8 2), .ref (u8 3), .ref (u8 4), .ref (u8 5), .ref (u8 6), .ref (u8 7), .ref (u8 8), .int 0])), ((u8 0), .inl (cI, 150, .inl (fun _ => 0))), ((u8 1), .inl (cI, 150, .inl (fun _ => 0))), ((u8 2), .inl (cI, 150, .inl (fun _ => 0))), ((u8 3), .inl (cI, 150, .inl (fun _ => 0))), ((u8 4), .inl (cI, 150, .inl (fun _ => 0))), ((u8 5), .inl (cI, 150, .inl (fun _ => 0))), ((u8 6), .inl (cI, 150, .inl (fun _ => 0))), ((u8 7), .inl (cI, 150, .inl (fun _ => 0))), ((u8 8), .inl (cI, 150, .inl (fun _ => 0)))]) rfl dX3_init_50 (fun H locs hw => ?_)
  refine lv_aload_n (pc := 53) hx hb dX3_init_53 rfl (lv_at hl 0 rfl) ?_
  refine lv_iconst (pc := 54) (v := (3 : Int32)) hx hb dX3_init_54 (by decide) ?_
  refine puF (pc := 55) (C := RX3) (T := TX3) (N := 10) (ci := 3) cx inX3_init_X3 tyX3 tyX3_ok nmX3 rfl 6 (by decide) rfl rfl kX3_init_w_fieldLink_RX3_43__DrownedPost_Office___sorters___I_ hw 0 rfl (Nat.le_of_ble_eq_true rfl) (ws1 := [(h0, .inr (3, [.ref q1, .ref q3, .ref q5, .ref q7, .int 0, .int (2 : Int32), .int (3 : Int32), .null, .int 0, .null])), (q1, .inr (4, [.ref (u2 0), .int 12])), ((u2 0), .inl (cI, 30, .inl (va_cpy ftI (fun _ => 0) (0 : Int32).toNatClampNeg (0 : Int32).toNatClampNeg (12 : Int32).toNatClampNeg))), (q3, .inr (0, [.ref (u4 0), .ref (u4 1), .ref (u4 2), .int 0])), ((u4 0), .inl (cI, 10, .inl (fun _ => 0))), ((u4 1), .inl (cI, 10, .inl (fun _ => 0))), ((u4 2), .inl (cI, 10, .inl (fun _ => 0))), (q5, .inr (1, [.ref (u6 0), .ref (u6 1), .ref (u6 2), .ref (u6 3), .ref (u6 4), .int 0])), ((u6 0), .inl (cI, 16, .inl (fun _ => 0))), ((u6 1), .inl (cI, 16, .inl (fun _ => 0))), ((u6 2), .inl (cI, 16, .inl (fun _ => 0))), ((u6 3), .inl (cI, 16, .inl (fun _ => 0))), ((u6 4), .inl (cI, 16, .inl (fun _ => 0))), (q7, .inr (2, [.ref (u8 0), .ref (u8 1), .ref (u8 2), .ref (u8 3), .ref (u8 4), .ref (u8 5), .ref (u8 6), .ref (u8 7), .ref (u8 8), .int 0])), ((u8 0), .inl (cI, 150, .inl (fun _ => 0))), ((u8 1), .inl (cI, 150, .inl (fun _ => 0))), ((u8 2), .inl (cI, 150, .inl (fun _ => 0))), ((u8 3), .inl (cI, 150, .inl (fun _ => 0))), ((u8 4), .inl (cI, 150, .inl (fun _ => 0))), ((u8 5), .inl (cI, 150, .inl (fun _ => 0))), ((u8 6), .inl (cI, 150, .inl (fun _ => 0))), ((u8 7), .inl (cI, 150, .inl (fun _ => 0))), ((u8 8), .inl (cI, 150, .inl (fun _ => 0)))]) rfl dX3_init_55 (fun H locs hw => ?_)
  refine lv_aload_n (pc := 58) hx hb dX3_init_58 rfl (lv_at hl 0 rfl) ?_
  refine lv_sipush (pc := 59) (v := (150 : Int32)) hx hb dX3_init_59 (by decide) ?_
  refine newCI (pc := 62) (c1 := 23) (s1 := 1662) (N' := 150) cx (hts _ kX3_init_w_arrayClass__int) hw 0 rfl (by decide) (by decide) (by decide) (Nat.le_of_ble_eq_true rfl) (Nat.le_of_ble_eq_true rfl) rfl rfl dX3_init_62 (fun q9 H hw => ?_)
  have hw : WS D s A0 [(h0, .inr (3, [.ref q1, .ref q3, .ref q5, .ref q7, .int 0, .int (2 : Int32), .int (3 : Int32), .null, .int 0, .null])), (q1, .inr (4, [.ref (u2 0), .int 12])), ((u2 0), .inl (cI, 30, .inl (va_cpy ftI (fun _ => 0) (0 : Int32).toNatClampNeg (0 : Int32).toNatClampNeg (12 : Int32).toNatClampNeg))), (q3, .inr (0, [.ref (u4 0), .ref (u4 1), .ref (u4 2), .int 0])), ((u4 0), .inl (cI, 10, .inl (fun _ => 0))), ((u4 1), .inl (cI, 10, .inl (fun _ => 0))), ((u4 2), .inl (cI, 10, .inl (fun _ => 0))), (q5, .inr (1, [.ref (u6 0), .ref (u6 1), .ref (u6 2), .ref (u6 3), .ref (u6 4), .int 0])), ((u6 0), .inl (cI, 16, .inl (fun _ => 0))), ((u6 1), .inl (cI, 16, .inl (fun _ => 0))), ((u6 2), .inl (cI, 16, .inl (fun _ => 0))), ((u6 3), .inl (cI, 16, .inl (fun _ => 0))), ((u6 4), .inl (cI, 16, .inl (fun _ => 0))), (q7, .inr (2, [.ref (u8 0), .ref (u8 1), .ref (u8 2), .ref (u8 3), .ref (u8 4), .ref (u8 5), .ref (u8 6), .ref (u8 7), .ref (u8 8), .int 0])), ((u8 0), .inl (cI, 150, .inl (fun _ => 0))), ((u8 1), .inl (cI, 150, .inl (fun _ => 0))), ((u8 2), .inl (cI, 150, .inl (fun _ => 0))), ((u8 3), .inl (cI, 150, .inl (fun _ => 0))), ((u8 4), .inl (cI, 150, .inl (fun _ => 0))), ((u8 5), .inl (cI, 150, .inl (fun _ => 0))), ((u8 6), .inl (cI, 150, .inl (fun _ => 0))), ((u8 7), .inl (cI, 150, .inl (fun _ => 0))), ((u8 8), .inl (cI, 150, .inl (fun _ => 0))), (q9, .inl (cI, 150, .inl (fun _ => 0)))] _ _ := hw
  refine puFF (pc := 64) (C := RX3) (T := TX3) (N := 10) (ci := 3) (ty := tyX3 7) cx inX3_init_X3 tyX3 tyX3_ok nmX3 rfl 7 (by decide) rfl hin rfl kX3_init_w_fieldLink_RX3_46__DrownedPost_Office___sunk____I_ hw 0 rfl (tyX3_ok 7 (by decide)) rfl rfl (Nat.le_of_ble_eq_true rfl) (ws1 := [(h0, .inr (3, [.ref q1, .ref q3, .ref q5, .ref q7, .int 0, .int (2 : Int32), .int (3 : Int32), .ref q9, .int 0, .null])), (q1, .inr (4, [.ref (u2 0), .int 12])), ((u2 0), .inl (cI, 30, .inl (va_cpy ftI (fun _ => 0) (0 : Int32).toNatClampNeg (0 : Int32).toNatClampNeg (12 : Int32).toNatClampNeg))), (q3, .inr (0, [.ref (u4 0), .ref (u4 1), .ref (u4 2), .int 0])), ((u4 0), .inl (cI, 10, .inl (fun _ => 0))), ((u4 1), .inl (cI, 10, .inl (fun _ => 0))), ((u4 2), .inl (cI, 10, .inl (fun _ => 0))), (q5, .inr (1, [.ref (u6 0), .ref (u6 1), .ref (u6 2), .ref (u6 3), .ref (u6 4), .int 0])), ((u6 0), .inl (cI, 16, .inl (fun _ => 0))), ((u6 1), .inl (cI, 16, .inl (fun _ => 0))), ((u6 2), .inl (cI, 16, .inl (fun _ => 0))), ((u6 3), .inl (cI, 16, .inl (fun _ => 0))), ((u6 4), .inl (cI, 16, .inl (fun _ => 0))), (q7, .inr (2, [.ref (u8 0), .ref (u8 1), .ref (u8 2), .ref (u8 3), .ref (u8 4), .ref (u8 5), .ref (u8 6), .ref (u8 7), .ref (u8 8), .int 0])), ((u8 0), .inl (cI, 150, .inl (fun _ => 0))), ((u8 1), .inl (cI, 150, .inl (fun _ => 0))), ((u8 2), .inl (cI, 150, .inl (fun _ => 0))), ((u8 3), .inl (cI, 150, .inl (fun _ => 0))), ((u8 4), .inl (cI, 150, .inl (fun _ => 0))), ((u8 5), .inl (cI, 150, .inl (fun _ => 0))), ((u8 6), .inl (cI, 150, .inl (fun _ => 0))), ((u8 7), .inl (cI, 150, .inl (fun _ => 0))), ((u8 8), .inl (cI, 150, .inl (fun _ => 0))), (q9, .inl (cI, 150, .inl (fun _ => 0)))]) rfl dX3_init_64 (fun H locs hw => ?_)
  refine lv_aload_n (pc := 67) hx hb dX3_init_67 rfl (lv_at hl 0 rfl) ?_
  refine lv_sipush (pc := 68) (v := (150 : Int32)) hx hb dX3_init_68 (by decide) ?_
  refine newCZ (pc := 71) (c1 := 24) (s1 := 1812) (N' := 150) cx (hts _ kX3_init_w_arrayClass__boolean) hw 1 rfl (by decide) (by decide) (by decide) (Nat.le_of_ble_eq_true rfl) (Nat.le_of_ble_eq_true rfl) rfl rfl dX3_init_71 (fun q10 H hw => ?_)
  have hw : WS D s A0 [(h0, .inr (3, [.ref q1, .ref q3, .ref q5, .ref q7, .int 0, .int (2 : Int32), .int (3 : Int32), .ref q9, .int 0, .null])), (q1, .inr (4, [.ref (u2 0), .int 12])), ((u2 0), .inl (cI, 30, .inl (va_cpy ftI (fun _ => 0) (0 : Int32).toNatClampNeg (0 : Int32).toNatClampNeg (12 : Int32).toNatClampNeg))), (q3, .inr (0, [.ref (u4 0), .ref (u4 1), .ref (u4 2), .int 0])), ((u4 0), .inl (cI, 10, .inl (fun _ => 0))), ((u4 1), .inl (cI, 10, .inl (fun _ => 0))), ((u4 2), .inl (cI, 10, .inl (fun _ => 0))), (q5, .inr (1, [.ref (u6 0), .ref (u6 1), .ref (u6 2), .ref (u6 3), .ref (u6 4), .int 0])), ((u6 0), .inl (cI, 16, .inl (fun _ => 0))), ((u6 1), .inl (cI, 16, .inl (fun _ => 0))), ((u6 2), .inl (cI, 16, .inl (fun _ => 0))), ((u6 3), .inl (cI, 16, .inl (fun _ => 0))), ((u6 4), .inl (cI, 16, .inl (fun _ => 0))), (q7, .inr (2, [.ref (u8 0), .ref (u8 1), .ref (u8 2), .ref (u8 3), .ref (u8 4), .ref (u8 5), .ref (u8 6), .ref (u8 7), .ref (u8 8), .int 0])), ((u8 0), .inl (cI, 150, .inl (fun _ => 0))), ((u8 1), .inl (cI, 150, .inl (fun _ => 0))), ((u8 2), .inl (cI, 150, .inl (fun _ => 0))), ((u8 3), .inl (cI, 150, .inl (fun _ => 0))), ((u8 4), .inl (cI, 150, .inl (fun _ => 0))), ((u8 5), .inl (cI, 150, .inl (fun _ => 0))), ((u8 6), .inl (cI, 150, .inl (fun _ => 0))), ((u8 7), .inl (cI, 150, .inl (fun _ => 0))), ((u8 8), .inl (cI, 150, .inl (fun _ => 0))), (q9, .inl (cI, 150, .inl (fun _ => 0))), (q10, .inl (cZ, 150, .inl (fun _ => 0)))] _ _ := hw
  refine puFF (pc := 73) (C := RX3) (T := TX3) (N := 10) (ci := 3) (ty := tyX3 9) cx inX3_init_X3 tyX3 tyX3_ok nmX3 rfl 9 (by decide) rfl hin rfl kX3_init_w_fieldLink_RX3_50__DrownedPost_Office___scraped____Z_ hw 0 rfl (tyX3_ok 9 (by decide)) rfl rfl (Nat.le_of_ble_eq_true rfl) (ws1 := [(h0, .inr (3, [.ref q1, .ref q3, .ref q5, .ref q7, .int 0, .int (2 : Int32), .int (3 : Int32), .ref q9, .int 0, .ref q10])), (q1, .inr (4, [.ref (u2 0), .int 12])), ((u2 0), .inl (cI, 30, .inl (va_cpy ftI (fun _ => 0) (0 : Int32).toNatClampNeg (0 : Int32).toNatClampNeg (12 : Int32).toNatClampNeg))), (q3, .inr (0, [.ref (u4 0), .ref (u4 1), .ref (u4 2), .int 0])), ((u4 0), .inl (cI, 10, .inl (fun _ => 0))), ((u4 1), .inl (cI, 10, .inl (fun _ => 0))), ((u4 2), .inl (cI, 10, .inl (fun _ => 0))), (q5, .inr (1, [.ref (u6 0), .ref (u6 1), .ref (u6 2), .ref (u6 3), .ref (u6 4), .int 0])), ((u6 0), .inl (cI, 16, .inl (fun _ => 0))), ((u6 1), .inl (cI, 16, .inl (fun _ => 0))), ((u6 2), .inl (cI, 16, .inl (fun _ => 0))), ((u6 3), .inl (cI, 16, .inl (fun _ => 0))), ((u6 4), .inl (cI, 16, .inl (fun _ => 0))), (q7, .inr (2, [.ref (u8 0), .ref (u8 1), .ref (u8 2), .ref (u8 3), .ref (u8 4), .ref (u8 5), .ref (u8 6), .ref (u8 7), .ref (u8 8), .int 0])), ((u8 0), .inl (cI, 150, .inl (fun _ => 0))), ((u8 1), .inl (cI, 150, .inl (fun _ => 0))), ((u8 2), .inl (cI, 150, .inl (fun _ => 0))), ((u8 3), .inl (cI, 150, .inl (fun _ => 0))), ((u8 4), .inl (cI, 150, .inl (fun _ => 0))), ((u8 5), .inl (cI, 150, .inl (fun _ => 0))), ((u8 6), .inl (cI, 150, .inl (fun _ => 0))), ((u8 7), .inl (cI, 150, .inl (fun _ => 0))), ((u8 8), .inl (cI, 150, .inl (fun _ => 0))), (q9, .inl (cI, 150, .inl (fun _ => 0))), (q10, .inl (cZ, 150, .inl (fun _ => 0)))]) rfl dX3_init_73 (fun H locs hw => ?_)
  exact hret 76 _ (fun k => [h0, q1, q3, q5, q7, (u2 0), (u4 0), (u4 1), (u4 2), (u6 0), (u6 1), (u6 2), (u6 3), (u6 4), (u8 0), (u8 1), (u8 2), (u8 3), (u8 4), (u8 5), (u8 6), (u8 7), (u8 8), q9, q10].getD k 0) _ _ dX3_init_76 rfl (hw.sub (SUB.by [0, 1, 3, 7, 13, 2, 4, 5, 6, 8, 9, 10, 11, 12, 14, 15, 16, 17, 18, 19, 20, 21, 22, 23, 24] (by decide) rfl))
abbrev rmX5_init : Room := { frames := 3, cells := 50, slots := 3644, locals := 150 }
theorem inX5_init_X3 : ∀ w ∈ wsX30, w ∈ wsX5_init := by decide +kernel
theorem inX5_init_X5 : ∀ w ∈ wsX50, w ∈ wsX5_init := by decide +kernel
theorem kX5_init_w_classLink_RX5_7_RX3 : Cond.classLink RX5 7 RX3 ∈ wsX5_init := by decide +kernel
theorem kX5_init_w_code_objectInit____0xb1___1_none : Cond.code objectInit ⟨#[0xb1]⟩ 1 none ∈ wsX5_init := by decide +kernel
theorem kX5_init_w_fieldLink_RX5_10__DrownedPost___now___LDrownedPost_Office__ : Cond.fieldLink RX5 10 "DrownedPost" "now" "LDrownedPost$Office;" ∈ wsX5_init := by decide +kernel
theorem kX5_init_w_fieldLink_RX5_16__DrownedPost___ahead___LDrownedPost_Office : Cond.fieldLink RX5 16 "DrownedPost" "ahead" "LDrownedPost$Office;" ∈ wsX5_init := by decide +kernel
theorem kX5_init_w_initialized_RX3 : Cond.initialized RX3 ∈ wsX5_init := by decide +kernel
theorem kX5_init_w_instanceMethod_objectInit : Cond.instanceMethod objectInit ∈ wsX5_init := by decide +kernel
theorem kX5_init_w_instanceMethod_yX3_init : Cond.instanceMethod yX3_init ∈ wsX5_init := by decide +kernel
theorem kX5_init_w_instantiable_RX3_10 : Cond.instantiable RX3 10 ∈ wsX5_init := by decide +kernel
theorem kX5_init_w_methodLink_RX5_1_objectInit : Cond.methodLink RX5 1 objectInit ∈ wsX5_init := by decide +kernel
set_option maxHeartbeats 4000000 in
set_option maxRecDepth 100000 in
theorem metX5_init (l : Launch) (D : va_G) (cI cZ : ClassId) (h0 sz : Nat) : Met l yX5_init wsX5_init rmX5_init (PcF D [(cI, .int), (cZ, .boolean)] [(h0, .inr (5, [.null, .null]))] sz [.ref h0]) (QvW D [(cI, .int), (cZ, .boolean)] [(h0, .inr (5, [.null, .null]))] sz (fun u : (Nat → Nat) × (Nat → Nat) => wD h0 u.1 u.2 cI cZ A0o V0o A0o V0o) (fun _ => True)) rmX5_init.cells rmX5_init.slots (va_A [(h0, .inr (5, [.null, .null]))] sz) := by
  refine startC (by decide) rfl rfl (Nat.le_of_ble_eq_true rfl) ?_
  intro p e s m args below meth c A0 Z cx hw hF hin hret ls hl
  obtain ⟨hx, hb, hml, hown, hts, hK, hA⟩ := id cx
  have hl : lv_has ls 1 [(0, .ref h0)] := hl
  refine lv_aload_n (pc := 0) hx hb dX5_init_0 rfl (lv_at hl 0 rfl) ?_
  refine W.objInit hx hb hown (hts _ kX5_init_w_methodLink_RX5_1_objectInit) (hts _ kX5_init_w_instanceMethod_objectInit) (hts _ kX5_init_w_code_objectInit____0xb1___1_none) rfl (by rw [hml]; exact hl.1) rfl dX5_init_1 (Nat.le_of_ble_eq_true rfl) (Nat.le_of_ble_eq_true rfl) ?_
  refine W.eq (g2 := F0 m 4 ls []) rfl ?_
  refine lv_aload_n (pc := 4) hx hb dX5_init_4 rfl (lv_at hl 0 rfl) ?_
  refine newO (pc := 5) (c1 := 1) (s1 := 10) (T := TX3) (N := 10) (C := RX3) (ci := 3) (fs := [.null, .null, .null, .null, .int 0, .int 0, .int 0, .null, .int 0, .null]) cx inX5_init_X3 tyX3 tyX3_ok kX5_init_w_classLink_RX5_7_RX3 kX5_init_w_instantiable_RX3_10 kX5_init_w_initialized_RX3 hw rfl (by decide) (Nat.le_of_ble_eq_true rfl) (Nat.le_of_ble_eq_true rfl) rfl rfl dX5_init_5 (fun q0 H hw => ?_)
  refine lv_dup (pc := 8) hx hb dX5_init_8 rfl ?_
  have hw : WS D s A0 ([(h0, .inr (5, [.null, .null]))] ++ [(q0, .inr (3, [.null, .null, .null, .null, .int 0, .int 0, .int 0, .null, .int 0, .null]))]) _ _ := hw
  refine callIN (pc := 9) (rest := [.ref q0, .ref h0]) (c1 := 25) (s1 := 1822) cx hw hl hF (metX3_init l D cI cZ q0 H.size) (fun hts => ⟨va_cnB (host := "DrownedPost") 0 hts gX5_init_X3_init_n9 rfl rfl rfl (hF.1 _ (List.mem_of_getElem? (i := 0) rfl)) (hts _ kX5_init_w_initialized_RX3) (by decide +kernel) ⟨Nat.le_of_ble_eq_true rfl, Nat.le_of_ble_eq_true rfl⟩, rfl, hts _ kX5_init_w_instanceMethod_yX3_init⟩) (SUB.by [1] (by decide) rfl) [0, 1] rfl (JN.app (wr := [(h0, .inr (5, [.null, .null]))]) [1] [0] rfl rfl (by decide) (by decide)) rfl (Nat.le_of_ble_eq_true rfl) ⟨Nat.le_of_ble_eq_true rfl, Nat.le_of_ble_eq_true rfl⟩ rfl rfl dX5_init_9 (fun u0 H locs hu0 hwu0 => ?_)
  subst hu0
  have hw := hwu0
  refine puFF (pc := 12) (C := RX5) (T := TX5) (N := 2) (ci := 5) (ty := tyX5 0) cx inX5_init_X5 tyX5 tyX5_ok nmX5 rfl 0 (by decide) rfl hin rfl kX5_init_w_fieldLink_RX5_10__DrownedPost___now___LDrownedPost_Office__ hw 0 rfl (tyX5_ok 0 (by decide)) rfl rfl (Nat.le_of_ble_eq_true rfl) (ws1 := ((h0, .inr (5, [.ref (u0 0), .null])) :: wO u0 cI cZ A0o V0o)) rfl dX5_init_12 (fun H locs hw => ?_)
  refine lv_aload_n (pc := 15) hx hb dX5_init_15 rfl (lv_at hl 0 rfl) ?_
  refine newO (pc := 16) (c1 := 26) (s1 := 1832) (T := TX3) (N := 10) (C := RX3) (ci := 3) (fs := [.null, .null, .null, .null, .int 0, .int 0, .int 0, .null, .int 0, .null]) cx inX5_init_X3 tyX3 tyX3_ok kX5_init_w_classLink_RX5_7_RX3 kX5_init_w_instantiable_RX3_10 kX5_init_w_initialized_RX3 hw rfl (by decide) (Nat.le_of_ble_eq_true rfl) (Nat.le_of_ble_eq_true rfl) rfl rfl dX5_init_16 (fun q1 H hw => ?_)
  refine lv_dup (pc := 19) hx hb dX5_init_19 rfl ?_
  have hw : WS D s A0 (((h0, .inr (5, [.ref (u0 0), .null])) :: wO u0 cI cZ A0o V0o) ++ [(q1, .inr (3, [.null, .null, .null, .null, .int 0, .int 0, .int 0, .null, .int 0, .null]))]) _ _ := hw
  refine callIN (pc := 20) (rest := [.ref q1, .ref h0]) (c1 := 50) (s1 := 3644) cx hw hl hF (metX3_init l D cI cZ q1 H.size) (fun hts => ⟨va_cnB (host := "DrownedPost") 0 hts gX5_init_X3_init_n9 rfl rfl rfl (hF.1 _ (List.mem_of_getElem? (i := 0) rfl)) (hts _ kX5_init_w_initialized_RX3) (by decide +kernel) ⟨Nat.le_of_ble_eq_true rfl, Nat.le_of_ble_eq_true rfl⟩, rfl, hts _ kX5_init_w_instanceMethod_yX3_init⟩) (SUB.by [26] (by decide) rfl) [0, 1] rfl (JN.app (wr := ((h0, .inr (5, [.ref (u0 0), .null])) :: wO u0 cI cZ A0o V0o)) [26] [0, 1, 2, 3, 4, 5, 6, 7, 8, 9, 10, 11, 12, 13, 14, 15, 16, 17, 18, 19, 20, 21, 22, 23, 24, 25] rfl rfl (by decide) (by decide)) rfl (Nat.le_of_ble_eq_true rfl) ⟨Nat.le_of_ble_eq_true rfl, Nat.le_of_ble_eq_true rfl⟩ rfl rfl dX5_init_20 (fun u1 H locs hu1 hwu1 => ?_)
  subst hu1
  have hw := hwu1
  refine puFF (pc := 23) (C := RX5) (T := TX5) (N := 2) (ci := 5) (ty := tyX5 1) cx inX5_init_X5 tyX5 tyX5_ok nmX5 rfl 1 (by decide) rfl hin rfl kX5_init_w_fieldLink_RX5_16__DrownedPost___ahead___LDrownedPost_Office hw 0 rfl (tyX5_ok 1 (by decide)) rfl rfl (Nat.le_of_ble_eq_true rfl) (ws1 := (((h0, .inr (5, [.ref (u0 0), .ref (u1 0)])) :: wO u0 cI cZ A0o V0o) ++ wO u1 cI cZ A0o V0o)) rfl dX5_init_23 (fun H locs hw => ?_)
  exact hret 26 _ (u0, u1) _ _ dX5_init_26 trivial hw
