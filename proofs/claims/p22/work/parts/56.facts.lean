theorem SUB.trans {a b c : va_W} (h : SUB a b) (g : SUB b c) : SUB a c := ⟨fun k q hk => (g.1 k q hk).elim fun i hi => h.1 i q hi, fun A hA => g.2 A (h.2 A hA)⟩
theorem app_l {a b : va_W} {k : Nat} {q : Nat × va_E} (h : a[k]? = some q) : (a ++ b)[k]? = some q := by
  rw [List.getElem?_append_left (List.getElem?_eq_some_iff.mp h).1]
  exact h
theorem app_r {a b : va_W} {k : Nat} {q : Nat × va_E} (h : b[k]? = some q) : (a ++ b)[a.length + k]? = some q := by
  rw [List.getElem?_append_right (Nat.le_add_right _ _), Nat.add_sub_cancel_left]
  exact h
theorem SUB.left {a b : va_W} : SUB (a ++ b) a := ⟨fun k q h => ⟨k, app_l h⟩, fun A hD => ⟨fun i j x y hi hj hxy => hD.1 i j x y (app_l hi) (app_l hj) hxy, fun k q hk => hD.2 k q (app_l hk)⟩⟩
theorem SUB.right {a b : va_W} : SUB (a ++ b) b := ⟨fun k q h => ⟨_, app_r h⟩, fun A hD => ⟨fun i j x y hi hj hxy => by have := hD.1 _ _ x y (app_r hi) (app_r hj) hxy; omega, fun k q hk => hD.2 _ q (app_r hk)⟩⟩
theorem JN.left {S : Type} {D : va_G} {a b : va_W} {wcU : S → va_W} : JN D (a ++ b) a wcU (fun u => wcU u ++ b) := by
  intro A0 H H1 u hP hD hk hF hP1 hD1
  have ap : ∀ (k : Nat) (q : Nat × va_E), b[k]? = some q → q.1 < H.size ∧ ¬ va_A a H.size q.1 := by
    intro k q hq
    have hl := (hP _ q (app_r hq)).lt
    refine ⟨hl, fun h => ?_⟩
    rcases h with ⟨j, e, h⟩ | h
    · have h1 := hD.1 _ _ q (q.1, e) (app_r hq) (app_l (b := b) h) rfl
      have h2 := (List.getElem?_eq_some_iff.mp h).1
      omega
    · omega
  refine ⟨hP1.app (fun k q hq => (hP _ q (app_r hq)).kept (hk q.1 (ap k q hq).1 (ap k q hq).2)), va_D.app (hD1.weaken (fun _ q _ h => hF q.1 h)) (SUB.right.2 _ hD) (fun i j x y hx hy hxy => ?_)⟩
  exact (ap j y hy).2 (by rw [← hxy]; exact hD1.2 i x hx)
theorem JN.right {S : Type} {D : va_G} {a b : va_W} {wcU : S → va_W} : JN D (a ++ b) b wcU (fun u => a ++ wcU u) := by
  intro A0 H H1 u hP hD hk hF hP1 hD1
  have ap : ∀ (k : Nat) (q : Nat × va_E), a[k]? = some q → q.1 < H.size ∧ ¬ va_A b H.size q.1 := by
    intro k q hq
    have hl := (hP _ q (app_l (b := b) hq)).lt
    refine ⟨hl, fun h => ?_⟩
    rcases h with ⟨j, e, h⟩ | h
    · have h1 := hD.1 _ _ q (q.1, e) (app_l (b := b) hq) (app_r h) rfl
      have h2 := (List.getElem?_eq_some_iff.mp hq).1
      omega
    · omega
  refine ⟨va_P.app (fun k q hq => (hP _ q (app_l (b := b) hq)).kept (hk q.1 (ap k q hq).1 (ap k q hq).2)) hP1, va_D.app (SUB.left.2 _ hD) (hD1.weaken (fun _ q _ h => hF q.1 h)) (fun i j x y hx hy hxy => ?_)⟩
  exact (ap i x hx).2 (by rw [hxy]; exact hD1.2 j y hy)
theorem JN.trans {S : Type} {D : va_G} {a b c : va_W} {cU bU aU : S → va_W} (hab : SUB a b) (hbc : SUB b c) (h1 : JN D b c cU bU) (h2 : JN D a b bU aU) : JN D a c cU aU := by
  intro A0 H H1 u hP hD hk hF hP1 hD1
  have hF2 : ∀ q : Nat, va_A c H.size q → va_A b H.size q := by
    rintro q (⟨k, e, h⟩ | h)
    · obtain ⟨i, hi⟩ := hbc.1 k _ h
      exact Or.inl ⟨i, e, hi⟩
    · exact Or.inr h
  obtain ⟨g1, g2⟩ := h1 (va_A b H.size) H H1 u (hab.P hP) (hab.2 _ hD).self hk hF2 hP1 hD1
  refine h2 A0 H H1 u hP hD (fun q hq hn => hk q hq (fun h => hn (hF2 q h))) ?_ g1 g2
  rintro q (⟨k, e, h⟩ | h)
  · obtain ⟨i, hi⟩ := hab.1 k _ h
    exact hD.2 i _ hi
  · exact hF q (Or.inr h)
/-! facts that a method needs beside its world -/
abbrev FACT : Type := (Nat → Prop) → State → Prop
def PcG (F : FACT) (D : va_G) (tys : TYS) (ws : va_W) (sz : Nat) (av : List Value) : Array Value → State → Prop := va_Pc av (fun U => U.heap.size = sz ∧ va_P D vwCl ws U.heap ∧ va_K D vwCl tys U ∧ va_D (fun _ => True) ws ∧ F (va_A ws sz) U)
def FOK (F : FACT) : Prop := (∀ (A B : Nat → Prop) (s U : State) (H : Heap) (locs : List Loc), F A s → s.WarmedH U.vm → U.heap = H → va_S A s.heap H locs → (∀ q : Nat, B q → A q) → F B U) ∧ ∀ (A : Nat → Prop) (U : State) (g : JFrame) (mk : MethodId) (a : Array Value), F A U → F A (U.calling g mk a)
def FX (b L : Nat) (xs : Nat → Int32) : FACT := fun A U => va_X b L xs U U.heap ∧ ¬ A b ∧ b < U.heap.size
theorem FX.ok {b L : Nat} {xs : Nat → Int32} : FOK (FX b L xs) := by
  refine ⟨fun A B s U H locs h hW hU hS hB => ?_, fun A U g mk a h => ?_⟩
  · obtain ⟨h1, h2, h3⟩ := h
    refine ⟨?_, fun q => h2 (hB b q), ?_⟩
    · rw [hU]; exact (h1.moved hW.alike).kept (hS.2.1 b h3 h2)
    · rw [hU]; exact Nat.lt_of_lt_of_le h3 hS.1
  · obtain ⟨h1, h2, h3⟩ := h
    exact ⟨va_X.moved (u := U) (U := U.calling g mk a) (Vm.Alike.refl U.vm) h1, h2, h3⟩
def AO2 (U : State) : Prop := (Cond.arrayOver (.array .int)).before #[] U = true
theorem AO2.use {A : Array Value} {U : State} (h : AO2 U) : (Cond.arrayOver (.array .int)).before A U = true := h
theorem AO2.moved {u U : State} (hvm : u.vm.Alike U.vm) (h : AO2 u) : AO2 U := by
  obtain ⟨comp, c, k, h1, h2, h3, h4, h5⟩ := arrayOverA_spec h
  obtain ⟨k', hk', he⟩ := hvm.2.2 _ _ h3
  have hi : (U.vm.classes.findIdx? fun (x : Class) => match x.kind with | .array component _ => component == comp | _ => false) = some c := by
    rw [hvm.findIdx?_eq _ (fun _ => rfl)]
    exact h2
  have hkind : k'.kind = .array comp (.array .int) := by rw [he]; exact h4
  have f1 : U.vm.findClass (FieldType.array .int).toString = some comp := by rw [hvm.findClass]; exact h1
  have f2 : U.vm.findClass ("[" ++ (FieldType.array .int).toString) = some c := by rw [hvm.findClass]; exact h5
  unfold AO2 Cond.before Cond.holds
  simp only [Cond.value]
  rw [f1, Option.bind_some]
  refine (congrArg (fun o : Option Nat => (o.bind (fun c => (U.vm.classes[c]?).map fun (k : Class) => match k.kind with | .array _ ty => decide (ty = FieldType.array .int) && decide (U.vm.findClass ("[" ++ (FieldType.array .int).toString) = some c) | _ => false) == some true)) hi).trans ?_
  simp [hk', hkind, f2]
def FA : FACT := fun _ U => AO2 U ∧ va_AO RX6 U
theorem FA.ok : FOK FA := ⟨fun _ _ _ _ _ _ h hW _ _ _ => ⟨h.1.moved hW.alike, h.2.moved hW.alike⟩, fun _ U _ _ _ h => ⟨h.1.moved (Vm.Alike.refl U.vm), h.2.moved (Vm.Alike.refl U.vm)⟩⟩
abbrev nestL : Cond := .methodLinkNest RL 11 yX7_init "DrownedPostLaw"
def FN : FACT := fun _ U => va_Nw nestL U
theorem FN.ok : FOK FN := ⟨fun _ _ _ _ _ _ h hW _ _ _ => va_Nw.warmM hW h, fun _ U _ _ _ h => va_tabs (by decide +kernel : nestL.onTables = true) (u := U) rfl h⟩
def FF (b L : Nat) (xs : Nat → Int32) : FACT := fun A U => FX b L xs A U ∧ FA A U ∧ FN A U
theorem FF.ok {b L : Nat} {xs : Nat → Int32} : FOK (FF b L xs) := ⟨fun A B s U H locs h hW hU hS hB => ⟨FX.ok.1 A B s U H locs h.1 hW hU hS hB, FA.ok.1 A B s U H locs h.2.1 hW hU hS hB, FN.ok.1 A B s U H locs h.2.2 hW hU hS hB⟩, fun A U g mk a h => ⟨FX.ok.2 A U g mk a h.1, FA.ok.2 A U g mk a h.2.1, FN.ok.2 A U g mk a h.2.2⟩⟩
abbrev QrW {S : Type} (D : va_G) (tys : TYS) (ws : va_W) (sz : Nat) (wsU : S → va_W) (ra : S → Nat) (post : S → Prop) : Array Value → State → Outcome → State → Prop := va_Qr post (fun u a t => a = ra u ∧ BpW D tys ws sz wsU u t) (va_A ws sz)
section GST
variable {S : Type} {l : Launch} {y : MethodName} {wsY ws' : List Cond} {rm : Room} {D : va_G} {tys : TYS} {ws : va_W} {sz : Nat} {av : List Value} {wsU : S → va_W} {ra : S → Nat} {cc : ByteArray} {maxL : Nat} {F : FACT}
theorem startGI {ty : FieldType} {post : Int32 → S → Prop} (hy : plainFor y = true) (hw : wsY = Cond.code y cc maxL (some ty) :: ws') (hav : (lg_sl av).length ≤ maxL)
    (body : ∀ (p : Program) (e : Env) (s : State) (m : MethodId) (args : Array Value) (below : List Frame) (meth : Method) (c : Code) (A0 : Nat → Prop) (Z : State → Prop), CX y.cls cc maxL wsY D tys p s m args c A0 → WS D s A0 ws s.heap [] → F A0 s →
      (∀ (pc : Nat) (ls : Array Slot) (r : Int32) (u : S) (H : Heap) (locs : List Loc), narrow ty (.int r) = .int r → decode cc pc = .ok (.ireturn, 1) → post r u → WS D s A0 (wsU u) H locs → W p l e rm s m args below meth c H locs rm.cells rm.slots Z (F0 m pc ls [.int r])) →
      ∀ ls : Array Slot, lv_has ls maxL (lv_args 0 av) → W p l e rm s m args below meth c s.heap [] 0 0 Z (F0 m 0 ls [])) :
    Met l y wsY rm (PcG F D tys ws sz av) (QiW D tys ws sz wsU post) rm.cells rm.slots (va_A ws sz) := by
  refine Met_ofWF (cc := cc) (maxL := maxL) (ret := some ty) hy hw ?_
  intro p e s m args below meth c s₁ B hml hv
  obtain ⟨rfl, hsz, hP, hK, hD0, hF⟩ := hv
  have hts := atoms_spec (ws := wsY) B.pre
  have hown := findClass_of_methodNamed B.named
  subst hsz
  have hD := hD0.self (sz := s.heap.size)
  have hl := lv_entry av (n := maxL) hav
  rw [lg_entry_eq]
  refine body p e s m _ below meth c (va_A ws s.heap.size) _ ⟨B.exec, B.bytes, hml, hown, hts, hK, fun q h => Or.inr h⟩ ⟨hP, hD, va_S.rf⟩ hF ?_ _ hl
  intro pc ls r u H locs hn hd hpost hws
  exact W.zret (ty := ty) B.exec B.bytes B.returns hn (fun t ht hW => ⟨⟨r, u, rfl, hpost, by rw [ht]; exact hws.1, va_K.moved hW.alike hK, hws.2.1⟩, hws.2.2.F ht⟩) hws.2.2.2.2 hd
theorem startGV {post : S → Prop} (hy : plainFor y = true) (hyi : y.name = "<init>") (hw : wsY = Cond.code y cc maxL none :: ws') (hav : (lg_sl av).length ≤ maxL)
    (body : ∀ (p : Program) (e : Env) (s : State) (m : MethodId) (args : Array Value) (below : List Frame) (meth : Method) (c : Code) (A0 : Nat → Prop) (Z : State → Prop), CX y.cls cc maxL wsY D tys p s m args c A0 → WS D s A0 ws s.heap [] → F A0 s → meth.name = "<init>" →
      (∀ (pc : Nat) (ls : Array Slot) (u : S) (H : Heap) (locs : List Loc), decode cc pc = .ok (.return_, 1) → post u → WS D s A0 (wsU u) H locs → W p l e rm s m args below meth c H locs rm.cells rm.slots Z (F0 m pc ls [])) →
      ∀ ls : Array Slot, lv_has ls maxL (lv_args 0 av) → W p l e rm s m args below meth c s.heap [] 0 0 Z (F0 m 0 ls [])) :
    Met l y wsY rm (PcG F D tys ws sz av) (QvW D tys ws sz wsU post) rm.cells rm.slots (va_A ws sz) := by
  refine Met_ofWF (cc := cc) (maxL := maxL) (ret := none) hy hw ?_
  intro p e s m args below meth c s₁ B hml hv
  obtain ⟨rfl, hsz, hP, hK, hD0, hF⟩ := hv
  have hts := atoms_spec (ws := wsY) B.pre
  have hown := findClass_of_methodNamed B.named
  have hin := (name_of_methodNamed B.named B.method).1
  rw [hyi] at hin
  subst hsz
  have hD := hD0.self (sz := s.heap.size)
  have hl := lv_entry av (n := maxL) hav
  rw [lg_entry_eq]
  refine body p e s m _ below meth c (va_A ws s.heap.size) _ ⟨B.exec, B.bytes, hml, hown, hts, hK, fun q h => Or.inr h⟩ ⟨hP, hD, va_S.rf⟩ hF hin ?_ _ hl
  intro pc ls u H locs hd hpost hws
  exact W.vret B.exec B.bytes B.returns (fun t ht hW => ⟨⟨u, rfl, hpost, by rw [ht]; exact hws.1, va_K.moved hW.alike hK, hws.2.1⟩, hws.2.2.F ht⟩) hws.2.2.2.2 hd
theorem startGR {ty : FieldType} {post : S → Prop} (hty : (∃ n, ty = .object n) ∨ ∃ t, ty = .array t) (hy : plainFor y = true) (hw : wsY = Cond.code y cc maxL (some ty) :: ws') (hav : (lg_sl av).length ≤ maxL)
    (body : ∀ (p : Program) (e : Env) (s : State) (m : MethodId) (args : Array Value) (below : List Frame) (meth : Method) (c : Code) (A0 : Nat → Prop) (Z : State → Prop), CX y.cls cc maxL wsY D tys p s m args c A0 → WS D s A0 ws s.heap [] → F A0 s →
      (∀ (pc : Nat) (ls : Array Slot) (u : S) (H : Heap) (locs : List Loc), decode cc pc = .ok (.areturn, 1) → post u → WS D s A0 (wsU u) H locs → W p l e rm s m args below meth c H locs rm.cells rm.slots Z (F0 m pc ls [.ref (ra u)])) →
      ∀ ls : Array Slot, lv_has ls maxL (lv_args 0 av) → W p l e rm s m args below meth c s.heap [] 0 0 Z (F0 m 0 ls [])) :
    Met l y wsY rm (PcG F D tys ws sz av) (QrW D tys ws sz wsU ra post) rm.cells rm.slots (va_A ws sz) := by
  refine Met_ofWF (cc := cc) (maxL := maxL) (ret := some ty) hy hw ?_
  intro p e s m args below meth c s₁ B hml hv
  obtain ⟨rfl, hsz, hP, hK, hD0, hF⟩ := hv
  have hts := atoms_spec (ws := wsY) B.pre
  have hown := findClass_of_methodNamed B.named
  subst hsz
  have hD := hD0.self (sz := s.heap.size)
  have hl := lv_entry av (n := maxL) hav
  rw [lg_entry_eq]
  refine body p e s m _ below meth c (va_A ws s.heap.size) _ ⟨B.exec, B.bytes, hml, hown, hts, hK, fun q h => Or.inr h⟩ ⟨hP, hD, va_S.rf⟩ hF ?_ _ hl
  intro pc ls u H locs hd hpost hws
  exact W.aret (rt := ty) B.exec B.bytes B.returns hty (Or.inr ⟨_, rfl⟩) (fun t ht hW => ⟨⟨u, _, rfl, hpost, rfl, by rw [ht]; exact hws.1, va_K.moved hW.alike hK, hws.2.1⟩, hws.2.2.F ht⟩) hws.2.2.2.2 hd
end GST
section GCA
variable {S : Type} {own C : String} {cc : ByteArray} {nL : Nat} {Ts : List Cond} {D : va_G} {tys tysC : TYS} {p : Program} {l : Launch} {e : Env} {R : Room} {s : State} {m : MethodId} {args : Array Value} {below : List Frame} {meth : Method} {c : Code} {A0 : Nat → Prop} {H : Heap} {locs : List Loc} {cells slots : Nat} {Z : State → Prop} {ws wc : va_W} {wcU wsU : S → va_W}
variable {y : MethodName} {wsY : List Cond} {rmY : Room} {bytes : ByteArray} {maxL n index mc ms : Nat} {ret : Option FieldType} {av : List Value} {b : Addr} {pc : Nat} {ls : Array Slot} {lv : List (Nat × Value)} {st0 rest : List Value} {q : vw_C} {ci : Nat} {fs : List Value}
variable {F : FACT} {ra : S → Nat} {host : String}
theorem callGi {post : Int32 → S → Prop} (cx : CX own cc nL Ts D tys p s m args c A0) (hw : WS D s A0 ws H locs) (hls : lv_has ls nL lv) (hok : FOK F) (hF : F A0 s)
    (hM : Met l y wsY rmY (PcG F D tysC wc H.size av) (QiW D tysC wc H.size wcU post) mc ms (va_A wc H.size))
    (cw : (∀ w ∈ Ts, w.before args s = true) → CallB R s args own index y bytes maxL ret wsY rmY mc ms n ∧ (Cond.static y).before args s = true) (hsub : SUB ws wc) (ist : List Nat) (hT : ist.filterMap (fun i => tys[i]?) = tysC)
    (hjn : JN D ws wc wcU wsU) (hn : av.length = n) (hst : st0 = av.reverse ++ rest) (hroom : (rest.map fun v => v.category).sum ≤ 8) (hf : cells + mc ≤ R.cells ∧ slots + ms ≤ R.slots) {c1 s1 : Nat} (hc1 : cells + mc = c1) (hs1 : slots + ms = s1) (hd : decode cc pc = .ok (.invokestatic index, 3))
    (kk : ∀ (r : Int32) (u : S) (H1 : Heap) (locs1 : List Loc), post r u → WS D s A0 (wsU u) H1 locs1 → W p l e R s m args below meth c H1 locs1 c1 s1 Z (F0 m (pc + 3) ls (.int r :: rest))) : W p l e R s m args below meth c H locs cells slots Z (F0 m pc ls st0) := by
  subst hc1
  subst hs1
  obtain ⟨hx, hb, hml, hown, hts, hK, hA⟩ := cx
  obtain ⟨hP, hD, hS⟩ := hw
  have hPc := hsub.P hP
  have hDc := hsub.2 _ hD
  have hKc := hK.sub ist hT
  have hFc := hsub.F hD hS hA
  refine va_calli (va_runS (As := av) (rest := rest) ⟨hx, hb, hml, hown, hts⟩ hM (cw hts) ⟨fun a U g mk q => by obtain ⟨q0, q1, qP, qK, qD, qF⟩ := q; exact ⟨q0, q1, qP, va_K.moved (u := U) (U := U.calling g mk a) (Vm.Alike.refl U.vm) qK, qD, hok.2 _ _ _ _ _ qF⟩, fun U hU hW => ⟨rfl, by rw [hU], by rw [hU]; exact hPc, va_K.moved hW.alike hKc, hDc.weaken (fun _ _ _ _ => trivial), hok.1 _ _ _ _ _ _ hF hW hU hS hFc⟩⟩ rfl hn hls.1 hst (lv_room hroom) hd hf) hS (fun q _ h => hFc q h) hFc (fun r u t H1 locs1 ht hvm hw hB hz1 hk1 hS1 => ?_)
  obtain ⟨hP1, hK1, hD1⟩ := hB
  rw [ht] at hP1
  obtain ⟨h1, h2⟩ := hjn A0 H H1 u hP hD hk1 hFc hP1 hD1
  exact kk r u H1 locs1 hw ⟨h1, h2, hS1⟩
theorem callGr {post : S → Prop} (cx : CX own cc nL Ts D tys p s m args c A0) (hw : WS D s A0 ws H locs) (hls : lv_has ls nL lv) (hok : FOK F) (hF : F A0 s)
    (hM : Met l y wsY rmY (PcG F D tysC wc H.size av) (QrW D tysC wc H.size wcU ra post) mc ms (va_A wc H.size))
    (cw : (∀ w ∈ Ts, w.before args s = true) → CallB R s args own index y bytes maxL ret wsY rmY mc ms n ∧ (Cond.static y).before args s = true) (hsub : SUB ws wc) (ist : List Nat) (hT : ist.filterMap (fun i => tys[i]?) = tysC)
    (hjn : JN D ws wc wcU wsU) (hn : av.length = n) (hst : st0 = av.reverse ++ rest) (hroom : (rest.map fun v => v.category).sum ≤ 8) (hf : cells + mc ≤ R.cells ∧ slots + ms ≤ R.slots) {c1 s1 : Nat} (hc1 : cells + mc = c1) (hs1 : slots + ms = s1) (hd : decode cc pc = .ok (.invokestatic index, 3))
    (kk : ∀ (u : S) (H1 : Heap) (locs1 : List Loc), post u → WS D s A0 (wsU u) H1 locs1 → W p l e R s m args below meth c H1 locs1 c1 s1 Z (F0 m (pc + 3) ls (.ref (ra u) :: rest))) : W p l e R s m args below meth c H locs cells slots Z (F0 m pc ls st0) := by
  subst hc1
  subst hs1
  obtain ⟨hx, hb, hml, hown, hts, hK, hA⟩ := cx
  obtain ⟨hP, hD, hS⟩ := hw
  have hPc := hsub.P hP
  have hDc := hsub.2 _ hD
  have hKc := hK.sub ist hT
  have hFc := hsub.F hD hS hA
  refine va_callr (va_runS (As := av) (rest := rest) ⟨hx, hb, hml, hown, hts⟩ hM (cw hts) ⟨fun a U g mk q => by obtain ⟨q0, q1, qP, qK, qD, qF⟩ := q; exact ⟨q0, q1, qP, va_K.moved (u := U) (U := U.calling g mk a) (Vm.Alike.refl U.vm) qK, qD, hok.2 _ _ _ _ _ qF⟩, fun U hU hW => ⟨rfl, by rw [hU], by rw [hU]; exact hPc, va_K.moved hW.alike hKc, hDc.weaken (fun _ _ _ _ => trivial), hok.1 _ _ _ _ _ _ hF hW hU hS hFc⟩⟩ rfl hn hls.1 hst (lv_room hroom) hd hf) hS (fun q _ h => hFc q h) hFc (fun u q9 t H1 locs1 ht hvm hw hB hz1 hk1 hS1 => ?_)
  obtain ⟨rfl, hP1, hK1, hD1⟩ := hB
  rw [ht] at hP1
  obtain ⟨h1, h2⟩ := hjn A0 H H1 u hP hD hk1 hFc hP1 hD1
  exact kk u H1 locs1 hw ⟨h1, h2, hS1⟩
theorem callGN {post : S → Prop} (cx : CX own cc nL Ts D tys p s m args c A0) (hw : WS D s A0 ws H locs) (hls : lv_has ls nL lv) (hok : FOK F) (hF : F A0 s)
    (hM : Met l y wsY rmY (PcG F D tysC wc H.size [.ref b]) (QvW D tysC wc H.size wcU post) mc ms (va_A wc H.size))
    (cw : (∀ w ∈ Ts, w.before args s = true) → va_CN R s args own index y host bytes maxL none wsY rmY mc ms 0 ∧ y.name = "<init>" ∧ (Cond.instanceMethod y).before args s = true) (hsub : SUB ws wc) (ist : List Nat) (hT : ist.filterMap (fun i => tys[i]?) = tysC)
    (hjn : JN D ws wc wcU wsU) (hst : st0 = .ref b :: rest) (hroom : (rest.map fun v => v.category).sum ≤ 8) (hf : cells + mc ≤ R.cells ∧ slots + ms ≤ R.slots) {c1 s1 : Nat} (hc1 : cells + mc = c1) (hs1 : slots + ms = s1) (hd : decode cc pc = .ok (.invokespecial index, 3))
    (kk : ∀ (u : S) (H1 : Heap) (locs1 : List Loc), post u → WS D s A0 (wsU u) H1 locs1 → W p l e R s m args below meth c H1 locs1 c1 s1 Z (F0 m (pc + 3) ls rest)) : W p l e R s m args below meth c H locs cells slots Z (F0 m pc ls st0) := by
  subst hc1
  subst hs1
  obtain ⟨hx, hb, hml, hown, hts, hK, hA⟩ := cx
  obtain ⟨hP, hD, hS⟩ := hw
  have hPc := hsub.P hP
  have hDc := hsub.2 _ hD
  have hKc := hK.sub ist hT
  have hFc := hsub.F hD hS hA
  refine va_callv (va_runIN (As := []) (rest := rest) ⟨hx, hb, hml, hown, hts⟩ hM (cw hts) ⟨fun a U g mk q => by obtain ⟨q0, q1, qP, qK, qD, qF⟩ := q; exact ⟨q0, q1, qP, va_K.moved (u := U) (U := U.calling g mk a) (Vm.Alike.refl U.vm) qK, qD, hok.2 _ _ _ _ _ qF⟩, fun U hU hW => ⟨rfl, by rw [hU], by rw [hU]; exact hPc, va_K.moved hW.alike hKc, hDc.weaken (fun _ _ _ _ => trivial), hok.1 _ _ _ _ _ _ hF hW hU hS hFc⟩⟩ rfl rfl hls.1 hst (lv_room hroom) hd hf) hS (fun q _ h => hFc q h) hFc (fun u t H1 locs1 ht hvm hw hB hz1 hk1 hS1 => ?_)
  obtain ⟨hP1, hK1, hD1⟩ := hB
  rw [ht] at hP1
  obtain ⟨h1, h2⟩ := hjn A0 H H1 u hP hD hk1 hFc hP1 hD1
  exact kk u H1 locs1 hw ⟨h1, h2, hS1⟩
/-- a reference out of an array of int arrays -/
theorem aldA (cx : CX own cc nL Ts D tys p s m args c A0) (hw : WS D s A0 ws H locs) (q0 t0 : Nat) {cA : ClassId} {n a : Nat} {f : Nat → Option Nat} (ha : ws[q0]? = some (a, .inl (cA, n, .inr (.inr (.inr (.inr f)))))) (ht : tys[t0]? = some (cA, .array .int)) {i : Int32} (hin : vp_in i n) (hd : decode cc pc = .ok (.aaload, 1))
    (kk : W p l e R s m args below meth c H locs cells slots Z (F0 m (pc + 1) ls (va_rf (f i.toNatClampNeg) :: rest))) : W p l e R s m args below meth c H locs cells slots Z (F0 m pc ls (.int i :: .ref a :: rest)) := by
  have hlt : i.toNatClampNeg < n := Nat.not_le.mp fun q => hin (Or.inr q)
  exact W.aald (v := va_rf (f i.toNatClampNeg)) (ty := .array .int) cx.1 cx.2.1 (hw.1 q0 _ ha) ((cx.2.2.2.2.2.1.2 t0 _ ht).1 n (fun j => va_rf (f j))) rfl (fun q => by cases q) (by show ¬ (i < 0 ∨ (arrV _ _ _).slots.size ≤ _); rw [arrV_size]; exact hin) (by show (arrV _ _ _).slots[_]? = _; rw [arrV_read _ _ hlt]) rfl rfl hd kk
/-- an int array is laid into an array of int arrays -/
theorem astA (cx : CX own cc nL Ts D tys p s m args c A0) (hao : AO2 s) (hw : WS D s A0 ws H locs) (q0 t0 qk t1 : Nat) {cA cB : ClassId} {n a v k : Nat} {g : Nat → Int32} {f : Nat → Option Nat} (ha : ws[q0]? = some (a, .inl (cA, n, .inr (.inr (.inr (.inr f)))))) (ht : tys[t0]? = some (cA, .array .int)) (hv : ws[qk]? = some (v, .inl (cB, k, .inl g))) (ht1 : tys[t1]? = some (cB, .int)) {i : Int32} (hin : vp_in i n) {ws1 : va_W} (hs : ws.set q0 (a, .inl (cA, n, .inr (.inr (.inr (.inr (va_up f i.toNatClampNeg (some v))))))) = ws1) (hd : decode cc pc = .ok (.aastore, 1))
    (kk : ∀ (H1 : Heap) (locs1 : List Loc), WS D s A0 ws1 H1 locs1 → W p l e R s m args below meth c H1 locs1 cells slots Z (F0 m (pc + 1) ls rest)) : W p l e R s m args below meth c H locs cells slots Z (F0 m pc ls (.ref v :: .int i :: .ref a :: rest)) := by
  subst hs
  obtain ⟨hx, hb, hml, hown, hts, hK, hA⟩ := cx
  obtain ⟨hP, hD, hS⟩ := hw
  have hlt : i.toNatClampNeg < n := Nat.not_le.mp fun q => hin (Or.inr q)
  have h0 : ¬ i < 0 := fun q => hin (Or.inl q)
  have g1 : H[v]? = some (arrV cB k (fun j => .int (g j))) := hP qk _ hv
  obtain ⟨comp, cA', kA, k3, -, k1, k2, k4⟩ := arrayOverA_spec hao
  have e1 : s.vm.findClass ("[" ++ (FieldType.array .int).toString) = some cA := (hK.2 t0 _ ht).2
  cases k4.symm.trans e1
  have e2 : s.vm.findClass ("[" ++ FieldType.int.toString) = some cB := (hK.2 t1 _ ht1).2
  have k5 : s.vm.findClass ("[" ++ FieldType.int.toString) = some comp := k3
  cases k5.symm.trans e2
  obtain ⟨kC, hkC, -⟩ := Vm.findClass_spec e2
  refine W.aast hx hb (hP q0 _ ha) (fun q h => by cases h) (fun h => by cases h) k1 k2 rfl hkC ⟨h0, by show _ < (arrV _ _ _).slots.size; rw [arrV_size]; exact hlt⟩ g1 (fun q h => by cases h) hkC (by show s.vm.assignableAux (255 + 1) cB cB = true; rw [Vm.assignableAux, beq_self_eq_true, Bool.true_or]) rfl rfl hd fun H1 e z oq => ?_
  refine kk H1 _ ⟨hP.set hD ha ?_ oq, hD.set ha, hS.put z oq (hD.2 q0 _ ha)⟩
  show H1[a]? = some (vp_cell _ _)
  rw [e]
  rw [vp_cell_q, vp_cell_q, arrV_store]
  congr 2
  funext q
  by_cases hq : q = i.toNatClampNeg
  · subst hq
    simp [updV, va_up, va_rf]
  · simp [updV, va_up, hq]
/-- a new array of int arrays -/
theorem newA (cx : CX own cc nL Ts D tys p s m args c A0) (hao : AO2 s) (hlk : (Cond.classLink own index (FieldType.array .int).toString).before args s = true) (hw : WS D s A0 ws H locs) (t0 : Nat) {cA : ClassId} (ht : tys[t0]? = some (cA, .array .int)) {n : Int32} {N' : Nat} (hn : ¬ n < 0) (hN : n.toNatClampNeg = N') (hbytes : N' * 4 ≤ 536870912) (hcells : cells + 1 ≤ R.cells) (hslots : slots + N' ≤ R.slots) (hd : decode cc pc = .ok (.anewarray index, 3))
    (kk : ∀ (q : Nat) (H1 : Heap), WS D s A0 (ws ++ [(q, .inl (cA, N', .inr (.inr (.inr (.inr (fun _ => none))))))]) H1 locs → W p l e R s m args below meth c H1 locs (cells + 1) (slots + N') Z (F0 m (pc + 3) ls (.ref q :: rest))) : W p l e R s m args below meth c H locs cells slots Z (F0 m pc ls (.int n :: rest)) := by
  subst hN
  obtain ⟨hx, hb, hml, hown, hts, hK, hA⟩ := cx
  obtain ⟨hP, hD, hS⟩ := hw
  refine W.anewA hx hb hown hlk hao.use rfl hd rfl hn hbytes hcells hslots fun c9 kA comp f1 f2 f3 f4 => ?_
  have e1 : s.vm.findClass ("[" ++ (FieldType.array .int).toString) = some cA := (hK.2 t0 _ ht).2
  cases f1.symm.trans e1
  generalize hH1 : H.push ({ cls := cA, slots := Array.replicate n.toNatClampNeg .null, vm := .none } : Cell) = H1
  have z1 : H1.size = H.size + 1 := by rw [← hH1, Array.size_push]
  have e1 : H1[H.size]? = some (arrV cA n.toNatClampNeg (fun _ => .null)) := by rw [← hH1, Array.getElem?_push_size, ← arrV_new]
  have o1 : ∀ q : Nat, q < H.size → H1[q]? = H[q]? := fun q hq => by rw [← hH1, Array.getElem?_push, if_neg (Nat.ne_of_lt hq)]
  have hk : ∀ (k : Nat) (x : Nat × va_E), ws[k]? = some x → H1[x.1]? = H[x.1]? := fun k x hx => o1 x.1 ((hP k x hx).lt)
  refine kk H.size H1 ⟨(hP.kept hk).app (fun k x hx => ?_), hD.push hP rfl (hA _ hS.1), ⟨Nat.le_trans hS.1 (by omega), fun x h1 h2 => (o1 x (Nat.lt_of_lt_of_le h1 hS.1)).trans (hS.2.1 x h1 h2), hS.2.2⟩⟩
  have hz : k < 1 := (List.getElem?_eq_some_iff.mp hx).1
  rw [show k = 0 by omega] at hx
  cases hx
  show H1[H.size]? = some (vp_cell _ _)
  rw [vp_cell_q]
  exact e1
end GCA
