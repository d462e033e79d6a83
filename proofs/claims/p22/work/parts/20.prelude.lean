/-! worlds as one state: arrays SA, numbers SV; what a method needs (CX), what holds (WS), contracts over a world -/
abbrev SA : Type := Nat → Nat → Int32
abbrev SV : Type := Nat → Int32
def up (A : SA) (k i : Nat) (v : Int32) : SA := fun k' => if k' = k then upd (A k) i v else A k'
def ua (A : SA) (k : Nat) (f : Nat → Int32) : SA := fun k' => if k' = k then f else A k'
def uv (V : SV) (k : Nat) (v : Int32) : SV := fun k' => if k' = k then v else V k'
abbrev TYS : Type := List (ClassId × FieldType)
def PcW (D : va_G) (tys : TYS) (ws : va_W) (sz : Nat) (av : List Value) : Array Value → State → Prop := va_Pc av (fun U => U.heap.size = sz ∧ va_P D vwCl ws U.heap ∧ va_K D vwCl tys U ∧ va_D (fun _ => True) ws)
def BpW {S : Type} (D : va_G) (tys : TYS) (ws : va_W) (sz : Nat) (wsU : S → va_W) : S → State → Prop := fun u t => va_P D vwCl (wsU u) t.heap ∧ va_K D vwCl tys t ∧ va_D (va_A ws sz) (wsU u)
abbrev QiW {S : Type} (D : va_G) (tys : TYS) (ws : va_W) (sz : Nat) (wsU : S → va_W) (post : Int32 → S → Prop) : Array Value → State → Outcome → State → Prop := va_Qi post (BpW D tys ws sz wsU) (va_A ws sz)
abbrev QlW {S : Type} (D : va_G) (tys : TYS) (ws : va_W) (sz : Nat) (wsU : S → va_W) (post : Int64 → S → Prop) : Array Value → State → Outcome → State → Prop := va_Ql post (BpW D tys ws sz wsU) (va_A ws sz)
abbrev QvW {S : Type} (D : va_G) (tys : TYS) (ws : va_W) (sz : Nat) (wsU : S → va_W) (post : S → Prop) : Array Value → State → Outcome → State → Prop := va_Qv post (BpW D tys ws sz wsU) (va_A ws sz)
def WS (D : va_G) (s : State) (A0 : Nat → Prop) (ws : va_W) (H : Heap) (locs : List Loc) : Prop := va_P D vwCl ws H ∧ va_D A0 ws ∧ va_S A0 s.heap H locs
def CX (own : String) (cc : ByteArray) (nL : Nat) (Ts : List Cond) (D : va_G) (tys : TYS) (p : Program) (s : State) (m : MethodId) (args : Array Value) (c : Code) (A0 : Nat → Prop) : Prop :=
  p.tables.exec = Jvm.exec ∧ c.code = cc ∧ c.maxLocals = nL ∧ s.vm.findClass own = some m.cls ∧ (∀ w ∈ Ts, w.before args s = true) ∧ va_K D vwCl tys s ∧ (∀ q : Nat, s.heap.size ≤ q → A0 q)
def SUB (ws wc : va_W) : Prop := (∀ (k : Nat) (q : Nat × va_E), wc[k]? = some q → ∃ i : Nat, ws[i]? = some q) ∧ ∀ A : Nat → Prop, va_D A ws → va_D A wc
theorem SUB.rf {ws : va_W} : SUB ws ws := ⟨fun k q h => ⟨k, h⟩, fun _ h => h⟩
theorem SUB.nil {ws : va_W} : SUB ws [] := ⟨fun k q h => by simp at h, fun _ _ => ⟨fun i j p q h => by simp at h, fun k q h => by simp at h⟩⟩
theorem SUB.by {ws wc : va_W} (is : List Nat) (hn : va_nd is = true) (hs : is.map (fun i => ws[i]?) = wc.map some) : SUB ws wc := by
  refine ⟨fun k q hk => ?_, fun A hD => hD.sub is hn hs⟩
  have h1 : (is.map (fun i => ws[i]?))[k]? = some (some q) := by rw [hs, List.getElem?_map, hk]; rfl
  rw [List.getElem?_map] at h1
  cases hi : is[k]? with
  | none => rw [hi] at h1; cases h1
  | some i => rw [hi] at h1; exact ⟨i, Option.some.inj h1⟩
theorem SUB.P {D : va_G} {ws wc : va_W} {H : Heap} (h : SUB ws wc) (hP : va_P D vwCl ws H) : va_P D vwCl wc H := fun k q hk => (h.1 k q hk).elim fun i hi => hP i q hi
theorem SUB.F {ws wc : va_W} {A0 : Nat → Prop} {s : State} {H : Heap} {locs : List Loc} (h : SUB ws wc) (hD : va_D A0 ws) (hS : va_S A0 s.heap H locs) (hA : ∀ q : Nat, s.heap.size ≤ q → A0 q) : ∀ q : Nat, va_A wc H.size q → A0 q := by
  intro q hq
  rcases hq with ⟨k, e, hk⟩ | hq
  · obtain ⟨i, hi⟩ := h.1 k _ hk
    exact hD.2 i _ hi
  · exact hA q (Nat.le_trans hS.1 hq)
/-- what a callee's world is for the caller's -/
def JN {S : Type} (D : va_G) (ws wc : va_W) (wcU wsU : S → va_W) : Prop := ∀ (A0 : Nat → Prop) (H H1 : Heap) (u : S), va_P D vwCl ws H → va_D A0 ws → (∀ q : Nat, q < H.size → ¬ va_A wc H.size q → H1[q]? = H[q]?) → (∀ q : Nat, va_A wc H.size q → A0 q) → va_P D vwCl (wcU u) H1 → va_D (va_A wc H.size) (wcU u) → va_P D vwCl (wsU u) H1 ∧ va_D A0 (wsU u)
theorem JN.rf {S : Type} {D : va_G} {ws : va_W} {wsU : S → va_W} : JN D ws ws wsU wsU := fun _ _ _ _ _ _ _ hF hP hD => ⟨hP, hD.weaken (fun _ q _ h => hF q.1 h)⟩
theorem JN.nil {S : Type} {D : va_G} {ws : va_W} : JN D ws [] (fun _ : S => []) (fun _ : S => ws) := by
  intro A0 H H1 u hP hD hk hF _ _
  refine ⟨hP.kept (fun k q hq => hk q.1 (hP k q hq).lt ?_), hD⟩
  rintro (⟨k, e, h⟩ | h)
  · simp at h
  · exact absurd h (Nat.not_le.mpr (hP k q hq).lt)
theorem JN.by {S : Type} {D : va_G} {ws wc wr : va_W} {wcU wsU : S → va_W} (isC isR : List Nat) (hC : isC.map (fun i => ws[i]?) = wc.map some) (hR : isR.map (fun i => ws[i]?) = wr.map some) (hn : va_nd isR = true) (hdis : ∀ i ∈ isR, i ∉ isC) (isU : List Nat) (hnU : va_nd isU = true) (hU : ∀ u, isU.map (fun i => (wr ++ wcU u)[i]?) = (wsU u).map some) : JN D ws wc wcU wsU := by
  intro A0 H H1 u hP hD hk hF hP1 hD1
  obtain ⟨h1, h2⟩ := va_join hP hD isC isR hC hR hn hdis hk hF hP1 hD1
  have hS := SUB.by isU hnU (hU u)
  exact ⟨hS.P h1, hS.2 _ h2⟩
theorem Met_ofWF {y : MethodName} {l : Launch} {ws ws' : List Cond} {rm : Room} {Pc : Array Value → State → Prop} {Qc : Array Value → State → Outcome → State → Prop} {mc ms : Nat} {free : Addr → Prop} {cc : ByteArray} {maxL : Nat} {ret : Option FieldType}
    (hy : plainFor y = true) (hw : ws = Cond.code y cc maxL ret :: ws')
    (body : ∀ p e s m args below meth c s₁, BodyLoose p l y (headSpec ws rm) cc maxL ret e s m args below meth c s₁ → c.maxLocals = maxL → Pc args s →
      W p l e (headSpec ws rm).room s m args below meth c s.heap [] 0 0 (MQ below Qc args s mc ms free) (entryFrame m args maxL)) : Met l y ws rm Pc Qc mc ms free := by
  refine MetFree.of_bodySF (code := cc) (maxLocals := maxL) (ret := ret) hy ?_ ?_
  · intro args s m h hn
    obtain ⟨meth, c, h1, h2, h3, h4, h5, h6, -, -⟩ := Cond.code_spec hn (atoms_spec (ws := ws) h _ (by rw [hw]; exact List.mem_cons_self))
    exact ⟨meth, c, h1, h2, h3, h4, h5, h6⟩
  · intro p e s m args below meth c s₁ B hml hP _
    have hh0 : s₁.heap = s.heap := by rw [B.state]; rfl
    obtain ⟨t, a1, o, b1, b2, b3⟩ := body p e s m args below meth c s₁ B hml hP s₁ hh0 (Stand.of_body B)
    exact ⟨t, o, a1, b1, b2, ⟨b3.1, b3.2⟩⟩
section PRE
variable {S : Type} {l : Launch} {y : MethodName} {wsY ws' : List Cond} {rm : Room} {D : va_G} {tys : TYS} {ws : va_W} {sz : Nat} {av : List Value} {wsU : S → va_W} {cc : ByteArray} {maxL : Nat}
theorem startI {ty : FieldType} {post : Int32 → S → Prop} (hy : plainFor y = true) (hw : wsY = Cond.code y cc maxL (some ty) :: ws') (hav : (lg_sl av).length ≤ maxL)
    (body : ∀ (p : Program) (e : Env) (s : State) (m : MethodId) (args : Array Value) (below : List Frame) (meth : Method) (c : Code) (A0 : Nat → Prop) (Z : State → Prop), CX y.cls cc maxL wsY D tys p s m args c A0 → WS D s A0 ws s.heap [] →
      (∀ (pc : Nat) (ls : Array Slot) (r : Int32) (u : S) (H : Heap) (locs : List Loc), narrow ty (.int r) = .int r → decode cc pc = .ok (.ireturn, 1) → post r u → WS D s A0 (wsU u) H locs → W p l e rm s m args below meth c H locs rm.cells rm.slots Z (F0 m pc ls [.int r])) →
      ∀ ls : Array Slot, lv_has ls maxL (lv_args 0 av) → W p l e rm s m args below meth c s.heap [] 0 0 Z (F0 m 0 ls [])) :
    Met l y wsY rm (PcW D tys ws sz av) (QiW D tys ws sz wsU post) rm.cells rm.slots (va_A ws sz) := by
  refine Met_ofWF (cc := cc) (maxL := maxL) (ret := some ty) hy hw ?_
  intro p e s m args below meth c s₁ B hml hv
  obtain ⟨rfl, hsz, hP, hK, hD0⟩ := hv
  have hts := atoms_spec (ws := wsY) B.pre
  have hown := findClass_of_methodNamed B.named
  subst hsz
  have hD := hD0.self (sz := s.heap.size)
  have hl := lv_entry av (n := maxL) hav
  rw [lg_entry_eq]
  refine body p e s m _ below meth c (va_A ws s.heap.size) _ ⟨B.exec, B.bytes, hml, hown, hts, hK, fun q h => Or.inr h⟩ ⟨hP, hD, va_S.rf⟩ ?_ _ hl
  intro pc ls r u H locs hn hd hpost hws
  exact W.zret (ty := ty) B.exec B.bytes B.returns hn (fun t ht hW => ⟨⟨r, u, rfl, hpost, by rw [ht]; exact hws.1, va_K.moved hW.alike hK, hws.2.1⟩, hws.2.2.F ht⟩) hws.2.2.2.2 hd
theorem startV {post : S → Prop} (hy : plainFor y = true) (hw : wsY = Cond.code y cc maxL none :: ws') (hav : (lg_sl av).length ≤ maxL)
    (body : ∀ (p : Program) (e : Env) (s : State) (m : MethodId) (args : Array Value) (below : List Frame) (meth : Method) (c : Code) (A0 : Nat → Prop) (Z : State → Prop), CX y.cls cc maxL wsY D tys p s m args c A0 → WS D s A0 ws s.heap [] →
      (∀ (pc : Nat) (ls : Array Slot) (u : S) (H : Heap) (locs : List Loc), decode cc pc = .ok (.return_, 1) → post u → WS D s A0 (wsU u) H locs → W p l e rm s m args below meth c H locs rm.cells rm.slots Z (F0 m pc ls [])) →
      ∀ ls : Array Slot, lv_has ls maxL (lv_args 0 av) → W p l e rm s m args below meth c s.heap [] 0 0 Z (F0 m 0 ls [])) :
    Met l y wsY rm (PcW D tys ws sz av) (QvW D tys ws sz wsU post) rm.cells rm.slots (va_A ws sz) := by
  refine Met_ofWF (cc := cc) (maxL := maxL) (ret := none) hy hw ?_
  intro p e s m args below meth c s₁ B hml hv
  obtain ⟨rfl, hsz, hP, hK, hD0⟩ := hv
  have hts := atoms_spec (ws := wsY) B.pre
  have hown := findClass_of_methodNamed B.named
  subst hsz
  have hD := hD0.self (sz := s.heap.size)
  have hl := lv_entry av (n := maxL) hav
  rw [lg_entry_eq]
  refine body p e s m _ below meth c (va_A ws s.heap.size) _ ⟨B.exec, B.bytes, hml, hown, hts, hK, fun q h => Or.inr h⟩ ⟨hP, hD, va_S.rf⟩ ?_ _ hl
  intro pc ls u H locs hd hpost hws
  exact W.vret B.exec B.bytes B.returns (fun t ht hW => ⟨⟨u, rfl, hpost, by rw [ht]; exact hws.1, va_K.moved hW.alike hK, hws.2.1⟩, hws.2.2.F ht⟩) hws.2.2.2.2 hd
theorem startL {post : Int64 → S → Prop} (hy : plainFor y = true) (hw : wsY = Cond.code y cc maxL (some .long) :: ws') (hav : (lg_sl av).length ≤ maxL)
    (body : ∀ (p : Program) (e : Env) (s : State) (m : MethodId) (args : Array Value) (below : List Frame) (meth : Method) (c : Code) (A0 : Nat → Prop) (Z : State → Prop), CX y.cls cc maxL wsY D tys p s m args c A0 → WS D s A0 ws s.heap [] →
      (∀ (pc : Nat) (ls : Array Slot) (r : Int64) (u : S) (H : Heap) (locs : List Loc), decode cc pc = .ok (.lreturn, 1) → post r u → WS D s A0 (wsU u) H locs → W p l e rm s m args below meth c H locs rm.cells rm.slots Z (F0 m pc ls [.long r])) →
      ∀ ls : Array Slot, lv_has ls maxL (lv_args 0 av) → W p l e rm s m args below meth c s.heap [] 0 0 Z (F0 m 0 ls [])) :
    Met l y wsY rm (PcW D tys ws sz av) (QlW D tys ws sz wsU post) rm.cells rm.slots (va_A ws sz) := by
  refine Met_ofWF (cc := cc) (maxL := maxL) (ret := some .long) hy hw ?_
  intro p e s m args below meth c s₁ B hml hv
  obtain ⟨rfl, hsz, hP, hK, hD0⟩ := hv
  have hts := atoms_spec (ws := wsY) B.pre
  have hown := findClass_of_methodNamed B.named
  subst hsz
  have hD := hD0.self (sz := s.heap.size)
  have hl := lv_entry av (n := maxL) hav
  rw [lg_entry_eq]
  refine body p e s m _ below meth c (va_A ws s.heap.size) _ ⟨B.exec, B.bytes, hml, hown, hts, hK, fun q h => Or.inr h⟩ ⟨hP, hD, va_S.rf⟩ ?_ _ hl
  intro pc ls r u H locs hd hpost hws
  exact W.lret B.exec B.bytes B.returns (fun t ht hW => ⟨⟨r, u, rfl, hpost, by rw [ht]; exact hws.1, va_K.moved hW.alike hK, hws.2.1⟩, hws.2.2.F ht⟩) hws.2.2.2.2 hd
end PRE
section CALLS
variable {S : Type} {own C : String} {cc : ByteArray} {nL : Nat} {Ts : List Cond} {D : va_G} {tys tysC : TYS} {p : Program} {l : Launch} {e : Env} {R : Room} {s : State} {m : MethodId} {args : Array Value} {below : List Frame} {meth : Method} {c : Code} {A0 : Nat → Prop} {H : Heap} {locs : List Loc} {cells slots : Nat} {Z : State → Prop} {ws wc : va_W} {wcU wsU : S → va_W}
variable {y : MethodName} {wsY : List Cond} {rmY : Room} {bytes : ByteArray} {maxL n index mc ms : Nat} {ret : Option FieldType} {av : List Value} {b : Addr} {pc : Nat} {ls : Array Slot} {lv : List (Nat × Value)} {st0 rest : List Value} {q : vw_C} {ci : Nat} {fs : List Value}
theorem callVi {post : Int32 → S → Prop} (cx : CX own cc nL Ts D tys p s m args c A0) (hw : WS D s A0 ws H locs) (hls : lv_has ls nL lv)
    (hM : Met l y wsY rmY (PcW D tysC wc H.size (.ref b :: av)) (QiW D tysC wc H.size wcU post) mc ms (va_A wc H.size))
    (cw : (∀ w ∈ Ts, w.before args s = true) → CallW R s args own C index y bytes maxL ret wsY rmY mc ms n) (hsub : SUB ws wc) (ist : List Nat) (hT : ist.filterMap (fun i => tys[i]?) = tysC)
    (q0 : Nat) (hc : vwCl[ci]? = some q) (hqC : q.1 = C) (he : wc[q0]? = some (b, .inr (ci, fs))) (hjn : JN D ws wc wcU wsU) (hn : av.length = n) (hst : st0 = av.reverse ++ .ref b :: rest) (hroom : (rest.map fun v => v.category).sum ≤ 8) (hf : cells + mc ≤ R.cells ∧ slots + ms ≤ R.slots) {c1 s1 : Nat} (hc1 : cells + mc = c1) (hs1 : slots + ms = s1) (hd : decode cc pc = .ok (.invokevirtual index, 3))
    (kk : ∀ (r : Int32) (u : S) (H1 : Heap) (locs1 : List Loc), post r u → WS D s A0 (wsU u) H1 locs1 → W p l e R s m args below meth c H1 locs1 c1 s1 Z (F0 m (pc + 3) ls (.int r :: rest))) : W p l e R s m args below meth c H locs cells slots Z (F0 m pc ls st0) := by
  subst hc1
  subst hs1
  obtain ⟨hx, hb, hml, hown, hts, hK, hA⟩ := cx
  obtain ⟨hP, hD, hS⟩ := hw
  have hPc := hsub.P hP
  have hDc := hsub.2 _ hD
  have hKc := hK.sub ist hT
  have hFc := hsub.F hD hS hA
  refine va_calli (va_runV (As := av) (rest := rest) ⟨hx, hb, hml, hown, hts⟩ hM (cw hts) ⟨fun a U g mk q => by obtain ⟨q0, q1, qP, qK, qD⟩ := q; exact ⟨q0, q1, qP, va_K.moved (u := U) (U := U.calling g mk a) (Vm.Alike.refl U.vm) qK, qD⟩, hqC ▸ va_recv hKc hPc hc he, fun U hU hW => ⟨rfl, by rw [hU], by rw [hU]; exact hPc, va_K.moved hW.alike hKc, hDc.weaken (fun _ _ _ _ => trivial)⟩⟩ rfl hn hls.1 hst (lv_room hroom) hd hf) hS (fun q _ h => hFc q h) hFc (fun r u t H1 locs1 ht hvm hw hB hz1 hk1 hS1 => ?_)
  obtain ⟨hP1, hK1, hD1⟩ := hB
  rw [ht] at hP1
  obtain ⟨h1, h2⟩ := hjn A0 H H1 u hP hD hk1 hFc hP1 hD1
  exact kk r u H1 locs1 hw ⟨h1, h2, hS1⟩
theorem callVl {post : Int64 → S → Prop} (cx : CX own cc nL Ts D tys p s m args c A0) (hw : WS D s A0 ws H locs) (hls : lv_has ls nL lv)
    (hM : Met l y wsY rmY (PcW D tysC wc H.size (.ref b :: av)) (QlW D tysC wc H.size wcU post) mc ms (va_A wc H.size))
    (cw : (∀ w ∈ Ts, w.before args s = true) → CallW R s args own C index y bytes maxL ret wsY rmY mc ms n) (hsub : SUB ws wc) (ist : List Nat) (hT : ist.filterMap (fun i => tys[i]?) = tysC)
    (q0 : Nat) (hc : vwCl[ci]? = some q) (hqC : q.1 = C) (he : wc[q0]? = some (b, .inr (ci, fs))) (hjn : JN D ws wc wcU wsU) (hn : av.length = n) (hst : st0 = av.reverse ++ .ref b :: rest) (hroom : (rest.map fun v => v.category).sum ≤ 8) (hf : cells + mc ≤ R.cells ∧ slots + ms ≤ R.slots) {c1 s1 : Nat} (hc1 : cells + mc = c1) (hs1 : slots + ms = s1) (hd : decode cc pc = .ok (.invokevirtual index, 3))
    (kk : ∀ (r : Int64) (u : S) (H1 : Heap) (locs1 : List Loc), post r u → WS D s A0 (wsU u) H1 locs1 → W p l e R s m args below meth c H1 locs1 c1 s1 Z (F0 m (pc + 3) ls (.long r :: rest))) : W p l e R s m args below meth c H locs cells slots Z (F0 m pc ls st0) := by
  subst hc1
  subst hs1
  obtain ⟨hx, hb, hml, hown, hts, hK, hA⟩ := cx
  obtain ⟨hP, hD, hS⟩ := hw
  have hPc := hsub.P hP
  have hDc := hsub.2 _ hD
  have hKc := hK.sub ist hT
  have hFc := hsub.F hD hS hA
  refine va_calll (va_runV (As := av) (rest := rest) ⟨hx, hb, hml, hown, hts⟩ hM (cw hts) ⟨fun a U g mk q => by obtain ⟨q0, q1, qP, qK, qD⟩ := q; exact ⟨q0, q1, qP, va_K.moved (u := U) (U := U.calling g mk a) (Vm.Alike.refl U.vm) qK, qD⟩, hqC ▸ va_recv hKc hPc hc he, fun U hU hW => ⟨rfl, by rw [hU], by rw [hU]; exact hPc, va_K.moved hW.alike hKc, hDc.weaken (fun _ _ _ _ => trivial)⟩⟩ rfl hn hls.1 hst (lv_room hroom) hd hf) hS (fun q _ h => hFc q h) hFc (fun r u t H1 locs1 ht hvm hw hB hz1 hk1 hS1 => ?_)
  obtain ⟨hP1, hK1, hD1⟩ := hB
  rw [ht] at hP1
  obtain ⟨h1, h2⟩ := hjn A0 H H1 u hP hD hk1 hFc hP1 hD1
  exact kk r u H1 locs1 hw ⟨h1, h2, hS1⟩
theorem callVv {post : S → Prop} (cx : CX own cc nL Ts D tys p s m args c A0) (hw : WS D s A0 ws H locs) (hls : lv_has ls nL lv)
    (hM : Met l y wsY rmY (PcW D tysC wc H.size (.ref b :: av)) (QvW D tysC wc H.size wcU post) mc ms (va_A wc H.size))
    (cw : (∀ w ∈ Ts, w.before args s = true) → CallW R s args own C index y bytes maxL ret wsY rmY mc ms n) (hsub : SUB ws wc) (ist : List Nat) (hT : ist.filterMap (fun i => tys[i]?) = tysC)
    (q0 : Nat) (hc : vwCl[ci]? = some q) (hqC : q.1 = C) (he : wc[q0]? = some (b, .inr (ci, fs))) (hjn : JN D ws wc wcU wsU) (hn : av.length = n) (hst : st0 = av.reverse ++ .ref b :: rest) (hroom : (rest.map fun v => v.category).sum ≤ 8) (hf : cells + mc ≤ R.cells ∧ slots + ms ≤ R.slots) {c1 s1 : Nat} (hc1 : cells + mc = c1) (hs1 : slots + ms = s1) (hd : decode cc pc = .ok (.invokevirtual index, 3))
    (kk : ∀ (u : S) (H1 : Heap) (locs1 : List Loc), post u → WS D s A0 (wsU u) H1 locs1 → W p l e R s m args below meth c H1 locs1 c1 s1 Z (F0 m (pc + 3) ls rest)) : W p l e R s m args below meth c H locs cells slots Z (F0 m pc ls st0) := by
  subst hc1
  subst hs1
  obtain ⟨hx, hb, hml, hown, hts, hK, hA⟩ := cx
  obtain ⟨hP, hD, hS⟩ := hw
  have hPc := hsub.P hP
  have hDc := hsub.2 _ hD
  have hKc := hK.sub ist hT
  have hFc := hsub.F hD hS hA
  refine va_callv (va_runV (As := av) (rest := rest) ⟨hx, hb, hml, hown, hts⟩ hM (cw hts) ⟨fun a U g mk q => by obtain ⟨q0, q1, qP, qK, qD⟩ := q; exact ⟨q0, q1, qP, va_K.moved (u := U) (U := U.calling g mk a) (Vm.Alike.refl U.vm) qK, qD⟩, hqC ▸ va_recv hKc hPc hc he, fun U hU hW => ⟨rfl, by rw [hU], by rw [hU]; exact hPc, va_K.moved hW.alike hKc, hDc.weaken (fun _ _ _ _ => trivial)⟩⟩ rfl hn hls.1 hst (lv_room hroom) hd hf) hS (fun q _ h => hFc q h) hFc (fun u t H1 locs1 ht hvm hw hB hz1 hk1 hS1 => ?_)
  obtain ⟨hP1, hK1, hD1⟩ := hB
  rw [ht] at hP1
  obtain ⟨h1, h2⟩ := hjn A0 H H1 u hP hD hk1 hFc hP1 hD1
  exact kk u H1 locs1 hw ⟨h1, h2, hS1⟩
theorem callSi {post : Int32 → S → Prop} (cx : CX own cc nL Ts D tys p s m args c A0) (hw : WS D s A0 ws H locs) (hls : lv_has ls nL lv)
    (hM : Met l y wsY rmY (PcW D tysC wc H.size av) (QiW D tysC wc H.size wcU post) mc ms (va_A wc H.size))
    (cw : (∀ w ∈ Ts, w.before args s = true) → CallB R s args own index y bytes maxL ret wsY rmY mc ms n ∧ (Cond.static y).before args s = true) (hsub : SUB ws wc) (ist : List Nat) (hT : ist.filterMap (fun i => tys[i]?) = tysC)
    (hjn : JN D ws wc wcU wsU) (hn : av.length = n) (hst : st0 = av.reverse ++ rest) (hroom : (rest.map fun v => v.category).sum ≤ 8) (hf : cells + mc ≤ R.cells ∧ slots + ms ≤ R.slots) {c1 s1 : Nat} (hc1 : cells + mc = c1) (hs1 : slots + ms = s1) (hd : decode cc pc = .ok (.invokestatic index, 3))
    (kk : ∀ (r : Int32) (u : S) (H1 : Heap) (locs1 : List Loc), post r u → WS D s A0 (wsU u) H1 locs1 → W p l e R s m args below meth c H1 locs1 c1 s1 Z (F0 m (pc + 3) ls (.int r :: rest))) : W p l e R s m args below meth c H locs cells slots Z (F0 m pc ls st0) := by
  subst hc1
  subst hs1
  obtain ⟨hx, hb, hml, hown, hts, hK, hA⟩ := cx
  obtain ⟨hP, hD, hS⟩ := hw
  have hPc := hsub.P hP
  have hDc := hsub.2 _ hD
  have hKc := hK.sub ist hT
  have hFc := hsub.F hD hS hA
  refine va_calli (va_runS (As := av) (rest := rest) ⟨hx, hb, hml, hown, hts⟩ hM (cw hts) ⟨fun a U g mk q => by obtain ⟨q0, q1, qP, qK, qD⟩ := q; exact ⟨q0, q1, qP, va_K.moved (u := U) (U := U.calling g mk a) (Vm.Alike.refl U.vm) qK, qD⟩, fun U hU hW => ⟨rfl, by rw [hU], by rw [hU]; exact hPc, va_K.moved hW.alike hKc, hDc.weaken (fun _ _ _ _ => trivial)⟩⟩ rfl hn hls.1 hst (lv_room hroom) hd hf) hS (fun q _ h => hFc q h) hFc (fun r u t H1 locs1 ht hvm hw hB hz1 hk1 hS1 => ?_)
  obtain ⟨hP1, hK1, hD1⟩ := hB
  rw [ht] at hP1
  obtain ⟨h1, h2⟩ := hjn A0 H H1 u hP hD hk1 hFc hP1 hD1
  exact kk r u H1 locs1 hw ⟨h1, h2, hS1⟩
/-- a field is read -/
theorem geF {C T N ci} (cx : CX own cc nL Ts D tys p s m args c A0) (hin : ∀ w ∈ u_ws C T N, w ∈ Ts) (hc : vwCl[ci]? = some (C, T, N)) (k : Nat) (hk : k < N) (hlk : Cond.fieldLink own index (T k).1 (T k).2.1 (T k).2.2.1 ∈ Ts) (hw : WS D s A0 ws H locs) (q0 : Nat) {v : Value} {a : Nat} (he : ws[q0]? = some (a, .inr (ci, fs))) (hv : fs[k]? = some v) (hd : decode cc pc = .ok (.getfield index, 3))
    (kk : W p l e R s m args below meth c H locs cells slots Z (F0 m (pc + 3) ls (v :: rest))) : W p l e R s m args below meth c H locs cells slots Z (F0 m pc ls (.ref a :: rest)) := by
  obtain ⟨hx, hb, hml, hown, hts, hK, hA⟩ := cx
  obtain ⟨hP, hD, hS⟩ := hw
  exact va_get hx hb hts hin hown hK hP q0 he hc k hk (hts _ hlk) (fun _ h => h) hv hd kk
/-- a number field is written -/
theorem puF {C T N ci} (cx : CX own cc nL Ts D tys p s m args c A0) (hin : ∀ w ∈ u_ws C T N, w ∈ Ts) (ty0 : Nat → FieldType) (hty : ∀ k, k < N → parseFieldDescriptor (T k).2.2.1 = some (ty0 k)) (hnm : ∀ a, a < N → ∀ b, b < N → a ≠ b → (T a).2.1 ≠ (T b).2.1) (hc : vwCl[ci]? = some (C, T, N)) (k : Nat) (hk : k < N) (hfin : (T k).2.2.2 = false) (hI : (T k).2.2.1 = "I") (hlk : Cond.fieldLink own index (T k).1 (T k).2.1 (T k).2.2.1 ∈ Ts) (hw : WS D s A0 ws H locs) (q0 : Nat) {v : Int32} {a : Nat} (he : ws[q0]? = some (a, .inr (ci, fs))) (hl : k < fs.length) {ws1 : va_W} (hs : ws.set q0 (a, .inr (ci, fs.set k (.int v))) = ws1) (hd : decode cc pc = .ok (.putfield index, 3))
    (kk : ∀ (H1 : Heap) (locs1 : List Loc), WS D s A0 ws1 H1 locs1 → W p l e R s m args below meth c H1 locs1 cells slots Z (F0 m (pc + 3) ls rest)) : W p l e R s m args below meth c H locs cells slots Z (F0 m pc ls (.int v :: .ref a :: rest)) := by
  obtain ⟨hx, hb, hml, hown, hts, hK, hA⟩ := cx
  obtain ⟨hP, hD, hS⟩ := hw
  subst hs
  exact va_put hx hb hts hin ty0 hty hnm hown hK hP hD hS q0 he hc k hk (hts _ hlk) (fun _ h => h) hfin (ty := .int) (by rw [hI]; rfl) rfl rfl hl hd (fun H1 locs1 h1 h2 h3 => kk H1 locs1 ⟨h1, h2, h3⟩)
theorem alI (cx : CX own cc nL Ts D tys p s m args c A0) (hw : WS D s A0 ws H locs) (q0 t0 : Nat) {cA : ClassId} {n : Nat} {f : Nat → Int32} {a : Nat} (ha : ws[q0]? = some (a, .inl (cA, n, .inl f))) (ht : tys[t0]? = some (cA, .int)) {i : Int32} (hin : vp_in i n) (hd : decode cc pc = .ok (.iaload, 1))
    (kk : W p l e R s m args below meth c H locs cells slots Z (F0 m (pc + 1) ls (.int (f i.toNatClampNeg) :: rest))) : W p l e R s m args below meth c H locs cells slots Z (F0 m pc ls (.int i :: .ref a :: rest)) :=
  va_iald cx.1 cx.2.1 cx.2.2.2.2.2.1 hw.1 q0 t0 ha ht hin hd kk
theorem alZ (cx : CX own cc nL Ts D tys p s m args c A0) (hw : WS D s A0 ws H locs) (q0 t0 : Nat) {cA : ClassId} {n : Nat} {f : Nat → Int32} {a : Nat} (ha : ws[q0]? = some (a, .inl (cA, n, .inl f))) (ht : tys[t0]? = some (cA, .boolean)) {i : Int32} (hin : vp_in i n) (hd : decode cc pc = .ok (.baload, 1))
    (kk : W p l e R s m args below meth c H locs cells slots Z (F0 m (pc + 1) ls (.int (f i.toNatClampNeg) :: rest))) : W p l e R s m args below meth c H locs cells slots Z (F0 m pc ls (.int i :: .ref a :: rest)) :=
  va_zald cx.1 cx.2.1 cx.2.2.2.2.2.1 hw.1 q0 t0 ha ht hin hd kk
theorem asI (cx : CX own cc nL Ts D tys p s m args c A0) (hw : WS D s A0 ws H locs) (q0 t0 : Nat) {cA : ClassId} {n : Nat} {f : Nat → Int32} {a : Nat} (ha : ws[q0]? = some (a, .inl (cA, n, .inl f))) (ht : tys[t0]? = some (cA, .int)) {i x : Int32} (hin : vp_in i n) {ws1 : va_W} (hs : ws.set q0 (a, .inl (cA, n, .inl (upd f i.toNatClampNeg x))) = ws1) (hd : decode cc pc = .ok (.iastore, 1))
    (kk : ∀ (H1 : Heap) (locs1 : List Loc), WS D s A0 ws1 H1 locs1 → W p l e R s m args below meth c H1 locs1 cells slots Z (F0 m (pc + 1) ls rest)) : W p l e R s m args below meth c H locs cells slots Z (F0 m pc ls (.int x :: .int i :: .ref a :: rest)) := by
  subst hs
  exact va_iast cx.1 cx.2.1 cx.2.2.2.2.2.1 hw.1 hw.2.1 hw.2.2 q0 t0 ha ht hin hd (fun H1 locs1 h1 h2 h3 => kk H1 locs1 ⟨h1, h2, h3⟩)
theorem asZ (cx : CX own cc nL Ts D tys p s m args c A0) (hw : WS D s A0 ws H locs) (q0 t0 : Nat) {cA : ClassId} {n : Nat} {f : Nat → Int32} {a : Nat} (ha : ws[q0]? = some (a, .inl (cA, n, .inl f))) (ht : tys[t0]? = some (cA, .boolean)) {i x : Int32} (hin : vp_in i n) {ws1 : va_W} (hs : ws.set q0 (a, .inl (cA, n, .inl (upd f i.toNatClampNeg (vp_nar .boolean x)))) = ws1) (hd : decode cc pc = .ok (.bastore, 1))
    (kk : ∀ (H1 : Heap) (locs1 : List Loc), WS D s A0 ws1 H1 locs1 → W p l e R s m args below meth c H1 locs1 cells slots Z (F0 m (pc + 1) ls rest)) : W p l e R s m args below meth c H locs cells slots Z (F0 m pc ls (.int x :: .int i :: .ref a :: rest)) := by
  subst hs
  exact va_zast cx.1 cx.2.1 cx.2.2.2.2.2.1 hw.1 hw.2.1 hw.2.2 q0 t0 ha ht hin hd (fun H1 locs1 h1 h2 h3 => kk H1 locs1 ⟨h1, h2, h3⟩)
theorem alenG (cx : CX own cc nL Ts D tys p s m args c A0) (hw : WS D s A0 ws H locs) (q0 t0 : Nat) {cA : ClassId} {x : vp_A} {a : Nat} (ha : ws[q0]? = some (a, .inl (cA, x))) {ty : FieldType} (ht : tys[t0]? = some (cA, ty)) {v : Int32} (hv : Int32.ofNat x.1 = v) (hd : decode cc pc = .ok (.arraylength, 1))
    (kk : W p l e R s m args below meth c H locs cells slots Z (F0 m (pc + 1) ls (.int v :: rest))) : W p l e R s m args below meth c H locs cells slots Z (F0 m pc ls (.ref a :: rest)) :=
  va_alen cx.1 cx.2.1 cx.2.2.2.2.2.1 hw.1 q0 t0 ha ht hv hd kk
theorem newI (cx : CX own cc nL Ts D tys p s m args c A0) (harr : (Cond.arrayClass .int).before args s = true) (hw : WS D s A0 ws H locs) {n : Int32} {N' : Nat} (hn : ¬ n < 0) (hN : n.toNatClampNeg = N') (hbytes : N' * componentBytes .int ≤ 536870912) (hcells : cells + 1 ≤ R.cells) (hslots : slots + N' ≤ R.slots) (hd : decode cc pc = .ok (.newarray .int, 2))
    (kk : ∀ (q : Nat) (cA : ClassId) (H1 : Heap), CX own cc nL Ts D (tys ++ [(cA, .int)]) p s m args c A0 → WS D s A0 (ws ++ [(q, .inl (cA, N', .inl (fun _ => 0)))]) H1 locs → W p l e R s m args below meth c H1 locs (cells + 1) (slots + N') Z (F0 m (pc + 2) ls (.ref q :: rest))) : W p l e R s m args below meth c H locs cells slots Z (F0 m pc ls (.int n :: rest)) := by
  obtain ⟨hx, hb, hml, hown, hts, hK, hA⟩ := cx
  obtain ⟨hP, hD, hS⟩ := hw
  exact va_newa (atype := .int) hx hb harr rfl hK hP hD hS hA (a0 := (N', .inl (fun _ => 0))) (fun _ => rfl) hn hN hbytes hcells hslots hd (fun q cA H1 hK1 hP1 hD1 hS1 => kk q cA H1 ⟨hx, hb, hml, hown, hts, hK1, hA⟩ ⟨hP1, hD1, hS1⟩)
theorem cpI (cx : CX own cc nL Ts D tys p s m args c A0) (hl : lv_has ls nL lv) (hlink : (Cond.methodLink own index arraycopyName).before args s = true) (hnat : (Cond.native arraycopyName).before args s = true) (hstat : (Cond.static arraycopyName).before args s = true) (hini : (Cond.initialized "java/lang/System").before args s = true) (hw : WS D s A0 ws H locs) (q0 q1 t0 t1 : Nat) {a0 a : Nat} {k0 k1 : ClassId} {n0 n1 : Nat} {f g : Nat → Int32} (ha0 : ws[q0]? = some (a0, .inl (k0, n0, .inl f))) (ha1 : ws[q1]? = some (a, .inl (k1, n1, .inl g))) (ht0 : tys[t0]? = some (k0, .int)) (ht1 : tys[t1]? = some (k1, .int))
    {sp dp n : Int32} (h1 : ¬ sp < 0) (h2 : ¬ dp < 0) (h3 : ¬ n < 0) (h4 : sp.toNatClampNeg + n.toNatClampNeg ≤ n0) (h5 : dp.toNatClampNeg + n.toNatClampNeg ≤ n1) (hframes : 1 ≤ R.frames) (hlocals : (rest.map fun v => v.category).sum + (nativeFrameWords "java/lang/System" "arraycopy" 5 + 11) ≤ R.locals)
    {ws1 : va_W} (hs : ws.set q1 (a, .inl (k1, n1, .inl (va_cpy f g sp.toNatClampNeg dp.toNatClampNeg n.toNatClampNeg))) = ws1) (hd : decode cc pc = .ok (.invokestatic index, 3))
    (kk : ∀ (H1 : Heap) (locs1 : List Loc), WS D s A0 ws1 H1 locs1 → W p l e R s m args below meth c H1 locs1 cells slots Z (F0 m (pc + 3) ls rest)) : W p l e R s m args below meth c H locs cells slots Z (F0 m pc ls (.int n :: .int dp :: .ref a :: .int sp :: .ref a0 :: rest)) := by
  subst hs
  obtain ⟨hx, hb, hml, hown, hts, hK, hA⟩ := cx
  obtain ⟨hP, hD, hS⟩ := hw
  exact va_copyi hx hb (hml.trans hl.1.symm) hown hlink hnat hstat hini hK hP hD hS q0 q1 t0 t1 ha0 ha1 ht0 ht1 rfl h1 h2 h3 h4 h5 (fun _ _ => rfl) hframes hlocals hd (fun H1 locs1 x1 x2 x3 => kk H1 locs1 ⟨x1, x2, x3⟩)
end CALLS
theorem WS.dropR {D : va_G} {s : State} {A0 : Nat → Prop} {w t : va_W} {H : Heap} {locs : List Loc} (h : WS D s A0 (w ++ t) H locs) : WS D s A0 w H locs := by
  have hg : ∀ (k : Nat) (q : Nat × va_E), w[k]? = some q → (w ++ t)[k]? = some q := fun k q hk => by
    rw [List.getElem?_append_left (List.getElem?_eq_some_iff.mp hk).1]
    exact hk
  exact ⟨fun k q hk => h.1 k q (hg k q hk), ⟨fun i j x y hi hj hxy => h.2.1.1 i j x y (hg i x hi) (hg j y hj) hxy, fun k q hk => h.2.1.2 k q (hg k q hk)⟩, h.2.2⟩
theorem nar01 {v : Int32} (h : v = 0 ∨ v = 1) : narrow .boolean (.int v) = .int v := by
  rcases h with rfl | rfl <;> rfl
theorem tsw {x : Int32} (n : Nat) (hn : n < 2 ^ 30) (h : ∀ i : Nat, i ≤ n → ¬ x = nI i) : x.toInt < ((0 : Nat) : Int) ∨ (n : Int) < x.toInt := by
  rcases Int.lt_or_le x.toInt 0 with h0 | h0
  · exact Or.inl h0
  · rcases Int.lt_or_le (n : Int) x.toInt with h1 | h1
    · exact Or.inr h1
    · exfalso
      refine h x.toInt.toNat (by omega) ?_
      apply Int32.toInt_inj.mp
      rw [nI_toInt (by omega)]
      omega
theorem gas0 {k g : Nat} (h : k ≤ g) : 9 * k + 0 ≤ 9 * g := by omega
theorem gas1 {k d g : Nat} (h : k + d ≤ g) : 9 * k + 9 * d ≤ 9 * g := by omega
theorem gas2 {k g : Nat} (h : k + 1 ≤ g) : 9 * k + 9 ≤ 9 * g := by omega
