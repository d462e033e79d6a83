abbrev xn : List String := ["java/lang/RuntimeException", "java/lang/Exception"]
abbrev XK : List (String × Nat × Nat) := [("java/lang/IllegalArgumentException", 23, 27), ("java/lang/IllegalStateException", 44, 48), ("java/lang/IndexOutOfBoundsException", 98, 102)]
def BADW : List Cond := ((vx_atS RX5 27 "java/lang/IllegalArgumentException" xn) ++ ((vx_atS RX5 48 "java/lang/IllegalStateException" xn) ++ (vx_atS RX5 102 "java/lang/IndexOutOfBoundsException" xn))).filter (fun w => !goodWord w)
def STRS : List (Nat × String) := [(25, "height is not 0 to 99"), (46, "there are 30 heights"), (52, "hour is less than 0"), (58, "height is not 0 to 99, or room is not 1 to 20"), (67, "there are 10 bins"), (72, "scrapers or sorters is not 0 to 9"), (80, "height is not 0 to 99, n is not 0 to 5, or lag is not 1 to 60"), (89, "there are 16 drowned"), (100, "no such one of the drowned"), (103, "weight is not 1 to 9, or seal is not 1 to 60"), (112, "there are 150 letters"), (116, "no such letter"), (123, "the letter is in no bin"), (133, "the bin is under water"), (139, "no such letter, or what is not 0 to 8"), (144, "no such one of the drowned, or what is not 0 to 4"), (147, "no such bin, or what is not 0 to 4"), (152, "hours is not 1 to 200"), (157, "what is not 0 to 12"), (168, "hours is not 1 to 100"), (170, "what is not 0 to 2"), (182, "no such one of the drowned, or no such bin")]
abbrev NCS : List (String × String) := [("java/lang/IllegalArgumentException", "java/lang/IllegalStateException"), ("java/lang/IllegalArgumentException", "java/lang/IndexOutOfBoundsException"), ("java/lang/IllegalStateException", "java/lang/IllegalArgumentException"), ("java/lang/IllegalStateException", "java/lang/IndexOutOfBoundsException"), ("java/lang/IndexOutOfBoundsException", "java/lang/IllegalArgumentException"), ("java/lang/IndexOutOfBoundsException", "java/lang/IllegalStateException")]
theorem badw_cast : ∀ x ∈ XK, Cond.castable x.1 x.1 ∈ BADW := by decide +kernel
theorem badw_tab : ∀ w ∈ BADW, w.onTables = true := by decide +kernel
theorem badw_warm : ∀ w ∈ BADW, w.warmB w.codeNames = true := by decide +kernel
theorem xk_ot : ∀ x ∈ XK, ∀ w ∈ Cond.classLink RX5 x.2.1 x.1 :: Cond.initialized x.1 :: vx_atS RX5 x.2.2 x.1 xn, vx_ot w = true := by decide +kernel
theorem xk_bad : ∀ x ∈ XK, ∀ w ∈ (vx_atS RX5 x.2.2 x.1 xn).filter (fun w => !goodWord w), w ∈ BADW := by decide +kernel
theorem xk_fit : ∀ x ∈ XK, Bundle.fit x.1 = true := by decide +kernel
theorem xn_fit : ∀ n ∈ xn, Bundle.fit n = true := by decide +kernel
def XP (A : Nat → Prop) (U : State) : Prop := vx_Zq Bundle.tN "UNASSIGNED_STACK" Bundle.steD A U U.heap ∧ vx_Zq Bundle.tN "SUPPRESSED_SENTINEL" Bundle.listD A U U.heap ∧ (∀ w ∈ BADW, w.before #[] U = true) ∧ (∀ q ∈ NCS, va_Nc q.1 q.2 U) ∧ ∀ q ∈ STRS, ∃ a : Nat, vk_R RX5 q.1 q.2 a U
theorem XP.go {A B : Nat → Prop} {s U : State} {H : Heap} {locs : List Loc} (h : XP A s) (hW : s.WarmedH U.vm) (hU : U.heap = H) (hS : va_S A s.heap H locs) (hB : ∀ q : Nat, B q → A q) : XP B U := by
  obtain ⟨h1, h2, h3, h5, h4⟩ := h
  refine ⟨?_, ?_, fun w hw => ?_, fun q hq => (h5 q hq).moved hW.alike, fun q hq => ?_⟩
  · rw [hU]; exact ((h1.moved hW.alike).kept hS.2.1).narrow hB
  · rw [hU]; exact ((h2.moved hW.alike).kept hS.2.1).narrow hB
  · exact va_tabs (badw_tab w hw) (rfl : (s.setVm U.vm).vm = U.vm) (Cond.pre_warmed hW (badw_warm w hw) (h3 w hw))
  · obtain ⟨a, ha⟩ := h4 q hq
    exact ⟨a, vk_R.warm hW ha⟩
theorem XP.calling {A : Nat → Prop} {U : State} {g : JFrame} {mk : MethodId} {a : Array Value} (h : XP A U) : XP A (U.calling g mk a) := by
  obtain ⟨h1, h2, h3, h5, h4⟩ := h
  exact ⟨vx_Zq.moved (Vm.Alike.refl U.vm) h1, vx_Zq.moved (Vm.Alike.refl U.vm) h2, fun w hw => va_tabs (badw_tab w hw) (u := U) (U := U.calling g mk a) rfl (h3 w hw), fun q hq => (h5 q hq).moved (Vm.Alike.refl U.vm), fun q hq => (h4 q hq).elim fun b hb => ⟨b, vk_R.same (u := U) rfl hb⟩⟩
def PcX (D : va_G) (tys : TYS) (ws : va_W) (sz : Nat) (av : List Value) : Array Value → State → Prop := va_Pc av (fun U => U.heap.size = sz ∧ va_P D vwCl ws U.heap ∧ va_K D vwCl tys U ∧ va_D (fun _ => True) ws ∧ XP (va_A ws sz) U)
abbrev XCW {S : Type} (D : va_G) (tys : TYS) (ws : va_W) (sz : Nat) (wsU : S → va_W) (QX : String → S → Prop) : String → State → State → Prop := vx_X (fun _ : S => True) (fun E u t => QX E u ∧ BpW D tys ws sz wsU u t) (va_A ws sz)
section PRX
variable {S : Type} {l : Launch} {y : MethodName} {wsY ws' : List Cond} {rm : Room} {D : va_G} {tys : TYS} {ws : va_W} {sz : Nat} {av : List Value} {wsU : S → va_W} {cc : ByteArray} {maxL : Nat}
theorem startX {post : Int32 → S → Prop} {QX : String → S → Prop} (hl : l.stackTraces = false) (hy : plainName y.cls = true) (hyc : y.cls = RX5) (hw : wsY = Cond.code y cc maxL (some .int) :: ws') (hav : (lg_sl av).length ≤ maxL) (hfr : 5 < rm.frames) (hlo : 90 ≤ rm.locals) (hc1 : 1 ≤ rm.cells) (hs6 : 6 ≤ rm.slots)
    (body : ∀ (p : Program) (e : Env) (s : State) (m : MethodId) (args : Array Value) (below : List Frame) (meth : Method) (c : Code) (A0 : Nat → Prop) (Z : State → Prop), CX RX5 cc maxL wsY D tys p s m args c A0 → WS D s A0 ws s.heap [] →
      (∀ (pc : Nat) (ls : Array Slot) (r : Int32) (u : S) (H : Heap) (locs : List Loc), narrow .int (.int r) = .int r → decode cc pc = .ok (.ireturn, 1) → post r u → WS D s A0 (wsU u) H locs → W p l e rm s m args below meth c H locs rm.cells rm.slots Z (F0 m pc ls [.int r])) →
      (∀ (cls : String) (ik ic : Nat), (cls, ik, ic) ∈ XK → (∀ w ∈ Cond.classLink RX5 ik cls :: Cond.initialized cls :: (vx_atS RX5 ic cls xn).filter goodWord, w ∈ wsY) → ∀ (is : Nat) (text : String), (is, text) ∈ STRS → ∀ (pc : Nat) (ls : Array Slot) (u : S) (H : Heap) (locs : List Loc), QX cls u → WS D s A0 (wsU u) H locs → ls.size = maxL →
        decode cc pc = .ok (.new ik, 3) → decode cc (pc + 3) = .ok (.dup, 1) → decode cc (pc + 4) = .ok (.ldc is, 2) → decode cc (pc + 6) = .ok (.invokespecial ic, 3) → decode cc (pc + 9) = .ok (.athrow, 1) → W p l e rm s m args below meth c H locs 0 0 Z (F0 m pc ls [])) →
      ∀ ls : Array Slot, lv_has ls maxL (lv_args 0 av) → W p l e rm s m args below meth c s.heap [] 0 0 Z (F0 m 0 ls [])) :
    vx_Met l y wsY rm (PcX D tys ws sz av) (QiW D tys ws sz wsU post) (XCW D tys ws sz wsU QX) rm.cells rm.slots (va_A ws sz) := by
  refine vx_ofW (cc := cc) (maxL := maxL) (ret := some .int) hy hw ?_
  intro p e s m args below meth c s₁ B hml hnx hv
  obtain ⟨rfl, hsz, hP, hK, hD0, hXP⟩ := hv
  have hts := atoms_spec (ws := wsY) B.pre
  have hown := findClass_of_methodNamed B.named
  rw [hyc] at hown
  subst hsz
  have hD := hD0.self (sz := s.heap.size)
  have hl0 := lv_entry av (n := maxL) hav
  rw [lg_entry_eq]
  refine body p e s m _ below meth c (va_A ws s.heap.size) _ ⟨B.exec, B.bytes, hml, hown, hts, hK, fun q h => Or.inr h⟩ ⟨hP, hD, va_S.rf⟩ ?_ ?_ _ hl0
  · intro pc ls r u H locs hn hd hpost hws
    exact vx_ret (W.zret (ty := .int) B.exec B.bytes B.returns hn (fun t ht hW => ⟨⟨r, u, rfl, hpost, by rw [ht]; exact hws.1, va_K.moved hW.alike hK, hws.2.1⟩, hws.2.2.F ht⟩) hws.2.2.2.2 hd)
  · intro cls ik ic hx hin is text hstr pc ls u H locs hq hws hsize d0 d3 d4 d6 d9
    obtain ⟨hU, hN, hbad, -, hst⟩ := hXP
    obtain ⟨sa, hsa⟩ := hst _ hstr
    have hS := hws.2.2
    refine vx_throwS (names := xn) B.exec B.bytes hl hown (xk_fit _ hx) xn_fit (hts _ (hin _ List.mem_cons_self)) (hts _ (hin _ (List.mem_cons_of_mem _ List.mem_cons_self))) hsa (vx_hat (fun w hw => hts w (hin w (List.mem_cons_of_mem _ (List.mem_cons_of_mem _ hw)))) (xk_bad _ hx) (fun w hw => va_tabs (badw_tab w hw) (u := s) (U := s) rfl (hbad w hw))) (xk_ot _ hx) hU hN hS (hsize.trans hml.symm) d0 d3 d4 d6 d9 (fun x hx => (hnx x hx).elim) (by exact hfr) (by show 0 + _ ≤ rm.locals; exact Nat.le_trans (by decide) hlo) (by show 0 + 1 ≤ rm.cells; omega) (by show 0 + 6 ≤ rm.slots; omega) B.notSynchronized ?_ hS.2.2 (by omega) (by omega)
    intro t hvm hsz hk
    refine ⟨u, trivial, ⟨hq, hws.1.kept (fun k q hq => hk q.1 (hws.1 k q hq).lt), va_K.moved hvm hK, hws.2.1⟩, Nat.le_trans hS.1 hsz, fun q h1 h2 => ?_⟩
    rw [hk q (Nat.lt_of_lt_of_le h1 hS.1)]
    exact hS.2.1 q h1 h2
end PRX
