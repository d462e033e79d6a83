def wL (xa oa : Nat) (ad ad2 : Nat → Nat) (cI cZ cJ : ClassId) (A : SA) (V : SV) (A2 : SA) (V2 : SV) (o : Nat → Int64) : va_W := wD xa ad ad2 cI cZ A V A2 V2 ++ [(oa, .inl (cJ, 1, .inr (.inl o)))]
abbrev tysL (cI cZ cJ : ClassId) : TYS := [(cI, .int), (cZ, .boolean), (cJ, .long)]
section WL
variable {S : Type} {own C : String} {cc : ByteArray} {nL : Nat} {Ts : List Cond} {D : va_G} {tys tysC : TYS} {p : Program} {l : Launch} {e : Env} {R : Room} {s : State} {m : MethodId} {args : Array Value} {below : List Frame} {meth : Method} {c : Code} {A0 : Nat → Prop} {H : Heap} {locs : List Loc} {cells slots : Nat} {Z : State → Prop} {ws wc : va_W} {wcU wsU : S → va_W}
variable {y : MethodName} {wsY ws' : List Cond} {rm rmY : Room} {bytes : ByteArray} {maxL n index mc ms : Nat} {ret : Option FieldType} {av : List Value} {b : Addr} {pc : Nat} {ls : Array Slot} {lv : List (Nat × Value)} {st0 rest : List Value} {q : vw_C} {ci : Nat} {fs : List Value} {sz : Nat}
variable {xa oa : Nat} {ad ad2 : Nat → Nat} {cI cZ cJ : ClassId} {A : SA} {V : SV} {A2 : SA} {V2 : SV} {o : Nat → Int64}
theorem subL : SUB (wL xa oa ad ad2 cI cZ cJ A V A2 V2 o) (wD xa ad ad2 cI cZ A V A2 V2) := SUB.by [0, 1, 2, 3, 4, 5, 6, 7, 8, 9, 10, 11, 12, 13, 14, 15, 16, 17, 18, 19, 20, 21, 22, 23, 24, 25, 26, 27, 28, 29, 30, 31, 32, 33, 34, 35, 36, 37, 38, 39, 40, 41, 42, 43, 44, 45, 46, 47, 48, 49, 50] (by decide) rfl
theorem jnL : JN D (wL xa oa ad ad2 cI cZ cJ A V A2 V2 o) (wD xa ad ad2 cI cZ A V A2 V2) (fun u : SA × SV × SA × SV => wD xa ad ad2 cI cZ u.1 u.2.1 u.2.2.1 u.2.2.2) (fun u => wL xa oa ad ad2 cI cZ cJ u.1 u.2.1 u.2.2.1 u.2.2.2 o) := JN.by (wr := [(oa, .inl (cJ, 1, .inr (.inl o)))]) [0, 1, 2, 3, 4, 5, 6, 7, 8, 9, 10, 11, 12, 13, 14, 15, 16, 17, 18, 19, 20, 21, 22, 23, 24, 25, 26, 27, 28, 29, 30, 31, 32, 33, 34, 35, 36, 37, 38, 39, 40, 41, 42, 43, 44, 45, 46, 47, 48, 49, 50] [51] rfl rfl (by decide) (by decide) ([1, 2, 3, 4, 5, 6, 7, 8, 9, 10, 11, 12, 13, 14, 15, 16, 17, 18, 19, 20, 21, 22, 23, 24, 25, 26, 27, 28, 29, 30, 31, 32, 33, 34, 35, 36, 37, 38, 39, 40, 41, 42, 43, 44, 45, 46, 47, 48, 49, 50, 51] ++ [0]) (by decide) (fun _ => rfl)
theorem asL (cx : CX own cc nL Ts D (tysL cI cZ cJ) p s m args c A0) (hw : WS D s A0 (wL xa oa ad ad2 cI cZ cJ A V A2 V2 o) H locs) {x : Int64} (hd : decode cc pc = .ok (.lastore, 1))
    (kk : ∀ (H1 : Heap) (locs1 : List Loc), WS D s A0 (wL xa oa ad ad2 cI cZ cJ A V A2 V2 (vp_updL o 0 x)) H1 locs1 → W p l e R s m args below meth c H1 locs1 cells slots Z (F0 m (pc + 1) ls rest)) : W p l e R s m args below meth c H locs cells slots Z (F0 m pc ls (.long x :: .int 0 :: .ref oa :: rest)) :=
  va_last cx.1 cx.2.1 cx.2.2.2.2.2.1 hw.1 hw.2.1 hw.2.2 51 2 (f := o) (n := 1) (cA := cJ) (a := oa) rfl rfl (vp_in_iff.mpr (by decide)) hd (fun H1 locs1 h1 h2 h3 => kk H1 locs1 ⟨h1, h2, h3⟩)
theorem callXi {post : Int32 → S → Prop} {QX : String → S → Prop} (cx : CX own cc nL Ts D tys p s m args c A0) (hw : WS D s A0 ws H locs) (hls : lv_has ls nL lv) (hXP : XP A0 s)
    (hM : vx_Met l y wsY rmY (PcX D tysC wc H.size (.ref b :: av)) (QiW D tysC wc H.size wcU post) (XCW D tysC wc H.size wcU QX) mc ms (va_A wc H.size))
    (cw : (∀ w ∈ Ts, w.before args s = true) → CallW R s args own C index y bytes maxL ret wsY rmY mc ms n) (hsub : SUB ws wc) (ist : List Nat) (hT : ist.filterMap (fun i => tys[i]?) = tysC)
    (q0 : Nat) (hc : vwCl[ci]? = some q) (hqC : q.1 = C) (he : wc[q0]? = some (b, .inr (ci, fs))) (hjn : JN D ws wc wcU wsU) (hn : av.length = n) (hst : st0 = av.reverse ++ .ref b :: rest) (hroom : (rest.map fun v => v.category).sum ≤ 8) (hf : cells + mc ≤ R.cells ∧ slots + ms ≤ R.slots) {c1 s1 : Nat} (hc1 : cells + mc = c1) (hs1 : slots + ms = s1) (hd : decode cc pc = .ok (.invokevirtual index, 3))
    (kx : ∀ (E : String) (ce : Cell) (q9 : Addr) (u : S) (H1 : Heap) (locs1 : List Loc), QX E u → WS D s A0 (wsU u) H1 locs1 → H1[q9]? = some ce → ce.vm = .none → s.vm.findClass E = some ce.cls → vx_W p l e R s m args below meth c H1 locs1 c1 s1 Z (F0 m pc ls rest) q9)
    (kk : ∀ (r : Int32) (u : S) (H1 : Heap) (locs1 : List Loc), post r u → WS D s A0 (wsU u) H1 locs1 → W p l e R s m args below meth c H1 locs1 c1 s1 Z (F0 m (pc + 3) ls (.int r :: rest))) : W p l e R s m args below meth c H locs cells slots Z (F0 m pc ls st0) := by
  subst hc1
  subst hs1
  obtain ⟨hx, hb, hml, hown, hts, hK, hA⟩ := cx
  obtain ⟨hP, hD, hS⟩ := hw
  have hPc := hsub.P hP
  have hDc := hsub.2 _ hD
  have hKc := hK.sub ist hT
  have hFc := hsub.F hD hS hA
  refine vx_calli (vx_runV (As := av) (rest := rest) ⟨hx, hb, hml, hown, hts⟩ hM (cw hts) ⟨fun a U g mk q => by obtain ⟨q0, q1, qP, qK, qD, qX⟩ := q; exact ⟨q0, q1, qP, va_K.moved (u := U) (U := U.calling g mk a) (Vm.Alike.refl U.vm) qK, qD, qX.calling⟩, hqC ▸ va_recv hKc hPc hc he, fun U hU hW => ⟨rfl, by rw [hU], by rw [hU]; exact hPc, va_K.moved hW.alike hKc, hDc.weaken (fun _ _ _ _ => trivial), hXP.go hW hU hS hFc⟩⟩ rfl hn hls.1 hst (lv_room hroom) hd hf) hS (fun q _ h => hFc q h) hFc (fun q _ h => hFc q h) (fun E ce q9 u t H1 locs1 ht hvm hp hB hz1 hk1 hS1 hce hcv hcl => ?_) (fun r u t H1 locs1 ht hvm hw hB hz1 hk1 hS1 => ?_)
  · obtain ⟨hq, hP1, hK1, hD1⟩ := hB
    rw [ht] at hP1
    obtain ⟨h1, h2⟩ := hjn A0 H H1 u hP hD hk1 hFc hP1 hD1
    exact kx E ce q9 u H1 locs1 hq ⟨h1, h2, hS1⟩ hce hcv hcl
  · obtain ⟨hP1, hK1, hD1⟩ := hB
    rw [ht] at hP1
    obtain ⟨h1, h2⟩ := hjn A0 H H1 u hP hD hk1 hFc hP1 hD1
    exact kk r u H1 locs1 hw ⟨h1, h2, hS1⟩
theorem startLW {hh : List (Nat × Nat × Nat × Nat)} {post : Int32 → S → Prop} (hy : plainName y.cls = true) (hw : wsY = Cond.codeWith y cc maxL (some .int) hh :: ws') (hav : (lg_sl av).length ≤ maxL)
    (body : ∀ (p : Program) (e : Env) (s : State) (m : MethodId) (args : Array Value) (below : List Frame) (meth : Method) (c : Code) (A0 : Nat → Prop) (Z : State → Prop), CX y.cls cc maxL wsY D tys p s m args c A0 → WS D s A0 ws s.heap [] → XP A0 s → c.exceptionTable.toList = tableOf hh →
      (∀ (pc : Nat) (ls : Array Slot) (r : Int32) (u : S) (H : Heap) (locs : List Loc), decode cc pc = .ok (.ireturn, 1) → post r u → WS D s A0 (wsU u) H locs → W p l e rm s m args below meth c H locs rm.cells rm.slots Z (F0 m pc ls [.int r])) →
      ∀ ls : Array Slot, lv_has ls maxL (lv_args 0 av) → W p l e rm s m args below meth c s.heap [] 0 0 Z (F0 m 0 ls [])) :
    Met l y wsY rm (PcX D tys ws sz av) (QiW D tys ws sz wsU post) rm.cells rm.slots (va_A ws sz) := by
  refine va_MetW (cc := cc) (maxL := maxL) (ret := some .int) hy hw ?_
  intro p e s m args below meth c s₁ B hml hv
  obtain ⟨rfl, hsz, hP, hK, hD0, hXP⟩ := hv
  have hts := atoms_spec (ws := wsY) B.pre
  have hown := findClass_of_methodNamed B.named
  have htab := vx_table (x := y) B (hts _ (by rw [hw]; exact List.mem_cons_self))
  subst hsz
  have hD := hD0.self (sz := s.heap.size)
  have hl := lv_entry av (n := maxL) hav
  rw [lg_entry_eq]
  refine body p e s m _ below meth c (va_A ws s.heap.size) _ ⟨B.exec, B.bytes, hml, hown, hts, hK, fun q h => Or.inr h⟩ ⟨hP, hD, va_S.rf⟩ hXP htab ?_ _ hl
  intro pc ls r u H locs hd hpost hws
  exact W.iret B.exec B.bytes B.returns (fun t ht hW => ⟨⟨r, u, rfl, hpost, by rw [ht]; exact hws.1, va_K.moved hW.alike hK, hws.2.1⟩, hws.2.2.F ht⟩) hws.2.2.2.2 hd
end WL
abbrev rmL_beginTides : Room := { frames := 7, cells := 1, slots := 6, locals := 122 }
theorem kL_beginTides_13 : Cond.classLink RL 13 "java/lang/IllegalArgumentException" ∈ wsL_beginTides := by decide +kernel
def wpL_beginTides (A : SA) (V : SV) (A2 : SA) (V2 : SV) (o : Nat → Int64) (x1 : Int32) (Q : Int32 → SA → SV → SA → SV → (Nat → Int64) → Prop) : Prop := wpX5_beginTides A V A2 V2 x1 (fun r B W B2 W2 => Q 0 B W B2 W2 (vp_updL o 0 r.toInt64)) (fun E B W B2 W2 => (E = "java/lang/IllegalArgumentException" ∧ Q 1 B W B2 W2 o))
set_option maxHeartbeats 4000000 in
set_option maxRecDepth 100000 in
theorem metL_beginTides (l : Launch) (hlt : l.stackTraces = false) (D : va_G) (cI cZ cJ : ClassId) (xa oa : Nat) (ad ad2 : Nat → Nat) (sz : Nat) (A : SA) (V : SV) (A2 : SA) (V2 : SV) (o : Nat → Int64) (x1 : Int32) (Q : Int32 → SA → SV → SA → SV → (Nat → Int64) → Prop) (h : wpL_beginTides A V A2 V2 o x1 Q) : Met l yL_beginTides wsL_beginTides rmL_beginTides (PcX D (tysL cI cZ cJ) (wL xa oa ad ad2 cI cZ cJ A V A2 V2 o) sz [.ref xa, .int x1, .ref oa]) (QiW D (tysL cI cZ cJ) (wL xa oa ad ad2 cI cZ cJ A V A2 V2 o) sz (fun u : SA × SV × SA × SV × (Nat → Int64) => wL xa oa ad ad2 cI cZ cJ u.1 u.2.1 u.2.2.1 u.2.2.2.1 u.2.2.2.2) (fun r u => Q r u.1 u.2.1 u.2.2.1 u.2.2.2.1 u.2.2.2.2)) rmL_beginTides.cells rmL_beginTides.slots (va_A (wL xa oa ad ad2 cI cZ cJ A V A2 V2 o) sz) := by
  refine startLW (by decide) rfl (Nat.le_of_ble_eq_true rfl) ?_
  intro p e s m args below meth c A0 Z cx hw hXP htab hret ls hl
  obtain ⟨hx, hb, hml, hown, hts, hK, hA⟩ := id cx
  have hl : lv_has ls 4 [(0, .ref xa), (1, .int x1), (2, .ref oa)] := hl
  refine lv_aload_n (pc := 0) hx hb dL_beginTides_0 rfl (lv_at hl 2 rfl) ?_
  refine lv_iconst (pc := 1) (v := (0 : Int32)) hx hb dL_beginTides_1 (by decide) ?_
  refine lv_aload_n (pc := 2) hx hb dL_beginTides_2 rfl (lv_at hl 0 rfl) ?_
  refine lv_iload_n (pc := 3) hx hb dL_beginTides_3 rfl (lv_at hl 1 rfl) ?_
  refine callXi (pc := 4) (rest := [.int 0, .ref oa]) (c1 := 1) (s1 := 6) cx hw hl hXP (metX5_beginTides l hlt D cI cZ xa ad ad2 s.heap.size A V A2 V2 x1 _ _ h) (fun hts => cwV 1 hts gL_beginTides_X5_beginTides rfl rfl rfl (by decide +kernel) ⟨Nat.le_of_ble_eq_true rfl, Nat.le_of_ble_eq_true rfl⟩) subL [0, 1] rfl 0 (ci := 5) rfl rfl rfl jnL rfl rfl (Nat.le_of_ble_eq_true rfl) ⟨Nat.le_of_ble_eq_true rfl, Nat.le_of_ble_eq_true rfl⟩ rfl rfl dL_beginTides_4 (fun E ce q9 u H locs h hw hce hcv hcl => ?_) (fun r u H locs h hw => ?_)
  · obtain ⟨B, W9, B2, W2⟩ := u
    obtain ⟨rfl, h⟩ := h
    · refine vx_catch (pc := 4) (own := RL) (name := "java/lang/IllegalArgumentException") hown [] ⟨0, 9, 12, 13⟩ [] htab (fun z hz => by cases hz) rfl (by decide) (hts _ kL_beginTides_13) (va_tabs (badw_tab _ (badw_cast ("java/lang/IllegalArgumentException", (23, 27)) (by decide))) (u := s) (U := s) rfl (hXP.2.2.1 _ (badw_cast ("java/lang/IllegalArgumentException", (23, 27)) (by decide)))) hce hcv hcl ?_
      refine lv_astore_n (pc := 12) (lv' := [(3, .ref q9), (0, .ref xa), (1, .int x1), (2, .ref oa)]) hx hb dL_beginTides_12 rfl hl (by decide) rfl (fun ls hl => ?_)
      refine lv_iconst (pc := 13) (v := (1 : Int32)) hx hb dL_beginTides_13 (by decide) ?_
      exact hret 14 _ _ (B, W9, B2, W2, o) _ _ dL_beginTides_14 h hw
  · obtain ⟨B, W9, B2, W2⟩ := u
    refine lv_i2l (pc := 7) (v := r.toInt64) hx hb dL_beginTides_7 rfl ?_
    refine asL (pc := 8) cx hw dL_beginTides_8 (fun H locs hw => ?_)
    refine lv_goto (pc := 9) (tgt := 15) hx hb dL_beginTides_9 (by decide) ?_
    refine lv_iconst (pc := 15) (v := (0 : Int32)) hx hb dL_beginTides_15 (by decide) ?_
    exact hret 16 _ _ (B, W9, B2, W2, vp_updL o 0 r.toInt64) _ _ dL_beginTides_16 h hw
abbrev rmL_addTide : Room := { frames := 7, cells := 1, slots := 6, locals := 121 }
theorem kL_addTide_13 : Cond.classLink RL 13 "java/lang/IllegalArgumentException" ∈ wsL_addTide := by decide +kernel
theorem kL_addTide_18 : Cond.classLink RL 18 "java/lang/IllegalStateException" ∈ wsL_addTide := by decide +kernel
def wpL_addTide (A : SA) (V : SV) (A2 : SA) (V2 : SV) (o : Nat → Int64) (x1 : Int32) (Q : Int32 → SA → SV → SA → SV → (Nat → Int64) → Prop) : Prop := wpX5_addTide A V A2 V2 x1 (fun r B W B2 W2 => Q 0 B W B2 W2 (vp_updL o 0 r.toInt64)) (fun E B W B2 W2 => (E = "java/lang/IllegalArgumentException" ∧ Q 1 B W B2 W2 o) ∨ (E = "java/lang/IllegalStateException" ∧ Q 2 B W B2 W2 o))
set_option maxHeartbeats 4000000 in
set_option maxRecDepth 100000 in
theorem metL_addTide (l : Launch) (hlt : l.stackTraces = false) (D : va_G) (cI cZ cJ : ClassId) (xa oa : Nat) (ad ad2 : Nat → Nat) (sz : Nat) (A : SA) (V : SV) (A2 : SA) (V2 : SV) (o : Nat → Int64) (x1 : Int32) (Q : Int32 → SA → SV → SA → SV → (Nat → Int64) → Prop) (h : wpL_addTide A V A2 V2 o x1 Q) : Met l yL_addTide wsL_addTide rmL_addTide (PcX D (tysL cI cZ cJ) (wL xa oa ad ad2 cI cZ cJ A V A2 V2 o) sz [.ref xa, .int x1, .ref oa]) (QiW D (tysL cI cZ cJ) (wL xa oa ad ad2 cI cZ cJ A V A2 V2 o) sz (fun u : SA × SV × SA × SV × (Nat → Int64) => wL xa oa ad ad2 cI cZ cJ u.1 u.2.1 u.2.2.1 u.2.2.2.1 u.2.2.2.2) (fun r u => Q r u.1 u.2.1 u.2.2.1 u.2.2.2.1 u.2.2.2.2)) rmL_addTide.cells rmL_addTide.slots (va_A (wL xa oa ad ad2 cI cZ cJ A V A2 V2 o) sz) := by
  refine startLW (by decide) rfl (Nat.le_of_ble_eq_true rfl) ?_
  intro p e s m args below meth c A0 Z cx hw hXP htab hret ls hl
  obtain ⟨hx, hb, hml, hown, hts, hK, hA⟩ := id cx
  have hl : lv_has ls 4 [(0, .ref xa), (1, .int x1), (2, .ref oa)] := hl
  refine lv_aload_n (pc := 0) hx hb dL_addTide_0 rfl (lv_at hl 2 rfl) ?_
  refine lv_iconst (pc := 1) (v := (0 : Int32)) hx hb dL_addTide_1 (by decide) ?_
  refine lv_aload_n (pc := 2) hx hb dL_addTide_2 rfl (lv_at hl 0 rfl) ?_
  refine lv_iload_n (pc := 3) hx hb dL_addTide_3 rfl (lv_at hl 1 rfl) ?_
  refine callXi (pc := 4) (rest := [.int 0, .ref oa]) (c1 := 1) (s1 := 6) cx hw hl hXP (metX5_addTide l hlt D cI cZ xa ad ad2 s.heap.size A V A2 V2 x1 _ _ h) (fun hts => cwV 1 hts gL_addTide_X5_addTide rfl rfl rfl (by decide +kernel) ⟨Nat.le_of_ble_eq_true rfl, Nat.le_of_ble_eq_true rfl⟩) subL [0, 1] rfl 0 (ci := 5) rfl rfl rfl jnL rfl rfl (Nat.le_of_ble_eq_true rfl) ⟨Nat.le_of_ble_eq_true rfl, Nat.le_of_ble_eq_true rfl⟩ rfl rfl dL_addTide_4 (fun E ce q9 u H locs h hw hce hcv hcl => ?_) (fun r u H locs h hw => ?_)
  · obtain ⟨B, W9, B2, W2⟩ := u
    rcases h with ⟨rfl, h⟩ | ⟨rfl, h⟩
    · refine vx_catch (pc := 4) (own := RL) (name := "java/lang/IllegalArgumentException") hown [] ⟨0, 9, 12, 13⟩ [⟨0, 9, 15, 18⟩] htab (fun z hz => by cases hz) rfl (by decide) (hts _ kL_addTide_13) (va_tabs (badw_tab _ (badw_cast ("java/lang/IllegalArgumentException", (23, 27)) (by decide))) (u := s) (U := s) rfl (hXP.2.2.1 _ (badw_cast ("java/lang/IllegalArgumentException", (23, 27)) (by decide)))) hce hcv hcl ?_
      refine lv_astore_n (pc := 12) (lv' := [(3, .ref q9), (0, .ref xa), (1, .int x1), (2, .ref oa)]) hx hb dL_addTide_12 rfl hl (by decide) rfl (fun ls hl => ?_)
      refine lv_iconst (pc := 13) (v := (1 : Int32)) hx hb dL_addTide_13 (by decide) ?_
      exact hret 14 _ _ (B, W9, B2, W2, o) _ _ dL_addTide_14 h hw
    · refine vx_catch (pc := 4) (own := RL) (name := "java/lang/IllegalStateException") hown [⟨0, 9, 12, 13⟩] ⟨0, 9, 15, 18⟩ [] htab (fun z hz => by
        rcases List.mem_cons.mp hz with rfl | hz
        · exact Or.inr ⟨by decide, "java/lang/IllegalArgumentException", hts _ kL_addTide_13, hXP.2.2.2.1 ("java/lang/IllegalStateException", "java/lang/IllegalArgumentException") (by decide)⟩
        cases hz) rfl (by decide) (hts _ kL_addTide_18) (va_tabs (badw_tab _ (badw_cast ("java/lang/IllegalStateException", (44, 48)) (by decide))) (u := s) (U := s) rfl (hXP.2.2.1 _ (badw_cast ("java/lang/IllegalStateException", (44, 48)) (by decide)))) hce hcv hcl ?_
      refine lv_astore_n (pc := 15) (lv' := [(3, .ref q9), (0, .ref xa), (1, .int x1), (2, .ref oa)]) hx hb dL_addTide_15 rfl hl (by decide) rfl (fun ls hl => ?_)
      refine lv_iconst (pc := 16) (v := (2 : Int32)) hx hb dL_addTide_16 (by decide) ?_
      exact hret 17 _ _ (B, W9, B2, W2, o) _ _ dL_addTide_17 h hw
  · obtain ⟨B, W9, B2, W2⟩ := u
    refine lv_i2l (pc := 7) (v := r.toInt64) hx hb dL_addTide_7 rfl ?_
    refine asL (pc := 8) cx hw dL_addTide_8 (fun H locs hw => ?_)
    refine lv_goto (pc := 9) (tgt := 18) hx hb dL_addTide_9 (by decide) ?_
    refine lv_iconst (pc := 18) (v := (0 : Int32)) hx hb dL_addTide_18 (by decide) ?_
    exact hret 19 _ _ (B, W9, B2, W2, vp_updL o 0 r.toInt64) _ _ dL_addTide_19 h hw
abbrev rmL_tide : Room := { frames := 7, cells := 1, slots := 6, locals := 121 }
theorem kL_tide_13 : Cond.classLink RL 13 "java/lang/IllegalArgumentException" ∈ wsL_tide := by decide +kernel
def wpL_tide (A : SA) (V : SV) (A2 : SA) (V2 : SV) (o : Nat → Int64) (x1 : Int32) (Q : Int32 → SA → SV → SA → SV → (Nat → Int64) → Prop) : Prop := wpX5_tide A V A2 V2 x1 (fun r B W B2 W2 => Q 0 B W B2 W2 (vp_updL o 0 r.toInt64)) (fun E B W B2 W2 => (E = "java/lang/IllegalArgumentException" ∧ Q 1 B W B2 W2 o))
set_option maxHeartbeats 4000000 in
set_option maxRecDepth 100000 in
theorem metL_tide (l : Launch) (hlt : l.stackTraces = false) (D : va_G) (cI cZ cJ : ClassId) (xa oa : Nat) (ad ad2 : Nat → Nat) (sz : Nat) (A : SA) (V : SV) (A2 : SA) (V2 : SV) (o : Nat → Int64) (x1 : Int32) (Q : Int32 → SA → SV → SA → SV → (Nat → Int64) → Prop) (h : wpL_tide A V A2 V2 o x1 Q) : Met l yL_tide wsL_tide rmL_tide (PcX D (tysL cI cZ cJ) (wL xa oa ad ad2 cI cZ cJ A V A2 V2 o) sz [.ref xa, .int x1, .ref oa]) (QiW D (tysL cI cZ cJ) (wL xa oa ad ad2 cI cZ cJ A V A2 V2 o) sz (fun u : SA × SV × SA × SV × (Nat → Int64) => wL xa oa ad ad2 cI cZ cJ u.1 u.2.1 u.2.2.1 u.2.2.2.1 u.2.2.2.2) (fun r u => Q r u.1 u.2.1 u.2.2.1 u.2.2.2.1 u.2.2.2.2)) rmL_tide.cells rmL_tide.slots (va_A (wL xa oa ad ad2 cI cZ cJ A V A2 V2 o) sz) := by
  refine startLW (by decide) rfl (Nat.le_of_ble_eq_true rfl) ?_
  intro p e s m args below meth c A0 Z cx hw hXP htab hret ls hl
  obtain ⟨hx, hb, hml, hown, hts, hK, hA⟩ := id cx
  have hl : lv_has ls 4 [(0, .ref xa), (1, .int x1), (2, .ref oa)] := hl
  refine lv_aload_n (pc := 0) hx hb dL_tide_0 rfl (lv_at hl 2 rfl) ?_
  refine lv_iconst (pc := 1) (v := (0 : Int32)) hx hb dL_tide_1 (by decide) ?_
  refine lv_aload_n (pc := 2) hx hb dL_tide_2 rfl (lv_at hl 0 rfl) ?_
  refine lv_iload_n (pc := 3) hx hb dL_tide_3 rfl (lv_at hl 1 rfl) ?_
  refine callXi (pc := 4) (rest := [.int 0, .ref oa]) (c1 := 1) (s1 := 6) cx hw hl hXP (metX5_tide l hlt D cI cZ xa ad ad2 s.heap.size A V A2 V2 x1 _ _ h) (fun hts => cwV 1 hts gL_tide_X5_tide rfl rfl rfl (by decide +kernel) ⟨Nat.le_of_ble_eq_true rfl, Nat.le_of_ble_eq_true rfl⟩) subL [0, 1] rfl 0 (ci := 5) rfl rfl rfl jnL rfl rfl (Nat.le_of_ble_eq_true rfl) ⟨Nat.le_of_ble_eq_true rfl, Nat.le_of_ble_eq_true rfl⟩ rfl rfl dL_tide_4 (fun E ce q9 u H locs h hw hce hcv hcl => ?_) (fun r u H locs h hw => ?_)
  · obtain ⟨B, W9, B2, W2⟩ := u
    obtain ⟨rfl, h⟩ := h
    · refine vx_catch (pc := 4) (own := RL) (name := "java/lang/IllegalArgumentException") hown [] ⟨0, 9, 12, 13⟩ [] htab (fun z hz => by cases hz) rfl (by decide) (hts _ kL_tide_13) (va_tabs (badw_tab _ (badw_cast ("java/lang/IllegalArgumentException", (23, 27)) (by decide))) (u := s) (U := s) rfl (hXP.2.2.1 _ (badw_cast ("java/lang/IllegalArgumentException", (23, 27)) (by decide)))) hce hcv hcl ?_
      refine lv_astore_n (pc := 12) (lv' := [(3, .ref q9), (0, .ref xa), (1, .int x1), (2, .ref oa)]) hx hb dL_tide_12 rfl hl (by decide) rfl (fun ls hl => ?_)
      refine lv_iconst (pc := 13) (v := (1 : Int32)) hx hb dL_tide_13 (by decide) ?_
      exact hret 14 _ _ (B, W9, B2, W2, o) _ _ dL_tide_14 h hw
  · obtain ⟨B, W9, B2, W2⟩ := u
    refine lv_i2l (pc := 7) (v := r.toInt64) hx hb dL_tide_7 rfl ?_
    refine asL (pc := 8) cx hw dL_tide_8 (fun H locs hw => ?_)
    refine lv_goto (pc := 9) (tgt := 15) hx hb dL_tide_9 (by decide) ?_
    refine lv_iconst (pc := 15) (v := (0 : Int32)) hx hb dL_tide_15 (by decide) ?_
    exact hret 16 _ _ (B, W9, B2, W2, vp_updL o 0 r.toInt64) _ _ dL_tide_16 h hw
abbrev rmL_addBin : Room := { frames := 7, cells := 1, slots := 6, locals := 122 }
theorem kL_addBin_13 : Cond.classLink RL 13 "java/lang/IllegalArgumentException" ∈ wsL_addBin := by decide +kernel
theorem kL_addBin_18 : Cond.classLink RL 18 "java/lang/IllegalStateException" ∈ wsL_addBin := by decide +kernel
def wpL_addBin (A : SA) (V : SV) (A2 : SA) (V2 : SV) (o : Nat → Int64) (x1 : Int32) (x2 : Int32) (Q : Int32 → SA → SV → SA → SV → (Nat → Int64) → Prop) : Prop := wpX5_addBin A V A2 V2 x1 x2 (fun r B W B2 W2 => Q 0 B W B2 W2 (vp_updL o 0 r.toInt64)) (fun E B W B2 W2 => (E = "java/lang/IllegalArgumentException" ∧ Q 1 B W B2 W2 o) ∨ (E = "java/lang/IllegalStateException" ∧ Q 2 B W B2 W2 o))
set_option maxHeartbeats 4000000 in
set_option maxRecDepth 100000 in
theorem metL_addBin (l : Launch) (hlt : l.stackTraces = false) (D : va_G) (cI cZ cJ : ClassId) (xa oa : Nat) (ad ad2 : Nat → Nat) (sz : Nat) (A : SA) (V : SV) (A2 : SA) (V2 : SV) (o : Nat → Int64) (x1 : Int32) (x2 : Int32) (Q : Int32 → SA → SV → SA → SV → (Nat → Int64) → Prop) (h : wpL_addBin A V A2 V2 o x1 x2 Q) : Met l yL_addBin wsL_addBin rmL_addBin (PcX D (tysL cI cZ cJ) (wL xa oa ad ad2 cI cZ cJ A V A2 V2 o) sz [.ref xa, .int x1, .int x2, .ref oa]) (QiW D (tysL cI cZ cJ) (wL xa oa ad ad2 cI cZ cJ A V A2 V2 o) sz (fun u : SA × SV × SA × SV × (Nat → Int64) => wL xa oa ad ad2 cI cZ cJ u.1 u.2.1 u.2.2.1 u.2.2.2.1 u.2.2.2.2) (fun r u => Q r u.1 u.2.1 u.2.2.1 u.2.2.2.1 u.2.2.2.2)) rmL_addBin.cells rmL_addBin.slots (va_A (wL xa oa ad ad2 cI cZ cJ A V A2 V2 o) sz) := by
  refine startLW (by decide) rfl (Nat.le_of_ble_eq_true rfl) ?_
  intro p e s m args below meth c A0 Z cx hw hXP htab hret ls hl
  obtain ⟨hx, hb, hml, hown, hts, hK, hA⟩ := id cx
  have hl : lv_has ls 5 [(0, .ref xa), (1, .int x1), (2, .int x2), (3, .ref oa)] := hl
  refine lv_aload_n (pc := 0) hx hb dL_addBin_0 rfl (lv_at hl 3 rfl) ?_
  refine lv_iconst (pc := 1) (v := (0 : Int32)) hx hb dL_addBin_1 (by decide) ?_
  refine lv_aload_n (pc := 2) hx hb dL_addBin_2 rfl (lv_at hl 0 rfl) ?_
  refine lv_iload_n (pc := 3) hx hb dL_addBin_3 rfl (lv_at hl 1 rfl) ?_
  refine lv_iload_n (pc := 4) hx hb dL_addBin_4 rfl (lv_at hl 2 rfl) ?_
  refine callXi (pc := 5) (rest := [.int 0, .ref oa]) (c1 := 1) (s1 := 6) cx hw hl hXP (metX5_addBin l hlt D cI cZ xa ad ad2 s.heap.size A V A2 V2 x1 x2 _ _ h) (fun hts => cwV 2 hts gL_addBin_X5_addBin rfl rfl rfl (by decide +kernel) ⟨Nat.le_of_ble_eq_true rfl, Nat.le_of_ble_eq_true rfl⟩) subL [0, 1] rfl 0 (ci := 5) rfl rfl rfl jnL rfl rfl (Nat.le_of_ble_eq_true rfl) ⟨Nat.le_of_ble_eq_true rfl, Nat.le_of_ble_eq_true rfl⟩ rfl rfl dL_addBin_5 (fun E ce q9 u H locs h hw hce hcv hcl => ?_) (fun r u H locs h hw => ?_)
  · obtain ⟨B, W9, B2, W2⟩ := u
    rcases h with ⟨rfl, h⟩ | ⟨rfl, h⟩
    · refine vx_catch (pc := 5) (own := RL) (name := "java/lang/IllegalArgumentException") hown [] ⟨0, 10, 13, 13⟩ [⟨0, 10, 17, 18⟩] htab (fun z hz => by cases hz) rfl (by decide) (hts _ kL_addBin_13) (va_tabs (badw_tab _ (badw_cast ("java/lang/IllegalArgumentException", (23, 27)) (by decide))) (u := s) (U := s) rfl (hXP.2.2.1 _ (badw_cast ("java/lang/IllegalArgumentException", (23, 27)) (by decide)))) hce hcv hcl ?_
      refine lv_astore (pc := 13) (lv' := [(4, .ref q9), (0, .ref xa), (1, .int x1), (2, .int x2), (3, .ref oa)]) hx hb dL_addBin_13 hl (by decide) rfl (fun ls hl => ?_)
      refine lv_iconst (pc := 15) (v := (1 : Int32)) hx hb dL_addBin_15 (by decide) ?_
      exact hret 16 _ _ (B, W9, B2, W2, o) _ _ dL_addBin_16 h hw
    · refine vx_catch (pc := 5) (own := RL) (name := "java/lang/IllegalStateException") hown [⟨0, 10, 13, 13⟩] ⟨0, 10, 17, 18⟩ [] htab (fun z hz => by
        rcases List.mem_cons.mp hz with rfl | hz
        · exact Or.inr ⟨by decide, "java/lang/IllegalArgumentException", hts _ kL_addBin_13, hXP.2.2.2.1 ("java/lang/IllegalStateException", "java/lang/IllegalArgumentException") (by decide)⟩
        cases hz) rfl (by decide) (hts _ kL_addBin_18) (va_tabs (badw_tab _ (badw_cast ("java/lang/IllegalStateException", (44, 48)) (by decide))) (u := s) (U := s) rfl (hXP.2.2.1 _ (badw_cast ("java/lang/IllegalStateException", (44, 48)) (by decide)))) hce hcv hcl ?_
      refine lv_astore (pc := 17) (lv' := [(4, .ref q9), (0, .ref xa), (1, .int x1), (2, .int x2), (3, .ref oa)]) hx hb dL_addBin_17 hl (by decide) rfl (fun ls hl => ?_)
      refine lv_iconst (pc := 19) (v := (2 : Int32)) hx hb dL_addBin_19 (by decide) ?_
      exact hret 20 _ _ (B, W9, B2, W2, o) _ _ dL_addBin_20 h hw
  · obtain ⟨B, W9, B2, W2⟩ := u
    refine lv_i2l (pc := 8) (v := r.toInt64) hx hb dL_addBin_8 rfl ?_
    refine asL (pc := 9) cx hw dL_addBin_9 (fun H locs hw => ?_)
    refine lv_goto (pc := 10) (tgt := 21) hx hb dL_addBin_10 (by decide) ?_
    refine lv_iconst (pc := 21) (v := (0 : Int32)) hx hb dL_addBin_21 (by decide) ?_
    exact hret 22 _ _ (B, W9, B2, W2, vp_updL o 0 r.toInt64) _ _ dL_addBin_22 h hw
abbrev rmL_setCrew : Room := { frames := 7, cells := 1, slots := 6, locals := 123 }
theorem kL_setCrew_13 : Cond.classLink RL 13 "java/lang/IllegalArgumentException" ∈ wsL_setCrew := by decide +kernel
def wpL_setCrew (A : SA) (V : SV) (A2 : SA) (V2 : SV) (o : Nat → Int64) (x1 : Int32) (x2 : Int32) (Q : Int32 → SA → SV → SA → SV → (Nat → Int64) → Prop) : Prop := wpX5_setCrew A V A2 V2 x1 x2 (fun r B W B2 W2 => Q 0 B W B2 W2 (vp_updL o 0 r.toInt64)) (fun E B W B2 W2 => (E = "java/lang/IllegalArgumentException" ∧ Q 1 B W B2 W2 o))
set_option maxHeartbeats 4000000 in
set_option maxRecDepth 100000 in
theorem metL_setCrew (l : Launch) (hlt : l.stackTraces = false) (D : va_G) (cI cZ cJ : ClassId) (xa oa : Nat) (ad ad2 : Nat → Nat) (sz : Nat) (A : SA) (V : SV) (A2 : SA) (V2 : SV) (o : Nat → Int64) (x1 : Int32) (x2 : Int32) (Q : Int32 → SA → SV → SA → SV → (Nat → Int64) → Prop) (h : wpL_setCrew A V A2 V2 o x1 x2 Q) : Met l yL_setCrew wsL_setCrew rmL_setCrew (PcX D (tysL cI cZ cJ) (wL xa oa ad ad2 cI cZ cJ A V A2 V2 o) sz [.ref xa, .int x1, .int x2, .ref oa]) (QiW D (tysL cI cZ cJ) (wL xa oa ad ad2 cI cZ cJ A V A2 V2 o) sz (fun u : SA × SV × SA × SV × (Nat → Int64) => wL xa oa ad ad2 cI cZ cJ u.1 u.2.1 u.2.2.1 u.2.2.2.1 u.2.2.2.2) (fun r u => Q r u.1 u.2.1 u.2.2.1 u.2.2.2.1 u.2.2.2.2)) rmL_setCrew.cells rmL_setCrew.slots (va_A (wL xa oa ad ad2 cI cZ cJ A V A2 V2 o) sz) := by
  refine startLW (by decide) rfl (Nat.le_of_ble_eq_true rfl) ?_
  intro p e s m args below meth c A0 Z cx hw hXP htab hret ls hl
  obtain ⟨hx, hb, hml, hown, hts, hK, hA⟩ := id cx
  have hl : lv_has ls 5 [(0, .ref xa), (1, .int x1), (2, .int x2), (3, .ref oa)] := hl
  refine lv_aload_n (pc := 0) hx hb dL_setCrew_0 rfl (lv_at hl 3 rfl) ?_
  refine lv_iconst (pc := 1) (v := (0 : Int32)) hx hb dL_setCrew_1 (by decide) ?_
  refine lv_aload_n (pc := 2) hx hb dL_setCrew_2 rfl (lv_at hl 0 rfl) ?_
  refine lv_iload_n (pc := 3) hx hb dL_setCrew_3 rfl (lv_at hl 1 rfl) ?_
  refine lv_iload_n (pc := 4) hx hb dL_setCrew_4 rfl (lv_at hl 2 rfl) ?_
  refine callXi (pc := 5) (rest := [.int 0, .ref oa]) (c1 := 1) (s1 := 6) cx hw hl hXP (metX5_setCrew l hlt D cI cZ xa ad ad2 s.heap.size A V A2 V2 x1 x2 _ _ h) (fun hts => cwV 2 hts gL_setCrew_X5_setCrew rfl rfl rfl (by decide +kernel) ⟨Nat.le_of_ble_eq_true rfl, Nat.le_of_ble_eq_true rfl⟩) subL [0, 1] rfl 0 (ci := 5) rfl rfl rfl jnL rfl rfl (Nat.le_of_ble_eq_true rfl) ⟨Nat.le_of_ble_eq_true rfl, Nat.le_of_ble_eq_true rfl⟩ rfl rfl dL_setCrew_5 (fun E ce q9 u H locs h hw hce hcv hcl => ?_) (fun r u H locs h hw => ?_)
  · obtain ⟨B, W9, B2, W2⟩ := u
    obtain ⟨rfl, h⟩ := h
    · refine vx_catch (pc := 5) (own := RL) (name := "java/lang/IllegalArgumentException") hown [] ⟨0, 10, 13, 13⟩ [] htab (fun z hz => by cases hz) rfl (by decide) (hts _ kL_setCrew_13) (va_tabs (badw_tab _ (badw_cast ("java/lang/IllegalArgumentException", (23, 27)) (by decide))) (u := s) (U := s) rfl (hXP.2.2.1 _ (badw_cast ("java/lang/IllegalArgumentException", (23, 27)) (by decide)))) hce hcv hcl ?_
      refine lv_astore (pc := 13) (lv' := [(4, .ref q9), (0, .ref xa), (1, .int x1), (2, .int x2), (3, .ref oa)]) hx hb dL_setCrew_13 hl (by decide) rfl (fun ls hl => ?_)
      refine lv_iconst (pc := 15) (v := (1 : Int32)) hx hb dL_setCrew_15 (by decide) ?_
      exact hret 16 _ _ (B, W9, B2, W2, o) _ _ dL_setCrew_16 h hw
  · obtain ⟨B, W9, B2, W2⟩ := u
    refine lv_i2l (pc := 8) (v := r.toInt64) hx hb dL_setCrew_8 rfl ?_
    refine asL (pc := 9) cx hw dL_setCrew_9 (fun H locs hw => ?_)
    refine lv_goto (pc := 10) (tgt := 17) hx hb dL_setCrew_10 (by decide) ?_
    refine lv_iconst (pc := 17) (v := (0 : Int32)) hx hb dL_setCrew_17 (by decide) ?_
    exact hret 18 _ _ (B, W9, B2, W2, vp_updL o 0 r.toInt64) _ _ dL_setCrew_18 h hw
abbrev rmL_addDrowned : Room := { frames := 7, cells := 1, slots := 6, locals := 123 }
theorem kL_addDrowned_13 : Cond.classLink RL 13 "java/lang/IllegalArgumentException" ∈ wsL_addDrowned := by decide +kernel
theorem kL_addDrowned_18 : Cond.classLink RL 18 "java/lang/IllegalStateException" ∈ wsL_addDrowned := by decide +kernel
def wpL_addDrowned (A : SA) (V : SV) (A2 : SA) (V2 : SV) (o : Nat → Int64) (x1 : Int32) (x2 : Int32) (x3 : Int32) (Q : Int32 → SA → SV → SA → SV → (Nat → Int64) → Prop) : Prop := wpX5_addDrowned A V A2 V2 x1 x2 x3 (fun r B W B2 W2 => Q 0 B W B2 W2 (vp_updL o 0 r.toInt64)) (fun E B W B2 W2 => (E = "java/lang/IllegalArgumentException" ∧ Q 1 B W B2 W2 o) ∨ (E = "java/lang/IllegalStateException" ∧ Q 2 B W B2 W2 o))
set_option maxHeartbeats 4000000 in
set_option maxRecDepth 100000 in
theorem metL_addDrowned (l : Launch) (hlt : l.stackTraces = false) (D : va_G) (cI cZ cJ : ClassId) (xa oa : Nat) (ad ad2 : Nat → Nat) (sz : Nat) (A : SA) (V : SV) (A2 : SA) (V2 : SV) (o : Nat → Int64) (x1 : Int32) (x2 : Int32) (x3 : Int32) (Q : Int32 → SA → SV → SA → SV → (Nat → Int64) → Prop) (h : wpL_addDrowned A V A2 V2 o x1 x2 x3 Q) : Met l yL_addDrowned wsL_addDrowned rmL_addDrowned (PcX D (tysL cI cZ cJ) (wL xa oa ad ad2 cI cZ cJ A V A2 V2 o) sz [.ref xa, .int x1, .int x2, .int x3, .ref oa]) (QiW D (tysL cI cZ cJ) (wL xa oa ad ad2 cI cZ cJ A V A2 V2 o) sz (fun u : SA × SV × SA × SV × (Nat → Int64) => wL xa oa ad ad2 cI cZ cJ u.1 u.2.1 u.2.2.1 u.2.2.2.1 u.2.2.2.2) (fun r u => Q r u.1 u.2.1 u.2.2.1 u.2.2.2.1 u.2.2.2.2)) rmL_addDrowned.cells rmL_addDrowned.slots (va_A (wL xa oa ad ad2 cI cZ cJ A V A2 V2 o) sz) := by
  refine startLW (by decide) rfl (Nat.le_of_ble_eq_true rfl) ?_
  intro p e s m args below meth c A0 Z cx hw hXP htab hret ls hl
  obtain ⟨hx, hb, hml, hown, hts, hK, hA⟩ := id cx
  have hl : lv_has ls 6 [(0, .ref xa), (1, .int x1), (2, .int x2), (3, .int x3), (4, .ref oa)] := hl
  refine lv_aload (pc := 0) hx hb dL_addDrowned_0 (lv_at hl 4 rfl) ?_
  refine lv_iconst (pc := 2) (v := (0 : Int32)) hx hb dL_addDrowned_2 (by decide) ?_
  refine lv_aload_n (pc := 3) hx hb dL_addDrowned_3 rfl (lv_at hl 0 rfl) ?_
  refine lv_iload_n (pc := 4) hx hb dL_addDrowned_4 rfl (lv_at hl 1 rfl) ?_
  refine lv_iload_n (pc := 5) hx hb dL_addDrowned_5 rfl (lv_at hl 2 rfl) ?_
  refine lv_iload_n (pc := 6) hx hb dL_addDrowned_6 rfl (lv_at hl 3 rfl) ?_
  refine callXi (pc := 7) (rest := [.int 0, .ref oa]) (c1 := 1) (s1 := 6) cx hw hl hXP (metX5_addDrowned l hlt D cI cZ xa ad ad2 s.heap.size A V A2 V2 x1 x2 x3 _ _ h) (fun hts => cwV 3 hts gL_addDrowned_X5_addDrowned rfl rfl rfl (by decide +kernel) ⟨Nat.le_of_ble_eq_true rfl, Nat.le_of_ble_eq_true rfl⟩) subL [0, 1] rfl 0 (ci := 5) rfl rfl rfl jnL rfl rfl (Nat.le_of_ble_eq_true rfl) ⟨Nat.le_of_ble_eq_true rfl, Nat.le_of_ble_eq_true rfl⟩ rfl rfl dL_addDrowned_7 (fun E ce q9 u H locs h hw hce hcv hcl => ?_) (fun r u H locs h hw => ?_)
  · obtain ⟨B, W9, B2, W2⟩ := u
    rcases h with ⟨rfl, h⟩ | ⟨rfl, h⟩
    · refine vx_catch (pc := 7) (own := RL) (name := "java/lang/IllegalArgumentException") hown [] ⟨0, 12, 15, 13⟩ [⟨0, 12, 19, 18⟩] htab (fun z hz => by cases hz) rfl (by decide) (hts _ kL_addDrowned_13) (va_tabs (badw_tab _ (badw_cast ("java/lang/IllegalArgumentException", (23, 27)) (by decide))) (u := s) (U := s) rfl (hXP.2.2.1 _ (badw_cast ("java/lang/IllegalArgumentException", (23, 27)) (by decide)))) hce hcv hcl ?_
      refine lv_astore (pc := 15) (lv' := [(5, .ref q9), (0, .ref xa), (1, .int x1), (2, .int x2), (3, .int x3), (4, .ref oa)]) hx hb dL_addDrowned_15 hl (by decide) rfl (fun ls hl => ?_)
      refine lv_iconst (pc := 17) (v := (1 : Int32)) hx hb dL_addDrowned_17 (by decide) ?_
      exact hret 18 _ _ (B, W9, B2, W2, o) _ _ dL_addDrowned_18 h hw
    · refine vx_catch (pc := 7) (own := RL) (name := "java/lang/IllegalStateException") hown [⟨0, 12, 15, 13⟩] ⟨0, 12, 19, 18⟩ [] htab (fun z hz => by
        rcases List.mem_cons.mp hz with rfl | hz
        · exact Or.inr ⟨by decide, "java/lang/IllegalArgumentException", hts _ kL_addDrowned_13, hXP.2.2.2.1 ("java/lang/IllegalStateException", "java/lang/IllegalArgumentException") (by decide)⟩
        cases hz) rfl (by decide) (hts _ kL_addDrowned_18) (va_tabs (badw_tab _ (badw_cast ("java/lang/IllegalStateException", (44, 48)) (by decide))) (u := s) (U := s) rfl (hXP.2.2.1 _ (badw_cast ("java/lang/IllegalStateException", (44, 48)) (by decide)))) hce hcv hcl ?_
      refine lv_astore (pc := 19) (lv' := [(5, .ref q9), (0, .ref xa), (1, .int x1), (2, .int x2), (3, .int x3), (4, .ref oa)]) hx hb dL_addDrowned_19 hl (by decide) rfl (fun ls hl => ?_)
      refine lv_iconst (pc := 21) (v := (2 : Int32)) hx hb dL_addDrowned_21 (by decide) ?_
      exact hret 22 _ _ (B, W9, B2, W2, o) _ _ dL_addDrowned_22 h hw
  · obtain ⟨B, W9, B2, W2⟩ := u
    refine lv_i2l (pc := 10) (v := r.toInt64) hx hb dL_addDrowned_10 rfl ?_
    refine asL (pc := 11) cx hw dL_addDrowned_11 (fun H locs hw => ?_)
    refine lv_goto (pc := 12) (tgt := 23) hx hb dL_addDrowned_12 (by decide) ?_
    refine lv_iconst (pc := 23) (v := (0 : Int32)) hx hb dL_addDrowned_23 (by decide) ?_
    exact hret 24 _ _ (B, W9, B2, W2, vp_updL o 0 r.toInt64) _ _ dL_addDrowned_24 h hw
abbrev rmL_bring : Room := { frames := 7, cells := 1, slots := 6, locals := 123 }
theorem kL_bring_37 : Cond.classLink RL 37 "java/lang/IndexOutOfBoundsException" ∈ wsL_bring := by decide +kernel
theorem kL_bring_13 : Cond.classLink RL 13 "java/lang/IllegalArgumentException" ∈ wsL_bring := by decide +kernel
theorem kL_bring_18 : Cond.classLink RL 18 "java/lang/IllegalStateException" ∈ wsL_bring := by decide +kernel
def wpL_bring (A : SA) (V : SV) (A2 : SA) (V2 : SV) (o : Nat → Int64) (x1 : Int32) (x2 : Int32) (x3 : Int32) (Q : Int32 → SA → SV → SA → SV → (Nat → Int64) → Prop) : Prop := wpX5_bring A V A2 V2 x1 x2 x3 (fun r B W B2 W2 => Q 0 B W B2 W2 (vp_updL o 0 r.toInt64)) (fun E B W B2 W2 => (E = "java/lang/IndexOutOfBoundsException" ∧ Q 1 B W B2 W2 o) ∨ (E = "java/lang/IllegalArgumentException" ∧ Q 2 B W B2 W2 o) ∨ (E = "java/lang/IllegalStateException" ∧ Q 3 B W B2 W2 o))
set_option maxHeartbeats 4000000 in
set_option maxRecDepth 100000 in
theorem metL_bring (l : Launch) (hlt : l.stackTraces = false) (D : va_G) (cI cZ cJ : ClassId) (xa oa : Nat) (ad ad2 : Nat → Nat) (sz : Nat) (A : SA) (V : SV) (A2 : SA) (V2 : SV) (o : Nat → Int64) (x1 : Int32) (x2 : Int32) (x3 : Int32) (Q : Int32 → SA → SV → SA → SV → (Nat → Int64) → Prop) (h : wpL_bring A V A2 V2 o x1 x2 x3 Q) : Met l yL_bring wsL_bring rmL_bring (PcX D (tysL cI cZ cJ) (wL xa oa ad ad2 cI cZ cJ A V A2 V2 o) sz [.ref xa, .int x1, .int x2, .int x3, .ref oa]) (QiW D (tysL cI cZ cJ) (wL xa oa ad ad2 cI cZ cJ A V A2 V2 o) sz (fun u : SA × SV × SA × SV × (Nat → Int64) => wL xa oa ad ad2 cI cZ cJ u.1 u.2.1 u.2.2.1 u.2.2.2.1 u.2.2.2.2) (fun r u => Q r u.1 u.2.1 u.2.2.1 u.2.2.2.1 u.2.2.2.2)) rmL_bring.cells rmL_bring.slots (va_A (wL xa oa ad ad2 cI cZ cJ A V A2 V2 o) sz) := by
  refine startLW (by decide) rfl (Nat.le_of_ble_eq_true rfl) ?_
  intro p e s m args below meth c A0 Z cx hw hXP htab hret ls hl
  obtain ⟨hx, hb, hml, hown, hts, hK, hA⟩ := id cx
  have hl : lv_has ls 6 [(0, .ref xa), (1, .int x1), (2, .int x2), (3, .int x3), (4, .ref oa)] := hl
  refine lv_aload (pc := 0) hx hb dL_bring_0 (lv_at hl 4 rfl) ?_
  refine lv_iconst (pc := 2) (v := (0 : Int32)) hx hb dL_bring_2 (by decide) ?_
  refine lv_aload_n (pc := 3) hx hb dL_bring_3 rfl (lv_at hl 0 rfl) ?_
  refine lv_iload_n (pc := 4) hx hb dL_bring_4 rfl (lv_at hl 1 rfl) ?_
  refine lv_iload_n (pc := 5) hx hb dL_bring_5 rfl (lv_at hl 2 rfl) ?_
  refine lv_iload_n (pc := 6) hx hb dL_bring_6 rfl (lv_at hl 3 rfl) ?_
  refine callXi (pc := 7) (rest := [.int 0, .ref oa]) (c1 := 1) (s1 := 6) cx hw hl hXP (metX5_bring l hlt D cI cZ xa ad ad2 s.heap.size A V A2 V2 x1 x2 x3 _ _ h) (fun hts => cwV 3 hts gL_bring_X5_bring rfl rfl rfl (by decide +kernel) ⟨Nat.le_of_ble_eq_true rfl, Nat.le_of_ble_eq_true rfl⟩) subL [0, 1] rfl 0 (ci := 5) rfl rfl rfl jnL rfl rfl (Nat.le_of_ble_eq_true rfl) ⟨Nat.le_of_ble_eq_true rfl, Nat.le_of_ble_eq_true rfl⟩ rfl rfl dL_bring_7 (fun E ce q9 u H locs h hw hce hcv hcl => ?_) (fun r u H locs h hw => ?_)
  · obtain ⟨B, W9, B2, W2⟩ := u
    rcases h with ⟨rfl, h⟩ | ⟨rfl, h⟩ | ⟨rfl, h⟩
    · refine vx_catch (pc := 7) (own := RL) (name := "java/lang/IndexOutOfBoundsException") hown [] ⟨0, 12, 15, 37⟩ [⟨0, 12, 19, 13⟩, ⟨0, 12, 23, 18⟩] htab (fun z hz => by cases hz) rfl (by decide) (hts _ kL_bring_37) (va_tabs (badw_tab _ (badw_cast ("java/lang/IndexOutOfBoundsException", (98, 102)) (by decide))) (u := s) (U := s) rfl (hXP.2.2.1 _ (badw_cast ("java/lang/IndexOutOfBoundsException", (98, 102)) (by decide)))) hce hcv hcl ?_
      refine lv_astore (pc := 15) (lv' := [(5, .ref q9), (0, .ref xa), (1, .int x1), (2, .int x2), (3, .int x3), (4, .ref oa)]) hx hb dL_bring_15 hl (by decide) rfl (fun ls hl => ?_)
      refine lv_iconst (pc := 17) (v := (1 : Int32)) hx hb dL_bring_17 (by decide) ?_
      exact hret 18 _ _ (B, W9, B2, W2, o) _ _ dL_bring_18 h hw
    · refine vx_catch (pc := 7) (own := RL) (name := "java/lang/IllegalArgumentException") hown [⟨0, 12, 15, 37⟩] ⟨0, 12, 19, 13⟩ [⟨0, 12, 23, 18⟩] htab (fun z hz => by
        rcases List.mem_cons.mp hz with rfl | hz
        · exact Or.inr ⟨by decide, "java/lang/IndexOutOfBoundsException", hts _ kL_bring_37, hXP.2.2.2.1 ("java/lang/IllegalArgumentException", "java/lang/IndexOutOfBoundsException") (by decide)⟩
        cases hz) rfl (by decide) (hts _ kL_bring_13) (va_tabs (badw_tab _ (badw_cast ("java/lang/IllegalArgumentException", (23, 27)) (by decide))) (u := s) (U := s) rfl (hXP.2.2.1 _ (badw_cast ("java/lang/IllegalArgumentException", (23, 27)) (by decide)))) hce hcv hcl ?_
      refine lv_astore (pc := 19) (lv' := [(5, .ref q9), (0, .ref xa), (1, .int x1), (2, .int x2), (3, .int x3), (4, .ref oa)]) hx hb dL_bring_19 hl (by decide) rfl (fun ls hl => ?_)
      refine lv_iconst (pc := 21) (v := (2 : Int32)) hx hb dL_bring_21 (by decide) ?_
      exact hret 22 _ _ (B, W9, B2, W2, o) _ _ dL_bring_22 h hw
    · refine vx_catch (pc := 7) (own := RL) (name := "java/lang/IllegalStateException") hown [⟨0, 12, 15, 37⟩, ⟨0, 12, 19, 13⟩] ⟨0, 12, 23, 18⟩ [] htab (fun z hz => by
        rcases List.mem_cons.mp hz with rfl | hz
        · exact Or.inr ⟨by decide, "java/lang/IndexOutOfBoundsException", hts _ kL_bring_37, hXP.2.2.2.1 ("java/lang/IllegalStateException", "java/lang/IndexOutOfBoundsException") (by decide)⟩
        rcases List.mem_cons.mp hz with rfl | hz
        · exact Or.inr ⟨by decide, "java/lang/IllegalArgumentException", hts _ kL_bring_13, hXP.2.2.2.1 ("java/lang/IllegalStateException", "java/lang/IllegalArgumentException") (by decide)⟩
        cases hz) rfl (by decide) (hts _ kL_bring_18) (va_tabs (badw_tab _ (badw_cast ("java/lang/IllegalStateException", (44, 48)) (by decide))) (u := s) (U := s) rfl (hXP.2.2.1 _ (badw_cast ("java/lang/IllegalStateException", (44, 48)) (by decide)))) hce hcv hcl ?_
      refine lv_astore (pc := 23) (lv' := [(5, .ref q9), (0, .ref xa), (1, .int x1), (2, .int x2), (3, .int x3), (4, .ref oa)]) hx hb dL_bring_23 hl (by decide) rfl (fun ls hl => ?_)
      refine lv_iconst (pc := 25) (v := (3 : Int32)) hx hb dL_bring_25 (by decide) ?_
      exact hret 26 _ _ (B, W9, B2, W2, o) _ _ dL_bring_26 h hw
  · obtain ⟨B, W9, B2, W2⟩ := u
    refine lv_i2l (pc := 10) (v := r.toInt64) hx hb dL_bring_10 rfl ?_
    refine asL (pc := 11) cx hw dL_bring_11 (fun H locs hw => ?_)
    refine lv_goto (pc := 12) (tgt := 27) hx hb dL_bring_12 (by decide) ?_
    refine lv_iconst (pc := 27) (v := (0 : Int32)) hx hb dL_bring_27 (by decide) ?_
    exact hret 28 _ _ (B, W9, B2, W2, vp_updL o 0 r.toInt64) _ _ dL_bring_28 h hw
abbrev rmL_takeOut : Room := { frames := 7, cells := 1, slots := 6, locals := 122 }
theorem kL_takeOut_37 : Cond.classLink RL 37 "java/lang/IndexOutOfBoundsException" ∈ wsL_takeOut := by decide +kernel
theorem kL_takeOut_18 : Cond.classLink RL 18 "java/lang/IllegalStateException" ∈ wsL_takeOut := by decide +kernel
def wpL_takeOut (A : SA) (V : SV) (A2 : SA) (V2 : SV) (o : Nat → Int64) (x1 : Int32) (Q : Int32 → SA → SV → SA → SV → (Nat → Int64) → Prop) : Prop := wpX5_takeOut A V A2 V2 x1 (fun r B W B2 W2 => Q 0 B W B2 W2 (vp_updL o 0 r.toInt64)) (fun E B W B2 W2 => (E = "java/lang/IndexOutOfBoundsException" ∧ Q 1 B W B2 W2 o) ∨ (E = "java/lang/IllegalStateException" ∧ Q 2 B W B2 W2 o))
set_option maxHeartbeats 4000000 in
set_option maxRecDepth 100000 in
theorem metL_takeOut (l : Launch) (hlt : l.stackTraces = false) (D : va_G) (cI cZ cJ : ClassId) (xa oa : Nat) (ad ad2 : Nat → Nat) (sz : Nat) (A : SA) (V : SV) (A2 : SA) (V2 : SV) (o : Nat → Int64) (x1 : Int32) (Q : Int32 → SA → SV → SA → SV → (Nat → Int64) → Prop) (h : wpL_takeOut A V A2 V2 o x1 Q) : Met l yL_takeOut wsL_takeOut rmL_takeOut (PcX D (tysL cI cZ cJ) (wL xa oa ad ad2 cI cZ cJ A V A2 V2 o) sz [.ref xa, .int x1, .ref oa]) (QiW D (tysL cI cZ cJ) (wL xa oa ad ad2 cI cZ cJ A V A2 V2 o) sz (fun u : SA × SV × SA × SV × (Nat → Int64) => wL xa oa ad ad2 cI cZ cJ u.1 u.2.1 u.2.2.1 u.2.2.2.1 u.2.2.2.2) (fun r u => Q r u.1 u.2.1 u.2.2.1 u.2.2.2.1 u.2.2.2.2)) rmL_takeOut.cells rmL_takeOut.slots (va_A (wL xa oa ad ad2 cI cZ cJ A V A2 V2 o) sz) := by
  refine startLW (by decide) rfl (Nat.le_of_ble_eq_true rfl) ?_
  intro p e s m args below meth c A0 Z cx hw hXP htab hret ls hl
  obtain ⟨hx, hb, hml, hown, hts, hK, hA⟩ := id cx
  have hl : lv_has ls 4 [(0, .ref xa), (1, .int x1), (2, .ref oa)] := hl
  refine lv_aload_n (pc := 0) hx hb dL_takeOut_0 rfl (lv_at hl 2 rfl) ?_
  refine lv_iconst (pc := 1) (v := (0 : Int32)) hx hb dL_takeOut_1 (by decide) ?_
  refine lv_aload_n (pc := 2) hx hb dL_takeOut_2 rfl (lv_at hl 0 rfl) ?_
  refine lv_iload_n (pc := 3) hx hb dL_takeOut_3 rfl (lv_at hl 1 rfl) ?_
  refine callXi (pc := 4) (rest := [.int 0, .ref oa]) (c1 := 1) (s1 := 6) cx hw hl hXP (metX5_takeOut l hlt D cI cZ xa ad ad2 s.heap.size A V A2 V2 x1 _ _ h) (fun hts => cwV 1 hts gL_takeOut_X5_takeOut rfl rfl rfl (by decide +kernel) ⟨Nat.le_of_ble_eq_true rfl, Nat.le_of_ble_eq_true rfl⟩) subL [0, 1] rfl 0 (ci := 5) rfl rfl rfl jnL rfl rfl (Nat.le_of_ble_eq_true rfl) ⟨Nat.le_of_ble_eq_true rfl, Nat.le_of_ble_eq_true rfl⟩ rfl rfl dL_takeOut_4 (fun E ce q9 u H locs h hw hce hcv hcl => ?_) (fun r u H locs h hw => ?_)
  · obtain ⟨B, W9, B2, W2⟩ := u
    rcases h with ⟨rfl, h⟩ | ⟨rfl, h⟩
    · refine vx_catch (pc := 4) (own := RL) (name := "java/lang/IndexOutOfBoundsException") hown [] ⟨0, 9, 12, 37⟩ [⟨0, 9, 15, 18⟩] htab (fun z hz => by cases hz) rfl (by decide) (hts _ kL_takeOut_37) (va_tabs (badw_tab _ (badw_cast ("java/lang/IndexOutOfBoundsException", (98, 102)) (by decide))) (u := s) (U := s) rfl (hXP.2.2.1 _ (badw_cast ("java/lang/IndexOutOfBoundsException", (98, 102)) (by decide)))) hce hcv hcl ?_
      refine lv_astore_n (pc := 12) (lv' := [(3, .ref q9), (0, .ref xa), (1, .int x1), (2, .ref oa)]) hx hb dL_takeOut_12 rfl hl (by decide) rfl (fun ls hl => ?_)
      refine lv_iconst (pc := 13) (v := (1 : Int32)) hx hb dL_takeOut_13 (by decide) ?_
      exact hret 14 _ _ (B, W9, B2, W2, o) _ _ dL_takeOut_14 h hw
    · refine vx_catch (pc := 4) (own := RL) (name := "java/lang/IllegalStateException") hown [⟨0, 9, 12, 37⟩] ⟨0, 9, 15, 18⟩ [] htab (fun z hz => by
        rcases List.mem_cons.mp hz with rfl | hz
        · exact Or.inr ⟨by decide, "java/lang/IndexOutOfBoundsException", hts _ kL_takeOut_37, hXP.2.2.2.1 ("java/lang/IllegalStateException", "java/lang/IndexOutOfBoundsException") (by decide)⟩
        cases hz) rfl (by decide) (hts _ kL_takeOut_18) (va_tabs (badw_tab _ (badw_cast ("java/lang/IllegalStateException", (44, 48)) (by decide))) (u := s) (U := s) rfl (hXP.2.2.1 _ (badw_cast ("java/lang/IllegalStateException", (44, 48)) (by decide)))) hce hcv hcl ?_
      refine lv_astore_n (pc := 15) (lv' := [(3, .ref q9), (0, .ref xa), (1, .int x1), (2, .ref oa)]) hx hb dL_takeOut_15 rfl hl (by decide) rfl (fun ls hl => ?_)
      refine lv_iconst (pc := 16) (v := (2 : Int32)) hx hb dL_takeOut_16 (by decide) ?_
      exact hret 17 _ _ (B, W9, B2, W2, o) _ _ dL_takeOut_17 h hw
  · obtain ⟨B, W9, B2, W2⟩ := u
    refine lv_i2l (pc := 7) (v := r.toInt64) hx hb dL_takeOut_7 rfl ?_
    refine asL (pc := 8) cx hw dL_takeOut_8 (fun H locs hw => ?_)
    refine lv_goto (pc := 9) (tgt := 18) hx hb dL_takeOut_9 (by decide) ?_
    refine lv_iconst (pc := 18) (v := (0 : Int32)) hx hb dL_takeOut_18 (by decide) ?_
    exact hret 19 _ _ (B, W9, B2, W2, vp_updL o 0 r.toInt64) _ _ dL_takeOut_19 h hw
abbrev rmL_letter : Room := { frames := 7, cells := 1, slots := 6, locals := 122 }
theorem kL_letter_37 : Cond.classLink RL 37 "java/lang/IndexOutOfBoundsException" ∈ wsL_letter := by decide +kernel
def wpL_letter (A : SA) (V : SV) (A2 : SA) (V2 : SV) (o : Nat → Int64) (x1 : Int32) (x2 : Int32) (Q : Int32 → SA → SV → SA → SV → (Nat → Int64) → Prop) : Prop := wpX5_letter A V A2 V2 x1 x2 (fun r B W B2 W2 => Q 0 B W B2 W2 (vp_updL o 0 r.toInt64)) (fun E B W B2 W2 => (E = "java/lang/IndexOutOfBoundsException" ∧ Q 1 B W B2 W2 o))
set_option maxHeartbeats 4000000 in
set_option maxRecDepth 100000 in
theorem metL_letter (l : Launch) (hlt : l.stackTraces = false) (D : va_G) (cI cZ cJ : ClassId) (xa oa : Nat) (ad ad2 : Nat → Nat) (sz : Nat) (A : SA) (V : SV) (A2 : SA) (V2 : SV) (o : Nat → Int64) (x1 : Int32) (x2 : Int32) (Q : Int32 → SA → SV → SA → SV → (Nat → Int64) → Prop) (h : wpL_letter A V A2 V2 o x1 x2 Q) : Met l yL_letter wsL_letter rmL_letter (PcX D (tysL cI cZ cJ) (wL xa oa ad ad2 cI cZ cJ A V A2 V2 o) sz [.ref xa, .int x1, .int x2, .ref oa]) (QiW D (tysL cI cZ cJ) (wL xa oa ad ad2 cI cZ cJ A V A2 V2 o) sz (fun u : SA × SV × SA × SV × (Nat → Int64) => wL xa oa ad ad2 cI cZ cJ u.1 u.2.1 u.2.2.1 u.2.2.2.1 u.2.2.2.2) (fun r u => Q r u.1 u.2.1 u.2.2.1 u.2.2.2.1 u.2.2.2.2)) rmL_letter.cells rmL_letter.slots (va_A (wL xa oa ad ad2 cI cZ cJ A V A2 V2 o) sz) := by
  refine startLW (by decide) rfl (Nat.le_of_ble_eq_true rfl) ?_
  intro p e s m args below meth c A0 Z cx hw hXP htab hret ls hl
  obtain ⟨hx, hb, hml, hown, hts, hK, hA⟩ := id cx
  have hl : lv_has ls 5 [(0, .ref xa), (1, .int x1), (2, .int x2), (3, .ref oa)] := hl
  refine lv_aload_n (pc := 0) hx hb dL_letter_0 rfl (lv_at hl 3 rfl) ?_
  refine lv_iconst (pc := 1) (v := (0 : Int32)) hx hb dL_letter_1 (by decide) ?_
  refine lv_aload_n (pc := 2) hx hb dL_letter_2 rfl (lv_at hl 0 rfl) ?_
  refine lv_iload_n (pc := 3) hx hb dL_letter_3 rfl (lv_at hl 1 rfl) ?_
  refine lv_iload_n (pc := 4) hx hb dL_letter_4 rfl (lv_at hl 2 rfl) ?_
  refine callXi (pc := 5) (rest := [.int 0, .ref oa]) (c1 := 1) (s1 := 6) cx hw hl hXP (metX5_letter l hlt D cI cZ xa ad ad2 s.heap.size A V A2 V2 x1 x2 _ _ h) (fun hts => cwV 2 hts gL_letter_X5_letter rfl rfl rfl (by decide +kernel) ⟨Nat.le_of_ble_eq_true rfl, Nat.le_of_ble_eq_true rfl⟩) subL [0, 1] rfl 0 (ci := 5) rfl rfl rfl jnL rfl rfl (Nat.le_of_ble_eq_true rfl) ⟨Nat.le_of_ble_eq_true rfl, Nat.le_of_ble_eq_true rfl⟩ rfl rfl dL_letter_5 (fun E ce q9 u H locs h hw hce hcv hcl => ?_) (fun r u H locs h hw => ?_)
  · obtain ⟨B, W9, B2, W2⟩ := u
    obtain ⟨rfl, h⟩ := h
    · refine vx_catch (pc := 5) (own := RL) (name := "java/lang/IndexOutOfBoundsException") hown [] ⟨0, 10, 13, 37⟩ [] htab (fun z hz => by cases hz) rfl (by decide) (hts _ kL_letter_37) (va_tabs (badw_tab _ (badw_cast ("java/lang/IndexOutOfBoundsException", (98, 102)) (by decide))) (u := s) (U := s) rfl (hXP.2.2.1 _ (badw_cast ("java/lang/IndexOutOfBoundsException", (98, 102)) (by decide)))) hce hcv hcl ?_
      refine lv_astore (pc := 13) (lv' := [(4, .ref q9), (0, .ref xa), (1, .int x1), (2, .int x2), (3, .ref oa)]) hx hb dL_letter_13 hl (by decide) rfl (fun ls hl => ?_)
      refine lv_iconst (pc := 15) (v := (1 : Int32)) hx hb dL_letter_15 (by decide) ?_
      exact hret 16 _ _ (B, W9, B2, W2, o) _ _ dL_letter_16 h hw
  · obtain ⟨B, W9, B2, W2⟩ := u
    refine lv_i2l (pc := 8) (v := r.toInt64) hx hb dL_letter_8 rfl ?_
    refine asL (pc := 9) cx hw dL_letter_9 (fun H locs hw => ?_)
    refine lv_goto (pc := 10) (tgt := 17) hx hb dL_letter_10 (by decide) ?_
    refine lv_iconst (pc := 17) (v := (0 : Int32)) hx hb dL_letter_17 (by decide) ?_
    exact hret 18 _ _ (B, W9, B2, W2, vp_updL o 0 r.toInt64) _ _ dL_letter_18 h hw
abbrev rmL_drowned : Room := { frames := 7, cells := 1, slots := 6, locals := 122 }
theorem kL_drowned_37 : Cond.classLink RL 37 "java/lang/IndexOutOfBoundsException" ∈ wsL_drowned := by decide +kernel
def wpL_drowned (A : SA) (V : SV) (A2 : SA) (V2 : SV) (o : Nat → Int64) (x1 : Int32) (x2 : Int32) (Q : Int32 → SA → SV → SA → SV → (Nat → Int64) → Prop) : Prop := wpX5_drowned A V A2 V2 x1 x2 (fun r B W B2 W2 => Q 0 B W B2 W2 (vp_updL o 0 r.toInt64)) (fun E B W B2 W2 => (E = "java/lang/IndexOutOfBoundsException" ∧ Q 1 B W B2 W2 o))
set_option maxHeartbeats 4000000 in
set_option maxRecDepth 100000 in
theorem metL_drowned (l : Launch) (hlt : l.stackTraces = false) (D : va_G) (cI cZ cJ : ClassId) (xa oa : Nat) (ad ad2 : Nat → Nat) (sz : Nat) (A : SA) (V : SV) (A2 : SA) (V2 : SV) (o : Nat → Int64) (x1 : Int32) (x2 : Int32) (Q : Int32 → SA → SV → SA → SV → (Nat → Int64) → Prop) (h : wpL_drowned A V A2 V2 o x1 x2 Q) : Met l yL_drowned wsL_drowned rmL_drowned (PcX D (tysL cI cZ cJ) (wL xa oa ad ad2 cI cZ cJ A V A2 V2 o) sz [.ref xa, .int x1, .int x2, .ref oa]) (QiW D (tysL cI cZ cJ) (wL xa oa ad ad2 cI cZ cJ A V A2 V2 o) sz (fun u : SA × SV × SA × SV × (Nat → Int64) => wL xa oa ad ad2 cI cZ cJ u.1 u.2.1 u.2.2.1 u.2.2.2.1 u.2.2.2.2) (fun r u => Q r u.1 u.2.1 u.2.2.1 u.2.2.2.1 u.2.2.2.2)) rmL_drowned.cells rmL_drowned.slots (va_A (wL xa oa ad ad2 cI cZ cJ A V A2 V2 o) sz) := by
  refine startLW (by decide) rfl (Nat.le_of_ble_eq_true rfl) ?_
  intro p e s m args below meth c A0 Z cx hw hXP htab hret ls hl
  obtain ⟨hx, hb, hml, hown, hts, hK, hA⟩ := id cx
  have hl : lv_has ls 5 [(0, .ref xa), (1, .int x1), (2, .int x2), (3, .ref oa)] := hl
  refine lv_aload_n (pc := 0) hx hb dL_drowned_0 rfl (lv_at hl 3 rfl) ?_
  refine lv_iconst (pc := 1) (v := (0 : Int32)) hx hb dL_drowned_1 (by decide) ?_
  refine lv_aload_n (pc := 2) hx hb dL_drowned_2 rfl (lv_at hl 0 rfl) ?_
  refine lv_iload_n (pc := 3) hx hb dL_drowned_3 rfl (lv_at hl 1 rfl) ?_
  refine lv_iload_n (pc := 4) hx hb dL_drowned_4 rfl (lv_at hl 2 rfl) ?_
  refine callXi (pc := 5) (rest := [.int 0, .ref oa]) (c1 := 1) (s1 := 6) cx hw hl hXP (metX5_drowned l hlt D cI cZ xa ad ad2 s.heap.size A V A2 V2 x1 x2 _ _ h) (fun hts => cwV 2 hts gL_drowned_X5_drowned rfl rfl rfl (by decide +kernel) ⟨Nat.le_of_ble_eq_true rfl, Nat.le_of_ble_eq_true rfl⟩) subL [0, 1] rfl 0 (ci := 5) rfl rfl rfl jnL rfl rfl (Nat.le_of_ble_eq_true rfl) ⟨Nat.le_of_ble_eq_true rfl, Nat.le_of_ble_eq_true rfl⟩ rfl rfl dL_drowned_5 (fun E ce q9 u H locs h hw hce hcv hcl => ?_) (fun r u H locs h hw => ?_)
  · obtain ⟨B, W9, B2, W2⟩ := u
    obtain ⟨rfl, h⟩ := h
    · refine vx_catch (pc := 5) (own := RL) (name := "java/lang/IndexOutOfBoundsException") hown [] ⟨0, 10, 13, 37⟩ [] htab (fun z hz => by cases hz) rfl (by decide) (hts _ kL_drowned_37) (va_tabs (badw_tab _ (badw_cast ("java/lang/IndexOutOfBoundsException", (98, 102)) (by decide))) (u := s) (U := s) rfl (hXP.2.2.1 _ (badw_cast ("java/lang/IndexOutOfBoundsException", (98, 102)) (by decide)))) hce hcv hcl ?_
      refine lv_astore (pc := 13) (lv' := [(4, .ref q9), (0, .ref xa), (1, .int x1), (2, .int x2), (3, .ref oa)]) hx hb dL_drowned_13 hl (by decide) rfl (fun ls hl => ?_)
      refine lv_iconst (pc := 15) (v := (1 : Int32)) hx hb dL_drowned_15 (by decide) ?_
      exact hret 16 _ _ (B, W9, B2, W2, o) _ _ dL_drowned_16 h hw
  · obtain ⟨B, W9, B2, W2⟩ := u
    refine lv_i2l (pc := 8) (v := r.toInt64) hx hb dL_drowned_8 rfl ?_
    refine asL (pc := 9) cx hw dL_drowned_9 (fun H locs hw => ?_)
    refine lv_goto (pc := 10) (tgt := 17) hx hb dL_drowned_10 (by decide) ?_
    refine lv_iconst (pc := 17) (v := (0 : Int32)) hx hb dL_drowned_17 (by decide) ?_
    exact hret 18 _ _ (B, W9, B2, W2, vp_updL o 0 r.toInt64) _ _ dL_drowned_18 h hw
abbrev rmL_bin : Room := { frames := 7, cells := 1, slots := 6, locals := 122 }
theorem kL_bin_37 : Cond.classLink RL 37 "java/lang/IndexOutOfBoundsException" ∈ wsL_bin := by decide +kernel
def wpL_bin (A : SA) (V : SV) (A2 : SA) (V2 : SV) (o : Nat → Int64) (x1 : Int32) (x2 : Int32) (Q : Int32 → SA → SV → SA → SV → (Nat → Int64) → Prop) : Prop := wpX5_bin A V A2 V2 x1 x2 (fun r B W B2 W2 => Q 0 B W B2 W2 (vp_updL o 0 r.toInt64)) (fun E B W B2 W2 => (E = "java/lang/IndexOutOfBoundsException" ∧ Q 1 B W B2 W2 o))
set_option maxHeartbeats 4000000 in
set_option maxRecDepth 100000 in
theorem metL_bin (l : Launch) (hlt : l.stackTraces = false) (D : va_G) (cI cZ cJ : ClassId) (xa oa : Nat) (ad ad2 : Nat → Nat) (sz : Nat) (A : SA) (V : SV) (A2 : SA) (V2 : SV) (o : Nat → Int64) (x1 : Int32) (x2 : Int32) (Q : Int32 → SA → SV → SA → SV → (Nat → Int64) → Prop) (h : wpL_bin A V A2 V2 o x1 x2 Q) : Met l yL_bin wsL_bin rmL_bin (PcX D (tysL cI cZ cJ) (wL xa oa ad ad2 cI cZ cJ A V A2 V2 o) sz [.ref xa, .int x1, .int x2, .ref oa]) (QiW D (tysL cI cZ cJ) (wL xa oa ad ad2 cI cZ cJ A V A2 V2 o) sz (fun u : SA × SV × SA × SV × (Nat → Int64) => wL xa oa ad ad2 cI cZ cJ u.1 u.2.1 u.2.2.1 u.2.2.2.1 u.2.2.2.2) (fun r u => Q r u.1 u.2.1 u.2.2.1 u.2.2.2.1 u.2.2.2.2)) rmL_bin.cells rmL_bin.slots (va_A (wL xa oa ad ad2 cI cZ cJ A V A2 V2 o) sz) := by
  refine startLW (by decide) rfl (Nat.le_of_ble_eq_true rfl) ?_
  intro p e s m args below meth c A0 Z cx hw hXP htab hret ls hl
  obtain ⟨hx, hb, hml, hown, hts, hK, hA⟩ := id cx
  have hl : lv_has ls 5 [(0, .ref xa), (1, .int x1), (2, .int x2), (3, .ref oa)] := hl
  refine lv_aload_n (pc := 0) hx hb dL_bin_0 rfl (lv_at hl 3 rfl) ?_
  refine lv_iconst (pc := 1) (v := (0 : Int32)) hx hb dL_bin_1 (by decide) ?_
  refine lv_aload_n (pc := 2) hx hb dL_bin_2 rfl (lv_at hl 0 rfl) ?_
  refine lv_iload_n (pc := 3) hx hb dL_bin_3 rfl (lv_at hl 1 rfl) ?_
  refine lv_iload_n (pc := 4) hx hb dL_bin_4 rfl (lv_at hl 2 rfl) ?_
  refine callXi (pc := 5) (rest := [.int 0, .ref oa]) (c1 := 1) (s1 := 6) cx hw hl hXP (metX5_bin l hlt D cI cZ xa ad ad2 s.heap.size A V A2 V2 x1 x2 _ _ h) (fun hts => cwV 2 hts gL_bin_X5_bin rfl rfl rfl (by decide +kernel) ⟨Nat.le_of_ble_eq_true rfl, Nat.le_of_ble_eq_true rfl⟩) subL [0, 1] rfl 0 (ci := 5) rfl rfl rfl jnL rfl rfl (Nat.le_of_ble_eq_true rfl) ⟨Nat.le_of_ble_eq_true rfl, Nat.le_of_ble_eq_true rfl⟩ rfl rfl dL_bin_5 (fun E ce q9 u H locs h hw hce hcv hcl => ?_) (fun r u H locs h hw => ?_)
  · obtain ⟨B, W9, B2, W2⟩ := u
    obtain ⟨rfl, h⟩ := h
    · refine vx_catch (pc := 5) (own := RL) (name := "java/lang/IndexOutOfBoundsException") hown [] ⟨0, 10, 13, 37⟩ [] htab (fun z hz => by cases hz) rfl (by decide) (hts _ kL_bin_37) (va_tabs (badw_tab _ (badw_cast ("java/lang/IndexOutOfBoundsException", (98, 102)) (by decide))) (u := s) (U := s) rfl (hXP.2.2.1 _ (badw_cast ("java/lang/IndexOutOfBoundsException", (98, 102)) (by decide)))) hce hcv hcl ?_
      refine lv_astore (pc := 13) (lv' := [(4, .ref q9), (0, .ref xa), (1, .int x1), (2, .int x2), (3, .ref oa)]) hx hb dL_bin_13 hl (by decide) rfl (fun ls hl => ?_)
      refine lv_iconst (pc := 15) (v := (1 : Int32)) hx hb dL_bin_15 (by decide) ?_
      exact hret 16 _ _ (B, W9, B2, W2, o) _ _ dL_bin_16 h hw
  · obtain ⟨B, W9, B2, W2⟩ := u
    refine lv_i2l (pc := 8) (v := r.toInt64) hx hb dL_bin_8 rfl ?_
    refine asL (pc := 9) cx hw dL_bin_9 (fun H locs hw => ?_)
    refine lv_goto (pc := 10) (tgt := 17) hx hb dL_bin_10 (by decide) ?_
    refine lv_iconst (pc := 17) (v := (0 : Int32)) hx hb dL_bin_17 (by decide) ?_
    exact hret 18 _ _ (B, W9, B2, W2, vp_updL o 0 r.toInt64) _ _ dL_bin_18 h hw
abbrev rmL_pass : Room := { frames := 7, cells := 1, slots := 6, locals := 217 }
theorem kL_pass_13 : Cond.classLink RL 13 "java/lang/IllegalArgumentException" ∈ wsL_pass := by decide +kernel
def wpL_pass (A : SA) (V : SV) (A2 : SA) (V2 : SV) (o : Nat → Int64) (x1 : Int32) (Q : Int32 → SA → SV → SA → SV → (Nat → Int64) → Prop) : Prop := wpX5_pass A V A2 V2 x1 (fun r B W B2 W2 => Q 0 B W B2 W2 (vp_updL o 0 r.toInt64)) (fun E B W B2 W2 => (E = "java/lang/IllegalArgumentException" ∧ Q 1 B W B2 W2 o))
set_option maxHeartbeats 4000000 in
set_option maxRecDepth 100000 in
theorem metL_pass (l : Launch) (hlt : l.stackTraces = false) (D : va_G) (cI cZ cJ : ClassId) (xa oa : Nat) (ad ad2 : Nat → Nat) (sz : Nat) (A : SA) (V : SV) (A2 : SA) (V2 : SV) (o : Nat → Int64) (x1 : Int32) (Q : Int32 → SA → SV → SA → SV → (Nat → Int64) → Prop) (h : wpL_pass A V A2 V2 o x1 Q) : Met l yL_pass wsL_pass rmL_pass (PcX D (tysL cI cZ cJ) (wL xa oa ad ad2 cI cZ cJ A V A2 V2 o) sz [.ref xa, .int x1, .ref oa]) (QiW D (tysL cI cZ cJ) (wL xa oa ad ad2 cI cZ cJ A V A2 V2 o) sz (fun u : SA × SV × SA × SV × (Nat → Int64) => wL xa oa ad ad2 cI cZ cJ u.1 u.2.1 u.2.2.1 u.2.2.2.1 u.2.2.2.2) (fun r u => Q r u.1 u.2.1 u.2.2.1 u.2.2.2.1 u.2.2.2.2)) rmL_pass.cells rmL_pass.slots (va_A (wL xa oa ad ad2 cI cZ cJ A V A2 V2 o) sz) := by
  refine startLW (by decide) rfl (Nat.le_of_ble_eq_true rfl) ?_
  intro p e s m args below meth c A0 Z cx hw hXP htab hret ls hl
  obtain ⟨hx, hb, hml, hown, hts, hK, hA⟩ := id cx
  have hl : lv_has ls 4 [(0, .ref xa), (1, .int x1), (2, .ref oa)] := hl
  refine lv_aload_n (pc := 0) hx hb dL_pass_0 rfl (lv_at hl 2 rfl) ?_
  refine lv_iconst (pc := 1) (v := (0 : Int32)) hx hb dL_pass_1 (by decide) ?_
  refine lv_aload_n (pc := 2) hx hb dL_pass_2 rfl (lv_at hl 0 rfl) ?_
  refine lv_iload_n (pc := 3) hx hb dL_pass_3 rfl (lv_at hl 1 rfl) ?_
  refine callXi (pc := 4) (rest := [.int 0, .ref oa]) (c1 := 1) (s1 := 6) cx hw hl hXP (metX5_pass l hlt D cI cZ xa ad ad2 s.heap.size A V A2 V2 x1 _ _ h) (fun hts => cwV 1 hts gL_pass_X5_pass rfl rfl rfl (by decide +kernel) ⟨Nat.le_of_ble_eq_true rfl, Nat.le_of_ble_eq_true rfl⟩) subL [0, 1] rfl 0 (ci := 5) rfl rfl rfl jnL rfl rfl (Nat.le_of_ble_eq_true rfl) ⟨Nat.le_of_ble_eq_true rfl, Nat.le_of_ble_eq_true rfl⟩ rfl rfl dL_pass_4 (fun E ce q9 u H locs h hw hce hcv hcl => ?_) (fun r u H locs h hw => ?_)
  · obtain ⟨B, W9, B2, W2⟩ := u
    obtain ⟨rfl, h⟩ := h
    · refine vx_catch (pc := 4) (own := RL) (name := "java/lang/IllegalArgumentException") hown [] ⟨0, 9, 12, 13⟩ [] htab (fun z hz => by cases hz) rfl (by decide) (hts _ kL_pass_13) (va_tabs (badw_tab _ (badw_cast ("java/lang/IllegalArgumentException", (23, 27)) (by decide))) (u := s) (U := s) rfl (hXP.2.2.1 _ (badw_cast ("java/lang/IllegalArgumentException", (23, 27)) (by decide)))) hce hcv hcl ?_
      refine lv_astore_n (pc := 12) (lv' := [(3, .ref q9), (0, .ref xa), (1, .int x1), (2, .ref oa)]) hx hb dL_pass_12 rfl hl (by decide) rfl (fun ls hl => ?_)
      refine lv_iconst (pc := 13) (v := (1 : Int32)) hx hb dL_pass_13 (by decide) ?_
      exact hret 14 _ _ (B, W9, B2, W2, o) _ _ dL_pass_14 h hw
  · obtain ⟨B, W9, B2, W2⟩ := u
    refine lv_i2l (pc := 7) (v := r.toInt64) hx hb dL_pass_7 rfl ?_
    refine asL (pc := 8) cx hw dL_pass_8 (fun H locs hw => ?_)
    refine lv_goto (pc := 9) (tgt := 15) hx hb dL_pass_9 (by decide) ?_
    refine lv_iconst (pc := 15) (v := (0 : Int32)) hx hb dL_pass_15 (by decide) ?_
    exact hret 16 _ _ (B, W9, B2, W2, vp_updL o 0 r.toInt64) _ _ dL_pass_16 h hw
abbrev rmL_count : Room := { frames := 7, cells := 1, slots := 6, locals := 121 }
theorem kL_count_37 : Cond.classLink RL 37 "java/lang/IndexOutOfBoundsException" ∈ wsL_count := by decide +kernel
def wpL_count (A : SA) (V : SV) (A2 : SA) (V2 : SV) (o : Nat → Int64) (x1 : Int32) (Q : Int32 → SA → SV → SA → SV → (Nat → Int64) → Prop) : Prop := wpX5_count A V A2 V2 x1 (fun r B W B2 W2 => Q 0 B W B2 W2 (vp_updL o 0 r.toInt64)) (fun E B W B2 W2 => (E = "java/lang/IndexOutOfBoundsException" ∧ Q 1 B W B2 W2 o))
set_option maxHeartbeats 4000000 in
set_option maxRecDepth 100000 in
theorem metL_count (l : Launch) (hlt : l.stackTraces = false) (D : va_G) (cI cZ cJ : ClassId) (xa oa : Nat) (ad ad2 : Nat → Nat) (sz : Nat) (A : SA) (V : SV) (A2 : SA) (V2 : SV) (o : Nat → Int64) (x1 : Int32) (Q : Int32 → SA → SV → SA → SV → (Nat → Int64) → Prop) (h : wpL_count A V A2 V2 o x1 Q) : Met l yL_count wsL_count rmL_count (PcX D (tysL cI cZ cJ) (wL xa oa ad ad2 cI cZ cJ A V A2 V2 o) sz [.ref xa, .int x1, .ref oa]) (QiW D (tysL cI cZ cJ) (wL xa oa ad ad2 cI cZ cJ A V A2 V2 o) sz (fun u : SA × SV × SA × SV × (Nat → Int64) => wL xa oa ad ad2 cI cZ cJ u.1 u.2.1 u.2.2.1 u.2.2.2.1 u.2.2.2.2) (fun r u => Q r u.1 u.2.1 u.2.2.1 u.2.2.2.1 u.2.2.2.2)) rmL_count.cells rmL_count.slots (va_A (wL xa oa ad ad2 cI cZ cJ A V A2 V2 o) sz) := by
  refine startLW (by decide) rfl (Nat.le_of_ble_eq_true rfl) ?_
  intro p e s m args below meth c A0 Z cx hw hXP htab hret ls hl
  obtain ⟨hx, hb, hml, hown, hts, hK, hA⟩ := id cx
  have hl : lv_has ls 4 [(0, .ref xa), (1, .int x1), (2, .ref oa)] := hl
  refine lv_aload_n (pc := 0) hx hb dL_count_0 rfl (lv_at hl 2 rfl) ?_
  refine lv_iconst (pc := 1) (v := (0 : Int32)) hx hb dL_count_1 (by decide) ?_
  refine lv_aload_n (pc := 2) hx hb dL_count_2 rfl (lv_at hl 0 rfl) ?_
  refine lv_iload_n (pc := 3) hx hb dL_count_3 rfl (lv_at hl 1 rfl) ?_
  refine callXi (pc := 4) (rest := [.int 0, .ref oa]) (c1 := 1) (s1 := 6) cx hw hl hXP (metX5_count l hlt D cI cZ xa ad ad2 s.heap.size A V A2 V2 x1 _ _ h) (fun hts => cwV 1 hts gL_count_X5_count rfl rfl rfl (by decide +kernel) ⟨Nat.le_of_ble_eq_true rfl, Nat.le_of_ble_eq_true rfl⟩) subL [0, 1] rfl 0 (ci := 5) rfl rfl rfl jnL rfl rfl (Nat.le_of_ble_eq_true rfl) ⟨Nat.le_of_ble_eq_true rfl, Nat.le_of_ble_eq_true rfl⟩ rfl rfl dL_count_4 (fun E ce q9 u H locs h hw hce hcv hcl => ?_) (fun r u H locs h hw => ?_)
  · obtain ⟨B, W9, B2, W2⟩ := u
    obtain ⟨rfl, h⟩ := h
    · refine vx_catch (pc := 4) (own := RL) (name := "java/lang/IndexOutOfBoundsException") hown [] ⟨0, 9, 12, 37⟩ [] htab (fun z hz => by cases hz) rfl (by decide) (hts _ kL_count_37) (va_tabs (badw_tab _ (badw_cast ("java/lang/IndexOutOfBoundsException", (98, 102)) (by decide))) (u := s) (U := s) rfl (hXP.2.2.1 _ (badw_cast ("java/lang/IndexOutOfBoundsException", (98, 102)) (by decide)))) hce hcv hcl ?_
      refine lv_astore_n (pc := 12) (lv' := [(3, .ref q9), (0, .ref xa), (1, .int x1), (2, .ref oa)]) hx hb dL_count_12 rfl hl (by decide) rfl (fun ls hl => ?_)
      refine lv_iconst (pc := 13) (v := (1 : Int32)) hx hb dL_count_13 (by decide) ?_
      exact hret 14 _ _ (B, W9, B2, W2, o) _ _ dL_count_14 h hw
  · obtain ⟨B, W9, B2, W2⟩ := u
    refine lv_i2l (pc := 7) (v := r.toInt64) hx hb dL_count_7 rfl ?_
    refine asL (pc := 8) cx hw dL_count_8 (fun H locs hw => ?_)
    refine lv_goto (pc := 9) (tgt := 15) hx hb dL_count_9 (by decide) ?_
    refine lv_iconst (pc := 15) (v := (0 : Int32)) hx hb dL_count_15 (by decide) ?_
    exact hret 16 _ _ (B, W9, B2, W2, vp_updL o 0 r.toInt64) _ _ dL_count_16 h hw
abbrev rmL_binFor : Room := { frames := 7, cells := 1, slots := 6, locals := 149 }
theorem kL_binFor_37 : Cond.classLink RL 37 "java/lang/IndexOutOfBoundsException" ∈ wsL_binFor := by decide +kernel
def wpL_binFor (A : SA) (V : SV) (A2 : SA) (V2 : SV) (o : Nat → Int64) (x1 : Int32) (Q : Int32 → SA → SV → SA → SV → (Nat → Int64) → Prop) : Prop := wpX5_binFor A V A2 V2 x1 (fun r B W B2 W2 => Q 0 B W B2 W2 (vp_updL o 0 r.toInt64)) (fun E B W B2 W2 => (E = "java/lang/IndexOutOfBoundsException" ∧ Q 1 B W B2 W2 o))
set_option maxHeartbeats 4000000 in
set_option maxRecDepth 100000 in
theorem metL_binFor (l : Launch) (hlt : l.stackTraces = false) (D : va_G) (cI cZ cJ : ClassId) (xa oa : Nat) (ad ad2 : Nat → Nat) (sz : Nat) (A : SA) (V : SV) (A2 : SA) (V2 : SV) (o : Nat → Int64) (x1 : Int32) (Q : Int32 → SA → SV → SA → SV → (Nat → Int64) → Prop) (h : wpL_binFor A V A2 V2 o x1 Q) : Met l yL_binFor wsL_binFor rmL_binFor (PcX D (tysL cI cZ cJ) (wL xa oa ad ad2 cI cZ cJ A V A2 V2 o) sz [.ref xa, .int x1, .ref oa]) (QiW D (tysL cI cZ cJ) (wL xa oa ad ad2 cI cZ cJ A V A2 V2 o) sz (fun u : SA × SV × SA × SV × (Nat → Int64) => wL xa oa ad ad2 cI cZ cJ u.1 u.2.1 u.2.2.1 u.2.2.2.1 u.2.2.2.2) (fun r u => Q r u.1 u.2.1 u.2.2.1 u.2.2.2.1 u.2.2.2.2)) rmL_binFor.cells rmL_binFor.slots (va_A (wL xa oa ad ad2 cI cZ cJ A V A2 V2 o) sz) := by
  refine startLW (by decide) rfl (Nat.le_of_ble_eq_true rfl) ?_
  intro p e s m args below meth c A0 Z cx hw hXP htab hret ls hl
  obtain ⟨hx, hb, hml, hown, hts, hK, hA⟩ := id cx
  have hl : lv_has ls 4 [(0, .ref xa), (1, .int x1), (2, .ref oa)] := hl
  refine lv_aload_n (pc := 0) hx hb dL_binFor_0 rfl (lv_at hl 2 rfl) ?_
  refine lv_iconst (pc := 1) (v := (0 : Int32)) hx hb dL_binFor_1 (by decide) ?_
  refine lv_aload_n (pc := 2) hx hb dL_binFor_2 rfl (lv_at hl 0 rfl) ?_
  refine lv_iload_n (pc := 3) hx hb dL_binFor_3 rfl (lv_at hl 1 rfl) ?_
  refine callXi (pc := 4) (rest := [.int 0, .ref oa]) (c1 := 1) (s1 := 6) cx hw hl hXP (metX5_binFor l hlt D cI cZ xa ad ad2 s.heap.size A V A2 V2 x1 _ _ h) (fun hts => cwV 1 hts gL_binFor_X5_binFor rfl rfl rfl (by decide +kernel) ⟨Nat.le_of_ble_eq_true rfl, Nat.le_of_ble_eq_true rfl⟩) subL [0, 1] rfl 0 (ci := 5) rfl rfl rfl jnL rfl rfl (Nat.le_of_ble_eq_true rfl) ⟨Nat.le_of_ble_eq_true rfl, Nat.le_of_ble_eq_true rfl⟩ rfl rfl dL_binFor_4 (fun E ce q9 u H locs h hw hce hcv hcl => ?_) (fun r u H locs h hw => ?_)
  · obtain ⟨B, W9, B2, W2⟩ := u
    obtain ⟨rfl, h⟩ := h
    · refine vx_catch (pc := 4) (own := RL) (name := "java/lang/IndexOutOfBoundsException") hown [] ⟨0, 9, 12, 37⟩ [] htab (fun z hz => by cases hz) rfl (by decide) (hts _ kL_binFor_37) (va_tabs (badw_tab _ (badw_cast ("java/lang/IndexOutOfBoundsException", (98, 102)) (by decide))) (u := s) (U := s) rfl (hXP.2.2.1 _ (badw_cast ("java/lang/IndexOutOfBoundsException", (98, 102)) (by decide)))) hce hcv hcl ?_
      refine lv_astore_n (pc := 12) (lv' := [(3, .ref q9), (0, .ref xa), (1, .int x1), (2, .ref oa)]) hx hb dL_binFor_12 rfl hl (by decide) rfl (fun ls hl => ?_)
      refine lv_iconst (pc := 13) (v := (1 : Int32)) hx hb dL_binFor_13 (by decide) ?_
      exact hret 14 _ _ (B, W9, B2, W2, o) _ _ dL_binFor_14 h hw
  · obtain ⟨B, W9, B2, W2⟩ := u
    refine lv_i2l (pc := 7) (v := r.toInt64) hx hb dL_binFor_7 rfl ?_
    refine asL (pc := 8) cx hw dL_binFor_8 (fun H locs hw => ?_)
    refine lv_goto (pc := 9) (tgt := 15) hx hb dL_binFor_9 (by decide) ?_
    refine lv_iconst (pc := 15) (v := (0 : Int32)) hx hb dL_binFor_15 (by decide) ?_
    exact hret 16 _ _ (B, W9, B2, W2, vp_updL o 0 r.toInt64) _ _ dL_binFor_16 h hw
abbrev rmL_foresee : Room := { frames := 7, cells := 1, slots := 6, locals := 219 }
theorem kL_foresee_13 : Cond.classLink RL 13 "java/lang/IllegalArgumentException" ∈ wsL_foresee := by decide +kernel
theorem kL_foresee_37 : Cond.classLink RL 37 "java/lang/IndexOutOfBoundsException" ∈ wsL_foresee := by decide +kernel
def wpL_foresee (A : SA) (V : SV) (A2 : SA) (V2 : SV) (o : Nat → Int64) (x1 : Int32) (x2 : Int32) (Q : Int32 → SA → SV → SA → SV → (Nat → Int64) → Prop) : Prop := wpX5_foresee A V A2 V2 x1 x2 (fun r B W B2 W2 => Q 0 B W B2 W2 (vp_updL o 0 r.toInt64)) (fun E B W B2 W2 => (E = "java/lang/IllegalArgumentException" ∧ Q 1 B W B2 W2 o) ∨ (E = "java/lang/IndexOutOfBoundsException" ∧ Q 2 B W B2 W2 o))
set_option maxHeartbeats 4000000 in
set_option maxRecDepth 100000 in
theorem metL_foresee (l : Launch) (hlt : l.stackTraces = false) (D : va_G) (cI cZ cJ : ClassId) (xa oa : Nat) (ad ad2 : Nat → Nat) (sz : Nat) (A : SA) (V : SV) (A2 : SA) (V2 : SV) (o : Nat → Int64) (x1 : Int32) (x2 : Int32) (Q : Int32 → SA → SV → SA → SV → (Nat → Int64) → Prop) (h : wpL_foresee A V A2 V2 o x1 x2 Q) : Met l yL_foresee wsL_foresee rmL_foresee (PcX D (tysL cI cZ cJ) (wL xa oa ad ad2 cI cZ cJ A V A2 V2 o) sz [.ref xa, .int x1, .int x2, .ref oa]) (QiW D (tysL cI cZ cJ) (wL xa oa ad ad2 cI cZ cJ A V A2 V2 o) sz (fun u : SA × SV × SA × SV × (Nat → Int64) => wL xa oa ad ad2 cI cZ cJ u.1 u.2.1 u.2.2.1 u.2.2.2.1 u.2.2.2.2) (fun r u => Q r u.1 u.2.1 u.2.2.1 u.2.2.2.1 u.2.2.2.2)) rmL_foresee.cells rmL_foresee.slots (va_A (wL xa oa ad ad2 cI cZ cJ A V A2 V2 o) sz) := by
  refine startLW (by decide) rfl (Nat.le_of_ble_eq_true rfl) ?_
  intro p e s m args below meth c A0 Z cx hw hXP htab hret ls hl
  obtain ⟨hx, hb, hml, hown, hts, hK, hA⟩ := id cx
  have hl : lv_has ls 5 [(0, .ref xa), (1, .int x1), (2, .int x2), (3, .ref oa)] := hl
  refine lv_aload_n (pc := 0) hx hb dL_foresee_0 rfl (lv_at hl 3 rfl) ?_
  refine lv_iconst (pc := 1) (v := (0 : Int32)) hx hb dL_foresee_1 (by decide) ?_
  refine lv_aload_n (pc := 2) hx hb dL_foresee_2 rfl (lv_at hl 0 rfl) ?_
  refine lv_iload_n (pc := 3) hx hb dL_foresee_3 rfl (lv_at hl 1 rfl) ?_
  refine lv_iload_n (pc := 4) hx hb dL_foresee_4 rfl (lv_at hl 2 rfl) ?_
  refine callXi (pc := 5) (rest := [.int 0, .ref oa]) (c1 := 1) (s1 := 6) cx hw hl hXP (metX5_foresee l hlt D cI cZ xa ad ad2 s.heap.size A V A2 V2 x1 x2 _ _ h) (fun hts => cwV 2 hts gL_foresee_X5_foresee rfl rfl rfl (by decide +kernel) ⟨Nat.le_of_ble_eq_true rfl, Nat.le_of_ble_eq_true rfl⟩) subL [0, 1] rfl 0 (ci := 5) rfl rfl rfl jnL rfl rfl (Nat.le_of_ble_eq_true rfl) ⟨Nat.le_of_ble_eq_true rfl, Nat.le_of_ble_eq_true rfl⟩ rfl rfl dL_foresee_5 (fun E ce q9 u H locs h hw hce hcv hcl => ?_) (fun r u H locs h hw => ?_)
  · obtain ⟨B, W9, B2, W2⟩ := u
    rcases h with ⟨rfl, h⟩ | ⟨rfl, h⟩
    · refine vx_catch (pc := 5) (own := RL) (name := "java/lang/IllegalArgumentException") hown [] ⟨0, 10, 13, 13⟩ [⟨0, 10, 17, 37⟩] htab (fun z hz => by cases hz) rfl (by decide) (hts _ kL_foresee_13) (va_tabs (badw_tab _ (badw_cast ("java/lang/IllegalArgumentException", (23, 27)) (by decide))) (u := s) (U := s) rfl (hXP.2.2.1 _ (badw_cast ("java/lang/IllegalArgumentException", (23, 27)) (by decide)))) hce hcv hcl ?_
      refine lv_astore (pc := 13) (lv' := [(4, .ref q9), (0, .ref xa), (1, .int x1), (2, .int x2), (3, .ref oa)]) hx hb dL_foresee_13 hl (by decide) rfl (fun ls hl => ?_)
      refine lv_iconst (pc := 15) (v := (1 : Int32)) hx hb dL_foresee_15 (by decide) ?_
      exact hret 16 _ _ (B, W9, B2, W2, o) _ _ dL_foresee_16 h hw
    · refine vx_catch (pc := 5) (own := RL) (name := "java/lang/IndexOutOfBoundsException") hown [⟨0, 10, 13, 13⟩] ⟨0, 10, 17, 37⟩ [] htab (fun z hz => by
        rcases List.mem_cons.mp hz with rfl | hz
        · exact Or.inr ⟨by decide, "java/lang/IllegalArgumentException", hts _ kL_foresee_13, hXP.2.2.2.1 ("java/lang/IndexOutOfBoundsException", "java/lang/IllegalArgumentException") (by decide)⟩
        cases hz) rfl (by decide) (hts _ kL_foresee_37) (va_tabs (badw_tab _ (badw_cast ("java/lang/IndexOutOfBoundsException", (98, 102)) (by decide))) (u := s) (U := s) rfl (hXP.2.2.1 _ (badw_cast ("java/lang/IndexOutOfBoundsException", (98, 102)) (by decide)))) hce hcv hcl ?_
      refine lv_astore (pc := 17) (lv' := [(4, .ref q9), (0, .ref xa), (1, .int x1), (2, .int x2), (3, .ref oa)]) hx hb dL_foresee_17 hl (by decide) rfl (fun ls hl => ?_)
      refine lv_iconst (pc := 19) (v := (2 : Int32)) hx hb dL_foresee_19 (by decide) ?_
      exact hret 20 _ _ (B, W9, B2, W2, o) _ _ dL_foresee_20 h hw
  · obtain ⟨B, W9, B2, W2⟩ := u
    refine lv_i2l (pc := 8) (v := r.toInt64) hx hb dL_foresee_8 rfl ?_
    refine asL (pc := 9) cx hw dL_foresee_9 (fun H locs hw => ?_)
    refine lv_goto (pc := 10) (tgt := 21) hx hb dL_foresee_10 (by decide) ?_
    refine lv_iconst (pc := 21) (v := (0 : Int32)) hx hb dL_foresee_21 (by decide) ?_
    exact hret 22 _ _ (B, W9, B2, W2, vp_updL o 0 r.toInt64) _ _ dL_foresee_22 h hw
abbrev rmL_fate : Room := { frames := 7, cells := 1, slots := 6, locals := 218 }
theorem kL_fate_37 : Cond.classLink RL 37 "java/lang/IndexOutOfBoundsException" ∈ wsL_fate := by decide +kernel
theorem kL_fate_13 : Cond.classLink RL 13 "java/lang/IllegalArgumentException" ∈ wsL_fate := by decide +kernel
def wpL_fate (A : SA) (V : SV) (A2 : SA) (V2 : SV) (o : Nat → Int64) (x1 : Int32) (x2 : Int32) (Q : Int32 → SA → SV → SA → SV → (Nat → Int64) → Prop) : Prop := wpX5_fate A V A2 V2 x1 x2 (fun r B W B2 W2 => Q 0 B W B2 W2 (vp_updL o 0 r.toInt64)) (fun E B W B2 W2 => (E = "java/lang/IndexOutOfBoundsException" ∧ Q 1 B W B2 W2 o) ∨ (E = "java/lang/IllegalArgumentException" ∧ Q 2 B W B2 W2 o))
set_option maxHeartbeats 4000000 in
set_option maxRecDepth 100000 in
theorem metL_fate (l : Launch) (hlt : l.stackTraces = false) (D : va_G) (cI cZ cJ : ClassId) (xa oa : Nat) (ad ad2 : Nat → Nat) (sz : Nat) (A : SA) (V : SV) (A2 : SA) (V2 : SV) (o : Nat → Int64) (x1 : Int32) (x2 : Int32) (Q : Int32 → SA → SV → SA → SV → (Nat → Int64) → Prop) (h : wpL_fate A V A2 V2 o x1 x2 Q) : Met l yL_fate wsL_fate rmL_fate (PcX D (tysL cI cZ cJ) (wL xa oa ad ad2 cI cZ cJ A V A2 V2 o) sz [.ref xa, .int x1, .int x2, .ref oa]) (QiW D (tysL cI cZ cJ) (wL xa oa ad ad2 cI cZ cJ A V A2 V2 o) sz (fun u : SA × SV × SA × SV × (Nat → Int64) => wL xa oa ad ad2 cI cZ cJ u.1 u.2.1 u.2.2.1 u.2.2.2.1 u.2.2.2.2) (fun r u => Q r u.1 u.2.1 u.2.2.1 u.2.2.2.1 u.2.2.2.2)) rmL_fate.cells rmL_fate.slots (va_A (wL xa oa ad ad2 cI cZ cJ A V A2 V2 o) sz) := by
  refine startLW (by decide) rfl (Nat.le_of_ble_eq_true rfl) ?_
  intro p e s m args below meth c A0 Z cx hw hXP htab hret ls hl
  obtain ⟨hx, hb, hml, hown, hts, hK, hA⟩ := id cx
  have hl : lv_has ls 5 [(0, .ref xa), (1, .int x1), (2, .int x2), (3, .ref oa)] := hl
  refine lv_aload_n (pc := 0) hx hb dL_fate_0 rfl (lv_at hl 3 rfl) ?_
  refine lv_iconst (pc := 1) (v := (0 : Int32)) hx hb dL_fate_1 (by decide) ?_
  refine lv_aload_n (pc := 2) hx hb dL_fate_2 rfl (lv_at hl 0 rfl) ?_
  refine lv_iload_n (pc := 3) hx hb dL_fate_3 rfl (lv_at hl 1 rfl) ?_
  refine lv_iload_n (pc := 4) hx hb dL_fate_4 rfl (lv_at hl 2 rfl) ?_
  refine callXi (pc := 5) (rest := [.int 0, .ref oa]) (c1 := 1) (s1 := 6) cx hw hl hXP (metX5_fate l hlt D cI cZ xa ad ad2 s.heap.size A V A2 V2 x1 x2 _ _ h) (fun hts => cwV 2 hts gL_fate_X5_fate rfl rfl rfl (by decide +kernel) ⟨Nat.le_of_ble_eq_true rfl, Nat.le_of_ble_eq_true rfl⟩) subL [0, 1] rfl 0 (ci := 5) rfl rfl rfl jnL rfl rfl (Nat.le_of_ble_eq_true rfl) ⟨Nat.le_of_ble_eq_true rfl, Nat.le_of_ble_eq_true rfl⟩ rfl rfl dL_fate_5 (fun E ce q9 u H locs h hw hce hcv hcl => ?_) (fun r u H locs h hw => ?_)
  · obtain ⟨B, W9, B2, W2⟩ := u
    rcases h with ⟨rfl, h⟩ | ⟨rfl, h⟩
    · refine vx_catch (pc := 5) (own := RL) (name := "java/lang/IndexOutOfBoundsException") hown [] ⟨0, 10, 13, 37⟩ [⟨0, 10, 17, 13⟩] htab (fun z hz => by cases hz) rfl (by decide) (hts _ kL_fate_37) (va_tabs (badw_tab _ (badw_cast ("java/lang/IndexOutOfBoundsException", (98, 102)) (by decide))) (u := s) (U := s) rfl (hXP.2.2.1 _ (badw_cast ("java/lang/IndexOutOfBoundsException", (98, 102)) (by decide)))) hce hcv hcl ?_
      refine lv_astore (pc := 13) (lv' := [(4, .ref q9), (0, .ref xa), (1, .int x1), (2, .int x2), (3, .ref oa)]) hx hb dL_fate_13 hl (by decide) rfl (fun ls hl => ?_)
      refine lv_iconst (pc := 15) (v := (1 : Int32)) hx hb dL_fate_15 (by decide) ?_
      exact hret 16 _ _ (B, W9, B2, W2, o) _ _ dL_fate_16 h hw
    · refine vx_catch (pc := 5) (own := RL) (name := "java/lang/IllegalArgumentException") hown [⟨0, 10, 13, 37⟩] ⟨0, 10, 17, 13⟩ [] htab (fun z hz => by
        rcases List.mem_cons.mp hz with rfl | hz
        · exact Or.inr ⟨by decide, "java/lang/IndexOutOfBoundsException", hts _ kL_fate_37, hXP.2.2.2.1 ("java/lang/IllegalArgumentException", "java/lang/IndexOutOfBoundsException") (by decide)⟩
        cases hz) rfl (by decide) (hts _ kL_fate_13) (va_tabs (badw_tab _ (badw_cast ("java/lang/IllegalArgumentException", (23, 27)) (by decide))) (u := s) (U := s) rfl (hXP.2.2.1 _ (badw_cast ("java/lang/IllegalArgumentException", (23, 27)) (by decide)))) hce hcv hcl ?_
      refine lv_astore (pc := 17) (lv' := [(4, .ref q9), (0, .ref xa), (1, .int x1), (2, .int x2), (3, .ref oa)]) hx hb dL_fate_17 hl (by decide) rfl (fun ls hl => ?_)
      refine lv_iconst (pc := 19) (v := (2 : Int32)) hx hb dL_fate_19 (by decide) ?_
      exact hret 20 _ _ (B, W9, B2, W2, o) _ _ dL_fate_20 h hw
  · obtain ⟨B, W9, B2, W2⟩ := u
    refine lv_i2l (pc := 8) (v := r.toInt64) hx hb dL_fate_8 rfl ?_
    refine asL (pc := 9) cx hw dL_fate_9 (fun H locs hw => ?_)
    refine lv_goto (pc := 10) (tgt := 21) hx hb dL_fate_10 (by decide) ?_
    refine lv_iconst (pc := 21) (v := (0 : Int32)) hx hb dL_fate_21 (by decide) ?_
    exact hret 22 _ _ (B, W9, B2, W2, vp_updL o 0 r.toInt64) _ _ dL_fate_22 h hw
abbrev rmL_reaches : Room := { frames := 7, cells := 1, slots := 6, locals := 122 }
theorem kL_reaches_37 : Cond.classLink RL 37 "java/lang/IndexOutOfBoundsException" ∈ wsL_reaches := by decide +kernel
def wpL_reaches (A : SA) (V : SV) (A2 : SA) (V2 : SV) (o : Nat → Int64) (x1 : Int32) (x2 : Int32) (Q : Int32 → SA → SV → SA → SV → (Nat → Int64) → Prop) : Prop := wpX5_reaches A V A2 V2 x1 x2 (fun r B W B2 W2 => Q 0 B W B2 W2 (vp_updL o 0 r.toInt64)) (fun E B W B2 W2 => (E = "java/lang/IndexOutOfBoundsException" ∧ Q 1 B W B2 W2 o))
set_option maxHeartbeats 4000000 in
set_option maxRecDepth 100000 in
theorem metL_reaches (l : Launch) (hlt : l.stackTraces = false) (D : va_G) (cI cZ cJ : ClassId) (xa oa : Nat) (ad ad2 : Nat → Nat) (sz : Nat) (A : SA) (V : SV) (A2 : SA) (V2 : SV) (o : Nat → Int64) (x1 : Int32) (x2 : Int32) (Q : Int32 → SA → SV → SA → SV → (Nat → Int64) → Prop) (h : wpL_reaches A V A2 V2 o x1 x2 Q) : Met l yL_reaches wsL_reaches rmL_reaches (PcX D (tysL cI cZ cJ) (wL xa oa ad ad2 cI cZ cJ A V A2 V2 o) sz [.ref xa, .int x1, .int x2, .ref oa]) (QiW D (tysL cI cZ cJ) (wL xa oa ad ad2 cI cZ cJ A V A2 V2 o) sz (fun u : SA × SV × SA × SV × (Nat → Int64) => wL xa oa ad ad2 cI cZ cJ u.1 u.2.1 u.2.2.1 u.2.2.2.1 u.2.2.2.2) (fun r u => Q r u.1 u.2.1 u.2.2.1 u.2.2.2.1 u.2.2.2.2)) rmL_reaches.cells rmL_reaches.slots (va_A (wL xa oa ad ad2 cI cZ cJ A V A2 V2 o) sz) := by
  refine startLW (by decide) rfl (Nat.le_of_ble_eq_true rfl) ?_
  intro p e s m args below meth c A0 Z cx hw hXP htab hret ls hl
  obtain ⟨hx, hb, hml, hown, hts, hK, hA⟩ := id cx
  have hl : lv_has ls 5 [(0, .ref xa), (1, .int x1), (2, .int x2), (3, .ref oa)] := hl
  refine lv_aload_n (pc := 0) hx hb dL_reaches_0 rfl (lv_at hl 3 rfl) ?_
  refine lv_iconst (pc := 1) (v := (0 : Int32)) hx hb dL_reaches_1 (by decide) ?_
  refine lv_aload_n (pc := 2) hx hb dL_reaches_2 rfl (lv_at hl 0 rfl) ?_
  refine lv_iload_n (pc := 3) hx hb dL_reaches_3 rfl (lv_at hl 1 rfl) ?_
  refine lv_iload_n (pc := 4) hx hb dL_reaches_4 rfl (lv_at hl 2 rfl) ?_
  refine callXi (pc := 5) (rest := [.int 0, .ref oa]) (c1 := 1) (s1 := 6) cx hw hl hXP (metX5_reaches l hlt D cI cZ xa ad ad2 s.heap.size A V A2 V2 x1 x2 _ _ h) (fun hts => cwV 2 hts gL_reaches_X5_reaches rfl rfl rfl (by decide +kernel) ⟨Nat.le_of_ble_eq_true rfl, Nat.le_of_ble_eq_true rfl⟩) subL [0, 1] rfl 0 (ci := 5) rfl rfl rfl jnL rfl rfl (Nat.le_of_ble_eq_true rfl) ⟨Nat.le_of_ble_eq_true rfl, Nat.le_of_ble_eq_true rfl⟩ rfl rfl dL_reaches_5 (fun E ce q9 u H locs h hw hce hcv hcl => ?_) (fun r u H locs h hw => ?_)
  · obtain ⟨B, W9, B2, W2⟩ := u
    obtain ⟨rfl, h⟩ := h
    · refine vx_catch (pc := 5) (own := RL) (name := "java/lang/IndexOutOfBoundsException") hown [] ⟨0, 10, 13, 37⟩ [] htab (fun z hz => by cases hz) rfl (by decide) (hts _ kL_reaches_37) (va_tabs (badw_tab _ (badw_cast ("java/lang/IndexOutOfBoundsException", (98, 102)) (by decide))) (u := s) (U := s) rfl (hXP.2.2.1 _ (badw_cast ("java/lang/IndexOutOfBoundsException", (98, 102)) (by decide)))) hce hcv hcl ?_
      refine lv_astore (pc := 13) (lv' := [(4, .ref q9), (0, .ref xa), (1, .int x1), (2, .int x2), (3, .ref oa)]) hx hb dL_reaches_13 hl (by decide) rfl (fun ls hl => ?_)
      refine lv_iconst (pc := 15) (v := (1 : Int32)) hx hb dL_reaches_15 (by decide) ?_
      exact hret 16 _ _ (B, W9, B2, W2, o) _ _ dL_reaches_16 h hw
  · obtain ⟨B, W9, B2, W2⟩ := u
    refine lv_i2l (pc := 8) (v := r.toInt64) hx hb dL_reaches_8 rfl ?_
    refine asL (pc := 9) cx hw dL_reaches_9 (fun H locs hw => ?_)
    refine lv_goto (pc := 10) (tgt := 17) hx hb dL_reaches_10 (by decide) ?_
    refine lv_iconst (pc := 17) (v := (0 : Int32)) hx hb dL_reaches_17 (by decide) ?_
    exact hret 18 _ _ (B, W9, B2, W2, vp_updL o 0 r.toInt64) _ _ dL_reaches_18 h hw
