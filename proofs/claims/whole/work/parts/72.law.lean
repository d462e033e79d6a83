theorem SUB.trans {a b c : va_W} (h : SUB a b) (g : SUB b c) : SUB a c := ⟨fun k q hk => (g.1 k q hk).elim fun i hi => h.1 i q hi, fun A hA => g.2 A (h.2 A hA)⟩
theorem app_l {a b : va_W} {k : Nat} {q : Nat × va_E} (h : a[k]? = some q) : (a ++ b)[k]? = some q := by
  rw [List.getElem?_append_left (List.getElem?_eq_some_iff.mp h).1]
  exact h
theorem app_r {a b : va_W} {k : Nat} {q : Nat × va_E} (h : b[k]? = some q) : (a ++ b)[a.length + k]? = some q := by
  rw [List.getElem?_append_right (Nat.le_add_right _ _), Nat.add_sub_cancel_left]
  exact h
theorem SUB.left {a b : va_W} : SUB (a ++ b) a := ⟨fun k q h => ⟨k, app_l h⟩, fun A hD => ⟨fun i j x y hi hj hxy => hD.1 i j x y (app_l hi) (app_l hj) hxy, fun k q hk => hD.2 k q (app_l hk)⟩⟩
theorem SUB.right {a b : va_W} : SUB (a ++ b) b := ⟨fun k q h => ⟨_, app_r h⟩, fun A hD => ⟨fun i j x y hi hj hxy => by have := hD.1 _ _ x y (app_r hi) (app_r hj) hxy; omega, fun k q hk => hD.2 _ q (app_r hk)⟩⟩
theorem JN.left {S : Type} {D : va_G} {a b : va_W} {wcU : S → va_W} : JN D (a ++ b) a wcU (fun u => wcU u ++ b) := by
  intro A0 H H1 u hP hD hk hF hP1 hD1
  have ap : ∀ (k : Nat) (q : Nat × va_E), b[k]? = some q → q.1 < H.size ∧ ¬ va_A a H.size q.1 := by
    intro k q hq
    have hl := (hP _ q (app_r hq)).lt
    refine ⟨hl, fun h => ?_⟩
    rcases h with ⟨j, e, h⟩ | h
    · have h1 := hD.1 _ _ q (q.1, e) (app_r hq) (app_l (b := b) h) rfl
      have h2 := (List.getElem?_eq_some_iff.mp h).1
      omega
    · omega
  refine ⟨hP1.app (fun k q hq => (hP _ q (app_r hq)).kept (hk q.1 (ap k q hq).1 (ap k q hq).2)), va_D.app (hD1.weaken (fun _ q _ h => hF q.1 h)) (SUB.right.2 _ hD) (fun i j x y hx hy hxy => ?_)⟩
  exact (ap j y hy).2 (by rw [← hxy]; exact hD1.2 i x hx)
theorem JN.right {S : Type} {D : va_G} {a b : va_W} {wcU : S → va_W} : JN D (a ++ b) b wcU (fun u => a ++ wcU u) := by
  intro A0 H H1 u hP hD hk hF hP1 hD1
  have ap : ∀ (k : Nat) (q : Nat × va_E), a[k]? = some q → q.1 < H.size ∧ ¬ va_A b H.size q.1 := by
    intro k q hq
    have hl := (hP _ q (app_l (b := b) hq)).lt
    refine ⟨hl, fun h => ?_⟩
    rcases h with ⟨j, e, h⟩ | h
    · have h1 := hD.1 _ _ q (q.1, e) (app_l (b := b) hq) (app_r h) rfl
      have h2 := (List.getElem?_eq_some_iff.mp hq).1
      omega
    · omega
  refine ⟨va_P.app (fun k q hq => (hP _ q (app_l (b := b) hq)).kept (hk q.1 (ap k q hq).1 (ap k q hq).2)) hP1, va_D.app (SUB.left.2 _ hD) (hD1.weaken (fun _ q _ h => hF q.1 h)) (fun i j x y hx hy hxy => ?_)⟩
  exact (ap i x hx).2 (by rw [hxy]; exact hD1.2 j y hy)
theorem JN.trans {S : Type} {D : va_G} {a b c : va_W} {cU bU aU : S → va_W} (hab : SUB a b) (hbc : SUB b c) (h1 : JN D b c cU bU) (h2 : JN D a b bU aU) : JN D a c cU aU := by
  intro A0 H H1 u hP hD hk hF hP1 hD1
  have hF2 : ∀ q : Nat, va_A c H.size q → va_A b H.size q := by
    rintro q (⟨k, e, h⟩ | h)
    · obtain ⟨i, hi⟩ := hbc.1 k _ h
      exact Or.inl ⟨i, e, hi⟩
    · exact Or.inr h
  obtain ⟨g1, g2⟩ := h1 (va_A b H.size) H H1 u (hab.P hP) (hab.2 _ hD).self hk hF2 hP1 hD1
  refine h2 A0 H H1 u hP hD (fun q hq hn => hk q hq (fun h => hn (hF2 q h))) ?_ g1 g2
  rintro q (⟨k, e, h⟩ | h)
  · obtain ⟨i, hi⟩ := hab.1 k _ h
    exact hD.2 i _ hi
  · exact hF q (Or.inr h)
def wF (xa oa : Nat) (ad ad2 am : Nat → Nat) (cI cZ cJ : ClassId) (A : SA) (V : SV) (A2 : SA) (V2 : SV) (o : Nat → Int64) (AM : SA) (VM : SV) : va_W := wL xa oa ad ad2 cI cZ cJ A V A2 V2 o ++ wM am cI cZ AM VM
theorem XP.drawn {A : Nat → Prop} {U : State} {d : Drawn} (h : XP A U) : XP A (U.setDrawn d) := by
  obtain ⟨h1, h2, h3, h5, h4⟩ := h
  exact ⟨vx_Zq.moved (u := U) (U := U.setDrawn d) (Vm.Alike.refl U.vm) h1, vx_Zq.moved (u := U) (U := U.setDrawn d) (Vm.Alike.refl U.vm) h2, fun w hw => va_tabs (badw_tab w hw) (u := U) (U := U.setDrawn d) rfl (h3 w hw), fun q hq => (h5 q hq).moved (U := U.setDrawn d) (Vm.Alike.refl U.vm), fun q hq => (h4 q hq).elim fun b hb => ⟨b, vk_R.same (u := U) (U := U.setDrawn d) rfl hb⟩⟩
section LAWP
variable {S : Type} {own C : String} {cc : ByteArray} {nL : Nat} {Ts : List Cond} {D : va_G} {tys tysC : TYS} {p : Program} {l : Launch} {e : Env} {R : Room} {s : State} {m : MethodId} {args : Array Value} {below : List Frame} {meth : Method} {c : Code} {A0 : Nat → Prop} {H : Heap} {locs : List Loc} {cells slots : Nat} {Z : State → Prop} {ws wc : va_W} {wcU wsU : S → va_W}
variable {y : MethodName} {wsY : List Cond} {rmY : Room} {bytes : ByteArray} {maxL n index mc ms : Nat} {ret : Option FieldType} {av : List Value} {b : Addr} {pc : Nat} {ls : Array Slot} {lv : List (Nat × Value)} {st0 rest : List Value} {q : vw_C} {ci : Nat} {fs : List Value} {hh : List (Nat × Nat × Nat × Nat)}
theorem lv_eqi {x y : Int32} (h : x = y) (k : W p l e R s m args below meth c H locs cells slots Z (F0 m pc ls (.int y :: rest))) : W p l e R s m args below meth c H locs cells slots Z (F0 m pc ls (.int x :: rest)) := by
  rw [h]
  exact k
theorem callSWi {post : Int32 → S → Prop} (cx : CX own cc nL Ts D tys p s m args c A0) (hw : WS D s A0 ws H locs) (hls : lv_has ls nL lv) (hXP : XP A0 s)
    (hM : Met l y wsY rmY (PcX D tysC wc H.size av) (QiW D tysC wc H.size wcU post) mc ms (va_A wc H.size))
    (cw : (∀ w ∈ Ts, w.before args s = true) → vx_CSW R s args own index y bytes maxL ret hh wsY rmY mc ms n) (hsub : SUB ws wc) (ist : List Nat) (hT : ist.filterMap (fun i => tys[i]?) = tysC)
    (hjn : JN D ws wc wcU wsU) (hn : av.length = n) (hst : st0 = av.reverse ++ rest) (hroom : (rest.map fun v => v.category).sum ≤ 8) (hf : cells + mc ≤ R.cells ∧ slots + ms ≤ R.slots) {c1 s1 : Nat} (hc1 : cells + mc = c1) (hs1 : slots + ms = s1) (hd : decode cc pc = .ok (.invokestatic index, 3))
    (kk : ∀ (r : Int32) (u : S) (H1 : Heap) (locs1 : List Loc), post r u → WS D s A0 (wsU u) H1 locs1 → W p l e R s m args below meth c H1 locs1 c1 s1 Z (F0 m (pc + 3) ls (.int r :: rest))) : W p l e R s m args below meth c H locs cells slots Z (F0 m pc ls st0) := by
  subst hc1
  subst hs1
  obtain ⟨hx, hb, hml, hown, hts, hK, hA⟩ := cx
  obtain ⟨hP, hD, hS⟩ := hw
  have hPc := hsub.P hP
  have hDc := hsub.2 _ hD
  have hKc := hK.sub ist hT
  have hFc := hsub.F hD hS hA
  refine va_calli (vx_runSW (As := av) (rest := rest) ⟨hx, hb, hml, hown, hts⟩ hM (cw hts) ⟨fun a U g mk q => by obtain ⟨q0, q1, qP, qK, qD, qX⟩ := q; exact ⟨q0, q1, qP, va_K.moved (u := U) (U := U.calling g mk a) (Vm.Alike.refl U.vm) qK, qD, qX.calling⟩, fun U hU hW => ⟨rfl, by rw [hU], by rw [hU]; exact hPc, va_K.moved hW.alike hKc, hDc.weaken (fun _ _ _ _ => trivial), hXP.go hW hU hS hFc⟩⟩ rfl hn hls.1 hst (lv_room hroom) hd hf) hS (fun q _ h => hFc q h) hFc (fun r u t H1 locs1 ht hvm hw hB hz1 hk1 hS1 => ?_)
  obtain ⟨hP1, hK1, hD1⟩ := hB
  rw [ht] at hP1
  obtain ⟨h1, h2⟩ := hjn A0 H H1 u hP hD hk1 hFc hP1 hD1
  exact kk r u H1 locs1 hw ⟨h1, h2, hS1⟩
theorem callVd {d0 : Drawn} {post : UInt64 → S → Prop} (hd0 : s.drawn.sameBut d0 lw_cs) (cx : CX own cc nL Ts D tys p (s.setDrawn d0) m args c A0) (hw : WS D s A0 ws H locs) (hls : lv_has ls nL lv)
    (hM : MetD lw_cs l y wsY rmY (PcW D tysC wc H.size (.ref b :: av)) (va_Qd post (BpW D tysC wc H.size wcU) (va_A wc H.size)) mc ms (va_A wc H.size))
    (cw : (∀ w ∈ Ts, w.before args (s.setDrawn d0) = true) → CallW R (s.setDrawn d0) args own C index y bytes maxL ret wsY rmY mc ms n) (hsub : SUB ws wc) (ist : List Nat) (hT : ist.filterMap (fun i => tys[i]?) = tysC)
    (q0 : Nat) (hc : vwCl[ci]? = some q) (hqC : q.1 = C) (he : wc[q0]? = some (b, .inr (ci, fs))) (hjn : JN D ws wc wcU wsU) (hn : av.length = n) (hst : st0 = av.reverse ++ .ref b :: rest) (hroom : (rest.map fun v => v.category).sum ≤ 8) (hf : cells + mc ≤ R.cells ∧ slots + ms ≤ R.slots) {c1 s1 : Nat} (hc1 : cells + mc = c1) (hs1 : slots + ms = s1) (hd : decode cc pc = .ok (.invokevirtual index, 3))
    (kk : ∀ (r : UInt64) (u : S) (H1 : Heap) (locs1 : List Loc) (d1 : Drawn), s.drawn.sameBut d1 lw_cs → post r u → WS D s A0 (wsU u) H1 locs1 → W p l e R (s.setDrawn d1) m args below meth c H1 locs1 c1 s1 Z (F0 m (pc + 3) ls (.double r :: rest))) : W p l e R (s.setDrawn d0) m args below meth c H locs cells slots Z (F0 m pc ls st0) := by
  subst hc1
  subst hs1
  obtain ⟨hx, hb, hml, hown, hts, hK, hA⟩ := cx
  obtain ⟨hP, hD, hS⟩ := hw
  have hPc := hsub.P hP
  have hDc := hsub.2 _ hD
  have hKc := hK.sub ist hT
  have hFc := hsub.F hD hS hA
  refine va_calldD hd0 (va_runV_D (As := av) (rest := rest) ⟨hx, hb, hml, hown, hts⟩ hM (cw hts) ⟨fun a U g mk q => by obtain ⟨q0, q1, qP, qK, qD⟩ := q; exact ⟨q0, q1, qP, va_K.moved (u := U) (U := U.calling g mk a) (Vm.Alike.refl U.vm) qK, qD⟩, hqC ▸ va_recv hKc hPc hc he, fun U hU hW => ⟨rfl, by rw [hU], by rw [hU]; exact hPc, va_K.moved hW.alike hKc, hDc.weaken (fun _ _ _ _ => trivial)⟩⟩ rfl hn hls.1 hst (lv_room hroom) hd hf) hS (fun q _ h => hFc q h) hFc (fun r u t H1 locs1 ht hvm hw hB hz1 hk1 hS1 d1 hd1 => ?_)
  obtain ⟨hP1, hK1, hD1⟩ := hB
  rw [ht] at hP1
  obtain ⟨h1, h2⟩ := hjn A0 H H1 u hP hD hk1 hFc hP1 hD1
  exact kk r u H1 locs1 d1 hd1 hw ⟨h1, h2, hS1⟩
theorem sldL (hx : p.tables.exec = Jvm.exec) (hb : c.code = cc) {b L : Nat} {xs : Nat → Int32} (hX : va_X b L xs s s.heap) (hbl : b < s.heap.size) (hS : va_S (fun q : Nat => s.heap.size ≤ q) s.heap H locs) (hL : L ≤ 2048) {j : Nat} (hj : j < L) (hd : decode cc pc = .ok (.iaload, 1))
    (kk : W p l e R s m args below meth c H locs cells slots Z (F0 m (pc + 1) ls (.int (xs j) :: rest))) : W p l e R s m args below meth c H locs cells slots Z (F0 m pc ls (.int (nI j) :: .ref b :: rest)) := by
  refine va_sld hx hb hX hbl (Nat.not_le.mpr hbl) hS (vp_in_nI hj (by omega)) hd ?_
  rw [nI_clamp (by omega)]
  exact kk
theorem alL (cx : CX own cc nL Ts D tys p s m args c A0) (hw : WS D s A0 ws H locs) (q0 t0 : Nat) {cA : ClassId} {o : Nat → Int64} {a : Nat} (ha : ws[q0]? = some (a, .inl (cA, 1, .inr (.inl o)))) (ht : tys[t0]? = some (cA, .long)) (hd : decode cc pc = .ok (.laload, 1))
    (kk : W p l e R s m args below meth c H locs cells slots Z (F0 m (pc + 1) ls (.long (o 0) :: rest))) : W p l e R s m args below meth c H locs cells slots Z (F0 m pc ls (.int 0 :: .ref a :: rest)) :=
  va_lald cx.1 cx.2.1 cx.2.2.2.2.2.1 hw.1 q0 t0 ha ht (vp_in_iff.mpr (by decide)) hd kk
end LAWP
theorem cmp_rf (x : Int64) : lg_cmp x x = 0 := by
  unfold lg_cmp
  rw [if_neg (by intro h; exact absurd h (by simp)), if_pos rfl]
def cmpD (x y : UInt64) : Int32 := Op.cmpValue (FP.dcmp x y) CmpOp.l
abbrev INVT : Type := SA → SV → SA → SV → SA → SV → Prop
def LC_beginTides (K : INVT) (A : SA) (V : SV) (A2 : SA) (V2 : SV) (o : Nat → Int64) (AM : SA) (VM : SV) (a1 a2 a3 : Int32) : Prop := wpL_beginTides A V A2 V2 o a1 (fun k A V A2 V2 o => wpX6_beginTides AM VM a1 (fun b AM VM => wpX6_thrown AM VM (fun tv AM VM => tv = k ∧ (k = 0 → o 0 = b.toInt64) ∧ K A V A2 V2 AM VM)))
def LC_addTide (K : INVT) (A : SA) (V : SV) (A2 : SA) (V2 : SV) (o : Nat → Int64) (AM : SA) (VM : SV) (a1 a2 a3 : Int32) : Prop := wpL_addTide A V A2 V2 o a1 (fun k A V A2 V2 o => wpX6_addTide AM VM a1 (fun b AM VM => wpX6_thrown AM VM (fun tv AM VM => tv = k ∧ (k = 0 → o 0 = b.toInt64) ∧ K A V A2 V2 AM VM)))
def LC_tide (K : INVT) (A : SA) (V : SV) (A2 : SA) (V2 : SV) (o : Nat → Int64) (AM : SA) (VM : SV) (a1 a2 a3 : Int32) : Prop := wpL_tide A V A2 V2 o a1 (fun k A V A2 V2 o => wpX6_tide AM VM a1 (fun b AM VM => wpX6_thrown AM VM (fun tv AM VM => tv = k ∧ (k = 0 → o 0 = b.toInt64) ∧ K A V A2 V2 AM VM)))
def LC_addBin (K : INVT) (A : SA) (V : SV) (A2 : SA) (V2 : SV) (o : Nat → Int64) (AM : SA) (VM : SV) (a1 a2 a3 : Int32) : Prop := wpL_addBin A V A2 V2 o a1 a2 (fun k A V A2 V2 o => wpX6_addBin AM VM a1 a2 (fun b AM VM => wpX6_thrown AM VM (fun tv AM VM => tv = k ∧ (k = 0 → o 0 = b.toInt64) ∧ K A V A2 V2 AM VM)))
def LC_setCrew (K : INVT) (A : SA) (V : SV) (A2 : SA) (V2 : SV) (o : Nat → Int64) (AM : SA) (VM : SV) (a1 a2 a3 : Int32) : Prop := wpL_setCrew A V A2 V2 o a1 a2 (fun k A V A2 V2 o => wpX6_setCrew AM VM a1 a2 (fun b AM VM => wpX6_thrown AM VM (fun tv AM VM => tv = k ∧ (k = 0 → o 0 = b.toInt64) ∧ K A V A2 V2 AM VM)))
def LC_addDrowned (K : INVT) (A : SA) (V : SV) (A2 : SA) (V2 : SV) (o : Nat → Int64) (AM : SA) (VM : SV) (a1 a2 a3 : Int32) : Prop := wpL_addDrowned A V A2 V2 o a1 a2 a3 (fun k A V A2 V2 o => wpX6_addDrowned AM VM a1 a2 a3 (fun b AM VM => wpX6_thrown AM VM (fun tv AM VM => tv = k ∧ (k = 0 → o 0 = b.toInt64) ∧ K A V A2 V2 AM VM)))
def LC_bring (K : INVT) (A : SA) (V : SV) (A2 : SA) (V2 : SV) (o : Nat → Int64) (AM : SA) (VM : SV) (a1 a2 a3 : Int32) : Prop := wpL_bring A V A2 V2 o a1 a2 a3 (fun k A V A2 V2 o => wpX6_bring AM VM a1 a2 a3 (fun b AM VM => wpX6_thrown AM VM (fun tv AM VM => tv = k ∧ (k = 0 → o 0 = b.toInt64) ∧ K A V A2 V2 AM VM)))
def LC_takeOut (K : INVT) (A : SA) (V : SV) (A2 : SA) (V2 : SV) (o : Nat → Int64) (AM : SA) (VM : SV) (a1 a2 a3 : Int32) : Prop := wpL_takeOut A V A2 V2 o a1 (fun k A V A2 V2 o => wpX6_takeOut AM VM a1 (fun b AM VM => wpX6_thrown AM VM (fun tv AM VM => tv = k ∧ (k = 0 → o 0 = b.toInt64) ∧ K A V A2 V2 AM VM)))
def LC_letter (K : INVT) (A : SA) (V : SV) (A2 : SA) (V2 : SV) (o : Nat → Int64) (AM : SA) (VM : SV) (a1 a2 a3 : Int32) : Prop := wpL_letter A V A2 V2 o a1 a2 (fun k A V A2 V2 o => wpX6_letter AM VM a1 a2 (fun b AM VM => wpX6_thrown AM VM (fun tv AM VM => tv = k ∧ (k = 0 → o 0 = b.toInt64) ∧ K A V A2 V2 AM VM)))
def LC_drowned (K : INVT) (A : SA) (V : SV) (A2 : SA) (V2 : SV) (o : Nat → Int64) (AM : SA) (VM : SV) (a1 a2 a3 : Int32) : Prop := wpL_drowned A V A2 V2 o a1 a2 (fun k A V A2 V2 o => wpX6_drowned AM VM a1 a2 (fun b AM VM => wpX6_thrown AM VM (fun tv AM VM => tv = k ∧ (k = 0 → o 0 = b.toInt64) ∧ K A V A2 V2 AM VM)))
def LC_bin (K : INVT) (A : SA) (V : SV) (A2 : SA) (V2 : SV) (o : Nat → Int64) (AM : SA) (VM : SV) (a1 a2 a3 : Int32) : Prop := wpL_bin A V A2 V2 o a1 a2 (fun k A V A2 V2 o => wpX6_bin AM VM a1 a2 (fun b AM VM => wpX6_thrown AM VM (fun tv AM VM => tv = k ∧ (k = 0 → o 0 = b.toInt64) ∧ K A V A2 V2 AM VM)))
def LC_pass (K : INVT) (A : SA) (V : SV) (A2 : SA) (V2 : SV) (o : Nat → Int64) (AM : SA) (VM : SV) (a1 a2 a3 : Int32) : Prop := wpL_pass A V A2 V2 o a1 (fun k A V A2 V2 o => ∃ g : Nat, g ≤ 150 ∧ wpX6_pass g AM VM a1 (fun b AM VM => wpX6_thrown AM VM (fun tv AM VM => tv = k ∧ (k = 0 → o 0 = b.toInt64) ∧ K A V A2 V2 AM VM)))
def LC_count (K : INVT) (A : SA) (V : SV) (A2 : SA) (V2 : SV) (o : Nat → Int64) (AM : SA) (VM : SV) (a1 a2 a3 : Int32) : Prop := wpL_count A V A2 V2 o a1 (fun k A V A2 V2 o => wpX6_count AM VM a1 (fun b AM VM => wpX6_thrown AM VM (fun tv AM VM => tv = k ∧ (k = 0 → o 0 = b.toInt64) ∧ K A V A2 V2 AM VM)))
def LC_binFor (K : INVT) (A : SA) (V : SV) (A2 : SA) (V2 : SV) (o : Nat → Int64) (AM : SA) (VM : SV) (a1 a2 a3 : Int32) : Prop := wpL_binFor A V A2 V2 o a1 (fun k A V A2 V2 o => wpX6_binFor AM VM a1 (fun b AM VM => wpX6_thrown AM VM (fun tv AM VM => tv = k ∧ (k = 0 → o 0 = b.toInt64) ∧ K A V A2 V2 AM VM)))
def LC_foresee (K : INVT) (A : SA) (V : SV) (A2 : SA) (V2 : SV) (o : Nat → Int64) (AM : SA) (VM : SV) (a1 a2 a3 : Int32) : Prop := wpL_foresee A V A2 V2 o a1 a2 (fun k A V A2 V2 o => ∃ g : Nat, g ≤ 150 ∧ wpX6_foresee g AM VM a1 a2 (fun b AM VM => wpX6_thrown AM VM (fun tv AM VM => tv = k ∧ (k = 0 → o 0 = b.toInt64) ∧ K A V A2 V2 AM VM)))
def LC_fate (K : INVT) (A : SA) (V : SV) (A2 : SA) (V2 : SV) (o : Nat → Int64) (AM : SA) (VM : SV) (a1 a2 a3 : Int32) : Prop := wpL_fate A V A2 V2 o a1 a2 (fun k A V A2 V2 o => ∃ g : Nat, g ≤ 150 ∧ wpX6_fate g AM VM a1 a2 (fun b AM VM => wpX6_thrown AM VM (fun tv AM VM => tv = k ∧ (k = 0 → o 0 = b.toInt64) ∧ K A V A2 V2 AM VM)))
def LC_reaches (K : INVT) (A : SA) (V : SV) (A2 : SA) (V2 : SV) (o : Nat → Int64) (AM : SA) (VM : SV) (a1 a2 a3 : Int32) : Prop := wpL_reaches A V A2 V2 o a1 a2 (fun k A V A2 V2 o => wpX6_reaches AM VM a1 a2 (fun b AM VM => wpX6_thrown AM VM (fun tv AM VM => tv = k ∧ (k = 0 → o 0 = b.toInt64) ∧ K A V A2 V2 AM VM)))
def LC_barnacles (K : INVT) (A : SA) (V : SV) (A2 : SA) (V2 : SV) (o : Nat → Int64) (AM : SA) (VM : SV) (a1 a2 a3 : Int32) : Prop := wpX5_barnacles A V A2 V2 (fun p A V A2 V2 => wpX6_barnacles AM VM (fun q AM VM => (cmpD p q = 0 ∨ (¬ cmpD p p = 0 ∧ ¬ cmpD q q = 0)) ∧ K A V A2 V2 AM VM))
def LC_digest (K : INVT) (A : SA) (V : SV) (A2 : SA) (V2 : SV) (o : Nat → Int64) (AM : SA) (VM : SV) (a1 a2 a3 : Int32) : Prop := wpX5_digest A V A2 V2 (fun p A V A2 V2 => wpX6_digest AM VM (fun q AM VM => p = q ∧ K A V A2 V2 AM VM))
def LSTEP (K : INVT) (A : SA) (V : SV) (A2 : SA) (V2 : SV) (o : Nat → Int64) (AM : SA) (VM : SV) (a0 a1 a2 a3 : Int32) : Prop := K A V A2 V2 AM VM ∧ (a0 &&& 31 = (0 : Int32) → LC_beginTides K A V A2 V2 o AM VM a1 a2 a3) ∧ (a0 &&& 31 = (1 : Int32) → LC_addTide K A V A2 V2 o AM VM a1 a2 a3) ∧ (a0 &&& 31 = (2 : Int32) → LC_tide K A V A2 V2 o AM VM a1 a2 a3) ∧ (a0 &&& 31 = (3 : Int32) → LC_addBin K A V A2 V2 o AM VM a1 a2 a3) ∧ (a0 &&& 31 = (4 : Int32) → LC_setCrew K A V A2 V2 o AM VM a1 a2 a3) ∧ (a0 &&& 31 = (5 : Int32) → LC_addDrowned K A V A2 V2 o AM VM a1 a2 a3) ∧ (a0 &&& 31 = (6 : Int32) → LC_bring K A V A2 V2 o AM VM a1 a2 a3) ∧ (a0 &&& 31 = (7 : Int32) → LC_takeOut K A V A2 V2 o AM VM a1 a2 a3) ∧ (a0 &&& 31 = (8 : Int32) → LC_letter K A V A2 V2 o AM VM a1 a2 a3) ∧ (a0 &&& 31 = (9 : Int32) → LC_drowned K A V A2 V2 o AM VM a1 a2 a3) ∧ (a0 &&& 31 = (10 : Int32) → LC_bin K A V A2 V2 o AM VM a1 a2 a3) ∧ (a0 &&& 31 = (11 : Int32) → LC_pass K A V A2 V2 o AM VM a1 a2 a3) ∧ (a0 &&& 31 = (12 : Int32) → LC_count K A V A2 V2 o AM VM a1 a2 a3) ∧ (a0 &&& 31 = (13 : Int32) → LC_binFor K A V A2 V2 o AM VM a1 a2 a3) ∧ (a0 &&& 31 = (14 : Int32) → LC_foresee K A V A2 V2 o AM VM a1 a2 a3) ∧ (a0 &&& 31 = (15 : Int32) → LC_fate K A V A2 V2 o AM VM a1 a2 a3) ∧ (a0 &&& 31 = (16 : Int32) → LC_reaches K A V A2 V2 o AM VM a1 a2 a3) ∧ (a0 &&& 31 = (17 : Int32) → LC_barnacles K A V A2 V2 o AM VM a1 a2 a3) ∧ (a0 &&& 31 = (18 : Int32) → LC_digest K A V A2 V2 o AM VM a1 a2 a3)
section LAWC
variable {p : Program} {l : Launch} {e : Env} {s : State} {m : MethodId} {below : List Frame} {meth : Method} {c : Code} {D : va_G} {xa oa : Nat} {ad ad2 am : Nat → Nat} {cI cZ cJ : ClassId} {b L : Nat} {xs : Nat → Int32} {Z : State → Prop}
set_option maxHeartbeats 4000000 in
set_option maxRecDepth 100000 in
theorem law_c_beginTides (hlt : l.stackTraces = false) (K : INVT) (cxs : ∀ d0 : Drawn, CX RL cL_law 9 wsL_law D (tysL cI cZ cJ) p (s.setDrawn d0) m #[Value.ref b] c (fun q : Nat => s.heap.size ≤ q)) (hXP : XP (fun q : Nat => s.heap.size ≤ q) s) (hX : va_X b L xs s s.heap) (hbl : b < s.heap.size) (hL : L ≤ 2048) (i : Nat) (hi : i + 4 ≤ L) (k0 s0 k1 s1 : Nat) (hk : k0 + 160 ≤ k1) (hs : s0 + 1600 ≤ s1) (hk1 : k1 ≤ 601024) (hs1 : s1 ≤ 7293034) (hnext : ∀ (d0 : Drawn) (hd0 : s.drawn.sameBut d0 lw_cs) (A : SA) (V : SV) (A2 : SA) (V2 : SV) (o : Nat → Int64) (AM : SA) (VM : SV) (H : Heap) (locs : List Loc) (ls : Array Slot) (hI : K A V A2 V2 AM VM) (hw : WS D s (fun q : Nat => s.heap.size ≤ q) (wF xa oa ad ad2 am cI cZ cJ A V A2 V2 o AM VM) H locs) (hl : lv_has ls 9 [(0, .ref b), (1, .ref xa), (2, .ref (am 0)), (3, .ref oa), (4, .int (nI i))]), W p l e room_1 (s.setDrawn d0) m #[Value.ref b] below meth c H locs k1 s1 Z (F0 m 1279 ls [])) : ∀ (d0 : Drawn) (hd0 : s.drawn.sameBut d0 lw_cs) (A : SA) (V : SV) (A2 : SA) (V2 : SV) (o : Nat → Int64) (AM : SA) (VM : SV) (h : LC_beginTides K A V A2 V2 o AM VM (xs (i + 1)) (xs (i + 2)) (xs (i + 3))) (H : Heap) (locs : List Loc) (ls : Array Slot) (hw : WS D s (fun q : Nat => s.heap.size ≤ q) (wF xa oa ad ad2 am cI cZ cJ A V A2 V2 o AM VM) H locs) (hl : lv_has ls 9 [(0, .ref b), (1, .ref xa), (2, .ref (am 0)), (3, .ref oa), (4, .int (nI i))]), W p l e room_1 (s.setDrawn d0) m #[Value.ref b] below meth c H locs k0 s0 Z (F0 m 128 ls []) := by
  intro d0 hd0 A V A2 V2 o AM VM h H locs ls hw hl
  have hbA : ¬ s.heap.size ≤ b := Nat.not_le.mpr hbl
  have cx := cxs d0
  have hXd : XP (fun q : Nat => s.heap.size ≤ q) (s.setDrawn d0) := hXP.drawn
  obtain ⟨hx, hb, hml, hown, hts, hK, hA⟩ := id cx
  refine lv_aload_n (pc := 128) hx hb dL_law_128 rfl (lv_at hl 1 rfl) ?_
  refine lv_aload_n (pc := 129) hx hb dL_law_129 rfl (lv_at hl 0 rfl) ?_
  refine lv_iload (pc := 130) hx hb dL_law_130 (lv_at hl 4 rfl) ?_
  refine lv_iconst (pc := 132) (v := (1 : Int32)) hx hb dL_law_132 (by decide) ?_
  refine lv_iadd (pc := 133) hx hb dL_law_133 ?_
  refine lv_eqi (nI_add i 1) ?_
  refine sldL (pc := 134) (s := s.setDrawn d0) hx hb hX hbl hw.2.2 hL (j := i + 1) (by omega) dL_law_134 ?_
  refine lv_aload_n (pc := 135) hx hb dL_law_135 rfl (lv_at hl 3 rfl) ?_
  refine callSWi (pc := 136) (rest := []) (wsU := fun u : SA × SV × SA × SV × (Nat → Int64) => wF xa oa ad ad2 am cI cZ cJ u.1 u.2.1 u.2.2.1 u.2.2.2.1 u.2.2.2.2 AM VM) (c1 := k0 + 1) (s1 := s0 + 6) cx hw hl hXd (metL_beginTides l hlt D cI cZ cJ xa oa ad ad2 H.size A V A2 V2 o (xs (i + 1)) _ h) (fun hts => vx_cwSW 3 hts gL_law_L_beginTides rfl rfl rfl (by decide +kernel) ⟨Nat.le_of_ble_eq_true rfl, Nat.le_of_ble_eq_true rfl⟩) SUB.left [0, 1, 2] rfl JN.left rfl rfl (Nat.le_of_ble_eq_true rfl) ⟨by show k0 + 1 ≤ 601024; omega, by show s0 + 6 ≤ 7293034; omega⟩ rfl rfl dL_law_136 (fun kk u H locs h hw => ?_)
  obtain ⟨A, V, A2, V2, o⟩ := u
  have hw : WS D s (fun q : Nat => s.heap.size ≤ q) (wF xa oa ad ad2 am cI cZ cJ A V A2 V2 o AM VM) H locs := hw
  refine lv_istore (pc := 139) (lv' := [(5, .int kk), (0, .ref b), (1, .ref xa), (2, .ref (am 0)), (3, .ref oa), (4, .int (nI i))]) hx hb dL_law_139 hl (by decide) rfl (fun ls hl => ?_)
  refine lv_aload_n (pc := 141) hx hb dL_law_141 rfl (lv_at hl 3 rfl) ?_
  refine lv_aload_n (pc := 142) hx hb dL_law_142 rfl (lv_at hl 1 rfl) ?_
  refine lv_iload (pc := 143) hx hb dL_law_143 (lv_at hl 5 rfl) ?_
  refine lv_iconst (pc := 145) (v := (1 : Int32)) hx hb dL_law_145 (by decide) ?_
  refine lv_iadd (pc := 146) hx hb dL_law_146 ?_
  refine lv_eqi (nI_add i 1) ?_
  refine sldL (pc := 147) (s := s.setDrawn d0) hx hb hX hbl hw.2.2 hL (j := i + 1) (by omega) dL_law_147 ?_
  refine callVi (pc := 148) (rest := []) (wsU := fun u : SA × SV => wF xa oa ad ad2 am cI cZ cJ A V A2 V2 o u.1 u.2) (c1 := (k0 + 1)) (s1 := (s0 + 6)) cx hw hl (metX6_beginTides l D cI cZ am H.size  AM VM (xs (i + 1)) _ h) (fun hts => cwV 1 hts gL_law_X6_beginTides rfl rfl rfl (by decide +kernel) ⟨Nat.le_of_ble_eq_true rfl, Nat.le_of_ble_eq_true rfl⟩) SUB.right [0, 1] rfl 0 (ci := 6) rfl rfl rfl JN.right rfl rfl (Nat.le_of_ble_eq_true rfl) ⟨by show (k0 + 1) + 0 ≤ 601024; omega, by show (s0 + 6) + 0 ≤ 7293034; omega⟩ rfl rfl dL_law_148 (fun bv u H locs h hw => ?_)
  obtain ⟨AM, VM⟩ := u
  have hw : WS D s (fun q : Nat => s.heap.size ≤ q) (wF xa oa ad ad2 am cI cZ cJ A V A2 V2 o AM VM) H locs := hw
  refine lv_istore (pc := 151) (lv' := [(6, .int bv), (5, .int kk), (0, .ref b), (1, .ref xa), (2, .ref (am 0)), (3, .ref oa), (4, .int (nI i))]) hx hb dL_law_151 hl (by decide) rfl (fun ls hl => ?_)
  refine lv_aload_n (pc := 153) hx hb dL_law_153 rfl (lv_at hl 4 rfl) ?_
  refine callVi (pc := 154) (rest := []) (wsU := fun u : SA × SV => wF xa oa ad ad2 am cI cZ cJ A V A2 V2 o u.1 u.2) (c1 := (k0 + 1)) (s1 := (s0 + 6)) cx hw hl (metX6_thrown l D cI cZ am H.size  AM VM  _ h) (fun hts => cwV 0 hts gL_law_X6_thrown rfl rfl rfl (by decide +kernel) ⟨Nat.le_of_ble_eq_true rfl, Nat.le_of_ble_eq_true rfl⟩) SUB.right [0, 1] rfl 0 (ci := 6) rfl rfl rfl JN.right rfl rfl (Nat.le_of_ble_eq_true rfl) ⟨by show (k0 + 1) + 0 ≤ 601024; omega, by show (s0 + 6) + 0 ≤ 7293034; omega⟩ rfl rfl dL_law_154 (fun tv u H locs h hw => ?_)
  obtain ⟨AM, VM⟩ := u
  have hw : WS D s (fun q : Nat => s.heap.size ≤ q) (wF xa oa ad ad2 am cI cZ cJ A V A2 V2 o AM VM) H locs := hw
  obtain ⟨he, ho, hI⟩ := h
  have ho : kk = 0 → o 0 = bv.toInt64 := ho
  refine lv_iload (pc := 157) hx hb dL_law_157 (lv_at hl 1 rfl) ?_
  refine lv_icmp_eq (pc := 159) (tgt := 164) hx hb dL_law_159 (by decide) (fun _ => ?_) (fun hn => absurd he hn)
  refine lv_iload (pc := 164) hx hb dL_law_164 (lv_at hl 1 rfl) ?_
  refine lv_if_ne (pc := 166) (tgt := 181) hx hb dL_law_166 (by decide) (fun _ => ?_) (fun hz => ?_)
  · skip
    refine lv_goto (pc := 181) (tgt := 1279) hx hb dL_law_181 (by decide) ?_
    refine W.widen (k := k1) (n := s1) (by omega) (by omega) ?_
    exact hnext d0 hd0 A V A2 V2 o AM VM _ _ _ hI hw (lv_sub hl [2, 3, 4, 5, 6] rfl)
  · refine lv_aload_n (pc := 169) hx hb dL_law_169 rfl (lv_at hl 5 rfl) ?_
    refine lv_iconst (pc := 170) (v := (0 : Int32)) hx hb dL_law_170 (by decide) ?_
    refine alL (pc := 171) cx hw 51 2 (o := o) rfl rfl dL_law_171 ?_
    refine lv_iload (pc := 172) hx hb dL_law_172 (lv_at hl 0 rfl) ?_
    refine lv_i2l (pc := 174) (v := bv.toInt64) hx hb dL_law_174 rfl ?_
    refine W.lcmp (pc := 175) hx hb dL_law_175 ?_
    rw [ho hz, cmp_rf]
    refine lv_if_eq (pc := 176) (tgt := 181) hx hb dL_law_176 (by decide) (fun _ => ?_) (fun hn => absurd rfl hn)
    refine lv_goto (pc := 181) (tgt := 1279) hx hb dL_law_181 (by decide) ?_
    refine W.widen (k := k1) (n := s1) (by omega) (by omega) ?_
    exact hnext d0 hd0 A V A2 V2 o AM VM _ _ _ hI hw (lv_sub hl [2, 3, 4, 5, 6] rfl)
set_option maxHeartbeats 4000000 in
set_option maxRecDepth 100000 in
theorem law_c_addTide (hlt : l.stackTraces = false) (K : INVT) (cxs : ∀ d0 : Drawn, CX RL cL_law 9 wsL_law D (tysL cI cZ cJ) p (s.setDrawn d0) m #[Value.ref b] c (fun q : Nat => s.heap.size ≤ q)) (hXP : XP (fun q : Nat => s.heap.size ≤ q) s) (hX : va_X b L xs s s.heap) (hbl : b < s.heap.size) (hL : L ≤ 2048) (i : Nat) (hi : i + 4 ≤ L) (k0 s0 k1 s1 : Nat) (hk : k0 + 160 ≤ k1) (hs : s0 + 1600 ≤ s1) (hk1 : k1 ≤ 601024) (hs1 : s1 ≤ 7293034) (hnext : ∀ (d0 : Drawn) (hd0 : s.drawn.sameBut d0 lw_cs) (A : SA) (V : SV) (A2 : SA) (V2 : SV) (o : Nat → Int64) (AM : SA) (VM : SV) (H : Heap) (locs : List Loc) (ls : Array Slot) (hI : K A V A2 V2 AM VM) (hw : WS D s (fun q : Nat => s.heap.size ≤ q) (wF xa oa ad ad2 am cI cZ cJ A V A2 V2 o AM VM) H locs) (hl : lv_has ls 9 [(0, .ref b), (1, .ref xa), (2, .ref (am 0)), (3, .ref oa), (4, .int (nI i))]), W p l e room_1 (s.setDrawn d0) m #[Value.ref b] below meth c H locs k1 s1 Z (F0 m 1279 ls [])) : ∀ (d0 : Drawn) (hd0 : s.drawn.sameBut d0 lw_cs) (A : SA) (V : SV) (A2 : SA) (V2 : SV) (o : Nat → Int64) (AM : SA) (VM : SV) (h : LC_addTide K A V A2 V2 o AM VM (xs (i + 1)) (xs (i + 2)) (xs (i + 3))) (H : Heap) (locs : List Loc) (ls : Array Slot) (hw : WS D s (fun q : Nat => s.heap.size ≤ q) (wF xa oa ad ad2 am cI cZ cJ A V A2 V2 o AM VM) H locs) (hl : lv_has ls 9 [(0, .ref b), (1, .ref xa), (2, .ref (am 0)), (3, .ref oa), (4, .int (nI i))]), W p l e room_1 (s.setDrawn d0) m #[Value.ref b] below meth c H locs k0 s0 Z (F0 m 184 ls []) := by
  intro d0 hd0 A V A2 V2 o AM VM h H locs ls hw hl
  have hbA : ¬ s.heap.size ≤ b := Nat.not_le.mpr hbl
  have cx := cxs d0
  have hXd : XP (fun q : Nat => s.heap.size ≤ q) (s.setDrawn d0) := hXP.drawn
  obtain ⟨hx, hb, hml, hown, hts, hK, hA⟩ := id cx
  refine lv_aload_n (pc := 184) hx hb dL_law_184 rfl (lv_at hl 1 rfl) ?_
  refine lv_aload_n (pc := 185) hx hb dL_law_185 rfl (lv_at hl 0 rfl) ?_
  refine lv_iload (pc := 186) hx hb dL_law_186 (lv_at hl 4 rfl) ?_
  refine lv_iconst (pc := 188) (v := (1 : Int32)) hx hb dL_law_188 (by decide) ?_
  refine lv_iadd (pc := 189) hx hb dL_law_189 ?_
  refine lv_eqi (nI_add i 1) ?_
  refine sldL (pc := 190) (s := s.setDrawn d0) hx hb hX hbl hw.2.2 hL (j := i + 1) (by omega) dL_law_190 ?_
  refine lv_aload_n (pc := 191) hx hb dL_law_191 rfl (lv_at hl 3 rfl) ?_
  refine callSWi (pc := 192) (rest := []) (wsU := fun u : SA × SV × SA × SV × (Nat → Int64) => wF xa oa ad ad2 am cI cZ cJ u.1 u.2.1 u.2.2.1 u.2.2.2.1 u.2.2.2.2 AM VM) (c1 := k0 + 1) (s1 := s0 + 6) cx hw hl hXd (metL_addTide l hlt D cI cZ cJ xa oa ad ad2 H.size A V A2 V2 o (xs (i + 1)) _ h) (fun hts => vx_cwSW 3 hts gL_law_L_addTide rfl rfl rfl (by decide +kernel) ⟨Nat.le_of_ble_eq_true rfl, Nat.le_of_ble_eq_true rfl⟩) SUB.left [0, 1, 2] rfl JN.left rfl rfl (Nat.le_of_ble_eq_true rfl) ⟨by show k0 + 1 ≤ 601024; omega, by show s0 + 6 ≤ 7293034; omega⟩ rfl rfl dL_law_192 (fun kk u H locs h hw => ?_)
  obtain ⟨A, V, A2, V2, o⟩ := u
  have hw : WS D s (fun q : Nat => s.heap.size ≤ q) (wF xa oa ad ad2 am cI cZ cJ A V A2 V2 o AM VM) H locs := hw
  refine lv_istore (pc := 195) (lv' := [(5, .int kk), (0, .ref b), (1, .ref xa), (2, .ref (am 0)), (3, .ref oa), (4, .int (nI i))]) hx hb dL_law_195 hl (by decide) rfl (fun ls hl => ?_)
  refine lv_aload_n (pc := 197) hx hb dL_law_197 rfl (lv_at hl 3 rfl) ?_
  refine lv_aload_n (pc := 198) hx hb dL_law_198 rfl (lv_at hl 1 rfl) ?_
  refine lv_iload (pc := 199) hx hb dL_law_199 (lv_at hl 5 rfl) ?_
  refine lv_iconst (pc := 201) (v := (1 : Int32)) hx hb dL_law_201 (by decide) ?_
  refine lv_iadd (pc := 202) hx hb dL_law_202 ?_
  refine lv_eqi (nI_add i 1) ?_
  refine sldL (pc := 203) (s := s.setDrawn d0) hx hb hX hbl hw.2.2 hL (j := i + 1) (by omega) dL_law_203 ?_
  refine callVi (pc := 204) (rest := []) (wsU := fun u : SA × SV => wF xa oa ad ad2 am cI cZ cJ A V A2 V2 o u.1 u.2) (c1 := (k0 + 1)) (s1 := (s0 + 6)) cx hw hl (metX6_addTide l D cI cZ am H.size  AM VM (xs (i + 1)) _ h) (fun hts => cwV 1 hts gL_law_X6_addTide rfl rfl rfl (by decide +kernel) ⟨Nat.le_of_ble_eq_true rfl, Nat.le_of_ble_eq_true rfl⟩) SUB.right [0, 1] rfl 0 (ci := 6) rfl rfl rfl JN.right rfl rfl (Nat.le_of_ble_eq_true rfl) ⟨by show (k0 + 1) + 0 ≤ 601024; omega, by show (s0 + 6) + 0 ≤ 7293034; omega⟩ rfl rfl dL_law_204 (fun bv u H locs h hw => ?_)
  obtain ⟨AM, VM⟩ := u
  have hw : WS D s (fun q : Nat => s.heap.size ≤ q) (wF xa oa ad ad2 am cI cZ cJ A V A2 V2 o AM VM) H locs := hw
  refine lv_istore (pc := 207) (lv' := [(6, .int bv), (5, .int kk), (0, .ref b), (1, .ref xa), (2, .ref (am 0)), (3, .ref oa), (4, .int (nI i))]) hx hb dL_law_207 hl (by decide) rfl (fun ls hl => ?_)
  refine lv_aload_n (pc := 209) hx hb dL_law_209 rfl (lv_at hl 4 rfl) ?_
  refine callVi (pc := 210) (rest := []) (wsU := fun u : SA × SV => wF xa oa ad ad2 am cI cZ cJ A V A2 V2 o u.1 u.2) (c1 := (k0 + 1)) (s1 := (s0 + 6)) cx hw hl (metX6_thrown l D cI cZ am H.size  AM VM  _ h) (fun hts => cwV 0 hts gL_law_X6_thrown rfl rfl rfl (by decide +kernel) ⟨Nat.le_of_ble_eq_true rfl, Nat.le_of_ble_eq_true rfl⟩) SUB.right [0, 1] rfl 0 (ci := 6) rfl rfl rfl JN.right rfl rfl (Nat.le_of_ble_eq_true rfl) ⟨by show (k0 + 1) + 0 ≤ 601024; omega, by show (s0 + 6) + 0 ≤ 7293034; omega⟩ rfl rfl dL_law_210 (fun tv u H locs h hw => ?_)
  obtain ⟨AM, VM⟩ := u
  have hw : WS D s (fun q : Nat => s.heap.size ≤ q) (wF xa oa ad ad2 am cI cZ cJ A V A2 V2 o AM VM) H locs := hw
  obtain ⟨he, ho, hI⟩ := h
  have ho : kk = 0 → o 0 = bv.toInt64 := ho
  refine lv_iload (pc := 213) hx hb dL_law_213 (lv_at hl 1 rfl) ?_
  refine lv_icmp_eq (pc := 215) (tgt := 220) hx hb dL_law_215 (by decide) (fun _ => ?_) (fun hn => absurd he hn)
  refine lv_iload (pc := 220) hx hb dL_law_220 (lv_at hl 1 rfl) ?_
  refine lv_if_ne (pc := 222) (tgt := 237) hx hb dL_law_222 (by decide) (fun _ => ?_) (fun hz => ?_)
  · skip
    refine lv_goto (pc := 237) (tgt := 1279) hx hb dL_law_237 (by decide) ?_
    refine W.widen (k := k1) (n := s1) (by omega) (by omega) ?_
    exact hnext d0 hd0 A V A2 V2 o AM VM _ _ _ hI hw (lv_sub hl [2, 3, 4, 5, 6] rfl)
  · refine lv_aload_n (pc := 225) hx hb dL_law_225 rfl (lv_at hl 5 rfl) ?_
    refine lv_iconst (pc := 226) (v := (0 : Int32)) hx hb dL_law_226 (by decide) ?_
    refine alL (pc := 227) cx hw 51 2 (o := o) rfl rfl dL_law_227 ?_
    refine lv_iload (pc := 228) hx hb dL_law_228 (lv_at hl 0 rfl) ?_
    refine lv_i2l (pc := 230) (v := bv.toInt64) hx hb dL_law_230 rfl ?_
    refine W.lcmp (pc := 231) hx hb dL_law_231 ?_
    rw [ho hz, cmp_rf]
    refine lv_if_eq (pc := 232) (tgt := 237) hx hb dL_law_232 (by decide) (fun _ => ?_) (fun hn => absurd rfl hn)
    refine lv_goto (pc := 237) (tgt := 1279) hx hb dL_law_237 (by decide) ?_
    refine W.widen (k := k1) (n := s1) (by omega) (by omega) ?_
    exact hnext d0 hd0 A V A2 V2 o AM VM _ _ _ hI hw (lv_sub hl [2, 3, 4, 5, 6] rfl)
set_option maxHeartbeats 4000000 in
set_option maxRecDepth 100000 in
theorem law_c_tide (hlt : l.stackTraces = false) (K : INVT) (cxs : ∀ d0 : Drawn, CX RL cL_law 9 wsL_law D (tysL cI cZ cJ) p (s.setDrawn d0) m #[Value.ref b] c (fun q : Nat => s.heap.size ≤ q)) (hXP : XP (fun q : Nat => s.heap.size ≤ q) s) (hX : va_X b L xs s s.heap) (hbl : b < s.heap.size) (hL : L ≤ 2048) (i : Nat) (hi : i + 4 ≤ L) (k0 s0 k1 s1 : Nat) (hk : k0 + 160 ≤ k1) (hs : s0 + 1600 ≤ s1) (hk1 : k1 ≤ 601024) (hs1 : s1 ≤ 7293034) (hnext : ∀ (d0 : Drawn) (hd0 : s.drawn.sameBut d0 lw_cs) (A : SA) (V : SV) (A2 : SA) (V2 : SV) (o : Nat → Int64) (AM : SA) (VM : SV) (H : Heap) (locs : List Loc) (ls : Array Slot) (hI : K A V A2 V2 AM VM) (hw : WS D s (fun q : Nat => s.heap.size ≤ q) (wF xa oa ad ad2 am cI cZ cJ A V A2 V2 o AM VM) H locs) (hl : lv_has ls 9 [(0, .ref b), (1, .ref xa), (2, .ref (am 0)), (3, .ref oa), (4, .int (nI i))]), W p l e room_1 (s.setDrawn d0) m #[Value.ref b] below meth c H locs k1 s1 Z (F0 m 1279 ls [])) : ∀ (d0 : Drawn) (hd0 : s.drawn.sameBut d0 lw_cs) (A : SA) (V : SV) (A2 : SA) (V2 : SV) (o : Nat → Int64) (AM : SA) (VM : SV) (h : LC_tide K A V A2 V2 o AM VM (xs (i + 1)) (xs (i + 2)) (xs (i + 3))) (H : Heap) (locs : List Loc) (ls : Array Slot) (hw : WS D s (fun q : Nat => s.heap.size ≤ q) (wF xa oa ad ad2 am cI cZ cJ A V A2 V2 o AM VM) H locs) (hl : lv_has ls 9 [(0, .ref b), (1, .ref xa), (2, .ref (am 0)), (3, .ref oa), (4, .int (nI i))]), W p l e room_1 (s.setDrawn d0) m #[Value.ref b] below meth c H locs k0 s0 Z (F0 m 240 ls []) := by
  intro d0 hd0 A V A2 V2 o AM VM h H locs ls hw hl
  have hbA : ¬ s.heap.size ≤ b := Nat.not_le.mpr hbl
  have cx := cxs d0
  have hXd : XP (fun q : Nat => s.heap.size ≤ q) (s.setDrawn d0) := hXP.drawn
  obtain ⟨hx, hb, hml, hown, hts, hK, hA⟩ := id cx
  refine lv_aload_n (pc := 240) hx hb dL_law_240 rfl (lv_at hl 1 rfl) ?_
  refine lv_aload_n (pc := 241) hx hb dL_law_241 rfl (lv_at hl 0 rfl) ?_
  refine lv_iload (pc := 242) hx hb dL_law_242 (lv_at hl 4 rfl) ?_
  refine lv_iconst (pc := 244) (v := (1 : Int32)) hx hb dL_law_244 (by decide) ?_
  refine lv_iadd (pc := 245) hx hb dL_law_245 ?_
  refine lv_eqi (nI_add i 1) ?_
  refine sldL (pc := 246) (s := s.setDrawn d0) hx hb hX hbl hw.2.2 hL (j := i + 1) (by omega) dL_law_246 ?_
  refine lv_aload_n (pc := 247) hx hb dL_law_247 rfl (lv_at hl 3 rfl) ?_
  refine callSWi (pc := 248) (rest := []) (wsU := fun u : SA × SV × SA × SV × (Nat → Int64) => wF xa oa ad ad2 am cI cZ cJ u.1 u.2.1 u.2.2.1 u.2.2.2.1 u.2.2.2.2 AM VM) (c1 := k0 + 1) (s1 := s0 + 6) cx hw hl hXd (metL_tide l hlt D cI cZ cJ xa oa ad ad2 H.size A V A2 V2 o (xs (i + 1)) _ h) (fun hts => vx_cwSW 3 hts gL_law_L_tide rfl rfl rfl (by decide +kernel) ⟨Nat.le_of_ble_eq_true rfl, Nat.le_of_ble_eq_true rfl⟩) SUB.left [0, 1, 2] rfl JN.left rfl rfl (Nat.le_of_ble_eq_true rfl) ⟨by show k0 + 1 ≤ 601024; omega, by show s0 + 6 ≤ 7293034; omega⟩ rfl rfl dL_law_248 (fun kk u H locs h hw => ?_)
  obtain ⟨A, V, A2, V2, o⟩ := u
  have hw : WS D s (fun q : Nat => s.heap.size ≤ q) (wF xa oa ad ad2 am cI cZ cJ A V A2 V2 o AM VM) H locs := hw
  refine lv_istore (pc := 251) (lv' := [(5, .int kk), (0, .ref b), (1, .ref xa), (2, .ref (am 0)), (3, .ref oa), (4, .int (nI i))]) hx hb dL_law_251 hl (by decide) rfl (fun ls hl => ?_)
  refine lv_aload_n (pc := 253) hx hb dL_law_253 rfl (lv_at hl 3 rfl) ?_
  refine lv_aload_n (pc := 254) hx hb dL_law_254 rfl (lv_at hl 1 rfl) ?_
  refine lv_iload (pc := 255) hx hb dL_law_255 (lv_at hl 5 rfl) ?_
  refine lv_iconst (pc := 257) (v := (1 : Int32)) hx hb dL_law_257 (by decide) ?_
  refine lv_iadd (pc := 258) hx hb dL_law_258 ?_
  refine lv_eqi (nI_add i 1) ?_
  refine sldL (pc := 259) (s := s.setDrawn d0) hx hb hX hbl hw.2.2 hL (j := i + 1) (by omega) dL_law_259 ?_
  refine callVi (pc := 260) (rest := []) (wsU := fun u : SA × SV => wF xa oa ad ad2 am cI cZ cJ A V A2 V2 o u.1 u.2) (c1 := (k0 + 1)) (s1 := (s0 + 6)) cx hw hl (metX6_tide l D cI cZ am H.size  AM VM (xs (i + 1)) _ h) (fun hts => cwV 1 hts gL_law_X6_tide rfl rfl rfl (by decide +kernel) ⟨Nat.le_of_ble_eq_true rfl, Nat.le_of_ble_eq_true rfl⟩) SUB.right [0, 1] rfl 0 (ci := 6) rfl rfl rfl JN.right rfl rfl (Nat.le_of_ble_eq_true rfl) ⟨by show (k0 + 1) + 0 ≤ 601024; omega, by show (s0 + 6) + 0 ≤ 7293034; omega⟩ rfl rfl dL_law_260 (fun bv u H locs h hw => ?_)
  obtain ⟨AM, VM⟩ := u
  have hw : WS D s (fun q : Nat => s.heap.size ≤ q) (wF xa oa ad ad2 am cI cZ cJ A V A2 V2 o AM VM) H locs := hw
  refine lv_istore (pc := 263) (lv' := [(6, .int bv), (5, .int kk), (0, .ref b), (1, .ref xa), (2, .ref (am 0)), (3, .ref oa), (4, .int (nI i))]) hx hb dL_law_263 hl (by decide) rfl (fun ls hl => ?_)
  refine lv_aload_n (pc := 265) hx hb dL_law_265 rfl (lv_at hl 4 rfl) ?_
  refine callVi (pc := 266) (rest := []) (wsU := fun u : SA × SV => wF xa oa ad ad2 am cI cZ cJ A V A2 V2 o u.1 u.2) (c1 := (k0 + 1)) (s1 := (s0 + 6)) cx hw hl (metX6_thrown l D cI cZ am H.size  AM VM  _ h) (fun hts => cwV 0 hts gL_law_X6_thrown rfl rfl rfl (by decide +kernel) ⟨Nat.le_of_ble_eq_true rfl, Nat.le_of_ble_eq_true rfl⟩) SUB.right [0, 1] rfl 0 (ci := 6) rfl rfl rfl JN.right rfl rfl (Nat.le_of_ble_eq_true rfl) ⟨by show (k0 + 1) + 0 ≤ 601024; omega, by show (s0 + 6) + 0 ≤ 7293034; omega⟩ rfl rfl dL_law_266 (fun tv u H locs h hw => ?_)
  obtain ⟨AM, VM⟩ := u
  have hw : WS D s (fun q : Nat => s.heap.size ≤ q) (wF xa oa ad ad2 am cI cZ cJ A V A2 V2 o AM VM) H locs := hw
  obtain ⟨he, ho, hI⟩ := h
  have ho : kk = 0 → o 0 = bv.toInt64 := ho
  refine lv_iload (pc := 269) hx hb dL_law_269 (lv_at hl 1 rfl) ?_
  refine lv_icmp_eq (pc := 271) (tgt := 276) hx hb dL_law_271 (by decide) (fun _ => ?_) (fun hn => absurd he hn)
  refine lv_iload (pc := 276) hx hb dL_law_276 (lv_at hl 1 rfl) ?_
  refine lv_if_ne (pc := 278) (tgt := 293) hx hb dL_law_278 (by decide) (fun _ => ?_) (fun hz => ?_)
  · skip
    refine lv_goto (pc := 293) (tgt := 1279) hx hb dL_law_293 (by decide) ?_
    refine W.widen (k := k1) (n := s1) (by omega) (by omega) ?_
    exact hnext d0 hd0 A V A2 V2 o AM VM _ _ _ hI hw (lv_sub hl [2, 3, 4, 5, 6] rfl)
  · refine lv_aload_n (pc := 281) hx hb dL_law_281 rfl (lv_at hl 5 rfl) ?_
    refine lv_iconst (pc := 282) (v := (0 : Int32)) hx hb dL_law_282 (by decide) ?_
    refine alL (pc := 283) cx hw 51 2 (o := o) rfl rfl dL_law_283 ?_
    refine lv_iload (pc := 284) hx hb dL_law_284 (lv_at hl 0 rfl) ?_
    refine lv_i2l (pc := 286) (v := bv.toInt64) hx hb dL_law_286 rfl ?_
    refine W.lcmp (pc := 287) hx hb dL_law_287 ?_
    rw [ho hz, cmp_rf]
    refine lv_if_eq (pc := 288) (tgt := 293) hx hb dL_law_288 (by decide) (fun _ => ?_) (fun hn => absurd rfl hn)
    refine lv_goto (pc := 293) (tgt := 1279) hx hb dL_law_293 (by decide) ?_
    refine W.widen (k := k1) (n := s1) (by omega) (by omega) ?_
    exact hnext d0 hd0 A V A2 V2 o AM VM _ _ _ hI hw (lv_sub hl [2, 3, 4, 5, 6] rfl)
set_option maxHeartbeats 4000000 in
set_option maxRecDepth 100000 in
theorem law_c_addBin (hlt : l.stackTraces = false) (K : INVT) (cxs : ∀ d0 : Drawn, CX RL cL_law 9 wsL_law D (tysL cI cZ cJ) p (s.setDrawn d0) m #[Value.ref b] c (fun q : Nat => s.heap.size ≤ q)) (hXP : XP (fun q : Nat => s.heap.size ≤ q) s) (hX : va_X b L xs s s.heap) (hbl : b < s.heap.size) (hL : L ≤ 2048) (i : Nat) (hi : i + 4 ≤ L) (k0 s0 k1 s1 : Nat) (hk : k0 + 160 ≤ k1) (hs : s0 + 1600 ≤ s1) (hk1 : k1 ≤ 601024) (hs1 : s1 ≤ 7293034) (hnext : ∀ (d0 : Drawn) (hd0 : s.drawn.sameBut d0 lw_cs) (A : SA) (V : SV) (A2 : SA) (V2 : SV) (o : Nat → Int64) (AM : SA) (VM : SV) (H : Heap) (locs : List Loc) (ls : Array Slot) (hI : K A V A2 V2 AM VM) (hw : WS D s (fun q : Nat => s.heap.size ≤ q) (wF xa oa ad ad2 am cI cZ cJ A V A2 V2 o AM VM) H locs) (hl : lv_has ls 9 [(0, .ref b), (1, .ref xa), (2, .ref (am 0)), (3, .ref oa), (4, .int (nI i))]), W p l e room_1 (s.setDrawn d0) m #[Value.ref b] below meth c H locs k1 s1 Z (F0 m 1279 ls [])) : ∀ (d0 : Drawn) (hd0 : s.drawn.sameBut d0 lw_cs) (A : SA) (V : SV) (A2 : SA) (V2 : SV) (o : Nat → Int64) (AM : SA) (VM : SV) (h : LC_addBin K A V A2 V2 o AM VM (xs (i + 1)) (xs (i + 2)) (xs (i + 3))) (H : Heap) (locs : List Loc) (ls : Array Slot) (hw : WS D s (fun q : Nat => s.heap.size ≤ q) (wF xa oa ad ad2 am cI cZ cJ A V A2 V2 o AM VM) H locs) (hl : lv_has ls 9 [(0, .ref b), (1, .ref xa), (2, .ref (am 0)), (3, .ref oa), (4, .int (nI i))]), W p l e room_1 (s.setDrawn d0) m #[Value.ref b] below meth c H locs k0 s0 Z (F0 m 296 ls []) := by
  intro d0 hd0 A V A2 V2 o AM VM h H locs ls hw hl
  have hbA : ¬ s.heap.size ≤ b := Nat.not_le.mpr hbl
  have cx := cxs d0
  have hXd : XP (fun q : Nat => s.heap.size ≤ q) (s.setDrawn d0) := hXP.drawn
  obtain ⟨hx, hb, hml, hown, hts, hK, hA⟩ := id cx
  refine lv_aload_n (pc := 296) hx hb dL_law_296 rfl (lv_at hl 1 rfl) ?_
  refine lv_aload_n (pc := 297) hx hb dL_law_297 rfl (lv_at hl 0 rfl) ?_
  refine lv_iload (pc := 298) hx hb dL_law_298 (lv_at hl 4 rfl) ?_
  refine lv_iconst (pc := 300) (v := (1 : Int32)) hx hb dL_law_300 (by decide) ?_
  refine lv_iadd (pc := 301) hx hb dL_law_301 ?_
  refine lv_eqi (nI_add i 1) ?_
  refine sldL (pc := 302) (s := s.setDrawn d0) hx hb hX hbl hw.2.2 hL (j := i + 1) (by omega) dL_law_302 ?_
  refine lv_aload_n (pc := 303) hx hb dL_law_303 rfl (lv_at hl 0 rfl) ?_
  refine lv_iload (pc := 304) hx hb dL_law_304 (lv_at hl 4 rfl) ?_
  refine lv_iconst (pc := 306) (v := (2 : Int32)) hx hb dL_law_306 (by decide) ?_
  refine lv_iadd (pc := 307) hx hb dL_law_307 ?_
  refine lv_eqi (nI_add i 2) ?_
  refine sldL (pc := 308) (s := s.setDrawn d0) hx hb hX hbl hw.2.2 hL (j := i + 2) (by omega) dL_law_308 ?_
  refine lv_aload_n (pc := 309) hx hb dL_law_309 rfl (lv_at hl 3 rfl) ?_
  refine callSWi (pc := 310) (rest := []) (wsU := fun u : SA × SV × SA × SV × (Nat → Int64) => wF xa oa ad ad2 am cI cZ cJ u.1 u.2.1 u.2.2.1 u.2.2.2.1 u.2.2.2.2 AM VM) (c1 := k0 + 1) (s1 := s0 + 6) cx hw hl hXd (metL_addBin l hlt D cI cZ cJ xa oa ad ad2 H.size A V A2 V2 o (xs (i + 1)) (xs (i + 2)) _ h) (fun hts => vx_cwSW 4 hts gL_law_L_addBin rfl rfl rfl (by decide +kernel) ⟨Nat.le_of_ble_eq_true rfl, Nat.le_of_ble_eq_true rfl⟩) SUB.left [0, 1, 2] rfl JN.left rfl rfl (Nat.le_of_ble_eq_true rfl) ⟨by show k0 + 1 ≤ 601024; omega, by show s0 + 6 ≤ 7293034; omega⟩ rfl rfl dL_law_310 (fun kk u H locs h hw => ?_)
  obtain ⟨A, V, A2, V2, o⟩ := u
  have hw : WS D s (fun q : Nat => s.heap.size ≤ q) (wF xa oa ad ad2 am cI cZ cJ A V A2 V2 o AM VM) H locs := hw
  refine lv_istore (pc := 313) (lv' := [(5, .int kk), (0, .ref b), (1, .ref xa), (2, .ref (am 0)), (3, .ref oa), (4, .int (nI i))]) hx hb dL_law_313 hl (by decide) rfl (fun ls hl => ?_)
  refine lv_aload_n (pc := 315) hx hb dL_law_315 rfl (lv_at hl 3 rfl) ?_
  refine lv_aload_n (pc := 316) hx hb dL_law_316 rfl (lv_at hl 1 rfl) ?_
  refine lv_iload (pc := 317) hx hb dL_law_317 (lv_at hl 5 rfl) ?_
  refine lv_iconst (pc := 319) (v := (1 : Int32)) hx hb dL_law_319 (by decide) ?_
  refine lv_iadd (pc := 320) hx hb dL_law_320 ?_
  refine lv_eqi (nI_add i 1) ?_
  refine sldL (pc := 321) (s := s.setDrawn d0) hx hb hX hbl hw.2.2 hL (j := i + 1) (by omega) dL_law_321 ?_
  refine lv_aload_n (pc := 322) hx hb dL_law_322 rfl (lv_at hl 1 rfl) ?_
  refine lv_iload (pc := 323) hx hb dL_law_323 (lv_at hl 5 rfl) ?_
  refine lv_iconst (pc := 325) (v := (2 : Int32)) hx hb dL_law_325 (by decide) ?_
  refine lv_iadd (pc := 326) hx hb dL_law_326 ?_
  refine lv_eqi (nI_add i 2) ?_
  refine sldL (pc := 327) (s := s.setDrawn d0) hx hb hX hbl hw.2.2 hL (j := i + 2) (by omega) dL_law_327 ?_
  refine callVi (pc := 328) (rest := []) (wsU := fun u : SA × SV => wF xa oa ad ad2 am cI cZ cJ A V A2 V2 o u.1 u.2) (c1 := (k0 + 1)) (s1 := (s0 + 6)) cx hw hl (metX6_addBin l D cI cZ am H.size  AM VM (xs (i + 1)) (xs (i + 2)) _ h) (fun hts => cwV 2 hts gL_law_X6_addBin rfl rfl rfl (by decide +kernel) ⟨Nat.le_of_ble_eq_true rfl, Nat.le_of_ble_eq_true rfl⟩) SUB.right [0, 1] rfl 0 (ci := 6) rfl rfl rfl JN.right rfl rfl (Nat.le_of_ble_eq_true rfl) ⟨by show (k0 + 1) + 0 ≤ 601024; omega, by show (s0 + 6) + 0 ≤ 7293034; omega⟩ rfl rfl dL_law_328 (fun bv u H locs h hw => ?_)
  obtain ⟨AM, VM⟩ := u
  have hw : WS D s (fun q : Nat => s.heap.size ≤ q) (wF xa oa ad ad2 am cI cZ cJ A V A2 V2 o AM VM) H locs := hw
  refine lv_istore (pc := 331) (lv' := [(6, .int bv), (5, .int kk), (0, .ref b), (1, .ref xa), (2, .ref (am 0)), (3, .ref oa), (4, .int (nI i))]) hx hb dL_law_331 hl (by decide) rfl (fun ls hl => ?_)
  refine lv_aload_n (pc := 333) hx hb dL_law_333 rfl (lv_at hl 4 rfl) ?_
  refine callVi (pc := 334) (rest := []) (wsU := fun u : SA × SV => wF xa oa ad ad2 am cI cZ cJ A V A2 V2 o u.1 u.2) (c1 := (k0 + 1)) (s1 := (s0 + 6)) cx hw hl (metX6_thrown l D cI cZ am H.size  AM VM  _ h) (fun hts => cwV 0 hts gL_law_X6_thrown rfl rfl rfl (by decide +kernel) ⟨Nat.le_of_ble_eq_true rfl, Nat.le_of_ble_eq_true rfl⟩) SUB.right [0, 1] rfl 0 (ci := 6) rfl rfl rfl JN.right rfl rfl (Nat.le_of_ble_eq_true rfl) ⟨by show (k0 + 1) + 0 ≤ 601024; omega, by show (s0 + 6) + 0 ≤ 7293034; omega⟩ rfl rfl dL_law_334 (fun tv u H locs h hw => ?_)
  obtain ⟨AM, VM⟩ := u
  have hw : WS D s (fun q : Nat => s.heap.size ≤ q) (wF xa oa ad ad2 am cI cZ cJ A V A2 V2 o AM VM) H locs := hw
  obtain ⟨he, ho, hI⟩ := h
  have ho : kk = 0 → o 0 = bv.toInt64 := ho
  refine lv_iload (pc := 337) hx hb dL_law_337 (lv_at hl 1 rfl) ?_
  refine lv_icmp_eq (pc := 339) (tgt := 344) hx hb dL_law_339 (by decide) (fun _ => ?_) (fun hn => absurd he hn)
  refine lv_iload (pc := 344) hx hb dL_law_344 (lv_at hl 1 rfl) ?_
  refine lv_if_ne (pc := 346) (tgt := 361) hx hb dL_law_346 (by decide) (fun _ => ?_) (fun hz => ?_)
  · skip
    refine lv_goto (pc := 361) (tgt := 1279) hx hb dL_law_361 (by decide) ?_
    refine W.widen (k := k1) (n := s1) (by omega) (by omega) ?_
    exact hnext d0 hd0 A V A2 V2 o AM VM _ _ _ hI hw (lv_sub hl [2, 3, 4, 5, 6] rfl)
  · refine lv_aload_n (pc := 349) hx hb dL_law_349 rfl (lv_at hl 5 rfl) ?_
    refine lv_iconst (pc := 350) (v := (0 : Int32)) hx hb dL_law_350 (by decide) ?_
    refine alL (pc := 351) cx hw 51 2 (o := o) rfl rfl dL_law_351 ?_
    refine lv_iload (pc := 352) hx hb dL_law_352 (lv_at hl 0 rfl) ?_
    refine lv_i2l (pc := 354) (v := bv.toInt64) hx hb dL_law_354 rfl ?_
    refine W.lcmp (pc := 355) hx hb dL_law_355 ?_
    rw [ho hz, cmp_rf]
    refine lv_if_eq (pc := 356) (tgt := 361) hx hb dL_law_356 (by decide) (fun _ => ?_) (fun hn => absurd rfl hn)
    refine lv_goto (pc := 361) (tgt := 1279) hx hb dL_law_361 (by decide) ?_
    refine W.widen (k := k1) (n := s1) (by omega) (by omega) ?_
    exact hnext d0 hd0 A V A2 V2 o AM VM _ _ _ hI hw (lv_sub hl [2, 3, 4, 5, 6] rfl)
set_option maxHeartbeats 4000000 in
set_option maxRecDepth 100000 in
theorem law_c_setCrew (hlt : l.stackTraces = false) (K : INVT) (cxs : ∀ d0 : Drawn, CX RL cL_law 9 wsL_law D (tysL cI cZ cJ) p (s.setDrawn d0) m #[Value.ref b] c (fun q : Nat => s.heap.size ≤ q)) (hXP : XP (fun q : Nat => s.heap.size ≤ q) s) (hX : va_X b L xs s s.heap) (hbl : b < s.heap.size) (hL : L ≤ 2048) (i : Nat) (hi : i + 4 ≤ L) (k0 s0 k1 s1 : Nat) (hk : k0 + 160 ≤ k1) (hs : s0 + 1600 ≤ s1) (hk1 : k1 ≤ 601024) (hs1 : s1 ≤ 7293034) (hnext : ∀ (d0 : Drawn) (hd0 : s.drawn.sameBut d0 lw_cs) (A : SA) (V : SV) (A2 : SA) (V2 : SV) (o : Nat → Int64) (AM : SA) (VM : SV) (H : Heap) (locs : List Loc) (ls : Array Slot) (hI : K A V A2 V2 AM VM) (hw : WS D s (fun q : Nat => s.heap.size ≤ q) (wF xa oa ad ad2 am cI cZ cJ A V A2 V2 o AM VM) H locs) (hl : lv_has ls 9 [(0, .ref b), (1, .ref xa), (2, .ref (am 0)), (3, .ref oa), (4, .int (nI i))]), W p l e room_1 (s.setDrawn d0) m #[Value.ref b] below meth c H locs k1 s1 Z (F0 m 1279 ls [])) : ∀ (d0 : Drawn) (hd0 : s.drawn.sameBut d0 lw_cs) (A : SA) (V : SV) (A2 : SA) (V2 : SV) (o : Nat → Int64) (AM : SA) (VM : SV) (h : LC_setCrew K A V A2 V2 o AM VM (xs (i + 1)) (xs (i + 2)) (xs (i + 3))) (H : Heap) (locs : List Loc) (ls : Array Slot) (hw : WS D s (fun q : Nat => s.heap.size ≤ q) (wF xa oa ad ad2 am cI cZ cJ A V A2 V2 o AM VM) H locs) (hl : lv_has ls 9 [(0, .ref b), (1, .ref xa), (2, .ref (am 0)), (3, .ref oa), (4, .int (nI i))]), W p l e room_1 (s.setDrawn d0) m #[Value.ref b] below meth c H locs k0 s0 Z (F0 m 364 ls []) := by
  intro d0 hd0 A V A2 V2 o AM VM h H locs ls hw hl
  have hbA : ¬ s.heap.size ≤ b := Nat.not_le.mpr hbl
  have cx := cxs d0
  have hXd : XP (fun q : Nat => s.heap.size ≤ q) (s.setDrawn d0) := hXP.drawn
  obtain ⟨hx, hb, hml, hown, hts, hK, hA⟩ := id cx
  refine lv_aload_n (pc := 364) hx hb dL_law_364 rfl (lv_at hl 1 rfl) ?_
  refine lv_aload_n (pc := 365) hx hb dL_law_365 rfl (lv_at hl 0 rfl) ?_
  refine lv_iload (pc := 366) hx hb dL_law_366 (lv_at hl 4 rfl) ?_
  refine lv_iconst (pc := 368) (v := (1 : Int32)) hx hb dL_law_368 (by decide) ?_
  refine lv_iadd (pc := 369) hx hb dL_law_369 ?_
  refine lv_eqi (nI_add i 1) ?_
  refine sldL (pc := 370) (s := s.setDrawn d0) hx hb hX hbl hw.2.2 hL (j := i + 1) (by omega) dL_law_370 ?_
  refine lv_aload_n (pc := 371) hx hb dL_law_371 rfl (lv_at hl 0 rfl) ?_
  refine lv_iload (pc := 372) hx hb dL_law_372 (lv_at hl 4 rfl) ?_
  refine lv_iconst (pc := 374) (v := (2 : Int32)) hx hb dL_law_374 (by decide) ?_
  refine lv_iadd (pc := 375) hx hb dL_law_375 ?_
  refine lv_eqi (nI_add i 2) ?_
  refine sldL (pc := 376) (s := s.setDrawn d0) hx hb hX hbl hw.2.2 hL (j := i + 2) (by omega) dL_law_376 ?_
  refine lv_aload_n (pc := 377) hx hb dL_law_377 rfl (lv_at hl 3 rfl) ?_
  refine callSWi (pc := 378) (rest := []) (wsU := fun u : SA × SV × SA × SV × (Nat → Int64) => wF xa oa ad ad2 am cI cZ cJ u.1 u.2.1 u.2.2.1 u.2.2.2.1 u.2.2.2.2 AM VM) (c1 := k0 + 1) (s1 := s0 + 6) cx hw hl hXd (metL_setCrew l hlt D cI cZ cJ xa oa ad ad2 H.size A V A2 V2 o (xs (i + 1)) (xs (i + 2)) _ h) (fun hts => vx_cwSW 4 hts gL_law_L_setCrew rfl rfl rfl (by decide +kernel) ⟨Nat.le_of_ble_eq_true rfl, Nat.le_of_ble_eq_true rfl⟩) SUB.left [0, 1, 2] rfl JN.left rfl rfl (Nat.le_of_ble_eq_true rfl) ⟨by show k0 + 1 ≤ 601024; omega, by show s0 + 6 ≤ 7293034; omega⟩ rfl rfl dL_law_378 (fun kk u H locs h hw => ?_)
  obtain ⟨A, V, A2, V2, o⟩ := u
  have hw : WS D s (fun q : Nat => s.heap.size ≤ q) (wF xa oa ad ad2 am cI cZ cJ A V A2 V2 o AM VM) H locs := hw
  refine lv_istore (pc := 381) (lv' := [(5, .int kk), (0, .ref b), (1, .ref xa), (2, .ref (am 0)), (3, .ref oa), (4, .int (nI i))]) hx hb dL_law_381 hl (by decide) rfl (fun ls hl => ?_)
  refine lv_aload_n (pc := 383) hx hb dL_law_383 rfl (lv_at hl 3 rfl) ?_
  refine lv_aload_n (pc := 384) hx hb dL_law_384 rfl (lv_at hl 1 rfl) ?_
  refine lv_iload (pc := 385) hx hb dL_law_385 (lv_at hl 5 rfl) ?_
  refine lv_iconst (pc := 387) (v := (1 : Int32)) hx hb dL_law_387 (by decide) ?_
  refine lv_iadd (pc := 388) hx hb dL_law_388 ?_
  refine lv_eqi (nI_add i 1) ?_
  refine sldL (pc := 389) (s := s.setDrawn d0) hx hb hX hbl hw.2.2 hL (j := i + 1) (by omega) dL_law_389 ?_
  refine lv_aload_n (pc := 390) hx hb dL_law_390 rfl (lv_at hl 1 rfl) ?_
  refine lv_iload (pc := 391) hx hb dL_law_391 (lv_at hl 5 rfl) ?_
  refine lv_iconst (pc := 393) (v := (2 : Int32)) hx hb dL_law_393 (by decide) ?_
  refine lv_iadd (pc := 394) hx hb dL_law_394 ?_
  refine lv_eqi (nI_add i 2) ?_
  refine sldL (pc := 395) (s := s.setDrawn d0) hx hb hX hbl hw.2.2 hL (j := i + 2) (by omega) dL_law_395 ?_
  refine callVi (pc := 396) (rest := []) (wsU := fun u : SA × SV => wF xa oa ad ad2 am cI cZ cJ A V A2 V2 o u.1 u.2) (c1 := (k0 + 1)) (s1 := (s0 + 6)) cx hw hl (metX6_setCrew l D cI cZ am H.size  AM VM (xs (i + 1)) (xs (i + 2)) _ h) (fun hts => cwV 2 hts gL_law_X6_setCrew rfl rfl rfl (by decide +kernel) ⟨Nat.le_of_ble_eq_true rfl, Nat.le_of_ble_eq_true rfl⟩) SUB.right [0, 1] rfl 0 (ci := 6) rfl rfl rfl JN.right rfl rfl (Nat.le_of_ble_eq_true rfl) ⟨by show (k0 + 1) + 0 ≤ 601024; omega, by show (s0 + 6) + 0 ≤ 7293034; omega⟩ rfl rfl dL_law_396 (fun bv u H locs h hw => ?_)
  obtain ⟨AM, VM⟩ := u
  have hw : WS D s (fun q : Nat => s.heap.size ≤ q) (wF xa oa ad ad2 am cI cZ cJ A V A2 V2 o AM VM) H locs := hw
  refine lv_istore (pc := 399) (lv' := [(6, .int bv), (5, .int kk), (0, .ref b), (1, .ref xa), (2, .ref (am 0)), (3, .ref oa), (4, .int (nI i))]) hx hb dL_law_399 hl (by decide) rfl (fun ls hl => ?_)
  refine lv_aload_n (pc := 401) hx hb dL_law_401 rfl (lv_at hl 4 rfl) ?_
  refine callVi (pc := 402) (rest := []) (wsU := fun u : SA × SV => wF xa oa ad ad2 am cI cZ cJ A V A2 V2 o u.1 u.2) (c1 := (k0 + 1)) (s1 := (s0 + 6)) cx hw hl (metX6_thrown l D cI cZ am H.size  AM VM  _ h) (fun hts => cwV 0 hts gL_law_X6_thrown rfl rfl rfl (by decide +kernel) ⟨Nat.le_of_ble_eq_true rfl, Nat.le_of_ble_eq_true rfl⟩) SUB.right [0, 1] rfl 0 (ci := 6) rfl rfl rfl JN.right rfl rfl (Nat.le_of_ble_eq_true rfl) ⟨by show (k0 + 1) + 0 ≤ 601024; omega, by show (s0 + 6) + 0 ≤ 7293034; omega⟩ rfl rfl dL_law_402 (fun tv u H locs h hw => ?_)
  obtain ⟨AM, VM⟩ := u
  have hw : WS D s (fun q : Nat => s.heap.size ≤ q) (wF xa oa ad ad2 am cI cZ cJ A V A2 V2 o AM VM) H locs := hw
  obtain ⟨he, ho, hI⟩ := h
  have ho : kk = 0 → o 0 = bv.toInt64 := ho
  refine lv_iload (pc := 405) hx hb dL_law_405 (lv_at hl 1 rfl) ?_
  refine lv_icmp_eq (pc := 407) (tgt := 412) hx hb dL_law_407 (by decide) (fun _ => ?_) (fun hn => absurd he hn)
  refine lv_iload (pc := 412) hx hb dL_law_412 (lv_at hl 1 rfl) ?_
  refine lv_if_ne (pc := 414) (tgt := 429) hx hb dL_law_414 (by decide) (fun _ => ?_) (fun hz => ?_)
  · skip
    refine lv_goto (pc := 429) (tgt := 1279) hx hb dL_law_429 (by decide) ?_
    refine W.widen (k := k1) (n := s1) (by omega) (by omega) ?_
    exact hnext d0 hd0 A V A2 V2 o AM VM _ _ _ hI hw (lv_sub hl [2, 3, 4, 5, 6] rfl)
  · refine lv_aload_n (pc := 417) hx hb dL_law_417 rfl (lv_at hl 5 rfl) ?_
    refine lv_iconst (pc := 418) (v := (0 : Int32)) hx hb dL_law_418 (by decide) ?_
    refine alL (pc := 419) cx hw 51 2 (o := o) rfl rfl dL_law_419 ?_
    refine lv_iload (pc := 420) hx hb dL_law_420 (lv_at hl 0 rfl) ?_
    refine lv_i2l (pc := 422) (v := bv.toInt64) hx hb dL_law_422 rfl ?_
    refine W.lcmp (pc := 423) hx hb dL_law_423 ?_
    rw [ho hz, cmp_rf]
    refine lv_if_eq (pc := 424) (tgt := 429) hx hb dL_law_424 (by decide) (fun _ => ?_) (fun hn => absurd rfl hn)
    refine lv_goto (pc := 429) (tgt := 1279) hx hb dL_law_429 (by decide) ?_
    refine W.widen (k := k1) (n := s1) (by omega) (by omega) ?_
    exact hnext d0 hd0 A V A2 V2 o AM VM _ _ _ hI hw (lv_sub hl [2, 3, 4, 5, 6] rfl)
set_option maxHeartbeats 4000000 in
set_option maxRecDepth 100000 in
theorem law_c_addDrowned (hlt : l.stackTraces = false) (K : INVT) (cxs : ∀ d0 : Drawn, CX RL cL_law 9 wsL_law D (tysL cI cZ cJ) p (s.setDrawn d0) m #[Value.ref b] c (fun q : Nat => s.heap.size ≤ q)) (hXP : XP (fun q : Nat => s.heap.size ≤ q) s) (hX : va_X b L xs s s.heap) (hbl : b < s.heap.size) (hL : L ≤ 2048) (i : Nat) (hi : i + 4 ≤ L) (k0 s0 k1 s1 : Nat) (hk : k0 + 160 ≤ k1) (hs : s0 + 1600 ≤ s1) (hk1 : k1 ≤ 601024) (hs1 : s1 ≤ 7293034) (hnext : ∀ (d0 : Drawn) (hd0 : s.drawn.sameBut d0 lw_cs) (A : SA) (V : SV) (A2 : SA) (V2 : SV) (o : Nat → Int64) (AM : SA) (VM : SV) (H : Heap) (locs : List Loc) (ls : Array Slot) (hI : K A V A2 V2 AM VM) (hw : WS D s (fun q : Nat => s.heap.size ≤ q) (wF xa oa ad ad2 am cI cZ cJ A V A2 V2 o AM VM) H locs) (hl : lv_has ls 9 [(0, .ref b), (1, .ref xa), (2, .ref (am 0)), (3, .ref oa), (4, .int (nI i))]), W p l e room_1 (s.setDrawn d0) m #[Value.ref b] below meth c H locs k1 s1 Z (F0 m 1279 ls [])) : ∀ (d0 : Drawn) (hd0 : s.drawn.sameBut d0 lw_cs) (A : SA) (V : SV) (A2 : SA) (V2 : SV) (o : Nat → Int64) (AM : SA) (VM : SV) (h : LC_addDrowned K A V A2 V2 o AM VM (xs (i + 1)) (xs (i + 2)) (xs (i + 3))) (H : Heap) (locs : List Loc) (ls : Array Slot) (hw : WS D s (fun q : Nat => s.heap.size ≤ q) (wF xa oa ad ad2 am cI cZ cJ A V A2 V2 o AM VM) H locs) (hl : lv_has ls 9 [(0, .ref b), (1, .ref xa), (2, .ref (am 0)), (3, .ref oa), (4, .int (nI i))]), W p l e room_1 (s.setDrawn d0) m #[Value.ref b] below meth c H locs k0 s0 Z (F0 m 432 ls []) := by
  intro d0 hd0 A V A2 V2 o AM VM h H locs ls hw hl
  have hbA : ¬ s.heap.size ≤ b := Nat.not_le.mpr hbl
  have cx := cxs d0
  have hXd : XP (fun q : Nat => s.heap.size ≤ q) (s.setDrawn d0) := hXP.drawn
  obtain ⟨hx, hb, hml, hown, hts, hK, hA⟩ := id cx
  refine lv_aload_n (pc := 432) hx hb dL_law_432 rfl (lv_at hl 1 rfl) ?_
  refine lv_aload_n (pc := 433) hx hb dL_law_433 rfl (lv_at hl 0 rfl) ?_
  refine lv_iload (pc := 434) hx hb dL_law_434 (lv_at hl 4 rfl) ?_
  refine lv_iconst (pc := 436) (v := (1 : Int32)) hx hb dL_law_436 (by decide) ?_
  refine lv_iadd (pc := 437) hx hb dL_law_437 ?_
  refine lv_eqi (nI_add i 1) ?_
  refine sldL (pc := 438) (s := s.setDrawn d0) hx hb hX hbl hw.2.2 hL (j := i + 1) (by omega) dL_law_438 ?_
  refine lv_aload_n (pc := 439) hx hb dL_law_439 rfl (lv_at hl 0 rfl) ?_
  refine lv_iload (pc := 440) hx hb dL_law_440 (lv_at hl 4 rfl) ?_
  refine lv_iconst (pc := 442) (v := (2 : Int32)) hx hb dL_law_442 (by decide) ?_
  refine lv_iadd (pc := 443) hx hb dL_law_443 ?_
  refine lv_eqi (nI_add i 2) ?_
  refine sldL (pc := 444) (s := s.setDrawn d0) hx hb hX hbl hw.2.2 hL (j := i + 2) (by omega) dL_law_444 ?_
  refine lv_aload_n (pc := 445) hx hb dL_law_445 rfl (lv_at hl 0 rfl) ?_
  refine lv_iload (pc := 446) hx hb dL_law_446 (lv_at hl 4 rfl) ?_
  refine lv_iconst (pc := 448) (v := (3 : Int32)) hx hb dL_law_448 (by decide) ?_
  refine lv_iadd (pc := 449) hx hb dL_law_449 ?_
  refine lv_eqi (nI_add i 3) ?_
  refine sldL (pc := 450) (s := s.setDrawn d0) hx hb hX hbl hw.2.2 hL (j := i + 3) (by omega) dL_law_450 ?_
  refine lv_aload_n (pc := 451) hx hb dL_law_451 rfl (lv_at hl 3 rfl) ?_
  refine callSWi (pc := 452) (rest := []) (wsU := fun u : SA × SV × SA × SV × (Nat → Int64) => wF xa oa ad ad2 am cI cZ cJ u.1 u.2.1 u.2.2.1 u.2.2.2.1 u.2.2.2.2 AM VM) (c1 := k0 + 1) (s1 := s0 + 6) cx hw hl hXd (metL_addDrowned l hlt D cI cZ cJ xa oa ad ad2 H.size A V A2 V2 o (xs (i + 1)) (xs (i + 2)) (xs (i + 3)) _ h) (fun hts => vx_cwSW 5 hts gL_law_L_addDrowned rfl rfl rfl (by decide +kernel) ⟨Nat.le_of_ble_eq_true rfl, Nat.le_of_ble_eq_true rfl⟩) SUB.left [0, 1, 2] rfl JN.left rfl rfl (Nat.le_of_ble_eq_true rfl) ⟨by show k0 + 1 ≤ 601024; omega, by show s0 + 6 ≤ 7293034; omega⟩ rfl rfl dL_law_452 (fun kk u H locs h hw => ?_)
  obtain ⟨A, V, A2, V2, o⟩ := u
  have hw : WS D s (fun q : Nat => s.heap.size ≤ q) (wF xa oa ad ad2 am cI cZ cJ A V A2 V2 o AM VM) H locs := hw
  refine lv_istore (pc := 455) (lv' := [(5, .int kk), (0, .ref b), (1, .ref xa), (2, .ref (am 0)), (3, .ref oa), (4, .int (nI i))]) hx hb dL_law_455 hl (by decide) rfl (fun ls hl => ?_)
  refine lv_aload_n (pc := 457) hx hb dL_law_457 rfl (lv_at hl 3 rfl) ?_
  refine lv_aload_n (pc := 458) hx hb dL_law_458 rfl (lv_at hl 1 rfl) ?_
  refine lv_iload (pc := 459) hx hb dL_law_459 (lv_at hl 5 rfl) ?_
  refine lv_iconst (pc := 461) (v := (1 : Int32)) hx hb dL_law_461 (by decide) ?_
  refine lv_iadd (pc := 462) hx hb dL_law_462 ?_
  refine lv_eqi (nI_add i 1) ?_
  refine sldL (pc := 463) (s := s.setDrawn d0) hx hb hX hbl hw.2.2 hL (j := i + 1) (by omega) dL_law_463 ?_
  refine lv_aload_n (pc := 464) hx hb dL_law_464 rfl (lv_at hl 1 rfl) ?_
  refine lv_iload (pc := 465) hx hb dL_law_465 (lv_at hl 5 rfl) ?_
  refine lv_iconst (pc := 467) (v := (2 : Int32)) hx hb dL_law_467 (by decide) ?_
  refine lv_iadd (pc := 468) hx hb dL_law_468 ?_
  refine lv_eqi (nI_add i 2) ?_
  refine sldL (pc := 469) (s := s.setDrawn d0) hx hb hX hbl hw.2.2 hL (j := i + 2) (by omega) dL_law_469 ?_
  refine lv_aload_n (pc := 470) hx hb dL_law_470 rfl (lv_at hl 1 rfl) ?_
  refine lv_iload (pc := 471) hx hb dL_law_471 (lv_at hl 5 rfl) ?_
  refine lv_iconst (pc := 473) (v := (3 : Int32)) hx hb dL_law_473 (by decide) ?_
  refine lv_iadd (pc := 474) hx hb dL_law_474 ?_
  refine lv_eqi (nI_add i 3) ?_
  refine sldL (pc := 475) (s := s.setDrawn d0) hx hb hX hbl hw.2.2 hL (j := i + 3) (by omega) dL_law_475 ?_
  refine callVi (pc := 476) (rest := []) (wsU := fun u : SA × SV => wF xa oa ad ad2 am cI cZ cJ A V A2 V2 o u.1 u.2) (c1 := ((k0 + 1) + 1)) (s1 := ((s0 + 6) + 5)) cx hw hl (metX6_addDrowned l D cI cZ am H.size  AM VM (xs (i + 1)) (xs (i + 2)) (xs (i + 3)) _ h) (fun hts => cwV 3 hts gL_law_X6_addDrowned rfl rfl rfl (by decide +kernel) ⟨Nat.le_of_ble_eq_true rfl, Nat.le_of_ble_eq_true rfl⟩) SUB.right [0, 1] rfl 0 (ci := 6) rfl rfl rfl JN.right rfl rfl (Nat.le_of_ble_eq_true rfl) ⟨by show (k0 + 1) + 1 ≤ 601024; omega, by show (s0 + 6) + 5 ≤ 7293034; omega⟩ rfl rfl dL_law_476 (fun bv u H locs h hw => ?_)
  obtain ⟨AM, VM⟩ := u
  have hw : WS D s (fun q : Nat => s.heap.size ≤ q) (wF xa oa ad ad2 am cI cZ cJ A V A2 V2 o AM VM) H locs := hw
  refine lv_istore (pc := 479) (lv' := [(6, .int bv), (5, .int kk), (0, .ref b), (1, .ref xa), (2, .ref (am 0)), (3, .ref oa), (4, .int (nI i))]) hx hb dL_law_479 hl (by decide) rfl (fun ls hl => ?_)
  refine lv_aload_n (pc := 481) hx hb dL_law_481 rfl (lv_at hl 4 rfl) ?_
  refine callVi (pc := 482) (rest := []) (wsU := fun u : SA × SV => wF xa oa ad ad2 am cI cZ cJ A V A2 V2 o u.1 u.2) (c1 := ((k0 + 1) + 1)) (s1 := ((s0 + 6) + 5)) cx hw hl (metX6_thrown l D cI cZ am H.size  AM VM  _ h) (fun hts => cwV 0 hts gL_law_X6_thrown rfl rfl rfl (by decide +kernel) ⟨Nat.le_of_ble_eq_true rfl, Nat.le_of_ble_eq_true rfl⟩) SUB.right [0, 1] rfl 0 (ci := 6) rfl rfl rfl JN.right rfl rfl (Nat.le_of_ble_eq_true rfl) ⟨by show ((k0 + 1) + 1) + 0 ≤ 601024; omega, by show ((s0 + 6) + 5) + 0 ≤ 7293034; omega⟩ rfl rfl dL_law_482 (fun tv u H locs h hw => ?_)
  obtain ⟨AM, VM⟩ := u
  have hw : WS D s (fun q : Nat => s.heap.size ≤ q) (wF xa oa ad ad2 am cI cZ cJ A V A2 V2 o AM VM) H locs := hw
  obtain ⟨he, ho, hI⟩ := h
  have ho : kk = 0 → o 0 = bv.toInt64 := ho
  refine lv_iload (pc := 485) hx hb dL_law_485 (lv_at hl 1 rfl) ?_
  refine lv_icmp_eq (pc := 487) (tgt := 492) hx hb dL_law_487 (by decide) (fun _ => ?_) (fun hn => absurd he hn)
  refine lv_iload (pc := 492) hx hb dL_law_492 (lv_at hl 1 rfl) ?_
  refine lv_if_ne (pc := 494) (tgt := 509) hx hb dL_law_494 (by decide) (fun _ => ?_) (fun hz => ?_)
  · skip
    refine lv_goto (pc := 509) (tgt := 1279) hx hb dL_law_509 (by decide) ?_
    refine W.widen (k := k1) (n := s1) (by omega) (by omega) ?_
    exact hnext d0 hd0 A V A2 V2 o AM VM _ _ _ hI hw (lv_sub hl [2, 3, 4, 5, 6] rfl)
  · refine lv_aload_n (pc := 497) hx hb dL_law_497 rfl (lv_at hl 5 rfl) ?_
    refine lv_iconst (pc := 498) (v := (0 : Int32)) hx hb dL_law_498 (by decide) ?_
    refine alL (pc := 499) cx hw 51 2 (o := o) rfl rfl dL_law_499 ?_
    refine lv_iload (pc := 500) hx hb dL_law_500 (lv_at hl 0 rfl) ?_
    refine lv_i2l (pc := 502) (v := bv.toInt64) hx hb dL_law_502 rfl ?_
    refine W.lcmp (pc := 503) hx hb dL_law_503 ?_
    rw [ho hz, cmp_rf]
    refine lv_if_eq (pc := 504) (tgt := 509) hx hb dL_law_504 (by decide) (fun _ => ?_) (fun hn => absurd rfl hn)
    refine lv_goto (pc := 509) (tgt := 1279) hx hb dL_law_509 (by decide) ?_
    refine W.widen (k := k1) (n := s1) (by omega) (by omega) ?_
    exact hnext d0 hd0 A V A2 V2 o AM VM _ _ _ hI hw (lv_sub hl [2, 3, 4, 5, 6] rfl)
set_option maxHeartbeats 4000000 in
set_option maxRecDepth 100000 in
theorem law_c_bring (hlt : l.stackTraces = false) (K : INVT) (cxs : ∀ d0 : Drawn, CX RL cL_law 9 wsL_law D (tysL cI cZ cJ) p (s.setDrawn d0) m #[Value.ref b] c (fun q : Nat => s.heap.size ≤ q)) (hXP : XP (fun q : Nat => s.heap.size ≤ q) s) (hX : va_X b L xs s s.heap) (hbl : b < s.heap.size) (hL : L ≤ 2048) (i : Nat) (hi : i + 4 ≤ L) (k0 s0 k1 s1 : Nat) (hk : k0 + 160 ≤ k1) (hs : s0 + 1600 ≤ s1) (hk1 : k1 ≤ 601024) (hs1 : s1 ≤ 7293034) (hnext : ∀ (d0 : Drawn) (hd0 : s.drawn.sameBut d0 lw_cs) (A : SA) (V : SV) (A2 : SA) (V2 : SV) (o : Nat → Int64) (AM : SA) (VM : SV) (H : Heap) (locs : List Loc) (ls : Array Slot) (hI : K A V A2 V2 AM VM) (hw : WS D s (fun q : Nat => s.heap.size ≤ q) (wF xa oa ad ad2 am cI cZ cJ A V A2 V2 o AM VM) H locs) (hl : lv_has ls 9 [(0, .ref b), (1, .ref xa), (2, .ref (am 0)), (3, .ref oa), (4, .int (nI i))]), W p l e room_1 (s.setDrawn d0) m #[Value.ref b] below meth c H locs k1 s1 Z (F0 m 1279 ls [])) : ∀ (d0 : Drawn) (hd0 : s.drawn.sameBut d0 lw_cs) (A : SA) (V : SV) (A2 : SA) (V2 : SV) (o : Nat → Int64) (AM : SA) (VM : SV) (h : LC_bring K A V A2 V2 o AM VM (xs (i + 1)) (xs (i + 2)) (xs (i + 3))) (H : Heap) (locs : List Loc) (ls : Array Slot) (hw : WS D s (fun q : Nat => s.heap.size ≤ q) (wF xa oa ad ad2 am cI cZ cJ A V A2 V2 o AM VM) H locs) (hl : lv_has ls 9 [(0, .ref b), (1, .ref xa), (2, .ref (am 0)), (3, .ref oa), (4, .int (nI i))]), W p l e room_1 (s.setDrawn d0) m #[Value.ref b] below meth c H locs k0 s0 Z (F0 m 512 ls []) := by
  intro d0 hd0 A V A2 V2 o AM VM h H locs ls hw hl
  have hbA : ¬ s.heap.size ≤ b := Nat.not_le.mpr hbl
  have cx := cxs d0
  have hXd : XP (fun q : Nat => s.heap.size ≤ q) (s.setDrawn d0) := hXP.drawn
  obtain ⟨hx, hb, hml, hown, hts, hK, hA⟩ := id cx
  refine lv_aload_n (pc := 512) hx hb dL_law_512 rfl (lv_at hl 1 rfl) ?_
  refine lv_aload_n (pc := 513) hx hb dL_law_513 rfl (lv_at hl 0 rfl) ?_
  refine lv_iload (pc := 514) hx hb dL_law_514 (lv_at hl 4 rfl) ?_
  refine lv_iconst (pc := 516) (v := (1 : Int32)) hx hb dL_law_516 (by decide) ?_
  refine lv_iadd (pc := 517) hx hb dL_law_517 ?_
  refine lv_eqi (nI_add i 1) ?_
  refine sldL (pc := 518) (s := s.setDrawn d0) hx hb hX hbl hw.2.2 hL (j := i + 1) (by omega) dL_law_518 ?_
  refine lv_aload_n (pc := 519) hx hb dL_law_519 rfl (lv_at hl 0 rfl) ?_
  refine lv_iload (pc := 520) hx hb dL_law_520 (lv_at hl 4 rfl) ?_
  refine lv_iconst (pc := 522) (v := (2 : Int32)) hx hb dL_law_522 (by decide) ?_
  refine lv_iadd (pc := 523) hx hb dL_law_523 ?_
  refine lv_eqi (nI_add i 2) ?_
  refine sldL (pc := 524) (s := s.setDrawn d0) hx hb hX hbl hw.2.2 hL (j := i + 2) (by omega) dL_law_524 ?_
  refine lv_aload_n (pc := 525) hx hb dL_law_525 rfl (lv_at hl 0 rfl) ?_
  refine lv_iload (pc := 526) hx hb dL_law_526 (lv_at hl 4 rfl) ?_
  refine lv_iconst (pc := 528) (v := (3 : Int32)) hx hb dL_law_528 (by decide) ?_
  refine lv_iadd (pc := 529) hx hb dL_law_529 ?_
  refine lv_eqi (nI_add i 3) ?_
  refine sldL (pc := 530) (s := s.setDrawn d0) hx hb hX hbl hw.2.2 hL (j := i + 3) (by omega) dL_law_530 ?_
  refine lv_aload_n (pc := 531) hx hb dL_law_531 rfl (lv_at hl 3 rfl) ?_
  refine callSWi (pc := 532) (rest := []) (wsU := fun u : SA × SV × SA × SV × (Nat → Int64) => wF xa oa ad ad2 am cI cZ cJ u.1 u.2.1 u.2.2.1 u.2.2.2.1 u.2.2.2.2 AM VM) (c1 := k0 + 1) (s1 := s0 + 6) cx hw hl hXd (metL_bring l hlt D cI cZ cJ xa oa ad ad2 H.size A V A2 V2 o (xs (i + 1)) (xs (i + 2)) (xs (i + 3)) _ h) (fun hts => vx_cwSW 5 hts gL_law_L_bring rfl rfl rfl (by decide +kernel) ⟨Nat.le_of_ble_eq_true rfl, Nat.le_of_ble_eq_true rfl⟩) SUB.left [0, 1, 2] rfl JN.left rfl rfl (Nat.le_of_ble_eq_true rfl) ⟨by show k0 + 1 ≤ 601024; omega, by show s0 + 6 ≤ 7293034; omega⟩ rfl rfl dL_law_532 (fun kk u H locs h hw => ?_)
  obtain ⟨A, V, A2, V2, o⟩ := u
  have hw : WS D s (fun q : Nat => s.heap.size ≤ q) (wF xa oa ad ad2 am cI cZ cJ A V A2 V2 o AM VM) H locs := hw
  refine lv_istore (pc := 535) (lv' := [(5, .int kk), (0, .ref b), (1, .ref xa), (2, .ref (am 0)), (3, .ref oa), (4, .int (nI i))]) hx hb dL_law_535 hl (by decide) rfl (fun ls hl => ?_)
  refine lv_aload_n (pc := 537) hx hb dL_law_537 rfl (lv_at hl 3 rfl) ?_
  refine lv_aload_n (pc := 538) hx hb dL_law_538 rfl (lv_at hl 1 rfl) ?_
  refine lv_iload (pc := 539) hx hb dL_law_539 (lv_at hl 5 rfl) ?_
  refine lv_iconst (pc := 541) (v := (1 : Int32)) hx hb dL_law_541 (by decide) ?_
  refine lv_iadd (pc := 542) hx hb dL_law_542 ?_
  refine lv_eqi (nI_add i 1) ?_
  refine sldL (pc := 543) (s := s.setDrawn d0) hx hb hX hbl hw.2.2 hL (j := i + 1) (by omega) dL_law_543 ?_
  refine lv_aload_n (pc := 544) hx hb dL_law_544 rfl (lv_at hl 1 rfl) ?_
  refine lv_iload (pc := 545) hx hb dL_law_545 (lv_at hl 5 rfl) ?_
  refine lv_iconst (pc := 547) (v := (2 : Int32)) hx hb dL_law_547 (by decide) ?_
  refine lv_iadd (pc := 548) hx hb dL_law_548 ?_
  refine lv_eqi (nI_add i 2) ?_
  refine sldL (pc := 549) (s := s.setDrawn d0) hx hb hX hbl hw.2.2 hL (j := i + 2) (by omega) dL_law_549 ?_
  refine lv_aload_n (pc := 550) hx hb dL_law_550 rfl (lv_at hl 1 rfl) ?_
  refine lv_iload (pc := 551) hx hb dL_law_551 (lv_at hl 5 rfl) ?_
  refine lv_iconst (pc := 553) (v := (3 : Int32)) hx hb dL_law_553 (by decide) ?_
  refine lv_iadd (pc := 554) hx hb dL_law_554 ?_
  refine lv_eqi (nI_add i 3) ?_
  refine sldL (pc := 555) (s := s.setDrawn d0) hx hb hX hbl hw.2.2 hL (j := i + 3) (by omega) dL_law_555 ?_
  refine callVi (pc := 556) (rest := []) (wsU := fun u : SA × SV => wF xa oa ad ad2 am cI cZ cJ A V A2 V2 o u.1 u.2) (c1 := ((k0 + 1) + 1)) (s1 := ((s0 + 6) + 9)) cx hw hl (metX6_bring l D cI cZ am H.size  AM VM (xs (i + 1)) (xs (i + 2)) (xs (i + 3)) _ h) (fun hts => cwV 3 hts gL_law_X6_bring rfl rfl rfl (by decide +kernel) ⟨Nat.le_of_ble_eq_true rfl, Nat.le_of_ble_eq_true rfl⟩) SUB.right [0, 1] rfl 0 (ci := 6) rfl rfl rfl JN.right rfl rfl (Nat.le_of_ble_eq_true rfl) ⟨by show (k0 + 1) + 1 ≤ 601024; omega, by show (s0 + 6) + 9 ≤ 7293034; omega⟩ rfl rfl dL_law_556 (fun bv u H locs h hw => ?_)
  obtain ⟨AM, VM⟩ := u
  have hw : WS D s (fun q : Nat => s.heap.size ≤ q) (wF xa oa ad ad2 am cI cZ cJ A V A2 V2 o AM VM) H locs := hw
  refine lv_istore (pc := 559) (lv' := [(6, .int bv), (5, .int kk), (0, .ref b), (1, .ref xa), (2, .ref (am 0)), (3, .ref oa), (4, .int (nI i))]) hx hb dL_law_559 hl (by decide) rfl (fun ls hl => ?_)
  refine lv_aload_n (pc := 561) hx hb dL_law_561 rfl (lv_at hl 4 rfl) ?_
  refine callVi (pc := 562) (rest := []) (wsU := fun u : SA × SV => wF xa oa ad ad2 am cI cZ cJ A V A2 V2 o u.1 u.2) (c1 := ((k0 + 1) + 1)) (s1 := ((s0 + 6) + 9)) cx hw hl (metX6_thrown l D cI cZ am H.size  AM VM  _ h) (fun hts => cwV 0 hts gL_law_X6_thrown rfl rfl rfl (by decide +kernel) ⟨Nat.le_of_ble_eq_true rfl, Nat.le_of_ble_eq_true rfl⟩) SUB.right [0, 1] rfl 0 (ci := 6) rfl rfl rfl JN.right rfl rfl (Nat.le_of_ble_eq_true rfl) ⟨by show ((k0 + 1) + 1) + 0 ≤ 601024; omega, by show ((s0 + 6) + 9) + 0 ≤ 7293034; omega⟩ rfl rfl dL_law_562 (fun tv u H locs h hw => ?_)
  obtain ⟨AM, VM⟩ := u
  have hw : WS D s (fun q : Nat => s.heap.size ≤ q) (wF xa oa ad ad2 am cI cZ cJ A V A2 V2 o AM VM) H locs := hw
  obtain ⟨he, ho, hI⟩ := h
  have ho : kk = 0 → o 0 = bv.toInt64 := ho
  refine lv_iload (pc := 565) hx hb dL_law_565 (lv_at hl 1 rfl) ?_
  refine lv_icmp_eq (pc := 567) (tgt := 572) hx hb dL_law_567 (by decide) (fun _ => ?_) (fun hn => absurd he hn)
  refine lv_iload (pc := 572) hx hb dL_law_572 (lv_at hl 1 rfl) ?_
  refine lv_if_ne (pc := 574) (tgt := 589) hx hb dL_law_574 (by decide) (fun _ => ?_) (fun hz => ?_)
  · skip
    refine lv_goto (pc := 589) (tgt := 1279) hx hb dL_law_589 (by decide) ?_
    refine W.widen (k := k1) (n := s1) (by omega) (by omega) ?_
    exact hnext d0 hd0 A V A2 V2 o AM VM _ _ _ hI hw (lv_sub hl [2, 3, 4, 5, 6] rfl)
  · refine lv_aload_n (pc := 577) hx hb dL_law_577 rfl (lv_at hl 5 rfl) ?_
    refine lv_iconst (pc := 578) (v := (0 : Int32)) hx hb dL_law_578 (by decide) ?_
    refine alL (pc := 579) cx hw 51 2 (o := o) rfl rfl dL_law_579 ?_
    refine lv_iload (pc := 580) hx hb dL_law_580 (lv_at hl 0 rfl) ?_
    refine lv_i2l (pc := 582) (v := bv.toInt64) hx hb dL_law_582 rfl ?_
    refine W.lcmp (pc := 583) hx hb dL_law_583 ?_
    rw [ho hz, cmp_rf]
    refine lv_if_eq (pc := 584) (tgt := 589) hx hb dL_law_584 (by decide) (fun _ => ?_) (fun hn => absurd rfl hn)
    refine lv_goto (pc := 589) (tgt := 1279) hx hb dL_law_589 (by decide) ?_
    refine W.widen (k := k1) (n := s1) (by omega) (by omega) ?_
    exact hnext d0 hd0 A V A2 V2 o AM VM _ _ _ hI hw (lv_sub hl [2, 3, 4, 5, 6] rfl)
set_option maxHeartbeats 4000000 in
set_option maxRecDepth 100000 in
theorem law_c_takeOut (hlt : l.stackTraces = false) (K : INVT) (cxs : ∀ d0 : Drawn, CX RL cL_law 9 wsL_law D (tysL cI cZ cJ) p (s.setDrawn d0) m #[Value.ref b] c (fun q : Nat => s.heap.size ≤ q)) (hXP : XP (fun q : Nat => s.heap.size ≤ q) s) (hX : va_X b L xs s s.heap) (hbl : b < s.heap.size) (hL : L ≤ 2048) (i : Nat) (hi : i + 4 ≤ L) (k0 s0 k1 s1 : Nat) (hk : k0 + 160 ≤ k1) (hs : s0 + 1600 ≤ s1) (hk1 : k1 ≤ 601024) (hs1 : s1 ≤ 7293034) (hnext : ∀ (d0 : Drawn) (hd0 : s.drawn.sameBut d0 lw_cs) (A : SA) (V : SV) (A2 : SA) (V2 : SV) (o : Nat → Int64) (AM : SA) (VM : SV) (H : Heap) (locs : List Loc) (ls : Array Slot) (hI : K A V A2 V2 AM VM) (hw : WS D s (fun q : Nat => s.heap.size ≤ q) (wF xa oa ad ad2 am cI cZ cJ A V A2 V2 o AM VM) H locs) (hl : lv_has ls 9 [(0, .ref b), (1, .ref xa), (2, .ref (am 0)), (3, .ref oa), (4, .int (nI i))]), W p l e room_1 (s.setDrawn d0) m #[Value.ref b] below meth c H locs k1 s1 Z (F0 m 1279 ls [])) : ∀ (d0 : Drawn) (hd0 : s.drawn.sameBut d0 lw_cs) (A : SA) (V : SV) (A2 : SA) (V2 : SV) (o : Nat → Int64) (AM : SA) (VM : SV) (h : LC_takeOut K A V A2 V2 o AM VM (xs (i + 1)) (xs (i + 2)) (xs (i + 3))) (H : Heap) (locs : List Loc) (ls : Array Slot) (hw : WS D s (fun q : Nat => s.heap.size ≤ q) (wF xa oa ad ad2 am cI cZ cJ A V A2 V2 o AM VM) H locs) (hl : lv_has ls 9 [(0, .ref b), (1, .ref xa), (2, .ref (am 0)), (3, .ref oa), (4, .int (nI i))]), W p l e room_1 (s.setDrawn d0) m #[Value.ref b] below meth c H locs k0 s0 Z (F0 m 592 ls []) := by
  intro d0 hd0 A V A2 V2 o AM VM h H locs ls hw hl
  have hbA : ¬ s.heap.size ≤ b := Nat.not_le.mpr hbl
  have cx := cxs d0
  have hXd : XP (fun q : Nat => s.heap.size ≤ q) (s.setDrawn d0) := hXP.drawn
  obtain ⟨hx, hb, hml, hown, hts, hK, hA⟩ := id cx
  refine lv_aload_n (pc := 592) hx hb dL_law_592 rfl (lv_at hl 1 rfl) ?_
  refine lv_aload_n (pc := 593) hx hb dL_law_593 rfl (lv_at hl 0 rfl) ?_
  refine lv_iload (pc := 594) hx hb dL_law_594 (lv_at hl 4 rfl) ?_
  refine lv_iconst (pc := 596) (v := (1 : Int32)) hx hb dL_law_596 (by decide) ?_
  refine lv_iadd (pc := 597) hx hb dL_law_597 ?_
  refine lv_eqi (nI_add i 1) ?_
  refine sldL (pc := 598) (s := s.setDrawn d0) hx hb hX hbl hw.2.2 hL (j := i + 1) (by omega) dL_law_598 ?_
  refine lv_aload_n (pc := 599) hx hb dL_law_599 rfl (lv_at hl 3 rfl) ?_
  refine callSWi (pc := 600) (rest := []) (wsU := fun u : SA × SV × SA × SV × (Nat → Int64) => wF xa oa ad ad2 am cI cZ cJ u.1 u.2.1 u.2.2.1 u.2.2.2.1 u.2.2.2.2 AM VM) (c1 := k0 + 1) (s1 := s0 + 6) cx hw hl hXd (metL_takeOut l hlt D cI cZ cJ xa oa ad ad2 H.size A V A2 V2 o (xs (i + 1)) _ h) (fun hts => vx_cwSW 3 hts gL_law_L_takeOut rfl rfl rfl (by decide +kernel) ⟨Nat.le_of_ble_eq_true rfl, Nat.le_of_ble_eq_true rfl⟩) SUB.left [0, 1, 2] rfl JN.left rfl rfl (Nat.le_of_ble_eq_true rfl) ⟨by show k0 + 1 ≤ 601024; omega, by show s0 + 6 ≤ 7293034; omega⟩ rfl rfl dL_law_600 (fun kk u H locs h hw => ?_)
  obtain ⟨A, V, A2, V2, o⟩ := u
  have hw : WS D s (fun q : Nat => s.heap.size ≤ q) (wF xa oa ad ad2 am cI cZ cJ A V A2 V2 o AM VM) H locs := hw
  refine lv_istore (pc := 603) (lv' := [(5, .int kk), (0, .ref b), (1, .ref xa), (2, .ref (am 0)), (3, .ref oa), (4, .int (nI i))]) hx hb dL_law_603 hl (by decide) rfl (fun ls hl => ?_)
  refine lv_aload_n (pc := 605) hx hb dL_law_605 rfl (lv_at hl 3 rfl) ?_
  refine lv_aload_n (pc := 606) hx hb dL_law_606 rfl (lv_at hl 1 rfl) ?_
  refine lv_iload (pc := 607) hx hb dL_law_607 (lv_at hl 5 rfl) ?_
  refine lv_iconst (pc := 609) (v := (1 : Int32)) hx hb dL_law_609 (by decide) ?_
  refine lv_iadd (pc := 610) hx hb dL_law_610 ?_
  refine lv_eqi (nI_add i 1) ?_
  refine sldL (pc := 611) (s := s.setDrawn d0) hx hb hX hbl hw.2.2 hL (j := i + 1) (by omega) dL_law_611 ?_
  refine callVi (pc := 612) (rest := []) (wsU := fun u : SA × SV => wF xa oa ad ad2 am cI cZ cJ A V A2 V2 o u.1 u.2) (c1 := (k0 + 1)) (s1 := (s0 + 6)) cx hw hl (metX6_takeOut l D cI cZ am H.size  AM VM (xs (i + 1)) _ h) (fun hts => cwV 1 hts gL_law_X6_takeOut rfl rfl rfl (by decide +kernel) ⟨Nat.le_of_ble_eq_true rfl, Nat.le_of_ble_eq_true rfl⟩) SUB.right [0, 1] rfl 0 (ci := 6) rfl rfl rfl JN.right rfl rfl (Nat.le_of_ble_eq_true rfl) ⟨by show (k0 + 1) + 0 ≤ 601024; omega, by show (s0 + 6) + 0 ≤ 7293034; omega⟩ rfl rfl dL_law_612 (fun bv u H locs h hw => ?_)
  obtain ⟨AM, VM⟩ := u
  have hw : WS D s (fun q : Nat => s.heap.size ≤ q) (wF xa oa ad ad2 am cI cZ cJ A V A2 V2 o AM VM) H locs := hw
  refine lv_istore (pc := 615) (lv' := [(6, .int bv), (5, .int kk), (0, .ref b), (1, .ref xa), (2, .ref (am 0)), (3, .ref oa), (4, .int (nI i))]) hx hb dL_law_615 hl (by decide) rfl (fun ls hl => ?_)
  refine lv_aload_n (pc := 617) hx hb dL_law_617 rfl (lv_at hl 4 rfl) ?_
  refine callVi (pc := 618) (rest := []) (wsU := fun u : SA × SV => wF xa oa ad ad2 am cI cZ cJ A V A2 V2 o u.1 u.2) (c1 := (k0 + 1)) (s1 := (s0 + 6)) cx hw hl (metX6_thrown l D cI cZ am H.size  AM VM  _ h) (fun hts => cwV 0 hts gL_law_X6_thrown rfl rfl rfl (by decide +kernel) ⟨Nat.le_of_ble_eq_true rfl, Nat.le_of_ble_eq_true rfl⟩) SUB.right [0, 1] rfl 0 (ci := 6) rfl rfl rfl JN.right rfl rfl (Nat.le_of_ble_eq_true rfl) ⟨by show (k0 + 1) + 0 ≤ 601024; omega, by show (s0 + 6) + 0 ≤ 7293034; omega⟩ rfl rfl dL_law_618 (fun tv u H locs h hw => ?_)
  obtain ⟨AM, VM⟩ := u
  have hw : WS D s (fun q : Nat => s.heap.size ≤ q) (wF xa oa ad ad2 am cI cZ cJ A V A2 V2 o AM VM) H locs := hw
  obtain ⟨he, ho, hI⟩ := h
  have ho : kk = 0 → o 0 = bv.toInt64 := ho
  refine lv_iload (pc := 621) hx hb dL_law_621 (lv_at hl 1 rfl) ?_
  refine lv_icmp_eq (pc := 623) (tgt := 628) hx hb dL_law_623 (by decide) (fun _ => ?_) (fun hn => absurd he hn)
  refine lv_iload (pc := 628) hx hb dL_law_628 (lv_at hl 1 rfl) ?_
  refine lv_if_ne (pc := 630) (tgt := 645) hx hb dL_law_630 (by decide) (fun _ => ?_) (fun hz => ?_)
  · skip
    refine lv_goto (pc := 645) (tgt := 1279) hx hb dL_law_645 (by decide) ?_
    refine W.widen (k := k1) (n := s1) (by omega) (by omega) ?_
    exact hnext d0 hd0 A V A2 V2 o AM VM _ _ _ hI hw (lv_sub hl [2, 3, 4, 5, 6] rfl)
  · refine lv_aload_n (pc := 633) hx hb dL_law_633 rfl (lv_at hl 5 rfl) ?_
    refine lv_iconst (pc := 634) (v := (0 : Int32)) hx hb dL_law_634 (by decide) ?_
    refine alL (pc := 635) cx hw 51 2 (o := o) rfl rfl dL_law_635 ?_
    refine lv_iload (pc := 636) hx hb dL_law_636 (lv_at hl 0 rfl) ?_
    refine lv_i2l (pc := 638) (v := bv.toInt64) hx hb dL_law_638 rfl ?_
    refine W.lcmp (pc := 639) hx hb dL_law_639 ?_
    rw [ho hz, cmp_rf]
    refine lv_if_eq (pc := 640) (tgt := 645) hx hb dL_law_640 (by decide) (fun _ => ?_) (fun hn => absurd rfl hn)
    refine lv_goto (pc := 645) (tgt := 1279) hx hb dL_law_645 (by decide) ?_
    refine W.widen (k := k1) (n := s1) (by omega) (by omega) ?_
    exact hnext d0 hd0 A V A2 V2 o AM VM _ _ _ hI hw (lv_sub hl [2, 3, 4, 5, 6] rfl)
set_option maxHeartbeats 4000000 in
set_option maxRecDepth 100000 in
theorem law_c_letter (hlt : l.stackTraces = false) (K : INVT) (cxs : ∀ d0 : Drawn, CX RL cL_law 9 wsL_law D (tysL cI cZ cJ) p (s.setDrawn d0) m #[Value.ref b] c (fun q : Nat => s.heap.size ≤ q)) (hXP : XP (fun q : Nat => s.heap.size ≤ q) s) (hX : va_X b L xs s s.heap) (hbl : b < s.heap.size) (hL : L ≤ 2048) (i : Nat) (hi : i + 4 ≤ L) (k0 s0 k1 s1 : Nat) (hk : k0 + 160 ≤ k1) (hs : s0 + 1600 ≤ s1) (hk1 : k1 ≤ 601024) (hs1 : s1 ≤ 7293034) (hnext : ∀ (d0 : Drawn) (hd0 : s.drawn.sameBut d0 lw_cs) (A : SA) (V : SV) (A2 : SA) (V2 : SV) (o : Nat → Int64) (AM : SA) (VM : SV) (H : Heap) (locs : List Loc) (ls : Array Slot) (hI : K A V A2 V2 AM VM) (hw : WS D s (fun q : Nat => s.heap.size ≤ q) (wF xa oa ad ad2 am cI cZ cJ A V A2 V2 o AM VM) H locs) (hl : lv_has ls 9 [(0, .ref b), (1, .ref xa), (2, .ref (am 0)), (3, .ref oa), (4, .int (nI i))]), W p l e room_1 (s.setDrawn d0) m #[Value.ref b] below meth c H locs k1 s1 Z (F0 m 1279 ls [])) : ∀ (d0 : Drawn) (hd0 : s.drawn.sameBut d0 lw_cs) (A : SA) (V : SV) (A2 : SA) (V2 : SV) (o : Nat → Int64) (AM : SA) (VM : SV) (h : LC_letter K A V A2 V2 o AM VM (xs (i + 1)) (xs (i + 2)) (xs (i + 3))) (H : Heap) (locs : List Loc) (ls : Array Slot) (hw : WS D s (fun q : Nat => s.heap.size ≤ q) (wF xa oa ad ad2 am cI cZ cJ A V A2 V2 o AM VM) H locs) (hl : lv_has ls 9 [(0, .ref b), (1, .ref xa), (2, .ref (am 0)), (3, .ref oa), (4, .int (nI i))]), W p l e room_1 (s.setDrawn d0) m #[Value.ref b] below meth c H locs k0 s0 Z (F0 m 648 ls []) := by
  intro d0 hd0 A V A2 V2 o AM VM h H locs ls hw hl
  have hbA : ¬ s.heap.size ≤ b := Nat.not_le.mpr hbl
  have cx := cxs d0
  have hXd : XP (fun q : Nat => s.heap.size ≤ q) (s.setDrawn d0) := hXP.drawn
  obtain ⟨hx, hb, hml, hown, hts, hK, hA⟩ := id cx
  refine lv_aload_n (pc := 648) hx hb dL_law_648 rfl (lv_at hl 1 rfl) ?_
  refine lv_aload_n (pc := 649) hx hb dL_law_649 rfl (lv_at hl 0 rfl) ?_
  refine lv_iload (pc := 650) hx hb dL_law_650 (lv_at hl 4 rfl) ?_
  refine lv_iconst (pc := 652) (v := (1 : Int32)) hx hb dL_law_652 (by decide) ?_
  refine lv_iadd (pc := 653) hx hb dL_law_653 ?_
  refine lv_eqi (nI_add i 1) ?_
  refine sldL (pc := 654) (s := s.setDrawn d0) hx hb hX hbl hw.2.2 hL (j := i + 1) (by omega) dL_law_654 ?_
  refine lv_aload_n (pc := 655) hx hb dL_law_655 rfl (lv_at hl 0 rfl) ?_
  refine lv_iload (pc := 656) hx hb dL_law_656 (lv_at hl 4 rfl) ?_
  refine lv_iconst (pc := 658) (v := (2 : Int32)) hx hb dL_law_658 (by decide) ?_
  refine lv_iadd (pc := 659) hx hb dL_law_659 ?_
  refine lv_eqi (nI_add i 2) ?_
  refine sldL (pc := 660) (s := s.setDrawn d0) hx hb hX hbl hw.2.2 hL (j := i + 2) (by omega) dL_law_660 ?_
  refine lv_aload_n (pc := 661) hx hb dL_law_661 rfl (lv_at hl 3 rfl) ?_
  refine callSWi (pc := 662) (rest := []) (wsU := fun u : SA × SV × SA × SV × (Nat → Int64) => wF xa oa ad ad2 am cI cZ cJ u.1 u.2.1 u.2.2.1 u.2.2.2.1 u.2.2.2.2 AM VM) (c1 := k0 + 1) (s1 := s0 + 6) cx hw hl hXd (metL_letter l hlt D cI cZ cJ xa oa ad ad2 H.size A V A2 V2 o (xs (i + 1)) (xs (i + 2)) _ h) (fun hts => vx_cwSW 4 hts gL_law_L_letter rfl rfl rfl (by decide +kernel) ⟨Nat.le_of_ble_eq_true rfl, Nat.le_of_ble_eq_true rfl⟩) SUB.left [0, 1, 2] rfl JN.left rfl rfl (Nat.le_of_ble_eq_true rfl) ⟨by show k0 + 1 ≤ 601024; omega, by show s0 + 6 ≤ 7293034; omega⟩ rfl rfl dL_law_662 (fun kk u H locs h hw => ?_)
  obtain ⟨A, V, A2, V2, o⟩ := u
  have hw : WS D s (fun q : Nat => s.heap.size ≤ q) (wF xa oa ad ad2 am cI cZ cJ A V A2 V2 o AM VM) H locs := hw
  refine lv_istore (pc := 665) (lv' := [(5, .int kk), (0, .ref b), (1, .ref xa), (2, .ref (am 0)), (3, .ref oa), (4, .int (nI i))]) hx hb dL_law_665 hl (by decide) rfl (fun ls hl => ?_)
  refine lv_aload_n (pc := 667) hx hb dL_law_667 rfl (lv_at hl 3 rfl) ?_
  refine lv_aload_n (pc := 668) hx hb dL_law_668 rfl (lv_at hl 1 rfl) ?_
  refine lv_iload (pc := 669) hx hb dL_law_669 (lv_at hl 5 rfl) ?_
  refine lv_iconst (pc := 671) (v := (1 : Int32)) hx hb dL_law_671 (by decide) ?_
  refine lv_iadd (pc := 672) hx hb dL_law_672 ?_
  refine lv_eqi (nI_add i 1) ?_
  refine sldL (pc := 673) (s := s.setDrawn d0) hx hb hX hbl hw.2.2 hL (j := i + 1) (by omega) dL_law_673 ?_
  refine lv_aload_n (pc := 674) hx hb dL_law_674 rfl (lv_at hl 1 rfl) ?_
  refine lv_iload (pc := 675) hx hb dL_law_675 (lv_at hl 5 rfl) ?_
  refine lv_iconst (pc := 677) (v := (2 : Int32)) hx hb dL_law_677 (by decide) ?_
  refine lv_iadd (pc := 678) hx hb dL_law_678 ?_
  refine lv_eqi (nI_add i 2) ?_
  refine sldL (pc := 679) (s := s.setDrawn d0) hx hb hX hbl hw.2.2 hL (j := i + 2) (by omega) dL_law_679 ?_
  refine callVi (pc := 680) (rest := []) (wsU := fun u : SA × SV => wF xa oa ad ad2 am cI cZ cJ A V A2 V2 o u.1 u.2) (c1 := (k0 + 1)) (s1 := (s0 + 6)) cx hw hl (metX6_letter l D cI cZ am H.size  AM VM (xs (i + 1)) (xs (i + 2)) _ h) (fun hts => cwV 2 hts gL_law_X6_letter rfl rfl rfl (by decide +kernel) ⟨Nat.le_of_ble_eq_true rfl, Nat.le_of_ble_eq_true rfl⟩) SUB.right [0, 1] rfl 0 (ci := 6) rfl rfl rfl JN.right rfl rfl (Nat.le_of_ble_eq_true rfl) ⟨by show (k0 + 1) + 0 ≤ 601024; omega, by show (s0 + 6) + 0 ≤ 7293034; omega⟩ rfl rfl dL_law_680 (fun bv u H locs h hw => ?_)
  obtain ⟨AM, VM⟩ := u
  have hw : WS D s (fun q : Nat => s.heap.size ≤ q) (wF xa oa ad ad2 am cI cZ cJ A V A2 V2 o AM VM) H locs := hw
  refine lv_istore (pc := 683) (lv' := [(6, .int bv), (5, .int kk), (0, .ref b), (1, .ref xa), (2, .ref (am 0)), (3, .ref oa), (4, .int (nI i))]) hx hb dL_law_683 hl (by decide) rfl (fun ls hl => ?_)
  refine lv_aload_n (pc := 685) hx hb dL_law_685 rfl (lv_at hl 4 rfl) ?_
  refine callVi (pc := 686) (rest := []) (wsU := fun u : SA × SV => wF xa oa ad ad2 am cI cZ cJ A V A2 V2 o u.1 u.2) (c1 := (k0 + 1)) (s1 := (s0 + 6)) cx hw hl (metX6_thrown l D cI cZ am H.size  AM VM  _ h) (fun hts => cwV 0 hts gL_law_X6_thrown rfl rfl rfl (by decide +kernel) ⟨Nat.le_of_ble_eq_true rfl, Nat.le_of_ble_eq_true rfl⟩) SUB.right [0, 1] rfl 0 (ci := 6) rfl rfl rfl JN.right rfl rfl (Nat.le_of_ble_eq_true rfl) ⟨by show (k0 + 1) + 0 ≤ 601024; omega, by show (s0 + 6) + 0 ≤ 7293034; omega⟩ rfl rfl dL_law_686 (fun tv u H locs h hw => ?_)
  obtain ⟨AM, VM⟩ := u
  have hw : WS D s (fun q : Nat => s.heap.size ≤ q) (wF xa oa ad ad2 am cI cZ cJ A V A2 V2 o AM VM) H locs := hw
  obtain ⟨he, ho, hI⟩ := h
  have ho : kk = 0 → o 0 = bv.toInt64 := ho
  refine lv_iload (pc := 689) hx hb dL_law_689 (lv_at hl 1 rfl) ?_
  refine lv_icmp_eq (pc := 691) (tgt := 696) hx hb dL_law_691 (by decide) (fun _ => ?_) (fun hn => absurd he hn)
  refine lv_iload (pc := 696) hx hb dL_law_696 (lv_at hl 1 rfl) ?_
  refine lv_if_ne (pc := 698) (tgt := 713) hx hb dL_law_698 (by decide) (fun _ => ?_) (fun hz => ?_)
  · skip
    refine lv_goto (pc := 713) (tgt := 1279) hx hb dL_law_713 (by decide) ?_
    refine W.widen (k := k1) (n := s1) (by omega) (by omega) ?_
    exact hnext d0 hd0 A V A2 V2 o AM VM _ _ _ hI hw (lv_sub hl [2, 3, 4, 5, 6] rfl)
  · refine lv_aload_n (pc := 701) hx hb dL_law_701 rfl (lv_at hl 5 rfl) ?_
    refine lv_iconst (pc := 702) (v := (0 : Int32)) hx hb dL_law_702 (by decide) ?_
    refine alL (pc := 703) cx hw 51 2 (o := o) rfl rfl dL_law_703 ?_
    refine lv_iload (pc := 704) hx hb dL_law_704 (lv_at hl 0 rfl) ?_
    refine lv_i2l (pc := 706) (v := bv.toInt64) hx hb dL_law_706 rfl ?_
    refine W.lcmp (pc := 707) hx hb dL_law_707 ?_
    rw [ho hz, cmp_rf]
    refine lv_if_eq (pc := 708) (tgt := 713) hx hb dL_law_708 (by decide) (fun _ => ?_) (fun hn => absurd rfl hn)
    refine lv_goto (pc := 713) (tgt := 1279) hx hb dL_law_713 (by decide) ?_
    refine W.widen (k := k1) (n := s1) (by omega) (by omega) ?_
    exact hnext d0 hd0 A V A2 V2 o AM VM _ _ _ hI hw (lv_sub hl [2, 3, 4, 5, 6] rfl)
set_option maxHeartbeats 4000000 in
set_option maxRecDepth 100000 in
theorem law_c_drowned (hlt : l.stackTraces = false) (K : INVT) (cxs : ∀ d0 : Drawn, CX RL cL_law 9 wsL_law D (tysL cI cZ cJ) p (s.setDrawn d0) m #[Value.ref b] c (fun q : Nat => s.heap.size ≤ q)) (hXP : XP (fun q : Nat => s.heap.size ≤ q) s) (hX : va_X b L xs s s.heap) (hbl : b < s.heap.size) (hL : L ≤ 2048) (i : Nat) (hi : i + 4 ≤ L) (k0 s0 k1 s1 : Nat) (hk : k0 + 160 ≤ k1) (hs : s0 + 1600 ≤ s1) (hk1 : k1 ≤ 601024) (hs1 : s1 ≤ 7293034) (hnext : ∀ (d0 : Drawn) (hd0 : s.drawn.sameBut d0 lw_cs) (A : SA) (V : SV) (A2 : SA) (V2 : SV) (o : Nat → Int64) (AM : SA) (VM : SV) (H : Heap) (locs : List Loc) (ls : Array Slot) (hI : K A V A2 V2 AM VM) (hw : WS D s (fun q : Nat => s.heap.size ≤ q) (wF xa oa ad ad2 am cI cZ cJ A V A2 V2 o AM VM) H locs) (hl : lv_has ls 9 [(0, .ref b), (1, .ref xa), (2, .ref (am 0)), (3, .ref oa), (4, .int (nI i))]), W p l e room_1 (s.setDrawn d0) m #[Value.ref b] below meth c H locs k1 s1 Z (F0 m 1279 ls [])) : ∀ (d0 : Drawn) (hd0 : s.drawn.sameBut d0 lw_cs) (A : SA) (V : SV) (A2 : SA) (V2 : SV) (o : Nat → Int64) (AM : SA) (VM : SV) (h : LC_drowned K A V A2 V2 o AM VM (xs (i + 1)) (xs (i + 2)) (xs (i + 3))) (H : Heap) (locs : List Loc) (ls : Array Slot) (hw : WS D s (fun q : Nat => s.heap.size ≤ q) (wF xa oa ad ad2 am cI cZ cJ A V A2 V2 o AM VM) H locs) (hl : lv_has ls 9 [(0, .ref b), (1, .ref xa), (2, .ref (am 0)), (3, .ref oa), (4, .int (nI i))]), W p l e room_1 (s.setDrawn d0) m #[Value.ref b] below meth c H locs k0 s0 Z (F0 m 716 ls []) := by
  intro d0 hd0 A V A2 V2 o AM VM h H locs ls hw hl
  have hbA : ¬ s.heap.size ≤ b := Nat.not_le.mpr hbl
  have cx := cxs d0
  have hXd : XP (fun q : Nat => s.heap.size ≤ q) (s.setDrawn d0) := hXP.drawn
  obtain ⟨hx, hb, hml, hown, hts, hK, hA⟩ := id cx
  refine lv_aload_n (pc := 716) hx hb dL_law_716 rfl (lv_at hl 1 rfl) ?_
  refine lv_aload_n (pc := 717) hx hb dL_law_717 rfl (lv_at hl 0 rfl) ?_
  refine lv_iload (pc := 718) hx hb dL_law_718 (lv_at hl 4 rfl) ?_
  refine lv_iconst (pc := 720) (v := (1 : Int32)) hx hb dL_law_720 (by decide) ?_
  refine lv_iadd (pc := 721) hx hb dL_law_721 ?_
  refine lv_eqi (nI_add i 1) ?_
  refine sldL (pc := 722) (s := s.setDrawn d0) hx hb hX hbl hw.2.2 hL (j := i + 1) (by omega) dL_law_722 ?_
  refine lv_aload_n (pc := 723) hx hb dL_law_723 rfl (lv_at hl 0 rfl) ?_
  refine lv_iload (pc := 724) hx hb dL_law_724 (lv_at hl 4 rfl) ?_
  refine lv_iconst (pc := 726) (v := (2 : Int32)) hx hb dL_law_726 (by decide) ?_
  refine lv_iadd (pc := 727) hx hb dL_law_727 ?_
  refine lv_eqi (nI_add i 2) ?_
  refine sldL (pc := 728) (s := s.setDrawn d0) hx hb hX hbl hw.2.2 hL (j := i + 2) (by omega) dL_law_728 ?_
  refine lv_aload_n (pc := 729) hx hb dL_law_729 rfl (lv_at hl 3 rfl) ?_
  refine callSWi (pc := 730) (rest := []) (wsU := fun u : SA × SV × SA × SV × (Nat → Int64) => wF xa oa ad ad2 am cI cZ cJ u.1 u.2.1 u.2.2.1 u.2.2.2.1 u.2.2.2.2 AM VM) (c1 := k0 + 1) (s1 := s0 + 6) cx hw hl hXd (metL_drowned l hlt D cI cZ cJ xa oa ad ad2 H.size A V A2 V2 o (xs (i + 1)) (xs (i + 2)) _ h) (fun hts => vx_cwSW 4 hts gL_law_L_drowned rfl rfl rfl (by decide +kernel) ⟨Nat.le_of_ble_eq_true rfl, Nat.le_of_ble_eq_true rfl⟩) SUB.left [0, 1, 2] rfl JN.left rfl rfl (Nat.le_of_ble_eq_true rfl) ⟨by show k0 + 1 ≤ 601024; omega, by show s0 + 6 ≤ 7293034; omega⟩ rfl rfl dL_law_730 (fun kk u H locs h hw => ?_)
  obtain ⟨A, V, A2, V2, o⟩ := u
  have hw : WS D s (fun q : Nat => s.heap.size ≤ q) (wF xa oa ad ad2 am cI cZ cJ A V A2 V2 o AM VM) H locs := hw
  refine lv_istore (pc := 733) (lv' := [(5, .int kk), (0, .ref b), (1, .ref xa), (2, .ref (am 0)), (3, .ref oa), (4, .int (nI i))]) hx hb dL_law_733 hl (by decide) rfl (fun ls hl => ?_)
  refine lv_aload_n (pc := 735) hx hb dL_law_735 rfl (lv_at hl 3 rfl) ?_
  refine lv_aload_n (pc := 736) hx hb dL_law_736 rfl (lv_at hl 1 rfl) ?_
  refine lv_iload (pc := 737) hx hb dL_law_737 (lv_at hl 5 rfl) ?_
  refine lv_iconst (pc := 739) (v := (1 : Int32)) hx hb dL_law_739 (by decide) ?_
  refine lv_iadd (pc := 740) hx hb dL_law_740 ?_
  refine lv_eqi (nI_add i 1) ?_
  refine sldL (pc := 741) (s := s.setDrawn d0) hx hb hX hbl hw.2.2 hL (j := i + 1) (by omega) dL_law_741 ?_
  refine lv_aload_n (pc := 742) hx hb dL_law_742 rfl (lv_at hl 1 rfl) ?_
  refine lv_iload (pc := 743) hx hb dL_law_743 (lv_at hl 5 rfl) ?_
  refine lv_iconst (pc := 745) (v := (2 : Int32)) hx hb dL_law_745 (by decide) ?_
  refine lv_iadd (pc := 746) hx hb dL_law_746 ?_
  refine lv_eqi (nI_add i 2) ?_
  refine sldL (pc := 747) (s := s.setDrawn d0) hx hb hX hbl hw.2.2 hL (j := i + 2) (by omega) dL_law_747 ?_
  refine callVi (pc := 748) (rest := []) (wsU := fun u : SA × SV => wF xa oa ad ad2 am cI cZ cJ A V A2 V2 o u.1 u.2) (c1 := (k0 + 1)) (s1 := (s0 + 6)) cx hw hl (metX6_drowned l D cI cZ am H.size  AM VM (xs (i + 1)) (xs (i + 2)) _ h) (fun hts => cwV 2 hts gL_law_X6_drowned rfl rfl rfl (by decide +kernel) ⟨Nat.le_of_ble_eq_true rfl, Nat.le_of_ble_eq_true rfl⟩) SUB.right [0, 1] rfl 0 (ci := 6) rfl rfl rfl JN.right rfl rfl (Nat.le_of_ble_eq_true rfl) ⟨by show (k0 + 1) + 0 ≤ 601024; omega, by show (s0 + 6) + 0 ≤ 7293034; omega⟩ rfl rfl dL_law_748 (fun bv u H locs h hw => ?_)
  obtain ⟨AM, VM⟩ := u
  have hw : WS D s (fun q : Nat => s.heap.size ≤ q) (wF xa oa ad ad2 am cI cZ cJ A V A2 V2 o AM VM) H locs := hw
  refine lv_istore (pc := 751) (lv' := [(6, .int bv), (5, .int kk), (0, .ref b), (1, .ref xa), (2, .ref (am 0)), (3, .ref oa), (4, .int (nI i))]) hx hb dL_law_751 hl (by decide) rfl (fun ls hl => ?_)
  refine lv_aload_n (pc := 753) hx hb dL_law_753 rfl (lv_at hl 4 rfl) ?_
  refine callVi (pc := 754) (rest := []) (wsU := fun u : SA × SV => wF xa oa ad ad2 am cI cZ cJ A V A2 V2 o u.1 u.2) (c1 := (k0 + 1)) (s1 := (s0 + 6)) cx hw hl (metX6_thrown l D cI cZ am H.size  AM VM  _ h) (fun hts => cwV 0 hts gL_law_X6_thrown rfl rfl rfl (by decide +kernel) ⟨Nat.le_of_ble_eq_true rfl, Nat.le_of_ble_eq_true rfl⟩) SUB.right [0, 1] rfl 0 (ci := 6) rfl rfl rfl JN.right rfl rfl (Nat.le_of_ble_eq_true rfl) ⟨by show (k0 + 1) + 0 ≤ 601024; omega, by show (s0 + 6) + 0 ≤ 7293034; omega⟩ rfl rfl dL_law_754 (fun tv u H locs h hw => ?_)
  obtain ⟨AM, VM⟩ := u
  have hw : WS D s (fun q : Nat => s.heap.size ≤ q) (wF xa oa ad ad2 am cI cZ cJ A V A2 V2 o AM VM) H locs := hw
  obtain ⟨he, ho, hI⟩ := h
  have ho : kk = 0 → o 0 = bv.toInt64 := ho
  refine lv_iload (pc := 757) hx hb dL_law_757 (lv_at hl 1 rfl) ?_
  refine lv_icmp_eq (pc := 759) (tgt := 764) hx hb dL_law_759 (by decide) (fun _ => ?_) (fun hn => absurd he hn)
  refine lv_iload (pc := 764) hx hb dL_law_764 (lv_at hl 1 rfl) ?_
  refine lv_if_ne (pc := 766) (tgt := 781) hx hb dL_law_766 (by decide) (fun _ => ?_) (fun hz => ?_)
  · skip
    refine lv_goto (pc := 781) (tgt := 1279) hx hb dL_law_781 (by decide) ?_
    refine W.widen (k := k1) (n := s1) (by omega) (by omega) ?_
    exact hnext d0 hd0 A V A2 V2 o AM VM _ _ _ hI hw (lv_sub hl [2, 3, 4, 5, 6] rfl)
  · refine lv_aload_n (pc := 769) hx hb dL_law_769 rfl (lv_at hl 5 rfl) ?_
    refine lv_iconst (pc := 770) (v := (0 : Int32)) hx hb dL_law_770 (by decide) ?_
    refine alL (pc := 771) cx hw 51 2 (o := o) rfl rfl dL_law_771 ?_
    refine lv_iload (pc := 772) hx hb dL_law_772 (lv_at hl 0 rfl) ?_
    refine lv_i2l (pc := 774) (v := bv.toInt64) hx hb dL_law_774 rfl ?_
    refine W.lcmp (pc := 775) hx hb dL_law_775 ?_
    rw [ho hz, cmp_rf]
    refine lv_if_eq (pc := 776) (tgt := 781) hx hb dL_law_776 (by decide) (fun _ => ?_) (fun hn => absurd rfl hn)
    refine lv_goto (pc := 781) (tgt := 1279) hx hb dL_law_781 (by decide) ?_
    refine W.widen (k := k1) (n := s1) (by omega) (by omega) ?_
    exact hnext d0 hd0 A V A2 V2 o AM VM _ _ _ hI hw (lv_sub hl [2, 3, 4, 5, 6] rfl)
set_option maxHeartbeats 4000000 in
set_option maxRecDepth 100000 in
theorem law_c_bin (hlt : l.stackTraces = false) (K : INVT) (cxs : ∀ d0 : Drawn, CX RL cL_law 9 wsL_law D (tysL cI cZ cJ) p (s.setDrawn d0) m #[Value.ref b] c (fun q : Nat => s.heap.size ≤ q)) (hXP : XP (fun q : Nat => s.heap.size ≤ q) s) (hX : va_X b L xs s s.heap) (hbl : b < s.heap.size) (hL : L ≤ 2048) (i : Nat) (hi : i + 4 ≤ L) (k0 s0 k1 s1 : Nat) (hk : k0 + 160 ≤ k1) (hs : s0 + 1600 ≤ s1) (hk1 : k1 ≤ 601024) (hs1 : s1 ≤ 7293034) (hnext : ∀ (d0 : Drawn) (hd0 : s.drawn.sameBut d0 lw_cs) (A : SA) (V : SV) (A2 : SA) (V2 : SV) (o : Nat → Int64) (AM : SA) (VM : SV) (H : Heap) (locs : List Loc) (ls : Array Slot) (hI : K A V A2 V2 AM VM) (hw : WS D s (fun q : Nat => s.heap.size ≤ q) (wF xa oa ad ad2 am cI cZ cJ A V A2 V2 o AM VM) H locs) (hl : lv_has ls 9 [(0, .ref b), (1, .ref xa), (2, .ref (am 0)), (3, .ref oa), (4, .int (nI i))]), W p l e room_1 (s.setDrawn d0) m #[Value.ref b] below meth c H locs k1 s1 Z (F0 m 1279 ls [])) : ∀ (d0 : Drawn) (hd0 : s.drawn.sameBut d0 lw_cs) (A : SA) (V : SV) (A2 : SA) (V2 : SV) (o : Nat → Int64) (AM : SA) (VM : SV) (h : LC_bin K A V A2 V2 o AM VM (xs (i + 1)) (xs (i + 2)) (xs (i + 3))) (H : Heap) (locs : List Loc) (ls : Array Slot) (hw : WS D s (fun q : Nat => s.heap.size ≤ q) (wF xa oa ad ad2 am cI cZ cJ A V A2 V2 o AM VM) H locs) (hl : lv_has ls 9 [(0, .ref b), (1, .ref xa), (2, .ref (am 0)), (3, .ref oa), (4, .int (nI i))]), W p l e room_1 (s.setDrawn d0) m #[Value.ref b] below meth c H locs k0 s0 Z (F0 m 784 ls []) := by
  intro d0 hd0 A V A2 V2 o AM VM h H locs ls hw hl
  have hbA : ¬ s.heap.size ≤ b := Nat.not_le.mpr hbl
  have cx := cxs d0
  have hXd : XP (fun q : Nat => s.heap.size ≤ q) (s.setDrawn d0) := hXP.drawn
  obtain ⟨hx, hb, hml, hown, hts, hK, hA⟩ := id cx
  refine lv_aload_n (pc := 784) hx hb dL_law_784 rfl (lv_at hl 1 rfl) ?_
  refine lv_aload_n (pc := 785) hx hb dL_law_785 rfl (lv_at hl 0 rfl) ?_
  refine lv_iload (pc := 786) hx hb dL_law_786 (lv_at hl 4 rfl) ?_
  refine lv_iconst (pc := 788) (v := (1 : Int32)) hx hb dL_law_788 (by decide) ?_
  refine lv_iadd (pc := 789) hx hb dL_law_789 ?_
  refine lv_eqi (nI_add i 1) ?_
  refine sldL (pc := 790) (s := s.setDrawn d0) hx hb hX hbl hw.2.2 hL (j := i + 1) (by omega) dL_law_790 ?_
  refine lv_aload_n (pc := 791) hx hb dL_law_791 rfl (lv_at hl 0 rfl) ?_
  refine lv_iload (pc := 792) hx hb dL_law_792 (lv_at hl 4 rfl) ?_
  refine lv_iconst (pc := 794) (v := (2 : Int32)) hx hb dL_law_794 (by decide) ?_
  refine lv_iadd (pc := 795) hx hb dL_law_795 ?_
  refine lv_eqi (nI_add i 2) ?_
  refine sldL (pc := 796) (s := s.setDrawn d0) hx hb hX hbl hw.2.2 hL (j := i + 2) (by omega) dL_law_796 ?_
  refine lv_aload_n (pc := 797) hx hb dL_law_797 rfl (lv_at hl 3 rfl) ?_
  refine callSWi (pc := 798) (rest := []) (wsU := fun u : SA × SV × SA × SV × (Nat → Int64) => wF xa oa ad ad2 am cI cZ cJ u.1 u.2.1 u.2.2.1 u.2.2.2.1 u.2.2.2.2 AM VM) (c1 := k0 + 1) (s1 := s0 + 6) cx hw hl hXd (metL_bin l hlt D cI cZ cJ xa oa ad ad2 H.size A V A2 V2 o (xs (i + 1)) (xs (i + 2)) _ h) (fun hts => vx_cwSW 4 hts gL_law_L_bin rfl rfl rfl (by decide +kernel) ⟨Nat.le_of_ble_eq_true rfl, Nat.le_of_ble_eq_true rfl⟩) SUB.left [0, 1, 2] rfl JN.left rfl rfl (Nat.le_of_ble_eq_true rfl) ⟨by show k0 + 1 ≤ 601024; omega, by show s0 + 6 ≤ 7293034; omega⟩ rfl rfl dL_law_798 (fun kk u H locs h hw => ?_)
  obtain ⟨A, V, A2, V2, o⟩ := u
  have hw : WS D s (fun q : Nat => s.heap.size ≤ q) (wF xa oa ad ad2 am cI cZ cJ A V A2 V2 o AM VM) H locs := hw
  refine lv_istore (pc := 801) (lv' := [(5, .int kk), (0, .ref b), (1, .ref xa), (2, .ref (am 0)), (3, .ref oa), (4, .int (nI i))]) hx hb dL_law_801 hl (by decide) rfl (fun ls hl => ?_)
  refine lv_aload_n (pc := 803) hx hb dL_law_803 rfl (lv_at hl 3 rfl) ?_
  refine lv_aload_n (pc := 804) hx hb dL_law_804 rfl (lv_at hl 1 rfl) ?_
  refine lv_iload (pc := 805) hx hb dL_law_805 (lv_at hl 5 rfl) ?_
  refine lv_iconst (pc := 807) (v := (1 : Int32)) hx hb dL_law_807 (by decide) ?_
  refine lv_iadd (pc := 808) hx hb dL_law_808 ?_
  refine lv_eqi (nI_add i 1) ?_
  refine sldL (pc := 809) (s := s.setDrawn d0) hx hb hX hbl hw.2.2 hL (j := i + 1) (by omega) dL_law_809 ?_
  refine lv_aload_n (pc := 810) hx hb dL_law_810 rfl (lv_at hl 1 rfl) ?_
  refine lv_iload (pc := 811) hx hb dL_law_811 (lv_at hl 5 rfl) ?_
  refine lv_iconst (pc := 813) (v := (2 : Int32)) hx hb dL_law_813 (by decide) ?_
  refine lv_iadd (pc := 814) hx hb dL_law_814 ?_
  refine lv_eqi (nI_add i 2) ?_
  refine sldL (pc := 815) (s := s.setDrawn d0) hx hb hX hbl hw.2.2 hL (j := i + 2) (by omega) dL_law_815 ?_
  refine callVi (pc := 816) (rest := []) (wsU := fun u : SA × SV => wF xa oa ad ad2 am cI cZ cJ A V A2 V2 o u.1 u.2) (c1 := (k0 + 1)) (s1 := (s0 + 6)) cx hw hl (metX6_bin l D cI cZ am H.size  AM VM (xs (i + 1)) (xs (i + 2)) _ h) (fun hts => cwV 2 hts gL_law_X6_bin rfl rfl rfl (by decide +kernel) ⟨Nat.le_of_ble_eq_true rfl, Nat.le_of_ble_eq_true rfl⟩) SUB.right [0, 1] rfl 0 (ci := 6) rfl rfl rfl JN.right rfl rfl (Nat.le_of_ble_eq_true rfl) ⟨by show (k0 + 1) + 0 ≤ 601024; omega, by show (s0 + 6) + 0 ≤ 7293034; omega⟩ rfl rfl dL_law_816 (fun bv u H locs h hw => ?_)
  obtain ⟨AM, VM⟩ := u
  have hw : WS D s (fun q : Nat => s.heap.size ≤ q) (wF xa oa ad ad2 am cI cZ cJ A V A2 V2 o AM VM) H locs := hw
  refine lv_istore (pc := 819) (lv' := [(6, .int bv), (5, .int kk), (0, .ref b), (1, .ref xa), (2, .ref (am 0)), (3, .ref oa), (4, .int (nI i))]) hx hb dL_law_819 hl (by decide) rfl (fun ls hl => ?_)
  refine lv_aload_n (pc := 821) hx hb dL_law_821 rfl (lv_at hl 4 rfl) ?_
  refine callVi (pc := 822) (rest := []) (wsU := fun u : SA × SV => wF xa oa ad ad2 am cI cZ cJ A V A2 V2 o u.1 u.2) (c1 := (k0 + 1)) (s1 := (s0 + 6)) cx hw hl (metX6_thrown l D cI cZ am H.size  AM VM  _ h) (fun hts => cwV 0 hts gL_law_X6_thrown rfl rfl rfl (by decide +kernel) ⟨Nat.le_of_ble_eq_true rfl, Nat.le_of_ble_eq_true rfl⟩) SUB.right [0, 1] rfl 0 (ci := 6) rfl rfl rfl JN.right rfl rfl (Nat.le_of_ble_eq_true rfl) ⟨by show (k0 + 1) + 0 ≤ 601024; omega, by show (s0 + 6) + 0 ≤ 7293034; omega⟩ rfl rfl dL_law_822 (fun tv u H locs h hw => ?_)
  obtain ⟨AM, VM⟩ := u
  have hw : WS D s (fun q : Nat => s.heap.size ≤ q) (wF xa oa ad ad2 am cI cZ cJ A V A2 V2 o AM VM) H locs := hw
  obtain ⟨he, ho, hI⟩ := h
  have ho : kk = 0 → o 0 = bv.toInt64 := ho
  refine lv_iload (pc := 825) hx hb dL_law_825 (lv_at hl 1 rfl) ?_
  refine lv_icmp_eq (pc := 827) (tgt := 832) hx hb dL_law_827 (by decide) (fun _ => ?_) (fun hn => absurd he hn)
  refine lv_iload (pc := 832) hx hb dL_law_832 (lv_at hl 1 rfl) ?_
  refine lv_if_ne (pc := 834) (tgt := 849) hx hb dL_law_834 (by decide) (fun _ => ?_) (fun hz => ?_)
  · skip
    refine lv_goto (pc := 849) (tgt := 1279) hx hb dL_law_849 (by decide) ?_
    refine W.widen (k := k1) (n := s1) (by omega) (by omega) ?_
    exact hnext d0 hd0 A V A2 V2 o AM VM _ _ _ hI hw (lv_sub hl [2, 3, 4, 5, 6] rfl)
  · refine lv_aload_n (pc := 837) hx hb dL_law_837 rfl (lv_at hl 5 rfl) ?_
    refine lv_iconst (pc := 838) (v := (0 : Int32)) hx hb dL_law_838 (by decide) ?_
    refine alL (pc := 839) cx hw 51 2 (o := o) rfl rfl dL_law_839 ?_
    refine lv_iload (pc := 840) hx hb dL_law_840 (lv_at hl 0 rfl) ?_
    refine lv_i2l (pc := 842) (v := bv.toInt64) hx hb dL_law_842 rfl ?_
    refine W.lcmp (pc := 843) hx hb dL_law_843 ?_
    rw [ho hz, cmp_rf]
    refine lv_if_eq (pc := 844) (tgt := 849) hx hb dL_law_844 (by decide) (fun _ => ?_) (fun hn => absurd rfl hn)
    refine lv_goto (pc := 849) (tgt := 1279) hx hb dL_law_849 (by decide) ?_
    refine W.widen (k := k1) (n := s1) (by omega) (by omega) ?_
    exact hnext d0 hd0 A V A2 V2 o AM VM _ _ _ hI hw (lv_sub hl [2, 3, 4, 5, 6] rfl)
set_option maxHeartbeats 4000000 in
set_option maxRecDepth 100000 in
theorem law_c_pass (hlt : l.stackTraces = false) (K : INVT) (cxs : ∀ d0 : Drawn, CX RL cL_law 9 wsL_law D (tysL cI cZ cJ) p (s.setDrawn d0) m #[Value.ref b] c (fun q : Nat => s.heap.size ≤ q)) (hXP : XP (fun q : Nat => s.heap.size ≤ q) s) (hX : va_X b L xs s s.heap) (hbl : b < s.heap.size) (hL : L ≤ 2048) (i : Nat) (hi : i + 4 ≤ L) (k0 s0 k1 s1 : Nat) (hk : k0 + 160 ≤ k1) (hs : s0 + 1600 ≤ s1) (hk1 : k1 ≤ 601024) (hs1 : s1 ≤ 7293034) (hnext : ∀ (d0 : Drawn) (hd0 : s.drawn.sameBut d0 lw_cs) (A : SA) (V : SV) (A2 : SA) (V2 : SV) (o : Nat → Int64) (AM : SA) (VM : SV) (H : Heap) (locs : List Loc) (ls : Array Slot) (hI : K A V A2 V2 AM VM) (hw : WS D s (fun q : Nat => s.heap.size ≤ q) (wF xa oa ad ad2 am cI cZ cJ A V A2 V2 o AM VM) H locs) (hl : lv_has ls 9 [(0, .ref b), (1, .ref xa), (2, .ref (am 0)), (3, .ref oa), (4, .int (nI i))]), W p l e room_1 (s.setDrawn d0) m #[Value.ref b] below meth c H locs k1 s1 Z (F0 m 1279 ls [])) : ∀ (d0 : Drawn) (hd0 : s.drawn.sameBut d0 lw_cs) (A : SA) (V : SV) (A2 : SA) (V2 : SV) (o : Nat → Int64) (AM : SA) (VM : SV) (h : LC_pass K A V A2 V2 o AM VM (xs (i + 1)) (xs (i + 2)) (xs (i + 3))) (H : Heap) (locs : List Loc) (ls : Array Slot) (hw : WS D s (fun q : Nat => s.heap.size ≤ q) (wF xa oa ad ad2 am cI cZ cJ A V A2 V2 o AM VM) H locs) (hl : lv_has ls 9 [(0, .ref b), (1, .ref xa), (2, .ref (am 0)), (3, .ref oa), (4, .int (nI i))]), W p l e room_1 (s.setDrawn d0) m #[Value.ref b] below meth c H locs k0 s0 Z (F0 m 852 ls []) := by
  intro d0 hd0 A V A2 V2 o AM VM h H locs ls hw hl
  have hbA : ¬ s.heap.size ≤ b := Nat.not_le.mpr hbl
  have cx := cxs d0
  have hXd : XP (fun q : Nat => s.heap.size ≤ q) (s.setDrawn d0) := hXP.drawn
  obtain ⟨hx, hb, hml, hown, hts, hK, hA⟩ := id cx
  refine lv_aload_n (pc := 852) hx hb dL_law_852 rfl (lv_at hl 1 rfl) ?_
  refine lv_aload_n (pc := 853) hx hb dL_law_853 rfl (lv_at hl 0 rfl) ?_
  refine lv_iload (pc := 854) hx hb dL_law_854 (lv_at hl 4 rfl) ?_
  refine lv_iconst (pc := 856) (v := (1 : Int32)) hx hb dL_law_856 (by decide) ?_
  refine lv_iadd (pc := 857) hx hb dL_law_857 ?_
  refine lv_eqi (nI_add i 1) ?_
  refine sldL (pc := 858) (s := s.setDrawn d0) hx hb hX hbl hw.2.2 hL (j := i + 1) (by omega) dL_law_858 ?_
  refine lv_aload_n (pc := 859) hx hb dL_law_859 rfl (lv_at hl 3 rfl) ?_
  refine callSWi (pc := 860) (rest := []) (wsU := fun u : SA × SV × SA × SV × (Nat → Int64) => wF xa oa ad ad2 am cI cZ cJ u.1 u.2.1 u.2.2.1 u.2.2.2.1 u.2.2.2.2 AM VM) (c1 := k0 + 1) (s1 := s0 + 6) cx hw hl hXd (metL_pass l hlt D cI cZ cJ xa oa ad ad2 H.size A V A2 V2 o (xs (i + 1)) _ h) (fun hts => vx_cwSW 3 hts gL_law_L_pass rfl rfl rfl (by decide +kernel) ⟨Nat.le_of_ble_eq_true rfl, Nat.le_of_ble_eq_true rfl⟩) SUB.left [0, 1, 2] rfl JN.left rfl rfl (Nat.le_of_ble_eq_true rfl) ⟨by show k0 + 1 ≤ 601024; omega, by show s0 + 6 ≤ 7293034; omega⟩ rfl rfl dL_law_860 (fun kk u H locs h hw => ?_)
  obtain ⟨A, V, A2, V2, o⟩ := u
  have hw : WS D s (fun q : Nat => s.heap.size ≤ q) (wF xa oa ad ad2 am cI cZ cJ A V A2 V2 o AM VM) H locs := hw
  obtain ⟨g, hg, h⟩ := h
  refine lv_istore (pc := 863) (lv' := [(5, .int kk), (0, .ref b), (1, .ref xa), (2, .ref (am 0)), (3, .ref oa), (4, .int (nI i))]) hx hb dL_law_863 hl (by decide) rfl (fun ls hl => ?_)
  refine lv_aload_n (pc := 865) hx hb dL_law_865 rfl (lv_at hl 3 rfl) ?_
  refine lv_aload_n (pc := 866) hx hb dL_law_866 rfl (lv_at hl 1 rfl) ?_
  refine lv_iload (pc := 867) hx hb dL_law_867 (lv_at hl 5 rfl) ?_
  refine lv_iconst (pc := 869) (v := (1 : Int32)) hx hb dL_law_869 (by decide) ?_
  refine lv_iadd (pc := 870) hx hb dL_law_870 ?_
  refine lv_eqi (nI_add i 1) ?_
  refine sldL (pc := 871) (s := s.setDrawn d0) hx hb hX hbl hw.2.2 hL (j := i + 1) (by omega) dL_law_871 ?_
  refine callVi (pc := 872) (rest := []) (wsU := fun u : SA × SV => wF xa oa ad ad2 am cI cZ cJ A V A2 V2 o u.1 u.2) (c1 := ((k0 + 1) + g)) (s1 := ((s0 + 6) + 9 * g)) cx hw hl (metX6_pass l D cI cZ am H.size g AM VM (xs (i + 1)) _ h) (fun hts => cwV 1 hts gL_law_X6_pass rfl rfl rfl (by decide +kernel) ⟨Nat.le_of_ble_eq_true rfl, Nat.le_of_ble_eq_true rfl⟩) SUB.right [0, 1] rfl 0 (ci := 6) rfl rfl rfl JN.right rfl rfl (Nat.le_of_ble_eq_true rfl) ⟨by show (k0 + 1) + g ≤ 601024; omega, by show (s0 + 6) + 9 * g ≤ 7293034; omega⟩ rfl rfl dL_law_872 (fun bv u H locs h hw => ?_)
  obtain ⟨AM, VM⟩ := u
  have hw : WS D s (fun q : Nat => s.heap.size ≤ q) (wF xa oa ad ad2 am cI cZ cJ A V A2 V2 o AM VM) H locs := hw
  refine lv_istore (pc := 875) (lv' := [(6, .int bv), (5, .int kk), (0, .ref b), (1, .ref xa), (2, .ref (am 0)), (3, .ref oa), (4, .int (nI i))]) hx hb dL_law_875 hl (by decide) rfl (fun ls hl => ?_)
  refine lv_aload_n (pc := 877) hx hb dL_law_877 rfl (lv_at hl 4 rfl) ?_
  refine callVi (pc := 878) (rest := []) (wsU := fun u : SA × SV => wF xa oa ad ad2 am cI cZ cJ A V A2 V2 o u.1 u.2) (c1 := ((k0 + 1) + g)) (s1 := ((s0 + 6) + 9 * g)) cx hw hl (metX6_thrown l D cI cZ am H.size  AM VM  _ h) (fun hts => cwV 0 hts gL_law_X6_thrown rfl rfl rfl (by decide +kernel) ⟨Nat.le_of_ble_eq_true rfl, Nat.le_of_ble_eq_true rfl⟩) SUB.right [0, 1] rfl 0 (ci := 6) rfl rfl rfl JN.right rfl rfl (Nat.le_of_ble_eq_true rfl) ⟨by show ((k0 + 1) + g) + 0 ≤ 601024; omega, by show ((s0 + 6) + 9 * g) + 0 ≤ 7293034; omega⟩ rfl rfl dL_law_878 (fun tv u H locs h hw => ?_)
  obtain ⟨AM, VM⟩ := u
  have hw : WS D s (fun q : Nat => s.heap.size ≤ q) (wF xa oa ad ad2 am cI cZ cJ A V A2 V2 o AM VM) H locs := hw
  obtain ⟨he, ho, hI⟩ := h
  have ho : kk = 0 → o 0 = bv.toInt64 := ho
  refine lv_iload (pc := 881) hx hb dL_law_881 (lv_at hl 1 rfl) ?_
  refine lv_icmp_eq (pc := 883) (tgt := 888) hx hb dL_law_883 (by decide) (fun _ => ?_) (fun hn => absurd he hn)
  refine lv_iload (pc := 888) hx hb dL_law_888 (lv_at hl 1 rfl) ?_
  refine lv_if_ne (pc := 890) (tgt := 905) hx hb dL_law_890 (by decide) (fun _ => ?_) (fun hz => ?_)
  · skip
    refine lv_goto (pc := 905) (tgt := 1279) hx hb dL_law_905 (by decide) ?_
    refine W.widen (k := k1) (n := s1) (by omega) (by omega) ?_
    exact hnext d0 hd0 A V A2 V2 o AM VM _ _ _ hI hw (lv_sub hl [2, 3, 4, 5, 6] rfl)
  · refine lv_aload_n (pc := 893) hx hb dL_law_893 rfl (lv_at hl 5 rfl) ?_
    refine lv_iconst (pc := 894) (v := (0 : Int32)) hx hb dL_law_894 (by decide) ?_
    refine alL (pc := 895) cx hw 51 2 (o := o) rfl rfl dL_law_895 ?_
    refine lv_iload (pc := 896) hx hb dL_law_896 (lv_at hl 0 rfl) ?_
    refine lv_i2l (pc := 898) (v := bv.toInt64) hx hb dL_law_898 rfl ?_
    refine W.lcmp (pc := 899) hx hb dL_law_899 ?_
    rw [ho hz, cmp_rf]
    refine lv_if_eq (pc := 900) (tgt := 905) hx hb dL_law_900 (by decide) (fun _ => ?_) (fun hn => absurd rfl hn)
    refine lv_goto (pc := 905) (tgt := 1279) hx hb dL_law_905 (by decide) ?_
    refine W.widen (k := k1) (n := s1) (by omega) (by omega) ?_
    exact hnext d0 hd0 A V A2 V2 o AM VM _ _ _ hI hw (lv_sub hl [2, 3, 4, 5, 6] rfl)
set_option maxHeartbeats 4000000 in
set_option maxRecDepth 100000 in
theorem law_c_count (hlt : l.stackTraces = false) (K : INVT) (cxs : ∀ d0 : Drawn, CX RL cL_law 9 wsL_law D (tysL cI cZ cJ) p (s.setDrawn d0) m #[Value.ref b] c (fun q : Nat => s.heap.size ≤ q)) (hXP : XP (fun q : Nat => s.heap.size ≤ q) s) (hX : va_X b L xs s s.heap) (hbl : b < s.heap.size) (hL : L ≤ 2048) (i : Nat) (hi : i + 4 ≤ L) (k0 s0 k1 s1 : Nat) (hk : k0 + 160 ≤ k1) (hs : s0 + 1600 ≤ s1) (hk1 : k1 ≤ 601024) (hs1 : s1 ≤ 7293034) (hnext : ∀ (d0 : Drawn) (hd0 : s.drawn.sameBut d0 lw_cs) (A : SA) (V : SV) (A2 : SA) (V2 : SV) (o : Nat → Int64) (AM : SA) (VM : SV) (H : Heap) (locs : List Loc) (ls : Array Slot) (hI : K A V A2 V2 AM VM) (hw : WS D s (fun q : Nat => s.heap.size ≤ q) (wF xa oa ad ad2 am cI cZ cJ A V A2 V2 o AM VM) H locs) (hl : lv_has ls 9 [(0, .ref b), (1, .ref xa), (2, .ref (am 0)), (3, .ref oa), (4, .int (nI i))]), W p l e room_1 (s.setDrawn d0) m #[Value.ref b] below meth c H locs k1 s1 Z (F0 m 1279 ls [])) : ∀ (d0 : Drawn) (hd0 : s.drawn.sameBut d0 lw_cs) (A : SA) (V : SV) (A2 : SA) (V2 : SV) (o : Nat → Int64) (AM : SA) (VM : SV) (h : LC_count K A V A2 V2 o AM VM (xs (i + 1)) (xs (i + 2)) (xs (i + 3))) (H : Heap) (locs : List Loc) (ls : Array Slot) (hw : WS D s (fun q : Nat => s.heap.size ≤ q) (wF xa oa ad ad2 am cI cZ cJ A V A2 V2 o AM VM) H locs) (hl : lv_has ls 9 [(0, .ref b), (1, .ref xa), (2, .ref (am 0)), (3, .ref oa), (4, .int (nI i))]), W p l e room_1 (s.setDrawn d0) m #[Value.ref b] below meth c H locs k0 s0 Z (F0 m 908 ls []) := by
  intro d0 hd0 A V A2 V2 o AM VM h H locs ls hw hl
  have hbA : ¬ s.heap.size ≤ b := Nat.not_le.mpr hbl
  have cx := cxs d0
  have hXd : XP (fun q : Nat => s.heap.size ≤ q) (s.setDrawn d0) := hXP.drawn
  obtain ⟨hx, hb, hml, hown, hts, hK, hA⟩ := id cx
  refine lv_aload_n (pc := 908) hx hb dL_law_908 rfl (lv_at hl 1 rfl) ?_
  refine lv_aload_n (pc := 909) hx hb dL_law_909 rfl (lv_at hl 0 rfl) ?_
  refine lv_iload (pc := 910) hx hb dL_law_910 (lv_at hl 4 rfl) ?_
  refine lv_iconst (pc := 912) (v := (1 : Int32)) hx hb dL_law_912 (by decide) ?_
  refine lv_iadd (pc := 913) hx hb dL_law_913 ?_
  refine lv_eqi (nI_add i 1) ?_
  refine sldL (pc := 914) (s := s.setDrawn d0) hx hb hX hbl hw.2.2 hL (j := i + 1) (by omega) dL_law_914 ?_
  refine lv_aload_n (pc := 915) hx hb dL_law_915 rfl (lv_at hl 3 rfl) ?_
  refine callSWi (pc := 916) (rest := []) (wsU := fun u : SA × SV × SA × SV × (Nat → Int64) => wF xa oa ad ad2 am cI cZ cJ u.1 u.2.1 u.2.2.1 u.2.2.2.1 u.2.2.2.2 AM VM) (c1 := k0 + 1) (s1 := s0 + 6) cx hw hl hXd (metL_count l hlt D cI cZ cJ xa oa ad ad2 H.size A V A2 V2 o (xs (i + 1)) _ h) (fun hts => vx_cwSW 3 hts gL_law_L_count rfl rfl rfl (by decide +kernel) ⟨Nat.le_of_ble_eq_true rfl, Nat.le_of_ble_eq_true rfl⟩) SUB.left [0, 1, 2] rfl JN.left rfl rfl (Nat.le_of_ble_eq_true rfl) ⟨by show k0 + 1 ≤ 601024; omega, by show s0 + 6 ≤ 7293034; omega⟩ rfl rfl dL_law_916 (fun kk u H locs h hw => ?_)
  obtain ⟨A, V, A2, V2, o⟩ := u
  have hw : WS D s (fun q : Nat => s.heap.size ≤ q) (wF xa oa ad ad2 am cI cZ cJ A V A2 V2 o AM VM) H locs := hw
  refine lv_istore (pc := 919) (lv' := [(5, .int kk), (0, .ref b), (1, .ref xa), (2, .ref (am 0)), (3, .ref oa), (4, .int (nI i))]) hx hb dL_law_919 hl (by decide) rfl (fun ls hl => ?_)
  refine lv_aload_n (pc := 921) hx hb dL_law_921 rfl (lv_at hl 3 rfl) ?_
  refine lv_aload_n (pc := 922) hx hb dL_law_922 rfl (lv_at hl 1 rfl) ?_
  refine lv_iload (pc := 923) hx hb dL_law_923 (lv_at hl 5 rfl) ?_
  refine lv_iconst (pc := 925) (v := (1 : Int32)) hx hb dL_law_925 (by decide) ?_
  refine lv_iadd (pc := 926) hx hb dL_law_926 ?_
  refine lv_eqi (nI_add i 1) ?_
  refine sldL (pc := 927) (s := s.setDrawn d0) hx hb hX hbl hw.2.2 hL (j := i + 1) (by omega) dL_law_927 ?_
  refine callVi (pc := 928) (rest := []) (wsU := fun u : SA × SV => wF xa oa ad ad2 am cI cZ cJ A V A2 V2 o u.1 u.2) (c1 := (k0 + 1)) (s1 := (s0 + 6)) cx hw hl (metX6_count l D cI cZ am H.size  AM VM (xs (i + 1)) _ h) (fun hts => cwV 1 hts gL_law_X6_count rfl rfl rfl (by decide +kernel) ⟨Nat.le_of_ble_eq_true rfl, Nat.le_of_ble_eq_true rfl⟩) SUB.right [0, 1] rfl 0 (ci := 6) rfl rfl rfl JN.right rfl rfl (Nat.le_of_ble_eq_true rfl) ⟨by show (k0 + 1) + 0 ≤ 601024; omega, by show (s0 + 6) + 0 ≤ 7293034; omega⟩ rfl rfl dL_law_928 (fun bv u H locs h hw => ?_)
  obtain ⟨AM, VM⟩ := u
  have hw : WS D s (fun q : Nat => s.heap.size ≤ q) (wF xa oa ad ad2 am cI cZ cJ A V A2 V2 o AM VM) H locs := hw
  refine lv_istore (pc := 931) (lv' := [(6, .int bv), (5, .int kk), (0, .ref b), (1, .ref xa), (2, .ref (am 0)), (3, .ref oa), (4, .int (nI i))]) hx hb dL_law_931 hl (by decide) rfl (fun ls hl => ?_)
  refine lv_aload_n (pc := 933) hx hb dL_law_933 rfl (lv_at hl 4 rfl) ?_
  refine callVi (pc := 934) (rest := []) (wsU := fun u : SA × SV => wF xa oa ad ad2 am cI cZ cJ A V A2 V2 o u.1 u.2) (c1 := (k0 + 1)) (s1 := (s0 + 6)) cx hw hl (metX6_thrown l D cI cZ am H.size  AM VM  _ h) (fun hts => cwV 0 hts gL_law_X6_thrown rfl rfl rfl (by decide +kernel) ⟨Nat.le_of_ble_eq_true rfl, Nat.le_of_ble_eq_true rfl⟩) SUB.right [0, 1] rfl 0 (ci := 6) rfl rfl rfl JN.right rfl rfl (Nat.le_of_ble_eq_true rfl) ⟨by show (k0 + 1) + 0 ≤ 601024; omega, by show (s0 + 6) + 0 ≤ 7293034; omega⟩ rfl rfl dL_law_934 (fun tv u H locs h hw => ?_)
  obtain ⟨AM, VM⟩ := u
  have hw : WS D s (fun q : Nat => s.heap.size ≤ q) (wF xa oa ad ad2 am cI cZ cJ A V A2 V2 o AM VM) H locs := hw
  obtain ⟨he, ho, hI⟩ := h
  have ho : kk = 0 → o 0 = bv.toInt64 := ho
  refine lv_iload (pc := 937) hx hb dL_law_937 (lv_at hl 1 rfl) ?_
  refine lv_icmp_eq (pc := 939) (tgt := 944) hx hb dL_law_939 (by decide) (fun _ => ?_) (fun hn => absurd he hn)
  refine lv_iload (pc := 944) hx hb dL_law_944 (lv_at hl 1 rfl) ?_
  refine lv_if_ne (pc := 946) (tgt := 961) hx hb dL_law_946 (by decide) (fun _ => ?_) (fun hz => ?_)
  · skip
    refine lv_goto (pc := 961) (tgt := 1279) hx hb dL_law_961 (by decide) ?_
    refine W.widen (k := k1) (n := s1) (by omega) (by omega) ?_
    exact hnext d0 hd0 A V A2 V2 o AM VM _ _ _ hI hw (lv_sub hl [2, 3, 4, 5, 6] rfl)
  · refine lv_aload_n (pc := 949) hx hb dL_law_949 rfl (lv_at hl 5 rfl) ?_
    refine lv_iconst (pc := 950) (v := (0 : Int32)) hx hb dL_law_950 (by decide) ?_
    refine alL (pc := 951) cx hw 51 2 (o := o) rfl rfl dL_law_951 ?_
    refine lv_iload (pc := 952) hx hb dL_law_952 (lv_at hl 0 rfl) ?_
    refine lv_i2l (pc := 954) (v := bv.toInt64) hx hb dL_law_954 rfl ?_
    refine W.lcmp (pc := 955) hx hb dL_law_955 ?_
    rw [ho hz, cmp_rf]
    refine lv_if_eq (pc := 956) (tgt := 961) hx hb dL_law_956 (by decide) (fun _ => ?_) (fun hn => absurd rfl hn)
    refine lv_goto (pc := 961) (tgt := 1279) hx hb dL_law_961 (by decide) ?_
    refine W.widen (k := k1) (n := s1) (by omega) (by omega) ?_
    exact hnext d0 hd0 A V A2 V2 o AM VM _ _ _ hI hw (lv_sub hl [2, 3, 4, 5, 6] rfl)
set_option maxHeartbeats 4000000 in
set_option maxRecDepth 100000 in
theorem law_c_binFor (hlt : l.stackTraces = false) (K : INVT) (cxs : ∀ d0 : Drawn, CX RL cL_law 9 wsL_law D (tysL cI cZ cJ) p (s.setDrawn d0) m #[Value.ref b] c (fun q : Nat => s.heap.size ≤ q)) (hXP : XP (fun q : Nat => s.heap.size ≤ q) s) (hX : va_X b L xs s s.heap) (hbl : b < s.heap.size) (hL : L ≤ 2048) (i : Nat) (hi : i + 4 ≤ L) (k0 s0 k1 s1 : Nat) (hk : k0 + 160 ≤ k1) (hs : s0 + 1600 ≤ s1) (hk1 : k1 ≤ 601024) (hs1 : s1 ≤ 7293034) (hnext : ∀ (d0 : Drawn) (hd0 : s.drawn.sameBut d0 lw_cs) (A : SA) (V : SV) (A2 : SA) (V2 : SV) (o : Nat → Int64) (AM : SA) (VM : SV) (H : Heap) (locs : List Loc) (ls : Array Slot) (hI : K A V A2 V2 AM VM) (hw : WS D s (fun q : Nat => s.heap.size ≤ q) (wF xa oa ad ad2 am cI cZ cJ A V A2 V2 o AM VM) H locs) (hl : lv_has ls 9 [(0, .ref b), (1, .ref xa), (2, .ref (am 0)), (3, .ref oa), (4, .int (nI i))]), W p l e room_1 (s.setDrawn d0) m #[Value.ref b] below meth c H locs k1 s1 Z (F0 m 1279 ls [])) : ∀ (d0 : Drawn) (hd0 : s.drawn.sameBut d0 lw_cs) (A : SA) (V : SV) (A2 : SA) (V2 : SV) (o : Nat → Int64) (AM : SA) (VM : SV) (h : LC_binFor K A V A2 V2 o AM VM (xs (i + 1)) (xs (i + 2)) (xs (i + 3))) (H : Heap) (locs : List Loc) (ls : Array Slot) (hw : WS D s (fun q : Nat => s.heap.size ≤ q) (wF xa oa ad ad2 am cI cZ cJ A V A2 V2 o AM VM) H locs) (hl : lv_has ls 9 [(0, .ref b), (1, .ref xa), (2, .ref (am 0)), (3, .ref oa), (4, .int (nI i))]), W p l e room_1 (s.setDrawn d0) m #[Value.ref b] below meth c H locs k0 s0 Z (F0 m 964 ls []) := by
  intro d0 hd0 A V A2 V2 o AM VM h H locs ls hw hl
  have hbA : ¬ s.heap.size ≤ b := Nat.not_le.mpr hbl
  have cx := cxs d0
  have hXd : XP (fun q : Nat => s.heap.size ≤ q) (s.setDrawn d0) := hXP.drawn
  obtain ⟨hx, hb, hml, hown, hts, hK, hA⟩ := id cx
  refine lv_aload_n (pc := 964) hx hb dL_law_964 rfl (lv_at hl 1 rfl) ?_
  refine lv_aload_n (pc := 965) hx hb dL_law_965 rfl (lv_at hl 0 rfl) ?_
  refine lv_iload (pc := 966) hx hb dL_law_966 (lv_at hl 4 rfl) ?_
  refine lv_iconst (pc := 968) (v := (1 : Int32)) hx hb dL_law_968 (by decide) ?_
  refine lv_iadd (pc := 969) hx hb dL_law_969 ?_
  refine lv_eqi (nI_add i 1) ?_
  refine sldL (pc := 970) (s := s.setDrawn d0) hx hb hX hbl hw.2.2 hL (j := i + 1) (by omega) dL_law_970 ?_
  refine lv_aload_n (pc := 971) hx hb dL_law_971 rfl (lv_at hl 3 rfl) ?_
  refine callSWi (pc := 972) (rest := []) (wsU := fun u : SA × SV × SA × SV × (Nat → Int64) => wF xa oa ad ad2 am cI cZ cJ u.1 u.2.1 u.2.2.1 u.2.2.2.1 u.2.2.2.2 AM VM) (c1 := k0 + 1) (s1 := s0 + 6) cx hw hl hXd (metL_binFor l hlt D cI cZ cJ xa oa ad ad2 H.size A V A2 V2 o (xs (i + 1)) _ h) (fun hts => vx_cwSW 3 hts gL_law_L_binFor rfl rfl rfl (by decide +kernel) ⟨Nat.le_of_ble_eq_true rfl, Nat.le_of_ble_eq_true rfl⟩) SUB.left [0, 1, 2] rfl JN.left rfl rfl (Nat.le_of_ble_eq_true rfl) ⟨by show k0 + 1 ≤ 601024; omega, by show s0 + 6 ≤ 7293034; omega⟩ rfl rfl dL_law_972 (fun kk u H locs h hw => ?_)
  obtain ⟨A, V, A2, V2, o⟩ := u
  have hw : WS D s (fun q : Nat => s.heap.size ≤ q) (wF xa oa ad ad2 am cI cZ cJ A V A2 V2 o AM VM) H locs := hw
  refine lv_istore (pc := 975) (lv' := [(5, .int kk), (0, .ref b), (1, .ref xa), (2, .ref (am 0)), (3, .ref oa), (4, .int (nI i))]) hx hb dL_law_975 hl (by decide) rfl (fun ls hl => ?_)
  refine lv_aload_n (pc := 977) hx hb dL_law_977 rfl (lv_at hl 3 rfl) ?_
  refine lv_aload_n (pc := 978) hx hb dL_law_978 rfl (lv_at hl 1 rfl) ?_
  refine lv_iload (pc := 979) hx hb dL_law_979 (lv_at hl 5 rfl) ?_
  refine lv_iconst (pc := 981) (v := (1 : Int32)) hx hb dL_law_981 (by decide) ?_
  refine lv_iadd (pc := 982) hx hb dL_law_982 ?_
  refine lv_eqi (nI_add i 1) ?_
  refine sldL (pc := 983) (s := s.setDrawn d0) hx hb hX hbl hw.2.2 hL (j := i + 1) (by omega) dL_law_983 ?_
  refine callVi (pc := 984) (rest := []) (wsU := fun u : SA × SV => wF xa oa ad ad2 am cI cZ cJ A V A2 V2 o u.1 u.2) (c1 := (k0 + 1)) (s1 := (s0 + 6)) cx hw hl (metX6_binFor l D cI cZ am H.size  AM VM (xs (i + 1)) _ h) (fun hts => cwV 1 hts gL_law_X6_binFor rfl rfl rfl (by decide +kernel) ⟨Nat.le_of_ble_eq_true rfl, Nat.le_of_ble_eq_true rfl⟩) SUB.right [0, 1] rfl 0 (ci := 6) rfl rfl rfl JN.right rfl rfl (Nat.le_of_ble_eq_true rfl) ⟨by show (k0 + 1) + 0 ≤ 601024; omega, by show (s0 + 6) + 0 ≤ 7293034; omega⟩ rfl rfl dL_law_984 (fun bv u H locs h hw => ?_)
  obtain ⟨AM, VM⟩ := u
  have hw : WS D s (fun q : Nat => s.heap.size ≤ q) (wF xa oa ad ad2 am cI cZ cJ A V A2 V2 o AM VM) H locs := hw
  refine lv_istore (pc := 987) (lv' := [(6, .int bv), (5, .int kk), (0, .ref b), (1, .ref xa), (2, .ref (am 0)), (3, .ref oa), (4, .int (nI i))]) hx hb dL_law_987 hl (by decide) rfl (fun ls hl => ?_)
  refine lv_aload_n (pc := 989) hx hb dL_law_989 rfl (lv_at hl 4 rfl) ?_
  refine callVi (pc := 990) (rest := []) (wsU := fun u : SA × SV => wF xa oa ad ad2 am cI cZ cJ A V A2 V2 o u.1 u.2) (c1 := (k0 + 1)) (s1 := (s0 + 6)) cx hw hl (metX6_thrown l D cI cZ am H.size  AM VM  _ h) (fun hts => cwV 0 hts gL_law_X6_thrown rfl rfl rfl (by decide +kernel) ⟨Nat.le_of_ble_eq_true rfl, Nat.le_of_ble_eq_true rfl⟩) SUB.right [0, 1] rfl 0 (ci := 6) rfl rfl rfl JN.right rfl rfl (Nat.le_of_ble_eq_true rfl) ⟨by show (k0 + 1) + 0 ≤ 601024; omega, by show (s0 + 6) + 0 ≤ 7293034; omega⟩ rfl rfl dL_law_990 (fun tv u H locs h hw => ?_)
  obtain ⟨AM, VM⟩ := u
  have hw : WS D s (fun q : Nat => s.heap.size ≤ q) (wF xa oa ad ad2 am cI cZ cJ A V A2 V2 o AM VM) H locs := hw
  obtain ⟨he, ho, hI⟩ := h
  have ho : kk = 0 → o 0 = bv.toInt64 := ho
  refine lv_iload (pc := 993) hx hb dL_law_993 (lv_at hl 1 rfl) ?_
  refine lv_icmp_eq (pc := 995) (tgt := 1000) hx hb dL_law_995 (by decide) (fun _ => ?_) (fun hn => absurd he hn)
  refine lv_iload (pc := 1000) hx hb dL_law_1000 (lv_at hl 1 rfl) ?_
  refine lv_if_ne (pc := 1002) (tgt := 1017) hx hb dL_law_1002 (by decide) (fun _ => ?_) (fun hz => ?_)
  · skip
    refine lv_goto (pc := 1017) (tgt := 1279) hx hb dL_law_1017 (by decide) ?_
    refine W.widen (k := k1) (n := s1) (by omega) (by omega) ?_
    exact hnext d0 hd0 A V A2 V2 o AM VM _ _ _ hI hw (lv_sub hl [2, 3, 4, 5, 6] rfl)
  · refine lv_aload_n (pc := 1005) hx hb dL_law_1005 rfl (lv_at hl 5 rfl) ?_
    refine lv_iconst (pc := 1006) (v := (0 : Int32)) hx hb dL_law_1006 (by decide) ?_
    refine alL (pc := 1007) cx hw 51 2 (o := o) rfl rfl dL_law_1007 ?_
    refine lv_iload (pc := 1008) hx hb dL_law_1008 (lv_at hl 0 rfl) ?_
    refine lv_i2l (pc := 1010) (v := bv.toInt64) hx hb dL_law_1010 rfl ?_
    refine W.lcmp (pc := 1011) hx hb dL_law_1011 ?_
    rw [ho hz, cmp_rf]
    refine lv_if_eq (pc := 1012) (tgt := 1017) hx hb dL_law_1012 (by decide) (fun _ => ?_) (fun hn => absurd rfl hn)
    refine lv_goto (pc := 1017) (tgt := 1279) hx hb dL_law_1017 (by decide) ?_
    refine W.widen (k := k1) (n := s1) (by omega) (by omega) ?_
    exact hnext d0 hd0 A V A2 V2 o AM VM _ _ _ hI hw (lv_sub hl [2, 3, 4, 5, 6] rfl)
set_option maxHeartbeats 4000000 in
set_option maxRecDepth 100000 in
theorem law_c_foresee (hlt : l.stackTraces = false) (K : INVT) (cxs : ∀ d0 : Drawn, CX RL cL_law 9 wsL_law D (tysL cI cZ cJ) p (s.setDrawn d0) m #[Value.ref b] c (fun q : Nat => s.heap.size ≤ q)) (hXP : XP (fun q : Nat => s.heap.size ≤ q) s) (hX : va_X b L xs s s.heap) (hbl : b < s.heap.size) (hL : L ≤ 2048) (i : Nat) (hi : i + 4 ≤ L) (k0 s0 k1 s1 : Nat) (hk : k0 + 160 ≤ k1) (hs : s0 + 1600 ≤ s1) (hk1 : k1 ≤ 601024) (hs1 : s1 ≤ 7293034) (hnext : ∀ (d0 : Drawn) (hd0 : s.drawn.sameBut d0 lw_cs) (A : SA) (V : SV) (A2 : SA) (V2 : SV) (o : Nat → Int64) (AM : SA) (VM : SV) (H : Heap) (locs : List Loc) (ls : Array Slot) (hI : K A V A2 V2 AM VM) (hw : WS D s (fun q : Nat => s.heap.size ≤ q) (wF xa oa ad ad2 am cI cZ cJ A V A2 V2 o AM VM) H locs) (hl : lv_has ls 9 [(0, .ref b), (1, .ref xa), (2, .ref (am 0)), (3, .ref oa), (4, .int (nI i))]), W p l e room_1 (s.setDrawn d0) m #[Value.ref b] below meth c H locs k1 s1 Z (F0 m 1279 ls [])) : ∀ (d0 : Drawn) (hd0 : s.drawn.sameBut d0 lw_cs) (A : SA) (V : SV) (A2 : SA) (V2 : SV) (o : Nat → Int64) (AM : SA) (VM : SV) (h : LC_foresee K A V A2 V2 o AM VM (xs (i + 1)) (xs (i + 2)) (xs (i + 3))) (H : Heap) (locs : List Loc) (ls : Array Slot) (hw : WS D s (fun q : Nat => s.heap.size ≤ q) (wF xa oa ad ad2 am cI cZ cJ A V A2 V2 o AM VM) H locs) (hl : lv_has ls 9 [(0, .ref b), (1, .ref xa), (2, .ref (am 0)), (3, .ref oa), (4, .int (nI i))]), W p l e room_1 (s.setDrawn d0) m #[Value.ref b] below meth c H locs k0 s0 Z (F0 m 1020 ls []) := by
  intro d0 hd0 A V A2 V2 o AM VM h H locs ls hw hl
  have hbA : ¬ s.heap.size ≤ b := Nat.not_le.mpr hbl
  have cx := cxs d0
  have hXd : XP (fun q : Nat => s.heap.size ≤ q) (s.setDrawn d0) := hXP.drawn
  obtain ⟨hx, hb, hml, hown, hts, hK, hA⟩ := id cx
  refine lv_aload_n (pc := 1020) hx hb dL_law_1020 rfl (lv_at hl 1 rfl) ?_
  refine lv_aload_n (pc := 1021) hx hb dL_law_1021 rfl (lv_at hl 0 rfl) ?_
  refine lv_iload (pc := 1022) hx hb dL_law_1022 (lv_at hl 4 rfl) ?_
  refine lv_iconst (pc := 1024) (v := (1 : Int32)) hx hb dL_law_1024 (by decide) ?_
  refine lv_iadd (pc := 1025) hx hb dL_law_1025 ?_
  refine lv_eqi (nI_add i 1) ?_
  refine sldL (pc := 1026) (s := s.setDrawn d0) hx hb hX hbl hw.2.2 hL (j := i + 1) (by omega) dL_law_1026 ?_
  refine lv_aload_n (pc := 1027) hx hb dL_law_1027 rfl (lv_at hl 0 rfl) ?_
  refine lv_iload (pc := 1028) hx hb dL_law_1028 (lv_at hl 4 rfl) ?_
  refine lv_iconst (pc := 1030) (v := (2 : Int32)) hx hb dL_law_1030 (by decide) ?_
  refine lv_iadd (pc := 1031) hx hb dL_law_1031 ?_
  refine lv_eqi (nI_add i 2) ?_
  refine sldL (pc := 1032) (s := s.setDrawn d0) hx hb hX hbl hw.2.2 hL (j := i + 2) (by omega) dL_law_1032 ?_
  refine lv_aload_n (pc := 1033) hx hb dL_law_1033 rfl (lv_at hl 3 rfl) ?_
  refine callSWi (pc := 1034) (rest := []) (wsU := fun u : SA × SV × SA × SV × (Nat → Int64) => wF xa oa ad ad2 am cI cZ cJ u.1 u.2.1 u.2.2.1 u.2.2.2.1 u.2.2.2.2 AM VM) (c1 := k0 + 1) (s1 := s0 + 6) cx hw hl hXd (metL_foresee l hlt D cI cZ cJ xa oa ad ad2 H.size A V A2 V2 o (xs (i + 1)) (xs (i + 2)) _ h) (fun hts => vx_cwSW 4 hts gL_law_L_foresee rfl rfl rfl (by decide +kernel) ⟨Nat.le_of_ble_eq_true rfl, Nat.le_of_ble_eq_true rfl⟩) SUB.left [0, 1, 2] rfl JN.left rfl rfl (Nat.le_of_ble_eq_true rfl) ⟨by show k0 + 1 ≤ 601024; omega, by show s0 + 6 ≤ 7293034; omega⟩ rfl rfl dL_law_1034 (fun kk u H locs h hw => ?_)
  obtain ⟨A, V, A2, V2, o⟩ := u
  have hw : WS D s (fun q : Nat => s.heap.size ≤ q) (wF xa oa ad ad2 am cI cZ cJ A V A2 V2 o AM VM) H locs := hw
  obtain ⟨g, hg, h⟩ := h
  refine lv_istore (pc := 1037) (lv' := [(5, .int kk), (0, .ref b), (1, .ref xa), (2, .ref (am 0)), (3, .ref oa), (4, .int (nI i))]) hx hb dL_law_1037 hl (by decide) rfl (fun ls hl => ?_)
  refine lv_aload_n (pc := 1039) hx hb dL_law_1039 rfl (lv_at hl 3 rfl) ?_
  refine lv_aload_n (pc := 1040) hx hb dL_law_1040 rfl (lv_at hl 1 rfl) ?_
  refine lv_iload (pc := 1041) hx hb dL_law_1041 (lv_at hl 5 rfl) ?_
  refine lv_iconst (pc := 1043) (v := (1 : Int32)) hx hb dL_law_1043 (by decide) ?_
  refine lv_iadd (pc := 1044) hx hb dL_law_1044 ?_
  refine lv_eqi (nI_add i 1) ?_
  refine sldL (pc := 1045) (s := s.setDrawn d0) hx hb hX hbl hw.2.2 hL (j := i + 1) (by omega) dL_law_1045 ?_
  refine lv_aload_n (pc := 1046) hx hb dL_law_1046 rfl (lv_at hl 1 rfl) ?_
  refine lv_iload (pc := 1047) hx hb dL_law_1047 (lv_at hl 5 rfl) ?_
  refine lv_iconst (pc := 1049) (v := (2 : Int32)) hx hb dL_law_1049 (by decide) ?_
  refine lv_iadd (pc := 1050) hx hb dL_law_1050 ?_
  refine lv_eqi (nI_add i 2) ?_
  refine sldL (pc := 1051) (s := s.setDrawn d0) hx hb hX hbl hw.2.2 hL (j := i + 2) (by omega) dL_law_1051 ?_
  refine callVi (pc := 1052) (rest := []) (wsU := fun u : SA × SV => wF xa oa ad ad2 am cI cZ cJ A V A2 V2 o u.1 u.2) (c1 := ((k0 + 1) + g)) (s1 := ((s0 + 6) + 9 * g)) cx hw hl (metX6_foresee l D cI cZ am H.size g AM VM (xs (i + 1)) (xs (i + 2)) _ h) (fun hts => cwV 2 hts gL_law_X6_foresee rfl rfl rfl (by decide +kernel) ⟨Nat.le_of_ble_eq_true rfl, Nat.le_of_ble_eq_true rfl⟩) SUB.right [0, 1] rfl 0 (ci := 6) rfl rfl rfl JN.right rfl rfl (Nat.le_of_ble_eq_true rfl) ⟨by show (k0 + 1) + g ≤ 601024; omega, by show (s0 + 6) + 9 * g ≤ 7293034; omega⟩ rfl rfl dL_law_1052 (fun bv u H locs h hw => ?_)
  obtain ⟨AM, VM⟩ := u
  have hw : WS D s (fun q : Nat => s.heap.size ≤ q) (wF xa oa ad ad2 am cI cZ cJ A V A2 V2 o AM VM) H locs := hw
  refine lv_istore (pc := 1055) (lv' := [(6, .int bv), (5, .int kk), (0, .ref b), (1, .ref xa), (2, .ref (am 0)), (3, .ref oa), (4, .int (nI i))]) hx hb dL_law_1055 hl (by decide) rfl (fun ls hl => ?_)
  refine lv_aload_n (pc := 1057) hx hb dL_law_1057 rfl (lv_at hl 4 rfl) ?_
  refine callVi (pc := 1058) (rest := []) (wsU := fun u : SA × SV => wF xa oa ad ad2 am cI cZ cJ A V A2 V2 o u.1 u.2) (c1 := ((k0 + 1) + g)) (s1 := ((s0 + 6) + 9 * g)) cx hw hl (metX6_thrown l D cI cZ am H.size  AM VM  _ h) (fun hts => cwV 0 hts gL_law_X6_thrown rfl rfl rfl (by decide +kernel) ⟨Nat.le_of_ble_eq_true rfl, Nat.le_of_ble_eq_true rfl⟩) SUB.right [0, 1] rfl 0 (ci := 6) rfl rfl rfl JN.right rfl rfl (Nat.le_of_ble_eq_true rfl) ⟨by show ((k0 + 1) + g) + 0 ≤ 601024; omega, by show ((s0 + 6) + 9 * g) + 0 ≤ 7293034; omega⟩ rfl rfl dL_law_1058 (fun tv u H locs h hw => ?_)
  obtain ⟨AM, VM⟩ := u
  have hw : WS D s (fun q : Nat => s.heap.size ≤ q) (wF xa oa ad ad2 am cI cZ cJ A V A2 V2 o AM VM) H locs := hw
  obtain ⟨he, ho, hI⟩ := h
  have ho : kk = 0 → o 0 = bv.toInt64 := ho
  refine lv_iload (pc := 1061) hx hb dL_law_1061 (lv_at hl 1 rfl) ?_
  refine lv_icmp_eq (pc := 1063) (tgt := 1068) hx hb dL_law_1063 (by decide) (fun _ => ?_) (fun hn => absurd he hn)
  refine lv_iload (pc := 1068) hx hb dL_law_1068 (lv_at hl 1 rfl) ?_
  refine lv_if_ne (pc := 1070) (tgt := 1085) hx hb dL_law_1070 (by decide) (fun _ => ?_) (fun hz => ?_)
  · skip
    refine lv_goto (pc := 1085) (tgt := 1279) hx hb dL_law_1085 (by decide) ?_
    refine W.widen (k := k1) (n := s1) (by omega) (by omega) ?_
    exact hnext d0 hd0 A V A2 V2 o AM VM _ _ _ hI hw (lv_sub hl [2, 3, 4, 5, 6] rfl)
  · refine lv_aload_n (pc := 1073) hx hb dL_law_1073 rfl (lv_at hl 5 rfl) ?_
    refine lv_iconst (pc := 1074) (v := (0 : Int32)) hx hb dL_law_1074 (by decide) ?_
    refine alL (pc := 1075) cx hw 51 2 (o := o) rfl rfl dL_law_1075 ?_
    refine lv_iload (pc := 1076) hx hb dL_law_1076 (lv_at hl 0 rfl) ?_
    refine lv_i2l (pc := 1078) (v := bv.toInt64) hx hb dL_law_1078 rfl ?_
    refine W.lcmp (pc := 1079) hx hb dL_law_1079 ?_
    rw [ho hz, cmp_rf]
    refine lv_if_eq (pc := 1080) (tgt := 1085) hx hb dL_law_1080 (by decide) (fun _ => ?_) (fun hn => absurd rfl hn)
    refine lv_goto (pc := 1085) (tgt := 1279) hx hb dL_law_1085 (by decide) ?_
    refine W.widen (k := k1) (n := s1) (by omega) (by omega) ?_
    exact hnext d0 hd0 A V A2 V2 o AM VM _ _ _ hI hw (lv_sub hl [2, 3, 4, 5, 6] rfl)
set_option maxHeartbeats 4000000 in
set_option maxRecDepth 100000 in
theorem law_c_fate (hlt : l.stackTraces = false) (K : INVT) (cxs : ∀ d0 : Drawn, CX RL cL_law 9 wsL_law D (tysL cI cZ cJ) p (s.setDrawn d0) m #[Value.ref b] c (fun q : Nat => s.heap.size ≤ q)) (hXP : XP (fun q : Nat => s.heap.size ≤ q) s) (hX : va_X b L xs s s.heap) (hbl : b < s.heap.size) (hL : L ≤ 2048) (i : Nat) (hi : i + 4 ≤ L) (k0 s0 k1 s1 : Nat) (hk : k0 + 160 ≤ k1) (hs : s0 + 1600 ≤ s1) (hk1 : k1 ≤ 601024) (hs1 : s1 ≤ 7293034) (hnext : ∀ (d0 : Drawn) (hd0 : s.drawn.sameBut d0 lw_cs) (A : SA) (V : SV) (A2 : SA) (V2 : SV) (o : Nat → Int64) (AM : SA) (VM : SV) (H : Heap) (locs : List Loc) (ls : Array Slot) (hI : K A V A2 V2 AM VM) (hw : WS D s (fun q : Nat => s.heap.size ≤ q) (wF xa oa ad ad2 am cI cZ cJ A V A2 V2 o AM VM) H locs) (hl : lv_has ls 9 [(0, .ref b), (1, .ref xa), (2, .ref (am 0)), (3, .ref oa), (4, .int (nI i))]), W p l e room_1 (s.setDrawn d0) m #[Value.ref b] below meth c H locs k1 s1 Z (F0 m 1279 ls [])) : ∀ (d0 : Drawn) (hd0 : s.drawn.sameBut d0 lw_cs) (A : SA) (V : SV) (A2 : SA) (V2 : SV) (o : Nat → Int64) (AM : SA) (VM : SV) (h : LC_fate K A V A2 V2 o AM VM (xs (i + 1)) (xs (i + 2)) (xs (i + 3))) (H : Heap) (locs : List Loc) (ls : Array Slot) (hw : WS D s (fun q : Nat => s.heap.size ≤ q) (wF xa oa ad ad2 am cI cZ cJ A V A2 V2 o AM VM) H locs) (hl : lv_has ls 9 [(0, .ref b), (1, .ref xa), (2, .ref (am 0)), (3, .ref oa), (4, .int (nI i))]), W p l e room_1 (s.setDrawn d0) m #[Value.ref b] below meth c H locs k0 s0 Z (F0 m 1088 ls []) := by
  intro d0 hd0 A V A2 V2 o AM VM h H locs ls hw hl
  have hbA : ¬ s.heap.size ≤ b := Nat.not_le.mpr hbl
  have cx := cxs d0
  have hXd : XP (fun q : Nat => s.heap.size ≤ q) (s.setDrawn d0) := hXP.drawn
  obtain ⟨hx, hb, hml, hown, hts, hK, hA⟩ := id cx
  refine lv_aload_n (pc := 1088) hx hb dL_law_1088 rfl (lv_at hl 1 rfl) ?_
  refine lv_aload_n (pc := 1089) hx hb dL_law_1089 rfl (lv_at hl 0 rfl) ?_
  refine lv_iload (pc := 1090) hx hb dL_law_1090 (lv_at hl 4 rfl) ?_
  refine lv_iconst (pc := 1092) (v := (1 : Int32)) hx hb dL_law_1092 (by decide) ?_
  refine lv_iadd (pc := 1093) hx hb dL_law_1093 ?_
  refine lv_eqi (nI_add i 1) ?_
  refine sldL (pc := 1094) (s := s.setDrawn d0) hx hb hX hbl hw.2.2 hL (j := i + 1) (by omega) dL_law_1094 ?_
  refine lv_aload_n (pc := 1095) hx hb dL_law_1095 rfl (lv_at hl 0 rfl) ?_
  refine lv_iload (pc := 1096) hx hb dL_law_1096 (lv_at hl 4 rfl) ?_
  refine lv_iconst (pc := 1098) (v := (2 : Int32)) hx hb dL_law_1098 (by decide) ?_
  refine lv_iadd (pc := 1099) hx hb dL_law_1099 ?_
  refine lv_eqi (nI_add i 2) ?_
  refine sldL (pc := 1100) (s := s.setDrawn d0) hx hb hX hbl hw.2.2 hL (j := i + 2) (by omega) dL_law_1100 ?_
  refine lv_aload_n (pc := 1101) hx hb dL_law_1101 rfl (lv_at hl 3 rfl) ?_
  refine callSWi (pc := 1102) (rest := []) (wsU := fun u : SA × SV × SA × SV × (Nat → Int64) => wF xa oa ad ad2 am cI cZ cJ u.1 u.2.1 u.2.2.1 u.2.2.2.1 u.2.2.2.2 AM VM) (c1 := k0 + 1) (s1 := s0 + 6) cx hw hl hXd (metL_fate l hlt D cI cZ cJ xa oa ad ad2 H.size A V A2 V2 o (xs (i + 1)) (xs (i + 2)) _ h) (fun hts => vx_cwSW 4 hts gL_law_L_fate rfl rfl rfl (by decide +kernel) ⟨Nat.le_of_ble_eq_true rfl, Nat.le_of_ble_eq_true rfl⟩) SUB.left [0, 1, 2] rfl JN.left rfl rfl (Nat.le_of_ble_eq_true rfl) ⟨by show k0 + 1 ≤ 601024; omega, by show s0 + 6 ≤ 7293034; omega⟩ rfl rfl dL_law_1102 (fun kk u H locs h hw => ?_)
  obtain ⟨A, V, A2, V2, o⟩ := u
  have hw : WS D s (fun q : Nat => s.heap.size ≤ q) (wF xa oa ad ad2 am cI cZ cJ A V A2 V2 o AM VM) H locs := hw
  obtain ⟨g, hg, h⟩ := h
  refine lv_istore (pc := 1105) (lv' := [(5, .int kk), (0, .ref b), (1, .ref xa), (2, .ref (am 0)), (3, .ref oa), (4, .int (nI i))]) hx hb dL_law_1105 hl (by decide) rfl (fun ls hl => ?_)
  refine lv_aload_n (pc := 1107) hx hb dL_law_1107 rfl (lv_at hl 3 rfl) ?_
  refine lv_aload_n (pc := 1108) hx hb dL_law_1108 rfl (lv_at hl 1 rfl) ?_
  refine lv_iload (pc := 1109) hx hb dL_law_1109 (lv_at hl 5 rfl) ?_
  refine lv_iconst (pc := 1111) (v := (1 : Int32)) hx hb dL_law_1111 (by decide) ?_
  refine lv_iadd (pc := 1112) hx hb dL_law_1112 ?_
  refine lv_eqi (nI_add i 1) ?_
  refine sldL (pc := 1113) (s := s.setDrawn d0) hx hb hX hbl hw.2.2 hL (j := i + 1) (by omega) dL_law_1113 ?_
  refine lv_aload_n (pc := 1114) hx hb dL_law_1114 rfl (lv_at hl 1 rfl) ?_
  refine lv_iload (pc := 1115) hx hb dL_law_1115 (lv_at hl 5 rfl) ?_
  refine lv_iconst (pc := 1117) (v := (2 : Int32)) hx hb dL_law_1117 (by decide) ?_
  refine lv_iadd (pc := 1118) hx hb dL_law_1118 ?_
  refine lv_eqi (nI_add i 2) ?_
  refine sldL (pc := 1119) (s := s.setDrawn d0) hx hb hX hbl hw.2.2 hL (j := i + 2) (by omega) dL_law_1119 ?_
  refine callVi (pc := 1120) (rest := []) (wsU := fun u : SA × SV => wF xa oa ad ad2 am cI cZ cJ A V A2 V2 o u.1 u.2) (c1 := ((k0 + 1) + g)) (s1 := ((s0 + 6) + 9 * g)) cx hw hl (metX6_fate l D cI cZ am H.size g AM VM (xs (i + 1)) (xs (i + 2)) _ h) (fun hts => cwV 2 hts gL_law_X6_fate rfl rfl rfl (by decide +kernel) ⟨Nat.le_of_ble_eq_true rfl, Nat.le_of_ble_eq_true rfl⟩) SUB.right [0, 1] rfl 0 (ci := 6) rfl rfl rfl JN.right rfl rfl (Nat.le_of_ble_eq_true rfl) ⟨by show (k0 + 1) + g ≤ 601024; omega, by show (s0 + 6) + 9 * g ≤ 7293034; omega⟩ rfl rfl dL_law_1120 (fun bv u H locs h hw => ?_)
  obtain ⟨AM, VM⟩ := u
  have hw : WS D s (fun q : Nat => s.heap.size ≤ q) (wF xa oa ad ad2 am cI cZ cJ A V A2 V2 o AM VM) H locs := hw
  refine lv_istore (pc := 1123) (lv' := [(6, .int bv), (5, .int kk), (0, .ref b), (1, .ref xa), (2, .ref (am 0)), (3, .ref oa), (4, .int (nI i))]) hx hb dL_law_1123 hl (by decide) rfl (fun ls hl => ?_)
  refine lv_aload_n (pc := 1125) hx hb dL_law_1125 rfl (lv_at hl 4 rfl) ?_
  refine callVi (pc := 1126) (rest := []) (wsU := fun u : SA × SV => wF xa oa ad ad2 am cI cZ cJ A V A2 V2 o u.1 u.2) (c1 := ((k0 + 1) + g)) (s1 := ((s0 + 6) + 9 * g)) cx hw hl (metX6_thrown l D cI cZ am H.size  AM VM  _ h) (fun hts => cwV 0 hts gL_law_X6_thrown rfl rfl rfl (by decide +kernel) ⟨Nat.le_of_ble_eq_true rfl, Nat.le_of_ble_eq_true rfl⟩) SUB.right [0, 1] rfl 0 (ci := 6) rfl rfl rfl JN.right rfl rfl (Nat.le_of_ble_eq_true rfl) ⟨by show ((k0 + 1) + g) + 0 ≤ 601024; omega, by show ((s0 + 6) + 9 * g) + 0 ≤ 7293034; omega⟩ rfl rfl dL_law_1126 (fun tv u H locs h hw => ?_)
  obtain ⟨AM, VM⟩ := u
  have hw : WS D s (fun q : Nat => s.heap.size ≤ q) (wF xa oa ad ad2 am cI cZ cJ A V A2 V2 o AM VM) H locs := hw
  obtain ⟨he, ho, hI⟩ := h
  have ho : kk = 0 → o 0 = bv.toInt64 := ho
  refine lv_iload (pc := 1129) hx hb dL_law_1129 (lv_at hl 1 rfl) ?_
  refine lv_icmp_eq (pc := 1131) (tgt := 1136) hx hb dL_law_1131 (by decide) (fun _ => ?_) (fun hn => absurd he hn)
  refine lv_iload (pc := 1136) hx hb dL_law_1136 (lv_at hl 1 rfl) ?_
  refine lv_if_ne (pc := 1138) (tgt := 1153) hx hb dL_law_1138 (by decide) (fun _ => ?_) (fun hz => ?_)
  · skip
    refine lv_goto (pc := 1153) (tgt := 1279) hx hb dL_law_1153 (by decide) ?_
    refine W.widen (k := k1) (n := s1) (by omega) (by omega) ?_
    exact hnext d0 hd0 A V A2 V2 o AM VM _ _ _ hI hw (lv_sub hl [2, 3, 4, 5, 6] rfl)
  · refine lv_aload_n (pc := 1141) hx hb dL_law_1141 rfl (lv_at hl 5 rfl) ?_
    refine lv_iconst (pc := 1142) (v := (0 : Int32)) hx hb dL_law_1142 (by decide) ?_
    refine alL (pc := 1143) cx hw 51 2 (o := o) rfl rfl dL_law_1143 ?_
    refine lv_iload (pc := 1144) hx hb dL_law_1144 (lv_at hl 0 rfl) ?_
    refine lv_i2l (pc := 1146) (v := bv.toInt64) hx hb dL_law_1146 rfl ?_
    refine W.lcmp (pc := 1147) hx hb dL_law_1147 ?_
    rw [ho hz, cmp_rf]
    refine lv_if_eq (pc := 1148) (tgt := 1153) hx hb dL_law_1148 (by decide) (fun _ => ?_) (fun hn => absurd rfl hn)
    refine lv_goto (pc := 1153) (tgt := 1279) hx hb dL_law_1153 (by decide) ?_
    refine W.widen (k := k1) (n := s1) (by omega) (by omega) ?_
    exact hnext d0 hd0 A V A2 V2 o AM VM _ _ _ hI hw (lv_sub hl [2, 3, 4, 5, 6] rfl)
set_option maxHeartbeats 4000000 in
set_option maxRecDepth 100000 in
theorem law_c_reaches (hlt : l.stackTraces = false) (K : INVT) (cxs : ∀ d0 : Drawn, CX RL cL_law 9 wsL_law D (tysL cI cZ cJ) p (s.setDrawn d0) m #[Value.ref b] c (fun q : Nat => s.heap.size ≤ q)) (hXP : XP (fun q : Nat => s.heap.size ≤ q) s) (hX : va_X b L xs s s.heap) (hbl : b < s.heap.size) (hL : L ≤ 2048) (i : Nat) (hi : i + 4 ≤ L) (k0 s0 k1 s1 : Nat) (hk : k0 + 160 ≤ k1) (hs : s0 + 1600 ≤ s1) (hk1 : k1 ≤ 601024) (hs1 : s1 ≤ 7293034) (hnext : ∀ (d0 : Drawn) (hd0 : s.drawn.sameBut d0 lw_cs) (A : SA) (V : SV) (A2 : SA) (V2 : SV) (o : Nat → Int64) (AM : SA) (VM : SV) (H : Heap) (locs : List Loc) (ls : Array Slot) (hI : K A V A2 V2 AM VM) (hw : WS D s (fun q : Nat => s.heap.size ≤ q) (wF xa oa ad ad2 am cI cZ cJ A V A2 V2 o AM VM) H locs) (hl : lv_has ls 9 [(0, .ref b), (1, .ref xa), (2, .ref (am 0)), (3, .ref oa), (4, .int (nI i))]), W p l e room_1 (s.setDrawn d0) m #[Value.ref b] below meth c H locs k1 s1 Z (F0 m 1279 ls [])) : ∀ (d0 : Drawn) (hd0 : s.drawn.sameBut d0 lw_cs) (A : SA) (V : SV) (A2 : SA) (V2 : SV) (o : Nat → Int64) (AM : SA) (VM : SV) (h : LC_reaches K A V A2 V2 o AM VM (xs (i + 1)) (xs (i + 2)) (xs (i + 3))) (H : Heap) (locs : List Loc) (ls : Array Slot) (hw : WS D s (fun q : Nat => s.heap.size ≤ q) (wF xa oa ad ad2 am cI cZ cJ A V A2 V2 o AM VM) H locs) (hl : lv_has ls 9 [(0, .ref b), (1, .ref xa), (2, .ref (am 0)), (3, .ref oa), (4, .int (nI i))]), W p l e room_1 (s.setDrawn d0) m #[Value.ref b] below meth c H locs k0 s0 Z (F0 m 1156 ls []) := by
  intro d0 hd0 A V A2 V2 o AM VM h H locs ls hw hl
  have hbA : ¬ s.heap.size ≤ b := Nat.not_le.mpr hbl
  have cx := cxs d0
  have hXd : XP (fun q : Nat => s.heap.size ≤ q) (s.setDrawn d0) := hXP.drawn
  obtain ⟨hx, hb, hml, hown, hts, hK, hA⟩ := id cx
  refine lv_aload_n (pc := 1156) hx hb dL_law_1156 rfl (lv_at hl 1 rfl) ?_
  refine lv_aload_n (pc := 1157) hx hb dL_law_1157 rfl (lv_at hl 0 rfl) ?_
  refine lv_iload (pc := 1158) hx hb dL_law_1158 (lv_at hl 4 rfl) ?_
  refine lv_iconst (pc := 1160) (v := (1 : Int32)) hx hb dL_law_1160 (by decide) ?_
  refine lv_iadd (pc := 1161) hx hb dL_law_1161 ?_
  refine lv_eqi (nI_add i 1) ?_
  refine sldL (pc := 1162) (s := s.setDrawn d0) hx hb hX hbl hw.2.2 hL (j := i + 1) (by omega) dL_law_1162 ?_
  refine lv_aload_n (pc := 1163) hx hb dL_law_1163 rfl (lv_at hl 0 rfl) ?_
  refine lv_iload (pc := 1164) hx hb dL_law_1164 (lv_at hl 4 rfl) ?_
  refine lv_iconst (pc := 1166) (v := (2 : Int32)) hx hb dL_law_1166 (by decide) ?_
  refine lv_iadd (pc := 1167) hx hb dL_law_1167 ?_
  refine lv_eqi (nI_add i 2) ?_
  refine sldL (pc := 1168) (s := s.setDrawn d0) hx hb hX hbl hw.2.2 hL (j := i + 2) (by omega) dL_law_1168 ?_
  refine lv_aload_n (pc := 1169) hx hb dL_law_1169 rfl (lv_at hl 3 rfl) ?_
  refine callSWi (pc := 1170) (rest := []) (wsU := fun u : SA × SV × SA × SV × (Nat → Int64) => wF xa oa ad ad2 am cI cZ cJ u.1 u.2.1 u.2.2.1 u.2.2.2.1 u.2.2.2.2 AM VM) (c1 := k0 + 1) (s1 := s0 + 6) cx hw hl hXd (metL_reaches l hlt D cI cZ cJ xa oa ad ad2 H.size A V A2 V2 o (xs (i + 1)) (xs (i + 2)) _ h) (fun hts => vx_cwSW 4 hts gL_law_L_reaches rfl rfl rfl (by decide +kernel) ⟨Nat.le_of_ble_eq_true rfl, Nat.le_of_ble_eq_true rfl⟩) SUB.left [0, 1, 2] rfl JN.left rfl rfl (Nat.le_of_ble_eq_true rfl) ⟨by show k0 + 1 ≤ 601024; omega, by show s0 + 6 ≤ 7293034; omega⟩ rfl rfl dL_law_1170 (fun kk u H locs h hw => ?_)
  obtain ⟨A, V, A2, V2, o⟩ := u
  have hw : WS D s (fun q : Nat => s.heap.size ≤ q) (wF xa oa ad ad2 am cI cZ cJ A V A2 V2 o AM VM) H locs := hw
  refine lv_istore (pc := 1173) (lv' := [(5, .int kk), (0, .ref b), (1, .ref xa), (2, .ref (am 0)), (3, .ref oa), (4, .int (nI i))]) hx hb dL_law_1173 hl (by decide) rfl (fun ls hl => ?_)
  refine lv_aload_n (pc := 1175) hx hb dL_law_1175 rfl (lv_at hl 3 rfl) ?_
  refine lv_aload_n (pc := 1176) hx hb dL_law_1176 rfl (lv_at hl 1 rfl) ?_
  refine lv_iload (pc := 1177) hx hb dL_law_1177 (lv_at hl 5 rfl) ?_
  refine lv_iconst (pc := 1179) (v := (1 : Int32)) hx hb dL_law_1179 (by decide) ?_
  refine lv_iadd (pc := 1180) hx hb dL_law_1180 ?_
  refine lv_eqi (nI_add i 1) ?_
  refine sldL (pc := 1181) (s := s.setDrawn d0) hx hb hX hbl hw.2.2 hL (j := i + 1) (by omega) dL_law_1181 ?_
  refine lv_aload_n (pc := 1182) hx hb dL_law_1182 rfl (lv_at hl 1 rfl) ?_
  refine lv_iload (pc := 1183) hx hb dL_law_1183 (lv_at hl 5 rfl) ?_
  refine lv_iconst (pc := 1185) (v := (2 : Int32)) hx hb dL_law_1185 (by decide) ?_
  refine lv_iadd (pc := 1186) hx hb dL_law_1186 ?_
  refine lv_eqi (nI_add i 2) ?_
  refine sldL (pc := 1187) (s := s.setDrawn d0) hx hb hX hbl hw.2.2 hL (j := i + 2) (by omega) dL_law_1187 ?_
  refine callVi (pc := 1188) (rest := []) (wsU := fun u : SA × SV => wF xa oa ad ad2 am cI cZ cJ A V A2 V2 o u.1 u.2) (c1 := (k0 + 1)) (s1 := (s0 + 6)) cx hw hl (metX6_reaches l D cI cZ am H.size  AM VM (xs (i + 1)) (xs (i + 2)) _ h) (fun hts => cwV 2 hts gL_law_X6_reaches rfl rfl rfl (by decide +kernel) ⟨Nat.le_of_ble_eq_true rfl, Nat.le_of_ble_eq_true rfl⟩) SUB.right [0, 1] rfl 0 (ci := 6) rfl rfl rfl JN.right rfl rfl (Nat.le_of_ble_eq_true rfl) ⟨by show (k0 + 1) + 0 ≤ 601024; omega, by show (s0 + 6) + 0 ≤ 7293034; omega⟩ rfl rfl dL_law_1188 (fun bv u H locs h hw => ?_)
  obtain ⟨AM, VM⟩ := u
  have hw : WS D s (fun q : Nat => s.heap.size ≤ q) (wF xa oa ad ad2 am cI cZ cJ A V A2 V2 o AM VM) H locs := hw
  refine lv_istore (pc := 1191) (lv' := [(6, .int bv), (5, .int kk), (0, .ref b), (1, .ref xa), (2, .ref (am 0)), (3, .ref oa), (4, .int (nI i))]) hx hb dL_law_1191 hl (by decide) rfl (fun ls hl => ?_)
  refine lv_aload_n (pc := 1193) hx hb dL_law_1193 rfl (lv_at hl 4 rfl) ?_
  refine callVi (pc := 1194) (rest := []) (wsU := fun u : SA × SV => wF xa oa ad ad2 am cI cZ cJ A V A2 V2 o u.1 u.2) (c1 := (k0 + 1)) (s1 := (s0 + 6)) cx hw hl (metX6_thrown l D cI cZ am H.size  AM VM  _ h) (fun hts => cwV 0 hts gL_law_X6_thrown rfl rfl rfl (by decide +kernel) ⟨Nat.le_of_ble_eq_true rfl, Nat.le_of_ble_eq_true rfl⟩) SUB.right [0, 1] rfl 0 (ci := 6) rfl rfl rfl JN.right rfl rfl (Nat.le_of_ble_eq_true rfl) ⟨by show (k0 + 1) + 0 ≤ 601024; omega, by show (s0 + 6) + 0 ≤ 7293034; omega⟩ rfl rfl dL_law_1194 (fun tv u H locs h hw => ?_)
  obtain ⟨AM, VM⟩ := u
  have hw : WS D s (fun q : Nat => s.heap.size ≤ q) (wF xa oa ad ad2 am cI cZ cJ A V A2 V2 o AM VM) H locs := hw
  obtain ⟨he, ho, hI⟩ := h
  have ho : kk = 0 → o 0 = bv.toInt64 := ho
  refine lv_iload (pc := 1197) hx hb dL_law_1197 (lv_at hl 1 rfl) ?_
  refine lv_icmp_eq (pc := 1199) (tgt := 1204) hx hb dL_law_1199 (by decide) (fun _ => ?_) (fun hn => absurd he hn)
  refine lv_iload (pc := 1204) hx hb dL_law_1204 (lv_at hl 1 rfl) ?_
  refine lv_if_ne (pc := 1206) (tgt := 1221) hx hb dL_law_1206 (by decide) (fun _ => ?_) (fun hz => ?_)
  · skip
    refine lv_goto (pc := 1221) (tgt := 1279) hx hb dL_law_1221 (by decide) ?_
    refine W.widen (k := k1) (n := s1) (by omega) (by omega) ?_
    exact hnext d0 hd0 A V A2 V2 o AM VM _ _ _ hI hw (lv_sub hl [2, 3, 4, 5, 6] rfl)
  · refine lv_aload_n (pc := 1209) hx hb dL_law_1209 rfl (lv_at hl 5 rfl) ?_
    refine lv_iconst (pc := 1210) (v := (0 : Int32)) hx hb dL_law_1210 (by decide) ?_
    refine alL (pc := 1211) cx hw 51 2 (o := o) rfl rfl dL_law_1211 ?_
    refine lv_iload (pc := 1212) hx hb dL_law_1212 (lv_at hl 0 rfl) ?_
    refine lv_i2l (pc := 1214) (v := bv.toInt64) hx hb dL_law_1214 rfl ?_
    refine W.lcmp (pc := 1215) hx hb dL_law_1215 ?_
    rw [ho hz, cmp_rf]
    refine lv_if_eq (pc := 1216) (tgt := 1221) hx hb dL_law_1216 (by decide) (fun _ => ?_) (fun hn => absurd rfl hn)
    refine lv_goto (pc := 1221) (tgt := 1279) hx hb dL_law_1221 (by decide) ?_
    refine W.widen (k := k1) (n := s1) (by omega) (by omega) ?_
    exact hnext d0 hd0 A V A2 V2 o AM VM _ _ _ hI hw (lv_sub hl [2, 3, 4, 5, 6] rfl)
set_option maxHeartbeats 4000000 in
set_option maxRecDepth 100000 in
theorem law_c_barnacles (hlt : l.stackTraces = false) (K : INVT) (cxs : ∀ d0 : Drawn, CX RL cL_law 9 wsL_law D (tysL cI cZ cJ) p (s.setDrawn d0) m #[Value.ref b] c (fun q : Nat => s.heap.size ≤ q)) (hXP : XP (fun q : Nat => s.heap.size ≤ q) s) (hX : va_X b L xs s s.heap) (hbl : b < s.heap.size) (hL : L ≤ 2048) (i : Nat) (hi : i + 4 ≤ L) (k0 s0 k1 s1 : Nat) (hk : k0 + 160 ≤ k1) (hs : s0 + 1600 ≤ s1) (hk1 : k1 ≤ 601024) (hs1 : s1 ≤ 7293034) (hnext : ∀ (d0 : Drawn) (hd0 : s.drawn.sameBut d0 lw_cs) (A : SA) (V : SV) (A2 : SA) (V2 : SV) (o : Nat → Int64) (AM : SA) (VM : SV) (H : Heap) (locs : List Loc) (ls : Array Slot) (hI : K A V A2 V2 AM VM) (hw : WS D s (fun q : Nat => s.heap.size ≤ q) (wF xa oa ad ad2 am cI cZ cJ A V A2 V2 o AM VM) H locs) (hl : lv_has ls 9 [(0, .ref b), (1, .ref xa), (2, .ref (am 0)), (3, .ref oa), (4, .int (nI i))]), W p l e room_1 (s.setDrawn d0) m #[Value.ref b] below meth c H locs k1 s1 Z (F0 m 1279 ls [])) : ∀ (d0 : Drawn) (hd0 : s.drawn.sameBut d0 lw_cs) (A : SA) (V : SV) (A2 : SA) (V2 : SV) (o : Nat → Int64) (AM : SA) (VM : SV) (h : LC_barnacles K A V A2 V2 o AM VM (xs (i + 1)) (xs (i + 2)) (xs (i + 3))) (H : Heap) (locs : List Loc) (ls : Array Slot) (hw : WS D s (fun q : Nat => s.heap.size ≤ q) (wF xa oa ad ad2 am cI cZ cJ A V A2 V2 o AM VM) H locs) (hl : lv_has ls 9 [(0, .ref b), (1, .ref xa), (2, .ref (am 0)), (3, .ref oa), (4, .int (nI i))]), W p l e room_1 (s.setDrawn d0) m #[Value.ref b] below meth c H locs k0 s0 Z (F0 m 1224 ls []) := by
  intro d0 hd0 A V A2 V2 o AM VM h H locs ls hw hl
  have hbA : ¬ s.heap.size ≤ b := Nat.not_le.mpr hbl
  have cx := cxs d0
  have hXd : XP (fun q : Nat => s.heap.size ≤ q) (s.setDrawn d0) := hXP.drawn
  obtain ⟨hx, hb, hml, hown, hts, hK, hA⟩ := id cx
  refine lv_aload_n (pc := 1224) hx hb dL_law_1224 rfl (lv_at hl 1 rfl) ?_
  refine callVd (pc := 1225) (rest := []) (wsU := fun u : SA × SV × SA × SV => wF xa oa ad ad2 am cI cZ cJ u.1 u.2.1 u.2.2.1 u.2.2.2 o AM VM) (c1 := k0) (s1 := s0) hd0 cx hw hl (metX5_barnacles l D cI cZ xa ad ad2 H.size A V A2 V2 _ h) (fun hts => cwV 0 hts gL_law_X5_barnacles rfl rfl rfl (by decide +kernel) ⟨Nat.le_of_ble_eq_true rfl, Nat.le_of_ble_eq_true rfl⟩) (SUB.left.trans SUB.left) [0, 1] rfl 0 (ci := 5) rfl rfl rfl (JN.trans SUB.left SUB.left JN.left JN.left) rfl rfl (Nat.le_of_ble_eq_true rfl) ⟨by show k0 + 0 ≤ 601024; omega, by show s0 + 0 ≤ 7293034; omega⟩ rfl rfl dL_law_1225 (fun p1 u H locs d0 hd0 h hw => ?_)
  have cx := cxs d0
  obtain ⟨hx, hb, hml, hown, hts, hK, hA⟩ := id cx
  obtain ⟨A, V, A2, V2⟩ := u
  have hw : WS D s (fun q : Nat => s.heap.size ≤ q) (wF xa oa ad ad2 am cI cZ cJ A V A2 V2 o AM VM) H locs := hw
  refine lv_dstore (pc := 1228) (lv' := [(5, .double p1), (0, .ref b), (1, .ref xa), (2, .ref (am 0)), (3, .ref oa), (4, .int (nI i))]) hx hb dL_law_1228 hl (by decide) rfl (fun ls hl => ?_)
  refine lv_aload_n (pc := 1230) hx hb dL_law_1230 rfl (lv_at hl 3 rfl) ?_
  refine callVd (pc := 1231) (rest := []) (wsU := fun u : SA × SV => wF xa oa ad ad2 am cI cZ cJ A V A2 V2 o u.1 u.2) (c1 := k0) (s1 := s0) hd0 cx hw hl (metX6_barnacles l D cI cZ am H.size AM VM _ h) (fun hts => cwV 0 hts gL_law_X6_barnacles rfl rfl rfl (by decide +kernel) ⟨Nat.le_of_ble_eq_true rfl, Nat.le_of_ble_eq_true rfl⟩) SUB.right [0, 1] rfl 0 (ci := 6) rfl rfl rfl JN.right rfl rfl (Nat.le_of_ble_eq_true rfl) ⟨by show k0 + 0 ≤ 601024; omega, by show s0 + 0 ≤ 7293034; omega⟩ rfl rfl dL_law_1231 (fun q1 u H locs d0 hd0 h hw => ?_)
  have cx := cxs d0
  obtain ⟨hx, hb, hml, hown, hts, hK, hA⟩ := id cx
  obtain ⟨AM, VM⟩ := u
  have hw : WS D s (fun q : Nat => s.heap.size ≤ q) (wF xa oa ad ad2 am cI cZ cJ A V A2 V2 o AM VM) H locs := hw
  obtain ⟨he, hI⟩ := h
  refine lv_dstore (pc := 1234) (lv' := [(7, .double q1), (5, .double p1), (0, .ref b), (1, .ref xa), (2, .ref (am 0)), (3, .ref oa), (4, .int (nI i))]) hx hb dL_law_1234 hl (by decide) rfl (fun ls hl => ?_)
  refine lv_dload (pc := 1236) hx hb dL_law_1236 (lv_at hl 1 rfl) ?_
  refine lv_dload (pc := 1238) hx hb dL_law_1238 (lv_at hl 0 rfl) ?_
  refine lv_dcmp (pc := 1240) hx hb dL_law_1240 ?_
  refine lv_if_eq (pc := 1241) (tgt := 1262) hx hb dL_law_1241 (by decide) (fun _ => ?_) (fun hn => ?_)
  · refine lv_goto (pc := 1262) (tgt := 1279) hx hb dL_law_1262 (by decide) ?_
    refine W.widen (k := k1) (n := s1) (by omega) (by omega) ?_
    exact hnext d0 hd0 A V A2 V2 o AM VM _ _ _ hI hw (lv_sub hl [2, 3, 4, 5, 6] rfl)
  · obtain ⟨hp, hq⟩ := he.resolve_left hn
    refine lv_dload (pc := 1244) hx hb dL_law_1244 (lv_at hl 1 rfl) ?_
    refine lv_dload (pc := 1246) hx hb dL_law_1246 (lv_at hl 1 rfl) ?_
    refine lv_dcmp (pc := 1248) hx hb dL_law_1248 ?_
    refine lv_if_eq (pc := 1249) (tgt := 1260) hx hb dL_law_1249 (by decide) (fun hz => absurd hz hp) (fun _ => ?_)
    refine lv_dload (pc := 1252) hx hb dL_law_1252 (lv_at hl 0 rfl) ?_
    refine lv_dload (pc := 1254) hx hb dL_law_1254 (lv_at hl 0 rfl) ?_
    refine lv_dcmp (pc := 1256) hx hb dL_law_1256 ?_
    refine lv_if_ne (pc := 1257) (tgt := 1262) hx hb dL_law_1257 (by decide) (fun _ => ?_) (fun hz => absurd hz hq)
    refine lv_goto (pc := 1262) (tgt := 1279) hx hb dL_law_1262 (by decide) ?_
    refine W.widen (k := k1) (n := s1) (by omega) (by omega) ?_
    exact hnext d0 hd0 A V A2 V2 o AM VM _ _ _ hI hw (lv_sub hl [2, 3, 4, 5, 6] rfl)
set_option maxHeartbeats 4000000 in
set_option maxRecDepth 100000 in
theorem law_c_digest (hlt : l.stackTraces = false) (K : INVT) (cxs : ∀ d0 : Drawn, CX RL cL_law 9 wsL_law D (tysL cI cZ cJ) p (s.setDrawn d0) m #[Value.ref b] c (fun q : Nat => s.heap.size ≤ q)) (hXP : XP (fun q : Nat => s.heap.size ≤ q) s) (hX : va_X b L xs s s.heap) (hbl : b < s.heap.size) (hL : L ≤ 2048) (i : Nat) (hi : i + 4 ≤ L) (k0 s0 k1 s1 : Nat) (hk : k0 + 160 ≤ k1) (hs : s0 + 1600 ≤ s1) (hk1 : k1 ≤ 601024) (hs1 : s1 ≤ 7293034) (hnext : ∀ (d0 : Drawn) (hd0 : s.drawn.sameBut d0 lw_cs) (A : SA) (V : SV) (A2 : SA) (V2 : SV) (o : Nat → Int64) (AM : SA) (VM : SV) (H : Heap) (locs : List Loc) (ls : Array Slot) (hI : K A V A2 V2 AM VM) (hw : WS D s (fun q : Nat => s.heap.size ≤ q) (wF xa oa ad ad2 am cI cZ cJ A V A2 V2 o AM VM) H locs) (hl : lv_has ls 9 [(0, .ref b), (1, .ref xa), (2, .ref (am 0)), (3, .ref oa), (4, .int (nI i))]), W p l e room_1 (s.setDrawn d0) m #[Value.ref b] below meth c H locs k1 s1 Z (F0 m 1279 ls [])) : ∀ (d0 : Drawn) (hd0 : s.drawn.sameBut d0 lw_cs) (A : SA) (V : SV) (A2 : SA) (V2 : SV) (o : Nat → Int64) (AM : SA) (VM : SV) (h : LC_digest K A V A2 V2 o AM VM (xs (i + 1)) (xs (i + 2)) (xs (i + 3))) (H : Heap) (locs : List Loc) (ls : Array Slot) (hw : WS D s (fun q : Nat => s.heap.size ≤ q) (wF xa oa ad ad2 am cI cZ cJ A V A2 V2 o AM VM) H locs) (hl : lv_has ls 9 [(0, .ref b), (1, .ref xa), (2, .ref (am 0)), (3, .ref oa), (4, .int (nI i))]), W p l e room_1 (s.setDrawn d0) m #[Value.ref b] below meth c H locs k0 s0 Z (F0 m 1265 ls []) := by
  intro d0 hd0 A V A2 V2 o AM VM h H locs ls hw hl
  have hbA : ¬ s.heap.size ≤ b := Nat.not_le.mpr hbl
  have cx := cxs d0
  have hXd : XP (fun q : Nat => s.heap.size ≤ q) (s.setDrawn d0) := hXP.drawn
  obtain ⟨hx, hb, hml, hown, hts, hK, hA⟩ := id cx
  refine lv_aload_n (pc := 1265) hx hb dL_law_1265 rfl (lv_at hl 1 rfl) ?_
  refine callVl (pc := 1266) (rest := []) (wsU := fun u : SA × SV × SA × SV => wF xa oa ad ad2 am cI cZ cJ u.1 u.2.1 u.2.2.1 u.2.2.2 o AM VM) (c1 := k0) (s1 := s0) cx hw hl (metX5_digest l D cI cZ xa ad ad2 H.size A V A2 V2 _ h) (fun hts => cwV 0 hts gL_law_X5_digest rfl rfl rfl (by decide +kernel) ⟨Nat.le_of_ble_eq_true rfl, Nat.le_of_ble_eq_true rfl⟩) (SUB.left.trans SUB.left) [0, 1] rfl 0 (ci := 5) rfl rfl rfl (JN.trans SUB.left SUB.left JN.left JN.left) rfl rfl (Nat.le_of_ble_eq_true rfl) ⟨by show k0 + 0 ≤ 601024; omega, by show s0 + 0 ≤ 7293034; omega⟩ rfl rfl dL_law_1266 (fun p1 u H locs h hw => ?_)
  obtain ⟨A, V, A2, V2⟩ := u
  have hw : WS D s (fun q : Nat => s.heap.size ≤ q) (wF xa oa ad ad2 am cI cZ cJ A V A2 V2 o AM VM) H locs := hw
  refine lv_aload_n (pc := 1269) hx hb dL_law_1269 rfl (lv_at hl 2 rfl) ?_
  refine callVl (pc := 1270) (rest := [.long p1]) (wsU := fun u : SA × SV => wF xa oa ad ad2 am cI cZ cJ A V A2 V2 o u.1 u.2) (c1 := k0) (s1 := s0) cx hw hl (metX6_digest l D cI cZ am H.size AM VM _ h) (fun hts => cwV 0 hts gL_law_X6_digest rfl rfl rfl (by decide +kernel) ⟨Nat.le_of_ble_eq_true rfl, Nat.le_of_ble_eq_true rfl⟩) SUB.right [0, 1] rfl 0 (ci := 6) rfl rfl rfl JN.right rfl rfl (Nat.le_of_ble_eq_true rfl) ⟨by show k0 + 0 ≤ 601024; omega, by show s0 + 0 ≤ 7293034; omega⟩ rfl rfl dL_law_1270 (fun q1 u H locs h hw => ?_)
  obtain ⟨AM, VM⟩ := u
  have hw : WS D s (fun q : Nat => s.heap.size ≤ q) (wF xa oa ad ad2 am cI cZ cJ A V A2 V2 o AM VM) H locs := hw
  obtain ⟨he, hI⟩ := h
  refine W.lcmp (pc := 1273) hx hb dL_law_1273 ?_
  rw [he, cmp_rf]
  refine lv_if_eq (pc := 1274) (tgt := 1279) hx hb dL_law_1274 (by decide) (fun _ => ?_) (fun hn => absurd rfl hn)
  refine W.widen (k := k1) (n := s1) (by omega) (by omega) ?_
  exact hnext d0 hd0 A V A2 V2 o AM VM _ _ _ hI hw (lv_sub hl [0, 1, 2, 3, 4] rfl)
end LAWC
