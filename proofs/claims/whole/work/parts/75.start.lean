abbrev lw_flat : List Cond := flatC (Jvm.Cond.and given_1 narrow_1)
theorem badw_in : ∀ w ∈ BADW, w ∈ lw_tbl := by decide +kernel
theorem ncs_in : ∀ q ∈ NCS, Cond.not (.castable q.1 q.2) ∈ lw_flat := by decide +kernel
theorem strs_in : ∀ q ∈ STRS, Cond.stringRef RX5 q.1 q.2 ∈ lw_tbl := by decide +kernel
theorem strs_ex : ∀ q ∈ STRS, Cond.exactly (.string RX5 q.1) "java/lang/String" ∈ lw_flat := by decide +kernel
theorem nestw_in : ∀ w ∈ NESTW, w ∈ lw_tbl := by decide +kernel
theorem zu_in : Cond.isRef (.static Bundle.tN "UNASSIGNED_STACK" Bundle.steD) ∈ lw_flat := by decide +kernel
theorem zn_in : Cond.isRef (.static Bundle.tN "SUPPRESSED_SENTINEL" Bundle.listD) ∈ lw_flat := by decide +kernel
theorem ft_arr : Cond.arrayOf (.static "DrownedPost" "FIRST_TIDES" "[I") .int ∈ lw_flat := by decide +kernel
theorem ft_len : Cond.eq (.length (.static "DrownedPost" "FIRST_TIDES" "[I")) (.int 12) ∈ lw_flat := by decide +kernel
theorem ft_el : ∀ j : Nat, j < 12 → Cond.eq (.elem (.static "DrownedPost" "FIRST_TIDES" "[I") (.int (Int32.ofNat j))) (.int (ftI j)) ∈ lw_flat := by decide +kernel
theorem FT.drawn {A : Nat → Prop} {U : State} {d : Drawn} (h : FT A U) : FT A (U.setDrawn d) := by
  obtain ⟨h1, t, h2, h3⟩ := h
  exact ⟨fun w hw => va_tabs (nestw_tab w hw) (u := U) (U := U.setDrawn d) rfl (h1 w hw), t, va_Z.moved (u := U) (U := U.setDrawn d) (Vm.Alike.refl U.vm) h2, va_T.moved (u := U) (U := U.setDrawn d) (Vm.Alike.refl U.vm) h3⟩
section NJ
variable {own : String} {cc : ByteArray} {nL : Nat} {Ts : List Cond} {D : va_G} {tys : TYS} {p : Program} {l : Launch} {e : Env} {R : Room} {s : State} {m : MethodId} {args : Array Value} {below : List Frame} {meth : Method} {c : Code} {A0 : Nat → Prop} {H : Heap} {locs : List Loc} {cells slots : Nat} {Z : State → Prop} {ws : va_W} {pc : Nat} {ls : Array Slot} {rest : List Value}
theorem newCJ (cx : CX own cc nL Ts D tys p s m args c A0) (harr : (Cond.arrayClass .long).before args s = true) (hw : WS D s A0 ws H locs) (t0 : Nat) {cA : ClassId} (ht : tys[t0]? = some (cA, .long)) {n : Int32} {N' : Nat} (hn : ¬ n < 0) (hN : n.toNatClampNeg = N') (hbytes : N' * componentBytes .long ≤ 536870912) (hcells : cells + 1 ≤ R.cells) (hslots : slots + N' ≤ R.slots) {c1 s1 : Nat} (hc1 : cells + 1 = c1) (hs1 : slots + N' = s1) (hd : decode cc pc = .ok (.newarray .long, 2))
    (kk : ∀ (q : Nat) (H1 : Heap), WS D s A0 (ws ++ [(q, .inl (cA, N', .inr (.inl (fun _ => 0))))]) H1 locs → W p l e R s m args below meth c H1 locs c1 s1 Z (F0 m (pc + 2) ls (.ref q :: rest))) : W p l e R s m args below meth c H locs cells slots Z (F0 m pc ls (.int n :: rest)) := by
  subst hc1
  subst hs1
  obtain ⟨hx, hb, hml, hown, hts, hK, hA⟩ := cx
  obtain ⟨hP, hD, hS⟩ := hw
  refine va_newa (atype := .long) hx hb harr rfl hK hP hD hS hA (a0 := (N', .inr (.inl (fun _ => 0)))) (fun _ => rfl) hn hN hbytes hcells hslots hd (fun q c9 H1 hK1 hP1 hD1 hS1 => ?_)
  have h1 : s.vm.findClass ("[" ++ FieldType.long.toString) = some cA := (hK.2 t0 _ ht).2
  have h2 : s.vm.findClass ("[" ++ FieldType.long.toString) = some c9 := (hK1.2 tys.length (c9, .long) (by rw [List.getElem?_append_right (Nat.le_refl _), Nat.sub_self]; rfl)).2
  have h3 : c9 = cA := Option.some.inj (h2.symm.trans h1)
  subst h3
  exact kk q H1 ⟨hP1, hD1, hS1⟩
end NJ
theorem wsL_law_w (w : Cond) (h : w ∈ wsL_law) : w ∈ wsL_law := h
theorem kL_8 : Cond.classLink RL 8 RX5 ∈ wsL_law := by decide +kernel
theorem kL_i5 : Cond.instantiable RX5 2 ∈ wsL_law := by decide +kernel
theorem kL_n5 : Cond.initialized RX5 ∈ wsL_law := by decide +kernel
theorem kL_70 : Cond.classLink RL 70 RX6 ∈ wsL_law := by decide +kernel
theorem kL_i6 : Cond.instantiable RX6 15 ∈ wsL_law := by decide +kernel
theorem kL_n6 : Cond.initialized RX6 ∈ wsL_law := by decide +kernel
theorem kL_69 : Cond.methodLink RL 69 yX5_init ∈ wsL_law := by decide +kernel
theorem kL_72 : Cond.methodLink RL 72 yX6_init ∈ wsL_law := by decide +kernel
theorem kL_m5 : Cond.instanceMethod yX5_init ∈ wsL_law := by decide +kernel
theorem kL_m6 : Cond.instanceMethod yX6_init ∈ wsL_law := by decide +kernel
set_option maxHeartbeats 4000000 in
set_option maxRecDepth 100000 in
/-- the law, from its entry, out of an invariant of the pure part -/
theorem whole_start_open (INV : Nat → INVT) (hinit : INV 0 A0o V0o A0o V0o A0m V0m) (hstep : ∀ (t : Nat), t < 512 → ∀ (A : SA) (V : SV) (A2 : SA) (V2 : SV) (o : Nat → Int64) (AM : SA) (VM : SV) (a0 a1 a2 a3 : Int32), INV t A V A2 V2 AM VM → LSTEP (INV (t + 1)) A V A2 V2 o AM VM a0 a1 a2 a3)
    {p : Program} {e : Env} {s : State} {m : MethodId} {below : List Frame} {meth : Method} {c : Code} (l : Launch) (hflags : l.flags = flags0) {b L : Nat} {xs : Nat → Int32} (hL : L ≤ 2048) (C0 : lw_At p s m meth c b L xs) : W p l e room_1 s m #[Value.ref b] below meth c s.heap [] 0 0 (lw_Z below #[Value.ref b] s) (entryFrame m ([Value.ref b] : List Value).toArray 9) := by
  obtain ⟨hx, hb, hr, hml, hown, hts, hX, hbl, hlocks, hgv⟩ := id C0
  have hlt : l.stackTraces = false := by
    unfold Launch.stackTraces
    rw [hflags]
    decide +kernel
  have hg := flat_of_before _ hgv
  have hnA : ∀ a : Nat, a < s.heap.size → ¬ (fun q : Nat => s.heap.size ≤ q) a := fun a h => Nat.not_le.mpr h
  have hA : ∀ q : Nat, s.heap.size ≤ q → (fun q : Nat => s.heap.size ≤ q) q := fun _ h => h
  have htsL : ∀ w ∈ wsL_law, w.before #[Value.ref b] s = true := fun w h => hts w (wsL_law_in w h)
  obtain ⟨c0, i0, hKn0⟩ := u_known (C := RX0) (T := TX0) (N := 4) (n := 4) hts inX0 (hts (.instantiable RX0 4) (by decide +kernel))
  obtain ⟨c1, i1, hKn1⟩ := u_known (C := RX1) (T := TX1) (N := 6) (n := 6) hts inX1 (hts (.instantiable RX1 6) (by decide +kernel))
  obtain ⟨c2, i2, hKn2⟩ := u_known (C := RX2) (T := TX2) (N := 10) (n := 10) hts inX2 (hts (.instantiable RX2 10) (by decide +kernel))
  obtain ⟨c3, i3, hKn3⟩ := u_known (C := RX3) (T := TX3) (N := 10) (n := 10) hts inX3 (hts (.instantiable RX3 10) (by decide +kernel))
  obtain ⟨c4, i4, hKn4⟩ := u_known (C := RX4) (T := TX4) (N := 2) (n := 2) hts inX4 (hts (.instantiable RX4 2) (by decide +kernel))
  obtain ⟨c5, i5, hKn5⟩ := u_known (C := RX5) (T := TX5) (N := 2) (n := 2) hts inX5 (hts (.instantiable RX5 2) (by decide +kernel))
  obtain ⟨c6, i6, hKn6⟩ := u_known (C := RX6) (T := TX6) (N := 15) (n := 15) hts inX6 (hts (.instantiable RX6 15) (by decide +kernel))
  obtain ⟨dC, dI, hKc⟩ : ∃ (dC : Nat → ClassId) (dI : Nat → Nat → Nat), ∀ (k : Nat) (q : vw_C), vwCl[k]? = some q → u_Kn s q.1 q.2.1 q.2.2 (dC k) (dI k) := by
    refine ⟨fun k => if k = 0 then c0 else if k = 1 then c1 else if k = 2 then c2 else if k = 3 then c3 else if k = 4 then c4 else if k = 5 then c5 else c6, fun k => if k = 0 then i0 else if k = 1 then i1 else if k = 2 then i2 else if k = 3 then i3 else if k = 4 then i4 else if k = 5 then i5 else i6, ?_⟩
    intro k q hq
    match k, hq with
    | 0, hq => cases hq; exact hKn0
    | 1, hq => cases hq; exact hKn1
    | 2, hq => cases hq; exact hKn2
    | 3, hq => cases hq; exact hKn3
    | 4, hq => cases hq; exact hKn4
    | 5, hq => cases hq; exact hKn5
    | 6, hq => cases hq; exact hKn6
    | k + 7, hq => simp [vwCl] at hq
  obtain ⟨cI, kI, mI, aI1, aI2, aI3⟩ := Cond.arrayClass_spec (type := .int) (hts (.arrayClass .int) (by decide +kernel))
  obtain ⟨cZ, kZ, mZ, aZ1, aZ2, aZ3⟩ := Cond.arrayClass_spec (type := .boolean) (hts (.arrayClass .boolean) (by decide +kernel))
  obtain ⟨cJ, kJ, mJ, aJ1, aJ2, aJ3⟩ := Cond.arrayClass_spec (type := .long) (hts (.arrayClass .long) (by decide +kernel))
  have hK : va_K (dC, dI) vwCl (tysL cI cZ cJ) s := ⟨hKc, fun k q h => by
    match k, h with
    | 0, h => cases h; exact ⟨fun n z => ⟨fun k h => (by cases h), kI, aI2, mI, aI3⟩, aI1⟩
    | 1, h => cases h; exact ⟨fun n z => ⟨fun k h => (by cases h), kZ, aZ2, mZ, aZ3⟩, aZ1⟩
    | 2, h => cases h; exact ⟨fun n z => ⟨fun k h => (by cases h), kJ, aJ2, mJ, aJ3⟩, aJ1⟩
    | k + 3, h => simp at h⟩
  have hXP : XP (fun q : Nat => s.heap.size ≤ q) s := ⟨vx_Zqof (hts (.laysStatic Bundle.tN "UNASSIGNED_STACK" Bundle.steD) (by decide +kernel)) (hts (.initialized Bundle.tN) (by decide +kernel)) (hg _ zu_in) hnA, vx_Zqof (hts (.laysStatic Bundle.tN "SUPPRESSED_SENTINEL" Bundle.listD) (by decide +kernel)) (hts (.initialized Bundle.tN) (by decide +kernel)) (hg _ zn_in) hnA, fun w hw => va_tabs (badw_tab w hw) (u := s) (U := s) rfl (hts w (badw_in w hw)), fun q hq => va_Nc.of (hg _ (ncs_in q hq)), fun q hq => by
    obtain ⟨a, _, _, _, q1, -⟩ := Cond.exactly_spec (hg _ (strs_ex q hq))
    exact ⟨a, vk_R.of (hts _ (strs_in q hq)) q1⟩⟩
  have hFT : FT (fun q : Nat => s.heap.size ≤ q) s := ⟨fun w hw => va_Nw.of (nestw_tab w hw) (hts w (nestw_in w hw)), by
    obtain ⟨t, ht, hT⟩ := va_Tof (tm := .static "DrownedPost" "FIRST_TIDES" "[I") (ty := .int) (N := 12) (f := fun j => .int (ftI j)) (A := fun q : Nat => s.heap.size ≤ q) (by decide) (hg _ ft_arr) (va_eqt (hg _ ft_len)) (fun j hj => va_eqt (hg _ (ft_el j hj))) hnA
    exact ⟨t, va_Zof (hts (.laysStatic "DrownedPost" "FIRST_TIDES" "[I") (by decide +kernel)) (hts (.initialized RX5) (by decide +kernel)) ht hnA, hT⟩⟩
  have hd0 := Drawn.sameBut.refl s.drawn lw_cs
  refine W.base ?_
  have cxs : ∀ d0 : Drawn, CX RL cL_law 9 wsL_law (dC, dI) (tysL cI cZ cJ) p (s.setDrawn d0) m #[Value.ref b] c (fun q : Nat => s.heap.size ≤ q) := fun d0 => ⟨hx, hb, hml, hown, dr_words htsL _, hK, hA⟩
  have cx := cxs s.drawn
  have hF := hFT.drawn (d := s.drawn)
  have hl := lv_entry ([.ref b]) (n := 9) (Nat.le_of_ble_eq_true rfl)
  rw [lg_entry_eq]
  generalize (lg_sl ([.ref b]) ++ List.replicate (9 - (lg_sl ([.ref b])).length) Slot.unset).toArray = ls at hl ⊢
  have hl : lv_has ls 9 [(0, .ref b)] := hl
  have hts := dr_words htsL s.drawn
  have hw : WS (dC, dI) (s.setDrawn s.drawn) (fun q : Nat => s.heap.size ≤ q) [] s.heap [] := ⟨fun k q h => by simp at h, ⟨fun i j p q h => by simp at h, fun k q h => by simp at h⟩, va_S.rf⟩
  refine newO (pc := 0) (c1 := 1) (s1 := 2) (T := TX5) (N := 2) (C := RX5) (ci := 5) (fs := [.null, .null]) cx inlX5 tyX5 tyX5_ok kL_8 kL_i5 kL_n5 hw rfl (by decide) (Nat.le_of_ble_eq_true rfl) (Nat.le_of_ble_eq_true rfl) rfl rfl dL_law_0 (fun xa H hw => ?_)
  have hw : WS (dC, dI) (s.setDrawn s.drawn) (fun q : Nat => s.heap.size ≤ q) [(xa, .inr (5, [.null, .null]))] _ _ := hw
  refine lv_dup (pc := 3) hx hb dL_law_3 rfl ?_
  refine callIp (pc := 4) (rest := [.ref xa]) (wsU := fun u : (Nat → Nat) × (Nat → Nat) => wD xa u.1 u.2 cI cZ A0o V0o A0o V0o) (c1 := 1 + rmX5_init.cells) (s1 := 2 + rmX5_init.slots) cx hw hl hF (metX5_init l (dC, dI) cI cZ xa H.size) (fun hts => cwI 0 hts gL_law_X5_init rfl rfl rfl (hts _ kL_n5) (hts _ kL_69) (hts _ kL_m5) rfl (by decide +kernel) ⟨Nat.le_of_ble_eq_true rfl, Nat.le_of_ble_eq_true rfl⟩) SUB.rf [0, 1] rfl JN.rf rfl (Nat.le_of_ble_eq_true rfl) ⟨Nat.le_of_ble_eq_true rfl, Nat.le_of_ble_eq_true rfl⟩ rfl rfl dL_law_4 (fun u H locs _ hw => ?_)
  obtain ⟨ad, ad2⟩ := u
  refine lv_astore_n (pc := 7) (lv' := [(1, .ref xa), (0, .ref b)]) hx hb dL_law_7 rfl hl (by decide) rfl (fun ls hl => ?_)
  refine newO (pc := 8) (c1 := 1 + rmX5_init.cells + 1) (s1 := 2 + rmX5_init.slots + 15) (T := TX6) (N := 15) (C := RX6) (ci := 6) (fs := [.int 0, .int 0, .int 0, .null, .int 0, .null, .int 0, .null, .int 0, .null, .int 0, .int 0, .null, .null, .null]) cx inlX6 tyX6 tyX6_ok kL_70 kL_i6 kL_n6 hw rfl (by decide) (Nat.le_of_ble_eq_true rfl) (Nat.le_of_ble_eq_true rfl) rfl rfl dL_law_8 (fun mq H hw => ?_)
  refine lv_dup (pc := 11) hx hb dL_law_11 rfl ?_
  refine callIp (pc := 12) (rest := [.ref mq]) (wsU := fun u : Nat → Nat => wD xa ad ad2 cI cZ A0o V0o A0o V0o ++ wM u cI cZ A0m V0m) (c1 := 1 + rmX5_init.cells + 1 + rmX6_init.cells) (s1 := 2 + rmX5_init.slots + 15 + rmX6_init.slots) cx hw hl hF (metX6_init l (dC, dI) cI cZ mq H.size) (fun hts => cwI 0 hts gL_law_X6_init rfl rfl rfl (hts _ kL_n6) (hts _ kL_72) (hts _ kL_m6) rfl (by decide +kernel) ⟨Nat.le_of_ble_eq_true rfl, Nat.le_of_ble_eq_true rfl⟩) SUB.right [0, 1] rfl JN.right rfl (Nat.le_of_ble_eq_true rfl) ⟨Nat.le_of_ble_eq_true rfl, Nat.le_of_ble_eq_true rfl⟩ rfl rfl dL_law_12 (fun am H locs ham hw => ?_)
  have hz : Value.ref mq = Value.ref (am 0) := by rw [ham]
  rw [hz]
  refine lv_astore_n (pc := 15) (lv' := [(2, .ref (am 0)), (1, .ref xa), (0, .ref b)]) hx hb dL_law_15 rfl hl (by decide) rfl (fun ls hl => ?_)
  refine lv_iconst (pc := 16) (v := (1 : Int32)) hx hb dL_law_16 (by decide) ?_
  refine newCJ (pc := 17) (c1 := 1 + rmX5_init.cells + 1 + rmX6_init.cells + 1) (s1 := 2 + rmX5_init.slots + 15 + rmX6_init.slots + 1) (N' := 1) cx (hts (.arrayClass .long) (by decide +kernel)) hw 2 rfl (by decide) (by decide) (by decide) (Nat.le_of_ble_eq_true rfl) (Nat.le_of_ble_eq_true rfl) rfl rfl dL_law_17 (fun oa H hw => ?_)
  have hw : WS (dC, dI) s (fun q : Nat => s.heap.size ≤ q) (wF xa oa ad ad2 am cI cZ cJ A0o V0o A0o V0o (fun _ => 0) A0m V0m) _ _ := WS.sub (s := s) hw (SUB.by ([0, 1, 2, 3, 4, 5, 6, 7, 8, 9, 10, 11, 12, 13, 14, 15, 16, 17, 18, 19, 20, 21, 22, 23, 24, 25, 26, 27, 28, 29, 30, 31, 32, 33, 34, 35, 36, 37, 38, 39, 40, 41, 42, 43, 44, 45, 46, 47, 48, 49, 50] ++ [59] ++ [51, 52, 53, 54, 55, 56, 57, 58]) (by decide) rfl)
  refine lv_astore_n (pc := 19) (lv' := [(3, .ref oa), (2, .ref (am 0)), (1, .ref xa), (0, .ref b)]) hx hb dL_law_19 rfl hl (by decide) rfl (fun ls hl => ?_)
  refine lv_iconst (pc := 20) (v := (0 : Int32)) hx hb dL_law_20 (by decide) ?_
  refine lv_istore (pc := 21) (lv' := [(4, .int 0), (3, .ref oa), (2, .ref (am 0)), (1, .ref xa), (0, .ref b)]) hx hb dL_law_21 hl (by decide) rfl (fun ls hl => ?_)
  refine W.widen (k := 1000 + 160 * 0) (n := 20000 + 1600 * 0) (Nat.le_of_ble_eq_true rfl) (Nat.le_of_ble_eq_true rfl) ?_
  refine law_loop hlt INV hstep cxs hXP hX hbl hL 1000 20000 (Nat.le_refl _) (Nat.le_refl _) ?_ 513 0 rfl (Nat.zero_le _) s.drawn hd0 A0o V0o A0o V0o (fun _ => 0) A0m V0m hinit _ _ _ hw (lv_sub hl [4, 3, 2, 1, 0] rfl)
  intro d0 hd0 A V A2 V2 o AM VM H locs ls k0 s0 hk hs hw
  refine lv_iconst (pc := 1285) (v := (1 : Int32)) hx hb dL_law_1285 (by decide) ?_
  refine va_forget (s := s.setDrawn d0) (fun q hq => hw.2.2.2.2 q hq) ?_
  refine W.widen (k := 601024) (n := 7293034) hk hs ?_
  exact lw_ret hd0 hx hb hr hlocks dL_law_1286
