/-! THE CLAIM OUT OF ONE WALK OF THE LAW'S BODY. Your part is whole_start (and what it stands on); all else here is the same for every law, but numbers. -/
def R_law : String := "DrownedPostLaw"
def lw_P (b : Addr) (xs : List Int32) (args : Array Value) (s : State) : Prop := args = #[.ref b] ∧ s.IntsAt b xs ∧ xs.length ≤ 260 ∧ (Jvm.Cond.and given_1 narrow_1).before args s = true
def lw_Q (_ : Array Value) (s : State) (o : Outcome) (t : State) : Prop := o = .returned (some (.int 1)) ∧ Framed s o t [] 600130 7301080
def lw_Z (below : List Frame) (a : Array Value) (s : State) : State → Prop := fun t => ∃ o, t.status = .running ∧ Ended t below o ∧ lw_Q a s o t
/-- the law's own end, with 1 on the stack, nothing written that was there before, its room as the claim has it -/
theorem lw_ret {p : Program} {l : Launch} {e : Env} {s : State} {m : MethodId} {below : List Frame} {meth : Method} {c : Code} {b : Nat} (hx : p.tables.exec = Jvm.exec) (hb : c.code = code) (hr : meth.sig.returnType = ret) (hlocks : meth.locks = false) {pc : Nat} {H : Heap} {ls : Array Slot} (hdg : decode code pc = .ok (.ireturn, 1)) : W p l e room_1 s m #[Value.ref b] below meth c H [] 600130 7301080 (lw_Z below #[Value.ref b] s) (F0 m pc ls [.int 1]) := by
  intro T hT X
  obtain ⟨fs, hret, hrun, hended, hW, hframe⟩ := X.leave (v := some (.int 1)) (hlocks := hlocks) (fun h => by rw [hr] at h; cases h)
  have hmeth' : T.vm.method? m = some meth := X.method'
  refine ⟨T.setFrames fs, ?_, .returned (some (.int 1)), hrun, hended, rfl, ⟨_, rfl⟩, hW, hframe⟩
  jvm_step X.here [X.here.top, hx, hb, hdg, hmeth', hr, ret, narrow_b1]
  (try refine ⟨rfl, ?_⟩); (try refine ⟨rfl, ?_⟩)
  first | (intro acts; rw [hret _ acts rfl rfl rfl]) | rw [hret _ _ rfl rfl rfl]
  exact Steps.refl _
/-- what holds at the law's entry: the machine, the code, the tables' words (any of lw_tbl by 'hts w (by decide +kernel)'), the script of L ints xs at the cell b, what the Statement gives of the start (any of its parts by flat_of_before) -/
def lw_At (p : Program) (s : State) (m : MethodId) (meth : Method) (c : Code) (b L : Nat) (xs : Nat → Int32) : Prop :=
  p.tables.exec = Jvm.exec ∧ c.code = code ∧ meth.sig.returnType = ret ∧ c.maxLocals = 21 ∧ s.vm.findClass R_law = some m.cls ∧ (∀ w ∈ lw_tbl, w.before #[Value.ref b] s = true) ∧ va_X b L xs s s.heap ∧ b < s.heap.size ∧ meth.locks = false ∧ (Jvm.Cond.and given_1 narrow_1).before #[Value.ref b] s = true
abbrev UB : Type := (SA × SV × SA × SV) × (Nat × Nat × Nat × Nat × Nat × Int32 × Int32) × ROWS × ROWS
def wB (xa : Nat) (ad ad2 : Nat → Nat) (cI cZ cII : ClassId) (u : UB) : va_W := (wD xa ad ad2 cI cZ u.1.1 u.1.2.1 u.1.2.2.1 u.1.2.2.2 ++ []) ++ simW cI cII u.2.1.1 u.2.1.2.1 u.2.1.2.2.1 u.2.1.2.2.2.1 u.2.1.2.2.2.2.1 u.2.1.2.2.2.2.2.1 u.2.1.2.2.2.2.2.2 u.2.2.1 u.2.2.2
theorem kB_9 : Cond.classLink RL 9 RX7 ∈ wsL_build := by decide +kernel
theorem kB_i : Cond.instantiable RX7 7 ∈ wsL_build := by decide +kernel
theorem kB_n : Cond.initialized RX7 ∈ wsL_build := by decide +kernel
theorem kB_m : Cond.instanceMethod yX7_init ∈ wsL_build := by decide +kernel
set_option maxHeartbeats 4000000 in
set_option maxRecDepth 100000 in
theorem metL_build (l : Launch) (D : va_G) (cI cZ cII : ClassId) (xa : Nat) (ad ad2 : Nat → Nat) (sz b sl : Nat) (xs : Nat → Int32) (hsl : sl ≤ 260) (A : SA) (V : SV) (A2 : SA) (V2 : SV) (Q : SA → SV → SA → SV → Nat → (Nat → Int32) → Nat → (Nat → Int32) → Prop) (h : wb_L_build_8 (clI sl xs) Q 5 A V A2 V2 0 (fun _ => 0) 0 (fun _ => 0)) : Met l yL_build wsL_build rmL_build (PcG (FF b sl xs) D [(cI, .int), (cZ, .boolean), (cII, .array .int)] (wD xa ad ad2 cI cZ A V A2 V2) sz [.ref xa, .ref b]) (QrW D [(cI, .int), (cZ, .boolean), (cII, .array .int)] (wD xa ad ad2 cI cZ A V A2 V2) sz (wB xa ad ad2 cI cZ cII) (fun u : UB => u.2.1.1) (fun u => ∃ nB hB nD hD, RW nB hB u.2.2.1 ∧ RW nD hD u.2.2.2 ∧ Q u.1.1 u.1.2.1 u.1.2.2.1 u.1.2.2.2 nB hB nD hD)) rmL_build.cells rmL_build.slots (va_A (wD xa ad ad2 cI cZ A V A2 V2) sz) := by
  refine startGR (ty := .object "DrownedPostLaw$Sim") (Or.inl ⟨_, rfl⟩) (plainFor_of_name (by decide)) rfl (Nat.le_of_ble_eq_true rfl) ?_
  intro p e s m args below meth c A0 Z cx hw hFF hret ls hl
  obtain ⟨hx, hb, hml, hown, hts, hK, hA⟩ := id cx
  have hl : lv_has ls 8 [(0, .ref xa), (1, .ref b)] := hl
  refine newO (pc := 0) (c1 := 1) (s1 := 7) (T := TX7) (N := 7) (C := RX7) (ci := 6) (fs := [.int 0, .null, .null, .null, .null, .int 0, .int 0]) cx inL_build_X7 tyX7 tyX7_ok kB_9 kB_i kB_n hw rfl (by decide) (Nat.le_of_ble_eq_true rfl) (Nat.le_of_ble_eq_true rfl) rfl rfl dL_build_0 (fun sa H hw => ?_)
  refine lv_dup (pc := 3) hx hb dL_build_3 rfl ?_
  refine callGN (pc := 4) (rest := [.ref sa]) (c1 := 1 + rmX7_init.cells) (s1 := 7 + rmX7_init.slots) cx hw hl FA.ok hFF.2.1 (metX7_init l D cI cII sa H.size) (fun hts => ⟨va_cnB (host := "DrownedPostLaw") 0 hts gL_build_X7_init_n11 rfl rfl rfl hFF.2.2 (hts _ kB_n) (by decide +kernel) ⟨Nat.le_of_ble_eq_true rfl, Nat.le_of_ble_eq_true rfl⟩, rfl, hts _ kB_m⟩) SUB.right [0, 2] rfl JN.right rfl (Nat.le_of_ble_eq_true rfl) ⟨Nat.le_of_ble_eq_true rfl, Nat.le_of_ble_eq_true rfl⟩ rfl rfl dL_build_4 (fun u H locs _ hw => ?_)
  obtain ⟨ta, ba, da, la⟩ := u
  have hw : WS D s A0 ((wD xa ad ad2 cI cZ A V A2 V2 ++ []) ++ simW cI cII sa ta ba da la 2 3 [] []) H locs := WS.eqw hw (by rw [List.append_nil])
  refine lv_astore_n (pc := 7) (lv' := [(2, .ref sa), (0, .ref xa), (1, .ref b)]) hx hb dL_build_7 rfl hl (by decide) rfl (fun ls hl => ?_)
  refine W.widen (k := 5) (n := 150 * 5) (Nat.le_of_ble_eq_true rfl) (Nat.le_of_ble_eq_true rfl) ?_
  refine wk_L_build_8 (Q := Q) cx hFF hsl ?_ 5 A V A2 V2 0 (fun _ => 0) 0 (fun _ => 0) h (Nat.le_of_ble_eq_true rfl) ta ba da la 2 3 [] [] ⟨rfl, fun i q hq => by simp at hq⟩ ⟨rfl, fun i q hq => by simp at hq⟩ _ _ _ hw (lv_sub hl [1, 2, 0] rfl)
  intro pc ls k0 A V A2 V2 nB hB nD hD ta ba da la sc so LB LD hB9 hD9 H locs hd hq hk hw
  refine W.widen (k := 60) (n := 9000) hk (Nat.mul_le_mul_left 150 hk) ?_
  exact hret pc ls ((A, V, A2, V2), (sa, ta, ba, da, la, sc, so), LB, LD) H locs hd ⟨nB, hB, nD, hD, hB9, hD9, hq⟩ hw
abbrev lw_flat : List Cond := flatC (Jvm.Cond.and given_1 narrow_1)
theorem nestw_in : ∀ w ∈ NESTW, w ∈ lw_tbl := by decide +kernel
theorem nestl_in : nestL ∈ lw_tbl := by decide +kernel
theorem ao2_in : Cond.arrayOver (.array .int) ∈ lw_tbl := by decide +kernel
theorem aol_in : Cond.arrayOver (.object RX6) ∈ lw_tbl := by decide +kernel
theorem ft_arr : Cond.arrayOf (.static "DrownedPost" "FIRST_TIDES" "[I") .int ∈ lw_flat := by decide +kernel
theorem ft_len : Cond.eq (.length (.static "DrownedPost" "FIRST_TIDES" "[I")) (.int 12) ∈ lw_flat := by decide +kernel
theorem ft_el : ∀ j : Nat, j < 12 → Cond.eq (.elem (.static "DrownedPost" "FIRST_TIDES" "[I") (.int (Int32.ofNat j))) (.int (ftI j)) ∈ lw_flat := by decide +kernel
theorem kL_23 : Cond.classLink RL 23 RX5 ∈ wsL_law := by decide +kernel
theorem kL_i5 : Cond.instantiable RX5 2 ∈ wsL_law := by decide +kernel
theorem kL_n5 : Cond.initialized RX5 ∈ wsL_law := by decide +kernel
theorem kL_63 : Cond.methodLink RL 63 yX5_init ∈ wsL_law := by decide +kernel
theorem kL_m5 : Cond.instanceMethod yX5_init ∈ wsL_law := by decide +kernel
set_option maxHeartbeats 4000000 in
set_option maxRecDepth 100000 in
/-- the law, from its entry, out of the pure part -/
theorem whole_start_open (hpure : ∀ cl : Int32 → Int32, wb_L_build_8 cl (fun A V A2 V2 nB hB nD hD => wb_L_law_20 cl nB nD hB hD 1000 A V A2 V2 (fun _ _ => 0)) 5 A0o V0o A0o V0o 0 (fun _ => 0) 0 (fun _ => 0))
    {p : Program} {e : Env} {s : State} {m : MethodId} {below : List Frame} {meth : Method} {c : Code} (l : Launch) {b L : Nat} {xs : Nat → Int32} (hL : L ≤ 260) (C0 : lw_At p s m meth c b L xs) : W p l e room_1 s m #[Value.ref b] below meth c s.heap [] 0 0 (lw_Z below #[Value.ref b] s) (entryFrame m ([Value.ref b] : List Value).toArray 21) := by
  obtain ⟨hx, hb, hr, hml, hown, hts, hX, hbl, hlocks, hgv⟩ := id C0
  have hg := flat_of_before _ hgv
  have hnA : ∀ a : Nat, a < s.heap.size → ¬ (fun q : Nat => s.heap.size ≤ q) a := fun a h => Nat.not_le.mpr h
  have hA : ∀ q : Nat, s.heap.size ≤ q → (fun q : Nat => s.heap.size ≤ q) q := fun _ h => h
  have htsL : ∀ w ∈ wsL_law, w.before #[Value.ref b] s = true := fun w h => hts w (wsL_law_in w h)
  obtain ⟨c0, i0, hKn0⟩ := u_known (C := RX0) (T := TX0) (N := 4) (n := 4) hts inX0 (hts (.instantiable RX0 4) (by decide +kernel))
  obtain ⟨c1, i1, hKn1⟩ := u_known (C := RX1) (T := TX1) (N := 6) (n := 6) hts inX1 (hts (.instantiable RX1 6) (by decide +kernel))
  obtain ⟨c2, i2, hKn2⟩ := u_known (C := RX2) (T := TX2) (N := 10) (n := 10) hts inX2 (hts (.instantiable RX2 10) (by decide +kernel))
  obtain ⟨c3, i3, hKn3⟩ := u_known (C := RX3) (T := TX3) (N := 10) (n := 10) hts inX3 (hts (.instantiable RX3 10) (by decide +kernel))
  obtain ⟨c4, i4, hKn4⟩ := u_known (C := RX4) (T := TX4) (N := 2) (n := 2) hts inX4 (hts (.instantiable RX4 2) (by decide +kernel))
  obtain ⟨c5, i5, hKn5⟩ := u_known (C := RX5) (T := TX5) (N := 2) (n := 2) hts inX5 (hts (.instantiable RX5 2) (by decide +kernel))
  obtain ⟨c6, i6, hKn6⟩ := u_known (C := RX7) (T := TX7) (N := 7) (n := 7) hts inX7 (hts (.instantiable RX7 7) (by decide +kernel))
  obtain ⟨dC, dI, hKc⟩ : ∃ (dC : Nat → ClassId) (dI : Nat → Nat → Nat), ∀ (k : Nat) (q : vw_C), vwCl[k]? = some q → u_Kn s q.1 q.2.1 q.2.2 (dC k) (dI k) := by
    refine ⟨fun k => if k = 0 then c0 else if k = 1 then c1 else if k = 2 then c2 else if k = 3 then c3 else if k = 4 then c4 else if k = 5 then c5 else c6, fun k => if k = 0 then i0 else if k = 1 then i1 else if k = 2 then i2 else if k = 3 then i3 else if k = 4 then i4 else if k = 5 then i5 else i6, ?_⟩
    intro k q hq
    match k, hq with
    | 0, hq => cases hq; exact hKn0
    | 1, hq => cases hq; exact hKn1
    | 2, hq => cases hq; exact hKn2
    | 3, hq => cases hq; exact hKn3
    | 4, hq => cases hq; exact hKn4
    | 5, hq => cases hq; exact hKn5
    | 6, hq => cases hq; exact hKn6
    | k + 7, hq => simp [vwCl] at hq
  obtain ⟨cI, kI, mI, aI1, aI2, aI3⟩ := Cond.arrayClass_spec (type := .int) (hts (.arrayClass .int) (by decide +kernel))
  obtain ⟨cZ, kZ, mZ, aZ1, aZ2, aZ3⟩ := Cond.arrayClass_spec (type := .boolean) (hts (.arrayClass .boolean) (by decide +kernel))
  have hao : AO2 s := hts _ ao2_in
  obtain ⟨comp, cII, kII, n1, -, n2, n3, n4⟩ := arrayOverA_spec hao
  have hK : va_K (dC, dI) vwCl [(cI, .int), (cZ, .boolean), (cII, .array .int)] s := ⟨hKc, fun k q h => by
    match k, h with
    | 0, h => cases h; exact ⟨fun n z => ⟨fun k h => (by cases h), kI, aI2, mI, aI3⟩, aI1⟩
    | 1, h => cases h; exact ⟨fun n z => ⟨fun k h => (by cases h), kZ, aZ2, mZ, aZ3⟩, aZ1⟩
    | 2, h => cases h; exact ⟨fun n z => ⟨fun k h => (by cases h), kII, n2, comp, n3⟩, n4⟩
    | k + 3, h => simp at h⟩
  have hFF : FF b L xs (fun q : Nat => s.heap.size ≤ q) s := ⟨⟨hX, Nat.not_le.mpr hbl, hbl⟩, ⟨hao, va_AO.of (hts _ aol_in)⟩, va_Nw.of (by decide +kernel) (hts _ nestl_in)⟩
  have hFT : FT (fun q : Nat => s.heap.size ≤ q) s := ⟨fun w hw => va_Nw.of (nestw_tab w hw) (hts w (nestw_in w hw)), by
    obtain ⟨t, ht, hT⟩ := va_Tof (tm := .static "DrownedPost" "FIRST_TIDES" "[I") (ty := .int) (N := 12) (f := fun j => .int (ftI j)) (A := fun q : Nat => s.heap.size ≤ q) (by decide) (hg _ ft_arr) (va_eqt (hg _ ft_len)) (fun j hj => va_eqt (hg _ (ft_el j hj))) hnA
    exact ⟨t, va_Zof (hts (.laysStatic "DrownedPost" "FIRST_TIDES" "[I") (by decide +kernel)) (hts (.initialized RX5) (by decide +kernel)) ht hnA, hT⟩⟩
  have cx : CX RL cL_law 21 wsL_law (dC, dI) [(cI, .int), (cZ, .boolean), (cII, .array .int)] p s m #[Value.ref b] c (fun q : Nat => s.heap.size ≤ q) := ⟨hx, hb, hml, hown, htsL, hK, hA⟩
  have hl := lv_entry ([.ref b]) (n := 21) (Nat.le_of_ble_eq_true rfl)
  rw [lg_entry_eq]
  generalize (lg_sl ([.ref b]) ++ List.replicate (21 - (lg_sl ([.ref b])).length) Slot.unset).toArray = ls at hl ⊢
  have hl : lv_has ls 21 [(0, .ref b)] := hl
  have hw : WS (dC, dI) s (fun q : Nat => s.heap.size ≤ q) [] s.heap [] := ⟨fun k q h => by simp at h, ⟨fun i j p q h => by simp at h, fun k q h => by simp at h⟩, va_S.rf⟩
  refine newO (pc := 0) (c1 := 1) (s1 := 2) (T := TX5) (N := 2) (C := RX5) (ci := 5) (fs := [.null, .null]) cx inlX5 tyX5 tyX5_ok kL_23 kL_i5 kL_n5 hw rfl (by decide) (Nat.le_of_ble_eq_true rfl) (Nat.le_of_ble_eq_true rfl) rfl rfl dL_law_0 (fun xa H hw => ?_)
  have hw : WS (dC, dI) s (fun q : Nat => s.heap.size ≤ q) [(xa, .inr (5, [.null, .null]))] _ _ := hw
  refine lv_dup (pc := 3) hx hb dL_law_3 rfl ?_
  refine callIp (pc := 4) (rest := [.ref xa]) (wsU := fun u : (Nat → Nat) × (Nat → Nat) => wD xa u.1 u.2 cI cZ A0o V0o A0o V0o) (c1 := 1 + rmX5_init.cells) (s1 := 2 + rmX5_init.slots) cx hw hl hFT (metX5_init l (dC, dI) cI cZ xa H.size) (fun hts => cwI 0 hts gL_law_X5_init rfl rfl rfl (hts _ kL_n5) (hts _ kL_63) (hts _ kL_m5) rfl (by decide +kernel) ⟨Nat.le_of_ble_eq_true rfl, Nat.le_of_ble_eq_true rfl⟩) SUB.rf [0, 1] rfl JN.rf rfl (Nat.le_of_ble_eq_true rfl) ⟨Nat.le_of_ble_eq_true rfl, Nat.le_of_ble_eq_true rfl⟩ rfl rfl dL_law_4 (fun u H locs _ hw => ?_)
  obtain ⟨ad, ad2⟩ := u
  have hw : WS (dC, dI) s (fun q : Nat => s.heap.size ≤ q) (wD xa ad ad2 cI cZ A0o V0o A0o V0o) _ _ := hw
  refine lv_astore_n (pc := 7) (lv' := [(1, .ref xa), (0, .ref b)]) hx hb dL_law_7 rfl hl (by decide) rfl (fun ls hl => ?_)
  refine lv_aload_n (pc := 8) hx hb dL_law_8 rfl (lv_at hl 0 rfl) ?_
  refine lv_aload_n (pc := 9) hx hb dL_law_9 rfl (lv_at hl 1 rfl) ?_
  refine callGr (pc := 10) (rest := []) (c1 := 1 + rmX5_init.cells + rmL_build.cells) (s1 := 2 + rmX5_init.slots + rmL_build.slots) cx hw hl FF.ok hFF (metL_build l (dC, dI) cI cZ cII xa ad ad2 H.size b L xs hL A0o V0o A0o V0o _ (hpure (clI L xs))) (fun hts => va_cwS 2 hts gL_law_L_build rfl rfl rfl (by decide +kernel) ⟨Nat.le_of_ble_eq_true rfl, Nat.le_of_ble_eq_true rfl⟩) SUB.rf [0, 1, 2] rfl JN.rf rfl rfl (Nat.le_of_ble_eq_true rfl) ⟨Nat.le_of_ble_eq_true rfl, Nat.le_of_ble_eq_true rfl⟩ rfl rfl dL_law_10 (fun u H locs hu hw => ?_)
  obtain ⟨⟨A, V, A2, V2⟩, ⟨sa, ta, ba, da, la, sc, so⟩, LB, LD⟩ := u
  obtain ⟨nB, hB, nD, hD, hB9, hD9, hq⟩ := hu
  have hw : WS (dC, dI) s (fun q : Nat => s.heap.size ≤ q) ((wD xa ad ad2 cI cZ A V A2 V2 ++ []) ++ simW cI cII sa ta ba da la sc so LB LD) _ _ := hw
  refine lv_astore_n (pc := 13) (lv' := [(2, .ref sa), (1, .ref xa), (0, .ref b)]) hx hb dL_law_13 rfl hl (by decide) rfl (fun ls hl => ?_)
  refine lv_aload_n (pc := 14) hx hb dL_law_14 rfl (lv_at hl 0 rfl) ?_
  refine lv_ifnonnull (pc := 15) (tgt := 20) hx hb dL_law_15 (by decide) ?_
  refine W.widen (k := 1000) (n := 150 * 1000) (Nat.le_of_ble_eq_true rfl) (Nat.le_of_ble_eq_true rfl) ?_
  refine wk_L_law_20 cx hFF.1 hL ?_ hB9 hD9 1000 A V A2 V2 (fun _ _ => 0) hq (Nat.le_of_ble_eq_true rfl) _ _ _ hw (lv_sub hl [2, 1, 0] rfl)
  intro ls ws H locs k0 hk hw
  refine va_forget (s := s) (fun q hq => hw.2.2.2.2 q hq) ?_
  refine W.widen (k := 600130) (n := 7301080) (Nat.le_trans hk (Nat.le_of_ble_eq_true rfl)) (Nat.le_trans (Nat.mul_le_mul_left 150 hk) (Nat.le_of_ble_eq_true rfl)) ?_
  exact lw_ret hx hb hr hlocks dL_law_1047
