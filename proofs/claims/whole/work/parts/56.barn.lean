theorem startD {S : Type} {l : Launch} {y : MethodName} {wsY ws' : List Cond} {rm : Room} {D : va_G} {tys : TYS} {ws : va_W} {sz : Nat} {av : List Value} {wsU : S → va_W} {cc : ByteArray} {maxL : Nat} {post : UInt64 → S → Prop} (hy : plainName y.cls = true) (hw : wsY = Cond.code y cc maxL (some .double) :: ws') (hav : (lg_sl av).length ≤ maxL)
    (body : ∀ (p : Program) (e : Env) (s : State) (m : MethodId) (args : Array Value) (below : List Frame) (meth : Method) (c : Code) (A0 : Nat → Prop) (Z : State → Prop), CX y.cls cc maxL wsY D tys p s m args c A0 → WS D s A0 ws s.heap [] →
      (∀ (pc : Nat) (ls : Array Slot) (r : UInt64) (u : S) (H : Heap) (locs : List Loc), decode cc pc = .ok (.dreturn, 1) → post r u → WS D s A0 (wsU u) H locs → W p l e rm s m args below meth c H locs rm.cells rm.slots Z (F0 m pc ls [.double r])) →
      (∀ (pc : Nat) (ls : Array Slot) (x y : UInt64) (u : S) (H : Heap) (locs : List Loc), decode cc pc = .ok (.ddiv, 1) → decode cc (pc + 1) = .ok (.dreturn, 1) → (∀ r : UInt64, alike64 r (FP.ddiv x y) = true → post r u) → WS D s A0 (wsU u) H locs → W p l e rm s m args below meth c H locs rm.cells rm.slots Z (F0 m pc ls [.double y, .double x])) →
      ∀ ls : Array Slot, lv_has ls maxL (lv_args 0 av) → W p l e rm s m args below meth c s.heap [] 0 0 Z (F0 m 0 ls [])) :
    MetD lw_cs l y wsY rm (PcW D tys ws sz av) (va_Qd post (BpW D tys ws sz wsU) (va_A ws sz)) rm.cells rm.slots (va_A ws sz) := by
  refine MetD.ofW (cc := cc) (maxL := maxL) (ret := some .double) hy hw ?_
  intro p e s m args below meth c s₁ B hml hv hd0
  obtain ⟨rfl, hsz, hP, hK, hD0⟩ := hv
  have hts := atoms_spec (ws := wsY) B.pre
  have hown := findClass_of_methodNamed B.named
  subst hsz
  have hlocks := B.notSynchronized
  have hD := hD0.self (sz := s.heap.size)
  have hl := lv_entry av (n := maxL) hav
  rw [lg_entry_eq]
  refine body p e (s.setDrawn s.drawn) m _ below meth c (va_A ws s.heap.size) _ ⟨B.exec, B.bytes, hml, hown, dr_words hts _, hK, fun q h => Or.inr h⟩ ⟨hP, hD, va_S.rf⟩ ?_ ?_ _ hl
  · intro pc ls r u H locs hd hpost hws
    refine W.endD hd0 ?_
    exact W.dret B.exec B.bytes B.returns (fun t ht hW => ⟨⟨r, u, rfl, hpost, by rw [ht]; exact hws.1, va_K.moved hW.alike hK, hws.2.1⟩, hws.2.2.F ht⟩) hws.2.2.2.2 hd
  · intro pc ls x y u H locs hd hd2 hpost hws
    refine lv_ddiv_any hd0 lw_bits B.exec B.bytes hd (fun r d1 hal hd1 => ?_)
    refine W.endD hd1 ?_
    exact W.dret B.exec B.bytes B.returns (fun t ht hW => ⟨⟨r, u, rfl, hpost r hal, by rw [ht]; exact hws.1, va_K.moved hW.alike hK, hws.2.1⟩, hws.2.2.F ht⟩) hws.2.2.2.2 hd2
section GENV
variable {p : Program} {l : Launch} {e : Env} {s : State} {m : MethodId} {args : Array Value} {below : List Frame} {meth : Method} {c : Code} {A0 : Nat → Prop} {Z : State → Prop} {D : va_G} {cI cZ : ClassId} {ad : Nat → Nat} {tys : TYS} {xa : Nat} {ad2 : Nat → Nat}
abbrev rmX5_barnacles : Room := { frames := 1, cells := 0, slots := 0, locals := 23 }
theorem inX5_barnacles_X3 : ∀ w ∈ wsX30, w ∈ wsX5_barnacles := by decide +kernel
theorem inX5_barnacles_X5 : ∀ w ∈ wsX50, w ∈ wsX5_barnacles := by decide +kernel
theorem kX5_barnacles_10 : Cond.fieldLink RX5 10 "DrownedPost" "now" "LDrownedPost$Office;" ∈ wsX5_barnacles := by decide +kernel
theorem kX5_barnacles_105 : Cond.fieldLink RX5 105 "DrownedPost$Office" "letters" "LDrownedPost$Letters;" ∈ wsX5_barnacles := by decide +kernel
def wb_X5_barnacles_0 (Q : UInt64 → SA → SV → SA → SV → Prop) (A : SA) (V : SV) (A2 : SA) (V2 : SV) : Prop := (wpX2_inState A V (1 : Int32) (fun r1 A_2 V_3 => (((1 : Int32) ≤ r1 → (wpX2_growthInBins A_2 V_3 (fun r5 A_6 V_7 => (∀ r : UInt64, alike64 r (FP.ddiv (FP.i2d r5) (FP.i2d r1)) = true → Q r A_6 V_7 A2 V2)))) ∧ (¬ ((1 : Int32) ≤ r1) → Q FP.dconst0 A_2 V_3 A2 V2))))
set_option maxHeartbeats 4000000 in
set_option maxRecDepth 100000 in
theorem wk_X5_barnacles_0 (Q : UInt64 → SA → SV → SA → SV → Prop) (cx : CX RX5 cX5_barnacles 2 wsX5_barnacles D [(cI, .int), (cZ, .boolean)] p s m args c A0) (hret : ∀ (pc : Nat) (ls : Array Slot) (r : UInt64) (u : SA × SV × SA × SV) (H : Heap) (locs : List Loc), decode cX5_barnacles pc = .ok (.dreturn, 1) → Q r u.1 u.2.1 u.2.2.1 u.2.2.2 → WS D s A0 (wD xa ad ad2 cI cZ u.1 u.2.1 u.2.2.1 u.2.2.2) H locs → W p l e rmX5_barnacles s m args below meth c H locs rmX5_barnacles.cells rmX5_barnacles.slots Z (F0 m pc ls [.double r])) (hretD : ∀ (pc : Nat) (ls : Array Slot) (x y : UInt64) (u : SA × SV × SA × SV) (H : Heap) (locs : List Loc), decode cX5_barnacles pc = .ok (.ddiv, 1) → decode cX5_barnacles (pc + 1) = .ok (.dreturn, 1) → (∀ r : UInt64, alike64 r (FP.ddiv x y) = true → Q r u.1 u.2.1 u.2.2.1 u.2.2.2) → WS D s A0 (wD xa ad ad2 cI cZ u.1 u.2.1 u.2.2.1 u.2.2.2) H locs → W p l e rmX5_barnacles s m args below meth c H locs rmX5_barnacles.cells rmX5_barnacles.slots Z (F0 m pc ls [.double y, .double x]))  : ∀ (A : SA) (V : SV) (A2 : SA) (V2 : SV) (h : wb_X5_barnacles_0 Q A V A2 V2) (H : Heap) (locs : List Loc) (ls : Array Slot) (hw : WS D s A0 (wD xa ad ad2 cI cZ A V A2 V2) H locs) (hl : lv_has ls 2 [(0, .ref xa)]), W p l e rmX5_barnacles s m args below meth c H locs 0 0 Z (F0 m 0 ls []) := by
  obtain ⟨hx, hb, hml, hown, hts, hK, hA⟩ := id cx
  intro A V A2 V2 h H locs ls hw hl
  refine lv_aload_n (pc := 0) hx hb dX5_barnacles_0 rfl (lv_at hl 0 rfl) ?_
  refine geDX_0 (pc := 1) cx inX5_barnacles_X5 kX5_barnacles_10 hw dX5_barnacles_1 ?_
  refine geD0_X3_3 (pc := 4) cx inX5_barnacles_X3 kX5_barnacles_105 hw dX5_barnacles_4 ?_
  refine lv_iconst (pc := 7) (v := (1 : Int32)) hx hb dX5_barnacles_7 (by decide) ?_
  refine callVi (pc := 8) (rest := []) (c1 := 0) (s1 := 0) cx hw hl (metX2_inState l D cI cZ ad H.size A V (1 : Int32) _ h) (fun hts => cwV 1 hts gX5_barnacles_X2_inState rfl rfl rfl (by decide +kernel) ⟨Nat.le_of_ble_eq_true rfl, Nat.le_of_ble_eq_true rfl⟩) subD0 [0, 1] rfl 4 (ci := 2) rfl rfl rfl (jnD0) rfl rfl (Nat.le_of_ble_eq_true rfl) ⟨Nat.le_of_ble_eq_true rfl, Nat.le_of_ble_eq_true rfl⟩ rfl rfl dX5_barnacles_8 (fun r1 u H locs h hw => ?_)
  obtain ⟨A_2, V_3⟩ := u
  refine lv_istore_n (pc := 11) (lv' := [(1, .int r1), (0, .ref xa)]) hx hb dX5_barnacles_11 rfl hl (by decide) rfl (fun ls hl => ?_)
  refine lv_iload_n (pc := 12) hx hb dX5_barnacles_12 rfl (lv_at hl 0 rfl) ?_
  refine lv_iconst (pc := 13) (v := (1 : Int32)) hx hb dX5_barnacles_13 (by decide) ?_
  refine lv_icmp_ge (pc := 14) (tgt := 19) hx hb dX5_barnacles_14 (by decide) (fun c4 => ?_) (fun c4 => ?_)
  · have h := h.1 c4
    refine lv_aload_n (pc := 19) hx hb dX5_barnacles_19 rfl (lv_at hl 1 rfl) ?_
    refine geDX_0 (pc := 20) cx inX5_barnacles_X5 kX5_barnacles_10 hw dX5_barnacles_20 ?_
    refine geD0_X3_3 (pc := 23) cx inX5_barnacles_X3 kX5_barnacles_105 hw dX5_barnacles_23 ?_
    refine callVi (pc := 26) (rest := []) (c1 := 0) (s1 := 0) cx hw hl (metX2_growthInBins l D cI cZ ad H.size A_2 V_3 _ h) (fun hts => cwV 0 hts gX5_barnacles_X2_growthInBins rfl rfl rfl (by decide +kernel) ⟨Nat.le_of_ble_eq_true rfl, Nat.le_of_ble_eq_true rfl⟩) subD0 [0, 1] rfl 4 (ci := 2) rfl rfl rfl (jnD0) rfl rfl (Nat.le_of_ble_eq_true rfl) ⟨Nat.le_of_ble_eq_true rfl, Nat.le_of_ble_eq_true rfl⟩ rfl rfl dX5_barnacles_26 (fun r5 u H locs h hw => ?_)
    obtain ⟨A_6, V_7⟩ := u
    refine lv_i2d (pc := 29) hx hb dX5_barnacles_29 ?_
    refine lv_iload_n (pc := 30) hx hb dX5_barnacles_30 rfl (lv_at hl 0 rfl) ?_
    refine lv_i2d (pc := 31) hx hb dX5_barnacles_31 ?_
    exact hretD 32 _ _ _ (A_6, V_7, A2, V2) _ _ dX5_barnacles_32 dX5_barnacles_33 h hw
  · have h := h.2 c4
    refine lv_dconst0 (pc := 17) hx hb dX5_barnacles_17 ?_
    exact hret 18 _ _ (A_2, V_3, A2, V2) _ _ dX5_barnacles_18 h hw
def wpX5_barnacles (A : SA) (V : SV) (A2 : SA) (V2 : SV)  (Q : UInt64 → SA → SV → SA → SV → Prop) : Prop := wb_X5_barnacles_0 Q A V A2 V2
set_option maxHeartbeats 4000000 in
set_option maxRecDepth 100000 in
theorem metX5_barnacles (l : Launch) (D : va_G) (cI cZ : ClassId) (xa : Nat) (ad ad2 : Nat → Nat) (sz : Nat) (A : SA) (V : SV) (A2 : SA) (V2 : SV)  (Q : UInt64 → SA → SV → SA → SV → Prop) (h : wpX5_barnacles A V A2 V2  Q) : MetD lw_cs l yX5_barnacles wsX5_barnacles rmX5_barnacles (PcW D [(cI, .int), (cZ, .boolean)] (wD xa ad ad2 cI cZ A V A2 V2) sz [.ref xa]) (va_Qd (fun r u => Q r u.1 u.2.1 u.2.2.1 u.2.2.2) (BpW D [(cI, .int), (cZ, .boolean)] (wD xa ad ad2 cI cZ A V A2 V2) sz (fun u : SA × SV × SA × SV => (wD xa ad ad2 cI cZ u.1 u.2.1 u.2.2.1 u.2.2.2))) (va_A (wD xa ad ad2 cI cZ A V A2 V2) sz)) rmX5_barnacles.cells rmX5_barnacles.slots (va_A (wD xa ad ad2 cI cZ A V A2 V2) sz) := by
  refine startD (by decide) rfl (Nat.le_of_ble_eq_true rfl) ?_
  intro p e s m args below meth c A0 Z cx hw hret hretD ls hl
  exact wk_X5_barnacles_0 Q cx hret hretD A V A2 V2 h _ _ _ hw hl
abbrev rmX6_barnacles : Room := { frames := 3, cells := 0, slots := 0, locals := 68 }
theorem inX6_barnacles_X6 : ∀ w ∈ wsX60, w ∈ wsX6_barnacles := by decide +kernel
theorem kX6_barnacles_42 : Cond.fieldLink RX6 42 "DrownedPostModel" "thrown" "I" ∈ wsX6_barnacles := by decide +kernel
theorem kX6_barnacles_64 : Cond.fieldLink RX6 64 "DrownedPostModel" "bins" "I" ∈ wsX6_barnacles := by decide +kernel
def wl_X6_barnacles_9 (Q : UInt64 → SA → SV → Prop) : Nat → SA → SV → Int32 → Int32 → Prop
  | 0, _, _, _, _ => False
  | n + 1, A, V, x1, x2 => (((V 3) ≤ x2 → (wpX6_many A V (1 : Int32) (fun r3 A_6 V_7 => ((¬ r3 = 0 → (∀ r : UInt64, alike64 r (FP.ddiv (FP.i2d x1) (FP.i2d r3)) = true → Q r A_6 V_7)) ∧ (r3 = 0 → Q FP.dconst0 A_6 V_7))))) ∧ (¬ ((V 3) ≤ x2) → (wpX6_sumOf A V x2 (0 : Int32) (fun r9 A_12 V_13 => wl_X6_barnacles_9 Q n A_12 V_13 (x1 + r9) (x2 + 1)))))
set_option maxHeartbeats 4000000 in
set_option maxRecDepth 100000 in
theorem wk_X6_barnacles_9 (Q : UInt64 → SA → SV → Prop) (cx : CX RX6 cX6_barnacles 3 wsX6_barnacles D [(cI, .int), (cZ, .boolean)] p s m args c A0) (hret : ∀ (pc : Nat) (ls : Array Slot) (r : UInt64) (u : SA × SV) (H : Heap) (locs : List Loc), decode cX6_barnacles pc = .ok (.dreturn, 1) → Q r u.1 u.2 → WS D s A0 (wM ad cI cZ u.1 u.2) H locs → W p l e rmX6_barnacles s m args below meth c H locs rmX6_barnacles.cells rmX6_barnacles.slots Z (F0 m pc ls [.double r])) (hretD : ∀ (pc : Nat) (ls : Array Slot) (x y : UInt64) (u : SA × SV) (H : Heap) (locs : List Loc), decode cX6_barnacles pc = .ok (.ddiv, 1) → decode cX6_barnacles (pc + 1) = .ok (.dreturn, 1) → (∀ r : UInt64, alike64 r (FP.ddiv x y) = true → Q r u.1 u.2) → WS D s A0 (wM ad cI cZ u.1 u.2) H locs → W p l e rmX6_barnacles s m args below meth c H locs rmX6_barnacles.cells rmX6_barnacles.slots Z (F0 m pc ls [.double y, .double x]))  : ∀ (n : Nat) (A : SA) (V : SV) (x1 : Int32) (x2 : Int32) (h : wl_X6_barnacles_9 Q n A V x1 x2) (H : Heap) (locs : List Loc) (ls : Array Slot) (hw : WS D s A0 (wM ad cI cZ A V) H locs) (hl : lv_has ls 3 [(0, .ref (ad 0)), (1, .int x1), (2, .int x2)]), W p l e rmX6_barnacles s m args below meth c H locs 0 0 Z (F0 m 9 ls []) := by
  obtain ⟨hx, hb, hml, hown, hts, hK, hA⟩ := id cx
  intro n
  induction n with
  | zero => intro A V x1 x2 h; exact False.elim h
  | succ n ih =>
    intro A V x1 x2 h H locs ls hw hl
    refine lv_iload_n (pc := 9) hx hb dX6_barnacles_9 rfl (lv_at hl 2 rfl) ?_
    refine lv_aload_n (pc := 10) hx hb dX6_barnacles_10 rfl (lv_at hl 0 rfl) ?_
    refine geM_X6_4 (pc := 11) cx inX6_barnacles_X6 kX6_barnacles_64 hw dX6_barnacles_11 ?_
    refine lv_icmp_ge (pc := 14) (tgt := 32) hx hb dX6_barnacles_14 (by decide) (fun c2 => ?_) (fun c2 => ?_)
    · have h := h.1 c2
      refine lv_aload_n (pc := 32) hx hb dX6_barnacles_32 rfl (lv_at hl 0 rfl) ?_
      refine lv_iconst (pc := 33) (v := (1 : Int32)) hx hb dX6_barnacles_33 (by decide) ?_
      refine callVi (pc := 34) (rest := []) (c1 := 0) (s1 := 0) cx hw hl (metX6_many l D cI cZ ad H.size A V (1 : Int32) _ h) (fun hts => cwV 1 hts gX6_barnacles_X6_many rfl rfl rfl (by decide +kernel) ⟨Nat.le_of_ble_eq_true rfl, Nat.le_of_ble_eq_true rfl⟩) SUB.rf [0, 1] rfl 0 (ci := 6) rfl rfl rfl (JN.rf) rfl rfl (Nat.le_of_ble_eq_true rfl) ⟨Nat.le_of_ble_eq_true rfl, Nat.le_of_ble_eq_true rfl⟩ rfl rfl dX6_barnacles_34 (fun r3 u H locs h hw => ?_)
      obtain ⟨A_6, V_7⟩ := u
      refine lv_istore_n (pc := 37) (lv' := [(2, .int r3), (0, .ref (ad 0)), (1, .int x1)]) hx hb dX6_barnacles_37 rfl hl (by decide) rfl (fun ls hl => ?_)
      refine lv_iload_n (pc := 38) hx hb dX6_barnacles_38 rfl (lv_at hl 0 rfl) ?_
      refine lv_if_ne (pc := 39) (tgt := 46) hx hb dX6_barnacles_39 (by decide) (fun c8 => ?_) (fun c8 => ?_)
      · have h := h.1 c8
        refine lv_iload_n (pc := 46) hx hb dX6_barnacles_46 rfl (lv_at hl 2 rfl) ?_
        refine lv_i2d (pc := 47) hx hb dX6_barnacles_47 ?_
        refine lv_iload_n (pc := 48) hx hb dX6_barnacles_48 rfl (lv_at hl 0 rfl) ?_
        refine lv_i2d (pc := 49) hx hb dX6_barnacles_49 ?_
        exact hretD 50 _ _ _ (A_6, V_7) _ _ dX6_barnacles_50 dX6_barnacles_51 h hw
      · have h := h.2 c8
        refine lv_dconst0 (pc := 42) hx hb dX6_barnacles_42 ?_
        refine lv_goto (pc := 43) (tgt := 51) hx hb dX6_barnacles_43 (by decide) ?_
        exact hret 51 _ _ (A_6, V_7) _ _ dX6_barnacles_51 h hw
    · have h := h.2 c2
      refine lv_iload_n (pc := 17) hx hb dX6_barnacles_17 rfl (lv_at hl 1 rfl) ?_
      refine lv_aload_n (pc := 18) hx hb dX6_barnacles_18 rfl (lv_at hl 0 rfl) ?_
      refine lv_iload_n (pc := 19) hx hb dX6_barnacles_19 rfl (lv_at hl 2 rfl) ?_
      refine lv_iconst (pc := 20) (v := (0 : Int32)) hx hb dX6_barnacles_20 (by decide) ?_
      refine callVi (pc := 21) (rest := [.int x1]) (c1 := 0) (s1 := 0) cx hw hl (metX6_sumOf l D cI cZ ad H.size A V x2 (0 : Int32) _ h) (fun hts => cwV 2 hts gX6_barnacles_X6_sumOf rfl rfl rfl (by decide +kernel) ⟨Nat.le_of_ble_eq_true rfl, Nat.le_of_ble_eq_true rfl⟩) SUB.rf [0, 1] rfl 0 (ci := 6) rfl rfl rfl (JN.rf) rfl rfl (Nat.le_of_ble_eq_true rfl) ⟨Nat.le_of_ble_eq_true rfl, Nat.le_of_ble_eq_true rfl⟩ rfl rfl dX6_barnacles_21 (fun r9 u H locs h hw => ?_)
      obtain ⟨A_12, V_13⟩ := u
      refine lv_iadd (pc := 24) hx hb dX6_barnacles_24 ?_
      refine lv_istore_n (pc := 25) (lv' := [(1, .int (x1 + r9)), (0, .ref (ad 0)), (2, .int x2)]) hx hb dX6_barnacles_25 rfl hl (by decide) rfl (fun ls hl => ?_)
      refine lv_iinc (pc := 26) (v := x2 + 1) (lv' := [(2, .int (x2 + 1)), (1, .int (x1 + r9)), (0, .ref (ad 0))]) hx hb dX6_barnacles_26 hl (k := 2) rfl rfl (by decide) rfl (fun ls hl => ?_)
      refine lv_goto (pc := 29) (tgt := 9) hx hb dX6_barnacles_29 (by decide) ?_
      exact ih A_12 V_13 (x1 + r9) (x2 + 1) h _ _ _ hw (lv_sub hl [2, 1, 0] rfl)
def wb_X6_barnacles_0 (Q : UInt64 → SA → SV → Prop) (A : SA) (V : SV) : Prop := (∀ V_1 : SV, V_1 = uv V 0 (0 : Int32) → (∃ n9 : Nat, wl_X6_barnacles_9 Q n9 A V_1 (0 : Int32) (0 : Int32)))
set_option maxHeartbeats 4000000 in
set_option maxRecDepth 100000 in
theorem wk_X6_barnacles_0 (Q : UInt64 → SA → SV → Prop) (cx : CX RX6 cX6_barnacles 3 wsX6_barnacles D [(cI, .int), (cZ, .boolean)] p s m args c A0) (hret : ∀ (pc : Nat) (ls : Array Slot) (r : UInt64) (u : SA × SV) (H : Heap) (locs : List Loc), decode cX6_barnacles pc = .ok (.dreturn, 1) → Q r u.1 u.2 → WS D s A0 (wM ad cI cZ u.1 u.2) H locs → W p l e rmX6_barnacles s m args below meth c H locs rmX6_barnacles.cells rmX6_barnacles.slots Z (F0 m pc ls [.double r])) (hretD : ∀ (pc : Nat) (ls : Array Slot) (x y : UInt64) (u : SA × SV) (H : Heap) (locs : List Loc), decode cX6_barnacles pc = .ok (.ddiv, 1) → decode cX6_barnacles (pc + 1) = .ok (.dreturn, 1) → (∀ r : UInt64, alike64 r (FP.ddiv x y) = true → Q r u.1 u.2) → WS D s A0 (wM ad cI cZ u.1 u.2) H locs → W p l e rmX6_barnacles s m args below meth c H locs rmX6_barnacles.cells rmX6_barnacles.slots Z (F0 m pc ls [.double y, .double x]))  : ∀ (A : SA) (V : SV) (h : wb_X6_barnacles_0 Q A V) (H : Heap) (locs : List Loc) (ls : Array Slot) (hw : WS D s A0 (wM ad cI cZ A V) H locs) (hl : lv_has ls 3 [(0, .ref (ad 0))]), W p l e rmX6_barnacles s m args below meth c H locs 0 0 Z (F0 m 0 ls []) := by
  obtain ⟨hx, hb, hml, hown, hts, hK, hA⟩ := id cx
  intro A V h H locs ls hw hl
  refine lv_aload_n (pc := 0) hx hb dX6_barnacles_0 rfl (lv_at hl 0 rfl) ?_
  refine lv_iconst (pc := 1) (v := (0 : Int32)) hx hb dX6_barnacles_1 (by decide) ?_
  refine puM_X6_0 (pc := 2) cx inX6_barnacles_X6 kX6_barnacles_42 hw dX6_barnacles_2 (fun V_1 eV_1 H locs hw => ?_)
  have h := h V_1 eV_1
  refine lv_iconst (pc := 5) (v := (0 : Int32)) hx hb dX6_barnacles_5 (by decide) ?_
  refine lv_istore_n (pc := 6) (lv' := [(1, .int (0 : Int32)), (0, .ref (ad 0))]) hx hb dX6_barnacles_6 rfl hl (by decide) rfl (fun ls hl => ?_)
  refine lv_iconst (pc := 7) (v := (0 : Int32)) hx hb dX6_barnacles_7 (by decide) ?_
  refine lv_istore_n (pc := 8) (lv' := [(2, .int (0 : Int32)), (1, .int (0 : Int32)), (0, .ref (ad 0))]) hx hb dX6_barnacles_8 rfl hl (by decide) rfl (fun ls hl => ?_)
  obtain ⟨n9, h⟩ := h
  exact wk_X6_barnacles_9 Q cx hret hretD  n9 A V_1 (0 : Int32) (0 : Int32) h _ _ _ hw (lv_sub hl [2, 1, 0] rfl)
def wpX6_barnacles (A : SA) (V : SV)  (Q : UInt64 → SA → SV → Prop) : Prop := wb_X6_barnacles_0 Q A V
set_option maxHeartbeats 4000000 in
set_option maxRecDepth 100000 in
theorem metX6_barnacles (l : Launch) (D : va_G) (cI cZ : ClassId) (ad : Nat → Nat) (sz : Nat) (A : SA) (V : SV)  (Q : UInt64 → SA → SV → Prop) (h : wpX6_barnacles A V  Q) : MetD lw_cs l yX6_barnacles wsX6_barnacles rmX6_barnacles (PcW D [(cI, .int), (cZ, .boolean)] (wM ad cI cZ A V) sz [.ref (ad 0)]) (va_Qd (fun r u => Q r u.1 u.2) (BpW D [(cI, .int), (cZ, .boolean)] (wM ad cI cZ A V) sz (fun u : SA × SV => (wM ad cI cZ u.1 u.2))) (va_A (wM ad cI cZ A V) sz)) rmX6_barnacles.cells rmX6_barnacles.slots (va_A (wM ad cI cZ A V) sz) := by
  refine startD (by decide) rfl (Nat.le_of_ble_eq_true rfl) ?_
  intro p e s m args below meth c A0 Z cx hw hret hretD ls hl
  exact wk_X6_barnacles_0 Q cx hret hretD A V h _ _ _ hw hl
end GENV
