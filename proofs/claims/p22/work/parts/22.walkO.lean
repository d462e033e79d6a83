section GENV
variable {p : Program} {l : Launch} {e : Env} {s : State} {m : MethodId} {args : Array Value} {below : List Frame} {meth : Method} {c : Code} {A0 : Nat → Prop} {Z : State → Prop} {D : va_G} {cI cZ : ClassId} {ad : Nat → Nat} {tys : TYS} {xa : Nat} {ad2 : Nat → Nat}
abbrev rmX0_has : Room := { frames := 0, cells := 0, slots := 0, locals := 0 }
theorem inX0_has_X0 : ∀ w ∈ wsX00, w ∈ wsX0_has := by decide +kernel
theorem kX0_has_21 : Cond.fieldLink RX0 21 "DrownedPost$Bins" "count" "I" ∈ wsX0_has := by decide +kernel
def wb_X0_has_0 (Q : Int32 → SA → SV → Prop) (A : SA) (V : SV) (x1 : Int32) : Prop := ((x1 < 0 → Q (0 : Int32) A V) ∧ (¬ (x1 < 0) → (((V 1) ≤ x1 → Q (0 : Int32) A V) ∧ (¬ ((V 1) ≤ x1) → Q (1 : Int32) A V))))
set_option maxHeartbeats 4000000 in
set_option maxRecDepth 100000 in
theorem wk_X0_has_0 (Q : Int32 → SA → SV → Prop) (cx : CX RX0 cX0_has 2 wsX0_has D [(cI, .int), (cZ, .boolean)] p s m args c A0) (hret : ∀ (pc : Nat) (ls : Array Slot) (r : Int32) (u : SA × SV) (H : Heap) (locs : List Loc), narrow .boolean (.int r) = .int r → decode cX0_has pc = .ok (.ireturn, 1) → Q r u.1 u.2 → WS D s A0 (wO ad cI cZ u.1 u.2) H locs → W p l e rmX0_has s m args below meth c H locs rmX0_has.cells rmX0_has.slots Z (F0 m pc ls [.int r]))  : ∀ (A : SA) (V : SV) (x1 : Int32) (h : wb_X0_has_0 Q A V x1) (H : Heap) (locs : List Loc) (ls : Array Slot) (hw : WS D s A0 (wO ad cI cZ A V) H locs) (hl : lv_has ls 2 [(0, .ref (ad 2)), (1, .int x1)]), W p l e rmX0_has s m args below meth c H locs 0 0 Z (F0 m 0 ls []) := by
  obtain ⟨hx, hb, hml, hown, hts, hK, hA⟩ := id cx
  intro A V x1 h H locs ls hw hl
  refine lv_iload_n (pc := 0) hx hb dX0_has_0 rfl (lv_at hl 1 rfl) ?_
  refine lv_if_lt (pc := 1) (tgt := 16) hx hb dX0_has_1 (by decide) (fun c1 => ?_) (fun c1 => ?_)
  · have h := h.1 c1
    refine lv_iconst (pc := 16) (v := (0 : Int32)) hx hb dX0_has_16 (by decide) ?_
    exact hret 17 _ _ (A, V) _ _ rfl dX0_has_17 h hw
  · have h := h.2 c1
    refine lv_iload_n (pc := 4) hx hb dX0_has_4 rfl (lv_at hl 1 rfl) ?_
    refine lv_aload_n (pc := 5) hx hb dX0_has_5 rfl (lv_at hl 0 rfl) ?_
    refine geO_X0_3 (pc := 6) cx inX0_has_X0 kX0_has_21 hw dX0_has_6 ?_
    refine lv_icmp_ge (pc := 9) (tgt := 16) hx hb dX0_has_9 (by decide) (fun c2 => ?_) (fun c2 => ?_)
    · have h := h.1 c2
      refine lv_iconst (pc := 16) (v := (0 : Int32)) hx hb dX0_has_16 (by decide) ?_
      exact hret 17 _ _ (A, V) _ _ rfl dX0_has_17 h hw
    · have h := h.2 c2
      refine lv_iconst (pc := 12) (v := (1 : Int32)) hx hb dX0_has_12 (by decide) ?_
      refine lv_goto (pc := 13) (tgt := 17) hx hb dX0_has_13 (by decide) ?_
      exact hret 17 _ _ (A, V) _ _ rfl dX0_has_17 h hw
def wpX0_has (A : SA) (V : SV) (x1 : Int32) (Q : Int32 → SA → SV → Prop) : Prop := wb_X0_has_0 Q A V x1
set_option maxHeartbeats 4000000 in
set_option maxRecDepth 100000 in
theorem metX0_has (l : Launch) (D : va_G) (cI cZ : ClassId) (ad : Nat → Nat) (sz : Nat) (A : SA) (V : SV) (x1 : Int32) (Q : Int32 → SA → SV → Prop) (h : wpX0_has A V x1 Q) : Met l yX0_has wsX0_has rmX0_has (PcW D [(cI, .int), (cZ, .boolean)] (wO ad cI cZ A V) sz [.ref (ad 2), .int x1]) (QiW D [(cI, .int), (cZ, .boolean)] (wO ad cI cZ A V) sz (fun u : SA × SV => (wO ad cI cZ u.1 u.2)) (fun r u => Q r u.1 u.2)) rmX0_has.cells rmX0_has.slots (va_A (wO ad cI cZ A V) sz) := by
  refine startI (plainFor_of_name (by decide)) rfl (Nat.le_of_ble_eq_true rfl) ?_
  intro p e s m args below meth c A0 Z cx hw hret ls hl
  exact wk_X0_has_0 Q cx hret A V x1 h _ _ _ hw hl
abbrev rmX0_append : Room := { frames := 0, cells := 0, slots := 0, locals := 0 }
theorem inX0_append_X0 : ∀ w ∈ wsX00, w ∈ wsX0_append := by decide +kernel
theorem kX0_append_15 : Cond.fieldLink RX0 15 "DrownedPost$Bins" "room" "[I" ∈ wsX0_append := by decide +kernel
theorem kX0_append_18 : Cond.fieldLink RX0 18 "DrownedPost$Bins" "filled" "[I" ∈ wsX0_append := by decide +kernel
theorem kX0_append_21 : Cond.fieldLink RX0 21 "DrownedPost$Bins" "count" "I" ∈ wsX0_append := by decide +kernel
theorem kX0_append_9 : Cond.fieldLink RX0 9 "DrownedPost$Bins" "height" "[I" ∈ wsX0_append := by decide +kernel
def wb_X0_append_0 (Q : Int32 → SA → SV → Prop) (A : SA) (V : SV) (x1 : Int32) (x2 : Int32) : Prop := (((V 1) < (10 : Int32) → (vp_in (V 1) 10 ∧ (∀ A_2 : SA, A_2 = up A 1 (V 1).toNatClampNeg x1 → (vp_in (V 1) 10 ∧ (∀ A_3 : SA, A_3 = up A_2 2 (V 1).toNatClampNeg x2 → (vp_in (V 1) 10 ∧ (∀ A_4 : SA, A_4 = up A_3 3 (V 1).toNatClampNeg (0 : Int32) → (∀ V_5 : SV, V_5 = uv V 1 ((V 1) + (1 : Int32)) → Q (V 1) A_4 V_5)))))))) ∧ (¬ ((V 1) < (10 : Int32)) → Q (-1 : Int32) A V))
set_option maxHeartbeats 4000000 in
set_option maxRecDepth 100000 in
theorem wk_X0_append_0 (Q : Int32 → SA → SV → Prop) (cx : CX RX0 cX0_append 4 wsX0_append D [(cI, .int), (cZ, .boolean)] p s m args c A0) (hret : ∀ (pc : Nat) (ls : Array Slot) (r : Int32) (u : SA × SV) (H : Heap) (locs : List Loc), narrow .int (.int r) = .int r → decode cX0_append pc = .ok (.ireturn, 1) → Q r u.1 u.2 → WS D s A0 (wO ad cI cZ u.1 u.2) H locs → W p l e rmX0_append s m args below meth c H locs rmX0_append.cells rmX0_append.slots Z (F0 m pc ls [.int r]))  : ∀ (A : SA) (V : SV) (x1 : Int32) (x2 : Int32) (h : wb_X0_append_0 Q A V x1 x2) (H : Heap) (locs : List Loc) (ls : Array Slot) (hw : WS D s A0 (wO ad cI cZ A V) H locs) (hl : lv_has ls 4 [(0, .ref (ad 2)), (1, .int x1), (2, .int x2)]), W p l e rmX0_append s m args below meth c H locs 0 0 Z (F0 m 0 ls []) := by
  obtain ⟨hx, hb, hml, hown, hts, hK, hA⟩ := id cx
  intro A V x1 x2 h H locs ls hw hl
  refine lv_aload_n (pc := 0) hx hb dX0_append_0 rfl (lv_at hl 0 rfl) ?_
  refine geO_X0_3 (pc := 1) cx inX0_append_X0 kX0_append_21 hw dX0_append_1 ?_
  refine lv_bipush (pc := 4) (v := (10 : Int32)) hx hb dX0_append_4 (by decide) ?_
  refine lv_icmp_lt (pc := 6) (tgt := 11) hx hb dX0_append_6 (by decide) (fun c1 => ?_) (fun c1 => ?_)
  · have h := h.1 c1
    refine lv_aload_n (pc := 11) hx hb dX0_append_11 rfl (lv_at hl 0 rfl) ?_
    refine geO_X0_3 (pc := 12) cx inX0_append_X0 kX0_append_21 hw dX0_append_12 ?_
    refine lv_istore_n (pc := 15) (lv' := [(3, .int (V 1)), (0, .ref (ad 2)), (1, .int x1), (2, .int x2)]) hx hb dX0_append_15 rfl hl (by decide) rfl (fun ls hl => ?_)
    refine lv_aload_n (pc := 16) hx hb dX0_append_16 rfl (lv_at hl 1 rfl) ?_
    refine geO_X0_0 (pc := 17) cx inX0_append_X0 kX0_append_9 hw dX0_append_17 ?_
    refine lv_iload_n (pc := 20) hx hb dX0_append_20 rfl (lv_at hl 0 rfl) ?_
    refine lv_iload_n (pc := 21) hx hb dX0_append_21 rfl (lv_at hl 2 rfl) ?_
    refine asO_1 (pc := 22) cx hw h.1 dX0_append_22 (fun A_2 eA_2 H locs hw => ?_)
    have h := h.2 A_2 eA_2
    refine lv_aload_n (pc := 23) hx hb dX0_append_23 rfl (lv_at hl 1 rfl) ?_
    refine geO_X0_1 (pc := 24) cx inX0_append_X0 kX0_append_15 hw dX0_append_24 ?_
    refine lv_iload_n (pc := 27) hx hb dX0_append_27 rfl (lv_at hl 0 rfl) ?_
    refine lv_iload_n (pc := 28) hx hb dX0_append_28 rfl (lv_at hl 3 rfl) ?_
    refine asO_2 (pc := 29) cx hw h.1 dX0_append_29 (fun A_3 eA_3 H locs hw => ?_)
    have h := h.2 A_3 eA_3
    refine lv_aload_n (pc := 30) hx hb dX0_append_30 rfl (lv_at hl 1 rfl) ?_
    refine geO_X0_2 (pc := 31) cx inX0_append_X0 kX0_append_18 hw dX0_append_31 ?_
    refine lv_iload_n (pc := 34) hx hb dX0_append_34 rfl (lv_at hl 0 rfl) ?_
    refine lv_iconst (pc := 35) (v := (0 : Int32)) hx hb dX0_append_35 (by decide) ?_
    refine asO_3 (pc := 36) cx hw h.1 dX0_append_36 (fun A_4 eA_4 H locs hw => ?_)
    have h := h.2 A_4 eA_4
    refine lv_aload_n (pc := 37) hx hb dX0_append_37 rfl (lv_at hl 1 rfl) ?_
    refine lv_dup (pc := 38) hx hb dX0_append_38 rfl ?_
    refine geO_X0_3 (pc := 39) cx inX0_append_X0 kX0_append_21 hw dX0_append_39 ?_
    refine lv_iconst (pc := 42) (v := (1 : Int32)) hx hb dX0_append_42 (by decide) ?_
    refine lv_iadd (pc := 43) hx hb dX0_append_43 ?_
    refine puO_X0_3 (pc := 44) cx inX0_append_X0 kX0_append_21 hw dX0_append_44 (fun V_5 eV_5 H locs hw => ?_)
    have h := h V_5 eV_5
    refine lv_iload_n (pc := 47) hx hb dX0_append_47 rfl (lv_at hl 0 rfl) ?_
    exact hret 48 _ _ (A_4, V_5) _ _ rfl dX0_append_48 h hw
  · have h := h.2 c1
    refine lv_iconst (pc := 9) (v := (-1 : Int32)) hx hb dX0_append_9 (by decide) ?_
    exact hret 10 _ _ (A, V) _ _ rfl dX0_append_10 h hw
def wpX0_append (A : SA) (V : SV) (x1 : Int32) (x2 : Int32) (Q : Int32 → SA → SV → Prop) : Prop := wb_X0_append_0 Q A V x1 x2
set_option maxHeartbeats 4000000 in
set_option maxRecDepth 100000 in
theorem metX0_append (l : Launch) (D : va_G) (cI cZ : ClassId) (ad : Nat → Nat) (sz : Nat) (A : SA) (V : SV) (x1 : Int32) (x2 : Int32) (Q : Int32 → SA → SV → Prop) (h : wpX0_append A V x1 x2 Q) : Met l yX0_append wsX0_append rmX0_append (PcW D [(cI, .int), (cZ, .boolean)] (wO ad cI cZ A V) sz [.ref (ad 2), .int x1, .int x2]) (QiW D [(cI, .int), (cZ, .boolean)] (wO ad cI cZ A V) sz (fun u : SA × SV => (wO ad cI cZ u.1 u.2)) (fun r u => Q r u.1 u.2)) rmX0_append.cells rmX0_append.slots (va_A (wO ad cI cZ A V) sz) := by
  refine startI (plainFor_of_name (by decide)) rfl (Nat.le_of_ble_eq_true rfl) ?_
  intro p e s m args below meth c A0 Z cx hw hret ls hl
  exact wk_X0_append_0 Q cx hret A V x1 x2 h _ _ _ hw hl
abbrev rmX0_isUnder : Room := { frames := 0, cells := 0, slots := 0, locals := 0 }
theorem inX0_isUnder_X0 : ∀ w ∈ wsX00, w ∈ wsX0_isUnder := by decide +kernel
theorem kX0_isUnder_21 : Cond.fieldLink RX0 21 "DrownedPost$Bins" "count" "I" ∈ wsX0_isUnder := by decide +kernel
theorem kX0_isUnder_9 : Cond.fieldLink RX0 9 "DrownedPost$Bins" "height" "[I" ∈ wsX0_isUnder := by decide +kernel
def wb_X0_isUnder_0 (Q : Int32 → SA → SV → Prop) (A : SA) (V : SV) (x1 : Int32) (x2 : Int32) : Prop := ((x1 < 0 → Q (0 : Int32) A V) ∧ (¬ (x1 < 0) → (((V 1) ≤ x1 → Q (0 : Int32) A V) ∧ (¬ ((V 1) ≤ x1) → (vp_in x1 10 ∧ ((x2 ≤ (A 1 x1.toNatClampNeg) → Q (0 : Int32) A V) ∧ (¬ (x2 ≤ (A 1 x1.toNatClampNeg)) → Q (1 : Int32) A V)))))))
set_option maxHeartbeats 4000000 in
set_option maxRecDepth 100000 in
theorem wk_X0_isUnder_0 (Q : Int32 → SA → SV → Prop) (cx : CX RX0 cX0_isUnder 3 wsX0_isUnder D [(cI, .int), (cZ, .boolean)] p s m args c A0) (hret : ∀ (pc : Nat) (ls : Array Slot) (r : Int32) (u : SA × SV) (H : Heap) (locs : List Loc), narrow .boolean (.int r) = .int r → decode cX0_isUnder pc = .ok (.ireturn, 1) → Q r u.1 u.2 → WS D s A0 (wO ad cI cZ u.1 u.2) H locs → W p l e rmX0_isUnder s m args below meth c H locs rmX0_isUnder.cells rmX0_isUnder.slots Z (F0 m pc ls [.int r]))  : ∀ (A : SA) (V : SV) (x1 : Int32) (x2 : Int32) (h : wb_X0_isUnder_0 Q A V x1 x2) (H : Heap) (locs : List Loc) (ls : Array Slot) (hw : WS D s A0 (wO ad cI cZ A V) H locs) (hl : lv_has ls 3 [(0, .ref (ad 2)), (1, .int x1), (2, .int x2)]), W p l e rmX0_isUnder s m args below meth c H locs 0 0 Z (F0 m 0 ls []) := by
  obtain ⟨hx, hb, hml, hown, hts, hK, hA⟩ := id cx
  intro A V x1 x2 h H locs ls hw hl
  refine lv_iload_n (pc := 0) hx hb dX0_isUnder_0 rfl (lv_at hl 1 rfl) ?_
  refine lv_if_lt (pc := 1) (tgt := 26) hx hb dX0_isUnder_1 (by decide) (fun c1 => ?_) (fun c1 => ?_)
  · have h := h.1 c1
    refine lv_iconst (pc := 26) (v := (0 : Int32)) hx hb dX0_isUnder_26 (by decide) ?_
    exact hret 27 _ _ (A, V) _ _ rfl dX0_isUnder_27 h hw
  · have h := h.2 c1
    refine lv_iload_n (pc := 4) hx hb dX0_isUnder_4 rfl (lv_at hl 1 rfl) ?_
    refine lv_aload_n (pc := 5) hx hb dX0_isUnder_5 rfl (lv_at hl 0 rfl) ?_
    refine geO_X0_3 (pc := 6) cx inX0_isUnder_X0 kX0_isUnder_21 hw dX0_isUnder_6 ?_
    refine lv_icmp_ge (pc := 9) (tgt := 26) hx hb dX0_isUnder_9 (by decide) (fun c2 => ?_) (fun c2 => ?_)
    · have h := h.1 c2
      refine lv_iconst (pc := 26) (v := (0 : Int32)) hx hb dX0_isUnder_26 (by decide) ?_
      exact hret 27 _ _ (A, V) _ _ rfl dX0_isUnder_27 h hw
    · have h := h.2 c2
      refine lv_iload_n (pc := 12) hx hb dX0_isUnder_12 rfl (lv_at hl 2 rfl) ?_
      refine lv_aload_n (pc := 13) hx hb dX0_isUnder_13 rfl (lv_at hl 0 rfl) ?_
      refine geO_X0_0 (pc := 14) cx inX0_isUnder_X0 kX0_isUnder_9 hw dX0_isUnder_14 ?_
      refine lv_iload_n (pc := 17) hx hb dX0_isUnder_17 rfl (lv_at hl 1 rfl) ?_
      refine alO_1 (pc := 18) cx hw h.1 dX0_isUnder_18 ?_
      have h := h.2
      refine lv_icmp_le (pc := 19) (tgt := 26) hx hb dX0_isUnder_19 (by decide) (fun c3 => ?_) (fun c3 => ?_)
      · have h := h.1 c3
        refine lv_iconst (pc := 26) (v := (0 : Int32)) hx hb dX0_isUnder_26 (by decide) ?_
        exact hret 27 _ _ (A, V) _ _ rfl dX0_isUnder_27 h hw
      · have h := h.2 c3
        refine lv_iconst (pc := 22) (v := (1 : Int32)) hx hb dX0_isUnder_22 (by decide) ?_
        refine lv_goto (pc := 23) (tgt := 27) hx hb dX0_isUnder_23 (by decide) ?_
        exact hret 27 _ _ (A, V) _ _ rfl dX0_isUnder_27 h hw
def wpX0_isUnder (A : SA) (V : SV) (x1 : Int32) (x2 : Int32) (Q : Int32 → SA → SV → Prop) : Prop := wb_X0_isUnder_0 Q A V x1 x2
set_option maxHeartbeats 4000000 in
set_option maxRecDepth 100000 in
theorem metX0_isUnder (l : Launch) (D : va_G) (cI cZ : ClassId) (ad : Nat → Nat) (sz : Nat) (A : SA) (V : SV) (x1 : Int32) (x2 : Int32) (Q : Int32 → SA → SV → Prop) (h : wpX0_isUnder A V x1 x2 Q) : Met l yX0_isUnder wsX0_isUnder rmX0_isUnder (PcW D [(cI, .int), (cZ, .boolean)] (wO ad cI cZ A V) sz [.ref (ad 2), .int x1, .int x2]) (QiW D [(cI, .int), (cZ, .boolean)] (wO ad cI cZ A V) sz (fun u : SA × SV => (wO ad cI cZ u.1 u.2)) (fun r u => Q r u.1 u.2)) rmX0_isUnder.cells rmX0_isUnder.slots (va_A (wO ad cI cZ A V) sz) := by
  refine startI (plainFor_of_name (by decide)) rfl (Nat.le_of_ble_eq_true rfl) ?_
  intro p e s m args below meth c A0 Z cx hw hret ls hl
  exact wk_X0_isUnder_0 Q cx hret A V x1 x2 h _ _ _ hw hl
abbrev rmX0_isNearer : Room := { frames := 1, cells := 0, slots := 0, locals := 80 }
theorem inX0_isNearer_X0 : ∀ w ∈ wsX00, w ∈ wsX0_isNearer := by decide +kernel
theorem kX0_isNearer_29 : Cond.methodLink RX0 29 Lib.Math.abs.name ∈ wsX0_isNearer := by decide +kernel
theorem kX0_isNearer_9 : Cond.fieldLink RX0 9 "DrownedPost$Bins" "height" "[I" ∈ wsX0_isNearer := by decide +kernel
theorem kX0_isNearer_w_code_Lib_Math_abs_name_Lib_Math_abs_code_1__some__int_ : Cond.code Lib.Math.abs.name Lib.Math.abs.code 1 (some .int) ∈ wsX0_isNearer := by decide +kernel
theorem kX0_isNearer_w_initialized__java_lang_Math_ : Cond.initialized "java/lang/Math" ∈ wsX0_isNearer := by decide +kernel
theorem kX0_isNearer_w_static_Lib_Math_abs_name : Cond.static Lib.Math.abs.name ∈ wsX0_isNearer := by decide +kernel
def wb_X0_isNearer_0 (Q : Int32 → SA → SV → Prop) (A : SA) (V : SV) (x1 : Int32) (x2 : Int32) (x3 : Int32) : Prop := (vp_in x1 10 ∧ (vp_in x2 10 ∧ (((if 0 ≤ (A 1 x1.toNatClampNeg) - x3 then (A 1 x1.toNatClampNeg) - x3 else 0 - ((A 1 x1.toNatClampNeg) - x3)) < (if 0 ≤ (A 1 x2.toNatClampNeg) - x3 then (A 1 x2.toNatClampNeg) - x3 else 0 - ((A 1 x2.toNatClampNeg) - x3)) → Q (1 : Int32) A V) ∧ (¬ ((if 0 ≤ (A 1 x1.toNatClampNeg) - x3 then (A 1 x1.toNatClampNeg) - x3 else 0 - ((A 1 x1.toNatClampNeg) - x3)) < (if 0 ≤ (A 1 x2.toNatClampNeg) - x3 then (A 1 x2.toNatClampNeg) - x3 else 0 - ((A 1 x2.toNatClampNeg) - x3))) → ((¬ (if 0 ≤ (A 1 x1.toNatClampNeg) - x3 then (A 1 x1.toNatClampNeg) - x3 else 0 - ((A 1 x1.toNatClampNeg) - x3)) = (if 0 ≤ (A 1 x2.toNatClampNeg) - x3 then (A 1 x2.toNatClampNeg) - x3 else 0 - ((A 1 x2.toNatClampNeg) - x3)) → Q (0 : Int32) A V) ∧ ((if 0 ≤ (A 1 x1.toNatClampNeg) - x3 then (A 1 x1.toNatClampNeg) - x3 else 0 - ((A 1 x1.toNatClampNeg) - x3)) = (if 0 ≤ (A 1 x2.toNatClampNeg) - x3 then (A 1 x2.toNatClampNeg) - x3 else 0 - ((A 1 x2.toNatClampNeg) - x3)) → (vp_in x1 10 ∧ (vp_in x2 10 ∧ (((A 1 x2.toNatClampNeg) ≤ (A 1 x1.toNatClampNeg) → Q (0 : Int32) A V) ∧ (¬ ((A 1 x2.toNatClampNeg) ≤ (A 1 x1.toNatClampNeg)) → Q (1 : Int32) A V))))))))))
set_option maxHeartbeats 4000000 in
set_option maxRecDepth 100000 in
theorem wk_X0_isNearer_0 (Q : Int32 → SA → SV → Prop) (cx : CX RX0 cX0_isNearer 6 wsX0_isNearer D [(cI, .int), (cZ, .boolean)] p s m args c A0) (hret : ∀ (pc : Nat) (ls : Array Slot) (r : Int32) (u : SA × SV) (H : Heap) (locs : List Loc), narrow .boolean (.int r) = .int r → decode cX0_isNearer pc = .ok (.ireturn, 1) → Q r u.1 u.2 → WS D s A0 (wO ad cI cZ u.1 u.2) H locs → W p l e rmX0_isNearer s m args below meth c H locs rmX0_isNearer.cells rmX0_isNearer.slots Z (F0 m pc ls [.int r]))  : ∀ (A : SA) (V : SV) (x1 : Int32) (x2 : Int32) (x3 : Int32) (h : wb_X0_isNearer_0 Q A V x1 x2 x3) (H : Heap) (locs : List Loc) (ls : Array Slot) (hw : WS D s A0 (wO ad cI cZ A V) H locs) (hl : lv_has ls 6 [(0, .ref (ad 2)), (1, .int x1), (2, .int x2), (3, .int x3)]), W p l e rmX0_isNearer s m args below meth c H locs 0 0 Z (F0 m 0 ls []) := by
  obtain ⟨hx, hb, hml, hown, hts, hK, hA⟩ := id cx
  intro A V x1 x2 x3 h H locs ls hw hl
  refine lv_aload_n (pc := 0) hx hb dX0_isNearer_0 rfl (lv_at hl 0 rfl) ?_
  refine geO_X0_0 (pc := 1) cx inX0_isNearer_X0 kX0_isNearer_9 hw dX0_isNearer_1 ?_
  refine lv_iload_n (pc := 4) hx hb dX0_isNearer_4 rfl (lv_at hl 1 rfl) ?_
  refine alO_1 (pc := 5) cx hw h.1 dX0_isNearer_5 ?_
  have h := h.2
  refine lv_iload_n (pc := 6) hx hb dX0_isNearer_6 rfl (lv_at hl 3 rfl) ?_
  refine lv_isub (pc := 7) hx hb dX0_isNearer_7 ?_
  refine va_mabs (pc := 8) hx hb (hml.trans hl.1.symm) hown (hts _ kX0_isNearer_29) (hts _ kX0_isNearer_w_static_Lib_Math_abs_name) (hts _ kX0_isNearer_w_initialized__java_lang_Math_) (hts _ kX0_isNearer_w_code_Lib_Math_abs_name_Lib_Math_abs_code_1__some__int_) (Nat.le_of_ble_eq_true rfl) (Nat.le_of_ble_eq_true rfl) (Nat.le_of_ble_eq_true rfl) (Nat.le_of_ble_eq_true rfl) dX0_isNearer_8 ?_
  refine lv_istore (pc := 11) (lv' := [(4, .int (if 0 ≤ (A 1 x1.toNatClampNeg) - x3 then (A 1 x1.toNatClampNeg) - x3 else 0 - ((A 1 x1.toNatClampNeg) - x3))), (0, .ref (ad 2)), (1, .int x1), (2, .int x2), (3, .int x3)]) hx hb dX0_isNearer_11 hl (by decide) rfl (fun ls hl => ?_)
  refine lv_aload_n (pc := 13) hx hb dX0_isNearer_13 rfl (lv_at hl 1 rfl) ?_
  refine geO_X0_0 (pc := 14) cx inX0_isNearer_X0 kX0_isNearer_9 hw dX0_isNearer_14 ?_
  refine lv_iload_n (pc := 17) hx hb dX0_isNearer_17 rfl (lv_at hl 3 rfl) ?_
  refine alO_1 (pc := 18) cx hw h.1 dX0_isNearer_18 ?_
  have h := h.2
  refine lv_iload_n (pc := 19) hx hb dX0_isNearer_19 rfl (lv_at hl 4 rfl) ?_
  refine lv_isub (pc := 20) hx hb dX0_isNearer_20 ?_
  refine va_mabs (pc := 21) hx hb (hml.trans hl.1.symm) hown (hts _ kX0_isNearer_29) (hts _ kX0_isNearer_w_static_Lib_Math_abs_name) (hts _ kX0_isNearer_w_initialized__java_lang_Math_) (hts _ kX0_isNearer_w_code_Lib_Math_abs_name_Lib_Math_abs_code_1__some__int_) (Nat.le_of_ble_eq_true rfl) (Nat.le_of_ble_eq_true rfl) (Nat.le_of_ble_eq_true rfl) (Nat.le_of_ble_eq_true rfl) dX0_isNearer_21 ?_
  refine lv_istore (pc := 24) (lv' := [(5, .int (if 0 ≤ (A 1 x2.toNatClampNeg) - x3 then (A 1 x2.toNatClampNeg) - x3 else 0 - ((A 1 x2.toNatClampNeg) - x3))), (4, .int (if 0 ≤ (A 1 x1.toNatClampNeg) - x3 then (A 1 x1.toNatClampNeg) - x3 else 0 - ((A 1 x1.toNatClampNeg) - x3))), (0, .ref (ad 2)), (1, .int x1), (2, .int x2), (3, .int x3)]) hx hb dX0_isNearer_24 hl (by decide) rfl (fun ls hl => ?_)
  refine lv_iload (pc := 26) hx hb dX0_isNearer_26 (lv_at hl 1 rfl) ?_
  refine lv_iload (pc := 28) hx hb dX0_isNearer_28 (lv_at hl 0 rfl) ?_
  refine lv_icmp_lt (pc := 30) (tgt := 55) hx hb dX0_isNearer_30 (by decide) (fun c1 => ?_) (fun c1 => ?_)
  · have h := h.1 c1
    refine lv_iconst (pc := 55) (v := (1 : Int32)) hx hb dX0_isNearer_55 (by decide) ?_
    refine lv_goto (pc := 56) (tgt := 60) hx hb dX0_isNearer_56 (by decide) ?_
    exact hret 60 _ _ (A, V) _ _ rfl dX0_isNearer_60 h hw
  · have h := h.2 c1
    refine lv_iload (pc := 33) hx hb dX0_isNearer_33 (lv_at hl 1 rfl) ?_
    refine lv_iload (pc := 35) hx hb dX0_isNearer_35 (lv_at hl 0 rfl) ?_
    refine lv_icmp_ne (pc := 37) (tgt := 59) hx hb dX0_isNearer_37 (by decide) (fun c2 => ?_) (fun c2 => ?_)
    · have h := h.1 c2
      refine lv_iconst (pc := 59) (v := (0 : Int32)) hx hb dX0_isNearer_59 (by decide) ?_
      exact hret 60 _ _ (A, V) _ _ rfl dX0_isNearer_60 h hw
    · have h := h.2 c2
      refine lv_aload_n (pc := 40) hx hb dX0_isNearer_40 rfl (lv_at hl 2 rfl) ?_
      refine geO_X0_0 (pc := 41) cx inX0_isNearer_X0 kX0_isNearer_9 hw dX0_isNearer_41 ?_
      refine lv_iload_n (pc := 44) hx hb dX0_isNearer_44 rfl (lv_at hl 3 rfl) ?_
      refine alO_1 (pc := 45) cx hw h.1 dX0_isNearer_45 ?_
      have h := h.2
      refine lv_aload_n (pc := 46) hx hb dX0_isNearer_46 rfl (lv_at hl 2 rfl) ?_
      refine geO_X0_0 (pc := 47) cx inX0_isNearer_X0 kX0_isNearer_9 hw dX0_isNearer_47 ?_
      refine lv_iload_n (pc := 50) hx hb dX0_isNearer_50 rfl (lv_at hl 4 rfl) ?_
      refine alO_1 (pc := 51) cx hw h.1 dX0_isNearer_51 ?_
      have h := h.2
      refine lv_icmp_ge (pc := 52) (tgt := 59) hx hb dX0_isNearer_52 (by decide) (fun c3 => ?_) (fun c3 => ?_)
      · have h := h.1 c3
        refine lv_iconst (pc := 59) (v := (0 : Int32)) hx hb dX0_isNearer_59 (by decide) ?_
        exact hret 60 _ _ (A, V) _ _ rfl dX0_isNearer_60 h hw
      · have h := h.2 c3
        refine lv_iconst (pc := 55) (v := (1 : Int32)) hx hb dX0_isNearer_55 (by decide) ?_
        refine lv_goto (pc := 56) (tgt := 60) hx hb dX0_isNearer_56 (by decide) ?_
        exact hret 60 _ _ (A, V) _ _ rfl dX0_isNearer_60 h hw
def wpX0_isNearer (A : SA) (V : SV) (x1 : Int32) (x2 : Int32) (x3 : Int32) (Q : Int32 → SA → SV → Prop) : Prop := wb_X0_isNearer_0 Q A V x1 x2 x3
set_option maxHeartbeats 4000000 in
set_option maxRecDepth 100000 in
theorem metX0_isNearer (l : Launch) (D : va_G) (cI cZ : ClassId) (ad : Nat → Nat) (sz : Nat) (A : SA) (V : SV) (x1 : Int32) (x2 : Int32) (x3 : Int32) (Q : Int32 → SA → SV → Prop) (h : wpX0_isNearer A V x1 x2 x3 Q) : Met l yX0_isNearer wsX0_isNearer rmX0_isNearer (PcW D [(cI, .int), (cZ, .boolean)] (wO ad cI cZ A V) sz [.ref (ad 2), .int x1, .int x2, .int x3]) (QiW D [(cI, .int), (cZ, .boolean)] (wO ad cI cZ A V) sz (fun u : SA × SV => (wO ad cI cZ u.1 u.2)) (fun r u => Q r u.1 u.2)) rmX0_isNearer.cells rmX0_isNearer.slots (va_A (wO ad cI cZ A V) sz) := by
  refine startI (plainFor_of_name (by decide)) rfl (Nat.le_of_ble_eq_true rfl) ?_
  intro p e s m args below meth c A0 Z cx hw hret ls hl
  exact wk_X0_isNearer_0 Q cx hret A V x1 x2 x3 h _ _ _ hw hl
abbrev rmX0_nearestWithRoom : Room := { frames := 2, cells := 0, slots := 0, locals := 105 }
theorem inX0_nearestWithRoom_X0 : ∀ w ∈ wsX00, w ∈ wsX0_nearestWithRoom := by decide +kernel
theorem kX0_nearestWithRoom_15 : Cond.fieldLink RX0 15 "DrownedPost$Bins" "room" "[I" ∈ wsX0_nearestWithRoom := by decide +kernel
theorem kX0_nearestWithRoom_18 : Cond.fieldLink RX0 18 "DrownedPost$Bins" "filled" "[I" ∈ wsX0_nearestWithRoom := by decide +kernel
theorem kX0_nearestWithRoom_21 : Cond.fieldLink RX0 21 "DrownedPost$Bins" "count" "I" ∈ wsX0_nearestWithRoom := by decide +kernel
def wl_X0_nearestWithRoom_4 (Q : Int32 → SA → SV → Prop) : Nat → SA → SV → Int32 → Int32 → Int32 → Prop
  | 0, _, _, _, _, _ => False
  | n + 1, A, V, x1, x2, x3 => (((V 1) ≤ x3 → Q x2 A V) ∧ (¬ ((V 1) ≤ x3) → (vp_in x3 10 ∧ (vp_in x3 10 ∧ (((A 2 x3.toNatClampNeg) ≤ (A 3 x3.toNatClampNeg) → wl_X0_nearestWithRoom_4 Q n A V x1 x2 (x3 + 1)) ∧ (¬ ((A 2 x3.toNatClampNeg) ≤ (A 3 x3.toNatClampNeg)) → ((x2 = (-1 : Int32) → wl_X0_nearestWithRoom_4 Q n A V x1 x3 (x3 + 1)) ∧ (¬ (x2 = (-1 : Int32)) → (wpX0_isNearer A V x3 x2 x1 (fun r4 A_7 V_8 => ((r4 = 0 → wl_X0_nearestWithRoom_4 Q n A_7 V_8 x1 x2 (x3 + 1)) ∧ (¬ (r4 = 0) → wl_X0_nearestWithRoom_4 Q n A_7 V_8 x1 x3 (x3 + 1)))))))))))))
set_option maxHeartbeats 4000000 in
set_option maxRecDepth 100000 in
theorem wk_X0_nearestWithRoom_4 (Q : Int32 → SA → SV → Prop) (cx : CX RX0 cX0_nearestWithRoom 4 wsX0_nearestWithRoom D [(cI, .int), (cZ, .boolean)] p s m args c A0) (hret : ∀ (pc : Nat) (ls : Array Slot) (r : Int32) (u : SA × SV) (H : Heap) (locs : List Loc), narrow .int (.int r) = .int r → decode cX0_nearestWithRoom pc = .ok (.ireturn, 1) → Q r u.1 u.2 → WS D s A0 (wO ad cI cZ u.1 u.2) H locs → W p l e rmX0_nearestWithRoom s m args below meth c H locs rmX0_nearestWithRoom.cells rmX0_nearestWithRoom.slots Z (F0 m pc ls [.int r]))  : ∀ (n : Nat) (A : SA) (V : SV) (x1 : Int32) (x2 : Int32) (x3 : Int32) (h : wl_X0_nearestWithRoom_4 Q n A V x1 x2 x3) (H : Heap) (locs : List Loc) (ls : Array Slot) (hw : WS D s A0 (wO ad cI cZ A V) H locs) (hl : lv_has ls 4 [(0, .ref (ad 2)), (1, .int x1), (2, .int x2), (3, .int x3)]), W p l e rmX0_nearestWithRoom s m args below meth c H locs 0 0 Z (F0 m 4 ls []) := by
  obtain ⟨hx, hb, hml, hown, hts, hK, hA⟩ := id cx
  intro n
  induction n with
  | zero => intro A V x1 x2 x3 h; exact False.elim h
  | succ n ih =>
    intro A V x1 x2 x3 h H locs ls hw hl
    refine lv_iload_n (pc := 4) hx hb dX0_nearestWithRoom_4 rfl (lv_at hl 3 rfl) ?_
    refine lv_aload_n (pc := 5) hx hb dX0_nearestWithRoom_5 rfl (lv_at hl 0 rfl) ?_
    refine geO_X0_3 (pc := 6) cx inX0_nearestWithRoom_X0 kX0_nearestWithRoom_21 hw dX0_nearestWithRoom_6 ?_
    refine lv_icmp_ge (pc := 9) (tgt := 50) hx hb dX0_nearestWithRoom_9 (by decide) (fun c1 => ?_) (fun c1 => ?_)
    · have h := h.1 c1
      refine lv_iload_n (pc := 50) hx hb dX0_nearestWithRoom_50 rfl (lv_at hl 2 rfl) ?_
      exact hret 51 _ _ (A, V) _ _ rfl dX0_nearestWithRoom_51 h hw
    · have h := h.2 c1
      refine lv_aload_n (pc := 12) hx hb dX0_nearestWithRoom_12 rfl (lv_at hl 0 rfl) ?_
      refine geO_X0_2 (pc := 13) cx inX0_nearestWithRoom_X0 kX0_nearestWithRoom_18 hw dX0_nearestWithRoom_13 ?_
      refine lv_iload_n (pc := 16) hx hb dX0_nearestWithRoom_16 rfl (lv_at hl 3 rfl) ?_
      refine alO_3 (pc := 17) cx hw h.1 dX0_nearestWithRoom_17 ?_
      have h := h.2
      refine lv_aload_n (pc := 18) hx hb dX0_nearestWithRoom_18 rfl (lv_at hl 0 rfl) ?_
      refine geO_X0_1 (pc := 19) cx inX0_nearestWithRoom_X0 kX0_nearestWithRoom_15 hw dX0_nearestWithRoom_19 ?_
      refine lv_iload_n (pc := 22) hx hb dX0_nearestWithRoom_22 rfl (lv_at hl 3 rfl) ?_
      refine alO_2 (pc := 23) cx hw h.1 dX0_nearestWithRoom_23 ?_
      have h := h.2
      refine lv_icmp_ge (pc := 24) (tgt := 44) hx hb dX0_nearestWithRoom_24 (by decide) (fun c2 => ?_) (fun c2 => ?_)
      · have h := h.1 c2
        refine lv_iinc (pc := 44) (v := x3 + 1) (lv' := [(3, .int (x3 + 1)), (0, .ref (ad 2)), (1, .int x1), (2, .int x2)]) hx hb dX0_nearestWithRoom_44 hl (k := 3) rfl rfl (by decide) rfl (fun ls hl => ?_)
        refine lv_goto (pc := 47) (tgt := 4) hx hb dX0_nearestWithRoom_47 (by decide) ?_
        exact ih A V x1 x2 (x3 + 1) h _ _ _ hw (lv_sub hl [1, 2, 3, 0] rfl)
      · have h := h.2 c2
        refine lv_iload_n (pc := 27) hx hb dX0_nearestWithRoom_27 rfl (lv_at hl 2 rfl) ?_
        refine lv_iconst (pc := 28) (v := (-1 : Int32)) hx hb dX0_nearestWithRoom_28 (by decide) ?_
        refine lv_icmp_eq (pc := 29) (tgt := 42) hx hb dX0_nearestWithRoom_29 (by decide) (fun c3 => ?_) (fun c3 => ?_)
        · have h := h.1 c3
          refine lv_iload_n (pc := 42) hx hb dX0_nearestWithRoom_42 rfl (lv_at hl 3 rfl) ?_
          refine lv_istore_n (pc := 43) (lv' := [(2, .int x3), (0, .ref (ad 2)), (1, .int x1), (3, .int x3)]) hx hb dX0_nearestWithRoom_43 rfl hl (by decide) rfl (fun ls hl => ?_)
          refine lv_iinc (pc := 44) (v := x3 + 1) (lv' := [(3, .int (x3 + 1)), (2, .int x3), (0, .ref (ad 2)), (1, .int x1)]) hx hb dX0_nearestWithRoom_44 hl (k := 3) rfl rfl (by decide) rfl (fun ls hl => ?_)
          refine lv_goto (pc := 47) (tgt := 4) hx hb dX0_nearestWithRoom_47 (by decide) ?_
          exact ih A V x1 x3 (x3 + 1) h _ _ _ hw (lv_sub hl [2, 3, 1, 0] rfl)
        · have h := h.2 c3
          refine lv_aload_n (pc := 32) hx hb dX0_nearestWithRoom_32 rfl (lv_at hl 0 rfl) ?_
          refine lv_iload_n (pc := 33) hx hb dX0_nearestWithRoom_33 rfl (lv_at hl 3 rfl) ?_
          refine lv_iload_n (pc := 34) hx hb dX0_nearestWithRoom_34 rfl (lv_at hl 2 rfl) ?_
          refine lv_iload_n (pc := 35) hx hb dX0_nearestWithRoom_35 rfl (lv_at hl 1 rfl) ?_
          refine callVi (pc := 36) (rest := []) (c1 := 0) (s1 := 0) cx hw hl (metX0_isNearer l D cI cZ ad H.size A V x3 x2 x1 _ h) (fun hts => cwV 3 hts gX0_nearestWithRoom_X0_isNearer rfl rfl rfl (by decide +kernel) ⟨Nat.le_of_ble_eq_true rfl, Nat.le_of_ble_eq_true rfl⟩) SUB.rf [0, 1] rfl 2 (ci := 0) rfl rfl rfl (JN.rf) rfl rfl (Nat.le_of_ble_eq_true rfl) ⟨Nat.le_of_ble_eq_true rfl, Nat.le_of_ble_eq_true rfl⟩ rfl rfl dX0_nearestWithRoom_36 (fun r4 u H locs h hw => ?_)
          obtain ⟨A_7, V_8⟩ := u
          refine lv_if_eq (pc := 39) (tgt := 44) hx hb dX0_nearestWithRoom_39 (by decide) (fun c9 => ?_) (fun c9 => ?_)
          · have h := h.1 c9
            refine lv_iinc (pc := 44) (v := x3 + 1) (lv' := [(3, .int (x3 + 1)), (0, .ref (ad 2)), (1, .int x1), (2, .int x2)]) hx hb dX0_nearestWithRoom_44 hl (k := 3) rfl rfl (by decide) rfl (fun ls hl => ?_)
            refine lv_goto (pc := 47) (tgt := 4) hx hb dX0_nearestWithRoom_47 (by decide) ?_
            exact ih A_7 V_8 x1 x2 (x3 + 1) h _ _ _ hw (lv_sub hl [1, 2, 3, 0] rfl)
          · have h := h.2 c9
            refine lv_iload_n (pc := 42) hx hb dX0_nearestWithRoom_42 rfl (lv_at hl 3 rfl) ?_
            refine lv_istore_n (pc := 43) (lv' := [(2, .int x3), (0, .ref (ad 2)), (1, .int x1), (3, .int x3)]) hx hb dX0_nearestWithRoom_43 rfl hl (by decide) rfl (fun ls hl => ?_)
            refine lv_iinc (pc := 44) (v := x3 + 1) (lv' := [(3, .int (x3 + 1)), (2, .int x3), (0, .ref (ad 2)), (1, .int x1)]) hx hb dX0_nearestWithRoom_44 hl (k := 3) rfl rfl (by decide) rfl (fun ls hl => ?_)
            refine lv_goto (pc := 47) (tgt := 4) hx hb dX0_nearestWithRoom_47 (by decide) ?_
            exact ih A_7 V_8 x1 x3 (x3 + 1) h _ _ _ hw (lv_sub hl [2, 3, 1, 0] rfl)
def wb_X0_nearestWithRoom_0 (Q : Int32 → SA → SV → Prop) (A : SA) (V : SV) (x1 : Int32) : Prop := (∃ n4 : Nat, wl_X0_nearestWithRoom_4 Q n4 A V x1 (-1 : Int32) (0 : Int32))
set_option maxHeartbeats 4000000 in
set_option maxRecDepth 100000 in
theorem wk_X0_nearestWithRoom_0 (Q : Int32 → SA → SV → Prop) (cx : CX RX0 cX0_nearestWithRoom 4 wsX0_nearestWithRoom D [(cI, .int), (cZ, .boolean)] p s m args c A0) (hret : ∀ (pc : Nat) (ls : Array Slot) (r : Int32) (u : SA × SV) (H : Heap) (locs : List Loc), narrow .int (.int r) = .int r → decode cX0_nearestWithRoom pc = .ok (.ireturn, 1) → Q r u.1 u.2 → WS D s A0 (wO ad cI cZ u.1 u.2) H locs → W p l e rmX0_nearestWithRoom s m args below meth c H locs rmX0_nearestWithRoom.cells rmX0_nearestWithRoom.slots Z (F0 m pc ls [.int r]))  : ∀ (A : SA) (V : SV) (x1 : Int32) (h : wb_X0_nearestWithRoom_0 Q A V x1) (H : Heap) (locs : List Loc) (ls : Array Slot) (hw : WS D s A0 (wO ad cI cZ A V) H locs) (hl : lv_has ls 4 [(0, .ref (ad 2)), (1, .int x1)]), W p l e rmX0_nearestWithRoom s m args below meth c H locs 0 0 Z (F0 m 0 ls []) := by
  obtain ⟨hx, hb, hml, hown, hts, hK, hA⟩ := id cx
  intro A V x1 h H locs ls hw hl
  refine lv_iconst (pc := 0) (v := (-1 : Int32)) hx hb dX0_nearestWithRoom_0 (by decide) ?_
  refine lv_istore_n (pc := 1) (lv' := [(2, .int (-1 : Int32)), (0, .ref (ad 2)), (1, .int x1)]) hx hb dX0_nearestWithRoom_1 rfl hl (by decide) rfl (fun ls hl => ?_)
  refine lv_iconst (pc := 2) (v := (0 : Int32)) hx hb dX0_nearestWithRoom_2 (by decide) ?_
  refine lv_istore_n (pc := 3) (lv' := [(3, .int (0 : Int32)), (2, .int (-1 : Int32)), (0, .ref (ad 2)), (1, .int x1)]) hx hb dX0_nearestWithRoom_3 rfl hl (by decide) rfl (fun ls hl => ?_)
  obtain ⟨n4, h⟩ := h
  exact wk_X0_nearestWithRoom_4 Q cx hret  n4 A V x1 (-1 : Int32) (0 : Int32) h _ _ _ hw (lv_sub hl [2, 3, 1, 0] rfl)
def wpX0_nearestWithRoom (A : SA) (V : SV) (x1 : Int32) (Q : Int32 → SA → SV → Prop) : Prop := wb_X0_nearestWithRoom_0 Q A V x1
set_option maxHeartbeats 4000000 in
set_option maxRecDepth 100000 in
theorem metX0_nearestWithRoom (l : Launch) (D : va_G) (cI cZ : ClassId) (ad : Nat → Nat) (sz : Nat) (A : SA) (V : SV) (x1 : Int32) (Q : Int32 → SA → SV → Prop) (h : wpX0_nearestWithRoom A V x1 Q) : Met l yX0_nearestWithRoom wsX0_nearestWithRoom rmX0_nearestWithRoom (PcW D [(cI, .int), (cZ, .boolean)] (wO ad cI cZ A V) sz [.ref (ad 2), .int x1]) (QiW D [(cI, .int), (cZ, .boolean)] (wO ad cI cZ A V) sz (fun u : SA × SV => (wO ad cI cZ u.1 u.2)) (fun r u => Q r u.1 u.2)) rmX0_nearestWithRoom.cells rmX0_nearestWithRoom.slots (va_A (wO ad cI cZ A V) sz) := by
  refine startI (plainFor_of_name (by decide)) rfl (Nat.le_of_ble_eq_true rfl) ?_
  intro p e s m args below meth c A0 Z cx hw hret ls hl
  exact wk_X0_nearestWithRoom_0 Q cx hret A V x1 h _ _ _ hw hl
abbrev rmX1_has : Room := { frames := 0, cells := 0, slots := 0, locals := 0 }
theorem inX1_has_X1 : ∀ w ∈ wsX10, w ∈ wsX1_has := by decide +kernel
theorem kX1_has_27 : Cond.fieldLink RX1 27 "DrownedPost$Drowned" "count" "I" ∈ wsX1_has := by decide +kernel
def wb_X1_has_0 (Q : Int32 → SA → SV → Prop) (A : SA) (V : SV) (x1 : Int32) : Prop := ((x1 < 0 → Q (0 : Int32) A V) ∧ (¬ (x1 < 0) → (((V 2) ≤ x1 → Q (0 : Int32) A V) ∧ (¬ ((V 2) ≤ x1) → Q (1 : Int32) A V))))
set_option maxHeartbeats 4000000 in
set_option maxRecDepth 100000 in
theorem wk_X1_has_0 (Q : Int32 → SA → SV → Prop) (cx : CX RX1 cX1_has 2 wsX1_has D [(cI, .int), (cZ, .boolean)] p s m args c A0) (hret : ∀ (pc : Nat) (ls : Array Slot) (r : Int32) (u : SA × SV) (H : Heap) (locs : List Loc), narrow .boolean (.int r) = .int r → decode cX1_has pc = .ok (.ireturn, 1) → Q r u.1 u.2 → WS D s A0 (wO ad cI cZ u.1 u.2) H locs → W p l e rmX1_has s m args below meth c H locs rmX1_has.cells rmX1_has.slots Z (F0 m pc ls [.int r]))  : ∀ (A : SA) (V : SV) (x1 : Int32) (h : wb_X1_has_0 Q A V x1) (H : Heap) (locs : List Loc) (ls : Array Slot) (hw : WS D s A0 (wO ad cI cZ A V) H locs) (hl : lv_has ls 2 [(0, .ref (ad 3)), (1, .int x1)]), W p l e rmX1_has s m args below meth c H locs 0 0 Z (F0 m 0 ls []) := by
  obtain ⟨hx, hb, hml, hown, hts, hK, hA⟩ := id cx
  intro A V x1 h H locs ls hw hl
  refine lv_iload_n (pc := 0) hx hb dX1_has_0 rfl (lv_at hl 1 rfl) ?_
  refine lv_if_lt (pc := 1) (tgt := 16) hx hb dX1_has_1 (by decide) (fun c1 => ?_) (fun c1 => ?_)
  · have h := h.1 c1
    refine lv_iconst (pc := 16) (v := (0 : Int32)) hx hb dX1_has_16 (by decide) ?_
    exact hret 17 _ _ (A, V) _ _ rfl dX1_has_17 h hw
  · have h := h.2 c1
    refine lv_iload_n (pc := 4) hx hb dX1_has_4 rfl (lv_at hl 1 rfl) ?_
    refine lv_aload_n (pc := 5) hx hb dX1_has_5 rfl (lv_at hl 0 rfl) ?_
    refine geO_X1_5 (pc := 6) cx inX1_has_X1 kX1_has_27 hw dX1_has_6 ?_
    refine lv_icmp_ge (pc := 9) (tgt := 16) hx hb dX1_has_9 (by decide) (fun c2 => ?_) (fun c2 => ?_)
    · have h := h.1 c2
      refine lv_iconst (pc := 16) (v := (0 : Int32)) hx hb dX1_has_16 (by decide) ?_
      exact hret 17 _ _ (A, V) _ _ rfl dX1_has_17 h hw
    · have h := h.2 c2
      refine lv_iconst (pc := 12) (v := (1 : Int32)) hx hb dX1_has_12 (by decide) ?_
      refine lv_goto (pc := 13) (tgt := 17) hx hb dX1_has_13 (by decide) ?_
      exact hret 17 _ _ (A, V) _ _ rfl dX1_has_17 h hw
def wpX1_has (A : SA) (V : SV) (x1 : Int32) (Q : Int32 → SA → SV → Prop) : Prop := wb_X1_has_0 Q A V x1
set_option maxHeartbeats 4000000 in
set_option maxRecDepth 100000 in
theorem metX1_has (l : Launch) (D : va_G) (cI cZ : ClassId) (ad : Nat → Nat) (sz : Nat) (A : SA) (V : SV) (x1 : Int32) (Q : Int32 → SA → SV → Prop) (h : wpX1_has A V x1 Q) : Met l yX1_has wsX1_has rmX1_has (PcW D [(cI, .int), (cZ, .boolean)] (wO ad cI cZ A V) sz [.ref (ad 3), .int x1]) (QiW D [(cI, .int), (cZ, .boolean)] (wO ad cI cZ A V) sz (fun u : SA × SV => (wO ad cI cZ u.1 u.2)) (fun r u => Q r u.1 u.2)) rmX1_has.cells rmX1_has.slots (va_A (wO ad cI cZ A V) sz) := by
  refine startI (plainFor_of_name (by decide)) rfl (Nat.le_of_ble_eq_true rfl) ?_
  intro p e s m args below meth c A0 Z cx hw hret ls hl
  exact wk_X1_has_0 Q cx hret A V x1 h _ _ _ hw hl
abbrev rmX1_append : Room := { frames := 0, cells := 0, slots := 0, locals := 0 }
theorem inX1_append_X1 : ∀ w ∈ wsX10, w ∈ wsX1_append := by decide +kernel
theorem kX1_append_15 : Cond.fieldLink RX1 15 "DrownedPost$Drowned" "n" "[I" ∈ wsX1_append := by decide +kernel
theorem kX1_append_18 : Cond.fieldLink RX1 18 "DrownedPost$Drowned" "lag" "[I" ∈ wsX1_append := by decide +kernel
theorem kX1_append_21 : Cond.fieldLink RX1 21 "DrownedPost$Drowned" "got" "[I" ∈ wsX1_append := by decide +kernel
theorem kX1_append_24 : Cond.fieldLink RX1 24 "DrownedPost$Drowned" "written" "[I" ∈ wsX1_append := by decide +kernel
theorem kX1_append_27 : Cond.fieldLink RX1 27 "DrownedPost$Drowned" "count" "I" ∈ wsX1_append := by decide +kernel
theorem kX1_append_9 : Cond.fieldLink RX1 9 "DrownedPost$Drowned" "height" "[I" ∈ wsX1_append := by decide +kernel
def wb_X1_append_0 (Q : Int32 → SA → SV → Prop) (A : SA) (V : SV) (x1 : Int32) (x2 : Int32) (x3 : Int32) : Prop := (((V 2) < (16 : Int32) → (vp_in (V 2) 16 ∧ (∀ A_2 : SA, A_2 = up A 4 (V 2).toNatClampNeg x1 → (vp_in (V 2) 16 ∧ (∀ A_3 : SA, A_3 = up A_2 5 (V 2).toNatClampNeg x2 → (vp_in (V 2) 16 ∧ (∀ A_4 : SA, A_4 = up A_3 6 (V 2).toNatClampNeg x3 → (vp_in (V 2) 16 ∧ (∀ A_5 : SA, A_5 = up A_4 7 (V 2).toNatClampNeg (0 : Int32) → (vp_in (V 2) 16 ∧ (∀ A_6 : SA, A_6 = up A_5 8 (V 2).toNatClampNeg (0 : Int32) → (∀ V_7 : SV, V_7 = uv V 2 ((V 2) + (1 : Int32)) → Q (V 2) A_6 V_7)))))))))))) ∧ (¬ ((V 2) < (16 : Int32)) → Q (-1 : Int32) A V))
set_option maxHeartbeats 4000000 in
set_option maxRecDepth 100000 in
theorem wk_X1_append_0 (Q : Int32 → SA → SV → Prop) (cx : CX RX1 cX1_append 5 wsX1_append D [(cI, .int), (cZ, .boolean)] p s m args c A0) (hret : ∀ (pc : Nat) (ls : Array Slot) (r : Int32) (u : SA × SV) (H : Heap) (locs : List Loc), narrow .int (.int r) = .int r → decode cX1_append pc = .ok (.ireturn, 1) → Q r u.1 u.2 → WS D s A0 (wO ad cI cZ u.1 u.2) H locs → W p l e rmX1_append s m args below meth c H locs rmX1_append.cells rmX1_append.slots Z (F0 m pc ls [.int r]))  : ∀ (A : SA) (V : SV) (x1 : Int32) (x2 : Int32) (x3 : Int32) (h : wb_X1_append_0 Q A V x1 x2 x3) (H : Heap) (locs : List Loc) (ls : Array Slot) (hw : WS D s A0 (wO ad cI cZ A V) H locs) (hl : lv_has ls 5 [(0, .ref (ad 3)), (1, .int x1), (2, .int x2), (3, .int x3)]), W p l e rmX1_append s m args below meth c H locs 0 0 Z (F0 m 0 ls []) := by
  obtain ⟨hx, hb, hml, hown, hts, hK, hA⟩ := id cx
  intro A V x1 x2 x3 h H locs ls hw hl
  refine lv_aload_n (pc := 0) hx hb dX1_append_0 rfl (lv_at hl 0 rfl) ?_
  refine geO_X1_5 (pc := 1) cx inX1_append_X1 kX1_append_27 hw dX1_append_1 ?_
  refine lv_bipush (pc := 4) (v := (16 : Int32)) hx hb dX1_append_4 (by decide) ?_
  refine lv_icmp_lt (pc := 6) (tgt := 11) hx hb dX1_append_6 (by decide) (fun c1 => ?_) (fun c1 => ?_)
  · have h := h.1 c1
    refine lv_aload_n (pc := 11) hx hb dX1_append_11 rfl (lv_at hl 0 rfl) ?_
    refine geO_X1_5 (pc := 12) cx inX1_append_X1 kX1_append_27 hw dX1_append_12 ?_
    refine lv_istore (pc := 15) (lv' := [(4, .int (V 2)), (0, .ref (ad 3)), (1, .int x1), (2, .int x2), (3, .int x3)]) hx hb dX1_append_15 hl (by decide) rfl (fun ls hl => ?_)
    refine lv_aload_n (pc := 17) hx hb dX1_append_17 rfl (lv_at hl 1 rfl) ?_
    refine geO_X1_0 (pc := 18) cx inX1_append_X1 kX1_append_9 hw dX1_append_18 ?_
    refine lv_iload (pc := 21) hx hb dX1_append_21 (lv_at hl 0 rfl) ?_
    refine lv_iload_n (pc := 23) hx hb dX1_append_23 rfl (lv_at hl 2 rfl) ?_
    refine asO_4 (pc := 24) cx hw h.1 dX1_append_24 (fun A_2 eA_2 H locs hw => ?_)
    have h := h.2 A_2 eA_2
    refine lv_aload_n (pc := 25) hx hb dX1_append_25 rfl (lv_at hl 1 rfl) ?_
    refine geO_X1_1 (pc := 26) cx inX1_append_X1 kX1_append_15 hw dX1_append_26 ?_
    refine lv_iload (pc := 29) hx hb dX1_append_29 (lv_at hl 0 rfl) ?_
    refine lv_iload_n (pc := 31) hx hb dX1_append_31 rfl (lv_at hl 3 rfl) ?_
    refine asO_5 (pc := 32) cx hw h.1 dX1_append_32 (fun A_3 eA_3 H locs hw => ?_)
    have h := h.2 A_3 eA_3
    refine lv_aload_n (pc := 33) hx hb dX1_append_33 rfl (lv_at hl 1 rfl) ?_
    refine geO_X1_2 (pc := 34) cx inX1_append_X1 kX1_append_18 hw dX1_append_34 ?_
    refine lv_iload (pc := 37) hx hb dX1_append_37 (lv_at hl 0 rfl) ?_
    refine lv_iload_n (pc := 39) hx hb dX1_append_39 rfl (lv_at hl 4 rfl) ?_
    refine asO_6 (pc := 40) cx hw h.1 dX1_append_40 (fun A_4 eA_4 H locs hw => ?_)
    have h := h.2 A_4 eA_4
    refine lv_aload_n (pc := 41) hx hb dX1_append_41 rfl (lv_at hl 1 rfl) ?_
    refine geO_X1_3 (pc := 42) cx inX1_append_X1 kX1_append_21 hw dX1_append_42 ?_
    refine lv_iload (pc := 45) hx hb dX1_append_45 (lv_at hl 0 rfl) ?_
    refine lv_iconst (pc := 47) (v := (0 : Int32)) hx hb dX1_append_47 (by decide) ?_
    refine asO_7 (pc := 48) cx hw h.1 dX1_append_48 (fun A_5 eA_5 H locs hw => ?_)
    have h := h.2 A_5 eA_5
    refine lv_aload_n (pc := 49) hx hb dX1_append_49 rfl (lv_at hl 1 rfl) ?_
    refine geO_X1_4 (pc := 50) cx inX1_append_X1 kX1_append_24 hw dX1_append_50 ?_
    refine lv_iload (pc := 53) hx hb dX1_append_53 (lv_at hl 0 rfl) ?_
    refine lv_iconst (pc := 55) (v := (0 : Int32)) hx hb dX1_append_55 (by decide) ?_
    refine asO_8 (pc := 56) cx hw h.1 dX1_append_56 (fun A_6 eA_6 H locs hw => ?_)
    have h := h.2 A_6 eA_6
    refine lv_aload_n (pc := 57) hx hb dX1_append_57 rfl (lv_at hl 1 rfl) ?_
    refine lv_dup (pc := 58) hx hb dX1_append_58 rfl ?_
    refine geO_X1_5 (pc := 59) cx inX1_append_X1 kX1_append_27 hw dX1_append_59 ?_
    refine lv_iconst (pc := 62) (v := (1 : Int32)) hx hb dX1_append_62 (by decide) ?_
    refine lv_iadd (pc := 63) hx hb dX1_append_63 ?_
    refine puO_X1_5 (pc := 64) cx inX1_append_X1 kX1_append_27 hw dX1_append_64 (fun V_7 eV_7 H locs hw => ?_)
    have h := h V_7 eV_7
    refine lv_iload (pc := 67) hx hb dX1_append_67 (lv_at hl 0 rfl) ?_
    exact hret 69 _ _ (A_6, V_7) _ _ rfl dX1_append_69 h hw
  · have h := h.2 c1
    refine lv_iconst (pc := 9) (v := (-1 : Int32)) hx hb dX1_append_9 (by decide) ?_
    exact hret 10 _ _ (A, V) _ _ rfl dX1_append_10 h hw
def wpX1_append (A : SA) (V : SV) (x1 : Int32) (x2 : Int32) (x3 : Int32) (Q : Int32 → SA → SV → Prop) : Prop := wb_X1_append_0 Q A V x1 x2 x3
set_option maxHeartbeats 4000000 in
set_option maxRecDepth 100000 in
theorem metX1_append (l : Launch) (D : va_G) (cI cZ : ClassId) (ad : Nat → Nat) (sz : Nat) (A : SA) (V : SV) (x1 : Int32) (x2 : Int32) (x3 : Int32) (Q : Int32 → SA → SV → Prop) (h : wpX1_append A V x1 x2 x3 Q) : Met l yX1_append wsX1_append rmX1_append (PcW D [(cI, .int), (cZ, .boolean)] (wO ad cI cZ A V) sz [.ref (ad 3), .int x1, .int x2, .int x3]) (QiW D [(cI, .int), (cZ, .boolean)] (wO ad cI cZ A V) sz (fun u : SA × SV => (wO ad cI cZ u.1 u.2)) (fun r u => Q r u.1 u.2)) rmX1_append.cells rmX1_append.slots (va_A (wO ad cI cZ A V) sz) := by
  refine startI (plainFor_of_name (by decide)) rfl (Nat.le_of_ble_eq_true rfl) ?_
  intro p e s m args below meth c A0 Z cx hw hret ls hl
  exact wk_X1_append_0 Q cx hret A V x1 x2 x3 h _ _ _ hw hl
abbrev rmX1_heightOf : Room := { frames := 1, cells := 0, slots := 0, locals := 21 }
theorem inX1_heightOf_X1 : ∀ w ∈ wsX10, w ∈ wsX1_heightOf := by decide +kernel
theorem kX1_heightOf_9 : Cond.fieldLink RX1 9 "DrownedPost$Drowned" "height" "[I" ∈ wsX1_heightOf := by decide +kernel
def wb_X1_heightOf_0 (Q : Int32 → SA → SV → Prop) (A : SA) (V : SV) (x1 : Int32) : Prop := (wpX1_has A V x1 (fun r1 A_4 V_5 => ((r1 = 0 → Q (0 : Int32) A_4 V_5) ∧ (¬ (r1 = 0) → (vp_in x1 16 ∧ Q (A_4 4 x1.toNatClampNeg) A_4 V_5)))))
set_option maxHeartbeats 4000000 in
set_option maxRecDepth 100000 in
theorem wk_X1_heightOf_0 (Q : Int32 → SA → SV → Prop) (cx : CX RX1 cX1_heightOf 2 wsX1_heightOf D [(cI, .int), (cZ, .boolean)] p s m args c A0) (hret : ∀ (pc : Nat) (ls : Array Slot) (r : Int32) (u : SA × SV) (H : Heap) (locs : List Loc), narrow .int (.int r) = .int r → decode cX1_heightOf pc = .ok (.ireturn, 1) → Q r u.1 u.2 → WS D s A0 (wO ad cI cZ u.1 u.2) H locs → W p l e rmX1_heightOf s m args below meth c H locs rmX1_heightOf.cells rmX1_heightOf.slots Z (F0 m pc ls [.int r]))  : ∀ (A : SA) (V : SV) (x1 : Int32) (h : wb_X1_heightOf_0 Q A V x1) (H : Heap) (locs : List Loc) (ls : Array Slot) (hw : WS D s A0 (wO ad cI cZ A V) H locs) (hl : lv_has ls 2 [(0, .ref (ad 3)), (1, .int x1)]), W p l e rmX1_heightOf s m args below meth c H locs 0 0 Z (F0 m 0 ls []) := by
  obtain ⟨hx, hb, hml, hown, hts, hK, hA⟩ := id cx
  intro A V x1 h H locs ls hw hl
  refine lv_aload_n (pc := 0) hx hb dX1_heightOf_0 rfl (lv_at hl 0 rfl) ?_
  refine lv_iload_n (pc := 1) hx hb dX1_heightOf_1 rfl (lv_at hl 1 rfl) ?_
  refine callVi (pc := 2) (rest := []) (c1 := 0) (s1 := 0) cx hw hl (metX1_has l D cI cZ ad H.size A V x1 _ h) (fun hts => cwV 1 hts gX1_heightOf_X1_has rfl rfl rfl (by decide +kernel) ⟨Nat.le_of_ble_eq_true rfl, Nat.le_of_ble_eq_true rfl⟩) SUB.rf [0, 1] rfl 3 (ci := 1) rfl rfl rfl (JN.rf) rfl rfl (Nat.le_of_ble_eq_true rfl) ⟨Nat.le_of_ble_eq_true rfl, Nat.le_of_ble_eq_true rfl⟩ rfl rfl dX1_heightOf_2 (fun r1 u H locs h hw => ?_)
  obtain ⟨A_4, V_5⟩ := u
  refine lv_if_eq (pc := 5) (tgt := 17) hx hb dX1_heightOf_5 (by decide) (fun c6 => ?_) (fun c6 => ?_)
  · have h := h.1 c6
    refine lv_iconst (pc := 17) (v := (0 : Int32)) hx hb dX1_heightOf_17 (by decide) ?_
    exact hret 18 _ _ (A_4, V_5) _ _ rfl dX1_heightOf_18 h hw
  · have h := h.2 c6
    refine lv_aload_n (pc := 8) hx hb dX1_heightOf_8 rfl (lv_at hl 0 rfl) ?_
    refine geO_X1_0 (pc := 9) cx inX1_heightOf_X1 kX1_heightOf_9 hw dX1_heightOf_9 ?_
    refine lv_iload_n (pc := 12) hx hb dX1_heightOf_12 rfl (lv_at hl 1 rfl) ?_
    refine alO_4 (pc := 13) cx hw h.1 dX1_heightOf_13 ?_
    have h := h.2
    refine lv_goto (pc := 14) (tgt := 18) hx hb dX1_heightOf_14 (by decide) ?_
    exact hret 18 _ _ (A_4, V_5) _ _ rfl dX1_heightOf_18 h hw
def wpX1_heightOf (A : SA) (V : SV) (x1 : Int32) (Q : Int32 → SA → SV → Prop) : Prop := wb_X1_heightOf_0 Q A V x1
set_option maxHeartbeats 4000000 in
set_option maxRecDepth 100000 in
theorem metX1_heightOf (l : Launch) (D : va_G) (cI cZ : ClassId) (ad : Nat → Nat) (sz : Nat) (A : SA) (V : SV) (x1 : Int32) (Q : Int32 → SA → SV → Prop) (h : wpX1_heightOf A V x1 Q) : Met l yX1_heightOf wsX1_heightOf rmX1_heightOf (PcW D [(cI, .int), (cZ, .boolean)] (wO ad cI cZ A V) sz [.ref (ad 3), .int x1]) (QiW D [(cI, .int), (cZ, .boolean)] (wO ad cI cZ A V) sz (fun u : SA × SV => (wO ad cI cZ u.1 u.2)) (fun r u => Q r u.1 u.2)) rmX1_heightOf.cells rmX1_heightOf.slots (va_A (wO ad cI cZ A V) sz) := by
  refine startI (plainFor_of_name (by decide)) rfl (Nat.le_of_ble_eq_true rfl) ?_
  intro p e s m args below meth c A0 Z cx hw hret ls hl
  exact wk_X1_heightOf_0 Q cx hret A V x1 h _ _ _ hw hl
abbrev rmX1_gets : Room := { frames := 1, cells := 0, slots := 0, locals := 21 }
theorem inX1_gets_X1 : ∀ w ∈ wsX10, w ∈ wsX1_gets := by decide +kernel
theorem kX1_gets_15 : Cond.fieldLink RX1 15 "DrownedPost$Drowned" "n" "[I" ∈ wsX1_gets := by decide +kernel
theorem kX1_gets_21 : Cond.fieldLink RX1 21 "DrownedPost$Drowned" "got" "[I" ∈ wsX1_gets := by decide +kernel
def wb_X1_gets_0 (Q : Int32 → SA → SV → Prop) (A : SA) (V : SV) (x1 : Int32) : Prop := (wpX1_has A V x1 (fun r1 A_4 V_5 => ((¬ r1 = 0 → (vp_in x1 16 ∧ (vp_in x1 16 ∧ (∀ A_7 : SA, A_7 = up A_4 7 x1.toNatClampNeg ((A_4 7 x1.toNatClampNeg) + (1 : Int32)) → (vp_in x1 16 ∧ (((A_7 5 x1.toNatClampNeg) ≤ 0 → Q (0 : Int32) A_7 V_5) ∧ (¬ ((A_7 5 x1.toNatClampNeg) ≤ 0) → (vp_in x1 16 ∧ (vp_in x1 16 ∧ (¬ (A_7 5 x1.toNatClampNeg) = 0 ∧ ((¬ ((A_7 7 x1.toNatClampNeg) - (A_7 7 x1.toNatClampNeg) / (A_7 5 x1.toNatClampNeg) * (A_7 5 x1.toNatClampNeg)) = 0 → Q (0 : Int32) A_7 V_5) ∧ (((A_7 7 x1.toNatClampNeg) - (A_7 7 x1.toNatClampNeg) / (A_7 5 x1.toNatClampNeg) * (A_7 5 x1.toNatClampNeg)) = 0 → Q (1 : Int32) A_7 V_5)))))))))))) ∧ (r1 = 0 → Q (0 : Int32) A_4 V_5))))
set_option maxHeartbeats 4000000 in
set_option maxRecDepth 100000 in
theorem wk_X1_gets_0 (Q : Int32 → SA → SV → Prop) (cx : CX RX1 cX1_gets 2 wsX1_gets D [(cI, .int), (cZ, .boolean)] p s m args c A0) (hret : ∀ (pc : Nat) (ls : Array Slot) (r : Int32) (u : SA × SV) (H : Heap) (locs : List Loc), narrow .boolean (.int r) = .int r → decode cX1_gets pc = .ok (.ireturn, 1) → Q r u.1 u.2 → WS D s A0 (wO ad cI cZ u.1 u.2) H locs → W p l e rmX1_gets s m args below meth c H locs rmX1_gets.cells rmX1_gets.slots Z (F0 m pc ls [.int r]))  : ∀ (A : SA) (V : SV) (x1 : Int32) (h : wb_X1_gets_0 Q A V x1) (H : Heap) (locs : List Loc) (ls : Array Slot) (hw : WS D s A0 (wO ad cI cZ A V) H locs) (hl : lv_has ls 2 [(0, .ref (ad 3)), (1, .int x1)]), W p l e rmX1_gets s m args below meth c H locs 0 0 Z (F0 m 0 ls []) := by
  obtain ⟨hx, hb, hml, hown, hts, hK, hA⟩ := id cx
  intro A V x1 h H locs ls hw hl
  refine lv_aload_n (pc := 0) hx hb dX1_gets_0 rfl (lv_at hl 0 rfl) ?_
  refine lv_iload_n (pc := 1) hx hb dX1_gets_1 rfl (lv_at hl 1 rfl) ?_
  refine callVi (pc := 2) (rest := []) (c1 := 0) (s1 := 0) cx hw hl (metX1_has l D cI cZ ad H.size A V x1 _ h) (fun hts => cwV 1 hts gX1_gets_X1_has rfl rfl rfl (by decide +kernel) ⟨Nat.le_of_ble_eq_true rfl, Nat.le_of_ble_eq_true rfl⟩) SUB.rf [0, 1] rfl 3 (ci := 1) rfl rfl rfl (JN.rf) rfl rfl (Nat.le_of_ble_eq_true rfl) ⟨Nat.le_of_ble_eq_true rfl, Nat.le_of_ble_eq_true rfl⟩ rfl rfl dX1_gets_2 (fun r1 u H locs h hw => ?_)
  obtain ⟨A_4, V_5⟩ := u
  refine lv_if_ne (pc := 5) (tgt := 10) hx hb dX1_gets_5 (by decide) (fun c6 => ?_) (fun c6 => ?_)
  · have h := h.1 c6
    refine lv_aload_n (pc := 10) hx hb dX1_gets_10 rfl (lv_at hl 0 rfl) ?_
    refine geO_X1_3 (pc := 11) cx inX1_gets_X1 kX1_gets_21 hw dX1_gets_11 ?_
    refine lv_iload_n (pc := 14) hx hb dX1_gets_14 rfl (lv_at hl 1 rfl) ?_
    refine lv_dup2_11 (pc := 15) hx hb dX1_gets_15 rfl rfl ?_
    refine alO_7 (pc := 16) cx hw h.1 dX1_gets_16 ?_
    have h := h.2
    refine lv_iconst (pc := 17) (v := (1 : Int32)) hx hb dX1_gets_17 (by decide) ?_
    refine lv_iadd (pc := 18) hx hb dX1_gets_18 ?_
    refine asO_7 (pc := 19) cx hw h.1 dX1_gets_19 (fun A_7 eA_7 H locs hw => ?_)
    have h := h.2 A_7 eA_7
    refine lv_aload_n (pc := 20) hx hb dX1_gets_20 rfl (lv_at hl 0 rfl) ?_
    refine geO_X1_1 (pc := 21) cx inX1_gets_X1 kX1_gets_15 hw dX1_gets_21 ?_
    refine lv_iload_n (pc := 24) hx hb dX1_gets_24 rfl (lv_at hl 1 rfl) ?_
    refine alO_5 (pc := 25) cx hw h.1 dX1_gets_25 ?_
    have h := h.2
    refine lv_if_le (pc := 26) (tgt := 49) hx hb dX1_gets_26 (by decide) (fun c8 => ?_) (fun c8 => ?_)
    · have h := h.1 c8
      refine lv_iconst (pc := 49) (v := (0 : Int32)) hx hb dX1_gets_49 (by decide) ?_
      exact hret 50 _ _ (A_7, V_5) _ _ rfl dX1_gets_50 h hw
    · have h := h.2 c8
      refine lv_aload_n (pc := 29) hx hb dX1_gets_29 rfl (lv_at hl 0 rfl) ?_
      refine geO_X1_3 (pc := 30) cx inX1_gets_X1 kX1_gets_21 hw dX1_gets_30 ?_
      refine lv_iload_n (pc := 33) hx hb dX1_gets_33 rfl (lv_at hl 1 rfl) ?_
      refine alO_7 (pc := 34) cx hw h.1 dX1_gets_34 ?_
      have h := h.2
      refine lv_aload_n (pc := 35) hx hb dX1_gets_35 rfl (lv_at hl 0 rfl) ?_
      refine geO_X1_1 (pc := 36) cx inX1_gets_X1 kX1_gets_15 hw dX1_gets_36 ?_
      refine lv_iload_n (pc := 39) hx hb dX1_gets_39 rfl (lv_at hl 1 rfl) ?_
      refine alO_5 (pc := 40) cx hw h.1 dX1_gets_40 ?_
      have h := h.2
      refine lv_irem (pc := 41) hx hb dX1_gets_41 h.1 ?_
      have h := h.2
      refine lv_if_ne (pc := 42) (tgt := 49) hx hb dX1_gets_42 (by decide) (fun c9 => ?_) (fun c9 => ?_)
      · have h := h.1 c9
        refine lv_iconst (pc := 49) (v := (0 : Int32)) hx hb dX1_gets_49 (by decide) ?_
        exact hret 50 _ _ (A_7, V_5) _ _ rfl dX1_gets_50 h hw
      · have h := h.2 c9
        refine lv_iconst (pc := 45) (v := (1 : Int32)) hx hb dX1_gets_45 (by decide) ?_
        refine lv_goto (pc := 46) (tgt := 50) hx hb dX1_gets_46 (by decide) ?_
        exact hret 50 _ _ (A_7, V_5) _ _ rfl dX1_gets_50 h hw
  · have h := h.2 c6
    refine lv_iconst (pc := 8) (v := (0 : Int32)) hx hb dX1_gets_8 (by decide) ?_
    exact hret 9 _ _ (A_4, V_5) _ _ rfl dX1_gets_9 h hw
def wpX1_gets (A : SA) (V : SV) (x1 : Int32) (Q : Int32 → SA → SV → Prop) : Prop := wb_X1_gets_0 Q A V x1
set_option maxHeartbeats 4000000 in
set_option maxRecDepth 100000 in
theorem metX1_gets (l : Launch) (D : va_G) (cI cZ : ClassId) (ad : Nat → Nat) (sz : Nat) (A : SA) (V : SV) (x1 : Int32) (Q : Int32 → SA → SV → Prop) (h : wpX1_gets A V x1 Q) : Met l yX1_gets wsX1_gets rmX1_gets (PcW D [(cI, .int), (cZ, .boolean)] (wO ad cI cZ A V) sz [.ref (ad 3), .int x1]) (QiW D [(cI, .int), (cZ, .boolean)] (wO ad cI cZ A V) sz (fun u : SA × SV => (wO ad cI cZ u.1 u.2)) (fun r u => Q r u.1 u.2)) rmX1_gets.cells rmX1_gets.slots (va_A (wO ad cI cZ A V) sz) := by
  refine startI (plainFor_of_name (by decide)) rfl (Nat.le_of_ble_eq_true rfl) ?_
  intro p e s m args below meth c A0 Z cx hw hret ls hl
  exact wk_X1_gets_0 Q cx hret A V x1 h _ _ _ hw hl
abbrev rmX1_fact : Room := { frames := 1, cells := 0, slots := 0, locals := 21 }
theorem inX1_fact_X1 : ∀ w ∈ wsX10, w ∈ wsX1_fact := by decide +kernel
theorem kX1_fact_15 : Cond.fieldLink RX1 15 "DrownedPost$Drowned" "n" "[I" ∈ wsX1_fact := by decide +kernel
theorem kX1_fact_18 : Cond.fieldLink RX1 18 "DrownedPost$Drowned" "lag" "[I" ∈ wsX1_fact := by decide +kernel
theorem kX1_fact_21 : Cond.fieldLink RX1 21 "DrownedPost$Drowned" "got" "[I" ∈ wsX1_fact := by decide +kernel
theorem kX1_fact_24 : Cond.fieldLink RX1 24 "DrownedPost$Drowned" "written" "[I" ∈ wsX1_fact := by decide +kernel
theorem kX1_fact_9 : Cond.fieldLink RX1 9 "DrownedPost$Drowned" "height" "[I" ∈ wsX1_fact := by decide +kernel
def wb_X1_fact_0 (Q : Int32 → SA → SV → Prop) (A : SA) (V : SV) (x1 : Int32) (x2 : Int32) : Prop := (wpX1_has A V x1 (fun r1 A_4 V_5 => ((¬ r1 = 0 → ((x2 = (0 : Int32) → (vp_in x1 16 ∧ Q (A_4 4 x1.toNatClampNeg) A_4 V_5)) ∧ (¬ x2 = (0 : Int32) → ((x2 = (1 : Int32) → (vp_in x1 16 ∧ Q (A_4 5 x1.toNatClampNeg) A_4 V_5)) ∧ (¬ x2 = (1 : Int32) → ((x2 = (2 : Int32) → (vp_in x1 16 ∧ Q (A_4 6 x1.toNatClampNeg) A_4 V_5)) ∧ (¬ x2 = (2 : Int32) → ((x2 = (3 : Int32) → (vp_in x1 16 ∧ Q (A_4 7 x1.toNatClampNeg) A_4 V_5)) ∧ (¬ x2 = (3 : Int32) → ((x2 = (4 : Int32) → (vp_in x1 16 ∧ Q (A_4 8 x1.toNatClampNeg) A_4 V_5)) ∧ (¬ x2 = (4 : Int32) → Q (0 : Int32) A_4 V_5))))))))))) ∧ (r1 = 0 → Q (0 : Int32) A_4 V_5))))
set_option maxHeartbeats 4000000 in
set_option maxRecDepth 100000 in
theorem wk_X1_fact_0 (Q : Int32 → SA → SV → Prop) (cx : CX RX1 cX1_fact 3 wsX1_fact D [(cI, .int), (cZ, .boolean)] p s m args c A0) (hret : ∀ (pc : Nat) (ls : Array Slot) (r : Int32) (u : SA × SV) (H : Heap) (locs : List Loc), narrow .int (.int r) = .int r → decode cX1_fact pc = .ok (.ireturn, 1) → Q r u.1 u.2 → WS D s A0 (wO ad cI cZ u.1 u.2) H locs → W p l e rmX1_fact s m args below meth c H locs rmX1_fact.cells rmX1_fact.slots Z (F0 m pc ls [.int r]))  : ∀ (A : SA) (V : SV) (x1 : Int32) (x2 : Int32) (h : wb_X1_fact_0 Q A V x1 x2) (H : Heap) (locs : List Loc) (ls : Array Slot) (hw : WS D s A0 (wO ad cI cZ A V) H locs) (hl : lv_has ls 3 [(0, .ref (ad 3)), (1, .int x1), (2, .int x2)]), W p l e rmX1_fact s m args below meth c H locs 0 0 Z (F0 m 0 ls []) := by
  obtain ⟨hx, hb, hml, hown, hts, hK, hA⟩ := id cx
  intro A V x1 x2 h H locs ls hw hl
  refine lv_aload_n (pc := 0) hx hb dX1_fact_0 rfl (lv_at hl 0 rfl) ?_
  refine lv_iload_n (pc := 1) hx hb dX1_fact_1 rfl (lv_at hl 1 rfl) ?_
  refine callVi (pc := 2) (rest := []) (c1 := 0) (s1 := 0) cx hw hl (metX1_has l D cI cZ ad H.size A V x1 _ h) (fun hts => cwV 1 hts gX1_fact_X1_has rfl rfl rfl (by decide +kernel) ⟨Nat.le_of_ble_eq_true rfl, Nat.le_of_ble_eq_true rfl⟩) SUB.rf [0, 1] rfl 3 (ci := 1) rfl rfl rfl (JN.rf) rfl rfl (Nat.le_of_ble_eq_true rfl) ⟨Nat.le_of_ble_eq_true rfl, Nat.le_of_ble_eq_true rfl⟩ rfl rfl dX1_fact_2 (fun r1 u H locs h hw => ?_)
  obtain ⟨A_4, V_5⟩ := u
  refine lv_if_ne (pc := 5) (tgt := 10) hx hb dX1_fact_5 (by decide) (fun c6 => ?_) (fun c6 => ?_)
  · have h := h.1 c6
    refine lv_iload_n (pc := 10) hx hb dX1_fact_10 rfl (lv_at hl 2 rfl) ?_
    by_cases e7 : x2 = (0 : Int32)
    · have h := h.1 e7
      refine lv_tableIn (pc := 11) (off := 33) (tgt := 44) hx hb dX1_fact_11 (by rw [e7]; decide) (by rw [e7]; decide) (by rw [e7]; rfl) (by decide) ?_
      refine lv_aload_n (pc := 44) hx hb dX1_fact_44 rfl (lv_at hl 0 rfl) ?_
      refine geO_X1_0 (pc := 45) cx inX1_fact_X1 kX1_fact_9 hw dX1_fact_45 ?_
      refine lv_iload_n (pc := 48) hx hb dX1_fact_48 rfl (lv_at hl 1 rfl) ?_
      refine alO_4 (pc := 49) cx hw h.1 dX1_fact_49 ?_
      have h := h.2
      exact hret 50 _ _ (A_4, V_5) _ _ rfl dX1_fact_50 h hw
    · have h := h.2 e7
      by_cases e8 : x2 = (1 : Int32)
      · have h := h.1 e8
        refine lv_tableIn (pc := 11) (off := 40) (tgt := 51) hx hb dX1_fact_11 (by rw [e8]; decide) (by rw [e8]; decide) (by rw [e8]; rfl) (by decide) ?_
        refine lv_aload_n (pc := 51) hx hb dX1_fact_51 rfl (lv_at hl 0 rfl) ?_
        refine geO_X1_1 (pc := 52) cx inX1_fact_X1 kX1_fact_15 hw dX1_fact_52 ?_
        refine lv_iload_n (pc := 55) hx hb dX1_fact_55 rfl (lv_at hl 1 rfl) ?_
        refine alO_5 (pc := 56) cx hw h.1 dX1_fact_56 ?_
        have h := h.2
        exact hret 57 _ _ (A_4, V_5) _ _ rfl dX1_fact_57 h hw
      · have h := h.2 e8
        by_cases e9 : x2 = (2 : Int32)
        · have h := h.1 e9
          refine lv_tableIn (pc := 11) (off := 47) (tgt := 58) hx hb dX1_fact_11 (by rw [e9]; decide) (by rw [e9]; decide) (by rw [e9]; rfl) (by decide) ?_
          refine lv_aload_n (pc := 58) hx hb dX1_fact_58 rfl (lv_at hl 0 rfl) ?_
          refine geO_X1_2 (pc := 59) cx inX1_fact_X1 kX1_fact_18 hw dX1_fact_59 ?_
          refine lv_iload_n (pc := 62) hx hb dX1_fact_62 rfl (lv_at hl 1 rfl) ?_
          refine alO_6 (pc := 63) cx hw h.1 dX1_fact_63 ?_
          have h := h.2
          exact hret 64 _ _ (A_4, V_5) _ _ rfl dX1_fact_64 h hw
        · have h := h.2 e9
          by_cases e10 : x2 = (3 : Int32)
          · have h := h.1 e10
            refine lv_tableIn (pc := 11) (off := 54) (tgt := 65) hx hb dX1_fact_11 (by rw [e10]; decide) (by rw [e10]; decide) (by rw [e10]; rfl) (by decide) ?_
            refine lv_aload_n (pc := 65) hx hb dX1_fact_65 rfl (lv_at hl 0 rfl) ?_
            refine geO_X1_3 (pc := 66) cx inX1_fact_X1 kX1_fact_21 hw dX1_fact_66 ?_
            refine lv_iload_n (pc := 69) hx hb dX1_fact_69 rfl (lv_at hl 1 rfl) ?_
            refine alO_7 (pc := 70) cx hw h.1 dX1_fact_70 ?_
            have h := h.2
            exact hret 71 _ _ (A_4, V_5) _ _ rfl dX1_fact_71 h hw
          · have h := h.2 e10
            by_cases e11 : x2 = (4 : Int32)
            · have h := h.1 e11
              refine lv_tableIn (pc := 11) (off := 61) (tgt := 72) hx hb dX1_fact_11 (by rw [e11]; decide) (by rw [e11]; decide) (by rw [e11]; rfl) (by decide) ?_
              refine lv_aload_n (pc := 72) hx hb dX1_fact_72 rfl (lv_at hl 0 rfl) ?_
              refine geO_X1_4 (pc := 73) cx inX1_fact_X1 kX1_fact_24 hw dX1_fact_73 ?_
              refine lv_iload_n (pc := 76) hx hb dX1_fact_76 rfl (lv_at hl 1 rfl) ?_
              refine alO_8 (pc := 77) cx hw h.1 dX1_fact_77 ?_
              have h := h.2
              exact hret 78 _ _ (A_4, V_5) _ _ rfl dX1_fact_78 h hw
            · have h := h.2 e11
              refine lv_tableOut (pc := 11) (tgt := 79) hx hb dX1_fact_11 (tsw 4 (by decide) (fun i hi => match i, hi with | 0, _ => e7 | 1, _ => e8 | 2, _ => e9 | 3, _ => e10 | 4, _ => e11 | _ + 5, hi => absurd hi (by omega))) (by decide) ?_
              refine lv_iconst (pc := 79) (v := (0 : Int32)) hx hb dX1_fact_79 (by decide) ?_
              exact hret 80 _ _ (A_4, V_5) _ _ rfl dX1_fact_80 h hw
  · have h := h.2 c6
    refine lv_iconst (pc := 8) (v := (0 : Int32)) hx hb dX1_fact_8 (by decide) ?_
    exact hret 9 _ _ (A_4, V_5) _ _ rfl dX1_fact_9 h hw
def wpX1_fact (A : SA) (V : SV) (x1 : Int32) (x2 : Int32) (Q : Int32 → SA → SV → Prop) : Prop := wb_X1_fact_0 Q A V x1 x2
set_option maxHeartbeats 4000000 in
set_option maxRecDepth 100000 in
theorem metX1_fact (l : Launch) (D : va_G) (cI cZ : ClassId) (ad : Nat → Nat) (sz : Nat) (A : SA) (V : SV) (x1 : Int32) (x2 : Int32) (Q : Int32 → SA → SV → Prop) (h : wpX1_fact A V x1 x2 Q) : Met l yX1_fact wsX1_fact rmX1_fact (PcW D [(cI, .int), (cZ, .boolean)] (wO ad cI cZ A V) sz [.ref (ad 3), .int x1, .int x2]) (QiW D [(cI, .int), (cZ, .boolean)] (wO ad cI cZ A V) sz (fun u : SA × SV => (wO ad cI cZ u.1 u.2)) (fun r u => Q r u.1 u.2)) rmX1_fact.cells rmX1_fact.slots (va_A (wO ad cI cZ A V) sz) := by
  refine startI (plainFor_of_name (by decide)) rfl (Nat.le_of_ble_eq_true rfl) ?_
  intro p e s m args below meth c A0 Z cx hw hret ls hl
  exact wk_X1_fact_0 Q cx hret A V x1 x2 h _ _ _ hw hl
abbrev rmX2_has : Room := { frames := 0, cells := 0, slots := 0, locals := 0 }
theorem inX2_has_X2 : ∀ w ∈ wsX20, w ∈ wsX2_has := by decide +kernel
theorem kX2_has_39 : Cond.fieldLink RX2 39 "DrownedPost$Letters" "count" "I" ∈ wsX2_has := by decide +kernel
def wb_X2_has_0 (Q : Int32 → SA → SV → Prop) (A : SA) (V : SV) (x1 : Int32) : Prop := ((x1 < 0 → Q (0 : Int32) A V) ∧ (¬ (x1 < 0) → (((V 3) ≤ x1 → Q (0 : Int32) A V) ∧ (¬ ((V 3) ≤ x1) → Q (1 : Int32) A V))))
set_option maxHeartbeats 4000000 in
set_option maxRecDepth 100000 in
theorem wk_X2_has_0 (Q : Int32 → SA → SV → Prop) (cx : CX RX2 cX2_has 2 wsX2_has D [(cI, .int), (cZ, .boolean)] p s m args c A0) (hret : ∀ (pc : Nat) (ls : Array Slot) (r : Int32) (u : SA × SV) (H : Heap) (locs : List Loc), narrow .boolean (.int r) = .int r → decode cX2_has pc = .ok (.ireturn, 1) → Q r u.1 u.2 → WS D s A0 (wO ad cI cZ u.1 u.2) H locs → W p l e rmX2_has s m args below meth c H locs rmX2_has.cells rmX2_has.slots Z (F0 m pc ls [.int r]))  : ∀ (A : SA) (V : SV) (x1 : Int32) (h : wb_X2_has_0 Q A V x1) (H : Heap) (locs : List Loc) (ls : Array Slot) (hw : WS D s A0 (wO ad cI cZ A V) H locs) (hl : lv_has ls 2 [(0, .ref (ad 4)), (1, .int x1)]), W p l e rmX2_has s m args below meth c H locs 0 0 Z (F0 m 0 ls []) := by
  obtain ⟨hx, hb, hml, hown, hts, hK, hA⟩ := id cx
  intro A V x1 h H locs ls hw hl
  refine lv_iload_n (pc := 0) hx hb dX2_has_0 rfl (lv_at hl 1 rfl) ?_
  refine lv_if_lt (pc := 1) (tgt := 16) hx hb dX2_has_1 (by decide) (fun c1 => ?_) (fun c1 => ?_)
  · have h := h.1 c1
    refine lv_iconst (pc := 16) (v := (0 : Int32)) hx hb dX2_has_16 (by decide) ?_
    exact hret 17 _ _ (A, V) _ _ rfl dX2_has_17 h hw
  · have h := h.2 c1
    refine lv_iload_n (pc := 4) hx hb dX2_has_4 rfl (lv_at hl 1 rfl) ?_
    refine lv_aload_n (pc := 5) hx hb dX2_has_5 rfl (lv_at hl 0 rfl) ?_
    refine geO_X2_9 (pc := 6) cx inX2_has_X2 kX2_has_39 hw dX2_has_6 ?_
    refine lv_icmp_ge (pc := 9) (tgt := 16) hx hb dX2_has_9 (by decide) (fun c2 => ?_) (fun c2 => ?_)
    · have h := h.1 c2
      refine lv_iconst (pc := 16) (v := (0 : Int32)) hx hb dX2_has_16 (by decide) ?_
      exact hret 17 _ _ (A, V) _ _ rfl dX2_has_17 h hw
    · have h := h.2 c2
      refine lv_iconst (pc := 12) (v := (1 : Int32)) hx hb dX2_has_12 (by decide) ?_
      refine lv_goto (pc := 13) (tgt := 17) hx hb dX2_has_13 (by decide) ?_
      exact hret 17 _ _ (A, V) _ _ rfl dX2_has_17 h hw
def wpX2_has (A : SA) (V : SV) (x1 : Int32) (Q : Int32 → SA → SV → Prop) : Prop := wb_X2_has_0 Q A V x1
set_option maxHeartbeats 4000000 in
set_option maxRecDepth 100000 in
theorem metX2_has (l : Launch) (D : va_G) (cI cZ : ClassId) (ad : Nat → Nat) (sz : Nat) (A : SA) (V : SV) (x1 : Int32) (Q : Int32 → SA → SV → Prop) (h : wpX2_has A V x1 Q) : Met l yX2_has wsX2_has rmX2_has (PcW D [(cI, .int), (cZ, .boolean)] (wO ad cI cZ A V) sz [.ref (ad 4), .int x1]) (QiW D [(cI, .int), (cZ, .boolean)] (wO ad cI cZ A V) sz (fun u : SA × SV => (wO ad cI cZ u.1 u.2)) (fun r u => Q r u.1 u.2)) rmX2_has.cells rmX2_has.slots (va_A (wO ad cI cZ A V) sz) := by
  refine startI (plainFor_of_name (by decide)) rfl (Nat.le_of_ble_eq_true rfl) ?_
  intro p e s m args below meth c A0 Z cx hw hret ls hl
  exact wk_X2_has_0 Q cx hret A V x1 h _ _ _ hw hl
abbrev rmX2_append : Room := { frames := 0, cells := 0, slots := 0, locals := 0 }
theorem inX2_append_X2 : ∀ w ∈ wsX20, w ∈ wsX2_append := by decide +kernel
theorem kX2_append_15 : Cond.fieldLink RX2 15 "DrownedPost$Letters" "weight" "[I" ∈ wsX2_append := by decide +kernel
theorem kX2_append_18 : Cond.fieldLink RX2 18 "DrownedPost$Letters" "seal" "[I" ∈ wsX2_append := by decide +kernel
theorem kX2_append_21 : Cond.fieldLink RX2 21 "DrownedPost$Letters" "state" "[I" ∈ wsX2_append := by decide +kernel
theorem kX2_append_24 : Cond.fieldLink RX2 24 "DrownedPost$Letters" "growth" "[I" ∈ wsX2_append := by decide +kernel
theorem kX2_append_27 : Cond.fieldLink RX2 27 "DrownedPost$Letters" "bin" "[I" ∈ wsX2_append := by decide +kernel
theorem kX2_append_30 : Cond.fieldLink RX2 30 "DrownedPost$Letters" "held" "[I" ∈ wsX2_append := by decide +kernel
theorem kX2_append_33 : Cond.fieldLink RX2 33 "DrownedPost$Letters" "hoursBefore" "[I" ∈ wsX2_append := by decide +kernel
theorem kX2_append_36 : Cond.fieldLink RX2 36 "DrownedPost$Letters" "answered" "[I" ∈ wsX2_append := by decide +kernel
theorem kX2_append_39 : Cond.fieldLink RX2 39 "DrownedPost$Letters" "count" "I" ∈ wsX2_append := by decide +kernel
theorem kX2_append_9 : Cond.fieldLink RX2 9 "DrownedPost$Letters" "to" "[I" ∈ wsX2_append := by decide +kernel
def wb_X2_append_0 (Q : Int32 → SA → SV → Prop) (A : SA) (V : SV) (x1 : Int32) (x2 : Int32) (x3 : Int32) : Prop := (((V 3) < (150 : Int32) → (vp_in (V 3) 150 ∧ (∀ A_2 : SA, A_2 = up A 9 (V 3).toNatClampNeg x1 → (vp_in (V 3) 150 ∧ (∀ A_3 : SA, A_3 = up A_2 10 (V 3).toNatClampNeg x2 → (vp_in (V 3) 150 ∧ (∀ A_4 : SA, A_4 = up A_3 11 (V 3).toNatClampNeg x3 → (vp_in (V 3) 150 ∧ (∀ A_5 : SA, A_5 = up A_4 12 (V 3).toNatClampNeg (0 : Int32) → (vp_in (V 3) 150 ∧ (∀ A_6 : SA, A_6 = up A_5 13 (V 3).toNatClampNeg (0 : Int32) → (vp_in (V 3) 150 ∧ (∀ A_7 : SA, A_7 = up A_6 14 (V 3).toNatClampNeg (-1 : Int32) → (vp_in (V 3) 150 ∧ (∀ A_8 : SA, A_8 = up A_7 15 (V 3).toNatClampNeg (0 : Int32) → (vp_in (V 3) 150 ∧ (∀ A_9 : SA, A_9 = up A_8 16 (V 3).toNatClampNeg (0 : Int32) → (vp_in (V 3) 150 ∧ (∀ A_10 : SA, A_10 = up A_9 17 (V 3).toNatClampNeg (-1 : Int32) → (∀ V_11 : SV, V_11 = uv V 3 ((V 3) + (1 : Int32)) → Q (V 3) A_10 V_11)))))))))))))))))))) ∧ (¬ ((V 3) < (150 : Int32)) → Q (-1 : Int32) A V))
set_option maxHeartbeats 4000000 in
set_option maxRecDepth 100000 in
theorem wk_X2_append_0 (Q : Int32 → SA → SV → Prop) (cx : CX RX2 cX2_append 5 wsX2_append D [(cI, .int), (cZ, .boolean)] p s m args c A0) (hret : ∀ (pc : Nat) (ls : Array Slot) (r : Int32) (u : SA × SV) (H : Heap) (locs : List Loc), narrow .int (.int r) = .int r → decode cX2_append pc = .ok (.ireturn, 1) → Q r u.1 u.2 → WS D s A0 (wO ad cI cZ u.1 u.2) H locs → W p l e rmX2_append s m args below meth c H locs rmX2_append.cells rmX2_append.slots Z (F0 m pc ls [.int r]))  : ∀ (A : SA) (V : SV) (x1 : Int32) (x2 : Int32) (x3 : Int32) (h : wb_X2_append_0 Q A V x1 x2 x3) (H : Heap) (locs : List Loc) (ls : Array Slot) (hw : WS D s A0 (wO ad cI cZ A V) H locs) (hl : lv_has ls 5 [(0, .ref (ad 4)), (1, .int x1), (2, .int x2), (3, .int x3)]), W p l e rmX2_append s m args below meth c H locs 0 0 Z (F0 m 0 ls []) := by
  obtain ⟨hx, hb, hml, hown, hts, hK, hA⟩ := id cx
  intro A V x1 x2 x3 h H locs ls hw hl
  refine lv_aload_n (pc := 0) hx hb dX2_append_0 rfl (lv_at hl 0 rfl) ?_
  refine geO_X2_9 (pc := 1) cx inX2_append_X2 kX2_append_39 hw dX2_append_1 ?_
  refine lv_sipush (pc := 4) (v := (150 : Int32)) hx hb dX2_append_4 (by decide) ?_
  refine lv_icmp_lt (pc := 7) (tgt := 12) hx hb dX2_append_7 (by decide) (fun c1 => ?_) (fun c1 => ?_)
  · have h := h.1 c1
    refine lv_aload_n (pc := 12) hx hb dX2_append_12 rfl (lv_at hl 0 rfl) ?_
    refine geO_X2_9 (pc := 13) cx inX2_append_X2 kX2_append_39 hw dX2_append_13 ?_
    refine lv_istore (pc := 16) (lv' := [(4, .int (V 3)), (0, .ref (ad 4)), (1, .int x1), (2, .int x2), (3, .int x3)]) hx hb dX2_append_16 hl (by decide) rfl (fun ls hl => ?_)
    refine lv_aload_n (pc := 18) hx hb dX2_append_18 rfl (lv_at hl 1 rfl) ?_
    refine geO_X2_0 (pc := 19) cx inX2_append_X2 kX2_append_9 hw dX2_append_19 ?_
    refine lv_iload (pc := 22) hx hb dX2_append_22 (lv_at hl 0 rfl) ?_
    refine lv_iload_n (pc := 24) hx hb dX2_append_24 rfl (lv_at hl 2 rfl) ?_
    refine asO_9 (pc := 25) cx hw h.1 dX2_append_25 (fun A_2 eA_2 H locs hw => ?_)
    have h := h.2 A_2 eA_2
    refine lv_aload_n (pc := 26) hx hb dX2_append_26 rfl (lv_at hl 1 rfl) ?_
    refine geO_X2_1 (pc := 27) cx inX2_append_X2 kX2_append_15 hw dX2_append_27 ?_
    refine lv_iload (pc := 30) hx hb dX2_append_30 (lv_at hl 0 rfl) ?_
    refine lv_iload_n (pc := 32) hx hb dX2_append_32 rfl (lv_at hl 3 rfl) ?_
    refine asO_10 (pc := 33) cx hw h.1 dX2_append_33 (fun A_3 eA_3 H locs hw => ?_)
    have h := h.2 A_3 eA_3
    refine lv_aload_n (pc := 34) hx hb dX2_append_34 rfl (lv_at hl 1 rfl) ?_
    refine geO_X2_2 (pc := 35) cx inX2_append_X2 kX2_append_18 hw dX2_append_35 ?_
    refine lv_iload (pc := 38) hx hb dX2_append_38 (lv_at hl 0 rfl) ?_
    refine lv_iload_n (pc := 40) hx hb dX2_append_40 rfl (lv_at hl 4 rfl) ?_
    refine asO_11 (pc := 41) cx hw h.1 dX2_append_41 (fun A_4 eA_4 H locs hw => ?_)
    have h := h.2 A_4 eA_4
    refine lv_aload_n (pc := 42) hx hb dX2_append_42 rfl (lv_at hl 1 rfl) ?_
    refine geO_X2_3 (pc := 43) cx inX2_append_X2 kX2_append_21 hw dX2_append_43 ?_
    refine lv_iload (pc := 46) hx hb dX2_append_46 (lv_at hl 0 rfl) ?_
    refine lv_iconst (pc := 48) (v := (0 : Int32)) hx hb dX2_append_48 (by decide) ?_
    refine asO_12 (pc := 49) cx hw h.1 dX2_append_49 (fun A_5 eA_5 H locs hw => ?_)
    have h := h.2 A_5 eA_5
    refine lv_aload_n (pc := 50) hx hb dX2_append_50 rfl (lv_at hl 1 rfl) ?_
    refine geO_X2_4 (pc := 51) cx inX2_append_X2 kX2_append_24 hw dX2_append_51 ?_
    refine lv_iload (pc := 54) hx hb dX2_append_54 (lv_at hl 0 rfl) ?_
    refine lv_iconst (pc := 56) (v := (0 : Int32)) hx hb dX2_append_56 (by decide) ?_
    refine asO_13 (pc := 57) cx hw h.1 dX2_append_57 (fun A_6 eA_6 H locs hw => ?_)
    have h := h.2 A_6 eA_6
    refine lv_aload_n (pc := 58) hx hb dX2_append_58 rfl (lv_at hl 1 rfl) ?_
    refine geO_X2_5 (pc := 59) cx inX2_append_X2 kX2_append_27 hw dX2_append_59 ?_
    refine lv_iload (pc := 62) hx hb dX2_append_62 (lv_at hl 0 rfl) ?_
    refine lv_iconst (pc := 64) (v := (-1 : Int32)) hx hb dX2_append_64 (by decide) ?_
    refine asO_14 (pc := 65) cx hw h.1 dX2_append_65 (fun A_7 eA_7 H locs hw => ?_)
    have h := h.2 A_7 eA_7
    refine lv_aload_n (pc := 66) hx hb dX2_append_66 rfl (lv_at hl 1 rfl) ?_
    refine geO_X2_6 (pc := 67) cx inX2_append_X2 kX2_append_30 hw dX2_append_67 ?_
    refine lv_iload (pc := 70) hx hb dX2_append_70 (lv_at hl 0 rfl) ?_
    refine lv_iconst (pc := 72) (v := (0 : Int32)) hx hb dX2_append_72 (by decide) ?_
    refine asO_15 (pc := 73) cx hw h.1 dX2_append_73 (fun A_8 eA_8 H locs hw => ?_)
    have h := h.2 A_8 eA_8
    refine lv_aload_n (pc := 74) hx hb dX2_append_74 rfl (lv_at hl 1 rfl) ?_
    refine geO_X2_7 (pc := 75) cx inX2_append_X2 kX2_append_33 hw dX2_append_75 ?_
    refine lv_iload (pc := 78) hx hb dX2_append_78 (lv_at hl 0 rfl) ?_
    refine lv_iconst (pc := 80) (v := (0 : Int32)) hx hb dX2_append_80 (by decide) ?_
    refine asO_16 (pc := 81) cx hw h.1 dX2_append_81 (fun A_9 eA_9 H locs hw => ?_)
    have h := h.2 A_9 eA_9
    refine lv_aload_n (pc := 82) hx hb dX2_append_82 rfl (lv_at hl 1 rfl) ?_
    refine geO_X2_8 (pc := 83) cx inX2_append_X2 kX2_append_36 hw dX2_append_83 ?_
    refine lv_iload (pc := 86) hx hb dX2_append_86 (lv_at hl 0 rfl) ?_
    refine lv_iconst (pc := 88) (v := (-1 : Int32)) hx hb dX2_append_88 (by decide) ?_
    refine asO_17 (pc := 89) cx hw h.1 dX2_append_89 (fun A_10 eA_10 H locs hw => ?_)
    have h := h.2 A_10 eA_10
    refine lv_aload_n (pc := 90) hx hb dX2_append_90 rfl (lv_at hl 1 rfl) ?_
    refine lv_dup (pc := 91) hx hb dX2_append_91 rfl ?_
    refine geO_X2_9 (pc := 92) cx inX2_append_X2 kX2_append_39 hw dX2_append_92 ?_
    refine lv_iconst (pc := 95) (v := (1 : Int32)) hx hb dX2_append_95 (by decide) ?_
    refine lv_iadd (pc := 96) hx hb dX2_append_96 ?_
    refine puO_X2_9 (pc := 97) cx inX2_append_X2 kX2_append_39 hw dX2_append_97 (fun V_11 eV_11 H locs hw => ?_)
    have h := h V_11 eV_11
    refine lv_iload (pc := 100) hx hb dX2_append_100 (lv_at hl 0 rfl) ?_
    exact hret 102 _ _ (A_10, V_11) _ _ rfl dX2_append_102 h hw
  · have h := h.2 c1
    refine lv_iconst (pc := 10) (v := (-1 : Int32)) hx hb dX2_append_10 (by decide) ?_
    exact hret 11 _ _ (A, V) _ _ rfl dX2_append_11 h hw
def wpX2_append (A : SA) (V : SV) (x1 : Int32) (x2 : Int32) (x3 : Int32) (Q : Int32 → SA → SV → Prop) : Prop := wb_X2_append_0 Q A V x1 x2 x3
set_option maxHeartbeats 4000000 in
set_option maxRecDepth 100000 in
theorem metX2_append (l : Launch) (D : va_G) (cI cZ : ClassId) (ad : Nat → Nat) (sz : Nat) (A : SA) (V : SV) (x1 : Int32) (x2 : Int32) (x3 : Int32) (Q : Int32 → SA → SV → Prop) (h : wpX2_append A V x1 x2 x3 Q) : Met l yX2_append wsX2_append rmX2_append (PcW D [(cI, .int), (cZ, .boolean)] (wO ad cI cZ A V) sz [.ref (ad 4), .int x1, .int x2, .int x3]) (QiW D [(cI, .int), (cZ, .boolean)] (wO ad cI cZ A V) sz (fun u : SA × SV => (wO ad cI cZ u.1 u.2)) (fun r u => Q r u.1 u.2)) rmX2_append.cells rmX2_append.slots (va_A (wO ad cI cZ A V) sz) := by
  refine startI (plainFor_of_name (by decide)) rfl (Nat.le_of_ble_eq_true rfl) ?_
  intro p e s m args below meth c A0 Z cx hw hret ls hl
  exact wk_X2_append_0 Q cx hret A V x1 x2 x3 h _ _ _ hw hl
abbrev rmX2_answer : Room := { frames := 1, cells := 0, slots := 0, locals := 24 }
theorem inX2_answer_X2 : ∀ w ∈ wsX20, w ∈ wsX2_answer := by decide +kernel
theorem kX2_answer_15 : Cond.fieldLink RX2 15 "DrownedPost$Letters" "weight" "[I" ∈ wsX2_answer := by decide +kernel
theorem kX2_answer_18 : Cond.fieldLink RX2 18 "DrownedPost$Letters" "seal" "[I" ∈ wsX2_answer := by decide +kernel
theorem kX2_answer_21 : Cond.fieldLink RX2 21 "DrownedPost$Letters" "state" "[I" ∈ wsX2_answer := by decide +kernel
theorem kX2_answer_33 : Cond.fieldLink RX2 33 "DrownedPost$Letters" "hoursBefore" "[I" ∈ wsX2_answer := by decide +kernel
theorem kX2_answer_36 : Cond.fieldLink RX2 36 "DrownedPost$Letters" "answered" "[I" ∈ wsX2_answer := by decide +kernel
theorem kX2_answer_9 : Cond.fieldLink RX2 9 "DrownedPost$Letters" "to" "[I" ∈ wsX2_answer := by decide +kernel
def wb_X2_answer_0 (Q : Int32 → SA → SV → Prop) (A : SA) (V : SV) (x1 : Int32) (x2 : Int32) : Prop := (wpX2_has A V x1 (fun r1 A_4 V_5 => ((¬ r1 = 0 → (vp_in x1 150 ∧ (vp_in x1 150 ∧ (vp_in x1 150 ∧ (wpX2_append A_4 V_5 (A_4 9 x1.toNatClampNeg) (A_4 10 x1.toNatClampNeg) (A_4 11 x1.toNatClampNeg) (fun r7 A_10 V_11 => (wpX2_has A_10 V_11 r7 (fun r12 A_15 V_16 => ((¬ r12 = 0 → (vp_in r7 150 ∧ (∀ A_18 : SA, A_18 = up A_15 12 r7.toNatClampNeg (4 : Int32) → (vp_in r7 150 ∧ (∀ A_19 : SA, A_19 = up A_18 16 r7.toNatClampNeg x2 → (vp_in r7 150 ∧ (∀ A_20 : SA, A_20 = up A_19 17 r7.toNatClampNeg x1 → Q (1 : Int32) A_20 V_16))))))) ∧ (r12 = 0 → Q (0 : Int32) A_15 V_16)))))))))) ∧ (r1 = 0 → Q (0 : Int32) A_4 V_5))))
set_option maxHeartbeats 4000000 in
set_option maxRecDepth 100000 in
theorem wk_X2_answer_0 (Q : Int32 → SA → SV → Prop) (cx : CX RX2 cX2_answer 4 wsX2_answer D [(cI, .int), (cZ, .boolean)] p s m args c A0) (hret : ∀ (pc : Nat) (ls : Array Slot) (r : Int32) (u : SA × SV) (H : Heap) (locs : List Loc), narrow .boolean (.int r) = .int r → decode cX2_answer pc = .ok (.ireturn, 1) → Q r u.1 u.2 → WS D s A0 (wO ad cI cZ u.1 u.2) H locs → W p l e rmX2_answer s m args below meth c H locs rmX2_answer.cells rmX2_answer.slots Z (F0 m pc ls [.int r]))  : ∀ (A : SA) (V : SV) (x1 : Int32) (x2 : Int32) (h : wb_X2_answer_0 Q A V x1 x2) (H : Heap) (locs : List Loc) (ls : Array Slot) (hw : WS D s A0 (wO ad cI cZ A V) H locs) (hl : lv_has ls 4 [(0, .ref (ad 4)), (1, .int x1), (2, .int x2)]), W p l e rmX2_answer s m args below meth c H locs 0 0 Z (F0 m 0 ls []) := by
  obtain ⟨hx, hb, hml, hown, hts, hK, hA⟩ := id cx
  intro A V x1 x2 h H locs ls hw hl
  refine lv_aload_n (pc := 0) hx hb dX2_answer_0 rfl (lv_at hl 0 rfl) ?_
  refine lv_iload_n (pc := 1) hx hb dX2_answer_1 rfl (lv_at hl 1 rfl) ?_
  refine callVi (pc := 2) (rest := []) (c1 := 0) (s1 := 0) cx hw hl (metX2_has l D cI cZ ad H.size A V x1 _ h) (fun hts => cwV 1 hts gX2_answer_X2_has rfl rfl rfl (by decide +kernel) ⟨Nat.le_of_ble_eq_true rfl, Nat.le_of_ble_eq_true rfl⟩) SUB.rf [0, 1] rfl 4 (ci := 2) rfl rfl rfl (JN.rf) rfl rfl (Nat.le_of_ble_eq_true rfl) ⟨Nat.le_of_ble_eq_true rfl, Nat.le_of_ble_eq_true rfl⟩ rfl rfl dX2_answer_2 (fun r1 u H locs h hw => ?_)
  obtain ⟨A_4, V_5⟩ := u
  refine lv_if_ne (pc := 5) (tgt := 10) hx hb dX2_answer_5 (by decide) (fun c6 => ?_) (fun c6 => ?_)
  · have h := h.1 c6
    refine lv_aload_n (pc := 10) hx hb dX2_answer_10 rfl (lv_at hl 0 rfl) ?_
    refine lv_aload_n (pc := 11) hx hb dX2_answer_11 rfl (lv_at hl 0 rfl) ?_
    refine geO_X2_0 (pc := 12) cx inX2_answer_X2 kX2_answer_9 hw dX2_answer_12 ?_
    refine lv_iload_n (pc := 15) hx hb dX2_answer_15 rfl (lv_at hl 1 rfl) ?_
    refine alO_9 (pc := 16) cx hw h.1 dX2_answer_16 ?_
    have h := h.2
    refine lv_aload_n (pc := 17) hx hb dX2_answer_17 rfl (lv_at hl 0 rfl) ?_
    refine geO_X2_1 (pc := 18) cx inX2_answer_X2 kX2_answer_15 hw dX2_answer_18 ?_
    refine lv_iload_n (pc := 21) hx hb dX2_answer_21 rfl (lv_at hl 1 rfl) ?_
    refine alO_10 (pc := 22) cx hw h.1 dX2_answer_22 ?_
    have h := h.2
    refine lv_aload_n (pc := 23) hx hb dX2_answer_23 rfl (lv_at hl 0 rfl) ?_
    refine geO_X2_2 (pc := 24) cx inX2_answer_X2 kX2_answer_18 hw dX2_answer_24 ?_
    refine lv_iload_n (pc := 27) hx hb dX2_answer_27 rfl (lv_at hl 1 rfl) ?_
    refine alO_11 (pc := 28) cx hw h.1 dX2_answer_28 ?_
    have h := h.2
    refine callVi (pc := 29) (rest := []) (c1 := 0) (s1 := 0) cx hw hl (metX2_append l D cI cZ ad H.size A_4 V_5 (A_4 9 x1.toNatClampNeg) (A_4 10 x1.toNatClampNeg) (A_4 11 x1.toNatClampNeg) _ h) (fun hts => cwV 3 hts gX2_answer_X2_append rfl rfl rfl (by decide +kernel) ⟨Nat.le_of_ble_eq_true rfl, Nat.le_of_ble_eq_true rfl⟩) SUB.rf [0, 1] rfl 4 (ci := 2) rfl rfl rfl (JN.rf) rfl rfl (Nat.le_of_ble_eq_true rfl) ⟨Nat.le_of_ble_eq_true rfl, Nat.le_of_ble_eq_true rfl⟩ rfl rfl dX2_answer_29 (fun r7 u H locs h hw => ?_)
    obtain ⟨A_10, V_11⟩ := u
    refine lv_istore_n (pc := 32) (lv' := [(3, .int r7), (0, .ref (ad 4)), (1, .int x1), (2, .int x2)]) hx hb dX2_answer_32 rfl hl (by decide) rfl (fun ls hl => ?_)
    refine lv_aload_n (pc := 33) hx hb dX2_answer_33 rfl (lv_at hl 1 rfl) ?_
    refine lv_iload_n (pc := 34) hx hb dX2_answer_34 rfl (lv_at hl 0 rfl) ?_
    refine callVi (pc := 35) (rest := []) (c1 := 0) (s1 := 0) cx hw hl (metX2_has l D cI cZ ad H.size A_10 V_11 r7 _ h) (fun hts => cwV 1 hts gX2_answer_X2_has rfl rfl rfl (by decide +kernel) ⟨Nat.le_of_ble_eq_true rfl, Nat.le_of_ble_eq_true rfl⟩) SUB.rf [0, 1] rfl 4 (ci := 2) rfl rfl rfl (JN.rf) rfl rfl (Nat.le_of_ble_eq_true rfl) ⟨Nat.le_of_ble_eq_true rfl, Nat.le_of_ble_eq_true rfl⟩ rfl rfl dX2_answer_35 (fun r12 u H locs h hw => ?_)
    obtain ⟨A_15, V_16⟩ := u
    refine lv_if_ne (pc := 38) (tgt := 43) hx hb dX2_answer_38 (by decide) (fun c17 => ?_) (fun c17 => ?_)
    · have h := h.1 c17
      refine lv_aload_n (pc := 43) hx hb dX2_answer_43 rfl (lv_at hl 1 rfl) ?_
      refine geO_X2_3 (pc := 44) cx inX2_answer_X2 kX2_answer_21 hw dX2_answer_44 ?_
      refine lv_iload_n (pc := 47) hx hb dX2_answer_47 rfl (lv_at hl 0 rfl) ?_
      refine lv_iconst (pc := 48) (v := (4 : Int32)) hx hb dX2_answer_48 (by decide) ?_
      refine asO_12 (pc := 49) cx hw h.1 dX2_answer_49 (fun A_18 eA_18 H locs hw => ?_)
      have h := h.2 A_18 eA_18
      refine lv_aload_n (pc := 50) hx hb dX2_answer_50 rfl (lv_at hl 1 rfl) ?_
      refine geO_X2_7 (pc := 51) cx inX2_answer_X2 kX2_answer_33 hw dX2_answer_51 ?_
      refine lv_iload_n (pc := 54) hx hb dX2_answer_54 rfl (lv_at hl 0 rfl) ?_
      refine lv_iload_n (pc := 55) hx hb dX2_answer_55 rfl (lv_at hl 3 rfl) ?_
      refine asO_16 (pc := 56) cx hw h.1 dX2_answer_56 (fun A_19 eA_19 H locs hw => ?_)
      have h := h.2 A_19 eA_19
      refine lv_aload_n (pc := 57) hx hb dX2_answer_57 rfl (lv_at hl 1 rfl) ?_
      refine geO_X2_8 (pc := 58) cx inX2_answer_X2 kX2_answer_36 hw dX2_answer_58 ?_
      refine lv_iload_n (pc := 61) hx hb dX2_answer_61 rfl (lv_at hl 0 rfl) ?_
      refine lv_iload_n (pc := 62) hx hb dX2_answer_62 rfl (lv_at hl 2 rfl) ?_
      refine asO_17 (pc := 63) cx hw h.1 dX2_answer_63 (fun A_20 eA_20 H locs hw => ?_)
      have h := h.2 A_20 eA_20
      refine lv_iconst (pc := 64) (v := (1 : Int32)) hx hb dX2_answer_64 (by decide) ?_
      exact hret 65 _ _ (A_20, V_16) _ _ rfl dX2_answer_65 h hw
    · have h := h.2 c17
      refine lv_iconst (pc := 41) (v := (0 : Int32)) hx hb dX2_answer_41 (by decide) ?_
      exact hret 42 _ _ (A_15, V_16) _ _ rfl dX2_answer_42 h hw
  · have h := h.2 c6
    refine lv_iconst (pc := 8) (v := (0 : Int32)) hx hb dX2_answer_8 (by decide) ?_
    exact hret 9 _ _ (A_4, V_5) _ _ rfl dX2_answer_9 h hw
def wpX2_answer (A : SA) (V : SV) (x1 : Int32) (x2 : Int32) (Q : Int32 → SA → SV → Prop) : Prop := wb_X2_answer_0 Q A V x1 x2
set_option maxHeartbeats 4000000 in
set_option maxRecDepth 100000 in
theorem metX2_answer (l : Launch) (D : va_G) (cI cZ : ClassId) (ad : Nat → Nat) (sz : Nat) (A : SA) (V : SV) (x1 : Int32) (x2 : Int32) (Q : Int32 → SA → SV → Prop) (h : wpX2_answer A V x1 x2 Q) : Met l yX2_answer wsX2_answer rmX2_answer (PcW D [(cI, .int), (cZ, .boolean)] (wO ad cI cZ A V) sz [.ref (ad 4), .int x1, .int x2]) (QiW D [(cI, .int), (cZ, .boolean)] (wO ad cI cZ A V) sz (fun u : SA × SV => (wO ad cI cZ u.1 u.2)) (fun r u => Q r u.1 u.2)) rmX2_answer.cells rmX2_answer.slots (va_A (wO ad cI cZ A V) sz) := by
  refine startI (plainFor_of_name (by decide)) rfl (Nat.le_of_ble_eq_true rfl) ?_
  intro p e s m args below meth c A0 Z cx hw hret ls hl
  exact wk_X2_answer_0 Q cx hret A V x1 x2 h _ _ _ hw hl
abbrev rmX2_inState : Room := { frames := 0, cells := 0, slots := 0, locals := 0 }
theorem inX2_inState_X2 : ∀ w ∈ wsX20, w ∈ wsX2_inState := by decide +kernel
theorem kX2_inState_21 : Cond.fieldLink RX2 21 "DrownedPost$Letters" "state" "[I" ∈ wsX2_inState := by decide +kernel
theorem kX2_inState_39 : Cond.fieldLink RX2 39 "DrownedPost$Letters" "count" "I" ∈ wsX2_inState := by decide +kernel
def wl_X2_inState_4 (Q : Int32 → SA → SV → Prop) : Nat → SA → SV → Int32 → Int32 → Int32 → Prop
  | 0, _, _, _, _, _ => False
  | n + 1, A, V, x1, x2, x3 => (((V 3) ≤ x3 → Q x2 A V) ∧ (¬ ((V 3) ≤ x3) → (vp_in x3 150 ∧ ((¬ (A 12 x3.toNatClampNeg) = x1 → wl_X2_inState_4 Q n A V x1 x2 (x3 + 1)) ∧ ((A 12 x3.toNatClampNeg) = x1 → wl_X2_inState_4 Q n A V x1 (x2 + 1) (x3 + 1))))))
set_option maxHeartbeats 4000000 in
set_option maxRecDepth 100000 in
theorem wk_X2_inState_4 (Q : Int32 → SA → SV → Prop) (cx : CX RX2 cX2_inState 4 wsX2_inState D [(cI, .int), (cZ, .boolean)] p s m args c A0) (hret : ∀ (pc : Nat) (ls : Array Slot) (r : Int32) (u : SA × SV) (H : Heap) (locs : List Loc), narrow .int (.int r) = .int r → decode cX2_inState pc = .ok (.ireturn, 1) → Q r u.1 u.2 → WS D s A0 (wO ad cI cZ u.1 u.2) H locs → W p l e rmX2_inState s m args below meth c H locs rmX2_inState.cells rmX2_inState.slots Z (F0 m pc ls [.int r]))  : ∀ (n : Nat) (A : SA) (V : SV) (x1 : Int32) (x2 : Int32) (x3 : Int32) (h : wl_X2_inState_4 Q n A V x1 x2 x3) (H : Heap) (locs : List Loc) (ls : Array Slot) (hw : WS D s A0 (wO ad cI cZ A V) H locs) (hl : lv_has ls 4 [(0, .ref (ad 4)), (1, .int x1), (2, .int x2), (3, .int x3)]), W p l e rmX2_inState s m args below meth c H locs 0 0 Z (F0 m 4 ls []) := by
  obtain ⟨hx, hb, hml, hown, hts, hK, hA⟩ := id cx
  intro n
  induction n with
  | zero => intro A V x1 x2 x3 h; exact False.elim h
  | succ n ih =>
    intro A V x1 x2 x3 h H locs ls hw hl
    refine lv_iload_n (pc := 4) hx hb dX2_inState_4 rfl (lv_at hl 3 rfl) ?_
    refine lv_aload_n (pc := 5) hx hb dX2_inState_5 rfl (lv_at hl 0 rfl) ?_
    refine geO_X2_9 (pc := 6) cx inX2_inState_X2 kX2_inState_39 hw dX2_inState_6 ?_
    refine lv_icmp_ge (pc := 9) (tgt := 31) hx hb dX2_inState_9 (by decide) (fun c1 => ?_) (fun c1 => ?_)
    · have h := h.1 c1
      refine lv_iload_n (pc := 31) hx hb dX2_inState_31 rfl (lv_at hl 2 rfl) ?_
      exact hret 32 _ _ (A, V) _ _ rfl dX2_inState_32 h hw
    · have h := h.2 c1
      refine lv_aload_n (pc := 12) hx hb dX2_inState_12 rfl (lv_at hl 0 rfl) ?_
      refine geO_X2_3 (pc := 13) cx inX2_inState_X2 kX2_inState_21 hw dX2_inState_13 ?_
      refine lv_iload_n (pc := 16) hx hb dX2_inState_16 rfl (lv_at hl 3 rfl) ?_
      refine alO_12 (pc := 17) cx hw h.1 dX2_inState_17 ?_
      have h := h.2
      refine lv_iload_n (pc := 18) hx hb dX2_inState_18 rfl (lv_at hl 1 rfl) ?_
      refine lv_icmp_ne (pc := 19) (tgt := 25) hx hb dX2_inState_19 (by decide) (fun c2 => ?_) (fun c2 => ?_)
      · have h := h.1 c2
        refine lv_iinc (pc := 25) (v := x3 + 1) (lv' := [(3, .int (x3 + 1)), (0, .ref (ad 4)), (1, .int x1), (2, .int x2)]) hx hb dX2_inState_25 hl (k := 3) rfl rfl (by decide) rfl (fun ls hl => ?_)
        refine lv_goto (pc := 28) (tgt := 4) hx hb dX2_inState_28 (by decide) ?_
        exact ih A V x1 x2 (x3 + 1) h _ _ _ hw (lv_sub hl [1, 2, 3, 0] rfl)
      · have h := h.2 c2
        refine lv_iinc (pc := 22) (v := x2 + 1) (lv' := [(2, .int (x2 + 1)), (0, .ref (ad 4)), (1, .int x1), (3, .int x3)]) hx hb dX2_inState_22 hl (k := 2) rfl rfl (by decide) rfl (fun ls hl => ?_)
        refine lv_iinc (pc := 25) (v := x3 + 1) (lv' := [(3, .int (x3 + 1)), (2, .int (x2 + 1)), (0, .ref (ad 4)), (1, .int x1)]) hx hb dX2_inState_25 hl (k := 3) rfl rfl (by decide) rfl (fun ls hl => ?_)
        refine lv_goto (pc := 28) (tgt := 4) hx hb dX2_inState_28 (by decide) ?_
        exact ih A V x1 (x2 + 1) (x3 + 1) h _ _ _ hw (lv_sub hl [2, 3, 1, 0] rfl)
def wb_X2_inState_0 (Q : Int32 → SA → SV → Prop) (A : SA) (V : SV) (x1 : Int32) : Prop := (∃ n4 : Nat, wl_X2_inState_4 Q n4 A V x1 (0 : Int32) (0 : Int32))
set_option maxHeartbeats 4000000 in
set_option maxRecDepth 100000 in
theorem wk_X2_inState_0 (Q : Int32 → SA → SV → Prop) (cx : CX RX2 cX2_inState 4 wsX2_inState D [(cI, .int), (cZ, .boolean)] p s m args c A0) (hret : ∀ (pc : Nat) (ls : Array Slot) (r : Int32) (u : SA × SV) (H : Heap) (locs : List Loc), narrow .int (.int r) = .int r → decode cX2_inState pc = .ok (.ireturn, 1) → Q r u.1 u.2 → WS D s A0 (wO ad cI cZ u.1 u.2) H locs → W p l e rmX2_inState s m args below meth c H locs rmX2_inState.cells rmX2_inState.slots Z (F0 m pc ls [.int r]))  : ∀ (A : SA) (V : SV) (x1 : Int32) (h : wb_X2_inState_0 Q A V x1) (H : Heap) (locs : List Loc) (ls : Array Slot) (hw : WS D s A0 (wO ad cI cZ A V) H locs) (hl : lv_has ls 4 [(0, .ref (ad 4)), (1, .int x1)]), W p l e rmX2_inState s m args below meth c H locs 0 0 Z (F0 m 0 ls []) := by
  obtain ⟨hx, hb, hml, hown, hts, hK, hA⟩ := id cx
  intro A V x1 h H locs ls hw hl
  refine lv_iconst (pc := 0) (v := (0 : Int32)) hx hb dX2_inState_0 (by decide) ?_
  refine lv_istore_n (pc := 1) (lv' := [(2, .int (0 : Int32)), (0, .ref (ad 4)), (1, .int x1)]) hx hb dX2_inState_1 rfl hl (by decide) rfl (fun ls hl => ?_)
  refine lv_iconst (pc := 2) (v := (0 : Int32)) hx hb dX2_inState_2 (by decide) ?_
  refine lv_istore_n (pc := 3) (lv' := [(3, .int (0 : Int32)), (2, .int (0 : Int32)), (0, .ref (ad 4)), (1, .int x1)]) hx hb dX2_inState_3 rfl hl (by decide) rfl (fun ls hl => ?_)
  obtain ⟨n4, h⟩ := h
  exact wk_X2_inState_4 Q cx hret  n4 A V x1 (0 : Int32) (0 : Int32) h _ _ _ hw (lv_sub hl [2, 3, 1, 0] rfl)
def wpX2_inState (A : SA) (V : SV) (x1 : Int32) (Q : Int32 → SA → SV → Prop) : Prop := wb_X2_inState_0 Q A V x1
set_option maxHeartbeats 4000000 in
set_option maxRecDepth 100000 in
theorem metX2_inState (l : Launch) (D : va_G) (cI cZ : ClassId) (ad : Nat → Nat) (sz : Nat) (A : SA) (V : SV) (x1 : Int32) (Q : Int32 → SA → SV → Prop) (h : wpX2_inState A V x1 Q) : Met l yX2_inState wsX2_inState rmX2_inState (PcW D [(cI, .int), (cZ, .boolean)] (wO ad cI cZ A V) sz [.ref (ad 4), .int x1]) (QiW D [(cI, .int), (cZ, .boolean)] (wO ad cI cZ A V) sz (fun u : SA × SV => (wO ad cI cZ u.1 u.2)) (fun r u => Q r u.1 u.2)) rmX2_inState.cells rmX2_inState.slots (va_A (wO ad cI cZ A V) sz) := by
  refine startI (plainFor_of_name (by decide)) rfl (Nat.le_of_ble_eq_true rfl) ?_
  intro p e s m args below meth c A0 Z cx hw hret ls hl
  exact wk_X2_inState_0 Q cx hret A V x1 h _ _ _ hw hl
abbrev rmX2_growthIn : Room := { frames := 0, cells := 0, slots := 0, locals := 0 }
theorem inX2_growthIn_X2 : ∀ w ∈ wsX20, w ∈ wsX2_growthIn := by decide +kernel
theorem kX2_growthIn_21 : Cond.fieldLink RX2 21 "DrownedPost$Letters" "state" "[I" ∈ wsX2_growthIn := by decide +kernel
theorem kX2_growthIn_24 : Cond.fieldLink RX2 24 "DrownedPost$Letters" "growth" "[I" ∈ wsX2_growthIn := by decide +kernel
theorem kX2_growthIn_27 : Cond.fieldLink RX2 27 "DrownedPost$Letters" "bin" "[I" ∈ wsX2_growthIn := by decide +kernel
theorem kX2_growthIn_39 : Cond.fieldLink RX2 39 "DrownedPost$Letters" "count" "I" ∈ wsX2_growthIn := by decide +kernel
def wl_X2_growthIn_4 (Q : Int32 → SA → SV → Prop) : Nat → SA → SV → Int32 → Int32 → Int32 → Prop
  | 0, _, _, _, _, _ => False
  | n + 1, A, V, x1, x2, x3 => (((V 3) ≤ x3 → Q x2 A V) ∧ (¬ ((V 3) ≤ x3) → (vp_in x3 150 ∧ ((¬ (A 12 x3.toNatClampNeg) = (1 : Int32) → wl_X2_growthIn_4 Q n A V x1 x2 (x3 + 1)) ∧ ((A 12 x3.toNatClampNeg) = (1 : Int32) → (vp_in x3 150 ∧ ((¬ (A 14 x3.toNatClampNeg) = x1 → wl_X2_growthIn_4 Q n A V x1 x2 (x3 + 1)) ∧ ((A 14 x3.toNatClampNeg) = x1 → (vp_in x3 150 ∧ wl_X2_growthIn_4 Q n A V x1 (x2 + (A 13 x3.toNatClampNeg)) (x3 + 1))))))))))
set_option maxHeartbeats 4000000 in
set_option maxRecDepth 100000 in
theorem wk_X2_growthIn_4 (Q : Int32 → SA → SV → Prop) (cx : CX RX2 cX2_growthIn 4 wsX2_growthIn D [(cI, .int), (cZ, .boolean)] p s m args c A0) (hret : ∀ (pc : Nat) (ls : Array Slot) (r : Int32) (u : SA × SV) (H : Heap) (locs : List Loc), narrow .int (.int r) = .int r → decode cX2_growthIn pc = .ok (.ireturn, 1) → Q r u.1 u.2 → WS D s A0 (wO ad cI cZ u.1 u.2) H locs → W p l e rmX2_growthIn s m args below meth c H locs rmX2_growthIn.cells rmX2_growthIn.slots Z (F0 m pc ls [.int r]))  : ∀ (n : Nat) (A : SA) (V : SV) (x1 : Int32) (x2 : Int32) (x3 : Int32) (h : wl_X2_growthIn_4 Q n A V x1 x2 x3) (H : Heap) (locs : List Loc) (ls : Array Slot) (hw : WS D s A0 (wO ad cI cZ A V) H locs) (hl : lv_has ls 4 [(0, .ref (ad 4)), (1, .int x1), (2, .int x2), (3, .int x3)]), W p l e rmX2_growthIn s m args below meth c H locs 0 0 Z (F0 m 4 ls []) := by
  obtain ⟨hx, hb, hml, hown, hts, hK, hA⟩ := id cx
  intro n
  induction n with
  | zero => intro A V x1 x2 x3 h; exact False.elim h
  | succ n ih =>
    intro A V x1 x2 x3 h H locs ls hw hl
    refine lv_iload_n (pc := 4) hx hb dX2_growthIn_4 rfl (lv_at hl 3 rfl) ?_
    refine lv_aload_n (pc := 5) hx hb dX2_growthIn_5 rfl (lv_at hl 0 rfl) ?_
    refine geO_X2_9 (pc := 6) cx inX2_growthIn_X2 kX2_growthIn_39 hw dX2_growthIn_6 ?_
    refine lv_icmp_ge (pc := 9) (tgt := 47) hx hb dX2_growthIn_9 (by decide) (fun c1 => ?_) (fun c1 => ?_)
    · have h := h.1 c1
      refine lv_iload_n (pc := 47) hx hb dX2_growthIn_47 rfl (lv_at hl 2 rfl) ?_
      exact hret 48 _ _ (A, V) _ _ rfl dX2_growthIn_48 h hw
    · have h := h.2 c1
      refine lv_aload_n (pc := 12) hx hb dX2_growthIn_12 rfl (lv_at hl 0 rfl) ?_
      refine geO_X2_3 (pc := 13) cx inX2_growthIn_X2 kX2_growthIn_21 hw dX2_growthIn_13 ?_
      refine lv_iload_n (pc := 16) hx hb dX2_growthIn_16 rfl (lv_at hl 3 rfl) ?_
      refine alO_12 (pc := 17) cx hw h.1 dX2_growthIn_17 ?_
      have h := h.2
      refine lv_iconst (pc := 18) (v := (1 : Int32)) hx hb dX2_growthIn_18 (by decide) ?_
      refine lv_icmp_ne (pc := 19) (tgt := 41) hx hb dX2_growthIn_19 (by decide) (fun c2 => ?_) (fun c2 => ?_)
      · have h := h.1 c2
        refine lv_iinc (pc := 41) (v := x3 + 1) (lv' := [(3, .int (x3 + 1)), (0, .ref (ad 4)), (1, .int x1), (2, .int x2)]) hx hb dX2_growthIn_41 hl (k := 3) rfl rfl (by decide) rfl (fun ls hl => ?_)
        refine lv_goto (pc := 44) (tgt := 4) hx hb dX2_growthIn_44 (by decide) ?_
        exact ih A V x1 x2 (x3 + 1) h _ _ _ hw (lv_sub hl [1, 2, 3, 0] rfl)
      · have h := h.2 c2
        refine lv_aload_n (pc := 22) hx hb dX2_growthIn_22 rfl (lv_at hl 0 rfl) ?_
        refine geO_X2_5 (pc := 23) cx inX2_growthIn_X2 kX2_growthIn_27 hw dX2_growthIn_23 ?_
        refine lv_iload_n (pc := 26) hx hb dX2_growthIn_26 rfl (lv_at hl 3 rfl) ?_
        refine alO_14 (pc := 27) cx hw h.1 dX2_growthIn_27 ?_
        have h := h.2
        refine lv_iload_n (pc := 28) hx hb dX2_growthIn_28 rfl (lv_at hl 1 rfl) ?_
        refine lv_icmp_ne (pc := 29) (tgt := 41) hx hb dX2_growthIn_29 (by decide) (fun c3 => ?_) (fun c3 => ?_)
        · have h := h.1 c3
          refine lv_iinc (pc := 41) (v := x3 + 1) (lv' := [(3, .int (x3 + 1)), (0, .ref (ad 4)), (1, .int x1), (2, .int x2)]) hx hb dX2_growthIn_41 hl (k := 3) rfl rfl (by decide) rfl (fun ls hl => ?_)
          refine lv_goto (pc := 44) (tgt := 4) hx hb dX2_growthIn_44 (by decide) ?_
          exact ih A V x1 x2 (x3 + 1) h _ _ _ hw (lv_sub hl [1, 2, 3, 0] rfl)
        · have h := h.2 c3
          refine lv_iload_n (pc := 32) hx hb dX2_growthIn_32 rfl (lv_at hl 2 rfl) ?_
          refine lv_aload_n (pc := 33) hx hb dX2_growthIn_33 rfl (lv_at hl 0 rfl) ?_
          refine geO_X2_4 (pc := 34) cx inX2_growthIn_X2 kX2_growthIn_24 hw dX2_growthIn_34 ?_
          refine lv_iload_n (pc := 37) hx hb dX2_growthIn_37 rfl (lv_at hl 3 rfl) ?_
          refine alO_13 (pc := 38) cx hw h.1 dX2_growthIn_38 ?_
          have h := h.2
          refine lv_iadd (pc := 39) hx hb dX2_growthIn_39 ?_
          refine lv_istore_n (pc := 40) (lv' := [(2, .int (x2 + (A 13 x3.toNatClampNeg))), (0, .ref (ad 4)), (1, .int x1), (3, .int x3)]) hx hb dX2_growthIn_40 rfl hl (by decide) rfl (fun ls hl => ?_)
          refine lv_iinc (pc := 41) (v := x3 + 1) (lv' := [(3, .int (x3 + 1)), (2, .int (x2 + (A 13 x3.toNatClampNeg))), (0, .ref (ad 4)), (1, .int x1)]) hx hb dX2_growthIn_41 hl (k := 3) rfl rfl (by decide) rfl (fun ls hl => ?_)
          refine lv_goto (pc := 44) (tgt := 4) hx hb dX2_growthIn_44 (by decide) ?_
          exact ih A V x1 (x2 + (A 13 x3.toNatClampNeg)) (x3 + 1) h _ _ _ hw (lv_sub hl [2, 3, 1, 0] rfl)
def wb_X2_growthIn_0 (Q : Int32 → SA → SV → Prop) (A : SA) (V : SV) (x1 : Int32) : Prop := (∃ n4 : Nat, wl_X2_growthIn_4 Q n4 A V x1 (0 : Int32) (0 : Int32))
set_option maxHeartbeats 4000000 in
set_option maxRecDepth 100000 in
theorem wk_X2_growthIn_0 (Q : Int32 → SA → SV → Prop) (cx : CX RX2 cX2_growthIn 4 wsX2_growthIn D [(cI, .int), (cZ, .boolean)] p s m args c A0) (hret : ∀ (pc : Nat) (ls : Array Slot) (r : Int32) (u : SA × SV) (H : Heap) (locs : List Loc), narrow .int (.int r) = .int r → decode cX2_growthIn pc = .ok (.ireturn, 1) → Q r u.1 u.2 → WS D s A0 (wO ad cI cZ u.1 u.2) H locs → W p l e rmX2_growthIn s m args below meth c H locs rmX2_growthIn.cells rmX2_growthIn.slots Z (F0 m pc ls [.int r]))  : ∀ (A : SA) (V : SV) (x1 : Int32) (h : wb_X2_growthIn_0 Q A V x1) (H : Heap) (locs : List Loc) (ls : Array Slot) (hw : WS D s A0 (wO ad cI cZ A V) H locs) (hl : lv_has ls 4 [(0, .ref (ad 4)), (1, .int x1)]), W p l e rmX2_growthIn s m args below meth c H locs 0 0 Z (F0 m 0 ls []) := by
  obtain ⟨hx, hb, hml, hown, hts, hK, hA⟩ := id cx
  intro A V x1 h H locs ls hw hl
  refine lv_iconst (pc := 0) (v := (0 : Int32)) hx hb dX2_growthIn_0 (by decide) ?_
  refine lv_istore_n (pc := 1) (lv' := [(2, .int (0 : Int32)), (0, .ref (ad 4)), (1, .int x1)]) hx hb dX2_growthIn_1 rfl hl (by decide) rfl (fun ls hl => ?_)
  refine lv_iconst (pc := 2) (v := (0 : Int32)) hx hb dX2_growthIn_2 (by decide) ?_
  refine lv_istore_n (pc := 3) (lv' := [(3, .int (0 : Int32)), (2, .int (0 : Int32)), (0, .ref (ad 4)), (1, .int x1)]) hx hb dX2_growthIn_3 rfl hl (by decide) rfl (fun ls hl => ?_)
  obtain ⟨n4, h⟩ := h
  exact wk_X2_growthIn_4 Q cx hret  n4 A V x1 (0 : Int32) (0 : Int32) h _ _ _ hw (lv_sub hl [2, 3, 1, 0] rfl)
def wpX2_growthIn (A : SA) (V : SV) (x1 : Int32) (Q : Int32 → SA → SV → Prop) : Prop := wb_X2_growthIn_0 Q A V x1
set_option maxHeartbeats 4000000 in
set_option maxRecDepth 100000 in
theorem metX2_growthIn (l : Launch) (D : va_G) (cI cZ : ClassId) (ad : Nat → Nat) (sz : Nat) (A : SA) (V : SV) (x1 : Int32) (Q : Int32 → SA → SV → Prop) (h : wpX2_growthIn A V x1 Q) : Met l yX2_growthIn wsX2_growthIn rmX2_growthIn (PcW D [(cI, .int), (cZ, .boolean)] (wO ad cI cZ A V) sz [.ref (ad 4), .int x1]) (QiW D [(cI, .int), (cZ, .boolean)] (wO ad cI cZ A V) sz (fun u : SA × SV => (wO ad cI cZ u.1 u.2)) (fun r u => Q r u.1 u.2)) rmX2_growthIn.cells rmX2_growthIn.slots (va_A (wO ad cI cZ A V) sz) := by
  refine startI (plainFor_of_name (by decide)) rfl (Nat.le_of_ble_eq_true rfl) ?_
  intro p e s m args below meth c A0 Z cx hw hret ls hl
  exact wk_X2_growthIn_0 Q cx hret A V x1 h _ _ _ hw hl
abbrev rmX2_heaviestInOffice : Room := { frames := 0, cells := 0, slots := 0, locals := 0 }
theorem inX2_heaviestInOffice_X2 : ∀ w ∈ wsX20, w ∈ wsX2_heaviestInOffice := by decide +kernel
theorem kX2_heaviestInOffice_15 : Cond.fieldLink RX2 15 "DrownedPost$Letters" "weight" "[I" ∈ wsX2_heaviestInOffice := by decide +kernel
theorem kX2_heaviestInOffice_21 : Cond.fieldLink RX2 21 "DrownedPost$Letters" "state" "[I" ∈ wsX2_heaviestInOffice := by decide +kernel
theorem kX2_heaviestInOffice_39 : Cond.fieldLink RX2 39 "DrownedPost$Letters" "count" "I" ∈ wsX2_heaviestInOffice := by decide +kernel
def wl_X2_heaviestInOffice_4 (Q : Int32 → SA → SV → Prop) : Nat → SA → SV → Int32 → Int32 → Prop
  | 0, _, _, _, _ => False
  | n + 1, A, V, x1, x2 => (((V 3) ≤ x2 → Q x1 A V) ∧ (¬ ((V 3) ≤ x2) → (vp_in x2 150 ∧ ((¬ (A 12 x2.toNatClampNeg) = 0 → wl_X2_heaviestInOffice_4 Q n A V x1 (x2 + 1)) ∧ ((A 12 x2.toNatClampNeg) = 0 → ((x1 = (-1 : Int32) → wl_X2_heaviestInOffice_4 Q n A V x2 (x2 + 1)) ∧ (¬ (x1 = (-1 : Int32)) → (vp_in x2 150 ∧ (vp_in x1 150 ∧ (((A 10 x2.toNatClampNeg) ≤ (A 10 x1.toNatClampNeg) → wl_X2_heaviestInOffice_4 Q n A V x1 (x2 + 1)) ∧ (¬ ((A 10 x2.toNatClampNeg) ≤ (A 10 x1.toNatClampNeg)) → wl_X2_heaviestInOffice_4 Q n A V x2 (x2 + 1))))))))))))
set_option maxHeartbeats 4000000 in
set_option maxRecDepth 100000 in
theorem wk_X2_heaviestInOffice_4 (Q : Int32 → SA → SV → Prop) (cx : CX RX2 cX2_heaviestInOffice 3 wsX2_heaviestInOffice D [(cI, .int), (cZ, .boolean)] p s m args c A0) (hret : ∀ (pc : Nat) (ls : Array Slot) (r : Int32) (u : SA × SV) (H : Heap) (locs : List Loc), narrow .int (.int r) = .int r → decode cX2_heaviestInOffice pc = .ok (.ireturn, 1) → Q r u.1 u.2 → WS D s A0 (wO ad cI cZ u.1 u.2) H locs → W p l e rmX2_heaviestInOffice s m args below meth c H locs rmX2_heaviestInOffice.cells rmX2_heaviestInOffice.slots Z (F0 m pc ls [.int r]))  : ∀ (n : Nat) (A : SA) (V : SV) (x1 : Int32) (x2 : Int32) (h : wl_X2_heaviestInOffice_4 Q n A V x1 x2) (H : Heap) (locs : List Loc) (ls : Array Slot) (hw : WS D s A0 (wO ad cI cZ A V) H locs) (hl : lv_has ls 3 [(0, .ref (ad 4)), (1, .int x1), (2, .int x2)]), W p l e rmX2_heaviestInOffice s m args below meth c H locs 0 0 Z (F0 m 4 ls []) := by
  obtain ⟨hx, hb, hml, hown, hts, hK, hA⟩ := id cx
  intro n
  induction n with
  | zero => intro A V x1 x2 h; exact False.elim h
  | succ n ih =>
    intro A V x1 x2 h H locs ls hw hl
    refine lv_iload_n (pc := 4) hx hb dX2_heaviestInOffice_4 rfl (lv_at hl 2 rfl) ?_
    refine lv_aload_n (pc := 5) hx hb dX2_heaviestInOffice_5 rfl (lv_at hl 0 rfl) ?_
    refine geO_X2_9 (pc := 6) cx inX2_heaviestInOffice_X2 kX2_heaviestInOffice_39 hw dX2_heaviestInOffice_6 ?_
    refine lv_icmp_ge (pc := 9) (tgt := 49) hx hb dX2_heaviestInOffice_9 (by decide) (fun c1 => ?_) (fun c1 => ?_)
    · have h := h.1 c1
      refine lv_iload_n (pc := 49) hx hb dX2_heaviestInOffice_49 rfl (lv_at hl 1 rfl) ?_
      exact hret 50 _ _ (A, V) _ _ rfl dX2_heaviestInOffice_50 h hw
    · have h := h.2 c1
      refine lv_aload_n (pc := 12) hx hb dX2_heaviestInOffice_12 rfl (lv_at hl 0 rfl) ?_
      refine geO_X2_3 (pc := 13) cx inX2_heaviestInOffice_X2 kX2_heaviestInOffice_21 hw dX2_heaviestInOffice_13 ?_
      refine lv_iload_n (pc := 16) hx hb dX2_heaviestInOffice_16 rfl (lv_at hl 2 rfl) ?_
      refine alO_12 (pc := 17) cx hw h.1 dX2_heaviestInOffice_17 ?_
      have h := h.2
      refine lv_if_ne (pc := 18) (tgt := 43) hx hb dX2_heaviestInOffice_18 (by decide) (fun c2 => ?_) (fun c2 => ?_)
      · have h := h.1 c2
        refine lv_iinc (pc := 43) (v := x2 + 1) (lv' := [(2, .int (x2 + 1)), (0, .ref (ad 4)), (1, .int x1)]) hx hb dX2_heaviestInOffice_43 hl (k := 2) rfl rfl (by decide) rfl (fun ls hl => ?_)
        refine lv_goto (pc := 46) (tgt := 4) hx hb dX2_heaviestInOffice_46 (by decide) ?_
        exact ih A V x1 (x2 + 1) h _ _ _ hw (lv_sub hl [1, 2, 0] rfl)
      · have h := h.2 c2
        refine lv_iload_n (pc := 21) hx hb dX2_heaviestInOffice_21 rfl (lv_at hl 1 rfl) ?_
        refine lv_iconst (pc := 22) (v := (-1 : Int32)) hx hb dX2_heaviestInOffice_22 (by decide) ?_
        refine lv_icmp_eq (pc := 23) (tgt := 41) hx hb dX2_heaviestInOffice_23 (by decide) (fun c3 => ?_) (fun c3 => ?_)
        · have h := h.1 c3
          refine lv_iload_n (pc := 41) hx hb dX2_heaviestInOffice_41 rfl (lv_at hl 2 rfl) ?_
          refine lv_istore_n (pc := 42) (lv' := [(1, .int x2), (0, .ref (ad 4)), (2, .int x2)]) hx hb dX2_heaviestInOffice_42 rfl hl (by decide) rfl (fun ls hl => ?_)
          refine lv_iinc (pc := 43) (v := x2 + 1) (lv' := [(2, .int (x2 + 1)), (1, .int x2), (0, .ref (ad 4))]) hx hb dX2_heaviestInOffice_43 hl (k := 2) rfl rfl (by decide) rfl (fun ls hl => ?_)
          refine lv_goto (pc := 46) (tgt := 4) hx hb dX2_heaviestInOffice_46 (by decide) ?_
          exact ih A V x2 (x2 + 1) h _ _ _ hw (lv_sub hl [2, 1, 0] rfl)
        · have h := h.2 c3
          refine lv_aload_n (pc := 26) hx hb dX2_heaviestInOffice_26 rfl (lv_at hl 0 rfl) ?_
          refine geO_X2_1 (pc := 27) cx inX2_heaviestInOffice_X2 kX2_heaviestInOffice_15 hw dX2_heaviestInOffice_27 ?_
          refine lv_iload_n (pc := 30) hx hb dX2_heaviestInOffice_30 rfl (lv_at hl 2 rfl) ?_
          refine alO_10 (pc := 31) cx hw h.1 dX2_heaviestInOffice_31 ?_
          have h := h.2
          refine lv_aload_n (pc := 32) hx hb dX2_heaviestInOffice_32 rfl (lv_at hl 0 rfl) ?_
          refine geO_X2_1 (pc := 33) cx inX2_heaviestInOffice_X2 kX2_heaviestInOffice_15 hw dX2_heaviestInOffice_33 ?_
          refine lv_iload_n (pc := 36) hx hb dX2_heaviestInOffice_36 rfl (lv_at hl 1 rfl) ?_
          refine alO_10 (pc := 37) cx hw h.1 dX2_heaviestInOffice_37 ?_
          have h := h.2
          refine lv_icmp_le (pc := 38) (tgt := 43) hx hb dX2_heaviestInOffice_38 (by decide) (fun c4 => ?_) (fun c4 => ?_)
          · have h := h.1 c4
            refine lv_iinc (pc := 43) (v := x2 + 1) (lv' := [(2, .int (x2 + 1)), (0, .ref (ad 4)), (1, .int x1)]) hx hb dX2_heaviestInOffice_43 hl (k := 2) rfl rfl (by decide) rfl (fun ls hl => ?_)
            refine lv_goto (pc := 46) (tgt := 4) hx hb dX2_heaviestInOffice_46 (by decide) ?_
            exact ih A V x1 (x2 + 1) h _ _ _ hw (lv_sub hl [1, 2, 0] rfl)
          · have h := h.2 c4
            refine lv_iload_n (pc := 41) hx hb dX2_heaviestInOffice_41 rfl (lv_at hl 2 rfl) ?_
            refine lv_istore_n (pc := 42) (lv' := [(1, .int x2), (0, .ref (ad 4)), (2, .int x2)]) hx hb dX2_heaviestInOffice_42 rfl hl (by decide) rfl (fun ls hl => ?_)
            refine lv_iinc (pc := 43) (v := x2 + 1) (lv' := [(2, .int (x2 + 1)), (1, .int x2), (0, .ref (ad 4))]) hx hb dX2_heaviestInOffice_43 hl (k := 2) rfl rfl (by decide) rfl (fun ls hl => ?_)
            refine lv_goto (pc := 46) (tgt := 4) hx hb dX2_heaviestInOffice_46 (by decide) ?_
            exact ih A V x2 (x2 + 1) h _ _ _ hw (lv_sub hl [2, 1, 0] rfl)
def wb_X2_heaviestInOffice_0 (Q : Int32 → SA → SV → Prop) (A : SA) (V : SV) : Prop := (∃ n4 : Nat, wl_X2_heaviestInOffice_4 Q n4 A V (-1 : Int32) (0 : Int32))
set_option maxHeartbeats 4000000 in
set_option maxRecDepth 100000 in
theorem wk_X2_heaviestInOffice_0 (Q : Int32 → SA → SV → Prop) (cx : CX RX2 cX2_heaviestInOffice 3 wsX2_heaviestInOffice D [(cI, .int), (cZ, .boolean)] p s m args c A0) (hret : ∀ (pc : Nat) (ls : Array Slot) (r : Int32) (u : SA × SV) (H : Heap) (locs : List Loc), narrow .int (.int r) = .int r → decode cX2_heaviestInOffice pc = .ok (.ireturn, 1) → Q r u.1 u.2 → WS D s A0 (wO ad cI cZ u.1 u.2) H locs → W p l e rmX2_heaviestInOffice s m args below meth c H locs rmX2_heaviestInOffice.cells rmX2_heaviestInOffice.slots Z (F0 m pc ls [.int r]))  : ∀ (A : SA) (V : SV) (h : wb_X2_heaviestInOffice_0 Q A V) (H : Heap) (locs : List Loc) (ls : Array Slot) (hw : WS D s A0 (wO ad cI cZ A V) H locs) (hl : lv_has ls 3 [(0, .ref (ad 4))]), W p l e rmX2_heaviestInOffice s m args below meth c H locs 0 0 Z (F0 m 0 ls []) := by
  obtain ⟨hx, hb, hml, hown, hts, hK, hA⟩ := id cx
  intro A V h H locs ls hw hl
  refine lv_iconst (pc := 0) (v := (-1 : Int32)) hx hb dX2_heaviestInOffice_0 (by decide) ?_
  refine lv_istore_n (pc := 1) (lv' := [(1, .int (-1 : Int32)), (0, .ref (ad 4))]) hx hb dX2_heaviestInOffice_1 rfl hl (by decide) rfl (fun ls hl => ?_)
  refine lv_iconst (pc := 2) (v := (0 : Int32)) hx hb dX2_heaviestInOffice_2 (by decide) ?_
  refine lv_istore_n (pc := 3) (lv' := [(2, .int (0 : Int32)), (1, .int (-1 : Int32)), (0, .ref (ad 4))]) hx hb dX2_heaviestInOffice_3 rfl hl (by decide) rfl (fun ls hl => ?_)
  obtain ⟨n4, h⟩ := h
  exact wk_X2_heaviestInOffice_4 Q cx hret  n4 A V (-1 : Int32) (0 : Int32) h _ _ _ hw (lv_sub hl [2, 1, 0] rfl)
def wpX2_heaviestInOffice (A : SA) (V : SV)  (Q : Int32 → SA → SV → Prop) : Prop := wb_X2_heaviestInOffice_0 Q A V
set_option maxHeartbeats 4000000 in
set_option maxRecDepth 100000 in
theorem metX2_heaviestInOffice (l : Launch) (D : va_G) (cI cZ : ClassId) (ad : Nat → Nat) (sz : Nat) (A : SA) (V : SV)  (Q : Int32 → SA → SV → Prop) (h : wpX2_heaviestInOffice A V  Q) : Met l yX2_heaviestInOffice wsX2_heaviestInOffice rmX2_heaviestInOffice (PcW D [(cI, .int), (cZ, .boolean)] (wO ad cI cZ A V) sz [.ref (ad 4)]) (QiW D [(cI, .int), (cZ, .boolean)] (wO ad cI cZ A V) sz (fun u : SA × SV => (wO ad cI cZ u.1 u.2)) (fun r u => Q r u.1 u.2)) rmX2_heaviestInOffice.cells rmX2_heaviestInOffice.slots (va_A (wO ad cI cZ A V) sz) := by
  refine startI (plainFor_of_name (by decide)) rfl (Nat.le_of_ble_eq_true rfl) ?_
  intro p e s m args below meth c A0 Z cx hw hret ls hl
  exact wk_X2_heaviestInOffice_0 Q cx hret A V h _ _ _ hw hl
abbrev rmX2_fact : Room := { frames := 1, cells := 0, slots := 0, locals := 21 }
theorem inX2_fact_X2 : ∀ w ∈ wsX20, w ∈ wsX2_fact := by decide +kernel
theorem kX2_fact_15 : Cond.fieldLink RX2 15 "DrownedPost$Letters" "weight" "[I" ∈ wsX2_fact := by decide +kernel
theorem kX2_fact_18 : Cond.fieldLink RX2 18 "DrownedPost$Letters" "seal" "[I" ∈ wsX2_fact := by decide +kernel
theorem kX2_fact_21 : Cond.fieldLink RX2 21 "DrownedPost$Letters" "state" "[I" ∈ wsX2_fact := by decide +kernel
theorem kX2_fact_24 : Cond.fieldLink RX2 24 "DrownedPost$Letters" "growth" "[I" ∈ wsX2_fact := by decide +kernel
theorem kX2_fact_27 : Cond.fieldLink RX2 27 "DrownedPost$Letters" "bin" "[I" ∈ wsX2_fact := by decide +kernel
theorem kX2_fact_30 : Cond.fieldLink RX2 30 "DrownedPost$Letters" "held" "[I" ∈ wsX2_fact := by decide +kernel
theorem kX2_fact_33 : Cond.fieldLink RX2 33 "DrownedPost$Letters" "hoursBefore" "[I" ∈ wsX2_fact := by decide +kernel
theorem kX2_fact_36 : Cond.fieldLink RX2 36 "DrownedPost$Letters" "answered" "[I" ∈ wsX2_fact := by decide +kernel
theorem kX2_fact_9 : Cond.fieldLink RX2 9 "DrownedPost$Letters" "to" "[I" ∈ wsX2_fact := by decide +kernel
def wb_X2_fact_0 (Q : Int32 → SA → SV → Prop) (A : SA) (V : SV) (x1 : Int32) (x2 : Int32) : Prop := (wpX2_has A V x1 (fun r1 A_4 V_5 => ((¬ r1 = 0 → ((x2 = (0 : Int32) → (vp_in x1 150 ∧ Q (A_4 9 x1.toNatClampNeg) A_4 V_5)) ∧ (¬ x2 = (0 : Int32) → ((x2 = (1 : Int32) → (vp_in x1 150 ∧ Q (A_4 10 x1.toNatClampNeg) A_4 V_5)) ∧ (¬ x2 = (1 : Int32) → ((x2 = (2 : Int32) → (vp_in x1 150 ∧ Q (A_4 11 x1.toNatClampNeg) A_4 V_5)) ∧ (¬ x2 = (2 : Int32) → ((x2 = (3 : Int32) → (vp_in x1 150 ∧ Q (A_4 12 x1.toNatClampNeg) A_4 V_5)) ∧ (¬ x2 = (3 : Int32) → ((x2 = (4 : Int32) → (vp_in x1 150 ∧ Q (A_4 13 x1.toNatClampNeg) A_4 V_5)) ∧ (¬ x2 = (4 : Int32) → ((x2 = (5 : Int32) → (vp_in x1 150 ∧ Q (A_4 14 x1.toNatClampNeg) A_4 V_5)) ∧ (¬ x2 = (5 : Int32) → ((x2 = (6 : Int32) → (vp_in x1 150 ∧ Q (A_4 15 x1.toNatClampNeg) A_4 V_5)) ∧ (¬ x2 = (6 : Int32) → ((x2 = (7 : Int32) → (vp_in x1 150 ∧ Q (A_4 16 x1.toNatClampNeg) A_4 V_5)) ∧ (¬ x2 = (7 : Int32) → ((x2 = (8 : Int32) → (vp_in x1 150 ∧ Q (A_4 17 x1.toNatClampNeg) A_4 V_5)) ∧ (¬ x2 = (8 : Int32) → Q (0 : Int32) A_4 V_5))))))))))))))))))) ∧ (r1 = 0 → Q (0 : Int32) A_4 V_5))))
set_option maxHeartbeats 4000000 in
set_option maxRecDepth 100000 in
theorem wk_X2_fact_0 (Q : Int32 → SA → SV → Prop) (cx : CX RX2 cX2_fact 3 wsX2_fact D [(cI, .int), (cZ, .boolean)] p s m args c A0) (hret : ∀ (pc : Nat) (ls : Array Slot) (r : Int32) (u : SA × SV) (H : Heap) (locs : List Loc), narrow .int (.int r) = .int r → decode cX2_fact pc = .ok (.ireturn, 1) → Q r u.1 u.2 → WS D s A0 (wO ad cI cZ u.1 u.2) H locs → W p l e rmX2_fact s m args below meth c H locs rmX2_fact.cells rmX2_fact.slots Z (F0 m pc ls [.int r]))  : ∀ (A : SA) (V : SV) (x1 : Int32) (x2 : Int32) (h : wb_X2_fact_0 Q A V x1 x2) (H : Heap) (locs : List Loc) (ls : Array Slot) (hw : WS D s A0 (wO ad cI cZ A V) H locs) (hl : lv_has ls 3 [(0, .ref (ad 4)), (1, .int x1), (2, .int x2)]), W p l e rmX2_fact s m args below meth c H locs 0 0 Z (F0 m 0 ls []) := by
  obtain ⟨hx, hb, hml, hown, hts, hK, hA⟩ := id cx
  intro A V x1 x2 h H locs ls hw hl
  refine lv_aload_n (pc := 0) hx hb dX2_fact_0 rfl (lv_at hl 0 rfl) ?_
  refine lv_iload_n (pc := 1) hx hb dX2_fact_1 rfl (lv_at hl 1 rfl) ?_
  refine callVi (pc := 2) (rest := []) (c1 := 0) (s1 := 0) cx hw hl (metX2_has l D cI cZ ad H.size A V x1 _ h) (fun hts => cwV 1 hts gX2_fact_X2_has rfl rfl rfl (by decide +kernel) ⟨Nat.le_of_ble_eq_true rfl, Nat.le_of_ble_eq_true rfl⟩) SUB.rf [0, 1] rfl 4 (ci := 2) rfl rfl rfl (JN.rf) rfl rfl (Nat.le_of_ble_eq_true rfl) ⟨Nat.le_of_ble_eq_true rfl, Nat.le_of_ble_eq_true rfl⟩ rfl rfl dX2_fact_2 (fun r1 u H locs h hw => ?_)
  obtain ⟨A_4, V_5⟩ := u
  refine lv_if_ne (pc := 5) (tgt := 10) hx hb dX2_fact_5 (by decide) (fun c6 => ?_) (fun c6 => ?_)
  · have h := h.1 c6
    refine lv_iload_n (pc := 10) hx hb dX2_fact_10 rfl (lv_at hl 2 rfl) ?_
    by_cases e7 : x2 = (0 : Int32)
    · have h := h.1 e7
      refine lv_tableIn (pc := 11) (off := 49) (tgt := 60) hx hb dX2_fact_11 (by rw [e7]; decide) (by rw [e7]; decide) (by rw [e7]; rfl) (by decide) ?_
      refine lv_aload_n (pc := 60) hx hb dX2_fact_60 rfl (lv_at hl 0 rfl) ?_
      refine geO_X2_0 (pc := 61) cx inX2_fact_X2 kX2_fact_9 hw dX2_fact_61 ?_
      refine lv_iload_n (pc := 64) hx hb dX2_fact_64 rfl (lv_at hl 1 rfl) ?_
      refine alO_9 (pc := 65) cx hw h.1 dX2_fact_65 ?_
      have h := h.2
      exact hret 66 _ _ (A_4, V_5) _ _ rfl dX2_fact_66 h hw
    · have h := h.2 e7
      by_cases e8 : x2 = (1 : Int32)
      · have h := h.1 e8
        refine lv_tableIn (pc := 11) (off := 56) (tgt := 67) hx hb dX2_fact_11 (by rw [e8]; decide) (by rw [e8]; decide) (by rw [e8]; rfl) (by decide) ?_
        refine lv_aload_n (pc := 67) hx hb dX2_fact_67 rfl (lv_at hl 0 rfl) ?_
        refine geO_X2_1 (pc := 68) cx inX2_fact_X2 kX2_fact_15 hw dX2_fact_68 ?_
        refine lv_iload_n (pc := 71) hx hb dX2_fact_71 rfl (lv_at hl 1 rfl) ?_
        refine alO_10 (pc := 72) cx hw h.1 dX2_fact_72 ?_
        have h := h.2
        exact hret 73 _ _ (A_4, V_5) _ _ rfl dX2_fact_73 h hw
      · have h := h.2 e8
        by_cases e9 : x2 = (2 : Int32)
        · have h := h.1 e9
          refine lv_tableIn (pc := 11) (off := 63) (tgt := 74) hx hb dX2_fact_11 (by rw [e9]; decide) (by rw [e9]; decide) (by rw [e9]; rfl) (by decide) ?_
          refine lv_aload_n (pc := 74) hx hb dX2_fact_74 rfl (lv_at hl 0 rfl) ?_
          refine geO_X2_2 (pc := 75) cx inX2_fact_X2 kX2_fact_18 hw dX2_fact_75 ?_
          refine lv_iload_n (pc := 78) hx hb dX2_fact_78 rfl (lv_at hl 1 rfl) ?_
          refine alO_11 (pc := 79) cx hw h.1 dX2_fact_79 ?_
          have h := h.2
          exact hret 80 _ _ (A_4, V_5) _ _ rfl dX2_fact_80 h hw
        · have h := h.2 e9
          by_cases e10 : x2 = (3 : Int32)
          · have h := h.1 e10
            refine lv_tableIn (pc := 11) (off := 70) (tgt := 81) hx hb dX2_fact_11 (by rw [e10]; decide) (by rw [e10]; decide) (by rw [e10]; rfl) (by decide) ?_
            refine lv_aload_n (pc := 81) hx hb dX2_fact_81 rfl (lv_at hl 0 rfl) ?_
            refine geO_X2_3 (pc := 82) cx inX2_fact_X2 kX2_fact_21 hw dX2_fact_82 ?_
            refine lv_iload_n (pc := 85) hx hb dX2_fact_85 rfl (lv_at hl 1 rfl) ?_
            refine alO_12 (pc := 86) cx hw h.1 dX2_fact_86 ?_
            have h := h.2
            exact hret 87 _ _ (A_4, V_5) _ _ rfl dX2_fact_87 h hw
          · have h := h.2 e10
            by_cases e11 : x2 = (4 : Int32)
            · have h := h.1 e11
              refine lv_tableIn (pc := 11) (off := 77) (tgt := 88) hx hb dX2_fact_11 (by rw [e11]; decide) (by rw [e11]; decide) (by rw [e11]; rfl) (by decide) ?_
              refine lv_aload_n (pc := 88) hx hb dX2_fact_88 rfl (lv_at hl 0 rfl) ?_
              refine geO_X2_4 (pc := 89) cx inX2_fact_X2 kX2_fact_24 hw dX2_fact_89 ?_
              refine lv_iload_n (pc := 92) hx hb dX2_fact_92 rfl (lv_at hl 1 rfl) ?_
              refine alO_13 (pc := 93) cx hw h.1 dX2_fact_93 ?_
              have h := h.2
              exact hret 94 _ _ (A_4, V_5) _ _ rfl dX2_fact_94 h hw
            · have h := h.2 e11
              by_cases e12 : x2 = (5 : Int32)
              · have h := h.1 e12
                refine lv_tableIn (pc := 11) (off := 84) (tgt := 95) hx hb dX2_fact_11 (by rw [e12]; decide) (by rw [e12]; decide) (by rw [e12]; rfl) (by decide) ?_
                refine lv_aload_n (pc := 95) hx hb dX2_fact_95 rfl (lv_at hl 0 rfl) ?_
                refine geO_X2_5 (pc := 96) cx inX2_fact_X2 kX2_fact_27 hw dX2_fact_96 ?_
                refine lv_iload_n (pc := 99) hx hb dX2_fact_99 rfl (lv_at hl 1 rfl) ?_
                refine alO_14 (pc := 100) cx hw h.1 dX2_fact_100 ?_
                have h := h.2
                exact hret 101 _ _ (A_4, V_5) _ _ rfl dX2_fact_101 h hw
              · have h := h.2 e12
                by_cases e13 : x2 = (6 : Int32)
                · have h := h.1 e13
                  refine lv_tableIn (pc := 11) (off := 91) (tgt := 102) hx hb dX2_fact_11 (by rw [e13]; decide) (by rw [e13]; decide) (by rw [e13]; rfl) (by decide) ?_
                  refine lv_aload_n (pc := 102) hx hb dX2_fact_102 rfl (lv_at hl 0 rfl) ?_
                  refine geO_X2_6 (pc := 103) cx inX2_fact_X2 kX2_fact_30 hw dX2_fact_103 ?_
                  refine lv_iload_n (pc := 106) hx hb dX2_fact_106 rfl (lv_at hl 1 rfl) ?_
                  refine alO_15 (pc := 107) cx hw h.1 dX2_fact_107 ?_
                  have h := h.2
                  exact hret 108 _ _ (A_4, V_5) _ _ rfl dX2_fact_108 h hw
                · have h := h.2 e13
                  by_cases e14 : x2 = (7 : Int32)
                  · have h := h.1 e14
                    refine lv_tableIn (pc := 11) (off := 98) (tgt := 109) hx hb dX2_fact_11 (by rw [e14]; decide) (by rw [e14]; decide) (by rw [e14]; rfl) (by decide) ?_
                    refine lv_aload_n (pc := 109) hx hb dX2_fact_109 rfl (lv_at hl 0 rfl) ?_
                    refine geO_X2_7 (pc := 110) cx inX2_fact_X2 kX2_fact_33 hw dX2_fact_110 ?_
                    refine lv_iload_n (pc := 113) hx hb dX2_fact_113 rfl (lv_at hl 1 rfl) ?_
                    refine alO_16 (pc := 114) cx hw h.1 dX2_fact_114 ?_
                    have h := h.2
                    exact hret 115 _ _ (A_4, V_5) _ _ rfl dX2_fact_115 h hw
                  · have h := h.2 e14
                    by_cases e15 : x2 = (8 : Int32)
                    · have h := h.1 e15
                      refine lv_tableIn (pc := 11) (off := 105) (tgt := 116) hx hb dX2_fact_11 (by rw [e15]; decide) (by rw [e15]; decide) (by rw [e15]; rfl) (by decide) ?_
                      refine lv_aload_n (pc := 116) hx hb dX2_fact_116 rfl (lv_at hl 0 rfl) ?_
                      refine geO_X2_8 (pc := 117) cx inX2_fact_X2 kX2_fact_36 hw dX2_fact_117 ?_
                      refine lv_iload_n (pc := 120) hx hb dX2_fact_120 rfl (lv_at hl 1 rfl) ?_
                      refine alO_17 (pc := 121) cx hw h.1 dX2_fact_121 ?_
                      have h := h.2
                      exact hret 122 _ _ (A_4, V_5) _ _ rfl dX2_fact_122 h hw
                    · have h := h.2 e15
                      refine lv_tableOut (pc := 11) (tgt := 123) hx hb dX2_fact_11 (tsw 8 (by decide) (fun i hi => match i, hi with | 0, _ => e7 | 1, _ => e8 | 2, _ => e9 | 3, _ => e10 | 4, _ => e11 | 5, _ => e12 | 6, _ => e13 | 7, _ => e14 | 8, _ => e15 | _ + 9, hi => absurd hi (by omega))) (by decide) ?_
                      refine lv_iconst (pc := 123) (v := (0 : Int32)) hx hb dX2_fact_123 (by decide) ?_
                      exact hret 124 _ _ (A_4, V_5) _ _ rfl dX2_fact_124 h hw
  · have h := h.2 c6
    refine lv_iconst (pc := 8) (v := (0 : Int32)) hx hb dX2_fact_8 (by decide) ?_
    exact hret 9 _ _ (A_4, V_5) _ _ rfl dX2_fact_9 h hw
def wpX2_fact (A : SA) (V : SV) (x1 : Int32) (x2 : Int32) (Q : Int32 → SA → SV → Prop) : Prop := wb_X2_fact_0 Q A V x1 x2
set_option maxHeartbeats 4000000 in
set_option maxRecDepth 100000 in
theorem metX2_fact (l : Launch) (D : va_G) (cI cZ : ClassId) (ad : Nat → Nat) (sz : Nat) (A : SA) (V : SV) (x1 : Int32) (x2 : Int32) (Q : Int32 → SA → SV → Prop) (h : wpX2_fact A V x1 x2 Q) : Met l yX2_fact wsX2_fact rmX2_fact (PcW D [(cI, .int), (cZ, .boolean)] (wO ad cI cZ A V) sz [.ref (ad 4), .int x1, .int x2]) (QiW D [(cI, .int), (cZ, .boolean)] (wO ad cI cZ A V) sz (fun u : SA × SV => (wO ad cI cZ u.1 u.2)) (fun r u => Q r u.1 u.2)) rmX2_fact.cells rmX2_fact.slots (va_A (wO ad cI cZ A V) sz) := by
  refine startI (plainFor_of_name (by decide)) rfl (Nat.le_of_ble_eq_true rfl) ?_
  intro p e s m args below meth c A0 Z cx hw hret ls hl
  exact wk_X2_fact_0 Q cx hret A V x1 x2 h _ _ _ hw hl
abbrev rmJ9_floorMod_7cf53 : Room := { frames := 0, cells := 0, slots := 0, locals := 0 }
def wb_J9_floorMod_7cf53_0 (Q : Int32 → Prop) (x0 : Int32) (x1 : Int32) : Prop := (¬ x1 = 0 ∧ ((0 ≤ (x0 ^^^ x1) → Q (x0 - x0 / x1 * x1)) ∧ (¬ (0 ≤ (x0 ^^^ x1)) → (((x0 - x0 / x1 * x1) = 0 → Q (x0 - x0 / x1 * x1)) ∧ (¬ ((x0 - x0 / x1 * x1) = 0) → Q ((x0 - x0 / x1 * x1) + x1))))))
set_option maxHeartbeats 4000000 in
set_option maxRecDepth 100000 in
theorem wk_J9_floorMod_7cf53_0 (Q : Int32 → Prop) (cx : CX RJ9 cJ9_floorMod_7cf53 3 wsJ9_floorMod_7cf53 D tys p s m args c A0) (hret : ∀ (pc : Nat) (ls : Array Slot) (r : Int32) (u : Unit) (H : Heap) (locs : List Loc), narrow .int (.int r) = .int r → decode cJ9_floorMod_7cf53 pc = .ok (.ireturn, 1) → Q r → WS D s A0 ([] : va_W) H locs → W p l e rmJ9_floorMod_7cf53 s m args below meth c H locs rmJ9_floorMod_7cf53.cells rmJ9_floorMod_7cf53.slots Z (F0 m pc ls [.int r]))  : ∀ (x0 : Int32) (x1 : Int32) (h : wb_J9_floorMod_7cf53_0 Q x0 x1) (H : Heap) (locs : List Loc) (ls : Array Slot) (hw : WS D s A0 ([] : va_W) H locs) (hl : lv_has ls 3 [(0, .int x0), (1, .int x1)]), W p l e rmJ9_floorMod_7cf53 s m args below meth c H locs 0 0 Z (F0 m 0 ls []) := by
  obtain ⟨hx, hb, hml, hown, hts, hK, hA⟩ := id cx
  intro x0 x1 h H locs ls hw hl
  refine lv_iload_n (pc := 0) hx hb dJ9_floorMod_7cf53_0 rfl (lv_at hl 0 rfl) ?_
  refine lv_iload_n (pc := 1) hx hb dJ9_floorMod_7cf53_1 rfl (lv_at hl 1 rfl) ?_
  refine lv_irem (pc := 2) hx hb dJ9_floorMod_7cf53_2 h.1 ?_
  have h := h.2
  refine lv_istore_n (pc := 3) (lv' := [(2, .int (x0 - x0 / x1 * x1)), (0, .int x0), (1, .int x1)]) hx hb dJ9_floorMod_7cf53_3 rfl hl (by decide) rfl (fun ls hl => ?_)
  refine lv_iload_n (pc := 4) hx hb dJ9_floorMod_7cf53_4 rfl (lv_at hl 1 rfl) ?_
  refine lv_iload_n (pc := 5) hx hb dJ9_floorMod_7cf53_5 rfl (lv_at hl 2 rfl) ?_
  refine lv_ixor (pc := 6) hx hb dJ9_floorMod_7cf53_6 ?_
  refine lv_if_ge (pc := 7) (tgt := 18) hx hb dJ9_floorMod_7cf53_7 (by decide) (fun c1 => ?_) (fun c1 => ?_)
  · have h := h.1 c1
    refine lv_iload_n (pc := 18) hx hb dJ9_floorMod_7cf53_18 rfl (lv_at hl 0 rfl) ?_
    exact hret 19 _ _ () _ _ rfl dJ9_floorMod_7cf53_19 h hw
  · have h := h.2 c1
    refine lv_iload_n (pc := 10) hx hb dJ9_floorMod_7cf53_10 rfl (lv_at hl 0 rfl) ?_
    refine lv_if_eq (pc := 11) (tgt := 18) hx hb dJ9_floorMod_7cf53_11 (by decide) (fun c2 => ?_) (fun c2 => ?_)
    · have h := h.1 c2
      refine lv_iload_n (pc := 18) hx hb dJ9_floorMod_7cf53_18 rfl (lv_at hl 0 rfl) ?_
      exact hret 19 _ _ () _ _ rfl dJ9_floorMod_7cf53_19 h hw
    · have h := h.2 c2
      refine lv_iload_n (pc := 14) hx hb dJ9_floorMod_7cf53_14 rfl (lv_at hl 0 rfl) ?_
      refine lv_iload_n (pc := 15) hx hb dJ9_floorMod_7cf53_15 rfl (lv_at hl 2 rfl) ?_
      refine lv_iadd (pc := 16) hx hb dJ9_floorMod_7cf53_16 ?_
      exact hret 17 _ _ () _ _ rfl dJ9_floorMod_7cf53_17 h hw
def wpJ9_floorMod_7cf53 (x0 : Int32) (x1 : Int32) (Q : Int32 → Prop) : Prop := wb_J9_floorMod_7cf53_0 Q x0 x1
set_option maxHeartbeats 4000000 in
set_option maxRecDepth 100000 in
theorem metJ9_floorMod_7cf53 (l : Launch) (D : va_G) (tys : TYS) (sz : Nat) (x0 : Int32) (x1 : Int32) (Q : Int32 → Prop) (h : wpJ9_floorMod_7cf53 x0 x1 Q) : Met l yJ9_floorMod_7cf53 wsJ9_floorMod_7cf53 rmJ9_floorMod_7cf53 (PcW D tys ([] : va_W) sz [.int x0, .int x1]) (QiW D tys ([] : va_W) sz (fun u : Unit => ([] : va_W)) (fun r u => Q r)) rmJ9_floorMod_7cf53.cells rmJ9_floorMod_7cf53.slots (va_A ([] : va_W) sz) := by
  refine startI (by decide +kernel) rfl (Nat.le_of_ble_eq_true rfl) ?_
  intro p e s m args below meth c A0 Z cx hw hret ls hl
  exact wk_J9_floorMod_7cf53_0 Q cx hret x0 x1 h _ _ _ hw hl
abbrev rmX4_heightIn : Room := { frames := 1, cells := 0, slots := 0, locals := 22 }
theorem inX4_heightIn_X4 : ∀ w ∈ wsX40, w ∈ wsX4_heightIn := by decide +kernel
theorem kX4_heightIn_18 : Cond.fieldLink RX4 18 "DrownedPost$Tides" "count" "I" ∈ wsX4_heightIn := by decide +kernel
theorem kX4_heightIn_9 : Cond.fieldLink RX4 9 "DrownedPost$Tides" "heights" "[I" ∈ wsX4_heightIn := by decide +kernel
def wb_X4_heightIn_0 (Q : Int32 → SA → SV → Prop) (A : SA) (V : SV) (x1 : Int32) : Prop := (((1 : Int32) ≤ (V 0) → (wpJ9_floorMod_7cf53 x1 (V 0) (fun r2 => (vp_in r2 30 ∧ Q (A 0 r2.toNatClampNeg) A V)))) ∧ (¬ ((1 : Int32) ≤ (V 0)) → Q (0 : Int32) A V))
set_option maxHeartbeats 4000000 in
set_option maxRecDepth 100000 in
theorem wk_X4_heightIn_0 (Q : Int32 → SA → SV → Prop) (cx : CX RX4 cX4_heightIn 2 wsX4_heightIn D [(cI, .int), (cZ, .boolean)] p s m args c A0) (hret : ∀ (pc : Nat) (ls : Array Slot) (r : Int32) (u : SA × SV) (H : Heap) (locs : List Loc), narrow .int (.int r) = .int r → decode cX4_heightIn pc = .ok (.ireturn, 1) → Q r u.1 u.2 → WS D s A0 (wO ad cI cZ u.1 u.2) H locs → W p l e rmX4_heightIn s m args below meth c H locs rmX4_heightIn.cells rmX4_heightIn.slots Z (F0 m pc ls [.int r]))  : ∀ (A : SA) (V : SV) (x1 : Int32) (h : wb_X4_heightIn_0 Q A V x1) (H : Heap) (locs : List Loc) (ls : Array Slot) (hw : WS D s A0 (wO ad cI cZ A V) H locs) (hl : lv_has ls 2 [(0, .ref (ad 1)), (1, .int x1)]), W p l e rmX4_heightIn s m args below meth c H locs 0 0 Z (F0 m 0 ls []) := by
  obtain ⟨hx, hb, hml, hown, hts, hK, hA⟩ := id cx
  intro A V x1 h H locs ls hw hl
  refine lv_aload_n (pc := 0) hx hb dX4_heightIn_0 rfl (lv_at hl 0 rfl) ?_
  refine geO_X4_1 (pc := 1) cx inX4_heightIn_X4 kX4_heightIn_18 hw dX4_heightIn_1 ?_
  refine lv_iconst (pc := 4) (v := (1 : Int32)) hx hb dX4_heightIn_4 (by decide) ?_
  refine lv_icmp_ge (pc := 5) (tgt := 10) hx hb dX4_heightIn_5 (by decide) (fun c1 => ?_) (fun c1 => ?_)
  · have h := h.1 c1
    refine lv_aload_n (pc := 10) hx hb dX4_heightIn_10 rfl (lv_at hl 0 rfl) ?_
    refine geO_X4_0 (pc := 11) cx inX4_heightIn_X4 kX4_heightIn_9 hw dX4_heightIn_11 ?_
    refine lv_iload_n (pc := 14) hx hb dX4_heightIn_14 rfl (lv_at hl 1 rfl) ?_
    refine lv_aload_n (pc := 15) hx hb dX4_heightIn_15 rfl (lv_at hl 0 rfl) ?_
    refine geO_X4_1 (pc := 16) cx inX4_heightIn_X4 kX4_heightIn_18 hw dX4_heightIn_16 ?_
    refine callSi (pc := 19) (rest := [.ref (ad 5)]) (c1 := 0) (s1 := 0) cx hw hl (metJ9_floorMod_7cf53 l D [] H.size x1 (V 0) _ h) (fun hts => va_cwS 2 hts gX4_heightIn_J9_floorMod_7cf53 rfl rfl rfl (by decide +kernel) ⟨Nat.le_of_ble_eq_true rfl, Nat.le_of_ble_eq_true rfl⟩) SUB.nil [] rfl (JN.nil (S := Unit)) rfl rfl (Nat.le_of_ble_eq_true rfl) ⟨Nat.le_of_ble_eq_true rfl, Nat.le_of_ble_eq_true rfl⟩ rfl rfl dX4_heightIn_19 (fun r2 u H locs h hw => ?_)
    refine alO_0 (pc := 22) cx hw h.1 dX4_heightIn_22 ?_
    have h := h.2
    exact hret 23 _ _ (A, V) _ _ rfl dX4_heightIn_23 h hw
  · have h := h.2 c1
    refine lv_iconst (pc := 8) (v := (0 : Int32)) hx hb dX4_heightIn_8 (by decide) ?_
    exact hret 9 _ _ (A, V) _ _ rfl dX4_heightIn_9 h hw
def wpX4_heightIn (A : SA) (V : SV) (x1 : Int32) (Q : Int32 → SA → SV → Prop) : Prop := wb_X4_heightIn_0 Q A V x1
set_option maxHeartbeats 4000000 in
set_option maxRecDepth 100000 in
theorem metX4_heightIn (l : Launch) (D : va_G) (cI cZ : ClassId) (ad : Nat → Nat) (sz : Nat) (A : SA) (V : SV) (x1 : Int32) (Q : Int32 → SA → SV → Prop) (h : wpX4_heightIn A V x1 Q) : Met l yX4_heightIn wsX4_heightIn rmX4_heightIn (PcW D [(cI, .int), (cZ, .boolean)] (wO ad cI cZ A V) sz [.ref (ad 1), .int x1]) (QiW D [(cI, .int), (cZ, .boolean)] (wO ad cI cZ A V) sz (fun u : SA × SV => (wO ad cI cZ u.1 u.2)) (fun r u => Q r u.1 u.2)) rmX4_heightIn.cells rmX4_heightIn.slots (va_A (wO ad cI cZ A V) sz) := by
  refine startI (plainFor_of_name (by decide)) rfl (Nat.le_of_ble_eq_true rfl) ?_
  intro p e s m args below meth c A0 Z cx hw hret ls hl
  exact wk_X4_heightIn_0 Q cx hret A V x1 h _ _ _ hw hl
abbrev rmX3_tideNow : Room := { frames := 2, cells := 0, slots := 0, locals := 43 }
theorem inX3_tideNow_X3 : ∀ w ∈ wsX30, w ∈ wsX3_tideNow := by decide +kernel
theorem kX3_tideNow_12 : Cond.fieldLink RX3 12 "DrownedPost$Office" "tides" "LDrownedPost$Tides;" ∈ wsX3_tideNow := by decide +kernel
theorem kX3_tideNow_67 : Cond.fieldLink RX3 67 "DrownedPost$Office" "hour" "I" ∈ wsX3_tideNow := by decide +kernel
def wb_X3_tideNow_0 (Q : Int32 → SA → SV → Prop) (A : SA) (V : SV) : Prop := (wpX4_heightIn A V (V 4) (fun r1 A_4 V_5 => Q r1 A_4 V_5))
set_option maxHeartbeats 4000000 in
set_option maxRecDepth 100000 in
theorem wk_X3_tideNow_0 (Q : Int32 → SA → SV → Prop) (cx : CX RX3 cX3_tideNow 1 wsX3_tideNow D [(cI, .int), (cZ, .boolean)] p s m args c A0) (hret : ∀ (pc : Nat) (ls : Array Slot) (r : Int32) (u : SA × SV) (H : Heap) (locs : List Loc), narrow .int (.int r) = .int r → decode cX3_tideNow pc = .ok (.ireturn, 1) → Q r u.1 u.2 → WS D s A0 (wO ad cI cZ u.1 u.2) H locs → W p l e rmX3_tideNow s m args below meth c H locs rmX3_tideNow.cells rmX3_tideNow.slots Z (F0 m pc ls [.int r]))  : ∀ (A : SA) (V : SV) (h : wb_X3_tideNow_0 Q A V) (H : Heap) (locs : List Loc) (ls : Array Slot) (hw : WS D s A0 (wO ad cI cZ A V) H locs) (hl : lv_has ls 1 [(0, .ref (ad 0))]), W p l e rmX3_tideNow s m args below meth c H locs 0 0 Z (F0 m 0 ls []) := by
  obtain ⟨hx, hb, hml, hown, hts, hK, hA⟩ := id cx
  intro A V h H locs ls hw hl
  refine lv_aload_n (pc := 0) hx hb dX3_tideNow_0 rfl (lv_at hl 0 rfl) ?_
  refine geO_X3_0 (pc := 1) cx inX3_tideNow_X3 kX3_tideNow_12 hw dX3_tideNow_1 ?_
  refine lv_aload_n (pc := 4) hx hb dX3_tideNow_4 rfl (lv_at hl 0 rfl) ?_
  refine geO_X3_4 (pc := 5) cx inX3_tideNow_X3 kX3_tideNow_67 hw dX3_tideNow_5 ?_
  refine callVi (pc := 8) (rest := []) (c1 := 0) (s1 := 0) cx hw hl (metX4_heightIn l D cI cZ ad H.size A V (V 4) _ h) (fun hts => cwV 1 hts gX3_tideNow_X4_heightIn rfl rfl rfl (by decide +kernel) ⟨Nat.le_of_ble_eq_true rfl, Nat.le_of_ble_eq_true rfl⟩) SUB.rf [0, 1] rfl 1 (ci := 4) rfl rfl rfl (JN.rf) rfl rfl (Nat.le_of_ble_eq_true rfl) ⟨Nat.le_of_ble_eq_true rfl, Nat.le_of_ble_eq_true rfl⟩ rfl rfl dX3_tideNow_8 (fun r1 u H locs h hw => ?_)
  obtain ⟨A_4, V_5⟩ := u
  exact hret 11 _ _ (A_4, V_5) _ _ rfl dX3_tideNow_11 h hw
def wpX3_tideNow (A : SA) (V : SV)  (Q : Int32 → SA → SV → Prop) : Prop := wb_X3_tideNow_0 Q A V
set_option maxHeartbeats 4000000 in
set_option maxRecDepth 100000 in
theorem metX3_tideNow (l : Launch) (D : va_G) (cI cZ : ClassId) (ad : Nat → Nat) (sz : Nat) (A : SA) (V : SV)  (Q : Int32 → SA → SV → Prop) (h : wpX3_tideNow A V  Q) : Met l yX3_tideNow wsX3_tideNow rmX3_tideNow (PcW D [(cI, .int), (cZ, .boolean)] (wO ad cI cZ A V) sz [.ref (ad 0)]) (QiW D [(cI, .int), (cZ, .boolean)] (wO ad cI cZ A V) sz (fun u : SA × SV => (wO ad cI cZ u.1 u.2)) (fun r u => Q r u.1 u.2)) rmX3_tideNow.cells rmX3_tideNow.slots (va_A (wO ad cI cZ A V) sz) := by
  refine startI (plainFor_of_name (by decide)) rfl (Nat.le_of_ble_eq_true rfl) ?_
  intro p e s m args below meth c A0 Z cx hw hret ls hl
  exact wk_X3_tideNow_0 Q cx hret A V h _ _ _ hw hl
abbrev rmX3_leaveBin : Room := { frames := 1, cells := 0, slots := 0, locals := 21 }
theorem inX3_leaveBin_X0 : ∀ w ∈ wsX00, w ∈ wsX3_leaveBin := by decide +kernel
theorem inX3_leaveBin_X2 : ∀ w ∈ wsX20, w ∈ wsX3_leaveBin := by decide +kernel
theorem inX3_leaveBin_X3 : ∀ w ∈ wsX30, w ∈ wsX3_leaveBin := by decide +kernel
theorem kX3_leaveBin_104 : Cond.fieldLink RX3 104 "DrownedPost$Letters" "state" "[I" ∈ wsX3_leaveBin := by decide +kernel
theorem kX3_leaveBin_110 : Cond.fieldLink RX3 110 "DrownedPost$Letters" "bin" "[I" ∈ wsX3_leaveBin := by decide +kernel
theorem kX3_leaveBin_129 : Cond.fieldLink RX3 129 "DrownedPost$Letters" "held" "[I" ∈ wsX3_leaveBin := by decide +kernel
theorem kX3_leaveBin_143 : Cond.fieldLink RX3 143 "DrownedPost$Bins" "filled" "[I" ∈ wsX3_leaveBin := by decide +kernel
theorem kX3_leaveBin_21 : Cond.fieldLink RX3 21 "DrownedPost$Office" "bins" "LDrownedPost$Bins;" ∈ wsX3_leaveBin := by decide +kernel
theorem kX3_leaveBin_35 : Cond.fieldLink RX3 35 "DrownedPost$Office" "letters" "LDrownedPost$Letters;" ∈ wsX3_leaveBin := by decide +kernel
def wb_X3_leaveBin_46 (Q : SA → SV → Prop) (A : SA) (V : SV) (x1 : Int32) (x2 : Int32) : Prop := (vp_in x1 150 ∧ (∀ A_14 : SA, A_14 = up A 14 x1.toNatClampNeg (-1 : Int32) → (vp_in x1 150 ∧ (∀ A_15 : SA, A_15 = up A_14 15 x1.toNatClampNeg (0 : Int32) → (vp_in x1 150 ∧ (∀ A_16 : SA, A_16 = up A_15 12 x1.toNatClampNeg x2 → Q A_16 V))))))
set_option maxHeartbeats 4000000 in
set_option maxRecDepth 100000 in
theorem wk_X3_leaveBin_46 (Q : SA → SV → Prop) (cx : CX RX3 cX3_leaveBin 4 wsX3_leaveBin D [(cI, .int), (cZ, .boolean)] p s m args c A0) (hret : ∀ (pc : Nat) (ls : Array Slot) (u : SA × SV) (H : Heap) (locs : List Loc), decode cX3_leaveBin pc = .ok (.return_, 1) → Q u.1 u.2 → WS D s A0 (wO ad cI cZ u.1 u.2) H locs → W p l e rmX3_leaveBin s m args below meth c H locs rmX3_leaveBin.cells rmX3_leaveBin.slots Z (F0 m pc ls []))  : ∀ (A : SA) (V : SV) (x1 : Int32) (x2 : Int32) (h : wb_X3_leaveBin_46 Q A V x1 x2) (H : Heap) (locs : List Loc) (ls : Array Slot) (hw : WS D s A0 (wO ad cI cZ A V) H locs) (hl : lv_has ls 4 [(0, .ref (ad 0)), (1, .int x1), (2, .int x2)]), W p l e rmX3_leaveBin s m args below meth c H locs 0 0 Z (F0 m 46 ls []) := by
  obtain ⟨hx, hb, hml, hown, hts, hK, hA⟩ := id cx
  intro A V x1 x2 h H locs ls hw hl
  refine lv_aload_n (pc := 46) hx hb dX3_leaveBin_46 rfl (lv_at hl 0 rfl) ?_
  refine geO_X3_3 (pc := 47) cx inX3_leaveBin_X3 kX3_leaveBin_35 hw dX3_leaveBin_47 ?_
  refine geO_X2_5 (pc := 50) cx inX3_leaveBin_X2 kX3_leaveBin_110 hw dX3_leaveBin_50 ?_
  refine lv_iload_n (pc := 53) hx hb dX3_leaveBin_53 rfl (lv_at hl 1 rfl) ?_
  refine lv_iconst (pc := 54) (v := (-1 : Int32)) hx hb dX3_leaveBin_54 (by decide) ?_
  refine asO_14 (pc := 55) cx hw h.1 dX3_leaveBin_55 (fun A_14 eA_14 H locs hw => ?_)
  have h := h.2 A_14 eA_14
  refine lv_aload_n (pc := 56) hx hb dX3_leaveBin_56 rfl (lv_at hl 0 rfl) ?_
  refine geO_X3_3 (pc := 57) cx inX3_leaveBin_X3 kX3_leaveBin_35 hw dX3_leaveBin_57 ?_
  refine geO_X2_6 (pc := 60) cx inX3_leaveBin_X2 kX3_leaveBin_129 hw dX3_leaveBin_60 ?_
  refine lv_iload_n (pc := 63) hx hb dX3_leaveBin_63 rfl (lv_at hl 1 rfl) ?_
  refine lv_iconst (pc := 64) (v := (0 : Int32)) hx hb dX3_leaveBin_64 (by decide) ?_
  refine asO_15 (pc := 65) cx hw h.1 dX3_leaveBin_65 (fun A_15 eA_15 H locs hw => ?_)
  have h := h.2 A_15 eA_15
  refine lv_aload_n (pc := 66) hx hb dX3_leaveBin_66 rfl (lv_at hl 0 rfl) ?_
  refine geO_X3_3 (pc := 67) cx inX3_leaveBin_X3 kX3_leaveBin_35 hw dX3_leaveBin_67 ?_
  refine geO_X2_3 (pc := 70) cx inX3_leaveBin_X2 kX3_leaveBin_104 hw dX3_leaveBin_70 ?_
  refine lv_iload_n (pc := 73) hx hb dX3_leaveBin_73 rfl (lv_at hl 1 rfl) ?_
  refine lv_iload_n (pc := 74) hx hb dX3_leaveBin_74 rfl (lv_at hl 2 rfl) ?_
  refine asO_12 (pc := 75) cx hw h.1 dX3_leaveBin_75 (fun A_16 eA_16 H locs hw => ?_)
  have h := h.2 A_16 eA_16
  exact hret 76 _ (A_16, V) _ _ dX3_leaveBin_76 h hw
def wb_X3_leaveBin_0 (Q : SA → SV → Prop) (A : SA) (V : SV) (x1 : Int32) (x2 : Int32) : Prop := (wpX2_has A V x1 (fun r1 A_4 V_5 => ((¬ r1 = 0 → (vp_in x1 150 ∧ (wpX0_has A_4 V_5 (A_4 14 x1.toNatClampNeg) (fun r7 A_10 V_11 => ((r7 = 0 → (wb_X3_leaveBin_46 Q A_10 V_11 x1 x2)) ∧ (¬ (r7 = 0) → (vp_in (A_4 14 x1.toNatClampNeg) 10 ∧ (vp_in (A_4 14 x1.toNatClampNeg) 10 ∧ (∀ A_13 : SA, A_13 = up A_10 3 (A_4 14 x1.toNatClampNeg).toNatClampNeg ((A_10 3 (A_4 14 x1.toNatClampNeg).toNatClampNeg) - (1 : Int32)) → (wb_X3_leaveBin_46 Q A_13 V_11 x1 x2)))))))))) ∧ (r1 = 0 → Q A_4 V_5))))
set_option maxHeartbeats 4000000 in
set_option maxRecDepth 100000 in
theorem wk_X3_leaveBin_0 (Q : SA → SV → Prop) (cx : CX RX3 cX3_leaveBin 4 wsX3_leaveBin D [(cI, .int), (cZ, .boolean)] p s m args c A0) (hret : ∀ (pc : Nat) (ls : Array Slot) (u : SA × SV) (H : Heap) (locs : List Loc), decode cX3_leaveBin pc = .ok (.return_, 1) → Q u.1 u.2 → WS D s A0 (wO ad cI cZ u.1 u.2) H locs → W p l e rmX3_leaveBin s m args below meth c H locs rmX3_leaveBin.cells rmX3_leaveBin.slots Z (F0 m pc ls []))  : ∀ (A : SA) (V : SV) (x1 : Int32) (x2 : Int32) (h : wb_X3_leaveBin_0 Q A V x1 x2) (H : Heap) (locs : List Loc) (ls : Array Slot) (hw : WS D s A0 (wO ad cI cZ A V) H locs) (hl : lv_has ls 4 [(0, .ref (ad 0)), (1, .int x1), (2, .int x2)]), W p l e rmX3_leaveBin s m args below meth c H locs 0 0 Z (F0 m 0 ls []) := by
  obtain ⟨hx, hb, hml, hown, hts, hK, hA⟩ := id cx
  intro A V x1 x2 h H locs ls hw hl
  refine lv_aload_n (pc := 0) hx hb dX3_leaveBin_0 rfl (lv_at hl 0 rfl) ?_
  refine geO_X3_3 (pc := 1) cx inX3_leaveBin_X3 kX3_leaveBin_35 hw dX3_leaveBin_1 ?_
  refine lv_iload_n (pc := 4) hx hb dX3_leaveBin_4 rfl (lv_at hl 1 rfl) ?_
  refine callVi (pc := 5) (rest := []) (c1 := 0) (s1 := 0) cx hw hl (metX2_has l D cI cZ ad H.size A V x1 _ h) (fun hts => cwV 1 hts gX3_leaveBin_X2_has rfl rfl rfl (by decide +kernel) ⟨Nat.le_of_ble_eq_true rfl, Nat.le_of_ble_eq_true rfl⟩) SUB.rf [0, 1] rfl 4 (ci := 2) rfl rfl rfl (JN.rf) rfl rfl (Nat.le_of_ble_eq_true rfl) ⟨Nat.le_of_ble_eq_true rfl, Nat.le_of_ble_eq_true rfl⟩ rfl rfl dX3_leaveBin_5 (fun r1 u H locs h hw => ?_)
  obtain ⟨A_4, V_5⟩ := u
  refine lv_if_ne (pc := 8) (tgt := 12) hx hb dX3_leaveBin_8 (by decide) (fun c6 => ?_) (fun c6 => ?_)
  · have h := h.1 c6
    refine lv_aload_n (pc := 12) hx hb dX3_leaveBin_12 rfl (lv_at hl 0 rfl) ?_
    refine geO_X3_3 (pc := 13) cx inX3_leaveBin_X3 kX3_leaveBin_35 hw dX3_leaveBin_13 ?_
    refine geO_X2_5 (pc := 16) cx inX3_leaveBin_X2 kX3_leaveBin_110 hw dX3_leaveBin_16 ?_
    refine lv_iload_n (pc := 19) hx hb dX3_leaveBin_19 rfl (lv_at hl 1 rfl) ?_
    refine alO_14 (pc := 20) cx hw h.1 dX3_leaveBin_20 ?_
    have h := h.2
    refine lv_istore_n (pc := 21) (lv' := [(3, .int (A_4 14 x1.toNatClampNeg)), (0, .ref (ad 0)), (1, .int x1), (2, .int x2)]) hx hb dX3_leaveBin_21 rfl hl (by decide) rfl (fun ls hl => ?_)
    refine lv_aload_n (pc := 22) hx hb dX3_leaveBin_22 rfl (lv_at hl 1 rfl) ?_
    refine geO_X3_1 (pc := 23) cx inX3_leaveBin_X3 kX3_leaveBin_21 hw dX3_leaveBin_23 ?_
    refine lv_iload_n (pc := 26) hx hb dX3_leaveBin_26 rfl (lv_at hl 0 rfl) ?_
    refine callVi (pc := 27) (rest := []) (c1 := 0) (s1 := 0) cx hw hl (metX0_has l D cI cZ ad H.size A_4 V_5 (A_4 14 x1.toNatClampNeg) _ h) (fun hts => cwV 1 hts gX3_leaveBin_X0_has rfl rfl rfl (by decide +kernel) ⟨Nat.le_of_ble_eq_true rfl, Nat.le_of_ble_eq_true rfl⟩) SUB.rf [0, 1] rfl 2 (ci := 0) rfl rfl rfl (JN.rf) rfl rfl (Nat.le_of_ble_eq_true rfl) ⟨Nat.le_of_ble_eq_true rfl, Nat.le_of_ble_eq_true rfl⟩ rfl rfl dX3_leaveBin_27 (fun r7 u H locs h hw => ?_)
    obtain ⟨A_10, V_11⟩ := u
    refine lv_if_eq (pc := 30) (tgt := 46) hx hb dX3_leaveBin_30 (by decide) (fun c12 => ?_) (fun c12 => ?_)
    · have h := h.1 c12
      exact wk_X3_leaveBin_46 Q cx hret  A_10 V_11 x1 x2 h _ _ _ hw (lv_sub hl [1, 2, 3] rfl)
    · have h := h.2 c12
      refine lv_aload_n (pc := 33) hx hb dX3_leaveBin_33 rfl (lv_at hl 1 rfl) ?_
      refine geO_X3_1 (pc := 34) cx inX3_leaveBin_X3 kX3_leaveBin_21 hw dX3_leaveBin_34 ?_
      refine geO_X0_2 (pc := 37) cx inX3_leaveBin_X0 kX3_leaveBin_143 hw dX3_leaveBin_37 ?_
      refine lv_iload_n (pc := 40) hx hb dX3_leaveBin_40 rfl (lv_at hl 0 rfl) ?_
      refine lv_dup2_11 (pc := 41) hx hb dX3_leaveBin_41 rfl rfl ?_
      refine alO_3 (pc := 42) cx hw h.1 dX3_leaveBin_42 ?_
      have h := h.2
      refine lv_iconst (pc := 43) (v := (1 : Int32)) hx hb dX3_leaveBin_43 (by decide) ?_
      refine lv_isub (pc := 44) hx hb dX3_leaveBin_44 ?_
      refine asO_3 (pc := 45) cx hw h.1 dX3_leaveBin_45 (fun A_13 eA_13 H locs hw => ?_)
      have h := h.2 A_13 eA_13
      exact wk_X3_leaveBin_46 Q cx hret  A_13 V_11 x1 x2 h _ _ _ hw (lv_sub hl [1, 2, 3] rfl)
  · have h := h.2 c6
    exact hret 11 _ (A_4, V_5) _ _ dX3_leaveBin_11 h hw
def wpX3_leaveBin (A : SA) (V : SV) (x1 : Int32) (x2 : Int32) (Q : SA → SV → Prop) : Prop := wb_X3_leaveBin_0 Q A V x1 x2
set_option maxHeartbeats 4000000 in
set_option maxRecDepth 100000 in
theorem metX3_leaveBin (l : Launch) (D : va_G) (cI cZ : ClassId) (ad : Nat → Nat) (sz : Nat) (A : SA) (V : SV) (x1 : Int32) (x2 : Int32) (Q : SA → SV → Prop) (h : wpX3_leaveBin A V x1 x2 Q) : Met l yX3_leaveBin wsX3_leaveBin rmX3_leaveBin (PcW D [(cI, .int), (cZ, .boolean)] (wO ad cI cZ A V) sz [.ref (ad 0), .int x1, .int x2]) (QvW D [(cI, .int), (cZ, .boolean)] (wO ad cI cZ A V) sz (fun u : SA × SV => (wO ad cI cZ u.1 u.2)) (fun u => Q u.1 u.2)) rmX3_leaveBin.cells rmX3_leaveBin.slots (va_A (wO ad cI cZ A V) sz) := by
  refine startV (plainFor_of_name (by decide)) rfl (Nat.le_of_ble_eq_true rfl) ?_
  intro p e s m args below meth c A0 Z cx hw hret ls hl
  exact wk_X3_leaveBin_0 Q cx hret A V x1 x2 h _ _ _ hw hl
abbrev rmX3_wash : Room := { frames := 2, cells := 0, slots := 0, locals := 44 }
theorem inX3_wash_X2 : ∀ w ∈ wsX20, w ∈ wsX3_wash := by decide +kernel
theorem inX3_wash_X3 : ∀ w ∈ wsX30, w ∈ wsX3_wash := by decide +kernel
theorem kX3_wash_110 : Cond.fieldLink RX3 110 "DrownedPost$Letters" "bin" "[I" ∈ wsX3_wash := by decide +kernel
theorem kX3_wash_117 : Cond.fieldLink RX3 117 "DrownedPost$Letters" "growth" "[I" ∈ wsX3_wash := by decide +kernel
theorem kX3_wash_120 : Cond.fieldLink RX3 120 "DrownedPost$Letters" "weight" "[I" ∈ wsX3_wash := by decide +kernel
theorem kX3_wash_123 : Cond.fieldLink RX3 123 "DrownedPost$Letters" "to" "[I" ∈ wsX3_wash := by decide +kernel
theorem kX3_wash_129 : Cond.fieldLink RX3 129 "DrownedPost$Letters" "held" "[I" ∈ wsX3_wash := by decide +kernel
theorem kX3_wash_132 : Cond.fieldLink RX3 132 "DrownedPost$Letters" "seal" "[I" ∈ wsX3_wash := by decide +kernel
theorem kX3_wash_21 : Cond.fieldLink RX3 21 "DrownedPost$Office" "bins" "LDrownedPost$Bins;" ∈ wsX3_wash := by decide +kernel
theorem kX3_wash_28 : Cond.fieldLink RX3 28 "DrownedPost$Office" "drowned" "LDrownedPost$Drowned;" ∈ wsX3_wash := by decide +kernel
theorem kX3_wash_35 : Cond.fieldLink RX3 35 "DrownedPost$Office" "letters" "LDrownedPost$Letters;" ∈ wsX3_wash := by decide +kernel
theorem kX3_wash_46 : Cond.fieldLink RX3 46 "DrownedPost$Office" "sunk" "[I" ∈ wsX3_wash := by decide +kernel
theorem kX3_wash_77 : Cond.fieldLink RX3 77 "DrownedPost$Office" "sunkCount" "I" ∈ wsX3_wash := by decide +kernel
def wb_X3_wash_141 (Q : SA → SV → Prop) (A : SA) (V : SV) (x1 : Int32) : Prop := (vp_in x1 150 ∧ (((A 15 x1.toNatClampNeg) < (3 : Int32) → Q A V) ∧ (¬ ((A 15 x1.toNatClampNeg) < (3 : Int32)) → (((150 : Int32) ≤ (V 7) → Q A V) ∧ (¬ ((150 : Int32) ≤ (V 7)) → (wpX3_leaveBin A V x1 (2 : Int32) (fun A_29 V_30 => (vp_in (V_30 7) 150 ∧ (∀ A_31 : SA, A_31 = up A_29 18 (V_30 7).toNatClampNeg x1 → (∀ V_32 : SV, V_32 = uv V_30 7 ((V_30 7) + (1 : Int32)) → Q A_31 V_32))))))))))
set_option maxHeartbeats 4000000 in
set_option maxRecDepth 100000 in
theorem wk_X3_wash_141 (Q : SA → SV → Prop) (cx : CX RX3 cX3_wash 5 wsX3_wash D [(cI, .int), (cZ, .boolean)] p s m args c A0) (hret : ∀ (pc : Nat) (ls : Array Slot) (u : SA × SV) (H : Heap) (locs : List Loc), decode cX3_wash pc = .ok (.return_, 1) → Q u.1 u.2 → WS D s A0 (wO ad cI cZ u.1 u.2) H locs → W p l e rmX3_wash s m args below meth c H locs rmX3_wash.cells rmX3_wash.slots Z (F0 m pc ls []))  : ∀ (A : SA) (V : SV) (x1 : Int32) (h : wb_X3_wash_141 Q A V x1) (H : Heap) (locs : List Loc) (ls : Array Slot) (hw : WS D s A0 (wO ad cI cZ A V) H locs) (hl : lv_has ls 5 [(0, .ref (ad 0)), (1, .int x1)]), W p l e rmX3_wash s m args below meth c H locs 0 0 Z (F0 m 141 ls []) := by
  obtain ⟨hx, hb, hml, hown, hts, hK, hA⟩ := id cx
  intro A V x1 h H locs ls hw hl
  refine lv_aload_n (pc := 141) hx hb dX3_wash_141 rfl (lv_at hl 0 rfl) ?_
  refine geO_X3_3 (pc := 142) cx inX3_wash_X3 kX3_wash_35 hw dX3_wash_142 ?_
  refine geO_X2_6 (pc := 145) cx inX3_wash_X2 kX3_wash_129 hw dX3_wash_145 ?_
  refine lv_iload_n (pc := 148) hx hb dX3_wash_148 rfl (lv_at hl 1 rfl) ?_
  refine alO_15 (pc := 149) cx hw h.1 dX3_wash_149 ?_
  have h := h.2
  refine lv_iconst (pc := 150) (v := (3 : Int32)) hx hb dX3_wash_150 (by decide) ?_
  refine lv_icmp_lt (pc := 151) (tgt := 190) hx hb dX3_wash_151 (by decide) (fun c24 => ?_) (fun c24 => ?_)
  · have h := h.1 c24
    exact hret 190 _ (A, V) _ _ dX3_wash_190 h hw
  · have h := h.2 c24
    refine lv_aload_n (pc := 154) hx hb dX3_wash_154 rfl (lv_at hl 0 rfl) ?_
    refine geO_X3_8 (pc := 155) cx inX3_wash_X3 kX3_wash_77 hw dX3_wash_155 ?_
    refine lv_sipush (pc := 158) (v := (150 : Int32)) hx hb dX3_wash_158 (by decide) ?_
    refine lv_icmp_ge (pc := 161) (tgt := 190) hx hb dX3_wash_161 (by decide) (fun c25 => ?_) (fun c25 => ?_)
    · have h := h.1 c25
      exact hret 190 _ (A, V) _ _ dX3_wash_190 h hw
    · have h := h.2 c25
      refine lv_aload_n (pc := 164) hx hb dX3_wash_164 rfl (lv_at hl 0 rfl) ?_
      refine lv_iload_n (pc := 165) hx hb dX3_wash_165 rfl (lv_at hl 1 rfl) ?_
      refine lv_iconst (pc := 166) (v := (2 : Int32)) hx hb dX3_wash_166 (by decide) ?_
      refine callVv (pc := 167) (rest := []) (c1 := 0) (s1 := 0) cx hw hl (metX3_leaveBin l D cI cZ ad H.size A V x1 (2 : Int32) _ h) (fun hts => cwV 2 hts gX3_wash_X3_leaveBin rfl rfl rfl (by decide +kernel) ⟨Nat.le_of_ble_eq_true rfl, Nat.le_of_ble_eq_true rfl⟩) SUB.rf [0, 1] rfl 0 (ci := 3) rfl rfl rfl (JN.rf) rfl rfl (Nat.le_of_ble_eq_true rfl) ⟨Nat.le_of_ble_eq_true rfl, Nat.le_of_ble_eq_true rfl⟩ rfl rfl dX3_wash_167 (fun u H locs h hw => ?_)
      obtain ⟨A_29, V_30⟩ := u
      refine lv_aload_n (pc := 170) hx hb dX3_wash_170 rfl (lv_at hl 0 rfl) ?_
      refine geO_X3_7 (pc := 171) cx inX3_wash_X3 kX3_wash_46 hw dX3_wash_171 ?_
      refine lv_aload_n (pc := 174) hx hb dX3_wash_174 rfl (lv_at hl 0 rfl) ?_
      refine geO_X3_8 (pc := 175) cx inX3_wash_X3 kX3_wash_77 hw dX3_wash_175 ?_
      refine lv_iload_n (pc := 178) hx hb dX3_wash_178 rfl (lv_at hl 1 rfl) ?_
      refine asO_18 (pc := 179) cx hw h.1 dX3_wash_179 (fun A_31 eA_31 H locs hw => ?_)
      have h := h.2 A_31 eA_31
      refine lv_aload_n (pc := 180) hx hb dX3_wash_180 rfl (lv_at hl 0 rfl) ?_
      refine lv_dup (pc := 181) hx hb dX3_wash_181 rfl ?_
      refine geO_X3_8 (pc := 182) cx inX3_wash_X3 kX3_wash_77 hw dX3_wash_182 ?_
      refine lv_iconst (pc := 185) (v := (1 : Int32)) hx hb dX3_wash_185 (by decide) ?_
      refine lv_iadd (pc := 186) hx hb dX3_wash_186 ?_
      refine puO_X3_8 (pc := 187) cx inX3_wash_X3 kX3_wash_77 hw dX3_wash_187 (fun V_32 eV_32 H locs hw => ?_)
      have h := h V_32 eV_32
      exact hret 190 _ (A_31, V_32) _ _ dX3_wash_190 h hw
def wb_X3_wash_106 (Q : SA → SV → Prop) (A : SA) (V : SV) (x1 : Int32) (x3 : Int32) (t1 : Int32) (t2 : Int32) : Prop := (vp_in t1 150 ∧ (∀ A_16 : SA, A_16 = up A 15 t1.toNatClampNeg t2 → ((x3 = 0 → (wb_X3_wash_141 Q A_16 V x1)) ∧ (¬ (x3 = 0) → (vp_in x1 150 ∧ (vp_in x1 150 ∧ (((A_16 13 x1.toNatClampNeg) < (A_16 11 x1.toNatClampNeg) → (wb_X3_wash_141 Q A_16 V x1)) ∧ (¬ ((A_16 13 x1.toNatClampNeg) < (A_16 11 x1.toNatClampNeg)) → (wpX3_leaveBin A_16 V x1 (3 : Int32) (fun A_22 V_23 => Q A_22 V_23))))))))))
set_option maxHeartbeats 4000000 in
set_option maxRecDepth 100000 in
theorem wk_X3_wash_106 (Q : SA → SV → Prop) (cx : CX RX3 cX3_wash 5 wsX3_wash D [(cI, .int), (cZ, .boolean)] p s m args c A0) (hret : ∀ (pc : Nat) (ls : Array Slot) (u : SA × SV) (H : Heap) (locs : List Loc), decode cX3_wash pc = .ok (.return_, 1) → Q u.1 u.2 → WS D s A0 (wO ad cI cZ u.1 u.2) H locs → W p l e rmX3_wash s m args below meth c H locs rmX3_wash.cells rmX3_wash.slots Z (F0 m pc ls []))  : ∀ (A : SA) (V : SV) (x1 : Int32) (x3 : Int32) (t1 : Int32) (t2 : Int32) (h : wb_X3_wash_106 Q A V x1 x3 t1 t2) (H : Heap) (locs : List Loc) (ls : Array Slot) (hw : WS D s A0 (wO ad cI cZ A V) H locs) (hl : lv_has ls 5 [(0, .ref (ad 0)), (1, .int x1), (3, .int x3)]), W p l e rmX3_wash s m args below meth c H locs 0 0 Z (F0 m 106 ls [.int t2, .int t1, .ref (ad 20)]) := by
  obtain ⟨hx, hb, hml, hown, hts, hK, hA⟩ := id cx
  intro A V x1 x3 t1 t2 h H locs ls hw hl
  refine asO_15 (pc := 106) cx hw h.1 dX3_wash_106 (fun A_16 eA_16 H locs hw => ?_)
  have h := h.2 A_16 eA_16
  refine lv_iload_n (pc := 107) hx hb dX3_wash_107 rfl (lv_at hl 2 rfl) ?_
  refine lv_if_eq (pc := 108) (tgt := 141) hx hb dX3_wash_108 (by decide) (fun c17 => ?_) (fun c17 => ?_)
  · have h := h.1 c17
    exact wk_X3_wash_141 Q cx hret  A_16 V x1 h _ _ _ hw (lv_sub hl [0, 1] rfl)
  · have h := h.2 c17
    refine lv_aload_n (pc := 111) hx hb dX3_wash_111 rfl (lv_at hl 0 rfl) ?_
    refine geO_X3_3 (pc := 112) cx inX3_wash_X3 kX3_wash_35 hw dX3_wash_112 ?_
    refine geO_X2_4 (pc := 115) cx inX3_wash_X2 kX3_wash_117 hw dX3_wash_115 ?_
    refine lv_iload_n (pc := 118) hx hb dX3_wash_118 rfl (lv_at hl 1 rfl) ?_
    refine alO_13 (pc := 119) cx hw h.1 dX3_wash_119 ?_
    have h := h.2
    refine lv_aload_n (pc := 120) hx hb dX3_wash_120 rfl (lv_at hl 0 rfl) ?_
    refine geO_X3_3 (pc := 121) cx inX3_wash_X3 kX3_wash_35 hw dX3_wash_121 ?_
    refine geO_X2_2 (pc := 124) cx inX3_wash_X2 kX3_wash_132 hw dX3_wash_124 ?_
    refine lv_iload_n (pc := 127) hx hb dX3_wash_127 rfl (lv_at hl 1 rfl) ?_
    refine alO_11 (pc := 128) cx hw h.1 dX3_wash_128 ?_
    have h := h.2
    refine lv_icmp_lt (pc := 129) (tgt := 141) hx hb dX3_wash_129 (by decide) (fun c18 => ?_) (fun c18 => ?_)
    · have h := h.1 c18
      exact wk_X3_wash_141 Q cx hret  A_16 V x1 h _ _ _ hw (lv_sub hl [0, 1] rfl)
    · have h := h.2 c18
      refine lv_aload_n (pc := 132) hx hb dX3_wash_132 rfl (lv_at hl 0 rfl) ?_
      refine lv_iload_n (pc := 133) hx hb dX3_wash_133 rfl (lv_at hl 1 rfl) ?_
      refine lv_iconst (pc := 134) (v := (3 : Int32)) hx hb dX3_wash_134 (by decide) ?_
      refine callVv (pc := 135) (rest := []) (c1 := 0) (s1 := 0) cx hw hl (metX3_leaveBin l D cI cZ ad H.size A_16 V x1 (3 : Int32) _ h) (fun hts => cwV 2 hts gX3_wash_X3_leaveBin rfl rfl rfl (by decide +kernel) ⟨Nat.le_of_ble_eq_true rfl, Nat.le_of_ble_eq_true rfl⟩) SUB.rf [0, 1] rfl 0 (ci := 3) rfl rfl rfl (JN.rf) rfl rfl (Nat.le_of_ble_eq_true rfl) ⟨Nat.le_of_ble_eq_true rfl, Nat.le_of_ble_eq_true rfl⟩ rfl rfl dX3_wash_135 (fun u H locs h hw => ?_)
      obtain ⟨A_22, V_23⟩ := u
      refine lv_goto (pc := 138) (tgt := 190) hx hb dX3_wash_138 (by decide) ?_
      exact hret 190 _ (A_22, V_23) _ _ dX3_wash_190 h hw
def wb_X3_wash_76 (Q : SA → SV → Prop) (A : SA) (V : SV) (x1 : Int32) (x3 : Int32) (t0 : Int32) : Prop := ((t0 = 0 → (wb_X3_wash_106 Q A V x1 x3 x1 (0 : Int32))) ∧ (¬ (t0 = 0) → (vp_in x1 150 ∧ (wb_X3_wash_106 Q A V x1 x3 x1 ((A 15 x1.toNatClampNeg) + (1 : Int32))))))
set_option maxHeartbeats 4000000 in
set_option maxRecDepth 100000 in
theorem wk_X3_wash_76 (Q : SA → SV → Prop) (cx : CX RX3 cX3_wash 5 wsX3_wash D [(cI, .int), (cZ, .boolean)] p s m args c A0) (hret : ∀ (pc : Nat) (ls : Array Slot) (u : SA × SV) (H : Heap) (locs : List Loc), decode cX3_wash pc = .ok (.return_, 1) → Q u.1 u.2 → WS D s A0 (wO ad cI cZ u.1 u.2) H locs → W p l e rmX3_wash s m args below meth c H locs rmX3_wash.cells rmX3_wash.slots Z (F0 m pc ls []))  : ∀ (A : SA) (V : SV) (x1 : Int32) (x3 : Int32) (t0 : Int32) (h : wb_X3_wash_76 Q A V x1 x3 t0) (H : Heap) (locs : List Loc) (ls : Array Slot) (hw : WS D s A0 (wO ad cI cZ A V) H locs) (hl : lv_has ls 5 [(0, .ref (ad 0)), (1, .int x1), (3, .int x3)]), W p l e rmX3_wash s m args below meth c H locs 0 0 Z (F0 m 76 ls [.int t0]) := by
  obtain ⟨hx, hb, hml, hown, hts, hK, hA⟩ := id cx
  intro A V x1 x3 t0 h H locs ls hw hl
  refine lv_istore (pc := 76) (lv' := [(4, .int t0), (0, .ref (ad 0)), (1, .int x1), (3, .int x3)]) hx hb dX3_wash_76 hl (by decide) rfl (fun ls hl => ?_)
  refine lv_aload_n (pc := 78) hx hb dX3_wash_78 rfl (lv_at hl 1 rfl) ?_
  refine geO_X3_3 (pc := 79) cx inX3_wash_X3 kX3_wash_35 hw dX3_wash_79 ?_
  refine geO_X2_6 (pc := 82) cx inX3_wash_X2 kX3_wash_129 hw dX3_wash_82 ?_
  refine lv_iload_n (pc := 85) hx hb dX3_wash_85 rfl (lv_at hl 2 rfl) ?_
  refine lv_iload (pc := 86) hx hb dX3_wash_86 (lv_at hl 0 rfl) ?_
  refine lv_if_eq (pc := 88) (tgt := 105) hx hb dX3_wash_88 (by decide) (fun c15 => ?_) (fun c15 => ?_)
  · have h := h.1 c15
    refine lv_iconst (pc := 105) (v := (0 : Int32)) hx hb dX3_wash_105 (by decide) ?_
    exact wk_X3_wash_106 Q cx hret  A V x1 x3 x1 (0 : Int32) h _ _ _ hw (lv_sub hl [1, 2, 3] rfl)
  · have h := h.2 c15
    refine lv_aload_n (pc := 91) hx hb dX3_wash_91 rfl (lv_at hl 1 rfl) ?_
    refine geO_X3_3 (pc := 92) cx inX3_wash_X3 kX3_wash_35 hw dX3_wash_92 ?_
    refine geO_X2_6 (pc := 95) cx inX3_wash_X2 kX3_wash_129 hw dX3_wash_95 ?_
    refine lv_iload_n (pc := 98) hx hb dX3_wash_98 rfl (lv_at hl 2 rfl) ?_
    refine alO_15 (pc := 99) cx hw h.1 dX3_wash_99 ?_
    have h := h.2
    refine lv_iconst (pc := 100) (v := (1 : Int32)) hx hb dX3_wash_100 (by decide) ?_
    refine lv_iadd (pc := 101) hx hb dX3_wash_101 ?_
    refine lv_goto (pc := 102) (tgt := 106) hx hb dX3_wash_102 (by decide) ?_
    exact wk_X3_wash_106 Q cx hret  A V x1 x3 x1 ((A 15 x1.toNatClampNeg) + (1 : Int32)) h _ _ _ hw (lv_sub hl [1, 2, 3] rfl)
def wb_X3_wash_47 (Q : SA → SV → Prop) (A : SA) (V : SV) (x1 : Int32) (x2 : Int32) (x3 : Int32) : Prop := ((x3 = 0 → (wb_X3_wash_76 Q A V x1 x3 (0 : Int32))) ∧ (¬ (x3 = 0) → (vp_in x1 150 ∧ (wpX1_heightOf A V (A 9 x1.toNatClampNeg) (fun r9 A_12 V_13 => ((x2 < r9 → (wb_X3_wash_76 Q A_12 V_13 x1 x3 (0 : Int32))) ∧ (¬ (x2 < r9) → (wb_X3_wash_76 Q A_12 V_13 x1 x3 (1 : Int32)))))))))
set_option maxHeartbeats 4000000 in
set_option maxRecDepth 100000 in
theorem wk_X3_wash_47 (Q : SA → SV → Prop) (cx : CX RX3 cX3_wash 5 wsX3_wash D [(cI, .int), (cZ, .boolean)] p s m args c A0) (hret : ∀ (pc : Nat) (ls : Array Slot) (u : SA × SV) (H : Heap) (locs : List Loc), decode cX3_wash pc = .ok (.return_, 1) → Q u.1 u.2 → WS D s A0 (wO ad cI cZ u.1 u.2) H locs → W p l e rmX3_wash s m args below meth c H locs rmX3_wash.cells rmX3_wash.slots Z (F0 m pc ls []))  : ∀ (A : SA) (V : SV) (x1 : Int32) (x2 : Int32) (x3 : Int32) (h : wb_X3_wash_47 Q A V x1 x2 x3) (H : Heap) (locs : List Loc) (ls : Array Slot) (hw : WS D s A0 (wO ad cI cZ A V) H locs) (hl : lv_has ls 5 [(0, .ref (ad 0)), (1, .int x1), (2, .int x2), (3, .int x3)]), W p l e rmX3_wash s m args below meth c H locs 0 0 Z (F0 m 47 ls []) := by
  obtain ⟨hx, hb, hml, hown, hts, hK, hA⟩ := id cx
  intro A V x1 x2 x3 h H locs ls hw hl
  refine lv_iload_n (pc := 47) hx hb dX3_wash_47 rfl (lv_at hl 3 rfl) ?_
  refine lv_if_eq (pc := 48) (tgt := 75) hx hb dX3_wash_48 (by decide) (fun c8 => ?_) (fun c8 => ?_)
  · have h := h.1 c8
    refine lv_iconst (pc := 75) (v := (0 : Int32)) hx hb dX3_wash_75 (by decide) ?_
    exact wk_X3_wash_76 Q cx hret  A V x1 x3 (0 : Int32) h _ _ _ hw (lv_sub hl [0, 1, 3] rfl)
  · have h := h.2 c8
    refine lv_iload_n (pc := 51) hx hb dX3_wash_51 rfl (lv_at hl 2 rfl) ?_
    refine lv_aload_n (pc := 52) hx hb dX3_wash_52 rfl (lv_at hl 0 rfl) ?_
    refine geO_X3_2 (pc := 53) cx inX3_wash_X3 kX3_wash_28 hw dX3_wash_53 ?_
    refine lv_aload_n (pc := 56) hx hb dX3_wash_56 rfl (lv_at hl 0 rfl) ?_
    refine geO_X3_3 (pc := 57) cx inX3_wash_X3 kX3_wash_35 hw dX3_wash_57 ?_
    refine geO_X2_0 (pc := 60) cx inX3_wash_X2 kX3_wash_123 hw dX3_wash_60 ?_
    refine lv_iload_n (pc := 63) hx hb dX3_wash_63 rfl (lv_at hl 1 rfl) ?_
    refine alO_9 (pc := 64) cx hw h.1 dX3_wash_64 ?_
    have h := h.2
    refine callVi (pc := 65) (rest := [.int x2]) (c1 := 0) (s1 := 0) cx hw hl (metX1_heightOf l D cI cZ ad H.size A V (A 9 x1.toNatClampNeg) _ h) (fun hts => cwV 1 hts gX3_wash_X1_heightOf rfl rfl rfl (by decide +kernel) ⟨Nat.le_of_ble_eq_true rfl, Nat.le_of_ble_eq_true rfl⟩) SUB.rf [0, 1] rfl 3 (ci := 1) rfl rfl rfl (JN.rf) rfl rfl (Nat.le_of_ble_eq_true rfl) ⟨Nat.le_of_ble_eq_true rfl, Nat.le_of_ble_eq_true rfl⟩ rfl rfl dX3_wash_65 (fun r9 u H locs h hw => ?_)
    obtain ⟨A_12, V_13⟩ := u
    refine lv_icmp_lt (pc := 68) (tgt := 75) hx hb dX3_wash_68 (by decide) (fun c14 => ?_) (fun c14 => ?_)
    · have h := h.1 c14
      refine lv_iconst (pc := 75) (v := (0 : Int32)) hx hb dX3_wash_75 (by decide) ?_
      exact wk_X3_wash_76 Q cx hret  A_12 V_13 x1 x3 (0 : Int32) h _ _ _ hw (lv_sub hl [0, 1, 3] rfl)
    · have h := h.2 c14
      refine lv_iconst (pc := 71) (v := (1 : Int32)) hx hb dX3_wash_71 (by decide) ?_
      refine lv_goto (pc := 72) (tgt := 76) hx hb dX3_wash_72 (by decide) ?_
      exact wk_X3_wash_76 Q cx hret  A_12 V_13 x1 x3 (1 : Int32) h _ _ _ hw (lv_sub hl [0, 1, 3] rfl)
def wb_X3_wash_0 (Q : SA → SV → Prop) (A : SA) (V : SV) (x1 : Int32) (x2 : Int32) : Prop := (vp_in x1 150 ∧ (wpX0_isUnder A V (A 14 x1.toNatClampNeg) x2 (fun r1 A_4 V_5 => ((r1 = 0 → (wb_X3_wash_47 Q A_4 V_5 x1 x2 r1)) ∧ (¬ (r1 = 0) → (vp_in x1 150 ∧ (vp_in x1 150 ∧ (¬ (3 : Int32) = 0 ∧ (vp_in x1 150 ∧ (∀ A_7 : SA, A_7 = up A_4 13 x1.toNatClampNeg ((A_4 13 x1.toNatClampNeg) + ((1 : Int32) + ((A_4 10 x1.toNatClampNeg) / (3 : Int32)))) → (wb_X3_wash_47 Q A_7 V_5 x1 x2 r1)))))))))))
set_option maxHeartbeats 4000000 in
set_option maxRecDepth 100000 in
theorem wk_X3_wash_0 (Q : SA → SV → Prop) (cx : CX RX3 cX3_wash 5 wsX3_wash D [(cI, .int), (cZ, .boolean)] p s m args c A0) (hret : ∀ (pc : Nat) (ls : Array Slot) (u : SA × SV) (H : Heap) (locs : List Loc), decode cX3_wash pc = .ok (.return_, 1) → Q u.1 u.2 → WS D s A0 (wO ad cI cZ u.1 u.2) H locs → W p l e rmX3_wash s m args below meth c H locs rmX3_wash.cells rmX3_wash.slots Z (F0 m pc ls []))  : ∀ (A : SA) (V : SV) (x1 : Int32) (x2 : Int32) (h : wb_X3_wash_0 Q A V x1 x2) (H : Heap) (locs : List Loc) (ls : Array Slot) (hw : WS D s A0 (wO ad cI cZ A V) H locs) (hl : lv_has ls 5 [(0, .ref (ad 0)), (1, .int x1), (2, .int x2)]), W p l e rmX3_wash s m args below meth c H locs 0 0 Z (F0 m 0 ls []) := by
  obtain ⟨hx, hb, hml, hown, hts, hK, hA⟩ := id cx
  intro A V x1 x2 h H locs ls hw hl
  refine lv_aload_n (pc := 0) hx hb dX3_wash_0 rfl (lv_at hl 0 rfl) ?_
  refine geO_X3_1 (pc := 1) cx inX3_wash_X3 kX3_wash_21 hw dX3_wash_1 ?_
  refine lv_aload_n (pc := 4) hx hb dX3_wash_4 rfl (lv_at hl 0 rfl) ?_
  refine geO_X3_3 (pc := 5) cx inX3_wash_X3 kX3_wash_35 hw dX3_wash_5 ?_
  refine geO_X2_5 (pc := 8) cx inX3_wash_X2 kX3_wash_110 hw dX3_wash_8 ?_
  refine lv_iload_n (pc := 11) hx hb dX3_wash_11 rfl (lv_at hl 1 rfl) ?_
  refine alO_14 (pc := 12) cx hw h.1 dX3_wash_12 ?_
  have h := h.2
  refine lv_iload_n (pc := 13) hx hb dX3_wash_13 rfl (lv_at hl 2 rfl) ?_
  refine callVi (pc := 14) (rest := []) (c1 := 0) (s1 := 0) cx hw hl (metX0_isUnder l D cI cZ ad H.size A V (A 14 x1.toNatClampNeg) x2 _ h) (fun hts => cwV 2 hts gX3_wash_X0_isUnder rfl rfl rfl (by decide +kernel) ⟨Nat.le_of_ble_eq_true rfl, Nat.le_of_ble_eq_true rfl⟩) SUB.rf [0, 1] rfl 2 (ci := 0) rfl rfl rfl (JN.rf) rfl rfl (Nat.le_of_ble_eq_true rfl) ⟨Nat.le_of_ble_eq_true rfl, Nat.le_of_ble_eq_true rfl⟩ rfl rfl dX3_wash_14 (fun r1 u H locs h hw => ?_)
  obtain ⟨A_4, V_5⟩ := u
  refine lv_istore_n (pc := 17) (lv' := [(3, .int r1), (0, .ref (ad 0)), (1, .int x1), (2, .int x2)]) hx hb dX3_wash_17 rfl hl (by decide) rfl (fun ls hl => ?_)
  refine lv_iload_n (pc := 18) hx hb dX3_wash_18 rfl (lv_at hl 0 rfl) ?_
  refine lv_if_eq (pc := 19) (tgt := 47) hx hb dX3_wash_19 (by decide) (fun c6 => ?_) (fun c6 => ?_)
  · have h := h.1 c6
    exact wk_X3_wash_47 Q cx hret  A_4 V_5 x1 x2 r1 h _ _ _ hw (lv_sub hl [1, 2, 3, 0] rfl)
  · have h := h.2 c6
    refine lv_aload_n (pc := 22) hx hb dX3_wash_22 rfl (lv_at hl 1 rfl) ?_
    refine geO_X3_3 (pc := 23) cx inX3_wash_X3 kX3_wash_35 hw dX3_wash_23 ?_
    refine geO_X2_4 (pc := 26) cx inX3_wash_X2 kX3_wash_117 hw dX3_wash_26 ?_
    refine lv_iload_n (pc := 29) hx hb dX3_wash_29 rfl (lv_at hl 2 rfl) ?_
    refine lv_dup2_11 (pc := 30) hx hb dX3_wash_30 rfl rfl ?_
    refine alO_13 (pc := 31) cx hw h.1 dX3_wash_31 ?_
    have h := h.2
    refine lv_iconst (pc := 32) (v := (1 : Int32)) hx hb dX3_wash_32 (by decide) ?_
    refine lv_aload_n (pc := 33) hx hb dX3_wash_33 rfl (lv_at hl 1 rfl) ?_
    refine geO_X3_3 (pc := 34) cx inX3_wash_X3 kX3_wash_35 hw dX3_wash_34 ?_
    refine geO_X2_1 (pc := 37) cx inX3_wash_X2 kX3_wash_120 hw dX3_wash_37 ?_
    refine lv_iload_n (pc := 40) hx hb dX3_wash_40 rfl (lv_at hl 2 rfl) ?_
    refine alO_10 (pc := 41) cx hw h.1 dX3_wash_41 ?_
    have h := h.2
    refine lv_iconst (pc := 42) (v := (3 : Int32)) hx hb dX3_wash_42 (by decide) ?_
    refine lv_idiv (pc := 43) hx hb dX3_wash_43 h.1 ?_
    have h := h.2
    refine lv_iadd (pc := 44) hx hb dX3_wash_44 ?_
    refine lv_iadd (pc := 45) hx hb dX3_wash_45 ?_
    refine asO_13 (pc := 46) cx hw h.1 dX3_wash_46 (fun A_7 eA_7 H locs hw => ?_)
    have h := h.2 A_7 eA_7
    exact wk_X3_wash_47 Q cx hret  A_7 V_5 x1 x2 r1 h _ _ _ hw (lv_sub hl [1, 2, 3, 0] rfl)
def wpX3_wash (A : SA) (V : SV) (x1 : Int32) (x2 : Int32) (Q : SA → SV → Prop) : Prop := wb_X3_wash_0 Q A V x1 x2
set_option maxHeartbeats 4000000 in
set_option maxRecDepth 100000 in
theorem metX3_wash (l : Launch) (D : va_G) (cI cZ : ClassId) (ad : Nat → Nat) (sz : Nat) (A : SA) (V : SV) (x1 : Int32) (x2 : Int32) (Q : SA → SV → Prop) (h : wpX3_wash A V x1 x2 Q) : Met l yX3_wash wsX3_wash rmX3_wash (PcW D [(cI, .int), (cZ, .boolean)] (wO ad cI cZ A V) sz [.ref (ad 0), .int x1, .int x2]) (QvW D [(cI, .int), (cZ, .boolean)] (wO ad cI cZ A V) sz (fun u : SA × SV => (wO ad cI cZ u.1 u.2)) (fun u => Q u.1 u.2)) rmX3_wash.cells rmX3_wash.slots (va_A (wO ad cI cZ A V) sz) := by
  refine startV (plainFor_of_name (by decide)) rfl (Nat.le_of_ble_eq_true rfl) ?_
  intro p e s m args below meth c A0 Z cx hw hret ls hl
  exact wk_X3_wash_0 Q cx hret A V x1 x2 h _ _ _ hw hl
abbrev rmX3_water : Room := { frames := 3, cells := 0, slots := 0, locals := 68 }
theorem inX3_water_X2 : ∀ w ∈ wsX20, w ∈ wsX3_water := by decide +kernel
theorem inX3_water_X3 : ∀ w ∈ wsX30, w ∈ wsX3_water := by decide +kernel
theorem kX3_water_104 : Cond.fieldLink RX3 104 "DrownedPost$Letters" "state" "[I" ∈ wsX3_water := by decide +kernel
theorem kX3_water_35 : Cond.fieldLink RX3 35 "DrownedPost$Office" "letters" "LDrownedPost$Letters;" ∈ wsX3_water := by decide +kernel
theorem kX3_water_77 : Cond.fieldLink RX3 77 "DrownedPost$Office" "sunkCount" "I" ∈ wsX3_water := by decide +kernel
theorem kX3_water_84 : Cond.fieldLink RX3 84 "DrownedPost$Letters" "count" "I" ∈ wsX3_water := by decide +kernel
def wl_X3_water_7 (Q : SA → SV → Prop) : Nat → SA → SV → Int32 → Int32 → Prop
  | 0, _, _, _, _ => False
  | n + 1, A, V, x1, x2 => (((V 3) ≤ x2 → Q A V) ∧ (¬ ((V 3) ≤ x2) → (vp_in x2 150 ∧ ((¬ (A 12 x2.toNatClampNeg) = (1 : Int32) → wl_X3_water_7 Q n A V x1 (x2 + 1)) ∧ ((A 12 x2.toNatClampNeg) = (1 : Int32) → (wpX3_wash A V x2 x1 (fun A_7 V_8 => wl_X3_water_7 Q n A_7 V_8 x1 (x2 + 1))))))))
set_option maxHeartbeats 4000000 in
set_option maxRecDepth 100000 in
theorem wk_X3_water_7 (Q : SA → SV → Prop) (cx : CX RX3 cX3_water 3 wsX3_water D [(cI, .int), (cZ, .boolean)] p s m args c A0) (hret : ∀ (pc : Nat) (ls : Array Slot) (u : SA × SV) (H : Heap) (locs : List Loc), decode cX3_water pc = .ok (.return_, 1) → Q u.1 u.2 → WS D s A0 (wO ad cI cZ u.1 u.2) H locs → W p l e rmX3_water s m args below meth c H locs rmX3_water.cells rmX3_water.slots Z (F0 m pc ls []))  : ∀ (n : Nat) (A : SA) (V : SV) (x1 : Int32) (x2 : Int32) (h : wl_X3_water_7 Q n A V x1 x2) (H : Heap) (locs : List Loc) (ls : Array Slot) (hw : WS D s A0 (wO ad cI cZ A V) H locs) (hl : lv_has ls 3 [(0, .ref (ad 0)), (1, .int x1), (2, .int x2)]), W p l e rmX3_water s m args below meth c H locs 0 0 Z (F0 m 7 ls []) := by
  obtain ⟨hx, hb, hml, hown, hts, hK, hA⟩ := id cx
  intro n
  induction n with
  | zero => intro A V x1 x2 h; exact False.elim h
  | succ n ih =>
    intro A V x1 x2 h H locs ls hw hl
    refine lv_iload_n (pc := 7) hx hb dX3_water_7 rfl (lv_at hl 2 rfl) ?_
    refine lv_aload_n (pc := 8) hx hb dX3_water_8 rfl (lv_at hl 0 rfl) ?_
    refine geO_X3_3 (pc := 9) cx inX3_water_X3 kX3_water_35 hw dX3_water_9 ?_
    refine geO_X2_9 (pc := 12) cx inX3_water_X2 kX3_water_84 hw dX3_water_12 ?_
    refine lv_icmp_ge (pc := 15) (tgt := 43) hx hb dX3_water_15 (by decide) (fun c2 => ?_) (fun c2 => ?_)
    · have h := h.1 c2
      exact hret 43 _ (A, V) _ _ dX3_water_43 h hw
    · have h := h.2 c2
      refine lv_aload_n (pc := 18) hx hb dX3_water_18 rfl (lv_at hl 0 rfl) ?_
      refine geO_X3_3 (pc := 19) cx inX3_water_X3 kX3_water_35 hw dX3_water_19 ?_
      refine geO_X2_3 (pc := 22) cx inX3_water_X2 kX3_water_104 hw dX3_water_22 ?_
      refine lv_iload_n (pc := 25) hx hb dX3_water_25 rfl (lv_at hl 2 rfl) ?_
      refine alO_12 (pc := 26) cx hw h.1 dX3_water_26 ?_
      have h := h.2
      refine lv_iconst (pc := 27) (v := (1 : Int32)) hx hb dX3_water_27 (by decide) ?_
      refine lv_icmp_ne (pc := 28) (tgt := 37) hx hb dX3_water_28 (by decide) (fun c3 => ?_) (fun c3 => ?_)
      · have h := h.1 c3
        refine lv_iinc (pc := 37) (v := x2 + 1) (lv' := [(2, .int (x2 + 1)), (0, .ref (ad 0)), (1, .int x1)]) hx hb dX3_water_37 hl (k := 2) rfl rfl (by decide) rfl (fun ls hl => ?_)
        refine lv_goto (pc := 40) (tgt := 7) hx hb dX3_water_40 (by decide) ?_
        exact ih A V x1 (x2 + 1) h _ _ _ hw (lv_sub hl [1, 2, 0] rfl)
      · have h := h.2 c3
        refine lv_aload_n (pc := 31) hx hb dX3_water_31 rfl (lv_at hl 0 rfl) ?_
        refine lv_iload_n (pc := 32) hx hb dX3_water_32 rfl (lv_at hl 2 rfl) ?_
        refine lv_iload_n (pc := 33) hx hb dX3_water_33 rfl (lv_at hl 1 rfl) ?_
        refine callVv (pc := 34) (rest := []) (c1 := 0) (s1 := 0) cx hw hl (metX3_wash l D cI cZ ad H.size A V x2 x1 _ h) (fun hts => cwV 2 hts gX3_water_X3_wash rfl rfl rfl (by decide +kernel) ⟨Nat.le_of_ble_eq_true rfl, Nat.le_of_ble_eq_true rfl⟩) SUB.rf [0, 1] rfl 0 (ci := 3) rfl rfl rfl (JN.rf) rfl rfl (Nat.le_of_ble_eq_true rfl) ⟨Nat.le_of_ble_eq_true rfl, Nat.le_of_ble_eq_true rfl⟩ rfl rfl dX3_water_34 (fun u H locs h hw => ?_)
        obtain ⟨A_7, V_8⟩ := u
        refine lv_iinc (pc := 37) (v := x2 + 1) (lv' := [(2, .int (x2 + 1)), (0, .ref (ad 0)), (1, .int x1)]) hx hb dX3_water_37 hl (k := 2) rfl rfl (by decide) rfl (fun ls hl => ?_)
        refine lv_goto (pc := 40) (tgt := 7) hx hb dX3_water_40 (by decide) ?_
        exact ih A_7 V_8 x1 (x2 + 1) h _ _ _ hw (lv_sub hl [1, 2, 0] rfl)
def wb_X3_water_0 (Q : SA → SV → Prop) (A : SA) (V : SV) (x1 : Int32) : Prop := (∀ V_1 : SV, V_1 = uv V 7 (0 : Int32) → (∃ n7 : Nat, wl_X3_water_7 Q n7 A V_1 x1 (0 : Int32)))
set_option maxHeartbeats 4000000 in
set_option maxRecDepth 100000 in
theorem wk_X3_water_0 (Q : SA → SV → Prop) (cx : CX RX3 cX3_water 3 wsX3_water D [(cI, .int), (cZ, .boolean)] p s m args c A0) (hret : ∀ (pc : Nat) (ls : Array Slot) (u : SA × SV) (H : Heap) (locs : List Loc), decode cX3_water pc = .ok (.return_, 1) → Q u.1 u.2 → WS D s A0 (wO ad cI cZ u.1 u.2) H locs → W p l e rmX3_water s m args below meth c H locs rmX3_water.cells rmX3_water.slots Z (F0 m pc ls []))  : ∀ (A : SA) (V : SV) (x1 : Int32) (h : wb_X3_water_0 Q A V x1) (H : Heap) (locs : List Loc) (ls : Array Slot) (hw : WS D s A0 (wO ad cI cZ A V) H locs) (hl : lv_has ls 3 [(0, .ref (ad 0)), (1, .int x1)]), W p l e rmX3_water s m args below meth c H locs 0 0 Z (F0 m 0 ls []) := by
  obtain ⟨hx, hb, hml, hown, hts, hK, hA⟩ := id cx
  intro A V x1 h H locs ls hw hl
  refine lv_aload_n (pc := 0) hx hb dX3_water_0 rfl (lv_at hl 0 rfl) ?_
  refine lv_iconst (pc := 1) (v := (0 : Int32)) hx hb dX3_water_1 (by decide) ?_
  refine puO_X3_8 (pc := 2) cx inX3_water_X3 kX3_water_77 hw dX3_water_2 (fun V_1 eV_1 H locs hw => ?_)
  have h := h V_1 eV_1
  refine lv_iconst (pc := 5) (v := (0 : Int32)) hx hb dX3_water_5 (by decide) ?_
  refine lv_istore_n (pc := 6) (lv' := [(2, .int (0 : Int32)), (0, .ref (ad 0)), (1, .int x1)]) hx hb dX3_water_6 rfl hl (by decide) rfl (fun ls hl => ?_)
  obtain ⟨n7, h⟩ := h
  exact wk_X3_water_7 Q cx hret  n7 A V_1 x1 (0 : Int32) h _ _ _ hw (lv_sub hl [1, 2, 0] rfl)
def wpX3_water (A : SA) (V : SV) (x1 : Int32) (Q : SA → SV → Prop) : Prop := wb_X3_water_0 Q A V x1
set_option maxHeartbeats 4000000 in
set_option maxRecDepth 100000 in
theorem metX3_water (l : Launch) (D : va_G) (cI cZ : ClassId) (ad : Nat → Nat) (sz : Nat) (A : SA) (V : SV) (x1 : Int32) (Q : SA → SV → Prop) (h : wpX3_water A V x1 Q) : Met l yX3_water wsX3_water rmX3_water (PcW D [(cI, .int), (cZ, .boolean)] (wO ad cI cZ A V) sz [.ref (ad 0), .int x1]) (QvW D [(cI, .int), (cZ, .boolean)] (wO ad cI cZ A V) sz (fun u : SA × SV => (wO ad cI cZ u.1 u.2)) (fun u => Q u.1 u.2)) rmX3_water.cells rmX3_water.slots (va_A (wO ad cI cZ A V) sz) := by
  refine startV (plainFor_of_name (by decide)) rfl (Nat.le_of_ble_eq_true rfl) ?_
  intro p e s m args below meth c A0 Z cx hw hret ls hl
  exact wk_X3_water_0 Q cx hret A V x1 h _ _ _ hw hl
abbrev rmX3_writeAnswers : Room := { frames := 2, cells := 0, slots := 0, locals := 47 }
theorem inX3_writeAnswers_X1 : ∀ w ∈ wsX10, w ∈ wsX3_writeAnswers := by decide +kernel
theorem inX3_writeAnswers_X2 : ∀ w ∈ wsX20, w ∈ wsX3_writeAnswers := by decide +kernel
theorem inX3_writeAnswers_X3 : ∀ w ∈ wsX30, w ∈ wsX3_writeAnswers := by decide +kernel
theorem kX3_writeAnswers_123 : Cond.fieldLink RX3 123 "DrownedPost$Letters" "to" "[I" ∈ wsX3_writeAnswers := by decide +kernel
theorem kX3_writeAnswers_149 : Cond.fieldLink RX3 149 "DrownedPost$Drowned" "lag" "[I" ∈ wsX3_writeAnswers := by decide +kernel
theorem kX3_writeAnswers_155 : Cond.fieldLink RX3 155 "DrownedPost$Drowned" "written" "[I" ∈ wsX3_writeAnswers := by decide +kernel
theorem kX3_writeAnswers_28 : Cond.fieldLink RX3 28 "DrownedPost$Office" "drowned" "LDrownedPost$Drowned;" ∈ wsX3_writeAnswers := by decide +kernel
theorem kX3_writeAnswers_35 : Cond.fieldLink RX3 35 "DrownedPost$Office" "letters" "LDrownedPost$Letters;" ∈ wsX3_writeAnswers := by decide +kernel
theorem kX3_writeAnswers_46 : Cond.fieldLink RX3 46 "DrownedPost$Office" "sunk" "[I" ∈ wsX3_writeAnswers := by decide +kernel
theorem kX3_writeAnswers_77 : Cond.fieldLink RX3 77 "DrownedPost$Office" "sunkCount" "I" ∈ wsX3_writeAnswers := by decide +kernel
def wb_X3_writeAnswers_41 (Q : SA → SV → Prop) (K2 : SA → SV → Int32 → Prop) (A : SA) (V : SV) (x1 : Int32) (x2 : Int32) (t0 : Int32) : Prop := (wpX1_gets A V t0 (fun r8 A_11 V_12 => ((r8 = 0 → K2 A_11 V_12 (x1 + 1)) ∧ (¬ (r8 = 0) → (vp_in t0 16 ∧ (wpX2_answer A_11 V_12 x2 (A_11 6 t0.toNatClampNeg) (fun r14 A_17 V_18 => ((r14 = 0 → K2 A_17 V_18 (x1 + 1)) ∧ (¬ (r14 = 0) → (vp_in t0 16 ∧ (vp_in t0 16 ∧ (∀ A_20 : SA, A_20 = up A_17 8 t0.toNatClampNeg ((A_17 8 t0.toNatClampNeg) + (1 : Int32)) → K2 A_20 V_18 (x1 + 1)))))))))))))
set_option maxHeartbeats 4000000 in
set_option maxRecDepth 100000 in
theorem wk_X3_writeAnswers_41 (Q : SA → SV → Prop) (K2 : SA → SV → Int32 → Prop) (cx : CX RX3 cX3_writeAnswers 4 wsX3_writeAnswers D [(cI, .int), (cZ, .boolean)] p s m args c A0) (hret : ∀ (pc : Nat) (ls : Array Slot) (u : SA × SV) (H : Heap) (locs : List Loc), decode cX3_writeAnswers pc = .ok (.return_, 1) → Q u.1 u.2 → WS D s A0 (wO ad cI cZ u.1 u.2) H locs → W p l e rmX3_writeAnswers s m args below meth c H locs rmX3_writeAnswers.cells rmX3_writeAnswers.slots Z (F0 m pc ls [])) (hK2 : ∀ (A : SA) (V : SV) (x1 : Int32) (h : K2 A V x1) (H : Heap) (locs : List Loc) (ls : Array Slot) (hw : WS D s A0 (wO ad cI cZ A V) H locs) (hl : lv_has ls 4 [(0, .ref (ad 0)), (1, .int x1)]), W p l e rmX3_writeAnswers s m args below meth c H locs 0 0 Z (F0 m 2 ls [])) : ∀ (A : SA) (V : SV) (x1 : Int32) (x2 : Int32) (t0 : Int32) (h : wb_X3_writeAnswers_41 Q K2 A V x1 x2 t0) (H : Heap) (locs : List Loc) (ls : Array Slot) (hw : WS D s A0 (wO ad cI cZ A V) H locs) (hl : lv_has ls 4 [(0, .ref (ad 0)), (1, .int x1), (2, .int x2)]), W p l e rmX3_writeAnswers s m args below meth c H locs 0 0 Z (F0 m 41 ls [.int t0]) := by
  obtain ⟨hx, hb, hml, hown, hts, hK, hA⟩ := id cx
  intro A V x1 x2 t0 h H locs ls hw hl
  refine lv_istore_n (pc := 41) (lv' := [(3, .int t0), (0, .ref (ad 0)), (1, .int x1), (2, .int x2)]) hx hb dX3_writeAnswers_41 rfl hl (by decide) rfl (fun ls hl => ?_)
  refine lv_aload_n (pc := 42) hx hb dX3_writeAnswers_42 rfl (lv_at hl 1 rfl) ?_
  refine geO_X3_2 (pc := 43) cx inX3_writeAnswers_X3 kX3_writeAnswers_28 hw dX3_writeAnswers_43 ?_
  refine lv_iload_n (pc := 46) hx hb dX3_writeAnswers_46 rfl (lv_at hl 0 rfl) ?_
  refine callVi (pc := 47) (rest := []) (c1 := 0) (s1 := 0) cx hw hl (metX1_gets l D cI cZ ad H.size A V t0 _ h) (fun hts => cwV 1 hts gX3_writeAnswers_X1_gets rfl rfl rfl (by decide +kernel) ⟨Nat.le_of_ble_eq_true rfl, Nat.le_of_ble_eq_true rfl⟩) SUB.rf [0, 1] rfl 3 (ci := 1) rfl rfl rfl (JN.rf) rfl rfl (Nat.le_of_ble_eq_true rfl) ⟨Nat.le_of_ble_eq_true rfl, Nat.le_of_ble_eq_true rfl⟩ rfl rfl dX3_writeAnswers_47 (fun r8 u H locs h hw => ?_)
  obtain ⟨A_11, V_12⟩ := u
  refine lv_if_eq (pc := 50) (tgt := 86) hx hb dX3_writeAnswers_50 (by decide) (fun c13 => ?_) (fun c13 => ?_)
  · have h := h.1 c13
    refine lv_iinc (pc := 86) (v := x1 + 1) (lv' := [(1, .int (x1 + 1)), (3, .int t0), (0, .ref (ad 0)), (2, .int x2)]) hx hb dX3_writeAnswers_86 hl (k := 2) rfl rfl (by decide) rfl (fun ls hl => ?_)
    refine lv_goto (pc := 89) (tgt := 2) hx hb dX3_writeAnswers_89 (by decide) ?_
    exact hK2 A_11 V_12 (x1 + 1) h _ _ _ hw (lv_sub hl [2, 0] rfl)
  · have h := h.2 c13
    refine lv_aload_n (pc := 53) hx hb dX3_writeAnswers_53 rfl (lv_at hl 1 rfl) ?_
    refine geO_X3_3 (pc := 54) cx inX3_writeAnswers_X3 kX3_writeAnswers_35 hw dX3_writeAnswers_54 ?_
    refine lv_iload_n (pc := 57) hx hb dX3_writeAnswers_57 rfl (lv_at hl 3 rfl) ?_
    refine lv_aload_n (pc := 58) hx hb dX3_writeAnswers_58 rfl (lv_at hl 1 rfl) ?_
    refine geO_X3_2 (pc := 59) cx inX3_writeAnswers_X3 kX3_writeAnswers_28 hw dX3_writeAnswers_59 ?_
    refine geO_X1_2 (pc := 62) cx inX3_writeAnswers_X1 kX3_writeAnswers_149 hw dX3_writeAnswers_62 ?_
    refine lv_iload_n (pc := 65) hx hb dX3_writeAnswers_65 rfl (lv_at hl 0 rfl) ?_
    refine alO_6 (pc := 66) cx hw h.1 dX3_writeAnswers_66 ?_
    have h := h.2
    refine callVi (pc := 67) (rest := []) (c1 := 0) (s1 := 0) cx hw hl (metX2_answer l D cI cZ ad H.size A_11 V_12 x2 (A_11 6 t0.toNatClampNeg) _ h) (fun hts => cwV 2 hts gX3_writeAnswers_X2_answer rfl rfl rfl (by decide +kernel) ⟨Nat.le_of_ble_eq_true rfl, Nat.le_of_ble_eq_true rfl⟩) SUB.rf [0, 1] rfl 4 (ci := 2) rfl rfl rfl (JN.rf) rfl rfl (Nat.le_of_ble_eq_true rfl) ⟨Nat.le_of_ble_eq_true rfl, Nat.le_of_ble_eq_true rfl⟩ rfl rfl dX3_writeAnswers_67 (fun r14 u H locs h hw => ?_)
    obtain ⟨A_17, V_18⟩ := u
    refine lv_if_eq (pc := 70) (tgt := 86) hx hb dX3_writeAnswers_70 (by decide) (fun c19 => ?_) (fun c19 => ?_)
    · have h := h.1 c19
      refine lv_iinc (pc := 86) (v := x1 + 1) (lv' := [(1, .int (x1 + 1)), (3, .int t0), (0, .ref (ad 0)), (2, .int x2)]) hx hb dX3_writeAnswers_86 hl (k := 2) rfl rfl (by decide) rfl (fun ls hl => ?_)
      refine lv_goto (pc := 89) (tgt := 2) hx hb dX3_writeAnswers_89 (by decide) ?_
      exact hK2 A_17 V_18 (x1 + 1) h _ _ _ hw (lv_sub hl [2, 0] rfl)
    · have h := h.2 c19
      refine lv_aload_n (pc := 73) hx hb dX3_writeAnswers_73 rfl (lv_at hl 1 rfl) ?_
      refine geO_X3_2 (pc := 74) cx inX3_writeAnswers_X3 kX3_writeAnswers_28 hw dX3_writeAnswers_74 ?_
      refine geO_X1_4 (pc := 77) cx inX3_writeAnswers_X1 kX3_writeAnswers_155 hw dX3_writeAnswers_77 ?_
      refine lv_iload_n (pc := 80) hx hb dX3_writeAnswers_80 rfl (lv_at hl 0 rfl) ?_
      refine lv_dup2_11 (pc := 81) hx hb dX3_writeAnswers_81 rfl rfl ?_
      refine alO_8 (pc := 82) cx hw h.1 dX3_writeAnswers_82 ?_
      have h := h.2
      refine lv_iconst (pc := 83) (v := (1 : Int32)) hx hb dX3_writeAnswers_83 (by decide) ?_
      refine lv_iadd (pc := 84) hx hb dX3_writeAnswers_84 ?_
      refine asO_8 (pc := 85) cx hw h.1 dX3_writeAnswers_85 (fun A_20 eA_20 H locs hw => ?_)
      have h := h.2 A_20 eA_20
      refine lv_iinc (pc := 86) (v := x1 + 1) (lv' := [(1, .int (x1 + 1)), (3, .int t0), (0, .ref (ad 0)), (2, .int x2)]) hx hb dX3_writeAnswers_86 hl (k := 2) rfl rfl (by decide) rfl (fun ls hl => ?_)
      refine lv_goto (pc := 89) (tgt := 2) hx hb dX3_writeAnswers_89 (by decide) ?_
      exact hK2 A_20 V_18 (x1 + 1) h _ _ _ hw (lv_sub hl [2, 0] rfl)
def wl_X3_writeAnswers_2 (Q : SA → SV → Prop) : Nat → SA → SV → Int32 → Prop
  | 0, _, _, _ => False
  | n + 1, A, V, x1 => (((V 7) ≤ x1 → Q A V) ∧ (¬ ((V 7) ≤ x1) → (vp_in x1 150 ∧ (wpX2_has A V (A 18 x1.toNatClampNeg) (fun r2 A_5 V_6 => ((r2 = 0 → (wb_X3_writeAnswers_41 Q (wl_X3_writeAnswers_2 Q n) A_5 V_6 x1 (A 18 x1.toNatClampNeg) (-1 : Int32))) ∧ (¬ (r2 = 0) → (vp_in (A 18 x1.toNatClampNeg) 150 ∧ (wb_X3_writeAnswers_41 Q (wl_X3_writeAnswers_2 Q n) A_5 V_6 x1 (A 18 x1.toNatClampNeg) (A_5 9 (A 18 x1.toNatClampNeg).toNatClampNeg))))))))))
set_option maxHeartbeats 4000000 in
set_option maxRecDepth 100000 in
theorem wk_X3_writeAnswers_2 (Q : SA → SV → Prop) (cx : CX RX3 cX3_writeAnswers 4 wsX3_writeAnswers D [(cI, .int), (cZ, .boolean)] p s m args c A0) (hret : ∀ (pc : Nat) (ls : Array Slot) (u : SA × SV) (H : Heap) (locs : List Loc), decode cX3_writeAnswers pc = .ok (.return_, 1) → Q u.1 u.2 → WS D s A0 (wO ad cI cZ u.1 u.2) H locs → W p l e rmX3_writeAnswers s m args below meth c H locs rmX3_writeAnswers.cells rmX3_writeAnswers.slots Z (F0 m pc ls []))  : ∀ (n : Nat) (A : SA) (V : SV) (x1 : Int32) (h : wl_X3_writeAnswers_2 Q n A V x1) (H : Heap) (locs : List Loc) (ls : Array Slot) (hw : WS D s A0 (wO ad cI cZ A V) H locs) (hl : lv_has ls 4 [(0, .ref (ad 0)), (1, .int x1)]), W p l e rmX3_writeAnswers s m args below meth c H locs 0 0 Z (F0 m 2 ls []) := by
  obtain ⟨hx, hb, hml, hown, hts, hK, hA⟩ := id cx
  intro n
  induction n with
  | zero => intro A V x1 h; exact False.elim h
  | succ n ih =>
    intro A V x1 h H locs ls hw hl
    refine lv_iload_n (pc := 2) hx hb dX3_writeAnswers_2 rfl (lv_at hl 1 rfl) ?_
    refine lv_aload_n (pc := 3) hx hb dX3_writeAnswers_3 rfl (lv_at hl 0 rfl) ?_
    refine geO_X3_8 (pc := 4) cx inX3_writeAnswers_X3 kX3_writeAnswers_77 hw dX3_writeAnswers_4 ?_
    refine lv_icmp_ge (pc := 7) (tgt := 92) hx hb dX3_writeAnswers_7 (by decide) (fun c1 => ?_) (fun c1 => ?_)
    · have h := h.1 c1
      exact hret 92 _ (A, V) _ _ dX3_writeAnswers_92 h hw
    · have h := h.2 c1
      refine lv_aload_n (pc := 10) hx hb dX3_writeAnswers_10 rfl (lv_at hl 0 rfl) ?_
      refine geO_X3_7 (pc := 11) cx inX3_writeAnswers_X3 kX3_writeAnswers_46 hw dX3_writeAnswers_11 ?_
      refine lv_iload_n (pc := 14) hx hb dX3_writeAnswers_14 rfl (lv_at hl 1 rfl) ?_
      refine alO_18 (pc := 15) cx hw h.1 dX3_writeAnswers_15 ?_
      have h := h.2
      refine lv_istore_n (pc := 16) (lv' := [(2, .int (A 18 x1.toNatClampNeg)), (0, .ref (ad 0)), (1, .int x1)]) hx hb dX3_writeAnswers_16 rfl hl (by decide) rfl (fun ls hl => ?_)
      refine lv_aload_n (pc := 17) hx hb dX3_writeAnswers_17 rfl (lv_at hl 1 rfl) ?_
      refine geO_X3_3 (pc := 18) cx inX3_writeAnswers_X3 kX3_writeAnswers_35 hw dX3_writeAnswers_18 ?_
      refine lv_iload_n (pc := 21) hx hb dX3_writeAnswers_21 rfl (lv_at hl 0 rfl) ?_
      refine callVi (pc := 22) (rest := []) (c1 := 0) (s1 := 0) cx hw hl (metX2_has l D cI cZ ad H.size A V (A 18 x1.toNatClampNeg) _ h) (fun hts => cwV 1 hts gX3_writeAnswers_X2_has rfl rfl rfl (by decide +kernel) ⟨Nat.le_of_ble_eq_true rfl, Nat.le_of_ble_eq_true rfl⟩) SUB.rf [0, 1] rfl 4 (ci := 2) rfl rfl rfl (JN.rf) rfl rfl (Nat.le_of_ble_eq_true rfl) ⟨Nat.le_of_ble_eq_true rfl, Nat.le_of_ble_eq_true rfl⟩ rfl rfl dX3_writeAnswers_22 (fun r2 u H locs h hw => ?_)
      obtain ⟨A_5, V_6⟩ := u
      refine lv_if_eq (pc := 25) (tgt := 40) hx hb dX3_writeAnswers_25 (by decide) (fun c7 => ?_) (fun c7 => ?_)
      · have h := h.1 c7
        refine lv_iconst (pc := 40) (v := (-1 : Int32)) hx hb dX3_writeAnswers_40 (by decide) ?_
        exact wk_X3_writeAnswers_41 Q (wl_X3_writeAnswers_2 Q n) cx hret ih A_5 V_6 x1 (A 18 x1.toNatClampNeg) (-1 : Int32) h _ _ _ hw (lv_sub hl [1, 2, 0] rfl)
      · have h := h.2 c7
        refine lv_aload_n (pc := 28) hx hb dX3_writeAnswers_28 rfl (lv_at hl 1 rfl) ?_
        refine geO_X3_3 (pc := 29) cx inX3_writeAnswers_X3 kX3_writeAnswers_35 hw dX3_writeAnswers_29 ?_
        refine geO_X2_0 (pc := 32) cx inX3_writeAnswers_X2 kX3_writeAnswers_123 hw dX3_writeAnswers_32 ?_
        refine lv_iload_n (pc := 35) hx hb dX3_writeAnswers_35 rfl (lv_at hl 0 rfl) ?_
        refine alO_9 (pc := 36) cx hw h.1 dX3_writeAnswers_36 ?_
        have h := h.2
        refine lv_goto (pc := 37) (tgt := 41) hx hb dX3_writeAnswers_37 (by decide) ?_
        exact wk_X3_writeAnswers_41 Q (wl_X3_writeAnswers_2 Q n) cx hret ih A_5 V_6 x1 (A 18 x1.toNatClampNeg) (A_5 9 (A 18 x1.toNatClampNeg).toNatClampNeg) h _ _ _ hw (lv_sub hl [1, 2, 0] rfl)
def wb_X3_writeAnswers_0 (Q : SA → SV → Prop) (A : SA) (V : SV) : Prop := (∃ n2 : Nat, wl_X3_writeAnswers_2 Q n2 A V (0 : Int32))
set_option maxHeartbeats 4000000 in
set_option maxRecDepth 100000 in
theorem wk_X3_writeAnswers_0 (Q : SA → SV → Prop) (cx : CX RX3 cX3_writeAnswers 4 wsX3_writeAnswers D [(cI, .int), (cZ, .boolean)] p s m args c A0) (hret : ∀ (pc : Nat) (ls : Array Slot) (u : SA × SV) (H : Heap) (locs : List Loc), decode cX3_writeAnswers pc = .ok (.return_, 1) → Q u.1 u.2 → WS D s A0 (wO ad cI cZ u.1 u.2) H locs → W p l e rmX3_writeAnswers s m args below meth c H locs rmX3_writeAnswers.cells rmX3_writeAnswers.slots Z (F0 m pc ls []))  : ∀ (A : SA) (V : SV) (h : wb_X3_writeAnswers_0 Q A V) (H : Heap) (locs : List Loc) (ls : Array Slot) (hw : WS D s A0 (wO ad cI cZ A V) H locs) (hl : lv_has ls 4 [(0, .ref (ad 0))]), W p l e rmX3_writeAnswers s m args below meth c H locs 0 0 Z (F0 m 0 ls []) := by
  obtain ⟨hx, hb, hml, hown, hts, hK, hA⟩ := id cx
  intro A V h H locs ls hw hl
  refine lv_iconst (pc := 0) (v := (0 : Int32)) hx hb dX3_writeAnswers_0 (by decide) ?_
  refine lv_istore_n (pc := 1) (lv' := [(1, .int (0 : Int32)), (0, .ref (ad 0))]) hx hb dX3_writeAnswers_1 rfl hl (by decide) rfl (fun ls hl => ?_)
  obtain ⟨n2, h⟩ := h
  exact wk_X3_writeAnswers_2 Q cx hret  n2 A V (0 : Int32) h _ _ _ hw (lv_sub hl [1, 0] rfl)
def wpX3_writeAnswers (A : SA) (V : SV)  (Q : SA → SV → Prop) : Prop := wb_X3_writeAnswers_0 Q A V
set_option maxHeartbeats 4000000 in
set_option maxRecDepth 100000 in
theorem metX3_writeAnswers (l : Launch) (D : va_G) (cI cZ : ClassId) (ad : Nat → Nat) (sz : Nat) (A : SA) (V : SV)  (Q : SA → SV → Prop) (h : wpX3_writeAnswers A V  Q) : Met l yX3_writeAnswers wsX3_writeAnswers rmX3_writeAnswers (PcW D [(cI, .int), (cZ, .boolean)] (wO ad cI cZ A V) sz [.ref (ad 0)]) (QvW D [(cI, .int), (cZ, .boolean)] (wO ad cI cZ A V) sz (fun u : SA × SV => (wO ad cI cZ u.1 u.2)) (fun u => Q u.1 u.2)) rmX3_writeAnswers.cells rmX3_writeAnswers.slots (va_A (wO ad cI cZ A V) sz) := by
  refine startV (plainFor_of_name (by decide)) rfl (Nat.le_of_ble_eq_true rfl) ?_
  intro p e s m args below meth c A0 Z cx hw hret ls hl
  exact wk_X3_writeAnswers_0 Q cx hret A V h _ _ _ hw hl
abbrev rmX3_bringAnswersNearer : Room := { frames := 0, cells := 0, slots := 0, locals := 0 }
theorem inX3_bringAnswersNearer_X2 : ∀ w ∈ wsX20, w ∈ wsX3_bringAnswersNearer := by decide +kernel
theorem inX3_bringAnswersNearer_X3 : ∀ w ∈ wsX30, w ∈ wsX3_bringAnswersNearer := by decide +kernel
theorem kX3_bringAnswersNearer_104 : Cond.fieldLink RX3 104 "DrownedPost$Letters" "state" "[I" ∈ wsX3_bringAnswersNearer := by decide +kernel
theorem kX3_bringAnswersNearer_158 : Cond.fieldLink RX3 158 "DrownedPost$Letters" "hoursBefore" "[I" ∈ wsX3_bringAnswersNearer := by decide +kernel
theorem kX3_bringAnswersNearer_35 : Cond.fieldLink RX3 35 "DrownedPost$Office" "letters" "LDrownedPost$Letters;" ∈ wsX3_bringAnswersNearer := by decide +kernel
def wb_X3_bringAnswersNearer_45 (Q : SA → SV → Prop) (K2 : SA → SV → Int32 → Int32 → Int32 → Prop) (A : SA) (V : SV) (x1 : Int32) (x2 : Int32) (x3 : Int32) : Prop := (vp_in x3 150 ∧ ((¬ (A 16 x3.toNatClampNeg) = 0 → K2 A V x1 x2 (x3 + 1)) ∧ ((A 16 x3.toNatClampNeg) = 0 → (((30 : Int32) < x2 → K2 A V x1 x2 (x3 + 1)) ∧ (¬ ((30 : Int32) < x2) → (vp_in x3 150 ∧ (∀ A_7 : SA, A_7 = up A 12 x3.toNatClampNeg (5 : Int32) → K2 A_7 V x1 x2 (x3 + 1))))))))
set_option maxHeartbeats 4000000 in
set_option maxRecDepth 100000 in
theorem wk_X3_bringAnswersNearer_45 (Q : SA → SV → Prop) (K2 : SA → SV → Int32 → Int32 → Int32 → Prop) (cx : CX RX3 cX3_bringAnswersNearer 4 wsX3_bringAnswersNearer D [(cI, .int), (cZ, .boolean)] p s m args c A0) (hret : ∀ (pc : Nat) (ls : Array Slot) (u : SA × SV) (H : Heap) (locs : List Loc), decode cX3_bringAnswersNearer pc = .ok (.return_, 1) → Q u.1 u.2 → WS D s A0 (wO ad cI cZ u.1 u.2) H locs → W p l e rmX3_bringAnswersNearer s m args below meth c H locs rmX3_bringAnswersNearer.cells rmX3_bringAnswersNearer.slots Z (F0 m pc ls [])) (hK2 : ∀ (A : SA) (V : SV) (x1 : Int32) (x2 : Int32) (x3 : Int32) (h : K2 A V x1 x2 x3) (H : Heap) (locs : List Loc) (ls : Array Slot) (hw : WS D s A0 (wO ad cI cZ A V) H locs) (hl : lv_has ls 4 [(0, .ref (ad 0)), (1, .int x1), (2, .int x2), (3, .int x3)]), W p l e rmX3_bringAnswersNearer s m args below meth c H locs 0 0 Z (F0 m 2 ls [])) : ∀ (A : SA) (V : SV) (x1 : Int32) (x2 : Int32) (x3 : Int32) (h : wb_X3_bringAnswersNearer_45 Q K2 A V x1 x2 x3) (H : Heap) (locs : List Loc) (ls : Array Slot) (hw : WS D s A0 (wO ad cI cZ A V) H locs) (hl : lv_has ls 4 [(0, .ref (ad 0)), (1, .int x1), (2, .int x2), (3, .int x3)]), W p l e rmX3_bringAnswersNearer s m args below meth c H locs 0 0 Z (F0 m 45 ls []) := by
  obtain ⟨hx, hb, hml, hown, hts, hK, hA⟩ := id cx
  intro A V x1 x2 x3 h H locs ls hw hl
  refine lv_aload_n (pc := 45) hx hb dX3_bringAnswersNearer_45 rfl (lv_at hl 0 rfl) ?_
  refine geO_X3_3 (pc := 46) cx inX3_bringAnswersNearer_X3 kX3_bringAnswersNearer_35 hw dX3_bringAnswersNearer_46 ?_
  refine geO_X2_7 (pc := 49) cx inX3_bringAnswersNearer_X2 kX3_bringAnswersNearer_158 hw dX3_bringAnswersNearer_49 ?_
  refine lv_iload_n (pc := 52) hx hb dX3_bringAnswersNearer_52 rfl (lv_at hl 3 rfl) ?_
  refine alO_16 (pc := 53) cx hw h.1 dX3_bringAnswersNearer_53 ?_
  have h := h.2
  refine lv_if_ne (pc := 54) (tgt := 73) hx hb dX3_bringAnswersNearer_54 (by decide) (fun c5 => ?_) (fun c5 => ?_)
  · have h := h.1 c5
    refine lv_iinc (pc := 73) (v := x3 + 1) (lv' := [(3, .int (x3 + 1)), (0, .ref (ad 0)), (1, .int x1), (2, .int x2)]) hx hb dX3_bringAnswersNearer_73 hl (k := 3) rfl rfl (by decide) rfl (fun ls hl => ?_)
    refine lv_goto (pc := 76) (tgt := 2) hx hb dX3_bringAnswersNearer_76 (by decide) ?_
    exact hK2 A V x1 x2 (x3 + 1) h _ _ _ hw (lv_sub hl [1, 2, 3, 0] rfl)
  · have h := h.2 c5
    refine lv_iload_n (pc := 57) hx hb dX3_bringAnswersNearer_57 rfl (lv_at hl 2 rfl) ?_
    refine lv_bipush (pc := 58) (v := (30 : Int32)) hx hb dX3_bringAnswersNearer_58 (by decide) ?_
    refine lv_icmp_gt (pc := 60) (tgt := 73) hx hb dX3_bringAnswersNearer_60 (by decide) (fun c6 => ?_) (fun c6 => ?_)
    · have h := h.1 c6
      refine lv_iinc (pc := 73) (v := x3 + 1) (lv' := [(3, .int (x3 + 1)), (0, .ref (ad 0)), (1, .int x1), (2, .int x2)]) hx hb dX3_bringAnswersNearer_73 hl (k := 3) rfl rfl (by decide) rfl (fun ls hl => ?_)
      refine lv_goto (pc := 76) (tgt := 2) hx hb dX3_bringAnswersNearer_76 (by decide) ?_
      exact hK2 A V x1 x2 (x3 + 1) h _ _ _ hw (lv_sub hl [1, 2, 3, 0] rfl)
    · have h := h.2 c6
      refine lv_aload_n (pc := 63) hx hb dX3_bringAnswersNearer_63 rfl (lv_at hl 0 rfl) ?_
      refine geO_X3_3 (pc := 64) cx inX3_bringAnswersNearer_X3 kX3_bringAnswersNearer_35 hw dX3_bringAnswersNearer_64 ?_
      refine geO_X2_3 (pc := 67) cx inX3_bringAnswersNearer_X2 kX3_bringAnswersNearer_104 hw dX3_bringAnswersNearer_67 ?_
      refine lv_iload_n (pc := 70) hx hb dX3_bringAnswersNearer_70 rfl (lv_at hl 3 rfl) ?_
      refine lv_iconst (pc := 71) (v := (5 : Int32)) hx hb dX3_bringAnswersNearer_71 (by decide) ?_
      refine asO_12 (pc := 72) cx hw h.1 dX3_bringAnswersNearer_72 (fun A_7 eA_7 H locs hw => ?_)
      have h := h.2 A_7 eA_7
      refine lv_iinc (pc := 73) (v := x3 + 1) (lv' := [(3, .int (x3 + 1)), (0, .ref (ad 0)), (1, .int x1), (2, .int x2)]) hx hb dX3_bringAnswersNearer_73 hl (k := 3) rfl rfl (by decide) rfl (fun ls hl => ?_)
      refine lv_goto (pc := 76) (tgt := 2) hx hb dX3_bringAnswersNearer_76 (by decide) ?_
      exact hK2 A_7 V x1 x2 (x3 + 1) h _ _ _ hw (lv_sub hl [1, 2, 3, 0] rfl)
def wl_X3_bringAnswersNearer_2 (Q : SA → SV → Prop) : Nat → SA → SV → Int32 → Int32 → Int32 → Prop
  | 0, _, _, _, _, _ => False
  | n + 1, A, V, x1, x2, x3 => ((x1 ≤ x3 → Q A V) ∧ (¬ (x1 ≤ x3) → (vp_in x3 150 ∧ ((¬ (A 12 x3.toNatClampNeg) = (4 : Int32) → wl_X3_bringAnswersNearer_2 Q n A V x1 x2 (x3 + 1)) ∧ ((A 12 x3.toNatClampNeg) = (4 : Int32) → (vp_in x3 150 ∧ (((A 16 x3.toNatClampNeg) ≤ 0 → (wb_X3_bringAnswersNearer_45 Q (wl_X3_bringAnswersNearer_2 Q n) A V x1 x2 x3)) ∧ (¬ ((A 16 x3.toNatClampNeg) ≤ 0) → (vp_in x3 150 ∧ (vp_in x3 150 ∧ (∀ A_4 : SA, A_4 = up A 16 x3.toNatClampNeg ((A 16 x3.toNatClampNeg) - (1 : Int32)) → (wb_X3_bringAnswersNearer_45 Q (wl_X3_bringAnswersNearer_2 Q n) A_4 V x1 x2 x3))))))))))))
set_option maxHeartbeats 4000000 in
set_option maxRecDepth 100000 in
theorem wk_X3_bringAnswersNearer_2 (Q : SA → SV → Prop) (cx : CX RX3 cX3_bringAnswersNearer 4 wsX3_bringAnswersNearer D [(cI, .int), (cZ, .boolean)] p s m args c A0) (hret : ∀ (pc : Nat) (ls : Array Slot) (u : SA × SV) (H : Heap) (locs : List Loc), decode cX3_bringAnswersNearer pc = .ok (.return_, 1) → Q u.1 u.2 → WS D s A0 (wO ad cI cZ u.1 u.2) H locs → W p l e rmX3_bringAnswersNearer s m args below meth c H locs rmX3_bringAnswersNearer.cells rmX3_bringAnswersNearer.slots Z (F0 m pc ls []))  : ∀ (n : Nat) (A : SA) (V : SV) (x1 : Int32) (x2 : Int32) (x3 : Int32) (h : wl_X3_bringAnswersNearer_2 Q n A V x1 x2 x3) (H : Heap) (locs : List Loc) (ls : Array Slot) (hw : WS D s A0 (wO ad cI cZ A V) H locs) (hl : lv_has ls 4 [(0, .ref (ad 0)), (1, .int x1), (2, .int x2), (3, .int x3)]), W p l e rmX3_bringAnswersNearer s m args below meth c H locs 0 0 Z (F0 m 2 ls []) := by
  obtain ⟨hx, hb, hml, hown, hts, hK, hA⟩ := id cx
  intro n
  induction n with
  | zero => intro A V x1 x2 x3 h; exact False.elim h
  | succ n ih =>
    intro A V x1 x2 x3 h H locs ls hw hl
    refine lv_iload_n (pc := 2) hx hb dX3_bringAnswersNearer_2 rfl (lv_at hl 3 rfl) ?_
    refine lv_iload_n (pc := 3) hx hb dX3_bringAnswersNearer_3 rfl (lv_at hl 1 rfl) ?_
    refine lv_icmp_ge (pc := 4) (tgt := 79) hx hb dX3_bringAnswersNearer_4 (by decide) (fun c1 => ?_) (fun c1 => ?_)
    · have h := h.1 c1
      exact hret 79 _ (A, V) _ _ dX3_bringAnswersNearer_79 h hw
    · have h := h.2 c1
      refine lv_aload_n (pc := 7) hx hb dX3_bringAnswersNearer_7 rfl (lv_at hl 0 rfl) ?_
      refine geO_X3_3 (pc := 8) cx inX3_bringAnswersNearer_X3 kX3_bringAnswersNearer_35 hw dX3_bringAnswersNearer_8 ?_
      refine geO_X2_3 (pc := 11) cx inX3_bringAnswersNearer_X2 kX3_bringAnswersNearer_104 hw dX3_bringAnswersNearer_11 ?_
      refine lv_iload_n (pc := 14) hx hb dX3_bringAnswersNearer_14 rfl (lv_at hl 3 rfl) ?_
      refine alO_12 (pc := 15) cx hw h.1 dX3_bringAnswersNearer_15 ?_
      have h := h.2
      refine lv_iconst (pc := 16) (v := (4 : Int32)) hx hb dX3_bringAnswersNearer_16 (by decide) ?_
      refine lv_icmp_ne (pc := 17) (tgt := 73) hx hb dX3_bringAnswersNearer_17 (by decide) (fun c2 => ?_) (fun c2 => ?_)
      · have h := h.1 c2
        refine lv_iinc (pc := 73) (v := x3 + 1) (lv' := [(3, .int (x3 + 1)), (0, .ref (ad 0)), (1, .int x1), (2, .int x2)]) hx hb dX3_bringAnswersNearer_73 hl (k := 3) rfl rfl (by decide) rfl (fun ls hl => ?_)
        refine lv_goto (pc := 76) (tgt := 2) hx hb dX3_bringAnswersNearer_76 (by decide) ?_
        exact ih A V x1 x2 (x3 + 1) h _ _ _ hw (lv_sub hl [1, 2, 3, 0] rfl)
      · have h := h.2 c2
        refine lv_aload_n (pc := 20) hx hb dX3_bringAnswersNearer_20 rfl (lv_at hl 0 rfl) ?_
        refine geO_X3_3 (pc := 21) cx inX3_bringAnswersNearer_X3 kX3_bringAnswersNearer_35 hw dX3_bringAnswersNearer_21 ?_
        refine geO_X2_7 (pc := 24) cx inX3_bringAnswersNearer_X2 kX3_bringAnswersNearer_158 hw dX3_bringAnswersNearer_24 ?_
        refine lv_iload_n (pc := 27) hx hb dX3_bringAnswersNearer_27 rfl (lv_at hl 3 rfl) ?_
        refine alO_16 (pc := 28) cx hw h.1 dX3_bringAnswersNearer_28 ?_
        have h := h.2
        refine lv_if_le (pc := 29) (tgt := 45) hx hb dX3_bringAnswersNearer_29 (by decide) (fun c3 => ?_) (fun c3 => ?_)
        · have h := h.1 c3
          exact wk_X3_bringAnswersNearer_45 Q (wl_X3_bringAnswersNearer_2 Q n) cx hret ih A V x1 x2 x3 h _ _ _ hw (lv_sub hl [0, 1, 2, 3] rfl)
        · have h := h.2 c3
          refine lv_aload_n (pc := 32) hx hb dX3_bringAnswersNearer_32 rfl (lv_at hl 0 rfl) ?_
          refine geO_X3_3 (pc := 33) cx inX3_bringAnswersNearer_X3 kX3_bringAnswersNearer_35 hw dX3_bringAnswersNearer_33 ?_
          refine geO_X2_7 (pc := 36) cx inX3_bringAnswersNearer_X2 kX3_bringAnswersNearer_158 hw dX3_bringAnswersNearer_36 ?_
          refine lv_iload_n (pc := 39) hx hb dX3_bringAnswersNearer_39 rfl (lv_at hl 3 rfl) ?_
          refine lv_dup2_11 (pc := 40) hx hb dX3_bringAnswersNearer_40 rfl rfl ?_
          refine alO_16 (pc := 41) cx hw h.1 dX3_bringAnswersNearer_41 ?_
          have h := h.2
          refine lv_iconst (pc := 42) (v := (1 : Int32)) hx hb dX3_bringAnswersNearer_42 (by decide) ?_
          refine lv_isub (pc := 43) hx hb dX3_bringAnswersNearer_43 ?_
          refine asO_16 (pc := 44) cx hw h.1 dX3_bringAnswersNearer_44 (fun A_4 eA_4 H locs hw => ?_)
          have h := h.2 A_4 eA_4
          exact wk_X3_bringAnswersNearer_45 Q (wl_X3_bringAnswersNearer_2 Q n) cx hret ih A_4 V x1 x2 x3 h _ _ _ hw (lv_sub hl [0, 1, 2, 3] rfl)
def wb_X3_bringAnswersNearer_0 (Q : SA → SV → Prop) (A : SA) (V : SV) (x1 : Int32) (x2 : Int32) : Prop := (∃ n2 : Nat, wl_X3_bringAnswersNearer_2 Q n2 A V x1 x2 (0 : Int32))
set_option maxHeartbeats 4000000 in
set_option maxRecDepth 100000 in
theorem wk_X3_bringAnswersNearer_0 (Q : SA → SV → Prop) (cx : CX RX3 cX3_bringAnswersNearer 4 wsX3_bringAnswersNearer D [(cI, .int), (cZ, .boolean)] p s m args c A0) (hret : ∀ (pc : Nat) (ls : Array Slot) (u : SA × SV) (H : Heap) (locs : List Loc), decode cX3_bringAnswersNearer pc = .ok (.return_, 1) → Q u.1 u.2 → WS D s A0 (wO ad cI cZ u.1 u.2) H locs → W p l e rmX3_bringAnswersNearer s m args below meth c H locs rmX3_bringAnswersNearer.cells rmX3_bringAnswersNearer.slots Z (F0 m pc ls []))  : ∀ (A : SA) (V : SV) (x1 : Int32) (x2 : Int32) (h : wb_X3_bringAnswersNearer_0 Q A V x1 x2) (H : Heap) (locs : List Loc) (ls : Array Slot) (hw : WS D s A0 (wO ad cI cZ A V) H locs) (hl : lv_has ls 4 [(0, .ref (ad 0)), (1, .int x1), (2, .int x2)]), W p l e rmX3_bringAnswersNearer s m args below meth c H locs 0 0 Z (F0 m 0 ls []) := by
  obtain ⟨hx, hb, hml, hown, hts, hK, hA⟩ := id cx
  intro A V x1 x2 h H locs ls hw hl
  refine lv_iconst (pc := 0) (v := (0 : Int32)) hx hb dX3_bringAnswersNearer_0 (by decide) ?_
  refine lv_istore_n (pc := 1) (lv' := [(3, .int (0 : Int32)), (0, .ref (ad 0)), (1, .int x1), (2, .int x2)]) hx hb dX3_bringAnswersNearer_1 rfl hl (by decide) rfl (fun ls hl => ?_)
  obtain ⟨n2, h⟩ := h
  exact wk_X3_bringAnswersNearer_2 Q cx hret  n2 A V x1 x2 (0 : Int32) h _ _ _ hw (lv_sub hl [1, 2, 3, 0] rfl)
def wpX3_bringAnswersNearer (A : SA) (V : SV) (x1 : Int32) (x2 : Int32) (Q : SA → SV → Prop) : Prop := wb_X3_bringAnswersNearer_0 Q A V x1 x2
set_option maxHeartbeats 4000000 in
set_option maxRecDepth 100000 in
theorem metX3_bringAnswersNearer (l : Launch) (D : va_G) (cI cZ : ClassId) (ad : Nat → Nat) (sz : Nat) (A : SA) (V : SV) (x1 : Int32) (x2 : Int32) (Q : SA → SV → Prop) (h : wpX3_bringAnswersNearer A V x1 x2 Q) : Met l yX3_bringAnswersNearer wsX3_bringAnswersNearer rmX3_bringAnswersNearer (PcW D [(cI, .int), (cZ, .boolean)] (wO ad cI cZ A V) sz [.ref (ad 0), .int x1, .int x2]) (QvW D [(cI, .int), (cZ, .boolean)] (wO ad cI cZ A V) sz (fun u : SA × SV => (wO ad cI cZ u.1 u.2)) (fun u => Q u.1 u.2)) rmX3_bringAnswersNearer.cells rmX3_bringAnswersNearer.slots (va_A (wO ad cI cZ A V) sz) := by
  refine startV (plainFor_of_name (by decide)) rfl (Nat.le_of_ble_eq_true rfl) ?_
  intro p e s m args below meth c A0 Z cx hw hret ls hl
  exact wk_X3_bringAnswersNearer_0 Q cx hret A V x1 x2 h _ _ _ hw hl
abbrev rmX3_canBeScraped : Room := { frames := 1, cells := 0, slots := 0, locals := 22 }
theorem inX3_canBeScraped_X2 : ∀ w ∈ wsX20, w ∈ wsX3_canBeScraped := by decide +kernel
theorem inX3_canBeScraped_X3 : ∀ w ∈ wsX30, w ∈ wsX3_canBeScraped := by decide +kernel
theorem kX3_canBeScraped_104 : Cond.fieldLink RX3 104 "DrownedPost$Letters" "state" "[I" ∈ wsX3_canBeScraped := by decide +kernel
theorem kX3_canBeScraped_110 : Cond.fieldLink RX3 110 "DrownedPost$Letters" "bin" "[I" ∈ wsX3_canBeScraped := by decide +kernel
theorem kX3_canBeScraped_21 : Cond.fieldLink RX3 21 "DrownedPost$Office" "bins" "LDrownedPost$Bins;" ∈ wsX3_canBeScraped := by decide +kernel
theorem kX3_canBeScraped_35 : Cond.fieldLink RX3 35 "DrownedPost$Office" "letters" "LDrownedPost$Letters;" ∈ wsX3_canBeScraped := by decide +kernel
theorem kX3_canBeScraped_50 : Cond.fieldLink RX3 50 "DrownedPost$Office" "scraped" "[Z" ∈ wsX3_canBeScraped := by decide +kernel
def wb_X3_canBeScraped_0 (Q : Int32 → SA → SV → Prop) (A : SA) (V : SV) (x1 : Int32) (x2 : Int32) : Prop := (vp_in x1 150 ∧ ((¬ (A 12 x1.toNatClampNeg) = (1 : Int32) → Q (0 : Int32) A V) ∧ ((A 12 x1.toNatClampNeg) = (1 : Int32) → (vp_in x1 150 ∧ ((¬ (A 19 x1.toNatClampNeg) = 0 → Q (0 : Int32) A V) ∧ ((A 19 x1.toNatClampNeg) = 0 → (vp_in x1 150 ∧ (wpX0_isUnder A V (A 14 x1.toNatClampNeg) x2 (fun r3 A_6 V_7 => ((¬ r3 = 0 → Q (0 : Int32) A_6 V_7) ∧ (r3 = 0 → Q (1 : Int32) A_6 V_7)))))))))))
set_option maxHeartbeats 4000000 in
set_option maxRecDepth 100000 in
theorem wk_X3_canBeScraped_0 (Q : Int32 → SA → SV → Prop) (cx : CX RX3 cX3_canBeScraped 3 wsX3_canBeScraped D [(cI, .int), (cZ, .boolean)] p s m args c A0) (hret : ∀ (pc : Nat) (ls : Array Slot) (r : Int32) (u : SA × SV) (H : Heap) (locs : List Loc), narrow .boolean (.int r) = .int r → decode cX3_canBeScraped pc = .ok (.ireturn, 1) → Q r u.1 u.2 → WS D s A0 (wO ad cI cZ u.1 u.2) H locs → W p l e rmX3_canBeScraped s m args below meth c H locs rmX3_canBeScraped.cells rmX3_canBeScraped.slots Z (F0 m pc ls [.int r]))  : ∀ (A : SA) (V : SV) (x1 : Int32) (x2 : Int32) (h : wb_X3_canBeScraped_0 Q A V x1 x2) (H : Heap) (locs : List Loc) (ls : Array Slot) (hw : WS D s A0 (wO ad cI cZ A V) H locs) (hl : lv_has ls 3 [(0, .ref (ad 0)), (1, .int x1), (2, .int x2)]), W p l e rmX3_canBeScraped s m args below meth c H locs 0 0 Z (F0 m 0 ls []) := by
  obtain ⟨hx, hb, hml, hown, hts, hK, hA⟩ := id cx
  intro A V x1 x2 h H locs ls hw hl
  refine lv_aload_n (pc := 0) hx hb dX3_canBeScraped_0 rfl (lv_at hl 0 rfl) ?_
  refine geO_X3_3 (pc := 1) cx inX3_canBeScraped_X3 kX3_canBeScraped_35 hw dX3_canBeScraped_1 ?_
  refine geO_X2_3 (pc := 4) cx inX3_canBeScraped_X2 kX3_canBeScraped_104 hw dX3_canBeScraped_4 ?_
  refine lv_iload_n (pc := 7) hx hb dX3_canBeScraped_7 rfl (lv_at hl 1 rfl) ?_
  refine alO_12 (pc := 8) cx hw h.1 dX3_canBeScraped_8 ?_
  have h := h.2
  refine lv_iconst (pc := 9) (v := (1 : Int32)) hx hb dX3_canBeScraped_9 (by decide) ?_
  refine lv_icmp_ne (pc := 10) (tgt := 46) hx hb dX3_canBeScraped_10 (by decide) (fun c1 => ?_) (fun c1 => ?_)
  · have h := h.1 c1
    refine lv_iconst (pc := 46) (v := (0 : Int32)) hx hb dX3_canBeScraped_46 (by decide) ?_
    exact hret 47 _ _ (A, V) _ _ rfl dX3_canBeScraped_47 h hw
  · have h := h.2 c1
    refine lv_aload_n (pc := 13) hx hb dX3_canBeScraped_13 rfl (lv_at hl 0 rfl) ?_
    refine geO_X3_9 (pc := 14) cx inX3_canBeScraped_X3 kX3_canBeScraped_50 hw dX3_canBeScraped_14 ?_
    refine lv_iload_n (pc := 17) hx hb dX3_canBeScraped_17 rfl (lv_at hl 1 rfl) ?_
    refine alO_19 (pc := 18) cx hw h.1 dX3_canBeScraped_18 ?_
    have h := h.2
    refine lv_if_ne (pc := 19) (tgt := 46) hx hb dX3_canBeScraped_19 (by decide) (fun c2 => ?_) (fun c2 => ?_)
    · have h := h.1 c2
      refine lv_iconst (pc := 46) (v := (0 : Int32)) hx hb dX3_canBeScraped_46 (by decide) ?_
      exact hret 47 _ _ (A, V) _ _ rfl dX3_canBeScraped_47 h hw
    · have h := h.2 c2
      refine lv_aload_n (pc := 22) hx hb dX3_canBeScraped_22 rfl (lv_at hl 0 rfl) ?_
      refine geO_X3_1 (pc := 23) cx inX3_canBeScraped_X3 kX3_canBeScraped_21 hw dX3_canBeScraped_23 ?_
      refine lv_aload_n (pc := 26) hx hb dX3_canBeScraped_26 rfl (lv_at hl 0 rfl) ?_
      refine geO_X3_3 (pc := 27) cx inX3_canBeScraped_X3 kX3_canBeScraped_35 hw dX3_canBeScraped_27 ?_
      refine geO_X2_5 (pc := 30) cx inX3_canBeScraped_X2 kX3_canBeScraped_110 hw dX3_canBeScraped_30 ?_
      refine lv_iload_n (pc := 33) hx hb dX3_canBeScraped_33 rfl (lv_at hl 1 rfl) ?_
      refine alO_14 (pc := 34) cx hw h.1 dX3_canBeScraped_34 ?_
      have h := h.2
      refine lv_iload_n (pc := 35) hx hb dX3_canBeScraped_35 rfl (lv_at hl 2 rfl) ?_
      refine callVi (pc := 36) (rest := []) (c1 := 0) (s1 := 0) cx hw hl (metX0_isUnder l D cI cZ ad H.size A V (A 14 x1.toNatClampNeg) x2 _ h) (fun hts => cwV 2 hts gX3_canBeScraped_X0_isUnder rfl rfl rfl (by decide +kernel) ⟨Nat.le_of_ble_eq_true rfl, Nat.le_of_ble_eq_true rfl⟩) SUB.rf [0, 1] rfl 2 (ci := 0) rfl rfl rfl (JN.rf) rfl rfl (Nat.le_of_ble_eq_true rfl) ⟨Nat.le_of_ble_eq_true rfl, Nat.le_of_ble_eq_true rfl⟩ rfl rfl dX3_canBeScraped_36 (fun r3 u H locs h hw => ?_)
      obtain ⟨A_6, V_7⟩ := u
      refine lv_if_ne (pc := 39) (tgt := 46) hx hb dX3_canBeScraped_39 (by decide) (fun c8 => ?_) (fun c8 => ?_)
      · have h := h.1 c8
        refine lv_iconst (pc := 46) (v := (0 : Int32)) hx hb dX3_canBeScraped_46 (by decide) ?_
        exact hret 47 _ _ (A_6, V_7) _ _ rfl dX3_canBeScraped_47 h hw
      · have h := h.2 c8
        refine lv_iconst (pc := 42) (v := (1 : Int32)) hx hb dX3_canBeScraped_42 (by decide) ?_
        refine lv_goto (pc := 43) (tgt := 47) hx hb dX3_canBeScraped_43 (by decide) ?_
        exact hret 47 _ _ (A_6, V_7) _ _ rfl dX3_canBeScraped_47 h hw
def wpX3_canBeScraped (A : SA) (V : SV) (x1 : Int32) (x2 : Int32) (Q : Int32 → SA → SV → Prop) : Prop := wb_X3_canBeScraped_0 Q A V x1 x2
set_option maxHeartbeats 4000000 in
set_option maxRecDepth 100000 in
theorem metX3_canBeScraped (l : Launch) (D : va_G) (cI cZ : ClassId) (ad : Nat → Nat) (sz : Nat) (A : SA) (V : SV) (x1 : Int32) (x2 : Int32) (Q : Int32 → SA → SV → Prop) (h : wpX3_canBeScraped A V x1 x2 Q) : Met l yX3_canBeScraped wsX3_canBeScraped rmX3_canBeScraped (PcW D [(cI, .int), (cZ, .boolean)] (wO ad cI cZ A V) sz [.ref (ad 0), .int x1, .int x2]) (QiW D [(cI, .int), (cZ, .boolean)] (wO ad cI cZ A V) sz (fun u : SA × SV => (wO ad cI cZ u.1 u.2)) (fun r u => Q r u.1 u.2)) rmX3_canBeScraped.cells rmX3_canBeScraped.slots (va_A (wO ad cI cZ A V) sz) := by
  refine startI (plainFor_of_name (by decide)) rfl (Nat.le_of_ble_eq_true rfl) ?_
  intro p e s m args below meth c A0 Z cx hw hret ls hl
  exact wk_X3_canBeScraped_0 Q cx hret A V x1 x2 h _ _ _ hw hl
abbrev rmX3_mostOvergrown : Room := { frames := 2, cells := 0, slots := 0, locals := 44 }
theorem inX3_mostOvergrown_X2 : ∀ w ∈ wsX20, w ∈ wsX3_mostOvergrown := by decide +kernel
theorem inX3_mostOvergrown_X3 : ∀ w ∈ wsX30, w ∈ wsX3_mostOvergrown := by decide +kernel
theorem kX3_mostOvergrown_117 : Cond.fieldLink RX3 117 "DrownedPost$Letters" "growth" "[I" ∈ wsX3_mostOvergrown := by decide +kernel
theorem kX3_mostOvergrown_35 : Cond.fieldLink RX3 35 "DrownedPost$Office" "letters" "LDrownedPost$Letters;" ∈ wsX3_mostOvergrown := by decide +kernel
theorem kX3_mostOvergrown_84 : Cond.fieldLink RX3 84 "DrownedPost$Letters" "count" "I" ∈ wsX3_mostOvergrown := by decide +kernel
def wl_X3_mostOvergrown_7 (Q : Int32 → SA → SV → Prop) : Nat → SA → SV → Int32 → Int32 → Int32 → Int32 → Prop
  | 0, _, _, _, _, _, _ => False
  | n + 1, A, V, x1, x2, x3, x4 => (((V 3) ≤ x4 → Q x2 A V) ∧ (¬ ((V 3) ≤ x4) → (vp_in x4 150 ∧ (((A 13 x4.toNatClampNeg) ≤ x3 → wl_X3_mostOvergrown_7 Q n A V x1 x2 x3 (x4 + 1)) ∧ (¬ ((A 13 x4.toNatClampNeg) ≤ x3) → (wpX3_canBeScraped A V x4 x1 (fun r3 A_6 V_7 => ((r3 = 0 → wl_X3_mostOvergrown_7 Q n A_6 V_7 x1 x2 x3 (x4 + 1)) ∧ (¬ (r3 = 0) → (vp_in x4 150 ∧ wl_X3_mostOvergrown_7 Q n A_6 V_7 x1 x4 (A_6 13 x4.toNatClampNeg) (x4 + 1)))))))))))
set_option maxHeartbeats 4000000 in
set_option maxRecDepth 100000 in
theorem wk_X3_mostOvergrown_7 (Q : Int32 → SA → SV → Prop) (cx : CX RX3 cX3_mostOvergrown 5 wsX3_mostOvergrown D [(cI, .int), (cZ, .boolean)] p s m args c A0) (hret : ∀ (pc : Nat) (ls : Array Slot) (r : Int32) (u : SA × SV) (H : Heap) (locs : List Loc), narrow .int (.int r) = .int r → decode cX3_mostOvergrown pc = .ok (.ireturn, 1) → Q r u.1 u.2 → WS D s A0 (wO ad cI cZ u.1 u.2) H locs → W p l e rmX3_mostOvergrown s m args below meth c H locs rmX3_mostOvergrown.cells rmX3_mostOvergrown.slots Z (F0 m pc ls [.int r]))  : ∀ (n : Nat) (A : SA) (V : SV) (x1 : Int32) (x2 : Int32) (x3 : Int32) (x4 : Int32) (h : wl_X3_mostOvergrown_7 Q n A V x1 x2 x3 x4) (H : Heap) (locs : List Loc) (ls : Array Slot) (hw : WS D s A0 (wO ad cI cZ A V) H locs) (hl : lv_has ls 5 [(0, .ref (ad 0)), (1, .int x1), (2, .int x2), (3, .int x3), (4, .int x4)]), W p l e rmX3_mostOvergrown s m args below meth c H locs 0 0 Z (F0 m 7 ls []) := by
  obtain ⟨hx, hb, hml, hown, hts, hK, hA⟩ := id cx
  intro n
  induction n with
  | zero => intro A V x1 x2 x3 x4 h; exact False.elim h
  | succ n ih =>
    intro A V x1 x2 x3 x4 h H locs ls hw hl
    refine lv_iload (pc := 7) hx hb dX3_mostOvergrown_7 (lv_at hl 4 rfl) ?_
    refine lv_aload_n (pc := 9) hx hb dX3_mostOvergrown_9 rfl (lv_at hl 0 rfl) ?_
    refine geO_X3_3 (pc := 10) cx inX3_mostOvergrown_X3 kX3_mostOvergrown_35 hw dX3_mostOvergrown_10 ?_
    refine geO_X2_9 (pc := 13) cx inX3_mostOvergrown_X2 kX3_mostOvergrown_84 hw dX3_mostOvergrown_13 ?_
    refine lv_icmp_ge (pc := 16) (tgt := 63) hx hb dX3_mostOvergrown_16 (by decide) (fun c1 => ?_) (fun c1 => ?_)
    · have h := h.1 c1
      refine lv_iload_n (pc := 63) hx hb dX3_mostOvergrown_63 rfl (lv_at hl 2 rfl) ?_
      exact hret 64 _ _ (A, V) _ _ rfl dX3_mostOvergrown_64 h hw
    · have h := h.2 c1
      refine lv_aload_n (pc := 19) hx hb dX3_mostOvergrown_19 rfl (lv_at hl 0 rfl) ?_
      refine geO_X3_3 (pc := 20) cx inX3_mostOvergrown_X3 kX3_mostOvergrown_35 hw dX3_mostOvergrown_20 ?_
      refine geO_X2_4 (pc := 23) cx inX3_mostOvergrown_X2 kX3_mostOvergrown_117 hw dX3_mostOvergrown_23 ?_
      refine lv_iload (pc := 26) hx hb dX3_mostOvergrown_26 (lv_at hl 4 rfl) ?_
      refine alO_13 (pc := 28) cx hw h.1 dX3_mostOvergrown_28 ?_
      have h := h.2
      refine lv_iload_n (pc := 29) hx hb dX3_mostOvergrown_29 rfl (lv_at hl 3 rfl) ?_
      refine lv_icmp_le (pc := 30) (tgt := 57) hx hb dX3_mostOvergrown_30 (by decide) (fun c2 => ?_) (fun c2 => ?_)
      · have h := h.1 c2
        refine lv_iinc (pc := 57) (v := x4 + 1) (lv' := [(4, .int (x4 + 1)), (0, .ref (ad 0)), (1, .int x1), (2, .int x2), (3, .int x3)]) hx hb dX3_mostOvergrown_57 hl (k := 4) rfl rfl (by decide) rfl (fun ls hl => ?_)
        refine lv_goto (pc := 60) (tgt := 7) hx hb dX3_mostOvergrown_60 (by decide) ?_
        exact ih A V x1 x2 x3 (x4 + 1) h _ _ _ hw (lv_sub hl [1, 2, 3, 4, 0] rfl)
      · have h := h.2 c2
        refine lv_aload_n (pc := 33) hx hb dX3_mostOvergrown_33 rfl (lv_at hl 0 rfl) ?_
        refine lv_iload (pc := 34) hx hb dX3_mostOvergrown_34 (lv_at hl 4 rfl) ?_
        refine lv_iload_n (pc := 36) hx hb dX3_mostOvergrown_36 rfl (lv_at hl 1 rfl) ?_
        refine callVi (pc := 37) (rest := []) (c1 := 0) (s1 := 0) cx hw hl (metX3_canBeScraped l D cI cZ ad H.size A V x4 x1 _ h) (fun hts => cwV 2 hts gX3_mostOvergrown_X3_canBeScraped rfl rfl rfl (by decide +kernel) ⟨Nat.le_of_ble_eq_true rfl, Nat.le_of_ble_eq_true rfl⟩) SUB.rf [0, 1] rfl 0 (ci := 3) rfl rfl rfl (JN.rf) rfl rfl (Nat.le_of_ble_eq_true rfl) ⟨Nat.le_of_ble_eq_true rfl, Nat.le_of_ble_eq_true rfl⟩ rfl rfl dX3_mostOvergrown_37 (fun r3 u H locs h hw => ?_)
        obtain ⟨A_6, V_7⟩ := u
        refine lv_if_eq (pc := 40) (tgt := 57) hx hb dX3_mostOvergrown_40 (by decide) (fun c8 => ?_) (fun c8 => ?_)
        · have h := h.1 c8
          refine lv_iinc (pc := 57) (v := x4 + 1) (lv' := [(4, .int (x4 + 1)), (0, .ref (ad 0)), (1, .int x1), (2, .int x2), (3, .int x3)]) hx hb dX3_mostOvergrown_57 hl (k := 4) rfl rfl (by decide) rfl (fun ls hl => ?_)
          refine lv_goto (pc := 60) (tgt := 7) hx hb dX3_mostOvergrown_60 (by decide) ?_
          exact ih A_6 V_7 x1 x2 x3 (x4 + 1) h _ _ _ hw (lv_sub hl [1, 2, 3, 4, 0] rfl)
        · have h := h.2 c8
          refine lv_iload (pc := 43) hx hb dX3_mostOvergrown_43 (lv_at hl 4 rfl) ?_
          refine lv_istore_n (pc := 45) (lv' := [(2, .int x4), (0, .ref (ad 0)), (1, .int x1), (3, .int x3), (4, .int x4)]) hx hb dX3_mostOvergrown_45 rfl hl (by decide) rfl (fun ls hl => ?_)
          refine lv_aload_n (pc := 46) hx hb dX3_mostOvergrown_46 rfl (lv_at hl 1 rfl) ?_
          refine geO_X3_3 (pc := 47) cx inX3_mostOvergrown_X3 kX3_mostOvergrown_35 hw dX3_mostOvergrown_47 ?_
          refine geO_X2_4 (pc := 50) cx inX3_mostOvergrown_X2 kX3_mostOvergrown_117 hw dX3_mostOvergrown_50 ?_
          refine lv_iload (pc := 53) hx hb dX3_mostOvergrown_53 (lv_at hl 4 rfl) ?_
          refine alO_13 (pc := 55) cx hw h.1 dX3_mostOvergrown_55 ?_
          have h := h.2
          refine lv_istore_n (pc := 56) (lv' := [(3, .int (A_6 13 x4.toNatClampNeg)), (2, .int x4), (0, .ref (ad 0)), (1, .int x1), (4, .int x4)]) hx hb dX3_mostOvergrown_56 rfl hl (by decide) rfl (fun ls hl => ?_)
          refine lv_iinc (pc := 57) (v := x4 + 1) (lv' := [(4, .int (x4 + 1)), (3, .int (A_6 13 x4.toNatClampNeg)), (2, .int x4), (0, .ref (ad 0)), (1, .int x1)]) hx hb dX3_mostOvergrown_57 hl (k := 4) rfl rfl (by decide) rfl (fun ls hl => ?_)
          refine lv_goto (pc := 60) (tgt := 7) hx hb dX3_mostOvergrown_60 (by decide) ?_
          exact ih A_6 V_7 x1 x4 (A_6 13 x4.toNatClampNeg) (x4 + 1) h _ _ _ hw (lv_sub hl [3, 4, 2, 1, 0] rfl)
def wb_X3_mostOvergrown_0 (Q : Int32 → SA → SV → Prop) (A : SA) (V : SV) (x1 : Int32) : Prop := (∃ n7 : Nat, wl_X3_mostOvergrown_7 Q n7 A V x1 (-1 : Int32) (0 : Int32) (0 : Int32))
set_option maxHeartbeats 4000000 in
set_option maxRecDepth 100000 in
theorem wk_X3_mostOvergrown_0 (Q : Int32 → SA → SV → Prop) (cx : CX RX3 cX3_mostOvergrown 5 wsX3_mostOvergrown D [(cI, .int), (cZ, .boolean)] p s m args c A0) (hret : ∀ (pc : Nat) (ls : Array Slot) (r : Int32) (u : SA × SV) (H : Heap) (locs : List Loc), narrow .int (.int r) = .int r → decode cX3_mostOvergrown pc = .ok (.ireturn, 1) → Q r u.1 u.2 → WS D s A0 (wO ad cI cZ u.1 u.2) H locs → W p l e rmX3_mostOvergrown s m args below meth c H locs rmX3_mostOvergrown.cells rmX3_mostOvergrown.slots Z (F0 m pc ls [.int r]))  : ∀ (A : SA) (V : SV) (x1 : Int32) (h : wb_X3_mostOvergrown_0 Q A V x1) (H : Heap) (locs : List Loc) (ls : Array Slot) (hw : WS D s A0 (wO ad cI cZ A V) H locs) (hl : lv_has ls 5 [(0, .ref (ad 0)), (1, .int x1)]), W p l e rmX3_mostOvergrown s m args below meth c H locs 0 0 Z (F0 m 0 ls []) := by
  obtain ⟨hx, hb, hml, hown, hts, hK, hA⟩ := id cx
  intro A V x1 h H locs ls hw hl
  refine lv_iconst (pc := 0) (v := (-1 : Int32)) hx hb dX3_mostOvergrown_0 (by decide) ?_
  refine lv_istore_n (pc := 1) (lv' := [(2, .int (-1 : Int32)), (0, .ref (ad 0)), (1, .int x1)]) hx hb dX3_mostOvergrown_1 rfl hl (by decide) rfl (fun ls hl => ?_)
  refine lv_iconst (pc := 2) (v := (0 : Int32)) hx hb dX3_mostOvergrown_2 (by decide) ?_
  refine lv_istore_n (pc := 3) (lv' := [(3, .int (0 : Int32)), (2, .int (-1 : Int32)), (0, .ref (ad 0)), (1, .int x1)]) hx hb dX3_mostOvergrown_3 rfl hl (by decide) rfl (fun ls hl => ?_)
  refine lv_iconst (pc := 4) (v := (0 : Int32)) hx hb dX3_mostOvergrown_4 (by decide) ?_
  refine lv_istore (pc := 5) (lv' := [(4, .int (0 : Int32)), (3, .int (0 : Int32)), (2, .int (-1 : Int32)), (0, .ref (ad 0)), (1, .int x1)]) hx hb dX3_mostOvergrown_5 hl (by decide) rfl (fun ls hl => ?_)
  obtain ⟨n7, h⟩ := h
  exact wk_X3_mostOvergrown_7 Q cx hret  n7 A V x1 (-1 : Int32) (0 : Int32) (0 : Int32) h _ _ _ hw (lv_sub hl [3, 4, 2, 1, 0] rfl)
def wpX3_mostOvergrown (A : SA) (V : SV) (x1 : Int32) (Q : Int32 → SA → SV → Prop) : Prop := wb_X3_mostOvergrown_0 Q A V x1
set_option maxHeartbeats 4000000 in
set_option maxRecDepth 100000 in
theorem metX3_mostOvergrown (l : Launch) (D : va_G) (cI cZ : ClassId) (ad : Nat → Nat) (sz : Nat) (A : SA) (V : SV) (x1 : Int32) (Q : Int32 → SA → SV → Prop) (h : wpX3_mostOvergrown A V x1 Q) : Met l yX3_mostOvergrown wsX3_mostOvergrown rmX3_mostOvergrown (PcW D [(cI, .int), (cZ, .boolean)] (wO ad cI cZ A V) sz [.ref (ad 0), .int x1]) (QiW D [(cI, .int), (cZ, .boolean)] (wO ad cI cZ A V) sz (fun u : SA × SV => (wO ad cI cZ u.1 u.2)) (fun r u => Q r u.1 u.2)) rmX3_mostOvergrown.cells rmX3_mostOvergrown.slots (va_A (wO ad cI cZ A V) sz) := by
  refine startI (plainFor_of_name (by decide)) rfl (Nat.le_of_ble_eq_true rfl) ?_
  intro p e s m args below meth c A0 Z cx hw hret ls hl
  exact wk_X3_mostOvergrown_0 Q cx hret A V x1 h _ _ _ hw hl
abbrev rmX3_scrape : Room := { frames := 3, cells := 0, slots := 0, locals := 80 }
theorem inX3_scrape_X2 : ∀ w ∈ wsX20, w ∈ wsX3_scrape := by decide +kernel
theorem inX3_scrape_X3 : ∀ w ∈ wsX30, w ∈ wsX3_scrape := by decide +kernel
theorem kX3_scrape_117 : Cond.fieldLink RX3 117 "DrownedPost$Letters" "growth" "[I" ∈ wsX3_scrape := by decide +kernel
theorem kX3_scrape_164 : Cond.methodLink RX3 164 Lib.Math.max.name ∈ wsX3_scrape := by decide +kernel
theorem kX3_scrape_35 : Cond.fieldLink RX3 35 "DrownedPost$Office" "letters" "LDrownedPost$Letters;" ∈ wsX3_scrape := by decide +kernel
theorem kX3_scrape_39 : Cond.fieldLink RX3 39 "DrownedPost$Office" "scrapers" "I" ∈ wsX3_scrape := by decide +kernel
theorem kX3_scrape_50 : Cond.fieldLink RX3 50 "DrownedPost$Office" "scraped" "[Z" ∈ wsX3_scrape := by decide +kernel
theorem kX3_scrape_84 : Cond.fieldLink RX3 84 "DrownedPost$Letters" "count" "I" ∈ wsX3_scrape := by decide +kernel
theorem kX3_scrape_w_code_Lib_Math_max_name_Lib_Math_max_code_2__some__int_ : Cond.code Lib.Math.max.name Lib.Math.max.code 2 (some .int) ∈ wsX3_scrape := by decide +kernel
theorem kX3_scrape_w_initialized__java_lang_Math_ : Cond.initialized "java/lang/Math" ∈ wsX3_scrape := by decide +kernel
theorem kX3_scrape_w_static_Lib_Math_max_name : Cond.static Lib.Math.max.name ∈ wsX3_scrape := by decide +kernel
def wl_X3_scrape_28 (Q : SA → SV → Prop) : Nat → SA → SV → Int32 → Int32 → Prop
  | 0, _, _, _, _ => False
  | n + 1, A, V, x1, x2 => (((V 5) ≤ x2 → Q A V) ∧ (¬ ((V 5) ≤ x2) → (wpX3_mostOvergrown A V x1 (fun r4 A_7 V_8 => (wpX2_has A_7 V_8 r4 (fun r9 A_12 V_13 => ((¬ r9 = 0 → (vp_in r4 150 ∧ (vp_in r4 150 ∧ (∀ A_15 : SA, A_15 = up A_12 13 r4.toNatClampNeg (if (0 : Int32) < (A_12 13 r4.toNatClampNeg) - (2 : Int32) then (A_12 13 r4.toNatClampNeg) - (2 : Int32) else (0 : Int32)) → (vp_in r4 150 ∧ (∀ A_16 : SA, A_16 = up A_15 19 r4.toNatClampNeg (vp_nar .boolean (1 : Int32)) → wl_X3_scrape_28 Q n A_16 V_13 x1 (x2 + 1))))))) ∧ (r9 = 0 → Q A_12 V_13))))))))
set_option maxHeartbeats 4000000 in
set_option maxRecDepth 100000 in
theorem wk_X3_scrape_28 (Q : SA → SV → Prop) (cx : CX RX3 cX3_scrape 4 wsX3_scrape D [(cI, .int), (cZ, .boolean)] p s m args c A0) (hret : ∀ (pc : Nat) (ls : Array Slot) (u : SA × SV) (H : Heap) (locs : List Loc), decode cX3_scrape pc = .ok (.return_, 1) → Q u.1 u.2 → WS D s A0 (wO ad cI cZ u.1 u.2) H locs → W p l e rmX3_scrape s m args below meth c H locs rmX3_scrape.cells rmX3_scrape.slots Z (F0 m pc ls []))  : ∀ (n : Nat) (A : SA) (V : SV) (x1 : Int32) (x2 : Int32) (h : wl_X3_scrape_28 Q n A V x1 x2) (H : Heap) (locs : List Loc) (ls : Array Slot) (hw : WS D s A0 (wO ad cI cZ A V) H locs) (hl : lv_has ls 4 [(0, .ref (ad 0)), (1, .int x1), (2, .int x2)]), W p l e rmX3_scrape s m args below meth c H locs 0 0 Z (F0 m 28 ls []) := by
  obtain ⟨hx, hb, hml, hown, hts, hK, hA⟩ := id cx
  intro n
  induction n with
  | zero => intro A V x1 x2 h; exact False.elim h
  | succ n ih =>
    intro A V x1 x2 h H locs ls hw hl
    refine lv_iload_n (pc := 28) hx hb dX3_scrape_28 rfl (lv_at hl 2 rfl) ?_
    refine lv_aload_n (pc := 29) hx hb dX3_scrape_29 rfl (lv_at hl 0 rfl) ?_
    refine geO_X3_5 (pc := 30) cx inX3_scrape_X3 kX3_scrape_39 hw dX3_scrape_30 ?_
    refine lv_icmp_ge (pc := 33) (tgt := 91) hx hb dX3_scrape_33 (by decide) (fun c3 => ?_) (fun c3 => ?_)
    · have h := h.1 c3
      exact hret 91 _ (A, V) _ _ dX3_scrape_91 h hw
    · have h := h.2 c3
      refine lv_aload_n (pc := 36) hx hb dX3_scrape_36 rfl (lv_at hl 0 rfl) ?_
      refine lv_iload_n (pc := 37) hx hb dX3_scrape_37 rfl (lv_at hl 1 rfl) ?_
      refine callVi (pc := 38) (rest := []) (c1 := 0) (s1 := 0) cx hw hl (metX3_mostOvergrown l D cI cZ ad H.size A V x1 _ h) (fun hts => cwV 1 hts gX3_scrape_X3_mostOvergrown rfl rfl rfl (by decide +kernel) ⟨Nat.le_of_ble_eq_true rfl, Nat.le_of_ble_eq_true rfl⟩) SUB.rf [0, 1] rfl 0 (ci := 3) rfl rfl rfl (JN.rf) rfl rfl (Nat.le_of_ble_eq_true rfl) ⟨Nat.le_of_ble_eq_true rfl, Nat.le_of_ble_eq_true rfl⟩ rfl rfl dX3_scrape_38 (fun r4 u H locs h hw => ?_)
      obtain ⟨A_7, V_8⟩ := u
      refine lv_istore_n (pc := 41) (lv' := [(3, .int r4), (0, .ref (ad 0)), (1, .int x1), (2, .int x2)]) hx hb dX3_scrape_41 rfl hl (by decide) rfl (fun ls hl => ?_)
      refine lv_aload_n (pc := 42) hx hb dX3_scrape_42 rfl (lv_at hl 1 rfl) ?_
      refine geO_X3_3 (pc := 43) cx inX3_scrape_X3 kX3_scrape_35 hw dX3_scrape_43 ?_
      refine lv_iload_n (pc := 46) hx hb dX3_scrape_46 rfl (lv_at hl 0 rfl) ?_
      refine callVi (pc := 47) (rest := []) (c1 := 0) (s1 := 0) cx hw hl (metX2_has l D cI cZ ad H.size A_7 V_8 r4 _ h) (fun hts => cwV 1 hts gX3_scrape_X2_has rfl rfl rfl (by decide +kernel) ⟨Nat.le_of_ble_eq_true rfl, Nat.le_of_ble_eq_true rfl⟩) SUB.rf [0, 1] rfl 4 (ci := 2) rfl rfl rfl (JN.rf) rfl rfl (Nat.le_of_ble_eq_true rfl) ⟨Nat.le_of_ble_eq_true rfl, Nat.le_of_ble_eq_true rfl⟩ rfl rfl dX3_scrape_47 (fun r9 u H locs h hw => ?_)
      obtain ⟨A_12, V_13⟩ := u
      refine lv_if_ne (pc := 50) (tgt := 54) hx hb dX3_scrape_50 (by decide) (fun c14 => ?_) (fun c14 => ?_)
      · have h := h.1 c14
        refine lv_aload_n (pc := 54) hx hb dX3_scrape_54 rfl (lv_at hl 1 rfl) ?_
        refine geO_X3_3 (pc := 55) cx inX3_scrape_X3 kX3_scrape_35 hw dX3_scrape_55 ?_
        refine geO_X2_4 (pc := 58) cx inX3_scrape_X2 kX3_scrape_117 hw dX3_scrape_58 ?_
        refine lv_iload_n (pc := 61) hx hb dX3_scrape_61 rfl (lv_at hl 0 rfl) ?_
        refine lv_iconst (pc := 62) (v := (0 : Int32)) hx hb dX3_scrape_62 (by decide) ?_
        refine lv_aload_n (pc := 63) hx hb dX3_scrape_63 rfl (lv_at hl 1 rfl) ?_
        refine geO_X3_3 (pc := 64) cx inX3_scrape_X3 kX3_scrape_35 hw dX3_scrape_64 ?_
        refine geO_X2_4 (pc := 67) cx inX3_scrape_X2 kX3_scrape_117 hw dX3_scrape_67 ?_
        refine lv_iload_n (pc := 70) hx hb dX3_scrape_70 rfl (lv_at hl 0 rfl) ?_
        refine alO_13 (pc := 71) cx hw h.1 dX3_scrape_71 ?_
        have h := h.2
        refine lv_iconst (pc := 72) (v := (2 : Int32)) hx hb dX3_scrape_72 (by decide) ?_
        refine lv_isub (pc := 73) hx hb dX3_scrape_73 ?_
        refine va_mmax (pc := 74) hx hb (hml.trans hl.1.symm) hown (hts _ kX3_scrape_164) (hts _ kX3_scrape_w_static_Lib_Math_max_name) (hts _ kX3_scrape_w_initialized__java_lang_Math_) (hts _ kX3_scrape_w_code_Lib_Math_max_name_Lib_Math_max_code_2__some__int_) (Nat.le_of_ble_eq_true rfl) (Nat.le_of_ble_eq_true rfl) (Nat.le_of_ble_eq_true rfl) (Nat.le_of_ble_eq_true rfl) dX3_scrape_74 ?_
        refine asO_13 (pc := 77) cx hw h.1 dX3_scrape_77 (fun A_15 eA_15 H locs hw => ?_)
        have h := h.2 A_15 eA_15
        refine lv_aload_n (pc := 78) hx hb dX3_scrape_78 rfl (lv_at hl 1 rfl) ?_
        refine geO_X3_9 (pc := 79) cx inX3_scrape_X3 kX3_scrape_50 hw dX3_scrape_79 ?_
        refine lv_iload_n (pc := 82) hx hb dX3_scrape_82 rfl (lv_at hl 0 rfl) ?_
        refine lv_iconst (pc := 83) (v := (1 : Int32)) hx hb dX3_scrape_83 (by decide) ?_
        refine asO_19 (pc := 84) cx hw h.1 dX3_scrape_84 (fun A_16 eA_16 H locs hw => ?_)
        have h := h.2 A_16 eA_16
        refine lv_iinc (pc := 85) (v := x2 + 1) (lv' := [(2, .int (x2 + 1)), (3, .int r4), (0, .ref (ad 0)), (1, .int x1)]) hx hb dX3_scrape_85 hl (k := 3) rfl rfl (by decide) rfl (fun ls hl => ?_)
        refine lv_goto (pc := 88) (tgt := 28) hx hb dX3_scrape_88 (by decide) ?_
        exact ih A_16 V_13 x1 (x2 + 1) h _ _ _ hw (lv_sub hl [2, 3, 0] rfl)
      · have h := h.2 c14
        exact hret 53 _ (A_12, V_13) _ _ dX3_scrape_53 h hw
def wl_X3_scrape_2 (Q : SA → SV → Prop) : Nat → SA → SV → Int32 → Int32 → Prop
  | 0, _, _, _, _ => False
  | n + 1, A, V, x1, x2 => (((V 3) ≤ x2 → (∃ n28 : Nat, wl_X3_scrape_28 Q n28 A V x1 (0 : Int32))) ∧ (¬ ((V 3) ≤ x2) → (vp_in x2 150 ∧ (∀ A_2 : SA, A_2 = up A 19 x2.toNatClampNeg (vp_nar .boolean (0 : Int32)) → wl_X3_scrape_2 Q n A_2 V x1 (x2 + 1)))))
set_option maxHeartbeats 4000000 in
set_option maxRecDepth 100000 in
theorem wk_X3_scrape_2 (Q : SA → SV → Prop) (cx : CX RX3 cX3_scrape 4 wsX3_scrape D [(cI, .int), (cZ, .boolean)] p s m args c A0) (hret : ∀ (pc : Nat) (ls : Array Slot) (u : SA × SV) (H : Heap) (locs : List Loc), decode cX3_scrape pc = .ok (.return_, 1) → Q u.1 u.2 → WS D s A0 (wO ad cI cZ u.1 u.2) H locs → W p l e rmX3_scrape s m args below meth c H locs rmX3_scrape.cells rmX3_scrape.slots Z (F0 m pc ls []))  : ∀ (n : Nat) (A : SA) (V : SV) (x1 : Int32) (x2 : Int32) (h : wl_X3_scrape_2 Q n A V x1 x2) (H : Heap) (locs : List Loc) (ls : Array Slot) (hw : WS D s A0 (wO ad cI cZ A V) H locs) (hl : lv_has ls 4 [(0, .ref (ad 0)), (1, .int x1), (2, .int x2)]), W p l e rmX3_scrape s m args below meth c H locs 0 0 Z (F0 m 2 ls []) := by
  obtain ⟨hx, hb, hml, hown, hts, hK, hA⟩ := id cx
  intro n
  induction n with
  | zero => intro A V x1 x2 h; exact False.elim h
  | succ n ih =>
    intro A V x1 x2 h H locs ls hw hl
    refine lv_iload_n (pc := 2) hx hb dX3_scrape_2 rfl (lv_at hl 2 rfl) ?_
    refine lv_aload_n (pc := 3) hx hb dX3_scrape_3 rfl (lv_at hl 0 rfl) ?_
    refine geO_X3_3 (pc := 4) cx inX3_scrape_X3 kX3_scrape_35 hw dX3_scrape_4 ?_
    refine geO_X2_9 (pc := 7) cx inX3_scrape_X2 kX3_scrape_84 hw dX3_scrape_7 ?_
    refine lv_icmp_ge (pc := 10) (tgt := 26) hx hb dX3_scrape_10 (by decide) (fun c1 => ?_) (fun c1 => ?_)
    · have h := h.1 c1
      refine lv_iconst (pc := 26) (v := (0 : Int32)) hx hb dX3_scrape_26 (by decide) ?_
      refine lv_istore_n (pc := 27) (lv' := [(2, .int (0 : Int32)), (0, .ref (ad 0)), (1, .int x1)]) hx hb dX3_scrape_27 rfl hl (by decide) rfl (fun ls hl => ?_)
      obtain ⟨n28, h⟩ := h
      exact wk_X3_scrape_28 Q cx hret  n28 A V x1 (0 : Int32) h _ _ _ hw (lv_sub hl [1, 2, 0] rfl)
    · have h := h.2 c1
      refine lv_aload_n (pc := 13) hx hb dX3_scrape_13 rfl (lv_at hl 0 rfl) ?_
      refine geO_X3_9 (pc := 14) cx inX3_scrape_X3 kX3_scrape_50 hw dX3_scrape_14 ?_
      refine lv_iload_n (pc := 17) hx hb dX3_scrape_17 rfl (lv_at hl 2 rfl) ?_
      refine lv_iconst (pc := 18) (v := (0 : Int32)) hx hb dX3_scrape_18 (by decide) ?_
      refine asO_19 (pc := 19) cx hw h.1 dX3_scrape_19 (fun A_2 eA_2 H locs hw => ?_)
      have h := h.2 A_2 eA_2
      refine lv_iinc (pc := 20) (v := x2 + 1) (lv' := [(2, .int (x2 + 1)), (0, .ref (ad 0)), (1, .int x1)]) hx hb dX3_scrape_20 hl (k := 2) rfl rfl (by decide) rfl (fun ls hl => ?_)
      refine lv_goto (pc := 23) (tgt := 2) hx hb dX3_scrape_23 (by decide) ?_
      exact ih A_2 V x1 (x2 + 1) h _ _ _ hw (lv_sub hl [1, 2, 0] rfl)
def wb_X3_scrape_0 (Q : SA → SV → Prop) (A : SA) (V : SV) (x1 : Int32) : Prop := (∃ n2 : Nat, wl_X3_scrape_2 Q n2 A V x1 (0 : Int32))
set_option maxHeartbeats 4000000 in
set_option maxRecDepth 100000 in
theorem wk_X3_scrape_0 (Q : SA → SV → Prop) (cx : CX RX3 cX3_scrape 4 wsX3_scrape D [(cI, .int), (cZ, .boolean)] p s m args c A0) (hret : ∀ (pc : Nat) (ls : Array Slot) (u : SA × SV) (H : Heap) (locs : List Loc), decode cX3_scrape pc = .ok (.return_, 1) → Q u.1 u.2 → WS D s A0 (wO ad cI cZ u.1 u.2) H locs → W p l e rmX3_scrape s m args below meth c H locs rmX3_scrape.cells rmX3_scrape.slots Z (F0 m pc ls []))  : ∀ (A : SA) (V : SV) (x1 : Int32) (h : wb_X3_scrape_0 Q A V x1) (H : Heap) (locs : List Loc) (ls : Array Slot) (hw : WS D s A0 (wO ad cI cZ A V) H locs) (hl : lv_has ls 4 [(0, .ref (ad 0)), (1, .int x1)]), W p l e rmX3_scrape s m args below meth c H locs 0 0 Z (F0 m 0 ls []) := by
  obtain ⟨hx, hb, hml, hown, hts, hK, hA⟩ := id cx
  intro A V x1 h H locs ls hw hl
  refine lv_iconst (pc := 0) (v := (0 : Int32)) hx hb dX3_scrape_0 (by decide) ?_
  refine lv_istore_n (pc := 1) (lv' := [(2, .int (0 : Int32)), (0, .ref (ad 0)), (1, .int x1)]) hx hb dX3_scrape_1 rfl hl (by decide) rfl (fun ls hl => ?_)
  obtain ⟨n2, h⟩ := h
  exact wk_X3_scrape_2 Q cx hret  n2 A V x1 (0 : Int32) h _ _ _ hw (lv_sub hl [1, 2, 0] rfl)
def wpX3_scrape (A : SA) (V : SV) (x1 : Int32) (Q : SA → SV → Prop) : Prop := wb_X3_scrape_0 Q A V x1
set_option maxHeartbeats 4000000 in
set_option maxRecDepth 100000 in
theorem metX3_scrape (l : Launch) (D : va_G) (cI cZ : ClassId) (ad : Nat → Nat) (sz : Nat) (A : SA) (V : SV) (x1 : Int32) (Q : SA → SV → Prop) (h : wpX3_scrape A V x1 Q) : Met l yX3_scrape wsX3_scrape rmX3_scrape (PcW D [(cI, .int), (cZ, .boolean)] (wO ad cI cZ A V) sz [.ref (ad 0), .int x1]) (QvW D [(cI, .int), (cZ, .boolean)] (wO ad cI cZ A V) sz (fun u : SA × SV => (wO ad cI cZ u.1 u.2)) (fun u => Q u.1 u.2)) rmX3_scrape.cells rmX3_scrape.slots (va_A (wO ad cI cZ A V) sz) := by
  refine startV (plainFor_of_name (by decide)) rfl (Nat.le_of_ble_eq_true rfl) ?_
  intro p e s m args below meth c A0 Z cx hw hret ls hl
  exact wk_X3_scrape_0 Q cx hret A V x1 h _ _ _ hw hl
abbrev rmX3_sort : Room := { frames := 3, cells := 0, slots := 0, locals := 128 }
theorem inX3_sort_X0 : ∀ w ∈ wsX00, w ∈ wsX3_sort := by decide +kernel
theorem inX3_sort_X2 : ∀ w ∈ wsX20, w ∈ wsX3_sort := by decide +kernel
theorem inX3_sort_X3 : ∀ w ∈ wsX30, w ∈ wsX3_sort := by decide +kernel
theorem kX3_sort_104 : Cond.fieldLink RX3 104 "DrownedPost$Letters" "state" "[I" ∈ wsX3_sort := by decide +kernel
theorem kX3_sort_110 : Cond.fieldLink RX3 110 "DrownedPost$Letters" "bin" "[I" ∈ wsX3_sort := by decide +kernel
theorem kX3_sort_123 : Cond.fieldLink RX3 123 "DrownedPost$Letters" "to" "[I" ∈ wsX3_sort := by decide +kernel
theorem kX3_sort_143 : Cond.fieldLink RX3 143 "DrownedPost$Bins" "filled" "[I" ∈ wsX3_sort := by decide +kernel
theorem kX3_sort_21 : Cond.fieldLink RX3 21 "DrownedPost$Office" "bins" "LDrownedPost$Bins;" ∈ wsX3_sort := by decide +kernel
theorem kX3_sort_28 : Cond.fieldLink RX3 28 "DrownedPost$Office" "drowned" "LDrownedPost$Drowned;" ∈ wsX3_sort := by decide +kernel
theorem kX3_sort_35 : Cond.fieldLink RX3 35 "DrownedPost$Office" "letters" "LDrownedPost$Letters;" ∈ wsX3_sort := by decide +kernel
theorem kX3_sort_43 : Cond.fieldLink RX3 43 "DrownedPost$Office" "sorters" "I" ∈ wsX3_sort := by decide +kernel
def wl_X3_sort_2 (Q : SA → SV → Prop) : Nat → SA → SV → Int32 → Prop
  | 0, _, _, _ => False
  | n + 1, A, V, x1 => (((V 6) ≤ x1 → Q A V) ∧ (¬ ((V 6) ≤ x1) → (wpX2_heaviestInOffice A V (fun r2 A_5 V_6 => (wpX2_has A_5 V_6 r2 (fun r7 A_10 V_11 => ((¬ r7 = 0 → (vp_in r2 150 ∧ (wpX1_heightOf A_10 V_11 (A_10 9 r2.toNatClampNeg) (fun r13 A_16 V_17 => (wpX0_nearestWithRoom A_16 V_17 r13 (fun r18 A_21 V_22 => (wpX0_has A_21 V_22 r18 (fun r23 A_26 V_27 => ((¬ r23 = 0 → (vp_in r2 150 ∧ (∀ A_29 : SA, A_29 = up A_26 12 r2.toNatClampNeg (1 : Int32) → (vp_in r2 150 ∧ (∀ A_30 : SA, A_30 = up A_29 14 r2.toNatClampNeg r18 → (vp_in r18 10 ∧ (vp_in r18 10 ∧ (∀ A_31 : SA, A_31 = up A_30 3 r18.toNatClampNeg ((A_30 3 r18.toNatClampNeg) + (1 : Int32)) → wl_X3_sort_2 Q n A_31 V_27 (x1 + 1))))))))) ∧ (r23 = 0 → Q A_26 V_27)))))))))) ∧ (r7 = 0 → Q A_10 V_11))))))))
set_option maxHeartbeats 4000000 in
set_option maxRecDepth 100000 in
theorem wk_X3_sort_2 (Q : SA → SV → Prop) (cx : CX RX3 cX3_sort 4 wsX3_sort D [(cI, .int), (cZ, .boolean)] p s m args c A0) (hret : ∀ (pc : Nat) (ls : Array Slot) (u : SA × SV) (H : Heap) (locs : List Loc), decode cX3_sort pc = .ok (.return_, 1) → Q u.1 u.2 → WS D s A0 (wO ad cI cZ u.1 u.2) H locs → W p l e rmX3_sort s m args below meth c H locs rmX3_sort.cells rmX3_sort.slots Z (F0 m pc ls []))  : ∀ (n : Nat) (A : SA) (V : SV) (x1 : Int32) (h : wl_X3_sort_2 Q n A V x1) (H : Heap) (locs : List Loc) (ls : Array Slot) (hw : WS D s A0 (wO ad cI cZ A V) H locs) (hl : lv_has ls 4 [(0, .ref (ad 0)), (1, .int x1)]), W p l e rmX3_sort s m args below meth c H locs 0 0 Z (F0 m 2 ls []) := by
  obtain ⟨hx, hb, hml, hown, hts, hK, hA⟩ := id cx
  intro n
  induction n with
  | zero => intro A V x1 h; exact False.elim h
  | succ n ih =>
    intro A V x1 h H locs ls hw hl
    refine lv_iload_n (pc := 2) hx hb dX3_sort_2 rfl (lv_at hl 1 rfl) ?_
    refine lv_aload_n (pc := 3) hx hb dX3_sort_3 rfl (lv_at hl 0 rfl) ?_
    refine geO_X3_6 (pc := 4) cx inX3_sort_X3 kX3_sort_43 hw dX3_sort_4 ?_
    refine lv_icmp_ge (pc := 7) (tgt := 105) hx hb dX3_sort_7 (by decide) (fun c1 => ?_) (fun c1 => ?_)
    · have h := h.1 c1
      exact hret 105 _ (A, V) _ _ dX3_sort_105 h hw
    · have h := h.2 c1
      refine lv_aload_n (pc := 10) hx hb dX3_sort_10 rfl (lv_at hl 0 rfl) ?_
      refine geO_X3_3 (pc := 11) cx inX3_sort_X3 kX3_sort_35 hw dX3_sort_11 ?_
      refine callVi (pc := 14) (rest := []) (c1 := 0) (s1 := 0) cx hw hl (metX2_heaviestInOffice l D cI cZ ad H.size A V _ h) (fun hts => cwV 0 hts gX3_sort_X2_heaviestInOffice rfl rfl rfl (by decide +kernel) ⟨Nat.le_of_ble_eq_true rfl, Nat.le_of_ble_eq_true rfl⟩) SUB.rf [0, 1] rfl 4 (ci := 2) rfl rfl rfl (JN.rf) rfl rfl (Nat.le_of_ble_eq_true rfl) ⟨Nat.le_of_ble_eq_true rfl, Nat.le_of_ble_eq_true rfl⟩ rfl rfl dX3_sort_14 (fun r2 u H locs h hw => ?_)
      obtain ⟨A_5, V_6⟩ := u
      refine lv_istore_n (pc := 17) (lv' := [(2, .int r2), (0, .ref (ad 0)), (1, .int x1)]) hx hb dX3_sort_17 rfl hl (by decide) rfl (fun ls hl => ?_)
      refine lv_aload_n (pc := 18) hx hb dX3_sort_18 rfl (lv_at hl 1 rfl) ?_
      refine geO_X3_3 (pc := 19) cx inX3_sort_X3 kX3_sort_35 hw dX3_sort_19 ?_
      refine lv_iload_n (pc := 22) hx hb dX3_sort_22 rfl (lv_at hl 0 rfl) ?_
      refine callVi (pc := 23) (rest := []) (c1 := 0) (s1 := 0) cx hw hl (metX2_has l D cI cZ ad H.size A_5 V_6 r2 _ h) (fun hts => cwV 1 hts gX3_sort_X2_has rfl rfl rfl (by decide +kernel) ⟨Nat.le_of_ble_eq_true rfl, Nat.le_of_ble_eq_true rfl⟩) SUB.rf [0, 1] rfl 4 (ci := 2) rfl rfl rfl (JN.rf) rfl rfl (Nat.le_of_ble_eq_true rfl) ⟨Nat.le_of_ble_eq_true rfl, Nat.le_of_ble_eq_true rfl⟩ rfl rfl dX3_sort_23 (fun r7 u H locs h hw => ?_)
      obtain ⟨A_10, V_11⟩ := u
      refine lv_if_ne (pc := 26) (tgt := 30) hx hb dX3_sort_26 (by decide) (fun c12 => ?_) (fun c12 => ?_)
      · have h := h.1 c12
        refine lv_aload_n (pc := 30) hx hb dX3_sort_30 rfl (lv_at hl 1 rfl) ?_
        refine geO_X3_1 (pc := 31) cx inX3_sort_X3 kX3_sort_21 hw dX3_sort_31 ?_
        refine lv_aload_n (pc := 34) hx hb dX3_sort_34 rfl (lv_at hl 1 rfl) ?_
        refine geO_X3_2 (pc := 35) cx inX3_sort_X3 kX3_sort_28 hw dX3_sort_35 ?_
        refine lv_aload_n (pc := 38) hx hb dX3_sort_38 rfl (lv_at hl 1 rfl) ?_
        refine geO_X3_3 (pc := 39) cx inX3_sort_X3 kX3_sort_35 hw dX3_sort_39 ?_
        refine geO_X2_0 (pc := 42) cx inX3_sort_X2 kX3_sort_123 hw dX3_sort_42 ?_
        refine lv_iload_n (pc := 45) hx hb dX3_sort_45 rfl (lv_at hl 0 rfl) ?_
        refine alO_9 (pc := 46) cx hw h.1 dX3_sort_46 ?_
        have h := h.2
        refine callVi (pc := 47) (rest := [.ref (ad 2)]) (c1 := 0) (s1 := 0) cx hw hl (metX1_heightOf l D cI cZ ad H.size A_10 V_11 (A_10 9 r2.toNatClampNeg) _ h) (fun hts => cwV 1 hts gX3_sort_X1_heightOf rfl rfl rfl (by decide +kernel) ⟨Nat.le_of_ble_eq_true rfl, Nat.le_of_ble_eq_true rfl⟩) SUB.rf [0, 1] rfl 3 (ci := 1) rfl rfl rfl (JN.rf) rfl rfl (Nat.le_of_ble_eq_true rfl) ⟨Nat.le_of_ble_eq_true rfl, Nat.le_of_ble_eq_true rfl⟩ rfl rfl dX3_sort_47 (fun r13 u H locs h hw => ?_)
        obtain ⟨A_16, V_17⟩ := u
        refine callVi (pc := 50) (rest := []) (c1 := 0) (s1 := 0) cx hw hl (metX0_nearestWithRoom l D cI cZ ad H.size A_16 V_17 r13 _ h) (fun hts => cwV 1 hts gX3_sort_X0_nearestWithRoom rfl rfl rfl (by decide +kernel) ⟨Nat.le_of_ble_eq_true rfl, Nat.le_of_ble_eq_true rfl⟩) SUB.rf [0, 1] rfl 2 (ci := 0) rfl rfl rfl (JN.rf) rfl rfl (Nat.le_of_ble_eq_true rfl) ⟨Nat.le_of_ble_eq_true rfl, Nat.le_of_ble_eq_true rfl⟩ rfl rfl dX3_sort_50 (fun r18 u H locs h hw => ?_)
        obtain ⟨A_21, V_22⟩ := u
        refine lv_istore_n (pc := 53) (lv' := [(3, .int r18), (2, .int r2), (0, .ref (ad 0)), (1, .int x1)]) hx hb dX3_sort_53 rfl hl (by decide) rfl (fun ls hl => ?_)
        refine lv_aload_n (pc := 54) hx hb dX3_sort_54 rfl (lv_at hl 2 rfl) ?_
        refine geO_X3_1 (pc := 55) cx inX3_sort_X3 kX3_sort_21 hw dX3_sort_55 ?_
        refine lv_iload_n (pc := 58) hx hb dX3_sort_58 rfl (lv_at hl 0 rfl) ?_
        refine callVi (pc := 59) (rest := []) (c1 := 0) (s1 := 0) cx hw hl (metX0_has l D cI cZ ad H.size A_21 V_22 r18 _ h) (fun hts => cwV 1 hts gX3_sort_X0_has rfl rfl rfl (by decide +kernel) ⟨Nat.le_of_ble_eq_true rfl, Nat.le_of_ble_eq_true rfl⟩) SUB.rf [0, 1] rfl 2 (ci := 0) rfl rfl rfl (JN.rf) rfl rfl (Nat.le_of_ble_eq_true rfl) ⟨Nat.le_of_ble_eq_true rfl, Nat.le_of_ble_eq_true rfl⟩ rfl rfl dX3_sort_59 (fun r23 u H locs h hw => ?_)
        obtain ⟨A_26, V_27⟩ := u
        refine lv_if_ne (pc := 62) (tgt := 66) hx hb dX3_sort_62 (by decide) (fun c28 => ?_) (fun c28 => ?_)
        · have h := h.1 c28
          refine lv_aload_n (pc := 66) hx hb dX3_sort_66 rfl (lv_at hl 2 rfl) ?_
          refine geO_X3_3 (pc := 67) cx inX3_sort_X3 kX3_sort_35 hw dX3_sort_67 ?_
          refine geO_X2_3 (pc := 70) cx inX3_sort_X2 kX3_sort_104 hw dX3_sort_70 ?_
          refine lv_iload_n (pc := 73) hx hb dX3_sort_73 rfl (lv_at hl 1 rfl) ?_
          refine lv_iconst (pc := 74) (v := (1 : Int32)) hx hb dX3_sort_74 (by decide) ?_
          refine asO_12 (pc := 75) cx hw h.1 dX3_sort_75 (fun A_29 eA_29 H locs hw => ?_)
          have h := h.2 A_29 eA_29
          refine lv_aload_n (pc := 76) hx hb dX3_sort_76 rfl (lv_at hl 2 rfl) ?_
          refine geO_X3_3 (pc := 77) cx inX3_sort_X3 kX3_sort_35 hw dX3_sort_77 ?_
          refine geO_X2_5 (pc := 80) cx inX3_sort_X2 kX3_sort_110 hw dX3_sort_80 ?_
          refine lv_iload_n (pc := 83) hx hb dX3_sort_83 rfl (lv_at hl 1 rfl) ?_
          refine lv_iload_n (pc := 84) hx hb dX3_sort_84 rfl (lv_at hl 0 rfl) ?_
          refine asO_14 (pc := 85) cx hw h.1 dX3_sort_85 (fun A_30 eA_30 H locs hw => ?_)
          have h := h.2 A_30 eA_30
          refine lv_aload_n (pc := 86) hx hb dX3_sort_86 rfl (lv_at hl 2 rfl) ?_
          refine geO_X3_1 (pc := 87) cx inX3_sort_X3 kX3_sort_21 hw dX3_sort_87 ?_
          refine geO_X0_2 (pc := 90) cx inX3_sort_X0 kX3_sort_143 hw dX3_sort_90 ?_
          refine lv_iload_n (pc := 93) hx hb dX3_sort_93 rfl (lv_at hl 0 rfl) ?_
          refine lv_dup2_11 (pc := 94) hx hb dX3_sort_94 rfl rfl ?_
          refine alO_3 (pc := 95) cx hw h.1 dX3_sort_95 ?_
          have h := h.2
          refine lv_iconst (pc := 96) (v := (1 : Int32)) hx hb dX3_sort_96 (by decide) ?_
          refine lv_iadd (pc := 97) hx hb dX3_sort_97 ?_
          refine asO_3 (pc := 98) cx hw h.1 dX3_sort_98 (fun A_31 eA_31 H locs hw => ?_)
          have h := h.2 A_31 eA_31
          refine lv_iinc (pc := 99) (v := x1 + 1) (lv' := [(1, .int (x1 + 1)), (3, .int r18), (2, .int r2), (0, .ref (ad 0))]) hx hb dX3_sort_99 hl (k := 3) rfl rfl (by decide) rfl (fun ls hl => ?_)
          refine lv_goto (pc := 102) (tgt := 2) hx hb dX3_sort_102 (by decide) ?_
          exact ih A_31 V_27 (x1 + 1) h _ _ _ hw (lv_sub hl [3, 0] rfl)
        · have h := h.2 c28
          exact hret 65 _ (A_26, V_27) _ _ dX3_sort_65 h hw
      · have h := h.2 c12
        exact hret 29 _ (A_10, V_11) _ _ dX3_sort_29 h hw
def wb_X3_sort_0 (Q : SA → SV → Prop) (A : SA) (V : SV) : Prop := (∃ n2 : Nat, wl_X3_sort_2 Q n2 A V (0 : Int32))
set_option maxHeartbeats 4000000 in
set_option maxRecDepth 100000 in
theorem wk_X3_sort_0 (Q : SA → SV → Prop) (cx : CX RX3 cX3_sort 4 wsX3_sort D [(cI, .int), (cZ, .boolean)] p s m args c A0) (hret : ∀ (pc : Nat) (ls : Array Slot) (u : SA × SV) (H : Heap) (locs : List Loc), decode cX3_sort pc = .ok (.return_, 1) → Q u.1 u.2 → WS D s A0 (wO ad cI cZ u.1 u.2) H locs → W p l e rmX3_sort s m args below meth c H locs rmX3_sort.cells rmX3_sort.slots Z (F0 m pc ls []))  : ∀ (A : SA) (V : SV) (h : wb_X3_sort_0 Q A V) (H : Heap) (locs : List Loc) (ls : Array Slot) (hw : WS D s A0 (wO ad cI cZ A V) H locs) (hl : lv_has ls 4 [(0, .ref (ad 0))]), W p l e rmX3_sort s m args below meth c H locs 0 0 Z (F0 m 0 ls []) := by
  obtain ⟨hx, hb, hml, hown, hts, hK, hA⟩ := id cx
  intro A V h H locs ls hw hl
  refine lv_iconst (pc := 0) (v := (0 : Int32)) hx hb dX3_sort_0 (by decide) ?_
  refine lv_istore_n (pc := 1) (lv' := [(1, .int (0 : Int32)), (0, .ref (ad 0))]) hx hb dX3_sort_1 rfl hl (by decide) rfl (fun ls hl => ?_)
  obtain ⟨n2, h⟩ := h
  exact wk_X3_sort_2 Q cx hret  n2 A V (0 : Int32) h _ _ _ hw (lv_sub hl [1, 0] rfl)
def wpX3_sort (A : SA) (V : SV)  (Q : SA → SV → Prop) : Prop := wb_X3_sort_0 Q A V
set_option maxHeartbeats 4000000 in
set_option maxRecDepth 100000 in
theorem metX3_sort (l : Launch) (D : va_G) (cI cZ : ClassId) (ad : Nat → Nat) (sz : Nat) (A : SA) (V : SV)  (Q : SA → SV → Prop) (h : wpX3_sort A V  Q) : Met l yX3_sort wsX3_sort rmX3_sort (PcW D [(cI, .int), (cZ, .boolean)] (wO ad cI cZ A V) sz [.ref (ad 0)]) (QvW D [(cI, .int), (cZ, .boolean)] (wO ad cI cZ A V) sz (fun u : SA × SV => (wO ad cI cZ u.1 u.2)) (fun u => Q u.1 u.2)) rmX3_sort.cells rmX3_sort.slots (va_A (wO ad cI cZ A V) sz) := by
  refine startV (plainFor_of_name (by decide)) rfl (Nat.le_of_ble_eq_true rfl) ?_
  intro p e s m args below meth c A0 Z cx hw hret ls hl
  exact wk_X3_sort_0 Q cx hret A V h _ _ _ hw hl
abbrev rmX3_liveOneHour : Room := { frames := 4, cells := 0, slots := 0, locals := 151 }
theorem inX3_liveOneHour_X2 : ∀ w ∈ wsX20, w ∈ wsX3_liveOneHour := by decide +kernel
theorem inX3_liveOneHour_X3 : ∀ w ∈ wsX30, w ∈ wsX3_liveOneHour := by decide +kernel
theorem kX3_liveOneHour_35 : Cond.fieldLink RX3 35 "DrownedPost$Office" "letters" "LDrownedPost$Letters;" ∈ wsX3_liveOneHour := by decide +kernel
theorem kX3_liveOneHour_67 : Cond.fieldLink RX3 67 "DrownedPost$Office" "hour" "I" ∈ wsX3_liveOneHour := by decide +kernel
theorem kX3_liveOneHour_84 : Cond.fieldLink RX3 84 "DrownedPost$Letters" "count" "I" ∈ wsX3_liveOneHour := by decide +kernel
def wb_X3_liveOneHour_0 (Q : SA → SV → Prop) (A : SA) (V : SV) : Prop := (wpX3_tideNow A V (fun r1 A_4 V_5 => (wpX3_water A_4 V_5 r1 (fun A_9 V_10 => (wpX3_writeAnswers A_9 V_10 (fun A_14 V_15 => (wpX3_bringAnswersNearer A_14 V_15 (V_5 3) r1 (fun A_19 V_20 => (wpX3_scrape A_19 V_20 r1 (fun A_24 V_25 => (wpX3_sort A_24 V_25 (fun A_29 V_30 => (∀ V_31 : SV, V_31 = uv V_30 4 ((V_30 4) + (1 : Int32)) → Q A_29 V_31)))))))))))))
set_option maxHeartbeats 4000000 in
set_option maxRecDepth 100000 in
theorem wk_X3_liveOneHour_0 (Q : SA → SV → Prop) (cx : CX RX3 cX3_liveOneHour 3 wsX3_liveOneHour D [(cI, .int), (cZ, .boolean)] p s m args c A0) (hret : ∀ (pc : Nat) (ls : Array Slot) (u : SA × SV) (H : Heap) (locs : List Loc), decode cX3_liveOneHour pc = .ok (.return_, 1) → Q u.1 u.2 → WS D s A0 (wO ad cI cZ u.1 u.2) H locs → W p l e rmX3_liveOneHour s m args below meth c H locs rmX3_liveOneHour.cells rmX3_liveOneHour.slots Z (F0 m pc ls []))  : ∀ (A : SA) (V : SV) (h : wb_X3_liveOneHour_0 Q A V) (H : Heap) (locs : List Loc) (ls : Array Slot) (hw : WS D s A0 (wO ad cI cZ A V) H locs) (hl : lv_has ls 3 [(0, .ref (ad 0))]), W p l e rmX3_liveOneHour s m args below meth c H locs 0 0 Z (F0 m 0 ls []) := by
  obtain ⟨hx, hb, hml, hown, hts, hK, hA⟩ := id cx
  intro A V h H locs ls hw hl
  refine lv_aload_n (pc := 0) hx hb dX3_liveOneHour_0 rfl (lv_at hl 0 rfl) ?_
  refine callVi (pc := 1) (rest := []) (c1 := 0) (s1 := 0) cx hw hl (metX3_tideNow l D cI cZ ad H.size A V _ h) (fun hts => cwV 0 hts gX3_liveOneHour_X3_tideNow rfl rfl rfl (by decide +kernel) ⟨Nat.le_of_ble_eq_true rfl, Nat.le_of_ble_eq_true rfl⟩) SUB.rf [0, 1] rfl 0 (ci := 3) rfl rfl rfl (JN.rf) rfl rfl (Nat.le_of_ble_eq_true rfl) ⟨Nat.le_of_ble_eq_true rfl, Nat.le_of_ble_eq_true rfl⟩ rfl rfl dX3_liveOneHour_1 (fun r1 u H locs h hw => ?_)
  obtain ⟨A_4, V_5⟩ := u
  refine lv_istore_n (pc := 4) (lv' := [(1, .int r1), (0, .ref (ad 0))]) hx hb dX3_liveOneHour_4 rfl hl (by decide) rfl (fun ls hl => ?_)
  refine lv_aload_n (pc := 5) hx hb dX3_liveOneHour_5 rfl (lv_at hl 1 rfl) ?_
  refine geO_X3_3 (pc := 6) cx inX3_liveOneHour_X3 kX3_liveOneHour_35 hw dX3_liveOneHour_6 ?_
  refine geO_X2_9 (pc := 9) cx inX3_liveOneHour_X2 kX3_liveOneHour_84 hw dX3_liveOneHour_9 ?_
  refine lv_istore_n (pc := 12) (lv' := [(2, .int (V_5 3)), (1, .int r1), (0, .ref (ad 0))]) hx hb dX3_liveOneHour_12 rfl hl (by decide) rfl (fun ls hl => ?_)
  refine lv_aload_n (pc := 13) hx hb dX3_liveOneHour_13 rfl (lv_at hl 2 rfl) ?_
  refine lv_iload_n (pc := 14) hx hb dX3_liveOneHour_14 rfl (lv_at hl 1 rfl) ?_
  refine callVv (pc := 15) (rest := []) (c1 := 0) (s1 := 0) cx hw hl (metX3_water l D cI cZ ad H.size A_4 V_5 r1 _ h) (fun hts => cwV 1 hts gX3_liveOneHour_X3_water rfl rfl rfl (by decide +kernel) ⟨Nat.le_of_ble_eq_true rfl, Nat.le_of_ble_eq_true rfl⟩) SUB.rf [0, 1] rfl 0 (ci := 3) rfl rfl rfl (JN.rf) rfl rfl (Nat.le_of_ble_eq_true rfl) ⟨Nat.le_of_ble_eq_true rfl, Nat.le_of_ble_eq_true rfl⟩ rfl rfl dX3_liveOneHour_15 (fun u H locs h hw => ?_)
  obtain ⟨A_9, V_10⟩ := u
  refine lv_aload_n (pc := 18) hx hb dX3_liveOneHour_18 rfl (lv_at hl 2 rfl) ?_
  refine callVv (pc := 19) (rest := []) (c1 := 0) (s1 := 0) cx hw hl (metX3_writeAnswers l D cI cZ ad H.size A_9 V_10 _ h) (fun hts => cwV 0 hts gX3_liveOneHour_X3_writeAnswers rfl rfl rfl (by decide +kernel) ⟨Nat.le_of_ble_eq_true rfl, Nat.le_of_ble_eq_true rfl⟩) SUB.rf [0, 1] rfl 0 (ci := 3) rfl rfl rfl (JN.rf) rfl rfl (Nat.le_of_ble_eq_true rfl) ⟨Nat.le_of_ble_eq_true rfl, Nat.le_of_ble_eq_true rfl⟩ rfl rfl dX3_liveOneHour_19 (fun u H locs h hw => ?_)
  obtain ⟨A_14, V_15⟩ := u
  refine lv_aload_n (pc := 22) hx hb dX3_liveOneHour_22 rfl (lv_at hl 2 rfl) ?_
  refine lv_iload_n (pc := 23) hx hb dX3_liveOneHour_23 rfl (lv_at hl 0 rfl) ?_
  refine lv_iload_n (pc := 24) hx hb dX3_liveOneHour_24 rfl (lv_at hl 1 rfl) ?_
  refine callVv (pc := 25) (rest := []) (c1 := 0) (s1 := 0) cx hw hl (metX3_bringAnswersNearer l D cI cZ ad H.size A_14 V_15 (V_5 3) r1 _ h) (fun hts => cwV 2 hts gX3_liveOneHour_X3_bringAnswersNearer rfl rfl rfl (by decide +kernel) ⟨Nat.le_of_ble_eq_true rfl, Nat.le_of_ble_eq_true rfl⟩) SUB.rf [0, 1] rfl 0 (ci := 3) rfl rfl rfl (JN.rf) rfl rfl (Nat.le_of_ble_eq_true rfl) ⟨Nat.le_of_ble_eq_true rfl, Nat.le_of_ble_eq_true rfl⟩ rfl rfl dX3_liveOneHour_25 (fun u H locs h hw => ?_)
  obtain ⟨A_19, V_20⟩ := u
  refine lv_aload_n (pc := 28) hx hb dX3_liveOneHour_28 rfl (lv_at hl 2 rfl) ?_
  refine lv_iload_n (pc := 29) hx hb dX3_liveOneHour_29 rfl (lv_at hl 1 rfl) ?_
  refine callVv (pc := 30) (rest := []) (c1 := 0) (s1 := 0) cx hw hl (metX3_scrape l D cI cZ ad H.size A_19 V_20 r1 _ h) (fun hts => cwV 1 hts gX3_liveOneHour_X3_scrape rfl rfl rfl (by decide +kernel) ⟨Nat.le_of_ble_eq_true rfl, Nat.le_of_ble_eq_true rfl⟩) SUB.rf [0, 1] rfl 0 (ci := 3) rfl rfl rfl (JN.rf) rfl rfl (Nat.le_of_ble_eq_true rfl) ⟨Nat.le_of_ble_eq_true rfl, Nat.le_of_ble_eq_true rfl⟩ rfl rfl dX3_liveOneHour_30 (fun u H locs h hw => ?_)
  obtain ⟨A_24, V_25⟩ := u
  refine lv_aload_n (pc := 33) hx hb dX3_liveOneHour_33 rfl (lv_at hl 2 rfl) ?_
  refine callVv (pc := 34) (rest := []) (c1 := 0) (s1 := 0) cx hw hl (metX3_sort l D cI cZ ad H.size A_24 V_25 _ h) (fun hts => cwV 0 hts gX3_liveOneHour_X3_sort rfl rfl rfl (by decide +kernel) ⟨Nat.le_of_ble_eq_true rfl, Nat.le_of_ble_eq_true rfl⟩) SUB.rf [0, 1] rfl 0 (ci := 3) rfl rfl rfl (JN.rf) rfl rfl (Nat.le_of_ble_eq_true rfl) ⟨Nat.le_of_ble_eq_true rfl, Nat.le_of_ble_eq_true rfl⟩ rfl rfl dX3_liveOneHour_34 (fun u H locs h hw => ?_)
  obtain ⟨A_29, V_30⟩ := u
  refine lv_aload_n (pc := 37) hx hb dX3_liveOneHour_37 rfl (lv_at hl 2 rfl) ?_
  refine lv_dup (pc := 38) hx hb dX3_liveOneHour_38 rfl ?_
  refine geO_X3_4 (pc := 39) cx inX3_liveOneHour_X3 kX3_liveOneHour_67 hw dX3_liveOneHour_39 ?_
  refine lv_iconst (pc := 42) (v := (1 : Int32)) hx hb dX3_liveOneHour_42 (by decide) ?_
  refine lv_iadd (pc := 43) hx hb dX3_liveOneHour_43 ?_
  refine puO_X3_4 (pc := 44) cx inX3_liveOneHour_X3 kX3_liveOneHour_67 hw dX3_liveOneHour_44 (fun V_31 eV_31 H locs hw => ?_)
  have h := h V_31 eV_31
  exact hret 47 _ (A_29, V_31) _ _ dX3_liveOneHour_47 h hw
def wpX3_liveOneHour (A : SA) (V : SV)  (Q : SA → SV → Prop) : Prop := wb_X3_liveOneHour_0 Q A V
set_option maxHeartbeats 4000000 in
set_option maxRecDepth 100000 in
theorem metX3_liveOneHour (l : Launch) (D : va_G) (cI cZ : ClassId) (ad : Nat → Nat) (sz : Nat) (A : SA) (V : SV)  (Q : SA → SV → Prop) (h : wpX3_liveOneHour A V  Q) : Met l yX3_liveOneHour wsX3_liveOneHour rmX3_liveOneHour (PcW D [(cI, .int), (cZ, .boolean)] (wO ad cI cZ A V) sz [.ref (ad 0)]) (QvW D [(cI, .int), (cZ, .boolean)] (wO ad cI cZ A V) sz (fun u : SA × SV => (wO ad cI cZ u.1 u.2)) (fun u => Q u.1 u.2)) rmX3_liveOneHour.cells rmX3_liveOneHour.slots (va_A (wO ad cI cZ A V) sz) := by
  refine startV (plainFor_of_name (by decide)) rfl (Nat.le_of_ble_eq_true rfl) ?_
  intro p e s m args below meth c A0 Z cx hw hret ls hl
  exact wk_X3_liveOneHour_0 Q cx hret A V h _ _ _ hw hl
abbrev rmX3_letGoBy : Room := { frames := 5, cells := 0, slots := 0, locals := 173 }
theorem inX3_letGoBy_X3 : ∀ w ∈ wsX30, w ∈ wsX3_letGoBy := by decide +kernel
theorem kX3_letGoBy_77 : Cond.fieldLink RX3 77 "DrownedPost$Office" "sunkCount" "I" ∈ wsX3_letGoBy := by decide +kernel
def wl_X3_letGoBy_4 (Q : Int32 → SA → SV → Prop) : Nat → SA → SV → Int32 → Int32 → Int32 → Prop
  | 0, _, _, _, _, _ => False
  | n + 1, A, V, x1, x2, x3 => ((x1 ≤ x3 → Q x2 A V) ∧ (¬ (x1 ≤ x3) → (wpX3_liveOneHour A V (fun A_5 V_6 => wl_X3_letGoBy_4 Q n A_5 V_6 x1 (x2 + (V_6 7)) (x3 + 1)))))
set_option maxHeartbeats 4000000 in
set_option maxRecDepth 100000 in
theorem wk_X3_letGoBy_4 (Q : Int32 → SA → SV → Prop) (cx : CX RX3 cX3_letGoBy 4 wsX3_letGoBy D [(cI, .int), (cZ, .boolean)] p s m args c A0) (hret : ∀ (pc : Nat) (ls : Array Slot) (r : Int32) (u : SA × SV) (H : Heap) (locs : List Loc), narrow .int (.int r) = .int r → decode cX3_letGoBy pc = .ok (.ireturn, 1) → Q r u.1 u.2 → WS D s A0 (wO ad cI cZ u.1 u.2) H locs → W p l e rmX3_letGoBy s m args below meth c H locs rmX3_letGoBy.cells rmX3_letGoBy.slots Z (F0 m pc ls [.int r]))  : ∀ (n : Nat) (A : SA) (V : SV) (x1 : Int32) (x2 : Int32) (x3 : Int32) (h : wl_X3_letGoBy_4 Q n A V x1 x2 x3) (H : Heap) (locs : List Loc) (ls : Array Slot) (hw : WS D s A0 (wO ad cI cZ A V) H locs) (hl : lv_has ls 4 [(0, .ref (ad 0)), (1, .int x1), (2, .int x2), (3, .int x3)]), W p l e rmX3_letGoBy s m args below meth c H locs 0 0 Z (F0 m 4 ls []) := by
  obtain ⟨hx, hb, hml, hown, hts, hK, hA⟩ := id cx
  intro n
  induction n with
  | zero => intro A V x1 x2 x3 h; exact False.elim h
  | succ n ih =>
    intro A V x1 x2 x3 h H locs ls hw hl
    refine lv_iload_n (pc := 4) hx hb dX3_letGoBy_4 rfl (lv_at hl 3 rfl) ?_
    refine lv_iload_n (pc := 5) hx hb dX3_letGoBy_5 rfl (lv_at hl 1 rfl) ?_
    refine lv_icmp_ge (pc := 6) (tgt := 26) hx hb dX3_letGoBy_6 (by decide) (fun c1 => ?_) (fun c1 => ?_)
    · have h := h.1 c1
      refine lv_iload_n (pc := 26) hx hb dX3_letGoBy_26 rfl (lv_at hl 2 rfl) ?_
      exact hret 27 _ _ (A, V) _ _ rfl dX3_letGoBy_27 h hw
    · have h := h.2 c1
      refine lv_aload_n (pc := 9) hx hb dX3_letGoBy_9 rfl (lv_at hl 0 rfl) ?_
      refine callVv (pc := 10) (rest := []) (c1 := 0) (s1 := 0) cx hw hl (metX3_liveOneHour l D cI cZ ad H.size A V _ h) (fun hts => cwV 0 hts gX3_letGoBy_X3_liveOneHour rfl rfl rfl (by decide +kernel) ⟨Nat.le_of_ble_eq_true rfl, Nat.le_of_ble_eq_true rfl⟩) SUB.rf [0, 1] rfl 0 (ci := 3) rfl rfl rfl (JN.rf) rfl rfl (Nat.le_of_ble_eq_true rfl) ⟨Nat.le_of_ble_eq_true rfl, Nat.le_of_ble_eq_true rfl⟩ rfl rfl dX3_letGoBy_10 (fun u H locs h hw => ?_)
      obtain ⟨A_5, V_6⟩ := u
      refine lv_iload_n (pc := 13) hx hb dX3_letGoBy_13 rfl (lv_at hl 2 rfl) ?_
      refine lv_aload_n (pc := 14) hx hb dX3_letGoBy_14 rfl (lv_at hl 0 rfl) ?_
      refine geO_X3_8 (pc := 15) cx inX3_letGoBy_X3 kX3_letGoBy_77 hw dX3_letGoBy_15 ?_
      refine lv_iadd (pc := 18) hx hb dX3_letGoBy_18 ?_
      refine lv_istore_n (pc := 19) (lv' := [(2, .int (x2 + (V_6 7))), (0, .ref (ad 0)), (1, .int x1), (3, .int x3)]) hx hb dX3_letGoBy_19 rfl hl (by decide) rfl (fun ls hl => ?_)
      refine lv_iinc (pc := 20) (v := x3 + 1) (lv' := [(3, .int (x3 + 1)), (2, .int (x2 + (V_6 7))), (0, .ref (ad 0)), (1, .int x1)]) hx hb dX3_letGoBy_20 hl (k := 3) rfl rfl (by decide) rfl (fun ls hl => ?_)
      refine lv_goto (pc := 23) (tgt := 4) hx hb dX3_letGoBy_23 (by decide) ?_
      exact ih A_5 V_6 x1 (x2 + (V_6 7)) (x3 + 1) h _ _ _ hw (lv_sub hl [2, 3, 1, 0] rfl)
def wb_X3_letGoBy_0 (Q : Int32 → SA → SV → Prop) (A : SA) (V : SV) (x1 : Int32) : Prop := (∃ n4 : Nat, wl_X3_letGoBy_4 Q n4 A V x1 (0 : Int32) (0 : Int32))
set_option maxHeartbeats 4000000 in
set_option maxRecDepth 100000 in
theorem wk_X3_letGoBy_0 (Q : Int32 → SA → SV → Prop) (cx : CX RX3 cX3_letGoBy 4 wsX3_letGoBy D [(cI, .int), (cZ, .boolean)] p s m args c A0) (hret : ∀ (pc : Nat) (ls : Array Slot) (r : Int32) (u : SA × SV) (H : Heap) (locs : List Loc), narrow .int (.int r) = .int r → decode cX3_letGoBy pc = .ok (.ireturn, 1) → Q r u.1 u.2 → WS D s A0 (wO ad cI cZ u.1 u.2) H locs → W p l e rmX3_letGoBy s m args below meth c H locs rmX3_letGoBy.cells rmX3_letGoBy.slots Z (F0 m pc ls [.int r]))  : ∀ (A : SA) (V : SV) (x1 : Int32) (h : wb_X3_letGoBy_0 Q A V x1) (H : Heap) (locs : List Loc) (ls : Array Slot) (hw : WS D s A0 (wO ad cI cZ A V) H locs) (hl : lv_has ls 4 [(0, .ref (ad 0)), (1, .int x1)]), W p l e rmX3_letGoBy s m args below meth c H locs 0 0 Z (F0 m 0 ls []) := by
  obtain ⟨hx, hb, hml, hown, hts, hK, hA⟩ := id cx
  intro A V x1 h H locs ls hw hl
  refine lv_iconst (pc := 0) (v := (0 : Int32)) hx hb dX3_letGoBy_0 (by decide) ?_
  refine lv_istore_n (pc := 1) (lv' := [(2, .int (0 : Int32)), (0, .ref (ad 0)), (1, .int x1)]) hx hb dX3_letGoBy_1 rfl hl (by decide) rfl (fun ls hl => ?_)
  refine lv_iconst (pc := 2) (v := (0 : Int32)) hx hb dX3_letGoBy_2 (by decide) ?_
  refine lv_istore_n (pc := 3) (lv' := [(3, .int (0 : Int32)), (2, .int (0 : Int32)), (0, .ref (ad 0)), (1, .int x1)]) hx hb dX3_letGoBy_3 rfl hl (by decide) rfl (fun ls hl => ?_)
  obtain ⟨n4, h⟩ := h
  exact wk_X3_letGoBy_4 Q cx hret  n4 A V x1 (0 : Int32) (0 : Int32) h _ _ _ hw (lv_sub hl [2, 3, 1, 0] rfl)
def wpX3_letGoBy (A : SA) (V : SV) (x1 : Int32) (Q : Int32 → SA → SV → Prop) : Prop := wb_X3_letGoBy_0 Q A V x1
set_option maxHeartbeats 4000000 in
set_option maxRecDepth 100000 in
theorem metX3_letGoBy (l : Launch) (D : va_G) (cI cZ : ClassId) (ad : Nat → Nat) (sz : Nat) (A : SA) (V : SV) (x1 : Int32) (Q : Int32 → SA → SV → Prop) (h : wpX3_letGoBy A V x1 Q) : Met l yX3_letGoBy wsX3_letGoBy rmX3_letGoBy (PcW D [(cI, .int), (cZ, .boolean)] (wO ad cI cZ A V) sz [.ref (ad 0), .int x1]) (QiW D [(cI, .int), (cZ, .boolean)] (wO ad cI cZ A V) sz (fun u : SA × SV => (wO ad cI cZ u.1 u.2)) (fun r u => Q r u.1 u.2)) rmX3_letGoBy.cells rmX3_letGoBy.slots (va_A (wO ad cI cZ A V) sz) := by
  refine startI (plainFor_of_name (by decide)) rfl (Nat.le_of_ble_eq_true rfl) ?_
  intro p e s m args below meth c A0 Z cx hw hret ls hl
  exact wk_X3_letGoBy_0 Q cx hret A V x1 h _ _ _ hw hl
abbrev rmX3_binFact : Room := { frames := 3, cells := 0, slots := 0, locals := 63 }
theorem inX3_binFact_X0 : ∀ w ∈ wsX00, w ∈ wsX3_binFact := by decide +kernel
theorem inX3_binFact_X3 : ∀ w ∈ wsX30, w ∈ wsX3_binFact := by decide +kernel
theorem kX3_binFact_143 : Cond.fieldLink RX3 143 "DrownedPost$Bins" "filled" "[I" ∈ wsX3_binFact := by decide +kernel
theorem kX3_binFact_179 : Cond.fieldLink RX3 179 "DrownedPost$Bins" "height" "[I" ∈ wsX3_binFact := by decide +kernel
theorem kX3_binFact_182 : Cond.fieldLink RX3 182 "DrownedPost$Bins" "room" "[I" ∈ wsX3_binFact := by decide +kernel
theorem kX3_binFact_21 : Cond.fieldLink RX3 21 "DrownedPost$Office" "bins" "LDrownedPost$Bins;" ∈ wsX3_binFact := by decide +kernel
theorem kX3_binFact_35 : Cond.fieldLink RX3 35 "DrownedPost$Office" "letters" "LDrownedPost$Letters;" ∈ wsX3_binFact := by decide +kernel
def wb_X3_binFact_0 (Q : Int32 → SA → SV → Prop) (A : SA) (V : SV) (x1 : Int32) (x2 : Int32) : Prop := (wpX0_has A V x1 (fun r1 A_4 V_5 => ((¬ r1 = 0 → ((x2 = (0 : Int32) → (vp_in x1 10 ∧ Q (A_4 1 x1.toNatClampNeg) A_4 V_5)) ∧ (¬ x2 = (0 : Int32) → ((x2 = (1 : Int32) → (vp_in x1 10 ∧ Q (A_4 2 x1.toNatClampNeg) A_4 V_5)) ∧ (¬ x2 = (1 : Int32) → ((x2 = (2 : Int32) → (vp_in x1 10 ∧ Q (A_4 3 x1.toNatClampNeg) A_4 V_5)) ∧ (¬ x2 = (2 : Int32) → ((x2 = (3 : Int32) → (wpX3_tideNow A_4 V_5 (fun r11 A_14 V_15 => (wpX0_isUnder A_14 V_15 x1 r11 (fun r16 A_19 V_20 => ((r16 = 0 → Q (0 : Int32) A_19 V_20) ∧ (¬ (r16 = 0) → Q (1 : Int32) A_19 V_20))))))) ∧ (¬ x2 = (3 : Int32) → ((x2 = (4 : Int32) → (wpX2_growthIn A_4 V_5 x1 (fun r23 A_26 V_27 => Q r23 A_26 V_27))) ∧ (¬ x2 = (4 : Int32) → Q (0 : Int32) A_4 V_5))))))))))) ∧ (r1 = 0 → Q (0 : Int32) A_4 V_5))))
set_option maxHeartbeats 4000000 in
set_option maxRecDepth 100000 in
theorem wk_X3_binFact_0 (Q : Int32 → SA → SV → Prop) (cx : CX RX3 cX3_binFact 3 wsX3_binFact D [(cI, .int), (cZ, .boolean)] p s m args c A0) (hret : ∀ (pc : Nat) (ls : Array Slot) (r : Int32) (u : SA × SV) (H : Heap) (locs : List Loc), narrow .int (.int r) = .int r → decode cX3_binFact pc = .ok (.ireturn, 1) → Q r u.1 u.2 → WS D s A0 (wO ad cI cZ u.1 u.2) H locs → W p l e rmX3_binFact s m args below meth c H locs rmX3_binFact.cells rmX3_binFact.slots Z (F0 m pc ls [.int r]))  : ∀ (A : SA) (V : SV) (x1 : Int32) (x2 : Int32) (h : wb_X3_binFact_0 Q A V x1 x2) (H : Heap) (locs : List Loc) (ls : Array Slot) (hw : WS D s A0 (wO ad cI cZ A V) H locs) (hl : lv_has ls 3 [(0, .ref (ad 0)), (1, .int x1), (2, .int x2)]), W p l e rmX3_binFact s m args below meth c H locs 0 0 Z (F0 m 0 ls []) := by
  obtain ⟨hx, hb, hml, hown, hts, hK, hA⟩ := id cx
  intro A V x1 x2 h H locs ls hw hl
  refine lv_aload_n (pc := 0) hx hb dX3_binFact_0 rfl (lv_at hl 0 rfl) ?_
  refine geO_X3_1 (pc := 1) cx inX3_binFact_X3 kX3_binFact_21 hw dX3_binFact_1 ?_
  refine lv_iload_n (pc := 4) hx hb dX3_binFact_4 rfl (lv_at hl 1 rfl) ?_
  refine callVi (pc := 5) (rest := []) (c1 := 0) (s1 := 0) cx hw hl (metX0_has l D cI cZ ad H.size A V x1 _ h) (fun hts => cwV 1 hts gX3_binFact_X0_has rfl rfl rfl (by decide +kernel) ⟨Nat.le_of_ble_eq_true rfl, Nat.le_of_ble_eq_true rfl⟩) SUB.rf [0, 1] rfl 2 (ci := 0) rfl rfl rfl (JN.rf) rfl rfl (Nat.le_of_ble_eq_true rfl) ⟨Nat.le_of_ble_eq_true rfl, Nat.le_of_ble_eq_true rfl⟩ rfl rfl dX3_binFact_5 (fun r1 u H locs h hw => ?_)
  obtain ⟨A_4, V_5⟩ := u
  refine lv_if_ne (pc := 8) (tgt := 13) hx hb dX3_binFact_8 (by decide) (fun c6 => ?_) (fun c6 => ?_)
  · have h := h.1 c6
    refine lv_iload_n (pc := 13) hx hb dX3_binFact_13 rfl (lv_at hl 2 rfl) ?_
    by_cases e7 : x2 = (0 : Int32)
    · have h := h.1 e7
      refine lv_tableIn (pc := 14) (off := 34) (tgt := 48) hx hb dX3_binFact_14 (by rw [e7]; decide) (by rw [e7]; decide) (by rw [e7]; rfl) (by decide) ?_
      refine lv_aload_n (pc := 48) hx hb dX3_binFact_48 rfl (lv_at hl 0 rfl) ?_
      refine geO_X3_1 (pc := 49) cx inX3_binFact_X3 kX3_binFact_21 hw dX3_binFact_49 ?_
      refine geO_X0_0 (pc := 52) cx inX3_binFact_X0 kX3_binFact_179 hw dX3_binFact_52 ?_
      refine lv_iload_n (pc := 55) hx hb dX3_binFact_55 rfl (lv_at hl 1 rfl) ?_
      refine alO_1 (pc := 56) cx hw h.1 dX3_binFact_56 ?_
      have h := h.2
      exact hret 57 _ _ (A_4, V_5) _ _ rfl dX3_binFact_57 h hw
    · have h := h.2 e7
      by_cases e8 : x2 = (1 : Int32)
      · have h := h.1 e8
        refine lv_tableIn (pc := 14) (off := 44) (tgt := 58) hx hb dX3_binFact_14 (by rw [e8]; decide) (by rw [e8]; decide) (by rw [e8]; rfl) (by decide) ?_
        refine lv_aload_n (pc := 58) hx hb dX3_binFact_58 rfl (lv_at hl 0 rfl) ?_
        refine geO_X3_1 (pc := 59) cx inX3_binFact_X3 kX3_binFact_21 hw dX3_binFact_59 ?_
        refine geO_X0_1 (pc := 62) cx inX3_binFact_X0 kX3_binFact_182 hw dX3_binFact_62 ?_
        refine lv_iload_n (pc := 65) hx hb dX3_binFact_65 rfl (lv_at hl 1 rfl) ?_
        refine alO_2 (pc := 66) cx hw h.1 dX3_binFact_66 ?_
        have h := h.2
        exact hret 67 _ _ (A_4, V_5) _ _ rfl dX3_binFact_67 h hw
      · have h := h.2 e8
        by_cases e9 : x2 = (2 : Int32)
        · have h := h.1 e9
          refine lv_tableIn (pc := 14) (off := 54) (tgt := 68) hx hb dX3_binFact_14 (by rw [e9]; decide) (by rw [e9]; decide) (by rw [e9]; rfl) (by decide) ?_
          refine lv_aload_n (pc := 68) hx hb dX3_binFact_68 rfl (lv_at hl 0 rfl) ?_
          refine geO_X3_1 (pc := 69) cx inX3_binFact_X3 kX3_binFact_21 hw dX3_binFact_69 ?_
          refine geO_X0_2 (pc := 72) cx inX3_binFact_X0 kX3_binFact_143 hw dX3_binFact_72 ?_
          refine lv_iload_n (pc := 75) hx hb dX3_binFact_75 rfl (lv_at hl 1 rfl) ?_
          refine alO_3 (pc := 76) cx hw h.1 dX3_binFact_76 ?_
          have h := h.2
          exact hret 77 _ _ (A_4, V_5) _ _ rfl dX3_binFact_77 h hw
        · have h := h.2 e9
          by_cases e10 : x2 = (3 : Int32)
          · have h := h.1 e10
            refine lv_tableIn (pc := 14) (off := 64) (tgt := 78) hx hb dX3_binFact_14 (by rw [e10]; decide) (by rw [e10]; decide) (by rw [e10]; rfl) (by decide) ?_
            refine lv_aload_n (pc := 78) hx hb dX3_binFact_78 rfl (lv_at hl 0 rfl) ?_
            refine geO_X3_1 (pc := 79) cx inX3_binFact_X3 kX3_binFact_21 hw dX3_binFact_79 ?_
            refine lv_iload_n (pc := 82) hx hb dX3_binFact_82 rfl (lv_at hl 1 rfl) ?_
            refine lv_aload_n (pc := 83) hx hb dX3_binFact_83 rfl (lv_at hl 0 rfl) ?_
            refine callVi (pc := 84) (rest := [.int x1, .ref (ad 2)]) (c1 := 0) (s1 := 0) cx hw hl (metX3_tideNow l D cI cZ ad H.size A_4 V_5 _ h) (fun hts => cwV 0 hts gX3_binFact_X3_tideNow rfl rfl rfl (by decide +kernel) ⟨Nat.le_of_ble_eq_true rfl, Nat.le_of_ble_eq_true rfl⟩) SUB.rf [0, 1] rfl 0 (ci := 3) rfl rfl rfl (JN.rf) rfl rfl (Nat.le_of_ble_eq_true rfl) ⟨Nat.le_of_ble_eq_true rfl, Nat.le_of_ble_eq_true rfl⟩ rfl rfl dX3_binFact_84 (fun r11 u H locs h hw => ?_)
            obtain ⟨A_14, V_15⟩ := u
            refine callVi (pc := 87) (rest := []) (c1 := 0) (s1 := 0) cx hw hl (metX0_isUnder l D cI cZ ad H.size A_14 V_15 x1 r11 _ h) (fun hts => cwV 2 hts gX3_binFact_X0_isUnder rfl rfl rfl (by decide +kernel) ⟨Nat.le_of_ble_eq_true rfl, Nat.le_of_ble_eq_true rfl⟩) SUB.rf [0, 1] rfl 2 (ci := 0) rfl rfl rfl (JN.rf) rfl rfl (Nat.le_of_ble_eq_true rfl) ⟨Nat.le_of_ble_eq_true rfl, Nat.le_of_ble_eq_true rfl⟩ rfl rfl dX3_binFact_87 (fun r16 u H locs h hw => ?_)
            obtain ⟨A_19, V_20⟩ := u
            refine lv_if_eq (pc := 90) (tgt := 97) hx hb dX3_binFact_90 (by decide) (fun c21 => ?_) (fun c21 => ?_)
            · have h := h.1 c21
              refine lv_iconst (pc := 97) (v := (0 : Int32)) hx hb dX3_binFact_97 (by decide) ?_
              exact hret 98 _ _ (A_19, V_20) _ _ rfl dX3_binFact_98 h hw
            · have h := h.2 c21
              refine lv_iconst (pc := 93) (v := (1 : Int32)) hx hb dX3_binFact_93 (by decide) ?_
              refine lv_goto (pc := 94) (tgt := 98) hx hb dX3_binFact_94 (by decide) ?_
              exact hret 98 _ _ (A_19, V_20) _ _ rfl dX3_binFact_98 h hw
          · have h := h.2 e10
            by_cases e22 : x2 = (4 : Int32)
            · have h := h.1 e22
              refine lv_tableIn (pc := 14) (off := 85) (tgt := 99) hx hb dX3_binFact_14 (by rw [e22]; decide) (by rw [e22]; decide) (by rw [e22]; rfl) (by decide) ?_
              refine lv_aload_n (pc := 99) hx hb dX3_binFact_99 rfl (lv_at hl 0 rfl) ?_
              refine geO_X3_3 (pc := 100) cx inX3_binFact_X3 kX3_binFact_35 hw dX3_binFact_100 ?_
              refine lv_iload_n (pc := 103) hx hb dX3_binFact_103 rfl (lv_at hl 1 rfl) ?_
              refine callVi (pc := 104) (rest := []) (c1 := 0) (s1 := 0) cx hw hl (metX2_growthIn l D cI cZ ad H.size A_4 V_5 x1 _ h) (fun hts => cwV 1 hts gX3_binFact_X2_growthIn rfl rfl rfl (by decide +kernel) ⟨Nat.le_of_ble_eq_true rfl, Nat.le_of_ble_eq_true rfl⟩) SUB.rf [0, 1] rfl 4 (ci := 2) rfl rfl rfl (JN.rf) rfl rfl (Nat.le_of_ble_eq_true rfl) ⟨Nat.le_of_ble_eq_true rfl, Nat.le_of_ble_eq_true rfl⟩ rfl rfl dX3_binFact_104 (fun r23 u H locs h hw => ?_)
              obtain ⟨A_26, V_27⟩ := u
              exact hret 107 _ _ (A_26, V_27) _ _ rfl dX3_binFact_107 h hw
            · have h := h.2 e22
              refine lv_tableOut (pc := 14) (tgt := 108) hx hb dX3_binFact_14 (tsw 4 (by decide) (fun i hi => match i, hi with | 0, _ => e7 | 1, _ => e8 | 2, _ => e9 | 3, _ => e10 | 4, _ => e22 | _ + 5, hi => absurd hi (by omega))) (by decide) ?_
              refine lv_iconst (pc := 108) (v := (0 : Int32)) hx hb dX3_binFact_108 (by decide) ?_
              exact hret 109 _ _ (A_4, V_5) _ _ rfl dX3_binFact_109 h hw
  · have h := h.2 c6
    refine lv_iconst (pc := 11) (v := (0 : Int32)) hx hb dX3_binFact_11 (by decide) ?_
    exact hret 12 _ _ (A_4, V_5) _ _ rfl dX3_binFact_12 h hw
def wpX3_binFact (A : SA) (V : SV) (x1 : Int32) (x2 : Int32) (Q : Int32 → SA → SV → Prop) : Prop := wb_X3_binFact_0 Q A V x1 x2
set_option maxHeartbeats 4000000 in
set_option maxRecDepth 100000 in
theorem metX3_binFact (l : Launch) (D : va_G) (cI cZ : ClassId) (ad : Nat → Nat) (sz : Nat) (A : SA) (V : SV) (x1 : Int32) (x2 : Int32) (Q : Int32 → SA → SV → Prop) (h : wpX3_binFact A V x1 x2 Q) : Met l yX3_binFact wsX3_binFact rmX3_binFact (PcW D [(cI, .int), (cZ, .boolean)] (wO ad cI cZ A V) sz [.ref (ad 0), .int x1, .int x2]) (QiW D [(cI, .int), (cZ, .boolean)] (wO ad cI cZ A V) sz (fun u : SA × SV => (wO ad cI cZ u.1 u.2)) (fun r u => Q r u.1 u.2)) rmX3_binFact.cells rmX3_binFact.slots (va_A (wO ad cI cZ A V) sz) := by
  refine startI (plainFor_of_name (by decide)) rfl (Nat.le_of_ble_eq_true rfl) ?_
  intro p e s m args below meth c A0 Z cx hw hret ls hl
  exact wk_X3_binFact_0 Q cx hret A V x1 x2 h _ _ _ hw hl
abbrev rmX3_total : Room := { frames := 1, cells := 0, slots := 0, locals := 23 }
theorem inX3_total_X0 : ∀ w ∈ wsX00, w ∈ wsX3_total := by decide +kernel
theorem inX3_total_X1 : ∀ w ∈ wsX10, w ∈ wsX3_total := by decide +kernel
theorem inX3_total_X2 : ∀ w ∈ wsX20, w ∈ wsX3_total := by decide +kernel
theorem inX3_total_X3 : ∀ w ∈ wsX30, w ∈ wsX3_total := by decide +kernel
theorem inX3_total_X4 : ∀ w ∈ wsX40, w ∈ wsX3_total := by decide +kernel
theorem kX3_total_12 : Cond.fieldLink RX3 12 "DrownedPost$Office" "tides" "LDrownedPost$Tides;" ∈ wsX3_total := by decide +kernel
theorem kX3_total_188 : Cond.fieldLink RX3 188 "DrownedPost$Bins" "count" "I" ∈ wsX3_total := by decide +kernel
theorem kX3_total_189 : Cond.fieldLink RX3 189 "DrownedPost$Drowned" "count" "I" ∈ wsX3_total := by decide +kernel
theorem kX3_total_190 : Cond.fieldLink RX3 190 "DrownedPost$Tides" "count" "I" ∈ wsX3_total := by decide +kernel
theorem kX3_total_21 : Cond.fieldLink RX3 21 "DrownedPost$Office" "bins" "LDrownedPost$Bins;" ∈ wsX3_total := by decide +kernel
theorem kX3_total_28 : Cond.fieldLink RX3 28 "DrownedPost$Office" "drowned" "LDrownedPost$Drowned;" ∈ wsX3_total := by decide +kernel
theorem kX3_total_35 : Cond.fieldLink RX3 35 "DrownedPost$Office" "letters" "LDrownedPost$Letters;" ∈ wsX3_total := by decide +kernel
theorem kX3_total_39 : Cond.fieldLink RX3 39 "DrownedPost$Office" "scrapers" "I" ∈ wsX3_total := by decide +kernel
theorem kX3_total_43 : Cond.fieldLink RX3 43 "DrownedPost$Office" "sorters" "I" ∈ wsX3_total := by decide +kernel
theorem kX3_total_67 : Cond.fieldLink RX3 67 "DrownedPost$Office" "hour" "I" ∈ wsX3_total := by decide +kernel
theorem kX3_total_84 : Cond.fieldLink RX3 84 "DrownedPost$Letters" "count" "I" ∈ wsX3_total := by decide +kernel
def wb_X3_total_0 (Q : Int32 → SA → SV → Prop) (A : SA) (V : SV) (x1 : Int32) : Prop := ((x1 = (0 : Int32) → Q (V 4) A V) ∧ (¬ x1 = (0 : Int32) → ((x1 = (1 : Int32) → Q (V 1) A V) ∧ (¬ x1 = (1 : Int32) → ((x1 = (2 : Int32) → Q (V 2) A V) ∧ (¬ x1 = (2 : Int32) → ((x1 = (3 : Int32) → Q (V 3) A V) ∧ (¬ x1 = (3 : Int32) → ((x1 = (4 : Int32) → (wpX2_inState A V (x1 - (4 : Int32)) (fun r6 A_9 V_10 => Q r6 A_9 V_10))) ∧ (¬ x1 = (4 : Int32) → ((x1 = (5 : Int32) → (wpX2_inState A V (x1 - (4 : Int32)) (fun r12 A_15 V_16 => Q r12 A_15 V_16))) ∧ (¬ x1 = (5 : Int32) → ((x1 = (6 : Int32) → (wpX2_inState A V (x1 - (4 : Int32)) (fun r18 A_21 V_22 => Q r18 A_21 V_22))) ∧ (¬ x1 = (6 : Int32) → ((x1 = (7 : Int32) → (wpX2_inState A V (x1 - (4 : Int32)) (fun r24 A_27 V_28 => Q r24 A_27 V_28))) ∧ (¬ x1 = (7 : Int32) → ((x1 = (8 : Int32) → (wpX2_inState A V (x1 - (4 : Int32)) (fun r30 A_33 V_34 => Q r30 A_33 V_34))) ∧ (¬ x1 = (8 : Int32) → ((x1 = (9 : Int32) → (wpX2_inState A V (x1 - (4 : Int32)) (fun r36 A_39 V_40 => Q r36 A_39 V_40))) ∧ (¬ x1 = (9 : Int32) → ((x1 = (10 : Int32) → Q (V 0) A V) ∧ (¬ x1 = (10 : Int32) → ((x1 = (11 : Int32) → Q (V 5) A V) ∧ (¬ x1 = (11 : Int32) → ((x1 = (12 : Int32) → Q (V 6) A V) ∧ (¬ x1 = (12 : Int32) → (wpX2_inState A V (x1 - (4 : Int32)) (fun r44 A_47 V_48 => Q r44 A_47 V_48))))))))))))))))))))))))))))
set_option maxHeartbeats 4000000 in
set_option maxRecDepth 100000 in
theorem wk_X3_total_0 (Q : Int32 → SA → SV → Prop) (cx : CX RX3 cX3_total 2 wsX3_total D [(cI, .int), (cZ, .boolean)] p s m args c A0) (hret : ∀ (pc : Nat) (ls : Array Slot) (r : Int32) (u : SA × SV) (H : Heap) (locs : List Loc), narrow .int (.int r) = .int r → decode cX3_total pc = .ok (.ireturn, 1) → Q r u.1 u.2 → WS D s A0 (wO ad cI cZ u.1 u.2) H locs → W p l e rmX3_total s m args below meth c H locs rmX3_total.cells rmX3_total.slots Z (F0 m pc ls [.int r]))  : ∀ (A : SA) (V : SV) (x1 : Int32) (h : wb_X3_total_0 Q A V x1) (H : Heap) (locs : List Loc) (ls : Array Slot) (hw : WS D s A0 (wO ad cI cZ A V) H locs) (hl : lv_has ls 2 [(0, .ref (ad 0)), (1, .int x1)]), W p l e rmX3_total s m args below meth c H locs 0 0 Z (F0 m 0 ls []) := by
  obtain ⟨hx, hb, hml, hown, hts, hK, hA⟩ := id cx
  intro A V x1 h H locs ls hw hl
  refine lv_iload_n (pc := 0) hx hb dX3_total_0 rfl (lv_at hl 1 rfl) ?_
  by_cases e1 : x1 = (0 : Int32)
  · have h := h.1 e1
    refine lv_tableIn (pc := 1) (off := 67) (tgt := 68) hx hb dX3_total_1 (by rw [e1]; decide) (by rw [e1]; decide) (by rw [e1]; rfl) (by decide) ?_
    refine lv_aload_n (pc := 68) hx hb dX3_total_68 rfl (lv_at hl 0 rfl) ?_
    refine geO_X3_4 (pc := 69) cx inX3_total_X3 kX3_total_67 hw dX3_total_69 ?_
    exact hret 72 _ _ (A, V) _ _ rfl dX3_total_72 h hw
  · have h := h.2 e1
    by_cases e2 : x1 = (1 : Int32)
    · have h := h.1 e2
      refine lv_tableIn (pc := 1) (off := 72) (tgt := 73) hx hb dX3_total_1 (by rw [e2]; decide) (by rw [e2]; decide) (by rw [e2]; rfl) (by decide) ?_
      refine lv_aload_n (pc := 73) hx hb dX3_total_73 rfl (lv_at hl 0 rfl) ?_
      refine geO_X3_1 (pc := 74) cx inX3_total_X3 kX3_total_21 hw dX3_total_74 ?_
      refine geO_X0_3 (pc := 77) cx inX3_total_X0 kX3_total_188 hw dX3_total_77 ?_
      exact hret 80 _ _ (A, V) _ _ rfl dX3_total_80 h hw
    · have h := h.2 e2
      by_cases e3 : x1 = (2 : Int32)
      · have h := h.1 e3
        refine lv_tableIn (pc := 1) (off := 80) (tgt := 81) hx hb dX3_total_1 (by rw [e3]; decide) (by rw [e3]; decide) (by rw [e3]; rfl) (by decide) ?_
        refine lv_aload_n (pc := 81) hx hb dX3_total_81 rfl (lv_at hl 0 rfl) ?_
        refine geO_X3_2 (pc := 82) cx inX3_total_X3 kX3_total_28 hw dX3_total_82 ?_
        refine geO_X1_5 (pc := 85) cx inX3_total_X1 kX3_total_189 hw dX3_total_85 ?_
        exact hret 88 _ _ (A, V) _ _ rfl dX3_total_88 h hw
      · have h := h.2 e3
        by_cases e4 : x1 = (3 : Int32)
        · have h := h.1 e4
          refine lv_tableIn (pc := 1) (off := 88) (tgt := 89) hx hb dX3_total_1 (by rw [e4]; decide) (by rw [e4]; decide) (by rw [e4]; rfl) (by decide) ?_
          refine lv_aload_n (pc := 89) hx hb dX3_total_89 rfl (lv_at hl 0 rfl) ?_
          refine geO_X3_3 (pc := 90) cx inX3_total_X3 kX3_total_35 hw dX3_total_90 ?_
          refine geO_X2_9 (pc := 93) cx inX3_total_X2 kX3_total_84 hw dX3_total_93 ?_
          exact hret 96 _ _ (A, V) _ _ rfl dX3_total_96 h hw
        · have h := h.2 e4
          by_cases e5 : x1 = (4 : Int32)
          · have h := h.1 e5
            refine lv_tableIn (pc := 1) (off := 114) (tgt := 115) hx hb dX3_total_1 (by rw [e5]; decide) (by rw [e5]; decide) (by rw [e5]; rfl) (by decide) ?_
            refine lv_aload_n (pc := 115) hx hb dX3_total_115 rfl (lv_at hl 0 rfl) ?_
            refine geO_X3_3 (pc := 116) cx inX3_total_X3 kX3_total_35 hw dX3_total_116 ?_
            refine lv_iload_n (pc := 119) hx hb dX3_total_119 rfl (lv_at hl 1 rfl) ?_
            refine lv_iconst (pc := 120) (v := (4 : Int32)) hx hb dX3_total_120 (by decide) ?_
            refine lv_isub (pc := 121) hx hb dX3_total_121 ?_
            refine callVi (pc := 122) (rest := []) (c1 := 0) (s1 := 0) cx hw hl (metX2_inState l D cI cZ ad H.size A V (x1 - (4 : Int32)) _ h) (fun hts => cwV 1 hts gX3_total_X2_inState rfl rfl rfl (by decide +kernel) ⟨Nat.le_of_ble_eq_true rfl, Nat.le_of_ble_eq_true rfl⟩) SUB.rf [0, 1] rfl 4 (ci := 2) rfl rfl rfl (JN.rf) rfl rfl (Nat.le_of_ble_eq_true rfl) ⟨Nat.le_of_ble_eq_true rfl, Nat.le_of_ble_eq_true rfl⟩ rfl rfl dX3_total_122 (fun r6 u H locs h hw => ?_)
            obtain ⟨A_9, V_10⟩ := u
            exact hret 125 _ _ (A_9, V_10) _ _ rfl dX3_total_125 h hw
          · have h := h.2 e5
            by_cases e11 : x1 = (5 : Int32)
            · have h := h.1 e11
              refine lv_tableIn (pc := 1) (off := 114) (tgt := 115) hx hb dX3_total_1 (by rw [e11]; decide) (by rw [e11]; decide) (by rw [e11]; rfl) (by decide) ?_
              refine lv_aload_n (pc := 115) hx hb dX3_total_115 rfl (lv_at hl 0 rfl) ?_
              refine geO_X3_3 (pc := 116) cx inX3_total_X3 kX3_total_35 hw dX3_total_116 ?_
              refine lv_iload_n (pc := 119) hx hb dX3_total_119 rfl (lv_at hl 1 rfl) ?_
              refine lv_iconst (pc := 120) (v := (4 : Int32)) hx hb dX3_total_120 (by decide) ?_
              refine lv_isub (pc := 121) hx hb dX3_total_121 ?_
              refine callVi (pc := 122) (rest := []) (c1 := 0) (s1 := 0) cx hw hl (metX2_inState l D cI cZ ad H.size A V (x1 - (4 : Int32)) _ h) (fun hts => cwV 1 hts gX3_total_X2_inState rfl rfl rfl (by decide +kernel) ⟨Nat.le_of_ble_eq_true rfl, Nat.le_of_ble_eq_true rfl⟩) SUB.rf [0, 1] rfl 4 (ci := 2) rfl rfl rfl (JN.rf) rfl rfl (Nat.le_of_ble_eq_true rfl) ⟨Nat.le_of_ble_eq_true rfl, Nat.le_of_ble_eq_true rfl⟩ rfl rfl dX3_total_122 (fun r12 u H locs h hw => ?_)
              obtain ⟨A_15, V_16⟩ := u
              exact hret 125 _ _ (A_15, V_16) _ _ rfl dX3_total_125 h hw
            · have h := h.2 e11
              by_cases e17 : x1 = (6 : Int32)
              · have h := h.1 e17
                refine lv_tableIn (pc := 1) (off := 114) (tgt := 115) hx hb dX3_total_1 (by rw [e17]; decide) (by rw [e17]; decide) (by rw [e17]; rfl) (by decide) ?_
                refine lv_aload_n (pc := 115) hx hb dX3_total_115 rfl (lv_at hl 0 rfl) ?_
                refine geO_X3_3 (pc := 116) cx inX3_total_X3 kX3_total_35 hw dX3_total_116 ?_
                refine lv_iload_n (pc := 119) hx hb dX3_total_119 rfl (lv_at hl 1 rfl) ?_
                refine lv_iconst (pc := 120) (v := (4 : Int32)) hx hb dX3_total_120 (by decide) ?_
                refine lv_isub (pc := 121) hx hb dX3_total_121 ?_
                refine callVi (pc := 122) (rest := []) (c1 := 0) (s1 := 0) cx hw hl (metX2_inState l D cI cZ ad H.size A V (x1 - (4 : Int32)) _ h) (fun hts => cwV 1 hts gX3_total_X2_inState rfl rfl rfl (by decide +kernel) ⟨Nat.le_of_ble_eq_true rfl, Nat.le_of_ble_eq_true rfl⟩) SUB.rf [0, 1] rfl 4 (ci := 2) rfl rfl rfl (JN.rf) rfl rfl (Nat.le_of_ble_eq_true rfl) ⟨Nat.le_of_ble_eq_true rfl, Nat.le_of_ble_eq_true rfl⟩ rfl rfl dX3_total_122 (fun r18 u H locs h hw => ?_)
                obtain ⟨A_21, V_22⟩ := u
                exact hret 125 _ _ (A_21, V_22) _ _ rfl dX3_total_125 h hw
              · have h := h.2 e17
                by_cases e23 : x1 = (7 : Int32)
                · have h := h.1 e23
                  refine lv_tableIn (pc := 1) (off := 114) (tgt := 115) hx hb dX3_total_1 (by rw [e23]; decide) (by rw [e23]; decide) (by rw [e23]; rfl) (by decide) ?_
                  refine lv_aload_n (pc := 115) hx hb dX3_total_115 rfl (lv_at hl 0 rfl) ?_
                  refine geO_X3_3 (pc := 116) cx inX3_total_X3 kX3_total_35 hw dX3_total_116 ?_
                  refine lv_iload_n (pc := 119) hx hb dX3_total_119 rfl (lv_at hl 1 rfl) ?_
                  refine lv_iconst (pc := 120) (v := (4 : Int32)) hx hb dX3_total_120 (by decide) ?_
                  refine lv_isub (pc := 121) hx hb dX3_total_121 ?_
                  refine callVi (pc := 122) (rest := []) (c1 := 0) (s1 := 0) cx hw hl (metX2_inState l D cI cZ ad H.size A V (x1 - (4 : Int32)) _ h) (fun hts => cwV 1 hts gX3_total_X2_inState rfl rfl rfl (by decide +kernel) ⟨Nat.le_of_ble_eq_true rfl, Nat.le_of_ble_eq_true rfl⟩) SUB.rf [0, 1] rfl 4 (ci := 2) rfl rfl rfl (JN.rf) rfl rfl (Nat.le_of_ble_eq_true rfl) ⟨Nat.le_of_ble_eq_true rfl, Nat.le_of_ble_eq_true rfl⟩ rfl rfl dX3_total_122 (fun r24 u H locs h hw => ?_)
                  obtain ⟨A_27, V_28⟩ := u
                  exact hret 125 _ _ (A_27, V_28) _ _ rfl dX3_total_125 h hw
                · have h := h.2 e23
                  by_cases e29 : x1 = (8 : Int32)
                  · have h := h.1 e29
                    refine lv_tableIn (pc := 1) (off := 114) (tgt := 115) hx hb dX3_total_1 (by rw [e29]; decide) (by rw [e29]; decide) (by rw [e29]; rfl) (by decide) ?_
                    refine lv_aload_n (pc := 115) hx hb dX3_total_115 rfl (lv_at hl 0 rfl) ?_
                    refine geO_X3_3 (pc := 116) cx inX3_total_X3 kX3_total_35 hw dX3_total_116 ?_
                    refine lv_iload_n (pc := 119) hx hb dX3_total_119 rfl (lv_at hl 1 rfl) ?_
                    refine lv_iconst (pc := 120) (v := (4 : Int32)) hx hb dX3_total_120 (by decide) ?_
                    refine lv_isub (pc := 121) hx hb dX3_total_121 ?_
                    refine callVi (pc := 122) (rest := []) (c1 := 0) (s1 := 0) cx hw hl (metX2_inState l D cI cZ ad H.size A V (x1 - (4 : Int32)) _ h) (fun hts => cwV 1 hts gX3_total_X2_inState rfl rfl rfl (by decide +kernel) ⟨Nat.le_of_ble_eq_true rfl, Nat.le_of_ble_eq_true rfl⟩) SUB.rf [0, 1] rfl 4 (ci := 2) rfl rfl rfl (JN.rf) rfl rfl (Nat.le_of_ble_eq_true rfl) ⟨Nat.le_of_ble_eq_true rfl, Nat.le_of_ble_eq_true rfl⟩ rfl rfl dX3_total_122 (fun r30 u H locs h hw => ?_)
                    obtain ⟨A_33, V_34⟩ := u
                    exact hret 125 _ _ (A_33, V_34) _ _ rfl dX3_total_125 h hw
                  · have h := h.2 e29
                    by_cases e35 : x1 = (9 : Int32)
                    · have h := h.1 e35
                      refine lv_tableIn (pc := 1) (off := 114) (tgt := 115) hx hb dX3_total_1 (by rw [e35]; decide) (by rw [e35]; decide) (by rw [e35]; rfl) (by decide) ?_
                      refine lv_aload_n (pc := 115) hx hb dX3_total_115 rfl (lv_at hl 0 rfl) ?_
                      refine geO_X3_3 (pc := 116) cx inX3_total_X3 kX3_total_35 hw dX3_total_116 ?_
                      refine lv_iload_n (pc := 119) hx hb dX3_total_119 rfl (lv_at hl 1 rfl) ?_
                      refine lv_iconst (pc := 120) (v := (4 : Int32)) hx hb dX3_total_120 (by decide) ?_
                      refine lv_isub (pc := 121) hx hb dX3_total_121 ?_
                      refine callVi (pc := 122) (rest := []) (c1 := 0) (s1 := 0) cx hw hl (metX2_inState l D cI cZ ad H.size A V (x1 - (4 : Int32)) _ h) (fun hts => cwV 1 hts gX3_total_X2_inState rfl rfl rfl (by decide +kernel) ⟨Nat.le_of_ble_eq_true rfl, Nat.le_of_ble_eq_true rfl⟩) SUB.rf [0, 1] rfl 4 (ci := 2) rfl rfl rfl (JN.rf) rfl rfl (Nat.le_of_ble_eq_true rfl) ⟨Nat.le_of_ble_eq_true rfl, Nat.le_of_ble_eq_true rfl⟩ rfl rfl dX3_total_122 (fun r36 u H locs h hw => ?_)
                      obtain ⟨A_39, V_40⟩ := u
                      exact hret 125 _ _ (A_39, V_40) _ _ rfl dX3_total_125 h hw
                    · have h := h.2 e35
                      by_cases e41 : x1 = (10 : Int32)
                      · have h := h.1 e41
                        refine lv_tableIn (pc := 1) (off := 96) (tgt := 97) hx hb dX3_total_1 (by rw [e41]; decide) (by rw [e41]; decide) (by rw [e41]; rfl) (by decide) ?_
                        refine lv_aload_n (pc := 97) hx hb dX3_total_97 rfl (lv_at hl 0 rfl) ?_
                        refine geO_X3_0 (pc := 98) cx inX3_total_X3 kX3_total_12 hw dX3_total_98 ?_
                        refine geO_X4_1 (pc := 101) cx inX3_total_X4 kX3_total_190 hw dX3_total_101 ?_
                        exact hret 104 _ _ (A, V) _ _ rfl dX3_total_104 h hw
                      · have h := h.2 e41
                        by_cases e42 : x1 = (11 : Int32)
                        · have h := h.1 e42
                          refine lv_tableIn (pc := 1) (off := 104) (tgt := 105) hx hb dX3_total_1 (by rw [e42]; decide) (by rw [e42]; decide) (by rw [e42]; rfl) (by decide) ?_
                          refine lv_aload_n (pc := 105) hx hb dX3_total_105 rfl (lv_at hl 0 rfl) ?_
                          refine geO_X3_5 (pc := 106) cx inX3_total_X3 kX3_total_39 hw dX3_total_106 ?_
                          exact hret 109 _ _ (A, V) _ _ rfl dX3_total_109 h hw
                        · have h := h.2 e42
                          by_cases e43 : x1 = (12 : Int32)
                          · have h := h.1 e43
                            refine lv_tableIn (pc := 1) (off := 109) (tgt := 110) hx hb dX3_total_1 (by rw [e43]; decide) (by rw [e43]; decide) (by rw [e43]; rfl) (by decide) ?_
                            refine lv_aload_n (pc := 110) hx hb dX3_total_110 rfl (lv_at hl 0 rfl) ?_
                            refine geO_X3_6 (pc := 111) cx inX3_total_X3 kX3_total_43 hw dX3_total_111 ?_
                            exact hret 114 _ _ (A, V) _ _ rfl dX3_total_114 h hw
                          · have h := h.2 e43
                            refine lv_tableOut (pc := 1) (tgt := 115) hx hb dX3_total_1 (tsw 12 (by decide) (fun i hi => match i, hi with | 0, _ => e1 | 1, _ => e2 | 2, _ => e3 | 3, _ => e4 | 4, _ => e5 | 5, _ => e11 | 6, _ => e17 | 7, _ => e23 | 8, _ => e29 | 9, _ => e35 | 10, _ => e41 | 11, _ => e42 | 12, _ => e43 | _ + 13, hi => absurd hi (by omega))) (by decide) ?_
                            refine lv_aload_n (pc := 115) hx hb dX3_total_115 rfl (lv_at hl 0 rfl) ?_
                            refine geO_X3_3 (pc := 116) cx inX3_total_X3 kX3_total_35 hw dX3_total_116 ?_
                            refine lv_iload_n (pc := 119) hx hb dX3_total_119 rfl (lv_at hl 1 rfl) ?_
                            refine lv_iconst (pc := 120) (v := (4 : Int32)) hx hb dX3_total_120 (by decide) ?_
                            refine lv_isub (pc := 121) hx hb dX3_total_121 ?_
                            refine callVi (pc := 122) (rest := []) (c1 := 0) (s1 := 0) cx hw hl (metX2_inState l D cI cZ ad H.size A V (x1 - (4 : Int32)) _ h) (fun hts => cwV 1 hts gX3_total_X2_inState rfl rfl rfl (by decide +kernel) ⟨Nat.le_of_ble_eq_true rfl, Nat.le_of_ble_eq_true rfl⟩) SUB.rf [0, 1] rfl 4 (ci := 2) rfl rfl rfl (JN.rf) rfl rfl (Nat.le_of_ble_eq_true rfl) ⟨Nat.le_of_ble_eq_true rfl, Nat.le_of_ble_eq_true rfl⟩ rfl rfl dX3_total_122 (fun r44 u H locs h hw => ?_)
                            obtain ⟨A_47, V_48⟩ := u
                            exact hret 125 _ _ (A_47, V_48) _ _ rfl dX3_total_125 h hw
def wpX3_total (A : SA) (V : SV) (x1 : Int32) (Q : Int32 → SA → SV → Prop) : Prop := wb_X3_total_0 Q A V x1
set_option maxHeartbeats 4000000 in
set_option maxRecDepth 100000 in
theorem metX3_total (l : Launch) (D : va_G) (cI cZ : ClassId) (ad : Nat → Nat) (sz : Nat) (A : SA) (V : SV) (x1 : Int32) (Q : Int32 → SA → SV → Prop) (h : wpX3_total A V x1 Q) : Met l yX3_total wsX3_total rmX3_total (PcW D [(cI, .int), (cZ, .boolean)] (wO ad cI cZ A V) sz [.ref (ad 0), .int x1]) (QiW D [(cI, .int), (cZ, .boolean)] (wO ad cI cZ A V) sz (fun u : SA × SV => (wO ad cI cZ u.1 u.2)) (fun r u => Q r u.1 u.2)) rmX3_total.cells rmX3_total.slots (va_A (wO ad cI cZ A V) sz) := by
  refine startI (plainFor_of_name (by decide)) rfl (Nat.le_of_ble_eq_true rfl) ?_
  intro p e s m args below meth c A0 Z cx hw hret ls hl
  exact wk_X3_total_0 Q cx hret A V x1 h _ _ _ hw hl
abbrev rmX4_begin : Room := { frames := 0, cells := 0, slots := 0, locals := 0 }
theorem inX4_begin_X4 : ∀ w ∈ wsX40, w ∈ wsX4_begin := by decide +kernel
theorem kX4_begin_18 : Cond.fieldLink RX4 18 "DrownedPost$Tides" "count" "I" ∈ wsX4_begin := by decide +kernel
theorem kX4_begin_9 : Cond.fieldLink RX4 9 "DrownedPost$Tides" "heights" "[I" ∈ wsX4_begin := by decide +kernel
def wb_X4_begin_0 (Q : SA → SV → Prop) (A : SA) (V : SV) (x1 : Int32) : Prop := (vp_in (0 : Int32) 30 ∧ (∀ A_1 : SA, A_1 = up A 0 (0 : Int32).toNatClampNeg x1 → (∀ V_2 : SV, V_2 = uv V 0 (1 : Int32) → Q A_1 V_2)))
set_option maxHeartbeats 4000000 in
set_option maxRecDepth 100000 in
theorem wk_X4_begin_0 (Q : SA → SV → Prop) (cx : CX RX4 cX4_begin 2 wsX4_begin D [(cI, .int), (cZ, .boolean)] p s m args c A0) (hret : ∀ (pc : Nat) (ls : Array Slot) (u : SA × SV) (H : Heap) (locs : List Loc), decode cX4_begin pc = .ok (.return_, 1) → Q u.1 u.2 → WS D s A0 (wO ad cI cZ u.1 u.2) H locs → W p l e rmX4_begin s m args below meth c H locs rmX4_begin.cells rmX4_begin.slots Z (F0 m pc ls []))  : ∀ (A : SA) (V : SV) (x1 : Int32) (h : wb_X4_begin_0 Q A V x1) (H : Heap) (locs : List Loc) (ls : Array Slot) (hw : WS D s A0 (wO ad cI cZ A V) H locs) (hl : lv_has ls 2 [(0, .ref (ad 1)), (1, .int x1)]), W p l e rmX4_begin s m args below meth c H locs 0 0 Z (F0 m 0 ls []) := by
  obtain ⟨hx, hb, hml, hown, hts, hK, hA⟩ := id cx
  intro A V x1 h H locs ls hw hl
  refine lv_aload_n (pc := 0) hx hb dX4_begin_0 rfl (lv_at hl 0 rfl) ?_
  refine geO_X4_0 (pc := 1) cx inX4_begin_X4 kX4_begin_9 hw dX4_begin_1 ?_
  refine lv_iconst (pc := 4) (v := (0 : Int32)) hx hb dX4_begin_4 (by decide) ?_
  refine lv_iload_n (pc := 5) hx hb dX4_begin_5 rfl (lv_at hl 1 rfl) ?_
  refine asO_0 (pc := 6) cx hw h.1 dX4_begin_6 (fun A_1 eA_1 H locs hw => ?_)
  have h := h.2 A_1 eA_1
  refine lv_aload_n (pc := 7) hx hb dX4_begin_7 rfl (lv_at hl 0 rfl) ?_
  refine lv_iconst (pc := 8) (v := (1 : Int32)) hx hb dX4_begin_8 (by decide) ?_
  refine puO_X4_1 (pc := 9) cx inX4_begin_X4 kX4_begin_18 hw dX4_begin_9 (fun V_2 eV_2 H locs hw => ?_)
  have h := h V_2 eV_2
  exact hret 12 _ (A_1, V_2) _ _ dX4_begin_12 h hw
def wpX4_begin (A : SA) (V : SV) (x1 : Int32) (Q : SA → SV → Prop) : Prop := wb_X4_begin_0 Q A V x1
set_option maxHeartbeats 4000000 in
set_option maxRecDepth 100000 in
theorem metX4_begin (l : Launch) (D : va_G) (cI cZ : ClassId) (ad : Nat → Nat) (sz : Nat) (A : SA) (V : SV) (x1 : Int32) (Q : SA → SV → Prop) (h : wpX4_begin A V x1 Q) : Met l yX4_begin wsX4_begin rmX4_begin (PcW D [(cI, .int), (cZ, .boolean)] (wO ad cI cZ A V) sz [.ref (ad 1), .int x1]) (QvW D [(cI, .int), (cZ, .boolean)] (wO ad cI cZ A V) sz (fun u : SA × SV => (wO ad cI cZ u.1 u.2)) (fun u => Q u.1 u.2)) rmX4_begin.cells rmX4_begin.slots (va_A (wO ad cI cZ A V) sz) := by
  refine startV (plainFor_of_name (by decide)) rfl (Nat.le_of_ble_eq_true rfl) ?_
  intro p e s m args below meth c A0 Z cx hw hret ls hl
  exact wk_X4_begin_0 Q cx hret A V x1 h _ _ _ hw hl
abbrev rmX4_append : Room := { frames := 0, cells := 0, slots := 0, locals := 0 }
theorem inX4_append_X4 : ∀ w ∈ wsX40, w ∈ wsX4_append := by decide +kernel
theorem kX4_append_18 : Cond.fieldLink RX4 18 "DrownedPost$Tides" "count" "I" ∈ wsX4_append := by decide +kernel
theorem kX4_append_9 : Cond.fieldLink RX4 9 "DrownedPost$Tides" "heights" "[I" ∈ wsX4_append := by decide +kernel
def wb_X4_append_0 (Q : SA → SV → Prop) (A : SA) (V : SV) (x1 : Int32) : Prop := (((30 : Int32) ≤ (V 0) → Q A V) ∧ (¬ ((30 : Int32) ≤ (V 0)) → (vp_in (V 0) 30 ∧ (∀ A_2 : SA, A_2 = up A 0 (V 0).toNatClampNeg x1 → (∀ V_3 : SV, V_3 = uv V 0 ((V 0) + (1 : Int32)) → Q A_2 V_3)))))
set_option maxHeartbeats 4000000 in
set_option maxRecDepth 100000 in
theorem wk_X4_append_0 (Q : SA → SV → Prop) (cx : CX RX4 cX4_append 2 wsX4_append D [(cI, .int), (cZ, .boolean)] p s m args c A0) (hret : ∀ (pc : Nat) (ls : Array Slot) (u : SA × SV) (H : Heap) (locs : List Loc), decode cX4_append pc = .ok (.return_, 1) → Q u.1 u.2 → WS D s A0 (wO ad cI cZ u.1 u.2) H locs → W p l e rmX4_append s m args below meth c H locs rmX4_append.cells rmX4_append.slots Z (F0 m pc ls []))  : ∀ (A : SA) (V : SV) (x1 : Int32) (h : wb_X4_append_0 Q A V x1) (H : Heap) (locs : List Loc) (ls : Array Slot) (hw : WS D s A0 (wO ad cI cZ A V) H locs) (hl : lv_has ls 2 [(0, .ref (ad 1)), (1, .int x1)]), W p l e rmX4_append s m args below meth c H locs 0 0 Z (F0 m 0 ls []) := by
  obtain ⟨hx, hb, hml, hown, hts, hK, hA⟩ := id cx
  intro A V x1 h H locs ls hw hl
  refine lv_aload_n (pc := 0) hx hb dX4_append_0 rfl (lv_at hl 0 rfl) ?_
  refine geO_X4_1 (pc := 1) cx inX4_append_X4 kX4_append_18 hw dX4_append_1 ?_
  refine lv_bipush (pc := 4) (v := (30 : Int32)) hx hb dX4_append_4 (by decide) ?_
  refine lv_icmp_ge (pc := 6) (tgt := 29) hx hb dX4_append_6 (by decide) (fun c1 => ?_) (fun c1 => ?_)
  · have h := h.1 c1
    exact hret 29 _ (A, V) _ _ dX4_append_29 h hw
  · have h := h.2 c1
    refine lv_aload_n (pc := 9) hx hb dX4_append_9 rfl (lv_at hl 0 rfl) ?_
    refine geO_X4_0 (pc := 10) cx inX4_append_X4 kX4_append_9 hw dX4_append_10 ?_
    refine lv_aload_n (pc := 13) hx hb dX4_append_13 rfl (lv_at hl 0 rfl) ?_
    refine geO_X4_1 (pc := 14) cx inX4_append_X4 kX4_append_18 hw dX4_append_14 ?_
    refine lv_iload_n (pc := 17) hx hb dX4_append_17 rfl (lv_at hl 1 rfl) ?_
    refine asO_0 (pc := 18) cx hw h.1 dX4_append_18 (fun A_2 eA_2 H locs hw => ?_)
    have h := h.2 A_2 eA_2
    refine lv_aload_n (pc := 19) hx hb dX4_append_19 rfl (lv_at hl 0 rfl) ?_
    refine lv_dup (pc := 20) hx hb dX4_append_20 rfl ?_
    refine geO_X4_1 (pc := 21) cx inX4_append_X4 kX4_append_18 hw dX4_append_21 ?_
    refine lv_iconst (pc := 24) (v := (1 : Int32)) hx hb dX4_append_24 (by decide) ?_
    refine lv_iadd (pc := 25) hx hb dX4_append_25 ?_
    refine puO_X4_1 (pc := 26) cx inX4_append_X4 kX4_append_18 hw dX4_append_26 (fun V_3 eV_3 H locs hw => ?_)
    have h := h V_3 eV_3
    exact hret 29 _ (A_2, V_3) _ _ dX4_append_29 h hw
def wpX4_append (A : SA) (V : SV) (x1 : Int32) (Q : SA → SV → Prop) : Prop := wb_X4_append_0 Q A V x1
set_option maxHeartbeats 4000000 in
set_option maxRecDepth 100000 in
theorem metX4_append (l : Launch) (D : va_G) (cI cZ : ClassId) (ad : Nat → Nat) (sz : Nat) (A : SA) (V : SV) (x1 : Int32) (Q : SA → SV → Prop) (h : wpX4_append A V x1 Q) : Met l yX4_append wsX4_append rmX4_append (PcW D [(cI, .int), (cZ, .boolean)] (wO ad cI cZ A V) sz [.ref (ad 1), .int x1]) (QvW D [(cI, .int), (cZ, .boolean)] (wO ad cI cZ A V) sz (fun u : SA × SV => (wO ad cI cZ u.1 u.2)) (fun u => Q u.1 u.2)) rmX4_append.cells rmX4_append.slots (va_A (wO ad cI cZ A V) sz) := by
  refine startV (plainFor_of_name (by decide)) rfl (Nat.le_of_ble_eq_true rfl) ?_
  intro p e s m args below meth c A0 Z cx hw hret ls hl
  exact wk_X4_append_0 Q cx hret A V x1 h _ _ _ hw hl
end GENV
