section GENV
variable {p : Program} {l : Launch} {e : Env} {s : State} {m : MethodId} {args : Array Value} {below : List Frame} {meth : Method} {c : Code} {A0 : Nat → Prop} {Z : State → Prop} {D : va_G} {cI cZ : ClassId} {ad : Nat → Nat} {tys : TYS} {xa : Nat} {ad2 : Nat → Nat}
abbrev rmX4_copyFrom : Room := { frames := 1, cells := 0, slots := 0, locals := 80 }
theorem inX4_copyFrom_X4 : ∀ w ∈ wsX40, w ∈ wsX4_copyFrom := by decide +kernel
theorem kX4_copyFrom_18 : Cond.fieldLink RX4 18 "DrownedPost$Tides" "count" "I" ∈ wsX4_copyFrom := by decide +kernel
theorem kX4_copyFrom_22 : Cond.methodLink RX4 22 arraycopyName ∈ wsX4_copyFrom := by decide +kernel
theorem kX4_copyFrom_9 : Cond.fieldLink RX4 9 "DrownedPost$Tides" "heights" "[I" ∈ wsX4_copyFrom := by decide +kernel
theorem kX4_copyFrom_w_initialized__java_lang_System_ : Cond.initialized "java/lang/System" ∈ wsX4_copyFrom := by decide +kernel
theorem kX4_copyFrom_w_native_arraycopyName : Cond.native arraycopyName ∈ wsX4_copyFrom := by decide +kernel
theorem kX4_copyFrom_w_static_arraycopyName : Cond.static arraycopyName ∈ wsX4_copyFrom := by decide +kernel
def wb_X4_copyFrom_0 (Q : SA → SV → SA → SV → Prop) (A : SA) (V : SV) (A2 : SA) (V2 : SV) : Prop := (∀ V_1 : SV, V_1 = uv V 0 (V2 0) → (¬ (0 : Int32) < 0 ∧ ¬ (0 : Int32) < 0 ∧ ¬ (V_1 0) < 0 ∧ (0 : Int32).toNatClampNeg + (V_1 0).toNatClampNeg ≤ 30 ∧ (0 : Int32).toNatClampNeg + (V_1 0).toNatClampNeg ≤ 30 ∧ (∀ A_2 : SA, A_2 = ua A 0 (va_cpy (A2 0) (A 0) (0 : Int32).toNatClampNeg (0 : Int32).toNatClampNeg (V_1 0).toNatClampNeg) → Q A_2 V_1 A2 V2)))
set_option maxHeartbeats 4000000 in
set_option maxRecDepth 100000 in
theorem wk_X4_copyFrom_0 (Q : SA → SV → SA → SV → Prop) (cx : CX RX4 cX4_copyFrom 2 wsX4_copyFrom D [(cI, .int), (cZ, .boolean)] p s m args c A0) (hret : ∀ (pc : Nat) (ls : Array Slot) (u : SA × SV × SA × SV) (H : Heap) (locs : List Loc), decode cX4_copyFrom pc = .ok (.return_, 1) → Q u.1 u.2.1 u.2.2.1 u.2.2.2 → WS D s A0 (wC ad ad2 cI cZ u.1 u.2.1 u.2.2.1 u.2.2.2) H locs → W p l e rmX4_copyFrom s m args below meth c H locs rmX4_copyFrom.cells rmX4_copyFrom.slots Z (F0 m pc ls []))  : ∀ (A : SA) (V : SV) (A2 : SA) (V2 : SV) (h : wb_X4_copyFrom_0 Q A V A2 V2) (H : Heap) (locs : List Loc) (ls : Array Slot) (hw : WS D s A0 (wC ad ad2 cI cZ A V A2 V2) H locs) (hl : lv_has ls 2 [(0, .ref (ad 1)), (1, .ref (ad2 1))]), W p l e rmX4_copyFrom s m args below meth c H locs 0 0 Z (F0 m 0 ls []) := by
  obtain ⟨hx, hb, hml, hown, hts, hK, hA⟩ := id cx
  intro A V A2 V2 h H locs ls hw hl
  refine lv_aload_n (pc := 0) hx hb dX4_copyFrom_0 rfl (lv_at hl 0 rfl) ?_
  refine lv_aload_n (pc := 1) hx hb dX4_copyFrom_1 rfl (lv_at hl 1 rfl) ?_
  refine geC1_X4_1 (pc := 2) cx inX4_copyFrom_X4 kX4_copyFrom_18 hw dX4_copyFrom_2 ?_
  refine puC0_X4_1 (pc := 5) cx inX4_copyFrom_X4 kX4_copyFrom_18 hw dX4_copyFrom_5 (fun V_1 eV_1 H locs hw => ?_)
  have h := h V_1 eV_1
  refine lv_aload_n (pc := 8) hx hb dX4_copyFrom_8 rfl (lv_at hl 1 rfl) ?_
  refine geC1_X4_0 (pc := 9) cx inX4_copyFrom_X4 kX4_copyFrom_9 hw dX4_copyFrom_9 ?_
  refine lv_iconst (pc := 12) (v := (0 : Int32)) hx hb dX4_copyFrom_12 (by decide) ?_
  refine lv_aload_n (pc := 13) hx hb dX4_copyFrom_13 rfl (lv_at hl 0 rfl) ?_
  refine geC0_X4_0 (pc := 14) cx inX4_copyFrom_X4 kX4_copyFrom_9 hw dX4_copyFrom_14 ?_
  refine lv_iconst (pc := 17) (v := (0 : Int32)) hx hb dX4_copyFrom_17 (by decide) ?_
  refine lv_aload_n (pc := 18) hx hb dX4_copyFrom_18 rfl (lv_at hl 0 rfl) ?_
  refine geC0_X4_1 (pc := 19) cx inX4_copyFrom_X4 kX4_copyFrom_18 hw dX4_copyFrom_19 ?_
  obtain ⟨A_2, eA_2⟩ : ∃ z, z = ua A 0 (va_cpy (A2 0) (A 0) (0 : Int32).toNatClampNeg (0 : Int32).toNatClampNeg (V_1 0).toNatClampNeg) := ⟨_, rfl⟩
  refine cpI (pc := 22) cx hl (hts _ kX4_copyFrom_22) (hts _ kX4_copyFrom_w_native_arraycopyName) (hts _ kX4_copyFrom_w_static_arraycopyName) (hts _ kX4_copyFrom_w_initialized__java_lang_System_) hw 30 5 0 0 rfl rfl rfl rfl h.1 h.2.1 h.2.2.1 h.2.2.2.1 h.2.2.2.2.1 (Nat.le_of_ble_eq_true rfl) (Nat.le_of_ble_eq_true rfl) (ws1 := wC ad ad2 cI cZ A_2 V_1 A2 V2) (by rw [eA_2]; rfl) dX4_copyFrom_22 (fun H locs hw => ?_)
  have h := h.2.2.2.2.2 A_2 eA_2
  exact hret 25 _ (A_2, V_1, A2, V2) _ _ dX4_copyFrom_25 h hw
def wpX4_copyFrom (A : SA) (V : SV) (A2 : SA) (V2 : SV)  (Q : SA → SV → SA → SV → Prop) : Prop := wb_X4_copyFrom_0 Q A V A2 V2
set_option maxHeartbeats 4000000 in
set_option maxRecDepth 100000 in
theorem metX4_copyFrom (l : Launch) (D : va_G) (cI cZ : ClassId) (ad ad2 : Nat → Nat) (sz : Nat) (A : SA) (V : SV) (A2 : SA) (V2 : SV)  (Q : SA → SV → SA → SV → Prop) (h : wpX4_copyFrom A V A2 V2  Q) : Met l yX4_copyFrom wsX4_copyFrom rmX4_copyFrom (PcW D [(cI, .int), (cZ, .boolean)] (wC ad ad2 cI cZ A V A2 V2) sz [.ref (ad 1), .ref (ad2 1)]) (QvW D [(cI, .int), (cZ, .boolean)] (wC ad ad2 cI cZ A V A2 V2) sz (fun u : SA × SV × SA × SV => (wC ad ad2 cI cZ u.1 u.2.1 u.2.2.1 u.2.2.2)) (fun u => Q u.1 u.2.1 u.2.2.1 u.2.2.2)) rmX4_copyFrom.cells rmX4_copyFrom.slots (va_A (wC ad ad2 cI cZ A V A2 V2) sz) := by
  refine startV (plainFor_of_name (by decide)) rfl (Nat.le_of_ble_eq_true rfl) ?_
  intro p e s m args below meth c A0 Z cx hw hret ls hl
  exact wk_X4_copyFrom_0 Q cx hret A V A2 V2 h _ _ _ hw hl
abbrev rmX0_copyFrom : Room := { frames := 1, cells := 0, slots := 0, locals := 80 }
theorem inX0_copyFrom_X0 : ∀ w ∈ wsX00, w ∈ wsX0_copyFrom := by decide +kernel
theorem kX0_copyFrom_15 : Cond.fieldLink RX0 15 "DrownedPost$Bins" "room" "[I" ∈ wsX0_copyFrom := by decide +kernel
theorem kX0_copyFrom_18 : Cond.fieldLink RX0 18 "DrownedPost$Bins" "filled" "[I" ∈ wsX0_copyFrom := by decide +kernel
theorem kX0_copyFrom_21 : Cond.fieldLink RX0 21 "DrownedPost$Bins" "count" "I" ∈ wsX0_copyFrom := by decide +kernel
theorem kX0_copyFrom_35 : Cond.methodLink RX0 35 arraycopyName ∈ wsX0_copyFrom := by decide +kernel
theorem kX0_copyFrom_9 : Cond.fieldLink RX0 9 "DrownedPost$Bins" "height" "[I" ∈ wsX0_copyFrom := by decide +kernel
theorem kX0_copyFrom_w_initialized__java_lang_System_ : Cond.initialized "java/lang/System" ∈ wsX0_copyFrom := by decide +kernel
theorem kX0_copyFrom_w_native_arraycopyName : Cond.native arraycopyName ∈ wsX0_copyFrom := by decide +kernel
theorem kX0_copyFrom_w_static_arraycopyName : Cond.static arraycopyName ∈ wsX0_copyFrom := by decide +kernel
def wb_X0_copyFrom_0 (Q : SA → SV → SA → SV → Prop) (A : SA) (V : SV) (A2 : SA) (V2 : SV) : Prop := (∀ V_1 : SV, V_1 = uv V 1 (V2 1) → (¬ (0 : Int32) < 0 ∧ ¬ (0 : Int32) < 0 ∧ ¬ (V_1 1) < 0 ∧ (0 : Int32).toNatClampNeg + (V_1 1).toNatClampNeg ≤ 10 ∧ (0 : Int32).toNatClampNeg + (V_1 1).toNatClampNeg ≤ 10 ∧ (∀ A_2 : SA, A_2 = ua A 1 (va_cpy (A2 1) (A 1) (0 : Int32).toNatClampNeg (0 : Int32).toNatClampNeg (V_1 1).toNatClampNeg) → (¬ (0 : Int32) < 0 ∧ ¬ (0 : Int32) < 0 ∧ ¬ (V_1 1) < 0 ∧ (0 : Int32).toNatClampNeg + (V_1 1).toNatClampNeg ≤ 10 ∧ (0 : Int32).toNatClampNeg + (V_1 1).toNatClampNeg ≤ 10 ∧ (∀ A_3 : SA, A_3 = ua A_2 2 (va_cpy (A2 2) (A_2 2) (0 : Int32).toNatClampNeg (0 : Int32).toNatClampNeg (V_1 1).toNatClampNeg) → (¬ (0 : Int32) < 0 ∧ ¬ (0 : Int32) < 0 ∧ ¬ (V_1 1) < 0 ∧ (0 : Int32).toNatClampNeg + (V_1 1).toNatClampNeg ≤ 10 ∧ (0 : Int32).toNatClampNeg + (V_1 1).toNatClampNeg ≤ 10 ∧ (∀ A_4 : SA, A_4 = ua A_3 3 (va_cpy (A2 3) (A_3 3) (0 : Int32).toNatClampNeg (0 : Int32).toNatClampNeg (V_1 1).toNatClampNeg) → Q A_4 V_1 A2 V2)))))))
set_option maxHeartbeats 4000000 in
set_option maxRecDepth 100000 in
theorem wk_X0_copyFrom_0 (Q : SA → SV → SA → SV → Prop) (cx : CX RX0 cX0_copyFrom 2 wsX0_copyFrom D [(cI, .int), (cZ, .boolean)] p s m args c A0) (hret : ∀ (pc : Nat) (ls : Array Slot) (u : SA × SV × SA × SV) (H : Heap) (locs : List Loc), decode cX0_copyFrom pc = .ok (.return_, 1) → Q u.1 u.2.1 u.2.2.1 u.2.2.2 → WS D s A0 (wC ad ad2 cI cZ u.1 u.2.1 u.2.2.1 u.2.2.2) H locs → W p l e rmX0_copyFrom s m args below meth c H locs rmX0_copyFrom.cells rmX0_copyFrom.slots Z (F0 m pc ls []))  : ∀ (A : SA) (V : SV) (A2 : SA) (V2 : SV) (h : wb_X0_copyFrom_0 Q A V A2 V2) (H : Heap) (locs : List Loc) (ls : Array Slot) (hw : WS D s A0 (wC ad ad2 cI cZ A V A2 V2) H locs) (hl : lv_has ls 2 [(0, .ref (ad 2)), (1, .ref (ad2 2))]), W p l e rmX0_copyFrom s m args below meth c H locs 0 0 Z (F0 m 0 ls []) := by
  obtain ⟨hx, hb, hml, hown, hts, hK, hA⟩ := id cx
  intro A V A2 V2 h H locs ls hw hl
  refine lv_aload_n (pc := 0) hx hb dX0_copyFrom_0 rfl (lv_at hl 0 rfl) ?_
  refine lv_aload_n (pc := 1) hx hb dX0_copyFrom_1 rfl (lv_at hl 1 rfl) ?_
  refine geC1_X0_3 (pc := 2) cx inX0_copyFrom_X0 kX0_copyFrom_21 hw dX0_copyFrom_2 ?_
  refine puC0_X0_3 (pc := 5) cx inX0_copyFrom_X0 kX0_copyFrom_21 hw dX0_copyFrom_5 (fun V_1 eV_1 H locs hw => ?_)
  have h := h V_1 eV_1
  refine lv_aload_n (pc := 8) hx hb dX0_copyFrom_8 rfl (lv_at hl 1 rfl) ?_
  refine geC1_X0_0 (pc := 9) cx inX0_copyFrom_X0 kX0_copyFrom_9 hw dX0_copyFrom_9 ?_
  refine lv_iconst (pc := 12) (v := (0 : Int32)) hx hb dX0_copyFrom_12 (by decide) ?_
  refine lv_aload_n (pc := 13) hx hb dX0_copyFrom_13 rfl (lv_at hl 0 rfl) ?_
  refine geC0_X0_0 (pc := 14) cx inX0_copyFrom_X0 kX0_copyFrom_9 hw dX0_copyFrom_14 ?_
  refine lv_iconst (pc := 17) (v := (0 : Int32)) hx hb dX0_copyFrom_17 (by decide) ?_
  refine lv_aload_n (pc := 18) hx hb dX0_copyFrom_18 rfl (lv_at hl 0 rfl) ?_
  refine geC0_X0_3 (pc := 19) cx inX0_copyFrom_X0 kX0_copyFrom_21 hw dX0_copyFrom_19 ?_
  obtain ⟨A_2, eA_2⟩ : ∃ z, z = ua A 1 (va_cpy (A2 1) (A 1) (0 : Int32).toNatClampNeg (0 : Int32).toNatClampNeg (V_1 1).toNatClampNeg) := ⟨_, rfl⟩
  refine cpI (pc := 22) cx hl (hts _ kX0_copyFrom_35) (hts _ kX0_copyFrom_w_native_arraycopyName) (hts _ kX0_copyFrom_w_static_arraycopyName) (hts _ kX0_copyFrom_w_initialized__java_lang_System_) hw 31 6 0 0 rfl rfl rfl rfl h.1 h.2.1 h.2.2.1 h.2.2.2.1 h.2.2.2.2.1 (Nat.le_of_ble_eq_true rfl) (Nat.le_of_ble_eq_true rfl) (ws1 := wC ad ad2 cI cZ A_2 V_1 A2 V2) (by rw [eA_2]; rfl) dX0_copyFrom_22 (fun H locs hw => ?_)
  have h := h.2.2.2.2.2 A_2 eA_2
  refine lv_aload_n (pc := 25) hx hb dX0_copyFrom_25 rfl (lv_at hl 1 rfl) ?_
  refine geC1_X0_1 (pc := 26) cx inX0_copyFrom_X0 kX0_copyFrom_15 hw dX0_copyFrom_26 ?_
  refine lv_iconst (pc := 29) (v := (0 : Int32)) hx hb dX0_copyFrom_29 (by decide) ?_
  refine lv_aload_n (pc := 30) hx hb dX0_copyFrom_30 rfl (lv_at hl 0 rfl) ?_
  refine geC0_X0_1 (pc := 31) cx inX0_copyFrom_X0 kX0_copyFrom_15 hw dX0_copyFrom_31 ?_
  refine lv_iconst (pc := 34) (v := (0 : Int32)) hx hb dX0_copyFrom_34 (by decide) ?_
  refine lv_aload_n (pc := 35) hx hb dX0_copyFrom_35 rfl (lv_at hl 0 rfl) ?_
  refine geC0_X0_3 (pc := 36) cx inX0_copyFrom_X0 kX0_copyFrom_21 hw dX0_copyFrom_36 ?_
  obtain ⟨A_3, eA_3⟩ : ∃ z, z = ua A_2 2 (va_cpy (A2 2) (A_2 2) (0 : Int32).toNatClampNeg (0 : Int32).toNatClampNeg (V_1 1).toNatClampNeg) := ⟨_, rfl⟩
  refine cpI (pc := 39) cx hl (hts _ kX0_copyFrom_35) (hts _ kX0_copyFrom_w_native_arraycopyName) (hts _ kX0_copyFrom_w_static_arraycopyName) (hts _ kX0_copyFrom_w_initialized__java_lang_System_) hw 32 7 0 0 rfl rfl rfl rfl h.1 h.2.1 h.2.2.1 h.2.2.2.1 h.2.2.2.2.1 (Nat.le_of_ble_eq_true rfl) (Nat.le_of_ble_eq_true rfl) (ws1 := wC ad ad2 cI cZ A_3 V_1 A2 V2) (by rw [eA_3]; rfl) dX0_copyFrom_39 (fun H locs hw => ?_)
  have h := h.2.2.2.2.2 A_3 eA_3
  refine lv_aload_n (pc := 42) hx hb dX0_copyFrom_42 rfl (lv_at hl 1 rfl) ?_
  refine geC1_X0_2 (pc := 43) cx inX0_copyFrom_X0 kX0_copyFrom_18 hw dX0_copyFrom_43 ?_
  refine lv_iconst (pc := 46) (v := (0 : Int32)) hx hb dX0_copyFrom_46 (by decide) ?_
  refine lv_aload_n (pc := 47) hx hb dX0_copyFrom_47 rfl (lv_at hl 0 rfl) ?_
  refine geC0_X0_2 (pc := 48) cx inX0_copyFrom_X0 kX0_copyFrom_18 hw dX0_copyFrom_48 ?_
  refine lv_iconst (pc := 51) (v := (0 : Int32)) hx hb dX0_copyFrom_51 (by decide) ?_
  refine lv_aload_n (pc := 52) hx hb dX0_copyFrom_52 rfl (lv_at hl 0 rfl) ?_
  refine geC0_X0_3 (pc := 53) cx inX0_copyFrom_X0 kX0_copyFrom_21 hw dX0_copyFrom_53 ?_
  obtain ⟨A_4, eA_4⟩ : ∃ z, z = ua A_3 3 (va_cpy (A2 3) (A_3 3) (0 : Int32).toNatClampNeg (0 : Int32).toNatClampNeg (V_1 1).toNatClampNeg) := ⟨_, rfl⟩
  refine cpI (pc := 56) cx hl (hts _ kX0_copyFrom_35) (hts _ kX0_copyFrom_w_native_arraycopyName) (hts _ kX0_copyFrom_w_static_arraycopyName) (hts _ kX0_copyFrom_w_initialized__java_lang_System_) hw 33 8 0 0 rfl rfl rfl rfl h.1 h.2.1 h.2.2.1 h.2.2.2.1 h.2.2.2.2.1 (Nat.le_of_ble_eq_true rfl) (Nat.le_of_ble_eq_true rfl) (ws1 := wC ad ad2 cI cZ A_4 V_1 A2 V2) (by rw [eA_4]; rfl) dX0_copyFrom_56 (fun H locs hw => ?_)
  have h := h.2.2.2.2.2 A_4 eA_4
  exact hret 59 _ (A_4, V_1, A2, V2) _ _ dX0_copyFrom_59 h hw
def wpX0_copyFrom (A : SA) (V : SV) (A2 : SA) (V2 : SV)  (Q : SA → SV → SA → SV → Prop) : Prop := wb_X0_copyFrom_0 Q A V A2 V2
set_option maxHeartbeats 4000000 in
set_option maxRecDepth 100000 in
theorem metX0_copyFrom (l : Launch) (D : va_G) (cI cZ : ClassId) (ad ad2 : Nat → Nat) (sz : Nat) (A : SA) (V : SV) (A2 : SA) (V2 : SV)  (Q : SA → SV → SA → SV → Prop) (h : wpX0_copyFrom A V A2 V2  Q) : Met l yX0_copyFrom wsX0_copyFrom rmX0_copyFrom (PcW D [(cI, .int), (cZ, .boolean)] (wC ad ad2 cI cZ A V A2 V2) sz [.ref (ad 2), .ref (ad2 2)]) (QvW D [(cI, .int), (cZ, .boolean)] (wC ad ad2 cI cZ A V A2 V2) sz (fun u : SA × SV × SA × SV => (wC ad ad2 cI cZ u.1 u.2.1 u.2.2.1 u.2.2.2)) (fun u => Q u.1 u.2.1 u.2.2.1 u.2.2.2)) rmX0_copyFrom.cells rmX0_copyFrom.slots (va_A (wC ad ad2 cI cZ A V A2 V2) sz) := by
  refine startV (plainFor_of_name (by decide)) rfl (Nat.le_of_ble_eq_true rfl) ?_
  intro p e s m args below meth c A0 Z cx hw hret ls hl
  exact wk_X0_copyFrom_0 Q cx hret A V A2 V2 h _ _ _ hw hl
abbrev rmX1_copyFrom : Room := { frames := 1, cells := 0, slots := 0, locals := 80 }
theorem inX1_copyFrom_X1 : ∀ w ∈ wsX10, w ∈ wsX1_copyFrom := by decide +kernel
theorem kX1_copyFrom_15 : Cond.fieldLink RX1 15 "DrownedPost$Drowned" "n" "[I" ∈ wsX1_copyFrom := by decide +kernel
theorem kX1_copyFrom_18 : Cond.fieldLink RX1 18 "DrownedPost$Drowned" "lag" "[I" ∈ wsX1_copyFrom := by decide +kernel
theorem kX1_copyFrom_21 : Cond.fieldLink RX1 21 "DrownedPost$Drowned" "got" "[I" ∈ wsX1_copyFrom := by decide +kernel
theorem kX1_copyFrom_24 : Cond.fieldLink RX1 24 "DrownedPost$Drowned" "written" "[I" ∈ wsX1_copyFrom := by decide +kernel
theorem kX1_copyFrom_27 : Cond.fieldLink RX1 27 "DrownedPost$Drowned" "count" "I" ∈ wsX1_copyFrom := by decide +kernel
theorem kX1_copyFrom_41 : Cond.methodLink RX1 41 arraycopyName ∈ wsX1_copyFrom := by decide +kernel
theorem kX1_copyFrom_9 : Cond.fieldLink RX1 9 "DrownedPost$Drowned" "height" "[I" ∈ wsX1_copyFrom := by decide +kernel
theorem kX1_copyFrom_w_initialized__java_lang_System_ : Cond.initialized "java/lang/System" ∈ wsX1_copyFrom := by decide +kernel
theorem kX1_copyFrom_w_native_arraycopyName : Cond.native arraycopyName ∈ wsX1_copyFrom := by decide +kernel
theorem kX1_copyFrom_w_static_arraycopyName : Cond.static arraycopyName ∈ wsX1_copyFrom := by decide +kernel
def wb_X1_copyFrom_0 (Q : SA → SV → SA → SV → Prop) (A : SA) (V : SV) (A2 : SA) (V2 : SV) : Prop := (∀ V_1 : SV, V_1 = uv V 2 (V2 2) → (¬ (0 : Int32) < 0 ∧ ¬ (0 : Int32) < 0 ∧ ¬ (V_1 2) < 0 ∧ (0 : Int32).toNatClampNeg + (V_1 2).toNatClampNeg ≤ 16 ∧ (0 : Int32).toNatClampNeg + (V_1 2).toNatClampNeg ≤ 16 ∧ (∀ A_2 : SA, A_2 = ua A 4 (va_cpy (A2 4) (A 4) (0 : Int32).toNatClampNeg (0 : Int32).toNatClampNeg (V_1 2).toNatClampNeg) → (¬ (0 : Int32) < 0 ∧ ¬ (0 : Int32) < 0 ∧ ¬ (V_1 2) < 0 ∧ (0 : Int32).toNatClampNeg + (V_1 2).toNatClampNeg ≤ 16 ∧ (0 : Int32).toNatClampNeg + (V_1 2).toNatClampNeg ≤ 16 ∧ (∀ A_3 : SA, A_3 = ua A_2 5 (va_cpy (A2 5) (A_2 5) (0 : Int32).toNatClampNeg (0 : Int32).toNatClampNeg (V_1 2).toNatClampNeg) → (¬ (0 : Int32) < 0 ∧ ¬ (0 : Int32) < 0 ∧ ¬ (V_1 2) < 0 ∧ (0 : Int32).toNatClampNeg + (V_1 2).toNatClampNeg ≤ 16 ∧ (0 : Int32).toNatClampNeg + (V_1 2).toNatClampNeg ≤ 16 ∧ (∀ A_4 : SA, A_4 = ua A_3 6 (va_cpy (A2 6) (A_3 6) (0 : Int32).toNatClampNeg (0 : Int32).toNatClampNeg (V_1 2).toNatClampNeg) → (¬ (0 : Int32) < 0 ∧ ¬ (0 : Int32) < 0 ∧ ¬ (V_1 2) < 0 ∧ (0 : Int32).toNatClampNeg + (V_1 2).toNatClampNeg ≤ 16 ∧ (0 : Int32).toNatClampNeg + (V_1 2).toNatClampNeg ≤ 16 ∧ (∀ A_5 : SA, A_5 = ua A_4 7 (va_cpy (A2 7) (A_4 7) (0 : Int32).toNatClampNeg (0 : Int32).toNatClampNeg (V_1 2).toNatClampNeg) → (¬ (0 : Int32) < 0 ∧ ¬ (0 : Int32) < 0 ∧ ¬ (V_1 2) < 0 ∧ (0 : Int32).toNatClampNeg + (V_1 2).toNatClampNeg ≤ 16 ∧ (0 : Int32).toNatClampNeg + (V_1 2).toNatClampNeg ≤ 16 ∧ (∀ A_6 : SA, A_6 = ua A_5 8 (va_cpy (A2 8) (A_5 8) (0 : Int32).toNatClampNeg (0 : Int32).toNatClampNeg (V_1 2).toNatClampNeg) → Q A_6 V_1 A2 V2)))))))))))
set_option maxHeartbeats 4000000 in
set_option maxRecDepth 100000 in
theorem wk_X1_copyFrom_0 (Q : SA → SV → SA → SV → Prop) (cx : CX RX1 cX1_copyFrom 2 wsX1_copyFrom D [(cI, .int), (cZ, .boolean)] p s m args c A0) (hret : ∀ (pc : Nat) (ls : Array Slot) (u : SA × SV × SA × SV) (H : Heap) (locs : List Loc), decode cX1_copyFrom pc = .ok (.return_, 1) → Q u.1 u.2.1 u.2.2.1 u.2.2.2 → WS D s A0 (wC ad ad2 cI cZ u.1 u.2.1 u.2.2.1 u.2.2.2) H locs → W p l e rmX1_copyFrom s m args below meth c H locs rmX1_copyFrom.cells rmX1_copyFrom.slots Z (F0 m pc ls []))  : ∀ (A : SA) (V : SV) (A2 : SA) (V2 : SV) (h : wb_X1_copyFrom_0 Q A V A2 V2) (H : Heap) (locs : List Loc) (ls : Array Slot) (hw : WS D s A0 (wC ad ad2 cI cZ A V A2 V2) H locs) (hl : lv_has ls 2 [(0, .ref (ad 3)), (1, .ref (ad2 3))]), W p l e rmX1_copyFrom s m args below meth c H locs 0 0 Z (F0 m 0 ls []) := by
  obtain ⟨hx, hb, hml, hown, hts, hK, hA⟩ := id cx
  intro A V A2 V2 h H locs ls hw hl
  refine lv_aload_n (pc := 0) hx hb dX1_copyFrom_0 rfl (lv_at hl 0 rfl) ?_
  refine lv_aload_n (pc := 1) hx hb dX1_copyFrom_1 rfl (lv_at hl 1 rfl) ?_
  refine geC1_X1_5 (pc := 2) cx inX1_copyFrom_X1 kX1_copyFrom_27 hw dX1_copyFrom_2 ?_
  refine puC0_X1_5 (pc := 5) cx inX1_copyFrom_X1 kX1_copyFrom_27 hw dX1_copyFrom_5 (fun V_1 eV_1 H locs hw => ?_)
  have h := h V_1 eV_1
  refine lv_aload_n (pc := 8) hx hb dX1_copyFrom_8 rfl (lv_at hl 1 rfl) ?_
  refine geC1_X1_0 (pc := 9) cx inX1_copyFrom_X1 kX1_copyFrom_9 hw dX1_copyFrom_9 ?_
  refine lv_iconst (pc := 12) (v := (0 : Int32)) hx hb dX1_copyFrom_12 (by decide) ?_
  refine lv_aload_n (pc := 13) hx hb dX1_copyFrom_13 rfl (lv_at hl 0 rfl) ?_
  refine geC0_X1_0 (pc := 14) cx inX1_copyFrom_X1 kX1_copyFrom_9 hw dX1_copyFrom_14 ?_
  refine lv_iconst (pc := 17) (v := (0 : Int32)) hx hb dX1_copyFrom_17 (by decide) ?_
  refine lv_aload_n (pc := 18) hx hb dX1_copyFrom_18 rfl (lv_at hl 0 rfl) ?_
  refine geC0_X1_5 (pc := 19) cx inX1_copyFrom_X1 kX1_copyFrom_27 hw dX1_copyFrom_19 ?_
  obtain ⟨A_2, eA_2⟩ : ∃ z, z = ua A 4 (va_cpy (A2 4) (A 4) (0 : Int32).toNatClampNeg (0 : Int32).toNatClampNeg (V_1 2).toNatClampNeg) := ⟨_, rfl⟩
  refine cpI (pc := 22) cx hl (hts _ kX1_copyFrom_41) (hts _ kX1_copyFrom_w_native_arraycopyName) (hts _ kX1_copyFrom_w_static_arraycopyName) (hts _ kX1_copyFrom_w_initialized__java_lang_System_) hw 34 9 0 0 rfl rfl rfl rfl h.1 h.2.1 h.2.2.1 h.2.2.2.1 h.2.2.2.2.1 (Nat.le_of_ble_eq_true rfl) (Nat.le_of_ble_eq_true rfl) (ws1 := wC ad ad2 cI cZ A_2 V_1 A2 V2) (by rw [eA_2]; rfl) dX1_copyFrom_22 (fun H locs hw => ?_)
  have h := h.2.2.2.2.2 A_2 eA_2
  refine lv_aload_n (pc := 25) hx hb dX1_copyFrom_25 rfl (lv_at hl 1 rfl) ?_
  refine geC1_X1_1 (pc := 26) cx inX1_copyFrom_X1 kX1_copyFrom_15 hw dX1_copyFrom_26 ?_
  refine lv_iconst (pc := 29) (v := (0 : Int32)) hx hb dX1_copyFrom_29 (by decide) ?_
  refine lv_aload_n (pc := 30) hx hb dX1_copyFrom_30 rfl (lv_at hl 0 rfl) ?_
  refine geC0_X1_1 (pc := 31) cx inX1_copyFrom_X1 kX1_copyFrom_15 hw dX1_copyFrom_31 ?_
  refine lv_iconst (pc := 34) (v := (0 : Int32)) hx hb dX1_copyFrom_34 (by decide) ?_
  refine lv_aload_n (pc := 35) hx hb dX1_copyFrom_35 rfl (lv_at hl 0 rfl) ?_
  refine geC0_X1_5 (pc := 36) cx inX1_copyFrom_X1 kX1_copyFrom_27 hw dX1_copyFrom_36 ?_
  obtain ⟨A_3, eA_3⟩ : ∃ z, z = ua A_2 5 (va_cpy (A2 5) (A_2 5) (0 : Int32).toNatClampNeg (0 : Int32).toNatClampNeg (V_1 2).toNatClampNeg) := ⟨_, rfl⟩
  refine cpI (pc := 39) cx hl (hts _ kX1_copyFrom_41) (hts _ kX1_copyFrom_w_native_arraycopyName) (hts _ kX1_copyFrom_w_static_arraycopyName) (hts _ kX1_copyFrom_w_initialized__java_lang_System_) hw 35 10 0 0 rfl rfl rfl rfl h.1 h.2.1 h.2.2.1 h.2.2.2.1 h.2.2.2.2.1 (Nat.le_of_ble_eq_true rfl) (Nat.le_of_ble_eq_true rfl) (ws1 := wC ad ad2 cI cZ A_3 V_1 A2 V2) (by rw [eA_3]; rfl) dX1_copyFrom_39 (fun H locs hw => ?_)
  have h := h.2.2.2.2.2 A_3 eA_3
  refine lv_aload_n (pc := 42) hx hb dX1_copyFrom_42 rfl (lv_at hl 1 rfl) ?_
  refine geC1_X1_2 (pc := 43) cx inX1_copyFrom_X1 kX1_copyFrom_18 hw dX1_copyFrom_43 ?_
  refine lv_iconst (pc := 46) (v := (0 : Int32)) hx hb dX1_copyFrom_46 (by decide) ?_
  refine lv_aload_n (pc := 47) hx hb dX1_copyFrom_47 rfl (lv_at hl 0 rfl) ?_
  refine geC0_X1_2 (pc := 48) cx inX1_copyFrom_X1 kX1_copyFrom_18 hw dX1_copyFrom_48 ?_
  refine lv_iconst (pc := 51) (v := (0 : Int32)) hx hb dX1_copyFrom_51 (by decide) ?_
  refine lv_aload_n (pc := 52) hx hb dX1_copyFrom_52 rfl (lv_at hl 0 rfl) ?_
  refine geC0_X1_5 (pc := 53) cx inX1_copyFrom_X1 kX1_copyFrom_27 hw dX1_copyFrom_53 ?_
  obtain ⟨A_4, eA_4⟩ : ∃ z, z = ua A_3 6 (va_cpy (A2 6) (A_3 6) (0 : Int32).toNatClampNeg (0 : Int32).toNatClampNeg (V_1 2).toNatClampNeg) := ⟨_, rfl⟩
  refine cpI (pc := 56) cx hl (hts _ kX1_copyFrom_41) (hts _ kX1_copyFrom_w_native_arraycopyName) (hts _ kX1_copyFrom_w_static_arraycopyName) (hts _ kX1_copyFrom_w_initialized__java_lang_System_) hw 36 11 0 0 rfl rfl rfl rfl h.1 h.2.1 h.2.2.1 h.2.2.2.1 h.2.2.2.2.1 (Nat.le_of_ble_eq_true rfl) (Nat.le_of_ble_eq_true rfl) (ws1 := wC ad ad2 cI cZ A_4 V_1 A2 V2) (by rw [eA_4]; rfl) dX1_copyFrom_56 (fun H locs hw => ?_)
  have h := h.2.2.2.2.2 A_4 eA_4
  refine lv_aload_n (pc := 59) hx hb dX1_copyFrom_59 rfl (lv_at hl 1 rfl) ?_
  refine geC1_X1_3 (pc := 60) cx inX1_copyFrom_X1 kX1_copyFrom_21 hw dX1_copyFrom_60 ?_
  refine lv_iconst (pc := 63) (v := (0 : Int32)) hx hb dX1_copyFrom_63 (by decide) ?_
  refine lv_aload_n (pc := 64) hx hb dX1_copyFrom_64 rfl (lv_at hl 0 rfl) ?_
  refine geC0_X1_3 (pc := 65) cx inX1_copyFrom_X1 kX1_copyFrom_21 hw dX1_copyFrom_65 ?_
  refine lv_iconst (pc := 68) (v := (0 : Int32)) hx hb dX1_copyFrom_68 (by decide) ?_
  refine lv_aload_n (pc := 69) hx hb dX1_copyFrom_69 rfl (lv_at hl 0 rfl) ?_
  refine geC0_X1_5 (pc := 70) cx inX1_copyFrom_X1 kX1_copyFrom_27 hw dX1_copyFrom_70 ?_
  obtain ⟨A_5, eA_5⟩ : ∃ z, z = ua A_4 7 (va_cpy (A2 7) (A_4 7) (0 : Int32).toNatClampNeg (0 : Int32).toNatClampNeg (V_1 2).toNatClampNeg) := ⟨_, rfl⟩
  refine cpI (pc := 73) cx hl (hts _ kX1_copyFrom_41) (hts _ kX1_copyFrom_w_native_arraycopyName) (hts _ kX1_copyFrom_w_static_arraycopyName) (hts _ kX1_copyFrom_w_initialized__java_lang_System_) hw 37 12 0 0 rfl rfl rfl rfl h.1 h.2.1 h.2.2.1 h.2.2.2.1 h.2.2.2.2.1 (Nat.le_of_ble_eq_true rfl) (Nat.le_of_ble_eq_true rfl) (ws1 := wC ad ad2 cI cZ A_5 V_1 A2 V2) (by rw [eA_5]; rfl) dX1_copyFrom_73 (fun H locs hw => ?_)
  have h := h.2.2.2.2.2 A_5 eA_5
  refine lv_aload_n (pc := 76) hx hb dX1_copyFrom_76 rfl (lv_at hl 1 rfl) ?_
  refine geC1_X1_4 (pc := 77) cx inX1_copyFrom_X1 kX1_copyFrom_24 hw dX1_copyFrom_77 ?_
  refine lv_iconst (pc := 80) (v := (0 : Int32)) hx hb dX1_copyFrom_80 (by decide) ?_
  refine lv_aload_n (pc := 81) hx hb dX1_copyFrom_81 rfl (lv_at hl 0 rfl) ?_
  refine geC0_X1_4 (pc := 82) cx inX1_copyFrom_X1 kX1_copyFrom_24 hw dX1_copyFrom_82 ?_
  refine lv_iconst (pc := 85) (v := (0 : Int32)) hx hb dX1_copyFrom_85 (by decide) ?_
  refine lv_aload_n (pc := 86) hx hb dX1_copyFrom_86 rfl (lv_at hl 0 rfl) ?_
  refine geC0_X1_5 (pc := 87) cx inX1_copyFrom_X1 kX1_copyFrom_27 hw dX1_copyFrom_87 ?_
  obtain ⟨A_6, eA_6⟩ : ∃ z, z = ua A_5 8 (va_cpy (A2 8) (A_5 8) (0 : Int32).toNatClampNeg (0 : Int32).toNatClampNeg (V_1 2).toNatClampNeg) := ⟨_, rfl⟩
  refine cpI (pc := 90) cx hl (hts _ kX1_copyFrom_41) (hts _ kX1_copyFrom_w_native_arraycopyName) (hts _ kX1_copyFrom_w_static_arraycopyName) (hts _ kX1_copyFrom_w_initialized__java_lang_System_) hw 38 13 0 0 rfl rfl rfl rfl h.1 h.2.1 h.2.2.1 h.2.2.2.1 h.2.2.2.2.1 (Nat.le_of_ble_eq_true rfl) (Nat.le_of_ble_eq_true rfl) (ws1 := wC ad ad2 cI cZ A_6 V_1 A2 V2) (by rw [eA_6]; rfl) dX1_copyFrom_90 (fun H locs hw => ?_)
  have h := h.2.2.2.2.2 A_6 eA_6
  exact hret 93 _ (A_6, V_1, A2, V2) _ _ dX1_copyFrom_93 h hw
def wpX1_copyFrom (A : SA) (V : SV) (A2 : SA) (V2 : SV)  (Q : SA → SV → SA → SV → Prop) : Prop := wb_X1_copyFrom_0 Q A V A2 V2
set_option maxHeartbeats 4000000 in
set_option maxRecDepth 100000 in
theorem metX1_copyFrom (l : Launch) (D : va_G) (cI cZ : ClassId) (ad ad2 : Nat → Nat) (sz : Nat) (A : SA) (V : SV) (A2 : SA) (V2 : SV)  (Q : SA → SV → SA → SV → Prop) (h : wpX1_copyFrom A V A2 V2  Q) : Met l yX1_copyFrom wsX1_copyFrom rmX1_copyFrom (PcW D [(cI, .int), (cZ, .boolean)] (wC ad ad2 cI cZ A V A2 V2) sz [.ref (ad 3), .ref (ad2 3)]) (QvW D [(cI, .int), (cZ, .boolean)] (wC ad ad2 cI cZ A V A2 V2) sz (fun u : SA × SV × SA × SV => (wC ad ad2 cI cZ u.1 u.2.1 u.2.2.1 u.2.2.2)) (fun u => Q u.1 u.2.1 u.2.2.1 u.2.2.2)) rmX1_copyFrom.cells rmX1_copyFrom.slots (va_A (wC ad ad2 cI cZ A V A2 V2) sz) := by
  refine startV (plainFor_of_name (by decide)) rfl (Nat.le_of_ble_eq_true rfl) ?_
  intro p e s m args below meth c A0 Z cx hw hret ls hl
  exact wk_X1_copyFrom_0 Q cx hret A V A2 V2 h _ _ _ hw hl
abbrev rmX2_copyFrom : Room := { frames := 1, cells := 0, slots := 0, locals := 80 }
theorem inX2_copyFrom_X2 : ∀ w ∈ wsX20, w ∈ wsX2_copyFrom := by decide +kernel
theorem kX2_copyFrom_15 : Cond.fieldLink RX2 15 "DrownedPost$Letters" "weight" "[I" ∈ wsX2_copyFrom := by decide +kernel
theorem kX2_copyFrom_18 : Cond.fieldLink RX2 18 "DrownedPost$Letters" "seal" "[I" ∈ wsX2_copyFrom := by decide +kernel
theorem kX2_copyFrom_21 : Cond.fieldLink RX2 21 "DrownedPost$Letters" "state" "[I" ∈ wsX2_copyFrom := by decide +kernel
theorem kX2_copyFrom_24 : Cond.fieldLink RX2 24 "DrownedPost$Letters" "growth" "[I" ∈ wsX2_copyFrom := by decide +kernel
theorem kX2_copyFrom_27 : Cond.fieldLink RX2 27 "DrownedPost$Letters" "bin" "[I" ∈ wsX2_copyFrom := by decide +kernel
theorem kX2_copyFrom_30 : Cond.fieldLink RX2 30 "DrownedPost$Letters" "held" "[I" ∈ wsX2_copyFrom := by decide +kernel
theorem kX2_copyFrom_33 : Cond.fieldLink RX2 33 "DrownedPost$Letters" "hoursBefore" "[I" ∈ wsX2_copyFrom := by decide +kernel
theorem kX2_copyFrom_36 : Cond.fieldLink RX2 36 "DrownedPost$Letters" "answered" "[I" ∈ wsX2_copyFrom := by decide +kernel
theorem kX2_copyFrom_39 : Cond.fieldLink RX2 39 "DrownedPost$Letters" "count" "I" ∈ wsX2_copyFrom := by decide +kernel
theorem kX2_copyFrom_57 : Cond.methodLink RX2 57 arraycopyName ∈ wsX2_copyFrom := by decide +kernel
theorem kX2_copyFrom_9 : Cond.fieldLink RX2 9 "DrownedPost$Letters" "to" "[I" ∈ wsX2_copyFrom := by decide +kernel
theorem kX2_copyFrom_w_initialized__java_lang_System_ : Cond.initialized "java/lang/System" ∈ wsX2_copyFrom := by decide +kernel
theorem kX2_copyFrom_w_native_arraycopyName : Cond.native arraycopyName ∈ wsX2_copyFrom := by decide +kernel
theorem kX2_copyFrom_w_static_arraycopyName : Cond.static arraycopyName ∈ wsX2_copyFrom := by decide +kernel
def wb_X2_copyFrom_0 (Q : SA → SV → SA → SV → Prop) (A : SA) (V : SV) (A2 : SA) (V2 : SV) : Prop := (∀ V_1 : SV, V_1 = uv V 3 (V2 3) → (¬ (0 : Int32) < 0 ∧ ¬ (0 : Int32) < 0 ∧ ¬ (V_1 3) < 0 ∧ (0 : Int32).toNatClampNeg + (V_1 3).toNatClampNeg ≤ 150 ∧ (0 : Int32).toNatClampNeg + (V_1 3).toNatClampNeg ≤ 150 ∧ (∀ A_2 : SA, A_2 = ua A 9 (va_cpy (A2 9) (A 9) (0 : Int32).toNatClampNeg (0 : Int32).toNatClampNeg (V_1 3).toNatClampNeg) → (¬ (0 : Int32) < 0 ∧ ¬ (0 : Int32) < 0 ∧ ¬ (V_1 3) < 0 ∧ (0 : Int32).toNatClampNeg + (V_1 3).toNatClampNeg ≤ 150 ∧ (0 : Int32).toNatClampNeg + (V_1 3).toNatClampNeg ≤ 150 ∧ (∀ A_3 : SA, A_3 = ua A_2 10 (va_cpy (A2 10) (A_2 10) (0 : Int32).toNatClampNeg (0 : Int32).toNatClampNeg (V_1 3).toNatClampNeg) → (¬ (0 : Int32) < 0 ∧ ¬ (0 : Int32) < 0 ∧ ¬ (V_1 3) < 0 ∧ (0 : Int32).toNatClampNeg + (V_1 3).toNatClampNeg ≤ 150 ∧ (0 : Int32).toNatClampNeg + (V_1 3).toNatClampNeg ≤ 150 ∧ (∀ A_4 : SA, A_4 = ua A_3 11 (va_cpy (A2 11) (A_3 11) (0 : Int32).toNatClampNeg (0 : Int32).toNatClampNeg (V_1 3).toNatClampNeg) → (¬ (0 : Int32) < 0 ∧ ¬ (0 : Int32) < 0 ∧ ¬ (V_1 3) < 0 ∧ (0 : Int32).toNatClampNeg + (V_1 3).toNatClampNeg ≤ 150 ∧ (0 : Int32).toNatClampNeg + (V_1 3).toNatClampNeg ≤ 150 ∧ (∀ A_5 : SA, A_5 = ua A_4 12 (va_cpy (A2 12) (A_4 12) (0 : Int32).toNatClampNeg (0 : Int32).toNatClampNeg (V_1 3).toNatClampNeg) → (¬ (0 : Int32) < 0 ∧ ¬ (0 : Int32) < 0 ∧ ¬ (V_1 3) < 0 ∧ (0 : Int32).toNatClampNeg + (V_1 3).toNatClampNeg ≤ 150 ∧ (0 : Int32).toNatClampNeg + (V_1 3).toNatClampNeg ≤ 150 ∧ (∀ A_6 : SA, A_6 = ua A_5 13 (va_cpy (A2 13) (A_5 13) (0 : Int32).toNatClampNeg (0 : Int32).toNatClampNeg (V_1 3).toNatClampNeg) → (¬ (0 : Int32) < 0 ∧ ¬ (0 : Int32) < 0 ∧ ¬ (V_1 3) < 0 ∧ (0 : Int32).toNatClampNeg + (V_1 3).toNatClampNeg ≤ 150 ∧ (0 : Int32).toNatClampNeg + (V_1 3).toNatClampNeg ≤ 150 ∧ (∀ A_7 : SA, A_7 = ua A_6 14 (va_cpy (A2 14) (A_6 14) (0 : Int32).toNatClampNeg (0 : Int32).toNatClampNeg (V_1 3).toNatClampNeg) → (¬ (0 : Int32) < 0 ∧ ¬ (0 : Int32) < 0 ∧ ¬ (V_1 3) < 0 ∧ (0 : Int32).toNatClampNeg + (V_1 3).toNatClampNeg ≤ 150 ∧ (0 : Int32).toNatClampNeg + (V_1 3).toNatClampNeg ≤ 150 ∧ (∀ A_8 : SA, A_8 = ua A_7 15 (va_cpy (A2 15) (A_7 15) (0 : Int32).toNatClampNeg (0 : Int32).toNatClampNeg (V_1 3).toNatClampNeg) → (¬ (0 : Int32) < 0 ∧ ¬ (0 : Int32) < 0 ∧ ¬ (V_1 3) < 0 ∧ (0 : Int32).toNatClampNeg + (V_1 3).toNatClampNeg ≤ 150 ∧ (0 : Int32).toNatClampNeg + (V_1 3).toNatClampNeg ≤ 150 ∧ (∀ A_9 : SA, A_9 = ua A_8 16 (va_cpy (A2 16) (A_8 16) (0 : Int32).toNatClampNeg (0 : Int32).toNatClampNeg (V_1 3).toNatClampNeg) → (¬ (0 : Int32) < 0 ∧ ¬ (0 : Int32) < 0 ∧ ¬ (V_1 3) < 0 ∧ (0 : Int32).toNatClampNeg + (V_1 3).toNatClampNeg ≤ 150 ∧ (0 : Int32).toNatClampNeg + (V_1 3).toNatClampNeg ≤ 150 ∧ (∀ A_10 : SA, A_10 = ua A_9 17 (va_cpy (A2 17) (A_9 17) (0 : Int32).toNatClampNeg (0 : Int32).toNatClampNeg (V_1 3).toNatClampNeg) → Q A_10 V_1 A2 V2)))))))))))))))))))
set_option maxHeartbeats 4000000 in
set_option maxRecDepth 100000 in
theorem wk_X2_copyFrom_0 (Q : SA → SV → SA → SV → Prop) (cx : CX RX2 cX2_copyFrom 2 wsX2_copyFrom D [(cI, .int), (cZ, .boolean)] p s m args c A0) (hret : ∀ (pc : Nat) (ls : Array Slot) (u : SA × SV × SA × SV) (H : Heap) (locs : List Loc), decode cX2_copyFrom pc = .ok (.return_, 1) → Q u.1 u.2.1 u.2.2.1 u.2.2.2 → WS D s A0 (wC ad ad2 cI cZ u.1 u.2.1 u.2.2.1 u.2.2.2) H locs → W p l e rmX2_copyFrom s m args below meth c H locs rmX2_copyFrom.cells rmX2_copyFrom.slots Z (F0 m pc ls []))  : ∀ (A : SA) (V : SV) (A2 : SA) (V2 : SV) (h : wb_X2_copyFrom_0 Q A V A2 V2) (H : Heap) (locs : List Loc) (ls : Array Slot) (hw : WS D s A0 (wC ad ad2 cI cZ A V A2 V2) H locs) (hl : lv_has ls 2 [(0, .ref (ad 4)), (1, .ref (ad2 4))]), W p l e rmX2_copyFrom s m args below meth c H locs 0 0 Z (F0 m 0 ls []) := by
  obtain ⟨hx, hb, hml, hown, hts, hK, hA⟩ := id cx
  intro A V A2 V2 h H locs ls hw hl
  refine lv_aload_n (pc := 0) hx hb dX2_copyFrom_0 rfl (lv_at hl 0 rfl) ?_
  refine lv_aload_n (pc := 1) hx hb dX2_copyFrom_1 rfl (lv_at hl 1 rfl) ?_
  refine geC1_X2_9 (pc := 2) cx inX2_copyFrom_X2 kX2_copyFrom_39 hw dX2_copyFrom_2 ?_
  refine puC0_X2_9 (pc := 5) cx inX2_copyFrom_X2 kX2_copyFrom_39 hw dX2_copyFrom_5 (fun V_1 eV_1 H locs hw => ?_)
  have h := h V_1 eV_1
  refine lv_aload_n (pc := 8) hx hb dX2_copyFrom_8 rfl (lv_at hl 1 rfl) ?_
  refine geC1_X2_0 (pc := 9) cx inX2_copyFrom_X2 kX2_copyFrom_9 hw dX2_copyFrom_9 ?_
  refine lv_iconst (pc := 12) (v := (0 : Int32)) hx hb dX2_copyFrom_12 (by decide) ?_
  refine lv_aload_n (pc := 13) hx hb dX2_copyFrom_13 rfl (lv_at hl 0 rfl) ?_
  refine geC0_X2_0 (pc := 14) cx inX2_copyFrom_X2 kX2_copyFrom_9 hw dX2_copyFrom_14 ?_
  refine lv_iconst (pc := 17) (v := (0 : Int32)) hx hb dX2_copyFrom_17 (by decide) ?_
  refine lv_aload_n (pc := 18) hx hb dX2_copyFrom_18 rfl (lv_at hl 0 rfl) ?_
  refine geC0_X2_9 (pc := 19) cx inX2_copyFrom_X2 kX2_copyFrom_39 hw dX2_copyFrom_19 ?_
  obtain ⟨A_2, eA_2⟩ : ∃ z, z = ua A 9 (va_cpy (A2 9) (A 9) (0 : Int32).toNatClampNeg (0 : Int32).toNatClampNeg (V_1 3).toNatClampNeg) := ⟨_, rfl⟩
  refine cpI (pc := 22) cx hl (hts _ kX2_copyFrom_57) (hts _ kX2_copyFrom_w_native_arraycopyName) (hts _ kX2_copyFrom_w_static_arraycopyName) (hts _ kX2_copyFrom_w_initialized__java_lang_System_) hw 39 14 0 0 rfl rfl rfl rfl h.1 h.2.1 h.2.2.1 h.2.2.2.1 h.2.2.2.2.1 (Nat.le_of_ble_eq_true rfl) (Nat.le_of_ble_eq_true rfl) (ws1 := wC ad ad2 cI cZ A_2 V_1 A2 V2) (by rw [eA_2]; rfl) dX2_copyFrom_22 (fun H locs hw => ?_)
  have h := h.2.2.2.2.2 A_2 eA_2
  refine lv_aload_n (pc := 25) hx hb dX2_copyFrom_25 rfl (lv_at hl 1 rfl) ?_
  refine geC1_X2_1 (pc := 26) cx inX2_copyFrom_X2 kX2_copyFrom_15 hw dX2_copyFrom_26 ?_
  refine lv_iconst (pc := 29) (v := (0 : Int32)) hx hb dX2_copyFrom_29 (by decide) ?_
  refine lv_aload_n (pc := 30) hx hb dX2_copyFrom_30 rfl (lv_at hl 0 rfl) ?_
  refine geC0_X2_1 (pc := 31) cx inX2_copyFrom_X2 kX2_copyFrom_15 hw dX2_copyFrom_31 ?_
  refine lv_iconst (pc := 34) (v := (0 : Int32)) hx hb dX2_copyFrom_34 (by decide) ?_
  refine lv_aload_n (pc := 35) hx hb dX2_copyFrom_35 rfl (lv_at hl 0 rfl) ?_
  refine geC0_X2_9 (pc := 36) cx inX2_copyFrom_X2 kX2_copyFrom_39 hw dX2_copyFrom_36 ?_
  obtain ⟨A_3, eA_3⟩ : ∃ z, z = ua A_2 10 (va_cpy (A2 10) (A_2 10) (0 : Int32).toNatClampNeg (0 : Int32).toNatClampNeg (V_1 3).toNatClampNeg) := ⟨_, rfl⟩
  refine cpI (pc := 39) cx hl (hts _ kX2_copyFrom_57) (hts _ kX2_copyFrom_w_native_arraycopyName) (hts _ kX2_copyFrom_w_static_arraycopyName) (hts _ kX2_copyFrom_w_initialized__java_lang_System_) hw 40 15 0 0 rfl rfl rfl rfl h.1 h.2.1 h.2.2.1 h.2.2.2.1 h.2.2.2.2.1 (Nat.le_of_ble_eq_true rfl) (Nat.le_of_ble_eq_true rfl) (ws1 := wC ad ad2 cI cZ A_3 V_1 A2 V2) (by rw [eA_3]; rfl) dX2_copyFrom_39 (fun H locs hw => ?_)
  have h := h.2.2.2.2.2 A_3 eA_3
  refine lv_aload_n (pc := 42) hx hb dX2_copyFrom_42 rfl (lv_at hl 1 rfl) ?_
  refine geC1_X2_2 (pc := 43) cx inX2_copyFrom_X2 kX2_copyFrom_18 hw dX2_copyFrom_43 ?_
  refine lv_iconst (pc := 46) (v := (0 : Int32)) hx hb dX2_copyFrom_46 (by decide) ?_
  refine lv_aload_n (pc := 47) hx hb dX2_copyFrom_47 rfl (lv_at hl 0 rfl) ?_
  refine geC0_X2_2 (pc := 48) cx inX2_copyFrom_X2 kX2_copyFrom_18 hw dX2_copyFrom_48 ?_
  refine lv_iconst (pc := 51) (v := (0 : Int32)) hx hb dX2_copyFrom_51 (by decide) ?_
  refine lv_aload_n (pc := 52) hx hb dX2_copyFrom_52 rfl (lv_at hl 0 rfl) ?_
  refine geC0_X2_9 (pc := 53) cx inX2_copyFrom_X2 kX2_copyFrom_39 hw dX2_copyFrom_53 ?_
  obtain ⟨A_4, eA_4⟩ : ∃ z, z = ua A_3 11 (va_cpy (A2 11) (A_3 11) (0 : Int32).toNatClampNeg (0 : Int32).toNatClampNeg (V_1 3).toNatClampNeg) := ⟨_, rfl⟩
  refine cpI (pc := 56) cx hl (hts _ kX2_copyFrom_57) (hts _ kX2_copyFrom_w_native_arraycopyName) (hts _ kX2_copyFrom_w_static_arraycopyName) (hts _ kX2_copyFrom_w_initialized__java_lang_System_) hw 41 16 0 0 rfl rfl rfl rfl h.1 h.2.1 h.2.2.1 h.2.2.2.1 h.2.2.2.2.1 (Nat.le_of_ble_eq_true rfl) (Nat.le_of_ble_eq_true rfl) (ws1 := wC ad ad2 cI cZ A_4 V_1 A2 V2) (by rw [eA_4]; rfl) dX2_copyFrom_56 (fun H locs hw => ?_)
  have h := h.2.2.2.2.2 A_4 eA_4
  refine lv_aload_n (pc := 59) hx hb dX2_copyFrom_59 rfl (lv_at hl 1 rfl) ?_
  refine geC1_X2_3 (pc := 60) cx inX2_copyFrom_X2 kX2_copyFrom_21 hw dX2_copyFrom_60 ?_
  refine lv_iconst (pc := 63) (v := (0 : Int32)) hx hb dX2_copyFrom_63 (by decide) ?_
  refine lv_aload_n (pc := 64) hx hb dX2_copyFrom_64 rfl (lv_at hl 0 rfl) ?_
  refine geC0_X2_3 (pc := 65) cx inX2_copyFrom_X2 kX2_copyFrom_21 hw dX2_copyFrom_65 ?_
  refine lv_iconst (pc := 68) (v := (0 : Int32)) hx hb dX2_copyFrom_68 (by decide) ?_
  refine lv_aload_n (pc := 69) hx hb dX2_copyFrom_69 rfl (lv_at hl 0 rfl) ?_
  refine geC0_X2_9 (pc := 70) cx inX2_copyFrom_X2 kX2_copyFrom_39 hw dX2_copyFrom_70 ?_
  obtain ⟨A_5, eA_5⟩ : ∃ z, z = ua A_4 12 (va_cpy (A2 12) (A_4 12) (0 : Int32).toNatClampNeg (0 : Int32).toNatClampNeg (V_1 3).toNatClampNeg) := ⟨_, rfl⟩
  refine cpI (pc := 73) cx hl (hts _ kX2_copyFrom_57) (hts _ kX2_copyFrom_w_native_arraycopyName) (hts _ kX2_copyFrom_w_static_arraycopyName) (hts _ kX2_copyFrom_w_initialized__java_lang_System_) hw 42 17 0 0 rfl rfl rfl rfl h.1 h.2.1 h.2.2.1 h.2.2.2.1 h.2.2.2.2.1 (Nat.le_of_ble_eq_true rfl) (Nat.le_of_ble_eq_true rfl) (ws1 := wC ad ad2 cI cZ A_5 V_1 A2 V2) (by rw [eA_5]; rfl) dX2_copyFrom_73 (fun H locs hw => ?_)
  have h := h.2.2.2.2.2 A_5 eA_5
  refine lv_aload_n (pc := 76) hx hb dX2_copyFrom_76 rfl (lv_at hl 1 rfl) ?_
  refine geC1_X2_4 (pc := 77) cx inX2_copyFrom_X2 kX2_copyFrom_24 hw dX2_copyFrom_77 ?_
  refine lv_iconst (pc := 80) (v := (0 : Int32)) hx hb dX2_copyFrom_80 (by decide) ?_
  refine lv_aload_n (pc := 81) hx hb dX2_copyFrom_81 rfl (lv_at hl 0 rfl) ?_
  refine geC0_X2_4 (pc := 82) cx inX2_copyFrom_X2 kX2_copyFrom_24 hw dX2_copyFrom_82 ?_
  refine lv_iconst (pc := 85) (v := (0 : Int32)) hx hb dX2_copyFrom_85 (by decide) ?_
  refine lv_aload_n (pc := 86) hx hb dX2_copyFrom_86 rfl (lv_at hl 0 rfl) ?_
  refine geC0_X2_9 (pc := 87) cx inX2_copyFrom_X2 kX2_copyFrom_39 hw dX2_copyFrom_87 ?_
  obtain ⟨A_6, eA_6⟩ : ∃ z, z = ua A_5 13 (va_cpy (A2 13) (A_5 13) (0 : Int32).toNatClampNeg (0 : Int32).toNatClampNeg (V_1 3).toNatClampNeg) := ⟨_, rfl⟩
  refine cpI (pc := 90) cx hl (hts _ kX2_copyFrom_57) (hts _ kX2_copyFrom_w_native_arraycopyName) (hts _ kX2_copyFrom_w_static_arraycopyName) (hts _ kX2_copyFrom_w_initialized__java_lang_System_) hw 43 18 0 0 rfl rfl rfl rfl h.1 h.2.1 h.2.2.1 h.2.2.2.1 h.2.2.2.2.1 (Nat.le_of_ble_eq_true rfl) (Nat.le_of_ble_eq_true rfl) (ws1 := wC ad ad2 cI cZ A_6 V_1 A2 V2) (by rw [eA_6]; rfl) dX2_copyFrom_90 (fun H locs hw => ?_)
  have h := h.2.2.2.2.2 A_6 eA_6
  refine lv_aload_n (pc := 93) hx hb dX2_copyFrom_93 rfl (lv_at hl 1 rfl) ?_
  refine geC1_X2_5 (pc := 94) cx inX2_copyFrom_X2 kX2_copyFrom_27 hw dX2_copyFrom_94 ?_
  refine lv_iconst (pc := 97) (v := (0 : Int32)) hx hb dX2_copyFrom_97 (by decide) ?_
  refine lv_aload_n (pc := 98) hx hb dX2_copyFrom_98 rfl (lv_at hl 0 rfl) ?_
  refine geC0_X2_5 (pc := 99) cx inX2_copyFrom_X2 kX2_copyFrom_27 hw dX2_copyFrom_99 ?_
  refine lv_iconst (pc := 102) (v := (0 : Int32)) hx hb dX2_copyFrom_102 (by decide) ?_
  refine lv_aload_n (pc := 103) hx hb dX2_copyFrom_103 rfl (lv_at hl 0 rfl) ?_
  refine geC0_X2_9 (pc := 104) cx inX2_copyFrom_X2 kX2_copyFrom_39 hw dX2_copyFrom_104 ?_
  obtain ⟨A_7, eA_7⟩ : ∃ z, z = ua A_6 14 (va_cpy (A2 14) (A_6 14) (0 : Int32).toNatClampNeg (0 : Int32).toNatClampNeg (V_1 3).toNatClampNeg) := ⟨_, rfl⟩
  refine cpI (pc := 107) cx hl (hts _ kX2_copyFrom_57) (hts _ kX2_copyFrom_w_native_arraycopyName) (hts _ kX2_copyFrom_w_static_arraycopyName) (hts _ kX2_copyFrom_w_initialized__java_lang_System_) hw 44 19 0 0 rfl rfl rfl rfl h.1 h.2.1 h.2.2.1 h.2.2.2.1 h.2.2.2.2.1 (Nat.le_of_ble_eq_true rfl) (Nat.le_of_ble_eq_true rfl) (ws1 := wC ad ad2 cI cZ A_7 V_1 A2 V2) (by rw [eA_7]; rfl) dX2_copyFrom_107 (fun H locs hw => ?_)
  have h := h.2.2.2.2.2 A_7 eA_7
  refine lv_aload_n (pc := 110) hx hb dX2_copyFrom_110 rfl (lv_at hl 1 rfl) ?_
  refine geC1_X2_6 (pc := 111) cx inX2_copyFrom_X2 kX2_copyFrom_30 hw dX2_copyFrom_111 ?_
  refine lv_iconst (pc := 114) (v := (0 : Int32)) hx hb dX2_copyFrom_114 (by decide) ?_
  refine lv_aload_n (pc := 115) hx hb dX2_copyFrom_115 rfl (lv_at hl 0 rfl) ?_
  refine geC0_X2_6 (pc := 116) cx inX2_copyFrom_X2 kX2_copyFrom_30 hw dX2_copyFrom_116 ?_
  refine lv_iconst (pc := 119) (v := (0 : Int32)) hx hb dX2_copyFrom_119 (by decide) ?_
  refine lv_aload_n (pc := 120) hx hb dX2_copyFrom_120 rfl (lv_at hl 0 rfl) ?_
  refine geC0_X2_9 (pc := 121) cx inX2_copyFrom_X2 kX2_copyFrom_39 hw dX2_copyFrom_121 ?_
  obtain ⟨A_8, eA_8⟩ : ∃ z, z = ua A_7 15 (va_cpy (A2 15) (A_7 15) (0 : Int32).toNatClampNeg (0 : Int32).toNatClampNeg (V_1 3).toNatClampNeg) := ⟨_, rfl⟩
  refine cpI (pc := 124) cx hl (hts _ kX2_copyFrom_57) (hts _ kX2_copyFrom_w_native_arraycopyName) (hts _ kX2_copyFrom_w_static_arraycopyName) (hts _ kX2_copyFrom_w_initialized__java_lang_System_) hw 45 20 0 0 rfl rfl rfl rfl h.1 h.2.1 h.2.2.1 h.2.2.2.1 h.2.2.2.2.1 (Nat.le_of_ble_eq_true rfl) (Nat.le_of_ble_eq_true rfl) (ws1 := wC ad ad2 cI cZ A_8 V_1 A2 V2) (by rw [eA_8]; rfl) dX2_copyFrom_124 (fun H locs hw => ?_)
  have h := h.2.2.2.2.2 A_8 eA_8
  refine lv_aload_n (pc := 127) hx hb dX2_copyFrom_127 rfl (lv_at hl 1 rfl) ?_
  refine geC1_X2_7 (pc := 128) cx inX2_copyFrom_X2 kX2_copyFrom_33 hw dX2_copyFrom_128 ?_
  refine lv_iconst (pc := 131) (v := (0 : Int32)) hx hb dX2_copyFrom_131 (by decide) ?_
  refine lv_aload_n (pc := 132) hx hb dX2_copyFrom_132 rfl (lv_at hl 0 rfl) ?_
  refine geC0_X2_7 (pc := 133) cx inX2_copyFrom_X2 kX2_copyFrom_33 hw dX2_copyFrom_133 ?_
  refine lv_iconst (pc := 136) (v := (0 : Int32)) hx hb dX2_copyFrom_136 (by decide) ?_
  refine lv_aload_n (pc := 137) hx hb dX2_copyFrom_137 rfl (lv_at hl 0 rfl) ?_
  refine geC0_X2_9 (pc := 138) cx inX2_copyFrom_X2 kX2_copyFrom_39 hw dX2_copyFrom_138 ?_
  obtain ⟨A_9, eA_9⟩ : ∃ z, z = ua A_8 16 (va_cpy (A2 16) (A_8 16) (0 : Int32).toNatClampNeg (0 : Int32).toNatClampNeg (V_1 3).toNatClampNeg) := ⟨_, rfl⟩
  refine cpI (pc := 141) cx hl (hts _ kX2_copyFrom_57) (hts _ kX2_copyFrom_w_native_arraycopyName) (hts _ kX2_copyFrom_w_static_arraycopyName) (hts _ kX2_copyFrom_w_initialized__java_lang_System_) hw 46 21 0 0 rfl rfl rfl rfl h.1 h.2.1 h.2.2.1 h.2.2.2.1 h.2.2.2.2.1 (Nat.le_of_ble_eq_true rfl) (Nat.le_of_ble_eq_true rfl) (ws1 := wC ad ad2 cI cZ A_9 V_1 A2 V2) (by rw [eA_9]; rfl) dX2_copyFrom_141 (fun H locs hw => ?_)
  have h := h.2.2.2.2.2 A_9 eA_9
  refine lv_aload_n (pc := 144) hx hb dX2_copyFrom_144 rfl (lv_at hl 1 rfl) ?_
  refine geC1_X2_8 (pc := 145) cx inX2_copyFrom_X2 kX2_copyFrom_36 hw dX2_copyFrom_145 ?_
  refine lv_iconst (pc := 148) (v := (0 : Int32)) hx hb dX2_copyFrom_148 (by decide) ?_
  refine lv_aload_n (pc := 149) hx hb dX2_copyFrom_149 rfl (lv_at hl 0 rfl) ?_
  refine geC0_X2_8 (pc := 150) cx inX2_copyFrom_X2 kX2_copyFrom_36 hw dX2_copyFrom_150 ?_
  refine lv_iconst (pc := 153) (v := (0 : Int32)) hx hb dX2_copyFrom_153 (by decide) ?_
  refine lv_aload_n (pc := 154) hx hb dX2_copyFrom_154 rfl (lv_at hl 0 rfl) ?_
  refine geC0_X2_9 (pc := 155) cx inX2_copyFrom_X2 kX2_copyFrom_39 hw dX2_copyFrom_155 ?_
  obtain ⟨A_10, eA_10⟩ : ∃ z, z = ua A_9 17 (va_cpy (A2 17) (A_9 17) (0 : Int32).toNatClampNeg (0 : Int32).toNatClampNeg (V_1 3).toNatClampNeg) := ⟨_, rfl⟩
  refine cpI (pc := 158) cx hl (hts _ kX2_copyFrom_57) (hts _ kX2_copyFrom_w_native_arraycopyName) (hts _ kX2_copyFrom_w_static_arraycopyName) (hts _ kX2_copyFrom_w_initialized__java_lang_System_) hw 47 22 0 0 rfl rfl rfl rfl h.1 h.2.1 h.2.2.1 h.2.2.2.1 h.2.2.2.2.1 (Nat.le_of_ble_eq_true rfl) (Nat.le_of_ble_eq_true rfl) (ws1 := wC ad ad2 cI cZ A_10 V_1 A2 V2) (by rw [eA_10]; rfl) dX2_copyFrom_158 (fun H locs hw => ?_)
  have h := h.2.2.2.2.2 A_10 eA_10
  exact hret 161 _ (A_10, V_1, A2, V2) _ _ dX2_copyFrom_161 h hw
def wpX2_copyFrom (A : SA) (V : SV) (A2 : SA) (V2 : SV)  (Q : SA → SV → SA → SV → Prop) : Prop := wb_X2_copyFrom_0 Q A V A2 V2
set_option maxHeartbeats 4000000 in
set_option maxRecDepth 100000 in
theorem metX2_copyFrom (l : Launch) (D : va_G) (cI cZ : ClassId) (ad ad2 : Nat → Nat) (sz : Nat) (A : SA) (V : SV) (A2 : SA) (V2 : SV)  (Q : SA → SV → SA → SV → Prop) (h : wpX2_copyFrom A V A2 V2  Q) : Met l yX2_copyFrom wsX2_copyFrom rmX2_copyFrom (PcW D [(cI, .int), (cZ, .boolean)] (wC ad ad2 cI cZ A V A2 V2) sz [.ref (ad 4), .ref (ad2 4)]) (QvW D [(cI, .int), (cZ, .boolean)] (wC ad ad2 cI cZ A V A2 V2) sz (fun u : SA × SV × SA × SV => (wC ad ad2 cI cZ u.1 u.2.1 u.2.2.1 u.2.2.2)) (fun u => Q u.1 u.2.1 u.2.2.1 u.2.2.2)) rmX2_copyFrom.cells rmX2_copyFrom.slots (va_A (wC ad ad2 cI cZ A V A2 V2) sz) := by
  refine startV (plainFor_of_name (by decide)) rfl (Nat.le_of_ble_eq_true rfl) ?_
  intro p e s m args below meth c A0 Z cx hw hret ls hl
  exact wk_X2_copyFrom_0 Q cx hret A V A2 V2 h _ _ _ hw hl
abbrev rmX3_copyFrom : Room := { frames := 2, cells := 0, slots := 0, locals := 101 }
theorem inX3_copyFrom_X3 : ∀ w ∈ wsX30, w ∈ wsX3_copyFrom := by decide +kernel
theorem kX3_copyFrom_12 : Cond.fieldLink RX3 12 "DrownedPost$Office" "tides" "LDrownedPost$Tides;" ∈ wsX3_copyFrom := by decide +kernel
theorem kX3_copyFrom_21 : Cond.fieldLink RX3 21 "DrownedPost$Office" "bins" "LDrownedPost$Bins;" ∈ wsX3_copyFrom := by decide +kernel
theorem kX3_copyFrom_28 : Cond.fieldLink RX3 28 "DrownedPost$Office" "drowned" "LDrownedPost$Drowned;" ∈ wsX3_copyFrom := by decide +kernel
theorem kX3_copyFrom_35 : Cond.fieldLink RX3 35 "DrownedPost$Office" "letters" "LDrownedPost$Letters;" ∈ wsX3_copyFrom := by decide +kernel
theorem kX3_copyFrom_39 : Cond.fieldLink RX3 39 "DrownedPost$Office" "scrapers" "I" ∈ wsX3_copyFrom := by decide +kernel
theorem kX3_copyFrom_43 : Cond.fieldLink RX3 43 "DrownedPost$Office" "sorters" "I" ∈ wsX3_copyFrom := by decide +kernel
theorem kX3_copyFrom_67 : Cond.fieldLink RX3 67 "DrownedPost$Office" "hour" "I" ∈ wsX3_copyFrom := by decide +kernel
def wb_X3_copyFrom_0 (Q : SA → SV → SA → SV → Prop) (A : SA) (V : SV) (A2 : SA) (V2 : SV) : Prop := (wpX4_copyFrom A V A2 V2 (fun A_4 V_5 A_6 V_7 => (wpX0_copyFrom A_4 V_5 A_6 V_7 (fun A_11 V_12 A_13 V_14 => (wpX1_copyFrom A_11 V_12 A_13 V_14 (fun A_18 V_19 A_20 V_21 => (wpX2_copyFrom A_18 V_19 A_20 V_21 (fun A_25 V_26 A_27 V_28 => (∀ V_29 : SV, V_29 = uv V_26 4 (V_28 4) → (∀ V_30 : SV, V_30 = uv V_29 5 (V_28 5) → (∀ V_31 : SV, V_31 = uv V_30 6 (V_28 6) → Q A_25 V_31 A_27 V_28)))))))))))
set_option maxHeartbeats 4000000 in
set_option maxRecDepth 100000 in
theorem wk_X3_copyFrom_0 (Q : SA → SV → SA → SV → Prop) (cx : CX RX3 cX3_copyFrom 2 wsX3_copyFrom D [(cI, .int), (cZ, .boolean)] p s m args c A0) (hret : ∀ (pc : Nat) (ls : Array Slot) (u : SA × SV × SA × SV) (H : Heap) (locs : List Loc), decode cX3_copyFrom pc = .ok (.return_, 1) → Q u.1 u.2.1 u.2.2.1 u.2.2.2 → WS D s A0 (wC ad ad2 cI cZ u.1 u.2.1 u.2.2.1 u.2.2.2) H locs → W p l e rmX3_copyFrom s m args below meth c H locs rmX3_copyFrom.cells rmX3_copyFrom.slots Z (F0 m pc ls []))  : ∀ (A : SA) (V : SV) (A2 : SA) (V2 : SV) (h : wb_X3_copyFrom_0 Q A V A2 V2) (H : Heap) (locs : List Loc) (ls : Array Slot) (hw : WS D s A0 (wC ad ad2 cI cZ A V A2 V2) H locs) (hl : lv_has ls 2 [(0, .ref (ad 0)), (1, .ref (ad2 0))]), W p l e rmX3_copyFrom s m args below meth c H locs 0 0 Z (F0 m 0 ls []) := by
  obtain ⟨hx, hb, hml, hown, hts, hK, hA⟩ := id cx
  intro A V A2 V2 h H locs ls hw hl
  refine lv_aload_n (pc := 0) hx hb dX3_copyFrom_0 rfl (lv_at hl 0 rfl) ?_
  refine geC0_X3_0 (pc := 1) cx inX3_copyFrom_X3 kX3_copyFrom_12 hw dX3_copyFrom_1 ?_
  refine lv_aload_n (pc := 4) hx hb dX3_copyFrom_4 rfl (lv_at hl 1 rfl) ?_
  refine geC1_X3_0 (pc := 5) cx inX3_copyFrom_X3 kX3_copyFrom_12 hw dX3_copyFrom_5 ?_
  refine callVv (pc := 8) (rest := []) (c1 := 0) (s1 := 0) cx hw hl (metX4_copyFrom l D cI cZ ad ad2 H.size A V A2 V2 _ h) (fun hts => cwV 1 hts gX3_copyFrom_X4_copyFrom rfl rfl rfl (by decide +kernel) ⟨Nat.le_of_ble_eq_true rfl, Nat.le_of_ble_eq_true rfl⟩) SUB.rf [0, 1] rfl 1 (ci := 4) rfl rfl rfl (JN.rf) rfl rfl (Nat.le_of_ble_eq_true rfl) ⟨Nat.le_of_ble_eq_true rfl, Nat.le_of_ble_eq_true rfl⟩ rfl rfl dX3_copyFrom_8 (fun u H locs h hw => ?_)
  obtain ⟨A_4, V_5, A_6, V_7⟩ := u
  refine lv_aload_n (pc := 11) hx hb dX3_copyFrom_11 rfl (lv_at hl 0 rfl) ?_
  refine geC0_X3_1 (pc := 12) cx inX3_copyFrom_X3 kX3_copyFrom_21 hw dX3_copyFrom_12 ?_
  refine lv_aload_n (pc := 15) hx hb dX3_copyFrom_15 rfl (lv_at hl 1 rfl) ?_
  refine geC1_X3_1 (pc := 16) cx inX3_copyFrom_X3 kX3_copyFrom_21 hw dX3_copyFrom_16 ?_
  refine callVv (pc := 19) (rest := []) (c1 := 0) (s1 := 0) cx hw hl (metX0_copyFrom l D cI cZ ad ad2 H.size A_4 V_5 A_6 V_7 _ h) (fun hts => cwV 1 hts gX3_copyFrom_X0_copyFrom rfl rfl rfl (by decide +kernel) ⟨Nat.le_of_ble_eq_true rfl, Nat.le_of_ble_eq_true rfl⟩) SUB.rf [0, 1] rfl 2 (ci := 0) rfl rfl rfl (JN.rf) rfl rfl (Nat.le_of_ble_eq_true rfl) ⟨Nat.le_of_ble_eq_true rfl, Nat.le_of_ble_eq_true rfl⟩ rfl rfl dX3_copyFrom_19 (fun u H locs h hw => ?_)
  obtain ⟨A_11, V_12, A_13, V_14⟩ := u
  refine lv_aload_n (pc := 22) hx hb dX3_copyFrom_22 rfl (lv_at hl 0 rfl) ?_
  refine geC0_X3_2 (pc := 23) cx inX3_copyFrom_X3 kX3_copyFrom_28 hw dX3_copyFrom_23 ?_
  refine lv_aload_n (pc := 26) hx hb dX3_copyFrom_26 rfl (lv_at hl 1 rfl) ?_
  refine geC1_X3_2 (pc := 27) cx inX3_copyFrom_X3 kX3_copyFrom_28 hw dX3_copyFrom_27 ?_
  refine callVv (pc := 30) (rest := []) (c1 := 0) (s1 := 0) cx hw hl (metX1_copyFrom l D cI cZ ad ad2 H.size A_11 V_12 A_13 V_14 _ h) (fun hts => cwV 1 hts gX3_copyFrom_X1_copyFrom rfl rfl rfl (by decide +kernel) ⟨Nat.le_of_ble_eq_true rfl, Nat.le_of_ble_eq_true rfl⟩) SUB.rf [0, 1] rfl 3 (ci := 1) rfl rfl rfl (JN.rf) rfl rfl (Nat.le_of_ble_eq_true rfl) ⟨Nat.le_of_ble_eq_true rfl, Nat.le_of_ble_eq_true rfl⟩ rfl rfl dX3_copyFrom_30 (fun u H locs h hw => ?_)
  obtain ⟨A_18, V_19, A_20, V_21⟩ := u
  refine lv_aload_n (pc := 33) hx hb dX3_copyFrom_33 rfl (lv_at hl 0 rfl) ?_
  refine geC0_X3_3 (pc := 34) cx inX3_copyFrom_X3 kX3_copyFrom_35 hw dX3_copyFrom_34 ?_
  refine lv_aload_n (pc := 37) hx hb dX3_copyFrom_37 rfl (lv_at hl 1 rfl) ?_
  refine geC1_X3_3 (pc := 38) cx inX3_copyFrom_X3 kX3_copyFrom_35 hw dX3_copyFrom_38 ?_
  refine callVv (pc := 41) (rest := []) (c1 := 0) (s1 := 0) cx hw hl (metX2_copyFrom l D cI cZ ad ad2 H.size A_18 V_19 A_20 V_21 _ h) (fun hts => cwV 1 hts gX3_copyFrom_X2_copyFrom rfl rfl rfl (by decide +kernel) ⟨Nat.le_of_ble_eq_true rfl, Nat.le_of_ble_eq_true rfl⟩) SUB.rf [0, 1] rfl 4 (ci := 2) rfl rfl rfl (JN.rf) rfl rfl (Nat.le_of_ble_eq_true rfl) ⟨Nat.le_of_ble_eq_true rfl, Nat.le_of_ble_eq_true rfl⟩ rfl rfl dX3_copyFrom_41 (fun u H locs h hw => ?_)
  obtain ⟨A_25, V_26, A_27, V_28⟩ := u
  refine lv_aload_n (pc := 44) hx hb dX3_copyFrom_44 rfl (lv_at hl 0 rfl) ?_
  refine lv_aload_n (pc := 45) hx hb dX3_copyFrom_45 rfl (lv_at hl 1 rfl) ?_
  refine geC1_X3_4 (pc := 46) cx inX3_copyFrom_X3 kX3_copyFrom_67 hw dX3_copyFrom_46 ?_
  refine puC0_X3_4 (pc := 49) cx inX3_copyFrom_X3 kX3_copyFrom_67 hw dX3_copyFrom_49 (fun V_29 eV_29 H locs hw => ?_)
  have h := h V_29 eV_29
  refine lv_aload_n (pc := 52) hx hb dX3_copyFrom_52 rfl (lv_at hl 0 rfl) ?_
  refine lv_aload_n (pc := 53) hx hb dX3_copyFrom_53 rfl (lv_at hl 1 rfl) ?_
  refine geC1_X3_5 (pc := 54) cx inX3_copyFrom_X3 kX3_copyFrom_39 hw dX3_copyFrom_54 ?_
  refine puC0_X3_5 (pc := 57) cx inX3_copyFrom_X3 kX3_copyFrom_39 hw dX3_copyFrom_57 (fun V_30 eV_30 H locs hw => ?_)
  have h := h V_30 eV_30
  refine lv_aload_n (pc := 60) hx hb dX3_copyFrom_60 rfl (lv_at hl 0 rfl) ?_
  refine lv_aload_n (pc := 61) hx hb dX3_copyFrom_61 rfl (lv_at hl 1 rfl) ?_
  refine geC1_X3_6 (pc := 62) cx inX3_copyFrom_X3 kX3_copyFrom_43 hw dX3_copyFrom_62 ?_
  refine puC0_X3_6 (pc := 65) cx inX3_copyFrom_X3 kX3_copyFrom_43 hw dX3_copyFrom_65 (fun V_31 eV_31 H locs hw => ?_)
  have h := h V_31 eV_31
  exact hret 68 _ (A_25, V_31, A_27, V_28) _ _ dX3_copyFrom_68 h hw
def wpX3_copyFrom (A : SA) (V : SV) (A2 : SA) (V2 : SV)  (Q : SA → SV → SA → SV → Prop) : Prop := wb_X3_copyFrom_0 Q A V A2 V2
set_option maxHeartbeats 4000000 in
set_option maxRecDepth 100000 in
theorem metX3_copyFrom (l : Launch) (D : va_G) (cI cZ : ClassId) (ad ad2 : Nat → Nat) (sz : Nat) (A : SA) (V : SV) (A2 : SA) (V2 : SV)  (Q : SA → SV → SA → SV → Prop) (h : wpX3_copyFrom A V A2 V2  Q) : Met l yX3_copyFrom wsX3_copyFrom rmX3_copyFrom (PcW D [(cI, .int), (cZ, .boolean)] (wC ad ad2 cI cZ A V A2 V2) sz [.ref (ad 0), .ref (ad2 0)]) (QvW D [(cI, .int), (cZ, .boolean)] (wC ad ad2 cI cZ A V A2 V2) sz (fun u : SA × SV × SA × SV => (wC ad ad2 cI cZ u.1 u.2.1 u.2.2.1 u.2.2.2)) (fun u => Q u.1 u.2.1 u.2.2.1 u.2.2.2)) rmX3_copyFrom.cells rmX3_copyFrom.slots (va_A (wC ad ad2 cI cZ A V A2 V2) sz) := by
  refine startV (plainFor_of_name (by decide)) rfl (Nat.le_of_ble_eq_true rfl) ?_
  intro p e s m args below meth c A0 Z cx hw hret ls hl
  exact wk_X3_copyFrom_0 Q cx hret A V A2 V2 h _ _ _ hw hl
end GENV
