section GENV
variable {p : Program} {l : Launch} {e : Env} {s : State} {m : MethodId} {args : Array Value} {below : List Frame} {meth : Method} {c : Code} {A0 : Nat → Prop} {Z : State → Prop} {D : va_G} {cI cZ : ClassId} {ad : Nat → Nat} {tys : TYS} {xa : Nat} {ad2 : Nat → Nat}
abbrev rmX5_isWithin : Room := { frames := 0, cells := 0, slots := 0, locals := 0 }
def wb_X5_isWithin_0 (Q : Int32 → Prop) (x0 : Int32) (x1 : Int32) (x2 : Int32) : Prop := ((x0 < x1 → Q (0 : Int32)) ∧ (¬ (x0 < x1) → ((x2 < x0 → Q (0 : Int32)) ∧ (¬ (x2 < x0) → Q (1 : Int32)))))
set_option maxHeartbeats 4000000 in
set_option maxRecDepth 100000 in
theorem wk_X5_isWithin_0 (Q : Int32 → Prop) (cx : CX RX5 cX5_isWithin 3 wsX5_isWithin D tys p s m args c A0) (hret : ∀ (pc : Nat) (ls : Array Slot) (r : Int32) (u : Unit) (H : Heap) (locs : List Loc), narrow .boolean (.int r) = .int r → decode cX5_isWithin pc = .ok (.ireturn, 1) → Q r → WS D s A0 ([] : va_W) H locs → W p l e rmX5_isWithin s m args below meth c H locs rmX5_isWithin.cells rmX5_isWithin.slots Z (F0 m pc ls [.int r]))  : ∀ (x0 : Int32) (x1 : Int32) (x2 : Int32) (h : wb_X5_isWithin_0 Q x0 x1 x2) (H : Heap) (locs : List Loc) (ls : Array Slot) (hw : WS D s A0 ([] : va_W) H locs) (hl : lv_has ls 3 [(0, .int x0), (1, .int x1), (2, .int x2)]), W p l e rmX5_isWithin s m args below meth c H locs 0 0 Z (F0 m 0 ls []) := by
  obtain ⟨hx, hb, hml, hown, hts, hK, hA⟩ := id cx
  intro x0 x1 x2 h H locs ls hw hl
  refine lv_iload_n (pc := 0) hx hb dX5_isWithin_0 rfl (lv_at hl 0 rfl) ?_
  refine lv_iload_n (pc := 1) hx hb dX5_isWithin_1 rfl (lv_at hl 1 rfl) ?_
  refine lv_icmp_lt (pc := 2) (tgt := 14) hx hb dX5_isWithin_2 (by decide) (fun c1 => ?_) (fun c1 => ?_)
  · have h := h.1 c1
    refine lv_iconst (pc := 14) (v := (0 : Int32)) hx hb dX5_isWithin_14 (by decide) ?_
    exact hret 15 _ _ () _ _ rfl dX5_isWithin_15 h hw
  · have h := h.2 c1
    refine lv_iload_n (pc := 5) hx hb dX5_isWithin_5 rfl (lv_at hl 0 rfl) ?_
    refine lv_iload_n (pc := 6) hx hb dX5_isWithin_6 rfl (lv_at hl 2 rfl) ?_
    refine lv_icmp_gt (pc := 7) (tgt := 14) hx hb dX5_isWithin_7 (by decide) (fun c2 => ?_) (fun c2 => ?_)
    · have h := h.1 c2
      refine lv_iconst (pc := 14) (v := (0 : Int32)) hx hb dX5_isWithin_14 (by decide) ?_
      exact hret 15 _ _ () _ _ rfl dX5_isWithin_15 h hw
    · have h := h.2 c2
      refine lv_iconst (pc := 10) (v := (1 : Int32)) hx hb dX5_isWithin_10 (by decide) ?_
      refine lv_goto (pc := 11) (tgt := 15) hx hb dX5_isWithin_11 (by decide) ?_
      exact hret 15 _ _ () _ _ rfl dX5_isWithin_15 h hw
def wpX5_isWithin (x0 : Int32) (x1 : Int32) (x2 : Int32) (Q : Int32 → Prop) : Prop := wb_X5_isWithin_0 Q x0 x1 x2
set_option maxHeartbeats 4000000 in
set_option maxRecDepth 100000 in
theorem metX5_isWithin (l : Launch) (D : va_G) (tys : TYS) (sz : Nat) (x0 : Int32) (x1 : Int32) (x2 : Int32) (Q : Int32 → Prop) (h : wpX5_isWithin x0 x1 x2 Q) : Met l yX5_isWithin wsX5_isWithin rmX5_isWithin (PcW D tys ([] : va_W) sz [.int x0, .int x1, .int x2]) (QiW D tys ([] : va_W) sz (fun u : Unit => ([] : va_W)) (fun r u => Q r)) rmX5_isWithin.cells rmX5_isWithin.slots (va_A ([] : va_W) sz) := by
  refine startI (plainFor_of_name (by decide)) rfl (Nat.le_of_ble_eq_true rfl) ?_
  intro p e s m args below meth c A0 Z cx hw hret ls hl
  exact wk_X5_isWithin_0 Q cx hret x0 x1 x2 h _ _ _ hw hl
abbrev rmX5_beginTides : Room := { frames := 1, cells := 0, slots := 0, locals := 22 }
theorem inX5_beginTides_X3 : ∀ w ∈ wsX30, w ∈ wsX5_beginTides := by decide +kernel
theorem inX5_beginTides_X4 : ∀ w ∈ wsX40, w ∈ wsX5_beginTides := by decide +kernel
theorem inX5_beginTides_X5 : ∀ w ∈ wsX50, w ∈ wsX5_beginTides := by decide +kernel
theorem kX5_beginTides_10 : Cond.fieldLink RX5 10 "DrownedPost" "now" "LDrownedPost$Office;" ∈ wsX5_beginTides := by decide +kernel
theorem kX5_beginTides_30 : Cond.fieldLink RX5 30 "DrownedPost$Office" "tides" "LDrownedPost$Tides;" ∈ wsX5_beginTides := by decide +kernel
theorem kX5_beginTides_34 : Cond.fieldLink RX5 34 "DrownedPost$Tides" "count" "I" ∈ wsX5_beginTides := by decide +kernel
def wb_X5_beginTides_0 (Q : Int32 → SA → SV → SA → SV → Prop) (A : SA) (V : SV) (A2 : SA) (V2 : SV) (x1 : Int32) : Prop := (wpX5_isWithin x1 (0 : Int32) (99 : Int32) (fun r1 => ((¬ r1 = 0 → (wpX4_begin A V x1 (fun A_6 V_7 => Q (V 0) A_6 V_7 A2 V2))) ∧ (r1 = 0 → False))))
set_option maxHeartbeats 4000000 in
set_option maxRecDepth 100000 in
theorem wk_X5_beginTides_0 (Q : Int32 → SA → SV → SA → SV → Prop) (cx : CX RX5 cX5_beginTides 3 wsX5_beginTides D [(cI, .int), (cZ, .boolean)] p s m args c A0) (hret : ∀ (pc : Nat) (ls : Array Slot) (r : Int32) (u : SA × SV × SA × SV) (H : Heap) (locs : List Loc), narrow .int (.int r) = .int r → decode cX5_beginTides pc = .ok (.ireturn, 1) → Q r u.1 u.2.1 u.2.2.1 u.2.2.2 → WS D s A0 (wD xa ad ad2 cI cZ u.1 u.2.1 u.2.2.1 u.2.2.2) H locs → W p l e rmX5_beginTides s m args below meth c H locs rmX5_beginTides.cells rmX5_beginTides.slots Z (F0 m pc ls [.int r]))  : ∀ (A : SA) (V : SV) (A2 : SA) (V2 : SV) (x1 : Int32) (h : wb_X5_beginTides_0 Q A V A2 V2 x1) (H : Heap) (locs : List Loc) (ls : Array Slot) (hw : WS D s A0 (wD xa ad ad2 cI cZ A V A2 V2) H locs) (hl : lv_has ls 3 [(0, .ref xa), (1, .int x1)]), W p l e rmX5_beginTides s m args below meth c H locs 0 0 Z (F0 m 0 ls []) := by
  obtain ⟨hx, hb, hml, hown, hts, hK, hA⟩ := id cx
  intro A V A2 V2 x1 h H locs ls hw hl
  refine lv_iload_n (pc := 0) hx hb dX5_beginTides_0 rfl (lv_at hl 1 rfl) ?_
  refine lv_iconst (pc := 1) (v := (0 : Int32)) hx hb dX5_beginTides_1 (by decide) ?_
  refine lv_bipush (pc := 2) (v := (99 : Int32)) hx hb dX5_beginTides_2 (by decide) ?_
  refine callSi (pc := 4) (rest := []) (c1 := 0) (s1 := 0) cx hw hl (metX5_isWithin l D [] H.size x1 (0 : Int32) (99 : Int32) _ h) (fun hts => va_cwS 3 hts gX5_beginTides_X5_isWithin rfl rfl rfl (by decide +kernel) ⟨Nat.le_of_ble_eq_true rfl, Nat.le_of_ble_eq_true rfl⟩) SUB.nil [] rfl (JN.nil (S := Unit)) rfl rfl (Nat.le_of_ble_eq_true rfl) ⟨Nat.le_of_ble_eq_true rfl, Nat.le_of_ble_eq_true rfl⟩ rfl rfl dX5_beginTides_4 (fun r1 u H locs h hw => ?_)
  refine lv_if_ne (pc := 7) (tgt := 20) hx hb dX5_beginTides_7 (by decide) (fun c4 => ?_) (fun c4 => ?_)
  · have h := h.1 c4
    refine lv_aload_n (pc := 20) hx hb dX5_beginTides_20 rfl (lv_at hl 0 rfl) ?_
    refine geDX_0 (pc := 21) cx inX5_beginTides_X5 kX5_beginTides_10 hw dX5_beginTides_21 ?_
    refine geD0_X3_0 (pc := 24) cx inX5_beginTides_X3 kX5_beginTides_30 hw dX5_beginTides_24 ?_
    refine geD0_X4_1 (pc := 27) cx inX5_beginTides_X4 kX5_beginTides_34 hw dX5_beginTides_27 ?_
    refine lv_istore_n (pc := 30) (lv' := [(2, .int (V 0)), (0, .ref xa), (1, .int x1)]) hx hb dX5_beginTides_30 rfl hl (by decide) rfl (fun ls hl => ?_)
    refine lv_aload_n (pc := 31) hx hb dX5_beginTides_31 rfl (lv_at hl 1 rfl) ?_
    refine geDX_0 (pc := 32) cx inX5_beginTides_X5 kX5_beginTides_10 hw dX5_beginTides_32 ?_
    refine geD0_X3_0 (pc := 35) cx inX5_beginTides_X3 kX5_beginTides_30 hw dX5_beginTides_35 ?_
    refine lv_iload_n (pc := 38) hx hb dX5_beginTides_38 rfl (lv_at hl 2 rfl) ?_
    refine callVv (pc := 39) (rest := []) (c1 := 0) (s1 := 0) cx hw hl (metX4_begin l D cI cZ ad H.size A V x1 _ h) (fun hts => cwV 1 hts gX5_beginTides_X4_begin rfl rfl rfl (by decide +kernel) ⟨Nat.le_of_ble_eq_true rfl, Nat.le_of_ble_eq_true rfl⟩) subD0 [0, 1] rfl 1 (ci := 4) rfl rfl rfl (jnD0) rfl rfl (Nat.le_of_ble_eq_true rfl) ⟨Nat.le_of_ble_eq_true rfl, Nat.le_of_ble_eq_true rfl⟩ rfl rfl dX5_beginTides_39 (fun u H locs h hw => ?_)
    obtain ⟨A_6, V_7⟩ := u
    refine lv_iload_n (pc := 42) hx hb dX5_beginTides_42 rfl (lv_at hl 0 rfl) ?_
    exact hret 43 _ _ (A_6, V_7, A2, V2) _ _ rfl dX5_beginTides_43 h hw
  · have h := h.2 c4
    exact False.elim h
def wpX5_beginTides (A : SA) (V : SV) (A2 : SA) (V2 : SV) (x1 : Int32) (Q : Int32 → SA → SV → SA → SV → Prop) : Prop := wb_X5_beginTides_0 Q A V A2 V2 x1
set_option maxHeartbeats 4000000 in
set_option maxRecDepth 100000 in
theorem metX5_beginTides (l : Launch) (D : va_G) (cI cZ : ClassId) (xa : Nat) (ad ad2 : Nat → Nat) (sz : Nat) (A : SA) (V : SV) (A2 : SA) (V2 : SV) (x1 : Int32) (Q : Int32 → SA → SV → SA → SV → Prop) (h : wpX5_beginTides A V A2 V2 x1 Q) : Met l yX5_beginTides wsX5_beginTides rmX5_beginTides (PcW D [(cI, .int), (cZ, .boolean)] (wD xa ad ad2 cI cZ A V A2 V2) sz [.ref xa, .int x1]) (QiW D [(cI, .int), (cZ, .boolean)] (wD xa ad ad2 cI cZ A V A2 V2) sz (fun u : SA × SV × SA × SV => (wD xa ad ad2 cI cZ u.1 u.2.1 u.2.2.1 u.2.2.2)) (fun r u => Q r u.1 u.2.1 u.2.2.1 u.2.2.2)) rmX5_beginTides.cells rmX5_beginTides.slots (va_A (wD xa ad ad2 cI cZ A V A2 V2) sz) := by
  refine startI (plainFor_of_name (by decide)) rfl (Nat.le_of_ble_eq_true rfl) ?_
  intro p e s m args below meth c A0 Z cx hw hret ls hl
  exact wk_X5_beginTides_0 Q cx hret A V A2 V2 x1 h _ _ _ hw hl
abbrev rmX5_addTide : Room := { frames := 1, cells := 0, slots := 0, locals := 22 }
theorem inX5_addTide_X3 : ∀ w ∈ wsX30, w ∈ wsX5_addTide := by decide +kernel
theorem inX5_addTide_X4 : ∀ w ∈ wsX40, w ∈ wsX5_addTide := by decide +kernel
theorem inX5_addTide_X5 : ∀ w ∈ wsX50, w ∈ wsX5_addTide := by decide +kernel
theorem kX5_addTide_10 : Cond.fieldLink RX5 10 "DrownedPost" "now" "LDrownedPost$Office;" ∈ wsX5_addTide := by decide +kernel
theorem kX5_addTide_30 : Cond.fieldLink RX5 30 "DrownedPost$Office" "tides" "LDrownedPost$Tides;" ∈ wsX5_addTide := by decide +kernel
theorem kX5_addTide_34 : Cond.fieldLink RX5 34 "DrownedPost$Tides" "count" "I" ∈ wsX5_addTide := by decide +kernel
def wb_X5_addTide_0 (Q : Int32 → SA → SV → SA → SV → Prop) (A : SA) (V : SV) (A2 : SA) (V2 : SV) (x1 : Int32) : Prop := (wpX5_isWithin x1 (0 : Int32) (99 : Int32) (fun r1 => ((¬ r1 = 0 → (((V 0) < (30 : Int32) → (wpX4_append A V x1 (fun A_7 V_8 => Q (V_8 0) A_7 V_8 A2 V2))) ∧ (¬ ((V 0) < (30 : Int32)) → False))) ∧ (r1 = 0 → False))))
set_option maxHeartbeats 4000000 in
set_option maxRecDepth 100000 in
theorem wk_X5_addTide_0 (Q : Int32 → SA → SV → SA → SV → Prop) (cx : CX RX5 cX5_addTide 2 wsX5_addTide D [(cI, .int), (cZ, .boolean)] p s m args c A0) (hret : ∀ (pc : Nat) (ls : Array Slot) (r : Int32) (u : SA × SV × SA × SV) (H : Heap) (locs : List Loc), narrow .int (.int r) = .int r → decode cX5_addTide pc = .ok (.ireturn, 1) → Q r u.1 u.2.1 u.2.2.1 u.2.2.2 → WS D s A0 (wD xa ad ad2 cI cZ u.1 u.2.1 u.2.2.1 u.2.2.2) H locs → W p l e rmX5_addTide s m args below meth c H locs rmX5_addTide.cells rmX5_addTide.slots Z (F0 m pc ls [.int r]))  : ∀ (A : SA) (V : SV) (A2 : SA) (V2 : SV) (x1 : Int32) (h : wb_X5_addTide_0 Q A V A2 V2 x1) (H : Heap) (locs : List Loc) (ls : Array Slot) (hw : WS D s A0 (wD xa ad ad2 cI cZ A V A2 V2) H locs) (hl : lv_has ls 2 [(0, .ref xa), (1, .int x1)]), W p l e rmX5_addTide s m args below meth c H locs 0 0 Z (F0 m 0 ls []) := by
  obtain ⟨hx, hb, hml, hown, hts, hK, hA⟩ := id cx
  intro A V A2 V2 x1 h H locs ls hw hl
  refine lv_iload_n (pc := 0) hx hb dX5_addTide_0 rfl (lv_at hl 1 rfl) ?_
  refine lv_iconst (pc := 1) (v := (0 : Int32)) hx hb dX5_addTide_1 (by decide) ?_
  refine lv_bipush (pc := 2) (v := (99 : Int32)) hx hb dX5_addTide_2 (by decide) ?_
  refine callSi (pc := 4) (rest := []) (c1 := 0) (s1 := 0) cx hw hl (metX5_isWithin l D [] H.size x1 (0 : Int32) (99 : Int32) _ h) (fun hts => va_cwS 3 hts gX5_addTide_X5_isWithin rfl rfl rfl (by decide +kernel) ⟨Nat.le_of_ble_eq_true rfl, Nat.le_of_ble_eq_true rfl⟩) SUB.nil [] rfl (JN.nil (S := Unit)) rfl rfl (Nat.le_of_ble_eq_true rfl) ⟨Nat.le_of_ble_eq_true rfl, Nat.le_of_ble_eq_true rfl⟩ rfl rfl dX5_addTide_4 (fun r1 u H locs h hw => ?_)
  refine lv_if_ne (pc := 7) (tgt := 20) hx hb dX5_addTide_7 (by decide) (fun c4 => ?_) (fun c4 => ?_)
  · have h := h.1 c4
    refine lv_aload_n (pc := 20) hx hb dX5_addTide_20 rfl (lv_at hl 0 rfl) ?_
    refine geDX_0 (pc := 21) cx inX5_addTide_X5 kX5_addTide_10 hw dX5_addTide_21 ?_
    refine geD0_X3_0 (pc := 24) cx inX5_addTide_X3 kX5_addTide_30 hw dX5_addTide_24 ?_
    refine geD0_X4_1 (pc := 27) cx inX5_addTide_X4 kX5_addTide_34 hw dX5_addTide_27 ?_
    refine lv_bipush (pc := 30) (v := (30 : Int32)) hx hb dX5_addTide_30 (by decide) ?_
    refine lv_icmp_lt (pc := 32) (tgt := 45) hx hb dX5_addTide_32 (by decide) (fun c5 => ?_) (fun c5 => ?_)
    · have h := h.1 c5
      refine lv_aload_n (pc := 45) hx hb dX5_addTide_45 rfl (lv_at hl 0 rfl) ?_
      refine geDX_0 (pc := 46) cx inX5_addTide_X5 kX5_addTide_10 hw dX5_addTide_46 ?_
      refine geD0_X3_0 (pc := 49) cx inX5_addTide_X3 kX5_addTide_30 hw dX5_addTide_49 ?_
      refine lv_iload_n (pc := 52) hx hb dX5_addTide_52 rfl (lv_at hl 1 rfl) ?_
      refine callVv (pc := 53) (rest := []) (c1 := 0) (s1 := 0) cx hw hl (metX4_append l D cI cZ ad H.size A V x1 _ h) (fun hts => cwV 1 hts gX5_addTide_X4_append rfl rfl rfl (by decide +kernel) ⟨Nat.le_of_ble_eq_true rfl, Nat.le_of_ble_eq_true rfl⟩) subD0 [0, 1] rfl 1 (ci := 4) rfl rfl rfl (jnD0) rfl rfl (Nat.le_of_ble_eq_true rfl) ⟨Nat.le_of_ble_eq_true rfl, Nat.le_of_ble_eq_true rfl⟩ rfl rfl dX5_addTide_53 (fun u H locs h hw => ?_)
      obtain ⟨A_7, V_8⟩ := u
      refine lv_aload_n (pc := 56) hx hb dX5_addTide_56 rfl (lv_at hl 0 rfl) ?_
      refine geDX_0 (pc := 57) cx inX5_addTide_X5 kX5_addTide_10 hw dX5_addTide_57 ?_
      refine geD0_X3_0 (pc := 60) cx inX5_addTide_X3 kX5_addTide_30 hw dX5_addTide_60 ?_
      refine geD0_X4_1 (pc := 63) cx inX5_addTide_X4 kX5_addTide_34 hw dX5_addTide_63 ?_
      exact hret 66 _ _ (A_7, V_8, A2, V2) _ _ rfl dX5_addTide_66 h hw
    · have h := h.2 c5
      exact False.elim h
  · have h := h.2 c4
    exact False.elim h
def wpX5_addTide (A : SA) (V : SV) (A2 : SA) (V2 : SV) (x1 : Int32) (Q : Int32 → SA → SV → SA → SV → Prop) : Prop := wb_X5_addTide_0 Q A V A2 V2 x1
set_option maxHeartbeats 4000000 in
set_option maxRecDepth 100000 in
theorem metX5_addTide (l : Launch) (D : va_G) (cI cZ : ClassId) (xa : Nat) (ad ad2 : Nat → Nat) (sz : Nat) (A : SA) (V : SV) (A2 : SA) (V2 : SV) (x1 : Int32) (Q : Int32 → SA → SV → SA → SV → Prop) (h : wpX5_addTide A V A2 V2 x1 Q) : Met l yX5_addTide wsX5_addTide rmX5_addTide (PcW D [(cI, .int), (cZ, .boolean)] (wD xa ad ad2 cI cZ A V A2 V2) sz [.ref xa, .int x1]) (QiW D [(cI, .int), (cZ, .boolean)] (wD xa ad ad2 cI cZ A V A2 V2) sz (fun u : SA × SV × SA × SV => (wD xa ad ad2 cI cZ u.1 u.2.1 u.2.2.1 u.2.2.2)) (fun r u => Q r u.1 u.2.1 u.2.2.1 u.2.2.2)) rmX5_addTide.cells rmX5_addTide.slots (va_A (wD xa ad ad2 cI cZ A V A2 V2) sz) := by
  refine startI (plainFor_of_name (by decide)) rfl (Nat.le_of_ble_eq_true rfl) ?_
  intro p e s m args below meth c A0 Z cx hw hret ls hl
  exact wk_X5_addTide_0 Q cx hret A V A2 V2 x1 h _ _ _ hw hl
abbrev rmX5_tide : Room := { frames := 2, cells := 0, slots := 0, locals := 43 }
theorem inX5_tide_X3 : ∀ w ∈ wsX30, w ∈ wsX5_tide := by decide +kernel
theorem inX5_tide_X5 : ∀ w ∈ wsX50, w ∈ wsX5_tide := by decide +kernel
theorem kX5_tide_10 : Cond.fieldLink RX5 10 "DrownedPost" "now" "LDrownedPost$Office;" ∈ wsX5_tide := by decide +kernel
theorem kX5_tide_30 : Cond.fieldLink RX5 30 "DrownedPost$Office" "tides" "LDrownedPost$Tides;" ∈ wsX5_tide := by decide +kernel
def wb_X5_tide_0 (Q : Int32 → SA → SV → SA → SV → Prop) (A : SA) (V : SV) (A2 : SA) (V2 : SV) (x1 : Int32) : Prop := ((0 ≤ x1 → (wpX4_heightIn A V x1 (fun r2 A_3 V_4 => Q r2 A_3 V_4 A2 V2))) ∧ (¬ (0 ≤ x1) → False))
set_option maxHeartbeats 4000000 in
set_option maxRecDepth 100000 in
theorem wk_X5_tide_0 (Q : Int32 → SA → SV → SA → SV → Prop) (cx : CX RX5 cX5_tide 2 wsX5_tide D [(cI, .int), (cZ, .boolean)] p s m args c A0) (hret : ∀ (pc : Nat) (ls : Array Slot) (r : Int32) (u : SA × SV × SA × SV) (H : Heap) (locs : List Loc), narrow .int (.int r) = .int r → decode cX5_tide pc = .ok (.ireturn, 1) → Q r u.1 u.2.1 u.2.2.1 u.2.2.2 → WS D s A0 (wD xa ad ad2 cI cZ u.1 u.2.1 u.2.2.1 u.2.2.2) H locs → W p l e rmX5_tide s m args below meth c H locs rmX5_tide.cells rmX5_tide.slots Z (F0 m pc ls [.int r]))  : ∀ (A : SA) (V : SV) (A2 : SA) (V2 : SV) (x1 : Int32) (h : wb_X5_tide_0 Q A V A2 V2 x1) (H : Heap) (locs : List Loc) (ls : Array Slot) (hw : WS D s A0 (wD xa ad ad2 cI cZ A V A2 V2) H locs) (hl : lv_has ls 2 [(0, .ref xa), (1, .int x1)]), W p l e rmX5_tide s m args below meth c H locs 0 0 Z (F0 m 0 ls []) := by
  obtain ⟨hx, hb, hml, hown, hts, hK, hA⟩ := id cx
  intro A V A2 V2 x1 h H locs ls hw hl
  refine lv_iload_n (pc := 0) hx hb dX5_tide_0 rfl (lv_at hl 1 rfl) ?_
  refine lv_if_ge (pc := 1) (tgt := 14) hx hb dX5_tide_1 (by decide) (fun c1 => ?_) (fun c1 => ?_)
  · have h := h.1 c1
    refine lv_aload_n (pc := 14) hx hb dX5_tide_14 rfl (lv_at hl 0 rfl) ?_
    refine geDX_0 (pc := 15) cx inX5_tide_X5 kX5_tide_10 hw dX5_tide_15 ?_
    refine geD0_X3_0 (pc := 18) cx inX5_tide_X3 kX5_tide_30 hw dX5_tide_18 ?_
    refine lv_iload_n (pc := 21) hx hb dX5_tide_21 rfl (lv_at hl 1 rfl) ?_
    refine callVi (pc := 22) (rest := []) (c1 := 0) (s1 := 0) cx hw hl (metX4_heightIn l D cI cZ ad H.size A V x1 _ h) (fun hts => cwV 1 hts gX5_tide_X4_heightIn rfl rfl rfl (by decide +kernel) ⟨Nat.le_of_ble_eq_true rfl, Nat.le_of_ble_eq_true rfl⟩) subD0 [0, 1] rfl 1 (ci := 4) rfl rfl rfl (jnD0) rfl rfl (Nat.le_of_ble_eq_true rfl) ⟨Nat.le_of_ble_eq_true rfl, Nat.le_of_ble_eq_true rfl⟩ rfl rfl dX5_tide_22 (fun r2 u H locs h hw => ?_)
    obtain ⟨A_3, V_4⟩ := u
    exact hret 25 _ _ (A_3, V_4, A2, V2) _ _ rfl dX5_tide_25 h hw
  · have h := h.2 c1
    exact False.elim h
def wpX5_tide (A : SA) (V : SV) (A2 : SA) (V2 : SV) (x1 : Int32) (Q : Int32 → SA → SV → SA → SV → Prop) : Prop := wb_X5_tide_0 Q A V A2 V2 x1
set_option maxHeartbeats 4000000 in
set_option maxRecDepth 100000 in
theorem metX5_tide (l : Launch) (D : va_G) (cI cZ : ClassId) (xa : Nat) (ad ad2 : Nat → Nat) (sz : Nat) (A : SA) (V : SV) (A2 : SA) (V2 : SV) (x1 : Int32) (Q : Int32 → SA → SV → SA → SV → Prop) (h : wpX5_tide A V A2 V2 x1 Q) : Met l yX5_tide wsX5_tide rmX5_tide (PcW D [(cI, .int), (cZ, .boolean)] (wD xa ad ad2 cI cZ A V A2 V2) sz [.ref xa, .int x1]) (QiW D [(cI, .int), (cZ, .boolean)] (wD xa ad ad2 cI cZ A V A2 V2) sz (fun u : SA × SV × SA × SV => (wD xa ad ad2 cI cZ u.1 u.2.1 u.2.2.1 u.2.2.2)) (fun r u => Q r u.1 u.2.1 u.2.2.1 u.2.2.2)) rmX5_tide.cells rmX5_tide.slots (va_A (wD xa ad ad2 cI cZ A V A2 V2) sz) := by
  refine startI (plainFor_of_name (by decide)) rfl (Nat.le_of_ble_eq_true rfl) ?_
  intro p e s m args below meth c A0 Z cx hw hret ls hl
  exact wk_X5_tide_0 Q cx hret A V A2 V2 x1 h _ _ _ hw hl
abbrev rmX5_addBin : Room := { frames := 1, cells := 0, slots := 0, locals := 23 }
theorem inX5_addBin_X0 : ∀ w ∈ wsX00, w ∈ wsX5_addBin := by decide +kernel
theorem inX5_addBin_X3 : ∀ w ∈ wsX30, w ∈ wsX5_addBin := by decide +kernel
theorem inX5_addBin_X5 : ∀ w ∈ wsX50, w ∈ wsX5_addBin := by decide +kernel
theorem kX5_addBin_10 : Cond.fieldLink RX5 10 "DrownedPost" "now" "LDrownedPost$Office;" ∈ wsX5_addBin := by decide +kernel
theorem kX5_addBin_60 : Cond.fieldLink RX5 60 "DrownedPost$Office" "bins" "LDrownedPost$Bins;" ∈ wsX5_addBin := by decide +kernel
theorem kX5_addBin_64 : Cond.fieldLink RX5 64 "DrownedPost$Bins" "count" "I" ∈ wsX5_addBin := by decide +kernel
def wb_X5_addBin_0 (Q : Int32 → SA → SV → SA → SV → Prop) (A : SA) (V : SV) (A2 : SA) (V2 : SV) (x1 : Int32) (x2 : Int32) : Prop := (wpX5_isWithin x1 (0 : Int32) (99 : Int32) (fun r1 => ((r1 = 0 → False) ∧ (¬ (r1 = 0) → (wpX5_isWithin x2 (1 : Int32) (20 : Int32) (fun r5 => ((¬ r5 = 0 → (((V 1) < (10 : Int32) → (wpX0_append A V x1 x2 (fun r10 A_11 V_12 => Q r10 A_11 V_12 A2 V2))) ∧ (¬ ((V 1) < (10 : Int32)) → False))) ∧ (r5 = 0 → False))))))))
set_option maxHeartbeats 4000000 in
set_option maxRecDepth 100000 in
theorem wk_X5_addBin_0 (Q : Int32 → SA → SV → SA → SV → Prop) (cx : CX RX5 cX5_addBin 3 wsX5_addBin D [(cI, .int), (cZ, .boolean)] p s m args c A0) (hret : ∀ (pc : Nat) (ls : Array Slot) (r : Int32) (u : SA × SV × SA × SV) (H : Heap) (locs : List Loc), narrow .int (.int r) = .int r → decode cX5_addBin pc = .ok (.ireturn, 1) → Q r u.1 u.2.1 u.2.2.1 u.2.2.2 → WS D s A0 (wD xa ad ad2 cI cZ u.1 u.2.1 u.2.2.1 u.2.2.2) H locs → W p l e rmX5_addBin s m args below meth c H locs rmX5_addBin.cells rmX5_addBin.slots Z (F0 m pc ls [.int r]))  : ∀ (A : SA) (V : SV) (A2 : SA) (V2 : SV) (x1 : Int32) (x2 : Int32) (h : wb_X5_addBin_0 Q A V A2 V2 x1 x2) (H : Heap) (locs : List Loc) (ls : Array Slot) (hw : WS D s A0 (wD xa ad ad2 cI cZ A V A2 V2) H locs) (hl : lv_has ls 3 [(0, .ref xa), (1, .int x1), (2, .int x2)]), W p l e rmX5_addBin s m args below meth c H locs 0 0 Z (F0 m 0 ls []) := by
  obtain ⟨hx, hb, hml, hown, hts, hK, hA⟩ := id cx
  intro A V A2 V2 x1 x2 h H locs ls hw hl
  refine lv_iload_n (pc := 0) hx hb dX5_addBin_0 rfl (lv_at hl 1 rfl) ?_
  refine lv_iconst (pc := 1) (v := (0 : Int32)) hx hb dX5_addBin_1 (by decide) ?_
  refine lv_bipush (pc := 2) (v := (99 : Int32)) hx hb dX5_addBin_2 (by decide) ?_
  refine callSi (pc := 4) (rest := []) (c1 := 0) (s1 := 0) cx hw hl (metX5_isWithin l D [] H.size x1 (0 : Int32) (99 : Int32) _ h) (fun hts => va_cwS 3 hts gX5_addBin_X5_isWithin rfl rfl rfl (by decide +kernel) ⟨Nat.le_of_ble_eq_true rfl, Nat.le_of_ble_eq_true rfl⟩) SUB.nil [] rfl (JN.nil (S := Unit)) rfl rfl (Nat.le_of_ble_eq_true rfl) ⟨Nat.le_of_ble_eq_true rfl, Nat.le_of_ble_eq_true rfl⟩ rfl rfl dX5_addBin_4 (fun r1 u H locs h hw => ?_)
  refine lv_if_eq (pc := 7) (tgt := 20) hx hb dX5_addBin_7 (by decide) (fun c4 => ?_) (fun c4 => ?_)
  · have h := h.1 c4
    exact False.elim h
  · have h := h.2 c4
    refine lv_iload_n (pc := 10) hx hb dX5_addBin_10 rfl (lv_at hl 2 rfl) ?_
    refine lv_iconst (pc := 11) (v := (1 : Int32)) hx hb dX5_addBin_11 (by decide) ?_
    refine lv_bipush (pc := 12) (v := (20 : Int32)) hx hb dX5_addBin_12 (by decide) ?_
    refine callSi (pc := 14) (rest := []) (c1 := 0) (s1 := 0) cx hw hl (metX5_isWithin l D [] H.size x2 (1 : Int32) (20 : Int32) _ h) (fun hts => va_cwS 3 hts gX5_addBin_X5_isWithin rfl rfl rfl (by decide +kernel) ⟨Nat.le_of_ble_eq_true rfl, Nat.le_of_ble_eq_true rfl⟩) SUB.nil [] rfl (JN.nil (S := Unit)) rfl rfl (Nat.le_of_ble_eq_true rfl) ⟨Nat.le_of_ble_eq_true rfl, Nat.le_of_ble_eq_true rfl⟩ rfl rfl dX5_addBin_14 (fun r5 u H locs h hw => ?_)
    refine lv_if_ne (pc := 17) (tgt := 30) hx hb dX5_addBin_17 (by decide) (fun c8 => ?_) (fun c8 => ?_)
    · have h := h.1 c8
      refine lv_aload_n (pc := 30) hx hb dX5_addBin_30 rfl (lv_at hl 0 rfl) ?_
      refine geDX_0 (pc := 31) cx inX5_addBin_X5 kX5_addBin_10 hw dX5_addBin_31 ?_
      refine geD0_X3_1 (pc := 34) cx inX5_addBin_X3 kX5_addBin_60 hw dX5_addBin_34 ?_
      refine geD0_X0_3 (pc := 37) cx inX5_addBin_X0 kX5_addBin_64 hw dX5_addBin_37 ?_
      refine lv_bipush (pc := 40) (v := (10 : Int32)) hx hb dX5_addBin_40 (by decide) ?_
      refine lv_icmp_lt (pc := 42) (tgt := 55) hx hb dX5_addBin_42 (by decide) (fun c9 => ?_) (fun c9 => ?_)
      · have h := h.1 c9
        refine lv_aload_n (pc := 55) hx hb dX5_addBin_55 rfl (lv_at hl 0 rfl) ?_
        refine geDX_0 (pc := 56) cx inX5_addBin_X5 kX5_addBin_10 hw dX5_addBin_56 ?_
        refine geD0_X3_1 (pc := 59) cx inX5_addBin_X3 kX5_addBin_60 hw dX5_addBin_59 ?_
        refine lv_iload_n (pc := 62) hx hb dX5_addBin_62 rfl (lv_at hl 1 rfl) ?_
        refine lv_iload_n (pc := 63) hx hb dX5_addBin_63 rfl (lv_at hl 2 rfl) ?_
        refine callVi (pc := 64) (rest := []) (c1 := 0) (s1 := 0) cx hw hl (metX0_append l D cI cZ ad H.size A V x1 x2 _ h) (fun hts => cwV 2 hts gX5_addBin_X0_append rfl rfl rfl (by decide +kernel) ⟨Nat.le_of_ble_eq_true rfl, Nat.le_of_ble_eq_true rfl⟩) subD0 [0, 1] rfl 2 (ci := 0) rfl rfl rfl (jnD0) rfl rfl (Nat.le_of_ble_eq_true rfl) ⟨Nat.le_of_ble_eq_true rfl, Nat.le_of_ble_eq_true rfl⟩ rfl rfl dX5_addBin_64 (fun r10 u H locs h hw => ?_)
        obtain ⟨A_11, V_12⟩ := u
        exact hret 67 _ _ (A_11, V_12, A2, V2) _ _ rfl dX5_addBin_67 h hw
      · have h := h.2 c9
        exact False.elim h
    · have h := h.2 c8
      exact False.elim h
def wpX5_addBin (A : SA) (V : SV) (A2 : SA) (V2 : SV) (x1 : Int32) (x2 : Int32) (Q : Int32 → SA → SV → SA → SV → Prop) : Prop := wb_X5_addBin_0 Q A V A2 V2 x1 x2
set_option maxHeartbeats 4000000 in
set_option maxRecDepth 100000 in
theorem metX5_addBin (l : Launch) (D : va_G) (cI cZ : ClassId) (xa : Nat) (ad ad2 : Nat → Nat) (sz : Nat) (A : SA) (V : SV) (A2 : SA) (V2 : SV) (x1 : Int32) (x2 : Int32) (Q : Int32 → SA → SV → SA → SV → Prop) (h : wpX5_addBin A V A2 V2 x1 x2 Q) : Met l yX5_addBin wsX5_addBin rmX5_addBin (PcW D [(cI, .int), (cZ, .boolean)] (wD xa ad ad2 cI cZ A V A2 V2) sz [.ref xa, .int x1, .int x2]) (QiW D [(cI, .int), (cZ, .boolean)] (wD xa ad ad2 cI cZ A V A2 V2) sz (fun u : SA × SV × SA × SV => (wD xa ad ad2 cI cZ u.1 u.2.1 u.2.2.1 u.2.2.2)) (fun r u => Q r u.1 u.2.1 u.2.2.1 u.2.2.2)) rmX5_addBin.cells rmX5_addBin.slots (va_A (wD xa ad ad2 cI cZ A V A2 V2) sz) := by
  refine startI (plainFor_of_name (by decide)) rfl (Nat.le_of_ble_eq_true rfl) ?_
  intro p e s m args below meth c A0 Z cx hw hret ls hl
  exact wk_X5_addBin_0 Q cx hret A V A2 V2 x1 x2 h _ _ _ hw hl
abbrev rmX5_setCrew : Room := { frames := 1, cells := 0, slots := 0, locals := 22 }
theorem inX5_setCrew_X3 : ∀ w ∈ wsX30, w ∈ wsX5_setCrew := by decide +kernel
theorem inX5_setCrew_X5 : ∀ w ∈ wsX50, w ∈ wsX5_setCrew := by decide +kernel
theorem kX5_setCrew_10 : Cond.fieldLink RX5 10 "DrownedPost" "now" "LDrownedPost$Office;" ∈ wsX5_setCrew := by decide +kernel
theorem kX5_setCrew_74 : Cond.fieldLink RX5 74 "DrownedPost$Office" "sorters" "I" ∈ wsX5_setCrew := by decide +kernel
theorem kX5_setCrew_77 : Cond.fieldLink RX5 77 "DrownedPost$Office" "scrapers" "I" ∈ wsX5_setCrew := by decide +kernel
def wb_X5_setCrew_0 (Q : Int32 → SA → SV → SA → SV → Prop) (A : SA) (V : SV) (A2 : SA) (V2 : SV) (x1 : Int32) (x2 : Int32) : Prop := (wpX5_isWithin x1 (0 : Int32) (9 : Int32) (fun r1 => ((r1 = 0 → False) ∧ (¬ (r1 = 0) → (wpX5_isWithin x2 (0 : Int32) (9 : Int32) (fun r5 => ((¬ r5 = 0 → (∀ V_9 : SV, V_9 = uv V 5 x1 → (∀ V_10 : SV, V_10 = uv V_9 6 x2 → Q (V 6) A V_10 A2 V2))) ∧ (r5 = 0 → False))))))))
set_option maxHeartbeats 4000000 in
set_option maxRecDepth 100000 in
theorem wk_X5_setCrew_0 (Q : Int32 → SA → SV → SA → SV → Prop) (cx : CX RX5 cX5_setCrew 4 wsX5_setCrew D [(cI, .int), (cZ, .boolean)] p s m args c A0) (hret : ∀ (pc : Nat) (ls : Array Slot) (r : Int32) (u : SA × SV × SA × SV) (H : Heap) (locs : List Loc), narrow .int (.int r) = .int r → decode cX5_setCrew pc = .ok (.ireturn, 1) → Q r u.1 u.2.1 u.2.2.1 u.2.2.2 → WS D s A0 (wD xa ad ad2 cI cZ u.1 u.2.1 u.2.2.1 u.2.2.2) H locs → W p l e rmX5_setCrew s m args below meth c H locs rmX5_setCrew.cells rmX5_setCrew.slots Z (F0 m pc ls [.int r]))  : ∀ (A : SA) (V : SV) (A2 : SA) (V2 : SV) (x1 : Int32) (x2 : Int32) (h : wb_X5_setCrew_0 Q A V A2 V2 x1 x2) (H : Heap) (locs : List Loc) (ls : Array Slot) (hw : WS D s A0 (wD xa ad ad2 cI cZ A V A2 V2) H locs) (hl : lv_has ls 4 [(0, .ref xa), (1, .int x1), (2, .int x2)]), W p l e rmX5_setCrew s m args below meth c H locs 0 0 Z (F0 m 0 ls []) := by
  obtain ⟨hx, hb, hml, hown, hts, hK, hA⟩ := id cx
  intro A V A2 V2 x1 x2 h H locs ls hw hl
  refine lv_iload_n (pc := 0) hx hb dX5_setCrew_0 rfl (lv_at hl 1 rfl) ?_
  refine lv_iconst (pc := 1) (v := (0 : Int32)) hx hb dX5_setCrew_1 (by decide) ?_
  refine lv_bipush (pc := 2) (v := (9 : Int32)) hx hb dX5_setCrew_2 (by decide) ?_
  refine callSi (pc := 4) (rest := []) (c1 := 0) (s1 := 0) cx hw hl (metX5_isWithin l D [] H.size x1 (0 : Int32) (9 : Int32) _ h) (fun hts => va_cwS 3 hts gX5_setCrew_X5_isWithin rfl rfl rfl (by decide +kernel) ⟨Nat.le_of_ble_eq_true rfl, Nat.le_of_ble_eq_true rfl⟩) SUB.nil [] rfl (JN.nil (S := Unit)) rfl rfl (Nat.le_of_ble_eq_true rfl) ⟨Nat.le_of_ble_eq_true rfl, Nat.le_of_ble_eq_true rfl⟩ rfl rfl dX5_setCrew_4 (fun r1 u H locs h hw => ?_)
  refine lv_if_eq (pc := 7) (tgt := 20) hx hb dX5_setCrew_7 (by decide) (fun c4 => ?_) (fun c4 => ?_)
  · have h := h.1 c4
    exact False.elim h
  · have h := h.2 c4
    refine lv_iload_n (pc := 10) hx hb dX5_setCrew_10 rfl (lv_at hl 2 rfl) ?_
    refine lv_iconst (pc := 11) (v := (0 : Int32)) hx hb dX5_setCrew_11 (by decide) ?_
    refine lv_bipush (pc := 12) (v := (9 : Int32)) hx hb dX5_setCrew_12 (by decide) ?_
    refine callSi (pc := 14) (rest := []) (c1 := 0) (s1 := 0) cx hw hl (metX5_isWithin l D [] H.size x2 (0 : Int32) (9 : Int32) _ h) (fun hts => va_cwS 3 hts gX5_setCrew_X5_isWithin rfl rfl rfl (by decide +kernel) ⟨Nat.le_of_ble_eq_true rfl, Nat.le_of_ble_eq_true rfl⟩) SUB.nil [] rfl (JN.nil (S := Unit)) rfl rfl (Nat.le_of_ble_eq_true rfl) ⟨Nat.le_of_ble_eq_true rfl, Nat.le_of_ble_eq_true rfl⟩ rfl rfl dX5_setCrew_14 (fun r5 u H locs h hw => ?_)
    refine lv_if_ne (pc := 17) (tgt := 30) hx hb dX5_setCrew_17 (by decide) (fun c8 => ?_) (fun c8 => ?_)
    · have h := h.1 c8
      refine lv_aload_n (pc := 30) hx hb dX5_setCrew_30 rfl (lv_at hl 0 rfl) ?_
      refine geDX_0 (pc := 31) cx inX5_setCrew_X5 kX5_setCrew_10 hw dX5_setCrew_31 ?_
      refine geD0_X3_6 (pc := 34) cx inX5_setCrew_X3 kX5_setCrew_74 hw dX5_setCrew_34 ?_
      refine lv_istore_n (pc := 37) (lv' := [(3, .int (V 6)), (0, .ref xa), (1, .int x1), (2, .int x2)]) hx hb dX5_setCrew_37 rfl hl (by decide) rfl (fun ls hl => ?_)
      refine lv_aload_n (pc := 38) hx hb dX5_setCrew_38 rfl (lv_at hl 1 rfl) ?_
      refine geDX_0 (pc := 39) cx inX5_setCrew_X5 kX5_setCrew_10 hw dX5_setCrew_39 ?_
      refine lv_iload_n (pc := 42) hx hb dX5_setCrew_42 rfl (lv_at hl 2 rfl) ?_
      refine puD0_X3_5 (pc := 43) cx inX5_setCrew_X3 kX5_setCrew_77 hw dX5_setCrew_43 (fun V_9 eV_9 H locs hw => ?_)
      have h := h V_9 eV_9
      refine lv_aload_n (pc := 46) hx hb dX5_setCrew_46 rfl (lv_at hl 1 rfl) ?_
      refine geDX_0 (pc := 47) cx inX5_setCrew_X5 kX5_setCrew_10 hw dX5_setCrew_47 ?_
      refine lv_iload_n (pc := 50) hx hb dX5_setCrew_50 rfl (lv_at hl 3 rfl) ?_
      refine puD0_X3_6 (pc := 51) cx inX5_setCrew_X3 kX5_setCrew_74 hw dX5_setCrew_51 (fun V_10 eV_10 H locs hw => ?_)
      have h := h V_10 eV_10
      refine lv_iload_n (pc := 54) hx hb dX5_setCrew_54 rfl (lv_at hl 0 rfl) ?_
      exact hret 55 _ _ (A, V_10, A2, V2) _ _ rfl dX5_setCrew_55 h hw
    · have h := h.2 c8
      exact False.elim h
def wpX5_setCrew (A : SA) (V : SV) (A2 : SA) (V2 : SV) (x1 : Int32) (x2 : Int32) (Q : Int32 → SA → SV → SA → SV → Prop) : Prop := wb_X5_setCrew_0 Q A V A2 V2 x1 x2
set_option maxHeartbeats 4000000 in
set_option maxRecDepth 100000 in
theorem metX5_setCrew (l : Launch) (D : va_G) (cI cZ : ClassId) (xa : Nat) (ad ad2 : Nat → Nat) (sz : Nat) (A : SA) (V : SV) (A2 : SA) (V2 : SV) (x1 : Int32) (x2 : Int32) (Q : Int32 → SA → SV → SA → SV → Prop) (h : wpX5_setCrew A V A2 V2 x1 x2 Q) : Met l yX5_setCrew wsX5_setCrew rmX5_setCrew (PcW D [(cI, .int), (cZ, .boolean)] (wD xa ad ad2 cI cZ A V A2 V2) sz [.ref xa, .int x1, .int x2]) (QiW D [(cI, .int), (cZ, .boolean)] (wD xa ad ad2 cI cZ A V A2 V2) sz (fun u : SA × SV × SA × SV => (wD xa ad ad2 cI cZ u.1 u.2.1 u.2.2.1 u.2.2.2)) (fun r u => Q r u.1 u.2.1 u.2.2.1 u.2.2.2)) rmX5_setCrew.cells rmX5_setCrew.slots (va_A (wD xa ad ad2 cI cZ A V A2 V2) sz) := by
  refine startI (plainFor_of_name (by decide)) rfl (Nat.le_of_ble_eq_true rfl) ?_
  intro p e s m args below meth c A0 Z cx hw hret ls hl
  exact wk_X5_setCrew_0 Q cx hret A V A2 V2 x1 x2 h _ _ _ hw hl
abbrev rmX5_addDrowned : Room := { frames := 1, cells := 0, slots := 0, locals := 24 }
theorem inX5_addDrowned_X1 : ∀ w ∈ wsX10, w ∈ wsX5_addDrowned := by decide +kernel
theorem inX5_addDrowned_X3 : ∀ w ∈ wsX30, w ∈ wsX5_addDrowned := by decide +kernel
theorem inX5_addDrowned_X5 : ∀ w ∈ wsX50, w ∈ wsX5_addDrowned := by decide +kernel
theorem kX5_addDrowned_10 : Cond.fieldLink RX5 10 "DrownedPost" "now" "LDrownedPost$Office;" ∈ wsX5_addDrowned := by decide +kernel
theorem kX5_addDrowned_82 : Cond.fieldLink RX5 82 "DrownedPost$Office" "drowned" "LDrownedPost$Drowned;" ∈ wsX5_addDrowned := by decide +kernel
theorem kX5_addDrowned_86 : Cond.fieldLink RX5 86 "DrownedPost$Drowned" "count" "I" ∈ wsX5_addDrowned := by decide +kernel
def wb_X5_addDrowned_0 (Q : Int32 → SA → SV → SA → SV → Prop) (A : SA) (V : SV) (A2 : SA) (V2 : SV) (x1 : Int32) (x2 : Int32) (x3 : Int32) : Prop := (wpX5_isWithin x1 (0 : Int32) (99 : Int32) (fun r1 => ((r1 = 0 → False) ∧ (¬ (r1 = 0) → (wpX5_isWithin x2 (0 : Int32) (5 : Int32) (fun r5 => ((r5 = 0 → False) ∧ (¬ (r5 = 0) → (wpX5_isWithin x3 (1 : Int32) (60 : Int32) (fun r9 => ((¬ r9 = 0 → (((V 2) < (16 : Int32) → (wpX1_append A V x1 x2 x3 (fun r14 A_15 V_16 => Q r14 A_15 V_16 A2 V2))) ∧ (¬ ((V 2) < (16 : Int32)) → False))) ∧ (r9 = 0 → False))))))))))))
set_option maxHeartbeats 4000000 in
set_option maxRecDepth 100000 in
theorem wk_X5_addDrowned_0 (Q : Int32 → SA → SV → SA → SV → Prop) (cx : CX RX5 cX5_addDrowned 4 wsX5_addDrowned D [(cI, .int), (cZ, .boolean)] p s m args c A0) (hret : ∀ (pc : Nat) (ls : Array Slot) (r : Int32) (u : SA × SV × SA × SV) (H : Heap) (locs : List Loc), narrow .int (.int r) = .int r → decode cX5_addDrowned pc = .ok (.ireturn, 1) → Q r u.1 u.2.1 u.2.2.1 u.2.2.2 → WS D s A0 (wD xa ad ad2 cI cZ u.1 u.2.1 u.2.2.1 u.2.2.2) H locs → W p l e rmX5_addDrowned s m args below meth c H locs rmX5_addDrowned.cells rmX5_addDrowned.slots Z (F0 m pc ls [.int r]))  : ∀ (A : SA) (V : SV) (A2 : SA) (V2 : SV) (x1 : Int32) (x2 : Int32) (x3 : Int32) (h : wb_X5_addDrowned_0 Q A V A2 V2 x1 x2 x3) (H : Heap) (locs : List Loc) (ls : Array Slot) (hw : WS D s A0 (wD xa ad ad2 cI cZ A V A2 V2) H locs) (hl : lv_has ls 4 [(0, .ref xa), (1, .int x1), (2, .int x2), (3, .int x3)]), W p l e rmX5_addDrowned s m args below meth c H locs 0 0 Z (F0 m 0 ls []) := by
  obtain ⟨hx, hb, hml, hown, hts, hK, hA⟩ := id cx
  intro A V A2 V2 x1 x2 x3 h H locs ls hw hl
  refine lv_iload_n (pc := 0) hx hb dX5_addDrowned_0 rfl (lv_at hl 1 rfl) ?_
  refine lv_iconst (pc := 1) (v := (0 : Int32)) hx hb dX5_addDrowned_1 (by decide) ?_
  refine lv_bipush (pc := 2) (v := (99 : Int32)) hx hb dX5_addDrowned_2 (by decide) ?_
  refine callSi (pc := 4) (rest := []) (c1 := 0) (s1 := 0) cx hw hl (metX5_isWithin l D [] H.size x1 (0 : Int32) (99 : Int32) _ h) (fun hts => va_cwS 3 hts gX5_addDrowned_X5_isWithin rfl rfl rfl (by decide +kernel) ⟨Nat.le_of_ble_eq_true rfl, Nat.le_of_ble_eq_true rfl⟩) SUB.nil [] rfl (JN.nil (S := Unit)) rfl rfl (Nat.le_of_ble_eq_true rfl) ⟨Nat.le_of_ble_eq_true rfl, Nat.le_of_ble_eq_true rfl⟩ rfl rfl dX5_addDrowned_4 (fun r1 u H locs h hw => ?_)
  refine lv_if_eq (pc := 7) (tgt := 29) hx hb dX5_addDrowned_7 (by decide) (fun c4 => ?_) (fun c4 => ?_)
  · have h := h.1 c4
    exact False.elim h
  · have h := h.2 c4
    refine lv_iload_n (pc := 10) hx hb dX5_addDrowned_10 rfl (lv_at hl 2 rfl) ?_
    refine lv_iconst (pc := 11) (v := (0 : Int32)) hx hb dX5_addDrowned_11 (by decide) ?_
    refine lv_iconst (pc := 12) (v := (5 : Int32)) hx hb dX5_addDrowned_12 (by decide) ?_
    refine callSi (pc := 13) (rest := []) (c1 := 0) (s1 := 0) cx hw hl (metX5_isWithin l D [] H.size x2 (0 : Int32) (5 : Int32) _ h) (fun hts => va_cwS 3 hts gX5_addDrowned_X5_isWithin rfl rfl rfl (by decide +kernel) ⟨Nat.le_of_ble_eq_true rfl, Nat.le_of_ble_eq_true rfl⟩) SUB.nil [] rfl (JN.nil (S := Unit)) rfl rfl (Nat.le_of_ble_eq_true rfl) ⟨Nat.le_of_ble_eq_true rfl, Nat.le_of_ble_eq_true rfl⟩ rfl rfl dX5_addDrowned_13 (fun r5 u H locs h hw => ?_)
    refine lv_if_eq (pc := 16) (tgt := 29) hx hb dX5_addDrowned_16 (by decide) (fun c8 => ?_) (fun c8 => ?_)
    · have h := h.1 c8
      exact False.elim h
    · have h := h.2 c8
      refine lv_iload_n (pc := 19) hx hb dX5_addDrowned_19 rfl (lv_at hl 3 rfl) ?_
      refine lv_iconst (pc := 20) (v := (1 : Int32)) hx hb dX5_addDrowned_20 (by decide) ?_
      refine lv_bipush (pc := 21) (v := (60 : Int32)) hx hb dX5_addDrowned_21 (by decide) ?_
      refine callSi (pc := 23) (rest := []) (c1 := 0) (s1 := 0) cx hw hl (metX5_isWithin l D [] H.size x3 (1 : Int32) (60 : Int32) _ h) (fun hts => va_cwS 3 hts gX5_addDrowned_X5_isWithin rfl rfl rfl (by decide +kernel) ⟨Nat.le_of_ble_eq_true rfl, Nat.le_of_ble_eq_true rfl⟩) SUB.nil [] rfl (JN.nil (S := Unit)) rfl rfl (Nat.le_of_ble_eq_true rfl) ⟨Nat.le_of_ble_eq_true rfl, Nat.le_of_ble_eq_true rfl⟩ rfl rfl dX5_addDrowned_23 (fun r9 u H locs h hw => ?_)
      refine lv_if_ne (pc := 26) (tgt := 39) hx hb dX5_addDrowned_26 (by decide) (fun c12 => ?_) (fun c12 => ?_)
      · have h := h.1 c12
        refine lv_aload_n (pc := 39) hx hb dX5_addDrowned_39 rfl (lv_at hl 0 rfl) ?_
        refine geDX_0 (pc := 40) cx inX5_addDrowned_X5 kX5_addDrowned_10 hw dX5_addDrowned_40 ?_
        refine geD0_X3_2 (pc := 43) cx inX5_addDrowned_X3 kX5_addDrowned_82 hw dX5_addDrowned_43 ?_
        refine geD0_X1_5 (pc := 46) cx inX5_addDrowned_X1 kX5_addDrowned_86 hw dX5_addDrowned_46 ?_
        refine lv_bipush (pc := 49) (v := (16 : Int32)) hx hb dX5_addDrowned_49 (by decide) ?_
        refine lv_icmp_lt (pc := 51) (tgt := 64) hx hb dX5_addDrowned_51 (by decide) (fun c13 => ?_) (fun c13 => ?_)
        · have h := h.1 c13
          refine lv_aload_n (pc := 64) hx hb dX5_addDrowned_64 rfl (lv_at hl 0 rfl) ?_
          refine geDX_0 (pc := 65) cx inX5_addDrowned_X5 kX5_addDrowned_10 hw dX5_addDrowned_65 ?_
          refine geD0_X3_2 (pc := 68) cx inX5_addDrowned_X3 kX5_addDrowned_82 hw dX5_addDrowned_68 ?_
          refine lv_iload_n (pc := 71) hx hb dX5_addDrowned_71 rfl (lv_at hl 1 rfl) ?_
          refine lv_iload_n (pc := 72) hx hb dX5_addDrowned_72 rfl (lv_at hl 2 rfl) ?_
          refine lv_iload_n (pc := 73) hx hb dX5_addDrowned_73 rfl (lv_at hl 3 rfl) ?_
          refine callVi (pc := 74) (rest := []) (c1 := 0) (s1 := 0) cx hw hl (metX1_append l D cI cZ ad H.size A V x1 x2 x3 _ h) (fun hts => cwV 3 hts gX5_addDrowned_X1_append rfl rfl rfl (by decide +kernel) ⟨Nat.le_of_ble_eq_true rfl, Nat.le_of_ble_eq_true rfl⟩) subD0 [0, 1] rfl 3 (ci := 1) rfl rfl rfl (jnD0) rfl rfl (Nat.le_of_ble_eq_true rfl) ⟨Nat.le_of_ble_eq_true rfl, Nat.le_of_ble_eq_true rfl⟩ rfl rfl dX5_addDrowned_74 (fun r14 u H locs h hw => ?_)
          obtain ⟨A_15, V_16⟩ := u
          exact hret 77 _ _ (A_15, V_16, A2, V2) _ _ rfl dX5_addDrowned_77 h hw
        · have h := h.2 c13
          exact False.elim h
      · have h := h.2 c12
        exact False.elim h
def wpX5_addDrowned (A : SA) (V : SV) (A2 : SA) (V2 : SV) (x1 : Int32) (x2 : Int32) (x3 : Int32) (Q : Int32 → SA → SV → SA → SV → Prop) : Prop := wb_X5_addDrowned_0 Q A V A2 V2 x1 x2 x3
set_option maxHeartbeats 4000000 in
set_option maxRecDepth 100000 in
theorem metX5_addDrowned (l : Launch) (D : va_G) (cI cZ : ClassId) (xa : Nat) (ad ad2 : Nat → Nat) (sz : Nat) (A : SA) (V : SV) (A2 : SA) (V2 : SV) (x1 : Int32) (x2 : Int32) (x3 : Int32) (Q : Int32 → SA → SV → SA → SV → Prop) (h : wpX5_addDrowned A V A2 V2 x1 x2 x3 Q) : Met l yX5_addDrowned wsX5_addDrowned rmX5_addDrowned (PcW D [(cI, .int), (cZ, .boolean)] (wD xa ad ad2 cI cZ A V A2 V2) sz [.ref xa, .int x1, .int x2, .int x3]) (QiW D [(cI, .int), (cZ, .boolean)] (wD xa ad ad2 cI cZ A V A2 V2) sz (fun u : SA × SV × SA × SV => (wD xa ad ad2 cI cZ u.1 u.2.1 u.2.2.1 u.2.2.2)) (fun r u => Q r u.1 u.2.1 u.2.2.1 u.2.2.2)) rmX5_addDrowned.cells rmX5_addDrowned.slots (va_A (wD xa ad ad2 cI cZ A V A2 V2) sz) := by
  refine startI (plainFor_of_name (by decide)) rfl (Nat.le_of_ble_eq_true rfl) ?_
  intro p e s m args below meth c A0 Z cx hw hret ls hl
  exact wk_X5_addDrowned_0 Q cx hret A V A2 V2 x1 x2 x3 h _ _ _ hw hl
abbrev rmX5_bring : Room := { frames := 1, cells := 0, slots := 0, locals := 24 }
theorem inX5_bring_X2 : ∀ w ∈ wsX20, w ∈ wsX5_bring := by decide +kernel
theorem inX5_bring_X3 : ∀ w ∈ wsX30, w ∈ wsX5_bring := by decide +kernel
theorem inX5_bring_X5 : ∀ w ∈ wsX50, w ∈ wsX5_bring := by decide +kernel
theorem kX5_bring_10 : Cond.fieldLink RX5 10 "DrownedPost" "now" "LDrownedPost$Office;" ∈ wsX5_bring := by decide +kernel
theorem kX5_bring_105 : Cond.fieldLink RX5 105 "DrownedPost$Office" "letters" "LDrownedPost$Letters;" ∈ wsX5_bring := by decide +kernel
theorem kX5_bring_109 : Cond.fieldLink RX5 109 "DrownedPost$Letters" "count" "I" ∈ wsX5_bring := by decide +kernel
theorem kX5_bring_82 : Cond.fieldLink RX5 82 "DrownedPost$Office" "drowned" "LDrownedPost$Drowned;" ∈ wsX5_bring := by decide +kernel
def wb_X5_bring_0 (Q : Int32 → SA → SV → SA → SV → Prop) (A : SA) (V : SV) (A2 : SA) (V2 : SV) (x1 : Int32) (x2 : Int32) (x3 : Int32) : Prop := (wpX1_has A V x1 (fun r1 A_2 V_3 => ((¬ r1 = 0 → (wpX5_isWithin x2 (1 : Int32) (9 : Int32) (fun r5 => ((r5 = 0 → False) ∧ (¬ (r5 = 0) → (wpX5_isWithin x3 (1 : Int32) (60 : Int32) (fun r9 => ((¬ r9 = 0 → (((V_3 3) < (150 : Int32) → (wpX2_append A_2 V_3 x1 x2 x3 (fun r14 A_15 V_16 => Q r14 A_15 V_16 A2 V2))) ∧ (¬ ((V_3 3) < (150 : Int32)) → False))) ∧ (r9 = 0 → False))))))))) ∧ (r1 = 0 → False))))
set_option maxHeartbeats 4000000 in
set_option maxRecDepth 100000 in
theorem wk_X5_bring_0 (Q : Int32 → SA → SV → SA → SV → Prop) (cx : CX RX5 cX5_bring 4 wsX5_bring D [(cI, .int), (cZ, .boolean)] p s m args c A0) (hret : ∀ (pc : Nat) (ls : Array Slot) (r : Int32) (u : SA × SV × SA × SV) (H : Heap) (locs : List Loc), narrow .int (.int r) = .int r → decode cX5_bring pc = .ok (.ireturn, 1) → Q r u.1 u.2.1 u.2.2.1 u.2.2.2 → WS D s A0 (wD xa ad ad2 cI cZ u.1 u.2.1 u.2.2.1 u.2.2.2) H locs → W p l e rmX5_bring s m args below meth c H locs rmX5_bring.cells rmX5_bring.slots Z (F0 m pc ls [.int r]))  : ∀ (A : SA) (V : SV) (A2 : SA) (V2 : SV) (x1 : Int32) (x2 : Int32) (x3 : Int32) (h : wb_X5_bring_0 Q A V A2 V2 x1 x2 x3) (H : Heap) (locs : List Loc) (ls : Array Slot) (hw : WS D s A0 (wD xa ad ad2 cI cZ A V A2 V2) H locs) (hl : lv_has ls 4 [(0, .ref xa), (1, .int x1), (2, .int x2), (3, .int x3)]), W p l e rmX5_bring s m args below meth c H locs 0 0 Z (F0 m 0 ls []) := by
  obtain ⟨hx, hb, hml, hown, hts, hK, hA⟩ := id cx
  intro A V A2 V2 x1 x2 x3 h H locs ls hw hl
  refine lv_aload_n (pc := 0) hx hb dX5_bring_0 rfl (lv_at hl 0 rfl) ?_
  refine geDX_0 (pc := 1) cx inX5_bring_X5 kX5_bring_10 hw dX5_bring_1 ?_
  refine geD0_X3_2 (pc := 4) cx inX5_bring_X3 kX5_bring_82 hw dX5_bring_4 ?_
  refine lv_iload_n (pc := 7) hx hb dX5_bring_7 rfl (lv_at hl 1 rfl) ?_
  refine callVi (pc := 8) (rest := []) (c1 := 0) (s1 := 0) cx hw hl (metX1_has l D cI cZ ad H.size A V x1 _ h) (fun hts => cwV 1 hts gX5_bring_X1_has rfl rfl rfl (by decide +kernel) ⟨Nat.le_of_ble_eq_true rfl, Nat.le_of_ble_eq_true rfl⟩) subD0 [0, 1] rfl 3 (ci := 1) rfl rfl rfl (jnD0) rfl rfl (Nat.le_of_ble_eq_true rfl) ⟨Nat.le_of_ble_eq_true rfl, Nat.le_of_ble_eq_true rfl⟩ rfl rfl dX5_bring_8 (fun r1 u H locs h hw => ?_)
  obtain ⟨A_2, V_3⟩ := u
  refine lv_if_ne (pc := 11) (tgt := 24) hx hb dX5_bring_11 (by decide) (fun c4 => ?_) (fun c4 => ?_)
  · have h := h.1 c4
    refine lv_iload_n (pc := 24) hx hb dX5_bring_24 rfl (lv_at hl 2 rfl) ?_
    refine lv_iconst (pc := 25) (v := (1 : Int32)) hx hb dX5_bring_25 (by decide) ?_
    refine lv_bipush (pc := 26) (v := (9 : Int32)) hx hb dX5_bring_26 (by decide) ?_
    refine callSi (pc := 28) (rest := []) (c1 := 0) (s1 := 0) cx hw hl (metX5_isWithin l D [] H.size x2 (1 : Int32) (9 : Int32) _ h) (fun hts => va_cwS 3 hts gX5_bring_X5_isWithin rfl rfl rfl (by decide +kernel) ⟨Nat.le_of_ble_eq_true rfl, Nat.le_of_ble_eq_true rfl⟩) SUB.nil [] rfl (JN.nil (S := Unit)) rfl rfl (Nat.le_of_ble_eq_true rfl) ⟨Nat.le_of_ble_eq_true rfl, Nat.le_of_ble_eq_true rfl⟩ rfl rfl dX5_bring_28 (fun r5 u H locs h hw => ?_)
    refine lv_if_eq (pc := 31) (tgt := 44) hx hb dX5_bring_31 (by decide) (fun c8 => ?_) (fun c8 => ?_)
    · have h := h.1 c8
      exact False.elim h
    · have h := h.2 c8
      refine lv_iload_n (pc := 34) hx hb dX5_bring_34 rfl (lv_at hl 3 rfl) ?_
      refine lv_iconst (pc := 35) (v := (1 : Int32)) hx hb dX5_bring_35 (by decide) ?_
      refine lv_bipush (pc := 36) (v := (60 : Int32)) hx hb dX5_bring_36 (by decide) ?_
      refine callSi (pc := 38) (rest := []) (c1 := 0) (s1 := 0) cx hw hl (metX5_isWithin l D [] H.size x3 (1 : Int32) (60 : Int32) _ h) (fun hts => va_cwS 3 hts gX5_bring_X5_isWithin rfl rfl rfl (by decide +kernel) ⟨Nat.le_of_ble_eq_true rfl, Nat.le_of_ble_eq_true rfl⟩) SUB.nil [] rfl (JN.nil (S := Unit)) rfl rfl (Nat.le_of_ble_eq_true rfl) ⟨Nat.le_of_ble_eq_true rfl, Nat.le_of_ble_eq_true rfl⟩ rfl rfl dX5_bring_38 (fun r9 u H locs h hw => ?_)
      refine lv_if_ne (pc := 41) (tgt := 54) hx hb dX5_bring_41 (by decide) (fun c12 => ?_) (fun c12 => ?_)
      · have h := h.1 c12
        refine lv_aload_n (pc := 54) hx hb dX5_bring_54 rfl (lv_at hl 0 rfl) ?_
        refine geDX_0 (pc := 55) cx inX5_bring_X5 kX5_bring_10 hw dX5_bring_55 ?_
        refine geD0_X3_3 (pc := 58) cx inX5_bring_X3 kX5_bring_105 hw dX5_bring_58 ?_
        refine geD0_X2_9 (pc := 61) cx inX5_bring_X2 kX5_bring_109 hw dX5_bring_61 ?_
        refine lv_sipush (pc := 64) (v := (150 : Int32)) hx hb dX5_bring_64 (by decide) ?_
        refine lv_icmp_lt (pc := 67) (tgt := 80) hx hb dX5_bring_67 (by decide) (fun c13 => ?_) (fun c13 => ?_)
        · have h := h.1 c13
          refine lv_aload_n (pc := 80) hx hb dX5_bring_80 rfl (lv_at hl 0 rfl) ?_
          refine geDX_0 (pc := 81) cx inX5_bring_X5 kX5_bring_10 hw dX5_bring_81 ?_
          refine geD0_X3_3 (pc := 84) cx inX5_bring_X3 kX5_bring_105 hw dX5_bring_84 ?_
          refine lv_iload_n (pc := 87) hx hb dX5_bring_87 rfl (lv_at hl 1 rfl) ?_
          refine lv_iload_n (pc := 88) hx hb dX5_bring_88 rfl (lv_at hl 2 rfl) ?_
          refine lv_iload_n (pc := 89) hx hb dX5_bring_89 rfl (lv_at hl 3 rfl) ?_
          refine callVi (pc := 90) (rest := []) (c1 := 0) (s1 := 0) cx hw hl (metX2_append l D cI cZ ad H.size A_2 V_3 x1 x2 x3 _ h) (fun hts => cwV 3 hts gX5_bring_X2_append rfl rfl rfl (by decide +kernel) ⟨Nat.le_of_ble_eq_true rfl, Nat.le_of_ble_eq_true rfl⟩) subD0 [0, 1] rfl 4 (ci := 2) rfl rfl rfl (jnD0) rfl rfl (Nat.le_of_ble_eq_true rfl) ⟨Nat.le_of_ble_eq_true rfl, Nat.le_of_ble_eq_true rfl⟩ rfl rfl dX5_bring_90 (fun r14 u H locs h hw => ?_)
          obtain ⟨A_15, V_16⟩ := u
          exact hret 93 _ _ (A_15, V_16, A2, V2) _ _ rfl dX5_bring_93 h hw
        · have h := h.2 c13
          exact False.elim h
      · have h := h.2 c12
        exact False.elim h
  · have h := h.2 c4
    exact False.elim h
def wpX5_bring (A : SA) (V : SV) (A2 : SA) (V2 : SV) (x1 : Int32) (x2 : Int32) (x3 : Int32) (Q : Int32 → SA → SV → SA → SV → Prop) : Prop := wb_X5_bring_0 Q A V A2 V2 x1 x2 x3
set_option maxHeartbeats 4000000 in
set_option maxRecDepth 100000 in
theorem metX5_bring (l : Launch) (D : va_G) (cI cZ : ClassId) (xa : Nat) (ad ad2 : Nat → Nat) (sz : Nat) (A : SA) (V : SV) (A2 : SA) (V2 : SV) (x1 : Int32) (x2 : Int32) (x3 : Int32) (Q : Int32 → SA → SV → SA → SV → Prop) (h : wpX5_bring A V A2 V2 x1 x2 x3 Q) : Met l yX5_bring wsX5_bring rmX5_bring (PcW D [(cI, .int), (cZ, .boolean)] (wD xa ad ad2 cI cZ A V A2 V2) sz [.ref xa, .int x1, .int x2, .int x3]) (QiW D [(cI, .int), (cZ, .boolean)] (wD xa ad ad2 cI cZ A V A2 V2) sz (fun u : SA × SV × SA × SV => (wD xa ad ad2 cI cZ u.1 u.2.1 u.2.2.1 u.2.2.2)) (fun r u => Q r u.1 u.2.1 u.2.2.1 u.2.2.2)) rmX5_bring.cells rmX5_bring.slots (va_A (wD xa ad ad2 cI cZ A V A2 V2) sz) := by
  refine startI (plainFor_of_name (by decide)) rfl (Nat.le_of_ble_eq_true rfl) ?_
  intro p e s m args below meth c A0 Z cx hw hret ls hl
  exact wk_X5_bring_0 Q cx hret A V A2 V2 x1 x2 x3 h _ _ _ hw hl
abbrev rmX5_letter : Room := { frames := 2, cells := 0, slots := 0, locals := 43 }
theorem inX5_letter_X3 : ∀ w ∈ wsX30, w ∈ wsX5_letter := by decide +kernel
theorem inX5_letter_X5 : ∀ w ∈ wsX50, w ∈ wsX5_letter := by decide +kernel
theorem kX5_letter_10 : Cond.fieldLink RX5 10 "DrownedPost" "now" "LDrownedPost$Office;" ∈ wsX5_letter := by decide +kernel
theorem kX5_letter_105 : Cond.fieldLink RX5 105 "DrownedPost$Office" "letters" "LDrownedPost$Letters;" ∈ wsX5_letter := by decide +kernel
def wb_X5_letter_0 (Q : Int32 → SA → SV → SA → SV → Prop) (A : SA) (V : SV) (A2 : SA) (V2 : SV) (x1 : Int32) (x2 : Int32) : Prop := (wpX2_has A V x1 (fun r1 A_2 V_3 => ((r1 = 0 → False) ∧ (¬ (r1 = 0) → (wpX5_isWithin x2 (0 : Int32) (8 : Int32) (fun r5 => ((¬ r5 = 0 → (wpX2_fact A_2 V_3 x1 x2 (fun r9 A_10 V_11 => Q r9 A_10 V_11 A2 V2))) ∧ (r5 = 0 → False))))))))
set_option maxHeartbeats 4000000 in
set_option maxRecDepth 100000 in
theorem wk_X5_letter_0 (Q : Int32 → SA → SV → SA → SV → Prop) (cx : CX RX5 cX5_letter 3 wsX5_letter D [(cI, .int), (cZ, .boolean)] p s m args c A0) (hret : ∀ (pc : Nat) (ls : Array Slot) (r : Int32) (u : SA × SV × SA × SV) (H : Heap) (locs : List Loc), narrow .int (.int r) = .int r → decode cX5_letter pc = .ok (.ireturn, 1) → Q r u.1 u.2.1 u.2.2.1 u.2.2.2 → WS D s A0 (wD xa ad ad2 cI cZ u.1 u.2.1 u.2.2.1 u.2.2.2) H locs → W p l e rmX5_letter s m args below meth c H locs rmX5_letter.cells rmX5_letter.slots Z (F0 m pc ls [.int r]))  : ∀ (A : SA) (V : SV) (A2 : SA) (V2 : SV) (x1 : Int32) (x2 : Int32) (h : wb_X5_letter_0 Q A V A2 V2 x1 x2) (H : Heap) (locs : List Loc) (ls : Array Slot) (hw : WS D s A0 (wD xa ad ad2 cI cZ A V A2 V2) H locs) (hl : lv_has ls 3 [(0, .ref xa), (1, .int x1), (2, .int x2)]), W p l e rmX5_letter s m args below meth c H locs 0 0 Z (F0 m 0 ls []) := by
  obtain ⟨hx, hb, hml, hown, hts, hK, hA⟩ := id cx
  intro A V A2 V2 x1 x2 h H locs ls hw hl
  refine lv_aload_n (pc := 0) hx hb dX5_letter_0 rfl (lv_at hl 0 rfl) ?_
  refine geDX_0 (pc := 1) cx inX5_letter_X5 kX5_letter_10 hw dX5_letter_1 ?_
  refine geD0_X3_3 (pc := 4) cx inX5_letter_X3 kX5_letter_105 hw dX5_letter_4 ?_
  refine lv_iload_n (pc := 7) hx hb dX5_letter_7 rfl (lv_at hl 1 rfl) ?_
  refine callVi (pc := 8) (rest := []) (c1 := 0) (s1 := 0) cx hw hl (metX2_has l D cI cZ ad H.size A V x1 _ h) (fun hts => cwV 1 hts gX5_letter_X2_has rfl rfl rfl (by decide +kernel) ⟨Nat.le_of_ble_eq_true rfl, Nat.le_of_ble_eq_true rfl⟩) subD0 [0, 1] rfl 4 (ci := 2) rfl rfl rfl (jnD0) rfl rfl (Nat.le_of_ble_eq_true rfl) ⟨Nat.le_of_ble_eq_true rfl, Nat.le_of_ble_eq_true rfl⟩ rfl rfl dX5_letter_8 (fun r1 u H locs h hw => ?_)
  obtain ⟨A_2, V_3⟩ := u
  refine lv_if_eq (pc := 11) (tgt := 24) hx hb dX5_letter_11 (by decide) (fun c4 => ?_) (fun c4 => ?_)
  · have h := h.1 c4
    exact False.elim h
  · have h := h.2 c4
    refine lv_iload_n (pc := 14) hx hb dX5_letter_14 rfl (lv_at hl 2 rfl) ?_
    refine lv_iconst (pc := 15) (v := (0 : Int32)) hx hb dX5_letter_15 (by decide) ?_
    refine lv_bipush (pc := 16) (v := (8 : Int32)) hx hb dX5_letter_16 (by decide) ?_
    refine callSi (pc := 18) (rest := []) (c1 := 0) (s1 := 0) cx hw hl (metX5_isWithin l D [] H.size x2 (0 : Int32) (8 : Int32) _ h) (fun hts => va_cwS 3 hts gX5_letter_X5_isWithin rfl rfl rfl (by decide +kernel) ⟨Nat.le_of_ble_eq_true rfl, Nat.le_of_ble_eq_true rfl⟩) SUB.nil [] rfl (JN.nil (S := Unit)) rfl rfl (Nat.le_of_ble_eq_true rfl) ⟨Nat.le_of_ble_eq_true rfl, Nat.le_of_ble_eq_true rfl⟩ rfl rfl dX5_letter_18 (fun r5 u H locs h hw => ?_)
    refine lv_if_ne (pc := 21) (tgt := 34) hx hb dX5_letter_21 (by decide) (fun c8 => ?_) (fun c8 => ?_)
    · have h := h.1 c8
      refine lv_aload_n (pc := 34) hx hb dX5_letter_34 rfl (lv_at hl 0 rfl) ?_
      refine geDX_0 (pc := 35) cx inX5_letter_X5 kX5_letter_10 hw dX5_letter_35 ?_
      refine geD0_X3_3 (pc := 38) cx inX5_letter_X3 kX5_letter_105 hw dX5_letter_38 ?_
      refine lv_iload_n (pc := 41) hx hb dX5_letter_41 rfl (lv_at hl 1 rfl) ?_
      refine lv_iload_n (pc := 42) hx hb dX5_letter_42 rfl (lv_at hl 2 rfl) ?_
      refine callVi (pc := 43) (rest := []) (c1 := 0) (s1 := 0) cx hw hl (metX2_fact l D cI cZ ad H.size A_2 V_3 x1 x2 _ h) (fun hts => cwV 2 hts gX5_letter_X2_fact rfl rfl rfl (by decide +kernel) ⟨Nat.le_of_ble_eq_true rfl, Nat.le_of_ble_eq_true rfl⟩) subD0 [0, 1] rfl 4 (ci := 2) rfl rfl rfl (jnD0) rfl rfl (Nat.le_of_ble_eq_true rfl) ⟨Nat.le_of_ble_eq_true rfl, Nat.le_of_ble_eq_true rfl⟩ rfl rfl dX5_letter_43 (fun r9 u H locs h hw => ?_)
      obtain ⟨A_10, V_11⟩ := u
      exact hret 46 _ _ (A_10, V_11, A2, V2) _ _ rfl dX5_letter_46 h hw
    · have h := h.2 c8
      exact False.elim h
def wpX5_letter (A : SA) (V : SV) (A2 : SA) (V2 : SV) (x1 : Int32) (x2 : Int32) (Q : Int32 → SA → SV → SA → SV → Prop) : Prop := wb_X5_letter_0 Q A V A2 V2 x1 x2
set_option maxHeartbeats 4000000 in
set_option maxRecDepth 100000 in
theorem metX5_letter (l : Launch) (D : va_G) (cI cZ : ClassId) (xa : Nat) (ad ad2 : Nat → Nat) (sz : Nat) (A : SA) (V : SV) (A2 : SA) (V2 : SV) (x1 : Int32) (x2 : Int32) (Q : Int32 → SA → SV → SA → SV → Prop) (h : wpX5_letter A V A2 V2 x1 x2 Q) : Met l yX5_letter wsX5_letter rmX5_letter (PcW D [(cI, .int), (cZ, .boolean)] (wD xa ad ad2 cI cZ A V A2 V2) sz [.ref xa, .int x1, .int x2]) (QiW D [(cI, .int), (cZ, .boolean)] (wD xa ad ad2 cI cZ A V A2 V2) sz (fun u : SA × SV × SA × SV => (wD xa ad ad2 cI cZ u.1 u.2.1 u.2.2.1 u.2.2.2)) (fun r u => Q r u.1 u.2.1 u.2.2.1 u.2.2.2)) rmX5_letter.cells rmX5_letter.slots (va_A (wD xa ad ad2 cI cZ A V A2 V2) sz) := by
  refine startI (plainFor_of_name (by decide)) rfl (Nat.le_of_ble_eq_true rfl) ?_
  intro p e s m args below meth c A0 Z cx hw hret ls hl
  exact wk_X5_letter_0 Q cx hret A V A2 V2 x1 x2 h _ _ _ hw hl
abbrev rmX5_drowned : Room := { frames := 2, cells := 0, slots := 0, locals := 43 }
theorem inX5_drowned_X3 : ∀ w ∈ wsX30, w ∈ wsX5_drowned := by decide +kernel
theorem inX5_drowned_X5 : ∀ w ∈ wsX50, w ∈ wsX5_drowned := by decide +kernel
theorem kX5_drowned_10 : Cond.fieldLink RX5 10 "DrownedPost" "now" "LDrownedPost$Office;" ∈ wsX5_drowned := by decide +kernel
theorem kX5_drowned_82 : Cond.fieldLink RX5 82 "DrownedPost$Office" "drowned" "LDrownedPost$Drowned;" ∈ wsX5_drowned := by decide +kernel
def wb_X5_drowned_0 (Q : Int32 → SA → SV → SA → SV → Prop) (A : SA) (V : SV) (A2 : SA) (V2 : SV) (x1 : Int32) (x2 : Int32) : Prop := (wpX1_has A V x1 (fun r1 A_2 V_3 => ((r1 = 0 → False) ∧ (¬ (r1 = 0) → (wpX5_isWithin x2 (0 : Int32) (4 : Int32) (fun r5 => ((¬ r5 = 0 → (wpX1_fact A_2 V_3 x1 x2 (fun r9 A_10 V_11 => Q r9 A_10 V_11 A2 V2))) ∧ (r5 = 0 → False))))))))
set_option maxHeartbeats 4000000 in
set_option maxRecDepth 100000 in
theorem wk_X5_drowned_0 (Q : Int32 → SA → SV → SA → SV → Prop) (cx : CX RX5 cX5_drowned 3 wsX5_drowned D [(cI, .int), (cZ, .boolean)] p s m args c A0) (hret : ∀ (pc : Nat) (ls : Array Slot) (r : Int32) (u : SA × SV × SA × SV) (H : Heap) (locs : List Loc), narrow .int (.int r) = .int r → decode cX5_drowned pc = .ok (.ireturn, 1) → Q r u.1 u.2.1 u.2.2.1 u.2.2.2 → WS D s A0 (wD xa ad ad2 cI cZ u.1 u.2.1 u.2.2.1 u.2.2.2) H locs → W p l e rmX5_drowned s m args below meth c H locs rmX5_drowned.cells rmX5_drowned.slots Z (F0 m pc ls [.int r]))  : ∀ (A : SA) (V : SV) (A2 : SA) (V2 : SV) (x1 : Int32) (x2 : Int32) (h : wb_X5_drowned_0 Q A V A2 V2 x1 x2) (H : Heap) (locs : List Loc) (ls : Array Slot) (hw : WS D s A0 (wD xa ad ad2 cI cZ A V A2 V2) H locs) (hl : lv_has ls 3 [(0, .ref xa), (1, .int x1), (2, .int x2)]), W p l e rmX5_drowned s m args below meth c H locs 0 0 Z (F0 m 0 ls []) := by
  obtain ⟨hx, hb, hml, hown, hts, hK, hA⟩ := id cx
  intro A V A2 V2 x1 x2 h H locs ls hw hl
  refine lv_aload_n (pc := 0) hx hb dX5_drowned_0 rfl (lv_at hl 0 rfl) ?_
  refine geDX_0 (pc := 1) cx inX5_drowned_X5 kX5_drowned_10 hw dX5_drowned_1 ?_
  refine geD0_X3_2 (pc := 4) cx inX5_drowned_X3 kX5_drowned_82 hw dX5_drowned_4 ?_
  refine lv_iload_n (pc := 7) hx hb dX5_drowned_7 rfl (lv_at hl 1 rfl) ?_
  refine callVi (pc := 8) (rest := []) (c1 := 0) (s1 := 0) cx hw hl (metX1_has l D cI cZ ad H.size A V x1 _ h) (fun hts => cwV 1 hts gX5_drowned_X1_has rfl rfl rfl (by decide +kernel) ⟨Nat.le_of_ble_eq_true rfl, Nat.le_of_ble_eq_true rfl⟩) subD0 [0, 1] rfl 3 (ci := 1) rfl rfl rfl (jnD0) rfl rfl (Nat.le_of_ble_eq_true rfl) ⟨Nat.le_of_ble_eq_true rfl, Nat.le_of_ble_eq_true rfl⟩ rfl rfl dX5_drowned_8 (fun r1 u H locs h hw => ?_)
  obtain ⟨A_2, V_3⟩ := u
  refine lv_if_eq (pc := 11) (tgt := 23) hx hb dX5_drowned_11 (by decide) (fun c4 => ?_) (fun c4 => ?_)
  · have h := h.1 c4
    exact False.elim h
  · have h := h.2 c4
    refine lv_iload_n (pc := 14) hx hb dX5_drowned_14 rfl (lv_at hl 2 rfl) ?_
    refine lv_iconst (pc := 15) (v := (0 : Int32)) hx hb dX5_drowned_15 (by decide) ?_
    refine lv_iconst (pc := 16) (v := (4 : Int32)) hx hb dX5_drowned_16 (by decide) ?_
    refine callSi (pc := 17) (rest := []) (c1 := 0) (s1 := 0) cx hw hl (metX5_isWithin l D [] H.size x2 (0 : Int32) (4 : Int32) _ h) (fun hts => va_cwS 3 hts gX5_drowned_X5_isWithin rfl rfl rfl (by decide +kernel) ⟨Nat.le_of_ble_eq_true rfl, Nat.le_of_ble_eq_true rfl⟩) SUB.nil [] rfl (JN.nil (S := Unit)) rfl rfl (Nat.le_of_ble_eq_true rfl) ⟨Nat.le_of_ble_eq_true rfl, Nat.le_of_ble_eq_true rfl⟩ rfl rfl dX5_drowned_17 (fun r5 u H locs h hw => ?_)
    refine lv_if_ne (pc := 20) (tgt := 33) hx hb dX5_drowned_20 (by decide) (fun c8 => ?_) (fun c8 => ?_)
    · have h := h.1 c8
      refine lv_aload_n (pc := 33) hx hb dX5_drowned_33 rfl (lv_at hl 0 rfl) ?_
      refine geDX_0 (pc := 34) cx inX5_drowned_X5 kX5_drowned_10 hw dX5_drowned_34 ?_
      refine geD0_X3_2 (pc := 37) cx inX5_drowned_X3 kX5_drowned_82 hw dX5_drowned_37 ?_
      refine lv_iload_n (pc := 40) hx hb dX5_drowned_40 rfl (lv_at hl 1 rfl) ?_
      refine lv_iload_n (pc := 41) hx hb dX5_drowned_41 rfl (lv_at hl 2 rfl) ?_
      refine callVi (pc := 42) (rest := []) (c1 := 0) (s1 := 0) cx hw hl (metX1_fact l D cI cZ ad H.size A_2 V_3 x1 x2 _ h) (fun hts => cwV 2 hts gX5_drowned_X1_fact rfl rfl rfl (by decide +kernel) ⟨Nat.le_of_ble_eq_true rfl, Nat.le_of_ble_eq_true rfl⟩) subD0 [0, 1] rfl 3 (ci := 1) rfl rfl rfl (jnD0) rfl rfl (Nat.le_of_ble_eq_true rfl) ⟨Nat.le_of_ble_eq_true rfl, Nat.le_of_ble_eq_true rfl⟩ rfl rfl dX5_drowned_42 (fun r9 u H locs h hw => ?_)
      obtain ⟨A_10, V_11⟩ := u
      exact hret 45 _ _ (A_10, V_11, A2, V2) _ _ rfl dX5_drowned_45 h hw
    · have h := h.2 c8
      exact False.elim h
def wpX5_drowned (A : SA) (V : SV) (A2 : SA) (V2 : SV) (x1 : Int32) (x2 : Int32) (Q : Int32 → SA → SV → SA → SV → Prop) : Prop := wb_X5_drowned_0 Q A V A2 V2 x1 x2
set_option maxHeartbeats 4000000 in
set_option maxRecDepth 100000 in
theorem metX5_drowned (l : Launch) (D : va_G) (cI cZ : ClassId) (xa : Nat) (ad ad2 : Nat → Nat) (sz : Nat) (A : SA) (V : SV) (A2 : SA) (V2 : SV) (x1 : Int32) (x2 : Int32) (Q : Int32 → SA → SV → SA → SV → Prop) (h : wpX5_drowned A V A2 V2 x1 x2 Q) : Met l yX5_drowned wsX5_drowned rmX5_drowned (PcW D [(cI, .int), (cZ, .boolean)] (wD xa ad ad2 cI cZ A V A2 V2) sz [.ref xa, .int x1, .int x2]) (QiW D [(cI, .int), (cZ, .boolean)] (wD xa ad ad2 cI cZ A V A2 V2) sz (fun u : SA × SV × SA × SV => (wD xa ad ad2 cI cZ u.1 u.2.1 u.2.2.1 u.2.2.2)) (fun r u => Q r u.1 u.2.1 u.2.2.1 u.2.2.2)) rmX5_drowned.cells rmX5_drowned.slots (va_A (wD xa ad ad2 cI cZ A V A2 V2) sz) := by
  refine startI (plainFor_of_name (by decide)) rfl (Nat.le_of_ble_eq_true rfl) ?_
  intro p e s m args below meth c A0 Z cx hw hret ls hl
  exact wk_X5_drowned_0 Q cx hret A V A2 V2 x1 x2 h _ _ _ hw hl
abbrev rmX5_bin : Room := { frames := 4, cells := 0, slots := 0, locals := 85 }
theorem inX5_bin_X3 : ∀ w ∈ wsX30, w ∈ wsX5_bin := by decide +kernel
theorem inX5_bin_X5 : ∀ w ∈ wsX50, w ∈ wsX5_bin := by decide +kernel
theorem kX5_bin_10 : Cond.fieldLink RX5 10 "DrownedPost" "now" "LDrownedPost$Office;" ∈ wsX5_bin := by decide +kernel
theorem kX5_bin_60 : Cond.fieldLink RX5 60 "DrownedPost$Office" "bins" "LDrownedPost$Bins;" ∈ wsX5_bin := by decide +kernel
def wb_X5_bin_0 (Q : Int32 → SA → SV → SA → SV → Prop) (A : SA) (V : SV) (A2 : SA) (V2 : SV) (x1 : Int32) (x2 : Int32) : Prop := (wpX0_has A V x1 (fun r1 A_2 V_3 => ((r1 = 0 → False) ∧ (¬ (r1 = 0) → (wpX5_isWithin x2 (0 : Int32) (4 : Int32) (fun r5 => ((¬ r5 = 0 → (wpX3_binFact A_2 V_3 x1 x2 (fun r9 A_10 V_11 => Q r9 A_10 V_11 A2 V2))) ∧ (r5 = 0 → False))))))))
set_option maxHeartbeats 4000000 in
set_option maxRecDepth 100000 in
theorem wk_X5_bin_0 (Q : Int32 → SA → SV → SA → SV → Prop) (cx : CX RX5 cX5_bin 3 wsX5_bin D [(cI, .int), (cZ, .boolean)] p s m args c A0) (hret : ∀ (pc : Nat) (ls : Array Slot) (r : Int32) (u : SA × SV × SA × SV) (H : Heap) (locs : List Loc), narrow .int (.int r) = .int r → decode cX5_bin pc = .ok (.ireturn, 1) → Q r u.1 u.2.1 u.2.2.1 u.2.2.2 → WS D s A0 (wD xa ad ad2 cI cZ u.1 u.2.1 u.2.2.1 u.2.2.2) H locs → W p l e rmX5_bin s m args below meth c H locs rmX5_bin.cells rmX5_bin.slots Z (F0 m pc ls [.int r]))  : ∀ (A : SA) (V : SV) (A2 : SA) (V2 : SV) (x1 : Int32) (x2 : Int32) (h : wb_X5_bin_0 Q A V A2 V2 x1 x2) (H : Heap) (locs : List Loc) (ls : Array Slot) (hw : WS D s A0 (wD xa ad ad2 cI cZ A V A2 V2) H locs) (hl : lv_has ls 3 [(0, .ref xa), (1, .int x1), (2, .int x2)]), W p l e rmX5_bin s m args below meth c H locs 0 0 Z (F0 m 0 ls []) := by
  obtain ⟨hx, hb, hml, hown, hts, hK, hA⟩ := id cx
  intro A V A2 V2 x1 x2 h H locs ls hw hl
  refine lv_aload_n (pc := 0) hx hb dX5_bin_0 rfl (lv_at hl 0 rfl) ?_
  refine geDX_0 (pc := 1) cx inX5_bin_X5 kX5_bin_10 hw dX5_bin_1 ?_
  refine geD0_X3_1 (pc := 4) cx inX5_bin_X3 kX5_bin_60 hw dX5_bin_4 ?_
  refine lv_iload_n (pc := 7) hx hb dX5_bin_7 rfl (lv_at hl 1 rfl) ?_
  refine callVi (pc := 8) (rest := []) (c1 := 0) (s1 := 0) cx hw hl (metX0_has l D cI cZ ad H.size A V x1 _ h) (fun hts => cwV 1 hts gX5_bin_X0_has rfl rfl rfl (by decide +kernel) ⟨Nat.le_of_ble_eq_true rfl, Nat.le_of_ble_eq_true rfl⟩) subD0 [0, 1] rfl 2 (ci := 0) rfl rfl rfl (jnD0) rfl rfl (Nat.le_of_ble_eq_true rfl) ⟨Nat.le_of_ble_eq_true rfl, Nat.le_of_ble_eq_true rfl⟩ rfl rfl dX5_bin_8 (fun r1 u H locs h hw => ?_)
  obtain ⟨A_2, V_3⟩ := u
  refine lv_if_eq (pc := 11) (tgt := 23) hx hb dX5_bin_11 (by decide) (fun c4 => ?_) (fun c4 => ?_)
  · have h := h.1 c4
    exact False.elim h
  · have h := h.2 c4
    refine lv_iload_n (pc := 14) hx hb dX5_bin_14 rfl (lv_at hl 2 rfl) ?_
    refine lv_iconst (pc := 15) (v := (0 : Int32)) hx hb dX5_bin_15 (by decide) ?_
    refine lv_iconst (pc := 16) (v := (4 : Int32)) hx hb dX5_bin_16 (by decide) ?_
    refine callSi (pc := 17) (rest := []) (c1 := 0) (s1 := 0) cx hw hl (metX5_isWithin l D [] H.size x2 (0 : Int32) (4 : Int32) _ h) (fun hts => va_cwS 3 hts gX5_bin_X5_isWithin rfl rfl rfl (by decide +kernel) ⟨Nat.le_of_ble_eq_true rfl, Nat.le_of_ble_eq_true rfl⟩) SUB.nil [] rfl (JN.nil (S := Unit)) rfl rfl (Nat.le_of_ble_eq_true rfl) ⟨Nat.le_of_ble_eq_true rfl, Nat.le_of_ble_eq_true rfl⟩ rfl rfl dX5_bin_17 (fun r5 u H locs h hw => ?_)
    refine lv_if_ne (pc := 20) (tgt := 33) hx hb dX5_bin_20 (by decide) (fun c8 => ?_) (fun c8 => ?_)
    · have h := h.1 c8
      refine lv_aload_n (pc := 33) hx hb dX5_bin_33 rfl (lv_at hl 0 rfl) ?_
      refine geDX_0 (pc := 34) cx inX5_bin_X5 kX5_bin_10 hw dX5_bin_34 ?_
      refine lv_iload_n (pc := 37) hx hb dX5_bin_37 rfl (lv_at hl 1 rfl) ?_
      refine lv_iload_n (pc := 38) hx hb dX5_bin_38 rfl (lv_at hl 2 rfl) ?_
      refine callVi (pc := 39) (rest := []) (c1 := 0) (s1 := 0) cx hw hl (metX3_binFact l D cI cZ ad H.size A_2 V_3 x1 x2 _ h) (fun hts => cwV 2 hts gX5_bin_X3_binFact rfl rfl rfl (by decide +kernel) ⟨Nat.le_of_ble_eq_true rfl, Nat.le_of_ble_eq_true rfl⟩) subD0 [0, 1] rfl 0 (ci := 3) rfl rfl rfl (jnD0) rfl rfl (Nat.le_of_ble_eq_true rfl) ⟨Nat.le_of_ble_eq_true rfl, Nat.le_of_ble_eq_true rfl⟩ rfl rfl dX5_bin_39 (fun r9 u H locs h hw => ?_)
      obtain ⟨A_10, V_11⟩ := u
      exact hret 42 _ _ (A_10, V_11, A2, V2) _ _ rfl dX5_bin_42 h hw
    · have h := h.2 c8
      exact False.elim h
def wpX5_bin (A : SA) (V : SV) (A2 : SA) (V2 : SV) (x1 : Int32) (x2 : Int32) (Q : Int32 → SA → SV → SA → SV → Prop) : Prop := wb_X5_bin_0 Q A V A2 V2 x1 x2
set_option maxHeartbeats 4000000 in
set_option maxRecDepth 100000 in
theorem metX5_bin (l : Launch) (D : va_G) (cI cZ : ClassId) (xa : Nat) (ad ad2 : Nat → Nat) (sz : Nat) (A : SA) (V : SV) (A2 : SA) (V2 : SV) (x1 : Int32) (x2 : Int32) (Q : Int32 → SA → SV → SA → SV → Prop) (h : wpX5_bin A V A2 V2 x1 x2 Q) : Met l yX5_bin wsX5_bin rmX5_bin (PcW D [(cI, .int), (cZ, .boolean)] (wD xa ad ad2 cI cZ A V A2 V2) sz [.ref xa, .int x1, .int x2]) (QiW D [(cI, .int), (cZ, .boolean)] (wD xa ad ad2 cI cZ A V A2 V2) sz (fun u : SA × SV × SA × SV => (wD xa ad ad2 cI cZ u.1 u.2.1 u.2.2.1 u.2.2.2)) (fun r u => Q r u.1 u.2.1 u.2.2.1 u.2.2.2)) rmX5_bin.cells rmX5_bin.slots (va_A (wD xa ad ad2 cI cZ A V A2 V2) sz) := by
  refine startI (plainFor_of_name (by decide)) rfl (Nat.le_of_ble_eq_true rfl) ?_
  intro p e s m args below meth c A0 Z cx hw hret ls hl
  exact wk_X5_bin_0 Q cx hret A V A2 V2 x1 x2 h _ _ _ hw hl
abbrev rmX5_pass : Room := { frames := 6, cells := 0, slots := 0, locals := 196 }
theorem inX5_pass_X5 : ∀ w ∈ wsX50, w ∈ wsX5_pass := by decide +kernel
theorem kX5_pass_10 : Cond.fieldLink RX5 10 "DrownedPost" "now" "LDrownedPost$Office;" ∈ wsX5_pass := by decide +kernel
def wb_X5_pass_0 (Q : Int32 → SA → SV → SA → SV → Prop) (A : SA) (V : SV) (A2 : SA) (V2 : SV) (x1 : Int32) : Prop := (wpX5_isWithin x1 (1 : Int32) (200 : Int32) (fun r1 => ((¬ r1 = 0 → (wpX3_letGoBy A V x1 (fun r5 A_6 V_7 => Q r5 A_6 V_7 A2 V2))) ∧ (r1 = 0 → False))))
set_option maxHeartbeats 4000000 in
set_option maxRecDepth 100000 in
theorem wk_X5_pass_0 (Q : Int32 → SA → SV → SA → SV → Prop) (cx : CX RX5 cX5_pass 2 wsX5_pass D [(cI, .int), (cZ, .boolean)] p s m args c A0) (hret : ∀ (pc : Nat) (ls : Array Slot) (r : Int32) (u : SA × SV × SA × SV) (H : Heap) (locs : List Loc), narrow .int (.int r) = .int r → decode cX5_pass pc = .ok (.ireturn, 1) → Q r u.1 u.2.1 u.2.2.1 u.2.2.2 → WS D s A0 (wD xa ad ad2 cI cZ u.1 u.2.1 u.2.2.1 u.2.2.2) H locs → W p l e rmX5_pass s m args below meth c H locs rmX5_pass.cells rmX5_pass.slots Z (F0 m pc ls [.int r]))  : ∀ (A : SA) (V : SV) (A2 : SA) (V2 : SV) (x1 : Int32) (h : wb_X5_pass_0 Q A V A2 V2 x1) (H : Heap) (locs : List Loc) (ls : Array Slot) (hw : WS D s A0 (wD xa ad ad2 cI cZ A V A2 V2) H locs) (hl : lv_has ls 2 [(0, .ref xa), (1, .int x1)]), W p l e rmX5_pass s m args below meth c H locs 0 0 Z (F0 m 0 ls []) := by
  obtain ⟨hx, hb, hml, hown, hts, hK, hA⟩ := id cx
  intro A V A2 V2 x1 h H locs ls hw hl
  refine lv_iload_n (pc := 0) hx hb dX5_pass_0 rfl (lv_at hl 1 rfl) ?_
  refine lv_iconst (pc := 1) (v := (1 : Int32)) hx hb dX5_pass_1 (by decide) ?_
  refine lv_sipush (pc := 2) (v := (200 : Int32)) hx hb dX5_pass_2 (by decide) ?_
  refine callSi (pc := 5) (rest := []) (c1 := 0) (s1 := 0) cx hw hl (metX5_isWithin l D [] H.size x1 (1 : Int32) (200 : Int32) _ h) (fun hts => va_cwS 3 hts gX5_pass_X5_isWithin rfl rfl rfl (by decide +kernel) ⟨Nat.le_of_ble_eq_true rfl, Nat.le_of_ble_eq_true rfl⟩) SUB.nil [] rfl (JN.nil (S := Unit)) rfl rfl (Nat.le_of_ble_eq_true rfl) ⟨Nat.le_of_ble_eq_true rfl, Nat.le_of_ble_eq_true rfl⟩ rfl rfl dX5_pass_5 (fun r1 u H locs h hw => ?_)
  refine lv_if_ne (pc := 8) (tgt := 21) hx hb dX5_pass_8 (by decide) (fun c4 => ?_) (fun c4 => ?_)
  · have h := h.1 c4
    refine lv_aload_n (pc := 21) hx hb dX5_pass_21 rfl (lv_at hl 0 rfl) ?_
    refine geDX_0 (pc := 22) cx inX5_pass_X5 kX5_pass_10 hw dX5_pass_22 ?_
    refine lv_iload_n (pc := 25) hx hb dX5_pass_25 rfl (lv_at hl 1 rfl) ?_
    refine callVi (pc := 26) (rest := []) (c1 := 0) (s1 := 0) cx hw hl (metX3_letGoBy l D cI cZ ad H.size A V x1 _ h) (fun hts => cwV 1 hts gX5_pass_X3_letGoBy rfl rfl rfl (by decide +kernel) ⟨Nat.le_of_ble_eq_true rfl, Nat.le_of_ble_eq_true rfl⟩) subD0 [0, 1] rfl 0 (ci := 3) rfl rfl rfl (jnD0) rfl rfl (Nat.le_of_ble_eq_true rfl) ⟨Nat.le_of_ble_eq_true rfl, Nat.le_of_ble_eq_true rfl⟩ rfl rfl dX5_pass_26 (fun r5 u H locs h hw => ?_)
    obtain ⟨A_6, V_7⟩ := u
    exact hret 29 _ _ (A_6, V_7, A2, V2) _ _ rfl dX5_pass_29 h hw
  · have h := h.2 c4
    exact False.elim h
def wpX5_pass (A : SA) (V : SV) (A2 : SA) (V2 : SV) (x1 : Int32) (Q : Int32 → SA → SV → SA → SV → Prop) : Prop := wb_X5_pass_0 Q A V A2 V2 x1
set_option maxHeartbeats 4000000 in
set_option maxRecDepth 100000 in
theorem metX5_pass (l : Launch) (D : va_G) (cI cZ : ClassId) (xa : Nat) (ad ad2 : Nat → Nat) (sz : Nat) (A : SA) (V : SV) (A2 : SA) (V2 : SV) (x1 : Int32) (Q : Int32 → SA → SV → SA → SV → Prop) (h : wpX5_pass A V A2 V2 x1 Q) : Met l yX5_pass wsX5_pass rmX5_pass (PcW D [(cI, .int), (cZ, .boolean)] (wD xa ad ad2 cI cZ A V A2 V2) sz [.ref xa, .int x1]) (QiW D [(cI, .int), (cZ, .boolean)] (wD xa ad ad2 cI cZ A V A2 V2) sz (fun u : SA × SV × SA × SV => (wD xa ad ad2 cI cZ u.1 u.2.1 u.2.2.1 u.2.2.2)) (fun r u => Q r u.1 u.2.1 u.2.2.1 u.2.2.2)) rmX5_pass.cells rmX5_pass.slots (va_A (wD xa ad ad2 cI cZ A V A2 V2) sz) := by
  refine startI (plainFor_of_name (by decide)) rfl (Nat.le_of_ble_eq_true rfl) ?_
  intro p e s m args below meth c A0 Z cx hw hret ls hl
  exact wk_X5_pass_0 Q cx hret A V A2 V2 x1 h _ _ _ hw hl
abbrev rmX5_count : Room := { frames := 2, cells := 0, slots := 0, locals := 44 }
theorem inX5_count_X5 : ∀ w ∈ wsX50, w ∈ wsX5_count := by decide +kernel
theorem kX5_count_10 : Cond.fieldLink RX5 10 "DrownedPost" "now" "LDrownedPost$Office;" ∈ wsX5_count := by decide +kernel
def wb_X5_count_0 (Q : Int32 → SA → SV → SA → SV → Prop) (A : SA) (V : SV) (A2 : SA) (V2 : SV) (x1 : Int32) : Prop := (wpX5_isWithin x1 (0 : Int32) (12 : Int32) (fun r1 => ((¬ r1 = 0 → (wpX3_total A V x1 (fun r5 A_6 V_7 => Q r5 A_6 V_7 A2 V2))) ∧ (r1 = 0 → False))))
set_option maxHeartbeats 4000000 in
set_option maxRecDepth 100000 in
theorem wk_X5_count_0 (Q : Int32 → SA → SV → SA → SV → Prop) (cx : CX RX5 cX5_count 2 wsX5_count D [(cI, .int), (cZ, .boolean)] p s m args c A0) (hret : ∀ (pc : Nat) (ls : Array Slot) (r : Int32) (u : SA × SV × SA × SV) (H : Heap) (locs : List Loc), narrow .int (.int r) = .int r → decode cX5_count pc = .ok (.ireturn, 1) → Q r u.1 u.2.1 u.2.2.1 u.2.2.2 → WS D s A0 (wD xa ad ad2 cI cZ u.1 u.2.1 u.2.2.1 u.2.2.2) H locs → W p l e rmX5_count s m args below meth c H locs rmX5_count.cells rmX5_count.slots Z (F0 m pc ls [.int r]))  : ∀ (A : SA) (V : SV) (A2 : SA) (V2 : SV) (x1 : Int32) (h : wb_X5_count_0 Q A V A2 V2 x1) (H : Heap) (locs : List Loc) (ls : Array Slot) (hw : WS D s A0 (wD xa ad ad2 cI cZ A V A2 V2) H locs) (hl : lv_has ls 2 [(0, .ref xa), (1, .int x1)]), W p l e rmX5_count s m args below meth c H locs 0 0 Z (F0 m 0 ls []) := by
  obtain ⟨hx, hb, hml, hown, hts, hK, hA⟩ := id cx
  intro A V A2 V2 x1 h H locs ls hw hl
  refine lv_iload_n (pc := 0) hx hb dX5_count_0 rfl (lv_at hl 1 rfl) ?_
  refine lv_iconst (pc := 1) (v := (0 : Int32)) hx hb dX5_count_1 (by decide) ?_
  refine lv_bipush (pc := 2) (v := (12 : Int32)) hx hb dX5_count_2 (by decide) ?_
  refine callSi (pc := 4) (rest := []) (c1 := 0) (s1 := 0) cx hw hl (metX5_isWithin l D [] H.size x1 (0 : Int32) (12 : Int32) _ h) (fun hts => va_cwS 3 hts gX5_count_X5_isWithin rfl rfl rfl (by decide +kernel) ⟨Nat.le_of_ble_eq_true rfl, Nat.le_of_ble_eq_true rfl⟩) SUB.nil [] rfl (JN.nil (S := Unit)) rfl rfl (Nat.le_of_ble_eq_true rfl) ⟨Nat.le_of_ble_eq_true rfl, Nat.le_of_ble_eq_true rfl⟩ rfl rfl dX5_count_4 (fun r1 u H locs h hw => ?_)
  refine lv_if_ne (pc := 7) (tgt := 20) hx hb dX5_count_7 (by decide) (fun c4 => ?_) (fun c4 => ?_)
  · have h := h.1 c4
    refine lv_aload_n (pc := 20) hx hb dX5_count_20 rfl (lv_at hl 0 rfl) ?_
    refine geDX_0 (pc := 21) cx inX5_count_X5 kX5_count_10 hw dX5_count_21 ?_
    refine lv_iload_n (pc := 24) hx hb dX5_count_24 rfl (lv_at hl 1 rfl) ?_
    refine callVi (pc := 25) (rest := []) (c1 := 0) (s1 := 0) cx hw hl (metX3_total l D cI cZ ad H.size A V x1 _ h) (fun hts => cwV 1 hts gX5_count_X3_total rfl rfl rfl (by decide +kernel) ⟨Nat.le_of_ble_eq_true rfl, Nat.le_of_ble_eq_true rfl⟩) subD0 [0, 1] rfl 0 (ci := 3) rfl rfl rfl (jnD0) rfl rfl (Nat.le_of_ble_eq_true rfl) ⟨Nat.le_of_ble_eq_true rfl, Nat.le_of_ble_eq_true rfl⟩ rfl rfl dX5_count_25 (fun r5 u H locs h hw => ?_)
    obtain ⟨A_6, V_7⟩ := u
    exact hret 28 _ _ (A_6, V_7, A2, V2) _ _ rfl dX5_count_28 h hw
  · have h := h.2 c4
    exact False.elim h
def wpX5_count (A : SA) (V : SV) (A2 : SA) (V2 : SV) (x1 : Int32) (Q : Int32 → SA → SV → SA → SV → Prop) : Prop := wb_X5_count_0 Q A V A2 V2 x1
set_option maxHeartbeats 4000000 in
set_option maxRecDepth 100000 in
theorem metX5_count (l : Launch) (D : va_G) (cI cZ : ClassId) (xa : Nat) (ad ad2 : Nat → Nat) (sz : Nat) (A : SA) (V : SV) (A2 : SA) (V2 : SV) (x1 : Int32) (Q : Int32 → SA → SV → SA → SV → Prop) (h : wpX5_count A V A2 V2 x1 Q) : Met l yX5_count wsX5_count rmX5_count (PcW D [(cI, .int), (cZ, .boolean)] (wD xa ad ad2 cI cZ A V A2 V2) sz [.ref xa, .int x1]) (QiW D [(cI, .int), (cZ, .boolean)] (wD xa ad ad2 cI cZ A V A2 V2) sz (fun u : SA × SV × SA × SV => (wD xa ad ad2 cI cZ u.1 u.2.1 u.2.2.1 u.2.2.2)) (fun r u => Q r u.1 u.2.1 u.2.2.1 u.2.2.2)) rmX5_count.cells rmX5_count.slots (va_A (wD xa ad ad2 cI cZ A V A2 V2) sz) := by
  refine startI (plainFor_of_name (by decide)) rfl (Nat.le_of_ble_eq_true rfl) ?_
  intro p e s m args below meth c A0 Z cx hw hret ls hl
  exact wk_X5_count_0 Q cx hret A V A2 V2 x1 h _ _ _ hw hl
end GENV
