section GENV
variable {p : Program} {l : Launch} {e : Env} {s : State} {m : MethodId} {args : Array Value} {below : List Frame} {meth : Method} {c : Code} {A0 : Nat → Prop} {Z : State → Prop} {D : va_G} {cI cZ : ClassId} {ad : Nat → Nat} {tys : TYS} {xa : Nat} {ad2 : Nat → Nat}
abbrev rmX5_isWithin : Room := { frames := 0, cells := 0, slots := 0, locals := 0 }
def wb_X5_isWithin_0 (Q : Int32 → Prop) (x0 : Int32) (x1 : Int32) (x2 : Int32) : Prop := ((x0 < x1 → Q (0 : Int32)) ∧ (¬ (x0 < x1) → ((x2 < x0 → Q (0 : Int32)) ∧ (¬ (x2 < x0) → Q (1 : Int32)))))
set_option maxHeartbeats 4000000 in
set_option maxRecDepth 100000 in
theorem wk_X5_isWithin_0 (Q : Int32 → Prop) (cx : CX RX5 cX5_isWithin 3 wsX5_isWithin D tys p s m args c A0) (hret : ∀ (pc : Nat) (ls : Array Slot) (r : Int32) (u : Unit) (H : Heap) (locs : List Loc), narrow .boolean (.int r) = .int r → decode cX5_isWithin pc = .ok (.ireturn, 1) → Q r → WS D s A0 ([] : va_W) H locs → W p l e rmX5_isWithin s m args below meth c H locs rmX5_isWithin.cells rmX5_isWithin.slots Z (F0 m pc ls [.int r]))  : ∀ (x0 : Int32) (x1 : Int32) (x2 : Int32) (h : wb_X5_isWithin_0 Q x0 x1 x2) (H : Heap) (locs : List Loc) (ls : Array Slot) (hw : WS D s A0 ([] : va_W) H locs) (hl : lv_has ls 3 [(0, .int x0), (1, .int x1), (2, .int x2)]), W p l e rmX5_isWithin s m args below meth c H locs 0 0 Z (F0 m 0 ls []) := by
  obtain ⟨hx, hb, hml, hown, hts, hK, hA⟩ := id cx
  intro x0 x1 x2 h H locs ls hw hl
  refine lv_iload_n (pc := 0) hx hb dX5_isWithin_0 rfl (lv_at hl 0 rfl) ?_
  refine lv_iload_n (pc := 1) hx hb dX5_isWithin_1 rfl (lv_at hl 1 rfl) ?_
  refine lv_icmp_lt (pc := 2) (tgt := 14) hx hb dX5_isWithin_2 (by decide) (fun c1 => ?_) (fun c1 => ?_)
  · have h := h.1 c1
    refine lv_iconst (pc := 14) (v := (0 : Int32)) hx hb dX5_isWithin_14 (by decide) ?_
    exact hret 15 _ _ () _ _ rfl dX5_isWithin_15 h hw
  · have h := h.2 c1
    refine lv_iload_n (pc := 5) hx hb dX5_isWithin_5 rfl (lv_at hl 0 rfl) ?_
    refine lv_iload_n (pc := 6) hx hb dX5_isWithin_6 rfl (lv_at hl 2 rfl) ?_
    refine lv_icmp_gt (pc := 7) (tgt := 14) hx hb dX5_isWithin_7 (by decide) (fun c2 => ?_) (fun c2 => ?_)
    · have h := h.1 c2
      refine lv_iconst (pc := 14) (v := (0 : Int32)) hx hb dX5_isWithin_14 (by decide) ?_
      exact hret 15 _ _ () _ _ rfl dX5_isWithin_15 h hw
    · have h := h.2 c2
      refine lv_iconst (pc := 10) (v := (1 : Int32)) hx hb dX5_isWithin_10 (by decide) ?_
      refine lv_goto (pc := 11) (tgt := 15) hx hb dX5_isWithin_11 (by decide) ?_
      exact hret 15 _ _ () _ _ rfl dX5_isWithin_15 h hw
def wpX5_isWithin (x0 : Int32) (x1 : Int32) (x2 : Int32) (Q : Int32 → Prop) : Prop := wb_X5_isWithin_0 Q x0 x1 x2
set_option maxHeartbeats 4000000 in
set_option maxRecDepth 100000 in
theorem metX5_isWithin (l : Launch) (D : va_G) (tys : TYS) (sz : Nat) (x0 : Int32) (x1 : Int32) (x2 : Int32) (Q : Int32 → Prop) (h : wpX5_isWithin x0 x1 x2 Q) : Met l yX5_isWithin wsX5_isWithin rmX5_isWithin (PcW D tys ([] : va_W) sz [.int x0, .int x1, .int x2]) (QiW D tys ([] : va_W) sz (fun u : Unit => ([] : va_W)) (fun r u => Q r)) rmX5_isWithin.cells rmX5_isWithin.slots (va_A ([] : va_W) sz) := by
  refine startI (plainFor_of_name (by decide)) rfl (Nat.le_of_ble_eq_true rfl) ?_
  intro p e s m args below meth c A0 Z cx hw hret ls hl
  exact wk_X5_isWithin_0 Q cx hret x0 x1 x2 h _ _ _ hw hl
abbrev rmX5_beginTides : Room := { frames := 6, cells := 1, slots := 6, locals := 100 }
theorem inX5_beginTides_X3 : ∀ w ∈ wsX30, w ∈ wsX5_beginTides := by decide +kernel
theorem inX5_beginTides_X4 : ∀ w ∈ wsX40, w ∈ wsX5_beginTides := by decide +kernel
theorem inX5_beginTides_X5 : ∀ w ∈ wsX50, w ∈ wsX5_beginTides := by decide +kernel
theorem xwX5_beginTides_27 : ∀ w ∈ Cond.classLink RX5 23 "java/lang/IllegalArgumentException" :: Cond.initialized "java/lang/IllegalArgumentException" :: (vx_atS RX5 27 "java/lang/IllegalArgumentException" xn).filter goodWord, w ∈ wsX5_beginTides := by decide +kernel
theorem kX5_beginTides_10 : Cond.fieldLink RX5 10 "DrownedPost" "now" "LDrownedPost$Office;" ∈ wsX5_beginTides := by decide +kernel
theorem kX5_beginTides_30 : Cond.fieldLink RX5 30 "DrownedPost$Office" "tides" "LDrownedPost$Tides;" ∈ wsX5_beginTides := by decide +kernel
theorem kX5_beginTides_34 : Cond.fieldLink RX5 34 "DrownedPost$Tides" "count" "I" ∈ wsX5_beginTides := by decide +kernel
def wb_X5_beginTides_0 (Q : Int32 → SA → SV → SA → SV → Prop) (QX : String → SA → SV → SA → SV → Prop) (A : SA) (V : SV) (A2 : SA) (V2 : SV) (x1 : Int32) : Prop := (wpX5_isWithin x1 (0 : Int32) (99 : Int32) (fun r1 => ((¬ r1 = 0 → (wpX4_begin A V x1 (fun A_6 V_7 => Q (V 0) A_6 V_7 A2 V2))) ∧ (r1 = 0 → QX "java/lang/IllegalArgumentException" A V A2 V2))))
set_option maxHeartbeats 4000000 in
set_option maxRecDepth 100000 in
theorem wk_X5_beginTides_0 (Q : Int32 → SA → SV → SA → SV → Prop) (QX : String → SA → SV → SA → SV → Prop) (cx : CX RX5 cX5_beginTides 3 wsX5_beginTides D [(cI, .int), (cZ, .boolean)] p s m args c A0) (hret : ∀ (pc : Nat) (ls : Array Slot) (r : Int32) (u : SA × SV × SA × SV) (H : Heap) (locs : List Loc), narrow .int (.int r) = .int r → decode cX5_beginTides pc = .ok (.ireturn, 1) → Q r u.1 u.2.1 u.2.2.1 u.2.2.2 → WS D s A0 (wD xa ad ad2 cI cZ u.1 u.2.1 u.2.2.1 u.2.2.2) H locs → W p l e rmX5_beginTides s m args below meth c H locs rmX5_beginTides.cells rmX5_beginTides.slots Z (F0 m pc ls [.int r])) (hthrow : ∀ (cls : String) (ik ic : Nat), (cls, ik, ic) ∈ XK → (∀ w ∈ Cond.classLink RX5 ik cls :: Cond.initialized cls :: (vx_atS RX5 ic cls xn).filter goodWord, w ∈ wsX5_beginTides) → ∀ (is : Nat) (text : String), (is, text) ∈ STRS → ∀ (pc : Nat) (ls : Array Slot) (u : SA × SV × SA × SV) (H : Heap) (locs : List Loc), QX cls u.1 u.2.1 u.2.2.1 u.2.2.2 → WS D s A0 (wD xa ad ad2 cI cZ u.1 u.2.1 u.2.2.1 u.2.2.2) H locs → ls.size = 3 → decode cX5_beginTides pc = .ok (.new ik, 3) → decode cX5_beginTides (pc + 3) = .ok (.dup, 1) → decode cX5_beginTides (pc + 4) = .ok (.ldc is, 2) → decode cX5_beginTides (pc + 6) = .ok (.invokespecial ic, 3) → decode cX5_beginTides (pc + 9) = .ok (.athrow, 1) → W p l e rmX5_beginTides s m args below meth c H locs 0 0 Z (F0 m pc ls []))  : ∀ (A : SA) (V : SV) (A2 : SA) (V2 : SV) (x1 : Int32) (h : wb_X5_beginTides_0 Q QX A V A2 V2 x1) (H : Heap) (locs : List Loc) (ls : Array Slot) (hw : WS D s A0 (wD xa ad ad2 cI cZ A V A2 V2) H locs) (hl : lv_has ls 3 [(0, .ref xa), (1, .int x1)]), W p l e rmX5_beginTides s m args below meth c H locs 0 0 Z (F0 m 0 ls []) := by
  obtain ⟨hx, hb, hml, hown, hts, hK, hA⟩ := id cx
  intro A V A2 V2 x1 h H locs ls hw hl
  refine lv_iload_n (pc := 0) hx hb dX5_beginTides_0 rfl (lv_at hl 1 rfl) ?_
  refine lv_iconst (pc := 1) (v := (0 : Int32)) hx hb dX5_beginTides_1 (by decide) ?_
  refine lv_bipush (pc := 2) (v := (99 : Int32)) hx hb dX5_beginTides_2 (by decide) ?_
  refine callSi (pc := 4) (rest := []) (c1 := 0) (s1 := 0) cx hw hl (metX5_isWithin l D [] H.size x1 (0 : Int32) (99 : Int32) _ h) (fun hts => va_cwS 3 hts gX5_beginTides_X5_isWithin rfl rfl rfl (by decide +kernel) ⟨Nat.le_of_ble_eq_true rfl, Nat.le_of_ble_eq_true rfl⟩) SUB.nil [] rfl (JN.nil (S := Unit)) rfl rfl (Nat.le_of_ble_eq_true rfl) ⟨Nat.le_of_ble_eq_true rfl, Nat.le_of_ble_eq_true rfl⟩ rfl rfl dX5_beginTides_4 (fun r1 u H locs h hw => ?_)
  refine lv_if_ne (pc := 7) (tgt := 20) hx hb dX5_beginTides_7 (by decide) (fun c4 => ?_) (fun c4 => ?_)
  · have h := h.1 c4
    refine lv_aload_n (pc := 20) hx hb dX5_beginTides_20 rfl (lv_at hl 0 rfl) ?_
    refine geDX_0 (pc := 21) cx inX5_beginTides_X5 kX5_beginTides_10 hw dX5_beginTides_21 ?_
    refine geD0_X3_0 (pc := 24) cx inX5_beginTides_X3 kX5_beginTides_30 hw dX5_beginTides_24 ?_
    refine geD0_X4_1 (pc := 27) cx inX5_beginTides_X4 kX5_beginTides_34 hw dX5_beginTides_27 ?_
    refine lv_istore_n (pc := 30) (lv' := [(2, .int (V 0)), (0, .ref xa), (1, .int x1)]) hx hb dX5_beginTides_30 rfl hl (by decide) rfl (fun ls hl => ?_)
    refine lv_aload_n (pc := 31) hx hb dX5_beginTides_31 rfl (lv_at hl 1 rfl) ?_
    refine geDX_0 (pc := 32) cx inX5_beginTides_X5 kX5_beginTides_10 hw dX5_beginTides_32 ?_
    refine geD0_X3_0 (pc := 35) cx inX5_beginTides_X3 kX5_beginTides_30 hw dX5_beginTides_35 ?_
    refine lv_iload_n (pc := 38) hx hb dX5_beginTides_38 rfl (lv_at hl 2 rfl) ?_
    refine callVv (pc := 39) (rest := []) (c1 := 0) (s1 := 0) cx hw hl (metX4_begin l D cI cZ ad H.size A V x1 _ h) (fun hts => cwV 1 hts gX5_beginTides_X4_begin rfl rfl rfl (by decide +kernel) ⟨Nat.le_of_ble_eq_true rfl, Nat.le_of_ble_eq_true rfl⟩) subD0 [0, 1] rfl 1 (ci := 4) rfl rfl rfl (jnD0) rfl rfl (Nat.le_of_ble_eq_true rfl) ⟨Nat.le_of_ble_eq_true rfl, Nat.le_of_ble_eq_true rfl⟩ rfl rfl dX5_beginTides_39 (fun u H locs h hw => ?_)
    obtain ⟨A_6, V_7⟩ := u
    refine lv_iload_n (pc := 42) hx hb dX5_beginTides_42 rfl (lv_at hl 0 rfl) ?_
    refine W.widen (k := 1) (n := 6) (Nat.le_of_ble_eq_true rfl) (Nat.le_of_ble_eq_true rfl) ?_
    exact hret 43 _ _ (A_6, V_7, A2, V2) _ _ rfl dX5_beginTides_43 h hw
  · have h := h.2 c4
    exact hthrow "java/lang/IllegalArgumentException" 23 27 (by decide) xwX5_beginTides_27 25 "height is not 0 to 99" (by decide) 10 _ (A, V, A2, V2) _ _ h hw hl.1 dX5_beginTides_10 dX5_beginTides_13 dX5_beginTides_14 dX5_beginTides_16 dX5_beginTides_19
def wpX5_beginTides (A : SA) (V : SV) (A2 : SA) (V2 : SV) (x1 : Int32) (Q : Int32 → SA → SV → SA → SV → Prop) (QX : String → SA → SV → SA → SV → Prop) : Prop := wb_X5_beginTides_0 Q QX A V A2 V2 x1
set_option maxHeartbeats 4000000 in
set_option maxRecDepth 100000 in
theorem metX5_beginTides (l : Launch) (hlt : l.stackTraces = false) (D : va_G) (cI cZ : ClassId) (xa : Nat) (ad ad2 : Nat → Nat) (sz : Nat) (A : SA) (V : SV) (A2 : SA) (V2 : SV) (x1 : Int32) (Q : Int32 → SA → SV → SA → SV → Prop) (QX : String → SA → SV → SA → SV → Prop) (h : wpX5_beginTides A V A2 V2 x1 Q QX) : vx_Met l yX5_beginTides wsX5_beginTides rmX5_beginTides (PcX D [(cI, .int), (cZ, .boolean)] (wD xa ad ad2 cI cZ A V A2 V2) sz [.ref xa, .int x1]) (QiW D [(cI, .int), (cZ, .boolean)] (wD xa ad ad2 cI cZ A V A2 V2) sz (fun u : SA × SV × SA × SV => (wD xa ad ad2 cI cZ u.1 u.2.1 u.2.2.1 u.2.2.2)) (fun r u => Q r u.1 u.2.1 u.2.2.1 u.2.2.2)) (XCW D [(cI, .int), (cZ, .boolean)] (wD xa ad ad2 cI cZ A V A2 V2) sz (fun u : SA × SV × SA × SV => (wD xa ad ad2 cI cZ u.1 u.2.1 u.2.2.1 u.2.2.2)) (fun E u => QX E u.1 u.2.1 u.2.2.1 u.2.2.2)) rmX5_beginTides.cells rmX5_beginTides.slots (va_A (wD xa ad ad2 cI cZ A V A2 V2) sz) := by
  refine startX hlt (by decide) rfl rfl (Nat.le_of_ble_eq_true rfl) (Nat.le_of_ble_eq_true rfl) (Nat.le_of_ble_eq_true rfl) (Nat.le_of_ble_eq_true rfl) (Nat.le_of_ble_eq_true rfl) ?_
  intro p e s m args below meth c A0 Z cx hw hret hthrow ls hl
  exact wk_X5_beginTides_0 Q QX cx hret hthrow A V A2 V2 x1 h _ _ _ hw hl
abbrev rmX5_addTide : Room := { frames := 6, cells := 1, slots := 6, locals := 100 }
theorem inX5_addTide_X3 : ∀ w ∈ wsX30, w ∈ wsX5_addTide := by decide +kernel
theorem inX5_addTide_X4 : ∀ w ∈ wsX40, w ∈ wsX5_addTide := by decide +kernel
theorem inX5_addTide_X5 : ∀ w ∈ wsX50, w ∈ wsX5_addTide := by decide +kernel
theorem xwX5_addTide_27 : ∀ w ∈ Cond.classLink RX5 23 "java/lang/IllegalArgumentException" :: Cond.initialized "java/lang/IllegalArgumentException" :: (vx_atS RX5 27 "java/lang/IllegalArgumentException" xn).filter goodWord, w ∈ wsX5_addTide := by decide +kernel
theorem xwX5_addTide_48 : ∀ w ∈ Cond.classLink RX5 44 "java/lang/IllegalStateException" :: Cond.initialized "java/lang/IllegalStateException" :: (vx_atS RX5 48 "java/lang/IllegalStateException" xn).filter goodWord, w ∈ wsX5_addTide := by decide +kernel
theorem kX5_addTide_10 : Cond.fieldLink RX5 10 "DrownedPost" "now" "LDrownedPost$Office;" ∈ wsX5_addTide := by decide +kernel
theorem kX5_addTide_30 : Cond.fieldLink RX5 30 "DrownedPost$Office" "tides" "LDrownedPost$Tides;" ∈ wsX5_addTide := by decide +kernel
theorem kX5_addTide_34 : Cond.fieldLink RX5 34 "DrownedPost$Tides" "count" "I" ∈ wsX5_addTide := by decide +kernel
def wb_X5_addTide_0 (Q : Int32 → SA → SV → SA → SV → Prop) (QX : String → SA → SV → SA → SV → Prop) (A : SA) (V : SV) (A2 : SA) (V2 : SV) (x1 : Int32) : Prop := (wpX5_isWithin x1 (0 : Int32) (99 : Int32) (fun r1 => ((¬ r1 = 0 → (((V 0) < (30 : Int32) → (wpX4_append A V x1 (fun A_7 V_8 => Q (V_8 0) A_7 V_8 A2 V2))) ∧ (¬ ((V 0) < (30 : Int32)) → QX "java/lang/IllegalStateException" A V A2 V2))) ∧ (r1 = 0 → QX "java/lang/IllegalArgumentException" A V A2 V2))))
set_option maxHeartbeats 4000000 in
set_option maxRecDepth 100000 in
theorem wk_X5_addTide_0 (Q : Int32 → SA → SV → SA → SV → Prop) (QX : String → SA → SV → SA → SV → Prop) (cx : CX RX5 cX5_addTide 2 wsX5_addTide D [(cI, .int), (cZ, .boolean)] p s m args c A0) (hret : ∀ (pc : Nat) (ls : Array Slot) (r : Int32) (u : SA × SV × SA × SV) (H : Heap) (locs : List Loc), narrow .int (.int r) = .int r → decode cX5_addTide pc = .ok (.ireturn, 1) → Q r u.1 u.2.1 u.2.2.1 u.2.2.2 → WS D s A0 (wD xa ad ad2 cI cZ u.1 u.2.1 u.2.2.1 u.2.2.2) H locs → W p l e rmX5_addTide s m args below meth c H locs rmX5_addTide.cells rmX5_addTide.slots Z (F0 m pc ls [.int r])) (hthrow : ∀ (cls : String) (ik ic : Nat), (cls, ik, ic) ∈ XK → (∀ w ∈ Cond.classLink RX5 ik cls :: Cond.initialized cls :: (vx_atS RX5 ic cls xn).filter goodWord, w ∈ wsX5_addTide) → ∀ (is : Nat) (text : String), (is, text) ∈ STRS → ∀ (pc : Nat) (ls : Array Slot) (u : SA × SV × SA × SV) (H : Heap) (locs : List Loc), QX cls u.1 u.2.1 u.2.2.1 u.2.2.2 → WS D s A0 (wD xa ad ad2 cI cZ u.1 u.2.1 u.2.2.1 u.2.2.2) H locs → ls.size = 2 → decode cX5_addTide pc = .ok (.new ik, 3) → decode cX5_addTide (pc + 3) = .ok (.dup, 1) → decode cX5_addTide (pc + 4) = .ok (.ldc is, 2) → decode cX5_addTide (pc + 6) = .ok (.invokespecial ic, 3) → decode cX5_addTide (pc + 9) = .ok (.athrow, 1) → W p l e rmX5_addTide s m args below meth c H locs 0 0 Z (F0 m pc ls []))  : ∀ (A : SA) (V : SV) (A2 : SA) (V2 : SV) (x1 : Int32) (h : wb_X5_addTide_0 Q QX A V A2 V2 x1) (H : Heap) (locs : List Loc) (ls : Array Slot) (hw : WS D s A0 (wD xa ad ad2 cI cZ A V A2 V2) H locs) (hl : lv_has ls 2 [(0, .ref xa), (1, .int x1)]), W p l e rmX5_addTide s m args below meth c H locs 0 0 Z (F0 m 0 ls []) := by
  obtain ⟨hx, hb, hml, hown, hts, hK, hA⟩ := id cx
  intro A V A2 V2 x1 h H locs ls hw hl
  refine lv_iload_n (pc := 0) hx hb dX5_addTide_0 rfl (lv_at hl 1 rfl) ?_
  refine lv_iconst (pc := 1) (v := (0 : Int32)) hx hb dX5_addTide_1 (by decide) ?_
  refine lv_bipush (pc := 2) (v := (99 : Int32)) hx hb dX5_addTide_2 (by decide) ?_
  refine callSi (pc := 4) (rest := []) (c1 := 0) (s1 := 0) cx hw hl (metX5_isWithin l D [] H.size x1 (0 : Int32) (99 : Int32) _ h) (fun hts => va_cwS 3 hts gX5_addTide_X5_isWithin rfl rfl rfl (by decide +kernel) ⟨Nat.le_of_ble_eq_true rfl, Nat.le_of_ble_eq_true rfl⟩) SUB.nil [] rfl (JN.nil (S := Unit)) rfl rfl (Nat.le_of_ble_eq_true rfl) ⟨Nat.le_of_ble_eq_true rfl, Nat.le_of_ble_eq_true rfl⟩ rfl rfl dX5_addTide_4 (fun r1 u H locs h hw => ?_)
  refine lv_if_ne (pc := 7) (tgt := 20) hx hb dX5_addTide_7 (by decide) (fun c4 => ?_) (fun c4 => ?_)
  · have h := h.1 c4
    refine lv_aload_n (pc := 20) hx hb dX5_addTide_20 rfl (lv_at hl 0 rfl) ?_
    refine geDX_0 (pc := 21) cx inX5_addTide_X5 kX5_addTide_10 hw dX5_addTide_21 ?_
    refine geD0_X3_0 (pc := 24) cx inX5_addTide_X3 kX5_addTide_30 hw dX5_addTide_24 ?_
    refine geD0_X4_1 (pc := 27) cx inX5_addTide_X4 kX5_addTide_34 hw dX5_addTide_27 ?_
    refine lv_bipush (pc := 30) (v := (30 : Int32)) hx hb dX5_addTide_30 (by decide) ?_
    refine lv_icmp_lt (pc := 32) (tgt := 45) hx hb dX5_addTide_32 (by decide) (fun c5 => ?_) (fun c5 => ?_)
    · have h := h.1 c5
      refine lv_aload_n (pc := 45) hx hb dX5_addTide_45 rfl (lv_at hl 0 rfl) ?_
      refine geDX_0 (pc := 46) cx inX5_addTide_X5 kX5_addTide_10 hw dX5_addTide_46 ?_
      refine geD0_X3_0 (pc := 49) cx inX5_addTide_X3 kX5_addTide_30 hw dX5_addTide_49 ?_
      refine lv_iload_n (pc := 52) hx hb dX5_addTide_52 rfl (lv_at hl 1 rfl) ?_
      refine callVv (pc := 53) (rest := []) (c1 := 0) (s1 := 0) cx hw hl (metX4_append l D cI cZ ad H.size A V x1 _ h) (fun hts => cwV 1 hts gX5_addTide_X4_append rfl rfl rfl (by decide +kernel) ⟨Nat.le_of_ble_eq_true rfl, Nat.le_of_ble_eq_true rfl⟩) subD0 [0, 1] rfl 1 (ci := 4) rfl rfl rfl (jnD0) rfl rfl (Nat.le_of_ble_eq_true rfl) ⟨Nat.le_of_ble_eq_true rfl, Nat.le_of_ble_eq_true rfl⟩ rfl rfl dX5_addTide_53 (fun u H locs h hw => ?_)
      obtain ⟨A_7, V_8⟩ := u
      refine lv_aload_n (pc := 56) hx hb dX5_addTide_56 rfl (lv_at hl 0 rfl) ?_
      refine geDX_0 (pc := 57) cx inX5_addTide_X5 kX5_addTide_10 hw dX5_addTide_57 ?_
      refine geD0_X3_0 (pc := 60) cx inX5_addTide_X3 kX5_addTide_30 hw dX5_addTide_60 ?_
      refine geD0_X4_1 (pc := 63) cx inX5_addTide_X4 kX5_addTide_34 hw dX5_addTide_63 ?_
      refine W.widen (k := 1) (n := 6) (Nat.le_of_ble_eq_true rfl) (Nat.le_of_ble_eq_true rfl) ?_
      exact hret 66 _ _ (A_7, V_8, A2, V2) _ _ rfl dX5_addTide_66 h hw
    · have h := h.2 c5
      exact hthrow "java/lang/IllegalStateException" 44 48 (by decide) xwX5_addTide_48 46 "there are 30 heights" (by decide) 35 _ (A, V, A2, V2) _ _ h hw hl.1 dX5_addTide_35 dX5_addTide_38 dX5_addTide_39 dX5_addTide_41 dX5_addTide_44
  · have h := h.2 c4
    exact hthrow "java/lang/IllegalArgumentException" 23 27 (by decide) xwX5_addTide_27 25 "height is not 0 to 99" (by decide) 10 _ (A, V, A2, V2) _ _ h hw hl.1 dX5_addTide_10 dX5_addTide_13 dX5_addTide_14 dX5_addTide_16 dX5_addTide_19
def wpX5_addTide (A : SA) (V : SV) (A2 : SA) (V2 : SV) (x1 : Int32) (Q : Int32 → SA → SV → SA → SV → Prop) (QX : String → SA → SV → SA → SV → Prop) : Prop := wb_X5_addTide_0 Q QX A V A2 V2 x1
set_option maxHeartbeats 4000000 in
set_option maxRecDepth 100000 in
theorem metX5_addTide (l : Launch) (hlt : l.stackTraces = false) (D : va_G) (cI cZ : ClassId) (xa : Nat) (ad ad2 : Nat → Nat) (sz : Nat) (A : SA) (V : SV) (A2 : SA) (V2 : SV) (x1 : Int32) (Q : Int32 → SA → SV → SA → SV → Prop) (QX : String → SA → SV → SA → SV → Prop) (h : wpX5_addTide A V A2 V2 x1 Q QX) : vx_Met l yX5_addTide wsX5_addTide rmX5_addTide (PcX D [(cI, .int), (cZ, .boolean)] (wD xa ad ad2 cI cZ A V A2 V2) sz [.ref xa, .int x1]) (QiW D [(cI, .int), (cZ, .boolean)] (wD xa ad ad2 cI cZ A V A2 V2) sz (fun u : SA × SV × SA × SV => (wD xa ad ad2 cI cZ u.1 u.2.1 u.2.2.1 u.2.2.2)) (fun r u => Q r u.1 u.2.1 u.2.2.1 u.2.2.2)) (XCW D [(cI, .int), (cZ, .boolean)] (wD xa ad ad2 cI cZ A V A2 V2) sz (fun u : SA × SV × SA × SV => (wD xa ad ad2 cI cZ u.1 u.2.1 u.2.2.1 u.2.2.2)) (fun E u => QX E u.1 u.2.1 u.2.2.1 u.2.2.2)) rmX5_addTide.cells rmX5_addTide.slots (va_A (wD xa ad ad2 cI cZ A V A2 V2) sz) := by
  refine startX hlt (by decide) rfl rfl (Nat.le_of_ble_eq_true rfl) (Nat.le_of_ble_eq_true rfl) (Nat.le_of_ble_eq_true rfl) (Nat.le_of_ble_eq_true rfl) (Nat.le_of_ble_eq_true rfl) ?_
  intro p e s m args below meth c A0 Z cx hw hret hthrow ls hl
  exact wk_X5_addTide_0 Q QX cx hret hthrow A V A2 V2 x1 h _ _ _ hw hl
abbrev rmX5_tide : Room := { frames := 6, cells := 1, slots := 6, locals := 100 }
theorem inX5_tide_X3 : ∀ w ∈ wsX30, w ∈ wsX5_tide := by decide +kernel
theorem inX5_tide_X5 : ∀ w ∈ wsX50, w ∈ wsX5_tide := by decide +kernel
theorem xwX5_tide_27 : ∀ w ∈ Cond.classLink RX5 23 "java/lang/IllegalArgumentException" :: Cond.initialized "java/lang/IllegalArgumentException" :: (vx_atS RX5 27 "java/lang/IllegalArgumentException" xn).filter goodWord, w ∈ wsX5_tide := by decide +kernel
theorem kX5_tide_10 : Cond.fieldLink RX5 10 "DrownedPost" "now" "LDrownedPost$Office;" ∈ wsX5_tide := by decide +kernel
theorem kX5_tide_30 : Cond.fieldLink RX5 30 "DrownedPost$Office" "tides" "LDrownedPost$Tides;" ∈ wsX5_tide := by decide +kernel
def wb_X5_tide_0 (Q : Int32 → SA → SV → SA → SV → Prop) (QX : String → SA → SV → SA → SV → Prop) (A : SA) (V : SV) (A2 : SA) (V2 : SV) (x1 : Int32) : Prop := ((0 ≤ x1 → (wpX4_heightIn A V x1 (fun r2 A_3 V_4 => Q r2 A_3 V_4 A2 V2))) ∧ (¬ (0 ≤ x1) → QX "java/lang/IllegalArgumentException" A V A2 V2))
set_option maxHeartbeats 4000000 in
set_option maxRecDepth 100000 in
theorem wk_X5_tide_0 (Q : Int32 → SA → SV → SA → SV → Prop) (QX : String → SA → SV → SA → SV → Prop) (cx : CX RX5 cX5_tide 2 wsX5_tide D [(cI, .int), (cZ, .boolean)] p s m args c A0) (hret : ∀ (pc : Nat) (ls : Array Slot) (r : Int32) (u : SA × SV × SA × SV) (H : Heap) (locs : List Loc), narrow .int (.int r) = .int r → decode cX5_tide pc = .ok (.ireturn, 1) → Q r u.1 u.2.1 u.2.2.1 u.2.2.2 → WS D s A0 (wD xa ad ad2 cI cZ u.1 u.2.1 u.2.2.1 u.2.2.2) H locs → W p l e rmX5_tide s m args below meth c H locs rmX5_tide.cells rmX5_tide.slots Z (F0 m pc ls [.int r])) (hthrow : ∀ (cls : String) (ik ic : Nat), (cls, ik, ic) ∈ XK → (∀ w ∈ Cond.classLink RX5 ik cls :: Cond.initialized cls :: (vx_atS RX5 ic cls xn).filter goodWord, w ∈ wsX5_tide) → ∀ (is : Nat) (text : String), (is, text) ∈ STRS → ∀ (pc : Nat) (ls : Array Slot) (u : SA × SV × SA × SV) (H : Heap) (locs : List Loc), QX cls u.1 u.2.1 u.2.2.1 u.2.2.2 → WS D s A0 (wD xa ad ad2 cI cZ u.1 u.2.1 u.2.2.1 u.2.2.2) H locs → ls.size = 2 → decode cX5_tide pc = .ok (.new ik, 3) → decode cX5_tide (pc + 3) = .ok (.dup, 1) → decode cX5_tide (pc + 4) = .ok (.ldc is, 2) → decode cX5_tide (pc + 6) = .ok (.invokespecial ic, 3) → decode cX5_tide (pc + 9) = .ok (.athrow, 1) → W p l e rmX5_tide s m args below meth c H locs 0 0 Z (F0 m pc ls []))  : ∀ (A : SA) (V : SV) (A2 : SA) (V2 : SV) (x1 : Int32) (h : wb_X5_tide_0 Q QX A V A2 V2 x1) (H : Heap) (locs : List Loc) (ls : Array Slot) (hw : WS D s A0 (wD xa ad ad2 cI cZ A V A2 V2) H locs) (hl : lv_has ls 2 [(0, .ref xa), (1, .int x1)]), W p l e rmX5_tide s m args below meth c H locs 0 0 Z (F0 m 0 ls []) := by
  obtain ⟨hx, hb, hml, hown, hts, hK, hA⟩ := id cx
  intro A V A2 V2 x1 h H locs ls hw hl
  refine lv_iload_n (pc := 0) hx hb dX5_tide_0 rfl (lv_at hl 1 rfl) ?_
  refine lv_if_ge (pc := 1) (tgt := 14) hx hb dX5_tide_1 (by decide) (fun c1 => ?_) (fun c1 => ?_)
  · have h := h.1 c1
    refine lv_aload_n (pc := 14) hx hb dX5_tide_14 rfl (lv_at hl 0 rfl) ?_
    refine geDX_0 (pc := 15) cx inX5_tide_X5 kX5_tide_10 hw dX5_tide_15 ?_
    refine geD0_X3_0 (pc := 18) cx inX5_tide_X3 kX5_tide_30 hw dX5_tide_18 ?_
    refine lv_iload_n (pc := 21) hx hb dX5_tide_21 rfl (lv_at hl 1 rfl) ?_
    refine callVi (pc := 22) (rest := []) (c1 := 0) (s1 := 0) cx hw hl (metX4_heightIn l D cI cZ ad H.size A V x1 _ h) (fun hts => cwV 1 hts gX5_tide_X4_heightIn rfl rfl rfl (by decide +kernel) ⟨Nat.le_of_ble_eq_true rfl, Nat.le_of_ble_eq_true rfl⟩) subD0 [0, 1] rfl 1 (ci := 4) rfl rfl rfl (jnD0) rfl rfl (Nat.le_of_ble_eq_true rfl) ⟨Nat.le_of_ble_eq_true rfl, Nat.le_of_ble_eq_true rfl⟩ rfl rfl dX5_tide_22 (fun r2 u H locs h hw => ?_)
    obtain ⟨A_3, V_4⟩ := u
    refine W.widen (k := 1) (n := 6) (Nat.le_of_ble_eq_true rfl) (Nat.le_of_ble_eq_true rfl) ?_
    exact hret 25 _ _ (A_3, V_4, A2, V2) _ _ rfl dX5_tide_25 h hw
  · have h := h.2 c1
    exact hthrow "java/lang/IllegalArgumentException" 23 27 (by decide) xwX5_tide_27 52 "hour is less than 0" (by decide) 4 _ (A, V, A2, V2) _ _ h hw hl.1 dX5_tide_4 dX5_tide_7 dX5_tide_8 dX5_tide_10 dX5_tide_13
def wpX5_tide (A : SA) (V : SV) (A2 : SA) (V2 : SV) (x1 : Int32) (Q : Int32 → SA → SV → SA → SV → Prop) (QX : String → SA → SV → SA → SV → Prop) : Prop := wb_X5_tide_0 Q QX A V A2 V2 x1
set_option maxHeartbeats 4000000 in
set_option maxRecDepth 100000 in
theorem metX5_tide (l : Launch) (hlt : l.stackTraces = false) (D : va_G) (cI cZ : ClassId) (xa : Nat) (ad ad2 : Nat → Nat) (sz : Nat) (A : SA) (V : SV) (A2 : SA) (V2 : SV) (x1 : Int32) (Q : Int32 → SA → SV → SA → SV → Prop) (QX : String → SA → SV → SA → SV → Prop) (h : wpX5_tide A V A2 V2 x1 Q QX) : vx_Met l yX5_tide wsX5_tide rmX5_tide (PcX D [(cI, .int), (cZ, .boolean)] (wD xa ad ad2 cI cZ A V A2 V2) sz [.ref xa, .int x1]) (QiW D [(cI, .int), (cZ, .boolean)] (wD xa ad ad2 cI cZ A V A2 V2) sz (fun u : SA × SV × SA × SV => (wD xa ad ad2 cI cZ u.1 u.2.1 u.2.2.1 u.2.2.2)) (fun r u => Q r u.1 u.2.1 u.2.2.1 u.2.2.2)) (XCW D [(cI, .int), (cZ, .boolean)] (wD xa ad ad2 cI cZ A V A2 V2) sz (fun u : SA × SV × SA × SV => (wD xa ad ad2 cI cZ u.1 u.2.1 u.2.2.1 u.2.2.2)) (fun E u => QX E u.1 u.2.1 u.2.2.1 u.2.2.2)) rmX5_tide.cells rmX5_tide.slots (va_A (wD xa ad ad2 cI cZ A V A2 V2) sz) := by
  refine startX hlt (by decide) rfl rfl (Nat.le_of_ble_eq_true rfl) (Nat.le_of_ble_eq_true rfl) (Nat.le_of_ble_eq_true rfl) (Nat.le_of_ble_eq_true rfl) (Nat.le_of_ble_eq_true rfl) ?_
  intro p e s m args below meth c A0 Z cx hw hret hthrow ls hl
  exact wk_X5_tide_0 Q QX cx hret hthrow A V A2 V2 x1 h _ _ _ hw hl
abbrev rmX5_addBin : Room := { frames := 6, cells := 1, slots := 6, locals := 100 }
theorem inX5_addBin_X0 : ∀ w ∈ wsX00, w ∈ wsX5_addBin := by decide +kernel
theorem inX5_addBin_X3 : ∀ w ∈ wsX30, w ∈ wsX5_addBin := by decide +kernel
theorem inX5_addBin_X5 : ∀ w ∈ wsX50, w ∈ wsX5_addBin := by decide +kernel
theorem xwX5_addBin_27 : ∀ w ∈ Cond.classLink RX5 23 "java/lang/IllegalArgumentException" :: Cond.initialized "java/lang/IllegalArgumentException" :: (vx_atS RX5 27 "java/lang/IllegalArgumentException" xn).filter goodWord, w ∈ wsX5_addBin := by decide +kernel
theorem xwX5_addBin_48 : ∀ w ∈ Cond.classLink RX5 44 "java/lang/IllegalStateException" :: Cond.initialized "java/lang/IllegalStateException" :: (vx_atS RX5 48 "java/lang/IllegalStateException" xn).filter goodWord, w ∈ wsX5_addBin := by decide +kernel
theorem kX5_addBin_10 : Cond.fieldLink RX5 10 "DrownedPost" "now" "LDrownedPost$Office;" ∈ wsX5_addBin := by decide +kernel
theorem kX5_addBin_60 : Cond.fieldLink RX5 60 "DrownedPost$Office" "bins" "LDrownedPost$Bins;" ∈ wsX5_addBin := by decide +kernel
theorem kX5_addBin_64 : Cond.fieldLink RX5 64 "DrownedPost$Bins" "count" "I" ∈ wsX5_addBin := by decide +kernel
def wb_X5_addBin_0 (Q : Int32 → SA → SV → SA → SV → Prop) (QX : String → SA → SV → SA → SV → Prop) (A : SA) (V : SV) (A2 : SA) (V2 : SV) (x1 : Int32) (x2 : Int32) : Prop := (wpX5_isWithin x1 (0 : Int32) (99 : Int32) (fun r1 => ((r1 = 0 → QX "java/lang/IllegalArgumentException" A V A2 V2) ∧ (¬ (r1 = 0) → (wpX5_isWithin x2 (1 : Int32) (20 : Int32) (fun r5 => ((¬ r5 = 0 → (((V 1) < (10 : Int32) → (wpX0_append A V x1 x2 (fun r10 A_11 V_12 => Q r10 A_11 V_12 A2 V2))) ∧ (¬ ((V 1) < (10 : Int32)) → QX "java/lang/IllegalStateException" A V A2 V2))) ∧ (r5 = 0 → QX "java/lang/IllegalArgumentException" A V A2 V2))))))))
set_option maxHeartbeats 4000000 in
set_option maxRecDepth 100000 in
theorem wk_X5_addBin_0 (Q : Int32 → SA → SV → SA → SV → Prop) (QX : String → SA → SV → SA → SV → Prop) (cx : CX RX5 cX5_addBin 3 wsX5_addBin D [(cI, .int), (cZ, .boolean)] p s m args c A0) (hret : ∀ (pc : Nat) (ls : Array Slot) (r : Int32) (u : SA × SV × SA × SV) (H : Heap) (locs : List Loc), narrow .int (.int r) = .int r → decode cX5_addBin pc = .ok (.ireturn, 1) → Q r u.1 u.2.1 u.2.2.1 u.2.2.2 → WS D s A0 (wD xa ad ad2 cI cZ u.1 u.2.1 u.2.2.1 u.2.2.2) H locs → W p l e rmX5_addBin s m args below meth c H locs rmX5_addBin.cells rmX5_addBin.slots Z (F0 m pc ls [.int r])) (hthrow : ∀ (cls : String) (ik ic : Nat), (cls, ik, ic) ∈ XK → (∀ w ∈ Cond.classLink RX5 ik cls :: Cond.initialized cls :: (vx_atS RX5 ic cls xn).filter goodWord, w ∈ wsX5_addBin) → ∀ (is : Nat) (text : String), (is, text) ∈ STRS → ∀ (pc : Nat) (ls : Array Slot) (u : SA × SV × SA × SV) (H : Heap) (locs : List Loc), QX cls u.1 u.2.1 u.2.2.1 u.2.2.2 → WS D s A0 (wD xa ad ad2 cI cZ u.1 u.2.1 u.2.2.1 u.2.2.2) H locs → ls.size = 3 → decode cX5_addBin pc = .ok (.new ik, 3) → decode cX5_addBin (pc + 3) = .ok (.dup, 1) → decode cX5_addBin (pc + 4) = .ok (.ldc is, 2) → decode cX5_addBin (pc + 6) = .ok (.invokespecial ic, 3) → decode cX5_addBin (pc + 9) = .ok (.athrow, 1) → W p l e rmX5_addBin s m args below meth c H locs 0 0 Z (F0 m pc ls []))  : ∀ (A : SA) (V : SV) (A2 : SA) (V2 : SV) (x1 : Int32) (x2 : Int32) (h : wb_X5_addBin_0 Q QX A V A2 V2 x1 x2) (H : Heap) (locs : List Loc) (ls : Array Slot) (hw : WS D s A0 (wD xa ad ad2 cI cZ A V A2 V2) H locs) (hl : lv_has ls 3 [(0, .ref xa), (1, .int x1), (2, .int x2)]), W p l e rmX5_addBin s m args below meth c H locs 0 0 Z (F0 m 0 ls []) := by
  obtain ⟨hx, hb, hml, hown, hts, hK, hA⟩ := id cx
  intro A V A2 V2 x1 x2 h H locs ls hw hl
  refine lv_iload_n (pc := 0) hx hb dX5_addBin_0 rfl (lv_at hl 1 rfl) ?_
  refine lv_iconst (pc := 1) (v := (0 : Int32)) hx hb dX5_addBin_1 (by decide) ?_
  refine lv_bipush (pc := 2) (v := (99 : Int32)) hx hb dX5_addBin_2 (by decide) ?_
  refine callSi (pc := 4) (rest := []) (c1 := 0) (s1 := 0) cx hw hl (metX5_isWithin l D [] H.size x1 (0 : Int32) (99 : Int32) _ h) (fun hts => va_cwS 3 hts gX5_addBin_X5_isWithin rfl rfl rfl (by decide +kernel) ⟨Nat.le_of_ble_eq_true rfl, Nat.le_of_ble_eq_true rfl⟩) SUB.nil [] rfl (JN.nil (S := Unit)) rfl rfl (Nat.le_of_ble_eq_true rfl) ⟨Nat.le_of_ble_eq_true rfl, Nat.le_of_ble_eq_true rfl⟩ rfl rfl dX5_addBin_4 (fun r1 u H locs h hw => ?_)
  refine lv_if_eq (pc := 7) (tgt := 20) hx hb dX5_addBin_7 (by decide) (fun c4 => ?_) (fun c4 => ?_)
  · have h := h.1 c4
    exact hthrow "java/lang/IllegalArgumentException" 23 27 (by decide) xwX5_addBin_27 58 "height is not 0 to 99, or room is not 1 to 20" (by decide) 20 _ (A, V, A2, V2) _ _ h hw hl.1 dX5_addBin_20 dX5_addBin_23 dX5_addBin_24 dX5_addBin_26 dX5_addBin_29
  · have h := h.2 c4
    refine lv_iload_n (pc := 10) hx hb dX5_addBin_10 rfl (lv_at hl 2 rfl) ?_
    refine lv_iconst (pc := 11) (v := (1 : Int32)) hx hb dX5_addBin_11 (by decide) ?_
    refine lv_bipush (pc := 12) (v := (20 : Int32)) hx hb dX5_addBin_12 (by decide) ?_
    refine callSi (pc := 14) (rest := []) (c1 := 0) (s1 := 0) cx hw hl (metX5_isWithin l D [] H.size x2 (1 : Int32) (20 : Int32) _ h) (fun hts => va_cwS 3 hts gX5_addBin_X5_isWithin rfl rfl rfl (by decide +kernel) ⟨Nat.le_of_ble_eq_true rfl, Nat.le_of_ble_eq_true rfl⟩) SUB.nil [] rfl (JN.nil (S := Unit)) rfl rfl (Nat.le_of_ble_eq_true rfl) ⟨Nat.le_of_ble_eq_true rfl, Nat.le_of_ble_eq_true rfl⟩ rfl rfl dX5_addBin_14 (fun r5 u H locs h hw => ?_)
    refine lv_if_ne (pc := 17) (tgt := 30) hx hb dX5_addBin_17 (by decide) (fun c8 => ?_) (fun c8 => ?_)
    · have h := h.1 c8
      refine lv_aload_n (pc := 30) hx hb dX5_addBin_30 rfl (lv_at hl 0 rfl) ?_
      refine geDX_0 (pc := 31) cx inX5_addBin_X5 kX5_addBin_10 hw dX5_addBin_31 ?_
      refine geD0_X3_1 (pc := 34) cx inX5_addBin_X3 kX5_addBin_60 hw dX5_addBin_34 ?_
      refine geD0_X0_3 (pc := 37) cx inX5_addBin_X0 kX5_addBin_64 hw dX5_addBin_37 ?_
      refine lv_bipush (pc := 40) (v := (10 : Int32)) hx hb dX5_addBin_40 (by decide) ?_
      refine lv_icmp_lt (pc := 42) (tgt := 55) hx hb dX5_addBin_42 (by decide) (fun c9 => ?_) (fun c9 => ?_)
      · have h := h.1 c9
        refine lv_aload_n (pc := 55) hx hb dX5_addBin_55 rfl (lv_at hl 0 rfl) ?_
        refine geDX_0 (pc := 56) cx inX5_addBin_X5 kX5_addBin_10 hw dX5_addBin_56 ?_
        refine geD0_X3_1 (pc := 59) cx inX5_addBin_X3 kX5_addBin_60 hw dX5_addBin_59 ?_
        refine lv_iload_n (pc := 62) hx hb dX5_addBin_62 rfl (lv_at hl 1 rfl) ?_
        refine lv_iload_n (pc := 63) hx hb dX5_addBin_63 rfl (lv_at hl 2 rfl) ?_
        refine callVi (pc := 64) (rest := []) (c1 := 0) (s1 := 0) cx hw hl (metX0_append l D cI cZ ad H.size A V x1 x2 _ h) (fun hts => cwV 2 hts gX5_addBin_X0_append rfl rfl rfl (by decide +kernel) ⟨Nat.le_of_ble_eq_true rfl, Nat.le_of_ble_eq_true rfl⟩) subD0 [0, 1] rfl 2 (ci := 0) rfl rfl rfl (jnD0) rfl rfl (Nat.le_of_ble_eq_true rfl) ⟨Nat.le_of_ble_eq_true rfl, Nat.le_of_ble_eq_true rfl⟩ rfl rfl dX5_addBin_64 (fun r10 u H locs h hw => ?_)
        obtain ⟨A_11, V_12⟩ := u
        refine W.widen (k := 1) (n := 6) (Nat.le_of_ble_eq_true rfl) (Nat.le_of_ble_eq_true rfl) ?_
        exact hret 67 _ _ (A_11, V_12, A2, V2) _ _ rfl dX5_addBin_67 h hw
      · have h := h.2 c9
        exact hthrow "java/lang/IllegalStateException" 44 48 (by decide) xwX5_addBin_48 67 "there are 10 bins" (by decide) 45 _ (A, V, A2, V2) _ _ h hw hl.1 dX5_addBin_45 dX5_addBin_48 dX5_addBin_49 dX5_addBin_51 dX5_addBin_54
    · have h := h.2 c8
      exact hthrow "java/lang/IllegalArgumentException" 23 27 (by decide) xwX5_addBin_27 58 "height is not 0 to 99, or room is not 1 to 20" (by decide) 20 _ (A, V, A2, V2) _ _ h hw hl.1 dX5_addBin_20 dX5_addBin_23 dX5_addBin_24 dX5_addBin_26 dX5_addBin_29
def wpX5_addBin (A : SA) (V : SV) (A2 : SA) (V2 : SV) (x1 : Int32) (x2 : Int32) (Q : Int32 → SA → SV → SA → SV → Prop) (QX : String → SA → SV → SA → SV → Prop) : Prop := wb_X5_addBin_0 Q QX A V A2 V2 x1 x2
set_option maxHeartbeats 4000000 in
set_option maxRecDepth 100000 in
theorem metX5_addBin (l : Launch) (hlt : l.stackTraces = false) (D : va_G) (cI cZ : ClassId) (xa : Nat) (ad ad2 : Nat → Nat) (sz : Nat) (A : SA) (V : SV) (A2 : SA) (V2 : SV) (x1 : Int32) (x2 : Int32) (Q : Int32 → SA → SV → SA → SV → Prop) (QX : String → SA → SV → SA → SV → Prop) (h : wpX5_addBin A V A2 V2 x1 x2 Q QX) : vx_Met l yX5_addBin wsX5_addBin rmX5_addBin (PcX D [(cI, .int), (cZ, .boolean)] (wD xa ad ad2 cI cZ A V A2 V2) sz [.ref xa, .int x1, .int x2]) (QiW D [(cI, .int), (cZ, .boolean)] (wD xa ad ad2 cI cZ A V A2 V2) sz (fun u : SA × SV × SA × SV => (wD xa ad ad2 cI cZ u.1 u.2.1 u.2.2.1 u.2.2.2)) (fun r u => Q r u.1 u.2.1 u.2.2.1 u.2.2.2)) (XCW D [(cI, .int), (cZ, .boolean)] (wD xa ad ad2 cI cZ A V A2 V2) sz (fun u : SA × SV × SA × SV => (wD xa ad ad2 cI cZ u.1 u.2.1 u.2.2.1 u.2.2.2)) (fun E u => QX E u.1 u.2.1 u.2.2.1 u.2.2.2)) rmX5_addBin.cells rmX5_addBin.slots (va_A (wD xa ad ad2 cI cZ A V A2 V2) sz) := by
  refine startX hlt (by decide) rfl rfl (Nat.le_of_ble_eq_true rfl) (Nat.le_of_ble_eq_true rfl) (Nat.le_of_ble_eq_true rfl) (Nat.le_of_ble_eq_true rfl) (Nat.le_of_ble_eq_true rfl) ?_
  intro p e s m args below meth c A0 Z cx hw hret hthrow ls hl
  exact wk_X5_addBin_0 Q QX cx hret hthrow A V A2 V2 x1 x2 h _ _ _ hw hl
abbrev rmX5_setCrew : Room := { frames := 6, cells := 1, slots := 6, locals := 100 }
theorem inX5_setCrew_X3 : ∀ w ∈ wsX30, w ∈ wsX5_setCrew := by decide +kernel
theorem inX5_setCrew_X5 : ∀ w ∈ wsX50, w ∈ wsX5_setCrew := by decide +kernel
theorem xwX5_setCrew_27 : ∀ w ∈ Cond.classLink RX5 23 "java/lang/IllegalArgumentException" :: Cond.initialized "java/lang/IllegalArgumentException" :: (vx_atS RX5 27 "java/lang/IllegalArgumentException" xn).filter goodWord, w ∈ wsX5_setCrew := by decide +kernel
theorem kX5_setCrew_10 : Cond.fieldLink RX5 10 "DrownedPost" "now" "LDrownedPost$Office;" ∈ wsX5_setCrew := by decide +kernel
theorem kX5_setCrew_74 : Cond.fieldLink RX5 74 "DrownedPost$Office" "sorters" "I" ∈ wsX5_setCrew := by decide +kernel
theorem kX5_setCrew_77 : Cond.fieldLink RX5 77 "DrownedPost$Office" "scrapers" "I" ∈ wsX5_setCrew := by decide +kernel
def wb_X5_setCrew_0 (Q : Int32 → SA → SV → SA → SV → Prop) (QX : String → SA → SV → SA → SV → Prop) (A : SA) (V : SV) (A2 : SA) (V2 : SV) (x1 : Int32) (x2 : Int32) : Prop := (wpX5_isWithin x1 (0 : Int32) (9 : Int32) (fun r1 => ((r1 = 0 → QX "java/lang/IllegalArgumentException" A V A2 V2) ∧ (¬ (r1 = 0) → (wpX5_isWithin x2 (0 : Int32) (9 : Int32) (fun r5 => ((¬ r5 = 0 → (∀ V_9 : SV, V_9 = uv V 5 x1 → (∀ V_10 : SV, V_10 = uv V_9 6 x2 → Q (V 6) A V_10 A2 V2))) ∧ (r5 = 0 → QX "java/lang/IllegalArgumentException" A V A2 V2))))))))
set_option maxHeartbeats 4000000 in
set_option maxRecDepth 100000 in
theorem wk_X5_setCrew_0 (Q : Int32 → SA → SV → SA → SV → Prop) (QX : String → SA → SV → SA → SV → Prop) (cx : CX RX5 cX5_setCrew 4 wsX5_setCrew D [(cI, .int), (cZ, .boolean)] p s m args c A0) (hret : ∀ (pc : Nat) (ls : Array Slot) (r : Int32) (u : SA × SV × SA × SV) (H : Heap) (locs : List Loc), narrow .int (.int r) = .int r → decode cX5_setCrew pc = .ok (.ireturn, 1) → Q r u.1 u.2.1 u.2.2.1 u.2.2.2 → WS D s A0 (wD xa ad ad2 cI cZ u.1 u.2.1 u.2.2.1 u.2.2.2) H locs → W p l e rmX5_setCrew s m args below meth c H locs rmX5_setCrew.cells rmX5_setCrew.slots Z (F0 m pc ls [.int r])) (hthrow : ∀ (cls : String) (ik ic : Nat), (cls, ik, ic) ∈ XK → (∀ w ∈ Cond.classLink RX5 ik cls :: Cond.initialized cls :: (vx_atS RX5 ic cls xn).filter goodWord, w ∈ wsX5_setCrew) → ∀ (is : Nat) (text : String), (is, text) ∈ STRS → ∀ (pc : Nat) (ls : Array Slot) (u : SA × SV × SA × SV) (H : Heap) (locs : List Loc), QX cls u.1 u.2.1 u.2.2.1 u.2.2.2 → WS D s A0 (wD xa ad ad2 cI cZ u.1 u.2.1 u.2.2.1 u.2.2.2) H locs → ls.size = 4 → decode cX5_setCrew pc = .ok (.new ik, 3) → decode cX5_setCrew (pc + 3) = .ok (.dup, 1) → decode cX5_setCrew (pc + 4) = .ok (.ldc is, 2) → decode cX5_setCrew (pc + 6) = .ok (.invokespecial ic, 3) → decode cX5_setCrew (pc + 9) = .ok (.athrow, 1) → W p l e rmX5_setCrew s m args below meth c H locs 0 0 Z (F0 m pc ls []))  : ∀ (A : SA) (V : SV) (A2 : SA) (V2 : SV) (x1 : Int32) (x2 : Int32) (h : wb_X5_setCrew_0 Q QX A V A2 V2 x1 x2) (H : Heap) (locs : List Loc) (ls : Array Slot) (hw : WS D s A0 (wD xa ad ad2 cI cZ A V A2 V2) H locs) (hl : lv_has ls 4 [(0, .ref xa), (1, .int x1), (2, .int x2)]), W p l e rmX5_setCrew s m args below meth c H locs 0 0 Z (F0 m 0 ls []) := by
  obtain ⟨hx, hb, hml, hown, hts, hK, hA⟩ := id cx
  intro A V A2 V2 x1 x2 h H locs ls hw hl
  refine lv_iload_n (pc := 0) hx hb dX5_setCrew_0 rfl (lv_at hl 1 rfl) ?_
  refine lv_iconst (pc := 1) (v := (0 : Int32)) hx hb dX5_setCrew_1 (by decide) ?_
  refine lv_bipush (pc := 2) (v := (9 : Int32)) hx hb dX5_setCrew_2 (by decide) ?_
  refine callSi (pc := 4) (rest := []) (c1 := 0) (s1 := 0) cx hw hl (metX5_isWithin l D [] H.size x1 (0 : Int32) (9 : Int32) _ h) (fun hts => va_cwS 3 hts gX5_setCrew_X5_isWithin rfl rfl rfl (by decide +kernel) ⟨Nat.le_of_ble_eq_true rfl, Nat.le_of_ble_eq_true rfl⟩) SUB.nil [] rfl (JN.nil (S := Unit)) rfl rfl (Nat.le_of_ble_eq_true rfl) ⟨Nat.le_of_ble_eq_true rfl, Nat.le_of_ble_eq_true rfl⟩ rfl rfl dX5_setCrew_4 (fun r1 u H locs h hw => ?_)
  refine lv_if_eq (pc := 7) (tgt := 20) hx hb dX5_setCrew_7 (by decide) (fun c4 => ?_) (fun c4 => ?_)
  · have h := h.1 c4
    exact hthrow "java/lang/IllegalArgumentException" 23 27 (by decide) xwX5_setCrew_27 72 "scrapers or sorters is not 0 to 9" (by decide) 20 _ (A, V, A2, V2) _ _ h hw hl.1 dX5_setCrew_20 dX5_setCrew_23 dX5_setCrew_24 dX5_setCrew_26 dX5_setCrew_29
  · have h := h.2 c4
    refine lv_iload_n (pc := 10) hx hb dX5_setCrew_10 rfl (lv_at hl 2 rfl) ?_
    refine lv_iconst (pc := 11) (v := (0 : Int32)) hx hb dX5_setCrew_11 (by decide) ?_
    refine lv_bipush (pc := 12) (v := (9 : Int32)) hx hb dX5_setCrew_12 (by decide) ?_
    refine callSi (pc := 14) (rest := []) (c1 := 0) (s1 := 0) cx hw hl (metX5_isWithin l D [] H.size x2 (0 : Int32) (9 : Int32) _ h) (fun hts => va_cwS 3 hts gX5_setCrew_X5_isWithin rfl rfl rfl (by decide +kernel) ⟨Nat.le_of_ble_eq_true rfl, Nat.le_of_ble_eq_true rfl⟩) SUB.nil [] rfl (JN.nil (S := Unit)) rfl rfl (Nat.le_of_ble_eq_true rfl) ⟨Nat.le_of_ble_eq_true rfl, Nat.le_of_ble_eq_true rfl⟩ rfl rfl dX5_setCrew_14 (fun r5 u H locs h hw => ?_)
    refine lv_if_ne (pc := 17) (tgt := 30) hx hb dX5_setCrew_17 (by decide) (fun c8 => ?_) (fun c8 => ?_)
    · have h := h.1 c8
      refine lv_aload_n (pc := 30) hx hb dX5_setCrew_30 rfl (lv_at hl 0 rfl) ?_
      refine geDX_0 (pc := 31) cx inX5_setCrew_X5 kX5_setCrew_10 hw dX5_setCrew_31 ?_
      refine geD0_X3_6 (pc := 34) cx inX5_setCrew_X3 kX5_setCrew_74 hw dX5_setCrew_34 ?_
      refine lv_istore_n (pc := 37) (lv' := [(3, .int (V 6)), (0, .ref xa), (1, .int x1), (2, .int x2)]) hx hb dX5_setCrew_37 rfl hl (by decide) rfl (fun ls hl => ?_)
      refine lv_aload_n (pc := 38) hx hb dX5_setCrew_38 rfl (lv_at hl 1 rfl) ?_
      refine geDX_0 (pc := 39) cx inX5_setCrew_X5 kX5_setCrew_10 hw dX5_setCrew_39 ?_
      refine lv_iload_n (pc := 42) hx hb dX5_setCrew_42 rfl (lv_at hl 2 rfl) ?_
      refine puD0_X3_5 (pc := 43) cx inX5_setCrew_X3 kX5_setCrew_77 hw dX5_setCrew_43 (fun V_9 eV_9 H locs hw => ?_)
      have h := h V_9 eV_9
      refine lv_aload_n (pc := 46) hx hb dX5_setCrew_46 rfl (lv_at hl 1 rfl) ?_
      refine geDX_0 (pc := 47) cx inX5_setCrew_X5 kX5_setCrew_10 hw dX5_setCrew_47 ?_
      refine lv_iload_n (pc := 50) hx hb dX5_setCrew_50 rfl (lv_at hl 3 rfl) ?_
      refine puD0_X3_6 (pc := 51) cx inX5_setCrew_X3 kX5_setCrew_74 hw dX5_setCrew_51 (fun V_10 eV_10 H locs hw => ?_)
      have h := h V_10 eV_10
      refine lv_iload_n (pc := 54) hx hb dX5_setCrew_54 rfl (lv_at hl 0 rfl) ?_
      refine W.widen (k := 1) (n := 6) (Nat.le_of_ble_eq_true rfl) (Nat.le_of_ble_eq_true rfl) ?_
      exact hret 55 _ _ (A, V_10, A2, V2) _ _ rfl dX5_setCrew_55 h hw
    · have h := h.2 c8
      exact hthrow "java/lang/IllegalArgumentException" 23 27 (by decide) xwX5_setCrew_27 72 "scrapers or sorters is not 0 to 9" (by decide) 20 _ (A, V, A2, V2) _ _ h hw hl.1 dX5_setCrew_20 dX5_setCrew_23 dX5_setCrew_24 dX5_setCrew_26 dX5_setCrew_29
def wpX5_setCrew (A : SA) (V : SV) (A2 : SA) (V2 : SV) (x1 : Int32) (x2 : Int32) (Q : Int32 → SA → SV → SA → SV → Prop) (QX : String → SA → SV → SA → SV → Prop) : Prop := wb_X5_setCrew_0 Q QX A V A2 V2 x1 x2
set_option maxHeartbeats 4000000 in
set_option maxRecDepth 100000 in
theorem metX5_setCrew (l : Launch) (hlt : l.stackTraces = false) (D : va_G) (cI cZ : ClassId) (xa : Nat) (ad ad2 : Nat → Nat) (sz : Nat) (A : SA) (V : SV) (A2 : SA) (V2 : SV) (x1 : Int32) (x2 : Int32) (Q : Int32 → SA → SV → SA → SV → Prop) (QX : String → SA → SV → SA → SV → Prop) (h : wpX5_setCrew A V A2 V2 x1 x2 Q QX) : vx_Met l yX5_setCrew wsX5_setCrew rmX5_setCrew (PcX D [(cI, .int), (cZ, .boolean)] (wD xa ad ad2 cI cZ A V A2 V2) sz [.ref xa, .int x1, .int x2]) (QiW D [(cI, .int), (cZ, .boolean)] (wD xa ad ad2 cI cZ A V A2 V2) sz (fun u : SA × SV × SA × SV => (wD xa ad ad2 cI cZ u.1 u.2.1 u.2.2.1 u.2.2.2)) (fun r u => Q r u.1 u.2.1 u.2.2.1 u.2.2.2)) (XCW D [(cI, .int), (cZ, .boolean)] (wD xa ad ad2 cI cZ A V A2 V2) sz (fun u : SA × SV × SA × SV => (wD xa ad ad2 cI cZ u.1 u.2.1 u.2.2.1 u.2.2.2)) (fun E u => QX E u.1 u.2.1 u.2.2.1 u.2.2.2)) rmX5_setCrew.cells rmX5_setCrew.slots (va_A (wD xa ad ad2 cI cZ A V A2 V2) sz) := by
  refine startX hlt (by decide) rfl rfl (Nat.le_of_ble_eq_true rfl) (Nat.le_of_ble_eq_true rfl) (Nat.le_of_ble_eq_true rfl) (Nat.le_of_ble_eq_true rfl) (Nat.le_of_ble_eq_true rfl) ?_
  intro p e s m args below meth c A0 Z cx hw hret hthrow ls hl
  exact wk_X5_setCrew_0 Q QX cx hret hthrow A V A2 V2 x1 x2 h _ _ _ hw hl
abbrev rmX5_addDrowned : Room := { frames := 6, cells := 1, slots := 6, locals := 100 }
theorem inX5_addDrowned_X1 : ∀ w ∈ wsX10, w ∈ wsX5_addDrowned := by decide +kernel
theorem inX5_addDrowned_X3 : ∀ w ∈ wsX30, w ∈ wsX5_addDrowned := by decide +kernel
theorem inX5_addDrowned_X5 : ∀ w ∈ wsX50, w ∈ wsX5_addDrowned := by decide +kernel
theorem xwX5_addDrowned_27 : ∀ w ∈ Cond.classLink RX5 23 "java/lang/IllegalArgumentException" :: Cond.initialized "java/lang/IllegalArgumentException" :: (vx_atS RX5 27 "java/lang/IllegalArgumentException" xn).filter goodWord, w ∈ wsX5_addDrowned := by decide +kernel
theorem xwX5_addDrowned_48 : ∀ w ∈ Cond.classLink RX5 44 "java/lang/IllegalStateException" :: Cond.initialized "java/lang/IllegalStateException" :: (vx_atS RX5 48 "java/lang/IllegalStateException" xn).filter goodWord, w ∈ wsX5_addDrowned := by decide +kernel
theorem kX5_addDrowned_10 : Cond.fieldLink RX5 10 "DrownedPost" "now" "LDrownedPost$Office;" ∈ wsX5_addDrowned := by decide +kernel
theorem kX5_addDrowned_82 : Cond.fieldLink RX5 82 "DrownedPost$Office" "drowned" "LDrownedPost$Drowned;" ∈ wsX5_addDrowned := by decide +kernel
theorem kX5_addDrowned_86 : Cond.fieldLink RX5 86 "DrownedPost$Drowned" "count" "I" ∈ wsX5_addDrowned := by decide +kernel
def wb_X5_addDrowned_0 (Q : Int32 → SA → SV → SA → SV → Prop) (QX : String → SA → SV → SA → SV → Prop) (A : SA) (V : SV) (A2 : SA) (V2 : SV) (x1 : Int32) (x2 : Int32) (x3 : Int32) : Prop := (wpX5_isWithin x1 (0 : Int32) (99 : Int32) (fun r1 => ((r1 = 0 → QX "java/lang/IllegalArgumentException" A V A2 V2) ∧ (¬ (r1 = 0) → (wpX5_isWithin x2 (0 : Int32) (5 : Int32) (fun r5 => ((r5 = 0 → QX "java/lang/IllegalArgumentException" A V A2 V2) ∧ (¬ (r5 = 0) → (wpX5_isWithin x3 (1 : Int32) (60 : Int32) (fun r9 => ((¬ r9 = 0 → (((V 2) < (16 : Int32) → (wpX1_append A V x1 x2 x3 (fun r14 A_15 V_16 => Q r14 A_15 V_16 A2 V2))) ∧ (¬ ((V 2) < (16 : Int32)) → QX "java/lang/IllegalStateException" A V A2 V2))) ∧ (r9 = 0 → QX "java/lang/IllegalArgumentException" A V A2 V2))))))))))))
set_option maxHeartbeats 4000000 in
set_option maxRecDepth 100000 in
theorem wk_X5_addDrowned_0 (Q : Int32 → SA → SV → SA → SV → Prop) (QX : String → SA → SV → SA → SV → Prop) (cx : CX RX5 cX5_addDrowned 4 wsX5_addDrowned D [(cI, .int), (cZ, .boolean)] p s m args c A0) (hret : ∀ (pc : Nat) (ls : Array Slot) (r : Int32) (u : SA × SV × SA × SV) (H : Heap) (locs : List Loc), narrow .int (.int r) = .int r → decode cX5_addDrowned pc = .ok (.ireturn, 1) → Q r u.1 u.2.1 u.2.2.1 u.2.2.2 → WS D s A0 (wD xa ad ad2 cI cZ u.1 u.2.1 u.2.2.1 u.2.2.2) H locs → W p l e rmX5_addDrowned s m args below meth c H locs rmX5_addDrowned.cells rmX5_addDrowned.slots Z (F0 m pc ls [.int r])) (hthrow : ∀ (cls : String) (ik ic : Nat), (cls, ik, ic) ∈ XK → (∀ w ∈ Cond.classLink RX5 ik cls :: Cond.initialized cls :: (vx_atS RX5 ic cls xn).filter goodWord, w ∈ wsX5_addDrowned) → ∀ (is : Nat) (text : String), (is, text) ∈ STRS → ∀ (pc : Nat) (ls : Array Slot) (u : SA × SV × SA × SV) (H : Heap) (locs : List Loc), QX cls u.1 u.2.1 u.2.2.1 u.2.2.2 → WS D s A0 (wD xa ad ad2 cI cZ u.1 u.2.1 u.2.2.1 u.2.2.2) H locs → ls.size = 4 → decode cX5_addDrowned pc = .ok (.new ik, 3) → decode cX5_addDrowned (pc + 3) = .ok (.dup, 1) → decode cX5_addDrowned (pc + 4) = .ok (.ldc is, 2) → decode cX5_addDrowned (pc + 6) = .ok (.invokespecial ic, 3) → decode cX5_addDrowned (pc + 9) = .ok (.athrow, 1) → W p l e rmX5_addDrowned s m args below meth c H locs 0 0 Z (F0 m pc ls []))  : ∀ (A : SA) (V : SV) (A2 : SA) (V2 : SV) (x1 : Int32) (x2 : Int32) (x3 : Int32) (h : wb_X5_addDrowned_0 Q QX A V A2 V2 x1 x2 x3) (H : Heap) (locs : List Loc) (ls : Array Slot) (hw : WS D s A0 (wD xa ad ad2 cI cZ A V A2 V2) H locs) (hl : lv_has ls 4 [(0, .ref xa), (1, .int x1), (2, .int x2), (3, .int x3)]), W p l e rmX5_addDrowned s m args below meth c H locs 0 0 Z (F0 m 0 ls []) := by
  obtain ⟨hx, hb, hml, hown, hts, hK, hA⟩ := id cx
  intro A V A2 V2 x1 x2 x3 h H locs ls hw hl
  refine lv_iload_n (pc := 0) hx hb dX5_addDrowned_0 rfl (lv_at hl 1 rfl) ?_
  refine lv_iconst (pc := 1) (v := (0 : Int32)) hx hb dX5_addDrowned_1 (by decide) ?_
  refine lv_bipush (pc := 2) (v := (99 : Int32)) hx hb dX5_addDrowned_2 (by decide) ?_
  refine callSi (pc := 4) (rest := []) (c1 := 0) (s1 := 0) cx hw hl (metX5_isWithin l D [] H.size x1 (0 : Int32) (99 : Int32) _ h) (fun hts => va_cwS 3 hts gX5_addDrowned_X5_isWithin rfl rfl rfl (by decide +kernel) ⟨Nat.le_of_ble_eq_true rfl, Nat.le_of_ble_eq_true rfl⟩) SUB.nil [] rfl (JN.nil (S := Unit)) rfl rfl (Nat.le_of_ble_eq_true rfl) ⟨Nat.le_of_ble_eq_true rfl, Nat.le_of_ble_eq_true rfl⟩ rfl rfl dX5_addDrowned_4 (fun r1 u H locs h hw => ?_)
  refine lv_if_eq (pc := 7) (tgt := 29) hx hb dX5_addDrowned_7 (by decide) (fun c4 => ?_) (fun c4 => ?_)
  · have h := h.1 c4
    exact hthrow "java/lang/IllegalArgumentException" 23 27 (by decide) xwX5_addDrowned_27 80 "height is not 0 to 99, n is not 0 to 5, or lag is not 1 to 60" (by decide) 29 _ (A, V, A2, V2) _ _ h hw hl.1 dX5_addDrowned_29 dX5_addDrowned_32 dX5_addDrowned_33 dX5_addDrowned_35 dX5_addDrowned_38
  · have h := h.2 c4
    refine lv_iload_n (pc := 10) hx hb dX5_addDrowned_10 rfl (lv_at hl 2 rfl) ?_
    refine lv_iconst (pc := 11) (v := (0 : Int32)) hx hb dX5_addDrowned_11 (by decide) ?_
    refine lv_iconst (pc := 12) (v := (5 : Int32)) hx hb dX5_addDrowned_12 (by decide) ?_
    refine callSi (pc := 13) (rest := []) (c1 := 0) (s1 := 0) cx hw hl (metX5_isWithin l D [] H.size x2 (0 : Int32) (5 : Int32) _ h) (fun hts => va_cwS 3 hts gX5_addDrowned_X5_isWithin rfl rfl rfl (by decide +kernel) ⟨Nat.le_of_ble_eq_true rfl, Nat.le_of_ble_eq_true rfl⟩) SUB.nil [] rfl (JN.nil (S := Unit)) rfl rfl (Nat.le_of_ble_eq_true rfl) ⟨Nat.le_of_ble_eq_true rfl, Nat.le_of_ble_eq_true rfl⟩ rfl rfl dX5_addDrowned_13 (fun r5 u H locs h hw => ?_)
    refine lv_if_eq (pc := 16) (tgt := 29) hx hb dX5_addDrowned_16 (by decide) (fun c8 => ?_) (fun c8 => ?_)
    · have h := h.1 c8
      exact hthrow "java/lang/IllegalArgumentException" 23 27 (by decide) xwX5_addDrowned_27 80 "height is not 0 to 99, n is not 0 to 5, or lag is not 1 to 60" (by decide) 29 _ (A, V, A2, V2) _ _ h hw hl.1 dX5_addDrowned_29 dX5_addDrowned_32 dX5_addDrowned_33 dX5_addDrowned_35 dX5_addDrowned_38
    · have h := h.2 c8
      refine lv_iload_n (pc := 19) hx hb dX5_addDrowned_19 rfl (lv_at hl 3 rfl) ?_
      refine lv_iconst (pc := 20) (v := (1 : Int32)) hx hb dX5_addDrowned_20 (by decide) ?_
      refine lv_bipush (pc := 21) (v := (60 : Int32)) hx hb dX5_addDrowned_21 (by decide) ?_
      refine callSi (pc := 23) (rest := []) (c1 := 0) (s1 := 0) cx hw hl (metX5_isWithin l D [] H.size x3 (1 : Int32) (60 : Int32) _ h) (fun hts => va_cwS 3 hts gX5_addDrowned_X5_isWithin rfl rfl rfl (by decide +kernel) ⟨Nat.le_of_ble_eq_true rfl, Nat.le_of_ble_eq_true rfl⟩) SUB.nil [] rfl (JN.nil (S := Unit)) rfl rfl (Nat.le_of_ble_eq_true rfl) ⟨Nat.le_of_ble_eq_true rfl, Nat.le_of_ble_eq_true rfl⟩ rfl rfl dX5_addDrowned_23 (fun r9 u H locs h hw => ?_)
      refine lv_if_ne (pc := 26) (tgt := 39) hx hb dX5_addDrowned_26 (by decide) (fun c12 => ?_) (fun c12 => ?_)
      · have h := h.1 c12
        refine lv_aload_n (pc := 39) hx hb dX5_addDrowned_39 rfl (lv_at hl 0 rfl) ?_
        refine geDX_0 (pc := 40) cx inX5_addDrowned_X5 kX5_addDrowned_10 hw dX5_addDrowned_40 ?_
        refine geD0_X3_2 (pc := 43) cx inX5_addDrowned_X3 kX5_addDrowned_82 hw dX5_addDrowned_43 ?_
        refine geD0_X1_5 (pc := 46) cx inX5_addDrowned_X1 kX5_addDrowned_86 hw dX5_addDrowned_46 ?_
        refine lv_bipush (pc := 49) (v := (16 : Int32)) hx hb dX5_addDrowned_49 (by decide) ?_
        refine lv_icmp_lt (pc := 51) (tgt := 64) hx hb dX5_addDrowned_51 (by decide) (fun c13 => ?_) (fun c13 => ?_)
        · have h := h.1 c13
          refine lv_aload_n (pc := 64) hx hb dX5_addDrowned_64 rfl (lv_at hl 0 rfl) ?_
          refine geDX_0 (pc := 65) cx inX5_addDrowned_X5 kX5_addDrowned_10 hw dX5_addDrowned_65 ?_
          refine geD0_X3_2 (pc := 68) cx inX5_addDrowned_X3 kX5_addDrowned_82 hw dX5_addDrowned_68 ?_
          refine lv_iload_n (pc := 71) hx hb dX5_addDrowned_71 rfl (lv_at hl 1 rfl) ?_
          refine lv_iload_n (pc := 72) hx hb dX5_addDrowned_72 rfl (lv_at hl 2 rfl) ?_
          refine lv_iload_n (pc := 73) hx hb dX5_addDrowned_73 rfl (lv_at hl 3 rfl) ?_
          refine callVi (pc := 74) (rest := []) (c1 := 0) (s1 := 0) cx hw hl (metX1_append l D cI cZ ad H.size A V x1 x2 x3 _ h) (fun hts => cwV 3 hts gX5_addDrowned_X1_append rfl rfl rfl (by decide +kernel) ⟨Nat.le_of_ble_eq_true rfl, Nat.le_of_ble_eq_true rfl⟩) subD0 [0, 1] rfl 3 (ci := 1) rfl rfl rfl (jnD0) rfl rfl (Nat.le_of_ble_eq_true rfl) ⟨Nat.le_of_ble_eq_true rfl, Nat.le_of_ble_eq_true rfl⟩ rfl rfl dX5_addDrowned_74 (fun r14 u H locs h hw => ?_)
          obtain ⟨A_15, V_16⟩ := u
          refine W.widen (k := 1) (n := 6) (Nat.le_of_ble_eq_true rfl) (Nat.le_of_ble_eq_true rfl) ?_
          exact hret 77 _ _ (A_15, V_16, A2, V2) _ _ rfl dX5_addDrowned_77 h hw
        · have h := h.2 c13
          exact hthrow "java/lang/IllegalStateException" 44 48 (by decide) xwX5_addDrowned_48 89 "there are 16 drowned" (by decide) 54 _ (A, V, A2, V2) _ _ h hw hl.1 dX5_addDrowned_54 dX5_addDrowned_57 dX5_addDrowned_58 dX5_addDrowned_60 dX5_addDrowned_63
      · have h := h.2 c12
        exact hthrow "java/lang/IllegalArgumentException" 23 27 (by decide) xwX5_addDrowned_27 80 "height is not 0 to 99, n is not 0 to 5, or lag is not 1 to 60" (by decide) 29 _ (A, V, A2, V2) _ _ h hw hl.1 dX5_addDrowned_29 dX5_addDrowned_32 dX5_addDrowned_33 dX5_addDrowned_35 dX5_addDrowned_38
def wpX5_addDrowned (A : SA) (V : SV) (A2 : SA) (V2 : SV) (x1 : Int32) (x2 : Int32) (x3 : Int32) (Q : Int32 → SA → SV → SA → SV → Prop) (QX : String → SA → SV → SA → SV → Prop) : Prop := wb_X5_addDrowned_0 Q QX A V A2 V2 x1 x2 x3
set_option maxHeartbeats 4000000 in
set_option maxRecDepth 100000 in
theorem metX5_addDrowned (l : Launch) (hlt : l.stackTraces = false) (D : va_G) (cI cZ : ClassId) (xa : Nat) (ad ad2 : Nat → Nat) (sz : Nat) (A : SA) (V : SV) (A2 : SA) (V2 : SV) (x1 : Int32) (x2 : Int32) (x3 : Int32) (Q : Int32 → SA → SV → SA → SV → Prop) (QX : String → SA → SV → SA → SV → Prop) (h : wpX5_addDrowned A V A2 V2 x1 x2 x3 Q QX) : vx_Met l yX5_addDrowned wsX5_addDrowned rmX5_addDrowned (PcX D [(cI, .int), (cZ, .boolean)] (wD xa ad ad2 cI cZ A V A2 V2) sz [.ref xa, .int x1, .int x2, .int x3]) (QiW D [(cI, .int), (cZ, .boolean)] (wD xa ad ad2 cI cZ A V A2 V2) sz (fun u : SA × SV × SA × SV => (wD xa ad ad2 cI cZ u.1 u.2.1 u.2.2.1 u.2.2.2)) (fun r u => Q r u.1 u.2.1 u.2.2.1 u.2.2.2)) (XCW D [(cI, .int), (cZ, .boolean)] (wD xa ad ad2 cI cZ A V A2 V2) sz (fun u : SA × SV × SA × SV => (wD xa ad ad2 cI cZ u.1 u.2.1 u.2.2.1 u.2.2.2)) (fun E u => QX E u.1 u.2.1 u.2.2.1 u.2.2.2)) rmX5_addDrowned.cells rmX5_addDrowned.slots (va_A (wD xa ad ad2 cI cZ A V A2 V2) sz) := by
  refine startX hlt (by decide) rfl rfl (Nat.le_of_ble_eq_true rfl) (Nat.le_of_ble_eq_true rfl) (Nat.le_of_ble_eq_true rfl) (Nat.le_of_ble_eq_true rfl) (Nat.le_of_ble_eq_true rfl) ?_
  intro p e s m args below meth c A0 Z cx hw hret hthrow ls hl
  exact wk_X5_addDrowned_0 Q QX cx hret hthrow A V A2 V2 x1 x2 x3 h _ _ _ hw hl
abbrev rmX5_bring : Room := { frames := 6, cells := 1, slots := 6, locals := 100 }
theorem inX5_bring_X2 : ∀ w ∈ wsX20, w ∈ wsX5_bring := by decide +kernel
theorem inX5_bring_X3 : ∀ w ∈ wsX30, w ∈ wsX5_bring := by decide +kernel
theorem inX5_bring_X5 : ∀ w ∈ wsX50, w ∈ wsX5_bring := by decide +kernel
theorem xwX5_bring_27 : ∀ w ∈ Cond.classLink RX5 23 "java/lang/IllegalArgumentException" :: Cond.initialized "java/lang/IllegalArgumentException" :: (vx_atS RX5 27 "java/lang/IllegalArgumentException" xn).filter goodWord, w ∈ wsX5_bring := by decide +kernel
theorem xwX5_bring_48 : ∀ w ∈ Cond.classLink RX5 44 "java/lang/IllegalStateException" :: Cond.initialized "java/lang/IllegalStateException" :: (vx_atS RX5 48 "java/lang/IllegalStateException" xn).filter goodWord, w ∈ wsX5_bring := by decide +kernel
theorem xwX5_bring_102 : ∀ w ∈ Cond.classLink RX5 98 "java/lang/IndexOutOfBoundsException" :: Cond.initialized "java/lang/IndexOutOfBoundsException" :: (vx_atS RX5 102 "java/lang/IndexOutOfBoundsException" xn).filter goodWord, w ∈ wsX5_bring := by decide +kernel
theorem kX5_bring_10 : Cond.fieldLink RX5 10 "DrownedPost" "now" "LDrownedPost$Office;" ∈ wsX5_bring := by decide +kernel
theorem kX5_bring_105 : Cond.fieldLink RX5 105 "DrownedPost$Office" "letters" "LDrownedPost$Letters;" ∈ wsX5_bring := by decide +kernel
theorem kX5_bring_109 : Cond.fieldLink RX5 109 "DrownedPost$Letters" "count" "I" ∈ wsX5_bring := by decide +kernel
theorem kX5_bring_82 : Cond.fieldLink RX5 82 "DrownedPost$Office" "drowned" "LDrownedPost$Drowned;" ∈ wsX5_bring := by decide +kernel
def wb_X5_bring_0 (Q : Int32 → SA → SV → SA → SV → Prop) (QX : String → SA → SV → SA → SV → Prop) (A : SA) (V : SV) (A2 : SA) (V2 : SV) (x1 : Int32) (x2 : Int32) (x3 : Int32) : Prop := (wpX1_has A V x1 (fun r1 A_2 V_3 => ((¬ r1 = 0 → (wpX5_isWithin x2 (1 : Int32) (9 : Int32) (fun r5 => ((r5 = 0 → QX "java/lang/IllegalArgumentException" A_2 V_3 A2 V2) ∧ (¬ (r5 = 0) → (wpX5_isWithin x3 (1 : Int32) (60 : Int32) (fun r9 => ((¬ r9 = 0 → (((V_3 3) < (150 : Int32) → (wpX2_append A_2 V_3 x1 x2 x3 (fun r14 A_15 V_16 => Q r14 A_15 V_16 A2 V2))) ∧ (¬ ((V_3 3) < (150 : Int32)) → QX "java/lang/IllegalStateException" A_2 V_3 A2 V2))) ∧ (r9 = 0 → QX "java/lang/IllegalArgumentException" A_2 V_3 A2 V2))))))))) ∧ (r1 = 0 → QX "java/lang/IndexOutOfBoundsException" A_2 V_3 A2 V2))))
set_option maxHeartbeats 4000000 in
set_option maxRecDepth 100000 in
theorem wk_X5_bring_0 (Q : Int32 → SA → SV → SA → SV → Prop) (QX : String → SA → SV → SA → SV → Prop) (cx : CX RX5 cX5_bring 4 wsX5_bring D [(cI, .int), (cZ, .boolean)] p s m args c A0) (hret : ∀ (pc : Nat) (ls : Array Slot) (r : Int32) (u : SA × SV × SA × SV) (H : Heap) (locs : List Loc), narrow .int (.int r) = .int r → decode cX5_bring pc = .ok (.ireturn, 1) → Q r u.1 u.2.1 u.2.2.1 u.2.2.2 → WS D s A0 (wD xa ad ad2 cI cZ u.1 u.2.1 u.2.2.1 u.2.2.2) H locs → W p l e rmX5_bring s m args below meth c H locs rmX5_bring.cells rmX5_bring.slots Z (F0 m pc ls [.int r])) (hthrow : ∀ (cls : String) (ik ic : Nat), (cls, ik, ic) ∈ XK → (∀ w ∈ Cond.classLink RX5 ik cls :: Cond.initialized cls :: (vx_atS RX5 ic cls xn).filter goodWord, w ∈ wsX5_bring) → ∀ (is : Nat) (text : String), (is, text) ∈ STRS → ∀ (pc : Nat) (ls : Array Slot) (u : SA × SV × SA × SV) (H : Heap) (locs : List Loc), QX cls u.1 u.2.1 u.2.2.1 u.2.2.2 → WS D s A0 (wD xa ad ad2 cI cZ u.1 u.2.1 u.2.2.1 u.2.2.2) H locs → ls.size = 4 → decode cX5_bring pc = .ok (.new ik, 3) → decode cX5_bring (pc + 3) = .ok (.dup, 1) → decode cX5_bring (pc + 4) = .ok (.ldc is, 2) → decode cX5_bring (pc + 6) = .ok (.invokespecial ic, 3) → decode cX5_bring (pc + 9) = .ok (.athrow, 1) → W p l e rmX5_bring s m args below meth c H locs 0 0 Z (F0 m pc ls []))  : ∀ (A : SA) (V : SV) (A2 : SA) (V2 : SV) (x1 : Int32) (x2 : Int32) (x3 : Int32) (h : wb_X5_bring_0 Q QX A V A2 V2 x1 x2 x3) (H : Heap) (locs : List Loc) (ls : Array Slot) (hw : WS D s A0 (wD xa ad ad2 cI cZ A V A2 V2) H locs) (hl : lv_has ls 4 [(0, .ref xa), (1, .int x1), (2, .int x2), (3, .int x3)]), W p l e rmX5_bring s m args below meth c H locs 0 0 Z (F0 m 0 ls []) := by
  obtain ⟨hx, hb, hml, hown, hts, hK, hA⟩ := id cx
  intro A V A2 V2 x1 x2 x3 h H locs ls hw hl
  refine lv_aload_n (pc := 0) hx hb dX5_bring_0 rfl (lv_at hl 0 rfl) ?_
  refine geDX_0 (pc := 1) cx inX5_bring_X5 kX5_bring_10 hw dX5_bring_1 ?_
  refine geD0_X3_2 (pc := 4) cx inX5_bring_X3 kX5_bring_82 hw dX5_bring_4 ?_
  refine lv_iload_n (pc := 7) hx hb dX5_bring_7 rfl (lv_at hl 1 rfl) ?_
  refine callVi (pc := 8) (rest := []) (c1 := 0) (s1 := 0) cx hw hl (metX1_has l D cI cZ ad H.size A V x1 _ h) (fun hts => cwV 1 hts gX5_bring_X1_has rfl rfl rfl (by decide +kernel) ⟨Nat.le_of_ble_eq_true rfl, Nat.le_of_ble_eq_true rfl⟩) subD0 [0, 1] rfl 3 (ci := 1) rfl rfl rfl (jnD0) rfl rfl (Nat.le_of_ble_eq_true rfl) ⟨Nat.le_of_ble_eq_true rfl, Nat.le_of_ble_eq_true rfl⟩ rfl rfl dX5_bring_8 (fun r1 u H locs h hw => ?_)
  obtain ⟨A_2, V_3⟩ := u
  refine lv_if_ne (pc := 11) (tgt := 24) hx hb dX5_bring_11 (by decide) (fun c4 => ?_) (fun c4 => ?_)
  · have h := h.1 c4
    refine lv_iload_n (pc := 24) hx hb dX5_bring_24 rfl (lv_at hl 2 rfl) ?_
    refine lv_iconst (pc := 25) (v := (1 : Int32)) hx hb dX5_bring_25 (by decide) ?_
    refine lv_bipush (pc := 26) (v := (9 : Int32)) hx hb dX5_bring_26 (by decide) ?_
    refine callSi (pc := 28) (rest := []) (c1 := 0) (s1 := 0) cx hw hl (metX5_isWithin l D [] H.size x2 (1 : Int32) (9 : Int32) _ h) (fun hts => va_cwS 3 hts gX5_bring_X5_isWithin rfl rfl rfl (by decide +kernel) ⟨Nat.le_of_ble_eq_true rfl, Nat.le_of_ble_eq_true rfl⟩) SUB.nil [] rfl (JN.nil (S := Unit)) rfl rfl (Nat.le_of_ble_eq_true rfl) ⟨Nat.le_of_ble_eq_true rfl, Nat.le_of_ble_eq_true rfl⟩ rfl rfl dX5_bring_28 (fun r5 u H locs h hw => ?_)
    refine lv_if_eq (pc := 31) (tgt := 44) hx hb dX5_bring_31 (by decide) (fun c8 => ?_) (fun c8 => ?_)
    · have h := h.1 c8
      exact hthrow "java/lang/IllegalArgumentException" 23 27 (by decide) xwX5_bring_27 103 "weight is not 1 to 9, or seal is not 1 to 60" (by decide) 44 _ (A_2, V_3, A2, V2) _ _ h hw hl.1 dX5_bring_44 dX5_bring_47 dX5_bring_48 dX5_bring_50 dX5_bring_53
    · have h := h.2 c8
      refine lv_iload_n (pc := 34) hx hb dX5_bring_34 rfl (lv_at hl 3 rfl) ?_
      refine lv_iconst (pc := 35) (v := (1 : Int32)) hx hb dX5_bring_35 (by decide) ?_
      refine lv_bipush (pc := 36) (v := (60 : Int32)) hx hb dX5_bring_36 (by decide) ?_
      refine callSi (pc := 38) (rest := []) (c1 := 0) (s1 := 0) cx hw hl (metX5_isWithin l D [] H.size x3 (1 : Int32) (60 : Int32) _ h) (fun hts => va_cwS 3 hts gX5_bring_X5_isWithin rfl rfl rfl (by decide +kernel) ⟨Nat.le_of_ble_eq_true rfl, Nat.le_of_ble_eq_true rfl⟩) SUB.nil [] rfl (JN.nil (S := Unit)) rfl rfl (Nat.le_of_ble_eq_true rfl) ⟨Nat.le_of_ble_eq_true rfl, Nat.le_of_ble_eq_true rfl⟩ rfl rfl dX5_bring_38 (fun r9 u H locs h hw => ?_)
      refine lv_if_ne (pc := 41) (tgt := 54) hx hb dX5_bring_41 (by decide) (fun c12 => ?_) (fun c12 => ?_)
      · have h := h.1 c12
        refine lv_aload_n (pc := 54) hx hb dX5_bring_54 rfl (lv_at hl 0 rfl) ?_
        refine geDX_0 (pc := 55) cx inX5_bring_X5 kX5_bring_10 hw dX5_bring_55 ?_
        refine geD0_X3_3 (pc := 58) cx inX5_bring_X3 kX5_bring_105 hw dX5_bring_58 ?_
        refine geD0_X2_9 (pc := 61) cx inX5_bring_X2 kX5_bring_109 hw dX5_bring_61 ?_
        refine lv_sipush (pc := 64) (v := (150 : Int32)) hx hb dX5_bring_64 (by decide) ?_
        refine lv_icmp_lt (pc := 67) (tgt := 80) hx hb dX5_bring_67 (by decide) (fun c13 => ?_) (fun c13 => ?_)
        · have h := h.1 c13
          refine lv_aload_n (pc := 80) hx hb dX5_bring_80 rfl (lv_at hl 0 rfl) ?_
          refine geDX_0 (pc := 81) cx inX5_bring_X5 kX5_bring_10 hw dX5_bring_81 ?_
          refine geD0_X3_3 (pc := 84) cx inX5_bring_X3 kX5_bring_105 hw dX5_bring_84 ?_
          refine lv_iload_n (pc := 87) hx hb dX5_bring_87 rfl (lv_at hl 1 rfl) ?_
          refine lv_iload_n (pc := 88) hx hb dX5_bring_88 rfl (lv_at hl 2 rfl) ?_
          refine lv_iload_n (pc := 89) hx hb dX5_bring_89 rfl (lv_at hl 3 rfl) ?_
          refine callVi (pc := 90) (rest := []) (c1 := 0) (s1 := 0) cx hw hl (metX2_append l D cI cZ ad H.size A_2 V_3 x1 x2 x3 _ h) (fun hts => cwV 3 hts gX5_bring_X2_append rfl rfl rfl (by decide +kernel) ⟨Nat.le_of_ble_eq_true rfl, Nat.le_of_ble_eq_true rfl⟩) subD0 [0, 1] rfl 4 (ci := 2) rfl rfl rfl (jnD0) rfl rfl (Nat.le_of_ble_eq_true rfl) ⟨Nat.le_of_ble_eq_true rfl, Nat.le_of_ble_eq_true rfl⟩ rfl rfl dX5_bring_90 (fun r14 u H locs h hw => ?_)
          obtain ⟨A_15, V_16⟩ := u
          refine W.widen (k := 1) (n := 6) (Nat.le_of_ble_eq_true rfl) (Nat.le_of_ble_eq_true rfl) ?_
          exact hret 93 _ _ (A_15, V_16, A2, V2) _ _ rfl dX5_bring_93 h hw
        · have h := h.2 c13
          exact hthrow "java/lang/IllegalStateException" 44 48 (by decide) xwX5_bring_48 112 "there are 150 letters" (by decide) 70 _ (A_2, V_3, A2, V2) _ _ h hw hl.1 dX5_bring_70 dX5_bring_73 dX5_bring_74 dX5_bring_76 dX5_bring_79
      · have h := h.2 c12
        exact hthrow "java/lang/IllegalArgumentException" 23 27 (by decide) xwX5_bring_27 103 "weight is not 1 to 9, or seal is not 1 to 60" (by decide) 44 _ (A_2, V_3, A2, V2) _ _ h hw hl.1 dX5_bring_44 dX5_bring_47 dX5_bring_48 dX5_bring_50 dX5_bring_53
  · have h := h.2 c4
    exact hthrow "java/lang/IndexOutOfBoundsException" 98 102 (by decide) xwX5_bring_102 100 "no such one of the drowned" (by decide) 14 _ (A_2, V_3, A2, V2) _ _ h hw hl.1 dX5_bring_14 dX5_bring_17 dX5_bring_18 dX5_bring_20 dX5_bring_23
def wpX5_bring (A : SA) (V : SV) (A2 : SA) (V2 : SV) (x1 : Int32) (x2 : Int32) (x3 : Int32) (Q : Int32 → SA → SV → SA → SV → Prop) (QX : String → SA → SV → SA → SV → Prop) : Prop := wb_X5_bring_0 Q QX A V A2 V2 x1 x2 x3
set_option maxHeartbeats 4000000 in
set_option maxRecDepth 100000 in
theorem metX5_bring (l : Launch) (hlt : l.stackTraces = false) (D : va_G) (cI cZ : ClassId) (xa : Nat) (ad ad2 : Nat → Nat) (sz : Nat) (A : SA) (V : SV) (A2 : SA) (V2 : SV) (x1 : Int32) (x2 : Int32) (x3 : Int32) (Q : Int32 → SA → SV → SA → SV → Prop) (QX : String → SA → SV → SA → SV → Prop) (h : wpX5_bring A V A2 V2 x1 x2 x3 Q QX) : vx_Met l yX5_bring wsX5_bring rmX5_bring (PcX D [(cI, .int), (cZ, .boolean)] (wD xa ad ad2 cI cZ A V A2 V2) sz [.ref xa, .int x1, .int x2, .int x3]) (QiW D [(cI, .int), (cZ, .boolean)] (wD xa ad ad2 cI cZ A V A2 V2) sz (fun u : SA × SV × SA × SV => (wD xa ad ad2 cI cZ u.1 u.2.1 u.2.2.1 u.2.2.2)) (fun r u => Q r u.1 u.2.1 u.2.2.1 u.2.2.2)) (XCW D [(cI, .int), (cZ, .boolean)] (wD xa ad ad2 cI cZ A V A2 V2) sz (fun u : SA × SV × SA × SV => (wD xa ad ad2 cI cZ u.1 u.2.1 u.2.2.1 u.2.2.2)) (fun E u => QX E u.1 u.2.1 u.2.2.1 u.2.2.2)) rmX5_bring.cells rmX5_bring.slots (va_A (wD xa ad ad2 cI cZ A V A2 V2) sz) := by
  refine startX hlt (by decide) rfl rfl (Nat.le_of_ble_eq_true rfl) (Nat.le_of_ble_eq_true rfl) (Nat.le_of_ble_eq_true rfl) (Nat.le_of_ble_eq_true rfl) (Nat.le_of_ble_eq_true rfl) ?_
  intro p e s m args below meth c A0 Z cx hw hret hthrow ls hl
  exact wk_X5_bring_0 Q QX cx hret hthrow A V A2 V2 x1 x2 x3 h _ _ _ hw hl
abbrev rmX5_takeOut : Room := { frames := 6, cells := 1, slots := 6, locals := 100 }
theorem inX5_takeOut_X2 : ∀ w ∈ wsX20, w ∈ wsX5_takeOut := by decide +kernel
theorem inX5_takeOut_X3 : ∀ w ∈ wsX30, w ∈ wsX5_takeOut := by decide +kernel
theorem inX5_takeOut_X5 : ∀ w ∈ wsX50, w ∈ wsX5_takeOut := by decide +kernel
theorem xwX5_takeOut_48 : ∀ w ∈ Cond.classLink RX5 44 "java/lang/IllegalStateException" :: Cond.initialized "java/lang/IllegalStateException" :: (vx_atS RX5 48 "java/lang/IllegalStateException" xn).filter goodWord, w ∈ wsX5_takeOut := by decide +kernel
theorem xwX5_takeOut_102 : ∀ w ∈ Cond.classLink RX5 98 "java/lang/IndexOutOfBoundsException" :: Cond.initialized "java/lang/IndexOutOfBoundsException" :: (vx_atS RX5 102 "java/lang/IndexOutOfBoundsException" xn).filter goodWord, w ∈ wsX5_takeOut := by decide +kernel
theorem kX5_takeOut_10 : Cond.fieldLink RX5 10 "DrownedPost" "now" "LDrownedPost$Office;" ∈ wsX5_takeOut := by decide +kernel
theorem kX5_takeOut_105 : Cond.fieldLink RX5 105 "DrownedPost$Office" "letters" "LDrownedPost$Letters;" ∈ wsX5_takeOut := by decide +kernel
theorem kX5_takeOut_118 : Cond.fieldLink RX5 118 "DrownedPost$Letters" "bin" "[I" ∈ wsX5_takeOut := by decide +kernel
theorem kX5_takeOut_60 : Cond.fieldLink RX5 60 "DrownedPost$Office" "bins" "LDrownedPost$Bins;" ∈ wsX5_takeOut := by decide +kernel
def wb_X5_takeOut_0 (Q : Int32 → SA → SV → SA → SV → Prop) (QX : String → SA → SV → SA → SV → Prop) (A : SA) (V : SV) (A2 : SA) (V2 : SV) (x1 : Int32) : Prop := (wpX2_has A V x1 (fun r1 A_2 V_3 => ((¬ r1 = 0 → (vp_in x1 150 ∧ (wpX0_has A_2 V_3 (A_2 14 x1.toNatClampNeg) (fun r5 A_6 V_7 => ((¬ r5 = 0 → (wpX3_tideNow A_6 V_7 (fun r9 A_10 V_11 => (wpX0_isUnder A_10 V_11 (A_2 14 x1.toNatClampNeg) r9 (fun r12 A_13 V_14 => ((r12 = 0 → (wpX3_leaveBin A_13 V_14 x1 (0 : Int32) (fun A_17 V_18 => Q (A_2 14 x1.toNatClampNeg) A_17 V_18 A2 V2))) ∧ (¬ (r12 = 0) → QX "java/lang/IllegalStateException" A_13 V_14 A2 V2))))))) ∧ (r5 = 0 → QX "java/lang/IllegalStateException" A_6 V_7 A2 V2)))))) ∧ (r1 = 0 → QX "java/lang/IndexOutOfBoundsException" A_2 V_3 A2 V2))))
set_option maxHeartbeats 4000000 in
set_option maxRecDepth 100000 in
theorem wk_X5_takeOut_0 (Q : Int32 → SA → SV → SA → SV → Prop) (QX : String → SA → SV → SA → SV → Prop) (cx : CX RX5 cX5_takeOut 3 wsX5_takeOut D [(cI, .int), (cZ, .boolean)] p s m args c A0) (hret : ∀ (pc : Nat) (ls : Array Slot) (r : Int32) (u : SA × SV × SA × SV) (H : Heap) (locs : List Loc), narrow .int (.int r) = .int r → decode cX5_takeOut pc = .ok (.ireturn, 1) → Q r u.1 u.2.1 u.2.2.1 u.2.2.2 → WS D s A0 (wD xa ad ad2 cI cZ u.1 u.2.1 u.2.2.1 u.2.2.2) H locs → W p l e rmX5_takeOut s m args below meth c H locs rmX5_takeOut.cells rmX5_takeOut.slots Z (F0 m pc ls [.int r])) (hthrow : ∀ (cls : String) (ik ic : Nat), (cls, ik, ic) ∈ XK → (∀ w ∈ Cond.classLink RX5 ik cls :: Cond.initialized cls :: (vx_atS RX5 ic cls xn).filter goodWord, w ∈ wsX5_takeOut) → ∀ (is : Nat) (text : String), (is, text) ∈ STRS → ∀ (pc : Nat) (ls : Array Slot) (u : SA × SV × SA × SV) (H : Heap) (locs : List Loc), QX cls u.1 u.2.1 u.2.2.1 u.2.2.2 → WS D s A0 (wD xa ad ad2 cI cZ u.1 u.2.1 u.2.2.1 u.2.2.2) H locs → ls.size = 3 → decode cX5_takeOut pc = .ok (.new ik, 3) → decode cX5_takeOut (pc + 3) = .ok (.dup, 1) → decode cX5_takeOut (pc + 4) = .ok (.ldc is, 2) → decode cX5_takeOut (pc + 6) = .ok (.invokespecial ic, 3) → decode cX5_takeOut (pc + 9) = .ok (.athrow, 1) → W p l e rmX5_takeOut s m args below meth c H locs 0 0 Z (F0 m pc ls []))  : ∀ (A : SA) (V : SV) (A2 : SA) (V2 : SV) (x1 : Int32) (h : wb_X5_takeOut_0 Q QX A V A2 V2 x1) (H : Heap) (locs : List Loc) (ls : Array Slot) (hw : WS D s A0 (wD xa ad ad2 cI cZ A V A2 V2) H locs) (hl : lv_has ls 3 [(0, .ref xa), (1, .int x1)]), W p l e rmX5_takeOut s m args below meth c H locs 0 0 Z (F0 m 0 ls []) := by
  obtain ⟨hx, hb, hml, hown, hts, hK, hA⟩ := id cx
  intro A V A2 V2 x1 h H locs ls hw hl
  refine lv_aload_n (pc := 0) hx hb dX5_takeOut_0 rfl (lv_at hl 0 rfl) ?_
  refine geDX_0 (pc := 1) cx inX5_takeOut_X5 kX5_takeOut_10 hw dX5_takeOut_1 ?_
  refine geD0_X3_3 (pc := 4) cx inX5_takeOut_X3 kX5_takeOut_105 hw dX5_takeOut_4 ?_
  refine lv_iload_n (pc := 7) hx hb dX5_takeOut_7 rfl (lv_at hl 1 rfl) ?_
  refine callVi (pc := 8) (rest := []) (c1 := 0) (s1 := 0) cx hw hl (metX2_has l D cI cZ ad H.size A V x1 _ h) (fun hts => cwV 1 hts gX5_takeOut_X2_has rfl rfl rfl (by decide +kernel) ⟨Nat.le_of_ble_eq_true rfl, Nat.le_of_ble_eq_true rfl⟩) subD0 [0, 1] rfl 4 (ci := 2) rfl rfl rfl (jnD0) rfl rfl (Nat.le_of_ble_eq_true rfl) ⟨Nat.le_of_ble_eq_true rfl, Nat.le_of_ble_eq_true rfl⟩ rfl rfl dX5_takeOut_8 (fun r1 u H locs h hw => ?_)
  obtain ⟨A_2, V_3⟩ := u
  refine lv_if_ne (pc := 11) (tgt := 24) hx hb dX5_takeOut_11 (by decide) (fun c4 => ?_) (fun c4 => ?_)
  · have h := h.1 c4
    refine lv_aload_n (pc := 24) hx hb dX5_takeOut_24 rfl (lv_at hl 0 rfl) ?_
    refine geDX_0 (pc := 25) cx inX5_takeOut_X5 kX5_takeOut_10 hw dX5_takeOut_25 ?_
    refine geD0_X3_3 (pc := 28) cx inX5_takeOut_X3 kX5_takeOut_105 hw dX5_takeOut_28 ?_
    refine geD0_X2_5 (pc := 31) cx inX5_takeOut_X2 kX5_takeOut_118 hw dX5_takeOut_31 ?_
    refine lv_iload_n (pc := 34) hx hb dX5_takeOut_34 rfl (lv_at hl 1 rfl) ?_
    refine alD0_14 (pc := 35) cx hw h.1 dX5_takeOut_35 ?_
    have h := h.2
    refine lv_istore_n (pc := 36) (lv' := [(2, .int (A_2 14 x1.toNatClampNeg)), (0, .ref xa), (1, .int x1)]) hx hb dX5_takeOut_36 rfl hl (by decide) rfl (fun ls hl => ?_)
    refine lv_aload_n (pc := 37) hx hb dX5_takeOut_37 rfl (lv_at hl 1 rfl) ?_
    refine geDX_0 (pc := 38) cx inX5_takeOut_X5 kX5_takeOut_10 hw dX5_takeOut_38 ?_
    refine geD0_X3_1 (pc := 41) cx inX5_takeOut_X3 kX5_takeOut_60 hw dX5_takeOut_41 ?_
    refine lv_iload_n (pc := 44) hx hb dX5_takeOut_44 rfl (lv_at hl 0 rfl) ?_
    refine callVi (pc := 45) (rest := []) (c1 := 0) (s1 := 0) cx hw hl (metX0_has l D cI cZ ad H.size A_2 V_3 (A_2 14 x1.toNatClampNeg) _ h) (fun hts => cwV 1 hts gX5_takeOut_X0_has rfl rfl rfl (by decide +kernel) ⟨Nat.le_of_ble_eq_true rfl, Nat.le_of_ble_eq_true rfl⟩) subD0 [0, 1] rfl 2 (ci := 0) rfl rfl rfl (jnD0) rfl rfl (Nat.le_of_ble_eq_true rfl) ⟨Nat.le_of_ble_eq_true rfl, Nat.le_of_ble_eq_true rfl⟩ rfl rfl dX5_takeOut_45 (fun r5 u H locs h hw => ?_)
    obtain ⟨A_6, V_7⟩ := u
    refine lv_if_ne (pc := 48) (tgt := 61) hx hb dX5_takeOut_48 (by decide) (fun c8 => ?_) (fun c8 => ?_)
    · have h := h.1 c8
      refine lv_aload_n (pc := 61) hx hb dX5_takeOut_61 rfl (lv_at hl 1 rfl) ?_
      refine geDX_0 (pc := 62) cx inX5_takeOut_X5 kX5_takeOut_10 hw dX5_takeOut_62 ?_
      refine geD0_X3_1 (pc := 65) cx inX5_takeOut_X3 kX5_takeOut_60 hw dX5_takeOut_65 ?_
      refine lv_iload_n (pc := 68) hx hb dX5_takeOut_68 rfl (lv_at hl 0 rfl) ?_
      refine lv_aload_n (pc := 69) hx hb dX5_takeOut_69 rfl (lv_at hl 1 rfl) ?_
      refine geDX_0 (pc := 70) cx inX5_takeOut_X5 kX5_takeOut_10 hw dX5_takeOut_70 ?_
      refine callVi (pc := 73) (rest := [.int (A_2 14 x1.toNatClampNeg), .ref (ad 2)]) (c1 := 0) (s1 := 0) cx hw hl (metX3_tideNow l D cI cZ ad H.size A_6 V_7 _ h) (fun hts => cwV 0 hts gX5_takeOut_X3_tideNow rfl rfl rfl (by decide +kernel) ⟨Nat.le_of_ble_eq_true rfl, Nat.le_of_ble_eq_true rfl⟩) subD0 [0, 1] rfl 0 (ci := 3) rfl rfl rfl (jnD0) rfl rfl (Nat.le_of_ble_eq_true rfl) ⟨Nat.le_of_ble_eq_true rfl, Nat.le_of_ble_eq_true rfl⟩ rfl rfl dX5_takeOut_73 (fun r9 u H locs h hw => ?_)
      obtain ⟨A_10, V_11⟩ := u
      refine callVi (pc := 76) (rest := []) (c1 := 0) (s1 := 0) cx hw hl (metX0_isUnder l D cI cZ ad H.size A_10 V_11 (A_2 14 x1.toNatClampNeg) r9 _ h) (fun hts => cwV 2 hts gX5_takeOut_X0_isUnder rfl rfl rfl (by decide +kernel) ⟨Nat.le_of_ble_eq_true rfl, Nat.le_of_ble_eq_true rfl⟩) subD0 [0, 1] rfl 2 (ci := 0) rfl rfl rfl (jnD0) rfl rfl (Nat.le_of_ble_eq_true rfl) ⟨Nat.le_of_ble_eq_true rfl, Nat.le_of_ble_eq_true rfl⟩ rfl rfl dX5_takeOut_76 (fun r12 u H locs h hw => ?_)
      obtain ⟨A_13, V_14⟩ := u
      refine lv_if_eq (pc := 79) (tgt := 92) hx hb dX5_takeOut_79 (by decide) (fun c15 => ?_) (fun c15 => ?_)
      · have h := h.1 c15
        refine lv_aload_n (pc := 92) hx hb dX5_takeOut_92 rfl (lv_at hl 1 rfl) ?_
        refine geDX_0 (pc := 93) cx inX5_takeOut_X5 kX5_takeOut_10 hw dX5_takeOut_93 ?_
        refine lv_iload_n (pc := 96) hx hb dX5_takeOut_96 rfl (lv_at hl 2 rfl) ?_
        refine lv_iconst (pc := 97) (v := (0 : Int32)) hx hb dX5_takeOut_97 (by decide) ?_
        refine callVv (pc := 98) (rest := []) (c1 := 0) (s1 := 0) cx hw hl (metX3_leaveBin l D cI cZ ad H.size A_13 V_14 x1 (0 : Int32) _ h) (fun hts => cwV 2 hts gX5_takeOut_X3_leaveBin rfl rfl rfl (by decide +kernel) ⟨Nat.le_of_ble_eq_true rfl, Nat.le_of_ble_eq_true rfl⟩) subD0 [0, 1] rfl 0 (ci := 3) rfl rfl rfl (jnD0) rfl rfl (Nat.le_of_ble_eq_true rfl) ⟨Nat.le_of_ble_eq_true rfl, Nat.le_of_ble_eq_true rfl⟩ rfl rfl dX5_takeOut_98 (fun u H locs h hw => ?_)
        obtain ⟨A_17, V_18⟩ := u
        refine lv_iload_n (pc := 101) hx hb dX5_takeOut_101 rfl (lv_at hl 0 rfl) ?_
        refine W.widen (k := 1) (n := 6) (Nat.le_of_ble_eq_true rfl) (Nat.le_of_ble_eq_true rfl) ?_
        exact hret 102 _ _ (A_17, V_18, A2, V2) _ _ rfl dX5_takeOut_102 h hw
      · have h := h.2 c15
        exact hthrow "java/lang/IllegalStateException" 44 48 (by decide) xwX5_takeOut_48 133 "the bin is under water" (by decide) 82 _ (A_13, V_14, A2, V2) _ _ h hw hl.1 dX5_takeOut_82 dX5_takeOut_85 dX5_takeOut_86 dX5_takeOut_88 dX5_takeOut_91
    · have h := h.2 c8
      exact hthrow "java/lang/IllegalStateException" 44 48 (by decide) xwX5_takeOut_48 123 "the letter is in no bin" (by decide) 51 _ (A_6, V_7, A2, V2) _ _ h hw hl.1 dX5_takeOut_51 dX5_takeOut_54 dX5_takeOut_55 dX5_takeOut_57 dX5_takeOut_60
  · have h := h.2 c4
    exact hthrow "java/lang/IndexOutOfBoundsException" 98 102 (by decide) xwX5_takeOut_102 116 "no such letter" (by decide) 14 _ (A_2, V_3, A2, V2) _ _ h hw hl.1 dX5_takeOut_14 dX5_takeOut_17 dX5_takeOut_18 dX5_takeOut_20 dX5_takeOut_23
def wpX5_takeOut (A : SA) (V : SV) (A2 : SA) (V2 : SV) (x1 : Int32) (Q : Int32 → SA → SV → SA → SV → Prop) (QX : String → SA → SV → SA → SV → Prop) : Prop := wb_X5_takeOut_0 Q QX A V A2 V2 x1
set_option maxHeartbeats 4000000 in
set_option maxRecDepth 100000 in
theorem metX5_takeOut (l : Launch) (hlt : l.stackTraces = false) (D : va_G) (cI cZ : ClassId) (xa : Nat) (ad ad2 : Nat → Nat) (sz : Nat) (A : SA) (V : SV) (A2 : SA) (V2 : SV) (x1 : Int32) (Q : Int32 → SA → SV → SA → SV → Prop) (QX : String → SA → SV → SA → SV → Prop) (h : wpX5_takeOut A V A2 V2 x1 Q QX) : vx_Met l yX5_takeOut wsX5_takeOut rmX5_takeOut (PcX D [(cI, .int), (cZ, .boolean)] (wD xa ad ad2 cI cZ A V A2 V2) sz [.ref xa, .int x1]) (QiW D [(cI, .int), (cZ, .boolean)] (wD xa ad ad2 cI cZ A V A2 V2) sz (fun u : SA × SV × SA × SV => (wD xa ad ad2 cI cZ u.1 u.2.1 u.2.2.1 u.2.2.2)) (fun r u => Q r u.1 u.2.1 u.2.2.1 u.2.2.2)) (XCW D [(cI, .int), (cZ, .boolean)] (wD xa ad ad2 cI cZ A V A2 V2) sz (fun u : SA × SV × SA × SV => (wD xa ad ad2 cI cZ u.1 u.2.1 u.2.2.1 u.2.2.2)) (fun E u => QX E u.1 u.2.1 u.2.2.1 u.2.2.2)) rmX5_takeOut.cells rmX5_takeOut.slots (va_A (wD xa ad ad2 cI cZ A V A2 V2) sz) := by
  refine startX hlt (by decide) rfl rfl (Nat.le_of_ble_eq_true rfl) (Nat.le_of_ble_eq_true rfl) (Nat.le_of_ble_eq_true rfl) (Nat.le_of_ble_eq_true rfl) (Nat.le_of_ble_eq_true rfl) ?_
  intro p e s m args below meth c A0 Z cx hw hret hthrow ls hl
  exact wk_X5_takeOut_0 Q QX cx hret hthrow A V A2 V2 x1 h _ _ _ hw hl
abbrev rmX5_letter : Room := { frames := 6, cells := 1, slots := 6, locals := 100 }
theorem inX5_letter_X3 : ∀ w ∈ wsX30, w ∈ wsX5_letter := by decide +kernel
theorem inX5_letter_X5 : ∀ w ∈ wsX50, w ∈ wsX5_letter := by decide +kernel
theorem xwX5_letter_102 : ∀ w ∈ Cond.classLink RX5 98 "java/lang/IndexOutOfBoundsException" :: Cond.initialized "java/lang/IndexOutOfBoundsException" :: (vx_atS RX5 102 "java/lang/IndexOutOfBoundsException" xn).filter goodWord, w ∈ wsX5_letter := by decide +kernel
theorem kX5_letter_10 : Cond.fieldLink RX5 10 "DrownedPost" "now" "LDrownedPost$Office;" ∈ wsX5_letter := by decide +kernel
theorem kX5_letter_105 : Cond.fieldLink RX5 105 "DrownedPost$Office" "letters" "LDrownedPost$Letters;" ∈ wsX5_letter := by decide +kernel
def wb_X5_letter_0 (Q : Int32 → SA → SV → SA → SV → Prop) (QX : String → SA → SV → SA → SV → Prop) (A : SA) (V : SV) (A2 : SA) (V2 : SV) (x1 : Int32) (x2 : Int32) : Prop := (wpX2_has A V x1 (fun r1 A_2 V_3 => ((r1 = 0 → QX "java/lang/IndexOutOfBoundsException" A_2 V_3 A2 V2) ∧ (¬ (r1 = 0) → (wpX5_isWithin x2 (0 : Int32) (8 : Int32) (fun r5 => ((¬ r5 = 0 → (wpX2_fact A_2 V_3 x1 x2 (fun r9 A_10 V_11 => Q r9 A_10 V_11 A2 V2))) ∧ (r5 = 0 → QX "java/lang/IndexOutOfBoundsException" A_2 V_3 A2 V2))))))))
set_option maxHeartbeats 4000000 in
set_option maxRecDepth 100000 in
theorem wk_X5_letter_0 (Q : Int32 → SA → SV → SA → SV → Prop) (QX : String → SA → SV → SA → SV → Prop) (cx : CX RX5 cX5_letter 3 wsX5_letter D [(cI, .int), (cZ, .boolean)] p s m args c A0) (hret : ∀ (pc : Nat) (ls : Array Slot) (r : Int32) (u : SA × SV × SA × SV) (H : Heap) (locs : List Loc), narrow .int (.int r) = .int r → decode cX5_letter pc = .ok (.ireturn, 1) → Q r u.1 u.2.1 u.2.2.1 u.2.2.2 → WS D s A0 (wD xa ad ad2 cI cZ u.1 u.2.1 u.2.2.1 u.2.2.2) H locs → W p l e rmX5_letter s m args below meth c H locs rmX5_letter.cells rmX5_letter.slots Z (F0 m pc ls [.int r])) (hthrow : ∀ (cls : String) (ik ic : Nat), (cls, ik, ic) ∈ XK → (∀ w ∈ Cond.classLink RX5 ik cls :: Cond.initialized cls :: (vx_atS RX5 ic cls xn).filter goodWord, w ∈ wsX5_letter) → ∀ (is : Nat) (text : String), (is, text) ∈ STRS → ∀ (pc : Nat) (ls : Array Slot) (u : SA × SV × SA × SV) (H : Heap) (locs : List Loc), QX cls u.1 u.2.1 u.2.2.1 u.2.2.2 → WS D s A0 (wD xa ad ad2 cI cZ u.1 u.2.1 u.2.2.1 u.2.2.2) H locs → ls.size = 3 → decode cX5_letter pc = .ok (.new ik, 3) → decode cX5_letter (pc + 3) = .ok (.dup, 1) → decode cX5_letter (pc + 4) = .ok (.ldc is, 2) → decode cX5_letter (pc + 6) = .ok (.invokespecial ic, 3) → decode cX5_letter (pc + 9) = .ok (.athrow, 1) → W p l e rmX5_letter s m args below meth c H locs 0 0 Z (F0 m pc ls []))  : ∀ (A : SA) (V : SV) (A2 : SA) (V2 : SV) (x1 : Int32) (x2 : Int32) (h : wb_X5_letter_0 Q QX A V A2 V2 x1 x2) (H : Heap) (locs : List Loc) (ls : Array Slot) (hw : WS D s A0 (wD xa ad ad2 cI cZ A V A2 V2) H locs) (hl : lv_has ls 3 [(0, .ref xa), (1, .int x1), (2, .int x2)]), W p l e rmX5_letter s m args below meth c H locs 0 0 Z (F0 m 0 ls []) := by
  obtain ⟨hx, hb, hml, hown, hts, hK, hA⟩ := id cx
  intro A V A2 V2 x1 x2 h H locs ls hw hl
  refine lv_aload_n (pc := 0) hx hb dX5_letter_0 rfl (lv_at hl 0 rfl) ?_
  refine geDX_0 (pc := 1) cx inX5_letter_X5 kX5_letter_10 hw dX5_letter_1 ?_
  refine geD0_X3_3 (pc := 4) cx inX5_letter_X3 kX5_letter_105 hw dX5_letter_4 ?_
  refine lv_iload_n (pc := 7) hx hb dX5_letter_7 rfl (lv_at hl 1 rfl) ?_
  refine callVi (pc := 8) (rest := []) (c1 := 0) (s1 := 0) cx hw hl (metX2_has l D cI cZ ad H.size A V x1 _ h) (fun hts => cwV 1 hts gX5_letter_X2_has rfl rfl rfl (by decide +kernel) ⟨Nat.le_of_ble_eq_true rfl, Nat.le_of_ble_eq_true rfl⟩) subD0 [0, 1] rfl 4 (ci := 2) rfl rfl rfl (jnD0) rfl rfl (Nat.le_of_ble_eq_true rfl) ⟨Nat.le_of_ble_eq_true rfl, Nat.le_of_ble_eq_true rfl⟩ rfl rfl dX5_letter_8 (fun r1 u H locs h hw => ?_)
  obtain ⟨A_2, V_3⟩ := u
  refine lv_if_eq (pc := 11) (tgt := 24) hx hb dX5_letter_11 (by decide) (fun c4 => ?_) (fun c4 => ?_)
  · have h := h.1 c4
    exact hthrow "java/lang/IndexOutOfBoundsException" 98 102 (by decide) xwX5_letter_102 139 "no such letter, or what is not 0 to 8" (by decide) 24 _ (A_2, V_3, A2, V2) _ _ h hw hl.1 dX5_letter_24 dX5_letter_27 dX5_letter_28 dX5_letter_30 dX5_letter_33
  · have h := h.2 c4
    refine lv_iload_n (pc := 14) hx hb dX5_letter_14 rfl (lv_at hl 2 rfl) ?_
    refine lv_iconst (pc := 15) (v := (0 : Int32)) hx hb dX5_letter_15 (by decide) ?_
    refine lv_bipush (pc := 16) (v := (8 : Int32)) hx hb dX5_letter_16 (by decide) ?_
    refine callSi (pc := 18) (rest := []) (c1 := 0) (s1 := 0) cx hw hl (metX5_isWithin l D [] H.size x2 (0 : Int32) (8 : Int32) _ h) (fun hts => va_cwS 3 hts gX5_letter_X5_isWithin rfl rfl rfl (by decide +kernel) ⟨Nat.le_of_ble_eq_true rfl, Nat.le_of_ble_eq_true rfl⟩) SUB.nil [] rfl (JN.nil (S := Unit)) rfl rfl (Nat.le_of_ble_eq_true rfl) ⟨Nat.le_of_ble_eq_true rfl, Nat.le_of_ble_eq_true rfl⟩ rfl rfl dX5_letter_18 (fun r5 u H locs h hw => ?_)
    refine lv_if_ne (pc := 21) (tgt := 34) hx hb dX5_letter_21 (by decide) (fun c8 => ?_) (fun c8 => ?_)
    · have h := h.1 c8
      refine lv_aload_n (pc := 34) hx hb dX5_letter_34 rfl (lv_at hl 0 rfl) ?_
      refine geDX_0 (pc := 35) cx inX5_letter_X5 kX5_letter_10 hw dX5_letter_35 ?_
      refine geD0_X3_3 (pc := 38) cx inX5_letter_X3 kX5_letter_105 hw dX5_letter_38 ?_
      refine lv_iload_n (pc := 41) hx hb dX5_letter_41 rfl (lv_at hl 1 rfl) ?_
      refine lv_iload_n (pc := 42) hx hb dX5_letter_42 rfl (lv_at hl 2 rfl) ?_
      refine callVi (pc := 43) (rest := []) (c1 := 0) (s1 := 0) cx hw hl (metX2_fact l D cI cZ ad H.size A_2 V_3 x1 x2 _ h) (fun hts => cwV 2 hts gX5_letter_X2_fact rfl rfl rfl (by decide +kernel) ⟨Nat.le_of_ble_eq_true rfl, Nat.le_of_ble_eq_true rfl⟩) subD0 [0, 1] rfl 4 (ci := 2) rfl rfl rfl (jnD0) rfl rfl (Nat.le_of_ble_eq_true rfl) ⟨Nat.le_of_ble_eq_true rfl, Nat.le_of_ble_eq_true rfl⟩ rfl rfl dX5_letter_43 (fun r9 u H locs h hw => ?_)
      obtain ⟨A_10, V_11⟩ := u
      refine W.widen (k := 1) (n := 6) (Nat.le_of_ble_eq_true rfl) (Nat.le_of_ble_eq_true rfl) ?_
      exact hret 46 _ _ (A_10, V_11, A2, V2) _ _ rfl dX5_letter_46 h hw
    · have h := h.2 c8
      exact hthrow "java/lang/IndexOutOfBoundsException" 98 102 (by decide) xwX5_letter_102 139 "no such letter, or what is not 0 to 8" (by decide) 24 _ (A_2, V_3, A2, V2) _ _ h hw hl.1 dX5_letter_24 dX5_letter_27 dX5_letter_28 dX5_letter_30 dX5_letter_33
def wpX5_letter (A : SA) (V : SV) (A2 : SA) (V2 : SV) (x1 : Int32) (x2 : Int32) (Q : Int32 → SA → SV → SA → SV → Prop) (QX : String → SA → SV → SA → SV → Prop) : Prop := wb_X5_letter_0 Q QX A V A2 V2 x1 x2
set_option maxHeartbeats 4000000 in
set_option maxRecDepth 100000 in
theorem metX5_letter (l : Launch) (hlt : l.stackTraces = false) (D : va_G) (cI cZ : ClassId) (xa : Nat) (ad ad2 : Nat → Nat) (sz : Nat) (A : SA) (V : SV) (A2 : SA) (V2 : SV) (x1 : Int32) (x2 : Int32) (Q : Int32 → SA → SV → SA → SV → Prop) (QX : String → SA → SV → SA → SV → Prop) (h : wpX5_letter A V A2 V2 x1 x2 Q QX) : vx_Met l yX5_letter wsX5_letter rmX5_letter (PcX D [(cI, .int), (cZ, .boolean)] (wD xa ad ad2 cI cZ A V A2 V2) sz [.ref xa, .int x1, .int x2]) (QiW D [(cI, .int), (cZ, .boolean)] (wD xa ad ad2 cI cZ A V A2 V2) sz (fun u : SA × SV × SA × SV => (wD xa ad ad2 cI cZ u.1 u.2.1 u.2.2.1 u.2.2.2)) (fun r u => Q r u.1 u.2.1 u.2.2.1 u.2.2.2)) (XCW D [(cI, .int), (cZ, .boolean)] (wD xa ad ad2 cI cZ A V A2 V2) sz (fun u : SA × SV × SA × SV => (wD xa ad ad2 cI cZ u.1 u.2.1 u.2.2.1 u.2.2.2)) (fun E u => QX E u.1 u.2.1 u.2.2.1 u.2.2.2)) rmX5_letter.cells rmX5_letter.slots (va_A (wD xa ad ad2 cI cZ A V A2 V2) sz) := by
  refine startX hlt (by decide) rfl rfl (Nat.le_of_ble_eq_true rfl) (Nat.le_of_ble_eq_true rfl) (Nat.le_of_ble_eq_true rfl) (Nat.le_of_ble_eq_true rfl) (Nat.le_of_ble_eq_true rfl) ?_
  intro p e s m args below meth c A0 Z cx hw hret hthrow ls hl
  exact wk_X5_letter_0 Q QX cx hret hthrow A V A2 V2 x1 x2 h _ _ _ hw hl
abbrev rmX5_drowned : Room := { frames := 6, cells := 1, slots := 6, locals := 100 }
theorem inX5_drowned_X3 : ∀ w ∈ wsX30, w ∈ wsX5_drowned := by decide +kernel
theorem inX5_drowned_X5 : ∀ w ∈ wsX50, w ∈ wsX5_drowned := by decide +kernel
theorem xwX5_drowned_102 : ∀ w ∈ Cond.classLink RX5 98 "java/lang/IndexOutOfBoundsException" :: Cond.initialized "java/lang/IndexOutOfBoundsException" :: (vx_atS RX5 102 "java/lang/IndexOutOfBoundsException" xn).filter goodWord, w ∈ wsX5_drowned := by decide +kernel
theorem kX5_drowned_10 : Cond.fieldLink RX5 10 "DrownedPost" "now" "LDrownedPost$Office;" ∈ wsX5_drowned := by decide +kernel
theorem kX5_drowned_82 : Cond.fieldLink RX5 82 "DrownedPost$Office" "drowned" "LDrownedPost$Drowned;" ∈ wsX5_drowned := by decide +kernel
def wb_X5_drowned_0 (Q : Int32 → SA → SV → SA → SV → Prop) (QX : String → SA → SV → SA → SV → Prop) (A : SA) (V : SV) (A2 : SA) (V2 : SV) (x1 : Int32) (x2 : Int32) : Prop := (wpX1_has A V x1 (fun r1 A_2 V_3 => ((r1 = 0 → QX "java/lang/IndexOutOfBoundsException" A_2 V_3 A2 V2) ∧ (¬ (r1 = 0) → (wpX5_isWithin x2 (0 : Int32) (4 : Int32) (fun r5 => ((¬ r5 = 0 → (wpX1_fact A_2 V_3 x1 x2 (fun r9 A_10 V_11 => Q r9 A_10 V_11 A2 V2))) ∧ (r5 = 0 → QX "java/lang/IndexOutOfBoundsException" A_2 V_3 A2 V2))))))))
set_option maxHeartbeats 4000000 in
set_option maxRecDepth 100000 in
theorem wk_X5_drowned_0 (Q : Int32 → SA → SV → SA → SV → Prop) (QX : String → SA → SV → SA → SV → Prop) (cx : CX RX5 cX5_drowned 3 wsX5_drowned D [(cI, .int), (cZ, .boolean)] p s m args c A0) (hret : ∀ (pc : Nat) (ls : Array Slot) (r : Int32) (u : SA × SV × SA × SV) (H : Heap) (locs : List Loc), narrow .int (.int r) = .int r → decode cX5_drowned pc = .ok (.ireturn, 1) → Q r u.1 u.2.1 u.2.2.1 u.2.2.2 → WS D s A0 (wD xa ad ad2 cI cZ u.1 u.2.1 u.2.2.1 u.2.2.2) H locs → W p l e rmX5_drowned s m args below meth c H locs rmX5_drowned.cells rmX5_drowned.slots Z (F0 m pc ls [.int r])) (hthrow : ∀ (cls : String) (ik ic : Nat), (cls, ik, ic) ∈ XK → (∀ w ∈ Cond.classLink RX5 ik cls :: Cond.initialized cls :: (vx_atS RX5 ic cls xn).filter goodWord, w ∈ wsX5_drowned) → ∀ (is : Nat) (text : String), (is, text) ∈ STRS → ∀ (pc : Nat) (ls : Array Slot) (u : SA × SV × SA × SV) (H : Heap) (locs : List Loc), QX cls u.1 u.2.1 u.2.2.1 u.2.2.2 → WS D s A0 (wD xa ad ad2 cI cZ u.1 u.2.1 u.2.2.1 u.2.2.2) H locs → ls.size = 3 → decode cX5_drowned pc = .ok (.new ik, 3) → decode cX5_drowned (pc + 3) = .ok (.dup, 1) → decode cX5_drowned (pc + 4) = .ok (.ldc is, 2) → decode cX5_drowned (pc + 6) = .ok (.invokespecial ic, 3) → decode cX5_drowned (pc + 9) = .ok (.athrow, 1) → W p l e rmX5_drowned s m args below meth c H locs 0 0 Z (F0 m pc ls []))  : ∀ (A : SA) (V : SV) (A2 : SA) (V2 : SV) (x1 : Int32) (x2 : Int32) (h : wb_X5_drowned_0 Q QX A V A2 V2 x1 x2) (H : Heap) (locs : List Loc) (ls : Array Slot) (hw : WS D s A0 (wD xa ad ad2 cI cZ A V A2 V2) H locs) (hl : lv_has ls 3 [(0, .ref xa), (1, .int x1), (2, .int x2)]), W p l e rmX5_drowned s m args below meth c H locs 0 0 Z (F0 m 0 ls []) := by
  obtain ⟨hx, hb, hml, hown, hts, hK, hA⟩ := id cx
  intro A V A2 V2 x1 x2 h H locs ls hw hl
  refine lv_aload_n (pc := 0) hx hb dX5_drowned_0 rfl (lv_at hl 0 rfl) ?_
  refine geDX_0 (pc := 1) cx inX5_drowned_X5 kX5_drowned_10 hw dX5_drowned_1 ?_
  refine geD0_X3_2 (pc := 4) cx inX5_drowned_X3 kX5_drowned_82 hw dX5_drowned_4 ?_
  refine lv_iload_n (pc := 7) hx hb dX5_drowned_7 rfl (lv_at hl 1 rfl) ?_
  refine callVi (pc := 8) (rest := []) (c1 := 0) (s1 := 0) cx hw hl (metX1_has l D cI cZ ad H.size A V x1 _ h) (fun hts => cwV 1 hts gX5_drowned_X1_has rfl rfl rfl (by decide +kernel) ⟨Nat.le_of_ble_eq_true rfl, Nat.le_of_ble_eq_true rfl⟩) subD0 [0, 1] rfl 3 (ci := 1) rfl rfl rfl (jnD0) rfl rfl (Nat.le_of_ble_eq_true rfl) ⟨Nat.le_of_ble_eq_true rfl, Nat.le_of_ble_eq_true rfl⟩ rfl rfl dX5_drowned_8 (fun r1 u H locs h hw => ?_)
  obtain ⟨A_2, V_3⟩ := u
  refine lv_if_eq (pc := 11) (tgt := 23) hx hb dX5_drowned_11 (by decide) (fun c4 => ?_) (fun c4 => ?_)
  · have h := h.1 c4
    exact hthrow "java/lang/IndexOutOfBoundsException" 98 102 (by decide) xwX5_drowned_102 144 "no such one of the drowned, or what is not 0 to 4" (by decide) 23 _ (A_2, V_3, A2, V2) _ _ h hw hl.1 dX5_drowned_23 dX5_drowned_26 dX5_drowned_27 dX5_drowned_29 dX5_drowned_32
  · have h := h.2 c4
    refine lv_iload_n (pc := 14) hx hb dX5_drowned_14 rfl (lv_at hl 2 rfl) ?_
    refine lv_iconst (pc := 15) (v := (0 : Int32)) hx hb dX5_drowned_15 (by decide) ?_
    refine lv_iconst (pc := 16) (v := (4 : Int32)) hx hb dX5_drowned_16 (by decide) ?_
    refine callSi (pc := 17) (rest := []) (c1 := 0) (s1 := 0) cx hw hl (metX5_isWithin l D [] H.size x2 (0 : Int32) (4 : Int32) _ h) (fun hts => va_cwS 3 hts gX5_drowned_X5_isWithin rfl rfl rfl (by decide +kernel) ⟨Nat.le_of_ble_eq_true rfl, Nat.le_of_ble_eq_true rfl⟩) SUB.nil [] rfl (JN.nil (S := Unit)) rfl rfl (Nat.le_of_ble_eq_true rfl) ⟨Nat.le_of_ble_eq_true rfl, Nat.le_of_ble_eq_true rfl⟩ rfl rfl dX5_drowned_17 (fun r5 u H locs h hw => ?_)
    refine lv_if_ne (pc := 20) (tgt := 33) hx hb dX5_drowned_20 (by decide) (fun c8 => ?_) (fun c8 => ?_)
    · have h := h.1 c8
      refine lv_aload_n (pc := 33) hx hb dX5_drowned_33 rfl (lv_at hl 0 rfl) ?_
      refine geDX_0 (pc := 34) cx inX5_drowned_X5 kX5_drowned_10 hw dX5_drowned_34 ?_
      refine geD0_X3_2 (pc := 37) cx inX5_drowned_X3 kX5_drowned_82 hw dX5_drowned_37 ?_
      refine lv_iload_n (pc := 40) hx hb dX5_drowned_40 rfl (lv_at hl 1 rfl) ?_
      refine lv_iload_n (pc := 41) hx hb dX5_drowned_41 rfl (lv_at hl 2 rfl) ?_
      refine callVi (pc := 42) (rest := []) (c1 := 0) (s1 := 0) cx hw hl (metX1_fact l D cI cZ ad H.size A_2 V_3 x1 x2 _ h) (fun hts => cwV 2 hts gX5_drowned_X1_fact rfl rfl rfl (by decide +kernel) ⟨Nat.le_of_ble_eq_true rfl, Nat.le_of_ble_eq_true rfl⟩) subD0 [0, 1] rfl 3 (ci := 1) rfl rfl rfl (jnD0) rfl rfl (Nat.le_of_ble_eq_true rfl) ⟨Nat.le_of_ble_eq_true rfl, Nat.le_of_ble_eq_true rfl⟩ rfl rfl dX5_drowned_42 (fun r9 u H locs h hw => ?_)
      obtain ⟨A_10, V_11⟩ := u
      refine W.widen (k := 1) (n := 6) (Nat.le_of_ble_eq_true rfl) (Nat.le_of_ble_eq_true rfl) ?_
      exact hret 45 _ _ (A_10, V_11, A2, V2) _ _ rfl dX5_drowned_45 h hw
    · have h := h.2 c8
      exact hthrow "java/lang/IndexOutOfBoundsException" 98 102 (by decide) xwX5_drowned_102 144 "no such one of the drowned, or what is not 0 to 4" (by decide) 23 _ (A_2, V_3, A2, V2) _ _ h hw hl.1 dX5_drowned_23 dX5_drowned_26 dX5_drowned_27 dX5_drowned_29 dX5_drowned_32
def wpX5_drowned (A : SA) (V : SV) (A2 : SA) (V2 : SV) (x1 : Int32) (x2 : Int32) (Q : Int32 → SA → SV → SA → SV → Prop) (QX : String → SA → SV → SA → SV → Prop) : Prop := wb_X5_drowned_0 Q QX A V A2 V2 x1 x2
set_option maxHeartbeats 4000000 in
set_option maxRecDepth 100000 in
theorem metX5_drowned (l : Launch) (hlt : l.stackTraces = false) (D : va_G) (cI cZ : ClassId) (xa : Nat) (ad ad2 : Nat → Nat) (sz : Nat) (A : SA) (V : SV) (A2 : SA) (V2 : SV) (x1 : Int32) (x2 : Int32) (Q : Int32 → SA → SV → SA → SV → Prop) (QX : String → SA → SV → SA → SV → Prop) (h : wpX5_drowned A V A2 V2 x1 x2 Q QX) : vx_Met l yX5_drowned wsX5_drowned rmX5_drowned (PcX D [(cI, .int), (cZ, .boolean)] (wD xa ad ad2 cI cZ A V A2 V2) sz [.ref xa, .int x1, .int x2]) (QiW D [(cI, .int), (cZ, .boolean)] (wD xa ad ad2 cI cZ A V A2 V2) sz (fun u : SA × SV × SA × SV => (wD xa ad ad2 cI cZ u.1 u.2.1 u.2.2.1 u.2.2.2)) (fun r u => Q r u.1 u.2.1 u.2.2.1 u.2.2.2)) (XCW D [(cI, .int), (cZ, .boolean)] (wD xa ad ad2 cI cZ A V A2 V2) sz (fun u : SA × SV × SA × SV => (wD xa ad ad2 cI cZ u.1 u.2.1 u.2.2.1 u.2.2.2)) (fun E u => QX E u.1 u.2.1 u.2.2.1 u.2.2.2)) rmX5_drowned.cells rmX5_drowned.slots (va_A (wD xa ad ad2 cI cZ A V A2 V2) sz) := by
  refine startX hlt (by decide) rfl rfl (Nat.le_of_ble_eq_true rfl) (Nat.le_of_ble_eq_true rfl) (Nat.le_of_ble_eq_true rfl) (Nat.le_of_ble_eq_true rfl) (Nat.le_of_ble_eq_true rfl) ?_
  intro p e s m args below meth c A0 Z cx hw hret hthrow ls hl
  exact wk_X5_drowned_0 Q QX cx hret hthrow A V A2 V2 x1 x2 h _ _ _ hw hl
abbrev rmX5_bin : Room := { frames := 6, cells := 1, slots := 6, locals := 100 }
theorem inX5_bin_X3 : ∀ w ∈ wsX30, w ∈ wsX5_bin := by decide +kernel
theorem inX5_bin_X5 : ∀ w ∈ wsX50, w ∈ wsX5_bin := by decide +kernel
theorem xwX5_bin_102 : ∀ w ∈ Cond.classLink RX5 98 "java/lang/IndexOutOfBoundsException" :: Cond.initialized "java/lang/IndexOutOfBoundsException" :: (vx_atS RX5 102 "java/lang/IndexOutOfBoundsException" xn).filter goodWord, w ∈ wsX5_bin := by decide +kernel
theorem kX5_bin_10 : Cond.fieldLink RX5 10 "DrownedPost" "now" "LDrownedPost$Office;" ∈ wsX5_bin := by decide +kernel
theorem kX5_bin_60 : Cond.fieldLink RX5 60 "DrownedPost$Office" "bins" "LDrownedPost$Bins;" ∈ wsX5_bin := by decide +kernel
def wb_X5_bin_0 (Q : Int32 → SA → SV → SA → SV → Prop) (QX : String → SA → SV → SA → SV → Prop) (A : SA) (V : SV) (A2 : SA) (V2 : SV) (x1 : Int32) (x2 : Int32) : Prop := (wpX0_has A V x1 (fun r1 A_2 V_3 => ((r1 = 0 → QX "java/lang/IndexOutOfBoundsException" A_2 V_3 A2 V2) ∧ (¬ (r1 = 0) → (wpX5_isWithin x2 (0 : Int32) (4 : Int32) (fun r5 => ((¬ r5 = 0 → (wpX3_binFact A_2 V_3 x1 x2 (fun r9 A_10 V_11 => Q r9 A_10 V_11 A2 V2))) ∧ (r5 = 0 → QX "java/lang/IndexOutOfBoundsException" A_2 V_3 A2 V2))))))))
set_option maxHeartbeats 4000000 in
set_option maxRecDepth 100000 in
theorem wk_X5_bin_0 (Q : Int32 → SA → SV → SA → SV → Prop) (QX : String → SA → SV → SA → SV → Prop) (cx : CX RX5 cX5_bin 3 wsX5_bin D [(cI, .int), (cZ, .boolean)] p s m args c A0) (hret : ∀ (pc : Nat) (ls : Array Slot) (r : Int32) (u : SA × SV × SA × SV) (H : Heap) (locs : List Loc), narrow .int (.int r) = .int r → decode cX5_bin pc = .ok (.ireturn, 1) → Q r u.1 u.2.1 u.2.2.1 u.2.2.2 → WS D s A0 (wD xa ad ad2 cI cZ u.1 u.2.1 u.2.2.1 u.2.2.2) H locs → W p l e rmX5_bin s m args below meth c H locs rmX5_bin.cells rmX5_bin.slots Z (F0 m pc ls [.int r])) (hthrow : ∀ (cls : String) (ik ic : Nat), (cls, ik, ic) ∈ XK → (∀ w ∈ Cond.classLink RX5 ik cls :: Cond.initialized cls :: (vx_atS RX5 ic cls xn).filter goodWord, w ∈ wsX5_bin) → ∀ (is : Nat) (text : String), (is, text) ∈ STRS → ∀ (pc : Nat) (ls : Array Slot) (u : SA × SV × SA × SV) (H : Heap) (locs : List Loc), QX cls u.1 u.2.1 u.2.2.1 u.2.2.2 → WS D s A0 (wD xa ad ad2 cI cZ u.1 u.2.1 u.2.2.1 u.2.2.2) H locs → ls.size = 3 → decode cX5_bin pc = .ok (.new ik, 3) → decode cX5_bin (pc + 3) = .ok (.dup, 1) → decode cX5_bin (pc + 4) = .ok (.ldc is, 2) → decode cX5_bin (pc + 6) = .ok (.invokespecial ic, 3) → decode cX5_bin (pc + 9) = .ok (.athrow, 1) → W p l e rmX5_bin s m args below meth c H locs 0 0 Z (F0 m pc ls []))  : ∀ (A : SA) (V : SV) (A2 : SA) (V2 : SV) (x1 : Int32) (x2 : Int32) (h : wb_X5_bin_0 Q QX A V A2 V2 x1 x2) (H : Heap) (locs : List Loc) (ls : Array Slot) (hw : WS D s A0 (wD xa ad ad2 cI cZ A V A2 V2) H locs) (hl : lv_has ls 3 [(0, .ref xa), (1, .int x1), (2, .int x2)]), W p l e rmX5_bin s m args below meth c H locs 0 0 Z (F0 m 0 ls []) := by
  obtain ⟨hx, hb, hml, hown, hts, hK, hA⟩ := id cx
  intro A V A2 V2 x1 x2 h H locs ls hw hl
  refine lv_aload_n (pc := 0) hx hb dX5_bin_0 rfl (lv_at hl 0 rfl) ?_
  refine geDX_0 (pc := 1) cx inX5_bin_X5 kX5_bin_10 hw dX5_bin_1 ?_
  refine geD0_X3_1 (pc := 4) cx inX5_bin_X3 kX5_bin_60 hw dX5_bin_4 ?_
  refine lv_iload_n (pc := 7) hx hb dX5_bin_7 rfl (lv_at hl 1 rfl) ?_
  refine callVi (pc := 8) (rest := []) (c1 := 0) (s1 := 0) cx hw hl (metX0_has l D cI cZ ad H.size A V x1 _ h) (fun hts => cwV 1 hts gX5_bin_X0_has rfl rfl rfl (by decide +kernel) ⟨Nat.le_of_ble_eq_true rfl, Nat.le_of_ble_eq_true rfl⟩) subD0 [0, 1] rfl 2 (ci := 0) rfl rfl rfl (jnD0) rfl rfl (Nat.le_of_ble_eq_true rfl) ⟨Nat.le_of_ble_eq_true rfl, Nat.le_of_ble_eq_true rfl⟩ rfl rfl dX5_bin_8 (fun r1 u H locs h hw => ?_)
  obtain ⟨A_2, V_3⟩ := u
  refine lv_if_eq (pc := 11) (tgt := 23) hx hb dX5_bin_11 (by decide) (fun c4 => ?_) (fun c4 => ?_)
  · have h := h.1 c4
    exact hthrow "java/lang/IndexOutOfBoundsException" 98 102 (by decide) xwX5_bin_102 147 "no such bin, or what is not 0 to 4" (by decide) 23 _ (A_2, V_3, A2, V2) _ _ h hw hl.1 dX5_bin_23 dX5_bin_26 dX5_bin_27 dX5_bin_29 dX5_bin_32
  · have h := h.2 c4
    refine lv_iload_n (pc := 14) hx hb dX5_bin_14 rfl (lv_at hl 2 rfl) ?_
    refine lv_iconst (pc := 15) (v := (0 : Int32)) hx hb dX5_bin_15 (by decide) ?_
    refine lv_iconst (pc := 16) (v := (4 : Int32)) hx hb dX5_bin_16 (by decide) ?_
    refine callSi (pc := 17) (rest := []) (c1 := 0) (s1 := 0) cx hw hl (metX5_isWithin l D [] H.size x2 (0 : Int32) (4 : Int32) _ h) (fun hts => va_cwS 3 hts gX5_bin_X5_isWithin rfl rfl rfl (by decide +kernel) ⟨Nat.le_of_ble_eq_true rfl, Nat.le_of_ble_eq_true rfl⟩) SUB.nil [] rfl (JN.nil (S := Unit)) rfl rfl (Nat.le_of_ble_eq_true rfl) ⟨Nat.le_of_ble_eq_true rfl, Nat.le_of_ble_eq_true rfl⟩ rfl rfl dX5_bin_17 (fun r5 u H locs h hw => ?_)
    refine lv_if_ne (pc := 20) (tgt := 33) hx hb dX5_bin_20 (by decide) (fun c8 => ?_) (fun c8 => ?_)
    · have h := h.1 c8
      refine lv_aload_n (pc := 33) hx hb dX5_bin_33 rfl (lv_at hl 0 rfl) ?_
      refine geDX_0 (pc := 34) cx inX5_bin_X5 kX5_bin_10 hw dX5_bin_34 ?_
      refine lv_iload_n (pc := 37) hx hb dX5_bin_37 rfl (lv_at hl 1 rfl) ?_
      refine lv_iload_n (pc := 38) hx hb dX5_bin_38 rfl (lv_at hl 2 rfl) ?_
      refine callVi (pc := 39) (rest := []) (c1 := 0) (s1 := 0) cx hw hl (metX3_binFact l D cI cZ ad H.size A_2 V_3 x1 x2 _ h) (fun hts => cwV 2 hts gX5_bin_X3_binFact rfl rfl rfl (by decide +kernel) ⟨Nat.le_of_ble_eq_true rfl, Nat.le_of_ble_eq_true rfl⟩) subD0 [0, 1] rfl 0 (ci := 3) rfl rfl rfl (jnD0) rfl rfl (Nat.le_of_ble_eq_true rfl) ⟨Nat.le_of_ble_eq_true rfl, Nat.le_of_ble_eq_true rfl⟩ rfl rfl dX5_bin_39 (fun r9 u H locs h hw => ?_)
      obtain ⟨A_10, V_11⟩ := u
      refine W.widen (k := 1) (n := 6) (Nat.le_of_ble_eq_true rfl) (Nat.le_of_ble_eq_true rfl) ?_
      exact hret 42 _ _ (A_10, V_11, A2, V2) _ _ rfl dX5_bin_42 h hw
    · have h := h.2 c8
      exact hthrow "java/lang/IndexOutOfBoundsException" 98 102 (by decide) xwX5_bin_102 147 "no such bin, or what is not 0 to 4" (by decide) 23 _ (A_2, V_3, A2, V2) _ _ h hw hl.1 dX5_bin_23 dX5_bin_26 dX5_bin_27 dX5_bin_29 dX5_bin_32
def wpX5_bin (A : SA) (V : SV) (A2 : SA) (V2 : SV) (x1 : Int32) (x2 : Int32) (Q : Int32 → SA → SV → SA → SV → Prop) (QX : String → SA → SV → SA → SV → Prop) : Prop := wb_X5_bin_0 Q QX A V A2 V2 x1 x2
set_option maxHeartbeats 4000000 in
set_option maxRecDepth 100000 in
theorem metX5_bin (l : Launch) (hlt : l.stackTraces = false) (D : va_G) (cI cZ : ClassId) (xa : Nat) (ad ad2 : Nat → Nat) (sz : Nat) (A : SA) (V : SV) (A2 : SA) (V2 : SV) (x1 : Int32) (x2 : Int32) (Q : Int32 → SA → SV → SA → SV → Prop) (QX : String → SA → SV → SA → SV → Prop) (h : wpX5_bin A V A2 V2 x1 x2 Q QX) : vx_Met l yX5_bin wsX5_bin rmX5_bin (PcX D [(cI, .int), (cZ, .boolean)] (wD xa ad ad2 cI cZ A V A2 V2) sz [.ref xa, .int x1, .int x2]) (QiW D [(cI, .int), (cZ, .boolean)] (wD xa ad ad2 cI cZ A V A2 V2) sz (fun u : SA × SV × SA × SV => (wD xa ad ad2 cI cZ u.1 u.2.1 u.2.2.1 u.2.2.2)) (fun r u => Q r u.1 u.2.1 u.2.2.1 u.2.2.2)) (XCW D [(cI, .int), (cZ, .boolean)] (wD xa ad ad2 cI cZ A V A2 V2) sz (fun u : SA × SV × SA × SV => (wD xa ad ad2 cI cZ u.1 u.2.1 u.2.2.1 u.2.2.2)) (fun E u => QX E u.1 u.2.1 u.2.2.1 u.2.2.2)) rmX5_bin.cells rmX5_bin.slots (va_A (wD xa ad ad2 cI cZ A V A2 V2) sz) := by
  refine startX hlt (by decide) rfl rfl (Nat.le_of_ble_eq_true rfl) (Nat.le_of_ble_eq_true rfl) (Nat.le_of_ble_eq_true rfl) (Nat.le_of_ble_eq_true rfl) (Nat.le_of_ble_eq_true rfl) ?_
  intro p e s m args below meth c A0 Z cx hw hret hthrow ls hl
  exact wk_X5_bin_0 Q QX cx hret hthrow A V A2 V2 x1 x2 h _ _ _ hw hl
abbrev rmX5_pass : Room := { frames := 6, cells := 1, slots := 6, locals := 196 }
theorem inX5_pass_X5 : ∀ w ∈ wsX50, w ∈ wsX5_pass := by decide +kernel
theorem xwX5_pass_27 : ∀ w ∈ Cond.classLink RX5 23 "java/lang/IllegalArgumentException" :: Cond.initialized "java/lang/IllegalArgumentException" :: (vx_atS RX5 27 "java/lang/IllegalArgumentException" xn).filter goodWord, w ∈ wsX5_pass := by decide +kernel
theorem kX5_pass_10 : Cond.fieldLink RX5 10 "DrownedPost" "now" "LDrownedPost$Office;" ∈ wsX5_pass := by decide +kernel
def wb_X5_pass_0 (Q : Int32 → SA → SV → SA → SV → Prop) (QX : String → SA → SV → SA → SV → Prop) (A : SA) (V : SV) (A2 : SA) (V2 : SV) (x1 : Int32) : Prop := (wpX5_isWithin x1 (1 : Int32) (200 : Int32) (fun r1 => ((¬ r1 = 0 → (wpX3_letGoBy A V x1 (fun r5 A_6 V_7 => Q r5 A_6 V_7 A2 V2))) ∧ (r1 = 0 → QX "java/lang/IllegalArgumentException" A V A2 V2))))
set_option maxHeartbeats 4000000 in
set_option maxRecDepth 100000 in
theorem wk_X5_pass_0 (Q : Int32 → SA → SV → SA → SV → Prop) (QX : String → SA → SV → SA → SV → Prop) (cx : CX RX5 cX5_pass 2 wsX5_pass D [(cI, .int), (cZ, .boolean)] p s m args c A0) (hret : ∀ (pc : Nat) (ls : Array Slot) (r : Int32) (u : SA × SV × SA × SV) (H : Heap) (locs : List Loc), narrow .int (.int r) = .int r → decode cX5_pass pc = .ok (.ireturn, 1) → Q r u.1 u.2.1 u.2.2.1 u.2.2.2 → WS D s A0 (wD xa ad ad2 cI cZ u.1 u.2.1 u.2.2.1 u.2.2.2) H locs → W p l e rmX5_pass s m args below meth c H locs rmX5_pass.cells rmX5_pass.slots Z (F0 m pc ls [.int r])) (hthrow : ∀ (cls : String) (ik ic : Nat), (cls, ik, ic) ∈ XK → (∀ w ∈ Cond.classLink RX5 ik cls :: Cond.initialized cls :: (vx_atS RX5 ic cls xn).filter goodWord, w ∈ wsX5_pass) → ∀ (is : Nat) (text : String), (is, text) ∈ STRS → ∀ (pc : Nat) (ls : Array Slot) (u : SA × SV × SA × SV) (H : Heap) (locs : List Loc), QX cls u.1 u.2.1 u.2.2.1 u.2.2.2 → WS D s A0 (wD xa ad ad2 cI cZ u.1 u.2.1 u.2.2.1 u.2.2.2) H locs → ls.size = 2 → decode cX5_pass pc = .ok (.new ik, 3) → decode cX5_pass (pc + 3) = .ok (.dup, 1) → decode cX5_pass (pc + 4) = .ok (.ldc is, 2) → decode cX5_pass (pc + 6) = .ok (.invokespecial ic, 3) → decode cX5_pass (pc + 9) = .ok (.athrow, 1) → W p l e rmX5_pass s m args below meth c H locs 0 0 Z (F0 m pc ls []))  : ∀ (A : SA) (V : SV) (A2 : SA) (V2 : SV) (x1 : Int32) (h : wb_X5_pass_0 Q QX A V A2 V2 x1) (H : Heap) (locs : List Loc) (ls : Array Slot) (hw : WS D s A0 (wD xa ad ad2 cI cZ A V A2 V2) H locs) (hl : lv_has ls 2 [(0, .ref xa), (1, .int x1)]), W p l e rmX5_pass s m args below meth c H locs 0 0 Z (F0 m 0 ls []) := by
  obtain ⟨hx, hb, hml, hown, hts, hK, hA⟩ := id cx
  intro A V A2 V2 x1 h H locs ls hw hl
  refine lv_iload_n (pc := 0) hx hb dX5_pass_0 rfl (lv_at hl 1 rfl) ?_
  refine lv_iconst (pc := 1) (v := (1 : Int32)) hx hb dX5_pass_1 (by decide) ?_
  refine lv_sipush (pc := 2) (v := (200 : Int32)) hx hb dX5_pass_2 (by decide) ?_
  refine callSi (pc := 5) (rest := []) (c1 := 0) (s1 := 0) cx hw hl (metX5_isWithin l D [] H.size x1 (1 : Int32) (200 : Int32) _ h) (fun hts => va_cwS 3 hts gX5_pass_X5_isWithin rfl rfl rfl (by decide +kernel) ⟨Nat.le_of_ble_eq_true rfl, Nat.le_of_ble_eq_true rfl⟩) SUB.nil [] rfl (JN.nil (S := Unit)) rfl rfl (Nat.le_of_ble_eq_true rfl) ⟨Nat.le_of_ble_eq_true rfl, Nat.le_of_ble_eq_true rfl⟩ rfl rfl dX5_pass_5 (fun r1 u H locs h hw => ?_)
  refine lv_if_ne (pc := 8) (tgt := 21) hx hb dX5_pass_8 (by decide) (fun c4 => ?_) (fun c4 => ?_)
  · have h := h.1 c4
    refine lv_aload_n (pc := 21) hx hb dX5_pass_21 rfl (lv_at hl 0 rfl) ?_
    refine geDX_0 (pc := 22) cx inX5_pass_X5 kX5_pass_10 hw dX5_pass_22 ?_
    refine lv_iload_n (pc := 25) hx hb dX5_pass_25 rfl (lv_at hl 1 rfl) ?_
    refine callVi (pc := 26) (rest := []) (c1 := 0) (s1 := 0) cx hw hl (metX3_letGoBy l D cI cZ ad H.size A V x1 _ h) (fun hts => cwV 1 hts gX5_pass_X3_letGoBy rfl rfl rfl (by decide +kernel) ⟨Nat.le_of_ble_eq_true rfl, Nat.le_of_ble_eq_true rfl⟩) subD0 [0, 1] rfl 0 (ci := 3) rfl rfl rfl (jnD0) rfl rfl (Nat.le_of_ble_eq_true rfl) ⟨Nat.le_of_ble_eq_true rfl, Nat.le_of_ble_eq_true rfl⟩ rfl rfl dX5_pass_26 (fun r5 u H locs h hw => ?_)
    obtain ⟨A_6, V_7⟩ := u
    refine W.widen (k := 1) (n := 6) (Nat.le_of_ble_eq_true rfl) (Nat.le_of_ble_eq_true rfl) ?_
    exact hret 29 _ _ (A_6, V_7, A2, V2) _ _ rfl dX5_pass_29 h hw
  · have h := h.2 c4
    exact hthrow "java/lang/IllegalArgumentException" 23 27 (by decide) xwX5_pass_27 152 "hours is not 1 to 200" (by decide) 11 _ (A, V, A2, V2) _ _ h hw hl.1 dX5_pass_11 dX5_pass_14 dX5_pass_15 dX5_pass_17 dX5_pass_20
def wpX5_pass (A : SA) (V : SV) (A2 : SA) (V2 : SV) (x1 : Int32) (Q : Int32 → SA → SV → SA → SV → Prop) (QX : String → SA → SV → SA → SV → Prop) : Prop := wb_X5_pass_0 Q QX A V A2 V2 x1
set_option maxHeartbeats 4000000 in
set_option maxRecDepth 100000 in
theorem metX5_pass (l : Launch) (hlt : l.stackTraces = false) (D : va_G) (cI cZ : ClassId) (xa : Nat) (ad ad2 : Nat → Nat) (sz : Nat) (A : SA) (V : SV) (A2 : SA) (V2 : SV) (x1 : Int32) (Q : Int32 → SA → SV → SA → SV → Prop) (QX : String → SA → SV → SA → SV → Prop) (h : wpX5_pass A V A2 V2 x1 Q QX) : vx_Met l yX5_pass wsX5_pass rmX5_pass (PcX D [(cI, .int), (cZ, .boolean)] (wD xa ad ad2 cI cZ A V A2 V2) sz [.ref xa, .int x1]) (QiW D [(cI, .int), (cZ, .boolean)] (wD xa ad ad2 cI cZ A V A2 V2) sz (fun u : SA × SV × SA × SV => (wD xa ad ad2 cI cZ u.1 u.2.1 u.2.2.1 u.2.2.2)) (fun r u => Q r u.1 u.2.1 u.2.2.1 u.2.2.2)) (XCW D [(cI, .int), (cZ, .boolean)] (wD xa ad ad2 cI cZ A V A2 V2) sz (fun u : SA × SV × SA × SV => (wD xa ad ad2 cI cZ u.1 u.2.1 u.2.2.1 u.2.2.2)) (fun E u => QX E u.1 u.2.1 u.2.2.1 u.2.2.2)) rmX5_pass.cells rmX5_pass.slots (va_A (wD xa ad ad2 cI cZ A V A2 V2) sz) := by
  refine startX hlt (by decide) rfl rfl (Nat.le_of_ble_eq_true rfl) (Nat.le_of_ble_eq_true rfl) (Nat.le_of_ble_eq_true rfl) (Nat.le_of_ble_eq_true rfl) (Nat.le_of_ble_eq_true rfl) ?_
  intro p e s m args below meth c A0 Z cx hw hret hthrow ls hl
  exact wk_X5_pass_0 Q QX cx hret hthrow A V A2 V2 x1 h _ _ _ hw hl
abbrev rmX5_count : Room := { frames := 6, cells := 1, slots := 6, locals := 100 }
theorem inX5_count_X5 : ∀ w ∈ wsX50, w ∈ wsX5_count := by decide +kernel
theorem xwX5_count_102 : ∀ w ∈ Cond.classLink RX5 98 "java/lang/IndexOutOfBoundsException" :: Cond.initialized "java/lang/IndexOutOfBoundsException" :: (vx_atS RX5 102 "java/lang/IndexOutOfBoundsException" xn).filter goodWord, w ∈ wsX5_count := by decide +kernel
theorem kX5_count_10 : Cond.fieldLink RX5 10 "DrownedPost" "now" "LDrownedPost$Office;" ∈ wsX5_count := by decide +kernel
def wb_X5_count_0 (Q : Int32 → SA → SV → SA → SV → Prop) (QX : String → SA → SV → SA → SV → Prop) (A : SA) (V : SV) (A2 : SA) (V2 : SV) (x1 : Int32) : Prop := (wpX5_isWithin x1 (0 : Int32) (12 : Int32) (fun r1 => ((¬ r1 = 0 → (wpX3_total A V x1 (fun r5 A_6 V_7 => Q r5 A_6 V_7 A2 V2))) ∧ (r1 = 0 → QX "java/lang/IndexOutOfBoundsException" A V A2 V2))))
set_option maxHeartbeats 4000000 in
set_option maxRecDepth 100000 in
theorem wk_X5_count_0 (Q : Int32 → SA → SV → SA → SV → Prop) (QX : String → SA → SV → SA → SV → Prop) (cx : CX RX5 cX5_count 2 wsX5_count D [(cI, .int), (cZ, .boolean)] p s m args c A0) (hret : ∀ (pc : Nat) (ls : Array Slot) (r : Int32) (u : SA × SV × SA × SV) (H : Heap) (locs : List Loc), narrow .int (.int r) = .int r → decode cX5_count pc = .ok (.ireturn, 1) → Q r u.1 u.2.1 u.2.2.1 u.2.2.2 → WS D s A0 (wD xa ad ad2 cI cZ u.1 u.2.1 u.2.2.1 u.2.2.2) H locs → W p l e rmX5_count s m args below meth c H locs rmX5_count.cells rmX5_count.slots Z (F0 m pc ls [.int r])) (hthrow : ∀ (cls : String) (ik ic : Nat), (cls, ik, ic) ∈ XK → (∀ w ∈ Cond.classLink RX5 ik cls :: Cond.initialized cls :: (vx_atS RX5 ic cls xn).filter goodWord, w ∈ wsX5_count) → ∀ (is : Nat) (text : String), (is, text) ∈ STRS → ∀ (pc : Nat) (ls : Array Slot) (u : SA × SV × SA × SV) (H : Heap) (locs : List Loc), QX cls u.1 u.2.1 u.2.2.1 u.2.2.2 → WS D s A0 (wD xa ad ad2 cI cZ u.1 u.2.1 u.2.2.1 u.2.2.2) H locs → ls.size = 2 → decode cX5_count pc = .ok (.new ik, 3) → decode cX5_count (pc + 3) = .ok (.dup, 1) → decode cX5_count (pc + 4) = .ok (.ldc is, 2) → decode cX5_count (pc + 6) = .ok (.invokespecial ic, 3) → decode cX5_count (pc + 9) = .ok (.athrow, 1) → W p l e rmX5_count s m args below meth c H locs 0 0 Z (F0 m pc ls []))  : ∀ (A : SA) (V : SV) (A2 : SA) (V2 : SV) (x1 : Int32) (h : wb_X5_count_0 Q QX A V A2 V2 x1) (H : Heap) (locs : List Loc) (ls : Array Slot) (hw : WS D s A0 (wD xa ad ad2 cI cZ A V A2 V2) H locs) (hl : lv_has ls 2 [(0, .ref xa), (1, .int x1)]), W p l e rmX5_count s m args below meth c H locs 0 0 Z (F0 m 0 ls []) := by
  obtain ⟨hx, hb, hml, hown, hts, hK, hA⟩ := id cx
  intro A V A2 V2 x1 h H locs ls hw hl
  refine lv_iload_n (pc := 0) hx hb dX5_count_0 rfl (lv_at hl 1 rfl) ?_
  refine lv_iconst (pc := 1) (v := (0 : Int32)) hx hb dX5_count_1 (by decide) ?_
  refine lv_bipush (pc := 2) (v := (12 : Int32)) hx hb dX5_count_2 (by decide) ?_
  refine callSi (pc := 4) (rest := []) (c1 := 0) (s1 := 0) cx hw hl (metX5_isWithin l D [] H.size x1 (0 : Int32) (12 : Int32) _ h) (fun hts => va_cwS 3 hts gX5_count_X5_isWithin rfl rfl rfl (by decide +kernel) ⟨Nat.le_of_ble_eq_true rfl, Nat.le_of_ble_eq_true rfl⟩) SUB.nil [] rfl (JN.nil (S := Unit)) rfl rfl (Nat.le_of_ble_eq_true rfl) ⟨Nat.le_of_ble_eq_true rfl, Nat.le_of_ble_eq_true rfl⟩ rfl rfl dX5_count_4 (fun r1 u H locs h hw => ?_)
  refine lv_if_ne (pc := 7) (tgt := 20) hx hb dX5_count_7 (by decide) (fun c4 => ?_) (fun c4 => ?_)
  · have h := h.1 c4
    refine lv_aload_n (pc := 20) hx hb dX5_count_20 rfl (lv_at hl 0 rfl) ?_
    refine geDX_0 (pc := 21) cx inX5_count_X5 kX5_count_10 hw dX5_count_21 ?_
    refine lv_iload_n (pc := 24) hx hb dX5_count_24 rfl (lv_at hl 1 rfl) ?_
    refine callVi (pc := 25) (rest := []) (c1 := 0) (s1 := 0) cx hw hl (metX3_total l D cI cZ ad H.size A V x1 _ h) (fun hts => cwV 1 hts gX5_count_X3_total rfl rfl rfl (by decide +kernel) ⟨Nat.le_of_ble_eq_true rfl, Nat.le_of_ble_eq_true rfl⟩) subD0 [0, 1] rfl 0 (ci := 3) rfl rfl rfl (jnD0) rfl rfl (Nat.le_of_ble_eq_true rfl) ⟨Nat.le_of_ble_eq_true rfl, Nat.le_of_ble_eq_true rfl⟩ rfl rfl dX5_count_25 (fun r5 u H locs h hw => ?_)
    obtain ⟨A_6, V_7⟩ := u
    refine W.widen (k := 1) (n := 6) (Nat.le_of_ble_eq_true rfl) (Nat.le_of_ble_eq_true rfl) ?_
    exact hret 28 _ _ (A_6, V_7, A2, V2) _ _ rfl dX5_count_28 h hw
  · have h := h.2 c4
    exact hthrow "java/lang/IndexOutOfBoundsException" 98 102 (by decide) xwX5_count_102 157 "what is not 0 to 12" (by decide) 10 _ (A, V, A2, V2) _ _ h hw hl.1 dX5_count_10 dX5_count_13 dX5_count_14 dX5_count_16 dX5_count_19
def wpX5_count (A : SA) (V : SV) (A2 : SA) (V2 : SV) (x1 : Int32) (Q : Int32 → SA → SV → SA → SV → Prop) (QX : String → SA → SV → SA → SV → Prop) : Prop := wb_X5_count_0 Q QX A V A2 V2 x1
set_option maxHeartbeats 4000000 in
set_option maxRecDepth 100000 in
theorem metX5_count (l : Launch) (hlt : l.stackTraces = false) (D : va_G) (cI cZ : ClassId) (xa : Nat) (ad ad2 : Nat → Nat) (sz : Nat) (A : SA) (V : SV) (A2 : SA) (V2 : SV) (x1 : Int32) (Q : Int32 → SA → SV → SA → SV → Prop) (QX : String → SA → SV → SA → SV → Prop) (h : wpX5_count A V A2 V2 x1 Q QX) : vx_Met l yX5_count wsX5_count rmX5_count (PcX D [(cI, .int), (cZ, .boolean)] (wD xa ad ad2 cI cZ A V A2 V2) sz [.ref xa, .int x1]) (QiW D [(cI, .int), (cZ, .boolean)] (wD xa ad ad2 cI cZ A V A2 V2) sz (fun u : SA × SV × SA × SV => (wD xa ad ad2 cI cZ u.1 u.2.1 u.2.2.1 u.2.2.2)) (fun r u => Q r u.1 u.2.1 u.2.2.1 u.2.2.2)) (XCW D [(cI, .int), (cZ, .boolean)] (wD xa ad ad2 cI cZ A V A2 V2) sz (fun u : SA × SV × SA × SV => (wD xa ad ad2 cI cZ u.1 u.2.1 u.2.2.1 u.2.2.2)) (fun E u => QX E u.1 u.2.1 u.2.2.1 u.2.2.2)) rmX5_count.cells rmX5_count.slots (va_A (wD xa ad ad2 cI cZ A V A2 V2) sz) := by
  refine startX hlt (by decide) rfl rfl (Nat.le_of_ble_eq_true rfl) (Nat.le_of_ble_eq_true rfl) (Nat.le_of_ble_eq_true rfl) (Nat.le_of_ble_eq_true rfl) (Nat.le_of_ble_eq_true rfl) ?_
  intro p e s m args below meth c A0 Z cx hw hret hthrow ls hl
  exact wk_X5_count_0 Q QX cx hret hthrow A V A2 V2 x1 h _ _ _ hw hl
abbrev rmX5_binFor : Room := { frames := 6, cells := 1, slots := 6, locals := 128 }
theorem inX5_binFor_X3 : ∀ w ∈ wsX30, w ∈ wsX5_binFor := by decide +kernel
theorem inX5_binFor_X5 : ∀ w ∈ wsX50, w ∈ wsX5_binFor := by decide +kernel
theorem xwX5_binFor_102 : ∀ w ∈ Cond.classLink RX5 98 "java/lang/IndexOutOfBoundsException" :: Cond.initialized "java/lang/IndexOutOfBoundsException" :: (vx_atS RX5 102 "java/lang/IndexOutOfBoundsException" xn).filter goodWord, w ∈ wsX5_binFor := by decide +kernel
theorem kX5_binFor_10 : Cond.fieldLink RX5 10 "DrownedPost" "now" "LDrownedPost$Office;" ∈ wsX5_binFor := by decide +kernel
theorem kX5_binFor_60 : Cond.fieldLink RX5 60 "DrownedPost$Office" "bins" "LDrownedPost$Bins;" ∈ wsX5_binFor := by decide +kernel
theorem kX5_binFor_82 : Cond.fieldLink RX5 82 "DrownedPost$Office" "drowned" "LDrownedPost$Drowned;" ∈ wsX5_binFor := by decide +kernel
def wb_X5_binFor_0 (Q : Int32 → SA → SV → SA → SV → Prop) (QX : String → SA → SV → SA → SV → Prop) (A : SA) (V : SV) (A2 : SA) (V2 : SV) (x1 : Int32) : Prop := (wpX1_has A V x1 (fun r1 A_2 V_3 => ((¬ r1 = 0 → (wpX1_heightOf A_2 V_3 x1 (fun r5 A_6 V_7 => (wpX0_nearestWithRoom A_6 V_7 r5 (fun r8 A_9 V_10 => Q r8 A_9 V_10 A2 V2))))) ∧ (r1 = 0 → QX "java/lang/IndexOutOfBoundsException" A_2 V_3 A2 V2))))
set_option maxHeartbeats 4000000 in
set_option maxRecDepth 100000 in
theorem wk_X5_binFor_0 (Q : Int32 → SA → SV → SA → SV → Prop) (QX : String → SA → SV → SA → SV → Prop) (cx : CX RX5 cX5_binFor 2 wsX5_binFor D [(cI, .int), (cZ, .boolean)] p s m args c A0) (hret : ∀ (pc : Nat) (ls : Array Slot) (r : Int32) (u : SA × SV × SA × SV) (H : Heap) (locs : List Loc), narrow .int (.int r) = .int r → decode cX5_binFor pc = .ok (.ireturn, 1) → Q r u.1 u.2.1 u.2.2.1 u.2.2.2 → WS D s A0 (wD xa ad ad2 cI cZ u.1 u.2.1 u.2.2.1 u.2.2.2) H locs → W p l e rmX5_binFor s m args below meth c H locs rmX5_binFor.cells rmX5_binFor.slots Z (F0 m pc ls [.int r])) (hthrow : ∀ (cls : String) (ik ic : Nat), (cls, ik, ic) ∈ XK → (∀ w ∈ Cond.classLink RX5 ik cls :: Cond.initialized cls :: (vx_atS RX5 ic cls xn).filter goodWord, w ∈ wsX5_binFor) → ∀ (is : Nat) (text : String), (is, text) ∈ STRS → ∀ (pc : Nat) (ls : Array Slot) (u : SA × SV × SA × SV) (H : Heap) (locs : List Loc), QX cls u.1 u.2.1 u.2.2.1 u.2.2.2 → WS D s A0 (wD xa ad ad2 cI cZ u.1 u.2.1 u.2.2.1 u.2.2.2) H locs → ls.size = 2 → decode cX5_binFor pc = .ok (.new ik, 3) → decode cX5_binFor (pc + 3) = .ok (.dup, 1) → decode cX5_binFor (pc + 4) = .ok (.ldc is, 2) → decode cX5_binFor (pc + 6) = .ok (.invokespecial ic, 3) → decode cX5_binFor (pc + 9) = .ok (.athrow, 1) → W p l e rmX5_binFor s m args below meth c H locs 0 0 Z (F0 m pc ls []))  : ∀ (A : SA) (V : SV) (A2 : SA) (V2 : SV) (x1 : Int32) (h : wb_X5_binFor_0 Q QX A V A2 V2 x1) (H : Heap) (locs : List Loc) (ls : Array Slot) (hw : WS D s A0 (wD xa ad ad2 cI cZ A V A2 V2) H locs) (hl : lv_has ls 2 [(0, .ref xa), (1, .int x1)]), W p l e rmX5_binFor s m args below meth c H locs 0 0 Z (F0 m 0 ls []) := by
  obtain ⟨hx, hb, hml, hown, hts, hK, hA⟩ := id cx
  intro A V A2 V2 x1 h H locs ls hw hl
  refine lv_aload_n (pc := 0) hx hb dX5_binFor_0 rfl (lv_at hl 0 rfl) ?_
  refine geDX_0 (pc := 1) cx inX5_binFor_X5 kX5_binFor_10 hw dX5_binFor_1 ?_
  refine geD0_X3_2 (pc := 4) cx inX5_binFor_X3 kX5_binFor_82 hw dX5_binFor_4 ?_
  refine lv_iload_n (pc := 7) hx hb dX5_binFor_7 rfl (lv_at hl 1 rfl) ?_
  refine callVi (pc := 8) (rest := []) (c1 := 0) (s1 := 0) cx hw hl (metX1_has l D cI cZ ad H.size A V x1 _ h) (fun hts => cwV 1 hts gX5_binFor_X1_has rfl rfl rfl (by decide +kernel) ⟨Nat.le_of_ble_eq_true rfl, Nat.le_of_ble_eq_true rfl⟩) subD0 [0, 1] rfl 3 (ci := 1) rfl rfl rfl (jnD0) rfl rfl (Nat.le_of_ble_eq_true rfl) ⟨Nat.le_of_ble_eq_true rfl, Nat.le_of_ble_eq_true rfl⟩ rfl rfl dX5_binFor_8 (fun r1 u H locs h hw => ?_)
  obtain ⟨A_2, V_3⟩ := u
  refine lv_if_ne (pc := 11) (tgt := 24) hx hb dX5_binFor_11 (by decide) (fun c4 => ?_) (fun c4 => ?_)
  · have h := h.1 c4
    refine lv_aload_n (pc := 24) hx hb dX5_binFor_24 rfl (lv_at hl 0 rfl) ?_
    refine geDX_0 (pc := 25) cx inX5_binFor_X5 kX5_binFor_10 hw dX5_binFor_25 ?_
    refine geD0_X3_1 (pc := 28) cx inX5_binFor_X3 kX5_binFor_60 hw dX5_binFor_28 ?_
    refine lv_aload_n (pc := 31) hx hb dX5_binFor_31 rfl (lv_at hl 0 rfl) ?_
    refine geDX_0 (pc := 32) cx inX5_binFor_X5 kX5_binFor_10 hw dX5_binFor_32 ?_
    refine geD0_X3_2 (pc := 35) cx inX5_binFor_X3 kX5_binFor_82 hw dX5_binFor_35 ?_
    refine lv_iload_n (pc := 38) hx hb dX5_binFor_38 rfl (lv_at hl 1 rfl) ?_
    refine callVi (pc := 39) (rest := [.ref (ad 2)]) (c1 := 0) (s1 := 0) cx hw hl (metX1_heightOf l D cI cZ ad H.size A_2 V_3 x1 _ h) (fun hts => cwV 1 hts gX5_binFor_X1_heightOf rfl rfl rfl (by decide +kernel) ⟨Nat.le_of_ble_eq_true rfl, Nat.le_of_ble_eq_true rfl⟩) subD0 [0, 1] rfl 3 (ci := 1) rfl rfl rfl (jnD0) rfl rfl (Nat.le_of_ble_eq_true rfl) ⟨Nat.le_of_ble_eq_true rfl, Nat.le_of_ble_eq_true rfl⟩ rfl rfl dX5_binFor_39 (fun r5 u H locs h hw => ?_)
    obtain ⟨A_6, V_7⟩ := u
    refine callVi (pc := 42) (rest := []) (c1 := 0) (s1 := 0) cx hw hl (metX0_nearestWithRoom l D cI cZ ad H.size A_6 V_7 r5 _ h) (fun hts => cwV 1 hts gX5_binFor_X0_nearestWithRoom rfl rfl rfl (by decide +kernel) ⟨Nat.le_of_ble_eq_true rfl, Nat.le_of_ble_eq_true rfl⟩) subD0 [0, 1] rfl 2 (ci := 0) rfl rfl rfl (jnD0) rfl rfl (Nat.le_of_ble_eq_true rfl) ⟨Nat.le_of_ble_eq_true rfl, Nat.le_of_ble_eq_true rfl⟩ rfl rfl dX5_binFor_42 (fun r8 u H locs h hw => ?_)
    obtain ⟨A_9, V_10⟩ := u
    refine W.widen (k := 1) (n := 6) (Nat.le_of_ble_eq_true rfl) (Nat.le_of_ble_eq_true rfl) ?_
    exact hret 45 _ _ (A_9, V_10, A2, V2) _ _ rfl dX5_binFor_45 h hw
  · have h := h.2 c4
    exact hthrow "java/lang/IndexOutOfBoundsException" 98 102 (by decide) xwX5_binFor_102 100 "no such one of the drowned" (by decide) 14 _ (A_2, V_3, A2, V2) _ _ h hw hl.1 dX5_binFor_14 dX5_binFor_17 dX5_binFor_18 dX5_binFor_20 dX5_binFor_23
def wpX5_binFor (A : SA) (V : SV) (A2 : SA) (V2 : SV) (x1 : Int32) (Q : Int32 → SA → SV → SA → SV → Prop) (QX : String → SA → SV → SA → SV → Prop) : Prop := wb_X5_binFor_0 Q QX A V A2 V2 x1
set_option maxHeartbeats 4000000 in
set_option maxRecDepth 100000 in
theorem metX5_binFor (l : Launch) (hlt : l.stackTraces = false) (D : va_G) (cI cZ : ClassId) (xa : Nat) (ad ad2 : Nat → Nat) (sz : Nat) (A : SA) (V : SV) (A2 : SA) (V2 : SV) (x1 : Int32) (Q : Int32 → SA → SV → SA → SV → Prop) (QX : String → SA → SV → SA → SV → Prop) (h : wpX5_binFor A V A2 V2 x1 Q QX) : vx_Met l yX5_binFor wsX5_binFor rmX5_binFor (PcX D [(cI, .int), (cZ, .boolean)] (wD xa ad ad2 cI cZ A V A2 V2) sz [.ref xa, .int x1]) (QiW D [(cI, .int), (cZ, .boolean)] (wD xa ad ad2 cI cZ A V A2 V2) sz (fun u : SA × SV × SA × SV => (wD xa ad ad2 cI cZ u.1 u.2.1 u.2.2.1 u.2.2.2)) (fun r u => Q r u.1 u.2.1 u.2.2.1 u.2.2.2)) (XCW D [(cI, .int), (cZ, .boolean)] (wD xa ad ad2 cI cZ A V A2 V2) sz (fun u : SA × SV × SA × SV => (wD xa ad ad2 cI cZ u.1 u.2.1 u.2.2.1 u.2.2.2)) (fun E u => QX E u.1 u.2.1 u.2.2.1 u.2.2.2)) rmX5_binFor.cells rmX5_binFor.slots (va_A (wD xa ad ad2 cI cZ A V A2 V2) sz) := by
  refine startX hlt (by decide) rfl rfl (Nat.le_of_ble_eq_true rfl) (Nat.le_of_ble_eq_true rfl) (Nat.le_of_ble_eq_true rfl) (Nat.le_of_ble_eq_true rfl) (Nat.le_of_ble_eq_true rfl) ?_
  intro p e s m args below meth c A0 Z cx hw hret hthrow ls hl
  exact wk_X5_binFor_0 Q QX cx hret hthrow A V A2 V2 x1 h _ _ _ hw hl
abbrev rmX5_foresee : Room := { frames := 6, cells := 1, slots := 6, locals := 196 }
theorem inX5_foresee_X3 : ∀ w ∈ wsX30, w ∈ wsX5_foresee := by decide +kernel
theorem inX5_foresee_X5 : ∀ w ∈ wsX50, w ∈ wsX5_foresee := by decide +kernel
theorem xwX5_foresee_27 : ∀ w ∈ Cond.classLink RX5 23 "java/lang/IllegalArgumentException" :: Cond.initialized "java/lang/IllegalArgumentException" :: (vx_atS RX5 27 "java/lang/IllegalArgumentException" xn).filter goodWord, w ∈ wsX5_foresee := by decide +kernel
theorem xwX5_foresee_102 : ∀ w ∈ Cond.classLink RX5 98 "java/lang/IndexOutOfBoundsException" :: Cond.initialized "java/lang/IndexOutOfBoundsException" :: (vx_atS RX5 102 "java/lang/IndexOutOfBoundsException" xn).filter goodWord, w ∈ wsX5_foresee := by decide +kernel
theorem kX5_foresee_10 : Cond.fieldLink RX5 10 "DrownedPost" "now" "LDrownedPost$Office;" ∈ wsX5_foresee := by decide +kernel
theorem kX5_foresee_105 : Cond.fieldLink RX5 105 "DrownedPost$Office" "letters" "LDrownedPost$Letters;" ∈ wsX5_foresee := by decide +kernel
theorem kX5_foresee_16 : Cond.fieldLink RX5 16 "DrownedPost" "ahead" "LDrownedPost$Office;" ∈ wsX5_foresee := by decide +kernel
def wb_X5_foresee_77 (Q : Int32 → SA → SV → SA → SV → Prop) (QX : String → SA → SV → SA → SV → Prop) (A : SA) (V : SV) (A2 : SA) (V2 : SV) (t0 : Int32) : Prop := (wpX2_inState A2 V2 t0 (fun r21 A_22 V_23 => (wpX2_inState A V t0 (fun r24 A_25 V_26 => Q (r21 - r24) A_25 V_26 A_22 V_23))))
set_option maxHeartbeats 4000000 in
set_option maxRecDepth 100000 in
theorem wk_X5_foresee_77 (Q : Int32 → SA → SV → SA → SV → Prop) (QX : String → SA → SV → SA → SV → Prop) (cx : CX RX5 cX5_foresee 4 wsX5_foresee D [(cI, .int), (cZ, .boolean)] p s m args c A0) (hret : ∀ (pc : Nat) (ls : Array Slot) (r : Int32) (u : SA × SV × SA × SV) (H : Heap) (locs : List Loc), narrow .int (.int r) = .int r → decode cX5_foresee pc = .ok (.ireturn, 1) → Q r u.1 u.2.1 u.2.2.1 u.2.2.2 → WS D s A0 (wD xa ad ad2 cI cZ u.1 u.2.1 u.2.2.1 u.2.2.2) H locs → W p l e rmX5_foresee s m args below meth c H locs rmX5_foresee.cells rmX5_foresee.slots Z (F0 m pc ls [.int r])) (hthrow : ∀ (cls : String) (ik ic : Nat), (cls, ik, ic) ∈ XK → (∀ w ∈ Cond.classLink RX5 ik cls :: Cond.initialized cls :: (vx_atS RX5 ic cls xn).filter goodWord, w ∈ wsX5_foresee) → ∀ (is : Nat) (text : String), (is, text) ∈ STRS → ∀ (pc : Nat) (ls : Array Slot) (u : SA × SV × SA × SV) (H : Heap) (locs : List Loc), QX cls u.1 u.2.1 u.2.2.1 u.2.2.2 → WS D s A0 (wD xa ad ad2 cI cZ u.1 u.2.1 u.2.2.1 u.2.2.2) H locs → ls.size = 4 → decode cX5_foresee pc = .ok (.new ik, 3) → decode cX5_foresee (pc + 3) = .ok (.dup, 1) → decode cX5_foresee (pc + 4) = .ok (.ldc is, 2) → decode cX5_foresee (pc + 6) = .ok (.invokespecial ic, 3) → decode cX5_foresee (pc + 9) = .ok (.athrow, 1) → W p l e rmX5_foresee s m args below meth c H locs 0 0 Z (F0 m pc ls []))  : ∀ (A : SA) (V : SV) (A2 : SA) (V2 : SV) (t0 : Int32) (h : wb_X5_foresee_77 Q QX A V A2 V2 t0) (H : Heap) (locs : List Loc) (ls : Array Slot) (hw : WS D s A0 (wD xa ad ad2 cI cZ A V A2 V2) H locs) (hl : lv_has ls 4 [(0, .ref xa)]), W p l e rmX5_foresee s m args below meth c H locs 0 0 Z (F0 m 77 ls [.int t0]) := by
  obtain ⟨hx, hb, hml, hown, hts, hK, hA⟩ := id cx
  intro A V A2 V2 t0 h H locs ls hw hl
  refine lv_istore_n (pc := 77) (lv' := [(3, .int t0), (0, .ref xa)]) hx hb dX5_foresee_77 rfl hl (by decide) rfl (fun ls hl => ?_)
  refine lv_aload_n (pc := 78) hx hb dX5_foresee_78 rfl (lv_at hl 1 rfl) ?_
  refine geDX_1 (pc := 79) cx inX5_foresee_X5 kX5_foresee_16 hw dX5_foresee_79 ?_
  refine geD1_X3_3 (pc := 82) cx inX5_foresee_X3 kX5_foresee_105 hw dX5_foresee_82 ?_
  refine lv_iload_n (pc := 85) hx hb dX5_foresee_85 rfl (lv_at hl 0 rfl) ?_
  refine callVi (pc := 86) (rest := []) (c1 := 0) (s1 := 0) cx hw hl (metX2_inState l D cI cZ ad2 H.size A2 V2 t0 _ h) (fun hts => cwV 1 hts gX5_foresee_X2_inState rfl rfl rfl (by decide +kernel) ⟨Nat.le_of_ble_eq_true rfl, Nat.le_of_ble_eq_true rfl⟩) subD1 [0, 1] rfl 4 (ci := 2) rfl rfl rfl (jnD1) rfl rfl (Nat.le_of_ble_eq_true rfl) ⟨Nat.le_of_ble_eq_true rfl, Nat.le_of_ble_eq_true rfl⟩ rfl rfl dX5_foresee_86 (fun r21 u H locs h hw => ?_)
  obtain ⟨A_22, V_23⟩ := u
  refine lv_aload_n (pc := 89) hx hb dX5_foresee_89 rfl (lv_at hl 1 rfl) ?_
  refine geDX_0 (pc := 90) cx inX5_foresee_X5 kX5_foresee_10 hw dX5_foresee_90 ?_
  refine geD0_X3_3 (pc := 93) cx inX5_foresee_X3 kX5_foresee_105 hw dX5_foresee_93 ?_
  refine lv_iload_n (pc := 96) hx hb dX5_foresee_96 rfl (lv_at hl 0 rfl) ?_
  refine callVi (pc := 97) (rest := [.int r21]) (c1 := 0) (s1 := 0) cx hw hl (metX2_inState l D cI cZ ad H.size A V t0 _ h) (fun hts => cwV 1 hts gX5_foresee_X2_inState rfl rfl rfl (by decide +kernel) ⟨Nat.le_of_ble_eq_true rfl, Nat.le_of_ble_eq_true rfl⟩) subD0 [0, 1] rfl 4 (ci := 2) rfl rfl rfl (jnD0) rfl rfl (Nat.le_of_ble_eq_true rfl) ⟨Nat.le_of_ble_eq_true rfl, Nat.le_of_ble_eq_true rfl⟩ rfl rfl dX5_foresee_97 (fun r24 u H locs h hw => ?_)
  obtain ⟨A_25, V_26⟩ := u
  refine lv_isub (pc := 100) hx hb dX5_foresee_100 ?_
  refine W.widen (k := 1) (n := 6) (Nat.le_of_ble_eq_true rfl) (Nat.le_of_ble_eq_true rfl) ?_
  exact hret 101 _ _ (A_25, V_26, A_22, V_23) _ _ rfl dX5_foresee_101 h hw
def wb_X5_foresee_0 (Q : Int32 → SA → SV → SA → SV → Prop) (QX : String → SA → SV → SA → SV → Prop) (A : SA) (V : SV) (A2 : SA) (V2 : SV) (x1 : Int32) (x2 : Int32) : Prop := (wpX5_isWithin x1 (1 : Int32) (100 : Int32) (fun r1 => ((¬ r1 = 0 → (wpX5_isWithin x2 (0 : Int32) (2 : Int32) (fun r5 => ((¬ r5 = 0 → (wpX3_copyFrom A2 V2 A V (fun A_12 V_13 A_14 V_15 => (wpX3_letGoBy A_12 V_13 x1 (fun r16 A_17 V_18 => ((¬ x2 = 0 → ((¬ x2 = (1 : Int32) → (wb_X5_foresee_77 Q QX A_14 V_15 A_17 V_18 (5 : Int32))) ∧ (x2 = (1 : Int32) → (wb_X5_foresee_77 Q QX A_14 V_15 A_17 V_18 (3 : Int32))))) ∧ (x2 = 0 → (wb_X5_foresee_77 Q QX A_14 V_15 A_17 V_18 (2 : Int32))))))))) ∧ (r5 = 0 → QX "java/lang/IndexOutOfBoundsException" A V A2 V2))))) ∧ (r1 = 0 → QX "java/lang/IllegalArgumentException" A V A2 V2))))
set_option maxHeartbeats 4000000 in
set_option maxRecDepth 100000 in
theorem wk_X5_foresee_0 (Q : Int32 → SA → SV → SA → SV → Prop) (QX : String → SA → SV → SA → SV → Prop) (cx : CX RX5 cX5_foresee 4 wsX5_foresee D [(cI, .int), (cZ, .boolean)] p s m args c A0) (hret : ∀ (pc : Nat) (ls : Array Slot) (r : Int32) (u : SA × SV × SA × SV) (H : Heap) (locs : List Loc), narrow .int (.int r) = .int r → decode cX5_foresee pc = .ok (.ireturn, 1) → Q r u.1 u.2.1 u.2.2.1 u.2.2.2 → WS D s A0 (wD xa ad ad2 cI cZ u.1 u.2.1 u.2.2.1 u.2.2.2) H locs → W p l e rmX5_foresee s m args below meth c H locs rmX5_foresee.cells rmX5_foresee.slots Z (F0 m pc ls [.int r])) (hthrow : ∀ (cls : String) (ik ic : Nat), (cls, ik, ic) ∈ XK → (∀ w ∈ Cond.classLink RX5 ik cls :: Cond.initialized cls :: (vx_atS RX5 ic cls xn).filter goodWord, w ∈ wsX5_foresee) → ∀ (is : Nat) (text : String), (is, text) ∈ STRS → ∀ (pc : Nat) (ls : Array Slot) (u : SA × SV × SA × SV) (H : Heap) (locs : List Loc), QX cls u.1 u.2.1 u.2.2.1 u.2.2.2 → WS D s A0 (wD xa ad ad2 cI cZ u.1 u.2.1 u.2.2.1 u.2.2.2) H locs → ls.size = 4 → decode cX5_foresee pc = .ok (.new ik, 3) → decode cX5_foresee (pc + 3) = .ok (.dup, 1) → decode cX5_foresee (pc + 4) = .ok (.ldc is, 2) → decode cX5_foresee (pc + 6) = .ok (.invokespecial ic, 3) → decode cX5_foresee (pc + 9) = .ok (.athrow, 1) → W p l e rmX5_foresee s m args below meth c H locs 0 0 Z (F0 m pc ls []))  : ∀ (A : SA) (V : SV) (A2 : SA) (V2 : SV) (x1 : Int32) (x2 : Int32) (h : wb_X5_foresee_0 Q QX A V A2 V2 x1 x2) (H : Heap) (locs : List Loc) (ls : Array Slot) (hw : WS D s A0 (wD xa ad ad2 cI cZ A V A2 V2) H locs) (hl : lv_has ls 4 [(0, .ref xa), (1, .int x1), (2, .int x2)]), W p l e rmX5_foresee s m args below meth c H locs 0 0 Z (F0 m 0 ls []) := by
  obtain ⟨hx, hb, hml, hown, hts, hK, hA⟩ := id cx
  intro A V A2 V2 x1 x2 h H locs ls hw hl
  refine lv_iload_n (pc := 0) hx hb dX5_foresee_0 rfl (lv_at hl 1 rfl) ?_
  refine lv_iconst (pc := 1) (v := (1 : Int32)) hx hb dX5_foresee_1 (by decide) ?_
  refine lv_bipush (pc := 2) (v := (100 : Int32)) hx hb dX5_foresee_2 (by decide) ?_
  refine callSi (pc := 4) (rest := []) (c1 := 0) (s1 := 0) cx hw hl (metX5_isWithin l D [] H.size x1 (1 : Int32) (100 : Int32) _ h) (fun hts => va_cwS 3 hts gX5_foresee_X5_isWithin rfl rfl rfl (by decide +kernel) ⟨Nat.le_of_ble_eq_true rfl, Nat.le_of_ble_eq_true rfl⟩) SUB.nil [] rfl (JN.nil (S := Unit)) rfl rfl (Nat.le_of_ble_eq_true rfl) ⟨Nat.le_of_ble_eq_true rfl, Nat.le_of_ble_eq_true rfl⟩ rfl rfl dX5_foresee_4 (fun r1 u H locs h hw => ?_)
  refine lv_if_ne (pc := 7) (tgt := 20) hx hb dX5_foresee_7 (by decide) (fun c4 => ?_) (fun c4 => ?_)
  · have h := h.1 c4
    refine lv_iload_n (pc := 20) hx hb dX5_foresee_20 rfl (lv_at hl 2 rfl) ?_
    refine lv_iconst (pc := 21) (v := (0 : Int32)) hx hb dX5_foresee_21 (by decide) ?_
    refine lv_iconst (pc := 22) (v := (2 : Int32)) hx hb dX5_foresee_22 (by decide) ?_
    refine callSi (pc := 23) (rest := []) (c1 := 0) (s1 := 0) cx hw hl (metX5_isWithin l D [] H.size x2 (0 : Int32) (2 : Int32) _ h) (fun hts => va_cwS 3 hts gX5_foresee_X5_isWithin rfl rfl rfl (by decide +kernel) ⟨Nat.le_of_ble_eq_true rfl, Nat.le_of_ble_eq_true rfl⟩) SUB.nil [] rfl (JN.nil (S := Unit)) rfl rfl (Nat.le_of_ble_eq_true rfl) ⟨Nat.le_of_ble_eq_true rfl, Nat.le_of_ble_eq_true rfl⟩ rfl rfl dX5_foresee_23 (fun r5 u H locs h hw => ?_)
    refine lv_if_ne (pc := 26) (tgt := 39) hx hb dX5_foresee_26 (by decide) (fun c8 => ?_) (fun c8 => ?_)
    · have h := h.1 c8
      refine lv_aload_n (pc := 39) hx hb dX5_foresee_39 rfl (lv_at hl 0 rfl) ?_
      refine geDX_1 (pc := 40) cx inX5_foresee_X5 kX5_foresee_16 hw dX5_foresee_40 ?_
      refine lv_aload_n (pc := 43) hx hb dX5_foresee_43 rfl (lv_at hl 0 rfl) ?_
      refine geDX_0 (pc := 44) cx inX5_foresee_X5 kX5_foresee_10 hw dX5_foresee_44 ?_
      refine callVv (pc := 47) (rest := []) (c1 := 0) (s1 := 0) cx hw hl (metX3_copyFrom l D cI cZ ad2 ad H.size A2 V2 A V _ h) (fun hts => cwV 1 hts gX5_foresee_X3_copyFrom rfl rfl rfl (by decide +kernel) ⟨Nat.le_of_ble_eq_true rfl, Nat.le_of_ble_eq_true rfl⟩) subDC [0, 1] rfl 0 (ci := 3) rfl rfl rfl (jnDC) rfl rfl (Nat.le_of_ble_eq_true rfl) ⟨Nat.le_of_ble_eq_true rfl, Nat.le_of_ble_eq_true rfl⟩ rfl rfl dX5_foresee_47 (fun u H locs h hw => ?_)
      obtain ⟨A_12, V_13, A_14, V_15⟩ := u
      refine lv_aload_n (pc := 50) hx hb dX5_foresee_50 rfl (lv_at hl 0 rfl) ?_
      refine geDX_1 (pc := 51) cx inX5_foresee_X5 kX5_foresee_16 hw dX5_foresee_51 ?_
      refine lv_iload_n (pc := 54) hx hb dX5_foresee_54 rfl (lv_at hl 1 rfl) ?_
      refine callVi (pc := 55) (rest := []) (c1 := 0) (s1 := 0) cx hw hl (metX3_letGoBy l D cI cZ ad2 H.size A_12 V_13 x1 _ h) (fun hts => cwV 1 hts gX5_foresee_X3_letGoBy rfl rfl rfl (by decide +kernel) ⟨Nat.le_of_ble_eq_true rfl, Nat.le_of_ble_eq_true rfl⟩) subD1 [0, 1] rfl 0 (ci := 3) rfl rfl rfl (jnD1) rfl rfl (Nat.le_of_ble_eq_true rfl) ⟨Nat.le_of_ble_eq_true rfl, Nat.le_of_ble_eq_true rfl⟩ rfl rfl dX5_foresee_55 (fun r16 u H locs h hw => ?_)
      obtain ⟨A_17, V_18⟩ := u
      refine lv_pop (pc := 58) hx hb dX5_foresee_58 rfl ?_
      refine lv_iload_n (pc := 59) hx hb dX5_foresee_59 rfl (lv_at hl 2 rfl) ?_
      refine lv_if_ne (pc := 60) (tgt := 67) hx hb dX5_foresee_60 (by decide) (fun c19 => ?_) (fun c19 => ?_)
      · have h := h.1 c19
        refine lv_iload_n (pc := 67) hx hb dX5_foresee_67 rfl (lv_at hl 2 rfl) ?_
        refine lv_iconst (pc := 68) (v := (1 : Int32)) hx hb dX5_foresee_68 (by decide) ?_
        refine lv_icmp_ne (pc := 69) (tgt := 76) hx hb dX5_foresee_69 (by decide) (fun c20 => ?_) (fun c20 => ?_)
        · have h := h.1 c20
          refine lv_iconst (pc := 76) (v := (5 : Int32)) hx hb dX5_foresee_76 (by decide) ?_
          exact wk_X5_foresee_77 Q QX cx hret hthrow  A_14 V_15 A_17 V_18 (5 : Int32) h _ _ _ hw (lv_sub hl [0] rfl)
        · have h := h.2 c20
          refine lv_iconst (pc := 72) (v := (3 : Int32)) hx hb dX5_foresee_72 (by decide) ?_
          refine lv_goto (pc := 73) (tgt := 77) hx hb dX5_foresee_73 (by decide) ?_
          exact wk_X5_foresee_77 Q QX cx hret hthrow  A_14 V_15 A_17 V_18 (3 : Int32) h _ _ _ hw (lv_sub hl [0] rfl)
      · have h := h.2 c19
        refine lv_iconst (pc := 63) (v := (2 : Int32)) hx hb dX5_foresee_63 (by decide) ?_
        refine lv_goto (pc := 64) (tgt := 77) hx hb dX5_foresee_64 (by decide) ?_
        exact wk_X5_foresee_77 Q QX cx hret hthrow  A_14 V_15 A_17 V_18 (2 : Int32) h _ _ _ hw (lv_sub hl [0] rfl)
    · have h := h.2 c8
      exact hthrow "java/lang/IndexOutOfBoundsException" 98 102 (by decide) xwX5_foresee_102 170 "what is not 0 to 2" (by decide) 29 _ (A, V, A2, V2) _ _ h hw hl.1 dX5_foresee_29 dX5_foresee_32 dX5_foresee_33 dX5_foresee_35 dX5_foresee_38
  · have h := h.2 c4
    exact hthrow "java/lang/IllegalArgumentException" 23 27 (by decide) xwX5_foresee_27 168 "hours is not 1 to 100" (by decide) 10 _ (A, V, A2, V2) _ _ h hw hl.1 dX5_foresee_10 dX5_foresee_13 dX5_foresee_14 dX5_foresee_16 dX5_foresee_19
def wpX5_foresee (A : SA) (V : SV) (A2 : SA) (V2 : SV) (x1 : Int32) (x2 : Int32) (Q : Int32 → SA → SV → SA → SV → Prop) (QX : String → SA → SV → SA → SV → Prop) : Prop := wb_X5_foresee_0 Q QX A V A2 V2 x1 x2
set_option maxHeartbeats 4000000 in
set_option maxRecDepth 100000 in
theorem metX5_foresee (l : Launch) (hlt : l.stackTraces = false) (D : va_G) (cI cZ : ClassId) (xa : Nat) (ad ad2 : Nat → Nat) (sz : Nat) (A : SA) (V : SV) (A2 : SA) (V2 : SV) (x1 : Int32) (x2 : Int32) (Q : Int32 → SA → SV → SA → SV → Prop) (QX : String → SA → SV → SA → SV → Prop) (h : wpX5_foresee A V A2 V2 x1 x2 Q QX) : vx_Met l yX5_foresee wsX5_foresee rmX5_foresee (PcX D [(cI, .int), (cZ, .boolean)] (wD xa ad ad2 cI cZ A V A2 V2) sz [.ref xa, .int x1, .int x2]) (QiW D [(cI, .int), (cZ, .boolean)] (wD xa ad ad2 cI cZ A V A2 V2) sz (fun u : SA × SV × SA × SV => (wD xa ad ad2 cI cZ u.1 u.2.1 u.2.2.1 u.2.2.2)) (fun r u => Q r u.1 u.2.1 u.2.2.1 u.2.2.2)) (XCW D [(cI, .int), (cZ, .boolean)] (wD xa ad ad2 cI cZ A V A2 V2) sz (fun u : SA × SV × SA × SV => (wD xa ad ad2 cI cZ u.1 u.2.1 u.2.2.1 u.2.2.2)) (fun E u => QX E u.1 u.2.1 u.2.2.1 u.2.2.2)) rmX5_foresee.cells rmX5_foresee.slots (va_A (wD xa ad ad2 cI cZ A V A2 V2) sz) := by
  refine startX hlt (by decide) rfl rfl (Nat.le_of_ble_eq_true rfl) (Nat.le_of_ble_eq_true rfl) (Nat.le_of_ble_eq_true rfl) (Nat.le_of_ble_eq_true rfl) (Nat.le_of_ble_eq_true rfl) ?_
  intro p e s m args below meth c A0 Z cx hw hret hthrow ls hl
  exact wk_X5_foresee_0 Q QX cx hret hthrow A V A2 V2 x1 x2 h _ _ _ hw hl
abbrev rmX5_fate : Room := { frames := 6, cells := 1, slots := 6, locals := 196 }
theorem inX5_fate_X2 : ∀ w ∈ wsX20, w ∈ wsX5_fate := by decide +kernel
theorem inX5_fate_X3 : ∀ w ∈ wsX30, w ∈ wsX5_fate := by decide +kernel
theorem inX5_fate_X5 : ∀ w ∈ wsX50, w ∈ wsX5_fate := by decide +kernel
theorem xwX5_fate_27 : ∀ w ∈ Cond.classLink RX5 23 "java/lang/IllegalArgumentException" :: Cond.initialized "java/lang/IllegalArgumentException" :: (vx_atS RX5 27 "java/lang/IllegalArgumentException" xn).filter goodWord, w ∈ wsX5_fate := by decide +kernel
theorem xwX5_fate_102 : ∀ w ∈ Cond.classLink RX5 98 "java/lang/IndexOutOfBoundsException" :: Cond.initialized "java/lang/IndexOutOfBoundsException" :: (vx_atS RX5 102 "java/lang/IndexOutOfBoundsException" xn).filter goodWord, w ∈ wsX5_fate := by decide +kernel
theorem kX5_fate_10 : Cond.fieldLink RX5 10 "DrownedPost" "now" "LDrownedPost$Office;" ∈ wsX5_fate := by decide +kernel
theorem kX5_fate_105 : Cond.fieldLink RX5 105 "DrownedPost$Office" "letters" "LDrownedPost$Letters;" ∈ wsX5_fate := by decide +kernel
theorem kX5_fate_16 : Cond.fieldLink RX5 16 "DrownedPost" "ahead" "LDrownedPost$Office;" ∈ wsX5_fate := by decide +kernel
theorem kX5_fate_179 : Cond.fieldLink RX5 179 "DrownedPost$Letters" "state" "[I" ∈ wsX5_fate := by decide +kernel
def wb_X5_fate_0 (Q : Int32 → SA → SV → SA → SV → Prop) (QX : String → SA → SV → SA → SV → Prop) (A : SA) (V : SV) (A2 : SA) (V2 : SV) (x1 : Int32) (x2 : Int32) : Prop := (wpX2_has A V x1 (fun r1 A_2 V_3 => ((¬ r1 = 0 → (wpX5_isWithin x2 (1 : Int32) (100 : Int32) (fun r5 => ((¬ r5 = 0 → (wpX3_copyFrom A2 V2 A_2 V_3 (fun A_12 V_13 A_14 V_15 => (wpX3_letGoBy A_12 V_13 x2 (fun r16 A_17 V_18 => (vp_in x1 150 ∧ Q (A_17 12 x1.toNatClampNeg) A_14 V_15 A_17 V_18)))))) ∧ (r5 = 0 → QX "java/lang/IllegalArgumentException" A_2 V_3 A2 V2))))) ∧ (r1 = 0 → QX "java/lang/IndexOutOfBoundsException" A_2 V_3 A2 V2))))
set_option maxHeartbeats 4000000 in
set_option maxRecDepth 100000 in
theorem wk_X5_fate_0 (Q : Int32 → SA → SV → SA → SV → Prop) (QX : String → SA → SV → SA → SV → Prop) (cx : CX RX5 cX5_fate 3 wsX5_fate D [(cI, .int), (cZ, .boolean)] p s m args c A0) (hret : ∀ (pc : Nat) (ls : Array Slot) (r : Int32) (u : SA × SV × SA × SV) (H : Heap) (locs : List Loc), narrow .int (.int r) = .int r → decode cX5_fate pc = .ok (.ireturn, 1) → Q r u.1 u.2.1 u.2.2.1 u.2.2.2 → WS D s A0 (wD xa ad ad2 cI cZ u.1 u.2.1 u.2.2.1 u.2.2.2) H locs → W p l e rmX5_fate s m args below meth c H locs rmX5_fate.cells rmX5_fate.slots Z (F0 m pc ls [.int r])) (hthrow : ∀ (cls : String) (ik ic : Nat), (cls, ik, ic) ∈ XK → (∀ w ∈ Cond.classLink RX5 ik cls :: Cond.initialized cls :: (vx_atS RX5 ic cls xn).filter goodWord, w ∈ wsX5_fate) → ∀ (is : Nat) (text : String), (is, text) ∈ STRS → ∀ (pc : Nat) (ls : Array Slot) (u : SA × SV × SA × SV) (H : Heap) (locs : List Loc), QX cls u.1 u.2.1 u.2.2.1 u.2.2.2 → WS D s A0 (wD xa ad ad2 cI cZ u.1 u.2.1 u.2.2.1 u.2.2.2) H locs → ls.size = 3 → decode cX5_fate pc = .ok (.new ik, 3) → decode cX5_fate (pc + 3) = .ok (.dup, 1) → decode cX5_fate (pc + 4) = .ok (.ldc is, 2) → decode cX5_fate (pc + 6) = .ok (.invokespecial ic, 3) → decode cX5_fate (pc + 9) = .ok (.athrow, 1) → W p l e rmX5_fate s m args below meth c H locs 0 0 Z (F0 m pc ls []))  : ∀ (A : SA) (V : SV) (A2 : SA) (V2 : SV) (x1 : Int32) (x2 : Int32) (h : wb_X5_fate_0 Q QX A V A2 V2 x1 x2) (H : Heap) (locs : List Loc) (ls : Array Slot) (hw : WS D s A0 (wD xa ad ad2 cI cZ A V A2 V2) H locs) (hl : lv_has ls 3 [(0, .ref xa), (1, .int x1), (2, .int x2)]), W p l e rmX5_fate s m args below meth c H locs 0 0 Z (F0 m 0 ls []) := by
  obtain ⟨hx, hb, hml, hown, hts, hK, hA⟩ := id cx
  intro A V A2 V2 x1 x2 h H locs ls hw hl
  refine lv_aload_n (pc := 0) hx hb dX5_fate_0 rfl (lv_at hl 0 rfl) ?_
  refine geDX_0 (pc := 1) cx inX5_fate_X5 kX5_fate_10 hw dX5_fate_1 ?_
  refine geD0_X3_3 (pc := 4) cx inX5_fate_X3 kX5_fate_105 hw dX5_fate_4 ?_
  refine lv_iload_n (pc := 7) hx hb dX5_fate_7 rfl (lv_at hl 1 rfl) ?_
  refine callVi (pc := 8) (rest := []) (c1 := 0) (s1 := 0) cx hw hl (metX2_has l D cI cZ ad H.size A V x1 _ h) (fun hts => cwV 1 hts gX5_fate_X2_has rfl rfl rfl (by decide +kernel) ⟨Nat.le_of_ble_eq_true rfl, Nat.le_of_ble_eq_true rfl⟩) subD0 [0, 1] rfl 4 (ci := 2) rfl rfl rfl (jnD0) rfl rfl (Nat.le_of_ble_eq_true rfl) ⟨Nat.le_of_ble_eq_true rfl, Nat.le_of_ble_eq_true rfl⟩ rfl rfl dX5_fate_8 (fun r1 u H locs h hw => ?_)
  obtain ⟨A_2, V_3⟩ := u
  refine lv_if_ne (pc := 11) (tgt := 24) hx hb dX5_fate_11 (by decide) (fun c4 => ?_) (fun c4 => ?_)
  · have h := h.1 c4
    refine lv_iload_n (pc := 24) hx hb dX5_fate_24 rfl (lv_at hl 2 rfl) ?_
    refine lv_iconst (pc := 25) (v := (1 : Int32)) hx hb dX5_fate_25 (by decide) ?_
    refine lv_bipush (pc := 26) (v := (100 : Int32)) hx hb dX5_fate_26 (by decide) ?_
    refine callSi (pc := 28) (rest := []) (c1 := 0) (s1 := 0) cx hw hl (metX5_isWithin l D [] H.size x2 (1 : Int32) (100 : Int32) _ h) (fun hts => va_cwS 3 hts gX5_fate_X5_isWithin rfl rfl rfl (by decide +kernel) ⟨Nat.le_of_ble_eq_true rfl, Nat.le_of_ble_eq_true rfl⟩) SUB.nil [] rfl (JN.nil (S := Unit)) rfl rfl (Nat.le_of_ble_eq_true rfl) ⟨Nat.le_of_ble_eq_true rfl, Nat.le_of_ble_eq_true rfl⟩ rfl rfl dX5_fate_28 (fun r5 u H locs h hw => ?_)
    refine lv_if_ne (pc := 31) (tgt := 44) hx hb dX5_fate_31 (by decide) (fun c8 => ?_) (fun c8 => ?_)
    · have h := h.1 c8
      refine lv_aload_n (pc := 44) hx hb dX5_fate_44 rfl (lv_at hl 0 rfl) ?_
      refine geDX_1 (pc := 45) cx inX5_fate_X5 kX5_fate_16 hw dX5_fate_45 ?_
      refine lv_aload_n (pc := 48) hx hb dX5_fate_48 rfl (lv_at hl 0 rfl) ?_
      refine geDX_0 (pc := 49) cx inX5_fate_X5 kX5_fate_10 hw dX5_fate_49 ?_
      refine callVv (pc := 52) (rest := []) (c1 := 0) (s1 := 0) cx hw hl (metX3_copyFrom l D cI cZ ad2 ad H.size A2 V2 A_2 V_3 _ h) (fun hts => cwV 1 hts gX5_fate_X3_copyFrom rfl rfl rfl (by decide +kernel) ⟨Nat.le_of_ble_eq_true rfl, Nat.le_of_ble_eq_true rfl⟩) subDC [0, 1] rfl 0 (ci := 3) rfl rfl rfl (jnDC) rfl rfl (Nat.le_of_ble_eq_true rfl) ⟨Nat.le_of_ble_eq_true rfl, Nat.le_of_ble_eq_true rfl⟩ rfl rfl dX5_fate_52 (fun u H locs h hw => ?_)
      obtain ⟨A_12, V_13, A_14, V_15⟩ := u
      refine lv_aload_n (pc := 55) hx hb dX5_fate_55 rfl (lv_at hl 0 rfl) ?_
      refine geDX_1 (pc := 56) cx inX5_fate_X5 kX5_fate_16 hw dX5_fate_56 ?_
      refine lv_iload_n (pc := 59) hx hb dX5_fate_59 rfl (lv_at hl 2 rfl) ?_
      refine callVi (pc := 60) (rest := []) (c1 := 0) (s1 := 0) cx hw hl (metX3_letGoBy l D cI cZ ad2 H.size A_12 V_13 x2 _ h) (fun hts => cwV 1 hts gX5_fate_X3_letGoBy rfl rfl rfl (by decide +kernel) ⟨Nat.le_of_ble_eq_true rfl, Nat.le_of_ble_eq_true rfl⟩) subD1 [0, 1] rfl 0 (ci := 3) rfl rfl rfl (jnD1) rfl rfl (Nat.le_of_ble_eq_true rfl) ⟨Nat.le_of_ble_eq_true rfl, Nat.le_of_ble_eq_true rfl⟩ rfl rfl dX5_fate_60 (fun r16 u H locs h hw => ?_)
      obtain ⟨A_17, V_18⟩ := u
      refine lv_pop (pc := 63) hx hb dX5_fate_63 rfl ?_
      refine lv_aload_n (pc := 64) hx hb dX5_fate_64 rfl (lv_at hl 0 rfl) ?_
      refine geDX_1 (pc := 65) cx inX5_fate_X5 kX5_fate_16 hw dX5_fate_65 ?_
      refine geD1_X3_3 (pc := 68) cx inX5_fate_X3 kX5_fate_105 hw dX5_fate_68 ?_
      refine geD1_X2_3 (pc := 71) cx inX5_fate_X2 kX5_fate_179 hw dX5_fate_71 ?_
      refine lv_iload_n (pc := 74) hx hb dX5_fate_74 rfl (lv_at hl 1 rfl) ?_
      refine alD1_12 (pc := 75) cx hw h.1 dX5_fate_75 ?_
      have h := h.2
      refine W.widen (k := 1) (n := 6) (Nat.le_of_ble_eq_true rfl) (Nat.le_of_ble_eq_true rfl) ?_
      exact hret 76 _ _ (A_14, V_15, A_17, V_18) _ _ rfl dX5_fate_76 h hw
    · have h := h.2 c8
      exact hthrow "java/lang/IllegalArgumentException" 23 27 (by decide) xwX5_fate_27 168 "hours is not 1 to 100" (by decide) 34 _ (A_2, V_3, A2, V2) _ _ h hw hl.1 dX5_fate_34 dX5_fate_37 dX5_fate_38 dX5_fate_40 dX5_fate_43
  · have h := h.2 c4
    exact hthrow "java/lang/IndexOutOfBoundsException" 98 102 (by decide) xwX5_fate_102 116 "no such letter" (by decide) 14 _ (A_2, V_3, A2, V2) _ _ h hw hl.1 dX5_fate_14 dX5_fate_17 dX5_fate_18 dX5_fate_20 dX5_fate_23
def wpX5_fate (A : SA) (V : SV) (A2 : SA) (V2 : SV) (x1 : Int32) (x2 : Int32) (Q : Int32 → SA → SV → SA → SV → Prop) (QX : String → SA → SV → SA → SV → Prop) : Prop := wb_X5_fate_0 Q QX A V A2 V2 x1 x2
set_option maxHeartbeats 4000000 in
set_option maxRecDepth 100000 in
theorem metX5_fate (l : Launch) (hlt : l.stackTraces = false) (D : va_G) (cI cZ : ClassId) (xa : Nat) (ad ad2 : Nat → Nat) (sz : Nat) (A : SA) (V : SV) (A2 : SA) (V2 : SV) (x1 : Int32) (x2 : Int32) (Q : Int32 → SA → SV → SA → SV → Prop) (QX : String → SA → SV → SA → SV → Prop) (h : wpX5_fate A V A2 V2 x1 x2 Q QX) : vx_Met l yX5_fate wsX5_fate rmX5_fate (PcX D [(cI, .int), (cZ, .boolean)] (wD xa ad ad2 cI cZ A V A2 V2) sz [.ref xa, .int x1, .int x2]) (QiW D [(cI, .int), (cZ, .boolean)] (wD xa ad ad2 cI cZ A V A2 V2) sz (fun u : SA × SV × SA × SV => (wD xa ad ad2 cI cZ u.1 u.2.1 u.2.2.1 u.2.2.2)) (fun r u => Q r u.1 u.2.1 u.2.2.1 u.2.2.2)) (XCW D [(cI, .int), (cZ, .boolean)] (wD xa ad ad2 cI cZ A V A2 V2) sz (fun u : SA × SV × SA × SV => (wD xa ad ad2 cI cZ u.1 u.2.1 u.2.2.1 u.2.2.2)) (fun E u => QX E u.1 u.2.1 u.2.2.1 u.2.2.2)) rmX5_fate.cells rmX5_fate.slots (va_A (wD xa ad ad2 cI cZ A V A2 V2) sz) := by
  refine startX hlt (by decide) rfl rfl (Nat.le_of_ble_eq_true rfl) (Nat.le_of_ble_eq_true rfl) (Nat.le_of_ble_eq_true rfl) (Nat.le_of_ble_eq_true rfl) (Nat.le_of_ble_eq_true rfl) ?_
  intro p e s m args below meth c A0 Z cx hw hret hthrow ls hl
  exact wk_X5_fate_0 Q QX cx hret hthrow A V A2 V2 x1 x2 h _ _ _ hw hl
abbrev rmX5_reaches : Room := { frames := 6, cells := 1, slots := 6, locals := 100 }
theorem inX5_reaches_X3 : ∀ w ∈ wsX30, w ∈ wsX5_reaches := by decide +kernel
theorem inX5_reaches_X5 : ∀ w ∈ wsX50, w ∈ wsX5_reaches := by decide +kernel
theorem xwX5_reaches_102 : ∀ w ∈ Cond.classLink RX5 98 "java/lang/IndexOutOfBoundsException" :: Cond.initialized "java/lang/IndexOutOfBoundsException" :: (vx_atS RX5 102 "java/lang/IndexOutOfBoundsException" xn).filter goodWord, w ∈ wsX5_reaches := by decide +kernel
theorem kX5_reaches_10 : Cond.fieldLink RX5 10 "DrownedPost" "now" "LDrownedPost$Office;" ∈ wsX5_reaches := by decide +kernel
theorem kX5_reaches_60 : Cond.fieldLink RX5 60 "DrownedPost$Office" "bins" "LDrownedPost$Bins;" ∈ wsX5_reaches := by decide +kernel
theorem kX5_reaches_82 : Cond.fieldLink RX5 82 "DrownedPost$Office" "drowned" "LDrownedPost$Drowned;" ∈ wsX5_reaches := by decide +kernel
def wb_X5_reaches_0 (Q : Int32 → SA → SV → SA → SV → Prop) (QX : String → SA → SV → SA → SV → Prop) (A : SA) (V : SV) (A2 : SA) (V2 : SV) (x1 : Int32) (x2 : Int32) : Prop := (wpX1_has A V x1 (fun r1 A_2 V_3 => ((r1 = 0 → QX "java/lang/IndexOutOfBoundsException" A_2 V_3 A2 V2) ∧ (¬ (r1 = 0) → (wpX0_has A_2 V_3 x2 (fun r5 A_6 V_7 => ((¬ r5 = 0 → (wpX1_heightOf A_6 V_7 x1 (fun r9 A_10 V_11 => (wpX3_hourOfReach A_10 V_11 r9 x2 (fun r12 A_13 V_14 => Q r12 A_13 V_14 A2 V2))))) ∧ (r5 = 0 → QX "java/lang/IndexOutOfBoundsException" A_6 V_7 A2 V2))))))))
set_option maxHeartbeats 4000000 in
set_option maxRecDepth 100000 in
theorem wk_X5_reaches_0 (Q : Int32 → SA → SV → SA → SV → Prop) (QX : String → SA → SV → SA → SV → Prop) (cx : CX RX5 cX5_reaches 3 wsX5_reaches D [(cI, .int), (cZ, .boolean)] p s m args c A0) (hret : ∀ (pc : Nat) (ls : Array Slot) (r : Int32) (u : SA × SV × SA × SV) (H : Heap) (locs : List Loc), narrow .int (.int r) = .int r → decode cX5_reaches pc = .ok (.ireturn, 1) → Q r u.1 u.2.1 u.2.2.1 u.2.2.2 → WS D s A0 (wD xa ad ad2 cI cZ u.1 u.2.1 u.2.2.1 u.2.2.2) H locs → W p l e rmX5_reaches s m args below meth c H locs rmX5_reaches.cells rmX5_reaches.slots Z (F0 m pc ls [.int r])) (hthrow : ∀ (cls : String) (ik ic : Nat), (cls, ik, ic) ∈ XK → (∀ w ∈ Cond.classLink RX5 ik cls :: Cond.initialized cls :: (vx_atS RX5 ic cls xn).filter goodWord, w ∈ wsX5_reaches) → ∀ (is : Nat) (text : String), (is, text) ∈ STRS → ∀ (pc : Nat) (ls : Array Slot) (u : SA × SV × SA × SV) (H : Heap) (locs : List Loc), QX cls u.1 u.2.1 u.2.2.1 u.2.2.2 → WS D s A0 (wD xa ad ad2 cI cZ u.1 u.2.1 u.2.2.1 u.2.2.2) H locs → ls.size = 3 → decode cX5_reaches pc = .ok (.new ik, 3) → decode cX5_reaches (pc + 3) = .ok (.dup, 1) → decode cX5_reaches (pc + 4) = .ok (.ldc is, 2) → decode cX5_reaches (pc + 6) = .ok (.invokespecial ic, 3) → decode cX5_reaches (pc + 9) = .ok (.athrow, 1) → W p l e rmX5_reaches s m args below meth c H locs 0 0 Z (F0 m pc ls []))  : ∀ (A : SA) (V : SV) (A2 : SA) (V2 : SV) (x1 : Int32) (x2 : Int32) (h : wb_X5_reaches_0 Q QX A V A2 V2 x1 x2) (H : Heap) (locs : List Loc) (ls : Array Slot) (hw : WS D s A0 (wD xa ad ad2 cI cZ A V A2 V2) H locs) (hl : lv_has ls 3 [(0, .ref xa), (1, .int x1), (2, .int x2)]), W p l e rmX5_reaches s m args below meth c H locs 0 0 Z (F0 m 0 ls []) := by
  obtain ⟨hx, hb, hml, hown, hts, hK, hA⟩ := id cx
  intro A V A2 V2 x1 x2 h H locs ls hw hl
  refine lv_aload_n (pc := 0) hx hb dX5_reaches_0 rfl (lv_at hl 0 rfl) ?_
  refine geDX_0 (pc := 1) cx inX5_reaches_X5 kX5_reaches_10 hw dX5_reaches_1 ?_
  refine geD0_X3_2 (pc := 4) cx inX5_reaches_X3 kX5_reaches_82 hw dX5_reaches_4 ?_
  refine lv_iload_n (pc := 7) hx hb dX5_reaches_7 rfl (lv_at hl 1 rfl) ?_
  refine callVi (pc := 8) (rest := []) (c1 := 0) (s1 := 0) cx hw hl (metX1_has l D cI cZ ad H.size A V x1 _ h) (fun hts => cwV 1 hts gX5_reaches_X1_has rfl rfl rfl (by decide +kernel) ⟨Nat.le_of_ble_eq_true rfl, Nat.le_of_ble_eq_true rfl⟩) subD0 [0, 1] rfl 3 (ci := 1) rfl rfl rfl (jnD0) rfl rfl (Nat.le_of_ble_eq_true rfl) ⟨Nat.le_of_ble_eq_true rfl, Nat.le_of_ble_eq_true rfl⟩ rfl rfl dX5_reaches_8 (fun r1 u H locs h hw => ?_)
  obtain ⟨A_2, V_3⟩ := u
  refine lv_if_eq (pc := 11) (tgt := 28) hx hb dX5_reaches_11 (by decide) (fun c4 => ?_) (fun c4 => ?_)
  · have h := h.1 c4
    exact hthrow "java/lang/IndexOutOfBoundsException" 98 102 (by decide) xwX5_reaches_102 182 "no such one of the drowned, or no such bin" (by decide) 28 _ (A_2, V_3, A2, V2) _ _ h hw hl.1 dX5_reaches_28 dX5_reaches_31 dX5_reaches_32 dX5_reaches_34 dX5_reaches_37
  · have h := h.2 c4
    refine lv_aload_n (pc := 14) hx hb dX5_reaches_14 rfl (lv_at hl 0 rfl) ?_
    refine geDX_0 (pc := 15) cx inX5_reaches_X5 kX5_reaches_10 hw dX5_reaches_15 ?_
    refine geD0_X3_1 (pc := 18) cx inX5_reaches_X3 kX5_reaches_60 hw dX5_reaches_18 ?_
    refine lv_iload_n (pc := 21) hx hb dX5_reaches_21 rfl (lv_at hl 2 rfl) ?_
    refine callVi (pc := 22) (rest := []) (c1 := 0) (s1 := 0) cx hw hl (metX0_has l D cI cZ ad H.size A_2 V_3 x2 _ h) (fun hts => cwV 1 hts gX5_reaches_X0_has rfl rfl rfl (by decide +kernel) ⟨Nat.le_of_ble_eq_true rfl, Nat.le_of_ble_eq_true rfl⟩) subD0 [0, 1] rfl 2 (ci := 0) rfl rfl rfl (jnD0) rfl rfl (Nat.le_of_ble_eq_true rfl) ⟨Nat.le_of_ble_eq_true rfl, Nat.le_of_ble_eq_true rfl⟩ rfl rfl dX5_reaches_22 (fun r5 u H locs h hw => ?_)
    obtain ⟨A_6, V_7⟩ := u
    refine lv_if_ne (pc := 25) (tgt := 38) hx hb dX5_reaches_25 (by decide) (fun c8 => ?_) (fun c8 => ?_)
    · have h := h.1 c8
      refine lv_aload_n (pc := 38) hx hb dX5_reaches_38 rfl (lv_at hl 0 rfl) ?_
      refine geDX_0 (pc := 39) cx inX5_reaches_X5 kX5_reaches_10 hw dX5_reaches_39 ?_
      refine lv_aload_n (pc := 42) hx hb dX5_reaches_42 rfl (lv_at hl 0 rfl) ?_
      refine geDX_0 (pc := 43) cx inX5_reaches_X5 kX5_reaches_10 hw dX5_reaches_43 ?_
      refine geD0_X3_2 (pc := 46) cx inX5_reaches_X3 kX5_reaches_82 hw dX5_reaches_46 ?_
      refine lv_iload_n (pc := 49) hx hb dX5_reaches_49 rfl (lv_at hl 1 rfl) ?_
      refine callVi (pc := 50) (rest := [.ref (ad 0)]) (c1 := 0) (s1 := 0) cx hw hl (metX1_heightOf l D cI cZ ad H.size A_6 V_7 x1 _ h) (fun hts => cwV 1 hts gX5_reaches_X1_heightOf rfl rfl rfl (by decide +kernel) ⟨Nat.le_of_ble_eq_true rfl, Nat.le_of_ble_eq_true rfl⟩) subD0 [0, 1] rfl 3 (ci := 1) rfl rfl rfl (jnD0) rfl rfl (Nat.le_of_ble_eq_true rfl) ⟨Nat.le_of_ble_eq_true rfl, Nat.le_of_ble_eq_true rfl⟩ rfl rfl dX5_reaches_50 (fun r9 u H locs h hw => ?_)
      obtain ⟨A_10, V_11⟩ := u
      refine lv_iload_n (pc := 53) hx hb dX5_reaches_53 rfl (lv_at hl 2 rfl) ?_
      refine callVi (pc := 54) (rest := []) (c1 := 0) (s1 := 0) cx hw hl (metX3_hourOfReach l D cI cZ ad H.size A_10 V_11 r9 x2 _ h) (fun hts => cwV 2 hts gX5_reaches_X3_hourOfReach rfl rfl rfl (by decide +kernel) ⟨Nat.le_of_ble_eq_true rfl, Nat.le_of_ble_eq_true rfl⟩) subD0 [0, 1] rfl 0 (ci := 3) rfl rfl rfl (jnD0) rfl rfl (Nat.le_of_ble_eq_true rfl) ⟨Nat.le_of_ble_eq_true rfl, Nat.le_of_ble_eq_true rfl⟩ rfl rfl dX5_reaches_54 (fun r12 u H locs h hw => ?_)
      obtain ⟨A_13, V_14⟩ := u
      refine W.widen (k := 1) (n := 6) (Nat.le_of_ble_eq_true rfl) (Nat.le_of_ble_eq_true rfl) ?_
      exact hret 57 _ _ (A_13, V_14, A2, V2) _ _ rfl dX5_reaches_57 h hw
    · have h := h.2 c8
      exact hthrow "java/lang/IndexOutOfBoundsException" 98 102 (by decide) xwX5_reaches_102 182 "no such one of the drowned, or no such bin" (by decide) 28 _ (A_6, V_7, A2, V2) _ _ h hw hl.1 dX5_reaches_28 dX5_reaches_31 dX5_reaches_32 dX5_reaches_34 dX5_reaches_37
def wpX5_reaches (A : SA) (V : SV) (A2 : SA) (V2 : SV) (x1 : Int32) (x2 : Int32) (Q : Int32 → SA → SV → SA → SV → Prop) (QX : String → SA → SV → SA → SV → Prop) : Prop := wb_X5_reaches_0 Q QX A V A2 V2 x1 x2
set_option maxHeartbeats 4000000 in
set_option maxRecDepth 100000 in
theorem metX5_reaches (l : Launch) (hlt : l.stackTraces = false) (D : va_G) (cI cZ : ClassId) (xa : Nat) (ad ad2 : Nat → Nat) (sz : Nat) (A : SA) (V : SV) (A2 : SA) (V2 : SV) (x1 : Int32) (x2 : Int32) (Q : Int32 → SA → SV → SA → SV → Prop) (QX : String → SA → SV → SA → SV → Prop) (h : wpX5_reaches A V A2 V2 x1 x2 Q QX) : vx_Met l yX5_reaches wsX5_reaches rmX5_reaches (PcX D [(cI, .int), (cZ, .boolean)] (wD xa ad ad2 cI cZ A V A2 V2) sz [.ref xa, .int x1, .int x2]) (QiW D [(cI, .int), (cZ, .boolean)] (wD xa ad ad2 cI cZ A V A2 V2) sz (fun u : SA × SV × SA × SV => (wD xa ad ad2 cI cZ u.1 u.2.1 u.2.2.1 u.2.2.2)) (fun r u => Q r u.1 u.2.1 u.2.2.1 u.2.2.2)) (XCW D [(cI, .int), (cZ, .boolean)] (wD xa ad ad2 cI cZ A V A2 V2) sz (fun u : SA × SV × SA × SV => (wD xa ad ad2 cI cZ u.1 u.2.1 u.2.2.1 u.2.2.2)) (fun E u => QX E u.1 u.2.1 u.2.2.1 u.2.2.2)) rmX5_reaches.cells rmX5_reaches.slots (va_A (wD xa ad ad2 cI cZ A V A2 V2) sz) := by
  refine startX hlt (by decide) rfl rfl (Nat.le_of_ble_eq_true rfl) (Nat.le_of_ble_eq_true rfl) (Nat.le_of_ble_eq_true rfl) (Nat.le_of_ble_eq_true rfl) (Nat.le_of_ble_eq_true rfl) ?_
  intro p e s m args below meth c A0 Z cx hw hret hthrow ls hl
  exact wk_X5_reaches_0 Q QX cx hret hthrow A V A2 V2 x1 x2 h _ _ _ hw hl
abbrev rmX5_digest : Room := { frames := 4, cells := 0, slots := 0, locals := 85 }
theorem inX5_digest_X0 : ∀ w ∈ wsX00, w ∈ wsX5_digest := by decide +kernel
theorem inX5_digest_X3 : ∀ w ∈ wsX30, w ∈ wsX5_digest := by decide +kernel
theorem inX5_digest_X5 : ∀ w ∈ wsX50, w ∈ wsX5_digest := by decide +kernel
theorem kX5_digest_10 : Cond.fieldLink RX5 10 "DrownedPost" "now" "LDrownedPost$Office;" ∈ wsX5_digest := by decide +kernel
theorem kX5_digest_105 : Cond.fieldLink RX5 105 "DrownedPost$Office" "letters" "LDrownedPost$Letters;" ∈ wsX5_digest := by decide +kernel
theorem kX5_digest_30 : Cond.fieldLink RX5 30 "DrownedPost$Office" "tides" "LDrownedPost$Tides;" ∈ wsX5_digest := by decide +kernel
theorem kX5_digest_60 : Cond.fieldLink RX5 60 "DrownedPost$Office" "bins" "LDrownedPost$Bins;" ∈ wsX5_digest := by decide +kernel
theorem kX5_digest_64 : Cond.fieldLink RX5 64 "DrownedPost$Bins" "count" "I" ∈ wsX5_digest := by decide +kernel
theorem kX5_digest_82 : Cond.fieldLink RX5 82 "DrownedPost$Office" "drowned" "LDrownedPost$Drowned;" ∈ wsX5_digest := by decide +kernel
theorem kX5_digest_w_constantLong_RX5_190__479_ : Cond.constantLong RX5 190 (479) ∈ wsX5_digest := by decide +kernel
theorem kX5_digest_w_constantLong_RX5_192__31_ : Cond.constantLong RX5 192 (31) ∈ wsX5_digest := by decide +kernel
def wl_X5_digest_65 (Q : Int64 → SA → SV → SA → SV → Prop) (K48 : SA → SV → SA → SV → Int64 → Int32 → Prop) : Nat → SA → SV → SA → SV → Int64 → Int32 → Int32 → Prop
  | 0, _, _, _, _, _, _, _ => False
  | n + 1, A, V, A2, V2, x1, x3, x4 => (((5 : Int32) ≤ x4 → K48 A V A2 V2 x1 (x3 + 1)) ∧ (¬ ((5 : Int32) ≤ x4) → (wpX3_binFact A V x3 x4 (fun r16 A_17 V_18 => wl_X5_digest_65 Q K48 n A_17 V_18 A2 V2 ((x1 * (31 : Int64)) + r16.toInt64) x3 (x4 + 1)))))
set_option maxHeartbeats 4000000 in
set_option maxRecDepth 100000 in
theorem wk_X5_digest_65 (Q : Int64 → SA → SV → SA → SV → Prop) (K48 : SA → SV → SA → SV → Int64 → Int32 → Prop) (cx : CX RX5 cX5_digest 5 wsX5_digest D [(cI, .int), (cZ, .boolean)] p s m args c A0) (hret : ∀ (pc : Nat) (ls : Array Slot) (r : Int64) (u : SA × SV × SA × SV) (H : Heap) (locs : List Loc), decode cX5_digest pc = .ok (.lreturn, 1) → Q r u.1 u.2.1 u.2.2.1 u.2.2.2 → WS D s A0 (wD xa ad ad2 cI cZ u.1 u.2.1 u.2.2.1 u.2.2.2) H locs → W p l e rmX5_digest s m args below meth c H locs rmX5_digest.cells rmX5_digest.slots Z (F0 m pc ls [.long r])) (hK48 : ∀ (A : SA) (V : SV) (A2 : SA) (V2 : SV) (x1 : Int64) (x3 : Int32) (h : K48 A V A2 V2 x1 x3) (H : Heap) (locs : List Loc) (ls : Array Slot) (hw : WS D s A0 (wD xa ad ad2 cI cZ A V A2 V2) H locs) (hl : lv_has ls 5 [(0, .ref xa), (1, .long x1), (3, .int x3)]), W p l e rmX5_digest s m args below meth c H locs 0 0 Z (F0 m 48 ls [])) : ∀ (n : Nat) (A : SA) (V : SV) (A2 : SA) (V2 : SV) (x1 : Int64) (x3 : Int32) (x4 : Int32) (h : wl_X5_digest_65 Q K48 n A V A2 V2 x1 x3 x4) (H : Heap) (locs : List Loc) (ls : Array Slot) (hw : WS D s A0 (wD xa ad ad2 cI cZ A V A2 V2) H locs) (hl : lv_has ls 5 [(0, .ref xa), (1, .long x1), (3, .int x3), (4, .int x4)]), W p l e rmX5_digest s m args below meth c H locs 0 0 Z (F0 m 65 ls []) := by
  obtain ⟨hx, hb, hml, hown, hts, hK, hA⟩ := id cx
  intro n
  induction n with
  | zero => intro A V A2 V2 x1 x3 x4 h; exact False.elim h
  | succ n ih =>
    intro A V A2 V2 x1 x3 x4 h H locs ls hw hl
    refine lv_iload (pc := 65) hx hb dX5_digest_65 (lv_at hl 3 rfl) ?_
    refine lv_iconst (pc := 67) (v := (5 : Int32)) hx hb dX5_digest_67 (by decide) ?_
    refine lv_icmp_ge (pc := 68) (tgt := 95) hx hb dX5_digest_68 (by decide) (fun c15 => ?_) (fun c15 => ?_)
    · have h := h.1 c15
      refine lv_iinc (pc := 95) (v := x3 + 1) (lv' := [(3, .int (x3 + 1)), (0, .ref xa), (1, .long x1), (4, .int x4)]) hx hb dX5_digest_95 hl (k := 2) rfl rfl (by decide) rfl (fun ls hl => ?_)
      refine lv_goto (pc := 98) (tgt := 48) hx hb dX5_digest_98 (by decide) ?_
      exact hK48 A V A2 V2 x1 (x3 + 1) h _ _ _ hw (lv_sub hl [1, 2, 0] rfl)
    · have h := h.2 c15
      refine lv_lload_n (pc := 71) hx hb dX5_digest_71 rfl (lv_at hl 1 rfl) ?_
      refine lv_ldc2 (pc := 72) (v := (31 : Int64)) hx hb hown (hts _ kX5_digest_w_constantLong_RX5_192__31_) dX5_digest_72 ?_
      refine lv_lmul (pc := 75) hx hb dX5_digest_75 ?_
      refine lv_aload_n (pc := 76) hx hb dX5_digest_76 rfl (lv_at hl 0 rfl) ?_
      refine geDX_0 (pc := 77) cx inX5_digest_X5 kX5_digest_10 hw dX5_digest_77 ?_
      refine lv_iload_n (pc := 80) hx hb dX5_digest_80 rfl (lv_at hl 2 rfl) ?_
      refine lv_iload (pc := 81) hx hb dX5_digest_81 (lv_at hl 3 rfl) ?_
      refine callVi (pc := 83) (rest := [.long (x1 * (31 : Int64))]) (c1 := 0) (s1 := 0) cx hw hl (metX3_binFact l D cI cZ ad H.size A V x3 x4 _ h) (fun hts => cwV 2 hts gX5_digest_X3_binFact rfl rfl rfl (by decide +kernel) ⟨Nat.le_of_ble_eq_true rfl, Nat.le_of_ble_eq_true rfl⟩) subD0 [0, 1] rfl 0 (ci := 3) rfl rfl rfl (jnD0) rfl rfl (Nat.le_of_ble_eq_true rfl) ⟨Nat.le_of_ble_eq_true rfl, Nat.le_of_ble_eq_true rfl⟩ rfl rfl dX5_digest_83 (fun r16 u H locs h hw => ?_)
      obtain ⟨A_17, V_18⟩ := u
      refine lv_i2l (pc := 86) (v := r16.toInt64) hx hb dX5_digest_86 rfl ?_
      refine lv_ladd (pc := 87) hx hb dX5_digest_87 ?_
      refine lv_lstore_n (pc := 88) (lv' := [(1, .long ((x1 * (31 : Int64)) + r16.toInt64)), (0, .ref xa), (3, .int x3), (4, .int x4)]) hx hb dX5_digest_88 rfl hl (by decide) rfl (fun ls hl => ?_)
      refine lv_iinc (pc := 89) (v := x4 + 1) (lv' := [(4, .int (x4 + 1)), (1, .long ((x1 * (31 : Int64)) + r16.toInt64)), (0, .ref xa), (3, .int x3)]) hx hb dX5_digest_89 hl (k := 3) rfl rfl (by decide) rfl (fun ls hl => ?_)
      refine lv_goto (pc := 92) (tgt := 65) hx hb dX5_digest_92 (by decide) ?_
      exact ih A_17 V_18 A2 V2 ((x1 * (31 : Int64)) + r16.toInt64) x3 (x4 + 1) h _ _ _ hw (lv_sub hl [2, 1, 3, 0] rfl)
def wl_X5_digest_48 (Q : Int64 → SA → SV → SA → SV → Prop) : Nat → SA → SV → SA → SV → Int64 → Int32 → Prop
  | 0, _, _, _, _, _, _ => False
  | n + 1, A, V, A2, V2, x1, x3 => (((V 1) ≤ x3 → (wpX1_digestFrom A V x1 (fun r9 A_10 V_11 => (wpX2_digestFrom A_10 V_11 r9 (fun r12 A_13 V_14 => Q r12 A_13 V_14 A2 V2))))) ∧ (¬ ((V 1) ≤ x3) → (∃ n65 : Nat, wl_X5_digest_65 Q (wl_X5_digest_48 Q n) n65 A V A2 V2 x1 x3 (0 : Int32))))
set_option maxHeartbeats 4000000 in
set_option maxRecDepth 100000 in
theorem wk_X5_digest_48 (Q : Int64 → SA → SV → SA → SV → Prop) (cx : CX RX5 cX5_digest 5 wsX5_digest D [(cI, .int), (cZ, .boolean)] p s m args c A0) (hret : ∀ (pc : Nat) (ls : Array Slot) (r : Int64) (u : SA × SV × SA × SV) (H : Heap) (locs : List Loc), decode cX5_digest pc = .ok (.lreturn, 1) → Q r u.1 u.2.1 u.2.2.1 u.2.2.2 → WS D s A0 (wD xa ad ad2 cI cZ u.1 u.2.1 u.2.2.1 u.2.2.2) H locs → W p l e rmX5_digest s m args below meth c H locs rmX5_digest.cells rmX5_digest.slots Z (F0 m pc ls [.long r]))  : ∀ (n : Nat) (A : SA) (V : SV) (A2 : SA) (V2 : SV) (x1 : Int64) (x3 : Int32) (h : wl_X5_digest_48 Q n A V A2 V2 x1 x3) (H : Heap) (locs : List Loc) (ls : Array Slot) (hw : WS D s A0 (wD xa ad ad2 cI cZ A V A2 V2) H locs) (hl : lv_has ls 5 [(0, .ref xa), (1, .long x1), (3, .int x3)]), W p l e rmX5_digest s m args below meth c H locs 0 0 Z (F0 m 48 ls []) := by
  obtain ⟨hx, hb, hml, hown, hts, hK, hA⟩ := id cx
  intro n
  induction n with
  | zero => intro A V A2 V2 x1 x3 h; exact False.elim h
  | succ n ih =>
    intro A V A2 V2 x1 x3 h H locs ls hw hl
    refine lv_iload_n (pc := 48) hx hb dX5_digest_48 rfl (lv_at hl 2 rfl) ?_
    refine lv_aload_n (pc := 49) hx hb dX5_digest_49 rfl (lv_at hl 0 rfl) ?_
    refine geDX_0 (pc := 50) cx inX5_digest_X5 kX5_digest_10 hw dX5_digest_50 ?_
    refine geD0_X3_1 (pc := 53) cx inX5_digest_X3 kX5_digest_60 hw dX5_digest_53 ?_
    refine geD0_X0_3 (pc := 56) cx inX5_digest_X0 kX5_digest_64 hw dX5_digest_56 ?_
    refine lv_icmp_ge (pc := 59) (tgt := 101) hx hb dX5_digest_59 (by decide) (fun c8 => ?_) (fun c8 => ?_)
    · have h := h.1 c8
      refine lv_aload_n (pc := 101) hx hb dX5_digest_101 rfl (lv_at hl 0 rfl) ?_
      refine geDX_0 (pc := 102) cx inX5_digest_X5 kX5_digest_10 hw dX5_digest_102 ?_
      refine geD0_X3_2 (pc := 105) cx inX5_digest_X3 kX5_digest_82 hw dX5_digest_105 ?_
      refine lv_lload_n (pc := 108) hx hb dX5_digest_108 rfl (lv_at hl 1 rfl) ?_
      refine callVl (pc := 109) (rest := []) (c1 := 0) (s1 := 0) cx hw hl (metX1_digestFrom l D cI cZ ad H.size A V x1 _ h) (fun hts => cwV 1 hts gX5_digest_X1_digestFrom rfl rfl rfl (by decide +kernel) ⟨Nat.le_of_ble_eq_true rfl, Nat.le_of_ble_eq_true rfl⟩) subD0 [0, 1] rfl 3 (ci := 1) rfl rfl rfl (jnD0) rfl rfl (Nat.le_of_ble_eq_true rfl) ⟨Nat.le_of_ble_eq_true rfl, Nat.le_of_ble_eq_true rfl⟩ rfl rfl dX5_digest_109 (fun r9 u H locs h hw => ?_)
      obtain ⟨A_10, V_11⟩ := u
      refine lv_lstore_n (pc := 112) (lv' := [(1, .long r9), (0, .ref xa), (3, .int x3)]) hx hb dX5_digest_112 rfl hl (by decide) rfl (fun ls hl => ?_)
      refine lv_aload_n (pc := 113) hx hb dX5_digest_113 rfl (lv_at hl 1 rfl) ?_
      refine geDX_0 (pc := 114) cx inX5_digest_X5 kX5_digest_10 hw dX5_digest_114 ?_
      refine geD0_X3_3 (pc := 117) cx inX5_digest_X3 kX5_digest_105 hw dX5_digest_117 ?_
      refine lv_lload_n (pc := 120) hx hb dX5_digest_120 rfl (lv_at hl 0 rfl) ?_
      refine callVl (pc := 121) (rest := []) (c1 := 0) (s1 := 0) cx hw hl (metX2_digestFrom l D cI cZ ad H.size A_10 V_11 r9 _ h) (fun hts => cwV 1 hts gX5_digest_X2_digestFrom rfl rfl rfl (by decide +kernel) ⟨Nat.le_of_ble_eq_true rfl, Nat.le_of_ble_eq_true rfl⟩) subD0 [0, 1] rfl 4 (ci := 2) rfl rfl rfl (jnD0) rfl rfl (Nat.le_of_ble_eq_true rfl) ⟨Nat.le_of_ble_eq_true rfl, Nat.le_of_ble_eq_true rfl⟩ rfl rfl dX5_digest_121 (fun r12 u H locs h hw => ?_)
      obtain ⟨A_13, V_14⟩ := u
      exact hret 124 _ _ (A_13, V_14, A2, V2) _ _ dX5_digest_124 h hw
    · have h := h.2 c8
      refine lv_iconst (pc := 62) (v := (0 : Int32)) hx hb dX5_digest_62 (by decide) ?_
      refine lv_istore (pc := 63) (lv' := [(4, .int (0 : Int32)), (0, .ref xa), (1, .long x1), (3, .int x3)]) hx hb dX5_digest_63 hl (by decide) rfl (fun ls hl => ?_)
      obtain ⟨n65, h⟩ := h
      exact wk_X5_digest_65 Q (wl_X5_digest_48 Q n) cx hret ih n65 A V A2 V2 x1 x3 (0 : Int32) h _ _ _ hw (lv_sub hl [1, 2, 3, 0] rfl)
def wl_X5_digest_6 (Q : Int64 → SA → SV → SA → SV → Prop) : Nat → SA → SV → SA → SV → Int64 → Int32 → Prop
  | 0, _, _, _, _, _, _ => False
  | n + 1, A, V, A2, V2, x1, x3 => (((13 : Int32) ≤ x3 → (wpX4_digestFrom A V x1 (fun r2 A_3 V_4 => (∃ n48 : Nat, wl_X5_digest_48 Q n48 A_3 V_4 A2 V2 r2 (0 : Int32))))) ∧ (¬ ((13 : Int32) ≤ x3) → (wpX3_total A V x3 (fun r5 A_6 V_7 => wl_X5_digest_6 Q n A_6 V_7 A2 V2 ((x1 * (31 : Int64)) + r5.toInt64) (x3 + 1)))))
set_option maxHeartbeats 4000000 in
set_option maxRecDepth 100000 in
theorem wk_X5_digest_6 (Q : Int64 → SA → SV → SA → SV → Prop) (cx : CX RX5 cX5_digest 5 wsX5_digest D [(cI, .int), (cZ, .boolean)] p s m args c A0) (hret : ∀ (pc : Nat) (ls : Array Slot) (r : Int64) (u : SA × SV × SA × SV) (H : Heap) (locs : List Loc), decode cX5_digest pc = .ok (.lreturn, 1) → Q r u.1 u.2.1 u.2.2.1 u.2.2.2 → WS D s A0 (wD xa ad ad2 cI cZ u.1 u.2.1 u.2.2.1 u.2.2.2) H locs → W p l e rmX5_digest s m args below meth c H locs rmX5_digest.cells rmX5_digest.slots Z (F0 m pc ls [.long r]))  : ∀ (n : Nat) (A : SA) (V : SV) (A2 : SA) (V2 : SV) (x1 : Int64) (x3 : Int32) (h : wl_X5_digest_6 Q n A V A2 V2 x1 x3) (H : Heap) (locs : List Loc) (ls : Array Slot) (hw : WS D s A0 (wD xa ad ad2 cI cZ A V A2 V2) H locs) (hl : lv_has ls 5 [(0, .ref xa), (1, .long x1), (3, .int x3)]), W p l e rmX5_digest s m args below meth c H locs 0 0 Z (F0 m 6 ls []) := by
  obtain ⟨hx, hb, hml, hown, hts, hK, hA⟩ := id cx
  intro n
  induction n with
  | zero => intro A V A2 V2 x1 x3 h; exact False.elim h
  | succ n ih =>
    intro A V A2 V2 x1 x3 h H locs ls hw hl
    refine lv_iload_n (pc := 6) hx hb dX5_digest_6 rfl (lv_at hl 2 rfl) ?_
    refine lv_bipush (pc := 7) (v := (13 : Int32)) hx hb dX5_digest_7 (by decide) ?_
    refine lv_icmp_ge (pc := 9) (tgt := 34) hx hb dX5_digest_9 (by decide) (fun c1 => ?_) (fun c1 => ?_)
    · have h := h.1 c1
      refine lv_aload_n (pc := 34) hx hb dX5_digest_34 rfl (lv_at hl 0 rfl) ?_
      refine geDX_0 (pc := 35) cx inX5_digest_X5 kX5_digest_10 hw dX5_digest_35 ?_
      refine geD0_X3_0 (pc := 38) cx inX5_digest_X3 kX5_digest_30 hw dX5_digest_38 ?_
      refine lv_lload_n (pc := 41) hx hb dX5_digest_41 rfl (lv_at hl 1 rfl) ?_
      refine callVl (pc := 42) (rest := []) (c1 := 0) (s1 := 0) cx hw hl (metX4_digestFrom l D cI cZ ad H.size A V x1 _ h) (fun hts => cwV 1 hts gX5_digest_X4_digestFrom rfl rfl rfl (by decide +kernel) ⟨Nat.le_of_ble_eq_true rfl, Nat.le_of_ble_eq_true rfl⟩) subD0 [0, 1] rfl 1 (ci := 4) rfl rfl rfl (jnD0) rfl rfl (Nat.le_of_ble_eq_true rfl) ⟨Nat.le_of_ble_eq_true rfl, Nat.le_of_ble_eq_true rfl⟩ rfl rfl dX5_digest_42 (fun r2 u H locs h hw => ?_)
      obtain ⟨A_3, V_4⟩ := u
      refine lv_lstore_n (pc := 45) (lv' := [(1, .long r2), (0, .ref xa), (3, .int x3)]) hx hb dX5_digest_45 rfl hl (by decide) rfl (fun ls hl => ?_)
      refine lv_iconst (pc := 46) (v := (0 : Int32)) hx hb dX5_digest_46 (by decide) ?_
      refine lv_istore_n (pc := 47) (lv' := [(3, .int (0 : Int32)), (1, .long r2), (0, .ref xa)]) hx hb dX5_digest_47 rfl hl (by decide) rfl (fun ls hl => ?_)
      obtain ⟨n48, h⟩ := h
      exact wk_X5_digest_48 Q cx hret  n48 A_3 V_4 A2 V2 r2 (0 : Int32) h _ _ _ hw (lv_sub hl [2, 1, 0] rfl)
    · have h := h.2 c1
      refine lv_lload_n (pc := 12) hx hb dX5_digest_12 rfl (lv_at hl 1 rfl) ?_
      refine lv_ldc2 (pc := 13) (v := (31 : Int64)) hx hb hown (hts _ kX5_digest_w_constantLong_RX5_192__31_) dX5_digest_13 ?_
      refine lv_lmul (pc := 16) hx hb dX5_digest_16 ?_
      refine lv_aload_n (pc := 17) hx hb dX5_digest_17 rfl (lv_at hl 0 rfl) ?_
      refine geDX_0 (pc := 18) cx inX5_digest_X5 kX5_digest_10 hw dX5_digest_18 ?_
      refine lv_iload_n (pc := 21) hx hb dX5_digest_21 rfl (lv_at hl 2 rfl) ?_
      refine callVi (pc := 22) (rest := [.long (x1 * (31 : Int64))]) (c1 := 0) (s1 := 0) cx hw hl (metX3_total l D cI cZ ad H.size A V x3 _ h) (fun hts => cwV 1 hts gX5_digest_X3_total rfl rfl rfl (by decide +kernel) ⟨Nat.le_of_ble_eq_true rfl, Nat.le_of_ble_eq_true rfl⟩) subD0 [0, 1] rfl 0 (ci := 3) rfl rfl rfl (jnD0) rfl rfl (Nat.le_of_ble_eq_true rfl) ⟨Nat.le_of_ble_eq_true rfl, Nat.le_of_ble_eq_true rfl⟩ rfl rfl dX5_digest_22 (fun r5 u H locs h hw => ?_)
      obtain ⟨A_6, V_7⟩ := u
      refine lv_i2l (pc := 25) (v := r5.toInt64) hx hb dX5_digest_25 rfl ?_
      refine lv_ladd (pc := 26) hx hb dX5_digest_26 ?_
      refine lv_lstore_n (pc := 27) (lv' := [(1, .long ((x1 * (31 : Int64)) + r5.toInt64)), (0, .ref xa), (3, .int x3)]) hx hb dX5_digest_27 rfl hl (by decide) rfl (fun ls hl => ?_)
      refine lv_iinc (pc := 28) (v := x3 + 1) (lv' := [(3, .int (x3 + 1)), (1, .long ((x1 * (31 : Int64)) + r5.toInt64)), (0, .ref xa)]) hx hb dX5_digest_28 hl (k := 2) rfl rfl (by decide) rfl (fun ls hl => ?_)
      refine lv_goto (pc := 31) (tgt := 6) hx hb dX5_digest_31 (by decide) ?_
      exact ih A_6 V_7 A2 V2 ((x1 * (31 : Int64)) + r5.toInt64) (x3 + 1) h _ _ _ hw (lv_sub hl [2, 1, 0] rfl)
def wb_X5_digest_0 (Q : Int64 → SA → SV → SA → SV → Prop) (A : SA) (V : SV) (A2 : SA) (V2 : SV) : Prop := (∃ n6 : Nat, wl_X5_digest_6 Q n6 A V A2 V2 (479 : Int64) (0 : Int32))
set_option maxHeartbeats 4000000 in
set_option maxRecDepth 100000 in
theorem wk_X5_digest_0 (Q : Int64 → SA → SV → SA → SV → Prop) (cx : CX RX5 cX5_digest 5 wsX5_digest D [(cI, .int), (cZ, .boolean)] p s m args c A0) (hret : ∀ (pc : Nat) (ls : Array Slot) (r : Int64) (u : SA × SV × SA × SV) (H : Heap) (locs : List Loc), decode cX5_digest pc = .ok (.lreturn, 1) → Q r u.1 u.2.1 u.2.2.1 u.2.2.2 → WS D s A0 (wD xa ad ad2 cI cZ u.1 u.2.1 u.2.2.1 u.2.2.2) H locs → W p l e rmX5_digest s m args below meth c H locs rmX5_digest.cells rmX5_digest.slots Z (F0 m pc ls [.long r]))  : ∀ (A : SA) (V : SV) (A2 : SA) (V2 : SV) (h : wb_X5_digest_0 Q A V A2 V2) (H : Heap) (locs : List Loc) (ls : Array Slot) (hw : WS D s A0 (wD xa ad ad2 cI cZ A V A2 V2) H locs) (hl : lv_has ls 5 [(0, .ref xa)]), W p l e rmX5_digest s m args below meth c H locs 0 0 Z (F0 m 0 ls []) := by
  obtain ⟨hx, hb, hml, hown, hts, hK, hA⟩ := id cx
  intro A V A2 V2 h H locs ls hw hl
  refine lv_ldc2 (pc := 0) (v := (479 : Int64)) hx hb hown (hts _ kX5_digest_w_constantLong_RX5_190__479_) dX5_digest_0 ?_
  refine lv_lstore_n (pc := 3) (lv' := [(1, .long (479 : Int64)), (0, .ref xa)]) hx hb dX5_digest_3 rfl hl (by decide) rfl (fun ls hl => ?_)
  refine lv_iconst (pc := 4) (v := (0 : Int32)) hx hb dX5_digest_4 (by decide) ?_
  refine lv_istore_n (pc := 5) (lv' := [(3, .int (0 : Int32)), (1, .long (479 : Int64)), (0, .ref xa)]) hx hb dX5_digest_5 rfl hl (by decide) rfl (fun ls hl => ?_)
  obtain ⟨n6, h⟩ := h
  exact wk_X5_digest_6 Q cx hret  n6 A V A2 V2 (479 : Int64) (0 : Int32) h _ _ _ hw (lv_sub hl [2, 1, 0] rfl)
def wpX5_digest (A : SA) (V : SV) (A2 : SA) (V2 : SV)  (Q : Int64 → SA → SV → SA → SV → Prop) : Prop := wb_X5_digest_0 Q A V A2 V2
set_option maxHeartbeats 4000000 in
set_option maxRecDepth 100000 in
theorem metX5_digest (l : Launch) (D : va_G) (cI cZ : ClassId) (xa : Nat) (ad ad2 : Nat → Nat) (sz : Nat) (A : SA) (V : SV) (A2 : SA) (V2 : SV)  (Q : Int64 → SA → SV → SA → SV → Prop) (h : wpX5_digest A V A2 V2  Q) : Met l yX5_digest wsX5_digest rmX5_digest (PcW D [(cI, .int), (cZ, .boolean)] (wD xa ad ad2 cI cZ A V A2 V2) sz [.ref xa]) (QlW D [(cI, .int), (cZ, .boolean)] (wD xa ad ad2 cI cZ A V A2 V2) sz (fun u : SA × SV × SA × SV => (wD xa ad ad2 cI cZ u.1 u.2.1 u.2.2.1 u.2.2.2)) (fun r u => Q r u.1 u.2.1 u.2.2.1 u.2.2.2)) rmX5_digest.cells rmX5_digest.slots (va_A (wD xa ad ad2 cI cZ A V A2 V2) sz) := by
  refine startL (plainFor_of_name (by decide)) rfl (Nat.le_of_ble_eq_true rfl) ?_
  intro p e s m args below meth c A0 Z cx hw hret ls hl
  exact wk_X5_digest_0 Q cx hret A V A2 V2 h _ _ _ hw hl
end GENV
