section GENV
variable {p : Program} {l : Launch} {e : Env} {s : State} {m : MethodId} {args : Array Value} {below : List Frame} {meth : Method} {c : Code} {A0 : Nat → Prop} {Z : State → Prop} {D : va_G} {cI cZ : ClassId} {ad : Nat → Nat} {tys : TYS} {xa : Nat} {ad2 : Nat → Nat}
abbrev rmX6_thrown : Room := { frames := 0, cells := 0, slots := 0, locals := 0 }
theorem inX6_thrown_X6 : ∀ w ∈ wsX60, w ∈ wsX6_thrown := by decide +kernel
theorem kX6_thrown_42 : Cond.fieldLink RX6 42 "DrownedPostModel" "thrown" "I" ∈ wsX6_thrown := by decide +kernel
def wb_X6_thrown_0 (Q : Int32 → SA → SV → Prop) (A : SA) (V : SV) : Prop := Q (V 0) A V
set_option maxHeartbeats 4000000 in
set_option maxRecDepth 100000 in
theorem wk_X6_thrown_0 (Q : Int32 → SA → SV → Prop) (cx : CX RX6 cX6_thrown 1 wsX6_thrown D [(cI, .int), (cZ, .boolean)] p s m args c A0) (hret : ∀ (pc : Nat) (ls : Array Slot) (r : Int32) (u : SA × SV) (H : Heap) (locs : List Loc), narrow .int (.int r) = .int r → decode cX6_thrown pc = .ok (.ireturn, 1) → Q r u.1 u.2 → WS D s A0 (wM ad cI cZ u.1 u.2) H locs → W p l e rmX6_thrown s m args below meth c H locs rmX6_thrown.cells rmX6_thrown.slots Z (F0 m pc ls [.int r]))  : ∀ (A : SA) (V : SV) (h : wb_X6_thrown_0 Q A V) (H : Heap) (locs : List Loc) (ls : Array Slot) (hw : WS D s A0 (wM ad cI cZ A V) H locs) (hl : lv_has ls 1 [(0, .ref (ad 0))]), W p l e rmX6_thrown s m args below meth c H locs 0 0 Z (F0 m 0 ls []) := by
  obtain ⟨hx, hb, hml, hown, hts, hK, hA⟩ := id cx
  intro A V h H locs ls hw hl
  refine lv_aload_n (pc := 0) hx hb dX6_thrown_0 rfl (lv_at hl 0 rfl) ?_
  refine geM_X6_0 (pc := 1) cx inX6_thrown_X6 kX6_thrown_42 hw dX6_thrown_1 ?_
  exact hret 4 _ _ (A, V) _ _ rfl dX6_thrown_4 h hw
def wpX6_thrown (A : SA) (V : SV)  (Q : Int32 → SA → SV → Prop) : Prop := wb_X6_thrown_0 Q A V
set_option maxHeartbeats 4000000 in
set_option maxRecDepth 100000 in
theorem metX6_thrown (l : Launch) (D : va_G) (cI cZ : ClassId) (ad : Nat → Nat) (sz : Nat) (A : SA) (V : SV)  (Q : Int32 → SA → SV → Prop) (h : wpX6_thrown A V  Q) : Met l yX6_thrown wsX6_thrown rmX6_thrown (PcW D [(cI, .int), (cZ, .boolean)] (wM ad cI cZ A V) sz [.ref (ad 0)]) (QiW D [(cI, .int), (cZ, .boolean)] (wM ad cI cZ A V) sz (fun u : SA × SV => (wM ad cI cZ u.1 u.2)) (fun r u => Q r u.1 u.2)) rmX6_thrown.cells rmX6_thrown.slots (va_A (wM ad cI cZ A V) sz) := by
  refine startI (plainFor_of_name (by decide)) rfl (Nat.le_of_ble_eq_true rfl) ?_
  intro p e s m args below meth c A0 Z cx hw hret ls hl
  exact wk_X6_thrown_0 Q cx hret A V h _ _ _ hw hl
abbrev rmX6_fail : Room := { frames := 0, cells := 0, slots := 0, locals := 0 }
theorem inX6_fail_X6 : ∀ w ∈ wsX60, w ∈ wsX6_fail := by decide +kernel
theorem kX6_fail_42 : Cond.fieldLink RX6 42 "DrownedPostModel" "thrown" "I" ∈ wsX6_fail := by decide +kernel
def wb_X6_fail_0 (Q : Int32 → SA → SV → Prop) (A : SA) (V : SV) (x1 : Int32) : Prop := (∀ V_1 : SV, V_1 = uv V 0 x1 → Q (0 : Int32) A V_1)
set_option maxHeartbeats 4000000 in
set_option maxRecDepth 100000 in
theorem wk_X6_fail_0 (Q : Int32 → SA → SV → Prop) (cx : CX RX6 cX6_fail 2 wsX6_fail D [(cI, .int), (cZ, .boolean)] p s m args c A0) (hret : ∀ (pc : Nat) (ls : Array Slot) (r : Int32) (u : SA × SV) (H : Heap) (locs : List Loc), narrow .int (.int r) = .int r → decode cX6_fail pc = .ok (.ireturn, 1) → Q r u.1 u.2 → WS D s A0 (wM ad cI cZ u.1 u.2) H locs → W p l e rmX6_fail s m args below meth c H locs rmX6_fail.cells rmX6_fail.slots Z (F0 m pc ls [.int r]))  : ∀ (A : SA) (V : SV) (x1 : Int32) (h : wb_X6_fail_0 Q A V x1) (H : Heap) (locs : List Loc) (ls : Array Slot) (hw : WS D s A0 (wM ad cI cZ A V) H locs) (hl : lv_has ls 2 [(0, .ref (ad 0)), (1, .int x1)]), W p l e rmX6_fail s m args below meth c H locs 0 0 Z (F0 m 0 ls []) := by
  obtain ⟨hx, hb, hml, hown, hts, hK, hA⟩ := id cx
  intro A V x1 h H locs ls hw hl
  refine lv_aload_n (pc := 0) hx hb dX6_fail_0 rfl (lv_at hl 0 rfl) ?_
  refine lv_iload_n (pc := 1) hx hb dX6_fail_1 rfl (lv_at hl 1 rfl) ?_
  refine puM_X6_0 (pc := 2) cx inX6_fail_X6 kX6_fail_42 hw dX6_fail_2 (fun V_1 eV_1 H locs hw => ?_)
  have h := h V_1 eV_1
  refine lv_iconst (pc := 5) (v := (0 : Int32)) hx hb dX6_fail_5 (by decide) ?_
  exact hret 6 _ _ (A, V_1) _ _ rfl dX6_fail_6 h hw
def wpX6_fail (A : SA) (V : SV) (x1 : Int32) (Q : Int32 → SA → SV → Prop) : Prop := wb_X6_fail_0 Q A V x1
set_option maxHeartbeats 4000000 in
set_option maxRecDepth 100000 in
theorem metX6_fail (l : Launch) (D : va_G) (cI cZ : ClassId) (ad : Nat → Nat) (sz : Nat) (A : SA) (V : SV) (x1 : Int32) (Q : Int32 → SA → SV → Prop) (h : wpX6_fail A V x1 Q) : Met l yX6_fail wsX6_fail rmX6_fail (PcW D [(cI, .int), (cZ, .boolean)] (wM ad cI cZ A V) sz [.ref (ad 0), .int x1]) (QiW D [(cI, .int), (cZ, .boolean)] (wM ad cI cZ A V) sz (fun u : SA × SV => (wM ad cI cZ u.1 u.2)) (fun r u => Q r u.1 u.2)) rmX6_fail.cells rmX6_fail.slots (va_A (wM ad cI cZ A V) sz) := by
  refine startI (plainFor_of_name (by decide)) rfl (Nat.le_of_ble_eq_true rfl) ?_
  intro p e s m args below meth c A0 Z cx hw hret ls hl
  exact wk_X6_fail_0 Q cx hret A V x1 h _ _ _ hw hl
abbrev rmX6_isIn : Room := { frames := 0, cells := 0, slots := 0, locals := 0 }
def wb_X6_isIn_0 (Q : Int32 → Prop) (x0 : Int32) (x1 : Int32) (x2 : Int32) : Prop := ((x0 < x1 → Q (0 : Int32)) ∧ (¬ (x0 < x1) → ((x2 < x0 → Q (0 : Int32)) ∧ (¬ (x2 < x0) → Q (1 : Int32)))))
set_option maxHeartbeats 4000000 in
set_option maxRecDepth 100000 in
theorem wk_X6_isIn_0 (Q : Int32 → Prop) (cx : CX RX6 cX6_isIn 3 wsX6_isIn D tys p s m args c A0) (hret : ∀ (pc : Nat) (ls : Array Slot) (r : Int32) (u : Unit) (H : Heap) (locs : List Loc), narrow .boolean (.int r) = .int r → decode cX6_isIn pc = .ok (.ireturn, 1) → Q r → WS D s A0 ([] : va_W) H locs → W p l e rmX6_isIn s m args below meth c H locs rmX6_isIn.cells rmX6_isIn.slots Z (F0 m pc ls [.int r]))  : ∀ (x0 : Int32) (x1 : Int32) (x2 : Int32) (h : wb_X6_isIn_0 Q x0 x1 x2) (H : Heap) (locs : List Loc) (ls : Array Slot) (hw : WS D s A0 ([] : va_W) H locs) (hl : lv_has ls 3 [(0, .int x0), (1, .int x1), (2, .int x2)]), W p l e rmX6_isIn s m args below meth c H locs 0 0 Z (F0 m 0 ls []) := by
  obtain ⟨hx, hb, hml, hown, hts, hK, hA⟩ := id cx
  intro x0 x1 x2 h H locs ls hw hl
  refine lv_iload_n (pc := 0) hx hb dX6_isIn_0 rfl (lv_at hl 0 rfl) ?_
  refine lv_iload_n (pc := 1) hx hb dX6_isIn_1 rfl (lv_at hl 1 rfl) ?_
  refine lv_icmp_lt (pc := 2) (tgt := 14) hx hb dX6_isIn_2 (by decide) (fun c1 => ?_) (fun c1 => ?_)
  · have h := h.1 c1
    refine lv_iconst (pc := 14) (v := (0 : Int32)) hx hb dX6_isIn_14 (by decide) ?_
    exact hret 15 _ _ () _ _ rfl dX6_isIn_15 h hw
  · have h := h.2 c1
    refine lv_iload_n (pc := 5) hx hb dX6_isIn_5 rfl (lv_at hl 0 rfl) ?_
    refine lv_iload_n (pc := 6) hx hb dX6_isIn_6 rfl (lv_at hl 2 rfl) ?_
    refine lv_icmp_gt (pc := 7) (tgt := 14) hx hb dX6_isIn_7 (by decide) (fun c2 => ?_) (fun c2 => ?_)
    · have h := h.1 c2
      refine lv_iconst (pc := 14) (v := (0 : Int32)) hx hb dX6_isIn_14 (by decide) ?_
      exact hret 15 _ _ () _ _ rfl dX6_isIn_15 h hw
    · have h := h.2 c2
      refine lv_iconst (pc := 10) (v := (1 : Int32)) hx hb dX6_isIn_10 (by decide) ?_
      refine lv_goto (pc := 11) (tgt := 15) hx hb dX6_isIn_11 (by decide) ?_
      exact hret 15 _ _ () _ _ rfl dX6_isIn_15 h hw
def wpX6_isIn (x0 : Int32) (x1 : Int32) (x2 : Int32) (Q : Int32 → Prop) : Prop := wb_X6_isIn_0 Q x0 x1 x2
set_option maxHeartbeats 4000000 in
set_option maxRecDepth 100000 in
theorem metX6_isIn (l : Launch) (D : va_G) (tys : TYS) (sz : Nat) (x0 : Int32) (x1 : Int32) (x2 : Int32) (Q : Int32 → Prop) (h : wpX6_isIn x0 x1 x2 Q) : Met l yX6_isIn wsX6_isIn rmX6_isIn (PcW D tys ([] : va_W) sz [.int x0, .int x1, .int x2]) (QiW D tys ([] : va_W) sz (fun u : Unit => ([] : va_W)) (fun r u => Q r)) rmX6_isIn.cells rmX6_isIn.slots (va_A ([] : va_W) sz) := by
  refine startI (plainFor_of_name (by decide)) rfl (Nat.le_of_ble_eq_true rfl) ?_
  intro p e s m args below meth c A0 Z cx hw hret ls hl
  exact wk_X6_isIn_0 Q cx hret x0 x1 x2 h _ _ _ hw hl
abbrev rmX6_isHeight : Room := { frames := 1, cells := 0, slots := 0, locals := 22 }
def wb_X6_isHeight_0 (Q : Int32 → Prop) (x0 : Int32) : Prop := (wpX6_isIn x0 (0 : Int32) (99 : Int32) (fun r1 => ((r1 = 0 ∨ r1 = 1) ∧ Q r1)))
set_option maxHeartbeats 4000000 in
set_option maxRecDepth 100000 in
theorem wk_X6_isHeight_0 (Q : Int32 → Prop) (cx : CX RX6 cX6_isHeight 1 wsX6_isHeight D tys p s m args c A0) (hret : ∀ (pc : Nat) (ls : Array Slot) (r : Int32) (u : Unit) (H : Heap) (locs : List Loc), narrow .boolean (.int r) = .int r → decode cX6_isHeight pc = .ok (.ireturn, 1) → Q r → WS D s A0 ([] : va_W) H locs → W p l e rmX6_isHeight s m args below meth c H locs rmX6_isHeight.cells rmX6_isHeight.slots Z (F0 m pc ls [.int r]))  : ∀ (x0 : Int32) (h : wb_X6_isHeight_0 Q x0) (H : Heap) (locs : List Loc) (ls : Array Slot) (hw : WS D s A0 ([] : va_W) H locs) (hl : lv_has ls 1 [(0, .int x0)]), W p l e rmX6_isHeight s m args below meth c H locs 0 0 Z (F0 m 0 ls []) := by
  obtain ⟨hx, hb, hml, hown, hts, hK, hA⟩ := id cx
  intro x0 h H locs ls hw hl
  refine lv_iload_n (pc := 0) hx hb dX6_isHeight_0 rfl (lv_at hl 0 rfl) ?_
  refine lv_iconst (pc := 1) (v := (0 : Int32)) hx hb dX6_isHeight_1 (by decide) ?_
  refine lv_bipush (pc := 2) (v := (99 : Int32)) hx hb dX6_isHeight_2 (by decide) ?_
  refine callSi (pc := 4) (rest := []) (c1 := 0) (s1 := 0) cx hw hl (metX6_isIn l D [] H.size x0 (0 : Int32) (99 : Int32) _ h) (fun hts => va_cwS 3 hts gX6_isHeight_X6_isIn rfl rfl rfl (by decide +kernel) ⟨Nat.le_of_ble_eq_true rfl, Nat.le_of_ble_eq_true rfl⟩) SUB.nil [] rfl (JN.nil (S := Unit)) rfl rfl (Nat.le_of_ble_eq_true rfl) ⟨Nat.le_of_ble_eq_true rfl, Nat.le_of_ble_eq_true rfl⟩ rfl rfl dX6_isHeight_4 (fun r1 u H locs h hw => ?_)
  exact hret 7 _ _ () _ _ (nar01 h.1) dX6_isHeight_7 h.2 hw
def wpX6_isHeight (x0 : Int32) (Q : Int32 → Prop) : Prop := wb_X6_isHeight_0 Q x0
set_option maxHeartbeats 4000000 in
set_option maxRecDepth 100000 in
theorem metX6_isHeight (l : Launch) (D : va_G) (tys : TYS) (sz : Nat) (x0 : Int32) (Q : Int32 → Prop) (h : wpX6_isHeight x0 Q) : Met l yX6_isHeight wsX6_isHeight rmX6_isHeight (PcW D tys ([] : va_W) sz [.int x0]) (QiW D tys ([] : va_W) sz (fun u : Unit => ([] : va_W)) (fun r u => Q r)) rmX6_isHeight.cells rmX6_isHeight.slots (va_A ([] : va_W) sz) := by
  refine startI (plainFor_of_name (by decide)) rfl (Nat.le_of_ble_eq_true rfl) ?_
  intro p e s m args below meth c A0 Z cx hw hret ls hl
  exact wk_X6_isHeight_0 Q cx hret x0 h _ _ _ hw hl
abbrev rmX6_get : Room := { frames := 0, cells := 0, slots := 0, locals := 0 }
theorem inX6_get_X6 : ∀ w ∈ wsX60, w ∈ wsX6_get := by decide +kernel
theorem kX6_get_23 : Cond.fieldLink RX6 23 "DrownedPostModel" "table" "[I" ∈ wsX6_get := by decide +kernel
def wb_X6_get_0 (Q : Int32 → SA → SV → Prop) (A : SA) (V : SV) (x1 : Int32) (x2 : Int32) : Prop := (vp_in (((9 : Int32) * x1) + x2) 1350 ∧ Q (A 3 (((9 : Int32) * x1) + x2).toNatClampNeg) A V)
set_option maxHeartbeats 4000000 in
set_option maxRecDepth 100000 in
theorem wk_X6_get_0 (Q : Int32 → SA → SV → Prop) (cx : CX RX6 cX6_get 3 wsX6_get D [(cI, .int), (cZ, .boolean)] p s m args c A0) (hret : ∀ (pc : Nat) (ls : Array Slot) (r : Int32) (u : SA × SV) (H : Heap) (locs : List Loc), narrow .int (.int r) = .int r → decode cX6_get pc = .ok (.ireturn, 1) → Q r u.1 u.2 → WS D s A0 (wM ad cI cZ u.1 u.2) H locs → W p l e rmX6_get s m args below meth c H locs rmX6_get.cells rmX6_get.slots Z (F0 m pc ls [.int r]))  : ∀ (A : SA) (V : SV) (x1 : Int32) (x2 : Int32) (h : wb_X6_get_0 Q A V x1 x2) (H : Heap) (locs : List Loc) (ls : Array Slot) (hw : WS D s A0 (wM ad cI cZ A V) H locs) (hl : lv_has ls 3 [(0, .ref (ad 0)), (1, .int x1), (2, .int x2)]), W p l e rmX6_get s m args below meth c H locs 0 0 Z (F0 m 0 ls []) := by
  obtain ⟨hx, hb, hml, hown, hts, hK, hA⟩ := id cx
  intro A V x1 x2 h H locs ls hw hl
  refine lv_aload_n (pc := 0) hx hb dX6_get_0 rfl (lv_at hl 0 rfl) ?_
  refine geM_X6_9 (pc := 1) cx inX6_get_X6 kX6_get_23 hw dX6_get_1 ?_
  refine lv_bipush (pc := 4) (v := (9 : Int32)) hx hb dX6_get_4 (by decide) ?_
  refine lv_iload_n (pc := 6) hx hb dX6_get_6 rfl (lv_at hl 1 rfl) ?_
  refine lv_imul (pc := 7) hx hb dX6_get_7 ?_
  refine lv_iload_n (pc := 8) hx hb dX6_get_8 rfl (lv_at hl 2 rfl) ?_
  refine lv_iadd (pc := 9) hx hb dX6_get_9 ?_
  refine alM_3 (pc := 10) cx hw h.1 dX6_get_10 ?_
  have h := h.2
  exact hret 11 _ _ (A, V) _ _ rfl dX6_get_11 h hw
def wpX6_get (A : SA) (V : SV) (x1 : Int32) (x2 : Int32) (Q : Int32 → SA → SV → Prop) : Prop := wb_X6_get_0 Q A V x1 x2
set_option maxHeartbeats 4000000 in
set_option maxRecDepth 100000 in
theorem metX6_get (l : Launch) (D : va_G) (cI cZ : ClassId) (ad : Nat → Nat) (sz : Nat) (A : SA) (V : SV) (x1 : Int32) (x2 : Int32) (Q : Int32 → SA → SV → Prop) (h : wpX6_get A V x1 x2 Q) : Met l yX6_get wsX6_get rmX6_get (PcW D [(cI, .int), (cZ, .boolean)] (wM ad cI cZ A V) sz [.ref (ad 0), .int x1, .int x2]) (QiW D [(cI, .int), (cZ, .boolean)] (wM ad cI cZ A V) sz (fun u : SA × SV => (wM ad cI cZ u.1 u.2)) (fun r u => Q r u.1 u.2)) rmX6_get.cells rmX6_get.slots (va_A (wM ad cI cZ A V) sz) := by
  refine startI (plainFor_of_name (by decide)) rfl (Nat.le_of_ble_eq_true rfl) ?_
  intro p e s m args below meth c A0 Z cx hw hret ls hl
  exact wk_X6_get_0 Q cx hret A V x1 x2 h _ _ _ hw hl
abbrev rmX6_set : Room := { frames := 0, cells := 0, slots := 0, locals := 0 }
theorem inX6_set_X6 : ∀ w ∈ wsX60, w ∈ wsX6_set := by decide +kernel
theorem kX6_set_23 : Cond.fieldLink RX6 23 "DrownedPostModel" "table" "[I" ∈ wsX6_set := by decide +kernel
def wb_X6_set_0 (Q : SA → SV → Prop) (A : SA) (V : SV) (x1 : Int32) (x2 : Int32) (x3 : Int32) : Prop := (vp_in (((9 : Int32) * x1) + x2) 1350 ∧ (∀ A_1 : SA, A_1 = up A 3 (((9 : Int32) * x1) + x2).toNatClampNeg x3 → Q A_1 V))
set_option maxHeartbeats 4000000 in
set_option maxRecDepth 100000 in
theorem wk_X6_set_0 (Q : SA → SV → Prop) (cx : CX RX6 cX6_set 4 wsX6_set D [(cI, .int), (cZ, .boolean)] p s m args c A0) (hret : ∀ (pc : Nat) (ls : Array Slot) (u : SA × SV) (H : Heap) (locs : List Loc), decode cX6_set pc = .ok (.return_, 1) → Q u.1 u.2 → WS D s A0 (wM ad cI cZ u.1 u.2) H locs → W p l e rmX6_set s m args below meth c H locs rmX6_set.cells rmX6_set.slots Z (F0 m pc ls []))  : ∀ (A : SA) (V : SV) (x1 : Int32) (x2 : Int32) (x3 : Int32) (h : wb_X6_set_0 Q A V x1 x2 x3) (H : Heap) (locs : List Loc) (ls : Array Slot) (hw : WS D s A0 (wM ad cI cZ A V) H locs) (hl : lv_has ls 4 [(0, .ref (ad 0)), (1, .int x1), (2, .int x2), (3, .int x3)]), W p l e rmX6_set s m args below meth c H locs 0 0 Z (F0 m 0 ls []) := by
  obtain ⟨hx, hb, hml, hown, hts, hK, hA⟩ := id cx
  intro A V x1 x2 x3 h H locs ls hw hl
  refine lv_aload_n (pc := 0) hx hb dX6_set_0 rfl (lv_at hl 0 rfl) ?_
  refine geM_X6_9 (pc := 1) cx inX6_set_X6 kX6_set_23 hw dX6_set_1 ?_
  refine lv_bipush (pc := 4) (v := (9 : Int32)) hx hb dX6_set_4 (by decide) ?_
  refine lv_iload_n (pc := 6) hx hb dX6_set_6 rfl (lv_at hl 1 rfl) ?_
  refine lv_imul (pc := 7) hx hb dX6_set_7 ?_
  refine lv_iload_n (pc := 8) hx hb dX6_set_8 rfl (lv_at hl 2 rfl) ?_
  refine lv_iadd (pc := 9) hx hb dX6_set_9 ?_
  refine lv_iload_n (pc := 10) hx hb dX6_set_10 rfl (lv_at hl 3 rfl) ?_
  refine asM_3 (pc := 11) cx hw h.1 dX6_set_11 (fun A_1 eA_1 H locs hw => ?_)
  have h := h.2 A_1 eA_1
  exact hret 12 _ (A_1, V) _ _ dX6_set_12 h hw
def wpX6_set (A : SA) (V : SV) (x1 : Int32) (x2 : Int32) (x3 : Int32) (Q : SA → SV → Prop) : Prop := wb_X6_set_0 Q A V x1 x2 x3
set_option maxHeartbeats 4000000 in
set_option maxRecDepth 100000 in
theorem metX6_set (l : Launch) (D : va_G) (cI cZ : ClassId) (ad : Nat → Nat) (sz : Nat) (A : SA) (V : SV) (x1 : Int32) (x2 : Int32) (x3 : Int32) (Q : SA → SV → Prop) (h : wpX6_set A V x1 x2 x3 Q) : Met l yX6_set wsX6_set rmX6_set (PcW D [(cI, .int), (cZ, .boolean)] (wM ad cI cZ A V) sz [.ref (ad 0), .int x1, .int x2, .int x3]) (QvW D [(cI, .int), (cZ, .boolean)] (wM ad cI cZ A V) sz (fun u : SA × SV => (wM ad cI cZ u.1 u.2)) (fun u => Q u.1 u.2)) rmX6_set.cells rmX6_set.slots (va_A (wM ad cI cZ A V) sz) := by
  refine startV (plainFor_of_name (by decide)) rfl (Nat.le_of_ble_eq_true rfl) ?_
  intro p e s m args below meth c A0 Z cx hw hret ls hl
  exact wk_X6_set_0 Q cx hret A V x1 x2 x3 h _ _ _ hw hl
abbrev rmX6_isIn_ : Room := { frames := 1, cells := 0, slots := 0, locals := 22 }
def wb_X6_isIn__0 (Q : Int32 → SA → SV → Prop) (A : SA) (V : SV) (x1 : Int32) (x2 : Int32) : Prop := (wpX6_get A V x1 (3 : Int32) (fun r1 A_4 V_5 => ((¬ r1 = x2 → Q (0 : Int32) A_4 V_5) ∧ (r1 = x2 → Q (1 : Int32) A_4 V_5))))
set_option maxHeartbeats 4000000 in
set_option maxRecDepth 100000 in
theorem wk_X6_isIn__0 (Q : Int32 → SA → SV → Prop) (cx : CX RX6 cX6_isIn_ 3 wsX6_isIn_ D [(cI, .int), (cZ, .boolean)] p s m args c A0) (hret : ∀ (pc : Nat) (ls : Array Slot) (r : Int32) (u : SA × SV) (H : Heap) (locs : List Loc), narrow .boolean (.int r) = .int r → decode cX6_isIn_ pc = .ok (.ireturn, 1) → Q r u.1 u.2 → WS D s A0 (wM ad cI cZ u.1 u.2) H locs → W p l e rmX6_isIn_ s m args below meth c H locs rmX6_isIn_.cells rmX6_isIn_.slots Z (F0 m pc ls [.int r]))  : ∀ (A : SA) (V : SV) (x1 : Int32) (x2 : Int32) (h : wb_X6_isIn__0 Q A V x1 x2) (H : Heap) (locs : List Loc) (ls : Array Slot) (hw : WS D s A0 (wM ad cI cZ A V) H locs) (hl : lv_has ls 3 [(0, .ref (ad 0)), (1, .int x1), (2, .int x2)]), W p l e rmX6_isIn_ s m args below meth c H locs 0 0 Z (F0 m 0 ls []) := by
  obtain ⟨hx, hb, hml, hown, hts, hK, hA⟩ := id cx
  intro A V x1 x2 h H locs ls hw hl
  refine lv_aload_n (pc := 0) hx hb dX6_isIn__0 rfl (lv_at hl 0 rfl) ?_
  refine lv_iload_n (pc := 1) hx hb dX6_isIn__1 rfl (lv_at hl 1 rfl) ?_
  refine lv_iconst (pc := 2) (v := (3 : Int32)) hx hb dX6_isIn__2 (by decide) ?_
  refine callVi (pc := 3) (rest := []) (c1 := 0) (s1 := 0) cx hw hl (metX6_get l D cI cZ ad H.size A V x1 (3 : Int32) _ h) (fun hts => cwV 2 hts gX6_isIn__X6_get rfl rfl rfl (by decide +kernel) ⟨Nat.le_of_ble_eq_true rfl, Nat.le_of_ble_eq_true rfl⟩) SUB.rf [0, 1] rfl 0 (ci := 6) rfl rfl rfl (JN.rf) rfl rfl (Nat.le_of_ble_eq_true rfl) ⟨Nat.le_of_ble_eq_true rfl, Nat.le_of_ble_eq_true rfl⟩ rfl rfl dX6_isIn__3 (fun r1 u H locs h hw => ?_)
  obtain ⟨A_4, V_5⟩ := u
  refine lv_iload_n (pc := 6) hx hb dX6_isIn__6 rfl (lv_at hl 2 rfl) ?_
  refine lv_icmp_ne (pc := 7) (tgt := 14) hx hb dX6_isIn__7 (by decide) (fun c6 => ?_) (fun c6 => ?_)
  · have h := h.1 c6
    refine lv_iconst (pc := 14) (v := (0 : Int32)) hx hb dX6_isIn__14 (by decide) ?_
    exact hret 15 _ _ (A_4, V_5) _ _ rfl dX6_isIn__15 h hw
  · have h := h.2 c6
    refine lv_iconst (pc := 10) (v := (1 : Int32)) hx hb dX6_isIn__10 (by decide) ?_
    refine lv_goto (pc := 11) (tgt := 15) hx hb dX6_isIn__11 (by decide) ?_
    exact hret 15 _ _ (A_4, V_5) _ _ rfl dX6_isIn__15 h hw
def wpX6_isIn_ (A : SA) (V : SV) (x1 : Int32) (x2 : Int32) (Q : Int32 → SA → SV → Prop) : Prop := wb_X6_isIn__0 Q A V x1 x2
set_option maxHeartbeats 4000000 in
set_option maxRecDepth 100000 in
theorem metX6_isIn_ (l : Launch) (D : va_G) (cI cZ : ClassId) (ad : Nat → Nat) (sz : Nat) (A : SA) (V : SV) (x1 : Int32) (x2 : Int32) (Q : Int32 → SA → SV → Prop) (h : wpX6_isIn_ A V x1 x2 Q) : Met l yX6_isIn_ wsX6_isIn_ rmX6_isIn_ (PcW D [(cI, .int), (cZ, .boolean)] (wM ad cI cZ A V) sz [.ref (ad 0), .int x1, .int x2]) (QiW D [(cI, .int), (cZ, .boolean)] (wM ad cI cZ A V) sz (fun u : SA × SV => (wM ad cI cZ u.1 u.2)) (fun r u => Q r u.1 u.2)) rmX6_isIn_.cells rmX6_isIn_.slots (va_A (wM ad cI cZ A V) sz) := by
  refine startI (plainFor_of_name (by decide)) rfl (Nat.le_of_ble_eq_true rfl) ?_
  intro p e s m args below meth c A0 Z cx hw hret ls hl
  exact wk_X6_isIn__0 Q cx hret A V x1 x2 h _ _ _ hw hl
abbrev rmX6_one : Room := { frames := 0, cells := 0, slots := 0, locals := 0 }
theorem inX6_one_X6 : ∀ w ∈ wsX60, w ∈ wsX6_one := by decide +kernel
theorem kX6_one_20 : Cond.fieldLink RX6 20 "DrownedPostModel" "ones" "[I" ∈ wsX6_one := by decide +kernel
def wb_X6_one_0 (Q : Int32 → SA → SV → Prop) (A : SA) (V : SV) (x1 : Int32) (x2 : Int32) : Prop := (vp_in (((5 : Int32) * x1) + x2) 80 ∧ Q (A 2 (((5 : Int32) * x1) + x2).toNatClampNeg) A V)
set_option maxHeartbeats 4000000 in
set_option maxRecDepth 100000 in
theorem wk_X6_one_0 (Q : Int32 → SA → SV → Prop) (cx : CX RX6 cX6_one 3 wsX6_one D [(cI, .int), (cZ, .boolean)] p s m args c A0) (hret : ∀ (pc : Nat) (ls : Array Slot) (r : Int32) (u : SA × SV) (H : Heap) (locs : List Loc), narrow .int (.int r) = .int r → decode cX6_one pc = .ok (.ireturn, 1) → Q r u.1 u.2 → WS D s A0 (wM ad cI cZ u.1 u.2) H locs → W p l e rmX6_one s m args below meth c H locs rmX6_one.cells rmX6_one.slots Z (F0 m pc ls [.int r]))  : ∀ (A : SA) (V : SV) (x1 : Int32) (x2 : Int32) (h : wb_X6_one_0 Q A V x1 x2) (H : Heap) (locs : List Loc) (ls : Array Slot) (hw : WS D s A0 (wM ad cI cZ A V) H locs) (hl : lv_has ls 3 [(0, .ref (ad 0)), (1, .int x1), (2, .int x2)]), W p l e rmX6_one s m args below meth c H locs 0 0 Z (F0 m 0 ls []) := by
  obtain ⟨hx, hb, hml, hown, hts, hK, hA⟩ := id cx
  intro A V x1 x2 h H locs ls hw hl
  refine lv_aload_n (pc := 0) hx hb dX6_one_0 rfl (lv_at hl 0 rfl) ?_
  refine geM_X6_7 (pc := 1) cx inX6_one_X6 kX6_one_20 hw dX6_one_1 ?_
  refine lv_iconst (pc := 4) (v := (5 : Int32)) hx hb dX6_one_4 (by decide) ?_
  refine lv_iload_n (pc := 5) hx hb dX6_one_5 rfl (lv_at hl 1 rfl) ?_
  refine lv_imul (pc := 6) hx hb dX6_one_6 ?_
  refine lv_iload_n (pc := 7) hx hb dX6_one_7 rfl (lv_at hl 2 rfl) ?_
  refine lv_iadd (pc := 8) hx hb dX6_one_8 ?_
  refine alM_2 (pc := 9) cx hw h.1 dX6_one_9 ?_
  have h := h.2
  exact hret 10 _ _ (A, V) _ _ rfl dX6_one_10 h hw
def wpX6_one (A : SA) (V : SV) (x1 : Int32) (x2 : Int32) (Q : Int32 → SA → SV → Prop) : Prop := wb_X6_one_0 Q A V x1 x2
set_option maxHeartbeats 4000000 in
set_option maxRecDepth 100000 in
theorem metX6_one (l : Launch) (D : va_G) (cI cZ : ClassId) (ad : Nat → Nat) (sz : Nat) (A : SA) (V : SV) (x1 : Int32) (x2 : Int32) (Q : Int32 → SA → SV → Prop) (h : wpX6_one A V x1 x2 Q) : Met l yX6_one wsX6_one rmX6_one (PcW D [(cI, .int), (cZ, .boolean)] (wM ad cI cZ A V) sz [.ref (ad 0), .int x1, .int x2]) (QiW D [(cI, .int), (cZ, .boolean)] (wM ad cI cZ A V) sz (fun u : SA × SV => (wM ad cI cZ u.1 u.2)) (fun r u => Q r u.1 u.2)) rmX6_one.cells rmX6_one.slots (va_A (wM ad cI cZ A V) sz) := by
  refine startI (plainFor_of_name (by decide)) rfl (Nat.le_of_ble_eq_true rfl) ?_
  intro p e s m args below meth c A0 Z cx hw hret ls hl
  exact wk_X6_one_0 Q cx hret A V x1 x2 h _ _ _ hw hl
abbrev rmX6_tideOf : Room := { frames := 0, cells := 0, slots := 0, locals := 0 }
theorem inX6_tideOf_X6 : ∀ w ∈ wsX60, w ∈ wsX6_tideOf := by decide +kernel
theorem kX6_tideOf_13 : Cond.fieldLink RX6 13 "DrownedPostModel" "tideTable" "[I" ∈ wsX6_tideOf := by decide +kernel
theorem kX6_tideOf_7 : Cond.fieldLink RX6 7 "DrownedPostModel" "tides" "I" ∈ wsX6_tideOf := by decide +kernel
def wb_X6_tideOf_0 (Q : Int32 → SA → SV → Prop) (A : SA) (V : SV) (x1 : Int32) : Prop := (¬ (V 2) = 0 ∧ (vp_in (x1 - x1 / (V 2) * (V 2)) 30 ∧ Q (A 0 (x1 - x1 / (V 2) * (V 2)).toNatClampNeg) A V))
set_option maxHeartbeats 4000000 in
set_option maxRecDepth 100000 in
theorem wk_X6_tideOf_0 (Q : Int32 → SA → SV → Prop) (cx : CX RX6 cX6_tideOf 2 wsX6_tideOf D [(cI, .int), (cZ, .boolean)] p s m args c A0) (hret : ∀ (pc : Nat) (ls : Array Slot) (r : Int32) (u : SA × SV) (H : Heap) (locs : List Loc), narrow .int (.int r) = .int r → decode cX6_tideOf pc = .ok (.ireturn, 1) → Q r u.1 u.2 → WS D s A0 (wM ad cI cZ u.1 u.2) H locs → W p l e rmX6_tideOf s m args below meth c H locs rmX6_tideOf.cells rmX6_tideOf.slots Z (F0 m pc ls [.int r]))  : ∀ (A : SA) (V : SV) (x1 : Int32) (h : wb_X6_tideOf_0 Q A V x1) (H : Heap) (locs : List Loc) (ls : Array Slot) (hw : WS D s A0 (wM ad cI cZ A V) H locs) (hl : lv_has ls 2 [(0, .ref (ad 0)), (1, .int x1)]), W p l e rmX6_tideOf s m args below meth c H locs 0 0 Z (F0 m 0 ls []) := by
  obtain ⟨hx, hb, hml, hown, hts, hK, hA⟩ := id cx
  intro A V x1 h H locs ls hw hl
  refine lv_aload_n (pc := 0) hx hb dX6_tideOf_0 rfl (lv_at hl 0 rfl) ?_
  refine geM_X6_3 (pc := 1) cx inX6_tideOf_X6 kX6_tideOf_13 hw dX6_tideOf_1 ?_
  refine lv_iload_n (pc := 4) hx hb dX6_tideOf_4 rfl (lv_at hl 1 rfl) ?_
  refine lv_aload_n (pc := 5) hx hb dX6_tideOf_5 rfl (lv_at hl 0 rfl) ?_
  refine geM_X6_2 (pc := 6) cx inX6_tideOf_X6 kX6_tideOf_7 hw dX6_tideOf_6 ?_
  refine lv_irem (pc := 9) hx hb dX6_tideOf_9 h.1 ?_
  have h := h.2
  refine alM_0 (pc := 10) cx hw h.1 dX6_tideOf_10 ?_
  have h := h.2
  exact hret 11 _ _ (A, V) _ _ rfl dX6_tideOf_11 h hw
def wpX6_tideOf (A : SA) (V : SV) (x1 : Int32) (Q : Int32 → SA → SV → Prop) : Prop := wb_X6_tideOf_0 Q A V x1
set_option maxHeartbeats 4000000 in
set_option maxRecDepth 100000 in
theorem metX6_tideOf (l : Launch) (D : va_G) (cI cZ : ClassId) (ad : Nat → Nat) (sz : Nat) (A : SA) (V : SV) (x1 : Int32) (Q : Int32 → SA → SV → Prop) (h : wpX6_tideOf A V x1 Q) : Met l yX6_tideOf wsX6_tideOf rmX6_tideOf (PcW D [(cI, .int), (cZ, .boolean)] (wM ad cI cZ A V) sz [.ref (ad 0), .int x1]) (QiW D [(cI, .int), (cZ, .boolean)] (wM ad cI cZ A V) sz (fun u : SA × SV => (wM ad cI cZ u.1 u.2)) (fun r u => Q r u.1 u.2)) rmX6_tideOf.cells rmX6_tideOf.slots (va_A (wM ad cI cZ A V) sz) := by
  refine startI (plainFor_of_name (by decide)) rfl (Nat.le_of_ble_eq_true rfl) ?_
  intro p e s m args below meth c A0 Z cx hw hret ls hl
  exact wk_X6_tideOf_0 Q cx hret A V x1 h _ _ _ hw hl
abbrev rmX6_isUnder : Room := { frames := 0, cells := 0, slots := 0, locals := 0 }
theorem inX6_isUnder_X6 : ∀ w ∈ wsX60, w ∈ wsX6_isUnder := by decide +kernel
theorem kX6_isUnder_17 : Cond.fieldLink RX6 17 "DrownedPostModel" "binTable" "[I" ∈ wsX6_isUnder := by decide +kernel
def wb_X6_isUnder_0 (Q : Int32 → SA → SV → Prop) (A : SA) (V : SV) (x1 : Int32) (x2 : Int32) : Prop := (vp_in ((2 : Int32) * x1) 20 ∧ ((x2 ≤ (A 1 ((2 : Int32) * x1).toNatClampNeg) → Q (0 : Int32) A V) ∧ (¬ (x2 ≤ (A 1 ((2 : Int32) * x1).toNatClampNeg)) → Q (1 : Int32) A V)))
set_option maxHeartbeats 4000000 in
set_option maxRecDepth 100000 in
theorem wk_X6_isUnder_0 (Q : Int32 → SA → SV → Prop) (cx : CX RX6 cX6_isUnder 3 wsX6_isUnder D [(cI, .int), (cZ, .boolean)] p s m args c A0) (hret : ∀ (pc : Nat) (ls : Array Slot) (r : Int32) (u : SA × SV) (H : Heap) (locs : List Loc), narrow .boolean (.int r) = .int r → decode cX6_isUnder pc = .ok (.ireturn, 1) → Q r u.1 u.2 → WS D s A0 (wM ad cI cZ u.1 u.2) H locs → W p l e rmX6_isUnder s m args below meth c H locs rmX6_isUnder.cells rmX6_isUnder.slots Z (F0 m pc ls [.int r]))  : ∀ (A : SA) (V : SV) (x1 : Int32) (x2 : Int32) (h : wb_X6_isUnder_0 Q A V x1 x2) (H : Heap) (locs : List Loc) (ls : Array Slot) (hw : WS D s A0 (wM ad cI cZ A V) H locs) (hl : lv_has ls 3 [(0, .ref (ad 0)), (1, .int x1), (2, .int x2)]), W p l e rmX6_isUnder s m args below meth c H locs 0 0 Z (F0 m 0 ls []) := by
  obtain ⟨hx, hb, hml, hown, hts, hK, hA⟩ := id cx
  intro A V x1 x2 h H locs ls hw hl
  refine lv_iload_n (pc := 0) hx hb dX6_isUnder_0 rfl (lv_at hl 2 rfl) ?_
  refine lv_aload_n (pc := 1) hx hb dX6_isUnder_1 rfl (lv_at hl 0 rfl) ?_
  refine geM_X6_5 (pc := 2) cx inX6_isUnder_X6 kX6_isUnder_17 hw dX6_isUnder_2 ?_
  refine lv_iconst (pc := 5) (v := (2 : Int32)) hx hb dX6_isUnder_5 (by decide) ?_
  refine lv_iload_n (pc := 6) hx hb dX6_isUnder_6 rfl (lv_at hl 1 rfl) ?_
  refine lv_imul (pc := 7) hx hb dX6_isUnder_7 ?_
  refine alM_1 (pc := 8) cx hw h.1 dX6_isUnder_8 ?_
  have h := h.2
  refine lv_icmp_le (pc := 9) (tgt := 16) hx hb dX6_isUnder_9 (by decide) (fun c1 => ?_) (fun c1 => ?_)
  · have h := h.1 c1
    refine lv_iconst (pc := 16) (v := (0 : Int32)) hx hb dX6_isUnder_16 (by decide) ?_
    exact hret 17 _ _ (A, V) _ _ rfl dX6_isUnder_17 h hw
  · have h := h.2 c1
    refine lv_iconst (pc := 12) (v := (1 : Int32)) hx hb dX6_isUnder_12 (by decide) ?_
    refine lv_goto (pc := 13) (tgt := 17) hx hb dX6_isUnder_13 (by decide) ?_
    exact hret 17 _ _ (A, V) _ _ rfl dX6_isUnder_17 h hw
def wpX6_isUnder (A : SA) (V : SV) (x1 : Int32) (x2 : Int32) (Q : Int32 → SA → SV → Prop) : Prop := wb_X6_isUnder_0 Q A V x1 x2
set_option maxHeartbeats 4000000 in
set_option maxRecDepth 100000 in
theorem metX6_isUnder (l : Launch) (D : va_G) (cI cZ : ClassId) (ad : Nat → Nat) (sz : Nat) (A : SA) (V : SV) (x1 : Int32) (x2 : Int32) (Q : Int32 → SA → SV → Prop) (h : wpX6_isUnder A V x1 x2 Q) : Met l yX6_isUnder wsX6_isUnder rmX6_isUnder (PcW D [(cI, .int), (cZ, .boolean)] (wM ad cI cZ A V) sz [.ref (ad 0), .int x1, .int x2]) (QiW D [(cI, .int), (cZ, .boolean)] (wM ad cI cZ A V) sz (fun u : SA × SV => (wM ad cI cZ u.1 u.2)) (fun r u => Q r u.1 u.2)) rmX6_isUnder.cells rmX6_isUnder.slots (va_A (wM ad cI cZ A V) sz) := by
  refine startI (plainFor_of_name (by decide)) rfl (Nat.le_of_ble_eq_true rfl) ?_
  intro p e s m args below meth c A0 Z cx hw hret ls hl
  exact wk_X6_isUnder_0 Q cx hret A V x1 x2 h _ _ _ hw hl
abbrev rmX6_beginTides : Room := { frames := 2, cells := 0, slots := 0, locals := 42 }
theorem inX6_beginTides_X6 : ∀ w ∈ wsX60, w ∈ wsX6_beginTides := by decide +kernel
theorem kX6_beginTides_13 : Cond.fieldLink RX6 13 "DrownedPostModel" "tideTable" "[I" ∈ wsX6_beginTides := by decide +kernel
theorem kX6_beginTides_42 : Cond.fieldLink RX6 42 "DrownedPostModel" "thrown" "I" ∈ wsX6_beginTides := by decide +kernel
theorem kX6_beginTides_7 : Cond.fieldLink RX6 7 "DrownedPostModel" "tides" "I" ∈ wsX6_beginTides := by decide +kernel
def wb_X6_beginTides_0 (Q : Int32 → SA → SV → Prop) (A : SA) (V : SV) (x1 : Int32) : Prop := (∀ V_1 : SV, V_1 = uv V 0 (0 : Int32) → (wpX6_isHeight x1 (fun r2 => ((¬ r2 = 0 → (vp_in (0 : Int32) 30 ∧ (∀ A_6 : SA, A_6 = up A 0 (0 : Int32).toNatClampNeg x1 → (∀ V_7 : SV, V_7 = uv V_1 2 (1 : Int32) → Q (V_1 2) A_6 V_7)))) ∧ (r2 = 0 → (wpX6_fail A V_1 (1 : Int32) (fun r8 A_11 V_12 => Q r8 A_11 V_12)))))))
set_option maxHeartbeats 4000000 in
set_option maxRecDepth 100000 in
theorem wk_X6_beginTides_0 (Q : Int32 → SA → SV → Prop) (cx : CX RX6 cX6_beginTides 3 wsX6_beginTides D [(cI, .int), (cZ, .boolean)] p s m args c A0) (hret : ∀ (pc : Nat) (ls : Array Slot) (r : Int32) (u : SA × SV) (H : Heap) (locs : List Loc), narrow .int (.int r) = .int r → decode cX6_beginTides pc = .ok (.ireturn, 1) → Q r u.1 u.2 → WS D s A0 (wM ad cI cZ u.1 u.2) H locs → W p l e rmX6_beginTides s m args below meth c H locs rmX6_beginTides.cells rmX6_beginTides.slots Z (F0 m pc ls [.int r]))  : ∀ (A : SA) (V : SV) (x1 : Int32) (h : wb_X6_beginTides_0 Q A V x1) (H : Heap) (locs : List Loc) (ls : Array Slot) (hw : WS D s A0 (wM ad cI cZ A V) H locs) (hl : lv_has ls 3 [(0, .ref (ad 0)), (1, .int x1)]), W p l e rmX6_beginTides s m args below meth c H locs 0 0 Z (F0 m 0 ls []) := by
  obtain ⟨hx, hb, hml, hown, hts, hK, hA⟩ := id cx
  intro A V x1 h H locs ls hw hl
  refine lv_aload_n (pc := 0) hx hb dX6_beginTides_0 rfl (lv_at hl 0 rfl) ?_
  refine lv_iconst (pc := 1) (v := (0 : Int32)) hx hb dX6_beginTides_1 (by decide) ?_
  refine puM_X6_0 (pc := 2) cx inX6_beginTides_X6 kX6_beginTides_42 hw dX6_beginTides_2 (fun V_1 eV_1 H locs hw => ?_)
  have h := h V_1 eV_1
  refine lv_iload_n (pc := 5) hx hb dX6_beginTides_5 rfl (lv_at hl 1 rfl) ?_
  refine callSi (pc := 6) (rest := []) (c1 := 0) (s1 := 0) cx hw hl (metX6_isHeight l D [] H.size x1 _ h) (fun hts => va_cwS 1 hts gX6_beginTides_X6_isHeight rfl rfl rfl (by decide +kernel) ⟨Nat.le_of_ble_eq_true rfl, Nat.le_of_ble_eq_true rfl⟩) SUB.nil [] rfl (JN.nil (S := Unit)) rfl rfl (Nat.le_of_ble_eq_true rfl) ⟨Nat.le_of_ble_eq_true rfl, Nat.le_of_ble_eq_true rfl⟩ rfl rfl dX6_beginTides_6 (fun r2 u H locs h hw => ?_)
  refine lv_if_ne (pc := 9) (tgt := 18) hx hb dX6_beginTides_9 (by decide) (fun c5 => ?_) (fun c5 => ?_)
  · have h := h.1 c5
    refine lv_aload_n (pc := 18) hx hb dX6_beginTides_18 rfl (lv_at hl 0 rfl) ?_
    refine geM_X6_2 (pc := 19) cx inX6_beginTides_X6 kX6_beginTides_7 hw dX6_beginTides_19 ?_
    refine lv_istore_n (pc := 22) (lv' := [(2, .int (V_1 2)), (0, .ref (ad 0)), (1, .int x1)]) hx hb dX6_beginTides_22 rfl hl (by decide) rfl (fun ls hl => ?_)
    refine lv_aload_n (pc := 23) hx hb dX6_beginTides_23 rfl (lv_at hl 1 rfl) ?_
    refine geM_X6_3 (pc := 24) cx inX6_beginTides_X6 kX6_beginTides_13 hw dX6_beginTides_24 ?_
    refine lv_iconst (pc := 27) (v := (0 : Int32)) hx hb dX6_beginTides_27 (by decide) ?_
    refine lv_iload_n (pc := 28) hx hb dX6_beginTides_28 rfl (lv_at hl 2 rfl) ?_
    refine asM_0 (pc := 29) cx hw h.1 dX6_beginTides_29 (fun A_6 eA_6 H locs hw => ?_)
    have h := h.2 A_6 eA_6
    refine lv_aload_n (pc := 30) hx hb dX6_beginTides_30 rfl (lv_at hl 1 rfl) ?_
    refine lv_iconst (pc := 31) (v := (1 : Int32)) hx hb dX6_beginTides_31 (by decide) ?_
    refine puM_X6_2 (pc := 32) cx inX6_beginTides_X6 kX6_beginTides_7 hw dX6_beginTides_32 (fun V_7 eV_7 H locs hw => ?_)
    have h := h V_7 eV_7
    refine lv_iload_n (pc := 35) hx hb dX6_beginTides_35 rfl (lv_at hl 0 rfl) ?_
    exact hret 36 _ _ (A_6, V_7) _ _ rfl dX6_beginTides_36 h hw
  · have h := h.2 c5
    refine lv_aload_n (pc := 12) hx hb dX6_beginTides_12 rfl (lv_at hl 0 rfl) ?_
    refine lv_iconst (pc := 13) (v := (1 : Int32)) hx hb dX6_beginTides_13 (by decide) ?_
    refine callVi (pc := 14) (rest := []) (c1 := 0) (s1 := 0) cx hw hl (metX6_fail l D cI cZ ad H.size A V_1 (1 : Int32) _ h) (fun hts => cwV 1 hts gX6_beginTides_X6_fail rfl rfl rfl (by decide +kernel) ⟨Nat.le_of_ble_eq_true rfl, Nat.le_of_ble_eq_true rfl⟩) SUB.rf [0, 1] rfl 0 (ci := 6) rfl rfl rfl (JN.rf) rfl rfl (Nat.le_of_ble_eq_true rfl) ⟨Nat.le_of_ble_eq_true rfl, Nat.le_of_ble_eq_true rfl⟩ rfl rfl dX6_beginTides_14 (fun r8 u H locs h hw => ?_)
    obtain ⟨A_11, V_12⟩ := u
    exact hret 17 _ _ (A_11, V_12) _ _ rfl dX6_beginTides_17 h hw
def wpX6_beginTides (A : SA) (V : SV) (x1 : Int32) (Q : Int32 → SA → SV → Prop) : Prop := wb_X6_beginTides_0 Q A V x1
set_option maxHeartbeats 4000000 in
set_option maxRecDepth 100000 in
theorem metX6_beginTides (l : Launch) (D : va_G) (cI cZ : ClassId) (ad : Nat → Nat) (sz : Nat) (A : SA) (V : SV) (x1 : Int32) (Q : Int32 → SA → SV → Prop) (h : wpX6_beginTides A V x1 Q) : Met l yX6_beginTides wsX6_beginTides rmX6_beginTides (PcW D [(cI, .int), (cZ, .boolean)] (wM ad cI cZ A V) sz [.ref (ad 0), .int x1]) (QiW D [(cI, .int), (cZ, .boolean)] (wM ad cI cZ A V) sz (fun u : SA × SV => (wM ad cI cZ u.1 u.2)) (fun r u => Q r u.1 u.2)) rmX6_beginTides.cells rmX6_beginTides.slots (va_A (wM ad cI cZ A V) sz) := by
  refine startI (plainFor_of_name (by decide)) rfl (Nat.le_of_ble_eq_true rfl) ?_
  intro p e s m args below meth c A0 Z cx hw hret ls hl
  exact wk_X6_beginTides_0 Q cx hret A V x1 h _ _ _ hw hl
abbrev rmX6_addTide : Room := { frames := 2, cells := 0, slots := 0, locals := 42 }
theorem inX6_addTide_X6 : ∀ w ∈ wsX60, w ∈ wsX6_addTide := by decide +kernel
theorem kX6_addTide_13 : Cond.fieldLink RX6 13 "DrownedPostModel" "tideTable" "[I" ∈ wsX6_addTide := by decide +kernel
theorem kX6_addTide_42 : Cond.fieldLink RX6 42 "DrownedPostModel" "thrown" "I" ∈ wsX6_addTide := by decide +kernel
theorem kX6_addTide_7 : Cond.fieldLink RX6 7 "DrownedPostModel" "tides" "I" ∈ wsX6_addTide := by decide +kernel
def wb_X6_addTide_0 (Q : Int32 → SA → SV → Prop) (A : SA) (V : SV) (x1 : Int32) : Prop := (∀ V_1 : SV, V_1 = uv V 0 (0 : Int32) → (wpX6_isHeight x1 (fun r2 => ((¬ r2 = 0 → ((¬ (V_1 2) = (30 : Int32) → (vp_in (V_1 2) 30 ∧ (∀ A_7 : SA, A_7 = up A 0 (V_1 2).toNatClampNeg x1 → (∀ V_8 : SV, V_8 = uv V_1 2 ((V_1 2) + (1 : Int32)) → Q (V_8 2) A_7 V_8)))) ∧ ((V_1 2) = (30 : Int32) → (wpX6_fail A V_1 (2 : Int32) (fun r9 A_12 V_13 => Q r9 A_12 V_13))))) ∧ (r2 = 0 → (wpX6_fail A V_1 (1 : Int32) (fun r14 A_17 V_18 => Q r14 A_17 V_18)))))))
set_option maxHeartbeats 4000000 in
set_option maxRecDepth 100000 in
theorem wk_X6_addTide_0 (Q : Int32 → SA → SV → Prop) (cx : CX RX6 cX6_addTide 2 wsX6_addTide D [(cI, .int), (cZ, .boolean)] p s m args c A0) (hret : ∀ (pc : Nat) (ls : Array Slot) (r : Int32) (u : SA × SV) (H : Heap) (locs : List Loc), narrow .int (.int r) = .int r → decode cX6_addTide pc = .ok (.ireturn, 1) → Q r u.1 u.2 → WS D s A0 (wM ad cI cZ u.1 u.2) H locs → W p l e rmX6_addTide s m args below meth c H locs rmX6_addTide.cells rmX6_addTide.slots Z (F0 m pc ls [.int r]))  : ∀ (A : SA) (V : SV) (x1 : Int32) (h : wb_X6_addTide_0 Q A V x1) (H : Heap) (locs : List Loc) (ls : Array Slot) (hw : WS D s A0 (wM ad cI cZ A V) H locs) (hl : lv_has ls 2 [(0, .ref (ad 0)), (1, .int x1)]), W p l e rmX6_addTide s m args below meth c H locs 0 0 Z (F0 m 0 ls []) := by
  obtain ⟨hx, hb, hml, hown, hts, hK, hA⟩ := id cx
  intro A V x1 h H locs ls hw hl
  refine lv_aload_n (pc := 0) hx hb dX6_addTide_0 rfl (lv_at hl 0 rfl) ?_
  refine lv_iconst (pc := 1) (v := (0 : Int32)) hx hb dX6_addTide_1 (by decide) ?_
  refine puM_X6_0 (pc := 2) cx inX6_addTide_X6 kX6_addTide_42 hw dX6_addTide_2 (fun V_1 eV_1 H locs hw => ?_)
  have h := h V_1 eV_1
  refine lv_iload_n (pc := 5) hx hb dX6_addTide_5 rfl (lv_at hl 1 rfl) ?_
  refine callSi (pc := 6) (rest := []) (c1 := 0) (s1 := 0) cx hw hl (metX6_isHeight l D [] H.size x1 _ h) (fun hts => va_cwS 1 hts gX6_addTide_X6_isHeight rfl rfl rfl (by decide +kernel) ⟨Nat.le_of_ble_eq_true rfl, Nat.le_of_ble_eq_true rfl⟩) SUB.nil [] rfl (JN.nil (S := Unit)) rfl rfl (Nat.le_of_ble_eq_true rfl) ⟨Nat.le_of_ble_eq_true rfl, Nat.le_of_ble_eq_true rfl⟩ rfl rfl dX6_addTide_6 (fun r2 u H locs h hw => ?_)
  refine lv_if_ne (pc := 9) (tgt := 18) hx hb dX6_addTide_9 (by decide) (fun c5 => ?_) (fun c5 => ?_)
  · have h := h.1 c5
    refine lv_aload_n (pc := 18) hx hb dX6_addTide_18 rfl (lv_at hl 0 rfl) ?_
    refine geM_X6_2 (pc := 19) cx inX6_addTide_X6 kX6_addTide_7 hw dX6_addTide_19 ?_
    refine lv_bipush (pc := 22) (v := (30 : Int32)) hx hb dX6_addTide_22 (by decide) ?_
    refine lv_icmp_ne (pc := 24) (tgt := 33) hx hb dX6_addTide_24 (by decide) (fun c6 => ?_) (fun c6 => ?_)
    · have h := h.1 c6
      refine lv_aload_n (pc := 33) hx hb dX6_addTide_33 rfl (lv_at hl 0 rfl) ?_
      refine geM_X6_3 (pc := 34) cx inX6_addTide_X6 kX6_addTide_13 hw dX6_addTide_34 ?_
      refine lv_aload_n (pc := 37) hx hb dX6_addTide_37 rfl (lv_at hl 0 rfl) ?_
      refine geM_X6_2 (pc := 38) cx inX6_addTide_X6 kX6_addTide_7 hw dX6_addTide_38 ?_
      refine lv_iload_n (pc := 41) hx hb dX6_addTide_41 rfl (lv_at hl 1 rfl) ?_
      refine asM_0 (pc := 42) cx hw h.1 dX6_addTide_42 (fun A_7 eA_7 H locs hw => ?_)
      have h := h.2 A_7 eA_7
      refine lv_aload_n (pc := 43) hx hb dX6_addTide_43 rfl (lv_at hl 0 rfl) ?_
      refine lv_dup (pc := 44) hx hb dX6_addTide_44 rfl ?_
      refine geM_X6_2 (pc := 45) cx inX6_addTide_X6 kX6_addTide_7 hw dX6_addTide_45 ?_
      refine lv_iconst (pc := 48) (v := (1 : Int32)) hx hb dX6_addTide_48 (by decide) ?_
      refine lv_iadd (pc := 49) hx hb dX6_addTide_49 ?_
      refine puM_X6_2 (pc := 50) cx inX6_addTide_X6 kX6_addTide_7 hw dX6_addTide_50 (fun V_8 eV_8 H locs hw => ?_)
      have h := h V_8 eV_8
      refine lv_aload_n (pc := 53) hx hb dX6_addTide_53 rfl (lv_at hl 0 rfl) ?_
      refine geM_X6_2 (pc := 54) cx inX6_addTide_X6 kX6_addTide_7 hw dX6_addTide_54 ?_
      exact hret 57 _ _ (A_7, V_8) _ _ rfl dX6_addTide_57 h hw
    · have h := h.2 c6
      refine lv_aload_n (pc := 27) hx hb dX6_addTide_27 rfl (lv_at hl 0 rfl) ?_
      refine lv_iconst (pc := 28) (v := (2 : Int32)) hx hb dX6_addTide_28 (by decide) ?_
      refine callVi (pc := 29) (rest := []) (c1 := 0) (s1 := 0) cx hw hl (metX6_fail l D cI cZ ad H.size A V_1 (2 : Int32) _ h) (fun hts => cwV 1 hts gX6_addTide_X6_fail rfl rfl rfl (by decide +kernel) ⟨Nat.le_of_ble_eq_true rfl, Nat.le_of_ble_eq_true rfl⟩) SUB.rf [0, 1] rfl 0 (ci := 6) rfl rfl rfl (JN.rf) rfl rfl (Nat.le_of_ble_eq_true rfl) ⟨Nat.le_of_ble_eq_true rfl, Nat.le_of_ble_eq_true rfl⟩ rfl rfl dX6_addTide_29 (fun r9 u H locs h hw => ?_)
      obtain ⟨A_12, V_13⟩ := u
      exact hret 32 _ _ (A_12, V_13) _ _ rfl dX6_addTide_32 h hw
  · have h := h.2 c5
    refine lv_aload_n (pc := 12) hx hb dX6_addTide_12 rfl (lv_at hl 0 rfl) ?_
    refine lv_iconst (pc := 13) (v := (1 : Int32)) hx hb dX6_addTide_13 (by decide) ?_
    refine callVi (pc := 14) (rest := []) (c1 := 0) (s1 := 0) cx hw hl (metX6_fail l D cI cZ ad H.size A V_1 (1 : Int32) _ h) (fun hts => cwV 1 hts gX6_addTide_X6_fail rfl rfl rfl (by decide +kernel) ⟨Nat.le_of_ble_eq_true rfl, Nat.le_of_ble_eq_true rfl⟩) SUB.rf [0, 1] rfl 0 (ci := 6) rfl rfl rfl (JN.rf) rfl rfl (Nat.le_of_ble_eq_true rfl) ⟨Nat.le_of_ble_eq_true rfl, Nat.le_of_ble_eq_true rfl⟩ rfl rfl dX6_addTide_14 (fun r14 u H locs h hw => ?_)
    obtain ⟨A_17, V_18⟩ := u
    exact hret 17 _ _ (A_17, V_18) _ _ rfl dX6_addTide_17 h hw
def wpX6_addTide (A : SA) (V : SV) (x1 : Int32) (Q : Int32 → SA → SV → Prop) : Prop := wb_X6_addTide_0 Q A V x1
set_option maxHeartbeats 4000000 in
set_option maxRecDepth 100000 in
theorem metX6_addTide (l : Launch) (D : va_G) (cI cZ : ClassId) (ad : Nat → Nat) (sz : Nat) (A : SA) (V : SV) (x1 : Int32) (Q : Int32 → SA → SV → Prop) (h : wpX6_addTide A V x1 Q) : Met l yX6_addTide wsX6_addTide rmX6_addTide (PcW D [(cI, .int), (cZ, .boolean)] (wM ad cI cZ A V) sz [.ref (ad 0), .int x1]) (QiW D [(cI, .int), (cZ, .boolean)] (wM ad cI cZ A V) sz (fun u : SA × SV => (wM ad cI cZ u.1 u.2)) (fun r u => Q r u.1 u.2)) rmX6_addTide.cells rmX6_addTide.slots (va_A (wM ad cI cZ A V) sz) := by
  refine startI (plainFor_of_name (by decide)) rfl (Nat.le_of_ble_eq_true rfl) ?_
  intro p e s m args below meth c A0 Z cx hw hret ls hl
  exact wk_X6_addTide_0 Q cx hret A V x1 h _ _ _ hw hl
abbrev rmX6_tide : Room := { frames := 1, cells := 0, slots := 0, locals := 21 }
theorem inX6_tide_X6 : ∀ w ∈ wsX60, w ∈ wsX6_tide := by decide +kernel
theorem kX6_tide_42 : Cond.fieldLink RX6 42 "DrownedPostModel" "thrown" "I" ∈ wsX6_tide := by decide +kernel
def wb_X6_tide_0 (Q : Int32 → SA → SV → Prop) (A : SA) (V : SV) (x1 : Int32) : Prop := (∀ V_1 : SV, V_1 = uv V 0 (0 : Int32) → ((x1 < 0 → (wpX6_fail A V_1 (1 : Int32) (fun r3 A_6 V_7 => Q r3 A_6 V_7))) ∧ (¬ (x1 < 0) → (wpX6_tideOf A V_1 x1 (fun r8 A_11 V_12 => Q r8 A_11 V_12)))))
set_option maxHeartbeats 4000000 in
set_option maxRecDepth 100000 in
theorem wk_X6_tide_0 (Q : Int32 → SA → SV → Prop) (cx : CX RX6 cX6_tide 2 wsX6_tide D [(cI, .int), (cZ, .boolean)] p s m args c A0) (hret : ∀ (pc : Nat) (ls : Array Slot) (r : Int32) (u : SA × SV) (H : Heap) (locs : List Loc), narrow .int (.int r) = .int r → decode cX6_tide pc = .ok (.ireturn, 1) → Q r u.1 u.2 → WS D s A0 (wM ad cI cZ u.1 u.2) H locs → W p l e rmX6_tide s m args below meth c H locs rmX6_tide.cells rmX6_tide.slots Z (F0 m pc ls [.int r]))  : ∀ (A : SA) (V : SV) (x1 : Int32) (h : wb_X6_tide_0 Q A V x1) (H : Heap) (locs : List Loc) (ls : Array Slot) (hw : WS D s A0 (wM ad cI cZ A V) H locs) (hl : lv_has ls 2 [(0, .ref (ad 0)), (1, .int x1)]), W p l e rmX6_tide s m args below meth c H locs 0 0 Z (F0 m 0 ls []) := by
  obtain ⟨hx, hb, hml, hown, hts, hK, hA⟩ := id cx
  intro A V x1 h H locs ls hw hl
  refine lv_aload_n (pc := 0) hx hb dX6_tide_0 rfl (lv_at hl 0 rfl) ?_
  refine lv_iconst (pc := 1) (v := (0 : Int32)) hx hb dX6_tide_1 (by decide) ?_
  refine puM_X6_0 (pc := 2) cx inX6_tide_X6 kX6_tide_42 hw dX6_tide_2 (fun V_1 eV_1 H locs hw => ?_)
  have h := h V_1 eV_1
  refine lv_iload_n (pc := 5) hx hb dX6_tide_5 rfl (lv_at hl 1 rfl) ?_
  refine lv_if_lt (pc := 6) (tgt := 17) hx hb dX6_tide_6 (by decide) (fun c2 => ?_) (fun c2 => ?_)
  · have h := h.1 c2
    refine lv_aload_n (pc := 17) hx hb dX6_tide_17 rfl (lv_at hl 0 rfl) ?_
    refine lv_iconst (pc := 18) (v := (1 : Int32)) hx hb dX6_tide_18 (by decide) ?_
    refine callVi (pc := 19) (rest := []) (c1 := 0) (s1 := 0) cx hw hl (metX6_fail l D cI cZ ad H.size A V_1 (1 : Int32) _ h) (fun hts => cwV 1 hts gX6_tide_X6_fail rfl rfl rfl (by decide +kernel) ⟨Nat.le_of_ble_eq_true rfl, Nat.le_of_ble_eq_true rfl⟩) SUB.rf [0, 1] rfl 0 (ci := 6) rfl rfl rfl (JN.rf) rfl rfl (Nat.le_of_ble_eq_true rfl) ⟨Nat.le_of_ble_eq_true rfl, Nat.le_of_ble_eq_true rfl⟩ rfl rfl dX6_tide_19 (fun r3 u H locs h hw => ?_)
    obtain ⟨A_6, V_7⟩ := u
    exact hret 22 _ _ (A_6, V_7) _ _ rfl dX6_tide_22 h hw
  · have h := h.2 c2
    refine lv_aload_n (pc := 9) hx hb dX6_tide_9 rfl (lv_at hl 0 rfl) ?_
    refine lv_iload_n (pc := 10) hx hb dX6_tide_10 rfl (lv_at hl 1 rfl) ?_
    refine callVi (pc := 11) (rest := []) (c1 := 0) (s1 := 0) cx hw hl (metX6_tideOf l D cI cZ ad H.size A V_1 x1 _ h) (fun hts => cwV 1 hts gX6_tide_X6_tideOf rfl rfl rfl (by decide +kernel) ⟨Nat.le_of_ble_eq_true rfl, Nat.le_of_ble_eq_true rfl⟩) SUB.rf [0, 1] rfl 0 (ci := 6) rfl rfl rfl (JN.rf) rfl rfl (Nat.le_of_ble_eq_true rfl) ⟨Nat.le_of_ble_eq_true rfl, Nat.le_of_ble_eq_true rfl⟩ rfl rfl dX6_tide_11 (fun r8 u H locs h hw => ?_)
    obtain ⟨A_11, V_12⟩ := u
    refine lv_goto (pc := 14) (tgt := 22) hx hb dX6_tide_14 (by decide) ?_
    exact hret 22 _ _ (A_11, V_12) _ _ rfl dX6_tide_22 h hw
def wpX6_tide (A : SA) (V : SV) (x1 : Int32) (Q : Int32 → SA → SV → Prop) : Prop := wb_X6_tide_0 Q A V x1
set_option maxHeartbeats 4000000 in
set_option maxRecDepth 100000 in
theorem metX6_tide (l : Launch) (D : va_G) (cI cZ : ClassId) (ad : Nat → Nat) (sz : Nat) (A : SA) (V : SV) (x1 : Int32) (Q : Int32 → SA → SV → Prop) (h : wpX6_tide A V x1 Q) : Met l yX6_tide wsX6_tide rmX6_tide (PcW D [(cI, .int), (cZ, .boolean)] (wM ad cI cZ A V) sz [.ref (ad 0), .int x1]) (QiW D [(cI, .int), (cZ, .boolean)] (wM ad cI cZ A V) sz (fun u : SA × SV => (wM ad cI cZ u.1 u.2)) (fun r u => Q r u.1 u.2)) rmX6_tide.cells rmX6_tide.slots (va_A (wM ad cI cZ A V) sz) := by
  refine startI (plainFor_of_name (by decide)) rfl (Nat.le_of_ble_eq_true rfl) ?_
  intro p e s m args below meth c A0 Z cx hw hret ls hl
  exact wk_X6_tide_0 Q cx hret A V x1 h _ _ _ hw hl
abbrev rmX6_addBin : Room := { frames := 2, cells := 0, slots := 0, locals := 42 }
theorem inX6_addBin_X6 : ∀ w ∈ wsX60, w ∈ wsX6_addBin := by decide +kernel
theorem kX6_addBin_17 : Cond.fieldLink RX6 17 "DrownedPostModel" "binTable" "[I" ∈ wsX6_addBin := by decide +kernel
theorem kX6_addBin_42 : Cond.fieldLink RX6 42 "DrownedPostModel" "thrown" "I" ∈ wsX6_addBin := by decide +kernel
theorem kX6_addBin_64 : Cond.fieldLink RX6 64 "DrownedPostModel" "bins" "I" ∈ wsX6_addBin := by decide +kernel
def wb_X6_addBin_0 (Q : Int32 → SA → SV → Prop) (A : SA) (V : SV) (x1 : Int32) (x2 : Int32) : Prop := (∀ V_1 : SV, V_1 = uv V 0 (0 : Int32) → (wpX6_isHeight x1 (fun r2 => ((r2 = 0 → (wpX6_fail A V_1 (1 : Int32) (fun r6 A_9 V_10 => Q r6 A_9 V_10))) ∧ (¬ (r2 = 0) → (wpX6_isIn x2 (1 : Int32) (20 : Int32) (fun r11 => ((¬ r11 = 0 → ((¬ (V_1 3) = (10 : Int32) → (vp_in ((2 : Int32) * (V_1 3)) 20 ∧ (∀ A_16 : SA, A_16 = up A 1 ((2 : Int32) * (V_1 3)).toNatClampNeg x1 → (vp_in (((2 : Int32) * (V_1 3)) + (1 : Int32)) 20 ∧ (∀ A_17 : SA, A_17 = up A_16 1 (((2 : Int32) * (V_1 3)) + (1 : Int32)).toNatClampNeg x2 → (∀ V_18 : SV, V_18 = uv V_1 3 ((V_1 3) + (1 : Int32)) → Q ((V_18 3) - (1 : Int32)) A_17 V_18)))))) ∧ ((V_1 3) = (10 : Int32) → (wpX6_fail A V_1 (2 : Int32) (fun r19 A_22 V_23 => Q r19 A_22 V_23))))) ∧ (r11 = 0 → (wpX6_fail A V_1 (1 : Int32) (fun r24 A_27 V_28 => Q r24 A_27 V_28)))))))))))
set_option maxHeartbeats 4000000 in
set_option maxRecDepth 100000 in
theorem wk_X6_addBin_0 (Q : Int32 → SA → SV → Prop) (cx : CX RX6 cX6_addBin 3 wsX6_addBin D [(cI, .int), (cZ, .boolean)] p s m args c A0) (hret : ∀ (pc : Nat) (ls : Array Slot) (r : Int32) (u : SA × SV) (H : Heap) (locs : List Loc), narrow .int (.int r) = .int r → decode cX6_addBin pc = .ok (.ireturn, 1) → Q r u.1 u.2 → WS D s A0 (wM ad cI cZ u.1 u.2) H locs → W p l e rmX6_addBin s m args below meth c H locs rmX6_addBin.cells rmX6_addBin.slots Z (F0 m pc ls [.int r]))  : ∀ (A : SA) (V : SV) (x1 : Int32) (x2 : Int32) (h : wb_X6_addBin_0 Q A V x1 x2) (H : Heap) (locs : List Loc) (ls : Array Slot) (hw : WS D s A0 (wM ad cI cZ A V) H locs) (hl : lv_has ls 3 [(0, .ref (ad 0)), (1, .int x1), (2, .int x2)]), W p l e rmX6_addBin s m args below meth c H locs 0 0 Z (F0 m 0 ls []) := by
  obtain ⟨hx, hb, hml, hown, hts, hK, hA⟩ := id cx
  intro A V x1 x2 h H locs ls hw hl
  refine lv_aload_n (pc := 0) hx hb dX6_addBin_0 rfl (lv_at hl 0 rfl) ?_
  refine lv_iconst (pc := 1) (v := (0 : Int32)) hx hb dX6_addBin_1 (by decide) ?_
  refine puM_X6_0 (pc := 2) cx inX6_addBin_X6 kX6_addBin_42 hw dX6_addBin_2 (fun V_1 eV_1 H locs hw => ?_)
  have h := h V_1 eV_1
  refine lv_iload_n (pc := 5) hx hb dX6_addBin_5 rfl (lv_at hl 1 rfl) ?_
  refine callSi (pc := 6) (rest := []) (c1 := 0) (s1 := 0) cx hw hl (metX6_isHeight l D [] H.size x1 _ h) (fun hts => va_cwS 1 hts gX6_addBin_X6_isHeight rfl rfl rfl (by decide +kernel) ⟨Nat.le_of_ble_eq_true rfl, Nat.le_of_ble_eq_true rfl⟩) SUB.nil [] rfl (JN.nil (S := Unit)) rfl rfl (Nat.le_of_ble_eq_true rfl) ⟨Nat.le_of_ble_eq_true rfl, Nat.le_of_ble_eq_true rfl⟩ rfl rfl dX6_addBin_6 (fun r2 u H locs h hw => ?_)
  refine lv_if_eq (pc := 9) (tgt := 22) hx hb dX6_addBin_9 (by decide) (fun c5 => ?_) (fun c5 => ?_)
  · have h := h.1 c5
    refine lv_aload_n (pc := 22) hx hb dX6_addBin_22 rfl (lv_at hl 0 rfl) ?_
    refine lv_iconst (pc := 23) (v := (1 : Int32)) hx hb dX6_addBin_23 (by decide) ?_
    refine callVi (pc := 24) (rest := []) (c1 := 0) (s1 := 0) cx hw hl (metX6_fail l D cI cZ ad H.size A V_1 (1 : Int32) _ h) (fun hts => cwV 1 hts gX6_addBin_X6_fail rfl rfl rfl (by decide +kernel) ⟨Nat.le_of_ble_eq_true rfl, Nat.le_of_ble_eq_true rfl⟩) SUB.rf [0, 1] rfl 0 (ci := 6) rfl rfl rfl (JN.rf) rfl rfl (Nat.le_of_ble_eq_true rfl) ⟨Nat.le_of_ble_eq_true rfl, Nat.le_of_ble_eq_true rfl⟩ rfl rfl dX6_addBin_24 (fun r6 u H locs h hw => ?_)
    obtain ⟨A_9, V_10⟩ := u
    exact hret 27 _ _ (A_9, V_10) _ _ rfl dX6_addBin_27 h hw
  · have h := h.2 c5
    refine lv_iload_n (pc := 12) hx hb dX6_addBin_12 rfl (lv_at hl 2 rfl) ?_
    refine lv_iconst (pc := 13) (v := (1 : Int32)) hx hb dX6_addBin_13 (by decide) ?_
    refine lv_bipush (pc := 14) (v := (20 : Int32)) hx hb dX6_addBin_14 (by decide) ?_
    refine callSi (pc := 16) (rest := []) (c1 := 0) (s1 := 0) cx hw hl (metX6_isIn l D [] H.size x2 (1 : Int32) (20 : Int32) _ h) (fun hts => va_cwS 3 hts gX6_addBin_X6_isIn rfl rfl rfl (by decide +kernel) ⟨Nat.le_of_ble_eq_true rfl, Nat.le_of_ble_eq_true rfl⟩) SUB.nil [] rfl (JN.nil (S := Unit)) rfl rfl (Nat.le_of_ble_eq_true rfl) ⟨Nat.le_of_ble_eq_true rfl, Nat.le_of_ble_eq_true rfl⟩ rfl rfl dX6_addBin_16 (fun r11 u H locs h hw => ?_)
    refine lv_if_ne (pc := 19) (tgt := 28) hx hb dX6_addBin_19 (by decide) (fun c14 => ?_) (fun c14 => ?_)
    · have h := h.1 c14
      refine lv_aload_n (pc := 28) hx hb dX6_addBin_28 rfl (lv_at hl 0 rfl) ?_
      refine geM_X6_4 (pc := 29) cx inX6_addBin_X6 kX6_addBin_64 hw dX6_addBin_29 ?_
      refine lv_bipush (pc := 32) (v := (10 : Int32)) hx hb dX6_addBin_32 (by decide) ?_
      refine lv_icmp_ne (pc := 34) (tgt := 43) hx hb dX6_addBin_34 (by decide) (fun c15 => ?_) (fun c15 => ?_)
      · have h := h.1 c15
        refine lv_aload_n (pc := 43) hx hb dX6_addBin_43 rfl (lv_at hl 0 rfl) ?_
        refine geM_X6_5 (pc := 44) cx inX6_addBin_X6 kX6_addBin_17 hw dX6_addBin_44 ?_
        refine lv_iconst (pc := 47) (v := (2 : Int32)) hx hb dX6_addBin_47 (by decide) ?_
        refine lv_aload_n (pc := 48) hx hb dX6_addBin_48 rfl (lv_at hl 0 rfl) ?_
        refine geM_X6_4 (pc := 49) cx inX6_addBin_X6 kX6_addBin_64 hw dX6_addBin_49 ?_
        refine lv_imul (pc := 52) hx hb dX6_addBin_52 ?_
        refine lv_iload_n (pc := 53) hx hb dX6_addBin_53 rfl (lv_at hl 1 rfl) ?_
        refine asM_1 (pc := 54) cx hw h.1 dX6_addBin_54 (fun A_16 eA_16 H locs hw => ?_)
        have h := h.2 A_16 eA_16
        refine lv_aload_n (pc := 55) hx hb dX6_addBin_55 rfl (lv_at hl 0 rfl) ?_
        refine geM_X6_5 (pc := 56) cx inX6_addBin_X6 kX6_addBin_17 hw dX6_addBin_56 ?_
        refine lv_iconst (pc := 59) (v := (2 : Int32)) hx hb dX6_addBin_59 (by decide) ?_
        refine lv_aload_n (pc := 60) hx hb dX6_addBin_60 rfl (lv_at hl 0 rfl) ?_
        refine geM_X6_4 (pc := 61) cx inX6_addBin_X6 kX6_addBin_64 hw dX6_addBin_61 ?_
        refine lv_imul (pc := 64) hx hb dX6_addBin_64 ?_
        refine lv_iconst (pc := 65) (v := (1 : Int32)) hx hb dX6_addBin_65 (by decide) ?_
        refine lv_iadd (pc := 66) hx hb dX6_addBin_66 ?_
        refine lv_iload_n (pc := 67) hx hb dX6_addBin_67 rfl (lv_at hl 2 rfl) ?_
        refine asM_1 (pc := 68) cx hw h.1 dX6_addBin_68 (fun A_17 eA_17 H locs hw => ?_)
        have h := h.2 A_17 eA_17
        refine lv_aload_n (pc := 69) hx hb dX6_addBin_69 rfl (lv_at hl 0 rfl) ?_
        refine lv_dup (pc := 70) hx hb dX6_addBin_70 rfl ?_
        refine geM_X6_4 (pc := 71) cx inX6_addBin_X6 kX6_addBin_64 hw dX6_addBin_71 ?_
        refine lv_iconst (pc := 74) (v := (1 : Int32)) hx hb dX6_addBin_74 (by decide) ?_
        refine lv_iadd (pc := 75) hx hb dX6_addBin_75 ?_
        refine puM_X6_4 (pc := 76) cx inX6_addBin_X6 kX6_addBin_64 hw dX6_addBin_76 (fun V_18 eV_18 H locs hw => ?_)
        have h := h V_18 eV_18
        refine lv_aload_n (pc := 79) hx hb dX6_addBin_79 rfl (lv_at hl 0 rfl) ?_
        refine geM_X6_4 (pc := 80) cx inX6_addBin_X6 kX6_addBin_64 hw dX6_addBin_80 ?_
        refine lv_iconst (pc := 83) (v := (1 : Int32)) hx hb dX6_addBin_83 (by decide) ?_
        refine lv_isub (pc := 84) hx hb dX6_addBin_84 ?_
        exact hret 85 _ _ (A_17, V_18) _ _ rfl dX6_addBin_85 h hw
      · have h := h.2 c15
        refine lv_aload_n (pc := 37) hx hb dX6_addBin_37 rfl (lv_at hl 0 rfl) ?_
        refine lv_iconst (pc := 38) (v := (2 : Int32)) hx hb dX6_addBin_38 (by decide) ?_
        refine callVi (pc := 39) (rest := []) (c1 := 0) (s1 := 0) cx hw hl (metX6_fail l D cI cZ ad H.size A V_1 (2 : Int32) _ h) (fun hts => cwV 1 hts gX6_addBin_X6_fail rfl rfl rfl (by decide +kernel) ⟨Nat.le_of_ble_eq_true rfl, Nat.le_of_ble_eq_true rfl⟩) SUB.rf [0, 1] rfl 0 (ci := 6) rfl rfl rfl (JN.rf) rfl rfl (Nat.le_of_ble_eq_true rfl) ⟨Nat.le_of_ble_eq_true rfl, Nat.le_of_ble_eq_true rfl⟩ rfl rfl dX6_addBin_39 (fun r19 u H locs h hw => ?_)
        obtain ⟨A_22, V_23⟩ := u
        exact hret 42 _ _ (A_22, V_23) _ _ rfl dX6_addBin_42 h hw
    · have h := h.2 c14
      refine lv_aload_n (pc := 22) hx hb dX6_addBin_22 rfl (lv_at hl 0 rfl) ?_
      refine lv_iconst (pc := 23) (v := (1 : Int32)) hx hb dX6_addBin_23 (by decide) ?_
      refine callVi (pc := 24) (rest := []) (c1 := 0) (s1 := 0) cx hw hl (metX6_fail l D cI cZ ad H.size A V_1 (1 : Int32) _ h) (fun hts => cwV 1 hts gX6_addBin_X6_fail rfl rfl rfl (by decide +kernel) ⟨Nat.le_of_ble_eq_true rfl, Nat.le_of_ble_eq_true rfl⟩) SUB.rf [0, 1] rfl 0 (ci := 6) rfl rfl rfl (JN.rf) rfl rfl (Nat.le_of_ble_eq_true rfl) ⟨Nat.le_of_ble_eq_true rfl, Nat.le_of_ble_eq_true rfl⟩ rfl rfl dX6_addBin_24 (fun r24 u H locs h hw => ?_)
      obtain ⟨A_27, V_28⟩ := u
      exact hret 27 _ _ (A_27, V_28) _ _ rfl dX6_addBin_27 h hw
def wpX6_addBin (A : SA) (V : SV) (x1 : Int32) (x2 : Int32) (Q : Int32 → SA → SV → Prop) : Prop := wb_X6_addBin_0 Q A V x1 x2
set_option maxHeartbeats 4000000 in
set_option maxRecDepth 100000 in
theorem metX6_addBin (l : Launch) (D : va_G) (cI cZ : ClassId) (ad : Nat → Nat) (sz : Nat) (A : SA) (V : SV) (x1 : Int32) (x2 : Int32) (Q : Int32 → SA → SV → Prop) (h : wpX6_addBin A V x1 x2 Q) : Met l yX6_addBin wsX6_addBin rmX6_addBin (PcW D [(cI, .int), (cZ, .boolean)] (wM ad cI cZ A V) sz [.ref (ad 0), .int x1, .int x2]) (QiW D [(cI, .int), (cZ, .boolean)] (wM ad cI cZ A V) sz (fun u : SA × SV => (wM ad cI cZ u.1 u.2)) (fun r u => Q r u.1 u.2)) rmX6_addBin.cells rmX6_addBin.slots (va_A (wM ad cI cZ A V) sz) := by
  refine startI (plainFor_of_name (by decide)) rfl (Nat.le_of_ble_eq_true rfl) ?_
  intro p e s m args below meth c A0 Z cx hw hret ls hl
  exact wk_X6_addBin_0 Q cx hret A V x1 x2 h _ _ _ hw hl
abbrev rmX6_setCrew : Room := { frames := 1, cells := 0, slots := 0, locals := 22 }
theorem inX6_setCrew_X6 : ∀ w ∈ wsX60, w ∈ wsX6_setCrew := by decide +kernel
theorem kX6_setCrew_26 : Cond.fieldLink RX6 26 "DrownedPostModel" "scrapers" "I" ∈ wsX6_setCrew := by decide +kernel
theorem kX6_setCrew_29 : Cond.fieldLink RX6 29 "DrownedPostModel" "sorters" "I" ∈ wsX6_setCrew := by decide +kernel
theorem kX6_setCrew_42 : Cond.fieldLink RX6 42 "DrownedPostModel" "thrown" "I" ∈ wsX6_setCrew := by decide +kernel
def wb_X6_setCrew_0 (Q : Int32 → SA → SV → Prop) (A : SA) (V : SV) (x1 : Int32) (x2 : Int32) : Prop := (∀ V_1 : SV, V_1 = uv V 0 (0 : Int32) → (wpX6_isIn x1 (0 : Int32) (9 : Int32) (fun r2 => ((r2 = 0 → (wpX6_fail A V_1 (1 : Int32) (fun r6 A_9 V_10 => Q r6 A_9 V_10))) ∧ (¬ (r2 = 0) → (wpX6_isIn x2 (0 : Int32) (9 : Int32) (fun r11 => ((¬ r11 = 0 → (∀ V_15 : SV, V_15 = uv V_1 6 x1 → (∀ V_16 : SV, V_16 = uv V_15 7 x2 → Q (V_1 7) A V_16))) ∧ (r11 = 0 → (wpX6_fail A V_1 (1 : Int32) (fun r17 A_20 V_21 => Q r17 A_20 V_21)))))))))))
set_option maxHeartbeats 4000000 in
set_option maxRecDepth 100000 in
theorem wk_X6_setCrew_0 (Q : Int32 → SA → SV → Prop) (cx : CX RX6 cX6_setCrew 4 wsX6_setCrew D [(cI, .int), (cZ, .boolean)] p s m args c A0) (hret : ∀ (pc : Nat) (ls : Array Slot) (r : Int32) (u : SA × SV) (H : Heap) (locs : List Loc), narrow .int (.int r) = .int r → decode cX6_setCrew pc = .ok (.ireturn, 1) → Q r u.1 u.2 → WS D s A0 (wM ad cI cZ u.1 u.2) H locs → W p l e rmX6_setCrew s m args below meth c H locs rmX6_setCrew.cells rmX6_setCrew.slots Z (F0 m pc ls [.int r]))  : ∀ (A : SA) (V : SV) (x1 : Int32) (x2 : Int32) (h : wb_X6_setCrew_0 Q A V x1 x2) (H : Heap) (locs : List Loc) (ls : Array Slot) (hw : WS D s A0 (wM ad cI cZ A V) H locs) (hl : lv_has ls 4 [(0, .ref (ad 0)), (1, .int x1), (2, .int x2)]), W p l e rmX6_setCrew s m args below meth c H locs 0 0 Z (F0 m 0 ls []) := by
  obtain ⟨hx, hb, hml, hown, hts, hK, hA⟩ := id cx
  intro A V x1 x2 h H locs ls hw hl
  refine lv_aload_n (pc := 0) hx hb dX6_setCrew_0 rfl (lv_at hl 0 rfl) ?_
  refine lv_iconst (pc := 1) (v := (0 : Int32)) hx hb dX6_setCrew_1 (by decide) ?_
  refine puM_X6_0 (pc := 2) cx inX6_setCrew_X6 kX6_setCrew_42 hw dX6_setCrew_2 (fun V_1 eV_1 H locs hw => ?_)
  have h := h V_1 eV_1
  refine lv_iload_n (pc := 5) hx hb dX6_setCrew_5 rfl (lv_at hl 1 rfl) ?_
  refine lv_iconst (pc := 6) (v := (0 : Int32)) hx hb dX6_setCrew_6 (by decide) ?_
  refine lv_bipush (pc := 7) (v := (9 : Int32)) hx hb dX6_setCrew_7 (by decide) ?_
  refine callSi (pc := 9) (rest := []) (c1 := 0) (s1 := 0) cx hw hl (metX6_isIn l D [] H.size x1 (0 : Int32) (9 : Int32) _ h) (fun hts => va_cwS 3 hts gX6_setCrew_X6_isIn rfl rfl rfl (by decide +kernel) ⟨Nat.le_of_ble_eq_true rfl, Nat.le_of_ble_eq_true rfl⟩) SUB.nil [] rfl (JN.nil (S := Unit)) rfl rfl (Nat.le_of_ble_eq_true rfl) ⟨Nat.le_of_ble_eq_true rfl, Nat.le_of_ble_eq_true rfl⟩ rfl rfl dX6_setCrew_9 (fun r2 u H locs h hw => ?_)
  refine lv_if_eq (pc := 12) (tgt := 25) hx hb dX6_setCrew_12 (by decide) (fun c5 => ?_) (fun c5 => ?_)
  · have h := h.1 c5
    refine lv_aload_n (pc := 25) hx hb dX6_setCrew_25 rfl (lv_at hl 0 rfl) ?_
    refine lv_iconst (pc := 26) (v := (1 : Int32)) hx hb dX6_setCrew_26 (by decide) ?_
    refine callVi (pc := 27) (rest := []) (c1 := 0) (s1 := 0) cx hw hl (metX6_fail l D cI cZ ad H.size A V_1 (1 : Int32) _ h) (fun hts => cwV 1 hts gX6_setCrew_X6_fail rfl rfl rfl (by decide +kernel) ⟨Nat.le_of_ble_eq_true rfl, Nat.le_of_ble_eq_true rfl⟩) SUB.rf [0, 1] rfl 0 (ci := 6) rfl rfl rfl (JN.rf) rfl rfl (Nat.le_of_ble_eq_true rfl) ⟨Nat.le_of_ble_eq_true rfl, Nat.le_of_ble_eq_true rfl⟩ rfl rfl dX6_setCrew_27 (fun r6 u H locs h hw => ?_)
    obtain ⟨A_9, V_10⟩ := u
    exact hret 30 _ _ (A_9, V_10) _ _ rfl dX6_setCrew_30 h hw
  · have h := h.2 c5
    refine lv_iload_n (pc := 15) hx hb dX6_setCrew_15 rfl (lv_at hl 2 rfl) ?_
    refine lv_iconst (pc := 16) (v := (0 : Int32)) hx hb dX6_setCrew_16 (by decide) ?_
    refine lv_bipush (pc := 17) (v := (9 : Int32)) hx hb dX6_setCrew_17 (by decide) ?_
    refine callSi (pc := 19) (rest := []) (c1 := 0) (s1 := 0) cx hw hl (metX6_isIn l D [] H.size x2 (0 : Int32) (9 : Int32) _ h) (fun hts => va_cwS 3 hts gX6_setCrew_X6_isIn rfl rfl rfl (by decide +kernel) ⟨Nat.le_of_ble_eq_true rfl, Nat.le_of_ble_eq_true rfl⟩) SUB.nil [] rfl (JN.nil (S := Unit)) rfl rfl (Nat.le_of_ble_eq_true rfl) ⟨Nat.le_of_ble_eq_true rfl, Nat.le_of_ble_eq_true rfl⟩ rfl rfl dX6_setCrew_19 (fun r11 u H locs h hw => ?_)
    refine lv_if_ne (pc := 22) (tgt := 31) hx hb dX6_setCrew_22 (by decide) (fun c14 => ?_) (fun c14 => ?_)
    · have h := h.1 c14
      refine lv_aload_n (pc := 31) hx hb dX6_setCrew_31 rfl (lv_at hl 0 rfl) ?_
      refine geM_X6_11 (pc := 32) cx inX6_setCrew_X6 kX6_setCrew_29 hw dX6_setCrew_32 ?_
      refine lv_istore_n (pc := 35) (lv' := [(3, .int (V_1 7)), (0, .ref (ad 0)), (1, .int x1), (2, .int x2)]) hx hb dX6_setCrew_35 rfl hl (by decide) rfl (fun ls hl => ?_)
      refine lv_aload_n (pc := 36) hx hb dX6_setCrew_36 rfl (lv_at hl 1 rfl) ?_
      refine lv_iload_n (pc := 37) hx hb dX6_setCrew_37 rfl (lv_at hl 2 rfl) ?_
      refine puM_X6_10 (pc := 38) cx inX6_setCrew_X6 kX6_setCrew_26 hw dX6_setCrew_38 (fun V_15 eV_15 H locs hw => ?_)
      have h := h V_15 eV_15
      refine lv_aload_n (pc := 41) hx hb dX6_setCrew_41 rfl (lv_at hl 1 rfl) ?_
      refine lv_iload_n (pc := 42) hx hb dX6_setCrew_42 rfl (lv_at hl 3 rfl) ?_
      refine puM_X6_11 (pc := 43) cx inX6_setCrew_X6 kX6_setCrew_29 hw dX6_setCrew_43 (fun V_16 eV_16 H locs hw => ?_)
      have h := h V_16 eV_16
      refine lv_iload_n (pc := 46) hx hb dX6_setCrew_46 rfl (lv_at hl 0 rfl) ?_
      exact hret 47 _ _ (A, V_16) _ _ rfl dX6_setCrew_47 h hw
    · have h := h.2 c14
      refine lv_aload_n (pc := 25) hx hb dX6_setCrew_25 rfl (lv_at hl 0 rfl) ?_
      refine lv_iconst (pc := 26) (v := (1 : Int32)) hx hb dX6_setCrew_26 (by decide) ?_
      refine callVi (pc := 27) (rest := []) (c1 := 0) (s1 := 0) cx hw hl (metX6_fail l D cI cZ ad H.size A V_1 (1 : Int32) _ h) (fun hts => cwV 1 hts gX6_setCrew_X6_fail rfl rfl rfl (by decide +kernel) ⟨Nat.le_of_ble_eq_true rfl, Nat.le_of_ble_eq_true rfl⟩) SUB.rf [0, 1] rfl 0 (ci := 6) rfl rfl rfl (JN.rf) rfl rfl (Nat.le_of_ble_eq_true rfl) ⟨Nat.le_of_ble_eq_true rfl, Nat.le_of_ble_eq_true rfl⟩ rfl rfl dX6_setCrew_27 (fun r17 u H locs h hw => ?_)
      obtain ⟨A_20, V_21⟩ := u
      exact hret 30 _ _ (A_20, V_21) _ _ rfl dX6_setCrew_30 h hw
def wpX6_setCrew (A : SA) (V : SV) (x1 : Int32) (x2 : Int32) (Q : Int32 → SA → SV → Prop) : Prop := wb_X6_setCrew_0 Q A V x1 x2
set_option maxHeartbeats 4000000 in
set_option maxRecDepth 100000 in
theorem metX6_setCrew (l : Launch) (D : va_G) (cI cZ : ClassId) (ad : Nat → Nat) (sz : Nat) (A : SA) (V : SV) (x1 : Int32) (x2 : Int32) (Q : Int32 → SA → SV → Prop) (h : wpX6_setCrew A V x1 x2 Q) : Met l yX6_setCrew wsX6_setCrew rmX6_setCrew (PcW D [(cI, .int), (cZ, .boolean)] (wM ad cI cZ A V) sz [.ref (ad 0), .int x1, .int x2]) (QiW D [(cI, .int), (cZ, .boolean)] (wM ad cI cZ A V) sz (fun u : SA × SV => (wM ad cI cZ u.1 u.2)) (fun r u => Q r u.1 u.2)) rmX6_setCrew.cells rmX6_setCrew.slots (va_A (wM ad cI cZ A V) sz) := by
  refine startI (plainFor_of_name (by decide)) rfl (Nat.le_of_ble_eq_true rfl) ?_
  intro p e s m args below meth c A0 Z cx hw hret ls hl
  exact wk_X6_setCrew_0 Q cx hret A V x1 x2 h _ _ _ hw hl
abbrev rmX6_isOne : Room := { frames := 1, cells := 0, slots := 0, locals := 22 }
theorem inX6_isOne_X6 : ∀ w ∈ wsX60, w ∈ wsX6_isOne := by decide +kernel
theorem kX6_isOne_67 : Cond.fieldLink RX6 67 "DrownedPostModel" "drowned" "I" ∈ wsX6_isOne := by decide +kernel
def wb_X6_isOne_0 (Q : Int32 → SA → SV → Prop) (A : SA) (V : SV) (x1 : Int32) : Prop := (wpX6_isIn x1 (0 : Int32) ((V 4) - (1 : Int32)) (fun r1 => ((r1 = 0 ∨ r1 = 1) ∧ Q r1 A V)))
set_option maxHeartbeats 4000000 in
set_option maxRecDepth 100000 in
theorem wk_X6_isOne_0 (Q : Int32 → SA → SV → Prop) (cx : CX RX6 cX6_isOne 2 wsX6_isOne D [(cI, .int), (cZ, .boolean)] p s m args c A0) (hret : ∀ (pc : Nat) (ls : Array Slot) (r : Int32) (u : SA × SV) (H : Heap) (locs : List Loc), narrow .boolean (.int r) = .int r → decode cX6_isOne pc = .ok (.ireturn, 1) → Q r u.1 u.2 → WS D s A0 (wM ad cI cZ u.1 u.2) H locs → W p l e rmX6_isOne s m args below meth c H locs rmX6_isOne.cells rmX6_isOne.slots Z (F0 m pc ls [.int r]))  : ∀ (A : SA) (V : SV) (x1 : Int32) (h : wb_X6_isOne_0 Q A V x1) (H : Heap) (locs : List Loc) (ls : Array Slot) (hw : WS D s A0 (wM ad cI cZ A V) H locs) (hl : lv_has ls 2 [(0, .ref (ad 0)), (1, .int x1)]), W p l e rmX6_isOne s m args below meth c H locs 0 0 Z (F0 m 0 ls []) := by
  obtain ⟨hx, hb, hml, hown, hts, hK, hA⟩ := id cx
  intro A V x1 h H locs ls hw hl
  refine lv_iload_n (pc := 0) hx hb dX6_isOne_0 rfl (lv_at hl 1 rfl) ?_
  refine lv_iconst (pc := 1) (v := (0 : Int32)) hx hb dX6_isOne_1 (by decide) ?_
  refine lv_aload_n (pc := 2) hx hb dX6_isOne_2 rfl (lv_at hl 0 rfl) ?_
  refine geM_X6_6 (pc := 3) cx inX6_isOne_X6 kX6_isOne_67 hw dX6_isOne_3 ?_
  refine lv_iconst (pc := 6) (v := (1 : Int32)) hx hb dX6_isOne_6 (by decide) ?_
  refine lv_isub (pc := 7) hx hb dX6_isOne_7 ?_
  refine callSi (pc := 8) (rest := []) (c1 := 0) (s1 := 0) cx hw hl (metX6_isIn l D [] H.size x1 (0 : Int32) ((V 4) - (1 : Int32)) _ h) (fun hts => va_cwS 3 hts gX6_isOne_X6_isIn rfl rfl rfl (by decide +kernel) ⟨Nat.le_of_ble_eq_true rfl, Nat.le_of_ble_eq_true rfl⟩) SUB.nil [] rfl (JN.nil (S := Unit)) rfl rfl (Nat.le_of_ble_eq_true rfl) ⟨Nat.le_of_ble_eq_true rfl, Nat.le_of_ble_eq_true rfl⟩ rfl rfl dX6_isOne_8 (fun r1 u H locs h hw => ?_)
  exact hret 11 _ _ (A, V) _ _ (nar01 h.1) dX6_isOne_11 h.2 hw
def wpX6_isOne (A : SA) (V : SV) (x1 : Int32) (Q : Int32 → SA → SV → Prop) : Prop := wb_X6_isOne_0 Q A V x1
set_option maxHeartbeats 4000000 in
set_option maxRecDepth 100000 in
theorem metX6_isOne (l : Launch) (D : va_G) (cI cZ : ClassId) (ad : Nat → Nat) (sz : Nat) (A : SA) (V : SV) (x1 : Int32) (Q : Int32 → SA → SV → Prop) (h : wpX6_isOne A V x1 Q) : Met l yX6_isOne wsX6_isOne rmX6_isOne (PcW D [(cI, .int), (cZ, .boolean)] (wM ad cI cZ A V) sz [.ref (ad 0), .int x1]) (QiW D [(cI, .int), (cZ, .boolean)] (wM ad cI cZ A V) sz (fun u : SA × SV => (wM ad cI cZ u.1 u.2)) (fun r u => Q r u.1 u.2)) rmX6_isOne.cells rmX6_isOne.slots (va_A (wM ad cI cZ A V) sz) := by
  refine startI (plainFor_of_name (by decide)) rfl (Nat.le_of_ble_eq_true rfl) ?_
  intro p e s m args below meth c A0 Z cx hw hret ls hl
  exact wk_X6_isOne_0 Q cx hret A V x1 h _ _ _ hw hl
abbrev rmX6_isLetter : Room := { frames := 1, cells := 0, slots := 0, locals := 22 }
theorem inX6_isLetter_X6 : ∀ w ∈ wsX60, w ∈ wsX6_isLetter := by decide +kernel
theorem kX6_isLetter_70 : Cond.fieldLink RX6 70 "DrownedPostModel" "letters" "I" ∈ wsX6_isLetter := by decide +kernel
def wb_X6_isLetter_0 (Q : Int32 → SA → SV → Prop) (A : SA) (V : SV) (x1 : Int32) : Prop := (wpX6_isIn x1 (0 : Int32) ((V 5) - (1 : Int32)) (fun r1 => ((r1 = 0 ∨ r1 = 1) ∧ Q r1 A V)))
set_option maxHeartbeats 4000000 in
set_option maxRecDepth 100000 in
theorem wk_X6_isLetter_0 (Q : Int32 → SA → SV → Prop) (cx : CX RX6 cX6_isLetter 2 wsX6_isLetter D [(cI, .int), (cZ, .boolean)] p s m args c A0) (hret : ∀ (pc : Nat) (ls : Array Slot) (r : Int32) (u : SA × SV) (H : Heap) (locs : List Loc), narrow .boolean (.int r) = .int r → decode cX6_isLetter pc = .ok (.ireturn, 1) → Q r u.1 u.2 → WS D s A0 (wM ad cI cZ u.1 u.2) H locs → W p l e rmX6_isLetter s m args below meth c H locs rmX6_isLetter.cells rmX6_isLetter.slots Z (F0 m pc ls [.int r]))  : ∀ (A : SA) (V : SV) (x1 : Int32) (h : wb_X6_isLetter_0 Q A V x1) (H : Heap) (locs : List Loc) (ls : Array Slot) (hw : WS D s A0 (wM ad cI cZ A V) H locs) (hl : lv_has ls 2 [(0, .ref (ad 0)), (1, .int x1)]), W p l e rmX6_isLetter s m args below meth c H locs 0 0 Z (F0 m 0 ls []) := by
  obtain ⟨hx, hb, hml, hown, hts, hK, hA⟩ := id cx
  intro A V x1 h H locs ls hw hl
  refine lv_iload_n (pc := 0) hx hb dX6_isLetter_0 rfl (lv_at hl 1 rfl) ?_
  refine lv_iconst (pc := 1) (v := (0 : Int32)) hx hb dX6_isLetter_1 (by decide) ?_
  refine lv_aload_n (pc := 2) hx hb dX6_isLetter_2 rfl (lv_at hl 0 rfl) ?_
  refine geM_X6_8 (pc := 3) cx inX6_isLetter_X6 kX6_isLetter_70 hw dX6_isLetter_3 ?_
  refine lv_iconst (pc := 6) (v := (1 : Int32)) hx hb dX6_isLetter_6 (by decide) ?_
  refine lv_isub (pc := 7) hx hb dX6_isLetter_7 ?_
  refine callSi (pc := 8) (rest := []) (c1 := 0) (s1 := 0) cx hw hl (metX6_isIn l D [] H.size x1 (0 : Int32) ((V 5) - (1 : Int32)) _ h) (fun hts => va_cwS 3 hts gX6_isLetter_X6_isIn rfl rfl rfl (by decide +kernel) ⟨Nat.le_of_ble_eq_true rfl, Nat.le_of_ble_eq_true rfl⟩) SUB.nil [] rfl (JN.nil (S := Unit)) rfl rfl (Nat.le_of_ble_eq_true rfl) ⟨Nat.le_of_ble_eq_true rfl, Nat.le_of_ble_eq_true rfl⟩ rfl rfl dX6_isLetter_8 (fun r1 u H locs h hw => ?_)
  exact hret 11 _ _ (A, V) _ _ (nar01 h.1) dX6_isLetter_11 h.2 hw
def wpX6_isLetter (A : SA) (V : SV) (x1 : Int32) (Q : Int32 → SA → SV → Prop) : Prop := wb_X6_isLetter_0 Q A V x1
set_option maxHeartbeats 4000000 in
set_option maxRecDepth 100000 in
theorem metX6_isLetter (l : Launch) (D : va_G) (cI cZ : ClassId) (ad : Nat → Nat) (sz : Nat) (A : SA) (V : SV) (x1 : Int32) (Q : Int32 → SA → SV → Prop) (h : wpX6_isLetter A V x1 Q) : Met l yX6_isLetter wsX6_isLetter rmX6_isLetter (PcW D [(cI, .int), (cZ, .boolean)] (wM ad cI cZ A V) sz [.ref (ad 0), .int x1]) (QiW D [(cI, .int), (cZ, .boolean)] (wM ad cI cZ A V) sz (fun u : SA × SV => (wM ad cI cZ u.1 u.2)) (fun r u => Q r u.1 u.2)) rmX6_isLetter.cells rmX6_isLetter.slots (va_A (wM ad cI cZ A V) sz) := by
  refine startI (plainFor_of_name (by decide)) rfl (Nat.le_of_ble_eq_true rfl) ?_
  intro p e s m args below meth c A0 Z cx hw hret ls hl
  exact wk_X6_isLetter_0 Q cx hret A V x1 h _ _ _ hw hl
abbrev rmX6_addDrowned : Room := { frames := 2, cells := 1, slots := 5, locals := 80 }
theorem inX6_addDrowned_X6 : ∀ w ∈ wsX60, w ∈ wsX6_addDrowned := by decide +kernel
theorem kX6_addDrowned_20 : Cond.fieldLink RX6 20 "DrownedPostModel" "ones" "[I" ∈ wsX6_addDrowned := by decide +kernel
theorem kX6_addDrowned_42 : Cond.fieldLink RX6 42 "DrownedPostModel" "thrown" "I" ∈ wsX6_addDrowned := by decide +kernel
theorem kX6_addDrowned_67 : Cond.fieldLink RX6 67 "DrownedPostModel" "drowned" "I" ∈ wsX6_addDrowned := by decide +kernel
theorem kX6_addDrowned_73 : Cond.methodLink RX6 73 arraycopyName ∈ wsX6_addDrowned := by decide +kernel
theorem kX6_addDrowned_w_arrayClass__int : Cond.arrayClass .int ∈ wsX6_addDrowned := by decide +kernel
theorem kX6_addDrowned_w_initialized__java_lang_System_ : Cond.initialized "java/lang/System" ∈ wsX6_addDrowned := by decide +kernel
theorem kX6_addDrowned_w_native_arraycopyName : Cond.native arraycopyName ∈ wsX6_addDrowned := by decide +kernel
theorem kX6_addDrowned_w_static_arraycopyName : Cond.static arraycopyName ∈ wsX6_addDrowned := by decide +kernel
def wb_X6_addDrowned_0 (Q : Int32 → SA → SV → Prop) (A : SA) (V : SV) (x1 : Int32) (x2 : Int32) (x3 : Int32) : Prop := (∀ V_1 : SV, V_1 = uv V 0 (0 : Int32) → (wpX6_isHeight x1 (fun r2 => ((r2 = 0 → (wpX6_fail A V_1 (1 : Int32) (fun r6 A_9 V_10 => Q r6 A_9 V_10))) ∧ (¬ (r2 = 0) → (wpX6_isIn x2 (0 : Int32) (5 : Int32) (fun r11 => ((r11 = 0 → (wpX6_fail A V_1 (1 : Int32) (fun r15 A_18 V_19 => Q r15 A_18 V_19))) ∧ (¬ (r11 = 0) → (wpX6_isIn x3 (1 : Int32) (60 : Int32) (fun r20 => ((¬ r20 = 0 → ((¬ (V_1 4) = (16 : Int32) → (∀ f26 : Nat → Int32, f26 = upd (fun _ => 0 : Nat → Int32) (0 : Int32).toNatClampNeg x1 → (∀ f27 : Nat → Int32, f27 = upd f26 (1 : Int32).toNatClampNeg x2 → (∀ f28 : Nat → Int32, f28 = upd f27 (2 : Int32).toNatClampNeg x3 → (∀ f29 : Nat → Int32, f29 = upd f28 (3 : Int32).toNatClampNeg (0 : Int32) → (∀ f30 : Nat → Int32, f30 = upd f29 (4 : Int32).toNatClampNeg (0 : Int32) → (¬ (0 : Int32) < 0 ∧ ¬ ((5 : Int32) * (V_1 4)) < 0 ∧ ¬ (5 : Int32) < 0 ∧ (0 : Int32).toNatClampNeg + (5 : Int32).toNatClampNeg ≤ 5 ∧ ((5 : Int32) * (V_1 4)).toNatClampNeg + (5 : Int32).toNatClampNeg ≤ 80 ∧ (∀ A_31 : SA, A_31 = ua A 2 (va_cpy f30 (A 2) (0 : Int32).toNatClampNeg ((5 : Int32) * (V_1 4)).toNatClampNeg (5 : Int32).toNatClampNeg) → (∀ V_32 : SV, V_32 = uv V_1 4 ((V_1 4) + (1 : Int32)) → Q ((V_32 4) - (1 : Int32)) A_31 V_32))))))))) ∧ ((V_1 4) = (16 : Int32) → (wpX6_fail A V_1 (2 : Int32) (fun r33 A_36 V_37 => Q r33 A_36 V_37))))) ∧ (r20 = 0 → (wpX6_fail A V_1 (1 : Int32) (fun r38 A_41 V_42 => Q r38 A_41 V_42)))))))))))))))
set_option maxHeartbeats 4000000 in
set_option maxRecDepth 100000 in
theorem wk_X6_addDrowned_0 (Q : Int32 → SA → SV → Prop) (cx : CX RX6 cX6_addDrowned 5 wsX6_addDrowned D [(cI, .int), (cZ, .boolean)] p s m args c A0) (hret : ∀ (pc : Nat) (ls : Array Slot) (r : Int32) (u : SA × SV) (H : Heap) (locs : List Loc), narrow .int (.int r) = .int r → decode cX6_addDrowned pc = .ok (.ireturn, 1) → Q r u.1 u.2 → WS D s A0 (wM ad cI cZ u.1 u.2) H locs → W p l e rmX6_addDrowned s m args below meth c H locs rmX6_addDrowned.cells rmX6_addDrowned.slots Z (F0 m pc ls [.int r]))  : ∀ (A : SA) (V : SV) (x1 : Int32) (x2 : Int32) (x3 : Int32) (h : wb_X6_addDrowned_0 Q A V x1 x2 x3) (H : Heap) (locs : List Loc) (ls : Array Slot) (hw : WS D s A0 (wM ad cI cZ A V) H locs) (hl : lv_has ls 5 [(0, .ref (ad 0)), (1, .int x1), (2, .int x2), (3, .int x3)]), W p l e rmX6_addDrowned s m args below meth c H locs 0 0 Z (F0 m 0 ls []) := by
  obtain ⟨hx, hb, hml, hown, hts, hK, hA⟩ := id cx
  intro A V x1 x2 x3 h H locs ls hw hl
  refine lv_aload_n (pc := 0) hx hb dX6_addDrowned_0 rfl (lv_at hl 0 rfl) ?_
  refine lv_iconst (pc := 1) (v := (0 : Int32)) hx hb dX6_addDrowned_1 (by decide) ?_
  refine puM_X6_0 (pc := 2) cx inX6_addDrowned_X6 kX6_addDrowned_42 hw dX6_addDrowned_2 (fun V_1 eV_1 H locs hw => ?_)
  have h := h V_1 eV_1
  refine lv_iload_n (pc := 5) hx hb dX6_addDrowned_5 rfl (lv_at hl 1 rfl) ?_
  refine callSi (pc := 6) (rest := []) (c1 := 0) (s1 := 0) cx hw hl (metX6_isHeight l D [] H.size x1 _ h) (fun hts => va_cwS 1 hts gX6_addDrowned_X6_isHeight rfl rfl rfl (by decide +kernel) ⟨Nat.le_of_ble_eq_true rfl, Nat.le_of_ble_eq_true rfl⟩) SUB.nil [] rfl (JN.nil (S := Unit)) rfl rfl (Nat.le_of_ble_eq_true rfl) ⟨Nat.le_of_ble_eq_true rfl, Nat.le_of_ble_eq_true rfl⟩ rfl rfl dX6_addDrowned_6 (fun r2 u H locs h hw => ?_)
  refine lv_if_eq (pc := 9) (tgt := 31) hx hb dX6_addDrowned_9 (by decide) (fun c5 => ?_) (fun c5 => ?_)
  · have h := h.1 c5
    refine lv_aload_n (pc := 31) hx hb dX6_addDrowned_31 rfl (lv_at hl 0 rfl) ?_
    refine lv_iconst (pc := 32) (v := (1 : Int32)) hx hb dX6_addDrowned_32 (by decide) ?_
    refine callVi (pc := 33) (rest := []) (c1 := 0) (s1 := 0) cx hw hl (metX6_fail l D cI cZ ad H.size A V_1 (1 : Int32) _ h) (fun hts => cwV 1 hts gX6_addDrowned_X6_fail rfl rfl rfl (by decide +kernel) ⟨Nat.le_of_ble_eq_true rfl, Nat.le_of_ble_eq_true rfl⟩) SUB.rf [0, 1] rfl 0 (ci := 6) rfl rfl rfl (JN.rf) rfl rfl (Nat.le_of_ble_eq_true rfl) ⟨Nat.le_of_ble_eq_true rfl, Nat.le_of_ble_eq_true rfl⟩ rfl rfl dX6_addDrowned_33 (fun r6 u H locs h hw => ?_)
    obtain ⟨A_9, V_10⟩ := u
    refine W.widen (k := 1) (n := 5) (Nat.le_of_ble_eq_true rfl) (Nat.le_of_ble_eq_true rfl) ?_
    exact hret 36 _ _ (A_9, V_10) _ _ rfl dX6_addDrowned_36 h hw
  · have h := h.2 c5
    refine lv_iload_n (pc := 12) hx hb dX6_addDrowned_12 rfl (lv_at hl 2 rfl) ?_
    refine lv_iconst (pc := 13) (v := (0 : Int32)) hx hb dX6_addDrowned_13 (by decide) ?_
    refine lv_iconst (pc := 14) (v := (5 : Int32)) hx hb dX6_addDrowned_14 (by decide) ?_
    refine callSi (pc := 15) (rest := []) (c1 := 0) (s1 := 0) cx hw hl (metX6_isIn l D [] H.size x2 (0 : Int32) (5 : Int32) _ h) (fun hts => va_cwS 3 hts gX6_addDrowned_X6_isIn rfl rfl rfl (by decide +kernel) ⟨Nat.le_of_ble_eq_true rfl, Nat.le_of_ble_eq_true rfl⟩) SUB.nil [] rfl (JN.nil (S := Unit)) rfl rfl (Nat.le_of_ble_eq_true rfl) ⟨Nat.le_of_ble_eq_true rfl, Nat.le_of_ble_eq_true rfl⟩ rfl rfl dX6_addDrowned_15 (fun r11 u H locs h hw => ?_)
    refine lv_if_eq (pc := 18) (tgt := 31) hx hb dX6_addDrowned_18 (by decide) (fun c14 => ?_) (fun c14 => ?_)
    · have h := h.1 c14
      refine lv_aload_n (pc := 31) hx hb dX6_addDrowned_31 rfl (lv_at hl 0 rfl) ?_
      refine lv_iconst (pc := 32) (v := (1 : Int32)) hx hb dX6_addDrowned_32 (by decide) ?_
      refine callVi (pc := 33) (rest := []) (c1 := 0) (s1 := 0) cx hw hl (metX6_fail l D cI cZ ad H.size A V_1 (1 : Int32) _ h) (fun hts => cwV 1 hts gX6_addDrowned_X6_fail rfl rfl rfl (by decide +kernel) ⟨Nat.le_of_ble_eq_true rfl, Nat.le_of_ble_eq_true rfl⟩) SUB.rf [0, 1] rfl 0 (ci := 6) rfl rfl rfl (JN.rf) rfl rfl (Nat.le_of_ble_eq_true rfl) ⟨Nat.le_of_ble_eq_true rfl, Nat.le_of_ble_eq_true rfl⟩ rfl rfl dX6_addDrowned_33 (fun r15 u H locs h hw => ?_)
      obtain ⟨A_18, V_19⟩ := u
      refine W.widen (k := 1) (n := 5) (Nat.le_of_ble_eq_true rfl) (Nat.le_of_ble_eq_true rfl) ?_
      exact hret 36 _ _ (A_18, V_19) _ _ rfl dX6_addDrowned_36 h hw
    · have h := h.2 c14
      refine lv_iload_n (pc := 21) hx hb dX6_addDrowned_21 rfl (lv_at hl 3 rfl) ?_
      refine lv_iconst (pc := 22) (v := (1 : Int32)) hx hb dX6_addDrowned_22 (by decide) ?_
      refine lv_bipush (pc := 23) (v := (60 : Int32)) hx hb dX6_addDrowned_23 (by decide) ?_
      refine callSi (pc := 25) (rest := []) (c1 := 0) (s1 := 0) cx hw hl (metX6_isIn l D [] H.size x3 (1 : Int32) (60 : Int32) _ h) (fun hts => va_cwS 3 hts gX6_addDrowned_X6_isIn rfl rfl rfl (by decide +kernel) ⟨Nat.le_of_ble_eq_true rfl, Nat.le_of_ble_eq_true rfl⟩) SUB.nil [] rfl (JN.nil (S := Unit)) rfl rfl (Nat.le_of_ble_eq_true rfl) ⟨Nat.le_of_ble_eq_true rfl, Nat.le_of_ble_eq_true rfl⟩ rfl rfl dX6_addDrowned_25 (fun r20 u H locs h hw => ?_)
      refine lv_if_ne (pc := 28) (tgt := 37) hx hb dX6_addDrowned_28 (by decide) (fun c23 => ?_) (fun c23 => ?_)
      · have h := h.1 c23
        refine lv_aload_n (pc := 37) hx hb dX6_addDrowned_37 rfl (lv_at hl 0 rfl) ?_
        refine geM_X6_6 (pc := 38) cx inX6_addDrowned_X6 kX6_addDrowned_67 hw dX6_addDrowned_38 ?_
        refine lv_bipush (pc := 41) (v := (16 : Int32)) hx hb dX6_addDrowned_41 (by decide) ?_
        refine lv_icmp_ne (pc := 43) (tgt := 52) hx hb dX6_addDrowned_43 (by decide) (fun c24 => ?_) (fun c24 => ?_)
        · have h := h.1 c24
          refine lv_iconst (pc := 52) (v := (5 : Int32)) hx hb dX6_addDrowned_52 (by decide) ?_
          refine newI (pc := 53) (N' := 5) cx (hts _ kX6_addDrowned_w_arrayClass__int) hw (by decide) (by decide) (by decide) (by decide) (by decide) dX6_addDrowned_53 (fun q25 cq25 H cx2 hw => ?_)
          refine lv_dup (pc := 55) hx hb dX6_addDrowned_55 rfl ?_
          refine lv_iconst (pc := 56) (v := (0 : Int32)) hx hb dX6_addDrowned_56 (by decide) ?_
          refine lv_iload_n (pc := 57) hx hb dX6_addDrowned_57 rfl (lv_at hl 1 rfl) ?_
          obtain ⟨f26, ef26⟩ : ∃ z : Nat → Int32, z = upd (fun _ => 0 : Nat → Int32) (0 : Int32).toNatClampNeg x1 := ⟨_, rfl⟩
          refine asI (pc := 58) cx2 hw 8 2 rfl rfl (i := (0 : Int32)) (vp_in_iff.mpr (by decide)) (ws1 := wM ad cI cZ A V_1 ++ [(q25, .inl (cq25, 5, .inl f26))]) (by rw [ef26]; rfl) dX6_addDrowned_58 (fun H locs hw => ?_)
          have h := h f26 ef26
          refine lv_dup (pc := 59) hx hb dX6_addDrowned_59 rfl ?_
          refine lv_iconst (pc := 60) (v := (1 : Int32)) hx hb dX6_addDrowned_60 (by decide) ?_
          refine lv_iload_n (pc := 61) hx hb dX6_addDrowned_61 rfl (lv_at hl 2 rfl) ?_
          obtain ⟨f27, ef27⟩ : ∃ z : Nat → Int32, z = upd f26 (1 : Int32).toNatClampNeg x2 := ⟨_, rfl⟩
          refine asI (pc := 62) cx2 hw 8 2 rfl rfl (i := (1 : Int32)) (vp_in_iff.mpr (by decide)) (ws1 := wM ad cI cZ A V_1 ++ [(q25, .inl (cq25, 5, .inl f27))]) (by rw [ef27]; rfl) dX6_addDrowned_62 (fun H locs hw => ?_)
          have h := h f27 ef27
          refine lv_dup (pc := 63) hx hb dX6_addDrowned_63 rfl ?_
          refine lv_iconst (pc := 64) (v := (2 : Int32)) hx hb dX6_addDrowned_64 (by decide) ?_
          refine lv_iload_n (pc := 65) hx hb dX6_addDrowned_65 rfl (lv_at hl 3 rfl) ?_
          obtain ⟨f28, ef28⟩ : ∃ z : Nat → Int32, z = upd f27 (2 : Int32).toNatClampNeg x3 := ⟨_, rfl⟩
          refine asI (pc := 66) cx2 hw 8 2 rfl rfl (i := (2 : Int32)) (vp_in_iff.mpr (by decide)) (ws1 := wM ad cI cZ A V_1 ++ [(q25, .inl (cq25, 5, .inl f28))]) (by rw [ef28]; rfl) dX6_addDrowned_66 (fun H locs hw => ?_)
          have h := h f28 ef28
          refine lv_dup (pc := 67) hx hb dX6_addDrowned_67 rfl ?_
          refine lv_iconst (pc := 68) (v := (3 : Int32)) hx hb dX6_addDrowned_68 (by decide) ?_
          refine lv_iconst (pc := 69) (v := (0 : Int32)) hx hb dX6_addDrowned_69 (by decide) ?_
          obtain ⟨f29, ef29⟩ : ∃ z : Nat → Int32, z = upd f28 (3 : Int32).toNatClampNeg (0 : Int32) := ⟨_, rfl⟩
          refine asI (pc := 70) cx2 hw 8 2 rfl rfl (i := (3 : Int32)) (vp_in_iff.mpr (by decide)) (ws1 := wM ad cI cZ A V_1 ++ [(q25, .inl (cq25, 5, .inl f29))]) (by rw [ef29]; rfl) dX6_addDrowned_70 (fun H locs hw => ?_)
          have h := h f29 ef29
          refine lv_dup (pc := 71) hx hb dX6_addDrowned_71 rfl ?_
          refine lv_iconst (pc := 72) (v := (4 : Int32)) hx hb dX6_addDrowned_72 (by decide) ?_
          refine lv_iconst (pc := 73) (v := (0 : Int32)) hx hb dX6_addDrowned_73 (by decide) ?_
          obtain ⟨f30, ef30⟩ : ∃ z : Nat → Int32, z = upd f29 (4 : Int32).toNatClampNeg (0 : Int32) := ⟨_, rfl⟩
          refine asI (pc := 74) cx2 hw 8 2 rfl rfl (i := (4 : Int32)) (vp_in_iff.mpr (by decide)) (ws1 := wM ad cI cZ A V_1 ++ [(q25, .inl (cq25, 5, .inl f30))]) (by rw [ef30]; rfl) dX6_addDrowned_74 (fun H locs hw => ?_)
          have h := h f30 ef30
          refine lv_astore (pc := 75) (lv' := [(4, .ref q25), (0, .ref (ad 0)), (1, .int x1), (2, .int x2), (3, .int x3)]) hx hb dX6_addDrowned_75 hl (by decide) rfl (fun ls hl => ?_)
          refine lv_aload (pc := 77) hx hb dX6_addDrowned_77 (lv_at hl 0 rfl) ?_
          refine lv_iconst (pc := 79) (v := (0 : Int32)) hx hb dX6_addDrowned_79 (by decide) ?_
          refine lv_aload_n (pc := 80) hx hb dX6_addDrowned_80 rfl (lv_at hl 1 rfl) ?_
          refine geF (pc := 81) (C := RX6) (T := TX6) (N := 15) (ci := 6) cx inX6_addDrowned_X6 rfl 7 (by decide) kX6_addDrowned_20 hw 0 rfl rfl dX6_addDrowned_81 ?_
          refine lv_iconst (pc := 84) (v := (5 : Int32)) hx hb dX6_addDrowned_84 (by decide) ?_
          refine lv_aload_n (pc := 85) hx hb dX6_addDrowned_85 rfl (lv_at hl 1 rfl) ?_
          refine geF (pc := 86) (C := RX6) (T := TX6) (N := 15) (ci := 6) cx inX6_addDrowned_X6 rfl 6 (by decide) kX6_addDrowned_67 hw 0 rfl rfl dX6_addDrowned_86 ?_
          refine lv_imul (pc := 89) hx hb dX6_addDrowned_89 ?_
          refine lv_iconst (pc := 90) (v := (5 : Int32)) hx hb dX6_addDrowned_90 (by decide) ?_
          obtain ⟨A_31, eA_31⟩ : ∃ z, z = ua A 2 (va_cpy f30 (A 2) (0 : Int32).toNatClampNeg ((5 : Int32) * (V_1 4)).toNatClampNeg (5 : Int32).toNatClampNeg) := ⟨_, rfl⟩
          refine cpI (pc := 91) cx2 hl (hts _ kX6_addDrowned_73) (hts _ kX6_addDrowned_w_native_arraycopyName) (hts _ kX6_addDrowned_w_static_arraycopyName) (hts _ kX6_addDrowned_w_initialized__java_lang_System_) hw 8 3 2 0 rfl rfl rfl rfl h.1 h.2.1 h.2.2.1 h.2.2.2.1 h.2.2.2.2.1 (Nat.le_of_ble_eq_true rfl) (Nat.le_of_ble_eq_true rfl) (ws1 := wM ad cI cZ A_31 V_1 ++ [(q25, .inl (cq25, 5, .inl f30))]) (by rw [eA_31]; rfl) dX6_addDrowned_91 (fun H locs hw => ?_)
          have h := h.2.2.2.2.2 A_31 eA_31
          have hw := WS.dropR hw
          refine lv_aload_n (pc := 94) hx hb dX6_addDrowned_94 rfl (lv_at hl 1 rfl) ?_
          refine lv_dup (pc := 95) hx hb dX6_addDrowned_95 rfl ?_
          refine geM_X6_6 (pc := 96) cx inX6_addDrowned_X6 kX6_addDrowned_67 hw dX6_addDrowned_96 ?_
          refine lv_iconst (pc := 99) (v := (1 : Int32)) hx hb dX6_addDrowned_99 (by decide) ?_
          refine lv_iadd (pc := 100) hx hb dX6_addDrowned_100 ?_
          refine puM_X6_6 (pc := 101) cx inX6_addDrowned_X6 kX6_addDrowned_67 hw dX6_addDrowned_101 (fun V_32 eV_32 H locs hw => ?_)
          have h := h V_32 eV_32
          refine lv_aload_n (pc := 104) hx hb dX6_addDrowned_104 rfl (lv_at hl 1 rfl) ?_
          refine geM_X6_6 (pc := 105) cx inX6_addDrowned_X6 kX6_addDrowned_67 hw dX6_addDrowned_105 ?_
          refine lv_iconst (pc := 108) (v := (1 : Int32)) hx hb dX6_addDrowned_108 (by decide) ?_
          refine lv_isub (pc := 109) hx hb dX6_addDrowned_109 ?_
          refine W.widen (k := 1) (n := 5) (Nat.le_of_ble_eq_true rfl) (Nat.le_of_ble_eq_true rfl) ?_
          exact hret 110 _ _ (A_31, V_32) _ _ rfl dX6_addDrowned_110 h hw
        · have h := h.2 c24
          refine lv_aload_n (pc := 46) hx hb dX6_addDrowned_46 rfl (lv_at hl 0 rfl) ?_
          refine lv_iconst (pc := 47) (v := (2 : Int32)) hx hb dX6_addDrowned_47 (by decide) ?_
          refine callVi (pc := 48) (rest := []) (c1 := 0) (s1 := 0) cx hw hl (metX6_fail l D cI cZ ad H.size A V_1 (2 : Int32) _ h) (fun hts => cwV 1 hts gX6_addDrowned_X6_fail rfl rfl rfl (by decide +kernel) ⟨Nat.le_of_ble_eq_true rfl, Nat.le_of_ble_eq_true rfl⟩) SUB.rf [0, 1] rfl 0 (ci := 6) rfl rfl rfl (JN.rf) rfl rfl (Nat.le_of_ble_eq_true rfl) ⟨Nat.le_of_ble_eq_true rfl, Nat.le_of_ble_eq_true rfl⟩ rfl rfl dX6_addDrowned_48 (fun r33 u H locs h hw => ?_)
          obtain ⟨A_36, V_37⟩ := u
          refine W.widen (k := 1) (n := 5) (Nat.le_of_ble_eq_true rfl) (Nat.le_of_ble_eq_true rfl) ?_
          exact hret 51 _ _ (A_36, V_37) _ _ rfl dX6_addDrowned_51 h hw
      · have h := h.2 c23
        refine lv_aload_n (pc := 31) hx hb dX6_addDrowned_31 rfl (lv_at hl 0 rfl) ?_
        refine lv_iconst (pc := 32) (v := (1 : Int32)) hx hb dX6_addDrowned_32 (by decide) ?_
        refine callVi (pc := 33) (rest := []) (c1 := 0) (s1 := 0) cx hw hl (metX6_fail l D cI cZ ad H.size A V_1 (1 : Int32) _ h) (fun hts => cwV 1 hts gX6_addDrowned_X6_fail rfl rfl rfl (by decide +kernel) ⟨Nat.le_of_ble_eq_true rfl, Nat.le_of_ble_eq_true rfl⟩) SUB.rf [0, 1] rfl 0 (ci := 6) rfl rfl rfl (JN.rf) rfl rfl (Nat.le_of_ble_eq_true rfl) ⟨Nat.le_of_ble_eq_true rfl, Nat.le_of_ble_eq_true rfl⟩ rfl rfl dX6_addDrowned_33 (fun r38 u H locs h hw => ?_)
        obtain ⟨A_41, V_42⟩ := u
        refine W.widen (k := 1) (n := 5) (Nat.le_of_ble_eq_true rfl) (Nat.le_of_ble_eq_true rfl) ?_
        exact hret 36 _ _ (A_41, V_42) _ _ rfl dX6_addDrowned_36 h hw
def wpX6_addDrowned (A : SA) (V : SV) (x1 : Int32) (x2 : Int32) (x3 : Int32) (Q : Int32 → SA → SV → Prop) : Prop := wb_X6_addDrowned_0 Q A V x1 x2 x3
set_option maxHeartbeats 4000000 in
set_option maxRecDepth 100000 in
theorem metX6_addDrowned (l : Launch) (D : va_G) (cI cZ : ClassId) (ad : Nat → Nat) (sz : Nat) (A : SA) (V : SV) (x1 : Int32) (x2 : Int32) (x3 : Int32) (Q : Int32 → SA → SV → Prop) (h : wpX6_addDrowned A V x1 x2 x3 Q) : Met l yX6_addDrowned wsX6_addDrowned rmX6_addDrowned (PcW D [(cI, .int), (cZ, .boolean)] (wM ad cI cZ A V) sz [.ref (ad 0), .int x1, .int x2, .int x3]) (QiW D [(cI, .int), (cZ, .boolean)] (wM ad cI cZ A V) sz (fun u : SA × SV => (wM ad cI cZ u.1 u.2)) (fun r u => Q r u.1 u.2)) rmX6_addDrowned.cells rmX6_addDrowned.slots (va_A (wM ad cI cZ A V) sz) := by
  refine startI (plainFor_of_name (by decide)) rfl (Nat.le_of_ble_eq_true rfl) ?_
  intro p e s m args below meth c A0 Z cx hw hret ls hl
  exact wk_X6_addDrowned_0 Q cx hret A V x1 x2 x3 h _ _ _ hw hl
abbrev rmX6_add : Room := { frames := 1, cells := 1, slots := 9, locals := 80 }
theorem inX6_add_X6 : ∀ w ∈ wsX60, w ∈ wsX6_add := by decide +kernel
theorem kX6_add_23 : Cond.fieldLink RX6 23 "DrownedPostModel" "table" "[I" ∈ wsX6_add := by decide +kernel
theorem kX6_add_70 : Cond.fieldLink RX6 70 "DrownedPostModel" "letters" "I" ∈ wsX6_add := by decide +kernel
theorem kX6_add_73 : Cond.methodLink RX6 73 arraycopyName ∈ wsX6_add := by decide +kernel
theorem kX6_add_w_arrayClass__int : Cond.arrayClass .int ∈ wsX6_add := by decide +kernel
theorem kX6_add_w_initialized__java_lang_System_ : Cond.initialized "java/lang/System" ∈ wsX6_add := by decide +kernel
theorem kX6_add_w_native_arraycopyName : Cond.native arraycopyName ∈ wsX6_add := by decide +kernel
theorem kX6_add_w_static_arraycopyName : Cond.static arraycopyName ∈ wsX6_add := by decide +kernel
def wb_X6_add_0 (Q : SA → SV → Prop) (A : SA) (V : SV) (x1 : Int32) (x2 : Int32) (x3 : Int32) (x4 : Int32) (x5 : Int32) (x6 : Int32) : Prop := (∀ f2 : Nat → Int32, f2 = upd (fun _ => 0 : Nat → Int32) (0 : Int32).toNatClampNeg x1 → (∀ f3 : Nat → Int32, f3 = upd f2 (1 : Int32).toNatClampNeg x2 → (∀ f4 : Nat → Int32, f4 = upd f3 (2 : Int32).toNatClampNeg x3 → (∀ f5 : Nat → Int32, f5 = upd f4 (3 : Int32).toNatClampNeg x4 → (∀ f6 : Nat → Int32, f6 = upd f5 (4 : Int32).toNatClampNeg (0 : Int32) → (∀ f7 : Nat → Int32, f7 = upd f6 (5 : Int32).toNatClampNeg (-1 : Int32) → (∀ f8 : Nat → Int32, f8 = upd f7 (6 : Int32).toNatClampNeg (0 : Int32) → (∀ f9 : Nat → Int32, f9 = upd f8 (7 : Int32).toNatClampNeg x5 → (∀ f10 : Nat → Int32, f10 = upd f9 (8 : Int32).toNatClampNeg x6 → (¬ (0 : Int32) < 0 ∧ ¬ ((9 : Int32) * (V 5)) < 0 ∧ ¬ (9 : Int32) < 0 ∧ (0 : Int32).toNatClampNeg + (9 : Int32).toNatClampNeg ≤ 9 ∧ ((9 : Int32) * (V 5)).toNatClampNeg + (9 : Int32).toNatClampNeg ≤ 1350 ∧ (∀ A_11 : SA, A_11 = ua A 3 (va_cpy f10 (A 3) (0 : Int32).toNatClampNeg ((9 : Int32) * (V 5)).toNatClampNeg (9 : Int32).toNatClampNeg) → (∀ V_12 : SV, V_12 = uv V 5 ((V 5) + (1 : Int32)) → Q A_11 V_12))))))))))))
set_option maxHeartbeats 4000000 in
set_option maxRecDepth 100000 in
theorem wk_X6_add_0 (Q : SA → SV → Prop) (cx : CX RX6 cX6_add 8 wsX6_add D [(cI, .int), (cZ, .boolean)] p s m args c A0) (hret : ∀ (pc : Nat) (ls : Array Slot) (u : SA × SV) (H : Heap) (locs : List Loc), decode cX6_add pc = .ok (.return_, 1) → Q u.1 u.2 → WS D s A0 (wM ad cI cZ u.1 u.2) H locs → W p l e rmX6_add s m args below meth c H locs rmX6_add.cells rmX6_add.slots Z (F0 m pc ls []))  : ∀ (A : SA) (V : SV) (x1 : Int32) (x2 : Int32) (x3 : Int32) (x4 : Int32) (x5 : Int32) (x6 : Int32) (h : wb_X6_add_0 Q A V x1 x2 x3 x4 x5 x6) (H : Heap) (locs : List Loc) (ls : Array Slot) (hw : WS D s A0 (wM ad cI cZ A V) H locs) (hl : lv_has ls 8 [(0, .ref (ad 0)), (1, .int x1), (2, .int x2), (3, .int x3), (4, .int x4), (5, .int x5), (6, .int x6)]), W p l e rmX6_add s m args below meth c H locs 0 0 Z (F0 m 0 ls []) := by
  obtain ⟨hx, hb, hml, hown, hts, hK, hA⟩ := id cx
  intro A V x1 x2 x3 x4 x5 x6 h H locs ls hw hl
  refine lv_bipush (pc := 0) (v := (9 : Int32)) hx hb dX6_add_0 (by decide) ?_
  refine newI (pc := 2) (N' := 9) cx (hts _ kX6_add_w_arrayClass__int) hw (by decide) (by decide) (by decide) (by decide) (by decide) dX6_add_2 (fun q1 cq1 H cx2 hw => ?_)
  refine lv_dup (pc := 4) hx hb dX6_add_4 rfl ?_
  refine lv_iconst (pc := 5) (v := (0 : Int32)) hx hb dX6_add_5 (by decide) ?_
  refine lv_iload_n (pc := 6) hx hb dX6_add_6 rfl (lv_at hl 1 rfl) ?_
  obtain ⟨f2, ef2⟩ : ∃ z : Nat → Int32, z = upd (fun _ => 0 : Nat → Int32) (0 : Int32).toNatClampNeg x1 := ⟨_, rfl⟩
  refine asI (pc := 7) cx2 hw 8 2 rfl rfl (i := (0 : Int32)) (vp_in_iff.mpr (by decide)) (ws1 := wM ad cI cZ A V ++ [(q1, .inl (cq1, 9, .inl f2))]) (by rw [ef2]; rfl) dX6_add_7 (fun H locs hw => ?_)
  have h := h f2 ef2
  refine lv_dup (pc := 8) hx hb dX6_add_8 rfl ?_
  refine lv_iconst (pc := 9) (v := (1 : Int32)) hx hb dX6_add_9 (by decide) ?_
  refine lv_iload_n (pc := 10) hx hb dX6_add_10 rfl (lv_at hl 2 rfl) ?_
  obtain ⟨f3, ef3⟩ : ∃ z : Nat → Int32, z = upd f2 (1 : Int32).toNatClampNeg x2 := ⟨_, rfl⟩
  refine asI (pc := 11) cx2 hw 8 2 rfl rfl (i := (1 : Int32)) (vp_in_iff.mpr (by decide)) (ws1 := wM ad cI cZ A V ++ [(q1, .inl (cq1, 9, .inl f3))]) (by rw [ef3]; rfl) dX6_add_11 (fun H locs hw => ?_)
  have h := h f3 ef3
  refine lv_dup (pc := 12) hx hb dX6_add_12 rfl ?_
  refine lv_iconst (pc := 13) (v := (2 : Int32)) hx hb dX6_add_13 (by decide) ?_
  refine lv_iload_n (pc := 14) hx hb dX6_add_14 rfl (lv_at hl 3 rfl) ?_
  obtain ⟨f4, ef4⟩ : ∃ z : Nat → Int32, z = upd f3 (2 : Int32).toNatClampNeg x3 := ⟨_, rfl⟩
  refine asI (pc := 15) cx2 hw 8 2 rfl rfl (i := (2 : Int32)) (vp_in_iff.mpr (by decide)) (ws1 := wM ad cI cZ A V ++ [(q1, .inl (cq1, 9, .inl f4))]) (by rw [ef4]; rfl) dX6_add_15 (fun H locs hw => ?_)
  have h := h f4 ef4
  refine lv_dup (pc := 16) hx hb dX6_add_16 rfl ?_
  refine lv_iconst (pc := 17) (v := (3 : Int32)) hx hb dX6_add_17 (by decide) ?_
  refine lv_iload (pc := 18) hx hb dX6_add_18 (lv_at hl 4 rfl) ?_
  obtain ⟨f5, ef5⟩ : ∃ z : Nat → Int32, z = upd f4 (3 : Int32).toNatClampNeg x4 := ⟨_, rfl⟩
  refine asI (pc := 20) cx2 hw 8 2 rfl rfl (i := (3 : Int32)) (vp_in_iff.mpr (by decide)) (ws1 := wM ad cI cZ A V ++ [(q1, .inl (cq1, 9, .inl f5))]) (by rw [ef5]; rfl) dX6_add_20 (fun H locs hw => ?_)
  have h := h f5 ef5
  refine lv_dup (pc := 21) hx hb dX6_add_21 rfl ?_
  refine lv_iconst (pc := 22) (v := (4 : Int32)) hx hb dX6_add_22 (by decide) ?_
  refine lv_iconst (pc := 23) (v := (0 : Int32)) hx hb dX6_add_23 (by decide) ?_
  obtain ⟨f6, ef6⟩ : ∃ z : Nat → Int32, z = upd f5 (4 : Int32).toNatClampNeg (0 : Int32) := ⟨_, rfl⟩
  refine asI (pc := 24) cx2 hw 8 2 rfl rfl (i := (4 : Int32)) (vp_in_iff.mpr (by decide)) (ws1 := wM ad cI cZ A V ++ [(q1, .inl (cq1, 9, .inl f6))]) (by rw [ef6]; rfl) dX6_add_24 (fun H locs hw => ?_)
  have h := h f6 ef6
  refine lv_dup (pc := 25) hx hb dX6_add_25 rfl ?_
  refine lv_iconst (pc := 26) (v := (5 : Int32)) hx hb dX6_add_26 (by decide) ?_
  refine lv_iconst (pc := 27) (v := (-1 : Int32)) hx hb dX6_add_27 (by decide) ?_
  obtain ⟨f7, ef7⟩ : ∃ z : Nat → Int32, z = upd f6 (5 : Int32).toNatClampNeg (-1 : Int32) := ⟨_, rfl⟩
  refine asI (pc := 28) cx2 hw 8 2 rfl rfl (i := (5 : Int32)) (vp_in_iff.mpr (by decide)) (ws1 := wM ad cI cZ A V ++ [(q1, .inl (cq1, 9, .inl f7))]) (by rw [ef7]; rfl) dX6_add_28 (fun H locs hw => ?_)
  have h := h f7 ef7
  refine lv_dup (pc := 29) hx hb dX6_add_29 rfl ?_
  refine lv_bipush (pc := 30) (v := (6 : Int32)) hx hb dX6_add_30 (by decide) ?_
  refine lv_iconst (pc := 32) (v := (0 : Int32)) hx hb dX6_add_32 (by decide) ?_
  obtain ⟨f8, ef8⟩ : ∃ z : Nat → Int32, z = upd f7 (6 : Int32).toNatClampNeg (0 : Int32) := ⟨_, rfl⟩
  refine asI (pc := 33) cx2 hw 8 2 rfl rfl (i := (6 : Int32)) (vp_in_iff.mpr (by decide)) (ws1 := wM ad cI cZ A V ++ [(q1, .inl (cq1, 9, .inl f8))]) (by rw [ef8]; rfl) dX6_add_33 (fun H locs hw => ?_)
  have h := h f8 ef8
  refine lv_dup (pc := 34) hx hb dX6_add_34 rfl ?_
  refine lv_bipush (pc := 35) (v := (7 : Int32)) hx hb dX6_add_35 (by decide) ?_
  refine lv_iload (pc := 37) hx hb dX6_add_37 (lv_at hl 5 rfl) ?_
  obtain ⟨f9, ef9⟩ : ∃ z : Nat → Int32, z = upd f8 (7 : Int32).toNatClampNeg x5 := ⟨_, rfl⟩
  refine asI (pc := 39) cx2 hw 8 2 rfl rfl (i := (7 : Int32)) (vp_in_iff.mpr (by decide)) (ws1 := wM ad cI cZ A V ++ [(q1, .inl (cq1, 9, .inl f9))]) (by rw [ef9]; rfl) dX6_add_39 (fun H locs hw => ?_)
  have h := h f9 ef9
  refine lv_dup (pc := 40) hx hb dX6_add_40 rfl ?_
  refine lv_bipush (pc := 41) (v := (8 : Int32)) hx hb dX6_add_41 (by decide) ?_
  refine lv_iload (pc := 43) hx hb dX6_add_43 (lv_at hl 6 rfl) ?_
  obtain ⟨f10, ef10⟩ : ∃ z : Nat → Int32, z = upd f9 (8 : Int32).toNatClampNeg x6 := ⟨_, rfl⟩
  refine asI (pc := 45) cx2 hw 8 2 rfl rfl (i := (8 : Int32)) (vp_in_iff.mpr (by decide)) (ws1 := wM ad cI cZ A V ++ [(q1, .inl (cq1, 9, .inl f10))]) (by rw [ef10]; rfl) dX6_add_45 (fun H locs hw => ?_)
  have h := h f10 ef10
  refine lv_astore (pc := 46) (lv' := [(7, .ref q1), (0, .ref (ad 0)), (1, .int x1), (2, .int x2), (3, .int x3), (4, .int x4), (5, .int x5), (6, .int x6)]) hx hb dX6_add_46 hl (by decide) rfl (fun ls hl => ?_)
  refine lv_aload (pc := 48) hx hb dX6_add_48 (lv_at hl 0 rfl) ?_
  refine lv_iconst (pc := 50) (v := (0 : Int32)) hx hb dX6_add_50 (by decide) ?_
  refine lv_aload_n (pc := 51) hx hb dX6_add_51 rfl (lv_at hl 1 rfl) ?_
  refine geF (pc := 52) (C := RX6) (T := TX6) (N := 15) (ci := 6) cx inX6_add_X6 rfl 9 (by decide) kX6_add_23 hw 0 rfl rfl dX6_add_52 ?_
  refine lv_bipush (pc := 55) (v := (9 : Int32)) hx hb dX6_add_55 (by decide) ?_
  refine lv_aload_n (pc := 57) hx hb dX6_add_57 rfl (lv_at hl 1 rfl) ?_
  refine geF (pc := 58) (C := RX6) (T := TX6) (N := 15) (ci := 6) cx inX6_add_X6 rfl 8 (by decide) kX6_add_70 hw 0 rfl rfl dX6_add_58 ?_
  refine lv_imul (pc := 61) hx hb dX6_add_61 ?_
  refine lv_bipush (pc := 62) (v := (9 : Int32)) hx hb dX6_add_62 (by decide) ?_
  obtain ⟨A_11, eA_11⟩ : ∃ z, z = ua A 3 (va_cpy f10 (A 3) (0 : Int32).toNatClampNeg ((9 : Int32) * (V 5)).toNatClampNeg (9 : Int32).toNatClampNeg) := ⟨_, rfl⟩
  refine cpI (pc := 64) cx2 hl (hts _ kX6_add_73) (hts _ kX6_add_w_native_arraycopyName) (hts _ kX6_add_w_static_arraycopyName) (hts _ kX6_add_w_initialized__java_lang_System_) hw 8 4 2 0 rfl rfl rfl rfl h.1 h.2.1 h.2.2.1 h.2.2.2.1 h.2.2.2.2.1 (Nat.le_of_ble_eq_true rfl) (Nat.le_of_ble_eq_true rfl) (ws1 := wM ad cI cZ A_11 V ++ [(q1, .inl (cq1, 9, .inl f10))]) (by rw [eA_11]; rfl) dX6_add_64 (fun H locs hw => ?_)
  have h := h.2.2.2.2.2 A_11 eA_11
  have hw := WS.dropR hw
  refine lv_aload_n (pc := 67) hx hb dX6_add_67 rfl (lv_at hl 1 rfl) ?_
  refine lv_dup (pc := 68) hx hb dX6_add_68 rfl ?_
  refine geM_X6_8 (pc := 69) cx inX6_add_X6 kX6_add_70 hw dX6_add_69 ?_
  refine lv_iconst (pc := 72) (v := (1 : Int32)) hx hb dX6_add_72 (by decide) ?_
  refine lv_iadd (pc := 73) hx hb dX6_add_73 ?_
  refine puM_X6_8 (pc := 74) cx inX6_add_X6 kX6_add_70 hw dX6_add_74 (fun V_12 eV_12 H locs hw => ?_)
  have h := h V_12 eV_12
  refine W.widen (k := 1) (n := 9) (Nat.le_of_ble_eq_true rfl) (Nat.le_of_ble_eq_true rfl) ?_
  exact hret 77 _ (A_11, V_12) _ _ dX6_add_77 h hw
def wpX6_add (A : SA) (V : SV) (x1 : Int32) (x2 : Int32) (x3 : Int32) (x4 : Int32) (x5 : Int32) (x6 : Int32) (Q : SA → SV → Prop) : Prop := wb_X6_add_0 Q A V x1 x2 x3 x4 x5 x6
set_option maxHeartbeats 4000000 in
set_option maxRecDepth 100000 in
theorem metX6_add (l : Launch) (D : va_G) (cI cZ : ClassId) (ad : Nat → Nat) (sz : Nat) (A : SA) (V : SV) (x1 : Int32) (x2 : Int32) (x3 : Int32) (x4 : Int32) (x5 : Int32) (x6 : Int32) (Q : SA → SV → Prop) (h : wpX6_add A V x1 x2 x3 x4 x5 x6 Q) : Met l yX6_add wsX6_add rmX6_add (PcW D [(cI, .int), (cZ, .boolean)] (wM ad cI cZ A V) sz [.ref (ad 0), .int x1, .int x2, .int x3, .int x4, .int x5, .int x6]) (QvW D [(cI, .int), (cZ, .boolean)] (wM ad cI cZ A V) sz (fun u : SA × SV => (wM ad cI cZ u.1 u.2)) (fun u => Q u.1 u.2)) rmX6_add.cells rmX6_add.slots (va_A (wM ad cI cZ A V) sz) := by
  refine startV (plainFor_of_name (by decide)) rfl (Nat.le_of_ble_eq_true rfl) ?_
  intro p e s m args below meth c A0 Z cx hw hret ls hl
  exact wk_X6_add_0 Q cx hret A V x1 x2 x3 x4 x5 x6 h _ _ _ hw hl
abbrev rmX6_bring : Room := { frames := 2, cells := 1, slots := 9, locals := 107 }
theorem inX6_bring_X6 : ∀ w ∈ wsX60, w ∈ wsX6_bring := by decide +kernel
theorem kX6_bring_42 : Cond.fieldLink RX6 42 "DrownedPostModel" "thrown" "I" ∈ wsX6_bring := by decide +kernel
theorem kX6_bring_70 : Cond.fieldLink RX6 70 "DrownedPostModel" "letters" "I" ∈ wsX6_bring := by decide +kernel
def wb_X6_bring_0 (Q : Int32 → SA → SV → Prop) (A : SA) (V : SV) (x1 : Int32) (x2 : Int32) (x3 : Int32) : Prop := (∀ V_1 : SV, V_1 = uv V 0 (0 : Int32) → (wpX6_isOne A V_1 x1 (fun r2 A_5 V_6 => ((¬ r2 = 0 → (wpX6_isIn x2 (1 : Int32) (9 : Int32) (fun r8 => ((r8 = 0 → (wpX6_fail A_5 V_6 (2 : Int32) (fun r12 A_15 V_16 => Q r12 A_15 V_16))) ∧ (¬ (r8 = 0) → (wpX6_isIn x3 (1 : Int32) (60 : Int32) (fun r17 => ((¬ r17 = 0 → ((¬ (V_6 5) = (150 : Int32) → (wpX6_add A_5 V_6 x1 x2 x3 (0 : Int32) (0 : Int32) (-1 : Int32) (fun A_25 V_26 => Q ((V_26 5) - (1 : Int32)) A_25 V_26))) ∧ ((V_6 5) = (150 : Int32) → (wpX6_fail A_5 V_6 (3 : Int32) (fun r27 A_30 V_31 => Q r27 A_30 V_31))))) ∧ (r17 = 0 → (wpX6_fail A_5 V_6 (2 : Int32) (fun r32 A_35 V_36 => Q r32 A_35 V_36))))))))))) ∧ (r2 = 0 → (wpX6_fail A_5 V_6 (1 : Int32) (fun r37 A_40 V_41 => Q r37 A_40 V_41)))))))
set_option maxHeartbeats 4000000 in
set_option maxRecDepth 100000 in
theorem wk_X6_bring_0 (Q : Int32 → SA → SV → Prop) (cx : CX RX6 cX6_bring 4 wsX6_bring D [(cI, .int), (cZ, .boolean)] p s m args c A0) (hret : ∀ (pc : Nat) (ls : Array Slot) (r : Int32) (u : SA × SV) (H : Heap) (locs : List Loc), narrow .int (.int r) = .int r → decode cX6_bring pc = .ok (.ireturn, 1) → Q r u.1 u.2 → WS D s A0 (wM ad cI cZ u.1 u.2) H locs → W p l e rmX6_bring s m args below meth c H locs rmX6_bring.cells rmX6_bring.slots Z (F0 m pc ls [.int r]))  : ∀ (A : SA) (V : SV) (x1 : Int32) (x2 : Int32) (x3 : Int32) (h : wb_X6_bring_0 Q A V x1 x2 x3) (H : Heap) (locs : List Loc) (ls : Array Slot) (hw : WS D s A0 (wM ad cI cZ A V) H locs) (hl : lv_has ls 4 [(0, .ref (ad 0)), (1, .int x1), (2, .int x2), (3, .int x3)]), W p l e rmX6_bring s m args below meth c H locs 0 0 Z (F0 m 0 ls []) := by
  obtain ⟨hx, hb, hml, hown, hts, hK, hA⟩ := id cx
  intro A V x1 x2 x3 h H locs ls hw hl
  refine lv_aload_n (pc := 0) hx hb dX6_bring_0 rfl (lv_at hl 0 rfl) ?_
  refine lv_iconst (pc := 1) (v := (0 : Int32)) hx hb dX6_bring_1 (by decide) ?_
  refine puM_X6_0 (pc := 2) cx inX6_bring_X6 kX6_bring_42 hw dX6_bring_2 (fun V_1 eV_1 H locs hw => ?_)
  have h := h V_1 eV_1
  refine lv_aload_n (pc := 5) hx hb dX6_bring_5 rfl (lv_at hl 0 rfl) ?_
  refine lv_iload_n (pc := 6) hx hb dX6_bring_6 rfl (lv_at hl 1 rfl) ?_
  refine callVi (pc := 7) (rest := []) (c1 := 0) (s1 := 0) cx hw hl (metX6_isOne l D cI cZ ad H.size A V_1 x1 _ h) (fun hts => cwV 1 hts gX6_bring_X6_isOne rfl rfl rfl (by decide +kernel) ⟨Nat.le_of_ble_eq_true rfl, Nat.le_of_ble_eq_true rfl⟩) SUB.rf [0, 1] rfl 0 (ci := 6) rfl rfl rfl (JN.rf) rfl rfl (Nat.le_of_ble_eq_true rfl) ⟨Nat.le_of_ble_eq_true rfl, Nat.le_of_ble_eq_true rfl⟩ rfl rfl dX6_bring_7 (fun r2 u H locs h hw => ?_)
  obtain ⟨A_5, V_6⟩ := u
  refine lv_if_ne (pc := 10) (tgt := 19) hx hb dX6_bring_10 (by decide) (fun c7 => ?_) (fun c7 => ?_)
  · have h := h.1 c7
    refine lv_iload_n (pc := 19) hx hb dX6_bring_19 rfl (lv_at hl 2 rfl) ?_
    refine lv_iconst (pc := 20) (v := (1 : Int32)) hx hb dX6_bring_20 (by decide) ?_
    refine lv_bipush (pc := 21) (v := (9 : Int32)) hx hb dX6_bring_21 (by decide) ?_
    refine callSi (pc := 23) (rest := []) (c1 := 0) (s1 := 0) cx hw hl (metX6_isIn l D [] H.size x2 (1 : Int32) (9 : Int32) _ h) (fun hts => va_cwS 3 hts gX6_bring_X6_isIn rfl rfl rfl (by decide +kernel) ⟨Nat.le_of_ble_eq_true rfl, Nat.le_of_ble_eq_true rfl⟩) SUB.nil [] rfl (JN.nil (S := Unit)) rfl rfl (Nat.le_of_ble_eq_true rfl) ⟨Nat.le_of_ble_eq_true rfl, Nat.le_of_ble_eq_true rfl⟩ rfl rfl dX6_bring_23 (fun r8 u H locs h hw => ?_)
    refine lv_if_eq (pc := 26) (tgt := 39) hx hb dX6_bring_26 (by decide) (fun c11 => ?_) (fun c11 => ?_)
    · have h := h.1 c11
      refine lv_aload_n (pc := 39) hx hb dX6_bring_39 rfl (lv_at hl 0 rfl) ?_
      refine lv_iconst (pc := 40) (v := (2 : Int32)) hx hb dX6_bring_40 (by decide) ?_
      refine callVi (pc := 41) (rest := []) (c1 := 0) (s1 := 0) cx hw hl (metX6_fail l D cI cZ ad H.size A_5 V_6 (2 : Int32) _ h) (fun hts => cwV 1 hts gX6_bring_X6_fail rfl rfl rfl (by decide +kernel) ⟨Nat.le_of_ble_eq_true rfl, Nat.le_of_ble_eq_true rfl⟩) SUB.rf [0, 1] rfl 0 (ci := 6) rfl rfl rfl (JN.rf) rfl rfl (Nat.le_of_ble_eq_true rfl) ⟨Nat.le_of_ble_eq_true rfl, Nat.le_of_ble_eq_true rfl⟩ rfl rfl dX6_bring_41 (fun r12 u H locs h hw => ?_)
      obtain ⟨A_15, V_16⟩ := u
      refine W.widen (k := 1) (n := 9) (Nat.le_of_ble_eq_true rfl) (Nat.le_of_ble_eq_true rfl) ?_
      exact hret 44 _ _ (A_15, V_16) _ _ rfl dX6_bring_44 h hw
    · have h := h.2 c11
      refine lv_iload_n (pc := 29) hx hb dX6_bring_29 rfl (lv_at hl 3 rfl) ?_
      refine lv_iconst (pc := 30) (v := (1 : Int32)) hx hb dX6_bring_30 (by decide) ?_
      refine lv_bipush (pc := 31) (v := (60 : Int32)) hx hb dX6_bring_31 (by decide) ?_
      refine callSi (pc := 33) (rest := []) (c1 := 0) (s1 := 0) cx hw hl (metX6_isIn l D [] H.size x3 (1 : Int32) (60 : Int32) _ h) (fun hts => va_cwS 3 hts gX6_bring_X6_isIn rfl rfl rfl (by decide +kernel) ⟨Nat.le_of_ble_eq_true rfl, Nat.le_of_ble_eq_true rfl⟩) SUB.nil [] rfl (JN.nil (S := Unit)) rfl rfl (Nat.le_of_ble_eq_true rfl) ⟨Nat.le_of_ble_eq_true rfl, Nat.le_of_ble_eq_true rfl⟩ rfl rfl dX6_bring_33 (fun r17 u H locs h hw => ?_)
      refine lv_if_ne (pc := 36) (tgt := 45) hx hb dX6_bring_36 (by decide) (fun c20 => ?_) (fun c20 => ?_)
      · have h := h.1 c20
        refine lv_aload_n (pc := 45) hx hb dX6_bring_45 rfl (lv_at hl 0 rfl) ?_
        refine geM_X6_8 (pc := 46) cx inX6_bring_X6 kX6_bring_70 hw dX6_bring_46 ?_
        refine lv_sipush (pc := 49) (v := (150 : Int32)) hx hb dX6_bring_49 (by decide) ?_
        refine lv_icmp_ne (pc := 52) (tgt := 61) hx hb dX6_bring_52 (by decide) (fun c21 => ?_) (fun c21 => ?_)
        · have h := h.1 c21
          refine lv_aload_n (pc := 61) hx hb dX6_bring_61 rfl (lv_at hl 0 rfl) ?_
          refine lv_iload_n (pc := 62) hx hb dX6_bring_62 rfl (lv_at hl 1 rfl) ?_
          refine lv_iload_n (pc := 63) hx hb dX6_bring_63 rfl (lv_at hl 2 rfl) ?_
          refine lv_iload_n (pc := 64) hx hb dX6_bring_64 rfl (lv_at hl 3 rfl) ?_
          refine lv_iconst (pc := 65) (v := (0 : Int32)) hx hb dX6_bring_65 (by decide) ?_
          refine lv_iconst (pc := 66) (v := (0 : Int32)) hx hb dX6_bring_66 (by decide) ?_
          refine lv_iconst (pc := 67) (v := (-1 : Int32)) hx hb dX6_bring_67 (by decide) ?_
          refine callVv (pc := 68) (rest := []) (c1 := 1) (s1 := 9) cx hw hl (metX6_add l D cI cZ ad H.size A_5 V_6 x1 x2 x3 (0 : Int32) (0 : Int32) (-1 : Int32) _ h) (fun hts => cwV 6 hts gX6_bring_X6_add rfl rfl rfl (by decide +kernel) ⟨Nat.le_of_ble_eq_true rfl, Nat.le_of_ble_eq_true rfl⟩) SUB.rf [0, 1] rfl 0 (ci := 6) rfl rfl rfl (JN.rf) rfl rfl (Nat.le_of_ble_eq_true rfl) ⟨Nat.le_of_ble_eq_true rfl, Nat.le_of_ble_eq_true rfl⟩ rfl rfl dX6_bring_68 (fun u H locs h hw => ?_)
          obtain ⟨A_25, V_26⟩ := u
          refine lv_aload_n (pc := 71) hx hb dX6_bring_71 rfl (lv_at hl 0 rfl) ?_
          refine geM_X6_8 (pc := 72) cx inX6_bring_X6 kX6_bring_70 hw dX6_bring_72 ?_
          refine lv_iconst (pc := 75) (v := (1 : Int32)) hx hb dX6_bring_75 (by decide) ?_
          refine lv_isub (pc := 76) hx hb dX6_bring_76 ?_
          refine W.widen (k := 1) (n := 9) (Nat.le_of_ble_eq_true rfl) (Nat.le_of_ble_eq_true rfl) ?_
          exact hret 77 _ _ (A_25, V_26) _ _ rfl dX6_bring_77 h hw
        · have h := h.2 c21
          refine lv_aload_n (pc := 55) hx hb dX6_bring_55 rfl (lv_at hl 0 rfl) ?_
          refine lv_iconst (pc := 56) (v := (3 : Int32)) hx hb dX6_bring_56 (by decide) ?_
          refine callVi (pc := 57) (rest := []) (c1 := 0) (s1 := 0) cx hw hl (metX6_fail l D cI cZ ad H.size A_5 V_6 (3 : Int32) _ h) (fun hts => cwV 1 hts gX6_bring_X6_fail rfl rfl rfl (by decide +kernel) ⟨Nat.le_of_ble_eq_true rfl, Nat.le_of_ble_eq_true rfl⟩) SUB.rf [0, 1] rfl 0 (ci := 6) rfl rfl rfl (JN.rf) rfl rfl (Nat.le_of_ble_eq_true rfl) ⟨Nat.le_of_ble_eq_true rfl, Nat.le_of_ble_eq_true rfl⟩ rfl rfl dX6_bring_57 (fun r27 u H locs h hw => ?_)
          obtain ⟨A_30, V_31⟩ := u
          refine W.widen (k := 1) (n := 9) (Nat.le_of_ble_eq_true rfl) (Nat.le_of_ble_eq_true rfl) ?_
          exact hret 60 _ _ (A_30, V_31) _ _ rfl dX6_bring_60 h hw
      · have h := h.2 c20
        refine lv_aload_n (pc := 39) hx hb dX6_bring_39 rfl (lv_at hl 0 rfl) ?_
        refine lv_iconst (pc := 40) (v := (2 : Int32)) hx hb dX6_bring_40 (by decide) ?_
        refine callVi (pc := 41) (rest := []) (c1 := 0) (s1 := 0) cx hw hl (metX6_fail l D cI cZ ad H.size A_5 V_6 (2 : Int32) _ h) (fun hts => cwV 1 hts gX6_bring_X6_fail rfl rfl rfl (by decide +kernel) ⟨Nat.le_of_ble_eq_true rfl, Nat.le_of_ble_eq_true rfl⟩) SUB.rf [0, 1] rfl 0 (ci := 6) rfl rfl rfl (JN.rf) rfl rfl (Nat.le_of_ble_eq_true rfl) ⟨Nat.le_of_ble_eq_true rfl, Nat.le_of_ble_eq_true rfl⟩ rfl rfl dX6_bring_41 (fun r32 u H locs h hw => ?_)
        obtain ⟨A_35, V_36⟩ := u
        refine W.widen (k := 1) (n := 9) (Nat.le_of_ble_eq_true rfl) (Nat.le_of_ble_eq_true rfl) ?_
        exact hret 44 _ _ (A_35, V_36) _ _ rfl dX6_bring_44 h hw
  · have h := h.2 c7
    refine lv_aload_n (pc := 13) hx hb dX6_bring_13 rfl (lv_at hl 0 rfl) ?_
    refine lv_iconst (pc := 14) (v := (1 : Int32)) hx hb dX6_bring_14 (by decide) ?_
    refine callVi (pc := 15) (rest := []) (c1 := 0) (s1 := 0) cx hw hl (metX6_fail l D cI cZ ad H.size A_5 V_6 (1 : Int32) _ h) (fun hts => cwV 1 hts gX6_bring_X6_fail rfl rfl rfl (by decide +kernel) ⟨Nat.le_of_ble_eq_true rfl, Nat.le_of_ble_eq_true rfl⟩) SUB.rf [0, 1] rfl 0 (ci := 6) rfl rfl rfl (JN.rf) rfl rfl (Nat.le_of_ble_eq_true rfl) ⟨Nat.le_of_ble_eq_true rfl, Nat.le_of_ble_eq_true rfl⟩ rfl rfl dX6_bring_15 (fun r37 u H locs h hw => ?_)
    obtain ⟨A_40, V_41⟩ := u
    refine W.widen (k := 1) (n := 9) (Nat.le_of_ble_eq_true rfl) (Nat.le_of_ble_eq_true rfl) ?_
    exact hret 18 _ _ (A_40, V_41) _ _ rfl dX6_bring_18 h hw
def wpX6_bring (A : SA) (V : SV) (x1 : Int32) (x2 : Int32) (x3 : Int32) (Q : Int32 → SA → SV → Prop) : Prop := wb_X6_bring_0 Q A V x1 x2 x3
set_option maxHeartbeats 4000000 in
set_option maxRecDepth 100000 in
theorem metX6_bring (l : Launch) (D : va_G) (cI cZ : ClassId) (ad : Nat → Nat) (sz : Nat) (A : SA) (V : SV) (x1 : Int32) (x2 : Int32) (x3 : Int32) (Q : Int32 → SA → SV → Prop) (h : wpX6_bring A V x1 x2 x3 Q) : Met l yX6_bring wsX6_bring rmX6_bring (PcW D [(cI, .int), (cZ, .boolean)] (wM ad cI cZ A V) sz [.ref (ad 0), .int x1, .int x2, .int x3]) (QiW D [(cI, .int), (cZ, .boolean)] (wM ad cI cZ A V) sz (fun u : SA × SV => (wM ad cI cZ u.1 u.2)) (fun r u => Q r u.1 u.2)) rmX6_bring.cells rmX6_bring.slots (va_A (wM ad cI cZ A V) sz) := by
  refine startI (plainFor_of_name (by decide)) rfl (Nat.le_of_ble_eq_true rfl) ?_
  intro p e s m args below meth c A0 Z cx hw hret ls hl
  exact wk_X6_bring_0 Q cx hret A V x1 x2 x3 h _ _ _ hw hl
abbrev rmX6_leave : Room := { frames := 1, cells := 0, slots := 0, locals := 23 }
def wb_X6_leave_0 (Q : Int32 → SA → SV → Prop) (A : SA) (V : SV) (x1 : Int32) (x2 : Int32) : Prop := (wpX6_get A V x1 (5 : Int32) (fun r1 A_4 V_5 => (wpX6_set A_4 V_5 x1 (3 : Int32) x2 (fun A_9 V_10 => (wpX6_set A_9 V_10 x1 (5 : Int32) (-1 : Int32) (fun A_14 V_15 => (wpX6_set A_14 V_15 x1 (6 : Int32) (0 : Int32) (fun A_19 V_20 => Q r1 A_19 V_20))))))))
set_option maxHeartbeats 4000000 in
set_option maxRecDepth 100000 in
theorem wk_X6_leave_0 (Q : Int32 → SA → SV → Prop) (cx : CX RX6 cX6_leave 4 wsX6_leave D [(cI, .int), (cZ, .boolean)] p s m args c A0) (hret : ∀ (pc : Nat) (ls : Array Slot) (r : Int32) (u : SA × SV) (H : Heap) (locs : List Loc), narrow .int (.int r) = .int r → decode cX6_leave pc = .ok (.ireturn, 1) → Q r u.1 u.2 → WS D s A0 (wM ad cI cZ u.1 u.2) H locs → W p l e rmX6_leave s m args below meth c H locs rmX6_leave.cells rmX6_leave.slots Z (F0 m pc ls [.int r]))  : ∀ (A : SA) (V : SV) (x1 : Int32) (x2 : Int32) (h : wb_X6_leave_0 Q A V x1 x2) (H : Heap) (locs : List Loc) (ls : Array Slot) (hw : WS D s A0 (wM ad cI cZ A V) H locs) (hl : lv_has ls 4 [(0, .ref (ad 0)), (1, .int x1), (2, .int x2)]), W p l e rmX6_leave s m args below meth c H locs 0 0 Z (F0 m 0 ls []) := by
  obtain ⟨hx, hb, hml, hown, hts, hK, hA⟩ := id cx
  intro A V x1 x2 h H locs ls hw hl
  refine lv_aload_n (pc := 0) hx hb dX6_leave_0 rfl (lv_at hl 0 rfl) ?_
  refine lv_iload_n (pc := 1) hx hb dX6_leave_1 rfl (lv_at hl 1 rfl) ?_
  refine lv_iconst (pc := 2) (v := (5 : Int32)) hx hb dX6_leave_2 (by decide) ?_
  refine callVi (pc := 3) (rest := []) (c1 := 0) (s1 := 0) cx hw hl (metX6_get l D cI cZ ad H.size A V x1 (5 : Int32) _ h) (fun hts => cwV 2 hts gX6_leave_X6_get rfl rfl rfl (by decide +kernel) ⟨Nat.le_of_ble_eq_true rfl, Nat.le_of_ble_eq_true rfl⟩) SUB.rf [0, 1] rfl 0 (ci := 6) rfl rfl rfl (JN.rf) rfl rfl (Nat.le_of_ble_eq_true rfl) ⟨Nat.le_of_ble_eq_true rfl, Nat.le_of_ble_eq_true rfl⟩ rfl rfl dX6_leave_3 (fun r1 u H locs h hw => ?_)
  obtain ⟨A_4, V_5⟩ := u
  refine lv_istore_n (pc := 6) (lv' := [(3, .int r1), (0, .ref (ad 0)), (1, .int x1), (2, .int x2)]) hx hb dX6_leave_6 rfl hl (by decide) rfl (fun ls hl => ?_)
  refine lv_aload_n (pc := 7) hx hb dX6_leave_7 rfl (lv_at hl 1 rfl) ?_
  refine lv_iload_n (pc := 8) hx hb dX6_leave_8 rfl (lv_at hl 2 rfl) ?_
  refine lv_iconst (pc := 9) (v := (3 : Int32)) hx hb dX6_leave_9 (by decide) ?_
  refine lv_iload_n (pc := 10) hx hb dX6_leave_10 rfl (lv_at hl 3 rfl) ?_
  refine callVv (pc := 11) (rest := []) (c1 := 0) (s1 := 0) cx hw hl (metX6_set l D cI cZ ad H.size A_4 V_5 x1 (3 : Int32) x2 _ h) (fun hts => cwV 3 hts gX6_leave_X6_set rfl rfl rfl (by decide +kernel) ⟨Nat.le_of_ble_eq_true rfl, Nat.le_of_ble_eq_true rfl⟩) SUB.rf [0, 1] rfl 0 (ci := 6) rfl rfl rfl (JN.rf) rfl rfl (Nat.le_of_ble_eq_true rfl) ⟨Nat.le_of_ble_eq_true rfl, Nat.le_of_ble_eq_true rfl⟩ rfl rfl dX6_leave_11 (fun u H locs h hw => ?_)
  obtain ⟨A_9, V_10⟩ := u
  refine lv_aload_n (pc := 14) hx hb dX6_leave_14 rfl (lv_at hl 1 rfl) ?_
  refine lv_iload_n (pc := 15) hx hb dX6_leave_15 rfl (lv_at hl 2 rfl) ?_
  refine lv_iconst (pc := 16) (v := (5 : Int32)) hx hb dX6_leave_16 (by decide) ?_
  refine lv_iconst (pc := 17) (v := (-1 : Int32)) hx hb dX6_leave_17 (by decide) ?_
  refine callVv (pc := 18) (rest := []) (c1 := 0) (s1 := 0) cx hw hl (metX6_set l D cI cZ ad H.size A_9 V_10 x1 (5 : Int32) (-1 : Int32) _ h) (fun hts => cwV 3 hts gX6_leave_X6_set rfl rfl rfl (by decide +kernel) ⟨Nat.le_of_ble_eq_true rfl, Nat.le_of_ble_eq_true rfl⟩) SUB.rf [0, 1] rfl 0 (ci := 6) rfl rfl rfl (JN.rf) rfl rfl (Nat.le_of_ble_eq_true rfl) ⟨Nat.le_of_ble_eq_true rfl, Nat.le_of_ble_eq_true rfl⟩ rfl rfl dX6_leave_18 (fun u H locs h hw => ?_)
  obtain ⟨A_14, V_15⟩ := u
  refine lv_aload_n (pc := 21) hx hb dX6_leave_21 rfl (lv_at hl 1 rfl) ?_
  refine lv_iload_n (pc := 22) hx hb dX6_leave_22 rfl (lv_at hl 2 rfl) ?_
  refine lv_bipush (pc := 23) (v := (6 : Int32)) hx hb dX6_leave_23 (by decide) ?_
  refine lv_iconst (pc := 25) (v := (0 : Int32)) hx hb dX6_leave_25 (by decide) ?_
  refine callVv (pc := 26) (rest := []) (c1 := 0) (s1 := 0) cx hw hl (metX6_set l D cI cZ ad H.size A_14 V_15 x1 (6 : Int32) (0 : Int32) _ h) (fun hts => cwV 3 hts gX6_leave_X6_set rfl rfl rfl (by decide +kernel) ⟨Nat.le_of_ble_eq_true rfl, Nat.le_of_ble_eq_true rfl⟩) SUB.rf [0, 1] rfl 0 (ci := 6) rfl rfl rfl (JN.rf) rfl rfl (Nat.le_of_ble_eq_true rfl) ⟨Nat.le_of_ble_eq_true rfl, Nat.le_of_ble_eq_true rfl⟩ rfl rfl dX6_leave_26 (fun u H locs h hw => ?_)
  obtain ⟨A_19, V_20⟩ := u
  refine lv_iload_n (pc := 29) hx hb dX6_leave_29 rfl (lv_at hl 0 rfl) ?_
  exact hret 30 _ _ (A_19, V_20) _ _ rfl dX6_leave_30 h hw
def wpX6_leave (A : SA) (V : SV) (x1 : Int32) (x2 : Int32) (Q : Int32 → SA → SV → Prop) : Prop := wb_X6_leave_0 Q A V x1 x2
set_option maxHeartbeats 4000000 in
set_option maxRecDepth 100000 in
theorem metX6_leave (l : Launch) (D : va_G) (cI cZ : ClassId) (ad : Nat → Nat) (sz : Nat) (A : SA) (V : SV) (x1 : Int32) (x2 : Int32) (Q : Int32 → SA → SV → Prop) (h : wpX6_leave A V x1 x2 Q) : Met l yX6_leave wsX6_leave rmX6_leave (PcW D [(cI, .int), (cZ, .boolean)] (wM ad cI cZ A V) sz [.ref (ad 0), .int x1, .int x2]) (QiW D [(cI, .int), (cZ, .boolean)] (wM ad cI cZ A V) sz (fun u : SA × SV => (wM ad cI cZ u.1 u.2)) (fun r u => Q r u.1 u.2)) rmX6_leave.cells rmX6_leave.slots (va_A (wM ad cI cZ A V) sz) := by
  refine startI (plainFor_of_name (by decide)) rfl (Nat.le_of_ble_eq_true rfl) ?_
  intro p e s m args below meth c A0 Z cx hw hret ls hl
  exact wk_X6_leave_0 Q cx hret A V x1 x2 h _ _ _ hw hl
abbrev rmX6_takeOut : Room := { frames := 2, cells := 0, slots := 0, locals := 46 }
theorem inX6_takeOut_X6 : ∀ w ∈ wsX60, w ∈ wsX6_takeOut := by decide +kernel
theorem kX6_takeOut_42 : Cond.fieldLink RX6 42 "DrownedPostModel" "thrown" "I" ∈ wsX6_takeOut := by decide +kernel
theorem kX6_takeOut_96 : Cond.fieldLink RX6 96 "DrownedPostModel" "hour" "I" ∈ wsX6_takeOut := by decide +kernel
def wb_X6_takeOut_0 (Q : Int32 → SA → SV → Prop) (A : SA) (V : SV) (x1 : Int32) : Prop := (∀ V_1 : SV, V_1 = uv V 0 (0 : Int32) → (wpX6_isLetter A V_1 x1 (fun r2 A_5 V_6 => ((¬ r2 = 0 → (wpX6_isIn_ A_5 V_6 x1 (1 : Int32) (fun r8 A_11 V_12 => ((r8 = 0 → (wpX6_fail A_11 V_12 (2 : Int32) (fun r14 A_17 V_18 => Q r14 A_17 V_18))) ∧ (¬ (r8 = 0) → (wpX6_get A_11 V_12 x1 (5 : Int32) (fun r19 A_22 V_23 => (wpX6_tideOf A_22 V_23 (V_23 1) (fun r24 A_27 V_28 => (wpX6_isUnder A_27 V_28 r19 r24 (fun r29 A_32 V_33 => ((r29 = 0 → (wpX6_leave A_32 V_33 x1 (0 : Int32) (fun r35 A_38 V_39 => Q r35 A_38 V_39))) ∧ (¬ (r29 = 0) → (wpX6_fail A_32 V_33 (2 : Int32) (fun r40 A_43 V_44 => Q r40 A_43 V_44))))))))))))))) ∧ (r2 = 0 → (wpX6_fail A_5 V_6 (1 : Int32) (fun r45 A_48 V_49 => Q r45 A_48 V_49)))))))
set_option maxHeartbeats 4000000 in
set_option maxRecDepth 100000 in
theorem wk_X6_takeOut_0 (Q : Int32 → SA → SV → Prop) (cx : CX RX6 cX6_takeOut 2 wsX6_takeOut D [(cI, .int), (cZ, .boolean)] p s m args c A0) (hret : ∀ (pc : Nat) (ls : Array Slot) (r : Int32) (u : SA × SV) (H : Heap) (locs : List Loc), narrow .int (.int r) = .int r → decode cX6_takeOut pc = .ok (.ireturn, 1) → Q r u.1 u.2 → WS D s A0 (wM ad cI cZ u.1 u.2) H locs → W p l e rmX6_takeOut s m args below meth c H locs rmX6_takeOut.cells rmX6_takeOut.slots Z (F0 m pc ls [.int r]))  : ∀ (A : SA) (V : SV) (x1 : Int32) (h : wb_X6_takeOut_0 Q A V x1) (H : Heap) (locs : List Loc) (ls : Array Slot) (hw : WS D s A0 (wM ad cI cZ A V) H locs) (hl : lv_has ls 2 [(0, .ref (ad 0)), (1, .int x1)]), W p l e rmX6_takeOut s m args below meth c H locs 0 0 Z (F0 m 0 ls []) := by
  obtain ⟨hx, hb, hml, hown, hts, hK, hA⟩ := id cx
  intro A V x1 h H locs ls hw hl
  refine lv_aload_n (pc := 0) hx hb dX6_takeOut_0 rfl (lv_at hl 0 rfl) ?_
  refine lv_iconst (pc := 1) (v := (0 : Int32)) hx hb dX6_takeOut_1 (by decide) ?_
  refine puM_X6_0 (pc := 2) cx inX6_takeOut_X6 kX6_takeOut_42 hw dX6_takeOut_2 (fun V_1 eV_1 H locs hw => ?_)
  have h := h V_1 eV_1
  refine lv_aload_n (pc := 5) hx hb dX6_takeOut_5 rfl (lv_at hl 0 rfl) ?_
  refine lv_iload_n (pc := 6) hx hb dX6_takeOut_6 rfl (lv_at hl 1 rfl) ?_
  refine callVi (pc := 7) (rest := []) (c1 := 0) (s1 := 0) cx hw hl (metX6_isLetter l D cI cZ ad H.size A V_1 x1 _ h) (fun hts => cwV 1 hts gX6_takeOut_X6_isLetter rfl rfl rfl (by decide +kernel) ⟨Nat.le_of_ble_eq_true rfl, Nat.le_of_ble_eq_true rfl⟩) SUB.rf [0, 1] rfl 0 (ci := 6) rfl rfl rfl (JN.rf) rfl rfl (Nat.le_of_ble_eq_true rfl) ⟨Nat.le_of_ble_eq_true rfl, Nat.le_of_ble_eq_true rfl⟩ rfl rfl dX6_takeOut_7 (fun r2 u H locs h hw => ?_)
  obtain ⟨A_5, V_6⟩ := u
  refine lv_if_ne (pc := 10) (tgt := 19) hx hb dX6_takeOut_10 (by decide) (fun c7 => ?_) (fun c7 => ?_)
  · have h := h.1 c7
    refine lv_aload_n (pc := 19) hx hb dX6_takeOut_19 rfl (lv_at hl 0 rfl) ?_
    refine lv_iload_n (pc := 20) hx hb dX6_takeOut_20 rfl (lv_at hl 1 rfl) ?_
    refine lv_iconst (pc := 21) (v := (1 : Int32)) hx hb dX6_takeOut_21 (by decide) ?_
    refine callVi (pc := 22) (rest := []) (c1 := 0) (s1 := 0) cx hw hl (metX6_isIn_ l D cI cZ ad H.size A_5 V_6 x1 (1 : Int32) _ h) (fun hts => cwV 2 hts gX6_takeOut_X6_isIn_ rfl rfl rfl (by decide +kernel) ⟨Nat.le_of_ble_eq_true rfl, Nat.le_of_ble_eq_true rfl⟩) SUB.rf [0, 1] rfl 0 (ci := 6) rfl rfl rfl (JN.rf) rfl rfl (Nat.le_of_ble_eq_true rfl) ⟨Nat.le_of_ble_eq_true rfl, Nat.le_of_ble_eq_true rfl⟩ rfl rfl dX6_takeOut_22 (fun r8 u H locs h hw => ?_)
    obtain ⟨A_11, V_12⟩ := u
    refine lv_if_eq (pc := 25) (tgt := 49) hx hb dX6_takeOut_25 (by decide) (fun c13 => ?_) (fun c13 => ?_)
    · have h := h.1 c13
      refine lv_aload_n (pc := 49) hx hb dX6_takeOut_49 rfl (lv_at hl 0 rfl) ?_
      refine lv_iconst (pc := 50) (v := (2 : Int32)) hx hb dX6_takeOut_50 (by decide) ?_
      refine callVi (pc := 51) (rest := []) (c1 := 0) (s1 := 0) cx hw hl (metX6_fail l D cI cZ ad H.size A_11 V_12 (2 : Int32) _ h) (fun hts => cwV 1 hts gX6_takeOut_X6_fail rfl rfl rfl (by decide +kernel) ⟨Nat.le_of_ble_eq_true rfl, Nat.le_of_ble_eq_true rfl⟩) SUB.rf [0, 1] rfl 0 (ci := 6) rfl rfl rfl (JN.rf) rfl rfl (Nat.le_of_ble_eq_true rfl) ⟨Nat.le_of_ble_eq_true rfl, Nat.le_of_ble_eq_true rfl⟩ rfl rfl dX6_takeOut_51 (fun r14 u H locs h hw => ?_)
      obtain ⟨A_17, V_18⟩ := u
      exact hret 54 _ _ (A_17, V_18) _ _ rfl dX6_takeOut_54 h hw
    · have h := h.2 c13
      refine lv_aload_n (pc := 28) hx hb dX6_takeOut_28 rfl (lv_at hl 0 rfl) ?_
      refine lv_aload_n (pc := 29) hx hb dX6_takeOut_29 rfl (lv_at hl 0 rfl) ?_
      refine lv_iload_n (pc := 30) hx hb dX6_takeOut_30 rfl (lv_at hl 1 rfl) ?_
      refine lv_iconst (pc := 31) (v := (5 : Int32)) hx hb dX6_takeOut_31 (by decide) ?_
      refine callVi (pc := 32) (rest := [.ref (ad 0)]) (c1 := 0) (s1 := 0) cx hw hl (metX6_get l D cI cZ ad H.size A_11 V_12 x1 (5 : Int32) _ h) (fun hts => cwV 2 hts gX6_takeOut_X6_get rfl rfl rfl (by decide +kernel) ⟨Nat.le_of_ble_eq_true rfl, Nat.le_of_ble_eq_true rfl⟩) SUB.rf [0, 1] rfl 0 (ci := 6) rfl rfl rfl (JN.rf) rfl rfl (Nat.le_of_ble_eq_true rfl) ⟨Nat.le_of_ble_eq_true rfl, Nat.le_of_ble_eq_true rfl⟩ rfl rfl dX6_takeOut_32 (fun r19 u H locs h hw => ?_)
      obtain ⟨A_22, V_23⟩ := u
      refine lv_aload_n (pc := 35) hx hb dX6_takeOut_35 rfl (lv_at hl 0 rfl) ?_
      refine lv_aload_n (pc := 36) hx hb dX6_takeOut_36 rfl (lv_at hl 0 rfl) ?_
      refine geM_X6_1 (pc := 37) cx inX6_takeOut_X6 kX6_takeOut_96 hw dX6_takeOut_37 ?_
      refine callVi (pc := 40) (rest := [.int r19, .ref (ad 0)]) (c1 := 0) (s1 := 0) cx hw hl (metX6_tideOf l D cI cZ ad H.size A_22 V_23 (V_23 1) _ h) (fun hts => cwV 1 hts gX6_takeOut_X6_tideOf rfl rfl rfl (by decide +kernel) ⟨Nat.le_of_ble_eq_true rfl, Nat.le_of_ble_eq_true rfl⟩) SUB.rf [0, 1] rfl 0 (ci := 6) rfl rfl rfl (JN.rf) rfl rfl (Nat.le_of_ble_eq_true rfl) ⟨Nat.le_of_ble_eq_true rfl, Nat.le_of_ble_eq_true rfl⟩ rfl rfl dX6_takeOut_40 (fun r24 u H locs h hw => ?_)
      obtain ⟨A_27, V_28⟩ := u
      refine callVi (pc := 43) (rest := []) (c1 := 0) (s1 := 0) cx hw hl (metX6_isUnder l D cI cZ ad H.size A_27 V_28 r19 r24 _ h) (fun hts => cwV 2 hts gX6_takeOut_X6_isUnder rfl rfl rfl (by decide +kernel) ⟨Nat.le_of_ble_eq_true rfl, Nat.le_of_ble_eq_true rfl⟩) SUB.rf [0, 1] rfl 0 (ci := 6) rfl rfl rfl (JN.rf) rfl rfl (Nat.le_of_ble_eq_true rfl) ⟨Nat.le_of_ble_eq_true rfl, Nat.le_of_ble_eq_true rfl⟩ rfl rfl dX6_takeOut_43 (fun r29 u H locs h hw => ?_)
      obtain ⟨A_32, V_33⟩ := u
      refine lv_if_eq (pc := 46) (tgt := 55) hx hb dX6_takeOut_46 (by decide) (fun c34 => ?_) (fun c34 => ?_)
      · have h := h.1 c34
        refine lv_aload_n (pc := 55) hx hb dX6_takeOut_55 rfl (lv_at hl 0 rfl) ?_
        refine lv_iload_n (pc := 56) hx hb dX6_takeOut_56 rfl (lv_at hl 1 rfl) ?_
        refine lv_iconst (pc := 57) (v := (0 : Int32)) hx hb dX6_takeOut_57 (by decide) ?_
        refine callVi (pc := 58) (rest := []) (c1 := 0) (s1 := 0) cx hw hl (metX6_leave l D cI cZ ad H.size A_32 V_33 x1 (0 : Int32) _ h) (fun hts => cwV 2 hts gX6_takeOut_X6_leave rfl rfl rfl (by decide +kernel) ⟨Nat.le_of_ble_eq_true rfl, Nat.le_of_ble_eq_true rfl⟩) SUB.rf [0, 1] rfl 0 (ci := 6) rfl rfl rfl (JN.rf) rfl rfl (Nat.le_of_ble_eq_true rfl) ⟨Nat.le_of_ble_eq_true rfl, Nat.le_of_ble_eq_true rfl⟩ rfl rfl dX6_takeOut_58 (fun r35 u H locs h hw => ?_)
        obtain ⟨A_38, V_39⟩ := u
        exact hret 61 _ _ (A_38, V_39) _ _ rfl dX6_takeOut_61 h hw
      · have h := h.2 c34
        refine lv_aload_n (pc := 49) hx hb dX6_takeOut_49 rfl (lv_at hl 0 rfl) ?_
        refine lv_iconst (pc := 50) (v := (2 : Int32)) hx hb dX6_takeOut_50 (by decide) ?_
        refine callVi (pc := 51) (rest := []) (c1 := 0) (s1 := 0) cx hw hl (metX6_fail l D cI cZ ad H.size A_32 V_33 (2 : Int32) _ h) (fun hts => cwV 1 hts gX6_takeOut_X6_fail rfl rfl rfl (by decide +kernel) ⟨Nat.le_of_ble_eq_true rfl, Nat.le_of_ble_eq_true rfl⟩) SUB.rf [0, 1] rfl 0 (ci := 6) rfl rfl rfl (JN.rf) rfl rfl (Nat.le_of_ble_eq_true rfl) ⟨Nat.le_of_ble_eq_true rfl, Nat.le_of_ble_eq_true rfl⟩ rfl rfl dX6_takeOut_51 (fun r40 u H locs h hw => ?_)
        obtain ⟨A_43, V_44⟩ := u
        exact hret 54 _ _ (A_43, V_44) _ _ rfl dX6_takeOut_54 h hw
  · have h := h.2 c7
    refine lv_aload_n (pc := 13) hx hb dX6_takeOut_13 rfl (lv_at hl 0 rfl) ?_
    refine lv_iconst (pc := 14) (v := (1 : Int32)) hx hb dX6_takeOut_14 (by decide) ?_
    refine callVi (pc := 15) (rest := []) (c1 := 0) (s1 := 0) cx hw hl (metX6_fail l D cI cZ ad H.size A_5 V_6 (1 : Int32) _ h) (fun hts => cwV 1 hts gX6_takeOut_X6_fail rfl rfl rfl (by decide +kernel) ⟨Nat.le_of_ble_eq_true rfl, Nat.le_of_ble_eq_true rfl⟩) SUB.rf [0, 1] rfl 0 (ci := 6) rfl rfl rfl (JN.rf) rfl rfl (Nat.le_of_ble_eq_true rfl) ⟨Nat.le_of_ble_eq_true rfl, Nat.le_of_ble_eq_true rfl⟩ rfl rfl dX6_takeOut_15 (fun r45 u H locs h hw => ?_)
    obtain ⟨A_48, V_49⟩ := u
    exact hret 18 _ _ (A_48, V_49) _ _ rfl dX6_takeOut_18 h hw
def wpX6_takeOut (A : SA) (V : SV) (x1 : Int32) (Q : Int32 → SA → SV → Prop) : Prop := wb_X6_takeOut_0 Q A V x1
set_option maxHeartbeats 4000000 in
set_option maxRecDepth 100000 in
theorem metX6_takeOut (l : Launch) (D : va_G) (cI cZ : ClassId) (ad : Nat → Nat) (sz : Nat) (A : SA) (V : SV) (x1 : Int32) (Q : Int32 → SA → SV → Prop) (h : wpX6_takeOut A V x1 Q) : Met l yX6_takeOut wsX6_takeOut rmX6_takeOut (PcW D [(cI, .int), (cZ, .boolean)] (wM ad cI cZ A V) sz [.ref (ad 0), .int x1]) (QiW D [(cI, .int), (cZ, .boolean)] (wM ad cI cZ A V) sz (fun u : SA × SV => (wM ad cI cZ u.1 u.2)) (fun r u => Q r u.1 u.2)) rmX6_takeOut.cells rmX6_takeOut.slots (va_A (wM ad cI cZ A V) sz) := by
  refine startI (plainFor_of_name (by decide)) rfl (Nat.le_of_ble_eq_true rfl) ?_
  intro p e s m args below meth c A0 Z cx hw hret ls hl
  exact wk_X6_takeOut_0 Q cx hret A V x1 h _ _ _ hw hl
abbrev rmX6_letter : Room := { frames := 2, cells := 0, slots := 0, locals := 43 }
theorem inX6_letter_X6 : ∀ w ∈ wsX60, w ∈ wsX6_letter := by decide +kernel
theorem kX6_letter_42 : Cond.fieldLink RX6 42 "DrownedPostModel" "thrown" "I" ∈ wsX6_letter := by decide +kernel
def wb_X6_letter_0 (Q : Int32 → SA → SV → Prop) (A : SA) (V : SV) (x1 : Int32) (x2 : Int32) : Prop := (∀ V_1 : SV, V_1 = uv V 0 (0 : Int32) → (wpX6_isLetter A V_1 x1 (fun r2 A_5 V_6 => ((r2 = 0 → (wpX6_fail A_5 V_6 (1 : Int32) (fun r8 A_11 V_12 => Q r8 A_11 V_12))) ∧ (¬ (r2 = 0) → (wpX6_isIn x2 (0 : Int32) (8 : Int32) (fun r13 => ((r13 = 0 → (wpX6_fail A_5 V_6 (1 : Int32) (fun r17 A_20 V_21 => Q r17 A_20 V_21))) ∧ (¬ (r13 = 0) → (wpX6_get A_5 V_6 x1 x2 (fun r22 A_25 V_26 => Q r22 A_25 V_26)))))))))))
set_option maxHeartbeats 4000000 in
set_option maxRecDepth 100000 in
theorem wk_X6_letter_0 (Q : Int32 → SA → SV → Prop) (cx : CX RX6 cX6_letter 3 wsX6_letter D [(cI, .int), (cZ, .boolean)] p s m args c A0) (hret : ∀ (pc : Nat) (ls : Array Slot) (r : Int32) (u : SA × SV) (H : Heap) (locs : List Loc), narrow .int (.int r) = .int r → decode cX6_letter pc = .ok (.ireturn, 1) → Q r u.1 u.2 → WS D s A0 (wM ad cI cZ u.1 u.2) H locs → W p l e rmX6_letter s m args below meth c H locs rmX6_letter.cells rmX6_letter.slots Z (F0 m pc ls [.int r]))  : ∀ (A : SA) (V : SV) (x1 : Int32) (x2 : Int32) (h : wb_X6_letter_0 Q A V x1 x2) (H : Heap) (locs : List Loc) (ls : Array Slot) (hw : WS D s A0 (wM ad cI cZ A V) H locs) (hl : lv_has ls 3 [(0, .ref (ad 0)), (1, .int x1), (2, .int x2)]), W p l e rmX6_letter s m args below meth c H locs 0 0 Z (F0 m 0 ls []) := by
  obtain ⟨hx, hb, hml, hown, hts, hK, hA⟩ := id cx
  intro A V x1 x2 h H locs ls hw hl
  refine lv_aload_n (pc := 0) hx hb dX6_letter_0 rfl (lv_at hl 0 rfl) ?_
  refine lv_iconst (pc := 1) (v := (0 : Int32)) hx hb dX6_letter_1 (by decide) ?_
  refine puM_X6_0 (pc := 2) cx inX6_letter_X6 kX6_letter_42 hw dX6_letter_2 (fun V_1 eV_1 H locs hw => ?_)
  have h := h V_1 eV_1
  refine lv_aload_n (pc := 5) hx hb dX6_letter_5 rfl (lv_at hl 0 rfl) ?_
  refine lv_iload_n (pc := 6) hx hb dX6_letter_6 rfl (lv_at hl 1 rfl) ?_
  refine callVi (pc := 7) (rest := []) (c1 := 0) (s1 := 0) cx hw hl (metX6_isLetter l D cI cZ ad H.size A V_1 x1 _ h) (fun hts => cwV 1 hts gX6_letter_X6_isLetter rfl rfl rfl (by decide +kernel) ⟨Nat.le_of_ble_eq_true rfl, Nat.le_of_ble_eq_true rfl⟩) SUB.rf [0, 1] rfl 0 (ci := 6) rfl rfl rfl (JN.rf) rfl rfl (Nat.le_of_ble_eq_true rfl) ⟨Nat.le_of_ble_eq_true rfl, Nat.le_of_ble_eq_true rfl⟩ rfl rfl dX6_letter_7 (fun r2 u H locs h hw => ?_)
  obtain ⟨A_5, V_6⟩ := u
  refine lv_if_eq (pc := 10) (tgt := 32) hx hb dX6_letter_10 (by decide) (fun c7 => ?_) (fun c7 => ?_)
  · have h := h.1 c7
    refine lv_aload_n (pc := 32) hx hb dX6_letter_32 rfl (lv_at hl 0 rfl) ?_
    refine lv_iconst (pc := 33) (v := (1 : Int32)) hx hb dX6_letter_33 (by decide) ?_
    refine callVi (pc := 34) (rest := []) (c1 := 0) (s1 := 0) cx hw hl (metX6_fail l D cI cZ ad H.size A_5 V_6 (1 : Int32) _ h) (fun hts => cwV 1 hts gX6_letter_X6_fail rfl rfl rfl (by decide +kernel) ⟨Nat.le_of_ble_eq_true rfl, Nat.le_of_ble_eq_true rfl⟩) SUB.rf [0, 1] rfl 0 (ci := 6) rfl rfl rfl (JN.rf) rfl rfl (Nat.le_of_ble_eq_true rfl) ⟨Nat.le_of_ble_eq_true rfl, Nat.le_of_ble_eq_true rfl⟩ rfl rfl dX6_letter_34 (fun r8 u H locs h hw => ?_)
    obtain ⟨A_11, V_12⟩ := u
    exact hret 37 _ _ (A_11, V_12) _ _ rfl dX6_letter_37 h hw
  · have h := h.2 c7
    refine lv_iload_n (pc := 13) hx hb dX6_letter_13 rfl (lv_at hl 2 rfl) ?_
    refine lv_iconst (pc := 14) (v := (0 : Int32)) hx hb dX6_letter_14 (by decide) ?_
    refine lv_bipush (pc := 15) (v := (8 : Int32)) hx hb dX6_letter_15 (by decide) ?_
    refine callSi (pc := 17) (rest := []) (c1 := 0) (s1 := 0) cx hw hl (metX6_isIn l D [] H.size x2 (0 : Int32) (8 : Int32) _ h) (fun hts => va_cwS 3 hts gX6_letter_X6_isIn rfl rfl rfl (by decide +kernel) ⟨Nat.le_of_ble_eq_true rfl, Nat.le_of_ble_eq_true rfl⟩) SUB.nil [] rfl (JN.nil (S := Unit)) rfl rfl (Nat.le_of_ble_eq_true rfl) ⟨Nat.le_of_ble_eq_true rfl, Nat.le_of_ble_eq_true rfl⟩ rfl rfl dX6_letter_17 (fun r13 u H locs h hw => ?_)
    refine lv_if_eq (pc := 20) (tgt := 32) hx hb dX6_letter_20 (by decide) (fun c16 => ?_) (fun c16 => ?_)
    · have h := h.1 c16
      refine lv_aload_n (pc := 32) hx hb dX6_letter_32 rfl (lv_at hl 0 rfl) ?_
      refine lv_iconst (pc := 33) (v := (1 : Int32)) hx hb dX6_letter_33 (by decide) ?_
      refine callVi (pc := 34) (rest := []) (c1 := 0) (s1 := 0) cx hw hl (metX6_fail l D cI cZ ad H.size A_5 V_6 (1 : Int32) _ h) (fun hts => cwV 1 hts gX6_letter_X6_fail rfl rfl rfl (by decide +kernel) ⟨Nat.le_of_ble_eq_true rfl, Nat.le_of_ble_eq_true rfl⟩) SUB.rf [0, 1] rfl 0 (ci := 6) rfl rfl rfl (JN.rf) rfl rfl (Nat.le_of_ble_eq_true rfl) ⟨Nat.le_of_ble_eq_true rfl, Nat.le_of_ble_eq_true rfl⟩ rfl rfl dX6_letter_34 (fun r17 u H locs h hw => ?_)
      obtain ⟨A_20, V_21⟩ := u
      exact hret 37 _ _ (A_20, V_21) _ _ rfl dX6_letter_37 h hw
    · have h := h.2 c16
      refine lv_aload_n (pc := 23) hx hb dX6_letter_23 rfl (lv_at hl 0 rfl) ?_
      refine lv_iload_n (pc := 24) hx hb dX6_letter_24 rfl (lv_at hl 1 rfl) ?_
      refine lv_iload_n (pc := 25) hx hb dX6_letter_25 rfl (lv_at hl 2 rfl) ?_
      refine callVi (pc := 26) (rest := []) (c1 := 0) (s1 := 0) cx hw hl (metX6_get l D cI cZ ad H.size A_5 V_6 x1 x2 _ h) (fun hts => cwV 2 hts gX6_letter_X6_get rfl rfl rfl (by decide +kernel) ⟨Nat.le_of_ble_eq_true rfl, Nat.le_of_ble_eq_true rfl⟩) SUB.rf [0, 1] rfl 0 (ci := 6) rfl rfl rfl (JN.rf) rfl rfl (Nat.le_of_ble_eq_true rfl) ⟨Nat.le_of_ble_eq_true rfl, Nat.le_of_ble_eq_true rfl⟩ rfl rfl dX6_letter_26 (fun r22 u H locs h hw => ?_)
      obtain ⟨A_25, V_26⟩ := u
      refine lv_goto (pc := 29) (tgt := 37) hx hb dX6_letter_29 (by decide) ?_
      exact hret 37 _ _ (A_25, V_26) _ _ rfl dX6_letter_37 h hw
def wpX6_letter (A : SA) (V : SV) (x1 : Int32) (x2 : Int32) (Q : Int32 → SA → SV → Prop) : Prop := wb_X6_letter_0 Q A V x1 x2
set_option maxHeartbeats 4000000 in
set_option maxRecDepth 100000 in
theorem metX6_letter (l : Launch) (D : va_G) (cI cZ : ClassId) (ad : Nat → Nat) (sz : Nat) (A : SA) (V : SV) (x1 : Int32) (x2 : Int32) (Q : Int32 → SA → SV → Prop) (h : wpX6_letter A V x1 x2 Q) : Met l yX6_letter wsX6_letter rmX6_letter (PcW D [(cI, .int), (cZ, .boolean)] (wM ad cI cZ A V) sz [.ref (ad 0), .int x1, .int x2]) (QiW D [(cI, .int), (cZ, .boolean)] (wM ad cI cZ A V) sz (fun u : SA × SV => (wM ad cI cZ u.1 u.2)) (fun r u => Q r u.1 u.2)) rmX6_letter.cells rmX6_letter.slots (va_A (wM ad cI cZ A V) sz) := by
  refine startI (plainFor_of_name (by decide)) rfl (Nat.le_of_ble_eq_true rfl) ?_
  intro p e s m args below meth c A0 Z cx hw hret ls hl
  exact wk_X6_letter_0 Q cx hret A V x1 x2 h _ _ _ hw hl
abbrev rmX6_drowned : Room := { frames := 2, cells := 0, slots := 0, locals := 43 }
theorem inX6_drowned_X6 : ∀ w ∈ wsX60, w ∈ wsX6_drowned := by decide +kernel
theorem kX6_drowned_42 : Cond.fieldLink RX6 42 "DrownedPostModel" "thrown" "I" ∈ wsX6_drowned := by decide +kernel
def wb_X6_drowned_0 (Q : Int32 → SA → SV → Prop) (A : SA) (V : SV) (x1 : Int32) (x2 : Int32) : Prop := (∀ V_1 : SV, V_1 = uv V 0 (0 : Int32) → (wpX6_isOne A V_1 x1 (fun r2 A_5 V_6 => ((r2 = 0 → (wpX6_fail A_5 V_6 (1 : Int32) (fun r8 A_11 V_12 => Q r8 A_11 V_12))) ∧ (¬ (r2 = 0) → (wpX6_isIn x2 (0 : Int32) (4 : Int32) (fun r13 => ((r13 = 0 → (wpX6_fail A_5 V_6 (1 : Int32) (fun r17 A_20 V_21 => Q r17 A_20 V_21))) ∧ (¬ (r13 = 0) → (wpX6_one A_5 V_6 x1 x2 (fun r22 A_25 V_26 => Q r22 A_25 V_26)))))))))))
set_option maxHeartbeats 4000000 in
set_option maxRecDepth 100000 in
theorem wk_X6_drowned_0 (Q : Int32 → SA → SV → Prop) (cx : CX RX6 cX6_drowned 3 wsX6_drowned D [(cI, .int), (cZ, .boolean)] p s m args c A0) (hret : ∀ (pc : Nat) (ls : Array Slot) (r : Int32) (u : SA × SV) (H : Heap) (locs : List Loc), narrow .int (.int r) = .int r → decode cX6_drowned pc = .ok (.ireturn, 1) → Q r u.1 u.2 → WS D s A0 (wM ad cI cZ u.1 u.2) H locs → W p l e rmX6_drowned s m args below meth c H locs rmX6_drowned.cells rmX6_drowned.slots Z (F0 m pc ls [.int r]))  : ∀ (A : SA) (V : SV) (x1 : Int32) (x2 : Int32) (h : wb_X6_drowned_0 Q A V x1 x2) (H : Heap) (locs : List Loc) (ls : Array Slot) (hw : WS D s A0 (wM ad cI cZ A V) H locs) (hl : lv_has ls 3 [(0, .ref (ad 0)), (1, .int x1), (2, .int x2)]), W p l e rmX6_drowned s m args below meth c H locs 0 0 Z (F0 m 0 ls []) := by
  obtain ⟨hx, hb, hml, hown, hts, hK, hA⟩ := id cx
  intro A V x1 x2 h H locs ls hw hl
  refine lv_aload_n (pc := 0) hx hb dX6_drowned_0 rfl (lv_at hl 0 rfl) ?_
  refine lv_iconst (pc := 1) (v := (0 : Int32)) hx hb dX6_drowned_1 (by decide) ?_
  refine puM_X6_0 (pc := 2) cx inX6_drowned_X6 kX6_drowned_42 hw dX6_drowned_2 (fun V_1 eV_1 H locs hw => ?_)
  have h := h V_1 eV_1
  refine lv_aload_n (pc := 5) hx hb dX6_drowned_5 rfl (lv_at hl 0 rfl) ?_
  refine lv_iload_n (pc := 6) hx hb dX6_drowned_6 rfl (lv_at hl 1 rfl) ?_
  refine callVi (pc := 7) (rest := []) (c1 := 0) (s1 := 0) cx hw hl (metX6_isOne l D cI cZ ad H.size A V_1 x1 _ h) (fun hts => cwV 1 hts gX6_drowned_X6_isOne rfl rfl rfl (by decide +kernel) ⟨Nat.le_of_ble_eq_true rfl, Nat.le_of_ble_eq_true rfl⟩) SUB.rf [0, 1] rfl 0 (ci := 6) rfl rfl rfl (JN.rf) rfl rfl (Nat.le_of_ble_eq_true rfl) ⟨Nat.le_of_ble_eq_true rfl, Nat.le_of_ble_eq_true rfl⟩ rfl rfl dX6_drowned_7 (fun r2 u H locs h hw => ?_)
  obtain ⟨A_5, V_6⟩ := u
  refine lv_if_eq (pc := 10) (tgt := 31) hx hb dX6_drowned_10 (by decide) (fun c7 => ?_) (fun c7 => ?_)
  · have h := h.1 c7
    refine lv_aload_n (pc := 31) hx hb dX6_drowned_31 rfl (lv_at hl 0 rfl) ?_
    refine lv_iconst (pc := 32) (v := (1 : Int32)) hx hb dX6_drowned_32 (by decide) ?_
    refine callVi (pc := 33) (rest := []) (c1 := 0) (s1 := 0) cx hw hl (metX6_fail l D cI cZ ad H.size A_5 V_6 (1 : Int32) _ h) (fun hts => cwV 1 hts gX6_drowned_X6_fail rfl rfl rfl (by decide +kernel) ⟨Nat.le_of_ble_eq_true rfl, Nat.le_of_ble_eq_true rfl⟩) SUB.rf [0, 1] rfl 0 (ci := 6) rfl rfl rfl (JN.rf) rfl rfl (Nat.le_of_ble_eq_true rfl) ⟨Nat.le_of_ble_eq_true rfl, Nat.le_of_ble_eq_true rfl⟩ rfl rfl dX6_drowned_33 (fun r8 u H locs h hw => ?_)
    obtain ⟨A_11, V_12⟩ := u
    exact hret 36 _ _ (A_11, V_12) _ _ rfl dX6_drowned_36 h hw
  · have h := h.2 c7
    refine lv_iload_n (pc := 13) hx hb dX6_drowned_13 rfl (lv_at hl 2 rfl) ?_
    refine lv_iconst (pc := 14) (v := (0 : Int32)) hx hb dX6_drowned_14 (by decide) ?_
    refine lv_iconst (pc := 15) (v := (4 : Int32)) hx hb dX6_drowned_15 (by decide) ?_
    refine callSi (pc := 16) (rest := []) (c1 := 0) (s1 := 0) cx hw hl (metX6_isIn l D [] H.size x2 (0 : Int32) (4 : Int32) _ h) (fun hts => va_cwS 3 hts gX6_drowned_X6_isIn rfl rfl rfl (by decide +kernel) ⟨Nat.le_of_ble_eq_true rfl, Nat.le_of_ble_eq_true rfl⟩) SUB.nil [] rfl (JN.nil (S := Unit)) rfl rfl (Nat.le_of_ble_eq_true rfl) ⟨Nat.le_of_ble_eq_true rfl, Nat.le_of_ble_eq_true rfl⟩ rfl rfl dX6_drowned_16 (fun r13 u H locs h hw => ?_)
    refine lv_if_eq (pc := 19) (tgt := 31) hx hb dX6_drowned_19 (by decide) (fun c16 => ?_) (fun c16 => ?_)
    · have h := h.1 c16
      refine lv_aload_n (pc := 31) hx hb dX6_drowned_31 rfl (lv_at hl 0 rfl) ?_
      refine lv_iconst (pc := 32) (v := (1 : Int32)) hx hb dX6_drowned_32 (by decide) ?_
      refine callVi (pc := 33) (rest := []) (c1 := 0) (s1 := 0) cx hw hl (metX6_fail l D cI cZ ad H.size A_5 V_6 (1 : Int32) _ h) (fun hts => cwV 1 hts gX6_drowned_X6_fail rfl rfl rfl (by decide +kernel) ⟨Nat.le_of_ble_eq_true rfl, Nat.le_of_ble_eq_true rfl⟩) SUB.rf [0, 1] rfl 0 (ci := 6) rfl rfl rfl (JN.rf) rfl rfl (Nat.le_of_ble_eq_true rfl) ⟨Nat.le_of_ble_eq_true rfl, Nat.le_of_ble_eq_true rfl⟩ rfl rfl dX6_drowned_33 (fun r17 u H locs h hw => ?_)
      obtain ⟨A_20, V_21⟩ := u
      exact hret 36 _ _ (A_20, V_21) _ _ rfl dX6_drowned_36 h hw
    · have h := h.2 c16
      refine lv_aload_n (pc := 22) hx hb dX6_drowned_22 rfl (lv_at hl 0 rfl) ?_
      refine lv_iload_n (pc := 23) hx hb dX6_drowned_23 rfl (lv_at hl 1 rfl) ?_
      refine lv_iload_n (pc := 24) hx hb dX6_drowned_24 rfl (lv_at hl 2 rfl) ?_
      refine callVi (pc := 25) (rest := []) (c1 := 0) (s1 := 0) cx hw hl (metX6_one l D cI cZ ad H.size A_5 V_6 x1 x2 _ h) (fun hts => cwV 2 hts gX6_drowned_X6_one rfl rfl rfl (by decide +kernel) ⟨Nat.le_of_ble_eq_true rfl, Nat.le_of_ble_eq_true rfl⟩) SUB.rf [0, 1] rfl 0 (ci := 6) rfl rfl rfl (JN.rf) rfl rfl (Nat.le_of_ble_eq_true rfl) ⟨Nat.le_of_ble_eq_true rfl, Nat.le_of_ble_eq_true rfl⟩ rfl rfl dX6_drowned_25 (fun r22 u H locs h hw => ?_)
      obtain ⟨A_25, V_26⟩ := u
      refine lv_goto (pc := 28) (tgt := 36) hx hb dX6_drowned_28 (by decide) ?_
      exact hret 36 _ _ (A_25, V_26) _ _ rfl dX6_drowned_36 h hw
def wpX6_drowned (A : SA) (V : SV) (x1 : Int32) (x2 : Int32) (Q : Int32 → SA → SV → Prop) : Prop := wb_X6_drowned_0 Q A V x1 x2
set_option maxHeartbeats 4000000 in
set_option maxRecDepth 100000 in
theorem metX6_drowned (l : Launch) (D : va_G) (cI cZ : ClassId) (ad : Nat → Nat) (sz : Nat) (A : SA) (V : SV) (x1 : Int32) (x2 : Int32) (Q : Int32 → SA → SV → Prop) (h : wpX6_drowned A V x1 x2 Q) : Met l yX6_drowned wsX6_drowned rmX6_drowned (PcW D [(cI, .int), (cZ, .boolean)] (wM ad cI cZ A V) sz [.ref (ad 0), .int x1, .int x2]) (QiW D [(cI, .int), (cZ, .boolean)] (wM ad cI cZ A V) sz (fun u : SA × SV => (wM ad cI cZ u.1 u.2)) (fun r u => Q r u.1 u.2)) rmX6_drowned.cells rmX6_drowned.slots (va_A (wM ad cI cZ A V) sz) := by
  refine startI (plainFor_of_name (by decide)) rfl (Nat.le_of_ble_eq_true rfl) ?_
  intro p e s m args below meth c A0 Z cx hw hret ls hl
  exact wk_X6_drowned_0 Q cx hret A V x1 x2 h _ _ _ hw hl
abbrev rmX6_sumOf : Room := { frames := 2, cells := 0, slots := 0, locals := 44 }
theorem inX6_sumOf_X6 : ∀ w ∈ wsX60, w ∈ wsX6_sumOf := by decide +kernel
theorem kX6_sumOf_70 : Cond.fieldLink RX6 70 "DrownedPostModel" "letters" "I" ∈ wsX6_sumOf := by decide +kernel
def wl_X6_sumOf_5 (Q : Int32 → SA → SV → Prop) : Nat → SA → SV → Int32 → Int32 → Int32 → Int32 → Prop
  | 0, _, _, _, _, _, _ => False
  | n + 1, A, V, x1, x2, x3, x4 => (((V 5) ≤ x4 → Q x3 A V) ∧ (¬ ((V 5) ≤ x4) → (wpX6_isIn_ A V x4 (1 : Int32) (fun r2 A_5 V_6 => ((r2 = 0 → wl_X6_sumOf_5 Q n A_5 V_6 x1 x2 x3 (x4 + 1)) ∧ (¬ (r2 = 0) → (wpX6_get A_5 V_6 x4 (5 : Int32) (fun r8 A_11 V_12 => ((¬ r8 = x1 → wl_X6_sumOf_5 Q n A_11 V_12 x1 x2 x3 (x4 + 1)) ∧ (r8 = x1 → ((x2 = 0 → (wpX6_get A_11 V_12 x4 (4 : Int32) (fun r15 A_18 V_19 => wl_X6_sumOf_5 Q n A_18 V_19 x1 x2 (x3 + r15) (x4 + 1)))) ∧ (¬ (x2 = 0) → wl_X6_sumOf_5 Q n A_11 V_12 x1 x2 (x3 + (1 : Int32)) (x4 + 1)))))))))))))
set_option maxHeartbeats 4000000 in
set_option maxRecDepth 100000 in
theorem wk_X6_sumOf_5 (Q : Int32 → SA → SV → Prop) (cx : CX RX6 cX6_sumOf 5 wsX6_sumOf D [(cI, .int), (cZ, .boolean)] p s m args c A0) (hret : ∀ (pc : Nat) (ls : Array Slot) (r : Int32) (u : SA × SV) (H : Heap) (locs : List Loc), narrow .int (.int r) = .int r → decode cX6_sumOf pc = .ok (.ireturn, 1) → Q r u.1 u.2 → WS D s A0 (wM ad cI cZ u.1 u.2) H locs → W p l e rmX6_sumOf s m args below meth c H locs rmX6_sumOf.cells rmX6_sumOf.slots Z (F0 m pc ls [.int r]))  : ∀ (n : Nat) (A : SA) (V : SV) (x1 : Int32) (x2 : Int32) (x3 : Int32) (x4 : Int32) (h : wl_X6_sumOf_5 Q n A V x1 x2 x3 x4) (H : Heap) (locs : List Loc) (ls : Array Slot) (hw : WS D s A0 (wM ad cI cZ A V) H locs) (hl : lv_has ls 5 [(0, .ref (ad 0)), (1, .int x1), (2, .int x2), (3, .int x3), (4, .int x4)]), W p l e rmX6_sumOf s m args below meth c H locs 0 0 Z (F0 m 5 ls []) := by
  obtain ⟨hx, hb, hml, hown, hts, hK, hA⟩ := id cx
  intro n
  induction n with
  | zero => intro A V x1 x2 x3 x4 h; exact False.elim h
  | succ n ih =>
    intro A V x1 x2 x3 x4 h H locs ls hw hl
    refine lv_iload (pc := 5) hx hb dX6_sumOf_5 (lv_at hl 4 rfl) ?_
    refine lv_aload_n (pc := 7) hx hb dX6_sumOf_7 rfl (lv_at hl 0 rfl) ?_
    refine geM_X6_8 (pc := 8) cx inX6_sumOf_X6 kX6_sumOf_70 hw dX6_sumOf_8 ?_
    refine lv_icmp_ge (pc := 11) (tgt := 59) hx hb dX6_sumOf_11 (by decide) (fun c1 => ?_) (fun c1 => ?_)
    · have h := h.1 c1
      refine lv_iload_n (pc := 59) hx hb dX6_sumOf_59 rfl (lv_at hl 3 rfl) ?_
      exact hret 60 _ _ (A, V) _ _ rfl dX6_sumOf_60 h hw
    · have h := h.2 c1
      refine lv_aload_n (pc := 14) hx hb dX6_sumOf_14 rfl (lv_at hl 0 rfl) ?_
      refine lv_iload (pc := 15) hx hb dX6_sumOf_15 (lv_at hl 4 rfl) ?_
      refine lv_iconst (pc := 17) (v := (1 : Int32)) hx hb dX6_sumOf_17 (by decide) ?_
      refine callVi (pc := 18) (rest := []) (c1 := 0) (s1 := 0) cx hw hl (metX6_isIn_ l D cI cZ ad H.size A V x4 (1 : Int32) _ h) (fun hts => cwV 2 hts gX6_sumOf_X6_isIn_ rfl rfl rfl (by decide +kernel) ⟨Nat.le_of_ble_eq_true rfl, Nat.le_of_ble_eq_true rfl⟩) SUB.rf [0, 1] rfl 0 (ci := 6) rfl rfl rfl (JN.rf) rfl rfl (Nat.le_of_ble_eq_true rfl) ⟨Nat.le_of_ble_eq_true rfl, Nat.le_of_ble_eq_true rfl⟩ rfl rfl dX6_sumOf_18 (fun r2 u H locs h hw => ?_)
      obtain ⟨A_5, V_6⟩ := u
      refine lv_if_eq (pc := 21) (tgt := 53) hx hb dX6_sumOf_21 (by decide) (fun c7 => ?_) (fun c7 => ?_)
      · have h := h.1 c7
        refine lv_iinc (pc := 53) (v := x4 + 1) (lv' := [(4, .int (x4 + 1)), (0, .ref (ad 0)), (1, .int x1), (2, .int x2), (3, .int x3)]) hx hb dX6_sumOf_53 hl (k := 4) rfl rfl (by decide) rfl (fun ls hl => ?_)
        refine lv_goto (pc := 56) (tgt := 5) hx hb dX6_sumOf_56 (by decide) ?_
        exact ih A_5 V_6 x1 x2 x3 (x4 + 1) h _ _ _ hw (lv_sub hl [1, 2, 3, 4, 0] rfl)
      · have h := h.2 c7
        refine lv_aload_n (pc := 24) hx hb dX6_sumOf_24 rfl (lv_at hl 0 rfl) ?_
        refine lv_iload (pc := 25) hx hb dX6_sumOf_25 (lv_at hl 4 rfl) ?_
        refine lv_iconst (pc := 27) (v := (5 : Int32)) hx hb dX6_sumOf_27 (by decide) ?_
        refine callVi (pc := 28) (rest := []) (c1 := 0) (s1 := 0) cx hw hl (metX6_get l D cI cZ ad H.size A_5 V_6 x4 (5 : Int32) _ h) (fun hts => cwV 2 hts gX6_sumOf_X6_get rfl rfl rfl (by decide +kernel) ⟨Nat.le_of_ble_eq_true rfl, Nat.le_of_ble_eq_true rfl⟩) SUB.rf [0, 1] rfl 0 (ci := 6) rfl rfl rfl (JN.rf) rfl rfl (Nat.le_of_ble_eq_true rfl) ⟨Nat.le_of_ble_eq_true rfl, Nat.le_of_ble_eq_true rfl⟩ rfl rfl dX6_sumOf_28 (fun r8 u H locs h hw => ?_)
        obtain ⟨A_11, V_12⟩ := u
        refine lv_iload_n (pc := 31) hx hb dX6_sumOf_31 rfl (lv_at hl 1 rfl) ?_
        refine lv_icmp_ne (pc := 32) (tgt := 53) hx hb dX6_sumOf_32 (by decide) (fun c13 => ?_) (fun c13 => ?_)
        · have h := h.1 c13
          refine lv_iinc (pc := 53) (v := x4 + 1) (lv' := [(4, .int (x4 + 1)), (0, .ref (ad 0)), (1, .int x1), (2, .int x2), (3, .int x3)]) hx hb dX6_sumOf_53 hl (k := 4) rfl rfl (by decide) rfl (fun ls hl => ?_)
          refine lv_goto (pc := 56) (tgt := 5) hx hb dX6_sumOf_56 (by decide) ?_
          exact ih A_11 V_12 x1 x2 x3 (x4 + 1) h _ _ _ hw (lv_sub hl [1, 2, 3, 4, 0] rfl)
        · have h := h.2 c13
          refine lv_iload_n (pc := 35) hx hb dX6_sumOf_35 rfl (lv_at hl 3 rfl) ?_
          refine lv_iload_n (pc := 36) hx hb dX6_sumOf_36 rfl (lv_at hl 2 rfl) ?_
          refine lv_if_eq (pc := 37) (tgt := 44) hx hb dX6_sumOf_37 (by decide) (fun c14 => ?_) (fun c14 => ?_)
          · have h := h.1 c14
            refine lv_aload_n (pc := 44) hx hb dX6_sumOf_44 rfl (lv_at hl 0 rfl) ?_
            refine lv_iload (pc := 45) hx hb dX6_sumOf_45 (lv_at hl 4 rfl) ?_
            refine lv_iconst (pc := 47) (v := (4 : Int32)) hx hb dX6_sumOf_47 (by decide) ?_
            refine callVi (pc := 48) (rest := [.int x3]) (c1 := 0) (s1 := 0) cx hw hl (metX6_get l D cI cZ ad H.size A_11 V_12 x4 (4 : Int32) _ h) (fun hts => cwV 2 hts gX6_sumOf_X6_get rfl rfl rfl (by decide +kernel) ⟨Nat.le_of_ble_eq_true rfl, Nat.le_of_ble_eq_true rfl⟩) SUB.rf [0, 1] rfl 0 (ci := 6) rfl rfl rfl (JN.rf) rfl rfl (Nat.le_of_ble_eq_true rfl) ⟨Nat.le_of_ble_eq_true rfl, Nat.le_of_ble_eq_true rfl⟩ rfl rfl dX6_sumOf_48 (fun r15 u H locs h hw => ?_)
            obtain ⟨A_18, V_19⟩ := u
            refine lv_iadd (pc := 51) hx hb dX6_sumOf_51 ?_
            refine lv_istore_n (pc := 52) (lv' := [(3, .int (x3 + r15)), (0, .ref (ad 0)), (1, .int x1), (2, .int x2), (4, .int x4)]) hx hb dX6_sumOf_52 rfl hl (by decide) rfl (fun ls hl => ?_)
            refine lv_iinc (pc := 53) (v := x4 + 1) (lv' := [(4, .int (x4 + 1)), (3, .int (x3 + r15)), (0, .ref (ad 0)), (1, .int x1), (2, .int x2)]) hx hb dX6_sumOf_53 hl (k := 4) rfl rfl (by decide) rfl (fun ls hl => ?_)
            refine lv_goto (pc := 56) (tgt := 5) hx hb dX6_sumOf_56 (by decide) ?_
            exact ih A_18 V_19 x1 x2 (x3 + r15) (x4 + 1) h _ _ _ hw (lv_sub hl [2, 3, 4, 1, 0] rfl)
          · have h := h.2 c14
            refine lv_iconst (pc := 40) (v := (1 : Int32)) hx hb dX6_sumOf_40 (by decide) ?_
            refine lv_goto (pc := 41) (tgt := 51) hx hb dX6_sumOf_41 (by decide) ?_
            refine lv_iadd (pc := 51) hx hb dX6_sumOf_51 ?_
            refine lv_istore_n (pc := 52) (lv' := [(3, .int (x3 + (1 : Int32))), (0, .ref (ad 0)), (1, .int x1), (2, .int x2), (4, .int x4)]) hx hb dX6_sumOf_52 rfl hl (by decide) rfl (fun ls hl => ?_)
            refine lv_iinc (pc := 53) (v := x4 + 1) (lv' := [(4, .int (x4 + 1)), (3, .int (x3 + (1 : Int32))), (0, .ref (ad 0)), (1, .int x1), (2, .int x2)]) hx hb dX6_sumOf_53 hl (k := 4) rfl rfl (by decide) rfl (fun ls hl => ?_)
            refine lv_goto (pc := 56) (tgt := 5) hx hb dX6_sumOf_56 (by decide) ?_
            exact ih A_11 V_12 x1 x2 (x3 + (1 : Int32)) (x4 + 1) h _ _ _ hw (lv_sub hl [2, 3, 4, 1, 0] rfl)
def wb_X6_sumOf_0 (Q : Int32 → SA → SV → Prop) (A : SA) (V : SV) (x1 : Int32) (x2 : Int32) : Prop := (∃ n5 : Nat, wl_X6_sumOf_5 Q n5 A V x1 x2 (0 : Int32) (0 : Int32))
set_option maxHeartbeats 4000000 in
set_option maxRecDepth 100000 in
theorem wk_X6_sumOf_0 (Q : Int32 → SA → SV → Prop) (cx : CX RX6 cX6_sumOf 5 wsX6_sumOf D [(cI, .int), (cZ, .boolean)] p s m args c A0) (hret : ∀ (pc : Nat) (ls : Array Slot) (r : Int32) (u : SA × SV) (H : Heap) (locs : List Loc), narrow .int (.int r) = .int r → decode cX6_sumOf pc = .ok (.ireturn, 1) → Q r u.1 u.2 → WS D s A0 (wM ad cI cZ u.1 u.2) H locs → W p l e rmX6_sumOf s m args below meth c H locs rmX6_sumOf.cells rmX6_sumOf.slots Z (F0 m pc ls [.int r]))  : ∀ (A : SA) (V : SV) (x1 : Int32) (x2 : Int32) (h : wb_X6_sumOf_0 Q A V x1 x2) (H : Heap) (locs : List Loc) (ls : Array Slot) (hw : WS D s A0 (wM ad cI cZ A V) H locs) (hl : lv_has ls 5 [(0, .ref (ad 0)), (1, .int x1), (2, .int x2)]), W p l e rmX6_sumOf s m args below meth c H locs 0 0 Z (F0 m 0 ls []) := by
  obtain ⟨hx, hb, hml, hown, hts, hK, hA⟩ := id cx
  intro A V x1 x2 h H locs ls hw hl
  refine lv_iconst (pc := 0) (v := (0 : Int32)) hx hb dX6_sumOf_0 (by decide) ?_
  refine lv_istore_n (pc := 1) (lv' := [(3, .int (0 : Int32)), (0, .ref (ad 0)), (1, .int x1), (2, .int x2)]) hx hb dX6_sumOf_1 rfl hl (by decide) rfl (fun ls hl => ?_)
  refine lv_iconst (pc := 2) (v := (0 : Int32)) hx hb dX6_sumOf_2 (by decide) ?_
  refine lv_istore (pc := 3) (lv' := [(4, .int (0 : Int32)), (3, .int (0 : Int32)), (0, .ref (ad 0)), (1, .int x1), (2, .int x2)]) hx hb dX6_sumOf_3 hl (by decide) rfl (fun ls hl => ?_)
  obtain ⟨n5, h⟩ := h
  exact wk_X6_sumOf_5 Q cx hret  n5 A V x1 x2 (0 : Int32) (0 : Int32) h _ _ _ hw (lv_sub hl [2, 3, 4, 1, 0] rfl)
def wpX6_sumOf (A : SA) (V : SV) (x1 : Int32) (x2 : Int32) (Q : Int32 → SA → SV → Prop) : Prop := wb_X6_sumOf_0 Q A V x1 x2
set_option maxHeartbeats 4000000 in
set_option maxRecDepth 100000 in
theorem metX6_sumOf (l : Launch) (D : va_G) (cI cZ : ClassId) (ad : Nat → Nat) (sz : Nat) (A : SA) (V : SV) (x1 : Int32) (x2 : Int32) (Q : Int32 → SA → SV → Prop) (h : wpX6_sumOf A V x1 x2 Q) : Met l yX6_sumOf wsX6_sumOf rmX6_sumOf (PcW D [(cI, .int), (cZ, .boolean)] (wM ad cI cZ A V) sz [.ref (ad 0), .int x1, .int x2]) (QiW D [(cI, .int), (cZ, .boolean)] (wM ad cI cZ A V) sz (fun u : SA × SV => (wM ad cI cZ u.1 u.2)) (fun r u => Q r u.1 u.2)) rmX6_sumOf.cells rmX6_sumOf.slots (va_A (wM ad cI cZ A V) sz) := by
  refine startI (plainFor_of_name (by decide)) rfl (Nat.le_of_ble_eq_true rfl) ?_
  intro p e s m args below meth c A0 Z cx hw hret ls hl
  exact wk_X6_sumOf_0 Q cx hret A V x1 x2 h _ _ _ hw hl
abbrev rmX6_binTold : Room := { frames := 3, cells := 0, slots := 0, locals := 68 }
theorem inX6_binTold_X6 : ∀ w ∈ wsX60, w ∈ wsX6_binTold := by decide +kernel
theorem kX6_binTold_17 : Cond.fieldLink RX6 17 "DrownedPostModel" "binTable" "[I" ∈ wsX6_binTold := by decide +kernel
theorem kX6_binTold_96 : Cond.fieldLink RX6 96 "DrownedPostModel" "hour" "I" ∈ wsX6_binTold := by decide +kernel
def wb_X6_binTold_0 (Q : Int32 → SA → SV → Prop) (A : SA) (V : SV) (x1 : Int32) (x2 : Int32) : Prop := ((x2 = (0 : Int32) → (vp_in (((2 : Int32) * x1) + x2) 20 ∧ Q (A 1 (((2 : Int32) * x1) + x2).toNatClampNeg) A V)) ∧ (¬ x2 = (0 : Int32) → ((x2 = (1 : Int32) → (vp_in (((2 : Int32) * x1) + x2) 20 ∧ Q (A 1 (((2 : Int32) * x1) + x2).toNatClampNeg) A V)) ∧ (¬ x2 = (1 : Int32) → ((x2 = (2 : Int32) → (wpX6_sumOf A V x1 (1 : Int32) (fun r4 A_7 V_8 => Q r4 A_7 V_8))) ∧ (¬ x2 = (2 : Int32) → ((x2 = (3 : Int32) → (wpX6_tideOf A V (V 1) (fun r10 A_13 V_14 => (wpX6_isUnder A_13 V_14 x1 r10 (fun r15 A_18 V_19 => ((r15 = 0 → Q (0 : Int32) A_18 V_19) ∧ (¬ (r15 = 0) → Q (1 : Int32) A_18 V_19))))))) ∧ (¬ x2 = (3 : Int32) → (wpX6_sumOf A V x1 (0 : Int32) (fun r21 A_24 V_25 => Q r21 A_24 V_25))))))))))
set_option maxHeartbeats 4000000 in
set_option maxRecDepth 100000 in
theorem wk_X6_binTold_0 (Q : Int32 → SA → SV → Prop) (cx : CX RX6 cX6_binTold 3 wsX6_binTold D [(cI, .int), (cZ, .boolean)] p s m args c A0) (hret : ∀ (pc : Nat) (ls : Array Slot) (r : Int32) (u : SA × SV) (H : Heap) (locs : List Loc), narrow .int (.int r) = .int r → decode cX6_binTold pc = .ok (.ireturn, 1) → Q r u.1 u.2 → WS D s A0 (wM ad cI cZ u.1 u.2) H locs → W p l e rmX6_binTold s m args below meth c H locs rmX6_binTold.cells rmX6_binTold.slots Z (F0 m pc ls [.int r]))  : ∀ (A : SA) (V : SV) (x1 : Int32) (x2 : Int32) (h : wb_X6_binTold_0 Q A V x1 x2) (H : Heap) (locs : List Loc) (ls : Array Slot) (hw : WS D s A0 (wM ad cI cZ A V) H locs) (hl : lv_has ls 3 [(0, .ref (ad 0)), (1, .int x1), (2, .int x2)]), W p l e rmX6_binTold s m args below meth c H locs 0 0 Z (F0 m 0 ls []) := by
  obtain ⟨hx, hb, hml, hown, hts, hK, hA⟩ := id cx
  intro A V x1 x2 h H locs ls hw hl
  refine lv_iload_n (pc := 0) hx hb dX6_binTold_0 rfl (lv_at hl 2 rfl) ?_
  by_cases e1 : x2 = (0 : Int32)
  · have h := h.1 e1
    refine lv_tableIn (pc := 1) (off := 31) (tgt := 32) hx hb dX6_binTold_1 (by rw [e1]; decide) (by rw [e1]; decide) (by rw [e1]; rfl) (by decide) ?_
    refine lv_aload_n (pc := 32) hx hb dX6_binTold_32 rfl (lv_at hl 0 rfl) ?_
    refine geM_X6_5 (pc := 33) cx inX6_binTold_X6 kX6_binTold_17 hw dX6_binTold_33 ?_
    refine lv_iconst (pc := 36) (v := (2 : Int32)) hx hb dX6_binTold_36 (by decide) ?_
    refine lv_iload_n (pc := 37) hx hb dX6_binTold_37 rfl (lv_at hl 1 rfl) ?_
    refine lv_imul (pc := 38) hx hb dX6_binTold_38 ?_
    refine lv_iload_n (pc := 39) hx hb dX6_binTold_39 rfl (lv_at hl 2 rfl) ?_
    refine lv_iadd (pc := 40) hx hb dX6_binTold_40 ?_
    refine alM_1 (pc := 41) cx hw h.1 dX6_binTold_41 ?_
    have h := h.2
    exact hret 42 _ _ (A, V) _ _ rfl dX6_binTold_42 h hw
  · have h := h.2 e1
    by_cases e2 : x2 = (1 : Int32)
    · have h := h.1 e2
      refine lv_tableIn (pc := 1) (off := 31) (tgt := 32) hx hb dX6_binTold_1 (by rw [e2]; decide) (by rw [e2]; decide) (by rw [e2]; rfl) (by decide) ?_
      refine lv_aload_n (pc := 32) hx hb dX6_binTold_32 rfl (lv_at hl 0 rfl) ?_
      refine geM_X6_5 (pc := 33) cx inX6_binTold_X6 kX6_binTold_17 hw dX6_binTold_33 ?_
      refine lv_iconst (pc := 36) (v := (2 : Int32)) hx hb dX6_binTold_36 (by decide) ?_
      refine lv_iload_n (pc := 37) hx hb dX6_binTold_37 rfl (lv_at hl 1 rfl) ?_
      refine lv_imul (pc := 38) hx hb dX6_binTold_38 ?_
      refine lv_iload_n (pc := 39) hx hb dX6_binTold_39 rfl (lv_at hl 2 rfl) ?_
      refine lv_iadd (pc := 40) hx hb dX6_binTold_40 ?_
      refine alM_1 (pc := 41) cx hw h.1 dX6_binTold_41 ?_
      have h := h.2
      exact hret 42 _ _ (A, V) _ _ rfl dX6_binTold_42 h hw
    · have h := h.2 e2
      by_cases e3 : x2 = (2 : Int32)
      · have h := h.1 e3
        refine lv_tableIn (pc := 1) (off := 42) (tgt := 43) hx hb dX6_binTold_1 (by rw [e3]; decide) (by rw [e3]; decide) (by rw [e3]; rfl) (by decide) ?_
        refine lv_aload_n (pc := 43) hx hb dX6_binTold_43 rfl (lv_at hl 0 rfl) ?_
        refine lv_iload_n (pc := 44) hx hb dX6_binTold_44 rfl (lv_at hl 1 rfl) ?_
        refine lv_iconst (pc := 45) (v := (1 : Int32)) hx hb dX6_binTold_45 (by decide) ?_
        refine callVi (pc := 46) (rest := []) (c1 := 0) (s1 := 0) cx hw hl (metX6_sumOf l D cI cZ ad H.size A V x1 (1 : Int32) _ h) (fun hts => cwV 2 hts gX6_binTold_X6_sumOf rfl rfl rfl (by decide +kernel) ⟨Nat.le_of_ble_eq_true rfl, Nat.le_of_ble_eq_true rfl⟩) SUB.rf [0, 1] rfl 0 (ci := 6) rfl rfl rfl (JN.rf) rfl rfl (Nat.le_of_ble_eq_true rfl) ⟨Nat.le_of_ble_eq_true rfl, Nat.le_of_ble_eq_true rfl⟩ rfl rfl dX6_binTold_46 (fun r4 u H locs h hw => ?_)
        obtain ⟨A_7, V_8⟩ := u
        exact hret 49 _ _ (A_7, V_8) _ _ rfl dX6_binTold_49 h hw
      · have h := h.2 e3
        by_cases e9 : x2 = (3 : Int32)
        · have h := h.1 e9
          refine lv_tableIn (pc := 1) (off := 49) (tgt := 50) hx hb dX6_binTold_1 (by rw [e9]; decide) (by rw [e9]; decide) (by rw [e9]; rfl) (by decide) ?_
          refine lv_aload_n (pc := 50) hx hb dX6_binTold_50 rfl (lv_at hl 0 rfl) ?_
          refine lv_iload_n (pc := 51) hx hb dX6_binTold_51 rfl (lv_at hl 1 rfl) ?_
          refine lv_aload_n (pc := 52) hx hb dX6_binTold_52 rfl (lv_at hl 0 rfl) ?_
          refine lv_aload_n (pc := 53) hx hb dX6_binTold_53 rfl (lv_at hl 0 rfl) ?_
          refine geM_X6_1 (pc := 54) cx inX6_binTold_X6 kX6_binTold_96 hw dX6_binTold_54 ?_
          refine callVi (pc := 57) (rest := [.int x1, .ref (ad 0)]) (c1 := 0) (s1 := 0) cx hw hl (metX6_tideOf l D cI cZ ad H.size A V (V 1) _ h) (fun hts => cwV 1 hts gX6_binTold_X6_tideOf rfl rfl rfl (by decide +kernel) ⟨Nat.le_of_ble_eq_true rfl, Nat.le_of_ble_eq_true rfl⟩) SUB.rf [0, 1] rfl 0 (ci := 6) rfl rfl rfl (JN.rf) rfl rfl (Nat.le_of_ble_eq_true rfl) ⟨Nat.le_of_ble_eq_true rfl, Nat.le_of_ble_eq_true rfl⟩ rfl rfl dX6_binTold_57 (fun r10 u H locs h hw => ?_)
          obtain ⟨A_13, V_14⟩ := u
          refine callVi (pc := 60) (rest := []) (c1 := 0) (s1 := 0) cx hw hl (metX6_isUnder l D cI cZ ad H.size A_13 V_14 x1 r10 _ h) (fun hts => cwV 2 hts gX6_binTold_X6_isUnder rfl rfl rfl (by decide +kernel) ⟨Nat.le_of_ble_eq_true rfl, Nat.le_of_ble_eq_true rfl⟩) SUB.rf [0, 1] rfl 0 (ci := 6) rfl rfl rfl (JN.rf) rfl rfl (Nat.le_of_ble_eq_true rfl) ⟨Nat.le_of_ble_eq_true rfl, Nat.le_of_ble_eq_true rfl⟩ rfl rfl dX6_binTold_60 (fun r15 u H locs h hw => ?_)
          obtain ⟨A_18, V_19⟩ := u
          refine lv_if_eq (pc := 63) (tgt := 70) hx hb dX6_binTold_63 (by decide) (fun c20 => ?_) (fun c20 => ?_)
          · have h := h.1 c20
            refine lv_iconst (pc := 70) (v := (0 : Int32)) hx hb dX6_binTold_70 (by decide) ?_
            exact hret 71 _ _ (A_18, V_19) _ _ rfl dX6_binTold_71 h hw
          · have h := h.2 c20
            refine lv_iconst (pc := 66) (v := (1 : Int32)) hx hb dX6_binTold_66 (by decide) ?_
            refine lv_goto (pc := 67) (tgt := 71) hx hb dX6_binTold_67 (by decide) ?_
            exact hret 71 _ _ (A_18, V_19) _ _ rfl dX6_binTold_71 h hw
        · have h := h.2 e9
          refine lv_tableOut (pc := 1) (tgt := 72) hx hb dX6_binTold_1 (tsw 3 (by decide) (fun i hi => match i, hi with | 0, _ => e1 | 1, _ => e2 | 2, _ => e3 | 3, _ => e9 | _ + 4, hi => absurd hi (by omega))) (by decide) ?_
          refine lv_aload_n (pc := 72) hx hb dX6_binTold_72 rfl (lv_at hl 0 rfl) ?_
          refine lv_iload_n (pc := 73) hx hb dX6_binTold_73 rfl (lv_at hl 1 rfl) ?_
          refine lv_iconst (pc := 74) (v := (0 : Int32)) hx hb dX6_binTold_74 (by decide) ?_
          refine callVi (pc := 75) (rest := []) (c1 := 0) (s1 := 0) cx hw hl (metX6_sumOf l D cI cZ ad H.size A V x1 (0 : Int32) _ h) (fun hts => cwV 2 hts gX6_binTold_X6_sumOf rfl rfl rfl (by decide +kernel) ⟨Nat.le_of_ble_eq_true rfl, Nat.le_of_ble_eq_true rfl⟩) SUB.rf [0, 1] rfl 0 (ci := 6) rfl rfl rfl (JN.rf) rfl rfl (Nat.le_of_ble_eq_true rfl) ⟨Nat.le_of_ble_eq_true rfl, Nat.le_of_ble_eq_true rfl⟩ rfl rfl dX6_binTold_75 (fun r21 u H locs h hw => ?_)
          obtain ⟨A_24, V_25⟩ := u
          exact hret 78 _ _ (A_24, V_25) _ _ rfl dX6_binTold_78 h hw
def wpX6_binTold (A : SA) (V : SV) (x1 : Int32) (x2 : Int32) (Q : Int32 → SA → SV → Prop) : Prop := wb_X6_binTold_0 Q A V x1 x2
set_option maxHeartbeats 4000000 in
set_option maxRecDepth 100000 in
theorem metX6_binTold (l : Launch) (D : va_G) (cI cZ : ClassId) (ad : Nat → Nat) (sz : Nat) (A : SA) (V : SV) (x1 : Int32) (x2 : Int32) (Q : Int32 → SA → SV → Prop) (h : wpX6_binTold A V x1 x2 Q) : Met l yX6_binTold wsX6_binTold rmX6_binTold (PcW D [(cI, .int), (cZ, .boolean)] (wM ad cI cZ A V) sz [.ref (ad 0), .int x1, .int x2]) (QiW D [(cI, .int), (cZ, .boolean)] (wM ad cI cZ A V) sz (fun u : SA × SV => (wM ad cI cZ u.1 u.2)) (fun r u => Q r u.1 u.2)) rmX6_binTold.cells rmX6_binTold.slots (va_A (wM ad cI cZ A V) sz) := by
  refine startI (plainFor_of_name (by decide)) rfl (Nat.le_of_ble_eq_true rfl) ?_
  intro p e s m args below meth c A0 Z cx hw hret ls hl
  exact wk_X6_binTold_0 Q cx hret A V x1 x2 h _ _ _ hw hl
abbrev rmX6_bin : Room := { frames := 4, cells := 0, slots := 0, locals := 90 }
theorem inX6_bin_X6 : ∀ w ∈ wsX60, w ∈ wsX6_bin := by decide +kernel
theorem kX6_bin_42 : Cond.fieldLink RX6 42 "DrownedPostModel" "thrown" "I" ∈ wsX6_bin := by decide +kernel
theorem kX6_bin_64 : Cond.fieldLink RX6 64 "DrownedPostModel" "bins" "I" ∈ wsX6_bin := by decide +kernel
def wb_X6_bin_0 (Q : Int32 → SA → SV → Prop) (A : SA) (V : SV) (x1 : Int32) (x2 : Int32) : Prop := (∀ V_1 : SV, V_1 = uv V 0 (0 : Int32) → (wpX6_isIn x1 (0 : Int32) ((V_1 3) - (1 : Int32)) (fun r2 => ((r2 = 0 → (wpX6_fail A V_1 (1 : Int32) (fun r6 A_9 V_10 => Q r6 A_9 V_10))) ∧ (¬ (r2 = 0) → (wpX6_isIn x2 (0 : Int32) (4 : Int32) (fun r11 => ((r11 = 0 → (wpX6_fail A V_1 (1 : Int32) (fun r15 A_18 V_19 => Q r15 A_18 V_19))) ∧ (¬ (r11 = 0) → (wpX6_binTold A V_1 x1 x2 (fun r20 A_23 V_24 => Q r20 A_23 V_24)))))))))))
set_option maxHeartbeats 4000000 in
set_option maxRecDepth 100000 in
theorem wk_X6_bin_0 (Q : Int32 → SA → SV → Prop) (cx : CX RX6 cX6_bin 3 wsX6_bin D [(cI, .int), (cZ, .boolean)] p s m args c A0) (hret : ∀ (pc : Nat) (ls : Array Slot) (r : Int32) (u : SA × SV) (H : Heap) (locs : List Loc), narrow .int (.int r) = .int r → decode cX6_bin pc = .ok (.ireturn, 1) → Q r u.1 u.2 → WS D s A0 (wM ad cI cZ u.1 u.2) H locs → W p l e rmX6_bin s m args below meth c H locs rmX6_bin.cells rmX6_bin.slots Z (F0 m pc ls [.int r]))  : ∀ (A : SA) (V : SV) (x1 : Int32) (x2 : Int32) (h : wb_X6_bin_0 Q A V x1 x2) (H : Heap) (locs : List Loc) (ls : Array Slot) (hw : WS D s A0 (wM ad cI cZ A V) H locs) (hl : lv_has ls 3 [(0, .ref (ad 0)), (1, .int x1), (2, .int x2)]), W p l e rmX6_bin s m args below meth c H locs 0 0 Z (F0 m 0 ls []) := by
  obtain ⟨hx, hb, hml, hown, hts, hK, hA⟩ := id cx
  intro A V x1 x2 h H locs ls hw hl
  refine lv_aload_n (pc := 0) hx hb dX6_bin_0 rfl (lv_at hl 0 rfl) ?_
  refine lv_iconst (pc := 1) (v := (0 : Int32)) hx hb dX6_bin_1 (by decide) ?_
  refine puM_X6_0 (pc := 2) cx inX6_bin_X6 kX6_bin_42 hw dX6_bin_2 (fun V_1 eV_1 H locs hw => ?_)
  have h := h V_1 eV_1
  refine lv_iload_n (pc := 5) hx hb dX6_bin_5 rfl (lv_at hl 1 rfl) ?_
  refine lv_iconst (pc := 6) (v := (0 : Int32)) hx hb dX6_bin_6 (by decide) ?_
  refine lv_aload_n (pc := 7) hx hb dX6_bin_7 rfl (lv_at hl 0 rfl) ?_
  refine geM_X6_4 (pc := 8) cx inX6_bin_X6 kX6_bin_64 hw dX6_bin_8 ?_
  refine lv_iconst (pc := 11) (v := (1 : Int32)) hx hb dX6_bin_11 (by decide) ?_
  refine lv_isub (pc := 12) hx hb dX6_bin_12 ?_
  refine callSi (pc := 13) (rest := []) (c1 := 0) (s1 := 0) cx hw hl (metX6_isIn l D [] H.size x1 (0 : Int32) ((V_1 3) - (1 : Int32)) _ h) (fun hts => va_cwS 3 hts gX6_bin_X6_isIn rfl rfl rfl (by decide +kernel) ⟨Nat.le_of_ble_eq_true rfl, Nat.le_of_ble_eq_true rfl⟩) SUB.nil [] rfl (JN.nil (S := Unit)) rfl rfl (Nat.le_of_ble_eq_true rfl) ⟨Nat.le_of_ble_eq_true rfl, Nat.le_of_ble_eq_true rfl⟩ rfl rfl dX6_bin_13 (fun r2 u H locs h hw => ?_)
  refine lv_if_eq (pc := 16) (tgt := 37) hx hb dX6_bin_16 (by decide) (fun c5 => ?_) (fun c5 => ?_)
  · have h := h.1 c5
    refine lv_aload_n (pc := 37) hx hb dX6_bin_37 rfl (lv_at hl 0 rfl) ?_
    refine lv_iconst (pc := 38) (v := (1 : Int32)) hx hb dX6_bin_38 (by decide) ?_
    refine callVi (pc := 39) (rest := []) (c1 := 0) (s1 := 0) cx hw hl (metX6_fail l D cI cZ ad H.size A V_1 (1 : Int32) _ h) (fun hts => cwV 1 hts gX6_bin_X6_fail rfl rfl rfl (by decide +kernel) ⟨Nat.le_of_ble_eq_true rfl, Nat.le_of_ble_eq_true rfl⟩) SUB.rf [0, 1] rfl 0 (ci := 6) rfl rfl rfl (JN.rf) rfl rfl (Nat.le_of_ble_eq_true rfl) ⟨Nat.le_of_ble_eq_true rfl, Nat.le_of_ble_eq_true rfl⟩ rfl rfl dX6_bin_39 (fun r6 u H locs h hw => ?_)
    obtain ⟨A_9, V_10⟩ := u
    exact hret 42 _ _ (A_9, V_10) _ _ rfl dX6_bin_42 h hw
  · have h := h.2 c5
    refine lv_iload_n (pc := 19) hx hb dX6_bin_19 rfl (lv_at hl 2 rfl) ?_
    refine lv_iconst (pc := 20) (v := (0 : Int32)) hx hb dX6_bin_20 (by decide) ?_
    refine lv_iconst (pc := 21) (v := (4 : Int32)) hx hb dX6_bin_21 (by decide) ?_
    refine callSi (pc := 22) (rest := []) (c1 := 0) (s1 := 0) cx hw hl (metX6_isIn l D [] H.size x2 (0 : Int32) (4 : Int32) _ h) (fun hts => va_cwS 3 hts gX6_bin_X6_isIn rfl rfl rfl (by decide +kernel) ⟨Nat.le_of_ble_eq_true rfl, Nat.le_of_ble_eq_true rfl⟩) SUB.nil [] rfl (JN.nil (S := Unit)) rfl rfl (Nat.le_of_ble_eq_true rfl) ⟨Nat.le_of_ble_eq_true rfl, Nat.le_of_ble_eq_true rfl⟩ rfl rfl dX6_bin_22 (fun r11 u H locs h hw => ?_)
    refine lv_if_eq (pc := 25) (tgt := 37) hx hb dX6_bin_25 (by decide) (fun c14 => ?_) (fun c14 => ?_)
    · have h := h.1 c14
      refine lv_aload_n (pc := 37) hx hb dX6_bin_37 rfl (lv_at hl 0 rfl) ?_
      refine lv_iconst (pc := 38) (v := (1 : Int32)) hx hb dX6_bin_38 (by decide) ?_
      refine callVi (pc := 39) (rest := []) (c1 := 0) (s1 := 0) cx hw hl (metX6_fail l D cI cZ ad H.size A V_1 (1 : Int32) _ h) (fun hts => cwV 1 hts gX6_bin_X6_fail rfl rfl rfl (by decide +kernel) ⟨Nat.le_of_ble_eq_true rfl, Nat.le_of_ble_eq_true rfl⟩) SUB.rf [0, 1] rfl 0 (ci := 6) rfl rfl rfl (JN.rf) rfl rfl (Nat.le_of_ble_eq_true rfl) ⟨Nat.le_of_ble_eq_true rfl, Nat.le_of_ble_eq_true rfl⟩ rfl rfl dX6_bin_39 (fun r15 u H locs h hw => ?_)
      obtain ⟨A_18, V_19⟩ := u
      exact hret 42 _ _ (A_18, V_19) _ _ rfl dX6_bin_42 h hw
    · have h := h.2 c14
      refine lv_aload_n (pc := 28) hx hb dX6_bin_28 rfl (lv_at hl 0 rfl) ?_
      refine lv_iload_n (pc := 29) hx hb dX6_bin_29 rfl (lv_at hl 1 rfl) ?_
      refine lv_iload_n (pc := 30) hx hb dX6_bin_30 rfl (lv_at hl 2 rfl) ?_
      refine callVi (pc := 31) (rest := []) (c1 := 0) (s1 := 0) cx hw hl (metX6_binTold l D cI cZ ad H.size A V_1 x1 x2 _ h) (fun hts => cwV 2 hts gX6_bin_X6_binTold rfl rfl rfl (by decide +kernel) ⟨Nat.le_of_ble_eq_true rfl, Nat.le_of_ble_eq_true rfl⟩) SUB.rf [0, 1] rfl 0 (ci := 6) rfl rfl rfl (JN.rf) rfl rfl (Nat.le_of_ble_eq_true rfl) ⟨Nat.le_of_ble_eq_true rfl, Nat.le_of_ble_eq_true rfl⟩ rfl rfl dX6_bin_31 (fun r20 u H locs h hw => ?_)
      obtain ⟨A_23, V_24⟩ := u
      refine lv_goto (pc := 34) (tgt := 42) hx hb dX6_bin_34 (by decide) ?_
      exact hret 42 _ _ (A_23, V_24) _ _ rfl dX6_bin_42 h hw
def wpX6_bin (A : SA) (V : SV) (x1 : Int32) (x2 : Int32) (Q : Int32 → SA → SV → Prop) : Prop := wb_X6_bin_0 Q A V x1 x2
set_option maxHeartbeats 4000000 in
set_option maxRecDepth 100000 in
theorem metX6_bin (l : Launch) (D : va_G) (cI cZ : ClassId) (ad : Nat → Nat) (sz : Nat) (A : SA) (V : SV) (x1 : Int32) (x2 : Int32) (Q : Int32 → SA → SV → Prop) (h : wpX6_bin A V x1 x2 Q) : Met l yX6_bin wsX6_bin rmX6_bin (PcW D [(cI, .int), (cZ, .boolean)] (wM ad cI cZ A V) sz [.ref (ad 0), .int x1, .int x2]) (QiW D [(cI, .int), (cZ, .boolean)] (wM ad cI cZ A V) sz (fun u : SA × SV => (wM ad cI cZ u.1 u.2)) (fun r u => Q r u.1 u.2)) rmX6_bin.cells rmX6_bin.slots (va_A (wM ad cI cZ A V) sz) := by
  refine startI (plainFor_of_name (by decide)) rfl (Nat.le_of_ble_eq_true rfl) ?_
  intro p e s m args below meth c A0 Z cx hw hret ls hl
  exact wk_X6_bin_0 Q cx hret A V x1 x2 h _ _ _ hw hl
abbrev rmX6_water : Room := { frames := 2, cells := 0, slots := 0, locals := 46 }
def wb_X6_water_101 (Q : SA → SV → Prop) (A : SA) (V : SV) (x1 : Int32) (t1 : Int32) (t2 : Int32) (t3 : Int32) : Prop := (wpX6_set A V t1 t2 t3 (fun A_67 V_68 => (wpX6_get A_67 V_68 x1 (6 : Int32) (fun r69 A_72 V_73 => ((¬ r69 = (3 : Int32) → Q A_72 V_73) ∧ (r69 = (3 : Int32) → (wpX6_leave A_72 V_73 x1 (2 : Int32) (fun r75 A_78 V_79 => Q A_78 V_79))))))))
set_option maxHeartbeats 4000000 in
set_option maxRecDepth 100000 in
theorem wk_X6_water_101 (Q : SA → SV → Prop) (cx : CX RX6 cX6_water 3 wsX6_water D [(cI, .int), (cZ, .boolean)] p s m args c A0) (hret : ∀ (pc : Nat) (ls : Array Slot) (u : SA × SV) (H : Heap) (locs : List Loc), decode cX6_water pc = .ok (.return_, 1) → Q u.1 u.2 → WS D s A0 (wM ad cI cZ u.1 u.2) H locs → W p l e rmX6_water s m args below meth c H locs rmX6_water.cells rmX6_water.slots Z (F0 m pc ls []))  : ∀ (A : SA) (V : SV) (x1 : Int32) (t1 : Int32) (t2 : Int32) (t3 : Int32) (h : wb_X6_water_101 Q A V x1 t1 t2 t3) (H : Heap) (locs : List Loc) (ls : Array Slot) (hw : WS D s A0 (wM ad cI cZ A V) H locs) (hl : lv_has ls 3 [(0, .ref (ad 0)), (1, .int x1)]), W p l e rmX6_water s m args below meth c H locs 0 0 Z (F0 m 101 ls [.int t3, .int t2, .int t1, .ref (ad 0)]) := by
  obtain ⟨hx, hb, hml, hown, hts, hK, hA⟩ := id cx
  intro A V x1 t1 t2 t3 h H locs ls hw hl
  refine callVv (pc := 101) (rest := []) (c1 := 0) (s1 := 0) cx hw hl (metX6_set l D cI cZ ad H.size A V t1 t2 t3 _ h) (fun hts => cwV 3 hts gX6_water_X6_set rfl rfl rfl (by decide +kernel) ⟨Nat.le_of_ble_eq_true rfl, Nat.le_of_ble_eq_true rfl⟩) SUB.rf [0, 1] rfl 0 (ci := 6) rfl rfl rfl (JN.rf) rfl rfl (Nat.le_of_ble_eq_true rfl) ⟨Nat.le_of_ble_eq_true rfl, Nat.le_of_ble_eq_true rfl⟩ rfl rfl dX6_water_101 (fun u H locs h hw => ?_)
  obtain ⟨A_67, V_68⟩ := u
  refine lv_aload_n (pc := 104) hx hb dX6_water_104 rfl (lv_at hl 0 rfl) ?_
  refine lv_iload_n (pc := 105) hx hb dX6_water_105 rfl (lv_at hl 1 rfl) ?_
  refine lv_bipush (pc := 106) (v := (6 : Int32)) hx hb dX6_water_106 (by decide) ?_
  refine callVi (pc := 108) (rest := []) (c1 := 0) (s1 := 0) cx hw hl (metX6_get l D cI cZ ad H.size A_67 V_68 x1 (6 : Int32) _ h) (fun hts => cwV 2 hts gX6_water_X6_get rfl rfl rfl (by decide +kernel) ⟨Nat.le_of_ble_eq_true rfl, Nat.le_of_ble_eq_true rfl⟩) SUB.rf [0, 1] rfl 0 (ci := 6) rfl rfl rfl (JN.rf) rfl rfl (Nat.le_of_ble_eq_true rfl) ⟨Nat.le_of_ble_eq_true rfl, Nat.le_of_ble_eq_true rfl⟩ rfl rfl dX6_water_108 (fun r69 u H locs h hw => ?_)
  obtain ⟨A_72, V_73⟩ := u
  refine lv_iconst (pc := 111) (v := (3 : Int32)) hx hb dX6_water_111 (by decide) ?_
  refine lv_icmp_ne (pc := 112) (tgt := 122) hx hb dX6_water_112 (by decide) (fun c74 => ?_) (fun c74 => ?_)
  · have h := h.1 c74
    exact hret 122 _ (A_72, V_73) _ _ dX6_water_122 h hw
  · have h := h.2 c74
    refine lv_aload_n (pc := 115) hx hb dX6_water_115 rfl (lv_at hl 0 rfl) ?_
    refine lv_iload_n (pc := 116) hx hb dX6_water_116 rfl (lv_at hl 1 rfl) ?_
    refine lv_iconst (pc := 117) (v := (2 : Int32)) hx hb dX6_water_117 (by decide) ?_
    refine callVi (pc := 118) (rest := []) (c1 := 0) (s1 := 0) cx hw hl (metX6_leave l D cI cZ ad H.size A_72 V_73 x1 (2 : Int32) _ h) (fun hts => cwV 2 hts gX6_water_X6_leave rfl rfl rfl (by decide +kernel) ⟨Nat.le_of_ble_eq_true rfl, Nat.le_of_ble_eq_true rfl⟩) SUB.rf [0, 1] rfl 0 (ci := 6) rfl rfl rfl (JN.rf) rfl rfl (Nat.le_of_ble_eq_true rfl) ⟨Nat.le_of_ble_eq_true rfl, Nat.le_of_ble_eq_true rfl⟩ rfl rfl dX6_water_118 (fun r75 u H locs h hw => ?_)
    obtain ⟨A_78, V_79⟩ := u
    refine lv_pop (pc := 121) hx hb dX6_water_121 rfl ?_
    exact hret 122 _ (A_78, V_79) _ _ dX6_water_122 h hw
def wb_X6_water_0 (Q : SA → SV → Prop) (A : SA) (V : SV) (x1 : Int32) (x2 : Int32) : Prop := (wpX6_get A V x1 (5 : Int32) (fun r1 A_4 V_5 => (wpX6_isUnder A_4 V_5 r1 x2 (fun r6 A_9 V_10 => ((¬ r6 = 0 → (wpX6_get A_9 V_10 x1 (4 : Int32) (fun r12 A_15 V_16 => (wpX6_get A_15 V_16 x1 (1 : Int32) (fun r17 A_20 V_21 => (¬ (3 : Int32) = 0 ∧ (wpX6_set A_20 V_21 x1 (4 : Int32) ((r12 + (1 : Int32)) + (r17 / (3 : Int32))) (fun A_25 V_26 => (wpX6_get A_25 V_26 x1 (4 : Int32) (fun r27 A_30 V_31 => (wpX6_get A_30 V_31 x1 (2 : Int32) (fun r32 A_35 V_36 => ((r27 < r32 → (wpX6_get A_35 V_36 x1 (0 : Int32) (fun r38 A_41 V_42 => (wpX6_one A_41 V_42 r38 (0 : Int32) (fun r43 A_46 V_47 => ((x2 < r43 → (wb_X6_water_101 Q A_46 V_47 x1 x1 (6 : Int32) (0 : Int32))) ∧ (¬ (x2 < r43) → (wpX6_get A_46 V_47 x1 (6 : Int32) (fun r49 A_52 V_53 => (wb_X6_water_101 Q A_52 V_53 x1 x1 (6 : Int32) (r49 + (1 : Int32)))))))))))) ∧ (¬ (r27 < r32) → (wpX6_leave A_35 V_36 x1 (3 : Int32) (fun r54 A_57 V_58 => Q A_57 V_58)))))))))))))))) ∧ (r6 = 0 → (wpX6_set A_9 V_10 x1 (6 : Int32) (0 : Int32) (fun A_62 V_63 => Q A_62 V_63))))))))
set_option maxHeartbeats 4000000 in
set_option maxRecDepth 100000 in
theorem wk_X6_water_0 (Q : SA → SV → Prop) (cx : CX RX6 cX6_water 3 wsX6_water D [(cI, .int), (cZ, .boolean)] p s m args c A0) (hret : ∀ (pc : Nat) (ls : Array Slot) (u : SA × SV) (H : Heap) (locs : List Loc), decode cX6_water pc = .ok (.return_, 1) → Q u.1 u.2 → WS D s A0 (wM ad cI cZ u.1 u.2) H locs → W p l e rmX6_water s m args below meth c H locs rmX6_water.cells rmX6_water.slots Z (F0 m pc ls []))  : ∀ (A : SA) (V : SV) (x1 : Int32) (x2 : Int32) (h : wb_X6_water_0 Q A V x1 x2) (H : Heap) (locs : List Loc) (ls : Array Slot) (hw : WS D s A0 (wM ad cI cZ A V) H locs) (hl : lv_has ls 3 [(0, .ref (ad 0)), (1, .int x1), (2, .int x2)]), W p l e rmX6_water s m args below meth c H locs 0 0 Z (F0 m 0 ls []) := by
  obtain ⟨hx, hb, hml, hown, hts, hK, hA⟩ := id cx
  intro A V x1 x2 h H locs ls hw hl
  refine lv_aload_n (pc := 0) hx hb dX6_water_0 rfl (lv_at hl 0 rfl) ?_
  refine lv_aload_n (pc := 1) hx hb dX6_water_1 rfl (lv_at hl 0 rfl) ?_
  refine lv_iload_n (pc := 2) hx hb dX6_water_2 rfl (lv_at hl 1 rfl) ?_
  refine lv_iconst (pc := 3) (v := (5 : Int32)) hx hb dX6_water_3 (by decide) ?_
  refine callVi (pc := 4) (rest := [.ref (ad 0)]) (c1 := 0) (s1 := 0) cx hw hl (metX6_get l D cI cZ ad H.size A V x1 (5 : Int32) _ h) (fun hts => cwV 2 hts gX6_water_X6_get rfl rfl rfl (by decide +kernel) ⟨Nat.le_of_ble_eq_true rfl, Nat.le_of_ble_eq_true rfl⟩) SUB.rf [0, 1] rfl 0 (ci := 6) rfl rfl rfl (JN.rf) rfl rfl (Nat.le_of_ble_eq_true rfl) ⟨Nat.le_of_ble_eq_true rfl, Nat.le_of_ble_eq_true rfl⟩ rfl rfl dX6_water_4 (fun r1 u H locs h hw => ?_)
  obtain ⟨A_4, V_5⟩ := u
  refine lv_iload_n (pc := 7) hx hb dX6_water_7 rfl (lv_at hl 2 rfl) ?_
  refine callVi (pc := 8) (rest := []) (c1 := 0) (s1 := 0) cx hw hl (metX6_isUnder l D cI cZ ad H.size A_4 V_5 r1 x2 _ h) (fun hts => cwV 2 hts gX6_water_X6_isUnder rfl rfl rfl (by decide +kernel) ⟨Nat.le_of_ble_eq_true rfl, Nat.le_of_ble_eq_true rfl⟩) SUB.rf [0, 1] rfl 0 (ci := 6) rfl rfl rfl (JN.rf) rfl rfl (Nat.le_of_ble_eq_true rfl) ⟨Nat.le_of_ble_eq_true rfl, Nat.le_of_ble_eq_true rfl⟩ rfl rfl dX6_water_8 (fun r6 u H locs h hw => ?_)
  obtain ⟨A_9, V_10⟩ := u
  refine lv_if_ne (pc := 11) (tgt := 23) hx hb dX6_water_11 (by decide) (fun c11 => ?_) (fun c11 => ?_)
  · have h := h.1 c11
    refine lv_aload_n (pc := 23) hx hb dX6_water_23 rfl (lv_at hl 0 rfl) ?_
    refine lv_iload_n (pc := 24) hx hb dX6_water_24 rfl (lv_at hl 1 rfl) ?_
    refine lv_iconst (pc := 25) (v := (4 : Int32)) hx hb dX6_water_25 (by decide) ?_
    refine lv_aload_n (pc := 26) hx hb dX6_water_26 rfl (lv_at hl 0 rfl) ?_
    refine lv_iload_n (pc := 27) hx hb dX6_water_27 rfl (lv_at hl 1 rfl) ?_
    refine lv_iconst (pc := 28) (v := (4 : Int32)) hx hb dX6_water_28 (by decide) ?_
    refine callVi (pc := 29) (rest := [.int (4 : Int32), .int x1, .ref (ad 0)]) (c1 := 0) (s1 := 0) cx hw hl (metX6_get l D cI cZ ad H.size A_9 V_10 x1 (4 : Int32) _ h) (fun hts => cwV 2 hts gX6_water_X6_get rfl rfl rfl (by decide +kernel) ⟨Nat.le_of_ble_eq_true rfl, Nat.le_of_ble_eq_true rfl⟩) SUB.rf [0, 1] rfl 0 (ci := 6) rfl rfl rfl (JN.rf) rfl rfl (Nat.le_of_ble_eq_true rfl) ⟨Nat.le_of_ble_eq_true rfl, Nat.le_of_ble_eq_true rfl⟩ rfl rfl dX6_water_29 (fun r12 u H locs h hw => ?_)
    obtain ⟨A_15, V_16⟩ := u
    refine lv_iconst (pc := 32) (v := (1 : Int32)) hx hb dX6_water_32 (by decide) ?_
    refine lv_iadd (pc := 33) hx hb dX6_water_33 ?_
    refine lv_aload_n (pc := 34) hx hb dX6_water_34 rfl (lv_at hl 0 rfl) ?_
    refine lv_iload_n (pc := 35) hx hb dX6_water_35 rfl (lv_at hl 1 rfl) ?_
    refine lv_iconst (pc := 36) (v := (1 : Int32)) hx hb dX6_water_36 (by decide) ?_
    refine callVi (pc := 37) (rest := [.int (r12 + (1 : Int32)), .int (4 : Int32), .int x1, .ref (ad 0)]) (c1 := 0) (s1 := 0) cx hw hl (metX6_get l D cI cZ ad H.size A_15 V_16 x1 (1 : Int32) _ h) (fun hts => cwV 2 hts gX6_water_X6_get rfl rfl rfl (by decide +kernel) ⟨Nat.le_of_ble_eq_true rfl, Nat.le_of_ble_eq_true rfl⟩) SUB.rf [0, 1] rfl 0 (ci := 6) rfl rfl rfl (JN.rf) rfl rfl (Nat.le_of_ble_eq_true rfl) ⟨Nat.le_of_ble_eq_true rfl, Nat.le_of_ble_eq_true rfl⟩ rfl rfl dX6_water_37 (fun r17 u H locs h hw => ?_)
    obtain ⟨A_20, V_21⟩ := u
    refine lv_iconst (pc := 40) (v := (3 : Int32)) hx hb dX6_water_40 (by decide) ?_
    refine lv_idiv (pc := 41) hx hb dX6_water_41 h.1 ?_
    have h := h.2
    refine lv_iadd (pc := 42) hx hb dX6_water_42 ?_
    refine callVv (pc := 43) (rest := []) (c1 := 0) (s1 := 0) cx hw hl (metX6_set l D cI cZ ad H.size A_20 V_21 x1 (4 : Int32) ((r12 + (1 : Int32)) + (r17 / (3 : Int32))) _ h) (fun hts => cwV 3 hts gX6_water_X6_set rfl rfl rfl (by decide +kernel) ⟨Nat.le_of_ble_eq_true rfl, Nat.le_of_ble_eq_true rfl⟩) SUB.rf [0, 1] rfl 0 (ci := 6) rfl rfl rfl (JN.rf) rfl rfl (Nat.le_of_ble_eq_true rfl) ⟨Nat.le_of_ble_eq_true rfl, Nat.le_of_ble_eq_true rfl⟩ rfl rfl dX6_water_43 (fun u H locs h hw => ?_)
    obtain ⟨A_25, V_26⟩ := u
    refine lv_aload_n (pc := 46) hx hb dX6_water_46 rfl (lv_at hl 0 rfl) ?_
    refine lv_iload_n (pc := 47) hx hb dX6_water_47 rfl (lv_at hl 1 rfl) ?_
    refine lv_iconst (pc := 48) (v := (4 : Int32)) hx hb dX6_water_48 (by decide) ?_
    refine callVi (pc := 49) (rest := []) (c1 := 0) (s1 := 0) cx hw hl (metX6_get l D cI cZ ad H.size A_25 V_26 x1 (4 : Int32) _ h) (fun hts => cwV 2 hts gX6_water_X6_get rfl rfl rfl (by decide +kernel) ⟨Nat.le_of_ble_eq_true rfl, Nat.le_of_ble_eq_true rfl⟩) SUB.rf [0, 1] rfl 0 (ci := 6) rfl rfl rfl (JN.rf) rfl rfl (Nat.le_of_ble_eq_true rfl) ⟨Nat.le_of_ble_eq_true rfl, Nat.le_of_ble_eq_true rfl⟩ rfl rfl dX6_water_49 (fun r27 u H locs h hw => ?_)
    obtain ⟨A_30, V_31⟩ := u
    refine lv_aload_n (pc := 52) hx hb dX6_water_52 rfl (lv_at hl 0 rfl) ?_
    refine lv_iload_n (pc := 53) hx hb dX6_water_53 rfl (lv_at hl 1 rfl) ?_
    refine lv_iconst (pc := 54) (v := (2 : Int32)) hx hb dX6_water_54 (by decide) ?_
    refine callVi (pc := 55) (rest := [.int r27]) (c1 := 0) (s1 := 0) cx hw hl (metX6_get l D cI cZ ad H.size A_30 V_31 x1 (2 : Int32) _ h) (fun hts => cwV 2 hts gX6_water_X6_get rfl rfl rfl (by decide +kernel) ⟨Nat.le_of_ble_eq_true rfl, Nat.le_of_ble_eq_true rfl⟩) SUB.rf [0, 1] rfl 0 (ci := 6) rfl rfl rfl (JN.rf) rfl rfl (Nat.le_of_ble_eq_true rfl) ⟨Nat.le_of_ble_eq_true rfl, Nat.le_of_ble_eq_true rfl⟩ rfl rfl dX6_water_55 (fun r32 u H locs h hw => ?_)
    obtain ⟨A_35, V_36⟩ := u
    refine lv_icmp_lt (pc := 58) (tgt := 69) hx hb dX6_water_58 (by decide) (fun c37 => ?_) (fun c37 => ?_)
    · have h := h.1 c37
      refine lv_aload_n (pc := 69) hx hb dX6_water_69 rfl (lv_at hl 0 rfl) ?_
      refine lv_iload_n (pc := 70) hx hb dX6_water_70 rfl (lv_at hl 1 rfl) ?_
      refine lv_bipush (pc := 71) (v := (6 : Int32)) hx hb dX6_water_71 (by decide) ?_
      refine lv_iload_n (pc := 73) hx hb dX6_water_73 rfl (lv_at hl 2 rfl) ?_
      refine lv_aload_n (pc := 74) hx hb dX6_water_74 rfl (lv_at hl 0 rfl) ?_
      refine lv_aload_n (pc := 75) hx hb dX6_water_75 rfl (lv_at hl 0 rfl) ?_
      refine lv_iload_n (pc := 76) hx hb dX6_water_76 rfl (lv_at hl 1 rfl) ?_
      refine lv_iconst (pc := 77) (v := (0 : Int32)) hx hb dX6_water_77 (by decide) ?_
      refine callVi (pc := 78) (rest := [.ref (ad 0), .int x2, .int (6 : Int32), .int x1, .ref (ad 0)]) (c1 := 0) (s1 := 0) cx hw hl (metX6_get l D cI cZ ad H.size A_35 V_36 x1 (0 : Int32) _ h) (fun hts => cwV 2 hts gX6_water_X6_get rfl rfl rfl (by decide +kernel) ⟨Nat.le_of_ble_eq_true rfl, Nat.le_of_ble_eq_true rfl⟩) SUB.rf [0, 1] rfl 0 (ci := 6) rfl rfl rfl (JN.rf) rfl rfl (Nat.le_of_ble_eq_true rfl) ⟨Nat.le_of_ble_eq_true rfl, Nat.le_of_ble_eq_true rfl⟩ rfl rfl dX6_water_78 (fun r38 u H locs h hw => ?_)
      obtain ⟨A_41, V_42⟩ := u
      refine lv_iconst (pc := 81) (v := (0 : Int32)) hx hb dX6_water_81 (by decide) ?_
      refine callVi (pc := 82) (rest := [.int x2, .int (6 : Int32), .int x1, .ref (ad 0)]) (c1 := 0) (s1 := 0) cx hw hl (metX6_one l D cI cZ ad H.size A_41 V_42 r38 (0 : Int32) _ h) (fun hts => cwV 2 hts gX6_water_X6_one rfl rfl rfl (by decide +kernel) ⟨Nat.le_of_ble_eq_true rfl, Nat.le_of_ble_eq_true rfl⟩) SUB.rf [0, 1] rfl 0 (ci := 6) rfl rfl rfl (JN.rf) rfl rfl (Nat.le_of_ble_eq_true rfl) ⟨Nat.le_of_ble_eq_true rfl, Nat.le_of_ble_eq_true rfl⟩ rfl rfl dX6_water_82 (fun r43 u H locs h hw => ?_)
      obtain ⟨A_46, V_47⟩ := u
      refine lv_icmp_lt (pc := 85) (tgt := 100) hx hb dX6_water_85 (by decide) (fun c48 => ?_) (fun c48 => ?_)
      · have h := h.1 c48
        refine lv_iconst (pc := 100) (v := (0 : Int32)) hx hb dX6_water_100 (by decide) ?_
        exact wk_X6_water_101 Q cx hret  A_46 V_47 x1 x1 (6 : Int32) (0 : Int32) h _ _ _ hw (lv_sub hl [0, 1] rfl)
      · have h := h.2 c48
        refine lv_aload_n (pc := 88) hx hb dX6_water_88 rfl (lv_at hl 0 rfl) ?_
        refine lv_iload_n (pc := 89) hx hb dX6_water_89 rfl (lv_at hl 1 rfl) ?_
        refine lv_bipush (pc := 90) (v := (6 : Int32)) hx hb dX6_water_90 (by decide) ?_
        refine callVi (pc := 92) (rest := [.int (6 : Int32), .int x1, .ref (ad 0)]) (c1 := 0) (s1 := 0) cx hw hl (metX6_get l D cI cZ ad H.size A_46 V_47 x1 (6 : Int32) _ h) (fun hts => cwV 2 hts gX6_water_X6_get rfl rfl rfl (by decide +kernel) ⟨Nat.le_of_ble_eq_true rfl, Nat.le_of_ble_eq_true rfl⟩) SUB.rf [0, 1] rfl 0 (ci := 6) rfl rfl rfl (JN.rf) rfl rfl (Nat.le_of_ble_eq_true rfl) ⟨Nat.le_of_ble_eq_true rfl, Nat.le_of_ble_eq_true rfl⟩ rfl rfl dX6_water_92 (fun r49 u H locs h hw => ?_)
        obtain ⟨A_52, V_53⟩ := u
        refine lv_iconst (pc := 95) (v := (1 : Int32)) hx hb dX6_water_95 (by decide) ?_
        refine lv_iadd (pc := 96) hx hb dX6_water_96 ?_
        refine lv_goto (pc := 97) (tgt := 101) hx hb dX6_water_97 (by decide) ?_
        exact wk_X6_water_101 Q cx hret  A_52 V_53 x1 x1 (6 : Int32) (r49 + (1 : Int32)) h _ _ _ hw (lv_sub hl [0, 1] rfl)
    · have h := h.2 c37
      refine lv_aload_n (pc := 61) hx hb dX6_water_61 rfl (lv_at hl 0 rfl) ?_
      refine lv_iload_n (pc := 62) hx hb dX6_water_62 rfl (lv_at hl 1 rfl) ?_
      refine lv_iconst (pc := 63) (v := (3 : Int32)) hx hb dX6_water_63 (by decide) ?_
      refine callVi (pc := 64) (rest := []) (c1 := 0) (s1 := 0) cx hw hl (metX6_leave l D cI cZ ad H.size A_35 V_36 x1 (3 : Int32) _ h) (fun hts => cwV 2 hts gX6_water_X6_leave rfl rfl rfl (by decide +kernel) ⟨Nat.le_of_ble_eq_true rfl, Nat.le_of_ble_eq_true rfl⟩) SUB.rf [0, 1] rfl 0 (ci := 6) rfl rfl rfl (JN.rf) rfl rfl (Nat.le_of_ble_eq_true rfl) ⟨Nat.le_of_ble_eq_true rfl, Nat.le_of_ble_eq_true rfl⟩ rfl rfl dX6_water_64 (fun r54 u H locs h hw => ?_)
      obtain ⟨A_57, V_58⟩ := u
      refine lv_pop (pc := 67) hx hb dX6_water_67 rfl ?_
      exact hret 68 _ (A_57, V_58) _ _ dX6_water_68 h hw
  · have h := h.2 c11
    refine lv_aload_n (pc := 14) hx hb dX6_water_14 rfl (lv_at hl 0 rfl) ?_
    refine lv_iload_n (pc := 15) hx hb dX6_water_15 rfl (lv_at hl 1 rfl) ?_
    refine lv_bipush (pc := 16) (v := (6 : Int32)) hx hb dX6_water_16 (by decide) ?_
    refine lv_iconst (pc := 18) (v := (0 : Int32)) hx hb dX6_water_18 (by decide) ?_
    refine callVv (pc := 19) (rest := []) (c1 := 0) (s1 := 0) cx hw hl (metX6_set l D cI cZ ad H.size A_9 V_10 x1 (6 : Int32) (0 : Int32) _ h) (fun hts => cwV 3 hts gX6_water_X6_set rfl rfl rfl (by decide +kernel) ⟨Nat.le_of_ble_eq_true rfl, Nat.le_of_ble_eq_true rfl⟩) SUB.rf [0, 1] rfl 0 (ci := 6) rfl rfl rfl (JN.rf) rfl rfl (Nat.le_of_ble_eq_true rfl) ⟨Nat.le_of_ble_eq_true rfl, Nat.le_of_ble_eq_true rfl⟩ rfl rfl dX6_water_19 (fun u H locs h hw => ?_)
    obtain ⟨A_62, V_63⟩ := u
    exact hret 22 _ (A_62, V_63) _ _ dX6_water_22 h hw
def wpX6_water (A : SA) (V : SV) (x1 : Int32) (x2 : Int32) (Q : SA → SV → Prop) : Prop := wb_X6_water_0 Q A V x1 x2
set_option maxHeartbeats 4000000 in
set_option maxRecDepth 100000 in
theorem metX6_water (l : Launch) (D : va_G) (cI cZ : ClassId) (ad : Nat → Nat) (sz : Nat) (A : SA) (V : SV) (x1 : Int32) (x2 : Int32) (Q : SA → SV → Prop) (h : wpX6_water A V x1 x2 Q) : Met l yX6_water wsX6_water rmX6_water (PcW D [(cI, .int), (cZ, .boolean)] (wM ad cI cZ A V) sz [.ref (ad 0), .int x1, .int x2]) (QvW D [(cI, .int), (cZ, .boolean)] (wM ad cI cZ A V) sz (fun u : SA × SV => (wM ad cI cZ u.1 u.2)) (fun u => Q u.1 u.2)) rmX6_water.cells rmX6_water.slots (va_A (wM ad cI cZ A V) sz) := by
  refine startV (plainFor_of_name (by decide)) rfl (Nat.le_of_ble_eq_true rfl) ?_
  intro p e s m args below meth c A0 Z cx hw hret ls hl
  exact wk_X6_water_0 Q cx hret A V x1 x2 h _ _ _ hw hl
abbrev rmX6_answer (g : Nat) : Room := { frames := 2, cells := g, slots := 9 * g, locals := 107 }
theorem inX6_answer_X6 : ∀ w ∈ wsX60, w ∈ wsX6_answer := by decide +kernel
theorem kX6_answer_20 : Cond.fieldLink RX6 20 "DrownedPostModel" "ones" "[I" ∈ wsX6_answer := by decide +kernel
theorem kX6_answer_70 : Cond.fieldLink RX6 70 "DrownedPostModel" "letters" "I" ∈ wsX6_answer := by decide +kernel
def wb_X6_answer_0 (Q : SA → SV → Prop) (g : Nat) (k0 : Nat) (A : SA) (V : SV) (x1 : Int32) : Prop := (wpX6_get A V x1 (0 : Int32) (fun r1 A_4 V_5 => (vp_in (((5 : Int32) * r1) + (3 : Int32)) 80 ∧ (vp_in (((5 : Int32) * r1) + (3 : Int32)) 80 ∧ (∀ A_6 : SA, A_6 = up A_4 2 (((5 : Int32) * r1) + (3 : Int32)).toNatClampNeg ((A_4 2 (((5 : Int32) * r1) + (3 : Int32)).toNatClampNeg) + (1 : Int32)) → (wpX6_one A_6 V_5 r1 (1 : Int32) (fun r7 A_10 V_11 => ((r7 = 0 → Q A_10 V_11) ∧ (¬ (r7 = 0) → (wpX6_one A_10 V_11 r1 (3 : Int32) (fun r13 A_16 V_17 => (wpX6_one A_16 V_17 r1 (1 : Int32) (fun r18 A_21 V_22 => (¬ r18 = 0 ∧ ((¬ (r13 - r13 / r18 * r18) = 0 → Q A_21 V_22) ∧ ((r13 - r13 / r18 * r18) = 0 → ((¬ (V_22 5) = (150 : Int32) → (wpX6_get A_21 V_22 x1 (1 : Int32) (fun r25 A_28 V_29 => (wpX6_get A_28 V_29 x1 (2 : Int32) (fun r30 A_33 V_34 => (wpX6_one A_33 V_34 r1 (2 : Int32) (fun r35 A_38 V_39 => (k0 + 1 ≤ g ∧ (wpX6_add A_38 V_39 r1 r25 r30 (4 : Int32) r35 x1 (fun A_43 V_44 => (vp_in (((5 : Int32) * r1) + (4 : Int32)) 80 ∧ (vp_in (((5 : Int32) * r1) + (4 : Int32)) 80 ∧ (∀ A_45 : SA, A_45 = up A_43 2 (((5 : Int32) * r1) + (4 : Int32)).toNatClampNeg ((A_43 2 (((5 : Int32) * r1) + (4 : Int32)).toNatClampNeg) + (1 : Int32)) → Q A_45 V_44))))))))))))) ∧ ((V_22 5) = (150 : Int32) → Q A_21 V_22))))))))))))))))))
set_option maxHeartbeats 4000000 in
set_option maxRecDepth 100000 in
theorem wk_X6_answer_0 (Q : SA → SV → Prop) (g : Nat) (cx : CX RX6 cX6_answer 3 wsX6_answer D [(cI, .int), (cZ, .boolean)] p s m args c A0) (hret : ∀ (pc : Nat) (ls : Array Slot) (u : SA × SV) (H : Heap) (locs : List Loc), decode cX6_answer pc = .ok (.return_, 1) → Q u.1 u.2 → WS D s A0 (wM ad cI cZ u.1 u.2) H locs → W p l e (rmX6_answer g) s m args below meth c H locs (rmX6_answer g).cells (rmX6_answer g).slots Z (F0 m pc ls []))  : ∀ (k0 : Nat) (A : SA) (V : SV) (x1 : Int32) (h : wb_X6_answer_0 Q g k0 A V x1) (hgc : k0 ≤ g) (H : Heap) (locs : List Loc) (ls : Array Slot) (hw : WS D s A0 (wM ad cI cZ A V) H locs) (hl : lv_has ls 3 [(0, .ref (ad 0)), (1, .int x1)]), W p l e (rmX6_answer g) s m args below meth c H locs k0 (9 * k0) Z (F0 m 0 ls []) := by
  obtain ⟨hx, hb, hml, hown, hts, hK, hA⟩ := id cx
  intro k0 A V x1 h hgc H locs ls hw hl
  refine lv_aload_n (pc := 0) hx hb dX6_answer_0 rfl (lv_at hl 0 rfl) ?_
  refine lv_iload_n (pc := 1) hx hb dX6_answer_1 rfl (lv_at hl 1 rfl) ?_
  refine lv_iconst (pc := 2) (v := (0 : Int32)) hx hb dX6_answer_2 (by decide) ?_
  refine callVi (pc := 3) (rest := []) (c1 := k0) (s1 := 9 * k0) cx hw hl (metX6_get l D cI cZ ad H.size A V x1 (0 : Int32) _ h) (fun hts => cwV 2 hts gX6_answer_X6_get rfl rfl rfl (by decide +kernel) ⟨Nat.le_of_ble_eq_true rfl, Nat.le_of_ble_eq_true rfl⟩) SUB.rf [0, 1] rfl 0 (ci := 6) rfl rfl rfl (JN.rf) rfl rfl (Nat.le_of_ble_eq_true rfl) ⟨hgc, gas0 hgc⟩ rfl rfl dX6_answer_3 (fun r1 u H locs h hw => ?_)
  obtain ⟨A_4, V_5⟩ := u
  refine lv_istore_n (pc := 6) (lv' := [(2, .int r1), (0, .ref (ad 0)), (1, .int x1)]) hx hb dX6_answer_6 rfl hl (by decide) rfl (fun ls hl => ?_)
  refine lv_aload_n (pc := 7) hx hb dX6_answer_7 rfl (lv_at hl 1 rfl) ?_
  refine geM_X6_7 (pc := 8) cx inX6_answer_X6 kX6_answer_20 hw dX6_answer_8 ?_
  refine lv_iconst (pc := 11) (v := (5 : Int32)) hx hb dX6_answer_11 (by decide) ?_
  refine lv_iload_n (pc := 12) hx hb dX6_answer_12 rfl (lv_at hl 0 rfl) ?_
  refine lv_imul (pc := 13) hx hb dX6_answer_13 ?_
  refine lv_iconst (pc := 14) (v := (3 : Int32)) hx hb dX6_answer_14 (by decide) ?_
  refine lv_iadd (pc := 15) hx hb dX6_answer_15 ?_
  refine lv_dup2_11 (pc := 16) hx hb dX6_answer_16 rfl rfl ?_
  refine alM_2 (pc := 17) cx hw h.1 dX6_answer_17 ?_
  have h := h.2
  refine lv_iconst (pc := 18) (v := (1 : Int32)) hx hb dX6_answer_18 (by decide) ?_
  refine lv_iadd (pc := 19) hx hb dX6_answer_19 ?_
  refine asM_2 (pc := 20) cx hw h.1 dX6_answer_20 (fun A_6 eA_6 H locs hw => ?_)
  have h := h.2 A_6 eA_6
  refine lv_aload_n (pc := 21) hx hb dX6_answer_21 rfl (lv_at hl 1 rfl) ?_
  refine lv_iload_n (pc := 22) hx hb dX6_answer_22 rfl (lv_at hl 0 rfl) ?_
  refine lv_iconst (pc := 23) (v := (1 : Int32)) hx hb dX6_answer_23 (by decide) ?_
  refine callVi (pc := 24) (rest := []) (c1 := k0) (s1 := 9 * k0) cx hw hl (metX6_one l D cI cZ ad H.size A_6 V_5 r1 (1 : Int32) _ h) (fun hts => cwV 2 hts gX6_answer_X6_one rfl rfl rfl (by decide +kernel) ⟨Nat.le_of_ble_eq_true rfl, Nat.le_of_ble_eq_true rfl⟩) SUB.rf [0, 1] rfl 0 (ci := 6) rfl rfl rfl (JN.rf) rfl rfl (Nat.le_of_ble_eq_true rfl) ⟨hgc, gas0 hgc⟩ rfl rfl dX6_answer_24 (fun r7 u H locs h hw => ?_)
  obtain ⟨A_10, V_11⟩ := u
  refine lv_if_eq (pc := 27) (tgt := 56) hx hb dX6_answer_27 (by decide) (fun c12 => ?_) (fun c12 => ?_)
  · have h := h.1 c12
    refine W.widen (k := g) (n := 9 * g) hgc (Nat.mul_le_mul_left 9 hgc) ?_
    exact hret 56 _ (A_10, V_11) _ _ dX6_answer_56 h hw
  · have h := h.2 c12
    refine lv_aload_n (pc := 30) hx hb dX6_answer_30 rfl (lv_at hl 1 rfl) ?_
    refine lv_iload_n (pc := 31) hx hb dX6_answer_31 rfl (lv_at hl 0 rfl) ?_
    refine lv_iconst (pc := 32) (v := (3 : Int32)) hx hb dX6_answer_32 (by decide) ?_
    refine callVi (pc := 33) (rest := []) (c1 := k0) (s1 := 9 * k0) cx hw hl (metX6_one l D cI cZ ad H.size A_10 V_11 r1 (3 : Int32) _ h) (fun hts => cwV 2 hts gX6_answer_X6_one rfl rfl rfl (by decide +kernel) ⟨Nat.le_of_ble_eq_true rfl, Nat.le_of_ble_eq_true rfl⟩) SUB.rf [0, 1] rfl 0 (ci := 6) rfl rfl rfl (JN.rf) rfl rfl (Nat.le_of_ble_eq_true rfl) ⟨hgc, gas0 hgc⟩ rfl rfl dX6_answer_33 (fun r13 u H locs h hw => ?_)
    obtain ⟨A_16, V_17⟩ := u
    refine lv_aload_n (pc := 36) hx hb dX6_answer_36 rfl (lv_at hl 1 rfl) ?_
    refine lv_iload_n (pc := 37) hx hb dX6_answer_37 rfl (lv_at hl 0 rfl) ?_
    refine lv_iconst (pc := 38) (v := (1 : Int32)) hx hb dX6_answer_38 (by decide) ?_
    refine callVi (pc := 39) (rest := [.int r13]) (c1 := k0) (s1 := 9 * k0) cx hw hl (metX6_one l D cI cZ ad H.size A_16 V_17 r1 (1 : Int32) _ h) (fun hts => cwV 2 hts gX6_answer_X6_one rfl rfl rfl (by decide +kernel) ⟨Nat.le_of_ble_eq_true rfl, Nat.le_of_ble_eq_true rfl⟩) SUB.rf [0, 1] rfl 0 (ci := 6) rfl rfl rfl (JN.rf) rfl rfl (Nat.le_of_ble_eq_true rfl) ⟨hgc, gas0 hgc⟩ rfl rfl dX6_answer_39 (fun r18 u H locs h hw => ?_)
    obtain ⟨A_21, V_22⟩ := u
    refine lv_irem (pc := 42) hx hb dX6_answer_42 h.1 ?_
    have h := h.2
    refine lv_if_ne (pc := 43) (tgt := 56) hx hb dX6_answer_43 (by decide) (fun c23 => ?_) (fun c23 => ?_)
    · have h := h.1 c23
      refine W.widen (k := g) (n := 9 * g) hgc (Nat.mul_le_mul_left 9 hgc) ?_
      exact hret 56 _ (A_21, V_22) _ _ dX6_answer_56 h hw
    · have h := h.2 c23
      refine lv_aload_n (pc := 46) hx hb dX6_answer_46 rfl (lv_at hl 1 rfl) ?_
      refine geM_X6_8 (pc := 47) cx inX6_answer_X6 kX6_answer_70 hw dX6_answer_47 ?_
      refine lv_sipush (pc := 50) (v := (150 : Int32)) hx hb dX6_answer_50 (by decide) ?_
      refine lv_icmp_ne (pc := 53) (tgt := 57) hx hb dX6_answer_53 (by decide) (fun c24 => ?_) (fun c24 => ?_)
      · have h := h.1 c24
        refine lv_aload_n (pc := 57) hx hb dX6_answer_57 rfl (lv_at hl 1 rfl) ?_
        refine lv_iload_n (pc := 58) hx hb dX6_answer_58 rfl (lv_at hl 0 rfl) ?_
        refine lv_aload_n (pc := 59) hx hb dX6_answer_59 rfl (lv_at hl 1 rfl) ?_
        refine lv_iload_n (pc := 60) hx hb dX6_answer_60 rfl (lv_at hl 2 rfl) ?_
        refine lv_iconst (pc := 61) (v := (1 : Int32)) hx hb dX6_answer_61 (by decide) ?_
        refine callVi (pc := 62) (rest := [.int r1, .ref (ad 0)]) (c1 := k0) (s1 := 9 * k0) cx hw hl (metX6_get l D cI cZ ad H.size A_21 V_22 x1 (1 : Int32) _ h) (fun hts => cwV 2 hts gX6_answer_X6_get rfl rfl rfl (by decide +kernel) ⟨Nat.le_of_ble_eq_true rfl, Nat.le_of_ble_eq_true rfl⟩) SUB.rf [0, 1] rfl 0 (ci := 6) rfl rfl rfl (JN.rf) rfl rfl (Nat.le_of_ble_eq_true rfl) ⟨hgc, gas0 hgc⟩ rfl rfl dX6_answer_62 (fun r25 u H locs h hw => ?_)
        obtain ⟨A_28, V_29⟩ := u
        refine lv_aload_n (pc := 65) hx hb dX6_answer_65 rfl (lv_at hl 1 rfl) ?_
        refine lv_iload_n (pc := 66) hx hb dX6_answer_66 rfl (lv_at hl 2 rfl) ?_
        refine lv_iconst (pc := 67) (v := (2 : Int32)) hx hb dX6_answer_67 (by decide) ?_
        refine callVi (pc := 68) (rest := [.int r25, .int r1, .ref (ad 0)]) (c1 := k0) (s1 := 9 * k0) cx hw hl (metX6_get l D cI cZ ad H.size A_28 V_29 x1 (2 : Int32) _ h) (fun hts => cwV 2 hts gX6_answer_X6_get rfl rfl rfl (by decide +kernel) ⟨Nat.le_of_ble_eq_true rfl, Nat.le_of_ble_eq_true rfl⟩) SUB.rf [0, 1] rfl 0 (ci := 6) rfl rfl rfl (JN.rf) rfl rfl (Nat.le_of_ble_eq_true rfl) ⟨hgc, gas0 hgc⟩ rfl rfl dX6_answer_68 (fun r30 u H locs h hw => ?_)
        obtain ⟨A_33, V_34⟩ := u
        refine lv_iconst (pc := 71) (v := (4 : Int32)) hx hb dX6_answer_71 (by decide) ?_
        refine lv_aload_n (pc := 72) hx hb dX6_answer_72 rfl (lv_at hl 1 rfl) ?_
        refine lv_iload_n (pc := 73) hx hb dX6_answer_73 rfl (lv_at hl 0 rfl) ?_
        refine lv_iconst (pc := 74) (v := (2 : Int32)) hx hb dX6_answer_74 (by decide) ?_
        refine callVi (pc := 75) (rest := [.int (4 : Int32), .int r30, .int r25, .int r1, .ref (ad 0)]) (c1 := k0) (s1 := 9 * k0) cx hw hl (metX6_one l D cI cZ ad H.size A_33 V_34 r1 (2 : Int32) _ h) (fun hts => cwV 2 hts gX6_answer_X6_one rfl rfl rfl (by decide +kernel) ⟨Nat.le_of_ble_eq_true rfl, Nat.le_of_ble_eq_true rfl⟩) SUB.rf [0, 1] rfl 0 (ci := 6) rfl rfl rfl (JN.rf) rfl rfl (Nat.le_of_ble_eq_true rfl) ⟨hgc, gas0 hgc⟩ rfl rfl dX6_answer_75 (fun r35 u H locs h hw => ?_)
        obtain ⟨A_38, V_39⟩ := u
        refine lv_iload_n (pc := 78) hx hb dX6_answer_78 rfl (lv_at hl 2 rfl) ?_
        obtain ⟨hg, h⟩ := h
        refine callVv (pc := 79) (rest := []) (c1 := (k0 + 1)) (s1 := 9 * (k0 + 1)) cx hw hl (metX6_add l D cI cZ ad H.size A_38 V_39 r1 r25 r30 (4 : Int32) r35 x1 _ h) (fun hts => cwV 6 hts gX6_answer_X6_add rfl rfl rfl (by decide +kernel) ⟨Nat.le_of_ble_eq_true rfl, Nat.le_of_ble_eq_true rfl⟩) SUB.rf [0, 1] rfl 0 (ci := 6) rfl rfl rfl (JN.rf) rfl rfl (Nat.le_of_ble_eq_true rfl) ⟨hg, gas2 hg⟩ rfl rfl dX6_answer_79 (fun u H locs h hw => ?_)
        obtain ⟨A_43, V_44⟩ := u
        have hgc := hg
        refine lv_aload_n (pc := 82) hx hb dX6_answer_82 rfl (lv_at hl 1 rfl) ?_
        refine geM_X6_7 (pc := 83) cx inX6_answer_X6 kX6_answer_20 hw dX6_answer_83 ?_
        refine lv_iconst (pc := 86) (v := (5 : Int32)) hx hb dX6_answer_86 (by decide) ?_
        refine lv_iload_n (pc := 87) hx hb dX6_answer_87 rfl (lv_at hl 0 rfl) ?_
        refine lv_imul (pc := 88) hx hb dX6_answer_88 ?_
        refine lv_iconst (pc := 89) (v := (4 : Int32)) hx hb dX6_answer_89 (by decide) ?_
        refine lv_iadd (pc := 90) hx hb dX6_answer_90 ?_
        refine lv_dup2_11 (pc := 91) hx hb dX6_answer_91 rfl rfl ?_
        refine alM_2 (pc := 92) cx hw h.1 dX6_answer_92 ?_
        have h := h.2
        refine lv_iconst (pc := 93) (v := (1 : Int32)) hx hb dX6_answer_93 (by decide) ?_
        refine lv_iadd (pc := 94) hx hb dX6_answer_94 ?_
        refine asM_2 (pc := 95) cx hw h.1 dX6_answer_95 (fun A_45 eA_45 H locs hw => ?_)
        have h := h.2 A_45 eA_45
        refine W.widen (k := g) (n := 9 * g) hgc (Nat.mul_le_mul_left 9 hgc) ?_
        exact hret 96 _ (A_45, V_44) _ _ dX6_answer_96 h hw
      · have h := h.2 c24
        refine W.widen (k := g) (n := 9 * g) hgc (Nat.mul_le_mul_left 9 hgc) ?_
        exact hret 56 _ (A_21, V_22) _ _ dX6_answer_56 h hw
def wpX6_answer (g : Nat) (A : SA) (V : SV) (x1 : Int32) (Q : SA → SV → Prop) : Prop := wb_X6_answer_0 Q g 0 A V x1
set_option maxHeartbeats 4000000 in
set_option maxRecDepth 100000 in
theorem metX6_answer (l : Launch) (D : va_G) (cI cZ : ClassId) (ad : Nat → Nat) (sz : Nat) (g : Nat) (A : SA) (V : SV) (x1 : Int32) (Q : SA → SV → Prop) (h : wpX6_answer g A V x1 Q) : Met l yX6_answer wsX6_answer (rmX6_answer g) (PcW D [(cI, .int), (cZ, .boolean)] (wM ad cI cZ A V) sz [.ref (ad 0), .int x1]) (QvW D [(cI, .int), (cZ, .boolean)] (wM ad cI cZ A V) sz (fun u : SA × SV => (wM ad cI cZ u.1 u.2)) (fun u => Q u.1 u.2)) (rmX6_answer g).cells (rmX6_answer g).slots (va_A (wM ad cI cZ A V) sz) := by
  refine startV (plainFor_of_name (by decide)) rfl (Nat.le_of_ble_eq_true rfl) ?_
  intro p e s m args below meth c A0 Z cx hw hret ls hl
  exact wk_X6_answer_0 Q g cx hret 0 A V x1 h (Nat.zero_le _) _ _ _ hw hl
abbrev rmX6_scrape : Room := { frames := 2, cells := 0, slots := 0, locals := 80 }
theorem inX6_scrape_X6 : ∀ w ∈ wsX60, w ∈ wsX6_scrape := by decide +kernel
theorem kX6_scrape_115 : Cond.methodLink RX6 115 Lib.Math.max.name ∈ wsX6_scrape := by decide +kernel
theorem kX6_scrape_26 : Cond.fieldLink RX6 26 "DrownedPostModel" "scrapers" "I" ∈ wsX6_scrape := by decide +kernel
theorem kX6_scrape_38 : Cond.fieldLink RX6 38 "DrownedPostModel" "was" "[Z" ∈ wsX6_scrape := by decide +kernel
theorem kX6_scrape_70 : Cond.fieldLink RX6 70 "DrownedPostModel" "letters" "I" ∈ wsX6_scrape := by decide +kernel
theorem kX6_scrape_w_code_Lib_Math_max_name_Lib_Math_max_code_2__some__int_ : Cond.code Lib.Math.max.name Lib.Math.max.code 2 (some .int) ∈ wsX6_scrape := by decide +kernel
theorem kX6_scrape_w_initialized__java_lang_Math_ : Cond.initialized "java/lang/Math" ∈ wsX6_scrape := by decide +kernel
theorem kX6_scrape_w_static_Lib_Math_max_name : Cond.static Lib.Math.max.name ∈ wsX6_scrape := by decide +kernel
def wl_X6_scrape_74 (Q : SA → SV → Prop) (K61 : SA → SV → Int32 → Prop) : Nat → SA → SV → Int32 → Int32 → Int32 → Prop
  | 0, _, _, _, _, _ => False
  | n + 1, A, V, x2, x3, x4 => (((V 5) ≤ x4 → ((¬ x3 = (-1 : Int32) → (vp_in x3 150 ∧ (∀ A_32 : SA, A_32 = up A 6 x3.toNatClampNeg (vp_nar .boolean (1 : Int32)) → (wpX6_get A_32 V x3 (4 : Int32) (fun r33 A_36 V_37 => (wpX6_set A_36 V_37 x3 (4 : Int32) (if (0 : Int32) < r33 - (2 : Int32) then r33 - (2 : Int32) else (0 : Int32)) (fun A_41 V_42 => K61 A_41 V_42 (x2 + 1)))))))) ∧ (x3 = (-1 : Int32) → Q A V))) ∧ (¬ ((V 5) ≤ x4) → (vp_in x4 150 ∧ ((¬ (A 6 x4.toNatClampNeg) = 0 → wl_X6_scrape_74 Q K61 n A V x2 x3 (x4 + 1)) ∧ ((A 6 x4.toNatClampNeg) = 0 → ((x3 = (-1 : Int32) → wl_X6_scrape_74 Q K61 n A V x2 x4 (x4 + 1)) ∧ (¬ (x3 = (-1 : Int32)) → (wpX6_get A V x4 (4 : Int32) (fun r45 A_48 V_49 => (wpX6_get A_48 V_49 x3 (4 : Int32) (fun r50 A_53 V_54 => ((r45 ≤ r50 → wl_X6_scrape_74 Q K61 n A_53 V_54 x2 x3 (x4 + 1)) ∧ (¬ (r45 ≤ r50) → wl_X6_scrape_74 Q K61 n A_53 V_54 x2 x4 (x4 + 1))))))))))))))
set_option maxHeartbeats 4000000 in
set_option maxRecDepth 100000 in
theorem wk_X6_scrape_74 (Q : SA → SV → Prop) (K61 : SA → SV → Int32 → Prop) (cx : CX RX6 cX6_scrape 5 wsX6_scrape D [(cI, .int), (cZ, .boolean)] p s m args c A0) (hret : ∀ (pc : Nat) (ls : Array Slot) (u : SA × SV) (H : Heap) (locs : List Loc), decode cX6_scrape pc = .ok (.return_, 1) → Q u.1 u.2 → WS D s A0 (wM ad cI cZ u.1 u.2) H locs → W p l e rmX6_scrape s m args below meth c H locs rmX6_scrape.cells rmX6_scrape.slots Z (F0 m pc ls [])) (hK61 : ∀ (A : SA) (V : SV) (x2 : Int32) (h : K61 A V x2) (H : Heap) (locs : List Loc) (ls : Array Slot) (hw : WS D s A0 (wM ad cI cZ A V) H locs) (hl : lv_has ls 5 [(0, .ref (ad 0)), (2, .int x2)]), W p l e rmX6_scrape s m args below meth c H locs 0 0 Z (F0 m 61 ls [])) : ∀ (n : Nat) (A : SA) (V : SV) (x2 : Int32) (x3 : Int32) (x4 : Int32) (h : wl_X6_scrape_74 Q K61 n A V x2 x3 x4) (H : Heap) (locs : List Loc) (ls : Array Slot) (hw : WS D s A0 (wM ad cI cZ A V) H locs) (hl : lv_has ls 5 [(0, .ref (ad 0)), (2, .int x2), (3, .int x3), (4, .int x4)]), W p l e rmX6_scrape s m args below meth c H locs 0 0 Z (F0 m 74 ls []) := by
  obtain ⟨hx, hb, hml, hown, hts, hK, hA⟩ := id cx
  intro n
  induction n with
  | zero => intro A V x2 x3 x4 h; exact False.elim h
  | succ n ih =>
    intro A V x2 x3 x4 h H locs ls hw hl
    refine lv_iload (pc := 74) hx hb dX6_scrape_74 (lv_at hl 3 rfl) ?_
    refine lv_aload_n (pc := 76) hx hb dX6_scrape_76 rfl (lv_at hl 0 rfl) ?_
    refine geM_X6_8 (pc := 77) cx inX6_scrape_X6 kX6_scrape_70 hw dX6_scrape_77 ?_
    refine lv_icmp_ge (pc := 80) (tgt := 123) hx hb dX6_scrape_80 (by decide) (fun c30 => ?_) (fun c30 => ?_)
    · have h := h.1 c30
      refine lv_iload_n (pc := 123) hx hb dX6_scrape_123 rfl (lv_at hl 2 rfl) ?_
      refine lv_iconst (pc := 124) (v := (-1 : Int32)) hx hb dX6_scrape_124 (by decide) ?_
      refine lv_icmp_ne (pc := 125) (tgt := 129) hx hb dX6_scrape_125 (by decide) (fun c31 => ?_) (fun c31 => ?_)
      · have h := h.1 c31
        refine lv_aload_n (pc := 129) hx hb dX6_scrape_129 rfl (lv_at hl 0 rfl) ?_
        refine geM_X6_14 (pc := 130) cx inX6_scrape_X6 kX6_scrape_38 hw dX6_scrape_130 ?_
        refine lv_iload_n (pc := 133) hx hb dX6_scrape_133 rfl (lv_at hl 2 rfl) ?_
        refine lv_iconst (pc := 134) (v := (1 : Int32)) hx hb dX6_scrape_134 (by decide) ?_
        refine asM_6 (pc := 135) cx hw h.1 dX6_scrape_135 (fun A_32 eA_32 H locs hw => ?_)
        have h := h.2 A_32 eA_32
        refine lv_aload_n (pc := 136) hx hb dX6_scrape_136 rfl (lv_at hl 0 rfl) ?_
        refine lv_iload_n (pc := 137) hx hb dX6_scrape_137 rfl (lv_at hl 2 rfl) ?_
        refine lv_iconst (pc := 138) (v := (4 : Int32)) hx hb dX6_scrape_138 (by decide) ?_
        refine lv_iconst (pc := 139) (v := (0 : Int32)) hx hb dX6_scrape_139 (by decide) ?_
        refine lv_aload_n (pc := 140) hx hb dX6_scrape_140 rfl (lv_at hl 0 rfl) ?_
        refine lv_iload_n (pc := 141) hx hb dX6_scrape_141 rfl (lv_at hl 2 rfl) ?_
        refine lv_iconst (pc := 142) (v := (4 : Int32)) hx hb dX6_scrape_142 (by decide) ?_
        refine callVi (pc := 143) (rest := [.int (0 : Int32), .int (4 : Int32), .int x3, .ref (ad 0)]) (c1 := 0) (s1 := 0) cx hw hl (metX6_get l D cI cZ ad H.size A_32 V x3 (4 : Int32) _ h) (fun hts => cwV 2 hts gX6_scrape_X6_get rfl rfl rfl (by decide +kernel) ⟨Nat.le_of_ble_eq_true rfl, Nat.le_of_ble_eq_true rfl⟩) SUB.rf [0, 1] rfl 0 (ci := 6) rfl rfl rfl (JN.rf) rfl rfl (Nat.le_of_ble_eq_true rfl) ⟨Nat.le_of_ble_eq_true rfl, Nat.le_of_ble_eq_true rfl⟩ rfl rfl dX6_scrape_143 (fun r33 u H locs h hw => ?_)
        obtain ⟨A_36, V_37⟩ := u
        refine lv_iconst (pc := 146) (v := (2 : Int32)) hx hb dX6_scrape_146 (by decide) ?_
        refine lv_isub (pc := 147) hx hb dX6_scrape_147 ?_
        refine va_mmax (pc := 148) hx hb (hml.trans hl.1.symm) hown (hts _ kX6_scrape_115) (hts _ kX6_scrape_w_static_Lib_Math_max_name) (hts _ kX6_scrape_w_initialized__java_lang_Math_) (hts _ kX6_scrape_w_code_Lib_Math_max_name_Lib_Math_max_code_2__some__int_) (Nat.le_of_ble_eq_true rfl) (Nat.le_of_ble_eq_true rfl) (Nat.le_of_ble_eq_true rfl) (Nat.le_of_ble_eq_true rfl) dX6_scrape_148 ?_
        refine callVv (pc := 151) (rest := []) (c1 := 0) (s1 := 0) cx hw hl (metX6_set l D cI cZ ad H.size A_36 V_37 x3 (4 : Int32) (if (0 : Int32) < r33 - (2 : Int32) then r33 - (2 : Int32) else (0 : Int32)) _ h) (fun hts => cwV 3 hts gX6_scrape_X6_set rfl rfl rfl (by decide +kernel) ⟨Nat.le_of_ble_eq_true rfl, Nat.le_of_ble_eq_true rfl⟩) SUB.rf [0, 1] rfl 0 (ci := 6) rfl rfl rfl (JN.rf) rfl rfl (Nat.le_of_ble_eq_true rfl) ⟨Nat.le_of_ble_eq_true rfl, Nat.le_of_ble_eq_true rfl⟩ rfl rfl dX6_scrape_151 (fun u H locs h hw => ?_)
        obtain ⟨A_41, V_42⟩ := u
        refine lv_iinc (pc := 154) (v := x2 + 1) (lv' := [(2, .int (x2 + 1)), (0, .ref (ad 0)), (3, .int x3), (4, .int x4)]) hx hb dX6_scrape_154 hl (k := 1) rfl rfl (by decide) rfl (fun ls hl => ?_)
        refine lv_goto (pc := 157) (tgt := 61) hx hb dX6_scrape_157 (by decide) ?_
        exact hK61 A_41 V_42 (x2 + 1) h _ _ _ hw (lv_sub hl [1, 0] rfl)
      · have h := h.2 c31
        exact hret 128 _ (A, V) _ _ dX6_scrape_128 h hw
    · have h := h.2 c30
      refine lv_aload_n (pc := 83) hx hb dX6_scrape_83 rfl (lv_at hl 0 rfl) ?_
      refine geM_X6_14 (pc := 84) cx inX6_scrape_X6 kX6_scrape_38 hw dX6_scrape_84 ?_
      refine lv_iload (pc := 87) hx hb dX6_scrape_87 (lv_at hl 3 rfl) ?_
      refine alM_6 (pc := 89) cx hw h.1 dX6_scrape_89 ?_
      have h := h.2
      refine lv_if_ne (pc := 90) (tgt := 117) hx hb dX6_scrape_90 (by decide) (fun c43 => ?_) (fun c43 => ?_)
      · have h := h.1 c43
        refine lv_iinc (pc := 117) (v := x4 + 1) (lv' := [(4, .int (x4 + 1)), (0, .ref (ad 0)), (2, .int x2), (3, .int x3)]) hx hb dX6_scrape_117 hl (k := 3) rfl rfl (by decide) rfl (fun ls hl => ?_)
        refine lv_goto (pc := 120) (tgt := 74) hx hb dX6_scrape_120 (by decide) ?_
        exact ih A V x2 x3 (x4 + 1) h _ _ _ hw (lv_sub hl [1, 2, 3, 0] rfl)
      · have h := h.2 c43
        refine lv_iload_n (pc := 93) hx hb dX6_scrape_93 rfl (lv_at hl 2 rfl) ?_
        refine lv_iconst (pc := 94) (v := (-1 : Int32)) hx hb dX6_scrape_94 (by decide) ?_
        refine lv_icmp_eq (pc := 95) (tgt := 114) hx hb dX6_scrape_95 (by decide) (fun c44 => ?_) (fun c44 => ?_)
        · have h := h.1 c44
          refine lv_iload (pc := 114) hx hb dX6_scrape_114 (lv_at hl 3 rfl) ?_
          refine lv_istore_n (pc := 116) (lv' := [(3, .int x4), (0, .ref (ad 0)), (2, .int x2), (4, .int x4)]) hx hb dX6_scrape_116 rfl hl (by decide) rfl (fun ls hl => ?_)
          refine lv_iinc (pc := 117) (v := x4 + 1) (lv' := [(4, .int (x4 + 1)), (3, .int x4), (0, .ref (ad 0)), (2, .int x2)]) hx hb dX6_scrape_117 hl (k := 3) rfl rfl (by decide) rfl (fun ls hl => ?_)
          refine lv_goto (pc := 120) (tgt := 74) hx hb dX6_scrape_120 (by decide) ?_
          exact ih A V x2 x4 (x4 + 1) h _ _ _ hw (lv_sub hl [2, 3, 1, 0] rfl)
        · have h := h.2 c44
          refine lv_aload_n (pc := 98) hx hb dX6_scrape_98 rfl (lv_at hl 0 rfl) ?_
          refine lv_iload (pc := 99) hx hb dX6_scrape_99 (lv_at hl 3 rfl) ?_
          refine lv_iconst (pc := 101) (v := (4 : Int32)) hx hb dX6_scrape_101 (by decide) ?_
          refine callVi (pc := 102) (rest := []) (c1 := 0) (s1 := 0) cx hw hl (metX6_get l D cI cZ ad H.size A V x4 (4 : Int32) _ h) (fun hts => cwV 2 hts gX6_scrape_X6_get rfl rfl rfl (by decide +kernel) ⟨Nat.le_of_ble_eq_true rfl, Nat.le_of_ble_eq_true rfl⟩) SUB.rf [0, 1] rfl 0 (ci := 6) rfl rfl rfl (JN.rf) rfl rfl (Nat.le_of_ble_eq_true rfl) ⟨Nat.le_of_ble_eq_true rfl, Nat.le_of_ble_eq_true rfl⟩ rfl rfl dX6_scrape_102 (fun r45 u H locs h hw => ?_)
          obtain ⟨A_48, V_49⟩ := u
          refine lv_aload_n (pc := 105) hx hb dX6_scrape_105 rfl (lv_at hl 0 rfl) ?_
          refine lv_iload_n (pc := 106) hx hb dX6_scrape_106 rfl (lv_at hl 2 rfl) ?_
          refine lv_iconst (pc := 107) (v := (4 : Int32)) hx hb dX6_scrape_107 (by decide) ?_
          refine callVi (pc := 108) (rest := [.int r45]) (c1 := 0) (s1 := 0) cx hw hl (metX6_get l D cI cZ ad H.size A_48 V_49 x3 (4 : Int32) _ h) (fun hts => cwV 2 hts gX6_scrape_X6_get rfl rfl rfl (by decide +kernel) ⟨Nat.le_of_ble_eq_true rfl, Nat.le_of_ble_eq_true rfl⟩) SUB.rf [0, 1] rfl 0 (ci := 6) rfl rfl rfl (JN.rf) rfl rfl (Nat.le_of_ble_eq_true rfl) ⟨Nat.le_of_ble_eq_true rfl, Nat.le_of_ble_eq_true rfl⟩ rfl rfl dX6_scrape_108 (fun r50 u H locs h hw => ?_)
          obtain ⟨A_53, V_54⟩ := u
          refine lv_icmp_le (pc := 111) (tgt := 117) hx hb dX6_scrape_111 (by decide) (fun c55 => ?_) (fun c55 => ?_)
          · have h := h.1 c55
            refine lv_iinc (pc := 117) (v := x4 + 1) (lv' := [(4, .int (x4 + 1)), (0, .ref (ad 0)), (2, .int x2), (3, .int x3)]) hx hb dX6_scrape_117 hl (k := 3) rfl rfl (by decide) rfl (fun ls hl => ?_)
            refine lv_goto (pc := 120) (tgt := 74) hx hb dX6_scrape_120 (by decide) ?_
            exact ih A_53 V_54 x2 x3 (x4 + 1) h _ _ _ hw (lv_sub hl [1, 2, 3, 0] rfl)
          · have h := h.2 c55
            refine lv_iload (pc := 114) hx hb dX6_scrape_114 (lv_at hl 3 rfl) ?_
            refine lv_istore_n (pc := 116) (lv' := [(3, .int x4), (0, .ref (ad 0)), (2, .int x2), (4, .int x4)]) hx hb dX6_scrape_116 rfl hl (by decide) rfl (fun ls hl => ?_)
            refine lv_iinc (pc := 117) (v := x4 + 1) (lv' := [(4, .int (x4 + 1)), (3, .int x4), (0, .ref (ad 0)), (2, .int x2)]) hx hb dX6_scrape_117 hl (k := 3) rfl rfl (by decide) rfl (fun ls hl => ?_)
            refine lv_goto (pc := 120) (tgt := 74) hx hb dX6_scrape_120 (by decide) ?_
            exact ih A_53 V_54 x2 x4 (x4 + 1) h _ _ _ hw (lv_sub hl [2, 3, 1, 0] rfl)
def wl_X6_scrape_61 (Q : SA → SV → Prop) : Nat → SA → SV → Int32 → Prop
  | 0, _, _, _ => False
  | n + 1, A, V, x2 => (((V 6) ≤ x2 → Q A V) ∧ (¬ ((V 6) ≤ x2) → (∃ n74 : Nat, wl_X6_scrape_74 Q (wl_X6_scrape_61 Q n) n74 A V x2 (-1 : Int32) (0 : Int32))))
set_option maxHeartbeats 4000000 in
set_option maxRecDepth 100000 in
theorem wk_X6_scrape_61 (Q : SA → SV → Prop) (cx : CX RX6 cX6_scrape 5 wsX6_scrape D [(cI, .int), (cZ, .boolean)] p s m args c A0) (hret : ∀ (pc : Nat) (ls : Array Slot) (u : SA × SV) (H : Heap) (locs : List Loc), decode cX6_scrape pc = .ok (.return_, 1) → Q u.1 u.2 → WS D s A0 (wM ad cI cZ u.1 u.2) H locs → W p l e rmX6_scrape s m args below meth c H locs rmX6_scrape.cells rmX6_scrape.slots Z (F0 m pc ls []))  : ∀ (n : Nat) (A : SA) (V : SV) (x2 : Int32) (h : wl_X6_scrape_61 Q n A V x2) (H : Heap) (locs : List Loc) (ls : Array Slot) (hw : WS D s A0 (wM ad cI cZ A V) H locs) (hl : lv_has ls 5 [(0, .ref (ad 0)), (2, .int x2)]), W p l e rmX6_scrape s m args below meth c H locs 0 0 Z (F0 m 61 ls []) := by
  obtain ⟨hx, hb, hml, hown, hts, hK, hA⟩ := id cx
  intro n
  induction n with
  | zero => intro A V x2 h; exact False.elim h
  | succ n ih =>
    intro A V x2 h H locs ls hw hl
    refine lv_iload_n (pc := 61) hx hb dX6_scrape_61 rfl (lv_at hl 1 rfl) ?_
    refine lv_aload_n (pc := 62) hx hb dX6_scrape_62 rfl (lv_at hl 0 rfl) ?_
    refine geM_X6_10 (pc := 63) cx inX6_scrape_X6 kX6_scrape_26 hw dX6_scrape_63 ?_
    refine lv_icmp_ge (pc := 66) (tgt := 160) hx hb dX6_scrape_66 (by decide) (fun c29 => ?_) (fun c29 => ?_)
    · have h := h.1 c29
      exact hret 160 _ (A, V) _ _ dX6_scrape_160 h hw
    · have h := h.2 c29
      refine lv_iconst (pc := 69) (v := (-1 : Int32)) hx hb dX6_scrape_69 (by decide) ?_
      refine lv_istore_n (pc := 70) (lv' := [(3, .int (-1 : Int32)), (0, .ref (ad 0)), (2, .int x2)]) hx hb dX6_scrape_70 rfl hl (by decide) rfl (fun ls hl => ?_)
      refine lv_iconst (pc := 71) (v := (0 : Int32)) hx hb dX6_scrape_71 (by decide) ?_
      refine lv_istore (pc := 72) (lv' := [(4, .int (0 : Int32)), (3, .int (-1 : Int32)), (0, .ref (ad 0)), (2, .int x2)]) hx hb dX6_scrape_72 hl (by decide) rfl (fun ls hl => ?_)
      obtain ⟨n74, h⟩ := h
      exact wk_X6_scrape_74 Q (wl_X6_scrape_61 Q n) cx hret ih n74 A V x2 (-1 : Int32) (0 : Int32) h _ _ _ hw (lv_sub hl [2, 3, 1, 0] rfl)
def wl_X6_scrape_2 (Q : SA → SV → Prop) : Nat → SA → SV → Int32 → Int32 → Prop
  | 0, _, _, _, _ => False
  | n + 1, A, V, x1, x2 => (((V 5) ≤ x2 → (∃ n61 : Nat, wl_X6_scrape_61 Q n61 A V (0 : Int32))) ∧ (¬ ((V 5) ≤ x2) → (wpX6_isIn_ A V x2 (1 : Int32) (fun r2 A_5 V_6 => ((r2 = 0 → (vp_in x2 150 ∧ (∀ A_8 : SA, A_8 = up A_5 6 x2.toNatClampNeg (vp_nar .boolean (1 : Int32)) → wl_X6_scrape_2 Q n A_8 V_6 x1 (x2 + 1)))) ∧ (¬ (r2 = 0) → (wpX6_get A_5 V_6 x2 (5 : Int32) (fun r9 A_12 V_13 => (wpX6_isUnder A_12 V_13 r9 x1 (fun r14 A_17 V_18 => ((¬ r14 = 0 → (vp_in x2 150 ∧ (∀ A_20 : SA, A_20 = up A_17 6 x2.toNatClampNeg (vp_nar .boolean (1 : Int32)) → wl_X6_scrape_2 Q n A_20 V_18 x1 (x2 + 1)))) ∧ (r14 = 0 → (wpX6_get A_17 V_18 x2 (4 : Int32) (fun r21 A_24 V_25 => ((¬ r21 = 0 → (vp_in x2 150 ∧ (∀ A_27 : SA, A_27 = up A_24 6 x2.toNatClampNeg (vp_nar .boolean (0 : Int32)) → wl_X6_scrape_2 Q n A_27 V_25 x1 (x2 + 1)))) ∧ (r21 = 0 → (vp_in x2 150 ∧ (∀ A_28 : SA, A_28 = up A_24 6 x2.toNatClampNeg (vp_nar .boolean (1 : Int32)) → wl_X6_scrape_2 Q n A_28 V_25 x1 (x2 + 1)))))))))))))))))))
set_option maxHeartbeats 4000000 in
set_option maxRecDepth 100000 in
theorem wk_X6_scrape_2 (Q : SA → SV → Prop) (cx : CX RX6 cX6_scrape 5 wsX6_scrape D [(cI, .int), (cZ, .boolean)] p s m args c A0) (hret : ∀ (pc : Nat) (ls : Array Slot) (u : SA × SV) (H : Heap) (locs : List Loc), decode cX6_scrape pc = .ok (.return_, 1) → Q u.1 u.2 → WS D s A0 (wM ad cI cZ u.1 u.2) H locs → W p l e rmX6_scrape s m args below meth c H locs rmX6_scrape.cells rmX6_scrape.slots Z (F0 m pc ls []))  : ∀ (n : Nat) (A : SA) (V : SV) (x1 : Int32) (x2 : Int32) (h : wl_X6_scrape_2 Q n A V x1 x2) (H : Heap) (locs : List Loc) (ls : Array Slot) (hw : WS D s A0 (wM ad cI cZ A V) H locs) (hl : lv_has ls 5 [(0, .ref (ad 0)), (1, .int x1), (2, .int x2)]), W p l e rmX6_scrape s m args below meth c H locs 0 0 Z (F0 m 2 ls []) := by
  obtain ⟨hx, hb, hml, hown, hts, hK, hA⟩ := id cx
  intro n
  induction n with
  | zero => intro A V x1 x2 h; exact False.elim h
  | succ n ih =>
    intro A V x1 x2 h H locs ls hw hl
    refine lv_iload_n (pc := 2) hx hb dX6_scrape_2 rfl (lv_at hl 2 rfl) ?_
    refine lv_aload_n (pc := 3) hx hb dX6_scrape_3 rfl (lv_at hl 0 rfl) ?_
    refine geM_X6_8 (pc := 4) cx inX6_scrape_X6 kX6_scrape_70 hw dX6_scrape_4 ?_
    refine lv_icmp_ge (pc := 7) (tgt := 59) hx hb dX6_scrape_7 (by decide) (fun c1 => ?_) (fun c1 => ?_)
    · have h := h.1 c1
      refine lv_iconst (pc := 59) (v := (0 : Int32)) hx hb dX6_scrape_59 (by decide) ?_
      refine lv_istore_n (pc := 60) (lv' := [(2, .int (0 : Int32)), (0, .ref (ad 0)), (1, .int x1)]) hx hb dX6_scrape_60 rfl hl (by decide) rfl (fun ls hl => ?_)
      obtain ⟨n61, h⟩ := h
      exact wk_X6_scrape_61 Q cx hret  n61 A V (0 : Int32) h _ _ _ hw (lv_sub hl [1, 0] rfl)
    · have h := h.2 c1
      refine lv_aload_n (pc := 10) hx hb dX6_scrape_10 rfl (lv_at hl 0 rfl) ?_
      refine geM_X6_14 (pc := 11) cx inX6_scrape_X6 kX6_scrape_38 hw dX6_scrape_11 ?_
      refine lv_iload_n (pc := 14) hx hb dX6_scrape_14 rfl (lv_at hl 2 rfl) ?_
      refine lv_aload_n (pc := 15) hx hb dX6_scrape_15 rfl (lv_at hl 0 rfl) ?_
      refine lv_iload_n (pc := 16) hx hb dX6_scrape_16 rfl (lv_at hl 2 rfl) ?_
      refine lv_iconst (pc := 17) (v := (1 : Int32)) hx hb dX6_scrape_17 (by decide) ?_
      refine callVi (pc := 18) (rest := [.int x2, .ref (ad 7)]) (c1 := 0) (s1 := 0) cx hw hl (metX6_isIn_ l D cI cZ ad H.size A V x2 (1 : Int32) _ h) (fun hts => cwV 2 hts gX6_scrape_X6_isIn_ rfl rfl rfl (by decide +kernel) ⟨Nat.le_of_ble_eq_true rfl, Nat.le_of_ble_eq_true rfl⟩) SUB.rf [0, 1] rfl 0 (ci := 6) rfl rfl rfl (JN.rf) rfl rfl (Nat.le_of_ble_eq_true rfl) ⟨Nat.le_of_ble_eq_true rfl, Nat.le_of_ble_eq_true rfl⟩ rfl rfl dX6_scrape_18 (fun r2 u H locs h hw => ?_)
      obtain ⟨A_5, V_6⟩ := u
      refine lv_if_eq (pc := 21) (tgt := 47) hx hb dX6_scrape_21 (by decide) (fun c7 => ?_) (fun c7 => ?_)
      · have h := h.1 c7
        refine lv_iconst (pc := 47) (v := (1 : Int32)) hx hb dX6_scrape_47 (by decide) ?_
        refine lv_goto (pc := 48) (tgt := 52) hx hb dX6_scrape_48 (by decide) ?_
        refine asM_6 (pc := 52) cx hw h.1 dX6_scrape_52 (fun A_8 eA_8 H locs hw => ?_)
        have h := h.2 A_8 eA_8
        refine lv_iinc (pc := 53) (v := x2 + 1) (lv' := [(2, .int (x2 + 1)), (0, .ref (ad 0)), (1, .int x1)]) hx hb dX6_scrape_53 hl (k := 2) rfl rfl (by decide) rfl (fun ls hl => ?_)
        refine lv_goto (pc := 56) (tgt := 2) hx hb dX6_scrape_56 (by decide) ?_
        exact ih A_8 V_6 x1 (x2 + 1) h _ _ _ hw (lv_sub hl [1, 2, 0] rfl)
      · have h := h.2 c7
        refine lv_aload_n (pc := 24) hx hb dX6_scrape_24 rfl (lv_at hl 0 rfl) ?_
        refine lv_aload_n (pc := 25) hx hb dX6_scrape_25 rfl (lv_at hl 0 rfl) ?_
        refine lv_iload_n (pc := 26) hx hb dX6_scrape_26 rfl (lv_at hl 2 rfl) ?_
        refine lv_iconst (pc := 27) (v := (5 : Int32)) hx hb dX6_scrape_27 (by decide) ?_
        refine callVi (pc := 28) (rest := [.ref (ad 0), .int x2, .ref (ad 7)]) (c1 := 0) (s1 := 0) cx hw hl (metX6_get l D cI cZ ad H.size A_5 V_6 x2 (5 : Int32) _ h) (fun hts => cwV 2 hts gX6_scrape_X6_get rfl rfl rfl (by decide +kernel) ⟨Nat.le_of_ble_eq_true rfl, Nat.le_of_ble_eq_true rfl⟩) SUB.rf [0, 1] rfl 0 (ci := 6) rfl rfl rfl (JN.rf) rfl rfl (Nat.le_of_ble_eq_true rfl) ⟨Nat.le_of_ble_eq_true rfl, Nat.le_of_ble_eq_true rfl⟩ rfl rfl dX6_scrape_28 (fun r9 u H locs h hw => ?_)
        obtain ⟨A_12, V_13⟩ := u
        refine lv_iload_n (pc := 31) hx hb dX6_scrape_31 rfl (lv_at hl 1 rfl) ?_
        refine callVi (pc := 32) (rest := [.int x2, .ref (ad 7)]) (c1 := 0) (s1 := 0) cx hw hl (metX6_isUnder l D cI cZ ad H.size A_12 V_13 r9 x1 _ h) (fun hts => cwV 2 hts gX6_scrape_X6_isUnder rfl rfl rfl (by decide +kernel) ⟨Nat.le_of_ble_eq_true rfl, Nat.le_of_ble_eq_true rfl⟩) SUB.rf [0, 1] rfl 0 (ci := 6) rfl rfl rfl (JN.rf) rfl rfl (Nat.le_of_ble_eq_true rfl) ⟨Nat.le_of_ble_eq_true rfl, Nat.le_of_ble_eq_true rfl⟩ rfl rfl dX6_scrape_32 (fun r14 u H locs h hw => ?_)
        obtain ⟨A_17, V_18⟩ := u
        refine lv_if_ne (pc := 35) (tgt := 47) hx hb dX6_scrape_35 (by decide) (fun c19 => ?_) (fun c19 => ?_)
        · have h := h.1 c19
          refine lv_iconst (pc := 47) (v := (1 : Int32)) hx hb dX6_scrape_47 (by decide) ?_
          refine lv_goto (pc := 48) (tgt := 52) hx hb dX6_scrape_48 (by decide) ?_
          refine asM_6 (pc := 52) cx hw h.1 dX6_scrape_52 (fun A_20 eA_20 H locs hw => ?_)
          have h := h.2 A_20 eA_20
          refine lv_iinc (pc := 53) (v := x2 + 1) (lv' := [(2, .int (x2 + 1)), (0, .ref (ad 0)), (1, .int x1)]) hx hb dX6_scrape_53 hl (k := 2) rfl rfl (by decide) rfl (fun ls hl => ?_)
          refine lv_goto (pc := 56) (tgt := 2) hx hb dX6_scrape_56 (by decide) ?_
          exact ih A_20 V_18 x1 (x2 + 1) h _ _ _ hw (lv_sub hl [1, 2, 0] rfl)
        · have h := h.2 c19
          refine lv_aload_n (pc := 38) hx hb dX6_scrape_38 rfl (lv_at hl 0 rfl) ?_
          refine lv_iload_n (pc := 39) hx hb dX6_scrape_39 rfl (lv_at hl 2 rfl) ?_
          refine lv_iconst (pc := 40) (v := (4 : Int32)) hx hb dX6_scrape_40 (by decide) ?_
          refine callVi (pc := 41) (rest := [.int x2, .ref (ad 7)]) (c1 := 0) (s1 := 0) cx hw hl (metX6_get l D cI cZ ad H.size A_17 V_18 x2 (4 : Int32) _ h) (fun hts => cwV 2 hts gX6_scrape_X6_get rfl rfl rfl (by decide +kernel) ⟨Nat.le_of_ble_eq_true rfl, Nat.le_of_ble_eq_true rfl⟩) SUB.rf [0, 1] rfl 0 (ci := 6) rfl rfl rfl (JN.rf) rfl rfl (Nat.le_of_ble_eq_true rfl) ⟨Nat.le_of_ble_eq_true rfl, Nat.le_of_ble_eq_true rfl⟩ rfl rfl dX6_scrape_41 (fun r21 u H locs h hw => ?_)
          obtain ⟨A_24, V_25⟩ := u
          refine lv_if_ne (pc := 44) (tgt := 51) hx hb dX6_scrape_44 (by decide) (fun c26 => ?_) (fun c26 => ?_)
          · have h := h.1 c26
            refine lv_iconst (pc := 51) (v := (0 : Int32)) hx hb dX6_scrape_51 (by decide) ?_
            refine asM_6 (pc := 52) cx hw h.1 dX6_scrape_52 (fun A_27 eA_27 H locs hw => ?_)
            have h := h.2 A_27 eA_27
            refine lv_iinc (pc := 53) (v := x2 + 1) (lv' := [(2, .int (x2 + 1)), (0, .ref (ad 0)), (1, .int x1)]) hx hb dX6_scrape_53 hl (k := 2) rfl rfl (by decide) rfl (fun ls hl => ?_)
            refine lv_goto (pc := 56) (tgt := 2) hx hb dX6_scrape_56 (by decide) ?_
            exact ih A_27 V_25 x1 (x2 + 1) h _ _ _ hw (lv_sub hl [1, 2, 0] rfl)
          · have h := h.2 c26
            refine lv_iconst (pc := 47) (v := (1 : Int32)) hx hb dX6_scrape_47 (by decide) ?_
            refine lv_goto (pc := 48) (tgt := 52) hx hb dX6_scrape_48 (by decide) ?_
            refine asM_6 (pc := 52) cx hw h.1 dX6_scrape_52 (fun A_28 eA_28 H locs hw => ?_)
            have h := h.2 A_28 eA_28
            refine lv_iinc (pc := 53) (v := x2 + 1) (lv' := [(2, .int (x2 + 1)), (0, .ref (ad 0)), (1, .int x1)]) hx hb dX6_scrape_53 hl (k := 2) rfl rfl (by decide) rfl (fun ls hl => ?_)
            refine lv_goto (pc := 56) (tgt := 2) hx hb dX6_scrape_56 (by decide) ?_
            exact ih A_28 V_25 x1 (x2 + 1) h _ _ _ hw (lv_sub hl [1, 2, 0] rfl)
def wb_X6_scrape_0 (Q : SA → SV → Prop) (A : SA) (V : SV) (x1 : Int32) : Prop := (∃ n2 : Nat, wl_X6_scrape_2 Q n2 A V x1 (0 : Int32))
set_option maxHeartbeats 4000000 in
set_option maxRecDepth 100000 in
theorem wk_X6_scrape_0 (Q : SA → SV → Prop) (cx : CX RX6 cX6_scrape 5 wsX6_scrape D [(cI, .int), (cZ, .boolean)] p s m args c A0) (hret : ∀ (pc : Nat) (ls : Array Slot) (u : SA × SV) (H : Heap) (locs : List Loc), decode cX6_scrape pc = .ok (.return_, 1) → Q u.1 u.2 → WS D s A0 (wM ad cI cZ u.1 u.2) H locs → W p l e rmX6_scrape s m args below meth c H locs rmX6_scrape.cells rmX6_scrape.slots Z (F0 m pc ls []))  : ∀ (A : SA) (V : SV) (x1 : Int32) (h : wb_X6_scrape_0 Q A V x1) (H : Heap) (locs : List Loc) (ls : Array Slot) (hw : WS D s A0 (wM ad cI cZ A V) H locs) (hl : lv_has ls 5 [(0, .ref (ad 0)), (1, .int x1)]), W p l e rmX6_scrape s m args below meth c H locs 0 0 Z (F0 m 0 ls []) := by
  obtain ⟨hx, hb, hml, hown, hts, hK, hA⟩ := id cx
  intro A V x1 h H locs ls hw hl
  refine lv_iconst (pc := 0) (v := (0 : Int32)) hx hb dX6_scrape_0 (by decide) ?_
  refine lv_istore_n (pc := 1) (lv' := [(2, .int (0 : Int32)), (0, .ref (ad 0)), (1, .int x1)]) hx hb dX6_scrape_1 rfl hl (by decide) rfl (fun ls hl => ?_)
  obtain ⟨n2, h⟩ := h
  exact wk_X6_scrape_2 Q cx hret  n2 A V x1 (0 : Int32) h _ _ _ hw (lv_sub hl [1, 2, 0] rfl)
def wpX6_scrape (A : SA) (V : SV) (x1 : Int32) (Q : SA → SV → Prop) : Prop := wb_X6_scrape_0 Q A V x1
set_option maxHeartbeats 4000000 in
set_option maxRecDepth 100000 in
theorem metX6_scrape (l : Launch) (D : va_G) (cI cZ : ClassId) (ad : Nat → Nat) (sz : Nat) (A : SA) (V : SV) (x1 : Int32) (Q : SA → SV → Prop) (h : wpX6_scrape A V x1 Q) : Met l yX6_scrape wsX6_scrape rmX6_scrape (PcW D [(cI, .int), (cZ, .boolean)] (wM ad cI cZ A V) sz [.ref (ad 0), .int x1]) (QvW D [(cI, .int), (cZ, .boolean)] (wM ad cI cZ A V) sz (fun u : SA × SV => (wM ad cI cZ u.1 u.2)) (fun u => Q u.1 u.2)) rmX6_scrape.cells rmX6_scrape.slots (va_A (wM ad cI cZ A V) sz) := by
  refine startV (plainFor_of_name (by decide)) rfl (Nat.le_of_ble_eq_true rfl) ?_
  intro p e s m args below meth c A0 Z cx hw hret ls hl
  exact wk_X6_scrape_0 Q cx hret A V x1 h _ _ _ hw hl
abbrev rmX6_binOf : Room := { frames := 3, cells := 0, slots := 0, locals := 80 }
theorem inX6_binOf_X6 : ∀ w ∈ wsX60, w ∈ wsX6_binOf := by decide +kernel
theorem kX6_binOf_120 : Cond.methodLink RX6 120 Lib.Math.abs.name ∈ wsX6_binOf := by decide +kernel
theorem kX6_binOf_17 : Cond.fieldLink RX6 17 "DrownedPostModel" "binTable" "[I" ∈ wsX6_binOf := by decide +kernel
theorem kX6_binOf_64 : Cond.fieldLink RX6 64 "DrownedPostModel" "bins" "I" ∈ wsX6_binOf := by decide +kernel
theorem kX6_binOf_w_code_Lib_Math_abs_name_Lib_Math_abs_code_1__some__int_ : Cond.code Lib.Math.abs.name Lib.Math.abs.code 1 (some .int) ∈ wsX6_binOf := by decide +kernel
theorem kX6_binOf_w_initialized__java_lang_Math_ : Cond.initialized "java/lang/Math" ∈ wsX6_binOf := by decide +kernel
theorem kX6_binOf_w_static_Lib_Math_abs_name : Cond.static Lib.Math.abs.name ∈ wsX6_binOf := by decide +kernel
def wb_X6_binOf_81 (Q : Int32 → SA → SV → Prop) (K4 : SA → SV → Int32 → Int32 → Int32 → Prop) (A : SA) (V : SV) (x1 : Int32) (x2 : Int32) (x3 : Int32) (x4 : Int32) (t0 : Int32) : Prop := ((x2 = (-1 : Int32) → K4 A V x1 x3 (x3 + 1)) ∧ (¬ (x2 = (-1 : Int32)) → ((x4 < t0 → K4 A V x1 x3 (x3 + 1)) ∧ (¬ (x4 < t0) → ((¬ x4 = t0 → K4 A V x1 x2 (x3 + 1)) ∧ (x4 = t0 → (vp_in ((2 : Int32) * x3) 20 ∧ (vp_in ((2 : Int32) * x2) 20 ∧ (((A 1 ((2 : Int32) * x2).toNatClampNeg) ≤ (A 1 ((2 : Int32) * x3).toNatClampNeg) → K4 A V x1 x2 (x3 + 1)) ∧ (¬ ((A 1 ((2 : Int32) * x2).toNatClampNeg) ≤ (A 1 ((2 : Int32) * x3).toNatClampNeg)) → K4 A V x1 x3 (x3 + 1)))))))))))
set_option maxHeartbeats 4000000 in
set_option maxRecDepth 100000 in
theorem wk_X6_binOf_81 (Q : Int32 → SA → SV → Prop) (K4 : SA → SV → Int32 → Int32 → Int32 → Prop) (cx : CX RX6 cX6_binOf 6 wsX6_binOf D [(cI, .int), (cZ, .boolean)] p s m args c A0) (hret : ∀ (pc : Nat) (ls : Array Slot) (r : Int32) (u : SA × SV) (H : Heap) (locs : List Loc), narrow .int (.int r) = .int r → decode cX6_binOf pc = .ok (.ireturn, 1) → Q r u.1 u.2 → WS D s A0 (wM ad cI cZ u.1 u.2) H locs → W p l e rmX6_binOf s m args below meth c H locs rmX6_binOf.cells rmX6_binOf.slots Z (F0 m pc ls [.int r])) (hK4 : ∀ (A : SA) (V : SV) (x1 : Int32) (x2 : Int32) (x3 : Int32) (h : K4 A V x1 x2 x3) (H : Heap) (locs : List Loc) (ls : Array Slot) (hw : WS D s A0 (wM ad cI cZ A V) H locs) (hl : lv_has ls 6 [(0, .ref (ad 0)), (1, .int x1), (2, .int x2), (3, .int x3)]), W p l e rmX6_binOf s m args below meth c H locs 0 0 Z (F0 m 4 ls [])) : ∀ (A : SA) (V : SV) (x1 : Int32) (x2 : Int32) (x3 : Int32) (x4 : Int32) (t0 : Int32) (h : wb_X6_binOf_81 Q K4 A V x1 x2 x3 x4 t0) (H : Heap) (locs : List Loc) (ls : Array Slot) (hw : WS D s A0 (wM ad cI cZ A V) H locs) (hl : lv_has ls 6 [(0, .ref (ad 0)), (1, .int x1), (2, .int x2), (3, .int x3), (4, .int x4)]), W p l e rmX6_binOf s m args below meth c H locs 0 0 Z (F0 m 81 ls [.int t0]) := by
  obtain ⟨hx, hb, hml, hown, hts, hK, hA⟩ := id cx
  intro A V x1 x2 x3 x4 t0 h H locs ls hw hl
  refine lv_istore (pc := 81) (lv' := [(5, .int t0), (0, .ref (ad 0)), (1, .int x1), (2, .int x2), (3, .int x3), (4, .int x4)]) hx hb dX6_binOf_81 hl (by decide) rfl (fun ls hl => ?_)
  refine lv_iload_n (pc := 83) hx hb dX6_binOf_83 rfl (lv_at hl 3 rfl) ?_
  refine lv_iconst (pc := 84) (v := (-1 : Int32)) hx hb dX6_binOf_84 (by decide) ?_
  refine lv_icmp_eq (pc := 85) (tgt := 121) hx hb dX6_binOf_85 (by decide) (fun c19 => ?_) (fun c19 => ?_)
  · have h := h.1 c19
    refine lv_iload_n (pc := 121) hx hb dX6_binOf_121 rfl (lv_at hl 4 rfl) ?_
    refine lv_istore_n (pc := 122) (lv' := [(2, .int x3), (5, .int t0), (0, .ref (ad 0)), (1, .int x1), (3, .int x3), (4, .int x4)]) hx hb dX6_binOf_122 rfl hl (by decide) rfl (fun ls hl => ?_)
    refine lv_iinc (pc := 123) (v := x3 + 1) (lv' := [(3, .int (x3 + 1)), (2, .int x3), (5, .int t0), (0, .ref (ad 0)), (1, .int x1), (4, .int x4)]) hx hb dX6_binOf_123 hl (k := 4) rfl rfl (by decide) rfl (fun ls hl => ?_)
    refine lv_goto (pc := 126) (tgt := 4) hx hb dX6_binOf_126 (by decide) ?_
    exact hK4 A V x1 x3 (x3 + 1) h _ _ _ hw (lv_sub hl [3, 4, 1, 0] rfl)
  · have h := h.2 c19
    refine lv_iload (pc := 88) hx hb dX6_binOf_88 (lv_at hl 5 rfl) ?_
    refine lv_iload (pc := 90) hx hb dX6_binOf_90 (lv_at hl 0 rfl) ?_
    refine lv_icmp_lt (pc := 92) (tgt := 121) hx hb dX6_binOf_92 (by decide) (fun c20 => ?_) (fun c20 => ?_)
    · have h := h.1 c20
      refine lv_iload_n (pc := 121) hx hb dX6_binOf_121 rfl (lv_at hl 4 rfl) ?_
      refine lv_istore_n (pc := 122) (lv' := [(2, .int x3), (5, .int t0), (0, .ref (ad 0)), (1, .int x1), (3, .int x3), (4, .int x4)]) hx hb dX6_binOf_122 rfl hl (by decide) rfl (fun ls hl => ?_)
      refine lv_iinc (pc := 123) (v := x3 + 1) (lv' := [(3, .int (x3 + 1)), (2, .int x3), (5, .int t0), (0, .ref (ad 0)), (1, .int x1), (4, .int x4)]) hx hb dX6_binOf_123 hl (k := 4) rfl rfl (by decide) rfl (fun ls hl => ?_)
      refine lv_goto (pc := 126) (tgt := 4) hx hb dX6_binOf_126 (by decide) ?_
      exact hK4 A V x1 x3 (x3 + 1) h _ _ _ hw (lv_sub hl [3, 4, 1, 0] rfl)
    · have h := h.2 c20
      refine lv_iload (pc := 95) hx hb dX6_binOf_95 (lv_at hl 5 rfl) ?_
      refine lv_iload (pc := 97) hx hb dX6_binOf_97 (lv_at hl 0 rfl) ?_
      refine lv_icmp_ne (pc := 99) (tgt := 123) hx hb dX6_binOf_99 (by decide) (fun c21 => ?_) (fun c21 => ?_)
      · have h := h.1 c21
        refine lv_iinc (pc := 123) (v := x3 + 1) (lv' := [(3, .int (x3 + 1)), (5, .int t0), (0, .ref (ad 0)), (1, .int x1), (2, .int x2), (4, .int x4)]) hx hb dX6_binOf_123 hl (k := 4) rfl rfl (by decide) rfl (fun ls hl => ?_)
        refine lv_goto (pc := 126) (tgt := 4) hx hb dX6_binOf_126 (by decide) ?_
        exact hK4 A V x1 x2 (x3 + 1) h _ _ _ hw (lv_sub hl [2, 3, 4, 0] rfl)
      · have h := h.2 c21
        refine lv_aload_n (pc := 102) hx hb dX6_binOf_102 rfl (lv_at hl 1 rfl) ?_
        refine geM_X6_5 (pc := 103) cx inX6_binOf_X6 kX6_binOf_17 hw dX6_binOf_103 ?_
        refine lv_iconst (pc := 106) (v := (2 : Int32)) hx hb dX6_binOf_106 (by decide) ?_
        refine lv_iload_n (pc := 107) hx hb dX6_binOf_107 rfl (lv_at hl 4 rfl) ?_
        refine lv_imul (pc := 108) hx hb dX6_binOf_108 ?_
        refine alM_1 (pc := 109) cx hw h.1 dX6_binOf_109 ?_
        have h := h.2
        refine lv_aload_n (pc := 110) hx hb dX6_binOf_110 rfl (lv_at hl 1 rfl) ?_
        refine geM_X6_5 (pc := 111) cx inX6_binOf_X6 kX6_binOf_17 hw dX6_binOf_111 ?_
        refine lv_iconst (pc := 114) (v := (2 : Int32)) hx hb dX6_binOf_114 (by decide) ?_
        refine lv_iload_n (pc := 115) hx hb dX6_binOf_115 rfl (lv_at hl 3 rfl) ?_
        refine lv_imul (pc := 116) hx hb dX6_binOf_116 ?_
        refine alM_1 (pc := 117) cx hw h.1 dX6_binOf_117 ?_
        have h := h.2
        refine lv_icmp_ge (pc := 118) (tgt := 123) hx hb dX6_binOf_118 (by decide) (fun c22 => ?_) (fun c22 => ?_)
        · have h := h.1 c22
          refine lv_iinc (pc := 123) (v := x3 + 1) (lv' := [(3, .int (x3 + 1)), (5, .int t0), (0, .ref (ad 0)), (1, .int x1), (2, .int x2), (4, .int x4)]) hx hb dX6_binOf_123 hl (k := 4) rfl rfl (by decide) rfl (fun ls hl => ?_)
          refine lv_goto (pc := 126) (tgt := 4) hx hb dX6_binOf_126 (by decide) ?_
          exact hK4 A V x1 x2 (x3 + 1) h _ _ _ hw (lv_sub hl [2, 3, 4, 0] rfl)
        · have h := h.2 c22
          refine lv_iload_n (pc := 121) hx hb dX6_binOf_121 rfl (lv_at hl 4 rfl) ?_
          refine lv_istore_n (pc := 122) (lv' := [(2, .int x3), (5, .int t0), (0, .ref (ad 0)), (1, .int x1), (3, .int x3), (4, .int x4)]) hx hb dX6_binOf_122 rfl hl (by decide) rfl (fun ls hl => ?_)
          refine lv_iinc (pc := 123) (v := x3 + 1) (lv' := [(3, .int (x3 + 1)), (2, .int x3), (5, .int t0), (0, .ref (ad 0)), (1, .int x1), (4, .int x4)]) hx hb dX6_binOf_123 hl (k := 4) rfl rfl (by decide) rfl (fun ls hl => ?_)
          refine lv_goto (pc := 126) (tgt := 4) hx hb dX6_binOf_126 (by decide) ?_
          exact hK4 A V x1 x3 (x3 + 1) h _ _ _ hw (lv_sub hl [3, 4, 1, 0] rfl)
def wl_X6_binOf_4 (Q : Int32 → SA → SV → Prop) : Nat → SA → SV → Int32 → Int32 → Int32 → Prop
  | 0, _, _, _, _, _ => False
  | n + 1, A, V, x1, x2, x3 => (((V 3) ≤ x3 → Q x2 A V) ∧ (¬ ((V 3) ≤ x3) → (wpX6_sumOf A V x3 (1 : Int32) (fun r2 A_5 V_6 => (vp_in (((2 : Int32) * x3) + (1 : Int32)) 20 ∧ ((¬ r2 = (A_5 1 (((2 : Int32) * x3) + (1 : Int32)).toNatClampNeg) → (vp_in ((2 : Int32) * x3) 20 ∧ (wpX6_one A_5 V_6 x1 (0 : Int32) (fun r8 A_11 V_12 => ((¬ x2 = (-1 : Int32) → (vp_in ((2 : Int32) * x2) 20 ∧ (wpX6_one A_11 V_12 x1 (0 : Int32) (fun r14 A_17 V_18 => (wb_X6_binOf_81 Q (wl_X6_binOf_4 Q n) A_17 V_18 x1 x2 x3 (if 0 ≤ (A_5 1 ((2 : Int32) * x3).toNatClampNeg) - r8 then (A_5 1 ((2 : Int32) * x3).toNatClampNeg) - r8 else 0 - ((A_5 1 ((2 : Int32) * x3).toNatClampNeg) - r8)) (if 0 ≤ (A_11 1 ((2 : Int32) * x2).toNatClampNeg) - r14 then (A_11 1 ((2 : Int32) * x2).toNatClampNeg) - r14 else 0 - ((A_11 1 ((2 : Int32) * x2).toNatClampNeg) - r14))))))) ∧ (x2 = (-1 : Int32) → (wb_X6_binOf_81 Q (wl_X6_binOf_4 Q n) A_11 V_12 x1 x2 x3 (if 0 ≤ (A_5 1 ((2 : Int32) * x3).toNatClampNeg) - r8 then (A_5 1 ((2 : Int32) * x3).toNatClampNeg) - r8 else 0 - ((A_5 1 ((2 : Int32) * x3).toNatClampNeg) - r8)) (0 : Int32)))))))) ∧ (r2 = (A_5 1 (((2 : Int32) * x3) + (1 : Int32)).toNatClampNeg) → wl_X6_binOf_4 Q n A_5 V_6 x1 x2 (x3 + 1))))))))
set_option maxHeartbeats 4000000 in
set_option maxRecDepth 100000 in
theorem wk_X6_binOf_4 (Q : Int32 → SA → SV → Prop) (cx : CX RX6 cX6_binOf 6 wsX6_binOf D [(cI, .int), (cZ, .boolean)] p s m args c A0) (hret : ∀ (pc : Nat) (ls : Array Slot) (r : Int32) (u : SA × SV) (H : Heap) (locs : List Loc), narrow .int (.int r) = .int r → decode cX6_binOf pc = .ok (.ireturn, 1) → Q r u.1 u.2 → WS D s A0 (wM ad cI cZ u.1 u.2) H locs → W p l e rmX6_binOf s m args below meth c H locs rmX6_binOf.cells rmX6_binOf.slots Z (F0 m pc ls [.int r]))  : ∀ (n : Nat) (A : SA) (V : SV) (x1 : Int32) (x2 : Int32) (x3 : Int32) (h : wl_X6_binOf_4 Q n A V x1 x2 x3) (H : Heap) (locs : List Loc) (ls : Array Slot) (hw : WS D s A0 (wM ad cI cZ A V) H locs) (hl : lv_has ls 6 [(0, .ref (ad 0)), (1, .int x1), (2, .int x2), (3, .int x3)]), W p l e rmX6_binOf s m args below meth c H locs 0 0 Z (F0 m 4 ls []) := by
  obtain ⟨hx, hb, hml, hown, hts, hK, hA⟩ := id cx
  intro n
  induction n with
  | zero => intro A V x1 x2 x3 h; exact False.elim h
  | succ n ih =>
    intro A V x1 x2 x3 h H locs ls hw hl
    refine lv_iload_n (pc := 4) hx hb dX6_binOf_4 rfl (lv_at hl 3 rfl) ?_
    refine lv_aload_n (pc := 5) hx hb dX6_binOf_5 rfl (lv_at hl 0 rfl) ?_
    refine geM_X6_4 (pc := 6) cx inX6_binOf_X6 kX6_binOf_64 hw dX6_binOf_6 ?_
    refine lv_icmp_ge (pc := 9) (tgt := 129) hx hb dX6_binOf_9 (by decide) (fun c1 => ?_) (fun c1 => ?_)
    · have h := h.1 c1
      refine lv_iload_n (pc := 129) hx hb dX6_binOf_129 rfl (lv_at hl 2 rfl) ?_
      exact hret 130 _ _ (A, V) _ _ rfl dX6_binOf_130 h hw
    · have h := h.2 c1
      refine lv_aload_n (pc := 12) hx hb dX6_binOf_12 rfl (lv_at hl 0 rfl) ?_
      refine lv_iload_n (pc := 13) hx hb dX6_binOf_13 rfl (lv_at hl 3 rfl) ?_
      refine lv_iconst (pc := 14) (v := (1 : Int32)) hx hb dX6_binOf_14 (by decide) ?_
      refine callVi (pc := 15) (rest := []) (c1 := 0) (s1 := 0) cx hw hl (metX6_sumOf l D cI cZ ad H.size A V x3 (1 : Int32) _ h) (fun hts => cwV 2 hts gX6_binOf_X6_sumOf rfl rfl rfl (by decide +kernel) ⟨Nat.le_of_ble_eq_true rfl, Nat.le_of_ble_eq_true rfl⟩) SUB.rf [0, 1] rfl 0 (ci := 6) rfl rfl rfl (JN.rf) rfl rfl (Nat.le_of_ble_eq_true rfl) ⟨Nat.le_of_ble_eq_true rfl, Nat.le_of_ble_eq_true rfl⟩ rfl rfl dX6_binOf_15 (fun r2 u H locs h hw => ?_)
      obtain ⟨A_5, V_6⟩ := u
      refine lv_aload_n (pc := 18) hx hb dX6_binOf_18 rfl (lv_at hl 0 rfl) ?_
      refine geM_X6_5 (pc := 19) cx inX6_binOf_X6 kX6_binOf_17 hw dX6_binOf_19 ?_
      refine lv_iconst (pc := 22) (v := (2 : Int32)) hx hb dX6_binOf_22 (by decide) ?_
      refine lv_iload_n (pc := 23) hx hb dX6_binOf_23 rfl (lv_at hl 3 rfl) ?_
      refine lv_imul (pc := 24) hx hb dX6_binOf_24 ?_
      refine lv_iconst (pc := 25) (v := (1 : Int32)) hx hb dX6_binOf_25 (by decide) ?_
      refine lv_iadd (pc := 26) hx hb dX6_binOf_26 ?_
      refine alM_1 (pc := 27) cx hw h.1 dX6_binOf_27 ?_
      have h := h.2
      refine lv_icmp_ne (pc := 28) (tgt := 34) hx hb dX6_binOf_28 (by decide) (fun c7 => ?_) (fun c7 => ?_)
      · have h := h.1 c7
        refine lv_aload_n (pc := 34) hx hb dX6_binOf_34 rfl (lv_at hl 0 rfl) ?_
        refine geM_X6_5 (pc := 35) cx inX6_binOf_X6 kX6_binOf_17 hw dX6_binOf_35 ?_
        refine lv_iconst (pc := 38) (v := (2 : Int32)) hx hb dX6_binOf_38 (by decide) ?_
        refine lv_iload_n (pc := 39) hx hb dX6_binOf_39 rfl (lv_at hl 3 rfl) ?_
        refine lv_imul (pc := 40) hx hb dX6_binOf_40 ?_
        refine alM_1 (pc := 41) cx hw h.1 dX6_binOf_41 ?_
        have h := h.2
        refine lv_aload_n (pc := 42) hx hb dX6_binOf_42 rfl (lv_at hl 0 rfl) ?_
        refine lv_iload_n (pc := 43) hx hb dX6_binOf_43 rfl (lv_at hl 1 rfl) ?_
        refine lv_iconst (pc := 44) (v := (0 : Int32)) hx hb dX6_binOf_44 (by decide) ?_
        refine callVi (pc := 45) (rest := [.int (A_5 1 ((2 : Int32) * x3).toNatClampNeg)]) (c1 := 0) (s1 := 0) cx hw hl (metX6_one l D cI cZ ad H.size A_5 V_6 x1 (0 : Int32) _ h) (fun hts => cwV 2 hts gX6_binOf_X6_one rfl rfl rfl (by decide +kernel) ⟨Nat.le_of_ble_eq_true rfl, Nat.le_of_ble_eq_true rfl⟩) SUB.rf [0, 1] rfl 0 (ci := 6) rfl rfl rfl (JN.rf) rfl rfl (Nat.le_of_ble_eq_true rfl) ⟨Nat.le_of_ble_eq_true rfl, Nat.le_of_ble_eq_true rfl⟩ rfl rfl dX6_binOf_45 (fun r8 u H locs h hw => ?_)
        obtain ⟨A_11, V_12⟩ := u
        refine lv_isub (pc := 48) hx hb dX6_binOf_48 ?_
        refine va_mabs (pc := 49) hx hb (hml.trans hl.1.symm) hown (hts _ kX6_binOf_120) (hts _ kX6_binOf_w_static_Lib_Math_abs_name) (hts _ kX6_binOf_w_initialized__java_lang_Math_) (hts _ kX6_binOf_w_code_Lib_Math_abs_name_Lib_Math_abs_code_1__some__int_) (Nat.le_of_ble_eq_true rfl) (Nat.le_of_ble_eq_true rfl) (Nat.le_of_ble_eq_true rfl) (Nat.le_of_ble_eq_true rfl) dX6_binOf_49 ?_
        refine lv_istore (pc := 52) (lv' := [(4, .int (if 0 ≤ (A_5 1 ((2 : Int32) * x3).toNatClampNeg) - r8 then (A_5 1 ((2 : Int32) * x3).toNatClampNeg) - r8 else 0 - ((A_5 1 ((2 : Int32) * x3).toNatClampNeg) - r8))), (0, .ref (ad 0)), (1, .int x1), (2, .int x2), (3, .int x3)]) hx hb dX6_binOf_52 hl (by decide) rfl (fun ls hl => ?_)
        refine lv_iload_n (pc := 54) hx hb dX6_binOf_54 rfl (lv_at hl 3 rfl) ?_
        refine lv_iconst (pc := 55) (v := (-1 : Int32)) hx hb dX6_binOf_55 (by decide) ?_
        refine lv_icmp_ne (pc := 56) (tgt := 63) hx hb dX6_binOf_56 (by decide) (fun c13 => ?_) (fun c13 => ?_)
        · have h := h.1 c13
          refine lv_aload_n (pc := 63) hx hb dX6_binOf_63 rfl (lv_at hl 1 rfl) ?_
          refine geM_X6_5 (pc := 64) cx inX6_binOf_X6 kX6_binOf_17 hw dX6_binOf_64 ?_
          refine lv_iconst (pc := 67) (v := (2 : Int32)) hx hb dX6_binOf_67 (by decide) ?_
          refine lv_iload_n (pc := 68) hx hb dX6_binOf_68 rfl (lv_at hl 3 rfl) ?_
          refine lv_imul (pc := 69) hx hb dX6_binOf_69 ?_
          refine alM_1 (pc := 70) cx hw h.1 dX6_binOf_70 ?_
          have h := h.2
          refine lv_aload_n (pc := 71) hx hb dX6_binOf_71 rfl (lv_at hl 1 rfl) ?_
          refine lv_iload_n (pc := 72) hx hb dX6_binOf_72 rfl (lv_at hl 2 rfl) ?_
          refine lv_iconst (pc := 73) (v := (0 : Int32)) hx hb dX6_binOf_73 (by decide) ?_
          refine callVi (pc := 74) (rest := [.int (A_11 1 ((2 : Int32) * x2).toNatClampNeg)]) (c1 := 0) (s1 := 0) cx hw hl (metX6_one l D cI cZ ad H.size A_11 V_12 x1 (0 : Int32) _ h) (fun hts => cwV 2 hts gX6_binOf_X6_one rfl rfl rfl (by decide +kernel) ⟨Nat.le_of_ble_eq_true rfl, Nat.le_of_ble_eq_true rfl⟩) SUB.rf [0, 1] rfl 0 (ci := 6) rfl rfl rfl (JN.rf) rfl rfl (Nat.le_of_ble_eq_true rfl) ⟨Nat.le_of_ble_eq_true rfl, Nat.le_of_ble_eq_true rfl⟩ rfl rfl dX6_binOf_74 (fun r14 u H locs h hw => ?_)
          obtain ⟨A_17, V_18⟩ := u
          refine lv_isub (pc := 77) hx hb dX6_binOf_77 ?_
          refine va_mabs (pc := 78) hx hb (hml.trans hl.1.symm) hown (hts _ kX6_binOf_120) (hts _ kX6_binOf_w_static_Lib_Math_abs_name) (hts _ kX6_binOf_w_initialized__java_lang_Math_) (hts _ kX6_binOf_w_code_Lib_Math_abs_name_Lib_Math_abs_code_1__some__int_) (Nat.le_of_ble_eq_true rfl) (Nat.le_of_ble_eq_true rfl) (Nat.le_of_ble_eq_true rfl) (Nat.le_of_ble_eq_true rfl) dX6_binOf_78 ?_
          exact wk_X6_binOf_81 Q (wl_X6_binOf_4 Q n) cx hret ih A_17 V_18 x1 x2 x3 (if 0 ≤ (A_5 1 ((2 : Int32) * x3).toNatClampNeg) - r8 then (A_5 1 ((2 : Int32) * x3).toNatClampNeg) - r8 else 0 - ((A_5 1 ((2 : Int32) * x3).toNatClampNeg) - r8)) (if 0 ≤ (A_11 1 ((2 : Int32) * x2).toNatClampNeg) - r14 then (A_11 1 ((2 : Int32) * x2).toNatClampNeg) - r14 else 0 - ((A_11 1 ((2 : Int32) * x2).toNatClampNeg) - r14)) h _ _ _ hw (lv_sub hl [1, 2, 3, 4, 0] rfl)
        · have h := h.2 c13
          refine lv_iconst (pc := 59) (v := (0 : Int32)) hx hb dX6_binOf_59 (by decide) ?_
          refine lv_goto (pc := 60) (tgt := 81) hx hb dX6_binOf_60 (by decide) ?_
          exact wk_X6_binOf_81 Q (wl_X6_binOf_4 Q n) cx hret ih A_11 V_12 x1 x2 x3 (if 0 ≤ (A_5 1 ((2 : Int32) * x3).toNatClampNeg) - r8 then (A_5 1 ((2 : Int32) * x3).toNatClampNeg) - r8 else 0 - ((A_5 1 ((2 : Int32) * x3).toNatClampNeg) - r8)) (0 : Int32) h _ _ _ hw (lv_sub hl [1, 2, 3, 4, 0] rfl)
      · have h := h.2 c7
        refine lv_goto (pc := 31) (tgt := 123) hx hb dX6_binOf_31 (by decide) ?_
        refine lv_iinc (pc := 123) (v := x3 + 1) (lv' := [(3, .int (x3 + 1)), (0, .ref (ad 0)), (1, .int x1), (2, .int x2)]) hx hb dX6_binOf_123 hl (k := 3) rfl rfl (by decide) rfl (fun ls hl => ?_)
        refine lv_goto (pc := 126) (tgt := 4) hx hb dX6_binOf_126 (by decide) ?_
        exact ih A_5 V_6 x1 x2 (x3 + 1) h _ _ _ hw (lv_sub hl [1, 2, 3, 0] rfl)
def wb_X6_binOf_0 (Q : Int32 → SA → SV → Prop) (A : SA) (V : SV) (x1 : Int32) : Prop := (∃ n4 : Nat, wl_X6_binOf_4 Q n4 A V x1 (-1 : Int32) (0 : Int32))
set_option maxHeartbeats 4000000 in
set_option maxRecDepth 100000 in
theorem wk_X6_binOf_0 (Q : Int32 → SA → SV → Prop) (cx : CX RX6 cX6_binOf 6 wsX6_binOf D [(cI, .int), (cZ, .boolean)] p s m args c A0) (hret : ∀ (pc : Nat) (ls : Array Slot) (r : Int32) (u : SA × SV) (H : Heap) (locs : List Loc), narrow .int (.int r) = .int r → decode cX6_binOf pc = .ok (.ireturn, 1) → Q r u.1 u.2 → WS D s A0 (wM ad cI cZ u.1 u.2) H locs → W p l e rmX6_binOf s m args below meth c H locs rmX6_binOf.cells rmX6_binOf.slots Z (F0 m pc ls [.int r]))  : ∀ (A : SA) (V : SV) (x1 : Int32) (h : wb_X6_binOf_0 Q A V x1) (H : Heap) (locs : List Loc) (ls : Array Slot) (hw : WS D s A0 (wM ad cI cZ A V) H locs) (hl : lv_has ls 6 [(0, .ref (ad 0)), (1, .int x1)]), W p l e rmX6_binOf s m args below meth c H locs 0 0 Z (F0 m 0 ls []) := by
  obtain ⟨hx, hb, hml, hown, hts, hK, hA⟩ := id cx
  intro A V x1 h H locs ls hw hl
  refine lv_iconst (pc := 0) (v := (-1 : Int32)) hx hb dX6_binOf_0 (by decide) ?_
  refine lv_istore_n (pc := 1) (lv' := [(2, .int (-1 : Int32)), (0, .ref (ad 0)), (1, .int x1)]) hx hb dX6_binOf_1 rfl hl (by decide) rfl (fun ls hl => ?_)
  refine lv_iconst (pc := 2) (v := (0 : Int32)) hx hb dX6_binOf_2 (by decide) ?_
  refine lv_istore_n (pc := 3) (lv' := [(3, .int (0 : Int32)), (2, .int (-1 : Int32)), (0, .ref (ad 0)), (1, .int x1)]) hx hb dX6_binOf_3 rfl hl (by decide) rfl (fun ls hl => ?_)
  obtain ⟨n4, h⟩ := h
  exact wk_X6_binOf_4 Q cx hret  n4 A V x1 (-1 : Int32) (0 : Int32) h _ _ _ hw (lv_sub hl [2, 3, 1, 0] rfl)
def wpX6_binOf (A : SA) (V : SV) (x1 : Int32) (Q : Int32 → SA → SV → Prop) : Prop := wb_X6_binOf_0 Q A V x1
set_option maxHeartbeats 4000000 in
set_option maxRecDepth 100000 in
theorem metX6_binOf (l : Launch) (D : va_G) (cI cZ : ClassId) (ad : Nat → Nat) (sz : Nat) (A : SA) (V : SV) (x1 : Int32) (Q : Int32 → SA → SV → Prop) (h : wpX6_binOf A V x1 Q) : Met l yX6_binOf wsX6_binOf rmX6_binOf (PcW D [(cI, .int), (cZ, .boolean)] (wM ad cI cZ A V) sz [.ref (ad 0), .int x1]) (QiW D [(cI, .int), (cZ, .boolean)] (wM ad cI cZ A V) sz (fun u : SA × SV => (wM ad cI cZ u.1 u.2)) (fun r u => Q r u.1 u.2)) rmX6_binOf.cells rmX6_binOf.slots (va_A (wM ad cI cZ A V) sz) := by
  refine startI (plainFor_of_name (by decide)) rfl (Nat.le_of_ble_eq_true rfl) ?_
  intro p e s m args below meth c A0 Z cx hw hret ls hl
  exact wk_X6_binOf_0 Q cx hret A V x1 h _ _ _ hw hl
abbrev rmX6_sort : Room := { frames := 4, cells := 0, slots := 0, locals := 105 }
theorem inX6_sort_X6 : ∀ w ∈ wsX60, w ∈ wsX6_sort := by decide +kernel
theorem kX6_sort_29 : Cond.fieldLink RX6 29 "DrownedPostModel" "sorters" "I" ∈ wsX6_sort := by decide +kernel
theorem kX6_sort_70 : Cond.fieldLink RX6 70 "DrownedPostModel" "letters" "I" ∈ wsX6_sort := by decide +kernel
def wb_X6_sort_78 (Q : SA → SV → Prop) (K2 : SA → SV → Int32 → Prop) (A : SA) (V : SV) (x1 : Int32) (x2 : Int32) (t0 : Int32) : Prop := ((¬ t0 = (-1 : Int32) → (wpX6_set A V x2 (3 : Int32) (1 : Int32) (fun A_36 V_37 => (wpX6_set A_36 V_37 x2 (5 : Int32) t0 (fun A_41 V_42 => K2 A_41 V_42 (x1 + 1)))))) ∧ (t0 = (-1 : Int32) → Q A V))
set_option maxHeartbeats 4000000 in
set_option maxRecDepth 100000 in
theorem wk_X6_sort_78 (Q : SA → SV → Prop) (K2 : SA → SV → Int32 → Prop) (cx : CX RX6 cX6_sort 4 wsX6_sort D [(cI, .int), (cZ, .boolean)] p s m args c A0) (hret : ∀ (pc : Nat) (ls : Array Slot) (u : SA × SV) (H : Heap) (locs : List Loc), decode cX6_sort pc = .ok (.return_, 1) → Q u.1 u.2 → WS D s A0 (wM ad cI cZ u.1 u.2) H locs → W p l e rmX6_sort s m args below meth c H locs rmX6_sort.cells rmX6_sort.slots Z (F0 m pc ls [])) (hK2 : ∀ (A : SA) (V : SV) (x1 : Int32) (h : K2 A V x1) (H : Heap) (locs : List Loc) (ls : Array Slot) (hw : WS D s A0 (wM ad cI cZ A V) H locs) (hl : lv_has ls 4 [(0, .ref (ad 0)), (1, .int x1)]), W p l e rmX6_sort s m args below meth c H locs 0 0 Z (F0 m 2 ls [])) : ∀ (A : SA) (V : SV) (x1 : Int32) (x2 : Int32) (t0 : Int32) (h : wb_X6_sort_78 Q K2 A V x1 x2 t0) (H : Heap) (locs : List Loc) (ls : Array Slot) (hw : WS D s A0 (wM ad cI cZ A V) H locs) (hl : lv_has ls 4 [(0, .ref (ad 0)), (1, .int x1), (2, .int x2)]), W p l e rmX6_sort s m args below meth c H locs 0 0 Z (F0 m 78 ls [.int t0]) := by
  obtain ⟨hx, hb, hml, hown, hts, hK, hA⟩ := id cx
  intro A V x1 x2 t0 h H locs ls hw hl
  refine lv_istore_n (pc := 78) (lv' := [(3, .int t0), (0, .ref (ad 0)), (1, .int x1), (2, .int x2)]) hx hb dX6_sort_78 rfl hl (by decide) rfl (fun ls hl => ?_)
  refine lv_iload_n (pc := 79) hx hb dX6_sort_79 rfl (lv_at hl 0 rfl) ?_
  refine lv_iconst (pc := 80) (v := (-1 : Int32)) hx hb dX6_sort_80 (by decide) ?_
  refine lv_icmp_ne (pc := 81) (tgt := 85) hx hb dX6_sort_81 (by decide) (fun c32 => ?_) (fun c32 => ?_)
  · have h := h.1 c32
    refine lv_aload_n (pc := 85) hx hb dX6_sort_85 rfl (lv_at hl 1 rfl) ?_
    refine lv_iload_n (pc := 86) hx hb dX6_sort_86 rfl (lv_at hl 3 rfl) ?_
    refine lv_iconst (pc := 87) (v := (3 : Int32)) hx hb dX6_sort_87 (by decide) ?_
    refine lv_iconst (pc := 88) (v := (1 : Int32)) hx hb dX6_sort_88 (by decide) ?_
    refine callVv (pc := 89) (rest := []) (c1 := 0) (s1 := 0) cx hw hl (metX6_set l D cI cZ ad H.size A V x2 (3 : Int32) (1 : Int32) _ h) (fun hts => cwV 3 hts gX6_sort_X6_set rfl rfl rfl (by decide +kernel) ⟨Nat.le_of_ble_eq_true rfl, Nat.le_of_ble_eq_true rfl⟩) SUB.rf [0, 1] rfl 0 (ci := 6) rfl rfl rfl (JN.rf) rfl rfl (Nat.le_of_ble_eq_true rfl) ⟨Nat.le_of_ble_eq_true rfl, Nat.le_of_ble_eq_true rfl⟩ rfl rfl dX6_sort_89 (fun u H locs h hw => ?_)
    obtain ⟨A_36, V_37⟩ := u
    refine lv_aload_n (pc := 92) hx hb dX6_sort_92 rfl (lv_at hl 1 rfl) ?_
    refine lv_iload_n (pc := 93) hx hb dX6_sort_93 rfl (lv_at hl 3 rfl) ?_
    refine lv_iconst (pc := 94) (v := (5 : Int32)) hx hb dX6_sort_94 (by decide) ?_
    refine lv_iload_n (pc := 95) hx hb dX6_sort_95 rfl (lv_at hl 0 rfl) ?_
    refine callVv (pc := 96) (rest := []) (c1 := 0) (s1 := 0) cx hw hl (metX6_set l D cI cZ ad H.size A_36 V_37 x2 (5 : Int32) t0 _ h) (fun hts => cwV 3 hts gX6_sort_X6_set rfl rfl rfl (by decide +kernel) ⟨Nat.le_of_ble_eq_true rfl, Nat.le_of_ble_eq_true rfl⟩) SUB.rf [0, 1] rfl 0 (ci := 6) rfl rfl rfl (JN.rf) rfl rfl (Nat.le_of_ble_eq_true rfl) ⟨Nat.le_of_ble_eq_true rfl, Nat.le_of_ble_eq_true rfl⟩ rfl rfl dX6_sort_96 (fun u H locs h hw => ?_)
    obtain ⟨A_41, V_42⟩ := u
    refine lv_iinc (pc := 99) (v := x1 + 1) (lv' := [(1, .int (x1 + 1)), (3, .int t0), (0, .ref (ad 0)), (2, .int x2)]) hx hb dX6_sort_99 hl (k := 2) rfl rfl (by decide) rfl (fun ls hl => ?_)
    refine lv_goto (pc := 102) (tgt := 2) hx hb dX6_sort_102 (by decide) ?_
    exact hK2 A_41 V_42 (x1 + 1) h _ _ _ hw (lv_sub hl [2, 0] rfl)
  · have h := h.2 c32
    exact hret 84 _ (A, V) _ _ dX6_sort_84 h hw
def wl_X6_sort_14 (Q : SA → SV → Prop) (K2 : SA → SV → Int32 → Prop) : Nat → SA → SV → Int32 → Int32 → Int32 → Prop
  | 0, _, _, _, _, _ => False
  | n + 1, A, V, x1, x2, x3 => (((V 5) ≤ x3 → ((¬ x2 = (-1 : Int32) → (wpX6_get A V x2 (0 : Int32) (fun r4 A_7 V_8 => (wpX6_binOf A_7 V_8 r4 (fun r9 A_12 V_13 => (wb_X6_sort_78 Q K2 A_12 V_13 x1 x2 r9)))))) ∧ (x2 = (-1 : Int32) → (wb_X6_sort_78 Q K2 A V x1 x2 (-1 : Int32))))) ∧ (¬ ((V 5) ≤ x3) → (wpX6_isIn_ A V x3 (0 : Int32) (fun r14 A_17 V_18 => ((r14 = 0 → wl_X6_sort_14 Q K2 n A_17 V_18 x1 x2 (x3 + 1)) ∧ (¬ (r14 = 0) → ((x2 = (-1 : Int32) → wl_X6_sort_14 Q K2 n A_17 V_18 x1 x3 (x3 + 1)) ∧ (¬ (x2 = (-1 : Int32)) → (wpX6_get A_17 V_18 x3 (1 : Int32) (fun r21 A_24 V_25 => (wpX6_get A_24 V_25 x2 (1 : Int32) (fun r26 A_29 V_30 => ((r21 ≤ r26 → wl_X6_sort_14 Q K2 n A_29 V_30 x1 x2 (x3 + 1)) ∧ (¬ (r21 ≤ r26) → wl_X6_sort_14 Q K2 n A_29 V_30 x1 x3 (x3 + 1)))))))))))))))
set_option maxHeartbeats 4000000 in
set_option maxRecDepth 100000 in
theorem wk_X6_sort_14 (Q : SA → SV → Prop) (K2 : SA → SV → Int32 → Prop) (cx : CX RX6 cX6_sort 4 wsX6_sort D [(cI, .int), (cZ, .boolean)] p s m args c A0) (hret : ∀ (pc : Nat) (ls : Array Slot) (u : SA × SV) (H : Heap) (locs : List Loc), decode cX6_sort pc = .ok (.return_, 1) → Q u.1 u.2 → WS D s A0 (wM ad cI cZ u.1 u.2) H locs → W p l e rmX6_sort s m args below meth c H locs rmX6_sort.cells rmX6_sort.slots Z (F0 m pc ls [])) (hK2 : ∀ (A : SA) (V : SV) (x1 : Int32) (h : K2 A V x1) (H : Heap) (locs : List Loc) (ls : Array Slot) (hw : WS D s A0 (wM ad cI cZ A V) H locs) (hl : lv_has ls 4 [(0, .ref (ad 0)), (1, .int x1)]), W p l e rmX6_sort s m args below meth c H locs 0 0 Z (F0 m 2 ls [])) : ∀ (n : Nat) (A : SA) (V : SV) (x1 : Int32) (x2 : Int32) (x3 : Int32) (h : wl_X6_sort_14 Q K2 n A V x1 x2 x3) (H : Heap) (locs : List Loc) (ls : Array Slot) (hw : WS D s A0 (wM ad cI cZ A V) H locs) (hl : lv_has ls 4 [(0, .ref (ad 0)), (1, .int x1), (2, .int x2), (3, .int x3)]), W p l e rmX6_sort s m args below meth c H locs 0 0 Z (F0 m 14 ls []) := by
  obtain ⟨hx, hb, hml, hown, hts, hK, hA⟩ := id cx
  intro n
  induction n with
  | zero => intro A V x1 x2 x3 h; exact False.elim h
  | succ n ih =>
    intro A V x1 x2 x3 h H locs ls hw hl
    refine lv_iload_n (pc := 14) hx hb dX6_sort_14 rfl (lv_at hl 3 rfl) ?_
    refine lv_aload_n (pc := 15) hx hb dX6_sort_15 rfl (lv_at hl 0 rfl) ?_
    refine geM_X6_8 (pc := 16) cx inX6_sort_X6 kX6_sort_70 hw dX6_sort_16 ?_
    refine lv_icmp_ge (pc := 19) (tgt := 59) hx hb dX6_sort_19 (by decide) (fun c2 => ?_) (fun c2 => ?_)
    · have h := h.1 c2
      refine lv_iload_n (pc := 59) hx hb dX6_sort_59 rfl (lv_at hl 2 rfl) ?_
      refine lv_iconst (pc := 60) (v := (-1 : Int32)) hx hb dX6_sort_60 (by decide) ?_
      refine lv_icmp_ne (pc := 61) (tgt := 68) hx hb dX6_sort_61 (by decide) (fun c3 => ?_) (fun c3 => ?_)
      · have h := h.1 c3
        refine lv_aload_n (pc := 68) hx hb dX6_sort_68 rfl (lv_at hl 0 rfl) ?_
        refine lv_aload_n (pc := 69) hx hb dX6_sort_69 rfl (lv_at hl 0 rfl) ?_
        refine lv_iload_n (pc := 70) hx hb dX6_sort_70 rfl (lv_at hl 2 rfl) ?_
        refine lv_iconst (pc := 71) (v := (0 : Int32)) hx hb dX6_sort_71 (by decide) ?_
        refine callVi (pc := 72) (rest := [.ref (ad 0)]) (c1 := 0) (s1 := 0) cx hw hl (metX6_get l D cI cZ ad H.size A V x2 (0 : Int32) _ h) (fun hts => cwV 2 hts gX6_sort_X6_get rfl rfl rfl (by decide +kernel) ⟨Nat.le_of_ble_eq_true rfl, Nat.le_of_ble_eq_true rfl⟩) SUB.rf [0, 1] rfl 0 (ci := 6) rfl rfl rfl (JN.rf) rfl rfl (Nat.le_of_ble_eq_true rfl) ⟨Nat.le_of_ble_eq_true rfl, Nat.le_of_ble_eq_true rfl⟩ rfl rfl dX6_sort_72 (fun r4 u H locs h hw => ?_)
        obtain ⟨A_7, V_8⟩ := u
        refine callVi (pc := 75) (rest := []) (c1 := 0) (s1 := 0) cx hw hl (metX6_binOf l D cI cZ ad H.size A_7 V_8 r4 _ h) (fun hts => cwV 1 hts gX6_sort_X6_binOf rfl rfl rfl (by decide +kernel) ⟨Nat.le_of_ble_eq_true rfl, Nat.le_of_ble_eq_true rfl⟩) SUB.rf [0, 1] rfl 0 (ci := 6) rfl rfl rfl (JN.rf) rfl rfl (Nat.le_of_ble_eq_true rfl) ⟨Nat.le_of_ble_eq_true rfl, Nat.le_of_ble_eq_true rfl⟩ rfl rfl dX6_sort_75 (fun r9 u H locs h hw => ?_)
        obtain ⟨A_12, V_13⟩ := u
        exact wk_X6_sort_78 Q K2 cx hret hK2 A_12 V_13 x1 x2 r9 h _ _ _ hw (lv_sub hl [0, 1, 2] rfl)
      · have h := h.2 c3
        refine lv_iconst (pc := 64) (v := (-1 : Int32)) hx hb dX6_sort_64 (by decide) ?_
        refine lv_goto (pc := 65) (tgt := 78) hx hb dX6_sort_65 (by decide) ?_
        exact wk_X6_sort_78 Q K2 cx hret hK2 A V x1 x2 (-1 : Int32) h _ _ _ hw (lv_sub hl [0, 1, 2] rfl)
    · have h := h.2 c2
      refine lv_aload_n (pc := 22) hx hb dX6_sort_22 rfl (lv_at hl 0 rfl) ?_
      refine lv_iload_n (pc := 23) hx hb dX6_sort_23 rfl (lv_at hl 3 rfl) ?_
      refine lv_iconst (pc := 24) (v := (0 : Int32)) hx hb dX6_sort_24 (by decide) ?_
      refine callVi (pc := 25) (rest := []) (c1 := 0) (s1 := 0) cx hw hl (metX6_isIn_ l D cI cZ ad H.size A V x3 (0 : Int32) _ h) (fun hts => cwV 2 hts gX6_sort_X6_isIn_ rfl rfl rfl (by decide +kernel) ⟨Nat.le_of_ble_eq_true rfl, Nat.le_of_ble_eq_true rfl⟩) SUB.rf [0, 1] rfl 0 (ci := 6) rfl rfl rfl (JN.rf) rfl rfl (Nat.le_of_ble_eq_true rfl) ⟨Nat.le_of_ble_eq_true rfl, Nat.le_of_ble_eq_true rfl⟩ rfl rfl dX6_sort_25 (fun r14 u H locs h hw => ?_)
      obtain ⟨A_17, V_18⟩ := u
      refine lv_if_eq (pc := 28) (tgt := 53) hx hb dX6_sort_28 (by decide) (fun c19 => ?_) (fun c19 => ?_)
      · have h := h.1 c19
        refine lv_iinc (pc := 53) (v := x3 + 1) (lv' := [(3, .int (x3 + 1)), (0, .ref (ad 0)), (1, .int x1), (2, .int x2)]) hx hb dX6_sort_53 hl (k := 3) rfl rfl (by decide) rfl (fun ls hl => ?_)
        refine lv_goto (pc := 56) (tgt := 14) hx hb dX6_sort_56 (by decide) ?_
        exact ih A_17 V_18 x1 x2 (x3 + 1) h _ _ _ hw (lv_sub hl [1, 2, 3, 0] rfl)
      · have h := h.2 c19
        refine lv_iload_n (pc := 31) hx hb dX6_sort_31 rfl (lv_at hl 2 rfl) ?_
        refine lv_iconst (pc := 32) (v := (-1 : Int32)) hx hb dX6_sort_32 (by decide) ?_
        refine lv_icmp_eq (pc := 33) (tgt := 51) hx hb dX6_sort_33 (by decide) (fun c20 => ?_) (fun c20 => ?_)
        · have h := h.1 c20
          refine lv_iload_n (pc := 51) hx hb dX6_sort_51 rfl (lv_at hl 3 rfl) ?_
          refine lv_istore_n (pc := 52) (lv' := [(2, .int x3), (0, .ref (ad 0)), (1, .int x1), (3, .int x3)]) hx hb dX6_sort_52 rfl hl (by decide) rfl (fun ls hl => ?_)
          refine lv_iinc (pc := 53) (v := x3 + 1) (lv' := [(3, .int (x3 + 1)), (2, .int x3), (0, .ref (ad 0)), (1, .int x1)]) hx hb dX6_sort_53 hl (k := 3) rfl rfl (by decide) rfl (fun ls hl => ?_)
          refine lv_goto (pc := 56) (tgt := 14) hx hb dX6_sort_56 (by decide) ?_
          exact ih A_17 V_18 x1 x3 (x3 + 1) h _ _ _ hw (lv_sub hl [2, 3, 1, 0] rfl)
        · have h := h.2 c20
          refine lv_aload_n (pc := 36) hx hb dX6_sort_36 rfl (lv_at hl 0 rfl) ?_
          refine lv_iload_n (pc := 37) hx hb dX6_sort_37 rfl (lv_at hl 3 rfl) ?_
          refine lv_iconst (pc := 38) (v := (1 : Int32)) hx hb dX6_sort_38 (by decide) ?_
          refine callVi (pc := 39) (rest := []) (c1 := 0) (s1 := 0) cx hw hl (metX6_get l D cI cZ ad H.size A_17 V_18 x3 (1 : Int32) _ h) (fun hts => cwV 2 hts gX6_sort_X6_get rfl rfl rfl (by decide +kernel) ⟨Nat.le_of_ble_eq_true rfl, Nat.le_of_ble_eq_true rfl⟩) SUB.rf [0, 1] rfl 0 (ci := 6) rfl rfl rfl (JN.rf) rfl rfl (Nat.le_of_ble_eq_true rfl) ⟨Nat.le_of_ble_eq_true rfl, Nat.le_of_ble_eq_true rfl⟩ rfl rfl dX6_sort_39 (fun r21 u H locs h hw => ?_)
          obtain ⟨A_24, V_25⟩ := u
          refine lv_aload_n (pc := 42) hx hb dX6_sort_42 rfl (lv_at hl 0 rfl) ?_
          refine lv_iload_n (pc := 43) hx hb dX6_sort_43 rfl (lv_at hl 2 rfl) ?_
          refine lv_iconst (pc := 44) (v := (1 : Int32)) hx hb dX6_sort_44 (by decide) ?_
          refine callVi (pc := 45) (rest := [.int r21]) (c1 := 0) (s1 := 0) cx hw hl (metX6_get l D cI cZ ad H.size A_24 V_25 x2 (1 : Int32) _ h) (fun hts => cwV 2 hts gX6_sort_X6_get rfl rfl rfl (by decide +kernel) ⟨Nat.le_of_ble_eq_true rfl, Nat.le_of_ble_eq_true rfl⟩) SUB.rf [0, 1] rfl 0 (ci := 6) rfl rfl rfl (JN.rf) rfl rfl (Nat.le_of_ble_eq_true rfl) ⟨Nat.le_of_ble_eq_true rfl, Nat.le_of_ble_eq_true rfl⟩ rfl rfl dX6_sort_45 (fun r26 u H locs h hw => ?_)
          obtain ⟨A_29, V_30⟩ := u
          refine lv_icmp_le (pc := 48) (tgt := 53) hx hb dX6_sort_48 (by decide) (fun c31 => ?_) (fun c31 => ?_)
          · have h := h.1 c31
            refine lv_iinc (pc := 53) (v := x3 + 1) (lv' := [(3, .int (x3 + 1)), (0, .ref (ad 0)), (1, .int x1), (2, .int x2)]) hx hb dX6_sort_53 hl (k := 3) rfl rfl (by decide) rfl (fun ls hl => ?_)
            refine lv_goto (pc := 56) (tgt := 14) hx hb dX6_sort_56 (by decide) ?_
            exact ih A_29 V_30 x1 x2 (x3 + 1) h _ _ _ hw (lv_sub hl [1, 2, 3, 0] rfl)
          · have h := h.2 c31
            refine lv_iload_n (pc := 51) hx hb dX6_sort_51 rfl (lv_at hl 3 rfl) ?_
            refine lv_istore_n (pc := 52) (lv' := [(2, .int x3), (0, .ref (ad 0)), (1, .int x1), (3, .int x3)]) hx hb dX6_sort_52 rfl hl (by decide) rfl (fun ls hl => ?_)
            refine lv_iinc (pc := 53) (v := x3 + 1) (lv' := [(3, .int (x3 + 1)), (2, .int x3), (0, .ref (ad 0)), (1, .int x1)]) hx hb dX6_sort_53 hl (k := 3) rfl rfl (by decide) rfl (fun ls hl => ?_)
            refine lv_goto (pc := 56) (tgt := 14) hx hb dX6_sort_56 (by decide) ?_
            exact ih A_29 V_30 x1 x3 (x3 + 1) h _ _ _ hw (lv_sub hl [2, 3, 1, 0] rfl)
def wl_X6_sort_2 (Q : SA → SV → Prop) : Nat → SA → SV → Int32 → Prop
  | 0, _, _, _ => False
  | n + 1, A, V, x1 => (((V 7) ≤ x1 → Q A V) ∧ (¬ ((V 7) ≤ x1) → (∃ n14 : Nat, wl_X6_sort_14 Q (wl_X6_sort_2 Q n) n14 A V x1 (-1 : Int32) (0 : Int32))))
set_option maxHeartbeats 4000000 in
set_option maxRecDepth 100000 in
theorem wk_X6_sort_2 (Q : SA → SV → Prop) (cx : CX RX6 cX6_sort 4 wsX6_sort D [(cI, .int), (cZ, .boolean)] p s m args c A0) (hret : ∀ (pc : Nat) (ls : Array Slot) (u : SA × SV) (H : Heap) (locs : List Loc), decode cX6_sort pc = .ok (.return_, 1) → Q u.1 u.2 → WS D s A0 (wM ad cI cZ u.1 u.2) H locs → W p l e rmX6_sort s m args below meth c H locs rmX6_sort.cells rmX6_sort.slots Z (F0 m pc ls []))  : ∀ (n : Nat) (A : SA) (V : SV) (x1 : Int32) (h : wl_X6_sort_2 Q n A V x1) (H : Heap) (locs : List Loc) (ls : Array Slot) (hw : WS D s A0 (wM ad cI cZ A V) H locs) (hl : lv_has ls 4 [(0, .ref (ad 0)), (1, .int x1)]), W p l e rmX6_sort s m args below meth c H locs 0 0 Z (F0 m 2 ls []) := by
  obtain ⟨hx, hb, hml, hown, hts, hK, hA⟩ := id cx
  intro n
  induction n with
  | zero => intro A V x1 h; exact False.elim h
  | succ n ih =>
    intro A V x1 h H locs ls hw hl
    refine lv_iload_n (pc := 2) hx hb dX6_sort_2 rfl (lv_at hl 1 rfl) ?_
    refine lv_aload_n (pc := 3) hx hb dX6_sort_3 rfl (lv_at hl 0 rfl) ?_
    refine geM_X6_11 (pc := 4) cx inX6_sort_X6 kX6_sort_29 hw dX6_sort_4 ?_
    refine lv_icmp_ge (pc := 7) (tgt := 105) hx hb dX6_sort_7 (by decide) (fun c1 => ?_) (fun c1 => ?_)
    · have h := h.1 c1
      exact hret 105 _ (A, V) _ _ dX6_sort_105 h hw
    · have h := h.2 c1
      refine lv_iconst (pc := 10) (v := (-1 : Int32)) hx hb dX6_sort_10 (by decide) ?_
      refine lv_istore_n (pc := 11) (lv' := [(2, .int (-1 : Int32)), (0, .ref (ad 0)), (1, .int x1)]) hx hb dX6_sort_11 rfl hl (by decide) rfl (fun ls hl => ?_)
      refine lv_iconst (pc := 12) (v := (0 : Int32)) hx hb dX6_sort_12 (by decide) ?_
      refine lv_istore_n (pc := 13) (lv' := [(3, .int (0 : Int32)), (2, .int (-1 : Int32)), (0, .ref (ad 0)), (1, .int x1)]) hx hb dX6_sort_13 rfl hl (by decide) rfl (fun ls hl => ?_)
      obtain ⟨n14, h⟩ := h
      exact wk_X6_sort_14 Q (wl_X6_sort_2 Q n) cx hret ih n14 A V x1 (-1 : Int32) (0 : Int32) h _ _ _ hw (lv_sub hl [2, 3, 1, 0] rfl)
def wb_X6_sort_0 (Q : SA → SV → Prop) (A : SA) (V : SV) : Prop := (∃ n2 : Nat, wl_X6_sort_2 Q n2 A V (0 : Int32))
set_option maxHeartbeats 4000000 in
set_option maxRecDepth 100000 in
theorem wk_X6_sort_0 (Q : SA → SV → Prop) (cx : CX RX6 cX6_sort 4 wsX6_sort D [(cI, .int), (cZ, .boolean)] p s m args c A0) (hret : ∀ (pc : Nat) (ls : Array Slot) (u : SA × SV) (H : Heap) (locs : List Loc), decode cX6_sort pc = .ok (.return_, 1) → Q u.1 u.2 → WS D s A0 (wM ad cI cZ u.1 u.2) H locs → W p l e rmX6_sort s m args below meth c H locs rmX6_sort.cells rmX6_sort.slots Z (F0 m pc ls []))  : ∀ (A : SA) (V : SV) (h : wb_X6_sort_0 Q A V) (H : Heap) (locs : List Loc) (ls : Array Slot) (hw : WS D s A0 (wM ad cI cZ A V) H locs) (hl : lv_has ls 4 [(0, .ref (ad 0))]), W p l e rmX6_sort s m args below meth c H locs 0 0 Z (F0 m 0 ls []) := by
  obtain ⟨hx, hb, hml, hown, hts, hK, hA⟩ := id cx
  intro A V h H locs ls hw hl
  refine lv_iconst (pc := 0) (v := (0 : Int32)) hx hb dX6_sort_0 (by decide) ?_
  refine lv_istore_n (pc := 1) (lv' := [(1, .int (0 : Int32)), (0, .ref (ad 0))]) hx hb dX6_sort_1 rfl hl (by decide) rfl (fun ls hl => ?_)
  obtain ⟨n2, h⟩ := h
  exact wk_X6_sort_2 Q cx hret  n2 A V (0 : Int32) h _ _ _ hw (lv_sub hl [1, 0] rfl)
def wpX6_sort (A : SA) (V : SV)  (Q : SA → SV → Prop) : Prop := wb_X6_sort_0 Q A V
set_option maxHeartbeats 4000000 in
set_option maxRecDepth 100000 in
theorem metX6_sort (l : Launch) (D : va_G) (cI cZ : ClassId) (ad : Nat → Nat) (sz : Nat) (A : SA) (V : SV)  (Q : SA → SV → Prop) (h : wpX6_sort A V  Q) : Met l yX6_sort wsX6_sort rmX6_sort (PcW D [(cI, .int), (cZ, .boolean)] (wM ad cI cZ A V) sz [.ref (ad 0)]) (QvW D [(cI, .int), (cZ, .boolean)] (wM ad cI cZ A V) sz (fun u : SA × SV => (wM ad cI cZ u.1 u.2)) (fun u => Q u.1 u.2)) rmX6_sort.cells rmX6_sort.slots (va_A (wM ad cI cZ A V) sz) := by
  refine startV (plainFor_of_name (by decide)) rfl (Nat.le_of_ble_eq_true rfl) ?_
  intro p e s m args below meth c A0 Z cx hw hret ls hl
  exact wk_X6_sort_0 Q cx hret A V h _ _ _ hw hl
abbrev rmX6_passOne (g : Nat) : Room := { frames := 5, cells := g, slots := 9 * g, locals := 129 }
theorem inX6_passOne_X6 : ∀ w ∈ wsX60, w ∈ wsX6_passOne := by decide +kernel
theorem kX6_passOne_115 : Cond.methodLink RX6 115 Lib.Math.max.name ∈ wsX6_passOne := by decide +kernel
theorem kX6_passOne_38 : Cond.fieldLink RX6 38 "DrownedPostModel" "was" "[Z" ∈ wsX6_passOne := by decide +kernel
theorem kX6_passOne_70 : Cond.fieldLink RX6 70 "DrownedPostModel" "letters" "I" ∈ wsX6_passOne := by decide +kernel
theorem kX6_passOne_96 : Cond.fieldLink RX6 96 "DrownedPostModel" "hour" "I" ∈ wsX6_passOne := by decide +kernel
theorem kX6_passOne_w_code_Lib_Math_max_name_Lib_Math_max_code_2__some__int_ : Cond.code Lib.Math.max.name Lib.Math.max.code 2 (some .int) ∈ wsX6_passOne := by decide +kernel
theorem kX6_passOne_w_initialized__java_lang_Math_ : Cond.initialized "java/lang/Math" ∈ wsX6_passOne := by decide +kernel
theorem kX6_passOne_w_static_Lib_Math_max_name : Cond.static Lib.Math.max.name ∈ wsX6_passOne := by decide +kernel
def wl_X6_passOne_100 (Q : SA → SV → Prop) (g : Nat) : Nat → Nat → SA → SV → Int32 → Int32 → Int32 → Prop
  | 0, _, _, _, _, _, _ => False
  | n + 1, k0, A, V, x1, x2, x3 => ((x2 ≤ x3 → (wpX6_scrape A V x1 (fun A_40 V_41 => (wpX6_sort A_40 V_41 (fun A_45 V_46 => (∀ V_47 : SV, V_47 = uv V_46 1 ((V_46 1) + (1 : Int32)) → Q A_45 V_47)))))) ∧ (¬ (x2 ≤ x3) → (wpX6_isIn_ A V x3 (4 : Int32) (fun r48 A_51 V_52 => ((¬ r48 = 0 → (wpX6_get A_51 V_52 x3 (7 : Int32) (fun r54 A_57 V_58 => (wpX6_set A_57 V_58 x3 (7 : Int32) (if (0 : Int32) < r54 - (1 : Int32) then r54 - (1 : Int32) else (0 : Int32)) (fun A_62 V_63 => (wpX6_get A_62 V_63 x3 (7 : Int32) (fun r64 A_67 V_68 => ((¬ r64 = 0 → wl_X6_passOne_100 Q g n k0 A_67 V_68 x1 x2 (x3 + 1)) ∧ (r64 = 0 → (((30 : Int32) < x1 → wl_X6_passOne_100 Q g n k0 A_67 V_68 x1 x2 (x3 + 1)) ∧ (¬ ((30 : Int32) < x1) → (wpX6_set A_67 V_68 x3 (3 : Int32) (5 : Int32) (fun A_74 V_75 => wl_X6_passOne_100 Q g n k0 A_74 V_75 x1 x2 (x3 + 1)))))))))))))) ∧ (r48 = 0 → wl_X6_passOne_100 Q g n k0 A_51 V_52 x1 x2 (x3 + 1)))))))
set_option maxHeartbeats 4000000 in
set_option maxRecDepth 100000 in
theorem wk_X6_passOne_100 (Q : SA → SV → Prop) (g : Nat) (cx : CX RX6 cX6_passOne 5 wsX6_passOne D [(cI, .int), (cZ, .boolean)] p s m args c A0) (hret : ∀ (pc : Nat) (ls : Array Slot) (u : SA × SV) (H : Heap) (locs : List Loc), decode cX6_passOne pc = .ok (.return_, 1) → Q u.1 u.2 → WS D s A0 (wM ad cI cZ u.1 u.2) H locs → W p l e (rmX6_passOne g) s m args below meth c H locs (rmX6_passOne g).cells (rmX6_passOne g).slots Z (F0 m pc ls []))  : ∀ (n : Nat) (k0 : Nat) (A : SA) (V : SV) (x1 : Int32) (x2 : Int32) (x3 : Int32) (h : wl_X6_passOne_100 Q g n k0 A V x1 x2 x3) (hgc : k0 ≤ g) (H : Heap) (locs : List Loc) (ls : Array Slot) (hw : WS D s A0 (wM ad cI cZ A V) H locs) (hl : lv_has ls 5 [(0, .ref (ad 0)), (1, .int x1), (2, .int x2), (3, .int x3)]), W p l e (rmX6_passOne g) s m args below meth c H locs k0 (9 * k0) Z (F0 m 100 ls []) := by
  obtain ⟨hx, hb, hml, hown, hts, hK, hA⟩ := id cx
  intro n
  induction n with
  | zero => intro k0 A V x1 x2 x3 h; exact False.elim h
  | succ n ih =>
    intro k0 A V x1 x2 x3 h hgc H locs ls hw hl
    refine lv_iload_n (pc := 100) hx hb dX6_passOne_100 rfl (lv_at hl 3 rfl) ?_
    refine lv_iload_n (pc := 101) hx hb dX6_passOne_101 rfl (lv_at hl 2 rfl) ?_
    refine lv_icmp_ge (pc := 102) (tgt := 166) hx hb dX6_passOne_102 (by decide) (fun c36 => ?_) (fun c36 => ?_)
    · have h := h.1 c36
      refine lv_aload_n (pc := 166) hx hb dX6_passOne_166 rfl (lv_at hl 0 rfl) ?_
      refine lv_iload_n (pc := 167) hx hb dX6_passOne_167 rfl (lv_at hl 1 rfl) ?_
      refine callVv (pc := 168) (rest := []) (c1 := k0) (s1 := 9 * k0) cx hw hl (metX6_scrape l D cI cZ ad H.size A V x1 _ h) (fun hts => cwV 1 hts gX6_passOne_X6_scrape rfl rfl rfl (by decide +kernel) ⟨Nat.le_of_ble_eq_true rfl, Nat.le_of_ble_eq_true rfl⟩) SUB.rf [0, 1] rfl 0 (ci := 6) rfl rfl rfl (JN.rf) rfl rfl (Nat.le_of_ble_eq_true rfl) ⟨hgc, gas0 hgc⟩ rfl rfl dX6_passOne_168 (fun u H locs h hw => ?_)
      obtain ⟨A_40, V_41⟩ := u
      refine lv_aload_n (pc := 171) hx hb dX6_passOne_171 rfl (lv_at hl 0 rfl) ?_
      refine callVv (pc := 172) (rest := []) (c1 := k0) (s1 := 9 * k0) cx hw hl (metX6_sort l D cI cZ ad H.size A_40 V_41 _ h) (fun hts => cwV 0 hts gX6_passOne_X6_sort rfl rfl rfl (by decide +kernel) ⟨Nat.le_of_ble_eq_true rfl, Nat.le_of_ble_eq_true rfl⟩) SUB.rf [0, 1] rfl 0 (ci := 6) rfl rfl rfl (JN.rf) rfl rfl (Nat.le_of_ble_eq_true rfl) ⟨hgc, gas0 hgc⟩ rfl rfl dX6_passOne_172 (fun u H locs h hw => ?_)
      obtain ⟨A_45, V_46⟩ := u
      refine lv_aload_n (pc := 175) hx hb dX6_passOne_175 rfl (lv_at hl 0 rfl) ?_
      refine lv_dup (pc := 176) hx hb dX6_passOne_176 rfl ?_
      refine geM_X6_1 (pc := 177) cx inX6_passOne_X6 kX6_passOne_96 hw dX6_passOne_177 ?_
      refine lv_iconst (pc := 180) (v := (1 : Int32)) hx hb dX6_passOne_180 (by decide) ?_
      refine lv_iadd (pc := 181) hx hb dX6_passOne_181 ?_
      refine puM_X6_1 (pc := 182) cx inX6_passOne_X6 kX6_passOne_96 hw dX6_passOne_182 (fun V_47 eV_47 H locs hw => ?_)
      have h := h V_47 eV_47
      refine W.widen (k := g) (n := 9 * g) hgc (Nat.mul_le_mul_left 9 hgc) ?_
      exact hret 185 _ (A_45, V_47) _ _ dX6_passOne_185 h hw
    · have h := h.2 c36
      refine lv_aload_n (pc := 105) hx hb dX6_passOne_105 rfl (lv_at hl 0 rfl) ?_
      refine lv_iload_n (pc := 106) hx hb dX6_passOne_106 rfl (lv_at hl 3 rfl) ?_
      refine lv_iconst (pc := 107) (v := (4 : Int32)) hx hb dX6_passOne_107 (by decide) ?_
      refine callVi (pc := 108) (rest := []) (c1 := k0) (s1 := 9 * k0) cx hw hl (metX6_isIn_ l D cI cZ ad H.size A V x3 (4 : Int32) _ h) (fun hts => cwV 2 hts gX6_passOne_X6_isIn_ rfl rfl rfl (by decide +kernel) ⟨Nat.le_of_ble_eq_true rfl, Nat.le_of_ble_eq_true rfl⟩) SUB.rf [0, 1] rfl 0 (ci := 6) rfl rfl rfl (JN.rf) rfl rfl (Nat.le_of_ble_eq_true rfl) ⟨hgc, gas0 hgc⟩ rfl rfl dX6_passOne_108 (fun r48 u H locs h hw => ?_)
      obtain ⟨A_51, V_52⟩ := u
      refine lv_if_ne (pc := 111) (tgt := 117) hx hb dX6_passOne_111 (by decide) (fun c53 => ?_) (fun c53 => ?_)
      · have h := h.1 c53
        refine lv_aload_n (pc := 117) hx hb dX6_passOne_117 rfl (lv_at hl 0 rfl) ?_
        refine lv_iload_n (pc := 118) hx hb dX6_passOne_118 rfl (lv_at hl 3 rfl) ?_
        refine lv_bipush (pc := 119) (v := (7 : Int32)) hx hb dX6_passOne_119 (by decide) ?_
        refine lv_iconst (pc := 121) (v := (0 : Int32)) hx hb dX6_passOne_121 (by decide) ?_
        refine lv_aload_n (pc := 122) hx hb dX6_passOne_122 rfl (lv_at hl 0 rfl) ?_
        refine lv_iload_n (pc := 123) hx hb dX6_passOne_123 rfl (lv_at hl 3 rfl) ?_
        refine lv_bipush (pc := 124) (v := (7 : Int32)) hx hb dX6_passOne_124 (by decide) ?_
        refine callVi (pc := 126) (rest := [.int (0 : Int32), .int (7 : Int32), .int x3, .ref (ad 0)]) (c1 := k0) (s1 := 9 * k0) cx hw hl (metX6_get l D cI cZ ad H.size A_51 V_52 x3 (7 : Int32) _ h) (fun hts => cwV 2 hts gX6_passOne_X6_get rfl rfl rfl (by decide +kernel) ⟨Nat.le_of_ble_eq_true rfl, Nat.le_of_ble_eq_true rfl⟩) SUB.rf [0, 1] rfl 0 (ci := 6) rfl rfl rfl (JN.rf) rfl rfl (Nat.le_of_ble_eq_true rfl) ⟨hgc, gas0 hgc⟩ rfl rfl dX6_passOne_126 (fun r54 u H locs h hw => ?_)
        obtain ⟨A_57, V_58⟩ := u
        refine lv_iconst (pc := 129) (v := (1 : Int32)) hx hb dX6_passOne_129 (by decide) ?_
        refine lv_isub (pc := 130) hx hb dX6_passOne_130 ?_
        refine va_mmax (pc := 131) hx hb (hml.trans hl.1.symm) hown (hts _ kX6_passOne_115) (hts _ kX6_passOne_w_static_Lib_Math_max_name) (hts _ kX6_passOne_w_initialized__java_lang_Math_) (hts _ kX6_passOne_w_code_Lib_Math_max_name_Lib_Math_max_code_2__some__int_) (Nat.le_of_ble_eq_true rfl) (Nat.le_of_ble_eq_true rfl) hgc (Nat.mul_le_mul_left 9 hgc) dX6_passOne_131 ?_
        refine callVv (pc := 134) (rest := []) (c1 := k0) (s1 := 9 * k0) cx hw hl (metX6_set l D cI cZ ad H.size A_57 V_58 x3 (7 : Int32) (if (0 : Int32) < r54 - (1 : Int32) then r54 - (1 : Int32) else (0 : Int32)) _ h) (fun hts => cwV 3 hts gX6_passOne_X6_set rfl rfl rfl (by decide +kernel) ⟨Nat.le_of_ble_eq_true rfl, Nat.le_of_ble_eq_true rfl⟩) SUB.rf [0, 1] rfl 0 (ci := 6) rfl rfl rfl (JN.rf) rfl rfl (Nat.le_of_ble_eq_true rfl) ⟨hgc, gas0 hgc⟩ rfl rfl dX6_passOne_134 (fun u H locs h hw => ?_)
        obtain ⟨A_62, V_63⟩ := u
        refine lv_aload_n (pc := 137) hx hb dX6_passOne_137 rfl (lv_at hl 0 rfl) ?_
        refine lv_iload_n (pc := 138) hx hb dX6_passOne_138 rfl (lv_at hl 3 rfl) ?_
        refine lv_bipush (pc := 139) (v := (7 : Int32)) hx hb dX6_passOne_139 (by decide) ?_
        refine callVi (pc := 141) (rest := []) (c1 := k0) (s1 := 9 * k0) cx hw hl (metX6_get l D cI cZ ad H.size A_62 V_63 x3 (7 : Int32) _ h) (fun hts => cwV 2 hts gX6_passOne_X6_get rfl rfl rfl (by decide +kernel) ⟨Nat.le_of_ble_eq_true rfl, Nat.le_of_ble_eq_true rfl⟩) SUB.rf [0, 1] rfl 0 (ci := 6) rfl rfl rfl (JN.rf) rfl rfl (Nat.le_of_ble_eq_true rfl) ⟨hgc, gas0 hgc⟩ rfl rfl dX6_passOne_141 (fun r64 u H locs h hw => ?_)
        obtain ⟨A_67, V_68⟩ := u
        refine lv_if_ne (pc := 144) (tgt := 160) hx hb dX6_passOne_144 (by decide) (fun c69 => ?_) (fun c69 => ?_)
        · have h := h.1 c69
          refine lv_iinc (pc := 160) (v := x3 + 1) (lv' := [(3, .int (x3 + 1)), (0, .ref (ad 0)), (1, .int x1), (2, .int x2)]) hx hb dX6_passOne_160 hl (k := 3) rfl rfl (by decide) rfl (fun ls hl => ?_)
          refine lv_goto (pc := 163) (tgt := 100) hx hb dX6_passOne_163 (by decide) ?_
          exact ih k0 A_67 V_68 x1 x2 (x3 + 1) h hgc _ _ _ hw (lv_sub hl [1, 2, 3, 0] rfl)
        · have h := h.2 c69
          refine lv_iload_n (pc := 147) hx hb dX6_passOne_147 rfl (lv_at hl 1 rfl) ?_
          refine lv_bipush (pc := 148) (v := (30 : Int32)) hx hb dX6_passOne_148 (by decide) ?_
          refine lv_icmp_gt (pc := 150) (tgt := 160) hx hb dX6_passOne_150 (by decide) (fun c70 => ?_) (fun c70 => ?_)
          · have h := h.1 c70
            refine lv_iinc (pc := 160) (v := x3 + 1) (lv' := [(3, .int (x3 + 1)), (0, .ref (ad 0)), (1, .int x1), (2, .int x2)]) hx hb dX6_passOne_160 hl (k := 3) rfl rfl (by decide) rfl (fun ls hl => ?_)
            refine lv_goto (pc := 163) (tgt := 100) hx hb dX6_passOne_163 (by decide) ?_
            exact ih k0 A_67 V_68 x1 x2 (x3 + 1) h hgc _ _ _ hw (lv_sub hl [1, 2, 3, 0] rfl)
          · have h := h.2 c70
            refine lv_aload_n (pc := 153) hx hb dX6_passOne_153 rfl (lv_at hl 0 rfl) ?_
            refine lv_iload_n (pc := 154) hx hb dX6_passOne_154 rfl (lv_at hl 3 rfl) ?_
            refine lv_iconst (pc := 155) (v := (3 : Int32)) hx hb dX6_passOne_155 (by decide) ?_
            refine lv_iconst (pc := 156) (v := (5 : Int32)) hx hb dX6_passOne_156 (by decide) ?_
            refine callVv (pc := 157) (rest := []) (c1 := k0) (s1 := 9 * k0) cx hw hl (metX6_set l D cI cZ ad H.size A_67 V_68 x3 (3 : Int32) (5 : Int32) _ h) (fun hts => cwV 3 hts gX6_passOne_X6_set rfl rfl rfl (by decide +kernel) ⟨Nat.le_of_ble_eq_true rfl, Nat.le_of_ble_eq_true rfl⟩) SUB.rf [0, 1] rfl 0 (ci := 6) rfl rfl rfl (JN.rf) rfl rfl (Nat.le_of_ble_eq_true rfl) ⟨hgc, gas0 hgc⟩ rfl rfl dX6_passOne_157 (fun u H locs h hw => ?_)
            obtain ⟨A_74, V_75⟩ := u
            refine lv_iinc (pc := 160) (v := x3 + 1) (lv' := [(3, .int (x3 + 1)), (0, .ref (ad 0)), (1, .int x1), (2, .int x2)]) hx hb dX6_passOne_160 hl (k := 3) rfl rfl (by decide) rfl (fun ls hl => ?_)
            refine lv_goto (pc := 163) (tgt := 100) hx hb dX6_passOne_163 (by decide) ?_
            exact ih k0 A_74 V_75 x1 x2 (x3 + 1) h hgc _ _ _ hw (lv_sub hl [1, 2, 3, 0] rfl)
      · have h := h.2 c53
        refine lv_goto (pc := 114) (tgt := 160) hx hb dX6_passOne_114 (by decide) ?_
        refine lv_iinc (pc := 160) (v := x3 + 1) (lv' := [(3, .int (x3 + 1)), (0, .ref (ad 0)), (1, .int x1), (2, .int x2)]) hx hb dX6_passOne_160 hl (k := 3) rfl rfl (by decide) rfl (fun ls hl => ?_)
        refine lv_goto (pc := 163) (tgt := 100) hx hb dX6_passOne_163 (by decide) ?_
        exact ih k0 A_51 V_52 x1 x2 (x3 + 1) h hgc _ _ _ hw (lv_sub hl [1, 2, 3, 0] rfl)
def wl_X6_passOne_73 (Q : SA → SV → Prop) (g : Nat) : Nat → Nat → SA → SV → Int32 → Int32 → Int32 → Prop
  | 0, _, _, _, _, _, _ => False
  | n + 1, k0, A, V, x1, x2, x3 => ((x2 ≤ x3 → (∃ n100 : Nat, wl_X6_passOne_100 Q g n100 k0 A V x1 x2 (0 : Int32))) ∧ (¬ (x2 ≤ x3) → (vp_in x3 150 ∧ (((A 6 x3.toNatClampNeg) = 0 → wl_X6_passOne_73 Q g n k0 A V x1 x2 (x3 + 1)) ∧ (¬ ((A 6 x3.toNatClampNeg) = 0) → (∃ g33 : Nat, k0 + g33 ≤ g ∧ (wpX6_answer g33 A V x3 (fun A_34 V_35 => wl_X6_passOne_73 Q g n (k0 + g33) A_34 V_35 x1 x2 (x3 + 1)))))))))
set_option maxHeartbeats 4000000 in
set_option maxRecDepth 100000 in
theorem wk_X6_passOne_73 (Q : SA → SV → Prop) (g : Nat) (cx : CX RX6 cX6_passOne 5 wsX6_passOne D [(cI, .int), (cZ, .boolean)] p s m args c A0) (hret : ∀ (pc : Nat) (ls : Array Slot) (u : SA × SV) (H : Heap) (locs : List Loc), decode cX6_passOne pc = .ok (.return_, 1) → Q u.1 u.2 → WS D s A0 (wM ad cI cZ u.1 u.2) H locs → W p l e (rmX6_passOne g) s m args below meth c H locs (rmX6_passOne g).cells (rmX6_passOne g).slots Z (F0 m pc ls []))  : ∀ (n : Nat) (k0 : Nat) (A : SA) (V : SV) (x1 : Int32) (x2 : Int32) (x3 : Int32) (h : wl_X6_passOne_73 Q g n k0 A V x1 x2 x3) (hgc : k0 ≤ g) (H : Heap) (locs : List Loc) (ls : Array Slot) (hw : WS D s A0 (wM ad cI cZ A V) H locs) (hl : lv_has ls 5 [(0, .ref (ad 0)), (1, .int x1), (2, .int x2), (3, .int x3)]), W p l e (rmX6_passOne g) s m args below meth c H locs k0 (9 * k0) Z (F0 m 73 ls []) := by
  obtain ⟨hx, hb, hml, hown, hts, hK, hA⟩ := id cx
  intro n
  induction n with
  | zero => intro k0 A V x1 x2 x3 h; exact False.elim h
  | succ n ih =>
    intro k0 A V x1 x2 x3 h hgc H locs ls hw hl
    refine lv_iload_n (pc := 73) hx hb dX6_passOne_73 rfl (lv_at hl 3 rfl) ?_
    refine lv_iload_n (pc := 74) hx hb dX6_passOne_74 rfl (lv_at hl 2 rfl) ?_
    refine lv_icmp_ge (pc := 75) (tgt := 98) hx hb dX6_passOne_75 (by decide) (fun c28 => ?_) (fun c28 => ?_)
    · have h := h.1 c28
      refine lv_iconst (pc := 98) (v := (0 : Int32)) hx hb dX6_passOne_98 (by decide) ?_
      refine lv_istore_n (pc := 99) (lv' := [(3, .int (0 : Int32)), (0, .ref (ad 0)), (1, .int x1), (2, .int x2)]) hx hb dX6_passOne_99 rfl hl (by decide) rfl (fun ls hl => ?_)
      obtain ⟨n100, h⟩ := h
      exact wk_X6_passOne_100 Q g cx hret  n100 k0 A V x1 x2 (0 : Int32) h hgc _ _ _ hw (lv_sub hl [1, 2, 3, 0] rfl)
    · have h := h.2 c28
      refine lv_aload_n (pc := 78) hx hb dX6_passOne_78 rfl (lv_at hl 0 rfl) ?_
      refine geM_X6_14 (pc := 79) cx inX6_passOne_X6 kX6_passOne_38 hw dX6_passOne_79 ?_
      refine lv_iload_n (pc := 82) hx hb dX6_passOne_82 rfl (lv_at hl 3 rfl) ?_
      refine alM_6 (pc := 83) cx hw h.1 dX6_passOne_83 ?_
      have h := h.2
      refine lv_if_eq (pc := 84) (tgt := 92) hx hb dX6_passOne_84 (by decide) (fun c29 => ?_) (fun c29 => ?_)
      · have h := h.1 c29
        refine lv_iinc (pc := 92) (v := x3 + 1) (lv' := [(3, .int (x3 + 1)), (0, .ref (ad 0)), (1, .int x1), (2, .int x2)]) hx hb dX6_passOne_92 hl (k := 3) rfl rfl (by decide) rfl (fun ls hl => ?_)
        refine lv_goto (pc := 95) (tgt := 73) hx hb dX6_passOne_95 (by decide) ?_
        exact ih k0 A V x1 x2 (x3 + 1) h hgc _ _ _ hw (lv_sub hl [1, 2, 3, 0] rfl)
      · have h := h.2 c29
        refine lv_aload_n (pc := 87) hx hb dX6_passOne_87 rfl (lv_at hl 0 rfl) ?_
        refine lv_iload_n (pc := 88) hx hb dX6_passOne_88 rfl (lv_at hl 3 rfl) ?_
        obtain ⟨g33, hg, h⟩ := h
        refine callVv (pc := 89) (rest := []) (c1 := (k0 + g33)) (s1 := 9 * (k0 + g33)) cx hw hl (metX6_answer l D cI cZ ad H.size g33 A V x3 _ h) (fun hts => cwV 1 hts gX6_passOne_X6_answer rfl rfl rfl (by decide +kernel) ⟨Nat.le_of_ble_eq_true rfl, Nat.le_of_ble_eq_true rfl⟩) SUB.rf [0, 1] rfl 0 (ci := 6) rfl rfl rfl (JN.rf) rfl rfl (Nat.le_of_ble_eq_true rfl) ⟨hg, gas1 hg⟩ rfl (Nat.mul_add 9 _ _).symm dX6_passOne_89 (fun u H locs h hw => ?_)
        obtain ⟨A_34, V_35⟩ := u
        have hgc := hg
        refine lv_iinc (pc := 92) (v := x3 + 1) (lv' := [(3, .int (x3 + 1)), (0, .ref (ad 0)), (1, .int x1), (2, .int x2)]) hx hb dX6_passOne_92 hl (k := 3) rfl rfl (by decide) rfl (fun ls hl => ?_)
        refine lv_goto (pc := 95) (tgt := 73) hx hb dX6_passOne_95 (by decide) ?_
        exact ih (k0 + g33) A_34 V_35 x1 x2 (x3 + 1) h hgc _ _ _ hw (lv_sub hl [1, 2, 3, 0] rfl)
def wb_X6_passOne_40 (Q : SA → SV → Prop) (g : Nat) (K16 : Nat → SA → SV → Int32 → Int32 → Int32 → Prop) (k0 : Nat) (A : SA) (V : SV) (x1 : Int32) (x2 : Int32) (x3 : Int32) (x4 : Int32) : Prop := ((x4 = 0 → (vp_in x3 150 ∧ (∀ A_19 : SA, A_19 = up A 6 x3.toNatClampNeg (vp_nar .boolean (0 : Int32)) → K16 k0 A_19 V x1 x2 (x3 + 1)))) ∧ (¬ (x4 = 0) → (wpX6_isIn_ A V x3 (2 : Int32) (fun r20 A_23 V_24 => ((r20 = 0 → (vp_in x3 150 ∧ (∀ A_26 : SA, A_26 = up A_23 6 x3.toNatClampNeg (vp_nar .boolean (0 : Int32)) → K16 k0 A_26 V_24 x1 x2 (x3 + 1)))) ∧ (¬ (r20 = 0) → (vp_in x3 150 ∧ (∀ A_27 : SA, A_27 = up A_23 6 x3.toNatClampNeg (vp_nar .boolean (1 : Int32)) → K16 k0 A_27 V_24 x1 x2 (x3 + 1)))))))))
set_option maxHeartbeats 4000000 in
set_option maxRecDepth 100000 in
theorem wk_X6_passOne_40 (Q : SA → SV → Prop) (g : Nat) (K16 : Nat → SA → SV → Int32 → Int32 → Int32 → Prop) (cx : CX RX6 cX6_passOne 5 wsX6_passOne D [(cI, .int), (cZ, .boolean)] p s m args c A0) (hret : ∀ (pc : Nat) (ls : Array Slot) (u : SA × SV) (H : Heap) (locs : List Loc), decode cX6_passOne pc = .ok (.return_, 1) → Q u.1 u.2 → WS D s A0 (wM ad cI cZ u.1 u.2) H locs → W p l e (rmX6_passOne g) s m args below meth c H locs (rmX6_passOne g).cells (rmX6_passOne g).slots Z (F0 m pc ls [])) (hK16 : ∀ (k0 : Nat) (A : SA) (V : SV) (x1 : Int32) (x2 : Int32) (x3 : Int32) (h : K16 k0 A V x1 x2 x3) (hgc : k0 ≤ g) (H : Heap) (locs : List Loc) (ls : Array Slot) (hw : WS D s A0 (wM ad cI cZ A V) H locs) (hl : lv_has ls 5 [(0, .ref (ad 0)), (1, .int x1), (2, .int x2), (3, .int x3)]), W p l e (rmX6_passOne g) s m args below meth c H locs k0 (9 * k0) Z (F0 m 16 ls [])) : ∀ (k0 : Nat) (A : SA) (V : SV) (x1 : Int32) (x2 : Int32) (x3 : Int32) (x4 : Int32) (h : wb_X6_passOne_40 Q g K16 k0 A V x1 x2 x3 x4) (hgc : k0 ≤ g) (H : Heap) (locs : List Loc) (ls : Array Slot) (hw : WS D s A0 (wM ad cI cZ A V) H locs) (hl : lv_has ls 5 [(0, .ref (ad 0)), (1, .int x1), (2, .int x2), (3, .int x3), (4, .int x4)]), W p l e (rmX6_passOne g) s m args below meth c H locs k0 (9 * k0) Z (F0 m 40 ls []) := by
  obtain ⟨hx, hb, hml, hown, hts, hK, hA⟩ := id cx
  intro k0 A V x1 x2 x3 x4 h hgc H locs ls hw hl
  refine lv_aload_n (pc := 40) hx hb dX6_passOne_40 rfl (lv_at hl 0 rfl) ?_
  refine geM_X6_14 (pc := 41) cx inX6_passOne_X6 kX6_passOne_38 hw dX6_passOne_41 ?_
  refine lv_iload_n (pc := 44) hx hb dX6_passOne_44 rfl (lv_at hl 3 rfl) ?_
  refine lv_iload (pc := 45) hx hb dX6_passOne_45 (lv_at hl 4 rfl) ?_
  refine lv_if_eq (pc := 47) (tgt := 63) hx hb dX6_passOne_47 (by decide) (fun c18 => ?_) (fun c18 => ?_)
  · have h := h.1 c18
    refine lv_iconst (pc := 63) (v := (0 : Int32)) hx hb dX6_passOne_63 (by decide) ?_
    refine asM_6 (pc := 64) cx hw h.1 dX6_passOne_64 (fun A_19 eA_19 H locs hw => ?_)
    have h := h.2 A_19 eA_19
    refine lv_iinc (pc := 65) (v := x3 + 1) (lv' := [(3, .int (x3 + 1)), (0, .ref (ad 0)), (1, .int x1), (2, .int x2), (4, .int x4)]) hx hb dX6_passOne_65 hl (k := 3) rfl rfl (by decide) rfl (fun ls hl => ?_)
    refine lv_goto (pc := 68) (tgt := 16) hx hb dX6_passOne_68 (by decide) ?_
    exact hK16 k0 A_19 V x1 x2 (x3 + 1) h hgc _ _ _ hw (lv_sub hl [1, 2, 3, 0] rfl)
  · have h := h.2 c18
    refine lv_aload_n (pc := 50) hx hb dX6_passOne_50 rfl (lv_at hl 0 rfl) ?_
    refine lv_iload_n (pc := 51) hx hb dX6_passOne_51 rfl (lv_at hl 3 rfl) ?_
    refine lv_iconst (pc := 52) (v := (2 : Int32)) hx hb dX6_passOne_52 (by decide) ?_
    refine callVi (pc := 53) (rest := [.int x3, .ref (ad 7)]) (c1 := k0) (s1 := 9 * k0) cx hw hl (metX6_isIn_ l D cI cZ ad H.size A V x3 (2 : Int32) _ h) (fun hts => cwV 2 hts gX6_passOne_X6_isIn_ rfl rfl rfl (by decide +kernel) ⟨Nat.le_of_ble_eq_true rfl, Nat.le_of_ble_eq_true rfl⟩) SUB.rf [0, 1] rfl 0 (ci := 6) rfl rfl rfl (JN.rf) rfl rfl (Nat.le_of_ble_eq_true rfl) ⟨hgc, gas0 hgc⟩ rfl rfl dX6_passOne_53 (fun r20 u H locs h hw => ?_)
    obtain ⟨A_23, V_24⟩ := u
    refine lv_if_eq (pc := 56) (tgt := 63) hx hb dX6_passOne_56 (by decide) (fun c25 => ?_) (fun c25 => ?_)
    · have h := h.1 c25
      refine lv_iconst (pc := 63) (v := (0 : Int32)) hx hb dX6_passOne_63 (by decide) ?_
      refine asM_6 (pc := 64) cx hw h.1 dX6_passOne_64 (fun A_26 eA_26 H locs hw => ?_)
      have h := h.2 A_26 eA_26
      refine lv_iinc (pc := 65) (v := x3 + 1) (lv' := [(3, .int (x3 + 1)), (0, .ref (ad 0)), (1, .int x1), (2, .int x2), (4, .int x4)]) hx hb dX6_passOne_65 hl (k := 3) rfl rfl (by decide) rfl (fun ls hl => ?_)
      refine lv_goto (pc := 68) (tgt := 16) hx hb dX6_passOne_68 (by decide) ?_
      exact hK16 k0 A_26 V_24 x1 x2 (x3 + 1) h hgc _ _ _ hw (lv_sub hl [1, 2, 3, 0] rfl)
    · have h := h.2 c25
      refine lv_iconst (pc := 59) (v := (1 : Int32)) hx hb dX6_passOne_59 (by decide) ?_
      refine lv_goto (pc := 60) (tgt := 64) hx hb dX6_passOne_60 (by decide) ?_
      refine asM_6 (pc := 64) cx hw h.1 dX6_passOne_64 (fun A_27 eA_27 H locs hw => ?_)
      have h := h.2 A_27 eA_27
      refine lv_iinc (pc := 65) (v := x3 + 1) (lv' := [(3, .int (x3 + 1)), (0, .ref (ad 0)), (1, .int x1), (2, .int x2), (4, .int x4)]) hx hb dX6_passOne_65 hl (k := 3) rfl rfl (by decide) rfl (fun ls hl => ?_)
      refine lv_goto (pc := 68) (tgt := 16) hx hb dX6_passOne_68 (by decide) ?_
      exact hK16 k0 A_27 V_24 x1 x2 (x3 + 1) h hgc _ _ _ hw (lv_sub hl [1, 2, 3, 0] rfl)
def wl_X6_passOne_16 (Q : SA → SV → Prop) (g : Nat) : Nat → Nat → SA → SV → Int32 → Int32 → Int32 → Prop
  | 0, _, _, _, _, _, _ => False
  | n + 1, k0, A, V, x1, x2, x3 => ((x2 ≤ x3 → (∃ n73 : Nat, wl_X6_passOne_73 Q g n73 k0 A V x1 x2 (0 : Int32))) ∧ (¬ (x2 ≤ x3) → (wpX6_isIn_ A V x3 (1 : Int32) (fun r7 A_10 V_11 => ((r7 = 0 → (wb_X6_passOne_40 Q g (wl_X6_passOne_16 Q g n) k0 A_10 V_11 x1 x2 x3 r7)) ∧ (¬ (r7 = 0) → (wpX6_water A_10 V_11 x3 x1 (fun A_16 V_17 => (wb_X6_passOne_40 Q g (wl_X6_passOne_16 Q g n) k0 A_16 V_17 x1 x2 x3 r7)))))))))
set_option maxHeartbeats 4000000 in
set_option maxRecDepth 100000 in
theorem wk_X6_passOne_16 (Q : SA → SV → Prop) (g : Nat) (cx : CX RX6 cX6_passOne 5 wsX6_passOne D [(cI, .int), (cZ, .boolean)] p s m args c A0) (hret : ∀ (pc : Nat) (ls : Array Slot) (u : SA × SV) (H : Heap) (locs : List Loc), decode cX6_passOne pc = .ok (.return_, 1) → Q u.1 u.2 → WS D s A0 (wM ad cI cZ u.1 u.2) H locs → W p l e (rmX6_passOne g) s m args below meth c H locs (rmX6_passOne g).cells (rmX6_passOne g).slots Z (F0 m pc ls []))  : ∀ (n : Nat) (k0 : Nat) (A : SA) (V : SV) (x1 : Int32) (x2 : Int32) (x3 : Int32) (h : wl_X6_passOne_16 Q g n k0 A V x1 x2 x3) (hgc : k0 ≤ g) (H : Heap) (locs : List Loc) (ls : Array Slot) (hw : WS D s A0 (wM ad cI cZ A V) H locs) (hl : lv_has ls 5 [(0, .ref (ad 0)), (1, .int x1), (2, .int x2), (3, .int x3)]), W p l e (rmX6_passOne g) s m args below meth c H locs k0 (9 * k0) Z (F0 m 16 ls []) := by
  obtain ⟨hx, hb, hml, hown, hts, hK, hA⟩ := id cx
  intro n
  induction n with
  | zero => intro k0 A V x1 x2 x3 h; exact False.elim h
  | succ n ih =>
    intro k0 A V x1 x2 x3 h hgc H locs ls hw hl
    refine lv_iload_n (pc := 16) hx hb dX6_passOne_16 rfl (lv_at hl 3 rfl) ?_
    refine lv_iload_n (pc := 17) hx hb dX6_passOne_17 rfl (lv_at hl 2 rfl) ?_
    refine lv_icmp_ge (pc := 18) (tgt := 71) hx hb dX6_passOne_18 (by decide) (fun c6 => ?_) (fun c6 => ?_)
    · have h := h.1 c6
      refine lv_iconst (pc := 71) (v := (0 : Int32)) hx hb dX6_passOne_71 (by decide) ?_
      refine lv_istore_n (pc := 72) (lv' := [(3, .int (0 : Int32)), (0, .ref (ad 0)), (1, .int x1), (2, .int x2)]) hx hb dX6_passOne_72 rfl hl (by decide) rfl (fun ls hl => ?_)
      obtain ⟨n73, h⟩ := h
      exact wk_X6_passOne_73 Q g cx hret  n73 k0 A V x1 x2 (0 : Int32) h hgc _ _ _ hw (lv_sub hl [1, 2, 3, 0] rfl)
    · have h := h.2 c6
      refine lv_aload_n (pc := 21) hx hb dX6_passOne_21 rfl (lv_at hl 0 rfl) ?_
      refine lv_iload_n (pc := 22) hx hb dX6_passOne_22 rfl (lv_at hl 3 rfl) ?_
      refine lv_iconst (pc := 23) (v := (1 : Int32)) hx hb dX6_passOne_23 (by decide) ?_
      refine callVi (pc := 24) (rest := []) (c1 := k0) (s1 := 9 * k0) cx hw hl (metX6_isIn_ l D cI cZ ad H.size A V x3 (1 : Int32) _ h) (fun hts => cwV 2 hts gX6_passOne_X6_isIn_ rfl rfl rfl (by decide +kernel) ⟨Nat.le_of_ble_eq_true rfl, Nat.le_of_ble_eq_true rfl⟩) SUB.rf [0, 1] rfl 0 (ci := 6) rfl rfl rfl (JN.rf) rfl rfl (Nat.le_of_ble_eq_true rfl) ⟨hgc, gas0 hgc⟩ rfl rfl dX6_passOne_24 (fun r7 u H locs h hw => ?_)
      obtain ⟨A_10, V_11⟩ := u
      refine lv_istore (pc := 27) (lv' := [(4, .int r7), (0, .ref (ad 0)), (1, .int x1), (2, .int x2), (3, .int x3)]) hx hb dX6_passOne_27 hl (by decide) rfl (fun ls hl => ?_)
      refine lv_iload (pc := 29) hx hb dX6_passOne_29 (lv_at hl 0 rfl) ?_
      refine lv_if_eq (pc := 31) (tgt := 40) hx hb dX6_passOne_31 (by decide) (fun c12 => ?_) (fun c12 => ?_)
      · have h := h.1 c12
        exact wk_X6_passOne_40 Q g (wl_X6_passOne_16 Q g n) cx hret ih k0 A_10 V_11 x1 x2 x3 r7 h hgc _ _ _ hw (lv_sub hl [1, 2, 3, 4, 0] rfl)
      · have h := h.2 c12
        refine lv_aload_n (pc := 34) hx hb dX6_passOne_34 rfl (lv_at hl 1 rfl) ?_
        refine lv_iload_n (pc := 35) hx hb dX6_passOne_35 rfl (lv_at hl 4 rfl) ?_
        refine lv_iload_n (pc := 36) hx hb dX6_passOne_36 rfl (lv_at hl 2 rfl) ?_
        refine callVv (pc := 37) (rest := []) (c1 := k0) (s1 := 9 * k0) cx hw hl (metX6_water l D cI cZ ad H.size A_10 V_11 x3 x1 _ h) (fun hts => cwV 2 hts gX6_passOne_X6_water rfl rfl rfl (by decide +kernel) ⟨Nat.le_of_ble_eq_true rfl, Nat.le_of_ble_eq_true rfl⟩) SUB.rf [0, 1] rfl 0 (ci := 6) rfl rfl rfl (JN.rf) rfl rfl (Nat.le_of_ble_eq_true rfl) ⟨hgc, gas0 hgc⟩ rfl rfl dX6_passOne_37 (fun u H locs h hw => ?_)
        obtain ⟨A_16, V_17⟩ := u
        exact wk_X6_passOne_40 Q g (wl_X6_passOne_16 Q g n) cx hret ih k0 A_16 V_17 x1 x2 x3 r7 h hgc _ _ _ hw (lv_sub hl [1, 2, 3, 4, 0] rfl)
def wb_X6_passOne_0 (Q : SA → SV → Prop) (g : Nat) (k0 : Nat) (A : SA) (V : SV) : Prop := (wpX6_tideOf A V (V 1) (fun r1 A_4 V_5 => (∃ n16 : Nat, wl_X6_passOne_16 Q g n16 k0 A_4 V_5 r1 (V_5 5) (0 : Int32))))
set_option maxHeartbeats 4000000 in
set_option maxRecDepth 100000 in
theorem wk_X6_passOne_0 (Q : SA → SV → Prop) (g : Nat) (cx : CX RX6 cX6_passOne 5 wsX6_passOne D [(cI, .int), (cZ, .boolean)] p s m args c A0) (hret : ∀ (pc : Nat) (ls : Array Slot) (u : SA × SV) (H : Heap) (locs : List Loc), decode cX6_passOne pc = .ok (.return_, 1) → Q u.1 u.2 → WS D s A0 (wM ad cI cZ u.1 u.2) H locs → W p l e (rmX6_passOne g) s m args below meth c H locs (rmX6_passOne g).cells (rmX6_passOne g).slots Z (F0 m pc ls []))  : ∀ (k0 : Nat) (A : SA) (V : SV) (h : wb_X6_passOne_0 Q g k0 A V) (hgc : k0 ≤ g) (H : Heap) (locs : List Loc) (ls : Array Slot) (hw : WS D s A0 (wM ad cI cZ A V) H locs) (hl : lv_has ls 5 [(0, .ref (ad 0))]), W p l e (rmX6_passOne g) s m args below meth c H locs k0 (9 * k0) Z (F0 m 0 ls []) := by
  obtain ⟨hx, hb, hml, hown, hts, hK, hA⟩ := id cx
  intro k0 A V h hgc H locs ls hw hl
  refine lv_aload_n (pc := 0) hx hb dX6_passOne_0 rfl (lv_at hl 0 rfl) ?_
  refine lv_aload_n (pc := 1) hx hb dX6_passOne_1 rfl (lv_at hl 0 rfl) ?_
  refine geM_X6_1 (pc := 2) cx inX6_passOne_X6 kX6_passOne_96 hw dX6_passOne_2 ?_
  refine callVi (pc := 5) (rest := []) (c1 := k0) (s1 := 9 * k0) cx hw hl (metX6_tideOf l D cI cZ ad H.size A V (V 1) _ h) (fun hts => cwV 1 hts gX6_passOne_X6_tideOf rfl rfl rfl (by decide +kernel) ⟨Nat.le_of_ble_eq_true rfl, Nat.le_of_ble_eq_true rfl⟩) SUB.rf [0, 1] rfl 0 (ci := 6) rfl rfl rfl (JN.rf) rfl rfl (Nat.le_of_ble_eq_true rfl) ⟨hgc, gas0 hgc⟩ rfl rfl dX6_passOne_5 (fun r1 u H locs h hw => ?_)
  obtain ⟨A_4, V_5⟩ := u
  refine lv_istore_n (pc := 8) (lv' := [(1, .int r1), (0, .ref (ad 0))]) hx hb dX6_passOne_8 rfl hl (by decide) rfl (fun ls hl => ?_)
  refine lv_aload_n (pc := 9) hx hb dX6_passOne_9 rfl (lv_at hl 1 rfl) ?_
  refine geM_X6_8 (pc := 10) cx inX6_passOne_X6 kX6_passOne_70 hw dX6_passOne_10 ?_
  refine lv_istore_n (pc := 13) (lv' := [(2, .int (V_5 5)), (1, .int r1), (0, .ref (ad 0))]) hx hb dX6_passOne_13 rfl hl (by decide) rfl (fun ls hl => ?_)
  refine lv_iconst (pc := 14) (v := (0 : Int32)) hx hb dX6_passOne_14 (by decide) ?_
  refine lv_istore_n (pc := 15) (lv' := [(3, .int (0 : Int32)), (2, .int (V_5 5)), (1, .int r1), (0, .ref (ad 0))]) hx hb dX6_passOne_15 rfl hl (by decide) rfl (fun ls hl => ?_)
  obtain ⟨n16, h⟩ := h
  exact wk_X6_passOne_16 Q g cx hret  n16 k0 A_4 V_5 r1 (V_5 5) (0 : Int32) h hgc _ _ _ hw (lv_sub hl [3, 2, 1, 0] rfl)
def wpX6_passOne (g : Nat) (A : SA) (V : SV)  (Q : SA → SV → Prop) : Prop := wb_X6_passOne_0 Q g 0 A V
set_option maxHeartbeats 4000000 in
set_option maxRecDepth 100000 in
theorem metX6_passOne (l : Launch) (D : va_G) (cI cZ : ClassId) (ad : Nat → Nat) (sz : Nat) (g : Nat) (A : SA) (V : SV)  (Q : SA → SV → Prop) (h : wpX6_passOne g A V  Q) : Met l yX6_passOne wsX6_passOne (rmX6_passOne g) (PcW D [(cI, .int), (cZ, .boolean)] (wM ad cI cZ A V) sz [.ref (ad 0)]) (QvW D [(cI, .int), (cZ, .boolean)] (wM ad cI cZ A V) sz (fun u : SA × SV => (wM ad cI cZ u.1 u.2)) (fun u => Q u.1 u.2)) (rmX6_passOne g).cells (rmX6_passOne g).slots (va_A (wM ad cI cZ A V) sz) := by
  refine startV (plainFor_of_name (by decide)) rfl (Nat.le_of_ble_eq_true rfl) ?_
  intro p e s m args below meth c A0 Z cx hw hret ls hl
  exact wk_X6_passOne_0 Q g cx hret 0 A V h (Nat.zero_le _) _ _ _ hw hl
abbrev rmX6_many : Room := { frames := 2, cells := 0, slots := 0, locals := 44 }
theorem inX6_many_X6 : ∀ w ∈ wsX60, w ∈ wsX6_many := by decide +kernel
theorem kX6_many_70 : Cond.fieldLink RX6 70 "DrownedPostModel" "letters" "I" ∈ wsX6_many := by decide +kernel
def wl_X6_many_4 (Q : Int32 → SA → SV → Prop) : Nat → SA → SV → Int32 → Int32 → Int32 → Prop
  | 0, _, _, _, _, _ => False
  | n + 1, A, V, x1, x2, x3 => (((V 5) ≤ x3 → Q x2 A V) ∧ (¬ ((V 5) ≤ x3) → (wpX6_isIn_ A V x3 x1 (fun r2 A_5 V_6 => ((r2 = 0 → wl_X6_many_4 Q n A_5 V_6 x1 (x2 + (0 : Int32)) (x3 + 1)) ∧ (¬ (r2 = 0) → wl_X6_many_4 Q n A_5 V_6 x1 (x2 + (1 : Int32)) (x3 + 1)))))))
set_option maxHeartbeats 4000000 in
set_option maxRecDepth 100000 in
theorem wk_X6_many_4 (Q : Int32 → SA → SV → Prop) (cx : CX RX6 cX6_many 4 wsX6_many D [(cI, .int), (cZ, .boolean)] p s m args c A0) (hret : ∀ (pc : Nat) (ls : Array Slot) (r : Int32) (u : SA × SV) (H : Heap) (locs : List Loc), narrow .int (.int r) = .int r → decode cX6_many pc = .ok (.ireturn, 1) → Q r u.1 u.2 → WS D s A0 (wM ad cI cZ u.1 u.2) H locs → W p l e rmX6_many s m args below meth c H locs rmX6_many.cells rmX6_many.slots Z (F0 m pc ls [.int r]))  : ∀ (n : Nat) (A : SA) (V : SV) (x1 : Int32) (x2 : Int32) (x3 : Int32) (h : wl_X6_many_4 Q n A V x1 x2 x3) (H : Heap) (locs : List Loc) (ls : Array Slot) (hw : WS D s A0 (wM ad cI cZ A V) H locs) (hl : lv_has ls 4 [(0, .ref (ad 0)), (1, .int x1), (2, .int x2), (3, .int x3)]), W p l e rmX6_many s m args below meth c H locs 0 0 Z (F0 m 4 ls []) := by
  obtain ⟨hx, hb, hml, hown, hts, hK, hA⟩ := id cx
  intro n
  induction n with
  | zero => intro A V x1 x2 x3 h; exact False.elim h
  | succ n ih =>
    intro A V x1 x2 x3 h H locs ls hw hl
    refine lv_iload_n (pc := 4) hx hb dX6_many_4 rfl (lv_at hl 3 rfl) ?_
    refine lv_aload_n (pc := 5) hx hb dX6_many_5 rfl (lv_at hl 0 rfl) ?_
    refine geM_X6_8 (pc := 6) cx inX6_many_X6 kX6_many_70 hw dX6_many_6 ?_
    refine lv_icmp_ge (pc := 9) (tgt := 35) hx hb dX6_many_9 (by decide) (fun c1 => ?_) (fun c1 => ?_)
    · have h := h.1 c1
      refine lv_iload_n (pc := 35) hx hb dX6_many_35 rfl (lv_at hl 2 rfl) ?_
      exact hret 36 _ _ (A, V) _ _ rfl dX6_many_36 h hw
    · have h := h.2 c1
      refine lv_iload_n (pc := 12) hx hb dX6_many_12 rfl (lv_at hl 2 rfl) ?_
      refine lv_aload_n (pc := 13) hx hb dX6_many_13 rfl (lv_at hl 0 rfl) ?_
      refine lv_iload_n (pc := 14) hx hb dX6_many_14 rfl (lv_at hl 3 rfl) ?_
      refine lv_iload_n (pc := 15) hx hb dX6_many_15 rfl (lv_at hl 1 rfl) ?_
      refine callVi (pc := 16) (rest := [.int x2]) (c1 := 0) (s1 := 0) cx hw hl (metX6_isIn_ l D cI cZ ad H.size A V x3 x1 _ h) (fun hts => cwV 2 hts gX6_many_X6_isIn_ rfl rfl rfl (by decide +kernel) ⟨Nat.le_of_ble_eq_true rfl, Nat.le_of_ble_eq_true rfl⟩) SUB.rf [0, 1] rfl 0 (ci := 6) rfl rfl rfl (JN.rf) rfl rfl (Nat.le_of_ble_eq_true rfl) ⟨Nat.le_of_ble_eq_true rfl, Nat.le_of_ble_eq_true rfl⟩ rfl rfl dX6_many_16 (fun r2 u H locs h hw => ?_)
      obtain ⟨A_5, V_6⟩ := u
      refine lv_if_eq (pc := 19) (tgt := 26) hx hb dX6_many_19 (by decide) (fun c7 => ?_) (fun c7 => ?_)
      · have h := h.1 c7
        refine lv_iconst (pc := 26) (v := (0 : Int32)) hx hb dX6_many_26 (by decide) ?_
        refine lv_iadd (pc := 27) hx hb dX6_many_27 ?_
        refine lv_istore_n (pc := 28) (lv' := [(2, .int (x2 + (0 : Int32))), (0, .ref (ad 0)), (1, .int x1), (3, .int x3)]) hx hb dX6_many_28 rfl hl (by decide) rfl (fun ls hl => ?_)
        refine lv_iinc (pc := 29) (v := x3 + 1) (lv' := [(3, .int (x3 + 1)), (2, .int (x2 + (0 : Int32))), (0, .ref (ad 0)), (1, .int x1)]) hx hb dX6_many_29 hl (k := 3) rfl rfl (by decide) rfl (fun ls hl => ?_)
        refine lv_goto (pc := 32) (tgt := 4) hx hb dX6_many_32 (by decide) ?_
        exact ih A_5 V_6 x1 (x2 + (0 : Int32)) (x3 + 1) h _ _ _ hw (lv_sub hl [2, 3, 1, 0] rfl)
      · have h := h.2 c7
        refine lv_iconst (pc := 22) (v := (1 : Int32)) hx hb dX6_many_22 (by decide) ?_
        refine lv_goto (pc := 23) (tgt := 27) hx hb dX6_many_23 (by decide) ?_
        refine lv_iadd (pc := 27) hx hb dX6_many_27 ?_
        refine lv_istore_n (pc := 28) (lv' := [(2, .int (x2 + (1 : Int32))), (0, .ref (ad 0)), (1, .int x1), (3, .int x3)]) hx hb dX6_many_28 rfl hl (by decide) rfl (fun ls hl => ?_)
        refine lv_iinc (pc := 29) (v := x3 + 1) (lv' := [(3, .int (x3 + 1)), (2, .int (x2 + (1 : Int32))), (0, .ref (ad 0)), (1, .int x1)]) hx hb dX6_many_29 hl (k := 3) rfl rfl (by decide) rfl (fun ls hl => ?_)
        refine lv_goto (pc := 32) (tgt := 4) hx hb dX6_many_32 (by decide) ?_
        exact ih A_5 V_6 x1 (x2 + (1 : Int32)) (x3 + 1) h _ _ _ hw (lv_sub hl [2, 3, 1, 0] rfl)
def wb_X6_many_0 (Q : Int32 → SA → SV → Prop) (A : SA) (V : SV) (x1 : Int32) : Prop := (∃ n4 : Nat, wl_X6_many_4 Q n4 A V x1 (0 : Int32) (0 : Int32))
set_option maxHeartbeats 4000000 in
set_option maxRecDepth 100000 in
theorem wk_X6_many_0 (Q : Int32 → SA → SV → Prop) (cx : CX RX6 cX6_many 4 wsX6_many D [(cI, .int), (cZ, .boolean)] p s m args c A0) (hret : ∀ (pc : Nat) (ls : Array Slot) (r : Int32) (u : SA × SV) (H : Heap) (locs : List Loc), narrow .int (.int r) = .int r → decode cX6_many pc = .ok (.ireturn, 1) → Q r u.1 u.2 → WS D s A0 (wM ad cI cZ u.1 u.2) H locs → W p l e rmX6_many s m args below meth c H locs rmX6_many.cells rmX6_many.slots Z (F0 m pc ls [.int r]))  : ∀ (A : SA) (V : SV) (x1 : Int32) (h : wb_X6_many_0 Q A V x1) (H : Heap) (locs : List Loc) (ls : Array Slot) (hw : WS D s A0 (wM ad cI cZ A V) H locs) (hl : lv_has ls 4 [(0, .ref (ad 0)), (1, .int x1)]), W p l e rmX6_many s m args below meth c H locs 0 0 Z (F0 m 0 ls []) := by
  obtain ⟨hx, hb, hml, hown, hts, hK, hA⟩ := id cx
  intro A V x1 h H locs ls hw hl
  refine lv_iconst (pc := 0) (v := (0 : Int32)) hx hb dX6_many_0 (by decide) ?_
  refine lv_istore_n (pc := 1) (lv' := [(2, .int (0 : Int32)), (0, .ref (ad 0)), (1, .int x1)]) hx hb dX6_many_1 rfl hl (by decide) rfl (fun ls hl => ?_)
  refine lv_iconst (pc := 2) (v := (0 : Int32)) hx hb dX6_many_2 (by decide) ?_
  refine lv_istore_n (pc := 3) (lv' := [(3, .int (0 : Int32)), (2, .int (0 : Int32)), (0, .ref (ad 0)), (1, .int x1)]) hx hb dX6_many_3 rfl hl (by decide) rfl (fun ls hl => ?_)
  obtain ⟨n4, h⟩ := h
  exact wk_X6_many_4 Q cx hret  n4 A V x1 (0 : Int32) (0 : Int32) h _ _ _ hw (lv_sub hl [2, 3, 1, 0] rfl)
def wpX6_many (A : SA) (V : SV) (x1 : Int32) (Q : Int32 → SA → SV → Prop) : Prop := wb_X6_many_0 Q A V x1
set_option maxHeartbeats 4000000 in
set_option maxRecDepth 100000 in
theorem metX6_many (l : Launch) (D : va_G) (cI cZ : ClassId) (ad : Nat → Nat) (sz : Nat) (A : SA) (V : SV) (x1 : Int32) (Q : Int32 → SA → SV → Prop) (h : wpX6_many A V x1 Q) : Met l yX6_many wsX6_many rmX6_many (PcW D [(cI, .int), (cZ, .boolean)] (wM ad cI cZ A V) sz [.ref (ad 0), .int x1]) (QiW D [(cI, .int), (cZ, .boolean)] (wM ad cI cZ A V) sz (fun u : SA × SV => (wM ad cI cZ u.1 u.2)) (fun r u => Q r u.1 u.2)) rmX6_many.cells rmX6_many.slots (va_A (wM ad cI cZ A V) sz) := by
  refine startI (plainFor_of_name (by decide)) rfl (Nat.le_of_ble_eq_true rfl) ?_
  intro p e s m args below meth c A0 Z cx hw hret ls hl
  exact wk_X6_many_0 Q cx hret A V x1 h _ _ _ hw hl
abbrev rmX6_pass (g : Nat) : Room := { frames := 6, cells := g, slots := 9 * g, locals := 153 }
theorem inX6_pass_X6 : ∀ w ∈ wsX60, w ∈ wsX6_pass := by decide +kernel
theorem kX6_pass_42 : Cond.fieldLink RX6 42 "DrownedPostModel" "thrown" "I" ∈ wsX6_pass := by decide +kernel
def wl_X6_pass_30 (Q : Int32 → SA → SV → Prop) (g : Nat) : Nat → Nat → SA → SV → Int32 → Int32 → Int32 → Prop
  | 0, _, _, _, _, _, _ => False
  | n + 1, k0, A, V, x1, x2, x3 => ((x1 ≤ x3 → (wpX6_many A V (2 : Int32) (fun r17 A_20 V_21 => Q (r17 - x2) A_20 V_21))) ∧ (¬ (x1 ≤ x3) → (∃ g25 : Nat, k0 + g25 ≤ g ∧ (wpX6_passOne g25 A V (fun A_26 V_27 => wl_X6_pass_30 Q g n (k0 + g25) A_26 V_27 x1 x2 (x3 + 1))))))
set_option maxHeartbeats 4000000 in
set_option maxRecDepth 100000 in
theorem wk_X6_pass_30 (Q : Int32 → SA → SV → Prop) (g : Nat) (cx : CX RX6 cX6_pass 4 wsX6_pass D [(cI, .int), (cZ, .boolean)] p s m args c A0) (hret : ∀ (pc : Nat) (ls : Array Slot) (r : Int32) (u : SA × SV) (H : Heap) (locs : List Loc), narrow .int (.int r) = .int r → decode cX6_pass pc = .ok (.ireturn, 1) → Q r u.1 u.2 → WS D s A0 (wM ad cI cZ u.1 u.2) H locs → W p l e (rmX6_pass g) s m args below meth c H locs (rmX6_pass g).cells (rmX6_pass g).slots Z (F0 m pc ls [.int r]))  : ∀ (n : Nat) (k0 : Nat) (A : SA) (V : SV) (x1 : Int32) (x2 : Int32) (x3 : Int32) (h : wl_X6_pass_30 Q g n k0 A V x1 x2 x3) (hgc : k0 ≤ g) (H : Heap) (locs : List Loc) (ls : Array Slot) (hw : WS D s A0 (wM ad cI cZ A V) H locs) (hl : lv_has ls 4 [(0, .ref (ad 0)), (1, .int x1), (2, .int x2), (3, .int x3)]), W p l e (rmX6_pass g) s m args below meth c H locs k0 (9 * k0) Z (F0 m 30 ls []) := by
  obtain ⟨hx, hb, hml, hown, hts, hK, hA⟩ := id cx
  intro n
  induction n with
  | zero => intro k0 A V x1 x2 x3 h; exact False.elim h
  | succ n ih =>
    intro k0 A V x1 x2 x3 h hgc H locs ls hw hl
    refine lv_iload_n (pc := 30) hx hb dX6_pass_30 rfl (lv_at hl 3 rfl) ?_
    refine lv_iload_n (pc := 31) hx hb dX6_pass_31 rfl (lv_at hl 1 rfl) ?_
    refine lv_icmp_ge (pc := 32) (tgt := 45) hx hb dX6_pass_32 (by decide) (fun c16 => ?_) (fun c16 => ?_)
    · have h := h.1 c16
      refine lv_aload_n (pc := 45) hx hb dX6_pass_45 rfl (lv_at hl 0 rfl) ?_
      refine lv_iconst (pc := 46) (v := (2 : Int32)) hx hb dX6_pass_46 (by decide) ?_
      refine callVi (pc := 47) (rest := []) (c1 := k0) (s1 := 9 * k0) cx hw hl (metX6_many l D cI cZ ad H.size A V (2 : Int32) _ h) (fun hts => cwV 1 hts gX6_pass_X6_many rfl rfl rfl (by decide +kernel) ⟨Nat.le_of_ble_eq_true rfl, Nat.le_of_ble_eq_true rfl⟩) SUB.rf [0, 1] rfl 0 (ci := 6) rfl rfl rfl (JN.rf) rfl rfl (Nat.le_of_ble_eq_true rfl) ⟨hgc, gas0 hgc⟩ rfl rfl dX6_pass_47 (fun r17 u H locs h hw => ?_)
      obtain ⟨A_20, V_21⟩ := u
      refine lv_iload_n (pc := 50) hx hb dX6_pass_50 rfl (lv_at hl 2 rfl) ?_
      refine lv_isub (pc := 51) hx hb dX6_pass_51 ?_
      refine W.widen (k := g) (n := 9 * g) hgc (Nat.mul_le_mul_left 9 hgc) ?_
      exact hret 52 _ _ (A_20, V_21) _ _ rfl dX6_pass_52 h hw
    · have h := h.2 c16
      refine lv_aload_n (pc := 35) hx hb dX6_pass_35 rfl (lv_at hl 0 rfl) ?_
      obtain ⟨g25, hg, h⟩ := h
      refine callVv (pc := 36) (rest := []) (c1 := (k0 + g25)) (s1 := 9 * (k0 + g25)) cx hw hl (metX6_passOne l D cI cZ ad H.size g25 A V _ h) (fun hts => cwV 0 hts gX6_pass_X6_passOne rfl rfl rfl (by decide +kernel) ⟨Nat.le_of_ble_eq_true rfl, Nat.le_of_ble_eq_true rfl⟩) SUB.rf [0, 1] rfl 0 (ci := 6) rfl rfl rfl (JN.rf) rfl rfl (Nat.le_of_ble_eq_true rfl) ⟨hg, gas1 hg⟩ rfl (Nat.mul_add 9 _ _).symm dX6_pass_36 (fun u H locs h hw => ?_)
      obtain ⟨A_26, V_27⟩ := u
      have hgc := hg
      refine lv_iinc (pc := 39) (v := x3 + 1) (lv' := [(3, .int (x3 + 1)), (0, .ref (ad 0)), (1, .int x1), (2, .int x2)]) hx hb dX6_pass_39 hl (k := 3) rfl rfl (by decide) rfl (fun ls hl => ?_)
      refine lv_goto (pc := 42) (tgt := 30) hx hb dX6_pass_42 (by decide) ?_
      exact ih (k0 + g25) A_26 V_27 x1 x2 (x3 + 1) h hgc _ _ _ hw (lv_sub hl [1, 2, 3, 0] rfl)
def wb_X6_pass_0 (Q : Int32 → SA → SV → Prop) (g : Nat) (k0 : Nat) (A : SA) (V : SV) (x1 : Int32) : Prop := (∀ V_1 : SV, V_1 = uv V 0 (0 : Int32) → (wpX6_isIn x1 (1 : Int32) (200 : Int32) (fun r2 => ((¬ r2 = 0 → (wpX6_many A V_1 (2 : Int32) (fun r6 A_9 V_10 => (∃ n30 : Nat, wl_X6_pass_30 Q g n30 k0 A_9 V_10 x1 r6 (0 : Int32))))) ∧ (r2 = 0 → (wpX6_fail A V_1 (1 : Int32) (fun r11 A_14 V_15 => Q r11 A_14 V_15)))))))
set_option maxHeartbeats 4000000 in
set_option maxRecDepth 100000 in
theorem wk_X6_pass_0 (Q : Int32 → SA → SV → Prop) (g : Nat) (cx : CX RX6 cX6_pass 4 wsX6_pass D [(cI, .int), (cZ, .boolean)] p s m args c A0) (hret : ∀ (pc : Nat) (ls : Array Slot) (r : Int32) (u : SA × SV) (H : Heap) (locs : List Loc), narrow .int (.int r) = .int r → decode cX6_pass pc = .ok (.ireturn, 1) → Q r u.1 u.2 → WS D s A0 (wM ad cI cZ u.1 u.2) H locs → W p l e (rmX6_pass g) s m args below meth c H locs (rmX6_pass g).cells (rmX6_pass g).slots Z (F0 m pc ls [.int r]))  : ∀ (k0 : Nat) (A : SA) (V : SV) (x1 : Int32) (h : wb_X6_pass_0 Q g k0 A V x1) (hgc : k0 ≤ g) (H : Heap) (locs : List Loc) (ls : Array Slot) (hw : WS D s A0 (wM ad cI cZ A V) H locs) (hl : lv_has ls 4 [(0, .ref (ad 0)), (1, .int x1)]), W p l e (rmX6_pass g) s m args below meth c H locs k0 (9 * k0) Z (F0 m 0 ls []) := by
  obtain ⟨hx, hb, hml, hown, hts, hK, hA⟩ := id cx
  intro k0 A V x1 h hgc H locs ls hw hl
  refine lv_aload_n (pc := 0) hx hb dX6_pass_0 rfl (lv_at hl 0 rfl) ?_
  refine lv_iconst (pc := 1) (v := (0 : Int32)) hx hb dX6_pass_1 (by decide) ?_
  refine puM_X6_0 (pc := 2) cx inX6_pass_X6 kX6_pass_42 hw dX6_pass_2 (fun V_1 eV_1 H locs hw => ?_)
  have h := h V_1 eV_1
  refine lv_iload_n (pc := 5) hx hb dX6_pass_5 rfl (lv_at hl 1 rfl) ?_
  refine lv_iconst (pc := 6) (v := (1 : Int32)) hx hb dX6_pass_6 (by decide) ?_
  refine lv_sipush (pc := 7) (v := (200 : Int32)) hx hb dX6_pass_7 (by decide) ?_
  refine callSi (pc := 10) (rest := []) (c1 := k0) (s1 := 9 * k0) cx hw hl (metX6_isIn l D [] H.size x1 (1 : Int32) (200 : Int32) _ h) (fun hts => va_cwS 3 hts gX6_pass_X6_isIn rfl rfl rfl (by decide +kernel) ⟨Nat.le_of_ble_eq_true rfl, Nat.le_of_ble_eq_true rfl⟩) SUB.nil [] rfl (JN.nil (S := Unit)) rfl rfl (Nat.le_of_ble_eq_true rfl) ⟨hgc, gas0 hgc⟩ rfl rfl dX6_pass_10 (fun r2 u H locs h hw => ?_)
  refine lv_if_ne (pc := 13) (tgt := 22) hx hb dX6_pass_13 (by decide) (fun c5 => ?_) (fun c5 => ?_)
  · have h := h.1 c5
    refine lv_aload_n (pc := 22) hx hb dX6_pass_22 rfl (lv_at hl 0 rfl) ?_
    refine lv_iconst (pc := 23) (v := (2 : Int32)) hx hb dX6_pass_23 (by decide) ?_
    refine callVi (pc := 24) (rest := []) (c1 := k0) (s1 := 9 * k0) cx hw hl (metX6_many l D cI cZ ad H.size A V_1 (2 : Int32) _ h) (fun hts => cwV 1 hts gX6_pass_X6_many rfl rfl rfl (by decide +kernel) ⟨Nat.le_of_ble_eq_true rfl, Nat.le_of_ble_eq_true rfl⟩) SUB.rf [0, 1] rfl 0 (ci := 6) rfl rfl rfl (JN.rf) rfl rfl (Nat.le_of_ble_eq_true rfl) ⟨hgc, gas0 hgc⟩ rfl rfl dX6_pass_24 (fun r6 u H locs h hw => ?_)
    obtain ⟨A_9, V_10⟩ := u
    refine lv_istore_n (pc := 27) (lv' := [(2, .int r6), (0, .ref (ad 0)), (1, .int x1)]) hx hb dX6_pass_27 rfl hl (by decide) rfl (fun ls hl => ?_)
    refine lv_iconst (pc := 28) (v := (0 : Int32)) hx hb dX6_pass_28 (by decide) ?_
    refine lv_istore_n (pc := 29) (lv' := [(3, .int (0 : Int32)), (2, .int r6), (0, .ref (ad 0)), (1, .int x1)]) hx hb dX6_pass_29 rfl hl (by decide) rfl (fun ls hl => ?_)
    obtain ⟨n30, h⟩ := h
    exact wk_X6_pass_30 Q g cx hret  n30 k0 A_9 V_10 x1 r6 (0 : Int32) h hgc _ _ _ hw (lv_sub hl [2, 3, 1, 0] rfl)
  · have h := h.2 c5
    refine lv_aload_n (pc := 16) hx hb dX6_pass_16 rfl (lv_at hl 0 rfl) ?_
    refine lv_iconst (pc := 17) (v := (1 : Int32)) hx hb dX6_pass_17 (by decide) ?_
    refine callVi (pc := 18) (rest := []) (c1 := k0) (s1 := 9 * k0) cx hw hl (metX6_fail l D cI cZ ad H.size A V_1 (1 : Int32) _ h) (fun hts => cwV 1 hts gX6_pass_X6_fail rfl rfl rfl (by decide +kernel) ⟨Nat.le_of_ble_eq_true rfl, Nat.le_of_ble_eq_true rfl⟩) SUB.rf [0, 1] rfl 0 (ci := 6) rfl rfl rfl (JN.rf) rfl rfl (Nat.le_of_ble_eq_true rfl) ⟨hgc, gas0 hgc⟩ rfl rfl dX6_pass_18 (fun r11 u H locs h hw => ?_)
    obtain ⟨A_14, V_15⟩ := u
    refine W.widen (k := g) (n := 9 * g) hgc (Nat.mul_le_mul_left 9 hgc) ?_
    exact hret 21 _ _ (A_14, V_15) _ _ rfl dX6_pass_21 h hw
def wpX6_pass (g : Nat) (A : SA) (V : SV) (x1 : Int32) (Q : Int32 → SA → SV → Prop) : Prop := wb_X6_pass_0 Q g 0 A V x1
set_option maxHeartbeats 4000000 in
set_option maxRecDepth 100000 in
theorem metX6_pass (l : Launch) (D : va_G) (cI cZ : ClassId) (ad : Nat → Nat) (sz : Nat) (g : Nat) (A : SA) (V : SV) (x1 : Int32) (Q : Int32 → SA → SV → Prop) (h : wpX6_pass g A V x1 Q) : Met l yX6_pass wsX6_pass (rmX6_pass g) (PcW D [(cI, .int), (cZ, .boolean)] (wM ad cI cZ A V) sz [.ref (ad 0), .int x1]) (QiW D [(cI, .int), (cZ, .boolean)] (wM ad cI cZ A V) sz (fun u : SA × SV => (wM ad cI cZ u.1 u.2)) (fun r u => Q r u.1 u.2)) (rmX6_pass g).cells (rmX6_pass g).slots (va_A (wM ad cI cZ A V) sz) := by
  refine startI (plainFor_of_name (by decide)) rfl (Nat.le_of_ble_eq_true rfl) ?_
  intro p e s m args below meth c A0 Z cx hw hret ls hl
  exact wk_X6_pass_0 Q g cx hret 0 A V x1 h (Nat.zero_le _) _ _ _ hw hl
abbrev rmX6_counted : Room := { frames := 3, cells := 0, slots := 0, locals := 67 }
theorem inX6_counted_X6 : ∀ w ∈ wsX60, w ∈ wsX6_counted := by decide +kernel
theorem kX6_counted_26 : Cond.fieldLink RX6 26 "DrownedPostModel" "scrapers" "I" ∈ wsX6_counted := by decide +kernel
theorem kX6_counted_29 : Cond.fieldLink RX6 29 "DrownedPostModel" "sorters" "I" ∈ wsX6_counted := by decide +kernel
theorem kX6_counted_64 : Cond.fieldLink RX6 64 "DrownedPostModel" "bins" "I" ∈ wsX6_counted := by decide +kernel
theorem kX6_counted_67 : Cond.fieldLink RX6 67 "DrownedPostModel" "drowned" "I" ∈ wsX6_counted := by decide +kernel
theorem kX6_counted_7 : Cond.fieldLink RX6 7 "DrownedPostModel" "tides" "I" ∈ wsX6_counted := by decide +kernel
theorem kX6_counted_70 : Cond.fieldLink RX6 70 "DrownedPostModel" "letters" "I" ∈ wsX6_counted := by decide +kernel
theorem kX6_counted_96 : Cond.fieldLink RX6 96 "DrownedPostModel" "hour" "I" ∈ wsX6_counted := by decide +kernel
def wb_X6_counted_0 (Q : Int32 → SA → SV → Prop) (A : SA) (V : SV) (x1 : Int32) : Prop := ((x1 = (0 : Int32) → Q (V 1) A V) ∧ (¬ x1 = (0 : Int32) → ((x1 = (1 : Int32) → Q (V 3) A V) ∧ (¬ x1 = (1 : Int32) → ((x1 = (2 : Int32) → Q (V 4) A V) ∧ (¬ x1 = (2 : Int32) → ((x1 = (3 : Int32) → Q (V 5) A V) ∧ (¬ x1 = (3 : Int32) → ((x1 = (4 : Int32) → (wpX6_many A V (x1 - (4 : Int32)) (fun r6 A_9 V_10 => Q r6 A_9 V_10))) ∧ (¬ x1 = (4 : Int32) → ((x1 = (5 : Int32) → (wpX6_many A V (x1 - (4 : Int32)) (fun r12 A_15 V_16 => Q r12 A_15 V_16))) ∧ (¬ x1 = (5 : Int32) → ((x1 = (6 : Int32) → (wpX6_many A V (x1 - (4 : Int32)) (fun r18 A_21 V_22 => Q r18 A_21 V_22))) ∧ (¬ x1 = (6 : Int32) → ((x1 = (7 : Int32) → (wpX6_many A V (x1 - (4 : Int32)) (fun r24 A_27 V_28 => Q r24 A_27 V_28))) ∧ (¬ x1 = (7 : Int32) → ((x1 = (8 : Int32) → (wpX6_many A V (x1 - (4 : Int32)) (fun r30 A_33 V_34 => Q r30 A_33 V_34))) ∧ (¬ x1 = (8 : Int32) → ((x1 = (9 : Int32) → (wpX6_many A V (x1 - (4 : Int32)) (fun r36 A_39 V_40 => Q r36 A_39 V_40))) ∧ (¬ x1 = (9 : Int32) → ((x1 = (10 : Int32) → Q (V 2) A V) ∧ (¬ x1 = (10 : Int32) → ((x1 = (11 : Int32) → Q (V 6) A V) ∧ (¬ x1 = (11 : Int32) → ((x1 = (12 : Int32) → Q (V 7) A V) ∧ (¬ x1 = (12 : Int32) → (wpX6_many A V (x1 - (4 : Int32)) (fun r44 A_47 V_48 => Q r44 A_47 V_48))))))))))))))))))))))))))))
set_option maxHeartbeats 4000000 in
set_option maxRecDepth 100000 in
theorem wk_X6_counted_0 (Q : Int32 → SA → SV → Prop) (cx : CX RX6 cX6_counted 2 wsX6_counted D [(cI, .int), (cZ, .boolean)] p s m args c A0) (hret : ∀ (pc : Nat) (ls : Array Slot) (r : Int32) (u : SA × SV) (H : Heap) (locs : List Loc), narrow .int (.int r) = .int r → decode cX6_counted pc = .ok (.ireturn, 1) → Q r u.1 u.2 → WS D s A0 (wM ad cI cZ u.1 u.2) H locs → W p l e rmX6_counted s m args below meth c H locs rmX6_counted.cells rmX6_counted.slots Z (F0 m pc ls [.int r]))  : ∀ (A : SA) (V : SV) (x1 : Int32) (h : wb_X6_counted_0 Q A V x1) (H : Heap) (locs : List Loc) (ls : Array Slot) (hw : WS D s A0 (wM ad cI cZ A V) H locs) (hl : lv_has ls 2 [(0, .ref (ad 0)), (1, .int x1)]), W p l e rmX6_counted s m args below meth c H locs 0 0 Z (F0 m 0 ls []) := by
  obtain ⟨hx, hb, hml, hown, hts, hK, hA⟩ := id cx
  intro A V x1 h H locs ls hw hl
  refine lv_iload_n (pc := 0) hx hb dX6_counted_0 rfl (lv_at hl 1 rfl) ?_
  by_cases e1 : x1 = (0 : Int32)
  · have h := h.1 e1
    refine lv_tableIn (pc := 1) (off := 67) (tgt := 68) hx hb dX6_counted_1 (by rw [e1]; decide) (by rw [e1]; decide) (by rw [e1]; rfl) (by decide) ?_
    refine lv_aload_n (pc := 68) hx hb dX6_counted_68 rfl (lv_at hl 0 rfl) ?_
    refine geM_X6_1 (pc := 69) cx inX6_counted_X6 kX6_counted_96 hw dX6_counted_69 ?_
    exact hret 72 _ _ (A, V) _ _ rfl dX6_counted_72 h hw
  · have h := h.2 e1
    by_cases e2 : x1 = (1 : Int32)
    · have h := h.1 e2
      refine lv_tableIn (pc := 1) (off := 72) (tgt := 73) hx hb dX6_counted_1 (by rw [e2]; decide) (by rw [e2]; decide) (by rw [e2]; rfl) (by decide) ?_
      refine lv_aload_n (pc := 73) hx hb dX6_counted_73 rfl (lv_at hl 0 rfl) ?_
      refine geM_X6_4 (pc := 74) cx inX6_counted_X6 kX6_counted_64 hw dX6_counted_74 ?_
      exact hret 77 _ _ (A, V) _ _ rfl dX6_counted_77 h hw
    · have h := h.2 e2
      by_cases e3 : x1 = (2 : Int32)
      · have h := h.1 e3
        refine lv_tableIn (pc := 1) (off := 77) (tgt := 78) hx hb dX6_counted_1 (by rw [e3]; decide) (by rw [e3]; decide) (by rw [e3]; rfl) (by decide) ?_
        refine lv_aload_n (pc := 78) hx hb dX6_counted_78 rfl (lv_at hl 0 rfl) ?_
        refine geM_X6_6 (pc := 79) cx inX6_counted_X6 kX6_counted_67 hw dX6_counted_79 ?_
        exact hret 82 _ _ (A, V) _ _ rfl dX6_counted_82 h hw
      · have h := h.2 e3
        by_cases e4 : x1 = (3 : Int32)
        · have h := h.1 e4
          refine lv_tableIn (pc := 1) (off := 82) (tgt := 83) hx hb dX6_counted_1 (by rw [e4]; decide) (by rw [e4]; decide) (by rw [e4]; rfl) (by decide) ?_
          refine lv_aload_n (pc := 83) hx hb dX6_counted_83 rfl (lv_at hl 0 rfl) ?_
          refine geM_X6_8 (pc := 84) cx inX6_counted_X6 kX6_counted_70 hw dX6_counted_84 ?_
          exact hret 87 _ _ (A, V) _ _ rfl dX6_counted_87 h hw
        · have h := h.2 e4
          by_cases e5 : x1 = (4 : Int32)
          · have h := h.1 e5
            refine lv_tableIn (pc := 1) (off := 102) (tgt := 103) hx hb dX6_counted_1 (by rw [e5]; decide) (by rw [e5]; decide) (by rw [e5]; rfl) (by decide) ?_
            refine lv_aload_n (pc := 103) hx hb dX6_counted_103 rfl (lv_at hl 0 rfl) ?_
            refine lv_iload_n (pc := 104) hx hb dX6_counted_104 rfl (lv_at hl 1 rfl) ?_
            refine lv_iconst (pc := 105) (v := (4 : Int32)) hx hb dX6_counted_105 (by decide) ?_
            refine lv_isub (pc := 106) hx hb dX6_counted_106 ?_
            refine callVi (pc := 107) (rest := []) (c1 := 0) (s1 := 0) cx hw hl (metX6_many l D cI cZ ad H.size A V (x1 - (4 : Int32)) _ h) (fun hts => cwV 1 hts gX6_counted_X6_many rfl rfl rfl (by decide +kernel) ⟨Nat.le_of_ble_eq_true rfl, Nat.le_of_ble_eq_true rfl⟩) SUB.rf [0, 1] rfl 0 (ci := 6) rfl rfl rfl (JN.rf) rfl rfl (Nat.le_of_ble_eq_true rfl) ⟨Nat.le_of_ble_eq_true rfl, Nat.le_of_ble_eq_true rfl⟩ rfl rfl dX6_counted_107 (fun r6 u H locs h hw => ?_)
            obtain ⟨A_9, V_10⟩ := u
            exact hret 110 _ _ (A_9, V_10) _ _ rfl dX6_counted_110 h hw
          · have h := h.2 e5
            by_cases e11 : x1 = (5 : Int32)
            · have h := h.1 e11
              refine lv_tableIn (pc := 1) (off := 102) (tgt := 103) hx hb dX6_counted_1 (by rw [e11]; decide) (by rw [e11]; decide) (by rw [e11]; rfl) (by decide) ?_
              refine lv_aload_n (pc := 103) hx hb dX6_counted_103 rfl (lv_at hl 0 rfl) ?_
              refine lv_iload_n (pc := 104) hx hb dX6_counted_104 rfl (lv_at hl 1 rfl) ?_
              refine lv_iconst (pc := 105) (v := (4 : Int32)) hx hb dX6_counted_105 (by decide) ?_
              refine lv_isub (pc := 106) hx hb dX6_counted_106 ?_
              refine callVi (pc := 107) (rest := []) (c1 := 0) (s1 := 0) cx hw hl (metX6_many l D cI cZ ad H.size A V (x1 - (4 : Int32)) _ h) (fun hts => cwV 1 hts gX6_counted_X6_many rfl rfl rfl (by decide +kernel) ⟨Nat.le_of_ble_eq_true rfl, Nat.le_of_ble_eq_true rfl⟩) SUB.rf [0, 1] rfl 0 (ci := 6) rfl rfl rfl (JN.rf) rfl rfl (Nat.le_of_ble_eq_true rfl) ⟨Nat.le_of_ble_eq_true rfl, Nat.le_of_ble_eq_true rfl⟩ rfl rfl dX6_counted_107 (fun r12 u H locs h hw => ?_)
              obtain ⟨A_15, V_16⟩ := u
              exact hret 110 _ _ (A_15, V_16) _ _ rfl dX6_counted_110 h hw
            · have h := h.2 e11
              by_cases e17 : x1 = (6 : Int32)
              · have h := h.1 e17
                refine lv_tableIn (pc := 1) (off := 102) (tgt := 103) hx hb dX6_counted_1 (by rw [e17]; decide) (by rw [e17]; decide) (by rw [e17]; rfl) (by decide) ?_
                refine lv_aload_n (pc := 103) hx hb dX6_counted_103 rfl (lv_at hl 0 rfl) ?_
                refine lv_iload_n (pc := 104) hx hb dX6_counted_104 rfl (lv_at hl 1 rfl) ?_
                refine lv_iconst (pc := 105) (v := (4 : Int32)) hx hb dX6_counted_105 (by decide) ?_
                refine lv_isub (pc := 106) hx hb dX6_counted_106 ?_
                refine callVi (pc := 107) (rest := []) (c1 := 0) (s1 := 0) cx hw hl (metX6_many l D cI cZ ad H.size A V (x1 - (4 : Int32)) _ h) (fun hts => cwV 1 hts gX6_counted_X6_many rfl rfl rfl (by decide +kernel) ⟨Nat.le_of_ble_eq_true rfl, Nat.le_of_ble_eq_true rfl⟩) SUB.rf [0, 1] rfl 0 (ci := 6) rfl rfl rfl (JN.rf) rfl rfl (Nat.le_of_ble_eq_true rfl) ⟨Nat.le_of_ble_eq_true rfl, Nat.le_of_ble_eq_true rfl⟩ rfl rfl dX6_counted_107 (fun r18 u H locs h hw => ?_)
                obtain ⟨A_21, V_22⟩ := u
                exact hret 110 _ _ (A_21, V_22) _ _ rfl dX6_counted_110 h hw
              · have h := h.2 e17
                by_cases e23 : x1 = (7 : Int32)
                · have h := h.1 e23
                  refine lv_tableIn (pc := 1) (off := 102) (tgt := 103) hx hb dX6_counted_1 (by rw [e23]; decide) (by rw [e23]; decide) (by rw [e23]; rfl) (by decide) ?_
                  refine lv_aload_n (pc := 103) hx hb dX6_counted_103 rfl (lv_at hl 0 rfl) ?_
                  refine lv_iload_n (pc := 104) hx hb dX6_counted_104 rfl (lv_at hl 1 rfl) ?_
                  refine lv_iconst (pc := 105) (v := (4 : Int32)) hx hb dX6_counted_105 (by decide) ?_
                  refine lv_isub (pc := 106) hx hb dX6_counted_106 ?_
                  refine callVi (pc := 107) (rest := []) (c1 := 0) (s1 := 0) cx hw hl (metX6_many l D cI cZ ad H.size A V (x1 - (4 : Int32)) _ h) (fun hts => cwV 1 hts gX6_counted_X6_many rfl rfl rfl (by decide +kernel) ⟨Nat.le_of_ble_eq_true rfl, Nat.le_of_ble_eq_true rfl⟩) SUB.rf [0, 1] rfl 0 (ci := 6) rfl rfl rfl (JN.rf) rfl rfl (Nat.le_of_ble_eq_true rfl) ⟨Nat.le_of_ble_eq_true rfl, Nat.le_of_ble_eq_true rfl⟩ rfl rfl dX6_counted_107 (fun r24 u H locs h hw => ?_)
                  obtain ⟨A_27, V_28⟩ := u
                  exact hret 110 _ _ (A_27, V_28) _ _ rfl dX6_counted_110 h hw
                · have h := h.2 e23
                  by_cases e29 : x1 = (8 : Int32)
                  · have h := h.1 e29
                    refine lv_tableIn (pc := 1) (off := 102) (tgt := 103) hx hb dX6_counted_1 (by rw [e29]; decide) (by rw [e29]; decide) (by rw [e29]; rfl) (by decide) ?_
                    refine lv_aload_n (pc := 103) hx hb dX6_counted_103 rfl (lv_at hl 0 rfl) ?_
                    refine lv_iload_n (pc := 104) hx hb dX6_counted_104 rfl (lv_at hl 1 rfl) ?_
                    refine lv_iconst (pc := 105) (v := (4 : Int32)) hx hb dX6_counted_105 (by decide) ?_
                    refine lv_isub (pc := 106) hx hb dX6_counted_106 ?_
                    refine callVi (pc := 107) (rest := []) (c1 := 0) (s1 := 0) cx hw hl (metX6_many l D cI cZ ad H.size A V (x1 - (4 : Int32)) _ h) (fun hts => cwV 1 hts gX6_counted_X6_many rfl rfl rfl (by decide +kernel) ⟨Nat.le_of_ble_eq_true rfl, Nat.le_of_ble_eq_true rfl⟩) SUB.rf [0, 1] rfl 0 (ci := 6) rfl rfl rfl (JN.rf) rfl rfl (Nat.le_of_ble_eq_true rfl) ⟨Nat.le_of_ble_eq_true rfl, Nat.le_of_ble_eq_true rfl⟩ rfl rfl dX6_counted_107 (fun r30 u H locs h hw => ?_)
                    obtain ⟨A_33, V_34⟩ := u
                    exact hret 110 _ _ (A_33, V_34) _ _ rfl dX6_counted_110 h hw
                  · have h := h.2 e29
                    by_cases e35 : x1 = (9 : Int32)
                    · have h := h.1 e35
                      refine lv_tableIn (pc := 1) (off := 102) (tgt := 103) hx hb dX6_counted_1 (by rw [e35]; decide) (by rw [e35]; decide) (by rw [e35]; rfl) (by decide) ?_
                      refine lv_aload_n (pc := 103) hx hb dX6_counted_103 rfl (lv_at hl 0 rfl) ?_
                      refine lv_iload_n (pc := 104) hx hb dX6_counted_104 rfl (lv_at hl 1 rfl) ?_
                      refine lv_iconst (pc := 105) (v := (4 : Int32)) hx hb dX6_counted_105 (by decide) ?_
                      refine lv_isub (pc := 106) hx hb dX6_counted_106 ?_
                      refine callVi (pc := 107) (rest := []) (c1 := 0) (s1 := 0) cx hw hl (metX6_many l D cI cZ ad H.size A V (x1 - (4 : Int32)) _ h) (fun hts => cwV 1 hts gX6_counted_X6_many rfl rfl rfl (by decide +kernel) ⟨Nat.le_of_ble_eq_true rfl, Nat.le_of_ble_eq_true rfl⟩) SUB.rf [0, 1] rfl 0 (ci := 6) rfl rfl rfl (JN.rf) rfl rfl (Nat.le_of_ble_eq_true rfl) ⟨Nat.le_of_ble_eq_true rfl, Nat.le_of_ble_eq_true rfl⟩ rfl rfl dX6_counted_107 (fun r36 u H locs h hw => ?_)
                      obtain ⟨A_39, V_40⟩ := u
                      exact hret 110 _ _ (A_39, V_40) _ _ rfl dX6_counted_110 h hw
                    · have h := h.2 e35
                      by_cases e41 : x1 = (10 : Int32)
                      · have h := h.1 e41
                        refine lv_tableIn (pc := 1) (off := 87) (tgt := 88) hx hb dX6_counted_1 (by rw [e41]; decide) (by rw [e41]; decide) (by rw [e41]; rfl) (by decide) ?_
                        refine lv_aload_n (pc := 88) hx hb dX6_counted_88 rfl (lv_at hl 0 rfl) ?_
                        refine geM_X6_2 (pc := 89) cx inX6_counted_X6 kX6_counted_7 hw dX6_counted_89 ?_
                        exact hret 92 _ _ (A, V) _ _ rfl dX6_counted_92 h hw
                      · have h := h.2 e41
                        by_cases e42 : x1 = (11 : Int32)
                        · have h := h.1 e42
                          refine lv_tableIn (pc := 1) (off := 92) (tgt := 93) hx hb dX6_counted_1 (by rw [e42]; decide) (by rw [e42]; decide) (by rw [e42]; rfl) (by decide) ?_
                          refine lv_aload_n (pc := 93) hx hb dX6_counted_93 rfl (lv_at hl 0 rfl) ?_
                          refine geM_X6_10 (pc := 94) cx inX6_counted_X6 kX6_counted_26 hw dX6_counted_94 ?_
                          exact hret 97 _ _ (A, V) _ _ rfl dX6_counted_97 h hw
                        · have h := h.2 e42
                          by_cases e43 : x1 = (12 : Int32)
                          · have h := h.1 e43
                            refine lv_tableIn (pc := 1) (off := 97) (tgt := 98) hx hb dX6_counted_1 (by rw [e43]; decide) (by rw [e43]; decide) (by rw [e43]; rfl) (by decide) ?_
                            refine lv_aload_n (pc := 98) hx hb dX6_counted_98 rfl (lv_at hl 0 rfl) ?_
                            refine geM_X6_11 (pc := 99) cx inX6_counted_X6 kX6_counted_29 hw dX6_counted_99 ?_
                            exact hret 102 _ _ (A, V) _ _ rfl dX6_counted_102 h hw
                          · have h := h.2 e43
                            refine lv_tableOut (pc := 1) (tgt := 103) hx hb dX6_counted_1 (tsw 12 (by decide) (fun i hi => match i, hi with | 0, _ => e1 | 1, _ => e2 | 2, _ => e3 | 3, _ => e4 | 4, _ => e5 | 5, _ => e11 | 6, _ => e17 | 7, _ => e23 | 8, _ => e29 | 9, _ => e35 | 10, _ => e41 | 11, _ => e42 | 12, _ => e43 | _ + 13, hi => absurd hi (by omega))) (by decide) ?_
                            refine lv_aload_n (pc := 103) hx hb dX6_counted_103 rfl (lv_at hl 0 rfl) ?_
                            refine lv_iload_n (pc := 104) hx hb dX6_counted_104 rfl (lv_at hl 1 rfl) ?_
                            refine lv_iconst (pc := 105) (v := (4 : Int32)) hx hb dX6_counted_105 (by decide) ?_
                            refine lv_isub (pc := 106) hx hb dX6_counted_106 ?_
                            refine callVi (pc := 107) (rest := []) (c1 := 0) (s1 := 0) cx hw hl (metX6_many l D cI cZ ad H.size A V (x1 - (4 : Int32)) _ h) (fun hts => cwV 1 hts gX6_counted_X6_many rfl rfl rfl (by decide +kernel) ⟨Nat.le_of_ble_eq_true rfl, Nat.le_of_ble_eq_true rfl⟩) SUB.rf [0, 1] rfl 0 (ci := 6) rfl rfl rfl (JN.rf) rfl rfl (Nat.le_of_ble_eq_true rfl) ⟨Nat.le_of_ble_eq_true rfl, Nat.le_of_ble_eq_true rfl⟩ rfl rfl dX6_counted_107 (fun r44 u H locs h hw => ?_)
                            obtain ⟨A_47, V_48⟩ := u
                            exact hret 110 _ _ (A_47, V_48) _ _ rfl dX6_counted_110 h hw
def wpX6_counted (A : SA) (V : SV) (x1 : Int32) (Q : Int32 → SA → SV → Prop) : Prop := wb_X6_counted_0 Q A V x1
set_option maxHeartbeats 4000000 in
set_option maxRecDepth 100000 in
theorem metX6_counted (l : Launch) (D : va_G) (cI cZ : ClassId) (ad : Nat → Nat) (sz : Nat) (A : SA) (V : SV) (x1 : Int32) (Q : Int32 → SA → SV → Prop) (h : wpX6_counted A V x1 Q) : Met l yX6_counted wsX6_counted rmX6_counted (PcW D [(cI, .int), (cZ, .boolean)] (wM ad cI cZ A V) sz [.ref (ad 0), .int x1]) (QiW D [(cI, .int), (cZ, .boolean)] (wM ad cI cZ A V) sz (fun u : SA × SV => (wM ad cI cZ u.1 u.2)) (fun r u => Q r u.1 u.2)) rmX6_counted.cells rmX6_counted.slots (va_A (wM ad cI cZ A V) sz) := by
  refine startI (plainFor_of_name (by decide)) rfl (Nat.le_of_ble_eq_true rfl) ?_
  intro p e s m args below meth c A0 Z cx hw hret ls hl
  exact wk_X6_counted_0 Q cx hret A V x1 h _ _ _ hw hl
abbrev rmX6_count : Room := { frames := 4, cells := 0, slots := 0, locals := 88 }
theorem inX6_count_X6 : ∀ w ∈ wsX60, w ∈ wsX6_count := by decide +kernel
theorem kX6_count_42 : Cond.fieldLink RX6 42 "DrownedPostModel" "thrown" "I" ∈ wsX6_count := by decide +kernel
def wb_X6_count_0 (Q : Int32 → SA → SV → Prop) (A : SA) (V : SV) (x1 : Int32) : Prop := (∀ V_1 : SV, V_1 = uv V 0 (0 : Int32) → (wpX6_isIn x1 (0 : Int32) (12 : Int32) (fun r2 => ((r2 = 0 → (wpX6_fail A V_1 (1 : Int32) (fun r6 A_9 V_10 => Q r6 A_9 V_10))) ∧ (¬ (r2 = 0) → (wpX6_counted A V_1 x1 (fun r11 A_14 V_15 => Q r11 A_14 V_15)))))))
set_option maxHeartbeats 4000000 in
set_option maxRecDepth 100000 in
theorem wk_X6_count_0 (Q : Int32 → SA → SV → Prop) (cx : CX RX6 cX6_count 2 wsX6_count D [(cI, .int), (cZ, .boolean)] p s m args c A0) (hret : ∀ (pc : Nat) (ls : Array Slot) (r : Int32) (u : SA × SV) (H : Heap) (locs : List Loc), narrow .int (.int r) = .int r → decode cX6_count pc = .ok (.ireturn, 1) → Q r u.1 u.2 → WS D s A0 (wM ad cI cZ u.1 u.2) H locs → W p l e rmX6_count s m args below meth c H locs rmX6_count.cells rmX6_count.slots Z (F0 m pc ls [.int r]))  : ∀ (A : SA) (V : SV) (x1 : Int32) (h : wb_X6_count_0 Q A V x1) (H : Heap) (locs : List Loc) (ls : Array Slot) (hw : WS D s A0 (wM ad cI cZ A V) H locs) (hl : lv_has ls 2 [(0, .ref (ad 0)), (1, .int x1)]), W p l e rmX6_count s m args below meth c H locs 0 0 Z (F0 m 0 ls []) := by
  obtain ⟨hx, hb, hml, hown, hts, hK, hA⟩ := id cx
  intro A V x1 h H locs ls hw hl
  refine lv_aload_n (pc := 0) hx hb dX6_count_0 rfl (lv_at hl 0 rfl) ?_
  refine lv_iconst (pc := 1) (v := (0 : Int32)) hx hb dX6_count_1 (by decide) ?_
  refine puM_X6_0 (pc := 2) cx inX6_count_X6 kX6_count_42 hw dX6_count_2 (fun V_1 eV_1 H locs hw => ?_)
  have h := h V_1 eV_1
  refine lv_iload_n (pc := 5) hx hb dX6_count_5 rfl (lv_at hl 1 rfl) ?_
  refine lv_iconst (pc := 6) (v := (0 : Int32)) hx hb dX6_count_6 (by decide) ?_
  refine lv_bipush (pc := 7) (v := (12 : Int32)) hx hb dX6_count_7 (by decide) ?_
  refine callSi (pc := 9) (rest := []) (c1 := 0) (s1 := 0) cx hw hl (metX6_isIn l D [] H.size x1 (0 : Int32) (12 : Int32) _ h) (fun hts => va_cwS 3 hts gX6_count_X6_isIn rfl rfl rfl (by decide +kernel) ⟨Nat.le_of_ble_eq_true rfl, Nat.le_of_ble_eq_true rfl⟩) SUB.nil [] rfl (JN.nil (S := Unit)) rfl rfl (Nat.le_of_ble_eq_true rfl) ⟨Nat.le_of_ble_eq_true rfl, Nat.le_of_ble_eq_true rfl⟩ rfl rfl dX6_count_9 (fun r2 u H locs h hw => ?_)
  refine lv_if_eq (pc := 12) (tgt := 23) hx hb dX6_count_12 (by decide) (fun c5 => ?_) (fun c5 => ?_)
  · have h := h.1 c5
    refine lv_aload_n (pc := 23) hx hb dX6_count_23 rfl (lv_at hl 0 rfl) ?_
    refine lv_iconst (pc := 24) (v := (1 : Int32)) hx hb dX6_count_24 (by decide) ?_
    refine callVi (pc := 25) (rest := []) (c1 := 0) (s1 := 0) cx hw hl (metX6_fail l D cI cZ ad H.size A V_1 (1 : Int32) _ h) (fun hts => cwV 1 hts gX6_count_X6_fail rfl rfl rfl (by decide +kernel) ⟨Nat.le_of_ble_eq_true rfl, Nat.le_of_ble_eq_true rfl⟩) SUB.rf [0, 1] rfl 0 (ci := 6) rfl rfl rfl (JN.rf) rfl rfl (Nat.le_of_ble_eq_true rfl) ⟨Nat.le_of_ble_eq_true rfl, Nat.le_of_ble_eq_true rfl⟩ rfl rfl dX6_count_25 (fun r6 u H locs h hw => ?_)
    obtain ⟨A_9, V_10⟩ := u
    exact hret 28 _ _ (A_9, V_10) _ _ rfl dX6_count_28 h hw
  · have h := h.2 c5
    refine lv_aload_n (pc := 15) hx hb dX6_count_15 rfl (lv_at hl 0 rfl) ?_
    refine lv_iload_n (pc := 16) hx hb dX6_count_16 rfl (lv_at hl 1 rfl) ?_
    refine callVi (pc := 17) (rest := []) (c1 := 0) (s1 := 0) cx hw hl (metX6_counted l D cI cZ ad H.size A V_1 x1 _ h) (fun hts => cwV 1 hts gX6_count_X6_counted rfl rfl rfl (by decide +kernel) ⟨Nat.le_of_ble_eq_true rfl, Nat.le_of_ble_eq_true rfl⟩) SUB.rf [0, 1] rfl 0 (ci := 6) rfl rfl rfl (JN.rf) rfl rfl (Nat.le_of_ble_eq_true rfl) ⟨Nat.le_of_ble_eq_true rfl, Nat.le_of_ble_eq_true rfl⟩ rfl rfl dX6_count_17 (fun r11 u H locs h hw => ?_)
    obtain ⟨A_14, V_15⟩ := u
    refine lv_goto (pc := 20) (tgt := 28) hx hb dX6_count_20 (by decide) ?_
    exact hret 28 _ _ (A_14, V_15) _ _ rfl dX6_count_28 h hw
def wpX6_count (A : SA) (V : SV) (x1 : Int32) (Q : Int32 → SA → SV → Prop) : Prop := wb_X6_count_0 Q A V x1
set_option maxHeartbeats 4000000 in
set_option maxRecDepth 100000 in
theorem metX6_count (l : Launch) (D : va_G) (cI cZ : ClassId) (ad : Nat → Nat) (sz : Nat) (A : SA) (V : SV) (x1 : Int32) (Q : Int32 → SA → SV → Prop) (h : wpX6_count A V x1 Q) : Met l yX6_count wsX6_count rmX6_count (PcW D [(cI, .int), (cZ, .boolean)] (wM ad cI cZ A V) sz [.ref (ad 0), .int x1]) (QiW D [(cI, .int), (cZ, .boolean)] (wM ad cI cZ A V) sz (fun u : SA × SV => (wM ad cI cZ u.1 u.2)) (fun r u => Q r u.1 u.2)) rmX6_count.cells rmX6_count.slots (va_A (wM ad cI cZ A V) sz) := by
  refine startI (plainFor_of_name (by decide)) rfl (Nat.le_of_ble_eq_true rfl) ?_
  intro p e s m args below meth c A0 Z cx hw hret ls hl
  exact wk_X6_count_0 Q cx hret A V x1 h _ _ _ hw hl
abbrev rmX6_binFor : Room := { frames := 4, cells := 0, slots := 0, locals := 105 }
theorem inX6_binFor_X6 : ∀ w ∈ wsX60, w ∈ wsX6_binFor := by decide +kernel
theorem kX6_binFor_42 : Cond.fieldLink RX6 42 "DrownedPostModel" "thrown" "I" ∈ wsX6_binFor := by decide +kernel
def wb_X6_binFor_0 (Q : Int32 → SA → SV → Prop) (A : SA) (V : SV) (x1 : Int32) : Prop := (∀ V_1 : SV, V_1 = uv V 0 (0 : Int32) → (wpX6_isOne A V_1 x1 (fun r2 A_5 V_6 => ((r2 = 0 → (wpX6_fail A_5 V_6 (1 : Int32) (fun r8 A_11 V_12 => Q r8 A_11 V_12))) ∧ (¬ (r2 = 0) → (wpX6_binOf A_5 V_6 x1 (fun r13 A_16 V_17 => Q r13 A_16 V_17)))))))
set_option maxHeartbeats 4000000 in
set_option maxRecDepth 100000 in
theorem wk_X6_binFor_0 (Q : Int32 → SA → SV → Prop) (cx : CX RX6 cX6_binFor 2 wsX6_binFor D [(cI, .int), (cZ, .boolean)] p s m args c A0) (hret : ∀ (pc : Nat) (ls : Array Slot) (r : Int32) (u : SA × SV) (H : Heap) (locs : List Loc), narrow .int (.int r) = .int r → decode cX6_binFor pc = .ok (.ireturn, 1) → Q r u.1 u.2 → WS D s A0 (wM ad cI cZ u.1 u.2) H locs → W p l e rmX6_binFor s m args below meth c H locs rmX6_binFor.cells rmX6_binFor.slots Z (F0 m pc ls [.int r]))  : ∀ (A : SA) (V : SV) (x1 : Int32) (h : wb_X6_binFor_0 Q A V x1) (H : Heap) (locs : List Loc) (ls : Array Slot) (hw : WS D s A0 (wM ad cI cZ A V) H locs) (hl : lv_has ls 2 [(0, .ref (ad 0)), (1, .int x1)]), W p l e rmX6_binFor s m args below meth c H locs 0 0 Z (F0 m 0 ls []) := by
  obtain ⟨hx, hb, hml, hown, hts, hK, hA⟩ := id cx
  intro A V x1 h H locs ls hw hl
  refine lv_aload_n (pc := 0) hx hb dX6_binFor_0 rfl (lv_at hl 0 rfl) ?_
  refine lv_iconst (pc := 1) (v := (0 : Int32)) hx hb dX6_binFor_1 (by decide) ?_
  refine puM_X6_0 (pc := 2) cx inX6_binFor_X6 kX6_binFor_42 hw dX6_binFor_2 (fun V_1 eV_1 H locs hw => ?_)
  have h := h V_1 eV_1
  refine lv_aload_n (pc := 5) hx hb dX6_binFor_5 rfl (lv_at hl 0 rfl) ?_
  refine lv_iload_n (pc := 6) hx hb dX6_binFor_6 rfl (lv_at hl 1 rfl) ?_
  refine callVi (pc := 7) (rest := []) (c1 := 0) (s1 := 0) cx hw hl (metX6_isOne l D cI cZ ad H.size A V_1 x1 _ h) (fun hts => cwV 1 hts gX6_binFor_X6_isOne rfl rfl rfl (by decide +kernel) ⟨Nat.le_of_ble_eq_true rfl, Nat.le_of_ble_eq_true rfl⟩) SUB.rf [0, 1] rfl 0 (ci := 6) rfl rfl rfl (JN.rf) rfl rfl (Nat.le_of_ble_eq_true rfl) ⟨Nat.le_of_ble_eq_true rfl, Nat.le_of_ble_eq_true rfl⟩ rfl rfl dX6_binFor_7 (fun r2 u H locs h hw => ?_)
  obtain ⟨A_5, V_6⟩ := u
  refine lv_if_eq (pc := 10) (tgt := 21) hx hb dX6_binFor_10 (by decide) (fun c7 => ?_) (fun c7 => ?_)
  · have h := h.1 c7
    refine lv_aload_n (pc := 21) hx hb dX6_binFor_21 rfl (lv_at hl 0 rfl) ?_
    refine lv_iconst (pc := 22) (v := (1 : Int32)) hx hb dX6_binFor_22 (by decide) ?_
    refine callVi (pc := 23) (rest := []) (c1 := 0) (s1 := 0) cx hw hl (metX6_fail l D cI cZ ad H.size A_5 V_6 (1 : Int32) _ h) (fun hts => cwV 1 hts gX6_binFor_X6_fail rfl rfl rfl (by decide +kernel) ⟨Nat.le_of_ble_eq_true rfl, Nat.le_of_ble_eq_true rfl⟩) SUB.rf [0, 1] rfl 0 (ci := 6) rfl rfl rfl (JN.rf) rfl rfl (Nat.le_of_ble_eq_true rfl) ⟨Nat.le_of_ble_eq_true rfl, Nat.le_of_ble_eq_true rfl⟩ rfl rfl dX6_binFor_23 (fun r8 u H locs h hw => ?_)
    obtain ⟨A_11, V_12⟩ := u
    exact hret 26 _ _ (A_11, V_12) _ _ rfl dX6_binFor_26 h hw
  · have h := h.2 c7
    refine lv_aload_n (pc := 13) hx hb dX6_binFor_13 rfl (lv_at hl 0 rfl) ?_
    refine lv_iload_n (pc := 14) hx hb dX6_binFor_14 rfl (lv_at hl 1 rfl) ?_
    refine callVi (pc := 15) (rest := []) (c1 := 0) (s1 := 0) cx hw hl (metX6_binOf l D cI cZ ad H.size A_5 V_6 x1 _ h) (fun hts => cwV 1 hts gX6_binFor_X6_binOf rfl rfl rfl (by decide +kernel) ⟨Nat.le_of_ble_eq_true rfl, Nat.le_of_ble_eq_true rfl⟩) SUB.rf [0, 1] rfl 0 (ci := 6) rfl rfl rfl (JN.rf) rfl rfl (Nat.le_of_ble_eq_true rfl) ⟨Nat.le_of_ble_eq_true rfl, Nat.le_of_ble_eq_true rfl⟩ rfl rfl dX6_binFor_15 (fun r13 u H locs h hw => ?_)
    obtain ⟨A_16, V_17⟩ := u
    refine lv_goto (pc := 18) (tgt := 26) hx hb dX6_binFor_18 (by decide) ?_
    exact hret 26 _ _ (A_16, V_17) _ _ rfl dX6_binFor_26 h hw
def wpX6_binFor (A : SA) (V : SV) (x1 : Int32) (Q : Int32 → SA → SV → Prop) : Prop := wb_X6_binFor_0 Q A V x1
set_option maxHeartbeats 4000000 in
set_option maxRecDepth 100000 in
theorem metX6_binFor (l : Launch) (D : va_G) (cI cZ : ClassId) (ad : Nat → Nat) (sz : Nat) (A : SA) (V : SV) (x1 : Int32) (Q : Int32 → SA → SV → Prop) (h : wpX6_binFor A V x1 Q) : Met l yX6_binFor wsX6_binFor rmX6_binFor (PcW D [(cI, .int), (cZ, .boolean)] (wM ad cI cZ A V) sz [.ref (ad 0), .int x1]) (QiW D [(cI, .int), (cZ, .boolean)] (wM ad cI cZ A V) sz (fun u : SA × SV => (wM ad cI cZ u.1 u.2)) (fun r u => Q r u.1 u.2)) rmX6_binFor.cells rmX6_binFor.slots (va_A (wM ad cI cZ A V) sz) := by
  refine startI (plainFor_of_name (by decide)) rfl (Nat.le_of_ble_eq_true rfl) ?_
  intro p e s m args below meth c A0 Z cx hw hret ls hl
  exact wk_X6_binFor_0 Q cx hret A V x1 h _ _ _ hw hl
abbrev rmX6_ahead (g : Nat) : Room := { frames := 6, cells := g, slots := 9 * g, locals := 153 }
theorem inX6_ahead_X6 : ∀ w ∈ wsX60, w ∈ wsX6_ahead := by decide +kernel
theorem kX6_ahead_20 : Cond.fieldLink RX6 20 "DrownedPostModel" "ones" "[I" ∈ wsX6_ahead := by decide +kernel
theorem kX6_ahead_23 : Cond.fieldLink RX6 23 "DrownedPostModel" "table" "[I" ∈ wsX6_ahead := by decide +kernel
theorem kX6_ahead_32 : Cond.fieldLink RX6 32 "DrownedPostModel" "spareOnes" "[I" ∈ wsX6_ahead := by decide +kernel
theorem kX6_ahead_35 : Cond.fieldLink RX6 35 "DrownedPostModel" "spareTable" "[I" ∈ wsX6_ahead := by decide +kernel
theorem kX6_ahead_70 : Cond.fieldLink RX6 70 "DrownedPostModel" "letters" "I" ∈ wsX6_ahead := by decide +kernel
theorem kX6_ahead_73 : Cond.methodLink RX6 73 arraycopyName ∈ wsX6_ahead := by decide +kernel
theorem kX6_ahead_96 : Cond.fieldLink RX6 96 "DrownedPostModel" "hour" "I" ∈ wsX6_ahead := by decide +kernel
theorem kX6_ahead_w_initialized__java_lang_System_ : Cond.initialized "java/lang/System" ∈ wsX6_ahead := by decide +kernel
theorem kX6_ahead_w_native_arraycopyName : Cond.native arraycopyName ∈ wsX6_ahead := by decide +kernel
theorem kX6_ahead_w_static_arraycopyName : Cond.static arraycopyName ∈ wsX6_ahead := by decide +kernel
def wb_X6_ahead_86 (Q : Int32 → SA → SV → Prop) (g : Nat) (k0 : Nat) (A : SA) (V : SV) (x4 : Int32) (x5 : Int32) (t0 : Int32) : Prop := (¬ (0 : Int32) < 0 ∧ ¬ (0 : Int32) < 0 ∧ ¬ (80 : Int32) < 0 ∧ (0 : Int32).toNatClampNeg + (80 : Int32).toNatClampNeg ≤ 80 ∧ (0 : Int32).toNatClampNeg + (80 : Int32).toNatClampNeg ≤ 80 ∧ (∀ A_21 : SA, A_21 = ua A 2 (va_cpy (A 4) (A 2) (0 : Int32).toNatClampNeg (0 : Int32).toNatClampNeg (80 : Int32).toNatClampNeg) → (¬ (0 : Int32) < 0 ∧ ¬ (0 : Int32) < 0 ∧ ¬ (1350 : Int32) < 0 ∧ (0 : Int32).toNatClampNeg + (1350 : Int32).toNatClampNeg ≤ 1350 ∧ (0 : Int32).toNatClampNeg + (1350 : Int32).toNatClampNeg ≤ 1350 ∧ (∀ A_22 : SA, A_22 = ua A_21 3 (va_cpy (A_21 5) (A_21 3) (0 : Int32).toNatClampNeg (0 : Int32).toNatClampNeg (1350 : Int32).toNatClampNeg) → (∀ V_23 : SV, V_23 = uv V 1 x4 → (∀ V_24 : SV, V_24 = uv V_23 5 x5 → Q t0 A_22 V_24))))))
set_option maxHeartbeats 4000000 in
set_option maxRecDepth 100000 in
theorem wk_X6_ahead_86 (Q : Int32 → SA → SV → Prop) (g : Nat) (cx : CX RX6 cX6_ahead 7 wsX6_ahead D [(cI, .int), (cZ, .boolean)] p s m args c A0) (hret : ∀ (pc : Nat) (ls : Array Slot) (r : Int32) (u : SA × SV) (H : Heap) (locs : List Loc), narrow .int (.int r) = .int r → decode cX6_ahead pc = .ok (.ireturn, 1) → Q r u.1 u.2 → WS D s A0 (wM ad cI cZ u.1 u.2) H locs → W p l e (rmX6_ahead g) s m args below meth c H locs (rmX6_ahead g).cells (rmX6_ahead g).slots Z (F0 m pc ls [.int r]))  : ∀ (k0 : Nat) (A : SA) (V : SV) (x4 : Int32) (x5 : Int32) (t0 : Int32) (h : wb_X6_ahead_86 Q g k0 A V x4 x5 t0) (hgc : k0 ≤ g) (H : Heap) (locs : List Loc) (ls : Array Slot) (hw : WS D s A0 (wM ad cI cZ A V) H locs) (hl : lv_has ls 7 [(0, .ref (ad 0)), (4, .int x4), (5, .int x5)]), W p l e (rmX6_ahead g) s m args below meth c H locs k0 (9 * k0) Z (F0 m 86 ls [.int t0]) := by
  obtain ⟨hx, hb, hml, hown, hts, hK, hA⟩ := id cx
  intro k0 A V x4 x5 t0 h hgc H locs ls hw hl
  refine lv_istore (pc := 86) (lv' := [(6, .int t0), (0, .ref (ad 0)), (4, .int x4), (5, .int x5)]) hx hb dX6_ahead_86 hl (by decide) rfl (fun ls hl => ?_)
  refine lv_aload_n (pc := 88) hx hb dX6_ahead_88 rfl (lv_at hl 1 rfl) ?_
  refine geM_X6_12 (pc := 89) cx inX6_ahead_X6 kX6_ahead_32 hw dX6_ahead_89 ?_
  refine lv_iconst (pc := 92) (v := (0 : Int32)) hx hb dX6_ahead_92 (by decide) ?_
  refine lv_aload_n (pc := 93) hx hb dX6_ahead_93 rfl (lv_at hl 1 rfl) ?_
  refine geM_X6_7 (pc := 94) cx inX6_ahead_X6 kX6_ahead_20 hw dX6_ahead_94 ?_
  refine lv_iconst (pc := 97) (v := (0 : Int32)) hx hb dX6_ahead_97 (by decide) ?_
  refine lv_aload_n (pc := 98) hx hb dX6_ahead_98 rfl (lv_at hl 1 rfl) ?_
  refine geM_X6_7 (pc := 99) cx inX6_ahead_X6 kX6_ahead_20 hw dX6_ahead_99 ?_
  refine alenG (pc := 102) cx hw 3 0 rfl rfl (v := (80 : Int32)) rfl dX6_ahead_102 ?_
  obtain ⟨A_21, eA_21⟩ : ∃ z, z = ua A 2 (va_cpy (A 4) (A 2) (0 : Int32).toNatClampNeg (0 : Int32).toNatClampNeg (80 : Int32).toNatClampNeg) := ⟨_, rfl⟩
  refine cpI (pc := 103) cx hl (hts _ kX6_ahead_73) (hts _ kX6_ahead_w_native_arraycopyName) (hts _ kX6_ahead_w_static_arraycopyName) (hts _ kX6_ahead_w_initialized__java_lang_System_) hw 5 3 0 0 rfl rfl rfl rfl h.1 h.2.1 h.2.2.1 h.2.2.2.1 h.2.2.2.2.1 (Nat.le_of_ble_eq_true rfl) (Nat.le_of_ble_eq_true rfl) (ws1 := wM ad cI cZ A_21 V) (by rw [eA_21]; rfl) dX6_ahead_103 (fun H locs hw => ?_)
  have h := h.2.2.2.2.2 A_21 eA_21
  refine lv_aload_n (pc := 106) hx hb dX6_ahead_106 rfl (lv_at hl 1 rfl) ?_
  refine geM_X6_13 (pc := 107) cx inX6_ahead_X6 kX6_ahead_35 hw dX6_ahead_107 ?_
  refine lv_iconst (pc := 110) (v := (0 : Int32)) hx hb dX6_ahead_110 (by decide) ?_
  refine lv_aload_n (pc := 111) hx hb dX6_ahead_111 rfl (lv_at hl 1 rfl) ?_
  refine geM_X6_9 (pc := 112) cx inX6_ahead_X6 kX6_ahead_23 hw dX6_ahead_112 ?_
  refine lv_iconst (pc := 115) (v := (0 : Int32)) hx hb dX6_ahead_115 (by decide) ?_
  refine lv_aload_n (pc := 116) hx hb dX6_ahead_116 rfl (lv_at hl 1 rfl) ?_
  refine geM_X6_9 (pc := 117) cx inX6_ahead_X6 kX6_ahead_23 hw dX6_ahead_117 ?_
  refine alenG (pc := 120) cx hw 4 0 rfl rfl (v := (1350 : Int32)) rfl dX6_ahead_120 ?_
  obtain ⟨A_22, eA_22⟩ : ∃ z, z = ua A_21 3 (va_cpy (A_21 5) (A_21 3) (0 : Int32).toNatClampNeg (0 : Int32).toNatClampNeg (1350 : Int32).toNatClampNeg) := ⟨_, rfl⟩
  refine cpI (pc := 121) cx hl (hts _ kX6_ahead_73) (hts _ kX6_ahead_w_native_arraycopyName) (hts _ kX6_ahead_w_static_arraycopyName) (hts _ kX6_ahead_w_initialized__java_lang_System_) hw 6 4 0 0 rfl rfl rfl rfl h.1 h.2.1 h.2.2.1 h.2.2.2.1 h.2.2.2.2.1 (Nat.le_of_ble_eq_true rfl) (Nat.le_of_ble_eq_true rfl) (ws1 := wM ad cI cZ A_22 V) (by rw [eA_22]; rfl) dX6_ahead_121 (fun H locs hw => ?_)
  have h := h.2.2.2.2.2 A_22 eA_22
  refine lv_aload_n (pc := 124) hx hb dX6_ahead_124 rfl (lv_at hl 1 rfl) ?_
  refine lv_iload (pc := 125) hx hb dX6_ahead_125 (lv_at hl 2 rfl) ?_
  refine puM_X6_1 (pc := 127) cx inX6_ahead_X6 kX6_ahead_96 hw dX6_ahead_127 (fun V_23 eV_23 H locs hw => ?_)
  have h := h V_23 eV_23
  refine lv_aload_n (pc := 130) hx hb dX6_ahead_130 rfl (lv_at hl 1 rfl) ?_
  refine lv_iload (pc := 131) hx hb dX6_ahead_131 (lv_at hl 3 rfl) ?_
  refine puM_X6_8 (pc := 133) cx inX6_ahead_X6 kX6_ahead_70 hw dX6_ahead_133 (fun V_24 eV_24 H locs hw => ?_)
  have h := h V_24 eV_24
  refine lv_iload (pc := 136) hx hb dX6_ahead_136 (lv_at hl 0 rfl) ?_
  refine W.widen (k := g) (n := 9 * g) hgc (Nat.mul_le_mul_left 9 hgc) ?_
  exact hret 138 _ _ (A_22, V_24) _ _ rfl dX6_ahead_138 h hw
def wl_X6_ahead_51 (Q : Int32 → SA → SV → Prop) (g : Nat) : Nat → Nat → SA → SV → Int32 → Int32 → Int32 → Int32 → Int32 → Int32 → Prop
  | 0, _, _, _, _, _, _, _, _, _ => False
  | n + 1, k0, A, V, x1, x2, x3, x4, x5, x6 => ((x1 ≤ x6 → ((¬ x3 = (-1 : Int32) → (wpX6_get A V x3 (3 : Int32) (fun r5 A_8 V_9 => (wb_X6_ahead_86 Q g k0 A_8 V_9 x4 x5 r5)))) ∧ (x3 = (-1 : Int32) → (wpX6_many A V x2 (fun r10 A_13 V_14 => (wb_X6_ahead_86 Q g k0 A_13 V_14 x4 x5 r10)))))) ∧ (¬ (x1 ≤ x6) → (∃ g18 : Nat, k0 + g18 ≤ g ∧ (wpX6_passOne g18 A V (fun A_19 V_20 => wl_X6_ahead_51 Q g n (k0 + g18) A_19 V_20 x1 x2 x3 x4 x5 (x6 + 1))))))
set_option maxHeartbeats 4000000 in
set_option maxRecDepth 100000 in
theorem wk_X6_ahead_51 (Q : Int32 → SA → SV → Prop) (g : Nat) (cx : CX RX6 cX6_ahead 7 wsX6_ahead D [(cI, .int), (cZ, .boolean)] p s m args c A0) (hret : ∀ (pc : Nat) (ls : Array Slot) (r : Int32) (u : SA × SV) (H : Heap) (locs : List Loc), narrow .int (.int r) = .int r → decode cX6_ahead pc = .ok (.ireturn, 1) → Q r u.1 u.2 → WS D s A0 (wM ad cI cZ u.1 u.2) H locs → W p l e (rmX6_ahead g) s m args below meth c H locs (rmX6_ahead g).cells (rmX6_ahead g).slots Z (F0 m pc ls [.int r]))  : ∀ (n : Nat) (k0 : Nat) (A : SA) (V : SV) (x1 : Int32) (x2 : Int32) (x3 : Int32) (x4 : Int32) (x5 : Int32) (x6 : Int32) (h : wl_X6_ahead_51 Q g n k0 A V x1 x2 x3 x4 x5 x6) (hgc : k0 ≤ g) (H : Heap) (locs : List Loc) (ls : Array Slot) (hw : WS D s A0 (wM ad cI cZ A V) H locs) (hl : lv_has ls 7 [(0, .ref (ad 0)), (1, .int x1), (2, .int x2), (3, .int x3), (4, .int x4), (5, .int x5), (6, .int x6)]), W p l e (rmX6_ahead g) s m args below meth c H locs k0 (9 * k0) Z (F0 m 51 ls []) := by
  obtain ⟨hx, hb, hml, hown, hts, hK, hA⟩ := id cx
  intro n
  induction n with
  | zero => intro k0 A V x1 x2 x3 x4 x5 x6 h; exact False.elim h
  | succ n ih =>
    intro k0 A V x1 x2 x3 x4 x5 x6 h hgc H locs ls hw hl
    refine lv_iload (pc := 51) hx hb dX6_ahead_51 (lv_at hl 6 rfl) ?_
    refine lv_iload_n (pc := 53) hx hb dX6_ahead_53 rfl (lv_at hl 1 rfl) ?_
    refine lv_icmp_ge (pc := 54) (tgt := 67) hx hb dX6_ahead_54 (by decide) (fun c3 => ?_) (fun c3 => ?_)
    · have h := h.1 c3
      refine lv_iload_n (pc := 67) hx hb dX6_ahead_67 rfl (lv_at hl 3 rfl) ?_
      refine lv_iconst (pc := 68) (v := (-1 : Int32)) hx hb dX6_ahead_68 (by decide) ?_
      refine lv_icmp_ne (pc := 69) (tgt := 80) hx hb dX6_ahead_69 (by decide) (fun c4 => ?_) (fun c4 => ?_)
      · have h := h.1 c4
        refine lv_aload_n (pc := 80) hx hb dX6_ahead_80 rfl (lv_at hl 0 rfl) ?_
        refine lv_iload_n (pc := 81) hx hb dX6_ahead_81 rfl (lv_at hl 3 rfl) ?_
        refine lv_iconst (pc := 82) (v := (3 : Int32)) hx hb dX6_ahead_82 (by decide) ?_
        refine callVi (pc := 83) (rest := []) (c1 := k0) (s1 := 9 * k0) cx hw hl (metX6_get l D cI cZ ad H.size A V x3 (3 : Int32) _ h) (fun hts => cwV 2 hts gX6_ahead_X6_get rfl rfl rfl (by decide +kernel) ⟨Nat.le_of_ble_eq_true rfl, Nat.le_of_ble_eq_true rfl⟩) SUB.rf [0, 1] rfl 0 (ci := 6) rfl rfl rfl (JN.rf) rfl rfl (Nat.le_of_ble_eq_true rfl) ⟨hgc, gas0 hgc⟩ rfl rfl dX6_ahead_83 (fun r5 u H locs h hw => ?_)
        obtain ⟨A_8, V_9⟩ := u
        exact wk_X6_ahead_86 Q g cx hret  k0 A_8 V_9 x4 x5 r5 h hgc _ _ _ hw (lv_sub hl [0, 4, 5] rfl)
      · have h := h.2 c4
        refine lv_aload_n (pc := 72) hx hb dX6_ahead_72 rfl (lv_at hl 0 rfl) ?_
        refine lv_iload_n (pc := 73) hx hb dX6_ahead_73 rfl (lv_at hl 2 rfl) ?_
        refine callVi (pc := 74) (rest := []) (c1 := k0) (s1 := 9 * k0) cx hw hl (metX6_many l D cI cZ ad H.size A V x2 _ h) (fun hts => cwV 1 hts gX6_ahead_X6_many rfl rfl rfl (by decide +kernel) ⟨Nat.le_of_ble_eq_true rfl, Nat.le_of_ble_eq_true rfl⟩) SUB.rf [0, 1] rfl 0 (ci := 6) rfl rfl rfl (JN.rf) rfl rfl (Nat.le_of_ble_eq_true rfl) ⟨hgc, gas0 hgc⟩ rfl rfl dX6_ahead_74 (fun r10 u H locs h hw => ?_)
        obtain ⟨A_13, V_14⟩ := u
        refine lv_goto (pc := 77) (tgt := 86) hx hb dX6_ahead_77 (by decide) ?_
        exact wk_X6_ahead_86 Q g cx hret  k0 A_13 V_14 x4 x5 r10 h hgc _ _ _ hw (lv_sub hl [0, 4, 5] rfl)
    · have h := h.2 c3
      refine lv_aload_n (pc := 57) hx hb dX6_ahead_57 rfl (lv_at hl 0 rfl) ?_
      obtain ⟨g18, hg, h⟩ := h
      refine callVv (pc := 58) (rest := []) (c1 := (k0 + g18)) (s1 := 9 * (k0 + g18)) cx hw hl (metX6_passOne l D cI cZ ad H.size g18 A V _ h) (fun hts => cwV 0 hts gX6_ahead_X6_passOne rfl rfl rfl (by decide +kernel) ⟨Nat.le_of_ble_eq_true rfl, Nat.le_of_ble_eq_true rfl⟩) SUB.rf [0, 1] rfl 0 (ci := 6) rfl rfl rfl (JN.rf) rfl rfl (Nat.le_of_ble_eq_true rfl) ⟨hg, gas1 hg⟩ rfl (Nat.mul_add 9 _ _).symm dX6_ahead_58 (fun u H locs h hw => ?_)
      obtain ⟨A_19, V_20⟩ := u
      have hgc := hg
      refine lv_iinc (pc := 61) (v := x6 + 1) (lv' := [(6, .int (x6 + 1)), (0, .ref (ad 0)), (1, .int x1), (2, .int x2), (3, .int x3), (4, .int x4), (5, .int x5)]) hx hb dX6_ahead_61 hl (k := 6) rfl rfl (by decide) rfl (fun ls hl => ?_)
      refine lv_goto (pc := 64) (tgt := 51) hx hb dX6_ahead_64 (by decide) ?_
      exact ih (k0 + g18) A_19 V_20 x1 x2 x3 x4 x5 (x6 + 1) h hgc _ _ _ hw (lv_sub hl [1, 2, 3, 4, 5, 6, 0] rfl)
def wb_X6_ahead_0 (Q : Int32 → SA → SV → Prop) (g : Nat) (k0 : Nat) (A : SA) (V : SV) (x1 : Int32) (x2 : Int32) (x3 : Int32) : Prop := (¬ (0 : Int32) < 0 ∧ ¬ (0 : Int32) < 0 ∧ ¬ (80 : Int32) < 0 ∧ (0 : Int32).toNatClampNeg + (80 : Int32).toNatClampNeg ≤ 80 ∧ (0 : Int32).toNatClampNeg + (80 : Int32).toNatClampNeg ≤ 80 ∧ (∀ A_1 : SA, A_1 = ua A 4 (va_cpy (A 2) (A 4) (0 : Int32).toNatClampNeg (0 : Int32).toNatClampNeg (80 : Int32).toNatClampNeg) → (¬ (0 : Int32) < 0 ∧ ¬ (0 : Int32) < 0 ∧ ¬ (1350 : Int32) < 0 ∧ (0 : Int32).toNatClampNeg + (1350 : Int32).toNatClampNeg ≤ 1350 ∧ (0 : Int32).toNatClampNeg + (1350 : Int32).toNatClampNeg ≤ 1350 ∧ (∀ A_2 : SA, A_2 = ua A_1 5 (va_cpy (A_1 3) (A_1 5) (0 : Int32).toNatClampNeg (0 : Int32).toNatClampNeg (1350 : Int32).toNatClampNeg) → (∃ n51 : Nat, wl_X6_ahead_51 Q g n51 k0 A_2 V x1 x2 x3 (V 1) (V 5) (0 : Int32))))))
set_option maxHeartbeats 4000000 in
set_option maxRecDepth 100000 in
theorem wk_X6_ahead_0 (Q : Int32 → SA → SV → Prop) (g : Nat) (cx : CX RX6 cX6_ahead 7 wsX6_ahead D [(cI, .int), (cZ, .boolean)] p s m args c A0) (hret : ∀ (pc : Nat) (ls : Array Slot) (r : Int32) (u : SA × SV) (H : Heap) (locs : List Loc), narrow .int (.int r) = .int r → decode cX6_ahead pc = .ok (.ireturn, 1) → Q r u.1 u.2 → WS D s A0 (wM ad cI cZ u.1 u.2) H locs → W p l e (rmX6_ahead g) s m args below meth c H locs (rmX6_ahead g).cells (rmX6_ahead g).slots Z (F0 m pc ls [.int r]))  : ∀ (k0 : Nat) (A : SA) (V : SV) (x1 : Int32) (x2 : Int32) (x3 : Int32) (h : wb_X6_ahead_0 Q g k0 A V x1 x2 x3) (hgc : k0 ≤ g) (H : Heap) (locs : List Loc) (ls : Array Slot) (hw : WS D s A0 (wM ad cI cZ A V) H locs) (hl : lv_has ls 7 [(0, .ref (ad 0)), (1, .int x1), (2, .int x2), (3, .int x3)]), W p l e (rmX6_ahead g) s m args below meth c H locs k0 (9 * k0) Z (F0 m 0 ls []) := by
  obtain ⟨hx, hb, hml, hown, hts, hK, hA⟩ := id cx
  intro k0 A V x1 x2 x3 h hgc H locs ls hw hl
  refine lv_aload_n (pc := 0) hx hb dX6_ahead_0 rfl (lv_at hl 0 rfl) ?_
  refine geM_X6_1 (pc := 1) cx inX6_ahead_X6 kX6_ahead_96 hw dX6_ahead_1 ?_
  refine lv_istore (pc := 4) (lv' := [(4, .int (V 1)), (0, .ref (ad 0)), (1, .int x1), (2, .int x2), (3, .int x3)]) hx hb dX6_ahead_4 hl (by decide) rfl (fun ls hl => ?_)
  refine lv_aload_n (pc := 6) hx hb dX6_ahead_6 rfl (lv_at hl 1 rfl) ?_
  refine geM_X6_8 (pc := 7) cx inX6_ahead_X6 kX6_ahead_70 hw dX6_ahead_7 ?_
  refine lv_istore (pc := 10) (lv' := [(5, .int (V 5)), (4, .int (V 1)), (0, .ref (ad 0)), (1, .int x1), (2, .int x2), (3, .int x3)]) hx hb dX6_ahead_10 hl (by decide) rfl (fun ls hl => ?_)
  refine lv_aload_n (pc := 12) hx hb dX6_ahead_12 rfl (lv_at hl 2 rfl) ?_
  refine geM_X6_7 (pc := 13) cx inX6_ahead_X6 kX6_ahead_20 hw dX6_ahead_13 ?_
  refine lv_iconst (pc := 16) (v := (0 : Int32)) hx hb dX6_ahead_16 (by decide) ?_
  refine lv_aload_n (pc := 17) hx hb dX6_ahead_17 rfl (lv_at hl 2 rfl) ?_
  refine geM_X6_12 (pc := 18) cx inX6_ahead_X6 kX6_ahead_32 hw dX6_ahead_18 ?_
  refine lv_iconst (pc := 21) (v := (0 : Int32)) hx hb dX6_ahead_21 (by decide) ?_
  refine lv_aload_n (pc := 22) hx hb dX6_ahead_22 rfl (lv_at hl 2 rfl) ?_
  refine geM_X6_7 (pc := 23) cx inX6_ahead_X6 kX6_ahead_20 hw dX6_ahead_23 ?_
  refine alenG (pc := 26) cx hw 3 0 rfl rfl (v := (80 : Int32)) rfl dX6_ahead_26 ?_
  obtain ⟨A_1, eA_1⟩ : ∃ z, z = ua A 4 (va_cpy (A 2) (A 4) (0 : Int32).toNatClampNeg (0 : Int32).toNatClampNeg (80 : Int32).toNatClampNeg) := ⟨_, rfl⟩
  refine cpI (pc := 27) cx hl (hts _ kX6_ahead_73) (hts _ kX6_ahead_w_native_arraycopyName) (hts _ kX6_ahead_w_static_arraycopyName) (hts _ kX6_ahead_w_initialized__java_lang_System_) hw 3 5 0 0 rfl rfl rfl rfl h.1 h.2.1 h.2.2.1 h.2.2.2.1 h.2.2.2.2.1 (Nat.le_of_ble_eq_true rfl) (Nat.le_of_ble_eq_true rfl) (ws1 := wM ad cI cZ A_1 V) (by rw [eA_1]; rfl) dX6_ahead_27 (fun H locs hw => ?_)
  have h := h.2.2.2.2.2 A_1 eA_1
  refine lv_aload_n (pc := 30) hx hb dX6_ahead_30 rfl (lv_at hl 2 rfl) ?_
  refine geM_X6_9 (pc := 31) cx inX6_ahead_X6 kX6_ahead_23 hw dX6_ahead_31 ?_
  refine lv_iconst (pc := 34) (v := (0 : Int32)) hx hb dX6_ahead_34 (by decide) ?_
  refine lv_aload_n (pc := 35) hx hb dX6_ahead_35 rfl (lv_at hl 2 rfl) ?_
  refine geM_X6_13 (pc := 36) cx inX6_ahead_X6 kX6_ahead_35 hw dX6_ahead_36 ?_
  refine lv_iconst (pc := 39) (v := (0 : Int32)) hx hb dX6_ahead_39 (by decide) ?_
  refine lv_aload_n (pc := 40) hx hb dX6_ahead_40 rfl (lv_at hl 2 rfl) ?_
  refine geM_X6_9 (pc := 41) cx inX6_ahead_X6 kX6_ahead_23 hw dX6_ahead_41 ?_
  refine alenG (pc := 44) cx hw 4 0 rfl rfl (v := (1350 : Int32)) rfl dX6_ahead_44 ?_
  obtain ⟨A_2, eA_2⟩ : ∃ z, z = ua A_1 5 (va_cpy (A_1 3) (A_1 5) (0 : Int32).toNatClampNeg (0 : Int32).toNatClampNeg (1350 : Int32).toNatClampNeg) := ⟨_, rfl⟩
  refine cpI (pc := 45) cx hl (hts _ kX6_ahead_73) (hts _ kX6_ahead_w_native_arraycopyName) (hts _ kX6_ahead_w_static_arraycopyName) (hts _ kX6_ahead_w_initialized__java_lang_System_) hw 4 6 0 0 rfl rfl rfl rfl h.1 h.2.1 h.2.2.1 h.2.2.2.1 h.2.2.2.2.1 (Nat.le_of_ble_eq_true rfl) (Nat.le_of_ble_eq_true rfl) (ws1 := wM ad cI cZ A_2 V) (by rw [eA_2]; rfl) dX6_ahead_45 (fun H locs hw => ?_)
  have h := h.2.2.2.2.2 A_2 eA_2
  refine lv_iconst (pc := 48) (v := (0 : Int32)) hx hb dX6_ahead_48 (by decide) ?_
  refine lv_istore (pc := 49) (lv' := [(6, .int (0 : Int32)), (5, .int (V 5)), (4, .int (V 1)), (0, .ref (ad 0)), (1, .int x1), (2, .int x2), (3, .int x3)]) hx hb dX6_ahead_49 hl (by decide) rfl (fun ls hl => ?_)
  obtain ⟨n51, h⟩ := h
  exact wk_X6_ahead_51 Q g cx hret  n51 k0 A_2 V x1 x2 x3 (V 1) (V 5) (0 : Int32) h hgc _ _ _ hw (lv_sub hl [3, 4, 5, 6, 2, 1, 0] rfl)
def wpX6_ahead (g : Nat) (A : SA) (V : SV) (x1 : Int32) (x2 : Int32) (x3 : Int32) (Q : Int32 → SA → SV → Prop) : Prop := wb_X6_ahead_0 Q g 0 A V x1 x2 x3
set_option maxHeartbeats 4000000 in
set_option maxRecDepth 100000 in
theorem metX6_ahead (l : Launch) (D : va_G) (cI cZ : ClassId) (ad : Nat → Nat) (sz : Nat) (g : Nat) (A : SA) (V : SV) (x1 : Int32) (x2 : Int32) (x3 : Int32) (Q : Int32 → SA → SV → Prop) (h : wpX6_ahead g A V x1 x2 x3 Q) : Met l yX6_ahead wsX6_ahead (rmX6_ahead g) (PcW D [(cI, .int), (cZ, .boolean)] (wM ad cI cZ A V) sz [.ref (ad 0), .int x1, .int x2, .int x3]) (QiW D [(cI, .int), (cZ, .boolean)] (wM ad cI cZ A V) sz (fun u : SA × SV => (wM ad cI cZ u.1 u.2)) (fun r u => Q r u.1 u.2)) (rmX6_ahead g).cells (rmX6_ahead g).slots (va_A (wM ad cI cZ A V) sz) := by
  refine startI (plainFor_of_name (by decide)) rfl (Nat.le_of_ble_eq_true rfl) ?_
  intro p e s m args below meth c A0 Z cx hw hret ls hl
  exact wk_X6_ahead_0 Q g cx hret 0 A V x1 x2 x3 h (Nat.zero_le _) _ _ _ hw hl
abbrev rmX6_foresee (g : Nat) : Room := { frames := 7, cells := g, slots := 9 * g, locals := 179 }
theorem inX6_foresee_X6 : ∀ w ∈ wsX60, w ∈ wsX6_foresee := by decide +kernel
theorem kX6_foresee_42 : Cond.fieldLink RX6 42 "DrownedPostModel" "thrown" "I" ∈ wsX6_foresee := by decide +kernel
def wb_X6_foresee_54 (Q : Int32 → SA → SV → Prop) (g : Nat) (k0 : Nat) (A : SA) (V : SV) (x1 : Int32) (t0 : Int32) : Prop := (∃ g25 : Nat, k0 + g25 ≤ g ∧ (wpX6_ahead g25 A V x1 t0 (-1 : Int32) (fun r22 A_26 V_27 => (wpX6_many A_26 V_27 t0 (fun r28 A_31 V_32 => Q (r22 - r28) A_31 V_32)))))
set_option maxHeartbeats 4000000 in
set_option maxRecDepth 100000 in
theorem wk_X6_foresee_54 (Q : Int32 → SA → SV → Prop) (g : Nat) (cx : CX RX6 cX6_foresee 4 wsX6_foresee D [(cI, .int), (cZ, .boolean)] p s m args c A0) (hret : ∀ (pc : Nat) (ls : Array Slot) (r : Int32) (u : SA × SV) (H : Heap) (locs : List Loc), narrow .int (.int r) = .int r → decode cX6_foresee pc = .ok (.ireturn, 1) → Q r u.1 u.2 → WS D s A0 (wM ad cI cZ u.1 u.2) H locs → W p l e (rmX6_foresee g) s m args below meth c H locs (rmX6_foresee g).cells (rmX6_foresee g).slots Z (F0 m pc ls [.int r]))  : ∀ (k0 : Nat) (A : SA) (V : SV) (x1 : Int32) (t0 : Int32) (h : wb_X6_foresee_54 Q g k0 A V x1 t0) (hgc : k0 ≤ g) (H : Heap) (locs : List Loc) (ls : Array Slot) (hw : WS D s A0 (wM ad cI cZ A V) H locs) (hl : lv_has ls 4 [(0, .ref (ad 0)), (1, .int x1)]), W p l e (rmX6_foresee g) s m args below meth c H locs k0 (9 * k0) Z (F0 m 54 ls [.int t0]) := by
  obtain ⟨hx, hb, hml, hown, hts, hK, hA⟩ := id cx
  intro k0 A V x1 t0 h hgc H locs ls hw hl
  refine lv_istore_n (pc := 54) (lv' := [(3, .int t0), (0, .ref (ad 0)), (1, .int x1)]) hx hb dX6_foresee_54 rfl hl (by decide) rfl (fun ls hl => ?_)
  refine lv_aload_n (pc := 55) hx hb dX6_foresee_55 rfl (lv_at hl 1 rfl) ?_
  refine lv_iload_n (pc := 56) hx hb dX6_foresee_56 rfl (lv_at hl 2 rfl) ?_
  refine lv_iload_n (pc := 57) hx hb dX6_foresee_57 rfl (lv_at hl 0 rfl) ?_
  refine lv_iconst (pc := 58) (v := (-1 : Int32)) hx hb dX6_foresee_58 (by decide) ?_
  obtain ⟨g25, hg, h⟩ := h
  refine callVi (pc := 59) (rest := []) (c1 := (k0 + g25)) (s1 := 9 * (k0 + g25)) cx hw hl (metX6_ahead l D cI cZ ad H.size g25 A V x1 t0 (-1 : Int32) _ h) (fun hts => cwV 3 hts gX6_foresee_X6_ahead rfl rfl rfl (by decide +kernel) ⟨Nat.le_of_ble_eq_true rfl, Nat.le_of_ble_eq_true rfl⟩) SUB.rf [0, 1] rfl 0 (ci := 6) rfl rfl rfl (JN.rf) rfl rfl (Nat.le_of_ble_eq_true rfl) ⟨hg, gas1 hg⟩ rfl (Nat.mul_add 9 _ _).symm dX6_foresee_59 (fun r22 u H locs h hw => ?_)
  obtain ⟨A_26, V_27⟩ := u
  have hgc := hg
  refine lv_aload_n (pc := 62) hx hb dX6_foresee_62 rfl (lv_at hl 1 rfl) ?_
  refine lv_iload_n (pc := 63) hx hb dX6_foresee_63 rfl (lv_at hl 0 rfl) ?_
  refine callVi (pc := 64) (rest := [.int r22]) (c1 := (k0 + g25)) (s1 := 9 * (k0 + g25)) cx hw hl (metX6_many l D cI cZ ad H.size A_26 V_27 t0 _ h) (fun hts => cwV 1 hts gX6_foresee_X6_many rfl rfl rfl (by decide +kernel) ⟨Nat.le_of_ble_eq_true rfl, Nat.le_of_ble_eq_true rfl⟩) SUB.rf [0, 1] rfl 0 (ci := 6) rfl rfl rfl (JN.rf) rfl rfl (Nat.le_of_ble_eq_true rfl) ⟨hgc, gas0 hgc⟩ rfl rfl dX6_foresee_64 (fun r28 u H locs h hw => ?_)
  obtain ⟨A_31, V_32⟩ := u
  refine lv_isub (pc := 67) hx hb dX6_foresee_67 ?_
  refine W.widen (k := g) (n := 9 * g) hgc (Nat.mul_le_mul_left 9 hgc) ?_
  exact hret 68 _ _ (A_31, V_32) _ _ rfl dX6_foresee_68 h hw
def wb_X6_foresee_0 (Q : Int32 → SA → SV → Prop) (g : Nat) (k0 : Nat) (A : SA) (V : SV) (x1 : Int32) (x2 : Int32) : Prop := (∀ V_1 : SV, V_1 = uv V 0 (0 : Int32) → (wpX6_isIn x1 (1 : Int32) (100 : Int32) (fun r2 => ((¬ r2 = 0 → (wpX6_isIn x2 (0 : Int32) (2 : Int32) (fun r6 => ((¬ r6 = 0 → ((¬ x2 = 0 → ((¬ x2 = (1 : Int32) → (wb_X6_foresee_54 Q g k0 A V_1 x1 (5 : Int32))) ∧ (x2 = (1 : Int32) → (wb_X6_foresee_54 Q g k0 A V_1 x1 (3 : Int32))))) ∧ (x2 = 0 → (wb_X6_foresee_54 Q g k0 A V_1 x1 (2 : Int32))))) ∧ (r6 = 0 → (wpX6_fail A V_1 (2 : Int32) (fun r12 A_15 V_16 => Q r12 A_15 V_16))))))) ∧ (r2 = 0 → (wpX6_fail A V_1 (1 : Int32) (fun r17 A_20 V_21 => Q r17 A_20 V_21)))))))
set_option maxHeartbeats 4000000 in
set_option maxRecDepth 100000 in
theorem wk_X6_foresee_0 (Q : Int32 → SA → SV → Prop) (g : Nat) (cx : CX RX6 cX6_foresee 4 wsX6_foresee D [(cI, .int), (cZ, .boolean)] p s m args c A0) (hret : ∀ (pc : Nat) (ls : Array Slot) (r : Int32) (u : SA × SV) (H : Heap) (locs : List Loc), narrow .int (.int r) = .int r → decode cX6_foresee pc = .ok (.ireturn, 1) → Q r u.1 u.2 → WS D s A0 (wM ad cI cZ u.1 u.2) H locs → W p l e (rmX6_foresee g) s m args below meth c H locs (rmX6_foresee g).cells (rmX6_foresee g).slots Z (F0 m pc ls [.int r]))  : ∀ (k0 : Nat) (A : SA) (V : SV) (x1 : Int32) (x2 : Int32) (h : wb_X6_foresee_0 Q g k0 A V x1 x2) (hgc : k0 ≤ g) (H : Heap) (locs : List Loc) (ls : Array Slot) (hw : WS D s A0 (wM ad cI cZ A V) H locs) (hl : lv_has ls 4 [(0, .ref (ad 0)), (1, .int x1), (2, .int x2)]), W p l e (rmX6_foresee g) s m args below meth c H locs k0 (9 * k0) Z (F0 m 0 ls []) := by
  obtain ⟨hx, hb, hml, hown, hts, hK, hA⟩ := id cx
  intro k0 A V x1 x2 h hgc H locs ls hw hl
  refine lv_aload_n (pc := 0) hx hb dX6_foresee_0 rfl (lv_at hl 0 rfl) ?_
  refine lv_iconst (pc := 1) (v := (0 : Int32)) hx hb dX6_foresee_1 (by decide) ?_
  refine puM_X6_0 (pc := 2) cx inX6_foresee_X6 kX6_foresee_42 hw dX6_foresee_2 (fun V_1 eV_1 H locs hw => ?_)
  have h := h V_1 eV_1
  refine lv_iload_n (pc := 5) hx hb dX6_foresee_5 rfl (lv_at hl 1 rfl) ?_
  refine lv_iconst (pc := 6) (v := (1 : Int32)) hx hb dX6_foresee_6 (by decide) ?_
  refine lv_bipush (pc := 7) (v := (100 : Int32)) hx hb dX6_foresee_7 (by decide) ?_
  refine callSi (pc := 9) (rest := []) (c1 := k0) (s1 := 9 * k0) cx hw hl (metX6_isIn l D [] H.size x1 (1 : Int32) (100 : Int32) _ h) (fun hts => va_cwS 3 hts gX6_foresee_X6_isIn rfl rfl rfl (by decide +kernel) ⟨Nat.le_of_ble_eq_true rfl, Nat.le_of_ble_eq_true rfl⟩) SUB.nil [] rfl (JN.nil (S := Unit)) rfl rfl (Nat.le_of_ble_eq_true rfl) ⟨hgc, gas0 hgc⟩ rfl rfl dX6_foresee_9 (fun r2 u H locs h hw => ?_)
  refine lv_if_ne (pc := 12) (tgt := 21) hx hb dX6_foresee_12 (by decide) (fun c5 => ?_) (fun c5 => ?_)
  · have h := h.1 c5
    refine lv_iload_n (pc := 21) hx hb dX6_foresee_21 rfl (lv_at hl 2 rfl) ?_
    refine lv_iconst (pc := 22) (v := (0 : Int32)) hx hb dX6_foresee_22 (by decide) ?_
    refine lv_iconst (pc := 23) (v := (2 : Int32)) hx hb dX6_foresee_23 (by decide) ?_
    refine callSi (pc := 24) (rest := []) (c1 := k0) (s1 := 9 * k0) cx hw hl (metX6_isIn l D [] H.size x2 (0 : Int32) (2 : Int32) _ h) (fun hts => va_cwS 3 hts gX6_foresee_X6_isIn rfl rfl rfl (by decide +kernel) ⟨Nat.le_of_ble_eq_true rfl, Nat.le_of_ble_eq_true rfl⟩) SUB.nil [] rfl (JN.nil (S := Unit)) rfl rfl (Nat.le_of_ble_eq_true rfl) ⟨hgc, gas0 hgc⟩ rfl rfl dX6_foresee_24 (fun r6 u H locs h hw => ?_)
    refine lv_if_ne (pc := 27) (tgt := 36) hx hb dX6_foresee_27 (by decide) (fun c9 => ?_) (fun c9 => ?_)
    · have h := h.1 c9
      refine lv_iload_n (pc := 36) hx hb dX6_foresee_36 rfl (lv_at hl 2 rfl) ?_
      refine lv_if_ne (pc := 37) (tgt := 44) hx hb dX6_foresee_37 (by decide) (fun c10 => ?_) (fun c10 => ?_)
      · have h := h.1 c10
        refine lv_iload_n (pc := 44) hx hb dX6_foresee_44 rfl (lv_at hl 2 rfl) ?_
        refine lv_iconst (pc := 45) (v := (1 : Int32)) hx hb dX6_foresee_45 (by decide) ?_
        refine lv_icmp_ne (pc := 46) (tgt := 53) hx hb dX6_foresee_46 (by decide) (fun c11 => ?_) (fun c11 => ?_)
        · have h := h.1 c11
          refine lv_iconst (pc := 53) (v := (5 : Int32)) hx hb dX6_foresee_53 (by decide) ?_
          exact wk_X6_foresee_54 Q g cx hret  k0 A V_1 x1 (5 : Int32) h hgc _ _ _ hw (lv_sub hl [0, 1] rfl)
        · have h := h.2 c11
          refine lv_iconst (pc := 49) (v := (3 : Int32)) hx hb dX6_foresee_49 (by decide) ?_
          refine lv_goto (pc := 50) (tgt := 54) hx hb dX6_foresee_50 (by decide) ?_
          exact wk_X6_foresee_54 Q g cx hret  k0 A V_1 x1 (3 : Int32) h hgc _ _ _ hw (lv_sub hl [0, 1] rfl)
      · have h := h.2 c10
        refine lv_iconst (pc := 40) (v := (2 : Int32)) hx hb dX6_foresee_40 (by decide) ?_
        refine lv_goto (pc := 41) (tgt := 54) hx hb dX6_foresee_41 (by decide) ?_
        exact wk_X6_foresee_54 Q g cx hret  k0 A V_1 x1 (2 : Int32) h hgc _ _ _ hw (lv_sub hl [0, 1] rfl)
    · have h := h.2 c9
      refine lv_aload_n (pc := 30) hx hb dX6_foresee_30 rfl (lv_at hl 0 rfl) ?_
      refine lv_iconst (pc := 31) (v := (2 : Int32)) hx hb dX6_foresee_31 (by decide) ?_
      refine callVi (pc := 32) (rest := []) (c1 := k0) (s1 := 9 * k0) cx hw hl (metX6_fail l D cI cZ ad H.size A V_1 (2 : Int32) _ h) (fun hts => cwV 1 hts gX6_foresee_X6_fail rfl rfl rfl (by decide +kernel) ⟨Nat.le_of_ble_eq_true rfl, Nat.le_of_ble_eq_true rfl⟩) SUB.rf [0, 1] rfl 0 (ci := 6) rfl rfl rfl (JN.rf) rfl rfl (Nat.le_of_ble_eq_true rfl) ⟨hgc, gas0 hgc⟩ rfl rfl dX6_foresee_32 (fun r12 u H locs h hw => ?_)
      obtain ⟨A_15, V_16⟩ := u
      refine W.widen (k := g) (n := 9 * g) hgc (Nat.mul_le_mul_left 9 hgc) ?_
      exact hret 35 _ _ (A_15, V_16) _ _ rfl dX6_foresee_35 h hw
  · have h := h.2 c5
    refine lv_aload_n (pc := 15) hx hb dX6_foresee_15 rfl (lv_at hl 0 rfl) ?_
    refine lv_iconst (pc := 16) (v := (1 : Int32)) hx hb dX6_foresee_16 (by decide) ?_
    refine callVi (pc := 17) (rest := []) (c1 := k0) (s1 := 9 * k0) cx hw hl (metX6_fail l D cI cZ ad H.size A V_1 (1 : Int32) _ h) (fun hts => cwV 1 hts gX6_foresee_X6_fail rfl rfl rfl (by decide +kernel) ⟨Nat.le_of_ble_eq_true rfl, Nat.le_of_ble_eq_true rfl⟩) SUB.rf [0, 1] rfl 0 (ci := 6) rfl rfl rfl (JN.rf) rfl rfl (Nat.le_of_ble_eq_true rfl) ⟨hgc, gas0 hgc⟩ rfl rfl dX6_foresee_17 (fun r17 u H locs h hw => ?_)
    obtain ⟨A_20, V_21⟩ := u
    refine W.widen (k := g) (n := 9 * g) hgc (Nat.mul_le_mul_left 9 hgc) ?_
    exact hret 20 _ _ (A_20, V_21) _ _ rfl dX6_foresee_20 h hw
def wpX6_foresee (g : Nat) (A : SA) (V : SV) (x1 : Int32) (x2 : Int32) (Q : Int32 → SA → SV → Prop) : Prop := wb_X6_foresee_0 Q g 0 A V x1 x2
set_option maxHeartbeats 4000000 in
set_option maxRecDepth 100000 in
theorem metX6_foresee (l : Launch) (D : va_G) (cI cZ : ClassId) (ad : Nat → Nat) (sz : Nat) (g : Nat) (A : SA) (V : SV) (x1 : Int32) (x2 : Int32) (Q : Int32 → SA → SV → Prop) (h : wpX6_foresee g A V x1 x2 Q) : Met l yX6_foresee wsX6_foresee (rmX6_foresee g) (PcW D [(cI, .int), (cZ, .boolean)] (wM ad cI cZ A V) sz [.ref (ad 0), .int x1, .int x2]) (QiW D [(cI, .int), (cZ, .boolean)] (wM ad cI cZ A V) sz (fun u : SA × SV => (wM ad cI cZ u.1 u.2)) (fun r u => Q r u.1 u.2)) (rmX6_foresee g).cells (rmX6_foresee g).slots (va_A (wM ad cI cZ A V) sz) := by
  refine startI (plainFor_of_name (by decide)) rfl (Nat.le_of_ble_eq_true rfl) ?_
  intro p e s m args below meth c A0 Z cx hw hret ls hl
  exact wk_X6_foresee_0 Q g cx hret 0 A V x1 x2 h (Nat.zero_le _) _ _ _ hw hl
abbrev rmX6_fate (g : Nat) : Room := { frames := 7, cells := g, slots := 9 * g, locals := 179 }
theorem inX6_fate_X6 : ∀ w ∈ wsX60, w ∈ wsX6_fate := by decide +kernel
theorem kX6_fate_42 : Cond.fieldLink RX6 42 "DrownedPostModel" "thrown" "I" ∈ wsX6_fate := by decide +kernel
def wb_X6_fate_0 (Q : Int32 → SA → SV → Prop) (g : Nat) (k0 : Nat) (A : SA) (V : SV) (x1 : Int32) (x2 : Int32) : Prop := (∀ V_1 : SV, V_1 = uv V 0 (0 : Int32) → (wpX6_isLetter A V_1 x1 (fun r2 A_5 V_6 => ((¬ r2 = 0 → (wpX6_isIn x2 (1 : Int32) (100 : Int32) (fun r8 => ((r8 = 0 → (wpX6_fail A_5 V_6 (2 : Int32) (fun r12 A_15 V_16 => Q r12 A_15 V_16))) ∧ (¬ (r8 = 0) → (∃ g20 : Nat, k0 + g20 ≤ g ∧ (wpX6_ahead g20 A_5 V_6 x2 (0 : Int32) x1 (fun r17 A_21 V_22 => Q r17 A_21 V_22)))))))) ∧ (r2 = 0 → (wpX6_fail A_5 V_6 (1 : Int32) (fun r23 A_26 V_27 => Q r23 A_26 V_27)))))))
set_option maxHeartbeats 4000000 in
set_option maxRecDepth 100000 in
theorem wk_X6_fate_0 (Q : Int32 → SA → SV → Prop) (g : Nat) (cx : CX RX6 cX6_fate 3 wsX6_fate D [(cI, .int), (cZ, .boolean)] p s m args c A0) (hret : ∀ (pc : Nat) (ls : Array Slot) (r : Int32) (u : SA × SV) (H : Heap) (locs : List Loc), narrow .int (.int r) = .int r → decode cX6_fate pc = .ok (.ireturn, 1) → Q r u.1 u.2 → WS D s A0 (wM ad cI cZ u.1 u.2) H locs → W p l e (rmX6_fate g) s m args below meth c H locs (rmX6_fate g).cells (rmX6_fate g).slots Z (F0 m pc ls [.int r]))  : ∀ (k0 : Nat) (A : SA) (V : SV) (x1 : Int32) (x2 : Int32) (h : wb_X6_fate_0 Q g k0 A V x1 x2) (hgc : k0 ≤ g) (H : Heap) (locs : List Loc) (ls : Array Slot) (hw : WS D s A0 (wM ad cI cZ A V) H locs) (hl : lv_has ls 3 [(0, .ref (ad 0)), (1, .int x1), (2, .int x2)]), W p l e (rmX6_fate g) s m args below meth c H locs k0 (9 * k0) Z (F0 m 0 ls []) := by
  obtain ⟨hx, hb, hml, hown, hts, hK, hA⟩ := id cx
  intro k0 A V x1 x2 h hgc H locs ls hw hl
  refine lv_aload_n (pc := 0) hx hb dX6_fate_0 rfl (lv_at hl 0 rfl) ?_
  refine lv_iconst (pc := 1) (v := (0 : Int32)) hx hb dX6_fate_1 (by decide) ?_
  refine puM_X6_0 (pc := 2) cx inX6_fate_X6 kX6_fate_42 hw dX6_fate_2 (fun V_1 eV_1 H locs hw => ?_)
  have h := h V_1 eV_1
  refine lv_aload_n (pc := 5) hx hb dX6_fate_5 rfl (lv_at hl 0 rfl) ?_
  refine lv_iload_n (pc := 6) hx hb dX6_fate_6 rfl (lv_at hl 1 rfl) ?_
  refine callVi (pc := 7) (rest := []) (c1 := k0) (s1 := 9 * k0) cx hw hl (metX6_isLetter l D cI cZ ad H.size A V_1 x1 _ h) (fun hts => cwV 1 hts gX6_fate_X6_isLetter rfl rfl rfl (by decide +kernel) ⟨Nat.le_of_ble_eq_true rfl, Nat.le_of_ble_eq_true rfl⟩) SUB.rf [0, 1] rfl 0 (ci := 6) rfl rfl rfl (JN.rf) rfl rfl (Nat.le_of_ble_eq_true rfl) ⟨hgc, gas0 hgc⟩ rfl rfl dX6_fate_7 (fun r2 u H locs h hw => ?_)
  obtain ⟨A_5, V_6⟩ := u
  refine lv_if_ne (pc := 10) (tgt := 19) hx hb dX6_fate_10 (by decide) (fun c7 => ?_) (fun c7 => ?_)
  · have h := h.1 c7
    refine lv_iload_n (pc := 19) hx hb dX6_fate_19 rfl (lv_at hl 2 rfl) ?_
    refine lv_iconst (pc := 20) (v := (1 : Int32)) hx hb dX6_fate_20 (by decide) ?_
    refine lv_bipush (pc := 21) (v := (100 : Int32)) hx hb dX6_fate_21 (by decide) ?_
    refine callSi (pc := 23) (rest := []) (c1 := k0) (s1 := 9 * k0) cx hw hl (metX6_isIn l D [] H.size x2 (1 : Int32) (100 : Int32) _ h) (fun hts => va_cwS 3 hts gX6_fate_X6_isIn rfl rfl rfl (by decide +kernel) ⟨Nat.le_of_ble_eq_true rfl, Nat.le_of_ble_eq_true rfl⟩) SUB.nil [] rfl (JN.nil (S := Unit)) rfl rfl (Nat.le_of_ble_eq_true rfl) ⟨hgc, gas0 hgc⟩ rfl rfl dX6_fate_23 (fun r8 u H locs h hw => ?_)
    refine lv_if_eq (pc := 26) (tgt := 39) hx hb dX6_fate_26 (by decide) (fun c11 => ?_) (fun c11 => ?_)
    · have h := h.1 c11
      refine lv_aload_n (pc := 39) hx hb dX6_fate_39 rfl (lv_at hl 0 rfl) ?_
      refine lv_iconst (pc := 40) (v := (2 : Int32)) hx hb dX6_fate_40 (by decide) ?_
      refine callVi (pc := 41) (rest := []) (c1 := k0) (s1 := 9 * k0) cx hw hl (metX6_fail l D cI cZ ad H.size A_5 V_6 (2 : Int32) _ h) (fun hts => cwV 1 hts gX6_fate_X6_fail rfl rfl rfl (by decide +kernel) ⟨Nat.le_of_ble_eq_true rfl, Nat.le_of_ble_eq_true rfl⟩) SUB.rf [0, 1] rfl 0 (ci := 6) rfl rfl rfl (JN.rf) rfl rfl (Nat.le_of_ble_eq_true rfl) ⟨hgc, gas0 hgc⟩ rfl rfl dX6_fate_41 (fun r12 u H locs h hw => ?_)
      obtain ⟨A_15, V_16⟩ := u
      refine W.widen (k := g) (n := 9 * g) hgc (Nat.mul_le_mul_left 9 hgc) ?_
      exact hret 44 _ _ (A_15, V_16) _ _ rfl dX6_fate_44 h hw
    · have h := h.2 c11
      refine lv_aload_n (pc := 29) hx hb dX6_fate_29 rfl (lv_at hl 0 rfl) ?_
      refine lv_iload_n (pc := 30) hx hb dX6_fate_30 rfl (lv_at hl 2 rfl) ?_
      refine lv_iconst (pc := 31) (v := (0 : Int32)) hx hb dX6_fate_31 (by decide) ?_
      refine lv_iload_n (pc := 32) hx hb dX6_fate_32 rfl (lv_at hl 1 rfl) ?_
      obtain ⟨g20, hg, h⟩ := h
      refine callVi (pc := 33) (rest := []) (c1 := (k0 + g20)) (s1 := 9 * (k0 + g20)) cx hw hl (metX6_ahead l D cI cZ ad H.size g20 A_5 V_6 x2 (0 : Int32) x1 _ h) (fun hts => cwV 3 hts gX6_fate_X6_ahead rfl rfl rfl (by decide +kernel) ⟨Nat.le_of_ble_eq_true rfl, Nat.le_of_ble_eq_true rfl⟩) SUB.rf [0, 1] rfl 0 (ci := 6) rfl rfl rfl (JN.rf) rfl rfl (Nat.le_of_ble_eq_true rfl) ⟨hg, gas1 hg⟩ rfl (Nat.mul_add 9 _ _).symm dX6_fate_33 (fun r17 u H locs h hw => ?_)
      obtain ⟨A_21, V_22⟩ := u
      have hgc := hg
      refine lv_goto (pc := 36) (tgt := 44) hx hb dX6_fate_36 (by decide) ?_
      refine W.widen (k := g) (n := 9 * g) hgc (Nat.mul_le_mul_left 9 hgc) ?_
      exact hret 44 _ _ (A_21, V_22) _ _ rfl dX6_fate_44 h hw
  · have h := h.2 c7
    refine lv_aload_n (pc := 13) hx hb dX6_fate_13 rfl (lv_at hl 0 rfl) ?_
    refine lv_iconst (pc := 14) (v := (1 : Int32)) hx hb dX6_fate_14 (by decide) ?_
    refine callVi (pc := 15) (rest := []) (c1 := k0) (s1 := 9 * k0) cx hw hl (metX6_fail l D cI cZ ad H.size A_5 V_6 (1 : Int32) _ h) (fun hts => cwV 1 hts gX6_fate_X6_fail rfl rfl rfl (by decide +kernel) ⟨Nat.le_of_ble_eq_true rfl, Nat.le_of_ble_eq_true rfl⟩) SUB.rf [0, 1] rfl 0 (ci := 6) rfl rfl rfl (JN.rf) rfl rfl (Nat.le_of_ble_eq_true rfl) ⟨hgc, gas0 hgc⟩ rfl rfl dX6_fate_15 (fun r23 u H locs h hw => ?_)
    obtain ⟨A_26, V_27⟩ := u
    refine W.widen (k := g) (n := 9 * g) hgc (Nat.mul_le_mul_left 9 hgc) ?_
    exact hret 18 _ _ (A_26, V_27) _ _ rfl dX6_fate_18 h hw
def wpX6_fate (g : Nat) (A : SA) (V : SV) (x1 : Int32) (x2 : Int32) (Q : Int32 → SA → SV → Prop) : Prop := wb_X6_fate_0 Q g 0 A V x1 x2
set_option maxHeartbeats 4000000 in
set_option maxRecDepth 100000 in
theorem metX6_fate (l : Launch) (D : va_G) (cI cZ : ClassId) (ad : Nat → Nat) (sz : Nat) (g : Nat) (A : SA) (V : SV) (x1 : Int32) (x2 : Int32) (Q : Int32 → SA → SV → Prop) (h : wpX6_fate g A V x1 x2 Q) : Met l yX6_fate wsX6_fate (rmX6_fate g) (PcW D [(cI, .int), (cZ, .boolean)] (wM ad cI cZ A V) sz [.ref (ad 0), .int x1, .int x2]) (QiW D [(cI, .int), (cZ, .boolean)] (wM ad cI cZ A V) sz (fun u : SA × SV => (wM ad cI cZ u.1 u.2)) (fun r u => Q r u.1 u.2)) (rmX6_fate g).cells (rmX6_fate g).slots (va_A (wM ad cI cZ A V) sz) := by
  refine startI (plainFor_of_name (by decide)) rfl (Nat.le_of_ble_eq_true rfl) ?_
  intro p e s m args below meth c A0 Z cx hw hret ls hl
  exact wk_X6_fate_0 Q g cx hret 0 A V x1 x2 h (Nat.zero_le _) _ _ _ hw hl
abbrev rmX6_reaches : Room := { frames := 2, cells := 0, slots := 0, locals := 43 }
theorem inX6_reaches_X6 : ∀ w ∈ wsX60, w ∈ wsX6_reaches := by decide +kernel
theorem kX6_reaches_42 : Cond.fieldLink RX6 42 "DrownedPostModel" "thrown" "I" ∈ wsX6_reaches := by decide +kernel
theorem kX6_reaches_64 : Cond.fieldLink RX6 64 "DrownedPostModel" "bins" "I" ∈ wsX6_reaches := by decide +kernel
theorem kX6_reaches_96 : Cond.fieldLink RX6 96 "DrownedPostModel" "hour" "I" ∈ wsX6_reaches := by decide +kernel
def wb_X6_reaches_90 (Q : Int32 → SA → SV → Prop) (K41 : SA → SV → Int32 → Int32 → Int32 → Int32 → Prop) (A : SA) (V : SV) (x1 : Int32) (x2 : Int32) (x4 : Int32) (t0 : Int32) : Prop := ((¬ t0 = (3 : Int32) → K41 A V x1 x2 t0 (x4 + 1)) ∧ (t0 = (3 : Int32) → Q x4 A V))
set_option maxHeartbeats 4000000 in
set_option maxRecDepth 100000 in
theorem wk_X6_reaches_90 (Q : Int32 → SA → SV → Prop) (K41 : SA → SV → Int32 → Int32 → Int32 → Int32 → Prop) (cx : CX RX6 cX6_reaches 5 wsX6_reaches D [(cI, .int), (cZ, .boolean)] p s m args c A0) (hret : ∀ (pc : Nat) (ls : Array Slot) (r : Int32) (u : SA × SV) (H : Heap) (locs : List Loc), narrow .int (.int r) = .int r → decode cX6_reaches pc = .ok (.ireturn, 1) → Q r u.1 u.2 → WS D s A0 (wM ad cI cZ u.1 u.2) H locs → W p l e rmX6_reaches s m args below meth c H locs rmX6_reaches.cells rmX6_reaches.slots Z (F0 m pc ls [.int r])) (hK41 : ∀ (A : SA) (V : SV) (x1 : Int32) (x2 : Int32) (x3 : Int32) (x4 : Int32) (h : K41 A V x1 x2 x3 x4) (H : Heap) (locs : List Loc) (ls : Array Slot) (hw : WS D s A0 (wM ad cI cZ A V) H locs) (hl : lv_has ls 5 [(0, .ref (ad 0)), (1, .int x1), (2, .int x2), (3, .int x3), (4, .int x4)]), W p l e rmX6_reaches s m args below meth c H locs 0 0 Z (F0 m 41 ls [])) : ∀ (A : SA) (V : SV) (x1 : Int32) (x2 : Int32) (x4 : Int32) (t0 : Int32) (h : wb_X6_reaches_90 Q K41 A V x1 x2 x4 t0) (H : Heap) (locs : List Loc) (ls : Array Slot) (hw : WS D s A0 (wM ad cI cZ A V) H locs) (hl : lv_has ls 5 [(0, .ref (ad 0)), (1, .int x1), (2, .int x2), (4, .int x4)]), W p l e rmX6_reaches s m args below meth c H locs 0 0 Z (F0 m 90 ls [.int t0]) := by
  obtain ⟨hx, hb, hml, hown, hts, hK, hA⟩ := id cx
  intro A V x1 x2 x4 t0 h H locs ls hw hl
  refine lv_istore_n (pc := 90) (lv' := [(3, .int t0), (0, .ref (ad 0)), (1, .int x1), (2, .int x2), (4, .int x4)]) hx hb dX6_reaches_90 rfl hl (by decide) rfl (fun ls hl => ?_)
  refine lv_iload_n (pc := 91) hx hb dX6_reaches_91 rfl (lv_at hl 0 rfl) ?_
  refine lv_iconst (pc := 92) (v := (3 : Int32)) hx hb dX6_reaches_92 (by decide) ?_
  refine lv_icmp_ne (pc := 93) (tgt := 99) hx hb dX6_reaches_93 (by decide) (fun c45 => ?_) (fun c45 => ?_)
  · have h := h.1 c45
    refine lv_iinc (pc := 99) (v := x4 + 1) (lv' := [(4, .int (x4 + 1)), (3, .int t0), (0, .ref (ad 0)), (1, .int x1), (2, .int x2)]) hx hb dX6_reaches_99 hl (k := 4) rfl rfl (by decide) rfl (fun ls hl => ?_)
    refine lv_goto (pc := 102) (tgt := 41) hx hb dX6_reaches_102 (by decide) ?_
    exact hK41 A V x1 x2 t0 (x4 + 1) h _ _ _ hw (lv_sub hl [2, 3, 4, 1, 0] rfl)
  · have h := h.2 c45
    refine lv_iload (pc := 96) hx hb dX6_reaches_96 (lv_at hl 4 rfl) ?_
    exact hret 98 _ _ (A, V) _ _ rfl dX6_reaches_98 h hw
def wl_X6_reaches_41 (Q : Int32 → SA → SV → Prop) : Nat → SA → SV → Int32 → Int32 → Int32 → Int32 → Prop
  | 0, _, _, _, _, _, _ => False
  | n + 1, A, V, x1, x2, x3, x4 => ((((V 1) + (200 : Int32)) ≤ x4 → Q (-1 : Int32) A V) ∧ (¬ (((V 1) + (200 : Int32)) ≤ x4) → (wpX6_tideOf A V x4 (fun r23 A_26 V_27 => (wpX6_isUnder A_26 V_27 x2 r23 (fun r28 A_31 V_32 => ((r28 = 0 → (wb_X6_reaches_90 Q (wl_X6_reaches_41 Q n) A_31 V_32 x1 x2 x4 (0 : Int32))) ∧ (¬ (r28 = 0) → (wpX6_tideOf A_31 V_32 x4 (fun r34 A_37 V_38 => (wpX6_one A_37 V_38 x1 (0 : Int32) (fun r39 A_42 V_43 => ((r34 < r39 → (wb_X6_reaches_90 Q (wl_X6_reaches_41 Q n) A_42 V_43 x1 x2 x4 (0 : Int32))) ∧ (¬ (r34 < r39) → (wb_X6_reaches_90 Q (wl_X6_reaches_41 Q n) A_42 V_43 x1 x2 x4 (x3 + (1 : Int32)))))))))))))))))
set_option maxHeartbeats 4000000 in
set_option maxRecDepth 100000 in
theorem wk_X6_reaches_41 (Q : Int32 → SA → SV → Prop) (cx : CX RX6 cX6_reaches 5 wsX6_reaches D [(cI, .int), (cZ, .boolean)] p s m args c A0) (hret : ∀ (pc : Nat) (ls : Array Slot) (r : Int32) (u : SA × SV) (H : Heap) (locs : List Loc), narrow .int (.int r) = .int r → decode cX6_reaches pc = .ok (.ireturn, 1) → Q r u.1 u.2 → WS D s A0 (wM ad cI cZ u.1 u.2) H locs → W p l e rmX6_reaches s m args below meth c H locs rmX6_reaches.cells rmX6_reaches.slots Z (F0 m pc ls [.int r]))  : ∀ (n : Nat) (A : SA) (V : SV) (x1 : Int32) (x2 : Int32) (x3 : Int32) (x4 : Int32) (h : wl_X6_reaches_41 Q n A V x1 x2 x3 x4) (H : Heap) (locs : List Loc) (ls : Array Slot) (hw : WS D s A0 (wM ad cI cZ A V) H locs) (hl : lv_has ls 5 [(0, .ref (ad 0)), (1, .int x1), (2, .int x2), (3, .int x3), (4, .int x4)]), W p l e rmX6_reaches s m args below meth c H locs 0 0 Z (F0 m 41 ls []) := by
  obtain ⟨hx, hb, hml, hown, hts, hK, hA⟩ := id cx
  intro n
  induction n with
  | zero => intro A V x1 x2 x3 x4 h; exact False.elim h
  | succ n ih =>
    intro A V x1 x2 x3 x4 h H locs ls hw hl
    refine lv_iload (pc := 41) hx hb dX6_reaches_41 (lv_at hl 4 rfl) ?_
    refine lv_aload_n (pc := 43) hx hb dX6_reaches_43 rfl (lv_at hl 0 rfl) ?_
    refine geM_X6_1 (pc := 44) cx inX6_reaches_X6 kX6_reaches_96 hw dX6_reaches_44 ?_
    refine lv_sipush (pc := 47) (v := (200 : Int32)) hx hb dX6_reaches_47 (by decide) ?_
    refine lv_iadd (pc := 50) hx hb dX6_reaches_50 ?_
    refine lv_icmp_ge (pc := 51) (tgt := 105) hx hb dX6_reaches_51 (by decide) (fun c22 => ?_) (fun c22 => ?_)
    · have h := h.1 c22
      refine lv_iconst (pc := 105) (v := (-1 : Int32)) hx hb dX6_reaches_105 (by decide) ?_
      exact hret 106 _ _ (A, V) _ _ rfl dX6_reaches_106 h hw
    · have h := h.2 c22
      refine lv_aload_n (pc := 54) hx hb dX6_reaches_54 rfl (lv_at hl 0 rfl) ?_
      refine lv_iload_n (pc := 55) hx hb dX6_reaches_55 rfl (lv_at hl 2 rfl) ?_
      refine lv_aload_n (pc := 56) hx hb dX6_reaches_56 rfl (lv_at hl 0 rfl) ?_
      refine lv_iload (pc := 57) hx hb dX6_reaches_57 (lv_at hl 4 rfl) ?_
      refine callVi (pc := 59) (rest := [.int x2, .ref (ad 0)]) (c1 := 0) (s1 := 0) cx hw hl (metX6_tideOf l D cI cZ ad H.size A V x4 _ h) (fun hts => cwV 1 hts gX6_reaches_X6_tideOf rfl rfl rfl (by decide +kernel) ⟨Nat.le_of_ble_eq_true rfl, Nat.le_of_ble_eq_true rfl⟩) SUB.rf [0, 1] rfl 0 (ci := 6) rfl rfl rfl (JN.rf) rfl rfl (Nat.le_of_ble_eq_true rfl) ⟨Nat.le_of_ble_eq_true rfl, Nat.le_of_ble_eq_true rfl⟩ rfl rfl dX6_reaches_59 (fun r23 u H locs h hw => ?_)
      obtain ⟨A_26, V_27⟩ := u
      refine callVi (pc := 62) (rest := []) (c1 := 0) (s1 := 0) cx hw hl (metX6_isUnder l D cI cZ ad H.size A_26 V_27 x2 r23 _ h) (fun hts => cwV 2 hts gX6_reaches_X6_isUnder rfl rfl rfl (by decide +kernel) ⟨Nat.le_of_ble_eq_true rfl, Nat.le_of_ble_eq_true rfl⟩) SUB.rf [0, 1] rfl 0 (ci := 6) rfl rfl rfl (JN.rf) rfl rfl (Nat.le_of_ble_eq_true rfl) ⟨Nat.le_of_ble_eq_true rfl, Nat.le_of_ble_eq_true rfl⟩ rfl rfl dX6_reaches_62 (fun r28 u H locs h hw => ?_)
      obtain ⟨A_31, V_32⟩ := u
      refine lv_if_eq (pc := 65) (tgt := 89) hx hb dX6_reaches_65 (by decide) (fun c33 => ?_) (fun c33 => ?_)
      · have h := h.1 c33
        refine lv_iconst (pc := 89) (v := (0 : Int32)) hx hb dX6_reaches_89 (by decide) ?_
        exact wk_X6_reaches_90 Q (wl_X6_reaches_41 Q n) cx hret ih A_31 V_32 x1 x2 x4 (0 : Int32) h _ _ _ hw (lv_sub hl [0, 1, 2, 4] rfl)
      · have h := h.2 c33
        refine lv_aload_n (pc := 68) hx hb dX6_reaches_68 rfl (lv_at hl 0 rfl) ?_
        refine lv_iload (pc := 69) hx hb dX6_reaches_69 (lv_at hl 4 rfl) ?_
        refine callVi (pc := 71) (rest := []) (c1 := 0) (s1 := 0) cx hw hl (metX6_tideOf l D cI cZ ad H.size A_31 V_32 x4 _ h) (fun hts => cwV 1 hts gX6_reaches_X6_tideOf rfl rfl rfl (by decide +kernel) ⟨Nat.le_of_ble_eq_true rfl, Nat.le_of_ble_eq_true rfl⟩) SUB.rf [0, 1] rfl 0 (ci := 6) rfl rfl rfl (JN.rf) rfl rfl (Nat.le_of_ble_eq_true rfl) ⟨Nat.le_of_ble_eq_true rfl, Nat.le_of_ble_eq_true rfl⟩ rfl rfl dX6_reaches_71 (fun r34 u H locs h hw => ?_)
        obtain ⟨A_37, V_38⟩ := u
        refine lv_aload_n (pc := 74) hx hb dX6_reaches_74 rfl (lv_at hl 0 rfl) ?_
        refine lv_iload_n (pc := 75) hx hb dX6_reaches_75 rfl (lv_at hl 1 rfl) ?_
        refine lv_iconst (pc := 76) (v := (0 : Int32)) hx hb dX6_reaches_76 (by decide) ?_
        refine callVi (pc := 77) (rest := [.int r34]) (c1 := 0) (s1 := 0) cx hw hl (metX6_one l D cI cZ ad H.size A_37 V_38 x1 (0 : Int32) _ h) (fun hts => cwV 2 hts gX6_reaches_X6_one rfl rfl rfl (by decide +kernel) ⟨Nat.le_of_ble_eq_true rfl, Nat.le_of_ble_eq_true rfl⟩) SUB.rf [0, 1] rfl 0 (ci := 6) rfl rfl rfl (JN.rf) rfl rfl (Nat.le_of_ble_eq_true rfl) ⟨Nat.le_of_ble_eq_true rfl, Nat.le_of_ble_eq_true rfl⟩ rfl rfl dX6_reaches_77 (fun r39 u H locs h hw => ?_)
        obtain ⟨A_42, V_43⟩ := u
        refine lv_icmp_lt (pc := 80) (tgt := 89) hx hb dX6_reaches_80 (by decide) (fun c44 => ?_) (fun c44 => ?_)
        · have h := h.1 c44
          refine lv_iconst (pc := 89) (v := (0 : Int32)) hx hb dX6_reaches_89 (by decide) ?_
          exact wk_X6_reaches_90 Q (wl_X6_reaches_41 Q n) cx hret ih A_42 V_43 x1 x2 x4 (0 : Int32) h _ _ _ hw (lv_sub hl [0, 1, 2, 4] rfl)
        · have h := h.2 c44
          refine lv_iload_n (pc := 83) hx hb dX6_reaches_83 rfl (lv_at hl 3 rfl) ?_
          refine lv_iconst (pc := 84) (v := (1 : Int32)) hx hb dX6_reaches_84 (by decide) ?_
          refine lv_iadd (pc := 85) hx hb dX6_reaches_85 ?_
          refine lv_goto (pc := 86) (tgt := 90) hx hb dX6_reaches_86 (by decide) ?_
          exact wk_X6_reaches_90 Q (wl_X6_reaches_41 Q n) cx hret ih A_42 V_43 x1 x2 x4 (x3 + (1 : Int32)) h _ _ _ hw (lv_sub hl [0, 1, 2, 4] rfl)
def wb_X6_reaches_0 (Q : Int32 → SA → SV → Prop) (A : SA) (V : SV) (x1 : Int32) (x2 : Int32) : Prop := (∀ V_1 : SV, V_1 = uv V 0 (0 : Int32) → (wpX6_isOne A V_1 x1 (fun r2 A_5 V_6 => ((r2 = 0 → (wpX6_fail A_5 V_6 (1 : Int32) (fun r8 A_11 V_12 => Q r8 A_11 V_12))) ∧ (¬ (r2 = 0) → (wpX6_isIn x2 (0 : Int32) ((V_6 3) - (1 : Int32)) (fun r13 => ((¬ r13 = 0 → (∃ n41 : Nat, wl_X6_reaches_41 Q n41 A_5 V_6 x1 x2 (0 : Int32) (V_6 1))) ∧ (r13 = 0 → (wpX6_fail A_5 V_6 (1 : Int32) (fun r17 A_20 V_21 => Q r17 A_20 V_21)))))))))))
set_option maxHeartbeats 4000000 in
set_option maxRecDepth 100000 in
theorem wk_X6_reaches_0 (Q : Int32 → SA → SV → Prop) (cx : CX RX6 cX6_reaches 5 wsX6_reaches D [(cI, .int), (cZ, .boolean)] p s m args c A0) (hret : ∀ (pc : Nat) (ls : Array Slot) (r : Int32) (u : SA × SV) (H : Heap) (locs : List Loc), narrow .int (.int r) = .int r → decode cX6_reaches pc = .ok (.ireturn, 1) → Q r u.1 u.2 → WS D s A0 (wM ad cI cZ u.1 u.2) H locs → W p l e rmX6_reaches s m args below meth c H locs rmX6_reaches.cells rmX6_reaches.slots Z (F0 m pc ls [.int r]))  : ∀ (A : SA) (V : SV) (x1 : Int32) (x2 : Int32) (h : wb_X6_reaches_0 Q A V x1 x2) (H : Heap) (locs : List Loc) (ls : Array Slot) (hw : WS D s A0 (wM ad cI cZ A V) H locs) (hl : lv_has ls 5 [(0, .ref (ad 0)), (1, .int x1), (2, .int x2)]), W p l e rmX6_reaches s m args below meth c H locs 0 0 Z (F0 m 0 ls []) := by
  obtain ⟨hx, hb, hml, hown, hts, hK, hA⟩ := id cx
  intro A V x1 x2 h H locs ls hw hl
  refine lv_aload_n (pc := 0) hx hb dX6_reaches_0 rfl (lv_at hl 0 rfl) ?_
  refine lv_iconst (pc := 1) (v := (0 : Int32)) hx hb dX6_reaches_1 (by decide) ?_
  refine puM_X6_0 (pc := 2) cx inX6_reaches_X6 kX6_reaches_42 hw dX6_reaches_2 (fun V_1 eV_1 H locs hw => ?_)
  have h := h V_1 eV_1
  refine lv_aload_n (pc := 5) hx hb dX6_reaches_5 rfl (lv_at hl 0 rfl) ?_
  refine lv_iload_n (pc := 6) hx hb dX6_reaches_6 rfl (lv_at hl 1 rfl) ?_
  refine callVi (pc := 7) (rest := []) (c1 := 0) (s1 := 0) cx hw hl (metX6_isOne l D cI cZ ad H.size A V_1 x1 _ h) (fun hts => cwV 1 hts gX6_reaches_X6_isOne rfl rfl rfl (by decide +kernel) ⟨Nat.le_of_ble_eq_true rfl, Nat.le_of_ble_eq_true rfl⟩) SUB.rf [0, 1] rfl 0 (ci := 6) rfl rfl rfl (JN.rf) rfl rfl (Nat.le_of_ble_eq_true rfl) ⟨Nat.le_of_ble_eq_true rfl, Nat.le_of_ble_eq_true rfl⟩ rfl rfl dX6_reaches_7 (fun r2 u H locs h hw => ?_)
  obtain ⟨A_5, V_6⟩ := u
  refine lv_if_eq (pc := 10) (tgt := 27) hx hb dX6_reaches_10 (by decide) (fun c7 => ?_) (fun c7 => ?_)
  · have h := h.1 c7
    refine lv_aload_n (pc := 27) hx hb dX6_reaches_27 rfl (lv_at hl 0 rfl) ?_
    refine lv_iconst (pc := 28) (v := (1 : Int32)) hx hb dX6_reaches_28 (by decide) ?_
    refine callVi (pc := 29) (rest := []) (c1 := 0) (s1 := 0) cx hw hl (metX6_fail l D cI cZ ad H.size A_5 V_6 (1 : Int32) _ h) (fun hts => cwV 1 hts gX6_reaches_X6_fail rfl rfl rfl (by decide +kernel) ⟨Nat.le_of_ble_eq_true rfl, Nat.le_of_ble_eq_true rfl⟩) SUB.rf [0, 1] rfl 0 (ci := 6) rfl rfl rfl (JN.rf) rfl rfl (Nat.le_of_ble_eq_true rfl) ⟨Nat.le_of_ble_eq_true rfl, Nat.le_of_ble_eq_true rfl⟩ rfl rfl dX6_reaches_29 (fun r8 u H locs h hw => ?_)
    obtain ⟨A_11, V_12⟩ := u
    exact hret 32 _ _ (A_11, V_12) _ _ rfl dX6_reaches_32 h hw
  · have h := h.2 c7
    refine lv_iload_n (pc := 13) hx hb dX6_reaches_13 rfl (lv_at hl 2 rfl) ?_
    refine lv_iconst (pc := 14) (v := (0 : Int32)) hx hb dX6_reaches_14 (by decide) ?_
    refine lv_aload_n (pc := 15) hx hb dX6_reaches_15 rfl (lv_at hl 0 rfl) ?_
    refine geM_X6_4 (pc := 16) cx inX6_reaches_X6 kX6_reaches_64 hw dX6_reaches_16 ?_
    refine lv_iconst (pc := 19) (v := (1 : Int32)) hx hb dX6_reaches_19 (by decide) ?_
    refine lv_isub (pc := 20) hx hb dX6_reaches_20 ?_
    refine callSi (pc := 21) (rest := []) (c1 := 0) (s1 := 0) cx hw hl (metX6_isIn l D [] H.size x2 (0 : Int32) ((V_6 3) - (1 : Int32)) _ h) (fun hts => va_cwS 3 hts gX6_reaches_X6_isIn rfl rfl rfl (by decide +kernel) ⟨Nat.le_of_ble_eq_true rfl, Nat.le_of_ble_eq_true rfl⟩) SUB.nil [] rfl (JN.nil (S := Unit)) rfl rfl (Nat.le_of_ble_eq_true rfl) ⟨Nat.le_of_ble_eq_true rfl, Nat.le_of_ble_eq_true rfl⟩ rfl rfl dX6_reaches_21 (fun r13 u H locs h hw => ?_)
    refine lv_if_ne (pc := 24) (tgt := 33) hx hb dX6_reaches_24 (by decide) (fun c16 => ?_) (fun c16 => ?_)
    · have h := h.1 c16
      refine lv_iconst (pc := 33) (v := (0 : Int32)) hx hb dX6_reaches_33 (by decide) ?_
      refine lv_istore_n (pc := 34) (lv' := [(3, .int (0 : Int32)), (0, .ref (ad 0)), (1, .int x1), (2, .int x2)]) hx hb dX6_reaches_34 rfl hl (by decide) rfl (fun ls hl => ?_)
      refine lv_aload_n (pc := 35) hx hb dX6_reaches_35 rfl (lv_at hl 1 rfl) ?_
      refine geM_X6_1 (pc := 36) cx inX6_reaches_X6 kX6_reaches_96 hw dX6_reaches_36 ?_
      refine lv_istore (pc := 39) (lv' := [(4, .int (V_6 1)), (3, .int (0 : Int32)), (0, .ref (ad 0)), (1, .int x1), (2, .int x2)]) hx hb dX6_reaches_39 hl (by decide) rfl (fun ls hl => ?_)
      obtain ⟨n41, h⟩ := h
      exact wk_X6_reaches_41 Q cx hret  n41 A_5 V_6 x1 x2 (0 : Int32) (V_6 1) h _ _ _ hw (lv_sub hl [2, 3, 4, 1, 0] rfl)
    · have h := h.2 c16
      refine lv_aload_n (pc := 27) hx hb dX6_reaches_27 rfl (lv_at hl 0 rfl) ?_
      refine lv_iconst (pc := 28) (v := (1 : Int32)) hx hb dX6_reaches_28 (by decide) ?_
      refine callVi (pc := 29) (rest := []) (c1 := 0) (s1 := 0) cx hw hl (metX6_fail l D cI cZ ad H.size A_5 V_6 (1 : Int32) _ h) (fun hts => cwV 1 hts gX6_reaches_X6_fail rfl rfl rfl (by decide +kernel) ⟨Nat.le_of_ble_eq_true rfl, Nat.le_of_ble_eq_true rfl⟩) SUB.rf [0, 1] rfl 0 (ci := 6) rfl rfl rfl (JN.rf) rfl rfl (Nat.le_of_ble_eq_true rfl) ⟨Nat.le_of_ble_eq_true rfl, Nat.le_of_ble_eq_true rfl⟩ rfl rfl dX6_reaches_29 (fun r17 u H locs h hw => ?_)
      obtain ⟨A_20, V_21⟩ := u
      exact hret 32 _ _ (A_20, V_21) _ _ rfl dX6_reaches_32 h hw
def wpX6_reaches (A : SA) (V : SV) (x1 : Int32) (x2 : Int32) (Q : Int32 → SA → SV → Prop) : Prop := wb_X6_reaches_0 Q A V x1 x2
set_option maxHeartbeats 4000000 in
set_option maxRecDepth 100000 in
theorem metX6_reaches (l : Launch) (D : va_G) (cI cZ : ClassId) (ad : Nat → Nat) (sz : Nat) (A : SA) (V : SV) (x1 : Int32) (x2 : Int32) (Q : Int32 → SA → SV → Prop) (h : wpX6_reaches A V x1 x2 Q) : Met l yX6_reaches wsX6_reaches rmX6_reaches (PcW D [(cI, .int), (cZ, .boolean)] (wM ad cI cZ A V) sz [.ref (ad 0), .int x1, .int x2]) (QiW D [(cI, .int), (cZ, .boolean)] (wM ad cI cZ A V) sz (fun u : SA × SV => (wM ad cI cZ u.1 u.2)) (fun r u => Q r u.1 u.2)) rmX6_reaches.cells rmX6_reaches.slots (va_A (wM ad cI cZ A V) sz) := by
  refine startI (plainFor_of_name (by decide)) rfl (Nat.le_of_ble_eq_true rfl) ?_
  intro p e s m args below meth c A0 Z cx hw hret ls hl
  exact wk_X6_reaches_0 Q cx hret A V x1 x2 h _ _ _ hw hl
abbrev rmX6_digest : Room := { frames := 4, cells := 0, slots := 0, locals := 90 }
theorem inX6_digest_X6 : ∀ w ∈ wsX60, w ∈ wsX6_digest := by decide +kernel
theorem kX6_digest_13 : Cond.fieldLink RX6 13 "DrownedPostModel" "tideTable" "[I" ∈ wsX6_digest := by decide +kernel
theorem kX6_digest_20 : Cond.fieldLink RX6 20 "DrownedPostModel" "ones" "[I" ∈ wsX6_digest := by decide +kernel
theorem kX6_digest_23 : Cond.fieldLink RX6 23 "DrownedPostModel" "table" "[I" ∈ wsX6_digest := by decide +kernel
theorem kX6_digest_42 : Cond.fieldLink RX6 42 "DrownedPostModel" "thrown" "I" ∈ wsX6_digest := by decide +kernel
theorem kX6_digest_64 : Cond.fieldLink RX6 64 "DrownedPostModel" "bins" "I" ∈ wsX6_digest := by decide +kernel
theorem kX6_digest_67 : Cond.fieldLink RX6 67 "DrownedPostModel" "drowned" "I" ∈ wsX6_digest := by decide +kernel
theorem kX6_digest_7 : Cond.fieldLink RX6 7 "DrownedPostModel" "tides" "I" ∈ wsX6_digest := by decide +kernel
theorem kX6_digest_70 : Cond.fieldLink RX6 70 "DrownedPostModel" "letters" "I" ∈ wsX6_digest := by decide +kernel
theorem kX6_digest_w_constantLong_RX6_153__479_ : Cond.constantLong RX6 153 (479) ∈ wsX6_digest := by decide +kernel
theorem kX6_digest_w_constantLong_RX6_155__31_ : Cond.constantLong RX6 155 (31) ∈ wsX6_digest := by decide +kernel
def wl_X6_digest_146 (Q : Int64 → SA → SV → Prop) : Nat → SA → SV → Int64 → Int32 → Prop
  | 0, _, _, _, _ => False
  | n + 1, A, V, x1, x3 => ((((9 : Int32) * (V 5)) ≤ x3 → Q x1 A V) ∧ (¬ (((9 : Int32) * (V 5)) ≤ x3) → (vp_in x3 1350 ∧ wl_X6_digest_146 Q n A V ((x1 * (31 : Int64)) + ((A 3 x3.toNatClampNeg).toInt64)) (x3 + 1))))
set_option maxHeartbeats 4000000 in
set_option maxRecDepth 100000 in
theorem wk_X6_digest_146 (Q : Int64 → SA → SV → Prop) (cx : CX RX6 cX6_digest 5 wsX6_digest D [(cI, .int), (cZ, .boolean)] p s m args c A0) (hret : ∀ (pc : Nat) (ls : Array Slot) (r : Int64) (u : SA × SV) (H : Heap) (locs : List Loc), decode cX6_digest pc = .ok (.lreturn, 1) → Q r u.1 u.2 → WS D s A0 (wM ad cI cZ u.1 u.2) H locs → W p l e rmX6_digest s m args below meth c H locs rmX6_digest.cells rmX6_digest.slots Z (F0 m pc ls [.long r]))  : ∀ (n : Nat) (A : SA) (V : SV) (x1 : Int64) (x3 : Int32) (h : wl_X6_digest_146 Q n A V x1 x3) (H : Heap) (locs : List Loc) (ls : Array Slot) (hw : WS D s A0 (wM ad cI cZ A V) H locs) (hl : lv_has ls 5 [(0, .ref (ad 0)), (1, .long x1), (3, .int x3)]), W p l e rmX6_digest s m args below meth c H locs 0 0 Z (F0 m 146 ls []) := by
  obtain ⟨hx, hb, hml, hown, hts, hK, hA⟩ := id cx
  intro n
  induction n with
  | zero => intro A V x1 x3 h; exact False.elim h
  | succ n ih =>
    intro A V x1 x3 h H locs ls hw hl
    refine lv_iload_n (pc := 146) hx hb dX6_digest_146 rfl (lv_at hl 2 rfl) ?_
    refine lv_bipush (pc := 147) (v := (9 : Int32)) hx hb dX6_digest_147 (by decide) ?_
    refine lv_aload_n (pc := 149) hx hb dX6_digest_149 rfl (lv_at hl 0 rfl) ?_
    refine geM_X6_8 (pc := 150) cx inX6_digest_X6 kX6_digest_70 hw dX6_digest_150 ?_
    refine lv_imul (pc := 153) hx hb dX6_digest_153 ?_
    refine lv_icmp_ge (pc := 154) (tgt := 177) hx hb dX6_digest_154 (by decide) (fun c17 => ?_) (fun c17 => ?_)
    · have h := h.1 c17
      refine lv_lload_n (pc := 177) hx hb dX6_digest_177 rfl (lv_at hl 1 rfl) ?_
      exact hret 178 _ _ (A, V) _ _ dX6_digest_178 h hw
    · have h := h.2 c17
      refine lv_lload_n (pc := 157) hx hb dX6_digest_157 rfl (lv_at hl 1 rfl) ?_
      refine lv_ldc2 (pc := 158) (v := (31 : Int64)) hx hb hown (hts _ kX6_digest_w_constantLong_RX6_155__31_) dX6_digest_158 ?_
      refine lv_lmul (pc := 161) hx hb dX6_digest_161 ?_
      refine lv_aload_n (pc := 162) hx hb dX6_digest_162 rfl (lv_at hl 0 rfl) ?_
      refine geM_X6_9 (pc := 163) cx inX6_digest_X6 kX6_digest_23 hw dX6_digest_163 ?_
      refine lv_iload_n (pc := 166) hx hb dX6_digest_166 rfl (lv_at hl 2 rfl) ?_
      refine alM_3 (pc := 167) cx hw h.1 dX6_digest_167 ?_
      have h := h.2
      refine lv_i2l (pc := 168) (v := (A 3 x3.toNatClampNeg).toInt64) hx hb dX6_digest_168 rfl ?_
      refine lv_ladd (pc := 169) hx hb dX6_digest_169 ?_
      refine lv_lstore_n (pc := 170) (lv' := [(1, .long ((x1 * (31 : Int64)) + ((A 3 x3.toNatClampNeg).toInt64))), (0, .ref (ad 0)), (3, .int x3)]) hx hb dX6_digest_170 rfl hl (by decide) rfl (fun ls hl => ?_)
      refine lv_iinc (pc := 171) (v := x3 + 1) (lv' := [(3, .int (x3 + 1)), (1, .long ((x1 * (31 : Int64)) + ((A 3 x3.toNatClampNeg).toInt64))), (0, .ref (ad 0))]) hx hb dX6_digest_171 hl (k := 2) rfl rfl (by decide) rfl (fun ls hl => ?_)
      refine lv_goto (pc := 174) (tgt := 146) hx hb dX6_digest_174 (by decide) ?_
      exact ih A V ((x1 * (31 : Int64)) + ((A 3 x3.toNatClampNeg).toInt64)) (x3 + 1) h _ _ _ hw (lv_sub hl [2, 1, 0] rfl)
def wl_X6_digest_114 (Q : Int64 → SA → SV → Prop) : Nat → SA → SV → Int64 → Int32 → Prop
  | 0, _, _, _, _ => False
  | n + 1, A, V, x1, x3 => ((((5 : Int32) * (V 4)) ≤ x3 → (∃ n146 : Nat, wl_X6_digest_146 Q n146 A V x1 (0 : Int32))) ∧ (¬ (((5 : Int32) * (V 4)) ≤ x3) → (vp_in x3 80 ∧ wl_X6_digest_114 Q n A V ((x1 * (31 : Int64)) + ((A 2 x3.toNatClampNeg).toInt64)) (x3 + 1))))
set_option maxHeartbeats 4000000 in
set_option maxRecDepth 100000 in
theorem wk_X6_digest_114 (Q : Int64 → SA → SV → Prop) (cx : CX RX6 cX6_digest 5 wsX6_digest D [(cI, .int), (cZ, .boolean)] p s m args c A0) (hret : ∀ (pc : Nat) (ls : Array Slot) (r : Int64) (u : SA × SV) (H : Heap) (locs : List Loc), decode cX6_digest pc = .ok (.lreturn, 1) → Q r u.1 u.2 → WS D s A0 (wM ad cI cZ u.1 u.2) H locs → W p l e rmX6_digest s m args below meth c H locs rmX6_digest.cells rmX6_digest.slots Z (F0 m pc ls [.long r]))  : ∀ (n : Nat) (A : SA) (V : SV) (x1 : Int64) (x3 : Int32) (h : wl_X6_digest_114 Q n A V x1 x3) (H : Heap) (locs : List Loc) (ls : Array Slot) (hw : WS D s A0 (wM ad cI cZ A V) H locs) (hl : lv_has ls 5 [(0, .ref (ad 0)), (1, .long x1), (3, .int x3)]), W p l e rmX6_digest s m args below meth c H locs 0 0 Z (F0 m 114 ls []) := by
  obtain ⟨hx, hb, hml, hown, hts, hK, hA⟩ := id cx
  intro n
  induction n with
  | zero => intro A V x1 x3 h; exact False.elim h
  | succ n ih =>
    intro A V x1 x3 h H locs ls hw hl
    refine lv_iload_n (pc := 114) hx hb dX6_digest_114 rfl (lv_at hl 2 rfl) ?_
    refine lv_iconst (pc := 115) (v := (5 : Int32)) hx hb dX6_digest_115 (by decide) ?_
    refine lv_aload_n (pc := 116) hx hb dX6_digest_116 rfl (lv_at hl 0 rfl) ?_
    refine geM_X6_6 (pc := 117) cx inX6_digest_X6 kX6_digest_67 hw dX6_digest_117 ?_
    refine lv_imul (pc := 120) hx hb dX6_digest_120 ?_
    refine lv_icmp_ge (pc := 121) (tgt := 144) hx hb dX6_digest_121 (by decide) (fun c16 => ?_) (fun c16 => ?_)
    · have h := h.1 c16
      refine lv_iconst (pc := 144) (v := (0 : Int32)) hx hb dX6_digest_144 (by decide) ?_
      refine lv_istore_n (pc := 145) (lv' := [(3, .int (0 : Int32)), (0, .ref (ad 0)), (1, .long x1)]) hx hb dX6_digest_145 rfl hl (by decide) rfl (fun ls hl => ?_)
      obtain ⟨n146, h⟩ := h
      exact wk_X6_digest_146 Q cx hret  n146 A V x1 (0 : Int32) h _ _ _ hw (lv_sub hl [1, 2, 0] rfl)
    · have h := h.2 c16
      refine lv_lload_n (pc := 124) hx hb dX6_digest_124 rfl (lv_at hl 1 rfl) ?_
      refine lv_ldc2 (pc := 125) (v := (31 : Int64)) hx hb hown (hts _ kX6_digest_w_constantLong_RX6_155__31_) dX6_digest_125 ?_
      refine lv_lmul (pc := 128) hx hb dX6_digest_128 ?_
      refine lv_aload_n (pc := 129) hx hb dX6_digest_129 rfl (lv_at hl 0 rfl) ?_
      refine geM_X6_7 (pc := 130) cx inX6_digest_X6 kX6_digest_20 hw dX6_digest_130 ?_
      refine lv_iload_n (pc := 133) hx hb dX6_digest_133 rfl (lv_at hl 2 rfl) ?_
      refine alM_2 (pc := 134) cx hw h.1 dX6_digest_134 ?_
      have h := h.2
      refine lv_i2l (pc := 135) (v := (A 2 x3.toNatClampNeg).toInt64) hx hb dX6_digest_135 rfl ?_
      refine lv_ladd (pc := 136) hx hb dX6_digest_136 ?_
      refine lv_lstore_n (pc := 137) (lv' := [(1, .long ((x1 * (31 : Int64)) + ((A 2 x3.toNatClampNeg).toInt64))), (0, .ref (ad 0)), (3, .int x3)]) hx hb dX6_digest_137 rfl hl (by decide) rfl (fun ls hl => ?_)
      refine lv_iinc (pc := 138) (v := x3 + 1) (lv' := [(3, .int (x3 + 1)), (1, .long ((x1 * (31 : Int64)) + ((A 2 x3.toNatClampNeg).toInt64))), (0, .ref (ad 0))]) hx hb dX6_digest_138 hl (k := 2) rfl rfl (by decide) rfl (fun ls hl => ?_)
      refine lv_goto (pc := 141) (tgt := 114) hx hb dX6_digest_141 (by decide) ?_
      exact ih A V ((x1 * (31 : Int64)) + ((A 2 x3.toNatClampNeg).toInt64)) (x3 + 1) h _ _ _ hw (lv_sub hl [2, 1, 0] rfl)
def wl_X6_digest_79 (Q : Int64 → SA → SV → Prop) (K68 : SA → SV → Int64 → Int32 → Prop) : Nat → SA → SV → Int64 → Int32 → Int32 → Prop
  | 0, _, _, _, _, _ => False
  | n + 1, A, V, x1, x3, x4 => (((5 : Int32) ≤ x4 → K68 A V x1 (x3 + 1)) ∧ (¬ ((5 : Int32) ≤ x4) → (wpX6_binTold A V x3 x4 (fun r11 A_14 V_15 => wl_X6_digest_79 Q K68 n A_14 V_15 ((x1 * (31 : Int64)) + r11.toInt64) x3 (x4 + 1)))))
set_option maxHeartbeats 4000000 in
set_option maxRecDepth 100000 in
theorem wk_X6_digest_79 (Q : Int64 → SA → SV → Prop) (K68 : SA → SV → Int64 → Int32 → Prop) (cx : CX RX6 cX6_digest 5 wsX6_digest D [(cI, .int), (cZ, .boolean)] p s m args c A0) (hret : ∀ (pc : Nat) (ls : Array Slot) (r : Int64) (u : SA × SV) (H : Heap) (locs : List Loc), decode cX6_digest pc = .ok (.lreturn, 1) → Q r u.1 u.2 → WS D s A0 (wM ad cI cZ u.1 u.2) H locs → W p l e rmX6_digest s m args below meth c H locs rmX6_digest.cells rmX6_digest.slots Z (F0 m pc ls [.long r])) (hK68 : ∀ (A : SA) (V : SV) (x1 : Int64) (x3 : Int32) (h : K68 A V x1 x3) (H : Heap) (locs : List Loc) (ls : Array Slot) (hw : WS D s A0 (wM ad cI cZ A V) H locs) (hl : lv_has ls 5 [(0, .ref (ad 0)), (1, .long x1), (3, .int x3)]), W p l e rmX6_digest s m args below meth c H locs 0 0 Z (F0 m 68 ls [])) : ∀ (n : Nat) (A : SA) (V : SV) (x1 : Int64) (x3 : Int32) (x4 : Int32) (h : wl_X6_digest_79 Q K68 n A V x1 x3 x4) (H : Heap) (locs : List Loc) (ls : Array Slot) (hw : WS D s A0 (wM ad cI cZ A V) H locs) (hl : lv_has ls 5 [(0, .ref (ad 0)), (1, .long x1), (3, .int x3), (4, .int x4)]), W p l e rmX6_digest s m args below meth c H locs 0 0 Z (F0 m 79 ls []) := by
  obtain ⟨hx, hb, hml, hown, hts, hK, hA⟩ := id cx
  intro n
  induction n with
  | zero => intro A V x1 x3 x4 h; exact False.elim h
  | succ n ih =>
    intro A V x1 x3 x4 h H locs ls hw hl
    refine lv_iload (pc := 79) hx hb dX6_digest_79 (lv_at hl 3 rfl) ?_
    refine lv_iconst (pc := 81) (v := (5 : Int32)) hx hb dX6_digest_81 (by decide) ?_
    refine lv_icmp_ge (pc := 82) (tgt := 106) hx hb dX6_digest_82 (by decide) (fun c10 => ?_) (fun c10 => ?_)
    · have h := h.1 c10
      refine lv_iinc (pc := 106) (v := x3 + 1) (lv' := [(3, .int (x3 + 1)), (0, .ref (ad 0)), (1, .long x1), (4, .int x4)]) hx hb dX6_digest_106 hl (k := 2) rfl rfl (by decide) rfl (fun ls hl => ?_)
      refine lv_goto (pc := 109) (tgt := 68) hx hb dX6_digest_109 (by decide) ?_
      exact hK68 A V x1 (x3 + 1) h _ _ _ hw (lv_sub hl [1, 2, 0] rfl)
    · have h := h.2 c10
      refine lv_lload_n (pc := 85) hx hb dX6_digest_85 rfl (lv_at hl 1 rfl) ?_
      refine lv_ldc2 (pc := 86) (v := (31 : Int64)) hx hb hown (hts _ kX6_digest_w_constantLong_RX6_155__31_) dX6_digest_86 ?_
      refine lv_lmul (pc := 89) hx hb dX6_digest_89 ?_
      refine lv_aload_n (pc := 90) hx hb dX6_digest_90 rfl (lv_at hl 0 rfl) ?_
      refine lv_iload_n (pc := 91) hx hb dX6_digest_91 rfl (lv_at hl 2 rfl) ?_
      refine lv_iload (pc := 92) hx hb dX6_digest_92 (lv_at hl 3 rfl) ?_
      refine callVi (pc := 94) (rest := [.long (x1 * (31 : Int64))]) (c1 := 0) (s1 := 0) cx hw hl (metX6_binTold l D cI cZ ad H.size A V x3 x4 _ h) (fun hts => cwV 2 hts gX6_digest_X6_binTold rfl rfl rfl (by decide +kernel) ⟨Nat.le_of_ble_eq_true rfl, Nat.le_of_ble_eq_true rfl⟩) SUB.rf [0, 1] rfl 0 (ci := 6) rfl rfl rfl (JN.rf) rfl rfl (Nat.le_of_ble_eq_true rfl) ⟨Nat.le_of_ble_eq_true rfl, Nat.le_of_ble_eq_true rfl⟩ rfl rfl dX6_digest_94 (fun r11 u H locs h hw => ?_)
      obtain ⟨A_14, V_15⟩ := u
      refine lv_i2l (pc := 97) (v := r11.toInt64) hx hb dX6_digest_97 rfl ?_
      refine lv_ladd (pc := 98) hx hb dX6_digest_98 ?_
      refine lv_lstore_n (pc := 99) (lv' := [(1, .long ((x1 * (31 : Int64)) + r11.toInt64)), (0, .ref (ad 0)), (3, .int x3), (4, .int x4)]) hx hb dX6_digest_99 rfl hl (by decide) rfl (fun ls hl => ?_)
      refine lv_iinc (pc := 100) (v := x4 + 1) (lv' := [(4, .int (x4 + 1)), (1, .long ((x1 * (31 : Int64)) + r11.toInt64)), (0, .ref (ad 0)), (3, .int x3)]) hx hb dX6_digest_100 hl (k := 3) rfl rfl (by decide) rfl (fun ls hl => ?_)
      refine lv_goto (pc := 103) (tgt := 79) hx hb dX6_digest_103 (by decide) ?_
      exact ih A_14 V_15 ((x1 * (31 : Int64)) + r11.toInt64) x3 (x4 + 1) h _ _ _ hw (lv_sub hl [2, 1, 3, 0] rfl)
def wl_X6_digest_68 (Q : Int64 → SA → SV → Prop) : Nat → SA → SV → Int64 → Int32 → Prop
  | 0, _, _, _, _ => False
  | n + 1, A, V, x1, x3 => (((V 3) ≤ x3 → (∃ n114 : Nat, wl_X6_digest_114 Q n114 A V x1 (0 : Int32))) ∧ (¬ ((V 3) ≤ x3) → (∃ n79 : Nat, wl_X6_digest_79 Q (wl_X6_digest_68 Q n) n79 A V x1 x3 (0 : Int32))))
set_option maxHeartbeats 4000000 in
set_option maxRecDepth 100000 in
theorem wk_X6_digest_68 (Q : Int64 → SA → SV → Prop) (cx : CX RX6 cX6_digest 5 wsX6_digest D [(cI, .int), (cZ, .boolean)] p s m args c A0) (hret : ∀ (pc : Nat) (ls : Array Slot) (r : Int64) (u : SA × SV) (H : Heap) (locs : List Loc), decode cX6_digest pc = .ok (.lreturn, 1) → Q r u.1 u.2 → WS D s A0 (wM ad cI cZ u.1 u.2) H locs → W p l e rmX6_digest s m args below meth c H locs rmX6_digest.cells rmX6_digest.slots Z (F0 m pc ls [.long r]))  : ∀ (n : Nat) (A : SA) (V : SV) (x1 : Int64) (x3 : Int32) (h : wl_X6_digest_68 Q n A V x1 x3) (H : Heap) (locs : List Loc) (ls : Array Slot) (hw : WS D s A0 (wM ad cI cZ A V) H locs) (hl : lv_has ls 5 [(0, .ref (ad 0)), (1, .long x1), (3, .int x3)]), W p l e rmX6_digest s m args below meth c H locs 0 0 Z (F0 m 68 ls []) := by
  obtain ⟨hx, hb, hml, hown, hts, hK, hA⟩ := id cx
  intro n
  induction n with
  | zero => intro A V x1 x3 h; exact False.elim h
  | succ n ih =>
    intro A V x1 x3 h H locs ls hw hl
    refine lv_iload_n (pc := 68) hx hb dX6_digest_68 rfl (lv_at hl 2 rfl) ?_
    refine lv_aload_n (pc := 69) hx hb dX6_digest_69 rfl (lv_at hl 0 rfl) ?_
    refine geM_X6_4 (pc := 70) cx inX6_digest_X6 kX6_digest_64 hw dX6_digest_70 ?_
    refine lv_icmp_ge (pc := 73) (tgt := 112) hx hb dX6_digest_73 (by decide) (fun c9 => ?_) (fun c9 => ?_)
    · have h := h.1 c9
      refine lv_iconst (pc := 112) (v := (0 : Int32)) hx hb dX6_digest_112 (by decide) ?_
      refine lv_istore_n (pc := 113) (lv' := [(3, .int (0 : Int32)), (0, .ref (ad 0)), (1, .long x1)]) hx hb dX6_digest_113 rfl hl (by decide) rfl (fun ls hl => ?_)
      obtain ⟨n114, h⟩ := h
      exact wk_X6_digest_114 Q cx hret  n114 A V x1 (0 : Int32) h _ _ _ hw (lv_sub hl [1, 2, 0] rfl)
    · have h := h.2 c9
      refine lv_iconst (pc := 76) (v := (0 : Int32)) hx hb dX6_digest_76 (by decide) ?_
      refine lv_istore (pc := 77) (lv' := [(4, .int (0 : Int32)), (0, .ref (ad 0)), (1, .long x1), (3, .int x3)]) hx hb dX6_digest_77 hl (by decide) rfl (fun ls hl => ?_)
      obtain ⟨n79, h⟩ := h
      exact wk_X6_digest_79 Q (wl_X6_digest_68 Q n) cx hret ih n79 A V x1 x3 (0 : Int32) h _ _ _ hw (lv_sub hl [1, 2, 3, 0] rfl)
def wl_X6_digest_38 (Q : Int64 → SA → SV → Prop) : Nat → SA → SV → Int64 → Int32 → Prop
  | 0, _, _, _, _ => False
  | n + 1, A, V, x1, x3 => (((V 2) ≤ x3 → (∃ n68 : Nat, wl_X6_digest_68 Q n68 A V x1 (0 : Int32))) ∧ (¬ ((V 2) ≤ x3) → (vp_in x3 30 ∧ wl_X6_digest_38 Q n A V ((x1 * (31 : Int64)) + ((A 0 x3.toNatClampNeg).toInt64)) (x3 + 1))))
set_option maxHeartbeats 4000000 in
set_option maxRecDepth 100000 in
theorem wk_X6_digest_38 (Q : Int64 → SA → SV → Prop) (cx : CX RX6 cX6_digest 5 wsX6_digest D [(cI, .int), (cZ, .boolean)] p s m args c A0) (hret : ∀ (pc : Nat) (ls : Array Slot) (r : Int64) (u : SA × SV) (H : Heap) (locs : List Loc), decode cX6_digest pc = .ok (.lreturn, 1) → Q r u.1 u.2 → WS D s A0 (wM ad cI cZ u.1 u.2) H locs → W p l e rmX6_digest s m args below meth c H locs rmX6_digest.cells rmX6_digest.slots Z (F0 m pc ls [.long r]))  : ∀ (n : Nat) (A : SA) (V : SV) (x1 : Int64) (x3 : Int32) (h : wl_X6_digest_38 Q n A V x1 x3) (H : Heap) (locs : List Loc) (ls : Array Slot) (hw : WS D s A0 (wM ad cI cZ A V) H locs) (hl : lv_has ls 5 [(0, .ref (ad 0)), (1, .long x1), (3, .int x3)]), W p l e rmX6_digest s m args below meth c H locs 0 0 Z (F0 m 38 ls []) := by
  obtain ⟨hx, hb, hml, hown, hts, hK, hA⟩ := id cx
  intro n
  induction n with
  | zero => intro A V x1 x3 h; exact False.elim h
  | succ n ih =>
    intro A V x1 x3 h H locs ls hw hl
    refine lv_iload_n (pc := 38) hx hb dX6_digest_38 rfl (lv_at hl 2 rfl) ?_
    refine lv_aload_n (pc := 39) hx hb dX6_digest_39 rfl (lv_at hl 0 rfl) ?_
    refine geM_X6_2 (pc := 40) cx inX6_digest_X6 kX6_digest_7 hw dX6_digest_40 ?_
    refine lv_icmp_ge (pc := 43) (tgt := 66) hx hb dX6_digest_43 (by decide) (fun c8 => ?_) (fun c8 => ?_)
    · have h := h.1 c8
      refine lv_iconst (pc := 66) (v := (0 : Int32)) hx hb dX6_digest_66 (by decide) ?_
      refine lv_istore_n (pc := 67) (lv' := [(3, .int (0 : Int32)), (0, .ref (ad 0)), (1, .long x1)]) hx hb dX6_digest_67 rfl hl (by decide) rfl (fun ls hl => ?_)
      obtain ⟨n68, h⟩ := h
      exact wk_X6_digest_68 Q cx hret  n68 A V x1 (0 : Int32) h _ _ _ hw (lv_sub hl [1, 2, 0] rfl)
    · have h := h.2 c8
      refine lv_lload_n (pc := 46) hx hb dX6_digest_46 rfl (lv_at hl 1 rfl) ?_
      refine lv_ldc2 (pc := 47) (v := (31 : Int64)) hx hb hown (hts _ kX6_digest_w_constantLong_RX6_155__31_) dX6_digest_47 ?_
      refine lv_lmul (pc := 50) hx hb dX6_digest_50 ?_
      refine lv_aload_n (pc := 51) hx hb dX6_digest_51 rfl (lv_at hl 0 rfl) ?_
      refine geM_X6_3 (pc := 52) cx inX6_digest_X6 kX6_digest_13 hw dX6_digest_52 ?_
      refine lv_iload_n (pc := 55) hx hb dX6_digest_55 rfl (lv_at hl 2 rfl) ?_
      refine alM_0 (pc := 56) cx hw h.1 dX6_digest_56 ?_
      have h := h.2
      refine lv_i2l (pc := 57) (v := (A 0 x3.toNatClampNeg).toInt64) hx hb dX6_digest_57 rfl ?_
      refine lv_ladd (pc := 58) hx hb dX6_digest_58 ?_
      refine lv_lstore_n (pc := 59) (lv' := [(1, .long ((x1 * (31 : Int64)) + ((A 0 x3.toNatClampNeg).toInt64))), (0, .ref (ad 0)), (3, .int x3)]) hx hb dX6_digest_59 rfl hl (by decide) rfl (fun ls hl => ?_)
      refine lv_iinc (pc := 60) (v := x3 + 1) (lv' := [(3, .int (x3 + 1)), (1, .long ((x1 * (31 : Int64)) + ((A 0 x3.toNatClampNeg).toInt64))), (0, .ref (ad 0))]) hx hb dX6_digest_60 hl (k := 2) rfl rfl (by decide) rfl (fun ls hl => ?_)
      refine lv_goto (pc := 63) (tgt := 38) hx hb dX6_digest_63 (by decide) ?_
      exact ih A V ((x1 * (31 : Int64)) + ((A 0 x3.toNatClampNeg).toInt64)) (x3 + 1) h _ _ _ hw (lv_sub hl [2, 1, 0] rfl)
def wl_X6_digest_11 (Q : Int64 → SA → SV → Prop) : Nat → SA → SV → Int64 → Int32 → Prop
  | 0, _, _, _, _ => False
  | n + 1, A, V, x1, x3 => (((13 : Int32) ≤ x3 → (∃ n38 : Nat, wl_X6_digest_38 Q n38 A V x1 (0 : Int32))) ∧ (¬ ((13 : Int32) ≤ x3) → (wpX6_counted A V x3 (fun r3 A_6 V_7 => wl_X6_digest_11 Q n A_6 V_7 ((x1 * (31 : Int64)) + r3.toInt64) (x3 + 1)))))
set_option maxHeartbeats 4000000 in
set_option maxRecDepth 100000 in
theorem wk_X6_digest_11 (Q : Int64 → SA → SV → Prop) (cx : CX RX6 cX6_digest 5 wsX6_digest D [(cI, .int), (cZ, .boolean)] p s m args c A0) (hret : ∀ (pc : Nat) (ls : Array Slot) (r : Int64) (u : SA × SV) (H : Heap) (locs : List Loc), decode cX6_digest pc = .ok (.lreturn, 1) → Q r u.1 u.2 → WS D s A0 (wM ad cI cZ u.1 u.2) H locs → W p l e rmX6_digest s m args below meth c H locs rmX6_digest.cells rmX6_digest.slots Z (F0 m pc ls [.long r]))  : ∀ (n : Nat) (A : SA) (V : SV) (x1 : Int64) (x3 : Int32) (h : wl_X6_digest_11 Q n A V x1 x3) (H : Heap) (locs : List Loc) (ls : Array Slot) (hw : WS D s A0 (wM ad cI cZ A V) H locs) (hl : lv_has ls 5 [(0, .ref (ad 0)), (1, .long x1), (3, .int x3)]), W p l e rmX6_digest s m args below meth c H locs 0 0 Z (F0 m 11 ls []) := by
  obtain ⟨hx, hb, hml, hown, hts, hK, hA⟩ := id cx
  intro n
  induction n with
  | zero => intro A V x1 x3 h; exact False.elim h
  | succ n ih =>
    intro A V x1 x3 h H locs ls hw hl
    refine lv_iload_n (pc := 11) hx hb dX6_digest_11 rfl (lv_at hl 2 rfl) ?_
    refine lv_bipush (pc := 12) (v := (13 : Int32)) hx hb dX6_digest_12 (by decide) ?_
    refine lv_icmp_ge (pc := 14) (tgt := 36) hx hb dX6_digest_14 (by decide) (fun c2 => ?_) (fun c2 => ?_)
    · have h := h.1 c2
      refine lv_iconst (pc := 36) (v := (0 : Int32)) hx hb dX6_digest_36 (by decide) ?_
      refine lv_istore_n (pc := 37) (lv' := [(3, .int (0 : Int32)), (0, .ref (ad 0)), (1, .long x1)]) hx hb dX6_digest_37 rfl hl (by decide) rfl (fun ls hl => ?_)
      obtain ⟨n38, h⟩ := h
      exact wk_X6_digest_38 Q cx hret  n38 A V x1 (0 : Int32) h _ _ _ hw (lv_sub hl [1, 2, 0] rfl)
    · have h := h.2 c2
      refine lv_lload_n (pc := 17) hx hb dX6_digest_17 rfl (lv_at hl 1 rfl) ?_
      refine lv_ldc2 (pc := 18) (v := (31 : Int64)) hx hb hown (hts _ kX6_digest_w_constantLong_RX6_155__31_) dX6_digest_18 ?_
      refine lv_lmul (pc := 21) hx hb dX6_digest_21 ?_
      refine lv_aload_n (pc := 22) hx hb dX6_digest_22 rfl (lv_at hl 0 rfl) ?_
      refine lv_iload_n (pc := 23) hx hb dX6_digest_23 rfl (lv_at hl 2 rfl) ?_
      refine callVi (pc := 24) (rest := [.long (x1 * (31 : Int64))]) (c1 := 0) (s1 := 0) cx hw hl (metX6_counted l D cI cZ ad H.size A V x3 _ h) (fun hts => cwV 1 hts gX6_digest_X6_counted rfl rfl rfl (by decide +kernel) ⟨Nat.le_of_ble_eq_true rfl, Nat.le_of_ble_eq_true rfl⟩) SUB.rf [0, 1] rfl 0 (ci := 6) rfl rfl rfl (JN.rf) rfl rfl (Nat.le_of_ble_eq_true rfl) ⟨Nat.le_of_ble_eq_true rfl, Nat.le_of_ble_eq_true rfl⟩ rfl rfl dX6_digest_24 (fun r3 u H locs h hw => ?_)
      obtain ⟨A_6, V_7⟩ := u
      refine lv_i2l (pc := 27) (v := r3.toInt64) hx hb dX6_digest_27 rfl ?_
      refine lv_ladd (pc := 28) hx hb dX6_digest_28 ?_
      refine lv_lstore_n (pc := 29) (lv' := [(1, .long ((x1 * (31 : Int64)) + r3.toInt64)), (0, .ref (ad 0)), (3, .int x3)]) hx hb dX6_digest_29 rfl hl (by decide) rfl (fun ls hl => ?_)
      refine lv_iinc (pc := 30) (v := x3 + 1) (lv' := [(3, .int (x3 + 1)), (1, .long ((x1 * (31 : Int64)) + r3.toInt64)), (0, .ref (ad 0))]) hx hb dX6_digest_30 hl (k := 2) rfl rfl (by decide) rfl (fun ls hl => ?_)
      refine lv_goto (pc := 33) (tgt := 11) hx hb dX6_digest_33 (by decide) ?_
      exact ih A_6 V_7 ((x1 * (31 : Int64)) + r3.toInt64) (x3 + 1) h _ _ _ hw (lv_sub hl [2, 1, 0] rfl)
def wb_X6_digest_0 (Q : Int64 → SA → SV → Prop) (A : SA) (V : SV) : Prop := (∀ V_1 : SV, V_1 = uv V 0 (0 : Int32) → (∃ n11 : Nat, wl_X6_digest_11 Q n11 A V_1 (479 : Int64) (0 : Int32)))
set_option maxHeartbeats 4000000 in
set_option maxRecDepth 100000 in
theorem wk_X6_digest_0 (Q : Int64 → SA → SV → Prop) (cx : CX RX6 cX6_digest 5 wsX6_digest D [(cI, .int), (cZ, .boolean)] p s m args c A0) (hret : ∀ (pc : Nat) (ls : Array Slot) (r : Int64) (u : SA × SV) (H : Heap) (locs : List Loc), decode cX6_digest pc = .ok (.lreturn, 1) → Q r u.1 u.2 → WS D s A0 (wM ad cI cZ u.1 u.2) H locs → W p l e rmX6_digest s m args below meth c H locs rmX6_digest.cells rmX6_digest.slots Z (F0 m pc ls [.long r]))  : ∀ (A : SA) (V : SV) (h : wb_X6_digest_0 Q A V) (H : Heap) (locs : List Loc) (ls : Array Slot) (hw : WS D s A0 (wM ad cI cZ A V) H locs) (hl : lv_has ls 5 [(0, .ref (ad 0))]), W p l e rmX6_digest s m args below meth c H locs 0 0 Z (F0 m 0 ls []) := by
  obtain ⟨hx, hb, hml, hown, hts, hK, hA⟩ := id cx
  intro A V h H locs ls hw hl
  refine lv_aload_n (pc := 0) hx hb dX6_digest_0 rfl (lv_at hl 0 rfl) ?_
  refine lv_iconst (pc := 1) (v := (0 : Int32)) hx hb dX6_digest_1 (by decide) ?_
  refine puM_X6_0 (pc := 2) cx inX6_digest_X6 kX6_digest_42 hw dX6_digest_2 (fun V_1 eV_1 H locs hw => ?_)
  have h := h V_1 eV_1
  refine lv_ldc2 (pc := 5) (v := (479 : Int64)) hx hb hown (hts _ kX6_digest_w_constantLong_RX6_153__479_) dX6_digest_5 ?_
  refine lv_lstore_n (pc := 8) (lv' := [(1, .long (479 : Int64)), (0, .ref (ad 0))]) hx hb dX6_digest_8 rfl hl (by decide) rfl (fun ls hl => ?_)
  refine lv_iconst (pc := 9) (v := (0 : Int32)) hx hb dX6_digest_9 (by decide) ?_
  refine lv_istore_n (pc := 10) (lv' := [(3, .int (0 : Int32)), (1, .long (479 : Int64)), (0, .ref (ad 0))]) hx hb dX6_digest_10 rfl hl (by decide) rfl (fun ls hl => ?_)
  obtain ⟨n11, h⟩ := h
  exact wk_X6_digest_11 Q cx hret  n11 A V_1 (479 : Int64) (0 : Int32) h _ _ _ hw (lv_sub hl [2, 1, 0] rfl)
def wpX6_digest (A : SA) (V : SV)  (Q : Int64 → SA → SV → Prop) : Prop := wb_X6_digest_0 Q A V
set_option maxHeartbeats 4000000 in
set_option maxRecDepth 100000 in
theorem metX6_digest (l : Launch) (D : va_G) (cI cZ : ClassId) (ad : Nat → Nat) (sz : Nat) (A : SA) (V : SV)  (Q : Int64 → SA → SV → Prop) (h : wpX6_digest A V  Q) : Met l yX6_digest wsX6_digest rmX6_digest (PcW D [(cI, .int), (cZ, .boolean)] (wM ad cI cZ A V) sz [.ref (ad 0)]) (QlW D [(cI, .int), (cZ, .boolean)] (wM ad cI cZ A V) sz (fun u : SA × SV => (wM ad cI cZ u.1 u.2)) (fun r u => Q r u.1 u.2)) rmX6_digest.cells rmX6_digest.slots (va_A (wM ad cI cZ A V) sz) := by
  refine startL (plainFor_of_name (by decide)) rfl (Nat.le_of_ble_eq_true rfl) ?_
  intro p e s m args below meth c A0 Z cx hw hret ls hl
  exact wk_X6_digest_0 Q cx hret A V h _ _ _ hw hl
end GENV
