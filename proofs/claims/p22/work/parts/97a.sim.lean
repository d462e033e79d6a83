section GENV
variable {p : Program} {l : Launch} {e : Env} {s : State} {m : MethodId} {args : Array Value} {below : List Frame} {meth : Method} {c : Code} {A0 : Nat → Prop} {Z : State → Prop} {D : va_G} {cI cZ : ClassId} {ad : Nat → Nat} {tys : TYS} {xa : Nat} {ad2 : Nat → Nat}
abbrev rmL_below : Room := { frames := 0, cells := 0, slots := 0, locals := 0 }
theorem kL_below_w_constant_RL_7__2147483647_ : Cond.constant RL 7 (2147483647) ∈ wsL_below := by decide +kernel
def wb_L_below_0 (Q : Int32 → Prop) (x0 : Int32) (x1 : Int32) : Prop := (¬ x1 = 0 ∧ Q ((x0 &&& (2147483647 : Int32)) - (x0 &&& (2147483647 : Int32)) / x1 * x1))
set_option maxHeartbeats 4000000 in
set_option maxRecDepth 100000 in
theorem wk_L_below_0 (Q : Int32 → Prop) (cx : CX RL cL_below 2 wsL_below D tys p s m args c A0) (hret : ∀ (pc : Nat) (ls : Array Slot) (r : Int32) (u : Unit) (H : Heap) (locs : List Loc), narrow .int (.int r) = .int r → decode cL_below pc = .ok (.ireturn, 1) → Q r → WS D s A0 ([] : va_W) H locs → W p l e rmL_below s m args below meth c H locs rmL_below.cells rmL_below.slots Z (F0 m pc ls [.int r]))  : ∀ (x0 : Int32) (x1 : Int32) (h : wb_L_below_0 Q x0 x1) (H : Heap) (locs : List Loc) (ls : Array Slot) (hw : WS D s A0 ([] : va_W) H locs) (hl : lv_has ls 2 [(0, .int x0), (1, .int x1)]), W p l e rmL_below s m args below meth c H locs 0 0 Z (F0 m 0 ls []) := by
  obtain ⟨hx, hb, hml, hown, hts, hK, hA⟩ := id cx
  intro x0 x1 h H locs ls hw hl
  refine lv_iload_n (pc := 0) hx hb dL_below_0 rfl (lv_at hl 0 rfl) ?_
  refine lv_ldc (pc := 1) (v := (2147483647 : Int32)) hx hb hown (hts _ kL_below_w_constant_RL_7__2147483647_) dL_below_1 ?_
  refine lv_iand (pc := 3) hx hb dL_below_3 ?_
  refine lv_iload_n (pc := 4) hx hb dL_below_4 rfl (lv_at hl 1 rfl) ?_
  refine lv_irem (pc := 5) hx hb dL_below_5 h.1 ?_
  have h := h.2
  exact hret 6 _ _ () _ _ rfl dL_below_6 h hw
def wpL_below (x0 : Int32) (x1 : Int32) (Q : Int32 → Prop) : Prop := wb_L_below_0 Q x0 x1
set_option maxHeartbeats 4000000 in
set_option maxRecDepth 100000 in
theorem metL_below (l : Launch) (D : va_G) (tys : TYS) (sz : Nat) (x0 : Int32) (x1 : Int32) (Q : Int32 → Prop) (h : wpL_below x0 x1 Q) : Met l yL_below wsL_below rmL_below (PcW D tys ([] : va_W) sz [.int x0, .int x1]) (QiW D tys ([] : va_W) sz (fun u : Unit => ([] : va_W)) (fun r u => Q r)) rmL_below.cells rmL_below.slots (va_A ([] : va_W) sz) := by
  refine startI (plainFor_of_name (by decide)) rfl (Nat.le_of_ble_eq_true rfl) ?_
  intro p e s m args below meth c A0 Z cx hw hret ls hl
  exact wk_L_below_0 Q cx hret x0 x1 h _ _ _ hw hl
end GENV
/-! worlds as sets of cells: what may be left out, and in any order -/
theorem va_D.nd {A : Nat → Prop} {ws : va_W} (h : va_D A ws) : (ws.map Prod.fst).Nodup := by
  rw [List.Nodup, List.pairwise_iff_getElem]
  intro i j hi hj hij e
  rw [List.getElem_map, List.getElem_map] at e
  rw [List.length_map] at hi hj
  have := h.1 i j _ _ (List.getElem?_eq_getElem hi) (List.getElem?_eq_getElem hj) e
  omega
theorem va_D.ofnd {A : Nat → Prop} {ws : va_W} (h1 : (ws.map Prod.fst).Nodup) (h2 : ∀ q ∈ ws, A q.1) : va_D A ws := by
  refine ⟨fun i j p q hi hj e => ?_, fun k q hk => h2 q (List.mem_of_getElem? hk)⟩
  have h3 := (List.getElem?_eq_some_iff.mp hi).1
  exact (List.getElem?_inj (l := ws.map Prod.fst) (by rw [List.length_map]; exact h3) h1).mp (by rw [List.getElem?_map, List.getElem?_map, hi, hj]; exact congrArg some e)
theorem SUB.of {ws wc : va_W} (h1 : ∀ q ∈ wc, q ∈ ws) (h2 : (ws.map Prod.fst).Nodup → (wc.map Prod.fst).Nodup) : SUB ws wc := by
  refine ⟨fun k q hk => List.getElem?_of_mem (h1 q (List.mem_of_getElem? hk)), fun A hD => va_D.ofnd (h2 hD.nd) (fun q hq => ?_)⟩
  obtain ⟨i, hi⟩ := List.getElem?_of_mem (h1 q hq)
  exact hD.2 i q hi
theorem SUB.pm {ws wc : va_W} (h : ws.Perm wc) : SUB ws wc := SUB.of (fun q hq => h.mem_iff.mpr hq) (fun hn => (h.map Prod.fst).nodup_iff.mp hn)
theorem SUB.sl {ws wc : va_W} (h : wc.Sublist ws) : SUB ws wc := SUB.of (fun q hq => h.subset hq) (fun hn => hn.sublist (h.map Prod.fst))
theorem SUB.appR {a a' b : va_W} (h : SUB a a') : SUB (a ++ b) (a' ++ b) := by
  refine ⟨fun k q hk => ?_, fun A hD => va_D.app (h.2 A (SUB.left.2 A hD)) (SUB.right.2 A hD) (fun i j x y hx hy hxy => ?_)⟩
  · rcases List.mem_append.mp (List.mem_of_getElem? hk) with q1 | q1
    · obtain ⟨j, hj⟩ := List.getElem?_of_mem q1
      obtain ⟨i, hi⟩ := h.1 j q hj
      exact ⟨i, app_l hi⟩
    · obtain ⟨j, hj⟩ := List.getElem?_of_mem q1
      exact ⟨_, app_r hj⟩
  · obtain ⟨i2, hi2⟩ := h.1 i x hx
    have h1 := hD.1 _ _ x y (app_l (b := b) hi2) (app_r hy) hxy
    have h2 := (List.getElem?_eq_some_iff.mp hi2).1
    omega
theorem SUB.sw {a b c : va_W} : SUB ((a ++ b) ++ c) ((a ++ c) ++ b) := SUB.pm (by
  rw [List.append_assoc, List.append_assoc]
  exact List.Perm.append_left a List.perm_append_comm)
theorem set_l {a a' b : va_W} {k : Nat} {x : Nat × va_E} (h : k < a.length) (e : a.set k x = a') : (a ++ b).set k x = a' ++ b := by
  rw [List.set_append_left _ _ h, e]
theorem set_r {a b b' : va_W} {k : Nat} {x : Nat × va_E} (e : b.set k x = b') : (a ++ b).set (a.length + k) x = a ++ b' := by
  rw [List.set_append_right _ _ (Nat.le_add_right _ _), Nat.add_sub_cancel_left, e]
/-! rows of ints, and an array of them -/
abbrev ROWS : Type := List (Nat × (Nat → Int32))
def rowsW (cI : ClassId) (k : Nat) (L : ROWS) : va_W := L.map (fun q => (q.1, .inl (cI, k, .inl q.2)))
def refsL (L : ROWS) : Nat → Option Nat := fun i => (L[i]?).map Prod.fst
def arrE (cII : ClassId) (L : ROWS) : va_E := .inl (cII, L.length, .inr (.inr (.inr (.inr (refsL L)))))
theorem rowsW_app {cI : ClassId} {k : Nat} {L M : ROWS} : rowsW cI k (L ++ M) = rowsW cI k L ++ rowsW cI k M := List.map_append
theorem rowsW_at {cI : ClassId} {k i : Nat} {L : ROWS} {q : Nat × (Nat → Int32)} (h : L[i]? = some q) : (rowsW cI k L)[i]? = some (q.1, .inl (cI, k, .inl q.2)) := by
  unfold rowsW
  rw [List.getElem?_map, h]
  rfl
def mW (cI cII : ClassId) (ba k : Nat) (L : ROWS) (rq : Nat) (g : Nat → Int32) : va_W := (ba, arrE cII L) :: rowsW cI k (L ++ [(rq, g)])
theorem lv_eqi {p : Program} {l : Launch} {e : Env} {R : Room} {s : State} {m : MethodId} {args : Array Value} {below : List Frame} {meth : Method} {c : Code} {H : Heap} {locs : List Loc} {cells slots pc : Nat} {Z : State → Prop} {ls : Array Slot} {rest : List Value} {x y : Int32} (h : x = y) (k : W p l e R s m args below meth c H locs cells slots Z (F0 m pc ls (.int y :: rest))) : W p l e R s m args below meth c H locs cells slots Z (F0 m pc ls (.int x :: rest)) := by
  rw [h]
  exact k
abbrev tysS (cI cII : ClassId) : TYS := [(cI, .int), (cII, .array .int)]
abbrev rmX7_more : Room := { frames := 0, cells := 1, slots := 100, locals := 0 }
theorem kX7_more_13 : Cond.classLink RX7 13 "[I" ∈ wsX7_more := by decide +kernel
set_option maxHeartbeats 4000000 in
theorem metX7_more (l : Launch) (D : va_G) (cI cII : ClassId) (sz ba rq k : Nat) (L : ROWS) (g : Nat → Int32) (hn : L.length ≤ 20) : Met l yX7_more wsX7_more rmX7_more (PcG FA D (tysS cI cII) (mW cI cII ba k L rq g) sz [.ref ba, .ref rq]) (QrW D (tysS cI cII) (mW cI cII ba k L rq g) sz (fun q : Nat => mW cI cII ba k L rq g ++ [(q, arrE cII (L ++ [(rq, g)]))]) (fun q => q) (fun _ => True)) rmX7_more.cells rmX7_more.slots (va_A (mW cI cII ba k L rq g) sz) := by
  refine startGR (ty := .array (.array .int)) (Or.inr ⟨_, rfl⟩) (plainFor_of_name (by decide)) rfl (Nat.le_of_ble_eq_true rfl) ?_
  intro p e s m args below meth c A0 Z cx hw hF hret ls hl
  obtain ⟨hx, hb, hml, hown, hts, hK, hA⟩ := id cx
  have hao := hF.1
  have hl : lv_has ls 4 [(0, .ref ba), (1, .ref rq)] := hl
  have n1 : L.length + 1 < 2 ^ 31 := by omega
  refine lv_aload_n (pc := 0) hx hb dX7_more_0 rfl (lv_at hl 0 rfl) ?_
  refine alenG (pc := 1) cx hw 0 1 (x := (L.length, .inr (.inr (.inr (.inr (refsL L)))))) rfl rfl (v := nI L.length) rfl dX7_more_1 ?_
  refine lv_iconst (pc := 2) (v := (1 : Int32)) hx hb dX7_more_2 (by decide) ?_
  refine lv_iadd (pc := 3) hx hb dX7_more_3 ?_
  refine lv_eqi (nI_1 L.length) ?_
  refine newA (pc := 4) cx hao (hts _ kX7_more_13) hw 1 rfl (N' := L.length + 1) (nI_pos n1) (nI_clamp n1) (by omega) (Nat.le_of_ble_eq_true rfl) (by show 0 + (L.length + 1) ≤ 100; omega) dX7_more_4 (fun q H hw => ?_)
  refine lv_astore_n (pc := 7) (lv' := [(2, .ref q), (0, .ref ba), (1, .ref rq)]) hx hb dX7_more_7 rfl hl (by decide) rfl (fun ls hl => ?_)
  refine lv_iconst (pc := 8) (v := (0 : Int32)) hx hb dX7_more_8 (by decide) ?_
  refine lv_istore_n (pc := 9) (lv' := [(3, .int 0), (2, .ref q), (0, .ref ba), (1, .ref rq)]) hx hb dX7_more_9 rfl hl (by decide) rfl (fun ls hl => ?_)
  have hrow : ∀ (i : Nat) (z : Nat × (Nat → Int32)) (w : va_W), (L ++ [(rq, g)])[i]? = some z → (mW cI cII ba k L rq g ++ w)[i + 1]? = some (z.1, .inl (cI, k, .inl z.2)) := fun i z w h => app_l (b := w) (by
    show ((ba, arrE cII L) :: rowsW cI k (L ++ [(rq, g)]))[i + 1]? = _
    rw [List.getElem?_cons_succ]
    exact rowsW_at h)
  have key : ∀ (d i : Nat), i + d = L.length → ∀ (H : Heap) (locs : List Loc) (ls : Array Slot), WS D s A0 (mW cI cII ba k L rq g ++ [(q, .inl (cII, L.length + 1, .inr (.inr (.inr (.inr (fun j => if j < i then refsL L j else none))))))]) H locs → lv_has ls 4 [(3, .int (nI i)), (2, .ref q), (0, .ref ba), (1, .ref rq)] → W p l e rmX7_more s m args below meth c H locs 1 (L.length + 1) Z (F0 m 10 ls []) := by
    intro d
    induction d with
    | zero =>
      intro i hi H locs ls hw hl
      have hi : i = L.length := by omega
      subst hi
      refine lv_iload_n (pc := 10) hx hb dX7_more_10 rfl (lv_at hl 0 rfl) ?_
      refine lv_aload_n (pc := 11) hx hb dX7_more_11 rfl (lv_at hl 2 rfl) ?_
      refine alenG (pc := 12) cx hw 0 1 (x := (L.length, .inr (.inr (.inr (.inr (refsL L)))))) rfl rfl (v := nI L.length) rfl dX7_more_12 ?_
      refine lv_icmp_ge (pc := 13) (tgt := 28) hx hb dX7_more_13 (by decide) (fun _ => ?_) (fun c9 => absurd (Int32.le_refl _) c9)
      refine lv_aload_n (pc := 28) hx hb dX7_more_28 rfl (lv_at hl 1 rfl) ?_
      refine lv_aload_n (pc := 29) hx hb dX7_more_29 rfl (lv_at hl 2 rfl) ?_
      refine alenG (pc := 30) cx hw 0 1 (x := (L.length, .inr (.inr (.inr (.inr (refsL L)))))) rfl rfl (v := nI L.length) rfl dX7_more_30 ?_
      refine lv_aload_n (pc := 31) hx hb dX7_more_31 rfl (lv_at hl 3 rfl) ?_
      refine astA (pc := 32) cx hao hw _ 1 (L.length + 1) 0 (app_r (k := 0) rfl) rfl (hrow L.length (rq, g) _ (by rw [List.getElem?_append_right (Nat.le_refl _), Nat.sub_self]; rfl)) rfl (vp_in_nI (by omega) (by omega)) (ws1 := mW cI cII ba k L rq g ++ [(q, arrE cII (L ++ [(rq, g)]))]) (set_r ?_) dX7_more_32 (fun H locs hw => ?_)
      · show [(q, _)] = [(q, _)]
        unfold arrE
        have e : (L ++ [(rq, g)]).length = L.length + 1 := by rw [List.length_append]; rfl
        rw [e]
        refine congrArg (fun F : Nat → Option Nat => [(q, (.inl (cII, L.length + 1, .inr (.inr (.inr (.inr F)))) : va_E))]) (funext fun j => ?_)
        rw [nI_clamp (by omega)]
        unfold va_up refsL
        dsimp only
        by_cases h1 : j = L.length
        · rw [if_pos h1, h1, List.getElem?_append_right (Nat.le_refl _), Nat.sub_self]; rfl
        · rw [if_neg h1]
          by_cases h2 : j < L.length
          · rw [if_pos h2, List.getElem?_append_left h2]
          · rw [if_neg h2, List.getElem?_eq_none (by rw [e]; omega)]; rfl
      refine lv_aload_n (pc := 33) hx hb dX7_more_33 rfl (lv_at hl 1 rfl) ?_
      refine W.widen (k := 1) (n := 100) (Nat.le_refl _) (by omega) ?_
      exact hret 34 _ q _ _ dX7_more_34 trivial hw
    | succ d ih =>
      intro i hi H locs ls hw hl
      have hlt : i < L.length := by omega
      obtain ⟨z, hz⟩ : ∃ z, L[i]? = some z := ⟨_, List.getElem?_eq_getElem hlt⟩
      refine lv_iload_n (pc := 10) hx hb dX7_more_10 rfl (lv_at hl 0 rfl) ?_
      refine lv_aload_n (pc := 11) hx hb dX7_more_11 rfl (lv_at hl 2 rfl) ?_
      refine alenG (pc := 12) cx hw 0 1 (x := (L.length, .inr (.inr (.inr (.inr (refsL L)))))) rfl rfl (v := nI L.length) rfl dX7_more_12 ?_
      refine lv_icmp_ge (pc := 13) (tgt := 28) hx hb dX7_more_13 (by decide) (fun c9 => absurd c9 (nI_ge hlt (by omega))) (fun _ => ?_)
      refine lv_aload_n (pc := 16) hx hb dX7_more_16 rfl (lv_at hl 1 rfl) ?_
      refine lv_iload_n (pc := 17) hx hb dX7_more_17 rfl (lv_at hl 0 rfl) ?_
      refine lv_aload_n (pc := 18) hx hb dX7_more_18 rfl (lv_at hl 2 rfl) ?_
      refine lv_iload_n (pc := 19) hx hb dX7_more_19 rfl (lv_at hl 0 rfl) ?_
      refine aldA (pc := 20) cx hw 0 1 rfl rfl (vp_in_nI hlt (by omega)) dX7_more_20 ?_
      have er : va_rf (refsL L (nI i).toNatClampNeg) = .ref z.1 := by
        rw [nI_clamp (by omega)]
        unfold refsL
        rw [hz]; rfl
      rw [er]
      refine astA (pc := 21) cx hao hw _ 1 (i + 1) 0 (app_r (k := 0) rfl) rfl (hrow i z _ (by rw [List.getElem?_append_left hlt]; exact hz)) rfl (vp_in_nI (by omega) (by omega)) (ws1 := mW cI cII ba k L rq g ++ [(q, .inl (cII, L.length + 1, .inr (.inr (.inr (.inr (fun j => if j < i + 1 then refsL L j else none))))))]) (set_r ?_) dX7_more_21 (fun H locs hw => ?_)
      · show [(q, _)] = [(q, _)]
        refine congrArg (fun F : Nat → Option Nat => [(q, (.inl (cII, L.length + 1, .inr (.inr (.inr (.inr F)))) : va_E))]) (funext fun j => ?_)
        rw [nI_clamp (by omega)]
        unfold va_up
        dsimp only
        by_cases h1 : j = i
        · rw [if_pos h1, if_pos (by omega), h1]
          unfold refsL
          rw [hz]; rfl
        · rw [if_neg h1]
          by_cases h2 : j < i
          · rw [if_pos h2, if_pos (by omega)]
          · rw [if_neg h2, if_neg (by omega)]
      refine lv_iinc (pc := 22) (v := nI i + 1) (lv' := [(3, .int (nI i + 1)), (2, .ref q), (0, .ref ba), (1, .ref rq)]) hx hb dX7_more_22 hl (k := 0) rfl rfl (by decide) rfl (fun ls hl => ?_)
      rw [nI_1] at hl
      refine lv_goto (pc := 25) (tgt := 10) hx hb dX7_more_25 (by decide) ?_
      exact ih (i + 1) (by omega) _ _ _ hw hl
  refine W.eq (g2 := F0 m 10 ls []) rfl ?_
  have hw0 : WS D s A0 (mW cI cII ba k L rq g ++ [(q, .inl (cII, L.length + 1, .inr (.inr (.inr (.inr (fun j => if j < 0 then refsL L j else none))))))]) H [] := by
    have e : (fun j => if j < 0 then refsL L j else none) = (fun _ => none : Nat → Option Nat) := by
      funext j
      rw [if_neg (Nat.not_lt_zero j)]
    rw [e]; exact hw
  have k0 := key L.length 0 (by omega) _ _ ls hw0 hl
  refine W.widen (k := 1) (n := L.length + 1) (by omega) (by omega) ?_
  exact k0
