abbrev rmL_cell : Room := { frames := 0, cells := 0, slots := 0, locals := 0 }
def clI (L : Nat) (xs : Nat → Int32) (k : Int32) : Int32 := if nI L ≤ k then (790386105 : Int32) * (k + 3) else xs k.toNatClampNeg
theorem kL_cell_8 : Cond.constant RL 8 (790386105) ∈ wsL_cell := by decide +kernel
theorem metL_cell (l : Launch) (D : va_G) (tys : TYS) (sz b L : Nat) (xs : Nat → Int32) (k : Int32) (hL : L ≤ 260) (hk : ¬ k < 0) : Met l yL_cell wsL_cell rmL_cell (PcG (FX b L xs) D tys [] sz [.ref b, .int k]) (QiW D tys [] sz (fun _ : Unit => ([] : va_W)) (fun r _ => r = clI L xs k)) rmL_cell.cells rmL_cell.slots (va_A ([] : va_W) sz) := by
  refine startGI (plainFor_of_name (by decide)) rfl (Nat.le_of_ble_eq_true rfl) ?_
  intro p e s m args below meth c A0 Z cx hw hF hret ls hl
  obtain ⟨hx, hb, hml, hown, hts, hK, hA⟩ := id cx
  obtain ⟨hX, hnb, hbl⟩ := hF
  have hl : lv_has ls 2 [(0, .ref b), (1, .int k)] := hl
  refine lv_iload_n (pc := 0) hx hb dL_cell_0 rfl (lv_at hl 1 rfl) ?_
  refine lv_aload_n (pc := 1) hx hb dL_cell_1 rfl (lv_at hl 0 rfl) ?_
  refine va_slen (pc := 2) hx hb hX hbl hnb hw.2.2 dL_cell_2 ?_
  refine lv_icmp_ge (pc := 3) (tgt := 12) hx hb dL_cell_3 (by decide) (fun q => ?_) (fun q => ?_)
  · refine lv_ldc (pc := 12) (v := (790386105 : Int32)) hx hb hown (hts _ kL_cell_8) dL_cell_12 ?_
    refine lv_iload_n (pc := 14) hx hb dL_cell_14 rfl (lv_at hl 1 rfl) ?_
    refine lv_iconst (pc := 15) (v := (3 : Int32)) hx hb dL_cell_15 (by decide) ?_
    refine lv_iadd (pc := 16) hx hb dL_cell_16 ?_
    refine lv_imul (pc := 17) hx hb dL_cell_17 ?_
    exact hret 18 _ _ () _ _ rfl dL_cell_18 (by unfold clI; exact (if_pos q).symm) hw
  · refine lv_aload_n (pc := 6) hx hb dL_cell_6 rfl (lv_at hl 0 rfl) ?_
    refine lv_iload_n (pc := 7) hx hb dL_cell_7 rfl (lv_at hl 1 rfl) ?_
    obtain ⟨j, hj, rfl⟩ := nI_of (x := k) hk
    have hj2 : j < L := by
      rw [show Int32.ofNat L = nI L from rfl, nI_leI (by omega) (by omega)] at q
      omega
    refine va_sld (pc := 8) hx hb hX hbl hnb hw.2.2 (vp_in_nI hj2 (by omega)) dL_cell_8 ?_
    refine lv_goto (pc := 9) (tgt := 18) hx hb dL_cell_9 (by decide) ?_
    exact hret 18 _ _ () _ _ rfl dL_cell_18 (by unfold clI; exact (if_neg q).symm) hw
section PUR
variable {S : Type} {own C : String} {cc : ByteArray} {nL : Nat} {Ts : List Cond} {D : va_G} {tys tysC : TYS} {p : Program} {l : Launch} {e : Env} {R : Room} {s : State} {m : MethodId} {args : Array Value} {below : List Frame} {meth : Method} {c : Code} {A0 : Nat → Prop} {H : Heap} {locs : List Loc} {cells slots : Nat} {Z : State → Prop} {ws : va_W} {index ci pc : Nat} {ls : Array Slot} {rest : List Value} {fs : List Value}
theorem puR {T N} (cx : CX own cc nL Ts D tys p s m args c A0) (hin : ∀ w ∈ u_ws C T N, w ∈ Ts) (ty0 : Nat → FieldType) (hty : ∀ k, k < N → parseFieldDescriptor (T k).2.2.1 = some (ty0 k)) (hnm : ∀ a, a < N → ∀ b, b < N → a ≠ b → (T a).2.1 ≠ (T b).2.1) (hc : vwCl[ci]? = some (C, T, N)) (k : Nat) (hk : k < N) (hfin : (T k).2.2.2 = false) (hlk : Cond.fieldLink own index (T k).1 (T k).2.1 (T k).2.2.1 ∈ Ts) (hw : WS D s A0 ws H locs) (q0 : Nat) {ty : FieldType} {v : Value} {a : Nat} (he : ws[q0]? = some (a, .inr (ci, fs))) (hd2 : parseFieldDescriptor (T k).2.2.1 = some ty) (hn : narrow ty v = v) (hfit : fits ty v = true) (hl : k < fs.length) {ws1 : va_W} (hs : ws.set q0 (a, .inr (ci, fs.set k v)) = ws1) (hd : decode cc pc = .ok (.putfield index, 3))
    (kk : ∀ (H1 : Heap) (locs1 : List Loc), WS D s A0 ws1 H1 locs1 → W p l e R s m args below meth c H1 locs1 cells slots Z (F0 m (pc + 3) ls rest)) : W p l e R s m args below meth c H locs cells slots Z (F0 m pc ls (v :: .ref a :: rest)) := by
  obtain ⟨hx, hb, hml, hown, hts, hK, hA⟩ := cx
  obtain ⟨hP, hD, hS⟩ := hw
  subst hs
  exact va_put hx hb hts hin ty0 hty hnm hown hK hP hD hS q0 he hc k hk (hts _ hlk) (fun _ h => h) hfin hd2 hn hfit hl hd (fun H1 locs1 h1 h2 h3 => kk H1 locs1 ⟨h1, h2, h3⟩)
end PUR
def siE (ta ba da la : Nat) (sc so : Int32) : va_E := .inr (6, [.int 0, .ref ta, .ref ba, .ref da, .ref la, .int sc, .int so])
def simW (cI cII : ClassId) (sa ta ba da la : Nat) (sc so : Int32) (LB LD : ROWS) : va_W := (sa, siE ta ba da la sc so) :: (ba, arrE cII LB) :: (da, arrE cII LD) :: (rowsW cI 2 LB ++ rowsW cI 5 LD)
theorem refsL_nil : refsL [] = fun _ => none := by
  funext i
  unfold refsL
  rw [List.getElem?_nil]; rfl
theorem arrE_nil {cII : ClassId} : arrE cII [] = .inl (cII, 0, .inr (.inr (.inr (.inr (fun _ => none))))) := by
  unfold arrE
  rw [refsL_nil]; rfl
theorem WS.eqw {D : va_G} {s : State} {A0 : Nat → Prop} {w w2 : va_W} {H : Heap} {locs : List Loc} (h : WS D s A0 w H locs) (e : w = w2) : WS D s A0 w2 H locs := e ▸ h
abbrev rmX7_init : Room := { frames := 1, cells := 4, slots := 12, locals := 20 }
theorem inX7_init_X7 : ∀ w ∈ wsX70, w ∈ wsX7_init := by decide +kernel
theorem kX7_init_w_arrayClass__int : Cond.arrayClass .int ∈ wsX7_init := by decide +kernel
theorem kX7_init_w_classLink_RX7_13___I_ : Cond.classLink RX7 13 "[I" ∈ wsX7_init := by decide +kernel
theorem kX7_init_w_classLink_RX7_21_RX6 : Cond.classLink RX7 21 RX6 ∈ wsX7_init := by decide +kernel
theorem kX7_init_w_code_objectInit____0xb1___1_none : Cond.code objectInit ⟨#[0xb1]⟩ 1 none ∈ wsX7_init := by decide +kernel
theorem kX7_init_w_fieldLink_RX7_14__DrownedPostLaw_Sim___bins_____I_ : Cond.fieldLink RX7 14 "DrownedPostLaw$Sim" "bins" "[[I" ∈ wsX7_init := by decide +kernel
theorem kX7_init_w_fieldLink_RX7_18__DrownedPostLaw_Sim___drowned_____I_ : Cond.fieldLink RX7 18 "DrownedPostLaw$Sim" "drowned" "[[I" ∈ wsX7_init := by decide +kernel
theorem kX7_init_w_fieldLink_RX7_23__DrownedPostLaw_Sim___letters____LDrownedP : Cond.fieldLink RX7 23 "DrownedPostLaw$Sim" "letters" "[LDrownedPostLaw$Letter;" ∈ wsX7_init := by decide +kernel
theorem kX7_init_w_fieldLink_RX7_27__DrownedPostLaw_Sim___scrapers___I_ : Cond.fieldLink RX7 27 "DrownedPostLaw$Sim" "scrapers" "I" ∈ wsX7_init := by decide +kernel
theorem kX7_init_w_fieldLink_RX7_31__DrownedPostLaw_Sim___sorters___I_ : Cond.fieldLink RX7 31 "DrownedPostLaw$Sim" "sorters" "I" ∈ wsX7_init := by decide +kernel
theorem kX7_init_w_fieldLink_RX7_7__DrownedPostLaw_Sim___tides____I_ : Cond.fieldLink RX7 7 "DrownedPostLaw$Sim" "tides" "[I" ∈ wsX7_init := by decide +kernel
theorem kX7_init_w_instanceMethod_objectInit : Cond.instanceMethod objectInit ∈ wsX7_init := by decide +kernel
theorem kX7_init_w_methodLink_RX7_1_objectInit : Cond.methodLink RX7 1 objectInit ∈ wsX7_init := by decide +kernel
set_option maxHeartbeats 4000000 in
set_option maxRecDepth 100000 in
theorem metX7_init (l : Launch) (D : va_G) (cI cII : ClassId) (h0 sz : Nat) : Met l yX7_init wsX7_init rmX7_init (PcG FA D (tysS cI cII) [(h0, .inr (6, [.int 0, .null, .null, .null, .null, .int 0, .int 0]))] sz [.ref h0]) (QvW D (tysS cI cII) [(h0, .inr (6, [.int 0, .null, .null, .null, .null, .int 0, .int 0]))] sz (fun u : Nat × Nat × Nat × Nat => simW cI cII h0 u.1 u.2.1 u.2.2.1 u.2.2.2 2 3 [] []) (fun _ => True)) rmX7_init.cells rmX7_init.slots (va_A [(h0, .inr (6, [.int 0, .null, .null, .null, .null, .int 0, .int 0]))] sz) := by
  refine startGV (plainFor_of_name (by decide)) rfl rfl (Nat.le_of_ble_eq_true rfl) ?_
  intro p e s m args below meth c A0 Z cx hw hao hin hret ls hl
  obtain ⟨hx, hb, hml, hown, hts, hK, hA⟩ := id cx
  have hl : lv_has ls 1 [(0, .ref h0)] := hl
  refine lv_aload_n (pc := 0) hx hb dX7_init_0 rfl (lv_at hl 0 rfl) ?_
  refine W.objInit hx hb hown (hts _ kX7_init_w_methodLink_RX7_1_objectInit) (hts _ kX7_init_w_instanceMethod_objectInit) (hts _ kX7_init_w_code_objectInit____0xb1___1_none) rfl (by rw [hml]; exact hl.1) rfl dX7_init_1 (Nat.le_of_ble_eq_true rfl) (Nat.le_of_ble_eq_true rfl) ?_
  refine W.eq (g2 := F0 m 4 ls []) rfl ?_
  refine lv_aload_n (pc := 4) hx hb dX7_init_4 rfl (lv_at hl 0 rfl) ?_
  refine lv_bipush (pc := 5) (v := (12 : Int32)) hx hb dX7_init_5 (by decide) ?_
  refine newCI (pc := 7) (c1 := 1) (s1 := 12) (N' := 12) cx (hts _ kX7_init_w_arrayClass__int) hw 0 rfl (by decide) (by decide) (by decide) (Nat.le_of_ble_eq_true rfl) (Nat.le_of_ble_eq_true rfl) rfl rfl dX7_init_7 (fun q1 H hw => ?_)
  have hw : WS D s A0 [(h0, .inr (6, [.int 0, .null, .null, .null, .null, .int 0, .int 0])), (q1, .inl (cI, 12, .inl (fun _ => 0)))] _ _ := hw
  refine lv_dup (pc := 9) hx hb dX7_init_9 rfl ?_
  refine lv_iconst (pc := 10) (v := (0 : Int32)) hx hb dX7_init_10 (by decide) ?_
  refine lv_bipush (pc := 11) (v := (10 : Int32)) hx hb dX7_init_11 (by decide) ?_
  obtain ⟨f1, ef1⟩ : ∃ z : Nat → Int32, z = upd (fun _ => 0) (0 : Int32).toNatClampNeg 10 := ⟨_, rfl⟩
  refine asI (pc := 13) cx hw 1 0 rfl rfl (i := (0 : Int32)) (vp_in_iff.mpr (by decide)) (ws1 := [(h0, .inr (6, [.int 0, .null, .null, .null, .null, .int 0, .int 0])), (q1, .inl (cI, 12, .inl f1))]) (by rw [ef1]; rfl) dX7_init_13 (fun H locs hw => ?_)
  refine lv_dup (pc := 14) hx hb dX7_init_14 rfl ?_
  refine lv_iconst (pc := 15) (v := (1 : Int32)) hx hb dX7_init_15 (by decide) ?_
  refine lv_bipush (pc := 16) (v := (20 : Int32)) hx hb dX7_init_16 (by decide) ?_
  obtain ⟨f2, ef2⟩ : ∃ z : Nat → Int32, z = upd f1 (1 : Int32).toNatClampNeg 20 := ⟨_, rfl⟩
  refine asI (pc := 18) cx hw 1 0 rfl rfl (i := (1 : Int32)) (vp_in_iff.mpr (by decide)) (ws1 := [(h0, .inr (6, [.int 0, .null, .null, .null, .null, .int 0, .int 0])), (q1, .inl (cI, 12, .inl f2))]) (by rw [ef2]; rfl) dX7_init_18 (fun H locs hw => ?_)
  refine lv_dup (pc := 19) hx hb dX7_init_19 rfl ?_
  refine lv_iconst (pc := 20) (v := (2 : Int32)) hx hb dX7_init_20 (by decide) ?_
  refine lv_bipush (pc := 21) (v := (35 : Int32)) hx hb dX7_init_21 (by decide) ?_
  obtain ⟨f3, ef3⟩ : ∃ z : Nat → Int32, z = upd f2 (2 : Int32).toNatClampNeg 35 := ⟨_, rfl⟩
  refine asI (pc := 23) cx hw 1 0 rfl rfl (i := (2 : Int32)) (vp_in_iff.mpr (by decide)) (ws1 := [(h0, .inr (6, [.int 0, .null, .null, .null, .null, .int 0, .int 0])), (q1, .inl (cI, 12, .inl f3))]) (by rw [ef3]; rfl) dX7_init_23 (fun H locs hw => ?_)
  refine lv_dup (pc := 24) hx hb dX7_init_24 rfl ?_
  refine lv_iconst (pc := 25) (v := (3 : Int32)) hx hb dX7_init_25 (by decide) ?_
  refine lv_bipush (pc := 26) (v := (55 : Int32)) hx hb dX7_init_26 (by decide) ?_
  obtain ⟨f4, ef4⟩ : ∃ z : Nat → Int32, z = upd f3 (3 : Int32).toNatClampNeg 55 := ⟨_, rfl⟩
  refine asI (pc := 28) cx hw 1 0 rfl rfl (i := (3 : Int32)) (vp_in_iff.mpr (by decide)) (ws1 := [(h0, .inr (6, [.int 0, .null, .null, .null, .null, .int 0, .int 0])), (q1, .inl (cI, 12, .inl f4))]) (by rw [ef4]; rfl) dX7_init_28 (fun H locs hw => ?_)
  refine lv_dup (pc := 29) hx hb dX7_init_29 rfl ?_
  refine lv_iconst (pc := 30) (v := (4 : Int32)) hx hb dX7_init_30 (by decide) ?_
  refine lv_bipush (pc := 31) (v := (75 : Int32)) hx hb dX7_init_31 (by decide) ?_
  obtain ⟨f5, ef5⟩ : ∃ z : Nat → Int32, z = upd f4 (4 : Int32).toNatClampNeg 75 := ⟨_, rfl⟩
  refine asI (pc := 33) cx hw 1 0 rfl rfl (i := (4 : Int32)) (vp_in_iff.mpr (by decide)) (ws1 := [(h0, .inr (6, [.int 0, .null, .null, .null, .null, .int 0, .int 0])), (q1, .inl (cI, 12, .inl f5))]) (by rw [ef5]; rfl) dX7_init_33 (fun H locs hw => ?_)
  refine lv_dup (pc := 34) hx hb dX7_init_34 rfl ?_
  refine lv_iconst (pc := 35) (v := (5 : Int32)) hx hb dX7_init_35 (by decide) ?_
  refine lv_bipush (pc := 36) (v := (90 : Int32)) hx hb dX7_init_36 (by decide) ?_
  obtain ⟨f6, ef6⟩ : ∃ z : Nat → Int32, z = upd f5 (5 : Int32).toNatClampNeg 90 := ⟨_, rfl⟩
  refine asI (pc := 38) cx hw 1 0 rfl rfl (i := (5 : Int32)) (vp_in_iff.mpr (by decide)) (ws1 := [(h0, .inr (6, [.int 0, .null, .null, .null, .null, .int 0, .int 0])), (q1, .inl (cI, 12, .inl f6))]) (by rw [ef6]; rfl) dX7_init_38 (fun H locs hw => ?_)
  refine lv_dup (pc := 39) hx hb dX7_init_39 rfl ?_
  refine lv_bipush (pc := 40) (v := (6 : Int32)) hx hb dX7_init_40 (by decide) ?_
  refine lv_bipush (pc := 42) (v := (95 : Int32)) hx hb dX7_init_42 (by decide) ?_
  obtain ⟨f7, ef7⟩ : ∃ z : Nat → Int32, z = upd f6 (6 : Int32).toNatClampNeg 95 := ⟨_, rfl⟩
  refine asI (pc := 44) cx hw 1 0 rfl rfl (i := (6 : Int32)) (vp_in_iff.mpr (by decide)) (ws1 := [(h0, .inr (6, [.int 0, .null, .null, .null, .null, .int 0, .int 0])), (q1, .inl (cI, 12, .inl f7))]) (by rw [ef7]; rfl) dX7_init_44 (fun H locs hw => ?_)
  refine lv_dup (pc := 45) hx hb dX7_init_45 rfl ?_
  refine lv_bipush (pc := 46) (v := (7 : Int32)) hx hb dX7_init_46 (by decide) ?_
  refine lv_bipush (pc := 48) (v := (85 : Int32)) hx hb dX7_init_48 (by decide) ?_
  obtain ⟨f8, ef8⟩ : ∃ z : Nat → Int32, z = upd f7 (7 : Int32).toNatClampNeg 85 := ⟨_, rfl⟩
  refine asI (pc := 50) cx hw 1 0 rfl rfl (i := (7 : Int32)) (vp_in_iff.mpr (by decide)) (ws1 := [(h0, .inr (6, [.int 0, .null, .null, .null, .null, .int 0, .int 0])), (q1, .inl (cI, 12, .inl f8))]) (by rw [ef8]; rfl) dX7_init_50 (fun H locs hw => ?_)
  refine lv_dup (pc := 51) hx hb dX7_init_51 rfl ?_
  refine lv_bipush (pc := 52) (v := (8 : Int32)) hx hb dX7_init_52 (by decide) ?_
  refine lv_bipush (pc := 54) (v := (65 : Int32)) hx hb dX7_init_54 (by decide) ?_
  obtain ⟨f9, ef9⟩ : ∃ z : Nat → Int32, z = upd f8 (8 : Int32).toNatClampNeg 65 := ⟨_, rfl⟩
  refine asI (pc := 56) cx hw 1 0 rfl rfl (i := (8 : Int32)) (vp_in_iff.mpr (by decide)) (ws1 := [(h0, .inr (6, [.int 0, .null, .null, .null, .null, .int 0, .int 0])), (q1, .inl (cI, 12, .inl f9))]) (by rw [ef9]; rfl) dX7_init_56 (fun H locs hw => ?_)
  refine lv_dup (pc := 57) hx hb dX7_init_57 rfl ?_
  refine lv_bipush (pc := 58) (v := (9 : Int32)) hx hb dX7_init_58 (by decide) ?_
  refine lv_bipush (pc := 60) (v := (45 : Int32)) hx hb dX7_init_60 (by decide) ?_
  obtain ⟨f10, ef10⟩ : ∃ z : Nat → Int32, z = upd f9 (9 : Int32).toNatClampNeg 45 := ⟨_, rfl⟩
  refine asI (pc := 62) cx hw 1 0 rfl rfl (i := (9 : Int32)) (vp_in_iff.mpr (by decide)) (ws1 := [(h0, .inr (6, [.int 0, .null, .null, .null, .null, .int 0, .int 0])), (q1, .inl (cI, 12, .inl f10))]) (by rw [ef10]; rfl) dX7_init_62 (fun H locs hw => ?_)
  refine lv_dup (pc := 63) hx hb dX7_init_63 rfl ?_
  refine lv_bipush (pc := 64) (v := (10 : Int32)) hx hb dX7_init_64 (by decide) ?_
  refine lv_bipush (pc := 66) (v := (25 : Int32)) hx hb dX7_init_66 (by decide) ?_
  obtain ⟨f11, ef11⟩ : ∃ z : Nat → Int32, z = upd f10 (10 : Int32).toNatClampNeg 25 := ⟨_, rfl⟩
  refine asI (pc := 68) cx hw 1 0 rfl rfl (i := (10 : Int32)) (vp_in_iff.mpr (by decide)) (ws1 := [(h0, .inr (6, [.int 0, .null, .null, .null, .null, .int 0, .int 0])), (q1, .inl (cI, 12, .inl f11))]) (by rw [ef11]; rfl) dX7_init_68 (fun H locs hw => ?_)
  refine lv_dup (pc := 69) hx hb dX7_init_69 rfl ?_
  refine lv_bipush (pc := 70) (v := (11 : Int32)) hx hb dX7_init_70 (by decide) ?_
  refine lv_bipush (pc := 72) (v := (12 : Int32)) hx hb dX7_init_72 (by decide) ?_
  obtain ⟨f12, ef12⟩ : ∃ z : Nat → Int32, z = upd f11 (11 : Int32).toNatClampNeg 12 := ⟨_, rfl⟩
  refine asI (pc := 74) cx hw 1 0 rfl rfl (i := (11 : Int32)) (vp_in_iff.mpr (by decide)) (ws1 := [(h0, .inr (6, [.int 0, .null, .null, .null, .null, .int 0, .int 0])), (q1, .inl (cI, 12, .inl f12))]) (by rw [ef12]; rfl) dX7_init_74 (fun H locs hw => ?_)
  refine puR (pc := 75) (C := RX7) (T := TX7) (N := 7) (ci := 6) (ty := tyX7 1) cx inX7_init_X7 tyX7 tyX7_ok nmX7 rfl 1 (by decide) rfl kX7_init_w_fieldLink_RX7_7__DrownedPostLaw_Sim___tides____I_ hw 0 rfl (tyX7_ok 1 (by decide)) rfl rfl (Nat.le_of_ble_eq_true rfl) (ws1 := [(h0, .inr (6, [.int 0, .ref q1, .null, .null, .null, .int 0, .int 0])), (q1, .inl (cI, 12, .inl f12))]) rfl dX7_init_75 (fun H locs hw => ?_)
  refine lv_aload_n (pc := 78) hx hb dX7_init_78 rfl (lv_at hl 0 rfl) ?_
  refine lv_iconst (pc := 79) (v := (0 : Int32)) hx hb dX7_init_79 (by decide) ?_
  refine newA (pc := 80) cx hao.1 (hts _ kX7_init_w_classLink_RX7_13___I_) hw 1 rfl (N' := 0) (by decide) (by decide) (Nat.le_of_ble_eq_true rfl) (Nat.le_of_ble_eq_true rfl) (Nat.le_of_ble_eq_true rfl) dX7_init_80 (fun q2 H hw => ?_)
  have hw := WS.eqw (w2 := [(h0, .inr (6, [.int 0, .ref q1, .null, .null, .null, .int 0, .int 0])), (q1, .inl (cI, 12, .inl f12)), (q2, arrE cII [])]) hw (by rw [arrE_nil]; rfl)
  refine puR (pc := 83) (C := RX7) (T := TX7) (N := 7) (ci := 6) (ty := tyX7 2) cx inX7_init_X7 tyX7 tyX7_ok nmX7 rfl 2 (by decide) rfl kX7_init_w_fieldLink_RX7_14__DrownedPostLaw_Sim___bins_____I_ hw 0 rfl (tyX7_ok 2 (by decide)) rfl rfl (Nat.le_of_ble_eq_true rfl) (ws1 := [(h0, .inr (6, [.int 0, .ref q1, .ref q2, .null, .null, .int 0, .int 0])), (q1, .inl (cI, 12, .inl f12)), (q2, arrE cII [])]) rfl dX7_init_83 (fun H locs hw => ?_)
  refine lv_aload_n (pc := 86) hx hb dX7_init_86 rfl (lv_at hl 0 rfl) ?_
  refine lv_iconst (pc := 87) (v := (0 : Int32)) hx hb dX7_init_87 (by decide) ?_
  refine newA (pc := 88) cx hao.1 (hts _ kX7_init_w_classLink_RX7_13___I_) hw 1 rfl (N' := 0) (by decide) (by decide) (Nat.le_of_ble_eq_true rfl) (Nat.le_of_ble_eq_true rfl) (Nat.le_of_ble_eq_true rfl) dX7_init_88 (fun q3 H hw => ?_)
  have hw := WS.eqw (w2 := [(h0, .inr (6, [.int 0, .ref q1, .ref q2, .null, .null, .int 0, .int 0])), (q1, .inl (cI, 12, .inl f12)), (q2, arrE cII []), (q3, arrE cII [])]) hw (by rw [arrE_nil]; rfl)
  refine puR (pc := 91) (C := RX7) (T := TX7) (N := 7) (ci := 6) (ty := tyX7 3) cx inX7_init_X7 tyX7 tyX7_ok nmX7 rfl 3 (by decide) rfl kX7_init_w_fieldLink_RX7_18__DrownedPostLaw_Sim___drowned_____I_ hw 0 rfl (tyX7_ok 3 (by decide)) rfl rfl (Nat.le_of_ble_eq_true rfl) (ws1 := [(h0, .inr (6, [.int 0, .ref q1, .ref q2, .ref q3, .null, .int 0, .int 0])), (q1, .inl (cI, 12, .inl f12)), (q2, arrE cII []), (q3, arrE cII [])]) rfl dX7_init_91 (fun H locs hw => ?_)
  refine lv_aload_n (pc := 94) hx hb dX7_init_94 rfl (lv_at hl 0 rfl) ?_
  refine lv_iconst (pc := 95) (v := (0 : Int32)) hx hb dX7_init_95 (by decide) ?_
  refine va_newq (pc := 96) hx hb hown (hts _ kX7_init_w_classLink_RX7_21_RX6) hao.2 hK hw.1 hw.2.1 hw.2.2 hA (N' := 0) (by decide) (by decide) (Nat.le_of_ble_eq_true rfl) (Nat.le_of_ble_eq_true rfl) (Nat.le_of_ble_eq_true rfl) dX7_init_96 (fun q4 c9 H hK9 hP9 hD9 hS9 => ?_)
  have hw : WS D s A0 ([(h0, .inr (6, [.int 0, .ref q1, .ref q2, .ref q3, .null, .int 0, .int 0])), (q1, .inl (cI, 12, .inl f12)), (q2, arrE cII []), (q3, arrE cII [])] ++ [(q4, .inl (c9, 0, .inr (.inr (.inr (.inr (fun _ => none))))))]) _ _ := ⟨hP9, hD9, hS9⟩
  have hw := WS.dropR hw
  refine puR (pc := 99) (C := RX7) (T := TX7) (N := 7) (ci := 6) (ty := tyX7 4) cx inX7_init_X7 tyX7 tyX7_ok nmX7 rfl 4 (by decide) rfl kX7_init_w_fieldLink_RX7_23__DrownedPostLaw_Sim___letters____LDrownedP hw 0 rfl (tyX7_ok 4 (by decide)) rfl rfl (Nat.le_of_ble_eq_true rfl) (ws1 := [(h0, .inr (6, [.int 0, .ref q1, .ref q2, .ref q3, .ref q4, .int 0, .int 0])), (q1, .inl (cI, 12, .inl f12)), (q2, arrE cII []), (q3, arrE cII [])]) rfl dX7_init_99 (fun H locs hw => ?_)
  refine lv_aload_n (pc := 102) hx hb dX7_init_102 rfl (lv_at hl 0 rfl) ?_
  refine lv_iconst (pc := 103) (v := (2 : Int32)) hx hb dX7_init_103 (by decide) ?_
  refine puR (pc := 104) (C := RX7) (T := TX7) (N := 7) (ci := 6) (ty := tyX7 5) cx inX7_init_X7 tyX7 tyX7_ok nmX7 rfl 5 (by decide) rfl kX7_init_w_fieldLink_RX7_27__DrownedPostLaw_Sim___scrapers___I_ hw 0 rfl (tyX7_ok 5 (by decide)) rfl rfl (Nat.le_of_ble_eq_true rfl) (ws1 := [(h0, .inr (6, [.int 0, .ref q1, .ref q2, .ref q3, .ref q4, .int 2, .int 0])), (q1, .inl (cI, 12, .inl f12)), (q2, arrE cII []), (q3, arrE cII [])]) rfl dX7_init_104 (fun H locs hw => ?_)
  refine lv_aload_n (pc := 107) hx hb dX7_init_107 rfl (lv_at hl 0 rfl) ?_
  refine lv_iconst (pc := 108) (v := (3 : Int32)) hx hb dX7_init_108 (by decide) ?_
  refine puR (pc := 109) (C := RX7) (T := TX7) (N := 7) (ci := 6) (ty := tyX7 6) cx inX7_init_X7 tyX7 tyX7_ok nmX7 rfl 6 (by decide) rfl kX7_init_w_fieldLink_RX7_31__DrownedPostLaw_Sim___sorters___I_ hw 0 rfl (tyX7_ok 6 (by decide)) rfl rfl (Nat.le_of_ble_eq_true rfl) (ws1 := [(h0, .inr (6, [.int 0, .ref q1, .ref q2, .ref q3, .ref q4, .int 2, .int 3])), (q1, .inl (cI, 12, .inl f12)), (q2, arrE cII []), (q3, arrE cII [])]) rfl dX7_init_109 (fun H locs hw => ?_)
  exact hret 112 _ (q1, q2, q3, q4) _ _ dX7_init_112 trivial (hw.sub (SUB.by [0, 2, 3] (by decide) rfl))
