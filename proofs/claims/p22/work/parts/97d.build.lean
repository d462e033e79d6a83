section BLD
variable {p : Program} {l : Launch} {e : Env} {s : State} {m : MethodId} {args : Array Value} {below : List Frame} {meth : Method} {c : Code} {A0 : Nat → Prop} {Z : State → Prop} {D : va_G} {cI cZ cII : ClassId} {ad ad2 : Nat → Nat} {xa sa b sl : Nat} {xs : Nat → Int32}
theorem inL_build_X7 : ∀ w ∈ wsX70, w ∈ wsL_build := by decide +kernel
theorem kL_build_w_arrayClass__int : Cond.arrayClass .int ∈ wsL_build := by decide +kernel
theorem kL_build_w_fieldLink_RL_31__DrownedPostLaw_Sim___tides____I_ : Cond.fieldLink RL 31 "DrownedPostLaw$Sim" "tides" "[I" ∈ wsL_build := by decide +kernel
theorem kL_build_w_fieldLink_RL_38__DrownedPostLaw_Sim___bins_____I_ : Cond.fieldLink RL 38 "DrownedPostLaw$Sim" "bins" "[[I" ∈ wsL_build := by decide +kernel
theorem kL_build_w_fieldLink_RL_50__DrownedPostLaw_Sim___drowned_____I_ : Cond.fieldLink RL 50 "DrownedPostLaw$Sim" "drowned" "[[I" ∈ wsL_build := by decide +kernel
theorem kL_build_w_fieldLink_RL_53__DrownedPostLaw_Sim___scrapers___I_ : Cond.fieldLink RL 53 "DrownedPostLaw$Sim" "scrapers" "I" ∈ wsL_build := by decide +kernel
theorem kL_build_w_fieldLink_RL_57__DrownedPostLaw_Sim___sorters___I_ : Cond.fieldLink RL 57 "DrownedPostLaw$Sim" "sorters" "I" ∈ wsL_build := by decide +kernel
def wl_L_build_247 (cl : Int32 → Int32) (Q : SA → SV → SA → SV → Nat → (Nat → Int32) → Nat → (Nat → Int32) → Prop)  : Nat → Nat → SA → SV → SA → SV → Nat → (Nat → Int32) → Nat → (Nat → Int32) → Int32 → Int32 → Prop
  | 0, _, _, _, _, _, _, _, _, _, _, _ => False
  | n + 1, k0, A, V, A2, V2, nB, hB, nD, hD, x4, x5 => ((x4 ≤ x5 → (¬ (14 : Int32) < 0 ∧ (wpL_below (cl (14 : Int32)) (6 : Int32) (fun r47 => (¬ (15 : Int32) < 0 ∧ (wpL_below (cl (15 : Int32)) (6 : Int32) (fun r49 => (wpX5_setCrew A V A2 V2 r47 r49 (fun r50 A_51 V_52 A_53 V_54 => ((¬ r50 = (3 : Int32) → False) ∧ (r50 = (3 : Int32) → Q A_51 V_52 A_53 V_54 nB hB nD hD))))))))))) ∧ (¬ (x4 ≤ x5) → (¬ ((9 : Int32) + x5) < 0 ∧ (k0 + 1 ≤ 60 ∧ (wpL_below (cl ((9 : Int32) + x5)) (100 : Int32) (fun r58 => (vp_in (0 : Int32) 5 ∧ (∀ T_59 : Nat → Int32, T_59 = upd (fun _ => 0) (0 : Int32).toNatClampNeg r58 → (wpL_below ((cl ((9 : Int32) + x5)) >>> ((2 : Int32) &&& 31)) (6 : Int32) (fun r60 => (vp_in (1 : Int32) 5 ∧ (∀ T_61 : Nat → Int32, T_61 = upd T_59 (1 : Int32).toNatClampNeg r60 → (wpL_below ((cl ((9 : Int32) + x5)) >>> ((4 : Int32) &&& 31)) (20 : Int32) (fun r62 => (vp_in (2 : Int32) 5 ∧ (∀ T_63 : Nat → Int32, T_63 = upd T_61 (2 : Int32).toNatClampNeg ((1 : Int32) + r62) → (vp_in (3 : Int32) 5 ∧ (∀ T_64 : Nat → Int32, T_64 = upd T_63 (3 : Int32).toNatClampNeg (0 : Int32) → (vp_in (4 : Int32) 5 ∧ (∀ T_65 : Nat → Int32, T_65 = upd T_64 (4 : Int32).toNatClampNeg (0 : Int32) → (vp_in (0 : Int32) 5 ∧ (vp_in (1 : Int32) 5 ∧ (vp_in (2 : Int32) 5 ∧ (wpX5_addDrowned A V A2 V2 (T_65 (0 : Int32).toNatClampNeg) (T_65 (1 : Int32).toNatClampNeg) (T_65 (2 : Int32).toNatClampNeg) (fun r66 A_67 V_68 A_69 V_70 => ((r66 = x5 → (nD ≤ 20 ∧ (k0 + 1) + 1 ≤ 60 ∧ ∀ h_73 : Nat → Int32, h_73 = upd hD nD (T_65 0) → wl_L_build_247 cl Q n ((k0 + 1) + 1) A_67 V_68 A_69 V_70 nB hB (nD + 1) h_73 x4 (x5 + 1))) ∧ (¬ (r66 = x5) → False)))))))))))))))))))))))))))
set_option maxHeartbeats 8000000 in
set_option maxRecDepth 100000 in
theorem wk_L_build_247 {Q : SA → SV → SA → SV → Nat → (Nat → Int32) → Nat → (Nat → Int32) → Prop}  (cx : CX RL cL_build 8 wsL_build D [(cI, .int), (cZ, .boolean), (cII, .array .int)] p s m args c A0) (hFF : FF b sl xs A0 s) (hsl : sl ≤ 260) (hret : ∀ (pc : Nat) (ls : Array Slot) (k0 : Nat) (A : SA) (V : SV) (A2 : SA) (V2 : SV) (nB : Nat) (hB : Nat → Int32) (nD : Nat) (hD : Nat → Int32) (ta ba da la : Nat) (sc so : Int32) (LB LD : ROWS) (hB9 : RW nB hB LB) (hD9 : RW nD hD LD) (H : Heap) (locs : List Loc), decode cL_build pc = .ok (.areturn, 1) → Q A V A2 V2 nB hB nD hD → k0 ≤ gBld → WS D s A0 ((wD xa ad ad2 cI cZ A V A2 V2 ++ []) ++ simW cI cII sa ta ba da la sc so LB LD) H locs → W p l e rmL_build s m args below meth c H locs k0 (150 * k0) Z (F0 m pc ls [.ref sa]))  : ∀ (n : Nat) (k0 : Nat) (A : SA) (V : SV) (A2 : SA) (V2 : SV) (nB : Nat) (hB : Nat → Int32) (nD : Nat) (hD : Nat → Int32) (x4 : Int32) (x5 : Int32) (h : wl_L_build_247 (clI sl xs) Q n k0 A V A2 V2 nB hB nD hD x4 x5) (hgc : k0 ≤ gBld) (ta : Nat) (ba : Nat) (da : Nat) (la : Nat) (sc : Int32) (so : Int32) (LB : ROWS) (LD : ROWS) (hB9 : RW nB hB LB) (hD9 : RW nD hD LD) (H : Heap) (locs : List Loc) (ls : Array Slot) (hw : WS D s A0 ((wD xa ad ad2 cI cZ A V A2 V2 ++ []) ++ simW cI cII sa ta ba da la sc so LB LD) H locs) (hl : lv_has ls 8 [(0, .ref xa), (1, .ref b), (2, .ref sa), (4, .int x4), (5, .int x5)]), W p l e rmL_build s m args below meth c H locs k0 (150 * k0) Z (F0 m 247 ls []) := by
  obtain ⟨hx, hb, hml, hown, hts, hK, hA⟩ := id cx
  intro n
  induction n with
  | zero => intro k0 A V A2 V2 nB hB nD hD x4 x5 h; exact False.elim h
  | succ n ih =>
    intro k0 A V A2 V2 nB hB nD hD x4 x5 h hgc ta ba da la sc so LB LD hB9 hD9 H locs ls hw hl
    refine lv_iload (pc := 247) hx hb dL_build_247 (lv_at hl 4 rfl) ?_
    refine lv_iload (pc := 249) hx hb dL_build_249 (lv_at hl 3 rfl) ?_
    refine lv_icmp_ge (pc := 251) (tgt := 356) hx hb dL_build_251 (by decide) (fun c45 => ?_) (fun c45 => ?_)
    · have h := h.1 c45
      refine lv_aload_n (pc := 356) hx hb dL_build_356 rfl (lv_at hl 2 rfl) ?_
      refine lv_aload_n (pc := 357) hx hb dL_build_357 rfl (lv_at hl 1 rfl) ?_
      refine lv_bipush (pc := 358) (v := (14 : Int32)) hx hb dL_build_358 (by decide) ?_
      refine callGi (pc := 360) (rest := [.ref sa]) (c1 := k0) (s1 := 150 * k0) cx hw hl FX.ok hFF.1 (metL_cell l D [] H.size b sl xs (14 : Int32) hsl h.1) (fun hts => va_cwS 2 hts gL_build_L_cell rfl rfl rfl (by decide +kernel) ⟨Nat.le_of_ble_eq_true rfl, Nat.le_of_ble_eq_true rfl⟩) SUB.nil [] rfl (JN.nil (S := Unit)) rfl rfl (Nat.le_of_ble_eq_true rfl) ⟨cgBld hgc, sgBld hgc⟩ rfl rfl dL_build_360 (fun r46 u H locs er46 hw => ?_)
      have h := h.2
      subst er46
      refine lv_bipush (pc := 363) (v := (6 : Int32)) hx hb dL_build_363 (by decide) ?_
      refine callSi (pc := 365) (rest := [.ref sa]) (c1 := k0) (s1 := 150 * k0) cx hw hl (metL_below l D [] H.size (clI sl xs (14 : Int32)) (6 : Int32) _ h) (fun hts => va_cwS 2 hts gL_build_L_below rfl rfl rfl (by decide +kernel) ⟨Nat.le_of_ble_eq_true rfl, Nat.le_of_ble_eq_true rfl⟩) SUB.nil [] rfl (JN.nil (S := Unit)) rfl rfl (Nat.le_of_ble_eq_true rfl) ⟨cgBld hgc, sgBld hgc⟩ rfl rfl dL_build_365 (fun r47 u H locs h hw => ?_)
      refine puR (pc := 368) (C := RX7) (T := TX7) (N := 7) (ci := 6) (ty := tyX7 5) cx inL_build_X7 tyX7 tyX7_ok nmX7 rfl 5 (by decide) rfl kL_build_w_fieldLink_RL_53__DrownedPostLaw_Sim___scrapers___I_ hw _ (app_r (k := 0) rfl) (tyX7_ok 5 (by decide)) rfl rfl (Nat.le_of_ble_eq_true rfl) (ws1 := ((wD xa ad ad2 cI cZ A V A2 V2 ++ []) ++ simW cI cII sa ta ba da la r47 so LB LD)) (set_r rfl) dL_build_368 (fun H locs hw => ?_)
      refine lv_aload_n (pc := 371) hx hb dL_build_371 rfl (lv_at hl 2 rfl) ?_
      refine lv_aload_n (pc := 372) hx hb dL_build_372 rfl (lv_at hl 1 rfl) ?_
      refine lv_bipush (pc := 373) (v := (15 : Int32)) hx hb dL_build_373 (by decide) ?_
      refine callGi (pc := 375) (rest := [.ref sa]) (c1 := k0) (s1 := 150 * k0) cx hw hl FX.ok hFF.1 (metL_cell l D [] H.size b sl xs (15 : Int32) hsl h.1) (fun hts => va_cwS 2 hts gL_build_L_cell rfl rfl rfl (by decide +kernel) ⟨Nat.le_of_ble_eq_true rfl, Nat.le_of_ble_eq_true rfl⟩) SUB.nil [] rfl (JN.nil (S := Unit)) rfl rfl (Nat.le_of_ble_eq_true rfl) ⟨cgBld hgc, sgBld hgc⟩ rfl rfl dL_build_375 (fun r48 u H locs er48 hw => ?_)
      have h := h.2
      subst er48
      refine lv_bipush (pc := 378) (v := (6 : Int32)) hx hb dL_build_378 (by decide) ?_
      refine callSi (pc := 380) (rest := [.ref sa]) (c1 := k0) (s1 := 150 * k0) cx hw hl (metL_below l D [] H.size (clI sl xs (15 : Int32)) (6 : Int32) _ h) (fun hts => va_cwS 2 hts gL_build_L_below rfl rfl rfl (by decide +kernel) ⟨Nat.le_of_ble_eq_true rfl, Nat.le_of_ble_eq_true rfl⟩) SUB.nil [] rfl (JN.nil (S := Unit)) rfl rfl (Nat.le_of_ble_eq_true rfl) ⟨cgBld hgc, sgBld hgc⟩ rfl rfl dL_build_380 (fun r49 u H locs h hw => ?_)
      refine puR (pc := 383) (C := RX7) (T := TX7) (N := 7) (ci := 6) (ty := tyX7 6) cx inL_build_X7 tyX7 tyX7_ok nmX7 rfl 6 (by decide) rfl kL_build_w_fieldLink_RL_57__DrownedPostLaw_Sim___sorters___I_ hw _ (app_r (k := 0) rfl) (tyX7_ok 6 (by decide)) rfl rfl (Nat.le_of_ble_eq_true rfl) (ws1 := ((wD xa ad ad2 cI cZ A V A2 V2 ++ []) ++ simW cI cII sa ta ba da la r47 r49 LB LD)) (set_r rfl) dL_build_383 (fun H locs hw => ?_)
      refine lv_aload_n (pc := 386) hx hb dL_build_386 rfl (lv_at hl 0 rfl) ?_
      refine lv_aload_n (pc := 387) hx hb dL_build_387 rfl (lv_at hl 2 rfl) ?_
      refine geF (pc := 388) (C := RX7) (T := TX7) (N := 7) (ci := 6) cx inL_build_X7 rfl 5 (by decide) kL_build_w_fieldLink_RL_53__DrownedPostLaw_Sim___scrapers___I_ hw _ (app_r (k := 0) rfl) rfl dL_build_388 ?_
      refine lv_aload_n (pc := 391) hx hb dL_build_391 rfl (lv_at hl 2 rfl) ?_
      refine geF (pc := 392) (C := RX7) (T := TX7) (N := 7) (ci := 6) cx inL_build_X7 rfl 6 (by decide) kL_build_w_fieldLink_RL_57__DrownedPostLaw_Sim___sorters___I_ hw _ (app_r (k := 0) rfl) rfl dL_build_392 ?_
      refine callVi (pc := 395) (rest := []) (c1 := k0) (s1 := 150 * k0) cx hw hl (metX5_setCrew l D cI cZ xa ad ad2 H.size A V A2 V2 r47 r49 _ h) (fun hts => cwV 2 hts gL_build_X5_setCrew rfl rfl rfl (by decide +kernel) ⟨Nat.le_of_ble_eq_true rfl, Nat.le_of_ble_eq_true rfl⟩) (SUB.left.trans SUB.left) [0, 1] rfl 0 (ci := 5) rfl rfl rfl (JN.trans SUB.left SUB.left JN.left JN.left) rfl rfl (Nat.le_of_ble_eq_true rfl) ⟨cgBld hgc, sgBld hgc⟩ rfl rfl dL_build_395 (fun r50 u H locs h hw => ?_)
      obtain ⟨A_51, V_52, A_53, V_54⟩ := u
      have hw : WS D s A0 ((wD xa ad ad2 cI cZ A_51 V_52 A_53 V_54 ++ []) ++ simW cI cII sa ta ba da la r47 r49 LB LD) _ _ := hw
      refine lv_iconst (pc := 398) (v := (3 : Int32)) hx hb dL_build_398 (by decide) ?_
      refine lv_icmp_ne (pc := 399) (tgt := 406) hx hb dL_build_399 (by decide) (fun c55 => ?_) (fun c55 => ?_)
      · have h := h.1 c55
        exact False.elim h
      · have h := h.2 c55
        refine lv_aload_n (pc := 402) hx hb dL_build_402 rfl (lv_at hl 2 rfl) ?_
        refine lv_goto (pc := 403) (tgt := 407) hx hb dL_build_403 (by decide) ?_
        exact hret 407 _ k0 A_51 V_52 A_53 V_54 nB hB nD hD ta ba da la r47 r49 LB LD hB9 hD9 _ _ dL_build_407 h hgc hw
    · have h := h.2 c45
      refine lv_aload_n (pc := 254) hx hb dL_build_254 rfl (lv_at hl 1 rfl) ?_
      refine lv_bipush (pc := 255) (v := (9 : Int32)) hx hb dL_build_255 (by decide) ?_
      refine lv_iload (pc := 257) hx hb dL_build_257 (lv_at hl 4 rfl) ?_
      refine lv_iadd (pc := 259) hx hb dL_build_259 ?_
      refine callGi (pc := 260) (rest := []) (c1 := k0) (s1 := 150 * k0) cx hw hl FX.ok hFF.1 (metL_cell l D [] H.size b sl xs ((9 : Int32) + x5) hsl h.1) (fun hts => va_cwS 2 hts gL_build_L_cell rfl rfl rfl (by decide +kernel) ⟨Nat.le_of_ble_eq_true rfl, Nat.le_of_ble_eq_true rfl⟩) SUB.nil [] rfl (JN.nil (S := Unit)) rfl rfl (Nat.le_of_ble_eq_true rfl) ⟨cgBld hgc, sgBld hgc⟩ rfl rfl dL_build_260 (fun r56 u H locs er56 hw => ?_)
      have h := h.2
      subst er56
      refine lv_istore (pc := 263) (lv' := [(6, .int (clI sl xs ((9 : Int32) + x5))), (0, .ref xa), (1, .ref b), (2, .ref sa), (4, .int x4), (5, .int x5)]) hx hb dL_build_263 hl (by decide) rfl (fun ls hl => ?_)
      refine lv_iconst (pc := 265) (v := (5 : Int32)) hx hb dL_build_265 (by decide) ?_
      have hgc : k0 + 1 ≤ gBld := h.1
      refine newT (pc := 266) (N' := 5) cx (hts _ kL_build_w_arrayClass__int) hw 0 rfl (by decide) (by decide) (Nat.le_of_ble_eq_true rfl) h.1 rgBld dL_build_266 (fun q57 H hw => ?_)
      have h := h.2
      have hw : WS D s A0 ((wD xa ad ad2 cI cZ A V A2 V2 ++ [(q57, .inl (cI, 5, .inl (fun _ => 0)))]) ++ simW cI cII sa ta ba da la sc so LB LD) _ _ := WS.eqw hw (congrArg (· ++ _) (List.append_assoc _ _ _))
      refine lv_dup (pc := 268) hx hb dL_build_268 rfl ?_
      refine lv_iconst (pc := 269) (v := (0 : Int32)) hx hb dL_build_269 (by decide) ?_
      refine lv_iload (pc := 270) hx hb dL_build_270 (lv_at hl 0 rfl) ?_
      refine lv_bipush (pc := 272) (v := (100 : Int32)) hx hb dL_build_272 (by decide) ?_
      refine callSi (pc := 274) (rest := [.int (0 : Int32), .ref q57, .ref q57]) (c1 := (k0 + 1)) (s1 := 150 * (k0 + 1)) cx hw hl (metL_below l D [] H.size (clI sl xs ((9 : Int32) + x5)) (100 : Int32) _ h) (fun hts => va_cwS 2 hts gL_build_L_below rfl rfl rfl (by decide +kernel) ⟨Nat.le_of_ble_eq_true rfl, Nat.le_of_ble_eq_true rfl⟩) SUB.nil [] rfl (JN.nil (S := Unit)) rfl rfl (Nat.le_of_ble_eq_true rfl) ⟨cgBld hgc, sgBld hgc⟩ rfl rfl dL_build_274 (fun r58 u H locs h hw => ?_)
      obtain ⟨T_59, eT_59⟩ : ∃ z : Nat → Int32, z = upd (fun _ => 0) (0 : Int32).toNatClampNeg r58 := ⟨_, rfl⟩
      refine asI (pc := 277) cx hw 51 0 (app_l rfl) rfl (i := (0 : Int32)) h.1 (ws1 := ((wD xa ad ad2 cI cZ A V A2 V2 ++ [(q57, .inl (cI, 5, .inl T_59))]) ++ simW cI cII sa ta ba da la sc so LB LD)) (set_l (Nat.le_of_ble_eq_true rfl) (by rw [eT_59]; rfl)) dL_build_277 (fun H locs hw => ?_)
      have h := h.2 T_59 eT_59
      refine lv_dup (pc := 278) hx hb dL_build_278 rfl ?_
      refine lv_iconst (pc := 279) (v := (1 : Int32)) hx hb dL_build_279 (by decide) ?_
      refine lv_iload (pc := 280) hx hb dL_build_280 (lv_at hl 0 rfl) ?_
      refine lv_iconst (pc := 282) (v := (2 : Int32)) hx hb dL_build_282 (by decide) ?_
      refine lv_ishr (pc := 283) hx hb dL_build_283 ?_
      refine lv_bipush (pc := 284) (v := (6 : Int32)) hx hb dL_build_284 (by decide) ?_
      refine callSi (pc := 286) (rest := [.int (1 : Int32), .ref q57, .ref q57]) (c1 := (k0 + 1)) (s1 := 150 * (k0 + 1)) cx hw hl (metL_below l D [] H.size ((clI sl xs ((9 : Int32) + x5)) >>> ((2 : Int32) &&& 31)) (6 : Int32) _ h) (fun hts => va_cwS 2 hts gL_build_L_below rfl rfl rfl (by decide +kernel) ⟨Nat.le_of_ble_eq_true rfl, Nat.le_of_ble_eq_true rfl⟩) SUB.nil [] rfl (JN.nil (S := Unit)) rfl rfl (Nat.le_of_ble_eq_true rfl) ⟨cgBld hgc, sgBld hgc⟩ rfl rfl dL_build_286 (fun r60 u H locs h hw => ?_)
      obtain ⟨T_61, eT_61⟩ : ∃ z : Nat → Int32, z = upd T_59 (1 : Int32).toNatClampNeg r60 := ⟨_, rfl⟩
      refine asI (pc := 289) cx hw 51 0 (app_l rfl) rfl (i := (1 : Int32)) h.1 (ws1 := ((wD xa ad ad2 cI cZ A V A2 V2 ++ [(q57, .inl (cI, 5, .inl T_61))]) ++ simW cI cII sa ta ba da la sc so LB LD)) (set_l (Nat.le_of_ble_eq_true rfl) (by rw [eT_61]; rfl)) dL_build_289 (fun H locs hw => ?_)
      have h := h.2 T_61 eT_61
      refine lv_dup (pc := 290) hx hb dL_build_290 rfl ?_
      refine lv_iconst (pc := 291) (v := (2 : Int32)) hx hb dL_build_291 (by decide) ?_
      refine lv_iconst (pc := 292) (v := (1 : Int32)) hx hb dL_build_292 (by decide) ?_
      refine lv_iload (pc := 293) hx hb dL_build_293 (lv_at hl 0 rfl) ?_
      refine lv_iconst (pc := 295) (v := (4 : Int32)) hx hb dL_build_295 (by decide) ?_
      refine lv_ishr (pc := 296) hx hb dL_build_296 ?_
      refine lv_bipush (pc := 297) (v := (20 : Int32)) hx hb dL_build_297 (by decide) ?_
      refine callSi (pc := 299) (rest := [.int (1 : Int32), .int (2 : Int32), .ref q57, .ref q57]) (c1 := (k0 + 1)) (s1 := 150 * (k0 + 1)) cx hw hl (metL_below l D [] H.size ((clI sl xs ((9 : Int32) + x5)) >>> ((4 : Int32) &&& 31)) (20 : Int32) _ h) (fun hts => va_cwS 2 hts gL_build_L_below rfl rfl rfl (by decide +kernel) ⟨Nat.le_of_ble_eq_true rfl, Nat.le_of_ble_eq_true rfl⟩) SUB.nil [] rfl (JN.nil (S := Unit)) rfl rfl (Nat.le_of_ble_eq_true rfl) ⟨cgBld hgc, sgBld hgc⟩ rfl rfl dL_build_299 (fun r62 u H locs h hw => ?_)
      refine lv_iadd (pc := 302) hx hb dL_build_302 ?_
      obtain ⟨T_63, eT_63⟩ : ∃ z : Nat → Int32, z = upd T_61 (2 : Int32).toNatClampNeg ((1 : Int32) + r62) := ⟨_, rfl⟩
      refine asI (pc := 303) cx hw 51 0 (app_l rfl) rfl (i := (2 : Int32)) h.1 (ws1 := ((wD xa ad ad2 cI cZ A V A2 V2 ++ [(q57, .inl (cI, 5, .inl T_63))]) ++ simW cI cII sa ta ba da la sc so LB LD)) (set_l (Nat.le_of_ble_eq_true rfl) (by rw [eT_63]; rfl)) dL_build_303 (fun H locs hw => ?_)
      have h := h.2 T_63 eT_63
      refine lv_dup (pc := 304) hx hb dL_build_304 rfl ?_
      refine lv_iconst (pc := 305) (v := (3 : Int32)) hx hb dL_build_305 (by decide) ?_
      refine lv_iconst (pc := 306) (v := (0 : Int32)) hx hb dL_build_306 (by decide) ?_
      obtain ⟨T_64, eT_64⟩ : ∃ z : Nat → Int32, z = upd T_63 (3 : Int32).toNatClampNeg (0 : Int32) := ⟨_, rfl⟩
      refine asI (pc := 307) cx hw 51 0 (app_l rfl) rfl (i := (3 : Int32)) h.1 (ws1 := ((wD xa ad ad2 cI cZ A V A2 V2 ++ [(q57, .inl (cI, 5, .inl T_64))]) ++ simW cI cII sa ta ba da la sc so LB LD)) (set_l (Nat.le_of_ble_eq_true rfl) (by rw [eT_64]; rfl)) dL_build_307 (fun H locs hw => ?_)
      have h := h.2 T_64 eT_64
      refine lv_dup (pc := 308) hx hb dL_build_308 rfl ?_
      refine lv_iconst (pc := 309) (v := (4 : Int32)) hx hb dL_build_309 (by decide) ?_
      refine lv_iconst (pc := 310) (v := (0 : Int32)) hx hb dL_build_310 (by decide) ?_
      obtain ⟨T_65, eT_65⟩ : ∃ z : Nat → Int32, z = upd T_64 (4 : Int32).toNatClampNeg (0 : Int32) := ⟨_, rfl⟩
      refine asI (pc := 311) cx hw 51 0 (app_l rfl) rfl (i := (4 : Int32)) h.1 (ws1 := ((wD xa ad ad2 cI cZ A V A2 V2 ++ [(q57, .inl (cI, 5, .inl T_65))]) ++ simW cI cII sa ta ba da la sc so LB LD)) (set_l (Nat.le_of_ble_eq_true rfl) (by rw [eT_65]; rfl)) dL_build_311 (fun H locs hw => ?_)
      have h := h.2 T_65 eT_65
      refine lv_astore (pc := 312) (lv' := [(7, .ref q57), (6, .int (clI sl xs ((9 : Int32) + x5))), (0, .ref xa), (1, .ref b), (2, .ref sa), (4, .int x4), (5, .int x5)]) hx hb dL_build_312 hl (by decide) rfl (fun ls hl => ?_)
      refine lv_aload_n (pc := 314) hx hb dL_build_314 rfl (lv_at hl 2 rfl) ?_
      refine lv_aload (pc := 315) hx hb dL_build_315 (lv_at hl 0 rfl) ?_
      refine lv_iconst (pc := 317) (v := (0 : Int32)) hx hb dL_build_317 (by decide) ?_
      refine alI (pc := 318) cx hw 51 0 (app_l rfl) rfl h.1 dL_build_318 ?_
      have h := h.2
      refine lv_aload (pc := 319) hx hb dL_build_319 (lv_at hl 0 rfl) ?_
      refine lv_iconst (pc := 321) (v := (1 : Int32)) hx hb dL_build_321 (by decide) ?_
      refine alI (pc := 322) cx hw 51 0 (app_l rfl) rfl h.1 dL_build_322 ?_
      have h := h.2
      refine lv_aload (pc := 323) hx hb dL_build_323 (lv_at hl 0 rfl) ?_
      refine lv_iconst (pc := 325) (v := (2 : Int32)) hx hb dL_build_325 (by decide) ?_
      refine alI (pc := 326) cx hw 51 0 (app_l rfl) rfl h.1 dL_build_326 ?_
      have h := h.2
      refine callVi (pc := 327) (rest := []) (c1 := (k0 + 1)) (s1 := 150 * (k0 + 1)) cx hw hl (metX5_addDrowned l D cI cZ xa ad ad2 H.size A V A2 V2 (T_65 (0 : Int32).toNatClampNeg) (T_65 (1 : Int32).toNatClampNeg) (T_65 (2 : Int32).toNatClampNeg) _ h) (fun hts => cwV 3 hts gL_build_X5_addDrowned rfl rfl rfl (by decide +kernel) ⟨Nat.le_of_ble_eq_true rfl, Nat.le_of_ble_eq_true rfl⟩) (SUB.left.trans SUB.left) [0, 1] rfl 0 (ci := 5) rfl rfl rfl (JN.trans SUB.left SUB.left JN.left JN.left) rfl rfl (Nat.le_of_ble_eq_true rfl) ⟨cgBld hgc, sgBld hgc⟩ rfl rfl dL_build_327 (fun r66 u H locs h hw => ?_)
      obtain ⟨A_67, V_68, A_69, V_70⟩ := u
      have hw : WS D s A0 ((wD xa ad ad2 cI cZ A_67 V_68 A_69 V_70 ++ [(q57, .inl (cI, 5, .inl T_65))]) ++ simW cI cII sa ta ba da la sc so LB LD) _ _ := hw
      refine lv_iload (pc := 330) hx hb dL_build_330 (lv_at hl 6 rfl) ?_
      refine lv_icmp_eq (pc := 332) (tgt := 337) hx hb dL_build_332 (by decide) (fun c71 => ?_) (fun c71 => ?_)
      · have h := h.1 c71
        refine lv_aload_n (pc := 337) hx hb dL_build_337 rfl (lv_at hl 4 rfl) ?_
        refine lv_aload_n (pc := 338) hx hb dL_build_338 rfl (lv_at hl 4 rfl) ?_
        refine geF (pc := 339) (C := RX7) (T := TX7) (N := 7) (ci := 6) cx inL_build_X7 rfl 3 (by decide) kL_build_w_fieldLink_RL_50__DrownedPostLaw_Sim___drowned_____I_ hw _ (app_r (k := 0) rfl) rfl dL_build_339 ?_
        refine lv_aload (pc := 342) hx hb dL_build_342 (lv_at hl 0 rfl) ?_
        have hgc : (k0 + 1) + 1 ≤ gBld := h.2.1
        refine moreD (pc := 344) l cx hw hl hFF.2.1 inL_build_X7 kL_build_w_fieldLink_RL_50__DrownedPostLaw_Sim___drowned_____I_ (by have := hD9.1; have := h.1; omega) hgc dL_build_344 dL_build_347 (fun q72 H locs hw => ?_)
        obtain ⟨h_73, eh_73⟩ : ∃ z : Nat → Int32, z = upd hD nD (T_65 0) := ⟨_, rfl⟩
        have h := h.2.2 h_73 eh_73
        have rh_73 : RW (nD + 1) h_73 (LD ++ [(q57, T_65)]) := by rw [eh_73]; exact hD9.add
        have hw : WS D s A0 ((wD xa ad ad2 cI cZ A_67 V_68 A_69 V_70 ++ []) ++ simW cI cII sa ta ba q72 la sc so LB (LD ++ [(q57, T_65)])) _ _ := hw
        refine lv_iinc (pc := 350) (v := x5 + 1) (lv' := [(5, .int (x5 + 1)), (7, .ref q57), (6, .int (clI sl xs ((9 : Int32) + x5))), (0, .ref xa), (1, .ref b), (2, .ref sa), (4, .int x4)]) hx hb dL_build_350 hl (k := 6) rfl rfl (by decide) rfl (fun ls hl => ?_)
        refine lv_goto (pc := 353) (tgt := 247) hx hb dL_build_353 (by decide) ?_
        exact ih ((k0 + 1) + 1) A_67 V_68 A_69 V_70 nB hB (nD + 1) h_73 x4 (x5 + 1) h hgc ta ba q72 la sc so LB (LD ++ [(q57, T_65)]) hB9 rh_73 _ _ _ hw (lv_sub hl [3, 4, 5, 6, 0] rfl)
      · have h := h.2 c71
        exact False.elim h
def wl_L_build_141 (cl : Int32 → Int32) (Q : SA → SV → SA → SV → Nat → (Nat → Int32) → Nat → (Nat → Int32) → Prop)  : Nat → Nat → SA → SV → SA → SV → Nat → (Nat → Int32) → Nat → (Nat → Int32) → Int32 → Int32 → Prop
  | 0, _, _, _, _, _, _, _, _, _, _, _ => False
  | n + 1, k0, A, V, A2, V2, nB, hB, nD, hD, x3, x4 => ((x3 ≤ x4 → (¬ (8 : Int32) < 0 ∧ (wpL_below (cl (8 : Int32)) (5 : Int32) (fun r29 => (∃ n247 : Nat, wl_L_build_247 cl Q n247 k0 A V A2 V2 nB hB nD hD ((1 : Int32) + r29) (0 : Int32)))))) ∧ (¬ (x3 ≤ x4) → (¬ (6 : Int32) < 0 ∧ (wpL_below ((cl (6 : Int32)) >>> (((3 : Int32) * x4) &&& 31)) (80 : Int32) (fun r31 => (¬ (7 : Int32) < 0 ∧ (wpL_below ((cl (7 : Int32)) >>> (((2 : Int32) * x4) &&& 31)) (8 : Int32) (fun r33 => (wpX5_addBin A V A2 V2 r31 ((1 : Int32) + r33) (fun r34 A_35 V_36 A_37 V_38 => ((r34 = x4 → (k0 + 1 ≤ 60 ∧ (vp_in (0 : Int32) 2 ∧ (∀ T_41 : Nat → Int32, T_41 = upd (fun _ => 0) (0 : Int32).toNatClampNeg r31 → (vp_in (1 : Int32) 2 ∧ (∀ T_42 : Nat → Int32, T_42 = upd T_41 (1 : Int32).toNatClampNeg ((1 : Int32) + r33) → (nB ≤ 20 ∧ (k0 + 1) + 1 ≤ 60 ∧ ∀ h_44 : Nat → Int32, h_44 = upd hB nB (T_42 0) → wl_L_build_141 cl Q n ((k0 + 1) + 1) A_35 V_36 A_37 V_38 (nB + 1) h_44 nD hD x3 (x4 + 1)))))))) ∧ (¬ (r34 = x4) → False))))))))))))
set_option maxHeartbeats 8000000 in
set_option maxRecDepth 100000 in
theorem wk_L_build_141 {Q : SA → SV → SA → SV → Nat → (Nat → Int32) → Nat → (Nat → Int32) → Prop}  (cx : CX RL cL_build 8 wsL_build D [(cI, .int), (cZ, .boolean), (cII, .array .int)] p s m args c A0) (hFF : FF b sl xs A0 s) (hsl : sl ≤ 260) (hret : ∀ (pc : Nat) (ls : Array Slot) (k0 : Nat) (A : SA) (V : SV) (A2 : SA) (V2 : SV) (nB : Nat) (hB : Nat → Int32) (nD : Nat) (hD : Nat → Int32) (ta ba da la : Nat) (sc so : Int32) (LB LD : ROWS) (hB9 : RW nB hB LB) (hD9 : RW nD hD LD) (H : Heap) (locs : List Loc), decode cL_build pc = .ok (.areturn, 1) → Q A V A2 V2 nB hB nD hD → k0 ≤ gBld → WS D s A0 ((wD xa ad ad2 cI cZ A V A2 V2 ++ []) ++ simW cI cII sa ta ba da la sc so LB LD) H locs → W p l e rmL_build s m args below meth c H locs k0 (150 * k0) Z (F0 m pc ls [.ref sa]))  : ∀ (n : Nat) (k0 : Nat) (A : SA) (V : SV) (A2 : SA) (V2 : SV) (nB : Nat) (hB : Nat → Int32) (nD : Nat) (hD : Nat → Int32) (x3 : Int32) (x4 : Int32) (h : wl_L_build_141 (clI sl xs) Q n k0 A V A2 V2 nB hB nD hD x3 x4) (hgc : k0 ≤ gBld) (ta : Nat) (ba : Nat) (da : Nat) (la : Nat) (sc : Int32) (so : Int32) (LB : ROWS) (LD : ROWS) (hB9 : RW nB hB LB) (hD9 : RW nD hD LD) (H : Heap) (locs : List Loc) (ls : Array Slot) (hw : WS D s A0 ((wD xa ad ad2 cI cZ A V A2 V2 ++ []) ++ simW cI cII sa ta ba da la sc so LB LD) H locs) (hl : lv_has ls 8 [(0, .ref xa), (1, .ref b), (2, .ref sa), (3, .int x3), (4, .int x4)]), W p l e rmL_build s m args below meth c H locs k0 (150 * k0) Z (F0 m 141 ls []) := by
  obtain ⟨hx, hb, hml, hown, hts, hK, hA⟩ := id cx
  intro n
  induction n with
  | zero => intro k0 A V A2 V2 nB hB nD hD x3 x4 h; exact False.elim h
  | succ n ih =>
    intro k0 A V A2 V2 nB hB nD hD x3 x4 h hgc ta ba da la sc so LB LD hB9 hD9 H locs ls hw hl
    refine lv_iload (pc := 141) hx hb dL_build_141 (lv_at hl 4 rfl) ?_
    refine lv_iload_n (pc := 143) hx hb dL_build_143 rfl (lv_at hl 3 rfl) ?_
    refine lv_icmp_ge (pc := 144) (tgt := 230) hx hb dL_build_144 (by decide) (fun c27 => ?_) (fun c27 => ?_)
    · have h := h.1 c27
      refine lv_iconst (pc := 230) (v := (1 : Int32)) hx hb dL_build_230 (by decide) ?_
      refine lv_aload_n (pc := 231) hx hb dL_build_231 rfl (lv_at hl 1 rfl) ?_
      refine lv_bipush (pc := 232) (v := (8 : Int32)) hx hb dL_build_232 (by decide) ?_
      refine callGi (pc := 234) (rest := [.int (1 : Int32)]) (c1 := k0) (s1 := 150 * k0) cx hw hl FX.ok hFF.1 (metL_cell l D [] H.size b sl xs (8 : Int32) hsl h.1) (fun hts => va_cwS 2 hts gL_build_L_cell rfl rfl rfl (by decide +kernel) ⟨Nat.le_of_ble_eq_true rfl, Nat.le_of_ble_eq_true rfl⟩) SUB.nil [] rfl (JN.nil (S := Unit)) rfl rfl (Nat.le_of_ble_eq_true rfl) ⟨cgBld hgc, sgBld hgc⟩ rfl rfl dL_build_234 (fun r28 u H locs er28 hw => ?_)
      have h := h.2
      subst er28
      refine lv_iconst (pc := 237) (v := (5 : Int32)) hx hb dL_build_237 (by decide) ?_
      refine callSi (pc := 238) (rest := [.int (1 : Int32)]) (c1 := k0) (s1 := 150 * k0) cx hw hl (metL_below l D [] H.size (clI sl xs (8 : Int32)) (5 : Int32) _ h) (fun hts => va_cwS 2 hts gL_build_L_below rfl rfl rfl (by decide +kernel) ⟨Nat.le_of_ble_eq_true rfl, Nat.le_of_ble_eq_true rfl⟩) SUB.nil [] rfl (JN.nil (S := Unit)) rfl rfl (Nat.le_of_ble_eq_true rfl) ⟨cgBld hgc, sgBld hgc⟩ rfl rfl dL_build_238 (fun r29 u H locs h hw => ?_)
      refine lv_iadd (pc := 241) hx hb dL_build_241 ?_
      refine lv_istore (pc := 242) (lv' := [(4, .int ((1 : Int32) + r29)), (0, .ref xa), (1, .ref b), (2, .ref sa), (3, .int x3)]) hx hb dL_build_242 hl (by decide) rfl (fun ls hl => ?_)
      refine lv_iconst (pc := 244) (v := (0 : Int32)) hx hb dL_build_244 (by decide) ?_
      refine lv_istore (pc := 245) (lv' := [(5, .int (0 : Int32)), (4, .int ((1 : Int32) + r29)), (0, .ref xa), (1, .ref b), (2, .ref sa), (3, .int x3)]) hx hb dL_build_245 hl (by decide) rfl (fun ls hl => ?_)
      obtain ⟨n247, h⟩ := h
      exact wk_L_build_247  cx hFF hsl hret  n247 k0 A V A2 V2 nB hB nD hD ((1 : Int32) + r29) (0 : Int32) h hgc ta ba da la sc so LB LD hB9 hD9 _ _ _ hw (lv_sub hl [2, 3, 4, 1, 0] rfl)
    · have h := h.2 c27
      refine lv_aload_n (pc := 147) hx hb dL_build_147 rfl (lv_at hl 1 rfl) ?_
      refine lv_bipush (pc := 148) (v := (6 : Int32)) hx hb dL_build_148 (by decide) ?_
      refine callGi (pc := 150) (rest := []) (c1 := k0) (s1 := 150 * k0) cx hw hl FX.ok hFF.1 (metL_cell l D [] H.size b sl xs (6 : Int32) hsl h.1) (fun hts => va_cwS 2 hts gL_build_L_cell rfl rfl rfl (by decide +kernel) ⟨Nat.le_of_ble_eq_true rfl, Nat.le_of_ble_eq_true rfl⟩) SUB.nil [] rfl (JN.nil (S := Unit)) rfl rfl (Nat.le_of_ble_eq_true rfl) ⟨cgBld hgc, sgBld hgc⟩ rfl rfl dL_build_150 (fun r30 u H locs er30 hw => ?_)
      have h := h.2
      subst er30
      refine lv_iconst (pc := 153) (v := (3 : Int32)) hx hb dL_build_153 (by decide) ?_
      refine lv_iload (pc := 154) hx hb dL_build_154 (lv_at hl 4 rfl) ?_
      refine lv_imul (pc := 156) hx hb dL_build_156 ?_
      refine lv_ishr (pc := 157) hx hb dL_build_157 ?_
      refine lv_bipush (pc := 158) (v := (80 : Int32)) hx hb dL_build_158 (by decide) ?_
      refine callSi (pc := 160) (rest := []) (c1 := k0) (s1 := 150 * k0) cx hw hl (metL_below l D [] H.size ((clI sl xs (6 : Int32)) >>> (((3 : Int32) * x4) &&& 31)) (80 : Int32) _ h) (fun hts => va_cwS 2 hts gL_build_L_below rfl rfl rfl (by decide +kernel) ⟨Nat.le_of_ble_eq_true rfl, Nat.le_of_ble_eq_true rfl⟩) SUB.nil [] rfl (JN.nil (S := Unit)) rfl rfl (Nat.le_of_ble_eq_true rfl) ⟨cgBld hgc, sgBld hgc⟩ rfl rfl dL_build_160 (fun r31 u H locs h hw => ?_)
      refine lv_istore (pc := 163) (lv' := [(5, .int r31), (0, .ref xa), (1, .ref b), (2, .ref sa), (3, .int x3), (4, .int x4)]) hx hb dL_build_163 hl (by decide) rfl (fun ls hl => ?_)
      refine lv_iconst (pc := 165) (v := (1 : Int32)) hx hb dL_build_165 (by decide) ?_
      refine lv_aload_n (pc := 166) hx hb dL_build_166 rfl (lv_at hl 2 rfl) ?_
      refine lv_bipush (pc := 167) (v := (7 : Int32)) hx hb dL_build_167 (by decide) ?_
      refine callGi (pc := 169) (rest := [.int (1 : Int32)]) (c1 := k0) (s1 := 150 * k0) cx hw hl FX.ok hFF.1 (metL_cell l D [] H.size b sl xs (7 : Int32) hsl h.1) (fun hts => va_cwS 2 hts gL_build_L_cell rfl rfl rfl (by decide +kernel) ⟨Nat.le_of_ble_eq_true rfl, Nat.le_of_ble_eq_true rfl⟩) SUB.nil [] rfl (JN.nil (S := Unit)) rfl rfl (Nat.le_of_ble_eq_true rfl) ⟨cgBld hgc, sgBld hgc⟩ rfl rfl dL_build_169 (fun r32 u H locs er32 hw => ?_)
      have h := h.2
      subst er32
      refine lv_iconst (pc := 172) (v := (2 : Int32)) hx hb dL_build_172 (by decide) ?_
      refine lv_iload (pc := 173) hx hb dL_build_173 (lv_at hl 5 rfl) ?_
      refine lv_imul (pc := 175) hx hb dL_build_175 ?_
      refine lv_ishr (pc := 176) hx hb dL_build_176 ?_
      refine lv_bipush (pc := 177) (v := (8 : Int32)) hx hb dL_build_177 (by decide) ?_
      refine callSi (pc := 179) (rest := [.int (1 : Int32)]) (c1 := k0) (s1 := 150 * k0) cx hw hl (metL_below l D [] H.size ((clI sl xs (7 : Int32)) >>> (((2 : Int32) * x4) &&& 31)) (8 : Int32) _ h) (fun hts => va_cwS 2 hts gL_build_L_below rfl rfl rfl (by decide +kernel) ⟨Nat.le_of_ble_eq_true rfl, Nat.le_of_ble_eq_true rfl⟩) SUB.nil [] rfl (JN.nil (S := Unit)) rfl rfl (Nat.le_of_ble_eq_true rfl) ⟨cgBld hgc, sgBld hgc⟩ rfl rfl dL_build_179 (fun r33 u H locs h hw => ?_)
      refine lv_iadd (pc := 182) hx hb dL_build_182 ?_
      refine lv_istore (pc := 183) (lv' := [(6, .int ((1 : Int32) + r33)), (5, .int r31), (0, .ref xa), (1, .ref b), (2, .ref sa), (3, .int x3), (4, .int x4)]) hx hb dL_build_183 hl (by decide) rfl (fun ls hl => ?_)
      refine lv_aload_n (pc := 185) hx hb dL_build_185 rfl (lv_at hl 2 rfl) ?_
      refine lv_iload (pc := 186) hx hb dL_build_186 (lv_at hl 1 rfl) ?_
      refine lv_iload (pc := 188) hx hb dL_build_188 (lv_at hl 0 rfl) ?_
      refine callVi (pc := 190) (rest := []) (c1 := k0) (s1 := 150 * k0) cx hw hl (metX5_addBin l D cI cZ xa ad ad2 H.size A V A2 V2 r31 ((1 : Int32) + r33) _ h) (fun hts => cwV 2 hts gL_build_X5_addBin rfl rfl rfl (by decide +kernel) ⟨Nat.le_of_ble_eq_true rfl, Nat.le_of_ble_eq_true rfl⟩) (SUB.left.trans SUB.left) [0, 1] rfl 0 (ci := 5) rfl rfl rfl (JN.trans SUB.left SUB.left JN.left JN.left) rfl rfl (Nat.le_of_ble_eq_true rfl) ⟨cgBld hgc, sgBld hgc⟩ rfl rfl dL_build_190 (fun r34 u H locs h hw => ?_)
      obtain ⟨A_35, V_36, A_37, V_38⟩ := u
      have hw : WS D s A0 ((wD xa ad ad2 cI cZ A_35 V_36 A_37 V_38 ++ []) ++ simW cI cII sa ta ba da la sc so LB LD) _ _ := hw
      refine lv_iload (pc := 193) hx hb dL_build_193 (lv_at hl 6 rfl) ?_
      refine lv_icmp_eq (pc := 195) (tgt := 200) hx hb dL_build_195 (by decide) (fun c39 => ?_) (fun c39 => ?_)
      · have h := h.1 c39
        refine lv_aload_n (pc := 200) hx hb dL_build_200 rfl (lv_at hl 4 rfl) ?_
        refine lv_aload_n (pc := 201) hx hb dL_build_201 rfl (lv_at hl 4 rfl) ?_
        refine geF (pc := 202) (C := RX7) (T := TX7) (N := 7) (ci := 6) cx inL_build_X7 rfl 2 (by decide) kL_build_w_fieldLink_RL_38__DrownedPostLaw_Sim___bins_____I_ hw _ (app_r (k := 0) rfl) rfl dL_build_202 ?_
        refine lv_iconst (pc := 205) (v := (2 : Int32)) hx hb dL_build_205 (by decide) ?_
        have hgc : k0 + 1 ≤ gBld := h.1
        refine newT (pc := 206) (N' := 2) cx (hts _ kL_build_w_arrayClass__int) hw 0 rfl (by decide) (by decide) (Nat.le_of_ble_eq_true rfl) h.1 rgBld dL_build_206 (fun q40 H hw => ?_)
        have h := h.2
        have hw : WS D s A0 ((wD xa ad ad2 cI cZ A_35 V_36 A_37 V_38 ++ [(q40, .inl (cI, 2, .inl (fun _ => 0)))]) ++ simW cI cII sa ta ba da la sc so LB LD) _ _ := WS.eqw hw (congrArg (· ++ _) (List.append_assoc _ _ _))
        refine lv_dup (pc := 208) hx hb dL_build_208 rfl ?_
        refine lv_iconst (pc := 209) (v := (0 : Int32)) hx hb dL_build_209 (by decide) ?_
        refine lv_iload (pc := 210) hx hb dL_build_210 (lv_at hl 1 rfl) ?_
        obtain ⟨T_41, eT_41⟩ : ∃ z : Nat → Int32, z = upd (fun _ => 0) (0 : Int32).toNatClampNeg r31 := ⟨_, rfl⟩
        refine asI (pc := 212) cx hw 51 0 (app_l rfl) rfl (i := (0 : Int32)) h.1 (ws1 := ((wD xa ad ad2 cI cZ A_35 V_36 A_37 V_38 ++ [(q40, .inl (cI, 2, .inl T_41))]) ++ simW cI cII sa ta ba da la sc so LB LD)) (set_l (Nat.le_of_ble_eq_true rfl) (by rw [eT_41]; rfl)) dL_build_212 (fun H locs hw => ?_)
        have h := h.2 T_41 eT_41
        refine lv_dup (pc := 213) hx hb dL_build_213 rfl ?_
        refine lv_iconst (pc := 214) (v := (1 : Int32)) hx hb dL_build_214 (by decide) ?_
        refine lv_iload (pc := 215) hx hb dL_build_215 (lv_at hl 0 rfl) ?_
        obtain ⟨T_42, eT_42⟩ : ∃ z : Nat → Int32, z = upd T_41 (1 : Int32).toNatClampNeg ((1 : Int32) + r33) := ⟨_, rfl⟩
        refine asI (pc := 217) cx hw 51 0 (app_l rfl) rfl (i := (1 : Int32)) h.1 (ws1 := ((wD xa ad ad2 cI cZ A_35 V_36 A_37 V_38 ++ [(q40, .inl (cI, 2, .inl T_42))]) ++ simW cI cII sa ta ba da la sc so LB LD)) (set_l (Nat.le_of_ble_eq_true rfl) (by rw [eT_42]; rfl)) dL_build_217 (fun H locs hw => ?_)
        have h := h.2 T_42 eT_42
        have hgc : (k0 + 1) + 1 ≤ gBld := h.2.1
        refine moreB (pc := 218) l cx hw hl hFF.2.1 inL_build_X7 kL_build_w_fieldLink_RL_38__DrownedPostLaw_Sim___bins_____I_ (by have := hB9.1; have := h.1; omega) hgc dL_build_218 dL_build_221 (fun q43 H locs hw => ?_)
        obtain ⟨h_44, eh_44⟩ : ∃ z : Nat → Int32, z = upd hB nB (T_42 0) := ⟨_, rfl⟩
        have h := h.2.2 h_44 eh_44
        have rh_44 : RW (nB + 1) h_44 (LB ++ [(q40, T_42)]) := by rw [eh_44]; exact hB9.add
        have hw : WS D s A0 ((wD xa ad ad2 cI cZ A_35 V_36 A_37 V_38 ++ []) ++ simW cI cII sa ta q43 da la sc so (LB ++ [(q40, T_42)]) LD) _ _ := hw
        refine lv_iinc (pc := 224) (v := x4 + 1) (lv' := [(4, .int (x4 + 1)), (6, .int ((1 : Int32) + r33)), (5, .int r31), (0, .ref xa), (1, .ref b), (2, .ref sa), (3, .int x3)]) hx hb dL_build_224 hl (k := 6) rfl rfl (by decide) rfl (fun ls hl => ?_)
        refine lv_goto (pc := 227) (tgt := 141) hx hb dL_build_227 (by decide) ?_
        exact ih ((k0 + 1) + 1) A_35 V_36 A_37 V_38 (nB + 1) h_44 nD hD x3 (x4 + 1) h hgc ta q43 da la sc so (LB ++ [(q40, T_42)]) LD rh_44 hD9 _ _ _ hw (lv_sub hl [3, 4, 5, 6, 0] rfl)
      · have h := h.2 c39
        exact False.elim h
def wb_L_build_126 (cl : Int32 → Int32) (Q : SA → SV → SA → SV → Nat → (Nat → Int32) → Nat → (Nat → Int32) → Prop)  (k0 : Nat) (A : SA) (V : SV) (A2 : SA) (V2 : SV) (nB : Nat) (hB : Nat → Int32) (nD : Nat) (hD : Nat → Int32) : Prop := (¬ (5 : Int32) < 0 ∧ (wpL_below (cl (5 : Int32)) (5 : Int32) (fun r26 => (∃ n141 : Nat, wl_L_build_141 cl Q n141 k0 A V A2 V2 nB hB nD hD ((1 : Int32) + r26) (0 : Int32)))))
set_option maxHeartbeats 8000000 in
set_option maxRecDepth 100000 in
theorem wk_L_build_126 {Q : SA → SV → SA → SV → Nat → (Nat → Int32) → Nat → (Nat → Int32) → Prop}  (cx : CX RL cL_build 8 wsL_build D [(cI, .int), (cZ, .boolean), (cII, .array .int)] p s m args c A0) (hFF : FF b sl xs A0 s) (hsl : sl ≤ 260) (hret : ∀ (pc : Nat) (ls : Array Slot) (k0 : Nat) (A : SA) (V : SV) (A2 : SA) (V2 : SV) (nB : Nat) (hB : Nat → Int32) (nD : Nat) (hD : Nat → Int32) (ta ba da la : Nat) (sc so : Int32) (LB LD : ROWS) (hB9 : RW nB hB LB) (hD9 : RW nD hD LD) (H : Heap) (locs : List Loc), decode cL_build pc = .ok (.areturn, 1) → Q A V A2 V2 nB hB nD hD → k0 ≤ gBld → WS D s A0 ((wD xa ad ad2 cI cZ A V A2 V2 ++ []) ++ simW cI cII sa ta ba da la sc so LB LD) H locs → W p l e rmL_build s m args below meth c H locs k0 (150 * k0) Z (F0 m pc ls [.ref sa]))  : ∀ (k0 : Nat) (A : SA) (V : SV) (A2 : SA) (V2 : SV) (nB : Nat) (hB : Nat → Int32) (nD : Nat) (hD : Nat → Int32) (h : wb_L_build_126 (clI sl xs) Q k0 A V A2 V2 nB hB nD hD) (hgc : k0 ≤ gBld) (ta : Nat) (ba : Nat) (da : Nat) (la : Nat) (sc : Int32) (so : Int32) (LB : ROWS) (LD : ROWS) (hB9 : RW nB hB LB) (hD9 : RW nD hD LD) (H : Heap) (locs : List Loc) (ls : Array Slot) (hw : WS D s A0 ((wD xa ad ad2 cI cZ A V A2 V2 ++ []) ++ simW cI cII sa ta ba da la sc so LB LD) H locs) (hl : lv_has ls 8 [(0, .ref xa), (1, .ref b), (2, .ref sa)]), W p l e rmL_build s m args below meth c H locs k0 (150 * k0) Z (F0 m 126 ls []) := by
  obtain ⟨hx, hb, hml, hown, hts, hK, hA⟩ := id cx
  intro k0 A V A2 V2 nB hB nD hD h hgc ta ba da la sc so LB LD hB9 hD9 H locs ls hw hl
  refine lv_iconst (pc := 126) (v := (1 : Int32)) hx hb dL_build_126 (by decide) ?_
  refine lv_aload_n (pc := 127) hx hb dL_build_127 rfl (lv_at hl 1 rfl) ?_
  refine lv_iconst (pc := 128) (v := (5 : Int32)) hx hb dL_build_128 (by decide) ?_
  refine callGi (pc := 129) (rest := [.int (1 : Int32)]) (c1 := k0) (s1 := 150 * k0) cx hw hl FX.ok hFF.1 (metL_cell l D [] H.size b sl xs (5 : Int32) hsl h.1) (fun hts => va_cwS 2 hts gL_build_L_cell rfl rfl rfl (by decide +kernel) ⟨Nat.le_of_ble_eq_true rfl, Nat.le_of_ble_eq_true rfl⟩) SUB.nil [] rfl (JN.nil (S := Unit)) rfl rfl (Nat.le_of_ble_eq_true rfl) ⟨cgBld hgc, sgBld hgc⟩ rfl rfl dL_build_129 (fun r25 u H locs er25 hw => ?_)
  have h := h.2
  subst er25
  refine lv_iconst (pc := 132) (v := (5 : Int32)) hx hb dL_build_132 (by decide) ?_
  refine callSi (pc := 133) (rest := [.int (1 : Int32)]) (c1 := k0) (s1 := 150 * k0) cx hw hl (metL_below l D [] H.size (clI sl xs (5 : Int32)) (5 : Int32) _ h) (fun hts => va_cwS 2 hts gL_build_L_below rfl rfl rfl (by decide +kernel) ⟨Nat.le_of_ble_eq_true rfl, Nat.le_of_ble_eq_true rfl⟩) SUB.nil [] rfl (JN.nil (S := Unit)) rfl rfl (Nat.le_of_ble_eq_true rfl) ⟨cgBld hgc, sgBld hgc⟩ rfl rfl dL_build_133 (fun r26 u H locs h hw => ?_)
  refine lv_iadd (pc := 136) hx hb dL_build_136 ?_
  refine lv_istore_n (pc := 137) (lv' := [(3, .int ((1 : Int32) + r26)), (0, .ref xa), (1, .ref b), (2, .ref sa)]) hx hb dL_build_137 rfl hl (by decide) rfl (fun ls hl => ?_)
  refine lv_iconst (pc := 138) (v := (0 : Int32)) hx hb dL_build_138 (by decide) ?_
  refine lv_istore (pc := 139) (lv' := [(4, .int (0 : Int32)), (3, .int ((1 : Int32) + r26)), (0, .ref xa), (1, .ref b), (2, .ref sa)]) hx hb dL_build_139 hl (by decide) rfl (fun ls hl => ?_)
  obtain ⟨n141, h⟩ := h
  exact wk_L_build_141  cx hFF hsl hret  n141 k0 A V A2 V2 nB hB nD hD ((1 : Int32) + r26) (0 : Int32) h hgc ta ba da la sc so LB LD hB9 hD9 _ _ _ hw (lv_sub hl [2, 3, 4, 1, 0] rfl)
def wb_L_build_91 (cl : Int32 → Int32) (Q : SA → SV → SA → SV → Nat → (Nat → Int32) → Nat → (Nat → Int32) → Prop) (K43 : Nat → SA → SV → SA → SV → Nat → (Nat → Int32) → Nat → (Nat → Int32) → (Nat → Int32) → Int32 → Int32 → Prop) (k0 : Nat) (A : SA) (V : SV) (A2 : SA) (V2 : SV) (nB : Nat) (hB : Nat → Int32) (nD : Nat) (hD : Nat → Int32) (TD : Nat → Int32) (x3 : Int32) (x5 : Int32) : Prop := ((x5 ≤ 0 → K43 k0 A V A2 V2 nB hB nD hD TD x3 (x5 + 1)) ∧ (¬ (x5 ≤ 0) → (vp_in x5 (x3).toNatClampNeg ∧ (wpX5_addTide A V A2 V2 (TD x5.toNatClampNeg) (fun r19 A_20 V_21 A_22 V_23 => ((r19 = (x5 + (1 : Int32)) → K43 k0 A_20 V_21 A_22 V_23 nB hB nD hD TD x3 (x5 + 1)) ∧ (¬ (r19 = (x5 + (1 : Int32))) → False)))))))
set_option maxHeartbeats 8000000 in
set_option maxRecDepth 100000 in
theorem wk_L_build_91 {Q : SA → SV → SA → SV → Nat → (Nat → Int32) → Nat → (Nat → Int32) → Prop} (K43 : Nat → SA → SV → SA → SV → Nat → (Nat → Int32) → Nat → (Nat → Int32) → (Nat → Int32) → Int32 → Int32 → Prop) (cx : CX RL cL_build 8 wsL_build D [(cI, .int), (cZ, .boolean), (cII, .array .int)] p s m args c A0) (hFF : FF b sl xs A0 s) (hsl : sl ≤ 260) (hret : ∀ (pc : Nat) (ls : Array Slot) (k0 : Nat) (A : SA) (V : SV) (A2 : SA) (V2 : SV) (nB : Nat) (hB : Nat → Int32) (nD : Nat) (hD : Nat → Int32) (ta ba da la : Nat) (sc so : Int32) (LB LD : ROWS) (hB9 : RW nB hB LB) (hD9 : RW nD hD LD) (H : Heap) (locs : List Loc), decode cL_build pc = .ok (.areturn, 1) → Q A V A2 V2 nB hB nD hD → k0 ≤ gBld → WS D s A0 ((wD xa ad ad2 cI cZ A V A2 V2 ++ []) ++ simW cI cII sa ta ba da la sc so LB LD) H locs → W p l e rmL_build s m args below meth c H locs k0 (150 * k0) Z (F0 m pc ls [.ref sa])) (hK43 : ∀ (k0 : Nat) (A : SA) (V : SV) (A2 : SA) (V2 : SV) (nB : Nat) (hB : Nat → Int32) (nD : Nat) (hD : Nat → Int32) (TD : Nat → Int32) (x3 : Int32) (x5 : Int32) (h : K43 k0 A V A2 V2 nB hB nD hD TD x3 x5) (hgc : k0 ≤ gBld) (ta : Nat) (ba : Nat) (da : Nat) (la : Nat) (sc : Int32) (so : Int32) (LB : ROWS) (LD : ROWS) (hB9 : RW nB hB LB) (hD9 : RW nD hD LD) (q0 : Nat) (H : Heap) (locs : List Loc) (ls : Array Slot) (hw : WS D s A0 ((wD xa ad ad2 cI cZ A V A2 V2 ++ [(q0, .inl (cI, (x3).toNatClampNeg, .inl TD))]) ++ simW cI cII sa ta ba da la sc so LB LD) H locs) (hl : lv_has ls 8 [(0, .ref xa), (1, .ref b), (2, .ref sa), (3, .int x3), (4, .ref q0), (5, .int x5)]), W p l e rmL_build s m args below meth c H locs k0 (150 * k0) Z (F0 m 43 ls [])) : ∀ (k0 : Nat) (A : SA) (V : SV) (A2 : SA) (V2 : SV) (nB : Nat) (hB : Nat → Int32) (nD : Nat) (hD : Nat → Int32) (TD : Nat → Int32) (x3 : Int32) (x5 : Int32) (h : wb_L_build_91 (clI sl xs) Q K43 k0 A V A2 V2 nB hB nD hD TD x3 x5) (hgc : k0 ≤ gBld) (ta : Nat) (ba : Nat) (da : Nat) (la : Nat) (sc : Int32) (so : Int32) (LB : ROWS) (LD : ROWS) (hB9 : RW nB hB LB) (hD9 : RW nD hD LD) (q0 : Nat) (H : Heap) (locs : List Loc) (ls : Array Slot) (hw : WS D s A0 ((wD xa ad ad2 cI cZ A V A2 V2 ++ [(q0, .inl (cI, (x3).toNatClampNeg, .inl TD))]) ++ simW cI cII sa ta ba da la sc so LB LD) H locs) (hl : lv_has ls 8 [(0, .ref xa), (1, .ref b), (2, .ref sa), (3, .int x3), (4, .ref q0), (5, .int x5)]), W p l e rmL_build s m args below meth c H locs k0 (150 * k0) Z (F0 m 91 ls []) := by
  obtain ⟨hx, hb, hml, hown, hts, hK, hA⟩ := id cx
  intro k0 A V A2 V2 nB hB nD hD TD x3 x5 h hgc ta ba da la sc so LB LD hB9 hD9 q0 H locs ls hw hl
  refine lv_iload (pc := 91) hx hb dL_build_91 (lv_at hl 5 rfl) ?_
  refine lv_if_le (pc := 93) (tgt := 114) hx hb dL_build_93 (by decide) (fun c18 => ?_) (fun c18 => ?_)
  · have h := h.1 c18
    refine lv_iinc (pc := 114) (v := x5 + 1) (lv' := [(5, .int (x5 + 1)), (0, .ref xa), (1, .ref b), (2, .ref sa), (3, .int x3), (4, .ref q0)]) hx hb dL_build_114 hl (k := 5) rfl rfl (by decide) rfl (fun ls hl => ?_)
    refine lv_goto (pc := 117) (tgt := 43) hx hb dL_build_117 (by decide) ?_
    exact hK43 k0 A V A2 V2 nB hB nD hD TD x3 (x5 + 1) h hgc ta ba da la sc so LB LD hB9 hD9 q0 _ _ _ hw (lv_sub hl [1, 2, 3, 4, 5, 0] rfl)
  · have h := h.2 c18
    refine lv_aload_n (pc := 96) hx hb dL_build_96 rfl (lv_at hl 0 rfl) ?_
    refine lv_aload (pc := 97) hx hb dL_build_97 (lv_at hl 4 rfl) ?_
    refine lv_iload (pc := 99) hx hb dL_build_99 (lv_at hl 5 rfl) ?_
    refine alI (pc := 101) cx hw 51 0 (app_l rfl) rfl h.1 dL_build_101 ?_
    have h := h.2
    refine callVi (pc := 102) (rest := []) (c1 := k0) (s1 := 150 * k0) cx hw hl (metX5_addTide l D cI cZ xa ad ad2 H.size A V A2 V2 (TD x5.toNatClampNeg) _ h) (fun hts => cwV 1 hts gL_build_X5_addTide rfl rfl rfl (by decide +kernel) ⟨Nat.le_of_ble_eq_true rfl, Nat.le_of_ble_eq_true rfl⟩) (SUB.left.trans SUB.left) [0, 1] rfl 0 (ci := 5) rfl rfl rfl (JN.trans SUB.left SUB.left JN.left JN.left) rfl rfl (Nat.le_of_ble_eq_true rfl) ⟨cgBld hgc, sgBld hgc⟩ rfl rfl dL_build_102 (fun r19 u H locs h hw => ?_)
    obtain ⟨A_20, V_21, A_22, V_23⟩ := u
    have hw : WS D s A0 ((wD xa ad ad2 cI cZ A_20 V_21 A_22 V_23 ++ [(q0, .inl (cI, (x3).toNatClampNeg, .inl TD))]) ++ simW cI cII sa ta ba da la sc so LB LD) _ _ := hw
    refine lv_iload (pc := 105) hx hb dL_build_105 (lv_at hl 5 rfl) ?_
    refine lv_iconst (pc := 107) (v := (1 : Int32)) hx hb dL_build_107 (by decide) ?_
    refine lv_iadd (pc := 108) hx hb dL_build_108 ?_
    refine lv_icmp_eq (pc := 109) (tgt := 114) hx hb dL_build_109 (by decide) (fun c24 => ?_) (fun c24 => ?_)
    · have h := h.1 c24
      refine lv_iinc (pc := 114) (v := x5 + 1) (lv' := [(5, .int (x5 + 1)), (0, .ref xa), (1, .ref b), (2, .ref sa), (3, .int x3), (4, .ref q0)]) hx hb dL_build_114 hl (k := 5) rfl rfl (by decide) rfl (fun ls hl => ?_)
      refine lv_goto (pc := 117) (tgt := 43) hx hb dL_build_117 (by decide) ?_
      exact hK43 k0 A_20 V_21 A_22 V_23 nB hB nD hD TD x3 (x5 + 1) h hgc ta ba da la sc so LB LD hB9 hD9 q0 _ _ _ hw (lv_sub hl [1, 2, 3, 4, 5, 0] rfl)
    · have h := h.2 c24
      exact False.elim h
def wl_L_build_43 (cl : Int32 → Int32) (Q : SA → SV → SA → SV → Nat → (Nat → Int32) → Nat → (Nat → Int32) → Prop)  : Nat → Nat → SA → SV → SA → SV → Nat → (Nat → Int32) → Nat → (Nat → Int32) → (Nat → Int32) → Int32 → Int32 → Prop
  | 0, _, _, _, _, _, _, _, _, _, _, _, _ => False
  | n + 1, k0, A, V, A2, V2, nB, hB, nD, hD, TD, x3, x5 => ((x3 ≤ x5 → (wb_L_build_126 cl Q k0 A V A2 V2 nB hB nD hD)) ∧ (¬ (x3 ≤ x5) → (¬ (4 : Int32) = 0 ∧ (¬ ((1 : Int32) + (x5 - x5 / (4 : Int32) * (4 : Int32))) < 0 ∧ (wpL_below ((cl ((1 : Int32) + (x5 - x5 / (4 : Int32) * (4 : Int32)))) >>> (x5 &&& 31)) (100 : Int32) (fun r9 => (vp_in x5 (x3).toNatClampNeg ∧ (∀ T_10 : Nat → Int32, T_10 = upd TD x5.toNatClampNeg r9 → ((¬ x5 = 0 → (wb_L_build_91 cl Q (wl_L_build_43 cl Q n) k0 A V A2 V2 nB hB nD hD T_10 x3 x5)) ∧ (x5 = 0 → (vp_in x5 (x3).toNatClampNeg ∧ (wpX5_beginTides A V A2 V2 (T_10 x5.toNatClampNeg) (fun r12 A_13 V_14 A_15 V_16 => ((¬ r12 = (12 : Int32) → False) ∧ (r12 = (12 : Int32) → (wb_L_build_91 cl Q (wl_L_build_43 cl Q n) k0 A_13 V_14 A_15 V_16 nB hB nD hD T_10 x3 x5))))))))))))))))
set_option maxHeartbeats 8000000 in
set_option maxRecDepth 100000 in
theorem wk_L_build_43 {Q : SA → SV → SA → SV → Nat → (Nat → Int32) → Nat → (Nat → Int32) → Prop}  (cx : CX RL cL_build 8 wsL_build D [(cI, .int), (cZ, .boolean), (cII, .array .int)] p s m args c A0) (hFF : FF b sl xs A0 s) (hsl : sl ≤ 260) (hret : ∀ (pc : Nat) (ls : Array Slot) (k0 : Nat) (A : SA) (V : SV) (A2 : SA) (V2 : SV) (nB : Nat) (hB : Nat → Int32) (nD : Nat) (hD : Nat → Int32) (ta ba da la : Nat) (sc so : Int32) (LB LD : ROWS) (hB9 : RW nB hB LB) (hD9 : RW nD hD LD) (H : Heap) (locs : List Loc), decode cL_build pc = .ok (.areturn, 1) → Q A V A2 V2 nB hB nD hD → k0 ≤ gBld → WS D s A0 ((wD xa ad ad2 cI cZ A V A2 V2 ++ []) ++ simW cI cII sa ta ba da la sc so LB LD) H locs → W p l e rmL_build s m args below meth c H locs k0 (150 * k0) Z (F0 m pc ls [.ref sa]))  : ∀ (n : Nat) (k0 : Nat) (A : SA) (V : SV) (A2 : SA) (V2 : SV) (nB : Nat) (hB : Nat → Int32) (nD : Nat) (hD : Nat → Int32) (TD : Nat → Int32) (x3 : Int32) (x5 : Int32) (h : wl_L_build_43 (clI sl xs) Q n k0 A V A2 V2 nB hB nD hD TD x3 x5) (hgc : k0 ≤ gBld) (ta : Nat) (ba : Nat) (da : Nat) (la : Nat) (sc : Int32) (so : Int32) (LB : ROWS) (LD : ROWS) (hB9 : RW nB hB LB) (hD9 : RW nD hD LD) (q0 : Nat) (H : Heap) (locs : List Loc) (ls : Array Slot) (hw : WS D s A0 ((wD xa ad ad2 cI cZ A V A2 V2 ++ [(q0, .inl (cI, (x3).toNatClampNeg, .inl TD))]) ++ simW cI cII sa ta ba da la sc so LB LD) H locs) (hl : lv_has ls 8 [(0, .ref xa), (1, .ref b), (2, .ref sa), (3, .int x3), (4, .ref q0), (5, .int x5)]), W p l e rmL_build s m args below meth c H locs k0 (150 * k0) Z (F0 m 43 ls []) := by
  obtain ⟨hx, hb, hml, hown, hts, hK, hA⟩ := id cx
  intro n
  induction n with
  | zero => intro k0 A V A2 V2 nB hB nD hD TD x3 x5 h; exact False.elim h
  | succ n ih =>
    intro k0 A V A2 V2 nB hB nD hD TD x3 x5 h hgc ta ba da la sc so LB LD hB9 hD9 q0 H locs ls hw hl
    refine lv_iload (pc := 43) hx hb dL_build_43 (lv_at hl 5 rfl) ?_
    refine lv_iload_n (pc := 45) hx hb dL_build_45 rfl (lv_at hl 3 rfl) ?_
    refine lv_icmp_ge (pc := 46) (tgt := 120) hx hb dL_build_46 (by decide) (fun c7 => ?_) (fun c7 => ?_)
    · have h := h.1 c7
      refine lv_aload_n (pc := 120) hx hb dL_build_120 rfl (lv_at hl 2 rfl) ?_
      refine lv_aload (pc := 121) hx hb dL_build_121 (lv_at hl 4 rfl) ?_
      refine puR (pc := 123) (C := RX7) (T := TX7) (N := 7) (ci := 6) (ty := tyX7 1) cx inL_build_X7 tyX7 tyX7_ok nmX7 rfl 1 (by decide) rfl kL_build_w_fieldLink_RL_31__DrownedPostLaw_Sim___tides____I_ hw _ (app_r (k := 0) rfl) (tyX7_ok 1 (by decide)) rfl rfl (Nat.le_of_ble_eq_true rfl) (ws1 := ((wD xa ad ad2 cI cZ A V A2 V2 ++ [(q0, .inl (cI, (x3).toNatClampNeg, .inl TD))]) ++ simW cI cII sa q0 ba da la sc so LB LD)) (set_r rfl) dL_build_123 (fun H locs hw => ?_)
      have hw : WS D s A0 ((wD xa ad ad2 cI cZ A V A2 V2 ++ []) ++ simW cI cII sa q0 ba da la sc so LB LD) _ _ := WS.sub hw (SUB.appR (SUB.by [0, 1, 2, 3, 4, 5, 6, 7, 8, 9, 10, 11, 12, 13, 14, 15, 16, 17, 18, 19, 20, 21, 22, 23, 24, 25, 26, 27, 28, 29, 30, 31, 32, 33, 34, 35, 36, 37, 38, 39, 40, 41, 42, 43, 44, 45, 46, 47, 48, 49, 50] (by decide) rfl))
      exact wk_L_build_126  cx hFF hsl hret  k0 A V A2 V2 nB hB nD hD h hgc q0 ba da la sc so LB LD hB9 hD9 _ _ _ hw (lv_sub hl [0, 1, 2] rfl)
    · have h := h.2 c7
      refine lv_aload (pc := 49) hx hb dL_build_49 (lv_at hl 4 rfl) ?_
      refine lv_iload (pc := 51) hx hb dL_build_51 (lv_at hl 5 rfl) ?_
      refine lv_aload_n (pc := 53) hx hb dL_build_53 rfl (lv_at hl 1 rfl) ?_
      refine lv_iconst (pc := 54) (v := (1 : Int32)) hx hb dL_build_54 (by decide) ?_
      refine lv_iload (pc := 55) hx hb dL_build_55 (lv_at hl 5 rfl) ?_
      refine lv_iconst (pc := 57) (v := (4 : Int32)) hx hb dL_build_57 (by decide) ?_
      refine lv_irem (pc := 58) hx hb dL_build_58 h.1 ?_
      have h := h.2
      refine lv_iadd (pc := 59) hx hb dL_build_59 ?_
      refine callGi (pc := 60) (rest := [.int x5, .ref q0]) (c1 := k0) (s1 := 150 * k0) cx hw hl FX.ok hFF.1 (metL_cell l D [] H.size b sl xs ((1 : Int32) + (x5 - x5 / (4 : Int32) * (4 : Int32))) hsl h.1) (fun hts => va_cwS 2 hts gL_build_L_cell rfl rfl rfl (by decide +kernel) ⟨Nat.le_of_ble_eq_true rfl, Nat.le_of_ble_eq_true rfl⟩) SUB.nil [] rfl (JN.nil (S := Unit)) rfl rfl (Nat.le_of_ble_eq_true rfl) ⟨cgBld hgc, sgBld hgc⟩ rfl rfl dL_build_60 (fun r8 u H locs er8 hw => ?_)
      have h := h.2
      subst er8
      refine lv_iload (pc := 63) hx hb dL_build_63 (lv_at hl 5 rfl) ?_
      refine lv_ishr (pc := 65) hx hb dL_build_65 ?_
      refine lv_bipush (pc := 66) (v := (100 : Int32)) hx hb dL_build_66 (by decide) ?_
      refine callSi (pc := 68) (rest := [.int x5, .ref q0]) (c1 := k0) (s1 := 150 * k0) cx hw hl (metL_below l D [] H.size ((clI sl xs ((1 : Int32) + (x5 - x5 / (4 : Int32) * (4 : Int32)))) >>> (x5 &&& 31)) (100 : Int32) _ h) (fun hts => va_cwS 2 hts gL_build_L_below rfl rfl rfl (by decide +kernel) ⟨Nat.le_of_ble_eq_true rfl, Nat.le_of_ble_eq_true rfl⟩) SUB.nil [] rfl (JN.nil (S := Unit)) rfl rfl (Nat.le_of_ble_eq_true rfl) ⟨cgBld hgc, sgBld hgc⟩ rfl rfl dL_build_68 (fun r9 u H locs h hw => ?_)
      obtain ⟨T_10, eT_10⟩ : ∃ z : Nat → Int32, z = upd TD x5.toNatClampNeg r9 := ⟨_, rfl⟩
      refine asI (pc := 71) cx hw 51 0 (app_l rfl) rfl (i := x5) h.1 (ws1 := ((wD xa ad ad2 cI cZ A V A2 V2 ++ [(q0, .inl (cI, (x3).toNatClampNeg, .inl T_10))]) ++ simW cI cII sa ta ba da la sc so LB LD)) (set_l (Nat.le_of_ble_eq_true rfl) (by rw [eT_10]; rfl)) dL_build_71 (fun H locs hw => ?_)
      have h := h.2 T_10 eT_10
      refine lv_iload (pc := 72) hx hb dL_build_72 (lv_at hl 5 rfl) ?_
      refine lv_if_ne (pc := 74) (tgt := 91) hx hb dL_build_74 (by decide) (fun c11 => ?_) (fun c11 => ?_)
      · have h := h.1 c11
        exact wk_L_build_91 (wl_L_build_43 (clI sl xs) Q n) cx hFF hsl hret ih k0 A V A2 V2 nB hB nD hD T_10 x3 x5 h hgc ta ba da la sc so LB LD hB9 hD9 q0 _ _ _ hw (lv_sub hl [0, 1, 2, 3, 4, 5] rfl)
      · have h := h.2 c11
        refine lv_aload_n (pc := 77) hx hb dL_build_77 rfl (lv_at hl 0 rfl) ?_
        refine lv_aload (pc := 78) hx hb dL_build_78 (lv_at hl 4 rfl) ?_
        refine lv_iload (pc := 80) hx hb dL_build_80 (lv_at hl 5 rfl) ?_
        refine alI (pc := 82) cx hw 51 0 (app_l rfl) rfl h.1 dL_build_82 ?_
        have h := h.2
        refine callVi (pc := 83) (rest := []) (c1 := k0) (s1 := 150 * k0) cx hw hl (metX5_beginTides l D cI cZ xa ad ad2 H.size A V A2 V2 (T_10 x5.toNatClampNeg) _ h) (fun hts => cwV 1 hts gL_build_X5_beginTides rfl rfl rfl (by decide +kernel) ⟨Nat.le_of_ble_eq_true rfl, Nat.le_of_ble_eq_true rfl⟩) (SUB.left.trans SUB.left) [0, 1] rfl 0 (ci := 5) rfl rfl rfl (JN.trans SUB.left SUB.left JN.left JN.left) rfl rfl (Nat.le_of_ble_eq_true rfl) ⟨cgBld hgc, sgBld hgc⟩ rfl rfl dL_build_83 (fun r12 u H locs h hw => ?_)
        obtain ⟨A_13, V_14, A_15, V_16⟩ := u
        have hw : WS D s A0 ((wD xa ad ad2 cI cZ A_13 V_14 A_15 V_16 ++ [(q0, .inl (cI, (x3).toNatClampNeg, .inl T_10))]) ++ simW cI cII sa ta ba da la sc so LB LD) _ _ := hw
        refine lv_bipush (pc := 86) (v := (12 : Int32)) hx hb dL_build_86 (by decide) ?_
        refine lv_icmp_ne (pc := 88) (tgt := 112) hx hb dL_build_88 (by decide) (fun c17 => ?_) (fun c17 => ?_)
        · have h := h.1 c17
          exact False.elim h
        · have h := h.2 c17
          exact wk_L_build_91 (wl_L_build_43 (clI sl xs) Q n) cx hFF hsl hret ih k0 A_13 V_14 A_15 V_16 nB hB nD hD T_10 x3 x5 h hgc ta ba da la sc so LB LD hB9 hD9 q0 _ _ _ hw (lv_sub hl [0, 1, 2, 3, 4, 5] rfl)
def wb_L_build_8 (cl : Int32 → Int32) (Q : SA → SV → SA → SV → Nat → (Nat → Int32) → Nat → (Nat → Int32) → Prop)  (k0 : Nat) (A : SA) (V : SV) (A2 : SA) (V2 : SV) (nB : Nat) (hB : Nat → Int32) (nD : Nat) (hD : Nat → Int32) : Prop := (¬ (0 : Int32) < 0 ∧ (wpL_below (cl (0 : Int32)) (2 : Int32) (fun r2 => ((¬ r2 = 0 → (wb_L_build_126 cl Q k0 A V A2 V2 nB hB nD hD)) ∧ (r2 = 0 → (¬ (0 : Int32) < 0 ∧ (wpL_below ((cl (0 : Int32)) >>> ((2 : Int32) &&& 31)) (12 : Int32) (fun r5 => (¬ ((2 : Int32) + r5) < 0 ∧ ((2 : Int32) + r5).toNatClampNeg ≤ 150 ∧ k0 + 1 ≤ 60 ∧ (∃ n43 : Nat, wl_L_build_43 cl Q n43 (k0 + 1) A V A2 V2 nB hB nD hD (fun _ => 0) ((2 : Int32) + r5) (0 : Int32)))))))))))
set_option maxHeartbeats 8000000 in
set_option maxRecDepth 100000 in
theorem wk_L_build_8 {Q : SA → SV → SA → SV → Nat → (Nat → Int32) → Nat → (Nat → Int32) → Prop}  (cx : CX RL cL_build 8 wsL_build D [(cI, .int), (cZ, .boolean), (cII, .array .int)] p s m args c A0) (hFF : FF b sl xs A0 s) (hsl : sl ≤ 260) (hret : ∀ (pc : Nat) (ls : Array Slot) (k0 : Nat) (A : SA) (V : SV) (A2 : SA) (V2 : SV) (nB : Nat) (hB : Nat → Int32) (nD : Nat) (hD : Nat → Int32) (ta ba da la : Nat) (sc so : Int32) (LB LD : ROWS) (hB9 : RW nB hB LB) (hD9 : RW nD hD LD) (H : Heap) (locs : List Loc), decode cL_build pc = .ok (.areturn, 1) → Q A V A2 V2 nB hB nD hD → k0 ≤ gBld → WS D s A0 ((wD xa ad ad2 cI cZ A V A2 V2 ++ []) ++ simW cI cII sa ta ba da la sc so LB LD) H locs → W p l e rmL_build s m args below meth c H locs k0 (150 * k0) Z (F0 m pc ls [.ref sa]))  : ∀ (k0 : Nat) (A : SA) (V : SV) (A2 : SA) (V2 : SV) (nB : Nat) (hB : Nat → Int32) (nD : Nat) (hD : Nat → Int32) (h : wb_L_build_8 (clI sl xs) Q k0 A V A2 V2 nB hB nD hD) (hgc : k0 ≤ gBld) (ta : Nat) (ba : Nat) (da : Nat) (la : Nat) (sc : Int32) (so : Int32) (LB : ROWS) (LD : ROWS) (hB9 : RW nB hB LB) (hD9 : RW nD hD LD) (H : Heap) (locs : List Loc) (ls : Array Slot) (hw : WS D s A0 ((wD xa ad ad2 cI cZ A V A2 V2 ++ []) ++ simW cI cII sa ta ba da la sc so LB LD) H locs) (hl : lv_has ls 8 [(0, .ref xa), (1, .ref b), (2, .ref sa)]), W p l e rmL_build s m args below meth c H locs k0 (150 * k0) Z (F0 m 8 ls []) := by
  obtain ⟨hx, hb, hml, hown, hts, hK, hA⟩ := id cx
  intro k0 A V A2 V2 nB hB nD hD h hgc ta ba da la sc so LB LD hB9 hD9 H locs ls hw hl
  refine lv_aload_n (pc := 8) hx hb dL_build_8 rfl (lv_at hl 1 rfl) ?_
  refine lv_iconst (pc := 9) (v := (0 : Int32)) hx hb dL_build_9 (by decide) ?_
  refine callGi (pc := 10) (rest := []) (c1 := k0) (s1 := 150 * k0) cx hw hl FX.ok hFF.1 (metL_cell l D [] H.size b sl xs (0 : Int32) hsl h.1) (fun hts => va_cwS 2 hts gL_build_L_cell rfl rfl rfl (by decide +kernel) ⟨Nat.le_of_ble_eq_true rfl, Nat.le_of_ble_eq_true rfl⟩) SUB.nil [] rfl (JN.nil (S := Unit)) rfl rfl (Nat.le_of_ble_eq_true rfl) ⟨cgBld hgc, sgBld hgc⟩ rfl rfl dL_build_10 (fun r1 u H locs er1 hw => ?_)
  have h := h.2
  subst er1
  refine lv_iconst (pc := 13) (v := (2 : Int32)) hx hb dL_build_13 (by decide) ?_
  refine callSi (pc := 14) (rest := []) (c1 := k0) (s1 := 150 * k0) cx hw hl (metL_below l D [] H.size (clI sl xs (0 : Int32)) (2 : Int32) _ h) (fun hts => va_cwS 2 hts gL_build_L_below rfl rfl rfl (by decide +kernel) ⟨Nat.le_of_ble_eq_true rfl, Nat.le_of_ble_eq_true rfl⟩) SUB.nil [] rfl (JN.nil (S := Unit)) rfl rfl (Nat.le_of_ble_eq_true rfl) ⟨cgBld hgc, sgBld hgc⟩ rfl rfl dL_build_14 (fun r2 u H locs h hw => ?_)
  refine lv_if_ne (pc := 17) (tgt := 126) hx hb dL_build_17 (by decide) (fun c3 => ?_) (fun c3 => ?_)
  · have h := h.1 c3
    exact wk_L_build_126  cx hFF hsl hret  k0 A V A2 V2 nB hB nD hD h hgc ta ba da la sc so LB LD hB9 hD9 _ _ _ hw (lv_sub hl [0, 1, 2] rfl)
  · have h := h.2 c3
    refine lv_iconst (pc := 20) (v := (2 : Int32)) hx hb dL_build_20 (by decide) ?_
    refine lv_aload_n (pc := 21) hx hb dL_build_21 rfl (lv_at hl 1 rfl) ?_
    refine lv_iconst (pc := 22) (v := (0 : Int32)) hx hb dL_build_22 (by decide) ?_
    refine callGi (pc := 23) (rest := [.int (2 : Int32)]) (c1 := k0) (s1 := 150 * k0) cx hw hl FX.ok hFF.1 (metL_cell l D [] H.size b sl xs (0 : Int32) hsl h.1) (fun hts => va_cwS 2 hts gL_build_L_cell rfl rfl rfl (by decide +kernel) ⟨Nat.le_of_ble_eq_true rfl, Nat.le_of_ble_eq_true rfl⟩) SUB.nil [] rfl (JN.nil (S := Unit)) rfl rfl (Nat.le_of_ble_eq_true rfl) ⟨cgBld hgc, sgBld hgc⟩ rfl rfl dL_build_23 (fun r4 u H locs er4 hw => ?_)
    have h := h.2
    subst er4
    refine lv_iconst (pc := 26) (v := (2 : Int32)) hx hb dL_build_26 (by decide) ?_
    refine lv_ishr (pc := 27) hx hb dL_build_27 ?_
    refine lv_bipush (pc := 28) (v := (12 : Int32)) hx hb dL_build_28 (by decide) ?_
    refine callSi (pc := 30) (rest := [.int (2 : Int32)]) (c1 := k0) (s1 := 150 * k0) cx hw hl (metL_below l D [] H.size ((clI sl xs (0 : Int32)) >>> ((2 : Int32) &&& 31)) (12 : Int32) _ h) (fun hts => va_cwS 2 hts gL_build_L_below rfl rfl rfl (by decide +kernel) ⟨Nat.le_of_ble_eq_true rfl, Nat.le_of_ble_eq_true rfl⟩) SUB.nil [] rfl (JN.nil (S := Unit)) rfl rfl (Nat.le_of_ble_eq_true rfl) ⟨cgBld hgc, sgBld hgc⟩ rfl rfl dL_build_30 (fun r5 u H locs h hw => ?_)
    refine lv_iadd (pc := 33) hx hb dL_build_33 ?_
    refine lv_istore_n (pc := 34) (lv' := [(3, .int ((2 : Int32) + r5)), (0, .ref xa), (1, .ref b), (2, .ref sa)]) hx hb dL_build_34 rfl hl (by decide) rfl (fun ls hl => ?_)
    refine lv_iload_n (pc := 35) hx hb dL_build_35 rfl (lv_at hl 0 rfl) ?_
    have hgc : k0 + 1 ≤ gBld := h.2.2.1
    refine newT (pc := 36) (N' := ((2 : Int32) + r5).toNatClampNeg) cx (hts _ kL_build_w_arrayClass__int) hw 0 rfl h.1 rfl h.2.1 h.2.2.1 rgBld dL_build_36 (fun q6 H hw => ?_)
    have h := h.2.2.2
    have hw : WS D s A0 ((wD xa ad ad2 cI cZ A V A2 V2 ++ [(q6, .inl (cI, ((2 : Int32) + r5).toNatClampNeg, .inl (fun _ => 0)))]) ++ simW cI cII sa ta ba da la sc so LB LD) _ _ := WS.eqw hw (congrArg (· ++ _) (List.append_assoc _ _ _))
    refine lv_astore (pc := 38) (lv' := [(4, .ref q6), (3, .int ((2 : Int32) + r5)), (0, .ref xa), (1, .ref b), (2, .ref sa)]) hx hb dL_build_38 hl (by decide) rfl (fun ls hl => ?_)
    refine lv_iconst (pc := 40) (v := (0 : Int32)) hx hb dL_build_40 (by decide) ?_
    refine lv_istore (pc := 41) (lv' := [(5, .int (0 : Int32)), (4, .ref q6), (3, .int ((2 : Int32) + r5)), (0, .ref xa), (1, .ref b), (2, .ref sa)]) hx hb dL_build_41 hl (by decide) rfl (fun ls hl => ?_)
    obtain ⟨n43, h⟩ := h
    exact wk_L_build_43  cx hFF hsl hret  n43 (k0 + 1) A V A2 V2 nB hB nD hD (fun _ => 0) ((2 : Int32) + r5) (0 : Int32) h hgc ta ba da la sc so LB LD hB9 hD9 q6 _ _ _ hw (lv_sub hl [3, 4, 5, 2, 1, 0] rfl)
end BLD
