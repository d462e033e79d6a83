section LAW
variable {p : Program} {l : Launch} {e : Env} {s : State} {m : MethodId} {args : Array Value} {below : List Frame} {meth : Method} {c : Code} {A0 : Nat → Prop} {Z : State → Prop} {D : va_G} {cI cZ cII : ClassId} {ad ad2 : Nat → Nat} {xa sa b sl : Nat} {xs : Nat → Int32}
variable {ta ba da la o0 o1 o2 nB nD : Nat} {sc so : Int32} {LB LD : ROWS} {hB hD : Nat → Int32}
theorem inL_law_X7 : ∀ w ∈ wsX70, w ∈ wsL_law := by decide +kernel
theorem kL_law_w_arrayClass__int : Cond.arrayClass .int ∈ wsL_law := by decide +kernel
theorem kL_law_w_fieldLink_RL_38__DrownedPostLaw_Sim___bins_____I_ : Cond.fieldLink RL 38 "DrownedPostLaw$Sim" "bins" "[[I" ∈ wsL_law := by decide +kernel
theorem kL_law_w_fieldLink_RL_50__DrownedPostLaw_Sim___drowned_____I_ : Cond.fieldLink RL 50 "DrownedPostLaw$Sim" "drowned" "[[I" ∈ wsL_law := by decide +kernel
def wl_L_law_1000 (cl : Int32 → Int32) (nB nD : Nat) (hB hD : Nat → Int32) (K46 : Nat → SA → SV → SA → SV → SA → Int32 → Int32 → Prop) : Nat → Nat → SA → SV → SA → SV → SA → Int32 → Int32 → Int32 → Int32 → Prop
  | 0, _, _, _, _, _, _, _, _, _, _ => False
  | n + 1, k0, A, V, A2, V2, L, x6, x7, x12, x18 => ((x12 ≤ x18 → K46 k0 A V A2 V2 L x12 (x7 + 1)) ∧ (¬ (x12 ≤ x18) → (wpX5_letter A V A2 V2 x18 (3 : Int32) (fun r271 A_272 V_273 A_274 V_275 => (vp_in x18 150 ∧ (∀ L_276 : SA, L_276 = up L 0 x18.toNatClampNeg r271 → (wpX5_letter A_272 V_273 A_274 V_275 x18 (4 : Int32) (fun r277 A_278 V_279 A_280 V_281 => (vp_in x18 150 ∧ (∀ L_282 : SA, L_282 = up L_276 1 x18.toNatClampNeg r277 → wl_L_law_1000 cl nB nD hB hD K46 n k0 A_278 V_279 A_280 V_281 L_282 x6 x7 x12 (x18 + 1)))))))))))
set_option maxHeartbeats 8000000 in
set_option maxRecDepth 100000 in
theorem wk_L_law_1000 (K46 : Nat → SA → SV → SA → SV → SA → Int32 → Int32 → Prop) (cx : CX RL cL_law 21 wsL_law D [(cI, .int), (cZ, .boolean), (cII, .array .int)] p s m args c A0) (hFX : FX b sl xs A0 s) (hsl : sl ≤ 260) (hret : ∀ (ls : Array Slot) (ws : va_W) (H : Heap) (locs : List Loc) (k0 : Nat), k0 ≤ gLaw → WS D s A0 ws H locs → W p l e room_1 s m args below meth c H locs k0 (150 * k0) Z (F0 m 1047 ls [.int 1])) (hB9 : RW nB hB LB) (hD9 : RW nD hD LD) (hK46 : ∀ (k0 : Nat) (A : SA) (V : SV) (A2 : SA) (V2 : SV) (L : SA) (x6 : Int32) (x7 : Int32) (h : K46 k0 A V A2 V2 L x6 x7) (hgc : k0 ≤ gLaw)  (H : Heap) (locs : List Loc) (ls : Array Slot) (hw : WS D s A0 ((wD xa ad ad2 cI cZ A V A2 V2 ++ [(o0, .inl (cI, 150, .inl (L 0))), (o1, .inl (cI, 150, .inl (L 1))), (o2, .inl (cI, 150, .inl (L 2)))]) ++ simW cI cII sa ta ba da la sc so LB LD) H locs) (hl : lv_has ls 21 [(0, .ref b), (1, .ref xa), (2, .ref sa), (3, .ref o0), (4, .ref o1), (5, .ref o2), (6, .int x6), (7, .int x7)]), W p l e room_1 s m args below meth c H locs k0 (150 * k0) Z (F0 m 46 ls [])) : ∀ (n : Nat) (k0 : Nat) (A : SA) (V : SV) (A2 : SA) (V2 : SV) (L : SA) (x6 : Int32) (x7 : Int32) (x12 : Int32) (x18 : Int32) (h : wl_L_law_1000 (clI sl xs) nB nD hB hD K46 n k0 A V A2 V2 L x6 x7 x12 x18) (hgc : k0 ≤ gLaw) (q3 : Nat) (q4 : Nat) (H : Heap) (locs : List Loc) (ls : Array Slot) (hw : WS D s A0 ((wD xa ad ad2 cI cZ A V A2 V2 ++ [(o0, .inl (cI, 150, .inl (L 0))), (o1, .inl (cI, 150, .inl (L 1))), (o2, .inl (cI, 150, .inl (L 2))), (q3, .inl (cI, (x6).toNatClampNeg, .inl (L 3))), (q4, .inl (cI, 6, .inl (L 4)))]) ++ simW cI cII sa ta ba da la sc so LB LD) H locs) (hl : lv_has ls 21 [(0, .ref b), (1, .ref xa), (2, .ref sa), (3, .ref o0), (4, .ref o1), (5, .ref o2), (6, .int x6), (7, .int x7), (12, .int x12), (18, .int x18)]), W p l e room_1 s m args below meth c H locs k0 (150 * k0) Z (F0 m 1000 ls []) := by
  obtain ⟨hx, hb, hml, hown, hts, hK, hA⟩ := id cx
  intro n
  induction n with
  | zero => intro k0 A V A2 V2 L x6 x7 x12 x18 h; exact False.elim h
  | succ n ih =>
    intro k0 A V A2 V2 L x6 x7 x12 x18 h hgc q3 q4 H locs ls hw hl
    refine lv_iload (pc := 1000) hx hb dL_law_1000 (lv_at hl 9 rfl) ?_
    refine lv_iload (pc := 1002) hx hb dL_law_1002 (lv_at hl 8 rfl) ?_
    refine lv_icmp_ge (pc := 1004) (tgt := 1036) hx hb dL_law_1004 (by decide) (fun c270 => ?_) (fun c270 => ?_)
    · have h := h.1 c270
      refine lv_iload (pc := 1036) hx hb dL_law_1036 (lv_at hl 8 rfl) ?_
      refine lv_istore (pc := 1038) (lv' := [(6, .int x12), (0, .ref b), (1, .ref xa), (2, .ref sa), (3, .ref o0), (4, .ref o1), (5, .ref o2), (7, .int x7), (12, .int x12), (18, .int x18)]) hx hb dL_law_1038 hl (by decide) rfl (fun ls hl => ?_)
      refine lv_iinc (pc := 1040) (v := x7 + 1) (lv' := [(7, .int (x7 + 1)), (6, .int x12), (0, .ref b), (1, .ref xa), (2, .ref sa), (3, .ref o0), (4, .ref o1), (5, .ref o2), (12, .int x12), (18, .int x18)]) hx hb dL_law_1040 hl (k := 7) rfl rfl (by decide) rfl (fun ls hl => ?_)
      refine lv_goto (pc := 1043) (tgt := 46) hx hb dL_law_1043 (by decide) ?_
      have hw : WS D s A0 ((wD xa ad ad2 cI cZ A V A2 V2 ++ [(o0, .inl (cI, 150, .inl (L 0))), (o1, .inl (cI, 150, .inl (L 1))), (o2, .inl (cI, 150, .inl (L 2)))]) ++ simW cI cII sa ta ba da la sc so LB LD) _ _ := WS.sub hw (SUB.appR (SUB.by [0, 1, 2, 3, 4, 5, 6, 7, 8, 9, 10, 11, 12, 13, 14, 15, 16, 17, 18, 19, 20, 21, 22, 23, 24, 25, 26, 27, 28, 29, 30, 31, 32, 33, 34, 35, 36, 37, 38, 39, 40, 41, 42, 43, 44, 45, 46, 47, 48, 49, 50, 51, 52, 53] (by decide) rfl))
      exact hK46 k0 A V A2 V2 L x12 (x7 + 1) h hgc _ _ _ hw (lv_sub hl [2, 3, 4, 5, 6, 7, 1, 0] rfl)
    · have h := h.2 c270
      refine lv_aload_n (pc := 1007) hx hb dL_law_1007 rfl (lv_at hl 3 rfl) ?_
      refine lv_iload (pc := 1008) hx hb dL_law_1008 (lv_at hl 9 rfl) ?_
      refine lv_aload_n (pc := 1010) hx hb dL_law_1010 rfl (lv_at hl 1 rfl) ?_
      refine lv_iload (pc := 1011) hx hb dL_law_1011 (lv_at hl 9 rfl) ?_
      refine lv_iconst (pc := 1013) (v := (3 : Int32)) hx hb dL_law_1013 (by decide) ?_
      refine callVi (pc := 1014) (rest := [.int x18, .ref o0]) (c1 := k0) (s1 := 150 * k0) cx hw hl (metX5_letter l D cI cZ xa ad ad2 H.size A V A2 V2 x18 (3 : Int32) _ h) (fun hts => cwV 2 hts gL_law_X5_letter rfl rfl rfl (by decide +kernel) ⟨Nat.le_of_ble_eq_true rfl, Nat.le_of_ble_eq_true rfl⟩) (SUB.left.trans SUB.left) [0, 1] rfl 0 (ci := 5) rfl rfl rfl (JN.trans SUB.left SUB.left JN.left JN.left) rfl rfl (Nat.le_of_ble_eq_true rfl) ⟨cgLaw hgc, sgLaw hgc⟩ rfl rfl dL_law_1014 (fun r271 u H locs h hw => ?_)
      obtain ⟨A_272, V_273, A_274, V_275⟩ := u
      have hw : WS D s A0 ((wD xa ad ad2 cI cZ A_272 V_273 A_274 V_275 ++ [(o0, .inl (cI, 150, .inl (L 0))), (o1, .inl (cI, 150, .inl (L 1))), (o2, .inl (cI, 150, .inl (L 2))), (q3, .inl (cI, (x6).toNatClampNeg, .inl (L 3))), (q4, .inl (cI, 6, .inl (L 4)))]) ++ simW cI cII sa ta ba da la sc so LB LD) _ _ := hw
      obtain ⟨L_276, eL_276⟩ : ∃ z : SA, z = up L 0 x18.toNatClampNeg r271 := ⟨_, rfl⟩
      refine asI (pc := 1017) cx hw 51 0 (app_l rfl) rfl (i := x18) h.1 (ws1 := ((wD xa ad ad2 cI cZ A_272 V_273 A_274 V_275 ++ [(o0, .inl (cI, 150, .inl (L_276 0))), (o1, .inl (cI, 150, .inl (L_276 1))), (o2, .inl (cI, 150, .inl (L_276 2))), (q3, .inl (cI, (x6).toNatClampNeg, .inl (L_276 3))), (q4, .inl (cI, 6, .inl (L_276 4)))]) ++ simW cI cII sa ta ba da la sc so LB LD)) (set_l (Nat.le_of_ble_eq_true rfl) (by rw [eL_276]; rfl)) dL_law_1017 (fun H locs hw => ?_)
      have h := h.2 L_276 eL_276
      refine lv_aload (pc := 1018) hx hb dL_law_1018 (lv_at hl 4 rfl) ?_
      refine lv_iload (pc := 1020) hx hb dL_law_1020 (lv_at hl 9 rfl) ?_
      refine lv_aload_n (pc := 1022) hx hb dL_law_1022 rfl (lv_at hl 1 rfl) ?_
      refine lv_iload (pc := 1023) hx hb dL_law_1023 (lv_at hl 9 rfl) ?_
      refine lv_iconst (pc := 1025) (v := (4 : Int32)) hx hb dL_law_1025 (by decide) ?_
      refine callVi (pc := 1026) (rest := [.int x18, .ref o1]) (c1 := k0) (s1 := 150 * k0) cx hw hl (metX5_letter l D cI cZ xa ad ad2 H.size A_272 V_273 A_274 V_275 x18 (4 : Int32) _ h) (fun hts => cwV 2 hts gL_law_X5_letter rfl rfl rfl (by decide +kernel) ⟨Nat.le_of_ble_eq_true rfl, Nat.le_of_ble_eq_true rfl⟩) (SUB.left.trans SUB.left) [0, 1] rfl 0 (ci := 5) rfl rfl rfl (JN.trans SUB.left SUB.left JN.left JN.left) rfl rfl (Nat.le_of_ble_eq_true rfl) ⟨cgLaw hgc, sgLaw hgc⟩ rfl rfl dL_law_1026 (fun r277 u H locs h hw => ?_)
      obtain ⟨A_278, V_279, A_280, V_281⟩ := u
      have hw : WS D s A0 ((wD xa ad ad2 cI cZ A_278 V_279 A_280 V_281 ++ [(o0, .inl (cI, 150, .inl (L_276 0))), (o1, .inl (cI, 150, .inl (L_276 1))), (o2, .inl (cI, 150, .inl (L_276 2))), (q3, .inl (cI, (x6).toNatClampNeg, .inl (L_276 3))), (q4, .inl (cI, 6, .inl (L_276 4)))]) ++ simW cI cII sa ta ba da la sc so LB LD) _ _ := hw
      obtain ⟨L_282, eL_282⟩ : ∃ z : SA, z = up L_276 1 x18.toNatClampNeg r277 := ⟨_, rfl⟩
      refine asI (pc := 1029) cx hw 52 0 (app_l rfl) rfl (i := x18) h.1 (ws1 := ((wD xa ad ad2 cI cZ A_278 V_279 A_280 V_281 ++ [(o0, .inl (cI, 150, .inl (L_282 0))), (o1, .inl (cI, 150, .inl (L_282 1))), (o2, .inl (cI, 150, .inl (L_282 2))), (q3, .inl (cI, (x6).toNatClampNeg, .inl (L_282 3))), (q4, .inl (cI, 6, .inl (L_282 4)))]) ++ simW cI cII sa ta ba da la sc so LB LD)) (set_l (Nat.le_of_ble_eq_true rfl) (by rw [eL_282]; rfl)) dL_law_1029 (fun H locs hw => ?_)
      have h := h.2 L_282 eL_282
      refine lv_iinc (pc := 1030) (v := x18 + 1) (lv' := [(18, .int (x18 + 1)), (0, .ref b), (1, .ref xa), (2, .ref sa), (3, .ref o0), (4, .ref o1), (5, .ref o2), (6, .int x6), (7, .int x7), (12, .int x12)]) hx hb dL_law_1030 hl (k := 9) rfl rfl (by decide) rfl (fun ls hl => ?_)
      refine lv_goto (pc := 1033) (tgt := 1000) hx hb dL_law_1033 (by decide) ?_
      exact ih k0 A_278 V_279 A_280 V_281 L_282 x6 x7 x12 (x18 + 1) h hgc q3 q4 _ _ _ hw (lv_sub hl [1, 2, 3, 4, 5, 6, 7, 8, 9, 0] rfl)
def wl_L_law_939 (cl : Int32 → Int32) (nB nD : Nat) (hB hD : Nat → Int32) (K46 : Nat → SA → SV → SA → SV → SA → Int32 → Int32 → Prop) : Nat → Nat → SA → SV → SA → SV → SA → Int32 → Int32 → Int32 → Int32 → Int32 → Prop
  | 0, _, _, _, _, _, _, _, _, _, _, _ => False
  | n + 1, k0, A, V, A2, V2, L, x6, x7, x12, x17, x18 => (((nI nB) ≤ x18 → (vp_in (1 : Int32) 6 ∧ ((x17 = ((L 4) (1 : Int32).toNatClampNeg) → (∃ n1000 : Nat, wl_L_law_1000 cl nB nD hB hD K46 n1000 k0 A V A2 V2 L x6 x7 x12 (0 : Int32))) ∧ (¬ (x17 = ((L 4) (1 : Int32).toNatClampNeg)) → False)))) ∧ (¬ ((nI nB) ≤ x18) → (wpX5_bin A V A2 V2 x18 (2 : Int32) (fun r254 A_255 V_256 A_257 V_258 => (wpX5_bin A_255 V_256 A_257 V_258 x18 (1 : Int32) (fun r259 A_260 V_261 A_262 V_263 => ((r254 ≤ r259 → (wpX5_bin A_260 V_261 A_262 V_263 x18 (2 : Int32) (fun r265 A_266 V_267 A_268 V_269 => wl_L_law_939 cl nB nD hB hD K46 n k0 A_266 V_267 A_268 V_269 L x6 x7 x12 (x17 + r265) (x18 + 1)))) ∧ (¬ (r254 ≤ r259) → False))))))))
set_option maxHeartbeats 8000000 in
set_option maxRecDepth 100000 in
theorem wk_L_law_939 (K46 : Nat → SA → SV → SA → SV → SA → Int32 → Int32 → Prop) (cx : CX RL cL_law 21 wsL_law D [(cI, .int), (cZ, .boolean), (cII, .array .int)] p s m args c A0) (hFX : FX b sl xs A0 s) (hsl : sl ≤ 260) (hret : ∀ (ls : Array Slot) (ws : va_W) (H : Heap) (locs : List Loc) (k0 : Nat), k0 ≤ gLaw → WS D s A0 ws H locs → W p l e room_1 s m args below meth c H locs k0 (150 * k0) Z (F0 m 1047 ls [.int 1])) (hB9 : RW nB hB LB) (hD9 : RW nD hD LD) (hK46 : ∀ (k0 : Nat) (A : SA) (V : SV) (A2 : SA) (V2 : SV) (L : SA) (x6 : Int32) (x7 : Int32) (h : K46 k0 A V A2 V2 L x6 x7) (hgc : k0 ≤ gLaw)  (H : Heap) (locs : List Loc) (ls : Array Slot) (hw : WS D s A0 ((wD xa ad ad2 cI cZ A V A2 V2 ++ [(o0, .inl (cI, 150, .inl (L 0))), (o1, .inl (cI, 150, .inl (L 1))), (o2, .inl (cI, 150, .inl (L 2)))]) ++ simW cI cII sa ta ba da la sc so LB LD) H locs) (hl : lv_has ls 21 [(0, .ref b), (1, .ref xa), (2, .ref sa), (3, .ref o0), (4, .ref o1), (5, .ref o2), (6, .int x6), (7, .int x7)]), W p l e room_1 s m args below meth c H locs k0 (150 * k0) Z (F0 m 46 ls [])) : ∀ (n : Nat) (k0 : Nat) (A : SA) (V : SV) (A2 : SA) (V2 : SV) (L : SA) (x6 : Int32) (x7 : Int32) (x12 : Int32) (x17 : Int32) (x18 : Int32) (h : wl_L_law_939 (clI sl xs) nB nD hB hD K46 n k0 A V A2 V2 L x6 x7 x12 x17 x18) (hgc : k0 ≤ gLaw) (q3 : Nat) (q4 : Nat) (H : Heap) (locs : List Loc) (ls : Array Slot) (hw : WS D s A0 ((wD xa ad ad2 cI cZ A V A2 V2 ++ [(o0, .inl (cI, 150, .inl (L 0))), (o1, .inl (cI, 150, .inl (L 1))), (o2, .inl (cI, 150, .inl (L 2))), (q3, .inl (cI, (x6).toNatClampNeg, .inl (L 3))), (q4, .inl (cI, 6, .inl (L 4)))]) ++ simW cI cII sa ta ba da la sc so LB LD) H locs) (hl : lv_has ls 21 [(0, .ref b), (1, .ref xa), (2, .ref sa), (3, .ref o0), (4, .ref o1), (5, .ref o2), (6, .int x6), (7, .int x7), (12, .int x12), (13, .ref q4), (17, .int x17), (18, .int x18)]), W p l e room_1 s m args below meth c H locs k0 (150 * k0) Z (F0 m 939 ls []) := by
  obtain ⟨hx, hb, hml, hown, hts, hK, hA⟩ := id cx
  intro n
  induction n with
  | zero => intro k0 A V A2 V2 L x6 x7 x12 x17 x18 h; exact False.elim h
  | succ n ih =>
    intro k0 A V A2 V2 L x6 x7 x12 x17 x18 h hgc q3 q4 H locs ls hw hl
    refine lv_iload (pc := 939) hx hb dL_law_939 (lv_at hl 11 rfl) ?_
    refine lv_aload_n (pc := 941) hx hb dL_law_941 rfl (lv_at hl 2 rfl) ?_
    refine geF (pc := 942) (C := RX7) (T := TX7) (N := 7) (ci := 6) cx inL_law_X7 rfl 2 (by decide) kL_law_w_fieldLink_RL_38__DrownedPostLaw_Sim___bins_____I_ hw _ (app_r (k := 0) rfl) rfl dL_law_942 ?_
    refine alenG (pc := 945) cx hw _ 2 (app_r (k := 1) rfl) rfl (v := nI nB) (congrArg nI hB9.1) dL_law_945 ?_
    refine lv_icmp_ge (pc := 946) (tgt := 986) hx hb dL_law_946 (by decide) (fun c252 => ?_) (fun c252 => ?_)
    · have h := h.1 c252
      refine lv_iload (pc := 986) hx hb dL_law_986 (lv_at hl 10 rfl) ?_
      refine lv_aload (pc := 988) hx hb dL_law_988 (lv_at hl 9 rfl) ?_
      refine lv_iconst (pc := 990) (v := (1 : Int32)) hx hb dL_law_990 (by decide) ?_
      refine alI (pc := 991) cx hw 55 0 (app_l rfl) rfl h.1 dL_law_991 ?_
      have h := h.2
      refine lv_icmp_eq (pc := 992) (tgt := 997) hx hb dL_law_992 (by decide) (fun c253 => ?_) (fun c253 => ?_)
      · have h := h.1 c253
        refine lv_iconst (pc := 997) (v := (0 : Int32)) hx hb dL_law_997 (by decide) ?_
        refine lv_istore (pc := 998) (lv' := [(18, .int (0 : Int32)), (0, .ref b), (1, .ref xa), (2, .ref sa), (3, .ref o0), (4, .ref o1), (5, .ref o2), (6, .int x6), (7, .int x7), (12, .int x12), (13, .ref q4), (17, .int x17)]) hx hb dL_law_998 hl (by decide) rfl (fun ls hl => ?_)
        obtain ⟨n1000, h⟩ := h
        exact wk_L_law_1000 K46 cx hFX hsl hret hB9 hD9 hK46 n1000 k0 A V A2 V2 L x6 x7 x12 (0 : Int32) h hgc q3 q4 _ _ _ hw (lv_sub hl [1, 2, 3, 4, 5, 6, 7, 8, 9, 0] rfl)
      · have h := h.2 c253
        refine lv_iconst (pc := 995) (v := (0 : Int32)) hx hb dL_law_995 (by decide) ?_
        exact False.elim h
    · have h := h.2 c252
      refine lv_aload_n (pc := 949) hx hb dL_law_949 rfl (lv_at hl 1 rfl) ?_
      refine lv_iload (pc := 950) hx hb dL_law_950 (lv_at hl 11 rfl) ?_
      refine lv_iconst (pc := 952) (v := (2 : Int32)) hx hb dL_law_952 (by decide) ?_
      refine callVi (pc := 953) (rest := []) (c1 := k0) (s1 := 150 * k0) cx hw hl (metX5_bin l D cI cZ xa ad ad2 H.size A V A2 V2 x18 (2 : Int32) _ h) (fun hts => cwV 2 hts gL_law_X5_bin rfl rfl rfl (by decide +kernel) ⟨Nat.le_of_ble_eq_true rfl, Nat.le_of_ble_eq_true rfl⟩) (SUB.left.trans SUB.left) [0, 1] rfl 0 (ci := 5) rfl rfl rfl (JN.trans SUB.left SUB.left JN.left JN.left) rfl rfl (Nat.le_of_ble_eq_true rfl) ⟨cgLaw hgc, sgLaw hgc⟩ rfl rfl dL_law_953 (fun r254 u H locs h hw => ?_)
      obtain ⟨A_255, V_256, A_257, V_258⟩ := u
      have hw : WS D s A0 ((wD xa ad ad2 cI cZ A_255 V_256 A_257 V_258 ++ [(o0, .inl (cI, 150, .inl (L 0))), (o1, .inl (cI, 150, .inl (L 1))), (o2, .inl (cI, 150, .inl (L 2))), (q3, .inl (cI, (x6).toNatClampNeg, .inl (L 3))), (q4, .inl (cI, 6, .inl (L 4)))]) ++ simW cI cII sa ta ba da la sc so LB LD) _ _ := hw
      refine lv_aload_n (pc := 956) hx hb dL_law_956 rfl (lv_at hl 1 rfl) ?_
      refine lv_iload (pc := 957) hx hb dL_law_957 (lv_at hl 11 rfl) ?_
      refine lv_iconst (pc := 959) (v := (1 : Int32)) hx hb dL_law_959 (by decide) ?_
      refine callVi (pc := 960) (rest := [.int r254]) (c1 := k0) (s1 := 150 * k0) cx hw hl (metX5_bin l D cI cZ xa ad ad2 H.size A_255 V_256 A_257 V_258 x18 (1 : Int32) _ h) (fun hts => cwV 2 hts gL_law_X5_bin rfl rfl rfl (by decide +kernel) ⟨Nat.le_of_ble_eq_true rfl, Nat.le_of_ble_eq_true rfl⟩) (SUB.left.trans SUB.left) [0, 1] rfl 0 (ci := 5) rfl rfl rfl (JN.trans SUB.left SUB.left JN.left JN.left) rfl rfl (Nat.le_of_ble_eq_true rfl) ⟨cgLaw hgc, sgLaw hgc⟩ rfl rfl dL_law_960 (fun r259 u H locs h hw => ?_)
      obtain ⟨A_260, V_261, A_262, V_263⟩ := u
      have hw : WS D s A0 ((wD xa ad ad2 cI cZ A_260 V_261 A_262 V_263 ++ [(o0, .inl (cI, 150, .inl (L 0))), (o1, .inl (cI, 150, .inl (L 1))), (o2, .inl (cI, 150, .inl (L 2))), (q3, .inl (cI, (x6).toNatClampNeg, .inl (L 3))), (q4, .inl (cI, 6, .inl (L 4)))]) ++ simW cI cII sa ta ba da la sc so LB LD) _ _ := hw
      refine lv_icmp_le (pc := 963) (tgt := 968) hx hb dL_law_963 (by decide) (fun c264 => ?_) (fun c264 => ?_)
      · have h := h.1 c264
        refine lv_iload (pc := 968) hx hb dL_law_968 (lv_at hl 10 rfl) ?_
        refine lv_aload_n (pc := 970) hx hb dL_law_970 rfl (lv_at hl 1 rfl) ?_
        refine lv_iload (pc := 971) hx hb dL_law_971 (lv_at hl 11 rfl) ?_
        refine lv_iconst (pc := 973) (v := (2 : Int32)) hx hb dL_law_973 (by decide) ?_
        refine callVi (pc := 974) (rest := [.int x17]) (c1 := k0) (s1 := 150 * k0) cx hw hl (metX5_bin l D cI cZ xa ad ad2 H.size A_260 V_261 A_262 V_263 x18 (2 : Int32) _ h) (fun hts => cwV 2 hts gL_law_X5_bin rfl rfl rfl (by decide +kernel) ⟨Nat.le_of_ble_eq_true rfl, Nat.le_of_ble_eq_true rfl⟩) (SUB.left.trans SUB.left) [0, 1] rfl 0 (ci := 5) rfl rfl rfl (JN.trans SUB.left SUB.left JN.left JN.left) rfl rfl (Nat.le_of_ble_eq_true rfl) ⟨cgLaw hgc, sgLaw hgc⟩ rfl rfl dL_law_974 (fun r265 u H locs h hw => ?_)
        obtain ⟨A_266, V_267, A_268, V_269⟩ := u
        have hw : WS D s A0 ((wD xa ad ad2 cI cZ A_266 V_267 A_268 V_269 ++ [(o0, .inl (cI, 150, .inl (L 0))), (o1, .inl (cI, 150, .inl (L 1))), (o2, .inl (cI, 150, .inl (L 2))), (q3, .inl (cI, (x6).toNatClampNeg, .inl (L 3))), (q4, .inl (cI, 6, .inl (L 4)))]) ++ simW cI cII sa ta ba da la sc so LB LD) _ _ := hw
        refine lv_iadd (pc := 977) hx hb dL_law_977 ?_
        refine lv_istore (pc := 978) (lv' := [(17, .int (x17 + r265)), (0, .ref b), (1, .ref xa), (2, .ref sa), (3, .ref o0), (4, .ref o1), (5, .ref o2), (6, .int x6), (7, .int x7), (12, .int x12), (13, .ref q4), (18, .int x18)]) hx hb dL_law_978 hl (by decide) rfl (fun ls hl => ?_)
        refine lv_iinc (pc := 980) (v := x18 + 1) (lv' := [(18, .int (x18 + 1)), (17, .int (x17 + r265)), (0, .ref b), (1, .ref xa), (2, .ref sa), (3, .ref o0), (4, .ref o1), (5, .ref o2), (6, .int x6), (7, .int x7), (12, .int x12), (13, .ref q4)]) hx hb dL_law_980 hl (k := 11) rfl rfl (by decide) rfl (fun ls hl => ?_)
        refine lv_goto (pc := 983) (tgt := 939) hx hb dL_law_983 (by decide) ?_
        exact ih k0 A_266 V_267 A_268 V_269 L x6 x7 x12 (x17 + r265) (x18 + 1) h hgc q3 q4 _ _ _ hw (lv_sub hl [2, 3, 4, 5, 6, 7, 8, 9, 10, 11, 1, 0] rfl)
      · have h := h.2 c264
        refine lv_iconst (pc := 966) (v := (0 : Int32)) hx hb dL_law_966 (by decide) ?_
        exact False.elim h
def wl_L_law_858 (cl : Int32 → Int32) (nB nD : Nat) (hB hD : Nat → Int32) (K46 : Nat → SA → SV → SA → SV → SA → Int32 → Int32 → Prop) : Nat → Nat → SA → SV → SA → SV → SA → Int32 → Int32 → Int32 → Int32 → Int32 → Int32 → Int32 → Int32 → Prop
  | 0, _, _, _, _, _, _, _, _, _, _, _, _, _, _ => False
  | n + 1, k0, A, V, A2, V2, L, x6, x7, x11, x12, x14, x15, x16, x17 => (((6 : Int32) ≤ x17 → ((¬ x16 = x11 → False) ∧ (x16 = x11 → (vp_in (2 : Int32) 6 ∧ ((¬ x14 = ((L 4) (2 : Int32).toNatClampNeg) → False) ∧ (x14 = ((L 4) (2 : Int32).toNatClampNeg) → (vp_in (4 : Int32) 6 ∧ (vp_in (5 : Int32) 6 ∧ ((¬ x15 = (((L 4) (4 : Int32).toNatClampNeg) + ((L 4) (5 : Int32).toNatClampNeg)) → False) ∧ (x15 = (((L 4) (4 : Int32).toNatClampNeg) + ((L 4) (5 : Int32).toNatClampNeg)) → (wpX5_count A V A2 V2 (0 : Int32) (fun r240 A_241 V_242 A_243 V_244 => ((r240 = (x7 + (1 : Int32)) → (∃ n939 : Nat, wl_L_law_939 cl nB nD hB hD K46 n939 k0 A_241 V_242 A_243 V_244 L x6 x7 x12 (0 : Int32) (0 : Int32))) ∧ (¬ (r240 = (x7 + (1 : Int32))) → False)))))))))))))) ∧ (¬ ((6 : Int32) ≤ x17) → (wpX5_count A V A2 V2 ((4 : Int32) + x17) (fun r246 A_247 V_248 A_249 V_250 => (vp_in x17 6 ∧ ((r246 = ((L 4) x17.toNatClampNeg) → wl_L_law_858 cl nB nD hB hD K46 n k0 A_247 V_248 A_249 V_250 L x6 x7 x11 x12 x14 x15 x16 (x17 + 1)) ∧ (¬ (r246 = ((L 4) x17.toNatClampNeg)) → False)))))))
set_option maxHeartbeats 8000000 in
set_option maxRecDepth 100000 in
theorem wk_L_law_858 (K46 : Nat → SA → SV → SA → SV → SA → Int32 → Int32 → Prop) (cx : CX RL cL_law 21 wsL_law D [(cI, .int), (cZ, .boolean), (cII, .array .int)] p s m args c A0) (hFX : FX b sl xs A0 s) (hsl : sl ≤ 260) (hret : ∀ (ls : Array Slot) (ws : va_W) (H : Heap) (locs : List Loc) (k0 : Nat), k0 ≤ gLaw → WS D s A0 ws H locs → W p l e room_1 s m args below meth c H locs k0 (150 * k0) Z (F0 m 1047 ls [.int 1])) (hB9 : RW nB hB LB) (hD9 : RW nD hD LD) (hK46 : ∀ (k0 : Nat) (A : SA) (V : SV) (A2 : SA) (V2 : SV) (L : SA) (x6 : Int32) (x7 : Int32) (h : K46 k0 A V A2 V2 L x6 x7) (hgc : k0 ≤ gLaw)  (H : Heap) (locs : List Loc) (ls : Array Slot) (hw : WS D s A0 ((wD xa ad ad2 cI cZ A V A2 V2 ++ [(o0, .inl (cI, 150, .inl (L 0))), (o1, .inl (cI, 150, .inl (L 1))), (o2, .inl (cI, 150, .inl (L 2)))]) ++ simW cI cII sa ta ba da la sc so LB LD) H locs) (hl : lv_has ls 21 [(0, .ref b), (1, .ref xa), (2, .ref sa), (3, .ref o0), (4, .ref o1), (5, .ref o2), (6, .int x6), (7, .int x7)]), W p l e room_1 s m args below meth c H locs k0 (150 * k0) Z (F0 m 46 ls [])) : ∀ (n : Nat) (k0 : Nat) (A : SA) (V : SV) (A2 : SA) (V2 : SV) (L : SA) (x6 : Int32) (x7 : Int32) (x11 : Int32) (x12 : Int32) (x14 : Int32) (x15 : Int32) (x16 : Int32) (x17 : Int32) (h : wl_L_law_858 (clI sl xs) nB nD hB hD K46 n k0 A V A2 V2 L x6 x7 x11 x12 x14 x15 x16 x17) (hgc : k0 ≤ gLaw) (q3 : Nat) (q4 : Nat) (H : Heap) (locs : List Loc) (ls : Array Slot) (hw : WS D s A0 ((wD xa ad ad2 cI cZ A V A2 V2 ++ [(o0, .inl (cI, 150, .inl (L 0))), (o1, .inl (cI, 150, .inl (L 1))), (o2, .inl (cI, 150, .inl (L 2))), (q3, .inl (cI, (x6).toNatClampNeg, .inl (L 3))), (q4, .inl (cI, 6, .inl (L 4)))]) ++ simW cI cII sa ta ba da la sc so LB LD) H locs) (hl : lv_has ls 21 [(0, .ref b), (1, .ref xa), (2, .ref sa), (3, .ref o0), (4, .ref o1), (5, .ref o2), (6, .int x6), (7, .int x7), (11, .int x11), (12, .int x12), (13, .ref q4), (14, .int x14), (15, .int x15), (16, .int x16), (17, .int x17)]), W p l e room_1 s m args below meth c H locs k0 (150 * k0) Z (F0 m 858 ls []) := by
  obtain ⟨hx, hb, hml, hown, hts, hK, hA⟩ := id cx
  intro n
  induction n with
  | zero => intro k0 A V A2 V2 L x6 x7 x11 x12 x14 x15 x16 x17 h; exact False.elim h
  | succ n ih =>
    intro k0 A V A2 V2 L x6 x7 x11 x12 x14 x15 x16 x17 h hgc q3 q4 H locs ls hw hl
    refine lv_iload (pc := 858) hx hb dL_law_858 (lv_at hl 14 rfl) ?_
    refine lv_bipush (pc := 860) (v := (6 : Int32)) hx hb dL_law_860 (by decide) ?_
    refine lv_icmp_ge (pc := 862) (tgt := 889) hx hb dL_law_862 (by decide) (fun c236 => ?_) (fun c236 => ?_)
    · have h := h.1 c236
      refine lv_iload (pc := 889) hx hb dL_law_889 (lv_at hl 13 rfl) ?_
      refine lv_iload (pc := 891) hx hb dL_law_891 (lv_at hl 8 rfl) ?_
      refine lv_icmp_ne (pc := 893) (tgt := 931) hx hb dL_law_893 (by decide) (fun c237 => ?_) (fun c237 => ?_)
      · have h := h.1 c237
        refine lv_iconst (pc := 931) (v := (0 : Int32)) hx hb dL_law_931 (by decide) ?_
        exact False.elim h
      · have h := h.2 c237
        refine lv_iload (pc := 896) hx hb dL_law_896 (lv_at hl 11 rfl) ?_
        refine lv_aload (pc := 898) hx hb dL_law_898 (lv_at hl 10 rfl) ?_
        refine lv_iconst (pc := 900) (v := (2 : Int32)) hx hb dL_law_900 (by decide) ?_
        refine alI (pc := 901) cx hw 55 0 (app_l rfl) rfl h.1 dL_law_901 ?_
        have h := h.2
        refine lv_icmp_ne (pc := 902) (tgt := 931) hx hb dL_law_902 (by decide) (fun c238 => ?_) (fun c238 => ?_)
        · have h := h.1 c238
          refine lv_iconst (pc := 931) (v := (0 : Int32)) hx hb dL_law_931 (by decide) ?_
          exact False.elim h
        · have h := h.2 c238
          refine lv_iload (pc := 905) hx hb dL_law_905 (lv_at hl 12 rfl) ?_
          refine lv_aload (pc := 907) hx hb dL_law_907 (lv_at hl 10 rfl) ?_
          refine lv_iconst (pc := 909) (v := (4 : Int32)) hx hb dL_law_909 (by decide) ?_
          refine alI (pc := 910) cx hw 55 0 (app_l rfl) rfl h.1 dL_law_910 ?_
          have h := h.2
          refine lv_aload (pc := 911) hx hb dL_law_911 (lv_at hl 10 rfl) ?_
          refine lv_iconst (pc := 913) (v := (5 : Int32)) hx hb dL_law_913 (by decide) ?_
          refine alI (pc := 914) cx hw 55 0 (app_l rfl) rfl h.1 dL_law_914 ?_
          have h := h.2
          refine lv_iadd (pc := 915) hx hb dL_law_915 ?_
          refine lv_icmp_ne (pc := 916) (tgt := 931) hx hb dL_law_916 (by decide) (fun c239 => ?_) (fun c239 => ?_)
          · have h := h.1 c239
            refine lv_iconst (pc := 931) (v := (0 : Int32)) hx hb dL_law_931 (by decide) ?_
            exact False.elim h
          · have h := h.2 c239
            refine lv_aload_n (pc := 919) hx hb dL_law_919 rfl (lv_at hl 1 rfl) ?_
            refine lv_iconst (pc := 920) (v := (0 : Int32)) hx hb dL_law_920 (by decide) ?_
            refine callVi (pc := 921) (rest := []) (c1 := k0) (s1 := 150 * k0) cx hw hl (metX5_count l D cI cZ xa ad ad2 H.size A V A2 V2 (0 : Int32) _ h) (fun hts => cwV 1 hts gL_law_X5_count rfl rfl rfl (by decide +kernel) ⟨Nat.le_of_ble_eq_true rfl, Nat.le_of_ble_eq_true rfl⟩) (SUB.left.trans SUB.left) [0, 1] rfl 0 (ci := 5) rfl rfl rfl (JN.trans SUB.left SUB.left JN.left JN.left) rfl rfl (Nat.le_of_ble_eq_true rfl) ⟨cgLaw hgc, sgLaw hgc⟩ rfl rfl dL_law_921 (fun r240 u H locs h hw => ?_)
            obtain ⟨A_241, V_242, A_243, V_244⟩ := u
            have hw : WS D s A0 ((wD xa ad ad2 cI cZ A_241 V_242 A_243 V_244 ++ [(o0, .inl (cI, 150, .inl (L 0))), (o1, .inl (cI, 150, .inl (L 1))), (o2, .inl (cI, 150, .inl (L 2))), (q3, .inl (cI, (x6).toNatClampNeg, .inl (L 3))), (q4, .inl (cI, 6, .inl (L 4)))]) ++ simW cI cII sa ta ba da la sc so LB LD) _ _ := hw
            refine lv_iload (pc := 924) hx hb dL_law_924 (lv_at hl 7 rfl) ?_
            refine lv_iconst (pc := 926) (v := (1 : Int32)) hx hb dL_law_926 (by decide) ?_
            refine lv_iadd (pc := 927) hx hb dL_law_927 ?_
            refine lv_icmp_eq (pc := 928) (tgt := 933) hx hb dL_law_928 (by decide) (fun c245 => ?_) (fun c245 => ?_)
            · have h := h.1 c245
              refine lv_iconst (pc := 933) (v := (0 : Int32)) hx hb dL_law_933 (by decide) ?_
              refine lv_istore (pc := 934) (lv' := [(17, .int (0 : Int32)), (0, .ref b), (1, .ref xa), (2, .ref sa), (3, .ref o0), (4, .ref o1), (5, .ref o2), (6, .int x6), (7, .int x7), (11, .int x11), (12, .int x12), (13, .ref q4), (14, .int x14), (15, .int x15), (16, .int x16)]) hx hb dL_law_934 hl (by decide) rfl (fun ls hl => ?_)
              refine lv_iconst (pc := 936) (v := (0 : Int32)) hx hb dL_law_936 (by decide) ?_
              refine lv_istore (pc := 937) (lv' := [(18, .int (0 : Int32)), (17, .int (0 : Int32)), (0, .ref b), (1, .ref xa), (2, .ref sa), (3, .ref o0), (4, .ref o1), (5, .ref o2), (6, .int x6), (7, .int x7), (11, .int x11), (12, .int x12), (13, .ref q4), (14, .int x14), (15, .int x15), (16, .int x16)]) hx hb dL_law_937 hl (by decide) rfl (fun ls hl => ?_)
              obtain ⟨n939, h⟩ := h
              exact wk_L_law_939 K46 cx hFX hsl hret hB9 hD9 hK46 n939 k0 A_241 V_242 A_243 V_244 L x6 x7 x12 (0 : Int32) (0 : Int32) h hgc q3 q4 _ _ _ hw (lv_sub hl [2, 3, 4, 5, 6, 7, 8, 9, 11, 12, 1, 0] rfl)
            · have h := h.2 c245
              refine lv_iconst (pc := 931) (v := (0 : Int32)) hx hb dL_law_931 (by decide) ?_
              exact False.elim h
    · have h := h.2 c236
      refine lv_aload_n (pc := 865) hx hb dL_law_865 rfl (lv_at hl 1 rfl) ?_
      refine lv_iconst (pc := 866) (v := (4 : Int32)) hx hb dL_law_866 (by decide) ?_
      refine lv_iload (pc := 867) hx hb dL_law_867 (lv_at hl 14 rfl) ?_
      refine lv_iadd (pc := 869) hx hb dL_law_869 ?_
      refine callVi (pc := 870) (rest := []) (c1 := k0) (s1 := 150 * k0) cx hw hl (metX5_count l D cI cZ xa ad ad2 H.size A V A2 V2 ((4 : Int32) + x17) _ h) (fun hts => cwV 1 hts gL_law_X5_count rfl rfl rfl (by decide +kernel) ⟨Nat.le_of_ble_eq_true rfl, Nat.le_of_ble_eq_true rfl⟩) (SUB.left.trans SUB.left) [0, 1] rfl 0 (ci := 5) rfl rfl rfl (JN.trans SUB.left SUB.left JN.left JN.left) rfl rfl (Nat.le_of_ble_eq_true rfl) ⟨cgLaw hgc, sgLaw hgc⟩ rfl rfl dL_law_870 (fun r246 u H locs h hw => ?_)
      obtain ⟨A_247, V_248, A_249, V_250⟩ := u
      have hw : WS D s A0 ((wD xa ad ad2 cI cZ A_247 V_248 A_249 V_250 ++ [(o0, .inl (cI, 150, .inl (L 0))), (o1, .inl (cI, 150, .inl (L 1))), (o2, .inl (cI, 150, .inl (L 2))), (q3, .inl (cI, (x6).toNatClampNeg, .inl (L 3))), (q4, .inl (cI, 6, .inl (L 4)))]) ++ simW cI cII sa ta ba da la sc so LB LD) _ _ := hw
      refine lv_aload (pc := 873) hx hb dL_law_873 (lv_at hl 10 rfl) ?_
      refine lv_iload (pc := 875) hx hb dL_law_875 (lv_at hl 14 rfl) ?_
      refine alI (pc := 877) cx hw 55 0 (app_l rfl) rfl h.1 dL_law_877 ?_
      have h := h.2
      refine lv_icmp_eq (pc := 878) (tgt := 883) hx hb dL_law_878 (by decide) (fun c251 => ?_) (fun c251 => ?_)
      · have h := h.1 c251
        refine lv_iinc (pc := 883) (v := x17 + 1) (lv' := [(17, .int (x17 + 1)), (0, .ref b), (1, .ref xa), (2, .ref sa), (3, .ref o0), (4, .ref o1), (5, .ref o2), (6, .int x6), (7, .int x7), (11, .int x11), (12, .int x12), (13, .ref q4), (14, .int x14), (15, .int x15), (16, .int x16)]) hx hb dL_law_883 hl (k := 14) rfl rfl (by decide) rfl (fun ls hl => ?_)
        refine lv_goto (pc := 886) (tgt := 858) hx hb dL_law_886 (by decide) ?_
        exact ih k0 A_247 V_248 A_249 V_250 L x6 x7 x11 x12 x14 x15 x16 (x17 + 1) h hgc q3 q4 _ _ _ hw (lv_sub hl [1, 2, 3, 4, 5, 6, 7, 8, 9, 10, 11, 12, 13, 14, 0] rfl)
      · have h := h.2 c251
        refine lv_iconst (pc := 881) (v := (0 : Int32)) hx hb dL_law_881 (by decide) ?_
        exact False.elim h
def wb_L_law_814 (cl : Int32 → Int32) (nB nD : Nat) (hB hD : Nat → Int32) (K46 : Nat → SA → SV → SA → SV → SA → Int32 → Int32 → Prop) (K731 : Nat → SA → SV → SA → SV → SA → Int32 → Int32 → Int32 → Int32 → Int32 → Int32 → Int32 → Int32 → Prop) (k0 : Nat) (A : SA) (V : SV) (A2 : SA) (V2 : SV) (L : SA) (x6 : Int32) (x7 : Int32) (x11 : Int32) (x12 : Int32) (x14 : Int32) (x15 : Int32) (x16 : Int32) (x17 : Int32) (x18 : Int32) : Prop := ((x18 ≤ 0 → K731 k0 A V A2 V2 L x6 x7 x11 x12 x14 x15 x16 (x17 + 1)) ∧ (¬ (x18 ≤ 0) → (((150 : Int32) ≤ x12 → K731 k0 A V A2 V2 L x6 x7 x11 x12 x14 x15 x16 (x17 + 1)) ∧ (¬ ((150 : Int32) ≤ x12) → (wpX5_drowned A V A2 V2 x17 (4 : Int32) (fun r225 A_226 V_227 A_228 V_229 => (wpX5_drowned A_226 V_227 A_228 V_229 x17 (3 : Int32) (fun r230 A_231 V_232 A_233 V_234 => (¬ x18 = 0 ∧ ((r225 = (r230 / x18) → K731 k0 A_231 V_232 A_233 V_234 L x6 x7 x11 x12 x14 x15 x16 (x17 + 1)) ∧ (¬ (r225 = (r230 / x18)) → False)))))))))))
set_option maxHeartbeats 8000000 in
set_option maxRecDepth 100000 in
theorem wk_L_law_814 (K46 : Nat → SA → SV → SA → SV → SA → Int32 → Int32 → Prop) (K731 : Nat → SA → SV → SA → SV → SA → Int32 → Int32 → Int32 → Int32 → Int32 → Int32 → Int32 → Int32 → Prop) (cx : CX RL cL_law 21 wsL_law D [(cI, .int), (cZ, .boolean), (cII, .array .int)] p s m args c A0) (hFX : FX b sl xs A0 s) (hsl : sl ≤ 260) (hret : ∀ (ls : Array Slot) (ws : va_W) (H : Heap) (locs : List Loc) (k0 : Nat), k0 ≤ gLaw → WS D s A0 ws H locs → W p l e room_1 s m args below meth c H locs k0 (150 * k0) Z (F0 m 1047 ls [.int 1])) (hB9 : RW nB hB LB) (hD9 : RW nD hD LD) (hK46 : ∀ (k0 : Nat) (A : SA) (V : SV) (A2 : SA) (V2 : SV) (L : SA) (x6 : Int32) (x7 : Int32) (h : K46 k0 A V A2 V2 L x6 x7) (hgc : k0 ≤ gLaw)  (H : Heap) (locs : List Loc) (ls : Array Slot) (hw : WS D s A0 ((wD xa ad ad2 cI cZ A V A2 V2 ++ [(o0, .inl (cI, 150, .inl (L 0))), (o1, .inl (cI, 150, .inl (L 1))), (o2, .inl (cI, 150, .inl (L 2)))]) ++ simW cI cII sa ta ba da la sc so LB LD) H locs) (hl : lv_has ls 21 [(0, .ref b), (1, .ref xa), (2, .ref sa), (3, .ref o0), (4, .ref o1), (5, .ref o2), (6, .int x6), (7, .int x7)]), W p l e room_1 s m args below meth c H locs k0 (150 * k0) Z (F0 m 46 ls [])) (hK731 : ∀ (k0 : Nat) (A : SA) (V : SV) (A2 : SA) (V2 : SV) (L : SA) (x6 : Int32) (x7 : Int32) (x11 : Int32) (x12 : Int32) (x14 : Int32) (x15 : Int32) (x16 : Int32) (x17 : Int32) (h : K731 k0 A V A2 V2 L x6 x7 x11 x12 x14 x15 x16 x17) (hgc : k0 ≤ gLaw) (q3 : Nat) (q4 : Nat) (H : Heap) (locs : List Loc) (ls : Array Slot) (hw : WS D s A0 ((wD xa ad ad2 cI cZ A V A2 V2 ++ [(o0, .inl (cI, 150, .inl (L 0))), (o1, .inl (cI, 150, .inl (L 1))), (o2, .inl (cI, 150, .inl (L 2))), (q3, .inl (cI, (x6).toNatClampNeg, .inl (L 3))), (q4, .inl (cI, 6, .inl (L 4)))]) ++ simW cI cII sa ta ba da la sc so LB LD) H locs) (hl : lv_has ls 21 [(0, .ref b), (1, .ref xa), (2, .ref sa), (3, .ref o0), (4, .ref o1), (5, .ref o2), (6, .int x6), (7, .int x7), (11, .int x11), (12, .int x12), (13, .ref q4), (14, .int x14), (15, .int x15), (16, .int x16), (17, .int x17)]), W p l e room_1 s m args below meth c H locs k0 (150 * k0) Z (F0 m 731 ls [])) : ∀ (k0 : Nat) (A : SA) (V : SV) (A2 : SA) (V2 : SV) (L : SA) (x6 : Int32) (x7 : Int32) (x11 : Int32) (x12 : Int32) (x14 : Int32) (x15 : Int32) (x16 : Int32) (x17 : Int32) (x18 : Int32) (h : wb_L_law_814 (clI sl xs) nB nD hB hD K46 K731 k0 A V A2 V2 L x6 x7 x11 x12 x14 x15 x16 x17 x18) (hgc : k0 ≤ gLaw) (q3 : Nat) (q4 : Nat) (H : Heap) (locs : List Loc) (ls : Array Slot) (hw : WS D s A0 ((wD xa ad ad2 cI cZ A V A2 V2 ++ [(o0, .inl (cI, 150, .inl (L 0))), (o1, .inl (cI, 150, .inl (L 1))), (o2, .inl (cI, 150, .inl (L 2))), (q3, .inl (cI, (x6).toNatClampNeg, .inl (L 3))), (q4, .inl (cI, 6, .inl (L 4)))]) ++ simW cI cII sa ta ba da la sc so LB LD) H locs) (hl : lv_has ls 21 [(0, .ref b), (1, .ref xa), (2, .ref sa), (3, .ref o0), (4, .ref o1), (5, .ref o2), (6, .int x6), (7, .int x7), (11, .int x11), (12, .int x12), (13, .ref q4), (14, .int x14), (15, .int x15), (16, .int x16), (17, .int x17), (18, .int x18)]), W p l e room_1 s m args below meth c H locs k0 (150 * k0) Z (F0 m 814 ls []) := by
  obtain ⟨hx, hb, hml, hown, hts, hK, hA⟩ := id cx
  intro k0 A V A2 V2 L x6 x7 x11 x12 x14 x15 x16 x17 x18 h hgc q3 q4 H locs ls hw hl
  refine lv_iload (pc := 814) hx hb dL_law_814 (lv_at hl 15 rfl) ?_
  refine lv_if_le (pc := 816) (tgt := 849) hx hb dL_law_816 (by decide) (fun c223 => ?_) (fun c223 => ?_)
  · have h := h.1 c223
    refine lv_iinc (pc := 849) (v := x17 + 1) (lv' := [(17, .int (x17 + 1)), (0, .ref b), (1, .ref xa), (2, .ref sa), (3, .ref o0), (4, .ref o1), (5, .ref o2), (6, .int x6), (7, .int x7), (11, .int x11), (12, .int x12), (13, .ref q4), (14, .int x14), (15, .int x15), (16, .int x16), (18, .int x18)]) hx hb dL_law_849 hl (k := 14) rfl rfl (by decide) rfl (fun ls hl => ?_)
    refine lv_goto (pc := 852) (tgt := 731) hx hb dL_law_852 (by decide) ?_
    exact hK731 k0 A V A2 V2 L x6 x7 x11 x12 x14 x15 x16 (x17 + 1) h hgc q3 q4 _ _ _ hw (lv_sub hl [1, 2, 3, 4, 5, 6, 7, 8, 9, 10, 11, 12, 13, 14, 0] rfl)
  · have h := h.2 c223
    refine lv_iload (pc := 819) hx hb dL_law_819 (lv_at hl 9 rfl) ?_
    refine lv_sipush (pc := 821) (v := (150 : Int32)) hx hb dL_law_821 (by decide) ?_
    refine lv_icmp_ge (pc := 824) (tgt := 849) hx hb dL_law_824 (by decide) (fun c224 => ?_) (fun c224 => ?_)
    · have h := h.1 c224
      refine lv_iinc (pc := 849) (v := x17 + 1) (lv' := [(17, .int (x17 + 1)), (0, .ref b), (1, .ref xa), (2, .ref sa), (3, .ref o0), (4, .ref o1), (5, .ref o2), (6, .int x6), (7, .int x7), (11, .int x11), (12, .int x12), (13, .ref q4), (14, .int x14), (15, .int x15), (16, .int x16), (18, .int x18)]) hx hb dL_law_849 hl (k := 14) rfl rfl (by decide) rfl (fun ls hl => ?_)
      refine lv_goto (pc := 852) (tgt := 731) hx hb dL_law_852 (by decide) ?_
      exact hK731 k0 A V A2 V2 L x6 x7 x11 x12 x14 x15 x16 (x17 + 1) h hgc q3 q4 _ _ _ hw (lv_sub hl [1, 2, 3, 4, 5, 6, 7, 8, 9, 10, 11, 12, 13, 14, 0] rfl)
    · have h := h.2 c224
      refine lv_aload_n (pc := 827) hx hb dL_law_827 rfl (lv_at hl 1 rfl) ?_
      refine lv_iload (pc := 828) hx hb dL_law_828 (lv_at hl 14 rfl) ?_
      refine lv_iconst (pc := 830) (v := (4 : Int32)) hx hb dL_law_830 (by decide) ?_
      refine callVi (pc := 831) (rest := []) (c1 := k0) (s1 := 150 * k0) cx hw hl (metX5_drowned l D cI cZ xa ad ad2 H.size A V A2 V2 x17 (4 : Int32) _ h) (fun hts => cwV 2 hts gL_law_X5_drowned rfl rfl rfl (by decide +kernel) ⟨Nat.le_of_ble_eq_true rfl, Nat.le_of_ble_eq_true rfl⟩) (SUB.left.trans SUB.left) [0, 1] rfl 0 (ci := 5) rfl rfl rfl (JN.trans SUB.left SUB.left JN.left JN.left) rfl rfl (Nat.le_of_ble_eq_true rfl) ⟨cgLaw hgc, sgLaw hgc⟩ rfl rfl dL_law_831 (fun r225 u H locs h hw => ?_)
      obtain ⟨A_226, V_227, A_228, V_229⟩ := u
      have hw : WS D s A0 ((wD xa ad ad2 cI cZ A_226 V_227 A_228 V_229 ++ [(o0, .inl (cI, 150, .inl (L 0))), (o1, .inl (cI, 150, .inl (L 1))), (o2, .inl (cI, 150, .inl (L 2))), (q3, .inl (cI, (x6).toNatClampNeg, .inl (L 3))), (q4, .inl (cI, 6, .inl (L 4)))]) ++ simW cI cII sa ta ba da la sc so LB LD) _ _ := hw
      refine lv_aload_n (pc := 834) hx hb dL_law_834 rfl (lv_at hl 1 rfl) ?_
      refine lv_iload (pc := 835) hx hb dL_law_835 (lv_at hl 14 rfl) ?_
      refine lv_iconst (pc := 837) (v := (3 : Int32)) hx hb dL_law_837 (by decide) ?_
      refine callVi (pc := 838) (rest := [.int r225]) (c1 := k0) (s1 := 150 * k0) cx hw hl (metX5_drowned l D cI cZ xa ad ad2 H.size A_226 V_227 A_228 V_229 x17 (3 : Int32) _ h) (fun hts => cwV 2 hts gL_law_X5_drowned rfl rfl rfl (by decide +kernel) ⟨Nat.le_of_ble_eq_true rfl, Nat.le_of_ble_eq_true rfl⟩) (SUB.left.trans SUB.left) [0, 1] rfl 0 (ci := 5) rfl rfl rfl (JN.trans SUB.left SUB.left JN.left JN.left) rfl rfl (Nat.le_of_ble_eq_true rfl) ⟨cgLaw hgc, sgLaw hgc⟩ rfl rfl dL_law_838 (fun r230 u H locs h hw => ?_)
      obtain ⟨A_231, V_232, A_233, V_234⟩ := u
      have hw : WS D s A0 ((wD xa ad ad2 cI cZ A_231 V_232 A_233 V_234 ++ [(o0, .inl (cI, 150, .inl (L 0))), (o1, .inl (cI, 150, .inl (L 1))), (o2, .inl (cI, 150, .inl (L 2))), (q3, .inl (cI, (x6).toNatClampNeg, .inl (L 3))), (q4, .inl (cI, 6, .inl (L 4)))]) ++ simW cI cII sa ta ba da la sc so LB LD) _ _ := hw
      refine lv_iload (pc := 841) hx hb dL_law_841 (lv_at hl 15 rfl) ?_
      refine lv_idiv (pc := 843) hx hb dL_law_843 h.1 ?_
      have h := h.2
      refine lv_icmp_eq (pc := 844) (tgt := 849) hx hb dL_law_844 (by decide) (fun c235 => ?_) (fun c235 => ?_)
      · have h := h.1 c235
        refine lv_iinc (pc := 849) (v := x17 + 1) (lv' := [(17, .int (x17 + 1)), (0, .ref b), (1, .ref xa), (2, .ref sa), (3, .ref o0), (4, .ref o1), (5, .ref o2), (6, .int x6), (7, .int x7), (11, .int x11), (12, .int x12), (13, .ref q4), (14, .int x14), (15, .int x15), (16, .int x16), (18, .int x18)]) hx hb dL_law_849 hl (k := 14) rfl rfl (by decide) rfl (fun ls hl => ?_)
        refine lv_goto (pc := 852) (tgt := 731) hx hb dL_law_852 (by decide) ?_
        exact hK731 k0 A_231 V_232 A_233 V_234 L x6 x7 x11 x12 x14 x15 x16 (x17 + 1) h hgc q3 q4 _ _ _ hw (lv_sub hl [1, 2, 3, 4, 5, 6, 7, 8, 9, 10, 11, 12, 13, 14, 0] rfl)
      · have h := h.2 c235
        refine lv_iconst (pc := 847) (v := (0 : Int32)) hx hb dL_law_847 (by decide) ?_
        exact False.elim h
def wb_L_law_789 (cl : Int32 → Int32) (nB nD : Nat) (hB hD : Nat → Int32) (K46 : Nat → SA → SV → SA → SV → SA → Int32 → Int32 → Prop) (K731 : Nat → SA → SV → SA → SV → SA → Int32 → Int32 → Int32 → Int32 → Int32 → Int32 → Int32 → Int32 → Prop) (k0 : Nat) (A : SA) (V : SV) (A2 : SA) (V2 : SV) (L : SA) (x6 : Int32) (x7 : Int32) (x11 : Int32) (x12 : Int32) (x14 : Int32) (x15 : Int32) (x16 : Int32) (x17 : Int32) (x18 : Int32) : Prop := ((x18 ≤ 0 → (wb_L_law_814 cl nB nD hB hD K46 K731 k0 A V A2 V2 L x6 x7 x11 x12 x14 x15 x16 x17 x18)) ∧ (¬ (x18 ≤ 0) → (wpX5_drowned A V A2 V2 x17 (4 : Int32) (fun r212 A_213 V_214 A_215 V_216 => (wpX5_drowned A_213 V_214 A_215 V_216 x17 (3 : Int32) (fun r217 A_218 V_219 A_220 V_221 => (¬ x18 = 0 ∧ (((r217 / x18) < r212 → False) ∧ (¬ ((r217 / x18) < r212) → (wb_L_law_814 cl nB nD hB hD K46 K731 k0 A_218 V_219 A_220 V_221 L x6 x7 x11 x12 x14 x15 x16 x17 x18))))))))))
set_option maxHeartbeats 8000000 in
set_option maxRecDepth 100000 in
theorem wk_L_law_789 (K46 : Nat → SA → SV → SA → SV → SA → Int32 → Int32 → Prop) (K731 : Nat → SA → SV → SA → SV → SA → Int32 → Int32 → Int32 → Int32 → Int32 → Int32 → Int32 → Int32 → Prop) (cx : CX RL cL_law 21 wsL_law D [(cI, .int), (cZ, .boolean), (cII, .array .int)] p s m args c A0) (hFX : FX b sl xs A0 s) (hsl : sl ≤ 260) (hret : ∀ (ls : Array Slot) (ws : va_W) (H : Heap) (locs : List Loc) (k0 : Nat), k0 ≤ gLaw → WS D s A0 ws H locs → W p l e room_1 s m args below meth c H locs k0 (150 * k0) Z (F0 m 1047 ls [.int 1])) (hB9 : RW nB hB LB) (hD9 : RW nD hD LD) (hK46 : ∀ (k0 : Nat) (A : SA) (V : SV) (A2 : SA) (V2 : SV) (L : SA) (x6 : Int32) (x7 : Int32) (h : K46 k0 A V A2 V2 L x6 x7) (hgc : k0 ≤ gLaw)  (H : Heap) (locs : List Loc) (ls : Array Slot) (hw : WS D s A0 ((wD xa ad ad2 cI cZ A V A2 V2 ++ [(o0, .inl (cI, 150, .inl (L 0))), (o1, .inl (cI, 150, .inl (L 1))), (o2, .inl (cI, 150, .inl (L 2)))]) ++ simW cI cII sa ta ba da la sc so LB LD) H locs) (hl : lv_has ls 21 [(0, .ref b), (1, .ref xa), (2, .ref sa), (3, .ref o0), (4, .ref o1), (5, .ref o2), (6, .int x6), (7, .int x7)]), W p l e room_1 s m args below meth c H locs k0 (150 * k0) Z (F0 m 46 ls [])) (hK731 : ∀ (k0 : Nat) (A : SA) (V : SV) (A2 : SA) (V2 : SV) (L : SA) (x6 : Int32) (x7 : Int32) (x11 : Int32) (x12 : Int32) (x14 : Int32) (x15 : Int32) (x16 : Int32) (x17 : Int32) (h : K731 k0 A V A2 V2 L x6 x7 x11 x12 x14 x15 x16 x17) (hgc : k0 ≤ gLaw) (q3 : Nat) (q4 : Nat) (H : Heap) (locs : List Loc) (ls : Array Slot) (hw : WS D s A0 ((wD xa ad ad2 cI cZ A V A2 V2 ++ [(o0, .inl (cI, 150, .inl (L 0))), (o1, .inl (cI, 150, .inl (L 1))), (o2, .inl (cI, 150, .inl (L 2))), (q3, .inl (cI, (x6).toNatClampNeg, .inl (L 3))), (q4, .inl (cI, 6, .inl (L 4)))]) ++ simW cI cII sa ta ba da la sc so LB LD) H locs) (hl : lv_has ls 21 [(0, .ref b), (1, .ref xa), (2, .ref sa), (3, .ref o0), (4, .ref o1), (5, .ref o2), (6, .int x6), (7, .int x7), (11, .int x11), (12, .int x12), (13, .ref q4), (14, .int x14), (15, .int x15), (16, .int x16), (17, .int x17)]), W p l e room_1 s m args below meth c H locs k0 (150 * k0) Z (F0 m 731 ls [])) : ∀ (k0 : Nat) (A : SA) (V : SV) (A2 : SA) (V2 : SV) (L : SA) (x6 : Int32) (x7 : Int32) (x11 : Int32) (x12 : Int32) (x14 : Int32) (x15 : Int32) (x16 : Int32) (x17 : Int32) (x18 : Int32) (h : wb_L_law_789 (clI sl xs) nB nD hB hD K46 K731 k0 A V A2 V2 L x6 x7 x11 x12 x14 x15 x16 x17 x18) (hgc : k0 ≤ gLaw) (q3 : Nat) (q4 : Nat) (H : Heap) (locs : List Loc) (ls : Array Slot) (hw : WS D s A0 ((wD xa ad ad2 cI cZ A V A2 V2 ++ [(o0, .inl (cI, 150, .inl (L 0))), (o1, .inl (cI, 150, .inl (L 1))), (o2, .inl (cI, 150, .inl (L 2))), (q3, .inl (cI, (x6).toNatClampNeg, .inl (L 3))), (q4, .inl (cI, 6, .inl (L 4)))]) ++ simW cI cII sa ta ba da la sc so LB LD) H locs) (hl : lv_has ls 21 [(0, .ref b), (1, .ref xa), (2, .ref sa), (3, .ref o0), (4, .ref o1), (5, .ref o2), (6, .int x6), (7, .int x7), (11, .int x11), (12, .int x12), (13, .ref q4), (14, .int x14), (15, .int x15), (16, .int x16), (17, .int x17), (18, .int x18)]), W p l e room_1 s m args below meth c H locs k0 (150 * k0) Z (F0 m 789 ls []) := by
  obtain ⟨hx, hb, hml, hown, hts, hK, hA⟩ := id cx
  intro k0 A V A2 V2 L x6 x7 x11 x12 x14 x15 x16 x17 x18 h hgc q3 q4 H locs ls hw hl
  refine lv_iload (pc := 789) hx hb dL_law_789 (lv_at hl 15 rfl) ?_
  refine lv_if_le (pc := 791) (tgt := 814) hx hb dL_law_791 (by decide) (fun c211 => ?_) (fun c211 => ?_)
  · have h := h.1 c211
    exact wk_L_law_814 K46 K731 cx hFX hsl hret hB9 hD9 hK46 hK731 k0 A V A2 V2 L x6 x7 x11 x12 x14 x15 x16 x17 x18 h hgc q3 q4 _ _ _ hw (lv_sub hl [0, 1, 2, 3, 4, 5, 6, 7, 8, 9, 10, 11, 12, 13, 14, 15] rfl)
  · have h := h.2 c211
    refine lv_aload_n (pc := 794) hx hb dL_law_794 rfl (lv_at hl 1 rfl) ?_
    refine lv_iload (pc := 795) hx hb dL_law_795 (lv_at hl 14 rfl) ?_
    refine lv_iconst (pc := 797) (v := (4 : Int32)) hx hb dL_law_797 (by decide) ?_
    refine callVi (pc := 798) (rest := []) (c1 := k0) (s1 := 150 * k0) cx hw hl (metX5_drowned l D cI cZ xa ad ad2 H.size A V A2 V2 x17 (4 : Int32) _ h) (fun hts => cwV 2 hts gL_law_X5_drowned rfl rfl rfl (by decide +kernel) ⟨Nat.le_of_ble_eq_true rfl, Nat.le_of_ble_eq_true rfl⟩) (SUB.left.trans SUB.left) [0, 1] rfl 0 (ci := 5) rfl rfl rfl (JN.trans SUB.left SUB.left JN.left JN.left) rfl rfl (Nat.le_of_ble_eq_true rfl) ⟨cgLaw hgc, sgLaw hgc⟩ rfl rfl dL_law_798 (fun r212 u H locs h hw => ?_)
    obtain ⟨A_213, V_214, A_215, V_216⟩ := u
    have hw : WS D s A0 ((wD xa ad ad2 cI cZ A_213 V_214 A_215 V_216 ++ [(o0, .inl (cI, 150, .inl (L 0))), (o1, .inl (cI, 150, .inl (L 1))), (o2, .inl (cI, 150, .inl (L 2))), (q3, .inl (cI, (x6).toNatClampNeg, .inl (L 3))), (q4, .inl (cI, 6, .inl (L 4)))]) ++ simW cI cII sa ta ba da la sc so LB LD) _ _ := hw
    refine lv_aload_n (pc := 801) hx hb dL_law_801 rfl (lv_at hl 1 rfl) ?_
    refine lv_iload (pc := 802) hx hb dL_law_802 (lv_at hl 14 rfl) ?_
    refine lv_iconst (pc := 804) (v := (3 : Int32)) hx hb dL_law_804 (by decide) ?_
    refine callVi (pc := 805) (rest := [.int r212]) (c1 := k0) (s1 := 150 * k0) cx hw hl (metX5_drowned l D cI cZ xa ad ad2 H.size A_213 V_214 A_215 V_216 x17 (3 : Int32) _ h) (fun hts => cwV 2 hts gL_law_X5_drowned rfl rfl rfl (by decide +kernel) ⟨Nat.le_of_ble_eq_true rfl, Nat.le_of_ble_eq_true rfl⟩) (SUB.left.trans SUB.left) [0, 1] rfl 0 (ci := 5) rfl rfl rfl (JN.trans SUB.left SUB.left JN.left JN.left) rfl rfl (Nat.le_of_ble_eq_true rfl) ⟨cgLaw hgc, sgLaw hgc⟩ rfl rfl dL_law_805 (fun r217 u H locs h hw => ?_)
    obtain ⟨A_218, V_219, A_220, V_221⟩ := u
    have hw : WS D s A0 ((wD xa ad ad2 cI cZ A_218 V_219 A_220 V_221 ++ [(o0, .inl (cI, 150, .inl (L 0))), (o1, .inl (cI, 150, .inl (L 1))), (o2, .inl (cI, 150, .inl (L 2))), (q3, .inl (cI, (x6).toNatClampNeg, .inl (L 3))), (q4, .inl (cI, 6, .inl (L 4)))]) ++ simW cI cII sa ta ba da la sc so LB LD) _ _ := hw
    refine lv_iload (pc := 808) hx hb dL_law_808 (lv_at hl 15 rfl) ?_
    refine lv_idiv (pc := 810) hx hb dL_law_810 h.1 ?_
    have h := h.2
    refine lv_icmp_gt (pc := 811) (tgt := 847) hx hb dL_law_811 (by decide) (fun c222 => ?_) (fun c222 => ?_)
    · have h := h.1 c222
      refine lv_iconst (pc := 847) (v := (0 : Int32)) hx hb dL_law_847 (by decide) ?_
      exact False.elim h
    · have h := h.2 c222
      exact wk_L_law_814 K46 K731 cx hFX hsl hret hB9 hD9 hK46 hK731 k0 A_218 V_219 A_220 V_221 L x6 x7 x11 x12 x14 x15 x16 x17 x18 h hgc q3 q4 _ _ _ hw (lv_sub hl [0, 1, 2, 3, 4, 5, 6, 7, 8, 9, 10, 11, 12, 13, 14, 15] rfl)
def wl_L_law_731 (cl : Int32 → Int32) (nB nD : Nat) (hB hD : Nat → Int32) (K46 : Nat → SA → SV → SA → SV → SA → Int32 → Int32 → Prop) : Nat → Nat → SA → SV → SA → SV → SA → Int32 → Int32 → Int32 → Int32 → Int32 → Int32 → Int32 → Int32 → Prop
  | 0, _, _, _, _, _, _, _, _, _, _, _, _, _, _ => False
  | n + 1, k0, A, V, A2, V2, L, x6, x7, x11, x12, x14, x15, x16, x17 => (((nI nD) ≤ x17 → (∃ n858 : Nat, wl_L_law_858 cl nB nD hB hD K46 n858 k0 A V A2 V2 L x6 x7 x11 x12 x14 x15 x16 (0 : Int32))) ∧ (¬ ((nI nD) ≤ x17) → (wpX5_drowned A V A2 V2 x17 (1 : Int32) (fun r189 A_190 V_191 A_192 V_193 => (wpX5_drowned A_190 V_191 A_192 V_193 x17 (3 : Int32) (fun r194 A_195 V_196 A_197 V_198 => (wpX5_drowned A_195 V_196 A_197 V_198 x17 (4 : Int32) (fun r199 A_200 V_201 A_202 V_203 => ((¬ r189 = 0 → (wb_L_law_789 cl nB nD hB hD K46 (wl_L_law_731 cl nB nD hB hD K46 n) k0 A_200 V_201 A_202 V_203 L x6 x7 x11 x12 (x14 + r194) (x15 + r199) x16 x17 r189)) ∧ (r189 = 0 → (wpX5_drowned A_200 V_201 A_202 V_203 x17 (4 : Int32) (fun r205 A_206 V_207 A_208 V_209 => ((0 < r205 → False) ∧ (¬ (0 < r205) → (wb_L_law_789 cl nB nD hB hD K46 (wl_L_law_731 cl nB nD hB hD K46 n) k0 A_206 V_207 A_208 V_209 L x6 x7 x11 x12 (x14 + r194) (x15 + r199) x16 x17 r189)))))))))))))))
set_option maxHeartbeats 8000000 in
set_option maxRecDepth 100000 in
theorem wk_L_law_731 (K46 : Nat → SA → SV → SA → SV → SA → Int32 → Int32 → Prop) (cx : CX RL cL_law 21 wsL_law D [(cI, .int), (cZ, .boolean), (cII, .array .int)] p s m args c A0) (hFX : FX b sl xs A0 s) (hsl : sl ≤ 260) (hret : ∀ (ls : Array Slot) (ws : va_W) (H : Heap) (locs : List Loc) (k0 : Nat), k0 ≤ gLaw → WS D s A0 ws H locs → W p l e room_1 s m args below meth c H locs k0 (150 * k0) Z (F0 m 1047 ls [.int 1])) (hB9 : RW nB hB LB) (hD9 : RW nD hD LD) (hK46 : ∀ (k0 : Nat) (A : SA) (V : SV) (A2 : SA) (V2 : SV) (L : SA) (x6 : Int32) (x7 : Int32) (h : K46 k0 A V A2 V2 L x6 x7) (hgc : k0 ≤ gLaw)  (H : Heap) (locs : List Loc) (ls : Array Slot) (hw : WS D s A0 ((wD xa ad ad2 cI cZ A V A2 V2 ++ [(o0, .inl (cI, 150, .inl (L 0))), (o1, .inl (cI, 150, .inl (L 1))), (o2, .inl (cI, 150, .inl (L 2)))]) ++ simW cI cII sa ta ba da la sc so LB LD) H locs) (hl : lv_has ls 21 [(0, .ref b), (1, .ref xa), (2, .ref sa), (3, .ref o0), (4, .ref o1), (5, .ref o2), (6, .int x6), (7, .int x7)]), W p l e room_1 s m args below meth c H locs k0 (150 * k0) Z (F0 m 46 ls [])) : ∀ (n : Nat) (k0 : Nat) (A : SA) (V : SV) (A2 : SA) (V2 : SV) (L : SA) (x6 : Int32) (x7 : Int32) (x11 : Int32) (x12 : Int32) (x14 : Int32) (x15 : Int32) (x16 : Int32) (x17 : Int32) (h : wl_L_law_731 (clI sl xs) nB nD hB hD K46 n k0 A V A2 V2 L x6 x7 x11 x12 x14 x15 x16 x17) (hgc : k0 ≤ gLaw) (q3 : Nat) (q4 : Nat) (H : Heap) (locs : List Loc) (ls : Array Slot) (hw : WS D s A0 ((wD xa ad ad2 cI cZ A V A2 V2 ++ [(o0, .inl (cI, 150, .inl (L 0))), (o1, .inl (cI, 150, .inl (L 1))), (o2, .inl (cI, 150, .inl (L 2))), (q3, .inl (cI, (x6).toNatClampNeg, .inl (L 3))), (q4, .inl (cI, 6, .inl (L 4)))]) ++ simW cI cII sa ta ba da la sc so LB LD) H locs) (hl : lv_has ls 21 [(0, .ref b), (1, .ref xa), (2, .ref sa), (3, .ref o0), (4, .ref o1), (5, .ref o2), (6, .int x6), (7, .int x7), (11, .int x11), (12, .int x12), (13, .ref q4), (14, .int x14), (15, .int x15), (16, .int x16), (17, .int x17)]), W p l e room_1 s m args below meth c H locs k0 (150 * k0) Z (F0 m 731 ls []) := by
  obtain ⟨hx, hb, hml, hown, hts, hK, hA⟩ := id cx
  intro n
  induction n with
  | zero => intro k0 A V A2 V2 L x6 x7 x11 x12 x14 x15 x16 x17 h; exact False.elim h
  | succ n ih =>
    intro k0 A V A2 V2 L x6 x7 x11 x12 x14 x15 x16 x17 h hgc q3 q4 H locs ls hw hl
    refine lv_iload (pc := 731) hx hb dL_law_731 (lv_at hl 14 rfl) ?_
    refine lv_aload_n (pc := 733) hx hb dL_law_733 rfl (lv_at hl 2 rfl) ?_
    refine geF (pc := 734) (C := RX7) (T := TX7) (N := 7) (ci := 6) cx inL_law_X7 rfl 3 (by decide) kL_law_w_fieldLink_RL_50__DrownedPostLaw_Sim___drowned_____I_ hw _ (app_r (k := 0) rfl) rfl dL_law_734 ?_
    refine alenG (pc := 737) cx hw _ 2 (app_r (k := 2) rfl) rfl (v := nI nD) (congrArg nI hD9.1) dL_law_737 ?_
    refine lv_icmp_ge (pc := 738) (tgt := 855) hx hb dL_law_738 (by decide) (fun c188 => ?_) (fun c188 => ?_)
    · have h := h.1 c188
      refine lv_iconst (pc := 855) (v := (0 : Int32)) hx hb dL_law_855 (by decide) ?_
      refine lv_istore (pc := 856) (lv' := [(17, .int (0 : Int32)), (0, .ref b), (1, .ref xa), (2, .ref sa), (3, .ref o0), (4, .ref o1), (5, .ref o2), (6, .int x6), (7, .int x7), (11, .int x11), (12, .int x12), (13, .ref q4), (14, .int x14), (15, .int x15), (16, .int x16)]) hx hb dL_law_856 hl (by decide) rfl (fun ls hl => ?_)
      obtain ⟨n858, h⟩ := h
      exact wk_L_law_858 K46 cx hFX hsl hret hB9 hD9 hK46 n858 k0 A V A2 V2 L x6 x7 x11 x12 x14 x15 x16 (0 : Int32) h hgc q3 q4 _ _ _ hw (lv_sub hl [1, 2, 3, 4, 5, 6, 7, 8, 9, 10, 11, 12, 13, 14, 0] rfl)
    · have h := h.2 c188
      refine lv_aload_n (pc := 741) hx hb dL_law_741 rfl (lv_at hl 1 rfl) ?_
      refine lv_iload (pc := 742) hx hb dL_law_742 (lv_at hl 14 rfl) ?_
      refine lv_iconst (pc := 744) (v := (1 : Int32)) hx hb dL_law_744 (by decide) ?_
      refine callVi (pc := 745) (rest := []) (c1 := k0) (s1 := 150 * k0) cx hw hl (metX5_drowned l D cI cZ xa ad ad2 H.size A V A2 V2 x17 (1 : Int32) _ h) (fun hts => cwV 2 hts gL_law_X5_drowned rfl rfl rfl (by decide +kernel) ⟨Nat.le_of_ble_eq_true rfl, Nat.le_of_ble_eq_true rfl⟩) (SUB.left.trans SUB.left) [0, 1] rfl 0 (ci := 5) rfl rfl rfl (JN.trans SUB.left SUB.left JN.left JN.left) rfl rfl (Nat.le_of_ble_eq_true rfl) ⟨cgLaw hgc, sgLaw hgc⟩ rfl rfl dL_law_745 (fun r189 u H locs h hw => ?_)
      obtain ⟨A_190, V_191, A_192, V_193⟩ := u
      have hw : WS D s A0 ((wD xa ad ad2 cI cZ A_190 V_191 A_192 V_193 ++ [(o0, .inl (cI, 150, .inl (L 0))), (o1, .inl (cI, 150, .inl (L 1))), (o2, .inl (cI, 150, .inl (L 2))), (q3, .inl (cI, (x6).toNatClampNeg, .inl (L 3))), (q4, .inl (cI, 6, .inl (L 4)))]) ++ simW cI cII sa ta ba da la sc so LB LD) _ _ := hw
      refine lv_istore (pc := 748) (lv' := [(18, .int r189), (0, .ref b), (1, .ref xa), (2, .ref sa), (3, .ref o0), (4, .ref o1), (5, .ref o2), (6, .int x6), (7, .int x7), (11, .int x11), (12, .int x12), (13, .ref q4), (14, .int x14), (15, .int x15), (16, .int x16), (17, .int x17)]) hx hb dL_law_748 hl (by decide) rfl (fun ls hl => ?_)
      refine lv_iload (pc := 750) hx hb dL_law_750 (lv_at hl 12 rfl) ?_
      refine lv_aload_n (pc := 752) hx hb dL_law_752 rfl (lv_at hl 2 rfl) ?_
      refine lv_iload (pc := 753) hx hb dL_law_753 (lv_at hl 15 rfl) ?_
      refine lv_iconst (pc := 755) (v := (3 : Int32)) hx hb dL_law_755 (by decide) ?_
      refine callVi (pc := 756) (rest := [.int x14]) (c1 := k0) (s1 := 150 * k0) cx hw hl (metX5_drowned l D cI cZ xa ad ad2 H.size A_190 V_191 A_192 V_193 x17 (3 : Int32) _ h) (fun hts => cwV 2 hts gL_law_X5_drowned rfl rfl rfl (by decide +kernel) ⟨Nat.le_of_ble_eq_true rfl, Nat.le_of_ble_eq_true rfl⟩) (SUB.left.trans SUB.left) [0, 1] rfl 0 (ci := 5) rfl rfl rfl (JN.trans SUB.left SUB.left JN.left JN.left) rfl rfl (Nat.le_of_ble_eq_true rfl) ⟨cgLaw hgc, sgLaw hgc⟩ rfl rfl dL_law_756 (fun r194 u H locs h hw => ?_)
      obtain ⟨A_195, V_196, A_197, V_198⟩ := u
      have hw : WS D s A0 ((wD xa ad ad2 cI cZ A_195 V_196 A_197 V_198 ++ [(o0, .inl (cI, 150, .inl (L 0))), (o1, .inl (cI, 150, .inl (L 1))), (o2, .inl (cI, 150, .inl (L 2))), (q3, .inl (cI, (x6).toNatClampNeg, .inl (L 3))), (q4, .inl (cI, 6, .inl (L 4)))]) ++ simW cI cII sa ta ba da la sc so LB LD) _ _ := hw
      refine lv_iadd (pc := 759) hx hb dL_law_759 ?_
      refine lv_istore (pc := 760) (lv' := [(14, .int (x14 + r194)), (18, .int r189), (0, .ref b), (1, .ref xa), (2, .ref sa), (3, .ref o0), (4, .ref o1), (5, .ref o2), (6, .int x6), (7, .int x7), (11, .int x11), (12, .int x12), (13, .ref q4), (15, .int x15), (16, .int x16), (17, .int x17)]) hx hb dL_law_760 hl (by decide) rfl (fun ls hl => ?_)
      refine lv_iload (pc := 762) hx hb dL_law_762 (lv_at hl 13 rfl) ?_
      refine lv_aload_n (pc := 764) hx hb dL_law_764 rfl (lv_at hl 3 rfl) ?_
      refine lv_iload (pc := 765) hx hb dL_law_765 (lv_at hl 15 rfl) ?_
      refine lv_iconst (pc := 767) (v := (4 : Int32)) hx hb dL_law_767 (by decide) ?_
      refine callVi (pc := 768) (rest := [.int x15]) (c1 := k0) (s1 := 150 * k0) cx hw hl (metX5_drowned l D cI cZ xa ad ad2 H.size A_195 V_196 A_197 V_198 x17 (4 : Int32) _ h) (fun hts => cwV 2 hts gL_law_X5_drowned rfl rfl rfl (by decide +kernel) ⟨Nat.le_of_ble_eq_true rfl, Nat.le_of_ble_eq_true rfl⟩) (SUB.left.trans SUB.left) [0, 1] rfl 0 (ci := 5) rfl rfl rfl (JN.trans SUB.left SUB.left JN.left JN.left) rfl rfl (Nat.le_of_ble_eq_true rfl) ⟨cgLaw hgc, sgLaw hgc⟩ rfl rfl dL_law_768 (fun r199 u H locs h hw => ?_)
      obtain ⟨A_200, V_201, A_202, V_203⟩ := u
      have hw : WS D s A0 ((wD xa ad ad2 cI cZ A_200 V_201 A_202 V_203 ++ [(o0, .inl (cI, 150, .inl (L 0))), (o1, .inl (cI, 150, .inl (L 1))), (o2, .inl (cI, 150, .inl (L 2))), (q3, .inl (cI, (x6).toNatClampNeg, .inl (L 3))), (q4, .inl (cI, 6, .inl (L 4)))]) ++ simW cI cII sa ta ba da la sc so LB LD) _ _ := hw
      refine lv_iadd (pc := 771) hx hb dL_law_771 ?_
      refine lv_istore (pc := 772) (lv' := [(15, .int (x15 + r199)), (14, .int (x14 + r194)), (18, .int r189), (0, .ref b), (1, .ref xa), (2, .ref sa), (3, .ref o0), (4, .ref o1), (5, .ref o2), (6, .int x6), (7, .int x7), (11, .int x11), (12, .int x12), (13, .ref q4), (16, .int x16), (17, .int x17)]) hx hb dL_law_772 hl (by decide) rfl (fun ls hl => ?_)
      refine lv_iload (pc := 774) hx hb dL_law_774 (lv_at hl 2 rfl) ?_
      refine lv_if_ne (pc := 776) (tgt := 789) hx hb dL_law_776 (by decide) (fun c204 => ?_) (fun c204 => ?_)
      · have h := h.1 c204
        exact wk_L_law_789 K46 (wl_L_law_731 (clI sl xs) nB nD hB hD K46 n) cx hFX hsl hret hB9 hD9 hK46 ih k0 A_200 V_201 A_202 V_203 L x6 x7 x11 x12 (x14 + r194) (x15 + r199) x16 x17 r189 h hgc q3 q4 _ _ _ hw (lv_sub hl [3, 4, 5, 6, 7, 8, 9, 10, 11, 12, 13, 1, 0, 14, 15, 2] rfl)
      · have h := h.2 c204
        refine lv_aload_n (pc := 779) hx hb dL_law_779 rfl (lv_at hl 4 rfl) ?_
        refine lv_iload (pc := 780) hx hb dL_law_780 (lv_at hl 15 rfl) ?_
        refine lv_iconst (pc := 782) (v := (4 : Int32)) hx hb dL_law_782 (by decide) ?_
        refine callVi (pc := 783) (rest := []) (c1 := k0) (s1 := 150 * k0) cx hw hl (metX5_drowned l D cI cZ xa ad ad2 H.size A_200 V_201 A_202 V_203 x17 (4 : Int32) _ h) (fun hts => cwV 2 hts gL_law_X5_drowned rfl rfl rfl (by decide +kernel) ⟨Nat.le_of_ble_eq_true rfl, Nat.le_of_ble_eq_true rfl⟩) (SUB.left.trans SUB.left) [0, 1] rfl 0 (ci := 5) rfl rfl rfl (JN.trans SUB.left SUB.left JN.left JN.left) rfl rfl (Nat.le_of_ble_eq_true rfl) ⟨cgLaw hgc, sgLaw hgc⟩ rfl rfl dL_law_783 (fun r205 u H locs h hw => ?_)
        obtain ⟨A_206, V_207, A_208, V_209⟩ := u
        have hw : WS D s A0 ((wD xa ad ad2 cI cZ A_206 V_207 A_208 V_209 ++ [(o0, .inl (cI, 150, .inl (L 0))), (o1, .inl (cI, 150, .inl (L 1))), (o2, .inl (cI, 150, .inl (L 2))), (q3, .inl (cI, (x6).toNatClampNeg, .inl (L 3))), (q4, .inl (cI, 6, .inl (L 4)))]) ++ simW cI cII sa ta ba da la sc so LB LD) _ _ := hw
        refine lv_if_gt (pc := 786) (tgt := 847) hx hb dL_law_786 (by decide) (fun c210 => ?_) (fun c210 => ?_)
        · have h := h.1 c210
          refine lv_iconst (pc := 847) (v := (0 : Int32)) hx hb dL_law_847 (by decide) ?_
          exact False.elim h
        · have h := h.2 c210
          exact wk_L_law_789 K46 (wl_L_law_731 (clI sl xs) nB nD hB hD K46 n) cx hFX hsl hret hB9 hD9 hK46 ih k0 A_206 V_207 A_208 V_209 L x6 x7 x11 x12 (x14 + r194) (x15 + r199) x16 x17 r189 h hgc q3 q4 _ _ _ hw (lv_sub hl [3, 4, 5, 6, 7, 8, 9, 10, 11, 12, 13, 1, 0, 14, 15, 2] rfl)
def wl_L_law_686 (cl : Int32 → Int32) (nB nD : Nat) (hB hD : Nat → Int32) (K46 : Nat → SA → SV → SA → SV → SA → Int32 → Int32 → Prop) : Nat → Nat → SA → SV → SA → SV → SA → Int32 → Int32 → Int32 → Int32 → Int32 → Int32 → Int32 → Int32 → Prop
  | 0, _, _, _, _, _, _, _, _, _, _, _, _, _, _ => False
  | n + 1, k0, A, V, A2, V2, L, x6, x7, x11, x12, x14, x15, x16, x17 => ((x6 ≤ x17 → (∃ n731 : Nat, wl_L_law_731 cl nB nD hB hD K46 n731 k0 A V A2 V2 L x6 x7 x11 x12 x14 x15 x16 (0 : Int32))) ∧ (¬ (x6 ≤ x17) → (wpX5_letter A V A2 V2 x17 (3 : Int32) (fun r181 A_182 V_183 A_184 V_185 => ((¬ r181 = (2 : Int32) → wl_L_law_686 cl nB nD hB hD K46 n k0 A_182 V_183 A_184 V_185 L x6 x7 x11 x12 x14 x15 (x16 + (0 : Int32)) (x17 + 1)) ∧ (r181 = (2 : Int32) → (vp_in x17 150 ∧ ((((L 0) x17.toNatClampNeg) = (2 : Int32) → wl_L_law_686 cl nB nD hB hD K46 n k0 A_182 V_183 A_184 V_185 L x6 x7 x11 x12 x14 x15 (x16 + (0 : Int32)) (x17 + 1)) ∧ (¬ (((L 0) x17.toNatClampNeg) = (2 : Int32)) → wl_L_law_686 cl nB nD hB hD K46 n k0 A_182 V_183 A_184 V_185 L x6 x7 x11 x12 x14 x15 (x16 + (1 : Int32)) (x17 + 1))))))))))
set_option maxHeartbeats 8000000 in
set_option maxRecDepth 100000 in
theorem wk_L_law_686 (K46 : Nat → SA → SV → SA → SV → SA → Int32 → Int32 → Prop) (cx : CX RL cL_law 21 wsL_law D [(cI, .int), (cZ, .boolean), (cII, .array .int)] p s m args c A0) (hFX : FX b sl xs A0 s) (hsl : sl ≤ 260) (hret : ∀ (ls : Array Slot) (ws : va_W) (H : Heap) (locs : List Loc) (k0 : Nat), k0 ≤ gLaw → WS D s A0 ws H locs → W p l e room_1 s m args below meth c H locs k0 (150 * k0) Z (F0 m 1047 ls [.int 1])) (hB9 : RW nB hB LB) (hD9 : RW nD hD LD) (hK46 : ∀ (k0 : Nat) (A : SA) (V : SV) (A2 : SA) (V2 : SV) (L : SA) (x6 : Int32) (x7 : Int32) (h : K46 k0 A V A2 V2 L x6 x7) (hgc : k0 ≤ gLaw)  (H : Heap) (locs : List Loc) (ls : Array Slot) (hw : WS D s A0 ((wD xa ad ad2 cI cZ A V A2 V2 ++ [(o0, .inl (cI, 150, .inl (L 0))), (o1, .inl (cI, 150, .inl (L 1))), (o2, .inl (cI, 150, .inl (L 2)))]) ++ simW cI cII sa ta ba da la sc so LB LD) H locs) (hl : lv_has ls 21 [(0, .ref b), (1, .ref xa), (2, .ref sa), (3, .ref o0), (4, .ref o1), (5, .ref o2), (6, .int x6), (7, .int x7)]), W p l e room_1 s m args below meth c H locs k0 (150 * k0) Z (F0 m 46 ls [])) : ∀ (n : Nat) (k0 : Nat) (A : SA) (V : SV) (A2 : SA) (V2 : SV) (L : SA) (x6 : Int32) (x7 : Int32) (x11 : Int32) (x12 : Int32) (x14 : Int32) (x15 : Int32) (x16 : Int32) (x17 : Int32) (h : wl_L_law_686 (clI sl xs) nB nD hB hD K46 n k0 A V A2 V2 L x6 x7 x11 x12 x14 x15 x16 x17) (hgc : k0 ≤ gLaw) (q3 : Nat) (q4 : Nat) (H : Heap) (locs : List Loc) (ls : Array Slot) (hw : WS D s A0 ((wD xa ad ad2 cI cZ A V A2 V2 ++ [(o0, .inl (cI, 150, .inl (L 0))), (o1, .inl (cI, 150, .inl (L 1))), (o2, .inl (cI, 150, .inl (L 2))), (q3, .inl (cI, (x6).toNatClampNeg, .inl (L 3))), (q4, .inl (cI, 6, .inl (L 4)))]) ++ simW cI cII sa ta ba da la sc so LB LD) H locs) (hl : lv_has ls 21 [(0, .ref b), (1, .ref xa), (2, .ref sa), (3, .ref o0), (4, .ref o1), (5, .ref o2), (6, .int x6), (7, .int x7), (11, .int x11), (12, .int x12), (13, .ref q4), (14, .int x14), (15, .int x15), (16, .int x16), (17, .int x17)]), W p l e room_1 s m args below meth c H locs k0 (150 * k0) Z (F0 m 686 ls []) := by
  obtain ⟨hx, hb, hml, hown, hts, hK, hA⟩ := id cx
  intro n
  induction n with
  | zero => intro k0 A V A2 V2 L x6 x7 x11 x12 x14 x15 x16 x17 h; exact False.elim h
  | succ n ih =>
    intro k0 A V A2 V2 L x6 x7 x11 x12 x14 x15 x16 x17 h hgc q3 q4 H locs ls hw hl
    refine lv_iload (pc := 686) hx hb dL_law_686 (lv_at hl 14 rfl) ?_
    refine lv_iload (pc := 688) hx hb dL_law_688 (lv_at hl 6 rfl) ?_
    refine lv_icmp_ge (pc := 690) (tgt := 728) hx hb dL_law_690 (by decide) (fun c180 => ?_) (fun c180 => ?_)
    · have h := h.1 c180
      refine lv_iconst (pc := 728) (v := (0 : Int32)) hx hb dL_law_728 (by decide) ?_
      refine lv_istore (pc := 729) (lv' := [(17, .int (0 : Int32)), (0, .ref b), (1, .ref xa), (2, .ref sa), (3, .ref o0), (4, .ref o1), (5, .ref o2), (6, .int x6), (7, .int x7), (11, .int x11), (12, .int x12), (13, .ref q4), (14, .int x14), (15, .int x15), (16, .int x16)]) hx hb dL_law_729 hl (by decide) rfl (fun ls hl => ?_)
      obtain ⟨n731, h⟩ := h
      exact wk_L_law_731 K46 cx hFX hsl hret hB9 hD9 hK46 n731 k0 A V A2 V2 L x6 x7 x11 x12 x14 x15 x16 (0 : Int32) h hgc q3 q4 _ _ _ hw (lv_sub hl [1, 2, 3, 4, 5, 6, 7, 8, 9, 10, 11, 12, 13, 14, 0] rfl)
    · have h := h.2 c180
      refine lv_iload (pc := 693) hx hb dL_law_693 (lv_at hl 13 rfl) ?_
      refine lv_aload_n (pc := 695) hx hb dL_law_695 rfl (lv_at hl 1 rfl) ?_
      refine lv_iload (pc := 696) hx hb dL_law_696 (lv_at hl 14 rfl) ?_
      refine lv_iconst (pc := 698) (v := (3 : Int32)) hx hb dL_law_698 (by decide) ?_
      refine callVi (pc := 699) (rest := [.int x16]) (c1 := k0) (s1 := 150 * k0) cx hw hl (metX5_letter l D cI cZ xa ad ad2 H.size A V A2 V2 x17 (3 : Int32) _ h) (fun hts => cwV 2 hts gL_law_X5_letter rfl rfl rfl (by decide +kernel) ⟨Nat.le_of_ble_eq_true rfl, Nat.le_of_ble_eq_true rfl⟩) (SUB.left.trans SUB.left) [0, 1] rfl 0 (ci := 5) rfl rfl rfl (JN.trans SUB.left SUB.left JN.left JN.left) rfl rfl (Nat.le_of_ble_eq_true rfl) ⟨cgLaw hgc, sgLaw hgc⟩ rfl rfl dL_law_699 (fun r181 u H locs h hw => ?_)
      obtain ⟨A_182, V_183, A_184, V_185⟩ := u
      have hw : WS D s A0 ((wD xa ad ad2 cI cZ A_182 V_183 A_184 V_185 ++ [(o0, .inl (cI, 150, .inl (L 0))), (o1, .inl (cI, 150, .inl (L 1))), (o2, .inl (cI, 150, .inl (L 2))), (q3, .inl (cI, (x6).toNatClampNeg, .inl (L 3))), (q4, .inl (cI, 6, .inl (L 4)))]) ++ simW cI cII sa ta ba da la sc so LB LD) _ _ := hw
      refine lv_iconst (pc := 702) (v := (2 : Int32)) hx hb dL_law_702 (by decide) ?_
      refine lv_icmp_ne (pc := 703) (tgt := 718) hx hb dL_law_703 (by decide) (fun c186 => ?_) (fun c186 => ?_)
      · have h := h.1 c186
        refine lv_iconst (pc := 718) (v := (0 : Int32)) hx hb dL_law_718 (by decide) ?_
        refine lv_iadd (pc := 719) hx hb dL_law_719 ?_
        refine lv_istore (pc := 720) (lv' := [(16, .int (x16 + (0 : Int32))), (0, .ref b), (1, .ref xa), (2, .ref sa), (3, .ref o0), (4, .ref o1), (5, .ref o2), (6, .int x6), (7, .int x7), (11, .int x11), (12, .int x12), (13, .ref q4), (14, .int x14), (15, .int x15), (17, .int x17)]) hx hb dL_law_720 hl (by decide) rfl (fun ls hl => ?_)
        refine lv_iinc (pc := 722) (v := x17 + 1) (lv' := [(17, .int (x17 + 1)), (16, .int (x16 + (0 : Int32))), (0, .ref b), (1, .ref xa), (2, .ref sa), (3, .ref o0), (4, .ref o1), (5, .ref o2), (6, .int x6), (7, .int x7), (11, .int x11), (12, .int x12), (13, .ref q4), (14, .int x14), (15, .int x15)]) hx hb dL_law_722 hl (k := 14) rfl rfl (by decide) rfl (fun ls hl => ?_)
        refine lv_goto (pc := 725) (tgt := 686) hx hb dL_law_725 (by decide) ?_
        exact ih k0 A_182 V_183 A_184 V_185 L x6 x7 x11 x12 x14 x15 (x16 + (0 : Int32)) (x17 + 1) h hgc q3 q4 _ _ _ hw (lv_sub hl [2, 3, 4, 5, 6, 7, 8, 9, 10, 11, 12, 13, 14, 1, 0] rfl)
      · have h := h.2 c186
        refine lv_aload_n (pc := 706) hx hb dL_law_706 rfl (lv_at hl 3 rfl) ?_
        refine lv_iload (pc := 707) hx hb dL_law_707 (lv_at hl 14 rfl) ?_
        refine alI (pc := 709) cx hw 51 0 (app_l rfl) rfl h.1 dL_law_709 ?_
        have h := h.2
        refine lv_iconst (pc := 710) (v := (2 : Int32)) hx hb dL_law_710 (by decide) ?_
        refine lv_icmp_eq (pc := 711) (tgt := 718) hx hb dL_law_711 (by decide) (fun c187 => ?_) (fun c187 => ?_)
        · have h := h.1 c187
          refine lv_iconst (pc := 718) (v := (0 : Int32)) hx hb dL_law_718 (by decide) ?_
          refine lv_iadd (pc := 719) hx hb dL_law_719 ?_
          refine lv_istore (pc := 720) (lv' := [(16, .int (x16 + (0 : Int32))), (0, .ref b), (1, .ref xa), (2, .ref sa), (3, .ref o0), (4, .ref o1), (5, .ref o2), (6, .int x6), (7, .int x7), (11, .int x11), (12, .int x12), (13, .ref q4), (14, .int x14), (15, .int x15), (17, .int x17)]) hx hb dL_law_720 hl (by decide) rfl (fun ls hl => ?_)
          refine lv_iinc (pc := 722) (v := x17 + 1) (lv' := [(17, .int (x17 + 1)), (16, .int (x16 + (0 : Int32))), (0, .ref b), (1, .ref xa), (2, .ref sa), (3, .ref o0), (4, .ref o1), (5, .ref o2), (6, .int x6), (7, .int x7), (11, .int x11), (12, .int x12), (13, .ref q4), (14, .int x14), (15, .int x15)]) hx hb dL_law_722 hl (k := 14) rfl rfl (by decide) rfl (fun ls hl => ?_)
          refine lv_goto (pc := 725) (tgt := 686) hx hb dL_law_725 (by decide) ?_
          exact ih k0 A_182 V_183 A_184 V_185 L x6 x7 x11 x12 x14 x15 (x16 + (0 : Int32)) (x17 + 1) h hgc q3 q4 _ _ _ hw (lv_sub hl [2, 3, 4, 5, 6, 7, 8, 9, 10, 11, 12, 13, 14, 1, 0] rfl)
        · have h := h.2 c187
          refine lv_iconst (pc := 714) (v := (1 : Int32)) hx hb dL_law_714 (by decide) ?_
          refine lv_goto (pc := 715) (tgt := 719) hx hb dL_law_715 (by decide) ?_
          refine lv_iadd (pc := 719) hx hb dL_law_719 ?_
          refine lv_istore (pc := 720) (lv' := [(16, .int (x16 + (1 : Int32))), (0, .ref b), (1, .ref xa), (2, .ref sa), (3, .ref o0), (4, .ref o1), (5, .ref o2), (6, .int x6), (7, .int x7), (11, .int x11), (12, .int x12), (13, .ref q4), (14, .int x14), (15, .int x15), (17, .int x17)]) hx hb dL_law_720 hl (by decide) rfl (fun ls hl => ?_)
          refine lv_iinc (pc := 722) (v := x17 + 1) (lv' := [(17, .int (x17 + 1)), (16, .int (x16 + (1 : Int32))), (0, .ref b), (1, .ref xa), (2, .ref sa), (3, .ref o0), (4, .ref o1), (5, .ref o2), (6, .int x6), (7, .int x7), (11, .int x11), (12, .int x12), (13, .ref q4), (14, .int x14), (15, .int x15)]) hx hb dL_law_722 hl (k := 14) rfl rfl (by decide) rfl (fun ls hl => ?_)
          refine lv_goto (pc := 725) (tgt := 686) hx hb dL_law_725 (by decide) ?_
          exact ih k0 A_182 V_183 A_184 V_185 L x6 x7 x11 x12 x14 x15 (x16 + (1 : Int32)) (x17 + 1) h hgc q3 q4 _ _ _ hw (lv_sub hl [2, 3, 4, 5, 6, 7, 8, 9, 10, 11, 12, 13, 14, 1, 0] rfl)
def wb_L_law_650 (cl : Int32 → Int32) (nB nD : Nat) (hB hD : Nat → Int32) (K46 : Nat → SA → SV → SA → SV → SA → Int32 → Int32 → Prop) (K207 : Nat → SA → SV → SA → SV → SA → Int32 → Int32 → Int32 → Int32 → Int32 → Int32 → Prop) (k0 : Nat) (A : SA) (V : SV) (A2 : SA) (V2 : SV) (L : SA) (x6 : Int32) (x7 : Int32) (x9 : Int32) (x11 : Int32) (x12 : Int32) (x14 : Int32) : Prop := (wpX5_letter A V A2 V2 x14 (6 : Int32) (fun r174 A_175 V_176 A_177 V_178 => (vp_in x14 150 ∧ ((r174 = ((L 2) x14.toNatClampNeg) → K207 k0 A_175 V_176 A_177 V_178 L x6 x7 x9 x11 x12 (x14 + 1)) ∧ (¬ (r174 = ((L 2) x14.toNatClampNeg)) → False)))))
set_option maxHeartbeats 8000000 in
set_option maxRecDepth 100000 in
theorem wk_L_law_650 (K46 : Nat → SA → SV → SA → SV → SA → Int32 → Int32 → Prop) (K207 : Nat → SA → SV → SA → SV → SA → Int32 → Int32 → Int32 → Int32 → Int32 → Int32 → Prop) (cx : CX RL cL_law 21 wsL_law D [(cI, .int), (cZ, .boolean), (cII, .array .int)] p s m args c A0) (hFX : FX b sl xs A0 s) (hsl : sl ≤ 260) (hret : ∀ (ls : Array Slot) (ws : va_W) (H : Heap) (locs : List Loc) (k0 : Nat), k0 ≤ gLaw → WS D s A0 ws H locs → W p l e room_1 s m args below meth c H locs k0 (150 * k0) Z (F0 m 1047 ls [.int 1])) (hB9 : RW nB hB LB) (hD9 : RW nD hD LD) (hK46 : ∀ (k0 : Nat) (A : SA) (V : SV) (A2 : SA) (V2 : SV) (L : SA) (x6 : Int32) (x7 : Int32) (h : K46 k0 A V A2 V2 L x6 x7) (hgc : k0 ≤ gLaw)  (H : Heap) (locs : List Loc) (ls : Array Slot) (hw : WS D s A0 ((wD xa ad ad2 cI cZ A V A2 V2 ++ [(o0, .inl (cI, 150, .inl (L 0))), (o1, .inl (cI, 150, .inl (L 1))), (o2, .inl (cI, 150, .inl (L 2)))]) ++ simW cI cII sa ta ba da la sc so LB LD) H locs) (hl : lv_has ls 21 [(0, .ref b), (1, .ref xa), (2, .ref sa), (3, .ref o0), (4, .ref o1), (5, .ref o2), (6, .int x6), (7, .int x7)]), W p l e room_1 s m args below meth c H locs k0 (150 * k0) Z (F0 m 46 ls [])) (hK207 : ∀ (k0 : Nat) (A : SA) (V : SV) (A2 : SA) (V2 : SV) (L : SA) (x6 : Int32) (x7 : Int32) (x9 : Int32) (x11 : Int32) (x12 : Int32) (x14 : Int32) (h : K207 k0 A V A2 V2 L x6 x7 x9 x11 x12 x14) (hgc : k0 ≤ gLaw) (q3 : Nat) (q4 : Nat) (H : Heap) (locs : List Loc) (ls : Array Slot) (hw : WS D s A0 ((wD xa ad ad2 cI cZ A V A2 V2 ++ [(o0, .inl (cI, 150, .inl (L 0))), (o1, .inl (cI, 150, .inl (L 1))), (o2, .inl (cI, 150, .inl (L 2))), (q3, .inl (cI, (x6).toNatClampNeg, .inl (L 3))), (q4, .inl (cI, 6, .inl (L 4)))]) ++ simW cI cII sa ta ba da la sc so LB LD) H locs) (hl : lv_has ls 21 [(0, .ref b), (1, .ref xa), (2, .ref sa), (3, .ref o0), (4, .ref o1), (5, .ref o2), (6, .int x6), (7, .int x7), (9, .int x9), (10, .ref q3), (11, .int x11), (12, .int x12), (13, .ref q4), (14, .int x14)]), W p l e room_1 s m args below meth c H locs k0 (150 * k0) Z (F0 m 207 ls [])) : ∀ (k0 : Nat) (A : SA) (V : SV) (A2 : SA) (V2 : SV) (L : SA) (x6 : Int32) (x7 : Int32) (x9 : Int32) (x11 : Int32) (x12 : Int32) (x14 : Int32) (h : wb_L_law_650 (clI sl xs) nB nD hB hD K46 K207 k0 A V A2 V2 L x6 x7 x9 x11 x12 x14) (hgc : k0 ≤ gLaw) (q3 : Nat) (q4 : Nat) (H : Heap) (locs : List Loc) (ls : Array Slot) (hw : WS D s A0 ((wD xa ad ad2 cI cZ A V A2 V2 ++ [(o0, .inl (cI, 150, .inl (L 0))), (o1, .inl (cI, 150, .inl (L 1))), (o2, .inl (cI, 150, .inl (L 2))), (q3, .inl (cI, (x6).toNatClampNeg, .inl (L 3))), (q4, .inl (cI, 6, .inl (L 4)))]) ++ simW cI cII sa ta ba da la sc so LB LD) H locs) (hl : lv_has ls 21 [(0, .ref b), (1, .ref xa), (2, .ref sa), (3, .ref o0), (4, .ref o1), (5, .ref o2), (6, .int x6), (7, .int x7), (9, .int x9), (10, .ref q3), (11, .int x11), (12, .int x12), (13, .ref q4), (14, .int x14)]), W p l e room_1 s m args below meth c H locs k0 (150 * k0) Z (F0 m 650 ls []) := by
  obtain ⟨hx, hb, hml, hown, hts, hK, hA⟩ := id cx
  intro k0 A V A2 V2 L x6 x7 x9 x11 x12 x14 h hgc q3 q4 H locs ls hw hl
  refine lv_aload_n (pc := 650) hx hb dL_law_650 rfl (lv_at hl 1 rfl) ?_
  refine lv_iload (pc := 651) hx hb dL_law_651 (lv_at hl 13 rfl) ?_
  refine lv_bipush (pc := 653) (v := (6 : Int32)) hx hb dL_law_653 (by decide) ?_
  refine callVi (pc := 655) (rest := []) (c1 := k0) (s1 := 150 * k0) cx hw hl (metX5_letter l D cI cZ xa ad ad2 H.size A V A2 V2 x14 (6 : Int32) _ h) (fun hts => cwV 2 hts gL_law_X5_letter rfl rfl rfl (by decide +kernel) ⟨Nat.le_of_ble_eq_true rfl, Nat.le_of_ble_eq_true rfl⟩) (SUB.left.trans SUB.left) [0, 1] rfl 0 (ci := 5) rfl rfl rfl (JN.trans SUB.left SUB.left JN.left JN.left) rfl rfl (Nat.le_of_ble_eq_true rfl) ⟨cgLaw hgc, sgLaw hgc⟩ rfl rfl dL_law_655 (fun r174 u H locs h hw => ?_)
  obtain ⟨A_175, V_176, A_177, V_178⟩ := u
  have hw : WS D s A0 ((wD xa ad ad2 cI cZ A_175 V_176 A_177 V_178 ++ [(o0, .inl (cI, 150, .inl (L 0))), (o1, .inl (cI, 150, .inl (L 1))), (o2, .inl (cI, 150, .inl (L 2))), (q3, .inl (cI, (x6).toNatClampNeg, .inl (L 3))), (q4, .inl (cI, 6, .inl (L 4)))]) ++ simW cI cII sa ta ba da la sc so LB LD) _ _ := hw
  refine lv_aload (pc := 658) hx hb dL_law_658 (lv_at hl 5 rfl) ?_
  refine lv_iload (pc := 660) hx hb dL_law_660 (lv_at hl 13 rfl) ?_
  refine alI (pc := 662) cx hw 53 0 (app_l rfl) rfl h.1 dL_law_662 ?_
  have h := h.2
  refine lv_icmp_eq (pc := 663) (tgt := 668) hx hb dL_law_663 (by decide) (fun c179 => ?_) (fun c179 => ?_)
  · have h := h.1 c179
    refine lv_iinc (pc := 668) (v := x14 + 1) (lv' := [(14, .int (x14 + 1)), (0, .ref b), (1, .ref xa), (2, .ref sa), (3, .ref o0), (4, .ref o1), (5, .ref o2), (6, .int x6), (7, .int x7), (9, .int x9), (10, .ref q3), (11, .int x11), (12, .int x12), (13, .ref q4)]) hx hb dL_law_668 hl (k := 13) rfl rfl (by decide) rfl (fun ls hl => ?_)
    refine lv_goto (pc := 671) (tgt := 207) hx hb dL_law_671 (by decide) ?_
    exact hK207 k0 A_175 V_176 A_177 V_178 L x6 x7 x9 x11 x12 (x14 + 1) h hgc q3 q4 _ _ _ hw (lv_sub hl [1, 2, 3, 4, 5, 6, 7, 8, 9, 10, 11, 12, 13, 0] rfl)
  · have h := h.2 c179
    refine lv_iconst (pc := 666) (v := (0 : Int32)) hx hb dL_law_666 (by decide) ?_
    exact False.elim h
def wb_L_law_618 (cl : Int32 → Int32) (nB nD : Nat) (hB hD : Nat → Int32) (K46 : Nat → SA → SV → SA → SV → SA → Int32 → Int32 → Prop) (K207 : Nat → SA → SV → SA → SV → SA → Int32 → Int32 → Int32 → Int32 → Int32 → Int32 → Prop) (k0 : Nat) (A : SA) (V : SV) (A2 : SA) (V2 : SV) (L : SA) (x6 : Int32) (x7 : Int32) (x9 : Int32) (x11 : Int32) (x12 : Int32) (x14 : Int32) (x15 : Int32) (x16 : Int32) (x19 : Int32) : Prop := ((¬ x15 = (1 : Int32) → K207 k0 A V A2 V2 L x6 x7 x9 x11 x12 (x14 + 1)) ∧ (x15 = (1 : Int32) → (vp_in x14 150 ∧ (((2 : Int32) < ((L 2) x14.toNatClampNeg) → False) ∧ (¬ ((2 : Int32) < ((L 2) x14.toNatClampNeg)) → (wpX5_letter A V A2 V2 x14 (2 : Int32) (fun r167 A_168 V_169 A_170 V_171 => ((x16 < r167 → (wb_L_law_650 cl nB nD hB hD K46 K207 k0 A_168 V_169 A_170 V_171 L x6 x7 x9 x11 x12 x14)) ∧ (¬ (x16 < r167) → ((¬ x19 = 0 → False) ∧ (x19 = 0 → (wb_L_law_650 cl nB nD hB hD K46 K207 k0 A_168 V_169 A_170 V_171 L x6 x7 x9 x11 x12 x14))))))))))))
set_option maxHeartbeats 8000000 in
set_option maxRecDepth 100000 in
theorem wk_L_law_618 (K46 : Nat → SA → SV → SA → SV → SA → Int32 → Int32 → Prop) (K207 : Nat → SA → SV → SA → SV → SA → Int32 → Int32 → Int32 → Int32 → Int32 → Int32 → Prop) (cx : CX RL cL_law 21 wsL_law D [(cI, .int), (cZ, .boolean), (cII, .array .int)] p s m args c A0) (hFX : FX b sl xs A0 s) (hsl : sl ≤ 260) (hret : ∀ (ls : Array Slot) (ws : va_W) (H : Heap) (locs : List Loc) (k0 : Nat), k0 ≤ gLaw → WS D s A0 ws H locs → W p l e room_1 s m args below meth c H locs k0 (150 * k0) Z (F0 m 1047 ls [.int 1])) (hB9 : RW nB hB LB) (hD9 : RW nD hD LD) (hK46 : ∀ (k0 : Nat) (A : SA) (V : SV) (A2 : SA) (V2 : SV) (L : SA) (x6 : Int32) (x7 : Int32) (h : K46 k0 A V A2 V2 L x6 x7) (hgc : k0 ≤ gLaw)  (H : Heap) (locs : List Loc) (ls : Array Slot) (hw : WS D s A0 ((wD xa ad ad2 cI cZ A V A2 V2 ++ [(o0, .inl (cI, 150, .inl (L 0))), (o1, .inl (cI, 150, .inl (L 1))), (o2, .inl (cI, 150, .inl (L 2)))]) ++ simW cI cII sa ta ba da la sc so LB LD) H locs) (hl : lv_has ls 21 [(0, .ref b), (1, .ref xa), (2, .ref sa), (3, .ref o0), (4, .ref o1), (5, .ref o2), (6, .int x6), (7, .int x7)]), W p l e room_1 s m args below meth c H locs k0 (150 * k0) Z (F0 m 46 ls [])) (hK207 : ∀ (k0 : Nat) (A : SA) (V : SV) (A2 : SA) (V2 : SV) (L : SA) (x6 : Int32) (x7 : Int32) (x9 : Int32) (x11 : Int32) (x12 : Int32) (x14 : Int32) (h : K207 k0 A V A2 V2 L x6 x7 x9 x11 x12 x14) (hgc : k0 ≤ gLaw) (q3 : Nat) (q4 : Nat) (H : Heap) (locs : List Loc) (ls : Array Slot) (hw : WS D s A0 ((wD xa ad ad2 cI cZ A V A2 V2 ++ [(o0, .inl (cI, 150, .inl (L 0))), (o1, .inl (cI, 150, .inl (L 1))), (o2, .inl (cI, 150, .inl (L 2))), (q3, .inl (cI, (x6).toNatClampNeg, .inl (L 3))), (q4, .inl (cI, 6, .inl (L 4)))]) ++ simW cI cII sa ta ba da la sc so LB LD) H locs) (hl : lv_has ls 21 [(0, .ref b), (1, .ref xa), (2, .ref sa), (3, .ref o0), (4, .ref o1), (5, .ref o2), (6, .int x6), (7, .int x7), (9, .int x9), (10, .ref q3), (11, .int x11), (12, .int x12), (13, .ref q4), (14, .int x14)]), W p l e room_1 s m args below meth c H locs k0 (150 * k0) Z (F0 m 207 ls [])) : ∀ (k0 : Nat) (A : SA) (V : SV) (A2 : SA) (V2 : SV) (L : SA) (x6 : Int32) (x7 : Int32) (x9 : Int32) (x11 : Int32) (x12 : Int32) (x14 : Int32) (x15 : Int32) (x16 : Int32) (x19 : Int32) (h : wb_L_law_618 (clI sl xs) nB nD hB hD K46 K207 k0 A V A2 V2 L x6 x7 x9 x11 x12 x14 x15 x16 x19) (hgc : k0 ≤ gLaw) (q3 : Nat) (q4 : Nat) (H : Heap) (locs : List Loc) (ls : Array Slot) (hw : WS D s A0 ((wD xa ad ad2 cI cZ A V A2 V2 ++ [(o0, .inl (cI, 150, .inl (L 0))), (o1, .inl (cI, 150, .inl (L 1))), (o2, .inl (cI, 150, .inl (L 2))), (q3, .inl (cI, (x6).toNatClampNeg, .inl (L 3))), (q4, .inl (cI, 6, .inl (L 4)))]) ++ simW cI cII sa ta ba da la sc so LB LD) H locs) (hl : lv_has ls 21 [(0, .ref b), (1, .ref xa), (2, .ref sa), (3, .ref o0), (4, .ref o1), (5, .ref o2), (6, .int x6), (7, .int x7), (9, .int x9), (10, .ref q3), (11, .int x11), (12, .int x12), (13, .ref q4), (14, .int x14), (15, .int x15), (16, .int x16), (19, .int x19)]), W p l e room_1 s m args below meth c H locs k0 (150 * k0) Z (F0 m 618 ls []) := by
  obtain ⟨hx, hb, hml, hown, hts, hK, hA⟩ := id cx
  intro k0 A V A2 V2 L x6 x7 x9 x11 x12 x14 x15 x16 x19 h hgc q3 q4 H locs ls hw hl
  refine lv_iload (pc := 618) hx hb dL_law_618 (lv_at hl 14 rfl) ?_
  refine lv_iconst (pc := 620) (v := (1 : Int32)) hx hb dL_law_620 (by decide) ?_
  refine lv_icmp_ne (pc := 621) (tgt := 668) hx hb dL_law_621 (by decide) (fun c165 => ?_) (fun c165 => ?_)
  · have h := h.1 c165
    refine lv_iinc (pc := 668) (v := x14 + 1) (lv' := [(14, .int (x14 + 1)), (0, .ref b), (1, .ref xa), (2, .ref sa), (3, .ref o0), (4, .ref o1), (5, .ref o2), (6, .int x6), (7, .int x7), (9, .int x9), (10, .ref q3), (11, .int x11), (12, .int x12), (13, .ref q4), (15, .int x15), (16, .int x16), (19, .int x19)]) hx hb dL_law_668 hl (k := 13) rfl rfl (by decide) rfl (fun ls hl => ?_)
    refine lv_goto (pc := 671) (tgt := 207) hx hb dL_law_671 (by decide) ?_
    exact hK207 k0 A V A2 V2 L x6 x7 x9 x11 x12 (x14 + 1) h hgc q3 q4 _ _ _ hw (lv_sub hl [1, 2, 3, 4, 5, 6, 7, 8, 9, 10, 11, 12, 13, 0] rfl)
  · have h := h.2 c165
    refine lv_aload (pc := 624) hx hb dL_law_624 (lv_at hl 5 rfl) ?_
    refine lv_iload (pc := 626) hx hb dL_law_626 (lv_at hl 13 rfl) ?_
    refine alI (pc := 628) cx hw 53 0 (app_l rfl) rfl h.1 dL_law_628 ?_
    have h := h.2
    refine lv_iconst (pc := 629) (v := (2 : Int32)) hx hb dL_law_629 (by decide) ?_
    refine lv_icmp_gt (pc := 630) (tgt := 666) hx hb dL_law_630 (by decide) (fun c166 => ?_) (fun c166 => ?_)
    · have h := h.1 c166
      refine lv_iconst (pc := 666) (v := (0 : Int32)) hx hb dL_law_666 (by decide) ?_
      exact False.elim h
    · have h := h.2 c166
      refine lv_iload (pc := 633) hx hb dL_law_633 (lv_at hl 15 rfl) ?_
      refine lv_aload_n (pc := 635) hx hb dL_law_635 rfl (lv_at hl 1 rfl) ?_
      refine lv_iload (pc := 636) hx hb dL_law_636 (lv_at hl 13 rfl) ?_
      refine lv_iconst (pc := 638) (v := (2 : Int32)) hx hb dL_law_638 (by decide) ?_
      refine callVi (pc := 639) (rest := [.int x16]) (c1 := k0) (s1 := 150 * k0) cx hw hl (metX5_letter l D cI cZ xa ad ad2 H.size A V A2 V2 x14 (2 : Int32) _ h) (fun hts => cwV 2 hts gL_law_X5_letter rfl rfl rfl (by decide +kernel) ⟨Nat.le_of_ble_eq_true rfl, Nat.le_of_ble_eq_true rfl⟩) (SUB.left.trans SUB.left) [0, 1] rfl 0 (ci := 5) rfl rfl rfl (JN.trans SUB.left SUB.left JN.left JN.left) rfl rfl (Nat.le_of_ble_eq_true rfl) ⟨cgLaw hgc, sgLaw hgc⟩ rfl rfl dL_law_639 (fun r167 u H locs h hw => ?_)
      obtain ⟨A_168, V_169, A_170, V_171⟩ := u
      have hw : WS D s A0 ((wD xa ad ad2 cI cZ A_168 V_169 A_170 V_171 ++ [(o0, .inl (cI, 150, .inl (L 0))), (o1, .inl (cI, 150, .inl (L 1))), (o2, .inl (cI, 150, .inl (L 2))), (q3, .inl (cI, (x6).toNatClampNeg, .inl (L 3))), (q4, .inl (cI, 6, .inl (L 4)))]) ++ simW cI cII sa ta ba da la sc so LB LD) _ _ := hw
      refine lv_icmp_lt (pc := 642) (tgt := 650) hx hb dL_law_642 (by decide) (fun c172 => ?_) (fun c172 => ?_)
      · have h := h.1 c172
        exact wk_L_law_650 K46 K207 cx hFX hsl hret hB9 hD9 hK46 hK207 k0 A_168 V_169 A_170 V_171 L x6 x7 x9 x11 x12 x14 h hgc q3 q4 _ _ _ hw (lv_sub hl [0, 1, 2, 3, 4, 5, 6, 7, 8, 9, 10, 11, 12, 13] rfl)
      · have h := h.2 c172
        refine lv_iload (pc := 645) hx hb dL_law_645 (lv_at hl 16 rfl) ?_
        refine lv_if_ne (pc := 647) (tgt := 666) hx hb dL_law_647 (by decide) (fun c173 => ?_) (fun c173 => ?_)
        · have h := h.1 c173
          refine lv_iconst (pc := 666) (v := (0 : Int32)) hx hb dL_law_666 (by decide) ?_
          exact False.elim h
        · have h := h.2 c173
          exact wk_L_law_650 K46 K207 cx hFX hsl hret hB9 hD9 hK46 hK207 k0 A_168 V_169 A_170 V_171 L x6 x7 x9 x11 x12 x14 h hgc q3 q4 _ _ _ hw (lv_sub hl [0, 1, 2, 3, 4, 5, 6, 7, 8, 9, 10, 11, 12, 13] rfl)
def wb_L_law_594 (cl : Int32 → Int32) (nB nD : Nat) (hB hD : Nat → Int32) (K46 : Nat → SA → SV → SA → SV → SA → Int32 → Int32 → Prop) (K207 : Nat → SA → SV → SA → SV → SA → Int32 → Int32 → Int32 → Int32 → Int32 → Int32 → Prop) (k0 : Nat) (A : SA) (V : SV) (A2 : SA) (V2 : SV) (L : SA) (x6 : Int32) (x7 : Int32) (x9 : Int32) (x11 : Int32) (x12 : Int32) (x14 : Int32) (x15 : Int32) (x16 : Int32) (x17 : Int32) (x19 : Int32) : Prop := ((¬ x15 = (3 : Int32) → (wb_L_law_618 cl nB nD hB hD K46 K207 k0 A V A2 V2 L x6 x7 x9 x11 x12 x14 x15 x16 x19)) ∧ (x15 = (3 : Int32) → ((¬ x17 = (1 : Int32) → (wb_L_law_618 cl nB nD hB hD K46 K207 k0 A V A2 V2 L x6 x7 x9 x11 x12 x14 x15 x16 x19)) ∧ (x17 = (1 : Int32) → (wpX5_letter A V A2 V2 x14 (2 : Int32) (fun r159 A_160 V_161 A_162 V_163 => ((x16 < r159 → False) ∧ (¬ (x16 < r159) → (wb_L_law_618 cl nB nD hB hD K46 K207 k0 A_160 V_161 A_162 V_163 L x6 x7 x9 x11 x12 x14 x15 x16 x19)))))))))
set_option maxHeartbeats 8000000 in
set_option maxRecDepth 100000 in
theorem wk_L_law_594 (K46 : Nat → SA → SV → SA → SV → SA → Int32 → Int32 → Prop) (K207 : Nat → SA → SV → SA → SV → SA → Int32 → Int32 → Int32 → Int32 → Int32 → Int32 → Prop) (cx : CX RL cL_law 21 wsL_law D [(cI, .int), (cZ, .boolean), (cII, .array .int)] p s m args c A0) (hFX : FX b sl xs A0 s) (hsl : sl ≤ 260) (hret : ∀ (ls : Array Slot) (ws : va_W) (H : Heap) (locs : List Loc) (k0 : Nat), k0 ≤ gLaw → WS D s A0 ws H locs → W p l e room_1 s m args below meth c H locs k0 (150 * k0) Z (F0 m 1047 ls [.int 1])) (hB9 : RW nB hB LB) (hD9 : RW nD hD LD) (hK46 : ∀ (k0 : Nat) (A : SA) (V : SV) (A2 : SA) (V2 : SV) (L : SA) (x6 : Int32) (x7 : Int32) (h : K46 k0 A V A2 V2 L x6 x7) (hgc : k0 ≤ gLaw)  (H : Heap) (locs : List Loc) (ls : Array Slot) (hw : WS D s A0 ((wD xa ad ad2 cI cZ A V A2 V2 ++ [(o0, .inl (cI, 150, .inl (L 0))), (o1, .inl (cI, 150, .inl (L 1))), (o2, .inl (cI, 150, .inl (L 2)))]) ++ simW cI cII sa ta ba da la sc so LB LD) H locs) (hl : lv_has ls 21 [(0, .ref b), (1, .ref xa), (2, .ref sa), (3, .ref o0), (4, .ref o1), (5, .ref o2), (6, .int x6), (7, .int x7)]), W p l e room_1 s m args below meth c H locs k0 (150 * k0) Z (F0 m 46 ls [])) (hK207 : ∀ (k0 : Nat) (A : SA) (V : SV) (A2 : SA) (V2 : SV) (L : SA) (x6 : Int32) (x7 : Int32) (x9 : Int32) (x11 : Int32) (x12 : Int32) (x14 : Int32) (h : K207 k0 A V A2 V2 L x6 x7 x9 x11 x12 x14) (hgc : k0 ≤ gLaw) (q3 : Nat) (q4 : Nat) (H : Heap) (locs : List Loc) (ls : Array Slot) (hw : WS D s A0 ((wD xa ad ad2 cI cZ A V A2 V2 ++ [(o0, .inl (cI, 150, .inl (L 0))), (o1, .inl (cI, 150, .inl (L 1))), (o2, .inl (cI, 150, .inl (L 2))), (q3, .inl (cI, (x6).toNatClampNeg, .inl (L 3))), (q4, .inl (cI, 6, .inl (L 4)))]) ++ simW cI cII sa ta ba da la sc so LB LD) H locs) (hl : lv_has ls 21 [(0, .ref b), (1, .ref xa), (2, .ref sa), (3, .ref o0), (4, .ref o1), (5, .ref o2), (6, .int x6), (7, .int x7), (9, .int x9), (10, .ref q3), (11, .int x11), (12, .int x12), (13, .ref q4), (14, .int x14)]), W p l e room_1 s m args below meth c H locs k0 (150 * k0) Z (F0 m 207 ls [])) : ∀ (k0 : Nat) (A : SA) (V : SV) (A2 : SA) (V2 : SV) (L : SA) (x6 : Int32) (x7 : Int32) (x9 : Int32) (x11 : Int32) (x12 : Int32) (x14 : Int32) (x15 : Int32) (x16 : Int32) (x17 : Int32) (x19 : Int32) (h : wb_L_law_594 (clI sl xs) nB nD hB hD K46 K207 k0 A V A2 V2 L x6 x7 x9 x11 x12 x14 x15 x16 x17 x19) (hgc : k0 ≤ gLaw) (q3 : Nat) (q4 : Nat) (H : Heap) (locs : List Loc) (ls : Array Slot) (hw : WS D s A0 ((wD xa ad ad2 cI cZ A V A2 V2 ++ [(o0, .inl (cI, 150, .inl (L 0))), (o1, .inl (cI, 150, .inl (L 1))), (o2, .inl (cI, 150, .inl (L 2))), (q3, .inl (cI, (x6).toNatClampNeg, .inl (L 3))), (q4, .inl (cI, 6, .inl (L 4)))]) ++ simW cI cII sa ta ba da la sc so LB LD) H locs) (hl : lv_has ls 21 [(0, .ref b), (1, .ref xa), (2, .ref sa), (3, .ref o0), (4, .ref o1), (5, .ref o2), (6, .int x6), (7, .int x7), (9, .int x9), (10, .ref q3), (11, .int x11), (12, .int x12), (13, .ref q4), (14, .int x14), (15, .int x15), (16, .int x16), (17, .int x17), (19, .int x19)]), W p l e room_1 s m args below meth c H locs k0 (150 * k0) Z (F0 m 594 ls []) := by
  obtain ⟨hx, hb, hml, hown, hts, hK, hA⟩ := id cx
  intro k0 A V A2 V2 L x6 x7 x9 x11 x12 x14 x15 x16 x17 x19 h hgc q3 q4 H locs ls hw hl
  refine lv_iload (pc := 594) hx hb dL_law_594 (lv_at hl 14 rfl) ?_
  refine lv_iconst (pc := 596) (v := (3 : Int32)) hx hb dL_law_596 (by decide) ?_
  refine lv_icmp_ne (pc := 597) (tgt := 618) hx hb dL_law_597 (by decide) (fun c157 => ?_) (fun c157 => ?_)
  · have h := h.1 c157
    exact wk_L_law_618 K46 K207 cx hFX hsl hret hB9 hD9 hK46 hK207 k0 A V A2 V2 L x6 x7 x9 x11 x12 x14 x15 x16 x19 h hgc q3 q4 _ _ _ hw (lv_sub hl [0, 1, 2, 3, 4, 5, 6, 7, 8, 9, 10, 11, 12, 13, 14, 15, 17] rfl)
  · have h := h.2 c157
    refine lv_iload (pc := 600) hx hb dL_law_600 (lv_at hl 16 rfl) ?_
    refine lv_iconst (pc := 602) (v := (1 : Int32)) hx hb dL_law_602 (by decide) ?_
    refine lv_icmp_ne (pc := 603) (tgt := 618) hx hb dL_law_603 (by decide) (fun c158 => ?_) (fun c158 => ?_)
    · have h := h.1 c158
      exact wk_L_law_618 K46 K207 cx hFX hsl hret hB9 hD9 hK46 hK207 k0 A V A2 V2 L x6 x7 x9 x11 x12 x14 x15 x16 x19 h hgc q3 q4 _ _ _ hw (lv_sub hl [0, 1, 2, 3, 4, 5, 6, 7, 8, 9, 10, 11, 12, 13, 14, 15, 17] rfl)
    · have h := h.2 c158
      refine lv_iload (pc := 606) hx hb dL_law_606 (lv_at hl 15 rfl) ?_
      refine lv_aload_n (pc := 608) hx hb dL_law_608 rfl (lv_at hl 1 rfl) ?_
      refine lv_iload (pc := 609) hx hb dL_law_609 (lv_at hl 13 rfl) ?_
      refine lv_iconst (pc := 611) (v := (2 : Int32)) hx hb dL_law_611 (by decide) ?_
      refine callVi (pc := 612) (rest := [.int x16]) (c1 := k0) (s1 := 150 * k0) cx hw hl (metX5_letter l D cI cZ xa ad ad2 H.size A V A2 V2 x14 (2 : Int32) _ h) (fun hts => cwV 2 hts gL_law_X5_letter rfl rfl rfl (by decide +kernel) ⟨Nat.le_of_ble_eq_true rfl, Nat.le_of_ble_eq_true rfl⟩) (SUB.left.trans SUB.left) [0, 1] rfl 0 (ci := 5) rfl rfl rfl (JN.trans SUB.left SUB.left JN.left JN.left) rfl rfl (Nat.le_of_ble_eq_true rfl) ⟨cgLaw hgc, sgLaw hgc⟩ rfl rfl dL_law_612 (fun r159 u H locs h hw => ?_)
      obtain ⟨A_160, V_161, A_162, V_163⟩ := u
      have hw : WS D s A0 ((wD xa ad ad2 cI cZ A_160 V_161 A_162 V_163 ++ [(o0, .inl (cI, 150, .inl (L 0))), (o1, .inl (cI, 150, .inl (L 1))), (o2, .inl (cI, 150, .inl (L 2))), (q3, .inl (cI, (x6).toNatClampNeg, .inl (L 3))), (q4, .inl (cI, 6, .inl (L 4)))]) ++ simW cI cII sa ta ba da la sc so LB LD) _ _ := hw
      refine lv_icmp_lt (pc := 615) (tgt := 666) hx hb dL_law_615 (by decide) (fun c164 => ?_) (fun c164 => ?_)
      · have h := h.1 c164
        refine lv_iconst (pc := 666) (v := (0 : Int32)) hx hb dL_law_666 (by decide) ?_
        exact False.elim h
      · have h := h.2 c164
        exact wk_L_law_618 K46 K207 cx hFX hsl hret hB9 hD9 hK46 hK207 k0 A_160 V_161 A_162 V_163 L x6 x7 x9 x11 x12 x14 x15 x16 x19 h hgc q3 q4 _ _ _ hw (lv_sub hl [0, 1, 2, 3, 4, 5, 6, 7, 8, 9, 10, 11, 12, 13, 14, 15, 17] rfl)
def wb_L_law_572 (cl : Int32 → Int32) (nB nD : Nat) (hB hD : Nat → Int32) (K46 : Nat → SA → SV → SA → SV → SA → Int32 → Int32 → Prop) (K207 : Nat → SA → SV → SA → SV → SA → Int32 → Int32 → Int32 → Int32 → Int32 → Int32 → Prop) (k0 : Nat) (A : SA) (V : SV) (A2 : SA) (V2 : SV) (L : SA) (x6 : Int32) (x7 : Int32) (x9 : Int32) (x11 : Int32) (x12 : Int32) (x14 : Int32) (x15 : Int32) (x16 : Int32) (x17 : Int32) (x19 : Int32) (t1 : Int32) (t2 : Int32) : Prop := (vp_in t1 150 ∧ (∀ L_153 : SA, L_153 = up L 2 t1.toNatClampNeg t2 → ((¬ x15 = (2 : Int32) → (wb_L_law_594 cl nB nD hB hD K46 K207 k0 A V A2 V2 L_153 x6 x7 x9 x11 x12 x14 x15 x16 x17 x19)) ∧ (x15 = (2 : Int32) → ((¬ x17 = (1 : Int32) → (wb_L_law_594 cl nB nD hB hD K46 K207 k0 A V A2 V2 L_153 x6 x7 x9 x11 x12 x14 x15 x16 x17 x19)) ∧ (x17 = (1 : Int32) → (vp_in x14 150 ∧ ((¬ ((L_153 2) x14.toNatClampNeg) = (3 : Int32) → False) ∧ (((L_153 2) x14.toNatClampNeg) = (3 : Int32) → (wb_L_law_594 cl nB nD hB hD K46 K207 k0 A V A2 V2 L_153 x6 x7 x9 x11 x12 x14 x15 x16 x17 x19))))))))))
set_option maxHeartbeats 8000000 in
set_option maxRecDepth 100000 in
theorem wk_L_law_572 (K46 : Nat → SA → SV → SA → SV → SA → Int32 → Int32 → Prop) (K207 : Nat → SA → SV → SA → SV → SA → Int32 → Int32 → Int32 → Int32 → Int32 → Int32 → Prop) (cx : CX RL cL_law 21 wsL_law D [(cI, .int), (cZ, .boolean), (cII, .array .int)] p s m args c A0) (hFX : FX b sl xs A0 s) (hsl : sl ≤ 260) (hret : ∀ (ls : Array Slot) (ws : va_W) (H : Heap) (locs : List Loc) (k0 : Nat), k0 ≤ gLaw → WS D s A0 ws H locs → W p l e room_1 s m args below meth c H locs k0 (150 * k0) Z (F0 m 1047 ls [.int 1])) (hB9 : RW nB hB LB) (hD9 : RW nD hD LD) (hK46 : ∀ (k0 : Nat) (A : SA) (V : SV) (A2 : SA) (V2 : SV) (L : SA) (x6 : Int32) (x7 : Int32) (h : K46 k0 A V A2 V2 L x6 x7) (hgc : k0 ≤ gLaw)  (H : Heap) (locs : List Loc) (ls : Array Slot) (hw : WS D s A0 ((wD xa ad ad2 cI cZ A V A2 V2 ++ [(o0, .inl (cI, 150, .inl (L 0))), (o1, .inl (cI, 150, .inl (L 1))), (o2, .inl (cI, 150, .inl (L 2)))]) ++ simW cI cII sa ta ba da la sc so LB LD) H locs) (hl : lv_has ls 21 [(0, .ref b), (1, .ref xa), (2, .ref sa), (3, .ref o0), (4, .ref o1), (5, .ref o2), (6, .int x6), (7, .int x7)]), W p l e room_1 s m args below meth c H locs k0 (150 * k0) Z (F0 m 46 ls [])) (hK207 : ∀ (k0 : Nat) (A : SA) (V : SV) (A2 : SA) (V2 : SV) (L : SA) (x6 : Int32) (x7 : Int32) (x9 : Int32) (x11 : Int32) (x12 : Int32) (x14 : Int32) (h : K207 k0 A V A2 V2 L x6 x7 x9 x11 x12 x14) (hgc : k0 ≤ gLaw) (q3 : Nat) (q4 : Nat) (H : Heap) (locs : List Loc) (ls : Array Slot) (hw : WS D s A0 ((wD xa ad ad2 cI cZ A V A2 V2 ++ [(o0, .inl (cI, 150, .inl (L 0))), (o1, .inl (cI, 150, .inl (L 1))), (o2, .inl (cI, 150, .inl (L 2))), (q3, .inl (cI, (x6).toNatClampNeg, .inl (L 3))), (q4, .inl (cI, 6, .inl (L 4)))]) ++ simW cI cII sa ta ba da la sc so LB LD) H locs) (hl : lv_has ls 21 [(0, .ref b), (1, .ref xa), (2, .ref sa), (3, .ref o0), (4, .ref o1), (5, .ref o2), (6, .int x6), (7, .int x7), (9, .int x9), (10, .ref q3), (11, .int x11), (12, .int x12), (13, .ref q4), (14, .int x14)]), W p l e room_1 s m args below meth c H locs k0 (150 * k0) Z (F0 m 207 ls [])) : ∀ (k0 : Nat) (A : SA) (V : SV) (A2 : SA) (V2 : SV) (L : SA) (x6 : Int32) (x7 : Int32) (x9 : Int32) (x11 : Int32) (x12 : Int32) (x14 : Int32) (x15 : Int32) (x16 : Int32) (x17 : Int32) (x19 : Int32) (t1 : Int32) (t2 : Int32) (h : wb_L_law_572 (clI sl xs) nB nD hB hD K46 K207 k0 A V A2 V2 L x6 x7 x9 x11 x12 x14 x15 x16 x17 x19 t1 t2) (hgc : k0 ≤ gLaw) (q3 : Nat) (q4 : Nat) (H : Heap) (locs : List Loc) (ls : Array Slot) (hw : WS D s A0 ((wD xa ad ad2 cI cZ A V A2 V2 ++ [(o0, .inl (cI, 150, .inl (L 0))), (o1, .inl (cI, 150, .inl (L 1))), (o2, .inl (cI, 150, .inl (L 2))), (q3, .inl (cI, (x6).toNatClampNeg, .inl (L 3))), (q4, .inl (cI, 6, .inl (L 4)))]) ++ simW cI cII sa ta ba da la sc so LB LD) H locs) (hl : lv_has ls 21 [(0, .ref b), (1, .ref xa), (2, .ref sa), (3, .ref o0), (4, .ref o1), (5, .ref o2), (6, .int x6), (7, .int x7), (9, .int x9), (10, .ref q3), (11, .int x11), (12, .int x12), (13, .ref q4), (14, .int x14), (15, .int x15), (16, .int x16), (17, .int x17), (19, .int x19)]), W p l e room_1 s m args below meth c H locs k0 (150 * k0) Z (F0 m 572 ls [.int t2, .int t1, .ref o2]) := by
  obtain ⟨hx, hb, hml, hown, hts, hK, hA⟩ := id cx
  intro k0 A V A2 V2 L x6 x7 x9 x11 x12 x14 x15 x16 x17 x19 t1 t2 h hgc q3 q4 H locs ls hw hl
  obtain ⟨L_153, eL_153⟩ : ∃ z : SA, z = up L 2 t1.toNatClampNeg t2 := ⟨_, rfl⟩
  refine asI (pc := 572) cx hw 53 0 (app_l rfl) rfl (i := t1) h.1 (ws1 := ((wD xa ad ad2 cI cZ A V A2 V2 ++ [(o0, .inl (cI, 150, .inl (L_153 0))), (o1, .inl (cI, 150, .inl (L_153 1))), (o2, .inl (cI, 150, .inl (L_153 2))), (q3, .inl (cI, (x6).toNatClampNeg, .inl (L_153 3))), (q4, .inl (cI, 6, .inl (L_153 4)))]) ++ simW cI cII sa ta ba da la sc so LB LD)) (set_l (Nat.le_of_ble_eq_true rfl) (by rw [eL_153]; rfl)) dL_law_572 (fun H locs hw => ?_)
  have h := h.2 L_153 eL_153
  refine lv_iload (pc := 573) hx hb dL_law_573 (lv_at hl 14 rfl) ?_
  refine lv_iconst (pc := 575) (v := (2 : Int32)) hx hb dL_law_575 (by decide) ?_
  refine lv_icmp_ne (pc := 576) (tgt := 594) hx hb dL_law_576 (by decide) (fun c154 => ?_) (fun c154 => ?_)
  · have h := h.1 c154
    exact wk_L_law_594 K46 K207 cx hFX hsl hret hB9 hD9 hK46 hK207 k0 A V A2 V2 L_153 x6 x7 x9 x11 x12 x14 x15 x16 x17 x19 h hgc q3 q4 _ _ _ hw (lv_sub hl [0, 1, 2, 3, 4, 5, 6, 7, 8, 9, 10, 11, 12, 13, 14, 15, 16, 17] rfl)
  · have h := h.2 c154
    refine lv_iload (pc := 579) hx hb dL_law_579 (lv_at hl 16 rfl) ?_
    refine lv_iconst (pc := 581) (v := (1 : Int32)) hx hb dL_law_581 (by decide) ?_
    refine lv_icmp_ne (pc := 582) (tgt := 594) hx hb dL_law_582 (by decide) (fun c155 => ?_) (fun c155 => ?_)
    · have h := h.1 c155
      exact wk_L_law_594 K46 K207 cx hFX hsl hret hB9 hD9 hK46 hK207 k0 A V A2 V2 L_153 x6 x7 x9 x11 x12 x14 x15 x16 x17 x19 h hgc q3 q4 _ _ _ hw (lv_sub hl [0, 1, 2, 3, 4, 5, 6, 7, 8, 9, 10, 11, 12, 13, 14, 15, 16, 17] rfl)
    · have h := h.2 c155
      refine lv_aload (pc := 585) hx hb dL_law_585 (lv_at hl 5 rfl) ?_
      refine lv_iload (pc := 587) hx hb dL_law_587 (lv_at hl 13 rfl) ?_
      refine alI (pc := 589) cx hw 53 0 (app_l rfl) rfl h.1 dL_law_589 ?_
      have h := h.2
      refine lv_iconst (pc := 590) (v := (3 : Int32)) hx hb dL_law_590 (by decide) ?_
      refine lv_icmp_ne (pc := 591) (tgt := 666) hx hb dL_law_591 (by decide) (fun c156 => ?_) (fun c156 => ?_)
      · have h := h.1 c156
        refine lv_iconst (pc := 666) (v := (0 : Int32)) hx hb dL_law_666 (by decide) ?_
        exact False.elim h
      · have h := h.2 c156
        exact wk_L_law_594 K46 K207 cx hFX hsl hret hB9 hD9 hK46 hK207 k0 A V A2 V2 L_153 x6 x7 x9 x11 x12 x14 x15 x16 x17 x19 h hgc q3 q4 _ _ _ hw (lv_sub hl [0, 1, 2, 3, 4, 5, 6, 7, 8, 9, 10, 11, 12, 13, 14, 15, 16, 17] rfl)
def wb_L_law_526 (cl : Int32 → Int32) (nB nD : Nat) (hB hD : Nat → Int32) (K46 : Nat → SA → SV → SA → SV → SA → Int32 → Int32 → Prop) (K207 : Nat → SA → SV → SA → SV → SA → Int32 → Int32 → Int32 → Int32 → Int32 → Int32 → Prop) (k0 : Nat) (A : SA) (V : SV) (A2 : SA) (V2 : SV) (L : SA) (x6 : Int32) (x7 : Int32) (x9 : Int32) (x11 : Int32) (x12 : Int32) (x14 : Int32) (x15 : Int32) (x16 : Int32) (x17 : Int32) (x19 : Int32) : Prop := ((0 ≤ x16 → ((x19 = 0 → (wb_L_law_572 cl nB nD hB hD K46 K207 k0 A V A2 V2 L x6 x7 x9 x11 x12 x14 x15 x16 x17 x19 x14 (0 : Int32))) ∧ (¬ (x19 = 0) → (wpX5_letter A V A2 V2 x14 (0 : Int32) (fun r147 A_148 V_149 A_150 V_151 => (vp_in r147 nD ∧ ((x9 < (hD r147.toNatClampNeg) → (wb_L_law_572 cl nB nD hB hD K46 K207 k0 A_148 V_149 A_150 V_151 L x6 x7 x9 x11 x12 x14 x15 x16 x17 x19 x14 (0 : Int32))) ∧ (¬ (x9 < (hD r147.toNatClampNeg)) → (vp_in x14 150 ∧ (wb_L_law_572 cl nB nD hB hD K46 K207 k0 A_148 V_149 A_150 V_151 L x6 x7 x9 x11 x12 x14 x15 x16 x17 x19 x14 (((L 2) x14.toNatClampNeg) + (1 : Int32)))))))))))) ∧ (¬ (0 ≤ x16) → False))
set_option maxHeartbeats 8000000 in
set_option maxRecDepth 100000 in
theorem wk_L_law_526 (K46 : Nat → SA → SV → SA → SV → SA → Int32 → Int32 → Prop) (K207 : Nat → SA → SV → SA → SV → SA → Int32 → Int32 → Int32 → Int32 → Int32 → Int32 → Prop) (cx : CX RL cL_law 21 wsL_law D [(cI, .int), (cZ, .boolean), (cII, .array .int)] p s m args c A0) (hFX : FX b sl xs A0 s) (hsl : sl ≤ 260) (hret : ∀ (ls : Array Slot) (ws : va_W) (H : Heap) (locs : List Loc) (k0 : Nat), k0 ≤ gLaw → WS D s A0 ws H locs → W p l e room_1 s m args below meth c H locs k0 (150 * k0) Z (F0 m 1047 ls [.int 1])) (hB9 : RW nB hB LB) (hD9 : RW nD hD LD) (hK46 : ∀ (k0 : Nat) (A : SA) (V : SV) (A2 : SA) (V2 : SV) (L : SA) (x6 : Int32) (x7 : Int32) (h : K46 k0 A V A2 V2 L x6 x7) (hgc : k0 ≤ gLaw)  (H : Heap) (locs : List Loc) (ls : Array Slot) (hw : WS D s A0 ((wD xa ad ad2 cI cZ A V A2 V2 ++ [(o0, .inl (cI, 150, .inl (L 0))), (o1, .inl (cI, 150, .inl (L 1))), (o2, .inl (cI, 150, .inl (L 2)))]) ++ simW cI cII sa ta ba da la sc so LB LD) H locs) (hl : lv_has ls 21 [(0, .ref b), (1, .ref xa), (2, .ref sa), (3, .ref o0), (4, .ref o1), (5, .ref o2), (6, .int x6), (7, .int x7)]), W p l e room_1 s m args below meth c H locs k0 (150 * k0) Z (F0 m 46 ls [])) (hK207 : ∀ (k0 : Nat) (A : SA) (V : SV) (A2 : SA) (V2 : SV) (L : SA) (x6 : Int32) (x7 : Int32) (x9 : Int32) (x11 : Int32) (x12 : Int32) (x14 : Int32) (h : K207 k0 A V A2 V2 L x6 x7 x9 x11 x12 x14) (hgc : k0 ≤ gLaw) (q3 : Nat) (q4 : Nat) (H : Heap) (locs : List Loc) (ls : Array Slot) (hw : WS D s A0 ((wD xa ad ad2 cI cZ A V A2 V2 ++ [(o0, .inl (cI, 150, .inl (L 0))), (o1, .inl (cI, 150, .inl (L 1))), (o2, .inl (cI, 150, .inl (L 2))), (q3, .inl (cI, (x6).toNatClampNeg, .inl (L 3))), (q4, .inl (cI, 6, .inl (L 4)))]) ++ simW cI cII sa ta ba da la sc so LB LD) H locs) (hl : lv_has ls 21 [(0, .ref b), (1, .ref xa), (2, .ref sa), (3, .ref o0), (4, .ref o1), (5, .ref o2), (6, .int x6), (7, .int x7), (9, .int x9), (10, .ref q3), (11, .int x11), (12, .int x12), (13, .ref q4), (14, .int x14)]), W p l e room_1 s m args below meth c H locs k0 (150 * k0) Z (F0 m 207 ls [])) : ∀ (k0 : Nat) (A : SA) (V : SV) (A2 : SA) (V2 : SV) (L : SA) (x6 : Int32) (x7 : Int32) (x9 : Int32) (x11 : Int32) (x12 : Int32) (x14 : Int32) (x15 : Int32) (x16 : Int32) (x17 : Int32) (x19 : Int32) (h : wb_L_law_526 (clI sl xs) nB nD hB hD K46 K207 k0 A V A2 V2 L x6 x7 x9 x11 x12 x14 x15 x16 x17 x19) (hgc : k0 ≤ gLaw) (q3 : Nat) (q4 : Nat) (H : Heap) (locs : List Loc) (ls : Array Slot) (hw : WS D s A0 ((wD xa ad ad2 cI cZ A V A2 V2 ++ [(o0, .inl (cI, 150, .inl (L 0))), (o1, .inl (cI, 150, .inl (L 1))), (o2, .inl (cI, 150, .inl (L 2))), (q3, .inl (cI, (x6).toNatClampNeg, .inl (L 3))), (q4, .inl (cI, 6, .inl (L 4)))]) ++ simW cI cII sa ta ba da la sc so LB LD) H locs) (hl : lv_has ls 21 [(0, .ref b), (1, .ref xa), (2, .ref sa), (3, .ref o0), (4, .ref o1), (5, .ref o2), (6, .int x6), (7, .int x7), (9, .int x9), (10, .ref q3), (11, .int x11), (12, .int x12), (13, .ref q4), (14, .int x14), (15, .int x15), (16, .int x16), (17, .int x17), (19, .int x19)]), W p l e room_1 s m args below meth c H locs k0 (150 * k0) Z (F0 m 526 ls []) := by
  obtain ⟨hx, hb, hml, hown, hts, hK, hA⟩ := id cx
  intro k0 A V A2 V2 L x6 x7 x9 x11 x12 x14 x15 x16 x17 x19 h hgc q3 q4 H locs ls hw hl
  refine lv_iload (pc := 526) hx hb dL_law_526 (lv_at hl 15 rfl) ?_
  refine lv_if_ge (pc := 528) (tgt := 533) hx hb dL_law_528 (by decide) (fun c145 => ?_) (fun c145 => ?_)
  · have h := h.1 c145
    refine lv_aload (pc := 533) hx hb dL_law_533 (lv_at hl 5 rfl) ?_
    refine lv_iload (pc := 535) hx hb dL_law_535 (lv_at hl 13 rfl) ?_
    refine lv_iload (pc := 537) hx hb dL_law_537 (lv_at hl 17 rfl) ?_
    refine lv_if_eq (pc := 539) (tgt := 571) hx hb dL_law_539 (by decide) (fun c146 => ?_) (fun c146 => ?_)
    · have h := h.1 c146
      refine lv_iconst (pc := 571) (v := (0 : Int32)) hx hb dL_law_571 (by decide) ?_
      exact wk_L_law_572 K46 K207 cx hFX hsl hret hB9 hD9 hK46 hK207 k0 A V A2 V2 L x6 x7 x9 x11 x12 x14 x15 x16 x17 x19 x14 (0 : Int32) h hgc q3 q4 _ _ _ hw (lv_sub hl [0, 1, 2, 3, 4, 5, 6, 7, 8, 9, 10, 11, 12, 13, 14, 15, 16, 17] rfl)
    · have h := h.2 c146
      refine lv_iload (pc := 542) hx hb dL_law_542 (lv_at hl 8 rfl) ?_
      refine lv_aload_n (pc := 544) hx hb dL_law_544 rfl (lv_at hl 2 rfl) ?_
      refine geF (pc := 545) (C := RX7) (T := TX7) (N := 7) (ci := 6) cx inL_law_X7 rfl 3 (by decide) kL_law_w_fieldLink_RL_50__DrownedPostLaw_Sim___drowned_____I_ hw _ (app_r (k := 0) rfl) rfl dL_law_545 ?_
      refine lv_aload_n (pc := 548) hx hb dL_law_548 rfl (lv_at hl 1 rfl) ?_
      refine lv_iload (pc := 549) hx hb dL_law_549 (lv_at hl 13 rfl) ?_
      refine lv_iconst (pc := 551) (v := (0 : Int32)) hx hb dL_law_551 (by decide) ?_
      refine callVi (pc := 552) (rest := [.ref da, .int x9, .int x14, .ref o2]) (c1 := k0) (s1 := 150 * k0) cx hw hl (metX5_letter l D cI cZ xa ad ad2 H.size A V A2 V2 x14 (0 : Int32) _ h) (fun hts => cwV 2 hts gL_law_X5_letter rfl rfl rfl (by decide +kernel) ⟨Nat.le_of_ble_eq_true rfl, Nat.le_of_ble_eq_true rfl⟩) (SUB.left.trans SUB.left) [0, 1] rfl 0 (ci := 5) rfl rfl rfl (JN.trans SUB.left SUB.left JN.left JN.left) rfl rfl (Nat.le_of_ble_eq_true rfl) ⟨cgLaw hgc, sgLaw hgc⟩ rfl rfl dL_law_552 (fun r147 u H locs h hw => ?_)
      obtain ⟨A_148, V_149, A_150, V_151⟩ := u
      have hw : WS D s A0 ((wD xa ad ad2 cI cZ A_148 V_149 A_150 V_151 ++ [(o0, .inl (cI, 150, .inl (L 0))), (o1, .inl (cI, 150, .inl (L 1))), (o2, .inl (cI, 150, .inl (L 2))), (q3, .inl (cI, (x6).toNatClampNeg, .inl (L 3))), (q4, .inl (cI, 6, .inl (L 4)))]) ++ simW cI cII sa ta ba da la sc so LB LD) _ _ := hw
      refine rdD (pc := 555) cx hw hD9 h.1 dL_law_555 dL_law_556 dL_law_557 ?_
      have h := h.2
      refine lv_icmp_lt (pc := 558) (tgt := 571) hx hb dL_law_558 (by decide) (fun c152 => ?_) (fun c152 => ?_)
      · have h := h.1 c152
        refine lv_iconst (pc := 571) (v := (0 : Int32)) hx hb dL_law_571 (by decide) ?_
        exact wk_L_law_572 K46 K207 cx hFX hsl hret hB9 hD9 hK46 hK207 k0 A_148 V_149 A_150 V_151 L x6 x7 x9 x11 x12 x14 x15 x16 x17 x19 x14 (0 : Int32) h hgc q3 q4 _ _ _ hw (lv_sub hl [0, 1, 2, 3, 4, 5, 6, 7, 8, 9, 10, 11, 12, 13, 14, 15, 16, 17] rfl)
      · have h := h.2 c152
        refine lv_aload (pc := 561) hx hb dL_law_561 (lv_at hl 5 rfl) ?_
        refine lv_iload (pc := 563) hx hb dL_law_563 (lv_at hl 13 rfl) ?_
        refine alI (pc := 565) cx hw 53 0 (app_l rfl) rfl h.1 dL_law_565 ?_
        have h := h.2
        refine lv_iconst (pc := 566) (v := (1 : Int32)) hx hb dL_law_566 (by decide) ?_
        refine lv_iadd (pc := 567) hx hb dL_law_567 ?_
        refine lv_goto (pc := 568) (tgt := 572) hx hb dL_law_568 (by decide) ?_
        exact wk_L_law_572 K46 K207 cx hFX hsl hret hB9 hD9 hK46 hK207 k0 A_148 V_149 A_150 V_151 L x6 x7 x9 x11 x12 x14 x15 x16 x17 x19 x14 (((L 2) x14.toNatClampNeg) + (1 : Int32)) h hgc q3 q4 _ _ _ hw (lv_sub hl [0, 1, 2, 3, 4, 5, 6, 7, 8, 9, 10, 11, 12, 13, 14, 15, 16, 17] rfl)
  · have h := h.2 c145
    refine lv_iconst (pc := 531) (v := (0 : Int32)) hx hb dL_law_531 (by decide) ?_
    exact False.elim h
def wb_L_law_509 (cl : Int32 → Int32) (nB nD : Nat) (hB hD : Nat → Int32) (K46 : Nat → SA → SV → SA → SV → SA → Int32 → Int32 → Prop) (K207 : Nat → SA → SV → SA → SV → SA → Int32 → Int32 → Int32 → Int32 → Int32 → Int32 → Prop) (k0 : Nat) (A : SA) (V : SV) (A2 : SA) (V2 : SV) (L : SA) (x6 : Int32) (x7 : Int32) (x9 : Int32) (x11 : Int32) (x12 : Int32) (x14 : Int32) (x15 : Int32) (x16 : Int32) (x17 : Int32) (x19 : Int32) : Prop := ((¬ x19 = 0 → (wb_L_law_526 cl nB nD hB hD K46 K207 k0 A V A2 V2 L x6 x7 x9 x11 x12 x14 x15 x16 x17 x19)) ∧ (x19 = 0 → (vp_in x14 150 ∧ ((x16 < (((L 1) x14.toNatClampNeg) - (2 : Int32)) → False) ∧ (¬ (x16 < (((L 1) x14.toNatClampNeg) - (2 : Int32))) → (wb_L_law_526 cl nB nD hB hD K46 K207 k0 A V A2 V2 L x6 x7 x9 x11 x12 x14 x15 x16 x17 x19))))))
set_option maxHeartbeats 8000000 in
set_option maxRecDepth 100000 in
theorem wk_L_law_509 (K46 : Nat → SA → SV → SA → SV → SA → Int32 → Int32 → Prop) (K207 : Nat → SA → SV → SA → SV → SA → Int32 → Int32 → Int32 → Int32 → Int32 → Int32 → Prop) (cx : CX RL cL_law 21 wsL_law D [(cI, .int), (cZ, .boolean), (cII, .array .int)] p s m args c A0) (hFX : FX b sl xs A0 s) (hsl : sl ≤ 260) (hret : ∀ (ls : Array Slot) (ws : va_W) (H : Heap) (locs : List Loc) (k0 : Nat), k0 ≤ gLaw → WS D s A0 ws H locs → W p l e room_1 s m args below meth c H locs k0 (150 * k0) Z (F0 m 1047 ls [.int 1])) (hB9 : RW nB hB LB) (hD9 : RW nD hD LD) (hK46 : ∀ (k0 : Nat) (A : SA) (V : SV) (A2 : SA) (V2 : SV) (L : SA) (x6 : Int32) (x7 : Int32) (h : K46 k0 A V A2 V2 L x6 x7) (hgc : k0 ≤ gLaw)  (H : Heap) (locs : List Loc) (ls : Array Slot) (hw : WS D s A0 ((wD xa ad ad2 cI cZ A V A2 V2 ++ [(o0, .inl (cI, 150, .inl (L 0))), (o1, .inl (cI, 150, .inl (L 1))), (o2, .inl (cI, 150, .inl (L 2)))]) ++ simW cI cII sa ta ba da la sc so LB LD) H locs) (hl : lv_has ls 21 [(0, .ref b), (1, .ref xa), (2, .ref sa), (3, .ref o0), (4, .ref o1), (5, .ref o2), (6, .int x6), (7, .int x7)]), W p l e room_1 s m args below meth c H locs k0 (150 * k0) Z (F0 m 46 ls [])) (hK207 : ∀ (k0 : Nat) (A : SA) (V : SV) (A2 : SA) (V2 : SV) (L : SA) (x6 : Int32) (x7 : Int32) (x9 : Int32) (x11 : Int32) (x12 : Int32) (x14 : Int32) (h : K207 k0 A V A2 V2 L x6 x7 x9 x11 x12 x14) (hgc : k0 ≤ gLaw) (q3 : Nat) (q4 : Nat) (H : Heap) (locs : List Loc) (ls : Array Slot) (hw : WS D s A0 ((wD xa ad ad2 cI cZ A V A2 V2 ++ [(o0, .inl (cI, 150, .inl (L 0))), (o1, .inl (cI, 150, .inl (L 1))), (o2, .inl (cI, 150, .inl (L 2))), (q3, .inl (cI, (x6).toNatClampNeg, .inl (L 3))), (q4, .inl (cI, 6, .inl (L 4)))]) ++ simW cI cII sa ta ba da la sc so LB LD) H locs) (hl : lv_has ls 21 [(0, .ref b), (1, .ref xa), (2, .ref sa), (3, .ref o0), (4, .ref o1), (5, .ref o2), (6, .int x6), (7, .int x7), (9, .int x9), (10, .ref q3), (11, .int x11), (12, .int x12), (13, .ref q4), (14, .int x14)]), W p l e room_1 s m args below meth c H locs k0 (150 * k0) Z (F0 m 207 ls [])) : ∀ (k0 : Nat) (A : SA) (V : SV) (A2 : SA) (V2 : SV) (L : SA) (x6 : Int32) (x7 : Int32) (x9 : Int32) (x11 : Int32) (x12 : Int32) (x14 : Int32) (x15 : Int32) (x16 : Int32) (x17 : Int32) (x19 : Int32) (h : wb_L_law_509 (clI sl xs) nB nD hB hD K46 K207 k0 A V A2 V2 L x6 x7 x9 x11 x12 x14 x15 x16 x17 x19) (hgc : k0 ≤ gLaw) (q3 : Nat) (q4 : Nat) (H : Heap) (locs : List Loc) (ls : Array Slot) (hw : WS D s A0 ((wD xa ad ad2 cI cZ A V A2 V2 ++ [(o0, .inl (cI, 150, .inl (L 0))), (o1, .inl (cI, 150, .inl (L 1))), (o2, .inl (cI, 150, .inl (L 2))), (q3, .inl (cI, (x6).toNatClampNeg, .inl (L 3))), (q4, .inl (cI, 6, .inl (L 4)))]) ++ simW cI cII sa ta ba da la sc so LB LD) H locs) (hl : lv_has ls 21 [(0, .ref b), (1, .ref xa), (2, .ref sa), (3, .ref o0), (4, .ref o1), (5, .ref o2), (6, .int x6), (7, .int x7), (9, .int x9), (10, .ref q3), (11, .int x11), (12, .int x12), (13, .ref q4), (14, .int x14), (15, .int x15), (16, .int x16), (17, .int x17), (19, .int x19)]), W p l e room_1 s m args below meth c H locs k0 (150 * k0) Z (F0 m 509 ls []) := by
  obtain ⟨hx, hb, hml, hown, hts, hK, hA⟩ := id cx
  intro k0 A V A2 V2 L x6 x7 x9 x11 x12 x14 x15 x16 x17 x19 h hgc q3 q4 H locs ls hw hl
  refine lv_iload (pc := 509) hx hb dL_law_509 (lv_at hl 17 rfl) ?_
  refine lv_if_ne (pc := 511) (tgt := 526) hx hb dL_law_511 (by decide) (fun c143 => ?_) (fun c143 => ?_)
  · have h := h.1 c143
    exact wk_L_law_526 K46 K207 cx hFX hsl hret hB9 hD9 hK46 hK207 k0 A V A2 V2 L x6 x7 x9 x11 x12 x14 x15 x16 x17 x19 h hgc q3 q4 _ _ _ hw (lv_sub hl [0, 1, 2, 3, 4, 5, 6, 7, 8, 9, 10, 11, 12, 13, 14, 15, 16, 17] rfl)
  · have h := h.2 c143
    refine lv_iload (pc := 514) hx hb dL_law_514 (lv_at hl 15 rfl) ?_
    refine lv_aload (pc := 516) hx hb dL_law_516 (lv_at hl 4 rfl) ?_
    refine lv_iload (pc := 518) hx hb dL_law_518 (lv_at hl 13 rfl) ?_
    refine alI (pc := 520) cx hw 52 0 (app_l rfl) rfl h.1 dL_law_520 ?_
    have h := h.2
    refine lv_iconst (pc := 521) (v := (2 : Int32)) hx hb dL_law_521 (by decide) ?_
    refine lv_isub (pc := 522) hx hb dL_law_522 ?_
    refine lv_icmp_lt (pc := 523) (tgt := 531) hx hb dL_law_523 (by decide) (fun c144 => ?_) (fun c144 => ?_)
    · have h := h.1 c144
      refine lv_iconst (pc := 531) (v := (0 : Int32)) hx hb dL_law_531 (by decide) ?_
      exact False.elim h
    · have h := h.2 c144
      exact wk_L_law_526 K46 K207 cx hFX hsl hret hB9 hD9 hK46 hK207 k0 A V A2 V2 L x6 x7 x9 x11 x12 x14 x15 x16 x17 x19 h hgc q3 q4 _ _ _ hw (lv_sub hl [0, 1, 2, 3, 4, 5, 6, 7, 8, 9, 10, 11, 12, 13, 14, 15, 16, 17] rfl)
def wb_L_law_476 (cl : Int32 → Int32) (nB nD : Nat) (hB hD : Nat → Int32) (K46 : Nat → SA → SV → SA → SV → SA → Int32 → Int32 → Prop) (K207 : Nat → SA → SV → SA → SV → SA → Int32 → Int32 → Int32 → Int32 → Int32 → Int32 → Prop) (k0 : Nat) (A : SA) (V : SV) (A2 : SA) (V2 : SV) (L : SA) (x6 : Int32) (x7 : Int32) (x9 : Int32) (x11 : Int32) (x12 : Int32) (x14 : Int32) (x15 : Int32) (x16 : Int32) (x17 : Int32) (x19 : Int32) (t0 : Int32) : Prop := (vp_in x14 150 ∧ (((((L 1) x14.toNatClampNeg) + t0) < x16 → False) ∧ (¬ ((((L 1) x14.toNatClampNeg) + t0) < x16) → ((x19 = 0 → (wb_L_law_509 cl nB nD hB hD K46 K207 k0 A V A2 V2 L x6 x7 x9 x11 x12 x14 x15 x16 x17 x19)) ∧ (¬ (x19 = 0) → (vp_in x14 150 ∧ ((¬ x16 = (((L 1) x14.toNatClampNeg) + t0) → False) ∧ (x16 = (((L 1) x14.toNatClampNeg) + t0) → (wb_L_law_509 cl nB nD hB hD K46 K207 k0 A V A2 V2 L x6 x7 x9 x11 x12 x14 x15 x16 x17 x19)))))))))
set_option maxHeartbeats 8000000 in
set_option maxRecDepth 100000 in
theorem wk_L_law_476 (K46 : Nat → SA → SV → SA → SV → SA → Int32 → Int32 → Prop) (K207 : Nat → SA → SV → SA → SV → SA → Int32 → Int32 → Int32 → Int32 → Int32 → Int32 → Prop) (cx : CX RL cL_law 21 wsL_law D [(cI, .int), (cZ, .boolean), (cII, .array .int)] p s m args c A0) (hFX : FX b sl xs A0 s) (hsl : sl ≤ 260) (hret : ∀ (ls : Array Slot) (ws : va_W) (H : Heap) (locs : List Loc) (k0 : Nat), k0 ≤ gLaw → WS D s A0 ws H locs → W p l e room_1 s m args below meth c H locs k0 (150 * k0) Z (F0 m 1047 ls [.int 1])) (hB9 : RW nB hB LB) (hD9 : RW nD hD LD) (hK46 : ∀ (k0 : Nat) (A : SA) (V : SV) (A2 : SA) (V2 : SV) (L : SA) (x6 : Int32) (x7 : Int32) (h : K46 k0 A V A2 V2 L x6 x7) (hgc : k0 ≤ gLaw)  (H : Heap) (locs : List Loc) (ls : Array Slot) (hw : WS D s A0 ((wD xa ad ad2 cI cZ A V A2 V2 ++ [(o0, .inl (cI, 150, .inl (L 0))), (o1, .inl (cI, 150, .inl (L 1))), (o2, .inl (cI, 150, .inl (L 2)))]) ++ simW cI cII sa ta ba da la sc so LB LD) H locs) (hl : lv_has ls 21 [(0, .ref b), (1, .ref xa), (2, .ref sa), (3, .ref o0), (4, .ref o1), (5, .ref o2), (6, .int x6), (7, .int x7)]), W p l e room_1 s m args below meth c H locs k0 (150 * k0) Z (F0 m 46 ls [])) (hK207 : ∀ (k0 : Nat) (A : SA) (V : SV) (A2 : SA) (V2 : SV) (L : SA) (x6 : Int32) (x7 : Int32) (x9 : Int32) (x11 : Int32) (x12 : Int32) (x14 : Int32) (h : K207 k0 A V A2 V2 L x6 x7 x9 x11 x12 x14) (hgc : k0 ≤ gLaw) (q3 : Nat) (q4 : Nat) (H : Heap) (locs : List Loc) (ls : Array Slot) (hw : WS D s A0 ((wD xa ad ad2 cI cZ A V A2 V2 ++ [(o0, .inl (cI, 150, .inl (L 0))), (o1, .inl (cI, 150, .inl (L 1))), (o2, .inl (cI, 150, .inl (L 2))), (q3, .inl (cI, (x6).toNatClampNeg, .inl (L 3))), (q4, .inl (cI, 6, .inl (L 4)))]) ++ simW cI cII sa ta ba da la sc so LB LD) H locs) (hl : lv_has ls 21 [(0, .ref b), (1, .ref xa), (2, .ref sa), (3, .ref o0), (4, .ref o1), (5, .ref o2), (6, .int x6), (7, .int x7), (9, .int x9), (10, .ref q3), (11, .int x11), (12, .int x12), (13, .ref q4), (14, .int x14)]), W p l e room_1 s m args below meth c H locs k0 (150 * k0) Z (F0 m 207 ls [])) : ∀ (k0 : Nat) (A : SA) (V : SV) (A2 : SA) (V2 : SV) (L : SA) (x6 : Int32) (x7 : Int32) (x9 : Int32) (x11 : Int32) (x12 : Int32) (x14 : Int32) (x15 : Int32) (x16 : Int32) (x17 : Int32) (x19 : Int32) (t0 : Int32) (h : wb_L_law_476 (clI sl xs) nB nD hB hD K46 K207 k0 A V A2 V2 L x6 x7 x9 x11 x12 x14 x15 x16 x17 x19 t0) (hgc : k0 ≤ gLaw) (q3 : Nat) (q4 : Nat) (H : Heap) (locs : List Loc) (ls : Array Slot) (hw : WS D s A0 ((wD xa ad ad2 cI cZ A V A2 V2 ++ [(o0, .inl (cI, 150, .inl (L 0))), (o1, .inl (cI, 150, .inl (L 1))), (o2, .inl (cI, 150, .inl (L 2))), (q3, .inl (cI, (x6).toNatClampNeg, .inl (L 3))), (q4, .inl (cI, 6, .inl (L 4)))]) ++ simW cI cII sa ta ba da la sc so LB LD) H locs) (hl : lv_has ls 21 [(0, .ref b), (1, .ref xa), (2, .ref sa), (3, .ref o0), (4, .ref o1), (5, .ref o2), (6, .int x6), (7, .int x7), (9, .int x9), (10, .ref q3), (11, .int x11), (12, .int x12), (13, .ref q4), (14, .int x14), (15, .int x15), (16, .int x16), (17, .int x17), (19, .int x19)]), W p l e room_1 s m args below meth c H locs k0 (150 * k0) Z (F0 m 476 ls [.int t0]) := by
  obtain ⟨hx, hb, hml, hown, hts, hK, hA⟩ := id cx
  intro k0 A V A2 V2 L x6 x7 x9 x11 x12 x14 x15 x16 x17 x19 t0 h hgc q3 q4 H locs ls hw hl
  refine lv_istore (pc := 476) (lv' := [(20, .int t0), (0, .ref b), (1, .ref xa), (2, .ref sa), (3, .ref o0), (4, .ref o1), (5, .ref o2), (6, .int x6), (7, .int x7), (9, .int x9), (10, .ref q3), (11, .int x11), (12, .int x12), (13, .ref q4), (14, .int x14), (15, .int x15), (16, .int x16), (17, .int x17), (19, .int x19)]) hx hb dL_law_476 hl (by decide) rfl (fun ls hl => ?_)
  refine lv_iload (pc := 478) hx hb dL_law_478 (lv_at hl 16 rfl) ?_
  refine lv_aload (pc := 480) hx hb dL_law_480 (lv_at hl 5 rfl) ?_
  refine lv_iload (pc := 482) hx hb dL_law_482 (lv_at hl 14 rfl) ?_
  refine alI (pc := 484) cx hw 52 0 (app_l rfl) rfl h.1 dL_law_484 ?_
  have h := h.2
  refine lv_iload (pc := 485) hx hb dL_law_485 (lv_at hl 0 rfl) ?_
  refine lv_iadd (pc := 487) hx hb dL_law_487 ?_
  refine lv_icmp_gt (pc := 488) (tgt := 531) hx hb dL_law_488 (by decide) (fun c140 => ?_) (fun c140 => ?_)
  · have h := h.1 c140
    refine lv_iconst (pc := 531) (v := (0 : Int32)) hx hb dL_law_531 (by decide) ?_
    exact False.elim h
  · have h := h.2 c140
    refine lv_iload (pc := 491) hx hb dL_law_491 (lv_at hl 18 rfl) ?_
    refine lv_if_eq (pc := 493) (tgt := 509) hx hb dL_law_493 (by decide) (fun c141 => ?_) (fun c141 => ?_)
    · have h := h.1 c141
      exact wk_L_law_509 K46 K207 cx hFX hsl hret hB9 hD9 hK46 hK207 k0 A V A2 V2 L x6 x7 x9 x11 x12 x14 x15 x16 x17 x19 h hgc q3 q4 _ _ _ hw (lv_sub hl [1, 2, 3, 4, 5, 6, 7, 8, 9, 10, 11, 12, 13, 14, 15, 16, 17, 18] rfl)
    · have h := h.2 c141
      refine lv_iload (pc := 496) hx hb dL_law_496 (lv_at hl 16 rfl) ?_
      refine lv_aload (pc := 498) hx hb dL_law_498 (lv_at hl 5 rfl) ?_
      refine lv_iload (pc := 500) hx hb dL_law_500 (lv_at hl 14 rfl) ?_
      refine alI (pc := 502) cx hw 52 0 (app_l rfl) rfl h.1 dL_law_502 ?_
      have h := h.2
      refine lv_iload (pc := 503) hx hb dL_law_503 (lv_at hl 0 rfl) ?_
      refine lv_iadd (pc := 505) hx hb dL_law_505 ?_
      refine lv_icmp_ne (pc := 506) (tgt := 531) hx hb dL_law_506 (by decide) (fun c142 => ?_) (fun c142 => ?_)
      · have h := h.1 c142
        refine lv_iconst (pc := 531) (v := (0 : Int32)) hx hb dL_law_531 (by decide) ?_
        exact False.elim h
      · have h := h.2 c142
        exact wk_L_law_509 K46 K207 cx hFX hsl hret hB9 hD9 hK46 hK207 k0 A V A2 V2 L x6 x7 x9 x11 x12 x14 x15 x16 x17 x19 h hgc q3 q4 _ _ _ hw (lv_sub hl [1, 2, 3, 4, 5, 6, 7, 8, 9, 10, 11, 12, 13, 14, 15, 16, 17, 18] rfl)
def wb_L_law_454 (cl : Int32 → Int32) (nB nD : Nat) (hB hD : Nat → Int32) (K46 : Nat → SA → SV → SA → SV → SA → Int32 → Int32 → Prop) (K207 : Nat → SA → SV → SA → SV → SA → Int32 → Int32 → Int32 → Int32 → Int32 → Int32 → Prop) (k0 : Nat) (A : SA) (V : SV) (A2 : SA) (V2 : SV) (L : SA) (x6 : Int32) (x7 : Int32) (x9 : Int32) (x11 : Int32) (x12 : Int32) (x14 : Int32) (x15 : Int32) (x16 : Int32) (x17 : Int32) (t0 : Int32) : Prop := ((t0 = 0 → (wb_L_law_476 cl nB nD hB hD K46 K207 k0 A V A2 V2 L x6 x7 x9 x11 x12 x14 x15 x16 x17 t0 (0 : Int32))) ∧ (¬ (t0 = 0) → (wpX5_letter A V A2 V2 x14 (1 : Int32) (fun r135 A_136 V_137 A_138 V_139 => (¬ (3 : Int32) = 0 ∧ (wb_L_law_476 cl nB nD hB hD K46 K207 k0 A_136 V_137 A_138 V_139 L x6 x7 x9 x11 x12 x14 x15 x16 x17 t0 ((1 : Int32) + (r135 / (3 : Int32)))))))))
set_option maxHeartbeats 8000000 in
set_option maxRecDepth 100000 in
theorem wk_L_law_454 (K46 : Nat → SA → SV → SA → SV → SA → Int32 → Int32 → Prop) (K207 : Nat → SA → SV → SA → SV → SA → Int32 → Int32 → Int32 → Int32 → Int32 → Int32 → Prop) (cx : CX RL cL_law 21 wsL_law D [(cI, .int), (cZ, .boolean), (cII, .array .int)] p s m args c A0) (hFX : FX b sl xs A0 s) (hsl : sl ≤ 260) (hret : ∀ (ls : Array Slot) (ws : va_W) (H : Heap) (locs : List Loc) (k0 : Nat), k0 ≤ gLaw → WS D s A0 ws H locs → W p l e room_1 s m args below meth c H locs k0 (150 * k0) Z (F0 m 1047 ls [.int 1])) (hB9 : RW nB hB LB) (hD9 : RW nD hD LD) (hK46 : ∀ (k0 : Nat) (A : SA) (V : SV) (A2 : SA) (V2 : SV) (L : SA) (x6 : Int32) (x7 : Int32) (h : K46 k0 A V A2 V2 L x6 x7) (hgc : k0 ≤ gLaw)  (H : Heap) (locs : List Loc) (ls : Array Slot) (hw : WS D s A0 ((wD xa ad ad2 cI cZ A V A2 V2 ++ [(o0, .inl (cI, 150, .inl (L 0))), (o1, .inl (cI, 150, .inl (L 1))), (o2, .inl (cI, 150, .inl (L 2)))]) ++ simW cI cII sa ta ba da la sc so LB LD) H locs) (hl : lv_has ls 21 [(0, .ref b), (1, .ref xa), (2, .ref sa), (3, .ref o0), (4, .ref o1), (5, .ref o2), (6, .int x6), (7, .int x7)]), W p l e room_1 s m args below meth c H locs k0 (150 * k0) Z (F0 m 46 ls [])) (hK207 : ∀ (k0 : Nat) (A : SA) (V : SV) (A2 : SA) (V2 : SV) (L : SA) (x6 : Int32) (x7 : Int32) (x9 : Int32) (x11 : Int32) (x12 : Int32) (x14 : Int32) (h : K207 k0 A V A2 V2 L x6 x7 x9 x11 x12 x14) (hgc : k0 ≤ gLaw) (q3 : Nat) (q4 : Nat) (H : Heap) (locs : List Loc) (ls : Array Slot) (hw : WS D s A0 ((wD xa ad ad2 cI cZ A V A2 V2 ++ [(o0, .inl (cI, 150, .inl (L 0))), (o1, .inl (cI, 150, .inl (L 1))), (o2, .inl (cI, 150, .inl (L 2))), (q3, .inl (cI, (x6).toNatClampNeg, .inl (L 3))), (q4, .inl (cI, 6, .inl (L 4)))]) ++ simW cI cII sa ta ba da la sc so LB LD) H locs) (hl : lv_has ls 21 [(0, .ref b), (1, .ref xa), (2, .ref sa), (3, .ref o0), (4, .ref o1), (5, .ref o2), (6, .int x6), (7, .int x7), (9, .int x9), (10, .ref q3), (11, .int x11), (12, .int x12), (13, .ref q4), (14, .int x14)]), W p l e room_1 s m args below meth c H locs k0 (150 * k0) Z (F0 m 207 ls [])) : ∀ (k0 : Nat) (A : SA) (V : SV) (A2 : SA) (V2 : SV) (L : SA) (x6 : Int32) (x7 : Int32) (x9 : Int32) (x11 : Int32) (x12 : Int32) (x14 : Int32) (x15 : Int32) (x16 : Int32) (x17 : Int32) (t0 : Int32) (h : wb_L_law_454 (clI sl xs) nB nD hB hD K46 K207 k0 A V A2 V2 L x6 x7 x9 x11 x12 x14 x15 x16 x17 t0) (hgc : k0 ≤ gLaw) (q3 : Nat) (q4 : Nat) (H : Heap) (locs : List Loc) (ls : Array Slot) (hw : WS D s A0 ((wD xa ad ad2 cI cZ A V A2 V2 ++ [(o0, .inl (cI, 150, .inl (L 0))), (o1, .inl (cI, 150, .inl (L 1))), (o2, .inl (cI, 150, .inl (L 2))), (q3, .inl (cI, (x6).toNatClampNeg, .inl (L 3))), (q4, .inl (cI, 6, .inl (L 4)))]) ++ simW cI cII sa ta ba da la sc so LB LD) H locs) (hl : lv_has ls 21 [(0, .ref b), (1, .ref xa), (2, .ref sa), (3, .ref o0), (4, .ref o1), (5, .ref o2), (6, .int x6), (7, .int x7), (9, .int x9), (10, .ref q3), (11, .int x11), (12, .int x12), (13, .ref q4), (14, .int x14), (15, .int x15), (16, .int x16), (17, .int x17)]), W p l e room_1 s m args below meth c H locs k0 (150 * k0) Z (F0 m 454 ls [.int t0]) := by
  obtain ⟨hx, hb, hml, hown, hts, hK, hA⟩ := id cx
  intro k0 A V A2 V2 L x6 x7 x9 x11 x12 x14 x15 x16 x17 t0 h hgc q3 q4 H locs ls hw hl
  refine lv_istore (pc := 454) (lv' := [(19, .int t0), (0, .ref b), (1, .ref xa), (2, .ref sa), (3, .ref o0), (4, .ref o1), (5, .ref o2), (6, .int x6), (7, .int x7), (9, .int x9), (10, .ref q3), (11, .int x11), (12, .int x12), (13, .ref q4), (14, .int x14), (15, .int x15), (16, .int x16), (17, .int x17)]) hx hb dL_law_454 hl (by decide) rfl (fun ls hl => ?_)
  refine lv_iload (pc := 456) hx hb dL_law_456 (lv_at hl 0 rfl) ?_
  refine lv_if_eq (pc := 458) (tgt := 475) hx hb dL_law_458 (by decide) (fun c134 => ?_) (fun c134 => ?_)
  · have h := h.1 c134
    refine lv_iconst (pc := 475) (v := (0 : Int32)) hx hb dL_law_475 (by decide) ?_
    exact wk_L_law_476 K46 K207 cx hFX hsl hret hB9 hD9 hK46 hK207 k0 A V A2 V2 L x6 x7 x9 x11 x12 x14 x15 x16 x17 t0 (0 : Int32) h hgc q3 q4 _ _ _ hw (lv_sub hl [1, 2, 3, 4, 5, 6, 7, 8, 9, 10, 11, 12, 13, 14, 15, 16, 17, 0] rfl)
  · have h := h.2 c134
    refine lv_iconst (pc := 461) (v := (1 : Int32)) hx hb dL_law_461 (by decide) ?_
    refine lv_aload_n (pc := 462) hx hb dL_law_462 rfl (lv_at hl 2 rfl) ?_
    refine lv_iload (pc := 463) hx hb dL_law_463 (lv_at hl 14 rfl) ?_
    refine lv_iconst (pc := 465) (v := (1 : Int32)) hx hb dL_law_465 (by decide) ?_
    refine callVi (pc := 466) (rest := [.int (1 : Int32)]) (c1 := k0) (s1 := 150 * k0) cx hw hl (metX5_letter l D cI cZ xa ad ad2 H.size A V A2 V2 x14 (1 : Int32) _ h) (fun hts => cwV 2 hts gL_law_X5_letter rfl rfl rfl (by decide +kernel) ⟨Nat.le_of_ble_eq_true rfl, Nat.le_of_ble_eq_true rfl⟩) (SUB.left.trans SUB.left) [0, 1] rfl 0 (ci := 5) rfl rfl rfl (JN.trans SUB.left SUB.left JN.left JN.left) rfl rfl (Nat.le_of_ble_eq_true rfl) ⟨cgLaw hgc, sgLaw hgc⟩ rfl rfl dL_law_466 (fun r135 u H locs h hw => ?_)
    obtain ⟨A_136, V_137, A_138, V_139⟩ := u
    have hw : WS D s A0 ((wD xa ad ad2 cI cZ A_136 V_137 A_138 V_139 ++ [(o0, .inl (cI, 150, .inl (L 0))), (o1, .inl (cI, 150, .inl (L 1))), (o2, .inl (cI, 150, .inl (L 2))), (q3, .inl (cI, (x6).toNatClampNeg, .inl (L 3))), (q4, .inl (cI, 6, .inl (L 4)))]) ++ simW cI cII sa ta ba da la sc so LB LD) _ _ := hw
    refine lv_iconst (pc := 469) (v := (3 : Int32)) hx hb dL_law_469 (by decide) ?_
    refine lv_idiv (pc := 470) hx hb dL_law_470 h.1 ?_
    have h := h.2
    refine lv_iadd (pc := 471) hx hb dL_law_471 ?_
    refine lv_goto (pc := 472) (tgt := 476) hx hb dL_law_472 (by decide) ?_
    exact wk_L_law_476 K46 K207 cx hFX hsl hret hB9 hD9 hK46 hK207 k0 A_136 V_137 A_138 V_139 L x6 x7 x9 x11 x12 x14 x15 x16 x17 t0 ((1 : Int32) + (r135 / (3 : Int32))) h hgc q3 q4 _ _ _ hw (lv_sub hl [1, 2, 3, 4, 5, 6, 7, 8, 9, 10, 11, 12, 13, 14, 15, 16, 17, 0] rfl)
def wb_L_law_417 (cl : Int32 → Int32) (nB nD : Nat) (hB hD : Nat → Int32) (K46 : Nat → SA → SV → SA → SV → SA → Int32 → Int32 → Prop) (K207 : Nat → SA → SV → SA → SV → SA → Int32 → Int32 → Int32 → Int32 → Int32 → Int32 → Prop) (k0 : Nat) (A : SA) (V : SV) (A2 : SA) (V2 : SV) (L : SA) (x6 : Int32) (x7 : Int32) (x9 : Int32) (x11 : Int32) (x12 : Int32) (x14 : Int32) (x15 : Int32) (x16 : Int32) (x17 : Int32) (t0 : Int32) : Prop := ((¬ t0 = 0 → ((¬ x17 = (1 : Int32) → (wb_L_law_454 cl nB nD hB hD K46 K207 k0 A V A2 V2 L x6 x7 x9 x11 x12 x14 x15 x16 x17 (0 : Int32))) ∧ (x17 = (1 : Int32) → (vp_in x14 (x6).toNatClampNeg ∧ (vp_in ((L 3) x14.toNatClampNeg) nB ∧ ((x9 ≤ (hB ((L 3) x14.toNatClampNeg).toNatClampNeg) → (wb_L_law_454 cl nB nD hB hD K46 K207 k0 A V A2 V2 L x6 x7 x9 x11 x12 x14 x15 x16 x17 (0 : Int32))) ∧ (¬ (x9 ≤ (hB ((L 3) x14.toNatClampNeg).toNatClampNeg)) → (wb_L_law_454 cl nB nD hB hD K46 K207 k0 A V A2 V2 L x6 x7 x9 x11 x12 x14 x15 x16 x17 (1 : Int32))))))))) ∧ (t0 = 0 → False))
set_option maxHeartbeats 8000000 in
set_option maxRecDepth 100000 in
theorem wk_L_law_417 (K46 : Nat → SA → SV → SA → SV → SA → Int32 → Int32 → Prop) (K207 : Nat → SA → SV → SA → SV → SA → Int32 → Int32 → Int32 → Int32 → Int32 → Int32 → Prop) (cx : CX RL cL_law 21 wsL_law D [(cI, .int), (cZ, .boolean), (cII, .array .int)] p s m args c A0) (hFX : FX b sl xs A0 s) (hsl : sl ≤ 260) (hret : ∀ (ls : Array Slot) (ws : va_W) (H : Heap) (locs : List Loc) (k0 : Nat), k0 ≤ gLaw → WS D s A0 ws H locs → W p l e room_1 s m args below meth c H locs k0 (150 * k0) Z (F0 m 1047 ls [.int 1])) (hB9 : RW nB hB LB) (hD9 : RW nD hD LD) (hK46 : ∀ (k0 : Nat) (A : SA) (V : SV) (A2 : SA) (V2 : SV) (L : SA) (x6 : Int32) (x7 : Int32) (h : K46 k0 A V A2 V2 L x6 x7) (hgc : k0 ≤ gLaw)  (H : Heap) (locs : List Loc) (ls : Array Slot) (hw : WS D s A0 ((wD xa ad ad2 cI cZ A V A2 V2 ++ [(o0, .inl (cI, 150, .inl (L 0))), (o1, .inl (cI, 150, .inl (L 1))), (o2, .inl (cI, 150, .inl (L 2)))]) ++ simW cI cII sa ta ba da la sc so LB LD) H locs) (hl : lv_has ls 21 [(0, .ref b), (1, .ref xa), (2, .ref sa), (3, .ref o0), (4, .ref o1), (5, .ref o2), (6, .int x6), (7, .int x7)]), W p l e room_1 s m args below meth c H locs k0 (150 * k0) Z (F0 m 46 ls [])) (hK207 : ∀ (k0 : Nat) (A : SA) (V : SV) (A2 : SA) (V2 : SV) (L : SA) (x6 : Int32) (x7 : Int32) (x9 : Int32) (x11 : Int32) (x12 : Int32) (x14 : Int32) (h : K207 k0 A V A2 V2 L x6 x7 x9 x11 x12 x14) (hgc : k0 ≤ gLaw) (q3 : Nat) (q4 : Nat) (H : Heap) (locs : List Loc) (ls : Array Slot) (hw : WS D s A0 ((wD xa ad ad2 cI cZ A V A2 V2 ++ [(o0, .inl (cI, 150, .inl (L 0))), (o1, .inl (cI, 150, .inl (L 1))), (o2, .inl (cI, 150, .inl (L 2))), (q3, .inl (cI, (x6).toNatClampNeg, .inl (L 3))), (q4, .inl (cI, 6, .inl (L 4)))]) ++ simW cI cII sa ta ba da la sc so LB LD) H locs) (hl : lv_has ls 21 [(0, .ref b), (1, .ref xa), (2, .ref sa), (3, .ref o0), (4, .ref o1), (5, .ref o2), (6, .int x6), (7, .int x7), (9, .int x9), (10, .ref q3), (11, .int x11), (12, .int x12), (13, .ref q4), (14, .int x14)]), W p l e room_1 s m args below meth c H locs k0 (150 * k0) Z (F0 m 207 ls [])) : ∀ (k0 : Nat) (A : SA) (V : SV) (A2 : SA) (V2 : SV) (L : SA) (x6 : Int32) (x7 : Int32) (x9 : Int32) (x11 : Int32) (x12 : Int32) (x14 : Int32) (x15 : Int32) (x16 : Int32) (x17 : Int32) (t0 : Int32) (h : wb_L_law_417 (clI sl xs) nB nD hB hD K46 K207 k0 A V A2 V2 L x6 x7 x9 x11 x12 x14 x15 x16 x17 t0) (hgc : k0 ≤ gLaw) (q3 : Nat) (q4 : Nat) (H : Heap) (locs : List Loc) (ls : Array Slot) (hw : WS D s A0 ((wD xa ad ad2 cI cZ A V A2 V2 ++ [(o0, .inl (cI, 150, .inl (L 0))), (o1, .inl (cI, 150, .inl (L 1))), (o2, .inl (cI, 150, .inl (L 2))), (q3, .inl (cI, (x6).toNatClampNeg, .inl (L 3))), (q4, .inl (cI, 6, .inl (L 4)))]) ++ simW cI cII sa ta ba da la sc so LB LD) H locs) (hl : lv_has ls 21 [(0, .ref b), (1, .ref xa), (2, .ref sa), (3, .ref o0), (4, .ref o1), (5, .ref o2), (6, .int x6), (7, .int x7), (9, .int x9), (10, .ref q3), (11, .int x11), (12, .int x12), (13, .ref q4), (14, .int x14), (15, .int x15), (16, .int x16), (17, .int x17)]), W p l e room_1 s m args below meth c H locs k0 (150 * k0) Z (F0 m 417 ls [.int t0]) := by
  obtain ⟨hx, hb, hml, hown, hts, hK, hA⟩ := id cx
  intro k0 A V A2 V2 L x6 x7 x9 x11 x12 x14 x15 x16 x17 t0 h hgc q3 q4 H locs ls hw hl
  refine lv_istore (pc := 417) (lv' := [(18, .int t0), (0, .ref b), (1, .ref xa), (2, .ref sa), (3, .ref o0), (4, .ref o1), (5, .ref o2), (6, .int x6), (7, .int x7), (9, .int x9), (10, .ref q3), (11, .int x11), (12, .int x12), (13, .ref q4), (14, .int x14), (15, .int x15), (16, .int x16), (17, .int x17)]) hx hb dL_law_417 hl (by decide) rfl (fun ls hl => ?_)
  refine lv_iload (pc := 419) hx hb dL_law_419 (lv_at hl 0 rfl) ?_
  refine lv_if_ne (pc := 421) (tgt := 426) hx hb dL_law_421 (by decide) (fun c131 => ?_) (fun c131 => ?_)
  · have h := h.1 c131
    refine lv_iload (pc := 426) hx hb dL_law_426 (lv_at hl 17 rfl) ?_
    refine lv_iconst (pc := 428) (v := (1 : Int32)) hx hb dL_law_428 (by decide) ?_
    refine lv_icmp_ne (pc := 429) (tgt := 453) hx hb dL_law_429 (by decide) (fun c132 => ?_) (fun c132 => ?_)
    · have h := h.1 c132
      refine lv_iconst (pc := 453) (v := (0 : Int32)) hx hb dL_law_453 (by decide) ?_
      exact wk_L_law_454 K46 K207 cx hFX hsl hret hB9 hD9 hK46 hK207 k0 A V A2 V2 L x6 x7 x9 x11 x12 x14 x15 x16 x17 (0 : Int32) h hgc q3 q4 _ _ _ hw (lv_sub hl [1, 2, 3, 4, 5, 6, 7, 8, 9, 10, 11, 12, 13, 14, 15, 16, 17] rfl)
    · have h := h.2 c132
      refine lv_iload (pc := 432) hx hb dL_law_432 (lv_at hl 9 rfl) ?_
      refine lv_aload_n (pc := 434) hx hb dL_law_434 rfl (lv_at hl 3 rfl) ?_
      refine geF (pc := 435) (C := RX7) (T := TX7) (N := 7) (ci := 6) cx inL_law_X7 rfl 2 (by decide) kL_law_w_fieldLink_RL_38__DrownedPostLaw_Sim___bins_____I_ hw _ (app_r (k := 0) rfl) rfl dL_law_435 ?_
      refine lv_aload (pc := 438) hx hb dL_law_438 (lv_at hl 10 rfl) ?_
      refine lv_iload (pc := 440) hx hb dL_law_440 (lv_at hl 14 rfl) ?_
      refine alI (pc := 442) cx hw 54 0 (app_l rfl) rfl h.1 dL_law_442 ?_
      have h := h.2
      refine rdB (pc := 443) cx hw hB9 h.1 dL_law_443 dL_law_444 dL_law_445 ?_
      have h := h.2
      refine lv_icmp_le (pc := 446) (tgt := 453) hx hb dL_law_446 (by decide) (fun c133 => ?_) (fun c133 => ?_)
      · have h := h.1 c133
        refine lv_iconst (pc := 453) (v := (0 : Int32)) hx hb dL_law_453 (by decide) ?_
        exact wk_L_law_454 K46 K207 cx hFX hsl hret hB9 hD9 hK46 hK207 k0 A V A2 V2 L x6 x7 x9 x11 x12 x14 x15 x16 x17 (0 : Int32) h hgc q3 q4 _ _ _ hw (lv_sub hl [1, 2, 3, 4, 5, 6, 7, 8, 9, 10, 11, 12, 13, 14, 15, 16, 17] rfl)
      · have h := h.2 c133
        refine lv_iconst (pc := 449) (v := (1 : Int32)) hx hb dL_law_449 (by decide) ?_
        refine lv_goto (pc := 450) (tgt := 454) hx hb dL_law_450 (by decide) ?_
        exact wk_L_law_454 K46 K207 cx hFX hsl hret hB9 hD9 hK46 hK207 k0 A V A2 V2 L x6 x7 x9 x11 x12 x14 x15 x16 x17 (1 : Int32) h hgc q3 q4 _ _ _ hw (lv_sub hl [1, 2, 3, 4, 5, 6, 7, 8, 9, 10, 11, 12, 13, 14, 15, 16, 17] rfl)
  · have h := h.2 c131
    refine lv_iconst (pc := 424) (v := (0 : Int32)) hx hb dL_law_424 (by decide) ?_
    exact False.elim h
def wb_L_law_393 (cl : Int32 → Int32) (nB nD : Nat) (hB hD : Nat → Int32) (K46 : Nat → SA → SV → SA → SV → SA → Int32 → Int32 → Prop) (K207 : Nat → SA → SV → SA → SV → SA → Int32 → Int32 → Int32 → Int32 → Int32 → Int32 → Prop) (k0 : Nat) (A : SA) (V : SV) (A2 : SA) (V2 : SV) (L : SA) (x6 : Int32) (x7 : Int32) (x9 : Int32) (x11 : Int32) (x12 : Int32) (x14 : Int32) (x15 : Int32) (x16 : Int32) (x17 : Int32) : Prop := ((¬ x17 = (4 : Int32) → (wb_L_law_417 cl nB nD hB hD K46 K207 k0 A V A2 V2 L x6 x7 x9 x11 x12 x14 x15 x16 x17 (0 : Int32))) ∧ (x17 = (4 : Int32) → ((¬ x15 = (5 : Int32) → (wb_L_law_417 cl nB nD hB hD K46 K207 k0 A V A2 V2 L x6 x7 x9 x11 x12 x14 x15 x16 x17 (0 : Int32))) ∧ (x15 = (5 : Int32) → (((30 : Int32) < x9 → (wb_L_law_417 cl nB nD hB hD K46 K207 k0 A V A2 V2 L x6 x7 x9 x11 x12 x14 x15 x16 x17 (0 : Int32))) ∧ (¬ ((30 : Int32) < x9) → (wb_L_law_417 cl nB nD hB hD K46 K207 k0 A V A2 V2 L x6 x7 x9 x11 x12 x14 x15 x16 x17 (1 : Int32))))))))
set_option maxHeartbeats 8000000 in
set_option maxRecDepth 100000 in
theorem wk_L_law_393 (K46 : Nat → SA → SV → SA → SV → SA → Int32 → Int32 → Prop) (K207 : Nat → SA → SV → SA → SV → SA → Int32 → Int32 → Int32 → Int32 → Int32 → Int32 → Prop) (cx : CX RL cL_law 21 wsL_law D [(cI, .int), (cZ, .boolean), (cII, .array .int)] p s m args c A0) (hFX : FX b sl xs A0 s) (hsl : sl ≤ 260) (hret : ∀ (ls : Array Slot) (ws : va_W) (H : Heap) (locs : List Loc) (k0 : Nat), k0 ≤ gLaw → WS D s A0 ws H locs → W p l e room_1 s m args below meth c H locs k0 (150 * k0) Z (F0 m 1047 ls [.int 1])) (hB9 : RW nB hB LB) (hD9 : RW nD hD LD) (hK46 : ∀ (k0 : Nat) (A : SA) (V : SV) (A2 : SA) (V2 : SV) (L : SA) (x6 : Int32) (x7 : Int32) (h : K46 k0 A V A2 V2 L x6 x7) (hgc : k0 ≤ gLaw)  (H : Heap) (locs : List Loc) (ls : Array Slot) (hw : WS D s A0 ((wD xa ad ad2 cI cZ A V A2 V2 ++ [(o0, .inl (cI, 150, .inl (L 0))), (o1, .inl (cI, 150, .inl (L 1))), (o2, .inl (cI, 150, .inl (L 2)))]) ++ simW cI cII sa ta ba da la sc so LB LD) H locs) (hl : lv_has ls 21 [(0, .ref b), (1, .ref xa), (2, .ref sa), (3, .ref o0), (4, .ref o1), (5, .ref o2), (6, .int x6), (7, .int x7)]), W p l e room_1 s m args below meth c H locs k0 (150 * k0) Z (F0 m 46 ls [])) (hK207 : ∀ (k0 : Nat) (A : SA) (V : SV) (A2 : SA) (V2 : SV) (L : SA) (x6 : Int32) (x7 : Int32) (x9 : Int32) (x11 : Int32) (x12 : Int32) (x14 : Int32) (h : K207 k0 A V A2 V2 L x6 x7 x9 x11 x12 x14) (hgc : k0 ≤ gLaw) (q3 : Nat) (q4 : Nat) (H : Heap) (locs : List Loc) (ls : Array Slot) (hw : WS D s A0 ((wD xa ad ad2 cI cZ A V A2 V2 ++ [(o0, .inl (cI, 150, .inl (L 0))), (o1, .inl (cI, 150, .inl (L 1))), (o2, .inl (cI, 150, .inl (L 2))), (q3, .inl (cI, (x6).toNatClampNeg, .inl (L 3))), (q4, .inl (cI, 6, .inl (L 4)))]) ++ simW cI cII sa ta ba da la sc so LB LD) H locs) (hl : lv_has ls 21 [(0, .ref b), (1, .ref xa), (2, .ref sa), (3, .ref o0), (4, .ref o1), (5, .ref o2), (6, .int x6), (7, .int x7), (9, .int x9), (10, .ref q3), (11, .int x11), (12, .int x12), (13, .ref q4), (14, .int x14)]), W p l e room_1 s m args below meth c H locs k0 (150 * k0) Z (F0 m 207 ls [])) : ∀ (k0 : Nat) (A : SA) (V : SV) (A2 : SA) (V2 : SV) (L : SA) (x6 : Int32) (x7 : Int32) (x9 : Int32) (x11 : Int32) (x12 : Int32) (x14 : Int32) (x15 : Int32) (x16 : Int32) (x17 : Int32) (h : wb_L_law_393 (clI sl xs) nB nD hB hD K46 K207 k0 A V A2 V2 L x6 x7 x9 x11 x12 x14 x15 x16 x17) (hgc : k0 ≤ gLaw) (q3 : Nat) (q4 : Nat) (H : Heap) (locs : List Loc) (ls : Array Slot) (hw : WS D s A0 ((wD xa ad ad2 cI cZ A V A2 V2 ++ [(o0, .inl (cI, 150, .inl (L 0))), (o1, .inl (cI, 150, .inl (L 1))), (o2, .inl (cI, 150, .inl (L 2))), (q3, .inl (cI, (x6).toNatClampNeg, .inl (L 3))), (q4, .inl (cI, 6, .inl (L 4)))]) ++ simW cI cII sa ta ba da la sc so LB LD) H locs) (hl : lv_has ls 21 [(0, .ref b), (1, .ref xa), (2, .ref sa), (3, .ref o0), (4, .ref o1), (5, .ref o2), (6, .int x6), (7, .int x7), (9, .int x9), (10, .ref q3), (11, .int x11), (12, .int x12), (13, .ref q4), (14, .int x14), (15, .int x15), (16, .int x16), (17, .int x17)]), W p l e room_1 s m args below meth c H locs k0 (150 * k0) Z (F0 m 393 ls []) := by
  obtain ⟨hx, hb, hml, hown, hts, hK, hA⟩ := id cx
  intro k0 A V A2 V2 L x6 x7 x9 x11 x12 x14 x15 x16 x17 h hgc q3 q4 H locs ls hw hl
  refine lv_iload (pc := 393) hx hb dL_law_393 (lv_at hl 16 rfl) ?_
  refine lv_iconst (pc := 395) (v := (4 : Int32)) hx hb dL_law_395 (by decide) ?_
  refine lv_icmp_ne (pc := 396) (tgt := 416) hx hb dL_law_396 (by decide) (fun c128 => ?_) (fun c128 => ?_)
  · have h := h.1 c128
    refine lv_iconst (pc := 416) (v := (0 : Int32)) hx hb dL_law_416 (by decide) ?_
    exact wk_L_law_417 K46 K207 cx hFX hsl hret hB9 hD9 hK46 hK207 k0 A V A2 V2 L x6 x7 x9 x11 x12 x14 x15 x16 x17 (0 : Int32) h hgc q3 q4 _ _ _ hw (lv_sub hl [0, 1, 2, 3, 4, 5, 6, 7, 8, 9, 10, 11, 12, 13, 14, 15, 16] rfl)
  · have h := h.2 c128
    refine lv_iload (pc := 399) hx hb dL_law_399 (lv_at hl 14 rfl) ?_
    refine lv_iconst (pc := 401) (v := (5 : Int32)) hx hb dL_law_401 (by decide) ?_
    refine lv_icmp_ne (pc := 402) (tgt := 416) hx hb dL_law_402 (by decide) (fun c129 => ?_) (fun c129 => ?_)
    · have h := h.1 c129
      refine lv_iconst (pc := 416) (v := (0 : Int32)) hx hb dL_law_416 (by decide) ?_
      exact wk_L_law_417 K46 K207 cx hFX hsl hret hB9 hD9 hK46 hK207 k0 A V A2 V2 L x6 x7 x9 x11 x12 x14 x15 x16 x17 (0 : Int32) h hgc q3 q4 _ _ _ hw (lv_sub hl [0, 1, 2, 3, 4, 5, 6, 7, 8, 9, 10, 11, 12, 13, 14, 15, 16] rfl)
    · have h := h.2 c129
      refine lv_iload (pc := 405) hx hb dL_law_405 (lv_at hl 8 rfl) ?_
      refine lv_bipush (pc := 407) (v := (30 : Int32)) hx hb dL_law_407 (by decide) ?_
      refine lv_icmp_gt (pc := 409) (tgt := 416) hx hb dL_law_409 (by decide) (fun c130 => ?_) (fun c130 => ?_)
      · have h := h.1 c130
        refine lv_iconst (pc := 416) (v := (0 : Int32)) hx hb dL_law_416 (by decide) ?_
        exact wk_L_law_417 K46 K207 cx hFX hsl hret hB9 hD9 hK46 hK207 k0 A V A2 V2 L x6 x7 x9 x11 x12 x14 x15 x16 x17 (0 : Int32) h hgc q3 q4 _ _ _ hw (lv_sub hl [0, 1, 2, 3, 4, 5, 6, 7, 8, 9, 10, 11, 12, 13, 14, 15, 16] rfl)
      · have h := h.2 c130
        refine lv_iconst (pc := 412) (v := (1 : Int32)) hx hb dL_law_412 (by decide) ?_
        refine lv_goto (pc := 413) (tgt := 417) hx hb dL_law_413 (by decide) ?_
        exact wk_L_law_417 K46 K207 cx hFX hsl hret hB9 hD9 hK46 hK207 k0 A V A2 V2 L x6 x7 x9 x11 x12 x14 x15 x16 x17 (1 : Int32) h hgc q3 q4 _ _ _ hw (lv_sub hl [0, 1, 2, 3, 4, 5, 6, 7, 8, 9, 10, 11, 12, 13, 14, 15, 16] rfl)
def wb_L_law_375 (cl : Int32 → Int32) (nB nD : Nat) (hB hD : Nat → Int32) (K46 : Nat → SA → SV → SA → SV → SA → Int32 → Int32 → Prop) (K207 : Nat → SA → SV → SA → SV → SA → Int32 → Int32 → Int32 → Int32 → Int32 → Int32 → Prop) (k0 : Nat) (A : SA) (V : SV) (A2 : SA) (V2 : SV) (L : SA) (x6 : Int32) (x7 : Int32) (x9 : Int32) (x11 : Int32) (x12 : Int32) (x14 : Int32) (x15 : Int32) (x16 : Int32) (x17 : Int32) : Prop := ((¬ x17 = (1 : Int32) → (wb_L_law_393 cl nB nD hB hD K46 K207 k0 A V A2 V2 L x6 x7 x9 x11 x12 x14 x15 x16 x17)) ∧ (x17 = (1 : Int32) → ((x15 = (2 : Int32) → (wb_L_law_417 cl nB nD hB hD K46 K207 k0 A V A2 V2 L x6 x7 x9 x11 x12 x14 x15 x16 x17 (1 : Int32))) ∧ (¬ (x15 = (2 : Int32)) → ((x15 = (3 : Int32) → (wb_L_law_417 cl nB nD hB hD K46 K207 k0 A V A2 V2 L x6 x7 x9 x11 x12 x14 x15 x16 x17 (1 : Int32))) ∧ (¬ (x15 = (3 : Int32)) → (wb_L_law_393 cl nB nD hB hD K46 K207 k0 A V A2 V2 L x6 x7 x9 x11 x12 x14 x15 x16 x17)))))))
set_option maxHeartbeats 8000000 in
set_option maxRecDepth 100000 in
theorem wk_L_law_375 (K46 : Nat → SA → SV → SA → SV → SA → Int32 → Int32 → Prop) (K207 : Nat → SA → SV → SA → SV → SA → Int32 → Int32 → Int32 → Int32 → Int32 → Int32 → Prop) (cx : CX RL cL_law 21 wsL_law D [(cI, .int), (cZ, .boolean), (cII, .array .int)] p s m args c A0) (hFX : FX b sl xs A0 s) (hsl : sl ≤ 260) (hret : ∀ (ls : Array Slot) (ws : va_W) (H : Heap) (locs : List Loc) (k0 : Nat), k0 ≤ gLaw → WS D s A0 ws H locs → W p l e room_1 s m args below meth c H locs k0 (150 * k0) Z (F0 m 1047 ls [.int 1])) (hB9 : RW nB hB LB) (hD9 : RW nD hD LD) (hK46 : ∀ (k0 : Nat) (A : SA) (V : SV) (A2 : SA) (V2 : SV) (L : SA) (x6 : Int32) (x7 : Int32) (h : K46 k0 A V A2 V2 L x6 x7) (hgc : k0 ≤ gLaw)  (H : Heap) (locs : List Loc) (ls : Array Slot) (hw : WS D s A0 ((wD xa ad ad2 cI cZ A V A2 V2 ++ [(o0, .inl (cI, 150, .inl (L 0))), (o1, .inl (cI, 150, .inl (L 1))), (o2, .inl (cI, 150, .inl (L 2)))]) ++ simW cI cII sa ta ba da la sc so LB LD) H locs) (hl : lv_has ls 21 [(0, .ref b), (1, .ref xa), (2, .ref sa), (3, .ref o0), (4, .ref o1), (5, .ref o2), (6, .int x6), (7, .int x7)]), W p l e room_1 s m args below meth c H locs k0 (150 * k0) Z (F0 m 46 ls [])) (hK207 : ∀ (k0 : Nat) (A : SA) (V : SV) (A2 : SA) (V2 : SV) (L : SA) (x6 : Int32) (x7 : Int32) (x9 : Int32) (x11 : Int32) (x12 : Int32) (x14 : Int32) (h : K207 k0 A V A2 V2 L x6 x7 x9 x11 x12 x14) (hgc : k0 ≤ gLaw) (q3 : Nat) (q4 : Nat) (H : Heap) (locs : List Loc) (ls : Array Slot) (hw : WS D s A0 ((wD xa ad ad2 cI cZ A V A2 V2 ++ [(o0, .inl (cI, 150, .inl (L 0))), (o1, .inl (cI, 150, .inl (L 1))), (o2, .inl (cI, 150, .inl (L 2))), (q3, .inl (cI, (x6).toNatClampNeg, .inl (L 3))), (q4, .inl (cI, 6, .inl (L 4)))]) ++ simW cI cII sa ta ba da la sc so LB LD) H locs) (hl : lv_has ls 21 [(0, .ref b), (1, .ref xa), (2, .ref sa), (3, .ref o0), (4, .ref o1), (5, .ref o2), (6, .int x6), (7, .int x7), (9, .int x9), (10, .ref q3), (11, .int x11), (12, .int x12), (13, .ref q4), (14, .int x14)]), W p l e room_1 s m args below meth c H locs k0 (150 * k0) Z (F0 m 207 ls [])) : ∀ (k0 : Nat) (A : SA) (V : SV) (A2 : SA) (V2 : SV) (L : SA) (x6 : Int32) (x7 : Int32) (x9 : Int32) (x11 : Int32) (x12 : Int32) (x14 : Int32) (x15 : Int32) (x16 : Int32) (x17 : Int32) (h : wb_L_law_375 (clI sl xs) nB nD hB hD K46 K207 k0 A V A2 V2 L x6 x7 x9 x11 x12 x14 x15 x16 x17) (hgc : k0 ≤ gLaw) (q3 : Nat) (q4 : Nat) (H : Heap) (locs : List Loc) (ls : Array Slot) (hw : WS D s A0 ((wD xa ad ad2 cI cZ A V A2 V2 ++ [(o0, .inl (cI, 150, .inl (L 0))), (o1, .inl (cI, 150, .inl (L 1))), (o2, .inl (cI, 150, .inl (L 2))), (q3, .inl (cI, (x6).toNatClampNeg, .inl (L 3))), (q4, .inl (cI, 6, .inl (L 4)))]) ++ simW cI cII sa ta ba da la sc so LB LD) H locs) (hl : lv_has ls 21 [(0, .ref b), (1, .ref xa), (2, .ref sa), (3, .ref o0), (4, .ref o1), (5, .ref o2), (6, .int x6), (7, .int x7), (9, .int x9), (10, .ref q3), (11, .int x11), (12, .int x12), (13, .ref q4), (14, .int x14), (15, .int x15), (16, .int x16), (17, .int x17)]), W p l e room_1 s m args below meth c H locs k0 (150 * k0) Z (F0 m 375 ls []) := by
  obtain ⟨hx, hb, hml, hown, hts, hK, hA⟩ := id cx
  intro k0 A V A2 V2 L x6 x7 x9 x11 x12 x14 x15 x16 x17 h hgc q3 q4 H locs ls hw hl
  refine lv_iload (pc := 375) hx hb dL_law_375 (lv_at hl 16 rfl) ?_
  refine lv_iconst (pc := 377) (v := (1 : Int32)) hx hb dL_law_377 (by decide) ?_
  refine lv_icmp_ne (pc := 378) (tgt := 393) hx hb dL_law_378 (by decide) (fun c125 => ?_) (fun c125 => ?_)
  · have h := h.1 c125
    exact wk_L_law_393 K46 K207 cx hFX hsl hret hB9 hD9 hK46 hK207 k0 A V A2 V2 L x6 x7 x9 x11 x12 x14 x15 x16 x17 h hgc q3 q4 _ _ _ hw (lv_sub hl [0, 1, 2, 3, 4, 5, 6, 7, 8, 9, 10, 11, 12, 13, 14, 15, 16] rfl)
  · have h := h.2 c125
    refine lv_iload (pc := 381) hx hb dL_law_381 (lv_at hl 14 rfl) ?_
    refine lv_iconst (pc := 383) (v := (2 : Int32)) hx hb dL_law_383 (by decide) ?_
    refine lv_icmp_eq (pc := 384) (tgt := 412) hx hb dL_law_384 (by decide) (fun c126 => ?_) (fun c126 => ?_)
    · have h := h.1 c126
      refine lv_iconst (pc := 412) (v := (1 : Int32)) hx hb dL_law_412 (by decide) ?_
      refine lv_goto (pc := 413) (tgt := 417) hx hb dL_law_413 (by decide) ?_
      exact wk_L_law_417 K46 K207 cx hFX hsl hret hB9 hD9 hK46 hK207 k0 A V A2 V2 L x6 x7 x9 x11 x12 x14 x15 x16 x17 (1 : Int32) h hgc q3 q4 _ _ _ hw (lv_sub hl [0, 1, 2, 3, 4, 5, 6, 7, 8, 9, 10, 11, 12, 13, 14, 15, 16] rfl)
    · have h := h.2 c126
      refine lv_iload (pc := 387) hx hb dL_law_387 (lv_at hl 14 rfl) ?_
      refine lv_iconst (pc := 389) (v := (3 : Int32)) hx hb dL_law_389 (by decide) ?_
      refine lv_icmp_eq (pc := 390) (tgt := 412) hx hb dL_law_390 (by decide) (fun c127 => ?_) (fun c127 => ?_)
      · have h := h.1 c127
        refine lv_iconst (pc := 412) (v := (1 : Int32)) hx hb dL_law_412 (by decide) ?_
        refine lv_goto (pc := 413) (tgt := 417) hx hb dL_law_413 (by decide) ?_
        exact wk_L_law_417 K46 K207 cx hFX hsl hret hB9 hD9 hK46 hK207 k0 A V A2 V2 L x6 x7 x9 x11 x12 x14 x15 x16 x17 (1 : Int32) h hgc q3 q4 _ _ _ hw (lv_sub hl [0, 1, 2, 3, 4, 5, 6, 7, 8, 9, 10, 11, 12, 13, 14, 15, 16] rfl)
      · have h := h.2 c127
        exact wk_L_law_393 K46 K207 cx hFX hsl hret hB9 hD9 hK46 hK207 k0 A V A2 V2 L x6 x7 x9 x11 x12 x14 x15 x16 x17 h hgc q3 q4 _ _ _ hw (lv_sub hl [0, 1, 2, 3, 4, 5, 6, 7, 8, 9, 10, 11, 12, 13, 14, 15, 16] rfl)
def wb_L_law_309 (cl : Int32 → Int32) (nB nD : Nat) (hB hD : Nat → Int32) (K46 : Nat → SA → SV → SA → SV → SA → Int32 → Int32 → Prop) (K207 : Nat → SA → SV → SA → SV → SA → Int32 → Int32 → Int32 → Int32 → Int32 → Int32 → Prop) (k0 : Nat) (A : SA) (V : SV) (A2 : SA) (V2 : SV) (L : SA) (x6 : Int32) (x7 : Int32) (x9 : Int32) (x11 : Int32) (x12 : Int32) (x14 : Int32) : Prop := (wpX5_letter A V A2 V2 x14 (8 : Int32) (fun r98 A_99 V_100 A_101 V_102 => (wpX5_letter A_99 V_100 A_101 V_102 r98 (3 : Int32) (fun r103 A_104 V_105 A_106 V_107 => ((¬ r103 = (2 : Int32) → False) ∧ (r103 = (2 : Int32) → (wpX5_letter A_104 V_105 A_106 V_107 x14 (7 : Int32) (fun r109 A_110 V_111 A_112 V_113 => (wpX5_letter A_110 V_111 A_112 V_113 x14 (0 : Int32) (fun r114 A_115 V_116 A_117 V_118 => (wpX5_drowned A_115 V_116 A_117 V_118 r114 (2 : Int32) (fun r119 A_120 V_121 A_122 V_123 => ((r109 = r119 → K207 k0 A_120 V_121 A_122 V_123 L x6 x7 x9 x11 x12 (x14 + 1)) ∧ (¬ (r109 = r119) → False))))))))))))))
set_option maxHeartbeats 8000000 in
set_option maxRecDepth 100000 in
theorem wk_L_law_309 (K46 : Nat → SA → SV → SA → SV → SA → Int32 → Int32 → Prop) (K207 : Nat → SA → SV → SA → SV → SA → Int32 → Int32 → Int32 → Int32 → Int32 → Int32 → Prop) (cx : CX RL cL_law 21 wsL_law D [(cI, .int), (cZ, .boolean), (cII, .array .int)] p s m args c A0) (hFX : FX b sl xs A0 s) (hsl : sl ≤ 260) (hret : ∀ (ls : Array Slot) (ws : va_W) (H : Heap) (locs : List Loc) (k0 : Nat), k0 ≤ gLaw → WS D s A0 ws H locs → W p l e room_1 s m args below meth c H locs k0 (150 * k0) Z (F0 m 1047 ls [.int 1])) (hB9 : RW nB hB LB) (hD9 : RW nD hD LD) (hK46 : ∀ (k0 : Nat) (A : SA) (V : SV) (A2 : SA) (V2 : SV) (L : SA) (x6 : Int32) (x7 : Int32) (h : K46 k0 A V A2 V2 L x6 x7) (hgc : k0 ≤ gLaw)  (H : Heap) (locs : List Loc) (ls : Array Slot) (hw : WS D s A0 ((wD xa ad ad2 cI cZ A V A2 V2 ++ [(o0, .inl (cI, 150, .inl (L 0))), (o1, .inl (cI, 150, .inl (L 1))), (o2, .inl (cI, 150, .inl (L 2)))]) ++ simW cI cII sa ta ba da la sc so LB LD) H locs) (hl : lv_has ls 21 [(0, .ref b), (1, .ref xa), (2, .ref sa), (3, .ref o0), (4, .ref o1), (5, .ref o2), (6, .int x6), (7, .int x7)]), W p l e room_1 s m args below meth c H locs k0 (150 * k0) Z (F0 m 46 ls [])) (hK207 : ∀ (k0 : Nat) (A : SA) (V : SV) (A2 : SA) (V2 : SV) (L : SA) (x6 : Int32) (x7 : Int32) (x9 : Int32) (x11 : Int32) (x12 : Int32) (x14 : Int32) (h : K207 k0 A V A2 V2 L x6 x7 x9 x11 x12 x14) (hgc : k0 ≤ gLaw) (q3 : Nat) (q4 : Nat) (H : Heap) (locs : List Loc) (ls : Array Slot) (hw : WS D s A0 ((wD xa ad ad2 cI cZ A V A2 V2 ++ [(o0, .inl (cI, 150, .inl (L 0))), (o1, .inl (cI, 150, .inl (L 1))), (o2, .inl (cI, 150, .inl (L 2))), (q3, .inl (cI, (x6).toNatClampNeg, .inl (L 3))), (q4, .inl (cI, 6, .inl (L 4)))]) ++ simW cI cII sa ta ba da la sc so LB LD) H locs) (hl : lv_has ls 21 [(0, .ref b), (1, .ref xa), (2, .ref sa), (3, .ref o0), (4, .ref o1), (5, .ref o2), (6, .int x6), (7, .int x7), (9, .int x9), (10, .ref q3), (11, .int x11), (12, .int x12), (13, .ref q4), (14, .int x14)]), W p l e room_1 s m args below meth c H locs k0 (150 * k0) Z (F0 m 207 ls [])) : ∀ (k0 : Nat) (A : SA) (V : SV) (A2 : SA) (V2 : SV) (L : SA) (x6 : Int32) (x7 : Int32) (x9 : Int32) (x11 : Int32) (x12 : Int32) (x14 : Int32) (h : wb_L_law_309 (clI sl xs) nB nD hB hD K46 K207 k0 A V A2 V2 L x6 x7 x9 x11 x12 x14) (hgc : k0 ≤ gLaw) (q3 : Nat) (q4 : Nat) (H : Heap) (locs : List Loc) (ls : Array Slot) (hw : WS D s A0 ((wD xa ad ad2 cI cZ A V A2 V2 ++ [(o0, .inl (cI, 150, .inl (L 0))), (o1, .inl (cI, 150, .inl (L 1))), (o2, .inl (cI, 150, .inl (L 2))), (q3, .inl (cI, (x6).toNatClampNeg, .inl (L 3))), (q4, .inl (cI, 6, .inl (L 4)))]) ++ simW cI cII sa ta ba da la sc so LB LD) H locs) (hl : lv_has ls 21 [(0, .ref b), (1, .ref xa), (2, .ref sa), (3, .ref o0), (4, .ref o1), (5, .ref o2), (6, .int x6), (7, .int x7), (9, .int x9), (10, .ref q3), (11, .int x11), (12, .int x12), (13, .ref q4), (14, .int x14)]), W p l e room_1 s m args below meth c H locs k0 (150 * k0) Z (F0 m 309 ls []) := by
  obtain ⟨hx, hb, hml, hown, hts, hK, hA⟩ := id cx
  intro k0 A V A2 V2 L x6 x7 x9 x11 x12 x14 h hgc q3 q4 H locs ls hw hl
  refine lv_aload_n (pc := 309) hx hb dL_law_309 rfl (lv_at hl 1 rfl) ?_
  refine lv_aload_n (pc := 310) hx hb dL_law_310 rfl (lv_at hl 1 rfl) ?_
  refine lv_iload (pc := 311) hx hb dL_law_311 (lv_at hl 13 rfl) ?_
  refine lv_bipush (pc := 313) (v := (8 : Int32)) hx hb dL_law_313 (by decide) ?_
  refine callVi (pc := 315) (rest := [.ref xa]) (c1 := k0) (s1 := 150 * k0) cx hw hl (metX5_letter l D cI cZ xa ad ad2 H.size A V A2 V2 x14 (8 : Int32) _ h) (fun hts => cwV 2 hts gL_law_X5_letter rfl rfl rfl (by decide +kernel) ⟨Nat.le_of_ble_eq_true rfl, Nat.le_of_ble_eq_true rfl⟩) (SUB.left.trans SUB.left) [0, 1] rfl 0 (ci := 5) rfl rfl rfl (JN.trans SUB.left SUB.left JN.left JN.left) rfl rfl (Nat.le_of_ble_eq_true rfl) ⟨cgLaw hgc, sgLaw hgc⟩ rfl rfl dL_law_315 (fun r98 u H locs h hw => ?_)
  obtain ⟨A_99, V_100, A_101, V_102⟩ := u
  have hw : WS D s A0 ((wD xa ad ad2 cI cZ A_99 V_100 A_101 V_102 ++ [(o0, .inl (cI, 150, .inl (L 0))), (o1, .inl (cI, 150, .inl (L 1))), (o2, .inl (cI, 150, .inl (L 2))), (q3, .inl (cI, (x6).toNatClampNeg, .inl (L 3))), (q4, .inl (cI, 6, .inl (L 4)))]) ++ simW cI cII sa ta ba da la sc so LB LD) _ _ := hw
  refine lv_iconst (pc := 318) (v := (3 : Int32)) hx hb dL_law_318 (by decide) ?_
  refine callVi (pc := 319) (rest := []) (c1 := k0) (s1 := 150 * k0) cx hw hl (metX5_letter l D cI cZ xa ad ad2 H.size A_99 V_100 A_101 V_102 r98 (3 : Int32) _ h) (fun hts => cwV 2 hts gL_law_X5_letter rfl rfl rfl (by decide +kernel) ⟨Nat.le_of_ble_eq_true rfl, Nat.le_of_ble_eq_true rfl⟩) (SUB.left.trans SUB.left) [0, 1] rfl 0 (ci := 5) rfl rfl rfl (JN.trans SUB.left SUB.left JN.left JN.left) rfl rfl (Nat.le_of_ble_eq_true rfl) ⟨cgLaw hgc, sgLaw hgc⟩ rfl rfl dL_law_319 (fun r103 u H locs h hw => ?_)
  obtain ⟨A_104, V_105, A_106, V_107⟩ := u
  have hw : WS D s A0 ((wD xa ad ad2 cI cZ A_104 V_105 A_106 V_107 ++ [(o0, .inl (cI, 150, .inl (L 0))), (o1, .inl (cI, 150, .inl (L 1))), (o2, .inl (cI, 150, .inl (L 2))), (q3, .inl (cI, (x6).toNatClampNeg, .inl (L 3))), (q4, .inl (cI, 6, .inl (L 4)))]) ++ simW cI cII sa ta ba da la sc so LB LD) _ _ := hw
  refine lv_iconst (pc := 322) (v := (2 : Int32)) hx hb dL_law_322 (by decide) ?_
  refine lv_icmp_ne (pc := 323) (tgt := 349) hx hb dL_law_323 (by decide) (fun c108 => ?_) (fun c108 => ?_)
  · have h := h.1 c108
    refine lv_iconst (pc := 349) (v := (0 : Int32)) hx hb dL_law_349 (by decide) ?_
    exact False.elim h
  · have h := h.2 c108
    refine lv_aload_n (pc := 326) hx hb dL_law_326 rfl (lv_at hl 1 rfl) ?_
    refine lv_iload (pc := 327) hx hb dL_law_327 (lv_at hl 13 rfl) ?_
    refine lv_bipush (pc := 329) (v := (7 : Int32)) hx hb dL_law_329 (by decide) ?_
    refine callVi (pc := 331) (rest := []) (c1 := k0) (s1 := 150 * k0) cx hw hl (metX5_letter l D cI cZ xa ad ad2 H.size A_104 V_105 A_106 V_107 x14 (7 : Int32) _ h) (fun hts => cwV 2 hts gL_law_X5_letter rfl rfl rfl (by decide +kernel) ⟨Nat.le_of_ble_eq_true rfl, Nat.le_of_ble_eq_true rfl⟩) (SUB.left.trans SUB.left) [0, 1] rfl 0 (ci := 5) rfl rfl rfl (JN.trans SUB.left SUB.left JN.left JN.left) rfl rfl (Nat.le_of_ble_eq_true rfl) ⟨cgLaw hgc, sgLaw hgc⟩ rfl rfl dL_law_331 (fun r109 u H locs h hw => ?_)
    obtain ⟨A_110, V_111, A_112, V_113⟩ := u
    have hw : WS D s A0 ((wD xa ad ad2 cI cZ A_110 V_111 A_112 V_113 ++ [(o0, .inl (cI, 150, .inl (L 0))), (o1, .inl (cI, 150, .inl (L 1))), (o2, .inl (cI, 150, .inl (L 2))), (q3, .inl (cI, (x6).toNatClampNeg, .inl (L 3))), (q4, .inl (cI, 6, .inl (L 4)))]) ++ simW cI cII sa ta ba da la sc so LB LD) _ _ := hw
    refine lv_aload_n (pc := 334) hx hb dL_law_334 rfl (lv_at hl 1 rfl) ?_
    refine lv_aload_n (pc := 335) hx hb dL_law_335 rfl (lv_at hl 1 rfl) ?_
    refine lv_iload (pc := 336) hx hb dL_law_336 (lv_at hl 13 rfl) ?_
    refine lv_iconst (pc := 338) (v := (0 : Int32)) hx hb dL_law_338 (by decide) ?_
    refine callVi (pc := 339) (rest := [.ref xa, .int r109]) (c1 := k0) (s1 := 150 * k0) cx hw hl (metX5_letter l D cI cZ xa ad ad2 H.size A_110 V_111 A_112 V_113 x14 (0 : Int32) _ h) (fun hts => cwV 2 hts gL_law_X5_letter rfl rfl rfl (by decide +kernel) ⟨Nat.le_of_ble_eq_true rfl, Nat.le_of_ble_eq_true rfl⟩) (SUB.left.trans SUB.left) [0, 1] rfl 0 (ci := 5) rfl rfl rfl (JN.trans SUB.left SUB.left JN.left JN.left) rfl rfl (Nat.le_of_ble_eq_true rfl) ⟨cgLaw hgc, sgLaw hgc⟩ rfl rfl dL_law_339 (fun r114 u H locs h hw => ?_)
    obtain ⟨A_115, V_116, A_117, V_118⟩ := u
    have hw : WS D s A0 ((wD xa ad ad2 cI cZ A_115 V_116 A_117 V_118 ++ [(o0, .inl (cI, 150, .inl (L 0))), (o1, .inl (cI, 150, .inl (L 1))), (o2, .inl (cI, 150, .inl (L 2))), (q3, .inl (cI, (x6).toNatClampNeg, .inl (L 3))), (q4, .inl (cI, 6, .inl (L 4)))]) ++ simW cI cII sa ta ba da la sc so LB LD) _ _ := hw
    refine lv_iconst (pc := 342) (v := (2 : Int32)) hx hb dL_law_342 (by decide) ?_
    refine callVi (pc := 343) (rest := [.int r109]) (c1 := k0) (s1 := 150 * k0) cx hw hl (metX5_drowned l D cI cZ xa ad ad2 H.size A_115 V_116 A_117 V_118 r114 (2 : Int32) _ h) (fun hts => cwV 2 hts gL_law_X5_drowned rfl rfl rfl (by decide +kernel) ⟨Nat.le_of_ble_eq_true rfl, Nat.le_of_ble_eq_true rfl⟩) (SUB.left.trans SUB.left) [0, 1] rfl 0 (ci := 5) rfl rfl rfl (JN.trans SUB.left SUB.left JN.left JN.left) rfl rfl (Nat.le_of_ble_eq_true rfl) ⟨cgLaw hgc, sgLaw hgc⟩ rfl rfl dL_law_343 (fun r119 u H locs h hw => ?_)
    obtain ⟨A_120, V_121, A_122, V_123⟩ := u
    have hw : WS D s A0 ((wD xa ad ad2 cI cZ A_120 V_121 A_122 V_123 ++ [(o0, .inl (cI, 150, .inl (L 0))), (o1, .inl (cI, 150, .inl (L 1))), (o2, .inl (cI, 150, .inl (L 2))), (q3, .inl (cI, (x6).toNatClampNeg, .inl (L 3))), (q4, .inl (cI, 6, .inl (L 4)))]) ++ simW cI cII sa ta ba da la sc so LB LD) _ _ := hw
    refine lv_icmp_eq (pc := 346) (tgt := 668) hx hb dL_law_346 (by decide) (fun c124 => ?_) (fun c124 => ?_)
    · have h := h.1 c124
      refine lv_iinc (pc := 668) (v := x14 + 1) (lv' := [(14, .int (x14 + 1)), (0, .ref b), (1, .ref xa), (2, .ref sa), (3, .ref o0), (4, .ref o1), (5, .ref o2), (6, .int x6), (7, .int x7), (9, .int x9), (10, .ref q3), (11, .int x11), (12, .int x12), (13, .ref q4)]) hx hb dL_law_668 hl (k := 13) rfl rfl (by decide) rfl (fun ls hl => ?_)
      refine lv_goto (pc := 671) (tgt := 207) hx hb dL_law_671 (by decide) ?_
      exact hK207 k0 A_120 V_121 A_122 V_123 L x6 x7 x9 x11 x12 (x14 + 1) h hgc q3 q4 _ _ _ hw (lv_sub hl [1, 2, 3, 4, 5, 6, 7, 8, 9, 10, 11, 12, 13, 0] rfl)
    · have h := h.2 c124
      refine lv_iconst (pc := 349) (v := (0 : Int32)) hx hb dL_law_349 (by decide) ?_
      exact False.elim h
def wl_L_law_207 (cl : Int32 → Int32) (nB nD : Nat) (hB hD : Nat → Int32) (K46 : Nat → SA → SV → SA → SV → SA → Int32 → Int32 → Prop) : Nat → Nat → SA → SV → SA → SV → SA → Int32 → Int32 → Int32 → Int32 → Int32 → Int32 → Prop
  | 0, _, _, _, _, _, _, _, _, _, _, _, _ => False
  | n + 1, k0, A, V, A2, V2, L, x6, x7, x9, x11, x12, x14 => ((x12 ≤ x14 → (∃ n686 : Nat, wl_L_law_686 cl nB nD hB hD K46 n686 k0 A V A2 V2 L x6 x7 x11 x12 (0 : Int32) (0 : Int32) (0 : Int32) (0 : Int32))) ∧ (¬ (x12 ≤ x14) → (wpX5_letter A V A2 V2 x14 (3 : Int32) (fun r53 A_54 V_55 A_56 V_57 => (wpX5_letter A_54 V_55 A_56 V_57 x14 (4 : Int32) (fun r58 A_59 V_60 A_61 V_62 => (vp_in r53 6 ∧ (vp_in r53 6 ∧ (∀ L_63 : SA, L_63 = up L 4 r53.toNatClampNeg (((L 4) r53.toNatClampNeg) + (1 : Int32)) → ((x14 < x6 → (vp_in x14 150 ∧ ((r53 = ((L_63 0) x14.toNatClampNeg) → (wb_L_law_417 cl nB nD hB hD K46 (wl_L_law_207 cl nB nD hB hD K46 n) k0 A_59 V_60 A_61 V_62 L_63 x6 x7 x9 x11 x12 x14 r53 r58 ((L_63 0) x14.toNatClampNeg) (1 : Int32))) ∧ (¬ (r53 = ((L_63 0) x14.toNatClampNeg)) → ((¬ ((L_63 0) x14.toNatClampNeg) = 0 → (wb_L_law_375 cl nB nD hB hD K46 (wl_L_law_207 cl nB nD hB hD K46 n) k0 A_59 V_60 A_61 V_62 L_63 x6 x7 x9 x11 x12 x14 r53 r58 ((L_63 0) x14.toNatClampNeg))) ∧ (((L_63 0) x14.toNatClampNeg) = 0 → ((r53 = (1 : Int32) → (wb_L_law_417 cl nB nD hB hD K46 (wl_L_law_207 cl nB nD hB hD K46 n) k0 A_59 V_60 A_61 V_62 L_63 x6 x7 x9 x11 x12 x14 r53 r58 ((L_63 0) x14.toNatClampNeg) (1 : Int32))) ∧ (¬ (r53 = (1 : Int32)) → (wb_L_law_375 cl nB nD hB hD K46 (wl_L_law_207 cl nB nD hB hD K46 n) k0 A_59 V_60 A_61 V_62 L_63 x6 x7 x9 x11 x12 x14 r53 r58 ((L_63 0) x14.toNatClampNeg)))))))))) ∧ (¬ (x14 < x6) → ((¬ r53 = (4 : Int32) → False) ∧ (r53 = (4 : Int32) → (wpX5_letter A_59 V_60 A_61 V_62 x14 (8 : Int32) (fun r69 A_70 V_71 A_72 V_73 => ((r69 < 0 → False) ∧ (¬ (r69 < 0) → (wpX5_letter A_70 V_71 A_72 V_73 x14 (8 : Int32) (fun r75 A_76 V_77 A_78 V_79 => ((x6 ≤ r75 → False) ∧ (¬ (x6 ≤ r75) → (wpX5_letter A_76 V_77 A_78 V_79 x14 (8 : Int32) (fun r81 A_82 V_83 A_84 V_85 => (vp_in r81 150 ∧ ((¬ ((L_63 0) r81.toNatClampNeg) = (2 : Int32) → (wb_L_law_309 cl nB nD hB hD K46 (wl_L_law_207 cl nB nD hB hD K46 n) k0 A_82 V_83 A_84 V_85 L_63 x6 x7 x9 x11 x12 x14)) ∧ (((L_63 0) r81.toNatClampNeg) = (2 : Int32) → (wpX5_letter A_82 V_83 A_84 V_85 x14 (8 : Int32) (fun r87 A_88 V_89 A_90 V_91 => (wpX5_letter A_88 V_89 A_90 V_91 r87 (3 : Int32) (fun r92 A_93 V_94 A_95 V_96 => ((¬ r92 = (2 : Int32) → False) ∧ (r92 = (2 : Int32) → (wb_L_law_309 cl nB nD hB hD K46 (wl_L_law_207 cl nB nD hB hD K46 n) k0 A_93 V_94 A_95 V_96 L_63 x6 x7 x9 x11 x12 x14)))))))))))))))))))))))))))))))))
set_option maxHeartbeats 8000000 in
set_option maxRecDepth 100000 in
theorem wk_L_law_207 (K46 : Nat → SA → SV → SA → SV → SA → Int32 → Int32 → Prop) (cx : CX RL cL_law 21 wsL_law D [(cI, .int), (cZ, .boolean), (cII, .array .int)] p s m args c A0) (hFX : FX b sl xs A0 s) (hsl : sl ≤ 260) (hret : ∀ (ls : Array Slot) (ws : va_W) (H : Heap) (locs : List Loc) (k0 : Nat), k0 ≤ gLaw → WS D s A0 ws H locs → W p l e room_1 s m args below meth c H locs k0 (150 * k0) Z (F0 m 1047 ls [.int 1])) (hB9 : RW nB hB LB) (hD9 : RW nD hD LD) (hK46 : ∀ (k0 : Nat) (A : SA) (V : SV) (A2 : SA) (V2 : SV) (L : SA) (x6 : Int32) (x7 : Int32) (h : K46 k0 A V A2 V2 L x6 x7) (hgc : k0 ≤ gLaw)  (H : Heap) (locs : List Loc) (ls : Array Slot) (hw : WS D s A0 ((wD xa ad ad2 cI cZ A V A2 V2 ++ [(o0, .inl (cI, 150, .inl (L 0))), (o1, .inl (cI, 150, .inl (L 1))), (o2, .inl (cI, 150, .inl (L 2)))]) ++ simW cI cII sa ta ba da la sc so LB LD) H locs) (hl : lv_has ls 21 [(0, .ref b), (1, .ref xa), (2, .ref sa), (3, .ref o0), (4, .ref o1), (5, .ref o2), (6, .int x6), (7, .int x7)]), W p l e room_1 s m args below meth c H locs k0 (150 * k0) Z (F0 m 46 ls [])) : ∀ (n : Nat) (k0 : Nat) (A : SA) (V : SV) (A2 : SA) (V2 : SV) (L : SA) (x6 : Int32) (x7 : Int32) (x9 : Int32) (x11 : Int32) (x12 : Int32) (x14 : Int32) (h : wl_L_law_207 (clI sl xs) nB nD hB hD K46 n k0 A V A2 V2 L x6 x7 x9 x11 x12 x14) (hgc : k0 ≤ gLaw) (q3 : Nat) (q4 : Nat) (H : Heap) (locs : List Loc) (ls : Array Slot) (hw : WS D s A0 ((wD xa ad ad2 cI cZ A V A2 V2 ++ [(o0, .inl (cI, 150, .inl (L 0))), (o1, .inl (cI, 150, .inl (L 1))), (o2, .inl (cI, 150, .inl (L 2))), (q3, .inl (cI, (x6).toNatClampNeg, .inl (L 3))), (q4, .inl (cI, 6, .inl (L 4)))]) ++ simW cI cII sa ta ba da la sc so LB LD) H locs) (hl : lv_has ls 21 [(0, .ref b), (1, .ref xa), (2, .ref sa), (3, .ref o0), (4, .ref o1), (5, .ref o2), (6, .int x6), (7, .int x7), (9, .int x9), (10, .ref q3), (11, .int x11), (12, .int x12), (13, .ref q4), (14, .int x14)]), W p l e room_1 s m args below meth c H locs k0 (150 * k0) Z (F0 m 207 ls []) := by
  obtain ⟨hx, hb, hml, hown, hts, hK, hA⟩ := id cx
  intro n
  induction n with
  | zero => intro k0 A V A2 V2 L x6 x7 x9 x11 x12 x14 h; exact False.elim h
  | succ n ih =>
    intro k0 A V A2 V2 L x6 x7 x9 x11 x12 x14 h hgc q3 q4 H locs ls hw hl
    refine lv_iload (pc := 207) hx hb dL_law_207 (lv_at hl 13 rfl) ?_
    refine lv_iload (pc := 209) hx hb dL_law_209 (lv_at hl 11 rfl) ?_
    refine lv_icmp_ge (pc := 211) (tgt := 674) hx hb dL_law_211 (by decide) (fun c52 => ?_) (fun c52 => ?_)
    · have h := h.1 c52
      refine lv_iconst (pc := 674) (v := (0 : Int32)) hx hb dL_law_674 (by decide) ?_
      refine lv_istore (pc := 675) (lv' := [(14, .int (0 : Int32)), (0, .ref b), (1, .ref xa), (2, .ref sa), (3, .ref o0), (4, .ref o1), (5, .ref o2), (6, .int x6), (7, .int x7), (9, .int x9), (10, .ref q3), (11, .int x11), (12, .int x12), (13, .ref q4)]) hx hb dL_law_675 hl (by decide) rfl (fun ls hl => ?_)
      refine lv_iconst (pc := 677) (v := (0 : Int32)) hx hb dL_law_677 (by decide) ?_
      refine lv_istore (pc := 678) (lv' := [(15, .int (0 : Int32)), (14, .int (0 : Int32)), (0, .ref b), (1, .ref xa), (2, .ref sa), (3, .ref o0), (4, .ref o1), (5, .ref o2), (6, .int x6), (7, .int x7), (9, .int x9), (10, .ref q3), (11, .int x11), (12, .int x12), (13, .ref q4)]) hx hb dL_law_678 hl (by decide) rfl (fun ls hl => ?_)
      refine lv_iconst (pc := 680) (v := (0 : Int32)) hx hb dL_law_680 (by decide) ?_
      refine lv_istore (pc := 681) (lv' := [(16, .int (0 : Int32)), (15, .int (0 : Int32)), (14, .int (0 : Int32)), (0, .ref b), (1, .ref xa), (2, .ref sa), (3, .ref o0), (4, .ref o1), (5, .ref o2), (6, .int x6), (7, .int x7), (9, .int x9), (10, .ref q3), (11, .int x11), (12, .int x12), (13, .ref q4)]) hx hb dL_law_681 hl (by decide) rfl (fun ls hl => ?_)
      refine lv_iconst (pc := 683) (v := (0 : Int32)) hx hb dL_law_683 (by decide) ?_
      refine lv_istore (pc := 684) (lv' := [(17, .int (0 : Int32)), (16, .int (0 : Int32)), (15, .int (0 : Int32)), (14, .int (0 : Int32)), (0, .ref b), (1, .ref xa), (2, .ref sa), (3, .ref o0), (4, .ref o1), (5, .ref o2), (6, .int x6), (7, .int x7), (9, .int x9), (10, .ref q3), (11, .int x11), (12, .int x12), (13, .ref q4)]) hx hb dL_law_684 hl (by decide) rfl (fun ls hl => ?_)
      obtain ⟨n686, h⟩ := h
      exact wk_L_law_686 K46 cx hFX hsl hret hB9 hD9 hK46 n686 k0 A V A2 V2 L x6 x7 x11 x12 (0 : Int32) (0 : Int32) (0 : Int32) (0 : Int32) h hgc q3 q4 _ _ _ hw (lv_sub hl [4, 5, 6, 7, 8, 9, 10, 11, 14, 15, 16, 3, 2, 1, 0] rfl)
    · have h := h.2 c52
      refine lv_aload_n (pc := 214) hx hb dL_law_214 rfl (lv_at hl 1 rfl) ?_
      refine lv_iload (pc := 215) hx hb dL_law_215 (lv_at hl 13 rfl) ?_
      refine lv_iconst (pc := 217) (v := (3 : Int32)) hx hb dL_law_217 (by decide) ?_
      refine callVi (pc := 218) (rest := []) (c1 := k0) (s1 := 150 * k0) cx hw hl (metX5_letter l D cI cZ xa ad ad2 H.size A V A2 V2 x14 (3 : Int32) _ h) (fun hts => cwV 2 hts gL_law_X5_letter rfl rfl rfl (by decide +kernel) ⟨Nat.le_of_ble_eq_true rfl, Nat.le_of_ble_eq_true rfl⟩) (SUB.left.trans SUB.left) [0, 1] rfl 0 (ci := 5) rfl rfl rfl (JN.trans SUB.left SUB.left JN.left JN.left) rfl rfl (Nat.le_of_ble_eq_true rfl) ⟨cgLaw hgc, sgLaw hgc⟩ rfl rfl dL_law_218 (fun r53 u H locs h hw => ?_)
      obtain ⟨A_54, V_55, A_56, V_57⟩ := u
      have hw : WS D s A0 ((wD xa ad ad2 cI cZ A_54 V_55 A_56 V_57 ++ [(o0, .inl (cI, 150, .inl (L 0))), (o1, .inl (cI, 150, .inl (L 1))), (o2, .inl (cI, 150, .inl (L 2))), (q3, .inl (cI, (x6).toNatClampNeg, .inl (L 3))), (q4, .inl (cI, 6, .inl (L 4)))]) ++ simW cI cII sa ta ba da la sc so LB LD) _ _ := hw
      refine lv_istore (pc := 221) (lv' := [(15, .int r53), (0, .ref b), (1, .ref xa), (2, .ref sa), (3, .ref o0), (4, .ref o1), (5, .ref o2), (6, .int x6), (7, .int x7), (9, .int x9), (10, .ref q3), (11, .int x11), (12, .int x12), (13, .ref q4), (14, .int x14)]) hx hb dL_law_221 hl (by decide) rfl (fun ls hl => ?_)
      refine lv_aload_n (pc := 223) hx hb dL_law_223 rfl (lv_at hl 2 rfl) ?_
      refine lv_iload (pc := 224) hx hb dL_law_224 (lv_at hl 14 rfl) ?_
      refine lv_iconst (pc := 226) (v := (4 : Int32)) hx hb dL_law_226 (by decide) ?_
      refine callVi (pc := 227) (rest := []) (c1 := k0) (s1 := 150 * k0) cx hw hl (metX5_letter l D cI cZ xa ad ad2 H.size A_54 V_55 A_56 V_57 x14 (4 : Int32) _ h) (fun hts => cwV 2 hts gL_law_X5_letter rfl rfl rfl (by decide +kernel) ⟨Nat.le_of_ble_eq_true rfl, Nat.le_of_ble_eq_true rfl⟩) (SUB.left.trans SUB.left) [0, 1] rfl 0 (ci := 5) rfl rfl rfl (JN.trans SUB.left SUB.left JN.left JN.left) rfl rfl (Nat.le_of_ble_eq_true rfl) ⟨cgLaw hgc, sgLaw hgc⟩ rfl rfl dL_law_227 (fun r58 u H locs h hw => ?_)
      obtain ⟨A_59, V_60, A_61, V_62⟩ := u
      have hw : WS D s A0 ((wD xa ad ad2 cI cZ A_59 V_60 A_61 V_62 ++ [(o0, .inl (cI, 150, .inl (L 0))), (o1, .inl (cI, 150, .inl (L 1))), (o2, .inl (cI, 150, .inl (L 2))), (q3, .inl (cI, (x6).toNatClampNeg, .inl (L 3))), (q4, .inl (cI, 6, .inl (L 4)))]) ++ simW cI cII sa ta ba da la sc so LB LD) _ _ := hw
      refine lv_istore (pc := 230) (lv' := [(16, .int r58), (15, .int r53), (0, .ref b), (1, .ref xa), (2, .ref sa), (3, .ref o0), (4, .ref o1), (5, .ref o2), (6, .int x6), (7, .int x7), (9, .int x9), (10, .ref q3), (11, .int x11), (12, .int x12), (13, .ref q4), (14, .int x14)]) hx hb dL_law_230 hl (by decide) rfl (fun ls hl => ?_)
      refine lv_aload (pc := 232) hx hb dL_law_232 (lv_at hl 14 rfl) ?_
      refine lv_iload (pc := 234) hx hb dL_law_234 (lv_at hl 1 rfl) ?_
      refine lv_dup2_11 (pc := 236) hx hb dL_law_236 rfl rfl ?_
      refine alI (pc := 237) cx hw 55 0 (app_l rfl) rfl h.1 dL_law_237 ?_
      have h := h.2
      refine lv_iconst (pc := 238) (v := (1 : Int32)) hx hb dL_law_238 (by decide) ?_
      refine lv_iadd (pc := 239) hx hb dL_law_239 ?_
      obtain ⟨L_63, eL_63⟩ : ∃ z : SA, z = up L 4 r53.toNatClampNeg (((L 4) r53.toNatClampNeg) + (1 : Int32)) := ⟨_, rfl⟩
      refine asI (pc := 240) cx hw 55 0 (app_l rfl) rfl (i := r53) h.1 (ws1 := ((wD xa ad ad2 cI cZ A_59 V_60 A_61 V_62 ++ [(o0, .inl (cI, 150, .inl (L_63 0))), (o1, .inl (cI, 150, .inl (L_63 1))), (o2, .inl (cI, 150, .inl (L_63 2))), (q3, .inl (cI, (x6).toNatClampNeg, .inl (L_63 3))), (q4, .inl (cI, 6, .inl (L_63 4)))]) ++ simW cI cII sa ta ba da la sc so LB LD)) (set_l (Nat.le_of_ble_eq_true rfl) (by rw [eL_63]; rfl)) dL_law_240 (fun H locs hw => ?_)
      have h := h.2 L_63 eL_63
      refine lv_iload (pc := 241) hx hb dL_law_241 (lv_at hl 15 rfl) ?_
      refine lv_iload (pc := 243) hx hb dL_law_243 (lv_at hl 8 rfl) ?_
      refine lv_icmp_lt (pc := 245) (tgt := 351) hx hb dL_law_245 (by decide) (fun c64 => ?_) (fun c64 => ?_)
      · have h := h.1 c64
        refine lv_aload_n (pc := 351) hx hb dL_law_351 rfl (lv_at hl 5 rfl) ?_
        refine lv_iload (pc := 352) hx hb dL_law_352 (lv_at hl 15 rfl) ?_
        refine alI (pc := 354) cx hw 51 0 (app_l rfl) rfl h.1 dL_law_354 ?_
        have h := h.2
        refine lv_istore (pc := 355) (lv' := [(17, .int ((L_63 0) x14.toNatClampNeg)), (16, .int r58), (15, .int r53), (0, .ref b), (1, .ref xa), (2, .ref sa), (3, .ref o0), (4, .ref o1), (5, .ref o2), (6, .int x6), (7, .int x7), (9, .int x9), (10, .ref q3), (11, .int x11), (12, .int x12), (13, .ref q4), (14, .int x14)]) hx hb dL_law_355 hl (by decide) rfl (fun ls hl => ?_)
        refine lv_iload (pc := 357) hx hb dL_law_357 (lv_at hl 2 rfl) ?_
        refine lv_iload (pc := 359) hx hb dL_law_359 (lv_at hl 0 rfl) ?_
        refine lv_icmp_eq (pc := 361) (tgt := 412) hx hb dL_law_361 (by decide) (fun c65 => ?_) (fun c65 => ?_)
        · have h := h.1 c65
          refine lv_iconst (pc := 412) (v := (1 : Int32)) hx hb dL_law_412 (by decide) ?_
          refine lv_goto (pc := 413) (tgt := 417) hx hb dL_law_413 (by decide) ?_
          exact wk_L_law_417 K46 (wl_L_law_207 (clI sl xs) nB nD hB hD K46 n) cx hFX hsl hret hB9 hD9 hK46 ih k0 A_59 V_60 A_61 V_62 L_63 x6 x7 x9 x11 x12 x14 r53 r58 ((L_63 0) x14.toNatClampNeg) (1 : Int32) h hgc q3 q4 _ _ _ hw (lv_sub hl [3, 4, 5, 6, 7, 8, 9, 10, 11, 12, 13, 14, 15, 16, 2, 1, 0] rfl)
        · have h := h.2 c65
          refine lv_iload (pc := 364) hx hb dL_law_364 (lv_at hl 0 rfl) ?_
          refine lv_if_ne (pc := 366) (tgt := 375) hx hb dL_law_366 (by decide) (fun c66 => ?_) (fun c66 => ?_)
          · have h := h.1 c66
            exact wk_L_law_375 K46 (wl_L_law_207 (clI sl xs) nB nD hB hD K46 n) cx hFX hsl hret hB9 hD9 hK46 ih k0 A_59 V_60 A_61 V_62 L_63 x6 x7 x9 x11 x12 x14 r53 r58 ((L_63 0) x14.toNatClampNeg) h hgc q3 q4 _ _ _ hw (lv_sub hl [3, 4, 5, 6, 7, 8, 9, 10, 11, 12, 13, 14, 15, 16, 2, 1, 0] rfl)
          · have h := h.2 c66
            refine lv_iload (pc := 369) hx hb dL_law_369 (lv_at hl 2 rfl) ?_
            refine lv_iconst (pc := 371) (v := (1 : Int32)) hx hb dL_law_371 (by decide) ?_
            refine lv_icmp_eq (pc := 372) (tgt := 412) hx hb dL_law_372 (by decide) (fun c67 => ?_) (fun c67 => ?_)
            · have h := h.1 c67
              refine lv_iconst (pc := 412) (v := (1 : Int32)) hx hb dL_law_412 (by decide) ?_
              refine lv_goto (pc := 413) (tgt := 417) hx hb dL_law_413 (by decide) ?_
              exact wk_L_law_417 K46 (wl_L_law_207 (clI sl xs) nB nD hB hD K46 n) cx hFX hsl hret hB9 hD9 hK46 ih k0 A_59 V_60 A_61 V_62 L_63 x6 x7 x9 x11 x12 x14 r53 r58 ((L_63 0) x14.toNatClampNeg) (1 : Int32) h hgc q3 q4 _ _ _ hw (lv_sub hl [3, 4, 5, 6, 7, 8, 9, 10, 11, 12, 13, 14, 15, 16, 2, 1, 0] rfl)
            · have h := h.2 c67
              exact wk_L_law_375 K46 (wl_L_law_207 (clI sl xs) nB nD hB hD K46 n) cx hFX hsl hret hB9 hD9 hK46 ih k0 A_59 V_60 A_61 V_62 L_63 x6 x7 x9 x11 x12 x14 r53 r58 ((L_63 0) x14.toNatClampNeg) h hgc q3 q4 _ _ _ hw (lv_sub hl [3, 4, 5, 6, 7, 8, 9, 10, 11, 12, 13, 14, 15, 16, 2, 1, 0] rfl)
      · have h := h.2 c64
        refine lv_iload (pc := 248) hx hb dL_law_248 (lv_at hl 1 rfl) ?_
        refine lv_iconst (pc := 250) (v := (4 : Int32)) hx hb dL_law_250 (by decide) ?_
        refine lv_icmp_ne (pc := 251) (tgt := 349) hx hb dL_law_251 (by decide) (fun c68 => ?_) (fun c68 => ?_)
        · have h := h.1 c68
          refine lv_iconst (pc := 349) (v := (0 : Int32)) hx hb dL_law_349 (by decide) ?_
          exact False.elim h
        · have h := h.2 c68
          refine lv_aload_n (pc := 254) hx hb dL_law_254 rfl (lv_at hl 3 rfl) ?_
          refine lv_iload (pc := 255) hx hb dL_law_255 (lv_at hl 15 rfl) ?_
          refine lv_bipush (pc := 257) (v := (8 : Int32)) hx hb dL_law_257 (by decide) ?_
          refine callVi (pc := 259) (rest := []) (c1 := k0) (s1 := 150 * k0) cx hw hl (metX5_letter l D cI cZ xa ad ad2 H.size A_59 V_60 A_61 V_62 x14 (8 : Int32) _ h) (fun hts => cwV 2 hts gL_law_X5_letter rfl rfl rfl (by decide +kernel) ⟨Nat.le_of_ble_eq_true rfl, Nat.le_of_ble_eq_true rfl⟩) (SUB.left.trans SUB.left) [0, 1] rfl 0 (ci := 5) rfl rfl rfl (JN.trans SUB.left SUB.left JN.left JN.left) rfl rfl (Nat.le_of_ble_eq_true rfl) ⟨cgLaw hgc, sgLaw hgc⟩ rfl rfl dL_law_259 (fun r69 u H locs h hw => ?_)
          obtain ⟨A_70, V_71, A_72, V_73⟩ := u
          have hw : WS D s A0 ((wD xa ad ad2 cI cZ A_70 V_71 A_72 V_73 ++ [(o0, .inl (cI, 150, .inl (L_63 0))), (o1, .inl (cI, 150, .inl (L_63 1))), (o2, .inl (cI, 150, .inl (L_63 2))), (q3, .inl (cI, (x6).toNatClampNeg, .inl (L_63 3))), (q4, .inl (cI, 6, .inl (L_63 4)))]) ++ simW cI cII sa ta ba da la sc so LB LD) _ _ := hw
          refine lv_if_lt (pc := 262) (tgt := 349) hx hb dL_law_262 (by decide) (fun c74 => ?_) (fun c74 => ?_)
          · have h := h.1 c74
            refine lv_iconst (pc := 349) (v := (0 : Int32)) hx hb dL_law_349 (by decide) ?_
            exact False.elim h
          · have h := h.2 c74
            refine lv_aload_n (pc := 265) hx hb dL_law_265 rfl (lv_at hl 3 rfl) ?_
            refine lv_iload (pc := 266) hx hb dL_law_266 (lv_at hl 15 rfl) ?_
            refine lv_bipush (pc := 268) (v := (8 : Int32)) hx hb dL_law_268 (by decide) ?_
            refine callVi (pc := 270) (rest := []) (c1 := k0) (s1 := 150 * k0) cx hw hl (metX5_letter l D cI cZ xa ad ad2 H.size A_70 V_71 A_72 V_73 x14 (8 : Int32) _ h) (fun hts => cwV 2 hts gL_law_X5_letter rfl rfl rfl (by decide +kernel) ⟨Nat.le_of_ble_eq_true rfl, Nat.le_of_ble_eq_true rfl⟩) (SUB.left.trans SUB.left) [0, 1] rfl 0 (ci := 5) rfl rfl rfl (JN.trans SUB.left SUB.left JN.left JN.left) rfl rfl (Nat.le_of_ble_eq_true rfl) ⟨cgLaw hgc, sgLaw hgc⟩ rfl rfl dL_law_270 (fun r75 u H locs h hw => ?_)
            obtain ⟨A_76, V_77, A_78, V_79⟩ := u
            have hw : WS D s A0 ((wD xa ad ad2 cI cZ A_76 V_77 A_78 V_79 ++ [(o0, .inl (cI, 150, .inl (L_63 0))), (o1, .inl (cI, 150, .inl (L_63 1))), (o2, .inl (cI, 150, .inl (L_63 2))), (q3, .inl (cI, (x6).toNatClampNeg, .inl (L_63 3))), (q4, .inl (cI, 6, .inl (L_63 4)))]) ++ simW cI cII sa ta ba da la sc so LB LD) _ _ := hw
            refine lv_iload (pc := 273) hx hb dL_law_273 (lv_at hl 8 rfl) ?_
            refine lv_icmp_ge (pc := 275) (tgt := 349) hx hb dL_law_275 (by decide) (fun c80 => ?_) (fun c80 => ?_)
            · have h := h.1 c80
              refine lv_iconst (pc := 349) (v := (0 : Int32)) hx hb dL_law_349 (by decide) ?_
              exact False.elim h
            · have h := h.2 c80
              refine lv_aload_n (pc := 278) hx hb dL_law_278 rfl (lv_at hl 5 rfl) ?_
              refine lv_aload_n (pc := 279) hx hb dL_law_279 rfl (lv_at hl 3 rfl) ?_
              refine lv_iload (pc := 280) hx hb dL_law_280 (lv_at hl 15 rfl) ?_
              refine lv_bipush (pc := 282) (v := (8 : Int32)) hx hb dL_law_282 (by decide) ?_
              refine callVi (pc := 284) (rest := [.ref o0]) (c1 := k0) (s1 := 150 * k0) cx hw hl (metX5_letter l D cI cZ xa ad ad2 H.size A_76 V_77 A_78 V_79 x14 (8 : Int32) _ h) (fun hts => cwV 2 hts gL_law_X5_letter rfl rfl rfl (by decide +kernel) ⟨Nat.le_of_ble_eq_true rfl, Nat.le_of_ble_eq_true rfl⟩) (SUB.left.trans SUB.left) [0, 1] rfl 0 (ci := 5) rfl rfl rfl (JN.trans SUB.left SUB.left JN.left JN.left) rfl rfl (Nat.le_of_ble_eq_true rfl) ⟨cgLaw hgc, sgLaw hgc⟩ rfl rfl dL_law_284 (fun r81 u H locs h hw => ?_)
              obtain ⟨A_82, V_83, A_84, V_85⟩ := u
              have hw : WS D s A0 ((wD xa ad ad2 cI cZ A_82 V_83 A_84 V_85 ++ [(o0, .inl (cI, 150, .inl (L_63 0))), (o1, .inl (cI, 150, .inl (L_63 1))), (o2, .inl (cI, 150, .inl (L_63 2))), (q3, .inl (cI, (x6).toNatClampNeg, .inl (L_63 3))), (q4, .inl (cI, 6, .inl (L_63 4)))]) ++ simW cI cII sa ta ba da la sc so LB LD) _ _ := hw
              refine alI (pc := 287) cx hw 51 0 (app_l rfl) rfl h.1 dL_law_287 ?_
              have h := h.2
              refine lv_iconst (pc := 288) (v := (2 : Int32)) hx hb dL_law_288 (by decide) ?_
              refine lv_icmp_ne (pc := 289) (tgt := 309) hx hb dL_law_289 (by decide) (fun c86 => ?_) (fun c86 => ?_)
              · have h := h.1 c86
                exact wk_L_law_309 K46 (wl_L_law_207 (clI sl xs) nB nD hB hD K46 n) cx hFX hsl hret hB9 hD9 hK46 ih k0 A_82 V_83 A_84 V_85 L_63 x6 x7 x9 x11 x12 x14 h hgc q3 q4 _ _ _ hw (lv_sub hl [2, 3, 4, 5, 6, 7, 8, 9, 10, 11, 12, 13, 14, 15] rfl)
              · have h := h.2 c86
                refine lv_aload_n (pc := 292) hx hb dL_law_292 rfl (lv_at hl 3 rfl) ?_
                refine lv_aload_n (pc := 293) hx hb dL_law_293 rfl (lv_at hl 3 rfl) ?_
                refine lv_iload (pc := 294) hx hb dL_law_294 (lv_at hl 15 rfl) ?_
                refine lv_bipush (pc := 296) (v := (8 : Int32)) hx hb dL_law_296 (by decide) ?_
                refine callVi (pc := 298) (rest := [.ref xa]) (c1 := k0) (s1 := 150 * k0) cx hw hl (metX5_letter l D cI cZ xa ad ad2 H.size A_82 V_83 A_84 V_85 x14 (8 : Int32) _ h) (fun hts => cwV 2 hts gL_law_X5_letter rfl rfl rfl (by decide +kernel) ⟨Nat.le_of_ble_eq_true rfl, Nat.le_of_ble_eq_true rfl⟩) (SUB.left.trans SUB.left) [0, 1] rfl 0 (ci := 5) rfl rfl rfl (JN.trans SUB.left SUB.left JN.left JN.left) rfl rfl (Nat.le_of_ble_eq_true rfl) ⟨cgLaw hgc, sgLaw hgc⟩ rfl rfl dL_law_298 (fun r87 u H locs h hw => ?_)
                obtain ⟨A_88, V_89, A_90, V_91⟩ := u
                have hw : WS D s A0 ((wD xa ad ad2 cI cZ A_88 V_89 A_90 V_91 ++ [(o0, .inl (cI, 150, .inl (L_63 0))), (o1, .inl (cI, 150, .inl (L_63 1))), (o2, .inl (cI, 150, .inl (L_63 2))), (q3, .inl (cI, (x6).toNatClampNeg, .inl (L_63 3))), (q4, .inl (cI, 6, .inl (L_63 4)))]) ++ simW cI cII sa ta ba da la sc so LB LD) _ _ := hw
                refine lv_iconst (pc := 301) (v := (3 : Int32)) hx hb dL_law_301 (by decide) ?_
                refine callVi (pc := 302) (rest := []) (c1 := k0) (s1 := 150 * k0) cx hw hl (metX5_letter l D cI cZ xa ad ad2 H.size A_88 V_89 A_90 V_91 r87 (3 : Int32) _ h) (fun hts => cwV 2 hts gL_law_X5_letter rfl rfl rfl (by decide +kernel) ⟨Nat.le_of_ble_eq_true rfl, Nat.le_of_ble_eq_true rfl⟩) (SUB.left.trans SUB.left) [0, 1] rfl 0 (ci := 5) rfl rfl rfl (JN.trans SUB.left SUB.left JN.left JN.left) rfl rfl (Nat.le_of_ble_eq_true rfl) ⟨cgLaw hgc, sgLaw hgc⟩ rfl rfl dL_law_302 (fun r92 u H locs h hw => ?_)
                obtain ⟨A_93, V_94, A_95, V_96⟩ := u
                have hw : WS D s A0 ((wD xa ad ad2 cI cZ A_93 V_94 A_95 V_96 ++ [(o0, .inl (cI, 150, .inl (L_63 0))), (o1, .inl (cI, 150, .inl (L_63 1))), (o2, .inl (cI, 150, .inl (L_63 2))), (q3, .inl (cI, (x6).toNatClampNeg, .inl (L_63 3))), (q4, .inl (cI, 6, .inl (L_63 4)))]) ++ simW cI cII sa ta ba da la sc so LB LD) _ _ := hw
                refine lv_iconst (pc := 305) (v := (2 : Int32)) hx hb dL_law_305 (by decide) ?_
                refine lv_icmp_ne (pc := 306) (tgt := 349) hx hb dL_law_306 (by decide) (fun c97 => ?_) (fun c97 => ?_)
                · have h := h.1 c97
                  refine lv_iconst (pc := 349) (v := (0 : Int32)) hx hb dL_law_349 (by decide) ?_
                  exact False.elim h
                · have h := h.2 c97
                  exact wk_L_law_309 K46 (wl_L_law_207 (clI sl xs) nB nD hB hD K46 n) cx hFX hsl hret hB9 hD9 hK46 ih k0 A_93 V_94 A_95 V_96 L_63 x6 x7 x9 x11 x12 x14 h hgc q3 q4 _ _ _ hw (lv_sub hl [2, 3, 4, 5, 6, 7, 8, 9, 10, 11, 12, 13, 14, 15] rfl)
def wl_L_law_159 (cl : Int32 → Int32) (nB nD : Nat) (hB hD : Nat → Int32) (K46 : Nat → SA → SV → SA → SV → SA → Int32 → Int32 → Prop) : Nat → Nat → SA → SV → SA → SV → SA → Int32 → Int32 → Int32 → Int32 → Prop
  | 0, _, _, _, _, _, _, _, _, _, _ => False
  | n + 1, k0, A, V, A2, V2, L, x6, x7, x9, x11 => ((x6 ≤ x11 → (wpX5_pass A V A2 V2 (1 : Int32) (fun r34 A_35 V_36 A_37 V_38 => (wpX5_count A_35 V_36 A_37 V_38 (3 : Int32) (fun r39 A_40 V_41 A_42 V_43 => (k0 + 1 ≤ 40000 ∧ (∀ L_45 : SA, L_45 = ua L 4 (fun _ => 0) → (∃ n207 : Nat, wl_L_law_207 cl nB nD hB hD K46 n207 (k0 + 1) A_40 V_41 A_42 V_43 L_45 x6 x7 x9 r34 r39 (0 : Int32))))))))) ∧ (¬ (x6 ≤ x11) → (wpX5_letter A V A2 V2 x11 (5 : Int32) (fun r46 A_47 V_48 A_49 V_50 => (vp_in x11 (x6).toNatClampNeg ∧ (∀ L_51 : SA, L_51 = up L 3 x11.toNatClampNeg r46 → wl_L_law_159 cl nB nD hB hD K46 n k0 A_47 V_48 A_49 V_50 L_51 x6 x7 x9 (x11 + 1)))))))
set_option maxHeartbeats 8000000 in
set_option maxRecDepth 100000 in
theorem wk_L_law_159 (K46 : Nat → SA → SV → SA → SV → SA → Int32 → Int32 → Prop) (cx : CX RL cL_law 21 wsL_law D [(cI, .int), (cZ, .boolean), (cII, .array .int)] p s m args c A0) (hFX : FX b sl xs A0 s) (hsl : sl ≤ 260) (hret : ∀ (ls : Array Slot) (ws : va_W) (H : Heap) (locs : List Loc) (k0 : Nat), k0 ≤ gLaw → WS D s A0 ws H locs → W p l e room_1 s m args below meth c H locs k0 (150 * k0) Z (F0 m 1047 ls [.int 1])) (hB9 : RW nB hB LB) (hD9 : RW nD hD LD) (hK46 : ∀ (k0 : Nat) (A : SA) (V : SV) (A2 : SA) (V2 : SV) (L : SA) (x6 : Int32) (x7 : Int32) (h : K46 k0 A V A2 V2 L x6 x7) (hgc : k0 ≤ gLaw)  (H : Heap) (locs : List Loc) (ls : Array Slot) (hw : WS D s A0 ((wD xa ad ad2 cI cZ A V A2 V2 ++ [(o0, .inl (cI, 150, .inl (L 0))), (o1, .inl (cI, 150, .inl (L 1))), (o2, .inl (cI, 150, .inl (L 2)))]) ++ simW cI cII sa ta ba da la sc so LB LD) H locs) (hl : lv_has ls 21 [(0, .ref b), (1, .ref xa), (2, .ref sa), (3, .ref o0), (4, .ref o1), (5, .ref o2), (6, .int x6), (7, .int x7)]), W p l e room_1 s m args below meth c H locs k0 (150 * k0) Z (F0 m 46 ls [])) : ∀ (n : Nat) (k0 : Nat) (A : SA) (V : SV) (A2 : SA) (V2 : SV) (L : SA) (x6 : Int32) (x7 : Int32) (x9 : Int32) (x11 : Int32) (h : wl_L_law_159 (clI sl xs) nB nD hB hD K46 n k0 A V A2 V2 L x6 x7 x9 x11) (hgc : k0 ≤ gLaw) (q3 : Nat) (H : Heap) (locs : List Loc) (ls : Array Slot) (hw : WS D s A0 ((wD xa ad ad2 cI cZ A V A2 V2 ++ [(o0, .inl (cI, 150, .inl (L 0))), (o1, .inl (cI, 150, .inl (L 1))), (o2, .inl (cI, 150, .inl (L 2))), (q3, .inl (cI, (x6).toNatClampNeg, .inl (L 3)))]) ++ simW cI cII sa ta ba da la sc so LB LD) H locs) (hl : lv_has ls 21 [(0, .ref b), (1, .ref xa), (2, .ref sa), (3, .ref o0), (4, .ref o1), (5, .ref o2), (6, .int x6), (7, .int x7), (9, .int x9), (10, .ref q3), (11, .int x11)]), W p l e room_1 s m args below meth c H locs k0 (150 * k0) Z (F0 m 159 ls []) := by
  obtain ⟨hx, hb, hml, hown, hts, hK, hA⟩ := id cx
  intro n
  induction n with
  | zero => intro k0 A V A2 V2 L x6 x7 x9 x11 h; exact False.elim h
  | succ n ih =>
    intro k0 A V A2 V2 L x6 x7 x9 x11 h hgc q3 H locs ls hw hl
    refine lv_iload (pc := 159) hx hb dL_law_159 (lv_at hl 10 rfl) ?_
    refine lv_iload (pc := 161) hx hb dL_law_161 (lv_at hl 6 rfl) ?_
    refine lv_icmp_ge (pc := 163) (tgt := 184) hx hb dL_law_163 (by decide) (fun c33 => ?_) (fun c33 => ?_)
    · have h := h.1 c33
      refine lv_aload_n (pc := 184) hx hb dL_law_184 rfl (lv_at hl 1 rfl) ?_
      refine lv_iconst (pc := 185) (v := (1 : Int32)) hx hb dL_law_185 (by decide) ?_
      refine callVi (pc := 186) (rest := []) (c1 := k0) (s1 := 150 * k0) cx hw hl (metX5_pass l D cI cZ xa ad ad2 H.size A V A2 V2 (1 : Int32) _ h) (fun hts => cwV 1 hts gL_law_X5_pass rfl rfl rfl (by decide +kernel) ⟨Nat.le_of_ble_eq_true rfl, Nat.le_of_ble_eq_true rfl⟩) (SUB.left.trans SUB.left) [0, 1] rfl 0 (ci := 5) rfl rfl rfl (JN.trans SUB.left SUB.left JN.left JN.left) rfl rfl (Nat.le_of_ble_eq_true rfl) ⟨cgLaw hgc, sgLaw hgc⟩ rfl rfl dL_law_186 (fun r34 u H locs h hw => ?_)
      obtain ⟨A_35, V_36, A_37, V_38⟩ := u
      have hw : WS D s A0 ((wD xa ad ad2 cI cZ A_35 V_36 A_37 V_38 ++ [(o0, .inl (cI, 150, .inl (L 0))), (o1, .inl (cI, 150, .inl (L 1))), (o2, .inl (cI, 150, .inl (L 2))), (q3, .inl (cI, (x6).toNatClampNeg, .inl (L 3)))]) ++ simW cI cII sa ta ba da la sc so LB LD) _ _ := hw
      refine lv_istore (pc := 189) (lv' := [(11, .int r34), (0, .ref b), (1, .ref xa), (2, .ref sa), (3, .ref o0), (4, .ref o1), (5, .ref o2), (6, .int x6), (7, .int x7), (9, .int x9), (10, .ref q3)]) hx hb dL_law_189 hl (by decide) rfl (fun ls hl => ?_)
      refine lv_aload_n (pc := 191) hx hb dL_law_191 rfl (lv_at hl 2 rfl) ?_
      refine lv_iconst (pc := 192) (v := (3 : Int32)) hx hb dL_law_192 (by decide) ?_
      refine callVi (pc := 193) (rest := []) (c1 := k0) (s1 := 150 * k0) cx hw hl (metX5_count l D cI cZ xa ad ad2 H.size A_35 V_36 A_37 V_38 (3 : Int32) _ h) (fun hts => cwV 1 hts gL_law_X5_count rfl rfl rfl (by decide +kernel) ⟨Nat.le_of_ble_eq_true rfl, Nat.le_of_ble_eq_true rfl⟩) (SUB.left.trans SUB.left) [0, 1] rfl 0 (ci := 5) rfl rfl rfl (JN.trans SUB.left SUB.left JN.left JN.left) rfl rfl (Nat.le_of_ble_eq_true rfl) ⟨cgLaw hgc, sgLaw hgc⟩ rfl rfl dL_law_193 (fun r39 u H locs h hw => ?_)
      obtain ⟨A_40, V_41, A_42, V_43⟩ := u
      have hw : WS D s A0 ((wD xa ad ad2 cI cZ A_40 V_41 A_42 V_43 ++ [(o0, .inl (cI, 150, .inl (L 0))), (o1, .inl (cI, 150, .inl (L 1))), (o2, .inl (cI, 150, .inl (L 2))), (q3, .inl (cI, (x6).toNatClampNeg, .inl (L 3)))]) ++ simW cI cII sa ta ba da la sc so LB LD) _ _ := hw
      refine lv_istore (pc := 196) (lv' := [(12, .int r39), (11, .int r34), (0, .ref b), (1, .ref xa), (2, .ref sa), (3, .ref o0), (4, .ref o1), (5, .ref o2), (6, .int x6), (7, .int x7), (9, .int x9), (10, .ref q3)]) hx hb dL_law_196 hl (by decide) rfl (fun ls hl => ?_)
      refine lv_bipush (pc := 198) (v := (6 : Int32)) hx hb dL_law_198 (by decide) ?_
      have hgc : k0 + 1 ≤ gLaw := h.1
      refine newT (pc := 200) (N' := 6) cx (hts _ kL_law_w_arrayClass__int) hw 0 rfl (by decide) (by decide) (Nat.le_of_ble_eq_true rfl) h.1 rgLaw dL_law_200 (fun q44 H hw => ?_)
      have h := h.2
      obtain ⟨L_45, eL_45⟩ : ∃ z : SA, z = ua L 4 (fun _ => 0) := ⟨_, rfl⟩
      have h := h L_45 eL_45
      have hw : WS D s A0 ((wD xa ad ad2 cI cZ A_40 V_41 A_42 V_43 ++ [(o0, .inl (cI, 150, .inl (L_45 0))), (o1, .inl (cI, 150, .inl (L_45 1))), (o2, .inl (cI, 150, .inl (L_45 2))), (q3, .inl (cI, (x6).toNatClampNeg, .inl (L_45 3))), (q44, .inl (cI, 6, .inl (L_45 4)))]) ++ simW cI cII sa ta ba da la sc so LB LD) _ _ := WS.eqw hw (by rw [eL_45]; exact congrArg (· ++ _) (List.append_assoc _ _ _))
      refine lv_astore (pc := 202) (lv' := [(13, .ref q44), (12, .int r39), (11, .int r34), (0, .ref b), (1, .ref xa), (2, .ref sa), (3, .ref o0), (4, .ref o1), (5, .ref o2), (6, .int x6), (7, .int x7), (9, .int x9), (10, .ref q3)]) hx hb dL_law_202 hl (by decide) rfl (fun ls hl => ?_)
      refine lv_iconst (pc := 204) (v := (0 : Int32)) hx hb dL_law_204 (by decide) ?_
      refine lv_istore (pc := 205) (lv' := [(14, .int (0 : Int32)), (13, .ref q44), (12, .int r39), (11, .int r34), (0, .ref b), (1, .ref xa), (2, .ref sa), (3, .ref o0), (4, .ref o1), (5, .ref o2), (6, .int x6), (7, .int x7), (9, .int x9), (10, .ref q3)]) hx hb dL_law_205 hl (by decide) rfl (fun ls hl => ?_)
      obtain ⟨n207, h⟩ := h
      exact wk_L_law_207 K46 cx hFX hsl hret hB9 hD9 hK46 n207 (k0 + 1) A_40 V_41 A_42 V_43 L_45 x6 x7 x9 r34 r39 (0 : Int32) h hgc q3 q44 _ _ _ hw (lv_sub hl [4, 5, 6, 7, 8, 9, 10, 11, 12, 13, 3, 2, 1, 0] rfl)
    · have h := h.2 c33
      refine lv_aload (pc := 166) hx hb dL_law_166 (lv_at hl 9 rfl) ?_
      refine lv_iload (pc := 168) hx hb dL_law_168 (lv_at hl 10 rfl) ?_
      refine lv_aload_n (pc := 170) hx hb dL_law_170 rfl (lv_at hl 1 rfl) ?_
      refine lv_iload (pc := 171) hx hb dL_law_171 (lv_at hl 10 rfl) ?_
      refine lv_iconst (pc := 173) (v := (5 : Int32)) hx hb dL_law_173 (by decide) ?_
      refine callVi (pc := 174) (rest := [.int x11, .ref q3]) (c1 := k0) (s1 := 150 * k0) cx hw hl (metX5_letter l D cI cZ xa ad ad2 H.size A V A2 V2 x11 (5 : Int32) _ h) (fun hts => cwV 2 hts gL_law_X5_letter rfl rfl rfl (by decide +kernel) ⟨Nat.le_of_ble_eq_true rfl, Nat.le_of_ble_eq_true rfl⟩) (SUB.left.trans SUB.left) [0, 1] rfl 0 (ci := 5) rfl rfl rfl (JN.trans SUB.left SUB.left JN.left JN.left) rfl rfl (Nat.le_of_ble_eq_true rfl) ⟨cgLaw hgc, sgLaw hgc⟩ rfl rfl dL_law_174 (fun r46 u H locs h hw => ?_)
      obtain ⟨A_47, V_48, A_49, V_50⟩ := u
      have hw : WS D s A0 ((wD xa ad ad2 cI cZ A_47 V_48 A_49 V_50 ++ [(o0, .inl (cI, 150, .inl (L 0))), (o1, .inl (cI, 150, .inl (L 1))), (o2, .inl (cI, 150, .inl (L 2))), (q3, .inl (cI, (x6).toNatClampNeg, .inl (L 3)))]) ++ simW cI cII sa ta ba da la sc so LB LD) _ _ := hw
      obtain ⟨L_51, eL_51⟩ : ∃ z : SA, z = up L 3 x11.toNatClampNeg r46 := ⟨_, rfl⟩
      refine asI (pc := 177) cx hw 54 0 (app_l rfl) rfl (i := x11) h.1 (ws1 := ((wD xa ad ad2 cI cZ A_47 V_48 A_49 V_50 ++ [(o0, .inl (cI, 150, .inl (L_51 0))), (o1, .inl (cI, 150, .inl (L_51 1))), (o2, .inl (cI, 150, .inl (L_51 2))), (q3, .inl (cI, (x6).toNatClampNeg, .inl (L_51 3)))]) ++ simW cI cII sa ta ba da la sc so LB LD)) (set_l (Nat.le_of_ble_eq_true rfl) (by rw [eL_51]; rfl)) dL_law_177 (fun H locs hw => ?_)
      have h := h.2 L_51 eL_51
      refine lv_iinc (pc := 178) (v := x11 + 1) (lv' := [(11, .int (x11 + 1)), (0, .ref b), (1, .ref xa), (2, .ref sa), (3, .ref o0), (4, .ref o1), (5, .ref o2), (6, .int x6), (7, .int x7), (9, .int x9), (10, .ref q3)]) hx hb dL_law_178 hl (k := 10) rfl rfl (by decide) rfl (fun ls hl => ?_)
      refine lv_goto (pc := 181) (tgt := 159) hx hb dL_law_181 (by decide) ?_
      exact ih k0 A_47 V_48 A_49 V_50 L_51 x6 x7 x9 (x11 + 1) h hgc q3 _ _ _ hw (lv_sub hl [1, 2, 3, 4, 5, 6, 7, 8, 9, 10, 0] rfl)
def wb_L_law_142 (cl : Int32 → Int32) (nB nD : Nat) (hB hD : Nat → Int32) (K46 : Nat → SA → SV → SA → SV → SA → Int32 → Int32 → Prop) (k0 : Nat) (A : SA) (V : SV) (A2 : SA) (V2 : SV) (L : SA) (x6 : Int32) (x7 : Int32) : Prop := (wpX5_tide A V A2 V2 x7 (fun r26 A_27 V_28 A_29 V_30 => (¬ x6 < 0 ∧ x6.toNatClampNeg ≤ 150 ∧ k0 + 1 ≤ 40000 ∧ (∀ L_32 : SA, L_32 = ua L 3 (fun _ => 0) → (∃ n159 : Nat, wl_L_law_159 cl nB nD hB hD K46 n159 (k0 + 1) A_27 V_28 A_29 V_30 L_32 x6 x7 r26 (0 : Int32))))))
set_option maxHeartbeats 8000000 in
set_option maxRecDepth 100000 in
theorem wk_L_law_142 (K46 : Nat → SA → SV → SA → SV → SA → Int32 → Int32 → Prop) (cx : CX RL cL_law 21 wsL_law D [(cI, .int), (cZ, .boolean), (cII, .array .int)] p s m args c A0) (hFX : FX b sl xs A0 s) (hsl : sl ≤ 260) (hret : ∀ (ls : Array Slot) (ws : va_W) (H : Heap) (locs : List Loc) (k0 : Nat), k0 ≤ gLaw → WS D s A0 ws H locs → W p l e room_1 s m args below meth c H locs k0 (150 * k0) Z (F0 m 1047 ls [.int 1])) (hB9 : RW nB hB LB) (hD9 : RW nD hD LD) (hK46 : ∀ (k0 : Nat) (A : SA) (V : SV) (A2 : SA) (V2 : SV) (L : SA) (x6 : Int32) (x7 : Int32) (h : K46 k0 A V A2 V2 L x6 x7) (hgc : k0 ≤ gLaw)  (H : Heap) (locs : List Loc) (ls : Array Slot) (hw : WS D s A0 ((wD xa ad ad2 cI cZ A V A2 V2 ++ [(o0, .inl (cI, 150, .inl (L 0))), (o1, .inl (cI, 150, .inl (L 1))), (o2, .inl (cI, 150, .inl (L 2)))]) ++ simW cI cII sa ta ba da la sc so LB LD) H locs) (hl : lv_has ls 21 [(0, .ref b), (1, .ref xa), (2, .ref sa), (3, .ref o0), (4, .ref o1), (5, .ref o2), (6, .int x6), (7, .int x7)]), W p l e room_1 s m args below meth c H locs k0 (150 * k0) Z (F0 m 46 ls [])) : ∀ (k0 : Nat) (A : SA) (V : SV) (A2 : SA) (V2 : SV) (L : SA) (x6 : Int32) (x7 : Int32) (h : wb_L_law_142 (clI sl xs) nB nD hB hD K46 k0 A V A2 V2 L x6 x7) (hgc : k0 ≤ gLaw)  (H : Heap) (locs : List Loc) (ls : Array Slot) (hw : WS D s A0 ((wD xa ad ad2 cI cZ A V A2 V2 ++ [(o0, .inl (cI, 150, .inl (L 0))), (o1, .inl (cI, 150, .inl (L 1))), (o2, .inl (cI, 150, .inl (L 2)))]) ++ simW cI cII sa ta ba da la sc so LB LD) H locs) (hl : lv_has ls 21 [(0, .ref b), (1, .ref xa), (2, .ref sa), (3, .ref o0), (4, .ref o1), (5, .ref o2), (6, .int x6), (7, .int x7)]), W p l e room_1 s m args below meth c H locs k0 (150 * k0) Z (F0 m 142 ls []) := by
  obtain ⟨hx, hb, hml, hown, hts, hK, hA⟩ := id cx
  intro k0 A V A2 V2 L x6 x7 h hgc H locs ls hw hl
  refine lv_aload_n (pc := 142) hx hb dL_law_142 rfl (lv_at hl 1 rfl) ?_
  refine lv_iload (pc := 143) hx hb dL_law_143 (lv_at hl 7 rfl) ?_
  refine callVi (pc := 145) (rest := []) (c1 := k0) (s1 := 150 * k0) cx hw hl (metX5_tide l D cI cZ xa ad ad2 H.size A V A2 V2 x7 _ h) (fun hts => cwV 1 hts gL_law_X5_tide rfl rfl rfl (by decide +kernel) ⟨Nat.le_of_ble_eq_true rfl, Nat.le_of_ble_eq_true rfl⟩) (SUB.left.trans SUB.left) [0, 1] rfl 0 (ci := 5) rfl rfl rfl (JN.trans SUB.left SUB.left JN.left JN.left) rfl rfl (Nat.le_of_ble_eq_true rfl) ⟨cgLaw hgc, sgLaw hgc⟩ rfl rfl dL_law_145 (fun r26 u H locs h hw => ?_)
  obtain ⟨A_27, V_28, A_29, V_30⟩ := u
  have hw : WS D s A0 ((wD xa ad ad2 cI cZ A_27 V_28 A_29 V_30 ++ [(o0, .inl (cI, 150, .inl (L 0))), (o1, .inl (cI, 150, .inl (L 1))), (o2, .inl (cI, 150, .inl (L 2)))]) ++ simW cI cII sa ta ba da la sc so LB LD) _ _ := hw
  refine lv_istore (pc := 148) (lv' := [(9, .int r26), (0, .ref b), (1, .ref xa), (2, .ref sa), (3, .ref o0), (4, .ref o1), (5, .ref o2), (6, .int x6), (7, .int x7)]) hx hb dL_law_148 hl (by decide) rfl (fun ls hl => ?_)
  refine lv_iload (pc := 150) hx hb dL_law_150 (lv_at hl 7 rfl) ?_
  have hgc : k0 + 1 ≤ gLaw := h.2.2.1
  refine newT (pc := 152) (N' := x6.toNatClampNeg) cx (hts _ kL_law_w_arrayClass__int) hw 0 rfl h.1 rfl h.2.1 h.2.2.1 rgLaw dL_law_152 (fun q31 H hw => ?_)
  have h := h.2.2.2
  obtain ⟨L_32, eL_32⟩ : ∃ z : SA, z = ua L 3 (fun _ => 0) := ⟨_, rfl⟩
  have h := h L_32 eL_32
  have hw : WS D s A0 ((wD xa ad ad2 cI cZ A_27 V_28 A_29 V_30 ++ [(o0, .inl (cI, 150, .inl (L_32 0))), (o1, .inl (cI, 150, .inl (L_32 1))), (o2, .inl (cI, 150, .inl (L_32 2))), (q31, .inl (cI, x6.toNatClampNeg, .inl (L_32 3)))]) ++ simW cI cII sa ta ba da la sc so LB LD) _ _ := WS.eqw hw (by rw [eL_32]; exact congrArg (· ++ _) (List.append_assoc _ _ _))
  refine lv_astore (pc := 154) (lv' := [(10, .ref q31), (9, .int r26), (0, .ref b), (1, .ref xa), (2, .ref sa), (3, .ref o0), (4, .ref o1), (5, .ref o2), (6, .int x6), (7, .int x7)]) hx hb dL_law_154 hl (by decide) rfl (fun ls hl => ?_)
  refine lv_iconst (pc := 156) (v := (0 : Int32)) hx hb dL_law_156 (by decide) ?_
  refine lv_istore (pc := 157) (lv' := [(11, .int (0 : Int32)), (10, .ref q31), (9, .int r26), (0, .ref b), (1, .ref xa), (2, .ref sa), (3, .ref o0), (4, .ref o1), (5, .ref o2), (6, .int x6), (7, .int x7)]) hx hb dL_law_157 hl (by decide) rfl (fun ls hl => ?_)
  obtain ⟨n159, h⟩ := h
  exact wk_L_law_159 K46 cx hFX hsl hret hB9 hD9 hK46 n159 (k0 + 1) A_27 V_28 A_29 V_30 L_32 x6 x7 r26 (0 : Int32) h hgc q31 _ _ _ hw (lv_sub hl [3, 4, 5, 6, 7, 8, 9, 10, 2, 1, 0] rfl)
def wl_L_law_46 (cl : Int32 → Int32) (nB nD : Nat) (hB hD : Nat → Int32)  : Nat → Nat → SA → SV → SA → SV → SA → Int32 → Int32 → Prop
  | 0, _, _, _, _, _, _, _, _ => False
  | n + 1, k0, A, V, A2, V2, L, x6, x7 => (((90 : Int32) ≤ x7 → True) ∧ (¬ ((90 : Int32) ≤ x7) → (¬ (16 : Int32) = 0 ∧ (¬ (x7 - x7 / (16 : Int32) * (16 : Int32)) < 0 ∧ (¬ (16 : Int32) = 0 ∧ (wpL_below ((cl (x7 - x7 / (16 : Int32) * (16 : Int32))) >>> ((x7 / (16 : Int32)) &&& 31)) (2 : Int32) (fun r9 => ((¬ r9 = 0 → (wb_L_law_142 cl nB nD hB hD (wl_L_law_46 cl nB nD hB hD n) k0 A V A2 V2 L x6 x7)) ∧ (r9 = 0 → (wpX5_count A V A2 V2 (3 : Int32) (fun r11 A_12 V_13 A_14 V_15 => (((150 : Int32) ≤ r11 → (wb_L_law_142 cl nB nD hB hD (wl_L_law_46 cl nB nD hB hD n) k0 A_12 V_13 A_14 V_15 L x6 x7)) ∧ (¬ ((150 : Int32) ≤ r11) → (wpL_below (((cl (x7 - x7 / (16 : Int32) * (16 : Int32))) >>> ((x7 / (16 : Int32)) &&& 31)) >>> ((2 : Int32) &&& 31)) (nI nD) (fun r17 => (wpL_below (((cl (x7 - x7 / (16 : Int32) * (16 : Int32))) >>> ((x7 / (16 : Int32)) &&& 31)) >>> ((3 : Int32) &&& 31)) (9 : Int32) (fun r18 => (wpL_below (((cl (x7 - x7 / (16 : Int32) * (16 : Int32))) >>> ((x7 / (16 : Int32)) &&& 31)) >>> ((5 : Int32) &&& 31)) (60 : Int32) (fun r19 => (wpX5_bring A_12 V_13 A_14 V_15 r17 ((1 : Int32) + r18) ((1 : Int32) + r19) (fun r20 A_21 V_22 A_23 V_24 => ((r20 = x6 → (wb_L_law_142 cl nB nD hB hD (wl_L_law_46 cl nB nD hB hD n) k0 A_21 V_22 A_23 V_24 L (x6 + 1) x7)) ∧ (¬ (r20 = x6) → False)))))))))))))))))))))))
set_option maxHeartbeats 8000000 in
set_option maxRecDepth 100000 in
theorem wk_L_law_46  (cx : CX RL cL_law 21 wsL_law D [(cI, .int), (cZ, .boolean), (cII, .array .int)] p s m args c A0) (hFX : FX b sl xs A0 s) (hsl : sl ≤ 260) (hret : ∀ (ls : Array Slot) (ws : va_W) (H : Heap) (locs : List Loc) (k0 : Nat), k0 ≤ gLaw → WS D s A0 ws H locs → W p l e room_1 s m args below meth c H locs k0 (150 * k0) Z (F0 m 1047 ls [.int 1])) (hB9 : RW nB hB LB) (hD9 : RW nD hD LD)  : ∀ (n : Nat) (k0 : Nat) (A : SA) (V : SV) (A2 : SA) (V2 : SV) (L : SA) (x6 : Int32) (x7 : Int32) (h : wl_L_law_46 (clI sl xs) nB nD hB hD n k0 A V A2 V2 L x6 x7) (hgc : k0 ≤ gLaw)  (H : Heap) (locs : List Loc) (ls : Array Slot) (hw : WS D s A0 ((wD xa ad ad2 cI cZ A V A2 V2 ++ [(o0, .inl (cI, 150, .inl (L 0))), (o1, .inl (cI, 150, .inl (L 1))), (o2, .inl (cI, 150, .inl (L 2)))]) ++ simW cI cII sa ta ba da la sc so LB LD) H locs) (hl : lv_has ls 21 [(0, .ref b), (1, .ref xa), (2, .ref sa), (3, .ref o0), (4, .ref o1), (5, .ref o2), (6, .int x6), (7, .int x7)]), W p l e room_1 s m args below meth c H locs k0 (150 * k0) Z (F0 m 46 ls []) := by
  obtain ⟨hx, hb, hml, hown, hts, hK, hA⟩ := id cx
  intro n
  induction n with
  | zero => intro k0 A V A2 V2 L x6 x7 h; exact False.elim h
  | succ n ih =>
    intro k0 A V A2 V2 L x6 x7 h hgc H locs ls hw hl
    refine lv_iload (pc := 46) hx hb dL_law_46 (lv_at hl 7 rfl) ?_
    refine lv_bipush (pc := 48) (v := (90 : Int32)) hx hb dL_law_48 (by decide) ?_
    refine lv_icmp_ge (pc := 50) (tgt := 1046) hx hb dL_law_50 (by decide) (fun c7 => ?_) (fun c7 => ?_)
    · have h := h.1 c7
      refine lv_iconst (pc := 1046) (v := (1 : Int32)) hx hb dL_law_1046 (by decide) ?_
      exact hret _ _ _ _ _ hgc hw
    · have h := h.2 c7
      refine lv_aload_n (pc := 53) hx hb dL_law_53 rfl (lv_at hl 0 rfl) ?_
      refine lv_iload (pc := 54) hx hb dL_law_54 (lv_at hl 7 rfl) ?_
      refine lv_bipush (pc := 56) (v := (16 : Int32)) hx hb dL_law_56 (by decide) ?_
      refine lv_irem (pc := 58) hx hb dL_law_58 h.1 ?_
      have h := h.2
      refine callGi (pc := 59) (rest := []) (c1 := k0) (s1 := 150 * k0) cx hw hl FX.ok hFX (metL_cell l D [] H.size b sl xs (x7 - x7 / (16 : Int32) * (16 : Int32)) hsl h.1) (fun hts => va_cwS 2 hts gL_law_L_cell rfl rfl rfl (by decide +kernel) ⟨Nat.le_of_ble_eq_true rfl, Nat.le_of_ble_eq_true rfl⟩) SUB.nil [] rfl (JN.nil (S := Unit)) rfl rfl (Nat.le_of_ble_eq_true rfl) ⟨cgLaw hgc, sgLaw hgc⟩ rfl rfl dL_law_59 (fun r8 u H locs er8 hw => ?_)
      have h := h.2
      subst er8
      refine lv_iload (pc := 62) hx hb dL_law_62 (lv_at hl 7 rfl) ?_
      refine lv_bipush (pc := 64) (v := (16 : Int32)) hx hb dL_law_64 (by decide) ?_
      refine lv_idiv (pc := 66) hx hb dL_law_66 h.1 ?_
      have h := h.2
      refine lv_ishr (pc := 67) hx hb dL_law_67 ?_
      refine lv_istore (pc := 68) (lv' := [(8, .int ((clI sl xs (x7 - x7 / (16 : Int32) * (16 : Int32))) >>> ((x7 / (16 : Int32)) &&& 31))), (0, .ref b), (1, .ref xa), (2, .ref sa), (3, .ref o0), (4, .ref o1), (5, .ref o2), (6, .int x6), (7, .int x7)]) hx hb dL_law_68 hl (by decide) rfl (fun ls hl => ?_)
      refine lv_iload (pc := 70) hx hb dL_law_70 (lv_at hl 0 rfl) ?_
      refine lv_iconst (pc := 72) (v := (2 : Int32)) hx hb dL_law_72 (by decide) ?_
      refine callSi (pc := 73) (rest := []) (c1 := k0) (s1 := 150 * k0) cx hw hl (metL_below l D [] H.size ((clI sl xs (x7 - x7 / (16 : Int32) * (16 : Int32))) >>> ((x7 / (16 : Int32)) &&& 31)) (2 : Int32) _ h) (fun hts => va_cwS 2 hts gL_law_L_below rfl rfl rfl (by decide +kernel) ⟨Nat.le_of_ble_eq_true rfl, Nat.le_of_ble_eq_true rfl⟩) SUB.nil [] rfl (JN.nil (S := Unit)) rfl rfl (Nat.le_of_ble_eq_true rfl) ⟨cgLaw hgc, sgLaw hgc⟩ rfl rfl dL_law_73 (fun r9 u H locs h hw => ?_)
      refine lv_if_ne (pc := 76) (tgt := 142) hx hb dL_law_76 (by decide) (fun c10 => ?_) (fun c10 => ?_)
      · have h := h.1 c10
        exact wk_L_law_142 (wl_L_law_46 (clI sl xs) nB nD hB hD n) cx hFX hsl hret hB9 hD9 ih k0 A V A2 V2 L x6 x7 h hgc _ _ _ hw (lv_sub hl [1, 2, 3, 4, 5, 6, 7, 8] rfl)
      · have h := h.2 c10
        refine lv_aload_n (pc := 79) hx hb dL_law_79 rfl (lv_at hl 2 rfl) ?_
        refine lv_iconst (pc := 80) (v := (3 : Int32)) hx hb dL_law_80 (by decide) ?_
        refine callVi (pc := 81) (rest := []) (c1 := k0) (s1 := 150 * k0) cx hw hl (metX5_count l D cI cZ xa ad ad2 H.size A V A2 V2 (3 : Int32) _ h) (fun hts => cwV 1 hts gL_law_X5_count rfl rfl rfl (by decide +kernel) ⟨Nat.le_of_ble_eq_true rfl, Nat.le_of_ble_eq_true rfl⟩) (SUB.left.trans SUB.left) [0, 1] rfl 0 (ci := 5) rfl rfl rfl (JN.trans SUB.left SUB.left JN.left JN.left) rfl rfl (Nat.le_of_ble_eq_true rfl) ⟨cgLaw hgc, sgLaw hgc⟩ rfl rfl dL_law_81 (fun r11 u H locs h hw => ?_)
        obtain ⟨A_12, V_13, A_14, V_15⟩ := u
        have hw : WS D s A0 ((wD xa ad ad2 cI cZ A_12 V_13 A_14 V_15 ++ [(o0, .inl (cI, 150, .inl (L 0))), (o1, .inl (cI, 150, .inl (L 1))), (o2, .inl (cI, 150, .inl (L 2)))]) ++ simW cI cII sa ta ba da la sc so LB LD) _ _ := hw
        refine lv_sipush (pc := 84) (v := (150 : Int32)) hx hb dL_law_84 (by decide) ?_
        refine lv_icmp_ge (pc := 87) (tgt := 142) hx hb dL_law_87 (by decide) (fun c16 => ?_) (fun c16 => ?_)
        · have h := h.1 c16
          exact wk_L_law_142 (wl_L_law_46 (clI sl xs) nB nD hB hD n) cx hFX hsl hret hB9 hD9 ih k0 A_12 V_13 A_14 V_15 L x6 x7 h hgc _ _ _ hw (lv_sub hl [1, 2, 3, 4, 5, 6, 7, 8] rfl)
        · have h := h.2 c16
          refine lv_aload_n (pc := 90) hx hb dL_law_90 rfl (lv_at hl 2 rfl) ?_
          refine lv_iload (pc := 91) hx hb dL_law_91 (lv_at hl 0 rfl) ?_
          refine lv_iconst (pc := 93) (v := (2 : Int32)) hx hb dL_law_93 (by decide) ?_
          refine lv_ishr (pc := 94) hx hb dL_law_94 ?_
          refine lv_aload_n (pc := 95) hx hb dL_law_95 rfl (lv_at hl 3 rfl) ?_
          refine geF (pc := 96) (C := RX7) (T := TX7) (N := 7) (ci := 6) cx inL_law_X7 rfl 3 (by decide) kL_law_w_fieldLink_RL_50__DrownedPostLaw_Sim___drowned_____I_ hw _ (app_r (k := 0) rfl) rfl dL_law_96 ?_
          refine alenG (pc := 99) cx hw _ 2 (app_r (k := 2) rfl) rfl (v := nI nD) (congrArg nI hD9.1) dL_law_99 ?_
          refine callSi (pc := 100) (rest := [.ref xa]) (c1 := k0) (s1 := 150 * k0) cx hw hl (metL_below l D [] H.size (((clI sl xs (x7 - x7 / (16 : Int32) * (16 : Int32))) >>> ((x7 / (16 : Int32)) &&& 31)) >>> ((2 : Int32) &&& 31)) (nI nD) _ h) (fun hts => va_cwS 2 hts gL_law_L_below rfl rfl rfl (by decide +kernel) ⟨Nat.le_of_ble_eq_true rfl, Nat.le_of_ble_eq_true rfl⟩) SUB.nil [] rfl (JN.nil (S := Unit)) rfl rfl (Nat.le_of_ble_eq_true rfl) ⟨cgLaw hgc, sgLaw hgc⟩ rfl rfl dL_law_100 (fun r17 u H locs h hw => ?_)
          refine lv_iconst (pc := 103) (v := (1 : Int32)) hx hb dL_law_103 (by decide) ?_
          refine lv_iload (pc := 104) hx hb dL_law_104 (lv_at hl 0 rfl) ?_
          refine lv_iconst (pc := 106) (v := (3 : Int32)) hx hb dL_law_106 (by decide) ?_
          refine lv_ishr (pc := 107) hx hb dL_law_107 ?_
          refine lv_bipush (pc := 108) (v := (9 : Int32)) hx hb dL_law_108 (by decide) ?_
          refine callSi (pc := 110) (rest := [.int (1 : Int32), .int r17, .ref xa]) (c1 := k0) (s1 := 150 * k0) cx hw hl (metL_below l D [] H.size (((clI sl xs (x7 - x7 / (16 : Int32) * (16 : Int32))) >>> ((x7 / (16 : Int32)) &&& 31)) >>> ((3 : Int32) &&& 31)) (9 : Int32) _ h) (fun hts => va_cwS 2 hts gL_law_L_below rfl rfl rfl (by decide +kernel) ⟨Nat.le_of_ble_eq_true rfl, Nat.le_of_ble_eq_true rfl⟩) SUB.nil [] rfl (JN.nil (S := Unit)) rfl rfl (Nat.le_of_ble_eq_true rfl) ⟨cgLaw hgc, sgLaw hgc⟩ rfl rfl dL_law_110 (fun r18 u H locs h hw => ?_)
          refine lv_iadd (pc := 113) hx hb dL_law_113 ?_
          refine lv_iconst (pc := 114) (v := (1 : Int32)) hx hb dL_law_114 (by decide) ?_
          refine lv_iload (pc := 115) hx hb dL_law_115 (lv_at hl 0 rfl) ?_
          refine lv_iconst (pc := 117) (v := (5 : Int32)) hx hb dL_law_117 (by decide) ?_
          refine lv_ishr (pc := 118) hx hb dL_law_118 ?_
          refine lv_bipush (pc := 119) (v := (60 : Int32)) hx hb dL_law_119 (by decide) ?_
          refine callSi (pc := 121) (rest := [.int (1 : Int32), .int ((1 : Int32) + r18), .int r17, .ref xa]) (c1 := k0) (s1 := 150 * k0) cx hw hl (metL_below l D [] H.size (((clI sl xs (x7 - x7 / (16 : Int32) * (16 : Int32))) >>> ((x7 / (16 : Int32)) &&& 31)) >>> ((5 : Int32) &&& 31)) (60 : Int32) _ h) (fun hts => va_cwS 2 hts gL_law_L_below rfl rfl rfl (by decide +kernel) ⟨Nat.le_of_ble_eq_true rfl, Nat.le_of_ble_eq_true rfl⟩) SUB.nil [] rfl (JN.nil (S := Unit)) rfl rfl (Nat.le_of_ble_eq_true rfl) ⟨cgLaw hgc, sgLaw hgc⟩ rfl rfl dL_law_121 (fun r19 u H locs h hw => ?_)
          refine lv_iadd (pc := 124) hx hb dL_law_124 ?_
          refine callVi (pc := 125) (rest := []) (c1 := k0) (s1 := 150 * k0) cx hw hl (metX5_bring l D cI cZ xa ad ad2 H.size A_12 V_13 A_14 V_15 r17 ((1 : Int32) + r18) ((1 : Int32) + r19) _ h) (fun hts => cwV 3 hts gL_law_X5_bring rfl rfl rfl (by decide +kernel) ⟨Nat.le_of_ble_eq_true rfl, Nat.le_of_ble_eq_true rfl⟩) (SUB.left.trans SUB.left) [0, 1] rfl 0 (ci := 5) rfl rfl rfl (JN.trans SUB.left SUB.left JN.left JN.left) rfl rfl (Nat.le_of_ble_eq_true rfl) ⟨cgLaw hgc, sgLaw hgc⟩ rfl rfl dL_law_125 (fun r20 u H locs h hw => ?_)
          obtain ⟨A_21, V_22, A_23, V_24⟩ := u
          have hw : WS D s A0 ((wD xa ad ad2 cI cZ A_21 V_22 A_23 V_24 ++ [(o0, .inl (cI, 150, .inl (L 0))), (o1, .inl (cI, 150, .inl (L 1))), (o2, .inl (cI, 150, .inl (L 2)))]) ++ simW cI cII sa ta ba da la sc so LB LD) _ _ := hw
          refine lv_istore (pc := 128) (lv' := [(9, .int r20), (8, .int ((clI sl xs (x7 - x7 / (16 : Int32) * (16 : Int32))) >>> ((x7 / (16 : Int32)) &&& 31))), (0, .ref b), (1, .ref xa), (2, .ref sa), (3, .ref o0), (4, .ref o1), (5, .ref o2), (6, .int x6), (7, .int x7)]) hx hb dL_law_128 hl (by decide) rfl (fun ls hl => ?_)
          refine lv_iload (pc := 130) hx hb dL_law_130 (lv_at hl 0 rfl) ?_
          refine lv_iload (pc := 132) hx hb dL_law_132 (lv_at hl 8 rfl) ?_
          refine lv_icmp_eq (pc := 134) (tgt := 139) hx hb dL_law_134 (by decide) (fun c25 => ?_) (fun c25 => ?_)
          · have h := h.1 c25
            refine lv_iinc (pc := 139) (v := x6 + 1) (lv' := [(6, .int (x6 + 1)), (9, .int r20), (8, .int ((clI sl xs (x7 - x7 / (16 : Int32) * (16 : Int32))) >>> ((x7 / (16 : Int32)) &&& 31))), (0, .ref b), (1, .ref xa), (2, .ref sa), (3, .ref o0), (4, .ref o1), (5, .ref o2), (7, .int x7)]) hx hb dL_law_139 hl (k := 8) rfl rfl (by decide) rfl (fun ls hl => ?_)
            exact wk_L_law_142 (wl_L_law_46 (clI sl xs) nB nD hB hD n) cx hFX hsl hret hB9 hD9 ih k0 A_21 V_22 A_23 V_24 L (x6 + 1) x7 h hgc _ _ _ hw (lv_sub hl [3, 4, 5, 6, 7, 8, 0, 9] rfl)
          · have h := h.2 c25
            refine lv_iconst (pc := 137) (v := (0 : Int32)) hx hb dL_law_137 (by decide) ?_
            exact False.elim h
def wb_L_law_20 (cl : Int32 → Int32) (nB nD : Nat) (hB hD : Nat → Int32)  (k0 : Nat) (A : SA) (V : SV) (A2 : SA) (V2 : SV) (L : SA) : Prop := (k0 + 1 ≤ 40000 ∧ (∀ L_2 : SA, L_2 = ua L 0 (fun _ => 0) → ((k0 + 1) + 1 ≤ 40000 ∧ (∀ L_4 : SA, L_4 = ua L_2 1 (fun _ => 0) → (((k0 + 1) + 1) + 1 ≤ 40000 ∧ (∀ L_6 : SA, L_6 = ua L_4 2 (fun _ => 0) → (∃ n46 : Nat, wl_L_law_46 cl nB nD hB hD n46 (((k0 + 1) + 1) + 1) A V A2 V2 L_6 (0 : Int32) (0 : Int32))))))))
set_option maxHeartbeats 8000000 in
set_option maxRecDepth 100000 in
theorem wk_L_law_20  (cx : CX RL cL_law 21 wsL_law D [(cI, .int), (cZ, .boolean), (cII, .array .int)] p s m args c A0) (hFX : FX b sl xs A0 s) (hsl : sl ≤ 260) (hret : ∀ (ls : Array Slot) (ws : va_W) (H : Heap) (locs : List Loc) (k0 : Nat), k0 ≤ gLaw → WS D s A0 ws H locs → W p l e room_1 s m args below meth c H locs k0 (150 * k0) Z (F0 m 1047 ls [.int 1])) (hB9 : RW nB hB LB) (hD9 : RW nD hD LD)  : ∀ (k0 : Nat) (A : SA) (V : SV) (A2 : SA) (V2 : SV) (L : SA) (h : wb_L_law_20 (clI sl xs) nB nD hB hD k0 A V A2 V2 L) (hgc : k0 ≤ gLaw)  (H : Heap) (locs : List Loc) (ls : Array Slot) (hw : WS D s A0 ((wD xa ad ad2 cI cZ A V A2 V2 ++ []) ++ simW cI cII sa ta ba da la sc so LB LD) H locs) (hl : lv_has ls 21 [(0, .ref b), (1, .ref xa), (2, .ref sa)]), W p l e room_1 s m args below meth c H locs k0 (150 * k0) Z (F0 m 20 ls []) := by
  obtain ⟨hx, hb, hml, hown, hts, hK, hA⟩ := id cx
  intro k0 A V A2 V2 L h hgc H locs ls hw hl
  refine lv_sipush (pc := 20) (v := (150 : Int32)) hx hb dL_law_20 (by decide) ?_
  have hgc : k0 + 1 ≤ gLaw := h.1
  refine newT (pc := 23) (N' := 150) cx (hts _ kL_law_w_arrayClass__int) hw 0 rfl (by decide) (by decide) (Nat.le_of_ble_eq_true rfl) h.1 rgLaw dL_law_23 (fun q1 H hw => ?_)
  have h := h.2
  obtain ⟨L_2, eL_2⟩ : ∃ z : SA, z = ua L 0 (fun _ => 0) := ⟨_, rfl⟩
  have h := h L_2 eL_2
  have hw : WS D s A0 ((wD xa ad ad2 cI cZ A V A2 V2 ++ [(q1, .inl (cI, 150, .inl (L_2 0)))]) ++ simW cI cII sa ta ba da la sc so LB LD) _ _ := WS.eqw hw (by rw [eL_2]; exact congrArg (· ++ _) (List.append_assoc _ _ _))
  refine lv_astore_n (pc := 25) (lv' := [(3, .ref q1), (0, .ref b), (1, .ref xa), (2, .ref sa)]) hx hb dL_law_25 rfl hl (by decide) rfl (fun ls hl => ?_)
  refine lv_sipush (pc := 26) (v := (150 : Int32)) hx hb dL_law_26 (by decide) ?_
  have hgc : (k0 + 1) + 1 ≤ gLaw := h.1
  refine newT (pc := 29) (N' := 150) cx (hts _ kL_law_w_arrayClass__int) hw 0 rfl (by decide) (by decide) (Nat.le_of_ble_eq_true rfl) h.1 rgLaw dL_law_29 (fun q3 H hw => ?_)
  have h := h.2
  obtain ⟨L_4, eL_4⟩ : ∃ z : SA, z = ua L_2 1 (fun _ => 0) := ⟨_, rfl⟩
  have h := h L_4 eL_4
  have hw : WS D s A0 ((wD xa ad ad2 cI cZ A V A2 V2 ++ [(q1, .inl (cI, 150, .inl (L_4 0))), (q3, .inl (cI, 150, .inl (L_4 1)))]) ++ simW cI cII sa ta ba da la sc so LB LD) _ _ := WS.eqw hw (by rw [eL_4]; exact congrArg (· ++ _) (List.append_assoc _ _ _))
  refine lv_astore (pc := 31) (lv' := [(4, .ref q3), (3, .ref q1), (0, .ref b), (1, .ref xa), (2, .ref sa)]) hx hb dL_law_31 hl (by decide) rfl (fun ls hl => ?_)
  refine lv_sipush (pc := 33) (v := (150 : Int32)) hx hb dL_law_33 (by decide) ?_
  have hgc : ((k0 + 1) + 1) + 1 ≤ gLaw := h.1
  refine newT (pc := 36) (N' := 150) cx (hts _ kL_law_w_arrayClass__int) hw 0 rfl (by decide) (by decide) (Nat.le_of_ble_eq_true rfl) h.1 rgLaw dL_law_36 (fun q5 H hw => ?_)
  have h := h.2
  obtain ⟨L_6, eL_6⟩ : ∃ z : SA, z = ua L_4 2 (fun _ => 0) := ⟨_, rfl⟩
  have h := h L_6 eL_6
  have hw : WS D s A0 ((wD xa ad ad2 cI cZ A V A2 V2 ++ [(q1, .inl (cI, 150, .inl (L_6 0))), (q3, .inl (cI, 150, .inl (L_6 1))), (q5, .inl (cI, 150, .inl (L_6 2)))]) ++ simW cI cII sa ta ba da la sc so LB LD) _ _ := WS.eqw hw (by rw [eL_6]; exact congrArg (· ++ _) (List.append_assoc _ _ _))
  refine lv_astore (pc := 38) (lv' := [(5, .ref q5), (4, .ref q3), (3, .ref q1), (0, .ref b), (1, .ref xa), (2, .ref sa)]) hx hb dL_law_38 hl (by decide) rfl (fun ls hl => ?_)
  refine lv_iconst (pc := 40) (v := (0 : Int32)) hx hb dL_law_40 (by decide) ?_
  refine lv_istore (pc := 41) (lv' := [(6, .int (0 : Int32)), (5, .ref q5), (4, .ref q3), (3, .ref q1), (0, .ref b), (1, .ref xa), (2, .ref sa)]) hx hb dL_law_41 hl (by decide) rfl (fun ls hl => ?_)
  refine lv_iconst (pc := 43) (v := (0 : Int32)) hx hb dL_law_43 (by decide) ?_
  refine lv_istore (pc := 44) (lv' := [(7, .int (0 : Int32)), (6, .int (0 : Int32)), (5, .ref q5), (4, .ref q3), (3, .ref q1), (0, .ref b), (1, .ref xa), (2, .ref sa)]) hx hb dL_law_44 hl (by decide) rfl (fun ls hl => ?_)
  obtain ⟨n46, h⟩ := h
  exact wk_L_law_46  cx hFX hsl hret hB9 hD9  n46 (((k0 + 1) + 1) + 1) A V A2 V2 L_6 (0 : Int32) (0 : Int32) h hgc _ _ _ hw (lv_sub hl [5, 6, 7, 4, 3, 2, 1, 0] rfl)
end LAW
