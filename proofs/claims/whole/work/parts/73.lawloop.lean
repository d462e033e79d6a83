theorem gtL {L i : Nat} (hL : L ≤ 2048) (hi : i ≤ 2048) : (nI L - 4 < nI i) ↔ L < i + 4 := by
  have h1 : (nI L - nI 4).toInt = (L : Int) - (4 : Nat) := pk_sub_toInt (by omega) (by omega)
  have h2 : (nI i).toInt = (i : Int) := nI_toInt (by omega)
  rw [Int32.lt_iff_toInt_lt]
  show (nI L - nI 4).toInt < (nI i).toInt ↔ _
  rw [h1, h2]
  omega
section LAWL
variable {p : Program} {l : Launch} {e : Env} {s : State} {m : MethodId} {below : List Frame} {meth : Method} {c : Code} {D : va_G} {xa oa : Nat} {ad ad2 am : Nat → Nat} {cI cZ cJ : ClassId} {b L : Nat} {xs : Nat → Int32} {Z : State → Prop}
set_option maxHeartbeats 4000000 in
set_option maxRecDepth 100000 in
theorem law_loop (hlt : l.stackTraces = false) (INV : Nat → INVT) (hstep : ∀ (t : Nat), t < 512 → ∀ (A : SA) (V : SV) (A2 : SA) (V2 : SV) (o : Nat → Int64) (AM : SA) (VM : SV) (a0 a1 a2 a3 : Int32), INV t A V A2 V2 AM VM → LSTEP (INV (t + 1)) A V A2 V2 o AM VM a0 a1 a2 a3) (cxs : ∀ d0 : Drawn, CX RL cL_law 9 wsL_law D (tysL cI cZ cJ) p (s.setDrawn d0) m #[Value.ref b] c (fun q : Nat => s.heap.size ≤ q)) (hXP : XP (fun q : Nat => s.heap.size ≤ q) s) (hX : va_X b L xs s s.heap) (hbl : b < s.heap.size) (hL : L ≤ 2048) (C0 S0 : Nat) (hC0 : C0 ≤ 1000) (hS0 : S0 ≤ 20000) (hend : ∀ (d0 : Drawn) (hd0 : s.drawn.sameBut d0 lw_cs) (A : SA) (V : SV) (A2 : SA) (V2 : SV) (o : Nat → Int64) (AM : SA) (VM : SV) (H : Heap) (locs : List Loc) (ls : Array Slot) (k0 s0 : Nat), k0 ≤ 601024 → s0 ≤ 7293034 → WS D s (fun q : Nat => s.heap.size ≤ q) (wF xa oa ad ad2 am cI cZ cJ A V A2 V2 o AM VM) H locs → W p l e room_1 (s.setDrawn d0) m #[Value.ref b] below meth c H locs k0 s0 Z (F0 m 1285 ls [])) : ∀ (n t : Nat), t + n = 513 → t ≤ 512 → ∀ (d0 : Drawn) (hd0 : s.drawn.sameBut d0 lw_cs) (A : SA) (V : SV) (A2 : SA) (V2 : SV) (o : Nat → Int64) (AM : SA) (VM : SV) (hI : INV t A V A2 V2 AM VM) (H : Heap) (locs : List Loc) (ls : Array Slot) (hw : WS D s (fun q : Nat => s.heap.size ≤ q) (wF xa oa ad ad2 am cI cZ cJ A V A2 V2 o AM VM) H locs) (hl : lv_has ls 9 [(0, .ref b), (1, .ref xa), (2, .ref (am 0)), (3, .ref oa), (4, .int (nI (4 * t)))]), W p l e room_1 (s.setDrawn d0) m #[Value.ref b] below meth c H locs (C0 + 160 * t) (S0 + 1600 * t) Z (F0 m 23 ls []) := by
  have hbA : ¬ s.heap.size ≤ b := Nat.not_le.mpr hbl
  intro n
  induction n with
  | zero => intro t h1 h2; omega
  | succ n ih =>
    intro t ht ht5 d0 hd0 A V A2 V2 o AM VM hI H locs ls hw hl
    obtain ⟨hx, hb, hml, hown, hts, hK, hA⟩ := id (cxs d0)
    refine lv_iload (pc := 23) hx hb dL_law_23 (lv_at hl 4 rfl) ?_
    refine lv_aload_n (pc := 25) hx hb dL_law_25 rfl (lv_at hl 0 rfl) ?_
    refine va_slen (pc := 26) (s := s.setDrawn d0) hx hb hX hbl hbA hw.2.2 dL_law_26 ?_
    refine lv_iconst (pc := 27) (v := (4 : Int32)) hx hb dL_law_27 (by decide) ?_
    refine lv_isub (pc := 28) hx hb dL_law_28 ?_
    refine lv_icmp_gt (pc := 29) (tgt := 1285) hx hb dL_law_29 (by decide) (fun hg => ?_) (fun hg => ?_)
    · exact hend d0 hd0 A V A2 V2 o AM VM H locs ls _ _ (by omega) (by omega) hw
    have hq4 : 4 * t + 4 ≤ L := Nat.not_lt.mp (fun q => hg ((gtL hL (by omega)).mpr q))
    have hnext : ∀ (d0 : Drawn) (hd0 : s.drawn.sameBut d0 lw_cs) (A : SA) (V : SV) (A2 : SA) (V2 : SV) (o : Nat → Int64) (AM : SA) (VM : SV) (H : Heap) (locs : List Loc) (ls : Array Slot) (hI : INV (t + 1) A V A2 V2 AM VM) (hw : WS D s (fun q : Nat => s.heap.size ≤ q) (wF xa oa ad ad2 am cI cZ cJ A V A2 V2 o AM VM) H locs) (hl : lv_has ls 9 [(0, .ref b), (1, .ref xa), (2, .ref (am 0)), (3, .ref oa), (4, .int (nI (4 * t)))]), W p l e room_1 (s.setDrawn d0) m #[Value.ref b] below meth c H locs (C0 + 160 * (t + 1)) (S0 + 1600 * (t + 1)) Z (F0 m 1279 ls []) := by
      intro d0 hd0 A V A2 V2 o AM VM H locs ls hI hw hl
      obtain ⟨hx, hb, hml, hown, hts, hK, hA⟩ := id (cxs d0)
      refine lv_iinc (pc := 1279) (v := nI (4 * (t + 1))) (lv' := [(4, .int (nI (4 * (t + 1)))), (0, .ref b), (1, .ref xa), (2, .ref (am 0)), (3, .ref oa)]) hx hb dL_law_1279 hl (k := 4) rfl (nI_add (4 * t) 4) (by decide) rfl (fun ls hl => ?_)
      refine lv_goto (pc := 1282) (tgt := 23) hx hb dL_law_1282 (by decide) ?_
      exact ih (t + 1) (by omega) (by omega) d0 hd0 A V A2 V2 o AM VM hI _ _ _ hw (lv_sub hl [1, 2, 3, 4, 0] rfl)
    obtain ⟨hdef, h0, h1, h2, h3, h4, h5, h6, h7, h8, h9, h10, h11, h12, h13, h14, h15, h16, h17, h18⟩ := hstep t (by omega) A V A2 V2 o AM VM (xs (4 * t)) (xs (4 * t + 1)) (xs (4 * t + 2)) (xs (4 * t + 3)) hI
    refine lv_aload_n (pc := 32) hx hb dL_law_32 rfl (lv_at hl 0 rfl) ?_
    refine lv_iload (pc := 33) hx hb dL_law_33 (lv_at hl 4 rfl) ?_
    refine sldL (pc := 35) (s := s.setDrawn d0) hx hb hX hbl hw.2.2 hL (j := 4 * t) (by omega) dL_law_35 ?_
    refine lv_bipush (pc := 36) (v := (31 : Int32)) hx hb dL_law_36 (by decide) ?_
    refine lv_iand (pc := 38) hx hb dL_law_38 ?_
    obtain ⟨w, hw0⟩ : ∃ w : Int32, w = xs (4 * t) &&& 31 := ⟨_, rfl⟩
    refine lv_eqi hw0.symm ?_
    by_cases e0 : w = (0 : Int32)
    · refine lv_tableIn (pc := 39) (off := 89) (tgt := 128) hx hb dL_law_39 (by rw [e0]; decide) (by rw [e0]; decide) (by rw [e0]; rfl) (by decide) ?_
      exact law_c_beginTides hlt (INV (t + 1)) cxs hXP hX hbl hL (4 * t) hq4 _ _ (C0 + 160 * (t + 1)) (S0 + 1600 * (t + 1)) (by omega) (by omega) (by omega) (by omega) hnext d0 hd0 A V A2 V2 o AM VM (h0 (hw0.symm.trans e0)) H locs ls hw hl
    by_cases e1 : w = (1 : Int32)
    · refine lv_tableIn (pc := 39) (off := 145) (tgt := 184) hx hb dL_law_39 (by rw [e1]; decide) (by rw [e1]; decide) (by rw [e1]; rfl) (by decide) ?_
      exact law_c_addTide hlt (INV (t + 1)) cxs hXP hX hbl hL (4 * t) hq4 _ _ (C0 + 160 * (t + 1)) (S0 + 1600 * (t + 1)) (by omega) (by omega) (by omega) (by omega) hnext d0 hd0 A V A2 V2 o AM VM (h1 (hw0.symm.trans e1)) H locs ls hw hl
    by_cases e2 : w = (2 : Int32)
    · refine lv_tableIn (pc := 39) (off := 201) (tgt := 240) hx hb dL_law_39 (by rw [e2]; decide) (by rw [e2]; decide) (by rw [e2]; rfl) (by decide) ?_
      exact law_c_tide hlt (INV (t + 1)) cxs hXP hX hbl hL (4 * t) hq4 _ _ (C0 + 160 * (t + 1)) (S0 + 1600 * (t + 1)) (by omega) (by omega) (by omega) (by omega) hnext d0 hd0 A V A2 V2 o AM VM (h2 (hw0.symm.trans e2)) H locs ls hw hl
    by_cases e3 : w = (3 : Int32)
    · refine lv_tableIn (pc := 39) (off := 257) (tgt := 296) hx hb dL_law_39 (by rw [e3]; decide) (by rw [e3]; decide) (by rw [e3]; rfl) (by decide) ?_
      exact law_c_addBin hlt (INV (t + 1)) cxs hXP hX hbl hL (4 * t) hq4 _ _ (C0 + 160 * (t + 1)) (S0 + 1600 * (t + 1)) (by omega) (by omega) (by omega) (by omega) hnext d0 hd0 A V A2 V2 o AM VM (h3 (hw0.symm.trans e3)) H locs ls hw hl
    by_cases e4 : w = (4 : Int32)
    · refine lv_tableIn (pc := 39) (off := 325) (tgt := 364) hx hb dL_law_39 (by rw [e4]; decide) (by rw [e4]; decide) (by rw [e4]; rfl) (by decide) ?_
      exact law_c_setCrew hlt (INV (t + 1)) cxs hXP hX hbl hL (4 * t) hq4 _ _ (C0 + 160 * (t + 1)) (S0 + 1600 * (t + 1)) (by omega) (by omega) (by omega) (by omega) hnext d0 hd0 A V A2 V2 o AM VM (h4 (hw0.symm.trans e4)) H locs ls hw hl
    by_cases e5 : w = (5 : Int32)
    · refine lv_tableIn (pc := 39) (off := 393) (tgt := 432) hx hb dL_law_39 (by rw [e5]; decide) (by rw [e5]; decide) (by rw [e5]; rfl) (by decide) ?_
      exact law_c_addDrowned hlt (INV (t + 1)) cxs hXP hX hbl hL (4 * t) hq4 _ _ (C0 + 160 * (t + 1)) (S0 + 1600 * (t + 1)) (by omega) (by omega) (by omega) (by omega) hnext d0 hd0 A V A2 V2 o AM VM (h5 (hw0.symm.trans e5)) H locs ls hw hl
    by_cases e6 : w = (6 : Int32)
    · refine lv_tableIn (pc := 39) (off := 473) (tgt := 512) hx hb dL_law_39 (by rw [e6]; decide) (by rw [e6]; decide) (by rw [e6]; rfl) (by decide) ?_
      exact law_c_bring hlt (INV (t + 1)) cxs hXP hX hbl hL (4 * t) hq4 _ _ (C0 + 160 * (t + 1)) (S0 + 1600 * (t + 1)) (by omega) (by omega) (by omega) (by omega) hnext d0 hd0 A V A2 V2 o AM VM (h6 (hw0.symm.trans e6)) H locs ls hw hl
    by_cases e7 : w = (7 : Int32)
    · refine lv_tableIn (pc := 39) (off := 553) (tgt := 592) hx hb dL_law_39 (by rw [e7]; decide) (by rw [e7]; decide) (by rw [e7]; rfl) (by decide) ?_
      exact law_c_takeOut hlt (INV (t + 1)) cxs hXP hX hbl hL (4 * t) hq4 _ _ (C0 + 160 * (t + 1)) (S0 + 1600 * (t + 1)) (by omega) (by omega) (by omega) (by omega) hnext d0 hd0 A V A2 V2 o AM VM (h7 (hw0.symm.trans e7)) H locs ls hw hl
    by_cases e8 : w = (8 : Int32)
    · refine lv_tableIn (pc := 39) (off := 609) (tgt := 648) hx hb dL_law_39 (by rw [e8]; decide) (by rw [e8]; decide) (by rw [e8]; rfl) (by decide) ?_
      exact law_c_letter hlt (INV (t + 1)) cxs hXP hX hbl hL (4 * t) hq4 _ _ (C0 + 160 * (t + 1)) (S0 + 1600 * (t + 1)) (by omega) (by omega) (by omega) (by omega) hnext d0 hd0 A V A2 V2 o AM VM (h8 (hw0.symm.trans e8)) H locs ls hw hl
    by_cases e9 : w = (9 : Int32)
    · refine lv_tableIn (pc := 39) (off := 677) (tgt := 716) hx hb dL_law_39 (by rw [e9]; decide) (by rw [e9]; decide) (by rw [e9]; rfl) (by decide) ?_
      exact law_c_drowned hlt (INV (t + 1)) cxs hXP hX hbl hL (4 * t) hq4 _ _ (C0 + 160 * (t + 1)) (S0 + 1600 * (t + 1)) (by omega) (by omega) (by omega) (by omega) hnext d0 hd0 A V A2 V2 o AM VM (h9 (hw0.symm.trans e9)) H locs ls hw hl
    by_cases e10 : w = (10 : Int32)
    · refine lv_tableIn (pc := 39) (off := 745) (tgt := 784) hx hb dL_law_39 (by rw [e10]; decide) (by rw [e10]; decide) (by rw [e10]; rfl) (by decide) ?_
      exact law_c_bin hlt (INV (t + 1)) cxs hXP hX hbl hL (4 * t) hq4 _ _ (C0 + 160 * (t + 1)) (S0 + 1600 * (t + 1)) (by omega) (by omega) (by omega) (by omega) hnext d0 hd0 A V A2 V2 o AM VM (h10 (hw0.symm.trans e10)) H locs ls hw hl
    by_cases e11 : w = (11 : Int32)
    · refine lv_tableIn (pc := 39) (off := 813) (tgt := 852) hx hb dL_law_39 (by rw [e11]; decide) (by rw [e11]; decide) (by rw [e11]; rfl) (by decide) ?_
      exact law_c_pass hlt (INV (t + 1)) cxs hXP hX hbl hL (4 * t) hq4 _ _ (C0 + 160 * (t + 1)) (S0 + 1600 * (t + 1)) (by omega) (by omega) (by omega) (by omega) hnext d0 hd0 A V A2 V2 o AM VM (h11 (hw0.symm.trans e11)) H locs ls hw hl
    by_cases e12 : w = (12 : Int32)
    · refine lv_tableIn (pc := 39) (off := 869) (tgt := 908) hx hb dL_law_39 (by rw [e12]; decide) (by rw [e12]; decide) (by rw [e12]; rfl) (by decide) ?_
      exact law_c_count hlt (INV (t + 1)) cxs hXP hX hbl hL (4 * t) hq4 _ _ (C0 + 160 * (t + 1)) (S0 + 1600 * (t + 1)) (by omega) (by omega) (by omega) (by omega) hnext d0 hd0 A V A2 V2 o AM VM (h12 (hw0.symm.trans e12)) H locs ls hw hl
    by_cases e13 : w = (13 : Int32)
    · refine lv_tableIn (pc := 39) (off := 925) (tgt := 964) hx hb dL_law_39 (by rw [e13]; decide) (by rw [e13]; decide) (by rw [e13]; rfl) (by decide) ?_
      exact law_c_binFor hlt (INV (t + 1)) cxs hXP hX hbl hL (4 * t) hq4 _ _ (C0 + 160 * (t + 1)) (S0 + 1600 * (t + 1)) (by omega) (by omega) (by omega) (by omega) hnext d0 hd0 A V A2 V2 o AM VM (h13 (hw0.symm.trans e13)) H locs ls hw hl
    by_cases e14 : w = (14 : Int32)
    · refine lv_tableIn (pc := 39) (off := 981) (tgt := 1020) hx hb dL_law_39 (by rw [e14]; decide) (by rw [e14]; decide) (by rw [e14]; rfl) (by decide) ?_
      exact law_c_foresee hlt (INV (t + 1)) cxs hXP hX hbl hL (4 * t) hq4 _ _ (C0 + 160 * (t + 1)) (S0 + 1600 * (t + 1)) (by omega) (by omega) (by omega) (by omega) hnext d0 hd0 A V A2 V2 o AM VM (h14 (hw0.symm.trans e14)) H locs ls hw hl
    by_cases e15 : w = (15 : Int32)
    · refine lv_tableIn (pc := 39) (off := 1049) (tgt := 1088) hx hb dL_law_39 (by rw [e15]; decide) (by rw [e15]; decide) (by rw [e15]; rfl) (by decide) ?_
      exact law_c_fate hlt (INV (t + 1)) cxs hXP hX hbl hL (4 * t) hq4 _ _ (C0 + 160 * (t + 1)) (S0 + 1600 * (t + 1)) (by omega) (by omega) (by omega) (by omega) hnext d0 hd0 A V A2 V2 o AM VM (h15 (hw0.symm.trans e15)) H locs ls hw hl
    by_cases e16 : w = (16 : Int32)
    · refine lv_tableIn (pc := 39) (off := 1117) (tgt := 1156) hx hb dL_law_39 (by rw [e16]; decide) (by rw [e16]; decide) (by rw [e16]; rfl) (by decide) ?_
      exact law_c_reaches hlt (INV (t + 1)) cxs hXP hX hbl hL (4 * t) hq4 _ _ (C0 + 160 * (t + 1)) (S0 + 1600 * (t + 1)) (by omega) (by omega) (by omega) (by omega) hnext d0 hd0 A V A2 V2 o AM VM (h16 (hw0.symm.trans e16)) H locs ls hw hl
    by_cases e17 : w = (17 : Int32)
    · refine lv_tableIn (pc := 39) (off := 1185) (tgt := 1224) hx hb dL_law_39 (by rw [e17]; decide) (by rw [e17]; decide) (by rw [e17]; rfl) (by decide) ?_
      exact law_c_barnacles hlt (INV (t + 1)) cxs hXP hX hbl hL (4 * t) hq4 _ _ (C0 + 160 * (t + 1)) (S0 + 1600 * (t + 1)) (by omega) (by omega) (by omega) (by omega) hnext d0 hd0 A V A2 V2 o AM VM (h17 (hw0.symm.trans e17)) H locs ls hw hl
    by_cases e18 : w = (18 : Int32)
    · refine lv_tableIn (pc := 39) (off := 1226) (tgt := 1265) hx hb dL_law_39 (by rw [e18]; decide) (by rw [e18]; decide) (by rw [e18]; rfl) (by decide) ?_
      exact law_c_digest hlt (INV (t + 1)) cxs hXP hX hbl hL (4 * t) hq4 _ _ (C0 + 160 * (t + 1)) (S0 + 1600 * (t + 1)) (by omega) (by omega) (by omega) (by omega) hnext d0 hd0 A V A2 V2 o AM VM (h18 (hw0.symm.trans e18)) H locs ls hw hl
    refine lv_tableOut (pc := 39) (tgt := 1279) hx hb dL_law_39 (tsw 18 (by decide) (fun i hi => match i, hi with | 0, _ => e0 | 1, _ => e1 | 2, _ => e2 | 3, _ => e3 | 4, _ => e4 | 5, _ => e5 | 6, _ => e6 | 7, _ => e7 | 8, _ => e8 | 9, _ => e9 | 10, _ => e10 | 11, _ => e11 | 12, _ => e12 | 13, _ => e13 | 14, _ => e14 | 15, _ => e15 | 16, _ => e16 | 17, _ => e17 | 18, _ => e18 | _ + 19, hi => absurd hi (by omega))) (by decide) ?_
    refine W.widen (k := C0 + 160 * (t + 1)) (n := S0 + 1600 * (t + 1)) (by omega) (by omega) ?_
    exact hnext d0 hd0 A V A2 V2 o AM VM H locs ls hdef hw hl
end LAWL
