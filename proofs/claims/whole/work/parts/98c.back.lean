/-! AHEAD on the reference's side: what was is again -/
theorem sp_back {N : Nat → Nat} {A A2 AM AM1 AM2 : SA} {VM VM2 : SV} {k g k0 : Nat} {r : Int32} {Q : Int32 → SA → SV → Prop} (hM : MR N A AM VM) (hn2 : N 2 ≤ 16) (hn3 : N 3 ≤ 150) (hAG : AG N A A2)
    (h2 : MR (hsF A2 N k).2 (hsF A2 N k).1 AM2 VM2) (e4 : ∀ j, j < 80 → AM2 4 j = AM 2 j) (e5 : ∀ j, j < 1350 → AM2 5 j = AM 3 j) (h : ∀ AM' VM', MR N A AM' VM' → VM' 0 = VM2 0 → Q r AM' VM') : wb_X6_ahead_86 Q g k0 AM2 VM2 (nI (N 4)) (nI (N 3)) r := by
  obtain ⟨m1, m2, m3, m4, m5, m6, m7, m8, m9, m10, m11⟩ := hM
  obtain ⟨p1, p2, p3, p4, p5, p6, p7, p8, p9, p10, p11⟩ := h2
  have r2 : ∀ j, j < 80 → va_cpy (AM2 4) (AM2 2) 0 0 80 j = AM 2 j := fun j hj => by rw [pk_cpy_in (by omega) (by omega), Nat.zero_add, Nat.sub_zero]; exact e4 j hj
  unfold wb_X6_ahead_86
  refine ⟨by decide, by decide, by decide, by decide, by decide, fun A1 a1 => ⟨by decide, by decide, by decide, by decide, by decide, fun A3 a3 V3 v3 V4 v4 => ?_⟩⟩
  have b3 : ∀ j, j < 1350 → A3 3 j = AM 3 j := fun j hj => by
    rw [a3, ua_at, if_pos rfl]
    show va_cpy (A1 5) (A1 3) 0 0 1350 j = AM 3 j
    rw [pk_cpy_in (by omega) (by omega), Nat.zero_add, Nat.sub_zero, a1, ua_at, if_neg (by omega)]
    exact e5 j hj
  have b2 : ∀ j, j < 80 → A3 2 j = AM 2 j := fun j hj => by
    rw [a3, ua_at, if_neg (by omega), a1, ua_at, if_pos rfl]
    exact r2 j hj
  have b0 : ∀ q j, q < 2 → A3 q j = AM2 q j := fun q j hq => by rw [a3, ua_at, if_neg (by omega), a1, ua_at, if_neg (by omega)]
  have c : ∀ q, q ≠ 1 → q ≠ 5 → V4 q = VM2 q := fun q h1 h5 => by rw [v4, uv_at, if_neg h5, v3, uv_at, if_neg h1]
  refine h A3 V4 ⟨?_, ?_, ?_, ?_, ?_, ?_, ?_, fun j hj => ?_, fun b hb => ⟨?_, ?_⟩, fun o q ho hq => ?_, fun l q hl hq => ?_⟩ (c 0 (by omega) (by omega))
  · rw [v4, uv_at, if_neg (by omega), v3, uv_at, if_pos rfl]
  · rw [c 2 (by omega) (by omega), p2, hs_num (by omega) (by omega)]
  · rw [c 3 (by omega) (by omega), p3, hs_num (by omega) (by omega)]
  · rw [c 4 (by omega) (by omega), p4, hs_num (by omega) (by omega)]
  · rw [v4, uv_at, if_pos rfl]
  · rw [c 6 (by omega) (by omega), p6, hs_num (by omega) (by omega)]
  · rw [c 7 (by omega) (by omega), p7, hs_num (by omega) (by omega)]
  · rw [b0 0 j (by omega), p8 j (by rw [hs_num (by omega) (by omega)]; exact hj), hs_rows (by omega)]
    exact hAG 0 j (by omega) hj
  · rw [b0 1 _ (by omega), (p9 b (by rw [hs_num (by omega) (by omega)]; exact hb)).1, hs_rows (by omega)]
    exact hAG 1 b (by omega) hb
  · rw [b0 1 _ (by omega), (p9 b (by rw [hs_num (by omega) (by omega)]; exact hb)).2, hs_rows (by omega)]
    exact hAG 2 b (by omega) hb
  · rw [b2 _ (by omega)]; exact m10 o q ho hq
  · rw [b3 _ (by omega)]; exact m11 l q hl hq
