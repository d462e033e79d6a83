/-! THE CALLS: the ends, and those of the quay -/
def INV (t : Nat) : INVT := fun A V _ _ AM VM => ∃ N : Nat → Nat, IV N A V ∧ MR N A AM VM ∧ N 4 ≤ 200 * t
def nu (N : Nat → Nat) (k v : Nat) : Nat → Nat := fun q => if q = k then v else N q
theorem nu_eq (N : Nat → Nat) (k v : Nat) : nu N k v k = v := if_pos rfl
theorem nu_ne {N : Nat → Nat} {k v q : Nat} (h : q ≠ k) : nu N k v q = N q := if_neg h
theorem MR.v0 {N : Nat → Nat} {A AM : SA} {VM : SV} {x : Int32} (h : MR N A AM VM) : MR N A AM (uv VM 0 x) := h
theorem sp_within {x lo hi : Int32} {Q : Int32 → Prop} (h : Q (inI x lo hi)) : wpX5_isWithin x lo hi Q := by
  unfold inI at h
  refine ⟨fun h1 => ?_, fun h1 => ⟨fun h2 => ?_, fun h2 => ?_⟩⟩
  · rw [if_pos h1] at h; exact h
  · rw [if_neg h1, if_pos h2] at h; exact h
  · rw [if_neg h1, if_neg h2] at h; exact h
theorem in_nat {x : Int32} {lo hi : Nat} (h : ¬ inI x (nI lo) (nI hi) = 0) (hl : lo < 2 ^ 31) (hh : hi < 2 ^ 31) : ∃ k, lo ≤ k ∧ k ≤ hi ∧ x = nI k := by
  unfold inI at h
  by_cases h1 : x < nI lo
  · rw [if_pos h1] at h; exact absurd rfl h
  · by_cases h2 : nI hi < x
    · rw [if_neg h1, if_pos h2] at h; exact absurd rfl h
    · have a1 : (nI lo).toInt = (lo : Int) := nI_toInt hl
      have a2 : (nI hi).toInt = (hi : Int) := nI_toInt hh
      rw [Int32.lt_iff_toInt_lt, a1] at h1
      rw [Int32.lt_iff_toInt_lt, a2] at h2
      obtain ⟨j, hj, e⟩ := nI_of (x := x) (by rw [Int32.lt_iff_toInt_lt]; show ¬ x.toInt < 0; omega)
      have a3 : x.toInt = (j : Int) := by rw [e]; exact nI_toInt hj
      exact ⟨j, by omega, by omega, e⟩
theorem m_go {N : Nat → Nat} {A AM : SA} {VM : SV} {P : SV → Prop} (hM : MR N A AM VM) (h : ∀ VM1, MR N A AM VM1 → VM1 0 = 0 → P VM1) : ∀ V1 : SV, V1 = uv VM 0 0 → P V1 := by
  intro V1 e
  exact h V1 (by rw [e]; exact hM.v0) (by rw [e]; rfl)
theorem e_bad {t : Nat} {N : Nat → Nat} {A : SA} {V : SV} {A2 : SA} {V2 : SV} {AM : SA} {VM : SV} {o : Nat → Int64} {k b : Int32} (hk : ¬ k = 0) (hI : IV N A V) (hM : MR N A AM VM) (h4 : N 4 ≤ 200 * t) : wpX6_thrown AM (uv VM 0 k) (fun tv AM VM => tv = k ∧ (k = 0 → o 0 = b.toInt64) ∧ INV t A V A2 V2 AM VM) :=
  ⟨rfl, fun e => absurd e hk, N, hI, hM.v0, h4⟩
theorem e_ok {t : Nat} {N : Nat → Nat} {A : SA} {V : SV} {A2 : SA} {V2 : SV} {AM : SA} {VM : SV} {o : Nat → Int64} {r b : Int32} (h0 : VM 0 = 0) (hb : b = r) (hI : IV N A V) (hM : MR N A AM VM) (h4 : N 4 ≤ 200 * t) : wpX6_thrown AM VM (fun tv AM VM => tv = 0 ∧ ((0 : Int32) = 0 → vp_updL o 0 r.toInt64 0 = b.toInt64) ∧ INV t A V A2 V2 AM VM) :=
  ⟨h0, fun _ => by rw [hb]; rfl, N, hI, hM, h4⟩
theorem IV.put {N N' : Nat → Nat} {A B : SA} {V V' : SV} (h : IV N A V) (hN : NI N' V') (e1 : N' 1 = N 1) (e2 : N' 2 = N 2) (e3 : N' 3 = N 3) (e : ∀ k j, k = 2 ∨ k = 3 ∨ k = 5 ∨ k = 6 ∨ (9 ≤ k ∧ k ≤ 16) → B k j = A k j) : IV N' B V' := by
  have h2 := h.frame e
  refine ⟨hN, fun b hb => ?_, fun o ho => ?_, fun l hl => ?_⟩
  · rw [e1] at hb; rw [e3]; exact h2.2.1 b hb
  · rw [e2] at ho; exact h2.2.2.1 o ho
  · rw [e3] at hl; have := h2.2.2.2 l hl; unfold LI at this ⊢; rw [e1, e2]; exact this
theorem IV.tid {N : Nat → Nat} {A : SA} {V : SV} {n j : Nat} {x : Int32} (h : IV N A V) (h1 : 1 ≤ n) (h2 : n ≤ 30) : IV (nu N 0 n) (up A 0 j x) (uv V 0 (nI n)) := by
  obtain ⟨hV, n0, n1, n2, n3, n4, n5, n6, n7⟩ := id h.1
  refine h.put ⟨fun k hk => ?_, h1, h2, n2, n3, n4, n5, n6, n7⟩ rfl rfl rfl (fun k j hk => up_ne (by omega))
  by_cases q : k = 0
  · subst q; rfl
  · rw [uv_at, if_neg q, nu_ne q]; exact hV k hk
theorem MR.tid {N : Nat → Nat} {A AM : SA} {VM : SV} {n j : Nat} {x : Int32} (h : MR N A AM VM) (hj : ∀ i, i < n → i ≠ j → i < N 0) : MR (nu N 0 n) (up A 0 j x) (up AM 0 j x) (uv VM 2 (nI n)) := by
  obtain ⟨h1, h2, h3, h4, h5, h6, h7, h8, h9, h10, h11⟩ := h
  refine ⟨h1, rfl, h3, h4, h5, h6, h7, fun i hi => ?_, fun b hb => ?_, fun o k ho hk => ?_, fun l k hl hk => ?_⟩
  · rw [up_at, up_at]
    by_cases q : i = j
    · rw [if_pos ⟨rfl, q⟩, if_pos ⟨rfl, q⟩]
    · rw [if_neg (by omega), if_neg (by omega)]
      exact h8 i (hj i hi q)
  · rw [up_ne (by omega), up_ne (by omega), up_ne (by omega), up_ne (by omega)]
    exact h9 b hb
  · rw [up_ne (by omega), up_ne (by omega)]; exact h10 o k ho hk
  · rw [up_ne (by omega), up_ne (by omega)]; exact h11 l k hl hk
section CALLS
variable {t : Nat} {N : Nat → Nat} {A : SA} {V : SV} {A2 : SA} {V2 : SV} {AM : SA} {VM : SV} {o : Nat → Int64} {a1 a2 a3 : Int32}
theorem st_beginTides (hI : IV N A V) (hM : MR N A AM VM) (h4 : N 4 ≤ 200 * t) : LC_beginTides (INV t) A V A2 V2 o AM VM a1 a2 a3 := by
  unfold LC_beginTides wpL_beginTides wpX5_beginTides wb_X5_beginTides_0
  refine sp_within ⟨fun h => ?_, fun h => ?_⟩
  · refine ⟨vp_in_nI (n := 0) (by omega) (by omega), fun B e1 W v1 => ?_⟩
    refine m_go hM (fun VM1 hM1 z1 => sp_isHeight ⟨fun _ => ?_, fun hc => absurd hc h⟩)
    refine ⟨vp_in_nI (n := 0) (by omega) (by omega), fun BM e2 WM v2 => ?_⟩
    rw [e1, v1, e2, v2]
    exact e_ok (N := nu N 0 1) z1 (hM1.2.1.trans (hI.v 0 (by omega)).symm) (hI.tid (n := 1) (j := 0) (by omega) (by omega)) (hM1.tid (n := 1) (j := 0) (fun i h1 h2 => by omega)) h4
  · exact ⟨rfl, m_go hM (fun VM1 hM1 z1 => sp_isHeight ⟨fun hc => absurd h hc, fun _ => sp_fail (e_bad (by decide) hI hM1 h4)⟩)⟩
theorem st_addTide (hI : IV N A V) (hM : MR N A AM VM) (h4 : N 4 ≤ 200 * t) : LC_addTide (INV t) A V A2 V2 o AM VM a1 a2 a3 := by
  have v0 := hI.v 0 (by omega)
  have n0 : N 0 ≤ 30 := hI.1.2.2.1
  unfold LC_addTide wpL_addTide wpX5_addTide wb_X5_addTide_0
  refine sp_within ⟨fun h => ⟨fun hc => ?_, fun hc => Or.inr ⟨rfl, ?_⟩⟩, fun h => Or.inl ⟨rfl, m_go hM (fun VM1 hM1 z1 => sp_isHeight ⟨fun hc => absurd h hc, fun _ => sp_fail (e_bad (by decide) hI hM1 h4)⟩)⟩⟩
  · rw [v0] at hc
    have hc := (nI_ltI (b := 30) (by omega) (by omega)).mp hc
    unfold wpX4_append wb_X4_append_0
    rw [v0]
    refine ⟨fun q => ?_, fun _ => ⟨vp_in_nI (by omega) (by omega), fun B e1 W v1 => ?_⟩⟩
    · have := (nI_leI (a := 30) (by omega) (by omega)).mp q
      omega
    rw [nI_clamp (by omega)] at e1
    rw [nI_1] at v1
    refine m_go hM (fun VM1 hM1 z1 => sp_isHeight ⟨fun _ => ⟨fun _ => ?_, fun q => ?_⟩, fun q => absurd q h⟩)
    · rw [hM1.2.1]
      refine ⟨vp_in_nI (by omega) (by omega), fun BM e2 WM v2 => ?_⟩
      rw [nI_clamp (by omega)] at e2
      rw [nI_1] at v2
      rw [e1, v1, e2, v2]
      exact e_ok (N := nu N 0 (N 0 + 1)) z1 rfl (hI.tid (by omega) (by omega)) (hM1.tid (fun i h1 h2 => by omega)) h4
    · rw [hM1.2.1] at q
      have := (nI_eq (b := 30) (by omega) (by omega)).mp q
      omega
  · rw [v0] at hc
    have hc : ¬ N 0 < 30 := fun w => hc ((nI_ltI (b := 30) (by omega) (by omega)).mpr w)
    refine m_go hM (fun VM1 hM1 z1 => sp_isHeight ⟨fun _ => ⟨fun q => ?_, fun _ => sp_fail (e_bad (by decide) hI hM1 h4)⟩, fun q => absurd q h⟩)
    rw [hM1.2.1] at q
    exact absurd ((nI_eq (b := 30) (by omega) (by omega)).mpr (by omega)) q
theorem st_tide (hI : IV N A V) (hM : MR N A AM VM) (h4 : N 4 ≤ 200 * t) : LC_tide (INV t) A V A2 V2 o AM VM a1 a2 a3 := by
  have n0 : N 0 ≤ 30 := hI.1.2.2.1
  have n1 : 1 ≤ N 0 := hI.1.2.1
  unfold LC_tide wpL_tide wpX5_tide wb_X5_tide_0
  refine ⟨fun h => ?_, fun h => ⟨rfl, m_go hM (fun VM1 hM1 z1 => ⟨fun _ => sp_fail (e_bad (by decide) hI hM1 h4), fun q => absurd (Int32.not_lt.mp q) h⟩)⟩⟩
  obtain ⟨k, hk, rfl⟩ := nI_of (x := a1) (Int32.not_lt.mpr h)
  refine sp_heightIn (hI.v 0 (by omega)) n1 n0 hk ?_
  exact m_go hM (fun VM1 hM1 z1 => ⟨fun q => absurd q (nI_nn hk), fun _ => sp_tideOf hM1.2.1 n1 n0 hk (e_ok z1 (hM1.td (Nat.mod_lt _ (by omega))) hI hM1 h4)⟩)
theorem st_setCrew (hI : IV N A V) (hM : MR N A AM VM) (h4 : N 4 ≤ 200 * t) : LC_setCrew (INV t) A V A2 V2 o AM VM a1 a2 a3 := by
  unfold LC_setCrew wpL_setCrew wpX5_setCrew wb_X5_setCrew_0
  refine sp_within ⟨fun h => ⟨rfl, m_go hM (fun VM1 hM1 z1 => sp_isIn ⟨fun _ => sp_fail (e_bad (by decide) hI hM1 h4), fun q => absurd h q⟩)⟩, fun h => sp_within ⟨fun g => ?_, fun g => ⟨rfl, m_go hM (fun VM1 hM1 z1 => sp_isIn ⟨fun q => absurd q h, fun _ => sp_isIn ⟨fun q => absurd g q, fun _ => sp_fail (e_bad (by decide) hI hM1 h4)⟩⟩)⟩⟩⟩
  obtain ⟨c, _, hc, ec⟩ := in_nat (lo := 0) (hi := 9) h (by omega) (by omega)
  obtain ⟨d, _, hd, ed⟩ := in_nat (lo := 0) (hi := 9) g (by omega) (by omega)
  intro W1 w1 W2 w2
  refine m_go hM (fun VM1 hM1 z1 => sp_isIn ⟨fun q => absurd q h, fun _ => sp_isIn ⟨fun _ => fun X1 x1 X2 x2 => ?_, fun q => absurd q g⟩⟩)
  rw [w2, w1, x2, x1, ec, ed]
  obtain ⟨hV, p0, p1, p2, p3, p4, p5, p6, p7⟩ := id hI.1
  obtain ⟨m1, m2, m3, m4, m5, m6, m7, m8, m9, m10, m11⟩ := id hM1
  refine e_ok (N := nu (nu N 5 c) 6 d) z1 (m7.trans (hI.v 6 (by omega)).symm) (hI.put ⟨fun k hk => ?_, p0, p1, p2, p3, p4, p5, hc, hd⟩ rfl rfl rfl (fun _ _ _ => rfl)) ⟨m1, m2, m3, m4, m5, rfl, rfl, m8, m9, m10, m11⟩ h4
  by_cases q : k = 6
  · subst q; rfl
  · by_cases q5 : k = 5
    · subst q5; rfl
    · rw [uv_at, if_neg q, uv_at, if_neg q5, nu_ne q, nu_ne q5]; exact hV k hk
end CALLS
