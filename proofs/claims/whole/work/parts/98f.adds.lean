/-! THE CALLS: addBin, addDrowned, bring -/
theorem cnt_0 {f : Nat → Bool} {n : Nat} (h : ∀ j, j < n → f j = false) : cnt f n = 0 := by
  induction n with
  | zero => rfl
  | succ n ih => rw [cnt_s0 (h n (by omega))]; exact ih (fun j hj => h j (by omega))
theorem IV.noBin {N : Nat → Nat} {A : SA} {V : SV} (h : IV N A V) : fil (N 3) A (N 1) = 0 := by
  have n1 := h.n1
  refine cnt_0 (fun l hl => decide_eq_false (fun w => ?_))
  rcases (h.2.2.2 l hl).2.2.2.2.2.1 with ⟨_, b, hb, e⟩ | ⟨q, _⟩
  · have := (nI_eq (by omega) (by omega)).mp (e.symm.trans w.2)
    omega
  · exact q w.1
theorem IV.abin {N : Nat → Nat} {A : SA} {V : SV} {r : Nat} {x : Int32} (h : IV N A V) (hn : N 1 < 10) (hr1 : 1 ≤ r) (hr2 : r ≤ 20) : IV (nu N 1 (N 1 + 1)) (up (up (up A 1 (N 1) x) 2 (N 1) (nI r)) 3 (N 1) 0) (uv V 1 (nI (N 1 + 1))) := by
  obtain ⟨hV, n0, n1, n2, n3, n4, n5, n6, n7⟩ := id h.1
  have z := h.noBin
  have e : ∀ k j, 3 < k → up (up (up A 1 (N 1) x) 2 (N 1) (nI r)) 3 (N 1) 0 k j = A k j := fun k j hk => by rw [up_ne (by omega), up_ne (by omega), up_ne (by omega)]
  have hf : ∀ b, fil (N 3) (up (up (up A 1 (N 1) x) 2 (N 1) (nI r)) 3 (N 1) 0) b = fil (N 3) A b := fun b => cnt_congr (fun l _ => by rw [e 12 l (by omega), e 14 l (by omega)])
  refine ⟨⟨fun k hk => ?_, n0, n1, hn, n3, n4, n5, n6, n7⟩, fun b hb => ?_, fun o ho => ?_, fun l hl => ?_⟩
  · by_cases q : k = 1
    · subst q; rfl
    · rw [uv_at, if_neg q, nu_ne q]; exact hV k hk
  · have hb : b < N 1 + 1 := hb
    by_cases q : b = N 1
    · rw [q]
      refine ⟨r, hr1, hr2, by rw [up_ne (by omega), up_eq], ?_, ?_⟩
      · show fil (N 3) _ (N 1) ≤ r
        rw [hf, z]; omega
      · show _ = nI (fil (N 3) _ (N 1))
        rw [hf, z, up_eq]; rfl
    · obtain ⟨r', q1, q2, q3, q4, q5⟩ := h.2.1 b (by omega)
      refine ⟨r', q1, q2, by rw [up_ne (by omega), up_ne (by omega), up_ne (by omega)]; exact q3, ?_, ?_⟩
      · show fil (N 3) _ b ≤ r'
        rw [hf]; exact q4
      · show _ = nI (fil (N 3) _ b)
        rw [hf, up_ne (by omega), up_ne (by omega), up_ne (by omega)]; exact q5
  · rw [e 5 o (by omega), e 6 o (by omega)]; exact h.2.2.1 o ho
  · obtain ⟨p1, p2, p3, p4, p5, p6, p7, p8⟩ := LI.congr (h.2.2.2 l hl) (B := up (up (up A 1 (N 1) x) 2 (N 1) (nI r)) 3 (N 1) 0) (fun k h1 _ => e k l (by omega))
    refine ⟨p1, p2, p3, p4, p5, ?_, p7, p8⟩
    rcases p6 with ⟨q1, b, hb, q2⟩ | q
    · exact Or.inl ⟨q1, b, Nat.lt_succ_of_lt hb, q2⟩
    · exact Or.inr q
theorem MR.abin {N : Nat → Nat} {A AM : SA} {VM : SV} {x y : Int32} (h : MR N A AM VM) : MR (nu N 1 (N 1 + 1)) (up (up (up A 1 (N 1) x) 2 (N 1) y) 3 (N 1) 0) (up (up AM 1 (2 * N 1) x) 1 (2 * N 1 + 1) y) (uv VM 3 (nI (N 1 + 1))) := by
  obtain ⟨h1, h2, h3, h4, h5, h6, h7, h8, h9, h10, h11⟩ := h
  refine ⟨h1, h2, rfl, h4, h5, h6, h7, fun i hi => ?_, fun b hb => ?_, fun o k ho hk => ?_, fun l k hl hk => ?_⟩
  · rw [up_ne (by omega), up_ne (by omega), up_ne (by omega), up_ne (by omega), up_ne (by omega)]; exact h8 i hi
  · have hb : b < N 1 + 1 := hb
    by_cases q : b = N 1
    · rw [q]
      exact ⟨by rw [up_ne (by omega), up_eq, up_ne (by omega), up_ne (by omega), up_eq], by rw [up_eq, up_ne (by omega), up_eq]⟩
    · rw [up_ne (by omega), up_ne (by omega), up_ne (by omega), up_ne (by omega), up_ne (by omega), up_ne (by omega), up_ne (by omega), up_ne (by omega), up_ne (by omega), up_ne (by omega)]
      exact h9 b (by omega)
  · rw [up_ne (by omega), up_ne (by omega), up_ne (by omega), up_ne (by omega), up_ne (by omega)]; exact h10 o k ho hk
  · rw [up_ne (by omega), up_ne (by omega), up_ne (by omega), up_ne (by omega), up_ne (by omega)]; exact h11 l k hl hk
section CALLS
variable {t : Nat} {N : Nat → Nat} {A : SA} {V : SV} {A2 : SA} {V2 : SV} {AM : SA} {VM : SV} {o : Nat → Int64} {a1 a2 a3 : Int32}
theorem st_addBin (hI : IV N A V) (hM : MR N A AM VM) (h4 : N 4 ≤ 200 * t) : LC_addBin (INV t) A V A2 V2 o AM VM a1 a2 a3 := by
  have v1 := hI.v 1 (by omega)
  have n1 := hI.n1
  unfold LC_addBin wpL_addBin wpX5_addBin wb_X5_addBin_0
  refine sp_within ⟨fun h => Or.inl ⟨rfl, m_go hM (fun VM1 hM1 z1 => sp_isHeight ⟨fun _ => sp_fail (e_bad (by decide) hI hM1 h4), fun q => absurd h q⟩)⟩, fun h => sp_within ⟨fun g => ⟨fun hc => ?_, fun hc => Or.inr ⟨rfl, ?_⟩⟩, fun g => Or.inl ⟨rfl, m_go hM (fun VM1 hM1 z1 => sp_isHeight ⟨fun q => absurd q h, fun _ => sp_isIn ⟨fun q => absurd g q, fun _ => sp_fail (e_bad (by decide) hI hM1 h4)⟩⟩)⟩⟩⟩
  · obtain ⟨r, hr1, hr2, er⟩ := in_nat (lo := 1) (hi := 20) g (by omega) (by omega)
    unfold wpX0_append wb_X0_append_0
    rw [v1] at hc ⊢
    have hN := (nI_ltI (b := 10) (by omega) (by omega)).mp hc
    have hin : vp_in (nI (N 1)) 10 := vp_in_nI (by omega) (by omega)
    refine ⟨fun _ => ⟨hin, fun B1 e1 => ⟨hin, fun B2 e2 => ⟨hin, fun B3 e3 W w => ?_⟩⟩⟩, fun q => absurd hc q⟩
    rw [nI_clamp (by omega)] at e1 e2 e3
    rw [nI_1] at w
    refine m_go hM (fun VM1 hM1 z1 => sp_isHeight ⟨fun q => absurd q h, fun _ => sp_isIn ⟨fun _ => ⟨fun _ => ?_, fun q => ?_⟩, fun q => absurd q g⟩⟩)
    · rw [hM1.2.2.1, nI_20, nI_1]
      refine ⟨vp_in_nI (by omega) (by omega), fun BM1 f1 => ⟨vp_in_nI (by omega) (by omega), fun BM2 f2 WM wm => ?_⟩⟩
      rw [nI_clamp (by omega)] at f1 f2
      rw [nI_1] at wm
      rw [e3, e2, e1, w, f2, f1, wm, er]
      exact e_ok (N := nu N 1 (N 1 + 1)) z1 (nI_pred _) (hI.abin hN hr1 hr2) hM1.abin h4
    · rw [hM1.2.2.1] at q
      have := (nI_eq (b := 10) (by omega) (by omega)).mp q
      omega
  · rw [v1] at hc
    have hc : ¬ N 1 < 10 := fun w => hc ((nI_ltI (b := 10) (by omega) (by omega)).mpr w)
    refine m_go hM (fun VM1 hM1 z1 => sp_isHeight ⟨fun q => absurd q h, fun _ => sp_isIn ⟨fun _ => ⟨fun q => ?_, fun _ => sp_fail (e_bad (by decide) hI hM1 h4)⟩, fun q => absurd q g⟩⟩)
    rw [hM1.2.2.1] at q
    exact absurd ((nI_eq (b := 10) (by omega) (by omega)).mpr (by omega)) q
end CALLS
def adD (A : SA) (k : Nat) (a b c : Int32) : SA := up (up (up (up (up A 4 k a) 5 k b) 6 k c) 7 k 0) 8 k 0
theorem adD_ne {A : SA} {k : Nat} {a b c : Int32} {q j : Nat} (h : j ≠ k ∨ q < 4 ∨ 8 < q) : adD A k a b c q j = A q j := by
  unfold adD
  rw [up_ne (by omega), up_ne (by omega), up_ne (by omega), up_ne (by omega), up_ne (by omega)]
theorem adD_at {A : SA} {k : Nat} {a b c : Int32} : adD A k a b c 4 k = a ∧ adD A k a b c 5 k = b ∧ adD A k a b c 6 k = c ∧ adD A k a b c 7 k = 0 ∧ adD A k a b c 8 k = 0 := by
  unfold adD
  refine ⟨?_, ?_, ?_, ?_, ?_⟩
  · rw [up_ne (by omega), up_ne (by omega), up_ne (by omega), up_ne (by omega), up_eq]
  · rw [up_ne (by omega), up_ne (by omega), up_ne (by omega), up_eq]
  · rw [up_ne (by omega), up_ne (by omega), up_eq]
  · rw [up_ne (by omega), up_eq]
  · rw [up_eq]
theorem IV.adro {N : Nat → Nat} {A : SA} {V : SV} {n g : Nat} {x : Int32} (h : IV N A V) (hn : N 2 < 16) (hn5 : n ≤ 5) (hg1 : 1 ≤ g) (hg2 : g ≤ 60) : IV (nu N 2 (N 2 + 1)) (adD A (N 2) x (nI n) (nI g)) (uv V 2 (nI (N 2 + 1))) := by
  obtain ⟨hV, n0, n1, n2, n3, n4, n5, n6, n7⟩ := id h.1
  obtain ⟨_, c5, c6, _, _⟩ := @adD_at A (N 2) x (nI n) (nI g)
  refine ⟨⟨fun k hk => ?_, n0, n1, n2, hn, n4, n5, n6, n7⟩, ?_, fun o ho => ?_, fun l hl => ?_⟩
  · by_cases q : k = 2
    · subst q; rfl
    · rw [uv_at, if_neg q, nu_ne q]; exact hV k hk
  · have hb : BI N (adD A (N 2) x (nI n) (nI g)) := BI.keep h.2.1 (fun b _ => adD_ne (by omega)) (fun b _ => adD_ne (by omega)) (fun b j _ _ => by rw [adD_ne (by omega), adD_ne (by omega)])
    exact hb
  · have ho : o < N 2 + 1 := ho
    by_cases q : o = N 2
    · rw [q]
      exact ⟨⟨n, hn5, c5⟩, ⟨g, hg1, hg2, c6⟩⟩
    · rw [adD_ne (by omega), adD_ne (by omega)]
      exact h.2.2.1 o (by omega)
  · obtain ⟨p1, p2⟩ := LI.congr (h.2.2.2 l hl) (B := adD A (N 2) x (nI n) (nI g)) (fun k h1 _ => adD_ne (by omega))
    obtain ⟨o, ho, e⟩ := p1
    exact ⟨⟨o, Nat.lt_succ_of_lt ho, e⟩, p2⟩
theorem mr_adro {N : Nat → Nat} {A AM A1 : SA} {VM V1 : SV} {x y z : Int32} {f30 f29 f28 f27 f26 : Nat → Int32} (h : MR N A AM VM) (hn : N 2 < 16) (g26 : f26 = upd (fun _ => 0 : Nat → Int32) (0 : Int32).toNatClampNeg x) (g27 : f27 = upd f26 (1 : Int32).toNatClampNeg y) (g28 : f28 = upd f27 (2 : Int32).toNatClampNeg z) (g29 : f29 = upd f28 (3 : Int32).toNatClampNeg 0) (g30 : f30 = upd f29 (4 : Int32).toNatClampNeg 0)
    (ea : A1 = ua AM 2 (va_cpy f30 (AM 2) 0 (5 * N 2) 5)) (ev : V1 = uv VM 4 (nI (N 2 + 1))) : MR (nu N 2 (N 2 + 1)) (adD A (N 2) x y z) A1 V1 := by
  obtain ⟨h1, h2, h3, h4, h5, h6, h7, h8, h9, h10, h11⟩ := h
  have hr : ∀ q, q ≠ 2 → A1 q = AM q := fun q hq => by rw [ea]; funext j; rw [ua_at, if_neg hq]
  rw [ev]
  refine ⟨h1, h2, h3, rfl, h5, h6, h7, fun j hj => ?_, fun b hb => ?_, fun o k ho hk => ?_, fun l k hl hk => ?_⟩
  · rw [hr 0 (by omega), adD_ne (by omega)]; exact h8 j hj
  · rw [hr 1 (by omega), adD_ne (by omega), adD_ne (by omega)]; exact h9 b hb
  · have ho : o < N 2 + 1 := ho
    rw [ea, ua_at, if_pos rfl]
    by_cases q : o = N 2
    · rw [pk_cpy_in (by omega) (by omega), q, Nat.zero_add, Nat.add_sub_cancel_left]
      obtain ⟨c1, c2, c3, c4, c5⟩ := @adD_at A (N 2) x y z
      have hk5 : k = 0 ∨ k = 1 ∨ k = 2 ∨ k = 3 ∨ k = 4 := by omega
      rcases hk5 with e | e | e | e | e <;> subst e
      · rw [c1, g30, g29, g28, g27, g26]; rfl
      · rw [c2, g30, g29, g28, g27, g26]; rfl
      · rw [c3, g30, g29, g28, g27, g26]; rfl
      · rw [c4, g30, g29, g28, g27, g26]; rfl
      · rw [c5, g30, g29, g28, g27, g26]; rfl
    · rw [pk_cpy_out (by omega), adD_ne (by omega)]
      exact h10 o k (by omega) hk
  · rw [hr 3 (by omega), adD_ne (by omega)]; exact h11 l k hl hk
section CALLS
variable {t : Nat} {N : Nat → Nat} {A : SA} {V : SV} {A2 : SA} {V2 : SV} {AM : SA} {VM : SV} {o : Nat → Int64} {a1 a2 a3 : Int32}
theorem nI_50 (n : Nat) : (5 : Int32) * nI n = nI (5 * n) := by rw [← Nat.add_zero (5 * n), ← nI_5, show nI 0 = 0 from rfl, Int32.add_zero]
theorem st_addDrowned (hI : IV N A V) (hM : MR N A AM VM) (h4 : N 4 ≤ 200 * t) : LC_addDrowned (INV t) A V A2 V2 o AM VM a1 a2 a3 := by
  have v2 := hI.v 2 (by omega)
  have n2 := hI.n2
  unfold LC_addDrowned wpL_addDrowned wpX5_addDrowned wb_X5_addDrowned_0
  refine sp_within ⟨fun h => Or.inl ⟨rfl, m_go hM (fun VM1 hM1 z1 => sp_isHeight ⟨fun _ => sp_fail (e_bad (by decide) hI hM1 h4), fun q => absurd h q⟩)⟩, fun h => sp_within ⟨fun g => Or.inl ⟨rfl, m_go hM (fun VM1 hM1 z1 => sp_isHeight ⟨fun q => absurd q h, fun _ => sp_isIn ⟨fun _ => sp_fail (e_bad (by decide) hI hM1 h4), fun q => absurd g q⟩⟩)⟩, fun g => sp_within ⟨fun f => ⟨fun hc => ?_, fun hc => Or.inr ⟨rfl, ?_⟩⟩, fun f => Or.inl ⟨rfl, m_go hM (fun VM1 hM1 z1 => sp_isHeight ⟨fun q => absurd q h, fun _ => sp_isIn ⟨fun q => absurd q g, fun _ => sp_isIn ⟨fun q => absurd f q, fun _ => sp_fail (e_bad (by decide) hI hM1 h4)⟩⟩⟩)⟩⟩⟩⟩
  · obtain ⟨n, _, hn5, en⟩ := in_nat (lo := 0) (hi := 5) g (by omega) (by omega)
    obtain ⟨l, hl1, hl2, el⟩ := in_nat (lo := 1) (hi := 60) f (by omega) (by omega)
    unfold wpX1_append wb_X1_append_0
    rw [v2] at hc ⊢
    have hN := (nI_ltI (b := 16) (by omega) (by omega)).mp hc
    have hin : vp_in (nI (N 2)) 16 := vp_in_nI (by omega) (by omega)
    refine ⟨fun _ => ⟨hin, fun B1 e1 => ⟨hin, fun B2 e2 => ⟨hin, fun B3 e3 => ⟨hin, fun B4 e4 => ⟨hin, fun B5 e5 W w => ?_⟩⟩⟩⟩⟩, fun q => absurd hc q⟩
    rw [nI_clamp (by omega)] at e1 e2 e3 e4 e5
    rw [nI_1] at w
    have eB : B5 = adD A (N 2) a1 (nI n) (nI l) := by rw [e5, e4, e3, e2, e1, en, el]; rfl
    refine m_go hM (fun VM1 hM1 z1 => sp_isHeight ⟨fun q => absurd q h, fun _ => sp_isIn ⟨fun q => absurd q g, fun _ => sp_isIn ⟨fun _ => ⟨fun _ => ?_, fun q => ?_⟩, fun q => absurd q f⟩⟩⟩)
    · rw [hM1.2.2.2.1, nI_50, nI_clamp (n := 5 * N 2) (by omega), show (0 : Int32).toNatClampNeg = 0 from rfl, show (5 : Int32).toNatClampNeg = 5 from rfl]
      intro f26 g26 f27 g27 f28 g28 f29 g29 f30 g30
      refine ⟨by decide, nI_pos (by omega), by decide, by omega, by omega, fun BM eb WM wm => ?_⟩
      rw [nI_1] at wm
      have m := mr_adro hM1 hN g26 (g27.trans (by rw [en])) (g28.trans (by rw [el])) g29 g30 eb wm
      rw [eB, w]
      exact e_ok (N := nu N 2 (N 2 + 1)) (by rw [wm]; exact z1) (by rw [m.2.2.2.1]; exact nI_pred _) (hI.adro hN hn5 hl1 hl2) m h4
    · rw [hM1.2.2.2.1] at q
      have := (nI_eq (b := 16) (by omega) (by omega)).mp q
      omega
  · rw [v2] at hc
    have hc : ¬ N 2 < 16 := fun w => hc ((nI_ltI (b := 16) (by omega) (by omega)).mpr w)
    refine m_go hM (fun VM1 hM1 z1 => sp_isHeight ⟨fun q => absurd q h, fun _ => sp_isIn ⟨fun q => absurd q g, fun _ => sp_isIn ⟨fun _ => ⟨fun q => ?_, fun _ => sp_fail (e_bad (by decide) hI hM1 h4)⟩, fun q => absurd q f⟩⟩⟩)
    rw [hM1.2.2.2.1] at q
    exact absurd ((nI_eq (b := 16) (by omega) (by omega)).mpr (by omega)) q
theorem st_bring (hI : IV N A V) (hM : MR N A AM VM) (h4 : N 4 ≤ 200 * t) : LC_bring (INV t) A V A2 V2 o AM VM a1 a2 a3 := by
  have v2 := hI.v 2 (by omega)
  have v3 := hI.v 3 (by omega)
  have n2 := hI.n2
  have n3 := hI.n3
  unfold LC_bring wpL_bring wpX5_bring wb_X5_bring_0
  refine sp_has1 ?_
  rw [v2]
  rcases has_or a1 (n := N 2) (by omega) with h | ⟨j, hj, rfl⟩
  · rw [h]
    exact ⟨fun q => absurd rfl q, fun _ => Or.inl ⟨rfl, m_go hM (fun VM1 hM1 z1 => sp_isOne hM1.2.2.2.1 n2 (by rw [h]; exact ⟨fun q => absurd rfl q, fun _ => sp_fail (e_bad (by decide) hI hM1 h4)⟩))⟩⟩
  · have hj1 := hasI_t (n := N 2) hj (by omega)
    rw [hj1]
    refine ⟨fun _ => sp_within ⟨fun g => Or.inr (Or.inl ⟨rfl, ?_⟩), fun g => sp_within ⟨fun f => ⟨fun hc => ?_, fun hc => Or.inr (Or.inr ⟨rfl, ?_⟩)⟩, fun f => Or.inr (Or.inl ⟨rfl, ?_⟩)⟩⟩, fun q => absurd q (by decide)⟩
    · exact m_go hM (fun VM1 hM1 z1 => sp_isOne hM1.2.2.2.1 n2 (by rw [hj1]; exact ⟨fun _ => sp_isIn ⟨fun _ => sp_fail (e_bad (by decide) hI hM1 h4), fun q => absurd g q⟩, fun q => absurd q (by decide)⟩))
    · obtain ⟨w, hw1, hw2, ew⟩ := in_nat (lo := 1) (hi := 9) g (by omega) (by omega)
      obtain ⟨s, hs1, hs2, es⟩ := in_nat (lo := 1) (hi := 60) f (by omega) (by omega)
      rw [v3] at hc
      have hN := (nI_ltI (b := 150) (by omega) (by omega)).mp hc
      refine sp_append v3 hN ?_
      refine m_go hM (fun VM1 hM1 z1 => sp_isOne hM1.2.2.2.1 n2 (by
        rw [hj1]
        refine ⟨fun _ => sp_isIn ⟨fun q => absurd q g, fun _ => sp_isIn ⟨fun _ => ⟨fun _ => sp_addM hM1 hN (fun AM' VM' m _ z => ?_), fun q => ?_⟩, fun q => absurd q f⟩⟩, fun q => absurd q (by decide)⟩
        · rw [ew, es] at m ⊢
          exact e_ok (N := nx N) (z.trans z1) (by rw [m.2.2.2.2.1]; exact nI_pred _) (hI.add (z := 0) (y := 0) hN hj hw1 hw2 hs1 hs2 (Or.inl rfl) (by omega)) m h4
        · rw [hM1.2.2.2.2.1] at q
          have := (nI_eq (b := 150) (by omega) (by omega)).mp q
          omega))
    · rw [v3] at hc
      have hc : ¬ N 3 < 150 := fun w => hc ((nI_ltI (b := 150) (by omega) (by omega)).mpr w)
      exact m_go hM (fun VM1 hM1 z1 => sp_isOne hM1.2.2.2.1 n2 (by
        rw [hj1]
        refine ⟨fun _ => sp_isIn ⟨fun q => absurd q g, fun _ => sp_isIn ⟨fun _ => ⟨fun q => ?_, fun _ => sp_fail (e_bad (by decide) hI hM1 h4)⟩, fun q => absurd q f⟩⟩, fun q => absurd q (by decide)⟩
        rw [hM1.2.2.2.2.1] at q
        exact absurd ((nI_eq (b := 150) (by omega) (by omega)).mpr (by omega)) q))
    · exact m_go hM (fun VM1 hM1 z1 => sp_isOne hM1.2.2.2.1 n2 (by rw [hj1]; exact ⟨fun _ => sp_isIn ⟨fun q => absurd q g, fun _ => sp_isIn ⟨fun q => absurd f q, fun _ => sp_fail (e_bad (by decide) hI hM1 h4)⟩⟩, fun q => absurd q (by decide)⟩))
end CALLS
