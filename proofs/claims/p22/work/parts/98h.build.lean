/-! THE OFFICE THAT THE LAW BUILDS -/
def N0i : Nat → Nat := fun q => if q = 0 then 12 else if q = 5 then 2 else if q = 6 then 3 else 0
theorem iv_start : IV N0i A0o V0o := by
  refine ⟨⟨fun k hk => ?_, by decide, by decide, by decide, by decide, by decide, by decide, by decide, by decide⟩, fun b hb => ?_, fun o ho => ?_, fun l hl => ?_⟩
  · have h7 : k = 0 ∨ k = 1 ∨ k = 2 ∨ k = 3 ∨ k = 4 ∨ k = 5 ∨ k = 6 := by omega
    rcases h7 with e | e | e | e | e | e | e <;> subst e <;> rfl
  · exact absurd hb (Nat.not_lt_zero b)
  · exact absurd ho (Nat.not_lt_zero o)
  · exact absurd hl (Nat.not_lt_zero l)
theorem IV.crew {N : Nat → Nat} {A : SA} {V : SV} {c d : Nat} (hI : IV N A V) (hc : c ≤ 9) (hd : d ≤ 9) : IV (nu (nu N 5 c) 6 d) A (uv (uv V 5 (nI c)) 6 (nI d)) := by
  obtain ⟨hV, p0, p1, p2, p3, p4, p5, p6, p7⟩ := id hI.1
  refine hI.put ⟨fun k hk => ?_, p0, p1, p2, p3, p4, p5, hc, hd⟩ rfl rfl rfl (fun _ _ _ => rfl)
  by_cases q : k = 6
  · subst q; rfl
  · by_cases q5 : k = 5
    · subst q5; rfl
    · rw [uv_at, if_neg q, uv_at, if_neg q5, nu_ne q, nu_ne q5]; exact hV k hk
/-- what holds while it is built -/
def BS (N : Nat → Nat) (A : SA) (V : SV) (nB : Nat) (hB : Nat → Int32) (nD : Nat) (hD : Nat → Int32) : Prop := IV N A V ∧ N 3 = 0 ∧ N 4 = 0 ∧ N 6 = 3 ∧ N 1 = nB ∧ N 2 = nD ∧ (∀ b, b < nB → hB b = A 1 b) ∧ (∀ o, o < nD → hD o = A 4 o ∧ A 7 o = 0 ∧ A 8 o = 0)
theorem BS.gi {N : Nat → Nat} {A : SA} {V : SV} {nB : Nat} {hB : Nat → Int32} {nD : Nat} {hD : Nat → Int32} (h : BS N A V nB hB nD hD) : GI N A := by
  obtain ⟨hI, e3, e4, e6, e1, e2, eB, eD⟩ := h
  refine ⟨fun _ => 0, fun _ => 0, fun o ho => ?_, ?_, ?_⟩
  · obtain ⟨⟨n, hn, a5⟩, _⟩ := hI.2.2.1 o ho
    obtain ⟨_, d7, d8⟩ := eD o (by omega)
    exact ⟨d7, d8, n, a5, hn, fun _ => rfl, fun _ => ⟨Nat.zero_le _, fun _ => (Nat.zero_div n).symm⟩⟩
  · rw [sumN_0, e3]; rfl
  · rw [sumN_0, e3]; rfl
section BLP
variable {cl : Int32 → Int32} {Q : SA → SV → SA → SV → Nat → (Nat → Int32) → Nat → (Nat → Int32) → Prop} {A2 : SA} {V2 : SV}
theorem b247 {k0 nB : Nat} {hB : Nat → Int32} {N : Nat → Nat} {A : SA} {V : SV} {hD : Nat → Int32} {x : Nat} (hx1 : 1 ≤ x) (hx : x ≤ 5) (hk : k0 ≤ 16) (hS : BS N A V nB hB 0 hD) (hQ : ∀ N A V hD, BS N A V nB hB x hD ∨ (∃ c d, c ≤ 9 ∧ d ≤ 9 ∧ IV (nu (nu N 5 c) 6 d) A V) → True) (h : ∀ N A V hD, IV N A V → GI N A → N 3 = 0 → N 4 = 0 → N 1 = nB → N 2 = x → (∀ b, b < nB → hB b = A 1 b) → (∀ o, o < x → hD o = A 4 o) → Q A V A2 V2 nB hB x hD) : ∃ n247, wl_L_build_247 cl Q n247 k0 A V A2 V2 nB hB 0 hD (nI x) 0 := by
  refine ⟨x - 0 + 1, ?_⟩
  refine up_loop (P := fun f j => ∀ k0 N A V hD, k0 ≤ 16 + 2 * j → BS N A V nB hB j hD → wl_L_build_247 cl Q f k0 A V A2 V2 nB hB j hD (nI x) (nI j)) (fun f k0 N A V hD hk hS => ?_) (fun f j hj ih k0 N A V hD hk hS => ?_) 0 (Nat.zero_le _) k0 N A V hD (by omega) hS
  · refine ⟨fun _ => ⟨by decide, sp_below (d := 6) rfl (by omega) (by omega) (fun r hr => ⟨by decide, sp_below (d := 6) rfl (by omega) (by omega) (fun s hs => ?_)⟩)⟩, fun c => absurd (Int32.le_refl _) c⟩
    obtain ⟨hI, e3, e4, e6, e1, e2, eB, eD⟩ := id hS
    have hG := hS.gi
    refine sp5_setCrew hI (by omega) (by omega) ?_
    rw [e6]
    refine ⟨fun w => absurd rfl w, fun _ => h (nu (nu N 5 r) 6 s) A _ hD (hI.crew (by omega) (by omega)) hG e3 e4 e1 e2 eB (fun o ho => (eD o ho).1)⟩
  · obtain ⟨hI, e3, e4, e6, e1, e2, eB, eD⟩ := hS
    refine ⟨fun c => ?_, fun _ => ⟨?_, by omega, sp_below (d := 100) rfl (by omega) (by omega) (fun a ha => ⟨vp_in_nI (n := 0) (by omega) (by omega), fun T1 t1 => sp_below (d := 6) rfl (by omega) (by omega) (fun n hn => ⟨vp_in_nI (n := 1) (by omega) (by omega), fun T2 t2 => sp_below (d := 20) rfl (by omega) (by omega) (fun g hg => ⟨vp_in_nI (n := 2) (by omega) (by omega), fun T3 t3 => ⟨vp_in_nI (n := 3) (by omega) (by omega), fun T4 t4 => ⟨vp_in_nI (n := 4) (by omega) (by omega), fun T5 t5 => ⟨vp_in_nI (n := 0) (by omega) (by omega), vp_in_nI (n := 1) (by omega) (by omega), vp_in_nI (n := 2) (by omega) (by omega), ?_⟩⟩⟩⟩)⟩)⟩)⟩⟩
    · rw [nI_leI (by omega) (by omega)] at c; omega
    · rw [show (9 : Int32) + nI j = nI (9 + j) from nI_add 9 j]; exact nI_nn (by omega)
    have v0 : T5 (0 : Int32).toNatClampNeg = nI a := by rw [t5, pk_un (by decide), t4, pk_un (by decide), t3, pk_un (by decide), t2, pk_un (by decide), t1, pk_us]
    have v1 : T5 (1 : Int32).toNatClampNeg = nI n := by rw [t5, pk_un (by decide), t4, pk_un (by decide), t3, pk_un (by decide), t2, pk_us]
    have v2 : T5 (2 : Int32).toNatClampNeg = nI (1 + g) := by
      rw [t5, pk_un (by decide), t4, pk_un (by decide), t3, pk_us]
      exact nI_add 1 g
    rw [v0, v1, v2]
    have n2 : N 2 < 16 := by omega
    refine sp5_addDrowned hI (by omega) (by omega) (by omega) (by omega) n2 ⟨fun _ => ⟨by omega, by omega, fun hD' eh => ?_⟩, fun w => absurd (by rw [e2]) w⟩
    rw [nI_1]
    obtain ⟨c4, c5, c6, c7, c8⟩ := @adD_at A (N 2) (nI a) (nI n) (nI (1 + g))
    refine ih _ (nu N 2 (N 2 + 1)) _ _ hD' (by omega) ⟨hI.adro n2 (by omega) (by omega) (by omega), e3, e4, e6, e1, by rw [nu_eq, e2], fun b hb => ?_, fun o ho => ?_⟩
    · rw [adD_ne (by omega)]; exact eB b hb
    · rw [eh]
      by_cases e : o = j
      · subst e
        have e5 : T5 0 = nI a := v0
        rw [pk_us, e5, ← e2]
        exact ⟨c4.symm, c7, c8⟩
      · rw [pk_un e, adD_ne (by omega), adD_ne (by omega), adD_ne (by omega)]
        exact eD o (by omega)
theorem b141 {k0 : Nat} {hB : Nat → Int32} {N : Nat → Nat} {A : SA} {V : SV} {hD : Nat → Int32} {x : Nat} (hx1 : 1 ≤ x) (hx : x ≤ 5) (hk : k0 ≤ 6) (hS : BS N A V 0 hB 0 hD) (h : ∀ nB hB nD N A V hD, 1 ≤ nD → nD ≤ 5 → IV N A V → GI N A → N 3 = 0 → N 4 = 0 → N 1 = nB → N 2 = nD → (∀ b, b < nB → hB b = A 1 b) → (∀ o, o < nD → hD o = A 4 o) → Q A V A2 V2 nB hB nD hD) : ∃ n141, wl_L_build_141 cl Q n141 k0 A V A2 V2 0 hB 0 hD (nI x) 0 := by
  refine ⟨x - 0 + 1, ?_⟩
  refine up_loop (P := fun f j => ∀ k0 N A V hB, k0 ≤ 6 + 2 * j → BS N A V j hB 0 hD → wl_L_build_141 cl Q f k0 A V A2 V2 j hB 0 hD (nI x) (nI j)) (fun f k0 N A V hB hk hS => ?_) (fun f j hj ih k0 N A V hB hk hS => ?_) 0 (Nat.zero_le _) k0 N A V hB (by omega) hS
  · refine ⟨fun _ => ⟨by decide, sp_below (d := 5) rfl (by omega) (by omega) (fun r hr => ?_)⟩, fun c => absurd (Int32.le_refl _) c⟩
    rw [show (1 : Int32) + nI r = nI (1 + r) from nI_add 1 r]
    exact b247 (by omega) (by omega) (by omega) hS (fun _ _ _ _ _ => trivial) (fun N A V hD hI hG e3 e4 e1 e2 eB eD => h x hB (1 + r) N A V hD (by omega) (by omega) hI hG e3 e4 e1 e2 eB eD)
  · obtain ⟨hI, e3, e4, e6, e1, e2, eB, eD⟩ := hS
    refine ⟨fun c => ?_, fun _ => ⟨by decide, sp_below (d := 80) rfl (by omega) (by omega) (fun a ha => ⟨by decide, sp_below (d := 8) rfl (by omega) (by omega) (fun r hr => ?_)⟩)⟩⟩
    · rw [nI_leI (by omega) (by omega)] at c; omega
    have n1 : N 1 < 10 := by omega
    rw [show (1 : Int32) + nI r = nI (1 + r) from nI_add 1 r]
    refine sp5_addBin hI (by omega) (by omega) (by omega) n1 ⟨fun _ => ⟨by omega, vp_in_nI (n := 0) (by omega) (by omega), fun T1 t1 => ⟨vp_in_nI (n := 1) (by omega) (by omega), fun T2 t2 => ⟨by omega, by omega, fun hB' eh => ?_⟩⟩⟩, fun w => absurd (by rw [e1]) w⟩
    rw [nI_1]
    have v0 : T2 0 = nI a := by
      show T2 (0 : Int32).toNatClampNeg = nI a
      rw [t2, pk_un (by decide), t1, pk_us]
    refine ih _ (nu N 1 (N 1 + 1)) _ _ hB' (by omega) ⟨hI.abin n1 (by omega) (by omega), e3, e4, e6, by rw [nu_eq, e1], e2, fun b hb => ?_, fun o ho => absurd ho (by omega)⟩
    rw [eh, up_ne (by omega), up_ne (by omega)]
    by_cases e : b = j
    · subst e
      rw [pk_us, v0, ← e1, up_eq]
    · rw [pk_un e, up_ne (by omega)]
      exact eB b (by omega)
theorem b126 {k0 : Nat} {hB : Nat → Int32} {N : Nat → Nat} {A : SA} {V : SV} {hD : Nat → Int32} (hk : k0 ≤ 6) (hS : BS N A V 0 hB 0 hD) (h : ∀ nB hB nD N A V hD, 1 ≤ nD → nD ≤ 5 → IV N A V → GI N A → N 3 = 0 → N 4 = 0 → N 1 = nB → N 2 = nD → (∀ b, b < nB → hB b = A 1 b) → (∀ o, o < nD → hD o = A 4 o) → Q A V A2 V2 nB hB nD hD) : wb_L_build_126 cl Q k0 A V A2 V2 0 hB 0 hD := by
  unfold wb_L_build_126
  refine ⟨by decide, sp_below (d := 5) rfl (by omega) (by omega) (fun r hr => ?_)⟩
  rw [show (1 : Int32) + nI r = nI (1 + r) from nI_add 1 r]
  exact b141 (by omega) (by omega) hk hS h
theorem BS.tid {N : Nat → Nat} {A : SA} {V : SV} {hB hD : Nat → Int32} {n j : Nat} {x : Int32} (h : BS N A V 0 hB 0 hD) (h1 : 1 ≤ n) (h2 : n ≤ 30) : BS (nu N 0 n) (up A 0 j x) (uv V 0 (nI n)) 0 hB 0 hD := by
  obtain ⟨hI, e3, e4, e6, e1, e2, eB, eD⟩ := h
  exact ⟨hI.tid h1 h2, e3, e4, e6, e1, e2, fun b hb => absurd hb (by omega), fun o ho => absurd ho (by omega)⟩
theorem b43 {k0 : Nat} {hB : Nat → Int32} {N : Nat → Nat} {A : SA} {V : SV} {hD TD : Nat → Int32} {x : Nat} (hx : x ≤ 20) (hk : k0 ≤ 6) (hS : BS N A V 0 hB 0 hD) (h12 : N 0 = 12) (h : ∀ nB hB nD N A V hD, 1 ≤ nD → nD ≤ 5 → IV N A V → GI N A → N 3 = 0 → N 4 = 0 → N 1 = nB → N 2 = nD → (∀ b, b < nB → hB b = A 1 b) → (∀ o, o < nD → hD o = A 4 o) → Q A V A2 V2 nB hB nD hD) : ∃ n43, wl_L_build_43 cl Q n43 k0 A V A2 V2 0 hB 0 hD TD (nI x) 0 := by
  refine ⟨x - 0 + 1, ?_⟩
  refine up_loop (P := fun f j => ∀ N A V TD, BS N A V 0 hB 0 hD → ((j = 0 ∧ N 0 = 12) ∨ (0 < j ∧ N 0 = j)) → wl_L_build_43 cl Q f k0 A V A2 V2 0 hB 0 hD TD (nI x) (nI j)) (fun f N A V TD hS _ => ?_) (fun f j hj ih N A V TD hS h0 => ?_) 0 (Nat.zero_le _) N A V TD hS (Or.inl ⟨rfl, h12⟩)
  · exact ⟨fun _ => b126 hk hS h, fun c => absurd (Int32.le_refl _) c⟩
  · have hI := hS.1
    have em : nI j - nI j / (4 : Int32) * (4 : Int32) = nI (j % 4) := pk_rem (d := 4) (by omega) (by omega) (by omega)
    have ea : (1 : Int32) + nI (j % 4) = nI (1 + j % 4) := nI_add 1 _
    have hin : vp_in (nI j) (nI x).toNatClampNeg := by rw [nI_clamp (n := x) (by omega)]; exact vp_in_nI hj (by omega)
    refine ⟨fun c => ?_, fun _ => ⟨by decide, by rw [em, ea]; exact nI_nn (by omega), sp_below (d := 100) rfl (by omega) (by omega) (fun a ha => ⟨hin, fun T t => ?_⟩)⟩⟩
    · rw [nI_leI (by omega) (by omega)] at c; omega
    have v : T (nI j).toNatClampNeg = nI a := by rw [t, pk_us]
    refine ⟨fun w => ?_, fun w => ⟨hin, ?_⟩⟩
    · have hj0 : 0 < j := by
        rcases Nat.eq_zero_or_pos j with e | e
        · rw [e] at w; exact absurd rfl w
        · exact e
      have hN : N 0 = j := by
        rcases h0 with ⟨e, _⟩ | ⟨_, e⟩
        · omega
        · exact e
      unfold wb_L_build_91
      refine ⟨fun c => ?_, fun _ => ⟨hin, ?_⟩⟩
      · rw [show (0 : Int32) = nI 0 from rfl, nI_leI (by omega) (by omega)] at c; omega
      rw [v]
      refine sp5_addTide hI (by omega) (by omega) ⟨fun _ => ?_, fun c => absurd ?_ c⟩
      · rw [nI_1]
        exact ih (nu N 0 (N 0 + 1)) _ _ T (hS.tid (by omega) (by omega)) (Or.inr ⟨by omega, by rw [nu_eq, hN]⟩)
      · rw [hN]; exact (nI_1 j).symm
    · have hj0 : j = 0 := by
        rw [show (0 : Int32) = nI 0 from rfl, nI_eq (by omega) (by omega)] at w; exact w
      have hN : N 0 = 12 := by
        rcases h0 with ⟨_, e⟩ | ⟨e, _⟩
        · exact e
        · omega
      rw [v]
      refine sp5_beginTides hI (by omega) ?_
      rw [hN]
      refine ⟨fun c => absurd rfl c, fun _ => ?_⟩
      unfold wb_L_build_91
      refine ⟨fun _ => ?_, fun c => ?_⟩
      · rw [nI_1]
        exact ih (nu N 0 1) _ _ T (hS.tid (by omega) (by omega)) (Or.inr ⟨by omega, by rw [nu_eq, hj0]⟩)
      · rw [hj0] at c
        exact absurd (Int32.le_refl _) c
end BLP
theorem pure_main (cl : Int32 → Int32) : wb_L_build_8 cl (fun A V A2 V2 nB hB nD hD => wb_L_law_20 cl nB nD hB hD 1000 A V A2 V2 (fun _ _ => 0)) 5 A0o V0o A0o V0o 0 (fun _ => 0) 0 (fun _ => 0) := by
  have hQ : ∀ nB hB nD N A V hD, 1 ≤ nD → nD ≤ 5 → IV N A V → GI N A → N 3 = 0 → N 4 = 0 → N 1 = nB → N 2 = nD → (∀ b, b < nB → hB b = A 1 b) → (∀ o, o < nD → hD o = A 4 o) → (fun A V A2 V2 nB hB nD hD => wb_L_law_20 cl nB nD hB hD 1000 A V A2 V2 (fun _ _ => 0)) A V A0o V0o nB hB nD hD := by
    intro nB hB nD N A V hD h1 h5 hI hG e3 e4 e1 e2 eB eD
    show wb_L_law_20 cl nB nD hB hD 1000 A V A0o V0o (fun _ _ => 0)
    unfold wb_L_law_20
    refine ⟨by omega, fun L1 f1 => ⟨by omega, fun L2 f2 => ⟨by omega, fun L3 f3 => law46 h1 (by omega) ⟨N, hI, hG, e4, e1, e2, by rw [e3]; rfl, eB, eD, fun i hi => absurd hi (by omega), fun i _ => ⟨?_, ?_⟩⟩⟩⟩⟩
    · rw [f3, ua_at, if_neg (by omega), f2, ua_at, if_neg (by omega), f1, ua_at, if_pos rfl]
    · rw [f3, ua_at, if_neg (by omega), f2, ua_at, if_pos rfl]
  have hS : BS N0i A0o V0o 0 (fun _ => 0) 0 (fun _ => 0) := ⟨iv_start, rfl, rfl, rfl, rfl, rfl, fun b hb => absurd hb (by omega), fun o ho => absurd ho (by omega)⟩
  unfold wb_L_build_8
  refine ⟨by decide, sp_below (d := 2) rfl (by omega) (by omega) (fun r hr => ⟨fun _ => b126 (by omega) hS hQ, fun _ => ⟨by decide, sp_below (d := 12) rfl (by omega) (by omega) (fun n hn => ?_)⟩⟩)⟩
  rw [show (2 : Int32) + nI n = nI (2 + n) from nI_add 2 n]
  exact ⟨nI_nn (by omega), by rw [nI_clamp (by omega)]; omega, by omega, b43 (by omega) (by omega) hS rfl hQ⟩
theorem whole_start {p : Program} {e : Env} {s : State} {m : MethodId} {below : List Frame} {meth : Method} {c : Code} (l : Launch) (hflags : l.flags = flags0) {b L : Nat} {xs : Nat → Int32} (hL : L ≤ 260) (C0 : lw_At p s m meth c b L xs) : W p l e room_1 s m #[Value.ref b] below meth c s.heap [] 0 0 (lw_Z below #[Value.ref b] s) (entryFrame m ([Value.ref b] : List Value).toArray 21) :=
  whole_start_open pure_main l hL C0
