/-! THE CALLS: pass, foresee, fate, reaches -/
theorem sp_fore54 {N : Nat → Nat} {A B : SA} {V' : SV} {AM : SA} {VM : SV} {k : Nat} {x : Int32} {Q : Int32 → SA → SV → Prop} (hM : MR N A AM VM) (hI : IV N B V') (hAG : AG N A B) (hk : k ≤ 200) (h4 : N 4 + k ≤ 2 ^ 20) (hn : N 3 ≤ 150)
    (h : ∀ AM' VM', MR N A AM' VM' → VM' 0 = VM 0 → Q (nI (cnt (fun l => decide ((hsF B N k).1 12 l = x)) ((hsF B N k).2 3)) - nI (cnt (fun l => decide (A 12 l = x)) (N 3))) AM' VM') : wb_X6_foresee_54 Q ((hsF B N k).2 3 - N 3) 0 AM VM (nI k) x := by
  unfold wb_X6_foresee_54
  refine ⟨(hsF B N k).2 3 - N 3, by omega, sp_ahead hM hI hAG hk h4 (Or.inl ⟨rfl, fun AM' VM' m z => sp_many m.2.2.2.2.1 hn ?_⟩)⟩
  rw [m.cn]; exact h AM' VM' m z
theorem sp_fore77 {N NF : Nat → Nat} {A B : SA} {V VF : SV} {x : Int32} {Q : Int32 → SA → SV → SA → SV → Prop} {QX : String → SA → SV → SA → SV → Prop} (hB : IV NF B VF) (hI : IV N A V) (h : Q (nI (cnt (fun l => decide (B 12 l = x)) (NF 3)) - nI (cnt (fun l => decide (A 12 l = x)) (N 3))) A V B VF) : wb_X5_foresee_77 Q QX A V B VF x := by
  unfold wb_X5_foresee_77
  exact sp_inState (hB.v 3 (by omega)) hB.n3 (sp_inState (hI.v 3 (by omega)) hI.n3 h)
/-- the search for the hour: c i, if the water holds it in the hour h0 + i -/
def rch (c : Nat → Bool) (h0 : Nat) : Nat → Nat → Nat → Int32
  | 0, _, _ => -1
  | f + 1, i, h => if c i = true then (if h + 1 = 3 then nI (h0 + i) else rch c h0 f (i + 1) (h + 1)) else rch c h0 f (i + 1) 0
def rchC (N : Nat → Nat) (A : SA) (o b i : Nat) : Bool := decide (¬ A 0 ((N 4 + i) % N 0) ≤ A 1 b ∧ ¬ A 0 ((N 4 + i) % N 0) < A 4 o)
theorem sp_reachC {N : Nat → Nat} {A : SA} {V : SV} {o b : Nat} {Q : Int32 → SA → SV → Prop} (hI : IV N A V) (hb : b < N 1) (h6 : N 4 + 200 < 2 ^ 31) : ∀ f i h, i + f = 200 → h ≤ i → Q (rch (rchC N A o b) (N 4) f i h) A V → wl_X3_hourOfReach_5 Q (f + 1) A V (A 4 o) (nI b) (nI h) (nI i) := by
  intro f
  induction f with
  | zero =>
    intro i h hi hh hq
    exact ⟨fun _ => hq, fun q => absurd ((nI_leI (a := 200) (by omega) (by omega)).mpr (by omega)) q⟩
  | succ f ih =>
    intro i h hi hh hq
    rw [rch] at hq
    refine ⟨fun q => ?_, fun _ => ?_⟩
    · have := (nI_leI (a := 200) (by omega) (by omega)).mp q
      omega
    · rw [hI.v 4 (by omega), nI_add]
      refine sp_heightIn (hI.v 0 (by omega)) hI.1.2.1 hI.1.2.2.1 (by omega) (sp_isUnder (hI.v 1 (by omega)) hI.n1 hb ?_)
      by_cases u : A 0 ((N 4 + i) % N 0) ≤ A 1 b
      · rw [if_neg (by unfold rchC; rw [decide_eq_true_eq]; exact fun w => w.1 u)] at hq
        rw [if_pos u]
        refine ⟨fun _ => ⟨fun _ => ?_, fun q => absurd q (by decide)⟩, fun q => absurd rfl q⟩
        rw [nI_1]
        exact ih (i + 1) 0 (by omega) (by omega) hq
      · rw [if_neg u]
        refine ⟨fun q => absurd q (by decide), fun _ => ⟨fun lt => ⟨fun _ => ?_, fun q => absurd q (by decide)⟩, fun lt => ?_⟩⟩
        · rw [if_neg (by unfold rchC; rw [decide_eq_true_eq]; exact fun w => w.2 lt)] at hq
          rw [nI_1]
          exact ih (i + 1) 0 (by omega) (by omega) hq
        · rw [if_pos (by unfold rchC; rw [decide_eq_true_eq]; exact ⟨u, lt⟩)] at hq
          rw [nI_1]
          by_cases q3 : h + 1 = 3
          · rw [if_pos q3] at hq
            refine ⟨fun w => absurd (by rw [q3]; rfl) w, fun _ => ?_⟩
            rw [hI.v 4 (by omega), nI_add]
            exact hq
          · rw [if_neg q3] at hq
            refine ⟨fun _ => ?_, fun w => absurd ((nI_eq (b := 3) (by omega) (by omega)).mp w) q3⟩
            rw [nI_1]
            exact ih (i + 1) (h + 1) (by omega) (by omega) hq
theorem sp_reachM {N : Nat → Nat} {A : SA} {V : SV} {AM : SA} {VM : SV} {o b : Nat} {Q : Int32 → SA → SV → Prop} (hI : IV N A V) (hM : MR N A AM VM) (ho : o < N 2) (hb : b < N 1) (h6 : N 4 + 200 < 2 ^ 31) : ∀ f i h, i + f = 200 → h ≤ i → Q (rch (rchC N A o b) (N 4) f i h) AM VM → wl_X6_reaches_41 Q (f + 1) AM VM (nI o) (nI b) (nI h) (nI (N 4 + i)) := by
  have n1 := hI.n1
  have n2 := hI.n2
  have e200 : VM 1 + (200 : Int32) = nI (N 4 + 200) := by rw [hM.1]; exact nI_add _ 200
  have hm : ∀ i, (N 4 + i) % N 0 < N 0 := fun i => Nat.mod_lt _ hI.1.2.1
  intro f
  induction f with
  | zero =>
    intro i h hi hh hq
    refine ⟨fun _ => hq, fun q => absurd ?_ q⟩
    rw [e200]
    exact (nI_leI (by omega) (by omega)).mpr (by omega)
  | succ f ih =>
    intro i h hi hh hq
    rw [rch] at hq
    refine ⟨fun q => ?_, fun _ => ?_⟩
    · rw [e200] at q
      have := (nI_leI (by omega) (by omega)).mp q
      omega
    · refine sp_tideOf hM.2.1 hI.1.2.1 hI.1.2.2.1 (by omega) (sp_isUnder6 (by omega) ?_)
      rw [hM.td (hm i), (hM.bn hb).1]
      by_cases u : A 0 ((N 4 + i) % N 0) ≤ A 1 b
      · rw [if_neg (by unfold rchC; rw [decide_eq_true_eq]; exact fun w => w.1 u)] at hq
        rw [if_pos u]
        refine ⟨fun _ => ⟨fun _ => ?_, fun q => absurd q (by decide)⟩, fun q => absurd rfl q⟩
        rw [nI_1]
        exact ih (i + 1) 0 (by omega) (by omega) hq
      · rw [if_neg u]
        refine ⟨fun q => absurd q (by decide), fun _ => sp_tideOf hM.2.1 hI.1.2.1 hI.1.2.2.1 (by omega) (sp_one (k := 0) (by omega) (by omega) ?_)⟩
        rw [hM.td (hm i), hM.dro ho (by omega)]
        refine ⟨fun lt => ⟨fun _ => ?_, fun q => absurd q (by decide)⟩, fun lt => ?_⟩
        · rw [if_neg (by unfold rchC; rw [decide_eq_true_eq]; exact fun w => w.2 lt)] at hq
          rw [nI_1]
          exact ih (i + 1) 0 (by omega) (by omega) hq
        · rw [if_pos (by unfold rchC; rw [decide_eq_true_eq]; exact ⟨u, lt⟩)] at hq
          rw [nI_1]
          by_cases q3 : h + 1 = 3
          · rw [if_pos q3] at hq
            exact ⟨fun w => absurd (by rw [q3]; rfl) w, fun _ => hq⟩
          · rw [if_neg q3] at hq
            refine ⟨fun _ => ?_, fun w => absurd ((nI_eq (b := 3) (by omega) (by omega)).mp w) q3⟩
            rw [nI_1]
            exact ih (i + 1) (h + 1) (by omega) (by omega) hq
section CALLS
variable {t : Nat} {N : Nat → Nat} {A : SA} {V : SV} {A2 : SA} {V2 : SV} {AM : SA} {VM : SV} {o : Nat → Int64} {a1 a2 a3 : Int32}
theorem st_pass (hI : IV N A V) (hM : MR N A AM VM) (h4 : N 4 + 200 ≤ 200 * t) (h6 : N 4 + 200 ≤ 2 ^ 20) : LC_pass (INV t) A V A2 V2 o AM VM a1 a2 a3 := by
  unfold LC_pass wpL_pass wpX5_pass wb_X5_pass_0
  refine sp_within ⟨fun g => ?_, fun g => ⟨rfl, 0, by omega, m_go hM (fun VM1 hM1 z1 => sp_isIn ⟨fun q => absurd g q, fun _ => sp_fail (e_bad (by decide) hI hM1 (by omega))⟩)⟩⟩
  obtain ⟨k, hk1, hk, ek⟩ := in_nat (lo := 1) (hi := 200) g (by omega) (by omega)
  rw [ek] at g ⊢
  refine sp_letGoBy hI hk (by omega) (fun V' iF => ?_)
  have e3 := iF.n3
  refine ⟨(hsF A N k).2 3 - N 3, by omega, ?_⟩
  refine m_go hM (fun VM1 hM1 z1 => sp_isIn ⟨fun _ => sp_many hM1.2.2.2.2.1 hI.n3 ?_, fun q => absurd q g⟩)
  refine sp_passLoop hI hM1 hk (by omega) (fun AM' VM' m _ z => sp_many m.2.2.2.2.1 iF.n3 ?_)
  refine e_ok (N := (hsF A N k).2) (z.trans z1) ?_ iF m (by rw [hs_N4]; omega)
  rw [m.cn, hM1.cn]
  show nI (st2 (hsF A N k).1 ((hsF A N k).2 3)) - nI (st2 A (N 3)) = _
  rw [st2_hours, pk_sub (by omega), Nat.add_sub_cancel_left]
theorem st_foresee (hI : IV N A V) (hM : MR N A AM VM) (h4 : N 4 ≤ 200 * t) (h6 : N 4 + 200 ≤ 2 ^ 20) : LC_foresee (INV t) A V A2 V2 o AM VM a1 a2 a3 := by
  unfold LC_foresee wpL_foresee wpX5_foresee wb_X5_foresee_0
  refine sp_within ⟨fun g => sp_within ⟨fun f => ?_, fun f => Or.inr ⟨rfl, 0, by omega, m_go hM (fun VM1 hM1 z1 => sp_isIn ⟨fun _ => sp_isIn ⟨fun q => absurd f q, fun _ => sp_fail (e_bad (by decide) hI hM1 h4)⟩, fun q => absurd q g⟩)⟩⟩, fun g => Or.inl ⟨rfl, 0, by omega, m_go hM (fun VM1 hM1 z1 => sp_isIn ⟨fun q => absurd g q, fun _ => sp_fail (e_bad (by decide) hI hM1 h4)⟩)⟩⟩
  obtain ⟨k, hk1, hk, ek⟩ := in_nat (lo := 1) (hi := 100) g (by omega) (by omega)
  rw [ek] at g ⊢
  refine sp_copy hI (fun V' iB => sp_letGoBy iB (by omega) (by omega) (fun VF iF => ?_))
  have e3 := iF.n3
  have hAG := cpA_ag N A2 A
  refine ⟨fun c0 => ⟨fun c1 => ?_, fun c1 => ?_⟩, fun c0 => ?_⟩
  · exact sp_fore77 iF hI ⟨(hsF (cpA N A2 A) N k).2 3 - N 3, by omega, m_go hM (fun VM1 hM1 z1 => sp_isIn ⟨fun _ => sp_isIn ⟨fun _ => ⟨fun _ => ⟨fun _ => sp_fore54 hM1 iB hAG (by omega) (by omega) hI.n3 (fun AM' VM' m z => e_ok (z.trans z1) rfl hI m h4), fun q => absurd q c1⟩, fun q => absurd q c0⟩, fun q => absurd q f⟩, fun q => absurd q g⟩)⟩
  · exact sp_fore77 iF hI ⟨(hsF (cpA N A2 A) N k).2 3 - N 3, by omega, m_go hM (fun VM1 hM1 z1 => sp_isIn ⟨fun _ => sp_isIn ⟨fun _ => ⟨fun _ => ⟨fun q => absurd c1 q, fun _ => sp_fore54 hM1 iB hAG (by omega) (by omega) hI.n3 (fun AM' VM' m z => e_ok (z.trans z1) rfl hI m h4)⟩, fun q => absurd q c0⟩, fun q => absurd q f⟩, fun q => absurd q g⟩)⟩
  · exact sp_fore77 iF hI ⟨(hsF (cpA N A2 A) N k).2 3 - N 3, by omega, m_go hM (fun VM1 hM1 z1 => sp_isIn ⟨fun _ => sp_isIn ⟨fun _ => ⟨fun q => absurd c0 q, fun _ => sp_fore54 hM1 iB hAG (by omega) (by omega) hI.n3 (fun AM' VM' m z => e_ok (z.trans z1) rfl hI m h4)⟩, fun q => absurd q f⟩, fun q => absurd q g⟩)⟩
theorem st_fate (hI : IV N A V) (hM : MR N A AM VM) (h4 : N 4 ≤ 200 * t) (h6 : N 4 + 200 ≤ 2 ^ 20) : LC_fate (INV t) A V A2 V2 o AM VM a1 a2 a3 := by
  have n3 := hI.n3
  unfold LC_fate wpL_fate wpX5_fate wb_X5_fate_0
  refine sp_has2 ?_
  rw [hI.v 3 (by omega)]
  rcases has_or a1 (n := N 3) (by omega) with h | ⟨l, hl, rfl⟩
  · rw [h]
    exact ⟨fun q => absurd rfl q, fun _ => Or.inl ⟨rfl, 0, by omega, m_go hM (fun VM1 hM1 z1 => sp_isLetter hM1.2.2.2.2.1 n3 (by rw [h]; exact ⟨fun q => absurd rfl q, fun _ => sp_fail (e_bad (by decide) hI hM1 h4)⟩))⟩⟩
  · have hl1 := hasI_t (n := N 3) hl (by omega)
    rw [hl1]
    refine ⟨fun _ => sp_within ⟨fun g => ?_, fun g => Or.inr ⟨rfl, 0, by omega, ?_⟩⟩, fun q => absurd q (by decide)⟩
    · obtain ⟨k, hk1, hk, ek⟩ := in_nat (lo := 1) (hi := 100) g (by omega) (by omega)
      rw [ek] at g ⊢
      refine sp_copy hI (fun V' iB => sp_letGoBy iB (by omega) (by omega) (fun VF iF => ⟨vp_in_nI (by omega) (by omega), ?_⟩))
      have e3 := iF.n3
      rw [nI_clamp (by omega)]
      refine ⟨(hsF (cpA N A2 A) N k).2 3 - N 3, by omega, ?_⟩
      exact m_go hM (fun VM1 hM1 z1 => sp_isLetter hM1.2.2.2.2.1 n3 (by
        rw [hl1]
        refine ⟨fun _ => sp_isIn ⟨fun q => absurd q g, fun _ => ⟨(hsF (cpA N A2 A) N k).2 3 - N 3, by omega, ?_⟩⟩, fun q => absurd q (by decide)⟩
        exact sp_ahead hM1 iB (cpA_ag N A2 A) (by omega) (by omega) (Or.inr ⟨l, hl, rfl, fun AM' VM' m z => e_ok (z.trans z1) rfl hI m h4⟩)))
    · exact m_go hM (fun VM1 hM1 z1 => sp_isLetter hM1.2.2.2.2.1 n3 (by
        rw [hl1]
        exact ⟨fun _ => sp_isIn ⟨fun _ => sp_fail (e_bad (by decide) hI hM1 h4), fun q => absurd g q⟩, fun q => absurd q (by decide)⟩))
theorem st_reaches (hI : IV N A V) (hM : MR N A AM VM) (h4 : N 4 ≤ 200 * t) (h6 : N 4 + 200 ≤ 2 ^ 20) : LC_reaches (INV t) A V A2 V2 o AM VM a1 a2 a3 := by
  have n1 := hI.n1
  have n2 := hI.n2
  unfold LC_reaches wpL_reaches wpX5_reaches wb_X5_reaches_0
  refine sp_has1 ?_
  rw [hI.v 2 (by omega)]
  rcases has_or a1 (n := N 2) (by omega) with h | ⟨w, hw, rfl⟩
  · rw [h]
    exact ⟨fun _ => ⟨rfl, m_go hM (fun VM1 hM1 z1 => sp_isOne hM1.2.2.2.1 n2 (by rw [h]; exact ⟨fun _ => sp_fail (e_bad (by decide) hI hM1 h4), fun q => absurd rfl q⟩))⟩, fun q => absurd rfl q⟩
  · have hw1 := hasI_t (n := N 2) hw (by omega)
    rw [hw1]
    refine ⟨fun q => absurd q (by decide), fun _ => sp_has0 ?_⟩
    rw [hI.v 1 (by omega)]
    rcases has_or a2 (n := N 1) (by omega) with h | ⟨b, hb, rfl⟩
    · rw [h]
      exact ⟨fun q => absurd rfl q, fun _ => ⟨rfl, m_go hM (fun VM1 hM1 z1 => sp_isOne hM1.2.2.2.1 n2 (by
        rw [hw1]
        refine ⟨fun q => absurd q (by decide), fun _ => sp_isIn ?_⟩
        rw [hM1.2.2.1, inI_has a2 (by omega), h]
        exact ⟨fun q => absurd rfl q, fun _ => sp_fail (e_bad (by decide) hI hM1 h4)⟩))⟩⟩
    · have hb1 := hasI_t (n := N 1) hb (by omega)
      rw [hb1]
      refine ⟨fun _ => sp_heightOf (hI.v 2 (by omega)) n2 hw ?_, fun q => absurd q (by decide)⟩
      refine ⟨200 + 1, sp_reachC (o := w) hI hb (by omega) 200 0 0 (by omega) (by omega) ?_⟩
      exact m_go hM (fun VM1 hM1 z1 => sp_isOne hM1.2.2.2.1 n2 (by
        rw [hw1]
        refine ⟨fun q => absurd q (by decide), fun _ => sp_isIn ?_⟩
        rw [hM1.2.2.1, inI_has (nI b) (by omega), hb1, hM1.1]
        refine ⟨fun _ => ⟨200 + 1, sp_reachM (o := w) hI hM1 hw hb (by omega) 200 0 0 (by omega) (by omega) ?_⟩, fun q => absurd q (by decide)⟩
        exact e_ok z1 rfl hI hM1 h4))
end CALLS
