/-! THE SCRAPERS on the reference's side -/
theorem MR.cl {N : Nat → Nat} {A AM : SA} {VM : SV} {m : Nat} (h : MR N A AM VM) : MR N (clF A m) AM VM := h.congr (fun k j _ hk => clF_ne (by omega) m j)
theorem bst_none_ok {ok : Nat → Bool} {bt : Nat → Nat → Bool} {j : Nat} (h : ok j = true) : bst ok bt (j + 1) ≠ none := by
  cases hb : bst ok bt j with
  | none => rw [bst_s1 h hb]; exact fun q => nomatch q
  | some k =>
    cases h3 : bt j k with
    | true => rw [bst_s2 h hb h3]; exact fun q => nomatch q
    | false => rw [bst_s3 h hb h3]; exact fun q => nomatch q
theorem okS_up {t : Int32} {A : SA} {l j : Nat} {v : Int32} (h : j ≠ l) : okS t (up (up A 13 l v) 19 l 1) j = okS t A j := by
  unfold okS
  rw [up_ne (k := 19) (k' := 13) (by omega), up_ne (k := 13) (k' := 13) (by omega), up_ne (k := 19) (k' := 12) (by omega), up_ne (k := 13) (k' := 12) (by omega), up_ne (k := 19) (k' := 19) (by omega), up_ne (k := 13) (k' := 19) (by omega), up_ne (k := 19) (k' := 14) (by omega), up_ne (k := 13) (k' := 14) (by omega), up_ne (k := 19) (k' := 1) (by omega), up_ne (k := 13) (k' := 1) (by omega)]
theorem okS_at {t : Int32} {A : SA} {l : Nat} : okS t (up A 19 l 1) l = false := by
  refine decide_eq_false (fun w => ?_)
  have := w.2.2.1
  rw [up_eq] at this
  exact absurd this (by decide)
theorem sp_scrapeR {N : Nat → Nat} {A : SA} {V : SV} {AM : SA} {VM : SV} {t : Int32} {Q : SA → SV → Prop} (hI : IV N A V) (hM : MR N A AM VM)
    (h : ∀ AM', MR N (scF t (N 3) (clF A (N 3)) (N 5)) AM' VM → (∀ q, 4 ≤ q → q ≠ 6 → AM' q = AM q) → Q AM' VM) : wpX6_scrape AM VM t Q := by
  have hn3 : N 3 ≤ 150 := hI.1.2.2.2.2.2.1
  have hn1 : N 1 ≤ 10 := hI.1.2.2.2.1
  have hn5 : N 5 ≤ 9 := hI.1.2.2.2.2.2.2.2.1
  have hIc : IV N (clF A (N 3)) V := hI.frame (fun k j hk => clF_ne (by omega) _ _)
  obtain ⟨m1, m2, m3, m4, m5, m6, m7, m8, m9, m10, m11⟩ := id hM
  -- the rounds
  have rounds : ∀ AM', MR N (clF A (N 3)) AM' VM → (∀ j, j < N 3 → AM' 6 j = if okS t (clF A (N 3)) j = true then 0 else 1) → (∀ q, 4 ≤ q → q ≠ 6 → AM' q = AM q) → ∃ n61, wl_X6_scrape_61 Q n61 AM' VM 0 := by
    intro AM0 p1 p2 p3
    refine ⟨N 5 - 0 + 1, ?_⟩
    refine up_loop (P := fun f i => ∀ AM', MR N (scF t (N 3) (clF A (N 3)) i) AM' VM → (∀ j, j < N 3 → AM' 6 j = if okS t (scF t (N 3) (clF A (N 3)) i) j = true then 0 else 1) → (∀ q, 4 ≤ q → q ≠ 6 → AM' q = AM q) → wl_X6_scrape_61 Q f AM' VM (nI i)) (fun f => ?_) (fun f i hi ih => ?_) 0 (Nat.zero_le _) AM0 p1 p2 p3
    · intro AM' r1 r2 r3
      exact ⟨fun _ => h AM' r1 r3, fun hc => absurd (by rw [m6]; exact Int32.le_refl _) hc⟩
    · intro AM' r1 r2 r3
      refine ⟨fun hc => ?_, fun _ => ⟨N 3 - 0 + 1, ?_⟩⟩
      · rw [m6, nI_leI (by omega) (by omega)] at hc; omega
      · have e13 : ∀ j, j < N 3 → AM' 3 (9 * j + 4) = scF t (N 3) (clF A (N 3)) i 13 j := fun j hj => r1.2.2.2.2.2.2.2.2.2.2 j 4 hj (by omega)
        refine up_loop (P := fun f2 j => wl_X6_scrape_74 Q (wl_X6_scrape_61 Q f) f2 AM' VM (nI i) (oI (bst (okS t (scF t (N 3) (clF A (N 3)) i)) (btS (scF t (N 3) (clF A (N 3)) i)) j)) (nI j)) (fun f2 => ?_) (fun f2 j hj ih2 => ?_) 0 (Nat.zero_le _)
        · refine ⟨fun _ => ?_, fun hc => absurd (by rw [m5]; exact Int32.le_refl _) hc⟩
          rw [scF] at ih
          unfold scS at ih
          cases hb : bst (okS t (scF t (N 3) (clF A (N 3)) i)) (btS (scF t (N 3) (clF A (N 3)) i)) (N 3) with
          | none =>
            refine ⟨fun w => absurd rfl w, fun _ => h AM' ?_ r3⟩
            have e := scF_none hb (N 5 - i)
            rw [show i + (N 5 - i) = N 5 by omega] at e
            rw [e]; exact r1
          | some l =>
            have hl := (bst_lt hb).1
            rw [hb] at ih
            dsimp only at ih
            rw [show oI (some l) = nI l from rfl]
            refine ⟨fun _ => ⟨vp_in_nI (by omega) (by omega), fun A1 e1 => sp_get (k := 4) (by omega) (by omega) (sp_set (k := 4) (by omega) (by omega) ?_)⟩, fun w => absurd w (nI_m1 (by omega))⟩
            rw [nI_clamp (by omega)] at e1
            have a13 : A1 3 (9 * l + 4) = scF t (N 3) (clF A (N 3)) i 13 l := by rw [e1, up_ne (by omega)]; exact e13 l hl
            rw [a13, nI_1]
            have r4 : MR N (scF t (N 3) (clF A (N 3)) i) A1 VM := by rw [e1]; exact r1.upw (by omega)
            have r5 := MR.upl (k := 4) (l := l) (hv2 (scF t (N 3) (clF A (N 3)) i 13 l)) r4 (by omega)
            refine ih _ (r5.congr (fun k j h1 h2 => up_ne (by omega))) (fun j hj => ?_) (fun q h4 h6 => ?_)
            · rw [up_ne (by omega), e1]
              by_cases w : j = l
              · rw [w, up_eq, okS_at]; rfl
              · rw [up_ne (by omega), okS_up w]; exact r2 j hj
            · rw [up_row (by omega), e1, up_row h6]; exact r3 q h4 h6
          
        · have hin : vp_in (nI j) 150 := vp_in_nI (by omega) (by omega)
          refine ⟨fun hc => ?_, fun _ => ⟨hin, ?_⟩⟩
          · rw [m5, nI_leI (by omega) (by omega)] at hc; omega
          · rw [nI_clamp (by omega), r2 j hj, nI_1]
            cases ho : okS t (scF t (N 3) (clF A (N 3)) i) j with
            | false =>
              rw [bst_s0 ho] at ih2
              exact ⟨fun _ => ih2, fun w => absurd w (by decide)⟩
            | true =>
              rw [if_pos rfl]
              refine ⟨fun w => absurd rfl w, fun _ => ?_⟩
              cases hb : bst (okS t (scF t (N 3) (clF A (N 3)) i)) (btS (scF t (N 3) (clF A (N 3)) i)) j with
              | none =>
                rw [bst_s1 ho hb] at ih2
                exact ⟨fun _ => ih2, fun w => absurd rfl w⟩
              | some k =>
                have hk := (bst_lt hb).1
                rw [show oI (some k) = nI k from rfl]
                refine ⟨fun w => absurd w (nI_m1 (by omega)), fun _ => sp_get (k := 4) (by omega) (by omega) (sp_get (k := 4) (by omega) (by omega) ?_)⟩
                rw [e13 j hj, e13 k (by omega)]
                refine ⟨fun w => ?_, fun w => ?_⟩
                · rw [bst_s3 ho hb (decide_eq_false (fun w2 => w2 w))] at ih2; exact ih2
                · rw [bst_s2 ho hb (decide_eq_true w)] at ih2; exact ih2
  -- who may be scraped
  refine ⟨N 3 - 0 + 1, ?_⟩
  refine up_loop (P := fun f j => ∀ AM', MR N A AM' VM → (∀ i, i < j → AM' 6 i = if okS t (clF A (N 3)) i = true then 0 else 1) → (∀ q, 4 ≤ q → q ≠ 6 → AM' q = AM q) → wl_X6_scrape_2 Q f AM' VM t (nI j)) (fun f => ?_) (fun f j hj ih => ?_) 0 (Nat.zero_le _) AM hM (fun i hi => absurd hi (by omega)) (fun _ _ _ => rfl)
  · intro AM' r1 r2 r3
    exact ⟨fun _ => rounds AM' r1.cl r2 r3, fun hc => absurd (by rw [m5]; exact Int32.le_refl _) hc⟩
  · intro AM' r1 r2 r3
    have wr : ∀ v : Int32, v = (if okS t (clF A (N 3)) j = true then 0 else 1) → wl_X6_scrape_2 Q f (up AM' 6 j v) VM t (nI (j + 1)) := by
      intro v ev
      refine ih _ (r1.upw (by omega)) (fun i hi => ?_) (fun q h4 h6 => by rw [up_row h6]; exact r3 q h4 h6)
      by_cases w : i = j
      · rw [w, up_eq]; exact ev
      · rw [up_ne (by omega)]; exact r2 i (by omega)
    have hin : vp_in (nI j) 150 := vp_in_nI (by omega) (by omega)
    have c19 : clF A (N 3) 19 j = 0 := clF_19 _ _ hj
    have c13 : clF A (N 3) 13 j = A 13 j := clF_ne (by omega) _ _
    have c12 : clF A (N 3) 12 j = A 12 j := clF_ne (by omega) _ _
    have c14 : clF A (N 3) 14 j = A 14 j := clF_ne (by omega) _ _
    have e12 : AM' 3 (9 * j + 3) = A 12 j := r1.2.2.2.2.2.2.2.2.2.2 j 3 hj (by omega)
    have e14 : AM' 3 (9 * j + 5) = A 14 j := r1.2.2.2.2.2.2.2.2.2.2 j 5 hj (by omega)
    have e13 : AM' 3 (9 * j + 4) = A 13 j := r1.2.2.2.2.2.2.2.2.2.2 j 4 hj (by omega)
    refine ⟨fun hc => ?_, fun _ => sp_isS (by omega) ?_⟩
    · rw [m5, nI_leI (by omega) (by omega)] at hc; omega
    · rw [e12, nI_1]
      by_cases q1 : A 12 j = 1
      · rw [if_pos q1]
        refine ⟨fun w => absurd w (by decide), fun _ => sp_get (k := 5) (by omega) (by omega) ?_⟩
        obtain ⟨b, hb, a14⟩ : ∃ b, b < N 1 ∧ A 14 j = nI b := by
          rcases (hI.2.2.2 j hj).2.2.2.2.2.1 with ⟨_, w⟩ | ⟨w, _⟩
          · exact w
          · exact absurd q1 w
        have c1 : clF A (N 3) 1 b = A 1 b := clF_ne (by omega) _ _
        rw [e14, a14]
        refine sp_isUnder6 (by omega) ?_
        rw [(r1.2.2.2.2.2.2.2.2.1 b hb).1]
        by_cases q2 : t ≤ A 1 b
        · rw [if_pos q2]
          refine ⟨fun w => absurd rfl w, fun _ => sp_get (k := 4) (by omega) (by omega) ?_⟩
          rw [e13]
          refine ⟨fun q3 => ⟨hin, fun A1 e1 => ?_⟩, fun q3 => ⟨hin, fun A1 e1 => ?_⟩⟩
          · rw [e1, nI_clamp (by omega)]
            refine wr _ ?_
            rw [if_pos]
            · rfl
            · refine decide_eq_true ?_
              rw [c13, c12, c14, a14, nI_clamp (by omega), c1]
              exact ⟨q3, q1, c19, q2⟩
          · rw [e1, nI_clamp (by omega)]
            refine wr _ ?_
            rw [if_neg]
            · rfl
            · rw [show okS t (clF A (N 3)) j = false from decide_eq_false (fun w => w.1 (by rw [c13]; exact q3))]
              decide
        · rw [if_neg q2]
          refine ⟨fun _ => ⟨hin, fun A1 e1 => ?_⟩, fun w => absurd w (by decide)⟩
          rw [e1, nI_clamp (by omega)]
          refine wr _ ?_
          rw [if_neg]
          · rfl
          · rw [show okS t (clF A (N 3)) j = false from decide_eq_false (fun w => q2 (by have w4 := w.2.2.2; rw [c14, a14, nI_clamp (by omega), c1] at w4; exact w4))]
            decide
      · rw [if_neg q1]
        refine ⟨fun _ => ⟨hin, fun A1 e1 => ?_⟩, fun w => absurd rfl w⟩
        rw [e1, nI_clamp (by omega)]
        refine wr _ ?_
        rw [if_neg]
        · rfl
        · rw [show okS t (clF A (N 3)) j = false from decide_eq_false (fun w => q1 (by rw [← c12]; exact w.2.1))]
          decide
