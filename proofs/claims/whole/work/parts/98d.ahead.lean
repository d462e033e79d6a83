/-! AHEAD on the reference's side -/
theorem MR.rows {N : Nat → Nat} {A AM BM : SA} {VM : SV} (h : MR N A AM VM) (e : ∀ q j, q < 4 → BM q j = AM q j) : MR N A BM VM := by
  obtain ⟨h1, h2, h3, h4, h5, h6, h7, h8, h9, h10, h11⟩ := h
  exact ⟨h1, h2, h3, h4, h5, h6, h7, fun j hj => by rw [e 0 j (by omega)]; exact h8 j hj, fun b hb => ⟨by rw [e 1 _ (by omega)]; exact (h9 b hb).1, by rw [e 1 _ (by omega)]; exact (h9 b hb).2⟩, fun o k ho hk => by rw [e 2 _ (by omega)]; exact h10 o k ho hk, fun l k hl hk => by rw [e 3 _ (by omega)]; exact h11 l k hl hk⟩
theorem MR.row {N : Nat → Nat} {A AM : SA} {VM : SV} (h : MR N A AM VM) {l k : Nat} (hl : l < N 3) (hk : k < 9) : AM 3 (9 * l + k) = A (9 + k) l := h.2.2.2.2.2.2.2.2.2.2 l k hl hk
theorem MR.dro {N : Nat → Nat} {A AM : SA} {VM : SV} (h : MR N A AM VM) {o k : Nat} (ho : o < N 2) (hk : k < 5) : AM 2 (5 * o + k) = A (4 + k) o := h.2.2.2.2.2.2.2.2.2.1 o k ho hk
theorem MR.bn {N : Nat → Nat} {A AM : SA} {VM : SV} (h : MR N A AM VM) {b : Nat} (hb : b < N 1) : AM 1 (2 * b) = A 1 b ∧ AM 1 (2 * b + 1) = A 2 b := h.2.2.2.2.2.2.2.2.1 b hb
theorem MR.td {N : Nat → Nat} {A AM : SA} {VM : SV} (h : MR N A AM VM) {j : Nat} (hj : j < N 0) : AM 0 j = A 0 j := h.2.2.2.2.2.2.2.1 j hj
theorem MR.st {N : Nat → Nat} {A AM : SA} {VM : SV} (h : MR N A AM VM) {l : Nat} (hl : l < N 3) : AM 3 (9 * l + 3) = A 12 l := h.row (k := 3) hl (by omega)
theorem MR.cn {N : Nat → Nat} {A AM : SA} {VM : SV} {x : Int32} (h : MR N A AM VM) : cnt (fun l => decide (AM 3 (9 * l + 3) = x)) (N 3) = cnt (fun l => decide (A 12 l = x)) (N 3) :=
  cnt_congr (fun l hl => by rw [h.st hl])
theorem IV.n3 {N : Nat → Nat} {A : SA} {V : SV} (h : IV N A V) : N 3 ≤ 150 := h.1.2.2.2.2.2.1
theorem IV.n2 {N : Nat → Nat} {A : SA} {V : SV} (h : IV N A V) : N 2 ≤ 16 := h.1.2.2.2.2.1
theorem IV.n1 {N : Nat → Nat} {A : SA} {V : SV} (h : IV N A V) : N 1 ≤ 10 := h.1.2.2.2.1
theorem IV.v {N : Nat → Nat} {A : SA} {V : SV} (h : IV N A V) (k : Nat) (hk : k < 7) : V k = nI (N k) := h.1.1 k hk
theorem sp_ahead {N : Nat → Nat} {A B : SA} {V' : SV} {AM : SA} {VM : SV} {k : Nat} {x2 x3 : Int32} {Q : Int32 → SA → SV → Prop} (hM : MR N A AM VM) (hI : IV N B V') (hAG : AG N A B) (hk : k ≤ 200) (h4 : N 4 + k ≤ 2 ^ 20)
    (h3 : (x3 = -1 ∧ ∀ AM' VM', MR N A AM' VM' → VM' 0 = VM 0 → Q (nI (cnt (fun l => decide ((hsF B N k).1 12 l = x2)) ((hsF B N k).2 3))) AM' VM') ∨ (∃ l, l < N 3 ∧ x3 = nI l ∧ ∀ AM' VM', MR N A AM' VM' → VM' 0 = VM 0 → Q ((hsF B N k).1 12 l) AM' VM')) : wpX6_ahead ((hsF B N k).2 3 - N 3) AM VM (nI k) x2 x3 Q := by
  obtain ⟨VF, iF⟩ := hs_IV hI k h4
  have n3 : (hsF B N k).2 3 ≤ 150 := iF.n3
  have n30 : N 3 ≤ (hsF B N k).2 3 := by
    have := hs_N3 (A := B) (N := N) 0 k
    rw [Nat.zero_add] at this
    exact this
  unfold wpX6_ahead wb_X6_ahead_0
  refine ⟨by decide, by decide, by decide, by decide, by decide, fun A1 a1 => ⟨by decide, by decide, by decide, by decide, by decide, fun A2 a2 => ?_⟩⟩
  have r : ∀ q j, q < 4 → A2 q j = AM q j := fun q j hq => by rw [a2, ua_at, if_neg (by omega), a1, ua_at, if_neg (by omega)]
  have e4 : ∀ j, j < 80 → A2 4 j = AM 2 j := fun j hj => by
    rw [a2, ua_at, if_neg (by omega), a1, ua_at, if_pos rfl]
    show va_cpy (AM 2) (AM 4) 0 0 80 j = AM 2 j
    rw [pk_cpy_in (by omega) (by omega), Nat.zero_add, Nat.sub_zero]
  have e5 : ∀ j, j < 1350 → A2 5 j = AM 3 j := fun j hj => by
    rw [a2, ua_at, if_pos rfl]
    show va_cpy (A1 3) (A1 5) 0 0 1350 j = AM 3 j
    rw [pk_cpy_in (by omega) (by omega), Nat.zero_add, Nat.sub_zero, a1, ua_at, if_neg (by omega)]
  have m2 : MR N B A2 VM := (hM.rows r).ag hAG
  rw [hM.1, hM.2.2.2.2.1]
  refine sp_aheadLoop hI m2 hk h4 (fun AM3 VM3 r1 r2 r3 => ?_)
  have bk : ∀ (g k0 : Nat) (r : Int32), (∀ AM' VM', MR N A AM' VM' → VM' 0 = VM 0 → Q r AM' VM') → wb_X6_ahead_86 Q g k0 AM3 VM3 (nI (N 4)) (nI (N 3)) r := fun g k0 r h =>
    sp_back (AM1 := AM) hM hI.n2 hI.n3 hAG r1 (fun j hj => by rw [r2 4 (by omega) (by omega)]; exact e4 j hj) (fun j hj => by rw [r2 5 (by omega) (by omega)]; exact e5 j hj) (fun AM' VM' m v => h AM' VM' m (v.trans r3))
  rcases h3 with ⟨hx, h⟩ | ⟨l, hl, hx, h⟩
  · refine ⟨fun hc => absurd hx hc, fun _ => sp_many r1.2.2.2.2.1 n3 (bk _ _ _ ?_)⟩
    rw [r1.cn]; exact h
  · refine ⟨fun _ => ?_, fun hc => absurd (hx.symm.trans hc) (nI_m1 (by omega))⟩
    rw [hx]
    refine sp_get (k := 3) (by omega) (by omega) (bk _ _ _ ?_)
    rw [r1.st (by omega)]; exact h
