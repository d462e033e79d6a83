/-! THE CALLS: barnacles -/
theorem nan_cmp {b : UInt64} (h : isNaN64 b = true) : FP.dcmp b b = none := by
  have h1 := isNaN64_iff.mp h
  have h2 : b.toNat &&& 0x7fffffffffffffff = b.toNat % 2 ^ 63 := Nat.and_two_pow_sub_one_eq_mod _ 63
  rw [h2] at h1
  have hd : FP.Core.decode FP.Core.b64 b.toNat = .nan := by
    have hE : FP.Core.fieldE FP.Core.b64 b.toNat = FP.Core.b64.exps - 1 := by
      show b.toNat / 2 ^ 52 % 2 ^ 11 = 2 ^ 11 - 1
      omega
    have hT : ¬ FP.Core.fieldT FP.Core.b64 b.toNat = 0 := by
      show ¬ b.toNat % 2 ^ 52 = 0
      omega
    unfold FP.Core.decode
    rw [if_pos hE, if_neg hT]
  show FP.Core.order (FP.Core.decode FP.Core.b64 b.toNat) (FP.Core.decode FP.Core.b64 b.toNat) = none
  rw [hd]; rfl
theorem nan_cmpD {b : UInt64} (h : isNaN64 b = true) : ¬ cmpD b b = 0 := by
  unfold cmpD
  rw [nan_cmp h]
  decide
theorem alike_end {p q v : UInt64} (hp : alike64 p v = true) (hq : alike64 q v = true) : cmpD p q = 0 ∨ (¬ cmpD p p = 0 ∧ ¬ cmpD q q = 0) := by
  unfold alike64 at hp hq
  rw [Bool.or_eq_true, decide_eq_true_eq, Bool.and_eq_true] at hp hq
  rcases hp with hp | ⟨hp, hv⟩ <;> rcases hq with hq | ⟨hq, hv2⟩
  · rw [hp, hq]
    by_cases c : cmpD v v = 0
    · exact Or.inl c
    · exact Or.inr ⟨c, c⟩
  · rw [hp]; exact Or.inr ⟨nan_cmpD hv2, nan_cmpD hq⟩
  · rw [hq]; exact Or.inr ⟨nan_cmpD hp, nan_cmpD hv⟩
  · exact Or.inr ⟨nan_cmpD hp, nan_cmpD hq⟩
theorem sumI_add (f g : Nat → Int32) (n : Nat) : sumI (fun l => f l + g l) n = sumI f n + sumI g n := by
  induction n with
  | zero => rfl
  | succ n ih =>
    show sumI (fun l => f l + g l) n + (f n + g n) = sumI f n + f n + (sumI g n + g n)
    rw [ih, Int32.add_assoc, Int32.add_assoc, ← Int32.add_assoc (sumI g n) (f n), Int32.add_comm (sumI g n) (f n), Int32.add_assoc (f n)]
theorem sumI_0 {f : Nat → Int32} {n : Nat} (h : ∀ j, j < n → f j = 0) : sumI f n = 0 := by
  induction n with
  | zero => rfl
  | succ n ih =>
    show sumI f n + f n = 0
    rw [ih (fun j hj => h j (by omega)), h n (by omega)]; rfl
theorem sumI_swap (F : Nat → Nat → Int32) (n m : Nat) : sumI (fun b => sumI (fun l => F b l) n) m = sumI (fun l => sumI (fun b => F b l) m) n := by
  induction m with
  | zero => exact (sumI_0 (fun _ _ => rfl)).symm
  | succ m ih =>
    show sumI (fun b => sumI (fun l => F b l) n) m + sumI (fun l => F m l) n = sumI (fun l => sumI (fun b => F b l) m + F m l) n
    rw [ih, sumI_add]
theorem sumI_one {v : Int32} {c m : Nat} (hm : m < 2 ^ 31) (hc : c < m) : sumI (fun b => if nI c = nI b then v else 0) m = v := by
  have key : ∀ k, k ≤ m → sumI (fun b => if nI c = nI b then v else 0) k = if c < k then v else 0 := by
    intro k
    induction k with
    | zero => intro _; rw [if_neg (by omega)]; rfl
    | succ k ih =>
      intro hk
      show sumI (fun b => if nI c = nI b then v else 0) k + (if nI c = nI k then v else 0) = _
      rw [ih (by omega)]
      by_cases e : c = k
      · rw [if_neg (by omega), if_pos (by rw [e]), if_pos (by omega), Int32.zero_add]
      · rw [if_neg (c := nI c = nI k) (fun w => e ((nI_eq (by omega) (by omega)).mp w)), Int32.add_zero]
        by_cases q : c < k
        · rw [if_pos q, if_pos (by omega)]
        · rw [if_neg q, if_neg (by omega)]
  rw [key m (Nat.le_refl _), if_pos hc]
theorem grow_eq {N : Nat → Nat} {A : SA} {V : SV} (hI : IV N A V) : sumI (fun b => sumI (fun l => if A 12 l = 1 ∧ A 14 l = nI b then A 13 l else 0) (N 3)) (N 1) = sumI (fun l => if A 12 l = 1 then A 13 l else 0) (N 3) := by
  have n1 := hI.n1
  rw [sumI_swap]
  refine sumI_congr (fun l hl => ?_)
  rcases (hI.2.2.2 l hl).2.2.2.2.2.1 with ⟨s1, b, hb, a14⟩ | ⟨s1, _, _⟩
  · rw [if_pos s1, a14]
    refine Eq.trans (sumI_congr (fun j hj => ?_)) (sumI_one (v := A 13 l) (c := b) (m := N 1) (by omega) hb)
    by_cases q : nI b = nI j
    · rw [if_pos ⟨s1, q⟩, if_pos q]
    · rw [if_neg (fun w => q w.2), if_neg q]
  · rw [if_neg s1]
    exact sumI_0 (fun j _ => if_neg (fun w => s1 w.1))
section CALLS
variable {t : Nat} {N : Nat → Nat} {A : SA} {V : SV} {A2 : SA} {V2 : SV} {AM : SA} {VM : SV} {o : Nat → Int64} {a1 a2 a3 : Int32}
theorem sp_barnM {Q : UInt64 → SA → SV → Prop} (hI : IV N A V) (hM : MR N A AM VM) (h : ∀ VM1, MR N A AM VM1 → ((¬ nI (cnt (fun l => decide (A 12 l = 1)) (N 3)) = 0 → ∀ r : UInt64, alike64 r (FP.ddiv (FP.i2d (sumI (fun l => if A 12 l = 1 then A 13 l else 0) (N 3))) (FP.i2d (nI (cnt (fun l => decide (A 12 l = 1)) (N 3))))) = true → Q r AM VM1) ∧ (nI (cnt (fun l => decide (A 12 l = 1)) (N 3)) = 0 → Q FP.dconst0 AM VM1))) : wpX6_barnacles AM VM Q := by
  have n1 := hI.n1
  refine m_go hM (fun VM1 hM1 z1 => ⟨N 1 - 0 + 1, ?_⟩)
  refine up_loop (P := fun f j => wl_X6_barnacles_9 Q f AM VM1 (sumI (fun b => sumI (fun l => if A 12 l = 1 ∧ A 14 l = nI b then A 13 l else 0) (N 3)) j) (nI j)) (fun f => ?_) (fun f j hj ih => ?_) 0 (Nat.zero_le _)
  · refine ⟨fun _ => sp_many hM1.2.2.2.2.1 hI.n3 ?_, fun q => absurd ?_ q⟩
    · rw [hM1.cn, grow_eq hI]; exact h VM1 hM1
    · rw [hM1.2.2.1]; exact Int32.le_refl _
  · refine ⟨fun q => ?_, fun _ => sp_sumOf0 hM1.2.2.2.2.1 hI.n3 ?_⟩
    · rw [hM1.2.2.1] at q
      have := (nI_leI (by omega) (by omega)).mp q
      omega
    · have es : sumI (fun l => if AM 3 (9 * l + 3) = 1 ∧ AM 3 (9 * l + 5) = nI j then AM 3 (9 * l + 4) else 0) (N 3) = sumI (fun l => if A 12 l = 1 ∧ A 14 l = nI j then A 13 l else 0) (N 3) := sumI_congr (fun l hl => by
        rw [hM1.row (k := 3) hl (by omega), hM1.row (k := 5) hl (by omega), hM1.row (k := 4) hl (by omega)])
      rw [es, nI_1]
      exact ih
theorem st_barnacles (hI : IV N A V) (hM : MR N A AM VM) (h4 : N 4 ≤ 200 * t) : LC_barnacles (INV t) A V A2 V2 o AM VM a1 a2 a3 := by
  have n3 := hI.n3
  unfold LC_barnacles wpX5_barnacles wb_X5_barnacles_0
  refine sp_inState (hI.v 3 (by omega)) n3 ⟨fun c => sp_growthInBins (hI.v 3 (by omega)) n3 (fun p hp => sp_barnM hI hM (fun VM1 m => ⟨fun _ q hq => ⟨alike_end hp hq, N, hI, m, h4⟩, fun z => ?_⟩)), fun c => sp_barnM hI hM (fun VM1 m => ⟨fun nz => ?_, fun _ => ⟨alike_end (alike64_refl _) (alike64_refl _), N, hI, m, h4⟩⟩)⟩
  · rw [z] at c
    exact absurd c (by decide)
  · refine absurd ?_ c
    have hc := cnt_le (fun l => decide (A 12 l = 1)) (N 3)
    refine (nI_leI (a := 1) (by omega) (by omega)).mpr ?_
    rcases Nat.eq_zero_or_pos (cnt (fun l => decide (A 12 l = 1)) (N 3)) with e | e
    · rw [e] at nz; exact absurd rfl nz
    · exact e
end CALLS
