/-! THE SCRAPERS on the reference's side -/
theorem bst_none_ok {ok : Nat → Bool} {bt : Nat → Nat → Bool} {j : Nat} (h : ok j = true) : bst ok bt (j + 1) ≠ none := by
  cases hb : bst ok bt j with
  | none => rw [bst_s1 h hb]; exact fun q => nomatch q
  | some k =>
    cases h3 : bt j k with
    | true => rw [bst_s2 h hb h3]; exact fun q => nomatch q
    | false => rw [bst_s3 h hb h3]; exact fun q => nomatch q
theorem okS_up {t : Int32} {A : SA} {l j : Nat} {v : Int32} (h : j ≠ l) : okS t (up (up A 13 l v) 19 l 1) j = okS t A j := by
  unfold okS
  rw [up_ne (k := 19) (k' := 13) (by omega), up_ne (k := 13) (k' := 13) (by omega), up_ne (k := 19) (k' := 12) (by omega), up_ne (k := 13) (k' := 12) (by omega), up_ne (k := 19) (k' := 19) (by omega), up_ne (k := 13) (k' := 19) (by omega), up_ne (k := 19) (k' := 14) (by omega), up_ne (k := 13) (k' := 14) (by omega), up_ne (k := 19) (k' := 1) (by omega), up_ne (k := 13) (k' := 1) (by omega)]
theorem okS_at {t : Int32} {A : SA} {l : Nat} : okS t (up A 19 l 1) l = false := by
  refine decide_eq_false (fun w => ?_)
  have := w.2.2.1
  rw [up_eq] at this
  exact absurd this (by decide)
