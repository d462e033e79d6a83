/-! ONE LETTER IN AN HOUR: the reference's side, and the state's invariant -/
theorem up_row {A : SA} {k i q : Nat} {v : Int32} (h : q ≠ k) : up A k i v q = A q := by
  funext j
  exact up_ne (Or.inl h)
