/-! THE START AND THE STEP -/
def N0i : Nat → Nat := fun q => if q = 0 then 12 else if q = 5 then 2 else if q = 6 then 3 else 0
theorem inv_start : INV 0 A0o V0o A0o V0o A0m V0m := by
  have ht : ∀ j : Fin 12, A0m 0 j.1 = A0o 0 j.1 := by decide +kernel
  refine ⟨N0i, ⟨⟨fun k hk => ?_, by decide, by decide, by decide, by decide, by decide, by decide, by decide, by decide⟩, fun b hb => ?_, fun o ho => ?_, fun l hl => ?_⟩, ⟨rfl, rfl, rfl, rfl, rfl, rfl, rfl, fun j hj => ht ⟨j, hj⟩, fun b hb => ?_, fun o k ho _ => ?_, fun l k hl _ => ?_⟩, by decide⟩
  · have h7 : k = 0 ∨ k = 1 ∨ k = 2 ∨ k = 3 ∨ k = 4 ∨ k = 5 ∨ k = 6 := by omega
    rcases h7 with e | e | e | e | e | e | e <;> subst e <;> rfl
  · exact absurd hb (Nat.not_lt_zero b)
  · exact absurd ho (Nat.not_lt_zero o)
  · exact absurd hl (Nat.not_lt_zero l)
  · exact absurd hb (Nat.not_lt_zero b)
  · exact absurd ho (Nat.not_lt_zero o)
  · exact absurd hl (Nat.not_lt_zero l)
theorem inv_step (t : Nat) (ht : t < 512) (A : SA) (V : SV) (A2 : SA) (V2 : SV) (o : Nat → Int64) (AM : SA) (VM : SV) (a0 a1 a2 a3 : Int32) (h : INV t A V A2 V2 AM VM) : LSTEP (INV (t + 1)) A V A2 V2 o AM VM a0 a1 a2 a3 := by
  obtain ⟨N, hI, hM, h4⟩ := h
  have h5 : N 4 + 200 ≤ 200 * (t + 1) := by omega
  have h4 : N 4 ≤ 200 * (t + 1) := by omega
  have h7 : N 4 + 200 ≤ 2 ^ 20 := by omega
  have h6 : N 4 < 2 ^ 31 := by omega
  exact ⟨⟨N, hI, hM, h4⟩, fun _ => st_beginTides hI hM h4, fun _ => st_addTide hI hM h4, fun _ => st_tide hI hM h4, fun _ => st_addBin hI hM h4, fun _ => st_setCrew hI hM h4, fun _ => st_addDrowned hI hM h4, fun _ => st_bring hI hM h4, fun _ => st_takeOut hI hM h4 h6, fun _ => st_letter hI hM h4, fun _ => st_drowned hI hM h4, fun _ => st_bin hI hM h4 h6, fun _ => st_pass hI hM h5 h7, fun _ => st_count hI hM h4, fun _ => st_binFor hI hM h4, fun _ => st_foresee hI hM h4 h7, fun _ => st_fate hI hM h4 h7, fun _ => st_reaches hI hM h4 h7, fun _ => st_barnacles hI hM h4, fun _ => st_digest hI hM h4 h6⟩
theorem whole_start {p : Program} {e : Env} {s : State} {m : MethodId} {below : List Frame} {meth : Method} {c : Code} (l : Launch) (hflags : l.flags = flags0) {b L : Nat} {xs : Nat → Int32} (hL : L ≤ 2048) (C0 : lw_At p s m meth c b L xs) : W p l e room_1 s m #[Value.ref b] below meth c s.heap [] 0 0 (lw_Z below #[Value.ref b] s) (entryFrame m ([Value.ref b] : List Value).toArray 9) :=
  whole_start_open INV inv_start inv_step l hflags hL C0
