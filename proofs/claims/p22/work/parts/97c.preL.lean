abbrev gLaw : Nat := 40000
abbrev gBld : Nat := 60
abbrev rmL_build : Room := { frames := 8, cells := 60, slots := 9000, locals := 300 }
theorem rgLaw : gLaw ≤ room_1.cells ∧ 150 * gLaw ≤ room_1.slots := ⟨Nat.le_of_ble_eq_true rfl, Nat.le_of_ble_eq_true rfl⟩
theorem rgBld : gBld ≤ rmL_build.cells ∧ 150 * gBld ≤ rmL_build.slots := ⟨Nat.le_of_ble_eq_true rfl, Nat.le_of_ble_eq_true rfl⟩
theorem cgLaw {k : Nat} (h : k ≤ gLaw) : k ≤ room_1.cells := Nat.le_trans h rgLaw.1
theorem sgLaw {k : Nat} (h : k ≤ gLaw) : 150 * k + 0 ≤ room_1.slots := Nat.le_trans (Nat.mul_le_mul_left 150 h) rgLaw.2
theorem cgBld {k : Nat} (h : k ≤ gBld) : k ≤ rmL_build.cells := Nat.le_trans h rgBld.1
theorem sgBld {k : Nat} (h : k ≤ gBld) : 150 * k + 0 ≤ rmL_build.slots := Nat.le_trans (Nat.mul_le_mul_left 150 h) rgBld.2
theorem permB {α : Type} {X a b : List α} {s u v r : α} : ((X ++ [r]) ++ (s :: u :: v :: (a ++ b))).Perm ((u :: (a ++ [r])) ++ (X ++ (s :: v :: b))) := by
  haveI : DecidableEq α := fun a b => Classical.propDecidable (a = b)
  refine List.perm_iff_count.mpr (fun z => ?_)
  simp only [List.count_append, List.count_cons, List.count_nil]
  omega
theorem permD {α : Type} {X a b : List α} {s u v r : α} : ((X ++ [r]) ++ (s :: u :: v :: (a ++ b))).Perm ((v :: (b ++ [r])) ++ (X ++ (s :: u :: a))) := by
  haveI : DecidableEq α := fun a b => Classical.propDecidable (a = b)
  refine List.perm_iff_count.mpr (fun z => ?_)
  simp only [List.count_append, List.count_cons, List.count_nil]
  omega
theorem permB2 {α : Type} {X a b : List α} {s v q : α} : (([q] ++ a) ++ (X ++ (s :: v :: b))).Perm (s :: (X ++ (q :: v :: (a ++ b)))) := by
  haveI : DecidableEq α := fun a b => Classical.propDecidable (a = b)
  refine List.perm_iff_count.mpr (fun z => ?_)
  simp only [List.count_append, List.count_cons, List.count_nil]
  omega
theorem permD2 {α : Type} {X a b : List α} {s u q : α} : (([q] ++ b) ++ (X ++ (s :: u :: a))).Perm (s :: (X ++ (u :: q :: (a ++ b)))) := by
  haveI : DecidableEq α := fun a b => Classical.propDecidable (a = b)
  refine List.perm_iff_count.mpr (fun z => ?_)
  simp only [List.count_append, List.count_cons, List.count_nil]
  omega
theorem permB3 {α : Type} {X a : List α} {s : α} : (s :: (X ++ a)).Perm (X ++ (s :: a)) := List.perm_middle.symm
theorem permD3 {α : Type} {X a : List α} {s : α} : (s :: (X ++ a)).Perm (X ++ (s :: a)) := List.perm_middle.symm
/-- n rows, and what stands first in each -/
def RW (n : Nat) (h : Nat → Int32) (L : ROWS) : Prop := L.length = n ∧ ∀ i q, L[i]? = some q → q.2 0 = h i
theorem RW.add {n : Nat} {h : Nat → Int32} {L : ROWS} {q : Nat} {g : Nat → Int32} (r : RW n h L) : RW (n + 1) (upd h n (g 0)) (L ++ [(q, g)]) := by
  obtain ⟨h1, h2⟩ := r
  refine ⟨by rw [List.length_append, h1]; rfl, fun i z hz => ?_⟩
  unfold upd
  by_cases e : i = n
  · subst e
    rw [← h1, List.getElem?_append_right (Nat.le_refl _), Nat.sub_self] at hz
    cases hz
    rw [if_pos rfl]
  · rw [if_neg e]
    refine h2 i z ?_
    rcases Nat.lt_or_ge i L.length with q1 | q1
    · rw [List.getElem?_append_left q1] at hz; exact hz
    · rw [List.getElem?_append_right q1] at hz
      have := (List.getElem?_eq_some_iff.mp hz).1
      have e2 : [(q, g)].length = 1 := rfl
      omega
section PLW
variable {S : Type} {own C : String} {cc : ByteArray} {nL : Nat} {Ts : List Cond} {D : va_G} {tys : TYS} {p : Program} {l : Launch} {e : Env} {R : Room} {s : State} {m : MethodId} {args : Array Value} {below : List Frame} {meth : Method} {c : Code} {A0 : Nat → Prop} {H : Heap} {locs : List Loc} {cells slots : Nat} {Z : State → Prop} {X SW : va_W} {index pc : Nat} {ls : Array Slot} {lv : List (Nat × Value)} {rest : List Value} {cI cZ cII : ClassId} {sa ta ba da la : Nat} {sc so : Int32} {LB LD : ROWS} {nB nD : Nat} {hB hD : Nat → Int32}
theorem newT {G k0 : Nat} (cx : CX own cc nL Ts D tys p s m args c A0) (harr : (Cond.arrayClass .int).before args s = true) (hw : WS D s A0 (X ++ SW) H locs) (t0 : Nat) (ht : tys[t0]? = some (cI, .int)) {n : Int32} {N' : Nat} (hn : ¬ n < 0) (hN : n.toNatClampNeg = N') (hn2 : N' ≤ 150) (hg : k0 + 1 ≤ G) (hR : G ≤ R.cells ∧ 150 * G ≤ R.slots) (hd : decode cc pc = .ok (.newarray .int, 2))
    (kk : ∀ (q : Nat) (H1 : Heap), WS D s A0 ((X ++ [(q, .inl (cI, N', .inl (fun _ => 0)))]) ++ SW) H1 locs → W p l e R s m args below meth c H1 locs (k0 + 1) (150 * (k0 + 1)) Z (F0 m (pc + 2) ls (.ref q :: rest))) : W p l e R s m args below meth c H locs k0 (150 * k0) Z (F0 m pc ls (.int n :: rest)) := by
  refine newCI (c1 := k0 + 1) (s1 := 150 * k0 + N') cx harr hw t0 ht hn hN (by show N' * 4 ≤ _; omega) (by omega) (by omega) rfl rfl hd (fun q H1 hw => ?_)
  exact W.widen (k := k0 + 1) (n := 150 * (k0 + 1)) (Nat.le_refl _) (by omega) (kk q H1 (hw.sub SUB.sw))
theorem rowB {i : Nat} {q : Nat × (Nat → Int32)} (h : LB[i]? = some q) : (X ++ simW cI cII sa ta ba da la sc so LB LD)[X.length + (i + 3)]? = some (q.1, .inl (cI, 2, .inl q.2)) := app_r (by
  unfold simW
  rw [List.getElem?_cons_succ, List.getElem?_cons_succ, List.getElem?_cons_succ]
  exact app_l (rowsW_at h))
theorem rowD {i : Nat} {q : Nat × (Nat → Int32)} (h : LD[i]? = some q) : (X ++ simW cI cII sa ta ba da la sc so LB LD)[X.length + ((rowsW cI 2 LB).length + i + 3)]? = some (q.1, .inl (cI, 5, .inl q.2)) := app_r (by
  unfold simW
  rw [List.getElem?_cons_succ, List.getElem?_cons_succ, List.getElem?_cons_succ]
  exact app_r (rowsW_at h))
theorem rdB (cx : CX own cc nL Ts D [(cI, .int), (cZ, .boolean), (cII, .array .int)] p s m args c A0) (hw : WS D s A0 (X ++ simW cI cII sa ta ba da la sc so LB LD) H locs) (hr : RW nB hB LB) {i : Int32} (hin : vp_in i nB) (d1 : decode cc pc = .ok (.aaload, 1)) (d2 : decode cc (pc + 1) = .ok (.iconst 0, 1)) (d3 : decode cc (pc + 1 + 1) = .ok (.iaload, 1))
    (kk : W p l e R s m args below meth c H locs cells slots Z (F0 m (pc + 3) ls (.int (hB i.toNatClampNeg) :: rest))) : W p l e R s m args below meth c H locs cells slots Z (F0 m pc ls (.int i :: .ref ba :: rest)) := by
  have hlt : i.toNatClampNeg < LB.length := by rw [hr.1]; exact Nat.not_le.mp fun q => hin (Or.inr q)
  obtain ⟨q, hq⟩ : ∃ q, LB[i.toNatClampNeg]? = some q := ⟨_, List.getElem?_eq_getElem hlt⟩
  refine aldA cx hw _ 2 (app_r (k := 1) rfl) rfl (by rw [hr.1]; exact hin) d1 ?_
  rw [show va_rf (refsL LB i.toNatClampNeg) = .ref q.1 by unfold refsL; rw [hq]; rfl]
  refine lv_iconst (v := (0 : Int32)) cx.1 cx.2.1 d2 (by decide) ?_
  refine alI cx hw _ 0 (rowB hq) rfl (vp_in_iff.mpr (by decide)) d3 ?_
  rw [show q.2 (0 : Int32).toNatClampNeg = hB i.toNatClampNeg from hr.2 _ _ hq]
  exact kk
theorem rdD (cx : CX own cc nL Ts D [(cI, .int), (cZ, .boolean), (cII, .array .int)] p s m args c A0) (hw : WS D s A0 (X ++ simW cI cII sa ta ba da la sc so LB LD) H locs) (hr : RW nD hD LD) {i : Int32} (hin : vp_in i nD) (d1 : decode cc pc = .ok (.aaload, 1)) (d2 : decode cc (pc + 1) = .ok (.iconst 0, 1)) (d3 : decode cc (pc + 1 + 1) = .ok (.iaload, 1))
    (kk : W p l e R s m args below meth c H locs cells slots Z (F0 m (pc + 3) ls (.int (hD i.toNatClampNeg) :: rest))) : W p l e R s m args below meth c H locs cells slots Z (F0 m pc ls (.int i :: .ref da :: rest)) := by
  have hlt : i.toNatClampNeg < LD.length := by rw [hr.1]; exact Nat.not_le.mp fun q => hin (Or.inr q)
  obtain ⟨q, hq⟩ : ∃ q, LD[i.toNatClampNeg]? = some q := ⟨_, List.getElem?_eq_getElem hlt⟩
  refine aldA cx hw _ 2 (app_r (k := 2) rfl) rfl (by rw [hr.1]; exact hin) d1 ?_
  rw [show va_rf (refsL LD i.toNatClampNeg) = .ref q.1 by unfold refsL; rw [hq]; rfl]
  refine lv_iconst (v := (0 : Int32)) cx.1 cx.2.1 d2 (by decide) ?_
  refine alI cx hw _ 0 (rowD hq) rfl (vp_in_iff.mpr (by decide)) d3 ?_
  rw [show q.2 (0 : Int32).toNatClampNeg = hD i.toNatClampNeg from hr.2 _ _ hq]
  exact kk
end PLW
section MRE
variable {D : va_G} {p : Program} {e : Env} {s : State} {m : MethodId} {args : Array Value} {below : List Frame} {meth : Method} {c : Code} {A0 : Nat → Prop} {H : Heap} {locs : List Loc} {k0 : Nat} {Z : State → Prop} {X : va_W} {pidx pc : Nat} {ls : Array Slot} {lv : List (Nat × Value)} {cI cZ cII : ClassId} {sa ta ba da la rq : Nat} {sc so : Int32} {LB LD : ROWS} {g : Nat → Int32}
theorem moreB (l : Launch) (cx : CX RL cL_build 8 wsL_build D [(cI, .int), (cZ, .boolean), (cII, .array .int)] p s m args c A0) (hw : WS D s A0 ((X ++ [(rq, .inl (cI, 2, .inl g))]) ++ simW cI cII sa ta ba da la sc so LB LD) H locs) (hl : lv_has ls 8 lv) (hfa : FA A0 s) (hin : ∀ w ∈ wsX70, w ∈ wsL_build) (hlk : Cond.fieldLink RL pidx "DrownedPostLaw$Sim" "bins" "[[I" ∈ wsL_build) (hn : LB.length ≤ 20) (hg : k0 + 1 ≤ gBld) (d1 : decode cL_build pc = .ok (.invokestatic 42, 3)) (d2 : decode cL_build (pc + 3) = .ok (.putfield pidx, 3))
    (kk : ∀ (q : Nat) (H1 : Heap) (locs1 : List Loc), WS D s A0 ((X ++ []) ++ simW cI cII sa ta q da la sc so (LB ++ [(rq, g)]) LD) H1 locs1 → W p l e rmL_build s m args below meth c H1 locs1 (k0 + 1) (150 * (k0 + 1)) Z (F0 m (pc + 3 + 3) ls [])) : W p l e rmL_build s m args below meth c H locs k0 (150 * k0) Z (F0 m pc ls [.ref rq, .ref ba, .ref sa]) := by
  have hw : WS D s A0 (mW cI cII ba 2 LB rq g ++ (X ++ ((sa, siE ta ba da la sc so) :: (da, arrE cII LD) :: rowsW cI 5 LD))) H locs := hw.sub (SUB.pm (by
    unfold simW mW
    rw [rowsW_app]
    exact permB))
  refine callGr (rest := [.ref sa]) (c1 := k0 + 1) (s1 := 150 * k0 + 100) cx hw hl FA.ok hfa (metX7_more l D cI cII H.size ba rq 2 LB g hn) (fun hts => va_cwS 2 hts gL_build_X7_more rfl rfl rfl (by decide +kernel) ⟨Nat.le_of_ble_eq_true rfl, Nat.le_of_ble_eq_true rfl⟩) SUB.left [0, 2] rfl JN.left rfl rfl (Nat.le_of_ble_eq_true rfl) ⟨by show k0 + 1 ≤ 60; exact hg, by show 150 * k0 + 100 ≤ 9000; have : k0 + 1 ≤ 60 := hg; omega⟩ rfl rfl d1 (fun q H locs _ hw => ?_)
  have hw : WS D s A0 ((mW cI cII ba 2 LB rq g ++ [(q, arrE cII (LB ++ [(rq, g)]))]) ++ (X ++ ((sa, siE ta ba da la sc so) :: (da, arrE cII LD) :: rowsW cI 5 LD))) H locs := hw
  have hw : WS D s A0 (([(q, arrE cII (LB ++ [(rq, g)]))] ++ rowsW cI 2 (LB ++ [(rq, g)])) ++ (X ++ ((sa, siE ta ba da la sc so) :: (da, arrE cII LD) :: rowsW cI 5 LD))) H locs := hw.sub (SUB.appR (SUB.of (fun z hz => by
    rcases List.mem_append.mp hz with h | h
    · exact List.mem_append_right _ h
    · exact List.mem_append_left _ (List.mem_cons_of_mem _ h)) (fun hnd => by
    have h1 := hnd
    unfold mW at h1
    rw [List.map_append, List.map_cons, List.cons_append] at h1
    have h2 := (List.nodup_cons.mp h1).2
    rw [List.map_append]
    exact (List.perm_append_comm.nodup_iff).mp h2)))
  have hw : WS D s A0 ((sa, siE ta ba da la sc so) :: (X ++ ((q, arrE cII (LB ++ [(rq, g)])) :: (da, arrE cII LD) :: (rowsW cI 2 (LB ++ [(rq, g)]) ++ rowsW cI 5 LD)))) H locs := hw.sub (SUB.pm permB2)
  refine puR (C := RX7) (T := TX7) (N := 7) (ci := 6) (ty := tyX7 2) cx hin tyX7 tyX7_ok nmX7 rfl 2 (by decide) rfl hlk hw 0 rfl (tyX7_ok 2 (by decide)) rfl rfl (Nat.le_of_ble_eq_true rfl) (ws1 := (sa, siE ta q da la sc so) :: (X ++ ((q, arrE cII (LB ++ [(rq, g)])) :: (da, arrE cII LD) :: (rowsW cI 2 (LB ++ [(rq, g)]) ++ rowsW cI 5 LD)))) rfl d2 (fun H locs hw => ?_)
  refine W.widen (k := k0 + 1) (n := 150 * (k0 + 1)) (Nat.le_refl _) (by omega) ?_
  exact kk q H locs (hw.sub (SUB.pm (by
    unfold simW
    rw [List.append_nil]
    exact permB3)))
theorem moreD (l : Launch) (cx : CX RL cL_build 8 wsL_build D [(cI, .int), (cZ, .boolean), (cII, .array .int)] p s m args c A0) (hw : WS D s A0 ((X ++ [(rq, .inl (cI, 5, .inl g))]) ++ simW cI cII sa ta ba da la sc so LB LD) H locs) (hl : lv_has ls 8 lv) (hfa : FA A0 s) (hin : ∀ w ∈ wsX70, w ∈ wsL_build) (hlk : Cond.fieldLink RL pidx "DrownedPostLaw$Sim" "drowned" "[[I" ∈ wsL_build) (hn : LD.length ≤ 20) (hg : k0 + 1 ≤ gBld) (d1 : decode cL_build pc = .ok (.invokestatic 42, 3)) (d2 : decode cL_build (pc + 3) = .ok (.putfield pidx, 3))
    (kk : ∀ (q : Nat) (H1 : Heap) (locs1 : List Loc), WS D s A0 ((X ++ []) ++ simW cI cII sa ta ba q la sc so LB (LD ++ [(rq, g)])) H1 locs1 → W p l e rmL_build s m args below meth c H1 locs1 (k0 + 1) (150 * (k0 + 1)) Z (F0 m (pc + 3 + 3) ls [])) : W p l e rmL_build s m args below meth c H locs k0 (150 * k0) Z (F0 m pc ls [.ref rq, .ref da, .ref sa]) := by
  have hw : WS D s A0 (mW cI cII da 5 LD rq g ++ (X ++ ((sa, siE ta ba da la sc so) :: (ba, arrE cII LB) :: rowsW cI 2 LB))) H locs := hw.sub (SUB.pm (by
    unfold simW mW
    rw [rowsW_app]
    exact permD))
  refine callGr (rest := [.ref sa]) (c1 := k0 + 1) (s1 := 150 * k0 + 100) cx hw hl FA.ok hfa (metX7_more l D cI cII H.size da rq 5 LD g hn) (fun hts => va_cwS 2 hts gL_build_X7_more rfl rfl rfl (by decide +kernel) ⟨Nat.le_of_ble_eq_true rfl, Nat.le_of_ble_eq_true rfl⟩) SUB.left [0, 2] rfl JN.left rfl rfl (Nat.le_of_ble_eq_true rfl) ⟨by show k0 + 1 ≤ 60; exact hg, by show 150 * k0 + 100 ≤ 9000; have : k0 + 1 ≤ 60 := hg; omega⟩ rfl rfl d1 (fun q H locs _ hw => ?_)
  have hw : WS D s A0 ((mW cI cII da 5 LD rq g ++ [(q, arrE cII (LD ++ [(rq, g)]))]) ++ (X ++ ((sa, siE ta ba da la sc so) :: (ba, arrE cII LB) :: rowsW cI 2 LB))) H locs := hw
  have hw : WS D s A0 (([(q, arrE cII (LD ++ [(rq, g)]))] ++ rowsW cI 5 (LD ++ [(rq, g)])) ++ (X ++ ((sa, siE ta ba da la sc so) :: (ba, arrE cII LB) :: rowsW cI 2 LB))) H locs := hw.sub (SUB.appR (SUB.of (fun z hz => by
    rcases List.mem_append.mp hz with h | h
    · exact List.mem_append_right _ h
    · exact List.mem_append_left _ (List.mem_cons_of_mem _ h)) (fun hnd => by
    have h1 := hnd
    unfold mW at h1
    rw [List.map_append, List.map_cons, List.cons_append] at h1
    have h2 := (List.nodup_cons.mp h1).2
    rw [List.map_append]
    exact (List.perm_append_comm.nodup_iff).mp h2)))
  have hw : WS D s A0 ((sa, siE ta ba da la sc so) :: (X ++ ((ba, arrE cII LB) :: (q, arrE cII (LD ++ [(rq, g)])) :: (rowsW cI 2 LB ++ rowsW cI 5 (LD ++ [(rq, g)]))))) H locs := hw.sub (SUB.pm permD2)
  refine puR (C := RX7) (T := TX7) (N := 7) (ci := 6) (ty := tyX7 3) cx hin tyX7 tyX7_ok nmX7 rfl 3 (by decide) rfl hlk hw 0 rfl (tyX7_ok 3 (by decide)) rfl rfl (Nat.le_of_ble_eq_true rfl) (ws1 := (sa, siE ta ba q la sc so) :: (X ++ ((ba, arrE cII LB) :: (q, arrE cII (LD ++ [(rq, g)])) :: (rowsW cI 2 LB ++ rowsW cI 5 (LD ++ [(rq, g)]))))) rfl d2 (fun H locs hw => ?_)
  refine W.widen (k := k0 + 1) (n := 150 * (k0 + 1)) (Nat.le_refl _) (by omega) ?_
  exact kk q H locs (hw.sub (SUB.pm (by
    unfold simW
    rw [List.append_nil]
    exact permD3)))
end MRE
