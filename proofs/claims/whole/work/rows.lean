section
-- ===== PART A: goes FIRST, ahead of the names: the tables' words, and 'selects' of the private methods out of them =====
/-- a private method of a class that the tables say can be made, by its rows of tables_1 -/
def lw_okq (q : MethodName × Nat) : Prop := (q.1.cls ≠ "java/lang/invoke/MethodHandle" ∧ q.1.cls ≠ "java/lang/invoke/VarHandle") ∧ Cond.instantiable q.1.cls q.2 ∈ tables_1 ∧ Cond.privateMethod q.1 ∈ tables_1 ∧ Cond.instanceMethod q.1 ∈ tables_1
theorem lw_p0 : lw_okq (⟨"java/lang/Throwable", "fillInStackTrace", "(I)Ljava/lang/Throwable;"⟩, 6) := ⟨⟨by decide +kernel, by decide +kernel⟩, List.mem_of_getElem? (i := 329) (by decide +kernel), List.mem_of_getElem? (i := 327) (by decide +kernel), List.mem_of_getElem? (i := 328) (by decide +kernel)⟩
theorem lw_p1 : lw_okq (⟨"DrownedPost$Office", "liveOneHour", "()V"⟩, 10) := ⟨⟨by decide +kernel, by decide +kernel⟩, List.mem_of_getElem? (i := 25) (by decide +kernel), List.mem_of_getElem? (i := 522) (by decide +kernel), List.mem_of_getElem? (i := 523) (by decide +kernel)⟩
theorem lw_p2 : lw_okq (⟨"DrownedPost$Office", "water", "(I)V"⟩, 10) := ⟨⟨by decide +kernel, by decide +kernel⟩, List.mem_of_getElem? (i := 25) (by decide +kernel), List.mem_of_getElem? (i := 526) (by decide +kernel), List.mem_of_getElem? (i := 527) (by decide +kernel)⟩
theorem lw_p3 : lw_okq (⟨"DrownedPost$Office", "wash", "(II)V"⟩, 10) := ⟨⟨by decide +kernel, by decide +kernel⟩, List.mem_of_getElem? (i := 25) (by decide +kernel), List.mem_of_getElem? (i := 530) (by decide +kernel), List.mem_of_getElem? (i := 531) (by decide +kernel)⟩
theorem lw_p4 : lw_okq (⟨"DrownedPost$Office", "writeAnswers", "()V"⟩, 10) := ⟨⟨by decide +kernel, by decide +kernel⟩, List.mem_of_getElem? (i := 25) (by decide +kernel), List.mem_of_getElem? (i := 539) (by decide +kernel), List.mem_of_getElem? (i := 540) (by decide +kernel)⟩
theorem lw_p5 : lw_okq (⟨"DrownedPost$Office", "bringAnswersNearer", "(II)V"⟩, 10) := ⟨⟨by decide +kernel, by decide +kernel⟩, List.mem_of_getElem? (i := 25) (by decide +kernel), List.mem_of_getElem? (i := 552) (by decide +kernel), List.mem_of_getElem? (i := 553) (by decide +kernel)⟩
theorem lw_p6 : lw_okq (⟨"DrownedPost$Office", "scrape", "(I)V"⟩, 10) := ⟨⟨by decide +kernel, by decide +kernel⟩, List.mem_of_getElem? (i := 25) (by decide +kernel), List.mem_of_getElem? (i := 556) (by decide +kernel), List.mem_of_getElem? (i := 557) (by decide +kernel)⟩
theorem lw_p7 : lw_okq (⟨"DrownedPost$Office", "mostOvergrown", "(I)I"⟩, 10) := ⟨⟨by decide +kernel, by decide +kernel⟩, List.mem_of_getElem? (i := 25) (by decide +kernel), List.mem_of_getElem? (i := 560) (by decide +kernel), List.mem_of_getElem? (i := 561) (by decide +kernel)⟩
theorem lw_p8 : lw_okq (⟨"DrownedPost$Office", "canBeScraped", "(II)Z"⟩, 10) := ⟨⟨by decide +kernel, by decide +kernel⟩, List.mem_of_getElem? (i := 25) (by decide +kernel), List.mem_of_getElem? (i := 564) (by decide +kernel), List.mem_of_getElem? (i := 565) (by decide +kernel)⟩
theorem lw_p9 : lw_okq (⟨"DrownedPost$Office", "sort", "()V"⟩, 10) := ⟨⟨by decide +kernel, by decide +kernel⟩, List.mem_of_getElem? (i := 25) (by decide +kernel), List.mem_of_getElem? (i := 571) (by decide +kernel), List.mem_of_getElem? (i := 572) (by decide +kernel)⟩
theorem lw_p10 : lw_okq (⟨"DrownedPost$Bins", "isNearer", "(III)Z"⟩, 4) := ⟨⟨by decide +kernel, by decide +kernel⟩, List.mem_of_getElem? (i := 52) (by decide +kernel), List.mem_of_getElem? (i := 583) (by decide +kernel), List.mem_of_getElem? (i := 584) (by decide +kernel)⟩
theorem lw_p11 : lw_okq (⟨"DrownedPostModel", "fail", "(I)I"⟩, 15) := ⟨⟨by decide +kernel, by decide +kernel⟩, List.mem_of_getElem? (i := 658) (by decide +kernel), List.mem_of_getElem? (i := 724) (by decide +kernel), List.mem_of_getElem? (i := 725) (by decide +kernel)⟩
theorem lw_p12 : lw_okq (⟨"DrownedPostModel", "tideOf", "(I)I"⟩, 15) := ⟨⟨by decide +kernel, by decide +kernel⟩, List.mem_of_getElem? (i := 658) (by decide +kernel), List.mem_of_getElem? (i := 736) (by decide +kernel), List.mem_of_getElem? (i := 737) (by decide +kernel)⟩
theorem lw_p13 : lw_okq (⟨"DrownedPostModel", "isOne", "(I)Z"⟩, 15) := ⟨⟨by decide +kernel, by decide +kernel⟩, List.mem_of_getElem? (i := 658) (by decide +kernel), List.mem_of_getElem? (i := 757) (by decide +kernel), List.mem_of_getElem? (i := 758) (by decide +kernel)⟩
theorem lw_p14 : lw_okq (⟨"DrownedPostModel", "add", "(IIIIII)V"⟩, 15) := ⟨⟨by decide +kernel, by decide +kernel⟩, List.mem_of_getElem? (i := 658) (by decide +kernel), List.mem_of_getElem? (i := 761) (by decide +kernel), List.mem_of_getElem? (i := 762) (by decide +kernel)⟩
theorem lw_p15 : lw_okq (⟨"DrownedPostModel", "isLetter", "(I)Z"⟩, 15) := ⟨⟨by decide +kernel, by decide +kernel⟩, List.mem_of_getElem? (i := 658) (by decide +kernel), List.mem_of_getElem? (i := 769) (by decide +kernel), List.mem_of_getElem? (i := 770) (by decide +kernel)⟩
def lw_privs_1 : List (MethodName × Nat) := [(⟨"java/lang/Throwable", "fillInStackTrace", "(I)Ljava/lang/Throwable;"⟩, 6), (⟨"DrownedPost$Office", "liveOneHour", "()V"⟩, 10), (⟨"DrownedPost$Office", "water", "(I)V"⟩, 10), (⟨"DrownedPost$Office", "wash", "(II)V"⟩, 10), (⟨"DrownedPost$Office", "writeAnswers", "()V"⟩, 10), (⟨"DrownedPost$Office", "bringAnswersNearer", "(II)V"⟩, 10), (⟨"DrownedPost$Office", "scrape", "(I)V"⟩, 10), (⟨"DrownedPost$Office", "mostOvergrown", "(I)I"⟩, 10), (⟨"DrownedPost$Office", "canBeScraped", "(II)Z"⟩, 10), (⟨"DrownedPost$Office", "sort", "()V"⟩, 10), (⟨"DrownedPost$Bins", "isNearer", "(III)Z"⟩, 4), (⟨"DrownedPostModel", "fail", "(I)I"⟩, 15), (⟨"DrownedPostModel", "tideOf", "(I)I"⟩, 15), (⟨"DrownedPostModel", "isOne", "(I)Z"⟩, 15), (⟨"DrownedPostModel", "add", "(IIIIII)V"⟩, 15), (⟨"DrownedPostModel", "isLetter", "(I)Z"⟩, 15)]
theorem lw_r1 : ∀ q ∈ lw_privs_1, lw_okq q := List.forall_mem_cons.mpr ⟨lw_p0, List.forall_mem_cons.mpr ⟨lw_p1, List.forall_mem_cons.mpr ⟨lw_p2, List.forall_mem_cons.mpr ⟨lw_p3, List.forall_mem_cons.mpr ⟨lw_p4, List.forall_mem_cons.mpr ⟨lw_p5, List.forall_mem_cons.mpr ⟨lw_p6, List.forall_mem_cons.mpr ⟨lw_p7, List.forall_mem_cons.mpr ⟨lw_p8, List.forall_mem_cons.mpr ⟨lw_p9, List.forall_mem_cons.mpr ⟨lw_p10, List.forall_mem_cons.mpr ⟨lw_p11, List.forall_mem_cons.mpr ⟨lw_p12, List.forall_mem_cons.mpr ⟨lw_p13, List.forall_mem_cons.mpr ⟨lw_p14, List.forall_mem_cons.mpr ⟨lw_p15, fun _ h => absurd h List.not_mem_nil⟩⟩⟩⟩⟩⟩⟩⟩⟩⟩⟩⟩⟩⟩⟩⟩
theorem lw_p16 : lw_okq (⟨"DrownedPostModel", "isIn", "(II)Z"⟩, 15) := ⟨⟨by decide +kernel, by decide +kernel⟩, List.mem_of_getElem? (i := 658) (by decide +kernel), List.mem_of_getElem? (i := 773) (by decide +kernel), List.mem_of_getElem? (i := 774) (by decide +kernel)⟩
theorem lw_p17 : lw_okq (⟨"DrownedPostModel", "get", "(II)I"⟩, 15) := ⟨⟨by decide +kernel, by decide +kernel⟩, List.mem_of_getElem? (i := 658) (by decide +kernel), List.mem_of_getElem? (i := 777) (by decide +kernel), List.mem_of_getElem? (i := 778) (by decide +kernel)⟩
theorem lw_p18 : lw_okq (⟨"DrownedPostModel", "isUnder", "(II)Z"⟩, 15) := ⟨⟨by decide +kernel, by decide +kernel⟩, List.mem_of_getElem? (i := 658) (by decide +kernel), List.mem_of_getElem? (i := 781) (by decide +kernel), List.mem_of_getElem? (i := 782) (by decide +kernel)⟩
theorem lw_p19 : lw_okq (⟨"DrownedPostModel", "leave", "(II)I"⟩, 15) := ⟨⟨by decide +kernel, by decide +kernel⟩, List.mem_of_getElem? (i := 658) (by decide +kernel), List.mem_of_getElem? (i := 785) (by decide +kernel), List.mem_of_getElem? (i := 786) (by decide +kernel)⟩
theorem lw_p20 : lw_okq (⟨"DrownedPostModel", "set", "(III)V"⟩, 15) := ⟨⟨by decide +kernel, by decide +kernel⟩, List.mem_of_getElem? (i := 658) (by decide +kernel), List.mem_of_getElem? (i := 789) (by decide +kernel), List.mem_of_getElem? (i := 790) (by decide +kernel)⟩
theorem lw_p21 : lw_okq (⟨"DrownedPostModel", "one", "(II)I"⟩, 15) := ⟨⟨by decide +kernel, by decide +kernel⟩, List.mem_of_getElem? (i := 658) (by decide +kernel), List.mem_of_getElem? (i := 801) (by decide +kernel), List.mem_of_getElem? (i := 802) (by decide +kernel)⟩
theorem lw_p22 : lw_okq (⟨"DrownedPostModel", "binTold", "(II)I"⟩, 15) := ⟨⟨by decide +kernel, by decide +kernel⟩, List.mem_of_getElem? (i := 658) (by decide +kernel), List.mem_of_getElem? (i := 809) (by decide +kernel), List.mem_of_getElem? (i := 810) (by decide +kernel)⟩
theorem lw_p23 : lw_okq (⟨"DrownedPostModel", "sumOf", "(IZ)I"⟩, 15) := ⟨⟨by decide +kernel, by decide +kernel⟩, List.mem_of_getElem? (i := 658) (by decide +kernel), List.mem_of_getElem? (i := 813) (by decide +kernel), List.mem_of_getElem? (i := 814) (by decide +kernel)⟩
theorem lw_p24 : lw_okq (⟨"DrownedPostModel", "many", "(I)I"⟩, 15) := ⟨⟨by decide +kernel, by decide +kernel⟩, List.mem_of_getElem? (i := 658) (by decide +kernel), List.mem_of_getElem? (i := 821) (by decide +kernel), List.mem_of_getElem? (i := 822) (by decide +kernel)⟩
theorem lw_p25 : lw_okq (⟨"DrownedPostModel", "passOne", "()V"⟩, 15) := ⟨⟨by decide +kernel, by decide +kernel⟩, List.mem_of_getElem? (i := 658) (by decide +kernel), List.mem_of_getElem? (i := 825) (by decide +kernel), List.mem_of_getElem? (i := 826) (by decide +kernel)⟩
theorem lw_p26 : lw_okq (⟨"DrownedPostModel", "water", "(II)V"⟩, 15) := ⟨⟨by decide +kernel, by decide +kernel⟩, List.mem_of_getElem? (i := 658) (by decide +kernel), List.mem_of_getElem? (i := 829) (by decide +kernel), List.mem_of_getElem? (i := 830) (by decide +kernel)⟩
theorem lw_p27 : lw_okq (⟨"DrownedPostModel", "answer", "(I)V"⟩, 15) := ⟨⟨by decide +kernel, by decide +kernel⟩, List.mem_of_getElem? (i := 658) (by decide +kernel), List.mem_of_getElem? (i := 833) (by decide +kernel), List.mem_of_getElem? (i := 834) (by decide +kernel)⟩
theorem lw_p28 : lw_okq (⟨"DrownedPostModel", "scrape", "(I)V"⟩, 15) := ⟨⟨by decide +kernel, by decide +kernel⟩, List.mem_of_getElem? (i := 658) (by decide +kernel), List.mem_of_getElem? (i := 838) (by decide +kernel), List.mem_of_getElem? (i := 839) (by decide +kernel)⟩
theorem lw_p29 : lw_okq (⟨"DrownedPostModel", "sort", "()V"⟩, 15) := ⟨⟨by decide +kernel, by decide +kernel⟩, List.mem_of_getElem? (i := 658) (by decide +kernel), List.mem_of_getElem? (i := 842) (by decide +kernel), List.mem_of_getElem? (i := 843) (by decide +kernel)⟩
theorem lw_p30 : lw_okq (⟨"DrownedPostModel", "binOf", "(I)I"⟩, 15) := ⟨⟨by decide +kernel, by decide +kernel⟩, List.mem_of_getElem? (i := 658) (by decide +kernel), List.mem_of_getElem? (i := 846) (by decide +kernel), List.mem_of_getElem? (i := 847) (by decide +kernel)⟩
theorem lw_p31 : lw_okq (⟨"DrownedPostModel", "counted", "(I)I"⟩, 15) := ⟨⟨by decide +kernel, by decide +kernel⟩, List.mem_of_getElem? (i := 658) (by decide +kernel), List.mem_of_getElem? (i := 855) (by decide +kernel), List.mem_of_getElem? (i := 856) (by decide +kernel)⟩
def lw_privs_2 : List (MethodName × Nat) := [(⟨"DrownedPostModel", "isIn", "(II)Z"⟩, 15), (⟨"DrownedPostModel", "get", "(II)I"⟩, 15), (⟨"DrownedPostModel", "isUnder", "(II)Z"⟩, 15), (⟨"DrownedPostModel", "leave", "(II)I"⟩, 15), (⟨"DrownedPostModel", "set", "(III)V"⟩, 15), (⟨"DrownedPostModel", "one", "(II)I"⟩, 15), (⟨"DrownedPostModel", "binTold", "(II)I"⟩, 15), (⟨"DrownedPostModel", "sumOf", "(IZ)I"⟩, 15), (⟨"DrownedPostModel", "many", "(I)I"⟩, 15), (⟨"DrownedPostModel", "passOne", "()V"⟩, 15), (⟨"DrownedPostModel", "water", "(II)V"⟩, 15), (⟨"DrownedPostModel", "answer", "(I)V"⟩, 15), (⟨"DrownedPostModel", "scrape", "(I)V"⟩, 15), (⟨"DrownedPostModel", "sort", "()V"⟩, 15), (⟨"DrownedPostModel", "binOf", "(I)I"⟩, 15), (⟨"DrownedPostModel", "counted", "(I)I"⟩, 15)]
theorem lw_r2 : ∀ q ∈ lw_privs_2, lw_okq q := List.forall_mem_cons.mpr ⟨lw_p16, List.forall_mem_cons.mpr ⟨lw_p17, List.forall_mem_cons.mpr ⟨lw_p18, List.forall_mem_cons.mpr ⟨lw_p19, List.forall_mem_cons.mpr ⟨lw_p20, List.forall_mem_cons.mpr ⟨lw_p21, List.forall_mem_cons.mpr ⟨lw_p22, List.forall_mem_cons.mpr ⟨lw_p23, List.forall_mem_cons.mpr ⟨lw_p24, List.forall_mem_cons.mpr ⟨lw_p25, List.forall_mem_cons.mpr ⟨lw_p26, List.forall_mem_cons.mpr ⟨lw_p27, List.forall_mem_cons.mpr ⟨lw_p28, List.forall_mem_cons.mpr ⟨lw_p29, List.forall_mem_cons.mpr ⟨lw_p30, List.forall_mem_cons.mpr ⟨lw_p31, fun _ h => absurd h List.not_mem_nil⟩⟩⟩⟩⟩⟩⟩⟩⟩⟩⟩⟩⟩⟩⟩⟩
theorem lw_p32 : lw_okq (⟨"DrownedPostModel", "ahead", "(III)I"⟩, 15) := ⟨⟨by decide +kernel, by decide +kernel⟩, List.mem_of_getElem? (i := 658) (by decide +kernel), List.mem_of_getElem? (i := 867) (by decide +kernel), List.mem_of_getElem? (i := 868) (by decide +kernel)⟩
def lw_privs_3 : List (MethodName × Nat) := [(⟨"DrownedPostModel", "ahead", "(III)I"⟩, 15)]
theorem lw_r3 : ∀ q ∈ lw_privs_3, lw_okq q := List.forall_mem_cons.mpr ⟨lw_p32, fun _ h => absurd h List.not_mem_nil⟩
def lw_privs : List (MethodName × Nat) := lw_privs_1 ++ (lw_privs_2 ++ (lw_privs_3))
def lw_tbl : List Cond := k2_sels lw_privs ++ tables_1
theorem lw_privs_ok : ∀ q ∈ lw_privs, lw_okq q := by
  show ∀ q ∈ lw_privs_1 ++ (lw_privs_2 ++ (lw_privs_3)), lw_okq q
  exact List.forall_mem_append.mpr ⟨lw_r1, List.forall_mem_append.mpr ⟨lw_r2, lw_r3⟩⟩
/-- the streams that the claim lets the run draw from -/
abbrev lw_cs : List Choice := [Jvm.Choice.named "NaN.bits"]
theorem lw_bits : nanBits ∈ lw_cs := by first | decide | exact List.mem_cons_self | simp [lw_cs, nanBits]
end
section
/-! ===== BEGIN words of one list among another's, by their places ===== -/
theorem goodIn_r {big : List Cond} (ws : List Cond) (ps : List Nat) (hp : ws = ps.filterMap (fun i => big[i]?)) (h : ws.all goodWord = true) : GoodIn big ws := by
  intro w hw
  have h1 := List.all_eq_true.mp h w hw
  rw [hp] at hw
  obtain ⟨i, -, hi⟩ := List.mem_filterMap.mp hw
  have hm : w ∈ big := by first | exact List.mem_of_getElem? hi | exact List.getElem?_mem hi
  exact ⟨hm, good_of_word h1⟩
theorem goodIn_app {big a b : List Cond} (ha : GoodIn big a) (hb : GoodIn big b) : GoodIn big (a ++ b) := fun w h => (List.mem_append.mp h).elim (ha w) (hb w)
theorem goodIn_ca {big a b : List Cond} {c : Cond} (ha : GoodIn big (c :: a)) (hb : GoodIn big b) : GoodIn big (c :: (a ++ b)) := fun w h => (List.mem_cons.mp h).elim (fun e => ha w (List.mem_cons.mpr (Or.inl e))) (fun h => (List.mem_append.mp h).elim (fun h => ha w (List.mem_cons.mpr (Or.inr h))) (hb w))
theorem goodIn_sub {big ws : List Cond} (hm : ∀ w ∈ ws, w ∈ big) (h : ws.all goodWord = true) : GoodIn big ws := fun w hw => ⟨hm w hw, good_of_word (List.all_eq_true.mp h w hw)⟩
/-! ===== END ===== -/

/-! ===== BEGIN exceptions that leave a method, and their catching by the caller (launches without stack traces) ===== -/
section VXA
/-! The laws vx_back, vx_callV, vx_callS, vx_callSW, vx_throw0, vx_throwS follow proofs of the library, with one case more: JvmDerived/Free/Laws.lean (Back.of_free), Shelf42/LK1.lean (callV, callS), Shelf/KitTraced.lean (throwNew0V, throwNewS). -/
/-- where a method has thrown q: the class by its name, the cell, what was written, the world -/
def vx_T (XC : String → State → State → Prop) (st : State) (q : Addr) (t : State) (mc ms : Nat) (free : Addr → Prop) : Prop :=
  ∃ (E : String) (ce : Cell) (L : List Loc), XC E st t ∧ t.heap[q]? = some ce ∧ ce.vm = .none ∧ st.vm.findClass E = some ce.cls ∧ st.WarmedH t.vm ∧ st.sameButNew ({ t with vm := st.vm } : State) L mc ms ∧ ∀ z ∈ L, free z.base
def vx_Q (Qc : Array Value → State → Outcome → State → Prop) (XC : String → State → State → Prop) (mc ms : Nat) (free : Addr → Prop) : Array Value → State → Outcome → State → Prop := fun a st o t =>
  (Qc a st o t ∧ ∃ L, FrameEnd st o t L mc ms ∧ ∀ q ∈ L, free q.base) ∨ ∃ q, o = .threw q ∧ vx_T XC st q t mc ms free
/-- a callee that returns or throws -/
def vx_Met (l : Launch) (y : MethodName) (ws : List Cond) (rm : Room) (Pc : Array Value → State → Prop) (Qc : Array Value → State → Outcome → State → Prop) (XC : String → State → State → Prop) (mc ms : Nat) (free : Addr → Prop) : Prop :=
  MetFree l y (headSpec ws rm) Pc (fun _ _ _ _ _ => True) (vx_Q Qc XC mc ms free)
def vx_Post (XC : String → State → State → Prop) (mc ms : Nat) (free : Addr → Prop) : Pt → Array Value → Addr → Pt → Prop := fun A a q B =>
  ∃ (g : JFrame) (mk : MethodId) (t : State) (L : List Loc) (E : String) (ce : Cell), B.U.heap = t.heap ∧ B.U.vm = t.vm ∧ XC E (A.U.calling g mk a) t ∧ t.heap[q]? = some ce ∧ ce.vm = .none ∧ A.U.vm.findClass E = some ce.cls ∧ B.locs = A.locs ++ L ∧ (∀ z ∈ L, free z.base) ∧ B.cells = A.cells + mc ∧ B.slots = A.slots + ms
def vx_Back (l : Launch) (R : Room) (p : Program) (e : Env) (below : List Frame) (s : State) (sargs : Array Value) (y : MethodName) (len W9 : Nat)
    (Pre : Pt → Array Value → Prop) (Post : Pt → Array Value → Option Value → Pt → Prop) (PostX : Pt → Array Value → Addr → Pt → Prop) : Prop :=
  ∀ (m : MethodId) (meth : Method) (c : Code) (A : Pt) (g : JFrame) (ig : Instr) (mk : MethodId) (a : Array Value),
    Stand p l e R s m sargs below meth c A.U A.locs A.cells A.slots → g.method = m → g.locals.size = c.maxLocals → decode c.code g.pc = .ok (ig, len) →
    2 * g.monitorRoom + (g.stack.map fun v => v.category).sum ≤ W9 → A.U.methodNamed? y = some mk → Pre A a →
    (∃ (v : Option Value) (B : Pt), Stand p l e R s m sargs below meth c B.U B.locs B.cells B.slots ∧ Post A a v B ∧
      Steps p.tables e below (doInvoke e (A.U.setTop g) [] mk a).1 (B.U.setTop { g with pc := g.pc + len, stack := v.toList ++ g.stack })) ∨
    (∃ (q : Addr) (B : Pt), Stand p l e R s m sargs below meth c B.U B.locs B.cells B.slots ∧ PostX A a q B ∧
      Steps p.tables e below (doInvoke e (A.U.setTop g) [] mk a).1 ((B.U.setTop g).pushFrame (.throwing q)))
section Payer
variable {l : Launch} {R : Room} {p : Program} {e : Env} {below : List Frame} {s : State} {sargs : Array Value} {y : MethodName} {len W9 : Nat}
theorem vx_back {ws : List Cond} {rm : Room} {Pc : Array Value → State → Prop} {Qc : Array Value → State → Outcome → State → Prop} {XC : String → State → State → Prop} {mc ms : Nat} {free : Addr → Prop} {bytes : ByteArray} {maxL : Nat} {ret : Option FieldType}
    (hM : vx_Met l y ws rm Pc Qc XC mc ms free) (hblind : FrameBlind Pc) (hrc : rm.cells = mc) (hrs : rm.slots = ms)
    (hframes : rm.frames + 1 ≤ R.frames) (hlocals : W9 + (maxL + 11) + rm.locals ≤ R.locals)
    (hws : ∀ w ∈ ws, ∀ a' U, s.WarmedH U.vm → w.before a' U = true) (hcode : Cond.code y bytes maxL ret ∈ ws) (hinit : ∀ a' U, s.WarmedH U.vm → (Cond.initialized y.cls).before a' U = true) :
    vx_Back l R p e below s sargs y len W9 (PreOf R mc ms Pc) (PostOf Qc mc ms free) (vx_Post XC mc ms free) := by
  intro m meth c A g ig mk a X hg hsize hdg hW hn hp
  have h1 : (headSpec ws rm).pre.before a A.U = true := atoms_intro fun w hw => hws w hw _ _ X.warmed
  have h2 : (Cond.code y bytes maxL ret).before a A.U = true := hws _ hcode _ _ X.warmed
  have h3 : (Cond.initialized y.cls).before a A.U = true := hinit _ _ X.warmed
  have h4 : A.cells + (headSpec ws rm).room.cells ≤ R.cells := by rw [show (headSpec ws rm).room.cells = mc from hrc]; exact hp.1
  have h5 : A.slots + (headSpec ws rm).room.slots ≤ R.slots := by rw [show (headSpec ws rm).room.slots = ms from hrs]; exact hp.2.1
  have hPc : Pc a (A.U.calling g mk a) := hblind _ _ _ _ hp.2.2
  obtain ⟨U, Ls, c0, s0⟩ := A
  dsimp only [Pt.U, Pt.locs, Pt.cells, Pt.slots] at h1 h2 h3 h4 h5 X hn hPc ⊢
  obtain ⟨methY, cY, hmY, hcY, -, hlY, -, -, -, -⟩ := Cond.code_spec hn h2
  obtain ⟨kY, hkY, -⟩ := className_of_methodNamed hn
  have hinitY : kY.init = .initialized := Cond.initialized_spec (findClass_of_methodNamed hn) hkY h3
  have h : At U g.method c below := by rw [hg]; exact X.here
  have hlocals9 : W9 + (maxL + 11) + (headSpec ws rm).room.locals ≤ R.locals := hlocals
  have happ : (headSpec ws rm).appliesLoose y e.platform (U.calling g mk a) = true :=
    Spec.appliesLoose_calling (g := g) h hdg hn hkY hinitY
      (X.room_calling (g := g) (R' := (headSpec ws rm).room) hsize hmY hcY hframes (by rw [hlY]; omega) h4 h5) h1
  obtain ⟨mid, hmid⟩ := h.above
  have hfr : (U.setTop g).frames = (.java g :: mid) ++ below := by rw [State.frames_setTop' g h.top, hmid]; rfl
  obtain ⟨o, s₂, hsteps, -, hend, hq⟩ := Steps.callFree hM p X.admits X.cas X.clock (acts := []) hfr happ hPc trivial
  have hq' : vx_Q Qc XC mc ms free a (U.calling g mk a) o s₂ := hq
  rw [State.frames_setTop' g h.top] at hend
  obtain ⟨g₀, hg0⟩ := Option.isSome_iff_exists.mp h.top
  obtain ⟨r, hr⟩ := State.topJava?_eq_some.mp hg0
  have hr' : (({ U with heap := s₂.heap, slotsUsed := s₂.slotsUsed } : State).setVm s₂.vm).frames = .java g₀ :: r := hr
  rcases hq' with ⟨hqc, L, hfe, hL⟩ | ⟨q, rfl, E, ce, L, hx, hce, hcv, hcl, hW₂, hsm, hL⟩
  · obtain ⟨⟨v, rfl⟩, hW₂, e2, q2, q3, q4, q5, q6⟩ := id hfe
    have e3 : s₂ = ({ (U.calling g mk a).setFrames s₂.frames with heap := s₂.heap, slotsUsed := s₂.slotsUsed } : State).setVm s₂.vm := by
      have : s₂ = ({ s₂ with vm := (U.calling g mk a).vm } : State).setVm s₂.vm := rfl
      rw [e2] at this
      exact this
    obtain ⟨c₂, i₂, len₂, hc₂, hd₂, hf₂⟩ := hend
    have hW' : U.WarmedH s₂.vm := hW₂
    have hcc : c₂ = c := by
      have h1 : s₂.code? g.method = U.code? g.method := by
        rw [State.code?_eq, State.code?_eq, hW'.alike.method?]
      exact Option.some.inj (hc₂.symm.trans (h1.trans h.code))
    subst hcc
    have hlen : len₂ = len := by rw [hdg] at hd₂; cases hd₂; rfl
    subst hlen
    have hs₂ : s₂ = (({ U with heap := s₂.heap, slotsUsed := s₂.slotsUsed } : State).setVm s₂.vm).setTop { g with pc := g.pc + len₂, stack := v.toList ++ g.stack } := by
      refine e3.trans ?_
      rw [hf₂, State.calling_eq h.top, State.setFrames_setFrames, State.setTop_of_frames _ hr', hr]
      rfl
    have hsame : U.sameButNew ({ U with heap := s₂.heap, slotsUsed := s₂.slotsUsed } : State) L mc ms := by
      refine ⟨?_, q2, q3, q4, q5, q6⟩
      obtain ⟨t, ht, -⟩ := State.frames_cons hr
      show ({ U with heap := s₂.heap, slotsUsed := s₂.slotsUsed } : State) = { U.setFrames U.frames with heap := s₂.heap, slotsUsed := s₂.slotsUsed }
      rw [State.setFrames_self ht]
    subst hg
    refine Or.inl ⟨v, ⟨(({ U with heap := s₂.heap, slotsUsed := s₂.slotsUsed } : State).setVm s₂.vm), Ls ++ L, c0 + mc, s0 + ms⟩,
      ⟨X.admits, X.cas, X.clock, X.frames, X.room, X.hears, X.method, X.code, (X.here.setHeapUsed s₂.heap s₂.slotsUsed).setVm hW'.alike, X.tail, State.WarmedH.trans X.warmed hW', X.limits, X.bytes, X.same.trans (hsame.setVm s.vm)⟩,
      ⟨g, mk, s₂, L, rfl, rfl, hqc, rfl, hL, rfl, rfl⟩, ?_⟩
    show Steps p.tables e below _ ((({ U with heap := s₂.heap, slotsUsed := s₂.slotsUsed } : State).setVm s₂.vm).setTop { g with pc := g.pc + len₂, stack := v.toList ++ g.stack })
    rw [← hs₂]
    exact hsteps
  · obtain ⟨e2, q2, q3, q4, q5, q6⟩ := id hsm
    have e3 : s₂ = ({ (U.calling g mk a).setFrames s₂.frames with heap := s₂.heap, slotsUsed := s₂.slotsUsed } : State).setVm s₂.vm := by
      have : s₂ = ({ s₂ with vm := (U.calling g mk a).vm } : State).setVm s₂.vm := rfl
      rw [e2] at this
      exact this
    have hf₂ : s₂.frames = .throwing q :: .java g :: U.frames.tail := hend
    have hW' : U.WarmedH s₂.vm := hW₂
    have hs₂ : s₂ = ((({ U with heap := s₂.heap, slotsUsed := s₂.slotsUsed } : State).setVm s₂.vm).setTop g).pushFrame (.throwing q) := by
      refine e3.trans ?_
      rw [hf₂, State.calling_eq h.top, State.setFrames_setFrames, State.pushFrame, State.frames_setTop _ hr', State.setTop_of_frames _ hr', State.setFrames_setFrames, hr]
      rfl
    have hsame : U.sameButNew ({ U with heap := s₂.heap, slotsUsed := s₂.slotsUsed } : State) L mc ms := by
      refine ⟨?_, q2, q3, q4, q5, q6⟩
      obtain ⟨t, ht, -⟩ := State.frames_cons hr
      show ({ U with heap := s₂.heap, slotsUsed := s₂.slotsUsed } : State) = { U.setFrames U.frames with heap := s₂.heap, slotsUsed := s₂.slotsUsed }
      rw [State.setFrames_self ht]
    subst hg
    refine Or.inr ⟨q, ⟨(({ U with heap := s₂.heap, slotsUsed := s₂.slotsUsed } : State).setVm s₂.vm), Ls ++ L, c0 + mc, s0 + ms⟩,
      ⟨X.admits, X.cas, X.clock, X.frames, X.room, X.hears, X.method, X.code, (X.here.setHeapUsed s₂.heap s₂.slotsUsed).setVm hW'.alike, X.tail, State.WarmedH.trans X.warmed hW', X.limits, X.bytes, X.same.trans (hsame.setVm s.vm)⟩,
      ⟨g, mk, s₂, L, E, ce, rfl, rfl, hx, hce, hcv, hcl, rfl, hL, rfl, rfl⟩, ?_⟩
    show Steps p.tables e below _ (((({ U with heap := s₂.heap, slotsUsed := s₂.slotsUsed } : State).setVm s₂.vm).setTop g).pushFrame (.throwing q))
    rw [← hs₂]
    exact hsteps
end Payer
section Calls
variable {p : Program} {l : Launch} {e : Env} {R : Room} {s : State} {m : MethodId} {args : Array Value} {below : List Frame} {meth : Method} {c : Code} {T : State} {locs : List Loc} {cells slots : Nat}
theorem vx_callV (X : Stand p l e R s m args below meth c T locs cells slots) (hexec : p.tables.exec = Jvm.exec) {own C : String} {index : Nat} {y : MethodName} {bytes : ByteArray} {maxL : Nat} {ret : Option FieldType}
    (hown : s.vm.findClass own = some m.cls) (hlink : (Cond.methodLink own index y).before args s = true) (hinst : (Cond.instanceMethod y).before args s = true) (hsel : (Cond.selects C y y).before args s = true)
    (hcode : (Cond.code y bytes maxL ret).before args s = true) (hy : y.cls ≠ "java/lang/invoke/MethodHandle" ∧ y.cls ≠ "java/lang/invoke/VarHandle")
    {W9 : Nat} {Pre : Pt → Array Value → Prop} {Post : Pt → Array Value → Option Value → Pt → Prop} {PostX : Pt → Array Value → Addr → Pt → Prop} (hK : vx_Back l R p e below s args y 3 W9 Pre Post PostX)
    {b : Addr} {cellB : Cell} (hcell : T.heap[b]? = some cellB) (hobj : cellB.vm.isStatics = false) (hcls : s.vm.findClass C = some cellB.cls)
    {g : JFrame} (hg : g.method = m) (hsize : g.locals.size = c.maxLocals) {argsL rest : List Value} (hlen : ∀ sig, parseMethodDescriptor y.desc = some sig → argsL.length = sig.parameters.length)
    (hstack : g.stack = argsL.reverse ++ .ref b :: rest) (hW : 2 * g.monitorRoom + (rest.map fun v => v.category).sum ≤ W9) (hdg : decode c.code g.pc = .ok (.invokevirtual index, 3))
    (hpre : ∀ vm₁, s.WarmedH vm₁ → Pre ⟨T.setVm vm₁, locs, cells, slots⟩ (Value.ref b :: argsL).toArray) :
    (∃ (v : Option Value) (vm₁ : Vm) (B : Pt), s.WarmedH vm₁ ∧ Stand p l e R s m args below meth c B.U B.locs B.cells B.slots ∧ Post ⟨T.setVm vm₁, locs, cells, slots⟩ (Value.ref b :: argsL).toArray v B ∧
      ∀ target, Steps p.tables e below (B.U.setTop { g with pc := g.pc + 3, stack := v.toList ++ rest }) target → Steps p.tables e below (T.setTop g) target) ∨
    (∃ (q : Addr) (vm₁ : Vm) (B : Pt), s.WarmedH vm₁ ∧ Stand p l e R s m args below meth c B.U B.locs B.cells B.slots ∧ PostX ⟨T.setVm vm₁, locs, cells, slots⟩ (Value.ref b :: argsL).toArray q B ∧
      Steps p.tables e below (T.setTop g) ((B.U.setTop { g with stack := rest }).pushFrame (.throwing q))) := by
  obtain ⟨mk, methM, hnamed, hmethM, hstM, habM⟩ := Cond.instanceMethod_spec hinst
  obtain ⟨methM', cM, hmethM', -, -, -, -, -, -, hsigM⟩ := Cond.code_spec hnamed hcode
  cases hmethM.symm.trans hmethM'
  obtain ⟨c2, r2, m2, q1, q2, q3, q4, kP, hkP, hkPi⟩ := Cond.selects_spec hsel
  cases hcls.symm.trans q1
  cases (State.methodFound?_of_named hnamed hy).symm.trans q2
  cases hnamed.symm.trans q3
  have hselP : selectMethod e.platform s.vm cellB.cls mk = .method mk := by rw [Launch.admits_selectMethod X.admits]; exact q4
  obtain ⟨vm₁, X₁, hstep₁⟩ := X.invokevirtual hexec hown hlink hnamed hmethM hstM hkP hkPi hy (a := b) (cell := cellB) hcell
    (fun z h => by rw [h] at hobj; cases hobj) hselP hmethM habM hkP hkPi (g := g) hg (argsL := argsL) (rest := rest) (hlen _ hsigM) hstack hdg
  rcases hK m meth c ⟨T.setVm vm₁, locs, cells, slots⟩ { g with stack := rest } (.invokevirtual index) mk (Value.ref b :: argsL).toArray X₁ hg hsize hdg hW (X₁.named hnamed) (hpre vm₁ X₁.warmed) with ⟨v, B, X', hpost, hsteps⟩ | ⟨q, B, X', hpost, hsteps⟩
  · exact Or.inl ⟨v, vm₁, B, X₁.warmed, X', hpost, fun target h => hstep₁ _ fun acts => by rw [doInvoke_state]; exact hsteps.trans h⟩
  · exact Or.inr ⟨q, vm₁, B, X₁.warmed, X', hpost, hstep₁ _ fun acts => by rw [doInvoke_state]; exact hsteps⟩
theorem vx_callS (X : Stand p l e R s m args below meth c T locs cells slots) (hexec : p.tables.exec = Jvm.exec) {own : String} {index : Nat} {y : MethodName} {bytes : ByteArray} {maxL : Nat} {ret : Option FieldType}
    (hown : s.vm.findClass own = some m.cls) (hlink : (Cond.methodLink own index y).before args s = true) (hstat : (Cond.static y).before args s = true) (hinit : (Cond.initialized y.cls).before args s = true)
    (hcode : (Cond.code y bytes maxL ret).before args s = true) (hy : y.cls ≠ "java/lang/invoke/MethodHandle" ∧ y.cls ≠ "java/lang/invoke/VarHandle")
    {W9 : Nat} {Pre : Pt → Array Value → Prop} {Post : Pt → Array Value → Option Value → Pt → Prop} {PostX : Pt → Array Value → Addr → Pt → Prop} (hK : vx_Back l R p e below s args y 3 W9 Pre Post PostX)
    {g : JFrame} (hg : g.method = m) (hsize : g.locals.size = c.maxLocals) {argsL rest : List Value} (hlen : ∀ sig, parseMethodDescriptor y.desc = some sig → argsL.length = sig.parameters.length)
    (hstack : g.stack = argsL.reverse ++ rest) (hW : 2 * g.monitorRoom + (rest.map fun v => v.category).sum ≤ W9) (hdg : decode c.code g.pc = .ok (.invokestatic index, 3))
    (hpre : ∀ vm₁, s.WarmedH vm₁ → Pre ⟨T.setVm vm₁, locs, cells, slots⟩ argsL.toArray) :
    (∃ (v : Option Value) (vm₁ : Vm) (B : Pt), s.WarmedH vm₁ ∧ Stand p l e R s m args below meth c B.U B.locs B.cells B.slots ∧ Post ⟨T.setVm vm₁, locs, cells, slots⟩ argsL.toArray v B ∧
      ∀ target, Steps p.tables e below (B.U.setTop { g with pc := g.pc + 3, stack := v.toList ++ rest }) target → Steps p.tables e below (T.setTop g) target) ∨
    (∃ (q : Addr) (vm₁ : Vm) (B : Pt), s.WarmedH vm₁ ∧ Stand p l e R s m args below meth c B.U B.locs B.cells B.slots ∧ PostX ⟨T.setVm vm₁, locs, cells, slots⟩ argsL.toArray q B ∧
      Steps p.tables e below (T.setTop g) ((B.U.setTop { g with stack := rest }).pushFrame (.throwing q))) := by
  obtain ⟨mk, hnamed⟩ := Cond.code_named hcode
  obtain ⟨methM, cM, hmethM, -, -, -, -, -, -, hsigM⟩ := Cond.code_spec hnamed hcode
  have hstatic : methM.isStatic = true := Cond.static_spec hnamed hmethM hstat
  obtain ⟨kP, hkP, -⟩ := className_of_methodNamed hnamed
  have hinitP : kP.init = .initialized := Cond.initialized_spec (findClass_of_methodNamed hnamed) hkP hinit
  obtain ⟨vm₁, X₁, hstep₁⟩ := X.invokestatic hexec hown hlink hnamed hmethM hstatic hkP hinitP hy (g := g) hg (argsL := argsL) (rest := rest) (hlen _ hsigM) hstack hdg
  rcases hK m meth c ⟨T.setVm vm₁, locs, cells, slots⟩ { g with stack := rest } (.invokestatic index) mk argsL.toArray X₁ hg hsize hdg hW (X₁.named hnamed) (hpre vm₁ X₁.warmed) with ⟨v, B, X', hpost, hsteps⟩ | ⟨q, B, X', hpost, hsteps⟩
  · exact Or.inl ⟨v, vm₁, B, X₁.warmed, X', hpost, fun target h => hstep₁ _ fun acts => by rw [doInvoke_state]; exact hsteps.trans h⟩
  · exact Or.inr ⟨q, vm₁, B, X₁.warmed, X', hpost, hstep₁ _ fun acts => by rw [doInvoke_state]; exact hsteps⟩
end Calls
theorem vx_cls {s : State} {T : State} {vm₁ : Vm} {E : String} {k : ClassId} (hW : s.WarmedH vm₁) (h : (T.setVm vm₁).vm.findClass E = some k) : s.vm.findClass E = some k := by
  have h1 : vm₁.findClass E = some k := h
  rw [hW.alike.findClass] at h1
  exact h1
/-- the method's frame g, with q thrown over it -/
def vx_W (p : Program) (l : Launch) (e : Env) (R : Room) (s : State) (m : MethodId) (args : Array Value) (below : List Frame) (meth : Method) (c : Code) (H : Heap) (locs : List Loc) (cells slots : Nat) (Q : State → Prop) (g : JFrame) (q : Addr) : Prop :=
  ∀ T : State, T.heap = H → Stand p l e R s m args below meth c T locs cells slots → ∃ t, Steps p.tables e below ((T.setTop g).pushFrame (.throwing q)) t ∧ Q t
def vx_Run (p : Program) (l : Launch) (e : Env) (R : Room) (s : State) (m : MethodId) (args : Array Value) (below : List Frame) (meth : Method) (c : Code) (H : Heap) (locs : List Loc) (cells slots mc ms : Nat) (g : JFrame) (rest : List Value) (Qa : State → Outcome → State → Prop) (XC : String → State → State → Prop) (free : Addr → Prop) : Prop :=
  ∀ T : State, T.heap = H → Stand p l e R s m args below meth c T locs cells slots →
    (∃ (v : Option Value) (st₀ t T' : State) (L : List Loc), st₀.heap = H ∧ Stand p l e R s m args below meth c T' (locs ++ L) (cells + mc) (slots + ms) ∧ (∀ q ∈ L, free q.base) ∧ T'.heap = t.heap ∧ T'.vm = t.vm ∧ Qa st₀ (.returned v) t ∧
      Goes p e below T g T' { g with pc := g.pc + 3, stack := v.toList ++ rest }) ∨
    (∃ (q : Addr) (st₀ t T' : State) (L : List Loc) (E : String) (ce : Cell), st₀.heap = H ∧ Stand p l e R s m args below meth c T' (locs ++ L) (cells + mc) (slots + ms) ∧ (∀ z ∈ L, free z.base) ∧ T'.heap = t.heap ∧ T'.vm = t.vm ∧ XC E st₀ t ∧ t.heap[q]? = some ce ∧ ce.vm = .none ∧ s.vm.findClass E = some ce.cls ∧
      Steps p.tables e below (T.setTop g) ((T'.setTop { g with stack := rest }).pushFrame (.throwing q)))
def vx_X {S : Type} (px : S → Prop) (B : String → S → State → Prop) (A : Nat → Prop) : String → State → State → Prop := fun E st t => ∃ u : S, px u ∧ B E u t ∧ va_F A st t
section Runs
variable {p : Program} {l : Launch} {e : Env} {R : Room} {s : State} {m : MethodId} {args : Array Value} {below : List Frame} {meth : Method} {c : Code} {H : Heap} {locs : List Loc} {cells slots : Nat}
variable {y : MethodName} {bytes cc : ByteArray} {maxL nL mc ms n index : Nat} {ret : Option FieldType} {ws : List Cond} {rm : Room} {Pc : Array Value → State → Prop} {Qc : Array Value → State → Outcome → State → Prop} {XC : String → State → State → Prop} {free : Addr → Prop} {Ts : List Cond} {own C : String} {b : Addr} {As rest : List Value} {g : JFrame}
theorem vx_callBack (cb : CallB R s args own index y bytes maxL ret ws rm mc ms n) (hM : vx_Met l y ws rm Pc Qc XC mc ms free) (hbl : FrameBlind Pc) : vx_Back l R p e below s args y 3 8 (PreOf R mc ms Pc) (PostOf Qc mc ms free) (vx_Post XC mc ms free) := by
  obtain ⟨hrc, hrs, hfr, hlo, hws, hcw, -, hini, -⟩ := cb
  exact vx_back (bytes := bytes) (maxL := maxL) (ret := ret) hM hbl hrc hrs hfr hlo hws hcw (fun a' U hW => word_at hW (Or.inl (by first | rfl | simp [Cond.onTables, Cond.keeps, Cond.steady])) hini)
theorem vx_runV (S : CallFix p m c cc nL s args Ts own) (hM : vx_Met l y ws rm Pc Qc XC mc ms free) (cw : CallW R s args own C index y bytes maxL ret ws rm mc ms n) (hp : PreV s H C b Pc As)
    (hg : g.method = m) (hn : As.length = n) (hsize : g.locals.size = nL) (hstack : g.stack = As.reverse ++ .ref b :: rest) (hW : 2 * g.monitorRoom + (rest.map fun v => v.category).sum ≤ 8) (hdg : decode cc g.pc = .ok (.invokevirtual index, 3)) (hf : cells + mc ≤ R.cells ∧ slots + ms ≤ R.slots) :
    vx_Run p l e R s m args below meth c H locs cells slots mc ms g rest (Qc (Value.ref b :: As).toArray) XC free := by
  have hK : vx_Back l R p e below s args y 3 8 (PreOf R mc ms Pc) (PostOf Qc mc ms free) (vx_Post XC mc ms free) := vx_callBack cw.1 hM hp.1
  obtain ⟨⟨-, -, -, -, -, -, hcode, -, hy, hlen, hl⟩, hin, hse⟩ := cw
  obtain ⟨hx, hb, hml, ho, -⟩ := S
  obtain ⟨-, ⟨cellB, hcB, hoB, hclB⟩, hPc⟩ := hp
  intro T hT X
  rcases vx_callV X hx (C := C) (bytes := bytes) (maxL := maxL) (ret := ret) ho hl hin hse hcode hy hK (by rw [hT]; exact hcB) hoB hclB hg (hsize.trans hml.symm) (argsL := As) (rest := rest) (fun sig h => hn.trans (hlen sig h)) hstack hW (by rw [hb]; exact hdg)
    (fun vm₁ hW₁ => ⟨hf.1, hf.2, hPc (T.setVm vm₁) hT hW₁⟩) with ⟨v, vm₁, ⟨U', l2, c2, s2⟩, hW₁, X', ⟨g', mk, t, L, e1, e2, hq, h1, hL, h2, h3⟩, st⟩ | ⟨q, vm₁, ⟨U', l2, c2, s2⟩, hW₁, X', ⟨g', mk, t, L, E, ce, e1, e2, hq, hce, hcv, hcl, h1, hL, h2, h3⟩, st⟩
  · dsimp only [Pt.U, Pt.locs, Pt.cells, Pt.slots] at X' e1 e2 h1 h2 h3 st
    subst h1; subst h2; subst h3
    exact Or.inl ⟨v, (T.setVm vm₁).calling g' mk (Value.ref b :: As).toArray, t, U', L, hT, X', hL, e1, e2, hq, st⟩
  · dsimp only [Pt.U, Pt.locs, Pt.cells, Pt.slots] at X' e1 e2 h1 h2 h3 st hcl
    subst h1; subst h2; subst h3
    exact Or.inr ⟨q, (T.setVm vm₁).calling g' mk (Value.ref b :: As).toArray, t, U', L, E, ce, hT, X', hL, e1, e2, hq, hce, hcv, vx_cls hW₁ hcl, st⟩
theorem vx_runS (S : CallFix p m c cc nL s args Ts own) (hM : vx_Met l y ws rm Pc Qc XC mc ms free) (cw : CallB R s args own index y bytes maxL ret ws rm mc ms n ∧ (Cond.static y).before args s = true) (hp : PreS s H Pc As)
    (hg : g.method = m) (hn : As.length = n) (hsize : g.locals.size = nL) (hstack : g.stack = As.reverse ++ rest) (hW : 2 * g.monitorRoom + (rest.map fun v => v.category).sum ≤ 8) (hdg : decode cc g.pc = .ok (.invokestatic index, 3)) (hf : cells + mc ≤ R.cells ∧ slots + ms ≤ R.slots) :
    vx_Run p l e R s m args below meth c H locs cells slots mc ms g rest (Qc As.toArray) XC free := by
  have hK : vx_Back l R p e below s args y 3 8 (PreOf R mc ms Pc) (PostOf Qc mc ms free) (vx_Post XC mc ms free) := vx_callBack cw.1 hM hp.1
  obtain ⟨⟨-, -, -, -, -, -, hcode, hini, hy, hlen, hl⟩, hstt⟩ := cw
  obtain ⟨hx, hb, hml, ho, -⟩ := S
  intro T hT X
  rcases vx_callS X hx (bytes := bytes) (maxL := maxL) (ret := ret) ho hl hstt hini hcode hy hK hg (hsize.trans hml.symm) (argsL := As) (rest := rest) (fun sig h => hn.trans (hlen sig h)) hstack hW (by rw [hb]; exact hdg)
    (fun vm₁ hW₁ => ⟨hf.1, hf.2, hp.2 (T.setVm vm₁) hT hW₁⟩) with ⟨v, vm₁, ⟨U', l2, c2, s2⟩, hW₁, X', ⟨g', mk, t, L, e1, e2, hq, h1, hL, h2, h3⟩, st⟩ | ⟨q, vm₁, ⟨U', l2, c2, s2⟩, hW₁, X', ⟨g', mk, t, L, E, ce, e1, e2, hq, hce, hcv, hcl, h1, hL, h2, h3⟩, st⟩
  · dsimp only [Pt.U, Pt.locs, Pt.cells, Pt.slots] at X' e1 e2 h1 h2 h3 st
    subst h1; subst h2; subst h3
    exact Or.inl ⟨v, (T.setVm vm₁).calling g' mk As.toArray, t, U', L, hT, X', hL, e1, e2, hq, st⟩
  · dsimp only [Pt.U, Pt.locs, Pt.cells, Pt.slots] at X' e1 e2 h1 h2 h3 st hcl
    subst h1; subst h2; subst h3
    exact Or.inr ⟨q, (T.setVm vm₁).calling g' mk As.toArray, t, U', L, E, ce, hT, X', hL, e1, e2, hq, hce, hcv, vx_cls hW₁ hcl, st⟩
end Runs
section Rows
variable {p : Program} {l : Launch} {e : Env} {R : Room} {s : State} {m : MethodId} {args : Array Value} {below : List Frame} {meth : Method} {c : Code} {H : Heap} {locs : List Loc} {cells slots : Nat} {Q : State → Prop}
variable {mc ms : Nat} {free : Addr → Prop} {A0 A1 : Nat → Prop} {H0 : Heap} {a : Array Value} {pc : Nat} {ls : Array Slot} {st0 rest : List Value}
theorem vx_keep {st₀ t T' : State} {L : List Loc} (h0 : st₀.heap = H) (e1 : T'.heap = t.heap) (hS : va_S A0 H0 H locs) (hA : ∀ q, q < H.size → A1 q → A0 q) (hf : ∀ q, free q → A0 q) (hL : ∀ q ∈ L, free q.base) (hF : va_F A1 st₀ t) :
    H.size ≤ T'.heap.size ∧ (∀ q : Nat, q < H.size → ¬ A1 q → T'.heap[q]? = H[q]?) ∧ va_S A0 H0 T'.heap (locs ++ L) := by
  obtain ⟨hz, hk⟩ := hF
  rw [h0] at hz hk
  exact ⟨by rw [e1]; exact hz, fun q h1 h2 => by rw [e1]; exact hk q h1 h2,
    ⟨Nat.le_trans hS.1 (by rw [e1]; exact hz), fun q h1 h2 => by rw [e1, hk q (Nat.lt_of_lt_of_le h1 hS.1) (fun z => h2 (hA q (Nat.lt_of_lt_of_le h1 hS.1) z))]; exact hS.2.1 q h1 h2, fun q hq => by
      rcases List.mem_append.mp hq with h | h
      · exact hS.2.2 q h
      · exact hf _ (hL q h)⟩⟩
theorem vx_calli {S SX : Type} {post : Int32 → S → Prop} {px : SX → Prop} {B : S → State → Prop} {BX : String → SX → State → Prop} {AX : Nat → Prop} (hr : vx_Run p l e R s m args below meth c H locs cells slots mc ms (F0 m pc ls st0) rest (va_Qi post B A1 a) (vx_X px BX AX) free) (hS : va_S A0 H0 H locs) (hA : ∀ q, q < H.size → A1 q → A0 q) (hf : ∀ q, free q → A0 q) (hAX : ∀ q, q < H.size → AX q → A0 q)
    (kx : ∀ (E : String) (ce : Cell) (q9 : Addr) (u : SX) (t : State) (H1 : Heap) (locs1 : List Loc), t.heap = H1 → s.vm.Alike t.vm → px u → BX E u t → H.size ≤ H1.size → (∀ q : Nat, q < H.size → ¬ AX q → H1[q]? = H[q]?) → va_S A0 H0 H1 locs1 → H1[q9]? = some ce → ce.vm = .none → s.vm.findClass E = some ce.cls → vx_W p l e R s m args below meth c H1 locs1 (cells + mc) (slots + ms) Q (F0 m pc ls rest) q9)
    (kk : ∀ (r : Int32) (u : S) (t : State) (H1 : Heap) (locs1 : List Loc), t.heap = H1 → s.vm.Alike t.vm → post r u → B u t → H.size ≤ H1.size → (∀ q : Nat, q < H.size → ¬ A1 q → H1[q]? = H[q]?) → va_S A0 H0 H1 locs1 → W p l e R s m args below meth c H1 locs1 (cells + mc) (slots + ms) Q (F0 m (pc + 3) ls (.int r :: rest))) : W p l e R s m args below meth c H locs cells slots Q (F0 m pc ls st0) := by
  intro T hT X
  rcases hr T hT X with ⟨v, st₀, t, T', L, h0, X', hL, e1, e2, ⟨⟨r, u, hv, hp, hb⟩, hF⟩, st⟩ | ⟨q, st₀, t, T', L, E, ce, h0, X', hL, e1, e2, ⟨u, hp, hb, hF⟩, hce, hcv, hcl, st⟩
  · cases hv
    obtain ⟨k1, k2, k3⟩ := vx_keep h0 e1 hS hA hf hL hF
    obtain ⟨t2, a1, b1⟩ := kk r u t T'.heap (locs ++ L) e1.symm (by rw [← e2]; exact X'.warmed.alike) hp hb k1 k2 k3 T' rfl X'
    exact ⟨t2, st t2 a1, b1⟩
  · obtain ⟨k1, k2, k3⟩ := vx_keep h0 e1 hS hAX hf hL hF
    obtain ⟨t2, a1, b1⟩ := kx E ce q u t T'.heap (locs ++ L) e1.symm (by rw [← e2]; exact X'.warmed.alike) hp hb k1 k2 k3 (by rw [e1]; exact hce) hcv hcl T' rfl X'
    exact ⟨t2, st.trans a1, b1⟩
theorem vx_calll {S SX : Type} {post : Int64 → S → Prop} {px : SX → Prop} {B : S → State → Prop} {BX : String → SX → State → Prop} {AX : Nat → Prop} (hr : vx_Run p l e R s m args below meth c H locs cells slots mc ms (F0 m pc ls st0) rest (va_Ql post B A1 a) (vx_X px BX AX) free) (hS : va_S A0 H0 H locs) (hA : ∀ q, q < H.size → A1 q → A0 q) (hf : ∀ q, free q → A0 q) (hAX : ∀ q, q < H.size → AX q → A0 q)
    (kx : ∀ (E : String) (ce : Cell) (q9 : Addr) (u : SX) (t : State) (H1 : Heap) (locs1 : List Loc), t.heap = H1 → s.vm.Alike t.vm → px u → BX E u t → H.size ≤ H1.size → (∀ q : Nat, q < H.size → ¬ AX q → H1[q]? = H[q]?) → va_S A0 H0 H1 locs1 → H1[q9]? = some ce → ce.vm = .none → s.vm.findClass E = some ce.cls → vx_W p l e R s m args below meth c H1 locs1 (cells + mc) (slots + ms) Q (F0 m pc ls rest) q9)
    (kk : ∀ (r : Int64) (u : S) (t : State) (H1 : Heap) (locs1 : List Loc), t.heap = H1 → s.vm.Alike t.vm → post r u → B u t → H.size ≤ H1.size → (∀ q : Nat, q < H.size → ¬ A1 q → H1[q]? = H[q]?) → va_S A0 H0 H1 locs1 → W p l e R s m args below meth c H1 locs1 (cells + mc) (slots + ms) Q (F0 m (pc + 3) ls (.long r :: rest))) : W p l e R s m args below meth c H locs cells slots Q (F0 m pc ls st0) := by
  intro T hT X
  rcases hr T hT X with ⟨v, st₀, t, T', L, h0, X', hL, e1, e2, ⟨⟨r, u, hv, hp, hb⟩, hF⟩, st⟩ | ⟨q, st₀, t, T', L, E, ce, h0, X', hL, e1, e2, ⟨u, hp, hb, hF⟩, hce, hcv, hcl, st⟩
  · cases hv
    obtain ⟨k1, k2, k3⟩ := vx_keep h0 e1 hS hA hf hL hF
    obtain ⟨t2, a1, b1⟩ := kk r u t T'.heap (locs ++ L) e1.symm (by rw [← e2]; exact X'.warmed.alike) hp hb k1 k2 k3 T' rfl X'
    exact ⟨t2, st t2 a1, b1⟩
  · obtain ⟨k1, k2, k3⟩ := vx_keep h0 e1 hS hAX hf hL hF
    obtain ⟨t2, a1, b1⟩ := kx E ce q u t T'.heap (locs ++ L) e1.symm (by rw [← e2]; exact X'.warmed.alike) hp hb k1 k2 k3 (by rw [e1]; exact hce) hcv hcl T' rfl X'
    exact ⟨t2, st.trans a1, b1⟩
theorem vx_callf {S SX : Type} {post : UInt32 → S → Prop} {px : SX → Prop} {B : S → State → Prop} {BX : String → SX → State → Prop} {AX : Nat → Prop} (hr : vx_Run p l e R s m args below meth c H locs cells slots mc ms (F0 m pc ls st0) rest (va_Qf post B A1 a) (vx_X px BX AX) free) (hS : va_S A0 H0 H locs) (hA : ∀ q, q < H.size → A1 q → A0 q) (hf : ∀ q, free q → A0 q) (hAX : ∀ q, q < H.size → AX q → A0 q)
    (kx : ∀ (E : String) (ce : Cell) (q9 : Addr) (u : SX) (t : State) (H1 : Heap) (locs1 : List Loc), t.heap = H1 → s.vm.Alike t.vm → px u → BX E u t → H.size ≤ H1.size → (∀ q : Nat, q < H.size → ¬ AX q → H1[q]? = H[q]?) → va_S A0 H0 H1 locs1 → H1[q9]? = some ce → ce.vm = .none → s.vm.findClass E = some ce.cls → vx_W p l e R s m args below meth c H1 locs1 (cells + mc) (slots + ms) Q (F0 m pc ls rest) q9)
    (kk : ∀ (r : UInt32) (u : S) (t : State) (H1 : Heap) (locs1 : List Loc), t.heap = H1 → s.vm.Alike t.vm → post r u → B u t → H.size ≤ H1.size → (∀ q : Nat, q < H.size → ¬ A1 q → H1[q]? = H[q]?) → va_S A0 H0 H1 locs1 → W p l e R s m args below meth c H1 locs1 (cells + mc) (slots + ms) Q (F0 m (pc + 3) ls (.float r :: rest))) : W p l e R s m args below meth c H locs cells slots Q (F0 m pc ls st0) := by
  intro T hT X
  rcases hr T hT X with ⟨v, st₀, t, T', L, h0, X', hL, e1, e2, ⟨⟨r, u, hv, hp, hb⟩, hF⟩, st⟩ | ⟨q, st₀, t, T', L, E, ce, h0, X', hL, e1, e2, ⟨u, hp, hb, hF⟩, hce, hcv, hcl, st⟩
  · cases hv
    obtain ⟨k1, k2, k3⟩ := vx_keep h0 e1 hS hA hf hL hF
    obtain ⟨t2, a1, b1⟩ := kk r u t T'.heap (locs ++ L) e1.symm (by rw [← e2]; exact X'.warmed.alike) hp hb k1 k2 k3 T' rfl X'
    exact ⟨t2, st t2 a1, b1⟩
  · obtain ⟨k1, k2, k3⟩ := vx_keep h0 e1 hS hAX hf hL hF
    obtain ⟨t2, a1, b1⟩ := kx E ce q u t T'.heap (locs ++ L) e1.symm (by rw [← e2]; exact X'.warmed.alike) hp hb k1 k2 k3 (by rw [e1]; exact hce) hcv hcl T' rfl X'
    exact ⟨t2, st.trans a1, b1⟩
theorem vx_calld {S SX : Type} {post : UInt64 → S → Prop} {px : SX → Prop} {B : S → State → Prop} {BX : String → SX → State → Prop} {AX : Nat → Prop} (hr : vx_Run p l e R s m args below meth c H locs cells slots mc ms (F0 m pc ls st0) rest (va_Qd post B A1 a) (vx_X px BX AX) free) (hS : va_S A0 H0 H locs) (hA : ∀ q, q < H.size → A1 q → A0 q) (hf : ∀ q, free q → A0 q) (hAX : ∀ q, q < H.size → AX q → A0 q)
    (kx : ∀ (E : String) (ce : Cell) (q9 : Addr) (u : SX) (t : State) (H1 : Heap) (locs1 : List Loc), t.heap = H1 → s.vm.Alike t.vm → px u → BX E u t → H.size ≤ H1.size → (∀ q : Nat, q < H.size → ¬ AX q → H1[q]? = H[q]?) → va_S A0 H0 H1 locs1 → H1[q9]? = some ce → ce.vm = .none → s.vm.findClass E = some ce.cls → vx_W p l e R s m args below meth c H1 locs1 (cells + mc) (slots + ms) Q (F0 m pc ls rest) q9)
    (kk : ∀ (r : UInt64) (u : S) (t : State) (H1 : Heap) (locs1 : List Loc), t.heap = H1 → s.vm.Alike t.vm → post r u → B u t → H.size ≤ H1.size → (∀ q : Nat, q < H.size → ¬ A1 q → H1[q]? = H[q]?) → va_S A0 H0 H1 locs1 → W p l e R s m args below meth c H1 locs1 (cells + mc) (slots + ms) Q (F0 m (pc + 3) ls (.double r :: rest))) : W p l e R s m args below meth c H locs cells slots Q (F0 m pc ls st0) := by
  intro T hT X
  rcases hr T hT X with ⟨v, st₀, t, T', L, h0, X', hL, e1, e2, ⟨⟨r, u, hv, hp, hb⟩, hF⟩, st⟩ | ⟨q, st₀, t, T', L, E, ce, h0, X', hL, e1, e2, ⟨u, hp, hb, hF⟩, hce, hcv, hcl, st⟩
  · cases hv
    obtain ⟨k1, k2, k3⟩ := vx_keep h0 e1 hS hA hf hL hF
    obtain ⟨t2, a1, b1⟩ := kk r u t T'.heap (locs ++ L) e1.symm (by rw [← e2]; exact X'.warmed.alike) hp hb k1 k2 k3 T' rfl X'
    exact ⟨t2, st t2 a1, b1⟩
  · obtain ⟨k1, k2, k3⟩ := vx_keep h0 e1 hS hAX hf hL hF
    obtain ⟨t2, a1, b1⟩ := kx E ce q u t T'.heap (locs ++ L) e1.symm (by rw [← e2]; exact X'.warmed.alike) hp hb k1 k2 k3 (by rw [e1]; exact hce) hcv hcl T' rfl X'
    exact ⟨t2, st.trans a1, b1⟩
theorem vx_callv {S SX : Type} {post : S → Prop} {px : SX → Prop} {B : S → State → Prop} {BX : String → SX → State → Prop} {AX : Nat → Prop} (hr : vx_Run p l e R s m args below meth c H locs cells slots mc ms (F0 m pc ls st0) rest (va_Qv post B A1 a) (vx_X px BX AX) free) (hS : va_S A0 H0 H locs) (hA : ∀ q, q < H.size → A1 q → A0 q) (hf : ∀ q, free q → A0 q) (hAX : ∀ q, q < H.size → AX q → A0 q)
    (kx : ∀ (E : String) (ce : Cell) (q9 : Addr) (u : SX) (t : State) (H1 : Heap) (locs1 : List Loc), t.heap = H1 → s.vm.Alike t.vm → px u → BX E u t → H.size ≤ H1.size → (∀ q : Nat, q < H.size → ¬ AX q → H1[q]? = H[q]?) → va_S A0 H0 H1 locs1 → H1[q9]? = some ce → ce.vm = .none → s.vm.findClass E = some ce.cls → vx_W p l e R s m args below meth c H1 locs1 (cells + mc) (slots + ms) Q (F0 m pc ls rest) q9)
    (kk : ∀ (u : S) (t : State) (H1 : Heap) (locs1 : List Loc), t.heap = H1 → s.vm.Alike t.vm → post u → B u t → H.size ≤ H1.size → (∀ q : Nat, q < H.size → ¬ A1 q → H1[q]? = H[q]?) → va_S A0 H0 H1 locs1 → W p l e R s m args below meth c H1 locs1 (cells + mc) (slots + ms) Q (F0 m (pc + 3) ls (rest))) : W p l e R s m args below meth c H locs cells slots Q (F0 m pc ls st0) := by
  intro T hT X
  rcases hr T hT X with ⟨v, st₀, t, T', L, h0, X', hL, e1, e2, ⟨⟨u, hv, hp, hb⟩, hF⟩, st⟩ | ⟨q, st₀, t, T', L, E, ce, h0, X', hL, e1, e2, ⟨u, hp, hb, hF⟩, hce, hcv, hcl, st⟩
  · cases hv
    obtain ⟨k1, k2, k3⟩ := vx_keep h0 e1 hS hA hf hL hF
    obtain ⟨t2, a1, b1⟩ := kk u t T'.heap (locs ++ L) e1.symm (by rw [← e2]; exact X'.warmed.alike) hp hb k1 k2 k3 T' rfl X'
    exact ⟨t2, st t2 a1, b1⟩
  · obtain ⟨k1, k2, k3⟩ := vx_keep h0 e1 hS hAX hf hL hF
    obtain ⟨t2, a1, b1⟩ := kx E ce q u t T'.heap (locs ++ L) e1.symm (by rw [← e2]; exact X'.warmed.alike) hp hb k1 k2 k3 (by rw [e1]; exact hce) hcv hcl T' rfl X'
    exact ⟨t2, st.trans a1, b1⟩
/-- caught by the row x of this method's table; the rows ahead don't take it -/
theorem vx_catch {own name : String} {E : String} {ce : Cell} {q : Addr} (hown : s.vm.findClass own = some m.cls) (pre : List ExceptionTableEntry) (x : ExceptionTableEntry) (suf : List ExceptionTableEntry) (hsplit : c.exceptionTable.toList = pre ++ x :: suf)
    (hpass : ∀ z ∈ pre, covers z pc = false ∨ (z.catchType ≠ 0 ∧ ∃ nm : String, (Cond.classLink own z.catchType nm).before args s = true ∧ va_Nc E nm s)) (hx : covers x pc = true) (h0 : x.catchType ≠ 0)
    (hlink : (Cond.classLink own x.catchType name).before args s = true) (hcast : (Cond.castable E name).before args s = true) (hcell : H[q]? = some ce) (hv : ce.vm = .none) (hcl : s.vm.findClass E = some ce.cls)
    (kk : W p l e R s m args below meth c H locs cells slots Q (F0 m x.handlerPc ls [.ref q])) : vx_W p l e R s m args below meth c H locs cells slots Q (F0 m pc ls rest) q := by
  intro T hT X
  have hpl : e.platform.magicAccessors = ({} : Platform).magicAccessors := by rw [X.admits.platform]
  obtain ⟨c3, c4, hc3, hc4, hasg⟩ := Cond.castable_spec hcast
  cases Option.some.inj (hc3.symm.trans hcl)
  obtain ⟨c5, hc5, hcl5⟩ := Cond.classLink_spec hown hlink e.platform hpl
  cases Option.some.inj (hc4.symm.trans hc5)
  obtain ⟨vm', X', st⟩ := X.thenCaughtThrough q (g := F0 m pc ls rest) rfl (Steps.refl _) (by rw [hT]; exact hcell) (by rw [hv]; rfl) (by obtain ⟨k9, h9, -⟩ := Vm.findClass_spec hcl; exact ⟨k9, h9⟩) pre x suf hsplit
    (fun z hz => by
      rcases hpass z hz with h | ⟨hz0, nm, hl1, hn1⟩
      · exact Or.inl h
      · obtain ⟨c6, hc6, hcl6⟩ := Cond.classLink_spec hown hl1 e.platform hpl
        obtain ⟨a8, b8, h1, h2, h3⟩ := hn1
        cases Option.some.inj (h1.symm.trans hcl)
        cases Option.some.inj (h2.symm.trans hc6)
        exact Or.inr ⟨hz0, _, hcl6, h3⟩) hx (Or.inr ⟨h0, c4, hcl5, hasg⟩)
  obtain ⟨t, a1, b1⟩ := kk (T.setVm vm') hT X'
  exact ⟨t, st.trans a1, b1⟩
end Rows
section Ends
variable {p : Program} {l : Launch} {e : Env} {R : Room} {s : State} {m : MethodId} {args : Array Value} {below : List Frame} {meth : Method} {c : Code} {H : Heap} {locs : List Loc} {cells slots : Nat} {Q : State → Prop}
variable {mc ms : Nat} {free : Addr → Prop} {A0 A1 : Nat → Prop} {H0 : Heap} {a : Array Value} {ls : Array Slot} {st0 rest : List Value}
variable {Qc : Array Value → State → Outcome → State → Prop} {XC : String → State → State → Prop}
/-- what a body that may throw owes at its end -/
def vx_MQ (below : List Frame) (Qc : Array Value → State → Outcome → State → Prop) (XC : String → State → State → Prop) (a : Array Value) (s : State) (mc ms : Nat) (free : Addr → Prop) : State → Prop := fun t =>
  ∃ o, t.status = .running ∧ Ended t below o ∧ vx_Q Qc XC mc ms free a s o t
theorem vx_ret {g : JFrame} {mc ms : Nat} (k : W p l e R s m args below meth c H locs cells slots (MQ below Qc args s mc ms free) g) : W p l e R s m args below meth c H locs cells slots (vx_MQ below Qc XC args s mc ms free) g := by
  intro T hT X
  obtain ⟨t, a1, o, b1, b2, b3, b4⟩ := k T hT X
  exact ⟨t, a1, o, b1, b2, Or.inl ⟨b3, b4⟩⟩
/-- not caught here: it goes on to the caller -/
theorem vx_widen {g : JFrame} {q : Addr} {k n : Nat} (h1 : cells ≤ k) (h2 : slots ≤ n) (kk : vx_W p l e R s m args below meth c H locs k n Q g q) : vx_W p l e R s m args below meth c H locs cells slots Q g q := fun T hT X => kk T hT (stand_widen X h1 h2)
theorem vx_out {pc : Nat} {E : String} {ce : Cell} {q : Addr} {mc ms : Nat} (hout : ∀ x ∈ c.exceptionTable.toList, covers x pc = false) (hlocks : meth.locks = false) (hcell : H[q]? = some ce) (hv : ce.vm = .none) (hcl : s.vm.findClass E = some ce.cls)
    (hx : ∀ t : State, t.heap = H → s.vm.Alike t.vm → XC E s t) (hf : ∀ z ∈ locs, free z.base) (hc : cells ≤ mc) (hs : slots ≤ ms) :
    vx_W p l e R s m args below meth c H locs cells slots (vx_MQ below Qc XC args s mc ms free) (F0 m pc ls rest) q := by
  intro T hT X
  obtain ⟨st1, hrun, hend, hW, hsm⟩ := X.leaveThrown q (g := F0 m pc ls rest) rfl rfl rfl hout hlocks
  have hcell9 : (T.setFrames (.throwing q :: below)).heap[q]? = some ce := by
    show T.heap[q]? = some ce
    rw [hT]; exact hcell
  exact ⟨_, st1, .threw q, hrun, hend, Or.inr ⟨q, rfl, E, ce, locs, hx _ hT hW.alike, hcell9, hv, hcl, hW, hsm.mono hc hs, hf⟩⟩
theorem vx_frame {U : State} {k n : Nat} (h : s.sameButNew ({ U with vm := s.vm } : State) locs k n) : s.heap.size ≤ U.heap.size ∧ ∀ q : Nat, q < s.heap.size → (∀ z ∈ locs, z.base ≠ q) → U.heap[q]? = s.heap[q]? := by
  obtain ⟨-, h2, -, -, -, h6⟩ := h
  refine ⟨h2, fun q hq hz => ?_⟩
  obtain ⟨c9, e1, e2, e3, e4⟩ := h6 q _ (Array.getElem?_eq_getElem hq)
  have hs : c9.slots = (s.heap[q]).slots := Array.ext_getElem? fun i => e4 i fun hm => hz _ hm rfl
  have h9 : c9 = s.heap[q] := by
    rw [hs] at e2
    exact e2
  have e5 : U.heap[q]? = some c9 := e1
  rw [e5, h9, Array.getElem?_eq_getElem hq]
/-- the words of a throw but the four that speak of the heap -/
def vx_no (w : Cond) : Bool := decide (w ≠ .isRef (.static Bundle.tN "UNASSIGNED_STACK" Bundle.steD)) && decide (w ≠ .isRef (.static Bundle.tN "SUPPRESSED_SENTINEL" Bundle.listD)) && decide (w ≠ .laysStatic Bundle.tN "UNASSIGNED_STACK" Bundle.steD) && decide (w ≠ .laysStatic Bundle.tN "SUPPRESSED_SENTINEL" Bundle.listD)
def vx_at0 (own : String) (ic : Nat) (X : String) (names : List String) : List Cond := (Bundle.ownAtoms0 own ic X names).filter vx_no
def vx_atS (own : String) (ic : Nat) (X : String) (names : List String) : List Cond := (Bundle.ownAtoms own ic X names).filter vx_no
/-- a word that the tables alone decide, or a good one -/
def vx_ot (w : Cond) : Bool := w.onTables || goodWord w
theorem vx_ot_at {args a' : Array Value} {s U : State} {w : Cond} (hW : s.WarmedH U.vm) (hvm : s.vm = U.vm) (hg : vx_ot w = true) (h : w.before args s = true) : w.before a' U = true := by
  simp only [vx_ot, Bool.or_eq_true] at hg
  rcases hg with hg | hg
  · exact va_tabs hg hvm h
  · exact word_at hW (good_of_word hg) h
/-- a list's words: the good ones out of the method's own list, the others by premises of their own -/
theorem vx_hat {args : Array Value} {s : State} {L B : List Cond} (h1 : ∀ w ∈ L.filter goodWord, w.before args s = true) (h2 : ∀ w ∈ L.filter (fun w => !goodWord w), w ∈ B) (h3 : ∀ w ∈ B, w.before args s = true) : ∀ w ∈ L, w.before args s = true := by
  intro w hw
  by_cases g : goodWord w = true
  · exact h1 w (List.mem_filter.mpr ⟨hw, g⟩)
  · refine h3 w (h2 w (List.mem_filter.mpr ⟨hw, ?_⟩))
    show (!goodWord w) = true
    cases hgw : goodWord w
    · rfl
    · exact absurd hgw g
theorem vx_c {args : Array Value} {s : State} {w : Cond} {B : List Cond} (h : w.before args s = true) (t : ∀ w ∈ B, w.before args s = true) : ∀ w' ∈ w :: B, w'.before args s = true := fun w' h' => (List.mem_cons.mp h').elim (fun e => by rw [e]; exact h) (t w')
theorem vx_n {args : Array Value} {s : State} : ∀ w ∈ ([] : List Cond), w.before args s = true := fun _ h => nomatch h
theorem vx_own {args : Array Value} {s : State} {L : List Cond} (h1 : ∀ w ∈ L.filter vx_no, w.before args s = true)
    (hU : (Cond.isRef (.static Bundle.tN "UNASSIGNED_STACK" Bundle.steD)).before args s = true) (hN : (Cond.isRef (.static Bundle.tN "SUPPRESSED_SENTINEL" Bundle.listD)).before args s = true)
    (lU : (Cond.laysStatic Bundle.tN "UNASSIGNED_STACK" Bundle.steD).before args s = true) (lN : (Cond.laysStatic Bundle.tN "SUPPRESSED_SENTINEL" Bundle.listD).before args s = true) : ∀ w ∈ L, w.before args s = true := by
  intro w hw
  by_cases e1 : w = .isRef (.static Bundle.tN "UNASSIGNED_STACK" Bundle.steD)
  · rw [e1]; exact hU
  · by_cases e2 : w = .isRef (.static Bundle.tN "SUPPRESSED_SENTINEL" Bundle.listD)
    · rw [e2]; exact hN
    · by_cases e3 : w = .laysStatic Bundle.tN "UNASSIGNED_STACK" Bundle.steD
      · rw [e3]; exact lU
      · by_cases e4 : w = .laysStatic Bundle.tN "SUPPRESSED_SENTINEL" Bundle.listD
        · rw [e4]; exact lN
        · exact h1 w (List.mem_filter.mpr ⟨hw, by unfold vx_no; rw [decide_eq_true e1, decide_eq_true e2, decide_eq_true e3, decide_eq_true e4]; rfl⟩)
/-- where a static field lies, its class's statics cell in H -/
def vx_L (C n d : String) (A : Nat → Prop) (U : State) (H : Heap) : Prop := ∃ (c : ClassId) (k : Class) (i : Nat) (f : Field) (a : Nat) (cell : Cell), U.vm.findClass C = some c ∧ U.fieldFound? C n d = some (c, k, i, f) ∧ f.isStatic = true ∧ k.statics = some a ∧ H[a]? = some cell ∧ cell.vm.isStatics = true ∧ cell.cls = c ∧ f.slot < cell.slots.size ∧ k.staticTypes[f.slot]? = some f.type ∧ ¬ A a
theorem vx_L.moved {C n d : String} {A : Nat → Prop} {u U : State} {H : Heap} (hvm : u.vm.Alike U.vm) (h : vx_L C n d A u H) : vx_L C n d A U H := by
  obtain ⟨c, k, i, f, a, cell, h1, h2, h3, h4, h5, h6, h7, h8, h9, h10⟩ := h
  obtain ⟨k', hi', he⟩ := State.fieldFound?_setVm hvm h2
  exact ⟨c, k', i, f, a, cell, by rw [hvm.findClass]; exact h1, hi', h3, by rw [he]; exact h4, h5, h6, h7, h8, by rw [he]; exact h9, h10⟩
theorem vx_L.kept {C n d : String} {A : Nat → Prop} {U : State} {H H1 : Heap} (h : vx_L C n d A U H) (hq : ∀ a : Nat, a < H.size → ¬ A a → H1[a]? = H[a]?) : vx_L C n d A U H1 := by
  obtain ⟨c, k, i, f, a, cell, h1, h2, h3, h4, h5, h6, h7, h8, h9, h10⟩ := h
  exact ⟨c, k, i, f, a, cell, h1, h2, h3, h4, by rw [hq a (Array.getElem?_eq_some_iff.mp h5).1 h10]; exact h5, h6, h7, h8, h9, h10⟩
theorem vx_L.narrow {C n d : String} {A B : Nat → Prop} {U : State} {H : Heap} (h : vx_L C n d A U H) (hAB : ∀ q, B q → A q) : vx_L C n d B U H := by
  obtain ⟨c, k, i, f, a, cell, h1, h2, h3, h4, h5, h6, h7, h8, h9, h10⟩ := h
  exact ⟨c, k, i, f, a, cell, h1, h2, h3, h4, h5, h6, h7, h8, h9, fun z => h10 (hAB _ z)⟩
theorem vx_L.word {C n d : String} {A : Nat → Prop} {s : State} {args : Array Value} (h : vx_L C n d A s s.heap) : (Cond.laysStatic C n d).before args s = true := by
  obtain ⟨c, k, i, f, a, cell, h1, h2, h3, h4, h5, h6, h7, h8, h9, -⟩ := h
  show (Cond.laysStatic C n d).holds args s none s [] = true
  exact Cond.laysStatic_of h1 h2 h3 h4 h5 h6 h7 h8 h9
/-- .. and what it holds: null or some reference -/
def vx_Zq (C n d : String) (A : Nat → Prop) (U : State) (H : Heap) : Prop := va_Zq C n d A U H ∧ vx_L C n d A U H
theorem vx_Zq.moved {C n d : String} {A : Nat → Prop} {u U : State} {H : Heap} (hvm : u.vm.Alike U.vm) (h : vx_Zq C n d A u H) : vx_Zq C n d A U H := ⟨va_Zq.moved hvm h.1, vx_L.moved hvm h.2⟩
theorem vx_Zq.kept {C n d : String} {A : Nat → Prop} {U : State} {H H1 : Heap} (h : vx_Zq C n d A U H) (hq : ∀ a : Nat, a < H.size → ¬ A a → H1[a]? = H[a]?) : vx_Zq C n d A U H1 := ⟨va_Zq.kept h.1 hq, vx_L.kept h.2 hq⟩
theorem vx_Zq.narrow {C n d : String} {A B : Nat → Prop} {U : State} {H : Heap} (h : vx_Zq C n d A U H) (hAB : ∀ q, B q → A q) : vx_Zq C n d B U H := ⟨va_Zq.narrow h.1 hAB, vx_L.narrow h.2 hAB⟩
theorem vx_Zqof {args : Array Value} {s : State} {C n d : String} {A : Nat → Prop} (hl : (Cond.laysStatic C n d).before args s = true) (hini : (Cond.initialized C).before args s = true) (h : (Cond.isRef (.static C n d)).before args s = true) (hA : ∀ a : Nat, a < s.heap.size → ¬ A a) : vx_Zq C n d A s s.heap := by
  refine ⟨va_Zqof hl hini h hA, ?_⟩
  obtain ⟨c, k, i, f, a, cell, h1, h2, h3, h4, h5, h6, h7, h8, h9⟩ := Cond.laysStatic_spec hl
  exact ⟨c, k, i, f, a, cell, h1, h2, h3, h4, h5, h6, h7, h8, h9, hA a (Array.getElem?_eq_some_iff.mp h5).1⟩
theorem vx_isRef {C n d : String} {v : Value} {A : Nat → Prop} {s : State} {args : Array Value} (h : va_Z C n d v A s s.heap) (hv : v.isRef = true) : (Cond.isRef (.static C n d)).before args s = true := by
  obtain ⟨cf, kf, fi, f, a, cell, h1, h2, h3, h4, h5, h6, h7, -⟩ := h
  have he : (Term.static C n d).eval args s none [] s = some v := by
    simp [Term.eval, State.fieldNamed?, h1, h2, h4, h5, h6, h7]
  simp only [Cond.before, Cond.holds, Cond.value, he]
  cases v <;> simp_all [Value.isRef]
theorem vx_isRefq {C n d : String} {A : Nat → Prop} {s : State} {args : Array Value} (h : va_Zq C n d A s s.heap) : (Cond.isRef (.static C n d)).before args s = true := by
  rcases h with h | ⟨t, h⟩
  · exact vx_isRef h rfl
  · exact vx_isRef h rfl
/-- the same frame, seen from here: as if the method were called anew in this heap -/
theorem vx_rebase {T : State} (X : Stand p l e R s m args below meth c T locs cells slots) {R' : Room} (hf : R'.frames ≤ R.frames) (hl : R'.locals ≤ R.locals) (hc : cells + R'.cells ≤ R.cells) (hs : slots + R'.slots ≤ R.slots) :
    Stand p l e R' ((T.setVm s.vm).setFrames (.invoking m args :: below)) m args below meth c T [] 0 0 := by
  have htop : (T.setVm s.vm).topJava?.isSome := X.here.top
  have hF : ((T.setVm s.vm).setFrames (.invoking m args :: below)).frames = .invoking m args :: below := State.frames_setFrames _ (State.cur_lt_of_top htop)
  obtain ⟨g₀, hg0⟩ := Option.isSome_iff_exists.mp htop
  obtain ⟨r, hr⟩ := State.topJava?_eq_some.mp hg0
  have hl9 : e.platform.stackLimits (T.setVm s.vm).me = e.platform.stackLimits s.me := X.limits
  have hb9 : (T.setVm s.vm).me.stackBytes = s.me.stackBytes := X.bytes
  refine ⟨X.admits, X.cas, X.clock, hF, ?_, X.hears, X.method, X.code, X.here, X.tail, X.warmed, ?_, ?_, ?_⟩
  · have h := X.room
    have hU : ((T.setVm s.vm).setFrames (.invoking m args :: below)).localsInUse = s.localsInUse := by
      rw [State.localsInUse_invoking hF (meth := meth) (c := c) X.method X.code, State.localsInUse_invoking X.frames X.method X.code]
    simp only [State.hasRoom, Bool.and_eq_true, decide_eq_true_eq] at h ⊢
    obtain ⟨⟨⟨⟨h1, h2, h3, h4, h5, h6⟩, h7⟩, h8⟩, h9⟩ := h
    rw [X.frames, List.length_cons] at h2 h3
    have q1 := X.heapSize
    have q2 := X.used
    simp only [hF, hU, List.length_cons, State.stackLimits_setFrames, State.stackBytes_setFrames, hl9, hb9]
    refine ⟨⟨⟨⟨by omega, by omega, by omega, by omega, by omega, h6⟩, ?_⟩, ?_⟩, X.book⟩
    · show T.heap.size + R'.cells ≤ e.platform.maxCells
      omega
    · show T.slotsUsed + R'.slots ≤ e.platform.maxSlots
      omega
  · rw [State.stackLimits_setFrames]; rfl
  · rw [State.stackBytes_setFrames]; rfl
  · refine ⟨?_, Nat.le_refl _, Nat.le_refl _, ?_, ?_, fun a c9 h9 => ⟨c9, h9, rfl, rfl, fun _ _ => rfl⟩⟩
    · obtain ⟨t, ht, -⟩ := State.frames_cons hr
      show T.setVm s.vm = { ((T.setVm s.vm).setFrames (.invoking m args :: below)).setFrames (T.setVm s.vm).frames with heap := T.heap, slotsUsed := T.slotsUsed }
      rw [State.setFrames_setFrames, State.setFrames_self ht]
      rfl
    · show T.slotsUsed = T.slotsUsed + ((T.heap.toList.drop T.heap.size).map (·.slots.size)).sum
      rw [List.drop_eq_nil_of_le (Nat.le_of_eq Array.length_toList)]
      rfl
    · show ((T.heap.toList.drop T.heap.size).map (·.slots.size)).sum ≤ 0
      rw [List.drop_eq_nil_of_le (Nat.le_of_eq Array.length_toList)]
      exact Nat.le_refl _
/-- 'throw new E()': new; dup; invokespecial; athrow -/
theorem vx_throw0 {cc : ByteArray} {pc : Nat} (hexec : p.tables.exec = Jvm.exec) (hb : c.code = cc) (hl : l.stackTraces = false) {own cls : String} {names : List String} {ik ic mc ms : Nat} {A : Nat → Prop}
    (hown : s.vm.findClass own = some m.cls) (hcls : Bundle.fit cls = true) (hnames : ∀ n ∈ names, Bundle.fit n = true)
    (hk : (Cond.classLink own ik cls).before args s = true) (hini : (Cond.initialized cls).before args s = true) (hat : ∀ w ∈ vx_at0 own ic cls names, w.before args s = true)
    (hgood : ∀ w ∈ Cond.classLink own ik cls :: Cond.initialized cls :: vx_at0 own ic cls names, vx_ot w = true)
    (hU : vx_Zq Bundle.tN "UNASSIGNED_STACK" Bundle.steD A s s.heap) (hN : vx_Zq Bundle.tN "SUPPRESSED_SENTINEL" Bundle.listD A s s.heap) (hS : va_S A s.heap H locs) (hsize : ls.size = c.maxLocals)
    (d0 : decode cc pc = .ok (.new ik, 3)) (d3 : decode cc (pc + 3) = .ok (.dup, 1)) (d4 : decode cc (pc + 4) = .ok (.invokespecial ic, 3)) (d7 : decode cc (pc + 7) = .ok (.athrow, 1))
    (hout : ∀ x ∈ c.exceptionTable.toList, covers x (pc + 7) = false)
    (hRframes : names.length + 3 < R.frames) (hRlocals : (rest.map fun v => v.category).sum + (13 * (names.length + 1) + 42) ≤ R.locals) (hRcells : cells + 1 ≤ R.cells) (hRslots : slots + 6 ≤ R.slots) (hlocks : meth.locks = false)
    (hx : ∀ t : State, s.vm.Alike t.vm → H.size ≤ t.heap.size → (∀ q : Nat, q < H.size → t.heap[q]? = H[q]?) → XC cls s t)
    (hf : ∀ z ∈ locs, free z.base) (hc : cells + 1 ≤ mc) (hs : slots + 6 ≤ ms) :
    W p l e R s m args below meth c H locs cells slots (vx_MQ below Qc XC args s mc ms free) (F0 m pc ls rest) := by
  intro T hT X
  have htr : e.platform.stackTraces = false := (show e.platform.stackTraces = l.stackTraces by rw [X.admits.platform]).trans hl
  have Y := vx_rebase X (R' := { frames := R.frames, locals := R.locals, cells := 1, slots := 6 }) (Nat.le_refl _) (Nat.le_refl _) hRcells hRslots
  obtain ⟨s', hA⟩ : ∃ z, z = (T.setVm s.vm).setFrames (.invoking m args :: below) := ⟨_, rfl⟩
  rw [← hA] at Y
  have hvm : s'.vm = s.vm := by rw [hA]; rfl
  have hhp : s'.heap = H := by rw [hA]; exact hT
  have hW0 : s.WarmedH s'.vm := by rw [hvm]; exact State.WarmedH.refl s
  have hat' : ∀ w ∈ vx_at0 own ic cls names, w.before args s' = true := fun w hw => vx_ot_at hW0 hvm.symm (hgood w (List.mem_cons_of_mem _ (List.mem_cons_of_mem _ hw))) (hat w hw)
  have hk' : (Cond.classLink own ik cls).before args s' = true := vx_ot_at hW0 hvm.symm (hgood _ List.mem_cons_self) hk
  have hini' : (Cond.initialized cls).before args s' = true := vx_ot_at hW0 hvm.symm (hgood _ (List.mem_cons_of_mem _ List.mem_cons_self)) hini
  have hU' : vx_Zq Bundle.tN "UNASSIGNED_STACK" Bundle.steD A s' s'.heap := by rw [hhp]; exact vx_Zq.moved hW0.alike (hU.kept hS.2.1)
  have hN' : vx_Zq Bundle.tN "SUPPRESSED_SENTINEL" Bundle.listD A s' s'.heap := by rw [hhp]; exact vx_Zq.moved hW0.alike (hN.kept hS.2.1)
  have h : ∀ w ∈ Bundle.ownAtoms0 own ic cls names, w.before args s' = true := vx_own hat' (vx_isRefq hU'.1) (vx_isRefq hN'.1) hU'.2.word hN'.2.word
  have hown' : s'.vm.findClass own = some m.cls := by rw [hvm]; exact hown
  have hins : (Cond.instantiable cls 6).before args s' = true := h _ (by simp [Bundle.ownAtoms0])
  obtain ⟨vm₁, cX, kX, hfX, hkX, -, -, X₁, st1⟩ := Y.newCold hexec (own := own) (C := cls) (index := ik) (n := 6) hown' hk' hins hini'
    (g := F0 m pc ls rest) rfl (by rw [hb]; exact d0) (Nat.le_refl _) (Nat.le_refl _)
  generalize hT1 : (T.setVm vm₁).pushCell { cls := cX, slots := kX.instanceTypes.map defaultValue, vm := .none } = T1 at X₁ st1
  have hcat : (Value.ref T.heap.size).category = 1 := rfl
  have hcellA : T1.heap[T.heap.size]? = some (freshCell cX kX) := by rw [← hT1]; exact State.heap_pushCell_size _ _
  have d3' : decode c.code (pc + 3) = .ok (.dup, 1) := by rw [hb]; exact d3
  obtain ⟨U, hsteps, hrun, hend, hW, hsame, ce, hce, hO⟩ := X₁.ctorThrow0 hexec htr (own := own) (cls := cls) (names := names) (ic := ic) hown' hcls hnames h (fun x hx => nomatch hx) hfX hkX hcellA (by rw [hhp, hT]; exact Nat.le_refl _)
    (g := { method := m, pc := pc + 4, locals := ls, stack := .ref T.heap.size :: .ref T.heap.size :: rest, locked := none }) rfl hsize rfl rfl (rest := rest) rfl
    (by rw [hb]; exact d4) (by rw [hb]; exact d7) hout hRframes (by simp only [List.map_cons, List.sum_cons, hcat]; omega) hlocks
  obtain ⟨f1, f2⟩ := vx_frame hsame
  rw [hhp] at f1 f2
  have hWs : s.WarmedH U.vm := State.WarmedH.trans hW0 hW
  have hcl : s.vm.findClass cls = some ce.cls := by
    have h9 := hO.cls
    rw [hvm] at h9
    exact h9
  have hall : s.sameButNew ({ U with vm := s.vm } : State) locs mc ms := by
    subst hA
    obtain ⟨e1, e2⟩ := hsame
    rw [State.setFrames_setFrames] at e1
    have h2 : (T.setVm s.vm).sameButNew ({ U with vm := s.vm } : State) [] (0 + 1) (0 + 6) := ⟨e1, e2⟩
    have h3 := X.same.trans h2
    rw [List.append_nil] at h3
    exact h3.mono hc hs
  refine ⟨U, ?_, .threw T.heap.size, hrun, hend, Or.inr ⟨T.heap.size, rfl, cls, ce, locs, hx U hWs.alike f1 (fun q hq => f2 q hq (fun z hz => nomatch hz)), hce, hO.vm, hcl, hWs, hall, hf⟩⟩
  refine st1 _ ?_
  show Steps p.tables e below (T1.setTop { method := m, pc := pc + 3, locals := ls, stack := .ref T.heap.size :: rest, locked := none }) _
  jvm_step X₁.here [X₁.here.top, hexec, d3', Value.category]
  exact hsteps
/-- 'throw new E("text")': new; dup; ldc; invokespecial; athrow -/
theorem vx_throwS {cc : ByteArray} {pc : Nat} (hexec : p.tables.exec = Jvm.exec) (hb : c.code = cc) (hl : l.stackTraces = false) {own cls text : String} {names : List String} {ik is ic mc ms sa : Nat} {A : Nat → Prop}
    (hown : s.vm.findClass own = some m.cls) (hcls : Bundle.fit cls = true) (hnames : ∀ n ∈ names, Bundle.fit n = true)
    (hk : (Cond.classLink own ik cls).before args s = true) (hini : (Cond.initialized cls).before args s = true) (hstr : vk_R own is text sa s) (hat : ∀ w ∈ vx_atS own ic cls names, w.before args s = true)
    (hgood : ∀ w ∈ Cond.classLink own ik cls :: Cond.initialized cls :: vx_atS own ic cls names, vx_ot w = true)
    (hU : vx_Zq Bundle.tN "UNASSIGNED_STACK" Bundle.steD A s s.heap) (hN : vx_Zq Bundle.tN "SUPPRESSED_SENTINEL" Bundle.listD A s s.heap) (hS : va_S A s.heap H locs) (hsize : ls.size = c.maxLocals)
    (d0 : decode cc pc = .ok (.new ik, 3)) (d3 : decode cc (pc + 3) = .ok (.dup, 1)) (d4 : decode cc (pc + 4) = .ok (.ldc is, 2)) (d6 : decode cc (pc + 6) = .ok (.invokespecial ic, 3)) (d9 : decode cc (pc + 9) = .ok (.athrow, 1))
    (hout : ∀ x ∈ c.exceptionTable.toList, covers x (pc + 9) = false)
    (hRframes : names.length + 3 < R.frames) (hRlocals : (rest.map fun v => v.category).sum + (13 * (names.length + 1) + 43) ≤ R.locals) (hRcells : cells + 1 ≤ R.cells) (hRslots : slots + 6 ≤ R.slots) (hlocks : meth.locks = false)
    (hx : ∀ t : State, s.vm.Alike t.vm → H.size ≤ t.heap.size → (∀ q : Nat, q < H.size → t.heap[q]? = H[q]?) → XC cls s t)
    (hf : ∀ z ∈ locs, free z.base) (hc : cells + 1 ≤ mc) (hs : slots + 6 ≤ ms) :
    W p l e R s m args below meth c H locs cells slots (vx_MQ below Qc XC args s mc ms free) (F0 m pc ls rest) := by
  intro T hT X
  have htr : e.platform.stackTraces = false := (show e.platform.stackTraces = l.stackTraces by rw [X.admits.platform]).trans hl
  have Y := vx_rebase X (R' := { frames := R.frames, locals := R.locals, cells := 1, slots := 6 }) (Nat.le_refl _) (Nat.le_refl _) hRcells hRslots
  obtain ⟨s', hA⟩ : ∃ z, z = (T.setVm s.vm).setFrames (.invoking m args :: below) := ⟨_, rfl⟩
  rw [← hA] at Y
  have hvm : s'.vm = s.vm := by rw [hA]; rfl
  have hhp : s'.heap = H := by rw [hA]; exact hT
  have hW0 : s.WarmedH s'.vm := by rw [hvm]; exact State.WarmedH.refl s
  have hat' : ∀ w ∈ vx_atS own ic cls names, w.before args s' = true := fun w hw => vx_ot_at hW0 hvm.symm (hgood w (List.mem_cons_of_mem _ (List.mem_cons_of_mem _ hw))) (hat w hw)
  have hk' : (Cond.classLink own ik cls).before args s' = true := vx_ot_at hW0 hvm.symm (hgood _ List.mem_cons_self) hk
  have hini' : (Cond.initialized cls).before args s' = true := vx_ot_at hW0 hvm.symm (hgood _ (List.mem_cons_of_mem _ List.mem_cons_self)) hini
  have hU' : vx_Zq Bundle.tN "UNASSIGNED_STACK" Bundle.steD A s' s'.heap := by rw [hhp]; exact vx_Zq.moved hW0.alike (hU.kept hS.2.1)
  have hN' : vx_Zq Bundle.tN "SUPPRESSED_SENTINEL" Bundle.listD A s' s'.heap := by rw [hhp]; exact vx_Zq.moved hW0.alike (hN.kept hS.2.1)
  have h : ∀ w ∈ Bundle.ownAtoms own ic cls names, w.before args s' = true := vx_own hat' (vx_isRefq hU'.1) (vx_isRefq hN'.1) hU'.2.word hN'.2.word
  have hown' : s'.vm.findClass own = some m.cls := by rw [hvm]; exact hown
  have hins : (Cond.instantiable cls 6).before args s' = true := h _ (by simp [Bundle.ownAtoms])
  obtain ⟨vm₁, cX, kX, hfX, hkX, -, -, X₁, st1⟩ := Y.newCold hexec (own := own) (C := cls) (index := ik) (n := 6) hown' hk' hins hini'
    (g := F0 m pc ls rest) rfl (by rw [hb]; exact d0) (Nat.le_refl _) (Nat.le_refl _)
  generalize hT1 : (T.setVm vm₁).pushCell { cls := cX, slots := kX.instanceTypes.map defaultValue, vm := .none } = T1 at X₁ st1
  have hcat : (Value.ref T.heap.size).category = 1 := rfl
  have hcellA : T1.heap[T.heap.size]? = some (freshCell cX kX) := by rw [← hT1]; exact State.heap_pushCell_size _ _
  have d3' : decode c.code (pc + 3) = .ok (.dup, 1) := by rw [hb]; exact d3
  have d4' : decode c.code (pc + 4) = .ok (.ldc is, 2) := by rw [hb]; exact d4
  have hstr' : vk_R own is text sa s' := vk_R.warm hW0 hstr
  obtain ⟨U, hsteps, hrun, hend, hW, hsame, ce, hce, hO⟩ := X₁.ctorThrowS hexec htr (own := own) (cls := cls) (names := names) (ic := ic) hown' hcls hnames h (fun x hx => nomatch hx) hfX hkX hcellA (by rw [hhp, hT]; exact Nat.le_refl _) (msg := .ref sa) rfl
    (g := { method := m, pc := pc + 6, locals := ls, stack := .ref sa :: .ref T.heap.size :: .ref T.heap.size :: rest, locked := none }) rfl hsize rfl rfl (rest := rest) rfl
    (by rw [hb]; exact d6) (by rw [hb]; exact d9) hout hRframes (by simp only [List.map_cons, List.sum_cons, hcat]; omega) hlocks
  obtain ⟨f1, f2⟩ := vx_frame hsame
  rw [hhp] at f1 f2
  have hWs : s.WarmedH U.vm := State.WarmedH.trans hW0 hW
  have hcl : s.vm.findClass cls = some ce.cls := by
    have h9 := hO.cls
    rw [hvm] at h9
    exact h9
  have hall : s.sameButNew ({ U with vm := s.vm } : State) locs mc ms := by
    subst hA
    obtain ⟨e1, e2⟩ := hsame
    rw [State.setFrames_setFrames] at e1
    have h2 : (T.setVm s.vm).sameButNew ({ U with vm := s.vm } : State) [] (0 + 1) (0 + 6) := ⟨e1, e2⟩
    have h3 := X.same.trans h2
    rw [List.append_nil] at h3
    exact h3.mono hc hs
  refine ⟨U, ?_, .threw T.heap.size, hrun, hend, Or.inr ⟨T.heap.size, rfl, cls, ce, locs, hx U hWs.alike f1 (fun q hq => f2 q hq (fun z hz => nomatch hz)), hce, hO.vm, hcl, hWs, hall, hf⟩⟩
  refine st1 _ ?_
  show Steps p.tables e below (T1.setTop { method := m, pc := pc + 3, locals := ls, stack := .ref T.heap.size :: rest, locked := none }) _
  jvm_step X₁.here [X₁.here.top, hexec, d3', Value.category]
  exact X₁.ldcString hexec (own := own) (text := text) (index := is) (a := sa) hown' hstr'.1 hstr'.2
    (g := { method := m, pc := pc + 4, locals := ls, stack := .ref T.heap.size :: .ref T.heap.size :: rest, locked := none }) rfl d4' _ hsteps
/-- 'throw new E("text")', the text by a wide index -/
theorem vx_throwSW {cc : ByteArray} {pc : Nat} (hexec : p.tables.exec = Jvm.exec) (hb : c.code = cc) (hl : l.stackTraces = false) {own cls text : String} {names : List String} {ik is ic mc ms sa : Nat} {A : Nat → Prop}
    (hown : s.vm.findClass own = some m.cls) (hcls : Bundle.fit cls = true) (hnames : ∀ n ∈ names, Bundle.fit n = true)
    (hk : (Cond.classLink own ik cls).before args s = true) (hini : (Cond.initialized cls).before args s = true) (hstr : vk_R own is text sa s) (hat : ∀ w ∈ vx_atS own ic cls names, w.before args s = true)
    (hgood : ∀ w ∈ Cond.classLink own ik cls :: Cond.initialized cls :: vx_atS own ic cls names, vx_ot w = true)
    (hU : vx_Zq Bundle.tN "UNASSIGNED_STACK" Bundle.steD A s s.heap) (hN : vx_Zq Bundle.tN "SUPPRESSED_SENTINEL" Bundle.listD A s s.heap) (hS : va_S A s.heap H locs) (hsize : ls.size = c.maxLocals)
    (d0 : decode cc pc = .ok (.new ik, 3)) (d3 : decode cc (pc + 3) = .ok (.dup, 1)) (d4 : decode cc (pc + 4) = .ok (.ldc_w is, 3)) (d7 : decode cc (pc + 7) = .ok (.invokespecial ic, 3)) (d10 : decode cc (pc + 10) = .ok (.athrow, 1))
    (hout : ∀ x ∈ c.exceptionTable.toList, covers x (pc + 10) = false)
    (hRframes : names.length + 3 < R.frames) (hRlocals : (rest.map fun v => v.category).sum + (13 * (names.length + 1) + 43) ≤ R.locals) (hRcells : cells + 1 ≤ R.cells) (hRslots : slots + 6 ≤ R.slots) (hlocks : meth.locks = false)
    (hx : ∀ t : State, s.vm.Alike t.vm → H.size ≤ t.heap.size → (∀ q : Nat, q < H.size → t.heap[q]? = H[q]?) → XC cls s t)
    (hf : ∀ z ∈ locs, free z.base) (hc : cells + 1 ≤ mc) (hs : slots + 6 ≤ ms) :
    W p l e R s m args below meth c H locs cells slots (vx_MQ below Qc XC args s mc ms free) (F0 m pc ls rest) := by
  intro T hT X
  have htr : e.platform.stackTraces = false := (show e.platform.stackTraces = l.stackTraces by rw [X.admits.platform]).trans hl
  have Y := vx_rebase X (R' := { frames := R.frames, locals := R.locals, cells := 1, slots := 6 }) (Nat.le_refl _) (Nat.le_refl _) hRcells hRslots
  obtain ⟨s', hA⟩ : ∃ z, z = (T.setVm s.vm).setFrames (.invoking m args :: below) := ⟨_, rfl⟩
  rw [← hA] at Y
  have hvm : s'.vm = s.vm := by rw [hA]; rfl
  have hhp : s'.heap = H := by rw [hA]; exact hT
  have hW0 : s.WarmedH s'.vm := by rw [hvm]; exact State.WarmedH.refl s
  have hat' : ∀ w ∈ vx_atS own ic cls names, w.before args s' = true := fun w hw => vx_ot_at hW0 hvm.symm (hgood w (List.mem_cons_of_mem _ (List.mem_cons_of_mem _ hw))) (hat w hw)
  have hk' : (Cond.classLink own ik cls).before args s' = true := vx_ot_at hW0 hvm.symm (hgood _ List.mem_cons_self) hk
  have hini' : (Cond.initialized cls).before args s' = true := vx_ot_at hW0 hvm.symm (hgood _ (List.mem_cons_of_mem _ List.mem_cons_self)) hini
  have hU' : vx_Zq Bundle.tN "UNASSIGNED_STACK" Bundle.steD A s' s'.heap := by rw [hhp]; exact vx_Zq.moved hW0.alike (hU.kept hS.2.1)
  have hN' : vx_Zq Bundle.tN "SUPPRESSED_SENTINEL" Bundle.listD A s' s'.heap := by rw [hhp]; exact vx_Zq.moved hW0.alike (hN.kept hS.2.1)
  have h : ∀ w ∈ Bundle.ownAtoms own ic cls names, w.before args s' = true := vx_own hat' (vx_isRefq hU'.1) (vx_isRefq hN'.1) hU'.2.word hN'.2.word
  have hown' : s'.vm.findClass own = some m.cls := by rw [hvm]; exact hown
  have hins : (Cond.instantiable cls 6).before args s' = true := h _ (by simp [Bundle.ownAtoms])
  obtain ⟨vm₁, cX, kX, hfX, hkX, -, -, X₁, st1⟩ := Y.newCold hexec (own := own) (C := cls) (index := ik) (n := 6) hown' hk' hins hini'
    (g := F0 m pc ls rest) rfl (by rw [hb]; exact d0) (Nat.le_refl _) (Nat.le_refl _)
  generalize hT1 : (T.setVm vm₁).pushCell { cls := cX, slots := kX.instanceTypes.map defaultValue, vm := .none } = T1 at X₁ st1
  have hcat : (Value.ref T.heap.size).category = 1 := rfl
  have hcellA : T1.heap[T.heap.size]? = some (freshCell cX kX) := by rw [← hT1]; exact State.heap_pushCell_size _ _
  have d3' : decode c.code (pc + 3) = .ok (.dup, 1) := by rw [hb]; exact d3
  have d4' : decode c.code (pc + 4) = .ok (.ldc_w is, 3) := by rw [hb]; exact d4
  have hstr' : vk_R own is text sa s' := vk_R.warm hW0 hstr
  obtain ⟨U, hsteps, hrun, hend, hW, hsame, ce, hce, hO⟩ := X₁.ctorThrowS hexec htr (own := own) (cls := cls) (names := names) (ic := ic) hown' hcls hnames h (fun x hx => nomatch hx) hfX hkX hcellA (by rw [hhp, hT]; exact Nat.le_refl _) (msg := .ref sa) rfl
    (g := { method := m, pc := pc + 7, locals := ls, stack := .ref sa :: .ref T.heap.size :: .ref T.heap.size :: rest, locked := none }) rfl hsize rfl rfl (rest := rest) rfl
    (by rw [hb]; exact d7) (by rw [hb]; exact d10) hout hRframes (by simp only [List.map_cons, List.sum_cons, hcat]; omega) hlocks
  obtain ⟨f1, f2⟩ := vx_frame hsame
  rw [hhp] at f1 f2
  have hWs : s.WarmedH U.vm := State.WarmedH.trans hW0 hW
  have hcl : s.vm.findClass cls = some ce.cls := by
    have h9 := hO.cls
    rw [hvm] at h9
    exact h9
  have hall : s.sameButNew ({ U with vm := s.vm } : State) locs mc ms := by
    subst hA
    obtain ⟨e1, e2⟩ := hsame
    rw [State.setFrames_setFrames] at e1
    have h2 : (T.setVm s.vm).sameButNew ({ U with vm := s.vm } : State) [] (0 + 1) (0 + 6) := ⟨e1, e2⟩
    have h3 := X.same.trans h2
    rw [List.append_nil] at h3
    exact h3.mono hc hs
  refine ⟨U, ?_, .threw T.heap.size, hrun, hend, Or.inr ⟨T.heap.size, rfl, cls, ce, locs, hx U hWs.alike f1 (fun q hq => f2 q hq (fun z hz => nomatch hz)), hce, hO.vm, hcl, hWs, hall, hf⟩⟩
  refine st1 _ ?_
  show Steps p.tables e below (T1.setTop { method := m, pc := pc + 3, locals := ls, stack := .ref T.heap.size :: rest, locked := none }) _
  jvm_step X₁.here [X₁.here.top, hexec, d3', Value.category]
  exact X₁.ldcStringW hexec (own := own) (text := text) (index := is) (a := sa) hown' hstr'.1 hstr'.2
    (g := { method := m, pc := pc + 4, locals := ls, stack := .ref T.heap.size :: .ref T.heap.size :: rest, locked := none }) rfl d4' _ hsteps
end Ends
section Bodies
variable {l : Launch}
theorem vx_ofW {y : MethodName} {ws ws' : List Cond} {rm : Room} {Pc : Array Value → State → Prop} {Qc : Array Value → State → Outcome → State → Prop} {XC : String → State → State → Prop} {mc ms : Nat} {free : Addr → Prop} {cc : ByteArray} {maxL : Nat} {ret : Option FieldType}
    (hy : plainName y.cls = true) (hw : ws = Cond.code y cc maxL ret :: ws')
    (body : ∀ p e s m args below meth c s₁, BodyLoose p l y (headSpec ws rm) cc maxL ret e s m args below meth c s₁ → c.maxLocals = maxL → (∀ x ∈ c.exceptionTable.toList, False) → Pc args s →
      W p l e (headSpec ws rm).room s m args below meth c s.heap [] 0 0 (vx_MQ below Qc XC args s mc ms free) (entryFrame m args maxL)) : vx_Met l y ws rm Pc Qc XC mc ms free := by
  refine MetFree.of_bodyS (code := cc) (maxLocals := maxL) (ret := ret) hy ?_ ?_
  · intro args s m h hn
    obtain ⟨meth, c, h1, h2, h3, h4, h5, h6, -, -⟩ := Cond.code_spec hn (atoms_spec (ws := ws) h _ (by rw [hw]; exact List.mem_cons_self))
    exact ⟨meth, c, h1, h2, h3, h4, h5, h6⟩
  · intro p e s m args below meth c s₁ B hml hP _
    have hh0 : s₁.heap = s.heap := by rw [B.state]; rfl
    have ht : ∀ x ∈ c.exceptionTable.toList, False := by
      obtain ⟨meth9, c9, h1, h2, -, -, -, -, h7, -⟩ := Cond.code_spec B.named (atoms_spec (ws := ws) B.pre _ (by rw [hw]; exact List.mem_cons_self))
      cases Option.some.inj (h1.symm.trans B.method)
      cases Option.some.inj (h2.symm.trans (Stand.of_body B).code)
      intro x hx
      rw [Array.isEmpty_iff.mp h7] at hx
      cases hx
    obtain ⟨t, a1, o, b1, b2, b3⟩ := body p e s m args below meth c s₁ B hml ht hP s₁ hh0 (Stand.of_body B)
    exact ⟨t, o, a1, b1, b2, b3⟩
/-- the table of a body with handlers -/
theorem vx_table {p : Program} {x y : MethodName} {S : Spec} {cc bytes : ByteArray} {maxL maxL' : Nat} {ret ret' : Option FieldType} {e : Env} {s s₁ : State} {m : MethodId} {args : Array Value} {below : List Frame} {meth : Method} {c : Code} {hh : List (Nat × Nat × Nat × Nat)}
    (B : BodyLoose p l y S cc maxL ret e s m args below meth c s₁) (h : (Cond.codeWith y bytes maxL' ret' hh).before args s = true) : c.exceptionTable.toList = tableOf hh := by
  obtain ⟨m9, meth9, c9, hn9, h1, h2, -, -, h6, -⟩ := Cond.codeWith_spec h
  cases Option.some.inj (hn9.symm.trans B.named)
  cases Option.some.inj (h1.symm.trans B.method)
  cases Option.some.inj (h2.symm.trans (Stand.of_body B).code)
  rw [← h6, table_eq]
end Bodies
end VXA
/-! ===== END ===== -/
/-! ===== BEGIN a static call of a method with an exception table ===== -/
section VXS
variable {p : Program} {l : Launch} {e : Env} {R : Room} {s : State} {m : MethodId} {args : Array Value} {below : List Frame} {meth : Method} {c : Code} {T : State} {H : Heap} {locs : List Loc} {cells slots : Nat}
abbrev vx_CSW (R : Room) (s : State) (args : Array Value) (own : String) (index : Nat) (y : MethodName) (bytes : ByteArray) (maxL : Nat) (ret : Option FieldType) (hh : List (Nat × Nat × Nat × Nat)) (ws : List Cond) (rm : Room) (mc ms n : Nat) : Prop :=
  (rm.cells = mc ∧ rm.slots = ms ∧ rm.frames + 1 ≤ R.frames ∧ 8 + (maxL + 11) + rm.locals ≤ R.locals ∧ (∀ w ∈ ws, ∀ (a' : Array Value) (U : State), s.WarmedH U.vm → w.before a' U = true) ∧ Cond.codeWith y bytes maxL ret hh ∈ ws) ∧
  (Cond.codeWith y bytes maxL ret hh).before args s = true ∧ (Cond.initialized y.cls).before args s = true ∧ (y.cls ≠ "java/lang/invoke/MethodHandle" ∧ y.cls ≠ "java/lang/invoke/VarHandle") ∧
  (∀ sig, parseMethodDescriptor y.desc = some sig → n = sig.parameters.length) ∧ (Cond.methodLink own index y).before args s = true ∧ (Cond.static y).before args s = true
theorem vx_cwSW {own : String} {index maxL mc ms : Nat} {y : MethodName} {bytes : ByteArray} {ret : Option FieldType} {hh : List (Nat × Nat × Nat × Nat)} {Ts ws ws' : List Cond} {rm : Room} (n : Nat) (ht : ∀ w ∈ Ts, w.before args s = true) (hT : GoodIn Ts (va_wsS own index y ws)) (hw : ws = Cond.codeWith y bytes maxL ret hh :: ws') (hrc : rm.cells = mc) (hrs : rm.slots = ms)
    (hd : y.cls ≠ "java/lang/invoke/MethodHandle" ∧ y.cls ≠ "java/lang/invoke/VarHandle" ∧ (parseMethodDescriptor y.desc).map (fun d => d.parameters.length) = some n) (hR : rm.frames + 1 ≤ R.frames ∧ 8 + (maxL + 11) + rm.locals ≤ R.locals) :
    vx_CSW R s args own index y bytes maxL ret hh ws rm mc ms n := by
  have ok : ∀ w ∈ va_wsS own index y ws, w.before args s = true := fun w h => ht w (hT w h).1
  have hG : GoodIn Ts ws := fun w h => hT w (by unfold va_wsS; exact List.mem_append_right _ h)
  have hc : Cond.codeWith y bytes maxL ret hh ∈ ws := by rw [hw]; exact List.mem_cons_self
  refine ⟨⟨hrc, hrs, hR.1, hR.2, pay_in ht hG, hc⟩, ht _ (hG _ hc).1, ok _ (by simp [va_wsS]), ⟨hd.1, hd.2.1⟩, fun sig h => ?_, ok _ (by simp [va_wsS]), ok _ (by simp [va_wsS])⟩
  have h2 := hd.2.2
  rw [h] at h2
  exact (Option.some.inj h2).symm
theorem vx_callSW (X : Stand p l e R s m args below meth c T locs cells slots) (hexec : p.tables.exec = Jvm.exec) {own : String} {index : Nat} {y : MethodName} {bytes : ByteArray} {maxL : Nat} {ret : Option FieldType} {hh : List (Nat × Nat × Nat × Nat)}
    (hown : s.vm.findClass own = some m.cls) (hlink : (Cond.methodLink own index y).before args s = true) (hstat : (Cond.static y).before args s = true) (hinit : (Cond.initialized y.cls).before args s = true)
    (hcode : (Cond.codeWith y bytes maxL ret hh).before args s = true) (hy : y.cls ≠ "java/lang/invoke/MethodHandle" ∧ y.cls ≠ "java/lang/invoke/VarHandle")
    {W9 : Nat} {Pre : Pt → Array Value → Prop} {Post : Pt → Array Value → Option Value → Pt → Prop} (hK : Back l R p e below s args y 3 W9 Pre Post)
    {g : JFrame} (hg : g.method = m) (hsize : g.locals.size = c.maxLocals) {argsL rest : List Value} (hlen : ∀ sig, parseMethodDescriptor y.desc = some sig → argsL.length = sig.parameters.length)
    (hstack : g.stack = argsL.reverse ++ rest) (hW : 2 * g.monitorRoom + (rest.map fun v => v.category).sum ≤ W9) (hdg : decode c.code g.pc = .ok (.invokestatic index, 3))
    (hpre : ∀ vm₁, s.WarmedH vm₁ → Pre ⟨T.setVm vm₁, locs, cells, slots⟩ argsL.toArray) :
    ∃ (v : Option Value) (vm₁ : Vm) (B : Pt), s.WarmedH vm₁ ∧ Stand p l e R s m args below meth c B.U B.locs B.cells B.slots ∧ Post ⟨T.setVm vm₁, locs, cells, slots⟩ argsL.toArray v B ∧
      ∀ target, Steps p.tables e below (B.U.setTop { g with pc := g.pc + 3, stack := v.toList ++ rest }) target → Steps p.tables e below (T.setTop g) target := by
  obtain ⟨mk, methM, cM, hnamed, hmethM, -, -, -, -, -, -, hsigM⟩ := Cond.codeWith_spec hcode
  have hstatic : methM.isStatic = true := Cond.static_spec hnamed hmethM hstat
  obtain ⟨kP, hkP, -⟩ := className_of_methodNamed hnamed
  have hinitP : kP.init = .initialized := Cond.initialized_spec (findClass_of_methodNamed hnamed) hkP hinit
  obtain ⟨vm₁, X₁, hstep₁⟩ := X.invokestatic hexec hown hlink hnamed hmethM hstatic hkP hinitP hy (g := g) hg (argsL := argsL) (rest := rest) (hlen _ hsigM) hstack hdg
  obtain ⟨v, B, X', hpost, hsteps⟩ := hK m meth c ⟨T.setVm vm₁, locs, cells, slots⟩ { g with stack := rest } (.invokestatic index) mk argsL.toArray X₁ hg hsize hdg hW (X₁.named hnamed) (hpre vm₁ X₁.warmed)
  exact ⟨v, vm₁, B, X₁.warmed, X', hpost, fun target h => hstep₁ _ fun acts => by rw [doInvoke_state]; exact hsteps.trans h⟩
theorem vx_runSW {y : MethodName} {bytes cc : ByteArray} {maxL nL mc ms n index : Nat} {ret : Option FieldType} {hh : List (Nat × Nat × Nat × Nat)} {ws : List Cond} {rm : Room} {Pc : Array Value → State → Prop} {Qc : Array Value → State → Outcome → State → Prop} {free : Addr → Prop} {Ts : List Cond} {own : String} {As rest : List Value} {g : JFrame}
    (S : CallFix p m c cc nL s args Ts own) (hM : Met l y ws rm Pc Qc mc ms free) (cw : vx_CSW R s args own index y bytes maxL ret hh ws rm mc ms n) (hp : PreS s H Pc As)
    (hg : g.method = m) (hn : As.length = n) (hsize : g.locals.size = nL) (hstack : g.stack = As.reverse ++ rest) (hW : 2 * g.monitorRoom + (rest.map fun v => v.category).sum ≤ 8) (hdg : decode cc g.pc = .ok (.invokestatic index, 3)) (hf : cells + mc ≤ R.cells ∧ slots + ms ≤ R.slots) :
    va_Run p l e R s m args below meth c H locs cells slots mc ms g rest (Qc As.toArray) (free) := by
  obtain ⟨⟨hrc, hrs, hfr, hlo, hws, hcw⟩, hcode, hini, hy, hlen, hl, hstt⟩ := cw
  have hK : Back l R p e below s args y 3 8 (PreOf R mc ms Pc) (PostOf Qc mc ms free) := va_backW (hh := hh) (bytes := bytes) (maxL := maxL) (ret := ret) hM hp.1 hrc hrs hfr hlo hws hcw (fun a' U hW => word_at hW (Or.inl (by first | rfl | simp [Cond.onTables, Cond.keeps, Cond.steady])) hini)
  obtain ⟨hx, hb, hml, ho, -⟩ := S
  intro T hT X
  obtain ⟨v, vm₁, ⟨U', l2, c2, s2⟩, hW₁, X', ⟨g', mk, t, L, e1, e2, hq, h1, hL, h2, h3⟩, st⟩ := vx_callSW X hx (hh := hh) (bytes := bytes) (maxL := maxL) (ret := ret) ho hl hstt hini hcode hy hK hg (hsize.trans hml.symm) (argsL := As) (rest := rest) (fun sig h => hn.trans (hlen sig h)) hstack hW (by rw [hb]; exact hdg)
    (fun vm₁ hW₁ => ⟨hf.1, hf.2, hp.2 (T.setVm vm₁) hT hW₁⟩)
  dsimp only [Pt.U, Pt.locs, Pt.cells, Pt.slots] at X' e1 e2 h1 h2 h3 st
  subst h1; subst h2; subst h3
  exact ⟨v, (T.setVm vm₁).calling g' mk As.toArray, t, U', L, hT, X', hL, e1, e2, hq, st⟩
/-- not caught here, past rows that name other classes: it goes on to the caller -/
theorem vx_outP {p : Program} {l : Launch} {e : Env} {R : Room} {s : State} {m : MethodId} {args : Array Value} {below : List Frame} {meth : Method} {c : Code} {H : Heap} {locs : List Loc} {cells slots : Nat} {free : Addr → Prop} {ls : Array Slot} {rest : List Value} {Qc : Array Value → State → Outcome → State → Prop} {XC : String → State → State → Prop}
    {pc : Nat} {own E : String} {ce : Cell} {q : Addr} {mc ms : Nat} (hown : s.vm.findClass own = some m.cls) (hlocks : meth.locks = false)
    (hpass : ∀ z ∈ c.exceptionTable.toList, covers z pc = false ∨ (z.catchType ≠ 0 ∧ ∃ nm : String, (Cond.classLink own z.catchType nm).before args s = true ∧ va_Nc E nm s)) (hcell : H[q]? = some ce) (hv : ce.vm = .none) (hcl : s.vm.findClass E = some ce.cls)
    (hx : ∀ t : State, t.heap = H → s.vm.Alike t.vm → XC E s t) (hf : ∀ z ∈ locs, free z.base) (hc : cells ≤ mc) (hs : slots ≤ ms) :
    vx_W p l e R s m args below meth c H locs cells slots (vx_MQ below Qc XC args s mc ms free) (F0 m pc ls rest) q := by
  intro T hT X
  have hpl : e.platform.magicAccessors = ({} : Platform).magicAccessors := by rw [X.admits.platform]
  obtain ⟨vm', hW', X', st⟩ := X.outThrough hlocks q (g := F0 m pc ls rest) rfl rfl rfl (cell := ce) (by rw [hT]; exact hcell) (by rw [hv]; rfl)
    (by obtain ⟨k9, h9, -⟩ := Vm.findClass_spec hcl; exact ⟨k9, h9⟩) (fun z hz => by
      rcases hpass z hz with h | ⟨hz0, nm, hl1, hn1⟩
      · exact Or.inl h
      · obtain ⟨c6, hc6, hcl6⟩ := Cond.classLink_spec hown hl1 e.platform hpl
        obtain ⟨a8, b8, h1, h2, h3⟩ := hn1
        cases Option.some.inj (h1.symm.trans hcl)
        cases Option.some.inj (h2.symm.trans hc6)
        exact Or.inr ⟨hz0, _, hcl6, h3⟩)
  obtain ⟨g₀, hfr⟩ := X'.frames_eq
  have hcell9 : ((T.setVm vm').setFrames (.throwing q :: below)).heap[q]? = some ce := by
    show T.heap[q]? = some ce
    rw [hT]; exact hcell
  have hend : Ended ((T.setVm vm').setFrames (.throwing q :: below)) below (.threw q) := State.frames_setFrames _ (State.cur_lt_of_frames hfr)
  refine ⟨(T.setVm vm').setFrames (.throwing q :: below), ?_, .threw q, X'.here.running, hend, Or.inr ⟨q, rfl, E, ce, locs, hx _ hT (X'.ends _).1.alike, hcell9, hv, hcl, (X'.ends _).1, (X'.ends _).2.mono hc hs, hf⟩⟩
  rw [X.pushThrowing_eq]
  exact st
/-- a thing of a world lies in the heap -/
theorem vx_lt {D : va_G} {cl : List vw_C} {ws : va_W} {H1 : Heap} (h : va_P D cl ws H1) {k : Nat} {q : Nat × va_E} (hk : ws[k]? = some q) : q.1 < H1.size := (h k q hk).lt
end VXS
/-! ===== END ===== -/
/-! ===== BEGIN methods with a table of their own: called by a name, returning or throwing ===== -/
section VXH
/-! vx_backW, vx_callVX, vx_callSX, vx_callVW, vx_runVW, vx_runVX, vx_runSX, vx_ofWH follow the same proofs as their sisters above (Free/Laws.lean, Shelf42/LK1.lean); vx_outP calls Shelf42/NT130.lean (outThrough). -/
section
variable {l : Launch} {R : Room} {p : Program} {e : Env} {below : List Frame} {s : State} {sargs : Array Value} {y : MethodName} {len W9 : Nat}
theorem vx_backW {ws : List Cond} {rm : Room} {Pc : Array Value → State → Prop} {Qc : Array Value → State → Outcome → State → Prop} {XC : String → State → State → Prop} {mc ms : Nat} {free : Addr → Prop} {bytes : ByteArray} {maxL : Nat} {ret : Option FieldType} {hh : List (Nat × Nat × Nat × Nat)}
    (hM : vx_Met l y ws rm Pc Qc XC mc ms free) (hblind : FrameBlind Pc) (hrc : rm.cells = mc) (hrs : rm.slots = ms)
    (hframes : rm.frames + 1 ≤ R.frames) (hlocals : W9 + (maxL + 11) + rm.locals ≤ R.locals)
    (hws : ∀ w ∈ ws, ∀ a' U, s.WarmedH U.vm → w.before a' U = true) (hcode : Cond.codeWith y bytes maxL ret hh ∈ ws) (hinit : ∀ a' U, s.WarmedH U.vm → (Cond.initialized y.cls).before a' U = true) :
    vx_Back l R p e below s sargs y len W9 (PreOf R mc ms Pc) (PostOf Qc mc ms free) (vx_Post XC mc ms free) := by
  intro m meth c A g ig mk a X hg hsize hdg hW hn hp
  have h1 : (headSpec ws rm).pre.before a A.U = true := atoms_intro fun w hw => hws w hw _ _ X.warmed
  have h2 : (Cond.codeWith y bytes maxL ret hh).before a A.U = true := hws _ hcode _ _ X.warmed
  have h3 : (Cond.initialized y.cls).before a A.U = true := hinit _ _ X.warmed
  have h4 : A.cells + (headSpec ws rm).room.cells ≤ R.cells := by rw [show (headSpec ws rm).room.cells = mc from hrc]; exact hp.1
  have h5 : A.slots + (headSpec ws rm).room.slots ≤ R.slots := by rw [show (headSpec ws rm).room.slots = ms from hrs]; exact hp.2.1
  have hPc : Pc a (A.U.calling g mk a) := hblind _ _ _ _ hp.2.2
  obtain ⟨U, Ls, c0, s0⟩ := A
  dsimp only [Pt.U, Pt.locs, Pt.cells, Pt.slots] at h1 h2 h3 h4 h5 X hn hPc ⊢
  obtain ⟨m9, methY, cY, hn9, hmY, hcY, -, hlY, -⟩ := Cond.codeWith_spec h2
  cases Option.some.inj (hn9.symm.trans hn)
  obtain ⟨kY, hkY, -⟩ := className_of_methodNamed hn
  have hinitY : kY.init = .initialized := Cond.initialized_spec (findClass_of_methodNamed hn) hkY h3
  have h : At U g.method c below := by rw [hg]; exact X.here
  have hlocals9 : W9 + (maxL + 11) + (headSpec ws rm).room.locals ≤ R.locals := hlocals
  have happ : (headSpec ws rm).appliesLoose y e.platform (U.calling g mk a) = true :=
    Spec.appliesLoose_calling (g := g) h hdg hn hkY hinitY
      (X.room_calling (g := g) (R' := (headSpec ws rm).room) hsize hmY hcY hframes (by rw [hlY]; omega) h4 h5) h1
  obtain ⟨mid, hmid⟩ := h.above
  have hfr : (U.setTop g).frames = (.java g :: mid) ++ below := by rw [State.frames_setTop' g h.top, hmid]; rfl
  obtain ⟨o, s₂, hsteps, -, hend, hq⟩ := Steps.callFree hM p X.admits X.cas X.clock (acts := []) hfr happ hPc trivial
  have hq' : vx_Q Qc XC mc ms free a (U.calling g mk a) o s₂ := hq
  rw [State.frames_setTop' g h.top] at hend
  obtain ⟨g₀, hg0⟩ := Option.isSome_iff_exists.mp h.top
  obtain ⟨r, hr⟩ := State.topJava?_eq_some.mp hg0
  have hr' : (({ U with heap := s₂.heap, slotsUsed := s₂.slotsUsed } : State).setVm s₂.vm).frames = .java g₀ :: r := hr
  rcases hq' with ⟨hqc, L, hfe, hL⟩ | ⟨q, rfl, E, ce, L, hx, hce, hcv, hcl, hW₂, hsm, hL⟩
  · obtain ⟨⟨v, rfl⟩, hW₂, e2, q2, q3, q4, q5, q6⟩ := id hfe
    have e3 : s₂ = ({ (U.calling g mk a).setFrames s₂.frames with heap := s₂.heap, slotsUsed := s₂.slotsUsed } : State).setVm s₂.vm := by
      have : s₂ = ({ s₂ with vm := (U.calling g mk a).vm } : State).setVm s₂.vm := rfl
      rw [e2] at this
      exact this
    obtain ⟨c₂, i₂, len₂, hc₂, hd₂, hf₂⟩ := hend
    have hW' : U.WarmedH s₂.vm := hW₂
    have hcc : c₂ = c := by
      have h1 : s₂.code? g.method = U.code? g.method := by
        rw [State.code?_eq, State.code?_eq, hW'.alike.method?]
      exact Option.some.inj (hc₂.symm.trans (h1.trans h.code))
    subst hcc
    have hlen : len₂ = len := by rw [hdg] at hd₂; cases hd₂; rfl
    subst hlen
    have hs₂ : s₂ = (({ U with heap := s₂.heap, slotsUsed := s₂.slotsUsed } : State).setVm s₂.vm).setTop { g with pc := g.pc + len₂, stack := v.toList ++ g.stack } := by
      refine e3.trans ?_
      rw [hf₂, State.calling_eq h.top, State.setFrames_setFrames, State.setTop_of_frames _ hr', hr]
      rfl
    have hsame : U.sameButNew ({ U with heap := s₂.heap, slotsUsed := s₂.slotsUsed } : State) L mc ms := by
      refine ⟨?_, q2, q3, q4, q5, q6⟩
      obtain ⟨t, ht, -⟩ := State.frames_cons hr
      show ({ U with heap := s₂.heap, slotsUsed := s₂.slotsUsed } : State) = { U.setFrames U.frames with heap := s₂.heap, slotsUsed := s₂.slotsUsed }
      rw [State.setFrames_self ht]
    subst hg
    refine Or.inl ⟨v, ⟨(({ U with heap := s₂.heap, slotsUsed := s₂.slotsUsed } : State).setVm s₂.vm), Ls ++ L, c0 + mc, s0 + ms⟩,
      ⟨X.admits, X.cas, X.clock, X.frames, X.room, X.hears, X.method, X.code, (X.here.setHeapUsed s₂.heap s₂.slotsUsed).setVm hW'.alike, X.tail, State.WarmedH.trans X.warmed hW', X.limits, X.bytes, X.same.trans (hsame.setVm s.vm)⟩,
      ⟨g, mk, s₂, L, rfl, rfl, hqc, rfl, hL, rfl, rfl⟩, ?_⟩
    show Steps p.tables e below _ ((({ U with heap := s₂.heap, slotsUsed := s₂.slotsUsed } : State).setVm s₂.vm).setTop { g with pc := g.pc + len₂, stack := v.toList ++ g.stack })
    rw [← hs₂]
    exact hsteps
  · obtain ⟨e2, q2, q3, q4, q5, q6⟩ := id hsm
    have e3 : s₂ = ({ (U.calling g mk a).setFrames s₂.frames with heap := s₂.heap, slotsUsed := s₂.slotsUsed } : State).setVm s₂.vm := by
      have : s₂ = ({ s₂ with vm := (U.calling g mk a).vm } : State).setVm s₂.vm := rfl
      rw [e2] at this
      exact this
    have hf₂ : s₂.frames = .throwing q :: .java g :: U.frames.tail := hend
    have hW' : U.WarmedH s₂.vm := hW₂
    have hs₂ : s₂ = ((({ U with heap := s₂.heap, slotsUsed := s₂.slotsUsed } : State).setVm s₂.vm).setTop g).pushFrame (.throwing q) := by
      refine e3.trans ?_
      rw [hf₂, State.calling_eq h.top, State.setFrames_setFrames, State.pushFrame, State.frames_setTop _ hr', State.setTop_of_frames _ hr', State.setFrames_setFrames, hr]
      rfl
    have hsame : U.sameButNew ({ U with heap := s₂.heap, slotsUsed := s₂.slotsUsed } : State) L mc ms := by
      refine ⟨?_, q2, q3, q4, q5, q6⟩
      obtain ⟨t, ht, -⟩ := State.frames_cons hr
      show ({ U with heap := s₂.heap, slotsUsed := s₂.slotsUsed } : State) = { U.setFrames U.frames with heap := s₂.heap, slotsUsed := s₂.slotsUsed }
      rw [State.setFrames_self ht]
    subst hg
    refine Or.inr ⟨q, ⟨(({ U with heap := s₂.heap, slotsUsed := s₂.slotsUsed } : State).setVm s₂.vm), Ls ++ L, c0 + mc, s0 + ms⟩,
      ⟨X.admits, X.cas, X.clock, X.frames, X.room, X.hears, X.method, X.code, (X.here.setHeapUsed s₂.heap s₂.slotsUsed).setVm hW'.alike, X.tail, State.WarmedH.trans X.warmed hW', X.limits, X.bytes, X.same.trans (hsame.setVm s.vm)⟩,
      ⟨g, mk, s₂, L, E, ce, rfl, rfl, hx, hce, hcv, hcl, rfl, hL, rfl, rfl⟩, ?_⟩
    show Steps p.tables e below _ (((({ U with heap := s₂.heap, slotsUsed := s₂.slotsUsed } : State).setVm s₂.vm).setTop g).pushFrame (.throwing q))
    rw [← hs₂]
    exact hsteps
end
variable {p : Program} {l : Launch} {e : Env} {R : Room} {s : State} {m : MethodId} {args : Array Value} {below : List Frame} {meth : Method} {c : Code} {T : State} {H : Heap} {locs : List Loc} {cells slots : Nat}
theorem vx_callVX (X : Stand p l e R s m args below meth c T locs cells slots) (hexec : p.tables.exec = Jvm.exec) {own C : String} {index : Nat} {y : MethodName} {bytes : ByteArray} {maxL : Nat} {ret : Option FieldType} {hh : List (Nat × Nat × Nat × Nat)}
    (hown : s.vm.findClass own = some m.cls) (hlink : (Cond.methodLink own index y).before args s = true) (hinst : (Cond.instanceMethod y).before args s = true) (hsel : (Cond.selects C y y).before args s = true)
    (hcode : (Cond.codeWith y bytes maxL ret hh).before args s = true) (hy : y.cls ≠ "java/lang/invoke/MethodHandle" ∧ y.cls ≠ "java/lang/invoke/VarHandle")
    {W9 : Nat} {Pre : Pt → Array Value → Prop} {Post : Pt → Array Value → Option Value → Pt → Prop} {PostX : Pt → Array Value → Addr → Pt → Prop} (hK : vx_Back l R p e below s args y 3 W9 Pre Post PostX)
    {b : Addr} {cellB : Cell} (hcell : T.heap[b]? = some cellB) (hobj : cellB.vm.isStatics = false) (hcls : s.vm.findClass C = some cellB.cls)
    {g : JFrame} (hg : g.method = m) (hsize : g.locals.size = c.maxLocals) {argsL rest : List Value} (hlen : ∀ sig, parseMethodDescriptor y.desc = some sig → argsL.length = sig.parameters.length)
    (hstack : g.stack = argsL.reverse ++ .ref b :: rest) (hW : 2 * g.monitorRoom + (rest.map fun v => v.category).sum ≤ W9) (hdg : decode c.code g.pc = .ok (.invokevirtual index, 3))
    (hpre : ∀ vm₁, s.WarmedH vm₁ → Pre ⟨T.setVm vm₁, locs, cells, slots⟩ (Value.ref b :: argsL).toArray) :
    (∃ (v : Option Value) (vm₁ : Vm) (B : Pt), s.WarmedH vm₁ ∧ Stand p l e R s m args below meth c B.U B.locs B.cells B.slots ∧ Post ⟨T.setVm vm₁, locs, cells, slots⟩ (Value.ref b :: argsL).toArray v B ∧
      ∀ target, Steps p.tables e below (B.U.setTop { g with pc := g.pc + 3, stack := v.toList ++ rest }) target → Steps p.tables e below (T.setTop g) target) ∨
    (∃ (q : Addr) (vm₁ : Vm) (B : Pt), s.WarmedH vm₁ ∧ Stand p l e R s m args below meth c B.U B.locs B.cells B.slots ∧ PostX ⟨T.setVm vm₁, locs, cells, slots⟩ (Value.ref b :: argsL).toArray q B ∧
      Steps p.tables e below (T.setTop g) ((B.U.setTop { g with stack := rest }).pushFrame (.throwing q))) := by
  obtain ⟨mk, methM, hnamed, hmethM, hstM, habM⟩ := Cond.instanceMethod_spec hinst
  obtain ⟨m8, methM', cM, hn8, hmethM', -, -, -, -, -, -, hsigM⟩ := Cond.codeWith_spec hcode
  cases Option.some.inj (hn8.symm.trans hnamed)
  cases hmethM.symm.trans hmethM'
  obtain ⟨c2, r2, m2, q1, q2, q3, q4, kP, hkP, hkPi⟩ := Cond.selects_spec hsel
  cases hcls.symm.trans q1
  cases (State.methodFound?_of_named hnamed hy).symm.trans q2
  cases hnamed.symm.trans q3
  have hselP : selectMethod e.platform s.vm cellB.cls mk = .method mk := by rw [Launch.admits_selectMethod X.admits]; exact q4
  obtain ⟨vm₁, X₁, hstep₁⟩ := X.invokevirtual hexec hown hlink hnamed hmethM hstM hkP hkPi hy (a := b) (cell := cellB) hcell
    (fun z h => by rw [h] at hobj; cases hobj) hselP hmethM habM hkP hkPi (g := g) hg (argsL := argsL) (rest := rest) (hlen _ hsigM) hstack hdg
  rcases hK m meth c ⟨T.setVm vm₁, locs, cells, slots⟩ { g with stack := rest } (.invokevirtual index) mk (Value.ref b :: argsL).toArray X₁ hg hsize hdg hW (X₁.named hnamed) (hpre vm₁ X₁.warmed) with ⟨v, B, X', hpost, hsteps⟩ | ⟨q, B, X', hpost, hsteps⟩
  · exact Or.inl ⟨v, vm₁, B, X₁.warmed, X', hpost, fun target h => hstep₁ _ fun acts => by rw [doInvoke_state]; exact hsteps.trans h⟩
  · exact Or.inr ⟨q, vm₁, B, X₁.warmed, X', hpost, hstep₁ _ fun acts => by rw [doInvoke_state]; exact hsteps⟩
theorem vx_callSX (X : Stand p l e R s m args below meth c T locs cells slots) (hexec : p.tables.exec = Jvm.exec) {own : String} {index : Nat} {y : MethodName} {bytes : ByteArray} {maxL : Nat} {ret : Option FieldType} {hh : List (Nat × Nat × Nat × Nat)}
    (hown : s.vm.findClass own = some m.cls) (hlink : (Cond.methodLink own index y).before args s = true) (hstat : (Cond.static y).before args s = true) (hinit : (Cond.initialized y.cls).before args s = true)
    (hcode : (Cond.codeWith y bytes maxL ret hh).before args s = true) (hy : y.cls ≠ "java/lang/invoke/MethodHandle" ∧ y.cls ≠ "java/lang/invoke/VarHandle")
    {W9 : Nat} {Pre : Pt → Array Value → Prop} {Post : Pt → Array Value → Option Value → Pt → Prop} {PostX : Pt → Array Value → Addr → Pt → Prop} (hK : vx_Back l R p e below s args y 3 W9 Pre Post PostX)
    {g : JFrame} (hg : g.method = m) (hsize : g.locals.size = c.maxLocals) {argsL rest : List Value} (hlen : ∀ sig, parseMethodDescriptor y.desc = some sig → argsL.length = sig.parameters.length)
    (hstack : g.stack = argsL.reverse ++ rest) (hW : 2 * g.monitorRoom + (rest.map fun v => v.category).sum ≤ W9) (hdg : decode c.code g.pc = .ok (.invokestatic index, 3))
    (hpre : ∀ vm₁, s.WarmedH vm₁ → Pre ⟨T.setVm vm₁, locs, cells, slots⟩ argsL.toArray) :
    (∃ (v : Option Value) (vm₁ : Vm) (B : Pt), s.WarmedH vm₁ ∧ Stand p l e R s m args below meth c B.U B.locs B.cells B.slots ∧ Post ⟨T.setVm vm₁, locs, cells, slots⟩ argsL.toArray v B ∧
      ∀ target, Steps p.tables e below (B.U.setTop { g with pc := g.pc + 3, stack := v.toList ++ rest }) target → Steps p.tables e below (T.setTop g) target) ∨
    (∃ (q : Addr) (vm₁ : Vm) (B : Pt), s.WarmedH vm₁ ∧ Stand p l e R s m args below meth c B.U B.locs B.cells B.slots ∧ PostX ⟨T.setVm vm₁, locs, cells, slots⟩ argsL.toArray q B ∧
      Steps p.tables e below (T.setTop g) ((B.U.setTop { g with stack := rest }).pushFrame (.throwing q))) := by
  obtain ⟨mk, methM, cM, hnamed, hmethM, -, -, -, -, -, -, hsigM⟩ := Cond.codeWith_spec hcode
  have hstatic : methM.isStatic = true := Cond.static_spec hnamed hmethM hstat
  obtain ⟨kP, hkP, -⟩ := className_of_methodNamed hnamed
  have hinitP : kP.init = .initialized := Cond.initialized_spec (findClass_of_methodNamed hnamed) hkP hinit
  obtain ⟨vm₁, X₁, hstep₁⟩ := X.invokestatic hexec hown hlink hnamed hmethM hstatic hkP hinitP hy (g := g) hg (argsL := argsL) (rest := rest) (hlen _ hsigM) hstack hdg
  rcases hK m meth c ⟨T.setVm vm₁, locs, cells, slots⟩ { g with stack := rest } (.invokestatic index) mk argsL.toArray X₁ hg hsize hdg hW (X₁.named hnamed) (hpre vm₁ X₁.warmed) with ⟨v, B, X', hpost, hsteps⟩ | ⟨q, B, X', hpost, hsteps⟩
  · exact Or.inl ⟨v, vm₁, B, X₁.warmed, X', hpost, fun target h => hstep₁ _ fun acts => by rw [doInvoke_state]; exact hsteps.trans h⟩
  · exact Or.inr ⟨q, vm₁, B, X₁.warmed, X', hpost, hstep₁ _ fun acts => by rw [doInvoke_state]; exact hsteps⟩
theorem vx_callVW (X : Stand p l e R s m args below meth c T locs cells slots) (hexec : p.tables.exec = Jvm.exec) {own C : String} {index : Nat} {y : MethodName} {bytes : ByteArray} {maxL : Nat} {ret : Option FieldType} {hh : List (Nat × Nat × Nat × Nat)}
    (hown : s.vm.findClass own = some m.cls) (hlink : (Cond.methodLink own index y).before args s = true) (hinst : (Cond.instanceMethod y).before args s = true) (hsel : (Cond.selects C y y).before args s = true)
    (hcode : (Cond.codeWith y bytes maxL ret hh).before args s = true) (hy : y.cls ≠ "java/lang/invoke/MethodHandle" ∧ y.cls ≠ "java/lang/invoke/VarHandle")
    {W9 : Nat} {Pre : Pt → Array Value → Prop} {Post : Pt → Array Value → Option Value → Pt → Prop} (hK : Back l R p e below s args y 3 W9 Pre Post)
    {b : Addr} {cellB : Cell} (hcell : T.heap[b]? = some cellB) (hobj : cellB.vm.isStatics = false) (hcls : s.vm.findClass C = some cellB.cls)
    {g : JFrame} (hg : g.method = m) (hsize : g.locals.size = c.maxLocals) {argsL rest : List Value} (hlen : ∀ sig, parseMethodDescriptor y.desc = some sig → argsL.length = sig.parameters.length)
    (hstack : g.stack = argsL.reverse ++ .ref b :: rest) (hW : 2 * g.monitorRoom + (rest.map fun v => v.category).sum ≤ W9) (hdg : decode c.code g.pc = .ok (.invokevirtual index, 3))
    (hpre : ∀ vm₁, s.WarmedH vm₁ → Pre ⟨T.setVm vm₁, locs, cells, slots⟩ (Value.ref b :: argsL).toArray) :
    ∃ (v : Option Value) (vm₁ : Vm) (B : Pt), s.WarmedH vm₁ ∧ Stand p l e R s m args below meth c B.U B.locs B.cells B.slots ∧ Post ⟨T.setVm vm₁, locs, cells, slots⟩ (Value.ref b :: argsL).toArray v B ∧
      ∀ target, Steps p.tables e below (B.U.setTop { g with pc := g.pc + 3, stack := v.toList ++ rest }) target → Steps p.tables e below (T.setTop g) target := by
  obtain ⟨mk, methM, hnamed, hmethM, hstM, habM⟩ := Cond.instanceMethod_spec hinst
  obtain ⟨m8, methM', cM, hn8, hmethM', -, -, -, -, -, -, hsigM⟩ := Cond.codeWith_spec hcode
  cases Option.some.inj (hn8.symm.trans hnamed)
  cases hmethM.symm.trans hmethM'
  obtain ⟨c2, r2, m2, q1, q2, q3, q4, kP, hkP, hkPi⟩ := Cond.selects_spec hsel
  cases hcls.symm.trans q1
  cases (State.methodFound?_of_named hnamed hy).symm.trans q2
  cases hnamed.symm.trans q3
  have hselP : selectMethod e.platform s.vm cellB.cls mk = .method mk := by rw [Launch.admits_selectMethod X.admits]; exact q4
  obtain ⟨vm₁, X₁, hstep₁⟩ := X.invokevirtual hexec hown hlink hnamed hmethM hstM hkP hkPi hy (a := b) (cell := cellB) hcell
    (fun z h => by rw [h] at hobj; cases hobj) hselP hmethM habM hkP hkPi (g := g) hg (argsL := argsL) (rest := rest) (hlen _ hsigM) hstack hdg
  obtain ⟨v, B, X', hpost, hsteps⟩ := hK m meth c ⟨T.setVm vm₁, locs, cells, slots⟩ { g with stack := rest } (.invokevirtual index) mk (Value.ref b :: argsL).toArray X₁ hg hsize hdg hW (X₁.named hnamed) (hpre vm₁ X₁.warmed)
  exact ⟨v, vm₁, B, X₁.warmed, X', hpost, fun target h => hstep₁ _ fun acts => by rw [doInvoke_state]; exact hsteps.trans h⟩
abbrev vx_CVW (R : Room) (s : State) (args : Array Value) (own C : String) (index : Nat) (y : MethodName) (bytes : ByteArray) (maxL : Nat) (ret : Option FieldType) (hh : List (Nat × Nat × Nat × Nat)) (ws : List Cond) (rm : Room) (mc ms n : Nat) : Prop :=
  (rm.cells = mc ∧ rm.slots = ms ∧ rm.frames + 1 ≤ R.frames ∧ 8 + (maxL + 11) + rm.locals ≤ R.locals ∧ (∀ w ∈ ws, ∀ (a' : Array Value) (U : State), s.WarmedH U.vm → w.before a' U = true) ∧ Cond.codeWith y bytes maxL ret hh ∈ ws) ∧
  (Cond.codeWith y bytes maxL ret hh).before args s = true ∧ (Cond.initialized y.cls).before args s = true ∧ (y.cls ≠ "java/lang/invoke/MethodHandle" ∧ y.cls ≠ "java/lang/invoke/VarHandle") ∧
  (∀ sig, parseMethodDescriptor y.desc = some sig → n = sig.parameters.length) ∧ (Cond.methodLink own index y).before args s = true ∧ (Cond.instanceMethod y).before args s = true ∧ (Cond.selects C y y).before args s = true
theorem vx_cwVW {own C : String} {index maxL mc ms : Nat} {y : MethodName} {bytes : ByteArray} {ret : Option FieldType} {hh : List (Nat × Nat × Nat × Nat)} {Ts ws ws' : List Cond} {rm : Room} (n : Nat) (ht : ∀ w ∈ Ts, w.before args s = true) (hT : GoodIn Ts (wsV own index C y ws)) (hw : ws = Cond.codeWith y bytes maxL ret hh :: ws') (hrc : rm.cells = mc) (hrs : rm.slots = ms)
    (hd : y.cls = C ∧ y.cls ≠ "java/lang/invoke/MethodHandle" ∧ y.cls ≠ "java/lang/invoke/VarHandle" ∧ (parseMethodDescriptor y.desc).map (fun d => d.parameters.length) = some n) (hR : rm.frames + 1 ≤ R.frames ∧ 8 + (maxL + 11) + rm.locals ≤ R.locals) :
    vx_CVW R s args own C index y bytes maxL ret hh ws rm mc ms n := by
  obtain ⟨hC, hd⟩ := hd
  subst hC
  have ok : ∀ w ∈ wsV own index y.cls y ws, w.before args s = true := fun w h => ht w (hT w h).1
  have hG : GoodIn Ts ws := fun w h => hT w (by unfold wsV; exact List.mem_append_right _ h)
  have hc : Cond.codeWith y bytes maxL ret hh ∈ ws := by rw [hw]; exact List.mem_cons_self
  refine ⟨⟨hrc, hrs, hR.1, hR.2, pay_in ht hG, hc⟩, ht _ (hG _ hc).1, ok _ (by simp [wsV]), ⟨hd.1, hd.2.1⟩, fun sig h => ?_, ok _ (by simp [wsV]), ok _ (by simp [wsV]), ok _ (by simp [wsV])⟩
  have h2 := hd.2.2
  rw [h] at h2
  exact (Option.some.inj h2).symm
theorem vx_runVW {y : MethodName} {bytes cc : ByteArray} {maxL nL mc ms n index : Nat} {ret : Option FieldType} {hh : List (Nat × Nat × Nat × Nat)} {ws : List Cond} {rm : Room} {Pc : Array Value → State → Prop} {Qc : Array Value → State → Outcome → State → Prop} {free : Addr → Prop} {Ts : List Cond} {own C : String} {b : Addr} {As rest : List Value} {g : JFrame}
    (S : CallFix p m c cc nL s args Ts own) (hM : Met l y ws rm Pc Qc mc ms free) (cw : vx_CVW R s args own C index y bytes maxL ret hh ws rm mc ms n) (hp : PreV s H C b Pc As)
    (hg : g.method = m) (hn : As.length = n) (hsize : g.locals.size = nL) (hstack : g.stack = As.reverse ++ .ref b :: rest) (hW : 2 * g.monitorRoom + (rest.map fun v => v.category).sum ≤ 8) (hdg : decode cc g.pc = .ok (.invokevirtual index, 3)) (hf : cells + mc ≤ R.cells ∧ slots + ms ≤ R.slots) :
    va_Run p l e R s m args below meth c H locs cells slots mc ms g rest (Qc (Value.ref b :: As).toArray) free := by
  obtain ⟨⟨hrc, hrs, hfr, hlo, hws, hcw⟩, hcode, hini, hy, hlen, hl, hin, hse⟩ := cw
  have hK : Back l R p e below s args y 3 8 (PreOf R mc ms Pc) (PostOf Qc mc ms free) := va_backW (hh := hh) (bytes := bytes) (maxL := maxL) (ret := ret) hM hp.1 hrc hrs hfr hlo hws hcw (fun a' U hW => word_at hW (Or.inl (by first | rfl | simp [Cond.onTables, Cond.keeps, Cond.steady])) hini)
  obtain ⟨hx, hb, hml, ho, -⟩ := S
  obtain ⟨-, ⟨cellB, hcB, hoB, hclB⟩, hPc⟩ := hp
  intro T hT X
  obtain ⟨v, vm₁, ⟨U', l2, c2, s2⟩, hW₁, X', ⟨g', mk, t, L, e1, e2, hq, h1, hL, h2, h3⟩, st⟩ := vx_callVW X hx (C := C) (hh := hh) (bytes := bytes) (maxL := maxL) (ret := ret) ho hl hin hse hcode hy hK (by rw [hT]; exact hcB) hoB hclB hg (hsize.trans hml.symm) (argsL := As) (rest := rest) (fun sig h => hn.trans (hlen sig h)) hstack hW (by rw [hb]; exact hdg)
    (fun vm₁ hW₁ => ⟨hf.1, hf.2, hPc (T.setVm vm₁) hT hW₁⟩)
  dsimp only [Pt.U, Pt.locs, Pt.cells, Pt.slots] at X' e1 e2 h1 h2 h3 st
  subst h1; subst h2; subst h3
  exact ⟨v, (T.setVm vm₁).calling g' mk (Value.ref b :: As).toArray, t, U', L, hT, X', hL, e1, e2, hq, st⟩
section
variable {y : MethodName} {bytes cc : ByteArray} {maxL nL mc ms n index : Nat} {ret : Option FieldType} {ws : List Cond} {rm : Room} {Pc : Array Value → State → Prop} {Qc : Array Value → State → Outcome → State → Prop} {XC : String → State → State → Prop} {free : Addr → Prop} {Ts : List Cond} {own C : String} {b : Addr} {As rest : List Value} {g : JFrame}
theorem vx_runVX {hh : List (Nat × Nat × Nat × Nat)} (S : CallFix p m c cc nL s args Ts own) (hM : vx_Met l y ws rm Pc Qc XC mc ms free) (cw : vx_CVW R s args own C index y bytes maxL ret hh ws rm mc ms n) (hp : PreV s H C b Pc As)
    (hg : g.method = m) (hn : As.length = n) (hsize : g.locals.size = nL) (hstack : g.stack = As.reverse ++ .ref b :: rest) (hW : 2 * g.monitorRoom + (rest.map fun v => v.category).sum ≤ 8) (hdg : decode cc g.pc = .ok (.invokevirtual index, 3)) (hf : cells + mc ≤ R.cells ∧ slots + ms ≤ R.slots) :
    vx_Run p l e R s m args below meth c H locs cells slots mc ms g rest (Qc (Value.ref b :: As).toArray) XC free := by
  obtain ⟨⟨hrc, hrs, hfr, hlo, hws, hcw⟩, hcode, hini, hy, hlen, hl, hin, hse⟩ := cw
  have hK : vx_Back l R p e below s args y 3 8 (PreOf R mc ms Pc) (PostOf Qc mc ms free) (vx_Post XC mc ms free) := vx_backW (hh := hh) (bytes := bytes) (maxL := maxL) (ret := ret) hM hp.1 hrc hrs hfr hlo hws hcw (fun a' U hW => word_at hW (Or.inl (by first | rfl | simp [Cond.onTables, Cond.keeps, Cond.steady])) hini)
  obtain ⟨hx, hb, hml, ho, -⟩ := S
  obtain ⟨-, ⟨cellB, hcB, hoB, hclB⟩, hPc⟩ := hp
  intro T hT X
  rcases vx_callVX X hx (C := C) (hh := hh) (bytes := bytes) (maxL := maxL) (ret := ret) ho hl hin hse hcode hy hK (by rw [hT]; exact hcB) hoB hclB hg (hsize.trans hml.symm) (argsL := As) (rest := rest) (fun sig h => hn.trans (hlen sig h)) hstack hW (by rw [hb]; exact hdg)
    (fun vm₁ hW₁ => ⟨hf.1, hf.2, hPc (T.setVm vm₁) hT hW₁⟩) with ⟨v, vm₁, ⟨U', l2, c2, s2⟩, hW₁, X', ⟨g', mk, t, L, e1, e2, hq, h1, hL, h2, h3⟩, st⟩ | ⟨q, vm₁, ⟨U', l2, c2, s2⟩, hW₁, X', ⟨g', mk, t, L, E, ce, e1, e2, hq, hce, hcv, hcl, h1, hL, h2, h3⟩, st⟩
  · dsimp only [Pt.U, Pt.locs, Pt.cells, Pt.slots] at X' e1 e2 h1 h2 h3 st
    subst h1; subst h2; subst h3
    exact Or.inl ⟨v, (T.setVm vm₁).calling g' mk (Value.ref b :: As).toArray, t, U', L, hT, X', hL, e1, e2, hq, st⟩
  · dsimp only [Pt.U, Pt.locs, Pt.cells, Pt.slots] at X' e1 e2 h1 h2 h3 st hcl
    subst h1; subst h2; subst h3
    exact Or.inr ⟨q, (T.setVm vm₁).calling g' mk (Value.ref b :: As).toArray, t, U', L, E, ce, hT, X', hL, e1, e2, hq, hce, hcv, vx_cls hW₁ hcl, st⟩
theorem vx_runSX {hh : List (Nat × Nat × Nat × Nat)} (S : CallFix p m c cc nL s args Ts own) (hM : vx_Met l y ws rm Pc Qc XC mc ms free) (cw : vx_CSW R s args own index y bytes maxL ret hh ws rm mc ms n) (hp : PreS s H Pc As)
    (hg : g.method = m) (hn : As.length = n) (hsize : g.locals.size = nL) (hstack : g.stack = As.reverse ++ rest) (hW : 2 * g.monitorRoom + (rest.map fun v => v.category).sum ≤ 8) (hdg : decode cc g.pc = .ok (.invokestatic index, 3)) (hf : cells + mc ≤ R.cells ∧ slots + ms ≤ R.slots) :
    vx_Run p l e R s m args below meth c H locs cells slots mc ms g rest (Qc As.toArray) XC free := by
  obtain ⟨⟨hrc, hrs, hfr, hlo, hws, hcw⟩, hcode, hini, hy, hlen, hl, hstt⟩ := cw
  have hK : vx_Back l R p e below s args y 3 8 (PreOf R mc ms Pc) (PostOf Qc mc ms free) (vx_Post XC mc ms free) := vx_backW (hh := hh) (bytes := bytes) (maxL := maxL) (ret := ret) hM hp.1 hrc hrs hfr hlo hws hcw (fun a' U hW => word_at hW (Or.inl (by first | rfl | simp [Cond.onTables, Cond.keeps, Cond.steady])) hini)
  obtain ⟨hx, hb, hml, ho, -⟩ := S
  intro T hT X
  rcases vx_callSX X hx (hh := hh) (bytes := bytes) (maxL := maxL) (ret := ret) ho hl hstt hini hcode hy hK hg (hsize.trans hml.symm) (argsL := As) (rest := rest) (fun sig h => hn.trans (hlen sig h)) hstack hW (by rw [hb]; exact hdg)
    (fun vm₁ hW₁ => ⟨hf.1, hf.2, hp.2 (T.setVm vm₁) hT hW₁⟩) with ⟨v, vm₁, ⟨U', l2, c2, s2⟩, hW₁, X', ⟨g', mk, t, L, e1, e2, hq, h1, hL, h2, h3⟩, st⟩ | ⟨q, vm₁, ⟨U', l2, c2, s2⟩, hW₁, X', ⟨g', mk, t, L, E, ce, e1, e2, hq, hce, hcv, hcl, h1, hL, h2, h3⟩, st⟩
  · dsimp only [Pt.U, Pt.locs, Pt.cells, Pt.slots] at X' e1 e2 h1 h2 h3 st
    subst h1; subst h2; subst h3
    exact Or.inl ⟨v, (T.setVm vm₁).calling g' mk As.toArray, t, U', L, hT, X', hL, e1, e2, hq, st⟩
  · dsimp only [Pt.U, Pt.locs, Pt.cells, Pt.slots] at X' e1 e2 h1 h2 h3 st hcl
    subst h1; subst h2; subst h3
    exact Or.inr ⟨q, (T.setVm vm₁).calling g' mk As.toArray, t, U', L, E, ce, hT, X', hL, e1, e2, hq, hce, hcv, vx_cls hW₁ hcl, st⟩
end
end VXH
theorem vx_ofWH {l : Launch} {y : MethodName} {ws ws' : List Cond} {rm : Room} {Pc : Array Value → State → Prop} {Qc : Array Value → State → Outcome → State → Prop} {XC : String → State → State → Prop} {mc ms : Nat} {free : Addr → Prop} {cc : ByteArray} {maxL : Nat} {ret : Option FieldType} {hh : List (Nat × Nat × Nat × Nat)}
    (hy : plainName y.cls = true) (hw : ws = Cond.codeWith y cc maxL ret hh :: ws')
    (body : ∀ p e s m args below meth c s₁, BodyLoose p l y (headSpec ws rm) cc maxL ret e s m args below meth c s₁ → c.maxLocals = maxL → Pc args s →
      W p l e (headSpec ws rm).room s m args below meth c s.heap [] 0 0 (vx_MQ below Qc XC args s mc ms free) (entryFrame m args maxL)) : vx_Met l y ws rm Pc Qc XC mc ms free := by
  refine MetFree.of_bodyS (code := cc) (maxLocals := maxL) (ret := ret) hy ?_ ?_
  · intro args s m h hn
    obtain ⟨m9, meth, c, hn9, h1, h2, h3, h4, -, h5, h6, -⟩ := Cond.codeWith_spec (atoms_spec (ws := ws) h _ (by rw [hw]; exact List.mem_cons_self))
    cases hn.symm.trans hn9
    exact ⟨meth, c, h1, h2, h3, h4, h5, h6⟩
  · intro p e s m args below meth c s₁ B hml hP _
    have hh0 : s₁.heap = s.heap := by rw [B.state]; rfl
    obtain ⟨t, a1, o, b1, b2, b3⟩ := body p e s m args below meth c s₁ B hml hP s₁ hh0 (Stand.of_body B)
    exact ⟨t, o, a1, b1, b2, b3⟩
/-! ===== END ===== -/
end
section
def RX0 : String := "DrownedPost$Bins"
def TX0 : u_T := fun k => match k with
  | 0 => ("DrownedPost$Bins", "height", "[I", true)
  | 1 => ("DrownedPost$Bins", "room", "[I", true)
  | 2 => ("DrownedPost$Bins", "filled", "[I", true)
  | _ => ("DrownedPost$Bins", "count", "I", false)
def tyX0 : Nat → FieldType := fun k => match k with
  | 0 => .array .int
  | 1 => .array .int
  | 2 => .array .int
  | _ => .int
abbrev wsX00 : List Cond := u_ws RX0 TX0 4
theorem nmX0 : ∀ a, a < 4 → ∀ b, b < 4 → a ≠ b → (TX0 a).2.1 ≠ (TX0 b).2.1 := by decide +kernel
theorem tyX0_ok : ∀ k, k < 4 → parseFieldDescriptor (TX0 k).2.2.1 = some (tyX0 k) := by decide +kernel
abbrev cX0_init : ByteArray := prog_2_method_1_code
def yX0_init : MethodName := ⟨RX0, "<init>", "()V"⟩
abbrev cX0_has : ByteArray := prog_2_method_2_code
def yX0_has : MethodName := ⟨RX0, "has", "(I)Z"⟩
abbrev cX0_append : ByteArray := prog_2_method_3_code
def yX0_append : MethodName := ⟨RX0, "append", "(II)I"⟩
abbrev cX0_isUnder : ByteArray := prog_2_method_4_code
def yX0_isUnder : MethodName := ⟨RX0, "isUnder", "(II)Z"⟩
abbrev cX0_nearestWithRoom : ByteArray := prog_2_method_5_code
def yX0_nearestWithRoom : MethodName := ⟨RX0, "nearestWithRoom", "(I)I"⟩
abbrev cX0_isNearer : ByteArray := prog_2_method_6_code
def yX0_isNearer : MethodName := ⟨RX0, "isNearer", "(III)Z"⟩
abbrev cX0_copyFrom : ByteArray := prog_2_method_7_code
def yX0_copyFrom : MethodName := ⟨RX0, "copyFrom", "(LDrownedPost$Bins;)V"⟩
def RX1 : String := "DrownedPost$Drowned"
def TX1 : u_T := fun k => match k with
  | 0 => ("DrownedPost$Drowned", "height", "[I", true)
  | 1 => ("DrownedPost$Drowned", "n", "[I", true)
  | 2 => ("DrownedPost$Drowned", "lag", "[I", true)
  | 3 => ("DrownedPost$Drowned", "got", "[I", true)
  | 4 => ("DrownedPost$Drowned", "written", "[I", true)
  | _ => ("DrownedPost$Drowned", "count", "I", false)
def tyX1 : Nat → FieldType := fun k => match k with
  | 0 => .array .int
  | 1 => .array .int
  | 2 => .array .int
  | 3 => .array .int
  | 4 => .array .int
  | _ => .int
abbrev wsX10 : List Cond := u_ws RX1 TX1 6
theorem nmX1 : ∀ a, a < 6 → ∀ b, b < 6 → a ≠ b → (TX1 a).2.1 ≠ (TX1 b).2.1 := by decide +kernel
theorem tyX1_ok : ∀ k, k < 6 → parseFieldDescriptor (TX1 k).2.2.1 = some (tyX1 k) := by decide +kernel
abbrev cX1_init : ByteArray := prog_3_method_1_code
def yX1_init : MethodName := ⟨RX1, "<init>", "()V"⟩
abbrev cX1_has : ByteArray := prog_3_method_2_code
def yX1_has : MethodName := ⟨RX1, "has", "(I)Z"⟩
abbrev cX1_append : ByteArray := prog_3_method_3_code
def yX1_append : MethodName := ⟨RX1, "append", "(III)I"⟩
abbrev cX1_heightOf : ByteArray := prog_3_method_4_code
def yX1_heightOf : MethodName := ⟨RX1, "heightOf", "(I)I"⟩
abbrev cX1_gets : ByteArray := prog_3_method_5_code
def yX1_gets : MethodName := ⟨RX1, "gets", "(I)Z"⟩
abbrev cX1_fact : ByteArray := prog_3_method_6_code
def yX1_fact : MethodName := ⟨RX1, "fact", "(II)I"⟩
abbrev cX1_digestFrom : ByteArray := prog_3_method_7_code
def yX1_digestFrom : MethodName := ⟨RX1, "digestFrom", "(J)J"⟩
abbrev cX1_copyFrom : ByteArray := prog_3_method_8_code
def yX1_copyFrom : MethodName := ⟨RX1, "copyFrom", "(LDrownedPost$Drowned;)V"⟩
def RX2 : String := "DrownedPost$Letters"
def TX2 : u_T := fun k => match k with
  | 0 => ("DrownedPost$Letters", "to", "[I", true)
  | 1 => ("DrownedPost$Letters", "weight", "[I", true)
  | 2 => ("DrownedPost$Letters", "seal", "[I", true)
  | 3 => ("DrownedPost$Letters", "state", "[I", true)
  | 4 => ("DrownedPost$Letters", "growth", "[I", true)
  | 5 => ("DrownedPost$Letters", "bin", "[I", true)
  | 6 => ("DrownedPost$Letters", "held", "[I", true)
  | 7 => ("DrownedPost$Letters", "hoursBefore", "[I", true)
  | 8 => ("DrownedPost$Letters", "answered", "[I", true)
  | _ => ("DrownedPost$Letters", "count", "I", false)
def tyX2 : Nat → FieldType := fun k => match k with
  | 0 => .array .int
  | 1 => .array .int
  | 2 => .array .int
  | 3 => .array .int
  | 4 => .array .int
  | 5 => .array .int
  | 6 => .array .int
  | 7 => .array .int
  | 8 => .array .int
  | _ => .int
abbrev wsX20 : List Cond := u_ws RX2 TX2 10
theorem nmX2 : ∀ a, a < 10 → ∀ b, b < 10 → a ≠ b → (TX2 a).2.1 ≠ (TX2 b).2.1 := by decide +kernel
theorem tyX2_ok : ∀ k, k < 10 → parseFieldDescriptor (TX2 k).2.2.1 = some (tyX2 k) := by decide +kernel
abbrev cX2_init : ByteArray := prog_4_method_1_code
def yX2_init : MethodName := ⟨RX2, "<init>", "()V"⟩
abbrev cX2_has : ByteArray := prog_4_method_2_code
def yX2_has : MethodName := ⟨RX2, "has", "(I)Z"⟩
abbrev cX2_append : ByteArray := prog_4_method_3_code
def yX2_append : MethodName := ⟨RX2, "append", "(III)I"⟩
abbrev cX2_answer : ByteArray := prog_4_method_4_code
def yX2_answer : MethodName := ⟨RX2, "answer", "(II)Z"⟩
abbrev cX2_inState : ByteArray := prog_4_method_5_code
def yX2_inState : MethodName := ⟨RX2, "inState", "(I)I"⟩
abbrev cX2_growthInBins : ByteArray := prog_4_method_6_code
def yX2_growthInBins : MethodName := ⟨RX2, "growthInBins", "()I"⟩
abbrev cX2_growthIn : ByteArray := prog_4_method_7_code
def yX2_growthIn : MethodName := ⟨RX2, "growthIn", "(I)I"⟩
abbrev cX2_heaviestInOffice : ByteArray := prog_4_method_8_code
def yX2_heaviestInOffice : MethodName := ⟨RX2, "heaviestInOffice", "()I"⟩
abbrev cX2_fact : ByteArray := prog_4_method_9_code
def yX2_fact : MethodName := ⟨RX2, "fact", "(II)I"⟩
abbrev cX2_digestFrom : ByteArray := prog_4_method_10_code
def yX2_digestFrom : MethodName := ⟨RX2, "digestFrom", "(J)J"⟩
abbrev cX2_copyFrom : ByteArray := prog_4_method_11_code
def yX2_copyFrom : MethodName := ⟨RX2, "copyFrom", "(LDrownedPost$Letters;)V"⟩
def RX3 : String := "DrownedPost$Office"
def TX3 : u_T := fun k => match k with
  | 0 => ("DrownedPost$Office", "tides", "LDrownedPost$Tides;", true)
  | 1 => ("DrownedPost$Office", "bins", "LDrownedPost$Bins;", true)
  | 2 => ("DrownedPost$Office", "drowned", "LDrownedPost$Drowned;", true)
  | 3 => ("DrownedPost$Office", "letters", "LDrownedPost$Letters;", true)
  | 4 => ("DrownedPost$Office", "hour", "I", false)
  | 5 => ("DrownedPost$Office", "scrapers", "I", false)
  | 6 => ("DrownedPost$Office", "sorters", "I", false)
  | 7 => ("DrownedPost$Office", "sunk", "[I", true)
  | 8 => ("DrownedPost$Office", "sunkCount", "I", false)
  | _ => ("DrownedPost$Office", "scraped", "[Z", true)
def tyX3 : Nat → FieldType := fun k => match k with
  | 0 => .object "DrownedPost$Tides"
  | 1 => .object "DrownedPost$Bins"
  | 2 => .object "DrownedPost$Drowned"
  | 3 => .object "DrownedPost$Letters"
  | 4 => .int
  | 5 => .int
  | 6 => .int
  | 7 => .array .int
  | 8 => .int
  | _ => .array .boolean
abbrev wsX30 : List Cond := u_ws RX3 TX3 10
theorem nmX3 : ∀ a, a < 10 → ∀ b, b < 10 → a ≠ b → (TX3 a).2.1 ≠ (TX3 b).2.1 := by decide +kernel
theorem tyX3_ok : ∀ k, k < 10 → parseFieldDescriptor (TX3 k).2.2.1 = some (tyX3 k) := by decide +kernel
abbrev cX3_init : ByteArray := prog_5_method_1_code
def yX3_init : MethodName := ⟨RX3, "<init>", "()V"⟩
abbrev cX3_copyFrom : ByteArray := prog_5_method_2_code
def yX3_copyFrom : MethodName := ⟨RX3, "copyFrom", "(LDrownedPost$Office;)V"⟩
abbrev cX3_tideNow : ByteArray := prog_5_method_3_code
def yX3_tideNow : MethodName := ⟨RX3, "tideNow", "()I"⟩
abbrev cX3_letGoBy : ByteArray := prog_5_method_4_code
def yX3_letGoBy : MethodName := ⟨RX3, "letGoBy", "(I)I"⟩
abbrev cX3_liveOneHour : ByteArray := prog_5_method_5_code
def yX3_liveOneHour : MethodName := ⟨RX3, "liveOneHour", "()V"⟩
abbrev cX3_water : ByteArray := prog_5_method_6_code
def yX3_water : MethodName := ⟨RX3, "water", "(I)V"⟩
abbrev cX3_wash : ByteArray := prog_5_method_7_code
def yX3_wash : MethodName := ⟨RX3, "wash", "(II)V"⟩
abbrev cX3_leaveBin : ByteArray := prog_5_method_8_code
def yX3_leaveBin : MethodName := ⟨RX3, "leaveBin", "(II)V"⟩
abbrev cX3_writeAnswers : ByteArray := prog_5_method_9_code
def yX3_writeAnswers : MethodName := ⟨RX3, "writeAnswers", "()V"⟩
abbrev cX3_bringAnswersNearer : ByteArray := prog_5_method_10_code
def yX3_bringAnswersNearer : MethodName := ⟨RX3, "bringAnswersNearer", "(II)V"⟩
abbrev cX3_scrape : ByteArray := prog_5_method_11_code
def yX3_scrape : MethodName := ⟨RX3, "scrape", "(I)V"⟩
abbrev cX3_mostOvergrown : ByteArray := prog_5_method_12_code
def yX3_mostOvergrown : MethodName := ⟨RX3, "mostOvergrown", "(I)I"⟩
abbrev cX3_canBeScraped : ByteArray := prog_5_method_13_code
def yX3_canBeScraped : MethodName := ⟨RX3, "canBeScraped", "(II)Z"⟩
abbrev cX3_sort : ByteArray := prog_5_method_14_code
def yX3_sort : MethodName := ⟨RX3, "sort", "()V"⟩
abbrev cX3_hourOfReach : ByteArray := prog_5_method_15_code
def yX3_hourOfReach : MethodName := ⟨RX3, "hourOfReach", "(II)I"⟩
abbrev cX3_binFact : ByteArray := prog_5_method_16_code
def yX3_binFact : MethodName := ⟨RX3, "binFact", "(II)I"⟩
abbrev cX3_total : ByteArray := prog_5_method_17_code
def yX3_total : MethodName := ⟨RX3, "total", "(I)I"⟩
def RX4 : String := "DrownedPost$Tides"
def TX4 : u_T := fun k => match k with
  | 0 => ("DrownedPost$Tides", "heights", "[I", true)
  | _ => ("DrownedPost$Tides", "count", "I", false)
def tyX4 : Nat → FieldType := fun k => match k with
  | 0 => .array .int
  | _ => .int
abbrev wsX40 : List Cond := u_ws RX4 TX4 2
theorem nmX4 : ∀ a, a < 2 → ∀ b, b < 2 → a ≠ b → (TX4 a).2.1 ≠ (TX4 b).2.1 := by decide +kernel
theorem tyX4_ok : ∀ k, k < 2 → parseFieldDescriptor (TX4 k).2.2.1 = some (tyX4 k) := by decide +kernel
abbrev cX4_init : ByteArray := prog_6_method_1_code
def yX4_init : MethodName := ⟨RX4, "<init>", "()V"⟩
abbrev cX4_begin : ByteArray := prog_6_method_2_code
def yX4_begin : MethodName := ⟨RX4, "begin", "(I)V"⟩
abbrev cX4_append : ByteArray := prog_6_method_3_code
def yX4_append : MethodName := ⟨RX4, "append", "(I)V"⟩
abbrev cX4_heightIn : ByteArray := prog_6_method_4_code
def yX4_heightIn : MethodName := ⟨RX4, "heightIn", "(I)I"⟩
abbrev cX4_digestFrom : ByteArray := prog_6_method_5_code
def yX4_digestFrom : MethodName := ⟨RX4, "digestFrom", "(J)J"⟩
abbrev cX4_copyFrom : ByteArray := prog_6_method_6_code
def yX4_copyFrom : MethodName := ⟨RX4, "copyFrom", "(LDrownedPost$Tides;)V"⟩
def RX5 : String := "DrownedPost"
def TX5 : u_T := fun k => match k with
  | 0 => ("DrownedPost", "now", "LDrownedPost$Office;", true)
  | _ => ("DrownedPost", "ahead", "LDrownedPost$Office;", true)
def tyX5 : Nat → FieldType := fun k => match k with
  | 0 => .object "DrownedPost$Office"
  | _ => .object "DrownedPost$Office"
abbrev wsX50 : List Cond := u_ws RX5 TX5 2
theorem nmX5 : ∀ a, a < 2 → ∀ b, b < 2 → a ≠ b → (TX5 a).2.1 ≠ (TX5 b).2.1 := by decide +kernel
theorem tyX5_ok : ∀ k, k < 2 → parseFieldDescriptor (TX5 k).2.2.1 = some (tyX5 k) := by decide +kernel
abbrev cX5_init : ByteArray := prog_1_method_1_code
def yX5_init : MethodName := ⟨RX5, "<init>", "()V"⟩
abbrev cX5_beginTides : ByteArray := prog_1_method_2_code
def yX5_beginTides : MethodName := ⟨RX5, "beginTides", "(I)I"⟩
abbrev cX5_addTide : ByteArray := prog_1_method_3_code
def yX5_addTide : MethodName := ⟨RX5, "addTide", "(I)I"⟩
abbrev cX5_tide : ByteArray := prog_1_method_4_code
def yX5_tide : MethodName := ⟨RX5, "tide", "(I)I"⟩
abbrev cX5_addBin : ByteArray := prog_1_method_5_code
def yX5_addBin : MethodName := ⟨RX5, "addBin", "(II)I"⟩
abbrev cX5_setCrew : ByteArray := prog_1_method_6_code
def yX5_setCrew : MethodName := ⟨RX5, "setCrew", "(II)I"⟩
abbrev cX5_addDrowned : ByteArray := prog_1_method_7_code
def yX5_addDrowned : MethodName := ⟨RX5, "addDrowned", "(III)I"⟩
abbrev cX5_bring : ByteArray := prog_1_method_8_code
def yX5_bring : MethodName := ⟨RX5, "bring", "(III)I"⟩
abbrev cX5_takeOut : ByteArray := prog_1_method_9_code
def yX5_takeOut : MethodName := ⟨RX5, "takeOut", "(I)I"⟩
abbrev cX5_letter : ByteArray := prog_1_method_10_code
def yX5_letter : MethodName := ⟨RX5, "letter", "(II)I"⟩
abbrev cX5_drowned : ByteArray := prog_1_method_11_code
def yX5_drowned : MethodName := ⟨RX5, "drowned", "(II)I"⟩
abbrev cX5_bin : ByteArray := prog_1_method_12_code
def yX5_bin : MethodName := ⟨RX5, "bin", "(II)I"⟩
abbrev cX5_pass : ByteArray := prog_1_method_13_code
def yX5_pass : MethodName := ⟨RX5, "pass", "(I)I"⟩
abbrev cX5_count : ByteArray := prog_1_method_14_code
def yX5_count : MethodName := ⟨RX5, "count", "(I)I"⟩
abbrev cX5_binFor : ByteArray := prog_1_method_15_code
def yX5_binFor : MethodName := ⟨RX5, "binFor", "(I)I"⟩
abbrev cX5_foresee : ByteArray := prog_1_method_16_code
def yX5_foresee : MethodName := ⟨RX5, "foresee", "(II)I"⟩
abbrev cX5_fate : ByteArray := prog_1_method_17_code
def yX5_fate : MethodName := ⟨RX5, "fate", "(II)I"⟩
abbrev cX5_reaches : ByteArray := prog_1_method_18_code
def yX5_reaches : MethodName := ⟨RX5, "reaches", "(II)I"⟩
abbrev cX5_barnacles : ByteArray := prog_1_method_19_code
def yX5_barnacles : MethodName := ⟨RX5, "barnacles", "()D"⟩
abbrev cX5_digest : ByteArray := prog_1_method_20_code
def yX5_digest : MethodName := ⟨RX5, "digest", "()J"⟩
abbrev cX5_isWithin : ByteArray := prog_1_method_21_code
def yX5_isWithin : MethodName := ⟨RX5, "isWithin", "(III)Z"⟩
def RX6 : String := "DrownedPostModel"
def TX6 : u_T := fun k => match k with
  | 0 => ("DrownedPostModel", "thrown", "I", false)
  | 1 => ("DrownedPostModel", "hour", "I", false)
  | 2 => ("DrownedPostModel", "tides", "I", false)
  | 3 => ("DrownedPostModel", "tideTable", "[I", true)
  | 4 => ("DrownedPostModel", "bins", "I", false)
  | 5 => ("DrownedPostModel", "binTable", "[I", true)
  | 6 => ("DrownedPostModel", "drowned", "I", false)
  | 7 => ("DrownedPostModel", "ones", "[I", true)
  | 8 => ("DrownedPostModel", "letters", "I", false)
  | 9 => ("DrownedPostModel", "table", "[I", true)
  | 10 => ("DrownedPostModel", "scrapers", "I", false)
  | 11 => ("DrownedPostModel", "sorters", "I", false)
  | 12 => ("DrownedPostModel", "spareOnes", "[I", true)
  | 13 => ("DrownedPostModel", "spareTable", "[I", true)
  | _ => ("DrownedPostModel", "was", "[Z", true)
def tyX6 : Nat → FieldType := fun k => match k with
  | 0 => .int
  | 1 => .int
  | 2 => .int
  | 3 => .array .int
  | 4 => .int
  | 5 => .array .int
  | 6 => .int
  | 7 => .array .int
  | 8 => .int
  | 9 => .array .int
  | 10 => .int
  | 11 => .int
  | 12 => .array .int
  | 13 => .array .int
  | _ => .array .boolean
abbrev wsX60 : List Cond := u_ws RX6 TX6 15
theorem nmX6 : ∀ a, a < 15 → ∀ b, b < 15 → a ≠ b → (TX6 a).2.1 ≠ (TX6 b).2.1 := by decide +kernel
theorem tyX6_ok : ∀ k, k < 15 → parseFieldDescriptor (TX6 k).2.2.1 = some (tyX6 k) := by decide +kernel
abbrev cX6_init : ByteArray := prog_8_method_1_code
def yX6_init : MethodName := ⟨RX6, "<init>", "()V"⟩
abbrev cX6_thrown : ByteArray := prog_8_method_2_code
def yX6_thrown : MethodName := ⟨RX6, "thrown", "()I"⟩
abbrev cX6_fail : ByteArray := prog_8_method_3_code
def yX6_fail : MethodName := ⟨RX6, "fail", "(I)I"⟩
abbrev cX6_isIn : ByteArray := prog_8_method_4_code
def yX6_isIn : MethodName := ⟨RX6, "isIn", "(III)Z"⟩
abbrev cX6_isHeight : ByteArray := prog_8_method_5_code
def yX6_isHeight : MethodName := ⟨RX6, "isHeight", "(I)Z"⟩
abbrev cX6_get : ByteArray := prog_8_method_6_code
def yX6_get : MethodName := ⟨RX6, "get", "(II)I"⟩
abbrev cX6_set : ByteArray := prog_8_method_7_code
def yX6_set : MethodName := ⟨RX6, "set", "(III)V"⟩
abbrev cX6_isIn_ : ByteArray := prog_8_method_8_code
def yX6_isIn_ : MethodName := ⟨RX6, "isIn", "(II)Z"⟩
abbrev cX6_one : ByteArray := prog_8_method_9_code
def yX6_one : MethodName := ⟨RX6, "one", "(II)I"⟩
abbrev cX6_tideOf : ByteArray := prog_8_method_10_code
def yX6_tideOf : MethodName := ⟨RX6, "tideOf", "(I)I"⟩
abbrev cX6_isUnder : ByteArray := prog_8_method_11_code
def yX6_isUnder : MethodName := ⟨RX6, "isUnder", "(II)Z"⟩
abbrev cX6_beginTides : ByteArray := prog_8_method_12_code
def yX6_beginTides : MethodName := ⟨RX6, "beginTides", "(I)I"⟩
abbrev cX6_addTide : ByteArray := prog_8_method_13_code
def yX6_addTide : MethodName := ⟨RX6, "addTide", "(I)I"⟩
abbrev cX6_tide : ByteArray := prog_8_method_14_code
def yX6_tide : MethodName := ⟨RX6, "tide", "(I)I"⟩
abbrev cX6_addBin : ByteArray := prog_8_method_15_code
def yX6_addBin : MethodName := ⟨RX6, "addBin", "(II)I"⟩
abbrev cX6_setCrew : ByteArray := prog_8_method_16_code
def yX6_setCrew : MethodName := ⟨RX6, "setCrew", "(II)I"⟩
abbrev cX6_isOne : ByteArray := prog_8_method_17_code
def yX6_isOne : MethodName := ⟨RX6, "isOne", "(I)Z"⟩
abbrev cX6_isLetter : ByteArray := prog_8_method_18_code
def yX6_isLetter : MethodName := ⟨RX6, "isLetter", "(I)Z"⟩
abbrev cX6_addDrowned : ByteArray := prog_8_method_19_code
def yX6_addDrowned : MethodName := ⟨RX6, "addDrowned", "(III)I"⟩
abbrev cX6_add : ByteArray := prog_8_method_20_code
def yX6_add : MethodName := ⟨RX6, "add", "(IIIIII)V"⟩
abbrev cX6_bring : ByteArray := prog_8_method_21_code
def yX6_bring : MethodName := ⟨RX6, "bring", "(III)I"⟩
abbrev cX6_leave : ByteArray := prog_8_method_22_code
def yX6_leave : MethodName := ⟨RX6, "leave", "(II)I"⟩
abbrev cX6_takeOut : ByteArray := prog_8_method_23_code
def yX6_takeOut : MethodName := ⟨RX6, "takeOut", "(I)I"⟩
abbrev cX6_letter : ByteArray := prog_8_method_24_code
def yX6_letter : MethodName := ⟨RX6, "letter", "(II)I"⟩
abbrev cX6_drowned : ByteArray := prog_8_method_25_code
def yX6_drowned : MethodName := ⟨RX6, "drowned", "(II)I"⟩
abbrev cX6_sumOf : ByteArray := prog_8_method_26_code
def yX6_sumOf : MethodName := ⟨RX6, "sumOf", "(IZ)I"⟩
abbrev cX6_binTold : ByteArray := prog_8_method_27_code
def yX6_binTold : MethodName := ⟨RX6, "binTold", "(II)I"⟩
abbrev cX6_bin : ByteArray := prog_8_method_28_code
def yX6_bin : MethodName := ⟨RX6, "bin", "(II)I"⟩
abbrev cX6_water : ByteArray := prog_8_method_29_code
def yX6_water : MethodName := ⟨RX6, "water", "(II)V"⟩
abbrev cX6_answer : ByteArray := prog_8_method_30_code
def yX6_answer : MethodName := ⟨RX6, "answer", "(I)V"⟩
abbrev cX6_scrape : ByteArray := prog_8_method_31_code
def yX6_scrape : MethodName := ⟨RX6, "scrape", "(I)V"⟩
abbrev cX6_binOf : ByteArray := prog_8_method_32_code
def yX6_binOf : MethodName := ⟨RX6, "binOf", "(I)I"⟩
abbrev cX6_sort : ByteArray := prog_8_method_33_code
def yX6_sort : MethodName := ⟨RX6, "sort", "()V"⟩
abbrev cX6_passOne : ByteArray := prog_8_method_34_code
def yX6_passOne : MethodName := ⟨RX6, "passOne", "()V"⟩
abbrev cX6_many : ByteArray := prog_8_method_35_code
def yX6_many : MethodName := ⟨RX6, "many", "(I)I"⟩
abbrev cX6_pass : ByteArray := prog_8_method_36_code
def yX6_pass : MethodName := ⟨RX6, "pass", "(I)I"⟩
abbrev cX6_counted : ByteArray := prog_8_method_37_code
def yX6_counted : MethodName := ⟨RX6, "counted", "(I)I"⟩
abbrev cX6_count : ByteArray := prog_8_method_38_code
def yX6_count : MethodName := ⟨RX6, "count", "(I)I"⟩
abbrev cX6_binFor : ByteArray := prog_8_method_39_code
def yX6_binFor : MethodName := ⟨RX6, "binFor", "(I)I"⟩
abbrev cX6_ahead : ByteArray := prog_8_method_40_code
def yX6_ahead : MethodName := ⟨RX6, "ahead", "(III)I"⟩
abbrev cX6_foresee : ByteArray := prog_8_method_41_code
def yX6_foresee : MethodName := ⟨RX6, "foresee", "(II)I"⟩
abbrev cX6_fate : ByteArray := prog_8_method_42_code
def yX6_fate : MethodName := ⟨RX6, "fate", "(II)I"⟩
abbrev cX6_reaches : ByteArray := prog_8_method_43_code
def yX6_reaches : MethodName := ⟨RX6, "reaches", "(II)I"⟩
abbrev cX6_barnacles : ByteArray := prog_8_method_44_code
def yX6_barnacles : MethodName := ⟨RX6, "barnacles", "()D"⟩
abbrev cX6_digest : ByteArray := prog_8_method_45_code
def yX6_digest : MethodName := ⟨RX6, "digest", "()J"⟩
def RJ9 : String := "java/lang/Math"
def TJ9 : u_T := fun k => match k with
  | _ => ("", "", "", false)
def tyJ9 : Nat → FieldType := fun k => match k with
  | _ => .int
abbrev wsJ90 : List Cond := u_ws RJ9 TJ9 0
theorem nmJ9 : ∀ a, a < 0 → ∀ b, b < 0 → a ≠ b → (TJ9 a).2.1 ≠ (TJ9 b).2.1 := by decide +kernel
theorem tyJ9_ok : ∀ k, k < 0 → parseFieldDescriptor (TJ9 k).2.2.1 = some (tyJ9 k) := by decide +kernel
abbrev cJ9_floorMod_7cf53 : ByteArray := prog_13_method_50_code
def yJ9_floorMod_7cf53 : MethodName := ⟨RJ9, "floorMod", "(II)I"⟩
abbrev cJ9_abs_0f7a4 : ByteArray := prog_13_method_59_code
def yJ9_abs_0f7a4 : MethodName := ⟨RJ9, "abs", "(I)I"⟩
abbrev cJ9_max_7cf53 : ByteArray := prog_13_method_65_code
def yJ9_max_7cf53 : MethodName := ⟨RJ9, "max", "(II)I"⟩
def RJ0 : String := "java/lang/String"
def TJ0 : u_T := fun k => match k with
  | _ => ("", "", "", false)
def tyJ0 : Nat → FieldType := fun k => match k with
  | _ => .int
abbrev wsJ00 : List Cond := u_ws RJ0 TJ0 0
theorem nmJ0 : ∀ a, a < 0 → ∀ b, b < 0 → a ≠ b → (TJ0 a).2.1 ≠ (TJ0 b).2.1 := by decide +kernel
theorem tyJ0_ok : ∀ k, k < 0 → parseFieldDescriptor (TJ0 k).2.2.1 = some (tyJ0 k) := by decide +kernel
def RJ10 : String := "java/lang/System"
def TJ10 : u_T := fun k => match k with
  | _ => ("", "", "", false)
def tyJ10 : Nat → FieldType := fun k => match k with
  | _ => .int
abbrev wsJ100 : List Cond := u_ws RJ10 TJ10 0
theorem nmJ10 : ∀ a, a < 0 → ∀ b, b < 0 → a ≠ b → (TJ10 a).2.1 ≠ (TJ10 b).2.1 := by decide +kernel
theorem tyJ10_ok : ∀ k, k < 0 → parseFieldDescriptor (TJ10 k).2.2.1 = some (tyJ10 k) := by decide +kernel
def RL : String := "DrownedPostLaw"
abbrev cL_beginTides : ByteArray := method_3_code
def yL_beginTides : MethodName := ⟨RL, "beginTides", "(LDrownedPost;I[J)I"⟩
abbrev cL_addTide : ByteArray := method_4_code
def yL_addTide : MethodName := ⟨RL, "addTide", "(LDrownedPost;I[J)I"⟩
abbrev cL_tide : ByteArray := method_5_code
def yL_tide : MethodName := ⟨RL, "tide", "(LDrownedPost;I[J)I"⟩
abbrev cL_addBin : ByteArray := method_6_code
def yL_addBin : MethodName := ⟨RL, "addBin", "(LDrownedPost;II[J)I"⟩
abbrev cL_setCrew : ByteArray := method_7_code
def yL_setCrew : MethodName := ⟨RL, "setCrew", "(LDrownedPost;II[J)I"⟩
abbrev cL_addDrowned : ByteArray := method_8_code
def yL_addDrowned : MethodName := ⟨RL, "addDrowned", "(LDrownedPost;III[J)I"⟩
abbrev cL_bring : ByteArray := method_9_code
def yL_bring : MethodName := ⟨RL, "bring", "(LDrownedPost;III[J)I"⟩
abbrev cL_takeOut : ByteArray := method_10_code
def yL_takeOut : MethodName := ⟨RL, "takeOut", "(LDrownedPost;I[J)I"⟩
abbrev cL_letter : ByteArray := method_11_code
def yL_letter : MethodName := ⟨RL, "letter", "(LDrownedPost;II[J)I"⟩
abbrev cL_drowned : ByteArray := method_12_code
def yL_drowned : MethodName := ⟨RL, "drowned", "(LDrownedPost;II[J)I"⟩
abbrev cL_bin : ByteArray := method_13_code
def yL_bin : MethodName := ⟨RL, "bin", "(LDrownedPost;II[J)I"⟩
abbrev cL_pass : ByteArray := method_14_code
def yL_pass : MethodName := ⟨RL, "pass", "(LDrownedPost;I[J)I"⟩
abbrev cL_count : ByteArray := method_15_code
def yL_count : MethodName := ⟨RL, "count", "(LDrownedPost;I[J)I"⟩
abbrev cL_binFor : ByteArray := method_16_code
def yL_binFor : MethodName := ⟨RL, "binFor", "(LDrownedPost;I[J)I"⟩
abbrev cL_foresee : ByteArray := method_17_code
def yL_foresee : MethodName := ⟨RL, "foresee", "(LDrownedPost;II[J)I"⟩
abbrev cL_fate : ByteArray := method_18_code
def yL_fate : MethodName := ⟨RL, "fate", "(LDrownedPost;II[J)I"⟩
abbrev cL_reaches : ByteArray := method_19_code
def yL_reaches : MethodName := ⟨RL, "reaches", "(LDrownedPost;II[J)I"⟩
abbrev cL_law : ByteArray := code
def yL_law : MethodName := ⟨RL, "law", "([I)Z"⟩
def wsX0_init : List Cond := .code yX0_init cX0_init 1 none :: ([.methodLink RX0 3 objectInit, .instanceMethod objectInit, .code objectInit ⟨#[0xb1]⟩ 1 none, .arrayClass .int, .fieldLink RX0 9 "DrownedPost$Bins" "height" "[I", .fieldLink RX0 15 "DrownedPost$Bins" "room" "[I", .fieldLink RX0 18 "DrownedPost$Bins" "filled" "[I"] ++ wsX00)
def wsX0_has : List Cond := .code yX0_has cX0_has 2 (some .boolean) :: ([.fieldLink RX0 21 "DrownedPost$Bins" "count" "I"] ++ wsX00)
def wsX0_append : List Cond := .code yX0_append cX0_append 4 (some .int) :: ([.fieldLink RX0 21 "DrownedPost$Bins" "count" "I", .fieldLink RX0 9 "DrownedPost$Bins" "height" "[I", .fieldLink RX0 15 "DrownedPost$Bins" "room" "[I", .fieldLink RX0 18 "DrownedPost$Bins" "filled" "[I"] ++ wsX00)
def wsX0_isUnder : List Cond := .code yX0_isUnder cX0_isUnder 3 (some .boolean) :: ([.fieldLink RX0 21 "DrownedPost$Bins" "count" "I", .fieldLink RX0 9 "DrownedPost$Bins" "height" "[I"] ++ wsX00)
def wsX0_isNearer : List Cond := .code yX0_isNearer cX0_isNearer 6 (some .boolean) :: ([.fieldLink RX0 9 "DrownedPost$Bins" "height" "[I", .methodLink RX0 29 Lib.Math.abs.name, .static Lib.Math.abs.name, .initialized "java/lang/Math", .code Lib.Math.abs.name Lib.Math.abs.code 1 (some .int)] ++ wsX00)
def wsX0_nearestWithRoom : List Cond := .code yX0_nearestWithRoom cX0_nearestWithRoom 4 (some .int) :: ([.fieldLink RX0 21 "DrownedPost$Bins" "count" "I", .fieldLink RX0 18 "DrownedPost$Bins" "filled" "[I", .fieldLink RX0 15 "DrownedPost$Bins" "room" "[I", .methodLink RX0 25 yX0_isNearer, .instanceMethod yX0_isNearer, .selects RX0 yX0_isNearer yX0_isNearer, .initialized RX0, .code yX0_isNearer cX0_isNearer 6 (some .boolean), .fieldLink RX0 9 "DrownedPost$Bins" "height" "[I", .methodLink RX0 29 Lib.Math.abs.name, .static Lib.Math.abs.name, .initialized "java/lang/Math", .code Lib.Math.abs.name Lib.Math.abs.code 1 (some .int)] ++ wsX00)
def wsX0_copyFrom : List Cond := .code yX0_copyFrom cX0_copyFrom 2 none :: ([.fieldLink RX0 21 "DrownedPost$Bins" "count" "I", .fieldLink RX0 9 "DrownedPost$Bins" "height" "[I", .methodLink RX0 35 arraycopyName, .native arraycopyName, .static arraycopyName, .initialized "java/lang/System", .fieldLink RX0 15 "DrownedPost$Bins" "room" "[I", .fieldLink RX0 18 "DrownedPost$Bins" "filled" "[I"] ++ wsX00)
def wsX1_init : List Cond := .code yX1_init cX1_init 1 none :: ([.methodLink RX1 3 objectInit, .instanceMethod objectInit, .code objectInit ⟨#[0xb1]⟩ 1 none, .arrayClass .int, .fieldLink RX1 9 "DrownedPost$Drowned" "height" "[I", .fieldLink RX1 15 "DrownedPost$Drowned" "n" "[I", .fieldLink RX1 18 "DrownedPost$Drowned" "lag" "[I", .fieldLink RX1 21 "DrownedPost$Drowned" "got" "[I", .fieldLink RX1 24 "DrownedPost$Drowned" "written" "[I"] ++ wsX10)
def wsX1_has : List Cond := .code yX1_has cX1_has 2 (some .boolean) :: ([.fieldLink RX1 27 "DrownedPost$Drowned" "count" "I"] ++ wsX10)
def wsX1_append : List Cond := .code yX1_append cX1_append 5 (some .int) :: ([.fieldLink RX1 27 "DrownedPost$Drowned" "count" "I", .fieldLink RX1 9 "DrownedPost$Drowned" "height" "[I", .fieldLink RX1 15 "DrownedPost$Drowned" "n" "[I", .fieldLink RX1 18 "DrownedPost$Drowned" "lag" "[I", .fieldLink RX1 21 "DrownedPost$Drowned" "got" "[I", .fieldLink RX1 24 "DrownedPost$Drowned" "written" "[I"] ++ wsX10)
def wsX1_heightOf : List Cond := .code yX1_heightOf cX1_heightOf 2 (some .int) :: ([.fieldLink RX1 9 "DrownedPost$Drowned" "height" "[I", .methodLink RX1 31 yX1_has, .instanceMethod yX1_has, .selects RX1 yX1_has yX1_has, .initialized RX1, .code yX1_has cX1_has 2 (some .boolean), .fieldLink RX1 27 "DrownedPost$Drowned" "count" "I"] ++ wsX10)
def wsX1_gets : List Cond := .code yX1_gets cX1_gets 2 (some .boolean) :: ([.fieldLink RX1 21 "DrownedPost$Drowned" "got" "[I", .fieldLink RX1 15 "DrownedPost$Drowned" "n" "[I", .methodLink RX1 31 yX1_has, .instanceMethod yX1_has, .selects RX1 yX1_has yX1_has, .initialized RX1, .code yX1_has cX1_has 2 (some .boolean), .fieldLink RX1 27 "DrownedPost$Drowned" "count" "I"] ++ wsX10)
def wsX1_fact : List Cond := .code yX1_fact cX1_fact 3 (some .int) :: ([.fieldLink RX1 9 "DrownedPost$Drowned" "height" "[I", .fieldLink RX1 15 "DrownedPost$Drowned" "n" "[I", .fieldLink RX1 18 "DrownedPost$Drowned" "lag" "[I", .fieldLink RX1 21 "DrownedPost$Drowned" "got" "[I", .fieldLink RX1 24 "DrownedPost$Drowned" "written" "[I", .methodLink RX1 31 yX1_has, .instanceMethod yX1_has, .selects RX1 yX1_has yX1_has, .initialized RX1, .code yX1_has cX1_has 2 (some .boolean), .fieldLink RX1 27 "DrownedPost$Drowned" "count" "I"] ++ wsX10)
def wsX1_digestFrom : List Cond := .code yX1_digestFrom cX1_digestFrom 7 (some .long) :: ([.fieldLink RX1 27 "DrownedPost$Drowned" "count" "I", .constantLong RX1 35 (31), .methodLink RX1 37 yX1_fact, .instanceMethod yX1_fact, .selects RX1 yX1_fact yX1_fact, .initialized RX1, .code yX1_fact cX1_fact 3 (some .int), .fieldLink RX1 9 "DrownedPost$Drowned" "height" "[I", .fieldLink RX1 15 "DrownedPost$Drowned" "n" "[I", .fieldLink RX1 18 "DrownedPost$Drowned" "lag" "[I", .fieldLink RX1 21 "DrownedPost$Drowned" "got" "[I", .fieldLink RX1 24 "DrownedPost$Drowned" "written" "[I", .methodLink RX1 31 yX1_has, .instanceMethod yX1_has, .selects RX1 yX1_has yX1_has, .code yX1_has cX1_has 2 (some .boolean)] ++ wsX10)
def wsX1_copyFrom : List Cond := .code yX1_copyFrom cX1_copyFrom 2 none :: ([.fieldLink RX1 27 "DrownedPost$Drowned" "count" "I", .fieldLink RX1 9 "DrownedPost$Drowned" "height" "[I", .methodLink RX1 41 arraycopyName, .native arraycopyName, .static arraycopyName, .initialized "java/lang/System", .fieldLink RX1 15 "DrownedPost$Drowned" "n" "[I", .fieldLink RX1 18 "DrownedPost$Drowned" "lag" "[I", .fieldLink RX1 21 "DrownedPost$Drowned" "got" "[I", .fieldLink RX1 24 "DrownedPost$Drowned" "written" "[I"] ++ wsX10)
def wsX2_init : List Cond := .code yX2_init cX2_init 1 none :: ([.methodLink RX2 3 objectInit, .instanceMethod objectInit, .code objectInit ⟨#[0xb1]⟩ 1 none, .arrayClass .int, .fieldLink RX2 9 "DrownedPost$Letters" "to" "[I", .fieldLink RX2 15 "DrownedPost$Letters" "weight" "[I", .fieldLink RX2 18 "DrownedPost$Letters" "seal" "[I", .fieldLink RX2 21 "DrownedPost$Letters" "state" "[I", .fieldLink RX2 24 "DrownedPost$Letters" "growth" "[I", .fieldLink RX2 27 "DrownedPost$Letters" "bin" "[I", .fieldLink RX2 30 "DrownedPost$Letters" "held" "[I", .fieldLink RX2 33 "DrownedPost$Letters" "hoursBefore" "[I", .fieldLink RX2 36 "DrownedPost$Letters" "answered" "[I"] ++ wsX20)
def wsX2_has : List Cond := .code yX2_has cX2_has 2 (some .boolean) :: ([.fieldLink RX2 39 "DrownedPost$Letters" "count" "I"] ++ wsX20)
def wsX2_append : List Cond := .code yX2_append cX2_append 5 (some .int) :: ([.fieldLink RX2 39 "DrownedPost$Letters" "count" "I", .fieldLink RX2 9 "DrownedPost$Letters" "to" "[I", .fieldLink RX2 15 "DrownedPost$Letters" "weight" "[I", .fieldLink RX2 18 "DrownedPost$Letters" "seal" "[I", .fieldLink RX2 21 "DrownedPost$Letters" "state" "[I", .fieldLink RX2 24 "DrownedPost$Letters" "growth" "[I", .fieldLink RX2 27 "DrownedPost$Letters" "bin" "[I", .fieldLink RX2 30 "DrownedPost$Letters" "held" "[I", .fieldLink RX2 33 "DrownedPost$Letters" "hoursBefore" "[I", .fieldLink RX2 36 "DrownedPost$Letters" "answered" "[I"] ++ wsX20)
def wsX2_answer : List Cond := .code yX2_answer cX2_answer 4 (some .boolean) :: ([.fieldLink RX2 9 "DrownedPost$Letters" "to" "[I", .fieldLink RX2 15 "DrownedPost$Letters" "weight" "[I", .fieldLink RX2 18 "DrownedPost$Letters" "seal" "[I", .fieldLink RX2 21 "DrownedPost$Letters" "state" "[I", .fieldLink RX2 33 "DrownedPost$Letters" "hoursBefore" "[I", .fieldLink RX2 36 "DrownedPost$Letters" "answered" "[I", .methodLink RX2 43 yX2_has, .instanceMethod yX2_has, .selects RX2 yX2_has yX2_has, .initialized RX2, .code yX2_has cX2_has 2 (some .boolean), .fieldLink RX2 39 "DrownedPost$Letters" "count" "I", .methodLink RX2 47 yX2_append, .instanceMethod yX2_append, .selects RX2 yX2_append yX2_append, .code yX2_append cX2_append 5 (some .int), .fieldLink RX2 24 "DrownedPost$Letters" "growth" "[I", .fieldLink RX2 27 "DrownedPost$Letters" "bin" "[I", .fieldLink RX2 30 "DrownedPost$Letters" "held" "[I"] ++ wsX20)
def wsX2_inState : List Cond := .code yX2_inState cX2_inState 4 (some .int) :: ([.fieldLink RX2 39 "DrownedPost$Letters" "count" "I", .fieldLink RX2 21 "DrownedPost$Letters" "state" "[I"] ++ wsX20)
def wsX2_growthInBins : List Cond := .code yX2_growthInBins cX2_growthInBins 3 (some .int) :: ([.fieldLink RX2 39 "DrownedPost$Letters" "count" "I", .fieldLink RX2 21 "DrownedPost$Letters" "state" "[I", .fieldLink RX2 24 "DrownedPost$Letters" "growth" "[I"] ++ wsX20)
def wsX2_growthIn : List Cond := .code yX2_growthIn cX2_growthIn 4 (some .int) :: ([.fieldLink RX2 39 "DrownedPost$Letters" "count" "I", .fieldLink RX2 21 "DrownedPost$Letters" "state" "[I", .fieldLink RX2 27 "DrownedPost$Letters" "bin" "[I", .fieldLink RX2 24 "DrownedPost$Letters" "growth" "[I"] ++ wsX20)
def wsX2_heaviestInOffice : List Cond := .code yX2_heaviestInOffice cX2_heaviestInOffice 3 (some .int) :: ([.fieldLink RX2 39 "DrownedPost$Letters" "count" "I", .fieldLink RX2 21 "DrownedPost$Letters" "state" "[I", .fieldLink RX2 15 "DrownedPost$Letters" "weight" "[I"] ++ wsX20)
def wsX2_fact : List Cond := .code yX2_fact cX2_fact 3 (some .int) :: ([.fieldLink RX2 9 "DrownedPost$Letters" "to" "[I", .fieldLink RX2 15 "DrownedPost$Letters" "weight" "[I", .fieldLink RX2 18 "DrownedPost$Letters" "seal" "[I", .fieldLink RX2 21 "DrownedPost$Letters" "state" "[I", .fieldLink RX2 24 "DrownedPost$Letters" "growth" "[I", .fieldLink RX2 27 "DrownedPost$Letters" "bin" "[I", .fieldLink RX2 30 "DrownedPost$Letters" "held" "[I", .fieldLink RX2 33 "DrownedPost$Letters" "hoursBefore" "[I", .fieldLink RX2 36 "DrownedPost$Letters" "answered" "[I", .methodLink RX2 43 yX2_has, .instanceMethod yX2_has, .selects RX2 yX2_has yX2_has, .initialized RX2, .code yX2_has cX2_has 2 (some .boolean), .fieldLink RX2 39 "DrownedPost$Letters" "count" "I"] ++ wsX20)
def wsX2_digestFrom : List Cond := .code yX2_digestFrom cX2_digestFrom 7 (some .long) :: ([.fieldLink RX2 39 "DrownedPost$Letters" "count" "I", .constantLong RX2 51 (31), .methodLink RX2 53 yX2_fact, .instanceMethod yX2_fact, .selects RX2 yX2_fact yX2_fact, .initialized RX2, .code yX2_fact cX2_fact 3 (some .int), .fieldLink RX2 9 "DrownedPost$Letters" "to" "[I", .fieldLink RX2 15 "DrownedPost$Letters" "weight" "[I", .fieldLink RX2 18 "DrownedPost$Letters" "seal" "[I", .fieldLink RX2 21 "DrownedPost$Letters" "state" "[I", .fieldLink RX2 24 "DrownedPost$Letters" "growth" "[I", .fieldLink RX2 27 "DrownedPost$Letters" "bin" "[I", .fieldLink RX2 30 "DrownedPost$Letters" "held" "[I", .fieldLink RX2 33 "DrownedPost$Letters" "hoursBefore" "[I", .fieldLink RX2 36 "DrownedPost$Letters" "answered" "[I", .methodLink RX2 43 yX2_has, .instanceMethod yX2_has, .selects RX2 yX2_has yX2_has, .code yX2_has cX2_has 2 (some .boolean)] ++ wsX20)
def wsX2_copyFrom : List Cond := .code yX2_copyFrom cX2_copyFrom 2 none :: ([.fieldLink RX2 39 "DrownedPost$Letters" "count" "I", .fieldLink RX2 9 "DrownedPost$Letters" "to" "[I", .methodLink RX2 57 arraycopyName, .native arraycopyName, .static arraycopyName, .initialized "java/lang/System", .fieldLink RX2 15 "DrownedPost$Letters" "weight" "[I", .fieldLink RX2 18 "DrownedPost$Letters" "seal" "[I", .fieldLink RX2 21 "DrownedPost$Letters" "state" "[I", .fieldLink RX2 24 "DrownedPost$Letters" "growth" "[I", .fieldLink RX2 27 "DrownedPost$Letters" "bin" "[I", .fieldLink RX2 30 "DrownedPost$Letters" "held" "[I", .fieldLink RX2 33 "DrownedPost$Letters" "hoursBefore" "[I", .fieldLink RX2 36 "DrownedPost$Letters" "answered" "[I"] ++ wsX20)
def wsX4_init : List Cond := .code yX4_init cX4_init 1 none :: ([.methodLink RX4 3 objectInit, .instanceMethod objectInit, .code objectInit ⟨#[0xb1]⟩ 1 none, .arrayClass .int, .fieldLink RX4 9 "DrownedPost$Tides" "heights" "[I", .fieldLink RX4 18 "DrownedPost$Tides" "count" "I", .methodLink RX4 22 arraycopyName, .native arraycopyName, .static arraycopyName, .initialized "java/lang/System"] ++ wsX40)
def wsX3_init_r1 : List Cond := [Cond.methodLink RX3 3 objectInit, Cond.instanceMethod objectInit, Cond.code objectInit ⟨#[0xb1]⟩ 1 none, Cond.classLink RX3 9 RX4, Cond.instantiable RX4 2, Cond.initialized RX4, Cond.fieldLink RX3 12 "DrownedPost$Office" "tides" "LDrownedPost$Tides;", Cond.classLink RX3 18 RX0, Cond.instantiable RX0 4, Cond.initialized RX0, Cond.fieldLink RX3 21 "DrownedPost$Office" "bins" "LDrownedPost$Bins;", Cond.classLink RX3 25 RX1, Cond.instantiable RX1 6, Cond.initialized RX1, Cond.fieldLink RX3 28 "DrownedPost$Office" "drowned" "LDrownedPost$Drowned;", Cond.classLink RX3 32 RX2, Cond.instantiable RX2 10, Cond.initialized RX2, Cond.fieldLink RX3 35 "DrownedPost$Office" "letters" "LDrownedPost$Letters;", Cond.fieldLink RX3 39 "DrownedPost$Office" "scrapers" "I", Cond.fieldLink RX3 43 "DrownedPost$Office" "sorters" "I", Cond.arrayClass .int, Cond.fieldLink RX3 46 "DrownedPost$Office" "sunk" "[I", Cond.arrayClass .boolean]
def wsX3_init_r2 : List Cond := [Cond.fieldLink RX3 50 "DrownedPost$Office" "scraped" "[Z", Cond.methodLink RX3 11 yX4_init, Cond.instanceMethod yX4_init, Cond.code yX4_init cX4_init 1 none, Cond.methodLink RX4 3 objectInit, Cond.fieldLink RX4 9 "DrownedPost$Tides" "heights" "[I", Cond.fieldLink RX4 18 "DrownedPost$Tides" "count" "I", Cond.methodLink RX4 22 arraycopyName, Cond.native arraycopyName, Cond.static arraycopyName, Cond.initialized "java/lang/System", Cond.instanceMethod yX0_init, Cond.code yX0_init cX0_init 1 none, Cond.methodLink RX0 3 objectInit, Cond.fieldLink RX0 9 "DrownedPost$Bins" "height" "[I", Cond.fieldLink RX0 15 "DrownedPost$Bins" "room" "[I", Cond.fieldLink RX0 18 "DrownedPost$Bins" "filled" "[I", Cond.instanceMethod yX1_init, Cond.code yX1_init cX1_init 1 none, Cond.methodLink RX1 3 objectInit, Cond.fieldLink RX1 9 "DrownedPost$Drowned" "height" "[I", Cond.fieldLink RX1 15 "DrownedPost$Drowned" "n" "[I", Cond.fieldLink RX1 18 "DrownedPost$Drowned" "lag" "[I", Cond.fieldLink RX1 21 "DrownedPost$Drowned" "got" "[I"]
def wsX3_init_r3 : List Cond := [Cond.fieldLink RX1 24 "DrownedPost$Drowned" "written" "[I", Cond.instanceMethod yX2_init, Cond.code yX2_init cX2_init 1 none, Cond.methodLink RX2 3 objectInit, Cond.fieldLink RX2 9 "DrownedPost$Letters" "to" "[I", Cond.fieldLink RX2 15 "DrownedPost$Letters" "weight" "[I", Cond.fieldLink RX2 18 "DrownedPost$Letters" "seal" "[I", Cond.fieldLink RX2 21 "DrownedPost$Letters" "state" "[I", Cond.fieldLink RX2 24 "DrownedPost$Letters" "growth" "[I", Cond.fieldLink RX2 27 "DrownedPost$Letters" "bin" "[I", Cond.fieldLink RX2 30 "DrownedPost$Letters" "held" "[I", Cond.fieldLink RX2 33 "DrownedPost$Letters" "hoursBefore" "[I", Cond.fieldLink RX2 36 "DrownedPost$Letters" "answered" "[I"]
def wsX3_init : List Cond := .code yX3_init cX3_init 1 none :: ((wsX3_init_r1 ++ (wsX3_init_r2 ++ wsX3_init_r3)) ++ wsX40 ++ wsX30 ++ wsX00 ++ wsX10 ++ wsX20)
def wsX4_copyFrom : List Cond := .code yX4_copyFrom cX4_copyFrom 2 none :: ([.fieldLink RX4 18 "DrownedPost$Tides" "count" "I", .fieldLink RX4 9 "DrownedPost$Tides" "heights" "[I", .methodLink RX4 22 arraycopyName, .native arraycopyName, .static arraycopyName, .initialized "java/lang/System"] ++ wsX40)
def wsX3_copyFrom_r1 : List Cond := [Cond.fieldLink RX3 12 "DrownedPost$Office" "tides" "LDrownedPost$Tides;", Cond.fieldLink RX3 21 "DrownedPost$Office" "bins" "LDrownedPost$Bins;", Cond.fieldLink RX3 28 "DrownedPost$Office" "drowned" "LDrownedPost$Drowned;", Cond.fieldLink RX3 35 "DrownedPost$Office" "letters" "LDrownedPost$Letters;", Cond.fieldLink RX3 67 "DrownedPost$Office" "hour" "I", Cond.fieldLink RX3 39 "DrownedPost$Office" "scrapers" "I", Cond.fieldLink RX3 43 "DrownedPost$Office" "sorters" "I", Cond.methodLink RX3 54 yX4_copyFrom, Cond.instanceMethod yX4_copyFrom, Cond.selects RX4 yX4_copyFrom yX4_copyFrom, Cond.initialized RX4, Cond.code yX4_copyFrom cX4_copyFrom 2 none, Cond.fieldLink RX4 18 "DrownedPost$Tides" "count" "I", Cond.fieldLink RX4 9 "DrownedPost$Tides" "heights" "[I", Cond.methodLink RX4 22 arraycopyName, Cond.native arraycopyName, Cond.static arraycopyName, Cond.initialized "java/lang/System", Cond.methodLink RX3 58 yX0_copyFrom, Cond.instanceMethod yX0_copyFrom, Cond.selects RX0 yX0_copyFrom yX0_copyFrom, Cond.initialized RX0, Cond.code yX0_copyFrom cX0_copyFrom 2 none, Cond.fieldLink RX0 21 "DrownedPost$Bins" "count" "I"]
def wsX3_copyFrom_r2 : List Cond := [Cond.fieldLink RX0 9 "DrownedPost$Bins" "height" "[I", Cond.methodLink RX0 35 arraycopyName, Cond.fieldLink RX0 15 "DrownedPost$Bins" "room" "[I", Cond.fieldLink RX0 18 "DrownedPost$Bins" "filled" "[I", Cond.methodLink RX3 61 yX1_copyFrom, Cond.instanceMethod yX1_copyFrom, Cond.selects RX1 yX1_copyFrom yX1_copyFrom, Cond.initialized RX1, Cond.code yX1_copyFrom cX1_copyFrom 2 none, Cond.fieldLink RX1 27 "DrownedPost$Drowned" "count" "I", Cond.fieldLink RX1 9 "DrownedPost$Drowned" "height" "[I", Cond.methodLink RX1 41 arraycopyName, Cond.fieldLink RX1 15 "DrownedPost$Drowned" "n" "[I", Cond.fieldLink RX1 18 "DrownedPost$Drowned" "lag" "[I", Cond.fieldLink RX1 21 "DrownedPost$Drowned" "got" "[I", Cond.fieldLink RX1 24 "DrownedPost$Drowned" "written" "[I", Cond.methodLink RX3 64 yX2_copyFrom, Cond.instanceMethod yX2_copyFrom, Cond.selects RX2 yX2_copyFrom yX2_copyFrom, Cond.initialized RX2, Cond.code yX2_copyFrom cX2_copyFrom 2 none, Cond.fieldLink RX2 39 "DrownedPost$Letters" "count" "I", Cond.fieldLink RX2 9 "DrownedPost$Letters" "to" "[I", Cond.methodLink RX2 57 arraycopyName]
def wsX3_copyFrom_r3 : List Cond := [Cond.fieldLink RX2 15 "DrownedPost$Letters" "weight" "[I", Cond.fieldLink RX2 18 "DrownedPost$Letters" "seal" "[I", Cond.fieldLink RX2 21 "DrownedPost$Letters" "state" "[I", Cond.fieldLink RX2 24 "DrownedPost$Letters" "growth" "[I", Cond.fieldLink RX2 27 "DrownedPost$Letters" "bin" "[I", Cond.fieldLink RX2 30 "DrownedPost$Letters" "held" "[I", Cond.fieldLink RX2 33 "DrownedPost$Letters" "hoursBefore" "[I", Cond.fieldLink RX2 36 "DrownedPost$Letters" "answered" "[I"]
def wsX3_copyFrom : List Cond := .code yX3_copyFrom cX3_copyFrom 2 none :: ((wsX3_copyFrom_r1 ++ (wsX3_copyFrom_r2 ++ wsX3_copyFrom_r3)) ++ wsX30 ++ wsX40 ++ wsX00 ++ wsX10 ++ wsX20)
def wsJ9_floorMod_7cf53 : List Cond := .code yJ9_floorMod_7cf53 cJ9_floorMod_7cf53 3 (some .int) :: ([])
def wsX4_heightIn : List Cond := .code yX4_heightIn cX4_heightIn 2 (some .int) :: ([.fieldLink RX4 18 "DrownedPost$Tides" "count" "I", .fieldLink RX4 9 "DrownedPost$Tides" "heights" "[I", .methodLink RX4 28 yJ9_floorMod_7cf53, .static yJ9_floorMod_7cf53, .initialized RJ9, .code yJ9_floorMod_7cf53 cJ9_floorMod_7cf53 3 (some .int)] ++ wsX40)
def wsX3_tideNow : List Cond := .code yX3_tideNow cX3_tideNow 1 (some .int) :: ([.fieldLink RX3 12 "DrownedPost$Office" "tides" "LDrownedPost$Tides;", .fieldLink RX3 67 "DrownedPost$Office" "hour" "I", .methodLink RX3 70 yX4_heightIn, .instanceMethod yX4_heightIn, .selects RX4 yX4_heightIn yX4_heightIn, .initialized RX4, .code yX4_heightIn cX4_heightIn 2 (some .int), .fieldLink RX4 18 "DrownedPost$Tides" "count" "I", .fieldLink RX4 9 "DrownedPost$Tides" "heights" "[I", .methodLink RX4 28 yJ9_floorMod_7cf53, .static yJ9_floorMod_7cf53, .initialized RJ9, .code yJ9_floorMod_7cf53 cJ9_floorMod_7cf53 3 (some .int)] ++ wsX30 ++ wsX40)
def wsX3_leaveBin : List Cond := .code yX3_leaveBin cX3_leaveBin 4 none :: ([.fieldLink RX3 35 "DrownedPost$Office" "letters" "LDrownedPost$Letters;", .fieldLink RX3 110 "DrownedPost$Letters" "bin" "[I", .fieldLink RX3 21 "DrownedPost$Office" "bins" "LDrownedPost$Bins;", .fieldLink RX3 143 "DrownedPost$Bins" "filled" "[I", .fieldLink RX3 129 "DrownedPost$Letters" "held" "[I", .fieldLink RX3 104 "DrownedPost$Letters" "state" "[I", .methodLink RX3 138 yX2_has, .instanceMethod yX2_has, .selects RX2 yX2_has yX2_has, .initialized RX2, .code yX2_has cX2_has 2 (some .boolean), .fieldLink RX2 39 "DrownedPost$Letters" "count" "I", .methodLink RX3 142 yX0_has, .instanceMethod yX0_has, .selects RX0 yX0_has yX0_has, .initialized RX0, .code yX0_has cX0_has 2 (some .boolean), .fieldLink RX0 21 "DrownedPost$Bins" "count" "I"] ++ wsX30 ++ wsX20 ++ wsX00)
def wsX3_wash_r1 : List Cond := [Cond.fieldLink RX3 21 "DrownedPost$Office" "bins" "LDrownedPost$Bins;", Cond.fieldLink RX3 35 "DrownedPost$Office" "letters" "LDrownedPost$Letters;", Cond.fieldLink RX3 110 "DrownedPost$Letters" "bin" "[I", Cond.fieldLink RX3 117 "DrownedPost$Letters" "growth" "[I", Cond.fieldLink RX3 120 "DrownedPost$Letters" "weight" "[I", Cond.fieldLink RX3 28 "DrownedPost$Office" "drowned" "LDrownedPost$Drowned;", Cond.fieldLink RX3 123 "DrownedPost$Letters" "to" "[I", Cond.fieldLink RX3 129 "DrownedPost$Letters" "held" "[I", Cond.fieldLink RX3 132 "DrownedPost$Letters" "seal" "[I", Cond.fieldLink RX3 77 "DrownedPost$Office" "sunkCount" "I", Cond.fieldLink RX3 46 "DrownedPost$Office" "sunk" "[I", Cond.methodLink RX3 113 yX0_isUnder, Cond.instanceMethod yX0_isUnder, Cond.selects RX0 yX0_isUnder yX0_isUnder, Cond.initialized RX0, Cond.code yX0_isUnder cX0_isUnder 3 (some .boolean), Cond.fieldLink RX0 21 "DrownedPost$Bins" "count" "I", Cond.fieldLink RX0 9 "DrownedPost$Bins" "height" "[I", Cond.methodLink RX3 126 yX1_heightOf, Cond.instanceMethod yX1_heightOf, Cond.selects RX1 yX1_heightOf yX1_heightOf, Cond.initialized RX1, Cond.code yX1_heightOf cX1_heightOf 2 (some .int), Cond.fieldLink RX1 9 "DrownedPost$Drowned" "height" "[I"]
def wsX3_wash_r2 : List Cond := [Cond.methodLink RX1 31 yX1_has, Cond.instanceMethod yX1_has, Cond.selects RX1 yX1_has yX1_has, Cond.code yX1_has cX1_has 2 (some .boolean), Cond.fieldLink RX1 27 "DrownedPost$Drowned" "count" "I", Cond.methodLink RX3 135 yX3_leaveBin, Cond.instanceMethod yX3_leaveBin, Cond.selects RX3 yX3_leaveBin yX3_leaveBin, Cond.initialized RX3, Cond.code yX3_leaveBin cX3_leaveBin 4 none, Cond.fieldLink RX3 143 "DrownedPost$Bins" "filled" "[I", Cond.fieldLink RX3 104 "DrownedPost$Letters" "state" "[I", Cond.methodLink RX3 138 yX2_has, Cond.instanceMethod yX2_has, Cond.selects RX2 yX2_has yX2_has, Cond.initialized RX2, Cond.code yX2_has cX2_has 2 (some .boolean), Cond.fieldLink RX2 39 "DrownedPost$Letters" "count" "I", Cond.methodLink RX3 142 yX0_has, Cond.instanceMethod yX0_has, Cond.selects RX0 yX0_has yX0_has, Cond.code yX0_has cX0_has 2 (some .boolean)]
def wsX3_wash : List Cond := .code yX3_wash cX3_wash 5 none :: ((wsX3_wash_r1 ++ wsX3_wash_r2) ++ wsX30 ++ wsX20 ++ wsX00 ++ wsX10)
def wsX3_water_r1 : List Cond := [Cond.fieldLink RX3 77 "DrownedPost$Office" "sunkCount" "I", Cond.fieldLink RX3 35 "DrownedPost$Office" "letters" "LDrownedPost$Letters;", Cond.fieldLink RX3 84 "DrownedPost$Letters" "count" "I", Cond.fieldLink RX3 104 "DrownedPost$Letters" "state" "[I", Cond.methodLink RX3 107 yX3_wash, Cond.instanceMethod yX3_wash, Cond.selects RX3 yX3_wash yX3_wash, Cond.initialized RX3, Cond.code yX3_wash cX3_wash 5 none, Cond.fieldLink RX3 21 "DrownedPost$Office" "bins" "LDrownedPost$Bins;", Cond.fieldLink RX3 110 "DrownedPost$Letters" "bin" "[I", Cond.fieldLink RX3 117 "DrownedPost$Letters" "growth" "[I", Cond.fieldLink RX3 120 "DrownedPost$Letters" "weight" "[I", Cond.fieldLink RX3 28 "DrownedPost$Office" "drowned" "LDrownedPost$Drowned;", Cond.fieldLink RX3 123 "DrownedPost$Letters" "to" "[I", Cond.fieldLink RX3 129 "DrownedPost$Letters" "held" "[I", Cond.fieldLink RX3 132 "DrownedPost$Letters" "seal" "[I", Cond.fieldLink RX3 46 "DrownedPost$Office" "sunk" "[I", Cond.methodLink RX3 113 yX0_isUnder, Cond.instanceMethod yX0_isUnder, Cond.selects RX0 yX0_isUnder yX0_isUnder, Cond.initialized RX0, Cond.code yX0_isUnder cX0_isUnder 3 (some .boolean), Cond.fieldLink RX0 21 "DrownedPost$Bins" "count" "I"]
def wsX3_water_r2 : List Cond := [Cond.fieldLink RX0 9 "DrownedPost$Bins" "height" "[I", Cond.methodLink RX3 126 yX1_heightOf, Cond.instanceMethod yX1_heightOf, Cond.selects RX1 yX1_heightOf yX1_heightOf, Cond.initialized RX1, Cond.code yX1_heightOf cX1_heightOf 2 (some .int), Cond.fieldLink RX1 9 "DrownedPost$Drowned" "height" "[I", Cond.methodLink RX1 31 yX1_has, Cond.instanceMethod yX1_has, Cond.selects RX1 yX1_has yX1_has, Cond.code yX1_has cX1_has 2 (some .boolean), Cond.fieldLink RX1 27 "DrownedPost$Drowned" "count" "I", Cond.methodLink RX3 135 yX3_leaveBin, Cond.instanceMethod yX3_leaveBin, Cond.selects RX3 yX3_leaveBin yX3_leaveBin, Cond.code yX3_leaveBin cX3_leaveBin 4 none, Cond.fieldLink RX3 143 "DrownedPost$Bins" "filled" "[I", Cond.methodLink RX3 138 yX2_has, Cond.instanceMethod yX2_has, Cond.selects RX2 yX2_has yX2_has, Cond.initialized RX2, Cond.code yX2_has cX2_has 2 (some .boolean), Cond.fieldLink RX2 39 "DrownedPost$Letters" "count" "I", Cond.methodLink RX3 142 yX0_has]
def wsX3_water_r3 : List Cond := [Cond.instanceMethod yX0_has, Cond.selects RX0 yX0_has yX0_has, Cond.code yX0_has cX0_has 2 (some .boolean)]
def wsX3_water : List Cond := .code yX3_water cX3_water 3 none :: ((wsX3_water_r1 ++ (wsX3_water_r2 ++ wsX3_water_r3)) ++ wsX30 ++ wsX20 ++ wsX00 ++ wsX10)
def wsX3_writeAnswers_r1 : List Cond := [Cond.fieldLink RX3 77 "DrownedPost$Office" "sunkCount" "I", Cond.fieldLink RX3 46 "DrownedPost$Office" "sunk" "[I", Cond.fieldLink RX3 35 "DrownedPost$Office" "letters" "LDrownedPost$Letters;", Cond.fieldLink RX3 123 "DrownedPost$Letters" "to" "[I", Cond.fieldLink RX3 28 "DrownedPost$Office" "drowned" "LDrownedPost$Drowned;", Cond.fieldLink RX3 149 "DrownedPost$Drowned" "lag" "[I", Cond.fieldLink RX3 155 "DrownedPost$Drowned" "written" "[I", Cond.methodLink RX3 138 yX2_has, Cond.instanceMethod yX2_has, Cond.selects RX2 yX2_has yX2_has, Cond.initialized RX2, Cond.code yX2_has cX2_has 2 (some .boolean), Cond.fieldLink RX2 39 "DrownedPost$Letters" "count" "I", Cond.methodLink RX3 146 yX1_gets, Cond.instanceMethod yX1_gets, Cond.selects RX1 yX1_gets yX1_gets, Cond.initialized RX1, Cond.code yX1_gets cX1_gets 2 (some .boolean), Cond.fieldLink RX1 21 "DrownedPost$Drowned" "got" "[I", Cond.fieldLink RX1 15 "DrownedPost$Drowned" "n" "[I", Cond.methodLink RX1 31 yX1_has, Cond.instanceMethod yX1_has, Cond.selects RX1 yX1_has yX1_has, Cond.code yX1_has cX1_has 2 (some .boolean)]
def wsX3_writeAnswers_r2 : List Cond := [Cond.fieldLink RX1 27 "DrownedPost$Drowned" "count" "I", Cond.methodLink RX3 152 yX2_answer, Cond.instanceMethod yX2_answer, Cond.selects RX2 yX2_answer yX2_answer, Cond.code yX2_answer cX2_answer 4 (some .boolean), Cond.fieldLink RX2 9 "DrownedPost$Letters" "to" "[I", Cond.fieldLink RX2 15 "DrownedPost$Letters" "weight" "[I", Cond.fieldLink RX2 18 "DrownedPost$Letters" "seal" "[I", Cond.fieldLink RX2 21 "DrownedPost$Letters" "state" "[I", Cond.fieldLink RX2 33 "DrownedPost$Letters" "hoursBefore" "[I", Cond.fieldLink RX2 36 "DrownedPost$Letters" "answered" "[I", Cond.methodLink RX2 43 yX2_has, Cond.methodLink RX2 47 yX2_append, Cond.instanceMethod yX2_append, Cond.selects RX2 yX2_append yX2_append, Cond.code yX2_append cX2_append 5 (some .int), Cond.fieldLink RX2 24 "DrownedPost$Letters" "growth" "[I", Cond.fieldLink RX2 27 "DrownedPost$Letters" "bin" "[I", Cond.fieldLink RX2 30 "DrownedPost$Letters" "held" "[I"]
def wsX3_writeAnswers : List Cond := .code yX3_writeAnswers cX3_writeAnswers 4 none :: ((wsX3_writeAnswers_r1 ++ wsX3_writeAnswers_r2) ++ wsX30 ++ wsX20 ++ wsX10)
def wsX3_bringAnswersNearer : List Cond := .code yX3_bringAnswersNearer cX3_bringAnswersNearer 4 none :: ([.fieldLink RX3 35 "DrownedPost$Office" "letters" "LDrownedPost$Letters;", .fieldLink RX3 104 "DrownedPost$Letters" "state" "[I", .fieldLink RX3 158 "DrownedPost$Letters" "hoursBefore" "[I"] ++ wsX30 ++ wsX20)
def wsX3_canBeScraped : List Cond := .code yX3_canBeScraped cX3_canBeScraped 3 (some .boolean) :: ([.fieldLink RX3 35 "DrownedPost$Office" "letters" "LDrownedPost$Letters;", .fieldLink RX3 104 "DrownedPost$Letters" "state" "[I", .fieldLink RX3 50 "DrownedPost$Office" "scraped" "[Z", .fieldLink RX3 21 "DrownedPost$Office" "bins" "LDrownedPost$Bins;", .fieldLink RX3 110 "DrownedPost$Letters" "bin" "[I", .methodLink RX3 113 yX0_isUnder, .instanceMethod yX0_isUnder, .selects RX0 yX0_isUnder yX0_isUnder, .initialized RX0, .code yX0_isUnder cX0_isUnder 3 (some .boolean), .fieldLink RX0 21 "DrownedPost$Bins" "count" "I", .fieldLink RX0 9 "DrownedPost$Bins" "height" "[I"] ++ wsX30 ++ wsX20 ++ wsX00)
def wsX3_mostOvergrown : List Cond := .code yX3_mostOvergrown cX3_mostOvergrown 5 (some .int) :: ([.fieldLink RX3 35 "DrownedPost$Office" "letters" "LDrownedPost$Letters;", .fieldLink RX3 84 "DrownedPost$Letters" "count" "I", .fieldLink RX3 117 "DrownedPost$Letters" "growth" "[I", .methodLink RX3 170 yX3_canBeScraped, .instanceMethod yX3_canBeScraped, .selects RX3 yX3_canBeScraped yX3_canBeScraped, .initialized RX3, .code yX3_canBeScraped cX3_canBeScraped 3 (some .boolean), .fieldLink RX3 104 "DrownedPost$Letters" "state" "[I", .fieldLink RX3 50 "DrownedPost$Office" "scraped" "[Z", .fieldLink RX3 21 "DrownedPost$Office" "bins" "LDrownedPost$Bins;", .fieldLink RX3 110 "DrownedPost$Letters" "bin" "[I", .methodLink RX3 113 yX0_isUnder, .instanceMethod yX0_isUnder, .selects RX0 yX0_isUnder yX0_isUnder, .initialized RX0, .code yX0_isUnder cX0_isUnder 3 (some .boolean), .fieldLink RX0 21 "DrownedPost$Bins" "count" "I", .fieldLink RX0 9 "DrownedPost$Bins" "height" "[I"] ++ wsX30 ++ wsX20 ++ wsX00)
def wsX3_scrape_r1 : List Cond := [Cond.fieldLink RX3 35 "DrownedPost$Office" "letters" "LDrownedPost$Letters;", Cond.fieldLink RX3 84 "DrownedPost$Letters" "count" "I", Cond.fieldLink RX3 50 "DrownedPost$Office" "scraped" "[Z", Cond.fieldLink RX3 39 "DrownedPost$Office" "scrapers" "I", Cond.fieldLink RX3 117 "DrownedPost$Letters" "growth" "[I", Cond.methodLink RX3 164 Lib.Math.max.name, Cond.static Lib.Math.max.name, Cond.initialized "java/lang/Math", Cond.code Lib.Math.max.name Lib.Math.max.code 2 (some .int), Cond.methodLink RX3 161 yX3_mostOvergrown, Cond.instanceMethod yX3_mostOvergrown, Cond.selects RX3 yX3_mostOvergrown yX3_mostOvergrown, Cond.initialized RX3, Cond.code yX3_mostOvergrown cX3_mostOvergrown 5 (some .int), Cond.methodLink RX3 170 yX3_canBeScraped, Cond.instanceMethod yX3_canBeScraped, Cond.selects RX3 yX3_canBeScraped yX3_canBeScraped, Cond.code yX3_canBeScraped cX3_canBeScraped 3 (some .boolean), Cond.fieldLink RX3 104 "DrownedPost$Letters" "state" "[I", Cond.fieldLink RX3 21 "DrownedPost$Office" "bins" "LDrownedPost$Bins;", Cond.fieldLink RX3 110 "DrownedPost$Letters" "bin" "[I", Cond.methodLink RX3 113 yX0_isUnder, Cond.instanceMethod yX0_isUnder, Cond.selects RX0 yX0_isUnder yX0_isUnder]
def wsX3_scrape_r2 : List Cond := [Cond.initialized RX0, Cond.code yX0_isUnder cX0_isUnder 3 (some .boolean), Cond.fieldLink RX0 21 "DrownedPost$Bins" "count" "I", Cond.fieldLink RX0 9 "DrownedPost$Bins" "height" "[I", Cond.methodLink RX3 138 yX2_has, Cond.instanceMethod yX2_has, Cond.selects RX2 yX2_has yX2_has, Cond.initialized RX2, Cond.code yX2_has cX2_has 2 (some .boolean), Cond.fieldLink RX2 39 "DrownedPost$Letters" "count" "I"]
def wsX3_scrape : List Cond := .code yX3_scrape cX3_scrape 4 none :: ((wsX3_scrape_r1 ++ wsX3_scrape_r2) ++ wsX30 ++ wsX20 ++ wsX00)
def wsX3_sort_r1 : List Cond := [Cond.fieldLink RX3 43 "DrownedPost$Office" "sorters" "I", Cond.fieldLink RX3 35 "DrownedPost$Office" "letters" "LDrownedPost$Letters;", Cond.fieldLink RX3 21 "DrownedPost$Office" "bins" "LDrownedPost$Bins;", Cond.fieldLink RX3 28 "DrownedPost$Office" "drowned" "LDrownedPost$Drowned;", Cond.fieldLink RX3 123 "DrownedPost$Letters" "to" "[I", Cond.fieldLink RX3 104 "DrownedPost$Letters" "state" "[I", Cond.fieldLink RX3 110 "DrownedPost$Letters" "bin" "[I", Cond.fieldLink RX3 143 "DrownedPost$Bins" "filled" "[I", Cond.methodLink RX3 173 yX2_heaviestInOffice, Cond.instanceMethod yX2_heaviestInOffice, Cond.selects RX2 yX2_heaviestInOffice yX2_heaviestInOffice, Cond.initialized RX2, Cond.code yX2_heaviestInOffice cX2_heaviestInOffice 3 (some .int), Cond.fieldLink RX2 39 "DrownedPost$Letters" "count" "I", Cond.fieldLink RX2 21 "DrownedPost$Letters" "state" "[I", Cond.fieldLink RX2 15 "DrownedPost$Letters" "weight" "[I", Cond.methodLink RX3 138 yX2_has, Cond.instanceMethod yX2_has, Cond.selects RX2 yX2_has yX2_has, Cond.code yX2_has cX2_has 2 (some .boolean), Cond.methodLink RX3 126 yX1_heightOf, Cond.instanceMethod yX1_heightOf, Cond.selects RX1 yX1_heightOf yX1_heightOf, Cond.initialized RX1]
def wsX3_sort_r2 : List Cond := [Cond.code yX1_heightOf cX1_heightOf 2 (some .int), Cond.fieldLink RX1 9 "DrownedPost$Drowned" "height" "[I", Cond.methodLink RX1 31 yX1_has, Cond.instanceMethod yX1_has, Cond.selects RX1 yX1_has yX1_has, Cond.code yX1_has cX1_has 2 (some .boolean), Cond.fieldLink RX1 27 "DrownedPost$Drowned" "count" "I", Cond.methodLink RX3 176 yX0_nearestWithRoom, Cond.instanceMethod yX0_nearestWithRoom, Cond.selects RX0 yX0_nearestWithRoom yX0_nearestWithRoom, Cond.initialized RX0, Cond.code yX0_nearestWithRoom cX0_nearestWithRoom 4 (some .int), Cond.fieldLink RX0 21 "DrownedPost$Bins" "count" "I", Cond.fieldLink RX0 18 "DrownedPost$Bins" "filled" "[I", Cond.fieldLink RX0 15 "DrownedPost$Bins" "room" "[I", Cond.methodLink RX0 25 yX0_isNearer, Cond.instanceMethod yX0_isNearer, Cond.selects RX0 yX0_isNearer yX0_isNearer, Cond.code yX0_isNearer cX0_isNearer 6 (some .boolean), Cond.fieldLink RX0 9 "DrownedPost$Bins" "height" "[I", Cond.methodLink RX0 29 Lib.Math.abs.name, Cond.static Lib.Math.abs.name, Cond.initialized "java/lang/Math", Cond.code Lib.Math.abs.name Lib.Math.abs.code 1 (some .int)]
def wsX3_sort_r3 : List Cond := [Cond.methodLink RX3 142 yX0_has, Cond.instanceMethod yX0_has, Cond.selects RX0 yX0_has yX0_has, Cond.code yX0_has cX0_has 2 (some .boolean)]
def wsX3_sort : List Cond := .code yX3_sort cX3_sort 4 none :: ((wsX3_sort_r1 ++ (wsX3_sort_r2 ++ wsX3_sort_r3)) ++ wsX30 ++ wsX20 ++ wsX00 ++ wsX10)
def wsX3_liveOneHour_r1 : List Cond := [Cond.fieldLink RX3 35 "DrownedPost$Office" "letters" "LDrownedPost$Letters;", Cond.fieldLink RX3 84 "DrownedPost$Letters" "count" "I", Cond.fieldLink RX3 67 "DrownedPost$Office" "hour" "I", Cond.methodLink RX3 80 yX3_tideNow, Cond.instanceMethod yX3_tideNow, Cond.selects RX3 yX3_tideNow yX3_tideNow, Cond.initialized RX3, Cond.code yX3_tideNow cX3_tideNow 1 (some .int), Cond.fieldLink RX3 12 "DrownedPost$Office" "tides" "LDrownedPost$Tides;", Cond.methodLink RX3 70 yX4_heightIn, Cond.instanceMethod yX4_heightIn, Cond.selects RX4 yX4_heightIn yX4_heightIn, Cond.initialized RX4, Cond.code yX4_heightIn cX4_heightIn 2 (some .int), Cond.fieldLink RX4 18 "DrownedPost$Tides" "count" "I", Cond.fieldLink RX4 9 "DrownedPost$Tides" "heights" "[I", Cond.methodLink RX4 28 yJ9_floorMod_7cf53, Cond.static yJ9_floorMod_7cf53, Cond.initialized RJ9, Cond.code yJ9_floorMod_7cf53 cJ9_floorMod_7cf53 3 (some .int), Cond.methodLink RX3 87 yX3_water, Cond.instanceMethod yX3_water, Cond.selects RX3 yX3_water yX3_water, Cond.code yX3_water cX3_water 3 none]
def wsX3_liveOneHour_r2 : List Cond := [Cond.fieldLink RX3 77 "DrownedPost$Office" "sunkCount" "I", Cond.fieldLink RX3 104 "DrownedPost$Letters" "state" "[I", Cond.methodLink RX3 107 yX3_wash, Cond.instanceMethod yX3_wash, Cond.selects RX3 yX3_wash yX3_wash, Cond.code yX3_wash cX3_wash 5 none, Cond.fieldLink RX3 21 "DrownedPost$Office" "bins" "LDrownedPost$Bins;", Cond.fieldLink RX3 110 "DrownedPost$Letters" "bin" "[I", Cond.fieldLink RX3 117 "DrownedPost$Letters" "growth" "[I", Cond.fieldLink RX3 120 "DrownedPost$Letters" "weight" "[I", Cond.fieldLink RX3 28 "DrownedPost$Office" "drowned" "LDrownedPost$Drowned;", Cond.fieldLink RX3 123 "DrownedPost$Letters" "to" "[I", Cond.fieldLink RX3 129 "DrownedPost$Letters" "held" "[I", Cond.fieldLink RX3 132 "DrownedPost$Letters" "seal" "[I", Cond.fieldLink RX3 46 "DrownedPost$Office" "sunk" "[I", Cond.methodLink RX3 113 yX0_isUnder, Cond.instanceMethod yX0_isUnder, Cond.selects RX0 yX0_isUnder yX0_isUnder, Cond.initialized RX0, Cond.code yX0_isUnder cX0_isUnder 3 (some .boolean), Cond.fieldLink RX0 21 "DrownedPost$Bins" "count" "I", Cond.fieldLink RX0 9 "DrownedPost$Bins" "height" "[I", Cond.methodLink RX3 126 yX1_heightOf, Cond.instanceMethod yX1_heightOf]
def wsX3_liveOneHour_r3 : List Cond := [Cond.selects RX1 yX1_heightOf yX1_heightOf, Cond.initialized RX1, Cond.code yX1_heightOf cX1_heightOf 2 (some .int), Cond.fieldLink RX1 9 "DrownedPost$Drowned" "height" "[I", Cond.methodLink RX1 31 yX1_has, Cond.instanceMethod yX1_has, Cond.selects RX1 yX1_has yX1_has, Cond.code yX1_has cX1_has 2 (some .boolean), Cond.fieldLink RX1 27 "DrownedPost$Drowned" "count" "I", Cond.methodLink RX3 135 yX3_leaveBin, Cond.instanceMethod yX3_leaveBin, Cond.selects RX3 yX3_leaveBin yX3_leaveBin, Cond.code yX3_leaveBin cX3_leaveBin 4 none, Cond.fieldLink RX3 143 "DrownedPost$Bins" "filled" "[I", Cond.methodLink RX3 138 yX2_has, Cond.instanceMethod yX2_has, Cond.selects RX2 yX2_has yX2_has, Cond.initialized RX2, Cond.code yX2_has cX2_has 2 (some .boolean), Cond.fieldLink RX2 39 "DrownedPost$Letters" "count" "I", Cond.methodLink RX3 142 yX0_has, Cond.instanceMethod yX0_has, Cond.selects RX0 yX0_has yX0_has, Cond.code yX0_has cX0_has 2 (some .boolean)]
def wsX3_liveOneHour_r4 : List Cond := [Cond.methodLink RX3 91 yX3_writeAnswers, Cond.instanceMethod yX3_writeAnswers, Cond.selects RX3 yX3_writeAnswers yX3_writeAnswers, Cond.code yX3_writeAnswers cX3_writeAnswers 4 none, Cond.fieldLink RX3 149 "DrownedPost$Drowned" "lag" "[I", Cond.fieldLink RX3 155 "DrownedPost$Drowned" "written" "[I", Cond.methodLink RX3 146 yX1_gets, Cond.instanceMethod yX1_gets, Cond.selects RX1 yX1_gets yX1_gets, Cond.code yX1_gets cX1_gets 2 (some .boolean), Cond.fieldLink RX1 21 "DrownedPost$Drowned" "got" "[I", Cond.fieldLink RX1 15 "DrownedPost$Drowned" "n" "[I", Cond.methodLink RX3 152 yX2_answer, Cond.instanceMethod yX2_answer, Cond.selects RX2 yX2_answer yX2_answer, Cond.code yX2_answer cX2_answer 4 (some .boolean), Cond.fieldLink RX2 9 "DrownedPost$Letters" "to" "[I", Cond.fieldLink RX2 15 "DrownedPost$Letters" "weight" "[I", Cond.fieldLink RX2 18 "DrownedPost$Letters" "seal" "[I", Cond.fieldLink RX2 21 "DrownedPost$Letters" "state" "[I", Cond.fieldLink RX2 33 "DrownedPost$Letters" "hoursBefore" "[I", Cond.fieldLink RX2 36 "DrownedPost$Letters" "answered" "[I", Cond.methodLink RX2 43 yX2_has, Cond.methodLink RX2 47 yX2_append]
def wsX3_liveOneHour_r5 : List Cond := [Cond.instanceMethod yX2_append, Cond.selects RX2 yX2_append yX2_append, Cond.code yX2_append cX2_append 5 (some .int), Cond.fieldLink RX2 24 "DrownedPost$Letters" "growth" "[I", Cond.fieldLink RX2 27 "DrownedPost$Letters" "bin" "[I", Cond.fieldLink RX2 30 "DrownedPost$Letters" "held" "[I", Cond.methodLink RX3 94 yX3_bringAnswersNearer, Cond.instanceMethod yX3_bringAnswersNearer, Cond.selects RX3 yX3_bringAnswersNearer yX3_bringAnswersNearer, Cond.code yX3_bringAnswersNearer cX3_bringAnswersNearer 4 none, Cond.fieldLink RX3 158 "DrownedPost$Letters" "hoursBefore" "[I", Cond.methodLink RX3 98 yX3_scrape, Cond.instanceMethod yX3_scrape, Cond.selects RX3 yX3_scrape yX3_scrape, Cond.code yX3_scrape cX3_scrape 4 none, Cond.fieldLink RX3 50 "DrownedPost$Office" "scraped" "[Z", Cond.fieldLink RX3 39 "DrownedPost$Office" "scrapers" "I", Cond.methodLink RX3 164 Lib.Math.max.name, Cond.static Lib.Math.max.name, Cond.initialized "java/lang/Math", Cond.code Lib.Math.max.name Lib.Math.max.code 2 (some .int), Cond.methodLink RX3 161 yX3_mostOvergrown, Cond.instanceMethod yX3_mostOvergrown, Cond.selects RX3 yX3_mostOvergrown yX3_mostOvergrown]
def wsX3_liveOneHour_r6 : List Cond := [Cond.code yX3_mostOvergrown cX3_mostOvergrown 5 (some .int), Cond.methodLink RX3 170 yX3_canBeScraped, Cond.instanceMethod yX3_canBeScraped, Cond.selects RX3 yX3_canBeScraped yX3_canBeScraped, Cond.code yX3_canBeScraped cX3_canBeScraped 3 (some .boolean), Cond.methodLink RX3 101 yX3_sort, Cond.instanceMethod yX3_sort, Cond.selects RX3 yX3_sort yX3_sort, Cond.code yX3_sort cX3_sort 4 none, Cond.fieldLink RX3 43 "DrownedPost$Office" "sorters" "I", Cond.methodLink RX3 173 yX2_heaviestInOffice, Cond.instanceMethod yX2_heaviestInOffice, Cond.selects RX2 yX2_heaviestInOffice yX2_heaviestInOffice, Cond.code yX2_heaviestInOffice cX2_heaviestInOffice 3 (some .int), Cond.methodLink RX3 176 yX0_nearestWithRoom, Cond.instanceMethod yX0_nearestWithRoom, Cond.selects RX0 yX0_nearestWithRoom yX0_nearestWithRoom, Cond.code yX0_nearestWithRoom cX0_nearestWithRoom 4 (some .int), Cond.fieldLink RX0 18 "DrownedPost$Bins" "filled" "[I", Cond.fieldLink RX0 15 "DrownedPost$Bins" "room" "[I", Cond.methodLink RX0 25 yX0_isNearer, Cond.instanceMethod yX0_isNearer, Cond.selects RX0 yX0_isNearer yX0_isNearer, Cond.code yX0_isNearer cX0_isNearer 6 (some .boolean)]
def wsX3_liveOneHour_r7 : List Cond := [Cond.methodLink RX0 29 Lib.Math.abs.name, Cond.static Lib.Math.abs.name, Cond.code Lib.Math.abs.name Lib.Math.abs.code 1 (some .int)]
def wsX3_liveOneHour : List Cond := .code yX3_liveOneHour cX3_liveOneHour 3 none :: ((wsX3_liveOneHour_r1 ++ (wsX3_liveOneHour_r2 ++ (wsX3_liveOneHour_r3 ++ (wsX3_liveOneHour_r4 ++ (wsX3_liveOneHour_r5 ++ (wsX3_liveOneHour_r6 ++ wsX3_liveOneHour_r7)))))) ++ wsX30 ++ wsX20 ++ wsX40 ++ wsX00 ++ wsX10)
def wsX3_letGoBy_r1 : List Cond := [Cond.fieldLink RX3 77 "DrownedPost$Office" "sunkCount" "I", Cond.methodLink RX3 74 yX3_liveOneHour, Cond.instanceMethod yX3_liveOneHour, Cond.selects RX3 yX3_liveOneHour yX3_liveOneHour, Cond.initialized RX3, Cond.code yX3_liveOneHour cX3_liveOneHour 3 none, Cond.fieldLink RX3 35 "DrownedPost$Office" "letters" "LDrownedPost$Letters;", Cond.fieldLink RX3 84 "DrownedPost$Letters" "count" "I", Cond.fieldLink RX3 67 "DrownedPost$Office" "hour" "I", Cond.methodLink RX3 80 yX3_tideNow, Cond.instanceMethod yX3_tideNow, Cond.selects RX3 yX3_tideNow yX3_tideNow, Cond.code yX3_tideNow cX3_tideNow 1 (some .int), Cond.fieldLink RX3 12 "DrownedPost$Office" "tides" "LDrownedPost$Tides;", Cond.methodLink RX3 70 yX4_heightIn, Cond.instanceMethod yX4_heightIn, Cond.selects RX4 yX4_heightIn yX4_heightIn, Cond.initialized RX4, Cond.code yX4_heightIn cX4_heightIn 2 (some .int), Cond.fieldLink RX4 18 "DrownedPost$Tides" "count" "I", Cond.fieldLink RX4 9 "DrownedPost$Tides" "heights" "[I", Cond.methodLink RX4 28 yJ9_floorMod_7cf53, Cond.static yJ9_floorMod_7cf53, Cond.initialized RJ9]
def wsX3_letGoBy_r2 : List Cond := [Cond.code yJ9_floorMod_7cf53 cJ9_floorMod_7cf53 3 (some .int), Cond.methodLink RX3 87 yX3_water, Cond.instanceMethod yX3_water, Cond.selects RX3 yX3_water yX3_water, Cond.code yX3_water cX3_water 3 none, Cond.fieldLink RX3 104 "DrownedPost$Letters" "state" "[I", Cond.methodLink RX3 107 yX3_wash, Cond.instanceMethod yX3_wash, Cond.selects RX3 yX3_wash yX3_wash, Cond.code yX3_wash cX3_wash 5 none, Cond.fieldLink RX3 21 "DrownedPost$Office" "bins" "LDrownedPost$Bins;", Cond.fieldLink RX3 110 "DrownedPost$Letters" "bin" "[I", Cond.fieldLink RX3 117 "DrownedPost$Letters" "growth" "[I", Cond.fieldLink RX3 120 "DrownedPost$Letters" "weight" "[I", Cond.fieldLink RX3 28 "DrownedPost$Office" "drowned" "LDrownedPost$Drowned;", Cond.fieldLink RX3 123 "DrownedPost$Letters" "to" "[I", Cond.fieldLink RX3 129 "DrownedPost$Letters" "held" "[I", Cond.fieldLink RX3 132 "DrownedPost$Letters" "seal" "[I", Cond.fieldLink RX3 46 "DrownedPost$Office" "sunk" "[I", Cond.methodLink RX3 113 yX0_isUnder, Cond.instanceMethod yX0_isUnder, Cond.selects RX0 yX0_isUnder yX0_isUnder, Cond.initialized RX0, Cond.code yX0_isUnder cX0_isUnder 3 (some .boolean)]
def wsX3_letGoBy_r3 : List Cond := [Cond.fieldLink RX0 21 "DrownedPost$Bins" "count" "I", Cond.fieldLink RX0 9 "DrownedPost$Bins" "height" "[I", Cond.methodLink RX3 126 yX1_heightOf, Cond.instanceMethod yX1_heightOf, Cond.selects RX1 yX1_heightOf yX1_heightOf, Cond.initialized RX1, Cond.code yX1_heightOf cX1_heightOf 2 (some .int), Cond.fieldLink RX1 9 "DrownedPost$Drowned" "height" "[I", Cond.methodLink RX1 31 yX1_has, Cond.instanceMethod yX1_has, Cond.selects RX1 yX1_has yX1_has, Cond.code yX1_has cX1_has 2 (some .boolean), Cond.fieldLink RX1 27 "DrownedPost$Drowned" "count" "I", Cond.methodLink RX3 135 yX3_leaveBin, Cond.instanceMethod yX3_leaveBin, Cond.selects RX3 yX3_leaveBin yX3_leaveBin, Cond.code yX3_leaveBin cX3_leaveBin 4 none, Cond.fieldLink RX3 143 "DrownedPost$Bins" "filled" "[I", Cond.methodLink RX3 138 yX2_has, Cond.instanceMethod yX2_has, Cond.selects RX2 yX2_has yX2_has, Cond.initialized RX2, Cond.code yX2_has cX2_has 2 (some .boolean), Cond.fieldLink RX2 39 "DrownedPost$Letters" "count" "I"]
def wsX3_letGoBy_r4 : List Cond := [Cond.methodLink RX3 142 yX0_has, Cond.instanceMethod yX0_has, Cond.selects RX0 yX0_has yX0_has, Cond.code yX0_has cX0_has 2 (some .boolean), Cond.methodLink RX3 91 yX3_writeAnswers, Cond.instanceMethod yX3_writeAnswers, Cond.selects RX3 yX3_writeAnswers yX3_writeAnswers, Cond.code yX3_writeAnswers cX3_writeAnswers 4 none, Cond.fieldLink RX3 149 "DrownedPost$Drowned" "lag" "[I", Cond.fieldLink RX3 155 "DrownedPost$Drowned" "written" "[I", Cond.methodLink RX3 146 yX1_gets, Cond.instanceMethod yX1_gets, Cond.selects RX1 yX1_gets yX1_gets, Cond.code yX1_gets cX1_gets 2 (some .boolean), Cond.fieldLink RX1 21 "DrownedPost$Drowned" "got" "[I", Cond.fieldLink RX1 15 "DrownedPost$Drowned" "n" "[I", Cond.methodLink RX3 152 yX2_answer, Cond.instanceMethod yX2_answer, Cond.selects RX2 yX2_answer yX2_answer, Cond.code yX2_answer cX2_answer 4 (some .boolean), Cond.fieldLink RX2 9 "DrownedPost$Letters" "to" "[I", Cond.fieldLink RX2 15 "DrownedPost$Letters" "weight" "[I", Cond.fieldLink RX2 18 "DrownedPost$Letters" "seal" "[I", Cond.fieldLink RX2 21 "DrownedPost$Letters" "state" "[I"]
def wsX3_letGoBy_r5 : List Cond := [Cond.fieldLink RX2 33 "DrownedPost$Letters" "hoursBefore" "[I", Cond.fieldLink RX2 36 "DrownedPost$Letters" "answered" "[I", Cond.methodLink RX2 43 yX2_has, Cond.methodLink RX2 47 yX2_append, Cond.instanceMethod yX2_append, Cond.selects RX2 yX2_append yX2_append, Cond.code yX2_append cX2_append 5 (some .int), Cond.fieldLink RX2 24 "DrownedPost$Letters" "growth" "[I", Cond.fieldLink RX2 27 "DrownedPost$Letters" "bin" "[I", Cond.fieldLink RX2 30 "DrownedPost$Letters" "held" "[I", Cond.methodLink RX3 94 yX3_bringAnswersNearer, Cond.instanceMethod yX3_bringAnswersNearer, Cond.selects RX3 yX3_bringAnswersNearer yX3_bringAnswersNearer, Cond.code yX3_bringAnswersNearer cX3_bringAnswersNearer 4 none, Cond.fieldLink RX3 158 "DrownedPost$Letters" "hoursBefore" "[I", Cond.methodLink RX3 98 yX3_scrape, Cond.instanceMethod yX3_scrape, Cond.selects RX3 yX3_scrape yX3_scrape, Cond.code yX3_scrape cX3_scrape 4 none, Cond.fieldLink RX3 50 "DrownedPost$Office" "scraped" "[Z", Cond.fieldLink RX3 39 "DrownedPost$Office" "scrapers" "I", Cond.methodLink RX3 164 Lib.Math.max.name, Cond.static Lib.Math.max.name, Cond.initialized "java/lang/Math"]
def wsX3_letGoBy_r6 : List Cond := [Cond.code Lib.Math.max.name Lib.Math.max.code 2 (some .int), Cond.methodLink RX3 161 yX3_mostOvergrown, Cond.instanceMethod yX3_mostOvergrown, Cond.selects RX3 yX3_mostOvergrown yX3_mostOvergrown, Cond.code yX3_mostOvergrown cX3_mostOvergrown 5 (some .int), Cond.methodLink RX3 170 yX3_canBeScraped, Cond.instanceMethod yX3_canBeScraped, Cond.selects RX3 yX3_canBeScraped yX3_canBeScraped, Cond.code yX3_canBeScraped cX3_canBeScraped 3 (some .boolean), Cond.methodLink RX3 101 yX3_sort, Cond.instanceMethod yX3_sort, Cond.selects RX3 yX3_sort yX3_sort, Cond.code yX3_sort cX3_sort 4 none, Cond.fieldLink RX3 43 "DrownedPost$Office" "sorters" "I", Cond.methodLink RX3 173 yX2_heaviestInOffice, Cond.instanceMethod yX2_heaviestInOffice, Cond.selects RX2 yX2_heaviestInOffice yX2_heaviestInOffice, Cond.code yX2_heaviestInOffice cX2_heaviestInOffice 3 (some .int), Cond.methodLink RX3 176 yX0_nearestWithRoom, Cond.instanceMethod yX0_nearestWithRoom, Cond.selects RX0 yX0_nearestWithRoom yX0_nearestWithRoom, Cond.code yX0_nearestWithRoom cX0_nearestWithRoom 4 (some .int), Cond.fieldLink RX0 18 "DrownedPost$Bins" "filled" "[I", Cond.fieldLink RX0 15 "DrownedPost$Bins" "room" "[I"]
def wsX3_letGoBy_r7 : List Cond := [Cond.methodLink RX0 25 yX0_isNearer, Cond.instanceMethod yX0_isNearer, Cond.selects RX0 yX0_isNearer yX0_isNearer, Cond.code yX0_isNearer cX0_isNearer 6 (some .boolean), Cond.methodLink RX0 29 Lib.Math.abs.name, Cond.static Lib.Math.abs.name, Cond.code Lib.Math.abs.name Lib.Math.abs.code 1 (some .int)]
def wsX3_letGoBy : List Cond := .code yX3_letGoBy cX3_letGoBy 4 (some .int) :: ((wsX3_letGoBy_r1 ++ (wsX3_letGoBy_r2 ++ (wsX3_letGoBy_r3 ++ (wsX3_letGoBy_r4 ++ (wsX3_letGoBy_r5 ++ (wsX3_letGoBy_r6 ++ wsX3_letGoBy_r7)))))) ++ wsX30 ++ wsX20 ++ wsX40 ++ wsX00 ++ wsX10)
def wsX3_hourOfReach : List Cond := .code yX3_hourOfReach cX3_hourOfReach 6 (some .int) :: ([.fieldLink RX3 12 "DrownedPost$Office" "tides" "LDrownedPost$Tides;", .fieldLink RX3 67 "DrownedPost$Office" "hour" "I", .fieldLink RX3 21 "DrownedPost$Office" "bins" "LDrownedPost$Bins;", .methodLink RX3 70 yX4_heightIn, .instanceMethod yX4_heightIn, .selects RX4 yX4_heightIn yX4_heightIn, .initialized RX4, .code yX4_heightIn cX4_heightIn 2 (some .int), .fieldLink RX4 18 "DrownedPost$Tides" "count" "I", .fieldLink RX4 9 "DrownedPost$Tides" "heights" "[I", .methodLink RX4 28 yJ9_floorMod_7cf53, .static yJ9_floorMod_7cf53, .initialized RJ9, .code yJ9_floorMod_7cf53 cJ9_floorMod_7cf53 3 (some .int), .methodLink RX3 113 yX0_isUnder, .instanceMethod yX0_isUnder, .selects RX0 yX0_isUnder yX0_isUnder, .initialized RX0, .code yX0_isUnder cX0_isUnder 3 (some .boolean), .fieldLink RX0 21 "DrownedPost$Bins" "count" "I", .fieldLink RX0 9 "DrownedPost$Bins" "height" "[I"] ++ wsX30 ++ wsX40 ++ wsX00)
def wsX3_binFact_r1 : List Cond := [Cond.fieldLink RX3 21 "DrownedPost$Office" "bins" "LDrownedPost$Bins;", Cond.fieldLink RX3 179 "DrownedPost$Bins" "height" "[I", Cond.fieldLink RX3 182 "DrownedPost$Bins" "room" "[I", Cond.fieldLink RX3 143 "DrownedPost$Bins" "filled" "[I", Cond.fieldLink RX3 35 "DrownedPost$Office" "letters" "LDrownedPost$Letters;", Cond.methodLink RX3 142 yX0_has, Cond.instanceMethod yX0_has, Cond.selects RX0 yX0_has yX0_has, Cond.initialized RX0, Cond.code yX0_has cX0_has 2 (some .boolean), Cond.fieldLink RX0 21 "DrownedPost$Bins" "count" "I", Cond.methodLink RX3 80 yX3_tideNow, Cond.instanceMethod yX3_tideNow, Cond.selects RX3 yX3_tideNow yX3_tideNow, Cond.initialized RX3, Cond.code yX3_tideNow cX3_tideNow 1 (some .int), Cond.fieldLink RX3 12 "DrownedPost$Office" "tides" "LDrownedPost$Tides;", Cond.fieldLink RX3 67 "DrownedPost$Office" "hour" "I", Cond.methodLink RX3 70 yX4_heightIn, Cond.instanceMethod yX4_heightIn, Cond.selects RX4 yX4_heightIn yX4_heightIn, Cond.initialized RX4, Cond.code yX4_heightIn cX4_heightIn 2 (some .int), Cond.fieldLink RX4 18 "DrownedPost$Tides" "count" "I"]
def wsX3_binFact_r2 : List Cond := [Cond.fieldLink RX4 9 "DrownedPost$Tides" "heights" "[I", Cond.methodLink RX4 28 yJ9_floorMod_7cf53, Cond.static yJ9_floorMod_7cf53, Cond.initialized RJ9, Cond.code yJ9_floorMod_7cf53 cJ9_floorMod_7cf53 3 (some .int), Cond.methodLink RX3 113 yX0_isUnder, Cond.instanceMethod yX0_isUnder, Cond.selects RX0 yX0_isUnder yX0_isUnder, Cond.code yX0_isUnder cX0_isUnder 3 (some .boolean), Cond.fieldLink RX0 9 "DrownedPost$Bins" "height" "[I", Cond.methodLink RX3 185 yX2_growthIn, Cond.instanceMethod yX2_growthIn, Cond.selects RX2 yX2_growthIn yX2_growthIn, Cond.initialized RX2, Cond.code yX2_growthIn cX2_growthIn 4 (some .int), Cond.fieldLink RX2 39 "DrownedPost$Letters" "count" "I", Cond.fieldLink RX2 21 "DrownedPost$Letters" "state" "[I", Cond.fieldLink RX2 27 "DrownedPost$Letters" "bin" "[I", Cond.fieldLink RX2 24 "DrownedPost$Letters" "growth" "[I"]
def wsX3_binFact : List Cond := .code yX3_binFact cX3_binFact 3 (some .int) :: ((wsX3_binFact_r1 ++ wsX3_binFact_r2) ++ wsX30 ++ wsX00 ++ wsX40 ++ wsX20)
def wsX3_total : List Cond := .code yX3_total cX3_total 2 (some .int) :: ([.fieldLink RX3 67 "DrownedPost$Office" "hour" "I", .fieldLink RX3 21 "DrownedPost$Office" "bins" "LDrownedPost$Bins;", .fieldLink RX3 188 "DrownedPost$Bins" "count" "I", .fieldLink RX3 28 "DrownedPost$Office" "drowned" "LDrownedPost$Drowned;", .fieldLink RX3 189 "DrownedPost$Drowned" "count" "I", .fieldLink RX3 35 "DrownedPost$Office" "letters" "LDrownedPost$Letters;", .fieldLink RX3 84 "DrownedPost$Letters" "count" "I", .fieldLink RX3 12 "DrownedPost$Office" "tides" "LDrownedPost$Tides;", .fieldLink RX3 190 "DrownedPost$Tides" "count" "I", .fieldLink RX3 39 "DrownedPost$Office" "scrapers" "I", .fieldLink RX3 43 "DrownedPost$Office" "sorters" "I", .methodLink RX3 191 yX2_inState, .instanceMethod yX2_inState, .selects RX2 yX2_inState yX2_inState, .initialized RX2, .code yX2_inState cX2_inState 4 (some .int), .fieldLink RX2 39 "DrownedPost$Letters" "count" "I", .fieldLink RX2 21 "DrownedPost$Letters" "state" "[I"] ++ wsX30 ++ wsX00 ++ wsX10 ++ wsX20 ++ wsX40)
def wsX4_begin : List Cond := .code yX4_begin cX4_begin 2 none :: ([.fieldLink RX4 9 "DrownedPost$Tides" "heights" "[I", .fieldLink RX4 18 "DrownedPost$Tides" "count" "I"] ++ wsX40)
def wsX4_append : List Cond := .code yX4_append cX4_append 2 none :: ([.fieldLink RX4 18 "DrownedPost$Tides" "count" "I", .fieldLink RX4 9 "DrownedPost$Tides" "heights" "[I"] ++ wsX40)
def wsX4_digestFrom : List Cond := .code yX4_digestFrom cX4_digestFrom 6 (some .long) :: ([.fieldLink RX4 18 "DrownedPost$Tides" "count" "I", .constantLong RX4 34 (31), .fieldLink RX4 9 "DrownedPost$Tides" "heights" "[I"] ++ wsX40)
def wsX5_init_r1 : List Cond := [Cond.methodLink RX5 1 objectInit, Cond.instanceMethod objectInit, Cond.code objectInit ⟨#[0xb1]⟩ 1 none, Cond.classLink RX5 7 RX3, Cond.instantiable RX3 10, Cond.initialized RX3, Cond.fieldLink RX5 10 "DrownedPost" "now" "LDrownedPost$Office;", Cond.fieldLink RX5 16 "DrownedPost" "ahead" "LDrownedPost$Office;", Cond.instanceMethod yX3_init, Cond.code yX3_init cX3_init 1 none, Cond.methodLink RX3 3 objectInit, Cond.classLink RX3 9 RX4, Cond.instantiable RX4 2, Cond.initialized RX4, Cond.fieldLink RX3 12 "DrownedPost$Office" "tides" "LDrownedPost$Tides;", Cond.classLink RX3 18 RX0, Cond.instantiable RX0 4, Cond.initialized RX0, Cond.fieldLink RX3 21 "DrownedPost$Office" "bins" "LDrownedPost$Bins;", Cond.classLink RX3 25 RX1, Cond.instantiable RX1 6, Cond.initialized RX1, Cond.fieldLink RX3 28 "DrownedPost$Office" "drowned" "LDrownedPost$Drowned;", Cond.classLink RX3 32 RX2]
def wsX5_init_r2 : List Cond := [Cond.instantiable RX2 10, Cond.initialized RX2, Cond.fieldLink RX3 35 "DrownedPost$Office" "letters" "LDrownedPost$Letters;", Cond.fieldLink RX3 39 "DrownedPost$Office" "scrapers" "I", Cond.fieldLink RX3 43 "DrownedPost$Office" "sorters" "I", Cond.arrayClass .int, Cond.fieldLink RX3 46 "DrownedPost$Office" "sunk" "[I", Cond.arrayClass .boolean, Cond.fieldLink RX3 50 "DrownedPost$Office" "scraped" "[Z", Cond.methodLink RX3 11 yX4_init, Cond.instanceMethod yX4_init, Cond.code yX4_init cX4_init 1 none, Cond.methodLink RX4 3 objectInit, Cond.fieldLink RX4 9 "DrownedPost$Tides" "heights" "[I", Cond.fieldLink RX4 18 "DrownedPost$Tides" "count" "I", Cond.methodLink RX4 22 arraycopyName, Cond.native arraycopyName, Cond.static arraycopyName, Cond.initialized "java/lang/System", Cond.instanceMethod yX0_init, Cond.code yX0_init cX0_init 1 none, Cond.methodLink RX0 3 objectInit, Cond.fieldLink RX0 9 "DrownedPost$Bins" "height" "[I", Cond.fieldLink RX0 15 "DrownedPost$Bins" "room" "[I"]
def wsX5_init_r3 : List Cond := [Cond.fieldLink RX0 18 "DrownedPost$Bins" "filled" "[I", Cond.instanceMethod yX1_init, Cond.code yX1_init cX1_init 1 none, Cond.methodLink RX1 3 objectInit, Cond.fieldLink RX1 9 "DrownedPost$Drowned" "height" "[I", Cond.fieldLink RX1 15 "DrownedPost$Drowned" "n" "[I", Cond.fieldLink RX1 18 "DrownedPost$Drowned" "lag" "[I", Cond.fieldLink RX1 21 "DrownedPost$Drowned" "got" "[I", Cond.fieldLink RX1 24 "DrownedPost$Drowned" "written" "[I", Cond.instanceMethod yX2_init, Cond.code yX2_init cX2_init 1 none, Cond.methodLink RX2 3 objectInit, Cond.fieldLink RX2 9 "DrownedPost$Letters" "to" "[I", Cond.fieldLink RX2 15 "DrownedPost$Letters" "weight" "[I", Cond.fieldLink RX2 18 "DrownedPost$Letters" "seal" "[I", Cond.fieldLink RX2 21 "DrownedPost$Letters" "state" "[I", Cond.fieldLink RX2 24 "DrownedPost$Letters" "growth" "[I", Cond.fieldLink RX2 27 "DrownedPost$Letters" "bin" "[I", Cond.fieldLink RX2 30 "DrownedPost$Letters" "held" "[I", Cond.fieldLink RX2 33 "DrownedPost$Letters" "hoursBefore" "[I", Cond.fieldLink RX2 36 "DrownedPost$Letters" "answered" "[I"]
def wsX5_init : List Cond := .code yX5_init cX5_init 1 none :: ((wsX5_init_r1 ++ (wsX5_init_r2 ++ wsX5_init_r3)) ++ wsX30 ++ wsX50 ++ wsX40 ++ wsX00 ++ wsX10 ++ wsX20)
def wsX5_isWithin : List Cond := .code yX5_isWithin cX5_isWithin 3 (some .boolean) :: ([])
def wsX5_beginTides : List Cond := .code yX5_beginTides cX5_beginTides 3 (some .int) :: ([.classLink RX5 23 "java/lang/IllegalArgumentException", .initialized "java/lang/IllegalArgumentException", .fieldLink RX5 10 "DrownedPost" "now" "LDrownedPost$Office;", .fieldLink RX5 30 "DrownedPost$Office" "tides" "LDrownedPost$Tides;", .fieldLink RX5 34 "DrownedPost$Tides" "count" "I", .methodLink RX5 19 yX5_isWithin, .static yX5_isWithin, .initialized RX5, .code yX5_isWithin cX5_isWithin 3 (some .boolean), .methodLink RX5 40 yX4_begin, .instanceMethod yX4_begin, .selects RX4 yX4_begin yX4_begin, .initialized RX4, .code yX4_begin cX4_begin 2 none, .fieldLink RX4 9 "DrownedPost$Tides" "heights" "[I", .fieldLink RX4 18 "DrownedPost$Tides" "count" "I"] ++ wsX50 ++ wsX30 ++ wsX40 ++ (vx_atS RX5 27 "java/lang/IllegalArgumentException" ["java/lang/RuntimeException", "java/lang/Exception"]).filter goodWord)
def wsX5_addTide : List Cond := .code yX5_addTide cX5_addTide 2 (some .int) :: ([.classLink RX5 23 "java/lang/IllegalArgumentException", .initialized "java/lang/IllegalArgumentException", .classLink RX5 44 "java/lang/IllegalStateException", .initialized "java/lang/IllegalStateException", .fieldLink RX5 10 "DrownedPost" "now" "LDrownedPost$Office;", .fieldLink RX5 30 "DrownedPost$Office" "tides" "LDrownedPost$Tides;", .fieldLink RX5 34 "DrownedPost$Tides" "count" "I", .methodLink RX5 19 yX5_isWithin, .static yX5_isWithin, .initialized RX5, .code yX5_isWithin cX5_isWithin 3 (some .boolean), .methodLink RX5 49 yX4_append, .instanceMethod yX4_append, .selects RX4 yX4_append yX4_append, .initialized RX4, .code yX4_append cX4_append 2 none, .fieldLink RX4 18 "DrownedPost$Tides" "count" "I", .fieldLink RX4 9 "DrownedPost$Tides" "heights" "[I"] ++ wsX50 ++ wsX30 ++ wsX40 ++ (vx_atS RX5 27 "java/lang/IllegalArgumentException" ["java/lang/RuntimeException", "java/lang/Exception"]).filter goodWord ++ (vx_atS RX5 48 "java/lang/IllegalStateException" ["java/lang/RuntimeException", "java/lang/Exception"]).filter goodWord)
def wsX5_tide : List Cond := .code yX5_tide cX5_tide 2 (some .int) :: ([.classLink RX5 23 "java/lang/IllegalArgumentException", .initialized "java/lang/IllegalArgumentException", .fieldLink RX5 10 "DrownedPost" "now" "LDrownedPost$Office;", .fieldLink RX5 30 "DrownedPost$Office" "tides" "LDrownedPost$Tides;", .methodLink RX5 54 yX4_heightIn, .instanceMethod yX4_heightIn, .selects RX4 yX4_heightIn yX4_heightIn, .initialized RX4, .code yX4_heightIn cX4_heightIn 2 (some .int), .fieldLink RX4 18 "DrownedPost$Tides" "count" "I", .fieldLink RX4 9 "DrownedPost$Tides" "heights" "[I", .methodLink RX4 28 yJ9_floorMod_7cf53, .static yJ9_floorMod_7cf53, .initialized RJ9, .code yJ9_floorMod_7cf53 cJ9_floorMod_7cf53 3 (some .int)] ++ wsX50 ++ wsX30 ++ wsX40 ++ (vx_atS RX5 27 "java/lang/IllegalArgumentException" ["java/lang/RuntimeException", "java/lang/Exception"]).filter goodWord)
def wsX5_addBin : List Cond := .code yX5_addBin cX5_addBin 3 (some .int) :: ([.classLink RX5 23 "java/lang/IllegalArgumentException", .initialized "java/lang/IllegalArgumentException", .classLink RX5 44 "java/lang/IllegalStateException", .initialized "java/lang/IllegalStateException", .fieldLink RX5 10 "DrownedPost" "now" "LDrownedPost$Office;", .fieldLink RX5 60 "DrownedPost$Office" "bins" "LDrownedPost$Bins;", .fieldLink RX5 64 "DrownedPost$Bins" "count" "I", .methodLink RX5 19 yX5_isWithin, .static yX5_isWithin, .initialized RX5, .code yX5_isWithin cX5_isWithin 3 (some .boolean), .methodLink RX5 69 yX0_append, .instanceMethod yX0_append, .selects RX0 yX0_append yX0_append, .initialized RX0, .code yX0_append cX0_append 4 (some .int), .fieldLink RX0 21 "DrownedPost$Bins" "count" "I", .fieldLink RX0 9 "DrownedPost$Bins" "height" "[I", .fieldLink RX0 15 "DrownedPost$Bins" "room" "[I", .fieldLink RX0 18 "DrownedPost$Bins" "filled" "[I"] ++ wsX50 ++ wsX30 ++ wsX00 ++ (vx_atS RX5 27 "java/lang/IllegalArgumentException" ["java/lang/RuntimeException", "java/lang/Exception"]).filter goodWord ++ (vx_atS RX5 48 "java/lang/IllegalStateException" ["java/lang/RuntimeException", "java/lang/Exception"]).filter goodWord)
def wsX5_setCrew : List Cond := .code yX5_setCrew cX5_setCrew 4 (some .int) :: ([.classLink RX5 23 "java/lang/IllegalArgumentException", .initialized "java/lang/IllegalArgumentException", .fieldLink RX5 10 "DrownedPost" "now" "LDrownedPost$Office;", .fieldLink RX5 74 "DrownedPost$Office" "sorters" "I", .fieldLink RX5 77 "DrownedPost$Office" "scrapers" "I", .methodLink RX5 19 yX5_isWithin, .static yX5_isWithin, .initialized RX5, .code yX5_isWithin cX5_isWithin 3 (some .boolean)] ++ wsX50 ++ wsX30 ++ (vx_atS RX5 27 "java/lang/IllegalArgumentException" ["java/lang/RuntimeException", "java/lang/Exception"]).filter goodWord)
def wsX5_addDrowned : List Cond := .code yX5_addDrowned cX5_addDrowned 4 (some .int) :: ([.classLink RX5 23 "java/lang/IllegalArgumentException", .initialized "java/lang/IllegalArgumentException", .classLink RX5 44 "java/lang/IllegalStateException", .initialized "java/lang/IllegalStateException", .fieldLink RX5 10 "DrownedPost" "now" "LDrownedPost$Office;", .fieldLink RX5 82 "DrownedPost$Office" "drowned" "LDrownedPost$Drowned;", .fieldLink RX5 86 "DrownedPost$Drowned" "count" "I", .methodLink RX5 19 yX5_isWithin, .static yX5_isWithin, .initialized RX5, .code yX5_isWithin cX5_isWithin 3 (some .boolean), .methodLink RX5 91 yX1_append, .instanceMethod yX1_append, .selects RX1 yX1_append yX1_append, .initialized RX1, .code yX1_append cX1_append 5 (some .int), .fieldLink RX1 27 "DrownedPost$Drowned" "count" "I", .fieldLink RX1 9 "DrownedPost$Drowned" "height" "[I", .fieldLink RX1 15 "DrownedPost$Drowned" "n" "[I", .fieldLink RX1 18 "DrownedPost$Drowned" "lag" "[I", .fieldLink RX1 21 "DrownedPost$Drowned" "got" "[I", .fieldLink RX1 24 "DrownedPost$Drowned" "written" "[I"] ++ wsX50 ++ wsX30 ++ wsX10 ++ (vx_atS RX5 27 "java/lang/IllegalArgumentException" ["java/lang/RuntimeException", "java/lang/Exception"]).filter goodWord ++ (vx_atS RX5 48 "java/lang/IllegalStateException" ["java/lang/RuntimeException", "java/lang/Exception"]).filter goodWord)
def wsX5_bring_r1 : List Cond := [Cond.classLink RX5 98 "java/lang/IndexOutOfBoundsException", Cond.initialized "java/lang/IndexOutOfBoundsException", Cond.classLink RX5 23 "java/lang/IllegalArgumentException", Cond.initialized "java/lang/IllegalArgumentException", Cond.classLink RX5 44 "java/lang/IllegalStateException", Cond.initialized "java/lang/IllegalStateException", Cond.fieldLink RX5 10 "DrownedPost" "now" "LDrownedPost$Office;", Cond.fieldLink RX5 82 "DrownedPost$Office" "drowned" "LDrownedPost$Drowned;", Cond.fieldLink RX5 105 "DrownedPost$Office" "letters" "LDrownedPost$Letters;", Cond.fieldLink RX5 109 "DrownedPost$Letters" "count" "I", Cond.methodLink RX5 94 yX1_has, Cond.instanceMethod yX1_has, Cond.selects RX1 yX1_has yX1_has, Cond.initialized RX1, Cond.code yX1_has cX1_has 2 (some .boolean), Cond.fieldLink RX1 27 "DrownedPost$Drowned" "count" "I", Cond.methodLink RX5 19 yX5_isWithin, Cond.static yX5_isWithin, Cond.initialized RX5, Cond.code yX5_isWithin cX5_isWithin 3 (some .boolean), Cond.methodLink RX5 114 yX2_append, Cond.instanceMethod yX2_append, Cond.selects RX2 yX2_append yX2_append, Cond.initialized RX2]
def wsX5_bring_r2 : List Cond := [Cond.code yX2_append cX2_append 5 (some .int), Cond.fieldLink RX2 39 "DrownedPost$Letters" "count" "I", Cond.fieldLink RX2 9 "DrownedPost$Letters" "to" "[I", Cond.fieldLink RX2 15 "DrownedPost$Letters" "weight" "[I", Cond.fieldLink RX2 18 "DrownedPost$Letters" "seal" "[I", Cond.fieldLink RX2 21 "DrownedPost$Letters" "state" "[I", Cond.fieldLink RX2 24 "DrownedPost$Letters" "growth" "[I", Cond.fieldLink RX2 27 "DrownedPost$Letters" "bin" "[I", Cond.fieldLink RX2 30 "DrownedPost$Letters" "held" "[I", Cond.fieldLink RX2 33 "DrownedPost$Letters" "hoursBefore" "[I", Cond.fieldLink RX2 36 "DrownedPost$Letters" "answered" "[I"]
def wsX5_bring : List Cond := .code yX5_bring cX5_bring 4 (some .int) :: ((wsX5_bring_r1 ++ wsX5_bring_r2) ++ wsX50 ++ wsX30 ++ wsX20 ++ wsX10 ++ (vx_atS RX5 102 "java/lang/IndexOutOfBoundsException" ["java/lang/RuntimeException", "java/lang/Exception"]).filter goodWord ++ (vx_atS RX5 27 "java/lang/IllegalArgumentException" ["java/lang/RuntimeException", "java/lang/Exception"]).filter goodWord ++ (vx_atS RX5 48 "java/lang/IllegalStateException" ["java/lang/RuntimeException", "java/lang/Exception"]).filter goodWord)
def wsX5_takeOut_r1 : List Cond := [Cond.classLink RX5 98 "java/lang/IndexOutOfBoundsException", Cond.initialized "java/lang/IndexOutOfBoundsException", Cond.classLink RX5 44 "java/lang/IllegalStateException", Cond.initialized "java/lang/IllegalStateException", Cond.fieldLink RX5 10 "DrownedPost" "now" "LDrownedPost$Office;", Cond.fieldLink RX5 105 "DrownedPost$Office" "letters" "LDrownedPost$Letters;", Cond.fieldLink RX5 118 "DrownedPost$Letters" "bin" "[I", Cond.fieldLink RX5 60 "DrownedPost$Office" "bins" "LDrownedPost$Bins;", Cond.methodLink RX5 115 yX2_has, Cond.instanceMethod yX2_has, Cond.selects RX2 yX2_has yX2_has, Cond.initialized RX2, Cond.code yX2_has cX2_has 2 (some .boolean), Cond.fieldLink RX2 39 "DrownedPost$Letters" "count" "I", Cond.methodLink RX5 122 yX0_has, Cond.instanceMethod yX0_has, Cond.selects RX0 yX0_has yX0_has, Cond.initialized RX0, Cond.code yX0_has cX0_has 2 (some .boolean), Cond.fieldLink RX0 21 "DrownedPost$Bins" "count" "I", Cond.methodLink RX5 125 yX3_tideNow, Cond.instanceMethod yX3_tideNow, Cond.selects RX3 yX3_tideNow yX3_tideNow, Cond.initialized RX3]
def wsX5_takeOut_r2 : List Cond := [Cond.code yX3_tideNow cX3_tideNow 1 (some .int), Cond.fieldLink RX3 12 "DrownedPost$Office" "tides" "LDrownedPost$Tides;", Cond.fieldLink RX3 67 "DrownedPost$Office" "hour" "I", Cond.methodLink RX3 70 yX4_heightIn, Cond.instanceMethod yX4_heightIn, Cond.selects RX4 yX4_heightIn yX4_heightIn, Cond.initialized RX4, Cond.code yX4_heightIn cX4_heightIn 2 (some .int), Cond.fieldLink RX4 18 "DrownedPost$Tides" "count" "I", Cond.fieldLink RX4 9 "DrownedPost$Tides" "heights" "[I", Cond.methodLink RX4 28 yJ9_floorMod_7cf53, Cond.static yJ9_floorMod_7cf53, Cond.initialized RJ9, Cond.code yJ9_floorMod_7cf53 cJ9_floorMod_7cf53 3 (some .int), Cond.methodLink RX5 129 yX0_isUnder, Cond.instanceMethod yX0_isUnder, Cond.selects RX0 yX0_isUnder yX0_isUnder, Cond.code yX0_isUnder cX0_isUnder 3 (some .boolean), Cond.fieldLink RX0 9 "DrownedPost$Bins" "height" "[I", Cond.methodLink RX5 135 yX3_leaveBin, Cond.instanceMethod yX3_leaveBin, Cond.selects RX3 yX3_leaveBin yX3_leaveBin, Cond.code yX3_leaveBin cX3_leaveBin 4 none, Cond.fieldLink RX3 35 "DrownedPost$Office" "letters" "LDrownedPost$Letters;"]
def wsX5_takeOut_r3 : List Cond := [Cond.fieldLink RX3 110 "DrownedPost$Letters" "bin" "[I", Cond.fieldLink RX3 21 "DrownedPost$Office" "bins" "LDrownedPost$Bins;", Cond.fieldLink RX3 143 "DrownedPost$Bins" "filled" "[I", Cond.fieldLink RX3 129 "DrownedPost$Letters" "held" "[I", Cond.fieldLink RX3 104 "DrownedPost$Letters" "state" "[I", Cond.methodLink RX3 138 yX2_has, Cond.methodLink RX3 142 yX0_has]
def wsX5_takeOut : List Cond := .code yX5_takeOut cX5_takeOut 3 (some .int) :: ((wsX5_takeOut_r1 ++ (wsX5_takeOut_r2 ++ wsX5_takeOut_r3)) ++ wsX50 ++ wsX30 ++ wsX20 ++ wsX00 ++ wsX40 ++ (vx_atS RX5 102 "java/lang/IndexOutOfBoundsException" ["java/lang/RuntimeException", "java/lang/Exception"]).filter goodWord ++ (vx_atS RX5 48 "java/lang/IllegalStateException" ["java/lang/RuntimeException", "java/lang/Exception"]).filter goodWord)
def wsX5_letter_r1 : List Cond := [Cond.classLink RX5 98 "java/lang/IndexOutOfBoundsException", Cond.initialized "java/lang/IndexOutOfBoundsException", Cond.fieldLink RX5 10 "DrownedPost" "now" "LDrownedPost$Office;", Cond.fieldLink RX5 105 "DrownedPost$Office" "letters" "LDrownedPost$Letters;", Cond.methodLink RX5 115 yX2_has, Cond.instanceMethod yX2_has, Cond.selects RX2 yX2_has yX2_has, Cond.initialized RX2, Cond.code yX2_has cX2_has 2 (some .boolean), Cond.fieldLink RX2 39 "DrownedPost$Letters" "count" "I", Cond.methodLink RX5 19 yX5_isWithin, Cond.static yX5_isWithin, Cond.initialized RX5, Cond.code yX5_isWithin cX5_isWithin 3 (some .boolean), Cond.methodLink RX5 141 yX2_fact, Cond.instanceMethod yX2_fact, Cond.selects RX2 yX2_fact yX2_fact, Cond.code yX2_fact cX2_fact 3 (some .int), Cond.fieldLink RX2 9 "DrownedPost$Letters" "to" "[I", Cond.fieldLink RX2 15 "DrownedPost$Letters" "weight" "[I", Cond.fieldLink RX2 18 "DrownedPost$Letters" "seal" "[I", Cond.fieldLink RX2 21 "DrownedPost$Letters" "state" "[I", Cond.fieldLink RX2 24 "DrownedPost$Letters" "growth" "[I", Cond.fieldLink RX2 27 "DrownedPost$Letters" "bin" "[I"]
def wsX5_letter_r2 : List Cond := [Cond.fieldLink RX2 30 "DrownedPost$Letters" "held" "[I", Cond.fieldLink RX2 33 "DrownedPost$Letters" "hoursBefore" "[I", Cond.fieldLink RX2 36 "DrownedPost$Letters" "answered" "[I", Cond.methodLink RX2 43 yX2_has]
def wsX5_letter : List Cond := .code yX5_letter cX5_letter 3 (some .int) :: ((wsX5_letter_r1 ++ wsX5_letter_r2) ++ wsX50 ++ wsX30 ++ wsX20 ++ (vx_atS RX5 102 "java/lang/IndexOutOfBoundsException" ["java/lang/RuntimeException", "java/lang/Exception"]).filter goodWord)
def wsX5_drowned : List Cond := .code yX5_drowned cX5_drowned 3 (some .int) :: ([.classLink RX5 98 "java/lang/IndexOutOfBoundsException", .initialized "java/lang/IndexOutOfBoundsException", .fieldLink RX5 10 "DrownedPost" "now" "LDrownedPost$Office;", .fieldLink RX5 82 "DrownedPost$Office" "drowned" "LDrownedPost$Drowned;", .methodLink RX5 94 yX1_has, .instanceMethod yX1_has, .selects RX1 yX1_has yX1_has, .initialized RX1, .code yX1_has cX1_has 2 (some .boolean), .fieldLink RX1 27 "DrownedPost$Drowned" "count" "I", .methodLink RX5 19 yX5_isWithin, .static yX5_isWithin, .initialized RX5, .code yX5_isWithin cX5_isWithin 3 (some .boolean), .methodLink RX5 146 yX1_fact, .instanceMethod yX1_fact, .selects RX1 yX1_fact yX1_fact, .code yX1_fact cX1_fact 3 (some .int), .fieldLink RX1 9 "DrownedPost$Drowned" "height" "[I", .fieldLink RX1 15 "DrownedPost$Drowned" "n" "[I", .fieldLink RX1 18 "DrownedPost$Drowned" "lag" "[I", .fieldLink RX1 21 "DrownedPost$Drowned" "got" "[I", .fieldLink RX1 24 "DrownedPost$Drowned" "written" "[I", .methodLink RX1 31 yX1_has] ++ wsX50 ++ wsX30 ++ wsX10 ++ (vx_atS RX5 102 "java/lang/IndexOutOfBoundsException" ["java/lang/RuntimeException", "java/lang/Exception"]).filter goodWord)
def wsX5_bin_r1 : List Cond := [Cond.classLink RX5 98 "java/lang/IndexOutOfBoundsException", Cond.initialized "java/lang/IndexOutOfBoundsException", Cond.fieldLink RX5 10 "DrownedPost" "now" "LDrownedPost$Office;", Cond.fieldLink RX5 60 "DrownedPost$Office" "bins" "LDrownedPost$Bins;", Cond.methodLink RX5 122 yX0_has, Cond.instanceMethod yX0_has, Cond.selects RX0 yX0_has yX0_has, Cond.initialized RX0, Cond.code yX0_has cX0_has 2 (some .boolean), Cond.fieldLink RX0 21 "DrownedPost$Bins" "count" "I", Cond.methodLink RX5 19 yX5_isWithin, Cond.static yX5_isWithin, Cond.initialized RX5, Cond.code yX5_isWithin cX5_isWithin 3 (some .boolean), Cond.methodLink RX5 149 yX3_binFact, Cond.instanceMethod yX3_binFact, Cond.selects RX3 yX3_binFact yX3_binFact, Cond.initialized RX3, Cond.code yX3_binFact cX3_binFact 3 (some .int), Cond.fieldLink RX3 21 "DrownedPost$Office" "bins" "LDrownedPost$Bins;", Cond.fieldLink RX3 179 "DrownedPost$Bins" "height" "[I", Cond.fieldLink RX3 182 "DrownedPost$Bins" "room" "[I", Cond.fieldLink RX3 143 "DrownedPost$Bins" "filled" "[I", Cond.fieldLink RX3 35 "DrownedPost$Office" "letters" "LDrownedPost$Letters;"]
def wsX5_bin_r2 : List Cond := [Cond.methodLink RX3 142 yX0_has, Cond.methodLink RX3 80 yX3_tideNow, Cond.instanceMethod yX3_tideNow, Cond.selects RX3 yX3_tideNow yX3_tideNow, Cond.code yX3_tideNow cX3_tideNow 1 (some .int), Cond.fieldLink RX3 12 "DrownedPost$Office" "tides" "LDrownedPost$Tides;", Cond.fieldLink RX3 67 "DrownedPost$Office" "hour" "I", Cond.methodLink RX3 70 yX4_heightIn, Cond.instanceMethod yX4_heightIn, Cond.selects RX4 yX4_heightIn yX4_heightIn, Cond.initialized RX4, Cond.code yX4_heightIn cX4_heightIn 2 (some .int), Cond.fieldLink RX4 18 "DrownedPost$Tides" "count" "I", Cond.fieldLink RX4 9 "DrownedPost$Tides" "heights" "[I", Cond.methodLink RX4 28 yJ9_floorMod_7cf53, Cond.static yJ9_floorMod_7cf53, Cond.initialized RJ9, Cond.code yJ9_floorMod_7cf53 cJ9_floorMod_7cf53 3 (some .int), Cond.methodLink RX3 113 yX0_isUnder, Cond.instanceMethod yX0_isUnder, Cond.selects RX0 yX0_isUnder yX0_isUnder, Cond.code yX0_isUnder cX0_isUnder 3 (some .boolean), Cond.fieldLink RX0 9 "DrownedPost$Bins" "height" "[I", Cond.methodLink RX3 185 yX2_growthIn]
def wsX5_bin_r3 : List Cond := [Cond.instanceMethod yX2_growthIn, Cond.selects RX2 yX2_growthIn yX2_growthIn, Cond.initialized RX2, Cond.code yX2_growthIn cX2_growthIn 4 (some .int), Cond.fieldLink RX2 39 "DrownedPost$Letters" "count" "I", Cond.fieldLink RX2 21 "DrownedPost$Letters" "state" "[I", Cond.fieldLink RX2 27 "DrownedPost$Letters" "bin" "[I", Cond.fieldLink RX2 24 "DrownedPost$Letters" "growth" "[I"]
def wsX5_bin : List Cond := .code yX5_bin cX5_bin 3 (some .int) :: ((wsX5_bin_r1 ++ (wsX5_bin_r2 ++ wsX5_bin_r3)) ++ wsX50 ++ wsX30 ++ wsX00 ++ wsX40 ++ wsX20 ++ (vx_atS RX5 102 "java/lang/IndexOutOfBoundsException" ["java/lang/RuntimeException", "java/lang/Exception"]).filter goodWord)
def wsX5_pass_r1 : List Cond := [Cond.classLink RX5 23 "java/lang/IllegalArgumentException", Cond.initialized "java/lang/IllegalArgumentException", Cond.fieldLink RX5 10 "DrownedPost" "now" "LDrownedPost$Office;", Cond.methodLink RX5 19 yX5_isWithin, Cond.static yX5_isWithin, Cond.initialized RX5, Cond.code yX5_isWithin cX5_isWithin 3 (some .boolean), Cond.methodLink RX5 154 yX3_letGoBy, Cond.instanceMethod yX3_letGoBy, Cond.selects RX3 yX3_letGoBy yX3_letGoBy, Cond.initialized RX3, Cond.code yX3_letGoBy cX3_letGoBy 4 (some .int), Cond.fieldLink RX3 77 "DrownedPost$Office" "sunkCount" "I", Cond.methodLink RX3 74 yX3_liveOneHour, Cond.instanceMethod yX3_liveOneHour, Cond.selects RX3 yX3_liveOneHour yX3_liveOneHour, Cond.code yX3_liveOneHour cX3_liveOneHour 3 none, Cond.fieldLink RX3 35 "DrownedPost$Office" "letters" "LDrownedPost$Letters;", Cond.fieldLink RX3 84 "DrownedPost$Letters" "count" "I", Cond.fieldLink RX3 67 "DrownedPost$Office" "hour" "I", Cond.methodLink RX3 80 yX3_tideNow, Cond.instanceMethod yX3_tideNow, Cond.selects RX3 yX3_tideNow yX3_tideNow, Cond.code yX3_tideNow cX3_tideNow 1 (some .int)]
def wsX5_pass_r2 : List Cond := [Cond.fieldLink RX3 12 "DrownedPost$Office" "tides" "LDrownedPost$Tides;", Cond.methodLink RX3 70 yX4_heightIn, Cond.instanceMethod yX4_heightIn, Cond.selects RX4 yX4_heightIn yX4_heightIn, Cond.initialized RX4, Cond.code yX4_heightIn cX4_heightIn 2 (some .int), Cond.fieldLink RX4 18 "DrownedPost$Tides" "count" "I", Cond.fieldLink RX4 9 "DrownedPost$Tides" "heights" "[I", Cond.methodLink RX4 28 yJ9_floorMod_7cf53, Cond.static yJ9_floorMod_7cf53, Cond.initialized RJ9, Cond.code yJ9_floorMod_7cf53 cJ9_floorMod_7cf53 3 (some .int), Cond.methodLink RX3 87 yX3_water, Cond.instanceMethod yX3_water, Cond.selects RX3 yX3_water yX3_water, Cond.code yX3_water cX3_water 3 none, Cond.fieldLink RX3 104 "DrownedPost$Letters" "state" "[I", Cond.methodLink RX3 107 yX3_wash, Cond.instanceMethod yX3_wash, Cond.selects RX3 yX3_wash yX3_wash, Cond.code yX3_wash cX3_wash 5 none, Cond.fieldLink RX3 21 "DrownedPost$Office" "bins" "LDrownedPost$Bins;", Cond.fieldLink RX3 110 "DrownedPost$Letters" "bin" "[I", Cond.fieldLink RX3 117 "DrownedPost$Letters" "growth" "[I"]
def wsX5_pass_r3 : List Cond := [Cond.fieldLink RX3 120 "DrownedPost$Letters" "weight" "[I", Cond.fieldLink RX3 28 "DrownedPost$Office" "drowned" "LDrownedPost$Drowned;", Cond.fieldLink RX3 123 "DrownedPost$Letters" "to" "[I", Cond.fieldLink RX3 129 "DrownedPost$Letters" "held" "[I", Cond.fieldLink RX3 132 "DrownedPost$Letters" "seal" "[I", Cond.fieldLink RX3 46 "DrownedPost$Office" "sunk" "[I", Cond.methodLink RX3 113 yX0_isUnder, Cond.instanceMethod yX0_isUnder, Cond.selects RX0 yX0_isUnder yX0_isUnder, Cond.initialized RX0, Cond.code yX0_isUnder cX0_isUnder 3 (some .boolean), Cond.fieldLink RX0 21 "DrownedPost$Bins" "count" "I", Cond.fieldLink RX0 9 "DrownedPost$Bins" "height" "[I", Cond.methodLink RX3 126 yX1_heightOf, Cond.instanceMethod yX1_heightOf, Cond.selects RX1 yX1_heightOf yX1_heightOf, Cond.initialized RX1, Cond.code yX1_heightOf cX1_heightOf 2 (some .int), Cond.fieldLink RX1 9 "DrownedPost$Drowned" "height" "[I", Cond.methodLink RX1 31 yX1_has, Cond.instanceMethod yX1_has, Cond.selects RX1 yX1_has yX1_has, Cond.code yX1_has cX1_has 2 (some .boolean), Cond.fieldLink RX1 27 "DrownedPost$Drowned" "count" "I"]
def wsX5_pass_r4 : List Cond := [Cond.methodLink RX3 135 yX3_leaveBin, Cond.instanceMethod yX3_leaveBin, Cond.selects RX3 yX3_leaveBin yX3_leaveBin, Cond.code yX3_leaveBin cX3_leaveBin 4 none, Cond.fieldLink RX3 143 "DrownedPost$Bins" "filled" "[I", Cond.methodLink RX3 138 yX2_has, Cond.instanceMethod yX2_has, Cond.selects RX2 yX2_has yX2_has, Cond.initialized RX2, Cond.code yX2_has cX2_has 2 (some .boolean), Cond.fieldLink RX2 39 "DrownedPost$Letters" "count" "I", Cond.methodLink RX3 142 yX0_has, Cond.instanceMethod yX0_has, Cond.selects RX0 yX0_has yX0_has, Cond.code yX0_has cX0_has 2 (some .boolean), Cond.methodLink RX3 91 yX3_writeAnswers, Cond.instanceMethod yX3_writeAnswers, Cond.selects RX3 yX3_writeAnswers yX3_writeAnswers, Cond.code yX3_writeAnswers cX3_writeAnswers 4 none, Cond.fieldLink RX3 149 "DrownedPost$Drowned" "lag" "[I", Cond.fieldLink RX3 155 "DrownedPost$Drowned" "written" "[I", Cond.methodLink RX3 146 yX1_gets, Cond.instanceMethod yX1_gets, Cond.selects RX1 yX1_gets yX1_gets]
def wsX5_pass_r5 : List Cond := [Cond.code yX1_gets cX1_gets 2 (some .boolean), Cond.fieldLink RX1 21 "DrownedPost$Drowned" "got" "[I", Cond.fieldLink RX1 15 "DrownedPost$Drowned" "n" "[I", Cond.methodLink RX3 152 yX2_answer, Cond.instanceMethod yX2_answer, Cond.selects RX2 yX2_answer yX2_answer, Cond.code yX2_answer cX2_answer 4 (some .boolean), Cond.fieldLink RX2 9 "DrownedPost$Letters" "to" "[I", Cond.fieldLink RX2 15 "DrownedPost$Letters" "weight" "[I", Cond.fieldLink RX2 18 "DrownedPost$Letters" "seal" "[I", Cond.fieldLink RX2 21 "DrownedPost$Letters" "state" "[I", Cond.fieldLink RX2 33 "DrownedPost$Letters" "hoursBefore" "[I", Cond.fieldLink RX2 36 "DrownedPost$Letters" "answered" "[I", Cond.methodLink RX2 43 yX2_has, Cond.methodLink RX2 47 yX2_append, Cond.instanceMethod yX2_append, Cond.selects RX2 yX2_append yX2_append, Cond.code yX2_append cX2_append 5 (some .int), Cond.fieldLink RX2 24 "DrownedPost$Letters" "growth" "[I", Cond.fieldLink RX2 27 "DrownedPost$Letters" "bin" "[I", Cond.fieldLink RX2 30 "DrownedPost$Letters" "held" "[I", Cond.methodLink RX3 94 yX3_bringAnswersNearer, Cond.instanceMethod yX3_bringAnswersNearer, Cond.selects RX3 yX3_bringAnswersNearer yX3_bringAnswersNearer]
def wsX5_pass_r6 : List Cond := [Cond.code yX3_bringAnswersNearer cX3_bringAnswersNearer 4 none, Cond.fieldLink RX3 158 "DrownedPost$Letters" "hoursBefore" "[I", Cond.methodLink RX3 98 yX3_scrape, Cond.instanceMethod yX3_scrape, Cond.selects RX3 yX3_scrape yX3_scrape, Cond.code yX3_scrape cX3_scrape 4 none, Cond.fieldLink RX3 50 "DrownedPost$Office" "scraped" "[Z", Cond.fieldLink RX3 39 "DrownedPost$Office" "scrapers" "I", Cond.methodLink RX3 164 Lib.Math.max.name, Cond.static Lib.Math.max.name, Cond.initialized "java/lang/Math", Cond.code Lib.Math.max.name Lib.Math.max.code 2 (some .int), Cond.methodLink RX3 161 yX3_mostOvergrown, Cond.instanceMethod yX3_mostOvergrown, Cond.selects RX3 yX3_mostOvergrown yX3_mostOvergrown, Cond.code yX3_mostOvergrown cX3_mostOvergrown 5 (some .int), Cond.methodLink RX3 170 yX3_canBeScraped, Cond.instanceMethod yX3_canBeScraped, Cond.selects RX3 yX3_canBeScraped yX3_canBeScraped, Cond.code yX3_canBeScraped cX3_canBeScraped 3 (some .boolean), Cond.methodLink RX3 101 yX3_sort, Cond.instanceMethod yX3_sort, Cond.selects RX3 yX3_sort yX3_sort, Cond.code yX3_sort cX3_sort 4 none]
def wsX5_pass_r7 : List Cond := [Cond.fieldLink RX3 43 "DrownedPost$Office" "sorters" "I", Cond.methodLink RX3 173 yX2_heaviestInOffice, Cond.instanceMethod yX2_heaviestInOffice, Cond.selects RX2 yX2_heaviestInOffice yX2_heaviestInOffice, Cond.code yX2_heaviestInOffice cX2_heaviestInOffice 3 (some .int), Cond.methodLink RX3 176 yX0_nearestWithRoom, Cond.instanceMethod yX0_nearestWithRoom, Cond.selects RX0 yX0_nearestWithRoom yX0_nearestWithRoom, Cond.code yX0_nearestWithRoom cX0_nearestWithRoom 4 (some .int), Cond.fieldLink RX0 18 "DrownedPost$Bins" "filled" "[I", Cond.fieldLink RX0 15 "DrownedPost$Bins" "room" "[I", Cond.methodLink RX0 25 yX0_isNearer, Cond.instanceMethod yX0_isNearer, Cond.selects RX0 yX0_isNearer yX0_isNearer, Cond.code yX0_isNearer cX0_isNearer 6 (some .boolean), Cond.methodLink RX0 29 Lib.Math.abs.name, Cond.static Lib.Math.abs.name, Cond.code Lib.Math.abs.name Lib.Math.abs.code 1 (some .int)]
def wsX5_pass : List Cond := .code yX5_pass cX5_pass 2 (some .int) :: ((wsX5_pass_r1 ++ (wsX5_pass_r2 ++ (wsX5_pass_r3 ++ (wsX5_pass_r4 ++ (wsX5_pass_r5 ++ (wsX5_pass_r6 ++ wsX5_pass_r7)))))) ++ wsX50 ++ wsX30 ++ wsX20 ++ wsX40 ++ wsX00 ++ wsX10 ++ (vx_atS RX5 27 "java/lang/IllegalArgumentException" ["java/lang/RuntimeException", "java/lang/Exception"]).filter goodWord)
def wsX5_count_r1 : List Cond := [Cond.classLink RX5 98 "java/lang/IndexOutOfBoundsException", Cond.initialized "java/lang/IndexOutOfBoundsException", Cond.fieldLink RX5 10 "DrownedPost" "now" "LDrownedPost$Office;", Cond.methodLink RX5 19 yX5_isWithin, Cond.static yX5_isWithin, Cond.initialized RX5, Cond.code yX5_isWithin cX5_isWithin 3 (some .boolean), Cond.methodLink RX5 159 yX3_total, Cond.instanceMethod yX3_total, Cond.selects RX3 yX3_total yX3_total, Cond.initialized RX3, Cond.code yX3_total cX3_total 2 (some .int), Cond.fieldLink RX3 67 "DrownedPost$Office" "hour" "I", Cond.fieldLink RX3 21 "DrownedPost$Office" "bins" "LDrownedPost$Bins;", Cond.fieldLink RX3 188 "DrownedPost$Bins" "count" "I", Cond.fieldLink RX3 28 "DrownedPost$Office" "drowned" "LDrownedPost$Drowned;", Cond.fieldLink RX3 189 "DrownedPost$Drowned" "count" "I", Cond.fieldLink RX3 35 "DrownedPost$Office" "letters" "LDrownedPost$Letters;", Cond.fieldLink RX3 84 "DrownedPost$Letters" "count" "I", Cond.fieldLink RX3 12 "DrownedPost$Office" "tides" "LDrownedPost$Tides;", Cond.fieldLink RX3 190 "DrownedPost$Tides" "count" "I", Cond.fieldLink RX3 39 "DrownedPost$Office" "scrapers" "I", Cond.fieldLink RX3 43 "DrownedPost$Office" "sorters" "I", Cond.methodLink RX3 191 yX2_inState]
def wsX5_count_r2 : List Cond := [Cond.instanceMethod yX2_inState, Cond.selects RX2 yX2_inState yX2_inState, Cond.initialized RX2, Cond.code yX2_inState cX2_inState 4 (some .int), Cond.fieldLink RX2 39 "DrownedPost$Letters" "count" "I", Cond.fieldLink RX2 21 "DrownedPost$Letters" "state" "[I"]
def wsX5_count : List Cond := .code yX5_count cX5_count 2 (some .int) :: ((wsX5_count_r1 ++ wsX5_count_r2) ++ wsX50 ++ wsX30 ++ wsX00 ++ wsX10 ++ wsX20 ++ wsX40 ++ (vx_atS RX5 102 "java/lang/IndexOutOfBoundsException" ["java/lang/RuntimeException", "java/lang/Exception"]).filter goodWord)
def wsX5_binFor_r1 : List Cond := [Cond.classLink RX5 98 "java/lang/IndexOutOfBoundsException", Cond.initialized "java/lang/IndexOutOfBoundsException", Cond.fieldLink RX5 10 "DrownedPost" "now" "LDrownedPost$Office;", Cond.fieldLink RX5 82 "DrownedPost$Office" "drowned" "LDrownedPost$Drowned;", Cond.fieldLink RX5 60 "DrownedPost$Office" "bins" "LDrownedPost$Bins;", Cond.methodLink RX5 94 yX1_has, Cond.instanceMethod yX1_has, Cond.selects RX1 yX1_has yX1_has, Cond.initialized RX1, Cond.code yX1_has cX1_has 2 (some .boolean), Cond.fieldLink RX1 27 "DrownedPost$Drowned" "count" "I", Cond.methodLink RX5 162 yX1_heightOf, Cond.instanceMethod yX1_heightOf, Cond.selects RX1 yX1_heightOf yX1_heightOf, Cond.code yX1_heightOf cX1_heightOf 2 (some .int), Cond.fieldLink RX1 9 "DrownedPost$Drowned" "height" "[I", Cond.methodLink RX1 31 yX1_has, Cond.methodLink RX5 165 yX0_nearestWithRoom, Cond.instanceMethod yX0_nearestWithRoom, Cond.selects RX0 yX0_nearestWithRoom yX0_nearestWithRoom, Cond.initialized RX0, Cond.code yX0_nearestWithRoom cX0_nearestWithRoom 4 (some .int), Cond.fieldLink RX0 21 "DrownedPost$Bins" "count" "I", Cond.fieldLink RX0 18 "DrownedPost$Bins" "filled" "[I"]
def wsX5_binFor_r2 : List Cond := [Cond.fieldLink RX0 15 "DrownedPost$Bins" "room" "[I", Cond.methodLink RX0 25 yX0_isNearer, Cond.instanceMethod yX0_isNearer, Cond.selects RX0 yX0_isNearer yX0_isNearer, Cond.code yX0_isNearer cX0_isNearer 6 (some .boolean), Cond.fieldLink RX0 9 "DrownedPost$Bins" "height" "[I", Cond.methodLink RX0 29 Lib.Math.abs.name, Cond.static Lib.Math.abs.name, Cond.initialized "java/lang/Math", Cond.code Lib.Math.abs.name Lib.Math.abs.code 1 (some .int)]
def wsX5_binFor : List Cond := .code yX5_binFor cX5_binFor 2 (some .int) :: ((wsX5_binFor_r1 ++ wsX5_binFor_r2) ++ wsX50 ++ wsX30 ++ wsX10 ++ wsX00 ++ (vx_atS RX5 102 "java/lang/IndexOutOfBoundsException" ["java/lang/RuntimeException", "java/lang/Exception"]).filter goodWord)
def wsX5_foresee_r1 : List Cond := [Cond.classLink RX5 23 "java/lang/IllegalArgumentException", Cond.initialized "java/lang/IllegalArgumentException", Cond.classLink RX5 98 "java/lang/IndexOutOfBoundsException", Cond.initialized "java/lang/IndexOutOfBoundsException", Cond.fieldLink RX5 16 "DrownedPost" "ahead" "LDrownedPost$Office;", Cond.fieldLink RX5 10 "DrownedPost" "now" "LDrownedPost$Office;", Cond.fieldLink RX5 105 "DrownedPost$Office" "letters" "LDrownedPost$Letters;", Cond.methodLink RX5 19 yX5_isWithin, Cond.static yX5_isWithin, Cond.initialized RX5, Cond.code yX5_isWithin cX5_isWithin 3 (some .boolean), Cond.methodLink RX5 172 yX3_copyFrom, Cond.instanceMethod yX3_copyFrom, Cond.selects RX3 yX3_copyFrom yX3_copyFrom, Cond.initialized RX3, Cond.code yX3_copyFrom cX3_copyFrom 2 none, Cond.fieldLink RX3 12 "DrownedPost$Office" "tides" "LDrownedPost$Tides;", Cond.fieldLink RX3 21 "DrownedPost$Office" "bins" "LDrownedPost$Bins;", Cond.fieldLink RX3 28 "DrownedPost$Office" "drowned" "LDrownedPost$Drowned;", Cond.fieldLink RX3 35 "DrownedPost$Office" "letters" "LDrownedPost$Letters;", Cond.fieldLink RX3 67 "DrownedPost$Office" "hour" "I", Cond.fieldLink RX3 39 "DrownedPost$Office" "scrapers" "I", Cond.fieldLink RX3 43 "DrownedPost$Office" "sorters" "I", Cond.methodLink RX3 54 yX4_copyFrom]
def wsX5_foresee_r2 : List Cond := [Cond.instanceMethod yX4_copyFrom, Cond.selects RX4 yX4_copyFrom yX4_copyFrom, Cond.initialized RX4, Cond.code yX4_copyFrom cX4_copyFrom 2 none, Cond.fieldLink RX4 18 "DrownedPost$Tides" "count" "I", Cond.fieldLink RX4 9 "DrownedPost$Tides" "heights" "[I", Cond.methodLink RX4 22 arraycopyName, Cond.native arraycopyName, Cond.static arraycopyName, Cond.initialized "java/lang/System", Cond.methodLink RX3 58 yX0_copyFrom, Cond.instanceMethod yX0_copyFrom, Cond.selects RX0 yX0_copyFrom yX0_copyFrom, Cond.initialized RX0, Cond.code yX0_copyFrom cX0_copyFrom 2 none, Cond.fieldLink RX0 21 "DrownedPost$Bins" "count" "I", Cond.fieldLink RX0 9 "DrownedPost$Bins" "height" "[I", Cond.methodLink RX0 35 arraycopyName, Cond.fieldLink RX0 15 "DrownedPost$Bins" "room" "[I", Cond.fieldLink RX0 18 "DrownedPost$Bins" "filled" "[I", Cond.methodLink RX3 61 yX1_copyFrom, Cond.instanceMethod yX1_copyFrom, Cond.selects RX1 yX1_copyFrom yX1_copyFrom, Cond.initialized RX1]
def wsX5_foresee_r3 : List Cond := [Cond.code yX1_copyFrom cX1_copyFrom 2 none, Cond.fieldLink RX1 27 "DrownedPost$Drowned" "count" "I", Cond.fieldLink RX1 9 "DrownedPost$Drowned" "height" "[I", Cond.methodLink RX1 41 arraycopyName, Cond.fieldLink RX1 15 "DrownedPost$Drowned" "n" "[I", Cond.fieldLink RX1 18 "DrownedPost$Drowned" "lag" "[I", Cond.fieldLink RX1 21 "DrownedPost$Drowned" "got" "[I", Cond.fieldLink RX1 24 "DrownedPost$Drowned" "written" "[I", Cond.methodLink RX3 64 yX2_copyFrom, Cond.instanceMethod yX2_copyFrom, Cond.selects RX2 yX2_copyFrom yX2_copyFrom, Cond.initialized RX2, Cond.code yX2_copyFrom cX2_copyFrom 2 none, Cond.fieldLink RX2 39 "DrownedPost$Letters" "count" "I", Cond.fieldLink RX2 9 "DrownedPost$Letters" "to" "[I", Cond.methodLink RX2 57 arraycopyName, Cond.fieldLink RX2 15 "DrownedPost$Letters" "weight" "[I", Cond.fieldLink RX2 18 "DrownedPost$Letters" "seal" "[I", Cond.fieldLink RX2 21 "DrownedPost$Letters" "state" "[I", Cond.fieldLink RX2 24 "DrownedPost$Letters" "growth" "[I", Cond.fieldLink RX2 27 "DrownedPost$Letters" "bin" "[I", Cond.fieldLink RX2 30 "DrownedPost$Letters" "held" "[I", Cond.fieldLink RX2 33 "DrownedPost$Letters" "hoursBefore" "[I", Cond.fieldLink RX2 36 "DrownedPost$Letters" "answered" "[I"]
def wsX5_foresee_r4 : List Cond := [Cond.methodLink RX5 154 yX3_letGoBy, Cond.instanceMethod yX3_letGoBy, Cond.selects RX3 yX3_letGoBy yX3_letGoBy, Cond.code yX3_letGoBy cX3_letGoBy 4 (some .int), Cond.fieldLink RX3 77 "DrownedPost$Office" "sunkCount" "I", Cond.methodLink RX3 74 yX3_liveOneHour, Cond.instanceMethod yX3_liveOneHour, Cond.selects RX3 yX3_liveOneHour yX3_liveOneHour, Cond.code yX3_liveOneHour cX3_liveOneHour 3 none, Cond.fieldLink RX3 84 "DrownedPost$Letters" "count" "I", Cond.methodLink RX3 80 yX3_tideNow, Cond.instanceMethod yX3_tideNow, Cond.selects RX3 yX3_tideNow yX3_tideNow, Cond.code yX3_tideNow cX3_tideNow 1 (some .int), Cond.methodLink RX3 70 yX4_heightIn, Cond.instanceMethod yX4_heightIn, Cond.selects RX4 yX4_heightIn yX4_heightIn, Cond.code yX4_heightIn cX4_heightIn 2 (some .int), Cond.methodLink RX4 28 yJ9_floorMod_7cf53, Cond.static yJ9_floorMod_7cf53, Cond.initialized RJ9, Cond.code yJ9_floorMod_7cf53 cJ9_floorMod_7cf53 3 (some .int), Cond.methodLink RX3 87 yX3_water, Cond.instanceMethod yX3_water]
def wsX5_foresee_r5 : List Cond := [Cond.selects RX3 yX3_water yX3_water, Cond.code yX3_water cX3_water 3 none, Cond.fieldLink RX3 104 "DrownedPost$Letters" "state" "[I", Cond.methodLink RX3 107 yX3_wash, Cond.instanceMethod yX3_wash, Cond.selects RX3 yX3_wash yX3_wash, Cond.code yX3_wash cX3_wash 5 none, Cond.fieldLink RX3 110 "DrownedPost$Letters" "bin" "[I", Cond.fieldLink RX3 117 "DrownedPost$Letters" "growth" "[I", Cond.fieldLink RX3 120 "DrownedPost$Letters" "weight" "[I", Cond.fieldLink RX3 123 "DrownedPost$Letters" "to" "[I", Cond.fieldLink RX3 129 "DrownedPost$Letters" "held" "[I", Cond.fieldLink RX3 132 "DrownedPost$Letters" "seal" "[I", Cond.fieldLink RX3 46 "DrownedPost$Office" "sunk" "[I", Cond.methodLink RX3 113 yX0_isUnder, Cond.instanceMethod yX0_isUnder, Cond.selects RX0 yX0_isUnder yX0_isUnder, Cond.code yX0_isUnder cX0_isUnder 3 (some .boolean), Cond.methodLink RX3 126 yX1_heightOf, Cond.instanceMethod yX1_heightOf, Cond.selects RX1 yX1_heightOf yX1_heightOf, Cond.code yX1_heightOf cX1_heightOf 2 (some .int), Cond.methodLink RX1 31 yX1_has, Cond.instanceMethod yX1_has]
def wsX5_foresee_r6 : List Cond := [Cond.selects RX1 yX1_has yX1_has, Cond.code yX1_has cX1_has 2 (some .boolean), Cond.methodLink RX3 135 yX3_leaveBin, Cond.instanceMethod yX3_leaveBin, Cond.selects RX3 yX3_leaveBin yX3_leaveBin, Cond.code yX3_leaveBin cX3_leaveBin 4 none, Cond.fieldLink RX3 143 "DrownedPost$Bins" "filled" "[I", Cond.methodLink RX3 138 yX2_has, Cond.instanceMethod yX2_has, Cond.selects RX2 yX2_has yX2_has, Cond.code yX2_has cX2_has 2 (some .boolean), Cond.methodLink RX3 142 yX0_has, Cond.instanceMethod yX0_has, Cond.selects RX0 yX0_has yX0_has, Cond.code yX0_has cX0_has 2 (some .boolean), Cond.methodLink RX3 91 yX3_writeAnswers, Cond.instanceMethod yX3_writeAnswers, Cond.selects RX3 yX3_writeAnswers yX3_writeAnswers, Cond.code yX3_writeAnswers cX3_writeAnswers 4 none, Cond.fieldLink RX3 149 "DrownedPost$Drowned" "lag" "[I", Cond.fieldLink RX3 155 "DrownedPost$Drowned" "written" "[I", Cond.methodLink RX3 146 yX1_gets, Cond.instanceMethod yX1_gets, Cond.selects RX1 yX1_gets yX1_gets]
def wsX5_foresee_r7 : List Cond := [Cond.code yX1_gets cX1_gets 2 (some .boolean), Cond.methodLink RX3 152 yX2_answer, Cond.instanceMethod yX2_answer, Cond.selects RX2 yX2_answer yX2_answer, Cond.code yX2_answer cX2_answer 4 (some .boolean), Cond.methodLink RX2 43 yX2_has, Cond.methodLink RX2 47 yX2_append, Cond.instanceMethod yX2_append, Cond.selects RX2 yX2_append yX2_append, Cond.code yX2_append cX2_append 5 (some .int), Cond.methodLink RX3 94 yX3_bringAnswersNearer, Cond.instanceMethod yX3_bringAnswersNearer, Cond.selects RX3 yX3_bringAnswersNearer yX3_bringAnswersNearer, Cond.code yX3_bringAnswersNearer cX3_bringAnswersNearer 4 none, Cond.fieldLink RX3 158 "DrownedPost$Letters" "hoursBefore" "[I", Cond.methodLink RX3 98 yX3_scrape, Cond.instanceMethod yX3_scrape, Cond.selects RX3 yX3_scrape yX3_scrape, Cond.code yX3_scrape cX3_scrape 4 none, Cond.fieldLink RX3 50 "DrownedPost$Office" "scraped" "[Z", Cond.methodLink RX3 164 Lib.Math.max.name, Cond.static Lib.Math.max.name, Cond.initialized "java/lang/Math", Cond.code Lib.Math.max.name Lib.Math.max.code 2 (some .int)]
def wsX5_foresee_r8 : List Cond := [Cond.methodLink RX3 161 yX3_mostOvergrown, Cond.instanceMethod yX3_mostOvergrown, Cond.selects RX3 yX3_mostOvergrown yX3_mostOvergrown, Cond.code yX3_mostOvergrown cX3_mostOvergrown 5 (some .int), Cond.methodLink RX3 170 yX3_canBeScraped, Cond.instanceMethod yX3_canBeScraped, Cond.selects RX3 yX3_canBeScraped yX3_canBeScraped, Cond.code yX3_canBeScraped cX3_canBeScraped 3 (some .boolean), Cond.methodLink RX3 101 yX3_sort, Cond.instanceMethod yX3_sort, Cond.selects RX3 yX3_sort yX3_sort, Cond.code yX3_sort cX3_sort 4 none, Cond.methodLink RX3 173 yX2_heaviestInOffice, Cond.instanceMethod yX2_heaviestInOffice, Cond.selects RX2 yX2_heaviestInOffice yX2_heaviestInOffice, Cond.code yX2_heaviestInOffice cX2_heaviestInOffice 3 (some .int), Cond.methodLink RX3 176 yX0_nearestWithRoom, Cond.instanceMethod yX0_nearestWithRoom, Cond.selects RX0 yX0_nearestWithRoom yX0_nearestWithRoom, Cond.code yX0_nearestWithRoom cX0_nearestWithRoom 4 (some .int), Cond.methodLink RX0 25 yX0_isNearer, Cond.instanceMethod yX0_isNearer, Cond.selects RX0 yX0_isNearer yX0_isNearer, Cond.code yX0_isNearer cX0_isNearer 6 (some .boolean)]
def wsX5_foresee_r9 : List Cond := [Cond.methodLink RX0 29 Lib.Math.abs.name, Cond.static Lib.Math.abs.name, Cond.code Lib.Math.abs.name Lib.Math.abs.code 1 (some .int), Cond.methodLink RX5 176 yX2_inState, Cond.instanceMethod yX2_inState, Cond.selects RX2 yX2_inState yX2_inState, Cond.code yX2_inState cX2_inState 4 (some .int)]
def wsX5_foresee : List Cond := .code yX5_foresee cX5_foresee 4 (some .int) :: ((wsX5_foresee_r1 ++ (wsX5_foresee_r2 ++ (wsX5_foresee_r3 ++ (wsX5_foresee_r4 ++ (wsX5_foresee_r5 ++ (wsX5_foresee_r6 ++ (wsX5_foresee_r7 ++ (wsX5_foresee_r8 ++ wsX5_foresee_r9)))))))) ++ wsX50 ++ wsX30 ++ wsX40 ++ wsX00 ++ wsX10 ++ wsX20 ++ (vx_atS RX5 27 "java/lang/IllegalArgumentException" ["java/lang/RuntimeException", "java/lang/Exception"]).filter goodWord ++ (vx_atS RX5 102 "java/lang/IndexOutOfBoundsException" ["java/lang/RuntimeException", "java/lang/Exception"]).filter goodWord)
def wsX5_fate_r1 : List Cond := [Cond.classLink RX5 98 "java/lang/IndexOutOfBoundsException", Cond.initialized "java/lang/IndexOutOfBoundsException", Cond.classLink RX5 23 "java/lang/IllegalArgumentException", Cond.initialized "java/lang/IllegalArgumentException", Cond.fieldLink RX5 10 "DrownedPost" "now" "LDrownedPost$Office;", Cond.fieldLink RX5 105 "DrownedPost$Office" "letters" "LDrownedPost$Letters;", Cond.fieldLink RX5 16 "DrownedPost" "ahead" "LDrownedPost$Office;", Cond.fieldLink RX5 179 "DrownedPost$Letters" "state" "[I", Cond.methodLink RX5 115 yX2_has, Cond.instanceMethod yX2_has, Cond.selects RX2 yX2_has yX2_has, Cond.initialized RX2, Cond.code yX2_has cX2_has 2 (some .boolean), Cond.fieldLink RX2 39 "DrownedPost$Letters" "count" "I", Cond.methodLink RX5 19 yX5_isWithin, Cond.static yX5_isWithin, Cond.initialized RX5, Cond.code yX5_isWithin cX5_isWithin 3 (some .boolean), Cond.methodLink RX5 172 yX3_copyFrom, Cond.instanceMethod yX3_copyFrom, Cond.selects RX3 yX3_copyFrom yX3_copyFrom, Cond.initialized RX3, Cond.code yX3_copyFrom cX3_copyFrom 2 none, Cond.fieldLink RX3 12 "DrownedPost$Office" "tides" "LDrownedPost$Tides;"]
def wsX5_fate_r2 : List Cond := [Cond.fieldLink RX3 21 "DrownedPost$Office" "bins" "LDrownedPost$Bins;", Cond.fieldLink RX3 28 "DrownedPost$Office" "drowned" "LDrownedPost$Drowned;", Cond.fieldLink RX3 35 "DrownedPost$Office" "letters" "LDrownedPost$Letters;", Cond.fieldLink RX3 67 "DrownedPost$Office" "hour" "I", Cond.fieldLink RX3 39 "DrownedPost$Office" "scrapers" "I", Cond.fieldLink RX3 43 "DrownedPost$Office" "sorters" "I", Cond.methodLink RX3 54 yX4_copyFrom, Cond.instanceMethod yX4_copyFrom, Cond.selects RX4 yX4_copyFrom yX4_copyFrom, Cond.initialized RX4, Cond.code yX4_copyFrom cX4_copyFrom 2 none, Cond.fieldLink RX4 18 "DrownedPost$Tides" "count" "I", Cond.fieldLink RX4 9 "DrownedPost$Tides" "heights" "[I", Cond.methodLink RX4 22 arraycopyName, Cond.native arraycopyName, Cond.static arraycopyName, Cond.initialized "java/lang/System", Cond.methodLink RX3 58 yX0_copyFrom, Cond.instanceMethod yX0_copyFrom, Cond.selects RX0 yX0_copyFrom yX0_copyFrom, Cond.initialized RX0, Cond.code yX0_copyFrom cX0_copyFrom 2 none, Cond.fieldLink RX0 21 "DrownedPost$Bins" "count" "I", Cond.fieldLink RX0 9 "DrownedPost$Bins" "height" "[I"]
def wsX5_fate_r3 : List Cond := [Cond.methodLink RX0 35 arraycopyName, Cond.fieldLink RX0 15 "DrownedPost$Bins" "room" "[I", Cond.fieldLink RX0 18 "DrownedPost$Bins" "filled" "[I", Cond.methodLink RX3 61 yX1_copyFrom, Cond.instanceMethod yX1_copyFrom, Cond.selects RX1 yX1_copyFrom yX1_copyFrom, Cond.initialized RX1, Cond.code yX1_copyFrom cX1_copyFrom 2 none, Cond.fieldLink RX1 27 "DrownedPost$Drowned" "count" "I", Cond.fieldLink RX1 9 "DrownedPost$Drowned" "height" "[I", Cond.methodLink RX1 41 arraycopyName, Cond.fieldLink RX1 15 "DrownedPost$Drowned" "n" "[I", Cond.fieldLink RX1 18 "DrownedPost$Drowned" "lag" "[I", Cond.fieldLink RX1 21 "DrownedPost$Drowned" "got" "[I", Cond.fieldLink RX1 24 "DrownedPost$Drowned" "written" "[I", Cond.methodLink RX3 64 yX2_copyFrom, Cond.instanceMethod yX2_copyFrom, Cond.selects RX2 yX2_copyFrom yX2_copyFrom, Cond.code yX2_copyFrom cX2_copyFrom 2 none, Cond.fieldLink RX2 9 "DrownedPost$Letters" "to" "[I", Cond.methodLink RX2 57 arraycopyName, Cond.fieldLink RX2 15 "DrownedPost$Letters" "weight" "[I", Cond.fieldLink RX2 18 "DrownedPost$Letters" "seal" "[I", Cond.fieldLink RX2 21 "DrownedPost$Letters" "state" "[I"]
def wsX5_fate_r4 : List Cond := [Cond.fieldLink RX2 24 "DrownedPost$Letters" "growth" "[I", Cond.fieldLink RX2 27 "DrownedPost$Letters" "bin" "[I", Cond.fieldLink RX2 30 "DrownedPost$Letters" "held" "[I", Cond.fieldLink RX2 33 "DrownedPost$Letters" "hoursBefore" "[I", Cond.fieldLink RX2 36 "DrownedPost$Letters" "answered" "[I", Cond.methodLink RX5 154 yX3_letGoBy, Cond.instanceMethod yX3_letGoBy, Cond.selects RX3 yX3_letGoBy yX3_letGoBy, Cond.code yX3_letGoBy cX3_letGoBy 4 (some .int), Cond.fieldLink RX3 77 "DrownedPost$Office" "sunkCount" "I", Cond.methodLink RX3 74 yX3_liveOneHour, Cond.instanceMethod yX3_liveOneHour, Cond.selects RX3 yX3_liveOneHour yX3_liveOneHour, Cond.code yX3_liveOneHour cX3_liveOneHour 3 none, Cond.fieldLink RX3 84 "DrownedPost$Letters" "count" "I", Cond.methodLink RX3 80 yX3_tideNow, Cond.instanceMethod yX3_tideNow, Cond.selects RX3 yX3_tideNow yX3_tideNow, Cond.code yX3_tideNow cX3_tideNow 1 (some .int), Cond.methodLink RX3 70 yX4_heightIn, Cond.instanceMethod yX4_heightIn, Cond.selects RX4 yX4_heightIn yX4_heightIn, Cond.code yX4_heightIn cX4_heightIn 2 (some .int), Cond.methodLink RX4 28 yJ9_floorMod_7cf53]
def wsX5_fate_r5 : List Cond := [Cond.static yJ9_floorMod_7cf53, Cond.initialized RJ9, Cond.code yJ9_floorMod_7cf53 cJ9_floorMod_7cf53 3 (some .int), Cond.methodLink RX3 87 yX3_water, Cond.instanceMethod yX3_water, Cond.selects RX3 yX3_water yX3_water, Cond.code yX3_water cX3_water 3 none, Cond.fieldLink RX3 104 "DrownedPost$Letters" "state" "[I", Cond.methodLink RX3 107 yX3_wash, Cond.instanceMethod yX3_wash, Cond.selects RX3 yX3_wash yX3_wash, Cond.code yX3_wash cX3_wash 5 none, Cond.fieldLink RX3 110 "DrownedPost$Letters" "bin" "[I", Cond.fieldLink RX3 117 "DrownedPost$Letters" "growth" "[I", Cond.fieldLink RX3 120 "DrownedPost$Letters" "weight" "[I", Cond.fieldLink RX3 123 "DrownedPost$Letters" "to" "[I", Cond.fieldLink RX3 129 "DrownedPost$Letters" "held" "[I", Cond.fieldLink RX3 132 "DrownedPost$Letters" "seal" "[I", Cond.fieldLink RX3 46 "DrownedPost$Office" "sunk" "[I", Cond.methodLink RX3 113 yX0_isUnder, Cond.instanceMethod yX0_isUnder, Cond.selects RX0 yX0_isUnder yX0_isUnder, Cond.code yX0_isUnder cX0_isUnder 3 (some .boolean), Cond.methodLink RX3 126 yX1_heightOf]
def wsX5_fate_r6 : List Cond := [Cond.instanceMethod yX1_heightOf, Cond.selects RX1 yX1_heightOf yX1_heightOf, Cond.code yX1_heightOf cX1_heightOf 2 (some .int), Cond.methodLink RX1 31 yX1_has, Cond.instanceMethod yX1_has, Cond.selects RX1 yX1_has yX1_has, Cond.code yX1_has cX1_has 2 (some .boolean), Cond.methodLink RX3 135 yX3_leaveBin, Cond.instanceMethod yX3_leaveBin, Cond.selects RX3 yX3_leaveBin yX3_leaveBin, Cond.code yX3_leaveBin cX3_leaveBin 4 none, Cond.fieldLink RX3 143 "DrownedPost$Bins" "filled" "[I", Cond.methodLink RX3 138 yX2_has, Cond.methodLink RX3 142 yX0_has, Cond.instanceMethod yX0_has, Cond.selects RX0 yX0_has yX0_has, Cond.code yX0_has cX0_has 2 (some .boolean), Cond.methodLink RX3 91 yX3_writeAnswers, Cond.instanceMethod yX3_writeAnswers, Cond.selects RX3 yX3_writeAnswers yX3_writeAnswers, Cond.code yX3_writeAnswers cX3_writeAnswers 4 none, Cond.fieldLink RX3 149 "DrownedPost$Drowned" "lag" "[I", Cond.fieldLink RX3 155 "DrownedPost$Drowned" "written" "[I", Cond.methodLink RX3 146 yX1_gets]
def wsX5_fate_r7 : List Cond := [Cond.instanceMethod yX1_gets, Cond.selects RX1 yX1_gets yX1_gets, Cond.code yX1_gets cX1_gets 2 (some .boolean), Cond.methodLink RX3 152 yX2_answer, Cond.instanceMethod yX2_answer, Cond.selects RX2 yX2_answer yX2_answer, Cond.code yX2_answer cX2_answer 4 (some .boolean), Cond.methodLink RX2 43 yX2_has, Cond.methodLink RX2 47 yX2_append, Cond.instanceMethod yX2_append, Cond.selects RX2 yX2_append yX2_append, Cond.code yX2_append cX2_append 5 (some .int), Cond.methodLink RX3 94 yX3_bringAnswersNearer, Cond.instanceMethod yX3_bringAnswersNearer, Cond.selects RX3 yX3_bringAnswersNearer yX3_bringAnswersNearer, Cond.code yX3_bringAnswersNearer cX3_bringAnswersNearer 4 none, Cond.fieldLink RX3 158 "DrownedPost$Letters" "hoursBefore" "[I", Cond.methodLink RX3 98 yX3_scrape, Cond.instanceMethod yX3_scrape, Cond.selects RX3 yX3_scrape yX3_scrape, Cond.code yX3_scrape cX3_scrape 4 none, Cond.fieldLink RX3 50 "DrownedPost$Office" "scraped" "[Z", Cond.methodLink RX3 164 Lib.Math.max.name, Cond.static Lib.Math.max.name]
def wsX5_fate_r8 : List Cond := [Cond.initialized "java/lang/Math", Cond.code Lib.Math.max.name Lib.Math.max.code 2 (some .int), Cond.methodLink RX3 161 yX3_mostOvergrown, Cond.instanceMethod yX3_mostOvergrown, Cond.selects RX3 yX3_mostOvergrown yX3_mostOvergrown, Cond.code yX3_mostOvergrown cX3_mostOvergrown 5 (some .int), Cond.methodLink RX3 170 yX3_canBeScraped, Cond.instanceMethod yX3_canBeScraped, Cond.selects RX3 yX3_canBeScraped yX3_canBeScraped, Cond.code yX3_canBeScraped cX3_canBeScraped 3 (some .boolean), Cond.methodLink RX3 101 yX3_sort, Cond.instanceMethod yX3_sort, Cond.selects RX3 yX3_sort yX3_sort, Cond.code yX3_sort cX3_sort 4 none, Cond.methodLink RX3 173 yX2_heaviestInOffice, Cond.instanceMethod yX2_heaviestInOffice, Cond.selects RX2 yX2_heaviestInOffice yX2_heaviestInOffice, Cond.code yX2_heaviestInOffice cX2_heaviestInOffice 3 (some .int), Cond.methodLink RX3 176 yX0_nearestWithRoom, Cond.instanceMethod yX0_nearestWithRoom, Cond.selects RX0 yX0_nearestWithRoom yX0_nearestWithRoom, Cond.code yX0_nearestWithRoom cX0_nearestWithRoom 4 (some .int), Cond.methodLink RX0 25 yX0_isNearer, Cond.instanceMethod yX0_isNearer]
def wsX5_fate_r9 : List Cond := [Cond.selects RX0 yX0_isNearer yX0_isNearer, Cond.code yX0_isNearer cX0_isNearer 6 (some .boolean), Cond.methodLink RX0 29 Lib.Math.abs.name, Cond.static Lib.Math.abs.name, Cond.code Lib.Math.abs.name Lib.Math.abs.code 1 (some .int)]
def wsX5_fate : List Cond := .code yX5_fate cX5_fate 3 (some .int) :: ((wsX5_fate_r1 ++ (wsX5_fate_r2 ++ (wsX5_fate_r3 ++ (wsX5_fate_r4 ++ (wsX5_fate_r5 ++ (wsX5_fate_r6 ++ (wsX5_fate_r7 ++ (wsX5_fate_r8 ++ wsX5_fate_r9)))))))) ++ wsX50 ++ wsX30 ++ wsX20 ++ wsX40 ++ wsX00 ++ wsX10 ++ (vx_atS RX5 102 "java/lang/IndexOutOfBoundsException" ["java/lang/RuntimeException", "java/lang/Exception"]).filter goodWord ++ (vx_atS RX5 27 "java/lang/IllegalArgumentException" ["java/lang/RuntimeException", "java/lang/Exception"]).filter goodWord)
def wsX5_reaches_r1 : List Cond := [Cond.classLink RX5 98 "java/lang/IndexOutOfBoundsException", Cond.initialized "java/lang/IndexOutOfBoundsException", Cond.fieldLink RX5 10 "DrownedPost" "now" "LDrownedPost$Office;", Cond.fieldLink RX5 82 "DrownedPost$Office" "drowned" "LDrownedPost$Drowned;", Cond.fieldLink RX5 60 "DrownedPost$Office" "bins" "LDrownedPost$Bins;", Cond.methodLink RX5 94 yX1_has, Cond.instanceMethod yX1_has, Cond.selects RX1 yX1_has yX1_has, Cond.initialized RX1, Cond.code yX1_has cX1_has 2 (some .boolean), Cond.fieldLink RX1 27 "DrownedPost$Drowned" "count" "I", Cond.methodLink RX5 122 yX0_has, Cond.instanceMethod yX0_has, Cond.selects RX0 yX0_has yX0_has, Cond.initialized RX0, Cond.code yX0_has cX0_has 2 (some .boolean), Cond.fieldLink RX0 21 "DrownedPost$Bins" "count" "I", Cond.methodLink RX5 162 yX1_heightOf, Cond.instanceMethod yX1_heightOf, Cond.selects RX1 yX1_heightOf yX1_heightOf, Cond.code yX1_heightOf cX1_heightOf 2 (some .int), Cond.fieldLink RX1 9 "DrownedPost$Drowned" "height" "[I", Cond.methodLink RX1 31 yX1_has, Cond.methodLink RX5 184 yX3_hourOfReach]
def wsX5_reaches_r2 : List Cond := [Cond.instanceMethod yX3_hourOfReach, Cond.selects RX3 yX3_hourOfReach yX3_hourOfReach, Cond.initialized RX3, Cond.code yX3_hourOfReach cX3_hourOfReach 6 (some .int), Cond.fieldLink RX3 12 "DrownedPost$Office" "tides" "LDrownedPost$Tides;", Cond.fieldLink RX3 67 "DrownedPost$Office" "hour" "I", Cond.fieldLink RX3 21 "DrownedPost$Office" "bins" "LDrownedPost$Bins;", Cond.methodLink RX3 70 yX4_heightIn, Cond.instanceMethod yX4_heightIn, Cond.selects RX4 yX4_heightIn yX4_heightIn, Cond.initialized RX4, Cond.code yX4_heightIn cX4_heightIn 2 (some .int), Cond.fieldLink RX4 18 "DrownedPost$Tides" "count" "I", Cond.fieldLink RX4 9 "DrownedPost$Tides" "heights" "[I", Cond.methodLink RX4 28 yJ9_floorMod_7cf53, Cond.static yJ9_floorMod_7cf53, Cond.initialized RJ9, Cond.code yJ9_floorMod_7cf53 cJ9_floorMod_7cf53 3 (some .int), Cond.methodLink RX3 113 yX0_isUnder, Cond.instanceMethod yX0_isUnder, Cond.selects RX0 yX0_isUnder yX0_isUnder, Cond.code yX0_isUnder cX0_isUnder 3 (some .boolean), Cond.fieldLink RX0 9 "DrownedPost$Bins" "height" "[I"]
def wsX5_reaches : List Cond := .code yX5_reaches cX5_reaches 3 (some .int) :: ((wsX5_reaches_r1 ++ wsX5_reaches_r2) ++ wsX50 ++ wsX30 ++ wsX10 ++ wsX00 ++ wsX40 ++ (vx_atS RX5 102 "java/lang/IndexOutOfBoundsException" ["java/lang/RuntimeException", "java/lang/Exception"]).filter goodWord)
def wsX5_barnacles : List Cond := .code yX5_barnacles cX5_barnacles 2 (some .double) :: ([.fieldLink RX5 10 "DrownedPost" "now" "LDrownedPost$Office;", .fieldLink RX5 105 "DrownedPost$Office" "letters" "LDrownedPost$Letters;", .methodLink RX5 176 yX2_inState, .instanceMethod yX2_inState, .selects RX2 yX2_inState yX2_inState, .initialized RX2, .code yX2_inState cX2_inState 4 (some .int), .fieldLink RX2 39 "DrownedPost$Letters" "count" "I", .fieldLink RX2 21 "DrownedPost$Letters" "state" "[I", .methodLink RX5 187 yX2_growthInBins, .instanceMethod yX2_growthInBins, .selects RX2 yX2_growthInBins yX2_growthInBins, .code yX2_growthInBins cX2_growthInBins 3 (some .int), .fieldLink RX2 24 "DrownedPost$Letters" "growth" "[I"] ++ wsX50 ++ wsX30 ++ wsX20)
def wsX5_digest_r1 : List Cond := [Cond.constantLong RX5 190 (479), Cond.constantLong RX5 192 (31), Cond.fieldLink RX5 10 "DrownedPost" "now" "LDrownedPost$Office;", Cond.fieldLink RX5 30 "DrownedPost$Office" "tides" "LDrownedPost$Tides;", Cond.fieldLink RX5 60 "DrownedPost$Office" "bins" "LDrownedPost$Bins;", Cond.fieldLink RX5 64 "DrownedPost$Bins" "count" "I", Cond.fieldLink RX5 82 "DrownedPost$Office" "drowned" "LDrownedPost$Drowned;", Cond.fieldLink RX5 105 "DrownedPost$Office" "letters" "LDrownedPost$Letters;", Cond.methodLink RX5 159 yX3_total, Cond.instanceMethod yX3_total, Cond.selects RX3 yX3_total yX3_total, Cond.initialized RX3, Cond.code yX3_total cX3_total 2 (some .int), Cond.fieldLink RX3 67 "DrownedPost$Office" "hour" "I", Cond.fieldLink RX3 21 "DrownedPost$Office" "bins" "LDrownedPost$Bins;", Cond.fieldLink RX3 188 "DrownedPost$Bins" "count" "I", Cond.fieldLink RX3 28 "DrownedPost$Office" "drowned" "LDrownedPost$Drowned;", Cond.fieldLink RX3 189 "DrownedPost$Drowned" "count" "I", Cond.fieldLink RX3 35 "DrownedPost$Office" "letters" "LDrownedPost$Letters;", Cond.fieldLink RX3 84 "DrownedPost$Letters" "count" "I", Cond.fieldLink RX3 12 "DrownedPost$Office" "tides" "LDrownedPost$Tides;", Cond.fieldLink RX3 190 "DrownedPost$Tides" "count" "I", Cond.fieldLink RX3 39 "DrownedPost$Office" "scrapers" "I", Cond.fieldLink RX3 43 "DrownedPost$Office" "sorters" "I"]
def wsX5_digest_r2 : List Cond := [Cond.methodLink RX3 191 yX2_inState, Cond.instanceMethod yX2_inState, Cond.selects RX2 yX2_inState yX2_inState, Cond.initialized RX2, Cond.code yX2_inState cX2_inState 4 (some .int), Cond.fieldLink RX2 39 "DrownedPost$Letters" "count" "I", Cond.fieldLink RX2 21 "DrownedPost$Letters" "state" "[I", Cond.methodLink RX5 194 yX4_digestFrom, Cond.instanceMethod yX4_digestFrom, Cond.selects RX4 yX4_digestFrom yX4_digestFrom, Cond.initialized RX4, Cond.code yX4_digestFrom cX4_digestFrom 6 (some .long), Cond.fieldLink RX4 18 "DrownedPost$Tides" "count" "I", Cond.constantLong RX4 34 (31), Cond.fieldLink RX4 9 "DrownedPost$Tides" "heights" "[I", Cond.methodLink RX5 149 yX3_binFact, Cond.instanceMethod yX3_binFact, Cond.selects RX3 yX3_binFact yX3_binFact, Cond.code yX3_binFact cX3_binFact 3 (some .int), Cond.fieldLink RX3 179 "DrownedPost$Bins" "height" "[I", Cond.fieldLink RX3 182 "DrownedPost$Bins" "room" "[I", Cond.fieldLink RX3 143 "DrownedPost$Bins" "filled" "[I", Cond.methodLink RX3 142 yX0_has, Cond.instanceMethod yX0_has]
def wsX5_digest_r3 : List Cond := [Cond.selects RX0 yX0_has yX0_has, Cond.initialized RX0, Cond.code yX0_has cX0_has 2 (some .boolean), Cond.fieldLink RX0 21 "DrownedPost$Bins" "count" "I", Cond.methodLink RX3 80 yX3_tideNow, Cond.instanceMethod yX3_tideNow, Cond.selects RX3 yX3_tideNow yX3_tideNow, Cond.code yX3_tideNow cX3_tideNow 1 (some .int), Cond.methodLink RX3 70 yX4_heightIn, Cond.instanceMethod yX4_heightIn, Cond.selects RX4 yX4_heightIn yX4_heightIn, Cond.code yX4_heightIn cX4_heightIn 2 (some .int), Cond.methodLink RX4 28 yJ9_floorMod_7cf53, Cond.static yJ9_floorMod_7cf53, Cond.initialized RJ9, Cond.code yJ9_floorMod_7cf53 cJ9_floorMod_7cf53 3 (some .int), Cond.methodLink RX3 113 yX0_isUnder, Cond.instanceMethod yX0_isUnder, Cond.selects RX0 yX0_isUnder yX0_isUnder, Cond.code yX0_isUnder cX0_isUnder 3 (some .boolean), Cond.fieldLink RX0 9 "DrownedPost$Bins" "height" "[I", Cond.methodLink RX3 185 yX2_growthIn, Cond.instanceMethod yX2_growthIn, Cond.selects RX2 yX2_growthIn yX2_growthIn]
def wsX5_digest_r4 : List Cond := [Cond.code yX2_growthIn cX2_growthIn 4 (some .int), Cond.fieldLink RX2 27 "DrownedPost$Letters" "bin" "[I", Cond.fieldLink RX2 24 "DrownedPost$Letters" "growth" "[I", Cond.methodLink RX5 198 yX1_digestFrom, Cond.instanceMethod yX1_digestFrom, Cond.selects RX1 yX1_digestFrom yX1_digestFrom, Cond.initialized RX1, Cond.code yX1_digestFrom cX1_digestFrom 7 (some .long), Cond.fieldLink RX1 27 "DrownedPost$Drowned" "count" "I", Cond.constantLong RX1 35 (31), Cond.methodLink RX1 37 yX1_fact, Cond.instanceMethod yX1_fact, Cond.selects RX1 yX1_fact yX1_fact, Cond.code yX1_fact cX1_fact 3 (some .int), Cond.fieldLink RX1 9 "DrownedPost$Drowned" "height" "[I", Cond.fieldLink RX1 15 "DrownedPost$Drowned" "n" "[I", Cond.fieldLink RX1 18 "DrownedPost$Drowned" "lag" "[I", Cond.fieldLink RX1 21 "DrownedPost$Drowned" "got" "[I", Cond.fieldLink RX1 24 "DrownedPost$Drowned" "written" "[I", Cond.methodLink RX1 31 yX1_has, Cond.instanceMethod yX1_has, Cond.selects RX1 yX1_has yX1_has, Cond.code yX1_has cX1_has 2 (some .boolean), Cond.methodLink RX5 199 yX2_digestFrom]
def wsX5_digest_r5 : List Cond := [Cond.instanceMethod yX2_digestFrom, Cond.selects RX2 yX2_digestFrom yX2_digestFrom, Cond.code yX2_digestFrom cX2_digestFrom 7 (some .long), Cond.constantLong RX2 51 (31), Cond.methodLink RX2 53 yX2_fact, Cond.instanceMethod yX2_fact, Cond.selects RX2 yX2_fact yX2_fact, Cond.code yX2_fact cX2_fact 3 (some .int), Cond.fieldLink RX2 9 "DrownedPost$Letters" "to" "[I", Cond.fieldLink RX2 15 "DrownedPost$Letters" "weight" "[I", Cond.fieldLink RX2 18 "DrownedPost$Letters" "seal" "[I", Cond.fieldLink RX2 30 "DrownedPost$Letters" "held" "[I", Cond.fieldLink RX2 33 "DrownedPost$Letters" "hoursBefore" "[I", Cond.fieldLink RX2 36 "DrownedPost$Letters" "answered" "[I", Cond.methodLink RX2 43 yX2_has, Cond.instanceMethod yX2_has, Cond.selects RX2 yX2_has yX2_has, Cond.code yX2_has cX2_has 2 (some .boolean)]
def wsX5_digest : List Cond := .code yX5_digest cX5_digest 5 (some .long) :: ((wsX5_digest_r1 ++ (wsX5_digest_r2 ++ (wsX5_digest_r3 ++ (wsX5_digest_r4 ++ wsX5_digest_r5)))) ++ wsX50 ++ wsX30 ++ wsX00 ++ wsX10 ++ wsX20 ++ wsX40)
def wsX6_init : List Cond := .code yX6_init cX6_init 1 none :: ([.methodLink RX6 1 objectInit, .instanceMethod objectInit, .code objectInit ⟨#[0xb1]⟩ 1 none, .fieldLink RX6 7 "DrownedPostModel" "tides" "I", .arrayClass .int, .fieldLink RX6 13 "DrownedPostModel" "tideTable" "[I", .fieldLink RX6 17 "DrownedPostModel" "binTable" "[I", .fieldLink RX6 20 "DrownedPostModel" "ones" "[I", .fieldLink RX6 23 "DrownedPostModel" "table" "[I", .fieldLink RX6 26 "DrownedPostModel" "scrapers" "I", .fieldLink RX6 29 "DrownedPostModel" "sorters" "I", .fieldLink RX6 32 "DrownedPostModel" "spareOnes" "[I", .fieldLink RX6 35 "DrownedPostModel" "spareTable" "[I", .arrayClass .boolean, .fieldLink RX6 38 "DrownedPostModel" "was" "[Z"] ++ wsX60)
def wsX6_thrown : List Cond := .code yX6_thrown cX6_thrown 1 (some .int) :: ([.fieldLink RX6 42 "DrownedPostModel" "thrown" "I"] ++ wsX60)
def wsX6_fail : List Cond := .code yX6_fail cX6_fail 2 (some .int) :: ([.fieldLink RX6 42 "DrownedPostModel" "thrown" "I"] ++ wsX60)
def wsX6_isIn : List Cond := .code yX6_isIn cX6_isIn 3 (some .boolean) :: ([])
def wsX6_isHeight : List Cond := .code yX6_isHeight cX6_isHeight 1 (some .boolean) :: ([.methodLink RX6 45 yX6_isIn, .static yX6_isIn, .initialized RX6, .code yX6_isIn cX6_isIn 3 (some .boolean)])
def wsX6_get : List Cond := .code yX6_get cX6_get 3 (some .int) :: ([.fieldLink RX6 23 "DrownedPostModel" "table" "[I"] ++ wsX60)
def wsX6_set : List Cond := .code yX6_set cX6_set 4 none :: ([.fieldLink RX6 23 "DrownedPostModel" "table" "[I"] ++ wsX60)
def wsX6_isIn_ : List Cond := .code yX6_isIn_ cX6_isIn_ 3 (some .boolean) :: ([.methodLink RX6 49 yX6_get, .instanceMethod yX6_get, .selects RX6 yX6_get yX6_get, .initialized RX6, .code yX6_get cX6_get 3 (some .int), .fieldLink RX6 23 "DrownedPostModel" "table" "[I"] ++ wsX60)
def wsX6_one : List Cond := .code yX6_one cX6_one 3 (some .int) :: ([.fieldLink RX6 20 "DrownedPostModel" "ones" "[I"] ++ wsX60)
def wsX6_tideOf : List Cond := .code yX6_tideOf cX6_tideOf 2 (some .int) :: ([.fieldLink RX6 13 "DrownedPostModel" "tideTable" "[I", .fieldLink RX6 7 "DrownedPostModel" "tides" "I"] ++ wsX60)
def wsX6_isUnder : List Cond := .code yX6_isUnder cX6_isUnder 3 (some .boolean) :: ([.fieldLink RX6 17 "DrownedPostModel" "binTable" "[I"] ++ wsX60)
def wsX6_beginTides : List Cond := .code yX6_beginTides cX6_beginTides 3 (some .int) :: ([.fieldLink RX6 42 "DrownedPostModel" "thrown" "I", .fieldLink RX6 7 "DrownedPostModel" "tides" "I", .fieldLink RX6 13 "DrownedPostModel" "tideTable" "[I", .methodLink RX6 53 yX6_isHeight, .static yX6_isHeight, .initialized RX6, .code yX6_isHeight cX6_isHeight 1 (some .boolean), .methodLink RX6 45 yX6_isIn, .static yX6_isIn, .code yX6_isIn cX6_isIn 3 (some .boolean), .methodLink RX6 57 yX6_fail, .instanceMethod yX6_fail, .selects RX6 yX6_fail yX6_fail, .code yX6_fail cX6_fail 2 (some .int)] ++ wsX60)
def wsX6_addTide : List Cond := .code yX6_addTide cX6_addTide 2 (some .int) :: ([.fieldLink RX6 42 "DrownedPostModel" "thrown" "I", .fieldLink RX6 7 "DrownedPostModel" "tides" "I", .fieldLink RX6 13 "DrownedPostModel" "tideTable" "[I", .methodLink RX6 53 yX6_isHeight, .static yX6_isHeight, .initialized RX6, .code yX6_isHeight cX6_isHeight 1 (some .boolean), .methodLink RX6 45 yX6_isIn, .static yX6_isIn, .code yX6_isIn cX6_isIn 3 (some .boolean), .methodLink RX6 57 yX6_fail, .instanceMethod yX6_fail, .selects RX6 yX6_fail yX6_fail, .code yX6_fail cX6_fail 2 (some .int)] ++ wsX60)
def wsX6_tide : List Cond := .code yX6_tide cX6_tide 2 (some .int) :: ([.fieldLink RX6 42 "DrownedPostModel" "thrown" "I", .methodLink RX6 61 yX6_tideOf, .instanceMethod yX6_tideOf, .selects RX6 yX6_tideOf yX6_tideOf, .initialized RX6, .code yX6_tideOf cX6_tideOf 2 (some .int), .fieldLink RX6 13 "DrownedPostModel" "tideTable" "[I", .fieldLink RX6 7 "DrownedPostModel" "tides" "I", .methodLink RX6 57 yX6_fail, .instanceMethod yX6_fail, .selects RX6 yX6_fail yX6_fail, .code yX6_fail cX6_fail 2 (some .int)] ++ wsX60)
def wsX6_addBin : List Cond := .code yX6_addBin cX6_addBin 3 (some .int) :: ([.fieldLink RX6 42 "DrownedPostModel" "thrown" "I", .fieldLink RX6 64 "DrownedPostModel" "bins" "I", .fieldLink RX6 17 "DrownedPostModel" "binTable" "[I", .methodLink RX6 53 yX6_isHeight, .static yX6_isHeight, .initialized RX6, .code yX6_isHeight cX6_isHeight 1 (some .boolean), .methodLink RX6 45 yX6_isIn, .static yX6_isIn, .code yX6_isIn cX6_isIn 3 (some .boolean), .methodLink RX6 57 yX6_fail, .instanceMethod yX6_fail, .selects RX6 yX6_fail yX6_fail, .code yX6_fail cX6_fail 2 (some .int)] ++ wsX60)
def wsX6_setCrew : List Cond := .code yX6_setCrew cX6_setCrew 4 (some .int) :: ([.fieldLink RX6 42 "DrownedPostModel" "thrown" "I", .fieldLink RX6 29 "DrownedPostModel" "sorters" "I", .fieldLink RX6 26 "DrownedPostModel" "scrapers" "I", .methodLink RX6 45 yX6_isIn, .static yX6_isIn, .initialized RX6, .code yX6_isIn cX6_isIn 3 (some .boolean), .methodLink RX6 57 yX6_fail, .instanceMethod yX6_fail, .selects RX6 yX6_fail yX6_fail, .code yX6_fail cX6_fail 2 (some .int)] ++ wsX60)
def wsX6_isOne : List Cond := .code yX6_isOne cX6_isOne 2 (some .boolean) :: ([.fieldLink RX6 67 "DrownedPostModel" "drowned" "I", .methodLink RX6 45 yX6_isIn, .static yX6_isIn, .initialized RX6, .code yX6_isIn cX6_isIn 3 (some .boolean)] ++ wsX60)
def wsX6_isLetter : List Cond := .code yX6_isLetter cX6_isLetter 2 (some .boolean) :: ([.fieldLink RX6 70 "DrownedPostModel" "letters" "I", .methodLink RX6 45 yX6_isIn, .static yX6_isIn, .initialized RX6, .code yX6_isIn cX6_isIn 3 (some .boolean)] ++ wsX60)
def wsX6_addDrowned : List Cond := .code yX6_addDrowned cX6_addDrowned 5 (some .int) :: ([.fieldLink RX6 42 "DrownedPostModel" "thrown" "I", .fieldLink RX6 67 "DrownedPostModel" "drowned" "I", .arrayClass .int, .fieldLink RX6 20 "DrownedPostModel" "ones" "[I", .methodLink RX6 73 arraycopyName, .native arraycopyName, .static arraycopyName, .initialized "java/lang/System", .methodLink RX6 53 yX6_isHeight, .static yX6_isHeight, .initialized RX6, .code yX6_isHeight cX6_isHeight 1 (some .boolean), .methodLink RX6 45 yX6_isIn, .static yX6_isIn, .code yX6_isIn cX6_isIn 3 (some .boolean), .methodLink RX6 57 yX6_fail, .instanceMethod yX6_fail, .selects RX6 yX6_fail yX6_fail, .code yX6_fail cX6_fail 2 (some .int)] ++ wsX60)
def wsX6_add : List Cond := .code yX6_add cX6_add 8 none :: ([.arrayClass .int, .fieldLink RX6 23 "DrownedPostModel" "table" "[I", .fieldLink RX6 70 "DrownedPostModel" "letters" "I", .methodLink RX6 73 arraycopyName, .native arraycopyName, .static arraycopyName, .initialized "java/lang/System"] ++ wsX60)
def wsX6_bring_r1 : List Cond := [Cond.fieldLink RX6 42 "DrownedPostModel" "thrown" "I", Cond.fieldLink RX6 70 "DrownedPostModel" "letters" "I", Cond.methodLink RX6 79 yX6_isOne, Cond.instanceMethod yX6_isOne, Cond.selects RX6 yX6_isOne yX6_isOne, Cond.initialized RX6, Cond.code yX6_isOne cX6_isOne 2 (some .boolean), Cond.fieldLink RX6 67 "DrownedPostModel" "drowned" "I", Cond.methodLink RX6 45 yX6_isIn, Cond.static yX6_isIn, Cond.code yX6_isIn cX6_isIn 3 (some .boolean), Cond.methodLink RX6 57 yX6_fail, Cond.instanceMethod yX6_fail, Cond.selects RX6 yX6_fail yX6_fail, Cond.code yX6_fail cX6_fail 2 (some .int), Cond.methodLink RX6 82 yX6_add, Cond.instanceMethod yX6_add, Cond.selects RX6 yX6_add yX6_add, Cond.code yX6_add cX6_add 8 none, Cond.arrayClass .int, Cond.fieldLink RX6 23 "DrownedPostModel" "table" "[I", Cond.methodLink RX6 73 arraycopyName, Cond.native arraycopyName, Cond.static arraycopyName]
def wsX6_bring_r2 : List Cond := [Cond.initialized "java/lang/System"]
def wsX6_bring : List Cond := .code yX6_bring cX6_bring 4 (some .int) :: ((wsX6_bring_r1 ++ wsX6_bring_r2) ++ wsX60)
def wsX6_leave : List Cond := .code yX6_leave cX6_leave 4 (some .int) :: ([.methodLink RX6 49 yX6_get, .instanceMethod yX6_get, .selects RX6 yX6_get yX6_get, .initialized RX6, .code yX6_get cX6_get 3 (some .int), .fieldLink RX6 23 "DrownedPostModel" "table" "[I", .methodLink RX6 86 yX6_set, .instanceMethod yX6_set, .selects RX6 yX6_set yX6_set, .code yX6_set cX6_set 4 none] ++ wsX60)
def wsX6_takeOut_r1 : List Cond := [Cond.fieldLink RX6 42 "DrownedPostModel" "thrown" "I", Cond.fieldLink RX6 96 "DrownedPostModel" "hour" "I", Cond.methodLink RX6 90 yX6_isLetter, Cond.instanceMethod yX6_isLetter, Cond.selects RX6 yX6_isLetter yX6_isLetter, Cond.initialized RX6, Cond.code yX6_isLetter cX6_isLetter 2 (some .boolean), Cond.fieldLink RX6 70 "DrownedPostModel" "letters" "I", Cond.methodLink RX6 45 yX6_isIn, Cond.static yX6_isIn, Cond.code yX6_isIn cX6_isIn 3 (some .boolean), Cond.methodLink RX6 57 yX6_fail, Cond.instanceMethod yX6_fail, Cond.selects RX6 yX6_fail yX6_fail, Cond.code yX6_fail cX6_fail 2 (some .int), Cond.methodLink RX6 93 yX6_isIn_, Cond.instanceMethod yX6_isIn_, Cond.selects RX6 yX6_isIn_ yX6_isIn_, Cond.code yX6_isIn_ cX6_isIn_ 3 (some .boolean), Cond.methodLink RX6 49 yX6_get, Cond.instanceMethod yX6_get, Cond.selects RX6 yX6_get yX6_get, Cond.code yX6_get cX6_get 3 (some .int), Cond.fieldLink RX6 23 "DrownedPostModel" "table" "[I"]
def wsX6_takeOut_r2 : List Cond := [Cond.methodLink RX6 61 yX6_tideOf, Cond.instanceMethod yX6_tideOf, Cond.selects RX6 yX6_tideOf yX6_tideOf, Cond.code yX6_tideOf cX6_tideOf 2 (some .int), Cond.fieldLink RX6 13 "DrownedPostModel" "tideTable" "[I", Cond.fieldLink RX6 7 "DrownedPostModel" "tides" "I", Cond.methodLink RX6 99 yX6_isUnder, Cond.instanceMethod yX6_isUnder, Cond.selects RX6 yX6_isUnder yX6_isUnder, Cond.code yX6_isUnder cX6_isUnder 3 (some .boolean), Cond.fieldLink RX6 17 "DrownedPostModel" "binTable" "[I", Cond.methodLink RX6 102 yX6_leave, Cond.instanceMethod yX6_leave, Cond.selects RX6 yX6_leave yX6_leave, Cond.code yX6_leave cX6_leave 4 (some .int), Cond.methodLink RX6 86 yX6_set, Cond.instanceMethod yX6_set, Cond.selects RX6 yX6_set yX6_set, Cond.code yX6_set cX6_set 4 none]
def wsX6_takeOut : List Cond := .code yX6_takeOut cX6_takeOut 2 (some .int) :: ((wsX6_takeOut_r1 ++ wsX6_takeOut_r2) ++ wsX60)
def wsX6_letter : List Cond := .code yX6_letter cX6_letter 3 (some .int) :: ([.fieldLink RX6 42 "DrownedPostModel" "thrown" "I", .methodLink RX6 90 yX6_isLetter, .instanceMethod yX6_isLetter, .selects RX6 yX6_isLetter yX6_isLetter, .initialized RX6, .code yX6_isLetter cX6_isLetter 2 (some .boolean), .fieldLink RX6 70 "DrownedPostModel" "letters" "I", .methodLink RX6 45 yX6_isIn, .static yX6_isIn, .code yX6_isIn cX6_isIn 3 (some .boolean), .methodLink RX6 49 yX6_get, .instanceMethod yX6_get, .selects RX6 yX6_get yX6_get, .code yX6_get cX6_get 3 (some .int), .fieldLink RX6 23 "DrownedPostModel" "table" "[I", .methodLink RX6 57 yX6_fail, .instanceMethod yX6_fail, .selects RX6 yX6_fail yX6_fail, .code yX6_fail cX6_fail 2 (some .int)] ++ wsX60)
def wsX6_drowned : List Cond := .code yX6_drowned cX6_drowned 3 (some .int) :: ([.fieldLink RX6 42 "DrownedPostModel" "thrown" "I", .methodLink RX6 79 yX6_isOne, .instanceMethod yX6_isOne, .selects RX6 yX6_isOne yX6_isOne, .initialized RX6, .code yX6_isOne cX6_isOne 2 (some .boolean), .fieldLink RX6 67 "DrownedPostModel" "drowned" "I", .methodLink RX6 45 yX6_isIn, .static yX6_isIn, .code yX6_isIn cX6_isIn 3 (some .boolean), .methodLink RX6 105 yX6_one, .instanceMethod yX6_one, .selects RX6 yX6_one yX6_one, .code yX6_one cX6_one 3 (some .int), .fieldLink RX6 20 "DrownedPostModel" "ones" "[I", .methodLink RX6 57 yX6_fail, .instanceMethod yX6_fail, .selects RX6 yX6_fail yX6_fail, .code yX6_fail cX6_fail 2 (some .int)] ++ wsX60)
def wsX6_sumOf : List Cond := .code yX6_sumOf cX6_sumOf 5 (some .int) :: ([.fieldLink RX6 70 "DrownedPostModel" "letters" "I", .methodLink RX6 93 yX6_isIn_, .instanceMethod yX6_isIn_, .selects RX6 yX6_isIn_ yX6_isIn_, .initialized RX6, .code yX6_isIn_ cX6_isIn_ 3 (some .boolean), .methodLink RX6 49 yX6_get, .instanceMethod yX6_get, .selects RX6 yX6_get yX6_get, .code yX6_get cX6_get 3 (some .int), .fieldLink RX6 23 "DrownedPostModel" "table" "[I"] ++ wsX60)
def wsX6_binTold_r1 : List Cond := [Cond.fieldLink RX6 17 "DrownedPostModel" "binTable" "[I", Cond.fieldLink RX6 96 "DrownedPostModel" "hour" "I", Cond.methodLink RX6 108 yX6_sumOf, Cond.instanceMethod yX6_sumOf, Cond.selects RX6 yX6_sumOf yX6_sumOf, Cond.initialized RX6, Cond.code yX6_sumOf cX6_sumOf 5 (some .int), Cond.fieldLink RX6 70 "DrownedPostModel" "letters" "I", Cond.methodLink RX6 93 yX6_isIn_, Cond.instanceMethod yX6_isIn_, Cond.selects RX6 yX6_isIn_ yX6_isIn_, Cond.code yX6_isIn_ cX6_isIn_ 3 (some .boolean), Cond.methodLink RX6 49 yX6_get, Cond.instanceMethod yX6_get, Cond.selects RX6 yX6_get yX6_get, Cond.code yX6_get cX6_get 3 (some .int), Cond.fieldLink RX6 23 "DrownedPostModel" "table" "[I", Cond.methodLink RX6 61 yX6_tideOf, Cond.instanceMethod yX6_tideOf, Cond.selects RX6 yX6_tideOf yX6_tideOf, Cond.code yX6_tideOf cX6_tideOf 2 (some .int), Cond.fieldLink RX6 13 "DrownedPostModel" "tideTable" "[I", Cond.fieldLink RX6 7 "DrownedPostModel" "tides" "I", Cond.methodLink RX6 99 yX6_isUnder]
def wsX6_binTold_r2 : List Cond := [Cond.instanceMethod yX6_isUnder, Cond.selects RX6 yX6_isUnder yX6_isUnder, Cond.code yX6_isUnder cX6_isUnder 3 (some .boolean)]
def wsX6_binTold : List Cond := .code yX6_binTold cX6_binTold 3 (some .int) :: ((wsX6_binTold_r1 ++ wsX6_binTold_r2) ++ wsX60)
def wsX6_bin_r1 : List Cond := [Cond.fieldLink RX6 42 "DrownedPostModel" "thrown" "I", Cond.fieldLink RX6 64 "DrownedPostModel" "bins" "I", Cond.methodLink RX6 45 yX6_isIn, Cond.static yX6_isIn, Cond.initialized RX6, Cond.code yX6_isIn cX6_isIn 3 (some .boolean), Cond.methodLink RX6 112 yX6_binTold, Cond.instanceMethod yX6_binTold, Cond.selects RX6 yX6_binTold yX6_binTold, Cond.code yX6_binTold cX6_binTold 3 (some .int), Cond.fieldLink RX6 17 "DrownedPostModel" "binTable" "[I", Cond.fieldLink RX6 96 "DrownedPostModel" "hour" "I", Cond.methodLink RX6 108 yX6_sumOf, Cond.instanceMethod yX6_sumOf, Cond.selects RX6 yX6_sumOf yX6_sumOf, Cond.code yX6_sumOf cX6_sumOf 5 (some .int), Cond.fieldLink RX6 70 "DrownedPostModel" "letters" "I", Cond.methodLink RX6 93 yX6_isIn_, Cond.instanceMethod yX6_isIn_, Cond.selects RX6 yX6_isIn_ yX6_isIn_, Cond.code yX6_isIn_ cX6_isIn_ 3 (some .boolean), Cond.methodLink RX6 49 yX6_get, Cond.instanceMethod yX6_get, Cond.selects RX6 yX6_get yX6_get]
def wsX6_bin_r2 : List Cond := [Cond.code yX6_get cX6_get 3 (some .int), Cond.fieldLink RX6 23 "DrownedPostModel" "table" "[I", Cond.methodLink RX6 61 yX6_tideOf, Cond.instanceMethod yX6_tideOf, Cond.selects RX6 yX6_tideOf yX6_tideOf, Cond.code yX6_tideOf cX6_tideOf 2 (some .int), Cond.fieldLink RX6 13 "DrownedPostModel" "tideTable" "[I", Cond.fieldLink RX6 7 "DrownedPostModel" "tides" "I", Cond.methodLink RX6 99 yX6_isUnder, Cond.instanceMethod yX6_isUnder, Cond.selects RX6 yX6_isUnder yX6_isUnder, Cond.code yX6_isUnder cX6_isUnder 3 (some .boolean), Cond.methodLink RX6 57 yX6_fail, Cond.instanceMethod yX6_fail, Cond.selects RX6 yX6_fail yX6_fail, Cond.code yX6_fail cX6_fail 2 (some .int)]
def wsX6_bin : List Cond := .code yX6_bin cX6_bin 3 (some .int) :: ((wsX6_bin_r1 ++ wsX6_bin_r2) ++ wsX60)
def wsX6_water : List Cond := .code yX6_water cX6_water 3 none :: ([.methodLink RX6 49 yX6_get, .instanceMethod yX6_get, .selects RX6 yX6_get yX6_get, .initialized RX6, .code yX6_get cX6_get 3 (some .int), .fieldLink RX6 23 "DrownedPostModel" "table" "[I", .methodLink RX6 99 yX6_isUnder, .instanceMethod yX6_isUnder, .selects RX6 yX6_isUnder yX6_isUnder, .code yX6_isUnder cX6_isUnder 3 (some .boolean), .fieldLink RX6 17 "DrownedPostModel" "binTable" "[I", .methodLink RX6 86 yX6_set, .instanceMethod yX6_set, .selects RX6 yX6_set yX6_set, .code yX6_set cX6_set 4 none, .methodLink RX6 102 yX6_leave, .instanceMethod yX6_leave, .selects RX6 yX6_leave yX6_leave, .code yX6_leave cX6_leave 4 (some .int), .methodLink RX6 105 yX6_one, .instanceMethod yX6_one, .selects RX6 yX6_one yX6_one, .code yX6_one cX6_one 3 (some .int), .fieldLink RX6 20 "DrownedPostModel" "ones" "[I"] ++ wsX60)
def wsX6_answer : List Cond := .code yX6_answer cX6_answer 3 none :: ([.fieldLink RX6 20 "DrownedPostModel" "ones" "[I", .fieldLink RX6 70 "DrownedPostModel" "letters" "I", .methodLink RX6 49 yX6_get, .instanceMethod yX6_get, .selects RX6 yX6_get yX6_get, .initialized RX6, .code yX6_get cX6_get 3 (some .int), .fieldLink RX6 23 "DrownedPostModel" "table" "[I", .methodLink RX6 105 yX6_one, .instanceMethod yX6_one, .selects RX6 yX6_one yX6_one, .code yX6_one cX6_one 3 (some .int), .methodLink RX6 82 yX6_add, .instanceMethod yX6_add, .selects RX6 yX6_add yX6_add, .code yX6_add cX6_add 8 none, .arrayClass .int, .methodLink RX6 73 arraycopyName, .native arraycopyName, .static arraycopyName, .initialized "java/lang/System"] ++ wsX60)
def wsX6_scrape_r1 : List Cond := [Cond.fieldLink RX6 70 "DrownedPostModel" "letters" "I", Cond.fieldLink RX6 38 "DrownedPostModel" "was" "[Z", Cond.fieldLink RX6 26 "DrownedPostModel" "scrapers" "I", Cond.methodLink RX6 115 Lib.Math.max.name, Cond.static Lib.Math.max.name, Cond.initialized "java/lang/Math", Cond.code Lib.Math.max.name Lib.Math.max.code 2 (some .int), Cond.methodLink RX6 93 yX6_isIn_, Cond.instanceMethod yX6_isIn_, Cond.selects RX6 yX6_isIn_ yX6_isIn_, Cond.initialized RX6, Cond.code yX6_isIn_ cX6_isIn_ 3 (some .boolean), Cond.methodLink RX6 49 yX6_get, Cond.instanceMethod yX6_get, Cond.selects RX6 yX6_get yX6_get, Cond.code yX6_get cX6_get 3 (some .int), Cond.fieldLink RX6 23 "DrownedPostModel" "table" "[I", Cond.methodLink RX6 99 yX6_isUnder, Cond.instanceMethod yX6_isUnder, Cond.selects RX6 yX6_isUnder yX6_isUnder, Cond.code yX6_isUnder cX6_isUnder 3 (some .boolean), Cond.fieldLink RX6 17 "DrownedPostModel" "binTable" "[I", Cond.methodLink RX6 86 yX6_set, Cond.instanceMethod yX6_set]
def wsX6_scrape_r2 : List Cond := [Cond.selects RX6 yX6_set yX6_set, Cond.code yX6_set cX6_set 4 none]
def wsX6_scrape : List Cond := .code yX6_scrape cX6_scrape 5 none :: ((wsX6_scrape_r1 ++ wsX6_scrape_r2) ++ wsX60)
def wsX6_binOf_r1 : List Cond := [Cond.fieldLink RX6 64 "DrownedPostModel" "bins" "I", Cond.fieldLink RX6 17 "DrownedPostModel" "binTable" "[I", Cond.methodLink RX6 120 Lib.Math.abs.name, Cond.static Lib.Math.abs.name, Cond.initialized "java/lang/Math", Cond.code Lib.Math.abs.name Lib.Math.abs.code 1 (some .int), Cond.methodLink RX6 108 yX6_sumOf, Cond.instanceMethod yX6_sumOf, Cond.selects RX6 yX6_sumOf yX6_sumOf, Cond.initialized RX6, Cond.code yX6_sumOf cX6_sumOf 5 (some .int), Cond.fieldLink RX6 70 "DrownedPostModel" "letters" "I", Cond.methodLink RX6 93 yX6_isIn_, Cond.instanceMethod yX6_isIn_, Cond.selects RX6 yX6_isIn_ yX6_isIn_, Cond.code yX6_isIn_ cX6_isIn_ 3 (some .boolean), Cond.methodLink RX6 49 yX6_get, Cond.instanceMethod yX6_get, Cond.selects RX6 yX6_get yX6_get, Cond.code yX6_get cX6_get 3 (some .int), Cond.fieldLink RX6 23 "DrownedPostModel" "table" "[I", Cond.methodLink RX6 105 yX6_one, Cond.instanceMethod yX6_one, Cond.selects RX6 yX6_one yX6_one]
def wsX6_binOf_r2 : List Cond := [Cond.code yX6_one cX6_one 3 (some .int), Cond.fieldLink RX6 20 "DrownedPostModel" "ones" "[I"]
def wsX6_binOf : List Cond := .code yX6_binOf cX6_binOf 6 (some .int) :: ((wsX6_binOf_r1 ++ wsX6_binOf_r2) ++ wsX60)
def wsX6_sort_r1 : List Cond := [Cond.fieldLink RX6 29 "DrownedPostModel" "sorters" "I", Cond.fieldLink RX6 70 "DrownedPostModel" "letters" "I", Cond.methodLink RX6 93 yX6_isIn_, Cond.instanceMethod yX6_isIn_, Cond.selects RX6 yX6_isIn_ yX6_isIn_, Cond.initialized RX6, Cond.code yX6_isIn_ cX6_isIn_ 3 (some .boolean), Cond.methodLink RX6 49 yX6_get, Cond.instanceMethod yX6_get, Cond.selects RX6 yX6_get yX6_get, Cond.code yX6_get cX6_get 3 (some .int), Cond.fieldLink RX6 23 "DrownedPostModel" "table" "[I", Cond.methodLink RX6 123 yX6_binOf, Cond.instanceMethod yX6_binOf, Cond.selects RX6 yX6_binOf yX6_binOf, Cond.code yX6_binOf cX6_binOf 6 (some .int), Cond.fieldLink RX6 64 "DrownedPostModel" "bins" "I", Cond.fieldLink RX6 17 "DrownedPostModel" "binTable" "[I", Cond.methodLink RX6 120 Lib.Math.abs.name, Cond.static Lib.Math.abs.name, Cond.initialized "java/lang/Math", Cond.code Lib.Math.abs.name Lib.Math.abs.code 1 (some .int), Cond.methodLink RX6 108 yX6_sumOf, Cond.instanceMethod yX6_sumOf]
def wsX6_sort_r2 : List Cond := [Cond.selects RX6 yX6_sumOf yX6_sumOf, Cond.code yX6_sumOf cX6_sumOf 5 (some .int), Cond.methodLink RX6 105 yX6_one, Cond.instanceMethod yX6_one, Cond.selects RX6 yX6_one yX6_one, Cond.code yX6_one cX6_one 3 (some .int), Cond.fieldLink RX6 20 "DrownedPostModel" "ones" "[I", Cond.methodLink RX6 86 yX6_set, Cond.instanceMethod yX6_set, Cond.selects RX6 yX6_set yX6_set, Cond.code yX6_set cX6_set 4 none]
def wsX6_sort : List Cond := .code yX6_sort cX6_sort 4 none :: ((wsX6_sort_r1 ++ wsX6_sort_r2) ++ wsX60)
def wsX6_passOne_r1 : List Cond := [Cond.fieldLink RX6 96 "DrownedPostModel" "hour" "I", Cond.fieldLink RX6 70 "DrownedPostModel" "letters" "I", Cond.fieldLink RX6 38 "DrownedPostModel" "was" "[Z", Cond.methodLink RX6 115 Lib.Math.max.name, Cond.static Lib.Math.max.name, Cond.initialized "java/lang/Math", Cond.code Lib.Math.max.name Lib.Math.max.code 2 (some .int), Cond.methodLink RX6 61 yX6_tideOf, Cond.instanceMethod yX6_tideOf, Cond.selects RX6 yX6_tideOf yX6_tideOf, Cond.initialized RX6, Cond.code yX6_tideOf cX6_tideOf 2 (some .int), Cond.fieldLink RX6 13 "DrownedPostModel" "tideTable" "[I", Cond.fieldLink RX6 7 "DrownedPostModel" "tides" "I", Cond.methodLink RX6 93 yX6_isIn_, Cond.instanceMethod yX6_isIn_, Cond.selects RX6 yX6_isIn_ yX6_isIn_, Cond.code yX6_isIn_ cX6_isIn_ 3 (some .boolean), Cond.methodLink RX6 49 yX6_get, Cond.instanceMethod yX6_get, Cond.selects RX6 yX6_get yX6_get, Cond.code yX6_get cX6_get 3 (some .int), Cond.fieldLink RX6 23 "DrownedPostModel" "table" "[I", Cond.methodLink RX6 126 yX6_water]
def wsX6_passOne_r2 : List Cond := [Cond.instanceMethod yX6_water, Cond.selects RX6 yX6_water yX6_water, Cond.code yX6_water cX6_water 3 none, Cond.methodLink RX6 99 yX6_isUnder, Cond.instanceMethod yX6_isUnder, Cond.selects RX6 yX6_isUnder yX6_isUnder, Cond.code yX6_isUnder cX6_isUnder 3 (some .boolean), Cond.fieldLink RX6 17 "DrownedPostModel" "binTable" "[I", Cond.methodLink RX6 86 yX6_set, Cond.instanceMethod yX6_set, Cond.selects RX6 yX6_set yX6_set, Cond.code yX6_set cX6_set 4 none, Cond.methodLink RX6 102 yX6_leave, Cond.instanceMethod yX6_leave, Cond.selects RX6 yX6_leave yX6_leave, Cond.code yX6_leave cX6_leave 4 (some .int), Cond.methodLink RX6 105 yX6_one, Cond.instanceMethod yX6_one, Cond.selects RX6 yX6_one yX6_one, Cond.code yX6_one cX6_one 3 (some .int), Cond.fieldLink RX6 20 "DrownedPostModel" "ones" "[I", Cond.methodLink RX6 130 yX6_answer, Cond.instanceMethod yX6_answer, Cond.selects RX6 yX6_answer yX6_answer]
def wsX6_passOne_r3 : List Cond := [Cond.code yX6_answer cX6_answer 3 none, Cond.methodLink RX6 82 yX6_add, Cond.instanceMethod yX6_add, Cond.selects RX6 yX6_add yX6_add, Cond.code yX6_add cX6_add 8 none, Cond.arrayClass .int, Cond.methodLink RX6 73 arraycopyName, Cond.native arraycopyName, Cond.static arraycopyName, Cond.initialized "java/lang/System", Cond.methodLink RX6 134 yX6_scrape, Cond.instanceMethod yX6_scrape, Cond.selects RX6 yX6_scrape yX6_scrape, Cond.code yX6_scrape cX6_scrape 5 none, Cond.fieldLink RX6 26 "DrownedPostModel" "scrapers" "I", Cond.methodLink RX6 137 yX6_sort, Cond.instanceMethod yX6_sort, Cond.selects RX6 yX6_sort yX6_sort, Cond.code yX6_sort cX6_sort 4 none, Cond.fieldLink RX6 29 "DrownedPostModel" "sorters" "I", Cond.methodLink RX6 123 yX6_binOf, Cond.instanceMethod yX6_binOf, Cond.selects RX6 yX6_binOf yX6_binOf, Cond.code yX6_binOf cX6_binOf 6 (some .int)]
def wsX6_passOne_r4 : List Cond := [Cond.fieldLink RX6 64 "DrownedPostModel" "bins" "I", Cond.methodLink RX6 120 Lib.Math.abs.name, Cond.static Lib.Math.abs.name, Cond.code Lib.Math.abs.name Lib.Math.abs.code 1 (some .int), Cond.methodLink RX6 108 yX6_sumOf, Cond.instanceMethod yX6_sumOf, Cond.selects RX6 yX6_sumOf yX6_sumOf, Cond.code yX6_sumOf cX6_sumOf 5 (some .int)]
def wsX6_passOne : List Cond := .code yX6_passOne cX6_passOne 5 none :: ((wsX6_passOne_r1 ++ (wsX6_passOne_r2 ++ (wsX6_passOne_r3 ++ wsX6_passOne_r4))) ++ wsX60)
def wsX6_many : List Cond := .code yX6_many cX6_many 4 (some .int) :: ([.fieldLink RX6 70 "DrownedPostModel" "letters" "I", .methodLink RX6 93 yX6_isIn_, .instanceMethod yX6_isIn_, .selects RX6 yX6_isIn_ yX6_isIn_, .initialized RX6, .code yX6_isIn_ cX6_isIn_ 3 (some .boolean), .methodLink RX6 49 yX6_get, .instanceMethod yX6_get, .selects RX6 yX6_get yX6_get, .code yX6_get cX6_get 3 (some .int), .fieldLink RX6 23 "DrownedPostModel" "table" "[I"] ++ wsX60)
def wsX6_pass_r1 : List Cond := [Cond.fieldLink RX6 42 "DrownedPostModel" "thrown" "I", Cond.methodLink RX6 45 yX6_isIn, Cond.static yX6_isIn, Cond.initialized RX6, Cond.code yX6_isIn cX6_isIn 3 (some .boolean), Cond.methodLink RX6 57 yX6_fail, Cond.instanceMethod yX6_fail, Cond.selects RX6 yX6_fail yX6_fail, Cond.code yX6_fail cX6_fail 2 (some .int), Cond.methodLink RX6 140 yX6_many, Cond.instanceMethod yX6_many, Cond.selects RX6 yX6_many yX6_many, Cond.code yX6_many cX6_many 4 (some .int), Cond.fieldLink RX6 70 "DrownedPostModel" "letters" "I", Cond.methodLink RX6 93 yX6_isIn_, Cond.instanceMethod yX6_isIn_, Cond.selects RX6 yX6_isIn_ yX6_isIn_, Cond.code yX6_isIn_ cX6_isIn_ 3 (some .boolean), Cond.methodLink RX6 49 yX6_get, Cond.instanceMethod yX6_get, Cond.selects RX6 yX6_get yX6_get, Cond.code yX6_get cX6_get 3 (some .int), Cond.fieldLink RX6 23 "DrownedPostModel" "table" "[I", Cond.methodLink RX6 143 yX6_passOne]
def wsX6_pass_r2 : List Cond := [Cond.instanceMethod yX6_passOne, Cond.selects RX6 yX6_passOne yX6_passOne, Cond.code yX6_passOne cX6_passOne 5 none, Cond.fieldLink RX6 96 "DrownedPostModel" "hour" "I", Cond.fieldLink RX6 38 "DrownedPostModel" "was" "[Z", Cond.methodLink RX6 115 Lib.Math.max.name, Cond.static Lib.Math.max.name, Cond.initialized "java/lang/Math", Cond.code Lib.Math.max.name Lib.Math.max.code 2 (some .int), Cond.methodLink RX6 61 yX6_tideOf, Cond.instanceMethod yX6_tideOf, Cond.selects RX6 yX6_tideOf yX6_tideOf, Cond.code yX6_tideOf cX6_tideOf 2 (some .int), Cond.fieldLink RX6 13 "DrownedPostModel" "tideTable" "[I", Cond.fieldLink RX6 7 "DrownedPostModel" "tides" "I", Cond.methodLink RX6 126 yX6_water, Cond.instanceMethod yX6_water, Cond.selects RX6 yX6_water yX6_water, Cond.code yX6_water cX6_water 3 none, Cond.methodLink RX6 99 yX6_isUnder, Cond.instanceMethod yX6_isUnder, Cond.selects RX6 yX6_isUnder yX6_isUnder, Cond.code yX6_isUnder cX6_isUnder 3 (some .boolean), Cond.fieldLink RX6 17 "DrownedPostModel" "binTable" "[I"]
def wsX6_pass_r3 : List Cond := [Cond.methodLink RX6 86 yX6_set, Cond.instanceMethod yX6_set, Cond.selects RX6 yX6_set yX6_set, Cond.code yX6_set cX6_set 4 none, Cond.methodLink RX6 102 yX6_leave, Cond.instanceMethod yX6_leave, Cond.selects RX6 yX6_leave yX6_leave, Cond.code yX6_leave cX6_leave 4 (some .int), Cond.methodLink RX6 105 yX6_one, Cond.instanceMethod yX6_one, Cond.selects RX6 yX6_one yX6_one, Cond.code yX6_one cX6_one 3 (some .int), Cond.fieldLink RX6 20 "DrownedPostModel" "ones" "[I", Cond.methodLink RX6 130 yX6_answer, Cond.instanceMethod yX6_answer, Cond.selects RX6 yX6_answer yX6_answer, Cond.code yX6_answer cX6_answer 3 none, Cond.methodLink RX6 82 yX6_add, Cond.instanceMethod yX6_add, Cond.selects RX6 yX6_add yX6_add, Cond.code yX6_add cX6_add 8 none, Cond.arrayClass .int, Cond.methodLink RX6 73 arraycopyName, Cond.native arraycopyName]
def wsX6_pass_r4 : List Cond := [Cond.static arraycopyName, Cond.initialized "java/lang/System", Cond.methodLink RX6 134 yX6_scrape, Cond.instanceMethod yX6_scrape, Cond.selects RX6 yX6_scrape yX6_scrape, Cond.code yX6_scrape cX6_scrape 5 none, Cond.fieldLink RX6 26 "DrownedPostModel" "scrapers" "I", Cond.methodLink RX6 137 yX6_sort, Cond.instanceMethod yX6_sort, Cond.selects RX6 yX6_sort yX6_sort, Cond.code yX6_sort cX6_sort 4 none, Cond.fieldLink RX6 29 "DrownedPostModel" "sorters" "I", Cond.methodLink RX6 123 yX6_binOf, Cond.instanceMethod yX6_binOf, Cond.selects RX6 yX6_binOf yX6_binOf, Cond.code yX6_binOf cX6_binOf 6 (some .int), Cond.fieldLink RX6 64 "DrownedPostModel" "bins" "I", Cond.methodLink RX6 120 Lib.Math.abs.name, Cond.static Lib.Math.abs.name, Cond.code Lib.Math.abs.name Lib.Math.abs.code 1 (some .int), Cond.methodLink RX6 108 yX6_sumOf, Cond.instanceMethod yX6_sumOf, Cond.selects RX6 yX6_sumOf yX6_sumOf, Cond.code yX6_sumOf cX6_sumOf 5 (some .int)]
def wsX6_pass : List Cond := .code yX6_pass cX6_pass 4 (some .int) :: ((wsX6_pass_r1 ++ (wsX6_pass_r2 ++ (wsX6_pass_r3 ++ wsX6_pass_r4))) ++ wsX60)
def wsX6_counted : List Cond := .code yX6_counted cX6_counted 2 (some .int) :: ([.fieldLink RX6 96 "DrownedPostModel" "hour" "I", .fieldLink RX6 64 "DrownedPostModel" "bins" "I", .fieldLink RX6 67 "DrownedPostModel" "drowned" "I", .fieldLink RX6 70 "DrownedPostModel" "letters" "I", .fieldLink RX6 7 "DrownedPostModel" "tides" "I", .fieldLink RX6 26 "DrownedPostModel" "scrapers" "I", .fieldLink RX6 29 "DrownedPostModel" "sorters" "I", .methodLink RX6 140 yX6_many, .instanceMethod yX6_many, .selects RX6 yX6_many yX6_many, .initialized RX6, .code yX6_many cX6_many 4 (some .int), .methodLink RX6 93 yX6_isIn_, .instanceMethod yX6_isIn_, .selects RX6 yX6_isIn_ yX6_isIn_, .code yX6_isIn_ cX6_isIn_ 3 (some .boolean), .methodLink RX6 49 yX6_get, .instanceMethod yX6_get, .selects RX6 yX6_get yX6_get, .code yX6_get cX6_get 3 (some .int), .fieldLink RX6 23 "DrownedPostModel" "table" "[I"] ++ wsX60)
def wsX6_count_r1 : List Cond := [Cond.fieldLink RX6 42 "DrownedPostModel" "thrown" "I", Cond.methodLink RX6 45 yX6_isIn, Cond.static yX6_isIn, Cond.initialized RX6, Cond.code yX6_isIn cX6_isIn 3 (some .boolean), Cond.methodLink RX6 146 yX6_counted, Cond.instanceMethod yX6_counted, Cond.selects RX6 yX6_counted yX6_counted, Cond.code yX6_counted cX6_counted 2 (some .int), Cond.fieldLink RX6 96 "DrownedPostModel" "hour" "I", Cond.fieldLink RX6 64 "DrownedPostModel" "bins" "I", Cond.fieldLink RX6 67 "DrownedPostModel" "drowned" "I", Cond.fieldLink RX6 70 "DrownedPostModel" "letters" "I", Cond.fieldLink RX6 7 "DrownedPostModel" "tides" "I", Cond.fieldLink RX6 26 "DrownedPostModel" "scrapers" "I", Cond.fieldLink RX6 29 "DrownedPostModel" "sorters" "I", Cond.methodLink RX6 140 yX6_many, Cond.instanceMethod yX6_many, Cond.selects RX6 yX6_many yX6_many, Cond.code yX6_many cX6_many 4 (some .int), Cond.methodLink RX6 93 yX6_isIn_, Cond.instanceMethod yX6_isIn_, Cond.selects RX6 yX6_isIn_ yX6_isIn_, Cond.code yX6_isIn_ cX6_isIn_ 3 (some .boolean)]
def wsX6_count_r2 : List Cond := [Cond.methodLink RX6 49 yX6_get, Cond.instanceMethod yX6_get, Cond.selects RX6 yX6_get yX6_get, Cond.code yX6_get cX6_get 3 (some .int), Cond.fieldLink RX6 23 "DrownedPostModel" "table" "[I", Cond.methodLink RX6 57 yX6_fail, Cond.instanceMethod yX6_fail, Cond.selects RX6 yX6_fail yX6_fail, Cond.code yX6_fail cX6_fail 2 (some .int)]
def wsX6_count : List Cond := .code yX6_count cX6_count 2 (some .int) :: ((wsX6_count_r1 ++ wsX6_count_r2) ++ wsX60)
def wsX6_binFor_r1 : List Cond := [Cond.fieldLink RX6 42 "DrownedPostModel" "thrown" "I", Cond.methodLink RX6 79 yX6_isOne, Cond.instanceMethod yX6_isOne, Cond.selects RX6 yX6_isOne yX6_isOne, Cond.initialized RX6, Cond.code yX6_isOne cX6_isOne 2 (some .boolean), Cond.fieldLink RX6 67 "DrownedPostModel" "drowned" "I", Cond.methodLink RX6 45 yX6_isIn, Cond.static yX6_isIn, Cond.code yX6_isIn cX6_isIn 3 (some .boolean), Cond.methodLink RX6 123 yX6_binOf, Cond.instanceMethod yX6_binOf, Cond.selects RX6 yX6_binOf yX6_binOf, Cond.code yX6_binOf cX6_binOf 6 (some .int), Cond.fieldLink RX6 64 "DrownedPostModel" "bins" "I", Cond.fieldLink RX6 17 "DrownedPostModel" "binTable" "[I", Cond.methodLink RX6 120 Lib.Math.abs.name, Cond.static Lib.Math.abs.name, Cond.initialized "java/lang/Math", Cond.code Lib.Math.abs.name Lib.Math.abs.code 1 (some .int), Cond.methodLink RX6 108 yX6_sumOf, Cond.instanceMethod yX6_sumOf, Cond.selects RX6 yX6_sumOf yX6_sumOf, Cond.code yX6_sumOf cX6_sumOf 5 (some .int)]
def wsX6_binFor_r2 : List Cond := [Cond.fieldLink RX6 70 "DrownedPostModel" "letters" "I", Cond.methodLink RX6 93 yX6_isIn_, Cond.instanceMethod yX6_isIn_, Cond.selects RX6 yX6_isIn_ yX6_isIn_, Cond.code yX6_isIn_ cX6_isIn_ 3 (some .boolean), Cond.methodLink RX6 49 yX6_get, Cond.instanceMethod yX6_get, Cond.selects RX6 yX6_get yX6_get, Cond.code yX6_get cX6_get 3 (some .int), Cond.fieldLink RX6 23 "DrownedPostModel" "table" "[I", Cond.methodLink RX6 105 yX6_one, Cond.instanceMethod yX6_one, Cond.selects RX6 yX6_one yX6_one, Cond.code yX6_one cX6_one 3 (some .int), Cond.fieldLink RX6 20 "DrownedPostModel" "ones" "[I", Cond.methodLink RX6 57 yX6_fail, Cond.instanceMethod yX6_fail, Cond.selects RX6 yX6_fail yX6_fail, Cond.code yX6_fail cX6_fail 2 (some .int)]
def wsX6_binFor : List Cond := .code yX6_binFor cX6_binFor 2 (some .int) :: ((wsX6_binFor_r1 ++ wsX6_binFor_r2) ++ wsX60)
def wsX6_ahead_r1 : List Cond := [Cond.fieldLink RX6 96 "DrownedPostModel" "hour" "I", Cond.fieldLink RX6 70 "DrownedPostModel" "letters" "I", Cond.fieldLink RX6 20 "DrownedPostModel" "ones" "[I", Cond.fieldLink RX6 32 "DrownedPostModel" "spareOnes" "[I", Cond.methodLink RX6 73 arraycopyName, Cond.native arraycopyName, Cond.static arraycopyName, Cond.initialized "java/lang/System", Cond.fieldLink RX6 23 "DrownedPostModel" "table" "[I", Cond.fieldLink RX6 35 "DrownedPostModel" "spareTable" "[I", Cond.methodLink RX6 143 yX6_passOne, Cond.instanceMethod yX6_passOne, Cond.selects RX6 yX6_passOne yX6_passOne, Cond.initialized RX6, Cond.code yX6_passOne cX6_passOne 5 none, Cond.fieldLink RX6 38 "DrownedPostModel" "was" "[Z", Cond.methodLink RX6 115 Lib.Math.max.name, Cond.static Lib.Math.max.name, Cond.initialized "java/lang/Math", Cond.code Lib.Math.max.name Lib.Math.max.code 2 (some .int), Cond.methodLink RX6 61 yX6_tideOf, Cond.instanceMethod yX6_tideOf, Cond.selects RX6 yX6_tideOf yX6_tideOf, Cond.code yX6_tideOf cX6_tideOf 2 (some .int)]
def wsX6_ahead_r2 : List Cond := [Cond.fieldLink RX6 13 "DrownedPostModel" "tideTable" "[I", Cond.fieldLink RX6 7 "DrownedPostModel" "tides" "I", Cond.methodLink RX6 93 yX6_isIn_, Cond.instanceMethod yX6_isIn_, Cond.selects RX6 yX6_isIn_ yX6_isIn_, Cond.code yX6_isIn_ cX6_isIn_ 3 (some .boolean), Cond.methodLink RX6 49 yX6_get, Cond.instanceMethod yX6_get, Cond.selects RX6 yX6_get yX6_get, Cond.code yX6_get cX6_get 3 (some .int), Cond.methodLink RX6 126 yX6_water, Cond.instanceMethod yX6_water, Cond.selects RX6 yX6_water yX6_water, Cond.code yX6_water cX6_water 3 none, Cond.methodLink RX6 99 yX6_isUnder, Cond.instanceMethod yX6_isUnder, Cond.selects RX6 yX6_isUnder yX6_isUnder, Cond.code yX6_isUnder cX6_isUnder 3 (some .boolean), Cond.fieldLink RX6 17 "DrownedPostModel" "binTable" "[I", Cond.methodLink RX6 86 yX6_set, Cond.instanceMethod yX6_set, Cond.selects RX6 yX6_set yX6_set, Cond.code yX6_set cX6_set 4 none, Cond.methodLink RX6 102 yX6_leave]
def wsX6_ahead_r3 : List Cond := [Cond.instanceMethod yX6_leave, Cond.selects RX6 yX6_leave yX6_leave, Cond.code yX6_leave cX6_leave 4 (some .int), Cond.methodLink RX6 105 yX6_one, Cond.instanceMethod yX6_one, Cond.selects RX6 yX6_one yX6_one, Cond.code yX6_one cX6_one 3 (some .int), Cond.methodLink RX6 130 yX6_answer, Cond.instanceMethod yX6_answer, Cond.selects RX6 yX6_answer yX6_answer, Cond.code yX6_answer cX6_answer 3 none, Cond.methodLink RX6 82 yX6_add, Cond.instanceMethod yX6_add, Cond.selects RX6 yX6_add yX6_add, Cond.code yX6_add cX6_add 8 none, Cond.arrayClass .int, Cond.methodLink RX6 134 yX6_scrape, Cond.instanceMethod yX6_scrape, Cond.selects RX6 yX6_scrape yX6_scrape, Cond.code yX6_scrape cX6_scrape 5 none, Cond.fieldLink RX6 26 "DrownedPostModel" "scrapers" "I", Cond.methodLink RX6 137 yX6_sort, Cond.instanceMethod yX6_sort, Cond.selects RX6 yX6_sort yX6_sort]
def wsX6_ahead_r4 : List Cond := [Cond.code yX6_sort cX6_sort 4 none, Cond.fieldLink RX6 29 "DrownedPostModel" "sorters" "I", Cond.methodLink RX6 123 yX6_binOf, Cond.instanceMethod yX6_binOf, Cond.selects RX6 yX6_binOf yX6_binOf, Cond.code yX6_binOf cX6_binOf 6 (some .int), Cond.fieldLink RX6 64 "DrownedPostModel" "bins" "I", Cond.methodLink RX6 120 Lib.Math.abs.name, Cond.static Lib.Math.abs.name, Cond.code Lib.Math.abs.name Lib.Math.abs.code 1 (some .int), Cond.methodLink RX6 108 yX6_sumOf, Cond.instanceMethod yX6_sumOf, Cond.selects RX6 yX6_sumOf yX6_sumOf, Cond.code yX6_sumOf cX6_sumOf 5 (some .int), Cond.methodLink RX6 140 yX6_many, Cond.instanceMethod yX6_many, Cond.selects RX6 yX6_many yX6_many, Cond.code yX6_many cX6_many 4 (some .int)]
def wsX6_ahead : List Cond := .code yX6_ahead cX6_ahead 7 (some .int) :: ((wsX6_ahead_r1 ++ (wsX6_ahead_r2 ++ (wsX6_ahead_r3 ++ wsX6_ahead_r4))) ++ wsX60)
def wsX6_foresee_r1 : List Cond := [Cond.fieldLink RX6 42 "DrownedPostModel" "thrown" "I", Cond.methodLink RX6 45 yX6_isIn, Cond.static yX6_isIn, Cond.initialized RX6, Cond.code yX6_isIn cX6_isIn 3 (some .boolean), Cond.methodLink RX6 57 yX6_fail, Cond.instanceMethod yX6_fail, Cond.selects RX6 yX6_fail yX6_fail, Cond.code yX6_fail cX6_fail 2 (some .int), Cond.methodLink RX6 149 yX6_ahead, Cond.instanceMethod yX6_ahead, Cond.selects RX6 yX6_ahead yX6_ahead, Cond.code yX6_ahead cX6_ahead 7 (some .int), Cond.fieldLink RX6 96 "DrownedPostModel" "hour" "I", Cond.fieldLink RX6 70 "DrownedPostModel" "letters" "I", Cond.fieldLink RX6 20 "DrownedPostModel" "ones" "[I", Cond.fieldLink RX6 32 "DrownedPostModel" "spareOnes" "[I", Cond.methodLink RX6 73 arraycopyName, Cond.native arraycopyName, Cond.static arraycopyName, Cond.initialized "java/lang/System", Cond.fieldLink RX6 23 "DrownedPostModel" "table" "[I", Cond.fieldLink RX6 35 "DrownedPostModel" "spareTable" "[I", Cond.methodLink RX6 143 yX6_passOne]
def wsX6_foresee_r2 : List Cond := [Cond.instanceMethod yX6_passOne, Cond.selects RX6 yX6_passOne yX6_passOne, Cond.code yX6_passOne cX6_passOne 5 none, Cond.fieldLink RX6 38 "DrownedPostModel" "was" "[Z", Cond.methodLink RX6 115 Lib.Math.max.name, Cond.static Lib.Math.max.name, Cond.initialized "java/lang/Math", Cond.code Lib.Math.max.name Lib.Math.max.code 2 (some .int), Cond.methodLink RX6 61 yX6_tideOf, Cond.instanceMethod yX6_tideOf, Cond.selects RX6 yX6_tideOf yX6_tideOf, Cond.code yX6_tideOf cX6_tideOf 2 (some .int), Cond.fieldLink RX6 13 "DrownedPostModel" "tideTable" "[I", Cond.fieldLink RX6 7 "DrownedPostModel" "tides" "I", Cond.methodLink RX6 93 yX6_isIn_, Cond.instanceMethod yX6_isIn_, Cond.selects RX6 yX6_isIn_ yX6_isIn_, Cond.code yX6_isIn_ cX6_isIn_ 3 (some .boolean), Cond.methodLink RX6 49 yX6_get, Cond.instanceMethod yX6_get, Cond.selects RX6 yX6_get yX6_get, Cond.code yX6_get cX6_get 3 (some .int), Cond.methodLink RX6 126 yX6_water, Cond.instanceMethod yX6_water]
def wsX6_foresee_r3 : List Cond := [Cond.selects RX6 yX6_water yX6_water, Cond.code yX6_water cX6_water 3 none, Cond.methodLink RX6 99 yX6_isUnder, Cond.instanceMethod yX6_isUnder, Cond.selects RX6 yX6_isUnder yX6_isUnder, Cond.code yX6_isUnder cX6_isUnder 3 (some .boolean), Cond.fieldLink RX6 17 "DrownedPostModel" "binTable" "[I", Cond.methodLink RX6 86 yX6_set, Cond.instanceMethod yX6_set, Cond.selects RX6 yX6_set yX6_set, Cond.code yX6_set cX6_set 4 none, Cond.methodLink RX6 102 yX6_leave, Cond.instanceMethod yX6_leave, Cond.selects RX6 yX6_leave yX6_leave, Cond.code yX6_leave cX6_leave 4 (some .int), Cond.methodLink RX6 105 yX6_one, Cond.instanceMethod yX6_one, Cond.selects RX6 yX6_one yX6_one, Cond.code yX6_one cX6_one 3 (some .int), Cond.methodLink RX6 130 yX6_answer, Cond.instanceMethod yX6_answer, Cond.selects RX6 yX6_answer yX6_answer, Cond.code yX6_answer cX6_answer 3 none, Cond.methodLink RX6 82 yX6_add]
def wsX6_foresee_r4 : List Cond := [Cond.instanceMethod yX6_add, Cond.selects RX6 yX6_add yX6_add, Cond.code yX6_add cX6_add 8 none, Cond.arrayClass .int, Cond.methodLink RX6 134 yX6_scrape, Cond.instanceMethod yX6_scrape, Cond.selects RX6 yX6_scrape yX6_scrape, Cond.code yX6_scrape cX6_scrape 5 none, Cond.fieldLink RX6 26 "DrownedPostModel" "scrapers" "I", Cond.methodLink RX6 137 yX6_sort, Cond.instanceMethod yX6_sort, Cond.selects RX6 yX6_sort yX6_sort, Cond.code yX6_sort cX6_sort 4 none, Cond.fieldLink RX6 29 "DrownedPostModel" "sorters" "I", Cond.methodLink RX6 123 yX6_binOf, Cond.instanceMethod yX6_binOf, Cond.selects RX6 yX6_binOf yX6_binOf, Cond.code yX6_binOf cX6_binOf 6 (some .int), Cond.fieldLink RX6 64 "DrownedPostModel" "bins" "I", Cond.methodLink RX6 120 Lib.Math.abs.name, Cond.static Lib.Math.abs.name, Cond.code Lib.Math.abs.name Lib.Math.abs.code 1 (some .int), Cond.methodLink RX6 108 yX6_sumOf, Cond.instanceMethod yX6_sumOf]
def wsX6_foresee_r5 : List Cond := [Cond.selects RX6 yX6_sumOf yX6_sumOf, Cond.code yX6_sumOf cX6_sumOf 5 (some .int), Cond.methodLink RX6 140 yX6_many, Cond.instanceMethod yX6_many, Cond.selects RX6 yX6_many yX6_many, Cond.code yX6_many cX6_many 4 (some .int)]
def wsX6_foresee : List Cond := .code yX6_foresee cX6_foresee 4 (some .int) :: ((wsX6_foresee_r1 ++ (wsX6_foresee_r2 ++ (wsX6_foresee_r3 ++ (wsX6_foresee_r4 ++ wsX6_foresee_r5)))) ++ wsX60)
def wsX6_fate_r1 : List Cond := [Cond.fieldLink RX6 42 "DrownedPostModel" "thrown" "I", Cond.methodLink RX6 90 yX6_isLetter, Cond.instanceMethod yX6_isLetter, Cond.selects RX6 yX6_isLetter yX6_isLetter, Cond.initialized RX6, Cond.code yX6_isLetter cX6_isLetter 2 (some .boolean), Cond.fieldLink RX6 70 "DrownedPostModel" "letters" "I", Cond.methodLink RX6 45 yX6_isIn, Cond.static yX6_isIn, Cond.code yX6_isIn cX6_isIn 3 (some .boolean), Cond.methodLink RX6 57 yX6_fail, Cond.instanceMethod yX6_fail, Cond.selects RX6 yX6_fail yX6_fail, Cond.code yX6_fail cX6_fail 2 (some .int), Cond.methodLink RX6 149 yX6_ahead, Cond.instanceMethod yX6_ahead, Cond.selects RX6 yX6_ahead yX6_ahead, Cond.code yX6_ahead cX6_ahead 7 (some .int), Cond.fieldLink RX6 96 "DrownedPostModel" "hour" "I", Cond.fieldLink RX6 20 "DrownedPostModel" "ones" "[I", Cond.fieldLink RX6 32 "DrownedPostModel" "spareOnes" "[I", Cond.methodLink RX6 73 arraycopyName, Cond.native arraycopyName, Cond.static arraycopyName]
def wsX6_fate_r2 : List Cond := [Cond.initialized "java/lang/System", Cond.fieldLink RX6 23 "DrownedPostModel" "table" "[I", Cond.fieldLink RX6 35 "DrownedPostModel" "spareTable" "[I", Cond.methodLink RX6 143 yX6_passOne, Cond.instanceMethod yX6_passOne, Cond.selects RX6 yX6_passOne yX6_passOne, Cond.code yX6_passOne cX6_passOne 5 none, Cond.fieldLink RX6 38 "DrownedPostModel" "was" "[Z", Cond.methodLink RX6 115 Lib.Math.max.name, Cond.static Lib.Math.max.name, Cond.initialized "java/lang/Math", Cond.code Lib.Math.max.name Lib.Math.max.code 2 (some .int), Cond.methodLink RX6 61 yX6_tideOf, Cond.instanceMethod yX6_tideOf, Cond.selects RX6 yX6_tideOf yX6_tideOf, Cond.code yX6_tideOf cX6_tideOf 2 (some .int), Cond.fieldLink RX6 13 "DrownedPostModel" "tideTable" "[I", Cond.fieldLink RX6 7 "DrownedPostModel" "tides" "I", Cond.methodLink RX6 93 yX6_isIn_, Cond.instanceMethod yX6_isIn_, Cond.selects RX6 yX6_isIn_ yX6_isIn_, Cond.code yX6_isIn_ cX6_isIn_ 3 (some .boolean), Cond.methodLink RX6 49 yX6_get, Cond.instanceMethod yX6_get]
def wsX6_fate_r3 : List Cond := [Cond.selects RX6 yX6_get yX6_get, Cond.code yX6_get cX6_get 3 (some .int), Cond.methodLink RX6 126 yX6_water, Cond.instanceMethod yX6_water, Cond.selects RX6 yX6_water yX6_water, Cond.code yX6_water cX6_water 3 none, Cond.methodLink RX6 99 yX6_isUnder, Cond.instanceMethod yX6_isUnder, Cond.selects RX6 yX6_isUnder yX6_isUnder, Cond.code yX6_isUnder cX6_isUnder 3 (some .boolean), Cond.fieldLink RX6 17 "DrownedPostModel" "binTable" "[I", Cond.methodLink RX6 86 yX6_set, Cond.instanceMethod yX6_set, Cond.selects RX6 yX6_set yX6_set, Cond.code yX6_set cX6_set 4 none, Cond.methodLink RX6 102 yX6_leave, Cond.instanceMethod yX6_leave, Cond.selects RX6 yX6_leave yX6_leave, Cond.code yX6_leave cX6_leave 4 (some .int), Cond.methodLink RX6 105 yX6_one, Cond.instanceMethod yX6_one, Cond.selects RX6 yX6_one yX6_one, Cond.code yX6_one cX6_one 3 (some .int), Cond.methodLink RX6 130 yX6_answer]
def wsX6_fate_r4 : List Cond := [Cond.instanceMethod yX6_answer, Cond.selects RX6 yX6_answer yX6_answer, Cond.code yX6_answer cX6_answer 3 none, Cond.methodLink RX6 82 yX6_add, Cond.instanceMethod yX6_add, Cond.selects RX6 yX6_add yX6_add, Cond.code yX6_add cX6_add 8 none, Cond.arrayClass .int, Cond.methodLink RX6 134 yX6_scrape, Cond.instanceMethod yX6_scrape, Cond.selects RX6 yX6_scrape yX6_scrape, Cond.code yX6_scrape cX6_scrape 5 none, Cond.fieldLink RX6 26 "DrownedPostModel" "scrapers" "I", Cond.methodLink RX6 137 yX6_sort, Cond.instanceMethod yX6_sort, Cond.selects RX6 yX6_sort yX6_sort, Cond.code yX6_sort cX6_sort 4 none, Cond.fieldLink RX6 29 "DrownedPostModel" "sorters" "I", Cond.methodLink RX6 123 yX6_binOf, Cond.instanceMethod yX6_binOf, Cond.selects RX6 yX6_binOf yX6_binOf, Cond.code yX6_binOf cX6_binOf 6 (some .int), Cond.fieldLink RX6 64 "DrownedPostModel" "bins" "I", Cond.methodLink RX6 120 Lib.Math.abs.name]
def wsX6_fate_r5 : List Cond := [Cond.static Lib.Math.abs.name, Cond.code Lib.Math.abs.name Lib.Math.abs.code 1 (some .int), Cond.methodLink RX6 108 yX6_sumOf, Cond.instanceMethod yX6_sumOf, Cond.selects RX6 yX6_sumOf yX6_sumOf, Cond.code yX6_sumOf cX6_sumOf 5 (some .int), Cond.methodLink RX6 140 yX6_many, Cond.instanceMethod yX6_many, Cond.selects RX6 yX6_many yX6_many, Cond.code yX6_many cX6_many 4 (some .int)]
def wsX6_fate : List Cond := .code yX6_fate cX6_fate 3 (some .int) :: ((wsX6_fate_r1 ++ (wsX6_fate_r2 ++ (wsX6_fate_r3 ++ (wsX6_fate_r4 ++ wsX6_fate_r5)))) ++ wsX60)
def wsX6_reaches_r1 : List Cond := [Cond.fieldLink RX6 42 "DrownedPostModel" "thrown" "I", Cond.fieldLink RX6 64 "DrownedPostModel" "bins" "I", Cond.fieldLink RX6 96 "DrownedPostModel" "hour" "I", Cond.methodLink RX6 79 yX6_isOne, Cond.instanceMethod yX6_isOne, Cond.selects RX6 yX6_isOne yX6_isOne, Cond.initialized RX6, Cond.code yX6_isOne cX6_isOne 2 (some .boolean), Cond.fieldLink RX6 67 "DrownedPostModel" "drowned" "I", Cond.methodLink RX6 45 yX6_isIn, Cond.static yX6_isIn, Cond.code yX6_isIn cX6_isIn 3 (some .boolean), Cond.methodLink RX6 57 yX6_fail, Cond.instanceMethod yX6_fail, Cond.selects RX6 yX6_fail yX6_fail, Cond.code yX6_fail cX6_fail 2 (some .int), Cond.methodLink RX6 61 yX6_tideOf, Cond.instanceMethod yX6_tideOf, Cond.selects RX6 yX6_tideOf yX6_tideOf, Cond.code yX6_tideOf cX6_tideOf 2 (some .int), Cond.fieldLink RX6 13 "DrownedPostModel" "tideTable" "[I", Cond.fieldLink RX6 7 "DrownedPostModel" "tides" "I", Cond.methodLink RX6 99 yX6_isUnder, Cond.instanceMethod yX6_isUnder]
def wsX6_reaches_r2 : List Cond := [Cond.selects RX6 yX6_isUnder yX6_isUnder, Cond.code yX6_isUnder cX6_isUnder 3 (some .boolean), Cond.fieldLink RX6 17 "DrownedPostModel" "binTable" "[I", Cond.methodLink RX6 105 yX6_one, Cond.instanceMethod yX6_one, Cond.selects RX6 yX6_one yX6_one, Cond.code yX6_one cX6_one 3 (some .int), Cond.fieldLink RX6 20 "DrownedPostModel" "ones" "[I"]
def wsX6_reaches : List Cond := .code yX6_reaches cX6_reaches 5 (some .int) :: ((wsX6_reaches_r1 ++ wsX6_reaches_r2) ++ wsX60)
def wsX6_barnacles : List Cond := .code yX6_barnacles cX6_barnacles 3 (some .double) :: ([.fieldLink RX6 42 "DrownedPostModel" "thrown" "I", .fieldLink RX6 64 "DrownedPostModel" "bins" "I", .methodLink RX6 108 yX6_sumOf, .instanceMethod yX6_sumOf, .selects RX6 yX6_sumOf yX6_sumOf, .initialized RX6, .code yX6_sumOf cX6_sumOf 5 (some .int), .fieldLink RX6 70 "DrownedPostModel" "letters" "I", .methodLink RX6 93 yX6_isIn_, .instanceMethod yX6_isIn_, .selects RX6 yX6_isIn_ yX6_isIn_, .code yX6_isIn_ cX6_isIn_ 3 (some .boolean), .methodLink RX6 49 yX6_get, .instanceMethod yX6_get, .selects RX6 yX6_get yX6_get, .code yX6_get cX6_get 3 (some .int), .fieldLink RX6 23 "DrownedPostModel" "table" "[I", .methodLink RX6 140 yX6_many, .instanceMethod yX6_many, .selects RX6 yX6_many yX6_many, .code yX6_many cX6_many 4 (some .int)] ++ wsX60)
def wsX6_digest_r1 : List Cond := [Cond.fieldLink RX6 42 "DrownedPostModel" "thrown" "I", Cond.constantLong RX6 153 (479), Cond.constantLong RX6 155 (31), Cond.fieldLink RX6 7 "DrownedPostModel" "tides" "I", Cond.fieldLink RX6 13 "DrownedPostModel" "tideTable" "[I", Cond.fieldLink RX6 64 "DrownedPostModel" "bins" "I", Cond.fieldLink RX6 67 "DrownedPostModel" "drowned" "I", Cond.fieldLink RX6 20 "DrownedPostModel" "ones" "[I", Cond.fieldLink RX6 70 "DrownedPostModel" "letters" "I", Cond.fieldLink RX6 23 "DrownedPostModel" "table" "[I", Cond.methodLink RX6 146 yX6_counted, Cond.instanceMethod yX6_counted, Cond.selects RX6 yX6_counted yX6_counted, Cond.initialized RX6, Cond.code yX6_counted cX6_counted 2 (some .int), Cond.fieldLink RX6 96 "DrownedPostModel" "hour" "I", Cond.fieldLink RX6 26 "DrownedPostModel" "scrapers" "I", Cond.fieldLink RX6 29 "DrownedPostModel" "sorters" "I", Cond.methodLink RX6 140 yX6_many, Cond.instanceMethod yX6_many, Cond.selects RX6 yX6_many yX6_many, Cond.code yX6_many cX6_many 4 (some .int), Cond.methodLink RX6 93 yX6_isIn_, Cond.instanceMethod yX6_isIn_]
def wsX6_digest_r2 : List Cond := [Cond.selects RX6 yX6_isIn_ yX6_isIn_, Cond.code yX6_isIn_ cX6_isIn_ 3 (some .boolean), Cond.methodLink RX6 49 yX6_get, Cond.instanceMethod yX6_get, Cond.selects RX6 yX6_get yX6_get, Cond.code yX6_get cX6_get 3 (some .int), Cond.methodLink RX6 112 yX6_binTold, Cond.instanceMethod yX6_binTold, Cond.selects RX6 yX6_binTold yX6_binTold, Cond.code yX6_binTold cX6_binTold 3 (some .int), Cond.fieldLink RX6 17 "DrownedPostModel" "binTable" "[I", Cond.methodLink RX6 108 yX6_sumOf, Cond.instanceMethod yX6_sumOf, Cond.selects RX6 yX6_sumOf yX6_sumOf, Cond.code yX6_sumOf cX6_sumOf 5 (some .int), Cond.methodLink RX6 61 yX6_tideOf, Cond.instanceMethod yX6_tideOf, Cond.selects RX6 yX6_tideOf yX6_tideOf, Cond.code yX6_tideOf cX6_tideOf 2 (some .int), Cond.methodLink RX6 99 yX6_isUnder, Cond.instanceMethod yX6_isUnder, Cond.selects RX6 yX6_isUnder yX6_isUnder, Cond.code yX6_isUnder cX6_isUnder 3 (some .boolean)]
def wsX6_digest : List Cond := .code yX6_digest cX6_digest 5 (some .long) :: ((wsX6_digest_r1 ++ wsX6_digest_r2) ++ wsX60)
def wsJ9_abs_0f7a4 : List Cond := .code yJ9_abs_0f7a4 cJ9_abs_0f7a4 1 (some .int) :: ([])
def wsJ9_max_7cf53 : List Cond := .code yJ9_max_7cf53 cJ9_max_7cf53 2 (some .int) :: ([])
def wsL_beginTides : List Cond := .codeWith yL_beginTides cL_beginTides 4 (some .int) [(0, 9, 12, 13)] :: ([.classLink RL 13 "java/lang/IllegalArgumentException", .methodLink RL 7 yX5_beginTides, .instanceMethod yX5_beginTides, .selects RX5 yX5_beginTides yX5_beginTides, .initialized RX5, .code yX5_beginTides cX5_beginTides 3 (some .int), .classLink RX5 23 "java/lang/IllegalArgumentException", .initialized "java/lang/IllegalArgumentException", .fieldLink RX5 10 "DrownedPost" "now" "LDrownedPost$Office;", .fieldLink RX5 30 "DrownedPost$Office" "tides" "LDrownedPost$Tides;", .fieldLink RX5 34 "DrownedPost$Tides" "count" "I", .methodLink RX5 19 yX5_isWithin, .static yX5_isWithin, .code yX5_isWithin cX5_isWithin 3 (some .boolean), .methodLink RX5 40 yX4_begin, .instanceMethod yX4_begin, .selects RX4 yX4_begin yX4_begin, .initialized RX4, .code yX4_begin cX4_begin 2 none, .fieldLink RX4 9 "DrownedPost$Tides" "heights" "[I", .fieldLink RX4 18 "DrownedPost$Tides" "count" "I"] ++ wsX50 ++ wsX30 ++ wsX40 ++ (vx_atS RX5 27 "java/lang/IllegalArgumentException" ["java/lang/RuntimeException", "java/lang/Exception"]).filter goodWord)
def wsL_addTide : List Cond := .codeWith yL_addTide cL_addTide 4 (some .int) [(0, 9, 12, 13), (0, 9, 15, 18)] :: ([.classLink RL 13 "java/lang/IllegalArgumentException", .classLink RL 18 "java/lang/IllegalStateException", .methodLink RL 15 yX5_addTide, .instanceMethod yX5_addTide, .selects RX5 yX5_addTide yX5_addTide, .initialized RX5, .code yX5_addTide cX5_addTide 2 (some .int), .classLink RX5 23 "java/lang/IllegalArgumentException", .initialized "java/lang/IllegalArgumentException", .classLink RX5 44 "java/lang/IllegalStateException", .initialized "java/lang/IllegalStateException", .fieldLink RX5 10 "DrownedPost" "now" "LDrownedPost$Office;", .fieldLink RX5 30 "DrownedPost$Office" "tides" "LDrownedPost$Tides;", .fieldLink RX5 34 "DrownedPost$Tides" "count" "I", .methodLink RX5 19 yX5_isWithin, .static yX5_isWithin, .code yX5_isWithin cX5_isWithin 3 (some .boolean), .methodLink RX5 49 yX4_append, .instanceMethod yX4_append, .selects RX4 yX4_append yX4_append, .initialized RX4, .code yX4_append cX4_append 2 none, .fieldLink RX4 18 "DrownedPost$Tides" "count" "I", .fieldLink RX4 9 "DrownedPost$Tides" "heights" "[I"] ++ wsX50 ++ wsX30 ++ wsX40 ++ (vx_atS RX5 27 "java/lang/IllegalArgumentException" ["java/lang/RuntimeException", "java/lang/Exception"]).filter goodWord ++ (vx_atS RX5 48 "java/lang/IllegalStateException" ["java/lang/RuntimeException", "java/lang/Exception"]).filter goodWord)
def wsL_tide : List Cond := .codeWith yL_tide cL_tide 4 (some .int) [(0, 9, 12, 13)] :: ([.classLink RL 13 "java/lang/IllegalArgumentException", .methodLink RL 20 yX5_tide, .instanceMethod yX5_tide, .selects RX5 yX5_tide yX5_tide, .initialized RX5, .code yX5_tide cX5_tide 2 (some .int), .classLink RX5 23 "java/lang/IllegalArgumentException", .initialized "java/lang/IllegalArgumentException", .fieldLink RX5 10 "DrownedPost" "now" "LDrownedPost$Office;", .fieldLink RX5 30 "DrownedPost$Office" "tides" "LDrownedPost$Tides;", .methodLink RX5 54 yX4_heightIn, .instanceMethod yX4_heightIn, .selects RX4 yX4_heightIn yX4_heightIn, .initialized RX4, .code yX4_heightIn cX4_heightIn 2 (some .int), .fieldLink RX4 18 "DrownedPost$Tides" "count" "I", .fieldLink RX4 9 "DrownedPost$Tides" "heights" "[I", .methodLink RX4 28 yJ9_floorMod_7cf53, .static yJ9_floorMod_7cf53, .initialized RJ9, .code yJ9_floorMod_7cf53 cJ9_floorMod_7cf53 3 (some .int)] ++ wsX50 ++ wsX30 ++ wsX40 ++ (vx_atS RX5 27 "java/lang/IllegalArgumentException" ["java/lang/RuntimeException", "java/lang/Exception"]).filter goodWord)
def wsL_addBin_r1 : List Cond := [Cond.classLink RL 13 "java/lang/IllegalArgumentException", Cond.classLink RL 18 "java/lang/IllegalStateException", Cond.methodLink RL 23 yX5_addBin, Cond.instanceMethod yX5_addBin, Cond.selects RX5 yX5_addBin yX5_addBin, Cond.initialized RX5, Cond.code yX5_addBin cX5_addBin 3 (some .int), Cond.classLink RX5 23 "java/lang/IllegalArgumentException", Cond.initialized "java/lang/IllegalArgumentException", Cond.classLink RX5 44 "java/lang/IllegalStateException", Cond.initialized "java/lang/IllegalStateException", Cond.fieldLink RX5 10 "DrownedPost" "now" "LDrownedPost$Office;", Cond.fieldLink RX5 60 "DrownedPost$Office" "bins" "LDrownedPost$Bins;", Cond.fieldLink RX5 64 "DrownedPost$Bins" "count" "I", Cond.methodLink RX5 19 yX5_isWithin, Cond.static yX5_isWithin, Cond.code yX5_isWithin cX5_isWithin 3 (some .boolean), Cond.methodLink RX5 69 yX0_append, Cond.instanceMethod yX0_append, Cond.selects RX0 yX0_append yX0_append, Cond.initialized RX0, Cond.code yX0_append cX0_append 4 (some .int), Cond.fieldLink RX0 21 "DrownedPost$Bins" "count" "I", Cond.fieldLink RX0 9 "DrownedPost$Bins" "height" "[I"]
def wsL_addBin_r2 : List Cond := [Cond.fieldLink RX0 15 "DrownedPost$Bins" "room" "[I", Cond.fieldLink RX0 18 "DrownedPost$Bins" "filled" "[I"]
def wsL_addBin : List Cond := .codeWith yL_addBin cL_addBin 5 (some .int) [(0, 10, 13, 13), (0, 10, 17, 18)] :: ((wsL_addBin_r1 ++ wsL_addBin_r2) ++ wsX50 ++ wsX30 ++ wsX00 ++ (vx_atS RX5 27 "java/lang/IllegalArgumentException" ["java/lang/RuntimeException", "java/lang/Exception"]).filter goodWord ++ (vx_atS RX5 48 "java/lang/IllegalStateException" ["java/lang/RuntimeException", "java/lang/Exception"]).filter goodWord)
def wsL_setCrew : List Cond := .codeWith yL_setCrew cL_setCrew 5 (some .int) [(0, 10, 13, 13)] :: ([.classLink RL 13 "java/lang/IllegalArgumentException", .methodLink RL 27 yX5_setCrew, .instanceMethod yX5_setCrew, .selects RX5 yX5_setCrew yX5_setCrew, .initialized RX5, .code yX5_setCrew cX5_setCrew 4 (some .int), .classLink RX5 23 "java/lang/IllegalArgumentException", .initialized "java/lang/IllegalArgumentException", .fieldLink RX5 10 "DrownedPost" "now" "LDrownedPost$Office;", .fieldLink RX5 74 "DrownedPost$Office" "sorters" "I", .fieldLink RX5 77 "DrownedPost$Office" "scrapers" "I", .methodLink RX5 19 yX5_isWithin, .static yX5_isWithin, .code yX5_isWithin cX5_isWithin 3 (some .boolean)] ++ wsX50 ++ wsX30 ++ (vx_atS RX5 27 "java/lang/IllegalArgumentException" ["java/lang/RuntimeException", "java/lang/Exception"]).filter goodWord)
def wsL_addDrowned_r1 : List Cond := [Cond.classLink RL 13 "java/lang/IllegalArgumentException", Cond.classLink RL 18 "java/lang/IllegalStateException", Cond.methodLink RL 30 yX5_addDrowned, Cond.instanceMethod yX5_addDrowned, Cond.selects RX5 yX5_addDrowned yX5_addDrowned, Cond.initialized RX5, Cond.code yX5_addDrowned cX5_addDrowned 4 (some .int), Cond.classLink RX5 23 "java/lang/IllegalArgumentException", Cond.initialized "java/lang/IllegalArgumentException", Cond.classLink RX5 44 "java/lang/IllegalStateException", Cond.initialized "java/lang/IllegalStateException", Cond.fieldLink RX5 10 "DrownedPost" "now" "LDrownedPost$Office;", Cond.fieldLink RX5 82 "DrownedPost$Office" "drowned" "LDrownedPost$Drowned;", Cond.fieldLink RX5 86 "DrownedPost$Drowned" "count" "I", Cond.methodLink RX5 19 yX5_isWithin, Cond.static yX5_isWithin, Cond.code yX5_isWithin cX5_isWithin 3 (some .boolean), Cond.methodLink RX5 91 yX1_append, Cond.instanceMethod yX1_append, Cond.selects RX1 yX1_append yX1_append, Cond.initialized RX1, Cond.code yX1_append cX1_append 5 (some .int), Cond.fieldLink RX1 27 "DrownedPost$Drowned" "count" "I", Cond.fieldLink RX1 9 "DrownedPost$Drowned" "height" "[I"]
def wsL_addDrowned_r2 : List Cond := [Cond.fieldLink RX1 15 "DrownedPost$Drowned" "n" "[I", Cond.fieldLink RX1 18 "DrownedPost$Drowned" "lag" "[I", Cond.fieldLink RX1 21 "DrownedPost$Drowned" "got" "[I", Cond.fieldLink RX1 24 "DrownedPost$Drowned" "written" "[I"]
def wsL_addDrowned : List Cond := .codeWith yL_addDrowned cL_addDrowned 6 (some .int) [(0, 12, 15, 13), (0, 12, 19, 18)] :: ((wsL_addDrowned_r1 ++ wsL_addDrowned_r2) ++ wsX50 ++ wsX30 ++ wsX10 ++ (vx_atS RX5 27 "java/lang/IllegalArgumentException" ["java/lang/RuntimeException", "java/lang/Exception"]).filter goodWord ++ (vx_atS RX5 48 "java/lang/IllegalStateException" ["java/lang/RuntimeException", "java/lang/Exception"]).filter goodWord)
def wsL_bring_r1 : List Cond := [Cond.classLink RL 37 "java/lang/IndexOutOfBoundsException", Cond.classLink RL 13 "java/lang/IllegalArgumentException", Cond.classLink RL 18 "java/lang/IllegalStateException", Cond.methodLink RL 34 yX5_bring, Cond.instanceMethod yX5_bring, Cond.selects RX5 yX5_bring yX5_bring, Cond.initialized RX5, Cond.code yX5_bring cX5_bring 4 (some .int), Cond.classLink RX5 98 "java/lang/IndexOutOfBoundsException", Cond.initialized "java/lang/IndexOutOfBoundsException", Cond.classLink RX5 23 "java/lang/IllegalArgumentException", Cond.initialized "java/lang/IllegalArgumentException", Cond.classLink RX5 44 "java/lang/IllegalStateException", Cond.initialized "java/lang/IllegalStateException", Cond.fieldLink RX5 10 "DrownedPost" "now" "LDrownedPost$Office;", Cond.fieldLink RX5 82 "DrownedPost$Office" "drowned" "LDrownedPost$Drowned;", Cond.fieldLink RX5 105 "DrownedPost$Office" "letters" "LDrownedPost$Letters;", Cond.fieldLink RX5 109 "DrownedPost$Letters" "count" "I", Cond.methodLink RX5 94 yX1_has, Cond.instanceMethod yX1_has, Cond.selects RX1 yX1_has yX1_has, Cond.initialized RX1, Cond.code yX1_has cX1_has 2 (some .boolean), Cond.fieldLink RX1 27 "DrownedPost$Drowned" "count" "I"]
def wsL_bring_r2 : List Cond := [Cond.methodLink RX5 19 yX5_isWithin, Cond.static yX5_isWithin, Cond.code yX5_isWithin cX5_isWithin 3 (some .boolean), Cond.methodLink RX5 114 yX2_append, Cond.instanceMethod yX2_append, Cond.selects RX2 yX2_append yX2_append, Cond.initialized RX2, Cond.code yX2_append cX2_append 5 (some .int), Cond.fieldLink RX2 39 "DrownedPost$Letters" "count" "I", Cond.fieldLink RX2 9 "DrownedPost$Letters" "to" "[I", Cond.fieldLink RX2 15 "DrownedPost$Letters" "weight" "[I", Cond.fieldLink RX2 18 "DrownedPost$Letters" "seal" "[I", Cond.fieldLink RX2 21 "DrownedPost$Letters" "state" "[I", Cond.fieldLink RX2 24 "DrownedPost$Letters" "growth" "[I", Cond.fieldLink RX2 27 "DrownedPost$Letters" "bin" "[I", Cond.fieldLink RX2 30 "DrownedPost$Letters" "held" "[I", Cond.fieldLink RX2 33 "DrownedPost$Letters" "hoursBefore" "[I", Cond.fieldLink RX2 36 "DrownedPost$Letters" "answered" "[I"]
def wsL_bring : List Cond := .codeWith yL_bring cL_bring 6 (some .int) [(0, 12, 15, 37), (0, 12, 19, 13), (0, 12, 23, 18)] :: ((wsL_bring_r1 ++ wsL_bring_r2) ++ wsX50 ++ wsX30 ++ wsX20 ++ wsX10 ++ (vx_atS RX5 102 "java/lang/IndexOutOfBoundsException" ["java/lang/RuntimeException", "java/lang/Exception"]).filter goodWord ++ (vx_atS RX5 27 "java/lang/IllegalArgumentException" ["java/lang/RuntimeException", "java/lang/Exception"]).filter goodWord ++ (vx_atS RX5 48 "java/lang/IllegalStateException" ["java/lang/RuntimeException", "java/lang/Exception"]).filter goodWord)
def wsL_takeOut_r1 : List Cond := [Cond.classLink RL 37 "java/lang/IndexOutOfBoundsException", Cond.classLink RL 18 "java/lang/IllegalStateException", Cond.methodLink RL 39 yX5_takeOut, Cond.instanceMethod yX5_takeOut, Cond.selects RX5 yX5_takeOut yX5_takeOut, Cond.initialized RX5, Cond.code yX5_takeOut cX5_takeOut 3 (some .int), Cond.classLink RX5 98 "java/lang/IndexOutOfBoundsException", Cond.initialized "java/lang/IndexOutOfBoundsException", Cond.classLink RX5 44 "java/lang/IllegalStateException", Cond.initialized "java/lang/IllegalStateException", Cond.fieldLink RX5 10 "DrownedPost" "now" "LDrownedPost$Office;", Cond.fieldLink RX5 105 "DrownedPost$Office" "letters" "LDrownedPost$Letters;", Cond.fieldLink RX5 118 "DrownedPost$Letters" "bin" "[I", Cond.fieldLink RX5 60 "DrownedPost$Office" "bins" "LDrownedPost$Bins;", Cond.methodLink RX5 115 yX2_has, Cond.instanceMethod yX2_has, Cond.selects RX2 yX2_has yX2_has, Cond.initialized RX2, Cond.code yX2_has cX2_has 2 (some .boolean), Cond.fieldLink RX2 39 "DrownedPost$Letters" "count" "I", Cond.methodLink RX5 122 yX0_has, Cond.instanceMethod yX0_has, Cond.selects RX0 yX0_has yX0_has]
def wsL_takeOut_r2 : List Cond := [Cond.initialized RX0, Cond.code yX0_has cX0_has 2 (some .boolean), Cond.fieldLink RX0 21 "DrownedPost$Bins" "count" "I", Cond.methodLink RX5 125 yX3_tideNow, Cond.instanceMethod yX3_tideNow, Cond.selects RX3 yX3_tideNow yX3_tideNow, Cond.initialized RX3, Cond.code yX3_tideNow cX3_tideNow 1 (some .int), Cond.fieldLink RX3 12 "DrownedPost$Office" "tides" "LDrownedPost$Tides;", Cond.fieldLink RX3 67 "DrownedPost$Office" "hour" "I", Cond.methodLink RX3 70 yX4_heightIn, Cond.instanceMethod yX4_heightIn, Cond.selects RX4 yX4_heightIn yX4_heightIn, Cond.initialized RX4, Cond.code yX4_heightIn cX4_heightIn 2 (some .int), Cond.fieldLink RX4 18 "DrownedPost$Tides" "count" "I", Cond.fieldLink RX4 9 "DrownedPost$Tides" "heights" "[I", Cond.methodLink RX4 28 yJ9_floorMod_7cf53, Cond.static yJ9_floorMod_7cf53, Cond.initialized RJ9, Cond.code yJ9_floorMod_7cf53 cJ9_floorMod_7cf53 3 (some .int), Cond.methodLink RX5 129 yX0_isUnder, Cond.instanceMethod yX0_isUnder, Cond.selects RX0 yX0_isUnder yX0_isUnder]
def wsL_takeOut_r3 : List Cond := [Cond.code yX0_isUnder cX0_isUnder 3 (some .boolean), Cond.fieldLink RX0 9 "DrownedPost$Bins" "height" "[I", Cond.methodLink RX5 135 yX3_leaveBin, Cond.instanceMethod yX3_leaveBin, Cond.selects RX3 yX3_leaveBin yX3_leaveBin, Cond.code yX3_leaveBin cX3_leaveBin 4 none, Cond.fieldLink RX3 35 "DrownedPost$Office" "letters" "LDrownedPost$Letters;", Cond.fieldLink RX3 110 "DrownedPost$Letters" "bin" "[I", Cond.fieldLink RX3 21 "DrownedPost$Office" "bins" "LDrownedPost$Bins;", Cond.fieldLink RX3 143 "DrownedPost$Bins" "filled" "[I", Cond.fieldLink RX3 129 "DrownedPost$Letters" "held" "[I", Cond.fieldLink RX3 104 "DrownedPost$Letters" "state" "[I", Cond.methodLink RX3 138 yX2_has, Cond.methodLink RX3 142 yX0_has]
def wsL_takeOut : List Cond := .codeWith yL_takeOut cL_takeOut 4 (some .int) [(0, 9, 12, 37), (0, 9, 15, 18)] :: ((wsL_takeOut_r1 ++ (wsL_takeOut_r2 ++ wsL_takeOut_r3)) ++ wsX50 ++ wsX30 ++ wsX20 ++ wsX00 ++ wsX40 ++ (vx_atS RX5 102 "java/lang/IndexOutOfBoundsException" ["java/lang/RuntimeException", "java/lang/Exception"]).filter goodWord ++ (vx_atS RX5 48 "java/lang/IllegalStateException" ["java/lang/RuntimeException", "java/lang/Exception"]).filter goodWord)
def wsL_letter_r1 : List Cond := [Cond.classLink RL 37 "java/lang/IndexOutOfBoundsException", Cond.methodLink RL 42 yX5_letter, Cond.instanceMethod yX5_letter, Cond.selects RX5 yX5_letter yX5_letter, Cond.initialized RX5, Cond.code yX5_letter cX5_letter 3 (some .int), Cond.classLink RX5 98 "java/lang/IndexOutOfBoundsException", Cond.initialized "java/lang/IndexOutOfBoundsException", Cond.fieldLink RX5 10 "DrownedPost" "now" "LDrownedPost$Office;", Cond.fieldLink RX5 105 "DrownedPost$Office" "letters" "LDrownedPost$Letters;", Cond.methodLink RX5 115 yX2_has, Cond.instanceMethod yX2_has, Cond.selects RX2 yX2_has yX2_has, Cond.initialized RX2, Cond.code yX2_has cX2_has 2 (some .boolean), Cond.fieldLink RX2 39 "DrownedPost$Letters" "count" "I", Cond.methodLink RX5 19 yX5_isWithin, Cond.static yX5_isWithin, Cond.code yX5_isWithin cX5_isWithin 3 (some .boolean), Cond.methodLink RX5 141 yX2_fact, Cond.instanceMethod yX2_fact, Cond.selects RX2 yX2_fact yX2_fact, Cond.code yX2_fact cX2_fact 3 (some .int), Cond.fieldLink RX2 9 "DrownedPost$Letters" "to" "[I"]
def wsL_letter_r2 : List Cond := [Cond.fieldLink RX2 15 "DrownedPost$Letters" "weight" "[I", Cond.fieldLink RX2 18 "DrownedPost$Letters" "seal" "[I", Cond.fieldLink RX2 21 "DrownedPost$Letters" "state" "[I", Cond.fieldLink RX2 24 "DrownedPost$Letters" "growth" "[I", Cond.fieldLink RX2 27 "DrownedPost$Letters" "bin" "[I", Cond.fieldLink RX2 30 "DrownedPost$Letters" "held" "[I", Cond.fieldLink RX2 33 "DrownedPost$Letters" "hoursBefore" "[I", Cond.fieldLink RX2 36 "DrownedPost$Letters" "answered" "[I", Cond.methodLink RX2 43 yX2_has]
def wsL_letter : List Cond := .codeWith yL_letter cL_letter 5 (some .int) [(0, 10, 13, 37)] :: ((wsL_letter_r1 ++ wsL_letter_r2) ++ wsX50 ++ wsX30 ++ wsX20 ++ (vx_atS RX5 102 "java/lang/IndexOutOfBoundsException" ["java/lang/RuntimeException", "java/lang/Exception"]).filter goodWord)
def wsL_drowned_r1 : List Cond := [Cond.classLink RL 37 "java/lang/IndexOutOfBoundsException", Cond.methodLink RL 45 yX5_drowned, Cond.instanceMethod yX5_drowned, Cond.selects RX5 yX5_drowned yX5_drowned, Cond.initialized RX5, Cond.code yX5_drowned cX5_drowned 3 (some .int), Cond.classLink RX5 98 "java/lang/IndexOutOfBoundsException", Cond.initialized "java/lang/IndexOutOfBoundsException", Cond.fieldLink RX5 10 "DrownedPost" "now" "LDrownedPost$Office;", Cond.fieldLink RX5 82 "DrownedPost$Office" "drowned" "LDrownedPost$Drowned;", Cond.methodLink RX5 94 yX1_has, Cond.instanceMethod yX1_has, Cond.selects RX1 yX1_has yX1_has, Cond.initialized RX1, Cond.code yX1_has cX1_has 2 (some .boolean), Cond.fieldLink RX1 27 "DrownedPost$Drowned" "count" "I", Cond.methodLink RX5 19 yX5_isWithin, Cond.static yX5_isWithin, Cond.code yX5_isWithin cX5_isWithin 3 (some .boolean), Cond.methodLink RX5 146 yX1_fact, Cond.instanceMethod yX1_fact, Cond.selects RX1 yX1_fact yX1_fact, Cond.code yX1_fact cX1_fact 3 (some .int), Cond.fieldLink RX1 9 "DrownedPost$Drowned" "height" "[I"]
def wsL_drowned_r2 : List Cond := [Cond.fieldLink RX1 15 "DrownedPost$Drowned" "n" "[I", Cond.fieldLink RX1 18 "DrownedPost$Drowned" "lag" "[I", Cond.fieldLink RX1 21 "DrownedPost$Drowned" "got" "[I", Cond.fieldLink RX1 24 "DrownedPost$Drowned" "written" "[I", Cond.methodLink RX1 31 yX1_has]
def wsL_drowned : List Cond := .codeWith yL_drowned cL_drowned 5 (some .int) [(0, 10, 13, 37)] :: ((wsL_drowned_r1 ++ wsL_drowned_r2) ++ wsX50 ++ wsX30 ++ wsX10 ++ (vx_atS RX5 102 "java/lang/IndexOutOfBoundsException" ["java/lang/RuntimeException", "java/lang/Exception"]).filter goodWord)
def wsL_bin_r1 : List Cond := [Cond.classLink RL 37 "java/lang/IndexOutOfBoundsException", Cond.methodLink RL 48 yX5_bin, Cond.instanceMethod yX5_bin, Cond.selects RX5 yX5_bin yX5_bin, Cond.initialized RX5, Cond.code yX5_bin cX5_bin 3 (some .int), Cond.classLink RX5 98 "java/lang/IndexOutOfBoundsException", Cond.initialized "java/lang/IndexOutOfBoundsException", Cond.fieldLink RX5 10 "DrownedPost" "now" "LDrownedPost$Office;", Cond.fieldLink RX5 60 "DrownedPost$Office" "bins" "LDrownedPost$Bins;", Cond.methodLink RX5 122 yX0_has, Cond.instanceMethod yX0_has, Cond.selects RX0 yX0_has yX0_has, Cond.initialized RX0, Cond.code yX0_has cX0_has 2 (some .boolean), Cond.fieldLink RX0 21 "DrownedPost$Bins" "count" "I", Cond.methodLink RX5 19 yX5_isWithin, Cond.static yX5_isWithin, Cond.code yX5_isWithin cX5_isWithin 3 (some .boolean), Cond.methodLink RX5 149 yX3_binFact, Cond.instanceMethod yX3_binFact, Cond.selects RX3 yX3_binFact yX3_binFact, Cond.initialized RX3, Cond.code yX3_binFact cX3_binFact 3 (some .int)]
def wsL_bin_r2 : List Cond := [Cond.fieldLink RX3 21 "DrownedPost$Office" "bins" "LDrownedPost$Bins;", Cond.fieldLink RX3 179 "DrownedPost$Bins" "height" "[I", Cond.fieldLink RX3 182 "DrownedPost$Bins" "room" "[I", Cond.fieldLink RX3 143 "DrownedPost$Bins" "filled" "[I", Cond.fieldLink RX3 35 "DrownedPost$Office" "letters" "LDrownedPost$Letters;", Cond.methodLink RX3 142 yX0_has, Cond.methodLink RX3 80 yX3_tideNow, Cond.instanceMethod yX3_tideNow, Cond.selects RX3 yX3_tideNow yX3_tideNow, Cond.code yX3_tideNow cX3_tideNow 1 (some .int), Cond.fieldLink RX3 12 "DrownedPost$Office" "tides" "LDrownedPost$Tides;", Cond.fieldLink RX3 67 "DrownedPost$Office" "hour" "I", Cond.methodLink RX3 70 yX4_heightIn, Cond.instanceMethod yX4_heightIn, Cond.selects RX4 yX4_heightIn yX4_heightIn, Cond.initialized RX4, Cond.code yX4_heightIn cX4_heightIn 2 (some .int), Cond.fieldLink RX4 18 "DrownedPost$Tides" "count" "I", Cond.fieldLink RX4 9 "DrownedPost$Tides" "heights" "[I", Cond.methodLink RX4 28 yJ9_floorMod_7cf53, Cond.static yJ9_floorMod_7cf53, Cond.initialized RJ9, Cond.code yJ9_floorMod_7cf53 cJ9_floorMod_7cf53 3 (some .int), Cond.methodLink RX3 113 yX0_isUnder]
def wsL_bin_r3 : List Cond := [Cond.instanceMethod yX0_isUnder, Cond.selects RX0 yX0_isUnder yX0_isUnder, Cond.code yX0_isUnder cX0_isUnder 3 (some .boolean), Cond.fieldLink RX0 9 "DrownedPost$Bins" "height" "[I", Cond.methodLink RX3 185 yX2_growthIn, Cond.instanceMethod yX2_growthIn, Cond.selects RX2 yX2_growthIn yX2_growthIn, Cond.initialized RX2, Cond.code yX2_growthIn cX2_growthIn 4 (some .int), Cond.fieldLink RX2 39 "DrownedPost$Letters" "count" "I", Cond.fieldLink RX2 21 "DrownedPost$Letters" "state" "[I", Cond.fieldLink RX2 27 "DrownedPost$Letters" "bin" "[I", Cond.fieldLink RX2 24 "DrownedPost$Letters" "growth" "[I"]
def wsL_bin : List Cond := .codeWith yL_bin cL_bin 5 (some .int) [(0, 10, 13, 37)] :: ((wsL_bin_r1 ++ (wsL_bin_r2 ++ wsL_bin_r3)) ++ wsX50 ++ wsX30 ++ wsX00 ++ wsX40 ++ wsX20 ++ (vx_atS RX5 102 "java/lang/IndexOutOfBoundsException" ["java/lang/RuntimeException", "java/lang/Exception"]).filter goodWord)
def wsL_pass_r1 : List Cond := [Cond.classLink RL 13 "java/lang/IllegalArgumentException", Cond.methodLink RL 51 yX5_pass, Cond.instanceMethod yX5_pass, Cond.selects RX5 yX5_pass yX5_pass, Cond.initialized RX5, Cond.code yX5_pass cX5_pass 2 (some .int), Cond.classLink RX5 23 "java/lang/IllegalArgumentException", Cond.initialized "java/lang/IllegalArgumentException", Cond.fieldLink RX5 10 "DrownedPost" "now" "LDrownedPost$Office;", Cond.methodLink RX5 19 yX5_isWithin, Cond.static yX5_isWithin, Cond.code yX5_isWithin cX5_isWithin 3 (some .boolean), Cond.methodLink RX5 154 yX3_letGoBy, Cond.instanceMethod yX3_letGoBy, Cond.selects RX3 yX3_letGoBy yX3_letGoBy, Cond.initialized RX3, Cond.code yX3_letGoBy cX3_letGoBy 4 (some .int), Cond.fieldLink RX3 77 "DrownedPost$Office" "sunkCount" "I", Cond.methodLink RX3 74 yX3_liveOneHour, Cond.instanceMethod yX3_liveOneHour, Cond.selects RX3 yX3_liveOneHour yX3_liveOneHour, Cond.code yX3_liveOneHour cX3_liveOneHour 3 none, Cond.fieldLink RX3 35 "DrownedPost$Office" "letters" "LDrownedPost$Letters;", Cond.fieldLink RX3 84 "DrownedPost$Letters" "count" "I"]
def wsL_pass_r2 : List Cond := [Cond.fieldLink RX3 67 "DrownedPost$Office" "hour" "I", Cond.methodLink RX3 80 yX3_tideNow, Cond.instanceMethod yX3_tideNow, Cond.selects RX3 yX3_tideNow yX3_tideNow, Cond.code yX3_tideNow cX3_tideNow 1 (some .int), Cond.fieldLink RX3 12 "DrownedPost$Office" "tides" "LDrownedPost$Tides;", Cond.methodLink RX3 70 yX4_heightIn, Cond.instanceMethod yX4_heightIn, Cond.selects RX4 yX4_heightIn yX4_heightIn, Cond.initialized RX4, Cond.code yX4_heightIn cX4_heightIn 2 (some .int), Cond.fieldLink RX4 18 "DrownedPost$Tides" "count" "I", Cond.fieldLink RX4 9 "DrownedPost$Tides" "heights" "[I", Cond.methodLink RX4 28 yJ9_floorMod_7cf53, Cond.static yJ9_floorMod_7cf53, Cond.initialized RJ9, Cond.code yJ9_floorMod_7cf53 cJ9_floorMod_7cf53 3 (some .int), Cond.methodLink RX3 87 yX3_water, Cond.instanceMethod yX3_water, Cond.selects RX3 yX3_water yX3_water, Cond.code yX3_water cX3_water 3 none, Cond.fieldLink RX3 104 "DrownedPost$Letters" "state" "[I", Cond.methodLink RX3 107 yX3_wash, Cond.instanceMethod yX3_wash]
def wsL_pass_r3 : List Cond := [Cond.selects RX3 yX3_wash yX3_wash, Cond.code yX3_wash cX3_wash 5 none, Cond.fieldLink RX3 21 "DrownedPost$Office" "bins" "LDrownedPost$Bins;", Cond.fieldLink RX3 110 "DrownedPost$Letters" "bin" "[I", Cond.fieldLink RX3 117 "DrownedPost$Letters" "growth" "[I", Cond.fieldLink RX3 120 "DrownedPost$Letters" "weight" "[I", Cond.fieldLink RX3 28 "DrownedPost$Office" "drowned" "LDrownedPost$Drowned;", Cond.fieldLink RX3 123 "DrownedPost$Letters" "to" "[I", Cond.fieldLink RX3 129 "DrownedPost$Letters" "held" "[I", Cond.fieldLink RX3 132 "DrownedPost$Letters" "seal" "[I", Cond.fieldLink RX3 46 "DrownedPost$Office" "sunk" "[I", Cond.methodLink RX3 113 yX0_isUnder, Cond.instanceMethod yX0_isUnder, Cond.selects RX0 yX0_isUnder yX0_isUnder, Cond.initialized RX0, Cond.code yX0_isUnder cX0_isUnder 3 (some .boolean), Cond.fieldLink RX0 21 "DrownedPost$Bins" "count" "I", Cond.fieldLink RX0 9 "DrownedPost$Bins" "height" "[I", Cond.methodLink RX3 126 yX1_heightOf, Cond.instanceMethod yX1_heightOf, Cond.selects RX1 yX1_heightOf yX1_heightOf, Cond.initialized RX1, Cond.code yX1_heightOf cX1_heightOf 2 (some .int), Cond.fieldLink RX1 9 "DrownedPost$Drowned" "height" "[I"]
def wsL_pass_r4 : List Cond := [Cond.methodLink RX1 31 yX1_has, Cond.instanceMethod yX1_has, Cond.selects RX1 yX1_has yX1_has, Cond.code yX1_has cX1_has 2 (some .boolean), Cond.fieldLink RX1 27 "DrownedPost$Drowned" "count" "I", Cond.methodLink RX3 135 yX3_leaveBin, Cond.instanceMethod yX3_leaveBin, Cond.selects RX3 yX3_leaveBin yX3_leaveBin, Cond.code yX3_leaveBin cX3_leaveBin 4 none, Cond.fieldLink RX3 143 "DrownedPost$Bins" "filled" "[I", Cond.methodLink RX3 138 yX2_has, Cond.instanceMethod yX2_has, Cond.selects RX2 yX2_has yX2_has, Cond.initialized RX2, Cond.code yX2_has cX2_has 2 (some .boolean), Cond.fieldLink RX2 39 "DrownedPost$Letters" "count" "I", Cond.methodLink RX3 142 yX0_has, Cond.instanceMethod yX0_has, Cond.selects RX0 yX0_has yX0_has, Cond.code yX0_has cX0_has 2 (some .boolean), Cond.methodLink RX3 91 yX3_writeAnswers, Cond.instanceMethod yX3_writeAnswers, Cond.selects RX3 yX3_writeAnswers yX3_writeAnswers, Cond.code yX3_writeAnswers cX3_writeAnswers 4 none]
def wsL_pass_r5 : List Cond := [Cond.fieldLink RX3 149 "DrownedPost$Drowned" "lag" "[I", Cond.fieldLink RX3 155 "DrownedPost$Drowned" "written" "[I", Cond.methodLink RX3 146 yX1_gets, Cond.instanceMethod yX1_gets, Cond.selects RX1 yX1_gets yX1_gets, Cond.code yX1_gets cX1_gets 2 (some .boolean), Cond.fieldLink RX1 21 "DrownedPost$Drowned" "got" "[I", Cond.fieldLink RX1 15 "DrownedPost$Drowned" "n" "[I", Cond.methodLink RX3 152 yX2_answer, Cond.instanceMethod yX2_answer, Cond.selects RX2 yX2_answer yX2_answer, Cond.code yX2_answer cX2_answer 4 (some .boolean), Cond.fieldLink RX2 9 "DrownedPost$Letters" "to" "[I", Cond.fieldLink RX2 15 "DrownedPost$Letters" "weight" "[I", Cond.fieldLink RX2 18 "DrownedPost$Letters" "seal" "[I", Cond.fieldLink RX2 21 "DrownedPost$Letters" "state" "[I", Cond.fieldLink RX2 33 "DrownedPost$Letters" "hoursBefore" "[I", Cond.fieldLink RX2 36 "DrownedPost$Letters" "answered" "[I", Cond.methodLink RX2 43 yX2_has, Cond.methodLink RX2 47 yX2_append, Cond.instanceMethod yX2_append, Cond.selects RX2 yX2_append yX2_append, Cond.code yX2_append cX2_append 5 (some .int), Cond.fieldLink RX2 24 "DrownedPost$Letters" "growth" "[I"]
def wsL_pass_r6 : List Cond := [Cond.fieldLink RX2 27 "DrownedPost$Letters" "bin" "[I", Cond.fieldLink RX2 30 "DrownedPost$Letters" "held" "[I", Cond.methodLink RX3 94 yX3_bringAnswersNearer, Cond.instanceMethod yX3_bringAnswersNearer, Cond.selects RX3 yX3_bringAnswersNearer yX3_bringAnswersNearer, Cond.code yX3_bringAnswersNearer cX3_bringAnswersNearer 4 none, Cond.fieldLink RX3 158 "DrownedPost$Letters" "hoursBefore" "[I", Cond.methodLink RX3 98 yX3_scrape, Cond.instanceMethod yX3_scrape, Cond.selects RX3 yX3_scrape yX3_scrape, Cond.code yX3_scrape cX3_scrape 4 none, Cond.fieldLink RX3 50 "DrownedPost$Office" "scraped" "[Z", Cond.fieldLink RX3 39 "DrownedPost$Office" "scrapers" "I", Cond.methodLink RX3 164 Lib.Math.max.name, Cond.static Lib.Math.max.name, Cond.initialized "java/lang/Math", Cond.code Lib.Math.max.name Lib.Math.max.code 2 (some .int), Cond.methodLink RX3 161 yX3_mostOvergrown, Cond.instanceMethod yX3_mostOvergrown, Cond.selects RX3 yX3_mostOvergrown yX3_mostOvergrown, Cond.code yX3_mostOvergrown cX3_mostOvergrown 5 (some .int), Cond.methodLink RX3 170 yX3_canBeScraped, Cond.instanceMethod yX3_canBeScraped, Cond.selects RX3 yX3_canBeScraped yX3_canBeScraped]
def wsL_pass_r7 : List Cond := [Cond.code yX3_canBeScraped cX3_canBeScraped 3 (some .boolean), Cond.methodLink RX3 101 yX3_sort, Cond.instanceMethod yX3_sort, Cond.selects RX3 yX3_sort yX3_sort, Cond.code yX3_sort cX3_sort 4 none, Cond.fieldLink RX3 43 "DrownedPost$Office" "sorters" "I", Cond.methodLink RX3 173 yX2_heaviestInOffice, Cond.instanceMethod yX2_heaviestInOffice, Cond.selects RX2 yX2_heaviestInOffice yX2_heaviestInOffice, Cond.code yX2_heaviestInOffice cX2_heaviestInOffice 3 (some .int), Cond.methodLink RX3 176 yX0_nearestWithRoom, Cond.instanceMethod yX0_nearestWithRoom, Cond.selects RX0 yX0_nearestWithRoom yX0_nearestWithRoom, Cond.code yX0_nearestWithRoom cX0_nearestWithRoom 4 (some .int), Cond.fieldLink RX0 18 "DrownedPost$Bins" "filled" "[I", Cond.fieldLink RX0 15 "DrownedPost$Bins" "room" "[I", Cond.methodLink RX0 25 yX0_isNearer, Cond.instanceMethod yX0_isNearer, Cond.selects RX0 yX0_isNearer yX0_isNearer, Cond.code yX0_isNearer cX0_isNearer 6 (some .boolean), Cond.methodLink RX0 29 Lib.Math.abs.name, Cond.static Lib.Math.abs.name, Cond.code Lib.Math.abs.name Lib.Math.abs.code 1 (some .int)]
def wsL_pass : List Cond := .codeWith yL_pass cL_pass 4 (some .int) [(0, 9, 12, 13)] :: ((wsL_pass_r1 ++ (wsL_pass_r2 ++ (wsL_pass_r3 ++ (wsL_pass_r4 ++ (wsL_pass_r5 ++ (wsL_pass_r6 ++ wsL_pass_r7)))))) ++ wsX50 ++ wsX30 ++ wsX20 ++ wsX40 ++ wsX00 ++ wsX10 ++ (vx_atS RX5 27 "java/lang/IllegalArgumentException" ["java/lang/RuntimeException", "java/lang/Exception"]).filter goodWord)
def wsL_count_r1 : List Cond := [Cond.classLink RL 37 "java/lang/IndexOutOfBoundsException", Cond.methodLink RL 54 yX5_count, Cond.instanceMethod yX5_count, Cond.selects RX5 yX5_count yX5_count, Cond.initialized RX5, Cond.code yX5_count cX5_count 2 (some .int), Cond.classLink RX5 98 "java/lang/IndexOutOfBoundsException", Cond.initialized "java/lang/IndexOutOfBoundsException", Cond.fieldLink RX5 10 "DrownedPost" "now" "LDrownedPost$Office;", Cond.methodLink RX5 19 yX5_isWithin, Cond.static yX5_isWithin, Cond.code yX5_isWithin cX5_isWithin 3 (some .boolean), Cond.methodLink RX5 159 yX3_total, Cond.instanceMethod yX3_total, Cond.selects RX3 yX3_total yX3_total, Cond.initialized RX3, Cond.code yX3_total cX3_total 2 (some .int), Cond.fieldLink RX3 67 "DrownedPost$Office" "hour" "I", Cond.fieldLink RX3 21 "DrownedPost$Office" "bins" "LDrownedPost$Bins;", Cond.fieldLink RX3 188 "DrownedPost$Bins" "count" "I", Cond.fieldLink RX3 28 "DrownedPost$Office" "drowned" "LDrownedPost$Drowned;", Cond.fieldLink RX3 189 "DrownedPost$Drowned" "count" "I", Cond.fieldLink RX3 35 "DrownedPost$Office" "letters" "LDrownedPost$Letters;", Cond.fieldLink RX3 84 "DrownedPost$Letters" "count" "I"]
def wsL_count_r2 : List Cond := [Cond.fieldLink RX3 12 "DrownedPost$Office" "tides" "LDrownedPost$Tides;", Cond.fieldLink RX3 190 "DrownedPost$Tides" "count" "I", Cond.fieldLink RX3 39 "DrownedPost$Office" "scrapers" "I", Cond.fieldLink RX3 43 "DrownedPost$Office" "sorters" "I", Cond.methodLink RX3 191 yX2_inState, Cond.instanceMethod yX2_inState, Cond.selects RX2 yX2_inState yX2_inState, Cond.initialized RX2, Cond.code yX2_inState cX2_inState 4 (some .int), Cond.fieldLink RX2 39 "DrownedPost$Letters" "count" "I", Cond.fieldLink RX2 21 "DrownedPost$Letters" "state" "[I"]
def wsL_count : List Cond := .codeWith yL_count cL_count 4 (some .int) [(0, 9, 12, 37)] :: ((wsL_count_r1 ++ wsL_count_r2) ++ wsX50 ++ wsX30 ++ wsX00 ++ wsX10 ++ wsX20 ++ wsX40 ++ (vx_atS RX5 102 "java/lang/IndexOutOfBoundsException" ["java/lang/RuntimeException", "java/lang/Exception"]).filter goodWord)
def wsL_binFor_r1 : List Cond := [Cond.classLink RL 37 "java/lang/IndexOutOfBoundsException", Cond.methodLink RL 57 yX5_binFor, Cond.instanceMethod yX5_binFor, Cond.selects RX5 yX5_binFor yX5_binFor, Cond.initialized RX5, Cond.code yX5_binFor cX5_binFor 2 (some .int), Cond.classLink RX5 98 "java/lang/IndexOutOfBoundsException", Cond.initialized "java/lang/IndexOutOfBoundsException", Cond.fieldLink RX5 10 "DrownedPost" "now" "LDrownedPost$Office;", Cond.fieldLink RX5 82 "DrownedPost$Office" "drowned" "LDrownedPost$Drowned;", Cond.fieldLink RX5 60 "DrownedPost$Office" "bins" "LDrownedPost$Bins;", Cond.methodLink RX5 94 yX1_has, Cond.instanceMethod yX1_has, Cond.selects RX1 yX1_has yX1_has, Cond.initialized RX1, Cond.code yX1_has cX1_has 2 (some .boolean), Cond.fieldLink RX1 27 "DrownedPost$Drowned" "count" "I", Cond.methodLink RX5 162 yX1_heightOf, Cond.instanceMethod yX1_heightOf, Cond.selects RX1 yX1_heightOf yX1_heightOf, Cond.code yX1_heightOf cX1_heightOf 2 (some .int), Cond.fieldLink RX1 9 "DrownedPost$Drowned" "height" "[I", Cond.methodLink RX1 31 yX1_has, Cond.methodLink RX5 165 yX0_nearestWithRoom]
def wsL_binFor_r2 : List Cond := [Cond.instanceMethod yX0_nearestWithRoom, Cond.selects RX0 yX0_nearestWithRoom yX0_nearestWithRoom, Cond.initialized RX0, Cond.code yX0_nearestWithRoom cX0_nearestWithRoom 4 (some .int), Cond.fieldLink RX0 21 "DrownedPost$Bins" "count" "I", Cond.fieldLink RX0 18 "DrownedPost$Bins" "filled" "[I", Cond.fieldLink RX0 15 "DrownedPost$Bins" "room" "[I", Cond.methodLink RX0 25 yX0_isNearer, Cond.instanceMethod yX0_isNearer, Cond.selects RX0 yX0_isNearer yX0_isNearer, Cond.code yX0_isNearer cX0_isNearer 6 (some .boolean), Cond.fieldLink RX0 9 "DrownedPost$Bins" "height" "[I", Cond.methodLink RX0 29 Lib.Math.abs.name, Cond.static Lib.Math.abs.name, Cond.initialized "java/lang/Math", Cond.code Lib.Math.abs.name Lib.Math.abs.code 1 (some .int)]
def wsL_binFor : List Cond := .codeWith yL_binFor cL_binFor 4 (some .int) [(0, 9, 12, 37)] :: ((wsL_binFor_r1 ++ wsL_binFor_r2) ++ wsX50 ++ wsX30 ++ wsX10 ++ wsX00 ++ (vx_atS RX5 102 "java/lang/IndexOutOfBoundsException" ["java/lang/RuntimeException", "java/lang/Exception"]).filter goodWord)
def wsL_foresee_r1 : List Cond := [Cond.classLink RL 13 "java/lang/IllegalArgumentException", Cond.classLink RL 37 "java/lang/IndexOutOfBoundsException", Cond.methodLink RL 60 yX5_foresee, Cond.instanceMethod yX5_foresee, Cond.selects RX5 yX5_foresee yX5_foresee, Cond.initialized RX5, Cond.code yX5_foresee cX5_foresee 4 (some .int), Cond.classLink RX5 23 "java/lang/IllegalArgumentException", Cond.initialized "java/lang/IllegalArgumentException", Cond.classLink RX5 98 "java/lang/IndexOutOfBoundsException", Cond.initialized "java/lang/IndexOutOfBoundsException", Cond.fieldLink RX5 16 "DrownedPost" "ahead" "LDrownedPost$Office;", Cond.fieldLink RX5 10 "DrownedPost" "now" "LDrownedPost$Office;", Cond.fieldLink RX5 105 "DrownedPost$Office" "letters" "LDrownedPost$Letters;", Cond.methodLink RX5 19 yX5_isWithin, Cond.static yX5_isWithin, Cond.code yX5_isWithin cX5_isWithin 3 (some .boolean), Cond.methodLink RX5 172 yX3_copyFrom, Cond.instanceMethod yX3_copyFrom, Cond.selects RX3 yX3_copyFrom yX3_copyFrom, Cond.initialized RX3, Cond.code yX3_copyFrom cX3_copyFrom 2 none, Cond.fieldLink RX3 12 "DrownedPost$Office" "tides" "LDrownedPost$Tides;", Cond.fieldLink RX3 21 "DrownedPost$Office" "bins" "LDrownedPost$Bins;"]
def wsL_foresee_r2 : List Cond := [Cond.fieldLink RX3 28 "DrownedPost$Office" "drowned" "LDrownedPost$Drowned;", Cond.fieldLink RX3 35 "DrownedPost$Office" "letters" "LDrownedPost$Letters;", Cond.fieldLink RX3 67 "DrownedPost$Office" "hour" "I", Cond.fieldLink RX3 39 "DrownedPost$Office" "scrapers" "I", Cond.fieldLink RX3 43 "DrownedPost$Office" "sorters" "I", Cond.methodLink RX3 54 yX4_copyFrom, Cond.instanceMethod yX4_copyFrom, Cond.selects RX4 yX4_copyFrom yX4_copyFrom, Cond.initialized RX4, Cond.code yX4_copyFrom cX4_copyFrom 2 none, Cond.fieldLink RX4 18 "DrownedPost$Tides" "count" "I", Cond.fieldLink RX4 9 "DrownedPost$Tides" "heights" "[I", Cond.methodLink RX4 22 arraycopyName, Cond.native arraycopyName, Cond.static arraycopyName, Cond.initialized "java/lang/System", Cond.methodLink RX3 58 yX0_copyFrom, Cond.instanceMethod yX0_copyFrom, Cond.selects RX0 yX0_copyFrom yX0_copyFrom, Cond.initialized RX0, Cond.code yX0_copyFrom cX0_copyFrom 2 none, Cond.fieldLink RX0 21 "DrownedPost$Bins" "count" "I", Cond.fieldLink RX0 9 "DrownedPost$Bins" "height" "[I", Cond.methodLink RX0 35 arraycopyName]
def wsL_foresee_r3 : List Cond := [Cond.fieldLink RX0 15 "DrownedPost$Bins" "room" "[I", Cond.fieldLink RX0 18 "DrownedPost$Bins" "filled" "[I", Cond.methodLink RX3 61 yX1_copyFrom, Cond.instanceMethod yX1_copyFrom, Cond.selects RX1 yX1_copyFrom yX1_copyFrom, Cond.initialized RX1, Cond.code yX1_copyFrom cX1_copyFrom 2 none, Cond.fieldLink RX1 27 "DrownedPost$Drowned" "count" "I", Cond.fieldLink RX1 9 "DrownedPost$Drowned" "height" "[I", Cond.methodLink RX1 41 arraycopyName, Cond.fieldLink RX1 15 "DrownedPost$Drowned" "n" "[I", Cond.fieldLink RX1 18 "DrownedPost$Drowned" "lag" "[I", Cond.fieldLink RX1 21 "DrownedPost$Drowned" "got" "[I", Cond.fieldLink RX1 24 "DrownedPost$Drowned" "written" "[I", Cond.methodLink RX3 64 yX2_copyFrom, Cond.instanceMethod yX2_copyFrom, Cond.selects RX2 yX2_copyFrom yX2_copyFrom, Cond.initialized RX2, Cond.code yX2_copyFrom cX2_copyFrom 2 none, Cond.fieldLink RX2 39 "DrownedPost$Letters" "count" "I", Cond.fieldLink RX2 9 "DrownedPost$Letters" "to" "[I", Cond.methodLink RX2 57 arraycopyName, Cond.fieldLink RX2 15 "DrownedPost$Letters" "weight" "[I", Cond.fieldLink RX2 18 "DrownedPost$Letters" "seal" "[I"]
def wsL_foresee_r4 : List Cond := [Cond.fieldLink RX2 21 "DrownedPost$Letters" "state" "[I", Cond.fieldLink RX2 24 "DrownedPost$Letters" "growth" "[I", Cond.fieldLink RX2 27 "DrownedPost$Letters" "bin" "[I", Cond.fieldLink RX2 30 "DrownedPost$Letters" "held" "[I", Cond.fieldLink RX2 33 "DrownedPost$Letters" "hoursBefore" "[I", Cond.fieldLink RX2 36 "DrownedPost$Letters" "answered" "[I", Cond.methodLink RX5 154 yX3_letGoBy, Cond.instanceMethod yX3_letGoBy, Cond.selects RX3 yX3_letGoBy yX3_letGoBy, Cond.code yX3_letGoBy cX3_letGoBy 4 (some .int), Cond.fieldLink RX3 77 "DrownedPost$Office" "sunkCount" "I", Cond.methodLink RX3 74 yX3_liveOneHour, Cond.instanceMethod yX3_liveOneHour, Cond.selects RX3 yX3_liveOneHour yX3_liveOneHour, Cond.code yX3_liveOneHour cX3_liveOneHour 3 none, Cond.fieldLink RX3 84 "DrownedPost$Letters" "count" "I", Cond.methodLink RX3 80 yX3_tideNow, Cond.instanceMethod yX3_tideNow, Cond.selects RX3 yX3_tideNow yX3_tideNow, Cond.code yX3_tideNow cX3_tideNow 1 (some .int), Cond.methodLink RX3 70 yX4_heightIn, Cond.instanceMethod yX4_heightIn, Cond.selects RX4 yX4_heightIn yX4_heightIn, Cond.code yX4_heightIn cX4_heightIn 2 (some .int)]
def wsL_foresee_r5 : List Cond := [Cond.methodLink RX4 28 yJ9_floorMod_7cf53, Cond.static yJ9_floorMod_7cf53, Cond.initialized RJ9, Cond.code yJ9_floorMod_7cf53 cJ9_floorMod_7cf53 3 (some .int), Cond.methodLink RX3 87 yX3_water, Cond.instanceMethod yX3_water, Cond.selects RX3 yX3_water yX3_water, Cond.code yX3_water cX3_water 3 none, Cond.fieldLink RX3 104 "DrownedPost$Letters" "state" "[I", Cond.methodLink RX3 107 yX3_wash, Cond.instanceMethod yX3_wash, Cond.selects RX3 yX3_wash yX3_wash, Cond.code yX3_wash cX3_wash 5 none, Cond.fieldLink RX3 110 "DrownedPost$Letters" "bin" "[I", Cond.fieldLink RX3 117 "DrownedPost$Letters" "growth" "[I", Cond.fieldLink RX3 120 "DrownedPost$Letters" "weight" "[I", Cond.fieldLink RX3 123 "DrownedPost$Letters" "to" "[I", Cond.fieldLink RX3 129 "DrownedPost$Letters" "held" "[I", Cond.fieldLink RX3 132 "DrownedPost$Letters" "seal" "[I", Cond.fieldLink RX3 46 "DrownedPost$Office" "sunk" "[I", Cond.methodLink RX3 113 yX0_isUnder, Cond.instanceMethod yX0_isUnder, Cond.selects RX0 yX0_isUnder yX0_isUnder, Cond.code yX0_isUnder cX0_isUnder 3 (some .boolean)]
def wsL_foresee_r6 : List Cond := [Cond.methodLink RX3 126 yX1_heightOf, Cond.instanceMethod yX1_heightOf, Cond.selects RX1 yX1_heightOf yX1_heightOf, Cond.code yX1_heightOf cX1_heightOf 2 (some .int), Cond.methodLink RX1 31 yX1_has, Cond.instanceMethod yX1_has, Cond.selects RX1 yX1_has yX1_has, Cond.code yX1_has cX1_has 2 (some .boolean), Cond.methodLink RX3 135 yX3_leaveBin, Cond.instanceMethod yX3_leaveBin, Cond.selects RX3 yX3_leaveBin yX3_leaveBin, Cond.code yX3_leaveBin cX3_leaveBin 4 none, Cond.fieldLink RX3 143 "DrownedPost$Bins" "filled" "[I", Cond.methodLink RX3 138 yX2_has, Cond.instanceMethod yX2_has, Cond.selects RX2 yX2_has yX2_has, Cond.code yX2_has cX2_has 2 (some .boolean), Cond.methodLink RX3 142 yX0_has, Cond.instanceMethod yX0_has, Cond.selects RX0 yX0_has yX0_has, Cond.code yX0_has cX0_has 2 (some .boolean), Cond.methodLink RX3 91 yX3_writeAnswers, Cond.instanceMethod yX3_writeAnswers, Cond.selects RX3 yX3_writeAnswers yX3_writeAnswers]
def wsL_foresee_r7 : List Cond := [Cond.code yX3_writeAnswers cX3_writeAnswers 4 none, Cond.fieldLink RX3 149 "DrownedPost$Drowned" "lag" "[I", Cond.fieldLink RX3 155 "DrownedPost$Drowned" "written" "[I", Cond.methodLink RX3 146 yX1_gets, Cond.instanceMethod yX1_gets, Cond.selects RX1 yX1_gets yX1_gets, Cond.code yX1_gets cX1_gets 2 (some .boolean), Cond.methodLink RX3 152 yX2_answer, Cond.instanceMethod yX2_answer, Cond.selects RX2 yX2_answer yX2_answer, Cond.code yX2_answer cX2_answer 4 (some .boolean), Cond.methodLink RX2 43 yX2_has, Cond.methodLink RX2 47 yX2_append, Cond.instanceMethod yX2_append, Cond.selects RX2 yX2_append yX2_append, Cond.code yX2_append cX2_append 5 (some .int), Cond.methodLink RX3 94 yX3_bringAnswersNearer, Cond.instanceMethod yX3_bringAnswersNearer, Cond.selects RX3 yX3_bringAnswersNearer yX3_bringAnswersNearer, Cond.code yX3_bringAnswersNearer cX3_bringAnswersNearer 4 none, Cond.fieldLink RX3 158 "DrownedPost$Letters" "hoursBefore" "[I", Cond.methodLink RX3 98 yX3_scrape, Cond.instanceMethod yX3_scrape, Cond.selects RX3 yX3_scrape yX3_scrape]
def wsL_foresee_r8 : List Cond := [Cond.code yX3_scrape cX3_scrape 4 none, Cond.fieldLink RX3 50 "DrownedPost$Office" "scraped" "[Z", Cond.methodLink RX3 164 Lib.Math.max.name, Cond.static Lib.Math.max.name, Cond.initialized "java/lang/Math", Cond.code Lib.Math.max.name Lib.Math.max.code 2 (some .int), Cond.methodLink RX3 161 yX3_mostOvergrown, Cond.instanceMethod yX3_mostOvergrown, Cond.selects RX3 yX3_mostOvergrown yX3_mostOvergrown, Cond.code yX3_mostOvergrown cX3_mostOvergrown 5 (some .int), Cond.methodLink RX3 170 yX3_canBeScraped, Cond.instanceMethod yX3_canBeScraped, Cond.selects RX3 yX3_canBeScraped yX3_canBeScraped, Cond.code yX3_canBeScraped cX3_canBeScraped 3 (some .boolean), Cond.methodLink RX3 101 yX3_sort, Cond.instanceMethod yX3_sort, Cond.selects RX3 yX3_sort yX3_sort, Cond.code yX3_sort cX3_sort 4 none, Cond.methodLink RX3 173 yX2_heaviestInOffice, Cond.instanceMethod yX2_heaviestInOffice, Cond.selects RX2 yX2_heaviestInOffice yX2_heaviestInOffice, Cond.code yX2_heaviestInOffice cX2_heaviestInOffice 3 (some .int), Cond.methodLink RX3 176 yX0_nearestWithRoom, Cond.instanceMethod yX0_nearestWithRoom]
def wsL_foresee_r9 : List Cond := [Cond.selects RX0 yX0_nearestWithRoom yX0_nearestWithRoom, Cond.code yX0_nearestWithRoom cX0_nearestWithRoom 4 (some .int), Cond.methodLink RX0 25 yX0_isNearer, Cond.instanceMethod yX0_isNearer, Cond.selects RX0 yX0_isNearer yX0_isNearer, Cond.code yX0_isNearer cX0_isNearer 6 (some .boolean), Cond.methodLink RX0 29 Lib.Math.abs.name, Cond.static Lib.Math.abs.name, Cond.code Lib.Math.abs.name Lib.Math.abs.code 1 (some .int), Cond.methodLink RX5 176 yX2_inState, Cond.instanceMethod yX2_inState, Cond.selects RX2 yX2_inState yX2_inState, Cond.code yX2_inState cX2_inState 4 (some .int)]
def wsL_foresee : List Cond := .codeWith yL_foresee cL_foresee 5 (some .int) [(0, 10, 13, 13), (0, 10, 17, 37)] :: ((wsL_foresee_r1 ++ (wsL_foresee_r2 ++ (wsL_foresee_r3 ++ (wsL_foresee_r4 ++ (wsL_foresee_r5 ++ (wsL_foresee_r6 ++ (wsL_foresee_r7 ++ (wsL_foresee_r8 ++ wsL_foresee_r9)))))))) ++ wsX50 ++ wsX30 ++ wsX40 ++ wsX00 ++ wsX10 ++ wsX20 ++ (vx_atS RX5 27 "java/lang/IllegalArgumentException" ["java/lang/RuntimeException", "java/lang/Exception"]).filter goodWord ++ (vx_atS RX5 102 "java/lang/IndexOutOfBoundsException" ["java/lang/RuntimeException", "java/lang/Exception"]).filter goodWord)
def wsL_fate_r1 : List Cond := [Cond.classLink RL 37 "java/lang/IndexOutOfBoundsException", Cond.classLink RL 13 "java/lang/IllegalArgumentException", Cond.methodLink RL 63 yX5_fate, Cond.instanceMethod yX5_fate, Cond.selects RX5 yX5_fate yX5_fate, Cond.initialized RX5, Cond.code yX5_fate cX5_fate 3 (some .int), Cond.classLink RX5 98 "java/lang/IndexOutOfBoundsException", Cond.initialized "java/lang/IndexOutOfBoundsException", Cond.classLink RX5 23 "java/lang/IllegalArgumentException", Cond.initialized "java/lang/IllegalArgumentException", Cond.fieldLink RX5 10 "DrownedPost" "now" "LDrownedPost$Office;", Cond.fieldLink RX5 105 "DrownedPost$Office" "letters" "LDrownedPost$Letters;", Cond.fieldLink RX5 16 "DrownedPost" "ahead" "LDrownedPost$Office;", Cond.fieldLink RX5 179 "DrownedPost$Letters" "state" "[I", Cond.methodLink RX5 115 yX2_has, Cond.instanceMethod yX2_has, Cond.selects RX2 yX2_has yX2_has, Cond.initialized RX2, Cond.code yX2_has cX2_has 2 (some .boolean), Cond.fieldLink RX2 39 "DrownedPost$Letters" "count" "I", Cond.methodLink RX5 19 yX5_isWithin, Cond.static yX5_isWithin, Cond.code yX5_isWithin cX5_isWithin 3 (some .boolean)]
def wsL_fate_r2 : List Cond := [Cond.methodLink RX5 172 yX3_copyFrom, Cond.instanceMethod yX3_copyFrom, Cond.selects RX3 yX3_copyFrom yX3_copyFrom, Cond.initialized RX3, Cond.code yX3_copyFrom cX3_copyFrom 2 none, Cond.fieldLink RX3 12 "DrownedPost$Office" "tides" "LDrownedPost$Tides;", Cond.fieldLink RX3 21 "DrownedPost$Office" "bins" "LDrownedPost$Bins;", Cond.fieldLink RX3 28 "DrownedPost$Office" "drowned" "LDrownedPost$Drowned;", Cond.fieldLink RX3 35 "DrownedPost$Office" "letters" "LDrownedPost$Letters;", Cond.fieldLink RX3 67 "DrownedPost$Office" "hour" "I", Cond.fieldLink RX3 39 "DrownedPost$Office" "scrapers" "I", Cond.fieldLink RX3 43 "DrownedPost$Office" "sorters" "I", Cond.methodLink RX3 54 yX4_copyFrom, Cond.instanceMethod yX4_copyFrom, Cond.selects RX4 yX4_copyFrom yX4_copyFrom, Cond.initialized RX4, Cond.code yX4_copyFrom cX4_copyFrom 2 none, Cond.fieldLink RX4 18 "DrownedPost$Tides" "count" "I", Cond.fieldLink RX4 9 "DrownedPost$Tides" "heights" "[I", Cond.methodLink RX4 22 arraycopyName, Cond.native arraycopyName, Cond.static arraycopyName, Cond.initialized "java/lang/System", Cond.methodLink RX3 58 yX0_copyFrom]
def wsL_fate_r3 : List Cond := [Cond.instanceMethod yX0_copyFrom, Cond.selects RX0 yX0_copyFrom yX0_copyFrom, Cond.initialized RX0, Cond.code yX0_copyFrom cX0_copyFrom 2 none, Cond.fieldLink RX0 21 "DrownedPost$Bins" "count" "I", Cond.fieldLink RX0 9 "DrownedPost$Bins" "height" "[I", Cond.methodLink RX0 35 arraycopyName, Cond.fieldLink RX0 15 "DrownedPost$Bins" "room" "[I", Cond.fieldLink RX0 18 "DrownedPost$Bins" "filled" "[I", Cond.methodLink RX3 61 yX1_copyFrom, Cond.instanceMethod yX1_copyFrom, Cond.selects RX1 yX1_copyFrom yX1_copyFrom, Cond.initialized RX1, Cond.code yX1_copyFrom cX1_copyFrom 2 none, Cond.fieldLink RX1 27 "DrownedPost$Drowned" "count" "I", Cond.fieldLink RX1 9 "DrownedPost$Drowned" "height" "[I", Cond.methodLink RX1 41 arraycopyName, Cond.fieldLink RX1 15 "DrownedPost$Drowned" "n" "[I", Cond.fieldLink RX1 18 "DrownedPost$Drowned" "lag" "[I", Cond.fieldLink RX1 21 "DrownedPost$Drowned" "got" "[I", Cond.fieldLink RX1 24 "DrownedPost$Drowned" "written" "[I", Cond.methodLink RX3 64 yX2_copyFrom, Cond.instanceMethod yX2_copyFrom, Cond.selects RX2 yX2_copyFrom yX2_copyFrom]
def wsL_fate_r4 : List Cond := [Cond.code yX2_copyFrom cX2_copyFrom 2 none, Cond.fieldLink RX2 9 "DrownedPost$Letters" "to" "[I", Cond.methodLink RX2 57 arraycopyName, Cond.fieldLink RX2 15 "DrownedPost$Letters" "weight" "[I", Cond.fieldLink RX2 18 "DrownedPost$Letters" "seal" "[I", Cond.fieldLink RX2 21 "DrownedPost$Letters" "state" "[I", Cond.fieldLink RX2 24 "DrownedPost$Letters" "growth" "[I", Cond.fieldLink RX2 27 "DrownedPost$Letters" "bin" "[I", Cond.fieldLink RX2 30 "DrownedPost$Letters" "held" "[I", Cond.fieldLink RX2 33 "DrownedPost$Letters" "hoursBefore" "[I", Cond.fieldLink RX2 36 "DrownedPost$Letters" "answered" "[I", Cond.methodLink RX5 154 yX3_letGoBy, Cond.instanceMethod yX3_letGoBy, Cond.selects RX3 yX3_letGoBy yX3_letGoBy, Cond.code yX3_letGoBy cX3_letGoBy 4 (some .int), Cond.fieldLink RX3 77 "DrownedPost$Office" "sunkCount" "I", Cond.methodLink RX3 74 yX3_liveOneHour, Cond.instanceMethod yX3_liveOneHour, Cond.selects RX3 yX3_liveOneHour yX3_liveOneHour, Cond.code yX3_liveOneHour cX3_liveOneHour 3 none, Cond.fieldLink RX3 84 "DrownedPost$Letters" "count" "I", Cond.methodLink RX3 80 yX3_tideNow, Cond.instanceMethod yX3_tideNow, Cond.selects RX3 yX3_tideNow yX3_tideNow]
def wsL_fate_r5 : List Cond := [Cond.code yX3_tideNow cX3_tideNow 1 (some .int), Cond.methodLink RX3 70 yX4_heightIn, Cond.instanceMethod yX4_heightIn, Cond.selects RX4 yX4_heightIn yX4_heightIn, Cond.code yX4_heightIn cX4_heightIn 2 (some .int), Cond.methodLink RX4 28 yJ9_floorMod_7cf53, Cond.static yJ9_floorMod_7cf53, Cond.initialized RJ9, Cond.code yJ9_floorMod_7cf53 cJ9_floorMod_7cf53 3 (some .int), Cond.methodLink RX3 87 yX3_water, Cond.instanceMethod yX3_water, Cond.selects RX3 yX3_water yX3_water, Cond.code yX3_water cX3_water 3 none, Cond.fieldLink RX3 104 "DrownedPost$Letters" "state" "[I", Cond.methodLink RX3 107 yX3_wash, Cond.instanceMethod yX3_wash, Cond.selects RX3 yX3_wash yX3_wash, Cond.code yX3_wash cX3_wash 5 none, Cond.fieldLink RX3 110 "DrownedPost$Letters" "bin" "[I", Cond.fieldLink RX3 117 "DrownedPost$Letters" "growth" "[I", Cond.fieldLink RX3 120 "DrownedPost$Letters" "weight" "[I", Cond.fieldLink RX3 123 "DrownedPost$Letters" "to" "[I", Cond.fieldLink RX3 129 "DrownedPost$Letters" "held" "[I", Cond.fieldLink RX3 132 "DrownedPost$Letters" "seal" "[I"]
def wsL_fate_r6 : List Cond := [Cond.fieldLink RX3 46 "DrownedPost$Office" "sunk" "[I", Cond.methodLink RX3 113 yX0_isUnder, Cond.instanceMethod yX0_isUnder, Cond.selects RX0 yX0_isUnder yX0_isUnder, Cond.code yX0_isUnder cX0_isUnder 3 (some .boolean), Cond.methodLink RX3 126 yX1_heightOf, Cond.instanceMethod yX1_heightOf, Cond.selects RX1 yX1_heightOf yX1_heightOf, Cond.code yX1_heightOf cX1_heightOf 2 (some .int), Cond.methodLink RX1 31 yX1_has, Cond.instanceMethod yX1_has, Cond.selects RX1 yX1_has yX1_has, Cond.code yX1_has cX1_has 2 (some .boolean), Cond.methodLink RX3 135 yX3_leaveBin, Cond.instanceMethod yX3_leaveBin, Cond.selects RX3 yX3_leaveBin yX3_leaveBin, Cond.code yX3_leaveBin cX3_leaveBin 4 none, Cond.fieldLink RX3 143 "DrownedPost$Bins" "filled" "[I", Cond.methodLink RX3 138 yX2_has, Cond.methodLink RX3 142 yX0_has, Cond.instanceMethod yX0_has, Cond.selects RX0 yX0_has yX0_has, Cond.code yX0_has cX0_has 2 (some .boolean), Cond.methodLink RX3 91 yX3_writeAnswers]
def wsL_fate_r7 : List Cond := [Cond.instanceMethod yX3_writeAnswers, Cond.selects RX3 yX3_writeAnswers yX3_writeAnswers, Cond.code yX3_writeAnswers cX3_writeAnswers 4 none, Cond.fieldLink RX3 149 "DrownedPost$Drowned" "lag" "[I", Cond.fieldLink RX3 155 "DrownedPost$Drowned" "written" "[I", Cond.methodLink RX3 146 yX1_gets, Cond.instanceMethod yX1_gets, Cond.selects RX1 yX1_gets yX1_gets, Cond.code yX1_gets cX1_gets 2 (some .boolean), Cond.methodLink RX3 152 yX2_answer, Cond.instanceMethod yX2_answer, Cond.selects RX2 yX2_answer yX2_answer, Cond.code yX2_answer cX2_answer 4 (some .boolean), Cond.methodLink RX2 43 yX2_has, Cond.methodLink RX2 47 yX2_append, Cond.instanceMethod yX2_append, Cond.selects RX2 yX2_append yX2_append, Cond.code yX2_append cX2_append 5 (some .int), Cond.methodLink RX3 94 yX3_bringAnswersNearer, Cond.instanceMethod yX3_bringAnswersNearer, Cond.selects RX3 yX3_bringAnswersNearer yX3_bringAnswersNearer, Cond.code yX3_bringAnswersNearer cX3_bringAnswersNearer 4 none, Cond.fieldLink RX3 158 "DrownedPost$Letters" "hoursBefore" "[I", Cond.methodLink RX3 98 yX3_scrape]
def wsL_fate_r8 : List Cond := [Cond.instanceMethod yX3_scrape, Cond.selects RX3 yX3_scrape yX3_scrape, Cond.code yX3_scrape cX3_scrape 4 none, Cond.fieldLink RX3 50 "DrownedPost$Office" "scraped" "[Z", Cond.methodLink RX3 164 Lib.Math.max.name, Cond.static Lib.Math.max.name, Cond.initialized "java/lang/Math", Cond.code Lib.Math.max.name Lib.Math.max.code 2 (some .int), Cond.methodLink RX3 161 yX3_mostOvergrown, Cond.instanceMethod yX3_mostOvergrown, Cond.selects RX3 yX3_mostOvergrown yX3_mostOvergrown, Cond.code yX3_mostOvergrown cX3_mostOvergrown 5 (some .int), Cond.methodLink RX3 170 yX3_canBeScraped, Cond.instanceMethod yX3_canBeScraped, Cond.selects RX3 yX3_canBeScraped yX3_canBeScraped, Cond.code yX3_canBeScraped cX3_canBeScraped 3 (some .boolean), Cond.methodLink RX3 101 yX3_sort, Cond.instanceMethod yX3_sort, Cond.selects RX3 yX3_sort yX3_sort, Cond.code yX3_sort cX3_sort 4 none, Cond.methodLink RX3 173 yX2_heaviestInOffice, Cond.instanceMethod yX2_heaviestInOffice, Cond.selects RX2 yX2_heaviestInOffice yX2_heaviestInOffice, Cond.code yX2_heaviestInOffice cX2_heaviestInOffice 3 (some .int)]
def wsL_fate_r9 : List Cond := [Cond.methodLink RX3 176 yX0_nearestWithRoom, Cond.instanceMethod yX0_nearestWithRoom, Cond.selects RX0 yX0_nearestWithRoom yX0_nearestWithRoom, Cond.code yX0_nearestWithRoom cX0_nearestWithRoom 4 (some .int), Cond.methodLink RX0 25 yX0_isNearer, Cond.instanceMethod yX0_isNearer, Cond.selects RX0 yX0_isNearer yX0_isNearer, Cond.code yX0_isNearer cX0_isNearer 6 (some .boolean), Cond.methodLink RX0 29 Lib.Math.abs.name, Cond.static Lib.Math.abs.name, Cond.code Lib.Math.abs.name Lib.Math.abs.code 1 (some .int)]
def wsL_fate : List Cond := .codeWith yL_fate cL_fate 5 (some .int) [(0, 10, 13, 37), (0, 10, 17, 13)] :: ((wsL_fate_r1 ++ (wsL_fate_r2 ++ (wsL_fate_r3 ++ (wsL_fate_r4 ++ (wsL_fate_r5 ++ (wsL_fate_r6 ++ (wsL_fate_r7 ++ (wsL_fate_r8 ++ wsL_fate_r9)))))))) ++ wsX50 ++ wsX30 ++ wsX20 ++ wsX40 ++ wsX00 ++ wsX10 ++ (vx_atS RX5 102 "java/lang/IndexOutOfBoundsException" ["java/lang/RuntimeException", "java/lang/Exception"]).filter goodWord ++ (vx_atS RX5 27 "java/lang/IllegalArgumentException" ["java/lang/RuntimeException", "java/lang/Exception"]).filter goodWord)
def wsL_reaches_r1 : List Cond := [Cond.classLink RL 37 "java/lang/IndexOutOfBoundsException", Cond.methodLink RL 66 yX5_reaches, Cond.instanceMethod yX5_reaches, Cond.selects RX5 yX5_reaches yX5_reaches, Cond.initialized RX5, Cond.code yX5_reaches cX5_reaches 3 (some .int), Cond.classLink RX5 98 "java/lang/IndexOutOfBoundsException", Cond.initialized "java/lang/IndexOutOfBoundsException", Cond.fieldLink RX5 10 "DrownedPost" "now" "LDrownedPost$Office;", Cond.fieldLink RX5 82 "DrownedPost$Office" "drowned" "LDrownedPost$Drowned;", Cond.fieldLink RX5 60 "DrownedPost$Office" "bins" "LDrownedPost$Bins;", Cond.methodLink RX5 94 yX1_has, Cond.instanceMethod yX1_has, Cond.selects RX1 yX1_has yX1_has, Cond.initialized RX1, Cond.code yX1_has cX1_has 2 (some .boolean), Cond.fieldLink RX1 27 "DrownedPost$Drowned" "count" "I", Cond.methodLink RX5 122 yX0_has, Cond.instanceMethod yX0_has, Cond.selects RX0 yX0_has yX0_has, Cond.initialized RX0, Cond.code yX0_has cX0_has 2 (some .boolean), Cond.fieldLink RX0 21 "DrownedPost$Bins" "count" "I", Cond.methodLink RX5 162 yX1_heightOf]
def wsL_reaches_r2 : List Cond := [Cond.instanceMethod yX1_heightOf, Cond.selects RX1 yX1_heightOf yX1_heightOf, Cond.code yX1_heightOf cX1_heightOf 2 (some .int), Cond.fieldLink RX1 9 "DrownedPost$Drowned" "height" "[I", Cond.methodLink RX1 31 yX1_has, Cond.methodLink RX5 184 yX3_hourOfReach, Cond.instanceMethod yX3_hourOfReach, Cond.selects RX3 yX3_hourOfReach yX3_hourOfReach, Cond.initialized RX3, Cond.code yX3_hourOfReach cX3_hourOfReach 6 (some .int), Cond.fieldLink RX3 12 "DrownedPost$Office" "tides" "LDrownedPost$Tides;", Cond.fieldLink RX3 67 "DrownedPost$Office" "hour" "I", Cond.fieldLink RX3 21 "DrownedPost$Office" "bins" "LDrownedPost$Bins;", Cond.methodLink RX3 70 yX4_heightIn, Cond.instanceMethod yX4_heightIn, Cond.selects RX4 yX4_heightIn yX4_heightIn, Cond.initialized RX4, Cond.code yX4_heightIn cX4_heightIn 2 (some .int), Cond.fieldLink RX4 18 "DrownedPost$Tides" "count" "I", Cond.fieldLink RX4 9 "DrownedPost$Tides" "heights" "[I", Cond.methodLink RX4 28 yJ9_floorMod_7cf53, Cond.static yJ9_floorMod_7cf53, Cond.initialized RJ9, Cond.code yJ9_floorMod_7cf53 cJ9_floorMod_7cf53 3 (some .int)]
def wsL_reaches_r3 : List Cond := [Cond.methodLink RX3 113 yX0_isUnder, Cond.instanceMethod yX0_isUnder, Cond.selects RX0 yX0_isUnder yX0_isUnder, Cond.code yX0_isUnder cX0_isUnder 3 (some .boolean), Cond.fieldLink RX0 9 "DrownedPost$Bins" "height" "[I"]
def wsL_reaches : List Cond := .codeWith yL_reaches cL_reaches 5 (some .int) [(0, 10, 13, 37)] :: ((wsL_reaches_r1 ++ (wsL_reaches_r2 ++ wsL_reaches_r3)) ++ wsX50 ++ wsX30 ++ wsX10 ++ wsX00 ++ wsX40 ++ (vx_atS RX5 102 "java/lang/IndexOutOfBoundsException" ["java/lang/RuntimeException", "java/lang/Exception"]).filter goodWord)
def wsL_law0_r1 : List Cond := [Cond.classLink RL 8 RX5, Cond.instantiable RX5 2, Cond.initialized RX5, Cond.classLink RL 70 RX6, Cond.instantiable RX6 15, Cond.initialized RX6, Cond.arrayClass .long, Cond.methodLink RL 69 yX5_init, Cond.instanceMethod yX5_init, Cond.code yX5_init cX5_init 1 none, Cond.methodLink RX5 1 objectInit, Cond.instanceMethod objectInit, Cond.code objectInit ⟨#[0xb1]⟩ 1 none, Cond.classLink RX5 7 RX3, Cond.instantiable RX3 10, Cond.initialized RX3, Cond.fieldLink RX5 10 "DrownedPost" "now" "LDrownedPost$Office;", Cond.fieldLink RX5 16 "DrownedPost" "ahead" "LDrownedPost$Office;", Cond.instanceMethod yX3_init, Cond.code yX3_init cX3_init 1 none, Cond.methodLink RX3 3 objectInit, Cond.classLink RX3 9 RX4, Cond.instantiable RX4 2, Cond.initialized RX4]
def wsL_law0_r2 : List Cond := [Cond.fieldLink RX3 12 "DrownedPost$Office" "tides" "LDrownedPost$Tides;", Cond.classLink RX3 18 RX0, Cond.instantiable RX0 4, Cond.initialized RX0, Cond.fieldLink RX3 21 "DrownedPost$Office" "bins" "LDrownedPost$Bins;", Cond.classLink RX3 25 RX1, Cond.instantiable RX1 6, Cond.initialized RX1, Cond.fieldLink RX3 28 "DrownedPost$Office" "drowned" "LDrownedPost$Drowned;", Cond.classLink RX3 32 RX2, Cond.instantiable RX2 10, Cond.initialized RX2, Cond.fieldLink RX3 35 "DrownedPost$Office" "letters" "LDrownedPost$Letters;", Cond.fieldLink RX3 39 "DrownedPost$Office" "scrapers" "I", Cond.fieldLink RX3 43 "DrownedPost$Office" "sorters" "I", Cond.arrayClass .int, Cond.fieldLink RX3 46 "DrownedPost$Office" "sunk" "[I", Cond.arrayClass .boolean, Cond.fieldLink RX3 50 "DrownedPost$Office" "scraped" "[Z", Cond.methodLink RX3 11 yX4_init, Cond.instanceMethod yX4_init, Cond.code yX4_init cX4_init 1 none, Cond.methodLink RX4 3 objectInit, Cond.fieldLink RX4 9 "DrownedPost$Tides" "heights" "[I"]
def wsL_law0_r3 : List Cond := [Cond.fieldLink RX4 18 "DrownedPost$Tides" "count" "I", Cond.methodLink RX4 22 arraycopyName, Cond.native arraycopyName, Cond.static arraycopyName, Cond.initialized "java/lang/System", Cond.instanceMethod yX0_init, Cond.code yX0_init cX0_init 1 none, Cond.methodLink RX0 3 objectInit, Cond.fieldLink RX0 9 "DrownedPost$Bins" "height" "[I", Cond.fieldLink RX0 15 "DrownedPost$Bins" "room" "[I", Cond.fieldLink RX0 18 "DrownedPost$Bins" "filled" "[I", Cond.instanceMethod yX1_init, Cond.code yX1_init cX1_init 1 none, Cond.methodLink RX1 3 objectInit, Cond.fieldLink RX1 9 "DrownedPost$Drowned" "height" "[I", Cond.fieldLink RX1 15 "DrownedPost$Drowned" "n" "[I", Cond.fieldLink RX1 18 "DrownedPost$Drowned" "lag" "[I", Cond.fieldLink RX1 21 "DrownedPost$Drowned" "got" "[I", Cond.fieldLink RX1 24 "DrownedPost$Drowned" "written" "[I", Cond.instanceMethod yX2_init, Cond.code yX2_init cX2_init 1 none, Cond.methodLink RX2 3 objectInit, Cond.fieldLink RX2 9 "DrownedPost$Letters" "to" "[I", Cond.fieldLink RX2 15 "DrownedPost$Letters" "weight" "[I"]
def wsL_law0_r4 : List Cond := [Cond.fieldLink RX2 18 "DrownedPost$Letters" "seal" "[I", Cond.fieldLink RX2 21 "DrownedPost$Letters" "state" "[I", Cond.fieldLink RX2 24 "DrownedPost$Letters" "growth" "[I", Cond.fieldLink RX2 27 "DrownedPost$Letters" "bin" "[I", Cond.fieldLink RX2 30 "DrownedPost$Letters" "held" "[I", Cond.fieldLink RX2 33 "DrownedPost$Letters" "hoursBefore" "[I", Cond.fieldLink RX2 36 "DrownedPost$Letters" "answered" "[I", Cond.methodLink RL 72 yX6_init, Cond.instanceMethod yX6_init, Cond.code yX6_init cX6_init 1 none, Cond.methodLink RX6 1 objectInit, Cond.fieldLink RX6 7 "DrownedPostModel" "tides" "I", Cond.fieldLink RX6 13 "DrownedPostModel" "tideTable" "[I", Cond.fieldLink RX6 17 "DrownedPostModel" "binTable" "[I", Cond.fieldLink RX6 20 "DrownedPostModel" "ones" "[I", Cond.fieldLink RX6 23 "DrownedPostModel" "table" "[I", Cond.fieldLink RX6 26 "DrownedPostModel" "scrapers" "I", Cond.fieldLink RX6 29 "DrownedPostModel" "sorters" "I", Cond.fieldLink RX6 32 "DrownedPostModel" "spareOnes" "[I", Cond.fieldLink RX6 35 "DrownedPostModel" "spareTable" "[I", Cond.fieldLink RX6 38 "DrownedPostModel" "was" "[Z", Cond.methodLink RL 73 yL_beginTides, Cond.static yL_beginTides, Cond.initialized RL]
def wsL_law0_r5 : List Cond := [Cond.codeWith yL_beginTides cL_beginTides 4 (some .int) [(0, 9, 12, 13)], Cond.classLink RL 13 "java/lang/IllegalArgumentException", Cond.methodLink RL 7 yX5_beginTides, Cond.instanceMethod yX5_beginTides, Cond.selects RX5 yX5_beginTides yX5_beginTides, Cond.code yX5_beginTides cX5_beginTides 3 (some .int), Cond.classLink RX5 23 "java/lang/IllegalArgumentException", Cond.initialized "java/lang/IllegalArgumentException", Cond.fieldLink RX5 30 "DrownedPost$Office" "tides" "LDrownedPost$Tides;", Cond.fieldLink RX5 34 "DrownedPost$Tides" "count" "I", Cond.methodLink RX5 19 yX5_isWithin, Cond.static yX5_isWithin, Cond.code yX5_isWithin cX5_isWithin 3 (some .boolean), Cond.methodLink RX5 40 yX4_begin, Cond.instanceMethod yX4_begin, Cond.selects RX4 yX4_begin yX4_begin, Cond.code yX4_begin cX4_begin 2 none, Cond.methodLink RL 78 yX6_beginTides, Cond.instanceMethod yX6_beginTides, Cond.selects RX6 yX6_beginTides yX6_beginTides, Cond.code yX6_beginTides cX6_beginTides 3 (some .int), Cond.fieldLink RX6 42 "DrownedPostModel" "thrown" "I", Cond.methodLink RX6 53 yX6_isHeight, Cond.static yX6_isHeight]
def wsL_law0_r6 : List Cond := [Cond.code yX6_isHeight cX6_isHeight 1 (some .boolean), Cond.methodLink RX6 45 yX6_isIn, Cond.static yX6_isIn, Cond.code yX6_isIn cX6_isIn 3 (some .boolean), Cond.methodLink RX6 57 yX6_fail, Cond.instanceMethod yX6_fail, Cond.selects RX6 yX6_fail yX6_fail, Cond.code yX6_fail cX6_fail 2 (some .int), Cond.methodLink RL 79 yX6_thrown, Cond.instanceMethod yX6_thrown, Cond.selects RX6 yX6_thrown yX6_thrown, Cond.code yX6_thrown cX6_thrown 1 (some .int), Cond.methodLink RL 83 yL_addTide, Cond.static yL_addTide, Cond.codeWith yL_addTide cL_addTide 4 (some .int) [(0, 9, 12, 13), (0, 9, 15, 18)], Cond.classLink RL 18 "java/lang/IllegalStateException", Cond.methodLink RL 15 yX5_addTide, Cond.instanceMethod yX5_addTide, Cond.selects RX5 yX5_addTide yX5_addTide, Cond.code yX5_addTide cX5_addTide 2 (some .int), Cond.classLink RX5 44 "java/lang/IllegalStateException", Cond.initialized "java/lang/IllegalStateException", Cond.methodLink RX5 49 yX4_append, Cond.instanceMethod yX4_append]
def wsL_law0_r7 : List Cond := [Cond.selects RX4 yX4_append yX4_append, Cond.code yX4_append cX4_append 2 none, Cond.methodLink RL 85 yX6_addTide, Cond.instanceMethod yX6_addTide, Cond.selects RX6 yX6_addTide yX6_addTide, Cond.code yX6_addTide cX6_addTide 2 (some .int), Cond.methodLink RL 86 yL_tide, Cond.static yL_tide, Cond.codeWith yL_tide cL_tide 4 (some .int) [(0, 9, 12, 13)], Cond.methodLink RL 20 yX5_tide, Cond.instanceMethod yX5_tide, Cond.selects RX5 yX5_tide yX5_tide, Cond.code yX5_tide cX5_tide 2 (some .int), Cond.methodLink RX5 54 yX4_heightIn, Cond.instanceMethod yX4_heightIn, Cond.selects RX4 yX4_heightIn yX4_heightIn, Cond.code yX4_heightIn cX4_heightIn 2 (some .int), Cond.methodLink RX4 28 yJ9_floorMod_7cf53, Cond.static yJ9_floorMod_7cf53, Cond.initialized RJ9, Cond.code yJ9_floorMod_7cf53 cJ9_floorMod_7cf53 3 (some .int), Cond.methodLink RL 88 yX6_tide, Cond.instanceMethod yX6_tide, Cond.selects RX6 yX6_tide yX6_tide]
def wsL_law0_r8 : List Cond := [Cond.code yX6_tide cX6_tide 2 (some .int), Cond.methodLink RX6 61 yX6_tideOf, Cond.instanceMethod yX6_tideOf, Cond.selects RX6 yX6_tideOf yX6_tideOf, Cond.code yX6_tideOf cX6_tideOf 2 (some .int), Cond.methodLink RL 89 yL_addBin, Cond.static yL_addBin, Cond.codeWith yL_addBin cL_addBin 5 (some .int) [(0, 10, 13, 13), (0, 10, 17, 18)], Cond.methodLink RL 23 yX5_addBin, Cond.instanceMethod yX5_addBin, Cond.selects RX5 yX5_addBin yX5_addBin, Cond.code yX5_addBin cX5_addBin 3 (some .int), Cond.fieldLink RX5 60 "DrownedPost$Office" "bins" "LDrownedPost$Bins;", Cond.fieldLink RX5 64 "DrownedPost$Bins" "count" "I", Cond.methodLink RX5 69 yX0_append, Cond.instanceMethod yX0_append, Cond.selects RX0 yX0_append yX0_append, Cond.code yX0_append cX0_append 4 (some .int), Cond.fieldLink RX0 21 "DrownedPost$Bins" "count" "I", Cond.methodLink RL 92 yX6_addBin, Cond.instanceMethod yX6_addBin, Cond.selects RX6 yX6_addBin yX6_addBin, Cond.code yX6_addBin cX6_addBin 3 (some .int), Cond.fieldLink RX6 64 "DrownedPostModel" "bins" "I"]
def wsL_law0_r9 : List Cond := [Cond.methodLink RL 93 yL_setCrew, Cond.static yL_setCrew, Cond.codeWith yL_setCrew cL_setCrew 5 (some .int) [(0, 10, 13, 13)], Cond.methodLink RL 27 yX5_setCrew, Cond.instanceMethod yX5_setCrew, Cond.selects RX5 yX5_setCrew yX5_setCrew, Cond.code yX5_setCrew cX5_setCrew 4 (some .int), Cond.fieldLink RX5 74 "DrownedPost$Office" "sorters" "I", Cond.fieldLink RX5 77 "DrownedPost$Office" "scrapers" "I", Cond.methodLink RL 95 yX6_setCrew, Cond.instanceMethod yX6_setCrew, Cond.selects RX6 yX6_setCrew yX6_setCrew, Cond.code yX6_setCrew cX6_setCrew 4 (some .int), Cond.methodLink RL 96 yL_addDrowned, Cond.static yL_addDrowned, Cond.codeWith yL_addDrowned cL_addDrowned 6 (some .int) [(0, 12, 15, 13), (0, 12, 19, 18)], Cond.methodLink RL 30 yX5_addDrowned, Cond.instanceMethod yX5_addDrowned, Cond.selects RX5 yX5_addDrowned yX5_addDrowned, Cond.code yX5_addDrowned cX5_addDrowned 4 (some .int), Cond.fieldLink RX5 82 "DrownedPost$Office" "drowned" "LDrownedPost$Drowned;", Cond.fieldLink RX5 86 "DrownedPost$Drowned" "count" "I", Cond.methodLink RX5 91 yX1_append, Cond.instanceMethod yX1_append]
def wsL_law0_r10 : List Cond := [Cond.selects RX1 yX1_append yX1_append, Cond.code yX1_append cX1_append 5 (some .int), Cond.fieldLink RX1 27 "DrownedPost$Drowned" "count" "I", Cond.methodLink RL 99 yX6_addDrowned, Cond.instanceMethod yX6_addDrowned, Cond.selects RX6 yX6_addDrowned yX6_addDrowned, Cond.code yX6_addDrowned cX6_addDrowned 5 (some .int), Cond.fieldLink RX6 67 "DrownedPostModel" "drowned" "I", Cond.methodLink RX6 73 arraycopyName, Cond.methodLink RL 100 yL_bring, Cond.static yL_bring, Cond.codeWith yL_bring cL_bring 6 (some .int) [(0, 12, 15, 37), (0, 12, 19, 13), (0, 12, 23, 18)], Cond.classLink RL 37 "java/lang/IndexOutOfBoundsException", Cond.methodLink RL 34 yX5_bring, Cond.instanceMethod yX5_bring, Cond.selects RX5 yX5_bring yX5_bring, Cond.code yX5_bring cX5_bring 4 (some .int), Cond.classLink RX5 98 "java/lang/IndexOutOfBoundsException", Cond.initialized "java/lang/IndexOutOfBoundsException", Cond.fieldLink RX5 105 "DrownedPost$Office" "letters" "LDrownedPost$Letters;", Cond.fieldLink RX5 109 "DrownedPost$Letters" "count" "I", Cond.methodLink RX5 94 yX1_has, Cond.instanceMethod yX1_has, Cond.selects RX1 yX1_has yX1_has]
def wsL_law0_r11 : List Cond := [Cond.code yX1_has cX1_has 2 (some .boolean), Cond.methodLink RX5 114 yX2_append, Cond.instanceMethod yX2_append, Cond.selects RX2 yX2_append yX2_append, Cond.code yX2_append cX2_append 5 (some .int), Cond.fieldLink RX2 39 "DrownedPost$Letters" "count" "I", Cond.methodLink RL 102 yX6_bring, Cond.instanceMethod yX6_bring, Cond.selects RX6 yX6_bring yX6_bring, Cond.code yX6_bring cX6_bring 4 (some .int), Cond.fieldLink RX6 70 "DrownedPostModel" "letters" "I", Cond.methodLink RX6 79 yX6_isOne, Cond.instanceMethod yX6_isOne, Cond.selects RX6 yX6_isOne yX6_isOne, Cond.code yX6_isOne cX6_isOne 2 (some .boolean), Cond.methodLink RX6 82 yX6_add, Cond.instanceMethod yX6_add, Cond.selects RX6 yX6_add yX6_add, Cond.code yX6_add cX6_add 8 none, Cond.methodLink RL 103 yL_takeOut, Cond.static yL_takeOut, Cond.codeWith yL_takeOut cL_takeOut 4 (some .int) [(0, 9, 12, 37), (0, 9, 15, 18)], Cond.methodLink RL 39 yX5_takeOut, Cond.instanceMethod yX5_takeOut]
def wsL_law0_r12 : List Cond := [Cond.selects RX5 yX5_takeOut yX5_takeOut, Cond.code yX5_takeOut cX5_takeOut 3 (some .int), Cond.fieldLink RX5 118 "DrownedPost$Letters" "bin" "[I", Cond.methodLink RX5 115 yX2_has, Cond.instanceMethod yX2_has, Cond.selects RX2 yX2_has yX2_has, Cond.code yX2_has cX2_has 2 (some .boolean), Cond.methodLink RX5 122 yX0_has, Cond.instanceMethod yX0_has, Cond.selects RX0 yX0_has yX0_has, Cond.code yX0_has cX0_has 2 (some .boolean), Cond.methodLink RX5 125 yX3_tideNow, Cond.instanceMethod yX3_tideNow, Cond.selects RX3 yX3_tideNow yX3_tideNow, Cond.code yX3_tideNow cX3_tideNow 1 (some .int), Cond.fieldLink RX3 67 "DrownedPost$Office" "hour" "I", Cond.methodLink RX3 70 yX4_heightIn, Cond.methodLink RX5 129 yX0_isUnder, Cond.instanceMethod yX0_isUnder, Cond.selects RX0 yX0_isUnder yX0_isUnder, Cond.code yX0_isUnder cX0_isUnder 3 (some .boolean), Cond.methodLink RX5 135 yX3_leaveBin, Cond.instanceMethod yX3_leaveBin, Cond.selects RX3 yX3_leaveBin yX3_leaveBin]
def wsL_law0_r13 : List Cond := [Cond.code yX3_leaveBin cX3_leaveBin 4 none, Cond.fieldLink RX3 110 "DrownedPost$Letters" "bin" "[I", Cond.fieldLink RX3 143 "DrownedPost$Bins" "filled" "[I", Cond.fieldLink RX3 129 "DrownedPost$Letters" "held" "[I", Cond.fieldLink RX3 104 "DrownedPost$Letters" "state" "[I", Cond.methodLink RX3 138 yX2_has, Cond.methodLink RX3 142 yX0_has, Cond.methodLink RL 105 yX6_takeOut, Cond.instanceMethod yX6_takeOut, Cond.selects RX6 yX6_takeOut yX6_takeOut, Cond.code yX6_takeOut cX6_takeOut 2 (some .int), Cond.fieldLink RX6 96 "DrownedPostModel" "hour" "I", Cond.methodLink RX6 90 yX6_isLetter, Cond.instanceMethod yX6_isLetter, Cond.selects RX6 yX6_isLetter yX6_isLetter, Cond.code yX6_isLetter cX6_isLetter 2 (some .boolean), Cond.methodLink RX6 93 yX6_isIn_, Cond.instanceMethod yX6_isIn_, Cond.selects RX6 yX6_isIn_ yX6_isIn_, Cond.code yX6_isIn_ cX6_isIn_ 3 (some .boolean), Cond.methodLink RX6 49 yX6_get, Cond.instanceMethod yX6_get, Cond.selects RX6 yX6_get yX6_get, Cond.code yX6_get cX6_get 3 (some .int)]
def wsL_law0_r14 : List Cond := [Cond.methodLink RX6 99 yX6_isUnder, Cond.instanceMethod yX6_isUnder, Cond.selects RX6 yX6_isUnder yX6_isUnder, Cond.code yX6_isUnder cX6_isUnder 3 (some .boolean), Cond.methodLink RX6 102 yX6_leave, Cond.instanceMethod yX6_leave, Cond.selects RX6 yX6_leave yX6_leave, Cond.code yX6_leave cX6_leave 4 (some .int), Cond.methodLink RX6 86 yX6_set, Cond.instanceMethod yX6_set, Cond.selects RX6 yX6_set yX6_set, Cond.code yX6_set cX6_set 4 none, Cond.methodLink RL 106 yL_letter, Cond.static yL_letter, Cond.codeWith yL_letter cL_letter 5 (some .int) [(0, 10, 13, 37)], Cond.methodLink RL 42 yX5_letter, Cond.instanceMethod yX5_letter, Cond.selects RX5 yX5_letter yX5_letter, Cond.code yX5_letter cX5_letter 3 (some .int), Cond.methodLink RX5 141 yX2_fact, Cond.instanceMethod yX2_fact, Cond.selects RX2 yX2_fact yX2_fact, Cond.code yX2_fact cX2_fact 3 (some .int), Cond.methodLink RX2 43 yX2_has]
def wsL_law0_r15 : List Cond := [Cond.methodLink RL 108 yX6_letter, Cond.instanceMethod yX6_letter, Cond.selects RX6 yX6_letter yX6_letter, Cond.code yX6_letter cX6_letter 3 (some .int), Cond.methodLink RL 109 yL_drowned, Cond.static yL_drowned, Cond.codeWith yL_drowned cL_drowned 5 (some .int) [(0, 10, 13, 37)], Cond.methodLink RL 45 yX5_drowned, Cond.instanceMethod yX5_drowned, Cond.selects RX5 yX5_drowned yX5_drowned, Cond.code yX5_drowned cX5_drowned 3 (some .int), Cond.methodLink RX5 146 yX1_fact, Cond.instanceMethod yX1_fact, Cond.selects RX1 yX1_fact yX1_fact, Cond.code yX1_fact cX1_fact 3 (some .int), Cond.methodLink RX1 31 yX1_has, Cond.methodLink RL 111 yX6_drowned, Cond.instanceMethod yX6_drowned, Cond.selects RX6 yX6_drowned yX6_drowned, Cond.code yX6_drowned cX6_drowned 3 (some .int), Cond.methodLink RX6 105 yX6_one, Cond.instanceMethod yX6_one, Cond.selects RX6 yX6_one yX6_one, Cond.code yX6_one cX6_one 3 (some .int)]
def wsL_law0_r16 : List Cond := [Cond.methodLink RL 112 yL_bin, Cond.static yL_bin, Cond.codeWith yL_bin cL_bin 5 (some .int) [(0, 10, 13, 37)], Cond.methodLink RL 48 yX5_bin, Cond.instanceMethod yX5_bin, Cond.selects RX5 yX5_bin yX5_bin, Cond.code yX5_bin cX5_bin 3 (some .int), Cond.methodLink RX5 149 yX3_binFact, Cond.instanceMethod yX3_binFact, Cond.selects RX3 yX3_binFact yX3_binFact, Cond.code yX3_binFact cX3_binFact 3 (some .int), Cond.fieldLink RX3 179 "DrownedPost$Bins" "height" "[I", Cond.fieldLink RX3 182 "DrownedPost$Bins" "room" "[I", Cond.methodLink RX3 80 yX3_tideNow, Cond.methodLink RX3 113 yX0_isUnder, Cond.methodLink RX3 185 yX2_growthIn, Cond.instanceMethod yX2_growthIn, Cond.selects RX2 yX2_growthIn yX2_growthIn, Cond.code yX2_growthIn cX2_growthIn 4 (some .int), Cond.methodLink RL 114 yX6_bin, Cond.instanceMethod yX6_bin, Cond.selects RX6 yX6_bin yX6_bin, Cond.code yX6_bin cX6_bin 3 (some .int), Cond.methodLink RX6 112 yX6_binTold]
def wsL_law0_r17 : List Cond := [Cond.instanceMethod yX6_binTold, Cond.selects RX6 yX6_binTold yX6_binTold, Cond.code yX6_binTold cX6_binTold 3 (some .int), Cond.methodLink RX6 108 yX6_sumOf, Cond.instanceMethod yX6_sumOf, Cond.selects RX6 yX6_sumOf yX6_sumOf, Cond.code yX6_sumOf cX6_sumOf 5 (some .int), Cond.methodLink RL 115 yL_pass, Cond.static yL_pass, Cond.codeWith yL_pass cL_pass 4 (some .int) [(0, 9, 12, 13)], Cond.methodLink RL 51 yX5_pass, Cond.instanceMethod yX5_pass, Cond.selects RX5 yX5_pass yX5_pass, Cond.code yX5_pass cX5_pass 2 (some .int), Cond.methodLink RX5 154 yX3_letGoBy, Cond.instanceMethod yX3_letGoBy, Cond.selects RX3 yX3_letGoBy yX3_letGoBy, Cond.code yX3_letGoBy cX3_letGoBy 4 (some .int), Cond.fieldLink RX3 77 "DrownedPost$Office" "sunkCount" "I", Cond.methodLink RX3 74 yX3_liveOneHour, Cond.instanceMethod yX3_liveOneHour, Cond.selects RX3 yX3_liveOneHour yX3_liveOneHour, Cond.code yX3_liveOneHour cX3_liveOneHour 3 none, Cond.fieldLink RX3 84 "DrownedPost$Letters" "count" "I"]
def wsL_law0_r18 : List Cond := [Cond.methodLink RX3 87 yX3_water, Cond.instanceMethod yX3_water, Cond.selects RX3 yX3_water yX3_water, Cond.code yX3_water cX3_water 3 none, Cond.methodLink RX3 107 yX3_wash, Cond.instanceMethod yX3_wash, Cond.selects RX3 yX3_wash yX3_wash, Cond.code yX3_wash cX3_wash 5 none, Cond.fieldLink RX3 117 "DrownedPost$Letters" "growth" "[I", Cond.fieldLink RX3 120 "DrownedPost$Letters" "weight" "[I", Cond.fieldLink RX3 123 "DrownedPost$Letters" "to" "[I", Cond.fieldLink RX3 132 "DrownedPost$Letters" "seal" "[I", Cond.methodLink RX3 126 yX1_heightOf, Cond.instanceMethod yX1_heightOf, Cond.selects RX1 yX1_heightOf yX1_heightOf, Cond.code yX1_heightOf cX1_heightOf 2 (some .int), Cond.methodLink RX3 135 yX3_leaveBin, Cond.methodLink RX3 91 yX3_writeAnswers, Cond.instanceMethod yX3_writeAnswers, Cond.selects RX3 yX3_writeAnswers yX3_writeAnswers, Cond.code yX3_writeAnswers cX3_writeAnswers 4 none, Cond.fieldLink RX3 149 "DrownedPost$Drowned" "lag" "[I", Cond.fieldLink RX3 155 "DrownedPost$Drowned" "written" "[I", Cond.methodLink RX3 146 yX1_gets]
def wsL_law0_r19 : List Cond := [Cond.instanceMethod yX1_gets, Cond.selects RX1 yX1_gets yX1_gets, Cond.code yX1_gets cX1_gets 2 (some .boolean), Cond.methodLink RX3 152 yX2_answer, Cond.instanceMethod yX2_answer, Cond.selects RX2 yX2_answer yX2_answer, Cond.code yX2_answer cX2_answer 4 (some .boolean), Cond.methodLink RX2 47 yX2_append, Cond.methodLink RX3 94 yX3_bringAnswersNearer, Cond.instanceMethod yX3_bringAnswersNearer, Cond.selects RX3 yX3_bringAnswersNearer yX3_bringAnswersNearer, Cond.code yX3_bringAnswersNearer cX3_bringAnswersNearer 4 none, Cond.fieldLink RX3 158 "DrownedPost$Letters" "hoursBefore" "[I", Cond.methodLink RX3 98 yX3_scrape, Cond.instanceMethod yX3_scrape, Cond.selects RX3 yX3_scrape yX3_scrape, Cond.code yX3_scrape cX3_scrape 4 none, Cond.methodLink RX3 164 Lib.Math.max.name, Cond.static Lib.Math.max.name, Cond.initialized "java/lang/Math", Cond.code Lib.Math.max.name Lib.Math.max.code 2 (some .int), Cond.methodLink RX3 161 yX3_mostOvergrown, Cond.instanceMethod yX3_mostOvergrown, Cond.selects RX3 yX3_mostOvergrown yX3_mostOvergrown]
def wsL_law0_r20 : List Cond := [Cond.code yX3_mostOvergrown cX3_mostOvergrown 5 (some .int), Cond.methodLink RX3 170 yX3_canBeScraped, Cond.instanceMethod yX3_canBeScraped, Cond.selects RX3 yX3_canBeScraped yX3_canBeScraped, Cond.code yX3_canBeScraped cX3_canBeScraped 3 (some .boolean), Cond.methodLink RX3 101 yX3_sort, Cond.instanceMethod yX3_sort, Cond.selects RX3 yX3_sort yX3_sort, Cond.code yX3_sort cX3_sort 4 none, Cond.methodLink RX3 173 yX2_heaviestInOffice, Cond.instanceMethod yX2_heaviestInOffice, Cond.selects RX2 yX2_heaviestInOffice yX2_heaviestInOffice, Cond.code yX2_heaviestInOffice cX2_heaviestInOffice 3 (some .int), Cond.methodLink RX3 176 yX0_nearestWithRoom, Cond.instanceMethod yX0_nearestWithRoom, Cond.selects RX0 yX0_nearestWithRoom yX0_nearestWithRoom, Cond.code yX0_nearestWithRoom cX0_nearestWithRoom 4 (some .int), Cond.methodLink RX0 25 yX0_isNearer, Cond.instanceMethod yX0_isNearer, Cond.selects RX0 yX0_isNearer yX0_isNearer, Cond.code yX0_isNearer cX0_isNearer 6 (some .boolean), Cond.methodLink RX0 29 Lib.Math.abs.name, Cond.static Lib.Math.abs.name, Cond.code Lib.Math.abs.name Lib.Math.abs.code 1 (some .int)]
def wsL_law0_r21 : List Cond := [Cond.methodLink RL 117 yX6_pass, Cond.instanceMethod yX6_pass, Cond.selects RX6 yX6_pass yX6_pass, Cond.code yX6_pass cX6_pass 4 (some .int), Cond.methodLink RX6 140 yX6_many, Cond.instanceMethod yX6_many, Cond.selects RX6 yX6_many yX6_many, Cond.code yX6_many cX6_many 4 (some .int), Cond.methodLink RX6 143 yX6_passOne, Cond.instanceMethod yX6_passOne, Cond.selects RX6 yX6_passOne yX6_passOne, Cond.code yX6_passOne cX6_passOne 5 none, Cond.methodLink RX6 115 Lib.Math.max.name, Cond.methodLink RX6 126 yX6_water, Cond.instanceMethod yX6_water, Cond.selects RX6 yX6_water yX6_water, Cond.code yX6_water cX6_water 3 none, Cond.methodLink RX6 130 yX6_answer, Cond.instanceMethod yX6_answer, Cond.selects RX6 yX6_answer yX6_answer, Cond.code yX6_answer cX6_answer 3 none, Cond.methodLink RX6 134 yX6_scrape, Cond.instanceMethod yX6_scrape, Cond.selects RX6 yX6_scrape yX6_scrape]
def wsL_law0_r22 : List Cond := [Cond.code yX6_scrape cX6_scrape 5 none, Cond.methodLink RX6 137 yX6_sort, Cond.instanceMethod yX6_sort, Cond.selects RX6 yX6_sort yX6_sort, Cond.code yX6_sort cX6_sort 4 none, Cond.methodLink RX6 123 yX6_binOf, Cond.instanceMethod yX6_binOf, Cond.selects RX6 yX6_binOf yX6_binOf, Cond.code yX6_binOf cX6_binOf 6 (some .int), Cond.methodLink RX6 120 Lib.Math.abs.name, Cond.methodLink RL 118 yL_count, Cond.static yL_count, Cond.codeWith yL_count cL_count 4 (some .int) [(0, 9, 12, 37)], Cond.methodLink RL 54 yX5_count, Cond.instanceMethod yX5_count, Cond.selects RX5 yX5_count yX5_count, Cond.code yX5_count cX5_count 2 (some .int), Cond.methodLink RX5 159 yX3_total, Cond.instanceMethod yX3_total, Cond.selects RX3 yX3_total yX3_total, Cond.code yX3_total cX3_total 2 (some .int), Cond.fieldLink RX3 188 "DrownedPost$Bins" "count" "I", Cond.fieldLink RX3 189 "DrownedPost$Drowned" "count" "I", Cond.fieldLink RX3 190 "DrownedPost$Tides" "count" "I"]
def wsL_law0_r23 : List Cond := [Cond.methodLink RX3 191 yX2_inState, Cond.instanceMethod yX2_inState, Cond.selects RX2 yX2_inState yX2_inState, Cond.code yX2_inState cX2_inState 4 (some .int), Cond.methodLink RL 120 yX6_count, Cond.instanceMethod yX6_count, Cond.selects RX6 yX6_count yX6_count, Cond.code yX6_count cX6_count 2 (some .int), Cond.methodLink RX6 146 yX6_counted, Cond.instanceMethod yX6_counted, Cond.selects RX6 yX6_counted yX6_counted, Cond.code yX6_counted cX6_counted 2 (some .int), Cond.methodLink RL 121 yL_binFor, Cond.static yL_binFor, Cond.codeWith yL_binFor cL_binFor 4 (some .int) [(0, 9, 12, 37)], Cond.methodLink RL 57 yX5_binFor, Cond.instanceMethod yX5_binFor, Cond.selects RX5 yX5_binFor yX5_binFor, Cond.code yX5_binFor cX5_binFor 2 (some .int), Cond.methodLink RX5 162 yX1_heightOf, Cond.methodLink RX5 165 yX0_nearestWithRoom, Cond.methodLink RL 123 yX6_binFor, Cond.instanceMethod yX6_binFor, Cond.selects RX6 yX6_binFor yX6_binFor]
def wsL_law0_r24 : List Cond := [Cond.code yX6_binFor cX6_binFor 2 (some .int), Cond.methodLink RL 124 yL_foresee, Cond.static yL_foresee, Cond.codeWith yL_foresee cL_foresee 5 (some .int) [(0, 10, 13, 13), (0, 10, 17, 37)], Cond.methodLink RL 60 yX5_foresee, Cond.instanceMethod yX5_foresee, Cond.selects RX5 yX5_foresee yX5_foresee, Cond.code yX5_foresee cX5_foresee 4 (some .int), Cond.methodLink RX5 172 yX3_copyFrom, Cond.instanceMethod yX3_copyFrom, Cond.selects RX3 yX3_copyFrom yX3_copyFrom, Cond.code yX3_copyFrom cX3_copyFrom 2 none, Cond.methodLink RX3 54 yX4_copyFrom, Cond.instanceMethod yX4_copyFrom, Cond.selects RX4 yX4_copyFrom yX4_copyFrom, Cond.code yX4_copyFrom cX4_copyFrom 2 none, Cond.methodLink RX3 58 yX0_copyFrom, Cond.instanceMethod yX0_copyFrom, Cond.selects RX0 yX0_copyFrom yX0_copyFrom, Cond.code yX0_copyFrom cX0_copyFrom 2 none, Cond.methodLink RX0 35 arraycopyName, Cond.methodLink RX3 61 yX1_copyFrom, Cond.instanceMethod yX1_copyFrom, Cond.selects RX1 yX1_copyFrom yX1_copyFrom]
def wsL_law0_r25 : List Cond := [Cond.code yX1_copyFrom cX1_copyFrom 2 none, Cond.methodLink RX1 41 arraycopyName, Cond.methodLink RX3 64 yX2_copyFrom, Cond.instanceMethod yX2_copyFrom, Cond.selects RX2 yX2_copyFrom yX2_copyFrom, Cond.code yX2_copyFrom cX2_copyFrom 2 none, Cond.methodLink RX2 57 arraycopyName, Cond.methodLink RX5 176 yX2_inState, Cond.methodLink RL 126 yX6_foresee, Cond.instanceMethod yX6_foresee, Cond.selects RX6 yX6_foresee yX6_foresee, Cond.code yX6_foresee cX6_foresee 4 (some .int), Cond.methodLink RX6 149 yX6_ahead, Cond.instanceMethod yX6_ahead, Cond.selects RX6 yX6_ahead yX6_ahead, Cond.code yX6_ahead cX6_ahead 7 (some .int), Cond.methodLink RL 127 yL_fate, Cond.static yL_fate, Cond.codeWith yL_fate cL_fate 5 (some .int) [(0, 10, 13, 37), (0, 10, 17, 13)], Cond.methodLink RL 63 yX5_fate, Cond.instanceMethod yX5_fate, Cond.selects RX5 yX5_fate yX5_fate, Cond.code yX5_fate cX5_fate 3 (some .int), Cond.fieldLink RX5 179 "DrownedPost$Letters" "state" "[I"]
def wsL_law0_r26 : List Cond := [Cond.methodLink RL 129 yX6_fate, Cond.instanceMethod yX6_fate, Cond.selects RX6 yX6_fate yX6_fate, Cond.code yX6_fate cX6_fate 3 (some .int), Cond.methodLink RL 130 yL_reaches, Cond.static yL_reaches, Cond.codeWith yL_reaches cL_reaches 5 (some .int) [(0, 10, 13, 37)], Cond.methodLink RL 66 yX5_reaches, Cond.instanceMethod yX5_reaches, Cond.selects RX5 yX5_reaches yX5_reaches, Cond.code yX5_reaches cX5_reaches 3 (some .int), Cond.methodLink RX5 184 yX3_hourOfReach, Cond.instanceMethod yX3_hourOfReach, Cond.selects RX3 yX3_hourOfReach yX3_hourOfReach, Cond.code yX3_hourOfReach cX3_hourOfReach 6 (some .int), Cond.methodLink RL 132 yX6_reaches, Cond.instanceMethod yX6_reaches, Cond.selects RX6 yX6_reaches yX6_reaches, Cond.code yX6_reaches cX6_reaches 5 (some .int), Cond.methodLink RL 133 yX5_barnacles, Cond.instanceMethod yX5_barnacles, Cond.selects RX5 yX5_barnacles yX5_barnacles, Cond.code yX5_barnacles cX5_barnacles 2 (some .double), Cond.methodLink RX5 187 yX2_growthInBins]
def wsL_law0_r27 : List Cond := [Cond.instanceMethod yX2_growthInBins, Cond.selects RX2 yX2_growthInBins yX2_growthInBins, Cond.code yX2_growthInBins cX2_growthInBins 3 (some .int), Cond.methodLink RL 137 yX6_barnacles, Cond.instanceMethod yX6_barnacles, Cond.selects RX6 yX6_barnacles yX6_barnacles, Cond.code yX6_barnacles cX6_barnacles 3 (some .double), Cond.methodLink RL 138 yX5_digest, Cond.instanceMethod yX5_digest, Cond.selects RX5 yX5_digest yX5_digest, Cond.code yX5_digest cX5_digest 5 (some .long), Cond.constantLong RX5 190 (479), Cond.constantLong RX5 192 (31), Cond.methodLink RX5 194 yX4_digestFrom, Cond.instanceMethod yX4_digestFrom, Cond.selects RX4 yX4_digestFrom yX4_digestFrom, Cond.code yX4_digestFrom cX4_digestFrom 6 (some .long), Cond.constantLong RX4 34 (31), Cond.methodLink RX5 198 yX1_digestFrom, Cond.instanceMethod yX1_digestFrom, Cond.selects RX1 yX1_digestFrom yX1_digestFrom, Cond.code yX1_digestFrom cX1_digestFrom 7 (some .long), Cond.constantLong RX1 35 (31), Cond.methodLink RX1 37 yX1_fact]
def wsL_law0_r28 : List Cond := [Cond.methodLink RX5 199 yX2_digestFrom, Cond.instanceMethod yX2_digestFrom, Cond.selects RX2 yX2_digestFrom yX2_digestFrom, Cond.code yX2_digestFrom cX2_digestFrom 7 (some .long), Cond.constantLong RX2 51 (31), Cond.methodLink RX2 53 yX2_fact, Cond.methodLink RL 142 yX6_digest, Cond.instanceMethod yX6_digest, Cond.selects RX6 yX6_digest yX6_digest, Cond.code yX6_digest cX6_digest 5 (some .long), Cond.constantLong RX6 153 (479), Cond.constantLong RX6 155 (31)]
def wsL_law0 : List Cond := (wsL_law0_r1 ++ (wsL_law0_r2 ++ (wsL_law0_r3 ++ (wsL_law0_r4 ++ (wsL_law0_r5 ++ (wsL_law0_r6 ++ (wsL_law0_r7 ++ (wsL_law0_r8 ++ (wsL_law0_r9 ++ (wsL_law0_r10 ++ (wsL_law0_r11 ++ (wsL_law0_r12 ++ (wsL_law0_r13 ++ (wsL_law0_r14 ++ (wsL_law0_r15 ++ (wsL_law0_r16 ++ (wsL_law0_r17 ++ (wsL_law0_r18 ++ (wsL_law0_r19 ++ (wsL_law0_r20 ++ (wsL_law0_r21 ++ (wsL_law0_r22 ++ (wsL_law0_r23 ++ (wsL_law0_r24 ++ (wsL_law0_r25 ++ (wsL_law0_r26 ++ (wsL_law0_r27 ++ wsL_law0_r28))))))))))))))))))))))))))) ++ wsX50 ++ wsX60 ++ wsX30 ++ wsX40 ++ wsX00 ++ wsX10 ++ wsX20 ++ ([] : List Cond)
def wsL_law : List Cond := wsL_law0 ++ (vx_atS RX5 27 "java/lang/IllegalArgumentException" ["java/lang/RuntimeException", "java/lang/Exception"]).filter goodWord ++ (vx_atS RX5 48 "java/lang/IllegalStateException" ["java/lang/RuntimeException", "java/lang/Exception"]).filter goodWord ++ (vx_atS RX5 102 "java/lang/IndexOutOfBoundsException" ["java/lang/RuntimeException", "java/lang/Exception"]).filter goodWord
abbrev vwCl : List vw_C := [(RX0, TX0, 4), (RX1, TX1, 6), (RX2, TX2, 10), (RX3, TX3, 10), (RX4, TX4, 2), (RX5, TX5, 2), (RX6, TX6, 15)]
end
section
theorem dX0_init_0 : decode cX0_init 0 = .ok (.aload_n 0, 1) := by decide +kernel
theorem dX0_init_1 : decode cX0_init 1 = .ok (.invokespecial 3, 3) := by decide +kernel
theorem dX0_init_4 : decode cX0_init 4 = .ok (.aload_n 0, 1) := by decide +kernel
theorem dX0_init_5 : decode cX0_init 5 = .ok (.bipush 10, 2) := by decide +kernel
theorem dX0_init_7 : decode cX0_init 7 = .ok (.newarray .int, 2) := by decide +kernel
theorem dX0_init_9 : decode cX0_init 9 = .ok (.putfield 9, 3) := by decide +kernel
theorem dX0_init_12 : decode cX0_init 12 = .ok (.aload_n 0, 1) := by decide +kernel
theorem dX0_init_13 : decode cX0_init 13 = .ok (.bipush 10, 2) := by decide +kernel
theorem dX0_init_15 : decode cX0_init 15 = .ok (.newarray .int, 2) := by decide +kernel
theorem dX0_init_17 : decode cX0_init 17 = .ok (.putfield 15, 3) := by decide +kernel
theorem dX0_init_20 : decode cX0_init 20 = .ok (.aload_n 0, 1) := by decide +kernel
theorem dX0_init_21 : decode cX0_init 21 = .ok (.bipush 10, 2) := by decide +kernel
theorem dX0_init_23 : decode cX0_init 23 = .ok (.newarray .int, 2) := by decide +kernel
theorem dX0_init_25 : decode cX0_init 25 = .ok (.putfield 18, 3) := by decide +kernel
theorem dX0_init_28 : decode cX0_init 28 = .ok (.return_, 1) := by decide +kernel
theorem dX0_has_0 : decode cX0_has 0 = .ok (.iload_n 1, 1) := by decide +kernel
theorem dX0_has_1 : decode cX0_has 1 = .ok (.ifCond .lt 15, 3) := by decide +kernel
theorem dX0_has_4 : decode cX0_has 4 = .ok (.iload_n 1, 1) := by decide +kernel
theorem dX0_has_5 : decode cX0_has 5 = .ok (.aload_n 0, 1) := by decide +kernel
theorem dX0_has_6 : decode cX0_has 6 = .ok (.getfield 21, 3) := by decide +kernel
theorem dX0_has_9 : decode cX0_has 9 = .ok (.if_icmp .ge 7, 3) := by decide +kernel
theorem dX0_has_12 : decode cX0_has 12 = .ok (.iconst 1, 1) := by decide +kernel
theorem dX0_has_13 : decode cX0_has 13 = .ok (.goto 4, 3) := by decide +kernel
theorem dX0_has_16 : decode cX0_has 16 = .ok (.iconst 0, 1) := by decide +kernel
theorem dX0_has_17 : decode cX0_has 17 = .ok (.ireturn, 1) := by decide +kernel
theorem dX0_append_0 : decode cX0_append 0 = .ok (.aload_n 0, 1) := by decide +kernel
theorem dX0_append_1 : decode cX0_append 1 = .ok (.getfield 21, 3) := by decide +kernel
theorem dX0_append_4 : decode cX0_append 4 = .ok (.bipush 10, 2) := by decide +kernel
theorem dX0_append_6 : decode cX0_append 6 = .ok (.if_icmp .lt 5, 3) := by decide +kernel
theorem dX0_append_9 : decode cX0_append 9 = .ok (.iconst (-1), 1) := by decide +kernel
theorem dX0_append_10 : decode cX0_append 10 = .ok (.ireturn, 1) := by decide +kernel
theorem dX0_append_11 : decode cX0_append 11 = .ok (.aload_n 0, 1) := by decide +kernel
theorem dX0_append_12 : decode cX0_append 12 = .ok (.getfield 21, 3) := by decide +kernel
theorem dX0_append_15 : decode cX0_append 15 = .ok (.istore_n 3, 1) := by decide +kernel
theorem dX0_append_16 : decode cX0_append 16 = .ok (.aload_n 0, 1) := by decide +kernel
theorem dX0_append_17 : decode cX0_append 17 = .ok (.getfield 9, 3) := by decide +kernel
theorem dX0_append_20 : decode cX0_append 20 = .ok (.iload_n 3, 1) := by decide +kernel
theorem dX0_append_21 : decode cX0_append 21 = .ok (.iload_n 1, 1) := by decide +kernel
theorem dX0_append_22 : decode cX0_append 22 = .ok (.iastore, 1) := by decide +kernel
theorem dX0_append_23 : decode cX0_append 23 = .ok (.aload_n 0, 1) := by decide +kernel
theorem dX0_append_24 : decode cX0_append 24 = .ok (.getfield 15, 3) := by decide +kernel
theorem dX0_append_27 : decode cX0_append 27 = .ok (.iload_n 3, 1) := by decide +kernel
theorem dX0_append_28 : decode cX0_append 28 = .ok (.iload_n 2, 1) := by decide +kernel
theorem dX0_append_29 : decode cX0_append 29 = .ok (.iastore, 1) := by decide +kernel
theorem dX0_append_30 : decode cX0_append 30 = .ok (.aload_n 0, 1) := by decide +kernel
theorem dX0_append_31 : decode cX0_append 31 = .ok (.getfield 18, 3) := by decide +kernel
theorem dX0_append_34 : decode cX0_append 34 = .ok (.iload_n 3, 1) := by decide +kernel
theorem dX0_append_35 : decode cX0_append 35 = .ok (.iconst 0, 1) := by decide +kernel
theorem dX0_append_36 : decode cX0_append 36 = .ok (.iastore, 1) := by decide +kernel
theorem dX0_append_37 : decode cX0_append 37 = .ok (.aload_n 0, 1) := by decide +kernel
theorem dX0_append_38 : decode cX0_append 38 = .ok (.dup, 1) := by decide +kernel
theorem dX0_append_39 : decode cX0_append 39 = .ok (.getfield 21, 3) := by decide +kernel
theorem dX0_append_42 : decode cX0_append 42 = .ok (.iconst 1, 1) := by decide +kernel
theorem dX0_append_43 : decode cX0_append 43 = .ok (.iadd, 1) := by decide +kernel
theorem dX0_append_44 : decode cX0_append 44 = .ok (.putfield 21, 3) := by decide +kernel
theorem dX0_append_47 : decode cX0_append 47 = .ok (.iload_n 3, 1) := by decide +kernel
theorem dX0_append_48 : decode cX0_append 48 = .ok (.ireturn, 1) := by decide +kernel
theorem dX0_isUnder_0 : decode cX0_isUnder 0 = .ok (.iload_n 1, 1) := by decide +kernel
theorem dX0_isUnder_1 : decode cX0_isUnder 1 = .ok (.ifCond .lt 25, 3) := by decide +kernel
theorem dX0_isUnder_4 : decode cX0_isUnder 4 = .ok (.iload_n 1, 1) := by decide +kernel
theorem dX0_isUnder_5 : decode cX0_isUnder 5 = .ok (.aload_n 0, 1) := by decide +kernel
theorem dX0_isUnder_6 : decode cX0_isUnder 6 = .ok (.getfield 21, 3) := by decide +kernel
theorem dX0_isUnder_9 : decode cX0_isUnder 9 = .ok (.if_icmp .ge 17, 3) := by decide +kernel
theorem dX0_isUnder_12 : decode cX0_isUnder 12 = .ok (.iload_n 2, 1) := by decide +kernel
theorem dX0_isUnder_13 : decode cX0_isUnder 13 = .ok (.aload_n 0, 1) := by decide +kernel
theorem dX0_isUnder_14 : decode cX0_isUnder 14 = .ok (.getfield 9, 3) := by decide +kernel
theorem dX0_isUnder_17 : decode cX0_isUnder 17 = .ok (.iload_n 1, 1) := by decide +kernel
theorem dX0_isUnder_18 : decode cX0_isUnder 18 = .ok (.iaload, 1) := by decide +kernel
theorem dX0_isUnder_19 : decode cX0_isUnder 19 = .ok (.if_icmp .le 7, 3) := by decide +kernel
theorem dX0_isUnder_22 : decode cX0_isUnder 22 = .ok (.iconst 1, 1) := by decide +kernel
theorem dX0_isUnder_23 : decode cX0_isUnder 23 = .ok (.goto 4, 3) := by decide +kernel
theorem dX0_isUnder_26 : decode cX0_isUnder 26 = .ok (.iconst 0, 1) := by decide +kernel
theorem dX0_isUnder_27 : decode cX0_isUnder 27 = .ok (.ireturn, 1) := by decide +kernel
set_option maxRecDepth 20000 in
theorem ggX0_nearestWithRoom_X0_isNearer : GoodIn wsX0_nearestWithRoom wsX0_isNearer := goodIn_r _ [8, 9, 10, 11, 12, 13, 14, 15, 16, 17] (by decide +kernel) (by decide +kernel)
set_option maxRecDepth 20000 in
theorem gX0_nearestWithRoom_X0_isNearer : GoodIn wsX0_nearestWithRoom (wsV RX0 25 RX0 yX0_isNearer wsX0_isNearer) := goodIn_app (goodIn_of _ (by decide +kernel)) ggX0_nearestWithRoom_X0_isNearer
theorem dX0_nearestWithRoom_0 : decode cX0_nearestWithRoom 0 = .ok (.iconst (-1), 1) := by decide +kernel
theorem dX0_nearestWithRoom_1 : decode cX0_nearestWithRoom 1 = .ok (.istore_n 2, 1) := by decide +kernel
theorem dX0_nearestWithRoom_2 : decode cX0_nearestWithRoom 2 = .ok (.iconst 0, 1) := by decide +kernel
theorem dX0_nearestWithRoom_3 : decode cX0_nearestWithRoom 3 = .ok (.istore_n 3, 1) := by decide +kernel
theorem dX0_nearestWithRoom_4 : decode cX0_nearestWithRoom 4 = .ok (.iload_n 3, 1) := by decide +kernel
theorem dX0_nearestWithRoom_5 : decode cX0_nearestWithRoom 5 = .ok (.aload_n 0, 1) := by decide +kernel
theorem dX0_nearestWithRoom_6 : decode cX0_nearestWithRoom 6 = .ok (.getfield 21, 3) := by decide +kernel
theorem dX0_nearestWithRoom_9 : decode cX0_nearestWithRoom 9 = .ok (.if_icmp .ge 41, 3) := by decide +kernel
theorem dX0_nearestWithRoom_12 : decode cX0_nearestWithRoom 12 = .ok (.aload_n 0, 1) := by decide +kernel
theorem dX0_nearestWithRoom_13 : decode cX0_nearestWithRoom 13 = .ok (.getfield 18, 3) := by decide +kernel
theorem dX0_nearestWithRoom_16 : decode cX0_nearestWithRoom 16 = .ok (.iload_n 3, 1) := by decide +kernel
theorem dX0_nearestWithRoom_17 : decode cX0_nearestWithRoom 17 = .ok (.iaload, 1) := by decide +kernel
theorem dX0_nearestWithRoom_18 : decode cX0_nearestWithRoom 18 = .ok (.aload_n 0, 1) := by decide +kernel
theorem dX0_nearestWithRoom_19 : decode cX0_nearestWithRoom 19 = .ok (.getfield 15, 3) := by decide +kernel
theorem dX0_nearestWithRoom_22 : decode cX0_nearestWithRoom 22 = .ok (.iload_n 3, 1) := by decide +kernel
theorem dX0_nearestWithRoom_23 : decode cX0_nearestWithRoom 23 = .ok (.iaload, 1) := by decide +kernel
theorem dX0_nearestWithRoom_24 : decode cX0_nearestWithRoom 24 = .ok (.if_icmp .ge 20, 3) := by decide +kernel
theorem dX0_nearestWithRoom_27 : decode cX0_nearestWithRoom 27 = .ok (.iload_n 2, 1) := by decide +kernel
theorem dX0_nearestWithRoom_28 : decode cX0_nearestWithRoom 28 = .ok (.iconst (-1), 1) := by decide +kernel
theorem dX0_nearestWithRoom_29 : decode cX0_nearestWithRoom 29 = .ok (.if_icmp .eq 13, 3) := by decide +kernel
theorem dX0_nearestWithRoom_32 : decode cX0_nearestWithRoom 32 = .ok (.aload_n 0, 1) := by decide +kernel
theorem dX0_nearestWithRoom_33 : decode cX0_nearestWithRoom 33 = .ok (.iload_n 3, 1) := by decide +kernel
theorem dX0_nearestWithRoom_34 : decode cX0_nearestWithRoom 34 = .ok (.iload_n 2, 1) := by decide +kernel
theorem dX0_nearestWithRoom_35 : decode cX0_nearestWithRoom 35 = .ok (.iload_n 1, 1) := by decide +kernel
theorem dX0_nearestWithRoom_36 : decode cX0_nearestWithRoom 36 = .ok (.invokevirtual 25, 3) := by decide +kernel
theorem dX0_nearestWithRoom_39 : decode cX0_nearestWithRoom 39 = .ok (.ifCond .eq 5, 3) := by decide +kernel
theorem dX0_nearestWithRoom_42 : decode cX0_nearestWithRoom 42 = .ok (.iload_n 3, 1) := by decide +kernel
theorem dX0_nearestWithRoom_43 : decode cX0_nearestWithRoom 43 = .ok (.istore_n 2, 1) := by decide +kernel
theorem dX0_nearestWithRoom_44 : decode cX0_nearestWithRoom 44 = .ok (.iinc 3 1, 3) := by decide +kernel
theorem dX0_nearestWithRoom_47 : decode cX0_nearestWithRoom 47 = .ok (.goto (-43), 3) := by decide +kernel
theorem dX0_nearestWithRoom_50 : decode cX0_nearestWithRoom 50 = .ok (.iload_n 2, 1) := by decide +kernel
theorem dX0_nearestWithRoom_51 : decode cX0_nearestWithRoom 51 = .ok (.ireturn, 1) := by decide +kernel
theorem dX0_isNearer_0 : decode cX0_isNearer 0 = .ok (.aload_n 0, 1) := by decide +kernel
theorem dX0_isNearer_1 : decode cX0_isNearer 1 = .ok (.getfield 9, 3) := by decide +kernel
theorem dX0_isNearer_4 : decode cX0_isNearer 4 = .ok (.iload_n 1, 1) := by decide +kernel
theorem dX0_isNearer_5 : decode cX0_isNearer 5 = .ok (.iaload, 1) := by decide +kernel
theorem dX0_isNearer_6 : decode cX0_isNearer 6 = .ok (.iload_n 3, 1) := by decide +kernel
theorem dX0_isNearer_7 : decode cX0_isNearer 7 = .ok (.isub, 1) := by decide +kernel
theorem dX0_isNearer_8 : decode cX0_isNearer 8 = .ok (.invokestatic 29, 3) := by decide +kernel
theorem dX0_isNearer_11 : decode cX0_isNearer 11 = .ok (.istore 4, 2) := by decide +kernel
theorem dX0_isNearer_13 : decode cX0_isNearer 13 = .ok (.aload_n 0, 1) := by decide +kernel
theorem dX0_isNearer_14 : decode cX0_isNearer 14 = .ok (.getfield 9, 3) := by decide +kernel
theorem dX0_isNearer_17 : decode cX0_isNearer 17 = .ok (.iload_n 2, 1) := by decide +kernel
theorem dX0_isNearer_18 : decode cX0_isNearer 18 = .ok (.iaload, 1) := by decide +kernel
theorem dX0_isNearer_19 : decode cX0_isNearer 19 = .ok (.iload_n 3, 1) := by decide +kernel
theorem dX0_isNearer_20 : decode cX0_isNearer 20 = .ok (.isub, 1) := by decide +kernel
theorem dX0_isNearer_21 : decode cX0_isNearer 21 = .ok (.invokestatic 29, 3) := by decide +kernel
theorem dX0_isNearer_24 : decode cX0_isNearer 24 = .ok (.istore 5, 2) := by decide +kernel
theorem dX0_isNearer_26 : decode cX0_isNearer 26 = .ok (.iload 4, 2) := by decide +kernel
theorem dX0_isNearer_28 : decode cX0_isNearer 28 = .ok (.iload 5, 2) := by decide +kernel
theorem dX0_isNearer_30 : decode cX0_isNearer 30 = .ok (.if_icmp .lt 25, 3) := by decide +kernel
theorem dX0_isNearer_33 : decode cX0_isNearer 33 = .ok (.iload 4, 2) := by decide +kernel
theorem dX0_isNearer_35 : decode cX0_isNearer 35 = .ok (.iload 5, 2) := by decide +kernel
theorem dX0_isNearer_37 : decode cX0_isNearer 37 = .ok (.if_icmp .ne 22, 3) := by decide +kernel
theorem dX0_isNearer_40 : decode cX0_isNearer 40 = .ok (.aload_n 0, 1) := by decide +kernel
theorem dX0_isNearer_41 : decode cX0_isNearer 41 = .ok (.getfield 9, 3) := by decide +kernel
theorem dX0_isNearer_44 : decode cX0_isNearer 44 = .ok (.iload_n 1, 1) := by decide +kernel
theorem dX0_isNearer_45 : decode cX0_isNearer 45 = .ok (.iaload, 1) := by decide +kernel
theorem dX0_isNearer_46 : decode cX0_isNearer 46 = .ok (.aload_n 0, 1) := by decide +kernel
theorem dX0_isNearer_47 : decode cX0_isNearer 47 = .ok (.getfield 9, 3) := by decide +kernel
theorem dX0_isNearer_50 : decode cX0_isNearer 50 = .ok (.iload_n 2, 1) := by decide +kernel
theorem dX0_isNearer_51 : decode cX0_isNearer 51 = .ok (.iaload, 1) := by decide +kernel
theorem dX0_isNearer_52 : decode cX0_isNearer 52 = .ok (.if_icmp .ge 7, 3) := by decide +kernel
theorem dX0_isNearer_55 : decode cX0_isNearer 55 = .ok (.iconst 1, 1) := by decide +kernel
theorem dX0_isNearer_56 : decode cX0_isNearer 56 = .ok (.goto 4, 3) := by decide +kernel
theorem dX0_isNearer_59 : decode cX0_isNearer 59 = .ok (.iconst 0, 1) := by decide +kernel
theorem dX0_isNearer_60 : decode cX0_isNearer 60 = .ok (.ireturn, 1) := by decide +kernel
theorem dX0_copyFrom_0 : decode cX0_copyFrom 0 = .ok (.aload_n 0, 1) := by decide +kernel
theorem dX0_copyFrom_1 : decode cX0_copyFrom 1 = .ok (.aload_n 1, 1) := by decide +kernel
theorem dX0_copyFrom_2 : decode cX0_copyFrom 2 = .ok (.getfield 21, 3) := by decide +kernel
theorem dX0_copyFrom_5 : decode cX0_copyFrom 5 = .ok (.putfield 21, 3) := by decide +kernel
theorem dX0_copyFrom_8 : decode cX0_copyFrom 8 = .ok (.aload_n 1, 1) := by decide +kernel
theorem dX0_copyFrom_9 : decode cX0_copyFrom 9 = .ok (.getfield 9, 3) := by decide +kernel
theorem dX0_copyFrom_12 : decode cX0_copyFrom 12 = .ok (.iconst 0, 1) := by decide +kernel
theorem dX0_copyFrom_13 : decode cX0_copyFrom 13 = .ok (.aload_n 0, 1) := by decide +kernel
theorem dX0_copyFrom_14 : decode cX0_copyFrom 14 = .ok (.getfield 9, 3) := by decide +kernel
theorem dX0_copyFrom_17 : decode cX0_copyFrom 17 = .ok (.iconst 0, 1) := by decide +kernel
theorem dX0_copyFrom_18 : decode cX0_copyFrom 18 = .ok (.aload_n 0, 1) := by decide +kernel
theorem dX0_copyFrom_19 : decode cX0_copyFrom 19 = .ok (.getfield 21, 3) := by decide +kernel
theorem dX0_copyFrom_22 : decode cX0_copyFrom 22 = .ok (.invokestatic 35, 3) := by decide +kernel
theorem dX0_copyFrom_25 : decode cX0_copyFrom 25 = .ok (.aload_n 1, 1) := by decide +kernel
theorem dX0_copyFrom_26 : decode cX0_copyFrom 26 = .ok (.getfield 15, 3) := by decide +kernel
theorem dX0_copyFrom_29 : decode cX0_copyFrom 29 = .ok (.iconst 0, 1) := by decide +kernel
theorem dX0_copyFrom_30 : decode cX0_copyFrom 30 = .ok (.aload_n 0, 1) := by decide +kernel
theorem dX0_copyFrom_31 : decode cX0_copyFrom 31 = .ok (.getfield 15, 3) := by decide +kernel
theorem dX0_copyFrom_34 : decode cX0_copyFrom 34 = .ok (.iconst 0, 1) := by decide +kernel
theorem dX0_copyFrom_35 : decode cX0_copyFrom 35 = .ok (.aload_n 0, 1) := by decide +kernel
theorem dX0_copyFrom_36 : decode cX0_copyFrom 36 = .ok (.getfield 21, 3) := by decide +kernel
theorem dX0_copyFrom_39 : decode cX0_copyFrom 39 = .ok (.invokestatic 35, 3) := by decide +kernel
theorem dX0_copyFrom_42 : decode cX0_copyFrom 42 = .ok (.aload_n 1, 1) := by decide +kernel
theorem dX0_copyFrom_43 : decode cX0_copyFrom 43 = .ok (.getfield 18, 3) := by decide +kernel
theorem dX0_copyFrom_46 : decode cX0_copyFrom 46 = .ok (.iconst 0, 1) := by decide +kernel
theorem dX0_copyFrom_47 : decode cX0_copyFrom 47 = .ok (.aload_n 0, 1) := by decide +kernel
theorem dX0_copyFrom_48 : decode cX0_copyFrom 48 = .ok (.getfield 18, 3) := by decide +kernel
theorem dX0_copyFrom_51 : decode cX0_copyFrom 51 = .ok (.iconst 0, 1) := by decide +kernel
theorem dX0_copyFrom_52 : decode cX0_copyFrom 52 = .ok (.aload_n 0, 1) := by decide +kernel
theorem dX0_copyFrom_53 : decode cX0_copyFrom 53 = .ok (.getfield 21, 3) := by decide +kernel
theorem dX0_copyFrom_56 : decode cX0_copyFrom 56 = .ok (.invokestatic 35, 3) := by decide +kernel
theorem dX0_copyFrom_59 : decode cX0_copyFrom 59 = .ok (.return_, 1) := by decide +kernel
theorem dX1_init_0 : decode cX1_init 0 = .ok (.aload_n 0, 1) := by decide +kernel
theorem dX1_init_1 : decode cX1_init 1 = .ok (.invokespecial 3, 3) := by decide +kernel
theorem dX1_init_4 : decode cX1_init 4 = .ok (.aload_n 0, 1) := by decide +kernel
theorem dX1_init_5 : decode cX1_init 5 = .ok (.bipush 16, 2) := by decide +kernel
theorem dX1_init_7 : decode cX1_init 7 = .ok (.newarray .int, 2) := by decide +kernel
theorem dX1_init_9 : decode cX1_init 9 = .ok (.putfield 9, 3) := by decide +kernel
theorem dX1_init_12 : decode cX1_init 12 = .ok (.aload_n 0, 1) := by decide +kernel
theorem dX1_init_13 : decode cX1_init 13 = .ok (.bipush 16, 2) := by decide +kernel
theorem dX1_init_15 : decode cX1_init 15 = .ok (.newarray .int, 2) := by decide +kernel
theorem dX1_init_17 : decode cX1_init 17 = .ok (.putfield 15, 3) := by decide +kernel
theorem dX1_init_20 : decode cX1_init 20 = .ok (.aload_n 0, 1) := by decide +kernel
theorem dX1_init_21 : decode cX1_init 21 = .ok (.bipush 16, 2) := by decide +kernel
theorem dX1_init_23 : decode cX1_init 23 = .ok (.newarray .int, 2) := by decide +kernel
theorem dX1_init_25 : decode cX1_init 25 = .ok (.putfield 18, 3) := by decide +kernel
theorem dX1_init_28 : decode cX1_init 28 = .ok (.aload_n 0, 1) := by decide +kernel
theorem dX1_init_29 : decode cX1_init 29 = .ok (.bipush 16, 2) := by decide +kernel
theorem dX1_init_31 : decode cX1_init 31 = .ok (.newarray .int, 2) := by decide +kernel
theorem dX1_init_33 : decode cX1_init 33 = .ok (.putfield 21, 3) := by decide +kernel
theorem dX1_init_36 : decode cX1_init 36 = .ok (.aload_n 0, 1) := by decide +kernel
theorem dX1_init_37 : decode cX1_init 37 = .ok (.bipush 16, 2) := by decide +kernel
theorem dX1_init_39 : decode cX1_init 39 = .ok (.newarray .int, 2) := by decide +kernel
theorem dX1_init_41 : decode cX1_init 41 = .ok (.putfield 24, 3) := by decide +kernel
theorem dX1_init_44 : decode cX1_init 44 = .ok (.return_, 1) := by decide +kernel
theorem dX1_has_0 : decode cX1_has 0 = .ok (.iload_n 1, 1) := by decide +kernel
theorem dX1_has_1 : decode cX1_has 1 = .ok (.ifCond .lt 15, 3) := by decide +kernel
theorem dX1_has_4 : decode cX1_has 4 = .ok (.iload_n 1, 1) := by decide +kernel
theorem dX1_has_5 : decode cX1_has 5 = .ok (.aload_n 0, 1) := by decide +kernel
theorem dX1_has_6 : decode cX1_has 6 = .ok (.getfield 27, 3) := by decide +kernel
theorem dX1_has_9 : decode cX1_has 9 = .ok (.if_icmp .ge 7, 3) := by decide +kernel
theorem dX1_has_12 : decode cX1_has 12 = .ok (.iconst 1, 1) := by decide +kernel
theorem dX1_has_13 : decode cX1_has 13 = .ok (.goto 4, 3) := by decide +kernel
theorem dX1_has_16 : decode cX1_has 16 = .ok (.iconst 0, 1) := by decide +kernel
theorem dX1_has_17 : decode cX1_has 17 = .ok (.ireturn, 1) := by decide +kernel
theorem dX1_append_0 : decode cX1_append 0 = .ok (.aload_n 0, 1) := by decide +kernel
theorem dX1_append_1 : decode cX1_append 1 = .ok (.getfield 27, 3) := by decide +kernel
theorem dX1_append_4 : decode cX1_append 4 = .ok (.bipush 16, 2) := by decide +kernel
theorem dX1_append_6 : decode cX1_append 6 = .ok (.if_icmp .lt 5, 3) := by decide +kernel
theorem dX1_append_9 : decode cX1_append 9 = .ok (.iconst (-1), 1) := by decide +kernel
theorem dX1_append_10 : decode cX1_append 10 = .ok (.ireturn, 1) := by decide +kernel
theorem dX1_append_11 : decode cX1_append 11 = .ok (.aload_n 0, 1) := by decide +kernel
theorem dX1_append_12 : decode cX1_append 12 = .ok (.getfield 27, 3) := by decide +kernel
theorem dX1_append_15 : decode cX1_append 15 = .ok (.istore 4, 2) := by decide +kernel
theorem dX1_append_17 : decode cX1_append 17 = .ok (.aload_n 0, 1) := by decide +kernel
theorem dX1_append_18 : decode cX1_append 18 = .ok (.getfield 9, 3) := by decide +kernel
theorem dX1_append_21 : decode cX1_append 21 = .ok (.iload 4, 2) := by decide +kernel
theorem dX1_append_23 : decode cX1_append 23 = .ok (.iload_n 1, 1) := by decide +kernel
theorem dX1_append_24 : decode cX1_append 24 = .ok (.iastore, 1) := by decide +kernel
theorem dX1_append_25 : decode cX1_append 25 = .ok (.aload_n 0, 1) := by decide +kernel
theorem dX1_append_26 : decode cX1_append 26 = .ok (.getfield 15, 3) := by decide +kernel
theorem dX1_append_29 : decode cX1_append 29 = .ok (.iload 4, 2) := by decide +kernel
theorem dX1_append_31 : decode cX1_append 31 = .ok (.iload_n 2, 1) := by decide +kernel
theorem dX1_append_32 : decode cX1_append 32 = .ok (.iastore, 1) := by decide +kernel
theorem dX1_append_33 : decode cX1_append 33 = .ok (.aload_n 0, 1) := by decide +kernel
theorem dX1_append_34 : decode cX1_append 34 = .ok (.getfield 18, 3) := by decide +kernel
theorem dX1_append_37 : decode cX1_append 37 = .ok (.iload 4, 2) := by decide +kernel
theorem dX1_append_39 : decode cX1_append 39 = .ok (.iload_n 3, 1) := by decide +kernel
theorem dX1_append_40 : decode cX1_append 40 = .ok (.iastore, 1) := by decide +kernel
theorem dX1_append_41 : decode cX1_append 41 = .ok (.aload_n 0, 1) := by decide +kernel
theorem dX1_append_42 : decode cX1_append 42 = .ok (.getfield 21, 3) := by decide +kernel
theorem dX1_append_45 : decode cX1_append 45 = .ok (.iload 4, 2) := by decide +kernel
theorem dX1_append_47 : decode cX1_append 47 = .ok (.iconst 0, 1) := by decide +kernel
theorem dX1_append_48 : decode cX1_append 48 = .ok (.iastore, 1) := by decide +kernel
theorem dX1_append_49 : decode cX1_append 49 = .ok (.aload_n 0, 1) := by decide +kernel
theorem dX1_append_50 : decode cX1_append 50 = .ok (.getfield 24, 3) := by decide +kernel
theorem dX1_append_53 : decode cX1_append 53 = .ok (.iload 4, 2) := by decide +kernel
theorem dX1_append_55 : decode cX1_append 55 = .ok (.iconst 0, 1) := by decide +kernel
theorem dX1_append_56 : decode cX1_append 56 = .ok (.iastore, 1) := by decide +kernel
theorem dX1_append_57 : decode cX1_append 57 = .ok (.aload_n 0, 1) := by decide +kernel
theorem dX1_append_58 : decode cX1_append 58 = .ok (.dup, 1) := by decide +kernel
theorem dX1_append_59 : decode cX1_append 59 = .ok (.getfield 27, 3) := by decide +kernel
theorem dX1_append_62 : decode cX1_append 62 = .ok (.iconst 1, 1) := by decide +kernel
theorem dX1_append_63 : decode cX1_append 63 = .ok (.iadd, 1) := by decide +kernel
theorem dX1_append_64 : decode cX1_append 64 = .ok (.putfield 27, 3) := by decide +kernel
theorem dX1_append_67 : decode cX1_append 67 = .ok (.iload 4, 2) := by decide +kernel
theorem dX1_append_69 : decode cX1_append 69 = .ok (.ireturn, 1) := by decide +kernel
set_option maxRecDepth 20000 in
theorem ggX1_heightOf_X1_has : GoodIn wsX1_heightOf wsX1_has := goodIn_r _ [6, 7, 8, 9, 10, 11, 12, 13] (by decide +kernel) (by decide +kernel)
set_option maxRecDepth 20000 in
theorem gX1_heightOf_X1_has : GoodIn wsX1_heightOf (wsV RX1 31 RX1 yX1_has wsX1_has) := goodIn_app (goodIn_of _ (by decide +kernel)) ggX1_heightOf_X1_has
theorem dX1_heightOf_0 : decode cX1_heightOf 0 = .ok (.aload_n 0, 1) := by decide +kernel
theorem dX1_heightOf_1 : decode cX1_heightOf 1 = .ok (.iload_n 1, 1) := by decide +kernel
theorem dX1_heightOf_2 : decode cX1_heightOf 2 = .ok (.invokevirtual 31, 3) := by decide +kernel
theorem dX1_heightOf_5 : decode cX1_heightOf 5 = .ok (.ifCond .eq 12, 3) := by decide +kernel
theorem dX1_heightOf_8 : decode cX1_heightOf 8 = .ok (.aload_n 0, 1) := by decide +kernel
theorem dX1_heightOf_9 : decode cX1_heightOf 9 = .ok (.getfield 9, 3) := by decide +kernel
theorem dX1_heightOf_12 : decode cX1_heightOf 12 = .ok (.iload_n 1, 1) := by decide +kernel
theorem dX1_heightOf_13 : decode cX1_heightOf 13 = .ok (.iaload, 1) := by decide +kernel
theorem dX1_heightOf_14 : decode cX1_heightOf 14 = .ok (.goto 4, 3) := by decide +kernel
theorem dX1_heightOf_17 : decode cX1_heightOf 17 = .ok (.iconst 0, 1) := by decide +kernel
theorem dX1_heightOf_18 : decode cX1_heightOf 18 = .ok (.ireturn, 1) := by decide +kernel
set_option maxRecDepth 20000 in
theorem ggX1_gets_X1_has : GoodIn wsX1_gets wsX1_has := goodIn_r _ [7, 8, 9, 10, 11, 12, 13, 14] (by decide +kernel) (by decide +kernel)
set_option maxRecDepth 20000 in
theorem gX1_gets_X1_has : GoodIn wsX1_gets (wsV RX1 31 RX1 yX1_has wsX1_has) := goodIn_app (goodIn_of _ (by decide +kernel)) ggX1_gets_X1_has
theorem dX1_gets_0 : decode cX1_gets 0 = .ok (.aload_n 0, 1) := by decide +kernel
theorem dX1_gets_1 : decode cX1_gets 1 = .ok (.iload_n 1, 1) := by decide +kernel
theorem dX1_gets_2 : decode cX1_gets 2 = .ok (.invokevirtual 31, 3) := by decide +kernel
theorem dX1_gets_5 : decode cX1_gets 5 = .ok (.ifCond .ne 5, 3) := by decide +kernel
theorem dX1_gets_8 : decode cX1_gets 8 = .ok (.iconst 0, 1) := by decide +kernel
theorem dX1_gets_9 : decode cX1_gets 9 = .ok (.ireturn, 1) := by decide +kernel
theorem dX1_gets_10 : decode cX1_gets 10 = .ok (.aload_n 0, 1) := by decide +kernel
theorem dX1_gets_11 : decode cX1_gets 11 = .ok (.getfield 21, 3) := by decide +kernel
theorem dX1_gets_14 : decode cX1_gets 14 = .ok (.iload_n 1, 1) := by decide +kernel
theorem dX1_gets_15 : decode cX1_gets 15 = .ok (.dup2, 1) := by decide +kernel
theorem dX1_gets_16 : decode cX1_gets 16 = .ok (.iaload, 1) := by decide +kernel
theorem dX1_gets_17 : decode cX1_gets 17 = .ok (.iconst 1, 1) := by decide +kernel
theorem dX1_gets_18 : decode cX1_gets 18 = .ok (.iadd, 1) := by decide +kernel
theorem dX1_gets_19 : decode cX1_gets 19 = .ok (.iastore, 1) := by decide +kernel
theorem dX1_gets_20 : decode cX1_gets 20 = .ok (.aload_n 0, 1) := by decide +kernel
theorem dX1_gets_21 : decode cX1_gets 21 = .ok (.getfield 15, 3) := by decide +kernel
theorem dX1_gets_24 : decode cX1_gets 24 = .ok (.iload_n 1, 1) := by decide +kernel
theorem dX1_gets_25 : decode cX1_gets 25 = .ok (.iaload, 1) := by decide +kernel
theorem dX1_gets_26 : decode cX1_gets 26 = .ok (.ifCond .le 23, 3) := by decide +kernel
theorem dX1_gets_29 : decode cX1_gets 29 = .ok (.aload_n 0, 1) := by decide +kernel
theorem dX1_gets_30 : decode cX1_gets 30 = .ok (.getfield 21, 3) := by decide +kernel
theorem dX1_gets_33 : decode cX1_gets 33 = .ok (.iload_n 1, 1) := by decide +kernel
theorem dX1_gets_34 : decode cX1_gets 34 = .ok (.iaload, 1) := by decide +kernel
theorem dX1_gets_35 : decode cX1_gets 35 = .ok (.aload_n 0, 1) := by decide +kernel
theorem dX1_gets_36 : decode cX1_gets 36 = .ok (.getfield 15, 3) := by decide +kernel
theorem dX1_gets_39 : decode cX1_gets 39 = .ok (.iload_n 1, 1) := by decide +kernel
theorem dX1_gets_40 : decode cX1_gets 40 = .ok (.iaload, 1) := by decide +kernel
theorem dX1_gets_41 : decode cX1_gets 41 = .ok (.irem, 1) := by decide +kernel
theorem dX1_gets_42 : decode cX1_gets 42 = .ok (.ifCond .ne 7, 3) := by decide +kernel
theorem dX1_gets_45 : decode cX1_gets 45 = .ok (.iconst 1, 1) := by decide +kernel
theorem dX1_gets_46 : decode cX1_gets 46 = .ok (.goto 4, 3) := by decide +kernel
theorem dX1_gets_49 : decode cX1_gets 49 = .ok (.iconst 0, 1) := by decide +kernel
theorem dX1_gets_50 : decode cX1_gets 50 = .ok (.ireturn, 1) := by decide +kernel
set_option maxRecDepth 20000 in
theorem ggX1_fact_X1_has : GoodIn wsX1_fact wsX1_has := goodIn_r _ [10, 11, 12, 13, 14, 15, 16, 17] (by decide +kernel) (by decide +kernel)
set_option maxRecDepth 20000 in
theorem gX1_fact_X1_has : GoodIn wsX1_fact (wsV RX1 31 RX1 yX1_has wsX1_has) := goodIn_app (goodIn_of _ (by decide +kernel)) ggX1_fact_X1_has
theorem dX1_fact_0 : decode cX1_fact 0 = .ok (.aload_n 0, 1) := by decide +kernel
theorem dX1_fact_1 : decode cX1_fact 1 = .ok (.iload_n 1, 1) := by decide +kernel
theorem dX1_fact_2 : decode cX1_fact 2 = .ok (.invokevirtual 31, 3) := by decide +kernel
theorem dX1_fact_5 : decode cX1_fact 5 = .ok (.ifCond .ne 5, 3) := by decide +kernel
theorem dX1_fact_8 : decode cX1_fact 8 = .ok (.iconst 0, 1) := by decide +kernel
theorem dX1_fact_9 : decode cX1_fact 9 = .ok (.ireturn, 1) := by decide +kernel
theorem dX1_fact_10 : decode cX1_fact 10 = .ok (.iload_n 2, 1) := by decide +kernel
theorem dX1_fact_11 : decode cX1_fact 11 = .ok (.tableswitch 68 0 4 #[33, 40, 47, 54, 61], 33) := by decide +kernel
theorem dX1_fact_44 : decode cX1_fact 44 = .ok (.aload_n 0, 1) := by decide +kernel
theorem dX1_fact_45 : decode cX1_fact 45 = .ok (.getfield 9, 3) := by decide +kernel
theorem dX1_fact_48 : decode cX1_fact 48 = .ok (.iload_n 1, 1) := by decide +kernel
theorem dX1_fact_49 : decode cX1_fact 49 = .ok (.iaload, 1) := by decide +kernel
theorem dX1_fact_50 : decode cX1_fact 50 = .ok (.ireturn, 1) := by decide +kernel
theorem dX1_fact_51 : decode cX1_fact 51 = .ok (.aload_n 0, 1) := by decide +kernel
theorem dX1_fact_52 : decode cX1_fact 52 = .ok (.getfield 15, 3) := by decide +kernel
theorem dX1_fact_55 : decode cX1_fact 55 = .ok (.iload_n 1, 1) := by decide +kernel
theorem dX1_fact_56 : decode cX1_fact 56 = .ok (.iaload, 1) := by decide +kernel
theorem dX1_fact_57 : decode cX1_fact 57 = .ok (.ireturn, 1) := by decide +kernel
theorem dX1_fact_58 : decode cX1_fact 58 = .ok (.aload_n 0, 1) := by decide +kernel
theorem dX1_fact_59 : decode cX1_fact 59 = .ok (.getfield 18, 3) := by decide +kernel
theorem dX1_fact_62 : decode cX1_fact 62 = .ok (.iload_n 1, 1) := by decide +kernel
theorem dX1_fact_63 : decode cX1_fact 63 = .ok (.iaload, 1) := by decide +kernel
theorem dX1_fact_64 : decode cX1_fact 64 = .ok (.ireturn, 1) := by decide +kernel
theorem dX1_fact_65 : decode cX1_fact 65 = .ok (.aload_n 0, 1) := by decide +kernel
theorem dX1_fact_66 : decode cX1_fact 66 = .ok (.getfield 21, 3) := by decide +kernel
theorem dX1_fact_69 : decode cX1_fact 69 = .ok (.iload_n 1, 1) := by decide +kernel
theorem dX1_fact_70 : decode cX1_fact 70 = .ok (.iaload, 1) := by decide +kernel
theorem dX1_fact_71 : decode cX1_fact 71 = .ok (.ireturn, 1) := by decide +kernel
theorem dX1_fact_72 : decode cX1_fact 72 = .ok (.aload_n 0, 1) := by decide +kernel
theorem dX1_fact_73 : decode cX1_fact 73 = .ok (.getfield 24, 3) := by decide +kernel
theorem dX1_fact_76 : decode cX1_fact 76 = .ok (.iload_n 1, 1) := by decide +kernel
theorem dX1_fact_77 : decode cX1_fact 77 = .ok (.iaload, 1) := by decide +kernel
theorem dX1_fact_78 : decode cX1_fact 78 = .ok (.ireturn, 1) := by decide +kernel
theorem dX1_fact_79 : decode cX1_fact 79 = .ok (.iconst 0, 1) := by decide +kernel
theorem dX1_fact_80 : decode cX1_fact 80 = .ok (.ireturn, 1) := by decide +kernel
set_option maxRecDepth 20000 in
theorem ggX1_digestFrom_X1_fact : GoodIn wsX1_digestFrom wsX1_fact := goodIn_r _ [7, 8, 9, 10, 11, 12, 13, 14, 15, 6, 16, 1, 17, 18, 19, 20, 21, 22] (by decide +kernel) (by decide +kernel)
set_option maxRecDepth 20000 in
theorem gX1_digestFrom_X1_fact : GoodIn wsX1_digestFrom (wsV RX1 37 RX1 yX1_fact wsX1_fact) := goodIn_app (goodIn_of _ (by decide +kernel)) ggX1_digestFrom_X1_fact
theorem dX1_digestFrom_0 : decode cX1_digestFrom 0 = .ok (.lload_n 1, 1) := by decide +kernel
theorem dX1_digestFrom_1 : decode cX1_digestFrom 1 = .ok (.lstore_n 3, 1) := by decide +kernel
theorem dX1_digestFrom_2 : decode cX1_digestFrom 2 = .ok (.iconst 0, 1) := by decide +kernel
theorem dX1_digestFrom_3 : decode cX1_digestFrom 3 = .ok (.istore 5, 2) := by decide +kernel
theorem dX1_digestFrom_5 : decode cX1_digestFrom 5 = .ok (.iload 5, 2) := by decide +kernel
theorem dX1_digestFrom_7 : decode cX1_digestFrom 7 = .ok (.aload_n 0, 1) := by decide +kernel
theorem dX1_digestFrom_8 : decode cX1_digestFrom 8 = .ok (.getfield 27, 3) := by decide +kernel
theorem dX1_digestFrom_11 : decode cX1_digestFrom 11 = .ok (.if_icmp .ge 40, 3) := by decide +kernel
theorem dX1_digestFrom_14 : decode cX1_digestFrom 14 = .ok (.iconst 0, 1) := by decide +kernel
theorem dX1_digestFrom_15 : decode cX1_digestFrom 15 = .ok (.istore 6, 2) := by decide +kernel
theorem dX1_digestFrom_17 : decode cX1_digestFrom 17 = .ok (.iload 6, 2) := by decide +kernel
theorem dX1_digestFrom_19 : decode cX1_digestFrom 19 = .ok (.iconst 5, 1) := by decide +kernel
theorem dX1_digestFrom_20 : decode cX1_digestFrom 20 = .ok (.if_icmp .ge 25, 3) := by decide +kernel
theorem dX1_digestFrom_23 : decode cX1_digestFrom 23 = .ok (.lload_n 3, 1) := by decide +kernel
theorem dX1_digestFrom_24 : decode cX1_digestFrom 24 = .ok (.ldc2_w 35, 3) := by decide +kernel
theorem dX1_digestFrom_27 : decode cX1_digestFrom 27 = .ok (.lmul, 1) := by decide +kernel
theorem dX1_digestFrom_28 : decode cX1_digestFrom 28 = .ok (.aload_n 0, 1) := by decide +kernel
theorem dX1_digestFrom_29 : decode cX1_digestFrom 29 = .ok (.iload 5, 2) := by decide +kernel
theorem dX1_digestFrom_31 : decode cX1_digestFrom 31 = .ok (.iload 6, 2) := by decide +kernel
theorem dX1_digestFrom_33 : decode cX1_digestFrom 33 = .ok (.invokevirtual 37, 3) := by decide +kernel
theorem dX1_digestFrom_36 : decode cX1_digestFrom 36 = .ok (.i2l, 1) := by decide +kernel
theorem dX1_digestFrom_37 : decode cX1_digestFrom 37 = .ok (.ladd, 1) := by decide +kernel
theorem dX1_digestFrom_38 : decode cX1_digestFrom 38 = .ok (.lstore_n 3, 1) := by decide +kernel
theorem dX1_digestFrom_39 : decode cX1_digestFrom 39 = .ok (.iinc 6 1, 3) := by decide +kernel
theorem dX1_digestFrom_42 : decode cX1_digestFrom 42 = .ok (.goto (-25), 3) := by decide +kernel
theorem dX1_digestFrom_45 : decode cX1_digestFrom 45 = .ok (.iinc 5 1, 3) := by decide +kernel
theorem dX1_digestFrom_48 : decode cX1_digestFrom 48 = .ok (.goto (-43), 3) := by decide +kernel
theorem dX1_digestFrom_51 : decode cX1_digestFrom 51 = .ok (.lload_n 3, 1) := by decide +kernel
theorem dX1_digestFrom_52 : decode cX1_digestFrom 52 = .ok (.lreturn, 1) := by decide +kernel
theorem dX1_copyFrom_0 : decode cX1_copyFrom 0 = .ok (.aload_n 0, 1) := by decide +kernel
theorem dX1_copyFrom_1 : decode cX1_copyFrom 1 = .ok (.aload_n 1, 1) := by decide +kernel
theorem dX1_copyFrom_2 : decode cX1_copyFrom 2 = .ok (.getfield 27, 3) := by decide +kernel
theorem dX1_copyFrom_5 : decode cX1_copyFrom 5 = .ok (.putfield 27, 3) := by decide +kernel
theorem dX1_copyFrom_8 : decode cX1_copyFrom 8 = .ok (.aload_n 1, 1) := by decide +kernel
theorem dX1_copyFrom_9 : decode cX1_copyFrom 9 = .ok (.getfield 9, 3) := by decide +kernel
theorem dX1_copyFrom_12 : decode cX1_copyFrom 12 = .ok (.iconst 0, 1) := by decide +kernel
theorem dX1_copyFrom_13 : decode cX1_copyFrom 13 = .ok (.aload_n 0, 1) := by decide +kernel
theorem dX1_copyFrom_14 : decode cX1_copyFrom 14 = .ok (.getfield 9, 3) := by decide +kernel
theorem dX1_copyFrom_17 : decode cX1_copyFrom 17 = .ok (.iconst 0, 1) := by decide +kernel
theorem dX1_copyFrom_18 : decode cX1_copyFrom 18 = .ok (.aload_n 0, 1) := by decide +kernel
theorem dX1_copyFrom_19 : decode cX1_copyFrom 19 = .ok (.getfield 27, 3) := by decide +kernel
theorem dX1_copyFrom_22 : decode cX1_copyFrom 22 = .ok (.invokestatic 41, 3) := by decide +kernel
theorem dX1_copyFrom_25 : decode cX1_copyFrom 25 = .ok (.aload_n 1, 1) := by decide +kernel
theorem dX1_copyFrom_26 : decode cX1_copyFrom 26 = .ok (.getfield 15, 3) := by decide +kernel
theorem dX1_copyFrom_29 : decode cX1_copyFrom 29 = .ok (.iconst 0, 1) := by decide +kernel
theorem dX1_copyFrom_30 : decode cX1_copyFrom 30 = .ok (.aload_n 0, 1) := by decide +kernel
theorem dX1_copyFrom_31 : decode cX1_copyFrom 31 = .ok (.getfield 15, 3) := by decide +kernel
theorem dX1_copyFrom_34 : decode cX1_copyFrom 34 = .ok (.iconst 0, 1) := by decide +kernel
theorem dX1_copyFrom_35 : decode cX1_copyFrom 35 = .ok (.aload_n 0, 1) := by decide +kernel
theorem dX1_copyFrom_36 : decode cX1_copyFrom 36 = .ok (.getfield 27, 3) := by decide +kernel
theorem dX1_copyFrom_39 : decode cX1_copyFrom 39 = .ok (.invokestatic 41, 3) := by decide +kernel
theorem dX1_copyFrom_42 : decode cX1_copyFrom 42 = .ok (.aload_n 1, 1) := by decide +kernel
theorem dX1_copyFrom_43 : decode cX1_copyFrom 43 = .ok (.getfield 18, 3) := by decide +kernel
theorem dX1_copyFrom_46 : decode cX1_copyFrom 46 = .ok (.iconst 0, 1) := by decide +kernel
theorem dX1_copyFrom_47 : decode cX1_copyFrom 47 = .ok (.aload_n 0, 1) := by decide +kernel
theorem dX1_copyFrom_48 : decode cX1_copyFrom 48 = .ok (.getfield 18, 3) := by decide +kernel
theorem dX1_copyFrom_51 : decode cX1_copyFrom 51 = .ok (.iconst 0, 1) := by decide +kernel
theorem dX1_copyFrom_52 : decode cX1_copyFrom 52 = .ok (.aload_n 0, 1) := by decide +kernel
theorem dX1_copyFrom_53 : decode cX1_copyFrom 53 = .ok (.getfield 27, 3) := by decide +kernel
theorem dX1_copyFrom_56 : decode cX1_copyFrom 56 = .ok (.invokestatic 41, 3) := by decide +kernel
theorem dX1_copyFrom_59 : decode cX1_copyFrom 59 = .ok (.aload_n 1, 1) := by decide +kernel
theorem dX1_copyFrom_60 : decode cX1_copyFrom 60 = .ok (.getfield 21, 3) := by decide +kernel
theorem dX1_copyFrom_63 : decode cX1_copyFrom 63 = .ok (.iconst 0, 1) := by decide +kernel
theorem dX1_copyFrom_64 : decode cX1_copyFrom 64 = .ok (.aload_n 0, 1) := by decide +kernel
theorem dX1_copyFrom_65 : decode cX1_copyFrom 65 = .ok (.getfield 21, 3) := by decide +kernel
theorem dX1_copyFrom_68 : decode cX1_copyFrom 68 = .ok (.iconst 0, 1) := by decide +kernel
theorem dX1_copyFrom_69 : decode cX1_copyFrom 69 = .ok (.aload_n 0, 1) := by decide +kernel
theorem dX1_copyFrom_70 : decode cX1_copyFrom 70 = .ok (.getfield 27, 3) := by decide +kernel
theorem dX1_copyFrom_73 : decode cX1_copyFrom 73 = .ok (.invokestatic 41, 3) := by decide +kernel
theorem dX1_copyFrom_76 : decode cX1_copyFrom 76 = .ok (.aload_n 1, 1) := by decide +kernel
theorem dX1_copyFrom_77 : decode cX1_copyFrom 77 = .ok (.getfield 24, 3) := by decide +kernel
theorem dX1_copyFrom_80 : decode cX1_copyFrom 80 = .ok (.iconst 0, 1) := by decide +kernel
theorem dX1_copyFrom_81 : decode cX1_copyFrom 81 = .ok (.aload_n 0, 1) := by decide +kernel
theorem dX1_copyFrom_82 : decode cX1_copyFrom 82 = .ok (.getfield 24, 3) := by decide +kernel
theorem dX1_copyFrom_85 : decode cX1_copyFrom 85 = .ok (.iconst 0, 1) := by decide +kernel
theorem dX1_copyFrom_86 : decode cX1_copyFrom 86 = .ok (.aload_n 0, 1) := by decide +kernel
theorem dX1_copyFrom_87 : decode cX1_copyFrom 87 = .ok (.getfield 27, 3) := by decide +kernel
theorem dX1_copyFrom_90 : decode cX1_copyFrom 90 = .ok (.invokestatic 41, 3) := by decide +kernel
theorem dX1_copyFrom_93 : decode cX1_copyFrom 93 = .ok (.return_, 1) := by decide +kernel
theorem dX2_init_0 : decode cX2_init 0 = .ok (.aload_n 0, 1) := by decide +kernel
theorem dX2_init_1 : decode cX2_init 1 = .ok (.invokespecial 3, 3) := by decide +kernel
theorem dX2_init_4 : decode cX2_init 4 = .ok (.aload_n 0, 1) := by decide +kernel
theorem dX2_init_5 : decode cX2_init 5 = .ok (.sipush 150, 3) := by decide +kernel
theorem dX2_init_8 : decode cX2_init 8 = .ok (.newarray .int, 2) := by decide +kernel
theorem dX2_init_10 : decode cX2_init 10 = .ok (.putfield 9, 3) := by decide +kernel
theorem dX2_init_13 : decode cX2_init 13 = .ok (.aload_n 0, 1) := by decide +kernel
theorem dX2_init_14 : decode cX2_init 14 = .ok (.sipush 150, 3) := by decide +kernel
theorem dX2_init_17 : decode cX2_init 17 = .ok (.newarray .int, 2) := by decide +kernel
theorem dX2_init_19 : decode cX2_init 19 = .ok (.putfield 15, 3) := by decide +kernel
theorem dX2_init_22 : decode cX2_init 22 = .ok (.aload_n 0, 1) := by decide +kernel
theorem dX2_init_23 : decode cX2_init 23 = .ok (.sipush 150, 3) := by decide +kernel
theorem dX2_init_26 : decode cX2_init 26 = .ok (.newarray .int, 2) := by decide +kernel
theorem dX2_init_28 : decode cX2_init 28 = .ok (.putfield 18, 3) := by decide +kernel
theorem dX2_init_31 : decode cX2_init 31 = .ok (.aload_n 0, 1) := by decide +kernel
theorem dX2_init_32 : decode cX2_init 32 = .ok (.sipush 150, 3) := by decide +kernel
theorem dX2_init_35 : decode cX2_init 35 = .ok (.newarray .int, 2) := by decide +kernel
theorem dX2_init_37 : decode cX2_init 37 = .ok (.putfield 21, 3) := by decide +kernel
theorem dX2_init_40 : decode cX2_init 40 = .ok (.aload_n 0, 1) := by decide +kernel
theorem dX2_init_41 : decode cX2_init 41 = .ok (.sipush 150, 3) := by decide +kernel
theorem dX2_init_44 : decode cX2_init 44 = .ok (.newarray .int, 2) := by decide +kernel
theorem dX2_init_46 : decode cX2_init 46 = .ok (.putfield 24, 3) := by decide +kernel
theorem dX2_init_49 : decode cX2_init 49 = .ok (.aload_n 0, 1) := by decide +kernel
theorem dX2_init_50 : decode cX2_init 50 = .ok (.sipush 150, 3) := by decide +kernel
theorem dX2_init_53 : decode cX2_init 53 = .ok (.newarray .int, 2) := by decide +kernel
theorem dX2_init_55 : decode cX2_init 55 = .ok (.putfield 27, 3) := by decide +kernel
theorem dX2_init_58 : decode cX2_init 58 = .ok (.aload_n 0, 1) := by decide +kernel
theorem dX2_init_59 : decode cX2_init 59 = .ok (.sipush 150, 3) := by decide +kernel
theorem dX2_init_62 : decode cX2_init 62 = .ok (.newarray .int, 2) := by decide +kernel
theorem dX2_init_64 : decode cX2_init 64 = .ok (.putfield 30, 3) := by decide +kernel
theorem dX2_init_67 : decode cX2_init 67 = .ok (.aload_n 0, 1) := by decide +kernel
theorem dX2_init_68 : decode cX2_init 68 = .ok (.sipush 150, 3) := by decide +kernel
theorem dX2_init_71 : decode cX2_init 71 = .ok (.newarray .int, 2) := by decide +kernel
theorem dX2_init_73 : decode cX2_init 73 = .ok (.putfield 33, 3) := by decide +kernel
theorem dX2_init_76 : decode cX2_init 76 = .ok (.aload_n 0, 1) := by decide +kernel
theorem dX2_init_77 : decode cX2_init 77 = .ok (.sipush 150, 3) := by decide +kernel
theorem dX2_init_80 : decode cX2_init 80 = .ok (.newarray .int, 2) := by decide +kernel
theorem dX2_init_82 : decode cX2_init 82 = .ok (.putfield 36, 3) := by decide +kernel
theorem dX2_init_85 : decode cX2_init 85 = .ok (.return_, 1) := by decide +kernel
theorem dX2_has_0 : decode cX2_has 0 = .ok (.iload_n 1, 1) := by decide +kernel
theorem dX2_has_1 : decode cX2_has 1 = .ok (.ifCond .lt 15, 3) := by decide +kernel
theorem dX2_has_4 : decode cX2_has 4 = .ok (.iload_n 1, 1) := by decide +kernel
theorem dX2_has_5 : decode cX2_has 5 = .ok (.aload_n 0, 1) := by decide +kernel
theorem dX2_has_6 : decode cX2_has 6 = .ok (.getfield 39, 3) := by decide +kernel
theorem dX2_has_9 : decode cX2_has 9 = .ok (.if_icmp .ge 7, 3) := by decide +kernel
theorem dX2_has_12 : decode cX2_has 12 = .ok (.iconst 1, 1) := by decide +kernel
theorem dX2_has_13 : decode cX2_has 13 = .ok (.goto 4, 3) := by decide +kernel
theorem dX2_has_16 : decode cX2_has 16 = .ok (.iconst 0, 1) := by decide +kernel
theorem dX2_has_17 : decode cX2_has 17 = .ok (.ireturn, 1) := by decide +kernel
theorem dX2_append_0 : decode cX2_append 0 = .ok (.aload_n 0, 1) := by decide +kernel
theorem dX2_append_1 : decode cX2_append 1 = .ok (.getfield 39, 3) := by decide +kernel
theorem dX2_append_4 : decode cX2_append 4 = .ok (.sipush 150, 3) := by decide +kernel
theorem dX2_append_7 : decode cX2_append 7 = .ok (.if_icmp .lt 5, 3) := by decide +kernel
theorem dX2_append_10 : decode cX2_append 10 = .ok (.iconst (-1), 1) := by decide +kernel
theorem dX2_append_11 : decode cX2_append 11 = .ok (.ireturn, 1) := by decide +kernel
theorem dX2_append_12 : decode cX2_append 12 = .ok (.aload_n 0, 1) := by decide +kernel
theorem dX2_append_13 : decode cX2_append 13 = .ok (.getfield 39, 3) := by decide +kernel
theorem dX2_append_16 : decode cX2_append 16 = .ok (.istore 4, 2) := by decide +kernel
theorem dX2_append_18 : decode cX2_append 18 = .ok (.aload_n 0, 1) := by decide +kernel
theorem dX2_append_19 : decode cX2_append 19 = .ok (.getfield 9, 3) := by decide +kernel
theorem dX2_append_22 : decode cX2_append 22 = .ok (.iload 4, 2) := by decide +kernel
theorem dX2_append_24 : decode cX2_append 24 = .ok (.iload_n 1, 1) := by decide +kernel
theorem dX2_append_25 : decode cX2_append 25 = .ok (.iastore, 1) := by decide +kernel
theorem dX2_append_26 : decode cX2_append 26 = .ok (.aload_n 0, 1) := by decide +kernel
theorem dX2_append_27 : decode cX2_append 27 = .ok (.getfield 15, 3) := by decide +kernel
theorem dX2_append_30 : decode cX2_append 30 = .ok (.iload 4, 2) := by decide +kernel
theorem dX2_append_32 : decode cX2_append 32 = .ok (.iload_n 2, 1) := by decide +kernel
theorem dX2_append_33 : decode cX2_append 33 = .ok (.iastore, 1) := by decide +kernel
theorem dX2_append_34 : decode cX2_append 34 = .ok (.aload_n 0, 1) := by decide +kernel
theorem dX2_append_35 : decode cX2_append 35 = .ok (.getfield 18, 3) := by decide +kernel
theorem dX2_append_38 : decode cX2_append 38 = .ok (.iload 4, 2) := by decide +kernel
theorem dX2_append_40 : decode cX2_append 40 = .ok (.iload_n 3, 1) := by decide +kernel
theorem dX2_append_41 : decode cX2_append 41 = .ok (.iastore, 1) := by decide +kernel
theorem dX2_append_42 : decode cX2_append 42 = .ok (.aload_n 0, 1) := by decide +kernel
theorem dX2_append_43 : decode cX2_append 43 = .ok (.getfield 21, 3) := by decide +kernel
theorem dX2_append_46 : decode cX2_append 46 = .ok (.iload 4, 2) := by decide +kernel
theorem dX2_append_48 : decode cX2_append 48 = .ok (.iconst 0, 1) := by decide +kernel
theorem dX2_append_49 : decode cX2_append 49 = .ok (.iastore, 1) := by decide +kernel
theorem dX2_append_50 : decode cX2_append 50 = .ok (.aload_n 0, 1) := by decide +kernel
theorem dX2_append_51 : decode cX2_append 51 = .ok (.getfield 24, 3) := by decide +kernel
theorem dX2_append_54 : decode cX2_append 54 = .ok (.iload 4, 2) := by decide +kernel
theorem dX2_append_56 : decode cX2_append 56 = .ok (.iconst 0, 1) := by decide +kernel
theorem dX2_append_57 : decode cX2_append 57 = .ok (.iastore, 1) := by decide +kernel
theorem dX2_append_58 : decode cX2_append 58 = .ok (.aload_n 0, 1) := by decide +kernel
theorem dX2_append_59 : decode cX2_append 59 = .ok (.getfield 27, 3) := by decide +kernel
theorem dX2_append_62 : decode cX2_append 62 = .ok (.iload 4, 2) := by decide +kernel
theorem dX2_append_64 : decode cX2_append 64 = .ok (.iconst (-1), 1) := by decide +kernel
theorem dX2_append_65 : decode cX2_append 65 = .ok (.iastore, 1) := by decide +kernel
theorem dX2_append_66 : decode cX2_append 66 = .ok (.aload_n 0, 1) := by decide +kernel
theorem dX2_append_67 : decode cX2_append 67 = .ok (.getfield 30, 3) := by decide +kernel
theorem dX2_append_70 : decode cX2_append 70 = .ok (.iload 4, 2) := by decide +kernel
theorem dX2_append_72 : decode cX2_append 72 = .ok (.iconst 0, 1) := by decide +kernel
theorem dX2_append_73 : decode cX2_append 73 = .ok (.iastore, 1) := by decide +kernel
theorem dX2_append_74 : decode cX2_append 74 = .ok (.aload_n 0, 1) := by decide +kernel
theorem dX2_append_75 : decode cX2_append 75 = .ok (.getfield 33, 3) := by decide +kernel
theorem dX2_append_78 : decode cX2_append 78 = .ok (.iload 4, 2) := by decide +kernel
theorem dX2_append_80 : decode cX2_append 80 = .ok (.iconst 0, 1) := by decide +kernel
theorem dX2_append_81 : decode cX2_append 81 = .ok (.iastore, 1) := by decide +kernel
theorem dX2_append_82 : decode cX2_append 82 = .ok (.aload_n 0, 1) := by decide +kernel
theorem dX2_append_83 : decode cX2_append 83 = .ok (.getfield 36, 3) := by decide +kernel
theorem dX2_append_86 : decode cX2_append 86 = .ok (.iload 4, 2) := by decide +kernel
theorem dX2_append_88 : decode cX2_append 88 = .ok (.iconst (-1), 1) := by decide +kernel
theorem dX2_append_89 : decode cX2_append 89 = .ok (.iastore, 1) := by decide +kernel
theorem dX2_append_90 : decode cX2_append 90 = .ok (.aload_n 0, 1) := by decide +kernel
theorem dX2_append_91 : decode cX2_append 91 = .ok (.dup, 1) := by decide +kernel
theorem dX2_append_92 : decode cX2_append 92 = .ok (.getfield 39, 3) := by decide +kernel
theorem dX2_append_95 : decode cX2_append 95 = .ok (.iconst 1, 1) := by decide +kernel
theorem dX2_append_96 : decode cX2_append 96 = .ok (.iadd, 1) := by decide +kernel
theorem dX2_append_97 : decode cX2_append 97 = .ok (.putfield 39, 3) := by decide +kernel
theorem dX2_append_100 : decode cX2_append 100 = .ok (.iload 4, 2) := by decide +kernel
theorem dX2_append_102 : decode cX2_append 102 = .ok (.ireturn, 1) := by decide +kernel
set_option maxRecDepth 20000 in
theorem ggX2_answer_X2_has : GoodIn wsX2_answer wsX2_has := goodIn_r _ [11, 12, 20, 21, 22, 23, 24, 25, 26, 27, 28, 29] (by decide +kernel) (by decide +kernel)
set_option maxRecDepth 20000 in
theorem gX2_answer_X2_has : GoodIn wsX2_answer (wsV RX2 43 RX2 yX2_has wsX2_has) := goodIn_app (goodIn_of _ (by decide +kernel)) ggX2_answer_X2_has
set_option maxRecDepth 20000 in
theorem ggX2_answer_X2_append : GoodIn wsX2_answer wsX2_append := goodIn_r _ [16, 12, 1, 2, 3, 4, 17, 18, 19, 5, 6, 20, 21, 22, 23, 24, 25, 26, 27, 28, 29] (by decide +kernel) (by decide +kernel)
set_option maxRecDepth 20000 in
theorem gX2_answer_X2_append : GoodIn wsX2_answer (wsV RX2 47 RX2 yX2_append wsX2_append) := goodIn_app (goodIn_of _ (by decide +kernel)) ggX2_answer_X2_append
theorem dX2_answer_0 : decode cX2_answer 0 = .ok (.aload_n 0, 1) := by decide +kernel
theorem dX2_answer_1 : decode cX2_answer 1 = .ok (.iload_n 1, 1) := by decide +kernel
theorem dX2_answer_2 : decode cX2_answer 2 = .ok (.invokevirtual 43, 3) := by decide +kernel
theorem dX2_answer_5 : decode cX2_answer 5 = .ok (.ifCond .ne 5, 3) := by decide +kernel
theorem dX2_answer_8 : decode cX2_answer 8 = .ok (.iconst 0, 1) := by decide +kernel
theorem dX2_answer_9 : decode cX2_answer 9 = .ok (.ireturn, 1) := by decide +kernel
theorem dX2_answer_10 : decode cX2_answer 10 = .ok (.aload_n 0, 1) := by decide +kernel
theorem dX2_answer_11 : decode cX2_answer 11 = .ok (.aload_n 0, 1) := by decide +kernel
theorem dX2_answer_12 : decode cX2_answer 12 = .ok (.getfield 9, 3) := by decide +kernel
theorem dX2_answer_15 : decode cX2_answer 15 = .ok (.iload_n 1, 1) := by decide +kernel
theorem dX2_answer_16 : decode cX2_answer 16 = .ok (.iaload, 1) := by decide +kernel
theorem dX2_answer_17 : decode cX2_answer 17 = .ok (.aload_n 0, 1) := by decide +kernel
theorem dX2_answer_18 : decode cX2_answer 18 = .ok (.getfield 15, 3) := by decide +kernel
theorem dX2_answer_21 : decode cX2_answer 21 = .ok (.iload_n 1, 1) := by decide +kernel
theorem dX2_answer_22 : decode cX2_answer 22 = .ok (.iaload, 1) := by decide +kernel
theorem dX2_answer_23 : decode cX2_answer 23 = .ok (.aload_n 0, 1) := by decide +kernel
theorem dX2_answer_24 : decode cX2_answer 24 = .ok (.getfield 18, 3) := by decide +kernel
theorem dX2_answer_27 : decode cX2_answer 27 = .ok (.iload_n 1, 1) := by decide +kernel
theorem dX2_answer_28 : decode cX2_answer 28 = .ok (.iaload, 1) := by decide +kernel
theorem dX2_answer_29 : decode cX2_answer 29 = .ok (.invokevirtual 47, 3) := by decide +kernel
theorem dX2_answer_32 : decode cX2_answer 32 = .ok (.istore_n 3, 1) := by decide +kernel
theorem dX2_answer_33 : decode cX2_answer 33 = .ok (.aload_n 0, 1) := by decide +kernel
theorem dX2_answer_34 : decode cX2_answer 34 = .ok (.iload_n 3, 1) := by decide +kernel
theorem dX2_answer_35 : decode cX2_answer 35 = .ok (.invokevirtual 43, 3) := by decide +kernel
theorem dX2_answer_38 : decode cX2_answer 38 = .ok (.ifCond .ne 5, 3) := by decide +kernel
theorem dX2_answer_41 : decode cX2_answer 41 = .ok (.iconst 0, 1) := by decide +kernel
theorem dX2_answer_42 : decode cX2_answer 42 = .ok (.ireturn, 1) := by decide +kernel
theorem dX2_answer_43 : decode cX2_answer 43 = .ok (.aload_n 0, 1) := by decide +kernel
theorem dX2_answer_44 : decode cX2_answer 44 = .ok (.getfield 21, 3) := by decide +kernel
theorem dX2_answer_47 : decode cX2_answer 47 = .ok (.iload_n 3, 1) := by decide +kernel
theorem dX2_answer_48 : decode cX2_answer 48 = .ok (.iconst 4, 1) := by decide +kernel
theorem dX2_answer_49 : decode cX2_answer 49 = .ok (.iastore, 1) := by decide +kernel
theorem dX2_answer_50 : decode cX2_answer 50 = .ok (.aload_n 0, 1) := by decide +kernel
theorem dX2_answer_51 : decode cX2_answer 51 = .ok (.getfield 33, 3) := by decide +kernel
theorem dX2_answer_54 : decode cX2_answer 54 = .ok (.iload_n 3, 1) := by decide +kernel
theorem dX2_answer_55 : decode cX2_answer 55 = .ok (.iload_n 2, 1) := by decide +kernel
theorem dX2_answer_56 : decode cX2_answer 56 = .ok (.iastore, 1) := by decide +kernel
theorem dX2_answer_57 : decode cX2_answer 57 = .ok (.aload_n 0, 1) := by decide +kernel
theorem dX2_answer_58 : decode cX2_answer 58 = .ok (.getfield 36, 3) := by decide +kernel
theorem dX2_answer_61 : decode cX2_answer 61 = .ok (.iload_n 3, 1) := by decide +kernel
theorem dX2_answer_62 : decode cX2_answer 62 = .ok (.iload_n 1, 1) := by decide +kernel
theorem dX2_answer_63 : decode cX2_answer 63 = .ok (.iastore, 1) := by decide +kernel
theorem dX2_answer_64 : decode cX2_answer 64 = .ok (.iconst 1, 1) := by decide +kernel
theorem dX2_answer_65 : decode cX2_answer 65 = .ok (.ireturn, 1) := by decide +kernel
theorem dX2_inState_0 : decode cX2_inState 0 = .ok (.iconst 0, 1) := by decide +kernel
theorem dX2_inState_1 : decode cX2_inState 1 = .ok (.istore_n 2, 1) := by decide +kernel
theorem dX2_inState_2 : decode cX2_inState 2 = .ok (.iconst 0, 1) := by decide +kernel
theorem dX2_inState_3 : decode cX2_inState 3 = .ok (.istore_n 3, 1) := by decide +kernel
theorem dX2_inState_4 : decode cX2_inState 4 = .ok (.iload_n 3, 1) := by decide +kernel
theorem dX2_inState_5 : decode cX2_inState 5 = .ok (.aload_n 0, 1) := by decide +kernel
theorem dX2_inState_6 : decode cX2_inState 6 = .ok (.getfield 39, 3) := by decide +kernel
theorem dX2_inState_9 : decode cX2_inState 9 = .ok (.if_icmp .ge 22, 3) := by decide +kernel
theorem dX2_inState_12 : decode cX2_inState 12 = .ok (.aload_n 0, 1) := by decide +kernel
theorem dX2_inState_13 : decode cX2_inState 13 = .ok (.getfield 21, 3) := by decide +kernel
theorem dX2_inState_16 : decode cX2_inState 16 = .ok (.iload_n 3, 1) := by decide +kernel
theorem dX2_inState_17 : decode cX2_inState 17 = .ok (.iaload, 1) := by decide +kernel
theorem dX2_inState_18 : decode cX2_inState 18 = .ok (.iload_n 1, 1) := by decide +kernel
theorem dX2_inState_19 : decode cX2_inState 19 = .ok (.if_icmp .ne 6, 3) := by decide +kernel
theorem dX2_inState_22 : decode cX2_inState 22 = .ok (.iinc 2 1, 3) := by decide +kernel
theorem dX2_inState_25 : decode cX2_inState 25 = .ok (.iinc 3 1, 3) := by decide +kernel
theorem dX2_inState_28 : decode cX2_inState 28 = .ok (.goto (-24), 3) := by decide +kernel
theorem dX2_inState_31 : decode cX2_inState 31 = .ok (.iload_n 2, 1) := by decide +kernel
theorem dX2_inState_32 : decode cX2_inState 32 = .ok (.ireturn, 1) := by decide +kernel
theorem dX2_growthInBins_0 : decode cX2_growthInBins 0 = .ok (.iconst 0, 1) := by decide +kernel
theorem dX2_growthInBins_1 : decode cX2_growthInBins 1 = .ok (.istore_n 1, 1) := by decide +kernel
theorem dX2_growthInBins_2 : decode cX2_growthInBins 2 = .ok (.iconst 0, 1) := by decide +kernel
theorem dX2_growthInBins_3 : decode cX2_growthInBins 3 = .ok (.istore_n 2, 1) := by decide +kernel
theorem dX2_growthInBins_4 : decode cX2_growthInBins 4 = .ok (.iload_n 2, 1) := by decide +kernel
theorem dX2_growthInBins_5 : decode cX2_growthInBins 5 = .ok (.aload_n 0, 1) := by decide +kernel
theorem dX2_growthInBins_6 : decode cX2_growthInBins 6 = .ok (.getfield 39, 3) := by decide +kernel
theorem dX2_growthInBins_9 : decode cX2_growthInBins 9 = .ok (.if_icmp .ge 28, 3) := by decide +kernel
theorem dX2_growthInBins_12 : decode cX2_growthInBins 12 = .ok (.aload_n 0, 1) := by decide +kernel
theorem dX2_growthInBins_13 : decode cX2_growthInBins 13 = .ok (.getfield 21, 3) := by decide +kernel
theorem dX2_growthInBins_16 : decode cX2_growthInBins 16 = .ok (.iload_n 2, 1) := by decide +kernel
theorem dX2_growthInBins_17 : decode cX2_growthInBins 17 = .ok (.iaload, 1) := by decide +kernel
theorem dX2_growthInBins_18 : decode cX2_growthInBins 18 = .ok (.iconst 1, 1) := by decide +kernel
theorem dX2_growthInBins_19 : decode cX2_growthInBins 19 = .ok (.if_icmp .ne 12, 3) := by decide +kernel
theorem dX2_growthInBins_22 : decode cX2_growthInBins 22 = .ok (.iload_n 1, 1) := by decide +kernel
theorem dX2_growthInBins_23 : decode cX2_growthInBins 23 = .ok (.aload_n 0, 1) := by decide +kernel
theorem dX2_growthInBins_24 : decode cX2_growthInBins 24 = .ok (.getfield 24, 3) := by decide +kernel
theorem dX2_growthInBins_27 : decode cX2_growthInBins 27 = .ok (.iload_n 2, 1) := by decide +kernel
theorem dX2_growthInBins_28 : decode cX2_growthInBins 28 = .ok (.iaload, 1) := by decide +kernel
theorem dX2_growthInBins_29 : decode cX2_growthInBins 29 = .ok (.iadd, 1) := by decide +kernel
theorem dX2_growthInBins_30 : decode cX2_growthInBins 30 = .ok (.istore_n 1, 1) := by decide +kernel
theorem dX2_growthInBins_31 : decode cX2_growthInBins 31 = .ok (.iinc 2 1, 3) := by decide +kernel
theorem dX2_growthInBins_34 : decode cX2_growthInBins 34 = .ok (.goto (-30), 3) := by decide +kernel
theorem dX2_growthInBins_37 : decode cX2_growthInBins 37 = .ok (.iload_n 1, 1) := by decide +kernel
theorem dX2_growthInBins_38 : decode cX2_growthInBins 38 = .ok (.ireturn, 1) := by decide +kernel
theorem dX2_growthIn_0 : decode cX2_growthIn 0 = .ok (.iconst 0, 1) := by decide +kernel
theorem dX2_growthIn_1 : decode cX2_growthIn 1 = .ok (.istore_n 2, 1) := by decide +kernel
theorem dX2_growthIn_2 : decode cX2_growthIn 2 = .ok (.iconst 0, 1) := by decide +kernel
theorem dX2_growthIn_3 : decode cX2_growthIn 3 = .ok (.istore_n 3, 1) := by decide +kernel
theorem dX2_growthIn_4 : decode cX2_growthIn 4 = .ok (.iload_n 3, 1) := by decide +kernel
theorem dX2_growthIn_5 : decode cX2_growthIn 5 = .ok (.aload_n 0, 1) := by decide +kernel
theorem dX2_growthIn_6 : decode cX2_growthIn 6 = .ok (.getfield 39, 3) := by decide +kernel
theorem dX2_growthIn_9 : decode cX2_growthIn 9 = .ok (.if_icmp .ge 38, 3) := by decide +kernel
theorem dX2_growthIn_12 : decode cX2_growthIn 12 = .ok (.aload_n 0, 1) := by decide +kernel
theorem dX2_growthIn_13 : decode cX2_growthIn 13 = .ok (.getfield 21, 3) := by decide +kernel
theorem dX2_growthIn_16 : decode cX2_growthIn 16 = .ok (.iload_n 3, 1) := by decide +kernel
theorem dX2_growthIn_17 : decode cX2_growthIn 17 = .ok (.iaload, 1) := by decide +kernel
theorem dX2_growthIn_18 : decode cX2_growthIn 18 = .ok (.iconst 1, 1) := by decide +kernel
theorem dX2_growthIn_19 : decode cX2_growthIn 19 = .ok (.if_icmp .ne 22, 3) := by decide +kernel
theorem dX2_growthIn_22 : decode cX2_growthIn 22 = .ok (.aload_n 0, 1) := by decide +kernel
theorem dX2_growthIn_23 : decode cX2_growthIn 23 = .ok (.getfield 27, 3) := by decide +kernel
theorem dX2_growthIn_26 : decode cX2_growthIn 26 = .ok (.iload_n 3, 1) := by decide +kernel
theorem dX2_growthIn_27 : decode cX2_growthIn 27 = .ok (.iaload, 1) := by decide +kernel
theorem dX2_growthIn_28 : decode cX2_growthIn 28 = .ok (.iload_n 1, 1) := by decide +kernel
theorem dX2_growthIn_29 : decode cX2_growthIn 29 = .ok (.if_icmp .ne 12, 3) := by decide +kernel
theorem dX2_growthIn_32 : decode cX2_growthIn 32 = .ok (.iload_n 2, 1) := by decide +kernel
theorem dX2_growthIn_33 : decode cX2_growthIn 33 = .ok (.aload_n 0, 1) := by decide +kernel
theorem dX2_growthIn_34 : decode cX2_growthIn 34 = .ok (.getfield 24, 3) := by decide +kernel
theorem dX2_growthIn_37 : decode cX2_growthIn 37 = .ok (.iload_n 3, 1) := by decide +kernel
theorem dX2_growthIn_38 : decode cX2_growthIn 38 = .ok (.iaload, 1) := by decide +kernel
theorem dX2_growthIn_39 : decode cX2_growthIn 39 = .ok (.iadd, 1) := by decide +kernel
theorem dX2_growthIn_40 : decode cX2_growthIn 40 = .ok (.istore_n 2, 1) := by decide +kernel
theorem dX2_growthIn_41 : decode cX2_growthIn 41 = .ok (.iinc 3 1, 3) := by decide +kernel
theorem dX2_growthIn_44 : decode cX2_growthIn 44 = .ok (.goto (-40), 3) := by decide +kernel
theorem dX2_growthIn_47 : decode cX2_growthIn 47 = .ok (.iload_n 2, 1) := by decide +kernel
theorem dX2_growthIn_48 : decode cX2_growthIn 48 = .ok (.ireturn, 1) := by decide +kernel
theorem dX2_heaviestInOffice_0 : decode cX2_heaviestInOffice 0 = .ok (.iconst (-1), 1) := by decide +kernel
theorem dX2_heaviestInOffice_1 : decode cX2_heaviestInOffice 1 = .ok (.istore_n 1, 1) := by decide +kernel
theorem dX2_heaviestInOffice_2 : decode cX2_heaviestInOffice 2 = .ok (.iconst 0, 1) := by decide +kernel
theorem dX2_heaviestInOffice_3 : decode cX2_heaviestInOffice 3 = .ok (.istore_n 2, 1) := by decide +kernel
theorem dX2_heaviestInOffice_4 : decode cX2_heaviestInOffice 4 = .ok (.iload_n 2, 1) := by decide +kernel
theorem dX2_heaviestInOffice_5 : decode cX2_heaviestInOffice 5 = .ok (.aload_n 0, 1) := by decide +kernel
theorem dX2_heaviestInOffice_6 : decode cX2_heaviestInOffice 6 = .ok (.getfield 39, 3) := by decide +kernel
theorem dX2_heaviestInOffice_9 : decode cX2_heaviestInOffice 9 = .ok (.if_icmp .ge 40, 3) := by decide +kernel
theorem dX2_heaviestInOffice_12 : decode cX2_heaviestInOffice 12 = .ok (.aload_n 0, 1) := by decide +kernel
theorem dX2_heaviestInOffice_13 : decode cX2_heaviestInOffice 13 = .ok (.getfield 21, 3) := by decide +kernel
theorem dX2_heaviestInOffice_16 : decode cX2_heaviestInOffice 16 = .ok (.iload_n 2, 1) := by decide +kernel
theorem dX2_heaviestInOffice_17 : decode cX2_heaviestInOffice 17 = .ok (.iaload, 1) := by decide +kernel
theorem dX2_heaviestInOffice_18 : decode cX2_heaviestInOffice 18 = .ok (.ifCond .ne 25, 3) := by decide +kernel
theorem dX2_heaviestInOffice_21 : decode cX2_heaviestInOffice 21 = .ok (.iload_n 1, 1) := by decide +kernel
theorem dX2_heaviestInOffice_22 : decode cX2_heaviestInOffice 22 = .ok (.iconst (-1), 1) := by decide +kernel
theorem dX2_heaviestInOffice_23 : decode cX2_heaviestInOffice 23 = .ok (.if_icmp .eq 18, 3) := by decide +kernel
theorem dX2_heaviestInOffice_26 : decode cX2_heaviestInOffice 26 = .ok (.aload_n 0, 1) := by decide +kernel
theorem dX2_heaviestInOffice_27 : decode cX2_heaviestInOffice 27 = .ok (.getfield 15, 3) := by decide +kernel
theorem dX2_heaviestInOffice_30 : decode cX2_heaviestInOffice 30 = .ok (.iload_n 2, 1) := by decide +kernel
theorem dX2_heaviestInOffice_31 : decode cX2_heaviestInOffice 31 = .ok (.iaload, 1) := by decide +kernel
theorem dX2_heaviestInOffice_32 : decode cX2_heaviestInOffice 32 = .ok (.aload_n 0, 1) := by decide +kernel
theorem dX2_heaviestInOffice_33 : decode cX2_heaviestInOffice 33 = .ok (.getfield 15, 3) := by decide +kernel
theorem dX2_heaviestInOffice_36 : decode cX2_heaviestInOffice 36 = .ok (.iload_n 1, 1) := by decide +kernel
theorem dX2_heaviestInOffice_37 : decode cX2_heaviestInOffice 37 = .ok (.iaload, 1) := by decide +kernel
theorem dX2_heaviestInOffice_38 : decode cX2_heaviestInOffice 38 = .ok (.if_icmp .le 5, 3) := by decide +kernel
theorem dX2_heaviestInOffice_41 : decode cX2_heaviestInOffice 41 = .ok (.iload_n 2, 1) := by decide +kernel
theorem dX2_heaviestInOffice_42 : decode cX2_heaviestInOffice 42 = .ok (.istore_n 1, 1) := by decide +kernel
theorem dX2_heaviestInOffice_43 : decode cX2_heaviestInOffice 43 = .ok (.iinc 2 1, 3) := by decide +kernel
theorem dX2_heaviestInOffice_46 : decode cX2_heaviestInOffice 46 = .ok (.goto (-42), 3) := by decide +kernel
theorem dX2_heaviestInOffice_49 : decode cX2_heaviestInOffice 49 = .ok (.iload_n 1, 1) := by decide +kernel
theorem dX2_heaviestInOffice_50 : decode cX2_heaviestInOffice 50 = .ok (.ireturn, 1) := by decide +kernel
set_option maxRecDepth 20000 in
theorem ggX2_fact_X2_has : GoodIn wsX2_fact wsX2_has := goodIn_r _ [14, 15, 16, 17, 18, 19, 20, 21, 22, 23, 24, 25] (by decide +kernel) (by decide +kernel)
set_option maxRecDepth 20000 in
theorem gX2_fact_X2_has : GoodIn wsX2_fact (wsV RX2 43 RX2 yX2_has wsX2_has) := goodIn_app (goodIn_of _ (by decide +kernel)) ggX2_fact_X2_has
theorem dX2_fact_0 : decode cX2_fact 0 = .ok (.aload_n 0, 1) := by decide +kernel
theorem dX2_fact_1 : decode cX2_fact 1 = .ok (.iload_n 1, 1) := by decide +kernel
theorem dX2_fact_2 : decode cX2_fact 2 = .ok (.invokevirtual 43, 3) := by decide +kernel
theorem dX2_fact_5 : decode cX2_fact 5 = .ok (.ifCond .ne 5, 3) := by decide +kernel
theorem dX2_fact_8 : decode cX2_fact 8 = .ok (.iconst 0, 1) := by decide +kernel
theorem dX2_fact_9 : decode cX2_fact 9 = .ok (.ireturn, 1) := by decide +kernel
theorem dX2_fact_10 : decode cX2_fact 10 = .ok (.iload_n 2, 1) := by decide +kernel
theorem dX2_fact_11 : decode cX2_fact 11 = .ok (.tableswitch 112 0 8 #[49, 56, 63, 70, 77, 84, 91, 98, 105], 49) := by decide +kernel
theorem dX2_fact_60 : decode cX2_fact 60 = .ok (.aload_n 0, 1) := by decide +kernel
theorem dX2_fact_61 : decode cX2_fact 61 = .ok (.getfield 9, 3) := by decide +kernel
theorem dX2_fact_64 : decode cX2_fact 64 = .ok (.iload_n 1, 1) := by decide +kernel
theorem dX2_fact_65 : decode cX2_fact 65 = .ok (.iaload, 1) := by decide +kernel
theorem dX2_fact_66 : decode cX2_fact 66 = .ok (.ireturn, 1) := by decide +kernel
theorem dX2_fact_67 : decode cX2_fact 67 = .ok (.aload_n 0, 1) := by decide +kernel
theorem dX2_fact_68 : decode cX2_fact 68 = .ok (.getfield 15, 3) := by decide +kernel
theorem dX2_fact_71 : decode cX2_fact 71 = .ok (.iload_n 1, 1) := by decide +kernel
theorem dX2_fact_72 : decode cX2_fact 72 = .ok (.iaload, 1) := by decide +kernel
theorem dX2_fact_73 : decode cX2_fact 73 = .ok (.ireturn, 1) := by decide +kernel
theorem dX2_fact_74 : decode cX2_fact 74 = .ok (.aload_n 0, 1) := by decide +kernel
theorem dX2_fact_75 : decode cX2_fact 75 = .ok (.getfield 18, 3) := by decide +kernel
theorem dX2_fact_78 : decode cX2_fact 78 = .ok (.iload_n 1, 1) := by decide +kernel
theorem dX2_fact_79 : decode cX2_fact 79 = .ok (.iaload, 1) := by decide +kernel
theorem dX2_fact_80 : decode cX2_fact 80 = .ok (.ireturn, 1) := by decide +kernel
theorem dX2_fact_81 : decode cX2_fact 81 = .ok (.aload_n 0, 1) := by decide +kernel
theorem dX2_fact_82 : decode cX2_fact 82 = .ok (.getfield 21, 3) := by decide +kernel
theorem dX2_fact_85 : decode cX2_fact 85 = .ok (.iload_n 1, 1) := by decide +kernel
theorem dX2_fact_86 : decode cX2_fact 86 = .ok (.iaload, 1) := by decide +kernel
theorem dX2_fact_87 : decode cX2_fact 87 = .ok (.ireturn, 1) := by decide +kernel
theorem dX2_fact_88 : decode cX2_fact 88 = .ok (.aload_n 0, 1) := by decide +kernel
theorem dX2_fact_89 : decode cX2_fact 89 = .ok (.getfield 24, 3) := by decide +kernel
theorem dX2_fact_92 : decode cX2_fact 92 = .ok (.iload_n 1, 1) := by decide +kernel
theorem dX2_fact_93 : decode cX2_fact 93 = .ok (.iaload, 1) := by decide +kernel
theorem dX2_fact_94 : decode cX2_fact 94 = .ok (.ireturn, 1) := by decide +kernel
theorem dX2_fact_95 : decode cX2_fact 95 = .ok (.aload_n 0, 1) := by decide +kernel
theorem dX2_fact_96 : decode cX2_fact 96 = .ok (.getfield 27, 3) := by decide +kernel
theorem dX2_fact_99 : decode cX2_fact 99 = .ok (.iload_n 1, 1) := by decide +kernel
theorem dX2_fact_100 : decode cX2_fact 100 = .ok (.iaload, 1) := by decide +kernel
theorem dX2_fact_101 : decode cX2_fact 101 = .ok (.ireturn, 1) := by decide +kernel
theorem dX2_fact_102 : decode cX2_fact 102 = .ok (.aload_n 0, 1) := by decide +kernel
theorem dX2_fact_103 : decode cX2_fact 103 = .ok (.getfield 30, 3) := by decide +kernel
theorem dX2_fact_106 : decode cX2_fact 106 = .ok (.iload_n 1, 1) := by decide +kernel
theorem dX2_fact_107 : decode cX2_fact 107 = .ok (.iaload, 1) := by decide +kernel
theorem dX2_fact_108 : decode cX2_fact 108 = .ok (.ireturn, 1) := by decide +kernel
theorem dX2_fact_109 : decode cX2_fact 109 = .ok (.aload_n 0, 1) := by decide +kernel
theorem dX2_fact_110 : decode cX2_fact 110 = .ok (.getfield 33, 3) := by decide +kernel
theorem dX2_fact_113 : decode cX2_fact 113 = .ok (.iload_n 1, 1) := by decide +kernel
theorem dX2_fact_114 : decode cX2_fact 114 = .ok (.iaload, 1) := by decide +kernel
theorem dX2_fact_115 : decode cX2_fact 115 = .ok (.ireturn, 1) := by decide +kernel
theorem dX2_fact_116 : decode cX2_fact 116 = .ok (.aload_n 0, 1) := by decide +kernel
theorem dX2_fact_117 : decode cX2_fact 117 = .ok (.getfield 36, 3) := by decide +kernel
theorem dX2_fact_120 : decode cX2_fact 120 = .ok (.iload_n 1, 1) := by decide +kernel
theorem dX2_fact_121 : decode cX2_fact 121 = .ok (.iaload, 1) := by decide +kernel
theorem dX2_fact_122 : decode cX2_fact 122 = .ok (.ireturn, 1) := by decide +kernel
theorem dX2_fact_123 : decode cX2_fact 123 = .ok (.iconst 0, 1) := by decide +kernel
theorem dX2_fact_124 : decode cX2_fact 124 = .ok (.ireturn, 1) := by decide +kernel
set_option maxRecDepth 20000 in
theorem ggX2_digestFrom_X2_fact : GoodIn wsX2_digestFrom wsX2_fact := goodIn_r _ [7, 8, 9, 10, 11, 12, 13, 14, 15, 16, 17, 18, 19, 6, 20, 1, 21, 22, 23, 24, 25, 26, 27, 28, 29, 30] (by decide +kernel) (by decide +kernel)
set_option maxRecDepth 20000 in
theorem gX2_digestFrom_X2_fact : GoodIn wsX2_digestFrom (wsV RX2 53 RX2 yX2_fact wsX2_fact) := goodIn_app (goodIn_of _ (by decide +kernel)) ggX2_digestFrom_X2_fact
theorem dX2_digestFrom_0 : decode cX2_digestFrom 0 = .ok (.lload_n 1, 1) := by decide +kernel
theorem dX2_digestFrom_1 : decode cX2_digestFrom 1 = .ok (.lstore_n 3, 1) := by decide +kernel
theorem dX2_digestFrom_2 : decode cX2_digestFrom 2 = .ok (.iconst 0, 1) := by decide +kernel
theorem dX2_digestFrom_3 : decode cX2_digestFrom 3 = .ok (.istore 5, 2) := by decide +kernel
theorem dX2_digestFrom_5 : decode cX2_digestFrom 5 = .ok (.iload 5, 2) := by decide +kernel
theorem dX2_digestFrom_7 : decode cX2_digestFrom 7 = .ok (.aload_n 0, 1) := by decide +kernel
theorem dX2_digestFrom_8 : decode cX2_digestFrom 8 = .ok (.getfield 39, 3) := by decide +kernel
theorem dX2_digestFrom_11 : decode cX2_digestFrom 11 = .ok (.if_icmp .ge 41, 3) := by decide +kernel
theorem dX2_digestFrom_14 : decode cX2_digestFrom 14 = .ok (.iconst 0, 1) := by decide +kernel
theorem dX2_digestFrom_15 : decode cX2_digestFrom 15 = .ok (.istore 6, 2) := by decide +kernel
theorem dX2_digestFrom_17 : decode cX2_digestFrom 17 = .ok (.iload 6, 2) := by decide +kernel
theorem dX2_digestFrom_19 : decode cX2_digestFrom 19 = .ok (.bipush 9, 2) := by decide +kernel
theorem dX2_digestFrom_21 : decode cX2_digestFrom 21 = .ok (.if_icmp .ge 25, 3) := by decide +kernel
theorem dX2_digestFrom_24 : decode cX2_digestFrom 24 = .ok (.lload_n 3, 1) := by decide +kernel
theorem dX2_digestFrom_25 : decode cX2_digestFrom 25 = .ok (.ldc2_w 51, 3) := by decide +kernel
theorem dX2_digestFrom_28 : decode cX2_digestFrom 28 = .ok (.lmul, 1) := by decide +kernel
theorem dX2_digestFrom_29 : decode cX2_digestFrom 29 = .ok (.aload_n 0, 1) := by decide +kernel
theorem dX2_digestFrom_30 : decode cX2_digestFrom 30 = .ok (.iload 5, 2) := by decide +kernel
theorem dX2_digestFrom_32 : decode cX2_digestFrom 32 = .ok (.iload 6, 2) := by decide +kernel
theorem dX2_digestFrom_34 : decode cX2_digestFrom 34 = .ok (.invokevirtual 53, 3) := by decide +kernel
theorem dX2_digestFrom_37 : decode cX2_digestFrom 37 = .ok (.i2l, 1) := by decide +kernel
theorem dX2_digestFrom_38 : decode cX2_digestFrom 38 = .ok (.ladd, 1) := by decide +kernel
theorem dX2_digestFrom_39 : decode cX2_digestFrom 39 = .ok (.lstore_n 3, 1) := by decide +kernel
theorem dX2_digestFrom_40 : decode cX2_digestFrom 40 = .ok (.iinc 6 1, 3) := by decide +kernel
theorem dX2_digestFrom_43 : decode cX2_digestFrom 43 = .ok (.goto (-26), 3) := by decide +kernel
theorem dX2_digestFrom_46 : decode cX2_digestFrom 46 = .ok (.iinc 5 1, 3) := by decide +kernel
theorem dX2_digestFrom_49 : decode cX2_digestFrom 49 = .ok (.goto (-44), 3) := by decide +kernel
theorem dX2_digestFrom_52 : decode cX2_digestFrom 52 = .ok (.lload_n 3, 1) := by decide +kernel
theorem dX2_digestFrom_53 : decode cX2_digestFrom 53 = .ok (.lreturn, 1) := by decide +kernel
theorem dX2_copyFrom_0 : decode cX2_copyFrom 0 = .ok (.aload_n 0, 1) := by decide +kernel
theorem dX2_copyFrom_1 : decode cX2_copyFrom 1 = .ok (.aload_n 1, 1) := by decide +kernel
theorem dX2_copyFrom_2 : decode cX2_copyFrom 2 = .ok (.getfield 39, 3) := by decide +kernel
theorem dX2_copyFrom_5 : decode cX2_copyFrom 5 = .ok (.putfield 39, 3) := by decide +kernel
theorem dX2_copyFrom_8 : decode cX2_copyFrom 8 = .ok (.aload_n 1, 1) := by decide +kernel
theorem dX2_copyFrom_9 : decode cX2_copyFrom 9 = .ok (.getfield 9, 3) := by decide +kernel
theorem dX2_copyFrom_12 : decode cX2_copyFrom 12 = .ok (.iconst 0, 1) := by decide +kernel
theorem dX2_copyFrom_13 : decode cX2_copyFrom 13 = .ok (.aload_n 0, 1) := by decide +kernel
theorem dX2_copyFrom_14 : decode cX2_copyFrom 14 = .ok (.getfield 9, 3) := by decide +kernel
theorem dX2_copyFrom_17 : decode cX2_copyFrom 17 = .ok (.iconst 0, 1) := by decide +kernel
theorem dX2_copyFrom_18 : decode cX2_copyFrom 18 = .ok (.aload_n 0, 1) := by decide +kernel
theorem dX2_copyFrom_19 : decode cX2_copyFrom 19 = .ok (.getfield 39, 3) := by decide +kernel
theorem dX2_copyFrom_22 : decode cX2_copyFrom 22 = .ok (.invokestatic 57, 3) := by decide +kernel
theorem dX2_copyFrom_25 : decode cX2_copyFrom 25 = .ok (.aload_n 1, 1) := by decide +kernel
theorem dX2_copyFrom_26 : decode cX2_copyFrom 26 = .ok (.getfield 15, 3) := by decide +kernel
theorem dX2_copyFrom_29 : decode cX2_copyFrom 29 = .ok (.iconst 0, 1) := by decide +kernel
theorem dX2_copyFrom_30 : decode cX2_copyFrom 30 = .ok (.aload_n 0, 1) := by decide +kernel
theorem dX2_copyFrom_31 : decode cX2_copyFrom 31 = .ok (.getfield 15, 3) := by decide +kernel
theorem dX2_copyFrom_34 : decode cX2_copyFrom 34 = .ok (.iconst 0, 1) := by decide +kernel
theorem dX2_copyFrom_35 : decode cX2_copyFrom 35 = .ok (.aload_n 0, 1) := by decide +kernel
theorem dX2_copyFrom_36 : decode cX2_copyFrom 36 = .ok (.getfield 39, 3) := by decide +kernel
theorem dX2_copyFrom_39 : decode cX2_copyFrom 39 = .ok (.invokestatic 57, 3) := by decide +kernel
theorem dX2_copyFrom_42 : decode cX2_copyFrom 42 = .ok (.aload_n 1, 1) := by decide +kernel
theorem dX2_copyFrom_43 : decode cX2_copyFrom 43 = .ok (.getfield 18, 3) := by decide +kernel
theorem dX2_copyFrom_46 : decode cX2_copyFrom 46 = .ok (.iconst 0, 1) := by decide +kernel
theorem dX2_copyFrom_47 : decode cX2_copyFrom 47 = .ok (.aload_n 0, 1) := by decide +kernel
theorem dX2_copyFrom_48 : decode cX2_copyFrom 48 = .ok (.getfield 18, 3) := by decide +kernel
theorem dX2_copyFrom_51 : decode cX2_copyFrom 51 = .ok (.iconst 0, 1) := by decide +kernel
theorem dX2_copyFrom_52 : decode cX2_copyFrom 52 = .ok (.aload_n 0, 1) := by decide +kernel
theorem dX2_copyFrom_53 : decode cX2_copyFrom 53 = .ok (.getfield 39, 3) := by decide +kernel
theorem dX2_copyFrom_56 : decode cX2_copyFrom 56 = .ok (.invokestatic 57, 3) := by decide +kernel
theorem dX2_copyFrom_59 : decode cX2_copyFrom 59 = .ok (.aload_n 1, 1) := by decide +kernel
theorem dX2_copyFrom_60 : decode cX2_copyFrom 60 = .ok (.getfield 21, 3) := by decide +kernel
theorem dX2_copyFrom_63 : decode cX2_copyFrom 63 = .ok (.iconst 0, 1) := by decide +kernel
theorem dX2_copyFrom_64 : decode cX2_copyFrom 64 = .ok (.aload_n 0, 1) := by decide +kernel
theorem dX2_copyFrom_65 : decode cX2_copyFrom 65 = .ok (.getfield 21, 3) := by decide +kernel
theorem dX2_copyFrom_68 : decode cX2_copyFrom 68 = .ok (.iconst 0, 1) := by decide +kernel
theorem dX2_copyFrom_69 : decode cX2_copyFrom 69 = .ok (.aload_n 0, 1) := by decide +kernel
theorem dX2_copyFrom_70 : decode cX2_copyFrom 70 = .ok (.getfield 39, 3) := by decide +kernel
theorem dX2_copyFrom_73 : decode cX2_copyFrom 73 = .ok (.invokestatic 57, 3) := by decide +kernel
theorem dX2_copyFrom_76 : decode cX2_copyFrom 76 = .ok (.aload_n 1, 1) := by decide +kernel
theorem dX2_copyFrom_77 : decode cX2_copyFrom 77 = .ok (.getfield 24, 3) := by decide +kernel
theorem dX2_copyFrom_80 : decode cX2_copyFrom 80 = .ok (.iconst 0, 1) := by decide +kernel
theorem dX2_copyFrom_81 : decode cX2_copyFrom 81 = .ok (.aload_n 0, 1) := by decide +kernel
theorem dX2_copyFrom_82 : decode cX2_copyFrom 82 = .ok (.getfield 24, 3) := by decide +kernel
theorem dX2_copyFrom_85 : decode cX2_copyFrom 85 = .ok (.iconst 0, 1) := by decide +kernel
theorem dX2_copyFrom_86 : decode cX2_copyFrom 86 = .ok (.aload_n 0, 1) := by decide +kernel
theorem dX2_copyFrom_87 : decode cX2_copyFrom 87 = .ok (.getfield 39, 3) := by decide +kernel
theorem dX2_copyFrom_90 : decode cX2_copyFrom 90 = .ok (.invokestatic 57, 3) := by decide +kernel
theorem dX2_copyFrom_93 : decode cX2_copyFrom 93 = .ok (.aload_n 1, 1) := by decide +kernel
theorem dX2_copyFrom_94 : decode cX2_copyFrom 94 = .ok (.getfield 27, 3) := by decide +kernel
theorem dX2_copyFrom_97 : decode cX2_copyFrom 97 = .ok (.iconst 0, 1) := by decide +kernel
theorem dX2_copyFrom_98 : decode cX2_copyFrom 98 = .ok (.aload_n 0, 1) := by decide +kernel
theorem dX2_copyFrom_99 : decode cX2_copyFrom 99 = .ok (.getfield 27, 3) := by decide +kernel
theorem dX2_copyFrom_102 : decode cX2_copyFrom 102 = .ok (.iconst 0, 1) := by decide +kernel
theorem dX2_copyFrom_103 : decode cX2_copyFrom 103 = .ok (.aload_n 0, 1) := by decide +kernel
theorem dX2_copyFrom_104 : decode cX2_copyFrom 104 = .ok (.getfield 39, 3) := by decide +kernel
theorem dX2_copyFrom_107 : decode cX2_copyFrom 107 = .ok (.invokestatic 57, 3) := by decide +kernel
theorem dX2_copyFrom_110 : decode cX2_copyFrom 110 = .ok (.aload_n 1, 1) := by decide +kernel
theorem dX2_copyFrom_111 : decode cX2_copyFrom 111 = .ok (.getfield 30, 3) := by decide +kernel
theorem dX2_copyFrom_114 : decode cX2_copyFrom 114 = .ok (.iconst 0, 1) := by decide +kernel
theorem dX2_copyFrom_115 : decode cX2_copyFrom 115 = .ok (.aload_n 0, 1) := by decide +kernel
theorem dX2_copyFrom_116 : decode cX2_copyFrom 116 = .ok (.getfield 30, 3) := by decide +kernel
theorem dX2_copyFrom_119 : decode cX2_copyFrom 119 = .ok (.iconst 0, 1) := by decide +kernel
theorem dX2_copyFrom_120 : decode cX2_copyFrom 120 = .ok (.aload_n 0, 1) := by decide +kernel
theorem dX2_copyFrom_121 : decode cX2_copyFrom 121 = .ok (.getfield 39, 3) := by decide +kernel
theorem dX2_copyFrom_124 : decode cX2_copyFrom 124 = .ok (.invokestatic 57, 3) := by decide +kernel
theorem dX2_copyFrom_127 : decode cX2_copyFrom 127 = .ok (.aload_n 1, 1) := by decide +kernel
theorem dX2_copyFrom_128 : decode cX2_copyFrom 128 = .ok (.getfield 33, 3) := by decide +kernel
theorem dX2_copyFrom_131 : decode cX2_copyFrom 131 = .ok (.iconst 0, 1) := by decide +kernel
theorem dX2_copyFrom_132 : decode cX2_copyFrom 132 = .ok (.aload_n 0, 1) := by decide +kernel
theorem dX2_copyFrom_133 : decode cX2_copyFrom 133 = .ok (.getfield 33, 3) := by decide +kernel
theorem dX2_copyFrom_136 : decode cX2_copyFrom 136 = .ok (.iconst 0, 1) := by decide +kernel
theorem dX2_copyFrom_137 : decode cX2_copyFrom 137 = .ok (.aload_n 0, 1) := by decide +kernel
theorem dX2_copyFrom_138 : decode cX2_copyFrom 138 = .ok (.getfield 39, 3) := by decide +kernel
theorem dX2_copyFrom_141 : decode cX2_copyFrom 141 = .ok (.invokestatic 57, 3) := by decide +kernel
theorem dX2_copyFrom_144 : decode cX2_copyFrom 144 = .ok (.aload_n 1, 1) := by decide +kernel
theorem dX2_copyFrom_145 : decode cX2_copyFrom 145 = .ok (.getfield 36, 3) := by decide +kernel
theorem dX2_copyFrom_148 : decode cX2_copyFrom 148 = .ok (.iconst 0, 1) := by decide +kernel
theorem dX2_copyFrom_149 : decode cX2_copyFrom 149 = .ok (.aload_n 0, 1) := by decide +kernel
theorem dX2_copyFrom_150 : decode cX2_copyFrom 150 = .ok (.getfield 36, 3) := by decide +kernel
theorem dX2_copyFrom_153 : decode cX2_copyFrom 153 = .ok (.iconst 0, 1) := by decide +kernel
theorem dX2_copyFrom_154 : decode cX2_copyFrom 154 = .ok (.aload_n 0, 1) := by decide +kernel
theorem dX2_copyFrom_155 : decode cX2_copyFrom 155 = .ok (.getfield 39, 3) := by decide +kernel
theorem dX2_copyFrom_158 : decode cX2_copyFrom 158 = .ok (.invokestatic 57, 3) := by decide +kernel
theorem dX2_copyFrom_161 : decode cX2_copyFrom 161 = .ok (.return_, 1) := by decide +kernel
set_option maxRecDepth 20000 in
theorem ggX3_init_X4_init : GoodIn wsX3_init wsX4_init := goodIn_r _ [28, 29, 2, 3, 22, 30, 31, 32, 33, 34, 35, 62, 63] (by decide +kernel) (by decide +kernel)
set_option maxRecDepth 20000 in
theorem gX3_init_X4_init : GoodIn wsX3_init (wsX4_init) := ggX3_init_X4_init
set_option maxRecDepth 20000 in
theorem ggX3_init_X0_init : GoodIn wsX3_init wsX0_init := goodIn_r _ [37, 38, 2, 3, 22, 39, 40, 41, 74, 75, 76, 77] (by decide +kernel) (by decide +kernel)
set_option maxRecDepth 20000 in
theorem gX3_init_X0_init_n20 : GoodIn wsX3_init (wsX0_init) := ggX3_init_X0_init
set_option maxRecDepth 20000 in
theorem ggX3_init_X1_init : GoodIn wsX3_init wsX1_init := goodIn_r _ [43, 44, 2, 3, 22, 45, 46, 47, 48, 49, 78, 79, 80, 81, 82, 83] (by decide +kernel) (by decide +kernel)
set_option maxRecDepth 20000 in
theorem gX3_init_X1_init_n27 : GoodIn wsX3_init (wsX1_init) := ggX3_init_X1_init
set_option maxRecDepth 20000 in
theorem ggX3_init_X2_init : GoodIn wsX3_init wsX2_init := goodIn_r _ [51, 52, 2, 3, 22, 53, 54, 55, 56, 57, 58, 59, 60, 61, 84, 85, 86, 87, 88, 89, 90, 91, 92, 93] (by decide +kernel) (by decide +kernel)
set_option maxRecDepth 20000 in
theorem gX3_init_X2_init_n34 : GoodIn wsX3_init (wsX2_init) := ggX3_init_X2_init
theorem dX3_init_0 : decode cX3_init 0 = .ok (.aload_n 0, 1) := by decide +kernel
theorem dX3_init_1 : decode cX3_init 1 = .ok (.invokespecial 3, 3) := by decide +kernel
theorem dX3_init_4 : decode cX3_init 4 = .ok (.aload_n 0, 1) := by decide +kernel
theorem dX3_init_5 : decode cX3_init 5 = .ok (.new 9, 3) := by decide +kernel
theorem dX3_init_8 : decode cX3_init 8 = .ok (.dup, 1) := by decide +kernel
theorem dX3_init_9 : decode cX3_init 9 = .ok (.invokespecial 11, 3) := by decide +kernel
theorem dX3_init_12 : decode cX3_init 12 = .ok (.putfield 12, 3) := by decide +kernel
theorem dX3_init_15 : decode cX3_init 15 = .ok (.aload_n 0, 1) := by decide +kernel
theorem dX3_init_16 : decode cX3_init 16 = .ok (.new 18, 3) := by decide +kernel
theorem dX3_init_19 : decode cX3_init 19 = .ok (.dup, 1) := by decide +kernel
theorem dX3_init_20 : decode cX3_init 20 = .ok (.invokespecial 20, 3) := by decide +kernel
theorem dX3_init_23 : decode cX3_init 23 = .ok (.putfield 21, 3) := by decide +kernel
theorem dX3_init_26 : decode cX3_init 26 = .ok (.aload_n 0, 1) := by decide +kernel
theorem dX3_init_27 : decode cX3_init 27 = .ok (.new 25, 3) := by decide +kernel
theorem dX3_init_30 : decode cX3_init 30 = .ok (.dup, 1) := by decide +kernel
theorem dX3_init_31 : decode cX3_init 31 = .ok (.invokespecial 27, 3) := by decide +kernel
theorem dX3_init_34 : decode cX3_init 34 = .ok (.putfield 28, 3) := by decide +kernel
theorem dX3_init_37 : decode cX3_init 37 = .ok (.aload_n 0, 1) := by decide +kernel
theorem dX3_init_38 : decode cX3_init 38 = .ok (.new 32, 3) := by decide +kernel
theorem dX3_init_41 : decode cX3_init 41 = .ok (.dup, 1) := by decide +kernel
theorem dX3_init_42 : decode cX3_init 42 = .ok (.invokespecial 34, 3) := by decide +kernel
theorem dX3_init_45 : decode cX3_init 45 = .ok (.putfield 35, 3) := by decide +kernel
theorem dX3_init_48 : decode cX3_init 48 = .ok (.aload_n 0, 1) := by decide +kernel
theorem dX3_init_49 : decode cX3_init 49 = .ok (.iconst 2, 1) := by decide +kernel
theorem dX3_init_50 : decode cX3_init 50 = .ok (.putfield 39, 3) := by decide +kernel
theorem dX3_init_53 : decode cX3_init 53 = .ok (.aload_n 0, 1) := by decide +kernel
theorem dX3_init_54 : decode cX3_init 54 = .ok (.iconst 3, 1) := by decide +kernel
theorem dX3_init_55 : decode cX3_init 55 = .ok (.putfield 43, 3) := by decide +kernel
theorem dX3_init_58 : decode cX3_init 58 = .ok (.aload_n 0, 1) := by decide +kernel
theorem dX3_init_59 : decode cX3_init 59 = .ok (.sipush 150, 3) := by decide +kernel
theorem dX3_init_62 : decode cX3_init 62 = .ok (.newarray .int, 2) := by decide +kernel
theorem dX3_init_64 : decode cX3_init 64 = .ok (.putfield 46, 3) := by decide +kernel
theorem dX3_init_67 : decode cX3_init 67 = .ok (.aload_n 0, 1) := by decide +kernel
theorem dX3_init_68 : decode cX3_init 68 = .ok (.sipush 150, 3) := by decide +kernel
theorem dX3_init_71 : decode cX3_init 71 = .ok (.newarray .boolean, 2) := by decide +kernel
theorem dX3_init_73 : decode cX3_init 73 = .ok (.putfield 50, 3) := by decide +kernel
theorem dX3_init_76 : decode cX3_init 76 = .ok (.return_, 1) := by decide +kernel
set_option maxRecDepth 20000 in
theorem ggX3_copyFrom_X4_copyFrom : GoodIn wsX3_copyFrom wsX4_copyFrom := goodIn_r _ [12, 13, 14, 15, 16, 17, 18, 67, 68] (by decide +kernel) (by decide +kernel)
set_option maxRecDepth 20000 in
theorem gX3_copyFrom_X4_copyFrom : GoodIn wsX3_copyFrom (wsV RX3 54 RX4 yX4_copyFrom wsX4_copyFrom) := goodIn_app (goodIn_of _ (by decide +kernel)) ggX3_copyFrom_X4_copyFrom
set_option maxRecDepth 20000 in
theorem ggX3_copyFrom_X0_copyFrom : GoodIn wsX3_copyFrom wsX0_copyFrom := goodIn_r _ [23, 24, 25, 26, 16, 17, 18, 27, 28, 69, 70, 71, 72] (by decide +kernel) (by decide +kernel)
set_option maxRecDepth 20000 in
theorem gX3_copyFrom_X0_copyFrom : GoodIn wsX3_copyFrom (wsV RX3 58 RX0 yX0_copyFrom wsX0_copyFrom) := goodIn_app (goodIn_of _ (by decide +kernel)) ggX3_copyFrom_X0_copyFrom
set_option maxRecDepth 20000 in
theorem ggX3_copyFrom_X1_copyFrom : GoodIn wsX3_copyFrom wsX1_copyFrom := goodIn_r _ [33, 34, 35, 36, 16, 17, 18, 37, 38, 39, 40, 73, 74, 75, 76, 77, 78] (by decide +kernel) (by decide +kernel)
set_option maxRecDepth 20000 in
theorem gX3_copyFrom_X1_copyFrom : GoodIn wsX3_copyFrom (wsV RX3 61 RX1 yX1_copyFrom wsX1_copyFrom) := goodIn_app (goodIn_of _ (by decide +kernel)) ggX3_copyFrom_X1_copyFrom
set_option maxRecDepth 20000 in
theorem ggX3_copyFrom_X2_copyFrom : GoodIn wsX3_copyFrom wsX2_copyFrom := goodIn_r _ [45, 46, 47, 48, 16, 17, 18, 49, 50, 51, 52, 53, 54, 55, 56, 79, 80, 81, 82, 83, 84, 85, 86, 87, 88] (by decide +kernel) (by decide +kernel)
set_option maxRecDepth 20000 in
theorem gX3_copyFrom_X2_copyFrom : GoodIn wsX3_copyFrom (wsV RX3 64 RX2 yX2_copyFrom wsX2_copyFrom) := goodIn_app (goodIn_of _ (by decide +kernel)) ggX3_copyFrom_X2_copyFrom
theorem dX3_copyFrom_0 : decode cX3_copyFrom 0 = .ok (.aload_n 0, 1) := by decide +kernel
theorem dX3_copyFrom_1 : decode cX3_copyFrom 1 = .ok (.getfield 12, 3) := by decide +kernel
theorem dX3_copyFrom_4 : decode cX3_copyFrom 4 = .ok (.aload_n 1, 1) := by decide +kernel
theorem dX3_copyFrom_5 : decode cX3_copyFrom 5 = .ok (.getfield 12, 3) := by decide +kernel
theorem dX3_copyFrom_8 : decode cX3_copyFrom 8 = .ok (.invokevirtual 54, 3) := by decide +kernel
theorem dX3_copyFrom_11 : decode cX3_copyFrom 11 = .ok (.aload_n 0, 1) := by decide +kernel
theorem dX3_copyFrom_12 : decode cX3_copyFrom 12 = .ok (.getfield 21, 3) := by decide +kernel
theorem dX3_copyFrom_15 : decode cX3_copyFrom 15 = .ok (.aload_n 1, 1) := by decide +kernel
theorem dX3_copyFrom_16 : decode cX3_copyFrom 16 = .ok (.getfield 21, 3) := by decide +kernel
theorem dX3_copyFrom_19 : decode cX3_copyFrom 19 = .ok (.invokevirtual 58, 3) := by decide +kernel
theorem dX3_copyFrom_22 : decode cX3_copyFrom 22 = .ok (.aload_n 0, 1) := by decide +kernel
theorem dX3_copyFrom_23 : decode cX3_copyFrom 23 = .ok (.getfield 28, 3) := by decide +kernel
theorem dX3_copyFrom_26 : decode cX3_copyFrom 26 = .ok (.aload_n 1, 1) := by decide +kernel
theorem dX3_copyFrom_27 : decode cX3_copyFrom 27 = .ok (.getfield 28, 3) := by decide +kernel
theorem dX3_copyFrom_30 : decode cX3_copyFrom 30 = .ok (.invokevirtual 61, 3) := by decide +kernel
theorem dX3_copyFrom_33 : decode cX3_copyFrom 33 = .ok (.aload_n 0, 1) := by decide +kernel
theorem dX3_copyFrom_34 : decode cX3_copyFrom 34 = .ok (.getfield 35, 3) := by decide +kernel
theorem dX3_copyFrom_37 : decode cX3_copyFrom 37 = .ok (.aload_n 1, 1) := by decide +kernel
theorem dX3_copyFrom_38 : decode cX3_copyFrom 38 = .ok (.getfield 35, 3) := by decide +kernel
theorem dX3_copyFrom_41 : decode cX3_copyFrom 41 = .ok (.invokevirtual 64, 3) := by decide +kernel
theorem dX3_copyFrom_44 : decode cX3_copyFrom 44 = .ok (.aload_n 0, 1) := by decide +kernel
theorem dX3_copyFrom_45 : decode cX3_copyFrom 45 = .ok (.aload_n 1, 1) := by decide +kernel
theorem dX3_copyFrom_46 : decode cX3_copyFrom 46 = .ok (.getfield 67, 3) := by decide +kernel
theorem dX3_copyFrom_49 : decode cX3_copyFrom 49 = .ok (.putfield 67, 3) := by decide +kernel
theorem dX3_copyFrom_52 : decode cX3_copyFrom 52 = .ok (.aload_n 0, 1) := by decide +kernel
theorem dX3_copyFrom_53 : decode cX3_copyFrom 53 = .ok (.aload_n 1, 1) := by decide +kernel
theorem dX3_copyFrom_54 : decode cX3_copyFrom 54 = .ok (.getfield 39, 3) := by decide +kernel
theorem dX3_copyFrom_57 : decode cX3_copyFrom 57 = .ok (.putfield 39, 3) := by decide +kernel
theorem dX3_copyFrom_60 : decode cX3_copyFrom 60 = .ok (.aload_n 0, 1) := by decide +kernel
theorem dX3_copyFrom_61 : decode cX3_copyFrom 61 = .ok (.aload_n 1, 1) := by decide +kernel
theorem dX3_copyFrom_62 : decode cX3_copyFrom 62 = .ok (.getfield 43, 3) := by decide +kernel
theorem dX3_copyFrom_65 : decode cX3_copyFrom 65 = .ok (.putfield 43, 3) := by decide +kernel
theorem dX3_copyFrom_68 : decode cX3_copyFrom 68 = .ok (.return_, 1) := by decide +kernel
set_option maxRecDepth 20000 in
theorem ggX3_tideNow_X4_heightIn : GoodIn wsX3_tideNow wsX4_heightIn := goodIn_r _ [7, 8, 9, 10, 11, 12, 13, 24, 25] (by decide +kernel) (by decide +kernel)
set_option maxRecDepth 20000 in
theorem gX3_tideNow_X4_heightIn : GoodIn wsX3_tideNow (wsV RX3 70 RX4 yX4_heightIn wsX4_heightIn) := goodIn_app (goodIn_of _ (by decide +kernel)) ggX3_tideNow_X4_heightIn
theorem dX3_tideNow_0 : decode cX3_tideNow 0 = .ok (.aload_n 0, 1) := by decide +kernel
theorem dX3_tideNow_1 : decode cX3_tideNow 1 = .ok (.getfield 12, 3) := by decide +kernel
theorem dX3_tideNow_4 : decode cX3_tideNow 4 = .ok (.aload_n 0, 1) := by decide +kernel
theorem dX3_tideNow_5 : decode cX3_tideNow 5 = .ok (.getfield 67, 3) := by decide +kernel
theorem dX3_tideNow_8 : decode cX3_tideNow 8 = .ok (.invokevirtual 70, 3) := by decide +kernel
theorem dX3_tideNow_11 : decode cX3_tideNow 11 = .ok (.ireturn, 1) := by decide +kernel
set_option maxRecDepth 20000 in
theorem ggX3_letGoBy_X3_liveOneHour : GoodIn wsX3_letGoBy wsX3_liveOneHour := goodIn_r _ [6, 7, 8, 9, 10, 11, 12, 5, 13, 14, 15, 16, 17, 18, 19, 20, 21, 22, 23, 24, 25, 26, 27, 28, 29, 1, 30, 31, 32, 33, 34, 35, 36, 37, 38, 39, 40, 41, 42, 43, 44, 45, 46, 47, 48, 49, 50, 51, 52, 53, 54, 55, 56, 57, 58, 59, 60, 61, 62, 63, 64, 65, 66, 67, 68, 69, 70, 71, 72, 73, 74, 75, 76, 77, 78, 79, 80, 81, 82, 83, 84, 85, 86, 87, 88, 89, 90, 91, 92, 93, 94, 95, 96, 97, 98, 99, 100, 101, 102, 103, 104, 105, 106, 107, 108, 109, 110, 111, 112, 113, 114, 115, 116, 117, 118, 119, 120, 121, 122, 123, 124, 125, 126, 127, 128, 129, 130, 131, 132, 133, 134, 135, 136, 137, 138, 139, 140, 141, 142, 143, 144, 145, 146, 147, 148, 149, 150, 151, 152, 153, 154, 155, 156, 157, 158, 159, 160, 161, 162, 163, 164, 165, 166, 167, 168, 169, 170, 171, 172, 173, 174, 175, 176, 177, 178, 179, 180, 181, 182, 183] (by decide +kernel) (by decide +kernel)
set_option maxRecDepth 20000 in
theorem gX3_letGoBy_X3_liveOneHour : GoodIn wsX3_letGoBy (wsV RX3 74 RX3 yX3_liveOneHour wsX3_liveOneHour) := goodIn_app (goodIn_of _ (by decide +kernel)) ggX3_letGoBy_X3_liveOneHour
theorem dX3_letGoBy_0 : decode cX3_letGoBy 0 = .ok (.iconst 0, 1) := by decide +kernel
theorem dX3_letGoBy_1 : decode cX3_letGoBy 1 = .ok (.istore_n 2, 1) := by decide +kernel
theorem dX3_letGoBy_2 : decode cX3_letGoBy 2 = .ok (.iconst 0, 1) := by decide +kernel
theorem dX3_letGoBy_3 : decode cX3_letGoBy 3 = .ok (.istore_n 3, 1) := by decide +kernel
theorem dX3_letGoBy_4 : decode cX3_letGoBy 4 = .ok (.iload_n 3, 1) := by decide +kernel
theorem dX3_letGoBy_5 : decode cX3_letGoBy 5 = .ok (.iload_n 1, 1) := by decide +kernel
theorem dX3_letGoBy_6 : decode cX3_letGoBy 6 = .ok (.if_icmp .ge 20, 3) := by decide +kernel
theorem dX3_letGoBy_9 : decode cX3_letGoBy 9 = .ok (.aload_n 0, 1) := by decide +kernel
theorem dX3_letGoBy_10 : decode cX3_letGoBy 10 = .ok (.invokevirtual 74, 3) := by decide +kernel
theorem dX3_letGoBy_13 : decode cX3_letGoBy 13 = .ok (.iload_n 2, 1) := by decide +kernel
theorem dX3_letGoBy_14 : decode cX3_letGoBy 14 = .ok (.aload_n 0, 1) := by decide +kernel
theorem dX3_letGoBy_15 : decode cX3_letGoBy 15 = .ok (.getfield 77, 3) := by decide +kernel
theorem dX3_letGoBy_18 : decode cX3_letGoBy 18 = .ok (.iadd, 1) := by decide +kernel
theorem dX3_letGoBy_19 : decode cX3_letGoBy 19 = .ok (.istore_n 2, 1) := by decide +kernel
theorem dX3_letGoBy_20 : decode cX3_letGoBy 20 = .ok (.iinc 3 1, 3) := by decide +kernel
theorem dX3_letGoBy_23 : decode cX3_letGoBy 23 = .ok (.goto (-19), 3) := by decide +kernel
theorem dX3_letGoBy_26 : decode cX3_letGoBy 26 = .ok (.iload_n 2, 1) := by decide +kernel
theorem dX3_letGoBy_27 : decode cX3_letGoBy 27 = .ok (.ireturn, 1) := by decide +kernel
set_option maxRecDepth 20000 in
theorem ggX3_liveOneHour_X3_tideNow : GoodIn wsX3_liveOneHour wsX3_tideNow := goodIn_r _ [8, 9, 3, 10, 11, 12, 13, 14, 15, 16, 17, 18, 19, 20, 148, 149, 150, 151, 152, 153, 154, 155, 156, 157, 168, 169] (by decide +kernel) (by decide +kernel)
set_option maxRecDepth 20000 in
theorem gX3_liveOneHour_X3_tideNow : GoodIn wsX3_liveOneHour (wsV RX3 80 RX3 yX3_tideNow wsX3_tideNow) := goodIn_app (goodIn_of _ (by decide +kernel)) ggX3_liveOneHour_X3_tideNow
set_option maxRecDepth 20000 in
theorem ggX3_liveOneHour_X3_water : GoodIn wsX3_liveOneHour wsX3_water := goodIn_r _ [24, 25, 1, 2, 26, 27, 28, 29, 7, 30, 31, 32, 33, 34, 35, 36, 37, 38, 39, 40, 41, 42, 43, 44, 45, 46, 47, 48, 49, 50, 51, 52, 53, 54, 55, 56, 57, 58, 59, 60, 61, 62, 63, 64, 65, 66, 67, 68, 69, 70, 71, 72, 148, 149, 150, 151, 152, 153, 154, 155, 156, 157, 158, 159, 160, 161, 162, 163, 164, 165, 166, 167, 170, 171, 172, 173, 174, 175, 176, 177, 178, 179] (by decide +kernel) (by decide +kernel)
set_option maxRecDepth 20000 in
theorem gX3_liveOneHour_X3_water : GoodIn wsX3_liveOneHour (wsV RX3 87 RX3 yX3_water wsX3_water) := goodIn_app (goodIn_of _ (by decide +kernel)) ggX3_liveOneHour_X3_water
set_option maxRecDepth 20000 in
theorem ggX3_liveOneHour_X3_writeAnswers : GoodIn wsX3_liveOneHour wsX3_writeAnswers := goodIn_r _ [76, 25, 39, 1, 36, 35, 77, 78, 63, 64, 65, 66, 67, 68, 79, 80, 81, 50, 82, 83, 84, 53, 54, 55, 56, 57, 85, 86, 87, 88, 89, 90, 91, 92, 93, 94, 95, 96, 97, 98, 99, 100, 101, 102, 148, 149, 150, 151, 152, 153, 154, 155, 156, 157, 158, 159, 160, 161, 162, 163, 164, 165, 166, 167, 174, 175, 176, 177, 178, 179] (by decide +kernel) (by decide +kernel)
set_option maxRecDepth 20000 in
theorem gX3_liveOneHour_X3_writeAnswers : GoodIn wsX3_liveOneHour (wsV RX3 91 RX3 yX3_writeAnswers wsX3_writeAnswers) := goodIn_app (goodIn_of _ (by decide +kernel)) ggX3_liveOneHour_X3_writeAnswers
set_option maxRecDepth 20000 in
theorem ggX3_liveOneHour_X3_bringAnswersNearer : GoodIn wsX3_liveOneHour wsX3_bringAnswersNearer := goodIn_r _ [106, 1, 26, 107, 148, 149, 150, 151, 152, 153, 154, 155, 156, 157, 158, 159, 160, 161, 162, 163, 164, 165, 166, 167] (by decide +kernel) (by decide +kernel)
set_option maxRecDepth 20000 in
theorem gX3_liveOneHour_X3_bringAnswersNearer : GoodIn wsX3_liveOneHour (wsV RX3 94 RX3 yX3_bringAnswersNearer wsX3_bringAnswersNearer) := goodIn_app (goodIn_of _ (by decide +kernel)) ggX3_liveOneHour_X3_bringAnswersNearer
set_option maxRecDepth 20000 in
theorem ggX3_liveOneHour_X3_scrape : GoodIn wsX3_liveOneHour wsX3_scrape := goodIn_r _ [111, 1, 2, 112, 113, 33, 114, 115, 116, 117, 118, 119, 120, 7, 121, 122, 123, 124, 125, 26, 31, 32, 40, 41, 42, 43, 44, 45, 46, 63, 64, 65, 66, 67, 68, 148, 149, 150, 151, 152, 153, 154, 155, 156, 157, 158, 159, 160, 161, 162, 163, 164, 165, 166, 167, 170, 171, 172, 173] (by decide +kernel) (by decide +kernel)
set_option maxRecDepth 20000 in
theorem gX3_liveOneHour_X3_scrape : GoodIn wsX3_liveOneHour (wsV RX3 98 RX3 yX3_scrape wsX3_scrape) := goodIn_app (goodIn_of _ (by decide +kernel)) ggX3_liveOneHour_X3_scrape
set_option maxRecDepth 20000 in
theorem ggX3_liveOneHour_X3_sort : GoodIn wsX3_liveOneHour wsX3_sort := goodIn_r _ [129, 130, 1, 31, 35, 36, 26, 32, 62, 131, 132, 133, 66, 134, 68, 92, 90, 63, 64, 65, 67, 47, 48, 49, 50, 51, 52, 53, 54, 55, 56, 57, 135, 136, 137, 43, 138, 45, 139, 140, 141, 142, 143, 144, 46, 145, 146, 116, 147, 69, 70, 71, 72, 148, 149, 150, 151, 152, 153, 154, 155, 156, 157, 158, 159, 160, 161, 162, 163, 164, 165, 166, 167, 170, 171, 172, 173, 174, 175, 176, 177, 178, 179] (by decide +kernel) (by decide +kernel)
set_option maxRecDepth 20000 in
theorem gX3_liveOneHour_X3_sort : GoodIn wsX3_liveOneHour (wsV RX3 101 RX3 yX3_sort wsX3_sort) := goodIn_app (goodIn_of _ (by decide +kernel)) ggX3_liveOneHour_X3_sort
theorem dX3_liveOneHour_0 : decode cX3_liveOneHour 0 = .ok (.aload_n 0, 1) := by decide +kernel
theorem dX3_liveOneHour_1 : decode cX3_liveOneHour 1 = .ok (.invokevirtual 80, 3) := by decide +kernel
theorem dX3_liveOneHour_4 : decode cX3_liveOneHour 4 = .ok (.istore_n 1, 1) := by decide +kernel
theorem dX3_liveOneHour_5 : decode cX3_liveOneHour 5 = .ok (.aload_n 0, 1) := by decide +kernel
theorem dX3_liveOneHour_6 : decode cX3_liveOneHour 6 = .ok (.getfield 35, 3) := by decide +kernel
theorem dX3_liveOneHour_9 : decode cX3_liveOneHour 9 = .ok (.getfield 84, 3) := by decide +kernel
theorem dX3_liveOneHour_12 : decode cX3_liveOneHour 12 = .ok (.istore_n 2, 1) := by decide +kernel
theorem dX3_liveOneHour_13 : decode cX3_liveOneHour 13 = .ok (.aload_n 0, 1) := by decide +kernel
theorem dX3_liveOneHour_14 : decode cX3_liveOneHour 14 = .ok (.iload_n 1, 1) := by decide +kernel
theorem dX3_liveOneHour_15 : decode cX3_liveOneHour 15 = .ok (.invokevirtual 87, 3) := by decide +kernel
theorem dX3_liveOneHour_18 : decode cX3_liveOneHour 18 = .ok (.aload_n 0, 1) := by decide +kernel
theorem dX3_liveOneHour_19 : decode cX3_liveOneHour 19 = .ok (.invokevirtual 91, 3) := by decide +kernel
theorem dX3_liveOneHour_22 : decode cX3_liveOneHour 22 = .ok (.aload_n 0, 1) := by decide +kernel
theorem dX3_liveOneHour_23 : decode cX3_liveOneHour 23 = .ok (.iload_n 2, 1) := by decide +kernel
theorem dX3_liveOneHour_24 : decode cX3_liveOneHour 24 = .ok (.iload_n 1, 1) := by decide +kernel
theorem dX3_liveOneHour_25 : decode cX3_liveOneHour 25 = .ok (.invokevirtual 94, 3) := by decide +kernel
theorem dX3_liveOneHour_28 : decode cX3_liveOneHour 28 = .ok (.aload_n 0, 1) := by decide +kernel
theorem dX3_liveOneHour_29 : decode cX3_liveOneHour 29 = .ok (.iload_n 1, 1) := by decide +kernel
theorem dX3_liveOneHour_30 : decode cX3_liveOneHour 30 = .ok (.invokevirtual 98, 3) := by decide +kernel
theorem dX3_liveOneHour_33 : decode cX3_liveOneHour 33 = .ok (.aload_n 0, 1) := by decide +kernel
theorem dX3_liveOneHour_34 : decode cX3_liveOneHour 34 = .ok (.invokevirtual 101, 3) := by decide +kernel
theorem dX3_liveOneHour_37 : decode cX3_liveOneHour 37 = .ok (.aload_n 0, 1) := by decide +kernel
theorem dX3_liveOneHour_38 : decode cX3_liveOneHour 38 = .ok (.dup, 1) := by decide +kernel
theorem dX3_liveOneHour_39 : decode cX3_liveOneHour 39 = .ok (.getfield 67, 3) := by decide +kernel
theorem dX3_liveOneHour_42 : decode cX3_liveOneHour 42 = .ok (.iconst 1, 1) := by decide +kernel
theorem dX3_liveOneHour_43 : decode cX3_liveOneHour 43 = .ok (.iadd, 1) := by decide +kernel
theorem dX3_liveOneHour_44 : decode cX3_liveOneHour 44 = .ok (.putfield 67, 3) := by decide +kernel
theorem dX3_liveOneHour_47 : decode cX3_liveOneHour 47 = .ok (.return_, 1) := by decide +kernel
set_option maxRecDepth 20000 in
theorem ggX3_water_X3_wash : GoodIn wsX3_water wsX3_wash := goodIn_r _ [9, 10, 2, 11, 12, 13, 14, 15, 16, 17, 1, 18, 19, 20, 21, 22, 23, 24, 25, 26, 27, 28, 29, 30, 31, 32, 33, 34, 35, 36, 37, 38, 39, 8, 40, 41, 4, 42, 43, 44, 45, 46, 47, 48, 49, 50, 51, 52, 53, 54, 55, 56, 57, 58, 59, 60, 61, 62, 63, 64, 65, 66, 67, 68, 69, 70, 71, 72, 73, 74, 75, 76, 77, 78, 79, 80, 81] (by decide +kernel) (by decide +kernel)
set_option maxRecDepth 20000 in
theorem gX3_water_X3_wash : GoodIn wsX3_water (wsV RX3 107 RX3 yX3_wash wsX3_wash) := goodIn_app (goodIn_of _ (by decide +kernel)) ggX3_water_X3_wash
theorem dX3_water_0 : decode cX3_water 0 = .ok (.aload_n 0, 1) := by decide +kernel
theorem dX3_water_1 : decode cX3_water 1 = .ok (.iconst 0, 1) := by decide +kernel
theorem dX3_water_2 : decode cX3_water 2 = .ok (.putfield 77, 3) := by decide +kernel
theorem dX3_water_5 : decode cX3_water 5 = .ok (.iconst 0, 1) := by decide +kernel
theorem dX3_water_6 : decode cX3_water 6 = .ok (.istore_n 2, 1) := by decide +kernel
theorem dX3_water_7 : decode cX3_water 7 = .ok (.iload_n 2, 1) := by decide +kernel
theorem dX3_water_8 : decode cX3_water 8 = .ok (.aload_n 0, 1) := by decide +kernel
theorem dX3_water_9 : decode cX3_water 9 = .ok (.getfield 35, 3) := by decide +kernel
theorem dX3_water_12 : decode cX3_water 12 = .ok (.getfield 84, 3) := by decide +kernel
theorem dX3_water_15 : decode cX3_water 15 = .ok (.if_icmp .ge 28, 3) := by decide +kernel
theorem dX3_water_18 : decode cX3_water 18 = .ok (.aload_n 0, 1) := by decide +kernel
theorem dX3_water_19 : decode cX3_water 19 = .ok (.getfield 35, 3) := by decide +kernel
theorem dX3_water_22 : decode cX3_water 22 = .ok (.getfield 104, 3) := by decide +kernel
theorem dX3_water_25 : decode cX3_water 25 = .ok (.iload_n 2, 1) := by decide +kernel
theorem dX3_water_26 : decode cX3_water 26 = .ok (.iaload, 1) := by decide +kernel
theorem dX3_water_27 : decode cX3_water 27 = .ok (.iconst 1, 1) := by decide +kernel
theorem dX3_water_28 : decode cX3_water 28 = .ok (.if_icmp .ne 9, 3) := by decide +kernel
theorem dX3_water_31 : decode cX3_water 31 = .ok (.aload_n 0, 1) := by decide +kernel
theorem dX3_water_32 : decode cX3_water 32 = .ok (.iload_n 2, 1) := by decide +kernel
theorem dX3_water_33 : decode cX3_water 33 = .ok (.iload_n 1, 1) := by decide +kernel
theorem dX3_water_34 : decode cX3_water 34 = .ok (.invokevirtual 107, 3) := by decide +kernel
theorem dX3_water_37 : decode cX3_water 37 = .ok (.iinc 2 1, 3) := by decide +kernel
theorem dX3_water_40 : decode cX3_water 40 = .ok (.goto (-33), 3) := by decide +kernel
theorem dX3_water_43 : decode cX3_water 43 = .ok (.return_, 1) := by decide +kernel
set_option maxRecDepth 20000 in
theorem ggX3_wash_X0_isUnder : GoodIn wsX3_wash wsX0_isUnder := goodIn_r _ [16, 17, 18, 67, 68, 69, 70] (by decide +kernel) (by decide +kernel)
set_option maxRecDepth 20000 in
theorem gX3_wash_X0_isUnder : GoodIn wsX3_wash (wsV RX3 113 RX0 yX0_isUnder wsX0_isUnder) := goodIn_app (goodIn_of _ (by decide +kernel)) ggX3_wash_X0_isUnder
set_option maxRecDepth 20000 in
theorem ggX3_wash_X1_heightOf : GoodIn wsX3_wash wsX1_heightOf := goodIn_r _ [23, 24, 25, 26, 27, 22, 28, 29, 71, 72, 73, 74, 75, 76] (by decide +kernel) (by decide +kernel)
set_option maxRecDepth 20000 in
theorem gX3_wash_X1_heightOf : GoodIn wsX3_wash (wsV RX3 126 RX1 yX1_heightOf wsX1_heightOf) := goodIn_app (goodIn_of _ (by decide +kernel)) ggX3_wash_X1_heightOf
set_option maxRecDepth 20000 in
theorem ggX3_wash_X3_leaveBin : GoodIn wsX3_wash wsX3_leaveBin := goodIn_r _ [34, 2, 3, 1, 35, 8, 36, 37, 38, 39, 40, 41, 42, 43, 44, 45, 15, 46, 17, 47, 48, 49, 50, 51, 52, 53, 54, 55, 56, 57, 58, 59, 60, 61, 62, 63, 64, 65, 66, 67, 68, 69, 70] (by decide +kernel) (by decide +kernel)
set_option maxRecDepth 20000 in
theorem gX3_wash_X3_leaveBin : GoodIn wsX3_wash (wsV RX3 135 RX3 yX3_leaveBin wsX3_leaveBin) := goodIn_app (goodIn_of _ (by decide +kernel)) ggX3_wash_X3_leaveBin
theorem dX3_wash_0 : decode cX3_wash 0 = .ok (.aload_n 0, 1) := by decide +kernel
theorem dX3_wash_1 : decode cX3_wash 1 = .ok (.getfield 21, 3) := by decide +kernel
theorem dX3_wash_4 : decode cX3_wash 4 = .ok (.aload_n 0, 1) := by decide +kernel
theorem dX3_wash_5 : decode cX3_wash 5 = .ok (.getfield 35, 3) := by decide +kernel
theorem dX3_wash_8 : decode cX3_wash 8 = .ok (.getfield 110, 3) := by decide +kernel
theorem dX3_wash_11 : decode cX3_wash 11 = .ok (.iload_n 1, 1) := by decide +kernel
theorem dX3_wash_12 : decode cX3_wash 12 = .ok (.iaload, 1) := by decide +kernel
theorem dX3_wash_13 : decode cX3_wash 13 = .ok (.iload_n 2, 1) := by decide +kernel
theorem dX3_wash_14 : decode cX3_wash 14 = .ok (.invokevirtual 113, 3) := by decide +kernel
theorem dX3_wash_17 : decode cX3_wash 17 = .ok (.istore_n 3, 1) := by decide +kernel
theorem dX3_wash_18 : decode cX3_wash 18 = .ok (.iload_n 3, 1) := by decide +kernel
theorem dX3_wash_19 : decode cX3_wash 19 = .ok (.ifCond .eq 28, 3) := by decide +kernel
theorem dX3_wash_22 : decode cX3_wash 22 = .ok (.aload_n 0, 1) := by decide +kernel
theorem dX3_wash_23 : decode cX3_wash 23 = .ok (.getfield 35, 3) := by decide +kernel
theorem dX3_wash_26 : decode cX3_wash 26 = .ok (.getfield 117, 3) := by decide +kernel
theorem dX3_wash_29 : decode cX3_wash 29 = .ok (.iload_n 1, 1) := by decide +kernel
theorem dX3_wash_30 : decode cX3_wash 30 = .ok (.dup2, 1) := by decide +kernel
theorem dX3_wash_31 : decode cX3_wash 31 = .ok (.iaload, 1) := by decide +kernel
theorem dX3_wash_32 : decode cX3_wash 32 = .ok (.iconst 1, 1) := by decide +kernel
theorem dX3_wash_33 : decode cX3_wash 33 = .ok (.aload_n 0, 1) := by decide +kernel
theorem dX3_wash_34 : decode cX3_wash 34 = .ok (.getfield 35, 3) := by decide +kernel
theorem dX3_wash_37 : decode cX3_wash 37 = .ok (.getfield 120, 3) := by decide +kernel
theorem dX3_wash_40 : decode cX3_wash 40 = .ok (.iload_n 1, 1) := by decide +kernel
theorem dX3_wash_41 : decode cX3_wash 41 = .ok (.iaload, 1) := by decide +kernel
theorem dX3_wash_42 : decode cX3_wash 42 = .ok (.iconst 3, 1) := by decide +kernel
theorem dX3_wash_43 : decode cX3_wash 43 = .ok (.idiv, 1) := by decide +kernel
theorem dX3_wash_44 : decode cX3_wash 44 = .ok (.iadd, 1) := by decide +kernel
theorem dX3_wash_45 : decode cX3_wash 45 = .ok (.iadd, 1) := by decide +kernel
theorem dX3_wash_46 : decode cX3_wash 46 = .ok (.iastore, 1) := by decide +kernel
theorem dX3_wash_47 : decode cX3_wash 47 = .ok (.iload_n 3, 1) := by decide +kernel
theorem dX3_wash_48 : decode cX3_wash 48 = .ok (.ifCond .eq 27, 3) := by decide +kernel
theorem dX3_wash_51 : decode cX3_wash 51 = .ok (.iload_n 2, 1) := by decide +kernel
theorem dX3_wash_52 : decode cX3_wash 52 = .ok (.aload_n 0, 1) := by decide +kernel
theorem dX3_wash_53 : decode cX3_wash 53 = .ok (.getfield 28, 3) := by decide +kernel
theorem dX3_wash_56 : decode cX3_wash 56 = .ok (.aload_n 0, 1) := by decide +kernel
theorem dX3_wash_57 : decode cX3_wash 57 = .ok (.getfield 35, 3) := by decide +kernel
theorem dX3_wash_60 : decode cX3_wash 60 = .ok (.getfield 123, 3) := by decide +kernel
theorem dX3_wash_63 : decode cX3_wash 63 = .ok (.iload_n 1, 1) := by decide +kernel
theorem dX3_wash_64 : decode cX3_wash 64 = .ok (.iaload, 1) := by decide +kernel
theorem dX3_wash_65 : decode cX3_wash 65 = .ok (.invokevirtual 126, 3) := by decide +kernel
theorem dX3_wash_68 : decode cX3_wash 68 = .ok (.if_icmp .lt 7, 3) := by decide +kernel
theorem dX3_wash_71 : decode cX3_wash 71 = .ok (.iconst 1, 1) := by decide +kernel
theorem dX3_wash_72 : decode cX3_wash 72 = .ok (.goto 4, 3) := by decide +kernel
theorem dX3_wash_75 : decode cX3_wash 75 = .ok (.iconst 0, 1) := by decide +kernel
theorem dX3_wash_76 : decode cX3_wash 76 = .ok (.istore 4, 2) := by decide +kernel
theorem dX3_wash_78 : decode cX3_wash 78 = .ok (.aload_n 0, 1) := by decide +kernel
theorem dX3_wash_79 : decode cX3_wash 79 = .ok (.getfield 35, 3) := by decide +kernel
theorem dX3_wash_82 : decode cX3_wash 82 = .ok (.getfield 129, 3) := by decide +kernel
theorem dX3_wash_85 : decode cX3_wash 85 = .ok (.iload_n 1, 1) := by decide +kernel
theorem dX3_wash_86 : decode cX3_wash 86 = .ok (.iload 4, 2) := by decide +kernel
theorem dX3_wash_88 : decode cX3_wash 88 = .ok (.ifCond .eq 17, 3) := by decide +kernel
theorem dX3_wash_91 : decode cX3_wash 91 = .ok (.aload_n 0, 1) := by decide +kernel
theorem dX3_wash_92 : decode cX3_wash 92 = .ok (.getfield 35, 3) := by decide +kernel
theorem dX3_wash_95 : decode cX3_wash 95 = .ok (.getfield 129, 3) := by decide +kernel
theorem dX3_wash_98 : decode cX3_wash 98 = .ok (.iload_n 1, 1) := by decide +kernel
theorem dX3_wash_99 : decode cX3_wash 99 = .ok (.iaload, 1) := by decide +kernel
theorem dX3_wash_100 : decode cX3_wash 100 = .ok (.iconst 1, 1) := by decide +kernel
theorem dX3_wash_101 : decode cX3_wash 101 = .ok (.iadd, 1) := by decide +kernel
theorem dX3_wash_102 : decode cX3_wash 102 = .ok (.goto 4, 3) := by decide +kernel
theorem dX3_wash_105 : decode cX3_wash 105 = .ok (.iconst 0, 1) := by decide +kernel
theorem dX3_wash_106 : decode cX3_wash 106 = .ok (.iastore, 1) := by decide +kernel
theorem dX3_wash_107 : decode cX3_wash 107 = .ok (.iload_n 3, 1) := by decide +kernel
theorem dX3_wash_108 : decode cX3_wash 108 = .ok (.ifCond .eq 33, 3) := by decide +kernel
theorem dX3_wash_111 : decode cX3_wash 111 = .ok (.aload_n 0, 1) := by decide +kernel
theorem dX3_wash_112 : decode cX3_wash 112 = .ok (.getfield 35, 3) := by decide +kernel
theorem dX3_wash_115 : decode cX3_wash 115 = .ok (.getfield 117, 3) := by decide +kernel
theorem dX3_wash_118 : decode cX3_wash 118 = .ok (.iload_n 1, 1) := by decide +kernel
theorem dX3_wash_119 : decode cX3_wash 119 = .ok (.iaload, 1) := by decide +kernel
theorem dX3_wash_120 : decode cX3_wash 120 = .ok (.aload_n 0, 1) := by decide +kernel
theorem dX3_wash_121 : decode cX3_wash 121 = .ok (.getfield 35, 3) := by decide +kernel
theorem dX3_wash_124 : decode cX3_wash 124 = .ok (.getfield 132, 3) := by decide +kernel
theorem dX3_wash_127 : decode cX3_wash 127 = .ok (.iload_n 1, 1) := by decide +kernel
theorem dX3_wash_128 : decode cX3_wash 128 = .ok (.iaload, 1) := by decide +kernel
theorem dX3_wash_129 : decode cX3_wash 129 = .ok (.if_icmp .lt 12, 3) := by decide +kernel
theorem dX3_wash_132 : decode cX3_wash 132 = .ok (.aload_n 0, 1) := by decide +kernel
theorem dX3_wash_133 : decode cX3_wash 133 = .ok (.iload_n 1, 1) := by decide +kernel
theorem dX3_wash_134 : decode cX3_wash 134 = .ok (.iconst 3, 1) := by decide +kernel
theorem dX3_wash_135 : decode cX3_wash 135 = .ok (.invokevirtual 135, 3) := by decide +kernel
theorem dX3_wash_138 : decode cX3_wash 138 = .ok (.goto 52, 3) := by decide +kernel
theorem dX3_wash_141 : decode cX3_wash 141 = .ok (.aload_n 0, 1) := by decide +kernel
theorem dX3_wash_142 : decode cX3_wash 142 = .ok (.getfield 35, 3) := by decide +kernel
theorem dX3_wash_145 : decode cX3_wash 145 = .ok (.getfield 129, 3) := by decide +kernel
theorem dX3_wash_148 : decode cX3_wash 148 = .ok (.iload_n 1, 1) := by decide +kernel
theorem dX3_wash_149 : decode cX3_wash 149 = .ok (.iaload, 1) := by decide +kernel
theorem dX3_wash_150 : decode cX3_wash 150 = .ok (.iconst 3, 1) := by decide +kernel
theorem dX3_wash_151 : decode cX3_wash 151 = .ok (.if_icmp .lt 39, 3) := by decide +kernel
theorem dX3_wash_154 : decode cX3_wash 154 = .ok (.aload_n 0, 1) := by decide +kernel
theorem dX3_wash_155 : decode cX3_wash 155 = .ok (.getfield 77, 3) := by decide +kernel
theorem dX3_wash_158 : decode cX3_wash 158 = .ok (.sipush 150, 3) := by decide +kernel
theorem dX3_wash_161 : decode cX3_wash 161 = .ok (.if_icmp .ge 29, 3) := by decide +kernel
theorem dX3_wash_164 : decode cX3_wash 164 = .ok (.aload_n 0, 1) := by decide +kernel
theorem dX3_wash_165 : decode cX3_wash 165 = .ok (.iload_n 1, 1) := by decide +kernel
theorem dX3_wash_166 : decode cX3_wash 166 = .ok (.iconst 2, 1) := by decide +kernel
theorem dX3_wash_167 : decode cX3_wash 167 = .ok (.invokevirtual 135, 3) := by decide +kernel
theorem dX3_wash_170 : decode cX3_wash 170 = .ok (.aload_n 0, 1) := by decide +kernel
theorem dX3_wash_171 : decode cX3_wash 171 = .ok (.getfield 46, 3) := by decide +kernel
theorem dX3_wash_174 : decode cX3_wash 174 = .ok (.aload_n 0, 1) := by decide +kernel
theorem dX3_wash_175 : decode cX3_wash 175 = .ok (.getfield 77, 3) := by decide +kernel
theorem dX3_wash_178 : decode cX3_wash 178 = .ok (.iload_n 1, 1) := by decide +kernel
theorem dX3_wash_179 : decode cX3_wash 179 = .ok (.iastore, 1) := by decide +kernel
theorem dX3_wash_180 : decode cX3_wash 180 = .ok (.aload_n 0, 1) := by decide +kernel
theorem dX3_wash_181 : decode cX3_wash 181 = .ok (.dup, 1) := by decide +kernel
theorem dX3_wash_182 : decode cX3_wash 182 = .ok (.getfield 77, 3) := by decide +kernel
theorem dX3_wash_185 : decode cX3_wash 185 = .ok (.iconst 1, 1) := by decide +kernel
theorem dX3_wash_186 : decode cX3_wash 186 = .ok (.iadd, 1) := by decide +kernel
theorem dX3_wash_187 : decode cX3_wash 187 = .ok (.putfield 77, 3) := by decide +kernel
theorem dX3_wash_190 : decode cX3_wash 190 = .ok (.return_, 1) := by decide +kernel
set_option maxRecDepth 20000 in
theorem ggX3_leaveBin_X2_has : GoodIn wsX3_leaveBin wsX2_has := goodIn_r _ [11, 12, 29, 30, 31, 32, 33, 34, 35, 36, 37, 38] (by decide +kernel) (by decide +kernel)
set_option maxRecDepth 20000 in
theorem gX3_leaveBin_X2_has : GoodIn wsX3_leaveBin (wsV RX3 138 RX2 yX2_has wsX2_has) := goodIn_app (goodIn_of _ (by decide +kernel)) ggX3_leaveBin_X2_has
set_option maxRecDepth 20000 in
theorem ggX3_leaveBin_X0_has : GoodIn wsX3_leaveBin wsX0_has := goodIn_r _ [17, 18, 39, 40, 41, 42] (by decide +kernel) (by decide +kernel)
set_option maxRecDepth 20000 in
theorem gX3_leaveBin_X0_has : GoodIn wsX3_leaveBin (wsV RX3 142 RX0 yX0_has wsX0_has) := goodIn_app (goodIn_of _ (by decide +kernel)) ggX3_leaveBin_X0_has
theorem dX3_leaveBin_0 : decode cX3_leaveBin 0 = .ok (.aload_n 0, 1) := by decide +kernel
theorem dX3_leaveBin_1 : decode cX3_leaveBin 1 = .ok (.getfield 35, 3) := by decide +kernel
theorem dX3_leaveBin_4 : decode cX3_leaveBin 4 = .ok (.iload_n 1, 1) := by decide +kernel
theorem dX3_leaveBin_5 : decode cX3_leaveBin 5 = .ok (.invokevirtual 138, 3) := by decide +kernel
theorem dX3_leaveBin_8 : decode cX3_leaveBin 8 = .ok (.ifCond .ne 4, 3) := by decide +kernel
theorem dX3_leaveBin_11 : decode cX3_leaveBin 11 = .ok (.return_, 1) := by decide +kernel
theorem dX3_leaveBin_12 : decode cX3_leaveBin 12 = .ok (.aload_n 0, 1) := by decide +kernel
theorem dX3_leaveBin_13 : decode cX3_leaveBin 13 = .ok (.getfield 35, 3) := by decide +kernel
theorem dX3_leaveBin_16 : decode cX3_leaveBin 16 = .ok (.getfield 110, 3) := by decide +kernel
theorem dX3_leaveBin_19 : decode cX3_leaveBin 19 = .ok (.iload_n 1, 1) := by decide +kernel
theorem dX3_leaveBin_20 : decode cX3_leaveBin 20 = .ok (.iaload, 1) := by decide +kernel
theorem dX3_leaveBin_21 : decode cX3_leaveBin 21 = .ok (.istore_n 3, 1) := by decide +kernel
theorem dX3_leaveBin_22 : decode cX3_leaveBin 22 = .ok (.aload_n 0, 1) := by decide +kernel
theorem dX3_leaveBin_23 : decode cX3_leaveBin 23 = .ok (.getfield 21, 3) := by decide +kernel
theorem dX3_leaveBin_26 : decode cX3_leaveBin 26 = .ok (.iload_n 3, 1) := by decide +kernel
theorem dX3_leaveBin_27 : decode cX3_leaveBin 27 = .ok (.invokevirtual 142, 3) := by decide +kernel
theorem dX3_leaveBin_30 : decode cX3_leaveBin 30 = .ok (.ifCond .eq 16, 3) := by decide +kernel
theorem dX3_leaveBin_33 : decode cX3_leaveBin 33 = .ok (.aload_n 0, 1) := by decide +kernel
theorem dX3_leaveBin_34 : decode cX3_leaveBin 34 = .ok (.getfield 21, 3) := by decide +kernel
theorem dX3_leaveBin_37 : decode cX3_leaveBin 37 = .ok (.getfield 143, 3) := by decide +kernel
theorem dX3_leaveBin_40 : decode cX3_leaveBin 40 = .ok (.iload_n 3, 1) := by decide +kernel
theorem dX3_leaveBin_41 : decode cX3_leaveBin 41 = .ok (.dup2, 1) := by decide +kernel
theorem dX3_leaveBin_42 : decode cX3_leaveBin 42 = .ok (.iaload, 1) := by decide +kernel
theorem dX3_leaveBin_43 : decode cX3_leaveBin 43 = .ok (.iconst 1, 1) := by decide +kernel
theorem dX3_leaveBin_44 : decode cX3_leaveBin 44 = .ok (.isub, 1) := by decide +kernel
theorem dX3_leaveBin_45 : decode cX3_leaveBin 45 = .ok (.iastore, 1) := by decide +kernel
theorem dX3_leaveBin_46 : decode cX3_leaveBin 46 = .ok (.aload_n 0, 1) := by decide +kernel
theorem dX3_leaveBin_47 : decode cX3_leaveBin 47 = .ok (.getfield 35, 3) := by decide +kernel
theorem dX3_leaveBin_50 : decode cX3_leaveBin 50 = .ok (.getfield 110, 3) := by decide +kernel
theorem dX3_leaveBin_53 : decode cX3_leaveBin 53 = .ok (.iload_n 1, 1) := by decide +kernel
theorem dX3_leaveBin_54 : decode cX3_leaveBin 54 = .ok (.iconst (-1), 1) := by decide +kernel
theorem dX3_leaveBin_55 : decode cX3_leaveBin 55 = .ok (.iastore, 1) := by decide +kernel
theorem dX3_leaveBin_56 : decode cX3_leaveBin 56 = .ok (.aload_n 0, 1) := by decide +kernel
theorem dX3_leaveBin_57 : decode cX3_leaveBin 57 = .ok (.getfield 35, 3) := by decide +kernel
theorem dX3_leaveBin_60 : decode cX3_leaveBin 60 = .ok (.getfield 129, 3) := by decide +kernel
theorem dX3_leaveBin_63 : decode cX3_leaveBin 63 = .ok (.iload_n 1, 1) := by decide +kernel
theorem dX3_leaveBin_64 : decode cX3_leaveBin 64 = .ok (.iconst 0, 1) := by decide +kernel
theorem dX3_leaveBin_65 : decode cX3_leaveBin 65 = .ok (.iastore, 1) := by decide +kernel
theorem dX3_leaveBin_66 : decode cX3_leaveBin 66 = .ok (.aload_n 0, 1) := by decide +kernel
theorem dX3_leaveBin_67 : decode cX3_leaveBin 67 = .ok (.getfield 35, 3) := by decide +kernel
theorem dX3_leaveBin_70 : decode cX3_leaveBin 70 = .ok (.getfield 104, 3) := by decide +kernel
theorem dX3_leaveBin_73 : decode cX3_leaveBin 73 = .ok (.iload_n 1, 1) := by decide +kernel
theorem dX3_leaveBin_74 : decode cX3_leaveBin 74 = .ok (.iload_n 2, 1) := by decide +kernel
theorem dX3_leaveBin_75 : decode cX3_leaveBin 75 = .ok (.iastore, 1) := by decide +kernel
theorem dX3_leaveBin_76 : decode cX3_leaveBin 76 = .ok (.return_, 1) := by decide +kernel
set_option maxRecDepth 20000 in
theorem ggX3_writeAnswers_X2_has : GoodIn wsX3_writeAnswers wsX2_has := goodIn_r _ [12, 13, 54, 55, 56, 57, 58, 59, 60, 61, 62, 63] (by decide +kernel) (by decide +kernel)
set_option maxRecDepth 20000 in
theorem gX3_writeAnswers_X2_has : GoodIn wsX3_writeAnswers (wsV RX3 138 RX2 yX2_has wsX2_has) := goodIn_app (goodIn_of _ (by decide +kernel)) ggX3_writeAnswers_X2_has
set_option maxRecDepth 20000 in
theorem ggX3_writeAnswers_X1_gets : GoodIn wsX3_writeAnswers wsX1_gets := goodIn_r _ [18, 19, 20, 21, 22, 23, 17, 24, 25, 64, 65, 66, 67, 68, 69] (by decide +kernel) (by decide +kernel)
set_option maxRecDepth 20000 in
theorem gX3_writeAnswers_X1_gets : GoodIn wsX3_writeAnswers (wsV RX3 146 RX1 yX1_gets wsX1_gets) := goodIn_app (goodIn_of _ (by decide +kernel)) ggX3_writeAnswers_X1_gets
set_option maxRecDepth 20000 in
theorem ggX3_writeAnswers_X2_answer : GoodIn wsX3_writeAnswers wsX2_answer := goodIn_r _ [29, 30, 31, 32, 33, 34, 35, 36, 9, 10, 11, 12, 13, 37, 38, 39, 40, 41, 42, 43, 54, 55, 56, 57, 58, 59, 60, 61, 62, 63] (by decide +kernel) (by decide +kernel)
set_option maxRecDepth 20000 in
theorem gX3_writeAnswers_X2_answer : GoodIn wsX3_writeAnswers (wsV RX3 152 RX2 yX2_answer wsX2_answer) := goodIn_app (goodIn_of _ (by decide +kernel)) ggX3_writeAnswers_X2_answer
theorem dX3_writeAnswers_0 : decode cX3_writeAnswers 0 = .ok (.iconst 0, 1) := by decide +kernel
theorem dX3_writeAnswers_1 : decode cX3_writeAnswers 1 = .ok (.istore_n 1, 1) := by decide +kernel
theorem dX3_writeAnswers_2 : decode cX3_writeAnswers 2 = .ok (.iload_n 1, 1) := by decide +kernel
theorem dX3_writeAnswers_3 : decode cX3_writeAnswers 3 = .ok (.aload_n 0, 1) := by decide +kernel
theorem dX3_writeAnswers_4 : decode cX3_writeAnswers 4 = .ok (.getfield 77, 3) := by decide +kernel
theorem dX3_writeAnswers_7 : decode cX3_writeAnswers 7 = .ok (.if_icmp .ge 85, 3) := by decide +kernel
theorem dX3_writeAnswers_10 : decode cX3_writeAnswers 10 = .ok (.aload_n 0, 1) := by decide +kernel
theorem dX3_writeAnswers_11 : decode cX3_writeAnswers 11 = .ok (.getfield 46, 3) := by decide +kernel
theorem dX3_writeAnswers_14 : decode cX3_writeAnswers 14 = .ok (.iload_n 1, 1) := by decide +kernel
theorem dX3_writeAnswers_15 : decode cX3_writeAnswers 15 = .ok (.iaload, 1) := by decide +kernel
theorem dX3_writeAnswers_16 : decode cX3_writeAnswers 16 = .ok (.istore_n 2, 1) := by decide +kernel
theorem dX3_writeAnswers_17 : decode cX3_writeAnswers 17 = .ok (.aload_n 0, 1) := by decide +kernel
theorem dX3_writeAnswers_18 : decode cX3_writeAnswers 18 = .ok (.getfield 35, 3) := by decide +kernel
theorem dX3_writeAnswers_21 : decode cX3_writeAnswers 21 = .ok (.iload_n 2, 1) := by decide +kernel
theorem dX3_writeAnswers_22 : decode cX3_writeAnswers 22 = .ok (.invokevirtual 138, 3) := by decide +kernel
theorem dX3_writeAnswers_25 : decode cX3_writeAnswers 25 = .ok (.ifCond .eq 15, 3) := by decide +kernel
theorem dX3_writeAnswers_28 : decode cX3_writeAnswers 28 = .ok (.aload_n 0, 1) := by decide +kernel
theorem dX3_writeAnswers_29 : decode cX3_writeAnswers 29 = .ok (.getfield 35, 3) := by decide +kernel
theorem dX3_writeAnswers_32 : decode cX3_writeAnswers 32 = .ok (.getfield 123, 3) := by decide +kernel
theorem dX3_writeAnswers_35 : decode cX3_writeAnswers 35 = .ok (.iload_n 2, 1) := by decide +kernel
theorem dX3_writeAnswers_36 : decode cX3_writeAnswers 36 = .ok (.iaload, 1) := by decide +kernel
theorem dX3_writeAnswers_37 : decode cX3_writeAnswers 37 = .ok (.goto 4, 3) := by decide +kernel
theorem dX3_writeAnswers_40 : decode cX3_writeAnswers 40 = .ok (.iconst (-1), 1) := by decide +kernel
theorem dX3_writeAnswers_41 : decode cX3_writeAnswers 41 = .ok (.istore_n 3, 1) := by decide +kernel
theorem dX3_writeAnswers_42 : decode cX3_writeAnswers 42 = .ok (.aload_n 0, 1) := by decide +kernel
theorem dX3_writeAnswers_43 : decode cX3_writeAnswers 43 = .ok (.getfield 28, 3) := by decide +kernel
theorem dX3_writeAnswers_46 : decode cX3_writeAnswers 46 = .ok (.iload_n 3, 1) := by decide +kernel
theorem dX3_writeAnswers_47 : decode cX3_writeAnswers 47 = .ok (.invokevirtual 146, 3) := by decide +kernel
theorem dX3_writeAnswers_50 : decode cX3_writeAnswers 50 = .ok (.ifCond .eq 36, 3) := by decide +kernel
theorem dX3_writeAnswers_53 : decode cX3_writeAnswers 53 = .ok (.aload_n 0, 1) := by decide +kernel
theorem dX3_writeAnswers_54 : decode cX3_writeAnswers 54 = .ok (.getfield 35, 3) := by decide +kernel
theorem dX3_writeAnswers_57 : decode cX3_writeAnswers 57 = .ok (.iload_n 2, 1) := by decide +kernel
theorem dX3_writeAnswers_58 : decode cX3_writeAnswers 58 = .ok (.aload_n 0, 1) := by decide +kernel
theorem dX3_writeAnswers_59 : decode cX3_writeAnswers 59 = .ok (.getfield 28, 3) := by decide +kernel
theorem dX3_writeAnswers_62 : decode cX3_writeAnswers 62 = .ok (.getfield 149, 3) := by decide +kernel
theorem dX3_writeAnswers_65 : decode cX3_writeAnswers 65 = .ok (.iload_n 3, 1) := by decide +kernel
theorem dX3_writeAnswers_66 : decode cX3_writeAnswers 66 = .ok (.iaload, 1) := by decide +kernel
theorem dX3_writeAnswers_67 : decode cX3_writeAnswers 67 = .ok (.invokevirtual 152, 3) := by decide +kernel
theorem dX3_writeAnswers_70 : decode cX3_writeAnswers 70 = .ok (.ifCond .eq 16, 3) := by decide +kernel
theorem dX3_writeAnswers_73 : decode cX3_writeAnswers 73 = .ok (.aload_n 0, 1) := by decide +kernel
theorem dX3_writeAnswers_74 : decode cX3_writeAnswers 74 = .ok (.getfield 28, 3) := by decide +kernel
theorem dX3_writeAnswers_77 : decode cX3_writeAnswers 77 = .ok (.getfield 155, 3) := by decide +kernel
theorem dX3_writeAnswers_80 : decode cX3_writeAnswers 80 = .ok (.iload_n 3, 1) := by decide +kernel
theorem dX3_writeAnswers_81 : decode cX3_writeAnswers 81 = .ok (.dup2, 1) := by decide +kernel
theorem dX3_writeAnswers_82 : decode cX3_writeAnswers 82 = .ok (.iaload, 1) := by decide +kernel
theorem dX3_writeAnswers_83 : decode cX3_writeAnswers 83 = .ok (.iconst 1, 1) := by decide +kernel
theorem dX3_writeAnswers_84 : decode cX3_writeAnswers 84 = .ok (.iadd, 1) := by decide +kernel
theorem dX3_writeAnswers_85 : decode cX3_writeAnswers 85 = .ok (.iastore, 1) := by decide +kernel
theorem dX3_writeAnswers_86 : decode cX3_writeAnswers 86 = .ok (.iinc 1 1, 3) := by decide +kernel
theorem dX3_writeAnswers_89 : decode cX3_writeAnswers 89 = .ok (.goto (-87), 3) := by decide +kernel
theorem dX3_writeAnswers_92 : decode cX3_writeAnswers 92 = .ok (.return_, 1) := by decide +kernel
theorem dX3_bringAnswersNearer_0 : decode cX3_bringAnswersNearer 0 = .ok (.iconst 0, 1) := by decide +kernel
theorem dX3_bringAnswersNearer_1 : decode cX3_bringAnswersNearer 1 = .ok (.istore_n 3, 1) := by decide +kernel
theorem dX3_bringAnswersNearer_2 : decode cX3_bringAnswersNearer 2 = .ok (.iload_n 3, 1) := by decide +kernel
theorem dX3_bringAnswersNearer_3 : decode cX3_bringAnswersNearer 3 = .ok (.iload_n 1, 1) := by decide +kernel
theorem dX3_bringAnswersNearer_4 : decode cX3_bringAnswersNearer 4 = .ok (.if_icmp .ge 75, 3) := by decide +kernel
theorem dX3_bringAnswersNearer_7 : decode cX3_bringAnswersNearer 7 = .ok (.aload_n 0, 1) := by decide +kernel
theorem dX3_bringAnswersNearer_8 : decode cX3_bringAnswersNearer 8 = .ok (.getfield 35, 3) := by decide +kernel
theorem dX3_bringAnswersNearer_11 : decode cX3_bringAnswersNearer 11 = .ok (.getfield 104, 3) := by decide +kernel
theorem dX3_bringAnswersNearer_14 : decode cX3_bringAnswersNearer 14 = .ok (.iload_n 3, 1) := by decide +kernel
theorem dX3_bringAnswersNearer_15 : decode cX3_bringAnswersNearer 15 = .ok (.iaload, 1) := by decide +kernel
theorem dX3_bringAnswersNearer_16 : decode cX3_bringAnswersNearer 16 = .ok (.iconst 4, 1) := by decide +kernel
theorem dX3_bringAnswersNearer_17 : decode cX3_bringAnswersNearer 17 = .ok (.if_icmp .ne 56, 3) := by decide +kernel
theorem dX3_bringAnswersNearer_20 : decode cX3_bringAnswersNearer 20 = .ok (.aload_n 0, 1) := by decide +kernel
theorem dX3_bringAnswersNearer_21 : decode cX3_bringAnswersNearer 21 = .ok (.getfield 35, 3) := by decide +kernel
theorem dX3_bringAnswersNearer_24 : decode cX3_bringAnswersNearer 24 = .ok (.getfield 158, 3) := by decide +kernel
theorem dX3_bringAnswersNearer_27 : decode cX3_bringAnswersNearer 27 = .ok (.iload_n 3, 1) := by decide +kernel
theorem dX3_bringAnswersNearer_28 : decode cX3_bringAnswersNearer 28 = .ok (.iaload, 1) := by decide +kernel
theorem dX3_bringAnswersNearer_29 : decode cX3_bringAnswersNearer 29 = .ok (.ifCond .le 16, 3) := by decide +kernel
theorem dX3_bringAnswersNearer_32 : decode cX3_bringAnswersNearer 32 = .ok (.aload_n 0, 1) := by decide +kernel
theorem dX3_bringAnswersNearer_33 : decode cX3_bringAnswersNearer 33 = .ok (.getfield 35, 3) := by decide +kernel
theorem dX3_bringAnswersNearer_36 : decode cX3_bringAnswersNearer 36 = .ok (.getfield 158, 3) := by decide +kernel
theorem dX3_bringAnswersNearer_39 : decode cX3_bringAnswersNearer 39 = .ok (.iload_n 3, 1) := by decide +kernel
theorem dX3_bringAnswersNearer_40 : decode cX3_bringAnswersNearer 40 = .ok (.dup2, 1) := by decide +kernel
theorem dX3_bringAnswersNearer_41 : decode cX3_bringAnswersNearer 41 = .ok (.iaload, 1) := by decide +kernel
theorem dX3_bringAnswersNearer_42 : decode cX3_bringAnswersNearer 42 = .ok (.iconst 1, 1) := by decide +kernel
theorem dX3_bringAnswersNearer_43 : decode cX3_bringAnswersNearer 43 = .ok (.isub, 1) := by decide +kernel
theorem dX3_bringAnswersNearer_44 : decode cX3_bringAnswersNearer 44 = .ok (.iastore, 1) := by decide +kernel
theorem dX3_bringAnswersNearer_45 : decode cX3_bringAnswersNearer 45 = .ok (.aload_n 0, 1) := by decide +kernel
theorem dX3_bringAnswersNearer_46 : decode cX3_bringAnswersNearer 46 = .ok (.getfield 35, 3) := by decide +kernel
theorem dX3_bringAnswersNearer_49 : decode cX3_bringAnswersNearer 49 = .ok (.getfield 158, 3) := by decide +kernel
theorem dX3_bringAnswersNearer_52 : decode cX3_bringAnswersNearer 52 = .ok (.iload_n 3, 1) := by decide +kernel
theorem dX3_bringAnswersNearer_53 : decode cX3_bringAnswersNearer 53 = .ok (.iaload, 1) := by decide +kernel
theorem dX3_bringAnswersNearer_54 : decode cX3_bringAnswersNearer 54 = .ok (.ifCond .ne 19, 3) := by decide +kernel
theorem dX3_bringAnswersNearer_57 : decode cX3_bringAnswersNearer 57 = .ok (.iload_n 2, 1) := by decide +kernel
theorem dX3_bringAnswersNearer_58 : decode cX3_bringAnswersNearer 58 = .ok (.bipush 30, 2) := by decide +kernel
theorem dX3_bringAnswersNearer_60 : decode cX3_bringAnswersNearer 60 = .ok (.if_icmp .gt 13, 3) := by decide +kernel
theorem dX3_bringAnswersNearer_63 : decode cX3_bringAnswersNearer 63 = .ok (.aload_n 0, 1) := by decide +kernel
theorem dX3_bringAnswersNearer_64 : decode cX3_bringAnswersNearer 64 = .ok (.getfield 35, 3) := by decide +kernel
theorem dX3_bringAnswersNearer_67 : decode cX3_bringAnswersNearer 67 = .ok (.getfield 104, 3) := by decide +kernel
theorem dX3_bringAnswersNearer_70 : decode cX3_bringAnswersNearer 70 = .ok (.iload_n 3, 1) := by decide +kernel
theorem dX3_bringAnswersNearer_71 : decode cX3_bringAnswersNearer 71 = .ok (.iconst 5, 1) := by decide +kernel
theorem dX3_bringAnswersNearer_72 : decode cX3_bringAnswersNearer 72 = .ok (.iastore, 1) := by decide +kernel
theorem dX3_bringAnswersNearer_73 : decode cX3_bringAnswersNearer 73 = .ok (.iinc 3 1, 3) := by decide +kernel
theorem dX3_bringAnswersNearer_76 : decode cX3_bringAnswersNearer 76 = .ok (.goto (-74), 3) := by decide +kernel
theorem dX3_bringAnswersNearer_79 : decode cX3_bringAnswersNearer 79 = .ok (.return_, 1) := by decide +kernel
set_option maxRecDepth 20000 in
theorem ggX3_scrape_X3_mostOvergrown : GoodIn wsX3_scrape wsX3_mostOvergrown := goodIn_r _ [14, 1, 2, 5, 15, 16, 17, 13, 18, 19, 3, 20, 21, 22, 23, 24, 25, 26, 27, 28, 35, 36, 37, 38, 39, 40, 41, 42, 43, 44, 45, 46, 47, 48, 49, 50, 51, 52, 53, 54, 55, 56, 57, 58] (by decide +kernel) (by decide +kernel)
set_option maxRecDepth 20000 in
theorem gX3_scrape_X3_mostOvergrown : GoodIn wsX3_scrape (wsV RX3 161 RX3 yX3_mostOvergrown wsX3_mostOvergrown) := goodIn_app (goodIn_of _ (by decide +kernel)) ggX3_scrape_X3_mostOvergrown
set_option maxRecDepth 20000 in
theorem ggX3_scrape_X2_has : GoodIn wsX3_scrape wsX2_has := goodIn_r _ [33, 34, 45, 46, 47, 48, 49, 50, 51, 52, 53, 54] (by decide +kernel) (by decide +kernel)
set_option maxRecDepth 20000 in
theorem gX3_scrape_X2_has : GoodIn wsX3_scrape (wsV RX3 138 RX2 yX2_has wsX2_has) := goodIn_app (goodIn_of _ (by decide +kernel)) ggX3_scrape_X2_has
theorem dX3_scrape_0 : decode cX3_scrape 0 = .ok (.iconst 0, 1) := by decide +kernel
theorem dX3_scrape_1 : decode cX3_scrape 1 = .ok (.istore_n 2, 1) := by decide +kernel
theorem dX3_scrape_2 : decode cX3_scrape 2 = .ok (.iload_n 2, 1) := by decide +kernel
theorem dX3_scrape_3 : decode cX3_scrape 3 = .ok (.aload_n 0, 1) := by decide +kernel
theorem dX3_scrape_4 : decode cX3_scrape 4 = .ok (.getfield 35, 3) := by decide +kernel
theorem dX3_scrape_7 : decode cX3_scrape 7 = .ok (.getfield 84, 3) := by decide +kernel
theorem dX3_scrape_10 : decode cX3_scrape 10 = .ok (.if_icmp .ge 16, 3) := by decide +kernel
theorem dX3_scrape_13 : decode cX3_scrape 13 = .ok (.aload_n 0, 1) := by decide +kernel
theorem dX3_scrape_14 : decode cX3_scrape 14 = .ok (.getfield 50, 3) := by decide +kernel
theorem dX3_scrape_17 : decode cX3_scrape 17 = .ok (.iload_n 2, 1) := by decide +kernel
theorem dX3_scrape_18 : decode cX3_scrape 18 = .ok (.iconst 0, 1) := by decide +kernel
theorem dX3_scrape_19 : decode cX3_scrape 19 = .ok (.bastore, 1) := by decide +kernel
theorem dX3_scrape_20 : decode cX3_scrape 20 = .ok (.iinc 2 1, 3) := by decide +kernel
theorem dX3_scrape_23 : decode cX3_scrape 23 = .ok (.goto (-21), 3) := by decide +kernel
theorem dX3_scrape_26 : decode cX3_scrape 26 = .ok (.iconst 0, 1) := by decide +kernel
theorem dX3_scrape_27 : decode cX3_scrape 27 = .ok (.istore_n 2, 1) := by decide +kernel
theorem dX3_scrape_28 : decode cX3_scrape 28 = .ok (.iload_n 2, 1) := by decide +kernel
theorem dX3_scrape_29 : decode cX3_scrape 29 = .ok (.aload_n 0, 1) := by decide +kernel
theorem dX3_scrape_30 : decode cX3_scrape 30 = .ok (.getfield 39, 3) := by decide +kernel
theorem dX3_scrape_33 : decode cX3_scrape 33 = .ok (.if_icmp .ge 58, 3) := by decide +kernel
theorem dX3_scrape_36 : decode cX3_scrape 36 = .ok (.aload_n 0, 1) := by decide +kernel
theorem dX3_scrape_37 : decode cX3_scrape 37 = .ok (.iload_n 1, 1) := by decide +kernel
theorem dX3_scrape_38 : decode cX3_scrape 38 = .ok (.invokevirtual 161, 3) := by decide +kernel
theorem dX3_scrape_41 : decode cX3_scrape 41 = .ok (.istore_n 3, 1) := by decide +kernel
theorem dX3_scrape_42 : decode cX3_scrape 42 = .ok (.aload_n 0, 1) := by decide +kernel
theorem dX3_scrape_43 : decode cX3_scrape 43 = .ok (.getfield 35, 3) := by decide +kernel
theorem dX3_scrape_46 : decode cX3_scrape 46 = .ok (.iload_n 3, 1) := by decide +kernel
theorem dX3_scrape_47 : decode cX3_scrape 47 = .ok (.invokevirtual 138, 3) := by decide +kernel
theorem dX3_scrape_50 : decode cX3_scrape 50 = .ok (.ifCond .ne 4, 3) := by decide +kernel
theorem dX3_scrape_53 : decode cX3_scrape 53 = .ok (.return_, 1) := by decide +kernel
theorem dX3_scrape_54 : decode cX3_scrape 54 = .ok (.aload_n 0, 1) := by decide +kernel
theorem dX3_scrape_55 : decode cX3_scrape 55 = .ok (.getfield 35, 3) := by decide +kernel
theorem dX3_scrape_58 : decode cX3_scrape 58 = .ok (.getfield 117, 3) := by decide +kernel
theorem dX3_scrape_61 : decode cX3_scrape 61 = .ok (.iload_n 3, 1) := by decide +kernel
theorem dX3_scrape_62 : decode cX3_scrape 62 = .ok (.iconst 0, 1) := by decide +kernel
theorem dX3_scrape_63 : decode cX3_scrape 63 = .ok (.aload_n 0, 1) := by decide +kernel
theorem dX3_scrape_64 : decode cX3_scrape 64 = .ok (.getfield 35, 3) := by decide +kernel
theorem dX3_scrape_67 : decode cX3_scrape 67 = .ok (.getfield 117, 3) := by decide +kernel
theorem dX3_scrape_70 : decode cX3_scrape 70 = .ok (.iload_n 3, 1) := by decide +kernel
theorem dX3_scrape_71 : decode cX3_scrape 71 = .ok (.iaload, 1) := by decide +kernel
theorem dX3_scrape_72 : decode cX3_scrape 72 = .ok (.iconst 2, 1) := by decide +kernel
theorem dX3_scrape_73 : decode cX3_scrape 73 = .ok (.isub, 1) := by decide +kernel
theorem dX3_scrape_74 : decode cX3_scrape 74 = .ok (.invokestatic 164, 3) := by decide +kernel
theorem dX3_scrape_77 : decode cX3_scrape 77 = .ok (.iastore, 1) := by decide +kernel
theorem dX3_scrape_78 : decode cX3_scrape 78 = .ok (.aload_n 0, 1) := by decide +kernel
theorem dX3_scrape_79 : decode cX3_scrape 79 = .ok (.getfield 50, 3) := by decide +kernel
theorem dX3_scrape_82 : decode cX3_scrape 82 = .ok (.iload_n 3, 1) := by decide +kernel
theorem dX3_scrape_83 : decode cX3_scrape 83 = .ok (.iconst 1, 1) := by decide +kernel
theorem dX3_scrape_84 : decode cX3_scrape 84 = .ok (.bastore, 1) := by decide +kernel
theorem dX3_scrape_85 : decode cX3_scrape 85 = .ok (.iinc 2 1, 3) := by decide +kernel
theorem dX3_scrape_88 : decode cX3_scrape 88 = .ok (.goto (-60), 3) := by decide +kernel
theorem dX3_scrape_91 : decode cX3_scrape 91 = .ok (.return_, 1) := by decide +kernel
set_option maxRecDepth 20000 in
theorem ggX3_mostOvergrown_X3_canBeScraped : GoodIn wsX3_mostOvergrown wsX3_canBeScraped := goodIn_r _ [8, 1, 9, 10, 11, 12, 13, 14, 15, 16, 17, 18, 19, 20, 21, 22, 23, 24, 25, 26, 27, 28, 29, 30, 31, 32, 33, 34, 35, 36, 37, 38, 39, 40, 41, 42, 43] (by decide +kernel) (by decide +kernel)
set_option maxRecDepth 20000 in
theorem gX3_mostOvergrown_X3_canBeScraped : GoodIn wsX3_mostOvergrown (wsV RX3 170 RX3 yX3_canBeScraped wsX3_canBeScraped) := goodIn_app (goodIn_of _ (by decide +kernel)) ggX3_mostOvergrown_X3_canBeScraped
theorem dX3_mostOvergrown_0 : decode cX3_mostOvergrown 0 = .ok (.iconst (-1), 1) := by decide +kernel
theorem dX3_mostOvergrown_1 : decode cX3_mostOvergrown 1 = .ok (.istore_n 2, 1) := by decide +kernel
theorem dX3_mostOvergrown_2 : decode cX3_mostOvergrown 2 = .ok (.iconst 0, 1) := by decide +kernel
theorem dX3_mostOvergrown_3 : decode cX3_mostOvergrown 3 = .ok (.istore_n 3, 1) := by decide +kernel
theorem dX3_mostOvergrown_4 : decode cX3_mostOvergrown 4 = .ok (.iconst 0, 1) := by decide +kernel
theorem dX3_mostOvergrown_5 : decode cX3_mostOvergrown 5 = .ok (.istore 4, 2) := by decide +kernel
theorem dX3_mostOvergrown_7 : decode cX3_mostOvergrown 7 = .ok (.iload 4, 2) := by decide +kernel
theorem dX3_mostOvergrown_9 : decode cX3_mostOvergrown 9 = .ok (.aload_n 0, 1) := by decide +kernel
theorem dX3_mostOvergrown_10 : decode cX3_mostOvergrown 10 = .ok (.getfield 35, 3) := by decide +kernel
theorem dX3_mostOvergrown_13 : decode cX3_mostOvergrown 13 = .ok (.getfield 84, 3) := by decide +kernel
theorem dX3_mostOvergrown_16 : decode cX3_mostOvergrown 16 = .ok (.if_icmp .ge 47, 3) := by decide +kernel
theorem dX3_mostOvergrown_19 : decode cX3_mostOvergrown 19 = .ok (.aload_n 0, 1) := by decide +kernel
theorem dX3_mostOvergrown_20 : decode cX3_mostOvergrown 20 = .ok (.getfield 35, 3) := by decide +kernel
theorem dX3_mostOvergrown_23 : decode cX3_mostOvergrown 23 = .ok (.getfield 117, 3) := by decide +kernel
theorem dX3_mostOvergrown_26 : decode cX3_mostOvergrown 26 = .ok (.iload 4, 2) := by decide +kernel
theorem dX3_mostOvergrown_28 : decode cX3_mostOvergrown 28 = .ok (.iaload, 1) := by decide +kernel
theorem dX3_mostOvergrown_29 : decode cX3_mostOvergrown 29 = .ok (.iload_n 3, 1) := by decide +kernel
theorem dX3_mostOvergrown_30 : decode cX3_mostOvergrown 30 = .ok (.if_icmp .le 27, 3) := by decide +kernel
theorem dX3_mostOvergrown_33 : decode cX3_mostOvergrown 33 = .ok (.aload_n 0, 1) := by decide +kernel
theorem dX3_mostOvergrown_34 : decode cX3_mostOvergrown 34 = .ok (.iload 4, 2) := by decide +kernel
theorem dX3_mostOvergrown_36 : decode cX3_mostOvergrown 36 = .ok (.iload_n 1, 1) := by decide +kernel
theorem dX3_mostOvergrown_37 : decode cX3_mostOvergrown 37 = .ok (.invokevirtual 170, 3) := by decide +kernel
theorem dX3_mostOvergrown_40 : decode cX3_mostOvergrown 40 = .ok (.ifCond .eq 17, 3) := by decide +kernel
theorem dX3_mostOvergrown_43 : decode cX3_mostOvergrown 43 = .ok (.iload 4, 2) := by decide +kernel
theorem dX3_mostOvergrown_45 : decode cX3_mostOvergrown 45 = .ok (.istore_n 2, 1) := by decide +kernel
theorem dX3_mostOvergrown_46 : decode cX3_mostOvergrown 46 = .ok (.aload_n 0, 1) := by decide +kernel
theorem dX3_mostOvergrown_47 : decode cX3_mostOvergrown 47 = .ok (.getfield 35, 3) := by decide +kernel
theorem dX3_mostOvergrown_50 : decode cX3_mostOvergrown 50 = .ok (.getfield 117, 3) := by decide +kernel
theorem dX3_mostOvergrown_53 : decode cX3_mostOvergrown 53 = .ok (.iload 4, 2) := by decide +kernel
theorem dX3_mostOvergrown_55 : decode cX3_mostOvergrown 55 = .ok (.iaload, 1) := by decide +kernel
theorem dX3_mostOvergrown_56 : decode cX3_mostOvergrown 56 = .ok (.istore_n 3, 1) := by decide +kernel
theorem dX3_mostOvergrown_57 : decode cX3_mostOvergrown 57 = .ok (.iinc 4 1, 3) := by decide +kernel
theorem dX3_mostOvergrown_60 : decode cX3_mostOvergrown 60 = .ok (.goto (-53), 3) := by decide +kernel
theorem dX3_mostOvergrown_63 : decode cX3_mostOvergrown 63 = .ok (.iload_n 2, 1) := by decide +kernel
theorem dX3_mostOvergrown_64 : decode cX3_mostOvergrown 64 = .ok (.ireturn, 1) := by decide +kernel
set_option maxRecDepth 20000 in
theorem ggX3_canBeScraped_X0_isUnder : GoodIn wsX3_canBeScraped wsX0_isUnder := goodIn_r _ [10, 11, 12, 33, 34, 35, 36] (by decide +kernel) (by decide +kernel)
set_option maxRecDepth 20000 in
theorem gX3_canBeScraped_X0_isUnder : GoodIn wsX3_canBeScraped (wsV RX3 113 RX0 yX0_isUnder wsX0_isUnder) := goodIn_app (goodIn_of _ (by decide +kernel)) ggX3_canBeScraped_X0_isUnder
theorem dX3_canBeScraped_0 : decode cX3_canBeScraped 0 = .ok (.aload_n 0, 1) := by decide +kernel
theorem dX3_canBeScraped_1 : decode cX3_canBeScraped 1 = .ok (.getfield 35, 3) := by decide +kernel
theorem dX3_canBeScraped_4 : decode cX3_canBeScraped 4 = .ok (.getfield 104, 3) := by decide +kernel
theorem dX3_canBeScraped_7 : decode cX3_canBeScraped 7 = .ok (.iload_n 1, 1) := by decide +kernel
theorem dX3_canBeScraped_8 : decode cX3_canBeScraped 8 = .ok (.iaload, 1) := by decide +kernel
theorem dX3_canBeScraped_9 : decode cX3_canBeScraped 9 = .ok (.iconst 1, 1) := by decide +kernel
theorem dX3_canBeScraped_10 : decode cX3_canBeScraped 10 = .ok (.if_icmp .ne 36, 3) := by decide +kernel
theorem dX3_canBeScraped_13 : decode cX3_canBeScraped 13 = .ok (.aload_n 0, 1) := by decide +kernel
theorem dX3_canBeScraped_14 : decode cX3_canBeScraped 14 = .ok (.getfield 50, 3) := by decide +kernel
theorem dX3_canBeScraped_17 : decode cX3_canBeScraped 17 = .ok (.iload_n 1, 1) := by decide +kernel
theorem dX3_canBeScraped_18 : decode cX3_canBeScraped 18 = .ok (.baload, 1) := by decide +kernel
theorem dX3_canBeScraped_19 : decode cX3_canBeScraped 19 = .ok (.ifCond .ne 27, 3) := by decide +kernel
theorem dX3_canBeScraped_22 : decode cX3_canBeScraped 22 = .ok (.aload_n 0, 1) := by decide +kernel
theorem dX3_canBeScraped_23 : decode cX3_canBeScraped 23 = .ok (.getfield 21, 3) := by decide +kernel
theorem dX3_canBeScraped_26 : decode cX3_canBeScraped 26 = .ok (.aload_n 0, 1) := by decide +kernel
theorem dX3_canBeScraped_27 : decode cX3_canBeScraped 27 = .ok (.getfield 35, 3) := by decide +kernel
theorem dX3_canBeScraped_30 : decode cX3_canBeScraped 30 = .ok (.getfield 110, 3) := by decide +kernel
theorem dX3_canBeScraped_33 : decode cX3_canBeScraped 33 = .ok (.iload_n 1, 1) := by decide +kernel
theorem dX3_canBeScraped_34 : decode cX3_canBeScraped 34 = .ok (.iaload, 1) := by decide +kernel
theorem dX3_canBeScraped_35 : decode cX3_canBeScraped 35 = .ok (.iload_n 2, 1) := by decide +kernel
theorem dX3_canBeScraped_36 : decode cX3_canBeScraped 36 = .ok (.invokevirtual 113, 3) := by decide +kernel
theorem dX3_canBeScraped_39 : decode cX3_canBeScraped 39 = .ok (.ifCond .ne 7, 3) := by decide +kernel
theorem dX3_canBeScraped_42 : decode cX3_canBeScraped 42 = .ok (.iconst 1, 1) := by decide +kernel
theorem dX3_canBeScraped_43 : decode cX3_canBeScraped 43 = .ok (.goto 4, 3) := by decide +kernel
theorem dX3_canBeScraped_46 : decode cX3_canBeScraped 46 = .ok (.iconst 0, 1) := by decide +kernel
theorem dX3_canBeScraped_47 : decode cX3_canBeScraped 47 = .ok (.ireturn, 1) := by decide +kernel
set_option maxRecDepth 20000 in
theorem ggX3_sort_X2_heaviestInOffice : GoodIn wsX3_sort wsX2_heaviestInOffice := goodIn_r _ [13, 14, 15, 16, 63, 64, 65, 66, 67, 68, 69, 70, 71, 72] (by decide +kernel) (by decide +kernel)
set_option maxRecDepth 20000 in
theorem gX3_sort_X2_heaviestInOffice : GoodIn wsX3_sort (wsV RX3 173 RX2 yX2_heaviestInOffice wsX2_heaviestInOffice) := goodIn_app (goodIn_of _ (by decide +kernel)) ggX3_sort_X2_heaviestInOffice
set_option maxRecDepth 20000 in
theorem ggX3_sort_X2_has : GoodIn wsX3_sort wsX2_has := goodIn_r _ [20, 14, 63, 64, 65, 66, 67, 68, 69, 70, 71, 72] (by decide +kernel) (by decide +kernel)
set_option maxRecDepth 20000 in
theorem gX3_sort_X2_has : GoodIn wsX3_sort (wsV RX3 138 RX2 yX2_has wsX2_has) := goodIn_app (goodIn_of _ (by decide +kernel)) ggX3_sort_X2_has
set_option maxRecDepth 20000 in
theorem ggX3_sort_X1_heightOf : GoodIn wsX3_sort wsX1_heightOf := goodIn_r _ [25, 26, 27, 28, 29, 24, 30, 31, 77, 78, 79, 80, 81, 82] (by decide +kernel) (by decide +kernel)
set_option maxRecDepth 20000 in
theorem gX3_sort_X1_heightOf : GoodIn wsX3_sort (wsV RX3 126 RX1 yX1_heightOf wsX1_heightOf) := goodIn_app (goodIn_of _ (by decide +kernel)) ggX3_sort_X1_heightOf
set_option maxRecDepth 20000 in
theorem ggX3_sort_X0_nearestWithRoom : GoodIn wsX3_sort wsX0_nearestWithRoom := goodIn_r _ [36, 37, 38, 39, 40, 41, 42, 35, 43, 44, 45, 46, 47, 48, 73, 74, 75, 76] (by decide +kernel) (by decide +kernel)
set_option maxRecDepth 20000 in
theorem gX3_sort_X0_nearestWithRoom : GoodIn wsX3_sort (wsV RX3 176 RX0 yX0_nearestWithRoom wsX0_nearestWithRoom) := goodIn_app (goodIn_of _ (by decide +kernel)) ggX3_sort_X0_nearestWithRoom
set_option maxRecDepth 20000 in
theorem ggX3_sort_X0_has : GoodIn wsX3_sort wsX0_has := goodIn_r _ [52, 37, 73, 74, 75, 76] (by decide +kernel) (by decide +kernel)
set_option maxRecDepth 20000 in
theorem gX3_sort_X0_has : GoodIn wsX3_sort (wsV RX3 142 RX0 yX0_has wsX0_has) := goodIn_app (goodIn_of _ (by decide +kernel)) ggX3_sort_X0_has
theorem dX3_sort_0 : decode cX3_sort 0 = .ok (.iconst 0, 1) := by decide +kernel
theorem dX3_sort_1 : decode cX3_sort 1 = .ok (.istore_n 1, 1) := by decide +kernel
theorem dX3_sort_2 : decode cX3_sort 2 = .ok (.iload_n 1, 1) := by decide +kernel
theorem dX3_sort_3 : decode cX3_sort 3 = .ok (.aload_n 0, 1) := by decide +kernel
theorem dX3_sort_4 : decode cX3_sort 4 = .ok (.getfield 43, 3) := by decide +kernel
theorem dX3_sort_7 : decode cX3_sort 7 = .ok (.if_icmp .ge 98, 3) := by decide +kernel
theorem dX3_sort_10 : decode cX3_sort 10 = .ok (.aload_n 0, 1) := by decide +kernel
theorem dX3_sort_11 : decode cX3_sort 11 = .ok (.getfield 35, 3) := by decide +kernel
theorem dX3_sort_14 : decode cX3_sort 14 = .ok (.invokevirtual 173, 3) := by decide +kernel
theorem dX3_sort_17 : decode cX3_sort 17 = .ok (.istore_n 2, 1) := by decide +kernel
theorem dX3_sort_18 : decode cX3_sort 18 = .ok (.aload_n 0, 1) := by decide +kernel
theorem dX3_sort_19 : decode cX3_sort 19 = .ok (.getfield 35, 3) := by decide +kernel
theorem dX3_sort_22 : decode cX3_sort 22 = .ok (.iload_n 2, 1) := by decide +kernel
theorem dX3_sort_23 : decode cX3_sort 23 = .ok (.invokevirtual 138, 3) := by decide +kernel
theorem dX3_sort_26 : decode cX3_sort 26 = .ok (.ifCond .ne 4, 3) := by decide +kernel
theorem dX3_sort_29 : decode cX3_sort 29 = .ok (.return_, 1) := by decide +kernel
theorem dX3_sort_30 : decode cX3_sort 30 = .ok (.aload_n 0, 1) := by decide +kernel
theorem dX3_sort_31 : decode cX3_sort 31 = .ok (.getfield 21, 3) := by decide +kernel
theorem dX3_sort_34 : decode cX3_sort 34 = .ok (.aload_n 0, 1) := by decide +kernel
theorem dX3_sort_35 : decode cX3_sort 35 = .ok (.getfield 28, 3) := by decide +kernel
theorem dX3_sort_38 : decode cX3_sort 38 = .ok (.aload_n 0, 1) := by decide +kernel
theorem dX3_sort_39 : decode cX3_sort 39 = .ok (.getfield 35, 3) := by decide +kernel
theorem dX3_sort_42 : decode cX3_sort 42 = .ok (.getfield 123, 3) := by decide +kernel
theorem dX3_sort_45 : decode cX3_sort 45 = .ok (.iload_n 2, 1) := by decide +kernel
theorem dX3_sort_46 : decode cX3_sort 46 = .ok (.iaload, 1) := by decide +kernel
theorem dX3_sort_47 : decode cX3_sort 47 = .ok (.invokevirtual 126, 3) := by decide +kernel
theorem dX3_sort_50 : decode cX3_sort 50 = .ok (.invokevirtual 176, 3) := by decide +kernel
theorem dX3_sort_53 : decode cX3_sort 53 = .ok (.istore_n 3, 1) := by decide +kernel
theorem dX3_sort_54 : decode cX3_sort 54 = .ok (.aload_n 0, 1) := by decide +kernel
theorem dX3_sort_55 : decode cX3_sort 55 = .ok (.getfield 21, 3) := by decide +kernel
theorem dX3_sort_58 : decode cX3_sort 58 = .ok (.iload_n 3, 1) := by decide +kernel
theorem dX3_sort_59 : decode cX3_sort 59 = .ok (.invokevirtual 142, 3) := by decide +kernel
theorem dX3_sort_62 : decode cX3_sort 62 = .ok (.ifCond .ne 4, 3) := by decide +kernel
theorem dX3_sort_65 : decode cX3_sort 65 = .ok (.return_, 1) := by decide +kernel
theorem dX3_sort_66 : decode cX3_sort 66 = .ok (.aload_n 0, 1) := by decide +kernel
theorem dX3_sort_67 : decode cX3_sort 67 = .ok (.getfield 35, 3) := by decide +kernel
theorem dX3_sort_70 : decode cX3_sort 70 = .ok (.getfield 104, 3) := by decide +kernel
theorem dX3_sort_73 : decode cX3_sort 73 = .ok (.iload_n 2, 1) := by decide +kernel
theorem dX3_sort_74 : decode cX3_sort 74 = .ok (.iconst 1, 1) := by decide +kernel
theorem dX3_sort_75 : decode cX3_sort 75 = .ok (.iastore, 1) := by decide +kernel
theorem dX3_sort_76 : decode cX3_sort 76 = .ok (.aload_n 0, 1) := by decide +kernel
theorem dX3_sort_77 : decode cX3_sort 77 = .ok (.getfield 35, 3) := by decide +kernel
theorem dX3_sort_80 : decode cX3_sort 80 = .ok (.getfield 110, 3) := by decide +kernel
theorem dX3_sort_83 : decode cX3_sort 83 = .ok (.iload_n 2, 1) := by decide +kernel
theorem dX3_sort_84 : decode cX3_sort 84 = .ok (.iload_n 3, 1) := by decide +kernel
theorem dX3_sort_85 : decode cX3_sort 85 = .ok (.iastore, 1) := by decide +kernel
theorem dX3_sort_86 : decode cX3_sort 86 = .ok (.aload_n 0, 1) := by decide +kernel
theorem dX3_sort_87 : decode cX3_sort 87 = .ok (.getfield 21, 3) := by decide +kernel
theorem dX3_sort_90 : decode cX3_sort 90 = .ok (.getfield 143, 3) := by decide +kernel
theorem dX3_sort_93 : decode cX3_sort 93 = .ok (.iload_n 3, 1) := by decide +kernel
theorem dX3_sort_94 : decode cX3_sort 94 = .ok (.dup2, 1) := by decide +kernel
theorem dX3_sort_95 : decode cX3_sort 95 = .ok (.iaload, 1) := by decide +kernel
theorem dX3_sort_96 : decode cX3_sort 96 = .ok (.iconst 1, 1) := by decide +kernel
theorem dX3_sort_97 : decode cX3_sort 97 = .ok (.iadd, 1) := by decide +kernel
theorem dX3_sort_98 : decode cX3_sort 98 = .ok (.iastore, 1) := by decide +kernel
theorem dX3_sort_99 : decode cX3_sort 99 = .ok (.iinc 1 1, 3) := by decide +kernel
theorem dX3_sort_102 : decode cX3_sort 102 = .ok (.goto (-100), 3) := by decide +kernel
theorem dX3_sort_105 : decode cX3_sort 105 = .ok (.return_, 1) := by decide +kernel
set_option maxRecDepth 20000 in
theorem ggX3_hourOfReach_X4_heightIn : GoodIn wsX3_hourOfReach wsX4_heightIn := goodIn_r _ [8, 9, 10, 11, 12, 13, 14, 32, 33] (by decide +kernel) (by decide +kernel)
set_option maxRecDepth 20000 in
theorem gX3_hourOfReach_X4_heightIn : GoodIn wsX3_hourOfReach (wsV RX3 70 RX4 yX4_heightIn wsX4_heightIn) := goodIn_app (goodIn_of _ (by decide +kernel)) ggX3_hourOfReach_X4_heightIn
set_option maxRecDepth 20000 in
theorem ggX3_hourOfReach_X0_isUnder : GoodIn wsX3_hourOfReach wsX0_isUnder := goodIn_r _ [19, 20, 21, 34, 35, 36, 37] (by decide +kernel) (by decide +kernel)
set_option maxRecDepth 20000 in
theorem gX3_hourOfReach_X0_isUnder : GoodIn wsX3_hourOfReach (wsV RX3 113 RX0 yX0_isUnder wsX0_isUnder) := goodIn_app (goodIn_of _ (by decide +kernel)) ggX3_hourOfReach_X0_isUnder
theorem dX3_hourOfReach_0 : decode cX3_hourOfReach 0 = .ok (.iconst 0, 1) := by decide +kernel
theorem dX3_hourOfReach_1 : decode cX3_hourOfReach 1 = .ok (.istore_n 3, 1) := by decide +kernel
theorem dX3_hourOfReach_2 : decode cX3_hourOfReach 2 = .ok (.iconst 0, 1) := by decide +kernel
theorem dX3_hourOfReach_3 : decode cX3_hourOfReach 3 = .ok (.istore 4, 2) := by decide +kernel
theorem dX3_hourOfReach_5 : decode cX3_hourOfReach 5 = .ok (.iload 4, 2) := by decide +kernel
theorem dX3_hourOfReach_7 : decode cX3_hourOfReach 7 = .ok (.sipush 200, 3) := by decide +kernel
theorem dX3_hourOfReach_10 : decode cX3_hourOfReach 10 = .ok (.if_icmp .ge 65, 3) := by decide +kernel
theorem dX3_hourOfReach_13 : decode cX3_hourOfReach 13 = .ok (.aload_n 0, 1) := by decide +kernel
theorem dX3_hourOfReach_14 : decode cX3_hourOfReach 14 = .ok (.getfield 12, 3) := by decide +kernel
theorem dX3_hourOfReach_17 : decode cX3_hourOfReach 17 = .ok (.aload_n 0, 1) := by decide +kernel
theorem dX3_hourOfReach_18 : decode cX3_hourOfReach 18 = .ok (.getfield 67, 3) := by decide +kernel
theorem dX3_hourOfReach_21 : decode cX3_hourOfReach 21 = .ok (.iload 4, 2) := by decide +kernel
theorem dX3_hourOfReach_23 : decode cX3_hourOfReach 23 = .ok (.iadd, 1) := by decide +kernel
theorem dX3_hourOfReach_24 : decode cX3_hourOfReach 24 = .ok (.invokevirtual 70, 3) := by decide +kernel
theorem dX3_hourOfReach_27 : decode cX3_hourOfReach 27 = .ok (.istore 5, 2) := by decide +kernel
theorem dX3_hourOfReach_29 : decode cX3_hourOfReach 29 = .ok (.aload_n 0, 1) := by decide +kernel
theorem dX3_hourOfReach_30 : decode cX3_hourOfReach 30 = .ok (.getfield 21, 3) := by decide +kernel
theorem dX3_hourOfReach_33 : decode cX3_hourOfReach 33 = .ok (.iload_n 2, 1) := by decide +kernel
theorem dX3_hourOfReach_34 : decode cX3_hourOfReach 34 = .ok (.iload 5, 2) := by decide +kernel
theorem dX3_hourOfReach_36 : decode cX3_hourOfReach 36 = .ok (.invokevirtual 113, 3) := by decide +kernel
theorem dX3_hourOfReach_39 : decode cX3_hourOfReach 39 = .ok (.ifCond .eq 15, 3) := by decide +kernel
theorem dX3_hourOfReach_42 : decode cX3_hourOfReach 42 = .ok (.iload 5, 2) := by decide +kernel
theorem dX3_hourOfReach_44 : decode cX3_hourOfReach 44 = .ok (.iload_n 1, 1) := by decide +kernel
theorem dX3_hourOfReach_45 : decode cX3_hourOfReach 45 = .ok (.if_icmp .lt 9, 3) := by decide +kernel
theorem dX3_hourOfReach_48 : decode cX3_hourOfReach 48 = .ok (.iload_n 3, 1) := by decide +kernel
theorem dX3_hourOfReach_49 : decode cX3_hourOfReach 49 = .ok (.iconst 1, 1) := by decide +kernel
theorem dX3_hourOfReach_50 : decode cX3_hourOfReach 50 = .ok (.iadd, 1) := by decide +kernel
theorem dX3_hourOfReach_51 : decode cX3_hourOfReach 51 = .ok (.goto 4, 3) := by decide +kernel
theorem dX3_hourOfReach_54 : decode cX3_hourOfReach 54 = .ok (.iconst 0, 1) := by decide +kernel
theorem dX3_hourOfReach_55 : decode cX3_hourOfReach 55 = .ok (.istore_n 3, 1) := by decide +kernel
theorem dX3_hourOfReach_56 : decode cX3_hourOfReach 56 = .ok (.iload_n 3, 1) := by decide +kernel
theorem dX3_hourOfReach_57 : decode cX3_hourOfReach 57 = .ok (.iconst 3, 1) := by decide +kernel
theorem dX3_hourOfReach_58 : decode cX3_hourOfReach 58 = .ok (.if_icmp .ne 11, 3) := by decide +kernel
theorem dX3_hourOfReach_61 : decode cX3_hourOfReach 61 = .ok (.aload_n 0, 1) := by decide +kernel
theorem dX3_hourOfReach_62 : decode cX3_hourOfReach 62 = .ok (.getfield 67, 3) := by decide +kernel
theorem dX3_hourOfReach_65 : decode cX3_hourOfReach 65 = .ok (.iload 4, 2) := by decide +kernel
theorem dX3_hourOfReach_67 : decode cX3_hourOfReach 67 = .ok (.iadd, 1) := by decide +kernel
theorem dX3_hourOfReach_68 : decode cX3_hourOfReach 68 = .ok (.ireturn, 1) := by decide +kernel
theorem dX3_hourOfReach_69 : decode cX3_hourOfReach 69 = .ok (.iinc 4 1, 3) := by decide +kernel
theorem dX3_hourOfReach_72 : decode cX3_hourOfReach 72 = .ok (.goto (-67), 3) := by decide +kernel
theorem dX3_hourOfReach_75 : decode cX3_hourOfReach 75 = .ok (.iconst (-1), 1) := by decide +kernel
theorem dX3_hourOfReach_76 : decode cX3_hourOfReach 76 = .ok (.ireturn, 1) := by decide +kernel
set_option maxRecDepth 20000 in
theorem ggX3_binFact_X0_has : GoodIn wsX3_binFact wsX0_has := goodIn_r _ [10, 11, 54, 55, 56, 57] (by decide +kernel) (by decide +kernel)
set_option maxRecDepth 20000 in
theorem gX3_binFact_X0_has : GoodIn wsX3_binFact (wsV RX3 142 RX0 yX0_has wsX0_has) := goodIn_app (goodIn_of _ (by decide +kernel)) ggX3_binFact_X0_has
set_option maxRecDepth 20000 in
theorem ggX3_binFact_X3_tideNow : GoodIn wsX3_binFact wsX3_tideNow := goodIn_r _ [16, 17, 18, 19, 20, 21, 22, 23, 24, 25, 26, 27, 28, 29, 44, 45, 46, 47, 48, 49, 50, 51, 52, 53, 58, 59] (by decide +kernel) (by decide +kernel)
set_option maxRecDepth 20000 in
theorem gX3_binFact_X3_tideNow : GoodIn wsX3_binFact (wsV RX3 80 RX3 yX3_tideNow wsX3_tideNow) := goodIn_app (goodIn_of _ (by decide +kernel)) ggX3_binFact_X3_tideNow
set_option maxRecDepth 20000 in
theorem ggX3_binFact_X0_isUnder : GoodIn wsX3_binFact wsX0_isUnder := goodIn_r _ [33, 11, 34, 54, 55, 56, 57] (by decide +kernel) (by decide +kernel)
set_option maxRecDepth 20000 in
theorem gX3_binFact_X0_isUnder : GoodIn wsX3_binFact (wsV RX3 113 RX0 yX0_isUnder wsX0_isUnder) := goodIn_app (goodIn_of _ (by decide +kernel)) ggX3_binFact_X0_isUnder
set_option maxRecDepth 20000 in
theorem ggX3_binFact_X2_growthIn : GoodIn wsX3_binFact wsX2_growthIn := goodIn_r _ [39, 40, 41, 42, 43, 60, 61, 62, 63, 64, 65, 66, 67, 68, 69] (by decide +kernel) (by decide +kernel)
set_option maxRecDepth 20000 in
theorem gX3_binFact_X2_growthIn : GoodIn wsX3_binFact (wsV RX3 185 RX2 yX2_growthIn wsX2_growthIn) := goodIn_app (goodIn_of _ (by decide +kernel)) ggX3_binFact_X2_growthIn
theorem dX3_binFact_0 : decode cX3_binFact 0 = .ok (.aload_n 0, 1) := by decide +kernel
theorem dX3_binFact_1 : decode cX3_binFact 1 = .ok (.getfield 21, 3) := by decide +kernel
theorem dX3_binFact_4 : decode cX3_binFact 4 = .ok (.iload_n 1, 1) := by decide +kernel
theorem dX3_binFact_5 : decode cX3_binFact 5 = .ok (.invokevirtual 142, 3) := by decide +kernel
theorem dX3_binFact_8 : decode cX3_binFact 8 = .ok (.ifCond .ne 5, 3) := by decide +kernel
theorem dX3_binFact_11 : decode cX3_binFact 11 = .ok (.iconst 0, 1) := by decide +kernel
theorem dX3_binFact_12 : decode cX3_binFact 12 = .ok (.ireturn, 1) := by decide +kernel
theorem dX3_binFact_13 : decode cX3_binFact 13 = .ok (.iload_n 2, 1) := by decide +kernel
theorem dX3_binFact_14 : decode cX3_binFact 14 = .ok (.tableswitch 94 0 4 #[34, 44, 54, 64, 85], 34) := by decide +kernel
theorem dX3_binFact_48 : decode cX3_binFact 48 = .ok (.aload_n 0, 1) := by decide +kernel
theorem dX3_binFact_49 : decode cX3_binFact 49 = .ok (.getfield 21, 3) := by decide +kernel
theorem dX3_binFact_52 : decode cX3_binFact 52 = .ok (.getfield 179, 3) := by decide +kernel
theorem dX3_binFact_55 : decode cX3_binFact 55 = .ok (.iload_n 1, 1) := by decide +kernel
theorem dX3_binFact_56 : decode cX3_binFact 56 = .ok (.iaload, 1) := by decide +kernel
theorem dX3_binFact_57 : decode cX3_binFact 57 = .ok (.ireturn, 1) := by decide +kernel
theorem dX3_binFact_58 : decode cX3_binFact 58 = .ok (.aload_n 0, 1) := by decide +kernel
theorem dX3_binFact_59 : decode cX3_binFact 59 = .ok (.getfield 21, 3) := by decide +kernel
theorem dX3_binFact_62 : decode cX3_binFact 62 = .ok (.getfield 182, 3) := by decide +kernel
theorem dX3_binFact_65 : decode cX3_binFact 65 = .ok (.iload_n 1, 1) := by decide +kernel
theorem dX3_binFact_66 : decode cX3_binFact 66 = .ok (.iaload, 1) := by decide +kernel
theorem dX3_binFact_67 : decode cX3_binFact 67 = .ok (.ireturn, 1) := by decide +kernel
theorem dX3_binFact_68 : decode cX3_binFact 68 = .ok (.aload_n 0, 1) := by decide +kernel
theorem dX3_binFact_69 : decode cX3_binFact 69 = .ok (.getfield 21, 3) := by decide +kernel
theorem dX3_binFact_72 : decode cX3_binFact 72 = .ok (.getfield 143, 3) := by decide +kernel
theorem dX3_binFact_75 : decode cX3_binFact 75 = .ok (.iload_n 1, 1) := by decide +kernel
theorem dX3_binFact_76 : decode cX3_binFact 76 = .ok (.iaload, 1) := by decide +kernel
theorem dX3_binFact_77 : decode cX3_binFact 77 = .ok (.ireturn, 1) := by decide +kernel
theorem dX3_binFact_78 : decode cX3_binFact 78 = .ok (.aload_n 0, 1) := by decide +kernel
theorem dX3_binFact_79 : decode cX3_binFact 79 = .ok (.getfield 21, 3) := by decide +kernel
theorem dX3_binFact_82 : decode cX3_binFact 82 = .ok (.iload_n 1, 1) := by decide +kernel
theorem dX3_binFact_83 : decode cX3_binFact 83 = .ok (.aload_n 0, 1) := by decide +kernel
theorem dX3_binFact_84 : decode cX3_binFact 84 = .ok (.invokevirtual 80, 3) := by decide +kernel
theorem dX3_binFact_87 : decode cX3_binFact 87 = .ok (.invokevirtual 113, 3) := by decide +kernel
theorem dX3_binFact_90 : decode cX3_binFact 90 = .ok (.ifCond .eq 7, 3) := by decide +kernel
theorem dX3_binFact_93 : decode cX3_binFact 93 = .ok (.iconst 1, 1) := by decide +kernel
theorem dX3_binFact_94 : decode cX3_binFact 94 = .ok (.goto 4, 3) := by decide +kernel
theorem dX3_binFact_97 : decode cX3_binFact 97 = .ok (.iconst 0, 1) := by decide +kernel
theorem dX3_binFact_98 : decode cX3_binFact 98 = .ok (.ireturn, 1) := by decide +kernel
theorem dX3_binFact_99 : decode cX3_binFact 99 = .ok (.aload_n 0, 1) := by decide +kernel
theorem dX3_binFact_100 : decode cX3_binFact 100 = .ok (.getfield 35, 3) := by decide +kernel
theorem dX3_binFact_103 : decode cX3_binFact 103 = .ok (.iload_n 1, 1) := by decide +kernel
theorem dX3_binFact_104 : decode cX3_binFact 104 = .ok (.invokevirtual 185, 3) := by decide +kernel
theorem dX3_binFact_107 : decode cX3_binFact 107 = .ok (.ireturn, 1) := by decide +kernel
theorem dX3_binFact_108 : decode cX3_binFact 108 = .ok (.iconst 0, 1) := by decide +kernel
theorem dX3_binFact_109 : decode cX3_binFact 109 = .ok (.ireturn, 1) := by decide +kernel
set_option maxRecDepth 20000 in
theorem ggX3_total_X2_inState : GoodIn wsX3_total wsX2_inState := goodIn_r _ [16, 17, 18, 39, 40, 41, 42, 43, 44, 45, 46, 47, 48] (by decide +kernel) (by decide +kernel)
set_option maxRecDepth 20000 in
theorem gX3_total_X2_inState : GoodIn wsX3_total (wsV RX3 191 RX2 yX2_inState wsX2_inState) := goodIn_app (goodIn_of _ (by decide +kernel)) ggX3_total_X2_inState
theorem dX3_total_0 : decode cX3_total 0 = .ok (.iload_n 1, 1) := by decide +kernel
theorem dX3_total_1 : decode cX3_total 1 = .ok (.tableswitch 114 0 12 #[67, 72, 80, 88, 114, 114, 114, 114, 114, 114, 96, 104, 109], 67) := by decide +kernel
theorem dX3_total_68 : decode cX3_total 68 = .ok (.aload_n 0, 1) := by decide +kernel
theorem dX3_total_69 : decode cX3_total 69 = .ok (.getfield 67, 3) := by decide +kernel
theorem dX3_total_72 : decode cX3_total 72 = .ok (.ireturn, 1) := by decide +kernel
theorem dX3_total_73 : decode cX3_total 73 = .ok (.aload_n 0, 1) := by decide +kernel
theorem dX3_total_74 : decode cX3_total 74 = .ok (.getfield 21, 3) := by decide +kernel
theorem dX3_total_77 : decode cX3_total 77 = .ok (.getfield 188, 3) := by decide +kernel
theorem dX3_total_80 : decode cX3_total 80 = .ok (.ireturn, 1) := by decide +kernel
theorem dX3_total_81 : decode cX3_total 81 = .ok (.aload_n 0, 1) := by decide +kernel
theorem dX3_total_82 : decode cX3_total 82 = .ok (.getfield 28, 3) := by decide +kernel
theorem dX3_total_85 : decode cX3_total 85 = .ok (.getfield 189, 3) := by decide +kernel
theorem dX3_total_88 : decode cX3_total 88 = .ok (.ireturn, 1) := by decide +kernel
theorem dX3_total_89 : decode cX3_total 89 = .ok (.aload_n 0, 1) := by decide +kernel
theorem dX3_total_90 : decode cX3_total 90 = .ok (.getfield 35, 3) := by decide +kernel
theorem dX3_total_93 : decode cX3_total 93 = .ok (.getfield 84, 3) := by decide +kernel
theorem dX3_total_96 : decode cX3_total 96 = .ok (.ireturn, 1) := by decide +kernel
theorem dX3_total_97 : decode cX3_total 97 = .ok (.aload_n 0, 1) := by decide +kernel
theorem dX3_total_98 : decode cX3_total 98 = .ok (.getfield 12, 3) := by decide +kernel
theorem dX3_total_101 : decode cX3_total 101 = .ok (.getfield 190, 3) := by decide +kernel
theorem dX3_total_104 : decode cX3_total 104 = .ok (.ireturn, 1) := by decide +kernel
theorem dX3_total_105 : decode cX3_total 105 = .ok (.aload_n 0, 1) := by decide +kernel
theorem dX3_total_106 : decode cX3_total 106 = .ok (.getfield 39, 3) := by decide +kernel
theorem dX3_total_109 : decode cX3_total 109 = .ok (.ireturn, 1) := by decide +kernel
theorem dX3_total_110 : decode cX3_total 110 = .ok (.aload_n 0, 1) := by decide +kernel
theorem dX3_total_111 : decode cX3_total 111 = .ok (.getfield 43, 3) := by decide +kernel
theorem dX3_total_114 : decode cX3_total 114 = .ok (.ireturn, 1) := by decide +kernel
theorem dX3_total_115 : decode cX3_total 115 = .ok (.aload_n 0, 1) := by decide +kernel
theorem dX3_total_116 : decode cX3_total 116 = .ok (.getfield 35, 3) := by decide +kernel
theorem dX3_total_119 : decode cX3_total 119 = .ok (.iload_n 1, 1) := by decide +kernel
theorem dX3_total_120 : decode cX3_total 120 = .ok (.iconst 4, 1) := by decide +kernel
theorem dX3_total_121 : decode cX3_total 121 = .ok (.isub, 1) := by decide +kernel
theorem dX3_total_122 : decode cX3_total 122 = .ok (.invokevirtual 191, 3) := by decide +kernel
theorem dX3_total_125 : decode cX3_total 125 = .ok (.ireturn, 1) := by decide +kernel
theorem dX4_init_0 : decode cX4_init 0 = .ok (.aload_n 0, 1) := by decide +kernel
theorem dX4_init_1 : decode cX4_init 1 = .ok (.invokespecial 3, 3) := by decide +kernel
theorem dX4_init_4 : decode cX4_init 4 = .ok (.aload_n 0, 1) := by decide +kernel
theorem dX4_init_5 : decode cX4_init 5 = .ok (.bipush 30, 2) := by decide +kernel
theorem dX4_init_7 : decode cX4_init 7 = .ok (.newarray .int, 2) := by decide +kernel
theorem dX4_init_9 : decode cX4_init 9 = .ok (.putfield 9, 3) := by decide +kernel
theorem dX4_init_12 : decode cX4_init 12 = .ok (.aload_n 0, 1) := by decide +kernel
theorem dX4_init_13 : decode cX4_init 13 = .ok (.getstatic 15, 3) := by decide +kernel
theorem dX4_init_16 : decode cX4_init 16 = .ok (.arraylength, 1) := by decide +kernel
theorem dX4_init_17 : decode cX4_init 17 = .ok (.putfield 18, 3) := by decide +kernel
theorem dX4_init_20 : decode cX4_init 20 = .ok (.getstatic 15, 3) := by decide +kernel
theorem dX4_init_23 : decode cX4_init 23 = .ok (.iconst 0, 1) := by decide +kernel
theorem dX4_init_24 : decode cX4_init 24 = .ok (.aload_n 0, 1) := by decide +kernel
theorem dX4_init_25 : decode cX4_init 25 = .ok (.getfield 9, 3) := by decide +kernel
theorem dX4_init_28 : decode cX4_init 28 = .ok (.iconst 0, 1) := by decide +kernel
theorem dX4_init_29 : decode cX4_init 29 = .ok (.getstatic 15, 3) := by decide +kernel
theorem dX4_init_32 : decode cX4_init 32 = .ok (.arraylength, 1) := by decide +kernel
theorem dX4_init_33 : decode cX4_init 33 = .ok (.invokestatic 22, 3) := by decide +kernel
theorem dX4_init_36 : decode cX4_init 36 = .ok (.return_, 1) := by decide +kernel
theorem dX4_begin_0 : decode cX4_begin 0 = .ok (.aload_n 0, 1) := by decide +kernel
theorem dX4_begin_1 : decode cX4_begin 1 = .ok (.getfield 9, 3) := by decide +kernel
theorem dX4_begin_4 : decode cX4_begin 4 = .ok (.iconst 0, 1) := by decide +kernel
theorem dX4_begin_5 : decode cX4_begin 5 = .ok (.iload_n 1, 1) := by decide +kernel
theorem dX4_begin_6 : decode cX4_begin 6 = .ok (.iastore, 1) := by decide +kernel
theorem dX4_begin_7 : decode cX4_begin 7 = .ok (.aload_n 0, 1) := by decide +kernel
theorem dX4_begin_8 : decode cX4_begin 8 = .ok (.iconst 1, 1) := by decide +kernel
theorem dX4_begin_9 : decode cX4_begin 9 = .ok (.putfield 18, 3) := by decide +kernel
theorem dX4_begin_12 : decode cX4_begin 12 = .ok (.return_, 1) := by decide +kernel
theorem dX4_append_0 : decode cX4_append 0 = .ok (.aload_n 0, 1) := by decide +kernel
theorem dX4_append_1 : decode cX4_append 1 = .ok (.getfield 18, 3) := by decide +kernel
theorem dX4_append_4 : decode cX4_append 4 = .ok (.bipush 30, 2) := by decide +kernel
theorem dX4_append_6 : decode cX4_append 6 = .ok (.if_icmp .ge 23, 3) := by decide +kernel
theorem dX4_append_9 : decode cX4_append 9 = .ok (.aload_n 0, 1) := by decide +kernel
theorem dX4_append_10 : decode cX4_append 10 = .ok (.getfield 9, 3) := by decide +kernel
theorem dX4_append_13 : decode cX4_append 13 = .ok (.aload_n 0, 1) := by decide +kernel
theorem dX4_append_14 : decode cX4_append 14 = .ok (.getfield 18, 3) := by decide +kernel
theorem dX4_append_17 : decode cX4_append 17 = .ok (.iload_n 1, 1) := by decide +kernel
theorem dX4_append_18 : decode cX4_append 18 = .ok (.iastore, 1) := by decide +kernel
theorem dX4_append_19 : decode cX4_append 19 = .ok (.aload_n 0, 1) := by decide +kernel
theorem dX4_append_20 : decode cX4_append 20 = .ok (.dup, 1) := by decide +kernel
theorem dX4_append_21 : decode cX4_append 21 = .ok (.getfield 18, 3) := by decide +kernel
theorem dX4_append_24 : decode cX4_append 24 = .ok (.iconst 1, 1) := by decide +kernel
theorem dX4_append_25 : decode cX4_append 25 = .ok (.iadd, 1) := by decide +kernel
theorem dX4_append_26 : decode cX4_append 26 = .ok (.putfield 18, 3) := by decide +kernel
theorem dX4_append_29 : decode cX4_append 29 = .ok (.return_, 1) := by decide +kernel
set_option maxRecDepth 20000 in
theorem ggX4_heightIn_J9_floorMod_7cf53 : GoodIn wsX4_heightIn wsJ9_floorMod_7cf53 := goodIn_r _ [6] (by decide +kernel) (by decide +kernel)
set_option maxRecDepth 20000 in
theorem gX4_heightIn_J9_floorMod_7cf53 : GoodIn wsX4_heightIn (va_wsS RX4 28 yJ9_floorMod_7cf53 wsJ9_floorMod_7cf53) := goodIn_app (goodIn_of _ (by decide +kernel)) ggX4_heightIn_J9_floorMod_7cf53
theorem dX4_heightIn_0 : decode cX4_heightIn 0 = .ok (.aload_n 0, 1) := by decide +kernel
theorem dX4_heightIn_1 : decode cX4_heightIn 1 = .ok (.getfield 18, 3) := by decide +kernel
theorem dX4_heightIn_4 : decode cX4_heightIn 4 = .ok (.iconst 1, 1) := by decide +kernel
theorem dX4_heightIn_5 : decode cX4_heightIn 5 = .ok (.if_icmp .ge 5, 3) := by decide +kernel
theorem dX4_heightIn_8 : decode cX4_heightIn 8 = .ok (.iconst 0, 1) := by decide +kernel
theorem dX4_heightIn_9 : decode cX4_heightIn 9 = .ok (.ireturn, 1) := by decide +kernel
theorem dX4_heightIn_10 : decode cX4_heightIn 10 = .ok (.aload_n 0, 1) := by decide +kernel
theorem dX4_heightIn_11 : decode cX4_heightIn 11 = .ok (.getfield 9, 3) := by decide +kernel
theorem dX4_heightIn_14 : decode cX4_heightIn 14 = .ok (.iload_n 1, 1) := by decide +kernel
theorem dX4_heightIn_15 : decode cX4_heightIn 15 = .ok (.aload_n 0, 1) := by decide +kernel
theorem dX4_heightIn_16 : decode cX4_heightIn 16 = .ok (.getfield 18, 3) := by decide +kernel
theorem dX4_heightIn_19 : decode cX4_heightIn 19 = .ok (.invokestatic 28, 3) := by decide +kernel
theorem dX4_heightIn_22 : decode cX4_heightIn 22 = .ok (.iaload, 1) := by decide +kernel
theorem dX4_heightIn_23 : decode cX4_heightIn 23 = .ok (.ireturn, 1) := by decide +kernel
theorem dX4_digestFrom_0 : decode cX4_digestFrom 0 = .ok (.lload_n 1, 1) := by decide +kernel
theorem dX4_digestFrom_1 : decode cX4_digestFrom 1 = .ok (.lstore_n 3, 1) := by decide +kernel
theorem dX4_digestFrom_2 : decode cX4_digestFrom 2 = .ok (.iconst 0, 1) := by decide +kernel
theorem dX4_digestFrom_3 : decode cX4_digestFrom 3 = .ok (.istore 5, 2) := by decide +kernel
theorem dX4_digestFrom_5 : decode cX4_digestFrom 5 = .ok (.iload 5, 2) := by decide +kernel
theorem dX4_digestFrom_7 : decode cX4_digestFrom 7 = .ok (.aload_n 0, 1) := by decide +kernel
theorem dX4_digestFrom_8 : decode cX4_digestFrom 8 = .ok (.getfield 18, 3) := by decide +kernel
theorem dX4_digestFrom_11 : decode cX4_digestFrom 11 = .ok (.if_icmp .ge 24, 3) := by decide +kernel
theorem dX4_digestFrom_14 : decode cX4_digestFrom 14 = .ok (.lload_n 3, 1) := by decide +kernel
theorem dX4_digestFrom_15 : decode cX4_digestFrom 15 = .ok (.ldc2_w 34, 3) := by decide +kernel
theorem dX4_digestFrom_18 : decode cX4_digestFrom 18 = .ok (.lmul, 1) := by decide +kernel
theorem dX4_digestFrom_19 : decode cX4_digestFrom 19 = .ok (.aload_n 0, 1) := by decide +kernel
theorem dX4_digestFrom_20 : decode cX4_digestFrom 20 = .ok (.getfield 9, 3) := by decide +kernel
theorem dX4_digestFrom_23 : decode cX4_digestFrom 23 = .ok (.iload 5, 2) := by decide +kernel
theorem dX4_digestFrom_25 : decode cX4_digestFrom 25 = .ok (.iaload, 1) := by decide +kernel
theorem dX4_digestFrom_26 : decode cX4_digestFrom 26 = .ok (.i2l, 1) := by decide +kernel
theorem dX4_digestFrom_27 : decode cX4_digestFrom 27 = .ok (.ladd, 1) := by decide +kernel
theorem dX4_digestFrom_28 : decode cX4_digestFrom 28 = .ok (.lstore_n 3, 1) := by decide +kernel
theorem dX4_digestFrom_29 : decode cX4_digestFrom 29 = .ok (.iinc 5 1, 3) := by decide +kernel
theorem dX4_digestFrom_32 : decode cX4_digestFrom 32 = .ok (.goto (-27), 3) := by decide +kernel
theorem dX4_digestFrom_35 : decode cX4_digestFrom 35 = .ok (.lload_n 3, 1) := by decide +kernel
theorem dX4_digestFrom_36 : decode cX4_digestFrom 36 = .ok (.lreturn, 1) := by decide +kernel
theorem dX4_copyFrom_0 : decode cX4_copyFrom 0 = .ok (.aload_n 0, 1) := by decide +kernel
theorem dX4_copyFrom_1 : decode cX4_copyFrom 1 = .ok (.aload_n 1, 1) := by decide +kernel
theorem dX4_copyFrom_2 : decode cX4_copyFrom 2 = .ok (.getfield 18, 3) := by decide +kernel
theorem dX4_copyFrom_5 : decode cX4_copyFrom 5 = .ok (.putfield 18, 3) := by decide +kernel
theorem dX4_copyFrom_8 : decode cX4_copyFrom 8 = .ok (.aload_n 1, 1) := by decide +kernel
theorem dX4_copyFrom_9 : decode cX4_copyFrom 9 = .ok (.getfield 9, 3) := by decide +kernel
theorem dX4_copyFrom_12 : decode cX4_copyFrom 12 = .ok (.iconst 0, 1) := by decide +kernel
theorem dX4_copyFrom_13 : decode cX4_copyFrom 13 = .ok (.aload_n 0, 1) := by decide +kernel
theorem dX4_copyFrom_14 : decode cX4_copyFrom 14 = .ok (.getfield 9, 3) := by decide +kernel
theorem dX4_copyFrom_17 : decode cX4_copyFrom 17 = .ok (.iconst 0, 1) := by decide +kernel
theorem dX4_copyFrom_18 : decode cX4_copyFrom 18 = .ok (.aload_n 0, 1) := by decide +kernel
theorem dX4_copyFrom_19 : decode cX4_copyFrom 19 = .ok (.getfield 18, 3) := by decide +kernel
theorem dX4_copyFrom_22 : decode cX4_copyFrom 22 = .ok (.invokestatic 22, 3) := by decide +kernel
theorem dX4_copyFrom_25 : decode cX4_copyFrom 25 = .ok (.return_, 1) := by decide +kernel
theorem dJ9_floorMod_7cf53_0 : decode cJ9_floorMod_7cf53 0 = .ok (.iload_n 0, 1) := by decide +kernel
theorem dJ9_floorMod_7cf53_1 : decode cJ9_floorMod_7cf53 1 = .ok (.iload_n 1, 1) := by decide +kernel
theorem dJ9_floorMod_7cf53_2 : decode cJ9_floorMod_7cf53 2 = .ok (.irem, 1) := by decide +kernel
theorem dJ9_floorMod_7cf53_3 : decode cJ9_floorMod_7cf53 3 = .ok (.istore_n 2, 1) := by decide +kernel
theorem dJ9_floorMod_7cf53_4 : decode cJ9_floorMod_7cf53 4 = .ok (.iload_n 0, 1) := by decide +kernel
theorem dJ9_floorMod_7cf53_5 : decode cJ9_floorMod_7cf53 5 = .ok (.iload_n 1, 1) := by decide +kernel
theorem dJ9_floorMod_7cf53_6 : decode cJ9_floorMod_7cf53 6 = .ok (.ixor, 1) := by decide +kernel
theorem dJ9_floorMod_7cf53_7 : decode cJ9_floorMod_7cf53 7 = .ok (.ifCond .ge 11, 3) := by decide +kernel
theorem dJ9_floorMod_7cf53_10 : decode cJ9_floorMod_7cf53 10 = .ok (.iload_n 2, 1) := by decide +kernel
theorem dJ9_floorMod_7cf53_11 : decode cJ9_floorMod_7cf53 11 = .ok (.ifCond .eq 7, 3) := by decide +kernel
theorem dJ9_floorMod_7cf53_14 : decode cJ9_floorMod_7cf53 14 = .ok (.iload_n 2, 1) := by decide +kernel
theorem dJ9_floorMod_7cf53_15 : decode cJ9_floorMod_7cf53 15 = .ok (.iload_n 1, 1) := by decide +kernel
theorem dJ9_floorMod_7cf53_16 : decode cJ9_floorMod_7cf53 16 = .ok (.iadd, 1) := by decide +kernel
theorem dJ9_floorMod_7cf53_17 : decode cJ9_floorMod_7cf53 17 = .ok (.ireturn, 1) := by decide +kernel
theorem dJ9_floorMod_7cf53_18 : decode cJ9_floorMod_7cf53 18 = .ok (.iload_n 2, 1) := by decide +kernel
theorem dJ9_floorMod_7cf53_19 : decode cJ9_floorMod_7cf53 19 = .ok (.ireturn, 1) := by decide +kernel
theorem dJ9_abs_0f7a4_0 : decode cJ9_abs_0f7a4 0 = .ok (.iload_n 0, 1) := by decide +kernel
theorem dJ9_abs_0f7a4_1 : decode cJ9_abs_0f7a4 1 = .ok (.ifCond .ge 8, 3) := by decide +kernel
theorem dJ9_abs_0f7a4_4 : decode cJ9_abs_0f7a4 4 = .ok (.iload_n 0, 1) := by decide +kernel
theorem dJ9_abs_0f7a4_5 : decode cJ9_abs_0f7a4 5 = .ok (.ineg, 1) := by decide +kernel
theorem dJ9_abs_0f7a4_6 : decode cJ9_abs_0f7a4 6 = .ok (.goto 4, 3) := by decide +kernel
theorem dJ9_abs_0f7a4_9 : decode cJ9_abs_0f7a4 9 = .ok (.iload_n 0, 1) := by decide +kernel
theorem dJ9_abs_0f7a4_10 : decode cJ9_abs_0f7a4 10 = .ok (.ireturn, 1) := by decide +kernel
theorem dJ9_max_7cf53_0 : decode cJ9_max_7cf53 0 = .ok (.iload_n 0, 1) := by decide +kernel
theorem dJ9_max_7cf53_1 : decode cJ9_max_7cf53 1 = .ok (.iload_n 1, 1) := by decide +kernel
theorem dJ9_max_7cf53_2 : decode cJ9_max_7cf53 2 = .ok (.if_icmp .lt 7, 3) := by decide +kernel
theorem dJ9_max_7cf53_5 : decode cJ9_max_7cf53 5 = .ok (.iload_n 0, 1) := by decide +kernel
theorem dJ9_max_7cf53_6 : decode cJ9_max_7cf53 6 = .ok (.goto 4, 3) := by decide +kernel
theorem dJ9_max_7cf53_9 : decode cJ9_max_7cf53 9 = .ok (.iload_n 1, 1) := by decide +kernel
theorem dJ9_max_7cf53_10 : decode cJ9_max_7cf53 10 = .ok (.ireturn, 1) := by decide +kernel
end
section
/-! worlds as one state: arrays SA, numbers SV; what a method needs (CX), what holds (WS), contracts over a world -/
abbrev SA : Type := Nat → Nat → Int32
abbrev SV : Type := Nat → Int32
def up (A : SA) (k i : Nat) (v : Int32) : SA := fun k' => if k' = k then upd (A k) i v else A k'
def ua (A : SA) (k : Nat) (f : Nat → Int32) : SA := fun k' => if k' = k then f else A k'
def uv (V : SV) (k : Nat) (v : Int32) : SV := fun k' => if k' = k then v else V k'
abbrev TYS : Type := List (ClassId × FieldType)
def PcW (D : va_G) (tys : TYS) (ws : va_W) (sz : Nat) (av : List Value) : Array Value → State → Prop := va_Pc av (fun U => U.heap.size = sz ∧ va_P D vwCl ws U.heap ∧ va_K D vwCl tys U ∧ va_D (fun _ => True) ws)
def BpW {S : Type} (D : va_G) (tys : TYS) (ws : va_W) (sz : Nat) (wsU : S → va_W) : S → State → Prop := fun u t => va_P D vwCl (wsU u) t.heap ∧ va_K D vwCl tys t ∧ va_D (va_A ws sz) (wsU u)
abbrev QiW {S : Type} (D : va_G) (tys : TYS) (ws : va_W) (sz : Nat) (wsU : S → va_W) (post : Int32 → S → Prop) : Array Value → State → Outcome → State → Prop := va_Qi post (BpW D tys ws sz wsU) (va_A ws sz)
abbrev QlW {S : Type} (D : va_G) (tys : TYS) (ws : va_W) (sz : Nat) (wsU : S → va_W) (post : Int64 → S → Prop) : Array Value → State → Outcome → State → Prop := va_Ql post (BpW D tys ws sz wsU) (va_A ws sz)
abbrev QvW {S : Type} (D : va_G) (tys : TYS) (ws : va_W) (sz : Nat) (wsU : S → va_W) (post : S → Prop) : Array Value → State → Outcome → State → Prop := va_Qv post (BpW D tys ws sz wsU) (va_A ws sz)
def WS (D : va_G) (s : State) (A0 : Nat → Prop) (ws : va_W) (H : Heap) (locs : List Loc) : Prop := va_P D vwCl ws H ∧ va_D A0 ws ∧ va_S A0 s.heap H locs
def CX (own : String) (cc : ByteArray) (nL : Nat) (Ts : List Cond) (D : va_G) (tys : TYS) (p : Program) (s : State) (m : MethodId) (args : Array Value) (c : Code) (A0 : Nat → Prop) : Prop :=
  p.tables.exec = Jvm.exec ∧ c.code = cc ∧ c.maxLocals = nL ∧ s.vm.findClass own = some m.cls ∧ (∀ w ∈ Ts, w.before args s = true) ∧ va_K D vwCl tys s ∧ (∀ q : Nat, s.heap.size ≤ q → A0 q)
def SUB (ws wc : va_W) : Prop := (∀ (k : Nat) (q : Nat × va_E), wc[k]? = some q → ∃ i : Nat, ws[i]? = some q) ∧ ∀ A : Nat → Prop, va_D A ws → va_D A wc
theorem SUB.rf {ws : va_W} : SUB ws ws := ⟨fun k q h => ⟨k, h⟩, fun _ h => h⟩
theorem SUB.nil {ws : va_W} : SUB ws [] := ⟨fun k q h => by simp at h, fun _ _ => ⟨fun i j p q h => by simp at h, fun k q h => by simp at h⟩⟩
theorem SUB.by {ws wc : va_W} (is : List Nat) (hn : va_nd is = true) (hs : is.map (fun i => ws[i]?) = wc.map some) : SUB ws wc := by
  refine ⟨fun k q hk => ?_, fun A hD => hD.sub is hn hs⟩
  have h1 : (is.map (fun i => ws[i]?))[k]? = some (some q) := by rw [hs, List.getElem?_map, hk]; rfl
  rw [List.getElem?_map] at h1
  cases hi : is[k]? with
  | none => rw [hi] at h1; cases h1
  | some i => rw [hi] at h1; exact ⟨i, Option.some.inj h1⟩
theorem SUB.P {D : va_G} {ws wc : va_W} {H : Heap} (h : SUB ws wc) (hP : va_P D vwCl ws H) : va_P D vwCl wc H := fun k q hk => (h.1 k q hk).elim fun i hi => hP i q hi
theorem SUB.F {ws wc : va_W} {A0 : Nat → Prop} {s : State} {H : Heap} {locs : List Loc} (h : SUB ws wc) (hD : va_D A0 ws) (hS : va_S A0 s.heap H locs) (hA : ∀ q : Nat, s.heap.size ≤ q → A0 q) : ∀ q : Nat, va_A wc H.size q → A0 q := by
  intro q hq
  rcases hq with ⟨k, e, hk⟩ | hq
  · obtain ⟨i, hi⟩ := h.1 k _ hk
    exact hD.2 i _ hi
  · exact hA q (Nat.le_trans hS.1 hq)
/-- what a callee's world is for the caller's -/
def JN {S : Type} (D : va_G) (ws wc : va_W) (wcU wsU : S → va_W) : Prop := ∀ (A0 : Nat → Prop) (H H1 : Heap) (u : S), va_P D vwCl ws H → va_D A0 ws → (∀ q : Nat, q < H.size → ¬ va_A wc H.size q → H1[q]? = H[q]?) → (∀ q : Nat, va_A wc H.size q → A0 q) → va_P D vwCl (wcU u) H1 → va_D (va_A wc H.size) (wcU u) → va_P D vwCl (wsU u) H1 ∧ va_D A0 (wsU u)
theorem JN.rf {S : Type} {D : va_G} {ws : va_W} {wsU : S → va_W} : JN D ws ws wsU wsU := fun _ _ _ _ _ _ _ hF hP hD => ⟨hP, hD.weaken (fun _ q _ h => hF q.1 h)⟩
theorem JN.nil {S : Type} {D : va_G} {ws : va_W} : JN D ws [] (fun _ : S => []) (fun _ : S => ws) := by
  intro A0 H H1 u hP hD hk hF _ _
  refine ⟨hP.kept (fun k q hq => hk q.1 (hP k q hq).lt ?_), hD⟩
  rintro (⟨k, e, h⟩ | h)
  · simp at h
  · exact absurd h (Nat.not_le.mpr (hP k q hq).lt)
theorem JN.by {S : Type} {D : va_G} {ws wc wr : va_W} {wcU wsU : S → va_W} (isC isR : List Nat) (hC : isC.map (fun i => ws[i]?) = wc.map some) (hR : isR.map (fun i => ws[i]?) = wr.map some) (hn : va_nd isR = true) (hdis : ∀ i ∈ isR, i ∉ isC) (isU : List Nat) (hnU : va_nd isU = true) (hU : ∀ u, isU.map (fun i => (wr ++ wcU u)[i]?) = (wsU u).map some) : JN D ws wc wcU wsU := by
  intro A0 H H1 u hP hD hk hF hP1 hD1
  obtain ⟨h1, h2⟩ := va_join hP hD isC isR hC hR hn hdis hk hF hP1 hD1
  have hS := SUB.by isU hnU (hU u)
  exact ⟨hS.P h1, hS.2 _ h2⟩
theorem Met_ofWF {y : MethodName} {l : Launch} {ws ws' : List Cond} {rm : Room} {Pc : Array Value → State → Prop} {Qc : Array Value → State → Outcome → State → Prop} {mc ms : Nat} {free : Addr → Prop} {cc : ByteArray} {maxL : Nat} {ret : Option FieldType}
    (hy : plainFor y = true) (hw : ws = Cond.code y cc maxL ret :: ws')
    (body : ∀ p e s m args below meth c s₁, BodyLoose p l y (headSpec ws rm) cc maxL ret e s m args below meth c s₁ → c.maxLocals = maxL → Pc args s →
      W p l e (headSpec ws rm).room s m args below meth c s.heap [] 0 0 (MQ below Qc args s mc ms free) (entryFrame m args maxL)) : Met l y ws rm Pc Qc mc ms free := by
  refine MetFree.of_bodySF (code := cc) (maxLocals := maxL) (ret := ret) hy ?_ ?_
  · intro args s m h hn
    obtain ⟨meth, c, h1, h2, h3, h4, h5, h6, -, -⟩ := Cond.code_spec hn (atoms_spec (ws := ws) h _ (by rw [hw]; exact List.mem_cons_self))
    exact ⟨meth, c, h1, h2, h3, h4, h5, h6⟩
  · intro p e s m args below meth c s₁ B hml hP _
    have hh0 : s₁.heap = s.heap := by rw [B.state]; rfl
    obtain ⟨t, a1, o, b1, b2, b3⟩ := body p e s m args below meth c s₁ B hml hP s₁ hh0 (Stand.of_body B)
    exact ⟨t, o, a1, b1, b2, ⟨b3.1, b3.2⟩⟩
section PRE
variable {S : Type} {l : Launch} {y : MethodName} {wsY ws' : List Cond} {rm : Room} {D : va_G} {tys : TYS} {ws : va_W} {sz : Nat} {av : List Value} {wsU : S → va_W} {cc : ByteArray} {maxL : Nat}
theorem startI {ty : FieldType} {post : Int32 → S → Prop} (hy : plainFor y = true) (hw : wsY = Cond.code y cc maxL (some ty) :: ws') (hav : (lg_sl av).length ≤ maxL)
    (body : ∀ (p : Program) (e : Env) (s : State) (m : MethodId) (args : Array Value) (below : List Frame) (meth : Method) (c : Code) (A0 : Nat → Prop) (Z : State → Prop), CX y.cls cc maxL wsY D tys p s m args c A0 → WS D s A0 ws s.heap [] →
      (∀ (pc : Nat) (ls : Array Slot) (r : Int32) (u : S) (H : Heap) (locs : List Loc), narrow ty (.int r) = .int r → decode cc pc = .ok (.ireturn, 1) → post r u → WS D s A0 (wsU u) H locs → W p l e rm s m args below meth c H locs rm.cells rm.slots Z (F0 m pc ls [.int r])) →
      ∀ ls : Array Slot, lv_has ls maxL (lv_args 0 av) → W p l e rm s m args below meth c s.heap [] 0 0 Z (F0 m 0 ls [])) :
    Met l y wsY rm (PcW D tys ws sz av) (QiW D tys ws sz wsU post) rm.cells rm.slots (va_A ws sz) := by
  refine Met_ofWF (cc := cc) (maxL := maxL) (ret := some ty) hy hw ?_
  intro p e s m args below meth c s₁ B hml hv
  obtain ⟨rfl, hsz, hP, hK, hD0⟩ := hv
  have hts := atoms_spec (ws := wsY) B.pre
  have hown := findClass_of_methodNamed B.named
  subst hsz
  have hD := hD0.self (sz := s.heap.size)
  have hl := lv_entry av (n := maxL) hav
  rw [lg_entry_eq]
  refine body p e s m _ below meth c (va_A ws s.heap.size) _ ⟨B.exec, B.bytes, hml, hown, hts, hK, fun q h => Or.inr h⟩ ⟨hP, hD, va_S.rf⟩ ?_ _ hl
  intro pc ls r u H locs hn hd hpost hws
  exact W.zret (ty := ty) B.exec B.bytes B.returns hn (fun t ht hW => ⟨⟨r, u, rfl, hpost, by rw [ht]; exact hws.1, va_K.moved hW.alike hK, hws.2.1⟩, hws.2.2.F ht⟩) hws.2.2.2.2 hd
theorem startV {post : S → Prop} (hy : plainFor y = true) (hw : wsY = Cond.code y cc maxL none :: ws') (hav : (lg_sl av).length ≤ maxL)
    (body : ∀ (p : Program) (e : Env) (s : State) (m : MethodId) (args : Array Value) (below : List Frame) (meth : Method) (c : Code) (A0 : Nat → Prop) (Z : State → Prop), CX y.cls cc maxL wsY D tys p s m args c A0 → WS D s A0 ws s.heap [] →
      (∀ (pc : Nat) (ls : Array Slot) (u : S) (H : Heap) (locs : List Loc), decode cc pc = .ok (.return_, 1) → post u → WS D s A0 (wsU u) H locs → W p l e rm s m args below meth c H locs rm.cells rm.slots Z (F0 m pc ls [])) →
      ∀ ls : Array Slot, lv_has ls maxL (lv_args 0 av) → W p l e rm s m args below meth c s.heap [] 0 0 Z (F0 m 0 ls [])) :
    Met l y wsY rm (PcW D tys ws sz av) (QvW D tys ws sz wsU post) rm.cells rm.slots (va_A ws sz) := by
  refine Met_ofWF (cc := cc) (maxL := maxL) (ret := none) hy hw ?_
  intro p e s m args below meth c s₁ B hml hv
  obtain ⟨rfl, hsz, hP, hK, hD0⟩ := hv
  have hts := atoms_spec (ws := wsY) B.pre
  have hown := findClass_of_methodNamed B.named
  subst hsz
  have hD := hD0.self (sz := s.heap.size)
  have hl := lv_entry av (n := maxL) hav
  rw [lg_entry_eq]
  refine body p e s m _ below meth c (va_A ws s.heap.size) _ ⟨B.exec, B.bytes, hml, hown, hts, hK, fun q h => Or.inr h⟩ ⟨hP, hD, va_S.rf⟩ ?_ _ hl
  intro pc ls u H locs hd hpost hws
  exact W.vret B.exec B.bytes B.returns (fun t ht hW => ⟨⟨u, rfl, hpost, by rw [ht]; exact hws.1, va_K.moved hW.alike hK, hws.2.1⟩, hws.2.2.F ht⟩) hws.2.2.2.2 hd
theorem startL {post : Int64 → S → Prop} (hy : plainFor y = true) (hw : wsY = Cond.code y cc maxL (some .long) :: ws') (hav : (lg_sl av).length ≤ maxL)
    (body : ∀ (p : Program) (e : Env) (s : State) (m : MethodId) (args : Array Value) (below : List Frame) (meth : Method) (c : Code) (A0 : Nat → Prop) (Z : State → Prop), CX y.cls cc maxL wsY D tys p s m args c A0 → WS D s A0 ws s.heap [] →
      (∀ (pc : Nat) (ls : Array Slot) (r : Int64) (u : S) (H : Heap) (locs : List Loc), decode cc pc = .ok (.lreturn, 1) → post r u → WS D s A0 (wsU u) H locs → W p l e rm s m args below meth c H locs rm.cells rm.slots Z (F0 m pc ls [.long r])) →
      ∀ ls : Array Slot, lv_has ls maxL (lv_args 0 av) → W p l e rm s m args below meth c s.heap [] 0 0 Z (F0 m 0 ls [])) :
    Met l y wsY rm (PcW D tys ws sz av) (QlW D tys ws sz wsU post) rm.cells rm.slots (va_A ws sz) := by
  refine Met_ofWF (cc := cc) (maxL := maxL) (ret := some .long) hy hw ?_
  intro p e s m args below meth c s₁ B hml hv
  obtain ⟨rfl, hsz, hP, hK, hD0⟩ := hv
  have hts := atoms_spec (ws := wsY) B.pre
  have hown := findClass_of_methodNamed B.named
  subst hsz
  have hD := hD0.self (sz := s.heap.size)
  have hl := lv_entry av (n := maxL) hav
  rw [lg_entry_eq]
  refine body p e s m _ below meth c (va_A ws s.heap.size) _ ⟨B.exec, B.bytes, hml, hown, hts, hK, fun q h => Or.inr h⟩ ⟨hP, hD, va_S.rf⟩ ?_ _ hl
  intro pc ls r u H locs hd hpost hws
  exact W.lret B.exec B.bytes B.returns (fun t ht hW => ⟨⟨r, u, rfl, hpost, by rw [ht]; exact hws.1, va_K.moved hW.alike hK, hws.2.1⟩, hws.2.2.F ht⟩) hws.2.2.2.2 hd
end PRE
section CALLS
variable {S : Type} {own C : String} {cc : ByteArray} {nL : Nat} {Ts : List Cond} {D : va_G} {tys tysC : TYS} {p : Program} {l : Launch} {e : Env} {R : Room} {s : State} {m : MethodId} {args : Array Value} {below : List Frame} {meth : Method} {c : Code} {A0 : Nat → Prop} {H : Heap} {locs : List Loc} {cells slots : Nat} {Z : State → Prop} {ws wc : va_W} {wcU wsU : S → va_W}
variable {y : MethodName} {wsY : List Cond} {rmY : Room} {bytes : ByteArray} {maxL n index mc ms : Nat} {ret : Option FieldType} {av : List Value} {b : Addr} {pc : Nat} {ls : Array Slot} {lv : List (Nat × Value)} {st0 rest : List Value} {q : vw_C} {ci : Nat} {fs : List Value}
theorem callVi {post : Int32 → S → Prop} (cx : CX own cc nL Ts D tys p s m args c A0) (hw : WS D s A0 ws H locs) (hls : lv_has ls nL lv)
    (hM : Met l y wsY rmY (PcW D tysC wc H.size (.ref b :: av)) (QiW D tysC wc H.size wcU post) mc ms (va_A wc H.size))
    (cw : (∀ w ∈ Ts, w.before args s = true) → CallW R s args own C index y bytes maxL ret wsY rmY mc ms n) (hsub : SUB ws wc) (ist : List Nat) (hT : ist.filterMap (fun i => tys[i]?) = tysC)
    (q0 : Nat) (hc : vwCl[ci]? = some q) (hqC : q.1 = C) (he : wc[q0]? = some (b, .inr (ci, fs))) (hjn : JN D ws wc wcU wsU) (hn : av.length = n) (hst : st0 = av.reverse ++ .ref b :: rest) (hroom : (rest.map fun v => v.category).sum ≤ 8) (hf : cells + mc ≤ R.cells ∧ slots + ms ≤ R.slots) {c1 s1 : Nat} (hc1 : cells + mc = c1) (hs1 : slots + ms = s1) (hd : decode cc pc = .ok (.invokevirtual index, 3))
    (kk : ∀ (r : Int32) (u : S) (H1 : Heap) (locs1 : List Loc), post r u → WS D s A0 (wsU u) H1 locs1 → W p l e R s m args below meth c H1 locs1 c1 s1 Z (F0 m (pc + 3) ls (.int r :: rest))) : W p l e R s m args below meth c H locs cells slots Z (F0 m pc ls st0) := by
  subst hc1
  subst hs1
  obtain ⟨hx, hb, hml, hown, hts, hK, hA⟩ := cx
  obtain ⟨hP, hD, hS⟩ := hw
  have hPc := hsub.P hP
  have hDc := hsub.2 _ hD
  have hKc := hK.sub ist hT
  have hFc := hsub.F hD hS hA
  refine va_calli (va_runV (As := av) (rest := rest) ⟨hx, hb, hml, hown, hts⟩ hM (cw hts) ⟨fun a U g mk q => by obtain ⟨q0, q1, qP, qK, qD⟩ := q; exact ⟨q0, q1, qP, va_K.moved (u := U) (U := U.calling g mk a) (Vm.Alike.refl U.vm) qK, qD⟩, hqC ▸ va_recv hKc hPc hc he, fun U hU hW => ⟨rfl, by rw [hU], by rw [hU]; exact hPc, va_K.moved hW.alike hKc, hDc.weaken (fun _ _ _ _ => trivial)⟩⟩ rfl hn hls.1 hst (lv_room hroom) hd hf) hS (fun q _ h => hFc q h) hFc (fun r u t H1 locs1 ht hvm hw hB hz1 hk1 hS1 => ?_)
  obtain ⟨hP1, hK1, hD1⟩ := hB
  rw [ht] at hP1
  obtain ⟨h1, h2⟩ := hjn A0 H H1 u hP hD hk1 hFc hP1 hD1
  exact kk r u H1 locs1 hw ⟨h1, h2, hS1⟩
theorem callVl {post : Int64 → S → Prop} (cx : CX own cc nL Ts D tys p s m args c A0) (hw : WS D s A0 ws H locs) (hls : lv_has ls nL lv)
    (hM : Met l y wsY rmY (PcW D tysC wc H.size (.ref b :: av)) (QlW D tysC wc H.size wcU post) mc ms (va_A wc H.size))
    (cw : (∀ w ∈ Ts, w.before args s = true) → CallW R s args own C index y bytes maxL ret wsY rmY mc ms n) (hsub : SUB ws wc) (ist : List Nat) (hT : ist.filterMap (fun i => tys[i]?) = tysC)
    (q0 : Nat) (hc : vwCl[ci]? = some q) (hqC : q.1 = C) (he : wc[q0]? = some (b, .inr (ci, fs))) (hjn : JN D ws wc wcU wsU) (hn : av.length = n) (hst : st0 = av.reverse ++ .ref b :: rest) (hroom : (rest.map fun v => v.category).sum ≤ 8) (hf : cells + mc ≤ R.cells ∧ slots + ms ≤ R.slots) {c1 s1 : Nat} (hc1 : cells + mc = c1) (hs1 : slots + ms = s1) (hd : decode cc pc = .ok (.invokevirtual index, 3))
    (kk : ∀ (r : Int64) (u : S) (H1 : Heap) (locs1 : List Loc), post r u → WS D s A0 (wsU u) H1 locs1 → W p l e R s m args below meth c H1 locs1 c1 s1 Z (F0 m (pc + 3) ls (.long r :: rest))) : W p l e R s m args below meth c H locs cells slots Z (F0 m pc ls st0) := by
  subst hc1
  subst hs1
  obtain ⟨hx, hb, hml, hown, hts, hK, hA⟩ := cx
  obtain ⟨hP, hD, hS⟩ := hw
  have hPc := hsub.P hP
  have hDc := hsub.2 _ hD
  have hKc := hK.sub ist hT
  have hFc := hsub.F hD hS hA
  refine va_calll (va_runV (As := av) (rest := rest) ⟨hx, hb, hml, hown, hts⟩ hM (cw hts) ⟨fun a U g mk q => by obtain ⟨q0, q1, qP, qK, qD⟩ := q; exact ⟨q0, q1, qP, va_K.moved (u := U) (U := U.calling g mk a) (Vm.Alike.refl U.vm) qK, qD⟩, hqC ▸ va_recv hKc hPc hc he, fun U hU hW => ⟨rfl, by rw [hU], by rw [hU]; exact hPc, va_K.moved hW.alike hKc, hDc.weaken (fun _ _ _ _ => trivial)⟩⟩ rfl hn hls.1 hst (lv_room hroom) hd hf) hS (fun q _ h => hFc q h) hFc (fun r u t H1 locs1 ht hvm hw hB hz1 hk1 hS1 => ?_)
  obtain ⟨hP1, hK1, hD1⟩ := hB
  rw [ht] at hP1
  obtain ⟨h1, h2⟩ := hjn A0 H H1 u hP hD hk1 hFc hP1 hD1
  exact kk r u H1 locs1 hw ⟨h1, h2, hS1⟩
theorem callVv {post : S → Prop} (cx : CX own cc nL Ts D tys p s m args c A0) (hw : WS D s A0 ws H locs) (hls : lv_has ls nL lv)
    (hM : Met l y wsY rmY (PcW D tysC wc H.size (.ref b :: av)) (QvW D tysC wc H.size wcU post) mc ms (va_A wc H.size))
    (cw : (∀ w ∈ Ts, w.before args s = true) → CallW R s args own C index y bytes maxL ret wsY rmY mc ms n) (hsub : SUB ws wc) (ist : List Nat) (hT : ist.filterMap (fun i => tys[i]?) = tysC)
    (q0 : Nat) (hc : vwCl[ci]? = some q) (hqC : q.1 = C) (he : wc[q0]? = some (b, .inr (ci, fs))) (hjn : JN D ws wc wcU wsU) (hn : av.length = n) (hst : st0 = av.reverse ++ .ref b :: rest) (hroom : (rest.map fun v => v.category).sum ≤ 8) (hf : cells + mc ≤ R.cells ∧ slots + ms ≤ R.slots) {c1 s1 : Nat} (hc1 : cells + mc = c1) (hs1 : slots + ms = s1) (hd : decode cc pc = .ok (.invokevirtual index, 3))
    (kk : ∀ (u : S) (H1 : Heap) (locs1 : List Loc), post u → WS D s A0 (wsU u) H1 locs1 → W p l e R s m args below meth c H1 locs1 c1 s1 Z (F0 m (pc + 3) ls rest)) : W p l e R s m args below meth c H locs cells slots Z (F0 m pc ls st0) := by
  subst hc1
  subst hs1
  obtain ⟨hx, hb, hml, hown, hts, hK, hA⟩ := cx
  obtain ⟨hP, hD, hS⟩ := hw
  have hPc := hsub.P hP
  have hDc := hsub.2 _ hD
  have hKc := hK.sub ist hT
  have hFc := hsub.F hD hS hA
  refine va_callv (va_runV (As := av) (rest := rest) ⟨hx, hb, hml, hown, hts⟩ hM (cw hts) ⟨fun a U g mk q => by obtain ⟨q0, q1, qP, qK, qD⟩ := q; exact ⟨q0, q1, qP, va_K.moved (u := U) (U := U.calling g mk a) (Vm.Alike.refl U.vm) qK, qD⟩, hqC ▸ va_recv hKc hPc hc he, fun U hU hW => ⟨rfl, by rw [hU], by rw [hU]; exact hPc, va_K.moved hW.alike hKc, hDc.weaken (fun _ _ _ _ => trivial)⟩⟩ rfl hn hls.1 hst (lv_room hroom) hd hf) hS (fun q _ h => hFc q h) hFc (fun u t H1 locs1 ht hvm hw hB hz1 hk1 hS1 => ?_)
  obtain ⟨hP1, hK1, hD1⟩ := hB
  rw [ht] at hP1
  obtain ⟨h1, h2⟩ := hjn A0 H H1 u hP hD hk1 hFc hP1 hD1
  exact kk u H1 locs1 hw ⟨h1, h2, hS1⟩
theorem callSi {post : Int32 → S → Prop} (cx : CX own cc nL Ts D tys p s m args c A0) (hw : WS D s A0 ws H locs) (hls : lv_has ls nL lv)
    (hM : Met l y wsY rmY (PcW D tysC wc H.size av) (QiW D tysC wc H.size wcU post) mc ms (va_A wc H.size))
    (cw : (∀ w ∈ Ts, w.before args s = true) → CallB R s args own index y bytes maxL ret wsY rmY mc ms n ∧ (Cond.static y).before args s = true) (hsub : SUB ws wc) (ist : List Nat) (hT : ist.filterMap (fun i => tys[i]?) = tysC)
    (hjn : JN D ws wc wcU wsU) (hn : av.length = n) (hst : st0 = av.reverse ++ rest) (hroom : (rest.map fun v => v.category).sum ≤ 8) (hf : cells + mc ≤ R.cells ∧ slots + ms ≤ R.slots) {c1 s1 : Nat} (hc1 : cells + mc = c1) (hs1 : slots + ms = s1) (hd : decode cc pc = .ok (.invokestatic index, 3))
    (kk : ∀ (r : Int32) (u : S) (H1 : Heap) (locs1 : List Loc), post r u → WS D s A0 (wsU u) H1 locs1 → W p l e R s m args below meth c H1 locs1 c1 s1 Z (F0 m (pc + 3) ls (.int r :: rest))) : W p l e R s m args below meth c H locs cells slots Z (F0 m pc ls st0) := by
  subst hc1
  subst hs1
  obtain ⟨hx, hb, hml, hown, hts, hK, hA⟩ := cx
  obtain ⟨hP, hD, hS⟩ := hw
  have hPc := hsub.P hP
  have hDc := hsub.2 _ hD
  have hKc := hK.sub ist hT
  have hFc := hsub.F hD hS hA
  refine va_calli (va_runS (As := av) (rest := rest) ⟨hx, hb, hml, hown, hts⟩ hM (cw hts) ⟨fun a U g mk q => by obtain ⟨q0, q1, qP, qK, qD⟩ := q; exact ⟨q0, q1, qP, va_K.moved (u := U) (U := U.calling g mk a) (Vm.Alike.refl U.vm) qK, qD⟩, fun U hU hW => ⟨rfl, by rw [hU], by rw [hU]; exact hPc, va_K.moved hW.alike hKc, hDc.weaken (fun _ _ _ _ => trivial)⟩⟩ rfl hn hls.1 hst (lv_room hroom) hd hf) hS (fun q _ h => hFc q h) hFc (fun r u t H1 locs1 ht hvm hw hB hz1 hk1 hS1 => ?_)
  obtain ⟨hP1, hK1, hD1⟩ := hB
  rw [ht] at hP1
  obtain ⟨h1, h2⟩ := hjn A0 H H1 u hP hD hk1 hFc hP1 hD1
  exact kk r u H1 locs1 hw ⟨h1, h2, hS1⟩
/-- a field is read -/
theorem geF {C T N ci} (cx : CX own cc nL Ts D tys p s m args c A0) (hin : ∀ w ∈ u_ws C T N, w ∈ Ts) (hc : vwCl[ci]? = some (C, T, N)) (k : Nat) (hk : k < N) (hlk : Cond.fieldLink own index (T k).1 (T k).2.1 (T k).2.2.1 ∈ Ts) (hw : WS D s A0 ws H locs) (q0 : Nat) {v : Value} {a : Nat} (he : ws[q0]? = some (a, .inr (ci, fs))) (hv : fs[k]? = some v) (hd : decode cc pc = .ok (.getfield index, 3))
    (kk : W p l e R s m args below meth c H locs cells slots Z (F0 m (pc + 3) ls (v :: rest))) : W p l e R s m args below meth c H locs cells slots Z (F0 m pc ls (.ref a :: rest)) := by
  obtain ⟨hx, hb, hml, hown, hts, hK, hA⟩ := cx
  obtain ⟨hP, hD, hS⟩ := hw
  exact va_get hx hb hts hin hown hK hP q0 he hc k hk (hts _ hlk) (fun _ h => h) hv hd kk
/-- a number field is written -/
theorem puF {C T N ci} (cx : CX own cc nL Ts D tys p s m args c A0) (hin : ∀ w ∈ u_ws C T N, w ∈ Ts) (ty0 : Nat → FieldType) (hty : ∀ k, k < N → parseFieldDescriptor (T k).2.2.1 = some (ty0 k)) (hnm : ∀ a, a < N → ∀ b, b < N → a ≠ b → (T a).2.1 ≠ (T b).2.1) (hc : vwCl[ci]? = some (C, T, N)) (k : Nat) (hk : k < N) (hfin : (T k).2.2.2 = false) (hI : (T k).2.2.1 = "I") (hlk : Cond.fieldLink own index (T k).1 (T k).2.1 (T k).2.2.1 ∈ Ts) (hw : WS D s A0 ws H locs) (q0 : Nat) {v : Int32} {a : Nat} (he : ws[q0]? = some (a, .inr (ci, fs))) (hl : k < fs.length) {ws1 : va_W} (hs : ws.set q0 (a, .inr (ci, fs.set k (.int v))) = ws1) (hd : decode cc pc = .ok (.putfield index, 3))
    (kk : ∀ (H1 : Heap) (locs1 : List Loc), WS D s A0 ws1 H1 locs1 → W p l e R s m args below meth c H1 locs1 cells slots Z (F0 m (pc + 3) ls rest)) : W p l e R s m args below meth c H locs cells slots Z (F0 m pc ls (.int v :: .ref a :: rest)) := by
  obtain ⟨hx, hb, hml, hown, hts, hK, hA⟩ := cx
  obtain ⟨hP, hD, hS⟩ := hw
  subst hs
  exact va_put hx hb hts hin ty0 hty hnm hown hK hP hD hS q0 he hc k hk (hts _ hlk) (fun _ h => h) hfin (ty := .int) (by rw [hI]; rfl) rfl rfl hl hd (fun H1 locs1 h1 h2 h3 => kk H1 locs1 ⟨h1, h2, h3⟩)
theorem alI (cx : CX own cc nL Ts D tys p s m args c A0) (hw : WS D s A0 ws H locs) (q0 t0 : Nat) {cA : ClassId} {n : Nat} {f : Nat → Int32} {a : Nat} (ha : ws[q0]? = some (a, .inl (cA, n, .inl f))) (ht : tys[t0]? = some (cA, .int)) {i : Int32} (hin : vp_in i n) (hd : decode cc pc = .ok (.iaload, 1))
    (kk : W p l e R s m args below meth c H locs cells slots Z (F0 m (pc + 1) ls (.int (f i.toNatClampNeg) :: rest))) : W p l e R s m args below meth c H locs cells slots Z (F0 m pc ls (.int i :: .ref a :: rest)) :=
  va_iald cx.1 cx.2.1 cx.2.2.2.2.2.1 hw.1 q0 t0 ha ht hin hd kk
theorem alZ (cx : CX own cc nL Ts D tys p s m args c A0) (hw : WS D s A0 ws H locs) (q0 t0 : Nat) {cA : ClassId} {n : Nat} {f : Nat → Int32} {a : Nat} (ha : ws[q0]? = some (a, .inl (cA, n, .inl f))) (ht : tys[t0]? = some (cA, .boolean)) {i : Int32} (hin : vp_in i n) (hd : decode cc pc = .ok (.baload, 1))
    (kk : W p l e R s m args below meth c H locs cells slots Z (F0 m (pc + 1) ls (.int (f i.toNatClampNeg) :: rest))) : W p l e R s m args below meth c H locs cells slots Z (F0 m pc ls (.int i :: .ref a :: rest)) :=
  va_zald cx.1 cx.2.1 cx.2.2.2.2.2.1 hw.1 q0 t0 ha ht hin hd kk
theorem asI (cx : CX own cc nL Ts D tys p s m args c A0) (hw : WS D s A0 ws H locs) (q0 t0 : Nat) {cA : ClassId} {n : Nat} {f : Nat → Int32} {a : Nat} (ha : ws[q0]? = some (a, .inl (cA, n, .inl f))) (ht : tys[t0]? = some (cA, .int)) {i x : Int32} (hin : vp_in i n) {ws1 : va_W} (hs : ws.set q0 (a, .inl (cA, n, .inl (upd f i.toNatClampNeg x))) = ws1) (hd : decode cc pc = .ok (.iastore, 1))
    (kk : ∀ (H1 : Heap) (locs1 : List Loc), WS D s A0 ws1 H1 locs1 → W p l e R s m args below meth c H1 locs1 cells slots Z (F0 m (pc + 1) ls rest)) : W p l e R s m args below meth c H locs cells slots Z (F0 m pc ls (.int x :: .int i :: .ref a :: rest)) := by
  subst hs
  exact va_iast cx.1 cx.2.1 cx.2.2.2.2.2.1 hw.1 hw.2.1 hw.2.2 q0 t0 ha ht hin hd (fun H1 locs1 h1 h2 h3 => kk H1 locs1 ⟨h1, h2, h3⟩)
theorem asZ (cx : CX own cc nL Ts D tys p s m args c A0) (hw : WS D s A0 ws H locs) (q0 t0 : Nat) {cA : ClassId} {n : Nat} {f : Nat → Int32} {a : Nat} (ha : ws[q0]? = some (a, .inl (cA, n, .inl f))) (ht : tys[t0]? = some (cA, .boolean)) {i x : Int32} (hin : vp_in i n) {ws1 : va_W} (hs : ws.set q0 (a, .inl (cA, n, .inl (upd f i.toNatClampNeg (vp_nar .boolean x)))) = ws1) (hd : decode cc pc = .ok (.bastore, 1))
    (kk : ∀ (H1 : Heap) (locs1 : List Loc), WS D s A0 ws1 H1 locs1 → W p l e R s m args below meth c H1 locs1 cells slots Z (F0 m (pc + 1) ls rest)) : W p l e R s m args below meth c H locs cells slots Z (F0 m pc ls (.int x :: .int i :: .ref a :: rest)) := by
  subst hs
  exact va_zast cx.1 cx.2.1 cx.2.2.2.2.2.1 hw.1 hw.2.1 hw.2.2 q0 t0 ha ht hin hd (fun H1 locs1 h1 h2 h3 => kk H1 locs1 ⟨h1, h2, h3⟩)
theorem alenG (cx : CX own cc nL Ts D tys p s m args c A0) (hw : WS D s A0 ws H locs) (q0 t0 : Nat) {cA : ClassId} {x : vp_A} {a : Nat} (ha : ws[q0]? = some (a, .inl (cA, x))) {ty : FieldType} (ht : tys[t0]? = some (cA, ty)) {v : Int32} (hv : Int32.ofNat x.1 = v) (hd : decode cc pc = .ok (.arraylength, 1))
    (kk : W p l e R s m args below meth c H locs cells slots Z (F0 m (pc + 1) ls (.int v :: rest))) : W p l e R s m args below meth c H locs cells slots Z (F0 m pc ls (.ref a :: rest)) :=
  va_alen cx.1 cx.2.1 cx.2.2.2.2.2.1 hw.1 q0 t0 ha ht hv hd kk
theorem newI (cx : CX own cc nL Ts D tys p s m args c A0) (harr : (Cond.arrayClass .int).before args s = true) (hw : WS D s A0 ws H locs) {n : Int32} {N' : Nat} (hn : ¬ n < 0) (hN : n.toNatClampNeg = N') (hbytes : N' * componentBytes .int ≤ 536870912) (hcells : cells + 1 ≤ R.cells) (hslots : slots + N' ≤ R.slots) (hd : decode cc pc = .ok (.newarray .int, 2))
    (kk : ∀ (q : Nat) (cA : ClassId) (H1 : Heap), CX own cc nL Ts D (tys ++ [(cA, .int)]) p s m args c A0 → WS D s A0 (ws ++ [(q, .inl (cA, N', .inl (fun _ => 0)))]) H1 locs → W p l e R s m args below meth c H1 locs (cells + 1) (slots + N') Z (F0 m (pc + 2) ls (.ref q :: rest))) : W p l e R s m args below meth c H locs cells slots Z (F0 m pc ls (.int n :: rest)) := by
  obtain ⟨hx, hb, hml, hown, hts, hK, hA⟩ := cx
  obtain ⟨hP, hD, hS⟩ := hw
  exact va_newa (atype := .int) hx hb harr rfl hK hP hD hS hA (a0 := (N', .inl (fun _ => 0))) (fun _ => rfl) hn hN hbytes hcells hslots hd (fun q cA H1 hK1 hP1 hD1 hS1 => kk q cA H1 ⟨hx, hb, hml, hown, hts, hK1, hA⟩ ⟨hP1, hD1, hS1⟩)
theorem cpI (cx : CX own cc nL Ts D tys p s m args c A0) (hl : lv_has ls nL lv) (hlink : (Cond.methodLink own index arraycopyName).before args s = true) (hnat : (Cond.native arraycopyName).before args s = true) (hstat : (Cond.static arraycopyName).before args s = true) (hini : (Cond.initialized "java/lang/System").before args s = true) (hw : WS D s A0 ws H locs) (q0 q1 t0 t1 : Nat) {a0 a : Nat} {k0 k1 : ClassId} {n0 n1 : Nat} {f g : Nat → Int32} (ha0 : ws[q0]? = some (a0, .inl (k0, n0, .inl f))) (ha1 : ws[q1]? = some (a, .inl (k1, n1, .inl g))) (ht0 : tys[t0]? = some (k0, .int)) (ht1 : tys[t1]? = some (k1, .int))
    {sp dp n : Int32} (h1 : ¬ sp < 0) (h2 : ¬ dp < 0) (h3 : ¬ n < 0) (h4 : sp.toNatClampNeg + n.toNatClampNeg ≤ n0) (h5 : dp.toNatClampNeg + n.toNatClampNeg ≤ n1) (hframes : 1 ≤ R.frames) (hlocals : (rest.map fun v => v.category).sum + (nativeFrameWords "java/lang/System" "arraycopy" 5 + 11) ≤ R.locals)
    {ws1 : va_W} (hs : ws.set q1 (a, .inl (k1, n1, .inl (va_cpy f g sp.toNatClampNeg dp.toNatClampNeg n.toNatClampNeg))) = ws1) (hd : decode cc pc = .ok (.invokestatic index, 3))
    (kk : ∀ (H1 : Heap) (locs1 : List Loc), WS D s A0 ws1 H1 locs1 → W p l e R s m args below meth c H1 locs1 cells slots Z (F0 m (pc + 3) ls rest)) : W p l e R s m args below meth c H locs cells slots Z (F0 m pc ls (.int n :: .int dp :: .ref a :: .int sp :: .ref a0 :: rest)) := by
  subst hs
  obtain ⟨hx, hb, hml, hown, hts, hK, hA⟩ := cx
  obtain ⟨hP, hD, hS⟩ := hw
  exact va_copyi hx hb (hml.trans hl.1.symm) hown hlink hnat hstat hini hK hP hD hS q0 q1 t0 t1 ha0 ha1 ht0 ht1 rfl h1 h2 h3 h4 h5 (fun _ _ => rfl) hframes hlocals hd (fun H1 locs1 x1 x2 x3 => kk H1 locs1 ⟨x1, x2, x3⟩)
end CALLS
theorem WS.dropR {D : va_G} {s : State} {A0 : Nat → Prop} {w t : va_W} {H : Heap} {locs : List Loc} (h : WS D s A0 (w ++ t) H locs) : WS D s A0 w H locs := by
  have hg : ∀ (k : Nat) (q : Nat × va_E), w[k]? = some q → (w ++ t)[k]? = some q := fun k q hk => by
    rw [List.getElem?_append_left (List.getElem?_eq_some_iff.mp hk).1]
    exact hk
  exact ⟨fun k q hk => h.1 k q (hg k q hk), ⟨fun i j x y hi hj hxy => h.2.1.1 i j x y (hg i x hi) (hg j y hj) hxy, fun k q hk => h.2.1.2 k q (hg k q hk)⟩, h.2.2⟩
theorem nar01 {v : Int32} (h : v = 0 ∨ v = 1) : narrow .boolean (.int v) = .int v := by
  rcases h with rfl | rfl <;> rfl
theorem tsw {x : Int32} (n : Nat) (hn : n < 2 ^ 30) (h : ∀ i : Nat, i ≤ n → ¬ x = nI i) : x.toInt < ((0 : Nat) : Int) ∨ (n : Int) < x.toInt := by
  rcases Int.lt_or_le x.toInt 0 with h0 | h0
  · exact Or.inl h0
  · rcases Int.lt_or_le (n : Int) x.toInt with h1 | h1
    · exact Or.inr h1
    · exfalso
      refine h x.toInt.toNat (by omega) ?_
      apply Int32.toInt_inj.mp
      rw [nI_toInt (by omega)]
      omega
theorem gas0 {k g : Nat} (h : k ≤ g) : 9 * k + 0 ≤ 9 * g := by omega
theorem gas1 {k d g : Nat} (h : k + d ≤ g) : 9 * k + 9 * d ≤ 9 * g := by omega
theorem gas2 {k g : Nat} (h : k + 1 ≤ g) : 9 * k + 9 ≤ 9 * g := by omega
end
section
def wO (ad : Nat → Nat) (cI cZ : ClassId) (A : SA) (V : SV) : va_W := [(ad 0, .inr (3, [.ref (ad 1), .ref (ad 2), .ref (ad 3), .ref (ad 4), .int (V 4), .int (V 5), .int (V 6), .ref (ad 23), .int (V 7), .ref (ad 24)])), (ad 1, .inr (4, [.ref (ad 5), .int (V 0)])), (ad 2, .inr (0, [.ref (ad 6), .ref (ad 7), .ref (ad 8), .int (V 1)])), (ad 3, .inr (1, [.ref (ad 9), .ref (ad 10), .ref (ad 11), .ref (ad 12), .ref (ad 13), .int (V 2)])), (ad 4, .inr (2, [.ref (ad 14), .ref (ad 15), .ref (ad 16), .ref (ad 17), .ref (ad 18), .ref (ad 19), .ref (ad 20), .ref (ad 21), .ref (ad 22), .int (V 3)])), (ad 5, .inl (cI, 30, .inl (A 0))), (ad 6, .inl (cI, 10, .inl (A 1))), (ad 7, .inl (cI, 10, .inl (A 2))), (ad 8, .inl (cI, 10, .inl (A 3))), (ad 9, .inl (cI, 16, .inl (A 4))), (ad 10, .inl (cI, 16, .inl (A 5))), (ad 11, .inl (cI, 16, .inl (A 6))), (ad 12, .inl (cI, 16, .inl (A 7))), (ad 13, .inl (cI, 16, .inl (A 8))), (ad 14, .inl (cI, 150, .inl (A 9))), (ad 15, .inl (cI, 150, .inl (A 10))), (ad 16, .inl (cI, 150, .inl (A 11))), (ad 17, .inl (cI, 150, .inl (A 12))), (ad 18, .inl (cI, 150, .inl (A 13))), (ad 19, .inl (cI, 150, .inl (A 14))), (ad 20, .inl (cI, 150, .inl (A 15))), (ad 21, .inl (cI, 150, .inl (A 16))), (ad 22, .inl (cI, 150, .inl (A 17))), (ad 23, .inl (cI, 150, .inl (A 18))), (ad 24, .inl (cZ, 150, .inl (A 19)))]
section WO
variable {own : String} {cc : ByteArray} {nL : Nat} {Ts : List Cond} {D : va_G} {p : Program} {l : Launch} {e : Env} {R : Room} {s : State} {m : MethodId} {args : Array Value} {below : List Frame} {meth : Method} {c : Code} {A0 : Nat → Prop} {H : Heap} {locs : List Loc} {cells slots : Nat} {Z : State → Prop} {ad : Nat → Nat} {cI cZ : ClassId} {A : SA} {V : SV} {pc : Nat} {ls : Array Slot} {rest : List Value} {index : Nat}
theorem geO_X3_0 (cx : CX own cc nL Ts D [(cI, .int), (cZ, .boolean)] p s m args c A0) (hin : ∀ w ∈ wsX30, w ∈ Ts) (hlk : Cond.fieldLink own index "DrownedPost$Office" "tides" "LDrownedPost$Tides;" ∈ Ts) (hw : WS D s A0 (wO ad cI cZ A V) H locs) (hd : decode cc pc = .ok (.getfield index, 3)) (kk : W p l e R s m args below meth c H locs cells slots Z (F0 m (pc + 3) ls (.ref (ad 1) :: rest))) : W p l e R s m args below meth c H locs cells slots Z (F0 m pc ls (.ref (ad 0) :: rest)) := geF (C := RX3) (T := TX3) (N := 10) (ci := 3) cx hin rfl 0 (by decide) hlk hw 0 rfl rfl hd kk
theorem geO_X3_1 (cx : CX own cc nL Ts D [(cI, .int), (cZ, .boolean)] p s m args c A0) (hin : ∀ w ∈ wsX30, w ∈ Ts) (hlk : Cond.fieldLink own index "DrownedPost$Office" "bins" "LDrownedPost$Bins;" ∈ Ts) (hw : WS D s A0 (wO ad cI cZ A V) H locs) (hd : decode cc pc = .ok (.getfield index, 3)) (kk : W p l e R s m args below meth c H locs cells slots Z (F0 m (pc + 3) ls (.ref (ad 2) :: rest))) : W p l e R s m args below meth c H locs cells slots Z (F0 m pc ls (.ref (ad 0) :: rest)) := geF (C := RX3) (T := TX3) (N := 10) (ci := 3) cx hin rfl 1 (by decide) hlk hw 0 rfl rfl hd kk
theorem geO_X3_2 (cx : CX own cc nL Ts D [(cI, .int), (cZ, .boolean)] p s m args c A0) (hin : ∀ w ∈ wsX30, w ∈ Ts) (hlk : Cond.fieldLink own index "DrownedPost$Office" "drowned" "LDrownedPost$Drowned;" ∈ Ts) (hw : WS D s A0 (wO ad cI cZ A V) H locs) (hd : decode cc pc = .ok (.getfield index, 3)) (kk : W p l e R s m args below meth c H locs cells slots Z (F0 m (pc + 3) ls (.ref (ad 3) :: rest))) : W p l e R s m args below meth c H locs cells slots Z (F0 m pc ls (.ref (ad 0) :: rest)) := geF (C := RX3) (T := TX3) (N := 10) (ci := 3) cx hin rfl 2 (by decide) hlk hw 0 rfl rfl hd kk
theorem geO_X3_3 (cx : CX own cc nL Ts D [(cI, .int), (cZ, .boolean)] p s m args c A0) (hin : ∀ w ∈ wsX30, w ∈ Ts) (hlk : Cond.fieldLink own index "DrownedPost$Office" "letters" "LDrownedPost$Letters;" ∈ Ts) (hw : WS D s A0 (wO ad cI cZ A V) H locs) (hd : decode cc pc = .ok (.getfield index, 3)) (kk : W p l e R s m args below meth c H locs cells slots Z (F0 m (pc + 3) ls (.ref (ad 4) :: rest))) : W p l e R s m args below meth c H locs cells slots Z (F0 m pc ls (.ref (ad 0) :: rest)) := geF (C := RX3) (T := TX3) (N := 10) (ci := 3) cx hin rfl 3 (by decide) hlk hw 0 rfl rfl hd kk
theorem geO_X3_4 (cx : CX own cc nL Ts D [(cI, .int), (cZ, .boolean)] p s m args c A0) (hin : ∀ w ∈ wsX30, w ∈ Ts) (hlk : Cond.fieldLink own index "DrownedPost$Office" "hour" "I" ∈ Ts) (hw : WS D s A0 (wO ad cI cZ A V) H locs) (hd : decode cc pc = .ok (.getfield index, 3)) (kk : W p l e R s m args below meth c H locs cells slots Z (F0 m (pc + 3) ls (.int (V 4) :: rest))) : W p l e R s m args below meth c H locs cells slots Z (F0 m pc ls (.ref (ad 0) :: rest)) := geF (C := RX3) (T := TX3) (N := 10) (ci := 3) cx hin rfl 4 (by decide) hlk hw 0 rfl rfl hd kk
theorem puO_X3_4 (cx : CX own cc nL Ts D [(cI, .int), (cZ, .boolean)] p s m args c A0) (hin : ∀ w ∈ wsX30, w ∈ Ts) (hlk : Cond.fieldLink own index "DrownedPost$Office" "hour" "I" ∈ Ts) (hw : WS D s A0 (wO ad cI cZ A V) H locs) {v : Int32} (hd : decode cc pc = .ok (.putfield index, 3)) (kk : ∀ V1 : SV, V1 = uv V 4 v → ∀ (H1 : Heap) (locs1 : List Loc), WS D s A0 (wO ad cI cZ A V1) H1 locs1 → W p l e R s m args below meth c H1 locs1 cells slots Z (F0 m (pc + 3) ls (rest))) : W p l e R s m args below meth c H locs cells slots Z (F0 m pc ls (.int v :: .ref (ad 0) :: rest)) := puF (C := RX3) (T := TX3) (N := 10) (ci := 3) cx hin tyX3 tyX3_ok nmX3 rfl 4 (by decide) rfl rfl hlk hw 0 rfl (Nat.le_of_ble_eq_true rfl) (ws1 := wO ad cI cZ A (uv V 4 v)) rfl hd (fun H1 locs1 h => kk _ rfl H1 locs1 h)
theorem geO_X3_5 (cx : CX own cc nL Ts D [(cI, .int), (cZ, .boolean)] p s m args c A0) (hin : ∀ w ∈ wsX30, w ∈ Ts) (hlk : Cond.fieldLink own index "DrownedPost$Office" "scrapers" "I" ∈ Ts) (hw : WS D s A0 (wO ad cI cZ A V) H locs) (hd : decode cc pc = .ok (.getfield index, 3)) (kk : W p l e R s m args below meth c H locs cells slots Z (F0 m (pc + 3) ls (.int (V 5) :: rest))) : W p l e R s m args below meth c H locs cells slots Z (F0 m pc ls (.ref (ad 0) :: rest)) := geF (C := RX3) (T := TX3) (N := 10) (ci := 3) cx hin rfl 5 (by decide) hlk hw 0 rfl rfl hd kk
theorem puO_X3_5 (cx : CX own cc nL Ts D [(cI, .int), (cZ, .boolean)] p s m args c A0) (hin : ∀ w ∈ wsX30, w ∈ Ts) (hlk : Cond.fieldLink own index "DrownedPost$Office" "scrapers" "I" ∈ Ts) (hw : WS D s A0 (wO ad cI cZ A V) H locs) {v : Int32} (hd : decode cc pc = .ok (.putfield index, 3)) (kk : ∀ V1 : SV, V1 = uv V 5 v → ∀ (H1 : Heap) (locs1 : List Loc), WS D s A0 (wO ad cI cZ A V1) H1 locs1 → W p l e R s m args below meth c H1 locs1 cells slots Z (F0 m (pc + 3) ls (rest))) : W p l e R s m args below meth c H locs cells slots Z (F0 m pc ls (.int v :: .ref (ad 0) :: rest)) := puF (C := RX3) (T := TX3) (N := 10) (ci := 3) cx hin tyX3 tyX3_ok nmX3 rfl 5 (by decide) rfl rfl hlk hw 0 rfl (Nat.le_of_ble_eq_true rfl) (ws1 := wO ad cI cZ A (uv V 5 v)) rfl hd (fun H1 locs1 h => kk _ rfl H1 locs1 h)
theorem geO_X3_6 (cx : CX own cc nL Ts D [(cI, .int), (cZ, .boolean)] p s m args c A0) (hin : ∀ w ∈ wsX30, w ∈ Ts) (hlk : Cond.fieldLink own index "DrownedPost$Office" "sorters" "I" ∈ Ts) (hw : WS D s A0 (wO ad cI cZ A V) H locs) (hd : decode cc pc = .ok (.getfield index, 3)) (kk : W p l e R s m args below meth c H locs cells slots Z (F0 m (pc + 3) ls (.int (V 6) :: rest))) : W p l e R s m args below meth c H locs cells slots Z (F0 m pc ls (.ref (ad 0) :: rest)) := geF (C := RX3) (T := TX3) (N := 10) (ci := 3) cx hin rfl 6 (by decide) hlk hw 0 rfl rfl hd kk
theorem puO_X3_6 (cx : CX own cc nL Ts D [(cI, .int), (cZ, .boolean)] p s m args c A0) (hin : ∀ w ∈ wsX30, w ∈ Ts) (hlk : Cond.fieldLink own index "DrownedPost$Office" "sorters" "I" ∈ Ts) (hw : WS D s A0 (wO ad cI cZ A V) H locs) {v : Int32} (hd : decode cc pc = .ok (.putfield index, 3)) (kk : ∀ V1 : SV, V1 = uv V 6 v → ∀ (H1 : Heap) (locs1 : List Loc), WS D s A0 (wO ad cI cZ A V1) H1 locs1 → W p l e R s m args below meth c H1 locs1 cells slots Z (F0 m (pc + 3) ls (rest))) : W p l e R s m args below meth c H locs cells slots Z (F0 m pc ls (.int v :: .ref (ad 0) :: rest)) := puF (C := RX3) (T := TX3) (N := 10) (ci := 3) cx hin tyX3 tyX3_ok nmX3 rfl 6 (by decide) rfl rfl hlk hw 0 rfl (Nat.le_of_ble_eq_true rfl) (ws1 := wO ad cI cZ A (uv V 6 v)) rfl hd (fun H1 locs1 h => kk _ rfl H1 locs1 h)
theorem geO_X3_7 (cx : CX own cc nL Ts D [(cI, .int), (cZ, .boolean)] p s m args c A0) (hin : ∀ w ∈ wsX30, w ∈ Ts) (hlk : Cond.fieldLink own index "DrownedPost$Office" "sunk" "[I" ∈ Ts) (hw : WS D s A0 (wO ad cI cZ A V) H locs) (hd : decode cc pc = .ok (.getfield index, 3)) (kk : W p l e R s m args below meth c H locs cells slots Z (F0 m (pc + 3) ls (.ref (ad 23) :: rest))) : W p l e R s m args below meth c H locs cells slots Z (F0 m pc ls (.ref (ad 0) :: rest)) := geF (C := RX3) (T := TX3) (N := 10) (ci := 3) cx hin rfl 7 (by decide) hlk hw 0 rfl rfl hd kk
theorem geO_X3_8 (cx : CX own cc nL Ts D [(cI, .int), (cZ, .boolean)] p s m args c A0) (hin : ∀ w ∈ wsX30, w ∈ Ts) (hlk : Cond.fieldLink own index "DrownedPost$Office" "sunkCount" "I" ∈ Ts) (hw : WS D s A0 (wO ad cI cZ A V) H locs) (hd : decode cc pc = .ok (.getfield index, 3)) (kk : W p l e R s m args below meth c H locs cells slots Z (F0 m (pc + 3) ls (.int (V 7) :: rest))) : W p l e R s m args below meth c H locs cells slots Z (F0 m pc ls (.ref (ad 0) :: rest)) := geF (C := RX3) (T := TX3) (N := 10) (ci := 3) cx hin rfl 8 (by decide) hlk hw 0 rfl rfl hd kk
theorem puO_X3_8 (cx : CX own cc nL Ts D [(cI, .int), (cZ, .boolean)] p s m args c A0) (hin : ∀ w ∈ wsX30, w ∈ Ts) (hlk : Cond.fieldLink own index "DrownedPost$Office" "sunkCount" "I" ∈ Ts) (hw : WS D s A0 (wO ad cI cZ A V) H locs) {v : Int32} (hd : decode cc pc = .ok (.putfield index, 3)) (kk : ∀ V1 : SV, V1 = uv V 7 v → ∀ (H1 : Heap) (locs1 : List Loc), WS D s A0 (wO ad cI cZ A V1) H1 locs1 → W p l e R s m args below meth c H1 locs1 cells slots Z (F0 m (pc + 3) ls (rest))) : W p l e R s m args below meth c H locs cells slots Z (F0 m pc ls (.int v :: .ref (ad 0) :: rest)) := puF (C := RX3) (T := TX3) (N := 10) (ci := 3) cx hin tyX3 tyX3_ok nmX3 rfl 8 (by decide) rfl rfl hlk hw 0 rfl (Nat.le_of_ble_eq_true rfl) (ws1 := wO ad cI cZ A (uv V 7 v)) rfl hd (fun H1 locs1 h => kk _ rfl H1 locs1 h)
theorem geO_X3_9 (cx : CX own cc nL Ts D [(cI, .int), (cZ, .boolean)] p s m args c A0) (hin : ∀ w ∈ wsX30, w ∈ Ts) (hlk : Cond.fieldLink own index "DrownedPost$Office" "scraped" "[Z" ∈ Ts) (hw : WS D s A0 (wO ad cI cZ A V) H locs) (hd : decode cc pc = .ok (.getfield index, 3)) (kk : W p l e R s m args below meth c H locs cells slots Z (F0 m (pc + 3) ls (.ref (ad 24) :: rest))) : W p l e R s m args below meth c H locs cells slots Z (F0 m pc ls (.ref (ad 0) :: rest)) := geF (C := RX3) (T := TX3) (N := 10) (ci := 3) cx hin rfl 9 (by decide) hlk hw 0 rfl rfl hd kk
theorem geO_X4_0 (cx : CX own cc nL Ts D [(cI, .int), (cZ, .boolean)] p s m args c A0) (hin : ∀ w ∈ wsX40, w ∈ Ts) (hlk : Cond.fieldLink own index "DrownedPost$Tides" "heights" "[I" ∈ Ts) (hw : WS D s A0 (wO ad cI cZ A V) H locs) (hd : decode cc pc = .ok (.getfield index, 3)) (kk : W p l e R s m args below meth c H locs cells slots Z (F0 m (pc + 3) ls (.ref (ad 5) :: rest))) : W p l e R s m args below meth c H locs cells slots Z (F0 m pc ls (.ref (ad 1) :: rest)) := geF (C := RX4) (T := TX4) (N := 2) (ci := 4) cx hin rfl 0 (by decide) hlk hw 1 rfl rfl hd kk
theorem geO_X4_1 (cx : CX own cc nL Ts D [(cI, .int), (cZ, .boolean)] p s m args c A0) (hin : ∀ w ∈ wsX40, w ∈ Ts) (hlk : Cond.fieldLink own index "DrownedPost$Tides" "count" "I" ∈ Ts) (hw : WS D s A0 (wO ad cI cZ A V) H locs) (hd : decode cc pc = .ok (.getfield index, 3)) (kk : W p l e R s m args below meth c H locs cells slots Z (F0 m (pc + 3) ls (.int (V 0) :: rest))) : W p l e R s m args below meth c H locs cells slots Z (F0 m pc ls (.ref (ad 1) :: rest)) := geF (C := RX4) (T := TX4) (N := 2) (ci := 4) cx hin rfl 1 (by decide) hlk hw 1 rfl rfl hd kk
theorem puO_X4_1 (cx : CX own cc nL Ts D [(cI, .int), (cZ, .boolean)] p s m args c A0) (hin : ∀ w ∈ wsX40, w ∈ Ts) (hlk : Cond.fieldLink own index "DrownedPost$Tides" "count" "I" ∈ Ts) (hw : WS D s A0 (wO ad cI cZ A V) H locs) {v : Int32} (hd : decode cc pc = .ok (.putfield index, 3)) (kk : ∀ V1 : SV, V1 = uv V 0 v → ∀ (H1 : Heap) (locs1 : List Loc), WS D s A0 (wO ad cI cZ A V1) H1 locs1 → W p l e R s m args below meth c H1 locs1 cells slots Z (F0 m (pc + 3) ls (rest))) : W p l e R s m args below meth c H locs cells slots Z (F0 m pc ls (.int v :: .ref (ad 1) :: rest)) := puF (C := RX4) (T := TX4) (N := 2) (ci := 4) cx hin tyX4 tyX4_ok nmX4 rfl 1 (by decide) rfl rfl hlk hw 1 rfl (Nat.le_of_ble_eq_true rfl) (ws1 := wO ad cI cZ A (uv V 0 v)) rfl hd (fun H1 locs1 h => kk _ rfl H1 locs1 h)
theorem geO_X0_0 (cx : CX own cc nL Ts D [(cI, .int), (cZ, .boolean)] p s m args c A0) (hin : ∀ w ∈ wsX00, w ∈ Ts) (hlk : Cond.fieldLink own index "DrownedPost$Bins" "height" "[I" ∈ Ts) (hw : WS D s A0 (wO ad cI cZ A V) H locs) (hd : decode cc pc = .ok (.getfield index, 3)) (kk : W p l e R s m args below meth c H locs cells slots Z (F0 m (pc + 3) ls (.ref (ad 6) :: rest))) : W p l e R s m args below meth c H locs cells slots Z (F0 m pc ls (.ref (ad 2) :: rest)) := geF (C := RX0) (T := TX0) (N := 4) (ci := 0) cx hin rfl 0 (by decide) hlk hw 2 rfl rfl hd kk
theorem geO_X0_1 (cx : CX own cc nL Ts D [(cI, .int), (cZ, .boolean)] p s m args c A0) (hin : ∀ w ∈ wsX00, w ∈ Ts) (hlk : Cond.fieldLink own index "DrownedPost$Bins" "room" "[I" ∈ Ts) (hw : WS D s A0 (wO ad cI cZ A V) H locs) (hd : decode cc pc = .ok (.getfield index, 3)) (kk : W p l e R s m args below meth c H locs cells slots Z (F0 m (pc + 3) ls (.ref (ad 7) :: rest))) : W p l e R s m args below meth c H locs cells slots Z (F0 m pc ls (.ref (ad 2) :: rest)) := geF (C := RX0) (T := TX0) (N := 4) (ci := 0) cx hin rfl 1 (by decide) hlk hw 2 rfl rfl hd kk
theorem geO_X0_2 (cx : CX own cc nL Ts D [(cI, .int), (cZ, .boolean)] p s m args c A0) (hin : ∀ w ∈ wsX00, w ∈ Ts) (hlk : Cond.fieldLink own index "DrownedPost$Bins" "filled" "[I" ∈ Ts) (hw : WS D s A0 (wO ad cI cZ A V) H locs) (hd : decode cc pc = .ok (.getfield index, 3)) (kk : W p l e R s m args below meth c H locs cells slots Z (F0 m (pc + 3) ls (.ref (ad 8) :: rest))) : W p l e R s m args below meth c H locs cells slots Z (F0 m pc ls (.ref (ad 2) :: rest)) := geF (C := RX0) (T := TX0) (N := 4) (ci := 0) cx hin rfl 2 (by decide) hlk hw 2 rfl rfl hd kk
theorem geO_X0_3 (cx : CX own cc nL Ts D [(cI, .int), (cZ, .boolean)] p s m args c A0) (hin : ∀ w ∈ wsX00, w ∈ Ts) (hlk : Cond.fieldLink own index "DrownedPost$Bins" "count" "I" ∈ Ts) (hw : WS D s A0 (wO ad cI cZ A V) H locs) (hd : decode cc pc = .ok (.getfield index, 3)) (kk : W p l e R s m args below meth c H locs cells slots Z (F0 m (pc + 3) ls (.int (V 1) :: rest))) : W p l e R s m args below meth c H locs cells slots Z (F0 m pc ls (.ref (ad 2) :: rest)) := geF (C := RX0) (T := TX0) (N := 4) (ci := 0) cx hin rfl 3 (by decide) hlk hw 2 rfl rfl hd kk
theorem puO_X0_3 (cx : CX own cc nL Ts D [(cI, .int), (cZ, .boolean)] p s m args c A0) (hin : ∀ w ∈ wsX00, w ∈ Ts) (hlk : Cond.fieldLink own index "DrownedPost$Bins" "count" "I" ∈ Ts) (hw : WS D s A0 (wO ad cI cZ A V) H locs) {v : Int32} (hd : decode cc pc = .ok (.putfield index, 3)) (kk : ∀ V1 : SV, V1 = uv V 1 v → ∀ (H1 : Heap) (locs1 : List Loc), WS D s A0 (wO ad cI cZ A V1) H1 locs1 → W p l e R s m args below meth c H1 locs1 cells slots Z (F0 m (pc + 3) ls (rest))) : W p l e R s m args below meth c H locs cells slots Z (F0 m pc ls (.int v :: .ref (ad 2) :: rest)) := puF (C := RX0) (T := TX0) (N := 4) (ci := 0) cx hin tyX0 tyX0_ok nmX0 rfl 3 (by decide) rfl rfl hlk hw 2 rfl (Nat.le_of_ble_eq_true rfl) (ws1 := wO ad cI cZ A (uv V 1 v)) rfl hd (fun H1 locs1 h => kk _ rfl H1 locs1 h)
theorem geO_X1_0 (cx : CX own cc nL Ts D [(cI, .int), (cZ, .boolean)] p s m args c A0) (hin : ∀ w ∈ wsX10, w ∈ Ts) (hlk : Cond.fieldLink own index "DrownedPost$Drowned" "height" "[I" ∈ Ts) (hw : WS D s A0 (wO ad cI cZ A V) H locs) (hd : decode cc pc = .ok (.getfield index, 3)) (kk : W p l e R s m args below meth c H locs cells slots Z (F0 m (pc + 3) ls (.ref (ad 9) :: rest))) : W p l e R s m args below meth c H locs cells slots Z (F0 m pc ls (.ref (ad 3) :: rest)) := geF (C := RX1) (T := TX1) (N := 6) (ci := 1) cx hin rfl 0 (by decide) hlk hw 3 rfl rfl hd kk
theorem geO_X1_1 (cx : CX own cc nL Ts D [(cI, .int), (cZ, .boolean)] p s m args c A0) (hin : ∀ w ∈ wsX10, w ∈ Ts) (hlk : Cond.fieldLink own index "DrownedPost$Drowned" "n" "[I" ∈ Ts) (hw : WS D s A0 (wO ad cI cZ A V) H locs) (hd : decode cc pc = .ok (.getfield index, 3)) (kk : W p l e R s m args below meth c H locs cells slots Z (F0 m (pc + 3) ls (.ref (ad 10) :: rest))) : W p l e R s m args below meth c H locs cells slots Z (F0 m pc ls (.ref (ad 3) :: rest)) := geF (C := RX1) (T := TX1) (N := 6) (ci := 1) cx hin rfl 1 (by decide) hlk hw 3 rfl rfl hd kk
theorem geO_X1_2 (cx : CX own cc nL Ts D [(cI, .int), (cZ, .boolean)] p s m args c A0) (hin : ∀ w ∈ wsX10, w ∈ Ts) (hlk : Cond.fieldLink own index "DrownedPost$Drowned" "lag" "[I" ∈ Ts) (hw : WS D s A0 (wO ad cI cZ A V) H locs) (hd : decode cc pc = .ok (.getfield index, 3)) (kk : W p l e R s m args below meth c H locs cells slots Z (F0 m (pc + 3) ls (.ref (ad 11) :: rest))) : W p l e R s m args below meth c H locs cells slots Z (F0 m pc ls (.ref (ad 3) :: rest)) := geF (C := RX1) (T := TX1) (N := 6) (ci := 1) cx hin rfl 2 (by decide) hlk hw 3 rfl rfl hd kk
theorem geO_X1_3 (cx : CX own cc nL Ts D [(cI, .int), (cZ, .boolean)] p s m args c A0) (hin : ∀ w ∈ wsX10, w ∈ Ts) (hlk : Cond.fieldLink own index "DrownedPost$Drowned" "got" "[I" ∈ Ts) (hw : WS D s A0 (wO ad cI cZ A V) H locs) (hd : decode cc pc = .ok (.getfield index, 3)) (kk : W p l e R s m args below meth c H locs cells slots Z (F0 m (pc + 3) ls (.ref (ad 12) :: rest))) : W p l e R s m args below meth c H locs cells slots Z (F0 m pc ls (.ref (ad 3) :: rest)) := geF (C := RX1) (T := TX1) (N := 6) (ci := 1) cx hin rfl 3 (by decide) hlk hw 3 rfl rfl hd kk
theorem geO_X1_4 (cx : CX own cc nL Ts D [(cI, .int), (cZ, .boolean)] p s m args c A0) (hin : ∀ w ∈ wsX10, w ∈ Ts) (hlk : Cond.fieldLink own index "DrownedPost$Drowned" "written" "[I" ∈ Ts) (hw : WS D s A0 (wO ad cI cZ A V) H locs) (hd : decode cc pc = .ok (.getfield index, 3)) (kk : W p l e R s m args below meth c H locs cells slots Z (F0 m (pc + 3) ls (.ref (ad 13) :: rest))) : W p l e R s m args below meth c H locs cells slots Z (F0 m pc ls (.ref (ad 3) :: rest)) := geF (C := RX1) (T := TX1) (N := 6) (ci := 1) cx hin rfl 4 (by decide) hlk hw 3 rfl rfl hd kk
theorem geO_X1_5 (cx : CX own cc nL Ts D [(cI, .int), (cZ, .boolean)] p s m args c A0) (hin : ∀ w ∈ wsX10, w ∈ Ts) (hlk : Cond.fieldLink own index "DrownedPost$Drowned" "count" "I" ∈ Ts) (hw : WS D s A0 (wO ad cI cZ A V) H locs) (hd : decode cc pc = .ok (.getfield index, 3)) (kk : W p l e R s m args below meth c H locs cells slots Z (F0 m (pc + 3) ls (.int (V 2) :: rest))) : W p l e R s m args below meth c H locs cells slots Z (F0 m pc ls (.ref (ad 3) :: rest)) := geF (C := RX1) (T := TX1) (N := 6) (ci := 1) cx hin rfl 5 (by decide) hlk hw 3 rfl rfl hd kk
theorem puO_X1_5 (cx : CX own cc nL Ts D [(cI, .int), (cZ, .boolean)] p s m args c A0) (hin : ∀ w ∈ wsX10, w ∈ Ts) (hlk : Cond.fieldLink own index "DrownedPost$Drowned" "count" "I" ∈ Ts) (hw : WS D s A0 (wO ad cI cZ A V) H locs) {v : Int32} (hd : decode cc pc = .ok (.putfield index, 3)) (kk : ∀ V1 : SV, V1 = uv V 2 v → ∀ (H1 : Heap) (locs1 : List Loc), WS D s A0 (wO ad cI cZ A V1) H1 locs1 → W p l e R s m args below meth c H1 locs1 cells slots Z (F0 m (pc + 3) ls (rest))) : W p l e R s m args below meth c H locs cells slots Z (F0 m pc ls (.int v :: .ref (ad 3) :: rest)) := puF (C := RX1) (T := TX1) (N := 6) (ci := 1) cx hin tyX1 tyX1_ok nmX1 rfl 5 (by decide) rfl rfl hlk hw 3 rfl (Nat.le_of_ble_eq_true rfl) (ws1 := wO ad cI cZ A (uv V 2 v)) rfl hd (fun H1 locs1 h => kk _ rfl H1 locs1 h)
theorem geO_X2_0 (cx : CX own cc nL Ts D [(cI, .int), (cZ, .boolean)] p s m args c A0) (hin : ∀ w ∈ wsX20, w ∈ Ts) (hlk : Cond.fieldLink own index "DrownedPost$Letters" "to" "[I" ∈ Ts) (hw : WS D s A0 (wO ad cI cZ A V) H locs) (hd : decode cc pc = .ok (.getfield index, 3)) (kk : W p l e R s m args below meth c H locs cells slots Z (F0 m (pc + 3) ls (.ref (ad 14) :: rest))) : W p l e R s m args below meth c H locs cells slots Z (F0 m pc ls (.ref (ad 4) :: rest)) := geF (C := RX2) (T := TX2) (N := 10) (ci := 2) cx hin rfl 0 (by decide) hlk hw 4 rfl rfl hd kk
theorem geO_X2_1 (cx : CX own cc nL Ts D [(cI, .int), (cZ, .boolean)] p s m args c A0) (hin : ∀ w ∈ wsX20, w ∈ Ts) (hlk : Cond.fieldLink own index "DrownedPost$Letters" "weight" "[I" ∈ Ts) (hw : WS D s A0 (wO ad cI cZ A V) H locs) (hd : decode cc pc = .ok (.getfield index, 3)) (kk : W p l e R s m args below meth c H locs cells slots Z (F0 m (pc + 3) ls (.ref (ad 15) :: rest))) : W p l e R s m args below meth c H locs cells slots Z (F0 m pc ls (.ref (ad 4) :: rest)) := geF (C := RX2) (T := TX2) (N := 10) (ci := 2) cx hin rfl 1 (by decide) hlk hw 4 rfl rfl hd kk
theorem geO_X2_2 (cx : CX own cc nL Ts D [(cI, .int), (cZ, .boolean)] p s m args c A0) (hin : ∀ w ∈ wsX20, w ∈ Ts) (hlk : Cond.fieldLink own index "DrownedPost$Letters" "seal" "[I" ∈ Ts) (hw : WS D s A0 (wO ad cI cZ A V) H locs) (hd : decode cc pc = .ok (.getfield index, 3)) (kk : W p l e R s m args below meth c H locs cells slots Z (F0 m (pc + 3) ls (.ref (ad 16) :: rest))) : W p l e R s m args below meth c H locs cells slots Z (F0 m pc ls (.ref (ad 4) :: rest)) := geF (C := RX2) (T := TX2) (N := 10) (ci := 2) cx hin rfl 2 (by decide) hlk hw 4 rfl rfl hd kk
theorem geO_X2_3 (cx : CX own cc nL Ts D [(cI, .int), (cZ, .boolean)] p s m args c A0) (hin : ∀ w ∈ wsX20, w ∈ Ts) (hlk : Cond.fieldLink own index "DrownedPost$Letters" "state" "[I" ∈ Ts) (hw : WS D s A0 (wO ad cI cZ A V) H locs) (hd : decode cc pc = .ok (.getfield index, 3)) (kk : W p l e R s m args below meth c H locs cells slots Z (F0 m (pc + 3) ls (.ref (ad 17) :: rest))) : W p l e R s m args below meth c H locs cells slots Z (F0 m pc ls (.ref (ad 4) :: rest)) := geF (C := RX2) (T := TX2) (N := 10) (ci := 2) cx hin rfl 3 (by decide) hlk hw 4 rfl rfl hd kk
theorem geO_X2_4 (cx : CX own cc nL Ts D [(cI, .int), (cZ, .boolean)] p s m args c A0) (hin : ∀ w ∈ wsX20, w ∈ Ts) (hlk : Cond.fieldLink own index "DrownedPost$Letters" "growth" "[I" ∈ Ts) (hw : WS D s A0 (wO ad cI cZ A V) H locs) (hd : decode cc pc = .ok (.getfield index, 3)) (kk : W p l e R s m args below meth c H locs cells slots Z (F0 m (pc + 3) ls (.ref (ad 18) :: rest))) : W p l e R s m args below meth c H locs cells slots Z (F0 m pc ls (.ref (ad 4) :: rest)) := geF (C := RX2) (T := TX2) (N := 10) (ci := 2) cx hin rfl 4 (by decide) hlk hw 4 rfl rfl hd kk
theorem geO_X2_5 (cx : CX own cc nL Ts D [(cI, .int), (cZ, .boolean)] p s m args c A0) (hin : ∀ w ∈ wsX20, w ∈ Ts) (hlk : Cond.fieldLink own index "DrownedPost$Letters" "bin" "[I" ∈ Ts) (hw : WS D s A0 (wO ad cI cZ A V) H locs) (hd : decode cc pc = .ok (.getfield index, 3)) (kk : W p l e R s m args below meth c H locs cells slots Z (F0 m (pc + 3) ls (.ref (ad 19) :: rest))) : W p l e R s m args below meth c H locs cells slots Z (F0 m pc ls (.ref (ad 4) :: rest)) := geF (C := RX2) (T := TX2) (N := 10) (ci := 2) cx hin rfl 5 (by decide) hlk hw 4 rfl rfl hd kk
theorem geO_X2_6 (cx : CX own cc nL Ts D [(cI, .int), (cZ, .boolean)] p s m args c A0) (hin : ∀ w ∈ wsX20, w ∈ Ts) (hlk : Cond.fieldLink own index "DrownedPost$Letters" "held" "[I" ∈ Ts) (hw : WS D s A0 (wO ad cI cZ A V) H locs) (hd : decode cc pc = .ok (.getfield index, 3)) (kk : W p l e R s m args below meth c H locs cells slots Z (F0 m (pc + 3) ls (.ref (ad 20) :: rest))) : W p l e R s m args below meth c H locs cells slots Z (F0 m pc ls (.ref (ad 4) :: rest)) := geF (C := RX2) (T := TX2) (N := 10) (ci := 2) cx hin rfl 6 (by decide) hlk hw 4 rfl rfl hd kk
theorem geO_X2_7 (cx : CX own cc nL Ts D [(cI, .int), (cZ, .boolean)] p s m args c A0) (hin : ∀ w ∈ wsX20, w ∈ Ts) (hlk : Cond.fieldLink own index "DrownedPost$Letters" "hoursBefore" "[I" ∈ Ts) (hw : WS D s A0 (wO ad cI cZ A V) H locs) (hd : decode cc pc = .ok (.getfield index, 3)) (kk : W p l e R s m args below meth c H locs cells slots Z (F0 m (pc + 3) ls (.ref (ad 21) :: rest))) : W p l e R s m args below meth c H locs cells slots Z (F0 m pc ls (.ref (ad 4) :: rest)) := geF (C := RX2) (T := TX2) (N := 10) (ci := 2) cx hin rfl 7 (by decide) hlk hw 4 rfl rfl hd kk
theorem geO_X2_8 (cx : CX own cc nL Ts D [(cI, .int), (cZ, .boolean)] p s m args c A0) (hin : ∀ w ∈ wsX20, w ∈ Ts) (hlk : Cond.fieldLink own index "DrownedPost$Letters" "answered" "[I" ∈ Ts) (hw : WS D s A0 (wO ad cI cZ A V) H locs) (hd : decode cc pc = .ok (.getfield index, 3)) (kk : W p l e R s m args below meth c H locs cells slots Z (F0 m (pc + 3) ls (.ref (ad 22) :: rest))) : W p l e R s m args below meth c H locs cells slots Z (F0 m pc ls (.ref (ad 4) :: rest)) := geF (C := RX2) (T := TX2) (N := 10) (ci := 2) cx hin rfl 8 (by decide) hlk hw 4 rfl rfl hd kk
theorem geO_X2_9 (cx : CX own cc nL Ts D [(cI, .int), (cZ, .boolean)] p s m args c A0) (hin : ∀ w ∈ wsX20, w ∈ Ts) (hlk : Cond.fieldLink own index "DrownedPost$Letters" "count" "I" ∈ Ts) (hw : WS D s A0 (wO ad cI cZ A V) H locs) (hd : decode cc pc = .ok (.getfield index, 3)) (kk : W p l e R s m args below meth c H locs cells slots Z (F0 m (pc + 3) ls (.int (V 3) :: rest))) : W p l e R s m args below meth c H locs cells slots Z (F0 m pc ls (.ref (ad 4) :: rest)) := geF (C := RX2) (T := TX2) (N := 10) (ci := 2) cx hin rfl 9 (by decide) hlk hw 4 rfl rfl hd kk
theorem puO_X2_9 (cx : CX own cc nL Ts D [(cI, .int), (cZ, .boolean)] p s m args c A0) (hin : ∀ w ∈ wsX20, w ∈ Ts) (hlk : Cond.fieldLink own index "DrownedPost$Letters" "count" "I" ∈ Ts) (hw : WS D s A0 (wO ad cI cZ A V) H locs) {v : Int32} (hd : decode cc pc = .ok (.putfield index, 3)) (kk : ∀ V1 : SV, V1 = uv V 3 v → ∀ (H1 : Heap) (locs1 : List Loc), WS D s A0 (wO ad cI cZ A V1) H1 locs1 → W p l e R s m args below meth c H1 locs1 cells slots Z (F0 m (pc + 3) ls (rest))) : W p l e R s m args below meth c H locs cells slots Z (F0 m pc ls (.int v :: .ref (ad 4) :: rest)) := puF (C := RX2) (T := TX2) (N := 10) (ci := 2) cx hin tyX2 tyX2_ok nmX2 rfl 9 (by decide) rfl rfl hlk hw 4 rfl (Nat.le_of_ble_eq_true rfl) (ws1 := wO ad cI cZ A (uv V 3 v)) rfl hd (fun H1 locs1 h => kk _ rfl H1 locs1 h)
theorem alO_0 (cx : CX own cc nL Ts D [(cI, .int), (cZ, .boolean)] p s m args c A0) (hw : WS D s A0 (wO ad cI cZ A V) H locs) {i : Int32} (hin : vp_in i 30) (hd : decode cc pc = .ok (.iaload, 1)) (kk : W p l e R s m args below meth c H locs cells slots Z (F0 m (pc + 1) ls (.int (A 0 i.toNatClampNeg) :: rest))) : W p l e R s m args below meth c H locs cells slots Z (F0 m pc ls (.int i :: .ref (ad 5) :: rest)) := alI cx hw 5 0 rfl rfl hin hd kk
theorem asO_0 (cx : CX own cc nL Ts D [(cI, .int), (cZ, .boolean)] p s m args c A0) (hw : WS D s A0 (wO ad cI cZ A V) H locs) {i x : Int32} (hin : vp_in i 30) (hd : decode cc pc = .ok (.iastore, 1)) (kk : ∀ A1 : SA, A1 = up A 0 i.toNatClampNeg x → ∀ (H1 : Heap) (locs1 : List Loc), WS D s A0 (wO ad cI cZ A1 V) H1 locs1 → W p l e R s m args below meth c H1 locs1 cells slots Z (F0 m (pc + 1) ls (rest))) : W p l e R s m args below meth c H locs cells slots Z (F0 m pc ls (.int x :: .int i :: .ref (ad 5) :: rest)) := asI cx hw 5 0 rfl rfl hin (ws1 := wO ad cI cZ (up A 0 i.toNatClampNeg x) V) rfl hd (fun H1 locs1 h => kk _ rfl H1 locs1 h)
theorem alO_1 (cx : CX own cc nL Ts D [(cI, .int), (cZ, .boolean)] p s m args c A0) (hw : WS D s A0 (wO ad cI cZ A V) H locs) {i : Int32} (hin : vp_in i 10) (hd : decode cc pc = .ok (.iaload, 1)) (kk : W p l e R s m args below meth c H locs cells slots Z (F0 m (pc + 1) ls (.int (A 1 i.toNatClampNeg) :: rest))) : W p l e R s m args below meth c H locs cells slots Z (F0 m pc ls (.int i :: .ref (ad 6) :: rest)) := alI cx hw 6 0 rfl rfl hin hd kk
theorem asO_1 (cx : CX own cc nL Ts D [(cI, .int), (cZ, .boolean)] p s m args c A0) (hw : WS D s A0 (wO ad cI cZ A V) H locs) {i x : Int32} (hin : vp_in i 10) (hd : decode cc pc = .ok (.iastore, 1)) (kk : ∀ A1 : SA, A1 = up A 1 i.toNatClampNeg x → ∀ (H1 : Heap) (locs1 : List Loc), WS D s A0 (wO ad cI cZ A1 V) H1 locs1 → W p l e R s m args below meth c H1 locs1 cells slots Z (F0 m (pc + 1) ls (rest))) : W p l e R s m args below meth c H locs cells slots Z (F0 m pc ls (.int x :: .int i :: .ref (ad 6) :: rest)) := asI cx hw 6 0 rfl rfl hin (ws1 := wO ad cI cZ (up A 1 i.toNatClampNeg x) V) rfl hd (fun H1 locs1 h => kk _ rfl H1 locs1 h)
theorem alO_2 (cx : CX own cc nL Ts D [(cI, .int), (cZ, .boolean)] p s m args c A0) (hw : WS D s A0 (wO ad cI cZ A V) H locs) {i : Int32} (hin : vp_in i 10) (hd : decode cc pc = .ok (.iaload, 1)) (kk : W p l e R s m args below meth c H locs cells slots Z (F0 m (pc + 1) ls (.int (A 2 i.toNatClampNeg) :: rest))) : W p l e R s m args below meth c H locs cells slots Z (F0 m pc ls (.int i :: .ref (ad 7) :: rest)) := alI cx hw 7 0 rfl rfl hin hd kk
theorem asO_2 (cx : CX own cc nL Ts D [(cI, .int), (cZ, .boolean)] p s m args c A0) (hw : WS D s A0 (wO ad cI cZ A V) H locs) {i x : Int32} (hin : vp_in i 10) (hd : decode cc pc = .ok (.iastore, 1)) (kk : ∀ A1 : SA, A1 = up A 2 i.toNatClampNeg x → ∀ (H1 : Heap) (locs1 : List Loc), WS D s A0 (wO ad cI cZ A1 V) H1 locs1 → W p l e R s m args below meth c H1 locs1 cells slots Z (F0 m (pc + 1) ls (rest))) : W p l e R s m args below meth c H locs cells slots Z (F0 m pc ls (.int x :: .int i :: .ref (ad 7) :: rest)) := asI cx hw 7 0 rfl rfl hin (ws1 := wO ad cI cZ (up A 2 i.toNatClampNeg x) V) rfl hd (fun H1 locs1 h => kk _ rfl H1 locs1 h)
theorem alO_3 (cx : CX own cc nL Ts D [(cI, .int), (cZ, .boolean)] p s m args c A0) (hw : WS D s A0 (wO ad cI cZ A V) H locs) {i : Int32} (hin : vp_in i 10) (hd : decode cc pc = .ok (.iaload, 1)) (kk : W p l e R s m args below meth c H locs cells slots Z (F0 m (pc + 1) ls (.int (A 3 i.toNatClampNeg) :: rest))) : W p l e R s m args below meth c H locs cells slots Z (F0 m pc ls (.int i :: .ref (ad 8) :: rest)) := alI cx hw 8 0 rfl rfl hin hd kk
theorem asO_3 (cx : CX own cc nL Ts D [(cI, .int), (cZ, .boolean)] p s m args c A0) (hw : WS D s A0 (wO ad cI cZ A V) H locs) {i x : Int32} (hin : vp_in i 10) (hd : decode cc pc = .ok (.iastore, 1)) (kk : ∀ A1 : SA, A1 = up A 3 i.toNatClampNeg x → ∀ (H1 : Heap) (locs1 : List Loc), WS D s A0 (wO ad cI cZ A1 V) H1 locs1 → W p l e R s m args below meth c H1 locs1 cells slots Z (F0 m (pc + 1) ls (rest))) : W p l e R s m args below meth c H locs cells slots Z (F0 m pc ls (.int x :: .int i :: .ref (ad 8) :: rest)) := asI cx hw 8 0 rfl rfl hin (ws1 := wO ad cI cZ (up A 3 i.toNatClampNeg x) V) rfl hd (fun H1 locs1 h => kk _ rfl H1 locs1 h)
theorem alO_4 (cx : CX own cc nL Ts D [(cI, .int), (cZ, .boolean)] p s m args c A0) (hw : WS D s A0 (wO ad cI cZ A V) H locs) {i : Int32} (hin : vp_in i 16) (hd : decode cc pc = .ok (.iaload, 1)) (kk : W p l e R s m args below meth c H locs cells slots Z (F0 m (pc + 1) ls (.int (A 4 i.toNatClampNeg) :: rest))) : W p l e R s m args below meth c H locs cells slots Z (F0 m pc ls (.int i :: .ref (ad 9) :: rest)) := alI cx hw 9 0 rfl rfl hin hd kk
theorem asO_4 (cx : CX own cc nL Ts D [(cI, .int), (cZ, .boolean)] p s m args c A0) (hw : WS D s A0 (wO ad cI cZ A V) H locs) {i x : Int32} (hin : vp_in i 16) (hd : decode cc pc = .ok (.iastore, 1)) (kk : ∀ A1 : SA, A1 = up A 4 i.toNatClampNeg x → ∀ (H1 : Heap) (locs1 : List Loc), WS D s A0 (wO ad cI cZ A1 V) H1 locs1 → W p l e R s m args below meth c H1 locs1 cells slots Z (F0 m (pc + 1) ls (rest))) : W p l e R s m args below meth c H locs cells slots Z (F0 m pc ls (.int x :: .int i :: .ref (ad 9) :: rest)) := asI cx hw 9 0 rfl rfl hin (ws1 := wO ad cI cZ (up A 4 i.toNatClampNeg x) V) rfl hd (fun H1 locs1 h => kk _ rfl H1 locs1 h)
theorem alO_5 (cx : CX own cc nL Ts D [(cI, .int), (cZ, .boolean)] p s m args c A0) (hw : WS D s A0 (wO ad cI cZ A V) H locs) {i : Int32} (hin : vp_in i 16) (hd : decode cc pc = .ok (.iaload, 1)) (kk : W p l e R s m args below meth c H locs cells slots Z (F0 m (pc + 1) ls (.int (A 5 i.toNatClampNeg) :: rest))) : W p l e R s m args below meth c H locs cells slots Z (F0 m pc ls (.int i :: .ref (ad 10) :: rest)) := alI cx hw 10 0 rfl rfl hin hd kk
theorem asO_5 (cx : CX own cc nL Ts D [(cI, .int), (cZ, .boolean)] p s m args c A0) (hw : WS D s A0 (wO ad cI cZ A V) H locs) {i x : Int32} (hin : vp_in i 16) (hd : decode cc pc = .ok (.iastore, 1)) (kk : ∀ A1 : SA, A1 = up A 5 i.toNatClampNeg x → ∀ (H1 : Heap) (locs1 : List Loc), WS D s A0 (wO ad cI cZ A1 V) H1 locs1 → W p l e R s m args below meth c H1 locs1 cells slots Z (F0 m (pc + 1) ls (rest))) : W p l e R s m args below meth c H locs cells slots Z (F0 m pc ls (.int x :: .int i :: .ref (ad 10) :: rest)) := asI cx hw 10 0 rfl rfl hin (ws1 := wO ad cI cZ (up A 5 i.toNatClampNeg x) V) rfl hd (fun H1 locs1 h => kk _ rfl H1 locs1 h)
theorem alO_6 (cx : CX own cc nL Ts D [(cI, .int), (cZ, .boolean)] p s m args c A0) (hw : WS D s A0 (wO ad cI cZ A V) H locs) {i : Int32} (hin : vp_in i 16) (hd : decode cc pc = .ok (.iaload, 1)) (kk : W p l e R s m args below meth c H locs cells slots Z (F0 m (pc + 1) ls (.int (A 6 i.toNatClampNeg) :: rest))) : W p l e R s m args below meth c H locs cells slots Z (F0 m pc ls (.int i :: .ref (ad 11) :: rest)) := alI cx hw 11 0 rfl rfl hin hd kk
theorem asO_6 (cx : CX own cc nL Ts D [(cI, .int), (cZ, .boolean)] p s m args c A0) (hw : WS D s A0 (wO ad cI cZ A V) H locs) {i x : Int32} (hin : vp_in i 16) (hd : decode cc pc = .ok (.iastore, 1)) (kk : ∀ A1 : SA, A1 = up A 6 i.toNatClampNeg x → ∀ (H1 : Heap) (locs1 : List Loc), WS D s A0 (wO ad cI cZ A1 V) H1 locs1 → W p l e R s m args below meth c H1 locs1 cells slots Z (F0 m (pc + 1) ls (rest))) : W p l e R s m args below meth c H locs cells slots Z (F0 m pc ls (.int x :: .int i :: .ref (ad 11) :: rest)) := asI cx hw 11 0 rfl rfl hin (ws1 := wO ad cI cZ (up A 6 i.toNatClampNeg x) V) rfl hd (fun H1 locs1 h => kk _ rfl H1 locs1 h)
theorem alO_7 (cx : CX own cc nL Ts D [(cI, .int), (cZ, .boolean)] p s m args c A0) (hw : WS D s A0 (wO ad cI cZ A V) H locs) {i : Int32} (hin : vp_in i 16) (hd : decode cc pc = .ok (.iaload, 1)) (kk : W p l e R s m args below meth c H locs cells slots Z (F0 m (pc + 1) ls (.int (A 7 i.toNatClampNeg) :: rest))) : W p l e R s m args below meth c H locs cells slots Z (F0 m pc ls (.int i :: .ref (ad 12) :: rest)) := alI cx hw 12 0 rfl rfl hin hd kk
theorem asO_7 (cx : CX own cc nL Ts D [(cI, .int), (cZ, .boolean)] p s m args c A0) (hw : WS D s A0 (wO ad cI cZ A V) H locs) {i x : Int32} (hin : vp_in i 16) (hd : decode cc pc = .ok (.iastore, 1)) (kk : ∀ A1 : SA, A1 = up A 7 i.toNatClampNeg x → ∀ (H1 : Heap) (locs1 : List Loc), WS D s A0 (wO ad cI cZ A1 V) H1 locs1 → W p l e R s m args below meth c H1 locs1 cells slots Z (F0 m (pc + 1) ls (rest))) : W p l e R s m args below meth c H locs cells slots Z (F0 m pc ls (.int x :: .int i :: .ref (ad 12) :: rest)) := asI cx hw 12 0 rfl rfl hin (ws1 := wO ad cI cZ (up A 7 i.toNatClampNeg x) V) rfl hd (fun H1 locs1 h => kk _ rfl H1 locs1 h)
theorem alO_8 (cx : CX own cc nL Ts D [(cI, .int), (cZ, .boolean)] p s m args c A0) (hw : WS D s A0 (wO ad cI cZ A V) H locs) {i : Int32} (hin : vp_in i 16) (hd : decode cc pc = .ok (.iaload, 1)) (kk : W p l e R s m args below meth c H locs cells slots Z (F0 m (pc + 1) ls (.int (A 8 i.toNatClampNeg) :: rest))) : W p l e R s m args below meth c H locs cells slots Z (F0 m pc ls (.int i :: .ref (ad 13) :: rest)) := alI cx hw 13 0 rfl rfl hin hd kk
theorem asO_8 (cx : CX own cc nL Ts D [(cI, .int), (cZ, .boolean)] p s m args c A0) (hw : WS D s A0 (wO ad cI cZ A V) H locs) {i x : Int32} (hin : vp_in i 16) (hd : decode cc pc = .ok (.iastore, 1)) (kk : ∀ A1 : SA, A1 = up A 8 i.toNatClampNeg x → ∀ (H1 : Heap) (locs1 : List Loc), WS D s A0 (wO ad cI cZ A1 V) H1 locs1 → W p l e R s m args below meth c H1 locs1 cells slots Z (F0 m (pc + 1) ls (rest))) : W p l e R s m args below meth c H locs cells slots Z (F0 m pc ls (.int x :: .int i :: .ref (ad 13) :: rest)) := asI cx hw 13 0 rfl rfl hin (ws1 := wO ad cI cZ (up A 8 i.toNatClampNeg x) V) rfl hd (fun H1 locs1 h => kk _ rfl H1 locs1 h)
theorem alO_9 (cx : CX own cc nL Ts D [(cI, .int), (cZ, .boolean)] p s m args c A0) (hw : WS D s A0 (wO ad cI cZ A V) H locs) {i : Int32} (hin : vp_in i 150) (hd : decode cc pc = .ok (.iaload, 1)) (kk : W p l e R s m args below meth c H locs cells slots Z (F0 m (pc + 1) ls (.int (A 9 i.toNatClampNeg) :: rest))) : W p l e R s m args below meth c H locs cells slots Z (F0 m pc ls (.int i :: .ref (ad 14) :: rest)) := alI cx hw 14 0 rfl rfl hin hd kk
theorem asO_9 (cx : CX own cc nL Ts D [(cI, .int), (cZ, .boolean)] p s m args c A0) (hw : WS D s A0 (wO ad cI cZ A V) H locs) {i x : Int32} (hin : vp_in i 150) (hd : decode cc pc = .ok (.iastore, 1)) (kk : ∀ A1 : SA, A1 = up A 9 i.toNatClampNeg x → ∀ (H1 : Heap) (locs1 : List Loc), WS D s A0 (wO ad cI cZ A1 V) H1 locs1 → W p l e R s m args below meth c H1 locs1 cells slots Z (F0 m (pc + 1) ls (rest))) : W p l e R s m args below meth c H locs cells slots Z (F0 m pc ls (.int x :: .int i :: .ref (ad 14) :: rest)) := asI cx hw 14 0 rfl rfl hin (ws1 := wO ad cI cZ (up A 9 i.toNatClampNeg x) V) rfl hd (fun H1 locs1 h => kk _ rfl H1 locs1 h)
theorem alO_10 (cx : CX own cc nL Ts D [(cI, .int), (cZ, .boolean)] p s m args c A0) (hw : WS D s A0 (wO ad cI cZ A V) H locs) {i : Int32} (hin : vp_in i 150) (hd : decode cc pc = .ok (.iaload, 1)) (kk : W p l e R s m args below meth c H locs cells slots Z (F0 m (pc + 1) ls (.int (A 10 i.toNatClampNeg) :: rest))) : W p l e R s m args below meth c H locs cells slots Z (F0 m pc ls (.int i :: .ref (ad 15) :: rest)) := alI cx hw 15 0 rfl rfl hin hd kk
theorem asO_10 (cx : CX own cc nL Ts D [(cI, .int), (cZ, .boolean)] p s m args c A0) (hw : WS D s A0 (wO ad cI cZ A V) H locs) {i x : Int32} (hin : vp_in i 150) (hd : decode cc pc = .ok (.iastore, 1)) (kk : ∀ A1 : SA, A1 = up A 10 i.toNatClampNeg x → ∀ (H1 : Heap) (locs1 : List Loc), WS D s A0 (wO ad cI cZ A1 V) H1 locs1 → W p l e R s m args below meth c H1 locs1 cells slots Z (F0 m (pc + 1) ls (rest))) : W p l e R s m args below meth c H locs cells slots Z (F0 m pc ls (.int x :: .int i :: .ref (ad 15) :: rest)) := asI cx hw 15 0 rfl rfl hin (ws1 := wO ad cI cZ (up A 10 i.toNatClampNeg x) V) rfl hd (fun H1 locs1 h => kk _ rfl H1 locs1 h)
theorem alO_11 (cx : CX own cc nL Ts D [(cI, .int), (cZ, .boolean)] p s m args c A0) (hw : WS D s A0 (wO ad cI cZ A V) H locs) {i : Int32} (hin : vp_in i 150) (hd : decode cc pc = .ok (.iaload, 1)) (kk : W p l e R s m args below meth c H locs cells slots Z (F0 m (pc + 1) ls (.int (A 11 i.toNatClampNeg) :: rest))) : W p l e R s m args below meth c H locs cells slots Z (F0 m pc ls (.int i :: .ref (ad 16) :: rest)) := alI cx hw 16 0 rfl rfl hin hd kk
theorem asO_11 (cx : CX own cc nL Ts D [(cI, .int), (cZ, .boolean)] p s m args c A0) (hw : WS D s A0 (wO ad cI cZ A V) H locs) {i x : Int32} (hin : vp_in i 150) (hd : decode cc pc = .ok (.iastore, 1)) (kk : ∀ A1 : SA, A1 = up A 11 i.toNatClampNeg x → ∀ (H1 : Heap) (locs1 : List Loc), WS D s A0 (wO ad cI cZ A1 V) H1 locs1 → W p l e R s m args below meth c H1 locs1 cells slots Z (F0 m (pc + 1) ls (rest))) : W p l e R s m args below meth c H locs cells slots Z (F0 m pc ls (.int x :: .int i :: .ref (ad 16) :: rest)) := asI cx hw 16 0 rfl rfl hin (ws1 := wO ad cI cZ (up A 11 i.toNatClampNeg x) V) rfl hd (fun H1 locs1 h => kk _ rfl H1 locs1 h)
theorem alO_12 (cx : CX own cc nL Ts D [(cI, .int), (cZ, .boolean)] p s m args c A0) (hw : WS D s A0 (wO ad cI cZ A V) H locs) {i : Int32} (hin : vp_in i 150) (hd : decode cc pc = .ok (.iaload, 1)) (kk : W p l e R s m args below meth c H locs cells slots Z (F0 m (pc + 1) ls (.int (A 12 i.toNatClampNeg) :: rest))) : W p l e R s m args below meth c H locs cells slots Z (F0 m pc ls (.int i :: .ref (ad 17) :: rest)) := alI cx hw 17 0 rfl rfl hin hd kk
theorem asO_12 (cx : CX own cc nL Ts D [(cI, .int), (cZ, .boolean)] p s m args c A0) (hw : WS D s A0 (wO ad cI cZ A V) H locs) {i x : Int32} (hin : vp_in i 150) (hd : decode cc pc = .ok (.iastore, 1)) (kk : ∀ A1 : SA, A1 = up A 12 i.toNatClampNeg x → ∀ (H1 : Heap) (locs1 : List Loc), WS D s A0 (wO ad cI cZ A1 V) H1 locs1 → W p l e R s m args below meth c H1 locs1 cells slots Z (F0 m (pc + 1) ls (rest))) : W p l e R s m args below meth c H locs cells slots Z (F0 m pc ls (.int x :: .int i :: .ref (ad 17) :: rest)) := asI cx hw 17 0 rfl rfl hin (ws1 := wO ad cI cZ (up A 12 i.toNatClampNeg x) V) rfl hd (fun H1 locs1 h => kk _ rfl H1 locs1 h)
theorem alO_13 (cx : CX own cc nL Ts D [(cI, .int), (cZ, .boolean)] p s m args c A0) (hw : WS D s A0 (wO ad cI cZ A V) H locs) {i : Int32} (hin : vp_in i 150) (hd : decode cc pc = .ok (.iaload, 1)) (kk : W p l e R s m args below meth c H locs cells slots Z (F0 m (pc + 1) ls (.int (A 13 i.toNatClampNeg) :: rest))) : W p l e R s m args below meth c H locs cells slots Z (F0 m pc ls (.int i :: .ref (ad 18) :: rest)) := alI cx hw 18 0 rfl rfl hin hd kk
theorem asO_13 (cx : CX own cc nL Ts D [(cI, .int), (cZ, .boolean)] p s m args c A0) (hw : WS D s A0 (wO ad cI cZ A V) H locs) {i x : Int32} (hin : vp_in i 150) (hd : decode cc pc = .ok (.iastore, 1)) (kk : ∀ A1 : SA, A1 = up A 13 i.toNatClampNeg x → ∀ (H1 : Heap) (locs1 : List Loc), WS D s A0 (wO ad cI cZ A1 V) H1 locs1 → W p l e R s m args below meth c H1 locs1 cells slots Z (F0 m (pc + 1) ls (rest))) : W p l e R s m args below meth c H locs cells slots Z (F0 m pc ls (.int x :: .int i :: .ref (ad 18) :: rest)) := asI cx hw 18 0 rfl rfl hin (ws1 := wO ad cI cZ (up A 13 i.toNatClampNeg x) V) rfl hd (fun H1 locs1 h => kk _ rfl H1 locs1 h)
theorem alO_14 (cx : CX own cc nL Ts D [(cI, .int), (cZ, .boolean)] p s m args c A0) (hw : WS D s A0 (wO ad cI cZ A V) H locs) {i : Int32} (hin : vp_in i 150) (hd : decode cc pc = .ok (.iaload, 1)) (kk : W p l e R s m args below meth c H locs cells slots Z (F0 m (pc + 1) ls (.int (A 14 i.toNatClampNeg) :: rest))) : W p l e R s m args below meth c H locs cells slots Z (F0 m pc ls (.int i :: .ref (ad 19) :: rest)) := alI cx hw 19 0 rfl rfl hin hd kk
theorem asO_14 (cx : CX own cc nL Ts D [(cI, .int), (cZ, .boolean)] p s m args c A0) (hw : WS D s A0 (wO ad cI cZ A V) H locs) {i x : Int32} (hin : vp_in i 150) (hd : decode cc pc = .ok (.iastore, 1)) (kk : ∀ A1 : SA, A1 = up A 14 i.toNatClampNeg x → ∀ (H1 : Heap) (locs1 : List Loc), WS D s A0 (wO ad cI cZ A1 V) H1 locs1 → W p l e R s m args below meth c H1 locs1 cells slots Z (F0 m (pc + 1) ls (rest))) : W p l e R s m args below meth c H locs cells slots Z (F0 m pc ls (.int x :: .int i :: .ref (ad 19) :: rest)) := asI cx hw 19 0 rfl rfl hin (ws1 := wO ad cI cZ (up A 14 i.toNatClampNeg x) V) rfl hd (fun H1 locs1 h => kk _ rfl H1 locs1 h)
theorem alO_15 (cx : CX own cc nL Ts D [(cI, .int), (cZ, .boolean)] p s m args c A0) (hw : WS D s A0 (wO ad cI cZ A V) H locs) {i : Int32} (hin : vp_in i 150) (hd : decode cc pc = .ok (.iaload, 1)) (kk : W p l e R s m args below meth c H locs cells slots Z (F0 m (pc + 1) ls (.int (A 15 i.toNatClampNeg) :: rest))) : W p l e R s m args below meth c H locs cells slots Z (F0 m pc ls (.int i :: .ref (ad 20) :: rest)) := alI cx hw 20 0 rfl rfl hin hd kk
theorem asO_15 (cx : CX own cc nL Ts D [(cI, .int), (cZ, .boolean)] p s m args c A0) (hw : WS D s A0 (wO ad cI cZ A V) H locs) {i x : Int32} (hin : vp_in i 150) (hd : decode cc pc = .ok (.iastore, 1)) (kk : ∀ A1 : SA, A1 = up A 15 i.toNatClampNeg x → ∀ (H1 : Heap) (locs1 : List Loc), WS D s A0 (wO ad cI cZ A1 V) H1 locs1 → W p l e R s m args below meth c H1 locs1 cells slots Z (F0 m (pc + 1) ls (rest))) : W p l e R s m args below meth c H locs cells slots Z (F0 m pc ls (.int x :: .int i :: .ref (ad 20) :: rest)) := asI cx hw 20 0 rfl rfl hin (ws1 := wO ad cI cZ (up A 15 i.toNatClampNeg x) V) rfl hd (fun H1 locs1 h => kk _ rfl H1 locs1 h)
theorem alO_16 (cx : CX own cc nL Ts D [(cI, .int), (cZ, .boolean)] p s m args c A0) (hw : WS D s A0 (wO ad cI cZ A V) H locs) {i : Int32} (hin : vp_in i 150) (hd : decode cc pc = .ok (.iaload, 1)) (kk : W p l e R s m args below meth c H locs cells slots Z (F0 m (pc + 1) ls (.int (A 16 i.toNatClampNeg) :: rest))) : W p l e R s m args below meth c H locs cells slots Z (F0 m pc ls (.int i :: .ref (ad 21) :: rest)) := alI cx hw 21 0 rfl rfl hin hd kk
theorem asO_16 (cx : CX own cc nL Ts D [(cI, .int), (cZ, .boolean)] p s m args c A0) (hw : WS D s A0 (wO ad cI cZ A V) H locs) {i x : Int32} (hin : vp_in i 150) (hd : decode cc pc = .ok (.iastore, 1)) (kk : ∀ A1 : SA, A1 = up A 16 i.toNatClampNeg x → ∀ (H1 : Heap) (locs1 : List Loc), WS D s A0 (wO ad cI cZ A1 V) H1 locs1 → W p l e R s m args below meth c H1 locs1 cells slots Z (F0 m (pc + 1) ls (rest))) : W p l e R s m args below meth c H locs cells slots Z (F0 m pc ls (.int x :: .int i :: .ref (ad 21) :: rest)) := asI cx hw 21 0 rfl rfl hin (ws1 := wO ad cI cZ (up A 16 i.toNatClampNeg x) V) rfl hd (fun H1 locs1 h => kk _ rfl H1 locs1 h)
theorem alO_17 (cx : CX own cc nL Ts D [(cI, .int), (cZ, .boolean)] p s m args c A0) (hw : WS D s A0 (wO ad cI cZ A V) H locs) {i : Int32} (hin : vp_in i 150) (hd : decode cc pc = .ok (.iaload, 1)) (kk : W p l e R s m args below meth c H locs cells slots Z (F0 m (pc + 1) ls (.int (A 17 i.toNatClampNeg) :: rest))) : W p l e R s m args below meth c H locs cells slots Z (F0 m pc ls (.int i :: .ref (ad 22) :: rest)) := alI cx hw 22 0 rfl rfl hin hd kk
theorem asO_17 (cx : CX own cc nL Ts D [(cI, .int), (cZ, .boolean)] p s m args c A0) (hw : WS D s A0 (wO ad cI cZ A V) H locs) {i x : Int32} (hin : vp_in i 150) (hd : decode cc pc = .ok (.iastore, 1)) (kk : ∀ A1 : SA, A1 = up A 17 i.toNatClampNeg x → ∀ (H1 : Heap) (locs1 : List Loc), WS D s A0 (wO ad cI cZ A1 V) H1 locs1 → W p l e R s m args below meth c H1 locs1 cells slots Z (F0 m (pc + 1) ls (rest))) : W p l e R s m args below meth c H locs cells slots Z (F0 m pc ls (.int x :: .int i :: .ref (ad 22) :: rest)) := asI cx hw 22 0 rfl rfl hin (ws1 := wO ad cI cZ (up A 17 i.toNatClampNeg x) V) rfl hd (fun H1 locs1 h => kk _ rfl H1 locs1 h)
theorem alO_18 (cx : CX own cc nL Ts D [(cI, .int), (cZ, .boolean)] p s m args c A0) (hw : WS D s A0 (wO ad cI cZ A V) H locs) {i : Int32} (hin : vp_in i 150) (hd : decode cc pc = .ok (.iaload, 1)) (kk : W p l e R s m args below meth c H locs cells slots Z (F0 m (pc + 1) ls (.int (A 18 i.toNatClampNeg) :: rest))) : W p l e R s m args below meth c H locs cells slots Z (F0 m pc ls (.int i :: .ref (ad 23) :: rest)) := alI cx hw 23 0 rfl rfl hin hd kk
theorem asO_18 (cx : CX own cc nL Ts D [(cI, .int), (cZ, .boolean)] p s m args c A0) (hw : WS D s A0 (wO ad cI cZ A V) H locs) {i x : Int32} (hin : vp_in i 150) (hd : decode cc pc = .ok (.iastore, 1)) (kk : ∀ A1 : SA, A1 = up A 18 i.toNatClampNeg x → ∀ (H1 : Heap) (locs1 : List Loc), WS D s A0 (wO ad cI cZ A1 V) H1 locs1 → W p l e R s m args below meth c H1 locs1 cells slots Z (F0 m (pc + 1) ls (rest))) : W p l e R s m args below meth c H locs cells slots Z (F0 m pc ls (.int x :: .int i :: .ref (ad 23) :: rest)) := asI cx hw 23 0 rfl rfl hin (ws1 := wO ad cI cZ (up A 18 i.toNatClampNeg x) V) rfl hd (fun H1 locs1 h => kk _ rfl H1 locs1 h)
theorem alO_19 (cx : CX own cc nL Ts D [(cI, .int), (cZ, .boolean)] p s m args c A0) (hw : WS D s A0 (wO ad cI cZ A V) H locs) {i : Int32} (hin : vp_in i 150) (hd : decode cc pc = .ok (.baload, 1)) (kk : W p l e R s m args below meth c H locs cells slots Z (F0 m (pc + 1) ls (.int (A 19 i.toNatClampNeg) :: rest))) : W p l e R s m args below meth c H locs cells slots Z (F0 m pc ls (.int i :: .ref (ad 24) :: rest)) := alZ cx hw 24 1 rfl rfl hin hd kk
theorem asO_19 (cx : CX own cc nL Ts D [(cI, .int), (cZ, .boolean)] p s m args c A0) (hw : WS D s A0 (wO ad cI cZ A V) H locs) {i x : Int32} (hin : vp_in i 150) (hd : decode cc pc = .ok (.bastore, 1)) (kk : ∀ A1 : SA, A1 = up A 19 i.toNatClampNeg (vp_nar .boolean x) → ∀ (H1 : Heap) (locs1 : List Loc), WS D s A0 (wO ad cI cZ A1 V) H1 locs1 → W p l e R s m args below meth c H1 locs1 cells slots Z (F0 m (pc + 1) ls (rest))) : W p l e R s m args below meth c H locs cells slots Z (F0 m pc ls (.int x :: .int i :: .ref (ad 24) :: rest)) := asZ cx hw 24 1 rfl rfl hin (ws1 := wO ad cI cZ (up A 19 i.toNatClampNeg (vp_nar .boolean x)) V) rfl hd (fun H1 locs1 h => kk _ rfl H1 locs1 h)
end WO
end
section
section GENV
variable {p : Program} {l : Launch} {e : Env} {s : State} {m : MethodId} {args : Array Value} {below : List Frame} {meth : Method} {c : Code} {A0 : Nat → Prop} {Z : State → Prop} {D : va_G} {cI cZ : ClassId} {ad : Nat → Nat} {tys : TYS}
abbrev rmX0_has : Room := { frames := 0, cells := 0, slots := 0, locals := 0 }
theorem inX0_has_X0 : ∀ w ∈ wsX00, w ∈ wsX0_has := by decide +kernel
theorem kX0_has_21 : Cond.fieldLink RX0 21 "DrownedPost$Bins" "count" "I" ∈ wsX0_has := by decide +kernel
def wb_X0_has_0 (Q : Int32 → SA → SV → Prop) (A : SA) (V : SV) (x1 : Int32) : Prop := ((x1 < 0 → Q (0 : Int32) A V) ∧ (¬ (x1 < 0) → (((V 1) ≤ x1 → Q (0 : Int32) A V) ∧ (¬ ((V 1) ≤ x1) → Q (1 : Int32) A V))))
set_option maxHeartbeats 4000000 in
set_option maxRecDepth 100000 in
theorem wk_X0_has_0 (Q : Int32 → SA → SV → Prop) (cx : CX RX0 cX0_has 2 wsX0_has D [(cI, .int), (cZ, .boolean)] p s m args c A0) (hret : ∀ (pc : Nat) (ls : Array Slot) (r : Int32) (u : SA × SV) (H : Heap) (locs : List Loc), narrow .boolean (.int r) = .int r → decode cX0_has pc = .ok (.ireturn, 1) → Q r u.1 u.2 → WS D s A0 (wO ad cI cZ u.1 u.2) H locs → W p l e rmX0_has s m args below meth c H locs rmX0_has.cells rmX0_has.slots Z (F0 m pc ls [.int r]))  : ∀ (A : SA) (V : SV) (x1 : Int32) (h : wb_X0_has_0 Q A V x1) (H : Heap) (locs : List Loc) (ls : Array Slot) (hw : WS D s A0 (wO ad cI cZ A V) H locs) (hl : lv_has ls 2 [(0, .ref (ad 2)), (1, .int x1)]), W p l e rmX0_has s m args below meth c H locs 0 0 Z (F0 m 0 ls []) := by
  obtain ⟨hx, hb, hml, hown, hts, hK, hA⟩ := id cx
  intro A V x1 h H locs ls hw hl
  refine lv_iload_n (pc := 0) hx hb dX0_has_0 rfl (lv_at hl 1 rfl) ?_
  refine lv_if_lt (pc := 1) (tgt := 16) hx hb dX0_has_1 (by decide) (fun c1 => ?_) (fun c1 => ?_)
  · have h := h.1 c1
    refine lv_iconst (pc := 16) (v := (0 : Int32)) hx hb dX0_has_16 (by decide) ?_
    exact hret 17 _ _ (A, V) _ _ rfl dX0_has_17 h hw
  · have h := h.2 c1
    refine lv_iload_n (pc := 4) hx hb dX0_has_4 rfl (lv_at hl 1 rfl) ?_
    refine lv_aload_n (pc := 5) hx hb dX0_has_5 rfl (lv_at hl 0 rfl) ?_
    refine geO_X0_3 (pc := 6) cx inX0_has_X0 kX0_has_21 hw dX0_has_6 ?_
    refine lv_icmp_ge (pc := 9) (tgt := 16) hx hb dX0_has_9 (by decide) (fun c2 => ?_) (fun c2 => ?_)
    · have h := h.1 c2
      refine lv_iconst (pc := 16) (v := (0 : Int32)) hx hb dX0_has_16 (by decide) ?_
      exact hret 17 _ _ (A, V) _ _ rfl dX0_has_17 h hw
    · have h := h.2 c2
      refine lv_iconst (pc := 12) (v := (1 : Int32)) hx hb dX0_has_12 (by decide) ?_
      refine lv_goto (pc := 13) (tgt := 17) hx hb dX0_has_13 (by decide) ?_
      exact hret 17 _ _ (A, V) _ _ rfl dX0_has_17 h hw
def wpX0_has (A : SA) (V : SV) (x1 : Int32) (Q : Int32 → SA → SV → Prop) : Prop := wb_X0_has_0 Q A V x1
set_option maxHeartbeats 4000000 in
set_option maxRecDepth 100000 in
theorem metX0_has (l : Launch) (D : va_G) (cI cZ : ClassId) (ad : Nat → Nat) (sz : Nat) (A : SA) (V : SV) (x1 : Int32) (Q : Int32 → SA → SV → Prop) (h : wpX0_has A V x1 Q) : Met l yX0_has wsX0_has rmX0_has (PcW D [(cI, .int), (cZ, .boolean)] (wO ad cI cZ A V) sz [.ref (ad 2), .int x1]) (QiW D [(cI, .int), (cZ, .boolean)] (wO ad cI cZ A V) sz (fun u : SA × SV => (wO ad cI cZ u.1 u.2)) (fun r u => Q r u.1 u.2)) rmX0_has.cells rmX0_has.slots (va_A (wO ad cI cZ A V) sz) := by
  refine startI (plainFor_of_name (by decide)) rfl (Nat.le_of_ble_eq_true rfl) ?_
  intro p e s m args below meth c A0 Z cx hw hret ls hl
  exact wk_X0_has_0 Q cx hret A V x1 h _ _ _ hw hl
abbrev rmX0_append : Room := { frames := 0, cells := 0, slots := 0, locals := 0 }
theorem inX0_append_X0 : ∀ w ∈ wsX00, w ∈ wsX0_append := by decide +kernel
theorem kX0_append_15 : Cond.fieldLink RX0 15 "DrownedPost$Bins" "room" "[I" ∈ wsX0_append := by decide +kernel
theorem kX0_append_18 : Cond.fieldLink RX0 18 "DrownedPost$Bins" "filled" "[I" ∈ wsX0_append := by decide +kernel
theorem kX0_append_21 : Cond.fieldLink RX0 21 "DrownedPost$Bins" "count" "I" ∈ wsX0_append := by decide +kernel
theorem kX0_append_9 : Cond.fieldLink RX0 9 "DrownedPost$Bins" "height" "[I" ∈ wsX0_append := by decide +kernel
def wb_X0_append_0 (Q : Int32 → SA → SV → Prop) (A : SA) (V : SV) (x1 : Int32) (x2 : Int32) : Prop := (((V 1) < (10 : Int32) → (vp_in (V 1) 10 ∧ (∀ A2 : SA, A2 = up A 1 (V 1).toNatClampNeg x1 → (vp_in (V 1) 10 ∧ (∀ A3 : SA, A3 = up A2 2 (V 1).toNatClampNeg x2 → (vp_in (V 1) 10 ∧ (∀ A4 : SA, A4 = up A3 3 (V 1).toNatClampNeg (0 : Int32) → (∀ V5 : SV, V5 = uv V 1 ((V 1) + (1 : Int32)) → Q (V 1) A4 V5)))))))) ∧ (¬ ((V 1) < (10 : Int32)) → Q (-1 : Int32) A V))
set_option maxHeartbeats 4000000 in
set_option maxRecDepth 100000 in
theorem wk_X0_append_0 (Q : Int32 → SA → SV → Prop) (cx : CX RX0 cX0_append 4 wsX0_append D [(cI, .int), (cZ, .boolean)] p s m args c A0) (hret : ∀ (pc : Nat) (ls : Array Slot) (r : Int32) (u : SA × SV) (H : Heap) (locs : List Loc), narrow .int (.int r) = .int r → decode cX0_append pc = .ok (.ireturn, 1) → Q r u.1 u.2 → WS D s A0 (wO ad cI cZ u.1 u.2) H locs → W p l e rmX0_append s m args below meth c H locs rmX0_append.cells rmX0_append.slots Z (F0 m pc ls [.int r]))  : ∀ (A : SA) (V : SV) (x1 : Int32) (x2 : Int32) (h : wb_X0_append_0 Q A V x1 x2) (H : Heap) (locs : List Loc) (ls : Array Slot) (hw : WS D s A0 (wO ad cI cZ A V) H locs) (hl : lv_has ls 4 [(0, .ref (ad 2)), (1, .int x1), (2, .int x2)]), W p l e rmX0_append s m args below meth c H locs 0 0 Z (F0 m 0 ls []) := by
  obtain ⟨hx, hb, hml, hown, hts, hK, hA⟩ := id cx
  intro A V x1 x2 h H locs ls hw hl
  refine lv_aload_n (pc := 0) hx hb dX0_append_0 rfl (lv_at hl 0 rfl) ?_
  refine geO_X0_3 (pc := 1) cx inX0_append_X0 kX0_append_21 hw dX0_append_1 ?_
  refine lv_bipush (pc := 4) (v := (10 : Int32)) hx hb dX0_append_4 (by decide) ?_
  refine lv_icmp_lt (pc := 6) (tgt := 11) hx hb dX0_append_6 (by decide) (fun c1 => ?_) (fun c1 => ?_)
  · have h := h.1 c1
    refine lv_aload_n (pc := 11) hx hb dX0_append_11 rfl (lv_at hl 0 rfl) ?_
    refine geO_X0_3 (pc := 12) cx inX0_append_X0 kX0_append_21 hw dX0_append_12 ?_
    refine lv_istore_n (pc := 15) (lv' := [(3, .int (V 1)), (0, .ref (ad 2)), (1, .int x1), (2, .int x2)]) hx hb dX0_append_15 rfl hl (by decide) rfl (fun ls hl => ?_)
    refine lv_aload_n (pc := 16) hx hb dX0_append_16 rfl (lv_at hl 1 rfl) ?_
    refine geO_X0_0 (pc := 17) cx inX0_append_X0 kX0_append_9 hw dX0_append_17 ?_
    refine lv_iload_n (pc := 20) hx hb dX0_append_20 rfl (lv_at hl 0 rfl) ?_
    refine lv_iload_n (pc := 21) hx hb dX0_append_21 rfl (lv_at hl 2 rfl) ?_
    refine asO_1 (pc := 22) cx hw h.1 dX0_append_22 (fun A2 eA2 H locs hw => ?_)
    have h := h.2 A2 eA2
    refine lv_aload_n (pc := 23) hx hb dX0_append_23 rfl (lv_at hl 1 rfl) ?_
    refine geO_X0_1 (pc := 24) cx inX0_append_X0 kX0_append_15 hw dX0_append_24 ?_
    refine lv_iload_n (pc := 27) hx hb dX0_append_27 rfl (lv_at hl 0 rfl) ?_
    refine lv_iload_n (pc := 28) hx hb dX0_append_28 rfl (lv_at hl 3 rfl) ?_
    refine asO_2 (pc := 29) cx hw h.1 dX0_append_29 (fun A3 eA3 H locs hw => ?_)
    have h := h.2 A3 eA3
    refine lv_aload_n (pc := 30) hx hb dX0_append_30 rfl (lv_at hl 1 rfl) ?_
    refine geO_X0_2 (pc := 31) cx inX0_append_X0 kX0_append_18 hw dX0_append_31 ?_
    refine lv_iload_n (pc := 34) hx hb dX0_append_34 rfl (lv_at hl 0 rfl) ?_
    refine lv_iconst (pc := 35) (v := (0 : Int32)) hx hb dX0_append_35 (by decide) ?_
    refine asO_3 (pc := 36) cx hw h.1 dX0_append_36 (fun A4 eA4 H locs hw => ?_)
    have h := h.2 A4 eA4
    refine lv_aload_n (pc := 37) hx hb dX0_append_37 rfl (lv_at hl 1 rfl) ?_
    refine lv_dup (pc := 38) hx hb dX0_append_38 rfl ?_
    refine geO_X0_3 (pc := 39) cx inX0_append_X0 kX0_append_21 hw dX0_append_39 ?_
    refine lv_iconst (pc := 42) (v := (1 : Int32)) hx hb dX0_append_42 (by decide) ?_
    refine lv_iadd (pc := 43) hx hb dX0_append_43 ?_
    refine puO_X0_3 (pc := 44) cx inX0_append_X0 kX0_append_21 hw dX0_append_44 (fun V5 eV5 H locs hw => ?_)
    have h := h V5 eV5
    refine lv_iload_n (pc := 47) hx hb dX0_append_47 rfl (lv_at hl 0 rfl) ?_
    exact hret 48 _ _ (A4, V5) _ _ rfl dX0_append_48 h hw
  · have h := h.2 c1
    refine lv_iconst (pc := 9) (v := (-1 : Int32)) hx hb dX0_append_9 (by decide) ?_
    exact hret 10 _ _ (A, V) _ _ rfl dX0_append_10 h hw
def wpX0_append (A : SA) (V : SV) (x1 : Int32) (x2 : Int32) (Q : Int32 → SA → SV → Prop) : Prop := wb_X0_append_0 Q A V x1 x2
set_option maxHeartbeats 4000000 in
set_option maxRecDepth 100000 in
theorem metX0_append (l : Launch) (D : va_G) (cI cZ : ClassId) (ad : Nat → Nat) (sz : Nat) (A : SA) (V : SV) (x1 : Int32) (x2 : Int32) (Q : Int32 → SA → SV → Prop) (h : wpX0_append A V x1 x2 Q) : Met l yX0_append wsX0_append rmX0_append (PcW D [(cI, .int), (cZ, .boolean)] (wO ad cI cZ A V) sz [.ref (ad 2), .int x1, .int x2]) (QiW D [(cI, .int), (cZ, .boolean)] (wO ad cI cZ A V) sz (fun u : SA × SV => (wO ad cI cZ u.1 u.2)) (fun r u => Q r u.1 u.2)) rmX0_append.cells rmX0_append.slots (va_A (wO ad cI cZ A V) sz) := by
  refine startI (plainFor_of_name (by decide)) rfl (Nat.le_of_ble_eq_true rfl) ?_
  intro p e s m args below meth c A0 Z cx hw hret ls hl
  exact wk_X0_append_0 Q cx hret A V x1 x2 h _ _ _ hw hl
abbrev rmX0_isUnder : Room := { frames := 0, cells := 0, slots := 0, locals := 0 }
theorem inX0_isUnder_X0 : ∀ w ∈ wsX00, w ∈ wsX0_isUnder := by decide +kernel
theorem kX0_isUnder_21 : Cond.fieldLink RX0 21 "DrownedPost$Bins" "count" "I" ∈ wsX0_isUnder := by decide +kernel
theorem kX0_isUnder_9 : Cond.fieldLink RX0 9 "DrownedPost$Bins" "height" "[I" ∈ wsX0_isUnder := by decide +kernel
def wb_X0_isUnder_0 (Q : Int32 → SA → SV → Prop) (A : SA) (V : SV) (x1 : Int32) (x2 : Int32) : Prop := ((x1 < 0 → Q (0 : Int32) A V) ∧ (¬ (x1 < 0) → (((V 1) ≤ x1 → Q (0 : Int32) A V) ∧ (¬ ((V 1) ≤ x1) → (vp_in x1 10 ∧ ((x2 ≤ (A 1 x1.toNatClampNeg) → Q (0 : Int32) A V) ∧ (¬ (x2 ≤ (A 1 x1.toNatClampNeg)) → Q (1 : Int32) A V)))))))
set_option maxHeartbeats 4000000 in
set_option maxRecDepth 100000 in
theorem wk_X0_isUnder_0 (Q : Int32 → SA → SV → Prop) (cx : CX RX0 cX0_isUnder 3 wsX0_isUnder D [(cI, .int), (cZ, .boolean)] p s m args c A0) (hret : ∀ (pc : Nat) (ls : Array Slot) (r : Int32) (u : SA × SV) (H : Heap) (locs : List Loc), narrow .boolean (.int r) = .int r → decode cX0_isUnder pc = .ok (.ireturn, 1) → Q r u.1 u.2 → WS D s A0 (wO ad cI cZ u.1 u.2) H locs → W p l e rmX0_isUnder s m args below meth c H locs rmX0_isUnder.cells rmX0_isUnder.slots Z (F0 m pc ls [.int r]))  : ∀ (A : SA) (V : SV) (x1 : Int32) (x2 : Int32) (h : wb_X0_isUnder_0 Q A V x1 x2) (H : Heap) (locs : List Loc) (ls : Array Slot) (hw : WS D s A0 (wO ad cI cZ A V) H locs) (hl : lv_has ls 3 [(0, .ref (ad 2)), (1, .int x1), (2, .int x2)]), W p l e rmX0_isUnder s m args below meth c H locs 0 0 Z (F0 m 0 ls []) := by
  obtain ⟨hx, hb, hml, hown, hts, hK, hA⟩ := id cx
  intro A V x1 x2 h H locs ls hw hl
  refine lv_iload_n (pc := 0) hx hb dX0_isUnder_0 rfl (lv_at hl 1 rfl) ?_
  refine lv_if_lt (pc := 1) (tgt := 26) hx hb dX0_isUnder_1 (by decide) (fun c1 => ?_) (fun c1 => ?_)
  · have h := h.1 c1
    refine lv_iconst (pc := 26) (v := (0 : Int32)) hx hb dX0_isUnder_26 (by decide) ?_
    exact hret 27 _ _ (A, V) _ _ rfl dX0_isUnder_27 h hw
  · have h := h.2 c1
    refine lv_iload_n (pc := 4) hx hb dX0_isUnder_4 rfl (lv_at hl 1 rfl) ?_
    refine lv_aload_n (pc := 5) hx hb dX0_isUnder_5 rfl (lv_at hl 0 rfl) ?_
    refine geO_X0_3 (pc := 6) cx inX0_isUnder_X0 kX0_isUnder_21 hw dX0_isUnder_6 ?_
    refine lv_icmp_ge (pc := 9) (tgt := 26) hx hb dX0_isUnder_9 (by decide) (fun c2 => ?_) (fun c2 => ?_)
    · have h := h.1 c2
      refine lv_iconst (pc := 26) (v := (0 : Int32)) hx hb dX0_isUnder_26 (by decide) ?_
      exact hret 27 _ _ (A, V) _ _ rfl dX0_isUnder_27 h hw
    · have h := h.2 c2
      refine lv_iload_n (pc := 12) hx hb dX0_isUnder_12 rfl (lv_at hl 2 rfl) ?_
      refine lv_aload_n (pc := 13) hx hb dX0_isUnder_13 rfl (lv_at hl 0 rfl) ?_
      refine geO_X0_0 (pc := 14) cx inX0_isUnder_X0 kX0_isUnder_9 hw dX0_isUnder_14 ?_
      refine lv_iload_n (pc := 17) hx hb dX0_isUnder_17 rfl (lv_at hl 1 rfl) ?_
      refine alO_1 (pc := 18) cx hw h.1 dX0_isUnder_18 ?_
      have h := h.2
      refine lv_icmp_le (pc := 19) (tgt := 26) hx hb dX0_isUnder_19 (by decide) (fun c3 => ?_) (fun c3 => ?_)
      · have h := h.1 c3
        refine lv_iconst (pc := 26) (v := (0 : Int32)) hx hb dX0_isUnder_26 (by decide) ?_
        exact hret 27 _ _ (A, V) _ _ rfl dX0_isUnder_27 h hw
      · have h := h.2 c3
        refine lv_iconst (pc := 22) (v := (1 : Int32)) hx hb dX0_isUnder_22 (by decide) ?_
        refine lv_goto (pc := 23) (tgt := 27) hx hb dX0_isUnder_23 (by decide) ?_
        exact hret 27 _ _ (A, V) _ _ rfl dX0_isUnder_27 h hw
def wpX0_isUnder (A : SA) (V : SV) (x1 : Int32) (x2 : Int32) (Q : Int32 → SA → SV → Prop) : Prop := wb_X0_isUnder_0 Q A V x1 x2
set_option maxHeartbeats 4000000 in
set_option maxRecDepth 100000 in
theorem metX0_isUnder (l : Launch) (D : va_G) (cI cZ : ClassId) (ad : Nat → Nat) (sz : Nat) (A : SA) (V : SV) (x1 : Int32) (x2 : Int32) (Q : Int32 → SA → SV → Prop) (h : wpX0_isUnder A V x1 x2 Q) : Met l yX0_isUnder wsX0_isUnder rmX0_isUnder (PcW D [(cI, .int), (cZ, .boolean)] (wO ad cI cZ A V) sz [.ref (ad 2), .int x1, .int x2]) (QiW D [(cI, .int), (cZ, .boolean)] (wO ad cI cZ A V) sz (fun u : SA × SV => (wO ad cI cZ u.1 u.2)) (fun r u => Q r u.1 u.2)) rmX0_isUnder.cells rmX0_isUnder.slots (va_A (wO ad cI cZ A V) sz) := by
  refine startI (plainFor_of_name (by decide)) rfl (Nat.le_of_ble_eq_true rfl) ?_
  intro p e s m args below meth c A0 Z cx hw hret ls hl
  exact wk_X0_isUnder_0 Q cx hret A V x1 x2 h _ _ _ hw hl
abbrev rmX0_isNearer : Room := { frames := 1, cells := 0, slots := 0, locals := 80 }
theorem inX0_isNearer_X0 : ∀ w ∈ wsX00, w ∈ wsX0_isNearer := by decide +kernel
theorem kX0_isNearer_29 : Cond.methodLink RX0 29 Lib.Math.abs.name ∈ wsX0_isNearer := by decide +kernel
theorem kX0_isNearer_9 : Cond.fieldLink RX0 9 "DrownedPost$Bins" "height" "[I" ∈ wsX0_isNearer := by decide +kernel
theorem kX0_isNearer_w_code_Lib_Math_abs_name_Lib_Math_abs_code_1__some__int_ : Cond.code Lib.Math.abs.name Lib.Math.abs.code 1 (some .int) ∈ wsX0_isNearer := by decide +kernel
theorem kX0_isNearer_w_initialized__java_lang_Math_ : Cond.initialized "java/lang/Math" ∈ wsX0_isNearer := by decide +kernel
theorem kX0_isNearer_w_static_Lib_Math_abs_name : Cond.static Lib.Math.abs.name ∈ wsX0_isNearer := by decide +kernel
def wb_X0_isNearer_0 (Q : Int32 → SA → SV → Prop) (A : SA) (V : SV) (x1 : Int32) (x2 : Int32) (x3 : Int32) : Prop := (vp_in x1 10 ∧ (vp_in x2 10 ∧ (((if 0 ≤ (A 1 x1.toNatClampNeg) - x3 then (A 1 x1.toNatClampNeg) - x3 else 0 - ((A 1 x1.toNatClampNeg) - x3)) < (if 0 ≤ (A 1 x2.toNatClampNeg) - x3 then (A 1 x2.toNatClampNeg) - x3 else 0 - ((A 1 x2.toNatClampNeg) - x3)) → Q (1 : Int32) A V) ∧ (¬ ((if 0 ≤ (A 1 x1.toNatClampNeg) - x3 then (A 1 x1.toNatClampNeg) - x3 else 0 - ((A 1 x1.toNatClampNeg) - x3)) < (if 0 ≤ (A 1 x2.toNatClampNeg) - x3 then (A 1 x2.toNatClampNeg) - x3 else 0 - ((A 1 x2.toNatClampNeg) - x3))) → ((¬ (if 0 ≤ (A 1 x1.toNatClampNeg) - x3 then (A 1 x1.toNatClampNeg) - x3 else 0 - ((A 1 x1.toNatClampNeg) - x3)) = (if 0 ≤ (A 1 x2.toNatClampNeg) - x3 then (A 1 x2.toNatClampNeg) - x3 else 0 - ((A 1 x2.toNatClampNeg) - x3)) → Q (0 : Int32) A V) ∧ ((if 0 ≤ (A 1 x1.toNatClampNeg) - x3 then (A 1 x1.toNatClampNeg) - x3 else 0 - ((A 1 x1.toNatClampNeg) - x3)) = (if 0 ≤ (A 1 x2.toNatClampNeg) - x3 then (A 1 x2.toNatClampNeg) - x3 else 0 - ((A 1 x2.toNatClampNeg) - x3)) → (vp_in x1 10 ∧ (vp_in x2 10 ∧ (((A 1 x2.toNatClampNeg) ≤ (A 1 x1.toNatClampNeg) → Q (0 : Int32) A V) ∧ (¬ ((A 1 x2.toNatClampNeg) ≤ (A 1 x1.toNatClampNeg)) → Q (1 : Int32) A V))))))))))
set_option maxHeartbeats 4000000 in
set_option maxRecDepth 100000 in
theorem wk_X0_isNearer_0 (Q : Int32 → SA → SV → Prop) (cx : CX RX0 cX0_isNearer 6 wsX0_isNearer D [(cI, .int), (cZ, .boolean)] p s m args c A0) (hret : ∀ (pc : Nat) (ls : Array Slot) (r : Int32) (u : SA × SV) (H : Heap) (locs : List Loc), narrow .boolean (.int r) = .int r → decode cX0_isNearer pc = .ok (.ireturn, 1) → Q r u.1 u.2 → WS D s A0 (wO ad cI cZ u.1 u.2) H locs → W p l e rmX0_isNearer s m args below meth c H locs rmX0_isNearer.cells rmX0_isNearer.slots Z (F0 m pc ls [.int r]))  : ∀ (A : SA) (V : SV) (x1 : Int32) (x2 : Int32) (x3 : Int32) (h : wb_X0_isNearer_0 Q A V x1 x2 x3) (H : Heap) (locs : List Loc) (ls : Array Slot) (hw : WS D s A0 (wO ad cI cZ A V) H locs) (hl : lv_has ls 6 [(0, .ref (ad 2)), (1, .int x1), (2, .int x2), (3, .int x3)]), W p l e rmX0_isNearer s m args below meth c H locs 0 0 Z (F0 m 0 ls []) := by
  obtain ⟨hx, hb, hml, hown, hts, hK, hA⟩ := id cx
  intro A V x1 x2 x3 h H locs ls hw hl
  refine lv_aload_n (pc := 0) hx hb dX0_isNearer_0 rfl (lv_at hl 0 rfl) ?_
  refine geO_X0_0 (pc := 1) cx inX0_isNearer_X0 kX0_isNearer_9 hw dX0_isNearer_1 ?_
  refine lv_iload_n (pc := 4) hx hb dX0_isNearer_4 rfl (lv_at hl 1 rfl) ?_
  refine alO_1 (pc := 5) cx hw h.1 dX0_isNearer_5 ?_
  have h := h.2
  refine lv_iload_n (pc := 6) hx hb dX0_isNearer_6 rfl (lv_at hl 3 rfl) ?_
  refine lv_isub (pc := 7) hx hb dX0_isNearer_7 ?_
  refine va_mabs (pc := 8) hx hb (hml.trans hl.1.symm) hown (hts _ kX0_isNearer_29) (hts _ kX0_isNearer_w_static_Lib_Math_abs_name) (hts _ kX0_isNearer_w_initialized__java_lang_Math_) (hts _ kX0_isNearer_w_code_Lib_Math_abs_name_Lib_Math_abs_code_1__some__int_) (Nat.le_of_ble_eq_true rfl) (Nat.le_of_ble_eq_true rfl) (Nat.le_of_ble_eq_true rfl) (Nat.le_of_ble_eq_true rfl) dX0_isNearer_8 ?_
  refine lv_istore (pc := 11) (lv' := [(4, .int (if 0 ≤ (A 1 x1.toNatClampNeg) - x3 then (A 1 x1.toNatClampNeg) - x3 else 0 - ((A 1 x1.toNatClampNeg) - x3))), (0, .ref (ad 2)), (1, .int x1), (2, .int x2), (3, .int x3)]) hx hb dX0_isNearer_11 hl (by decide) rfl (fun ls hl => ?_)
  refine lv_aload_n (pc := 13) hx hb dX0_isNearer_13 rfl (lv_at hl 1 rfl) ?_
  refine geO_X0_0 (pc := 14) cx inX0_isNearer_X0 kX0_isNearer_9 hw dX0_isNearer_14 ?_
  refine lv_iload_n (pc := 17) hx hb dX0_isNearer_17 rfl (lv_at hl 3 rfl) ?_
  refine alO_1 (pc := 18) cx hw h.1 dX0_isNearer_18 ?_
  have h := h.2
  refine lv_iload_n (pc := 19) hx hb dX0_isNearer_19 rfl (lv_at hl 4 rfl) ?_
  refine lv_isub (pc := 20) hx hb dX0_isNearer_20 ?_
  refine va_mabs (pc := 21) hx hb (hml.trans hl.1.symm) hown (hts _ kX0_isNearer_29) (hts _ kX0_isNearer_w_static_Lib_Math_abs_name) (hts _ kX0_isNearer_w_initialized__java_lang_Math_) (hts _ kX0_isNearer_w_code_Lib_Math_abs_name_Lib_Math_abs_code_1__some__int_) (Nat.le_of_ble_eq_true rfl) (Nat.le_of_ble_eq_true rfl) (Nat.le_of_ble_eq_true rfl) (Nat.le_of_ble_eq_true rfl) dX0_isNearer_21 ?_
  refine lv_istore (pc := 24) (lv' := [(5, .int (if 0 ≤ (A 1 x2.toNatClampNeg) - x3 then (A 1 x2.toNatClampNeg) - x3 else 0 - ((A 1 x2.toNatClampNeg) - x3))), (4, .int (if 0 ≤ (A 1 x1.toNatClampNeg) - x3 then (A 1 x1.toNatClampNeg) - x3 else 0 - ((A 1 x1.toNatClampNeg) - x3))), (0, .ref (ad 2)), (1, .int x1), (2, .int x2), (3, .int x3)]) hx hb dX0_isNearer_24 hl (by decide) rfl (fun ls hl => ?_)
  refine lv_iload (pc := 26) hx hb dX0_isNearer_26 (lv_at hl 1 rfl) ?_
  refine lv_iload (pc := 28) hx hb dX0_isNearer_28 (lv_at hl 0 rfl) ?_
  refine lv_icmp_lt (pc := 30) (tgt := 55) hx hb dX0_isNearer_30 (by decide) (fun c1 => ?_) (fun c1 => ?_)
  · have h := h.1 c1
    refine lv_iconst (pc := 55) (v := (1 : Int32)) hx hb dX0_isNearer_55 (by decide) ?_
    refine lv_goto (pc := 56) (tgt := 60) hx hb dX0_isNearer_56 (by decide) ?_
    exact hret 60 _ _ (A, V) _ _ rfl dX0_isNearer_60 h hw
  · have h := h.2 c1
    refine lv_iload (pc := 33) hx hb dX0_isNearer_33 (lv_at hl 1 rfl) ?_
    refine lv_iload (pc := 35) hx hb dX0_isNearer_35 (lv_at hl 0 rfl) ?_
    refine lv_icmp_ne (pc := 37) (tgt := 59) hx hb dX0_isNearer_37 (by decide) (fun c2 => ?_) (fun c2 => ?_)
    · have h := h.1 c2
      refine lv_iconst (pc := 59) (v := (0 : Int32)) hx hb dX0_isNearer_59 (by decide) ?_
      exact hret 60 _ _ (A, V) _ _ rfl dX0_isNearer_60 h hw
    · have h := h.2 c2
      refine lv_aload_n (pc := 40) hx hb dX0_isNearer_40 rfl (lv_at hl 2 rfl) ?_
      refine geO_X0_0 (pc := 41) cx inX0_isNearer_X0 kX0_isNearer_9 hw dX0_isNearer_41 ?_
      refine lv_iload_n (pc := 44) hx hb dX0_isNearer_44 rfl (lv_at hl 3 rfl) ?_
      refine alO_1 (pc := 45) cx hw h.1 dX0_isNearer_45 ?_
      have h := h.2
      refine lv_aload_n (pc := 46) hx hb dX0_isNearer_46 rfl (lv_at hl 2 rfl) ?_
      refine geO_X0_0 (pc := 47) cx inX0_isNearer_X0 kX0_isNearer_9 hw dX0_isNearer_47 ?_
      refine lv_iload_n (pc := 50) hx hb dX0_isNearer_50 rfl (lv_at hl 4 rfl) ?_
      refine alO_1 (pc := 51) cx hw h.1 dX0_isNearer_51 ?_
      have h := h.2
      refine lv_icmp_ge (pc := 52) (tgt := 59) hx hb dX0_isNearer_52 (by decide) (fun c3 => ?_) (fun c3 => ?_)
      · have h := h.1 c3
        refine lv_iconst (pc := 59) (v := (0 : Int32)) hx hb dX0_isNearer_59 (by decide) ?_
        exact hret 60 _ _ (A, V) _ _ rfl dX0_isNearer_60 h hw
      · have h := h.2 c3
        refine lv_iconst (pc := 55) (v := (1 : Int32)) hx hb dX0_isNearer_55 (by decide) ?_
        refine lv_goto (pc := 56) (tgt := 60) hx hb dX0_isNearer_56 (by decide) ?_
        exact hret 60 _ _ (A, V) _ _ rfl dX0_isNearer_60 h hw
def wpX0_isNearer (A : SA) (V : SV) (x1 : Int32) (x2 : Int32) (x3 : Int32) (Q : Int32 → SA → SV → Prop) : Prop := wb_X0_isNearer_0 Q A V x1 x2 x3
set_option maxHeartbeats 4000000 in
set_option maxRecDepth 100000 in
theorem metX0_isNearer (l : Launch) (D : va_G) (cI cZ : ClassId) (ad : Nat → Nat) (sz : Nat) (A : SA) (V : SV) (x1 : Int32) (x2 : Int32) (x3 : Int32) (Q : Int32 → SA → SV → Prop) (h : wpX0_isNearer A V x1 x2 x3 Q) : Met l yX0_isNearer wsX0_isNearer rmX0_isNearer (PcW D [(cI, .int), (cZ, .boolean)] (wO ad cI cZ A V) sz [.ref (ad 2), .int x1, .int x2, .int x3]) (QiW D [(cI, .int), (cZ, .boolean)] (wO ad cI cZ A V) sz (fun u : SA × SV => (wO ad cI cZ u.1 u.2)) (fun r u => Q r u.1 u.2)) rmX0_isNearer.cells rmX0_isNearer.slots (va_A (wO ad cI cZ A V) sz) := by
  refine startI (plainFor_of_name (by decide)) rfl (Nat.le_of_ble_eq_true rfl) ?_
  intro p e s m args below meth c A0 Z cx hw hret ls hl
  exact wk_X0_isNearer_0 Q cx hret A V x1 x2 x3 h _ _ _ hw hl
abbrev rmX0_nearestWithRoom : Room := { frames := 2, cells := 0, slots := 0, locals := 105 }
theorem inX0_nearestWithRoom_X0 : ∀ w ∈ wsX00, w ∈ wsX0_nearestWithRoom := by decide +kernel
theorem kX0_nearestWithRoom_15 : Cond.fieldLink RX0 15 "DrownedPost$Bins" "room" "[I" ∈ wsX0_nearestWithRoom := by decide +kernel
theorem kX0_nearestWithRoom_18 : Cond.fieldLink RX0 18 "DrownedPost$Bins" "filled" "[I" ∈ wsX0_nearestWithRoom := by decide +kernel
theorem kX0_nearestWithRoom_21 : Cond.fieldLink RX0 21 "DrownedPost$Bins" "count" "I" ∈ wsX0_nearestWithRoom := by decide +kernel
def wl_X0_nearestWithRoom_4 (Q : Int32 → SA → SV → Prop) : Nat → SA → SV → Int32 → Int32 → Int32 → Prop
  | 0, _, _, _, _, _ => False
  | n + 1, A, V, x1, x2, x3 => (((V 1) ≤ x3 → Q x2 A V) ∧ (¬ ((V 1) ≤ x3) → (vp_in x3 10 ∧ (vp_in x3 10 ∧ (((A 2 x3.toNatClampNeg) ≤ (A 3 x3.toNatClampNeg) → wl_X0_nearestWithRoom_4 Q n A V x1 x2 (x3 + 1)) ∧ (¬ ((A 2 x3.toNatClampNeg) ≤ (A 3 x3.toNatClampNeg)) → ((x2 = (-1 : Int32) → wl_X0_nearestWithRoom_4 Q n A V x1 x3 (x3 + 1)) ∧ (¬ (x2 = (-1 : Int32)) → (wpX0_isNearer A V x3 x2 x1 (fun r4 A5 V6 => ((r4 = 0 → wl_X0_nearestWithRoom_4 Q n A5 V6 x1 x2 (x3 + 1)) ∧ (¬ (r4 = 0) → wl_X0_nearestWithRoom_4 Q n A5 V6 x1 x3 (x3 + 1)))))))))))))
set_option maxHeartbeats 4000000 in
set_option maxRecDepth 100000 in
theorem wk_X0_nearestWithRoom_4 (Q : Int32 → SA → SV → Prop) (cx : CX RX0 cX0_nearestWithRoom 4 wsX0_nearestWithRoom D [(cI, .int), (cZ, .boolean)] p s m args c A0) (hret : ∀ (pc : Nat) (ls : Array Slot) (r : Int32) (u : SA × SV) (H : Heap) (locs : List Loc), narrow .int (.int r) = .int r → decode cX0_nearestWithRoom pc = .ok (.ireturn, 1) → Q r u.1 u.2 → WS D s A0 (wO ad cI cZ u.1 u.2) H locs → W p l e rmX0_nearestWithRoom s m args below meth c H locs rmX0_nearestWithRoom.cells rmX0_nearestWithRoom.slots Z (F0 m pc ls [.int r]))  : ∀ (n : Nat) (A : SA) (V : SV) (x1 : Int32) (x2 : Int32) (x3 : Int32) (h : wl_X0_nearestWithRoom_4 Q n A V x1 x2 x3) (H : Heap) (locs : List Loc) (ls : Array Slot) (hw : WS D s A0 (wO ad cI cZ A V) H locs) (hl : lv_has ls 4 [(0, .ref (ad 2)), (1, .int x1), (2, .int x2), (3, .int x3)]), W p l e rmX0_nearestWithRoom s m args below meth c H locs 0 0 Z (F0 m 4 ls []) := by
  obtain ⟨hx, hb, hml, hown, hts, hK, hA⟩ := id cx
  intro n
  induction n with
  | zero => intro A V x1 x2 x3 h; exact False.elim h
  | succ n ih =>
    intro A V x1 x2 x3 h H locs ls hw hl
    refine lv_iload_n (pc := 4) hx hb dX0_nearestWithRoom_4 rfl (lv_at hl 3 rfl) ?_
    refine lv_aload_n (pc := 5) hx hb dX0_nearestWithRoom_5 rfl (lv_at hl 0 rfl) ?_
    refine geO_X0_3 (pc := 6) cx inX0_nearestWithRoom_X0 kX0_nearestWithRoom_21 hw dX0_nearestWithRoom_6 ?_
    refine lv_icmp_ge (pc := 9) (tgt := 50) hx hb dX0_nearestWithRoom_9 (by decide) (fun c1 => ?_) (fun c1 => ?_)
    · have h := h.1 c1
      refine lv_iload_n (pc := 50) hx hb dX0_nearestWithRoom_50 rfl (lv_at hl 2 rfl) ?_
      exact hret 51 _ _ (A, V) _ _ rfl dX0_nearestWithRoom_51 h hw
    · have h := h.2 c1
      refine lv_aload_n (pc := 12) hx hb dX0_nearestWithRoom_12 rfl (lv_at hl 0 rfl) ?_
      refine geO_X0_2 (pc := 13) cx inX0_nearestWithRoom_X0 kX0_nearestWithRoom_18 hw dX0_nearestWithRoom_13 ?_
      refine lv_iload_n (pc := 16) hx hb dX0_nearestWithRoom_16 rfl (lv_at hl 3 rfl) ?_
      refine alO_3 (pc := 17) cx hw h.1 dX0_nearestWithRoom_17 ?_
      have h := h.2
      refine lv_aload_n (pc := 18) hx hb dX0_nearestWithRoom_18 rfl (lv_at hl 0 rfl) ?_
      refine geO_X0_1 (pc := 19) cx inX0_nearestWithRoom_X0 kX0_nearestWithRoom_15 hw dX0_nearestWithRoom_19 ?_
      refine lv_iload_n (pc := 22) hx hb dX0_nearestWithRoom_22 rfl (lv_at hl 3 rfl) ?_
      refine alO_2 (pc := 23) cx hw h.1 dX0_nearestWithRoom_23 ?_
      have h := h.2
      refine lv_icmp_ge (pc := 24) (tgt := 44) hx hb dX0_nearestWithRoom_24 (by decide) (fun c2 => ?_) (fun c2 => ?_)
      · have h := h.1 c2
        refine lv_iinc (pc := 44) (v := x3 + 1) (lv' := [(3, .int (x3 + 1)), (0, .ref (ad 2)), (1, .int x1), (2, .int x2)]) hx hb dX0_nearestWithRoom_44 hl (k := 3) rfl rfl (by decide) rfl (fun ls hl => ?_)
        refine lv_goto (pc := 47) (tgt := 4) hx hb dX0_nearestWithRoom_47 (by decide) ?_
        exact ih A V x1 x2 (x3 + 1) h _ _ _ hw (lv_sub hl [1, 2, 3, 0] rfl)
      · have h := h.2 c2
        refine lv_iload_n (pc := 27) hx hb dX0_nearestWithRoom_27 rfl (lv_at hl 2 rfl) ?_
        refine lv_iconst (pc := 28) (v := (-1 : Int32)) hx hb dX0_nearestWithRoom_28 (by decide) ?_
        refine lv_icmp_eq (pc := 29) (tgt := 42) hx hb dX0_nearestWithRoom_29 (by decide) (fun c3 => ?_) (fun c3 => ?_)
        · have h := h.1 c3
          refine lv_iload_n (pc := 42) hx hb dX0_nearestWithRoom_42 rfl (lv_at hl 3 rfl) ?_
          refine lv_istore_n (pc := 43) (lv' := [(2, .int x3), (0, .ref (ad 2)), (1, .int x1), (3, .int x3)]) hx hb dX0_nearestWithRoom_43 rfl hl (by decide) rfl (fun ls hl => ?_)
          refine lv_iinc (pc := 44) (v := x3 + 1) (lv' := [(3, .int (x3 + 1)), (2, .int x3), (0, .ref (ad 2)), (1, .int x1)]) hx hb dX0_nearestWithRoom_44 hl (k := 3) rfl rfl (by decide) rfl (fun ls hl => ?_)
          refine lv_goto (pc := 47) (tgt := 4) hx hb dX0_nearestWithRoom_47 (by decide) ?_
          exact ih A V x1 x3 (x3 + 1) h _ _ _ hw (lv_sub hl [2, 3, 1, 0] rfl)
        · have h := h.2 c3
          refine lv_aload_n (pc := 32) hx hb dX0_nearestWithRoom_32 rfl (lv_at hl 0 rfl) ?_
          refine lv_iload_n (pc := 33) hx hb dX0_nearestWithRoom_33 rfl (lv_at hl 3 rfl) ?_
          refine lv_iload_n (pc := 34) hx hb dX0_nearestWithRoom_34 rfl (lv_at hl 2 rfl) ?_
          refine lv_iload_n (pc := 35) hx hb dX0_nearestWithRoom_35 rfl (lv_at hl 1 rfl) ?_
          refine callVi (pc := 36) (rest := []) (c1 := 0) (s1 := 0) cx hw hl (metX0_isNearer l D cI cZ ad H.size A V x3 x2 x1 _ h) (fun hts => cwV 3 hts gX0_nearestWithRoom_X0_isNearer rfl rfl rfl (by decide +kernel) ⟨Nat.le_of_ble_eq_true rfl, Nat.le_of_ble_eq_true rfl⟩) SUB.rf [0, 1] rfl 2 (ci := 0) rfl rfl rfl (JN.rf) rfl rfl (Nat.le_of_ble_eq_true rfl) ⟨Nat.le_of_ble_eq_true rfl, Nat.le_of_ble_eq_true rfl⟩ rfl rfl dX0_nearestWithRoom_36 (fun r4 u H locs h hw => ?_)
          obtain ⟨A5, V6⟩ := u
          refine lv_if_eq (pc := 39) (tgt := 44) hx hb dX0_nearestWithRoom_39 (by decide) (fun c7 => ?_) (fun c7 => ?_)
          · have h := h.1 c7
            refine lv_iinc (pc := 44) (v := x3 + 1) (lv' := [(3, .int (x3 + 1)), (0, .ref (ad 2)), (1, .int x1), (2, .int x2)]) hx hb dX0_nearestWithRoom_44 hl (k := 3) rfl rfl (by decide) rfl (fun ls hl => ?_)
            refine lv_goto (pc := 47) (tgt := 4) hx hb dX0_nearestWithRoom_47 (by decide) ?_
            exact ih A5 V6 x1 x2 (x3 + 1) h _ _ _ hw (lv_sub hl [1, 2, 3, 0] rfl)
          · have h := h.2 c7
            refine lv_iload_n (pc := 42) hx hb dX0_nearestWithRoom_42 rfl (lv_at hl 3 rfl) ?_
            refine lv_istore_n (pc := 43) (lv' := [(2, .int x3), (0, .ref (ad 2)), (1, .int x1), (3, .int x3)]) hx hb dX0_nearestWithRoom_43 rfl hl (by decide) rfl (fun ls hl => ?_)
            refine lv_iinc (pc := 44) (v := x3 + 1) (lv' := [(3, .int (x3 + 1)), (2, .int x3), (0, .ref (ad 2)), (1, .int x1)]) hx hb dX0_nearestWithRoom_44 hl (k := 3) rfl rfl (by decide) rfl (fun ls hl => ?_)
            refine lv_goto (pc := 47) (tgt := 4) hx hb dX0_nearestWithRoom_47 (by decide) ?_
            exact ih A5 V6 x1 x3 (x3 + 1) h _ _ _ hw (lv_sub hl [2, 3, 1, 0] rfl)
def wb_X0_nearestWithRoom_0 (Q : Int32 → SA → SV → Prop) (A : SA) (V : SV) (x1 : Int32) : Prop := (∃ n4 : Nat, wl_X0_nearestWithRoom_4 Q n4 A V x1 (-1 : Int32) (0 : Int32))
set_option maxHeartbeats 4000000 in
set_option maxRecDepth 100000 in
theorem wk_X0_nearestWithRoom_0 (Q : Int32 → SA → SV → Prop) (cx : CX RX0 cX0_nearestWithRoom 4 wsX0_nearestWithRoom D [(cI, .int), (cZ, .boolean)] p s m args c A0) (hret : ∀ (pc : Nat) (ls : Array Slot) (r : Int32) (u : SA × SV) (H : Heap) (locs : List Loc), narrow .int (.int r) = .int r → decode cX0_nearestWithRoom pc = .ok (.ireturn, 1) → Q r u.1 u.2 → WS D s A0 (wO ad cI cZ u.1 u.2) H locs → W p l e rmX0_nearestWithRoom s m args below meth c H locs rmX0_nearestWithRoom.cells rmX0_nearestWithRoom.slots Z (F0 m pc ls [.int r]))  : ∀ (A : SA) (V : SV) (x1 : Int32) (h : wb_X0_nearestWithRoom_0 Q A V x1) (H : Heap) (locs : List Loc) (ls : Array Slot) (hw : WS D s A0 (wO ad cI cZ A V) H locs) (hl : lv_has ls 4 [(0, .ref (ad 2)), (1, .int x1)]), W p l e rmX0_nearestWithRoom s m args below meth c H locs 0 0 Z (F0 m 0 ls []) := by
  obtain ⟨hx, hb, hml, hown, hts, hK, hA⟩ := id cx
  intro A V x1 h H locs ls hw hl
  refine lv_iconst (pc := 0) (v := (-1 : Int32)) hx hb dX0_nearestWithRoom_0 (by decide) ?_
  refine lv_istore_n (pc := 1) (lv' := [(2, .int (-1 : Int32)), (0, .ref (ad 2)), (1, .int x1)]) hx hb dX0_nearestWithRoom_1 rfl hl (by decide) rfl (fun ls hl => ?_)
  refine lv_iconst (pc := 2) (v := (0 : Int32)) hx hb dX0_nearestWithRoom_2 (by decide) ?_
  refine lv_istore_n (pc := 3) (lv' := [(3, .int (0 : Int32)), (2, .int (-1 : Int32)), (0, .ref (ad 2)), (1, .int x1)]) hx hb dX0_nearestWithRoom_3 rfl hl (by decide) rfl (fun ls hl => ?_)
  obtain ⟨n4, h⟩ := h
  exact wk_X0_nearestWithRoom_4 Q cx hret  n4 A V x1 (-1 : Int32) (0 : Int32) h _ _ _ hw (lv_sub hl [2, 3, 1, 0] rfl)
def wpX0_nearestWithRoom (A : SA) (V : SV) (x1 : Int32) (Q : Int32 → SA → SV → Prop) : Prop := wb_X0_nearestWithRoom_0 Q A V x1
set_option maxHeartbeats 4000000 in
set_option maxRecDepth 100000 in
theorem metX0_nearestWithRoom (l : Launch) (D : va_G) (cI cZ : ClassId) (ad : Nat → Nat) (sz : Nat) (A : SA) (V : SV) (x1 : Int32) (Q : Int32 → SA → SV → Prop) (h : wpX0_nearestWithRoom A V x1 Q) : Met l yX0_nearestWithRoom wsX0_nearestWithRoom rmX0_nearestWithRoom (PcW D [(cI, .int), (cZ, .boolean)] (wO ad cI cZ A V) sz [.ref (ad 2), .int x1]) (QiW D [(cI, .int), (cZ, .boolean)] (wO ad cI cZ A V) sz (fun u : SA × SV => (wO ad cI cZ u.1 u.2)) (fun r u => Q r u.1 u.2)) rmX0_nearestWithRoom.cells rmX0_nearestWithRoom.slots (va_A (wO ad cI cZ A V) sz) := by
  refine startI (plainFor_of_name (by decide)) rfl (Nat.le_of_ble_eq_true rfl) ?_
  intro p e s m args below meth c A0 Z cx hw hret ls hl
  exact wk_X0_nearestWithRoom_0 Q cx hret A V x1 h _ _ _ hw hl
abbrev rmX1_has : Room := { frames := 0, cells := 0, slots := 0, locals := 0 }
theorem inX1_has_X1 : ∀ w ∈ wsX10, w ∈ wsX1_has := by decide +kernel
theorem kX1_has_27 : Cond.fieldLink RX1 27 "DrownedPost$Drowned" "count" "I" ∈ wsX1_has := by decide +kernel
def wb_X1_has_0 (Q : Int32 → SA → SV → Prop) (A : SA) (V : SV) (x1 : Int32) : Prop := ((x1 < 0 → Q (0 : Int32) A V) ∧ (¬ (x1 < 0) → (((V 2) ≤ x1 → Q (0 : Int32) A V) ∧ (¬ ((V 2) ≤ x1) → Q (1 : Int32) A V))))
set_option maxHeartbeats 4000000 in
set_option maxRecDepth 100000 in
theorem wk_X1_has_0 (Q : Int32 → SA → SV → Prop) (cx : CX RX1 cX1_has 2 wsX1_has D [(cI, .int), (cZ, .boolean)] p s m args c A0) (hret : ∀ (pc : Nat) (ls : Array Slot) (r : Int32) (u : SA × SV) (H : Heap) (locs : List Loc), narrow .boolean (.int r) = .int r → decode cX1_has pc = .ok (.ireturn, 1) → Q r u.1 u.2 → WS D s A0 (wO ad cI cZ u.1 u.2) H locs → W p l e rmX1_has s m args below meth c H locs rmX1_has.cells rmX1_has.slots Z (F0 m pc ls [.int r]))  : ∀ (A : SA) (V : SV) (x1 : Int32) (h : wb_X1_has_0 Q A V x1) (H : Heap) (locs : List Loc) (ls : Array Slot) (hw : WS D s A0 (wO ad cI cZ A V) H locs) (hl : lv_has ls 2 [(0, .ref (ad 3)), (1, .int x1)]), W p l e rmX1_has s m args below meth c H locs 0 0 Z (F0 m 0 ls []) := by
  obtain ⟨hx, hb, hml, hown, hts, hK, hA⟩ := id cx
  intro A V x1 h H locs ls hw hl
  refine lv_iload_n (pc := 0) hx hb dX1_has_0 rfl (lv_at hl 1 rfl) ?_
  refine lv_if_lt (pc := 1) (tgt := 16) hx hb dX1_has_1 (by decide) (fun c1 => ?_) (fun c1 => ?_)
  · have h := h.1 c1
    refine lv_iconst (pc := 16) (v := (0 : Int32)) hx hb dX1_has_16 (by decide) ?_
    exact hret 17 _ _ (A, V) _ _ rfl dX1_has_17 h hw
  · have h := h.2 c1
    refine lv_iload_n (pc := 4) hx hb dX1_has_4 rfl (lv_at hl 1 rfl) ?_
    refine lv_aload_n (pc := 5) hx hb dX1_has_5 rfl (lv_at hl 0 rfl) ?_
    refine geO_X1_5 (pc := 6) cx inX1_has_X1 kX1_has_27 hw dX1_has_6 ?_
    refine lv_icmp_ge (pc := 9) (tgt := 16) hx hb dX1_has_9 (by decide) (fun c2 => ?_) (fun c2 => ?_)
    · have h := h.1 c2
      refine lv_iconst (pc := 16) (v := (0 : Int32)) hx hb dX1_has_16 (by decide) ?_
      exact hret 17 _ _ (A, V) _ _ rfl dX1_has_17 h hw
    · have h := h.2 c2
      refine lv_iconst (pc := 12) (v := (1 : Int32)) hx hb dX1_has_12 (by decide) ?_
      refine lv_goto (pc := 13) (tgt := 17) hx hb dX1_has_13 (by decide) ?_
      exact hret 17 _ _ (A, V) _ _ rfl dX1_has_17 h hw
def wpX1_has (A : SA) (V : SV) (x1 : Int32) (Q : Int32 → SA → SV → Prop) : Prop := wb_X1_has_0 Q A V x1
set_option maxHeartbeats 4000000 in
set_option maxRecDepth 100000 in
theorem metX1_has (l : Launch) (D : va_G) (cI cZ : ClassId) (ad : Nat → Nat) (sz : Nat) (A : SA) (V : SV) (x1 : Int32) (Q : Int32 → SA → SV → Prop) (h : wpX1_has A V x1 Q) : Met l yX1_has wsX1_has rmX1_has (PcW D [(cI, .int), (cZ, .boolean)] (wO ad cI cZ A V) sz [.ref (ad 3), .int x1]) (QiW D [(cI, .int), (cZ, .boolean)] (wO ad cI cZ A V) sz (fun u : SA × SV => (wO ad cI cZ u.1 u.2)) (fun r u => Q r u.1 u.2)) rmX1_has.cells rmX1_has.slots (va_A (wO ad cI cZ A V) sz) := by
  refine startI (plainFor_of_name (by decide)) rfl (Nat.le_of_ble_eq_true rfl) ?_
  intro p e s m args below meth c A0 Z cx hw hret ls hl
  exact wk_X1_has_0 Q cx hret A V x1 h _ _ _ hw hl
abbrev rmX1_append : Room := { frames := 0, cells := 0, slots := 0, locals := 0 }
theorem inX1_append_X1 : ∀ w ∈ wsX10, w ∈ wsX1_append := by decide +kernel
theorem kX1_append_15 : Cond.fieldLink RX1 15 "DrownedPost$Drowned" "n" "[I" ∈ wsX1_append := by decide +kernel
theorem kX1_append_18 : Cond.fieldLink RX1 18 "DrownedPost$Drowned" "lag" "[I" ∈ wsX1_append := by decide +kernel
theorem kX1_append_21 : Cond.fieldLink RX1 21 "DrownedPost$Drowned" "got" "[I" ∈ wsX1_append := by decide +kernel
theorem kX1_append_24 : Cond.fieldLink RX1 24 "DrownedPost$Drowned" "written" "[I" ∈ wsX1_append := by decide +kernel
theorem kX1_append_27 : Cond.fieldLink RX1 27 "DrownedPost$Drowned" "count" "I" ∈ wsX1_append := by decide +kernel
theorem kX1_append_9 : Cond.fieldLink RX1 9 "DrownedPost$Drowned" "height" "[I" ∈ wsX1_append := by decide +kernel
def wb_X1_append_0 (Q : Int32 → SA → SV → Prop) (A : SA) (V : SV) (x1 : Int32) (x2 : Int32) (x3 : Int32) : Prop := (((V 2) < (16 : Int32) → (vp_in (V 2) 16 ∧ (∀ A2 : SA, A2 = up A 4 (V 2).toNatClampNeg x1 → (vp_in (V 2) 16 ∧ (∀ A3 : SA, A3 = up A2 5 (V 2).toNatClampNeg x2 → (vp_in (V 2) 16 ∧ (∀ A4 : SA, A4 = up A3 6 (V 2).toNatClampNeg x3 → (vp_in (V 2) 16 ∧ (∀ A5 : SA, A5 = up A4 7 (V 2).toNatClampNeg (0 : Int32) → (vp_in (V 2) 16 ∧ (∀ A6 : SA, A6 = up A5 8 (V 2).toNatClampNeg (0 : Int32) → (∀ V7 : SV, V7 = uv V 2 ((V 2) + (1 : Int32)) → Q (V 2) A6 V7)))))))))))) ∧ (¬ ((V 2) < (16 : Int32)) → Q (-1 : Int32) A V))
set_option maxHeartbeats 4000000 in
set_option maxRecDepth 100000 in
theorem wk_X1_append_0 (Q : Int32 → SA → SV → Prop) (cx : CX RX1 cX1_append 5 wsX1_append D [(cI, .int), (cZ, .boolean)] p s m args c A0) (hret : ∀ (pc : Nat) (ls : Array Slot) (r : Int32) (u : SA × SV) (H : Heap) (locs : List Loc), narrow .int (.int r) = .int r → decode cX1_append pc = .ok (.ireturn, 1) → Q r u.1 u.2 → WS D s A0 (wO ad cI cZ u.1 u.2) H locs → W p l e rmX1_append s m args below meth c H locs rmX1_append.cells rmX1_append.slots Z (F0 m pc ls [.int r]))  : ∀ (A : SA) (V : SV) (x1 : Int32) (x2 : Int32) (x3 : Int32) (h : wb_X1_append_0 Q A V x1 x2 x3) (H : Heap) (locs : List Loc) (ls : Array Slot) (hw : WS D s A0 (wO ad cI cZ A V) H locs) (hl : lv_has ls 5 [(0, .ref (ad 3)), (1, .int x1), (2, .int x2), (3, .int x3)]), W p l e rmX1_append s m args below meth c H locs 0 0 Z (F0 m 0 ls []) := by
  obtain ⟨hx, hb, hml, hown, hts, hK, hA⟩ := id cx
  intro A V x1 x2 x3 h H locs ls hw hl
  refine lv_aload_n (pc := 0) hx hb dX1_append_0 rfl (lv_at hl 0 rfl) ?_
  refine geO_X1_5 (pc := 1) cx inX1_append_X1 kX1_append_27 hw dX1_append_1 ?_
  refine lv_bipush (pc := 4) (v := (16 : Int32)) hx hb dX1_append_4 (by decide) ?_
  refine lv_icmp_lt (pc := 6) (tgt := 11) hx hb dX1_append_6 (by decide) (fun c1 => ?_) (fun c1 => ?_)
  · have h := h.1 c1
    refine lv_aload_n (pc := 11) hx hb dX1_append_11 rfl (lv_at hl 0 rfl) ?_
    refine geO_X1_5 (pc := 12) cx inX1_append_X1 kX1_append_27 hw dX1_append_12 ?_
    refine lv_istore (pc := 15) (lv' := [(4, .int (V 2)), (0, .ref (ad 3)), (1, .int x1), (2, .int x2), (3, .int x3)]) hx hb dX1_append_15 hl (by decide) rfl (fun ls hl => ?_)
    refine lv_aload_n (pc := 17) hx hb dX1_append_17 rfl (lv_at hl 1 rfl) ?_
    refine geO_X1_0 (pc := 18) cx inX1_append_X1 kX1_append_9 hw dX1_append_18 ?_
    refine lv_iload (pc := 21) hx hb dX1_append_21 (lv_at hl 0 rfl) ?_
    refine lv_iload_n (pc := 23) hx hb dX1_append_23 rfl (lv_at hl 2 rfl) ?_
    refine asO_4 (pc := 24) cx hw h.1 dX1_append_24 (fun A2 eA2 H locs hw => ?_)
    have h := h.2 A2 eA2
    refine lv_aload_n (pc := 25) hx hb dX1_append_25 rfl (lv_at hl 1 rfl) ?_
    refine geO_X1_1 (pc := 26) cx inX1_append_X1 kX1_append_15 hw dX1_append_26 ?_
    refine lv_iload (pc := 29) hx hb dX1_append_29 (lv_at hl 0 rfl) ?_
    refine lv_iload_n (pc := 31) hx hb dX1_append_31 rfl (lv_at hl 3 rfl) ?_
    refine asO_5 (pc := 32) cx hw h.1 dX1_append_32 (fun A3 eA3 H locs hw => ?_)
    have h := h.2 A3 eA3
    refine lv_aload_n (pc := 33) hx hb dX1_append_33 rfl (lv_at hl 1 rfl) ?_
    refine geO_X1_2 (pc := 34) cx inX1_append_X1 kX1_append_18 hw dX1_append_34 ?_
    refine lv_iload (pc := 37) hx hb dX1_append_37 (lv_at hl 0 rfl) ?_
    refine lv_iload_n (pc := 39) hx hb dX1_append_39 rfl (lv_at hl 4 rfl) ?_
    refine asO_6 (pc := 40) cx hw h.1 dX1_append_40 (fun A4 eA4 H locs hw => ?_)
    have h := h.2 A4 eA4
    refine lv_aload_n (pc := 41) hx hb dX1_append_41 rfl (lv_at hl 1 rfl) ?_
    refine geO_X1_3 (pc := 42) cx inX1_append_X1 kX1_append_21 hw dX1_append_42 ?_
    refine lv_iload (pc := 45) hx hb dX1_append_45 (lv_at hl 0 rfl) ?_
    refine lv_iconst (pc := 47) (v := (0 : Int32)) hx hb dX1_append_47 (by decide) ?_
    refine asO_7 (pc := 48) cx hw h.1 dX1_append_48 (fun A5 eA5 H locs hw => ?_)
    have h := h.2 A5 eA5
    refine lv_aload_n (pc := 49) hx hb dX1_append_49 rfl (lv_at hl 1 rfl) ?_
    refine geO_X1_4 (pc := 50) cx inX1_append_X1 kX1_append_24 hw dX1_append_50 ?_
    refine lv_iload (pc := 53) hx hb dX1_append_53 (lv_at hl 0 rfl) ?_
    refine lv_iconst (pc := 55) (v := (0 : Int32)) hx hb dX1_append_55 (by decide) ?_
    refine asO_8 (pc := 56) cx hw h.1 dX1_append_56 (fun A6 eA6 H locs hw => ?_)
    have h := h.2 A6 eA6
    refine lv_aload_n (pc := 57) hx hb dX1_append_57 rfl (lv_at hl 1 rfl) ?_
    refine lv_dup (pc := 58) hx hb dX1_append_58 rfl ?_
    refine geO_X1_5 (pc := 59) cx inX1_append_X1 kX1_append_27 hw dX1_append_59 ?_
    refine lv_iconst (pc := 62) (v := (1 : Int32)) hx hb dX1_append_62 (by decide) ?_
    refine lv_iadd (pc := 63) hx hb dX1_append_63 ?_
    refine puO_X1_5 (pc := 64) cx inX1_append_X1 kX1_append_27 hw dX1_append_64 (fun V7 eV7 H locs hw => ?_)
    have h := h V7 eV7
    refine lv_iload (pc := 67) hx hb dX1_append_67 (lv_at hl 0 rfl) ?_
    exact hret 69 _ _ (A6, V7) _ _ rfl dX1_append_69 h hw
  · have h := h.2 c1
    refine lv_iconst (pc := 9) (v := (-1 : Int32)) hx hb dX1_append_9 (by decide) ?_
    exact hret 10 _ _ (A, V) _ _ rfl dX1_append_10 h hw
def wpX1_append (A : SA) (V : SV) (x1 : Int32) (x2 : Int32) (x3 : Int32) (Q : Int32 → SA → SV → Prop) : Prop := wb_X1_append_0 Q A V x1 x2 x3
set_option maxHeartbeats 4000000 in
set_option maxRecDepth 100000 in
theorem metX1_append (l : Launch) (D : va_G) (cI cZ : ClassId) (ad : Nat → Nat) (sz : Nat) (A : SA) (V : SV) (x1 : Int32) (x2 : Int32) (x3 : Int32) (Q : Int32 → SA → SV → Prop) (h : wpX1_append A V x1 x2 x3 Q) : Met l yX1_append wsX1_append rmX1_append (PcW D [(cI, .int), (cZ, .boolean)] (wO ad cI cZ A V) sz [.ref (ad 3), .int x1, .int x2, .int x3]) (QiW D [(cI, .int), (cZ, .boolean)] (wO ad cI cZ A V) sz (fun u : SA × SV => (wO ad cI cZ u.1 u.2)) (fun r u => Q r u.1 u.2)) rmX1_append.cells rmX1_append.slots (va_A (wO ad cI cZ A V) sz) := by
  refine startI (plainFor_of_name (by decide)) rfl (Nat.le_of_ble_eq_true rfl) ?_
  intro p e s m args below meth c A0 Z cx hw hret ls hl
  exact wk_X1_append_0 Q cx hret A V x1 x2 x3 h _ _ _ hw hl
abbrev rmX1_heightOf : Room := { frames := 1, cells := 0, slots := 0, locals := 21 }
theorem inX1_heightOf_X1 : ∀ w ∈ wsX10, w ∈ wsX1_heightOf := by decide +kernel
theorem kX1_heightOf_9 : Cond.fieldLink RX1 9 "DrownedPost$Drowned" "height" "[I" ∈ wsX1_heightOf := by decide +kernel
def wb_X1_heightOf_0 (Q : Int32 → SA → SV → Prop) (A : SA) (V : SV) (x1 : Int32) : Prop := (wpX1_has A V x1 (fun r1 A2 V3 => ((r1 = 0 → Q (0 : Int32) A2 V3) ∧ (¬ (r1 = 0) → (vp_in x1 16 ∧ Q (A2 4 x1.toNatClampNeg) A2 V3)))))
set_option maxHeartbeats 4000000 in
set_option maxRecDepth 100000 in
theorem wk_X1_heightOf_0 (Q : Int32 → SA → SV → Prop) (cx : CX RX1 cX1_heightOf 2 wsX1_heightOf D [(cI, .int), (cZ, .boolean)] p s m args c A0) (hret : ∀ (pc : Nat) (ls : Array Slot) (r : Int32) (u : SA × SV) (H : Heap) (locs : List Loc), narrow .int (.int r) = .int r → decode cX1_heightOf pc = .ok (.ireturn, 1) → Q r u.1 u.2 → WS D s A0 (wO ad cI cZ u.1 u.2) H locs → W p l e rmX1_heightOf s m args below meth c H locs rmX1_heightOf.cells rmX1_heightOf.slots Z (F0 m pc ls [.int r]))  : ∀ (A : SA) (V : SV) (x1 : Int32) (h : wb_X1_heightOf_0 Q A V x1) (H : Heap) (locs : List Loc) (ls : Array Slot) (hw : WS D s A0 (wO ad cI cZ A V) H locs) (hl : lv_has ls 2 [(0, .ref (ad 3)), (1, .int x1)]), W p l e rmX1_heightOf s m args below meth c H locs 0 0 Z (F0 m 0 ls []) := by
  obtain ⟨hx, hb, hml, hown, hts, hK, hA⟩ := id cx
  intro A V x1 h H locs ls hw hl
  refine lv_aload_n (pc := 0) hx hb dX1_heightOf_0 rfl (lv_at hl 0 rfl) ?_
  refine lv_iload_n (pc := 1) hx hb dX1_heightOf_1 rfl (lv_at hl 1 rfl) ?_
  refine callVi (pc := 2) (rest := []) (c1 := 0) (s1 := 0) cx hw hl (metX1_has l D cI cZ ad H.size A V x1 _ h) (fun hts => cwV 1 hts gX1_heightOf_X1_has rfl rfl rfl (by decide +kernel) ⟨Nat.le_of_ble_eq_true rfl, Nat.le_of_ble_eq_true rfl⟩) SUB.rf [0, 1] rfl 3 (ci := 1) rfl rfl rfl (JN.rf) rfl rfl (Nat.le_of_ble_eq_true rfl) ⟨Nat.le_of_ble_eq_true rfl, Nat.le_of_ble_eq_true rfl⟩ rfl rfl dX1_heightOf_2 (fun r1 u H locs h hw => ?_)
  obtain ⟨A2, V3⟩ := u
  refine lv_if_eq (pc := 5) (tgt := 17) hx hb dX1_heightOf_5 (by decide) (fun c4 => ?_) (fun c4 => ?_)
  · have h := h.1 c4
    refine lv_iconst (pc := 17) (v := (0 : Int32)) hx hb dX1_heightOf_17 (by decide) ?_
    exact hret 18 _ _ (A2, V3) _ _ rfl dX1_heightOf_18 h hw
  · have h := h.2 c4
    refine lv_aload_n (pc := 8) hx hb dX1_heightOf_8 rfl (lv_at hl 0 rfl) ?_
    refine geO_X1_0 (pc := 9) cx inX1_heightOf_X1 kX1_heightOf_9 hw dX1_heightOf_9 ?_
    refine lv_iload_n (pc := 12) hx hb dX1_heightOf_12 rfl (lv_at hl 1 rfl) ?_
    refine alO_4 (pc := 13) cx hw h.1 dX1_heightOf_13 ?_
    have h := h.2
    refine lv_goto (pc := 14) (tgt := 18) hx hb dX1_heightOf_14 (by decide) ?_
    exact hret 18 _ _ (A2, V3) _ _ rfl dX1_heightOf_18 h hw
def wpX1_heightOf (A : SA) (V : SV) (x1 : Int32) (Q : Int32 → SA → SV → Prop) : Prop := wb_X1_heightOf_0 Q A V x1
set_option maxHeartbeats 4000000 in
set_option maxRecDepth 100000 in
theorem metX1_heightOf (l : Launch) (D : va_G) (cI cZ : ClassId) (ad : Nat → Nat) (sz : Nat) (A : SA) (V : SV) (x1 : Int32) (Q : Int32 → SA → SV → Prop) (h : wpX1_heightOf A V x1 Q) : Met l yX1_heightOf wsX1_heightOf rmX1_heightOf (PcW D [(cI, .int), (cZ, .boolean)] (wO ad cI cZ A V) sz [.ref (ad 3), .int x1]) (QiW D [(cI, .int), (cZ, .boolean)] (wO ad cI cZ A V) sz (fun u : SA × SV => (wO ad cI cZ u.1 u.2)) (fun r u => Q r u.1 u.2)) rmX1_heightOf.cells rmX1_heightOf.slots (va_A (wO ad cI cZ A V) sz) := by
  refine startI (plainFor_of_name (by decide)) rfl (Nat.le_of_ble_eq_true rfl) ?_
  intro p e s m args below meth c A0 Z cx hw hret ls hl
  exact wk_X1_heightOf_0 Q cx hret A V x1 h _ _ _ hw hl
abbrev rmX1_gets : Room := { frames := 1, cells := 0, slots := 0, locals := 21 }
theorem inX1_gets_X1 : ∀ w ∈ wsX10, w ∈ wsX1_gets := by decide +kernel
theorem kX1_gets_15 : Cond.fieldLink RX1 15 "DrownedPost$Drowned" "n" "[I" ∈ wsX1_gets := by decide +kernel
theorem kX1_gets_21 : Cond.fieldLink RX1 21 "DrownedPost$Drowned" "got" "[I" ∈ wsX1_gets := by decide +kernel
def wb_X1_gets_0 (Q : Int32 → SA → SV → Prop) (A : SA) (V : SV) (x1 : Int32) : Prop := (wpX1_has A V x1 (fun r1 A2 V3 => ((¬ r1 = 0 → (vp_in x1 16 ∧ (vp_in x1 16 ∧ (∀ A5 : SA, A5 = up A2 7 x1.toNatClampNeg ((A2 7 x1.toNatClampNeg) + (1 : Int32)) → (vp_in x1 16 ∧ (((A5 5 x1.toNatClampNeg) ≤ 0 → Q (0 : Int32) A5 V3) ∧ (¬ ((A5 5 x1.toNatClampNeg) ≤ 0) → (vp_in x1 16 ∧ (vp_in x1 16 ∧ (¬ (A5 5 x1.toNatClampNeg) = 0 ∧ ((¬ ((A5 7 x1.toNatClampNeg) - (A5 7 x1.toNatClampNeg) / (A5 5 x1.toNatClampNeg) * (A5 5 x1.toNatClampNeg)) = 0 → Q (0 : Int32) A5 V3) ∧ (((A5 7 x1.toNatClampNeg) - (A5 7 x1.toNatClampNeg) / (A5 5 x1.toNatClampNeg) * (A5 5 x1.toNatClampNeg)) = 0 → Q (1 : Int32) A5 V3)))))))))))) ∧ (r1 = 0 → Q (0 : Int32) A2 V3))))
set_option maxHeartbeats 4000000 in
set_option maxRecDepth 100000 in
theorem wk_X1_gets_0 (Q : Int32 → SA → SV → Prop) (cx : CX RX1 cX1_gets 2 wsX1_gets D [(cI, .int), (cZ, .boolean)] p s m args c A0) (hret : ∀ (pc : Nat) (ls : Array Slot) (r : Int32) (u : SA × SV) (H : Heap) (locs : List Loc), narrow .boolean (.int r) = .int r → decode cX1_gets pc = .ok (.ireturn, 1) → Q r u.1 u.2 → WS D s A0 (wO ad cI cZ u.1 u.2) H locs → W p l e rmX1_gets s m args below meth c H locs rmX1_gets.cells rmX1_gets.slots Z (F0 m pc ls [.int r]))  : ∀ (A : SA) (V : SV) (x1 : Int32) (h : wb_X1_gets_0 Q A V x1) (H : Heap) (locs : List Loc) (ls : Array Slot) (hw : WS D s A0 (wO ad cI cZ A V) H locs) (hl : lv_has ls 2 [(0, .ref (ad 3)), (1, .int x1)]), W p l e rmX1_gets s m args below meth c H locs 0 0 Z (F0 m 0 ls []) := by
  obtain ⟨hx, hb, hml, hown, hts, hK, hA⟩ := id cx
  intro A V x1 h H locs ls hw hl
  refine lv_aload_n (pc := 0) hx hb dX1_gets_0 rfl (lv_at hl 0 rfl) ?_
  refine lv_iload_n (pc := 1) hx hb dX1_gets_1 rfl (lv_at hl 1 rfl) ?_
  refine callVi (pc := 2) (rest := []) (c1 := 0) (s1 := 0) cx hw hl (metX1_has l D cI cZ ad H.size A V x1 _ h) (fun hts => cwV 1 hts gX1_gets_X1_has rfl rfl rfl (by decide +kernel) ⟨Nat.le_of_ble_eq_true rfl, Nat.le_of_ble_eq_true rfl⟩) SUB.rf [0, 1] rfl 3 (ci := 1) rfl rfl rfl (JN.rf) rfl rfl (Nat.le_of_ble_eq_true rfl) ⟨Nat.le_of_ble_eq_true rfl, Nat.le_of_ble_eq_true rfl⟩ rfl rfl dX1_gets_2 (fun r1 u H locs h hw => ?_)
  obtain ⟨A2, V3⟩ := u
  refine lv_if_ne (pc := 5) (tgt := 10) hx hb dX1_gets_5 (by decide) (fun c4 => ?_) (fun c4 => ?_)
  · have h := h.1 c4
    refine lv_aload_n (pc := 10) hx hb dX1_gets_10 rfl (lv_at hl 0 rfl) ?_
    refine geO_X1_3 (pc := 11) cx inX1_gets_X1 kX1_gets_21 hw dX1_gets_11 ?_
    refine lv_iload_n (pc := 14) hx hb dX1_gets_14 rfl (lv_at hl 1 rfl) ?_
    refine lv_dup2_11 (pc := 15) hx hb dX1_gets_15 rfl rfl ?_
    refine alO_7 (pc := 16) cx hw h.1 dX1_gets_16 ?_
    have h := h.2
    refine lv_iconst (pc := 17) (v := (1 : Int32)) hx hb dX1_gets_17 (by decide) ?_
    refine lv_iadd (pc := 18) hx hb dX1_gets_18 ?_
    refine asO_7 (pc := 19) cx hw h.1 dX1_gets_19 (fun A5 eA5 H locs hw => ?_)
    have h := h.2 A5 eA5
    refine lv_aload_n (pc := 20) hx hb dX1_gets_20 rfl (lv_at hl 0 rfl) ?_
    refine geO_X1_1 (pc := 21) cx inX1_gets_X1 kX1_gets_15 hw dX1_gets_21 ?_
    refine lv_iload_n (pc := 24) hx hb dX1_gets_24 rfl (lv_at hl 1 rfl) ?_
    refine alO_5 (pc := 25) cx hw h.1 dX1_gets_25 ?_
    have h := h.2
    refine lv_if_le (pc := 26) (tgt := 49) hx hb dX1_gets_26 (by decide) (fun c6 => ?_) (fun c6 => ?_)
    · have h := h.1 c6
      refine lv_iconst (pc := 49) (v := (0 : Int32)) hx hb dX1_gets_49 (by decide) ?_
      exact hret 50 _ _ (A5, V3) _ _ rfl dX1_gets_50 h hw
    · have h := h.2 c6
      refine lv_aload_n (pc := 29) hx hb dX1_gets_29 rfl (lv_at hl 0 rfl) ?_
      refine geO_X1_3 (pc := 30) cx inX1_gets_X1 kX1_gets_21 hw dX1_gets_30 ?_
      refine lv_iload_n (pc := 33) hx hb dX1_gets_33 rfl (lv_at hl 1 rfl) ?_
      refine alO_7 (pc := 34) cx hw h.1 dX1_gets_34 ?_
      have h := h.2
      refine lv_aload_n (pc := 35) hx hb dX1_gets_35 rfl (lv_at hl 0 rfl) ?_
      refine geO_X1_1 (pc := 36) cx inX1_gets_X1 kX1_gets_15 hw dX1_gets_36 ?_
      refine lv_iload_n (pc := 39) hx hb dX1_gets_39 rfl (lv_at hl 1 rfl) ?_
      refine alO_5 (pc := 40) cx hw h.1 dX1_gets_40 ?_
      have h := h.2
      refine lv_irem (pc := 41) hx hb dX1_gets_41 h.1 ?_
      have h := h.2
      refine lv_if_ne (pc := 42) (tgt := 49) hx hb dX1_gets_42 (by decide) (fun c7 => ?_) (fun c7 => ?_)
      · have h := h.1 c7
        refine lv_iconst (pc := 49) (v := (0 : Int32)) hx hb dX1_gets_49 (by decide) ?_
        exact hret 50 _ _ (A5, V3) _ _ rfl dX1_gets_50 h hw
      · have h := h.2 c7
        refine lv_iconst (pc := 45) (v := (1 : Int32)) hx hb dX1_gets_45 (by decide) ?_
        refine lv_goto (pc := 46) (tgt := 50) hx hb dX1_gets_46 (by decide) ?_
        exact hret 50 _ _ (A5, V3) _ _ rfl dX1_gets_50 h hw
  · have h := h.2 c4
    refine lv_iconst (pc := 8) (v := (0 : Int32)) hx hb dX1_gets_8 (by decide) ?_
    exact hret 9 _ _ (A2, V3) _ _ rfl dX1_gets_9 h hw
def wpX1_gets (A : SA) (V : SV) (x1 : Int32) (Q : Int32 → SA → SV → Prop) : Prop := wb_X1_gets_0 Q A V x1
set_option maxHeartbeats 4000000 in
set_option maxRecDepth 100000 in
theorem metX1_gets (l : Launch) (D : va_G) (cI cZ : ClassId) (ad : Nat → Nat) (sz : Nat) (A : SA) (V : SV) (x1 : Int32) (Q : Int32 → SA → SV → Prop) (h : wpX1_gets A V x1 Q) : Met l yX1_gets wsX1_gets rmX1_gets (PcW D [(cI, .int), (cZ, .boolean)] (wO ad cI cZ A V) sz [.ref (ad 3), .int x1]) (QiW D [(cI, .int), (cZ, .boolean)] (wO ad cI cZ A V) sz (fun u : SA × SV => (wO ad cI cZ u.1 u.2)) (fun r u => Q r u.1 u.2)) rmX1_gets.cells rmX1_gets.slots (va_A (wO ad cI cZ A V) sz) := by
  refine startI (plainFor_of_name (by decide)) rfl (Nat.le_of_ble_eq_true rfl) ?_
  intro p e s m args below meth c A0 Z cx hw hret ls hl
  exact wk_X1_gets_0 Q cx hret A V x1 h _ _ _ hw hl
abbrev rmX1_fact : Room := { frames := 1, cells := 0, slots := 0, locals := 21 }
theorem inX1_fact_X1 : ∀ w ∈ wsX10, w ∈ wsX1_fact := by decide +kernel
theorem kX1_fact_15 : Cond.fieldLink RX1 15 "DrownedPost$Drowned" "n" "[I" ∈ wsX1_fact := by decide +kernel
theorem kX1_fact_18 : Cond.fieldLink RX1 18 "DrownedPost$Drowned" "lag" "[I" ∈ wsX1_fact := by decide +kernel
theorem kX1_fact_21 : Cond.fieldLink RX1 21 "DrownedPost$Drowned" "got" "[I" ∈ wsX1_fact := by decide +kernel
theorem kX1_fact_24 : Cond.fieldLink RX1 24 "DrownedPost$Drowned" "written" "[I" ∈ wsX1_fact := by decide +kernel
theorem kX1_fact_9 : Cond.fieldLink RX1 9 "DrownedPost$Drowned" "height" "[I" ∈ wsX1_fact := by decide +kernel
def wb_X1_fact_0 (Q : Int32 → SA → SV → Prop) (A : SA) (V : SV) (x1 : Int32) (x2 : Int32) : Prop := (wpX1_has A V x1 (fun r1 A2 V3 => ((¬ r1 = 0 → ((x2 = (0 : Int32) → (vp_in x1 16 ∧ Q (A2 4 x1.toNatClampNeg) A2 V3)) ∧ (¬ x2 = (0 : Int32) → ((x2 = (1 : Int32) → (vp_in x1 16 ∧ Q (A2 5 x1.toNatClampNeg) A2 V3)) ∧ (¬ x2 = (1 : Int32) → ((x2 = (2 : Int32) → (vp_in x1 16 ∧ Q (A2 6 x1.toNatClampNeg) A2 V3)) ∧ (¬ x2 = (2 : Int32) → ((x2 = (3 : Int32) → (vp_in x1 16 ∧ Q (A2 7 x1.toNatClampNeg) A2 V3)) ∧ (¬ x2 = (3 : Int32) → ((x2 = (4 : Int32) → (vp_in x1 16 ∧ Q (A2 8 x1.toNatClampNeg) A2 V3)) ∧ (¬ x2 = (4 : Int32) → Q (0 : Int32) A2 V3))))))))))) ∧ (r1 = 0 → Q (0 : Int32) A2 V3))))
set_option maxHeartbeats 4000000 in
set_option maxRecDepth 100000 in
theorem wk_X1_fact_0 (Q : Int32 → SA → SV → Prop) (cx : CX RX1 cX1_fact 3 wsX1_fact D [(cI, .int), (cZ, .boolean)] p s m args c A0) (hret : ∀ (pc : Nat) (ls : Array Slot) (r : Int32) (u : SA × SV) (H : Heap) (locs : List Loc), narrow .int (.int r) = .int r → decode cX1_fact pc = .ok (.ireturn, 1) → Q r u.1 u.2 → WS D s A0 (wO ad cI cZ u.1 u.2) H locs → W p l e rmX1_fact s m args below meth c H locs rmX1_fact.cells rmX1_fact.slots Z (F0 m pc ls [.int r]))  : ∀ (A : SA) (V : SV) (x1 : Int32) (x2 : Int32) (h : wb_X1_fact_0 Q A V x1 x2) (H : Heap) (locs : List Loc) (ls : Array Slot) (hw : WS D s A0 (wO ad cI cZ A V) H locs) (hl : lv_has ls 3 [(0, .ref (ad 3)), (1, .int x1), (2, .int x2)]), W p l e rmX1_fact s m args below meth c H locs 0 0 Z (F0 m 0 ls []) := by
  obtain ⟨hx, hb, hml, hown, hts, hK, hA⟩ := id cx
  intro A V x1 x2 h H locs ls hw hl
  refine lv_aload_n (pc := 0) hx hb dX1_fact_0 rfl (lv_at hl 0 rfl) ?_
  refine lv_iload_n (pc := 1) hx hb dX1_fact_1 rfl (lv_at hl 1 rfl) ?_
  refine callVi (pc := 2) (rest := []) (c1 := 0) (s1 := 0) cx hw hl (metX1_has l D cI cZ ad H.size A V x1 _ h) (fun hts => cwV 1 hts gX1_fact_X1_has rfl rfl rfl (by decide +kernel) ⟨Nat.le_of_ble_eq_true rfl, Nat.le_of_ble_eq_true rfl⟩) SUB.rf [0, 1] rfl 3 (ci := 1) rfl rfl rfl (JN.rf) rfl rfl (Nat.le_of_ble_eq_true rfl) ⟨Nat.le_of_ble_eq_true rfl, Nat.le_of_ble_eq_true rfl⟩ rfl rfl dX1_fact_2 (fun r1 u H locs h hw => ?_)
  obtain ⟨A2, V3⟩ := u
  refine lv_if_ne (pc := 5) (tgt := 10) hx hb dX1_fact_5 (by decide) (fun c4 => ?_) (fun c4 => ?_)
  · have h := h.1 c4
    refine lv_iload_n (pc := 10) hx hb dX1_fact_10 rfl (lv_at hl 2 rfl) ?_
    by_cases e5 : x2 = (0 : Int32)
    · have h := h.1 e5
      refine lv_tableIn (pc := 11) (off := 33) (tgt := 44) hx hb dX1_fact_11 (by rw [e5]; decide) (by rw [e5]; decide) (by rw [e5]; rfl) (by decide) ?_
      refine lv_aload_n (pc := 44) hx hb dX1_fact_44 rfl (lv_at hl 0 rfl) ?_
      refine geO_X1_0 (pc := 45) cx inX1_fact_X1 kX1_fact_9 hw dX1_fact_45 ?_
      refine lv_iload_n (pc := 48) hx hb dX1_fact_48 rfl (lv_at hl 1 rfl) ?_
      refine alO_4 (pc := 49) cx hw h.1 dX1_fact_49 ?_
      have h := h.2
      exact hret 50 _ _ (A2, V3) _ _ rfl dX1_fact_50 h hw
    · have h := h.2 e5
      by_cases e6 : x2 = (1 : Int32)
      · have h := h.1 e6
        refine lv_tableIn (pc := 11) (off := 40) (tgt := 51) hx hb dX1_fact_11 (by rw [e6]; decide) (by rw [e6]; decide) (by rw [e6]; rfl) (by decide) ?_
        refine lv_aload_n (pc := 51) hx hb dX1_fact_51 rfl (lv_at hl 0 rfl) ?_
        refine geO_X1_1 (pc := 52) cx inX1_fact_X1 kX1_fact_15 hw dX1_fact_52 ?_
        refine lv_iload_n (pc := 55) hx hb dX1_fact_55 rfl (lv_at hl 1 rfl) ?_
        refine alO_5 (pc := 56) cx hw h.1 dX1_fact_56 ?_
        have h := h.2
        exact hret 57 _ _ (A2, V3) _ _ rfl dX1_fact_57 h hw
      · have h := h.2 e6
        by_cases e7 : x2 = (2 : Int32)
        · have h := h.1 e7
          refine lv_tableIn (pc := 11) (off := 47) (tgt := 58) hx hb dX1_fact_11 (by rw [e7]; decide) (by rw [e7]; decide) (by rw [e7]; rfl) (by decide) ?_
          refine lv_aload_n (pc := 58) hx hb dX1_fact_58 rfl (lv_at hl 0 rfl) ?_
          refine geO_X1_2 (pc := 59) cx inX1_fact_X1 kX1_fact_18 hw dX1_fact_59 ?_
          refine lv_iload_n (pc := 62) hx hb dX1_fact_62 rfl (lv_at hl 1 rfl) ?_
          refine alO_6 (pc := 63) cx hw h.1 dX1_fact_63 ?_
          have h := h.2
          exact hret 64 _ _ (A2, V3) _ _ rfl dX1_fact_64 h hw
        · have h := h.2 e7
          by_cases e8 : x2 = (3 : Int32)
          · have h := h.1 e8
            refine lv_tableIn (pc := 11) (off := 54) (tgt := 65) hx hb dX1_fact_11 (by rw [e8]; decide) (by rw [e8]; decide) (by rw [e8]; rfl) (by decide) ?_
            refine lv_aload_n (pc := 65) hx hb dX1_fact_65 rfl (lv_at hl 0 rfl) ?_
            refine geO_X1_3 (pc := 66) cx inX1_fact_X1 kX1_fact_21 hw dX1_fact_66 ?_
            refine lv_iload_n (pc := 69) hx hb dX1_fact_69 rfl (lv_at hl 1 rfl) ?_
            refine alO_7 (pc := 70) cx hw h.1 dX1_fact_70 ?_
            have h := h.2
            exact hret 71 _ _ (A2, V3) _ _ rfl dX1_fact_71 h hw
          · have h := h.2 e8
            by_cases e9 : x2 = (4 : Int32)
            · have h := h.1 e9
              refine lv_tableIn (pc := 11) (off := 61) (tgt := 72) hx hb dX1_fact_11 (by rw [e9]; decide) (by rw [e9]; decide) (by rw [e9]; rfl) (by decide) ?_
              refine lv_aload_n (pc := 72) hx hb dX1_fact_72 rfl (lv_at hl 0 rfl) ?_
              refine geO_X1_4 (pc := 73) cx inX1_fact_X1 kX1_fact_24 hw dX1_fact_73 ?_
              refine lv_iload_n (pc := 76) hx hb dX1_fact_76 rfl (lv_at hl 1 rfl) ?_
              refine alO_8 (pc := 77) cx hw h.1 dX1_fact_77 ?_
              have h := h.2
              exact hret 78 _ _ (A2, V3) _ _ rfl dX1_fact_78 h hw
            · have h := h.2 e9
              refine lv_tableOut (pc := 11) (tgt := 79) hx hb dX1_fact_11 (tsw 4 (by decide) (fun i hi => match i, hi with | 0, _ => e5 | 1, _ => e6 | 2, _ => e7 | 3, _ => e8 | 4, _ => e9 | _ + 5, hi => absurd hi (by omega))) (by decide) ?_
              refine lv_iconst (pc := 79) (v := (0 : Int32)) hx hb dX1_fact_79 (by decide) ?_
              exact hret 80 _ _ (A2, V3) _ _ rfl dX1_fact_80 h hw
  · have h := h.2 c4
    refine lv_iconst (pc := 8) (v := (0 : Int32)) hx hb dX1_fact_8 (by decide) ?_
    exact hret 9 _ _ (A2, V3) _ _ rfl dX1_fact_9 h hw
def wpX1_fact (A : SA) (V : SV) (x1 : Int32) (x2 : Int32) (Q : Int32 → SA → SV → Prop) : Prop := wb_X1_fact_0 Q A V x1 x2
set_option maxHeartbeats 4000000 in
set_option maxRecDepth 100000 in
theorem metX1_fact (l : Launch) (D : va_G) (cI cZ : ClassId) (ad : Nat → Nat) (sz : Nat) (A : SA) (V : SV) (x1 : Int32) (x2 : Int32) (Q : Int32 → SA → SV → Prop) (h : wpX1_fact A V x1 x2 Q) : Met l yX1_fact wsX1_fact rmX1_fact (PcW D [(cI, .int), (cZ, .boolean)] (wO ad cI cZ A V) sz [.ref (ad 3), .int x1, .int x2]) (QiW D [(cI, .int), (cZ, .boolean)] (wO ad cI cZ A V) sz (fun u : SA × SV => (wO ad cI cZ u.1 u.2)) (fun r u => Q r u.1 u.2)) rmX1_fact.cells rmX1_fact.slots (va_A (wO ad cI cZ A V) sz) := by
  refine startI (plainFor_of_name (by decide)) rfl (Nat.le_of_ble_eq_true rfl) ?_
  intro p e s m args below meth c A0 Z cx hw hret ls hl
  exact wk_X1_fact_0 Q cx hret A V x1 x2 h _ _ _ hw hl
abbrev rmX1_digestFrom : Room := { frames := 2, cells := 0, slots := 0, locals := 43 }
theorem inX1_digestFrom_X1 : ∀ w ∈ wsX10, w ∈ wsX1_digestFrom := by decide +kernel
theorem kX1_digestFrom_27 : Cond.fieldLink RX1 27 "DrownedPost$Drowned" "count" "I" ∈ wsX1_digestFrom := by decide +kernel
theorem kX1_digestFrom_w_constantLong_RX1_35__31_ : Cond.constantLong RX1 35 (31) ∈ wsX1_digestFrom := by decide +kernel
def wl_X1_digestFrom_17 (Q : Int64 → SA → SV → Prop) (K5 : SA → SV → Int64 → Int32 → Prop) : Nat → SA → SV → Int64 → Int32 → Int32 → Prop
  | 0, _, _, _, _, _ => False
  | n + 1, A, V, x3, x5, x6 => (((5 : Int32) ≤ x6 → K5 A V x3 (x5 + 1)) ∧ (¬ ((5 : Int32) ≤ x6) → (wpX1_fact A V x5 x6 (fun r3 A4 V5 => wl_X1_digestFrom_17 Q K5 n A4 V5 ((x3 * (31 : Int64)) + r3.toInt64) x5 (x6 + 1)))))
set_option maxHeartbeats 4000000 in
set_option maxRecDepth 100000 in
theorem wk_X1_digestFrom_17 (Q : Int64 → SA → SV → Prop) (K5 : SA → SV → Int64 → Int32 → Prop) (cx : CX RX1 cX1_digestFrom 7 wsX1_digestFrom D [(cI, .int), (cZ, .boolean)] p s m args c A0) (hret : ∀ (pc : Nat) (ls : Array Slot) (r : Int64) (u : SA × SV) (H : Heap) (locs : List Loc), decode cX1_digestFrom pc = .ok (.lreturn, 1) → Q r u.1 u.2 → WS D s A0 (wO ad cI cZ u.1 u.2) H locs → W p l e rmX1_digestFrom s m args below meth c H locs rmX1_digestFrom.cells rmX1_digestFrom.slots Z (F0 m pc ls [.long r])) (hK5 : ∀ (A : SA) (V : SV) (x3 : Int64) (x5 : Int32) (h : K5 A V x3 x5) (H : Heap) (locs : List Loc) (ls : Array Slot) (hw : WS D s A0 (wO ad cI cZ A V) H locs) (hl : lv_has ls 7 [(0, .ref (ad 3)), (3, .long x3), (5, .int x5)]), W p l e rmX1_digestFrom s m args below meth c H locs 0 0 Z (F0 m 5 ls [])) : ∀ (n : Nat) (A : SA) (V : SV) (x3 : Int64) (x5 : Int32) (x6 : Int32) (h : wl_X1_digestFrom_17 Q K5 n A V x3 x5 x6) (H : Heap) (locs : List Loc) (ls : Array Slot) (hw : WS D s A0 (wO ad cI cZ A V) H locs) (hl : lv_has ls 7 [(0, .ref (ad 3)), (3, .long x3), (5, .int x5), (6, .int x6)]), W p l e rmX1_digestFrom s m args below meth c H locs 0 0 Z (F0 m 17 ls []) := by
  obtain ⟨hx, hb, hml, hown, hts, hK, hA⟩ := id cx
  intro n
  induction n with
  | zero => intro A V x3 x5 x6 h; exact False.elim h
  | succ n ih =>
    intro A V x3 x5 x6 h H locs ls hw hl
    refine lv_iload (pc := 17) hx hb dX1_digestFrom_17 (lv_at hl 3 rfl) ?_
    refine lv_iconst (pc := 19) (v := (5 : Int32)) hx hb dX1_digestFrom_19 (by decide) ?_
    refine lv_icmp_ge (pc := 20) (tgt := 45) hx hb dX1_digestFrom_20 (by decide) (fun c2 => ?_) (fun c2 => ?_)
    · have h := h.1 c2
      refine lv_iinc (pc := 45) (v := x5 + 1) (lv' := [(5, .int (x5 + 1)), (0, .ref (ad 3)), (3, .long x3), (6, .int x6)]) hx hb dX1_digestFrom_45 hl (k := 2) rfl rfl (by decide) rfl (fun ls hl => ?_)
      refine lv_goto (pc := 48) (tgt := 5) hx hb dX1_digestFrom_48 (by decide) ?_
      exact hK5 A V x3 (x5 + 1) h _ _ _ hw (lv_sub hl [1, 2, 0] rfl)
    · have h := h.2 c2
      refine lv_lload_n (pc := 23) hx hb dX1_digestFrom_23 rfl (lv_at hl 1 rfl) ?_
      refine lv_ldc2 (pc := 24) (v := (31 : Int64)) hx hb hown (hts _ kX1_digestFrom_w_constantLong_RX1_35__31_) dX1_digestFrom_24 ?_
      refine lv_lmul (pc := 27) hx hb dX1_digestFrom_27 ?_
      refine lv_aload_n (pc := 28) hx hb dX1_digestFrom_28 rfl (lv_at hl 0 rfl) ?_
      refine lv_iload (pc := 29) hx hb dX1_digestFrom_29 (lv_at hl 2 rfl) ?_
      refine lv_iload (pc := 31) hx hb dX1_digestFrom_31 (lv_at hl 3 rfl) ?_
      refine callVi (pc := 33) (rest := [.long (x3 * (31 : Int64))]) (c1 := 0) (s1 := 0) cx hw hl (metX1_fact l D cI cZ ad H.size A V x5 x6 _ h) (fun hts => cwV 2 hts gX1_digestFrom_X1_fact rfl rfl rfl (by decide +kernel) ⟨Nat.le_of_ble_eq_true rfl, Nat.le_of_ble_eq_true rfl⟩) SUB.rf [0, 1] rfl 3 (ci := 1) rfl rfl rfl (JN.rf) rfl rfl (Nat.le_of_ble_eq_true rfl) ⟨Nat.le_of_ble_eq_true rfl, Nat.le_of_ble_eq_true rfl⟩ rfl rfl dX1_digestFrom_33 (fun r3 u H locs h hw => ?_)
      obtain ⟨A4, V5⟩ := u
      refine lv_i2l (pc := 36) (v := r3.toInt64) hx hb dX1_digestFrom_36 rfl ?_
      refine lv_ladd (pc := 37) hx hb dX1_digestFrom_37 ?_
      refine lv_lstore_n (pc := 38) (lv' := [(3, .long ((x3 * (31 : Int64)) + r3.toInt64)), (0, .ref (ad 3)), (5, .int x5), (6, .int x6)]) hx hb dX1_digestFrom_38 rfl hl (by decide) rfl (fun ls hl => ?_)
      refine lv_iinc (pc := 39) (v := x6 + 1) (lv' := [(6, .int (x6 + 1)), (3, .long ((x3 * (31 : Int64)) + r3.toInt64)), (0, .ref (ad 3)), (5, .int x5)]) hx hb dX1_digestFrom_39 hl (k := 3) rfl rfl (by decide) rfl (fun ls hl => ?_)
      refine lv_goto (pc := 42) (tgt := 17) hx hb dX1_digestFrom_42 (by decide) ?_
      exact ih A4 V5 ((x3 * (31 : Int64)) + r3.toInt64) x5 (x6 + 1) h _ _ _ hw (lv_sub hl [2, 1, 3, 0] rfl)
def wl_X1_digestFrom_5 (Q : Int64 → SA → SV → Prop) : Nat → SA → SV → Int64 → Int32 → Prop
  | 0, _, _, _, _ => False
  | n + 1, A, V, x3, x5 => (((V 2) ≤ x5 → Q x3 A V) ∧ (¬ ((V 2) ≤ x5) → (∃ n17 : Nat, wl_X1_digestFrom_17 Q (wl_X1_digestFrom_5 Q n) n17 A V x3 x5 (0 : Int32))))
set_option maxHeartbeats 4000000 in
set_option maxRecDepth 100000 in
theorem wk_X1_digestFrom_5 (Q : Int64 → SA → SV → Prop) (cx : CX RX1 cX1_digestFrom 7 wsX1_digestFrom D [(cI, .int), (cZ, .boolean)] p s m args c A0) (hret : ∀ (pc : Nat) (ls : Array Slot) (r : Int64) (u : SA × SV) (H : Heap) (locs : List Loc), decode cX1_digestFrom pc = .ok (.lreturn, 1) → Q r u.1 u.2 → WS D s A0 (wO ad cI cZ u.1 u.2) H locs → W p l e rmX1_digestFrom s m args below meth c H locs rmX1_digestFrom.cells rmX1_digestFrom.slots Z (F0 m pc ls [.long r]))  : ∀ (n : Nat) (A : SA) (V : SV) (x3 : Int64) (x5 : Int32) (h : wl_X1_digestFrom_5 Q n A V x3 x5) (H : Heap) (locs : List Loc) (ls : Array Slot) (hw : WS D s A0 (wO ad cI cZ A V) H locs) (hl : lv_has ls 7 [(0, .ref (ad 3)), (3, .long x3), (5, .int x5)]), W p l e rmX1_digestFrom s m args below meth c H locs 0 0 Z (F0 m 5 ls []) := by
  obtain ⟨hx, hb, hml, hown, hts, hK, hA⟩ := id cx
  intro n
  induction n with
  | zero => intro A V x3 x5 h; exact False.elim h
  | succ n ih =>
    intro A V x3 x5 h H locs ls hw hl
    refine lv_iload (pc := 5) hx hb dX1_digestFrom_5 (lv_at hl 2 rfl) ?_
    refine lv_aload_n (pc := 7) hx hb dX1_digestFrom_7 rfl (lv_at hl 0 rfl) ?_
    refine geO_X1_5 (pc := 8) cx inX1_digestFrom_X1 kX1_digestFrom_27 hw dX1_digestFrom_8 ?_
    refine lv_icmp_ge (pc := 11) (tgt := 51) hx hb dX1_digestFrom_11 (by decide) (fun c1 => ?_) (fun c1 => ?_)
    · have h := h.1 c1
      refine lv_lload_n (pc := 51) hx hb dX1_digestFrom_51 rfl (lv_at hl 1 rfl) ?_
      exact hret 52 _ _ (A, V) _ _ dX1_digestFrom_52 h hw
    · have h := h.2 c1
      refine lv_iconst (pc := 14) (v := (0 : Int32)) hx hb dX1_digestFrom_14 (by decide) ?_
      refine lv_istore (pc := 15) (lv' := [(6, .int (0 : Int32)), (0, .ref (ad 3)), (3, .long x3), (5, .int x5)]) hx hb dX1_digestFrom_15 hl (by decide) rfl (fun ls hl => ?_)
      obtain ⟨n17, h⟩ := h
      exact wk_X1_digestFrom_17 Q (wl_X1_digestFrom_5 Q n) cx hret ih n17 A V x3 x5 (0 : Int32) h _ _ _ hw (lv_sub hl [1, 2, 3, 0] rfl)
def wb_X1_digestFrom_0 (Q : Int64 → SA → SV → Prop) (A : SA) (V : SV) (x1 : Int64) : Prop := (∃ n5 : Nat, wl_X1_digestFrom_5 Q n5 A V x1 (0 : Int32))
set_option maxHeartbeats 4000000 in
set_option maxRecDepth 100000 in
theorem wk_X1_digestFrom_0 (Q : Int64 → SA → SV → Prop) (cx : CX RX1 cX1_digestFrom 7 wsX1_digestFrom D [(cI, .int), (cZ, .boolean)] p s m args c A0) (hret : ∀ (pc : Nat) (ls : Array Slot) (r : Int64) (u : SA × SV) (H : Heap) (locs : List Loc), decode cX1_digestFrom pc = .ok (.lreturn, 1) → Q r u.1 u.2 → WS D s A0 (wO ad cI cZ u.1 u.2) H locs → W p l e rmX1_digestFrom s m args below meth c H locs rmX1_digestFrom.cells rmX1_digestFrom.slots Z (F0 m pc ls [.long r]))  : ∀ (A : SA) (V : SV) (x1 : Int64) (h : wb_X1_digestFrom_0 Q A V x1) (H : Heap) (locs : List Loc) (ls : Array Slot) (hw : WS D s A0 (wO ad cI cZ A V) H locs) (hl : lv_has ls 7 [(0, .ref (ad 3)), (1, .long x1)]), W p l e rmX1_digestFrom s m args below meth c H locs 0 0 Z (F0 m 0 ls []) := by
  obtain ⟨hx, hb, hml, hown, hts, hK, hA⟩ := id cx
  intro A V x1 h H locs ls hw hl
  refine lv_lload_n (pc := 0) hx hb dX1_digestFrom_0 rfl (lv_at hl 1 rfl) ?_
  refine lv_lstore_n (pc := 1) (lv' := [(3, .long x1), (0, .ref (ad 3)), (1, .long x1)]) hx hb dX1_digestFrom_1 rfl hl (by decide) rfl (fun ls hl => ?_)
  refine lv_iconst (pc := 2) (v := (0 : Int32)) hx hb dX1_digestFrom_2 (by decide) ?_
  refine lv_istore (pc := 3) (lv' := [(5, .int (0 : Int32)), (3, .long x1), (0, .ref (ad 3)), (1, .long x1)]) hx hb dX1_digestFrom_3 hl (by decide) rfl (fun ls hl => ?_)
  obtain ⟨n5, h⟩ := h
  exact wk_X1_digestFrom_5 Q cx hret  n5 A V x1 (0 : Int32) h _ _ _ hw (lv_sub hl [2, 1, 0] rfl)
def wpX1_digestFrom (A : SA) (V : SV) (x1 : Int64) (Q : Int64 → SA → SV → Prop) : Prop := wb_X1_digestFrom_0 Q A V x1
set_option maxHeartbeats 4000000 in
set_option maxRecDepth 100000 in
theorem metX1_digestFrom (l : Launch) (D : va_G) (cI cZ : ClassId) (ad : Nat → Nat) (sz : Nat) (A : SA) (V : SV) (x1 : Int64) (Q : Int64 → SA → SV → Prop) (h : wpX1_digestFrom A V x1 Q) : Met l yX1_digestFrom wsX1_digestFrom rmX1_digestFrom (PcW D [(cI, .int), (cZ, .boolean)] (wO ad cI cZ A V) sz [.ref (ad 3), .long x1]) (QlW D [(cI, .int), (cZ, .boolean)] (wO ad cI cZ A V) sz (fun u : SA × SV => (wO ad cI cZ u.1 u.2)) (fun r u => Q r u.1 u.2)) rmX1_digestFrom.cells rmX1_digestFrom.slots (va_A (wO ad cI cZ A V) sz) := by
  refine startL (plainFor_of_name (by decide)) rfl (Nat.le_of_ble_eq_true rfl) ?_
  intro p e s m args below meth c A0 Z cx hw hret ls hl
  exact wk_X1_digestFrom_0 Q cx hret A V x1 h _ _ _ hw hl
abbrev rmX2_has : Room := { frames := 0, cells := 0, slots := 0, locals := 0 }
theorem inX2_has_X2 : ∀ w ∈ wsX20, w ∈ wsX2_has := by decide +kernel
theorem kX2_has_39 : Cond.fieldLink RX2 39 "DrownedPost$Letters" "count" "I" ∈ wsX2_has := by decide +kernel
def wb_X2_has_0 (Q : Int32 → SA → SV → Prop) (A : SA) (V : SV) (x1 : Int32) : Prop := ((x1 < 0 → Q (0 : Int32) A V) ∧ (¬ (x1 < 0) → (((V 3) ≤ x1 → Q (0 : Int32) A V) ∧ (¬ ((V 3) ≤ x1) → Q (1 : Int32) A V))))
set_option maxHeartbeats 4000000 in
set_option maxRecDepth 100000 in
theorem wk_X2_has_0 (Q : Int32 → SA → SV → Prop) (cx : CX RX2 cX2_has 2 wsX2_has D [(cI, .int), (cZ, .boolean)] p s m args c A0) (hret : ∀ (pc : Nat) (ls : Array Slot) (r : Int32) (u : SA × SV) (H : Heap) (locs : List Loc), narrow .boolean (.int r) = .int r → decode cX2_has pc = .ok (.ireturn, 1) → Q r u.1 u.2 → WS D s A0 (wO ad cI cZ u.1 u.2) H locs → W p l e rmX2_has s m args below meth c H locs rmX2_has.cells rmX2_has.slots Z (F0 m pc ls [.int r]))  : ∀ (A : SA) (V : SV) (x1 : Int32) (h : wb_X2_has_0 Q A V x1) (H : Heap) (locs : List Loc) (ls : Array Slot) (hw : WS D s A0 (wO ad cI cZ A V) H locs) (hl : lv_has ls 2 [(0, .ref (ad 4)), (1, .int x1)]), W p l e rmX2_has s m args below meth c H locs 0 0 Z (F0 m 0 ls []) := by
  obtain ⟨hx, hb, hml, hown, hts, hK, hA⟩ := id cx
  intro A V x1 h H locs ls hw hl
  refine lv_iload_n (pc := 0) hx hb dX2_has_0 rfl (lv_at hl 1 rfl) ?_
  refine lv_if_lt (pc := 1) (tgt := 16) hx hb dX2_has_1 (by decide) (fun c1 => ?_) (fun c1 => ?_)
  · have h := h.1 c1
    refine lv_iconst (pc := 16) (v := (0 : Int32)) hx hb dX2_has_16 (by decide) ?_
    exact hret 17 _ _ (A, V) _ _ rfl dX2_has_17 h hw
  · have h := h.2 c1
    refine lv_iload_n (pc := 4) hx hb dX2_has_4 rfl (lv_at hl 1 rfl) ?_
    refine lv_aload_n (pc := 5) hx hb dX2_has_5 rfl (lv_at hl 0 rfl) ?_
    refine geO_X2_9 (pc := 6) cx inX2_has_X2 kX2_has_39 hw dX2_has_6 ?_
    refine lv_icmp_ge (pc := 9) (tgt := 16) hx hb dX2_has_9 (by decide) (fun c2 => ?_) (fun c2 => ?_)
    · have h := h.1 c2
      refine lv_iconst (pc := 16) (v := (0 : Int32)) hx hb dX2_has_16 (by decide) ?_
      exact hret 17 _ _ (A, V) _ _ rfl dX2_has_17 h hw
    · have h := h.2 c2
      refine lv_iconst (pc := 12) (v := (1 : Int32)) hx hb dX2_has_12 (by decide) ?_
      refine lv_goto (pc := 13) (tgt := 17) hx hb dX2_has_13 (by decide) ?_
      exact hret 17 _ _ (A, V) _ _ rfl dX2_has_17 h hw
def wpX2_has (A : SA) (V : SV) (x1 : Int32) (Q : Int32 → SA → SV → Prop) : Prop := wb_X2_has_0 Q A V x1
set_option maxHeartbeats 4000000 in
set_option maxRecDepth 100000 in
theorem metX2_has (l : Launch) (D : va_G) (cI cZ : ClassId) (ad : Nat → Nat) (sz : Nat) (A : SA) (V : SV) (x1 : Int32) (Q : Int32 → SA → SV → Prop) (h : wpX2_has A V x1 Q) : Met l yX2_has wsX2_has rmX2_has (PcW D [(cI, .int), (cZ, .boolean)] (wO ad cI cZ A V) sz [.ref (ad 4), .int x1]) (QiW D [(cI, .int), (cZ, .boolean)] (wO ad cI cZ A V) sz (fun u : SA × SV => (wO ad cI cZ u.1 u.2)) (fun r u => Q r u.1 u.2)) rmX2_has.cells rmX2_has.slots (va_A (wO ad cI cZ A V) sz) := by
  refine startI (plainFor_of_name (by decide)) rfl (Nat.le_of_ble_eq_true rfl) ?_
  intro p e s m args below meth c A0 Z cx hw hret ls hl
  exact wk_X2_has_0 Q cx hret A V x1 h _ _ _ hw hl
abbrev rmX2_append : Room := { frames := 0, cells := 0, slots := 0, locals := 0 }
theorem inX2_append_X2 : ∀ w ∈ wsX20, w ∈ wsX2_append := by decide +kernel
theorem kX2_append_15 : Cond.fieldLink RX2 15 "DrownedPost$Letters" "weight" "[I" ∈ wsX2_append := by decide +kernel
theorem kX2_append_18 : Cond.fieldLink RX2 18 "DrownedPost$Letters" "seal" "[I" ∈ wsX2_append := by decide +kernel
theorem kX2_append_21 : Cond.fieldLink RX2 21 "DrownedPost$Letters" "state" "[I" ∈ wsX2_append := by decide +kernel
theorem kX2_append_24 : Cond.fieldLink RX2 24 "DrownedPost$Letters" "growth" "[I" ∈ wsX2_append := by decide +kernel
theorem kX2_append_27 : Cond.fieldLink RX2 27 "DrownedPost$Letters" "bin" "[I" ∈ wsX2_append := by decide +kernel
theorem kX2_append_30 : Cond.fieldLink RX2 30 "DrownedPost$Letters" "held" "[I" ∈ wsX2_append := by decide +kernel
theorem kX2_append_33 : Cond.fieldLink RX2 33 "DrownedPost$Letters" "hoursBefore" "[I" ∈ wsX2_append := by decide +kernel
theorem kX2_append_36 : Cond.fieldLink RX2 36 "DrownedPost$Letters" "answered" "[I" ∈ wsX2_append := by decide +kernel
theorem kX2_append_39 : Cond.fieldLink RX2 39 "DrownedPost$Letters" "count" "I" ∈ wsX2_append := by decide +kernel
theorem kX2_append_9 : Cond.fieldLink RX2 9 "DrownedPost$Letters" "to" "[I" ∈ wsX2_append := by decide +kernel
def wb_X2_append_0 (Q : Int32 → SA → SV → Prop) (A : SA) (V : SV) (x1 : Int32) (x2 : Int32) (x3 : Int32) : Prop := (((V 3) < (150 : Int32) → (vp_in (V 3) 150 ∧ (∀ A2 : SA, A2 = up A 9 (V 3).toNatClampNeg x1 → (vp_in (V 3) 150 ∧ (∀ A3 : SA, A3 = up A2 10 (V 3).toNatClampNeg x2 → (vp_in (V 3) 150 ∧ (∀ A4 : SA, A4 = up A3 11 (V 3).toNatClampNeg x3 → (vp_in (V 3) 150 ∧ (∀ A5 : SA, A5 = up A4 12 (V 3).toNatClampNeg (0 : Int32) → (vp_in (V 3) 150 ∧ (∀ A6 : SA, A6 = up A5 13 (V 3).toNatClampNeg (0 : Int32) → (vp_in (V 3) 150 ∧ (∀ A7 : SA, A7 = up A6 14 (V 3).toNatClampNeg (-1 : Int32) → (vp_in (V 3) 150 ∧ (∀ A8 : SA, A8 = up A7 15 (V 3).toNatClampNeg (0 : Int32) → (vp_in (V 3) 150 ∧ (∀ A9 : SA, A9 = up A8 16 (V 3).toNatClampNeg (0 : Int32) → (vp_in (V 3) 150 ∧ (∀ A10 : SA, A10 = up A9 17 (V 3).toNatClampNeg (-1 : Int32) → (∀ V11 : SV, V11 = uv V 3 ((V 3) + (1 : Int32)) → Q (V 3) A10 V11)))))))))))))))))))) ∧ (¬ ((V 3) < (150 : Int32)) → Q (-1 : Int32) A V))
set_option maxHeartbeats 4000000 in
set_option maxRecDepth 100000 in
theorem wk_X2_append_0 (Q : Int32 → SA → SV → Prop) (cx : CX RX2 cX2_append 5 wsX2_append D [(cI, .int), (cZ, .boolean)] p s m args c A0) (hret : ∀ (pc : Nat) (ls : Array Slot) (r : Int32) (u : SA × SV) (H : Heap) (locs : List Loc), narrow .int (.int r) = .int r → decode cX2_append pc = .ok (.ireturn, 1) → Q r u.1 u.2 → WS D s A0 (wO ad cI cZ u.1 u.2) H locs → W p l e rmX2_append s m args below meth c H locs rmX2_append.cells rmX2_append.slots Z (F0 m pc ls [.int r]))  : ∀ (A : SA) (V : SV) (x1 : Int32) (x2 : Int32) (x3 : Int32) (h : wb_X2_append_0 Q A V x1 x2 x3) (H : Heap) (locs : List Loc) (ls : Array Slot) (hw : WS D s A0 (wO ad cI cZ A V) H locs) (hl : lv_has ls 5 [(0, .ref (ad 4)), (1, .int x1), (2, .int x2), (3, .int x3)]), W p l e rmX2_append s m args below meth c H locs 0 0 Z (F0 m 0 ls []) := by
  obtain ⟨hx, hb, hml, hown, hts, hK, hA⟩ := id cx
  intro A V x1 x2 x3 h H locs ls hw hl
  refine lv_aload_n (pc := 0) hx hb dX2_append_0 rfl (lv_at hl 0 rfl) ?_
  refine geO_X2_9 (pc := 1) cx inX2_append_X2 kX2_append_39 hw dX2_append_1 ?_
  refine lv_sipush (pc := 4) (v := (150 : Int32)) hx hb dX2_append_4 (by decide) ?_
  refine lv_icmp_lt (pc := 7) (tgt := 12) hx hb dX2_append_7 (by decide) (fun c1 => ?_) (fun c1 => ?_)
  · have h := h.1 c1
    refine lv_aload_n (pc := 12) hx hb dX2_append_12 rfl (lv_at hl 0 rfl) ?_
    refine geO_X2_9 (pc := 13) cx inX2_append_X2 kX2_append_39 hw dX2_append_13 ?_
    refine lv_istore (pc := 16) (lv' := [(4, .int (V 3)), (0, .ref (ad 4)), (1, .int x1), (2, .int x2), (3, .int x3)]) hx hb dX2_append_16 hl (by decide) rfl (fun ls hl => ?_)
    refine lv_aload_n (pc := 18) hx hb dX2_append_18 rfl (lv_at hl 1 rfl) ?_
    refine geO_X2_0 (pc := 19) cx inX2_append_X2 kX2_append_9 hw dX2_append_19 ?_
    refine lv_iload (pc := 22) hx hb dX2_append_22 (lv_at hl 0 rfl) ?_
    refine lv_iload_n (pc := 24) hx hb dX2_append_24 rfl (lv_at hl 2 rfl) ?_
    refine asO_9 (pc := 25) cx hw h.1 dX2_append_25 (fun A2 eA2 H locs hw => ?_)
    have h := h.2 A2 eA2
    refine lv_aload_n (pc := 26) hx hb dX2_append_26 rfl (lv_at hl 1 rfl) ?_
    refine geO_X2_1 (pc := 27) cx inX2_append_X2 kX2_append_15 hw dX2_append_27 ?_
    refine lv_iload (pc := 30) hx hb dX2_append_30 (lv_at hl 0 rfl) ?_
    refine lv_iload_n (pc := 32) hx hb dX2_append_32 rfl (lv_at hl 3 rfl) ?_
    refine asO_10 (pc := 33) cx hw h.1 dX2_append_33 (fun A3 eA3 H locs hw => ?_)
    have h := h.2 A3 eA3
    refine lv_aload_n (pc := 34) hx hb dX2_append_34 rfl (lv_at hl 1 rfl) ?_
    refine geO_X2_2 (pc := 35) cx inX2_append_X2 kX2_append_18 hw dX2_append_35 ?_
    refine lv_iload (pc := 38) hx hb dX2_append_38 (lv_at hl 0 rfl) ?_
    refine lv_iload_n (pc := 40) hx hb dX2_append_40 rfl (lv_at hl 4 rfl) ?_
    refine asO_11 (pc := 41) cx hw h.1 dX2_append_41 (fun A4 eA4 H locs hw => ?_)
    have h := h.2 A4 eA4
    refine lv_aload_n (pc := 42) hx hb dX2_append_42 rfl (lv_at hl 1 rfl) ?_
    refine geO_X2_3 (pc := 43) cx inX2_append_X2 kX2_append_21 hw dX2_append_43 ?_
    refine lv_iload (pc := 46) hx hb dX2_append_46 (lv_at hl 0 rfl) ?_
    refine lv_iconst (pc := 48) (v := (0 : Int32)) hx hb dX2_append_48 (by decide) ?_
    refine asO_12 (pc := 49) cx hw h.1 dX2_append_49 (fun A5 eA5 H locs hw => ?_)
    have h := h.2 A5 eA5
    refine lv_aload_n (pc := 50) hx hb dX2_append_50 rfl (lv_at hl 1 rfl) ?_
    refine geO_X2_4 (pc := 51) cx inX2_append_X2 kX2_append_24 hw dX2_append_51 ?_
    refine lv_iload (pc := 54) hx hb dX2_append_54 (lv_at hl 0 rfl) ?_
    refine lv_iconst (pc := 56) (v := (0 : Int32)) hx hb dX2_append_56 (by decide) ?_
    refine asO_13 (pc := 57) cx hw h.1 dX2_append_57 (fun A6 eA6 H locs hw => ?_)
    have h := h.2 A6 eA6
    refine lv_aload_n (pc := 58) hx hb dX2_append_58 rfl (lv_at hl 1 rfl) ?_
    refine geO_X2_5 (pc := 59) cx inX2_append_X2 kX2_append_27 hw dX2_append_59 ?_
    refine lv_iload (pc := 62) hx hb dX2_append_62 (lv_at hl 0 rfl) ?_
    refine lv_iconst (pc := 64) (v := (-1 : Int32)) hx hb dX2_append_64 (by decide) ?_
    refine asO_14 (pc := 65) cx hw h.1 dX2_append_65 (fun A7 eA7 H locs hw => ?_)
    have h := h.2 A7 eA7
    refine lv_aload_n (pc := 66) hx hb dX2_append_66 rfl (lv_at hl 1 rfl) ?_
    refine geO_X2_6 (pc := 67) cx inX2_append_X2 kX2_append_30 hw dX2_append_67 ?_
    refine lv_iload (pc := 70) hx hb dX2_append_70 (lv_at hl 0 rfl) ?_
    refine lv_iconst (pc := 72) (v := (0 : Int32)) hx hb dX2_append_72 (by decide) ?_
    refine asO_15 (pc := 73) cx hw h.1 dX2_append_73 (fun A8 eA8 H locs hw => ?_)
    have h := h.2 A8 eA8
    refine lv_aload_n (pc := 74) hx hb dX2_append_74 rfl (lv_at hl 1 rfl) ?_
    refine geO_X2_7 (pc := 75) cx inX2_append_X2 kX2_append_33 hw dX2_append_75 ?_
    refine lv_iload (pc := 78) hx hb dX2_append_78 (lv_at hl 0 rfl) ?_
    refine lv_iconst (pc := 80) (v := (0 : Int32)) hx hb dX2_append_80 (by decide) ?_
    refine asO_16 (pc := 81) cx hw h.1 dX2_append_81 (fun A9 eA9 H locs hw => ?_)
    have h := h.2 A9 eA9
    refine lv_aload_n (pc := 82) hx hb dX2_append_82 rfl (lv_at hl 1 rfl) ?_
    refine geO_X2_8 (pc := 83) cx inX2_append_X2 kX2_append_36 hw dX2_append_83 ?_
    refine lv_iload (pc := 86) hx hb dX2_append_86 (lv_at hl 0 rfl) ?_
    refine lv_iconst (pc := 88) (v := (-1 : Int32)) hx hb dX2_append_88 (by decide) ?_
    refine asO_17 (pc := 89) cx hw h.1 dX2_append_89 (fun A10 eA10 H locs hw => ?_)
    have h := h.2 A10 eA10
    refine lv_aload_n (pc := 90) hx hb dX2_append_90 rfl (lv_at hl 1 rfl) ?_
    refine lv_dup (pc := 91) hx hb dX2_append_91 rfl ?_
    refine geO_X2_9 (pc := 92) cx inX2_append_X2 kX2_append_39 hw dX2_append_92 ?_
    refine lv_iconst (pc := 95) (v := (1 : Int32)) hx hb dX2_append_95 (by decide) ?_
    refine lv_iadd (pc := 96) hx hb dX2_append_96 ?_
    refine puO_X2_9 (pc := 97) cx inX2_append_X2 kX2_append_39 hw dX2_append_97 (fun V11 eV11 H locs hw => ?_)
    have h := h V11 eV11
    refine lv_iload (pc := 100) hx hb dX2_append_100 (lv_at hl 0 rfl) ?_
    exact hret 102 _ _ (A10, V11) _ _ rfl dX2_append_102 h hw
  · have h := h.2 c1
    refine lv_iconst (pc := 10) (v := (-1 : Int32)) hx hb dX2_append_10 (by decide) ?_
    exact hret 11 _ _ (A, V) _ _ rfl dX2_append_11 h hw
def wpX2_append (A : SA) (V : SV) (x1 : Int32) (x2 : Int32) (x3 : Int32) (Q : Int32 → SA → SV → Prop) : Prop := wb_X2_append_0 Q A V x1 x2 x3
set_option maxHeartbeats 4000000 in
set_option maxRecDepth 100000 in
theorem metX2_append (l : Launch) (D : va_G) (cI cZ : ClassId) (ad : Nat → Nat) (sz : Nat) (A : SA) (V : SV) (x1 : Int32) (x2 : Int32) (x3 : Int32) (Q : Int32 → SA → SV → Prop) (h : wpX2_append A V x1 x2 x3 Q) : Met l yX2_append wsX2_append rmX2_append (PcW D [(cI, .int), (cZ, .boolean)] (wO ad cI cZ A V) sz [.ref (ad 4), .int x1, .int x2, .int x3]) (QiW D [(cI, .int), (cZ, .boolean)] (wO ad cI cZ A V) sz (fun u : SA × SV => (wO ad cI cZ u.1 u.2)) (fun r u => Q r u.1 u.2)) rmX2_append.cells rmX2_append.slots (va_A (wO ad cI cZ A V) sz) := by
  refine startI (plainFor_of_name (by decide)) rfl (Nat.le_of_ble_eq_true rfl) ?_
  intro p e s m args below meth c A0 Z cx hw hret ls hl
  exact wk_X2_append_0 Q cx hret A V x1 x2 x3 h _ _ _ hw hl
abbrev rmX2_answer : Room := { frames := 1, cells := 0, slots := 0, locals := 24 }
theorem inX2_answer_X2 : ∀ w ∈ wsX20, w ∈ wsX2_answer := by decide +kernel
theorem kX2_answer_15 : Cond.fieldLink RX2 15 "DrownedPost$Letters" "weight" "[I" ∈ wsX2_answer := by decide +kernel
theorem kX2_answer_18 : Cond.fieldLink RX2 18 "DrownedPost$Letters" "seal" "[I" ∈ wsX2_answer := by decide +kernel
theorem kX2_answer_21 : Cond.fieldLink RX2 21 "DrownedPost$Letters" "state" "[I" ∈ wsX2_answer := by decide +kernel
theorem kX2_answer_33 : Cond.fieldLink RX2 33 "DrownedPost$Letters" "hoursBefore" "[I" ∈ wsX2_answer := by decide +kernel
theorem kX2_answer_36 : Cond.fieldLink RX2 36 "DrownedPost$Letters" "answered" "[I" ∈ wsX2_answer := by decide +kernel
theorem kX2_answer_9 : Cond.fieldLink RX2 9 "DrownedPost$Letters" "to" "[I" ∈ wsX2_answer := by decide +kernel
def wb_X2_answer_0 (Q : Int32 → SA → SV → Prop) (A : SA) (V : SV) (x1 : Int32) (x2 : Int32) : Prop := (wpX2_has A V x1 (fun r1 A2 V3 => ((¬ r1 = 0 → (vp_in x1 150 ∧ (vp_in x1 150 ∧ (vp_in x1 150 ∧ (wpX2_append A2 V3 (A2 9 x1.toNatClampNeg) (A2 10 x1.toNatClampNeg) (A2 11 x1.toNatClampNeg) (fun r5 A6 V7 => (wpX2_has A6 V7 r5 (fun r8 A9 V10 => ((¬ r8 = 0 → (vp_in r5 150 ∧ (∀ A12 : SA, A12 = up A9 12 r5.toNatClampNeg (4 : Int32) → (vp_in r5 150 ∧ (∀ A13 : SA, A13 = up A12 16 r5.toNatClampNeg x2 → (vp_in r5 150 ∧ (∀ A14 : SA, A14 = up A13 17 r5.toNatClampNeg x1 → Q (1 : Int32) A14 V10))))))) ∧ (r8 = 0 → Q (0 : Int32) A9 V10)))))))))) ∧ (r1 = 0 → Q (0 : Int32) A2 V3))))
set_option maxHeartbeats 4000000 in
set_option maxRecDepth 100000 in
theorem wk_X2_answer_0 (Q : Int32 → SA → SV → Prop) (cx : CX RX2 cX2_answer 4 wsX2_answer D [(cI, .int), (cZ, .boolean)] p s m args c A0) (hret : ∀ (pc : Nat) (ls : Array Slot) (r : Int32) (u : SA × SV) (H : Heap) (locs : List Loc), narrow .boolean (.int r) = .int r → decode cX2_answer pc = .ok (.ireturn, 1) → Q r u.1 u.2 → WS D s A0 (wO ad cI cZ u.1 u.2) H locs → W p l e rmX2_answer s m args below meth c H locs rmX2_answer.cells rmX2_answer.slots Z (F0 m pc ls [.int r]))  : ∀ (A : SA) (V : SV) (x1 : Int32) (x2 : Int32) (h : wb_X2_answer_0 Q A V x1 x2) (H : Heap) (locs : List Loc) (ls : Array Slot) (hw : WS D s A0 (wO ad cI cZ A V) H locs) (hl : lv_has ls 4 [(0, .ref (ad 4)), (1, .int x1), (2, .int x2)]), W p l e rmX2_answer s m args below meth c H locs 0 0 Z (F0 m 0 ls []) := by
  obtain ⟨hx, hb, hml, hown, hts, hK, hA⟩ := id cx
  intro A V x1 x2 h H locs ls hw hl
  refine lv_aload_n (pc := 0) hx hb dX2_answer_0 rfl (lv_at hl 0 rfl) ?_
  refine lv_iload_n (pc := 1) hx hb dX2_answer_1 rfl (lv_at hl 1 rfl) ?_
  refine callVi (pc := 2) (rest := []) (c1 := 0) (s1 := 0) cx hw hl (metX2_has l D cI cZ ad H.size A V x1 _ h) (fun hts => cwV 1 hts gX2_answer_X2_has rfl rfl rfl (by decide +kernel) ⟨Nat.le_of_ble_eq_true rfl, Nat.le_of_ble_eq_true rfl⟩) SUB.rf [0, 1] rfl 4 (ci := 2) rfl rfl rfl (JN.rf) rfl rfl (Nat.le_of_ble_eq_true rfl) ⟨Nat.le_of_ble_eq_true rfl, Nat.le_of_ble_eq_true rfl⟩ rfl rfl dX2_answer_2 (fun r1 u H locs h hw => ?_)
  obtain ⟨A2, V3⟩ := u
  refine lv_if_ne (pc := 5) (tgt := 10) hx hb dX2_answer_5 (by decide) (fun c4 => ?_) (fun c4 => ?_)
  · have h := h.1 c4
    refine lv_aload_n (pc := 10) hx hb dX2_answer_10 rfl (lv_at hl 0 rfl) ?_
    refine lv_aload_n (pc := 11) hx hb dX2_answer_11 rfl (lv_at hl 0 rfl) ?_
    refine geO_X2_0 (pc := 12) cx inX2_answer_X2 kX2_answer_9 hw dX2_answer_12 ?_
    refine lv_iload_n (pc := 15) hx hb dX2_answer_15 rfl (lv_at hl 1 rfl) ?_
    refine alO_9 (pc := 16) cx hw h.1 dX2_answer_16 ?_
    have h := h.2
    refine lv_aload_n (pc := 17) hx hb dX2_answer_17 rfl (lv_at hl 0 rfl) ?_
    refine geO_X2_1 (pc := 18) cx inX2_answer_X2 kX2_answer_15 hw dX2_answer_18 ?_
    refine lv_iload_n (pc := 21) hx hb dX2_answer_21 rfl (lv_at hl 1 rfl) ?_
    refine alO_10 (pc := 22) cx hw h.1 dX2_answer_22 ?_
    have h := h.2
    refine lv_aload_n (pc := 23) hx hb dX2_answer_23 rfl (lv_at hl 0 rfl) ?_
    refine geO_X2_2 (pc := 24) cx inX2_answer_X2 kX2_answer_18 hw dX2_answer_24 ?_
    refine lv_iload_n (pc := 27) hx hb dX2_answer_27 rfl (lv_at hl 1 rfl) ?_
    refine alO_11 (pc := 28) cx hw h.1 dX2_answer_28 ?_
    have h := h.2
    refine callVi (pc := 29) (rest := []) (c1 := 0) (s1 := 0) cx hw hl (metX2_append l D cI cZ ad H.size A2 V3 (A2 9 x1.toNatClampNeg) (A2 10 x1.toNatClampNeg) (A2 11 x1.toNatClampNeg) _ h) (fun hts => cwV 3 hts gX2_answer_X2_append rfl rfl rfl (by decide +kernel) ⟨Nat.le_of_ble_eq_true rfl, Nat.le_of_ble_eq_true rfl⟩) SUB.rf [0, 1] rfl 4 (ci := 2) rfl rfl rfl (JN.rf) rfl rfl (Nat.le_of_ble_eq_true rfl) ⟨Nat.le_of_ble_eq_true rfl, Nat.le_of_ble_eq_true rfl⟩ rfl rfl dX2_answer_29 (fun r5 u H locs h hw => ?_)
    obtain ⟨A6, V7⟩ := u
    refine lv_istore_n (pc := 32) (lv' := [(3, .int r5), (0, .ref (ad 4)), (1, .int x1), (2, .int x2)]) hx hb dX2_answer_32 rfl hl (by decide) rfl (fun ls hl => ?_)
    refine lv_aload_n (pc := 33) hx hb dX2_answer_33 rfl (lv_at hl 1 rfl) ?_
    refine lv_iload_n (pc := 34) hx hb dX2_answer_34 rfl (lv_at hl 0 rfl) ?_
    refine callVi (pc := 35) (rest := []) (c1 := 0) (s1 := 0) cx hw hl (metX2_has l D cI cZ ad H.size A6 V7 r5 _ h) (fun hts => cwV 1 hts gX2_answer_X2_has rfl rfl rfl (by decide +kernel) ⟨Nat.le_of_ble_eq_true rfl, Nat.le_of_ble_eq_true rfl⟩) SUB.rf [0, 1] rfl 4 (ci := 2) rfl rfl rfl (JN.rf) rfl rfl (Nat.le_of_ble_eq_true rfl) ⟨Nat.le_of_ble_eq_true rfl, Nat.le_of_ble_eq_true rfl⟩ rfl rfl dX2_answer_35 (fun r8 u H locs h hw => ?_)
    obtain ⟨A9, V10⟩ := u
    refine lv_if_ne (pc := 38) (tgt := 43) hx hb dX2_answer_38 (by decide) (fun c11 => ?_) (fun c11 => ?_)
    · have h := h.1 c11
      refine lv_aload_n (pc := 43) hx hb dX2_answer_43 rfl (lv_at hl 1 rfl) ?_
      refine geO_X2_3 (pc := 44) cx inX2_answer_X2 kX2_answer_21 hw dX2_answer_44 ?_
      refine lv_iload_n (pc := 47) hx hb dX2_answer_47 rfl (lv_at hl 0 rfl) ?_
      refine lv_iconst (pc := 48) (v := (4 : Int32)) hx hb dX2_answer_48 (by decide) ?_
      refine asO_12 (pc := 49) cx hw h.1 dX2_answer_49 (fun A12 eA12 H locs hw => ?_)
      have h := h.2 A12 eA12
      refine lv_aload_n (pc := 50) hx hb dX2_answer_50 rfl (lv_at hl 1 rfl) ?_
      refine geO_X2_7 (pc := 51) cx inX2_answer_X2 kX2_answer_33 hw dX2_answer_51 ?_
      refine lv_iload_n (pc := 54) hx hb dX2_answer_54 rfl (lv_at hl 0 rfl) ?_
      refine lv_iload_n (pc := 55) hx hb dX2_answer_55 rfl (lv_at hl 3 rfl) ?_
      refine asO_16 (pc := 56) cx hw h.1 dX2_answer_56 (fun A13 eA13 H locs hw => ?_)
      have h := h.2 A13 eA13
      refine lv_aload_n (pc := 57) hx hb dX2_answer_57 rfl (lv_at hl 1 rfl) ?_
      refine geO_X2_8 (pc := 58) cx inX2_answer_X2 kX2_answer_36 hw dX2_answer_58 ?_
      refine lv_iload_n (pc := 61) hx hb dX2_answer_61 rfl (lv_at hl 0 rfl) ?_
      refine lv_iload_n (pc := 62) hx hb dX2_answer_62 rfl (lv_at hl 2 rfl) ?_
      refine asO_17 (pc := 63) cx hw h.1 dX2_answer_63 (fun A14 eA14 H locs hw => ?_)
      have h := h.2 A14 eA14
      refine lv_iconst (pc := 64) (v := (1 : Int32)) hx hb dX2_answer_64 (by decide) ?_
      exact hret 65 _ _ (A14, V10) _ _ rfl dX2_answer_65 h hw
    · have h := h.2 c11
      refine lv_iconst (pc := 41) (v := (0 : Int32)) hx hb dX2_answer_41 (by decide) ?_
      exact hret 42 _ _ (A9, V10) _ _ rfl dX2_answer_42 h hw
  · have h := h.2 c4
    refine lv_iconst (pc := 8) (v := (0 : Int32)) hx hb dX2_answer_8 (by decide) ?_
    exact hret 9 _ _ (A2, V3) _ _ rfl dX2_answer_9 h hw
def wpX2_answer (A : SA) (V : SV) (x1 : Int32) (x2 : Int32) (Q : Int32 → SA → SV → Prop) : Prop := wb_X2_answer_0 Q A V x1 x2
set_option maxHeartbeats 4000000 in
set_option maxRecDepth 100000 in
theorem metX2_answer (l : Launch) (D : va_G) (cI cZ : ClassId) (ad : Nat → Nat) (sz : Nat) (A : SA) (V : SV) (x1 : Int32) (x2 : Int32) (Q : Int32 → SA → SV → Prop) (h : wpX2_answer A V x1 x2 Q) : Met l yX2_answer wsX2_answer rmX2_answer (PcW D [(cI, .int), (cZ, .boolean)] (wO ad cI cZ A V) sz [.ref (ad 4), .int x1, .int x2]) (QiW D [(cI, .int), (cZ, .boolean)] (wO ad cI cZ A V) sz (fun u : SA × SV => (wO ad cI cZ u.1 u.2)) (fun r u => Q r u.1 u.2)) rmX2_answer.cells rmX2_answer.slots (va_A (wO ad cI cZ A V) sz) := by
  refine startI (plainFor_of_name (by decide)) rfl (Nat.le_of_ble_eq_true rfl) ?_
  intro p e s m args below meth c A0 Z cx hw hret ls hl
  exact wk_X2_answer_0 Q cx hret A V x1 x2 h _ _ _ hw hl
abbrev rmX2_inState : Room := { frames := 0, cells := 0, slots := 0, locals := 0 }
theorem inX2_inState_X2 : ∀ w ∈ wsX20, w ∈ wsX2_inState := by decide +kernel
theorem kX2_inState_21 : Cond.fieldLink RX2 21 "DrownedPost$Letters" "state" "[I" ∈ wsX2_inState := by decide +kernel
theorem kX2_inState_39 : Cond.fieldLink RX2 39 "DrownedPost$Letters" "count" "I" ∈ wsX2_inState := by decide +kernel
def wl_X2_inState_4 (Q : Int32 → SA → SV → Prop) : Nat → SA → SV → Int32 → Int32 → Int32 → Prop
  | 0, _, _, _, _, _ => False
  | n + 1, A, V, x1, x2, x3 => (((V 3) ≤ x3 → Q x2 A V) ∧ (¬ ((V 3) ≤ x3) → (vp_in x3 150 ∧ ((¬ (A 12 x3.toNatClampNeg) = x1 → wl_X2_inState_4 Q n A V x1 x2 (x3 + 1)) ∧ ((A 12 x3.toNatClampNeg) = x1 → wl_X2_inState_4 Q n A V x1 (x2 + 1) (x3 + 1))))))
set_option maxHeartbeats 4000000 in
set_option maxRecDepth 100000 in
theorem wk_X2_inState_4 (Q : Int32 → SA → SV → Prop) (cx : CX RX2 cX2_inState 4 wsX2_inState D [(cI, .int), (cZ, .boolean)] p s m args c A0) (hret : ∀ (pc : Nat) (ls : Array Slot) (r : Int32) (u : SA × SV) (H : Heap) (locs : List Loc), narrow .int (.int r) = .int r → decode cX2_inState pc = .ok (.ireturn, 1) → Q r u.1 u.2 → WS D s A0 (wO ad cI cZ u.1 u.2) H locs → W p l e rmX2_inState s m args below meth c H locs rmX2_inState.cells rmX2_inState.slots Z (F0 m pc ls [.int r]))  : ∀ (n : Nat) (A : SA) (V : SV) (x1 : Int32) (x2 : Int32) (x3 : Int32) (h : wl_X2_inState_4 Q n A V x1 x2 x3) (H : Heap) (locs : List Loc) (ls : Array Slot) (hw : WS D s A0 (wO ad cI cZ A V) H locs) (hl : lv_has ls 4 [(0, .ref (ad 4)), (1, .int x1), (2, .int x2), (3, .int x3)]), W p l e rmX2_inState s m args below meth c H locs 0 0 Z (F0 m 4 ls []) := by
  obtain ⟨hx, hb, hml, hown, hts, hK, hA⟩ := id cx
  intro n
  induction n with
  | zero => intro A V x1 x2 x3 h; exact False.elim h
  | succ n ih =>
    intro A V x1 x2 x3 h H locs ls hw hl
    refine lv_iload_n (pc := 4) hx hb dX2_inState_4 rfl (lv_at hl 3 rfl) ?_
    refine lv_aload_n (pc := 5) hx hb dX2_inState_5 rfl (lv_at hl 0 rfl) ?_
    refine geO_X2_9 (pc := 6) cx inX2_inState_X2 kX2_inState_39 hw dX2_inState_6 ?_
    refine lv_icmp_ge (pc := 9) (tgt := 31) hx hb dX2_inState_9 (by decide) (fun c1 => ?_) (fun c1 => ?_)
    · have h := h.1 c1
      refine lv_iload_n (pc := 31) hx hb dX2_inState_31 rfl (lv_at hl 2 rfl) ?_
      exact hret 32 _ _ (A, V) _ _ rfl dX2_inState_32 h hw
    · have h := h.2 c1
      refine lv_aload_n (pc := 12) hx hb dX2_inState_12 rfl (lv_at hl 0 rfl) ?_
      refine geO_X2_3 (pc := 13) cx inX2_inState_X2 kX2_inState_21 hw dX2_inState_13 ?_
      refine lv_iload_n (pc := 16) hx hb dX2_inState_16 rfl (lv_at hl 3 rfl) ?_
      refine alO_12 (pc := 17) cx hw h.1 dX2_inState_17 ?_
      have h := h.2
      refine lv_iload_n (pc := 18) hx hb dX2_inState_18 rfl (lv_at hl 1 rfl) ?_
      refine lv_icmp_ne (pc := 19) (tgt := 25) hx hb dX2_inState_19 (by decide) (fun c2 => ?_) (fun c2 => ?_)
      · have h := h.1 c2
        refine lv_iinc (pc := 25) (v := x3 + 1) (lv' := [(3, .int (x3 + 1)), (0, .ref (ad 4)), (1, .int x1), (2, .int x2)]) hx hb dX2_inState_25 hl (k := 3) rfl rfl (by decide) rfl (fun ls hl => ?_)
        refine lv_goto (pc := 28) (tgt := 4) hx hb dX2_inState_28 (by decide) ?_
        exact ih A V x1 x2 (x3 + 1) h _ _ _ hw (lv_sub hl [1, 2, 3, 0] rfl)
      · have h := h.2 c2
        refine lv_iinc (pc := 22) (v := x2 + 1) (lv' := [(2, .int (x2 + 1)), (0, .ref (ad 4)), (1, .int x1), (3, .int x3)]) hx hb dX2_inState_22 hl (k := 2) rfl rfl (by decide) rfl (fun ls hl => ?_)
        refine lv_iinc (pc := 25) (v := x3 + 1) (lv' := [(3, .int (x3 + 1)), (2, .int (x2 + 1)), (0, .ref (ad 4)), (1, .int x1)]) hx hb dX2_inState_25 hl (k := 3) rfl rfl (by decide) rfl (fun ls hl => ?_)
        refine lv_goto (pc := 28) (tgt := 4) hx hb dX2_inState_28 (by decide) ?_
        exact ih A V x1 (x2 + 1) (x3 + 1) h _ _ _ hw (lv_sub hl [2, 3, 1, 0] rfl)
def wb_X2_inState_0 (Q : Int32 → SA → SV → Prop) (A : SA) (V : SV) (x1 : Int32) : Prop := (∃ n4 : Nat, wl_X2_inState_4 Q n4 A V x1 (0 : Int32) (0 : Int32))
set_option maxHeartbeats 4000000 in
set_option maxRecDepth 100000 in
theorem wk_X2_inState_0 (Q : Int32 → SA → SV → Prop) (cx : CX RX2 cX2_inState 4 wsX2_inState D [(cI, .int), (cZ, .boolean)] p s m args c A0) (hret : ∀ (pc : Nat) (ls : Array Slot) (r : Int32) (u : SA × SV) (H : Heap) (locs : List Loc), narrow .int (.int r) = .int r → decode cX2_inState pc = .ok (.ireturn, 1) → Q r u.1 u.2 → WS D s A0 (wO ad cI cZ u.1 u.2) H locs → W p l e rmX2_inState s m args below meth c H locs rmX2_inState.cells rmX2_inState.slots Z (F0 m pc ls [.int r]))  : ∀ (A : SA) (V : SV) (x1 : Int32) (h : wb_X2_inState_0 Q A V x1) (H : Heap) (locs : List Loc) (ls : Array Slot) (hw : WS D s A0 (wO ad cI cZ A V) H locs) (hl : lv_has ls 4 [(0, .ref (ad 4)), (1, .int x1)]), W p l e rmX2_inState s m args below meth c H locs 0 0 Z (F0 m 0 ls []) := by
  obtain ⟨hx, hb, hml, hown, hts, hK, hA⟩ := id cx
  intro A V x1 h H locs ls hw hl
  refine lv_iconst (pc := 0) (v := (0 : Int32)) hx hb dX2_inState_0 (by decide) ?_
  refine lv_istore_n (pc := 1) (lv' := [(2, .int (0 : Int32)), (0, .ref (ad 4)), (1, .int x1)]) hx hb dX2_inState_1 rfl hl (by decide) rfl (fun ls hl => ?_)
  refine lv_iconst (pc := 2) (v := (0 : Int32)) hx hb dX2_inState_2 (by decide) ?_
  refine lv_istore_n (pc := 3) (lv' := [(3, .int (0 : Int32)), (2, .int (0 : Int32)), (0, .ref (ad 4)), (1, .int x1)]) hx hb dX2_inState_3 rfl hl (by decide) rfl (fun ls hl => ?_)
  obtain ⟨n4, h⟩ := h
  exact wk_X2_inState_4 Q cx hret  n4 A V x1 (0 : Int32) (0 : Int32) h _ _ _ hw (lv_sub hl [2, 3, 1, 0] rfl)
def wpX2_inState (A : SA) (V : SV) (x1 : Int32) (Q : Int32 → SA → SV → Prop) : Prop := wb_X2_inState_0 Q A V x1
set_option maxHeartbeats 4000000 in
set_option maxRecDepth 100000 in
theorem metX2_inState (l : Launch) (D : va_G) (cI cZ : ClassId) (ad : Nat → Nat) (sz : Nat) (A : SA) (V : SV) (x1 : Int32) (Q : Int32 → SA → SV → Prop) (h : wpX2_inState A V x1 Q) : Met l yX2_inState wsX2_inState rmX2_inState (PcW D [(cI, .int), (cZ, .boolean)] (wO ad cI cZ A V) sz [.ref (ad 4), .int x1]) (QiW D [(cI, .int), (cZ, .boolean)] (wO ad cI cZ A V) sz (fun u : SA × SV => (wO ad cI cZ u.1 u.2)) (fun r u => Q r u.1 u.2)) rmX2_inState.cells rmX2_inState.slots (va_A (wO ad cI cZ A V) sz) := by
  refine startI (plainFor_of_name (by decide)) rfl (Nat.le_of_ble_eq_true rfl) ?_
  intro p e s m args below meth c A0 Z cx hw hret ls hl
  exact wk_X2_inState_0 Q cx hret A V x1 h _ _ _ hw hl
abbrev rmX2_growthInBins : Room := { frames := 0, cells := 0, slots := 0, locals := 0 }
theorem inX2_growthInBins_X2 : ∀ w ∈ wsX20, w ∈ wsX2_growthInBins := by decide +kernel
theorem kX2_growthInBins_21 : Cond.fieldLink RX2 21 "DrownedPost$Letters" "state" "[I" ∈ wsX2_growthInBins := by decide +kernel
theorem kX2_growthInBins_24 : Cond.fieldLink RX2 24 "DrownedPost$Letters" "growth" "[I" ∈ wsX2_growthInBins := by decide +kernel
theorem kX2_growthInBins_39 : Cond.fieldLink RX2 39 "DrownedPost$Letters" "count" "I" ∈ wsX2_growthInBins := by decide +kernel
def wl_X2_growthInBins_4 (Q : Int32 → SA → SV → Prop) : Nat → SA → SV → Int32 → Int32 → Prop
  | 0, _, _, _, _ => False
  | n + 1, A, V, x1, x2 => (((V 3) ≤ x2 → Q x1 A V) ∧ (¬ ((V 3) ≤ x2) → (vp_in x2 150 ∧ ((¬ (A 12 x2.toNatClampNeg) = (1 : Int32) → wl_X2_growthInBins_4 Q n A V x1 (x2 + 1)) ∧ ((A 12 x2.toNatClampNeg) = (1 : Int32) → (vp_in x2 150 ∧ wl_X2_growthInBins_4 Q n A V (x1 + (A 13 x2.toNatClampNeg)) (x2 + 1)))))))
set_option maxHeartbeats 4000000 in
set_option maxRecDepth 100000 in
theorem wk_X2_growthInBins_4 (Q : Int32 → SA → SV → Prop) (cx : CX RX2 cX2_growthInBins 3 wsX2_growthInBins D [(cI, .int), (cZ, .boolean)] p s m args c A0) (hret : ∀ (pc : Nat) (ls : Array Slot) (r : Int32) (u : SA × SV) (H : Heap) (locs : List Loc), narrow .int (.int r) = .int r → decode cX2_growthInBins pc = .ok (.ireturn, 1) → Q r u.1 u.2 → WS D s A0 (wO ad cI cZ u.1 u.2) H locs → W p l e rmX2_growthInBins s m args below meth c H locs rmX2_growthInBins.cells rmX2_growthInBins.slots Z (F0 m pc ls [.int r]))  : ∀ (n : Nat) (A : SA) (V : SV) (x1 : Int32) (x2 : Int32) (h : wl_X2_growthInBins_4 Q n A V x1 x2) (H : Heap) (locs : List Loc) (ls : Array Slot) (hw : WS D s A0 (wO ad cI cZ A V) H locs) (hl : lv_has ls 3 [(0, .ref (ad 4)), (1, .int x1), (2, .int x2)]), W p l e rmX2_growthInBins s m args below meth c H locs 0 0 Z (F0 m 4 ls []) := by
  obtain ⟨hx, hb, hml, hown, hts, hK, hA⟩ := id cx
  intro n
  induction n with
  | zero => intro A V x1 x2 h; exact False.elim h
  | succ n ih =>
    intro A V x1 x2 h H locs ls hw hl
    refine lv_iload_n (pc := 4) hx hb dX2_growthInBins_4 rfl (lv_at hl 2 rfl) ?_
    refine lv_aload_n (pc := 5) hx hb dX2_growthInBins_5 rfl (lv_at hl 0 rfl) ?_
    refine geO_X2_9 (pc := 6) cx inX2_growthInBins_X2 kX2_growthInBins_39 hw dX2_growthInBins_6 ?_
    refine lv_icmp_ge (pc := 9) (tgt := 37) hx hb dX2_growthInBins_9 (by decide) (fun c1 => ?_) (fun c1 => ?_)
    · have h := h.1 c1
      refine lv_iload_n (pc := 37) hx hb dX2_growthInBins_37 rfl (lv_at hl 1 rfl) ?_
      exact hret 38 _ _ (A, V) _ _ rfl dX2_growthInBins_38 h hw
    · have h := h.2 c1
      refine lv_aload_n (pc := 12) hx hb dX2_growthInBins_12 rfl (lv_at hl 0 rfl) ?_
      refine geO_X2_3 (pc := 13) cx inX2_growthInBins_X2 kX2_growthInBins_21 hw dX2_growthInBins_13 ?_
      refine lv_iload_n (pc := 16) hx hb dX2_growthInBins_16 rfl (lv_at hl 2 rfl) ?_
      refine alO_12 (pc := 17) cx hw h.1 dX2_growthInBins_17 ?_
      have h := h.2
      refine lv_iconst (pc := 18) (v := (1 : Int32)) hx hb dX2_growthInBins_18 (by decide) ?_
      refine lv_icmp_ne (pc := 19) (tgt := 31) hx hb dX2_growthInBins_19 (by decide) (fun c2 => ?_) (fun c2 => ?_)
      · have h := h.1 c2
        refine lv_iinc (pc := 31) (v := x2 + 1) (lv' := [(2, .int (x2 + 1)), (0, .ref (ad 4)), (1, .int x1)]) hx hb dX2_growthInBins_31 hl (k := 2) rfl rfl (by decide) rfl (fun ls hl => ?_)
        refine lv_goto (pc := 34) (tgt := 4) hx hb dX2_growthInBins_34 (by decide) ?_
        exact ih A V x1 (x2 + 1) h _ _ _ hw (lv_sub hl [1, 2, 0] rfl)
      · have h := h.2 c2
        refine lv_iload_n (pc := 22) hx hb dX2_growthInBins_22 rfl (lv_at hl 1 rfl) ?_
        refine lv_aload_n (pc := 23) hx hb dX2_growthInBins_23 rfl (lv_at hl 0 rfl) ?_
        refine geO_X2_4 (pc := 24) cx inX2_growthInBins_X2 kX2_growthInBins_24 hw dX2_growthInBins_24 ?_
        refine lv_iload_n (pc := 27) hx hb dX2_growthInBins_27 rfl (lv_at hl 2 rfl) ?_
        refine alO_13 (pc := 28) cx hw h.1 dX2_growthInBins_28 ?_
        have h := h.2
        refine lv_iadd (pc := 29) hx hb dX2_growthInBins_29 ?_
        refine lv_istore_n (pc := 30) (lv' := [(1, .int (x1 + (A 13 x2.toNatClampNeg))), (0, .ref (ad 4)), (2, .int x2)]) hx hb dX2_growthInBins_30 rfl hl (by decide) rfl (fun ls hl => ?_)
        refine lv_iinc (pc := 31) (v := x2 + 1) (lv' := [(2, .int (x2 + 1)), (1, .int (x1 + (A 13 x2.toNatClampNeg))), (0, .ref (ad 4))]) hx hb dX2_growthInBins_31 hl (k := 2) rfl rfl (by decide) rfl (fun ls hl => ?_)
        refine lv_goto (pc := 34) (tgt := 4) hx hb dX2_growthInBins_34 (by decide) ?_
        exact ih A V (x1 + (A 13 x2.toNatClampNeg)) (x2 + 1) h _ _ _ hw (lv_sub hl [2, 1, 0] rfl)
def wb_X2_growthInBins_0 (Q : Int32 → SA → SV → Prop) (A : SA) (V : SV) : Prop := (∃ n4 : Nat, wl_X2_growthInBins_4 Q n4 A V (0 : Int32) (0 : Int32))
set_option maxHeartbeats 4000000 in
set_option maxRecDepth 100000 in
theorem wk_X2_growthInBins_0 (Q : Int32 → SA → SV → Prop) (cx : CX RX2 cX2_growthInBins 3 wsX2_growthInBins D [(cI, .int), (cZ, .boolean)] p s m args c A0) (hret : ∀ (pc : Nat) (ls : Array Slot) (r : Int32) (u : SA × SV) (H : Heap) (locs : List Loc), narrow .int (.int r) = .int r → decode cX2_growthInBins pc = .ok (.ireturn, 1) → Q r u.1 u.2 → WS D s A0 (wO ad cI cZ u.1 u.2) H locs → W p l e rmX2_growthInBins s m args below meth c H locs rmX2_growthInBins.cells rmX2_growthInBins.slots Z (F0 m pc ls [.int r]))  : ∀ (A : SA) (V : SV) (h : wb_X2_growthInBins_0 Q A V) (H : Heap) (locs : List Loc) (ls : Array Slot) (hw : WS D s A0 (wO ad cI cZ A V) H locs) (hl : lv_has ls 3 [(0, .ref (ad 4))]), W p l e rmX2_growthInBins s m args below meth c H locs 0 0 Z (F0 m 0 ls []) := by
  obtain ⟨hx, hb, hml, hown, hts, hK, hA⟩ := id cx
  intro A V h H locs ls hw hl
  refine lv_iconst (pc := 0) (v := (0 : Int32)) hx hb dX2_growthInBins_0 (by decide) ?_
  refine lv_istore_n (pc := 1) (lv' := [(1, .int (0 : Int32)), (0, .ref (ad 4))]) hx hb dX2_growthInBins_1 rfl hl (by decide) rfl (fun ls hl => ?_)
  refine lv_iconst (pc := 2) (v := (0 : Int32)) hx hb dX2_growthInBins_2 (by decide) ?_
  refine lv_istore_n (pc := 3) (lv' := [(2, .int (0 : Int32)), (1, .int (0 : Int32)), (0, .ref (ad 4))]) hx hb dX2_growthInBins_3 rfl hl (by decide) rfl (fun ls hl => ?_)
  obtain ⟨n4, h⟩ := h
  exact wk_X2_growthInBins_4 Q cx hret  n4 A V (0 : Int32) (0 : Int32) h _ _ _ hw (lv_sub hl [2, 1, 0] rfl)
def wpX2_growthInBins (A : SA) (V : SV)  (Q : Int32 → SA → SV → Prop) : Prop := wb_X2_growthInBins_0 Q A V
set_option maxHeartbeats 4000000 in
set_option maxRecDepth 100000 in
theorem metX2_growthInBins (l : Launch) (D : va_G) (cI cZ : ClassId) (ad : Nat → Nat) (sz : Nat) (A : SA) (V : SV)  (Q : Int32 → SA → SV → Prop) (h : wpX2_growthInBins A V  Q) : Met l yX2_growthInBins wsX2_growthInBins rmX2_growthInBins (PcW D [(cI, .int), (cZ, .boolean)] (wO ad cI cZ A V) sz [.ref (ad 4)]) (QiW D [(cI, .int), (cZ, .boolean)] (wO ad cI cZ A V) sz (fun u : SA × SV => (wO ad cI cZ u.1 u.2)) (fun r u => Q r u.1 u.2)) rmX2_growthInBins.cells rmX2_growthInBins.slots (va_A (wO ad cI cZ A V) sz) := by
  refine startI (plainFor_of_name (by decide)) rfl (Nat.le_of_ble_eq_true rfl) ?_
  intro p e s m args below meth c A0 Z cx hw hret ls hl
  exact wk_X2_growthInBins_0 Q cx hret A V h _ _ _ hw hl
abbrev rmX2_growthIn : Room := { frames := 0, cells := 0, slots := 0, locals := 0 }
theorem inX2_growthIn_X2 : ∀ w ∈ wsX20, w ∈ wsX2_growthIn := by decide +kernel
theorem kX2_growthIn_21 : Cond.fieldLink RX2 21 "DrownedPost$Letters" "state" "[I" ∈ wsX2_growthIn := by decide +kernel
theorem kX2_growthIn_24 : Cond.fieldLink RX2 24 "DrownedPost$Letters" "growth" "[I" ∈ wsX2_growthIn := by decide +kernel
theorem kX2_growthIn_27 : Cond.fieldLink RX2 27 "DrownedPost$Letters" "bin" "[I" ∈ wsX2_growthIn := by decide +kernel
theorem kX2_growthIn_39 : Cond.fieldLink RX2 39 "DrownedPost$Letters" "count" "I" ∈ wsX2_growthIn := by decide +kernel
def wl_X2_growthIn_4 (Q : Int32 → SA → SV → Prop) : Nat → SA → SV → Int32 → Int32 → Int32 → Prop
  | 0, _, _, _, _, _ => False
  | n + 1, A, V, x1, x2, x3 => (((V 3) ≤ x3 → Q x2 A V) ∧ (¬ ((V 3) ≤ x3) → (vp_in x3 150 ∧ ((¬ (A 12 x3.toNatClampNeg) = (1 : Int32) → wl_X2_growthIn_4 Q n A V x1 x2 (x3 + 1)) ∧ ((A 12 x3.toNatClampNeg) = (1 : Int32) → (vp_in x3 150 ∧ ((¬ (A 14 x3.toNatClampNeg) = x1 → wl_X2_growthIn_4 Q n A V x1 x2 (x3 + 1)) ∧ ((A 14 x3.toNatClampNeg) = x1 → (vp_in x3 150 ∧ wl_X2_growthIn_4 Q n A V x1 (x2 + (A 13 x3.toNatClampNeg)) (x3 + 1))))))))))
set_option maxHeartbeats 4000000 in
set_option maxRecDepth 100000 in
theorem wk_X2_growthIn_4 (Q : Int32 → SA → SV → Prop) (cx : CX RX2 cX2_growthIn 4 wsX2_growthIn D [(cI, .int), (cZ, .boolean)] p s m args c A0) (hret : ∀ (pc : Nat) (ls : Array Slot) (r : Int32) (u : SA × SV) (H : Heap) (locs : List Loc), narrow .int (.int r) = .int r → decode cX2_growthIn pc = .ok (.ireturn, 1) → Q r u.1 u.2 → WS D s A0 (wO ad cI cZ u.1 u.2) H locs → W p l e rmX2_growthIn s m args below meth c H locs rmX2_growthIn.cells rmX2_growthIn.slots Z (F0 m pc ls [.int r]))  : ∀ (n : Nat) (A : SA) (V : SV) (x1 : Int32) (x2 : Int32) (x3 : Int32) (h : wl_X2_growthIn_4 Q n A V x1 x2 x3) (H : Heap) (locs : List Loc) (ls : Array Slot) (hw : WS D s A0 (wO ad cI cZ A V) H locs) (hl : lv_has ls 4 [(0, .ref (ad 4)), (1, .int x1), (2, .int x2), (3, .int x3)]), W p l e rmX2_growthIn s m args below meth c H locs 0 0 Z (F0 m 4 ls []) := by
  obtain ⟨hx, hb, hml, hown, hts, hK, hA⟩ := id cx
  intro n
  induction n with
  | zero => intro A V x1 x2 x3 h; exact False.elim h
  | succ n ih =>
    intro A V x1 x2 x3 h H locs ls hw hl
    refine lv_iload_n (pc := 4) hx hb dX2_growthIn_4 rfl (lv_at hl 3 rfl) ?_
    refine lv_aload_n (pc := 5) hx hb dX2_growthIn_5 rfl (lv_at hl 0 rfl) ?_
    refine geO_X2_9 (pc := 6) cx inX2_growthIn_X2 kX2_growthIn_39 hw dX2_growthIn_6 ?_
    refine lv_icmp_ge (pc := 9) (tgt := 47) hx hb dX2_growthIn_9 (by decide) (fun c1 => ?_) (fun c1 => ?_)
    · have h := h.1 c1
      refine lv_iload_n (pc := 47) hx hb dX2_growthIn_47 rfl (lv_at hl 2 rfl) ?_
      exact hret 48 _ _ (A, V) _ _ rfl dX2_growthIn_48 h hw
    · have h := h.2 c1
      refine lv_aload_n (pc := 12) hx hb dX2_growthIn_12 rfl (lv_at hl 0 rfl) ?_
      refine geO_X2_3 (pc := 13) cx inX2_growthIn_X2 kX2_growthIn_21 hw dX2_growthIn_13 ?_
      refine lv_iload_n (pc := 16) hx hb dX2_growthIn_16 rfl (lv_at hl 3 rfl) ?_
      refine alO_12 (pc := 17) cx hw h.1 dX2_growthIn_17 ?_
      have h := h.2
      refine lv_iconst (pc := 18) (v := (1 : Int32)) hx hb dX2_growthIn_18 (by decide) ?_
      refine lv_icmp_ne (pc := 19) (tgt := 41) hx hb dX2_growthIn_19 (by decide) (fun c2 => ?_) (fun c2 => ?_)
      · have h := h.1 c2
        refine lv_iinc (pc := 41) (v := x3 + 1) (lv' := [(3, .int (x3 + 1)), (0, .ref (ad 4)), (1, .int x1), (2, .int x2)]) hx hb dX2_growthIn_41 hl (k := 3) rfl rfl (by decide) rfl (fun ls hl => ?_)
        refine lv_goto (pc := 44) (tgt := 4) hx hb dX2_growthIn_44 (by decide) ?_
        exact ih A V x1 x2 (x3 + 1) h _ _ _ hw (lv_sub hl [1, 2, 3, 0] rfl)
      · have h := h.2 c2
        refine lv_aload_n (pc := 22) hx hb dX2_growthIn_22 rfl (lv_at hl 0 rfl) ?_
        refine geO_X2_5 (pc := 23) cx inX2_growthIn_X2 kX2_growthIn_27 hw dX2_growthIn_23 ?_
        refine lv_iload_n (pc := 26) hx hb dX2_growthIn_26 rfl (lv_at hl 3 rfl) ?_
        refine alO_14 (pc := 27) cx hw h.1 dX2_growthIn_27 ?_
        have h := h.2
        refine lv_iload_n (pc := 28) hx hb dX2_growthIn_28 rfl (lv_at hl 1 rfl) ?_
        refine lv_icmp_ne (pc := 29) (tgt := 41) hx hb dX2_growthIn_29 (by decide) (fun c3 => ?_) (fun c3 => ?_)
        · have h := h.1 c3
          refine lv_iinc (pc := 41) (v := x3 + 1) (lv' := [(3, .int (x3 + 1)), (0, .ref (ad 4)), (1, .int x1), (2, .int x2)]) hx hb dX2_growthIn_41 hl (k := 3) rfl rfl (by decide) rfl (fun ls hl => ?_)
          refine lv_goto (pc := 44) (tgt := 4) hx hb dX2_growthIn_44 (by decide) ?_
          exact ih A V x1 x2 (x3 + 1) h _ _ _ hw (lv_sub hl [1, 2, 3, 0] rfl)
        · have h := h.2 c3
          refine lv_iload_n (pc := 32) hx hb dX2_growthIn_32 rfl (lv_at hl 2 rfl) ?_
          refine lv_aload_n (pc := 33) hx hb dX2_growthIn_33 rfl (lv_at hl 0 rfl) ?_
          refine geO_X2_4 (pc := 34) cx inX2_growthIn_X2 kX2_growthIn_24 hw dX2_growthIn_34 ?_
          refine lv_iload_n (pc := 37) hx hb dX2_growthIn_37 rfl (lv_at hl 3 rfl) ?_
          refine alO_13 (pc := 38) cx hw h.1 dX2_growthIn_38 ?_
          have h := h.2
          refine lv_iadd (pc := 39) hx hb dX2_growthIn_39 ?_
          refine lv_istore_n (pc := 40) (lv' := [(2, .int (x2 + (A 13 x3.toNatClampNeg))), (0, .ref (ad 4)), (1, .int x1), (3, .int x3)]) hx hb dX2_growthIn_40 rfl hl (by decide) rfl (fun ls hl => ?_)
          refine lv_iinc (pc := 41) (v := x3 + 1) (lv' := [(3, .int (x3 + 1)), (2, .int (x2 + (A 13 x3.toNatClampNeg))), (0, .ref (ad 4)), (1, .int x1)]) hx hb dX2_growthIn_41 hl (k := 3) rfl rfl (by decide) rfl (fun ls hl => ?_)
          refine lv_goto (pc := 44) (tgt := 4) hx hb dX2_growthIn_44 (by decide) ?_
          exact ih A V x1 (x2 + (A 13 x3.toNatClampNeg)) (x3 + 1) h _ _ _ hw (lv_sub hl [2, 3, 1, 0] rfl)
def wb_X2_growthIn_0 (Q : Int32 → SA → SV → Prop) (A : SA) (V : SV) (x1 : Int32) : Prop := (∃ n4 : Nat, wl_X2_growthIn_4 Q n4 A V x1 (0 : Int32) (0 : Int32))
set_option maxHeartbeats 4000000 in
set_option maxRecDepth 100000 in
theorem wk_X2_growthIn_0 (Q : Int32 → SA → SV → Prop) (cx : CX RX2 cX2_growthIn 4 wsX2_growthIn D [(cI, .int), (cZ, .boolean)] p s m args c A0) (hret : ∀ (pc : Nat) (ls : Array Slot) (r : Int32) (u : SA × SV) (H : Heap) (locs : List Loc), narrow .int (.int r) = .int r → decode cX2_growthIn pc = .ok (.ireturn, 1) → Q r u.1 u.2 → WS D s A0 (wO ad cI cZ u.1 u.2) H locs → W p l e rmX2_growthIn s m args below meth c H locs rmX2_growthIn.cells rmX2_growthIn.slots Z (F0 m pc ls [.int r]))  : ∀ (A : SA) (V : SV) (x1 : Int32) (h : wb_X2_growthIn_0 Q A V x1) (H : Heap) (locs : List Loc) (ls : Array Slot) (hw : WS D s A0 (wO ad cI cZ A V) H locs) (hl : lv_has ls 4 [(0, .ref (ad 4)), (1, .int x1)]), W p l e rmX2_growthIn s m args below meth c H locs 0 0 Z (F0 m 0 ls []) := by
  obtain ⟨hx, hb, hml, hown, hts, hK, hA⟩ := id cx
  intro A V x1 h H locs ls hw hl
  refine lv_iconst (pc := 0) (v := (0 : Int32)) hx hb dX2_growthIn_0 (by decide) ?_
  refine lv_istore_n (pc := 1) (lv' := [(2, .int (0 : Int32)), (0, .ref (ad 4)), (1, .int x1)]) hx hb dX2_growthIn_1 rfl hl (by decide) rfl (fun ls hl => ?_)
  refine lv_iconst (pc := 2) (v := (0 : Int32)) hx hb dX2_growthIn_2 (by decide) ?_
  refine lv_istore_n (pc := 3) (lv' := [(3, .int (0 : Int32)), (2, .int (0 : Int32)), (0, .ref (ad 4)), (1, .int x1)]) hx hb dX2_growthIn_3 rfl hl (by decide) rfl (fun ls hl => ?_)
  obtain ⟨n4, h⟩ := h
  exact wk_X2_growthIn_4 Q cx hret  n4 A V x1 (0 : Int32) (0 : Int32) h _ _ _ hw (lv_sub hl [2, 3, 1, 0] rfl)
def wpX2_growthIn (A : SA) (V : SV) (x1 : Int32) (Q : Int32 → SA → SV → Prop) : Prop := wb_X2_growthIn_0 Q A V x1
set_option maxHeartbeats 4000000 in
set_option maxRecDepth 100000 in
theorem metX2_growthIn (l : Launch) (D : va_G) (cI cZ : ClassId) (ad : Nat → Nat) (sz : Nat) (A : SA) (V : SV) (x1 : Int32) (Q : Int32 → SA → SV → Prop) (h : wpX2_growthIn A V x1 Q) : Met l yX2_growthIn wsX2_growthIn rmX2_growthIn (PcW D [(cI, .int), (cZ, .boolean)] (wO ad cI cZ A V) sz [.ref (ad 4), .int x1]) (QiW D [(cI, .int), (cZ, .boolean)] (wO ad cI cZ A V) sz (fun u : SA × SV => (wO ad cI cZ u.1 u.2)) (fun r u => Q r u.1 u.2)) rmX2_growthIn.cells rmX2_growthIn.slots (va_A (wO ad cI cZ A V) sz) := by
  refine startI (plainFor_of_name (by decide)) rfl (Nat.le_of_ble_eq_true rfl) ?_
  intro p e s m args below meth c A0 Z cx hw hret ls hl
  exact wk_X2_growthIn_0 Q cx hret A V x1 h _ _ _ hw hl
abbrev rmX2_heaviestInOffice : Room := { frames := 0, cells := 0, slots := 0, locals := 0 }
theorem inX2_heaviestInOffice_X2 : ∀ w ∈ wsX20, w ∈ wsX2_heaviestInOffice := by decide +kernel
theorem kX2_heaviestInOffice_15 : Cond.fieldLink RX2 15 "DrownedPost$Letters" "weight" "[I" ∈ wsX2_heaviestInOffice := by decide +kernel
theorem kX2_heaviestInOffice_21 : Cond.fieldLink RX2 21 "DrownedPost$Letters" "state" "[I" ∈ wsX2_heaviestInOffice := by decide +kernel
theorem kX2_heaviestInOffice_39 : Cond.fieldLink RX2 39 "DrownedPost$Letters" "count" "I" ∈ wsX2_heaviestInOffice := by decide +kernel
def wl_X2_heaviestInOffice_4 (Q : Int32 → SA → SV → Prop) : Nat → SA → SV → Int32 → Int32 → Prop
  | 0, _, _, _, _ => False
  | n + 1, A, V, x1, x2 => (((V 3) ≤ x2 → Q x1 A V) ∧ (¬ ((V 3) ≤ x2) → (vp_in x2 150 ∧ ((¬ (A 12 x2.toNatClampNeg) = 0 → wl_X2_heaviestInOffice_4 Q n A V x1 (x2 + 1)) ∧ ((A 12 x2.toNatClampNeg) = 0 → ((x1 = (-1 : Int32) → wl_X2_heaviestInOffice_4 Q n A V x2 (x2 + 1)) ∧ (¬ (x1 = (-1 : Int32)) → (vp_in x2 150 ∧ (vp_in x1 150 ∧ (((A 10 x2.toNatClampNeg) ≤ (A 10 x1.toNatClampNeg) → wl_X2_heaviestInOffice_4 Q n A V x1 (x2 + 1)) ∧ (¬ ((A 10 x2.toNatClampNeg) ≤ (A 10 x1.toNatClampNeg)) → wl_X2_heaviestInOffice_4 Q n A V x2 (x2 + 1))))))))))))
set_option maxHeartbeats 4000000 in
set_option maxRecDepth 100000 in
theorem wk_X2_heaviestInOffice_4 (Q : Int32 → SA → SV → Prop) (cx : CX RX2 cX2_heaviestInOffice 3 wsX2_heaviestInOffice D [(cI, .int), (cZ, .boolean)] p s m args c A0) (hret : ∀ (pc : Nat) (ls : Array Slot) (r : Int32) (u : SA × SV) (H : Heap) (locs : List Loc), narrow .int (.int r) = .int r → decode cX2_heaviestInOffice pc = .ok (.ireturn, 1) → Q r u.1 u.2 → WS D s A0 (wO ad cI cZ u.1 u.2) H locs → W p l e rmX2_heaviestInOffice s m args below meth c H locs rmX2_heaviestInOffice.cells rmX2_heaviestInOffice.slots Z (F0 m pc ls [.int r]))  : ∀ (n : Nat) (A : SA) (V : SV) (x1 : Int32) (x2 : Int32) (h : wl_X2_heaviestInOffice_4 Q n A V x1 x2) (H : Heap) (locs : List Loc) (ls : Array Slot) (hw : WS D s A0 (wO ad cI cZ A V) H locs) (hl : lv_has ls 3 [(0, .ref (ad 4)), (1, .int x1), (2, .int x2)]), W p l e rmX2_heaviestInOffice s m args below meth c H locs 0 0 Z (F0 m 4 ls []) := by
  obtain ⟨hx, hb, hml, hown, hts, hK, hA⟩ := id cx
  intro n
  induction n with
  | zero => intro A V x1 x2 h; exact False.elim h
  | succ n ih =>
    intro A V x1 x2 h H locs ls hw hl
    refine lv_iload_n (pc := 4) hx hb dX2_heaviestInOffice_4 rfl (lv_at hl 2 rfl) ?_
    refine lv_aload_n (pc := 5) hx hb dX2_heaviestInOffice_5 rfl (lv_at hl 0 rfl) ?_
    refine geO_X2_9 (pc := 6) cx inX2_heaviestInOffice_X2 kX2_heaviestInOffice_39 hw dX2_heaviestInOffice_6 ?_
    refine lv_icmp_ge (pc := 9) (tgt := 49) hx hb dX2_heaviestInOffice_9 (by decide) (fun c1 => ?_) (fun c1 => ?_)
    · have h := h.1 c1
      refine lv_iload_n (pc := 49) hx hb dX2_heaviestInOffice_49 rfl (lv_at hl 1 rfl) ?_
      exact hret 50 _ _ (A, V) _ _ rfl dX2_heaviestInOffice_50 h hw
    · have h := h.2 c1
      refine lv_aload_n (pc := 12) hx hb dX2_heaviestInOffice_12 rfl (lv_at hl 0 rfl) ?_
      refine geO_X2_3 (pc := 13) cx inX2_heaviestInOffice_X2 kX2_heaviestInOffice_21 hw dX2_heaviestInOffice_13 ?_
      refine lv_iload_n (pc := 16) hx hb dX2_heaviestInOffice_16 rfl (lv_at hl 2 rfl) ?_
      refine alO_12 (pc := 17) cx hw h.1 dX2_heaviestInOffice_17 ?_
      have h := h.2
      refine lv_if_ne (pc := 18) (tgt := 43) hx hb dX2_heaviestInOffice_18 (by decide) (fun c2 => ?_) (fun c2 => ?_)
      · have h := h.1 c2
        refine lv_iinc (pc := 43) (v := x2 + 1) (lv' := [(2, .int (x2 + 1)), (0, .ref (ad 4)), (1, .int x1)]) hx hb dX2_heaviestInOffice_43 hl (k := 2) rfl rfl (by decide) rfl (fun ls hl => ?_)
        refine lv_goto (pc := 46) (tgt := 4) hx hb dX2_heaviestInOffice_46 (by decide) ?_
        exact ih A V x1 (x2 + 1) h _ _ _ hw (lv_sub hl [1, 2, 0] rfl)
      · have h := h.2 c2
        refine lv_iload_n (pc := 21) hx hb dX2_heaviestInOffice_21 rfl (lv_at hl 1 rfl) ?_
        refine lv_iconst (pc := 22) (v := (-1 : Int32)) hx hb dX2_heaviestInOffice_22 (by decide) ?_
        refine lv_icmp_eq (pc := 23) (tgt := 41) hx hb dX2_heaviestInOffice_23 (by decide) (fun c3 => ?_) (fun c3 => ?_)
        · have h := h.1 c3
          refine lv_iload_n (pc := 41) hx hb dX2_heaviestInOffice_41 rfl (lv_at hl 2 rfl) ?_
          refine lv_istore_n (pc := 42) (lv' := [(1, .int x2), (0, .ref (ad 4)), (2, .int x2)]) hx hb dX2_heaviestInOffice_42 rfl hl (by decide) rfl (fun ls hl => ?_)
          refine lv_iinc (pc := 43) (v := x2 + 1) (lv' := [(2, .int (x2 + 1)), (1, .int x2), (0, .ref (ad 4))]) hx hb dX2_heaviestInOffice_43 hl (k := 2) rfl rfl (by decide) rfl (fun ls hl => ?_)
          refine lv_goto (pc := 46) (tgt := 4) hx hb dX2_heaviestInOffice_46 (by decide) ?_
          exact ih A V x2 (x2 + 1) h _ _ _ hw (lv_sub hl [2, 1, 0] rfl)
        · have h := h.2 c3
          refine lv_aload_n (pc := 26) hx hb dX2_heaviestInOffice_26 rfl (lv_at hl 0 rfl) ?_
          refine geO_X2_1 (pc := 27) cx inX2_heaviestInOffice_X2 kX2_heaviestInOffice_15 hw dX2_heaviestInOffice_27 ?_
          refine lv_iload_n (pc := 30) hx hb dX2_heaviestInOffice_30 rfl (lv_at hl 2 rfl) ?_
          refine alO_10 (pc := 31) cx hw h.1 dX2_heaviestInOffice_31 ?_
          have h := h.2
          refine lv_aload_n (pc := 32) hx hb dX2_heaviestInOffice_32 rfl (lv_at hl 0 rfl) ?_
          refine geO_X2_1 (pc := 33) cx inX2_heaviestInOffice_X2 kX2_heaviestInOffice_15 hw dX2_heaviestInOffice_33 ?_
          refine lv_iload_n (pc := 36) hx hb dX2_heaviestInOffice_36 rfl (lv_at hl 1 rfl) ?_
          refine alO_10 (pc := 37) cx hw h.1 dX2_heaviestInOffice_37 ?_
          have h := h.2
          refine lv_icmp_le (pc := 38) (tgt := 43) hx hb dX2_heaviestInOffice_38 (by decide) (fun c4 => ?_) (fun c4 => ?_)
          · have h := h.1 c4
            refine lv_iinc (pc := 43) (v := x2 + 1) (lv' := [(2, .int (x2 + 1)), (0, .ref (ad 4)), (1, .int x1)]) hx hb dX2_heaviestInOffice_43 hl (k := 2) rfl rfl (by decide) rfl (fun ls hl => ?_)
            refine lv_goto (pc := 46) (tgt := 4) hx hb dX2_heaviestInOffice_46 (by decide) ?_
            exact ih A V x1 (x2 + 1) h _ _ _ hw (lv_sub hl [1, 2, 0] rfl)
          · have h := h.2 c4
            refine lv_iload_n (pc := 41) hx hb dX2_heaviestInOffice_41 rfl (lv_at hl 2 rfl) ?_
            refine lv_istore_n (pc := 42) (lv' := [(1, .int x2), (0, .ref (ad 4)), (2, .int x2)]) hx hb dX2_heaviestInOffice_42 rfl hl (by decide) rfl (fun ls hl => ?_)
            refine lv_iinc (pc := 43) (v := x2 + 1) (lv' := [(2, .int (x2 + 1)), (1, .int x2), (0, .ref (ad 4))]) hx hb dX2_heaviestInOffice_43 hl (k := 2) rfl rfl (by decide) rfl (fun ls hl => ?_)
            refine lv_goto (pc := 46) (tgt := 4) hx hb dX2_heaviestInOffice_46 (by decide) ?_
            exact ih A V x2 (x2 + 1) h _ _ _ hw (lv_sub hl [2, 1, 0] rfl)
def wb_X2_heaviestInOffice_0 (Q : Int32 → SA → SV → Prop) (A : SA) (V : SV) : Prop := (∃ n4 : Nat, wl_X2_heaviestInOffice_4 Q n4 A V (-1 : Int32) (0 : Int32))
set_option maxHeartbeats 4000000 in
set_option maxRecDepth 100000 in
theorem wk_X2_heaviestInOffice_0 (Q : Int32 → SA → SV → Prop) (cx : CX RX2 cX2_heaviestInOffice 3 wsX2_heaviestInOffice D [(cI, .int), (cZ, .boolean)] p s m args c A0) (hret : ∀ (pc : Nat) (ls : Array Slot) (r : Int32) (u : SA × SV) (H : Heap) (locs : List Loc), narrow .int (.int r) = .int r → decode cX2_heaviestInOffice pc = .ok (.ireturn, 1) → Q r u.1 u.2 → WS D s A0 (wO ad cI cZ u.1 u.2) H locs → W p l e rmX2_heaviestInOffice s m args below meth c H locs rmX2_heaviestInOffice.cells rmX2_heaviestInOffice.slots Z (F0 m pc ls [.int r]))  : ∀ (A : SA) (V : SV) (h : wb_X2_heaviestInOffice_0 Q A V) (H : Heap) (locs : List Loc) (ls : Array Slot) (hw : WS D s A0 (wO ad cI cZ A V) H locs) (hl : lv_has ls 3 [(0, .ref (ad 4))]), W p l e rmX2_heaviestInOffice s m args below meth c H locs 0 0 Z (F0 m 0 ls []) := by
  obtain ⟨hx, hb, hml, hown, hts, hK, hA⟩ := id cx
  intro A V h H locs ls hw hl
  refine lv_iconst (pc := 0) (v := (-1 : Int32)) hx hb dX2_heaviestInOffice_0 (by decide) ?_
  refine lv_istore_n (pc := 1) (lv' := [(1, .int (-1 : Int32)), (0, .ref (ad 4))]) hx hb dX2_heaviestInOffice_1 rfl hl (by decide) rfl (fun ls hl => ?_)
  refine lv_iconst (pc := 2) (v := (0 : Int32)) hx hb dX2_heaviestInOffice_2 (by decide) ?_
  refine lv_istore_n (pc := 3) (lv' := [(2, .int (0 : Int32)), (1, .int (-1 : Int32)), (0, .ref (ad 4))]) hx hb dX2_heaviestInOffice_3 rfl hl (by decide) rfl (fun ls hl => ?_)
  obtain ⟨n4, h⟩ := h
  exact wk_X2_heaviestInOffice_4 Q cx hret  n4 A V (-1 : Int32) (0 : Int32) h _ _ _ hw (lv_sub hl [2, 1, 0] rfl)
def wpX2_heaviestInOffice (A : SA) (V : SV)  (Q : Int32 → SA → SV → Prop) : Prop := wb_X2_heaviestInOffice_0 Q A V
set_option maxHeartbeats 4000000 in
set_option maxRecDepth 100000 in
theorem metX2_heaviestInOffice (l : Launch) (D : va_G) (cI cZ : ClassId) (ad : Nat → Nat) (sz : Nat) (A : SA) (V : SV)  (Q : Int32 → SA → SV → Prop) (h : wpX2_heaviestInOffice A V  Q) : Met l yX2_heaviestInOffice wsX2_heaviestInOffice rmX2_heaviestInOffice (PcW D [(cI, .int), (cZ, .boolean)] (wO ad cI cZ A V) sz [.ref (ad 4)]) (QiW D [(cI, .int), (cZ, .boolean)] (wO ad cI cZ A V) sz (fun u : SA × SV => (wO ad cI cZ u.1 u.2)) (fun r u => Q r u.1 u.2)) rmX2_heaviestInOffice.cells rmX2_heaviestInOffice.slots (va_A (wO ad cI cZ A V) sz) := by
  refine startI (plainFor_of_name (by decide)) rfl (Nat.le_of_ble_eq_true rfl) ?_
  intro p e s m args below meth c A0 Z cx hw hret ls hl
  exact wk_X2_heaviestInOffice_0 Q cx hret A V h _ _ _ hw hl
abbrev rmX2_fact : Room := { frames := 1, cells := 0, slots := 0, locals := 21 }
theorem inX2_fact_X2 : ∀ w ∈ wsX20, w ∈ wsX2_fact := by decide +kernel
theorem kX2_fact_15 : Cond.fieldLink RX2 15 "DrownedPost$Letters" "weight" "[I" ∈ wsX2_fact := by decide +kernel
theorem kX2_fact_18 : Cond.fieldLink RX2 18 "DrownedPost$Letters" "seal" "[I" ∈ wsX2_fact := by decide +kernel
theorem kX2_fact_21 : Cond.fieldLink RX2 21 "DrownedPost$Letters" "state" "[I" ∈ wsX2_fact := by decide +kernel
theorem kX2_fact_24 : Cond.fieldLink RX2 24 "DrownedPost$Letters" "growth" "[I" ∈ wsX2_fact := by decide +kernel
theorem kX2_fact_27 : Cond.fieldLink RX2 27 "DrownedPost$Letters" "bin" "[I" ∈ wsX2_fact := by decide +kernel
theorem kX2_fact_30 : Cond.fieldLink RX2 30 "DrownedPost$Letters" "held" "[I" ∈ wsX2_fact := by decide +kernel
theorem kX2_fact_33 : Cond.fieldLink RX2 33 "DrownedPost$Letters" "hoursBefore" "[I" ∈ wsX2_fact := by decide +kernel
theorem kX2_fact_36 : Cond.fieldLink RX2 36 "DrownedPost$Letters" "answered" "[I" ∈ wsX2_fact := by decide +kernel
theorem kX2_fact_9 : Cond.fieldLink RX2 9 "DrownedPost$Letters" "to" "[I" ∈ wsX2_fact := by decide +kernel
def wb_X2_fact_0 (Q : Int32 → SA → SV → Prop) (A : SA) (V : SV) (x1 : Int32) (x2 : Int32) : Prop := (wpX2_has A V x1 (fun r1 A2 V3 => ((¬ r1 = 0 → ((x2 = (0 : Int32) → (vp_in x1 150 ∧ Q (A2 9 x1.toNatClampNeg) A2 V3)) ∧ (¬ x2 = (0 : Int32) → ((x2 = (1 : Int32) → (vp_in x1 150 ∧ Q (A2 10 x1.toNatClampNeg) A2 V3)) ∧ (¬ x2 = (1 : Int32) → ((x2 = (2 : Int32) → (vp_in x1 150 ∧ Q (A2 11 x1.toNatClampNeg) A2 V3)) ∧ (¬ x2 = (2 : Int32) → ((x2 = (3 : Int32) → (vp_in x1 150 ∧ Q (A2 12 x1.toNatClampNeg) A2 V3)) ∧ (¬ x2 = (3 : Int32) → ((x2 = (4 : Int32) → (vp_in x1 150 ∧ Q (A2 13 x1.toNatClampNeg) A2 V3)) ∧ (¬ x2 = (4 : Int32) → ((x2 = (5 : Int32) → (vp_in x1 150 ∧ Q (A2 14 x1.toNatClampNeg) A2 V3)) ∧ (¬ x2 = (5 : Int32) → ((x2 = (6 : Int32) → (vp_in x1 150 ∧ Q (A2 15 x1.toNatClampNeg) A2 V3)) ∧ (¬ x2 = (6 : Int32) → ((x2 = (7 : Int32) → (vp_in x1 150 ∧ Q (A2 16 x1.toNatClampNeg) A2 V3)) ∧ (¬ x2 = (7 : Int32) → ((x2 = (8 : Int32) → (vp_in x1 150 ∧ Q (A2 17 x1.toNatClampNeg) A2 V3)) ∧ (¬ x2 = (8 : Int32) → Q (0 : Int32) A2 V3))))))))))))))))))) ∧ (r1 = 0 → Q (0 : Int32) A2 V3))))
set_option maxHeartbeats 4000000 in
set_option maxRecDepth 100000 in
theorem wk_X2_fact_0 (Q : Int32 → SA → SV → Prop) (cx : CX RX2 cX2_fact 3 wsX2_fact D [(cI, .int), (cZ, .boolean)] p s m args c A0) (hret : ∀ (pc : Nat) (ls : Array Slot) (r : Int32) (u : SA × SV) (H : Heap) (locs : List Loc), narrow .int (.int r) = .int r → decode cX2_fact pc = .ok (.ireturn, 1) → Q r u.1 u.2 → WS D s A0 (wO ad cI cZ u.1 u.2) H locs → W p l e rmX2_fact s m args below meth c H locs rmX2_fact.cells rmX2_fact.slots Z (F0 m pc ls [.int r]))  : ∀ (A : SA) (V : SV) (x1 : Int32) (x2 : Int32) (h : wb_X2_fact_0 Q A V x1 x2) (H : Heap) (locs : List Loc) (ls : Array Slot) (hw : WS D s A0 (wO ad cI cZ A V) H locs) (hl : lv_has ls 3 [(0, .ref (ad 4)), (1, .int x1), (2, .int x2)]), W p l e rmX2_fact s m args below meth c H locs 0 0 Z (F0 m 0 ls []) := by
  obtain ⟨hx, hb, hml, hown, hts, hK, hA⟩ := id cx
  intro A V x1 x2 h H locs ls hw hl
  refine lv_aload_n (pc := 0) hx hb dX2_fact_0 rfl (lv_at hl 0 rfl) ?_
  refine lv_iload_n (pc := 1) hx hb dX2_fact_1 rfl (lv_at hl 1 rfl) ?_
  refine callVi (pc := 2) (rest := []) (c1 := 0) (s1 := 0) cx hw hl (metX2_has l D cI cZ ad H.size A V x1 _ h) (fun hts => cwV 1 hts gX2_fact_X2_has rfl rfl rfl (by decide +kernel) ⟨Nat.le_of_ble_eq_true rfl, Nat.le_of_ble_eq_true rfl⟩) SUB.rf [0, 1] rfl 4 (ci := 2) rfl rfl rfl (JN.rf) rfl rfl (Nat.le_of_ble_eq_true rfl) ⟨Nat.le_of_ble_eq_true rfl, Nat.le_of_ble_eq_true rfl⟩ rfl rfl dX2_fact_2 (fun r1 u H locs h hw => ?_)
  obtain ⟨A2, V3⟩ := u
  refine lv_if_ne (pc := 5) (tgt := 10) hx hb dX2_fact_5 (by decide) (fun c4 => ?_) (fun c4 => ?_)
  · have h := h.1 c4
    refine lv_iload_n (pc := 10) hx hb dX2_fact_10 rfl (lv_at hl 2 rfl) ?_
    by_cases e5 : x2 = (0 : Int32)
    · have h := h.1 e5
      refine lv_tableIn (pc := 11) (off := 49) (tgt := 60) hx hb dX2_fact_11 (by rw [e5]; decide) (by rw [e5]; decide) (by rw [e5]; rfl) (by decide) ?_
      refine lv_aload_n (pc := 60) hx hb dX2_fact_60 rfl (lv_at hl 0 rfl) ?_
      refine geO_X2_0 (pc := 61) cx inX2_fact_X2 kX2_fact_9 hw dX2_fact_61 ?_
      refine lv_iload_n (pc := 64) hx hb dX2_fact_64 rfl (lv_at hl 1 rfl) ?_
      refine alO_9 (pc := 65) cx hw h.1 dX2_fact_65 ?_
      have h := h.2
      exact hret 66 _ _ (A2, V3) _ _ rfl dX2_fact_66 h hw
    · have h := h.2 e5
      by_cases e6 : x2 = (1 : Int32)
      · have h := h.1 e6
        refine lv_tableIn (pc := 11) (off := 56) (tgt := 67) hx hb dX2_fact_11 (by rw [e6]; decide) (by rw [e6]; decide) (by rw [e6]; rfl) (by decide) ?_
        refine lv_aload_n (pc := 67) hx hb dX2_fact_67 rfl (lv_at hl 0 rfl) ?_
        refine geO_X2_1 (pc := 68) cx inX2_fact_X2 kX2_fact_15 hw dX2_fact_68 ?_
        refine lv_iload_n (pc := 71) hx hb dX2_fact_71 rfl (lv_at hl 1 rfl) ?_
        refine alO_10 (pc := 72) cx hw h.1 dX2_fact_72 ?_
        have h := h.2
        exact hret 73 _ _ (A2, V3) _ _ rfl dX2_fact_73 h hw
      · have h := h.2 e6
        by_cases e7 : x2 = (2 : Int32)
        · have h := h.1 e7
          refine lv_tableIn (pc := 11) (off := 63) (tgt := 74) hx hb dX2_fact_11 (by rw [e7]; decide) (by rw [e7]; decide) (by rw [e7]; rfl) (by decide) ?_
          refine lv_aload_n (pc := 74) hx hb dX2_fact_74 rfl (lv_at hl 0 rfl) ?_
          refine geO_X2_2 (pc := 75) cx inX2_fact_X2 kX2_fact_18 hw dX2_fact_75 ?_
          refine lv_iload_n (pc := 78) hx hb dX2_fact_78 rfl (lv_at hl 1 rfl) ?_
          refine alO_11 (pc := 79) cx hw h.1 dX2_fact_79 ?_
          have h := h.2
          exact hret 80 _ _ (A2, V3) _ _ rfl dX2_fact_80 h hw
        · have h := h.2 e7
          by_cases e8 : x2 = (3 : Int32)
          · have h := h.1 e8
            refine lv_tableIn (pc := 11) (off := 70) (tgt := 81) hx hb dX2_fact_11 (by rw [e8]; decide) (by rw [e8]; decide) (by rw [e8]; rfl) (by decide) ?_
            refine lv_aload_n (pc := 81) hx hb dX2_fact_81 rfl (lv_at hl 0 rfl) ?_
            refine geO_X2_3 (pc := 82) cx inX2_fact_X2 kX2_fact_21 hw dX2_fact_82 ?_
            refine lv_iload_n (pc := 85) hx hb dX2_fact_85 rfl (lv_at hl 1 rfl) ?_
            refine alO_12 (pc := 86) cx hw h.1 dX2_fact_86 ?_
            have h := h.2
            exact hret 87 _ _ (A2, V3) _ _ rfl dX2_fact_87 h hw
          · have h := h.2 e8
            by_cases e9 : x2 = (4 : Int32)
            · have h := h.1 e9
              refine lv_tableIn (pc := 11) (off := 77) (tgt := 88) hx hb dX2_fact_11 (by rw [e9]; decide) (by rw [e9]; decide) (by rw [e9]; rfl) (by decide) ?_
              refine lv_aload_n (pc := 88) hx hb dX2_fact_88 rfl (lv_at hl 0 rfl) ?_
              refine geO_X2_4 (pc := 89) cx inX2_fact_X2 kX2_fact_24 hw dX2_fact_89 ?_
              refine lv_iload_n (pc := 92) hx hb dX2_fact_92 rfl (lv_at hl 1 rfl) ?_
              refine alO_13 (pc := 93) cx hw h.1 dX2_fact_93 ?_
              have h := h.2
              exact hret 94 _ _ (A2, V3) _ _ rfl dX2_fact_94 h hw
            · have h := h.2 e9
              by_cases e10 : x2 = (5 : Int32)
              · have h := h.1 e10
                refine lv_tableIn (pc := 11) (off := 84) (tgt := 95) hx hb dX2_fact_11 (by rw [e10]; decide) (by rw [e10]; decide) (by rw [e10]; rfl) (by decide) ?_
                refine lv_aload_n (pc := 95) hx hb dX2_fact_95 rfl (lv_at hl 0 rfl) ?_
                refine geO_X2_5 (pc := 96) cx inX2_fact_X2 kX2_fact_27 hw dX2_fact_96 ?_
                refine lv_iload_n (pc := 99) hx hb dX2_fact_99 rfl (lv_at hl 1 rfl) ?_
                refine alO_14 (pc := 100) cx hw h.1 dX2_fact_100 ?_
                have h := h.2
                exact hret 101 _ _ (A2, V3) _ _ rfl dX2_fact_101 h hw
              · have h := h.2 e10
                by_cases e11 : x2 = (6 : Int32)
                · have h := h.1 e11
                  refine lv_tableIn (pc := 11) (off := 91) (tgt := 102) hx hb dX2_fact_11 (by rw [e11]; decide) (by rw [e11]; decide) (by rw [e11]; rfl) (by decide) ?_
                  refine lv_aload_n (pc := 102) hx hb dX2_fact_102 rfl (lv_at hl 0 rfl) ?_
                  refine geO_X2_6 (pc := 103) cx inX2_fact_X2 kX2_fact_30 hw dX2_fact_103 ?_
                  refine lv_iload_n (pc := 106) hx hb dX2_fact_106 rfl (lv_at hl 1 rfl) ?_
                  refine alO_15 (pc := 107) cx hw h.1 dX2_fact_107 ?_
                  have h := h.2
                  exact hret 108 _ _ (A2, V3) _ _ rfl dX2_fact_108 h hw
                · have h := h.2 e11
                  by_cases e12 : x2 = (7 : Int32)
                  · have h := h.1 e12
                    refine lv_tableIn (pc := 11) (off := 98) (tgt := 109) hx hb dX2_fact_11 (by rw [e12]; decide) (by rw [e12]; decide) (by rw [e12]; rfl) (by decide) ?_
                    refine lv_aload_n (pc := 109) hx hb dX2_fact_109 rfl (lv_at hl 0 rfl) ?_
                    refine geO_X2_7 (pc := 110) cx inX2_fact_X2 kX2_fact_33 hw dX2_fact_110 ?_
                    refine lv_iload_n (pc := 113) hx hb dX2_fact_113 rfl (lv_at hl 1 rfl) ?_
                    refine alO_16 (pc := 114) cx hw h.1 dX2_fact_114 ?_
                    have h := h.2
                    exact hret 115 _ _ (A2, V3) _ _ rfl dX2_fact_115 h hw
                  · have h := h.2 e12
                    by_cases e13 : x2 = (8 : Int32)
                    · have h := h.1 e13
                      refine lv_tableIn (pc := 11) (off := 105) (tgt := 116) hx hb dX2_fact_11 (by rw [e13]; decide) (by rw [e13]; decide) (by rw [e13]; rfl) (by decide) ?_
                      refine lv_aload_n (pc := 116) hx hb dX2_fact_116 rfl (lv_at hl 0 rfl) ?_
                      refine geO_X2_8 (pc := 117) cx inX2_fact_X2 kX2_fact_36 hw dX2_fact_117 ?_
                      refine lv_iload_n (pc := 120) hx hb dX2_fact_120 rfl (lv_at hl 1 rfl) ?_
                      refine alO_17 (pc := 121) cx hw h.1 dX2_fact_121 ?_
                      have h := h.2
                      exact hret 122 _ _ (A2, V3) _ _ rfl dX2_fact_122 h hw
                    · have h := h.2 e13
                      refine lv_tableOut (pc := 11) (tgt := 123) hx hb dX2_fact_11 (tsw 8 (by decide) (fun i hi => match i, hi with | 0, _ => e5 | 1, _ => e6 | 2, _ => e7 | 3, _ => e8 | 4, _ => e9 | 5, _ => e10 | 6, _ => e11 | 7, _ => e12 | 8, _ => e13 | _ + 9, hi => absurd hi (by omega))) (by decide) ?_
                      refine lv_iconst (pc := 123) (v := (0 : Int32)) hx hb dX2_fact_123 (by decide) ?_
                      exact hret 124 _ _ (A2, V3) _ _ rfl dX2_fact_124 h hw
  · have h := h.2 c4
    refine lv_iconst (pc := 8) (v := (0 : Int32)) hx hb dX2_fact_8 (by decide) ?_
    exact hret 9 _ _ (A2, V3) _ _ rfl dX2_fact_9 h hw
def wpX2_fact (A : SA) (V : SV) (x1 : Int32) (x2 : Int32) (Q : Int32 → SA → SV → Prop) : Prop := wb_X2_fact_0 Q A V x1 x2
set_option maxHeartbeats 4000000 in
set_option maxRecDepth 100000 in
theorem metX2_fact (l : Launch) (D : va_G) (cI cZ : ClassId) (ad : Nat → Nat) (sz : Nat) (A : SA) (V : SV) (x1 : Int32) (x2 : Int32) (Q : Int32 → SA → SV → Prop) (h : wpX2_fact A V x1 x2 Q) : Met l yX2_fact wsX2_fact rmX2_fact (PcW D [(cI, .int), (cZ, .boolean)] (wO ad cI cZ A V) sz [.ref (ad 4), .int x1, .int x2]) (QiW D [(cI, .int), (cZ, .boolean)] (wO ad cI cZ A V) sz (fun u : SA × SV => (wO ad cI cZ u.1 u.2)) (fun r u => Q r u.1 u.2)) rmX2_fact.cells rmX2_fact.slots (va_A (wO ad cI cZ A V) sz) := by
  refine startI (plainFor_of_name (by decide)) rfl (Nat.le_of_ble_eq_true rfl) ?_
  intro p e s m args below meth c A0 Z cx hw hret ls hl
  exact wk_X2_fact_0 Q cx hret A V x1 x2 h _ _ _ hw hl
abbrev rmX2_digestFrom : Room := { frames := 2, cells := 0, slots := 0, locals := 43 }
theorem inX2_digestFrom_X2 : ∀ w ∈ wsX20, w ∈ wsX2_digestFrom := by decide +kernel
theorem kX2_digestFrom_39 : Cond.fieldLink RX2 39 "DrownedPost$Letters" "count" "I" ∈ wsX2_digestFrom := by decide +kernel
theorem kX2_digestFrom_w_constantLong_RX2_51__31_ : Cond.constantLong RX2 51 (31) ∈ wsX2_digestFrom := by decide +kernel
def wl_X2_digestFrom_17 (Q : Int64 → SA → SV → Prop) (K5 : SA → SV → Int64 → Int32 → Prop) : Nat → SA → SV → Int64 → Int32 → Int32 → Prop
  | 0, _, _, _, _, _ => False
  | n + 1, A, V, x3, x5, x6 => (((9 : Int32) ≤ x6 → K5 A V x3 (x5 + 1)) ∧ (¬ ((9 : Int32) ≤ x6) → (wpX2_fact A V x5 x6 (fun r3 A4 V5 => wl_X2_digestFrom_17 Q K5 n A4 V5 ((x3 * (31 : Int64)) + r3.toInt64) x5 (x6 + 1)))))
set_option maxHeartbeats 4000000 in
set_option maxRecDepth 100000 in
theorem wk_X2_digestFrom_17 (Q : Int64 → SA → SV → Prop) (K5 : SA → SV → Int64 → Int32 → Prop) (cx : CX RX2 cX2_digestFrom 7 wsX2_digestFrom D [(cI, .int), (cZ, .boolean)] p s m args c A0) (hret : ∀ (pc : Nat) (ls : Array Slot) (r : Int64) (u : SA × SV) (H : Heap) (locs : List Loc), decode cX2_digestFrom pc = .ok (.lreturn, 1) → Q r u.1 u.2 → WS D s A0 (wO ad cI cZ u.1 u.2) H locs → W p l e rmX2_digestFrom s m args below meth c H locs rmX2_digestFrom.cells rmX2_digestFrom.slots Z (F0 m pc ls [.long r])) (hK5 : ∀ (A : SA) (V : SV) (x3 : Int64) (x5 : Int32) (h : K5 A V x3 x5) (H : Heap) (locs : List Loc) (ls : Array Slot) (hw : WS D s A0 (wO ad cI cZ A V) H locs) (hl : lv_has ls 7 [(0, .ref (ad 4)), (3, .long x3), (5, .int x5)]), W p l e rmX2_digestFrom s m args below meth c H locs 0 0 Z (F0 m 5 ls [])) : ∀ (n : Nat) (A : SA) (V : SV) (x3 : Int64) (x5 : Int32) (x6 : Int32) (h : wl_X2_digestFrom_17 Q K5 n A V x3 x5 x6) (H : Heap) (locs : List Loc) (ls : Array Slot) (hw : WS D s A0 (wO ad cI cZ A V) H locs) (hl : lv_has ls 7 [(0, .ref (ad 4)), (3, .long x3), (5, .int x5), (6, .int x6)]), W p l e rmX2_digestFrom s m args below meth c H locs 0 0 Z (F0 m 17 ls []) := by
  obtain ⟨hx, hb, hml, hown, hts, hK, hA⟩ := id cx
  intro n
  induction n with
  | zero => intro A V x3 x5 x6 h; exact False.elim h
  | succ n ih =>
    intro A V x3 x5 x6 h H locs ls hw hl
    refine lv_iload (pc := 17) hx hb dX2_digestFrom_17 (lv_at hl 3 rfl) ?_
    refine lv_bipush (pc := 19) (v := (9 : Int32)) hx hb dX2_digestFrom_19 (by decide) ?_
    refine lv_icmp_ge (pc := 21) (tgt := 46) hx hb dX2_digestFrom_21 (by decide) (fun c2 => ?_) (fun c2 => ?_)
    · have h := h.1 c2
      refine lv_iinc (pc := 46) (v := x5 + 1) (lv' := [(5, .int (x5 + 1)), (0, .ref (ad 4)), (3, .long x3), (6, .int x6)]) hx hb dX2_digestFrom_46 hl (k := 2) rfl rfl (by decide) rfl (fun ls hl => ?_)
      refine lv_goto (pc := 49) (tgt := 5) hx hb dX2_digestFrom_49 (by decide) ?_
      exact hK5 A V x3 (x5 + 1) h _ _ _ hw (lv_sub hl [1, 2, 0] rfl)
    · have h := h.2 c2
      refine lv_lload_n (pc := 24) hx hb dX2_digestFrom_24 rfl (lv_at hl 1 rfl) ?_
      refine lv_ldc2 (pc := 25) (v := (31 : Int64)) hx hb hown (hts _ kX2_digestFrom_w_constantLong_RX2_51__31_) dX2_digestFrom_25 ?_
      refine lv_lmul (pc := 28) hx hb dX2_digestFrom_28 ?_
      refine lv_aload_n (pc := 29) hx hb dX2_digestFrom_29 rfl (lv_at hl 0 rfl) ?_
      refine lv_iload (pc := 30) hx hb dX2_digestFrom_30 (lv_at hl 2 rfl) ?_
      refine lv_iload (pc := 32) hx hb dX2_digestFrom_32 (lv_at hl 3 rfl) ?_
      refine callVi (pc := 34) (rest := [.long (x3 * (31 : Int64))]) (c1 := 0) (s1 := 0) cx hw hl (metX2_fact l D cI cZ ad H.size A V x5 x6 _ h) (fun hts => cwV 2 hts gX2_digestFrom_X2_fact rfl rfl rfl (by decide +kernel) ⟨Nat.le_of_ble_eq_true rfl, Nat.le_of_ble_eq_true rfl⟩) SUB.rf [0, 1] rfl 4 (ci := 2) rfl rfl rfl (JN.rf) rfl rfl (Nat.le_of_ble_eq_true rfl) ⟨Nat.le_of_ble_eq_true rfl, Nat.le_of_ble_eq_true rfl⟩ rfl rfl dX2_digestFrom_34 (fun r3 u H locs h hw => ?_)
      obtain ⟨A4, V5⟩ := u
      refine lv_i2l (pc := 37) (v := r3.toInt64) hx hb dX2_digestFrom_37 rfl ?_
      refine lv_ladd (pc := 38) hx hb dX2_digestFrom_38 ?_
      refine lv_lstore_n (pc := 39) (lv' := [(3, .long ((x3 * (31 : Int64)) + r3.toInt64)), (0, .ref (ad 4)), (5, .int x5), (6, .int x6)]) hx hb dX2_digestFrom_39 rfl hl (by decide) rfl (fun ls hl => ?_)
      refine lv_iinc (pc := 40) (v := x6 + 1) (lv' := [(6, .int (x6 + 1)), (3, .long ((x3 * (31 : Int64)) + r3.toInt64)), (0, .ref (ad 4)), (5, .int x5)]) hx hb dX2_digestFrom_40 hl (k := 3) rfl rfl (by decide) rfl (fun ls hl => ?_)
      refine lv_goto (pc := 43) (tgt := 17) hx hb dX2_digestFrom_43 (by decide) ?_
      exact ih A4 V5 ((x3 * (31 : Int64)) + r3.toInt64) x5 (x6 + 1) h _ _ _ hw (lv_sub hl [2, 1, 3, 0] rfl)
def wl_X2_digestFrom_5 (Q : Int64 → SA → SV → Prop) : Nat → SA → SV → Int64 → Int32 → Prop
  | 0, _, _, _, _ => False
  | n + 1, A, V, x3, x5 => (((V 3) ≤ x5 → Q x3 A V) ∧ (¬ ((V 3) ≤ x5) → (∃ n17 : Nat, wl_X2_digestFrom_17 Q (wl_X2_digestFrom_5 Q n) n17 A V x3 x5 (0 : Int32))))
set_option maxHeartbeats 4000000 in
set_option maxRecDepth 100000 in
theorem wk_X2_digestFrom_5 (Q : Int64 → SA → SV → Prop) (cx : CX RX2 cX2_digestFrom 7 wsX2_digestFrom D [(cI, .int), (cZ, .boolean)] p s m args c A0) (hret : ∀ (pc : Nat) (ls : Array Slot) (r : Int64) (u : SA × SV) (H : Heap) (locs : List Loc), decode cX2_digestFrom pc = .ok (.lreturn, 1) → Q r u.1 u.2 → WS D s A0 (wO ad cI cZ u.1 u.2) H locs → W p l e rmX2_digestFrom s m args below meth c H locs rmX2_digestFrom.cells rmX2_digestFrom.slots Z (F0 m pc ls [.long r]))  : ∀ (n : Nat) (A : SA) (V : SV) (x3 : Int64) (x5 : Int32) (h : wl_X2_digestFrom_5 Q n A V x3 x5) (H : Heap) (locs : List Loc) (ls : Array Slot) (hw : WS D s A0 (wO ad cI cZ A V) H locs) (hl : lv_has ls 7 [(0, .ref (ad 4)), (3, .long x3), (5, .int x5)]), W p l e rmX2_digestFrom s m args below meth c H locs 0 0 Z (F0 m 5 ls []) := by
  obtain ⟨hx, hb, hml, hown, hts, hK, hA⟩ := id cx
  intro n
  induction n with
  | zero => intro A V x3 x5 h; exact False.elim h
  | succ n ih =>
    intro A V x3 x5 h H locs ls hw hl
    refine lv_iload (pc := 5) hx hb dX2_digestFrom_5 (lv_at hl 2 rfl) ?_
    refine lv_aload_n (pc := 7) hx hb dX2_digestFrom_7 rfl (lv_at hl 0 rfl) ?_
    refine geO_X2_9 (pc := 8) cx inX2_digestFrom_X2 kX2_digestFrom_39 hw dX2_digestFrom_8 ?_
    refine lv_icmp_ge (pc := 11) (tgt := 52) hx hb dX2_digestFrom_11 (by decide) (fun c1 => ?_) (fun c1 => ?_)
    · have h := h.1 c1
      refine lv_lload_n (pc := 52) hx hb dX2_digestFrom_52 rfl (lv_at hl 1 rfl) ?_
      exact hret 53 _ _ (A, V) _ _ dX2_digestFrom_53 h hw
    · have h := h.2 c1
      refine lv_iconst (pc := 14) (v := (0 : Int32)) hx hb dX2_digestFrom_14 (by decide) ?_
      refine lv_istore (pc := 15) (lv' := [(6, .int (0 : Int32)), (0, .ref (ad 4)), (3, .long x3), (5, .int x5)]) hx hb dX2_digestFrom_15 hl (by decide) rfl (fun ls hl => ?_)
      obtain ⟨n17, h⟩ := h
      exact wk_X2_digestFrom_17 Q (wl_X2_digestFrom_5 Q n) cx hret ih n17 A V x3 x5 (0 : Int32) h _ _ _ hw (lv_sub hl [1, 2, 3, 0] rfl)
def wb_X2_digestFrom_0 (Q : Int64 → SA → SV → Prop) (A : SA) (V : SV) (x1 : Int64) : Prop := (∃ n5 : Nat, wl_X2_digestFrom_5 Q n5 A V x1 (0 : Int32))
set_option maxHeartbeats 4000000 in
set_option maxRecDepth 100000 in
theorem wk_X2_digestFrom_0 (Q : Int64 → SA → SV → Prop) (cx : CX RX2 cX2_digestFrom 7 wsX2_digestFrom D [(cI, .int), (cZ, .boolean)] p s m args c A0) (hret : ∀ (pc : Nat) (ls : Array Slot) (r : Int64) (u : SA × SV) (H : Heap) (locs : List Loc), decode cX2_digestFrom pc = .ok (.lreturn, 1) → Q r u.1 u.2 → WS D s A0 (wO ad cI cZ u.1 u.2) H locs → W p l e rmX2_digestFrom s m args below meth c H locs rmX2_digestFrom.cells rmX2_digestFrom.slots Z (F0 m pc ls [.long r]))  : ∀ (A : SA) (V : SV) (x1 : Int64) (h : wb_X2_digestFrom_0 Q A V x1) (H : Heap) (locs : List Loc) (ls : Array Slot) (hw : WS D s A0 (wO ad cI cZ A V) H locs) (hl : lv_has ls 7 [(0, .ref (ad 4)), (1, .long x1)]), W p l e rmX2_digestFrom s m args below meth c H locs 0 0 Z (F0 m 0 ls []) := by
  obtain ⟨hx, hb, hml, hown, hts, hK, hA⟩ := id cx
  intro A V x1 h H locs ls hw hl
  refine lv_lload_n (pc := 0) hx hb dX2_digestFrom_0 rfl (lv_at hl 1 rfl) ?_
  refine lv_lstore_n (pc := 1) (lv' := [(3, .long x1), (0, .ref (ad 4)), (1, .long x1)]) hx hb dX2_digestFrom_1 rfl hl (by decide) rfl (fun ls hl => ?_)
  refine lv_iconst (pc := 2) (v := (0 : Int32)) hx hb dX2_digestFrom_2 (by decide) ?_
  refine lv_istore (pc := 3) (lv' := [(5, .int (0 : Int32)), (3, .long x1), (0, .ref (ad 4)), (1, .long x1)]) hx hb dX2_digestFrom_3 hl (by decide) rfl (fun ls hl => ?_)
  obtain ⟨n5, h⟩ := h
  exact wk_X2_digestFrom_5 Q cx hret  n5 A V x1 (0 : Int32) h _ _ _ hw (lv_sub hl [2, 1, 0] rfl)
def wpX2_digestFrom (A : SA) (V : SV) (x1 : Int64) (Q : Int64 → SA → SV → Prop) : Prop := wb_X2_digestFrom_0 Q A V x1
set_option maxHeartbeats 4000000 in
set_option maxRecDepth 100000 in
theorem metX2_digestFrom (l : Launch) (D : va_G) (cI cZ : ClassId) (ad : Nat → Nat) (sz : Nat) (A : SA) (V : SV) (x1 : Int64) (Q : Int64 → SA → SV → Prop) (h : wpX2_digestFrom A V x1 Q) : Met l yX2_digestFrom wsX2_digestFrom rmX2_digestFrom (PcW D [(cI, .int), (cZ, .boolean)] (wO ad cI cZ A V) sz [.ref (ad 4), .long x1]) (QlW D [(cI, .int), (cZ, .boolean)] (wO ad cI cZ A V) sz (fun u : SA × SV => (wO ad cI cZ u.1 u.2)) (fun r u => Q r u.1 u.2)) rmX2_digestFrom.cells rmX2_digestFrom.slots (va_A (wO ad cI cZ A V) sz) := by
  refine startL (plainFor_of_name (by decide)) rfl (Nat.le_of_ble_eq_true rfl) ?_
  intro p e s m args below meth c A0 Z cx hw hret ls hl
  exact wk_X2_digestFrom_0 Q cx hret A V x1 h _ _ _ hw hl
abbrev rmJ9_floorMod_7cf53 : Room := { frames := 0, cells := 0, slots := 0, locals := 0 }
def wb_J9_floorMod_7cf53_0 (Q : Int32 → Prop) (x0 : Int32) (x1 : Int32) : Prop := (¬ x1 = 0 ∧ ((0 ≤ (x0 ^^^ x1) → Q (x0 - x0 / x1 * x1)) ∧ (¬ (0 ≤ (x0 ^^^ x1)) → (((x0 - x0 / x1 * x1) = 0 → Q (x0 - x0 / x1 * x1)) ∧ (¬ ((x0 - x0 / x1 * x1) = 0) → Q ((x0 - x0 / x1 * x1) + x1))))))
set_option maxHeartbeats 4000000 in
set_option maxRecDepth 100000 in
theorem wk_J9_floorMod_7cf53_0 (Q : Int32 → Prop) (cx : CX RJ9 cJ9_floorMod_7cf53 3 wsJ9_floorMod_7cf53 D tys p s m args c A0) (hret : ∀ (pc : Nat) (ls : Array Slot) (r : Int32) (u : Unit) (H : Heap) (locs : List Loc), narrow .int (.int r) = .int r → decode cJ9_floorMod_7cf53 pc = .ok (.ireturn, 1) → Q r → WS D s A0 ([] : va_W) H locs → W p l e rmJ9_floorMod_7cf53 s m args below meth c H locs rmJ9_floorMod_7cf53.cells rmJ9_floorMod_7cf53.slots Z (F0 m pc ls [.int r]))  : ∀ (x0 : Int32) (x1 : Int32) (h : wb_J9_floorMod_7cf53_0 Q x0 x1) (H : Heap) (locs : List Loc) (ls : Array Slot) (hw : WS D s A0 ([] : va_W) H locs) (hl : lv_has ls 3 [(0, .int x0), (1, .int x1)]), W p l e rmJ9_floorMod_7cf53 s m args below meth c H locs 0 0 Z (F0 m 0 ls []) := by
  obtain ⟨hx, hb, hml, hown, hts, hK, hA⟩ := id cx
  intro x0 x1 h H locs ls hw hl
  refine lv_iload_n (pc := 0) hx hb dJ9_floorMod_7cf53_0 rfl (lv_at hl 0 rfl) ?_
  refine lv_iload_n (pc := 1) hx hb dJ9_floorMod_7cf53_1 rfl (lv_at hl 1 rfl) ?_
  refine lv_irem (pc := 2) hx hb dJ9_floorMod_7cf53_2 h.1 ?_
  have h := h.2
  refine lv_istore_n (pc := 3) (lv' := [(2, .int (x0 - x0 / x1 * x1)), (0, .int x0), (1, .int x1)]) hx hb dJ9_floorMod_7cf53_3 rfl hl (by decide) rfl (fun ls hl => ?_)
  refine lv_iload_n (pc := 4) hx hb dJ9_floorMod_7cf53_4 rfl (lv_at hl 1 rfl) ?_
  refine lv_iload_n (pc := 5) hx hb dJ9_floorMod_7cf53_5 rfl (lv_at hl 2 rfl) ?_
  refine lv_ixor (pc := 6) hx hb dJ9_floorMod_7cf53_6 ?_
  refine lv_if_ge (pc := 7) (tgt := 18) hx hb dJ9_floorMod_7cf53_7 (by decide) (fun c1 => ?_) (fun c1 => ?_)
  · have h := h.1 c1
    refine lv_iload_n (pc := 18) hx hb dJ9_floorMod_7cf53_18 rfl (lv_at hl 0 rfl) ?_
    exact hret 19 _ _ () _ _ rfl dJ9_floorMod_7cf53_19 h hw
  · have h := h.2 c1
    refine lv_iload_n (pc := 10) hx hb dJ9_floorMod_7cf53_10 rfl (lv_at hl 0 rfl) ?_
    refine lv_if_eq (pc := 11) (tgt := 18) hx hb dJ9_floorMod_7cf53_11 (by decide) (fun c2 => ?_) (fun c2 => ?_)
    · have h := h.1 c2
      refine lv_iload_n (pc := 18) hx hb dJ9_floorMod_7cf53_18 rfl (lv_at hl 0 rfl) ?_
      exact hret 19 _ _ () _ _ rfl dJ9_floorMod_7cf53_19 h hw
    · have h := h.2 c2
      refine lv_iload_n (pc := 14) hx hb dJ9_floorMod_7cf53_14 rfl (lv_at hl 0 rfl) ?_
      refine lv_iload_n (pc := 15) hx hb dJ9_floorMod_7cf53_15 rfl (lv_at hl 2 rfl) ?_
      refine lv_iadd (pc := 16) hx hb dJ9_floorMod_7cf53_16 ?_
      exact hret 17 _ _ () _ _ rfl dJ9_floorMod_7cf53_17 h hw
def wpJ9_floorMod_7cf53 (x0 : Int32) (x1 : Int32) (Q : Int32 → Prop) : Prop := wb_J9_floorMod_7cf53_0 Q x0 x1
set_option maxHeartbeats 4000000 in
set_option maxRecDepth 100000 in
theorem metJ9_floorMod_7cf53 (l : Launch) (D : va_G) (tys : TYS) (sz : Nat) (x0 : Int32) (x1 : Int32) (Q : Int32 → Prop) (h : wpJ9_floorMod_7cf53 x0 x1 Q) : Met l yJ9_floorMod_7cf53 wsJ9_floorMod_7cf53 rmJ9_floorMod_7cf53 (PcW D tys ([] : va_W) sz [.int x0, .int x1]) (QiW D tys ([] : va_W) sz (fun u : Unit => ([] : va_W)) (fun r u => Q r)) rmJ9_floorMod_7cf53.cells rmJ9_floorMod_7cf53.slots (va_A ([] : va_W) sz) := by
  refine startI (by decide +kernel) rfl (Nat.le_of_ble_eq_true rfl) ?_
  intro p e s m args below meth c A0 Z cx hw hret ls hl
  exact wk_J9_floorMod_7cf53_0 Q cx hret x0 x1 h _ _ _ hw hl
abbrev rmX4_heightIn : Room := { frames := 1, cells := 0, slots := 0, locals := 22 }
theorem inX4_heightIn_X4 : ∀ w ∈ wsX40, w ∈ wsX4_heightIn := by decide +kernel
theorem kX4_heightIn_18 : Cond.fieldLink RX4 18 "DrownedPost$Tides" "count" "I" ∈ wsX4_heightIn := by decide +kernel
theorem kX4_heightIn_9 : Cond.fieldLink RX4 9 "DrownedPost$Tides" "heights" "[I" ∈ wsX4_heightIn := by decide +kernel
def wb_X4_heightIn_0 (Q : Int32 → SA → SV → Prop) (A : SA) (V : SV) (x1 : Int32) : Prop := (((1 : Int32) ≤ (V 0) → (wpJ9_floorMod_7cf53 x1 (V 0) (fun r2 => (vp_in r2 30 ∧ Q (A 0 r2.toNatClampNeg) A V)))) ∧ (¬ ((1 : Int32) ≤ (V 0)) → Q (0 : Int32) A V))
set_option maxHeartbeats 4000000 in
set_option maxRecDepth 100000 in
theorem wk_X4_heightIn_0 (Q : Int32 → SA → SV → Prop) (cx : CX RX4 cX4_heightIn 2 wsX4_heightIn D [(cI, .int), (cZ, .boolean)] p s m args c A0) (hret : ∀ (pc : Nat) (ls : Array Slot) (r : Int32) (u : SA × SV) (H : Heap) (locs : List Loc), narrow .int (.int r) = .int r → decode cX4_heightIn pc = .ok (.ireturn, 1) → Q r u.1 u.2 → WS D s A0 (wO ad cI cZ u.1 u.2) H locs → W p l e rmX4_heightIn s m args below meth c H locs rmX4_heightIn.cells rmX4_heightIn.slots Z (F0 m pc ls [.int r]))  : ∀ (A : SA) (V : SV) (x1 : Int32) (h : wb_X4_heightIn_0 Q A V x1) (H : Heap) (locs : List Loc) (ls : Array Slot) (hw : WS D s A0 (wO ad cI cZ A V) H locs) (hl : lv_has ls 2 [(0, .ref (ad 1)), (1, .int x1)]), W p l e rmX4_heightIn s m args below meth c H locs 0 0 Z (F0 m 0 ls []) := by
  obtain ⟨hx, hb, hml, hown, hts, hK, hA⟩ := id cx
  intro A V x1 h H locs ls hw hl
  refine lv_aload_n (pc := 0) hx hb dX4_heightIn_0 rfl (lv_at hl 0 rfl) ?_
  refine geO_X4_1 (pc := 1) cx inX4_heightIn_X4 kX4_heightIn_18 hw dX4_heightIn_1 ?_
  refine lv_iconst (pc := 4) (v := (1 : Int32)) hx hb dX4_heightIn_4 (by decide) ?_
  refine lv_icmp_ge (pc := 5) (tgt := 10) hx hb dX4_heightIn_5 (by decide) (fun c1 => ?_) (fun c1 => ?_)
  · have h := h.1 c1
    refine lv_aload_n (pc := 10) hx hb dX4_heightIn_10 rfl (lv_at hl 0 rfl) ?_
    refine geO_X4_0 (pc := 11) cx inX4_heightIn_X4 kX4_heightIn_9 hw dX4_heightIn_11 ?_
    refine lv_iload_n (pc := 14) hx hb dX4_heightIn_14 rfl (lv_at hl 1 rfl) ?_
    refine lv_aload_n (pc := 15) hx hb dX4_heightIn_15 rfl (lv_at hl 0 rfl) ?_
    refine geO_X4_1 (pc := 16) cx inX4_heightIn_X4 kX4_heightIn_18 hw dX4_heightIn_16 ?_
    refine callSi (pc := 19) (rest := [.ref (ad 5)]) (c1 := 0) (s1 := 0) cx hw hl (metJ9_floorMod_7cf53 l D [] H.size x1 (V 0) _ h) (fun hts => va_cwS 2 hts gX4_heightIn_J9_floorMod_7cf53 rfl rfl rfl (by decide +kernel) ⟨Nat.le_of_ble_eq_true rfl, Nat.le_of_ble_eq_true rfl⟩) SUB.nil [] rfl (JN.nil (S := Unit)) rfl rfl (Nat.le_of_ble_eq_true rfl) ⟨Nat.le_of_ble_eq_true rfl, Nat.le_of_ble_eq_true rfl⟩ rfl rfl dX4_heightIn_19 (fun r2 u H locs h hw => ?_)
    refine alO_0 (pc := 22) cx hw h.1 dX4_heightIn_22 ?_
    have h := h.2
    exact hret 23 _ _ (A, V) _ _ rfl dX4_heightIn_23 h hw
  · have h := h.2 c1
    refine lv_iconst (pc := 8) (v := (0 : Int32)) hx hb dX4_heightIn_8 (by decide) ?_
    exact hret 9 _ _ (A, V) _ _ rfl dX4_heightIn_9 h hw
def wpX4_heightIn (A : SA) (V : SV) (x1 : Int32) (Q : Int32 → SA → SV → Prop) : Prop := wb_X4_heightIn_0 Q A V x1
set_option maxHeartbeats 4000000 in
set_option maxRecDepth 100000 in
theorem metX4_heightIn (l : Launch) (D : va_G) (cI cZ : ClassId) (ad : Nat → Nat) (sz : Nat) (A : SA) (V : SV) (x1 : Int32) (Q : Int32 → SA → SV → Prop) (h : wpX4_heightIn A V x1 Q) : Met l yX4_heightIn wsX4_heightIn rmX4_heightIn (PcW D [(cI, .int), (cZ, .boolean)] (wO ad cI cZ A V) sz [.ref (ad 1), .int x1]) (QiW D [(cI, .int), (cZ, .boolean)] (wO ad cI cZ A V) sz (fun u : SA × SV => (wO ad cI cZ u.1 u.2)) (fun r u => Q r u.1 u.2)) rmX4_heightIn.cells rmX4_heightIn.slots (va_A (wO ad cI cZ A V) sz) := by
  refine startI (plainFor_of_name (by decide)) rfl (Nat.le_of_ble_eq_true rfl) ?_
  intro p e s m args below meth c A0 Z cx hw hret ls hl
  exact wk_X4_heightIn_0 Q cx hret A V x1 h _ _ _ hw hl
abbrev rmX3_tideNow : Room := { frames := 2, cells := 0, slots := 0, locals := 43 }
theorem inX3_tideNow_X3 : ∀ w ∈ wsX30, w ∈ wsX3_tideNow := by decide +kernel
theorem kX3_tideNow_12 : Cond.fieldLink RX3 12 "DrownedPost$Office" "tides" "LDrownedPost$Tides;" ∈ wsX3_tideNow := by decide +kernel
theorem kX3_tideNow_67 : Cond.fieldLink RX3 67 "DrownedPost$Office" "hour" "I" ∈ wsX3_tideNow := by decide +kernel
def wb_X3_tideNow_0 (Q : Int32 → SA → SV → Prop) (A : SA) (V : SV) : Prop := (wpX4_heightIn A V (V 4) (fun r1 A2 V3 => Q r1 A2 V3))
set_option maxHeartbeats 4000000 in
set_option maxRecDepth 100000 in
theorem wk_X3_tideNow_0 (Q : Int32 → SA → SV → Prop) (cx : CX RX3 cX3_tideNow 1 wsX3_tideNow D [(cI, .int), (cZ, .boolean)] p s m args c A0) (hret : ∀ (pc : Nat) (ls : Array Slot) (r : Int32) (u : SA × SV) (H : Heap) (locs : List Loc), narrow .int (.int r) = .int r → decode cX3_tideNow pc = .ok (.ireturn, 1) → Q r u.1 u.2 → WS D s A0 (wO ad cI cZ u.1 u.2) H locs → W p l e rmX3_tideNow s m args below meth c H locs rmX3_tideNow.cells rmX3_tideNow.slots Z (F0 m pc ls [.int r]))  : ∀ (A : SA) (V : SV) (h : wb_X3_tideNow_0 Q A V) (H : Heap) (locs : List Loc) (ls : Array Slot) (hw : WS D s A0 (wO ad cI cZ A V) H locs) (hl : lv_has ls 1 [(0, .ref (ad 0))]), W p l e rmX3_tideNow s m args below meth c H locs 0 0 Z (F0 m 0 ls []) := by
  obtain ⟨hx, hb, hml, hown, hts, hK, hA⟩ := id cx
  intro A V h H locs ls hw hl
  refine lv_aload_n (pc := 0) hx hb dX3_tideNow_0 rfl (lv_at hl 0 rfl) ?_
  refine geO_X3_0 (pc := 1) cx inX3_tideNow_X3 kX3_tideNow_12 hw dX3_tideNow_1 ?_
  refine lv_aload_n (pc := 4) hx hb dX3_tideNow_4 rfl (lv_at hl 0 rfl) ?_
  refine geO_X3_4 (pc := 5) cx inX3_tideNow_X3 kX3_tideNow_67 hw dX3_tideNow_5 ?_
  refine callVi (pc := 8) (rest := []) (c1 := 0) (s1 := 0) cx hw hl (metX4_heightIn l D cI cZ ad H.size A V (V 4) _ h) (fun hts => cwV 1 hts gX3_tideNow_X4_heightIn rfl rfl rfl (by decide +kernel) ⟨Nat.le_of_ble_eq_true rfl, Nat.le_of_ble_eq_true rfl⟩) SUB.rf [0, 1] rfl 1 (ci := 4) rfl rfl rfl (JN.rf) rfl rfl (Nat.le_of_ble_eq_true rfl) ⟨Nat.le_of_ble_eq_true rfl, Nat.le_of_ble_eq_true rfl⟩ rfl rfl dX3_tideNow_8 (fun r1 u H locs h hw => ?_)
  obtain ⟨A2, V3⟩ := u
  exact hret 11 _ _ (A2, V3) _ _ rfl dX3_tideNow_11 h hw
def wpX3_tideNow (A : SA) (V : SV)  (Q : Int32 → SA → SV → Prop) : Prop := wb_X3_tideNow_0 Q A V
set_option maxHeartbeats 4000000 in
set_option maxRecDepth 100000 in
theorem metX3_tideNow (l : Launch) (D : va_G) (cI cZ : ClassId) (ad : Nat → Nat) (sz : Nat) (A : SA) (V : SV)  (Q : Int32 → SA → SV → Prop) (h : wpX3_tideNow A V  Q) : Met l yX3_tideNow wsX3_tideNow rmX3_tideNow (PcW D [(cI, .int), (cZ, .boolean)] (wO ad cI cZ A V) sz [.ref (ad 0)]) (QiW D [(cI, .int), (cZ, .boolean)] (wO ad cI cZ A V) sz (fun u : SA × SV => (wO ad cI cZ u.1 u.2)) (fun r u => Q r u.1 u.2)) rmX3_tideNow.cells rmX3_tideNow.slots (va_A (wO ad cI cZ A V) sz) := by
  refine startI (plainFor_of_name (by decide)) rfl (Nat.le_of_ble_eq_true rfl) ?_
  intro p e s m args below meth c A0 Z cx hw hret ls hl
  exact wk_X3_tideNow_0 Q cx hret A V h _ _ _ hw hl
abbrev rmX3_leaveBin : Room := { frames := 1, cells := 0, slots := 0, locals := 21 }
theorem inX3_leaveBin_X0 : ∀ w ∈ wsX00, w ∈ wsX3_leaveBin := by decide +kernel
theorem inX3_leaveBin_X2 : ∀ w ∈ wsX20, w ∈ wsX3_leaveBin := by decide +kernel
theorem inX3_leaveBin_X3 : ∀ w ∈ wsX30, w ∈ wsX3_leaveBin := by decide +kernel
theorem kX3_leaveBin_104 : Cond.fieldLink RX3 104 "DrownedPost$Letters" "state" "[I" ∈ wsX3_leaveBin := by decide +kernel
theorem kX3_leaveBin_110 : Cond.fieldLink RX3 110 "DrownedPost$Letters" "bin" "[I" ∈ wsX3_leaveBin := by decide +kernel
theorem kX3_leaveBin_129 : Cond.fieldLink RX3 129 "DrownedPost$Letters" "held" "[I" ∈ wsX3_leaveBin := by decide +kernel
theorem kX3_leaveBin_143 : Cond.fieldLink RX3 143 "DrownedPost$Bins" "filled" "[I" ∈ wsX3_leaveBin := by decide +kernel
theorem kX3_leaveBin_21 : Cond.fieldLink RX3 21 "DrownedPost$Office" "bins" "LDrownedPost$Bins;" ∈ wsX3_leaveBin := by decide +kernel
theorem kX3_leaveBin_35 : Cond.fieldLink RX3 35 "DrownedPost$Office" "letters" "LDrownedPost$Letters;" ∈ wsX3_leaveBin := by decide +kernel
def wb_X3_leaveBin_46 (Q : SA → SV → Prop) (A : SA) (V : SV) (x1 : Int32) (x2 : Int32) : Prop := (vp_in x1 150 ∧ (∀ A10 : SA, A10 = up A 14 x1.toNatClampNeg (-1 : Int32) → (vp_in x1 150 ∧ (∀ A11 : SA, A11 = up A10 15 x1.toNatClampNeg (0 : Int32) → (vp_in x1 150 ∧ (∀ A12 : SA, A12 = up A11 12 x1.toNatClampNeg x2 → Q A12 V))))))
set_option maxHeartbeats 4000000 in
set_option maxRecDepth 100000 in
theorem wk_X3_leaveBin_46 (Q : SA → SV → Prop) (cx : CX RX3 cX3_leaveBin 4 wsX3_leaveBin D [(cI, .int), (cZ, .boolean)] p s m args c A0) (hret : ∀ (pc : Nat) (ls : Array Slot) (u : SA × SV) (H : Heap) (locs : List Loc), decode cX3_leaveBin pc = .ok (.return_, 1) → Q u.1 u.2 → WS D s A0 (wO ad cI cZ u.1 u.2) H locs → W p l e rmX3_leaveBin s m args below meth c H locs rmX3_leaveBin.cells rmX3_leaveBin.slots Z (F0 m pc ls []))  : ∀ (A : SA) (V : SV) (x1 : Int32) (x2 : Int32) (h : wb_X3_leaveBin_46 Q A V x1 x2) (H : Heap) (locs : List Loc) (ls : Array Slot) (hw : WS D s A0 (wO ad cI cZ A V) H locs) (hl : lv_has ls 4 [(0, .ref (ad 0)), (1, .int x1), (2, .int x2)]), W p l e rmX3_leaveBin s m args below meth c H locs 0 0 Z (F0 m 46 ls []) := by
  obtain ⟨hx, hb, hml, hown, hts, hK, hA⟩ := id cx
  intro A V x1 x2 h H locs ls hw hl
  refine lv_aload_n (pc := 46) hx hb dX3_leaveBin_46 rfl (lv_at hl 0 rfl) ?_
  refine geO_X3_3 (pc := 47) cx inX3_leaveBin_X3 kX3_leaveBin_35 hw dX3_leaveBin_47 ?_
  refine geO_X2_5 (pc := 50) cx inX3_leaveBin_X2 kX3_leaveBin_110 hw dX3_leaveBin_50 ?_
  refine lv_iload_n (pc := 53) hx hb dX3_leaveBin_53 rfl (lv_at hl 1 rfl) ?_
  refine lv_iconst (pc := 54) (v := (-1 : Int32)) hx hb dX3_leaveBin_54 (by decide) ?_
  refine asO_14 (pc := 55) cx hw h.1 dX3_leaveBin_55 (fun A10 eA10 H locs hw => ?_)
  have h := h.2 A10 eA10
  refine lv_aload_n (pc := 56) hx hb dX3_leaveBin_56 rfl (lv_at hl 0 rfl) ?_
  refine geO_X3_3 (pc := 57) cx inX3_leaveBin_X3 kX3_leaveBin_35 hw dX3_leaveBin_57 ?_
  refine geO_X2_6 (pc := 60) cx inX3_leaveBin_X2 kX3_leaveBin_129 hw dX3_leaveBin_60 ?_
  refine lv_iload_n (pc := 63) hx hb dX3_leaveBin_63 rfl (lv_at hl 1 rfl) ?_
  refine lv_iconst (pc := 64) (v := (0 : Int32)) hx hb dX3_leaveBin_64 (by decide) ?_
  refine asO_15 (pc := 65) cx hw h.1 dX3_leaveBin_65 (fun A11 eA11 H locs hw => ?_)
  have h := h.2 A11 eA11
  refine lv_aload_n (pc := 66) hx hb dX3_leaveBin_66 rfl (lv_at hl 0 rfl) ?_
  refine geO_X3_3 (pc := 67) cx inX3_leaveBin_X3 kX3_leaveBin_35 hw dX3_leaveBin_67 ?_
  refine geO_X2_3 (pc := 70) cx inX3_leaveBin_X2 kX3_leaveBin_104 hw dX3_leaveBin_70 ?_
  refine lv_iload_n (pc := 73) hx hb dX3_leaveBin_73 rfl (lv_at hl 1 rfl) ?_
  refine lv_iload_n (pc := 74) hx hb dX3_leaveBin_74 rfl (lv_at hl 2 rfl) ?_
  refine asO_12 (pc := 75) cx hw h.1 dX3_leaveBin_75 (fun A12 eA12 H locs hw => ?_)
  have h := h.2 A12 eA12
  exact hret 76 _ (A12, V) _ _ dX3_leaveBin_76 h hw
def wb_X3_leaveBin_0 (Q : SA → SV → Prop) (A : SA) (V : SV) (x1 : Int32) (x2 : Int32) : Prop := (wpX2_has A V x1 (fun r1 A2 V3 => ((¬ r1 = 0 → (vp_in x1 150 ∧ (wpX0_has A2 V3 (A2 14 x1.toNatClampNeg) (fun r5 A6 V7 => ((r5 = 0 → (wb_X3_leaveBin_46 Q A6 V7 x1 x2)) ∧ (¬ (r5 = 0) → (vp_in (A2 14 x1.toNatClampNeg) 10 ∧ (vp_in (A2 14 x1.toNatClampNeg) 10 ∧ (∀ A9 : SA, A9 = up A6 3 (A2 14 x1.toNatClampNeg).toNatClampNeg ((A6 3 (A2 14 x1.toNatClampNeg).toNatClampNeg) - (1 : Int32)) → (wb_X3_leaveBin_46 Q A9 V7 x1 x2)))))))))) ∧ (r1 = 0 → Q A2 V3))))
set_option maxHeartbeats 4000000 in
set_option maxRecDepth 100000 in
theorem wk_X3_leaveBin_0 (Q : SA → SV → Prop) (cx : CX RX3 cX3_leaveBin 4 wsX3_leaveBin D [(cI, .int), (cZ, .boolean)] p s m args c A0) (hret : ∀ (pc : Nat) (ls : Array Slot) (u : SA × SV) (H : Heap) (locs : List Loc), decode cX3_leaveBin pc = .ok (.return_, 1) → Q u.1 u.2 → WS D s A0 (wO ad cI cZ u.1 u.2) H locs → W p l e rmX3_leaveBin s m args below meth c H locs rmX3_leaveBin.cells rmX3_leaveBin.slots Z (F0 m pc ls []))  : ∀ (A : SA) (V : SV) (x1 : Int32) (x2 : Int32) (h : wb_X3_leaveBin_0 Q A V x1 x2) (H : Heap) (locs : List Loc) (ls : Array Slot) (hw : WS D s A0 (wO ad cI cZ A V) H locs) (hl : lv_has ls 4 [(0, .ref (ad 0)), (1, .int x1), (2, .int x2)]), W p l e rmX3_leaveBin s m args below meth c H locs 0 0 Z (F0 m 0 ls []) := by
  obtain ⟨hx, hb, hml, hown, hts, hK, hA⟩ := id cx
  intro A V x1 x2 h H locs ls hw hl
  refine lv_aload_n (pc := 0) hx hb dX3_leaveBin_0 rfl (lv_at hl 0 rfl) ?_
  refine geO_X3_3 (pc := 1) cx inX3_leaveBin_X3 kX3_leaveBin_35 hw dX3_leaveBin_1 ?_
  refine lv_iload_n (pc := 4) hx hb dX3_leaveBin_4 rfl (lv_at hl 1 rfl) ?_
  refine callVi (pc := 5) (rest := []) (c1 := 0) (s1 := 0) cx hw hl (metX2_has l D cI cZ ad H.size A V x1 _ h) (fun hts => cwV 1 hts gX3_leaveBin_X2_has rfl rfl rfl (by decide +kernel) ⟨Nat.le_of_ble_eq_true rfl, Nat.le_of_ble_eq_true rfl⟩) SUB.rf [0, 1] rfl 4 (ci := 2) rfl rfl rfl (JN.rf) rfl rfl (Nat.le_of_ble_eq_true rfl) ⟨Nat.le_of_ble_eq_true rfl, Nat.le_of_ble_eq_true rfl⟩ rfl rfl dX3_leaveBin_5 (fun r1 u H locs h hw => ?_)
  obtain ⟨A2, V3⟩ := u
  refine lv_if_ne (pc := 8) (tgt := 12) hx hb dX3_leaveBin_8 (by decide) (fun c4 => ?_) (fun c4 => ?_)
  · have h := h.1 c4
    refine lv_aload_n (pc := 12) hx hb dX3_leaveBin_12 rfl (lv_at hl 0 rfl) ?_
    refine geO_X3_3 (pc := 13) cx inX3_leaveBin_X3 kX3_leaveBin_35 hw dX3_leaveBin_13 ?_
    refine geO_X2_5 (pc := 16) cx inX3_leaveBin_X2 kX3_leaveBin_110 hw dX3_leaveBin_16 ?_
    refine lv_iload_n (pc := 19) hx hb dX3_leaveBin_19 rfl (lv_at hl 1 rfl) ?_
    refine alO_14 (pc := 20) cx hw h.1 dX3_leaveBin_20 ?_
    have h := h.2
    refine lv_istore_n (pc := 21) (lv' := [(3, .int (A2 14 x1.toNatClampNeg)), (0, .ref (ad 0)), (1, .int x1), (2, .int x2)]) hx hb dX3_leaveBin_21 rfl hl (by decide) rfl (fun ls hl => ?_)
    refine lv_aload_n (pc := 22) hx hb dX3_leaveBin_22 rfl (lv_at hl 1 rfl) ?_
    refine geO_X3_1 (pc := 23) cx inX3_leaveBin_X3 kX3_leaveBin_21 hw dX3_leaveBin_23 ?_
    refine lv_iload_n (pc := 26) hx hb dX3_leaveBin_26 rfl (lv_at hl 0 rfl) ?_
    refine callVi (pc := 27) (rest := []) (c1 := 0) (s1 := 0) cx hw hl (metX0_has l D cI cZ ad H.size A2 V3 (A2 14 x1.toNatClampNeg) _ h) (fun hts => cwV 1 hts gX3_leaveBin_X0_has rfl rfl rfl (by decide +kernel) ⟨Nat.le_of_ble_eq_true rfl, Nat.le_of_ble_eq_true rfl⟩) SUB.rf [0, 1] rfl 2 (ci := 0) rfl rfl rfl (JN.rf) rfl rfl (Nat.le_of_ble_eq_true rfl) ⟨Nat.le_of_ble_eq_true rfl, Nat.le_of_ble_eq_true rfl⟩ rfl rfl dX3_leaveBin_27 (fun r5 u H locs h hw => ?_)
    obtain ⟨A6, V7⟩ := u
    refine lv_if_eq (pc := 30) (tgt := 46) hx hb dX3_leaveBin_30 (by decide) (fun c8 => ?_) (fun c8 => ?_)
    · have h := h.1 c8
      exact wk_X3_leaveBin_46 Q cx hret  A6 V7 x1 x2 h _ _ _ hw (lv_sub hl [1, 2, 3] rfl)
    · have h := h.2 c8
      refine lv_aload_n (pc := 33) hx hb dX3_leaveBin_33 rfl (lv_at hl 1 rfl) ?_
      refine geO_X3_1 (pc := 34) cx inX3_leaveBin_X3 kX3_leaveBin_21 hw dX3_leaveBin_34 ?_
      refine geO_X0_2 (pc := 37) cx inX3_leaveBin_X0 kX3_leaveBin_143 hw dX3_leaveBin_37 ?_
      refine lv_iload_n (pc := 40) hx hb dX3_leaveBin_40 rfl (lv_at hl 0 rfl) ?_
      refine lv_dup2_11 (pc := 41) hx hb dX3_leaveBin_41 rfl rfl ?_
      refine alO_3 (pc := 42) cx hw h.1 dX3_leaveBin_42 ?_
      have h := h.2
      refine lv_iconst (pc := 43) (v := (1 : Int32)) hx hb dX3_leaveBin_43 (by decide) ?_
      refine lv_isub (pc := 44) hx hb dX3_leaveBin_44 ?_
      refine asO_3 (pc := 45) cx hw h.1 dX3_leaveBin_45 (fun A9 eA9 H locs hw => ?_)
      have h := h.2 A9 eA9
      exact wk_X3_leaveBin_46 Q cx hret  A9 V7 x1 x2 h _ _ _ hw (lv_sub hl [1, 2, 3] rfl)
  · have h := h.2 c4
    exact hret 11 _ (A2, V3) _ _ dX3_leaveBin_11 h hw
def wpX3_leaveBin (A : SA) (V : SV) (x1 : Int32) (x2 : Int32) (Q : SA → SV → Prop) : Prop := wb_X3_leaveBin_0 Q A V x1 x2
set_option maxHeartbeats 4000000 in
set_option maxRecDepth 100000 in
theorem metX3_leaveBin (l : Launch) (D : va_G) (cI cZ : ClassId) (ad : Nat → Nat) (sz : Nat) (A : SA) (V : SV) (x1 : Int32) (x2 : Int32) (Q : SA → SV → Prop) (h : wpX3_leaveBin A V x1 x2 Q) : Met l yX3_leaveBin wsX3_leaveBin rmX3_leaveBin (PcW D [(cI, .int), (cZ, .boolean)] (wO ad cI cZ A V) sz [.ref (ad 0), .int x1, .int x2]) (QvW D [(cI, .int), (cZ, .boolean)] (wO ad cI cZ A V) sz (fun u : SA × SV => (wO ad cI cZ u.1 u.2)) (fun u => Q u.1 u.2)) rmX3_leaveBin.cells rmX3_leaveBin.slots (va_A (wO ad cI cZ A V) sz) := by
  refine startV (plainFor_of_name (by decide)) rfl (Nat.le_of_ble_eq_true rfl) ?_
  intro p e s m args below meth c A0 Z cx hw hret ls hl
  exact wk_X3_leaveBin_0 Q cx hret A V x1 x2 h _ _ _ hw hl
abbrev rmX3_wash : Room := { frames := 2, cells := 0, slots := 0, locals := 44 }
theorem inX3_wash_X2 : ∀ w ∈ wsX20, w ∈ wsX3_wash := by decide +kernel
theorem inX3_wash_X3 : ∀ w ∈ wsX30, w ∈ wsX3_wash := by decide +kernel
theorem kX3_wash_110 : Cond.fieldLink RX3 110 "DrownedPost$Letters" "bin" "[I" ∈ wsX3_wash := by decide +kernel
theorem kX3_wash_117 : Cond.fieldLink RX3 117 "DrownedPost$Letters" "growth" "[I" ∈ wsX3_wash := by decide +kernel
theorem kX3_wash_120 : Cond.fieldLink RX3 120 "DrownedPost$Letters" "weight" "[I" ∈ wsX3_wash := by decide +kernel
theorem kX3_wash_123 : Cond.fieldLink RX3 123 "DrownedPost$Letters" "to" "[I" ∈ wsX3_wash := by decide +kernel
theorem kX3_wash_129 : Cond.fieldLink RX3 129 "DrownedPost$Letters" "held" "[I" ∈ wsX3_wash := by decide +kernel
theorem kX3_wash_132 : Cond.fieldLink RX3 132 "DrownedPost$Letters" "seal" "[I" ∈ wsX3_wash := by decide +kernel
theorem kX3_wash_21 : Cond.fieldLink RX3 21 "DrownedPost$Office" "bins" "LDrownedPost$Bins;" ∈ wsX3_wash := by decide +kernel
theorem kX3_wash_28 : Cond.fieldLink RX3 28 "DrownedPost$Office" "drowned" "LDrownedPost$Drowned;" ∈ wsX3_wash := by decide +kernel
theorem kX3_wash_35 : Cond.fieldLink RX3 35 "DrownedPost$Office" "letters" "LDrownedPost$Letters;" ∈ wsX3_wash := by decide +kernel
theorem kX3_wash_46 : Cond.fieldLink RX3 46 "DrownedPost$Office" "sunk" "[I" ∈ wsX3_wash := by decide +kernel
theorem kX3_wash_77 : Cond.fieldLink RX3 77 "DrownedPost$Office" "sunkCount" "I" ∈ wsX3_wash := by decide +kernel
def wb_X3_wash_141 (Q : SA → SV → Prop) (A : SA) (V : SV) (x1 : Int32) : Prop := (vp_in x1 150 ∧ (((A 15 x1.toNatClampNeg) < (3 : Int32) → Q A V) ∧ (¬ ((A 15 x1.toNatClampNeg) < (3 : Int32)) → (((150 : Int32) ≤ (V 7) → Q A V) ∧ (¬ ((150 : Int32) ≤ (V 7)) → (wpX3_leaveBin A V x1 (2 : Int32) (fun A21 V22 => (vp_in (V22 7) 150 ∧ (∀ A23 : SA, A23 = up A21 18 (V22 7).toNatClampNeg x1 → (∀ V24 : SV, V24 = uv V22 7 ((V22 7) + (1 : Int32)) → Q A23 V24))))))))))
set_option maxHeartbeats 4000000 in
set_option maxRecDepth 100000 in
theorem wk_X3_wash_141 (Q : SA → SV → Prop) (cx : CX RX3 cX3_wash 5 wsX3_wash D [(cI, .int), (cZ, .boolean)] p s m args c A0) (hret : ∀ (pc : Nat) (ls : Array Slot) (u : SA × SV) (H : Heap) (locs : List Loc), decode cX3_wash pc = .ok (.return_, 1) → Q u.1 u.2 → WS D s A0 (wO ad cI cZ u.1 u.2) H locs → W p l e rmX3_wash s m args below meth c H locs rmX3_wash.cells rmX3_wash.slots Z (F0 m pc ls []))  : ∀ (A : SA) (V : SV) (x1 : Int32) (h : wb_X3_wash_141 Q A V x1) (H : Heap) (locs : List Loc) (ls : Array Slot) (hw : WS D s A0 (wO ad cI cZ A V) H locs) (hl : lv_has ls 5 [(0, .ref (ad 0)), (1, .int x1)]), W p l e rmX3_wash s m args below meth c H locs 0 0 Z (F0 m 141 ls []) := by
  obtain ⟨hx, hb, hml, hown, hts, hK, hA⟩ := id cx
  intro A V x1 h H locs ls hw hl
  refine lv_aload_n (pc := 141) hx hb dX3_wash_141 rfl (lv_at hl 0 rfl) ?_
  refine geO_X3_3 (pc := 142) cx inX3_wash_X3 kX3_wash_35 hw dX3_wash_142 ?_
  refine geO_X2_6 (pc := 145) cx inX3_wash_X2 kX3_wash_129 hw dX3_wash_145 ?_
  refine lv_iload_n (pc := 148) hx hb dX3_wash_148 rfl (lv_at hl 1 rfl) ?_
  refine alO_15 (pc := 149) cx hw h.1 dX3_wash_149 ?_
  have h := h.2
  refine lv_iconst (pc := 150) (v := (3 : Int32)) hx hb dX3_wash_150 (by decide) ?_
  refine lv_icmp_lt (pc := 151) (tgt := 190) hx hb dX3_wash_151 (by decide) (fun c18 => ?_) (fun c18 => ?_)
  · have h := h.1 c18
    exact hret 190 _ (A, V) _ _ dX3_wash_190 h hw
  · have h := h.2 c18
    refine lv_aload_n (pc := 154) hx hb dX3_wash_154 rfl (lv_at hl 0 rfl) ?_
    refine geO_X3_8 (pc := 155) cx inX3_wash_X3 kX3_wash_77 hw dX3_wash_155 ?_
    refine lv_sipush (pc := 158) (v := (150 : Int32)) hx hb dX3_wash_158 (by decide) ?_
    refine lv_icmp_ge (pc := 161) (tgt := 190) hx hb dX3_wash_161 (by decide) (fun c19 => ?_) (fun c19 => ?_)
    · have h := h.1 c19
      exact hret 190 _ (A, V) _ _ dX3_wash_190 h hw
    · have h := h.2 c19
      refine lv_aload_n (pc := 164) hx hb dX3_wash_164 rfl (lv_at hl 0 rfl) ?_
      refine lv_iload_n (pc := 165) hx hb dX3_wash_165 rfl (lv_at hl 1 rfl) ?_
      refine lv_iconst (pc := 166) (v := (2 : Int32)) hx hb dX3_wash_166 (by decide) ?_
      refine callVv (pc := 167) (rest := []) (c1 := 0) (s1 := 0) cx hw hl (metX3_leaveBin l D cI cZ ad H.size A V x1 (2 : Int32) _ h) (fun hts => cwV 2 hts gX3_wash_X3_leaveBin rfl rfl rfl (by decide +kernel) ⟨Nat.le_of_ble_eq_true rfl, Nat.le_of_ble_eq_true rfl⟩) SUB.rf [0, 1] rfl 0 (ci := 3) rfl rfl rfl (JN.rf) rfl rfl (Nat.le_of_ble_eq_true rfl) ⟨Nat.le_of_ble_eq_true rfl, Nat.le_of_ble_eq_true rfl⟩ rfl rfl dX3_wash_167 (fun u H locs h hw => ?_)
      obtain ⟨A21, V22⟩ := u
      refine lv_aload_n (pc := 170) hx hb dX3_wash_170 rfl (lv_at hl 0 rfl) ?_
      refine geO_X3_7 (pc := 171) cx inX3_wash_X3 kX3_wash_46 hw dX3_wash_171 ?_
      refine lv_aload_n (pc := 174) hx hb dX3_wash_174 rfl (lv_at hl 0 rfl) ?_
      refine geO_X3_8 (pc := 175) cx inX3_wash_X3 kX3_wash_77 hw dX3_wash_175 ?_
      refine lv_iload_n (pc := 178) hx hb dX3_wash_178 rfl (lv_at hl 1 rfl) ?_
      refine asO_18 (pc := 179) cx hw h.1 dX3_wash_179 (fun A23 eA23 H locs hw => ?_)
      have h := h.2 A23 eA23
      refine lv_aload_n (pc := 180) hx hb dX3_wash_180 rfl (lv_at hl 0 rfl) ?_
      refine lv_dup (pc := 181) hx hb dX3_wash_181 rfl ?_
      refine geO_X3_8 (pc := 182) cx inX3_wash_X3 kX3_wash_77 hw dX3_wash_182 ?_
      refine lv_iconst (pc := 185) (v := (1 : Int32)) hx hb dX3_wash_185 (by decide) ?_
      refine lv_iadd (pc := 186) hx hb dX3_wash_186 ?_
      refine puO_X3_8 (pc := 187) cx inX3_wash_X3 kX3_wash_77 hw dX3_wash_187 (fun V24 eV24 H locs hw => ?_)
      have h := h V24 eV24
      exact hret 190 _ (A23, V24) _ _ dX3_wash_190 h hw
def wb_X3_wash_106 (Q : SA → SV → Prop) (A : SA) (V : SV) (x1 : Int32) (x3 : Int32) (t1 : Int32) (t2 : Int32) : Prop := (vp_in t1 150 ∧ (∀ A12 : SA, A12 = up A 15 t1.toNatClampNeg t2 → ((x3 = 0 → (wb_X3_wash_141 Q A12 V x1)) ∧ (¬ (x3 = 0) → (vp_in x1 150 ∧ (vp_in x1 150 ∧ (((A12 13 x1.toNatClampNeg) < (A12 11 x1.toNatClampNeg) → (wb_X3_wash_141 Q A12 V x1)) ∧ (¬ ((A12 13 x1.toNatClampNeg) < (A12 11 x1.toNatClampNeg)) → (wpX3_leaveBin A12 V x1 (3 : Int32) (fun A16 V17 => Q A16 V17))))))))))
set_option maxHeartbeats 4000000 in
set_option maxRecDepth 100000 in
theorem wk_X3_wash_106 (Q : SA → SV → Prop) (cx : CX RX3 cX3_wash 5 wsX3_wash D [(cI, .int), (cZ, .boolean)] p s m args c A0) (hret : ∀ (pc : Nat) (ls : Array Slot) (u : SA × SV) (H : Heap) (locs : List Loc), decode cX3_wash pc = .ok (.return_, 1) → Q u.1 u.2 → WS D s A0 (wO ad cI cZ u.1 u.2) H locs → W p l e rmX3_wash s m args below meth c H locs rmX3_wash.cells rmX3_wash.slots Z (F0 m pc ls []))  : ∀ (A : SA) (V : SV) (x1 : Int32) (x3 : Int32) (t1 : Int32) (t2 : Int32) (h : wb_X3_wash_106 Q A V x1 x3 t1 t2) (H : Heap) (locs : List Loc) (ls : Array Slot) (hw : WS D s A0 (wO ad cI cZ A V) H locs) (hl : lv_has ls 5 [(0, .ref (ad 0)), (1, .int x1), (3, .int x3)]), W p l e rmX3_wash s m args below meth c H locs 0 0 Z (F0 m 106 ls [.int t2, .int t1, .ref (ad 20)]) := by
  obtain ⟨hx, hb, hml, hown, hts, hK, hA⟩ := id cx
  intro A V x1 x3 t1 t2 h H locs ls hw hl
  refine asO_15 (pc := 106) cx hw h.1 dX3_wash_106 (fun A12 eA12 H locs hw => ?_)
  have h := h.2 A12 eA12
  refine lv_iload_n (pc := 107) hx hb dX3_wash_107 rfl (lv_at hl 2 rfl) ?_
  refine lv_if_eq (pc := 108) (tgt := 141) hx hb dX3_wash_108 (by decide) (fun c13 => ?_) (fun c13 => ?_)
  · have h := h.1 c13
    exact wk_X3_wash_141 Q cx hret  A12 V x1 h _ _ _ hw (lv_sub hl [0, 1] rfl)
  · have h := h.2 c13
    refine lv_aload_n (pc := 111) hx hb dX3_wash_111 rfl (lv_at hl 0 rfl) ?_
    refine geO_X3_3 (pc := 112) cx inX3_wash_X3 kX3_wash_35 hw dX3_wash_112 ?_
    refine geO_X2_4 (pc := 115) cx inX3_wash_X2 kX3_wash_117 hw dX3_wash_115 ?_
    refine lv_iload_n (pc := 118) hx hb dX3_wash_118 rfl (lv_at hl 1 rfl) ?_
    refine alO_13 (pc := 119) cx hw h.1 dX3_wash_119 ?_
    have h := h.2
    refine lv_aload_n (pc := 120) hx hb dX3_wash_120 rfl (lv_at hl 0 rfl) ?_
    refine geO_X3_3 (pc := 121) cx inX3_wash_X3 kX3_wash_35 hw dX3_wash_121 ?_
    refine geO_X2_2 (pc := 124) cx inX3_wash_X2 kX3_wash_132 hw dX3_wash_124 ?_
    refine lv_iload_n (pc := 127) hx hb dX3_wash_127 rfl (lv_at hl 1 rfl) ?_
    refine alO_11 (pc := 128) cx hw h.1 dX3_wash_128 ?_
    have h := h.2
    refine lv_icmp_lt (pc := 129) (tgt := 141) hx hb dX3_wash_129 (by decide) (fun c14 => ?_) (fun c14 => ?_)
    · have h := h.1 c14
      exact wk_X3_wash_141 Q cx hret  A12 V x1 h _ _ _ hw (lv_sub hl [0, 1] rfl)
    · have h := h.2 c14
      refine lv_aload_n (pc := 132) hx hb dX3_wash_132 rfl (lv_at hl 0 rfl) ?_
      refine lv_iload_n (pc := 133) hx hb dX3_wash_133 rfl (lv_at hl 1 rfl) ?_
      refine lv_iconst (pc := 134) (v := (3 : Int32)) hx hb dX3_wash_134 (by decide) ?_
      refine callVv (pc := 135) (rest := []) (c1 := 0) (s1 := 0) cx hw hl (metX3_leaveBin l D cI cZ ad H.size A12 V x1 (3 : Int32) _ h) (fun hts => cwV 2 hts gX3_wash_X3_leaveBin rfl rfl rfl (by decide +kernel) ⟨Nat.le_of_ble_eq_true rfl, Nat.le_of_ble_eq_true rfl⟩) SUB.rf [0, 1] rfl 0 (ci := 3) rfl rfl rfl (JN.rf) rfl rfl (Nat.le_of_ble_eq_true rfl) ⟨Nat.le_of_ble_eq_true rfl, Nat.le_of_ble_eq_true rfl⟩ rfl rfl dX3_wash_135 (fun u H locs h hw => ?_)
      obtain ⟨A16, V17⟩ := u
      refine lv_goto (pc := 138) (tgt := 190) hx hb dX3_wash_138 (by decide) ?_
      exact hret 190 _ (A16, V17) _ _ dX3_wash_190 h hw
def wb_X3_wash_76 (Q : SA → SV → Prop) (A : SA) (V : SV) (x1 : Int32) (x3 : Int32) (t0 : Int32) : Prop := ((t0 = 0 → (wb_X3_wash_106 Q A V x1 x3 x1 (0 : Int32))) ∧ (¬ (t0 = 0) → (vp_in x1 150 ∧ (wb_X3_wash_106 Q A V x1 x3 x1 ((A 15 x1.toNatClampNeg) + (1 : Int32))))))
set_option maxHeartbeats 4000000 in
set_option maxRecDepth 100000 in
theorem wk_X3_wash_76 (Q : SA → SV → Prop) (cx : CX RX3 cX3_wash 5 wsX3_wash D [(cI, .int), (cZ, .boolean)] p s m args c A0) (hret : ∀ (pc : Nat) (ls : Array Slot) (u : SA × SV) (H : Heap) (locs : List Loc), decode cX3_wash pc = .ok (.return_, 1) → Q u.1 u.2 → WS D s A0 (wO ad cI cZ u.1 u.2) H locs → W p l e rmX3_wash s m args below meth c H locs rmX3_wash.cells rmX3_wash.slots Z (F0 m pc ls []))  : ∀ (A : SA) (V : SV) (x1 : Int32) (x3 : Int32) (t0 : Int32) (h : wb_X3_wash_76 Q A V x1 x3 t0) (H : Heap) (locs : List Loc) (ls : Array Slot) (hw : WS D s A0 (wO ad cI cZ A V) H locs) (hl : lv_has ls 5 [(0, .ref (ad 0)), (1, .int x1), (3, .int x3)]), W p l e rmX3_wash s m args below meth c H locs 0 0 Z (F0 m 76 ls [.int t0]) := by
  obtain ⟨hx, hb, hml, hown, hts, hK, hA⟩ := id cx
  intro A V x1 x3 t0 h H locs ls hw hl
  refine lv_istore (pc := 76) (lv' := [(4, .int t0), (0, .ref (ad 0)), (1, .int x1), (3, .int x3)]) hx hb dX3_wash_76 hl (by decide) rfl (fun ls hl => ?_)
  refine lv_aload_n (pc := 78) hx hb dX3_wash_78 rfl (lv_at hl 1 rfl) ?_
  refine geO_X3_3 (pc := 79) cx inX3_wash_X3 kX3_wash_35 hw dX3_wash_79 ?_
  refine geO_X2_6 (pc := 82) cx inX3_wash_X2 kX3_wash_129 hw dX3_wash_82 ?_
  refine lv_iload_n (pc := 85) hx hb dX3_wash_85 rfl (lv_at hl 2 rfl) ?_
  refine lv_iload (pc := 86) hx hb dX3_wash_86 (lv_at hl 0 rfl) ?_
  refine lv_if_eq (pc := 88) (tgt := 105) hx hb dX3_wash_88 (by decide) (fun c11 => ?_) (fun c11 => ?_)
  · have h := h.1 c11
    refine lv_iconst (pc := 105) (v := (0 : Int32)) hx hb dX3_wash_105 (by decide) ?_
    exact wk_X3_wash_106 Q cx hret  A V x1 x3 x1 (0 : Int32) h _ _ _ hw (lv_sub hl [1, 2, 3] rfl)
  · have h := h.2 c11
    refine lv_aload_n (pc := 91) hx hb dX3_wash_91 rfl (lv_at hl 1 rfl) ?_
    refine geO_X3_3 (pc := 92) cx inX3_wash_X3 kX3_wash_35 hw dX3_wash_92 ?_
    refine geO_X2_6 (pc := 95) cx inX3_wash_X2 kX3_wash_129 hw dX3_wash_95 ?_
    refine lv_iload_n (pc := 98) hx hb dX3_wash_98 rfl (lv_at hl 2 rfl) ?_
    refine alO_15 (pc := 99) cx hw h.1 dX3_wash_99 ?_
    have h := h.2
    refine lv_iconst (pc := 100) (v := (1 : Int32)) hx hb dX3_wash_100 (by decide) ?_
    refine lv_iadd (pc := 101) hx hb dX3_wash_101 ?_
    refine lv_goto (pc := 102) (tgt := 106) hx hb dX3_wash_102 (by decide) ?_
    exact wk_X3_wash_106 Q cx hret  A V x1 x3 x1 ((A 15 x1.toNatClampNeg) + (1 : Int32)) h _ _ _ hw (lv_sub hl [1, 2, 3] rfl)
def wb_X3_wash_47 (Q : SA → SV → Prop) (A : SA) (V : SV) (x1 : Int32) (x2 : Int32) (x3 : Int32) : Prop := ((x3 = 0 → (wb_X3_wash_76 Q A V x1 x3 (0 : Int32))) ∧ (¬ (x3 = 0) → (vp_in x1 150 ∧ (wpX1_heightOf A V (A 9 x1.toNatClampNeg) (fun r7 A8 V9 => ((x2 < r7 → (wb_X3_wash_76 Q A8 V9 x1 x3 (0 : Int32))) ∧ (¬ (x2 < r7) → (wb_X3_wash_76 Q A8 V9 x1 x3 (1 : Int32)))))))))
set_option maxHeartbeats 4000000 in
set_option maxRecDepth 100000 in
theorem wk_X3_wash_47 (Q : SA → SV → Prop) (cx : CX RX3 cX3_wash 5 wsX3_wash D [(cI, .int), (cZ, .boolean)] p s m args c A0) (hret : ∀ (pc : Nat) (ls : Array Slot) (u : SA × SV) (H : Heap) (locs : List Loc), decode cX3_wash pc = .ok (.return_, 1) → Q u.1 u.2 → WS D s A0 (wO ad cI cZ u.1 u.2) H locs → W p l e rmX3_wash s m args below meth c H locs rmX3_wash.cells rmX3_wash.slots Z (F0 m pc ls []))  : ∀ (A : SA) (V : SV) (x1 : Int32) (x2 : Int32) (x3 : Int32) (h : wb_X3_wash_47 Q A V x1 x2 x3) (H : Heap) (locs : List Loc) (ls : Array Slot) (hw : WS D s A0 (wO ad cI cZ A V) H locs) (hl : lv_has ls 5 [(0, .ref (ad 0)), (1, .int x1), (2, .int x2), (3, .int x3)]), W p l e rmX3_wash s m args below meth c H locs 0 0 Z (F0 m 47 ls []) := by
  obtain ⟨hx, hb, hml, hown, hts, hK, hA⟩ := id cx
  intro A V x1 x2 x3 h H locs ls hw hl
  refine lv_iload_n (pc := 47) hx hb dX3_wash_47 rfl (lv_at hl 3 rfl) ?_
  refine lv_if_eq (pc := 48) (tgt := 75) hx hb dX3_wash_48 (by decide) (fun c6 => ?_) (fun c6 => ?_)
  · have h := h.1 c6
    refine lv_iconst (pc := 75) (v := (0 : Int32)) hx hb dX3_wash_75 (by decide) ?_
    exact wk_X3_wash_76 Q cx hret  A V x1 x3 (0 : Int32) h _ _ _ hw (lv_sub hl [0, 1, 3] rfl)
  · have h := h.2 c6
    refine lv_iload_n (pc := 51) hx hb dX3_wash_51 rfl (lv_at hl 2 rfl) ?_
    refine lv_aload_n (pc := 52) hx hb dX3_wash_52 rfl (lv_at hl 0 rfl) ?_
    refine geO_X3_2 (pc := 53) cx inX3_wash_X3 kX3_wash_28 hw dX3_wash_53 ?_
    refine lv_aload_n (pc := 56) hx hb dX3_wash_56 rfl (lv_at hl 0 rfl) ?_
    refine geO_X3_3 (pc := 57) cx inX3_wash_X3 kX3_wash_35 hw dX3_wash_57 ?_
    refine geO_X2_0 (pc := 60) cx inX3_wash_X2 kX3_wash_123 hw dX3_wash_60 ?_
    refine lv_iload_n (pc := 63) hx hb dX3_wash_63 rfl (lv_at hl 1 rfl) ?_
    refine alO_9 (pc := 64) cx hw h.1 dX3_wash_64 ?_
    have h := h.2
    refine callVi (pc := 65) (rest := [.int x2]) (c1 := 0) (s1 := 0) cx hw hl (metX1_heightOf l D cI cZ ad H.size A V (A 9 x1.toNatClampNeg) _ h) (fun hts => cwV 1 hts gX3_wash_X1_heightOf rfl rfl rfl (by decide +kernel) ⟨Nat.le_of_ble_eq_true rfl, Nat.le_of_ble_eq_true rfl⟩) SUB.rf [0, 1] rfl 3 (ci := 1) rfl rfl rfl (JN.rf) rfl rfl (Nat.le_of_ble_eq_true rfl) ⟨Nat.le_of_ble_eq_true rfl, Nat.le_of_ble_eq_true rfl⟩ rfl rfl dX3_wash_65 (fun r7 u H locs h hw => ?_)
    obtain ⟨A8, V9⟩ := u
    refine lv_icmp_lt (pc := 68) (tgt := 75) hx hb dX3_wash_68 (by decide) (fun c10 => ?_) (fun c10 => ?_)
    · have h := h.1 c10
      refine lv_iconst (pc := 75) (v := (0 : Int32)) hx hb dX3_wash_75 (by decide) ?_
      exact wk_X3_wash_76 Q cx hret  A8 V9 x1 x3 (0 : Int32) h _ _ _ hw (lv_sub hl [0, 1, 3] rfl)
    · have h := h.2 c10
      refine lv_iconst (pc := 71) (v := (1 : Int32)) hx hb dX3_wash_71 (by decide) ?_
      refine lv_goto (pc := 72) (tgt := 76) hx hb dX3_wash_72 (by decide) ?_
      exact wk_X3_wash_76 Q cx hret  A8 V9 x1 x3 (1 : Int32) h _ _ _ hw (lv_sub hl [0, 1, 3] rfl)
def wb_X3_wash_0 (Q : SA → SV → Prop) (A : SA) (V : SV) (x1 : Int32) (x2 : Int32) : Prop := (vp_in x1 150 ∧ (wpX0_isUnder A V (A 14 x1.toNatClampNeg) x2 (fun r1 A2 V3 => ((r1 = 0 → (wb_X3_wash_47 Q A2 V3 x1 x2 r1)) ∧ (¬ (r1 = 0) → (vp_in x1 150 ∧ (vp_in x1 150 ∧ (¬ (3 : Int32) = 0 ∧ (vp_in x1 150 ∧ (∀ A5 : SA, A5 = up A2 13 x1.toNatClampNeg ((A2 13 x1.toNatClampNeg) + ((1 : Int32) + ((A2 10 x1.toNatClampNeg) / (3 : Int32)))) → (wb_X3_wash_47 Q A5 V3 x1 x2 r1)))))))))))
set_option maxHeartbeats 4000000 in
set_option maxRecDepth 100000 in
theorem wk_X3_wash_0 (Q : SA → SV → Prop) (cx : CX RX3 cX3_wash 5 wsX3_wash D [(cI, .int), (cZ, .boolean)] p s m args c A0) (hret : ∀ (pc : Nat) (ls : Array Slot) (u : SA × SV) (H : Heap) (locs : List Loc), decode cX3_wash pc = .ok (.return_, 1) → Q u.1 u.2 → WS D s A0 (wO ad cI cZ u.1 u.2) H locs → W p l e rmX3_wash s m args below meth c H locs rmX3_wash.cells rmX3_wash.slots Z (F0 m pc ls []))  : ∀ (A : SA) (V : SV) (x1 : Int32) (x2 : Int32) (h : wb_X3_wash_0 Q A V x1 x2) (H : Heap) (locs : List Loc) (ls : Array Slot) (hw : WS D s A0 (wO ad cI cZ A V) H locs) (hl : lv_has ls 5 [(0, .ref (ad 0)), (1, .int x1), (2, .int x2)]), W p l e rmX3_wash s m args below meth c H locs 0 0 Z (F0 m 0 ls []) := by
  obtain ⟨hx, hb, hml, hown, hts, hK, hA⟩ := id cx
  intro A V x1 x2 h H locs ls hw hl
  refine lv_aload_n (pc := 0) hx hb dX3_wash_0 rfl (lv_at hl 0 rfl) ?_
  refine geO_X3_1 (pc := 1) cx inX3_wash_X3 kX3_wash_21 hw dX3_wash_1 ?_
  refine lv_aload_n (pc := 4) hx hb dX3_wash_4 rfl (lv_at hl 0 rfl) ?_
  refine geO_X3_3 (pc := 5) cx inX3_wash_X3 kX3_wash_35 hw dX3_wash_5 ?_
  refine geO_X2_5 (pc := 8) cx inX3_wash_X2 kX3_wash_110 hw dX3_wash_8 ?_
  refine lv_iload_n (pc := 11) hx hb dX3_wash_11 rfl (lv_at hl 1 rfl) ?_
  refine alO_14 (pc := 12) cx hw h.1 dX3_wash_12 ?_
  have h := h.2
  refine lv_iload_n (pc := 13) hx hb dX3_wash_13 rfl (lv_at hl 2 rfl) ?_
  refine callVi (pc := 14) (rest := []) (c1 := 0) (s1 := 0) cx hw hl (metX0_isUnder l D cI cZ ad H.size A V (A 14 x1.toNatClampNeg) x2 _ h) (fun hts => cwV 2 hts gX3_wash_X0_isUnder rfl rfl rfl (by decide +kernel) ⟨Nat.le_of_ble_eq_true rfl, Nat.le_of_ble_eq_true rfl⟩) SUB.rf [0, 1] rfl 2 (ci := 0) rfl rfl rfl (JN.rf) rfl rfl (Nat.le_of_ble_eq_true rfl) ⟨Nat.le_of_ble_eq_true rfl, Nat.le_of_ble_eq_true rfl⟩ rfl rfl dX3_wash_14 (fun r1 u H locs h hw => ?_)
  obtain ⟨A2, V3⟩ := u
  refine lv_istore_n (pc := 17) (lv' := [(3, .int r1), (0, .ref (ad 0)), (1, .int x1), (2, .int x2)]) hx hb dX3_wash_17 rfl hl (by decide) rfl (fun ls hl => ?_)
  refine lv_iload_n (pc := 18) hx hb dX3_wash_18 rfl (lv_at hl 0 rfl) ?_
  refine lv_if_eq (pc := 19) (tgt := 47) hx hb dX3_wash_19 (by decide) (fun c4 => ?_) (fun c4 => ?_)
  · have h := h.1 c4
    exact wk_X3_wash_47 Q cx hret  A2 V3 x1 x2 r1 h _ _ _ hw (lv_sub hl [1, 2, 3, 0] rfl)
  · have h := h.2 c4
    refine lv_aload_n (pc := 22) hx hb dX3_wash_22 rfl (lv_at hl 1 rfl) ?_
    refine geO_X3_3 (pc := 23) cx inX3_wash_X3 kX3_wash_35 hw dX3_wash_23 ?_
    refine geO_X2_4 (pc := 26) cx inX3_wash_X2 kX3_wash_117 hw dX3_wash_26 ?_
    refine lv_iload_n (pc := 29) hx hb dX3_wash_29 rfl (lv_at hl 2 rfl) ?_
    refine lv_dup2_11 (pc := 30) hx hb dX3_wash_30 rfl rfl ?_
    refine alO_13 (pc := 31) cx hw h.1 dX3_wash_31 ?_
    have h := h.2
    refine lv_iconst (pc := 32) (v := (1 : Int32)) hx hb dX3_wash_32 (by decide) ?_
    refine lv_aload_n (pc := 33) hx hb dX3_wash_33 rfl (lv_at hl 1 rfl) ?_
    refine geO_X3_3 (pc := 34) cx inX3_wash_X3 kX3_wash_35 hw dX3_wash_34 ?_
    refine geO_X2_1 (pc := 37) cx inX3_wash_X2 kX3_wash_120 hw dX3_wash_37 ?_
    refine lv_iload_n (pc := 40) hx hb dX3_wash_40 rfl (lv_at hl 2 rfl) ?_
    refine alO_10 (pc := 41) cx hw h.1 dX3_wash_41 ?_
    have h := h.2
    refine lv_iconst (pc := 42) (v := (3 : Int32)) hx hb dX3_wash_42 (by decide) ?_
    refine lv_idiv (pc := 43) hx hb dX3_wash_43 h.1 ?_
    have h := h.2
    refine lv_iadd (pc := 44) hx hb dX3_wash_44 ?_
    refine lv_iadd (pc := 45) hx hb dX3_wash_45 ?_
    refine asO_13 (pc := 46) cx hw h.1 dX3_wash_46 (fun A5 eA5 H locs hw => ?_)
    have h := h.2 A5 eA5
    exact wk_X3_wash_47 Q cx hret  A5 V3 x1 x2 r1 h _ _ _ hw (lv_sub hl [1, 2, 3, 0] rfl)
def wpX3_wash (A : SA) (V : SV) (x1 : Int32) (x2 : Int32) (Q : SA → SV → Prop) : Prop := wb_X3_wash_0 Q A V x1 x2
set_option maxHeartbeats 4000000 in
set_option maxRecDepth 100000 in
theorem metX3_wash (l : Launch) (D : va_G) (cI cZ : ClassId) (ad : Nat → Nat) (sz : Nat) (A : SA) (V : SV) (x1 : Int32) (x2 : Int32) (Q : SA → SV → Prop) (h : wpX3_wash A V x1 x2 Q) : Met l yX3_wash wsX3_wash rmX3_wash (PcW D [(cI, .int), (cZ, .boolean)] (wO ad cI cZ A V) sz [.ref (ad 0), .int x1, .int x2]) (QvW D [(cI, .int), (cZ, .boolean)] (wO ad cI cZ A V) sz (fun u : SA × SV => (wO ad cI cZ u.1 u.2)) (fun u => Q u.1 u.2)) rmX3_wash.cells rmX3_wash.slots (va_A (wO ad cI cZ A V) sz) := by
  refine startV (plainFor_of_name (by decide)) rfl (Nat.le_of_ble_eq_true rfl) ?_
  intro p e s m args below meth c A0 Z cx hw hret ls hl
  exact wk_X3_wash_0 Q cx hret A V x1 x2 h _ _ _ hw hl
abbrev rmX3_water : Room := { frames := 3, cells := 0, slots := 0, locals := 68 }
theorem inX3_water_X2 : ∀ w ∈ wsX20, w ∈ wsX3_water := by decide +kernel
theorem inX3_water_X3 : ∀ w ∈ wsX30, w ∈ wsX3_water := by decide +kernel
theorem kX3_water_104 : Cond.fieldLink RX3 104 "DrownedPost$Letters" "state" "[I" ∈ wsX3_water := by decide +kernel
theorem kX3_water_35 : Cond.fieldLink RX3 35 "DrownedPost$Office" "letters" "LDrownedPost$Letters;" ∈ wsX3_water := by decide +kernel
theorem kX3_water_77 : Cond.fieldLink RX3 77 "DrownedPost$Office" "sunkCount" "I" ∈ wsX3_water := by decide +kernel
theorem kX3_water_84 : Cond.fieldLink RX3 84 "DrownedPost$Letters" "count" "I" ∈ wsX3_water := by decide +kernel
def wl_X3_water_7 (Q : SA → SV → Prop) : Nat → SA → SV → Int32 → Int32 → Prop
  | 0, _, _, _, _ => False
  | n + 1, A, V, x1, x2 => (((V 3) ≤ x2 → Q A V) ∧ (¬ ((V 3) ≤ x2) → (vp_in x2 150 ∧ ((¬ (A 12 x2.toNatClampNeg) = (1 : Int32) → wl_X3_water_7 Q n A V x1 (x2 + 1)) ∧ ((A 12 x2.toNatClampNeg) = (1 : Int32) → (wpX3_wash A V x2 x1 (fun A5 V6 => wl_X3_water_7 Q n A5 V6 x1 (x2 + 1))))))))
set_option maxHeartbeats 4000000 in
set_option maxRecDepth 100000 in
theorem wk_X3_water_7 (Q : SA → SV → Prop) (cx : CX RX3 cX3_water 3 wsX3_water D [(cI, .int), (cZ, .boolean)] p s m args c A0) (hret : ∀ (pc : Nat) (ls : Array Slot) (u : SA × SV) (H : Heap) (locs : List Loc), decode cX3_water pc = .ok (.return_, 1) → Q u.1 u.2 → WS D s A0 (wO ad cI cZ u.1 u.2) H locs → W p l e rmX3_water s m args below meth c H locs rmX3_water.cells rmX3_water.slots Z (F0 m pc ls []))  : ∀ (n : Nat) (A : SA) (V : SV) (x1 : Int32) (x2 : Int32) (h : wl_X3_water_7 Q n A V x1 x2) (H : Heap) (locs : List Loc) (ls : Array Slot) (hw : WS D s A0 (wO ad cI cZ A V) H locs) (hl : lv_has ls 3 [(0, .ref (ad 0)), (1, .int x1), (2, .int x2)]), W p l e rmX3_water s m args below meth c H locs 0 0 Z (F0 m 7 ls []) := by
  obtain ⟨hx, hb, hml, hown, hts, hK, hA⟩ := id cx
  intro n
  induction n with
  | zero => intro A V x1 x2 h; exact False.elim h
  | succ n ih =>
    intro A V x1 x2 h H locs ls hw hl
    refine lv_iload_n (pc := 7) hx hb dX3_water_7 rfl (lv_at hl 2 rfl) ?_
    refine lv_aload_n (pc := 8) hx hb dX3_water_8 rfl (lv_at hl 0 rfl) ?_
    refine geO_X3_3 (pc := 9) cx inX3_water_X3 kX3_water_35 hw dX3_water_9 ?_
    refine geO_X2_9 (pc := 12) cx inX3_water_X2 kX3_water_84 hw dX3_water_12 ?_
    refine lv_icmp_ge (pc := 15) (tgt := 43) hx hb dX3_water_15 (by decide) (fun c2 => ?_) (fun c2 => ?_)
    · have h := h.1 c2
      exact hret 43 _ (A, V) _ _ dX3_water_43 h hw
    · have h := h.2 c2
      refine lv_aload_n (pc := 18) hx hb dX3_water_18 rfl (lv_at hl 0 rfl) ?_
      refine geO_X3_3 (pc := 19) cx inX3_water_X3 kX3_water_35 hw dX3_water_19 ?_
      refine geO_X2_3 (pc := 22) cx inX3_water_X2 kX3_water_104 hw dX3_water_22 ?_
      refine lv_iload_n (pc := 25) hx hb dX3_water_25 rfl (lv_at hl 2 rfl) ?_
      refine alO_12 (pc := 26) cx hw h.1 dX3_water_26 ?_
      have h := h.2
      refine lv_iconst (pc := 27) (v := (1 : Int32)) hx hb dX3_water_27 (by decide) ?_
      refine lv_icmp_ne (pc := 28) (tgt := 37) hx hb dX3_water_28 (by decide) (fun c3 => ?_) (fun c3 => ?_)
      · have h := h.1 c3
        refine lv_iinc (pc := 37) (v := x2 + 1) (lv' := [(2, .int (x2 + 1)), (0, .ref (ad 0)), (1, .int x1)]) hx hb dX3_water_37 hl (k := 2) rfl rfl (by decide) rfl (fun ls hl => ?_)
        refine lv_goto (pc := 40) (tgt := 7) hx hb dX3_water_40 (by decide) ?_
        exact ih A V x1 (x2 + 1) h _ _ _ hw (lv_sub hl [1, 2, 0] rfl)
      · have h := h.2 c3
        refine lv_aload_n (pc := 31) hx hb dX3_water_31 rfl (lv_at hl 0 rfl) ?_
        refine lv_iload_n (pc := 32) hx hb dX3_water_32 rfl (lv_at hl 2 rfl) ?_
        refine lv_iload_n (pc := 33) hx hb dX3_water_33 rfl (lv_at hl 1 rfl) ?_
        refine callVv (pc := 34) (rest := []) (c1 := 0) (s1 := 0) cx hw hl (metX3_wash l D cI cZ ad H.size A V x2 x1 _ h) (fun hts => cwV 2 hts gX3_water_X3_wash rfl rfl rfl (by decide +kernel) ⟨Nat.le_of_ble_eq_true rfl, Nat.le_of_ble_eq_true rfl⟩) SUB.rf [0, 1] rfl 0 (ci := 3) rfl rfl rfl (JN.rf) rfl rfl (Nat.le_of_ble_eq_true rfl) ⟨Nat.le_of_ble_eq_true rfl, Nat.le_of_ble_eq_true rfl⟩ rfl rfl dX3_water_34 (fun u H locs h hw => ?_)
        obtain ⟨A5, V6⟩ := u
        refine lv_iinc (pc := 37) (v := x2 + 1) (lv' := [(2, .int (x2 + 1)), (0, .ref (ad 0)), (1, .int x1)]) hx hb dX3_water_37 hl (k := 2) rfl rfl (by decide) rfl (fun ls hl => ?_)
        refine lv_goto (pc := 40) (tgt := 7) hx hb dX3_water_40 (by decide) ?_
        exact ih A5 V6 x1 (x2 + 1) h _ _ _ hw (lv_sub hl [1, 2, 0] rfl)
def wb_X3_water_0 (Q : SA → SV → Prop) (A : SA) (V : SV) (x1 : Int32) : Prop := (∀ V1 : SV, V1 = uv V 7 (0 : Int32) → (∃ n7 : Nat, wl_X3_water_7 Q n7 A V1 x1 (0 : Int32)))
set_option maxHeartbeats 4000000 in
set_option maxRecDepth 100000 in
theorem wk_X3_water_0 (Q : SA → SV → Prop) (cx : CX RX3 cX3_water 3 wsX3_water D [(cI, .int), (cZ, .boolean)] p s m args c A0) (hret : ∀ (pc : Nat) (ls : Array Slot) (u : SA × SV) (H : Heap) (locs : List Loc), decode cX3_water pc = .ok (.return_, 1) → Q u.1 u.2 → WS D s A0 (wO ad cI cZ u.1 u.2) H locs → W p l e rmX3_water s m args below meth c H locs rmX3_water.cells rmX3_water.slots Z (F0 m pc ls []))  : ∀ (A : SA) (V : SV) (x1 : Int32) (h : wb_X3_water_0 Q A V x1) (H : Heap) (locs : List Loc) (ls : Array Slot) (hw : WS D s A0 (wO ad cI cZ A V) H locs) (hl : lv_has ls 3 [(0, .ref (ad 0)), (1, .int x1)]), W p l e rmX3_water s m args below meth c H locs 0 0 Z (F0 m 0 ls []) := by
  obtain ⟨hx, hb, hml, hown, hts, hK, hA⟩ := id cx
  intro A V x1 h H locs ls hw hl
  refine lv_aload_n (pc := 0) hx hb dX3_water_0 rfl (lv_at hl 0 rfl) ?_
  refine lv_iconst (pc := 1) (v := (0 : Int32)) hx hb dX3_water_1 (by decide) ?_
  refine puO_X3_8 (pc := 2) cx inX3_water_X3 kX3_water_77 hw dX3_water_2 (fun V1 eV1 H locs hw => ?_)
  have h := h V1 eV1
  refine lv_iconst (pc := 5) (v := (0 : Int32)) hx hb dX3_water_5 (by decide) ?_
  refine lv_istore_n (pc := 6) (lv' := [(2, .int (0 : Int32)), (0, .ref (ad 0)), (1, .int x1)]) hx hb dX3_water_6 rfl hl (by decide) rfl (fun ls hl => ?_)
  obtain ⟨n7, h⟩ := h
  exact wk_X3_water_7 Q cx hret  n7 A V1 x1 (0 : Int32) h _ _ _ hw (lv_sub hl [1, 2, 0] rfl)
def wpX3_water (A : SA) (V : SV) (x1 : Int32) (Q : SA → SV → Prop) : Prop := wb_X3_water_0 Q A V x1
set_option maxHeartbeats 4000000 in
set_option maxRecDepth 100000 in
theorem metX3_water (l : Launch) (D : va_G) (cI cZ : ClassId) (ad : Nat → Nat) (sz : Nat) (A : SA) (V : SV) (x1 : Int32) (Q : SA → SV → Prop) (h : wpX3_water A V x1 Q) : Met l yX3_water wsX3_water rmX3_water (PcW D [(cI, .int), (cZ, .boolean)] (wO ad cI cZ A V) sz [.ref (ad 0), .int x1]) (QvW D [(cI, .int), (cZ, .boolean)] (wO ad cI cZ A V) sz (fun u : SA × SV => (wO ad cI cZ u.1 u.2)) (fun u => Q u.1 u.2)) rmX3_water.cells rmX3_water.slots (va_A (wO ad cI cZ A V) sz) := by
  refine startV (plainFor_of_name (by decide)) rfl (Nat.le_of_ble_eq_true rfl) ?_
  intro p e s m args below meth c A0 Z cx hw hret ls hl
  exact wk_X3_water_0 Q cx hret A V x1 h _ _ _ hw hl
abbrev rmX3_writeAnswers : Room := { frames := 2, cells := 0, slots := 0, locals := 47 }
theorem inX3_writeAnswers_X1 : ∀ w ∈ wsX10, w ∈ wsX3_writeAnswers := by decide +kernel
theorem inX3_writeAnswers_X2 : ∀ w ∈ wsX20, w ∈ wsX3_writeAnswers := by decide +kernel
theorem inX3_writeAnswers_X3 : ∀ w ∈ wsX30, w ∈ wsX3_writeAnswers := by decide +kernel
theorem kX3_writeAnswers_123 : Cond.fieldLink RX3 123 "DrownedPost$Letters" "to" "[I" ∈ wsX3_writeAnswers := by decide +kernel
theorem kX3_writeAnswers_149 : Cond.fieldLink RX3 149 "DrownedPost$Drowned" "lag" "[I" ∈ wsX3_writeAnswers := by decide +kernel
theorem kX3_writeAnswers_155 : Cond.fieldLink RX3 155 "DrownedPost$Drowned" "written" "[I" ∈ wsX3_writeAnswers := by decide +kernel
theorem kX3_writeAnswers_28 : Cond.fieldLink RX3 28 "DrownedPost$Office" "drowned" "LDrownedPost$Drowned;" ∈ wsX3_writeAnswers := by decide +kernel
theorem kX3_writeAnswers_35 : Cond.fieldLink RX3 35 "DrownedPost$Office" "letters" "LDrownedPost$Letters;" ∈ wsX3_writeAnswers := by decide +kernel
theorem kX3_writeAnswers_46 : Cond.fieldLink RX3 46 "DrownedPost$Office" "sunk" "[I" ∈ wsX3_writeAnswers := by decide +kernel
theorem kX3_writeAnswers_77 : Cond.fieldLink RX3 77 "DrownedPost$Office" "sunkCount" "I" ∈ wsX3_writeAnswers := by decide +kernel
def wb_X3_writeAnswers_41 (Q : SA → SV → Prop) (K2 : SA → SV → Int32 → Prop) (A : SA) (V : SV) (x1 : Int32) (x2 : Int32) (t0 : Int32) : Prop := (wpX1_gets A V t0 (fun r6 A7 V8 => ((r6 = 0 → K2 A7 V8 (x1 + 1)) ∧ (¬ (r6 = 0) → (vp_in t0 16 ∧ (wpX2_answer A7 V8 x2 (A7 6 t0.toNatClampNeg) (fun r10 A11 V12 => ((r10 = 0 → K2 A11 V12 (x1 + 1)) ∧ (¬ (r10 = 0) → (vp_in t0 16 ∧ (vp_in t0 16 ∧ (∀ A14 : SA, A14 = up A11 8 t0.toNatClampNeg ((A11 8 t0.toNatClampNeg) + (1 : Int32)) → K2 A14 V12 (x1 + 1)))))))))))))
set_option maxHeartbeats 4000000 in
set_option maxRecDepth 100000 in
theorem wk_X3_writeAnswers_41 (Q : SA → SV → Prop) (K2 : SA → SV → Int32 → Prop) (cx : CX RX3 cX3_writeAnswers 4 wsX3_writeAnswers D [(cI, .int), (cZ, .boolean)] p s m args c A0) (hret : ∀ (pc : Nat) (ls : Array Slot) (u : SA × SV) (H : Heap) (locs : List Loc), decode cX3_writeAnswers pc = .ok (.return_, 1) → Q u.1 u.2 → WS D s A0 (wO ad cI cZ u.1 u.2) H locs → W p l e rmX3_writeAnswers s m args below meth c H locs rmX3_writeAnswers.cells rmX3_writeAnswers.slots Z (F0 m pc ls [])) (hK2 : ∀ (A : SA) (V : SV) (x1 : Int32) (h : K2 A V x1) (H : Heap) (locs : List Loc) (ls : Array Slot) (hw : WS D s A0 (wO ad cI cZ A V) H locs) (hl : lv_has ls 4 [(0, .ref (ad 0)), (1, .int x1)]), W p l e rmX3_writeAnswers s m args below meth c H locs 0 0 Z (F0 m 2 ls [])) : ∀ (A : SA) (V : SV) (x1 : Int32) (x2 : Int32) (t0 : Int32) (h : wb_X3_writeAnswers_41 Q K2 A V x1 x2 t0) (H : Heap) (locs : List Loc) (ls : Array Slot) (hw : WS D s A0 (wO ad cI cZ A V) H locs) (hl : lv_has ls 4 [(0, .ref (ad 0)), (1, .int x1), (2, .int x2)]), W p l e rmX3_writeAnswers s m args below meth c H locs 0 0 Z (F0 m 41 ls [.int t0]) := by
  obtain ⟨hx, hb, hml, hown, hts, hK, hA⟩ := id cx
  intro A V x1 x2 t0 h H locs ls hw hl
  refine lv_istore_n (pc := 41) (lv' := [(3, .int t0), (0, .ref (ad 0)), (1, .int x1), (2, .int x2)]) hx hb dX3_writeAnswers_41 rfl hl (by decide) rfl (fun ls hl => ?_)
  refine lv_aload_n (pc := 42) hx hb dX3_writeAnswers_42 rfl (lv_at hl 1 rfl) ?_
  refine geO_X3_2 (pc := 43) cx inX3_writeAnswers_X3 kX3_writeAnswers_28 hw dX3_writeAnswers_43 ?_
  refine lv_iload_n (pc := 46) hx hb dX3_writeAnswers_46 rfl (lv_at hl 0 rfl) ?_
  refine callVi (pc := 47) (rest := []) (c1 := 0) (s1 := 0) cx hw hl (metX1_gets l D cI cZ ad H.size A V t0 _ h) (fun hts => cwV 1 hts gX3_writeAnswers_X1_gets rfl rfl rfl (by decide +kernel) ⟨Nat.le_of_ble_eq_true rfl, Nat.le_of_ble_eq_true rfl⟩) SUB.rf [0, 1] rfl 3 (ci := 1) rfl rfl rfl (JN.rf) rfl rfl (Nat.le_of_ble_eq_true rfl) ⟨Nat.le_of_ble_eq_true rfl, Nat.le_of_ble_eq_true rfl⟩ rfl rfl dX3_writeAnswers_47 (fun r6 u H locs h hw => ?_)
  obtain ⟨A7, V8⟩ := u
  refine lv_if_eq (pc := 50) (tgt := 86) hx hb dX3_writeAnswers_50 (by decide) (fun c9 => ?_) (fun c9 => ?_)
  · have h := h.1 c9
    refine lv_iinc (pc := 86) (v := x1 + 1) (lv' := [(1, .int (x1 + 1)), (3, .int t0), (0, .ref (ad 0)), (2, .int x2)]) hx hb dX3_writeAnswers_86 hl (k := 2) rfl rfl (by decide) rfl (fun ls hl => ?_)
    refine lv_goto (pc := 89) (tgt := 2) hx hb dX3_writeAnswers_89 (by decide) ?_
    exact hK2 A7 V8 (x1 + 1) h _ _ _ hw (lv_sub hl [2, 0] rfl)
  · have h := h.2 c9
    refine lv_aload_n (pc := 53) hx hb dX3_writeAnswers_53 rfl (lv_at hl 1 rfl) ?_
    refine geO_X3_3 (pc := 54) cx inX3_writeAnswers_X3 kX3_writeAnswers_35 hw dX3_writeAnswers_54 ?_
    refine lv_iload_n (pc := 57) hx hb dX3_writeAnswers_57 rfl (lv_at hl 3 rfl) ?_
    refine lv_aload_n (pc := 58) hx hb dX3_writeAnswers_58 rfl (lv_at hl 1 rfl) ?_
    refine geO_X3_2 (pc := 59) cx inX3_writeAnswers_X3 kX3_writeAnswers_28 hw dX3_writeAnswers_59 ?_
    refine geO_X1_2 (pc := 62) cx inX3_writeAnswers_X1 kX3_writeAnswers_149 hw dX3_writeAnswers_62 ?_
    refine lv_iload_n (pc := 65) hx hb dX3_writeAnswers_65 rfl (lv_at hl 0 rfl) ?_
    refine alO_6 (pc := 66) cx hw h.1 dX3_writeAnswers_66 ?_
    have h := h.2
    refine callVi (pc := 67) (rest := []) (c1 := 0) (s1 := 0) cx hw hl (metX2_answer l D cI cZ ad H.size A7 V8 x2 (A7 6 t0.toNatClampNeg) _ h) (fun hts => cwV 2 hts gX3_writeAnswers_X2_answer rfl rfl rfl (by decide +kernel) ⟨Nat.le_of_ble_eq_true rfl, Nat.le_of_ble_eq_true rfl⟩) SUB.rf [0, 1] rfl 4 (ci := 2) rfl rfl rfl (JN.rf) rfl rfl (Nat.le_of_ble_eq_true rfl) ⟨Nat.le_of_ble_eq_true rfl, Nat.le_of_ble_eq_true rfl⟩ rfl rfl dX3_writeAnswers_67 (fun r10 u H locs h hw => ?_)
    obtain ⟨A11, V12⟩ := u
    refine lv_if_eq (pc := 70) (tgt := 86) hx hb dX3_writeAnswers_70 (by decide) (fun c13 => ?_) (fun c13 => ?_)
    · have h := h.1 c13
      refine lv_iinc (pc := 86) (v := x1 + 1) (lv' := [(1, .int (x1 + 1)), (3, .int t0), (0, .ref (ad 0)), (2, .int x2)]) hx hb dX3_writeAnswers_86 hl (k := 2) rfl rfl (by decide) rfl (fun ls hl => ?_)
      refine lv_goto (pc := 89) (tgt := 2) hx hb dX3_writeAnswers_89 (by decide) ?_
      exact hK2 A11 V12 (x1 + 1) h _ _ _ hw (lv_sub hl [2, 0] rfl)
    · have h := h.2 c13
      refine lv_aload_n (pc := 73) hx hb dX3_writeAnswers_73 rfl (lv_at hl 1 rfl) ?_
      refine geO_X3_2 (pc := 74) cx inX3_writeAnswers_X3 kX3_writeAnswers_28 hw dX3_writeAnswers_74 ?_
      refine geO_X1_4 (pc := 77) cx inX3_writeAnswers_X1 kX3_writeAnswers_155 hw dX3_writeAnswers_77 ?_
      refine lv_iload_n (pc := 80) hx hb dX3_writeAnswers_80 rfl (lv_at hl 0 rfl) ?_
      refine lv_dup2_11 (pc := 81) hx hb dX3_writeAnswers_81 rfl rfl ?_
      refine alO_8 (pc := 82) cx hw h.1 dX3_writeAnswers_82 ?_
      have h := h.2
      refine lv_iconst (pc := 83) (v := (1 : Int32)) hx hb dX3_writeAnswers_83 (by decide) ?_
      refine lv_iadd (pc := 84) hx hb dX3_writeAnswers_84 ?_
      refine asO_8 (pc := 85) cx hw h.1 dX3_writeAnswers_85 (fun A14 eA14 H locs hw => ?_)
      have h := h.2 A14 eA14
      refine lv_iinc (pc := 86) (v := x1 + 1) (lv' := [(1, .int (x1 + 1)), (3, .int t0), (0, .ref (ad 0)), (2, .int x2)]) hx hb dX3_writeAnswers_86 hl (k := 2) rfl rfl (by decide) rfl (fun ls hl => ?_)
      refine lv_goto (pc := 89) (tgt := 2) hx hb dX3_writeAnswers_89 (by decide) ?_
      exact hK2 A14 V12 (x1 + 1) h _ _ _ hw (lv_sub hl [2, 0] rfl)
def wl_X3_writeAnswers_2 (Q : SA → SV → Prop) : Nat → SA → SV → Int32 → Prop
  | 0, _, _, _ => False
  | n + 1, A, V, x1 => (((V 7) ≤ x1 → Q A V) ∧ (¬ ((V 7) ≤ x1) → (vp_in x1 150 ∧ (wpX2_has A V (A 18 x1.toNatClampNeg) (fun r2 A3 V4 => ((r2 = 0 → (wb_X3_writeAnswers_41 Q (wl_X3_writeAnswers_2 Q n) A3 V4 x1 (A 18 x1.toNatClampNeg) (-1 : Int32))) ∧ (¬ (r2 = 0) → (vp_in (A 18 x1.toNatClampNeg) 150 ∧ (wb_X3_writeAnswers_41 Q (wl_X3_writeAnswers_2 Q n) A3 V4 x1 (A 18 x1.toNatClampNeg) (A3 9 (A 18 x1.toNatClampNeg).toNatClampNeg))))))))))
set_option maxHeartbeats 4000000 in
set_option maxRecDepth 100000 in
theorem wk_X3_writeAnswers_2 (Q : SA → SV → Prop) (cx : CX RX3 cX3_writeAnswers 4 wsX3_writeAnswers D [(cI, .int), (cZ, .boolean)] p s m args c A0) (hret : ∀ (pc : Nat) (ls : Array Slot) (u : SA × SV) (H : Heap) (locs : List Loc), decode cX3_writeAnswers pc = .ok (.return_, 1) → Q u.1 u.2 → WS D s A0 (wO ad cI cZ u.1 u.2) H locs → W p l e rmX3_writeAnswers s m args below meth c H locs rmX3_writeAnswers.cells rmX3_writeAnswers.slots Z (F0 m pc ls []))  : ∀ (n : Nat) (A : SA) (V : SV) (x1 : Int32) (h : wl_X3_writeAnswers_2 Q n A V x1) (H : Heap) (locs : List Loc) (ls : Array Slot) (hw : WS D s A0 (wO ad cI cZ A V) H locs) (hl : lv_has ls 4 [(0, .ref (ad 0)), (1, .int x1)]), W p l e rmX3_writeAnswers s m args below meth c H locs 0 0 Z (F0 m 2 ls []) := by
  obtain ⟨hx, hb, hml, hown, hts, hK, hA⟩ := id cx
  intro n
  induction n with
  | zero => intro A V x1 h; exact False.elim h
  | succ n ih =>
    intro A V x1 h H locs ls hw hl
    refine lv_iload_n (pc := 2) hx hb dX3_writeAnswers_2 rfl (lv_at hl 1 rfl) ?_
    refine lv_aload_n (pc := 3) hx hb dX3_writeAnswers_3 rfl (lv_at hl 0 rfl) ?_
    refine geO_X3_8 (pc := 4) cx inX3_writeAnswers_X3 kX3_writeAnswers_77 hw dX3_writeAnswers_4 ?_
    refine lv_icmp_ge (pc := 7) (tgt := 92) hx hb dX3_writeAnswers_7 (by decide) (fun c1 => ?_) (fun c1 => ?_)
    · have h := h.1 c1
      exact hret 92 _ (A, V) _ _ dX3_writeAnswers_92 h hw
    · have h := h.2 c1
      refine lv_aload_n (pc := 10) hx hb dX3_writeAnswers_10 rfl (lv_at hl 0 rfl) ?_
      refine geO_X3_7 (pc := 11) cx inX3_writeAnswers_X3 kX3_writeAnswers_46 hw dX3_writeAnswers_11 ?_
      refine lv_iload_n (pc := 14) hx hb dX3_writeAnswers_14 rfl (lv_at hl 1 rfl) ?_
      refine alO_18 (pc := 15) cx hw h.1 dX3_writeAnswers_15 ?_
      have h := h.2
      refine lv_istore_n (pc := 16) (lv' := [(2, .int (A 18 x1.toNatClampNeg)), (0, .ref (ad 0)), (1, .int x1)]) hx hb dX3_writeAnswers_16 rfl hl (by decide) rfl (fun ls hl => ?_)
      refine lv_aload_n (pc := 17) hx hb dX3_writeAnswers_17 rfl (lv_at hl 1 rfl) ?_
      refine geO_X3_3 (pc := 18) cx inX3_writeAnswers_X3 kX3_writeAnswers_35 hw dX3_writeAnswers_18 ?_
      refine lv_iload_n (pc := 21) hx hb dX3_writeAnswers_21 rfl (lv_at hl 0 rfl) ?_
      refine callVi (pc := 22) (rest := []) (c1 := 0) (s1 := 0) cx hw hl (metX2_has l D cI cZ ad H.size A V (A 18 x1.toNatClampNeg) _ h) (fun hts => cwV 1 hts gX3_writeAnswers_X2_has rfl rfl rfl (by decide +kernel) ⟨Nat.le_of_ble_eq_true rfl, Nat.le_of_ble_eq_true rfl⟩) SUB.rf [0, 1] rfl 4 (ci := 2) rfl rfl rfl (JN.rf) rfl rfl (Nat.le_of_ble_eq_true rfl) ⟨Nat.le_of_ble_eq_true rfl, Nat.le_of_ble_eq_true rfl⟩ rfl rfl dX3_writeAnswers_22 (fun r2 u H locs h hw => ?_)
      obtain ⟨A3, V4⟩ := u
      refine lv_if_eq (pc := 25) (tgt := 40) hx hb dX3_writeAnswers_25 (by decide) (fun c5 => ?_) (fun c5 => ?_)
      · have h := h.1 c5
        refine lv_iconst (pc := 40) (v := (-1 : Int32)) hx hb dX3_writeAnswers_40 (by decide) ?_
        exact wk_X3_writeAnswers_41 Q (wl_X3_writeAnswers_2 Q n) cx hret ih A3 V4 x1 (A 18 x1.toNatClampNeg) (-1 : Int32) h _ _ _ hw (lv_sub hl [1, 2, 0] rfl)
      · have h := h.2 c5
        refine lv_aload_n (pc := 28) hx hb dX3_writeAnswers_28 rfl (lv_at hl 1 rfl) ?_
        refine geO_X3_3 (pc := 29) cx inX3_writeAnswers_X3 kX3_writeAnswers_35 hw dX3_writeAnswers_29 ?_
        refine geO_X2_0 (pc := 32) cx inX3_writeAnswers_X2 kX3_writeAnswers_123 hw dX3_writeAnswers_32 ?_
        refine lv_iload_n (pc := 35) hx hb dX3_writeAnswers_35 rfl (lv_at hl 0 rfl) ?_
        refine alO_9 (pc := 36) cx hw h.1 dX3_writeAnswers_36 ?_
        have h := h.2
        refine lv_goto (pc := 37) (tgt := 41) hx hb dX3_writeAnswers_37 (by decide) ?_
        exact wk_X3_writeAnswers_41 Q (wl_X3_writeAnswers_2 Q n) cx hret ih A3 V4 x1 (A 18 x1.toNatClampNeg) (A3 9 (A 18 x1.toNatClampNeg).toNatClampNeg) h _ _ _ hw (lv_sub hl [1, 2, 0] rfl)
def wb_X3_writeAnswers_0 (Q : SA → SV → Prop) (A : SA) (V : SV) : Prop := (∃ n2 : Nat, wl_X3_writeAnswers_2 Q n2 A V (0 : Int32))
set_option maxHeartbeats 4000000 in
set_option maxRecDepth 100000 in
theorem wk_X3_writeAnswers_0 (Q : SA → SV → Prop) (cx : CX RX3 cX3_writeAnswers 4 wsX3_writeAnswers D [(cI, .int), (cZ, .boolean)] p s m args c A0) (hret : ∀ (pc : Nat) (ls : Array Slot) (u : SA × SV) (H : Heap) (locs : List Loc), decode cX3_writeAnswers pc = .ok (.return_, 1) → Q u.1 u.2 → WS D s A0 (wO ad cI cZ u.1 u.2) H locs → W p l e rmX3_writeAnswers s m args below meth c H locs rmX3_writeAnswers.cells rmX3_writeAnswers.slots Z (F0 m pc ls []))  : ∀ (A : SA) (V : SV) (h : wb_X3_writeAnswers_0 Q A V) (H : Heap) (locs : List Loc) (ls : Array Slot) (hw : WS D s A0 (wO ad cI cZ A V) H locs) (hl : lv_has ls 4 [(0, .ref (ad 0))]), W p l e rmX3_writeAnswers s m args below meth c H locs 0 0 Z (F0 m 0 ls []) := by
  obtain ⟨hx, hb, hml, hown, hts, hK, hA⟩ := id cx
  intro A V h H locs ls hw hl
  refine lv_iconst (pc := 0) (v := (0 : Int32)) hx hb dX3_writeAnswers_0 (by decide) ?_
  refine lv_istore_n (pc := 1) (lv' := [(1, .int (0 : Int32)), (0, .ref (ad 0))]) hx hb dX3_writeAnswers_1 rfl hl (by decide) rfl (fun ls hl => ?_)
  obtain ⟨n2, h⟩ := h
  exact wk_X3_writeAnswers_2 Q cx hret  n2 A V (0 : Int32) h _ _ _ hw (lv_sub hl [1, 0] rfl)
def wpX3_writeAnswers (A : SA) (V : SV)  (Q : SA → SV → Prop) : Prop := wb_X3_writeAnswers_0 Q A V
set_option maxHeartbeats 4000000 in
set_option maxRecDepth 100000 in
theorem metX3_writeAnswers (l : Launch) (D : va_G) (cI cZ : ClassId) (ad : Nat → Nat) (sz : Nat) (A : SA) (V : SV)  (Q : SA → SV → Prop) (h : wpX3_writeAnswers A V  Q) : Met l yX3_writeAnswers wsX3_writeAnswers rmX3_writeAnswers (PcW D [(cI, .int), (cZ, .boolean)] (wO ad cI cZ A V) sz [.ref (ad 0)]) (QvW D [(cI, .int), (cZ, .boolean)] (wO ad cI cZ A V) sz (fun u : SA × SV => (wO ad cI cZ u.1 u.2)) (fun u => Q u.1 u.2)) rmX3_writeAnswers.cells rmX3_writeAnswers.slots (va_A (wO ad cI cZ A V) sz) := by
  refine startV (plainFor_of_name (by decide)) rfl (Nat.le_of_ble_eq_true rfl) ?_
  intro p e s m args below meth c A0 Z cx hw hret ls hl
  exact wk_X3_writeAnswers_0 Q cx hret A V h _ _ _ hw hl
abbrev rmX3_bringAnswersNearer : Room := { frames := 0, cells := 0, slots := 0, locals := 0 }
theorem inX3_bringAnswersNearer_X2 : ∀ w ∈ wsX20, w ∈ wsX3_bringAnswersNearer := by decide +kernel
theorem inX3_bringAnswersNearer_X3 : ∀ w ∈ wsX30, w ∈ wsX3_bringAnswersNearer := by decide +kernel
theorem kX3_bringAnswersNearer_104 : Cond.fieldLink RX3 104 "DrownedPost$Letters" "state" "[I" ∈ wsX3_bringAnswersNearer := by decide +kernel
theorem kX3_bringAnswersNearer_158 : Cond.fieldLink RX3 158 "DrownedPost$Letters" "hoursBefore" "[I" ∈ wsX3_bringAnswersNearer := by decide +kernel
theorem kX3_bringAnswersNearer_35 : Cond.fieldLink RX3 35 "DrownedPost$Office" "letters" "LDrownedPost$Letters;" ∈ wsX3_bringAnswersNearer := by decide +kernel
def wb_X3_bringAnswersNearer_45 (Q : SA → SV → Prop) (K2 : SA → SV → Int32 → Int32 → Int32 → Prop) (A : SA) (V : SV) (x1 : Int32) (x2 : Int32) (x3 : Int32) : Prop := (vp_in x3 150 ∧ ((¬ (A 16 x3.toNatClampNeg) = 0 → K2 A V x1 x2 (x3 + 1)) ∧ ((A 16 x3.toNatClampNeg) = 0 → (((30 : Int32) < x2 → K2 A V x1 x2 (x3 + 1)) ∧ (¬ ((30 : Int32) < x2) → (vp_in x3 150 ∧ (∀ A7 : SA, A7 = up A 12 x3.toNatClampNeg (5 : Int32) → K2 A7 V x1 x2 (x3 + 1))))))))
set_option maxHeartbeats 4000000 in
set_option maxRecDepth 100000 in
theorem wk_X3_bringAnswersNearer_45 (Q : SA → SV → Prop) (K2 : SA → SV → Int32 → Int32 → Int32 → Prop) (cx : CX RX3 cX3_bringAnswersNearer 4 wsX3_bringAnswersNearer D [(cI, .int), (cZ, .boolean)] p s m args c A0) (hret : ∀ (pc : Nat) (ls : Array Slot) (u : SA × SV) (H : Heap) (locs : List Loc), decode cX3_bringAnswersNearer pc = .ok (.return_, 1) → Q u.1 u.2 → WS D s A0 (wO ad cI cZ u.1 u.2) H locs → W p l e rmX3_bringAnswersNearer s m args below meth c H locs rmX3_bringAnswersNearer.cells rmX3_bringAnswersNearer.slots Z (F0 m pc ls [])) (hK2 : ∀ (A : SA) (V : SV) (x1 : Int32) (x2 : Int32) (x3 : Int32) (h : K2 A V x1 x2 x3) (H : Heap) (locs : List Loc) (ls : Array Slot) (hw : WS D s A0 (wO ad cI cZ A V) H locs) (hl : lv_has ls 4 [(0, .ref (ad 0)), (1, .int x1), (2, .int x2), (3, .int x3)]), W p l e rmX3_bringAnswersNearer s m args below meth c H locs 0 0 Z (F0 m 2 ls [])) : ∀ (A : SA) (V : SV) (x1 : Int32) (x2 : Int32) (x3 : Int32) (h : wb_X3_bringAnswersNearer_45 Q K2 A V x1 x2 x3) (H : Heap) (locs : List Loc) (ls : Array Slot) (hw : WS D s A0 (wO ad cI cZ A V) H locs) (hl : lv_has ls 4 [(0, .ref (ad 0)), (1, .int x1), (2, .int x2), (3, .int x3)]), W p l e rmX3_bringAnswersNearer s m args below meth c H locs 0 0 Z (F0 m 45 ls []) := by
  obtain ⟨hx, hb, hml, hown, hts, hK, hA⟩ := id cx
  intro A V x1 x2 x3 h H locs ls hw hl
  refine lv_aload_n (pc := 45) hx hb dX3_bringAnswersNearer_45 rfl (lv_at hl 0 rfl) ?_
  refine geO_X3_3 (pc := 46) cx inX3_bringAnswersNearer_X3 kX3_bringAnswersNearer_35 hw dX3_bringAnswersNearer_46 ?_
  refine geO_X2_7 (pc := 49) cx inX3_bringAnswersNearer_X2 kX3_bringAnswersNearer_158 hw dX3_bringAnswersNearer_49 ?_
  refine lv_iload_n (pc := 52) hx hb dX3_bringAnswersNearer_52 rfl (lv_at hl 3 rfl) ?_
  refine alO_16 (pc := 53) cx hw h.1 dX3_bringAnswersNearer_53 ?_
  have h := h.2
  refine lv_if_ne (pc := 54) (tgt := 73) hx hb dX3_bringAnswersNearer_54 (by decide) (fun c5 => ?_) (fun c5 => ?_)
  · have h := h.1 c5
    refine lv_iinc (pc := 73) (v := x3 + 1) (lv' := [(3, .int (x3 + 1)), (0, .ref (ad 0)), (1, .int x1), (2, .int x2)]) hx hb dX3_bringAnswersNearer_73 hl (k := 3) rfl rfl (by decide) rfl (fun ls hl => ?_)
    refine lv_goto (pc := 76) (tgt := 2) hx hb dX3_bringAnswersNearer_76 (by decide) ?_
    exact hK2 A V x1 x2 (x3 + 1) h _ _ _ hw (lv_sub hl [1, 2, 3, 0] rfl)
  · have h := h.2 c5
    refine lv_iload_n (pc := 57) hx hb dX3_bringAnswersNearer_57 rfl (lv_at hl 2 rfl) ?_
    refine lv_bipush (pc := 58) (v := (30 : Int32)) hx hb dX3_bringAnswersNearer_58 (by decide) ?_
    refine lv_icmp_gt (pc := 60) (tgt := 73) hx hb dX3_bringAnswersNearer_60 (by decide) (fun c6 => ?_) (fun c6 => ?_)
    · have h := h.1 c6
      refine lv_iinc (pc := 73) (v := x3 + 1) (lv' := [(3, .int (x3 + 1)), (0, .ref (ad 0)), (1, .int x1), (2, .int x2)]) hx hb dX3_bringAnswersNearer_73 hl (k := 3) rfl rfl (by decide) rfl (fun ls hl => ?_)
      refine lv_goto (pc := 76) (tgt := 2) hx hb dX3_bringAnswersNearer_76 (by decide) ?_
      exact hK2 A V x1 x2 (x3 + 1) h _ _ _ hw (lv_sub hl [1, 2, 3, 0] rfl)
    · have h := h.2 c6
      refine lv_aload_n (pc := 63) hx hb dX3_bringAnswersNearer_63 rfl (lv_at hl 0 rfl) ?_
      refine geO_X3_3 (pc := 64) cx inX3_bringAnswersNearer_X3 kX3_bringAnswersNearer_35 hw dX3_bringAnswersNearer_64 ?_
      refine geO_X2_3 (pc := 67) cx inX3_bringAnswersNearer_X2 kX3_bringAnswersNearer_104 hw dX3_bringAnswersNearer_67 ?_
      refine lv_iload_n (pc := 70) hx hb dX3_bringAnswersNearer_70 rfl (lv_at hl 3 rfl) ?_
      refine lv_iconst (pc := 71) (v := (5 : Int32)) hx hb dX3_bringAnswersNearer_71 (by decide) ?_
      refine asO_12 (pc := 72) cx hw h.1 dX3_bringAnswersNearer_72 (fun A7 eA7 H locs hw => ?_)
      have h := h.2 A7 eA7
      refine lv_iinc (pc := 73) (v := x3 + 1) (lv' := [(3, .int (x3 + 1)), (0, .ref (ad 0)), (1, .int x1), (2, .int x2)]) hx hb dX3_bringAnswersNearer_73 hl (k := 3) rfl rfl (by decide) rfl (fun ls hl => ?_)
      refine lv_goto (pc := 76) (tgt := 2) hx hb dX3_bringAnswersNearer_76 (by decide) ?_
      exact hK2 A7 V x1 x2 (x3 + 1) h _ _ _ hw (lv_sub hl [1, 2, 3, 0] rfl)
def wl_X3_bringAnswersNearer_2 (Q : SA → SV → Prop) : Nat → SA → SV → Int32 → Int32 → Int32 → Prop
  | 0, _, _, _, _, _ => False
  | n + 1, A, V, x1, x2, x3 => ((x1 ≤ x3 → Q A V) ∧ (¬ (x1 ≤ x3) → (vp_in x3 150 ∧ ((¬ (A 12 x3.toNatClampNeg) = (4 : Int32) → wl_X3_bringAnswersNearer_2 Q n A V x1 x2 (x3 + 1)) ∧ ((A 12 x3.toNatClampNeg) = (4 : Int32) → (vp_in x3 150 ∧ (((A 16 x3.toNatClampNeg) ≤ 0 → (wb_X3_bringAnswersNearer_45 Q (wl_X3_bringAnswersNearer_2 Q n) A V x1 x2 x3)) ∧ (¬ ((A 16 x3.toNatClampNeg) ≤ 0) → (vp_in x3 150 ∧ (vp_in x3 150 ∧ (∀ A4 : SA, A4 = up A 16 x3.toNatClampNeg ((A 16 x3.toNatClampNeg) - (1 : Int32)) → (wb_X3_bringAnswersNearer_45 Q (wl_X3_bringAnswersNearer_2 Q n) A4 V x1 x2 x3))))))))))))
set_option maxHeartbeats 4000000 in
set_option maxRecDepth 100000 in
theorem wk_X3_bringAnswersNearer_2 (Q : SA → SV → Prop) (cx : CX RX3 cX3_bringAnswersNearer 4 wsX3_bringAnswersNearer D [(cI, .int), (cZ, .boolean)] p s m args c A0) (hret : ∀ (pc : Nat) (ls : Array Slot) (u : SA × SV) (H : Heap) (locs : List Loc), decode cX3_bringAnswersNearer pc = .ok (.return_, 1) → Q u.1 u.2 → WS D s A0 (wO ad cI cZ u.1 u.2) H locs → W p l e rmX3_bringAnswersNearer s m args below meth c H locs rmX3_bringAnswersNearer.cells rmX3_bringAnswersNearer.slots Z (F0 m pc ls []))  : ∀ (n : Nat) (A : SA) (V : SV) (x1 : Int32) (x2 : Int32) (x3 : Int32) (h : wl_X3_bringAnswersNearer_2 Q n A V x1 x2 x3) (H : Heap) (locs : List Loc) (ls : Array Slot) (hw : WS D s A0 (wO ad cI cZ A V) H locs) (hl : lv_has ls 4 [(0, .ref (ad 0)), (1, .int x1), (2, .int x2), (3, .int x3)]), W p l e rmX3_bringAnswersNearer s m args below meth c H locs 0 0 Z (F0 m 2 ls []) := by
  obtain ⟨hx, hb, hml, hown, hts, hK, hA⟩ := id cx
  intro n
  induction n with
  | zero => intro A V x1 x2 x3 h; exact False.elim h
  | succ n ih =>
    intro A V x1 x2 x3 h H locs ls hw hl
    refine lv_iload_n (pc := 2) hx hb dX3_bringAnswersNearer_2 rfl (lv_at hl 3 rfl) ?_
    refine lv_iload_n (pc := 3) hx hb dX3_bringAnswersNearer_3 rfl (lv_at hl 1 rfl) ?_
    refine lv_icmp_ge (pc := 4) (tgt := 79) hx hb dX3_bringAnswersNearer_4 (by decide) (fun c1 => ?_) (fun c1 => ?_)
    · have h := h.1 c1
      exact hret 79 _ (A, V) _ _ dX3_bringAnswersNearer_79 h hw
    · have h := h.2 c1
      refine lv_aload_n (pc := 7) hx hb dX3_bringAnswersNearer_7 rfl (lv_at hl 0 rfl) ?_
      refine geO_X3_3 (pc := 8) cx inX3_bringAnswersNearer_X3 kX3_bringAnswersNearer_35 hw dX3_bringAnswersNearer_8 ?_
      refine geO_X2_3 (pc := 11) cx inX3_bringAnswersNearer_X2 kX3_bringAnswersNearer_104 hw dX3_bringAnswersNearer_11 ?_
      refine lv_iload_n (pc := 14) hx hb dX3_bringAnswersNearer_14 rfl (lv_at hl 3 rfl) ?_
      refine alO_12 (pc := 15) cx hw h.1 dX3_bringAnswersNearer_15 ?_
      have h := h.2
      refine lv_iconst (pc := 16) (v := (4 : Int32)) hx hb dX3_bringAnswersNearer_16 (by decide) ?_
      refine lv_icmp_ne (pc := 17) (tgt := 73) hx hb dX3_bringAnswersNearer_17 (by decide) (fun c2 => ?_) (fun c2 => ?_)
      · have h := h.1 c2
        refine lv_iinc (pc := 73) (v := x3 + 1) (lv' := [(3, .int (x3 + 1)), (0, .ref (ad 0)), (1, .int x1), (2, .int x2)]) hx hb dX3_bringAnswersNearer_73 hl (k := 3) rfl rfl (by decide) rfl (fun ls hl => ?_)
        refine lv_goto (pc := 76) (tgt := 2) hx hb dX3_bringAnswersNearer_76 (by decide) ?_
        exact ih A V x1 x2 (x3 + 1) h _ _ _ hw (lv_sub hl [1, 2, 3, 0] rfl)
      · have h := h.2 c2
        refine lv_aload_n (pc := 20) hx hb dX3_bringAnswersNearer_20 rfl (lv_at hl 0 rfl) ?_
        refine geO_X3_3 (pc := 21) cx inX3_bringAnswersNearer_X3 kX3_bringAnswersNearer_35 hw dX3_bringAnswersNearer_21 ?_
        refine geO_X2_7 (pc := 24) cx inX3_bringAnswersNearer_X2 kX3_bringAnswersNearer_158 hw dX3_bringAnswersNearer_24 ?_
        refine lv_iload_n (pc := 27) hx hb dX3_bringAnswersNearer_27 rfl (lv_at hl 3 rfl) ?_
        refine alO_16 (pc := 28) cx hw h.1 dX3_bringAnswersNearer_28 ?_
        have h := h.2
        refine lv_if_le (pc := 29) (tgt := 45) hx hb dX3_bringAnswersNearer_29 (by decide) (fun c3 => ?_) (fun c3 => ?_)
        · have h := h.1 c3
          exact wk_X3_bringAnswersNearer_45 Q (wl_X3_bringAnswersNearer_2 Q n) cx hret ih A V x1 x2 x3 h _ _ _ hw (lv_sub hl [0, 1, 2, 3] rfl)
        · have h := h.2 c3
          refine lv_aload_n (pc := 32) hx hb dX3_bringAnswersNearer_32 rfl (lv_at hl 0 rfl) ?_
          refine geO_X3_3 (pc := 33) cx inX3_bringAnswersNearer_X3 kX3_bringAnswersNearer_35 hw dX3_bringAnswersNearer_33 ?_
          refine geO_X2_7 (pc := 36) cx inX3_bringAnswersNearer_X2 kX3_bringAnswersNearer_158 hw dX3_bringAnswersNearer_36 ?_
          refine lv_iload_n (pc := 39) hx hb dX3_bringAnswersNearer_39 rfl (lv_at hl 3 rfl) ?_
          refine lv_dup2_11 (pc := 40) hx hb dX3_bringAnswersNearer_40 rfl rfl ?_
          refine alO_16 (pc := 41) cx hw h.1 dX3_bringAnswersNearer_41 ?_
          have h := h.2
          refine lv_iconst (pc := 42) (v := (1 : Int32)) hx hb dX3_bringAnswersNearer_42 (by decide) ?_
          refine lv_isub (pc := 43) hx hb dX3_bringAnswersNearer_43 ?_
          refine asO_16 (pc := 44) cx hw h.1 dX3_bringAnswersNearer_44 (fun A4 eA4 H locs hw => ?_)
          have h := h.2 A4 eA4
          exact wk_X3_bringAnswersNearer_45 Q (wl_X3_bringAnswersNearer_2 Q n) cx hret ih A4 V x1 x2 x3 h _ _ _ hw (lv_sub hl [0, 1, 2, 3] rfl)
def wb_X3_bringAnswersNearer_0 (Q : SA → SV → Prop) (A : SA) (V : SV) (x1 : Int32) (x2 : Int32) : Prop := (∃ n2 : Nat, wl_X3_bringAnswersNearer_2 Q n2 A V x1 x2 (0 : Int32))
set_option maxHeartbeats 4000000 in
set_option maxRecDepth 100000 in
theorem wk_X3_bringAnswersNearer_0 (Q : SA → SV → Prop) (cx : CX RX3 cX3_bringAnswersNearer 4 wsX3_bringAnswersNearer D [(cI, .int), (cZ, .boolean)] p s m args c A0) (hret : ∀ (pc : Nat) (ls : Array Slot) (u : SA × SV) (H : Heap) (locs : List Loc), decode cX3_bringAnswersNearer pc = .ok (.return_, 1) → Q u.1 u.2 → WS D s A0 (wO ad cI cZ u.1 u.2) H locs → W p l e rmX3_bringAnswersNearer s m args below meth c H locs rmX3_bringAnswersNearer.cells rmX3_bringAnswersNearer.slots Z (F0 m pc ls []))  : ∀ (A : SA) (V : SV) (x1 : Int32) (x2 : Int32) (h : wb_X3_bringAnswersNearer_0 Q A V x1 x2) (H : Heap) (locs : List Loc) (ls : Array Slot) (hw : WS D s A0 (wO ad cI cZ A V) H locs) (hl : lv_has ls 4 [(0, .ref (ad 0)), (1, .int x1), (2, .int x2)]), W p l e rmX3_bringAnswersNearer s m args below meth c H locs 0 0 Z (F0 m 0 ls []) := by
  obtain ⟨hx, hb, hml, hown, hts, hK, hA⟩ := id cx
  intro A V x1 x2 h H locs ls hw hl
  refine lv_iconst (pc := 0) (v := (0 : Int32)) hx hb dX3_bringAnswersNearer_0 (by decide) ?_
  refine lv_istore_n (pc := 1) (lv' := [(3, .int (0 : Int32)), (0, .ref (ad 0)), (1, .int x1), (2, .int x2)]) hx hb dX3_bringAnswersNearer_1 rfl hl (by decide) rfl (fun ls hl => ?_)
  obtain ⟨n2, h⟩ := h
  exact wk_X3_bringAnswersNearer_2 Q cx hret  n2 A V x1 x2 (0 : Int32) h _ _ _ hw (lv_sub hl [1, 2, 3, 0] rfl)
def wpX3_bringAnswersNearer (A : SA) (V : SV) (x1 : Int32) (x2 : Int32) (Q : SA → SV → Prop) : Prop := wb_X3_bringAnswersNearer_0 Q A V x1 x2
set_option maxHeartbeats 4000000 in
set_option maxRecDepth 100000 in
theorem metX3_bringAnswersNearer (l : Launch) (D : va_G) (cI cZ : ClassId) (ad : Nat → Nat) (sz : Nat) (A : SA) (V : SV) (x1 : Int32) (x2 : Int32) (Q : SA → SV → Prop) (h : wpX3_bringAnswersNearer A V x1 x2 Q) : Met l yX3_bringAnswersNearer wsX3_bringAnswersNearer rmX3_bringAnswersNearer (PcW D [(cI, .int), (cZ, .boolean)] (wO ad cI cZ A V) sz [.ref (ad 0), .int x1, .int x2]) (QvW D [(cI, .int), (cZ, .boolean)] (wO ad cI cZ A V) sz (fun u : SA × SV => (wO ad cI cZ u.1 u.2)) (fun u => Q u.1 u.2)) rmX3_bringAnswersNearer.cells rmX3_bringAnswersNearer.slots (va_A (wO ad cI cZ A V) sz) := by
  refine startV (plainFor_of_name (by decide)) rfl (Nat.le_of_ble_eq_true rfl) ?_
  intro p e s m args below meth c A0 Z cx hw hret ls hl
  exact wk_X3_bringAnswersNearer_0 Q cx hret A V x1 x2 h _ _ _ hw hl
abbrev rmX3_canBeScraped : Room := { frames := 1, cells := 0, slots := 0, locals := 22 }
theorem inX3_canBeScraped_X2 : ∀ w ∈ wsX20, w ∈ wsX3_canBeScraped := by decide +kernel
theorem inX3_canBeScraped_X3 : ∀ w ∈ wsX30, w ∈ wsX3_canBeScraped := by decide +kernel
theorem kX3_canBeScraped_104 : Cond.fieldLink RX3 104 "DrownedPost$Letters" "state" "[I" ∈ wsX3_canBeScraped := by decide +kernel
theorem kX3_canBeScraped_110 : Cond.fieldLink RX3 110 "DrownedPost$Letters" "bin" "[I" ∈ wsX3_canBeScraped := by decide +kernel
theorem kX3_canBeScraped_21 : Cond.fieldLink RX3 21 "DrownedPost$Office" "bins" "LDrownedPost$Bins;" ∈ wsX3_canBeScraped := by decide +kernel
theorem kX3_canBeScraped_35 : Cond.fieldLink RX3 35 "DrownedPost$Office" "letters" "LDrownedPost$Letters;" ∈ wsX3_canBeScraped := by decide +kernel
theorem kX3_canBeScraped_50 : Cond.fieldLink RX3 50 "DrownedPost$Office" "scraped" "[Z" ∈ wsX3_canBeScraped := by decide +kernel
def wb_X3_canBeScraped_0 (Q : Int32 → SA → SV → Prop) (A : SA) (V : SV) (x1 : Int32) (x2 : Int32) : Prop := (vp_in x1 150 ∧ ((¬ (A 12 x1.toNatClampNeg) = (1 : Int32) → Q (0 : Int32) A V) ∧ ((A 12 x1.toNatClampNeg) = (1 : Int32) → (vp_in x1 150 ∧ ((¬ (A 19 x1.toNatClampNeg) = 0 → Q (0 : Int32) A V) ∧ ((A 19 x1.toNatClampNeg) = 0 → (vp_in x1 150 ∧ (wpX0_isUnder A V (A 14 x1.toNatClampNeg) x2 (fun r3 A4 V5 => ((¬ r3 = 0 → Q (0 : Int32) A4 V5) ∧ (r3 = 0 → Q (1 : Int32) A4 V5)))))))))))
set_option maxHeartbeats 4000000 in
set_option maxRecDepth 100000 in
theorem wk_X3_canBeScraped_0 (Q : Int32 → SA → SV → Prop) (cx : CX RX3 cX3_canBeScraped 3 wsX3_canBeScraped D [(cI, .int), (cZ, .boolean)] p s m args c A0) (hret : ∀ (pc : Nat) (ls : Array Slot) (r : Int32) (u : SA × SV) (H : Heap) (locs : List Loc), narrow .boolean (.int r) = .int r → decode cX3_canBeScraped pc = .ok (.ireturn, 1) → Q r u.1 u.2 → WS D s A0 (wO ad cI cZ u.1 u.2) H locs → W p l e rmX3_canBeScraped s m args below meth c H locs rmX3_canBeScraped.cells rmX3_canBeScraped.slots Z (F0 m pc ls [.int r]))  : ∀ (A : SA) (V : SV) (x1 : Int32) (x2 : Int32) (h : wb_X3_canBeScraped_0 Q A V x1 x2) (H : Heap) (locs : List Loc) (ls : Array Slot) (hw : WS D s A0 (wO ad cI cZ A V) H locs) (hl : lv_has ls 3 [(0, .ref (ad 0)), (1, .int x1), (2, .int x2)]), W p l e rmX3_canBeScraped s m args below meth c H locs 0 0 Z (F0 m 0 ls []) := by
  obtain ⟨hx, hb, hml, hown, hts, hK, hA⟩ := id cx
  intro A V x1 x2 h H locs ls hw hl
  refine lv_aload_n (pc := 0) hx hb dX3_canBeScraped_0 rfl (lv_at hl 0 rfl) ?_
  refine geO_X3_3 (pc := 1) cx inX3_canBeScraped_X3 kX3_canBeScraped_35 hw dX3_canBeScraped_1 ?_
  refine geO_X2_3 (pc := 4) cx inX3_canBeScraped_X2 kX3_canBeScraped_104 hw dX3_canBeScraped_4 ?_
  refine lv_iload_n (pc := 7) hx hb dX3_canBeScraped_7 rfl (lv_at hl 1 rfl) ?_
  refine alO_12 (pc := 8) cx hw h.1 dX3_canBeScraped_8 ?_
  have h := h.2
  refine lv_iconst (pc := 9) (v := (1 : Int32)) hx hb dX3_canBeScraped_9 (by decide) ?_
  refine lv_icmp_ne (pc := 10) (tgt := 46) hx hb dX3_canBeScraped_10 (by decide) (fun c1 => ?_) (fun c1 => ?_)
  · have h := h.1 c1
    refine lv_iconst (pc := 46) (v := (0 : Int32)) hx hb dX3_canBeScraped_46 (by decide) ?_
    exact hret 47 _ _ (A, V) _ _ rfl dX3_canBeScraped_47 h hw
  · have h := h.2 c1
    refine lv_aload_n (pc := 13) hx hb dX3_canBeScraped_13 rfl (lv_at hl 0 rfl) ?_
    refine geO_X3_9 (pc := 14) cx inX3_canBeScraped_X3 kX3_canBeScraped_50 hw dX3_canBeScraped_14 ?_
    refine lv_iload_n (pc := 17) hx hb dX3_canBeScraped_17 rfl (lv_at hl 1 rfl) ?_
    refine alO_19 (pc := 18) cx hw h.1 dX3_canBeScraped_18 ?_
    have h := h.2
    refine lv_if_ne (pc := 19) (tgt := 46) hx hb dX3_canBeScraped_19 (by decide) (fun c2 => ?_) (fun c2 => ?_)
    · have h := h.1 c2
      refine lv_iconst (pc := 46) (v := (0 : Int32)) hx hb dX3_canBeScraped_46 (by decide) ?_
      exact hret 47 _ _ (A, V) _ _ rfl dX3_canBeScraped_47 h hw
    · have h := h.2 c2
      refine lv_aload_n (pc := 22) hx hb dX3_canBeScraped_22 rfl (lv_at hl 0 rfl) ?_
      refine geO_X3_1 (pc := 23) cx inX3_canBeScraped_X3 kX3_canBeScraped_21 hw dX3_canBeScraped_23 ?_
      refine lv_aload_n (pc := 26) hx hb dX3_canBeScraped_26 rfl (lv_at hl 0 rfl) ?_
      refine geO_X3_3 (pc := 27) cx inX3_canBeScraped_X3 kX3_canBeScraped_35 hw dX3_canBeScraped_27 ?_
      refine geO_X2_5 (pc := 30) cx inX3_canBeScraped_X2 kX3_canBeScraped_110 hw dX3_canBeScraped_30 ?_
      refine lv_iload_n (pc := 33) hx hb dX3_canBeScraped_33 rfl (lv_at hl 1 rfl) ?_
      refine alO_14 (pc := 34) cx hw h.1 dX3_canBeScraped_34 ?_
      have h := h.2
      refine lv_iload_n (pc := 35) hx hb dX3_canBeScraped_35 rfl (lv_at hl 2 rfl) ?_
      refine callVi (pc := 36) (rest := []) (c1 := 0) (s1 := 0) cx hw hl (metX0_isUnder l D cI cZ ad H.size A V (A 14 x1.toNatClampNeg) x2 _ h) (fun hts => cwV 2 hts gX3_canBeScraped_X0_isUnder rfl rfl rfl (by decide +kernel) ⟨Nat.le_of_ble_eq_true rfl, Nat.le_of_ble_eq_true rfl⟩) SUB.rf [0, 1] rfl 2 (ci := 0) rfl rfl rfl (JN.rf) rfl rfl (Nat.le_of_ble_eq_true rfl) ⟨Nat.le_of_ble_eq_true rfl, Nat.le_of_ble_eq_true rfl⟩ rfl rfl dX3_canBeScraped_36 (fun r3 u H locs h hw => ?_)
      obtain ⟨A4, V5⟩ := u
      refine lv_if_ne (pc := 39) (tgt := 46) hx hb dX3_canBeScraped_39 (by decide) (fun c6 => ?_) (fun c6 => ?_)
      · have h := h.1 c6
        refine lv_iconst (pc := 46) (v := (0 : Int32)) hx hb dX3_canBeScraped_46 (by decide) ?_
        exact hret 47 _ _ (A4, V5) _ _ rfl dX3_canBeScraped_47 h hw
      · have h := h.2 c6
        refine lv_iconst (pc := 42) (v := (1 : Int32)) hx hb dX3_canBeScraped_42 (by decide) ?_
        refine lv_goto (pc := 43) (tgt := 47) hx hb dX3_canBeScraped_43 (by decide) ?_
        exact hret 47 _ _ (A4, V5) _ _ rfl dX3_canBeScraped_47 h hw
def wpX3_canBeScraped (A : SA) (V : SV) (x1 : Int32) (x2 : Int32) (Q : Int32 → SA → SV → Prop) : Prop := wb_X3_canBeScraped_0 Q A V x1 x2
set_option maxHeartbeats 4000000 in
set_option maxRecDepth 100000 in
theorem metX3_canBeScraped (l : Launch) (D : va_G) (cI cZ : ClassId) (ad : Nat → Nat) (sz : Nat) (A : SA) (V : SV) (x1 : Int32) (x2 : Int32) (Q : Int32 → SA → SV → Prop) (h : wpX3_canBeScraped A V x1 x2 Q) : Met l yX3_canBeScraped wsX3_canBeScraped rmX3_canBeScraped (PcW D [(cI, .int), (cZ, .boolean)] (wO ad cI cZ A V) sz [.ref (ad 0), .int x1, .int x2]) (QiW D [(cI, .int), (cZ, .boolean)] (wO ad cI cZ A V) sz (fun u : SA × SV => (wO ad cI cZ u.1 u.2)) (fun r u => Q r u.1 u.2)) rmX3_canBeScraped.cells rmX3_canBeScraped.slots (va_A (wO ad cI cZ A V) sz) := by
  refine startI (plainFor_of_name (by decide)) rfl (Nat.le_of_ble_eq_true rfl) ?_
  intro p e s m args below meth c A0 Z cx hw hret ls hl
  exact wk_X3_canBeScraped_0 Q cx hret A V x1 x2 h _ _ _ hw hl
abbrev rmX3_mostOvergrown : Room := { frames := 2, cells := 0, slots := 0, locals := 44 }
theorem inX3_mostOvergrown_X2 : ∀ w ∈ wsX20, w ∈ wsX3_mostOvergrown := by decide +kernel
theorem inX3_mostOvergrown_X3 : ∀ w ∈ wsX30, w ∈ wsX3_mostOvergrown := by decide +kernel
theorem kX3_mostOvergrown_117 : Cond.fieldLink RX3 117 "DrownedPost$Letters" "growth" "[I" ∈ wsX3_mostOvergrown := by decide +kernel
theorem kX3_mostOvergrown_35 : Cond.fieldLink RX3 35 "DrownedPost$Office" "letters" "LDrownedPost$Letters;" ∈ wsX3_mostOvergrown := by decide +kernel
theorem kX3_mostOvergrown_84 : Cond.fieldLink RX3 84 "DrownedPost$Letters" "count" "I" ∈ wsX3_mostOvergrown := by decide +kernel
def wl_X3_mostOvergrown_7 (Q : Int32 → SA → SV → Prop) : Nat → SA → SV → Int32 → Int32 → Int32 → Int32 → Prop
  | 0, _, _, _, _, _, _ => False
  | n + 1, A, V, x1, x2, x3, x4 => (((V 3) ≤ x4 → Q x2 A V) ∧ (¬ ((V 3) ≤ x4) → (vp_in x4 150 ∧ (((A 13 x4.toNatClampNeg) ≤ x3 → wl_X3_mostOvergrown_7 Q n A V x1 x2 x3 (x4 + 1)) ∧ (¬ ((A 13 x4.toNatClampNeg) ≤ x3) → (wpX3_canBeScraped A V x4 x1 (fun r3 A4 V5 => ((r3 = 0 → wl_X3_mostOvergrown_7 Q n A4 V5 x1 x2 x3 (x4 + 1)) ∧ (¬ (r3 = 0) → (vp_in x4 150 ∧ wl_X3_mostOvergrown_7 Q n A4 V5 x1 x4 (A4 13 x4.toNatClampNeg) (x4 + 1)))))))))))
set_option maxHeartbeats 4000000 in
set_option maxRecDepth 100000 in
theorem wk_X3_mostOvergrown_7 (Q : Int32 → SA → SV → Prop) (cx : CX RX3 cX3_mostOvergrown 5 wsX3_mostOvergrown D [(cI, .int), (cZ, .boolean)] p s m args c A0) (hret : ∀ (pc : Nat) (ls : Array Slot) (r : Int32) (u : SA × SV) (H : Heap) (locs : List Loc), narrow .int (.int r) = .int r → decode cX3_mostOvergrown pc = .ok (.ireturn, 1) → Q r u.1 u.2 → WS D s A0 (wO ad cI cZ u.1 u.2) H locs → W p l e rmX3_mostOvergrown s m args below meth c H locs rmX3_mostOvergrown.cells rmX3_mostOvergrown.slots Z (F0 m pc ls [.int r]))  : ∀ (n : Nat) (A : SA) (V : SV) (x1 : Int32) (x2 : Int32) (x3 : Int32) (x4 : Int32) (h : wl_X3_mostOvergrown_7 Q n A V x1 x2 x3 x4) (H : Heap) (locs : List Loc) (ls : Array Slot) (hw : WS D s A0 (wO ad cI cZ A V) H locs) (hl : lv_has ls 5 [(0, .ref (ad 0)), (1, .int x1), (2, .int x2), (3, .int x3), (4, .int x4)]), W p l e rmX3_mostOvergrown s m args below meth c H locs 0 0 Z (F0 m 7 ls []) := by
  obtain ⟨hx, hb, hml, hown, hts, hK, hA⟩ := id cx
  intro n
  induction n with
  | zero => intro A V x1 x2 x3 x4 h; exact False.elim h
  | succ n ih =>
    intro A V x1 x2 x3 x4 h H locs ls hw hl
    refine lv_iload (pc := 7) hx hb dX3_mostOvergrown_7 (lv_at hl 4 rfl) ?_
    refine lv_aload_n (pc := 9) hx hb dX3_mostOvergrown_9 rfl (lv_at hl 0 rfl) ?_
    refine geO_X3_3 (pc := 10) cx inX3_mostOvergrown_X3 kX3_mostOvergrown_35 hw dX3_mostOvergrown_10 ?_
    refine geO_X2_9 (pc := 13) cx inX3_mostOvergrown_X2 kX3_mostOvergrown_84 hw dX3_mostOvergrown_13 ?_
    refine lv_icmp_ge (pc := 16) (tgt := 63) hx hb dX3_mostOvergrown_16 (by decide) (fun c1 => ?_) (fun c1 => ?_)
    · have h := h.1 c1
      refine lv_iload_n (pc := 63) hx hb dX3_mostOvergrown_63 rfl (lv_at hl 2 rfl) ?_
      exact hret 64 _ _ (A, V) _ _ rfl dX3_mostOvergrown_64 h hw
    · have h := h.2 c1
      refine lv_aload_n (pc := 19) hx hb dX3_mostOvergrown_19 rfl (lv_at hl 0 rfl) ?_
      refine geO_X3_3 (pc := 20) cx inX3_mostOvergrown_X3 kX3_mostOvergrown_35 hw dX3_mostOvergrown_20 ?_
      refine geO_X2_4 (pc := 23) cx inX3_mostOvergrown_X2 kX3_mostOvergrown_117 hw dX3_mostOvergrown_23 ?_
      refine lv_iload (pc := 26) hx hb dX3_mostOvergrown_26 (lv_at hl 4 rfl) ?_
      refine alO_13 (pc := 28) cx hw h.1 dX3_mostOvergrown_28 ?_
      have h := h.2
      refine lv_iload_n (pc := 29) hx hb dX3_mostOvergrown_29 rfl (lv_at hl 3 rfl) ?_
      refine lv_icmp_le (pc := 30) (tgt := 57) hx hb dX3_mostOvergrown_30 (by decide) (fun c2 => ?_) (fun c2 => ?_)
      · have h := h.1 c2
        refine lv_iinc (pc := 57) (v := x4 + 1) (lv' := [(4, .int (x4 + 1)), (0, .ref (ad 0)), (1, .int x1), (2, .int x2), (3, .int x3)]) hx hb dX3_mostOvergrown_57 hl (k := 4) rfl rfl (by decide) rfl (fun ls hl => ?_)
        refine lv_goto (pc := 60) (tgt := 7) hx hb dX3_mostOvergrown_60 (by decide) ?_
        exact ih A V x1 x2 x3 (x4 + 1) h _ _ _ hw (lv_sub hl [1, 2, 3, 4, 0] rfl)
      · have h := h.2 c2
        refine lv_aload_n (pc := 33) hx hb dX3_mostOvergrown_33 rfl (lv_at hl 0 rfl) ?_
        refine lv_iload (pc := 34) hx hb dX3_mostOvergrown_34 (lv_at hl 4 rfl) ?_
        refine lv_iload_n (pc := 36) hx hb dX3_mostOvergrown_36 rfl (lv_at hl 1 rfl) ?_
        refine callVi (pc := 37) (rest := []) (c1 := 0) (s1 := 0) cx hw hl (metX3_canBeScraped l D cI cZ ad H.size A V x4 x1 _ h) (fun hts => cwV 2 hts gX3_mostOvergrown_X3_canBeScraped rfl rfl rfl (by decide +kernel) ⟨Nat.le_of_ble_eq_true rfl, Nat.le_of_ble_eq_true rfl⟩) SUB.rf [0, 1] rfl 0 (ci := 3) rfl rfl rfl (JN.rf) rfl rfl (Nat.le_of_ble_eq_true rfl) ⟨Nat.le_of_ble_eq_true rfl, Nat.le_of_ble_eq_true rfl⟩ rfl rfl dX3_mostOvergrown_37 (fun r3 u H locs h hw => ?_)
        obtain ⟨A4, V5⟩ := u
        refine lv_if_eq (pc := 40) (tgt := 57) hx hb dX3_mostOvergrown_40 (by decide) (fun c6 => ?_) (fun c6 => ?_)
        · have h := h.1 c6
          refine lv_iinc (pc := 57) (v := x4 + 1) (lv' := [(4, .int (x4 + 1)), (0, .ref (ad 0)), (1, .int x1), (2, .int x2), (3, .int x3)]) hx hb dX3_mostOvergrown_57 hl (k := 4) rfl rfl (by decide) rfl (fun ls hl => ?_)
          refine lv_goto (pc := 60) (tgt := 7) hx hb dX3_mostOvergrown_60 (by decide) ?_
          exact ih A4 V5 x1 x2 x3 (x4 + 1) h _ _ _ hw (lv_sub hl [1, 2, 3, 4, 0] rfl)
        · have h := h.2 c6
          refine lv_iload (pc := 43) hx hb dX3_mostOvergrown_43 (lv_at hl 4 rfl) ?_
          refine lv_istore_n (pc := 45) (lv' := [(2, .int x4), (0, .ref (ad 0)), (1, .int x1), (3, .int x3), (4, .int x4)]) hx hb dX3_mostOvergrown_45 rfl hl (by decide) rfl (fun ls hl => ?_)
          refine lv_aload_n (pc := 46) hx hb dX3_mostOvergrown_46 rfl (lv_at hl 1 rfl) ?_
          refine geO_X3_3 (pc := 47) cx inX3_mostOvergrown_X3 kX3_mostOvergrown_35 hw dX3_mostOvergrown_47 ?_
          refine geO_X2_4 (pc := 50) cx inX3_mostOvergrown_X2 kX3_mostOvergrown_117 hw dX3_mostOvergrown_50 ?_
          refine lv_iload (pc := 53) hx hb dX3_mostOvergrown_53 (lv_at hl 4 rfl) ?_
          refine alO_13 (pc := 55) cx hw h.1 dX3_mostOvergrown_55 ?_
          have h := h.2
          refine lv_istore_n (pc := 56) (lv' := [(3, .int (A4 13 x4.toNatClampNeg)), (2, .int x4), (0, .ref (ad 0)), (1, .int x1), (4, .int x4)]) hx hb dX3_mostOvergrown_56 rfl hl (by decide) rfl (fun ls hl => ?_)
          refine lv_iinc (pc := 57) (v := x4 + 1) (lv' := [(4, .int (x4 + 1)), (3, .int (A4 13 x4.toNatClampNeg)), (2, .int x4), (0, .ref (ad 0)), (1, .int x1)]) hx hb dX3_mostOvergrown_57 hl (k := 4) rfl rfl (by decide) rfl (fun ls hl => ?_)
          refine lv_goto (pc := 60) (tgt := 7) hx hb dX3_mostOvergrown_60 (by decide) ?_
          exact ih A4 V5 x1 x4 (A4 13 x4.toNatClampNeg) (x4 + 1) h _ _ _ hw (lv_sub hl [3, 4, 2, 1, 0] rfl)
def wb_X3_mostOvergrown_0 (Q : Int32 → SA → SV → Prop) (A : SA) (V : SV) (x1 : Int32) : Prop := (∃ n7 : Nat, wl_X3_mostOvergrown_7 Q n7 A V x1 (-1 : Int32) (0 : Int32) (0 : Int32))
set_option maxHeartbeats 4000000 in
set_option maxRecDepth 100000 in
theorem wk_X3_mostOvergrown_0 (Q : Int32 → SA → SV → Prop) (cx : CX RX3 cX3_mostOvergrown 5 wsX3_mostOvergrown D [(cI, .int), (cZ, .boolean)] p s m args c A0) (hret : ∀ (pc : Nat) (ls : Array Slot) (r : Int32) (u : SA × SV) (H : Heap) (locs : List Loc), narrow .int (.int r) = .int r → decode cX3_mostOvergrown pc = .ok (.ireturn, 1) → Q r u.1 u.2 → WS D s A0 (wO ad cI cZ u.1 u.2) H locs → W p l e rmX3_mostOvergrown s m args below meth c H locs rmX3_mostOvergrown.cells rmX3_mostOvergrown.slots Z (F0 m pc ls [.int r]))  : ∀ (A : SA) (V : SV) (x1 : Int32) (h : wb_X3_mostOvergrown_0 Q A V x1) (H : Heap) (locs : List Loc) (ls : Array Slot) (hw : WS D s A0 (wO ad cI cZ A V) H locs) (hl : lv_has ls 5 [(0, .ref (ad 0)), (1, .int x1)]), W p l e rmX3_mostOvergrown s m args below meth c H locs 0 0 Z (F0 m 0 ls []) := by
  obtain ⟨hx, hb, hml, hown, hts, hK, hA⟩ := id cx
  intro A V x1 h H locs ls hw hl
  refine lv_iconst (pc := 0) (v := (-1 : Int32)) hx hb dX3_mostOvergrown_0 (by decide) ?_
  refine lv_istore_n (pc := 1) (lv' := [(2, .int (-1 : Int32)), (0, .ref (ad 0)), (1, .int x1)]) hx hb dX3_mostOvergrown_1 rfl hl (by decide) rfl (fun ls hl => ?_)
  refine lv_iconst (pc := 2) (v := (0 : Int32)) hx hb dX3_mostOvergrown_2 (by decide) ?_
  refine lv_istore_n (pc := 3) (lv' := [(3, .int (0 : Int32)), (2, .int (-1 : Int32)), (0, .ref (ad 0)), (1, .int x1)]) hx hb dX3_mostOvergrown_3 rfl hl (by decide) rfl (fun ls hl => ?_)
  refine lv_iconst (pc := 4) (v := (0 : Int32)) hx hb dX3_mostOvergrown_4 (by decide) ?_
  refine lv_istore (pc := 5) (lv' := [(4, .int (0 : Int32)), (3, .int (0 : Int32)), (2, .int (-1 : Int32)), (0, .ref (ad 0)), (1, .int x1)]) hx hb dX3_mostOvergrown_5 hl (by decide) rfl (fun ls hl => ?_)
  obtain ⟨n7, h⟩ := h
  exact wk_X3_mostOvergrown_7 Q cx hret  n7 A V x1 (-1 : Int32) (0 : Int32) (0 : Int32) h _ _ _ hw (lv_sub hl [3, 4, 2, 1, 0] rfl)
def wpX3_mostOvergrown (A : SA) (V : SV) (x1 : Int32) (Q : Int32 → SA → SV → Prop) : Prop := wb_X3_mostOvergrown_0 Q A V x1
set_option maxHeartbeats 4000000 in
set_option maxRecDepth 100000 in
theorem metX3_mostOvergrown (l : Launch) (D : va_G) (cI cZ : ClassId) (ad : Nat → Nat) (sz : Nat) (A : SA) (V : SV) (x1 : Int32) (Q : Int32 → SA → SV → Prop) (h : wpX3_mostOvergrown A V x1 Q) : Met l yX3_mostOvergrown wsX3_mostOvergrown rmX3_mostOvergrown (PcW D [(cI, .int), (cZ, .boolean)] (wO ad cI cZ A V) sz [.ref (ad 0), .int x1]) (QiW D [(cI, .int), (cZ, .boolean)] (wO ad cI cZ A V) sz (fun u : SA × SV => (wO ad cI cZ u.1 u.2)) (fun r u => Q r u.1 u.2)) rmX3_mostOvergrown.cells rmX3_mostOvergrown.slots (va_A (wO ad cI cZ A V) sz) := by
  refine startI (plainFor_of_name (by decide)) rfl (Nat.le_of_ble_eq_true rfl) ?_
  intro p e s m args below meth c A0 Z cx hw hret ls hl
  exact wk_X3_mostOvergrown_0 Q cx hret A V x1 h _ _ _ hw hl
abbrev rmX3_scrape : Room := { frames := 3, cells := 0, slots := 0, locals := 80 }
theorem inX3_scrape_X2 : ∀ w ∈ wsX20, w ∈ wsX3_scrape := by decide +kernel
theorem inX3_scrape_X3 : ∀ w ∈ wsX30, w ∈ wsX3_scrape := by decide +kernel
theorem kX3_scrape_117 : Cond.fieldLink RX3 117 "DrownedPost$Letters" "growth" "[I" ∈ wsX3_scrape := by decide +kernel
theorem kX3_scrape_164 : Cond.methodLink RX3 164 Lib.Math.max.name ∈ wsX3_scrape := by decide +kernel
theorem kX3_scrape_35 : Cond.fieldLink RX3 35 "DrownedPost$Office" "letters" "LDrownedPost$Letters;" ∈ wsX3_scrape := by decide +kernel
theorem kX3_scrape_39 : Cond.fieldLink RX3 39 "DrownedPost$Office" "scrapers" "I" ∈ wsX3_scrape := by decide +kernel
theorem kX3_scrape_50 : Cond.fieldLink RX3 50 "DrownedPost$Office" "scraped" "[Z" ∈ wsX3_scrape := by decide +kernel
theorem kX3_scrape_84 : Cond.fieldLink RX3 84 "DrownedPost$Letters" "count" "I" ∈ wsX3_scrape := by decide +kernel
theorem kX3_scrape_w_code_Lib_Math_max_name_Lib_Math_max_code_2__some__int_ : Cond.code Lib.Math.max.name Lib.Math.max.code 2 (some .int) ∈ wsX3_scrape := by decide +kernel
theorem kX3_scrape_w_initialized__java_lang_Math_ : Cond.initialized "java/lang/Math" ∈ wsX3_scrape := by decide +kernel
theorem kX3_scrape_w_static_Lib_Math_max_name : Cond.static Lib.Math.max.name ∈ wsX3_scrape := by decide +kernel
def wl_X3_scrape_28 (Q : SA → SV → Prop) : Nat → SA → SV → Int32 → Int32 → Prop
  | 0, _, _, _, _ => False
  | n + 1, A, V, x1, x2 => (((V 5) ≤ x2 → Q A V) ∧ (¬ ((V 5) ≤ x2) → (wpX3_mostOvergrown A V x1 (fun r4 A5 V6 => (wpX2_has A5 V6 r4 (fun r7 A8 V9 => ((¬ r7 = 0 → (vp_in r4 150 ∧ (vp_in r4 150 ∧ (∀ A11 : SA, A11 = up A8 13 r4.toNatClampNeg (if (0 : Int32) < (A8 13 r4.toNatClampNeg) - (2 : Int32) then (A8 13 r4.toNatClampNeg) - (2 : Int32) else (0 : Int32)) → (vp_in r4 150 ∧ (∀ A12 : SA, A12 = up A11 19 r4.toNatClampNeg (vp_nar .boolean (1 : Int32)) → wl_X3_scrape_28 Q n A12 V9 x1 (x2 + 1))))))) ∧ (r7 = 0 → Q A8 V9))))))))
set_option maxHeartbeats 4000000 in
set_option maxRecDepth 100000 in
theorem wk_X3_scrape_28 (Q : SA → SV → Prop) (cx : CX RX3 cX3_scrape 4 wsX3_scrape D [(cI, .int), (cZ, .boolean)] p s m args c A0) (hret : ∀ (pc : Nat) (ls : Array Slot) (u : SA × SV) (H : Heap) (locs : List Loc), decode cX3_scrape pc = .ok (.return_, 1) → Q u.1 u.2 → WS D s A0 (wO ad cI cZ u.1 u.2) H locs → W p l e rmX3_scrape s m args below meth c H locs rmX3_scrape.cells rmX3_scrape.slots Z (F0 m pc ls []))  : ∀ (n : Nat) (A : SA) (V : SV) (x1 : Int32) (x2 : Int32) (h : wl_X3_scrape_28 Q n A V x1 x2) (H : Heap) (locs : List Loc) (ls : Array Slot) (hw : WS D s A0 (wO ad cI cZ A V) H locs) (hl : lv_has ls 4 [(0, .ref (ad 0)), (1, .int x1), (2, .int x2)]), W p l e rmX3_scrape s m args below meth c H locs 0 0 Z (F0 m 28 ls []) := by
  obtain ⟨hx, hb, hml, hown, hts, hK, hA⟩ := id cx
  intro n
  induction n with
  | zero => intro A V x1 x2 h; exact False.elim h
  | succ n ih =>
    intro A V x1 x2 h H locs ls hw hl
    refine lv_iload_n (pc := 28) hx hb dX3_scrape_28 rfl (lv_at hl 2 rfl) ?_
    refine lv_aload_n (pc := 29) hx hb dX3_scrape_29 rfl (lv_at hl 0 rfl) ?_
    refine geO_X3_5 (pc := 30) cx inX3_scrape_X3 kX3_scrape_39 hw dX3_scrape_30 ?_
    refine lv_icmp_ge (pc := 33) (tgt := 91) hx hb dX3_scrape_33 (by decide) (fun c3 => ?_) (fun c3 => ?_)
    · have h := h.1 c3
      exact hret 91 _ (A, V) _ _ dX3_scrape_91 h hw
    · have h := h.2 c3
      refine lv_aload_n (pc := 36) hx hb dX3_scrape_36 rfl (lv_at hl 0 rfl) ?_
      refine lv_iload_n (pc := 37) hx hb dX3_scrape_37 rfl (lv_at hl 1 rfl) ?_
      refine callVi (pc := 38) (rest := []) (c1 := 0) (s1 := 0) cx hw hl (metX3_mostOvergrown l D cI cZ ad H.size A V x1 _ h) (fun hts => cwV 1 hts gX3_scrape_X3_mostOvergrown rfl rfl rfl (by decide +kernel) ⟨Nat.le_of_ble_eq_true rfl, Nat.le_of_ble_eq_true rfl⟩) SUB.rf [0, 1] rfl 0 (ci := 3) rfl rfl rfl (JN.rf) rfl rfl (Nat.le_of_ble_eq_true rfl) ⟨Nat.le_of_ble_eq_true rfl, Nat.le_of_ble_eq_true rfl⟩ rfl rfl dX3_scrape_38 (fun r4 u H locs h hw => ?_)
      obtain ⟨A5, V6⟩ := u
      refine lv_istore_n (pc := 41) (lv' := [(3, .int r4), (0, .ref (ad 0)), (1, .int x1), (2, .int x2)]) hx hb dX3_scrape_41 rfl hl (by decide) rfl (fun ls hl => ?_)
      refine lv_aload_n (pc := 42) hx hb dX3_scrape_42 rfl (lv_at hl 1 rfl) ?_
      refine geO_X3_3 (pc := 43) cx inX3_scrape_X3 kX3_scrape_35 hw dX3_scrape_43 ?_
      refine lv_iload_n (pc := 46) hx hb dX3_scrape_46 rfl (lv_at hl 0 rfl) ?_
      refine callVi (pc := 47) (rest := []) (c1 := 0) (s1 := 0) cx hw hl (metX2_has l D cI cZ ad H.size A5 V6 r4 _ h) (fun hts => cwV 1 hts gX3_scrape_X2_has rfl rfl rfl (by decide +kernel) ⟨Nat.le_of_ble_eq_true rfl, Nat.le_of_ble_eq_true rfl⟩) SUB.rf [0, 1] rfl 4 (ci := 2) rfl rfl rfl (JN.rf) rfl rfl (Nat.le_of_ble_eq_true rfl) ⟨Nat.le_of_ble_eq_true rfl, Nat.le_of_ble_eq_true rfl⟩ rfl rfl dX3_scrape_47 (fun r7 u H locs h hw => ?_)
      obtain ⟨A8, V9⟩ := u
      refine lv_if_ne (pc := 50) (tgt := 54) hx hb dX3_scrape_50 (by decide) (fun c10 => ?_) (fun c10 => ?_)
      · have h := h.1 c10
        refine lv_aload_n (pc := 54) hx hb dX3_scrape_54 rfl (lv_at hl 1 rfl) ?_
        refine geO_X3_3 (pc := 55) cx inX3_scrape_X3 kX3_scrape_35 hw dX3_scrape_55 ?_
        refine geO_X2_4 (pc := 58) cx inX3_scrape_X2 kX3_scrape_117 hw dX3_scrape_58 ?_
        refine lv_iload_n (pc := 61) hx hb dX3_scrape_61 rfl (lv_at hl 0 rfl) ?_
        refine lv_iconst (pc := 62) (v := (0 : Int32)) hx hb dX3_scrape_62 (by decide) ?_
        refine lv_aload_n (pc := 63) hx hb dX3_scrape_63 rfl (lv_at hl 1 rfl) ?_
        refine geO_X3_3 (pc := 64) cx inX3_scrape_X3 kX3_scrape_35 hw dX3_scrape_64 ?_
        refine geO_X2_4 (pc := 67) cx inX3_scrape_X2 kX3_scrape_117 hw dX3_scrape_67 ?_
        refine lv_iload_n (pc := 70) hx hb dX3_scrape_70 rfl (lv_at hl 0 rfl) ?_
        refine alO_13 (pc := 71) cx hw h.1 dX3_scrape_71 ?_
        have h := h.2
        refine lv_iconst (pc := 72) (v := (2 : Int32)) hx hb dX3_scrape_72 (by decide) ?_
        refine lv_isub (pc := 73) hx hb dX3_scrape_73 ?_
        refine va_mmax (pc := 74) hx hb (hml.trans hl.1.symm) hown (hts _ kX3_scrape_164) (hts _ kX3_scrape_w_static_Lib_Math_max_name) (hts _ kX3_scrape_w_initialized__java_lang_Math_) (hts _ kX3_scrape_w_code_Lib_Math_max_name_Lib_Math_max_code_2__some__int_) (Nat.le_of_ble_eq_true rfl) (Nat.le_of_ble_eq_true rfl) (Nat.le_of_ble_eq_true rfl) (Nat.le_of_ble_eq_true rfl) dX3_scrape_74 ?_
        refine asO_13 (pc := 77) cx hw h.1 dX3_scrape_77 (fun A11 eA11 H locs hw => ?_)
        have h := h.2 A11 eA11
        refine lv_aload_n (pc := 78) hx hb dX3_scrape_78 rfl (lv_at hl 1 rfl) ?_
        refine geO_X3_9 (pc := 79) cx inX3_scrape_X3 kX3_scrape_50 hw dX3_scrape_79 ?_
        refine lv_iload_n (pc := 82) hx hb dX3_scrape_82 rfl (lv_at hl 0 rfl) ?_
        refine lv_iconst (pc := 83) (v := (1 : Int32)) hx hb dX3_scrape_83 (by decide) ?_
        refine asO_19 (pc := 84) cx hw h.1 dX3_scrape_84 (fun A12 eA12 H locs hw => ?_)
        have h := h.2 A12 eA12
        refine lv_iinc (pc := 85) (v := x2 + 1) (lv' := [(2, .int (x2 + 1)), (3, .int r4), (0, .ref (ad 0)), (1, .int x1)]) hx hb dX3_scrape_85 hl (k := 3) rfl rfl (by decide) rfl (fun ls hl => ?_)
        refine lv_goto (pc := 88) (tgt := 28) hx hb dX3_scrape_88 (by decide) ?_
        exact ih A12 V9 x1 (x2 + 1) h _ _ _ hw (lv_sub hl [2, 3, 0] rfl)
      · have h := h.2 c10
        exact hret 53 _ (A8, V9) _ _ dX3_scrape_53 h hw
def wl_X3_scrape_2 (Q : SA → SV → Prop) : Nat → SA → SV → Int32 → Int32 → Prop
  | 0, _, _, _, _ => False
  | n + 1, A, V, x1, x2 => (((V 3) ≤ x2 → (∃ n28 : Nat, wl_X3_scrape_28 Q n28 A V x1 (0 : Int32))) ∧ (¬ ((V 3) ≤ x2) → (vp_in x2 150 ∧ (∀ A2 : SA, A2 = up A 19 x2.toNatClampNeg (vp_nar .boolean (0 : Int32)) → wl_X3_scrape_2 Q n A2 V x1 (x2 + 1)))))
set_option maxHeartbeats 4000000 in
set_option maxRecDepth 100000 in
theorem wk_X3_scrape_2 (Q : SA → SV → Prop) (cx : CX RX3 cX3_scrape 4 wsX3_scrape D [(cI, .int), (cZ, .boolean)] p s m args c A0) (hret : ∀ (pc : Nat) (ls : Array Slot) (u : SA × SV) (H : Heap) (locs : List Loc), decode cX3_scrape pc = .ok (.return_, 1) → Q u.1 u.2 → WS D s A0 (wO ad cI cZ u.1 u.2) H locs → W p l e rmX3_scrape s m args below meth c H locs rmX3_scrape.cells rmX3_scrape.slots Z (F0 m pc ls []))  : ∀ (n : Nat) (A : SA) (V : SV) (x1 : Int32) (x2 : Int32) (h : wl_X3_scrape_2 Q n A V x1 x2) (H : Heap) (locs : List Loc) (ls : Array Slot) (hw : WS D s A0 (wO ad cI cZ A V) H locs) (hl : lv_has ls 4 [(0, .ref (ad 0)), (1, .int x1), (2, .int x2)]), W p l e rmX3_scrape s m args below meth c H locs 0 0 Z (F0 m 2 ls []) := by
  obtain ⟨hx, hb, hml, hown, hts, hK, hA⟩ := id cx
  intro n
  induction n with
  | zero => intro A V x1 x2 h; exact False.elim h
  | succ n ih =>
    intro A V x1 x2 h H locs ls hw hl
    refine lv_iload_n (pc := 2) hx hb dX3_scrape_2 rfl (lv_at hl 2 rfl) ?_
    refine lv_aload_n (pc := 3) hx hb dX3_scrape_3 rfl (lv_at hl 0 rfl) ?_
    refine geO_X3_3 (pc := 4) cx inX3_scrape_X3 kX3_scrape_35 hw dX3_scrape_4 ?_
    refine geO_X2_9 (pc := 7) cx inX3_scrape_X2 kX3_scrape_84 hw dX3_scrape_7 ?_
    refine lv_icmp_ge (pc := 10) (tgt := 26) hx hb dX3_scrape_10 (by decide) (fun c1 => ?_) (fun c1 => ?_)
    · have h := h.1 c1
      refine lv_iconst (pc := 26) (v := (0 : Int32)) hx hb dX3_scrape_26 (by decide) ?_
      refine lv_istore_n (pc := 27) (lv' := [(2, .int (0 : Int32)), (0, .ref (ad 0)), (1, .int x1)]) hx hb dX3_scrape_27 rfl hl (by decide) rfl (fun ls hl => ?_)
      obtain ⟨n28, h⟩ := h
      exact wk_X3_scrape_28 Q cx hret  n28 A V x1 (0 : Int32) h _ _ _ hw (lv_sub hl [1, 2, 0] rfl)
    · have h := h.2 c1
      refine lv_aload_n (pc := 13) hx hb dX3_scrape_13 rfl (lv_at hl 0 rfl) ?_
      refine geO_X3_9 (pc := 14) cx inX3_scrape_X3 kX3_scrape_50 hw dX3_scrape_14 ?_
      refine lv_iload_n (pc := 17) hx hb dX3_scrape_17 rfl (lv_at hl 2 rfl) ?_
      refine lv_iconst (pc := 18) (v := (0 : Int32)) hx hb dX3_scrape_18 (by decide) ?_
      refine asO_19 (pc := 19) cx hw h.1 dX3_scrape_19 (fun A2 eA2 H locs hw => ?_)
      have h := h.2 A2 eA2
      refine lv_iinc (pc := 20) (v := x2 + 1) (lv' := [(2, .int (x2 + 1)), (0, .ref (ad 0)), (1, .int x1)]) hx hb dX3_scrape_20 hl (k := 2) rfl rfl (by decide) rfl (fun ls hl => ?_)
      refine lv_goto (pc := 23) (tgt := 2) hx hb dX3_scrape_23 (by decide) ?_
      exact ih A2 V x1 (x2 + 1) h _ _ _ hw (lv_sub hl [1, 2, 0] rfl)
def wb_X3_scrape_0 (Q : SA → SV → Prop) (A : SA) (V : SV) (x1 : Int32) : Prop := (∃ n2 : Nat, wl_X3_scrape_2 Q n2 A V x1 (0 : Int32))
set_option maxHeartbeats 4000000 in
set_option maxRecDepth 100000 in
theorem wk_X3_scrape_0 (Q : SA → SV → Prop) (cx : CX RX3 cX3_scrape 4 wsX3_scrape D [(cI, .int), (cZ, .boolean)] p s m args c A0) (hret : ∀ (pc : Nat) (ls : Array Slot) (u : SA × SV) (H : Heap) (locs : List Loc), decode cX3_scrape pc = .ok (.return_, 1) → Q u.1 u.2 → WS D s A0 (wO ad cI cZ u.1 u.2) H locs → W p l e rmX3_scrape s m args below meth c H locs rmX3_scrape.cells rmX3_scrape.slots Z (F0 m pc ls []))  : ∀ (A : SA) (V : SV) (x1 : Int32) (h : wb_X3_scrape_0 Q A V x1) (H : Heap) (locs : List Loc) (ls : Array Slot) (hw : WS D s A0 (wO ad cI cZ A V) H locs) (hl : lv_has ls 4 [(0, .ref (ad 0)), (1, .int x1)]), W p l e rmX3_scrape s m args below meth c H locs 0 0 Z (F0 m 0 ls []) := by
  obtain ⟨hx, hb, hml, hown, hts, hK, hA⟩ := id cx
  intro A V x1 h H locs ls hw hl
  refine lv_iconst (pc := 0) (v := (0 : Int32)) hx hb dX3_scrape_0 (by decide) ?_
  refine lv_istore_n (pc := 1) (lv' := [(2, .int (0 : Int32)), (0, .ref (ad 0)), (1, .int x1)]) hx hb dX3_scrape_1 rfl hl (by decide) rfl (fun ls hl => ?_)
  obtain ⟨n2, h⟩ := h
  exact wk_X3_scrape_2 Q cx hret  n2 A V x1 (0 : Int32) h _ _ _ hw (lv_sub hl [1, 2, 0] rfl)
def wpX3_scrape (A : SA) (V : SV) (x1 : Int32) (Q : SA → SV → Prop) : Prop := wb_X3_scrape_0 Q A V x1
set_option maxHeartbeats 4000000 in
set_option maxRecDepth 100000 in
theorem metX3_scrape (l : Launch) (D : va_G) (cI cZ : ClassId) (ad : Nat → Nat) (sz : Nat) (A : SA) (V : SV) (x1 : Int32) (Q : SA → SV → Prop) (h : wpX3_scrape A V x1 Q) : Met l yX3_scrape wsX3_scrape rmX3_scrape (PcW D [(cI, .int), (cZ, .boolean)] (wO ad cI cZ A V) sz [.ref (ad 0), .int x1]) (QvW D [(cI, .int), (cZ, .boolean)] (wO ad cI cZ A V) sz (fun u : SA × SV => (wO ad cI cZ u.1 u.2)) (fun u => Q u.1 u.2)) rmX3_scrape.cells rmX3_scrape.slots (va_A (wO ad cI cZ A V) sz) := by
  refine startV (plainFor_of_name (by decide)) rfl (Nat.le_of_ble_eq_true rfl) ?_
  intro p e s m args below meth c A0 Z cx hw hret ls hl
  exact wk_X3_scrape_0 Q cx hret A V x1 h _ _ _ hw hl
abbrev rmX3_sort : Room := { frames := 3, cells := 0, slots := 0, locals := 128 }
theorem inX3_sort_X0 : ∀ w ∈ wsX00, w ∈ wsX3_sort := by decide +kernel
theorem inX3_sort_X2 : ∀ w ∈ wsX20, w ∈ wsX3_sort := by decide +kernel
theorem inX3_sort_X3 : ∀ w ∈ wsX30, w ∈ wsX3_sort := by decide +kernel
theorem kX3_sort_104 : Cond.fieldLink RX3 104 "DrownedPost$Letters" "state" "[I" ∈ wsX3_sort := by decide +kernel
theorem kX3_sort_110 : Cond.fieldLink RX3 110 "DrownedPost$Letters" "bin" "[I" ∈ wsX3_sort := by decide +kernel
theorem kX3_sort_123 : Cond.fieldLink RX3 123 "DrownedPost$Letters" "to" "[I" ∈ wsX3_sort := by decide +kernel
theorem kX3_sort_143 : Cond.fieldLink RX3 143 "DrownedPost$Bins" "filled" "[I" ∈ wsX3_sort := by decide +kernel
theorem kX3_sort_21 : Cond.fieldLink RX3 21 "DrownedPost$Office" "bins" "LDrownedPost$Bins;" ∈ wsX3_sort := by decide +kernel
theorem kX3_sort_28 : Cond.fieldLink RX3 28 "DrownedPost$Office" "drowned" "LDrownedPost$Drowned;" ∈ wsX3_sort := by decide +kernel
theorem kX3_sort_35 : Cond.fieldLink RX3 35 "DrownedPost$Office" "letters" "LDrownedPost$Letters;" ∈ wsX3_sort := by decide +kernel
theorem kX3_sort_43 : Cond.fieldLink RX3 43 "DrownedPost$Office" "sorters" "I" ∈ wsX3_sort := by decide +kernel
def wl_X3_sort_2 (Q : SA → SV → Prop) : Nat → SA → SV → Int32 → Prop
  | 0, _, _, _ => False
  | n + 1, A, V, x1 => (((V 6) ≤ x1 → Q A V) ∧ (¬ ((V 6) ≤ x1) → (wpX2_heaviestInOffice A V (fun r2 A3 V4 => (wpX2_has A3 V4 r2 (fun r5 A6 V7 => ((¬ r5 = 0 → (vp_in r2 150 ∧ (wpX1_heightOf A6 V7 (A6 9 r2.toNatClampNeg) (fun r9 A10 V11 => (wpX0_nearestWithRoom A10 V11 r9 (fun r12 A13 V14 => (wpX0_has A13 V14 r12 (fun r15 A16 V17 => ((¬ r15 = 0 → (vp_in r2 150 ∧ (∀ A19 : SA, A19 = up A16 12 r2.toNatClampNeg (1 : Int32) → (vp_in r2 150 ∧ (∀ A20 : SA, A20 = up A19 14 r2.toNatClampNeg r12 → (vp_in r12 10 ∧ (vp_in r12 10 ∧ (∀ A21 : SA, A21 = up A20 3 r12.toNatClampNeg ((A20 3 r12.toNatClampNeg) + (1 : Int32)) → wl_X3_sort_2 Q n A21 V17 (x1 + 1))))))))) ∧ (r15 = 0 → Q A16 V17)))))))))) ∧ (r5 = 0 → Q A6 V7))))))))
set_option maxHeartbeats 4000000 in
set_option maxRecDepth 100000 in
theorem wk_X3_sort_2 (Q : SA → SV → Prop) (cx : CX RX3 cX3_sort 4 wsX3_sort D [(cI, .int), (cZ, .boolean)] p s m args c A0) (hret : ∀ (pc : Nat) (ls : Array Slot) (u : SA × SV) (H : Heap) (locs : List Loc), decode cX3_sort pc = .ok (.return_, 1) → Q u.1 u.2 → WS D s A0 (wO ad cI cZ u.1 u.2) H locs → W p l e rmX3_sort s m args below meth c H locs rmX3_sort.cells rmX3_sort.slots Z (F0 m pc ls []))  : ∀ (n : Nat) (A : SA) (V : SV) (x1 : Int32) (h : wl_X3_sort_2 Q n A V x1) (H : Heap) (locs : List Loc) (ls : Array Slot) (hw : WS D s A0 (wO ad cI cZ A V) H locs) (hl : lv_has ls 4 [(0, .ref (ad 0)), (1, .int x1)]), W p l e rmX3_sort s m args below meth c H locs 0 0 Z (F0 m 2 ls []) := by
  obtain ⟨hx, hb, hml, hown, hts, hK, hA⟩ := id cx
  intro n
  induction n with
  | zero => intro A V x1 h; exact False.elim h
  | succ n ih =>
    intro A V x1 h H locs ls hw hl
    refine lv_iload_n (pc := 2) hx hb dX3_sort_2 rfl (lv_at hl 1 rfl) ?_
    refine lv_aload_n (pc := 3) hx hb dX3_sort_3 rfl (lv_at hl 0 rfl) ?_
    refine geO_X3_6 (pc := 4) cx inX3_sort_X3 kX3_sort_43 hw dX3_sort_4 ?_
    refine lv_icmp_ge (pc := 7) (tgt := 105) hx hb dX3_sort_7 (by decide) (fun c1 => ?_) (fun c1 => ?_)
    · have h := h.1 c1
      exact hret 105 _ (A, V) _ _ dX3_sort_105 h hw
    · have h := h.2 c1
      refine lv_aload_n (pc := 10) hx hb dX3_sort_10 rfl (lv_at hl 0 rfl) ?_
      refine geO_X3_3 (pc := 11) cx inX3_sort_X3 kX3_sort_35 hw dX3_sort_11 ?_
      refine callVi (pc := 14) (rest := []) (c1 := 0) (s1 := 0) cx hw hl (metX2_heaviestInOffice l D cI cZ ad H.size A V _ h) (fun hts => cwV 0 hts gX3_sort_X2_heaviestInOffice rfl rfl rfl (by decide +kernel) ⟨Nat.le_of_ble_eq_true rfl, Nat.le_of_ble_eq_true rfl⟩) SUB.rf [0, 1] rfl 4 (ci := 2) rfl rfl rfl (JN.rf) rfl rfl (Nat.le_of_ble_eq_true rfl) ⟨Nat.le_of_ble_eq_true rfl, Nat.le_of_ble_eq_true rfl⟩ rfl rfl dX3_sort_14 (fun r2 u H locs h hw => ?_)
      obtain ⟨A3, V4⟩ := u
      refine lv_istore_n (pc := 17) (lv' := [(2, .int r2), (0, .ref (ad 0)), (1, .int x1)]) hx hb dX3_sort_17 rfl hl (by decide) rfl (fun ls hl => ?_)
      refine lv_aload_n (pc := 18) hx hb dX3_sort_18 rfl (lv_at hl 1 rfl) ?_
      refine geO_X3_3 (pc := 19) cx inX3_sort_X3 kX3_sort_35 hw dX3_sort_19 ?_
      refine lv_iload_n (pc := 22) hx hb dX3_sort_22 rfl (lv_at hl 0 rfl) ?_
      refine callVi (pc := 23) (rest := []) (c1 := 0) (s1 := 0) cx hw hl (metX2_has l D cI cZ ad H.size A3 V4 r2 _ h) (fun hts => cwV 1 hts gX3_sort_X2_has rfl rfl rfl (by decide +kernel) ⟨Nat.le_of_ble_eq_true rfl, Nat.le_of_ble_eq_true rfl⟩) SUB.rf [0, 1] rfl 4 (ci := 2) rfl rfl rfl (JN.rf) rfl rfl (Nat.le_of_ble_eq_true rfl) ⟨Nat.le_of_ble_eq_true rfl, Nat.le_of_ble_eq_true rfl⟩ rfl rfl dX3_sort_23 (fun r5 u H locs h hw => ?_)
      obtain ⟨A6, V7⟩ := u
      refine lv_if_ne (pc := 26) (tgt := 30) hx hb dX3_sort_26 (by decide) (fun c8 => ?_) (fun c8 => ?_)
      · have h := h.1 c8
        refine lv_aload_n (pc := 30) hx hb dX3_sort_30 rfl (lv_at hl 1 rfl) ?_
        refine geO_X3_1 (pc := 31) cx inX3_sort_X3 kX3_sort_21 hw dX3_sort_31 ?_
        refine lv_aload_n (pc := 34) hx hb dX3_sort_34 rfl (lv_at hl 1 rfl) ?_
        refine geO_X3_2 (pc := 35) cx inX3_sort_X3 kX3_sort_28 hw dX3_sort_35 ?_
        refine lv_aload_n (pc := 38) hx hb dX3_sort_38 rfl (lv_at hl 1 rfl) ?_
        refine geO_X3_3 (pc := 39) cx inX3_sort_X3 kX3_sort_35 hw dX3_sort_39 ?_
        refine geO_X2_0 (pc := 42) cx inX3_sort_X2 kX3_sort_123 hw dX3_sort_42 ?_
        refine lv_iload_n (pc := 45) hx hb dX3_sort_45 rfl (lv_at hl 0 rfl) ?_
        refine alO_9 (pc := 46) cx hw h.1 dX3_sort_46 ?_
        have h := h.2
        refine callVi (pc := 47) (rest := [.ref (ad 2)]) (c1 := 0) (s1 := 0) cx hw hl (metX1_heightOf l D cI cZ ad H.size A6 V7 (A6 9 r2.toNatClampNeg) _ h) (fun hts => cwV 1 hts gX3_sort_X1_heightOf rfl rfl rfl (by decide +kernel) ⟨Nat.le_of_ble_eq_true rfl, Nat.le_of_ble_eq_true rfl⟩) SUB.rf [0, 1] rfl 3 (ci := 1) rfl rfl rfl (JN.rf) rfl rfl (Nat.le_of_ble_eq_true rfl) ⟨Nat.le_of_ble_eq_true rfl, Nat.le_of_ble_eq_true rfl⟩ rfl rfl dX3_sort_47 (fun r9 u H locs h hw => ?_)
        obtain ⟨A10, V11⟩ := u
        refine callVi (pc := 50) (rest := []) (c1 := 0) (s1 := 0) cx hw hl (metX0_nearestWithRoom l D cI cZ ad H.size A10 V11 r9 _ h) (fun hts => cwV 1 hts gX3_sort_X0_nearestWithRoom rfl rfl rfl (by decide +kernel) ⟨Nat.le_of_ble_eq_true rfl, Nat.le_of_ble_eq_true rfl⟩) SUB.rf [0, 1] rfl 2 (ci := 0) rfl rfl rfl (JN.rf) rfl rfl (Nat.le_of_ble_eq_true rfl) ⟨Nat.le_of_ble_eq_true rfl, Nat.le_of_ble_eq_true rfl⟩ rfl rfl dX3_sort_50 (fun r12 u H locs h hw => ?_)
        obtain ⟨A13, V14⟩ := u
        refine lv_istore_n (pc := 53) (lv' := [(3, .int r12), (2, .int r2), (0, .ref (ad 0)), (1, .int x1)]) hx hb dX3_sort_53 rfl hl (by decide) rfl (fun ls hl => ?_)
        refine lv_aload_n (pc := 54) hx hb dX3_sort_54 rfl (lv_at hl 2 rfl) ?_
        refine geO_X3_1 (pc := 55) cx inX3_sort_X3 kX3_sort_21 hw dX3_sort_55 ?_
        refine lv_iload_n (pc := 58) hx hb dX3_sort_58 rfl (lv_at hl 0 rfl) ?_
        refine callVi (pc := 59) (rest := []) (c1 := 0) (s1 := 0) cx hw hl (metX0_has l D cI cZ ad H.size A13 V14 r12 _ h) (fun hts => cwV 1 hts gX3_sort_X0_has rfl rfl rfl (by decide +kernel) ⟨Nat.le_of_ble_eq_true rfl, Nat.le_of_ble_eq_true rfl⟩) SUB.rf [0, 1] rfl 2 (ci := 0) rfl rfl rfl (JN.rf) rfl rfl (Nat.le_of_ble_eq_true rfl) ⟨Nat.le_of_ble_eq_true rfl, Nat.le_of_ble_eq_true rfl⟩ rfl rfl dX3_sort_59 (fun r15 u H locs h hw => ?_)
        obtain ⟨A16, V17⟩ := u
        refine lv_if_ne (pc := 62) (tgt := 66) hx hb dX3_sort_62 (by decide) (fun c18 => ?_) (fun c18 => ?_)
        · have h := h.1 c18
          refine lv_aload_n (pc := 66) hx hb dX3_sort_66 rfl (lv_at hl 2 rfl) ?_
          refine geO_X3_3 (pc := 67) cx inX3_sort_X3 kX3_sort_35 hw dX3_sort_67 ?_
          refine geO_X2_3 (pc := 70) cx inX3_sort_X2 kX3_sort_104 hw dX3_sort_70 ?_
          refine lv_iload_n (pc := 73) hx hb dX3_sort_73 rfl (lv_at hl 1 rfl) ?_
          refine lv_iconst (pc := 74) (v := (1 : Int32)) hx hb dX3_sort_74 (by decide) ?_
          refine asO_12 (pc := 75) cx hw h.1 dX3_sort_75 (fun A19 eA19 H locs hw => ?_)
          have h := h.2 A19 eA19
          refine lv_aload_n (pc := 76) hx hb dX3_sort_76 rfl (lv_at hl 2 rfl) ?_
          refine geO_X3_3 (pc := 77) cx inX3_sort_X3 kX3_sort_35 hw dX3_sort_77 ?_
          refine geO_X2_5 (pc := 80) cx inX3_sort_X2 kX3_sort_110 hw dX3_sort_80 ?_
          refine lv_iload_n (pc := 83) hx hb dX3_sort_83 rfl (lv_at hl 1 rfl) ?_
          refine lv_iload_n (pc := 84) hx hb dX3_sort_84 rfl (lv_at hl 0 rfl) ?_
          refine asO_14 (pc := 85) cx hw h.1 dX3_sort_85 (fun A20 eA20 H locs hw => ?_)
          have h := h.2 A20 eA20
          refine lv_aload_n (pc := 86) hx hb dX3_sort_86 rfl (lv_at hl 2 rfl) ?_
          refine geO_X3_1 (pc := 87) cx inX3_sort_X3 kX3_sort_21 hw dX3_sort_87 ?_
          refine geO_X0_2 (pc := 90) cx inX3_sort_X0 kX3_sort_143 hw dX3_sort_90 ?_
          refine lv_iload_n (pc := 93) hx hb dX3_sort_93 rfl (lv_at hl 0 rfl) ?_
          refine lv_dup2_11 (pc := 94) hx hb dX3_sort_94 rfl rfl ?_
          refine alO_3 (pc := 95) cx hw h.1 dX3_sort_95 ?_
          have h := h.2
          refine lv_iconst (pc := 96) (v := (1 : Int32)) hx hb dX3_sort_96 (by decide) ?_
          refine lv_iadd (pc := 97) hx hb dX3_sort_97 ?_
          refine asO_3 (pc := 98) cx hw h.1 dX3_sort_98 (fun A21 eA21 H locs hw => ?_)
          have h := h.2 A21 eA21
          refine lv_iinc (pc := 99) (v := x1 + 1) (lv' := [(1, .int (x1 + 1)), (3, .int r12), (2, .int r2), (0, .ref (ad 0))]) hx hb dX3_sort_99 hl (k := 3) rfl rfl (by decide) rfl (fun ls hl => ?_)
          refine lv_goto (pc := 102) (tgt := 2) hx hb dX3_sort_102 (by decide) ?_
          exact ih A21 V17 (x1 + 1) h _ _ _ hw (lv_sub hl [3, 0] rfl)
        · have h := h.2 c18
          exact hret 65 _ (A16, V17) _ _ dX3_sort_65 h hw
      · have h := h.2 c8
        exact hret 29 _ (A6, V7) _ _ dX3_sort_29 h hw
def wb_X3_sort_0 (Q : SA → SV → Prop) (A : SA) (V : SV) : Prop := (∃ n2 : Nat, wl_X3_sort_2 Q n2 A V (0 : Int32))
set_option maxHeartbeats 4000000 in
set_option maxRecDepth 100000 in
theorem wk_X3_sort_0 (Q : SA → SV → Prop) (cx : CX RX3 cX3_sort 4 wsX3_sort D [(cI, .int), (cZ, .boolean)] p s m args c A0) (hret : ∀ (pc : Nat) (ls : Array Slot) (u : SA × SV) (H : Heap) (locs : List Loc), decode cX3_sort pc = .ok (.return_, 1) → Q u.1 u.2 → WS D s A0 (wO ad cI cZ u.1 u.2) H locs → W p l e rmX3_sort s m args below meth c H locs rmX3_sort.cells rmX3_sort.slots Z (F0 m pc ls []))  : ∀ (A : SA) (V : SV) (h : wb_X3_sort_0 Q A V) (H : Heap) (locs : List Loc) (ls : Array Slot) (hw : WS D s A0 (wO ad cI cZ A V) H locs) (hl : lv_has ls 4 [(0, .ref (ad 0))]), W p l e rmX3_sort s m args below meth c H locs 0 0 Z (F0 m 0 ls []) := by
  obtain ⟨hx, hb, hml, hown, hts, hK, hA⟩ := id cx
  intro A V h H locs ls hw hl
  refine lv_iconst (pc := 0) (v := (0 : Int32)) hx hb dX3_sort_0 (by decide) ?_
  refine lv_istore_n (pc := 1) (lv' := [(1, .int (0 : Int32)), (0, .ref (ad 0))]) hx hb dX3_sort_1 rfl hl (by decide) rfl (fun ls hl => ?_)
  obtain ⟨n2, h⟩ := h
  exact wk_X3_sort_2 Q cx hret  n2 A V (0 : Int32) h _ _ _ hw (lv_sub hl [1, 0] rfl)
def wpX3_sort (A : SA) (V : SV)  (Q : SA → SV → Prop) : Prop := wb_X3_sort_0 Q A V
set_option maxHeartbeats 4000000 in
set_option maxRecDepth 100000 in
theorem metX3_sort (l : Launch) (D : va_G) (cI cZ : ClassId) (ad : Nat → Nat) (sz : Nat) (A : SA) (V : SV)  (Q : SA → SV → Prop) (h : wpX3_sort A V  Q) : Met l yX3_sort wsX3_sort rmX3_sort (PcW D [(cI, .int), (cZ, .boolean)] (wO ad cI cZ A V) sz [.ref (ad 0)]) (QvW D [(cI, .int), (cZ, .boolean)] (wO ad cI cZ A V) sz (fun u : SA × SV => (wO ad cI cZ u.1 u.2)) (fun u => Q u.1 u.2)) rmX3_sort.cells rmX3_sort.slots (va_A (wO ad cI cZ A V) sz) := by
  refine startV (plainFor_of_name (by decide)) rfl (Nat.le_of_ble_eq_true rfl) ?_
  intro p e s m args below meth c A0 Z cx hw hret ls hl
  exact wk_X3_sort_0 Q cx hret A V h _ _ _ hw hl
abbrev rmX3_liveOneHour : Room := { frames := 4, cells := 0, slots := 0, locals := 151 }
theorem inX3_liveOneHour_X2 : ∀ w ∈ wsX20, w ∈ wsX3_liveOneHour := by decide +kernel
theorem inX3_liveOneHour_X3 : ∀ w ∈ wsX30, w ∈ wsX3_liveOneHour := by decide +kernel
theorem kX3_liveOneHour_35 : Cond.fieldLink RX3 35 "DrownedPost$Office" "letters" "LDrownedPost$Letters;" ∈ wsX3_liveOneHour := by decide +kernel
theorem kX3_liveOneHour_67 : Cond.fieldLink RX3 67 "DrownedPost$Office" "hour" "I" ∈ wsX3_liveOneHour := by decide +kernel
theorem kX3_liveOneHour_84 : Cond.fieldLink RX3 84 "DrownedPost$Letters" "count" "I" ∈ wsX3_liveOneHour := by decide +kernel
def wb_X3_liveOneHour_0 (Q : SA → SV → Prop) (A : SA) (V : SV) : Prop := (wpX3_tideNow A V (fun r1 A2 V3 => (wpX3_water A2 V3 r1 (fun A5 V6 => (wpX3_writeAnswers A5 V6 (fun A8 V9 => (wpX3_bringAnswersNearer A8 V9 (V3 3) r1 (fun A11 V12 => (wpX3_scrape A11 V12 r1 (fun A14 V15 => (wpX3_sort A14 V15 (fun A17 V18 => (∀ V19 : SV, V19 = uv V18 4 ((V18 4) + (1 : Int32)) → Q A17 V19)))))))))))))
set_option maxHeartbeats 4000000 in
set_option maxRecDepth 100000 in
theorem wk_X3_liveOneHour_0 (Q : SA → SV → Prop) (cx : CX RX3 cX3_liveOneHour 3 wsX3_liveOneHour D [(cI, .int), (cZ, .boolean)] p s m args c A0) (hret : ∀ (pc : Nat) (ls : Array Slot) (u : SA × SV) (H : Heap) (locs : List Loc), decode cX3_liveOneHour pc = .ok (.return_, 1) → Q u.1 u.2 → WS D s A0 (wO ad cI cZ u.1 u.2) H locs → W p l e rmX3_liveOneHour s m args below meth c H locs rmX3_liveOneHour.cells rmX3_liveOneHour.slots Z (F0 m pc ls []))  : ∀ (A : SA) (V : SV) (h : wb_X3_liveOneHour_0 Q A V) (H : Heap) (locs : List Loc) (ls : Array Slot) (hw : WS D s A0 (wO ad cI cZ A V) H locs) (hl : lv_has ls 3 [(0, .ref (ad 0))]), W p l e rmX3_liveOneHour s m args below meth c H locs 0 0 Z (F0 m 0 ls []) := by
  obtain ⟨hx, hb, hml, hown, hts, hK, hA⟩ := id cx
  intro A V h H locs ls hw hl
  refine lv_aload_n (pc := 0) hx hb dX3_liveOneHour_0 rfl (lv_at hl 0 rfl) ?_
  refine callVi (pc := 1) (rest := []) (c1 := 0) (s1 := 0) cx hw hl (metX3_tideNow l D cI cZ ad H.size A V _ h) (fun hts => cwV 0 hts gX3_liveOneHour_X3_tideNow rfl rfl rfl (by decide +kernel) ⟨Nat.le_of_ble_eq_true rfl, Nat.le_of_ble_eq_true rfl⟩) SUB.rf [0, 1] rfl 0 (ci := 3) rfl rfl rfl (JN.rf) rfl rfl (Nat.le_of_ble_eq_true rfl) ⟨Nat.le_of_ble_eq_true rfl, Nat.le_of_ble_eq_true rfl⟩ rfl rfl dX3_liveOneHour_1 (fun r1 u H locs h hw => ?_)
  obtain ⟨A2, V3⟩ := u
  refine lv_istore_n (pc := 4) (lv' := [(1, .int r1), (0, .ref (ad 0))]) hx hb dX3_liveOneHour_4 rfl hl (by decide) rfl (fun ls hl => ?_)
  refine lv_aload_n (pc := 5) hx hb dX3_liveOneHour_5 rfl (lv_at hl 1 rfl) ?_
  refine geO_X3_3 (pc := 6) cx inX3_liveOneHour_X3 kX3_liveOneHour_35 hw dX3_liveOneHour_6 ?_
  refine geO_X2_9 (pc := 9) cx inX3_liveOneHour_X2 kX3_liveOneHour_84 hw dX3_liveOneHour_9 ?_
  refine lv_istore_n (pc := 12) (lv' := [(2, .int (V3 3)), (1, .int r1), (0, .ref (ad 0))]) hx hb dX3_liveOneHour_12 rfl hl (by decide) rfl (fun ls hl => ?_)
  refine lv_aload_n (pc := 13) hx hb dX3_liveOneHour_13 rfl (lv_at hl 2 rfl) ?_
  refine lv_iload_n (pc := 14) hx hb dX3_liveOneHour_14 rfl (lv_at hl 1 rfl) ?_
  refine callVv (pc := 15) (rest := []) (c1 := 0) (s1 := 0) cx hw hl (metX3_water l D cI cZ ad H.size A2 V3 r1 _ h) (fun hts => cwV 1 hts gX3_liveOneHour_X3_water rfl rfl rfl (by decide +kernel) ⟨Nat.le_of_ble_eq_true rfl, Nat.le_of_ble_eq_true rfl⟩) SUB.rf [0, 1] rfl 0 (ci := 3) rfl rfl rfl (JN.rf) rfl rfl (Nat.le_of_ble_eq_true rfl) ⟨Nat.le_of_ble_eq_true rfl, Nat.le_of_ble_eq_true rfl⟩ rfl rfl dX3_liveOneHour_15 (fun u H locs h hw => ?_)
  obtain ⟨A5, V6⟩ := u
  refine lv_aload_n (pc := 18) hx hb dX3_liveOneHour_18 rfl (lv_at hl 2 rfl) ?_
  refine callVv (pc := 19) (rest := []) (c1 := 0) (s1 := 0) cx hw hl (metX3_writeAnswers l D cI cZ ad H.size A5 V6 _ h) (fun hts => cwV 0 hts gX3_liveOneHour_X3_writeAnswers rfl rfl rfl (by decide +kernel) ⟨Nat.le_of_ble_eq_true rfl, Nat.le_of_ble_eq_true rfl⟩) SUB.rf [0, 1] rfl 0 (ci := 3) rfl rfl rfl (JN.rf) rfl rfl (Nat.le_of_ble_eq_true rfl) ⟨Nat.le_of_ble_eq_true rfl, Nat.le_of_ble_eq_true rfl⟩ rfl rfl dX3_liveOneHour_19 (fun u H locs h hw => ?_)
  obtain ⟨A8, V9⟩ := u
  refine lv_aload_n (pc := 22) hx hb dX3_liveOneHour_22 rfl (lv_at hl 2 rfl) ?_
  refine lv_iload_n (pc := 23) hx hb dX3_liveOneHour_23 rfl (lv_at hl 0 rfl) ?_
  refine lv_iload_n (pc := 24) hx hb dX3_liveOneHour_24 rfl (lv_at hl 1 rfl) ?_
  refine callVv (pc := 25) (rest := []) (c1 := 0) (s1 := 0) cx hw hl (metX3_bringAnswersNearer l D cI cZ ad H.size A8 V9 (V3 3) r1 _ h) (fun hts => cwV 2 hts gX3_liveOneHour_X3_bringAnswersNearer rfl rfl rfl (by decide +kernel) ⟨Nat.le_of_ble_eq_true rfl, Nat.le_of_ble_eq_true rfl⟩) SUB.rf [0, 1] rfl 0 (ci := 3) rfl rfl rfl (JN.rf) rfl rfl (Nat.le_of_ble_eq_true rfl) ⟨Nat.le_of_ble_eq_true rfl, Nat.le_of_ble_eq_true rfl⟩ rfl rfl dX3_liveOneHour_25 (fun u H locs h hw => ?_)
  obtain ⟨A11, V12⟩ := u
  refine lv_aload_n (pc := 28) hx hb dX3_liveOneHour_28 rfl (lv_at hl 2 rfl) ?_
  refine lv_iload_n (pc := 29) hx hb dX3_liveOneHour_29 rfl (lv_at hl 1 rfl) ?_
  refine callVv (pc := 30) (rest := []) (c1 := 0) (s1 := 0) cx hw hl (metX3_scrape l D cI cZ ad H.size A11 V12 r1 _ h) (fun hts => cwV 1 hts gX3_liveOneHour_X3_scrape rfl rfl rfl (by decide +kernel) ⟨Nat.le_of_ble_eq_true rfl, Nat.le_of_ble_eq_true rfl⟩) SUB.rf [0, 1] rfl 0 (ci := 3) rfl rfl rfl (JN.rf) rfl rfl (Nat.le_of_ble_eq_true rfl) ⟨Nat.le_of_ble_eq_true rfl, Nat.le_of_ble_eq_true rfl⟩ rfl rfl dX3_liveOneHour_30 (fun u H locs h hw => ?_)
  obtain ⟨A14, V15⟩ := u
  refine lv_aload_n (pc := 33) hx hb dX3_liveOneHour_33 rfl (lv_at hl 2 rfl) ?_
  refine callVv (pc := 34) (rest := []) (c1 := 0) (s1 := 0) cx hw hl (metX3_sort l D cI cZ ad H.size A14 V15 _ h) (fun hts => cwV 0 hts gX3_liveOneHour_X3_sort rfl rfl rfl (by decide +kernel) ⟨Nat.le_of_ble_eq_true rfl, Nat.le_of_ble_eq_true rfl⟩) SUB.rf [0, 1] rfl 0 (ci := 3) rfl rfl rfl (JN.rf) rfl rfl (Nat.le_of_ble_eq_true rfl) ⟨Nat.le_of_ble_eq_true rfl, Nat.le_of_ble_eq_true rfl⟩ rfl rfl dX3_liveOneHour_34 (fun u H locs h hw => ?_)
  obtain ⟨A17, V18⟩ := u
  refine lv_aload_n (pc := 37) hx hb dX3_liveOneHour_37 rfl (lv_at hl 2 rfl) ?_
  refine lv_dup (pc := 38) hx hb dX3_liveOneHour_38 rfl ?_
  refine geO_X3_4 (pc := 39) cx inX3_liveOneHour_X3 kX3_liveOneHour_67 hw dX3_liveOneHour_39 ?_
  refine lv_iconst (pc := 42) (v := (1 : Int32)) hx hb dX3_liveOneHour_42 (by decide) ?_
  refine lv_iadd (pc := 43) hx hb dX3_liveOneHour_43 ?_
  refine puO_X3_4 (pc := 44) cx inX3_liveOneHour_X3 kX3_liveOneHour_67 hw dX3_liveOneHour_44 (fun V19 eV19 H locs hw => ?_)
  have h := h V19 eV19
  exact hret 47 _ (A17, V19) _ _ dX3_liveOneHour_47 h hw
def wpX3_liveOneHour (A : SA) (V : SV)  (Q : SA → SV → Prop) : Prop := wb_X3_liveOneHour_0 Q A V
set_option maxHeartbeats 4000000 in
set_option maxRecDepth 100000 in
theorem metX3_liveOneHour (l : Launch) (D : va_G) (cI cZ : ClassId) (ad : Nat → Nat) (sz : Nat) (A : SA) (V : SV)  (Q : SA → SV → Prop) (h : wpX3_liveOneHour A V  Q) : Met l yX3_liveOneHour wsX3_liveOneHour rmX3_liveOneHour (PcW D [(cI, .int), (cZ, .boolean)] (wO ad cI cZ A V) sz [.ref (ad 0)]) (QvW D [(cI, .int), (cZ, .boolean)] (wO ad cI cZ A V) sz (fun u : SA × SV => (wO ad cI cZ u.1 u.2)) (fun u => Q u.1 u.2)) rmX3_liveOneHour.cells rmX3_liveOneHour.slots (va_A (wO ad cI cZ A V) sz) := by
  refine startV (plainFor_of_name (by decide)) rfl (Nat.le_of_ble_eq_true rfl) ?_
  intro p e s m args below meth c A0 Z cx hw hret ls hl
  exact wk_X3_liveOneHour_0 Q cx hret A V h _ _ _ hw hl
abbrev rmX3_letGoBy : Room := { frames := 5, cells := 0, slots := 0, locals := 173 }
theorem inX3_letGoBy_X3 : ∀ w ∈ wsX30, w ∈ wsX3_letGoBy := by decide +kernel
theorem kX3_letGoBy_77 : Cond.fieldLink RX3 77 "DrownedPost$Office" "sunkCount" "I" ∈ wsX3_letGoBy := by decide +kernel
def wl_X3_letGoBy_4 (Q : Int32 → SA → SV → Prop) : Nat → SA → SV → Int32 → Int32 → Int32 → Prop
  | 0, _, _, _, _, _ => False
  | n + 1, A, V, x1, x2, x3 => ((x1 ≤ x3 → Q x2 A V) ∧ (¬ (x1 ≤ x3) → (wpX3_liveOneHour A V (fun A3 V4 => wl_X3_letGoBy_4 Q n A3 V4 x1 (x2 + (V4 7)) (x3 + 1)))))
set_option maxHeartbeats 4000000 in
set_option maxRecDepth 100000 in
theorem wk_X3_letGoBy_4 (Q : Int32 → SA → SV → Prop) (cx : CX RX3 cX3_letGoBy 4 wsX3_letGoBy D [(cI, .int), (cZ, .boolean)] p s m args c A0) (hret : ∀ (pc : Nat) (ls : Array Slot) (r : Int32) (u : SA × SV) (H : Heap) (locs : List Loc), narrow .int (.int r) = .int r → decode cX3_letGoBy pc = .ok (.ireturn, 1) → Q r u.1 u.2 → WS D s A0 (wO ad cI cZ u.1 u.2) H locs → W p l e rmX3_letGoBy s m args below meth c H locs rmX3_letGoBy.cells rmX3_letGoBy.slots Z (F0 m pc ls [.int r]))  : ∀ (n : Nat) (A : SA) (V : SV) (x1 : Int32) (x2 : Int32) (x3 : Int32) (h : wl_X3_letGoBy_4 Q n A V x1 x2 x3) (H : Heap) (locs : List Loc) (ls : Array Slot) (hw : WS D s A0 (wO ad cI cZ A V) H locs) (hl : lv_has ls 4 [(0, .ref (ad 0)), (1, .int x1), (2, .int x2), (3, .int x3)]), W p l e rmX3_letGoBy s m args below meth c H locs 0 0 Z (F0 m 4 ls []) := by
  obtain ⟨hx, hb, hml, hown, hts, hK, hA⟩ := id cx
  intro n
  induction n with
  | zero => intro A V x1 x2 x3 h; exact False.elim h
  | succ n ih =>
    intro A V x1 x2 x3 h H locs ls hw hl
    refine lv_iload_n (pc := 4) hx hb dX3_letGoBy_4 rfl (lv_at hl 3 rfl) ?_
    refine lv_iload_n (pc := 5) hx hb dX3_letGoBy_5 rfl (lv_at hl 1 rfl) ?_
    refine lv_icmp_ge (pc := 6) (tgt := 26) hx hb dX3_letGoBy_6 (by decide) (fun c1 => ?_) (fun c1 => ?_)
    · have h := h.1 c1
      refine lv_iload_n (pc := 26) hx hb dX3_letGoBy_26 rfl (lv_at hl 2 rfl) ?_
      exact hret 27 _ _ (A, V) _ _ rfl dX3_letGoBy_27 h hw
    · have h := h.2 c1
      refine lv_aload_n (pc := 9) hx hb dX3_letGoBy_9 rfl (lv_at hl 0 rfl) ?_
      refine callVv (pc := 10) (rest := []) (c1 := 0) (s1 := 0) cx hw hl (metX3_liveOneHour l D cI cZ ad H.size A V _ h) (fun hts => cwV 0 hts gX3_letGoBy_X3_liveOneHour rfl rfl rfl (by decide +kernel) ⟨Nat.le_of_ble_eq_true rfl, Nat.le_of_ble_eq_true rfl⟩) SUB.rf [0, 1] rfl 0 (ci := 3) rfl rfl rfl (JN.rf) rfl rfl (Nat.le_of_ble_eq_true rfl) ⟨Nat.le_of_ble_eq_true rfl, Nat.le_of_ble_eq_true rfl⟩ rfl rfl dX3_letGoBy_10 (fun u H locs h hw => ?_)
      obtain ⟨A3, V4⟩ := u
      refine lv_iload_n (pc := 13) hx hb dX3_letGoBy_13 rfl (lv_at hl 2 rfl) ?_
      refine lv_aload_n (pc := 14) hx hb dX3_letGoBy_14 rfl (lv_at hl 0 rfl) ?_
      refine geO_X3_8 (pc := 15) cx inX3_letGoBy_X3 kX3_letGoBy_77 hw dX3_letGoBy_15 ?_
      refine lv_iadd (pc := 18) hx hb dX3_letGoBy_18 ?_
      refine lv_istore_n (pc := 19) (lv' := [(2, .int (x2 + (V4 7))), (0, .ref (ad 0)), (1, .int x1), (3, .int x3)]) hx hb dX3_letGoBy_19 rfl hl (by decide) rfl (fun ls hl => ?_)
      refine lv_iinc (pc := 20) (v := x3 + 1) (lv' := [(3, .int (x3 + 1)), (2, .int (x2 + (V4 7))), (0, .ref (ad 0)), (1, .int x1)]) hx hb dX3_letGoBy_20 hl (k := 3) rfl rfl (by decide) rfl (fun ls hl => ?_)
      refine lv_goto (pc := 23) (tgt := 4) hx hb dX3_letGoBy_23 (by decide) ?_
      exact ih A3 V4 x1 (x2 + (V4 7)) (x3 + 1) h _ _ _ hw (lv_sub hl [2, 3, 1, 0] rfl)
def wb_X3_letGoBy_0 (Q : Int32 → SA → SV → Prop) (A : SA) (V : SV) (x1 : Int32) : Prop := (∃ n4 : Nat, wl_X3_letGoBy_4 Q n4 A V x1 (0 : Int32) (0 : Int32))
set_option maxHeartbeats 4000000 in
set_option maxRecDepth 100000 in
theorem wk_X3_letGoBy_0 (Q : Int32 → SA → SV → Prop) (cx : CX RX3 cX3_letGoBy 4 wsX3_letGoBy D [(cI, .int), (cZ, .boolean)] p s m args c A0) (hret : ∀ (pc : Nat) (ls : Array Slot) (r : Int32) (u : SA × SV) (H : Heap) (locs : List Loc), narrow .int (.int r) = .int r → decode cX3_letGoBy pc = .ok (.ireturn, 1) → Q r u.1 u.2 → WS D s A0 (wO ad cI cZ u.1 u.2) H locs → W p l e rmX3_letGoBy s m args below meth c H locs rmX3_letGoBy.cells rmX3_letGoBy.slots Z (F0 m pc ls [.int r]))  : ∀ (A : SA) (V : SV) (x1 : Int32) (h : wb_X3_letGoBy_0 Q A V x1) (H : Heap) (locs : List Loc) (ls : Array Slot) (hw : WS D s A0 (wO ad cI cZ A V) H locs) (hl : lv_has ls 4 [(0, .ref (ad 0)), (1, .int x1)]), W p l e rmX3_letGoBy s m args below meth c H locs 0 0 Z (F0 m 0 ls []) := by
  obtain ⟨hx, hb, hml, hown, hts, hK, hA⟩ := id cx
  intro A V x1 h H locs ls hw hl
  refine lv_iconst (pc := 0) (v := (0 : Int32)) hx hb dX3_letGoBy_0 (by decide) ?_
  refine lv_istore_n (pc := 1) (lv' := [(2, .int (0 : Int32)), (0, .ref (ad 0)), (1, .int x1)]) hx hb dX3_letGoBy_1 rfl hl (by decide) rfl (fun ls hl => ?_)
  refine lv_iconst (pc := 2) (v := (0 : Int32)) hx hb dX3_letGoBy_2 (by decide) ?_
  refine lv_istore_n (pc := 3) (lv' := [(3, .int (0 : Int32)), (2, .int (0 : Int32)), (0, .ref (ad 0)), (1, .int x1)]) hx hb dX3_letGoBy_3 rfl hl (by decide) rfl (fun ls hl => ?_)
  obtain ⟨n4, h⟩ := h
  exact wk_X3_letGoBy_4 Q cx hret  n4 A V x1 (0 : Int32) (0 : Int32) h _ _ _ hw (lv_sub hl [2, 3, 1, 0] rfl)
def wpX3_letGoBy (A : SA) (V : SV) (x1 : Int32) (Q : Int32 → SA → SV → Prop) : Prop := wb_X3_letGoBy_0 Q A V x1
set_option maxHeartbeats 4000000 in
set_option maxRecDepth 100000 in
theorem metX3_letGoBy (l : Launch) (D : va_G) (cI cZ : ClassId) (ad : Nat → Nat) (sz : Nat) (A : SA) (V : SV) (x1 : Int32) (Q : Int32 → SA → SV → Prop) (h : wpX3_letGoBy A V x1 Q) : Met l yX3_letGoBy wsX3_letGoBy rmX3_letGoBy (PcW D [(cI, .int), (cZ, .boolean)] (wO ad cI cZ A V) sz [.ref (ad 0), .int x1]) (QiW D [(cI, .int), (cZ, .boolean)] (wO ad cI cZ A V) sz (fun u : SA × SV => (wO ad cI cZ u.1 u.2)) (fun r u => Q r u.1 u.2)) rmX3_letGoBy.cells rmX3_letGoBy.slots (va_A (wO ad cI cZ A V) sz) := by
  refine startI (plainFor_of_name (by decide)) rfl (Nat.le_of_ble_eq_true rfl) ?_
  intro p e s m args below meth c A0 Z cx hw hret ls hl
  exact wk_X3_letGoBy_0 Q cx hret A V x1 h _ _ _ hw hl
abbrev rmX3_hourOfReach : Room := { frames := 2, cells := 0, slots := 0, locals := 43 }
theorem inX3_hourOfReach_X3 : ∀ w ∈ wsX30, w ∈ wsX3_hourOfReach := by decide +kernel
theorem kX3_hourOfReach_12 : Cond.fieldLink RX3 12 "DrownedPost$Office" "tides" "LDrownedPost$Tides;" ∈ wsX3_hourOfReach := by decide +kernel
theorem kX3_hourOfReach_21 : Cond.fieldLink RX3 21 "DrownedPost$Office" "bins" "LDrownedPost$Bins;" ∈ wsX3_hourOfReach := by decide +kernel
theorem kX3_hourOfReach_67 : Cond.fieldLink RX3 67 "DrownedPost$Office" "hour" "I" ∈ wsX3_hourOfReach := by decide +kernel
def wb_X3_hourOfReach_55 (Q : Int32 → SA → SV → Prop) (K5 : SA → SV → Int32 → Int32 → Int32 → Int32 → Prop) (A : SA) (V : SV) (x1 : Int32) (x2 : Int32) (x4 : Int32) (t0 : Int32) : Prop := ((¬ t0 = (3 : Int32) → K5 A V x1 x2 t0 (x4 + 1)) ∧ (t0 = (3 : Int32) → Q ((V 4) + x4) A V))
set_option maxHeartbeats 4000000 in
set_option maxRecDepth 100000 in
theorem wk_X3_hourOfReach_55 (Q : Int32 → SA → SV → Prop) (K5 : SA → SV → Int32 → Int32 → Int32 → Int32 → Prop) (cx : CX RX3 cX3_hourOfReach 6 wsX3_hourOfReach D [(cI, .int), (cZ, .boolean)] p s m args c A0) (hret : ∀ (pc : Nat) (ls : Array Slot) (r : Int32) (u : SA × SV) (H : Heap) (locs : List Loc), narrow .int (.int r) = .int r → decode cX3_hourOfReach pc = .ok (.ireturn, 1) → Q r u.1 u.2 → WS D s A0 (wO ad cI cZ u.1 u.2) H locs → W p l e rmX3_hourOfReach s m args below meth c H locs rmX3_hourOfReach.cells rmX3_hourOfReach.slots Z (F0 m pc ls [.int r])) (hK5 : ∀ (A : SA) (V : SV) (x1 : Int32) (x2 : Int32) (x3 : Int32) (x4 : Int32) (h : K5 A V x1 x2 x3 x4) (H : Heap) (locs : List Loc) (ls : Array Slot) (hw : WS D s A0 (wO ad cI cZ A V) H locs) (hl : lv_has ls 6 [(0, .ref (ad 0)), (1, .int x1), (2, .int x2), (3, .int x3), (4, .int x4)]), W p l e rmX3_hourOfReach s m args below meth c H locs 0 0 Z (F0 m 5 ls [])) : ∀ (A : SA) (V : SV) (x1 : Int32) (x2 : Int32) (x4 : Int32) (t0 : Int32) (h : wb_X3_hourOfReach_55 Q K5 A V x1 x2 x4 t0) (H : Heap) (locs : List Loc) (ls : Array Slot) (hw : WS D s A0 (wO ad cI cZ A V) H locs) (hl : lv_has ls 6 [(0, .ref (ad 0)), (1, .int x1), (2, .int x2), (4, .int x4)]), W p l e rmX3_hourOfReach s m args below meth c H locs 0 0 Z (F0 m 55 ls [.int t0]) := by
  obtain ⟨hx, hb, hml, hown, hts, hK, hA⟩ := id cx
  intro A V x1 x2 x4 t0 h H locs ls hw hl
  refine lv_istore_n (pc := 55) (lv' := [(3, .int t0), (0, .ref (ad 0)), (1, .int x1), (2, .int x2), (4, .int x4)]) hx hb dX3_hourOfReach_55 rfl hl (by decide) rfl (fun ls hl => ?_)
  refine lv_iload_n (pc := 56) hx hb dX3_hourOfReach_56 rfl (lv_at hl 0 rfl) ?_
  refine lv_iconst (pc := 57) (v := (3 : Int32)) hx hb dX3_hourOfReach_57 (by decide) ?_
  refine lv_icmp_ne (pc := 58) (tgt := 69) hx hb dX3_hourOfReach_58 (by decide) (fun c10 => ?_) (fun c10 => ?_)
  · have h := h.1 c10
    refine lv_iinc (pc := 69) (v := x4 + 1) (lv' := [(4, .int (x4 + 1)), (3, .int t0), (0, .ref (ad 0)), (1, .int x1), (2, .int x2)]) hx hb dX3_hourOfReach_69 hl (k := 4) rfl rfl (by decide) rfl (fun ls hl => ?_)
    refine lv_goto (pc := 72) (tgt := 5) hx hb dX3_hourOfReach_72 (by decide) ?_
    exact hK5 A V x1 x2 t0 (x4 + 1) h _ _ _ hw (lv_sub hl [2, 3, 4, 1, 0] rfl)
  · have h := h.2 c10
    refine lv_aload_n (pc := 61) hx hb dX3_hourOfReach_61 rfl (lv_at hl 1 rfl) ?_
    refine geO_X3_4 (pc := 62) cx inX3_hourOfReach_X3 kX3_hourOfReach_67 hw dX3_hourOfReach_62 ?_
    refine lv_iload (pc := 65) hx hb dX3_hourOfReach_65 (lv_at hl 4 rfl) ?_
    refine lv_iadd (pc := 67) hx hb dX3_hourOfReach_67 ?_
    exact hret 68 _ _ (A, V) _ _ rfl dX3_hourOfReach_68 h hw
def wl_X3_hourOfReach_5 (Q : Int32 → SA → SV → Prop) : Nat → SA → SV → Int32 → Int32 → Int32 → Int32 → Prop
  | 0, _, _, _, _, _, _ => False
  | n + 1, A, V, x1, x2, x3, x4 => (((200 : Int32) ≤ x4 → Q (-1 : Int32) A V) ∧ (¬ ((200 : Int32) ≤ x4) → (wpX4_heightIn A V ((V 4) + x4) (fun r2 A3 V4 => (wpX0_isUnder A3 V4 x2 r2 (fun r5 A6 V7 => ((r5 = 0 → (wb_X3_hourOfReach_55 Q (wl_X3_hourOfReach_5 Q n) A6 V7 x1 x2 x4 (0 : Int32))) ∧ (¬ (r5 = 0) → ((r2 < x1 → (wb_X3_hourOfReach_55 Q (wl_X3_hourOfReach_5 Q n) A6 V7 x1 x2 x4 (0 : Int32))) ∧ (¬ (r2 < x1) → (wb_X3_hourOfReach_55 Q (wl_X3_hourOfReach_5 Q n) A6 V7 x1 x2 x4 (x3 + (1 : Int32)))))))))))))
set_option maxHeartbeats 4000000 in
set_option maxRecDepth 100000 in
theorem wk_X3_hourOfReach_5 (Q : Int32 → SA → SV → Prop) (cx : CX RX3 cX3_hourOfReach 6 wsX3_hourOfReach D [(cI, .int), (cZ, .boolean)] p s m args c A0) (hret : ∀ (pc : Nat) (ls : Array Slot) (r : Int32) (u : SA × SV) (H : Heap) (locs : List Loc), narrow .int (.int r) = .int r → decode cX3_hourOfReach pc = .ok (.ireturn, 1) → Q r u.1 u.2 → WS D s A0 (wO ad cI cZ u.1 u.2) H locs → W p l e rmX3_hourOfReach s m args below meth c H locs rmX3_hourOfReach.cells rmX3_hourOfReach.slots Z (F0 m pc ls [.int r]))  : ∀ (n : Nat) (A : SA) (V : SV) (x1 : Int32) (x2 : Int32) (x3 : Int32) (x4 : Int32) (h : wl_X3_hourOfReach_5 Q n A V x1 x2 x3 x4) (H : Heap) (locs : List Loc) (ls : Array Slot) (hw : WS D s A0 (wO ad cI cZ A V) H locs) (hl : lv_has ls 6 [(0, .ref (ad 0)), (1, .int x1), (2, .int x2), (3, .int x3), (4, .int x4)]), W p l e rmX3_hourOfReach s m args below meth c H locs 0 0 Z (F0 m 5 ls []) := by
  obtain ⟨hx, hb, hml, hown, hts, hK, hA⟩ := id cx
  intro n
  induction n with
  | zero => intro A V x1 x2 x3 x4 h; exact False.elim h
  | succ n ih =>
    intro A V x1 x2 x3 x4 h H locs ls hw hl
    refine lv_iload (pc := 5) hx hb dX3_hourOfReach_5 (lv_at hl 4 rfl) ?_
    refine lv_sipush (pc := 7) (v := (200 : Int32)) hx hb dX3_hourOfReach_7 (by decide) ?_
    refine lv_icmp_ge (pc := 10) (tgt := 75) hx hb dX3_hourOfReach_10 (by decide) (fun c1 => ?_) (fun c1 => ?_)
    · have h := h.1 c1
      refine lv_iconst (pc := 75) (v := (-1 : Int32)) hx hb dX3_hourOfReach_75 (by decide) ?_
      exact hret 76 _ _ (A, V) _ _ rfl dX3_hourOfReach_76 h hw
    · have h := h.2 c1
      refine lv_aload_n (pc := 13) hx hb dX3_hourOfReach_13 rfl (lv_at hl 0 rfl) ?_
      refine geO_X3_0 (pc := 14) cx inX3_hourOfReach_X3 kX3_hourOfReach_12 hw dX3_hourOfReach_14 ?_
      refine lv_aload_n (pc := 17) hx hb dX3_hourOfReach_17 rfl (lv_at hl 0 rfl) ?_
      refine geO_X3_4 (pc := 18) cx inX3_hourOfReach_X3 kX3_hourOfReach_67 hw dX3_hourOfReach_18 ?_
      refine lv_iload (pc := 21) hx hb dX3_hourOfReach_21 (lv_at hl 4 rfl) ?_
      refine lv_iadd (pc := 23) hx hb dX3_hourOfReach_23 ?_
      refine callVi (pc := 24) (rest := []) (c1 := 0) (s1 := 0) cx hw hl (metX4_heightIn l D cI cZ ad H.size A V ((V 4) + x4) _ h) (fun hts => cwV 1 hts gX3_hourOfReach_X4_heightIn rfl rfl rfl (by decide +kernel) ⟨Nat.le_of_ble_eq_true rfl, Nat.le_of_ble_eq_true rfl⟩) SUB.rf [0, 1] rfl 1 (ci := 4) rfl rfl rfl (JN.rf) rfl rfl (Nat.le_of_ble_eq_true rfl) ⟨Nat.le_of_ble_eq_true rfl, Nat.le_of_ble_eq_true rfl⟩ rfl rfl dX3_hourOfReach_24 (fun r2 u H locs h hw => ?_)
      obtain ⟨A3, V4⟩ := u
      refine lv_istore (pc := 27) (lv' := [(5, .int r2), (0, .ref (ad 0)), (1, .int x1), (2, .int x2), (3, .int x3), (4, .int x4)]) hx hb dX3_hourOfReach_27 hl (by decide) rfl (fun ls hl => ?_)
      refine lv_aload_n (pc := 29) hx hb dX3_hourOfReach_29 rfl (lv_at hl 1 rfl) ?_
      refine geO_X3_1 (pc := 30) cx inX3_hourOfReach_X3 kX3_hourOfReach_21 hw dX3_hourOfReach_30 ?_
      refine lv_iload_n (pc := 33) hx hb dX3_hourOfReach_33 rfl (lv_at hl 3 rfl) ?_
      refine lv_iload (pc := 34) hx hb dX3_hourOfReach_34 (lv_at hl 0 rfl) ?_
      refine callVi (pc := 36) (rest := []) (c1 := 0) (s1 := 0) cx hw hl (metX0_isUnder l D cI cZ ad H.size A3 V4 x2 r2 _ h) (fun hts => cwV 2 hts gX3_hourOfReach_X0_isUnder rfl rfl rfl (by decide +kernel) ⟨Nat.le_of_ble_eq_true rfl, Nat.le_of_ble_eq_true rfl⟩) SUB.rf [0, 1] rfl 2 (ci := 0) rfl rfl rfl (JN.rf) rfl rfl (Nat.le_of_ble_eq_true rfl) ⟨Nat.le_of_ble_eq_true rfl, Nat.le_of_ble_eq_true rfl⟩ rfl rfl dX3_hourOfReach_36 (fun r5 u H locs h hw => ?_)
      obtain ⟨A6, V7⟩ := u
      refine lv_if_eq (pc := 39) (tgt := 54) hx hb dX3_hourOfReach_39 (by decide) (fun c8 => ?_) (fun c8 => ?_)
      · have h := h.1 c8
        refine lv_iconst (pc := 54) (v := (0 : Int32)) hx hb dX3_hourOfReach_54 (by decide) ?_
        exact wk_X3_hourOfReach_55 Q (wl_X3_hourOfReach_5 Q n) cx hret ih A6 V7 x1 x2 x4 (0 : Int32) h _ _ _ hw (lv_sub hl [1, 2, 3, 5] rfl)
      · have h := h.2 c8
        refine lv_iload (pc := 42) hx hb dX3_hourOfReach_42 (lv_at hl 0 rfl) ?_
        refine lv_iload_n (pc := 44) hx hb dX3_hourOfReach_44 rfl (lv_at hl 2 rfl) ?_
        refine lv_icmp_lt (pc := 45) (tgt := 54) hx hb dX3_hourOfReach_45 (by decide) (fun c9 => ?_) (fun c9 => ?_)
        · have h := h.1 c9
          refine lv_iconst (pc := 54) (v := (0 : Int32)) hx hb dX3_hourOfReach_54 (by decide) ?_
          exact wk_X3_hourOfReach_55 Q (wl_X3_hourOfReach_5 Q n) cx hret ih A6 V7 x1 x2 x4 (0 : Int32) h _ _ _ hw (lv_sub hl [1, 2, 3, 5] rfl)
        · have h := h.2 c9
          refine lv_iload_n (pc := 48) hx hb dX3_hourOfReach_48 rfl (lv_at hl 4 rfl) ?_
          refine lv_iconst (pc := 49) (v := (1 : Int32)) hx hb dX3_hourOfReach_49 (by decide) ?_
          refine lv_iadd (pc := 50) hx hb dX3_hourOfReach_50 ?_
          refine lv_goto (pc := 51) (tgt := 55) hx hb dX3_hourOfReach_51 (by decide) ?_
          exact wk_X3_hourOfReach_55 Q (wl_X3_hourOfReach_5 Q n) cx hret ih A6 V7 x1 x2 x4 (x3 + (1 : Int32)) h _ _ _ hw (lv_sub hl [1, 2, 3, 5] rfl)
def wb_X3_hourOfReach_0 (Q : Int32 → SA → SV → Prop) (A : SA) (V : SV) (x1 : Int32) (x2 : Int32) : Prop := (∃ n5 : Nat, wl_X3_hourOfReach_5 Q n5 A V x1 x2 (0 : Int32) (0 : Int32))
set_option maxHeartbeats 4000000 in
set_option maxRecDepth 100000 in
theorem wk_X3_hourOfReach_0 (Q : Int32 → SA → SV → Prop) (cx : CX RX3 cX3_hourOfReach 6 wsX3_hourOfReach D [(cI, .int), (cZ, .boolean)] p s m args c A0) (hret : ∀ (pc : Nat) (ls : Array Slot) (r : Int32) (u : SA × SV) (H : Heap) (locs : List Loc), narrow .int (.int r) = .int r → decode cX3_hourOfReach pc = .ok (.ireturn, 1) → Q r u.1 u.2 → WS D s A0 (wO ad cI cZ u.1 u.2) H locs → W p l e rmX3_hourOfReach s m args below meth c H locs rmX3_hourOfReach.cells rmX3_hourOfReach.slots Z (F0 m pc ls [.int r]))  : ∀ (A : SA) (V : SV) (x1 : Int32) (x2 : Int32) (h : wb_X3_hourOfReach_0 Q A V x1 x2) (H : Heap) (locs : List Loc) (ls : Array Slot) (hw : WS D s A0 (wO ad cI cZ A V) H locs) (hl : lv_has ls 6 [(0, .ref (ad 0)), (1, .int x1), (2, .int x2)]), W p l e rmX3_hourOfReach s m args below meth c H locs 0 0 Z (F0 m 0 ls []) := by
  obtain ⟨hx, hb, hml, hown, hts, hK, hA⟩ := id cx
  intro A V x1 x2 h H locs ls hw hl
  refine lv_iconst (pc := 0) (v := (0 : Int32)) hx hb dX3_hourOfReach_0 (by decide) ?_
  refine lv_istore_n (pc := 1) (lv' := [(3, .int (0 : Int32)), (0, .ref (ad 0)), (1, .int x1), (2, .int x2)]) hx hb dX3_hourOfReach_1 rfl hl (by decide) rfl (fun ls hl => ?_)
  refine lv_iconst (pc := 2) (v := (0 : Int32)) hx hb dX3_hourOfReach_2 (by decide) ?_
  refine lv_istore (pc := 3) (lv' := [(4, .int (0 : Int32)), (3, .int (0 : Int32)), (0, .ref (ad 0)), (1, .int x1), (2, .int x2)]) hx hb dX3_hourOfReach_3 hl (by decide) rfl (fun ls hl => ?_)
  obtain ⟨n5, h⟩ := h
  exact wk_X3_hourOfReach_5 Q cx hret  n5 A V x1 x2 (0 : Int32) (0 : Int32) h _ _ _ hw (lv_sub hl [2, 3, 4, 1, 0] rfl)
def wpX3_hourOfReach (A : SA) (V : SV) (x1 : Int32) (x2 : Int32) (Q : Int32 → SA → SV → Prop) : Prop := wb_X3_hourOfReach_0 Q A V x1 x2
set_option maxHeartbeats 4000000 in
set_option maxRecDepth 100000 in
theorem metX3_hourOfReach (l : Launch) (D : va_G) (cI cZ : ClassId) (ad : Nat → Nat) (sz : Nat) (A : SA) (V : SV) (x1 : Int32) (x2 : Int32) (Q : Int32 → SA → SV → Prop) (h : wpX3_hourOfReach A V x1 x2 Q) : Met l yX3_hourOfReach wsX3_hourOfReach rmX3_hourOfReach (PcW D [(cI, .int), (cZ, .boolean)] (wO ad cI cZ A V) sz [.ref (ad 0), .int x1, .int x2]) (QiW D [(cI, .int), (cZ, .boolean)] (wO ad cI cZ A V) sz (fun u : SA × SV => (wO ad cI cZ u.1 u.2)) (fun r u => Q r u.1 u.2)) rmX3_hourOfReach.cells rmX3_hourOfReach.slots (va_A (wO ad cI cZ A V) sz) := by
  refine startI (plainFor_of_name (by decide)) rfl (Nat.le_of_ble_eq_true rfl) ?_
  intro p e s m args below meth c A0 Z cx hw hret ls hl
  exact wk_X3_hourOfReach_0 Q cx hret A V x1 x2 h _ _ _ hw hl
abbrev rmX3_binFact : Room := { frames := 3, cells := 0, slots := 0, locals := 63 }
theorem inX3_binFact_X0 : ∀ w ∈ wsX00, w ∈ wsX3_binFact := by decide +kernel
theorem inX3_binFact_X3 : ∀ w ∈ wsX30, w ∈ wsX3_binFact := by decide +kernel
theorem kX3_binFact_143 : Cond.fieldLink RX3 143 "DrownedPost$Bins" "filled" "[I" ∈ wsX3_binFact := by decide +kernel
theorem kX3_binFact_179 : Cond.fieldLink RX3 179 "DrownedPost$Bins" "height" "[I" ∈ wsX3_binFact := by decide +kernel
theorem kX3_binFact_182 : Cond.fieldLink RX3 182 "DrownedPost$Bins" "room" "[I" ∈ wsX3_binFact := by decide +kernel
theorem kX3_binFact_21 : Cond.fieldLink RX3 21 "DrownedPost$Office" "bins" "LDrownedPost$Bins;" ∈ wsX3_binFact := by decide +kernel
theorem kX3_binFact_35 : Cond.fieldLink RX3 35 "DrownedPost$Office" "letters" "LDrownedPost$Letters;" ∈ wsX3_binFact := by decide +kernel
def wb_X3_binFact_0 (Q : Int32 → SA → SV → Prop) (A : SA) (V : SV) (x1 : Int32) (x2 : Int32) : Prop := (wpX0_has A V x1 (fun r1 A2 V3 => ((¬ r1 = 0 → ((x2 = (0 : Int32) → (vp_in x1 10 ∧ Q (A2 1 x1.toNatClampNeg) A2 V3)) ∧ (¬ x2 = (0 : Int32) → ((x2 = (1 : Int32) → (vp_in x1 10 ∧ Q (A2 2 x1.toNatClampNeg) A2 V3)) ∧ (¬ x2 = (1 : Int32) → ((x2 = (2 : Int32) → (vp_in x1 10 ∧ Q (A2 3 x1.toNatClampNeg) A2 V3)) ∧ (¬ x2 = (2 : Int32) → ((x2 = (3 : Int32) → (wpX3_tideNow A2 V3 (fun r9 A10 V11 => (wpX0_isUnder A10 V11 x1 r9 (fun r12 A13 V14 => ((r12 = 0 → Q (0 : Int32) A13 V14) ∧ (¬ (r12 = 0) → Q (1 : Int32) A13 V14))))))) ∧ (¬ x2 = (3 : Int32) → ((x2 = (4 : Int32) → (wpX2_growthIn A2 V3 x1 (fun r17 A18 V19 => Q r17 A18 V19))) ∧ (¬ x2 = (4 : Int32) → Q (0 : Int32) A2 V3))))))))))) ∧ (r1 = 0 → Q (0 : Int32) A2 V3))))
set_option maxHeartbeats 4000000 in
set_option maxRecDepth 100000 in
theorem wk_X3_binFact_0 (Q : Int32 → SA → SV → Prop) (cx : CX RX3 cX3_binFact 3 wsX3_binFact D [(cI, .int), (cZ, .boolean)] p s m args c A0) (hret : ∀ (pc : Nat) (ls : Array Slot) (r : Int32) (u : SA × SV) (H : Heap) (locs : List Loc), narrow .int (.int r) = .int r → decode cX3_binFact pc = .ok (.ireturn, 1) → Q r u.1 u.2 → WS D s A0 (wO ad cI cZ u.1 u.2) H locs → W p l e rmX3_binFact s m args below meth c H locs rmX3_binFact.cells rmX3_binFact.slots Z (F0 m pc ls [.int r]))  : ∀ (A : SA) (V : SV) (x1 : Int32) (x2 : Int32) (h : wb_X3_binFact_0 Q A V x1 x2) (H : Heap) (locs : List Loc) (ls : Array Slot) (hw : WS D s A0 (wO ad cI cZ A V) H locs) (hl : lv_has ls 3 [(0, .ref (ad 0)), (1, .int x1), (2, .int x2)]), W p l e rmX3_binFact s m args below meth c H locs 0 0 Z (F0 m 0 ls []) := by
  obtain ⟨hx, hb, hml, hown, hts, hK, hA⟩ := id cx
  intro A V x1 x2 h H locs ls hw hl
  refine lv_aload_n (pc := 0) hx hb dX3_binFact_0 rfl (lv_at hl 0 rfl) ?_
  refine geO_X3_1 (pc := 1) cx inX3_binFact_X3 kX3_binFact_21 hw dX3_binFact_1 ?_
  refine lv_iload_n (pc := 4) hx hb dX3_binFact_4 rfl (lv_at hl 1 rfl) ?_
  refine callVi (pc := 5) (rest := []) (c1 := 0) (s1 := 0) cx hw hl (metX0_has l D cI cZ ad H.size A V x1 _ h) (fun hts => cwV 1 hts gX3_binFact_X0_has rfl rfl rfl (by decide +kernel) ⟨Nat.le_of_ble_eq_true rfl, Nat.le_of_ble_eq_true rfl⟩) SUB.rf [0, 1] rfl 2 (ci := 0) rfl rfl rfl (JN.rf) rfl rfl (Nat.le_of_ble_eq_true rfl) ⟨Nat.le_of_ble_eq_true rfl, Nat.le_of_ble_eq_true rfl⟩ rfl rfl dX3_binFact_5 (fun r1 u H locs h hw => ?_)
  obtain ⟨A2, V3⟩ := u
  refine lv_if_ne (pc := 8) (tgt := 13) hx hb dX3_binFact_8 (by decide) (fun c4 => ?_) (fun c4 => ?_)
  · have h := h.1 c4
    refine lv_iload_n (pc := 13) hx hb dX3_binFact_13 rfl (lv_at hl 2 rfl) ?_
    by_cases e5 : x2 = (0 : Int32)
    · have h := h.1 e5
      refine lv_tableIn (pc := 14) (off := 34) (tgt := 48) hx hb dX3_binFact_14 (by rw [e5]; decide) (by rw [e5]; decide) (by rw [e5]; rfl) (by decide) ?_
      refine lv_aload_n (pc := 48) hx hb dX3_binFact_48 rfl (lv_at hl 0 rfl) ?_
      refine geO_X3_1 (pc := 49) cx inX3_binFact_X3 kX3_binFact_21 hw dX3_binFact_49 ?_
      refine geO_X0_0 (pc := 52) cx inX3_binFact_X0 kX3_binFact_179 hw dX3_binFact_52 ?_
      refine lv_iload_n (pc := 55) hx hb dX3_binFact_55 rfl (lv_at hl 1 rfl) ?_
      refine alO_1 (pc := 56) cx hw h.1 dX3_binFact_56 ?_
      have h := h.2
      exact hret 57 _ _ (A2, V3) _ _ rfl dX3_binFact_57 h hw
    · have h := h.2 e5
      by_cases e6 : x2 = (1 : Int32)
      · have h := h.1 e6
        refine lv_tableIn (pc := 14) (off := 44) (tgt := 58) hx hb dX3_binFact_14 (by rw [e6]; decide) (by rw [e6]; decide) (by rw [e6]; rfl) (by decide) ?_
        refine lv_aload_n (pc := 58) hx hb dX3_binFact_58 rfl (lv_at hl 0 rfl) ?_
        refine geO_X3_1 (pc := 59) cx inX3_binFact_X3 kX3_binFact_21 hw dX3_binFact_59 ?_
        refine geO_X0_1 (pc := 62) cx inX3_binFact_X0 kX3_binFact_182 hw dX3_binFact_62 ?_
        refine lv_iload_n (pc := 65) hx hb dX3_binFact_65 rfl (lv_at hl 1 rfl) ?_
        refine alO_2 (pc := 66) cx hw h.1 dX3_binFact_66 ?_
        have h := h.2
        exact hret 67 _ _ (A2, V3) _ _ rfl dX3_binFact_67 h hw
      · have h := h.2 e6
        by_cases e7 : x2 = (2 : Int32)
        · have h := h.1 e7
          refine lv_tableIn (pc := 14) (off := 54) (tgt := 68) hx hb dX3_binFact_14 (by rw [e7]; decide) (by rw [e7]; decide) (by rw [e7]; rfl) (by decide) ?_
          refine lv_aload_n (pc := 68) hx hb dX3_binFact_68 rfl (lv_at hl 0 rfl) ?_
          refine geO_X3_1 (pc := 69) cx inX3_binFact_X3 kX3_binFact_21 hw dX3_binFact_69 ?_
          refine geO_X0_2 (pc := 72) cx inX3_binFact_X0 kX3_binFact_143 hw dX3_binFact_72 ?_
          refine lv_iload_n (pc := 75) hx hb dX3_binFact_75 rfl (lv_at hl 1 rfl) ?_
          refine alO_3 (pc := 76) cx hw h.1 dX3_binFact_76 ?_
          have h := h.2
          exact hret 77 _ _ (A2, V3) _ _ rfl dX3_binFact_77 h hw
        · have h := h.2 e7
          by_cases e8 : x2 = (3 : Int32)
          · have h := h.1 e8
            refine lv_tableIn (pc := 14) (off := 64) (tgt := 78) hx hb dX3_binFact_14 (by rw [e8]; decide) (by rw [e8]; decide) (by rw [e8]; rfl) (by decide) ?_
            refine lv_aload_n (pc := 78) hx hb dX3_binFact_78 rfl (lv_at hl 0 rfl) ?_
            refine geO_X3_1 (pc := 79) cx inX3_binFact_X3 kX3_binFact_21 hw dX3_binFact_79 ?_
            refine lv_iload_n (pc := 82) hx hb dX3_binFact_82 rfl (lv_at hl 1 rfl) ?_
            refine lv_aload_n (pc := 83) hx hb dX3_binFact_83 rfl (lv_at hl 0 rfl) ?_
            refine callVi (pc := 84) (rest := [.int x1, .ref (ad 2)]) (c1 := 0) (s1 := 0) cx hw hl (metX3_tideNow l D cI cZ ad H.size A2 V3 _ h) (fun hts => cwV 0 hts gX3_binFact_X3_tideNow rfl rfl rfl (by decide +kernel) ⟨Nat.le_of_ble_eq_true rfl, Nat.le_of_ble_eq_true rfl⟩) SUB.rf [0, 1] rfl 0 (ci := 3) rfl rfl rfl (JN.rf) rfl rfl (Nat.le_of_ble_eq_true rfl) ⟨Nat.le_of_ble_eq_true rfl, Nat.le_of_ble_eq_true rfl⟩ rfl rfl dX3_binFact_84 (fun r9 u H locs h hw => ?_)
            obtain ⟨A10, V11⟩ := u
            refine callVi (pc := 87) (rest := []) (c1 := 0) (s1 := 0) cx hw hl (metX0_isUnder l D cI cZ ad H.size A10 V11 x1 r9 _ h) (fun hts => cwV 2 hts gX3_binFact_X0_isUnder rfl rfl rfl (by decide +kernel) ⟨Nat.le_of_ble_eq_true rfl, Nat.le_of_ble_eq_true rfl⟩) SUB.rf [0, 1] rfl 2 (ci := 0) rfl rfl rfl (JN.rf) rfl rfl (Nat.le_of_ble_eq_true rfl) ⟨Nat.le_of_ble_eq_true rfl, Nat.le_of_ble_eq_true rfl⟩ rfl rfl dX3_binFact_87 (fun r12 u H locs h hw => ?_)
            obtain ⟨A13, V14⟩ := u
            refine lv_if_eq (pc := 90) (tgt := 97) hx hb dX3_binFact_90 (by decide) (fun c15 => ?_) (fun c15 => ?_)
            · have h := h.1 c15
              refine lv_iconst (pc := 97) (v := (0 : Int32)) hx hb dX3_binFact_97 (by decide) ?_
              exact hret 98 _ _ (A13, V14) _ _ rfl dX3_binFact_98 h hw
            · have h := h.2 c15
              refine lv_iconst (pc := 93) (v := (1 : Int32)) hx hb dX3_binFact_93 (by decide) ?_
              refine lv_goto (pc := 94) (tgt := 98) hx hb dX3_binFact_94 (by decide) ?_
              exact hret 98 _ _ (A13, V14) _ _ rfl dX3_binFact_98 h hw
          · have h := h.2 e8
            by_cases e16 : x2 = (4 : Int32)
            · have h := h.1 e16
              refine lv_tableIn (pc := 14) (off := 85) (tgt := 99) hx hb dX3_binFact_14 (by rw [e16]; decide) (by rw [e16]; decide) (by rw [e16]; rfl) (by decide) ?_
              refine lv_aload_n (pc := 99) hx hb dX3_binFact_99 rfl (lv_at hl 0 rfl) ?_
              refine geO_X3_3 (pc := 100) cx inX3_binFact_X3 kX3_binFact_35 hw dX3_binFact_100 ?_
              refine lv_iload_n (pc := 103) hx hb dX3_binFact_103 rfl (lv_at hl 1 rfl) ?_
              refine callVi (pc := 104) (rest := []) (c1 := 0) (s1 := 0) cx hw hl (metX2_growthIn l D cI cZ ad H.size A2 V3 x1 _ h) (fun hts => cwV 1 hts gX3_binFact_X2_growthIn rfl rfl rfl (by decide +kernel) ⟨Nat.le_of_ble_eq_true rfl, Nat.le_of_ble_eq_true rfl⟩) SUB.rf [0, 1] rfl 4 (ci := 2) rfl rfl rfl (JN.rf) rfl rfl (Nat.le_of_ble_eq_true rfl) ⟨Nat.le_of_ble_eq_true rfl, Nat.le_of_ble_eq_true rfl⟩ rfl rfl dX3_binFact_104 (fun r17 u H locs h hw => ?_)
              obtain ⟨A18, V19⟩ := u
              exact hret 107 _ _ (A18, V19) _ _ rfl dX3_binFact_107 h hw
            · have h := h.2 e16
              refine lv_tableOut (pc := 14) (tgt := 108) hx hb dX3_binFact_14 (tsw 4 (by decide) (fun i hi => match i, hi with | 0, _ => e5 | 1, _ => e6 | 2, _ => e7 | 3, _ => e8 | 4, _ => e16 | _ + 5, hi => absurd hi (by omega))) (by decide) ?_
              refine lv_iconst (pc := 108) (v := (0 : Int32)) hx hb dX3_binFact_108 (by decide) ?_
              exact hret 109 _ _ (A2, V3) _ _ rfl dX3_binFact_109 h hw
  · have h := h.2 c4
    refine lv_iconst (pc := 11) (v := (0 : Int32)) hx hb dX3_binFact_11 (by decide) ?_
    exact hret 12 _ _ (A2, V3) _ _ rfl dX3_binFact_12 h hw
def wpX3_binFact (A : SA) (V : SV) (x1 : Int32) (x2 : Int32) (Q : Int32 → SA → SV → Prop) : Prop := wb_X3_binFact_0 Q A V x1 x2
set_option maxHeartbeats 4000000 in
set_option maxRecDepth 100000 in
theorem metX3_binFact (l : Launch) (D : va_G) (cI cZ : ClassId) (ad : Nat → Nat) (sz : Nat) (A : SA) (V : SV) (x1 : Int32) (x2 : Int32) (Q : Int32 → SA → SV → Prop) (h : wpX3_binFact A V x1 x2 Q) : Met l yX3_binFact wsX3_binFact rmX3_binFact (PcW D [(cI, .int), (cZ, .boolean)] (wO ad cI cZ A V) sz [.ref (ad 0), .int x1, .int x2]) (QiW D [(cI, .int), (cZ, .boolean)] (wO ad cI cZ A V) sz (fun u : SA × SV => (wO ad cI cZ u.1 u.2)) (fun r u => Q r u.1 u.2)) rmX3_binFact.cells rmX3_binFact.slots (va_A (wO ad cI cZ A V) sz) := by
  refine startI (plainFor_of_name (by decide)) rfl (Nat.le_of_ble_eq_true rfl) ?_
  intro p e s m args below meth c A0 Z cx hw hret ls hl
  exact wk_X3_binFact_0 Q cx hret A V x1 x2 h _ _ _ hw hl
abbrev rmX3_total : Room := { frames := 1, cells := 0, slots := 0, locals := 23 }
theorem inX3_total_X0 : ∀ w ∈ wsX00, w ∈ wsX3_total := by decide +kernel
theorem inX3_total_X1 : ∀ w ∈ wsX10, w ∈ wsX3_total := by decide +kernel
theorem inX3_total_X2 : ∀ w ∈ wsX20, w ∈ wsX3_total := by decide +kernel
theorem inX3_total_X3 : ∀ w ∈ wsX30, w ∈ wsX3_total := by decide +kernel
theorem inX3_total_X4 : ∀ w ∈ wsX40, w ∈ wsX3_total := by decide +kernel
theorem kX3_total_12 : Cond.fieldLink RX3 12 "DrownedPost$Office" "tides" "LDrownedPost$Tides;" ∈ wsX3_total := by decide +kernel
theorem kX3_total_188 : Cond.fieldLink RX3 188 "DrownedPost$Bins" "count" "I" ∈ wsX3_total := by decide +kernel
theorem kX3_total_189 : Cond.fieldLink RX3 189 "DrownedPost$Drowned" "count" "I" ∈ wsX3_total := by decide +kernel
theorem kX3_total_190 : Cond.fieldLink RX3 190 "DrownedPost$Tides" "count" "I" ∈ wsX3_total := by decide +kernel
theorem kX3_total_21 : Cond.fieldLink RX3 21 "DrownedPost$Office" "bins" "LDrownedPost$Bins;" ∈ wsX3_total := by decide +kernel
theorem kX3_total_28 : Cond.fieldLink RX3 28 "DrownedPost$Office" "drowned" "LDrownedPost$Drowned;" ∈ wsX3_total := by decide +kernel
theorem kX3_total_35 : Cond.fieldLink RX3 35 "DrownedPost$Office" "letters" "LDrownedPost$Letters;" ∈ wsX3_total := by decide +kernel
theorem kX3_total_39 : Cond.fieldLink RX3 39 "DrownedPost$Office" "scrapers" "I" ∈ wsX3_total := by decide +kernel
theorem kX3_total_43 : Cond.fieldLink RX3 43 "DrownedPost$Office" "sorters" "I" ∈ wsX3_total := by decide +kernel
theorem kX3_total_67 : Cond.fieldLink RX3 67 "DrownedPost$Office" "hour" "I" ∈ wsX3_total := by decide +kernel
theorem kX3_total_84 : Cond.fieldLink RX3 84 "DrownedPost$Letters" "count" "I" ∈ wsX3_total := by decide +kernel
def wb_X3_total_0 (Q : Int32 → SA → SV → Prop) (A : SA) (V : SV) (x1 : Int32) : Prop := ((x1 = (0 : Int32) → Q (V 4) A V) ∧ (¬ x1 = (0 : Int32) → ((x1 = (1 : Int32) → Q (V 1) A V) ∧ (¬ x1 = (1 : Int32) → ((x1 = (2 : Int32) → Q (V 2) A V) ∧ (¬ x1 = (2 : Int32) → ((x1 = (3 : Int32) → Q (V 3) A V) ∧ (¬ x1 = (3 : Int32) → ((x1 = (4 : Int32) → (wpX2_inState A V (x1 - (4 : Int32)) (fun r6 A7 V8 => Q r6 A7 V8))) ∧ (¬ x1 = (4 : Int32) → ((x1 = (5 : Int32) → (wpX2_inState A V (x1 - (4 : Int32)) (fun r10 A11 V12 => Q r10 A11 V12))) ∧ (¬ x1 = (5 : Int32) → ((x1 = (6 : Int32) → (wpX2_inState A V (x1 - (4 : Int32)) (fun r14 A15 V16 => Q r14 A15 V16))) ∧ (¬ x1 = (6 : Int32) → ((x1 = (7 : Int32) → (wpX2_inState A V (x1 - (4 : Int32)) (fun r18 A19 V20 => Q r18 A19 V20))) ∧ (¬ x1 = (7 : Int32) → ((x1 = (8 : Int32) → (wpX2_inState A V (x1 - (4 : Int32)) (fun r22 A23 V24 => Q r22 A23 V24))) ∧ (¬ x1 = (8 : Int32) → ((x1 = (9 : Int32) → (wpX2_inState A V (x1 - (4 : Int32)) (fun r26 A27 V28 => Q r26 A27 V28))) ∧ (¬ x1 = (9 : Int32) → ((x1 = (10 : Int32) → Q (V 0) A V) ∧ (¬ x1 = (10 : Int32) → ((x1 = (11 : Int32) → Q (V 5) A V) ∧ (¬ x1 = (11 : Int32) → ((x1 = (12 : Int32) → Q (V 6) A V) ∧ (¬ x1 = (12 : Int32) → (wpX2_inState A V (x1 - (4 : Int32)) (fun r32 A33 V34 => Q r32 A33 V34))))))))))))))))))))))))))))
set_option maxHeartbeats 4000000 in
set_option maxRecDepth 100000 in
theorem wk_X3_total_0 (Q : Int32 → SA → SV → Prop) (cx : CX RX3 cX3_total 2 wsX3_total D [(cI, .int), (cZ, .boolean)] p s m args c A0) (hret : ∀ (pc : Nat) (ls : Array Slot) (r : Int32) (u : SA × SV) (H : Heap) (locs : List Loc), narrow .int (.int r) = .int r → decode cX3_total pc = .ok (.ireturn, 1) → Q r u.1 u.2 → WS D s A0 (wO ad cI cZ u.1 u.2) H locs → W p l e rmX3_total s m args below meth c H locs rmX3_total.cells rmX3_total.slots Z (F0 m pc ls [.int r]))  : ∀ (A : SA) (V : SV) (x1 : Int32) (h : wb_X3_total_0 Q A V x1) (H : Heap) (locs : List Loc) (ls : Array Slot) (hw : WS D s A0 (wO ad cI cZ A V) H locs) (hl : lv_has ls 2 [(0, .ref (ad 0)), (1, .int x1)]), W p l e rmX3_total s m args below meth c H locs 0 0 Z (F0 m 0 ls []) := by
  obtain ⟨hx, hb, hml, hown, hts, hK, hA⟩ := id cx
  intro A V x1 h H locs ls hw hl
  refine lv_iload_n (pc := 0) hx hb dX3_total_0 rfl (lv_at hl 1 rfl) ?_
  by_cases e1 : x1 = (0 : Int32)
  · have h := h.1 e1
    refine lv_tableIn (pc := 1) (off := 67) (tgt := 68) hx hb dX3_total_1 (by rw [e1]; decide) (by rw [e1]; decide) (by rw [e1]; rfl) (by decide) ?_
    refine lv_aload_n (pc := 68) hx hb dX3_total_68 rfl (lv_at hl 0 rfl) ?_
    refine geO_X3_4 (pc := 69) cx inX3_total_X3 kX3_total_67 hw dX3_total_69 ?_
    exact hret 72 _ _ (A, V) _ _ rfl dX3_total_72 h hw
  · have h := h.2 e1
    by_cases e2 : x1 = (1 : Int32)
    · have h := h.1 e2
      refine lv_tableIn (pc := 1) (off := 72) (tgt := 73) hx hb dX3_total_1 (by rw [e2]; decide) (by rw [e2]; decide) (by rw [e2]; rfl) (by decide) ?_
      refine lv_aload_n (pc := 73) hx hb dX3_total_73 rfl (lv_at hl 0 rfl) ?_
      refine geO_X3_1 (pc := 74) cx inX3_total_X3 kX3_total_21 hw dX3_total_74 ?_
      refine geO_X0_3 (pc := 77) cx inX3_total_X0 kX3_total_188 hw dX3_total_77 ?_
      exact hret 80 _ _ (A, V) _ _ rfl dX3_total_80 h hw
    · have h := h.2 e2
      by_cases e3 : x1 = (2 : Int32)
      · have h := h.1 e3
        refine lv_tableIn (pc := 1) (off := 80) (tgt := 81) hx hb dX3_total_1 (by rw [e3]; decide) (by rw [e3]; decide) (by rw [e3]; rfl) (by decide) ?_
        refine lv_aload_n (pc := 81) hx hb dX3_total_81 rfl (lv_at hl 0 rfl) ?_
        refine geO_X3_2 (pc := 82) cx inX3_total_X3 kX3_total_28 hw dX3_total_82 ?_
        refine geO_X1_5 (pc := 85) cx inX3_total_X1 kX3_total_189 hw dX3_total_85 ?_
        exact hret 88 _ _ (A, V) _ _ rfl dX3_total_88 h hw
      · have h := h.2 e3
        by_cases e4 : x1 = (3 : Int32)
        · have h := h.1 e4
          refine lv_tableIn (pc := 1) (off := 88) (tgt := 89) hx hb dX3_total_1 (by rw [e4]; decide) (by rw [e4]; decide) (by rw [e4]; rfl) (by decide) ?_
          refine lv_aload_n (pc := 89) hx hb dX3_total_89 rfl (lv_at hl 0 rfl) ?_
          refine geO_X3_3 (pc := 90) cx inX3_total_X3 kX3_total_35 hw dX3_total_90 ?_
          refine geO_X2_9 (pc := 93) cx inX3_total_X2 kX3_total_84 hw dX3_total_93 ?_
          exact hret 96 _ _ (A, V) _ _ rfl dX3_total_96 h hw
        · have h := h.2 e4
          by_cases e5 : x1 = (4 : Int32)
          · have h := h.1 e5
            refine lv_tableIn (pc := 1) (off := 114) (tgt := 115) hx hb dX3_total_1 (by rw [e5]; decide) (by rw [e5]; decide) (by rw [e5]; rfl) (by decide) ?_
            refine lv_aload_n (pc := 115) hx hb dX3_total_115 rfl (lv_at hl 0 rfl) ?_
            refine geO_X3_3 (pc := 116) cx inX3_total_X3 kX3_total_35 hw dX3_total_116 ?_
            refine lv_iload_n (pc := 119) hx hb dX3_total_119 rfl (lv_at hl 1 rfl) ?_
            refine lv_iconst (pc := 120) (v := (4 : Int32)) hx hb dX3_total_120 (by decide) ?_
            refine lv_isub (pc := 121) hx hb dX3_total_121 ?_
            refine callVi (pc := 122) (rest := []) (c1 := 0) (s1 := 0) cx hw hl (metX2_inState l D cI cZ ad H.size A V (x1 - (4 : Int32)) _ h) (fun hts => cwV 1 hts gX3_total_X2_inState rfl rfl rfl (by decide +kernel) ⟨Nat.le_of_ble_eq_true rfl, Nat.le_of_ble_eq_true rfl⟩) SUB.rf [0, 1] rfl 4 (ci := 2) rfl rfl rfl (JN.rf) rfl rfl (Nat.le_of_ble_eq_true rfl) ⟨Nat.le_of_ble_eq_true rfl, Nat.le_of_ble_eq_true rfl⟩ rfl rfl dX3_total_122 (fun r6 u H locs h hw => ?_)
            obtain ⟨A7, V8⟩ := u
            exact hret 125 _ _ (A7, V8) _ _ rfl dX3_total_125 h hw
          · have h := h.2 e5
            by_cases e9 : x1 = (5 : Int32)
            · have h := h.1 e9
              refine lv_tableIn (pc := 1) (off := 114) (tgt := 115) hx hb dX3_total_1 (by rw [e9]; decide) (by rw [e9]; decide) (by rw [e9]; rfl) (by decide) ?_
              refine lv_aload_n (pc := 115) hx hb dX3_total_115 rfl (lv_at hl 0 rfl) ?_
              refine geO_X3_3 (pc := 116) cx inX3_total_X3 kX3_total_35 hw dX3_total_116 ?_
              refine lv_iload_n (pc := 119) hx hb dX3_total_119 rfl (lv_at hl 1 rfl) ?_
              refine lv_iconst (pc := 120) (v := (4 : Int32)) hx hb dX3_total_120 (by decide) ?_
              refine lv_isub (pc := 121) hx hb dX3_total_121 ?_
              refine callVi (pc := 122) (rest := []) (c1 := 0) (s1 := 0) cx hw hl (metX2_inState l D cI cZ ad H.size A V (x1 - (4 : Int32)) _ h) (fun hts => cwV 1 hts gX3_total_X2_inState rfl rfl rfl (by decide +kernel) ⟨Nat.le_of_ble_eq_true rfl, Nat.le_of_ble_eq_true rfl⟩) SUB.rf [0, 1] rfl 4 (ci := 2) rfl rfl rfl (JN.rf) rfl rfl (Nat.le_of_ble_eq_true rfl) ⟨Nat.le_of_ble_eq_true rfl, Nat.le_of_ble_eq_true rfl⟩ rfl rfl dX3_total_122 (fun r10 u H locs h hw => ?_)
              obtain ⟨A11, V12⟩ := u
              exact hret 125 _ _ (A11, V12) _ _ rfl dX3_total_125 h hw
            · have h := h.2 e9
              by_cases e13 : x1 = (6 : Int32)
              · have h := h.1 e13
                refine lv_tableIn (pc := 1) (off := 114) (tgt := 115) hx hb dX3_total_1 (by rw [e13]; decide) (by rw [e13]; decide) (by rw [e13]; rfl) (by decide) ?_
                refine lv_aload_n (pc := 115) hx hb dX3_total_115 rfl (lv_at hl 0 rfl) ?_
                refine geO_X3_3 (pc := 116) cx inX3_total_X3 kX3_total_35 hw dX3_total_116 ?_
                refine lv_iload_n (pc := 119) hx hb dX3_total_119 rfl (lv_at hl 1 rfl) ?_
                refine lv_iconst (pc := 120) (v := (4 : Int32)) hx hb dX3_total_120 (by decide) ?_
                refine lv_isub (pc := 121) hx hb dX3_total_121 ?_
                refine callVi (pc := 122) (rest := []) (c1 := 0) (s1 := 0) cx hw hl (metX2_inState l D cI cZ ad H.size A V (x1 - (4 : Int32)) _ h) (fun hts => cwV 1 hts gX3_total_X2_inState rfl rfl rfl (by decide +kernel) ⟨Nat.le_of_ble_eq_true rfl, Nat.le_of_ble_eq_true rfl⟩) SUB.rf [0, 1] rfl 4 (ci := 2) rfl rfl rfl (JN.rf) rfl rfl (Nat.le_of_ble_eq_true rfl) ⟨Nat.le_of_ble_eq_true rfl, Nat.le_of_ble_eq_true rfl⟩ rfl rfl dX3_total_122 (fun r14 u H locs h hw => ?_)
                obtain ⟨A15, V16⟩ := u
                exact hret 125 _ _ (A15, V16) _ _ rfl dX3_total_125 h hw
              · have h := h.2 e13
                by_cases e17 : x1 = (7 : Int32)
                · have h := h.1 e17
                  refine lv_tableIn (pc := 1) (off := 114) (tgt := 115) hx hb dX3_total_1 (by rw [e17]; decide) (by rw [e17]; decide) (by rw [e17]; rfl) (by decide) ?_
                  refine lv_aload_n (pc := 115) hx hb dX3_total_115 rfl (lv_at hl 0 rfl) ?_
                  refine geO_X3_3 (pc := 116) cx inX3_total_X3 kX3_total_35 hw dX3_total_116 ?_
                  refine lv_iload_n (pc := 119) hx hb dX3_total_119 rfl (lv_at hl 1 rfl) ?_
                  refine lv_iconst (pc := 120) (v := (4 : Int32)) hx hb dX3_total_120 (by decide) ?_
                  refine lv_isub (pc := 121) hx hb dX3_total_121 ?_
                  refine callVi (pc := 122) (rest := []) (c1 := 0) (s1 := 0) cx hw hl (metX2_inState l D cI cZ ad H.size A V (x1 - (4 : Int32)) _ h) (fun hts => cwV 1 hts gX3_total_X2_inState rfl rfl rfl (by decide +kernel) ⟨Nat.le_of_ble_eq_true rfl, Nat.le_of_ble_eq_true rfl⟩) SUB.rf [0, 1] rfl 4 (ci := 2) rfl rfl rfl (JN.rf) rfl rfl (Nat.le_of_ble_eq_true rfl) ⟨Nat.le_of_ble_eq_true rfl, Nat.le_of_ble_eq_true rfl⟩ rfl rfl dX3_total_122 (fun r18 u H locs h hw => ?_)
                  obtain ⟨A19, V20⟩ := u
                  exact hret 125 _ _ (A19, V20) _ _ rfl dX3_total_125 h hw
                · have h := h.2 e17
                  by_cases e21 : x1 = (8 : Int32)
                  · have h := h.1 e21
                    refine lv_tableIn (pc := 1) (off := 114) (tgt := 115) hx hb dX3_total_1 (by rw [e21]; decide) (by rw [e21]; decide) (by rw [e21]; rfl) (by decide) ?_
                    refine lv_aload_n (pc := 115) hx hb dX3_total_115 rfl (lv_at hl 0 rfl) ?_
                    refine geO_X3_3 (pc := 116) cx inX3_total_X3 kX3_total_35 hw dX3_total_116 ?_
                    refine lv_iload_n (pc := 119) hx hb dX3_total_119 rfl (lv_at hl 1 rfl) ?_
                    refine lv_iconst (pc := 120) (v := (4 : Int32)) hx hb dX3_total_120 (by decide) ?_
                    refine lv_isub (pc := 121) hx hb dX3_total_121 ?_
                    refine callVi (pc := 122) (rest := []) (c1 := 0) (s1 := 0) cx hw hl (metX2_inState l D cI cZ ad H.size A V (x1 - (4 : Int32)) _ h) (fun hts => cwV 1 hts gX3_total_X2_inState rfl rfl rfl (by decide +kernel) ⟨Nat.le_of_ble_eq_true rfl, Nat.le_of_ble_eq_true rfl⟩) SUB.rf [0, 1] rfl 4 (ci := 2) rfl rfl rfl (JN.rf) rfl rfl (Nat.le_of_ble_eq_true rfl) ⟨Nat.le_of_ble_eq_true rfl, Nat.le_of_ble_eq_true rfl⟩ rfl rfl dX3_total_122 (fun r22 u H locs h hw => ?_)
                    obtain ⟨A23, V24⟩ := u
                    exact hret 125 _ _ (A23, V24) _ _ rfl dX3_total_125 h hw
                  · have h := h.2 e21
                    by_cases e25 : x1 = (9 : Int32)
                    · have h := h.1 e25
                      refine lv_tableIn (pc := 1) (off := 114) (tgt := 115) hx hb dX3_total_1 (by rw [e25]; decide) (by rw [e25]; decide) (by rw [e25]; rfl) (by decide) ?_
                      refine lv_aload_n (pc := 115) hx hb dX3_total_115 rfl (lv_at hl 0 rfl) ?_
                      refine geO_X3_3 (pc := 116) cx inX3_total_X3 kX3_total_35 hw dX3_total_116 ?_
                      refine lv_iload_n (pc := 119) hx hb dX3_total_119 rfl (lv_at hl 1 rfl) ?_
                      refine lv_iconst (pc := 120) (v := (4 : Int32)) hx hb dX3_total_120 (by decide) ?_
                      refine lv_isub (pc := 121) hx hb dX3_total_121 ?_
                      refine callVi (pc := 122) (rest := []) (c1 := 0) (s1 := 0) cx hw hl (metX2_inState l D cI cZ ad H.size A V (x1 - (4 : Int32)) _ h) (fun hts => cwV 1 hts gX3_total_X2_inState rfl rfl rfl (by decide +kernel) ⟨Nat.le_of_ble_eq_true rfl, Nat.le_of_ble_eq_true rfl⟩) SUB.rf [0, 1] rfl 4 (ci := 2) rfl rfl rfl (JN.rf) rfl rfl (Nat.le_of_ble_eq_true rfl) ⟨Nat.le_of_ble_eq_true rfl, Nat.le_of_ble_eq_true rfl⟩ rfl rfl dX3_total_122 (fun r26 u H locs h hw => ?_)
                      obtain ⟨A27, V28⟩ := u
                      exact hret 125 _ _ (A27, V28) _ _ rfl dX3_total_125 h hw
                    · have h := h.2 e25
                      by_cases e29 : x1 = (10 : Int32)
                      · have h := h.1 e29
                        refine lv_tableIn (pc := 1) (off := 96) (tgt := 97) hx hb dX3_total_1 (by rw [e29]; decide) (by rw [e29]; decide) (by rw [e29]; rfl) (by decide) ?_
                        refine lv_aload_n (pc := 97) hx hb dX3_total_97 rfl (lv_at hl 0 rfl) ?_
                        refine geO_X3_0 (pc := 98) cx inX3_total_X3 kX3_total_12 hw dX3_total_98 ?_
                        refine geO_X4_1 (pc := 101) cx inX3_total_X4 kX3_total_190 hw dX3_total_101 ?_
                        exact hret 104 _ _ (A, V) _ _ rfl dX3_total_104 h hw
                      · have h := h.2 e29
                        by_cases e30 : x1 = (11 : Int32)
                        · have h := h.1 e30
                          refine lv_tableIn (pc := 1) (off := 104) (tgt := 105) hx hb dX3_total_1 (by rw [e30]; decide) (by rw [e30]; decide) (by rw [e30]; rfl) (by decide) ?_
                          refine lv_aload_n (pc := 105) hx hb dX3_total_105 rfl (lv_at hl 0 rfl) ?_
                          refine geO_X3_5 (pc := 106) cx inX3_total_X3 kX3_total_39 hw dX3_total_106 ?_
                          exact hret 109 _ _ (A, V) _ _ rfl dX3_total_109 h hw
                        · have h := h.2 e30
                          by_cases e31 : x1 = (12 : Int32)
                          · have h := h.1 e31
                            refine lv_tableIn (pc := 1) (off := 109) (tgt := 110) hx hb dX3_total_1 (by rw [e31]; decide) (by rw [e31]; decide) (by rw [e31]; rfl) (by decide) ?_
                            refine lv_aload_n (pc := 110) hx hb dX3_total_110 rfl (lv_at hl 0 rfl) ?_
                            refine geO_X3_6 (pc := 111) cx inX3_total_X3 kX3_total_43 hw dX3_total_111 ?_
                            exact hret 114 _ _ (A, V) _ _ rfl dX3_total_114 h hw
                          · have h := h.2 e31
                            refine lv_tableOut (pc := 1) (tgt := 115) hx hb dX3_total_1 (tsw 12 (by decide) (fun i hi => match i, hi with | 0, _ => e1 | 1, _ => e2 | 2, _ => e3 | 3, _ => e4 | 4, _ => e5 | 5, _ => e9 | 6, _ => e13 | 7, _ => e17 | 8, _ => e21 | 9, _ => e25 | 10, _ => e29 | 11, _ => e30 | 12, _ => e31 | _ + 13, hi => absurd hi (by omega))) (by decide) ?_
                            refine lv_aload_n (pc := 115) hx hb dX3_total_115 rfl (lv_at hl 0 rfl) ?_
                            refine geO_X3_3 (pc := 116) cx inX3_total_X3 kX3_total_35 hw dX3_total_116 ?_
                            refine lv_iload_n (pc := 119) hx hb dX3_total_119 rfl (lv_at hl 1 rfl) ?_
                            refine lv_iconst (pc := 120) (v := (4 : Int32)) hx hb dX3_total_120 (by decide) ?_
                            refine lv_isub (pc := 121) hx hb dX3_total_121 ?_
                            refine callVi (pc := 122) (rest := []) (c1 := 0) (s1 := 0) cx hw hl (metX2_inState l D cI cZ ad H.size A V (x1 - (4 : Int32)) _ h) (fun hts => cwV 1 hts gX3_total_X2_inState rfl rfl rfl (by decide +kernel) ⟨Nat.le_of_ble_eq_true rfl, Nat.le_of_ble_eq_true rfl⟩) SUB.rf [0, 1] rfl 4 (ci := 2) rfl rfl rfl (JN.rf) rfl rfl (Nat.le_of_ble_eq_true rfl) ⟨Nat.le_of_ble_eq_true rfl, Nat.le_of_ble_eq_true rfl⟩ rfl rfl dX3_total_122 (fun r32 u H locs h hw => ?_)
                            obtain ⟨A33, V34⟩ := u
                            exact hret 125 _ _ (A33, V34) _ _ rfl dX3_total_125 h hw
def wpX3_total (A : SA) (V : SV) (x1 : Int32) (Q : Int32 → SA → SV → Prop) : Prop := wb_X3_total_0 Q A V x1
set_option maxHeartbeats 4000000 in
set_option maxRecDepth 100000 in
theorem metX3_total (l : Launch) (D : va_G) (cI cZ : ClassId) (ad : Nat → Nat) (sz : Nat) (A : SA) (V : SV) (x1 : Int32) (Q : Int32 → SA → SV → Prop) (h : wpX3_total A V x1 Q) : Met l yX3_total wsX3_total rmX3_total (PcW D [(cI, .int), (cZ, .boolean)] (wO ad cI cZ A V) sz [.ref (ad 0), .int x1]) (QiW D [(cI, .int), (cZ, .boolean)] (wO ad cI cZ A V) sz (fun u : SA × SV => (wO ad cI cZ u.1 u.2)) (fun r u => Q r u.1 u.2)) rmX3_total.cells rmX3_total.slots (va_A (wO ad cI cZ A V) sz) := by
  refine startI (plainFor_of_name (by decide)) rfl (Nat.le_of_ble_eq_true rfl) ?_
  intro p e s m args below meth c A0 Z cx hw hret ls hl
  exact wk_X3_total_0 Q cx hret A V x1 h _ _ _ hw hl
abbrev rmX4_begin : Room := { frames := 0, cells := 0, slots := 0, locals := 0 }
theorem inX4_begin_X4 : ∀ w ∈ wsX40, w ∈ wsX4_begin := by decide +kernel
theorem kX4_begin_18 : Cond.fieldLink RX4 18 "DrownedPost$Tides" "count" "I" ∈ wsX4_begin := by decide +kernel
theorem kX4_begin_9 : Cond.fieldLink RX4 9 "DrownedPost$Tides" "heights" "[I" ∈ wsX4_begin := by decide +kernel
def wb_X4_begin_0 (Q : SA → SV → Prop) (A : SA) (V : SV) (x1 : Int32) : Prop := (vp_in (0 : Int32) 30 ∧ (∀ A1 : SA, A1 = up A 0 (0 : Int32).toNatClampNeg x1 → (∀ V2 : SV, V2 = uv V 0 (1 : Int32) → Q A1 V2)))
set_option maxHeartbeats 4000000 in
set_option maxRecDepth 100000 in
theorem wk_X4_begin_0 (Q : SA → SV → Prop) (cx : CX RX4 cX4_begin 2 wsX4_begin D [(cI, .int), (cZ, .boolean)] p s m args c A0) (hret : ∀ (pc : Nat) (ls : Array Slot) (u : SA × SV) (H : Heap) (locs : List Loc), decode cX4_begin pc = .ok (.return_, 1) → Q u.1 u.2 → WS D s A0 (wO ad cI cZ u.1 u.2) H locs → W p l e rmX4_begin s m args below meth c H locs rmX4_begin.cells rmX4_begin.slots Z (F0 m pc ls []))  : ∀ (A : SA) (V : SV) (x1 : Int32) (h : wb_X4_begin_0 Q A V x1) (H : Heap) (locs : List Loc) (ls : Array Slot) (hw : WS D s A0 (wO ad cI cZ A V) H locs) (hl : lv_has ls 2 [(0, .ref (ad 1)), (1, .int x1)]), W p l e rmX4_begin s m args below meth c H locs 0 0 Z (F0 m 0 ls []) := by
  obtain ⟨hx, hb, hml, hown, hts, hK, hA⟩ := id cx
  intro A V x1 h H locs ls hw hl
  refine lv_aload_n (pc := 0) hx hb dX4_begin_0 rfl (lv_at hl 0 rfl) ?_
  refine geO_X4_0 (pc := 1) cx inX4_begin_X4 kX4_begin_9 hw dX4_begin_1 ?_
  refine lv_iconst (pc := 4) (v := (0 : Int32)) hx hb dX4_begin_4 (by decide) ?_
  refine lv_iload_n (pc := 5) hx hb dX4_begin_5 rfl (lv_at hl 1 rfl) ?_
  refine asO_0 (pc := 6) cx hw h.1 dX4_begin_6 (fun A1 eA1 H locs hw => ?_)
  have h := h.2 A1 eA1
  refine lv_aload_n (pc := 7) hx hb dX4_begin_7 rfl (lv_at hl 0 rfl) ?_
  refine lv_iconst (pc := 8) (v := (1 : Int32)) hx hb dX4_begin_8 (by decide) ?_
  refine puO_X4_1 (pc := 9) cx inX4_begin_X4 kX4_begin_18 hw dX4_begin_9 (fun V2 eV2 H locs hw => ?_)
  have h := h V2 eV2
  exact hret 12 _ (A1, V2) _ _ dX4_begin_12 h hw
def wpX4_begin (A : SA) (V : SV) (x1 : Int32) (Q : SA → SV → Prop) : Prop := wb_X4_begin_0 Q A V x1
set_option maxHeartbeats 4000000 in
set_option maxRecDepth 100000 in
theorem metX4_begin (l : Launch) (D : va_G) (cI cZ : ClassId) (ad : Nat → Nat) (sz : Nat) (A : SA) (V : SV) (x1 : Int32) (Q : SA → SV → Prop) (h : wpX4_begin A V x1 Q) : Met l yX4_begin wsX4_begin rmX4_begin (PcW D [(cI, .int), (cZ, .boolean)] (wO ad cI cZ A V) sz [.ref (ad 1), .int x1]) (QvW D [(cI, .int), (cZ, .boolean)] (wO ad cI cZ A V) sz (fun u : SA × SV => (wO ad cI cZ u.1 u.2)) (fun u => Q u.1 u.2)) rmX4_begin.cells rmX4_begin.slots (va_A (wO ad cI cZ A V) sz) := by
  refine startV (plainFor_of_name (by decide)) rfl (Nat.le_of_ble_eq_true rfl) ?_
  intro p e s m args below meth c A0 Z cx hw hret ls hl
  exact wk_X4_begin_0 Q cx hret A V x1 h _ _ _ hw hl
abbrev rmX4_append : Room := { frames := 0, cells := 0, slots := 0, locals := 0 }
theorem inX4_append_X4 : ∀ w ∈ wsX40, w ∈ wsX4_append := by decide +kernel
theorem kX4_append_18 : Cond.fieldLink RX4 18 "DrownedPost$Tides" "count" "I" ∈ wsX4_append := by decide +kernel
theorem kX4_append_9 : Cond.fieldLink RX4 9 "DrownedPost$Tides" "heights" "[I" ∈ wsX4_append := by decide +kernel
def wb_X4_append_0 (Q : SA → SV → Prop) (A : SA) (V : SV) (x1 : Int32) : Prop := (((30 : Int32) ≤ (V 0) → Q A V) ∧ (¬ ((30 : Int32) ≤ (V 0)) → (vp_in (V 0) 30 ∧ (∀ A2 : SA, A2 = up A 0 (V 0).toNatClampNeg x1 → (∀ V3 : SV, V3 = uv V 0 ((V 0) + (1 : Int32)) → Q A2 V3)))))
set_option maxHeartbeats 4000000 in
set_option maxRecDepth 100000 in
theorem wk_X4_append_0 (Q : SA → SV → Prop) (cx : CX RX4 cX4_append 2 wsX4_append D [(cI, .int), (cZ, .boolean)] p s m args c A0) (hret : ∀ (pc : Nat) (ls : Array Slot) (u : SA × SV) (H : Heap) (locs : List Loc), decode cX4_append pc = .ok (.return_, 1) → Q u.1 u.2 → WS D s A0 (wO ad cI cZ u.1 u.2) H locs → W p l e rmX4_append s m args below meth c H locs rmX4_append.cells rmX4_append.slots Z (F0 m pc ls []))  : ∀ (A : SA) (V : SV) (x1 : Int32) (h : wb_X4_append_0 Q A V x1) (H : Heap) (locs : List Loc) (ls : Array Slot) (hw : WS D s A0 (wO ad cI cZ A V) H locs) (hl : lv_has ls 2 [(0, .ref (ad 1)), (1, .int x1)]), W p l e rmX4_append s m args below meth c H locs 0 0 Z (F0 m 0 ls []) := by
  obtain ⟨hx, hb, hml, hown, hts, hK, hA⟩ := id cx
  intro A V x1 h H locs ls hw hl
  refine lv_aload_n (pc := 0) hx hb dX4_append_0 rfl (lv_at hl 0 rfl) ?_
  refine geO_X4_1 (pc := 1) cx inX4_append_X4 kX4_append_18 hw dX4_append_1 ?_
  refine lv_bipush (pc := 4) (v := (30 : Int32)) hx hb dX4_append_4 (by decide) ?_
  refine lv_icmp_ge (pc := 6) (tgt := 29) hx hb dX4_append_6 (by decide) (fun c1 => ?_) (fun c1 => ?_)
  · have h := h.1 c1
    exact hret 29 _ (A, V) _ _ dX4_append_29 h hw
  · have h := h.2 c1
    refine lv_aload_n (pc := 9) hx hb dX4_append_9 rfl (lv_at hl 0 rfl) ?_
    refine geO_X4_0 (pc := 10) cx inX4_append_X4 kX4_append_9 hw dX4_append_10 ?_
    refine lv_aload_n (pc := 13) hx hb dX4_append_13 rfl (lv_at hl 0 rfl) ?_
    refine geO_X4_1 (pc := 14) cx inX4_append_X4 kX4_append_18 hw dX4_append_14 ?_
    refine lv_iload_n (pc := 17) hx hb dX4_append_17 rfl (lv_at hl 1 rfl) ?_
    refine asO_0 (pc := 18) cx hw h.1 dX4_append_18 (fun A2 eA2 H locs hw => ?_)
    have h := h.2 A2 eA2
    refine lv_aload_n (pc := 19) hx hb dX4_append_19 rfl (lv_at hl 0 rfl) ?_
    refine lv_dup (pc := 20) hx hb dX4_append_20 rfl ?_
    refine geO_X4_1 (pc := 21) cx inX4_append_X4 kX4_append_18 hw dX4_append_21 ?_
    refine lv_iconst (pc := 24) (v := (1 : Int32)) hx hb dX4_append_24 (by decide) ?_
    refine lv_iadd (pc := 25) hx hb dX4_append_25 ?_
    refine puO_X4_1 (pc := 26) cx inX4_append_X4 kX4_append_18 hw dX4_append_26 (fun V3 eV3 H locs hw => ?_)
    have h := h V3 eV3
    exact hret 29 _ (A2, V3) _ _ dX4_append_29 h hw
def wpX4_append (A : SA) (V : SV) (x1 : Int32) (Q : SA → SV → Prop) : Prop := wb_X4_append_0 Q A V x1
set_option maxHeartbeats 4000000 in
set_option maxRecDepth 100000 in
theorem metX4_append (l : Launch) (D : va_G) (cI cZ : ClassId) (ad : Nat → Nat) (sz : Nat) (A : SA) (V : SV) (x1 : Int32) (Q : SA → SV → Prop) (h : wpX4_append A V x1 Q) : Met l yX4_append wsX4_append rmX4_append (PcW D [(cI, .int), (cZ, .boolean)] (wO ad cI cZ A V) sz [.ref (ad 1), .int x1]) (QvW D [(cI, .int), (cZ, .boolean)] (wO ad cI cZ A V) sz (fun u : SA × SV => (wO ad cI cZ u.1 u.2)) (fun u => Q u.1 u.2)) rmX4_append.cells rmX4_append.slots (va_A (wO ad cI cZ A V) sz) := by
  refine startV (plainFor_of_name (by decide)) rfl (Nat.le_of_ble_eq_true rfl) ?_
  intro p e s m args below meth c A0 Z cx hw hret ls hl
  exact wk_X4_append_0 Q cx hret A V x1 h _ _ _ hw hl
abbrev rmX4_digestFrom : Room := { frames := 0, cells := 0, slots := 0, locals := 0 }
theorem inX4_digestFrom_X4 : ∀ w ∈ wsX40, w ∈ wsX4_digestFrom := by decide +kernel
theorem kX4_digestFrom_18 : Cond.fieldLink RX4 18 "DrownedPost$Tides" "count" "I" ∈ wsX4_digestFrom := by decide +kernel
theorem kX4_digestFrom_9 : Cond.fieldLink RX4 9 "DrownedPost$Tides" "heights" "[I" ∈ wsX4_digestFrom := by decide +kernel
theorem kX4_digestFrom_w_constantLong_RX4_34__31_ : Cond.constantLong RX4 34 (31) ∈ wsX4_digestFrom := by decide +kernel
def wl_X4_digestFrom_5 (Q : Int64 → SA → SV → Prop) : Nat → SA → SV → Int64 → Int32 → Prop
  | 0, _, _, _, _ => False
  | n + 1, A, V, x3, x5 => (((V 0) ≤ x5 → Q x3 A V) ∧ (¬ ((V 0) ≤ x5) → (vp_in x5 30 ∧ wl_X4_digestFrom_5 Q n A V ((x3 * (31 : Int64)) + ((A 0 x5.toNatClampNeg).toInt64)) (x5 + 1))))
set_option maxHeartbeats 4000000 in
set_option maxRecDepth 100000 in
theorem wk_X4_digestFrom_5 (Q : Int64 → SA → SV → Prop) (cx : CX RX4 cX4_digestFrom 6 wsX4_digestFrom D [(cI, .int), (cZ, .boolean)] p s m args c A0) (hret : ∀ (pc : Nat) (ls : Array Slot) (r : Int64) (u : SA × SV) (H : Heap) (locs : List Loc), decode cX4_digestFrom pc = .ok (.lreturn, 1) → Q r u.1 u.2 → WS D s A0 (wO ad cI cZ u.1 u.2) H locs → W p l e rmX4_digestFrom s m args below meth c H locs rmX4_digestFrom.cells rmX4_digestFrom.slots Z (F0 m pc ls [.long r]))  : ∀ (n : Nat) (A : SA) (V : SV) (x3 : Int64) (x5 : Int32) (h : wl_X4_digestFrom_5 Q n A V x3 x5) (H : Heap) (locs : List Loc) (ls : Array Slot) (hw : WS D s A0 (wO ad cI cZ A V) H locs) (hl : lv_has ls 6 [(0, .ref (ad 1)), (3, .long x3), (5, .int x5)]), W p l e rmX4_digestFrom s m args below meth c H locs 0 0 Z (F0 m 5 ls []) := by
  obtain ⟨hx, hb, hml, hown, hts, hK, hA⟩ := id cx
  intro n
  induction n with
  | zero => intro A V x3 x5 h; exact False.elim h
  | succ n ih =>
    intro A V x3 x5 h H locs ls hw hl
    refine lv_iload (pc := 5) hx hb dX4_digestFrom_5 (lv_at hl 2 rfl) ?_
    refine lv_aload_n (pc := 7) hx hb dX4_digestFrom_7 rfl (lv_at hl 0 rfl) ?_
    refine geO_X4_1 (pc := 8) cx inX4_digestFrom_X4 kX4_digestFrom_18 hw dX4_digestFrom_8 ?_
    refine lv_icmp_ge (pc := 11) (tgt := 35) hx hb dX4_digestFrom_11 (by decide) (fun c1 => ?_) (fun c1 => ?_)
    · have h := h.1 c1
      refine lv_lload_n (pc := 35) hx hb dX4_digestFrom_35 rfl (lv_at hl 1 rfl) ?_
      exact hret 36 _ _ (A, V) _ _ dX4_digestFrom_36 h hw
    · have h := h.2 c1
      refine lv_lload_n (pc := 14) hx hb dX4_digestFrom_14 rfl (lv_at hl 1 rfl) ?_
      refine lv_ldc2 (pc := 15) (v := (31 : Int64)) hx hb hown (hts _ kX4_digestFrom_w_constantLong_RX4_34__31_) dX4_digestFrom_15 ?_
      refine lv_lmul (pc := 18) hx hb dX4_digestFrom_18 ?_
      refine lv_aload_n (pc := 19) hx hb dX4_digestFrom_19 rfl (lv_at hl 0 rfl) ?_
      refine geO_X4_0 (pc := 20) cx inX4_digestFrom_X4 kX4_digestFrom_9 hw dX4_digestFrom_20 ?_
      refine lv_iload (pc := 23) hx hb dX4_digestFrom_23 (lv_at hl 2 rfl) ?_
      refine alO_0 (pc := 25) cx hw h.1 dX4_digestFrom_25 ?_
      have h := h.2
      refine lv_i2l (pc := 26) (v := (A 0 x5.toNatClampNeg).toInt64) hx hb dX4_digestFrom_26 rfl ?_
      refine lv_ladd (pc := 27) hx hb dX4_digestFrom_27 ?_
      refine lv_lstore_n (pc := 28) (lv' := [(3, .long ((x3 * (31 : Int64)) + ((A 0 x5.toNatClampNeg).toInt64))), (0, .ref (ad 1)), (5, .int x5)]) hx hb dX4_digestFrom_28 rfl hl (by decide) rfl (fun ls hl => ?_)
      refine lv_iinc (pc := 29) (v := x5 + 1) (lv' := [(5, .int (x5 + 1)), (3, .long ((x3 * (31 : Int64)) + ((A 0 x5.toNatClampNeg).toInt64))), (0, .ref (ad 1))]) hx hb dX4_digestFrom_29 hl (k := 2) rfl rfl (by decide) rfl (fun ls hl => ?_)
      refine lv_goto (pc := 32) (tgt := 5) hx hb dX4_digestFrom_32 (by decide) ?_
      exact ih A V ((x3 * (31 : Int64)) + ((A 0 x5.toNatClampNeg).toInt64)) (x5 + 1) h _ _ _ hw (lv_sub hl [2, 1, 0] rfl)
def wb_X4_digestFrom_0 (Q : Int64 → SA → SV → Prop) (A : SA) (V : SV) (x1 : Int64) : Prop := (∃ n5 : Nat, wl_X4_digestFrom_5 Q n5 A V x1 (0 : Int32))
set_option maxHeartbeats 4000000 in
set_option maxRecDepth 100000 in
theorem wk_X4_digestFrom_0 (Q : Int64 → SA → SV → Prop) (cx : CX RX4 cX4_digestFrom 6 wsX4_digestFrom D [(cI, .int), (cZ, .boolean)] p s m args c A0) (hret : ∀ (pc : Nat) (ls : Array Slot) (r : Int64) (u : SA × SV) (H : Heap) (locs : List Loc), decode cX4_digestFrom pc = .ok (.lreturn, 1) → Q r u.1 u.2 → WS D s A0 (wO ad cI cZ u.1 u.2) H locs → W p l e rmX4_digestFrom s m args below meth c H locs rmX4_digestFrom.cells rmX4_digestFrom.slots Z (F0 m pc ls [.long r]))  : ∀ (A : SA) (V : SV) (x1 : Int64) (h : wb_X4_digestFrom_0 Q A V x1) (H : Heap) (locs : List Loc) (ls : Array Slot) (hw : WS D s A0 (wO ad cI cZ A V) H locs) (hl : lv_has ls 6 [(0, .ref (ad 1)), (1, .long x1)]), W p l e rmX4_digestFrom s m args below meth c H locs 0 0 Z (F0 m 0 ls []) := by
  obtain ⟨hx, hb, hml, hown, hts, hK, hA⟩ := id cx
  intro A V x1 h H locs ls hw hl
  refine lv_lload_n (pc := 0) hx hb dX4_digestFrom_0 rfl (lv_at hl 1 rfl) ?_
  refine lv_lstore_n (pc := 1) (lv' := [(3, .long x1), (0, .ref (ad 1)), (1, .long x1)]) hx hb dX4_digestFrom_1 rfl hl (by decide) rfl (fun ls hl => ?_)
  refine lv_iconst (pc := 2) (v := (0 : Int32)) hx hb dX4_digestFrom_2 (by decide) ?_
  refine lv_istore (pc := 3) (lv' := [(5, .int (0 : Int32)), (3, .long x1), (0, .ref (ad 1)), (1, .long x1)]) hx hb dX4_digestFrom_3 hl (by decide) rfl (fun ls hl => ?_)
  obtain ⟨n5, h⟩ := h
  exact wk_X4_digestFrom_5 Q cx hret  n5 A V x1 (0 : Int32) h _ _ _ hw (lv_sub hl [2, 1, 0] rfl)
def wpX4_digestFrom (A : SA) (V : SV) (x1 : Int64) (Q : Int64 → SA → SV → Prop) : Prop := wb_X4_digestFrom_0 Q A V x1
set_option maxHeartbeats 4000000 in
set_option maxRecDepth 100000 in
theorem metX4_digestFrom (l : Launch) (D : va_G) (cI cZ : ClassId) (ad : Nat → Nat) (sz : Nat) (A : SA) (V : SV) (x1 : Int64) (Q : Int64 → SA → SV → Prop) (h : wpX4_digestFrom A V x1 Q) : Met l yX4_digestFrom wsX4_digestFrom rmX4_digestFrom (PcW D [(cI, .int), (cZ, .boolean)] (wO ad cI cZ A V) sz [.ref (ad 1), .long x1]) (QlW D [(cI, .int), (cZ, .boolean)] (wO ad cI cZ A V) sz (fun u : SA × SV => (wO ad cI cZ u.1 u.2)) (fun r u => Q r u.1 u.2)) rmX4_digestFrom.cells rmX4_digestFrom.slots (va_A (wO ad cI cZ A V) sz) := by
  refine startL (plainFor_of_name (by decide)) rfl (Nat.le_of_ble_eq_true rfl) ?_
  intro p e s m args below meth c A0 Z cx hw hret ls hl
  exact wk_X4_digestFrom_0 Q cx hret A V x1 h _ _ _ hw hl
end GENV
end
section
/-- the last part -/
theorem zz_last : True := trivial
end
