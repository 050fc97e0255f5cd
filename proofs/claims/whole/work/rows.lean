section
-- ===== PART A: goes FIRST, ahead of the names: the tables' words, and 'selects' of the private methods out of them =====
/-- a private method of a class that the tables say can be made, by its rows of tables_1 -/
def lw_okq (q : MethodName × Nat) : Prop := (q.1.cls ≠ "java/lang/invoke/MethodHandle" ∧ q.1.cls ≠ "java/lang/invoke/VarHandle") ∧ Cond.instantiable q.1.cls q.2 ∈ tables_1 ∧ Cond.privateMethod q.1 ∈ tables_1 ∧ Cond.instanceMethod q.1 ∈ tables_1
theorem lw_p0 : lw_okq (⟨"MixedKernel", "advance", "()I"⟩, 13) := ⟨⟨by decide +kernel, by decide +kernel⟩, List.mem_of_getElem? (i := 17) (by decide +kernel), List.mem_of_getElem? (i := 197) (by decide +kernel), List.mem_of_getElem? (i := 198) (by decide +kernel)⟩
theorem lw_p1 : lw_okq (⟨"MixedKernel", "firstToRun", "()I"⟩, 13) := ⟨⟨by decide +kernel, by decide +kernel⟩, List.mem_of_getElem? (i := 17) (by decide +kernel), List.mem_of_getElem? (i := 201) (by decide +kernel), List.mem_of_getElem? (i := 202) (by decide +kernel)⟩
theorem lw_p2 : lw_okq (⟨"MixedKernel", "settle", "()V"⟩, 13) := ⟨⟨by decide +kernel, by decide +kernel⟩, List.mem_of_getElem? (i := 17) (by decide +kernel), List.mem_of_getElem? (i := 212) (by decide +kernel), List.mem_of_getElem? (i := 213) (by decide +kernel)⟩
theorem lw_p3 : lw_okq (⟨"MixedKernel", "charge", "(I)V"⟩, 13) := ⟨⟨by decide +kernel, by decide +kernel⟩, List.mem_of_getElem? (i := 17) (by decide +kernel), List.mem_of_getElem? (i := 223) (by decide +kernel), List.mem_of_getElem? (i := 224) (by decide +kernel)⟩
theorem lw_p4 : lw_okq (⟨"MixedKernel", "becomeHigh", "()V"⟩, 13) := ⟨⟨by decide +kernel, by decide +kernel⟩, List.mem_of_getElem? (i := 17) (by decide +kernel), List.mem_of_getElem? (i := 243) (by decide +kernel), List.mem_of_getElem? (i := 244) (by decide +kernel)⟩
theorem lw_p5 : lw_okq (⟨"MixedKernel", "forgetIfLeft", "(I)V"⟩, 13) := ⟨⟨by decide +kernel, by decide +kernel⟩, List.mem_of_getElem? (i := 17) (by decide +kernel), List.mem_of_getElem? (i := 251) (by decide +kernel), List.mem_of_getElem? (i := 252) (by decide +kernel)⟩
theorem lw_p6 : lw_okq (⟨"MixedKernel$TaskSet", "leastSpan", "(LMixedKernel$Line;IIII)I"⟩, 1) := ⟨⟨by decide +kernel, by decide +kernel⟩, List.mem_of_getElem? (i := 25) (by decide +kernel), List.mem_of_getElem? (i := 279) (by decide +kernel), List.mem_of_getElem? (i := 280) (by decide +kernel)⟩
theorem lw_p7 : lw_okq (⟨"MixedKernel$TaskSet", "workAhead", "(LMixedKernel$Line;IIII)I"⟩, 1) := ⟨⟨by decide +kernel, by decide +kernel⟩, List.mem_of_getElem? (i := 25) (by decide +kernel), List.mem_of_getElem? (i := 283) (by decide +kernel), List.mem_of_getElem? (i := 284) (by decide +kernel)⟩
theorem lw_p8 : lw_okq (⟨"java/lang/Throwable", "fillInStackTrace", "(I)Ljava/lang/Throwable;"⟩, 6) := ⟨⟨by decide +kernel, by decide +kernel⟩, List.mem_of_getElem? (i := 356) (by decide +kernel), List.mem_of_getElem? (i := 354) (by decide +kernel), List.mem_of_getElem? (i := 355) (by decide +kernel)⟩
theorem lw_p9 : lw_okq (⟨"MixedKernel", "isKnown", "(I)Z"⟩, 13) := ⟨⟨by decide +kernel, by decide +kernel⟩, List.mem_of_getElem? (i := 17) (by decide +kernel), List.mem_of_getElem? (i := 381) (by decide +kernel), List.mem_of_getElem? (i := 382) (by decide +kernel)⟩
theorem lw_p10 : lw_okq (⟨"MixedKernel", "placeFor", "(I)I"⟩, 13) := ⟨⟨by decide +kernel, by decide +kernel⟩, List.mem_of_getElem? (i := 17) (by decide +kernel), List.mem_of_getElem? (i := 405) (by decide +kernel), List.mem_of_getElem? (i := 406) (by decide +kernel)⟩
theorem lw_p11 : lw_okq (⟨"MixedKernel", "admitTrial", "()I"⟩, 13) := ⟨⟨by decide +kernel, by decide +kernel⟩, List.mem_of_getElem? (i := 17) (by decide +kernel), List.mem_of_getElem? (i := 413) (by decide +kernel), List.mem_of_getElem? (i := 414) (by decide +kernel)⟩
theorem lw_p12 : lw_okq (⟨"MixedKernel", "isInForce", "(I)Z"⟩, 13) := ⟨⟨by decide +kernel, by decide +kernel⟩, List.mem_of_getElem? (i := 17) (by decide +kernel), List.mem_of_getElem? (i := 459) (by decide +kernel), List.mem_of_getElem? (i := 460) (by decide +kernel)⟩
theorem lw_p13 : lw_okq (⟨"MixedKernel$Refusal", "releasesBefore", "(I)I"⟩, 4) := ⟨⟨by decide +kernel, by decide +kernel⟩, List.mem_of_getElem? (i := 120) (by decide +kernel), List.mem_of_getElem? (i := 526) (by decide +kernel), List.mem_of_getElem? (i := 527) (by decide +kernel)⟩
theorem lw_p14 : lw_okq (⟨"MixedKernel", "pendingJobs", "()I"⟩, 13) := ⟨⟨by decide +kernel, by decide +kernel⟩, List.mem_of_getElem? (i := 17) (by decide +kernel), List.mem_of_getElem? (i := 572) (by decide +kernel), List.mem_of_getElem? (i := 573) (by decide +kernel)⟩
theorem lw_p15 : lw_okq (⟨"MixedKernelModel", "isKnown", "(I)Z"⟩, 35) := ⟨⟨by decide +kernel, by decide +kernel⟩, List.mem_of_getElem? (i := 576) (by decide +kernel), List.mem_of_getElem? (i := 700) (by decide +kernel), List.mem_of_getElem? (i := 701) (by decide +kernel)⟩
def lw_privs_1 : List (MethodName × Nat) := [(⟨"MixedKernel", "advance", "()I"⟩, 13), (⟨"MixedKernel", "firstToRun", "()I"⟩, 13), (⟨"MixedKernel", "settle", "()V"⟩, 13), (⟨"MixedKernel", "charge", "(I)V"⟩, 13), (⟨"MixedKernel", "becomeHigh", "()V"⟩, 13), (⟨"MixedKernel", "forgetIfLeft", "(I)V"⟩, 13), (⟨"MixedKernel$TaskSet", "leastSpan", "(LMixedKernel$Line;IIII)I"⟩, 1), (⟨"MixedKernel$TaskSet", "workAhead", "(LMixedKernel$Line;IIII)I"⟩, 1), (⟨"java/lang/Throwable", "fillInStackTrace", "(I)Ljava/lang/Throwable;"⟩, 6), (⟨"MixedKernel", "isKnown", "(I)Z"⟩, 13), (⟨"MixedKernel", "placeFor", "(I)I"⟩, 13), (⟨"MixedKernel", "admitTrial", "()I"⟩, 13), (⟨"MixedKernel", "isInForce", "(I)Z"⟩, 13), (⟨"MixedKernel$Refusal", "releasesBefore", "(I)I"⟩, 4), (⟨"MixedKernel", "pendingJobs", "()I"⟩, 13), (⟨"MixedKernelModel", "isKnown", "(I)Z"⟩, 35)]
theorem lw_r1 : ∀ q ∈ lw_privs_1, lw_okq q := List.forall_mem_cons.mpr ⟨lw_p0, List.forall_mem_cons.mpr ⟨lw_p1, List.forall_mem_cons.mpr ⟨lw_p2, List.forall_mem_cons.mpr ⟨lw_p3, List.forall_mem_cons.mpr ⟨lw_p4, List.forall_mem_cons.mpr ⟨lw_p5, List.forall_mem_cons.mpr ⟨lw_p6, List.forall_mem_cons.mpr ⟨lw_p7, List.forall_mem_cons.mpr ⟨lw_p8, List.forall_mem_cons.mpr ⟨lw_p9, List.forall_mem_cons.mpr ⟨lw_p10, List.forall_mem_cons.mpr ⟨lw_p11, List.forall_mem_cons.mpr ⟨lw_p12, List.forall_mem_cons.mpr ⟨lw_p13, List.forall_mem_cons.mpr ⟨lw_p14, List.forall_mem_cons.mpr ⟨lw_p15, fun _ h => absurd h List.not_mem_nil⟩⟩⟩⟩⟩⟩⟩⟩⟩⟩⟩⟩⟩⟩⟩⟩
theorem lw_p16 : lw_okq (⟨"MixedKernelModel", "goes", "(ZZZ)Z"⟩, 35) := ⟨⟨by decide +kernel, by decide +kernel⟩, List.mem_of_getElem? (i := 576) (by decide +kernel), List.mem_of_getElem? (i := 704) (by decide +kernel), List.mem_of_getElem? (i := 705) (by decide +kernel)⟩
theorem lw_p17 : lw_okq (⟨"MixedKernelModel", "unfit", "()I"⟩, 35) := ⟨⟨by decide +kernel, by decide +kernel⟩, List.mem_of_getElem? (i := 576) (by decide +kernel), List.mem_of_getElem? (i := 708) (by decide +kernel), List.mem_of_getElem? (i := 709) (by decide +kernel)⟩
theorem lw_p18 : lw_okq (⟨"MixedKernelModel", "markAhead", "(I)V"⟩, 35) := ⟨⟨by decide +kernel, by decide +kernel⟩, List.mem_of_getElem? (i := 576) (by decide +kernel), List.mem_of_getElem? (i := 712) (by decide +kernel), List.mem_of_getElem? (i := 713) (by decide +kernel)⟩
theorem lw_p19 : lw_okq (⟨"MixedKernelModel", "lowResponse", "(I)I"⟩, 35) := ⟨⟨by decide +kernel, by decide +kernel⟩, List.mem_of_getElem? (i := 576) (by decide +kernel), List.mem_of_getElem? (i := 716) (by decide +kernel), List.mem_of_getElem? (i := 717) (by decide +kernel)⟩
theorem lw_p20 : lw_okq (⟨"MixedKernelModel", "bound", "(II)I"⟩, 35) := ⟨⟨by decide +kernel, by decide +kernel⟩, List.mem_of_getElem? (i := 576) (by decide +kernel), List.mem_of_getElem? (i := 723) (by decide +kernel), List.mem_of_getElem? (i := 724) (by decide +kernel)⟩
theorem lw_p21 : lw_okq (⟨"MixedKernelModel", "noteWitness", "(I)V"⟩, 35) := ⟨⟨by decide +kernel, by decide +kernel⟩, List.mem_of_getElem? (i := 576) (by decide +kernel), List.mem_of_getElem? (i := 727) (by decide +kernel), List.mem_of_getElem? (i := 728) (by decide +kernel)⟩
theorem lw_p22 : lw_okq (⟨"MixedKernelModel", "takeOut", "(I)V"⟩, 35) := ⟨⟨by decide +kernel, by decide +kernel⟩, List.mem_of_getElem? (i := 576) (by decide +kernel), List.mem_of_getElem? (i := 731) (by decide +kernel), List.mem_of_getElem? (i := 732) (by decide +kernel)⟩
theorem lw_p23 : lw_okq (⟨"MixedKernelModel", "leave", "(I)V"⟩, 35) := ⟨⟨by decide +kernel, by decide +kernel⟩, List.mem_of_getElem? (i := 576) (by decide +kernel), List.mem_of_getElem? (i := 739) (by decide +kernel), List.mem_of_getElem? (i := 740) (by decide +kernel)⟩
theorem lw_p24 : lw_okq (⟨"MixedKernelModel", "pending", "(I)I"⟩, 35) := ⟨⟨by decide +kernel, by decide +kernel⟩, List.mem_of_getElem? (i := 576) (by decide +kernel), List.mem_of_getElem? (i := 743) (by decide +kernel), List.mem_of_getElem? (i := 744) (by decide +kernel)⟩
theorem lw_p25 : lw_okq (⟨"MixedKernelModel", "isPending", "(II)Z"⟩, 35) := ⟨⟨by decide +kernel, by decide +kernel⟩, List.mem_of_getElem? (i := 576) (by decide +kernel), List.mem_of_getElem? (i := 747) (by decide +kernel), List.mem_of_getElem? (i := 748) (by decide +kernel)⟩
theorem lw_p26 : lw_okq (⟨"MixedKernelModel", "place", "(I)I"⟩, 35) := ⟨⟨by decide +kernel, by decide +kernel⟩, List.mem_of_getElem? (i := 576) (by decide +kernel), List.mem_of_getElem? (i := 758) (by decide +kernel), List.mem_of_getElem? (i := 759) (by decide +kernel)⟩
theorem lw_p27 : lw_okq (⟨"MixedKernelModel", "oneTick", "()I"⟩, 35) := ⟨⟨by decide +kernel, by decide +kernel⟩, List.mem_of_getElem? (i := 576) (by decide +kernel), List.mem_of_getElem? (i := 766) (by decide +kernel), List.mem_of_getElem? (i := 767) (by decide +kernel)⟩
theorem lw_p28 : lw_okq (⟨"MixedKernelModel", "charge", "(I)V"⟩, 35) := ⟨⟨by decide +kernel, by decide +kernel⟩, List.mem_of_getElem? (i := 576) (by decide +kernel), List.mem_of_getElem? (i := 770) (by decide +kernel), List.mem_of_getElem? (i := 771) (by decide +kernel)⟩
theorem lw_p29 : lw_okq (⟨"MixedKernelModel", "firstJob", "(I)I"⟩, 35) := ⟨⟨by decide +kernel, by decide +kernel⟩, List.mem_of_getElem? (i := 576) (by decide +kernel), List.mem_of_getElem? (i := 774) (by decide +kernel), List.mem_of_getElem? (i := 775) (by decide +kernel)⟩
theorem lw_p30 : lw_okq (⟨"MixedKernelModel", "giveUp", "()V"⟩, 35) := ⟨⟨by decide +kernel, by decide +kernel⟩, List.mem_of_getElem? (i := 576) (by decide +kernel), List.mem_of_getElem? (i := 778) (by decide +kernel), List.mem_of_getElem? (i := 779) (by decide +kernel)⟩
theorem lw_p31 : lw_okq (⟨"MixedKernelModel", "passes", "(I)Z"⟩, 35) := ⟨⟨by decide +kernel, by decide +kernel⟩, List.mem_of_getElem? (i := 576) (by decide +kernel), List.mem_of_getElem? (i := 790) (by decide +kernel), List.mem_of_getElem? (i := 791) (by decide +kernel)⟩
def lw_privs_2 : List (MethodName × Nat) := [(⟨"MixedKernelModel", "goes", "(ZZZ)Z"⟩, 35), (⟨"MixedKernelModel", "unfit", "()I"⟩, 35), (⟨"MixedKernelModel", "markAhead", "(I)V"⟩, 35), (⟨"MixedKernelModel", "lowResponse", "(I)I"⟩, 35), (⟨"MixedKernelModel", "bound", "(II)I"⟩, 35), (⟨"MixedKernelModel", "noteWitness", "(I)V"⟩, 35), (⟨"MixedKernelModel", "takeOut", "(I)V"⟩, 35), (⟨"MixedKernelModel", "leave", "(I)V"⟩, 35), (⟨"MixedKernelModel", "pending", "(I)I"⟩, 35), (⟨"MixedKernelModel", "isPending", "(II)Z"⟩, 35), (⟨"MixedKernelModel", "place", "(I)I"⟩, 35), (⟨"MixedKernelModel", "oneTick", "()I"⟩, 35), (⟨"MixedKernelModel", "charge", "(I)V"⟩, 35), (⟨"MixedKernelModel", "firstJob", "(I)I"⟩, 35), (⟨"MixedKernelModel", "giveUp", "()V"⟩, 35), (⟨"MixedKernelModel", "passes", "(I)Z"⟩, 35)]
theorem lw_r2 : ∀ q ∈ lw_privs_2, lw_okq q := List.forall_mem_cons.mpr ⟨lw_p16, List.forall_mem_cons.mpr ⟨lw_p17, List.forall_mem_cons.mpr ⟨lw_p18, List.forall_mem_cons.mpr ⟨lw_p19, List.forall_mem_cons.mpr ⟨lw_p20, List.forall_mem_cons.mpr ⟨lw_p21, List.forall_mem_cons.mpr ⟨lw_p22, List.forall_mem_cons.mpr ⟨lw_p23, List.forall_mem_cons.mpr ⟨lw_p24, List.forall_mem_cons.mpr ⟨lw_p25, List.forall_mem_cons.mpr ⟨lw_p26, List.forall_mem_cons.mpr ⟨lw_p27, List.forall_mem_cons.mpr ⟨lw_p28, List.forall_mem_cons.mpr ⟨lw_p29, List.forall_mem_cons.mpr ⟨lw_p30, List.forall_mem_cons.mpr ⟨lw_p31, fun _ h => absurd h List.not_mem_nil⟩⟩⟩⟩⟩⟩⟩⟩⟩⟩⟩⟩⟩⟩⟩⟩
theorem lw_p32 : lw_okq (⟨"MixedKernelModel", "planPlace", "(I)I"⟩, 35) := ⟨⟨by decide +kernel, by decide +kernel⟩, List.mem_of_getElem? (i := 576) (by decide +kernel), List.mem_of_getElem? (i := 798) (by decide +kernel), List.mem_of_getElem? (i := 799) (by decide +kernel)⟩
theorem lw_p33 : lw_okq (⟨"MixedKernelModel", "late", "(I)I"⟩, 35) := ⟨⟨by decide +kernel, by decide +kernel⟩, List.mem_of_getElem? (i := 576) (by decide +kernel), List.mem_of_getElem? (i := 810) (by decide +kernel), List.mem_of_getElem? (i := 811) (by decide +kernel)⟩
theorem lw_p34 : lw_okq (⟨"MixedKernelModel", "sum", "(I)I"⟩, 35) := ⟨⟨by decide +kernel, by decide +kernel⟩, List.mem_of_getElem? (i := 576) (by decide +kernel), List.mem_of_getElem? (i := 830) (by decide +kernel), List.mem_of_getElem? (i := 831) (by decide +kernel)⟩
def lw_privs_3 : List (MethodName × Nat) := [(⟨"MixedKernelModel", "planPlace", "(I)I"⟩, 35), (⟨"MixedKernelModel", "late", "(I)I"⟩, 35), (⟨"MixedKernelModel", "sum", "(I)I"⟩, 35)]
theorem lw_r3 : ∀ q ∈ lw_privs_3, lw_okq q := List.forall_mem_cons.mpr ⟨lw_p32, List.forall_mem_cons.mpr ⟨lw_p33, List.forall_mem_cons.mpr ⟨lw_p34, fun _ h => absurd h List.not_mem_nil⟩⟩⟩
def lw_privs : List (MethodName × Nat) := lw_privs_1 ++ (lw_privs_2 ++ (lw_privs_3))
def lw_tbl : List Cond := k2_sels lw_privs ++ tables_1
theorem lw_privs_ok : ∀ q ∈ lw_privs, lw_okq q := by
  show ∀ q ∈ lw_privs_1 ++ (lw_privs_2 ++ (lw_privs_3)), lw_okq q
  exact List.forall_mem_append.mpr ⟨lw_r1, List.forall_mem_append.mpr ⟨lw_r2, lw_r3⟩⟩
end
section
/-! ===== BEGIN words of one list among another's, by their places ===== -/
theorem goodIn_r {big : List Cond} (ws : List Cond) (ps : List Nat) (hp : ws = ps.filterMap (fun i => big[i]?)) (h : ws.all goodWord = true) : GoodIn big ws := by
  intro w hw
  have h1 := List.all_eq_true.mp h w hw
  rw [hp] at hw
  obtain ⟨i, -, hi⟩ := List.mem_filterMap.mp hw
  have hm : w ∈ big := by first | exact List.mem_of_getElem? hi | exact List.getElem?_mem hi
  exact ⟨hm, good_of_word h1⟩
theorem goodIn_app {big a b : List Cond} (ha : GoodIn big a) (hb : GoodIn big b) : GoodIn big (a ++ b) := fun w h => (List.mem_append.mp h).elim (ha w) (hb w)
theorem goodIn_ca {big a b : List Cond} {c : Cond} (ha : GoodIn big (c :: a)) (hb : GoodIn big b) : GoodIn big (c :: (a ++ b)) := fun w h => (List.mem_cons.mp h).elim (fun e => ha w (List.mem_cons.mpr (Or.inl e))) (fun h => (List.mem_append.mp h).elim (fun h => ha w (List.mem_cons.mpr (Or.inr h))) (hb w))
theorem goodIn_sub {big ws : List Cond} (hm : ∀ w ∈ ws, w ∈ big) (h : ws.all goodWord = true) : GoodIn big ws := fun w hw => ⟨hm w hw, good_of_word (List.all_eq_true.mp h w hw)⟩
/-! ===== END ===== -/

/-! ===== BEGIN exceptions that leave a method, and their catching by the caller (launches without stack traces) ===== -/
section VXA
/-! The laws vx_back, vx_callV, vx_callS, vx_callSW, vx_throw0, vx_throwS follow proofs of the library, with one case more: JvmDerived/Free/Laws.lean (Back.of_free), Shelf42/LK1.lean (callV, callS), Shelf/KitTraced.lean (throwNew0V, throwNewS). -/
/-- where a method has thrown q: the class by its name, the cell, what was written, the world -/
def vx_T (XC : String → State → State → Prop) (st : State) (q : Addr) (t : State) (mc ms : Nat) (free : Addr → Prop) : Prop :=
  ∃ (E : String) (ce : Cell) (L : List Loc), XC E st t ∧ t.heap[q]? = some ce ∧ ce.vm = .none ∧ st.vm.findClass E = some ce.cls ∧ st.WarmedH t.vm ∧ st.sameButNew ({ t with vm := st.vm } : State) L mc ms ∧ ∀ z ∈ L, free z.base
def vx_Q (Qc : Array Value → State → Outcome → State → Prop) (XC : String → State → State → Prop) (mc ms : Nat) (free : Addr → Prop) : Array Value → State → Outcome → State → Prop := fun a st o t =>
  (Qc a st o t ∧ ∃ L, FrameEnd st o t L mc ms ∧ ∀ q ∈ L, free q.base) ∨ ∃ q, o = .threw q ∧ vx_T XC st q t mc ms free
/-- a callee that returns or throws -/
def vx_Met (l : Launch) (y : MethodName) (ws : List Cond) (rm : Room) (Pc : Array Value → State → Prop) (Qc : Array Value → State → Outcome → State → Prop) (XC : String → State → State → Prop) (mc ms : Nat) (free : Addr → Prop) : Prop :=
  MetFree l y (headSpec ws rm) Pc (fun _ _ _ _ _ => True) (vx_Q Qc XC mc ms free)
def vx_Post (XC : String → State → State → Prop) (mc ms : Nat) (free : Addr → Prop) : Pt → Array Value → Addr → Pt → Prop := fun A a q B =>
  ∃ (g : JFrame) (mk : MethodId) (t : State) (L : List Loc) (E : String) (ce : Cell), B.U.heap = t.heap ∧ B.U.vm = t.vm ∧ XC E (A.U.calling g mk a) t ∧ t.heap[q]? = some ce ∧ ce.vm = .none ∧ A.U.vm.findClass E = some ce.cls ∧ B.locs = A.locs ++ L ∧ (∀ z ∈ L, free z.base) ∧ B.cells = A.cells + mc ∧ B.slots = A.slots + ms
def vx_Back (l : Launch) (R : Room) (p : Program) (e : Env) (below : List Frame) (s : State) (sargs : Array Value) (y : MethodName) (len W9 : Nat)
    (Pre : Pt → Array Value → Prop) (Post : Pt → Array Value → Option Value → Pt → Prop) (PostX : Pt → Array Value → Addr → Pt → Prop) : Prop :=
  ∀ (m : MethodId) (meth : Method) (c : Code) (A : Pt) (g : JFrame) (ig : Instr) (mk : MethodId) (a : Array Value),
    Stand p l e R s m sargs below meth c A.U A.locs A.cells A.slots → g.method = m → g.locals.size = c.maxLocals → decode c.code g.pc = .ok (ig, len) →
    2 * g.monitorRoom + (g.stack.map fun v => v.category).sum ≤ W9 → A.U.methodNamed? y = some mk → Pre A a →
    (∃ (v : Option Value) (B : Pt), Stand p l e R s m sargs below meth c B.U B.locs B.cells B.slots ∧ Post A a v B ∧
      Steps p.tables e below (doInvoke e (A.U.setTop g) [] mk a).1 (B.U.setTop { g with pc := g.pc + len, stack := v.toList ++ g.stack })) ∨
    (∃ (q : Addr) (B : Pt), Stand p l e R s m sargs below meth c B.U B.locs B.cells B.slots ∧ PostX A a q B ∧
      Steps p.tables e below (doInvoke e (A.U.setTop g) [] mk a).1 ((B.U.setTop g).pushFrame (.throwing q)))
section Payer
variable {l : Launch} {R : Room} {p : Program} {e : Env} {below : List Frame} {s : State} {sargs : Array Value} {y : MethodName} {len W9 : Nat}
theorem vx_back {ws : List Cond} {rm : Room} {Pc : Array Value → State → Prop} {Qc : Array Value → State → Outcome → State → Prop} {XC : String → State → State → Prop} {mc ms : Nat} {free : Addr → Prop} {bytes : ByteArray} {maxL : Nat} {ret : Option FieldType}
    (hM : vx_Met l y ws rm Pc Qc XC mc ms free) (hblind : FrameBlind Pc) (hrc : rm.cells = mc) (hrs : rm.slots = ms)
    (hframes : rm.frames + 1 ≤ R.frames) (hlocals : W9 + (maxL + 11) + rm.locals ≤ R.locals)
    (hws : ∀ w ∈ ws, ∀ a' U, s.WarmedH U.vm → w.before a' U = true) (hcode : Cond.code y bytes maxL ret ∈ ws) (hinit : ∀ a' U, s.WarmedH U.vm → (Cond.initialized y.cls).before a' U = true) :
    vx_Back l R p e below s sargs y len W9 (PreOf R mc ms Pc) (PostOf Qc mc ms free) (vx_Post XC mc ms free) := by
  intro m meth c A g ig mk a X hg hsize hdg hW hn hp
  have h1 : (headSpec ws rm).pre.before a A.U = true := atoms_intro fun w hw => hws w hw _ _ X.warmed
  have h2 : (Cond.code y bytes maxL ret).before a A.U = true := hws _ hcode _ _ X.warmed
  have h3 : (Cond.initialized y.cls).before a A.U = true := hinit _ _ X.warmed
  have h4 : A.cells + (headSpec ws rm).room.cells ≤ R.cells := by rw [show (headSpec ws rm).room.cells = mc from hrc]; exact hp.1
  have h5 : A.slots + (headSpec ws rm).room.slots ≤ R.slots := by rw [show (headSpec ws rm).room.slots = ms from hrs]; exact hp.2.1
  have hPc : Pc a (A.U.calling g mk a) := hblind _ _ _ _ hp.2.2
  obtain ⟨U, Ls, c0, s0⟩ := A
  dsimp only [Pt.U, Pt.locs, Pt.cells, Pt.slots] at h1 h2 h3 h4 h5 X hn hPc ⊢
  obtain ⟨methY, cY, hmY, hcY, -, hlY, -, -, -, -⟩ := Cond.code_spec hn h2
  obtain ⟨kY, hkY, -⟩ := className_of_methodNamed hn
  have hinitY : kY.init = .initialized := Cond.initialized_spec (findClass_of_methodNamed hn) hkY h3
  have h : At U g.method c below := by rw [hg]; exact X.here
  have hlocals9 : W9 + (maxL + 11) + (headSpec ws rm).room.locals ≤ R.locals := hlocals
  have happ : (headSpec ws rm).appliesLoose y e.platform (U.calling g mk a) = true :=
    Spec.appliesLoose_calling (g := g) h hdg hn hkY hinitY
      (X.room_calling (g := g) (R' := (headSpec ws rm).room) hsize hmY hcY hframes (by rw [hlY]; omega) h4 h5) h1
  obtain ⟨mid, hmid⟩ := h.above
  have hfr : (U.setTop g).frames = (.java g :: mid) ++ below := by rw [State.frames_setTop' g h.top, hmid]; rfl
  obtain ⟨o, s₂, hsteps, -, hend, hq⟩ := Steps.callFree hM p X.admits X.cas X.clock (acts := []) hfr happ hPc trivial
  have hq' : vx_Q Qc XC mc ms free a (U.calling g mk a) o s₂ := hq
  rw [State.frames_setTop' g h.top] at hend
  obtain ⟨g₀, hg0⟩ := Option.isSome_iff_exists.mp h.top
  obtain ⟨r, hr⟩ := State.topJava?_eq_some.mp hg0
  have hr' : (({ U with heap := s₂.heap, slotsUsed := s₂.slotsUsed } : State).setVm s₂.vm).frames = .java g₀ :: r := hr
  rcases hq' with ⟨hqc, L, hfe, hL⟩ | ⟨q, rfl, E, ce, L, hx, hce, hcv, hcl, hW₂, hsm, hL⟩
  · obtain ⟨⟨v, rfl⟩, hW₂, e2, q2, q3, q4, q5, q6⟩ := id hfe
    have e3 : s₂ = ({ (U.calling g mk a).setFrames s₂.frames with heap := s₂.heap, slotsUsed := s₂.slotsUsed } : State).setVm s₂.vm := by
      have : s₂ = ({ s₂ with vm := (U.calling g mk a).vm } : State).setVm s₂.vm := rfl
      rw [e2] at this
      exact this
    obtain ⟨c₂, i₂, len₂, hc₂, hd₂, hf₂⟩ := hend
    have hW' : U.WarmedH s₂.vm := hW₂
    have hcc : c₂ = c := by
      have h1 : s₂.code? g.method = U.code? g.method := by
        rw [State.code?_eq, State.code?_eq, hW'.alike.method?]
      exact Option.some.inj (hc₂.symm.trans (h1.trans h.code))
    subst hcc
    have hlen : len₂ = len := by rw [hdg] at hd₂; cases hd₂; rfl
    subst hlen
    have hs₂ : s₂ = (({ U with heap := s₂.heap, slotsUsed := s₂.slotsUsed } : State).setVm s₂.vm).setTop { g with pc := g.pc + len₂, stack := v.toList ++ g.stack } := by
      refine e3.trans ?_
      rw [hf₂, State.calling_eq h.top, State.setFrames_setFrames, State.setTop_of_frames _ hr', hr]
      rfl
    have hsame : U.sameButNew ({ U with heap := s₂.heap, slotsUsed := s₂.slotsUsed } : State) L mc ms := by
      refine ⟨?_, q2, q3, q4, q5, q6⟩
      obtain ⟨t, ht, -⟩ := State.frames_cons hr
      show ({ U with heap := s₂.heap, slotsUsed := s₂.slotsUsed } : State) = { U.setFrames U.frames with heap := s₂.heap, slotsUsed := s₂.slotsUsed }
      rw [State.setFrames_self ht]
    subst hg
    refine Or.inl ⟨v, ⟨(({ U with heap := s₂.heap, slotsUsed := s₂.slotsUsed } : State).setVm s₂.vm), Ls ++ L, c0 + mc, s0 + ms⟩,
      ⟨X.admits, X.cas, X.clock, X.frames, X.room, X.hears, X.method, X.code, (X.here.setHeapUsed s₂.heap s₂.slotsUsed).setVm hW'.alike, X.tail, State.WarmedH.trans X.warmed hW', X.limits, X.bytes, X.same.trans (hsame.setVm s.vm)⟩,
      ⟨g, mk, s₂, L, rfl, rfl, hqc, rfl, hL, rfl, rfl⟩, ?_⟩
    show Steps p.tables e below _ ((({ U with heap := s₂.heap, slotsUsed := s₂.slotsUsed } : State).setVm s₂.vm).setTop { g with pc := g.pc + len₂, stack := v.toList ++ g.stack })
    rw [← hs₂]
    exact hsteps
  · obtain ⟨e2, q2, q3, q4, q5, q6⟩ := id hsm
    have e3 : s₂ = ({ (U.calling g mk a).setFrames s₂.frames with heap := s₂.heap, slotsUsed := s₂.slotsUsed } : State).setVm s₂.vm := by
      have : s₂ = ({ s₂ with vm := (U.calling g mk a).vm } : State).setVm s₂.vm := rfl
      rw [e2] at this
      exact this
    have hf₂ : s₂.frames = .throwing q :: .java g :: U.frames.tail := hend
    have hW' : U.WarmedH s₂.vm := hW₂
    have hs₂ : s₂ = ((({ U with heap := s₂.heap, slotsUsed := s₂.slotsUsed } : State).setVm s₂.vm).setTop g).pushFrame (.throwing q) := by
      refine e3.trans ?_
      rw [hf₂, State.calling_eq h.top, State.setFrames_setFrames, State.pushFrame, State.frames_setTop _ hr', State.setTop_of_frames _ hr', State.setFrames_setFrames, hr]
      rfl
    have hsame : U.sameButNew ({ U with heap := s₂.heap, slotsUsed := s₂.slotsUsed } : State) L mc ms := by
      refine ⟨?_, q2, q3, q4, q5, q6⟩
      obtain ⟨t, ht, -⟩ := State.frames_cons hr
      show ({ U with heap := s₂.heap, slotsUsed := s₂.slotsUsed } : State) = { U.setFrames U.frames with heap := s₂.heap, slotsUsed := s₂.slotsUsed }
      rw [State.setFrames_self ht]
    subst hg
    refine Or.inr ⟨q, ⟨(({ U with heap := s₂.heap, slotsUsed := s₂.slotsUsed } : State).setVm s₂.vm), Ls ++ L, c0 + mc, s0 + ms⟩,
      ⟨X.admits, X.cas, X.clock, X.frames, X.room, X.hears, X.method, X.code, (X.here.setHeapUsed s₂.heap s₂.slotsUsed).setVm hW'.alike, X.tail, State.WarmedH.trans X.warmed hW', X.limits, X.bytes, X.same.trans (hsame.setVm s.vm)⟩,
      ⟨g, mk, s₂, L, E, ce, rfl, rfl, hx, hce, hcv, hcl, rfl, hL, rfl, rfl⟩, ?_⟩
    show Steps p.tables e below _ (((({ U with heap := s₂.heap, slotsUsed := s₂.slotsUsed } : State).setVm s₂.vm).setTop g).pushFrame (.throwing q))
    rw [← hs₂]
    exact hsteps
end Payer
section Calls
variable {p : Program} {l : Launch} {e : Env} {R : Room} {s : State} {m : MethodId} {args : Array Value} {below : List Frame} {meth : Method} {c : Code} {T : State} {locs : List Loc} {cells slots : Nat}
theorem vx_callV (X : Stand p l e R s m args below meth c T locs cells slots) (hexec : p.tables.exec = Jvm.exec) {own C : String} {index : Nat} {y : MethodName} {bytes : ByteArray} {maxL : Nat} {ret : Option FieldType}
    (hown : s.vm.findClass own = some m.cls) (hlink : (Cond.methodLink own index y).before args s = true) (hinst : (Cond.instanceMethod y).before args s = true) (hsel : (Cond.selects C y y).before args s = true)
    (hcode : (Cond.code y bytes maxL ret).before args s = true) (hy : y.cls ≠ "java/lang/invoke/MethodHandle" ∧ y.cls ≠ "java/lang/invoke/VarHandle")
    {W9 : Nat} {Pre : Pt → Array Value → Prop} {Post : Pt → Array Value → Option Value → Pt → Prop} {PostX : Pt → Array Value → Addr → Pt → Prop} (hK : vx_Back l R p e below s args y 3 W9 Pre Post PostX)
    {b : Addr} {cellB : Cell} (hcell : T.heap[b]? = some cellB) (hobj : cellB.vm.isStatics = false) (hcls : s.vm.findClass C = some cellB.cls)
    {g : JFrame} (hg : g.method = m) (hsize : g.locals.size = c.maxLocals) {argsL rest : List Value} (hlen : ∀ sig, parseMethodDescriptor y.desc = some sig → argsL.length = sig.parameters.length)
    (hstack : g.stack = argsL.reverse ++ .ref b :: rest) (hW : 2 * g.monitorRoom + (rest.map fun v => v.category).sum ≤ W9) (hdg : decode c.code g.pc = .ok (.invokevirtual index, 3))
    (hpre : ∀ vm₁, s.WarmedH vm₁ → Pre ⟨T.setVm vm₁, locs, cells, slots⟩ (Value.ref b :: argsL).toArray) :
    (∃ (v : Option Value) (vm₁ : Vm) (B : Pt), s.WarmedH vm₁ ∧ Stand p l e R s m args below meth c B.U B.locs B.cells B.slots ∧ Post ⟨T.setVm vm₁, locs, cells, slots⟩ (Value.ref b :: argsL).toArray v B ∧
      ∀ target, Steps p.tables e below (B.U.setTop { g with pc := g.pc + 3, stack := v.toList ++ rest }) target → Steps p.tables e below (T.setTop g) target) ∨
    (∃ (q : Addr) (vm₁ : Vm) (B : Pt), s.WarmedH vm₁ ∧ Stand p l e R s m args below meth c B.U B.locs B.cells B.slots ∧ PostX ⟨T.setVm vm₁, locs, cells, slots⟩ (Value.ref b :: argsL).toArray q B ∧
      Steps p.tables e below (T.setTop g) ((B.U.setTop { g with stack := rest }).pushFrame (.throwing q))) := by
  obtain ⟨mk, methM, hnamed, hmethM, hstM, habM⟩ := Cond.instanceMethod_spec hinst
  obtain ⟨methM', cM, hmethM', -, -, -, -, -, -, hsigM⟩ := Cond.code_spec hnamed hcode
  cases hmethM.symm.trans hmethM'
  obtain ⟨c2, r2, m2, q1, q2, q3, q4, kP, hkP, hkPi⟩ := Cond.selects_spec hsel
  cases hcls.symm.trans q1
  cases (State.methodFound?_of_named hnamed hy).symm.trans q2
  cases hnamed.symm.trans q3
  have hselP : selectMethod e.platform s.vm cellB.cls mk = .method mk := by rw [Launch.admits_selectMethod X.admits]; exact q4
  obtain ⟨vm₁, X₁, hstep₁⟩ := X.invokevirtual hexec hown hlink hnamed hmethM hstM hkP hkPi hy (a := b) (cell := cellB) hcell
    (fun z h => by rw [h] at hobj; cases hobj) hselP hmethM habM hkP hkPi (g := g) hg (argsL := argsL) (rest := rest) (hlen _ hsigM) hstack hdg
  rcases hK m meth c ⟨T.setVm vm₁, locs, cells, slots⟩ { g with stack := rest } (.invokevirtual index) mk (Value.ref b :: argsL).toArray X₁ hg hsize hdg hW (X₁.named hnamed) (hpre vm₁ X₁.warmed) with ⟨v, B, X', hpost, hsteps⟩ | ⟨q, B, X', hpost, hsteps⟩
  · exact Or.inl ⟨v, vm₁, B, X₁.warmed, X', hpost, fun target h => hstep₁ _ fun acts => by rw [doInvoke_state]; exact hsteps.trans h⟩
  · exact Or.inr ⟨q, vm₁, B, X₁.warmed, X', hpost, hstep₁ _ fun acts => by rw [doInvoke_state]; exact hsteps⟩
theorem vx_callS (X : Stand p l e R s m args below meth c T locs cells slots) (hexec : p.tables.exec = Jvm.exec) {own : String} {index : Nat} {y : MethodName} {bytes : ByteArray} {maxL : Nat} {ret : Option FieldType}
    (hown : s.vm.findClass own = some m.cls) (hlink : (Cond.methodLink own index y).before args s = true) (hstat : (Cond.static y).before args s = true) (hinit : (Cond.initialized y.cls).before args s = true)
    (hcode : (Cond.code y bytes maxL ret).before args s = true) (hy : y.cls ≠ "java/lang/invoke/MethodHandle" ∧ y.cls ≠ "java/lang/invoke/VarHandle")
    {W9 : Nat} {Pre : Pt → Array Value → Prop} {Post : Pt → Array Value → Option Value → Pt → Prop} {PostX : Pt → Array Value → Addr → Pt → Prop} (hK : vx_Back l R p e below s args y 3 W9 Pre Post PostX)
    {g : JFrame} (hg : g.method = m) (hsize : g.locals.size = c.maxLocals) {argsL rest : List Value} (hlen : ∀ sig, parseMethodDescriptor y.desc = some sig → argsL.length = sig.parameters.length)
    (hstack : g.stack = argsL.reverse ++ rest) (hW : 2 * g.monitorRoom + (rest.map fun v => v.category).sum ≤ W9) (hdg : decode c.code g.pc = .ok (.invokestatic index, 3))
    (hpre : ∀ vm₁, s.WarmedH vm₁ → Pre ⟨T.setVm vm₁, locs, cells, slots⟩ argsL.toArray) :
    (∃ (v : Option Value) (vm₁ : Vm) (B : Pt), s.WarmedH vm₁ ∧ Stand p l e R s m args below meth c B.U B.locs B.cells B.slots ∧ Post ⟨T.setVm vm₁, locs, cells, slots⟩ argsL.toArray v B ∧
      ∀ target, Steps p.tables e below (B.U.setTop { g with pc := g.pc + 3, stack := v.toList ++ rest }) target → Steps p.tables e below (T.setTop g) target) ∨
    (∃ (q : Addr) (vm₁ : Vm) (B : Pt), s.WarmedH vm₁ ∧ Stand p l e R s m args below meth c B.U B.locs B.cells B.slots ∧ PostX ⟨T.setVm vm₁, locs, cells, slots⟩ argsL.toArray q B ∧
      Steps p.tables e below (T.setTop g) ((B.U.setTop { g with stack := rest }).pushFrame (.throwing q))) := by
  obtain ⟨mk, hnamed⟩ := Cond.code_named hcode
  obtain ⟨methM, cM, hmethM, -, -, -, -, -, -, hsigM⟩ := Cond.code_spec hnamed hcode
  have hstatic : methM.isStatic = true := Cond.static_spec hnamed hmethM hstat
  obtain ⟨kP, hkP, -⟩ := className_of_methodNamed hnamed
  have hinitP : kP.init = .initialized := Cond.initialized_spec (findClass_of_methodNamed hnamed) hkP hinit
  obtain ⟨vm₁, X₁, hstep₁⟩ := X.invokestatic hexec hown hlink hnamed hmethM hstatic hkP hinitP hy (g := g) hg (argsL := argsL) (rest := rest) (hlen _ hsigM) hstack hdg
  rcases hK m meth c ⟨T.setVm vm₁, locs, cells, slots⟩ { g with stack := rest } (.invokestatic index) mk argsL.toArray X₁ hg hsize hdg hW (X₁.named hnamed) (hpre vm₁ X₁.warmed) with ⟨v, B, X', hpost, hsteps⟩ | ⟨q, B, X', hpost, hsteps⟩
  · exact Or.inl ⟨v, vm₁, B, X₁.warmed, X', hpost, fun target h => hstep₁ _ fun acts => by rw [doInvoke_state]; exact hsteps.trans h⟩
  · exact Or.inr ⟨q, vm₁, B, X₁.warmed, X', hpost, hstep₁ _ fun acts => by rw [doInvoke_state]; exact hsteps⟩
end Calls
theorem vx_cls {s : State} {T : State} {vm₁ : Vm} {E : String} {k : ClassId} (hW : s.WarmedH vm₁) (h : (T.setVm vm₁).vm.findClass E = some k) : s.vm.findClass E = some k := by
  have h1 : vm₁.findClass E = some k := h
  rw [hW.alike.findClass] at h1
  exact h1
/-- the method's frame g, with q thrown over it -/
def vx_W (p : Program) (l : Launch) (e : Env) (R : Room) (s : State) (m : MethodId) (args : Array Value) (below : List Frame) (meth : Method) (c : Code) (H : Heap) (locs : List Loc) (cells slots : Nat) (Q : State → Prop) (g : JFrame) (q : Addr) : Prop :=
  ∀ T : State, T.heap = H → Stand p l e R s m args below meth c T locs cells slots → ∃ t, Steps p.tables e below ((T.setTop g).pushFrame (.throwing q)) t ∧ Q t
def vx_Run (p : Program) (l : Launch) (e : Env) (R : Room) (s : State) (m : MethodId) (args : Array Value) (below : List Frame) (meth : Method) (c : Code) (H : Heap) (locs : List Loc) (cells slots mc ms : Nat) (g : JFrame) (rest : List Value) (Qa : State → Outcome → State → Prop) (XC : String → State → State → Prop) (free : Addr → Prop) : Prop :=
  ∀ T : State, T.heap = H → Stand p l e R s m args below meth c T locs cells slots →
    (∃ (v : Option Value) (st₀ t T' : State) (L : List Loc), st₀.heap = H ∧ Stand p l e R s m args below meth c T' (locs ++ L) (cells + mc) (slots + ms) ∧ (∀ q ∈ L, free q.base) ∧ T'.heap = t.heap ∧ T'.vm = t.vm ∧ Qa st₀ (.returned v) t ∧
      Goes p e below T g T' { g with pc := g.pc + 3, stack := v.toList ++ rest }) ∨
    (∃ (q : Addr) (st₀ t T' : State) (L : List Loc) (E : String) (ce : Cell), st₀.heap = H ∧ Stand p l e R s m args below meth c T' (locs ++ L) (cells + mc) (slots + ms) ∧ (∀ z ∈ L, free z.base) ∧ T'.heap = t.heap ∧ T'.vm = t.vm ∧ XC E st₀ t ∧ t.heap[q]? = some ce ∧ ce.vm = .none ∧ s.vm.findClass E = some ce.cls ∧
      Steps p.tables e below (T.setTop g) ((T'.setTop { g with stack := rest }).pushFrame (.throwing q)))
def vx_X {S : Type} (px : S → Prop) (B : String → S → State → Prop) (A : Nat → Prop) : String → State → State → Prop := fun E st t => ∃ u : S, px u ∧ B E u t ∧ va_F A st t
section Runs
variable {p : Program} {l : Launch} {e : Env} {R : Room} {s : State} {m : MethodId} {args : Array Value} {below : List Frame} {meth : Method} {c : Code} {H : Heap} {locs : List Loc} {cells slots : Nat}
variable {y : MethodName} {bytes cc : ByteArray} {maxL nL mc ms n index : Nat} {ret : Option FieldType} {ws : List Cond} {rm : Room} {Pc : Array Value → State → Prop} {Qc : Array Value → State → Outcome → State → Prop} {XC : String → State → State → Prop} {free : Addr → Prop} {Ts : List Cond} {own C : String} {b : Addr} {As rest : List Value} {g : JFrame}
theorem vx_callBack (cb : CallB R s args own index y bytes maxL ret ws rm mc ms n) (hM : vx_Met l y ws rm Pc Qc XC mc ms free) (hbl : FrameBlind Pc) : vx_Back l R p e below s args y 3 8 (PreOf R mc ms Pc) (PostOf Qc mc ms free) (vx_Post XC mc ms free) := by
  obtain ⟨hrc, hrs, hfr, hlo, hws, hcw, -, hini, -⟩ := cb
  exact vx_back (bytes := bytes) (maxL := maxL) (ret := ret) hM hbl hrc hrs hfr hlo hws hcw (fun a' U hW => word_at hW (Or.inl (by first | rfl | simp [Cond.onTables, Cond.keeps, Cond.steady])) hini)
theorem vx_runV (S : CallFix p m c cc nL s args Ts own) (hM : vx_Met l y ws rm Pc Qc XC mc ms free) (cw : CallW R s args own C index y bytes maxL ret ws rm mc ms n) (hp : PreV s H C b Pc As)
    (hg : g.method = m) (hn : As.length = n) (hsize : g.locals.size = nL) (hstack : g.stack = As.reverse ++ .ref b :: rest) (hW : 2 * g.monitorRoom + (rest.map fun v => v.category).sum ≤ 8) (hdg : decode cc g.pc = .ok (.invokevirtual index, 3)) (hf : cells + mc ≤ R.cells ∧ slots + ms ≤ R.slots) :
    vx_Run p l e R s m args below meth c H locs cells slots mc ms g rest (Qc (Value.ref b :: As).toArray) XC free := by
  have hK : vx_Back l R p e below s args y 3 8 (PreOf R mc ms Pc) (PostOf Qc mc ms free) (vx_Post XC mc ms free) := vx_callBack cw.1 hM hp.1
  obtain ⟨⟨-, -, -, -, -, -, hcode, -, hy, hlen, hl⟩, hin, hse⟩ := cw
  obtain ⟨hx, hb, hml, ho, -⟩ := S
  obtain ⟨-, ⟨cellB, hcB, hoB, hclB⟩, hPc⟩ := hp
  intro T hT X
  rcases vx_callV X hx (C := C) (bytes := bytes) (maxL := maxL) (ret := ret) ho hl hin hse hcode hy hK (by rw [hT]; exact hcB) hoB hclB hg (hsize.trans hml.symm) (argsL := As) (rest := rest) (fun sig h => hn.trans (hlen sig h)) hstack hW (by rw [hb]; exact hdg)
    (fun vm₁ hW₁ => ⟨hf.1, hf.2, hPc (T.setVm vm₁) hT hW₁⟩) with ⟨v, vm₁, ⟨U', l2, c2, s2⟩, hW₁, X', ⟨g', mk, t, L, e1, e2, hq, h1, hL, h2, h3⟩, st⟩ | ⟨q, vm₁, ⟨U', l2, c2, s2⟩, hW₁, X', ⟨g', mk, t, L, E, ce, e1, e2, hq, hce, hcv, hcl, h1, hL, h2, h3⟩, st⟩
  · dsimp only [Pt.U, Pt.locs, Pt.cells, Pt.slots] at X' e1 e2 h1 h2 h3 st
    subst h1; subst h2; subst h3
    exact Or.inl ⟨v, (T.setVm vm₁).calling g' mk (Value.ref b :: As).toArray, t, U', L, hT, X', hL, e1, e2, hq, st⟩
  · dsimp only [Pt.U, Pt.locs, Pt.cells, Pt.slots] at X' e1 e2 h1 h2 h3 st hcl
    subst h1; subst h2; subst h3
    exact Or.inr ⟨q, (T.setVm vm₁).calling g' mk (Value.ref b :: As).toArray, t, U', L, E, ce, hT, X', hL, e1, e2, hq, hce, hcv, vx_cls hW₁ hcl, st⟩
theorem vx_runS (S : CallFix p m c cc nL s args Ts own) (hM : vx_Met l y ws rm Pc Qc XC mc ms free) (cw : CallB R s args own index y bytes maxL ret ws rm mc ms n ∧ (Cond.static y).before args s = true) (hp : PreS s H Pc As)
    (hg : g.method = m) (hn : As.length = n) (hsize : g.locals.size = nL) (hstack : g.stack = As.reverse ++ rest) (hW : 2 * g.monitorRoom + (rest.map fun v => v.category).sum ≤ 8) (hdg : decode cc g.pc = .ok (.invokestatic index, 3)) (hf : cells + mc ≤ R.cells ∧ slots + ms ≤ R.slots) :
    vx_Run p l e R s m args below meth c H locs cells slots mc ms g rest (Qc As.toArray) XC free := by
  have hK : vx_Back l R p e below s args y 3 8 (PreOf R mc ms Pc) (PostOf Qc mc ms free) (vx_Post XC mc ms free) := vx_callBack cw.1 hM hp.1
  obtain ⟨⟨-, -, -, -, -, -, hcode, hini, hy, hlen, hl⟩, hstt⟩ := cw
  obtain ⟨hx, hb, hml, ho, -⟩ := S
  intro T hT X
  rcases vx_callS X hx (bytes := bytes) (maxL := maxL) (ret := ret) ho hl hstt hini hcode hy hK hg (hsize.trans hml.symm) (argsL := As) (rest := rest) (fun sig h => hn.trans (hlen sig h)) hstack hW (by rw [hb]; exact hdg)
    (fun vm₁ hW₁ => ⟨hf.1, hf.2, hp.2 (T.setVm vm₁) hT hW₁⟩) with ⟨v, vm₁, ⟨U', l2, c2, s2⟩, hW₁, X', ⟨g', mk, t, L, e1, e2, hq, h1, hL, h2, h3⟩, st⟩ | ⟨q, vm₁, ⟨U', l2, c2, s2⟩, hW₁, X', ⟨g', mk, t, L, E, ce, e1, e2, hq, hce, hcv, hcl, h1, hL, h2, h3⟩, st⟩
  · dsimp only [Pt.U, Pt.locs, Pt.cells, Pt.slots] at X' e1 e2 h1 h2 h3 st
    subst h1; subst h2; subst h3
    exact Or.inl ⟨v, (T.setVm vm₁).calling g' mk As.toArray, t, U', L, hT, X', hL, e1, e2, hq, st⟩
  · dsimp only [Pt.U, Pt.locs, Pt.cells, Pt.slots] at X' e1 e2 h1 h2 h3 st hcl
    subst h1; subst h2; subst h3
    exact Or.inr ⟨q, (T.setVm vm₁).calling g' mk As.toArray, t, U', L, E, ce, hT, X', hL, e1, e2, hq, hce, hcv, vx_cls hW₁ hcl, st⟩
end Runs
section Rows
variable {p : Program} {l : Launch} {e : Env} {R : Room} {s : State} {m : MethodId} {args : Array Value} {below : List Frame} {meth : Method} {c : Code} {H : Heap} {locs : List Loc} {cells slots : Nat} {Q : State → Prop}
variable {mc ms : Nat} {free : Addr → Prop} {A0 A1 : Nat → Prop} {H0 : Heap} {a : Array Value} {pc : Nat} {ls : Array Slot} {st0 rest : List Value}
theorem vx_keep {st₀ t T' : State} {L : List Loc} (h0 : st₀.heap = H) (e1 : T'.heap = t.heap) (hS : va_S A0 H0 H locs) (hA : ∀ q, q < H.size → A1 q → A0 q) (hf : ∀ q, free q → A0 q) (hL : ∀ q ∈ L, free q.base) (hF : va_F A1 st₀ t) :
    H.size ≤ T'.heap.size ∧ (∀ q : Nat, q < H.size → ¬ A1 q → T'.heap[q]? = H[q]?) ∧ va_S A0 H0 T'.heap (locs ++ L) := by
  obtain ⟨hz, hk⟩ := hF
  rw [h0] at hz hk
  exact ⟨by rw [e1]; exact hz, fun q h1 h2 => by rw [e1]; exact hk q h1 h2,
    ⟨Nat.le_trans hS.1 (by rw [e1]; exact hz), fun q h1 h2 => by rw [e1, hk q (Nat.lt_of_lt_of_le h1 hS.1) (fun z => h2 (hA q (Nat.lt_of_lt_of_le h1 hS.1) z))]; exact hS.2.1 q h1 h2, fun q hq => by
      rcases List.mem_append.mp hq with h | h
      · exact hS.2.2 q h
      · exact hf _ (hL q h)⟩⟩
theorem vx_calli {S SX : Type} {post : Int32 → S → Prop} {px : SX → Prop} {B : S → State → Prop} {BX : String → SX → State → Prop} {AX : Nat → Prop} (hr : vx_Run p l e R s m args below meth c H locs cells slots mc ms (F0 m pc ls st0) rest (va_Qi post B A1 a) (vx_X px BX AX) free) (hS : va_S A0 H0 H locs) (hA : ∀ q, q < H.size → A1 q → A0 q) (hf : ∀ q, free q → A0 q) (hAX : ∀ q, q < H.size → AX q → A0 q)
    (kx : ∀ (E : String) (ce : Cell) (q9 : Addr) (u : SX) (t : State) (H1 : Heap) (locs1 : List Loc), t.heap = H1 → s.vm.Alike t.vm → px u → BX E u t → H.size ≤ H1.size → (∀ q : Nat, q < H.size → ¬ AX q → H1[q]? = H[q]?) → va_S A0 H0 H1 locs1 → H1[q9]? = some ce → ce.vm = .none → s.vm.findClass E = some ce.cls → vx_W p l e R s m args below meth c H1 locs1 (cells + mc) (slots + ms) Q (F0 m pc ls rest) q9)
    (kk : ∀ (r : Int32) (u : S) (t : State) (H1 : Heap) (locs1 : List Loc), t.heap = H1 → s.vm.Alike t.vm → post r u → B u t → H.size ≤ H1.size → (∀ q : Nat, q < H.size → ¬ A1 q → H1[q]? = H[q]?) → va_S A0 H0 H1 locs1 → W p l e R s m args below meth c H1 locs1 (cells + mc) (slots + ms) Q (F0 m (pc + 3) ls (.int r :: rest))) : W p l e R s m args below meth c H locs cells slots Q (F0 m pc ls st0) := by
  intro T hT X
  rcases hr T hT X with ⟨v, st₀, t, T', L, h0, X', hL, e1, e2, ⟨⟨r, u, hv, hp, hb⟩, hF⟩, st⟩ | ⟨q, st₀, t, T', L, E, ce, h0, X', hL, e1, e2, ⟨u, hp, hb, hF⟩, hce, hcv, hcl, st⟩
  · cases hv
    obtain ⟨k1, k2, k3⟩ := vx_keep h0 e1 hS hA hf hL hF
    obtain ⟨t2, a1, b1⟩ := kk r u t T'.heap (locs ++ L) e1.symm (by rw [← e2]; exact X'.warmed.alike) hp hb k1 k2 k3 T' rfl X'
    exact ⟨t2, st t2 a1, b1⟩
  · obtain ⟨k1, k2, k3⟩ := vx_keep h0 e1 hS hAX hf hL hF
    obtain ⟨t2, a1, b1⟩ := kx E ce q u t T'.heap (locs ++ L) e1.symm (by rw [← e2]; exact X'.warmed.alike) hp hb k1 k2 k3 (by rw [e1]; exact hce) hcv hcl T' rfl X'
    exact ⟨t2, st.trans a1, b1⟩
theorem vx_calll {S SX : Type} {post : Int64 → S → Prop} {px : SX → Prop} {B : S → State → Prop} {BX : String → SX → State → Prop} {AX : Nat → Prop} (hr : vx_Run p l e R s m args below meth c H locs cells slots mc ms (F0 m pc ls st0) rest (va_Ql post B A1 a) (vx_X px BX AX) free) (hS : va_S A0 H0 H locs) (hA : ∀ q, q < H.size → A1 q → A0 q) (hf : ∀ q, free q → A0 q) (hAX : ∀ q, q < H.size → AX q → A0 q)
    (kx : ∀ (E : String) (ce : Cell) (q9 : Addr) (u : SX) (t : State) (H1 : Heap) (locs1 : List Loc), t.heap = H1 → s.vm.Alike t.vm → px u → BX E u t → H.size ≤ H1.size → (∀ q : Nat, q < H.size → ¬ AX q → H1[q]? = H[q]?) → va_S A0 H0 H1 locs1 → H1[q9]? = some ce → ce.vm = .none → s.vm.findClass E = some ce.cls → vx_W p l e R s m args below meth c H1 locs1 (cells + mc) (slots + ms) Q (F0 m pc ls rest) q9)
    (kk : ∀ (r : Int64) (u : S) (t : State) (H1 : Heap) (locs1 : List Loc), t.heap = H1 → s.vm.Alike t.vm → post r u → B u t → H.size ≤ H1.size → (∀ q : Nat, q < H.size → ¬ A1 q → H1[q]? = H[q]?) → va_S A0 H0 H1 locs1 → W p l e R s m args below meth c H1 locs1 (cells + mc) (slots + ms) Q (F0 m (pc + 3) ls (.long r :: rest))) : W p l e R s m args below meth c H locs cells slots Q (F0 m pc ls st0) := by
  intro T hT X
  rcases hr T hT X with ⟨v, st₀, t, T', L, h0, X', hL, e1, e2, ⟨⟨r, u, hv, hp, hb⟩, hF⟩, st⟩ | ⟨q, st₀, t, T', L, E, ce, h0, X', hL, e1, e2, ⟨u, hp, hb, hF⟩, hce, hcv, hcl, st⟩
  · cases hv
    obtain ⟨k1, k2, k3⟩ := vx_keep h0 e1 hS hA hf hL hF
    obtain ⟨t2, a1, b1⟩ := kk r u t T'.heap (locs ++ L) e1.symm (by rw [← e2]; exact X'.warmed.alike) hp hb k1 k2 k3 T' rfl X'
    exact ⟨t2, st t2 a1, b1⟩
  · obtain ⟨k1, k2, k3⟩ := vx_keep h0 e1 hS hAX hf hL hF
    obtain ⟨t2, a1, b1⟩ := kx E ce q u t T'.heap (locs ++ L) e1.symm (by rw [← e2]; exact X'.warmed.alike) hp hb k1 k2 k3 (by rw [e1]; exact hce) hcv hcl T' rfl X'
    exact ⟨t2, st.trans a1, b1⟩
theorem vx_callf {S SX : Type} {post : UInt32 → S → Prop} {px : SX → Prop} {B : S → State → Prop} {BX : String → SX → State → Prop} {AX : Nat → Prop} (hr : vx_Run p l e R s m args below meth c H locs cells slots mc ms (F0 m pc ls st0) rest (va_Qf post B A1 a) (vx_X px BX AX) free) (hS : va_S A0 H0 H locs) (hA : ∀ q, q < H.size → A1 q → A0 q) (hf : ∀ q, free q → A0 q) (hAX : ∀ q, q < H.size → AX q → A0 q)
    (kx : ∀ (E : String) (ce : Cell) (q9 : Addr) (u : SX) (t : State) (H1 : Heap) (locs1 : List Loc), t.heap = H1 → s.vm.Alike t.vm → px u → BX E u t → H.size ≤ H1.size → (∀ q : Nat, q < H.size → ¬ AX q → H1[q]? = H[q]?) → va_S A0 H0 H1 locs1 → H1[q9]? = some ce → ce.vm = .none → s.vm.findClass E = some ce.cls → vx_W p l e R s m args below meth c H1 locs1 (cells + mc) (slots + ms) Q (F0 m pc ls rest) q9)
    (kk : ∀ (r : UInt32) (u : S) (t : State) (H1 : Heap) (locs1 : List Loc), t.heap = H1 → s.vm.Alike t.vm → post r u → B u t → H.size ≤ H1.size → (∀ q : Nat, q < H.size → ¬ A1 q → H1[q]? = H[q]?) → va_S A0 H0 H1 locs1 → W p l e R s m args below meth c H1 locs1 (cells + mc) (slots + ms) Q (F0 m (pc + 3) ls (.float r :: rest))) : W p l e R s m args below meth c H locs cells slots Q (F0 m pc ls st0) := by
  intro T hT X
  rcases hr T hT X with ⟨v, st₀, t, T', L, h0, X', hL, e1, e2, ⟨⟨r, u, hv, hp, hb⟩, hF⟩, st⟩ | ⟨q, st₀, t, T', L, E, ce, h0, X', hL, e1, e2, ⟨u, hp, hb, hF⟩, hce, hcv, hcl, st⟩
  · cases hv
    obtain ⟨k1, k2, k3⟩ := vx_keep h0 e1 hS hA hf hL hF
    obtain ⟨t2, a1, b1⟩ := kk r u t T'.heap (locs ++ L) e1.symm (by rw [← e2]; exact X'.warmed.alike) hp hb k1 k2 k3 T' rfl X'
    exact ⟨t2, st t2 a1, b1⟩
  · obtain ⟨k1, k2, k3⟩ := vx_keep h0 e1 hS hAX hf hL hF
    obtain ⟨t2, a1, b1⟩ := kx E ce q u t T'.heap (locs ++ L) e1.symm (by rw [← e2]; exact X'.warmed.alike) hp hb k1 k2 k3 (by rw [e1]; exact hce) hcv hcl T' rfl X'
    exact ⟨t2, st.trans a1, b1⟩
theorem vx_calld {S SX : Type} {post : UInt64 → S → Prop} {px : SX → Prop} {B : S → State → Prop} {BX : String → SX → State → Prop} {AX : Nat → Prop} (hr : vx_Run p l e R s m args below meth c H locs cells slots mc ms (F0 m pc ls st0) rest (va_Qd post B A1 a) (vx_X px BX AX) free) (hS : va_S A0 H0 H locs) (hA : ∀ q, q < H.size → A1 q → A0 q) (hf : ∀ q, free q → A0 q) (hAX : ∀ q, q < H.size → AX q → A0 q)
    (kx : ∀ (E : String) (ce : Cell) (q9 : Addr) (u : SX) (t : State) (H1 : Heap) (locs1 : List Loc), t.heap = H1 → s.vm.Alike t.vm → px u → BX E u t → H.size ≤ H1.size → (∀ q : Nat, q < H.size → ¬ AX q → H1[q]? = H[q]?) → va_S A0 H0 H1 locs1 → H1[q9]? = some ce → ce.vm = .none → s.vm.findClass E = some ce.cls → vx_W p l e R s m args below meth c H1 locs1 (cells + mc) (slots + ms) Q (F0 m pc ls rest) q9)
    (kk : ∀ (r : UInt64) (u : S) (t : State) (H1 : Heap) (locs1 : List Loc), t.heap = H1 → s.vm.Alike t.vm → post r u → B u t → H.size ≤ H1.size → (∀ q : Nat, q < H.size → ¬ A1 q → H1[q]? = H[q]?) → va_S A0 H0 H1 locs1 → W p l e R s m args below meth c H1 locs1 (cells + mc) (slots + ms) Q (F0 m (pc + 3) ls (.double r :: rest))) : W p l e R s m args below meth c H locs cells slots Q (F0 m pc ls st0) := by
  intro T hT X
  rcases hr T hT X with ⟨v, st₀, t, T', L, h0, X', hL, e1, e2, ⟨⟨r, u, hv, hp, hb⟩, hF⟩, st⟩ | ⟨q, st₀, t, T', L, E, ce, h0, X', hL, e1, e2, ⟨u, hp, hb, hF⟩, hce, hcv, hcl, st⟩
  · cases hv
    obtain ⟨k1, k2, k3⟩ := vx_keep h0 e1 hS hA hf hL hF
    obtain ⟨t2, a1, b1⟩ := kk r u t T'.heap (locs ++ L) e1.symm (by rw [← e2]; exact X'.warmed.alike) hp hb k1 k2 k3 T' rfl X'
    exact ⟨t2, st t2 a1, b1⟩
  · obtain ⟨k1, k2, k3⟩ := vx_keep h0 e1 hS hAX hf hL hF
    obtain ⟨t2, a1, b1⟩ := kx E ce q u t T'.heap (locs ++ L) e1.symm (by rw [← e2]; exact X'.warmed.alike) hp hb k1 k2 k3 (by rw [e1]; exact hce) hcv hcl T' rfl X'
    exact ⟨t2, st.trans a1, b1⟩
theorem vx_callv {S SX : Type} {post : S → Prop} {px : SX → Prop} {B : S → State → Prop} {BX : String → SX → State → Prop} {AX : Nat → Prop} (hr : vx_Run p l e R s m args below meth c H locs cells slots mc ms (F0 m pc ls st0) rest (va_Qv post B A1 a) (vx_X px BX AX) free) (hS : va_S A0 H0 H locs) (hA : ∀ q, q < H.size → A1 q → A0 q) (hf : ∀ q, free q → A0 q) (hAX : ∀ q, q < H.size → AX q → A0 q)
    (kx : ∀ (E : String) (ce : Cell) (q9 : Addr) (u : SX) (t : State) (H1 : Heap) (locs1 : List Loc), t.heap = H1 → s.vm.Alike t.vm → px u → BX E u t → H.size ≤ H1.size → (∀ q : Nat, q < H.size → ¬ AX q → H1[q]? = H[q]?) → va_S A0 H0 H1 locs1 → H1[q9]? = some ce → ce.vm = .none → s.vm.findClass E = some ce.cls → vx_W p l e R s m args below meth c H1 locs1 (cells + mc) (slots + ms) Q (F0 m pc ls rest) q9)
    (kk : ∀ (u : S) (t : State) (H1 : Heap) (locs1 : List Loc), t.heap = H1 → s.vm.Alike t.vm → post u → B u t → H.size ≤ H1.size → (∀ q : Nat, q < H.size → ¬ A1 q → H1[q]? = H[q]?) → va_S A0 H0 H1 locs1 → W p l e R s m args below meth c H1 locs1 (cells + mc) (slots + ms) Q (F0 m (pc + 3) ls (rest))) : W p l e R s m args below meth c H locs cells slots Q (F0 m pc ls st0) := by
  intro T hT X
  rcases hr T hT X with ⟨v, st₀, t, T', L, h0, X', hL, e1, e2, ⟨⟨u, hv, hp, hb⟩, hF⟩, st⟩ | ⟨q, st₀, t, T', L, E, ce, h0, X', hL, e1, e2, ⟨u, hp, hb, hF⟩, hce, hcv, hcl, st⟩
  · cases hv
    obtain ⟨k1, k2, k3⟩ := vx_keep h0 e1 hS hA hf hL hF
    obtain ⟨t2, a1, b1⟩ := kk u t T'.heap (locs ++ L) e1.symm (by rw [← e2]; exact X'.warmed.alike) hp hb k1 k2 k3 T' rfl X'
    exact ⟨t2, st t2 a1, b1⟩
  · obtain ⟨k1, k2, k3⟩ := vx_keep h0 e1 hS hAX hf hL hF
    obtain ⟨t2, a1, b1⟩ := kx E ce q u t T'.heap (locs ++ L) e1.symm (by rw [← e2]; exact X'.warmed.alike) hp hb k1 k2 k3 (by rw [e1]; exact hce) hcv hcl T' rfl X'
    exact ⟨t2, st.trans a1, b1⟩
end Rows
section Ends
variable {p : Program} {l : Launch} {e : Env} {R : Room} {s : State} {m : MethodId} {args : Array Value} {below : List Frame} {meth : Method} {c : Code} {H : Heap} {locs : List Loc} {cells slots : Nat} {Q : State → Prop}
variable {mc ms : Nat} {free : Addr → Prop} {A0 A1 : Nat → Prop} {H0 : Heap} {a : Array Value} {ls : Array Slot} {st0 rest : List Value}
variable {Qc : Array Value → State → Outcome → State → Prop} {XC : String → State → State → Prop}
/-- what a body that may throw owes at its end -/
def vx_MQ (below : List Frame) (Qc : Array Value → State → Outcome → State → Prop) (XC : String → State → State → Prop) (a : Array Value) (s : State) (mc ms : Nat) (free : Addr → Prop) : State → Prop := fun t =>
  ∃ o, t.status = .running ∧ Ended t below o ∧ vx_Q Qc XC mc ms free a s o t
theorem vx_ret {g : JFrame} {mc ms : Nat} (k : W p l e R s m args below meth c H locs cells slots (MQ below Qc args s mc ms free) g) : W p l e R s m args below meth c H locs cells slots (vx_MQ below Qc XC args s mc ms free) g := by
  intro T hT X
  obtain ⟨t, a1, o, b1, b2, b3, b4⟩ := k T hT X
  exact ⟨t, a1, o, b1, b2, Or.inl ⟨b3, b4⟩⟩
/-- not caught here: it goes on to the caller -/
theorem vx_widen {g : JFrame} {q : Addr} {k n : Nat} (h1 : cells ≤ k) (h2 : slots ≤ n) (kk : vx_W p l e R s m args below meth c H locs k n Q g q) : vx_W p l e R s m args below meth c H locs cells slots Q g q := fun T hT X => kk T hT (stand_widen X h1 h2)
theorem vx_out {pc : Nat} {E : String} {ce : Cell} {q : Addr} {mc ms : Nat} (hout : ∀ x ∈ c.exceptionTable.toList, covers x pc = false) (hlocks : meth.locks = false) (hcell : H[q]? = some ce) (hv : ce.vm = .none) (hcl : s.vm.findClass E = some ce.cls)
    (hx : ∀ t : State, t.heap = H → s.vm.Alike t.vm → XC E s t) (hf : ∀ z ∈ locs, free z.base) (hc : cells ≤ mc) (hs : slots ≤ ms) :
    vx_W p l e R s m args below meth c H locs cells slots (vx_MQ below Qc XC args s mc ms free) (F0 m pc ls rest) q := by
  intro T hT X
  obtain ⟨st1, hrun, hend, hW, hsm⟩ := X.leaveThrown q (g := F0 m pc ls rest) rfl rfl rfl hout hlocks
  have hcell9 : (T.setFrames (.throwing q :: below)).heap[q]? = some ce := by
    show T.heap[q]? = some ce
    rw [hT]; exact hcell
  exact ⟨_, st1, .threw q, hrun, hend, Or.inr ⟨q, rfl, E, ce, locs, hx _ hT hW.alike, hcell9, hv, hcl, hW, hsm.mono hc hs, hf⟩⟩
theorem vx_frame {U : State} {k n : Nat} (h : s.sameButNew ({ U with vm := s.vm } : State) locs k n) : s.heap.size ≤ U.heap.size ∧ ∀ q : Nat, q < s.heap.size → (∀ z ∈ locs, z.base ≠ q) → U.heap[q]? = s.heap[q]? := by
  obtain ⟨-, h2, -, -, -, h6⟩ := h
  refine ⟨h2, fun q hq hz => ?_⟩
  obtain ⟨c9, e1, e2, e3, e4⟩ := h6 q _ (Array.getElem?_eq_getElem hq)
  have hs : c9.slots = (s.heap[q]).slots := Array.ext_getElem? fun i => e4 i fun hm => hz _ hm rfl
  have h9 : c9 = s.heap[q] := by
    rw [hs] at e2
    exact e2
  have e5 : U.heap[q]? = some c9 := e1
  rw [e5, h9, Array.getElem?_eq_getElem hq]
/-- the words of a throw but the four that speak of the heap -/
def vx_no (w : Cond) : Bool := decide (w ≠ .isRef (.static Bundle.tN "UNASSIGNED_STACK" Bundle.steD)) && decide (w ≠ .isRef (.static Bundle.tN "SUPPRESSED_SENTINEL" Bundle.listD)) && decide (w ≠ .laysStatic Bundle.tN "UNASSIGNED_STACK" Bundle.steD) && decide (w ≠ .laysStatic Bundle.tN "SUPPRESSED_SENTINEL" Bundle.listD)
def vx_at0 (own : String) (ic : Nat) (X : String) (names : List String) : List Cond := (Bundle.ownAtoms0 own ic X names).filter vx_no
def vx_atS (own : String) (ic : Nat) (X : String) (names : List String) : List Cond := (Bundle.ownAtoms own ic X names).filter vx_no
/-- a word that the tables alone decide, or a good one -/
def vx_ot (w : Cond) : Bool := w.onTables || goodWord w
theorem vx_ot_at {args a' : Array Value} {s U : State} {w : Cond} (hW : s.WarmedH U.vm) (hvm : s.vm = U.vm) (hg : vx_ot w = true) (h : w.before args s = true) : w.before a' U = true := by
  simp only [vx_ot, Bool.or_eq_true] at hg
  rcases hg with hg | hg
  · exact va_tabs hg hvm h
  · exact word_at hW (good_of_word hg) h
/-- a list's words: the good ones out of the method's own list, the others by premises of their own -/
theorem vx_hat {args : Array Value} {s : State} {L B : List Cond} (h1 : ∀ w ∈ L.filter goodWord, w.before args s = true) (h2 : ∀ w ∈ L.filter (fun w => !goodWord w), w ∈ B) (h3 : ∀ w ∈ B, w.before args s = true) : ∀ w ∈ L, w.before args s = true := by
  intro w hw
  by_cases g : goodWord w = true
  · exact h1 w (List.mem_filter.mpr ⟨hw, g⟩)
  · refine h3 w (h2 w (List.mem_filter.mpr ⟨hw, ?_⟩))
    show (!goodWord w) = true
    cases hgw : goodWord w
    · rfl
    · exact absurd hgw g
theorem vx_c {args : Array Value} {s : State} {w : Cond} {B : List Cond} (h : w.before args s = true) (t : ∀ w ∈ B, w.before args s = true) : ∀ w' ∈ w :: B, w'.before args s = true := fun w' h' => (List.mem_cons.mp h').elim (fun e => by rw [e]; exact h) (t w')
theorem vx_n {args : Array Value} {s : State} : ∀ w ∈ ([] : List Cond), w.before args s = true := fun _ h => nomatch h
theorem vx_own {args : Array Value} {s : State} {L : List Cond} (h1 : ∀ w ∈ L.filter vx_no, w.before args s = true)
    (hU : (Cond.isRef (.static Bundle.tN "UNASSIGNED_STACK" Bundle.steD)).before args s = true) (hN : (Cond.isRef (.static Bundle.tN "SUPPRESSED_SENTINEL" Bundle.listD)).before args s = true)
    (lU : (Cond.laysStatic Bundle.tN "UNASSIGNED_STACK" Bundle.steD).before args s = true) (lN : (Cond.laysStatic Bundle.tN "SUPPRESSED_SENTINEL" Bundle.listD).before args s = true) : ∀ w ∈ L, w.before args s = true := by
  intro w hw
  by_cases e1 : w = .isRef (.static Bundle.tN "UNASSIGNED_STACK" Bundle.steD)
  · rw [e1]; exact hU
  · by_cases e2 : w = .isRef (.static Bundle.tN "SUPPRESSED_SENTINEL" Bundle.listD)
    · rw [e2]; exact hN
    · by_cases e3 : w = .laysStatic Bundle.tN "UNASSIGNED_STACK" Bundle.steD
      · rw [e3]; exact lU
      · by_cases e4 : w = .laysStatic Bundle.tN "SUPPRESSED_SENTINEL" Bundle.listD
        · rw [e4]; exact lN
        · exact h1 w (List.mem_filter.mpr ⟨hw, by unfold vx_no; rw [decide_eq_true e1, decide_eq_true e2, decide_eq_true e3, decide_eq_true e4]; rfl⟩)
/-- where a static field lies, its class's statics cell in H -/
def vx_L (C n d : String) (A : Nat → Prop) (U : State) (H : Heap) : Prop := ∃ (c : ClassId) (k : Class) (i : Nat) (f : Field) (a : Nat) (cell : Cell), U.vm.findClass C = some c ∧ U.fieldFound? C n d = some (c, k, i, f) ∧ f.isStatic = true ∧ k.statics = some a ∧ H[a]? = some cell ∧ cell.vm.isStatics = true ∧ cell.cls = c ∧ f.slot < cell.slots.size ∧ k.staticTypes[f.slot]? = some f.type ∧ ¬ A a
theorem vx_L.moved {C n d : String} {A : Nat → Prop} {u U : State} {H : Heap} (hvm : u.vm.Alike U.vm) (h : vx_L C n d A u H) : vx_L C n d A U H := by
  obtain ⟨c, k, i, f, a, cell, h1, h2, h3, h4, h5, h6, h7, h8, h9, h10⟩ := h
  obtain ⟨k', hi', he⟩ := State.fieldFound?_setVm hvm h2
  exact ⟨c, k', i, f, a, cell, by rw [hvm.findClass]; exact h1, hi', h3, by rw [he]; exact h4, h5, h6, h7, h8, by rw [he]; exact h9, h10⟩
theorem vx_L.kept {C n d : String} {A : Nat → Prop} {U : State} {H H1 : Heap} (h : vx_L C n d A U H) (hq : ∀ a : Nat, a < H.size → ¬ A a → H1[a]? = H[a]?) : vx_L C n d A U H1 := by
  obtain ⟨c, k, i, f, a, cell, h1, h2, h3, h4, h5, h6, h7, h8, h9, h10⟩ := h
  exact ⟨c, k, i, f, a, cell, h1, h2, h3, h4, by rw [hq a (Array.getElem?_eq_some_iff.mp h5).1 h10]; exact h5, h6, h7, h8, h9, h10⟩
theorem vx_L.narrow {C n d : String} {A B : Nat → Prop} {U : State} {H : Heap} (h : vx_L C n d A U H) (hAB : ∀ q, B q → A q) : vx_L C n d B U H := by
  obtain ⟨c, k, i, f, a, cell, h1, h2, h3, h4, h5, h6, h7, h8, h9, h10⟩ := h
  exact ⟨c, k, i, f, a, cell, h1, h2, h3, h4, h5, h6, h7, h8, h9, fun z => h10 (hAB _ z)⟩
theorem vx_L.word {C n d : String} {A : Nat → Prop} {s : State} {args : Array Value} (h : vx_L C n d A s s.heap) : (Cond.laysStatic C n d).before args s = true := by
  obtain ⟨c, k, i, f, a, cell, h1, h2, h3, h4, h5, h6, h7, h8, h9, -⟩ := h
  show (Cond.laysStatic C n d).holds args s none s [] = true
  exact Cond.laysStatic_of h1 h2 h3 h4 h5 h6 h7 h8 h9
/-- .. and what it holds: null or some reference -/
def vx_Zq (C n d : String) (A : Nat → Prop) (U : State) (H : Heap) : Prop := va_Zq C n d A U H ∧ vx_L C n d A U H
theorem vx_Zq.moved {C n d : String} {A : Nat → Prop} {u U : State} {H : Heap} (hvm : u.vm.Alike U.vm) (h : vx_Zq C n d A u H) : vx_Zq C n d A U H := ⟨va_Zq.moved hvm h.1, vx_L.moved hvm h.2⟩
theorem vx_Zq.kept {C n d : String} {A : Nat → Prop} {U : State} {H H1 : Heap} (h : vx_Zq C n d A U H) (hq : ∀ a : Nat, a < H.size → ¬ A a → H1[a]? = H[a]?) : vx_Zq C n d A U H1 := ⟨va_Zq.kept h.1 hq, vx_L.kept h.2 hq⟩
theorem vx_Zq.narrow {C n d : String} {A B : Nat → Prop} {U : State} {H : Heap} (h : vx_Zq C n d A U H) (hAB : ∀ q, B q → A q) : vx_Zq C n d B U H := ⟨va_Zq.narrow h.1 hAB, vx_L.narrow h.2 hAB⟩
theorem vx_Zqof {args : Array Value} {s : State} {C n d : String} {A : Nat → Prop} (hl : (Cond.laysStatic C n d).before args s = true) (hini : (Cond.initialized C).before args s = true) (h : (Cond.isRef (.static C n d)).before args s = true) (hA : ∀ a : Nat, a < s.heap.size → ¬ A a) : vx_Zq C n d A s s.heap := by
  refine ⟨va_Zqof hl hini h hA, ?_⟩
  obtain ⟨c, k, i, f, a, cell, h1, h2, h3, h4, h5, h6, h7, h8, h9⟩ := Cond.laysStatic_spec hl
  exact ⟨c, k, i, f, a, cell, h1, h2, h3, h4, h5, h6, h7, h8, h9, hA a (Array.getElem?_eq_some_iff.mp h5).1⟩
theorem vx_isRef {C n d : String} {v : Value} {A : Nat → Prop} {s : State} {args : Array Value} (h : va_Z C n d v A s s.heap) (hv : v.isRef = true) : (Cond.isRef (.static C n d)).before args s = true := by
  obtain ⟨cf, kf, fi, f, a, cell, h1, h2, h3, h4, h5, h6, h7, -⟩ := h
  have he : (Term.static C n d).eval args s none [] s = some v := by
    simp [Term.eval, State.fieldNamed?, h1, h2, h4, h5, h6, h7]
  simp only [Cond.before, Cond.holds, Cond.value, he]
  cases v <;> simp_all [Value.isRef]
theorem vx_isRefq {C n d : String} {A : Nat → Prop} {s : State} {args : Array Value} (h : va_Zq C n d A s s.heap) : (Cond.isRef (.static C n d)).before args s = true := by
  rcases h with h | ⟨t, h⟩
  · exact vx_isRef h rfl
  · exact vx_isRef h rfl
/-- the same frame, seen from here: as if the method were called anew in this heap -/
theorem vx_rebase {T : State} (X : Stand p l e R s m args below meth c T locs cells slots) {R' : Room} (hf : R'.frames ≤ R.frames) (hl : R'.locals ≤ R.locals) (hc : cells + R'.cells ≤ R.cells) (hs : slots + R'.slots ≤ R.slots) :
    Stand p l e R' ((T.setVm s.vm).setFrames (.invoking m args :: below)) m args below meth c T [] 0 0 := by
  have htop : (T.setVm s.vm).topJava?.isSome := X.here.top
  have hF : ((T.setVm s.vm).setFrames (.invoking m args :: below)).frames = .invoking m args :: below := State.frames_setFrames _ (State.cur_lt_of_top htop)
  obtain ⟨g₀, hg0⟩ := Option.isSome_iff_exists.mp htop
  obtain ⟨r, hr⟩ := State.topJava?_eq_some.mp hg0
  have hl9 : e.platform.stackLimits (T.setVm s.vm).me = e.platform.stackLimits s.me := X.limits
  have hb9 : (T.setVm s.vm).me.stackBytes = s.me.stackBytes := X.bytes
  refine ⟨X.admits, X.cas, X.clock, hF, ?_, X.hears, X.method, X.code, X.here, X.tail, X.warmed, ?_, ?_, ?_⟩
  · have h := X.room
    have hU : ((T.setVm s.vm).setFrames (.invoking m args :: below)).localsInUse = s.localsInUse := by
      rw [State.localsInUse_invoking hF (meth := meth) (c := c) X.method X.code, State.localsInUse_invoking X.frames X.method X.code]
    simp only [State.hasRoom, Bool.and_eq_true, decide_eq_true_eq] at h ⊢
    obtain ⟨⟨⟨⟨h1, h2, h3, h4, h5, h6⟩, h7⟩, h8⟩, h9⟩ := h
    rw [X.frames, List.length_cons] at h2 h3
    have q1 := X.heapSize
    have q2 := X.used
    simp only [hF, hU, List.length_cons, State.stackLimits_setFrames, State.stackBytes_setFrames, hl9, hb9]
    refine ⟨⟨⟨⟨by omega, by omega, by omega, by omega, by omega, h6⟩, ?_⟩, ?_⟩, X.book⟩
    · show T.heap.size + R'.cells ≤ e.platform.maxCells
      omega
    · show T.slotsUsed + R'.slots ≤ e.platform.maxSlots
      omega
  · rw [State.stackLimits_setFrames]; rfl
  · rw [State.stackBytes_setFrames]; rfl
  · refine ⟨?_, Nat.le_refl _, Nat.le_refl _, ?_, ?_, fun a c9 h9 => ⟨c9, h9, rfl, rfl, fun _ _ => rfl⟩⟩
    · obtain ⟨t, ht, -⟩ := State.frames_cons hr
      show T.setVm s.vm = { ((T.setVm s.vm).setFrames (.invoking m args :: below)).setFrames (T.setVm s.vm).frames with heap := T.heap, slotsUsed := T.slotsUsed }
      rw [State.setFrames_setFrames, State.setFrames_self ht]
      rfl
    · show T.slotsUsed = T.slotsUsed + ((T.heap.toList.drop T.heap.size).map (·.slots.size)).sum
      rw [List.drop_eq_nil_of_le (Nat.le_of_eq Array.length_toList)]
      rfl
    · show ((T.heap.toList.drop T.heap.size).map (·.slots.size)).sum ≤ 0
      rw [List.drop_eq_nil_of_le (Nat.le_of_eq Array.length_toList)]
      exact Nat.le_refl _
/-- 'throw new E()': new; dup; invokespecial; athrow -/
theorem vx_throw0 {cc : ByteArray} {pc : Nat} (hexec : p.tables.exec = Jvm.exec) (hb : c.code = cc) (hl : l.stackTraces = false) {own cls : String} {names : List String} {ik ic mc ms : Nat} {A : Nat → Prop}
    (hown : s.vm.findClass own = some m.cls) (hcls : Bundle.fit cls = true) (hnames : ∀ n ∈ names, Bundle.fit n = true)
    (hk : (Cond.classLink own ik cls).before args s = true) (hini : (Cond.initialized cls).before args s = true) (hat : ∀ w ∈ vx_at0 own ic cls names, w.before args s = true)
    (hgood : ∀ w ∈ Cond.classLink own ik cls :: Cond.initialized cls :: vx_at0 own ic cls names, vx_ot w = true)
    (hU : vx_Zq Bundle.tN "UNASSIGNED_STACK" Bundle.steD A s s.heap) (hN : vx_Zq Bundle.tN "SUPPRESSED_SENTINEL" Bundle.listD A s s.heap) (hS : va_S A s.heap H locs) (hsize : ls.size = c.maxLocals)
    (d0 : decode cc pc = .ok (.new ik, 3)) (d3 : decode cc (pc + 3) = .ok (.dup, 1)) (d4 : decode cc (pc + 4) = .ok (.invokespecial ic, 3)) (d7 : decode cc (pc + 7) = .ok (.athrow, 1))
    (hout : ∀ x ∈ c.exceptionTable.toList, covers x (pc + 7) = false)
    (hRframes : names.length + 3 < R.frames) (hRlocals : (rest.map fun v => v.category).sum + (13 * (names.length + 1) + 42) ≤ R.locals) (hRcells : cells + 1 ≤ R.cells) (hRslots : slots + 6 ≤ R.slots) (hlocks : meth.locks = false)
    (hx : ∀ t : State, s.vm.Alike t.vm → H.size ≤ t.heap.size → (∀ q : Nat, q < H.size → t.heap[q]? = H[q]?) → XC cls s t)
    (hf : ∀ z ∈ locs, free z.base) (hc : cells + 1 ≤ mc) (hs : slots + 6 ≤ ms) :
    W p l e R s m args below meth c H locs cells slots (vx_MQ below Qc XC args s mc ms free) (F0 m pc ls rest) := by
  intro T hT X
  have htr : e.platform.stackTraces = false := (show e.platform.stackTraces = l.stackTraces by rw [X.admits.platform]).trans hl
  have Y := vx_rebase X (R' := { frames := R.frames, locals := R.locals, cells := 1, slots := 6 }) (Nat.le_refl _) (Nat.le_refl _) hRcells hRslots
  obtain ⟨s', hA⟩ : ∃ z, z = (T.setVm s.vm).setFrames (.invoking m args :: below) := ⟨_, rfl⟩
  rw [← hA] at Y
  have hvm : s'.vm = s.vm := by rw [hA]; rfl
  have hhp : s'.heap = H := by rw [hA]; exact hT
  have hW0 : s.WarmedH s'.vm := by rw [hvm]; exact State.WarmedH.refl s
  have hat' : ∀ w ∈ vx_at0 own ic cls names, w.before args s' = true := fun w hw => vx_ot_at hW0 hvm.symm (hgood w (List.mem_cons_of_mem _ (List.mem_cons_of_mem _ hw))) (hat w hw)
  have hk' : (Cond.classLink own ik cls).before args s' = true := vx_ot_at hW0 hvm.symm (hgood _ List.mem_cons_self) hk
  have hini' : (Cond.initialized cls).before args s' = true := vx_ot_at hW0 hvm.symm (hgood _ (List.mem_cons_of_mem _ List.mem_cons_self)) hini
  have hU' : vx_Zq Bundle.tN "UNASSIGNED_STACK" Bundle.steD A s' s'.heap := by rw [hhp]; exact vx_Zq.moved hW0.alike (hU.kept hS.2.1)
  have hN' : vx_Zq Bundle.tN "SUPPRESSED_SENTINEL" Bundle.listD A s' s'.heap := by rw [hhp]; exact vx_Zq.moved hW0.alike (hN.kept hS.2.1)
  have h : ∀ w ∈ Bundle.ownAtoms0 own ic cls names, w.before args s' = true := vx_own hat' (vx_isRefq hU'.1) (vx_isRefq hN'.1) hU'.2.word hN'.2.word
  have hown' : s'.vm.findClass own = some m.cls := by rw [hvm]; exact hown
  have hins : (Cond.instantiable cls 6).before args s' = true := h _ (by simp [Bundle.ownAtoms0])
  obtain ⟨vm₁, cX, kX, hfX, hkX, -, -, X₁, st1⟩ := Y.newCold hexec (own := own) (C := cls) (index := ik) (n := 6) hown' hk' hins hini'
    (g := F0 m pc ls rest) rfl (by rw [hb]; exact d0) (Nat.le_refl _) (Nat.le_refl _)
  generalize hT1 : (T.setVm vm₁).pushCell { cls := cX, slots := kX.instanceTypes.map defaultValue, vm := .none } = T1 at X₁ st1
  have hcat : (Value.ref T.heap.size).category = 1 := rfl
  have hcellA : T1.heap[T.heap.size]? = some (freshCell cX kX) := by rw [← hT1]; exact State.heap_pushCell_size _ _
  have d3' : decode c.code (pc + 3) = .ok (.dup, 1) := by rw [hb]; exact d3
  obtain ⟨U, hsteps, hrun, hend, hW, hsame, ce, hce, hO⟩ := X₁.ctorThrow0 hexec htr (own := own) (cls := cls) (names := names) (ic := ic) hown' hcls hnames h (fun x hx => nomatch hx) hfX hkX hcellA (by rw [hhp, hT]; exact Nat.le_refl _)
    (g := { method := m, pc := pc + 4, locals := ls, stack := .ref T.heap.size :: .ref T.heap.size :: rest, locked := none }) rfl hsize rfl rfl (rest := rest) rfl
    (by rw [hb]; exact d4) (by rw [hb]; exact d7) hout hRframes (by simp only [List.map_cons, List.sum_cons, hcat]; omega) hlocks
  obtain ⟨f1, f2⟩ := vx_frame hsame
  rw [hhp] at f1 f2
  have hWs : s.WarmedH U.vm := State.WarmedH.trans hW0 hW
  have hcl : s.vm.findClass cls = some ce.cls := by
    have h9 := hO.cls
    rw [hvm] at h9
    exact h9
  have hall : s.sameButNew ({ U with vm := s.vm } : State) locs mc ms := by
    subst hA
    obtain ⟨e1, e2⟩ := hsame
    rw [State.setFrames_setFrames] at e1
    have h2 : (T.setVm s.vm).sameButNew ({ U with vm := s.vm } : State) [] (0 + 1) (0 + 6) := ⟨e1, e2⟩
    have h3 := X.same.trans h2
    rw [List.append_nil] at h3
    exact h3.mono hc hs
  refine ⟨U, ?_, .threw T.heap.size, hrun, hend, Or.inr ⟨T.heap.size, rfl, cls, ce, locs, hx U hWs.alike f1 (fun q hq => f2 q hq (fun z hz => nomatch hz)), hce, hO.vm, hcl, hWs, hall, hf⟩⟩
  refine st1 _ ?_
  show Steps p.tables e below (T1.setTop { method := m, pc := pc + 3, locals := ls, stack := .ref T.heap.size :: rest, locked := none }) _
  jvm_step X₁.here [X₁.here.top, hexec, d3', Value.category]
  exact hsteps
/-- 'throw new E("text")': new; dup; ldc; invokespecial; athrow -/
theorem vx_throwS {cc : ByteArray} {pc : Nat} (hexec : p.tables.exec = Jvm.exec) (hb : c.code = cc) (hl : l.stackTraces = false) {own cls text : String} {names : List String} {ik is ic mc ms sa : Nat} {A : Nat → Prop}
    (hown : s.vm.findClass own = some m.cls) (hcls : Bundle.fit cls = true) (hnames : ∀ n ∈ names, Bundle.fit n = true)
    (hk : (Cond.classLink own ik cls).before args s = true) (hini : (Cond.initialized cls).before args s = true) (hstr : vk_R own is text sa s) (hat : ∀ w ∈ vx_atS own ic cls names, w.before args s = true)
    (hgood : ∀ w ∈ Cond.classLink own ik cls :: Cond.initialized cls :: vx_atS own ic cls names, vx_ot w = true)
    (hU : vx_Zq Bundle.tN "UNASSIGNED_STACK" Bundle.steD A s s.heap) (hN : vx_Zq Bundle.tN "SUPPRESSED_SENTINEL" Bundle.listD A s s.heap) (hS : va_S A s.heap H locs) (hsize : ls.size = c.maxLocals)
    (d0 : decode cc pc = .ok (.new ik, 3)) (d3 : decode cc (pc + 3) = .ok (.dup, 1)) (d4 : decode cc (pc + 4) = .ok (.ldc is, 2)) (d6 : decode cc (pc + 6) = .ok (.invokespecial ic, 3)) (d9 : decode cc (pc + 9) = .ok (.athrow, 1))
    (hout : ∀ x ∈ c.exceptionTable.toList, covers x (pc + 9) = false)
    (hRframes : names.length + 3 < R.frames) (hRlocals : (rest.map fun v => v.category).sum + (13 * (names.length + 1) + 43) ≤ R.locals) (hRcells : cells + 1 ≤ R.cells) (hRslots : slots + 6 ≤ R.slots) (hlocks : meth.locks = false)
    (hx : ∀ t : State, s.vm.Alike t.vm → H.size ≤ t.heap.size → (∀ q : Nat, q < H.size → t.heap[q]? = H[q]?) → XC cls s t)
    (hf : ∀ z ∈ locs, free z.base) (hc : cells + 1 ≤ mc) (hs : slots + 6 ≤ ms) :
    W p l e R s m args below meth c H locs cells slots (vx_MQ below Qc XC args s mc ms free) (F0 m pc ls rest) := by
  intro T hT X
  have htr : e.platform.stackTraces = false := (show e.platform.stackTraces = l.stackTraces by rw [X.admits.platform]).trans hl
  have Y := vx_rebase X (R' := { frames := R.frames, locals := R.locals, cells := 1, slots := 6 }) (Nat.le_refl _) (Nat.le_refl _) hRcells hRslots
  obtain ⟨s', hA⟩ : ∃ z, z = (T.setVm s.vm).setFrames (.invoking m args :: below) := ⟨_, rfl⟩
  rw [← hA] at Y
  have hvm : s'.vm = s.vm := by rw [hA]; rfl
  have hhp : s'.heap = H := by rw [hA]; exact hT
  have hW0 : s.WarmedH s'.vm := by rw [hvm]; exact State.WarmedH.refl s
  have hat' : ∀ w ∈ vx_atS own ic cls names, w.before args s' = true := fun w hw => vx_ot_at hW0 hvm.symm (hgood w (List.mem_cons_of_mem _ (List.mem_cons_of_mem _ hw))) (hat w hw)
  have hk' : (Cond.classLink own ik cls).before args s' = true := vx_ot_at hW0 hvm.symm (hgood _ List.mem_cons_self) hk
  have hini' : (Cond.initialized cls).before args s' = true := vx_ot_at hW0 hvm.symm (hgood _ (List.mem_cons_of_mem _ List.mem_cons_self)) hini
  have hU' : vx_Zq Bundle.tN "UNASSIGNED_STACK" Bundle.steD A s' s'.heap := by rw [hhp]; exact vx_Zq.moved hW0.alike (hU.kept hS.2.1)
  have hN' : vx_Zq Bundle.tN "SUPPRESSED_SENTINEL" Bundle.listD A s' s'.heap := by rw [hhp]; exact vx_Zq.moved hW0.alike (hN.kept hS.2.1)
  have h : ∀ w ∈ Bundle.ownAtoms own ic cls names, w.before args s' = true := vx_own hat' (vx_isRefq hU'.1) (vx_isRefq hN'.1) hU'.2.word hN'.2.word
  have hown' : s'.vm.findClass own = some m.cls := by rw [hvm]; exact hown
  have hins : (Cond.instantiable cls 6).before args s' = true := h _ (by simp [Bundle.ownAtoms])
  obtain ⟨vm₁, cX, kX, hfX, hkX, -, -, X₁, st1⟩ := Y.newCold hexec (own := own) (C := cls) (index := ik) (n := 6) hown' hk' hins hini'
    (g := F0 m pc ls rest) rfl (by rw [hb]; exact d0) (Nat.le_refl _) (Nat.le_refl _)
  generalize hT1 : (T.setVm vm₁).pushCell { cls := cX, slots := kX.instanceTypes.map defaultValue, vm := .none } = T1 at X₁ st1
  have hcat : (Value.ref T.heap.size).category = 1 := rfl
  have hcellA : T1.heap[T.heap.size]? = some (freshCell cX kX) := by rw [← hT1]; exact State.heap_pushCell_size _ _
  have d3' : decode c.code (pc + 3) = .ok (.dup, 1) := by rw [hb]; exact d3
  have d4' : decode c.code (pc + 4) = .ok (.ldc is, 2) := by rw [hb]; exact d4
  have hstr' : vk_R own is text sa s' := vk_R.warm hW0 hstr
  obtain ⟨U, hsteps, hrun, hend, hW, hsame, ce, hce, hO⟩ := X₁.ctorThrowS hexec htr (own := own) (cls := cls) (names := names) (ic := ic) hown' hcls hnames h (fun x hx => nomatch hx) hfX hkX hcellA (by rw [hhp, hT]; exact Nat.le_refl _) (msg := .ref sa) rfl
    (g := { method := m, pc := pc + 6, locals := ls, stack := .ref sa :: .ref T.heap.size :: .ref T.heap.size :: rest, locked := none }) rfl hsize rfl rfl (rest := rest) rfl
    (by rw [hb]; exact d6) (by rw [hb]; exact d9) hout hRframes (by simp only [List.map_cons, List.sum_cons, hcat]; omega) hlocks
  obtain ⟨f1, f2⟩ := vx_frame hsame
  rw [hhp] at f1 f2
  have hWs : s.WarmedH U.vm := State.WarmedH.trans hW0 hW
  have hcl : s.vm.findClass cls = some ce.cls := by
    have h9 := hO.cls
    rw [hvm] at h9
    exact h9
  have hall : s.sameButNew ({ U with vm := s.vm } : State) locs mc ms := by
    subst hA
    obtain ⟨e1, e2⟩ := hsame
    rw [State.setFrames_setFrames] at e1
    have h2 : (T.setVm s.vm).sameButNew ({ U with vm := s.vm } : State) [] (0 + 1) (0 + 6) := ⟨e1, e2⟩
    have h3 := X.same.trans h2
    rw [List.append_nil] at h3
    exact h3.mono hc hs
  refine ⟨U, ?_, .threw T.heap.size, hrun, hend, Or.inr ⟨T.heap.size, rfl, cls, ce, locs, hx U hWs.alike f1 (fun q hq => f2 q hq (fun z hz => nomatch hz)), hce, hO.vm, hcl, hWs, hall, hf⟩⟩
  refine st1 _ ?_
  show Steps p.tables e below (T1.setTop { method := m, pc := pc + 3, locals := ls, stack := .ref T.heap.size :: rest, locked := none }) _
  jvm_step X₁.here [X₁.here.top, hexec, d3', Value.category]
  exact X₁.ldcString hexec (own := own) (text := text) (index := is) (a := sa) hown' hstr'.1 hstr'.2
    (g := { method := m, pc := pc + 4, locals := ls, stack := .ref T.heap.size :: .ref T.heap.size :: rest, locked := none }) rfl d4' _ hsteps
/-- 'throw new E("text")', the text by a wide index -/
theorem vx_throwSW {cc : ByteArray} {pc : Nat} (hexec : p.tables.exec = Jvm.exec) (hb : c.code = cc) (hl : l.stackTraces = false) {own cls text : String} {names : List String} {ik is ic mc ms sa : Nat} {A : Nat → Prop}
    (hown : s.vm.findClass own = some m.cls) (hcls : Bundle.fit cls = true) (hnames : ∀ n ∈ names, Bundle.fit n = true)
    (hk : (Cond.classLink own ik cls).before args s = true) (hini : (Cond.initialized cls).before args s = true) (hstr : vk_R own is text sa s) (hat : ∀ w ∈ vx_atS own ic cls names, w.before args s = true)
    (hgood : ∀ w ∈ Cond.classLink own ik cls :: Cond.initialized cls :: vx_atS own ic cls names, vx_ot w = true)
    (hU : vx_Zq Bundle.tN "UNASSIGNED_STACK" Bundle.steD A s s.heap) (hN : vx_Zq Bundle.tN "SUPPRESSED_SENTINEL" Bundle.listD A s s.heap) (hS : va_S A s.heap H locs) (hsize : ls.size = c.maxLocals)
    (d0 : decode cc pc = .ok (.new ik, 3)) (d3 : decode cc (pc + 3) = .ok (.dup, 1)) (d4 : decode cc (pc + 4) = .ok (.ldc_w is, 3)) (d7 : decode cc (pc + 7) = .ok (.invokespecial ic, 3)) (d10 : decode cc (pc + 10) = .ok (.athrow, 1))
    (hout : ∀ x ∈ c.exceptionTable.toList, covers x (pc + 10) = false)
    (hRframes : names.length + 3 < R.frames) (hRlocals : (rest.map fun v => v.category).sum + (13 * (names.length + 1) + 43) ≤ R.locals) (hRcells : cells + 1 ≤ R.cells) (hRslots : slots + 6 ≤ R.slots) (hlocks : meth.locks = false)
    (hx : ∀ t : State, s.vm.Alike t.vm → H.size ≤ t.heap.size → (∀ q : Nat, q < H.size → t.heap[q]? = H[q]?) → XC cls s t)
    (hf : ∀ z ∈ locs, free z.base) (hc : cells + 1 ≤ mc) (hs : slots + 6 ≤ ms) :
    W p l e R s m args below meth c H locs cells slots (vx_MQ below Qc XC args s mc ms free) (F0 m pc ls rest) := by
  intro T hT X
  have htr : e.platform.stackTraces = false := (show e.platform.stackTraces = l.stackTraces by rw [X.admits.platform]).trans hl
  have Y := vx_rebase X (R' := { frames := R.frames, locals := R.locals, cells := 1, slots := 6 }) (Nat.le_refl _) (Nat.le_refl _) hRcells hRslots
  obtain ⟨s', hA⟩ : ∃ z, z = (T.setVm s.vm).setFrames (.invoking m args :: below) := ⟨_, rfl⟩
  rw [← hA] at Y
  have hvm : s'.vm = s.vm := by rw [hA]; rfl
  have hhp : s'.heap = H := by rw [hA]; exact hT
  have hW0 : s.WarmedH s'.vm := by rw [hvm]; exact State.WarmedH.refl s
  have hat' : ∀ w ∈ vx_atS own ic cls names, w.before args s' = true := fun w hw => vx_ot_at hW0 hvm.symm (hgood w (List.mem_cons_of_mem _ (List.mem_cons_of_mem _ hw))) (hat w hw)
  have hk' : (Cond.classLink own ik cls).before args s' = true := vx_ot_at hW0 hvm.symm (hgood _ List.mem_cons_self) hk
  have hini' : (Cond.initialized cls).before args s' = true := vx_ot_at hW0 hvm.symm (hgood _ (List.mem_cons_of_mem _ List.mem_cons_self)) hini
  have hU' : vx_Zq Bundle.tN "UNASSIGNED_STACK" Bundle.steD A s' s'.heap := by rw [hhp]; exact vx_Zq.moved hW0.alike (hU.kept hS.2.1)
  have hN' : vx_Zq Bundle.tN "SUPPRESSED_SENTINEL" Bundle.listD A s' s'.heap := by rw [hhp]; exact vx_Zq.moved hW0.alike (hN.kept hS.2.1)
  have h : ∀ w ∈ Bundle.ownAtoms own ic cls names, w.before args s' = true := vx_own hat' (vx_isRefq hU'.1) (vx_isRefq hN'.1) hU'.2.word hN'.2.word
  have hown' : s'.vm.findClass own = some m.cls := by rw [hvm]; exact hown
  have hins : (Cond.instantiable cls 6).before args s' = true := h _ (by simp [Bundle.ownAtoms])
  obtain ⟨vm₁, cX, kX, hfX, hkX, -, -, X₁, st1⟩ := Y.newCold hexec (own := own) (C := cls) (index := ik) (n := 6) hown' hk' hins hini'
    (g := F0 m pc ls rest) rfl (by rw [hb]; exact d0) (Nat.le_refl _) (Nat.le_refl _)
  generalize hT1 : (T.setVm vm₁).pushCell { cls := cX, slots := kX.instanceTypes.map defaultValue, vm := .none } = T1 at X₁ st1
  have hcat : (Value.ref T.heap.size).category = 1 := rfl
  have hcellA : T1.heap[T.heap.size]? = some (freshCell cX kX) := by rw [← hT1]; exact State.heap_pushCell_size _ _
  have d3' : decode c.code (pc + 3) = .ok (.dup, 1) := by rw [hb]; exact d3
  have d4' : decode c.code (pc + 4) = .ok (.ldc_w is, 3) := by rw [hb]; exact d4
  have hstr' : vk_R own is text sa s' := vk_R.warm hW0 hstr
  obtain ⟨U, hsteps, hrun, hend, hW, hsame, ce, hce, hO⟩ := X₁.ctorThrowS hexec htr (own := own) (cls := cls) (names := names) (ic := ic) hown' hcls hnames h (fun x hx => nomatch hx) hfX hkX hcellA (by rw [hhp, hT]; exact Nat.le_refl _) (msg := .ref sa) rfl
    (g := { method := m, pc := pc + 7, locals := ls, stack := .ref sa :: .ref T.heap.size :: .ref T.heap.size :: rest, locked := none }) rfl hsize rfl rfl (rest := rest) rfl
    (by rw [hb]; exact d7) (by rw [hb]; exact d10) hout hRframes (by simp only [List.map_cons, List.sum_cons, hcat]; omega) hlocks
  obtain ⟨f1, f2⟩ := vx_frame hsame
  rw [hhp] at f1 f2
  have hWs : s.WarmedH U.vm := State.WarmedH.trans hW0 hW
  have hcl : s.vm.findClass cls = some ce.cls := by
    have h9 := hO.cls
    rw [hvm] at h9
    exact h9
  have hall : s.sameButNew ({ U with vm := s.vm } : State) locs mc ms := by
    subst hA
    obtain ⟨e1, e2⟩ := hsame
    rw [State.setFrames_setFrames] at e1
    have h2 : (T.setVm s.vm).sameButNew ({ U with vm := s.vm } : State) [] (0 + 1) (0 + 6) := ⟨e1, e2⟩
    have h3 := X.same.trans h2
    rw [List.append_nil] at h3
    exact h3.mono hc hs
  refine ⟨U, ?_, .threw T.heap.size, hrun, hend, Or.inr ⟨T.heap.size, rfl, cls, ce, locs, hx U hWs.alike f1 (fun q hq => f2 q hq (fun z hz => nomatch hz)), hce, hO.vm, hcl, hWs, hall, hf⟩⟩
  refine st1 _ ?_
  show Steps p.tables e below (T1.setTop { method := m, pc := pc + 3, locals := ls, stack := .ref T.heap.size :: rest, locked := none }) _
  jvm_step X₁.here [X₁.here.top, hexec, d3', Value.category]
  exact X₁.ldcStringW hexec (own := own) (text := text) (index := is) (a := sa) hown' hstr'.1 hstr'.2
    (g := { method := m, pc := pc + 4, locals := ls, stack := .ref T.heap.size :: .ref T.heap.size :: rest, locked := none }) rfl d4' _ hsteps
end Ends
section Bodies
variable {l : Launch}
theorem vx_ofW {y : MethodName} {ws ws' : List Cond} {rm : Room} {Pc : Array Value → State → Prop} {Qc : Array Value → State → Outcome → State → Prop} {XC : String → State → State → Prop} {mc ms : Nat} {free : Addr → Prop} {cc : ByteArray} {maxL : Nat} {ret : Option FieldType}
    (hy : plainName y.cls = true) (hw : ws = Cond.code y cc maxL ret :: ws')
    (body : ∀ p e s m args below meth c s₁, BodyLoose p l y (headSpec ws rm) cc maxL ret e s m args below meth c s₁ → c.maxLocals = maxL → (∀ x ∈ c.exceptionTable.toList, False) → Pc args s →
      W p l e (headSpec ws rm).room s m args below meth c s.heap [] 0 0 (vx_MQ below Qc XC args s mc ms free) (entryFrame m args maxL)) : vx_Met l y ws rm Pc Qc XC mc ms free := by
  refine MetFree.of_bodyS (code := cc) (maxLocals := maxL) (ret := ret) hy ?_ ?_
  · intro args s m h hn
    obtain ⟨meth, c, h1, h2, h3, h4, h5, h6, -, -⟩ := Cond.code_spec hn (atoms_spec (ws := ws) h _ (by rw [hw]; exact List.mem_cons_self))
    exact ⟨meth, c, h1, h2, h3, h4, h5, h6⟩
  · intro p e s m args below meth c s₁ B hml hP _
    have hh0 : s₁.heap = s.heap := by rw [B.state]; rfl
    have ht : ∀ x ∈ c.exceptionTable.toList, False := by
      obtain ⟨meth9, c9, h1, h2, -, -, -, -, h7, -⟩ := Cond.code_spec B.named (atoms_spec (ws := ws) B.pre _ (by rw [hw]; exact List.mem_cons_self))
      cases Option.some.inj (h1.symm.trans B.method)
      cases Option.some.inj (h2.symm.trans (Stand.of_body B).code)
      intro x hx
      rw [Array.isEmpty_iff.mp h7] at hx
      cases hx
    obtain ⟨t, a1, o, b1, b2, b3⟩ := body p e s m args below meth c s₁ B hml ht hP s₁ hh0 (Stand.of_body B)
    exact ⟨t, o, a1, b1, b2, b3⟩
/-- the table of a body with handlers -/
theorem vx_table {p : Program} {x y : MethodName} {S : Spec} {cc bytes : ByteArray} {maxL maxL' : Nat} {ret ret' : Option FieldType} {e : Env} {s s₁ : State} {m : MethodId} {args : Array Value} {below : List Frame} {meth : Method} {c : Code} {hh : List (Nat × Nat × Nat × Nat)}
    (B : BodyLoose p l y S cc maxL ret e s m args below meth c s₁) (h : (Cond.codeWith y bytes maxL' ret' hh).before args s = true) : c.exceptionTable.toList = tableOf hh := by
  obtain ⟨m9, meth9, c9, hn9, h1, h2, -, -, h6, -⟩ := Cond.codeWith_spec h
  cases Option.some.inj (hn9.symm.trans B.named)
  cases Option.some.inj (h1.symm.trans B.method)
  cases Option.some.inj (h2.symm.trans (Stand.of_body B).code)
  rw [← h6, table_eq]
end Bodies
end VXA
/-! ===== END ===== -/
/-! ===== BEGIN a static call of a method with an exception table ===== -/
section VXS
variable {p : Program} {l : Launch} {e : Env} {R : Room} {s : State} {m : MethodId} {args : Array Value} {below : List Frame} {meth : Method} {c : Code} {T : State} {H : Heap} {locs : List Loc} {cells slots : Nat}
abbrev vx_CSW (R : Room) (s : State) (args : Array Value) (own : String) (index : Nat) (y : MethodName) (bytes : ByteArray) (maxL : Nat) (ret : Option FieldType) (hh : List (Nat × Nat × Nat × Nat)) (ws : List Cond) (rm : Room) (mc ms n : Nat) : Prop :=
  (rm.cells = mc ∧ rm.slots = ms ∧ rm.frames + 1 ≤ R.frames ∧ 8 + (maxL + 11) + rm.locals ≤ R.locals ∧ (∀ w ∈ ws, ∀ (a' : Array Value) (U : State), s.WarmedH U.vm → w.before a' U = true) ∧ Cond.codeWith y bytes maxL ret hh ∈ ws) ∧
  (Cond.codeWith y bytes maxL ret hh).before args s = true ∧ (Cond.initialized y.cls).before args s = true ∧ (y.cls ≠ "java/lang/invoke/MethodHandle" ∧ y.cls ≠ "java/lang/invoke/VarHandle") ∧
  (∀ sig, parseMethodDescriptor y.desc = some sig → n = sig.parameters.length) ∧ (Cond.methodLink own index y).before args s = true ∧ (Cond.static y).before args s = true
theorem vx_cwSW {own : String} {index maxL mc ms : Nat} {y : MethodName} {bytes : ByteArray} {ret : Option FieldType} {hh : List (Nat × Nat × Nat × Nat)} {Ts ws ws' : List Cond} {rm : Room} (n : Nat) (ht : ∀ w ∈ Ts, w.before args s = true) (hT : GoodIn Ts (va_wsS own index y ws)) (hw : ws = Cond.codeWith y bytes maxL ret hh :: ws') (hrc : rm.cells = mc) (hrs : rm.slots = ms)
    (hd : y.cls ≠ "java/lang/invoke/MethodHandle" ∧ y.cls ≠ "java/lang/invoke/VarHandle" ∧ (parseMethodDescriptor y.desc).map (fun d => d.parameters.length) = some n) (hR : rm.frames + 1 ≤ R.frames ∧ 8 + (maxL + 11) + rm.locals ≤ R.locals) :
    vx_CSW R s args own index y bytes maxL ret hh ws rm mc ms n := by
  have ok : ∀ w ∈ va_wsS own index y ws, w.before args s = true := fun w h => ht w (hT w h).1
  have hG : GoodIn Ts ws := fun w h => hT w (by unfold va_wsS; exact List.mem_append_right _ h)
  have hc : Cond.codeWith y bytes maxL ret hh ∈ ws := by rw [hw]; exact List.mem_cons_self
  refine ⟨⟨hrc, hrs, hR.1, hR.2, pay_in ht hG, hc⟩, ht _ (hG _ hc).1, ok _ (by simp [va_wsS]), ⟨hd.1, hd.2.1⟩, fun sig h => ?_, ok _ (by simp [va_wsS]), ok _ (by simp [va_wsS])⟩
  have h2 := hd.2.2
  rw [h] at h2
  exact (Option.some.inj h2).symm
theorem vx_callSW (X : Stand p l e R s m args below meth c T locs cells slots) (hexec : p.tables.exec = Jvm.exec) {own : String} {index : Nat} {y : MethodName} {bytes : ByteArray} {maxL : Nat} {ret : Option FieldType} {hh : List (Nat × Nat × Nat × Nat)}
    (hown : s.vm.findClass own = some m.cls) (hlink : (Cond.methodLink own index y).before args s = true) (hstat : (Cond.static y).before args s = true) (hinit : (Cond.initialized y.cls).before args s = true)
    (hcode : (Cond.codeWith y bytes maxL ret hh).before args s = true) (hy : y.cls ≠ "java/lang/invoke/MethodHandle" ∧ y.cls ≠ "java/lang/invoke/VarHandle")
    {W9 : Nat} {Pre : Pt → Array Value → Prop} {Post : Pt → Array Value → Option Value → Pt → Prop} (hK : Back l R p e below s args y 3 W9 Pre Post)
    {g : JFrame} (hg : g.method = m) (hsize : g.locals.size = c.maxLocals) {argsL rest : List Value} (hlen : ∀ sig, parseMethodDescriptor y.desc = some sig → argsL.length = sig.parameters.length)
    (hstack : g.stack = argsL.reverse ++ rest) (hW : 2 * g.monitorRoom + (rest.map fun v => v.category).sum ≤ W9) (hdg : decode c.code g.pc = .ok (.invokestatic index, 3))
    (hpre : ∀ vm₁, s.WarmedH vm₁ → Pre ⟨T.setVm vm₁, locs, cells, slots⟩ argsL.toArray) :
    ∃ (v : Option Value) (vm₁ : Vm) (B : Pt), s.WarmedH vm₁ ∧ Stand p l e R s m args below meth c B.U B.locs B.cells B.slots ∧ Post ⟨T.setVm vm₁, locs, cells, slots⟩ argsL.toArray v B ∧
      ∀ target, Steps p.tables e below (B.U.setTop { g with pc := g.pc + 3, stack := v.toList ++ rest }) target → Steps p.tables e below (T.setTop g) target := by
  obtain ⟨mk, methM, cM, hnamed, hmethM, -, -, -, -, -, -, hsigM⟩ := Cond.codeWith_spec hcode
  have hstatic : methM.isStatic = true := Cond.static_spec hnamed hmethM hstat
  obtain ⟨kP, hkP, -⟩ := className_of_methodNamed hnamed
  have hinitP : kP.init = .initialized := Cond.initialized_spec (findClass_of_methodNamed hnamed) hkP hinit
  obtain ⟨vm₁, X₁, hstep₁⟩ := X.invokestatic hexec hown hlink hnamed hmethM hstatic hkP hinitP hy (g := g) hg (argsL := argsL) (rest := rest) (hlen _ hsigM) hstack hdg
  obtain ⟨v, B, X', hpost, hsteps⟩ := hK m meth c ⟨T.setVm vm₁, locs, cells, slots⟩ { g with stack := rest } (.invokestatic index) mk argsL.toArray X₁ hg hsize hdg hW (X₁.named hnamed) (hpre vm₁ X₁.warmed)
  exact ⟨v, vm₁, B, X₁.warmed, X', hpost, fun target h => hstep₁ _ fun acts => by rw [doInvoke_state]; exact hsteps.trans h⟩
theorem vx_runSW {y : MethodName} {bytes cc : ByteArray} {maxL nL mc ms n index : Nat} {ret : Option FieldType} {hh : List (Nat × Nat × Nat × Nat)} {ws : List Cond} {rm : Room} {Pc : Array Value → State → Prop} {Qc : Array Value → State → Outcome → State → Prop} {free : Addr → Prop} {Ts : List Cond} {own : String} {As rest : List Value} {g : JFrame}
    (S : CallFix p m c cc nL s args Ts own) (hM : Met l y ws rm Pc Qc mc ms free) (cw : vx_CSW R s args own index y bytes maxL ret hh ws rm mc ms n) (hp : PreS s H Pc As)
    (hg : g.method = m) (hn : As.length = n) (hsize : g.locals.size = nL) (hstack : g.stack = As.reverse ++ rest) (hW : 2 * g.monitorRoom + (rest.map fun v => v.category).sum ≤ 8) (hdg : decode cc g.pc = .ok (.invokestatic index, 3)) (hf : cells + mc ≤ R.cells ∧ slots + ms ≤ R.slots) :
    va_Run p l e R s m args below meth c H locs cells slots mc ms g rest (Qc As.toArray) (free) := by
  obtain ⟨⟨hrc, hrs, hfr, hlo, hws, hcw⟩, hcode, hini, hy, hlen, hl, hstt⟩ := cw
  have hK : Back l R p e below s args y 3 8 (PreOf R mc ms Pc) (PostOf Qc mc ms free) := va_backW (hh := hh) (bytes := bytes) (maxL := maxL) (ret := ret) hM hp.1 hrc hrs hfr hlo hws hcw (fun a' U hW => word_at hW (Or.inl (by first | rfl | simp [Cond.onTables, Cond.keeps, Cond.steady])) hini)
  obtain ⟨hx, hb, hml, ho, -⟩ := S
  intro T hT X
  obtain ⟨v, vm₁, ⟨U', l2, c2, s2⟩, hW₁, X', ⟨g', mk, t, L, e1, e2, hq, h1, hL, h2, h3⟩, st⟩ := vx_callSW X hx (hh := hh) (bytes := bytes) (maxL := maxL) (ret := ret) ho hl hstt hini hcode hy hK hg (hsize.trans hml.symm) (argsL := As) (rest := rest) (fun sig h => hn.trans (hlen sig h)) hstack hW (by rw [hb]; exact hdg)
    (fun vm₁ hW₁ => ⟨hf.1, hf.2, hp.2 (T.setVm vm₁) hT hW₁⟩)
  dsimp only [Pt.U, Pt.locs, Pt.cells, Pt.slots] at X' e1 e2 h1 h2 h3 st
  subst h1; subst h2; subst h3
  exact ⟨v, (T.setVm vm₁).calling g' mk As.toArray, t, U', L, hT, X', hL, e1, e2, hq, st⟩
/-- a thing of a world lies in the heap -/
theorem vx_lt {D : va_G} {cl : List vw_C} {ws : va_W} {H1 : Heap} (h : va_P D cl ws H1) {k : Nat} {q : Nat × va_E} (hk : ws[k]? = some q) : q.1 < H1.size := (h k q hk).lt
end VXS
/-! ===== END ===== -/
/-! ===== BEGIN methods with a table of their own: called by a name, returning or throwing ===== -/
section VXH
/-! vx_backW, vx_callVX, vx_callSX, vx_callVW, vx_runVW, vx_runVX, vx_runSX, vx_ofWH follow the same proofs as their sisters above (Free/Laws.lean, Shelf42/LK1.lean); vx_outP calls Shelf42/NT130.lean (outThrough). -/
section
variable {l : Launch} {R : Room} {p : Program} {e : Env} {below : List Frame} {s : State} {sargs : Array Value} {y : MethodName} {len W9 : Nat}
theorem vx_backW {ws : List Cond} {rm : Room} {Pc : Array Value → State → Prop} {Qc : Array Value → State → Outcome → State → Prop} {XC : String → State → State → Prop} {mc ms : Nat} {free : Addr → Prop} {bytes : ByteArray} {maxL : Nat} {ret : Option FieldType} {hh : List (Nat × Nat × Nat × Nat)}
    (hM : vx_Met l y ws rm Pc Qc XC mc ms free) (hblind : FrameBlind Pc) (hrc : rm.cells = mc) (hrs : rm.slots = ms)
    (hframes : rm.frames + 1 ≤ R.frames) (hlocals : W9 + (maxL + 11) + rm.locals ≤ R.locals)
    (hws : ∀ w ∈ ws, ∀ a' U, s.WarmedH U.vm → w.before a' U = true) (hcode : Cond.codeWith y bytes maxL ret hh ∈ ws) (hinit : ∀ a' U, s.WarmedH U.vm → (Cond.initialized y.cls).before a' U = true) :
    vx_Back l R p e below s sargs y len W9 (PreOf R mc ms Pc) (PostOf Qc mc ms free) (vx_Post XC mc ms free) := by
  intro m meth c A g ig mk a X hg hsize hdg hW hn hp
  have h1 : (headSpec ws rm).pre.before a A.U = true := atoms_intro fun w hw => hws w hw _ _ X.warmed
  have h2 : (Cond.codeWith y bytes maxL ret hh).before a A.U = true := hws _ hcode _ _ X.warmed
  have h3 : (Cond.initialized y.cls).before a A.U = true := hinit _ _ X.warmed
  have h4 : A.cells + (headSpec ws rm).room.cells ≤ R.cells := by rw [show (headSpec ws rm).room.cells = mc from hrc]; exact hp.1
  have h5 : A.slots + (headSpec ws rm).room.slots ≤ R.slots := by rw [show (headSpec ws rm).room.slots = ms from hrs]; exact hp.2.1
  have hPc : Pc a (A.U.calling g mk a) := hblind _ _ _ _ hp.2.2
  obtain ⟨U, Ls, c0, s0⟩ := A
  dsimp only [Pt.U, Pt.locs, Pt.cells, Pt.slots] at h1 h2 h3 h4 h5 X hn hPc ⊢
  obtain ⟨m9, methY, cY, hn9, hmY, hcY, -, hlY, -⟩ := Cond.codeWith_spec h2
  cases Option.some.inj (hn9.symm.trans hn)
  obtain ⟨kY, hkY, -⟩ := className_of_methodNamed hn
  have hinitY : kY.init = .initialized := Cond.initialized_spec (findClass_of_methodNamed hn) hkY h3
  have h : At U g.method c below := by rw [hg]; exact X.here
  have hlocals9 : W9 + (maxL + 11) + (headSpec ws rm).room.locals ≤ R.locals := hlocals
  have happ : (headSpec ws rm).appliesLoose y e.platform (U.calling g mk a) = true :=
    Spec.appliesLoose_calling (g := g) h hdg hn hkY hinitY
      (X.room_calling (g := g) (R' := (headSpec ws rm).room) hsize hmY hcY hframes (by rw [hlY]; omega) h4 h5) h1
  obtain ⟨mid, hmid⟩ := h.above
  have hfr : (U.setTop g).frames = (.java g :: mid) ++ below := by rw [State.frames_setTop' g h.top, hmid]; rfl
  obtain ⟨o, s₂, hsteps, -, hend, hq⟩ := Steps.callFree hM p X.admits X.cas X.clock (acts := []) hfr happ hPc trivial
  have hq' : vx_Q Qc XC mc ms free a (U.calling g mk a) o s₂ := hq
  rw [State.frames_setTop' g h.top] at hend
  obtain ⟨g₀, hg0⟩ := Option.isSome_iff_exists.mp h.top
  obtain ⟨r, hr⟩ := State.topJava?_eq_some.mp hg0
  have hr' : (({ U with heap := s₂.heap, slotsUsed := s₂.slotsUsed } : State).setVm s₂.vm).frames = .java g₀ :: r := hr
  rcases hq' with ⟨hqc, L, hfe, hL⟩ | ⟨q, rfl, E, ce, L, hx, hce, hcv, hcl, hW₂, hsm, hL⟩
  · obtain ⟨⟨v, rfl⟩, hW₂, e2, q2, q3, q4, q5, q6⟩ := id hfe
    have e3 : s₂ = ({ (U.calling g mk a).setFrames s₂.frames with heap := s₂.heap, slotsUsed := s₂.slotsUsed } : State).setVm s₂.vm := by
      have : s₂ = ({ s₂ with vm := (U.calling g mk a).vm } : State).setVm s₂.vm := rfl
      rw [e2] at this
      exact this
    obtain ⟨c₂, i₂, len₂, hc₂, hd₂, hf₂⟩ := hend
    have hW' : U.WarmedH s₂.vm := hW₂
    have hcc : c₂ = c := by
      have h1 : s₂.code? g.method = U.code? g.method := by
        rw [State.code?_eq, State.code?_eq, hW'.alike.method?]
      exact Option.some.inj (hc₂.symm.trans (h1.trans h.code))
    subst hcc
    have hlen : len₂ = len := by rw [hdg] at hd₂; cases hd₂; rfl
    subst hlen
    have hs₂ : s₂ = (({ U with heap := s₂.heap, slotsUsed := s₂.slotsUsed } : State).setVm s₂.vm).setTop { g with pc := g.pc + len₂, stack := v.toList ++ g.stack } := by
      refine e3.trans ?_
      rw [hf₂, State.calling_eq h.top, State.setFrames_setFrames, State.setTop_of_frames _ hr', hr]
      rfl
    have hsame : U.sameButNew ({ U with heap := s₂.heap, slotsUsed := s₂.slotsUsed } : State) L mc ms := by
      refine ⟨?_, q2, q3, q4, q5, q6⟩
      obtain ⟨t, ht, -⟩ := State.frames_cons hr
      show ({ U with heap := s₂.heap, slotsUsed := s₂.slotsUsed } : State) = { U.setFrames U.frames with heap := s₂.heap, slotsUsed := s₂.slotsUsed }
      rw [State.setFrames_self ht]
    subst hg
    refine Or.inl ⟨v, ⟨(({ U with heap := s₂.heap, slotsUsed := s₂.slotsUsed } : State).setVm s₂.vm), Ls ++ L, c0 + mc, s0 + ms⟩,
      ⟨X.admits, X.cas, X.clock, X.frames, X.room, X.hears, X.method, X.code, (X.here.setHeapUsed s₂.heap s₂.slotsUsed).setVm hW'.alike, X.tail, State.WarmedH.trans X.warmed hW', X.limits, X.bytes, X.same.trans (hsame.setVm s.vm)⟩,
      ⟨g, mk, s₂, L, rfl, rfl, hqc, rfl, hL, rfl, rfl⟩, ?_⟩
    show Steps p.tables e below _ ((({ U with heap := s₂.heap, slotsUsed := s₂.slotsUsed } : State).setVm s₂.vm).setTop { g with pc := g.pc + len₂, stack := v.toList ++ g.stack })
    rw [← hs₂]
    exact hsteps
  · obtain ⟨e2, q2, q3, q4, q5, q6⟩ := id hsm
    have e3 : s₂ = ({ (U.calling g mk a).setFrames s₂.frames with heap := s₂.heap, slotsUsed := s₂.slotsUsed } : State).setVm s₂.vm := by
      have : s₂ = ({ s₂ with vm := (U.calling g mk a).vm } : State).setVm s₂.vm := rfl
      rw [e2] at this
      exact this
    have hf₂ : s₂.frames = .throwing q :: .java g :: U.frames.tail := hend
    have hW' : U.WarmedH s₂.vm := hW₂
    have hs₂ : s₂ = ((({ U with heap := s₂.heap, slotsUsed := s₂.slotsUsed } : State).setVm s₂.vm).setTop g).pushFrame (.throwing q) := by
      refine e3.trans ?_
      rw [hf₂, State.calling_eq h.top, State.setFrames_setFrames, State.pushFrame, State.frames_setTop _ hr', State.setTop_of_frames _ hr', State.setFrames_setFrames, hr]
      rfl
    have hsame : U.sameButNew ({ U with heap := s₂.heap, slotsUsed := s₂.slotsUsed } : State) L mc ms := by
      refine ⟨?_, q2, q3, q4, q5, q6⟩
      obtain ⟨t, ht, -⟩ := State.frames_cons hr
      show ({ U with heap := s₂.heap, slotsUsed := s₂.slotsUsed } : State) = { U.setFrames U.frames with heap := s₂.heap, slotsUsed := s₂.slotsUsed }
      rw [State.setFrames_self ht]
    subst hg
    refine Or.inr ⟨q, ⟨(({ U with heap := s₂.heap, slotsUsed := s₂.slotsUsed } : State).setVm s₂.vm), Ls ++ L, c0 + mc, s0 + ms⟩,
      ⟨X.admits, X.cas, X.clock, X.frames, X.room, X.hears, X.method, X.code, (X.here.setHeapUsed s₂.heap s₂.slotsUsed).setVm hW'.alike, X.tail, State.WarmedH.trans X.warmed hW', X.limits, X.bytes, X.same.trans (hsame.setVm s.vm)⟩,
      ⟨g, mk, s₂, L, E, ce, rfl, rfl, hx, hce, hcv, hcl, rfl, hL, rfl, rfl⟩, ?_⟩
    show Steps p.tables e below _ (((({ U with heap := s₂.heap, slotsUsed := s₂.slotsUsed } : State).setVm s₂.vm).setTop g).pushFrame (.throwing q))
    rw [← hs₂]
    exact hsteps
end
variable {p : Program} {l : Launch} {e : Env} {R : Room} {s : State} {m : MethodId} {args : Array Value} {below : List Frame} {meth : Method} {c : Code} {T : State} {H : Heap} {locs : List Loc} {cells slots : Nat}
theorem vx_callVX (X : Stand p l e R s m args below meth c T locs cells slots) (hexec : p.tables.exec = Jvm.exec) {own C : String} {index : Nat} {y : MethodName} {bytes : ByteArray} {maxL : Nat} {ret : Option FieldType} {hh : List (Nat × Nat × Nat × Nat)}
    (hown : s.vm.findClass own = some m.cls) (hlink : (Cond.methodLink own index y).before args s = true) (hinst : (Cond.instanceMethod y).before args s = true) (hsel : (Cond.selects C y y).before args s = true)
    (hcode : (Cond.codeWith y bytes maxL ret hh).before args s = true) (hy : y.cls ≠ "java/lang/invoke/MethodHandle" ∧ y.cls ≠ "java/lang/invoke/VarHandle")
    {W9 : Nat} {Pre : Pt → Array Value → Prop} {Post : Pt → Array Value → Option Value → Pt → Prop} {PostX : Pt → Array Value → Addr → Pt → Prop} (hK : vx_Back l R p e below s args y 3 W9 Pre Post PostX)
    {b : Addr} {cellB : Cell} (hcell : T.heap[b]? = some cellB) (hobj : cellB.vm.isStatics = false) (hcls : s.vm.findClass C = some cellB.cls)
    {g : JFrame} (hg : g.method = m) (hsize : g.locals.size = c.maxLocals) {argsL rest : List Value} (hlen : ∀ sig, parseMethodDescriptor y.desc = some sig → argsL.length = sig.parameters.length)
    (hstack : g.stack = argsL.reverse ++ .ref b :: rest) (hW : 2 * g.monitorRoom + (rest.map fun v => v.category).sum ≤ W9) (hdg : decode c.code g.pc = .ok (.invokevirtual index, 3))
    (hpre : ∀ vm₁, s.WarmedH vm₁ → Pre ⟨T.setVm vm₁, locs, cells, slots⟩ (Value.ref b :: argsL).toArray) :
    (∃ (v : Option Value) (vm₁ : Vm) (B : Pt), s.WarmedH vm₁ ∧ Stand p l e R s m args below meth c B.U B.locs B.cells B.slots ∧ Post ⟨T.setVm vm₁, locs, cells, slots⟩ (Value.ref b :: argsL).toArray v B ∧
      ∀ target, Steps p.tables e below (B.U.setTop { g with pc := g.pc + 3, stack := v.toList ++ rest }) target → Steps p.tables e below (T.setTop g) target) ∨
    (∃ (q : Addr) (vm₁ : Vm) (B : Pt), s.WarmedH vm₁ ∧ Stand p l e R s m args below meth c B.U B.locs B.cells B.slots ∧ PostX ⟨T.setVm vm₁, locs, cells, slots⟩ (Value.ref b :: argsL).toArray q B ∧
      Steps p.tables e below (T.setTop g) ((B.U.setTop { g with stack := rest }).pushFrame (.throwing q))) := by
  obtain ⟨mk, methM, hnamed, hmethM, hstM, habM⟩ := Cond.instanceMethod_spec hinst
  obtain ⟨m8, methM', cM, hn8, hmethM', -, -, -, -, -, -, hsigM⟩ := Cond.codeWith_spec hcode
  cases Option.some.inj (hn8.symm.trans hnamed)
  cases hmethM.symm.trans hmethM'
  obtain ⟨c2, r2, m2, q1, q2, q3, q4, kP, hkP, hkPi⟩ := Cond.selects_spec hsel
  cases hcls.symm.trans q1
  cases (State.methodFound?_of_named hnamed hy).symm.trans q2
  cases hnamed.symm.trans q3
  have hselP : selectMethod e.platform s.vm cellB.cls mk = .method mk := by rw [Launch.admits_selectMethod X.admits]; exact q4
  obtain ⟨vm₁, X₁, hstep₁⟩ := X.invokevirtual hexec hown hlink hnamed hmethM hstM hkP hkPi hy (a := b) (cell := cellB) hcell
    (fun z h => by rw [h] at hobj; cases hobj) hselP hmethM habM hkP hkPi (g := g) hg (argsL := argsL) (rest := rest) (hlen _ hsigM) hstack hdg
  rcases hK m meth c ⟨T.setVm vm₁, locs, cells, slots⟩ { g with stack := rest } (.invokevirtual index) mk (Value.ref b :: argsL).toArray X₁ hg hsize hdg hW (X₁.named hnamed) (hpre vm₁ X₁.warmed) with ⟨v, B, X', hpost, hsteps⟩ | ⟨q, B, X', hpost, hsteps⟩
  · exact Or.inl ⟨v, vm₁, B, X₁.warmed, X', hpost, fun target h => hstep₁ _ fun acts => by rw [doInvoke_state]; exact hsteps.trans h⟩
  · exact Or.inr ⟨q, vm₁, B, X₁.warmed, X', hpost, hstep₁ _ fun acts => by rw [doInvoke_state]; exact hsteps⟩
theorem vx_callSX (X : Stand p l e R s m args below meth c T locs cells slots) (hexec : p.tables.exec = Jvm.exec) {own : String} {index : Nat} {y : MethodName} {bytes : ByteArray} {maxL : Nat} {ret : Option FieldType} {hh : List (Nat × Nat × Nat × Nat)}
    (hown : s.vm.findClass own = some m.cls) (hlink : (Cond.methodLink own index y).before args s = true) (hstat : (Cond.static y).before args s = true) (hinit : (Cond.initialized y.cls).before args s = true)
    (hcode : (Cond.codeWith y bytes maxL ret hh).before args s = true) (hy : y.cls ≠ "java/lang/invoke/MethodHandle" ∧ y.cls ≠ "java/lang/invoke/VarHandle")
    {W9 : Nat} {Pre : Pt → Array Value → Prop} {Post : Pt → Array Value → Option Value → Pt → Prop} {PostX : Pt → Array Value → Addr → Pt → Prop} (hK : vx_Back l R p e below s args y 3 W9 Pre Post PostX)
    {g : JFrame} (hg : g.method = m) (hsize : g.locals.size = c.maxLocals) {argsL rest : List Value} (hlen : ∀ sig, parseMethodDescriptor y.desc = some sig → argsL.length = sig.parameters.length)
    (hstack : g.stack = argsL.reverse ++ rest) (hW : 2 * g.monitorRoom + (rest.map fun v => v.category).sum ≤ W9) (hdg : decode c.code g.pc = .ok (.invokestatic index, 3))
    (hpre : ∀ vm₁, s.WarmedH vm₁ → Pre ⟨T.setVm vm₁, locs, cells, slots⟩ argsL.toArray) :
    (∃ (v : Option Value) (vm₁ : Vm) (B : Pt), s.WarmedH vm₁ ∧ Stand p l e R s m args below meth c B.U B.locs B.cells B.slots ∧ Post ⟨T.setVm vm₁, locs, cells, slots⟩ argsL.toArray v B ∧
      ∀ target, Steps p.tables e below (B.U.setTop { g with pc := g.pc + 3, stack := v.toList ++ rest }) target → Steps p.tables e below (T.setTop g) target) ∨
    (∃ (q : Addr) (vm₁ : Vm) (B : Pt), s.WarmedH vm₁ ∧ Stand p l e R s m args below meth c B.U B.locs B.cells B.slots ∧ PostX ⟨T.setVm vm₁, locs, cells, slots⟩ argsL.toArray q B ∧
      Steps p.tables e below (T.setTop g) ((B.U.setTop { g with stack := rest }).pushFrame (.throwing q))) := by
  obtain ⟨mk, methM, cM, hnamed, hmethM, -, -, -, -, -, -, hsigM⟩ := Cond.codeWith_spec hcode
  have hstatic : methM.isStatic = true := Cond.static_spec hnamed hmethM hstat
  obtain ⟨kP, hkP, -⟩ := className_of_methodNamed hnamed
  have hinitP : kP.init = .initialized := Cond.initialized_spec (findClass_of_methodNamed hnamed) hkP hinit
  obtain ⟨vm₁, X₁, hstep₁⟩ := X.invokestatic hexec hown hlink hnamed hmethM hstatic hkP hinitP hy (g := g) hg (argsL := argsL) (rest := rest) (hlen _ hsigM) hstack hdg
  rcases hK m meth c ⟨T.setVm vm₁, locs, cells, slots⟩ { g with stack := rest } (.invokestatic index) mk argsL.toArray X₁ hg hsize hdg hW (X₁.named hnamed) (hpre vm₁ X₁.warmed) with ⟨v, B, X', hpost, hsteps⟩ | ⟨q, B, X', hpost, hsteps⟩
  · exact Or.inl ⟨v, vm₁, B, X₁.warmed, X', hpost, fun target h => hstep₁ _ fun acts => by rw [doInvoke_state]; exact hsteps.trans h⟩
  · exact Or.inr ⟨q, vm₁, B, X₁.warmed, X', hpost, hstep₁ _ fun acts => by rw [doInvoke_state]; exact hsteps⟩
theorem vx_callVW (X : Stand p l e R s m args below meth c T locs cells slots) (hexec : p.tables.exec = Jvm.exec) {own C : String} {index : Nat} {y : MethodName} {bytes : ByteArray} {maxL : Nat} {ret : Option FieldType} {hh : List (Nat × Nat × Nat × Nat)}
    (hown : s.vm.findClass own = some m.cls) (hlink : (Cond.methodLink own index y).before args s = true) (hinst : (Cond.instanceMethod y).before args s = true) (hsel : (Cond.selects C y y).before args s = true)
    (hcode : (Cond.codeWith y bytes maxL ret hh).before args s = true) (hy : y.cls ≠ "java/lang/invoke/MethodHandle" ∧ y.cls ≠ "java/lang/invoke/VarHandle")
    {W9 : Nat} {Pre : Pt → Array Value → Prop} {Post : Pt → Array Value → Option Value → Pt → Prop} (hK : Back l R p e below s args y 3 W9 Pre Post)
    {b : Addr} {cellB : Cell} (hcell : T.heap[b]? = some cellB) (hobj : cellB.vm.isStatics = false) (hcls : s.vm.findClass C = some cellB.cls)
    {g : JFrame} (hg : g.method = m) (hsize : g.locals.size = c.maxLocals) {argsL rest : List Value} (hlen : ∀ sig, parseMethodDescriptor y.desc = some sig → argsL.length = sig.parameters.length)
    (hstack : g.stack = argsL.reverse ++ .ref b :: rest) (hW : 2 * g.monitorRoom + (rest.map fun v => v.category).sum ≤ W9) (hdg : decode c.code g.pc = .ok (.invokevirtual index, 3))
    (hpre : ∀ vm₁, s.WarmedH vm₁ → Pre ⟨T.setVm vm₁, locs, cells, slots⟩ (Value.ref b :: argsL).toArray) :
    ∃ (v : Option Value) (vm₁ : Vm) (B : Pt), s.WarmedH vm₁ ∧ Stand p l e R s m args below meth c B.U B.locs B.cells B.slots ∧ Post ⟨T.setVm vm₁, locs, cells, slots⟩ (Value.ref b :: argsL).toArray v B ∧
      ∀ target, Steps p.tables e below (B.U.setTop { g with pc := g.pc + 3, stack := v.toList ++ rest }) target → Steps p.tables e below (T.setTop g) target := by
  obtain ⟨mk, methM, hnamed, hmethM, hstM, habM⟩ := Cond.instanceMethod_spec hinst
  obtain ⟨m8, methM', cM, hn8, hmethM', -, -, -, -, -, -, hsigM⟩ := Cond.codeWith_spec hcode
  cases Option.some.inj (hn8.symm.trans hnamed)
  cases hmethM.symm.trans hmethM'
  obtain ⟨c2, r2, m2, q1, q2, q3, q4, kP, hkP, hkPi⟩ := Cond.selects_spec hsel
  cases hcls.symm.trans q1
  cases (State.methodFound?_of_named hnamed hy).symm.trans q2
  cases hnamed.symm.trans q3
  have hselP : selectMethod e.platform s.vm cellB.cls mk = .method mk := by rw [Launch.admits_selectMethod X.admits]; exact q4
  obtain ⟨vm₁, X₁, hstep₁⟩ := X.invokevirtual hexec hown hlink hnamed hmethM hstM hkP hkPi hy (a := b) (cell := cellB) hcell
    (fun z h => by rw [h] at hobj; cases hobj) hselP hmethM habM hkP hkPi (g := g) hg (argsL := argsL) (rest := rest) (hlen _ hsigM) hstack hdg
  obtain ⟨v, B, X', hpost, hsteps⟩ := hK m meth c ⟨T.setVm vm₁, locs, cells, slots⟩ { g with stack := rest } (.invokevirtual index) mk (Value.ref b :: argsL).toArray X₁ hg hsize hdg hW (X₁.named hnamed) (hpre vm₁ X₁.warmed)
  exact ⟨v, vm₁, B, X₁.warmed, X', hpost, fun target h => hstep₁ _ fun acts => by rw [doInvoke_state]; exact hsteps.trans h⟩
abbrev vx_CVW (R : Room) (s : State) (args : Array Value) (own C : String) (index : Nat) (y : MethodName) (bytes : ByteArray) (maxL : Nat) (ret : Option FieldType) (hh : List (Nat × Nat × Nat × Nat)) (ws : List Cond) (rm : Room) (mc ms n : Nat) : Prop :=
  (rm.cells = mc ∧ rm.slots = ms ∧ rm.frames + 1 ≤ R.frames ∧ 8 + (maxL + 11) + rm.locals ≤ R.locals ∧ (∀ w ∈ ws, ∀ (a' : Array Value) (U : State), s.WarmedH U.vm → w.before a' U = true) ∧ Cond.codeWith y bytes maxL ret hh ∈ ws) ∧
  (Cond.codeWith y bytes maxL ret hh).before args s = true ∧ (Cond.initialized y.cls).before args s = true ∧ (y.cls ≠ "java/lang/invoke/MethodHandle" ∧ y.cls ≠ "java/lang/invoke/VarHandle") ∧
  (∀ sig, parseMethodDescriptor y.desc = some sig → n = sig.parameters.length) ∧ (Cond.methodLink own index y).before args s = true ∧ (Cond.instanceMethod y).before args s = true ∧ (Cond.selects C y y).before args s = true
theorem vx_cwVW {own C : String} {index maxL mc ms : Nat} {y : MethodName} {bytes : ByteArray} {ret : Option FieldType} {hh : List (Nat × Nat × Nat × Nat)} {Ts ws ws' : List Cond} {rm : Room} (n : Nat) (ht : ∀ w ∈ Ts, w.before args s = true) (hT : GoodIn Ts (wsV own index C y ws)) (hw : ws = Cond.codeWith y bytes maxL ret hh :: ws') (hrc : rm.cells = mc) (hrs : rm.slots = ms)
    (hd : y.cls = C ∧ y.cls ≠ "java/lang/invoke/MethodHandle" ∧ y.cls ≠ "java/lang/invoke/VarHandle" ∧ (parseMethodDescriptor y.desc).map (fun d => d.parameters.length) = some n) (hR : rm.frames + 1 ≤ R.frames ∧ 8 + (maxL + 11) + rm.locals ≤ R.locals) :
    vx_CVW R s args own C index y bytes maxL ret hh ws rm mc ms n := by
  obtain ⟨hC, hd⟩ := hd
  subst hC
  have ok : ∀ w ∈ wsV own index y.cls y ws, w.before args s = true := fun w h => ht w (hT w h).1
  have hG : GoodIn Ts ws := fun w h => hT w (by unfold wsV; exact List.mem_append_right _ h)
  have hc : Cond.codeWith y bytes maxL ret hh ∈ ws := by rw [hw]; exact List.mem_cons_self
  refine ⟨⟨hrc, hrs, hR.1, hR.2, pay_in ht hG, hc⟩, ht _ (hG _ hc).1, ok _ (by simp [wsV]), ⟨hd.1, hd.2.1⟩, fun sig h => ?_, ok _ (by simp [wsV]), ok _ (by simp [wsV]), ok _ (by simp [wsV])⟩
  have h2 := hd.2.2
  rw [h] at h2
  exact (Option.some.inj h2).symm
theorem vx_runVW {y : MethodName} {bytes cc : ByteArray} {maxL nL mc ms n index : Nat} {ret : Option FieldType} {hh : List (Nat × Nat × Nat × Nat)} {ws : List Cond} {rm : Room} {Pc : Array Value → State → Prop} {Qc : Array Value → State → Outcome → State → Prop} {free : Addr → Prop} {Ts : List Cond} {own C : String} {b : Addr} {As rest : List Value} {g : JFrame}
    (S : CallFix p m c cc nL s args Ts own) (hM : Met l y ws rm Pc Qc mc ms free) (cw : vx_CVW R s args own C index y bytes maxL ret hh ws rm mc ms n) (hp : PreV s H C b Pc As)
    (hg : g.method = m) (hn : As.length = n) (hsize : g.locals.size = nL) (hstack : g.stack = As.reverse ++ .ref b :: rest) (hW : 2 * g.monitorRoom + (rest.map fun v => v.category).sum ≤ 8) (hdg : decode cc g.pc = .ok (.invokevirtual index, 3)) (hf : cells + mc ≤ R.cells ∧ slots + ms ≤ R.slots) :
    va_Run p l e R s m args below meth c H locs cells slots mc ms g rest (Qc (Value.ref b :: As).toArray) free := by
  obtain ⟨⟨hrc, hrs, hfr, hlo, hws, hcw⟩, hcode, hini, hy, hlen, hl, hin, hse⟩ := cw
  have hK : Back l R p e below s args y 3 8 (PreOf R mc ms Pc) (PostOf Qc mc ms free) := va_backW (hh := hh) (bytes := bytes) (maxL := maxL) (ret := ret) hM hp.1 hrc hrs hfr hlo hws hcw (fun a' U hW => word_at hW (Or.inl (by first | rfl | simp [Cond.onTables, Cond.keeps, Cond.steady])) hini)
  obtain ⟨hx, hb, hml, ho, -⟩ := S
  obtain ⟨-, ⟨cellB, hcB, hoB, hclB⟩, hPc⟩ := hp
  intro T hT X
  obtain ⟨v, vm₁, ⟨U', l2, c2, s2⟩, hW₁, X', ⟨g', mk, t, L, e1, e2, hq, h1, hL, h2, h3⟩, st⟩ := vx_callVW X hx (C := C) (hh := hh) (bytes := bytes) (maxL := maxL) (ret := ret) ho hl hin hse hcode hy hK (by rw [hT]; exact hcB) hoB hclB hg (hsize.trans hml.symm) (argsL := As) (rest := rest) (fun sig h => hn.trans (hlen sig h)) hstack hW (by rw [hb]; exact hdg)
    (fun vm₁ hW₁ => ⟨hf.1, hf.2, hPc (T.setVm vm₁) hT hW₁⟩)
  dsimp only [Pt.U, Pt.locs, Pt.cells, Pt.slots] at X' e1 e2 h1 h2 h3 st
  subst h1; subst h2; subst h3
  exact ⟨v, (T.setVm vm₁).calling g' mk (Value.ref b :: As).toArray, t, U', L, hT, X', hL, e1, e2, hq, st⟩
section
variable {y : MethodName} {bytes cc : ByteArray} {maxL nL mc ms n index : Nat} {ret : Option FieldType} {ws : List Cond} {rm : Room} {Pc : Array Value → State → Prop} {Qc : Array Value → State → Outcome → State → Prop} {XC : String → State → State → Prop} {free : Addr → Prop} {Ts : List Cond} {own C : String} {b : Addr} {As rest : List Value} {g : JFrame}
theorem vx_runVX {hh : List (Nat × Nat × Nat × Nat)} (S : CallFix p m c cc nL s args Ts own) (hM : vx_Met l y ws rm Pc Qc XC mc ms free) (cw : vx_CVW R s args own C index y bytes maxL ret hh ws rm mc ms n) (hp : PreV s H C b Pc As)
    (hg : g.method = m) (hn : As.length = n) (hsize : g.locals.size = nL) (hstack : g.stack = As.reverse ++ .ref b :: rest) (hW : 2 * g.monitorRoom + (rest.map fun v => v.category).sum ≤ 8) (hdg : decode cc g.pc = .ok (.invokevirtual index, 3)) (hf : cells + mc ≤ R.cells ∧ slots + ms ≤ R.slots) :
    vx_Run p l e R s m args below meth c H locs cells slots mc ms g rest (Qc (Value.ref b :: As).toArray) XC free := by
  obtain ⟨⟨hrc, hrs, hfr, hlo, hws, hcw⟩, hcode, hini, hy, hlen, hl, hin, hse⟩ := cw
  have hK : vx_Back l R p e below s args y 3 8 (PreOf R mc ms Pc) (PostOf Qc mc ms free) (vx_Post XC mc ms free) := vx_backW (hh := hh) (bytes := bytes) (maxL := maxL) (ret := ret) hM hp.1 hrc hrs hfr hlo hws hcw (fun a' U hW => word_at hW (Or.inl (by first | rfl | simp [Cond.onTables, Cond.keeps, Cond.steady])) hini)
  obtain ⟨hx, hb, hml, ho, -⟩ := S
  obtain ⟨-, ⟨cellB, hcB, hoB, hclB⟩, hPc⟩ := hp
  intro T hT X
  rcases vx_callVX X hx (C := C) (hh := hh) (bytes := bytes) (maxL := maxL) (ret := ret) ho hl hin hse hcode hy hK (by rw [hT]; exact hcB) hoB hclB hg (hsize.trans hml.symm) (argsL := As) (rest := rest) (fun sig h => hn.trans (hlen sig h)) hstack hW (by rw [hb]; exact hdg)
    (fun vm₁ hW₁ => ⟨hf.1, hf.2, hPc (T.setVm vm₁) hT hW₁⟩) with ⟨v, vm₁, ⟨U', l2, c2, s2⟩, hW₁, X', ⟨g', mk, t, L, e1, e2, hq, h1, hL, h2, h3⟩, st⟩ | ⟨q, vm₁, ⟨U', l2, c2, s2⟩, hW₁, X', ⟨g', mk, t, L, E, ce, e1, e2, hq, hce, hcv, hcl, h1, hL, h2, h3⟩, st⟩
  · dsimp only [Pt.U, Pt.locs, Pt.cells, Pt.slots] at X' e1 e2 h1 h2 h3 st
    subst h1; subst h2; subst h3
    exact Or.inl ⟨v, (T.setVm vm₁).calling g' mk (Value.ref b :: As).toArray, t, U', L, hT, X', hL, e1, e2, hq, st⟩
  · dsimp only [Pt.U, Pt.locs, Pt.cells, Pt.slots] at X' e1 e2 h1 h2 h3 st hcl
    subst h1; subst h2; subst h3
    exact Or.inr ⟨q, (T.setVm vm₁).calling g' mk (Value.ref b :: As).toArray, t, U', L, E, ce, hT, X', hL, e1, e2, hq, hce, hcv, vx_cls hW₁ hcl, st⟩
theorem vx_runSX {hh : List (Nat × Nat × Nat × Nat)} (S : CallFix p m c cc nL s args Ts own) (hM : vx_Met l y ws rm Pc Qc XC mc ms free) (cw : vx_CSW R s args own index y bytes maxL ret hh ws rm mc ms n) (hp : PreS s H Pc As)
    (hg : g.method = m) (hn : As.length = n) (hsize : g.locals.size = nL) (hstack : g.stack = As.reverse ++ rest) (hW : 2 * g.monitorRoom + (rest.map fun v => v.category).sum ≤ 8) (hdg : decode cc g.pc = .ok (.invokestatic index, 3)) (hf : cells + mc ≤ R.cells ∧ slots + ms ≤ R.slots) :
    vx_Run p l e R s m args below meth c H locs cells slots mc ms g rest (Qc As.toArray) XC free := by
  obtain ⟨⟨hrc, hrs, hfr, hlo, hws, hcw⟩, hcode, hini, hy, hlen, hl, hstt⟩ := cw
  have hK : vx_Back l R p e below s args y 3 8 (PreOf R mc ms Pc) (PostOf Qc mc ms free) (vx_Post XC mc ms free) := vx_backW (hh := hh) (bytes := bytes) (maxL := maxL) (ret := ret) hM hp.1 hrc hrs hfr hlo hws hcw (fun a' U hW => word_at hW (Or.inl (by first | rfl | simp [Cond.onTables, Cond.keeps, Cond.steady])) hini)
  obtain ⟨hx, hb, hml, ho, -⟩ := S
  intro T hT X
  rcases vx_callSX X hx (hh := hh) (bytes := bytes) (maxL := maxL) (ret := ret) ho hl hstt hini hcode hy hK hg (hsize.trans hml.symm) (argsL := As) (rest := rest) (fun sig h => hn.trans (hlen sig h)) hstack hW (by rw [hb]; exact hdg)
    (fun vm₁ hW₁ => ⟨hf.1, hf.2, hp.2 (T.setVm vm₁) hT hW₁⟩) with ⟨v, vm₁, ⟨U', l2, c2, s2⟩, hW₁, X', ⟨g', mk, t, L, e1, e2, hq, h1, hL, h2, h3⟩, st⟩ | ⟨q, vm₁, ⟨U', l2, c2, s2⟩, hW₁, X', ⟨g', mk, t, L, E, ce, e1, e2, hq, hce, hcv, hcl, h1, hL, h2, h3⟩, st⟩
  · dsimp only [Pt.U, Pt.locs, Pt.cells, Pt.slots] at X' e1 e2 h1 h2 h3 st
    subst h1; subst h2; subst h3
    exact Or.inl ⟨v, (T.setVm vm₁).calling g' mk As.toArray, t, U', L, hT, X', hL, e1, e2, hq, st⟩
  · dsimp only [Pt.U, Pt.locs, Pt.cells, Pt.slots] at X' e1 e2 h1 h2 h3 st hcl
    subst h1; subst h2; subst h3
    exact Or.inr ⟨q, (T.setVm vm₁).calling g' mk As.toArray, t, U', L, E, ce, hT, X', hL, e1, e2, hq, hce, hcv, vx_cls hW₁ hcl, st⟩
end
end VXH
theorem vx_ofWH {l : Launch} {y : MethodName} {ws ws' : List Cond} {rm : Room} {Pc : Array Value → State → Prop} {Qc : Array Value → State → Outcome → State → Prop} {XC : String → State → State → Prop} {mc ms : Nat} {free : Addr → Prop} {cc : ByteArray} {maxL : Nat} {ret : Option FieldType} {hh : List (Nat × Nat × Nat × Nat)}
    (hy : plainName y.cls = true) (hw : ws = Cond.codeWith y cc maxL ret hh :: ws')
    (body : ∀ p e s m args below meth c s₁, BodyLoose p l y (headSpec ws rm) cc maxL ret e s m args below meth c s₁ → c.maxLocals = maxL → Pc args s →
      W p l e (headSpec ws rm).room s m args below meth c s.heap [] 0 0 (vx_MQ below Qc XC args s mc ms free) (entryFrame m args maxL)) : vx_Met l y ws rm Pc Qc XC mc ms free := by
  refine MetFree.of_bodyS (code := cc) (maxLocals := maxL) (ret := ret) hy ?_ ?_
  · intro args s m h hn
    obtain ⟨m9, meth, c, hn9, h1, h2, h3, h4, -, h5, h6, -⟩ := Cond.codeWith_spec (atoms_spec (ws := ws) h _ (by rw [hw]; exact List.mem_cons_self))
    cases hn.symm.trans hn9
    exact ⟨meth, c, h1, h2, h3, h4, h5, h6⟩
  · intro p e s m args below meth c s₁ B hml hP _
    have hh0 : s₁.heap = s.heap := by rw [B.state]; rfl
    obtain ⟨t, a1, o, b1, b2, b3⟩ := body p e s m args below meth c s₁ B hml hP s₁ hh0 (Stand.of_body B)
    exact ⟨t, o, a1, b1, b2, b3⟩
/-! ===== END ===== -/
end
section
/-! ===== BEGIN printed: names, fields, word lists, decode rows ===== -/
def RX0 : String := "MixedKernel$Latest"
def TX0 : u_T := fun k => match k with
  | 0 => ("MixedKernel$Latest", "kept", "[I", true)
  | _ => ("MixedKernel$Latest", "total", "I", false)
def tyX0 : Nat → FieldType := fun k => match k with
  | 0 => .array .int
  | _ => .int
abbrev wsX00 : List Cond := u_ws RX0 TX0 2
theorem nmX0 : ∀ a, a < 2 → ∀ b, b < 2 → a ≠ b → (TX0 a).2.1 ≠ (TX0 b).2.1 := by decide +kernel
theorem tyX0_ok : ∀ k, k < 2 → parseFieldDescriptor (TX0 k).2.2.1 = some (tyX0 k) := by decide +kernel
abbrev cX0_init : ByteArray := prog_2_method_1_code
def yX0_init : MethodName := ⟨RX0, "<init>", "(I)V"⟩
abbrev cX0_put : ByteArray := prog_2_method_2_code
def yX0_put : MethodName := ⟨RX0, "put", "(I)V"⟩
abbrev cX0_keeps : ByteArray := prog_2_method_3_code
def yX0_keeps : MethodName := ⟨RX0, "keeps", "(I)Z"⟩
abbrev cX0_back : ByteArray := prog_2_method_4_code
def yX0_back : MethodName := ⟨RX0, "back", "(I)I"⟩
def RX1 : String := "MixedKernel$Line"
def TX1 : u_T := fun k => match k with
  | 0 => ("MixedKernel$Line", "ids", "[I", true)
  | _ => ("MixedKernel$Line", "size", "I", false)
def tyX1 : Nat → FieldType := fun k => match k with
  | 0 => .array .int
  | _ => .int
abbrev wsX10 : List Cond := u_ws RX1 TX1 2
theorem nmX1 : ∀ a, a < 2 → ∀ b, b < 2 → a ≠ b → (TX1 a).2.1 ≠ (TX1 b).2.1 := by decide +kernel
theorem tyX1_ok : ∀ k, k < 2 → parseFieldDescriptor (TX1 k).2.2.1 = some (tyX1 k) := by decide +kernel
abbrev cX1_init : ByteArray := prog_3_method_1_code
def yX1_init : MethodName := ⟨RX1, "<init>", "()V"⟩
abbrev cX1_placeOf : ByteArray := prog_3_method_2_code
def yX1_placeOf : MethodName := ⟨RX1, "placeOf", "(I)I"⟩
abbrev cX1_become : ByteArray := prog_3_method_3_code
def yX1_become : MethodName := ⟨RX1, "become", "(LMixedKernel$Line;)V"⟩
abbrev cX1_insert : ByteArray := prog_3_method_4_code
def yX1_insert : MethodName := ⟨RX1, "insert", "(II)V"⟩
abbrev cX1_drop : ByteArray := prog_3_method_5_code
def yX1_drop : MethodName := ⟨RX1, "drop", "(I)V"⟩
abbrev cX1_moveBack : ByteArray := prog_3_method_6_code
def yX1_moveBack : MethodName := ⟨RX1, "moveBack", "(II)V"⟩
def RX2 : String := "MixedKernel$Refusal"
def TX2 : u_T := fun k => match k with
  | 0 => ("MixedKernel$Refusal", "ids", "[I", true)
  | 1 => ("MixedKernel$Refusal", "periods", "[I", true)
  | 2 => ("MixedKernel$Refusal", "size", "I", false)
  | _ => ("MixedKernel$Refusal", "deadline", "I", false)
def tyX2 : Nat → FieldType := fun k => match k with
  | 0 => .array .int
  | 1 => .array .int
  | 2 => .int
  | _ => .int
abbrev wsX20 : List Cond := u_ws RX2 TX2 4
theorem nmX2 : ∀ a, a < 4 → ∀ b, b < 4 → a ≠ b → (TX2 a).2.1 ≠ (TX2 b).2.1 := by decide +kernel
theorem tyX2_ok : ∀ k, k < 4 → parseFieldDescriptor (TX2 k).2.2.1 = some (tyX2 k) := by decide +kernel
abbrev cX2_init : ByteArray := prog_4_method_1_code
def yX2_init : MethodName := ⟨RX2, "<init>", "()V"⟩
abbrev cX2_keep : ByteArray := prog_4_method_2_code
def yX2_keep : MethodName := ⟨RX2, "keep", "(LMixedKernel$Line;I[LMixedKernel$Task;)V"⟩
abbrev cX2_releases : ByteArray := prog_4_method_3_code
def yX2_releases : MethodName := ⟨RX2, "releases", "()I"⟩
abbrev cX2_timeOf : ByteArray := prog_4_method_4_code
def yX2_timeOf : MethodName := ⟨RX2, "timeOf", "(I)I"⟩
abbrev cX2_taskOf : ByteArray := prog_4_method_5_code
def yX2_taskOf : MethodName := ⟨RX2, "taskOf", "(I)I"⟩
abbrev cX2_releasesBefore : ByteArray := prog_4_method_6_code
def yX2_releasesBefore : MethodName := ⟨RX2, "releasesBefore", "(I)I"⟩
abbrev cX2_isReleaseTime : ByteArray := prog_4_method_7_code
def yX2_isReleaseTime : MethodName := ⟨RX2, "isReleaseTime", "(II)Z"⟩
def RX3 : String := "MixedKernel$Task"
def TX3 : u_T := fun k => match k with
  | 0 => ("MixedKernel$Task", "period", "I", false)
  | 1 => ("MixedKernel$Task", "deadline", "I", false)
  | 2 => ("MixedKernel$Task", "low", "I", false)
  | 3 => ("MixedKernel$Task", "high", "I", false)
  | 4 => ("MixedKernel$Task", "leaving", "Z", false)
  | 5 => ("MixedKernel$Task", "jobs", "I", false)
  | 6 => ("MixedKernel$Task", "dropped", "I", false)
  | 7 => ("MixedKernel$Task", "ticks", "I", false)
  | 8 => ("MixedKernel$Task", "endedLate", "I", false)
  | 9 => ("MixedKernel$Task", "pending", "I", false)
  | 10 => ("MixedKernel$Task", "charged", "I", false)
  | 11 => ("MixedKernel$Task", "demands", "[I", true)
  | 12 => ("MixedKernel$Task", "releaseTimes", "[I", true)
  | _ => ("MixedKernel$Task", "endTimes", "[I", true)
def tyX3 : Nat → FieldType := fun k => match k with
  | 0 => .int
  | 1 => .int
  | 2 => .int
  | 3 => .int
  | 4 => .boolean
  | 5 => .int
  | 6 => .int
  | 7 => .int
  | 8 => .int
  | 9 => .int
  | 10 => .int
  | 11 => .array .int
  | 12 => .array .int
  | _ => .array .int
abbrev wsX30 : List Cond := u_ws RX3 TX3 14
theorem nmX3 : ∀ a, a < 14 → ∀ b, b < 14 → a ≠ b → (TX3 a).2.1 ≠ (TX3 b).2.1 := by decide +kernel
theorem tyX3_ok : ∀ k, k < 14 → parseFieldDescriptor (TX3 k).2.2.1 = some (tyX3 k) := by decide +kernel
abbrev cX3_init : ByteArray := prog_5_method_1_code
def yX3_init : MethodName := ⟨RX3, "<init>", "()V"⟩
abbrev cX3_begin : ByteArray := prog_5_method_2_code
def yX3_begin : MethodName := ⟨RX3, "begin", "(IIII)V"⟩
abbrev cX3_isHigh : ByteArray := prog_5_method_3_code
def yX3_isHigh : MethodName := ⟨RX3, "isHigh", "()Z"⟩
abbrev cX3_greatestBudget : ByteArray := prog_5_method_4_code
def yX3_greatestBudget : MethodName := ⟨RX3, "greatestBudget", "()I"⟩
abbrev cX3_budgetAmong : ByteArray := prog_5_method_5_code
def yX3_budgetAmong : MethodName := ⟨RX3, "budgetAmong", "(I)I"⟩
abbrev cX3_nextRelease : ByteArray := prog_5_method_6_code
def yX3_nextRelease : MethodName := ⟨RX3, "nextRelease", "()I"⟩
abbrev cX3_keeps : ByteArray := prog_5_method_7_code
def yX3_keeps : MethodName := ⟨RX3, "keeps", "(I)Z"⟩
abbrev cX3_newJob : ByteArray := prog_5_method_8_code
def yX3_newJob : MethodName := ⟨RX3, "newJob", "(II)I"⟩
abbrev cX3_chargeFirst : ByteArray := prog_5_method_9_code
def yX3_chargeFirst : MethodName := ⟨RX3, "chargeFirst", "(I)Z"⟩
abbrev cX3_giveUpPending : ByteArray := prog_5_method_10_code
def yX3_giveUpPending : MethodName := ⟨RX3, "giveUpPending", "()I"⟩
abbrev cX3_lateJobs : ByteArray := prog_5_method_11_code
def yX3_lateJobs : MethodName := ⟨RX3, "lateJobs", "(I)I"⟩
abbrev cX3_isLate : ByteArray := prog_5_method_12_code
def yX3_isLate : MethodName := ⟨RX3, "isLate", "(II)Z"⟩
def RX4 : String := "MixedKernel$TaskSet"
def TX4 : u_T := fun k => match k with
  | _ => ("MixedKernel$TaskSet", "all", "[LMixedKernel$Task;", true)
def tyX4 : Nat → FieldType := fun k => match k with
  | _ => .array (.object "MixedKernel$Task")
abbrev wsX40 : List Cond := u_ws RX4 TX4 1
theorem nmX4 : ∀ a, a < 1 → ∀ b, b < 1 → a ≠ b → (TX4 a).2.1 ≠ (TX4 b).2.1 := by decide +kernel
theorem tyX4_ok : ∀ k, k < 1 → parseFieldDescriptor (TX4 k).2.2.1 = some (tyX4 k) := by decide +kernel
abbrev cX4_init : ByteArray := prog_6_method_1_code
def yX4_init : MethodName := ⟨RX4, "<init>", "()V"⟩
abbrev cX4_lowResponse : ByteArray := prog_6_method_2_code
def yX4_lowResponse : MethodName := ⟨RX4, "lowResponse", "(LMixedKernel$Line;II)I"⟩
abbrev cX4_bound : ByteArray := prog_6_method_3_code
def yX4_bound : MethodName := ⟨RX4, "bound", "(LMixedKernel$Line;II)I"⟩
abbrev cX4_firstLowResponseThatFails : ByteArray := prog_6_method_4_code
def yX4_firstLowResponseThatFails : MethodName := ⟨RX4, "firstLowResponseThatFails", "(LMixedKernel$Line;)I"⟩
abbrev cX4_firstBoundThatFails : ByteArray := prog_6_method_5_code
def yX4_firstBoundThatFails : MethodName := ⟨RX4, "firstBoundThatFails", "(LMixedKernel$Line;)I"⟩
abbrev cX4_lastThatPasses : ByteArray := prog_6_method_6_code
def yX4_lastThatPasses : MethodName := ⟨RX4, "lastThatPasses", "(LMixedKernel$Line;I)I"⟩
abbrev cX4_leastSpan : ByteArray := prog_6_method_7_code
def yX4_leastSpan : MethodName := ⟨RX4, "leastSpan", "(LMixedKernel$Line;IIII)I"⟩
abbrev cX4_workAhead : ByteArray := prog_6_method_8_code
def yX4_workAhead : MethodName := ⟨RX4, "workAhead", "(LMixedKernel$Line;IIII)I"⟩
def RX5 : String := "MixedKernel"
def TX5 : u_T := fun k => match k with
  | 0 => ("MixedKernel", "set", "LMixedKernel$TaskSet;", true)
  | 1 => ("MixedKernel", "tasks", "[LMixedKernel$Task;", true)
  | 2 => ("MixedKernel", "plan", "LMixedKernel$Line;", true)
  | 3 => ("MixedKernel", "order", "LMixedKernel$Line;", true)
  | 4 => ("MixedKernel", "trial", "LMixedKernel$Line;", true)
  | 5 => ("MixedKernel", "refusal", "LMixedKernel$Refusal;", true)
  | 6 => ("MixedKernel", "ran", "LMixedKernel$Latest;", true)
  | 7 => ("MixedKernel", "changes", "LMixedKernel$Latest;", true)
  | 8 => ("MixedKernel", "highMode", "Z", false)
  | 9 => ("MixedKernel", "time", "I", false)
  | 10 => ("MixedKernel", "idleTicks", "I", false)
  | 11 => ("MixedKernel", "latestIdle", "I", false)
  | _ => ("MixedKernel", "givenUp", "I", false)
def tyX5 : Nat → FieldType := fun k => match k with
  | 0 => .object "MixedKernel$TaskSet"
  | 1 => .array (.object "MixedKernel$Task")
  | 2 => .object "MixedKernel$Line"
  | 3 => .object "MixedKernel$Line"
  | 4 => .object "MixedKernel$Line"
  | 5 => .object "MixedKernel$Refusal"
  | 6 => .object "MixedKernel$Latest"
  | 7 => .object "MixedKernel$Latest"
  | 8 => .boolean
  | 9 => .int
  | 10 => .int
  | 11 => .int
  | _ => .int
abbrev wsX50 : List Cond := u_ws RX5 TX5 13
theorem nmX5 : ∀ a, a < 13 → ∀ b, b < 13 → a ≠ b → (TX5 a).2.1 ≠ (TX5 b).2.1 := by decide +kernel
theorem tyX5_ok : ∀ k, k < 13 → parseFieldDescriptor (TX5 k).2.2.1 = some (tyX5 k) := by decide +kernel
abbrev cX5_init : ByteArray := prog_1_method_1_code
def yX5_init : MethodName := ⟨RX5, "<init>", "()V"⟩
abbrev cX5_add : ByteArray := prog_1_method_2_code
def yX5_add : MethodName := ⟨RX5, "add", "(IIIII)I"⟩
abbrev cX5_remove : ByteArray := prog_1_method_3_code
def yX5_remove : MethodName := ⟨RX5, "remove", "(I)Z"⟩
abbrev cX5_release : ByteArray := prog_1_method_4_code
def yX5_release : MethodName := ⟨RX5, "release", "(II)I"⟩
abbrev cX5_tick : ByteArray := prog_1_method_5_code
def yX5_tick : MethodName := ⟨RX5, "tick", "()I"⟩
abbrev cX5_run : ByteArray := prog_1_method_6_code
def yX5_run : MethodName := ⟨RX5, "run", "(I)I"⟩
abbrev cX5_assign : ByteArray := prog_1_method_7_code
def yX5_assign : MethodName := ⟨RX5, "assign", "()Z"⟩
abbrev cX5_response : ByteArray := prog_1_method_8_code
def yX5_response : MethodName := ⟨RX5, "response", "(II)I"⟩
abbrev cX5_ended : ByteArray := prog_1_method_9_code
def yX5_ended : MethodName := ⟨RX5, "ended", "(II)I"⟩
abbrev cX5_about : ByteArray := prog_1_method_10_code
def yX5_about : MethodName := ⟨RX5, "about", "(II)I"⟩
abbrev cX5_witness : ByteArray := prog_1_method_11_code
def yX5_witness : MethodName := ⟨RX5, "witness", "(II)I"⟩
abbrev cX5_trace : ByteArray := prog_1_method_12_code
def yX5_trace : MethodName := ⟨RX5, "trace", "(I)I"⟩
abbrev cX5_changed : ByteArray := prog_1_method_13_code
def yX5_changed : MethodName := ⟨RX5, "changed", "(I)I"⟩
abbrev cX5_count : ByteArray := prog_1_method_14_code
def yX5_count : MethodName := ⟨RX5, "count", "(I)I"⟩
abbrev cX5_isTask : ByteArray := prog_1_method_15_code
def yX5_isTask : MethodName := ⟨RX5, "isTask", "(I)Z"⟩
abbrev cX5_areTimes : ByteArray := prog_1_method_16_code
def yX5_areTimes : MethodName := ⟨RX5, "areTimes", "(II)Z"⟩
abbrev cX5_areBudgets : ByteArray := prog_1_method_17_code
def yX5_areBudgets : MethodName := ⟨RX5, "areBudgets", "(II)Z"⟩
abbrev cX5_slotOf : ByteArray := prog_1_method_18_code
def yX5_slotOf : MethodName := ⟨RX5, "slotOf", "(I)I"⟩
abbrev cX5_releasesWithin : ByteArray := prog_1_method_19_code
def yX5_releasesWithin : MethodName := ⟨RX5, "releasesWithin", "(II)I"⟩
abbrev cX5_isKnown : ByteArray := prog_1_method_20_code
def yX5_isKnown : MethodName := ⟨RX5, "isKnown", "(I)Z"⟩
abbrev cX5_isInForce : ByteArray := prog_1_method_21_code
def yX5_isInForce : MethodName := ⟨RX5, "isInForce", "(I)Z"⟩
abbrev cX5_placeFor : ByteArray := prog_1_method_22_code
def yX5_placeFor : MethodName := ⟨RX5, "placeFor", "(I)I"⟩
abbrev cX5_admitTrial : ByteArray := prog_1_method_23_code
def yX5_admitTrial : MethodName := ⟨RX5, "admitTrial", "()I"⟩
abbrev cX5_pendingJobs : ByteArray := prog_1_method_24_code
def yX5_pendingJobs : MethodName := ⟨RX5, "pendingJobs", "()I"⟩
abbrev cX5_advance : ByteArray := prog_1_method_25_code
def yX5_advance : MethodName := ⟨RX5, "advance", "()I"⟩
abbrev cX5_firstToRun : ByteArray := prog_1_method_26_code
def yX5_firstToRun : MethodName := ⟨RX5, "firstToRun", "()I"⟩
abbrev cX5_settle : ByteArray := prog_1_method_27_code
def yX5_settle : MethodName := ⟨RX5, "settle", "()V"⟩
abbrev cX5_charge : ByteArray := prog_1_method_28_code
def yX5_charge : MethodName := ⟨RX5, "charge", "(I)V"⟩
abbrev cX5_becomeHigh : ByteArray := prog_1_method_29_code
def yX5_becomeHigh : MethodName := ⟨RX5, "becomeHigh", "()V"⟩
abbrev cX5_forgetIfLeft : ByteArray := prog_1_method_30_code
def yX5_forgetIfLeft : MethodName := ⟨RX5, "forgetIfLeft", "(I)V"⟩
def RX6 : String := "MixedKernelModel"
def TX6 : u_T := fun k => match k with
  | 0 => ("MixedKernelModel", "thrown", "I", false)
  | 1 => ("MixedKernelModel", "known", "[Z", true)
  | 2 => ("MixedKernelModel", "leaving", "[Z", true)
  | 3 => ("MixedKernelModel", "periods", "[I", true)
  | 4 => ("MixedKernelModel", "deadlines", "[I", true)
  | 5 => ("MixedKernelModel", "lows", "[I", true)
  | 6 => ("MixedKernelModel", "highs", "[I", true)
  | 7 => ("MixedKernelModel", "planned", "I", false)
  | 8 => ("MixedKernelModel", "plan", "[I", true)
  | 9 => ("MixedKernelModel", "inForce", "I", false)
  | 10 => ("MixedKernelModel", "order", "[I", true)
  | 11 => ("MixedKernelModel", "found", "[I", true)
  | 12 => ("MixedKernelModel", "jobs", "[I", true)
  | 13 => ("MixedKernelModel", "drops", "[I", true)
  | 14 => ("MixedKernelModel", "charged", "[I", true)
  | 15 => ("MixedKernelModel", "lates", "[I", true)
  | 16 => ("MixedKernelModel", "nexts", "[I", true)
  | 17 => ("MixedKernelModel", "releases", "[I", true)
  | 18 => ("MixedKernelModel", "demands", "[I", true)
  | 19 => ("MixedKernelModel", "charges", "[I", true)
  | 20 => ("MixedKernelModel", "ends", "[I", true)
  | 21 => ("MixedKernelModel", "time", "I", false)
  | 22 => ("MixedKernelModel", "idles", "I", false)
  | 23 => ("MixedKernelModel", "latestIdle", "I", false)
  | 24 => ("MixedKernelModel", "mode", "I", false)
  | 25 => ("MixedKernelModel", "changes", "I", false)
  | 26 => ("MixedKernelModel", "givenUp", "I", false)
  | 27 => ("MixedKernelModel", "changed", "[I", true)
  | 28 => ("MixedKernelModel", "trace", "[I", true)
  | 29 => ("MixedKernelModel", "witnesses", "I", false)
  | 30 => ("MixedKernelModel", "who", "[I", true)
  | 31 => ("MixedKernelModel", "whoPeriods", "[I", true)
  | 32 => ("MixedKernelModel", "until", "I", false)
  | 33 => ("MixedKernelModel", "trial", "[I", true)
  | _ => ("MixedKernelModel", "placed", "[Z", true)
def tyX6 : Nat → FieldType := fun k => match k with
  | 0 => .int
  | 1 => .array .boolean
  | 2 => .array .boolean
  | 3 => .array .int
  | 4 => .array .int
  | 5 => .array .int
  | 6 => .array .int
  | 7 => .int
  | 8 => .array .int
  | 9 => .int
  | 10 => .array .int
  | 11 => .array .int
  | 12 => .array .int
  | 13 => .array .int
  | 14 => .array .int
  | 15 => .array .int
  | 16 => .array .int
  | 17 => .array .int
  | 18 => .array .int
  | 19 => .array .int
  | 20 => .array .int
  | 21 => .int
  | 22 => .int
  | 23 => .int
  | 24 => .int
  | 25 => .int
  | 26 => .int
  | 27 => .array .int
  | 28 => .array .int
  | 29 => .int
  | 30 => .array .int
  | 31 => .array .int
  | 32 => .int
  | 33 => .array .int
  | _ => .array .boolean
abbrev wsX60 : List Cond := u_ws RX6 TX6 35
theorem nmX6 : ∀ a, a < 35 → ∀ b, b < 35 → a ≠ b → (TX6 a).2.1 ≠ (TX6 b).2.1 := by decide +kernel
theorem tyX6_ok : ∀ k, k < 35 → parseFieldDescriptor (TX6 k).2.2.1 = some (tyX6 k) := by decide +kernel
abbrev cX6_init : ByteArray := prog_8_method_1_code
def yX6_init : MethodName := ⟨RX6, "<init>", "()V"⟩
abbrev cX6_thrown : ByteArray := prog_8_method_2_code
def yX6_thrown : MethodName := ⟨RX6, "thrown", "()I"⟩
abbrev cX6_goes : ByteArray := prog_8_method_3_code
def yX6_goes : MethodName := ⟨RX6, "goes", "(ZZZ)Z"⟩
abbrev cX6_within : ByteArray := prog_8_method_4_code
def yX6_within : MethodName := ⟨RX6, "within", "(III)Z"⟩
abbrev cX6_isKnown : ByteArray := prog_8_method_5_code
def yX6_isKnown : MethodName := ⟨RX6, "isKnown", "(I)Z"⟩
abbrev cX6_times : ByteArray := prog_8_method_6_code
def yX6_times : MethodName := ⟨RX6, "times", "(II)I"⟩
abbrev cX6_lowResponse : ByteArray := prog_8_method_7_code
def yX6_lowResponse : MethodName := ⟨RX6, "lowResponse", "(I)I"⟩
abbrev cX6_bound : ByteArray := prog_8_method_8_code
def yX6_bound : MethodName := ⟨RX6, "bound", "(II)I"⟩
abbrev cX6_markAhead : ByteArray := prog_8_method_9_code
def yX6_markAhead : MethodName := ⟨RX6, "markAhead", "(I)V"⟩
abbrev cX6_unfit : ByteArray := prog_8_method_10_code
def yX6_unfit : MethodName := ⟨RX6, "unfit", "()I"⟩
abbrev cX6_takeOut : ByteArray := prog_8_method_11_code
def yX6_takeOut : MethodName := ⟨RX6, "takeOut", "(I)V"⟩
abbrev cX6_noteWitness : ByteArray := prog_8_method_12_code
def yX6_noteWitness : MethodName := ⟨RX6, "noteWitness", "(I)V"⟩
abbrev cX6_add : ByteArray := prog_8_method_13_code
def yX6_add : MethodName := ⟨RX6, "add", "(IIIII)I"⟩
abbrev cX6_at : ByteArray := prog_8_method_14_code
def yX6_at : MethodName := ⟨RX6, "at", "(II)I"⟩
abbrev cX6_isPending : ByteArray := prog_8_method_15_code
def yX6_isPending : MethodName := ⟨RX6, "isPending", "(II)Z"⟩
abbrev cX6_pending : ByteArray := prog_8_method_16_code
def yX6_pending : MethodName := ⟨RX6, "pending", "(I)I"⟩
abbrev cX6_leave : ByteArray := prog_8_method_17_code
def yX6_leave : MethodName := ⟨RX6, "leave", "(I)V"⟩
abbrev cX6_remove : ByteArray := prog_8_method_18_code
def yX6_remove : MethodName := ⟨RX6, "remove", "(I)Z"⟩
abbrev cX6_place : ByteArray := prog_8_method_19_code
def yX6_place : MethodName := ⟨RX6, "place", "(I)I"⟩
abbrev cX6_release : ByteArray := prog_8_method_20_code
def yX6_release : MethodName := ⟨RX6, "release", "(II)I"⟩
abbrev cX6_giveUp : ByteArray := prog_8_method_21_code
def yX6_giveUp : MethodName := ⟨RX6, "giveUp", "()V"⟩
abbrev cX6_firstJob : ByteArray := prog_8_method_22_code
def yX6_firstJob : MethodName := ⟨RX6, "firstJob", "(I)I"⟩
abbrev cX6_charge : ByteArray := prog_8_method_23_code
def yX6_charge : MethodName := ⟨RX6, "charge", "(I)V"⟩
abbrev cX6_oneTick : ByteArray := prog_8_method_24_code
def yX6_oneTick : MethodName := ⟨RX6, "oneTick", "()I"⟩
abbrev cX6_tick : ByteArray := prog_8_method_25_code
def yX6_tick : MethodName := ⟨RX6, "tick", "()I"⟩
abbrev cX6_run : ByteArray := prog_8_method_26_code
def yX6_run : MethodName := ⟨RX6, "run", "(I)I"⟩
abbrev cX6_passes : ByteArray := prog_8_method_27_code
def yX6_passes : MethodName := ⟨RX6, "passes", "(I)Z"⟩
abbrev cX6_assign : ByteArray := prog_8_method_28_code
def yX6_assign : MethodName := ⟨RX6, "assign", "()Z"⟩
abbrev cX6_planPlace : ByteArray := prog_8_method_29_code
def yX6_planPlace : MethodName := ⟨RX6, "planPlace", "(I)I"⟩
abbrev cX6_response : ByteArray := prog_8_method_30_code
def yX6_response : MethodName := ⟨RX6, "response", "(II)I"⟩
abbrev cX6_ended : ByteArray := prog_8_method_31_code
def yX6_ended : MethodName := ⟨RX6, "ended", "(II)I"⟩
abbrev cX6_late : ByteArray := prog_8_method_32_code
def yX6_late : MethodName := ⟨RX6, "late", "(I)I"⟩
abbrev cX6_about : ByteArray := prog_8_method_33_code
def yX6_about : MethodName := ⟨RX6, "about", "(II)I"⟩
abbrev cX6_witness : ByteArray := prog_8_method_34_code
def yX6_witness : MethodName := ⟨RX6, "witness", "(II)I"⟩
abbrev cX6_trace : ByteArray := prog_8_method_35_code
def yX6_trace : MethodName := ⟨RX6, "trace", "(I)I"⟩
abbrev cX6_changed : ByteArray := prog_8_method_36_code
def yX6_changed : MethodName := ⟨RX6, "changed", "(I)I"⟩
abbrev cX6_sum : ByteArray := prog_8_method_37_code
def yX6_sum : MethodName := ⟨RX6, "sum", "(I)I"⟩
abbrev cX6_count : ByteArray := prog_8_method_38_code
def yX6_count : MethodName := ⟨RX6, "count", "(I)I"⟩
def RJ9 : String := "java/lang/Math"
def TJ9 : u_T := fun k => match k with
  | _ => ("", "", "", false)
def tyJ9 : Nat → FieldType := fun k => match k with
  | _ => .int
abbrev wsJ90 : List Cond := u_ws RJ9 TJ9 0
theorem nmJ9 : ∀ a, a < 0 → ∀ b, b < 0 → a ≠ b → (TJ9 a).2.1 ≠ (TJ9 b).2.1 := by decide +kernel
theorem tyJ9_ok : ∀ k, k < 0 → parseFieldDescriptor (TJ9 k).2.2.1 = some (tyJ9 k) := by decide +kernel
abbrev cJ9_floorMod_7cf53 : ByteArray := prog_12_method_50_code
def yJ9_floorMod_7cf53 : MethodName := ⟨RJ9, "floorMod", "(II)I"⟩
def RJ10 : String := "java/lang/System"
def TJ10 : u_T := fun k => match k with
  | _ => ("", "", "", false)
def tyJ10 : Nat → FieldType := fun k => match k with
  | _ => .int
abbrev wsJ100 : List Cond := u_ws RJ10 TJ10 0
theorem nmJ10 : ∀ a, a < 0 → ∀ b, b < 0 → a ≠ b → (TJ10 a).2.1 ≠ (TJ10 b).2.1 := by decide +kernel
theorem tyJ10_ok : ∀ k, k < 0 → parseFieldDescriptor (TJ10 k).2.2.1 = some (tyJ10 k) := by decide +kernel
def RL : String := "MixedKernelLaw"
abbrev cL_add : ByteArray := method_3_code
def yL_add : MethodName := ⟨RL, "add", "(LMixedKernel;IIIII[J)I"⟩
abbrev cL_remove : ByteArray := method_4_code
def yL_remove : MethodName := ⟨RL, "remove", "(LMixedKernel;I[J)I"⟩
abbrev cL_release : ByteArray := method_5_code
def yL_release : MethodName := ⟨RL, "release", "(LMixedKernel;II[J)I"⟩
abbrev cL_run : ByteArray := method_6_code
def yL_run : MethodName := ⟨RL, "run", "(LMixedKernel;I[J)I"⟩
abbrev cL_response : ByteArray := method_7_code
def yL_response : MethodName := ⟨RL, "response", "(LMixedKernel;II[J)I"⟩
abbrev cL_ended : ByteArray := method_8_code
def yL_ended : MethodName := ⟨RL, "ended", "(LMixedKernel;II[J)I"⟩
abbrev cL_about : ByteArray := method_9_code
def yL_about : MethodName := ⟨RL, "about", "(LMixedKernel;II[J)I"⟩
abbrev cL_witness : ByteArray := method_10_code
def yL_witness : MethodName := ⟨RL, "witness", "(LMixedKernel;II[J)I"⟩
abbrev cL_trace : ByteArray := method_11_code
def yL_trace : MethodName := ⟨RL, "trace", "(LMixedKernel;I[J)I"⟩
abbrev cL_changed : ByteArray := method_12_code
def yL_changed : MethodName := ⟨RL, "changed", "(LMixedKernel;I[J)I"⟩
abbrev cL_count : ByteArray := method_13_code
def yL_count : MethodName := ⟨RL, "count", "(LMixedKernel;I[J)I"⟩
abbrev cL_law : ByteArray := code
def yL_law : MethodName := ⟨RL, "law", "([I)Z"⟩
def wsX0_init : List Cond := .code yX0_init cX0_init 2 none :: ([.methodLink RX0 1 objectInit, .instanceMethod objectInit, .code objectInit ⟨#[0xb1]⟩ 1 none, .arrayClass .int, .fieldLink RX0 7 "MixedKernel$Latest" "kept" "[I"] ++ wsX00)
def wsJ9_floorMod_7cf53 : List Cond := .code yJ9_floorMod_7cf53 cJ9_floorMod_7cf53 3 (some .int) :: ([])
def wsX0_put : List Cond := .code yX0_put cX0_put 2 none :: ([.fieldLink RX0 7 "MixedKernel$Latest" "kept" "[I", .fieldLink RX0 13 "MixedKernel$Latest" "total" "I", .methodLink RX0 17 yJ9_floorMod_7cf53, .static yJ9_floorMod_7cf53, .initialized RJ9, .code yJ9_floorMod_7cf53 cJ9_floorMod_7cf53 3 (some .int)] ++ wsX00)
def wsX0_keeps : List Cond := .code yX0_keeps cX0_keeps 2 (some .boolean) :: ([.fieldLink RX0 7 "MixedKernel$Latest" "kept" "[I", .fieldLink RX0 13 "MixedKernel$Latest" "total" "I"] ++ wsX00)
def wsX0_back : List Cond := .code yX0_back cX0_back 2 (some .int) :: ([.fieldLink RX0 7 "MixedKernel$Latest" "kept" "[I", .fieldLink RX0 13 "MixedKernel$Latest" "total" "I", .methodLink RX0 17 yJ9_floorMod_7cf53, .static yJ9_floorMod_7cf53, .initialized RJ9, .code yJ9_floorMod_7cf53 cJ9_floorMod_7cf53 3 (some .int)] ++ wsX00)
def wsX1_init : List Cond := .code yX1_init cX1_init 1 none :: ([.methodLink RX1 3 objectInit, .instanceMethod objectInit, .code objectInit ⟨#[0xb1]⟩ 1 none, .arrayClass .int, .fieldLink RX1 9 "MixedKernel$Line" "ids" "[I"] ++ wsX10)
def wsX1_placeOf : List Cond := .code yX1_placeOf cX1_placeOf 3 (some .int) :: ([.fieldLink RX1 15 "MixedKernel$Line" "size" "I", .fieldLink RX1 9 "MixedKernel$Line" "ids" "[I"] ++ wsX10)
def wsX1_become : List Cond := .code yX1_become cX1_become 2 none :: ([.fieldLink RX1 9 "MixedKernel$Line" "ids" "[I", .methodLink RX1 19 arraycopyName, .native arraycopyName, .static arraycopyName, .initialized "java/lang/System", .fieldLink RX1 15 "MixedKernel$Line" "size" "I"] ++ wsX10)
def wsX1_insert : List Cond := .code yX1_insert cX1_insert 4 none :: ([.fieldLink RX1 15 "MixedKernel$Line" "size" "I", .fieldLink RX1 9 "MixedKernel$Line" "ids" "[I"] ++ wsX10)
def wsX1_moveBack : List Cond := .code yX1_moveBack cX1_moveBack 5 none :: ([.fieldLink RX1 9 "MixedKernel$Line" "ids" "[I"] ++ wsX10)
def wsX1_drop : List Cond := .code yX1_drop cX1_drop 3 none :: ([.fieldLink RX1 15 "MixedKernel$Line" "size" "I", .methodLink RX1 25 yX1_placeOf, .instanceMethod yX1_placeOf, .selects RX1 yX1_placeOf yX1_placeOf, .initialized RX1, .code yX1_placeOf cX1_placeOf 3 (some .int), .fieldLink RX1 9 "MixedKernel$Line" "ids" "[I", .methodLink RX1 29 yX1_moveBack, .instanceMethod yX1_moveBack, .selects RX1 yX1_moveBack yX1_moveBack, .code yX1_moveBack cX1_moveBack 5 none] ++ wsX10)
def wsX2_init : List Cond := .code yX2_init cX2_init 1 none :: ([.methodLink RX2 3 objectInit, .instanceMethod objectInit, .code objectInit ⟨#[0xb1]⟩ 1 none, .arrayClass .int, .fieldLink RX2 9 "MixedKernel$Refusal" "ids" "[I", .fieldLink RX2 15 "MixedKernel$Refusal" "periods" "[I"] ++ wsX20)
def wsX2_keep : List Cond := .code yX2_keep cX2_keep 5 none :: ([.fieldLink RX2 18 "MixedKernel$Refusal" "size" "I", .fieldLink RX2 9 "MixedKernel$Refusal" "ids" "[I", .fieldLink RX2 15 "MixedKernel$Refusal" "periods" "[I", .fieldLink RX2 33 "MixedKernel$Refusal" "deadline" "I"] ++ wsX20 ++ wsX10 ++ wsX30)
def wsX5_releasesWithin : List Cond := .code yX5_releasesWithin cX5_releasesWithin 2 (some .int) :: ([])
def wsX2_releasesBefore : List Cond := .code yX2_releasesBefore cX2_releasesBefore 4 (some .int) :: ([.fieldLink RX2 18 "MixedKernel$Refusal" "size" "I", .fieldLink RX2 15 "MixedKernel$Refusal" "periods" "[I", .static yX5_releasesWithin, .initialized RX5, .code yX5_releasesWithin cX5_releasesWithin 2 (some .int)] ++ wsX20)
def wsX2_releases : List Cond := .code yX2_releases cX2_releases 1 (some .int) :: ([.fieldLink RX2 33 "MixedKernel$Refusal" "deadline" "I", .methodLink RX2 34 yX2_releasesBefore, .instanceMethod yX2_releasesBefore, .selects RX2 yX2_releasesBefore yX2_releasesBefore, .initialized RX2, .code yX2_releasesBefore cX2_releasesBefore 4 (some .int), .fieldLink RX2 18 "MixedKernel$Refusal" "size" "I", .fieldLink RX2 15 "MixedKernel$Refusal" "periods" "[I", .static yX5_releasesWithin, .initialized RX5, .code yX5_releasesWithin cX5_releasesWithin 2 (some .int)] ++ wsX20)
def wsX2_timeOf : List Cond := .code yX2_timeOf cX2_timeOf 4 (some .int) :: ([.fieldLink RX2 33 "MixedKernel$Refusal" "deadline" "I", .methodLink RX2 34 yX2_releasesBefore, .instanceMethod yX2_releasesBefore, .selects RX2 yX2_releasesBefore yX2_releasesBefore, .initialized RX2, .code yX2_releasesBefore cX2_releasesBefore 4 (some .int), .fieldLink RX2 18 "MixedKernel$Refusal" "size" "I", .fieldLink RX2 15 "MixedKernel$Refusal" "periods" "[I", .static yX5_releasesWithin, .initialized RX5, .code yX5_releasesWithin cX5_releasesWithin 2 (some .int)] ++ wsX20)
def wsX2_isReleaseTime : List Cond := .code yX2_isReleaseTime cX2_isReleaseTime 2 (some .boolean) :: ([])
def wsX2_taskOf : List Cond := .code yX2_taskOf cX2_taskOf 5 (some .int) :: ([.fieldLink RX2 18 "MixedKernel$Refusal" "size" "I", .fieldLink RX2 15 "MixedKernel$Refusal" "periods" "[I", .fieldLink RX2 9 "MixedKernel$Refusal" "ids" "[I", .methodLink RX2 38 yX2_timeOf, .instanceMethod yX2_timeOf, .selects RX2 yX2_timeOf yX2_timeOf, .initialized RX2, .code yX2_timeOf cX2_timeOf 4 (some .int), .fieldLink RX2 33 "MixedKernel$Refusal" "deadline" "I", .methodLink RX2 34 yX2_releasesBefore, .instanceMethod yX2_releasesBefore, .selects RX2 yX2_releasesBefore yX2_releasesBefore, .code yX2_releasesBefore cX2_releasesBefore 4 (some .int), .static yX5_releasesWithin, .initialized RX5, .code yX5_releasesWithin cX5_releasesWithin 2 (some .int), .methodLink RX2 41 yX2_isReleaseTime, .static yX2_isReleaseTime, .code yX2_isReleaseTime cX2_isReleaseTime 2 (some .boolean)] ++ wsX20)
def wsX3_init : List Cond := .code yX3_init cX3_init 1 none :: ([.methodLink RX3 3 objectInit, .instanceMethod objectInit, .code objectInit ⟨#[0xb1]⟩ 1 none, .fieldLink RX3 9 "MixedKernel$Task" "period" "I", .fieldLink RX3 15 "MixedKernel$Task" "deadline" "I", .fieldLink RX3 18 "MixedKernel$Task" "low" "I", .arrayClass .int, .fieldLink RX3 21 "MixedKernel$Task" "demands" "[I", .fieldLink RX3 25 "MixedKernel$Task" "releaseTimes" "[I", .fieldLink RX3 28 "MixedKernel$Task" "endTimes" "[I"] ++ wsX30)
def wsX3_begin : List Cond := .code yX3_begin cX3_begin 5 none :: ([.fieldLink RX3 9 "MixedKernel$Task" "period" "I", .fieldLink RX3 15 "MixedKernel$Task" "deadline" "I", .fieldLink RX3 18 "MixedKernel$Task" "low" "I", .fieldLink RX3 31 "MixedKernel$Task" "high" "I", .fieldLink RX3 34 "MixedKernel$Task" "leaving" "Z", .fieldLink RX3 38 "MixedKernel$Task" "jobs" "I", .fieldLink RX3 41 "MixedKernel$Task" "dropped" "I", .fieldLink RX3 44 "MixedKernel$Task" "ticks" "I", .fieldLink RX3 47 "MixedKernel$Task" "endedLate" "I", .fieldLink RX3 50 "MixedKernel$Task" "pending" "I", .fieldLink RX3 53 "MixedKernel$Task" "charged" "I"] ++ wsX30)
def wsX3_isHigh : List Cond := .code yX3_isHigh cX3_isHigh 1 (some .boolean) :: ([.fieldLink RX3 31 "MixedKernel$Task" "high" "I"] ++ wsX30)
def wsX3_greatestBudget : List Cond := .code yX3_greatestBudget cX3_greatestBudget 1 (some .int) :: ([.fieldLink RX3 31 "MixedKernel$Task" "high" "I", .fieldLink RX3 18 "MixedKernel$Task" "low" "I", .methodLink RX3 56 yX3_isHigh, .instanceMethod yX3_isHigh, .selects RX3 yX3_isHigh yX3_isHigh, .initialized RX3, .code yX3_isHigh cX3_isHigh 1 (some .boolean)] ++ wsX30)
def wsX3_budgetAmong : List Cond := .code yX3_budgetAmong cX3_budgetAmong 2 (some .int) :: ([.fieldLink RX3 31 "MixedKernel$Task" "high" "I", .fieldLink RX3 18 "MixedKernel$Task" "low" "I"] ++ wsX30)
def wsX5_slotOf : List Cond := .code yX5_slotOf cX5_slotOf 1 (some .int) :: ([.methodLink RX5 207 yJ9_floorMod_7cf53, .static yJ9_floorMod_7cf53, .initialized RJ9, .code yJ9_floorMod_7cf53 cJ9_floorMod_7cf53 3 (some .int)])
def wsX3_nextRelease : List Cond := .code yX3_nextRelease cX3_nextRelease 1 (some .int) :: ([.fieldLink RX3 38 "MixedKernel$Task" "jobs" "I", .fieldLink RX3 25 "MixedKernel$Task" "releaseTimes" "[I", .fieldLink RX3 9 "MixedKernel$Task" "period" "I", .static yX5_slotOf, .initialized RX5, .code yX5_slotOf cX5_slotOf 1 (some .int), .methodLink RX5 207 yJ9_floorMod_7cf53, .static yJ9_floorMod_7cf53, .initialized RJ9, .code yJ9_floorMod_7cf53 cJ9_floorMod_7cf53 3 (some .int)] ++ wsX30)
def wsX3_keeps : List Cond := .code yX3_keeps cX3_keeps 2 (some .boolean) :: ([.fieldLink RX3 38 "MixedKernel$Task" "jobs" "I"] ++ wsX30)
def wsX3_newJob : List Cond := .code yX3_newJob cX3_newJob 4 (some .int) :: ([.fieldLink RX3 38 "MixedKernel$Task" "jobs" "I", .fieldLink RX3 50 "MixedKernel$Task" "pending" "I", .fieldLink RX3 21 "MixedKernel$Task" "demands" "[I", .fieldLink RX3 25 "MixedKernel$Task" "releaseTimes" "[I", .fieldLink RX3 28 "MixedKernel$Task" "endTimes" "[I", .static yX5_slotOf, .initialized RX5, .code yX5_slotOf cX5_slotOf 1 (some .int), .methodLink RX5 207 yJ9_floorMod_7cf53, .static yJ9_floorMod_7cf53, .initialized RJ9, .code yJ9_floorMod_7cf53 cJ9_floorMod_7cf53 3 (some .int)] ++ wsX30)
def wsX3_isLate : List Cond := .code yX3_isLate cX3_isLate 3 (some .boolean) :: ([.fieldLink RX3 25 "MixedKernel$Task" "releaseTimes" "[I", .fieldLink RX3 15 "MixedKernel$Task" "deadline" "I"] ++ wsX30)
def wsX3_chargeFirst : List Cond := .code yX3_chargeFirst cX3_chargeFirst 3 (some .boolean) :: ([.fieldLink RX3 38 "MixedKernel$Task" "jobs" "I", .fieldLink RX3 50 "MixedKernel$Task" "pending" "I", .fieldLink RX3 44 "MixedKernel$Task" "ticks" "I", .fieldLink RX3 53 "MixedKernel$Task" "charged" "I", .fieldLink RX3 21 "MixedKernel$Task" "demands" "[I", .fieldLink RX3 28 "MixedKernel$Task" "endTimes" "[I", .fieldLink RX3 47 "MixedKernel$Task" "endedLate" "I", .static yX5_slotOf, .initialized RX5, .code yX5_slotOf cX5_slotOf 1 (some .int), .methodLink RX5 207 yJ9_floorMod_7cf53, .static yJ9_floorMod_7cf53, .initialized RJ9, .code yJ9_floorMod_7cf53 cJ9_floorMod_7cf53 3 (some .int), .methodLink RX3 64 yX3_isLate, .instanceMethod yX3_isLate, .selects RX3 yX3_isLate yX3_isLate, .initialized RX3, .code yX3_isLate cX3_isLate 3 (some .boolean), .fieldLink RX3 25 "MixedKernel$Task" "releaseTimes" "[I", .fieldLink RX3 15 "MixedKernel$Task" "deadline" "I"] ++ wsX30)
def wsX3_giveUpPending : List Cond := .code yX3_giveUpPending cX3_giveUpPending 3 (some .int) :: ([.fieldLink RX3 50 "MixedKernel$Task" "pending" "I", .fieldLink RX3 28 "MixedKernel$Task" "endTimes" "[I", .fieldLink RX3 38 "MixedKernel$Task" "jobs" "I", .fieldLink RX3 53 "MixedKernel$Task" "charged" "I", .static yX5_slotOf, .initialized RX5, .code yX5_slotOf cX5_slotOf 1 (some .int), .methodLink RX5 207 yJ9_floorMod_7cf53, .static yJ9_floorMod_7cf53, .initialized RJ9, .code yJ9_floorMod_7cf53 cJ9_floorMod_7cf53 3 (some .int)] ++ wsX30)
def wsX3_lateJobs : List Cond := .code yX3_lateJobs cX3_lateJobs 4 (some .int) :: ([.fieldLink RX3 47 "MixedKernel$Task" "endedLate" "I", .fieldLink RX3 50 "MixedKernel$Task" "pending" "I", .fieldLink RX3 38 "MixedKernel$Task" "jobs" "I", .static yX5_slotOf, .initialized RX5, .code yX5_slotOf cX5_slotOf 1 (some .int), .methodLink RX5 207 yJ9_floorMod_7cf53, .static yJ9_floorMod_7cf53, .initialized RJ9, .code yJ9_floorMod_7cf53 cJ9_floorMod_7cf53 3 (some .int), .methodLink RX3 64 yX3_isLate, .instanceMethod yX3_isLate, .selects RX3 yX3_isLate yX3_isLate, .initialized RX3, .code yX3_isLate cX3_isLate 3 (some .boolean), .fieldLink RX3 25 "MixedKernel$Task" "releaseTimes" "[I", .fieldLink RX3 15 "MixedKernel$Task" "deadline" "I"] ++ wsX30)
def wsX4_init : List Cond := .code yX4_init cX4_init 2 none :: ([.methodLink RX4 3 objectInit, .instanceMethod objectInit, .code objectInit ⟨#[0xb1]⟩ 1 none, .classLink RX4 9 RX3, .fieldLink RX4 11 "MixedKernel$TaskSet" "all" "[LMixedKernel$Task;", .instantiable RX3 14, .initialized RX3, .instanceMethod yX3_init, .code yX3_init cX3_init 1 none, .methodLink RX3 3 objectInit, .fieldLink RX3 9 "MixedKernel$Task" "period" "I", .fieldLink RX3 15 "MixedKernel$Task" "deadline" "I", .fieldLink RX3 18 "MixedKernel$Task" "low" "I", .arrayClass .int, .fieldLink RX3 21 "MixedKernel$Task" "demands" "[I", .fieldLink RX3 25 "MixedKernel$Task" "releaseTimes" "[I", .fieldLink RX3 28 "MixedKernel$Task" "endTimes" "[I"] ++ wsX40 ++ wsX30)
def wsX4_workAhead : List Cond := .code yX4_workAhead cX4_workAhead 9 (some .int) :: ([.fieldLink RX4 11 "MixedKernel$TaskSet" "all" "[LMixedKernel$Task;", .static yX5_releasesWithin, .initialized RX5, .code yX5_releasesWithin cX5_releasesWithin 2 (some .int), .methodLink RX4 62 yX3_budgetAmong, .instanceMethod yX3_budgetAmong, .selects RX3 yX3_budgetAmong yX3_budgetAmong, .initialized RX3, .code yX3_budgetAmong cX3_budgetAmong 2 (some .int), .fieldLink RX3 31 "MixedKernel$Task" "high" "I", .fieldLink RX3 18 "MixedKernel$Task" "low" "I"] ++ wsX40 ++ wsX10 ++ wsX30)
def wsX4_leastSpan : List Cond := .code yX4_leastSpan cX4_leastSpan 10 (some .int) :: ([.fieldLink RX4 11 "MixedKernel$TaskSet" "all" "[LMixedKernel$Task;", .methodLink RX4 39 yX4_workAhead, .instanceMethod yX4_workAhead, .selects RX4 yX4_workAhead yX4_workAhead, .initialized RX4, .code yX4_workAhead cX4_workAhead 9 (some .int), .static yX5_releasesWithin, .initialized RX5, .code yX5_releasesWithin cX5_releasesWithin 2 (some .int), .methodLink RX4 62 yX3_budgetAmong, .instanceMethod yX3_budgetAmong, .selects RX3 yX3_budgetAmong yX3_budgetAmong, .initialized RX3, .code yX3_budgetAmong cX3_budgetAmong 2 (some .int), .fieldLink RX3 31 "MixedKernel$Task" "high" "I", .fieldLink RX3 18 "MixedKernel$Task" "low" "I"] ++ wsX40 ++ wsX10 ++ wsX30)
def wsX4_lowResponse : List Cond := .code yX4_lowResponse cX4_lowResponse 4 (some .int) :: ([.fieldLink RX4 11 "MixedKernel$TaskSet" "all" "[LMixedKernel$Task;", .methodLink RX4 28 yX4_leastSpan, .instanceMethod yX4_leastSpan, .selects RX4 yX4_leastSpan yX4_leastSpan, .initialized RX4, .code yX4_leastSpan cX4_leastSpan 10 (some .int), .methodLink RX4 39 yX4_workAhead, .instanceMethod yX4_workAhead, .selects RX4 yX4_workAhead yX4_workAhead, .code yX4_workAhead cX4_workAhead 9 (some .int), .static yX5_releasesWithin, .initialized RX5, .code yX5_releasesWithin cX5_releasesWithin 2 (some .int), .methodLink RX4 62 yX3_budgetAmong, .instanceMethod yX3_budgetAmong, .selects RX3 yX3_budgetAmong yX3_budgetAmong, .initialized RX3, .code yX3_budgetAmong cX3_budgetAmong 2 (some .int), .fieldLink RX3 31 "MixedKernel$Task" "high" "I", .fieldLink RX3 18 "MixedKernel$Task" "low" "I"] ++ wsX40 ++ wsX10 ++ wsX30)
def wsX4_bound : List Cond := .code yX4_bound cX4_bound 7 (some .int) :: ([.fieldLink RX4 11 "MixedKernel$TaskSet" "all" "[LMixedKernel$Task;", .methodLink RX4 32 yX3_isHigh, .instanceMethod yX3_isHigh, .selects RX3 yX3_isHigh yX3_isHigh, .initialized RX3, .code yX3_isHigh cX3_isHigh 1 (some .boolean), .fieldLink RX3 31 "MixedKernel$Task" "high" "I", .methodLink RX4 28 yX4_leastSpan, .instanceMethod yX4_leastSpan, .selects RX4 yX4_leastSpan yX4_leastSpan, .initialized RX4, .code yX4_leastSpan cX4_leastSpan 10 (some .int), .methodLink RX4 39 yX4_workAhead, .instanceMethod yX4_workAhead, .selects RX4 yX4_workAhead yX4_workAhead, .code yX4_workAhead cX4_workAhead 9 (some .int), .static yX5_releasesWithin, .initialized RX5, .code yX5_releasesWithin cX5_releasesWithin 2 (some .int), .methodLink RX4 62 yX3_budgetAmong, .instanceMethod yX3_budgetAmong, .selects RX3 yX3_budgetAmong yX3_budgetAmong, .code yX3_budgetAmong cX3_budgetAmong 2 (some .int), .fieldLink RX3 18 "MixedKernel$Task" "low" "I"] ++ wsX40 ++ wsX10 ++ wsX30)
def wsX4_firstLowResponseThatFails : List Cond := .code yX4_firstLowResponseThatFails cX4_firstLowResponseThatFails 3 (some .int) :: ([.fieldLink RX4 11 "MixedKernel$TaskSet" "all" "[LMixedKernel$Task;", .methodLink RX4 45 yX4_lowResponse, .instanceMethod yX4_lowResponse, .selects RX4 yX4_lowResponse yX4_lowResponse, .initialized RX4, .code yX4_lowResponse cX4_lowResponse 4 (some .int), .methodLink RX4 28 yX4_leastSpan, .instanceMethod yX4_leastSpan, .selects RX4 yX4_leastSpan yX4_leastSpan, .code yX4_leastSpan cX4_leastSpan 10 (some .int), .methodLink RX4 39 yX4_workAhead, .instanceMethod yX4_workAhead, .selects RX4 yX4_workAhead yX4_workAhead, .code yX4_workAhead cX4_workAhead 9 (some .int), .static yX5_releasesWithin, .initialized RX5, .code yX5_releasesWithin cX5_releasesWithin 2 (some .int), .methodLink RX4 62 yX3_budgetAmong, .instanceMethod yX3_budgetAmong, .selects RX3 yX3_budgetAmong yX3_budgetAmong, .initialized RX3, .code yX3_budgetAmong cX3_budgetAmong 2 (some .int), .fieldLink RX3 31 "MixedKernel$Task" "high" "I", .fieldLink RX3 18 "MixedKernel$Task" "low" "I"] ++ wsX10 ++ wsX40 ++ wsX30)
def wsX4_firstBoundThatFails_r1 : List Cond := [Cond.fieldLink RX4 11 "MixedKernel$TaskSet" "all" "[LMixedKernel$Task;", Cond.methodLink RX4 52 yX4_bound, Cond.instanceMethod yX4_bound, Cond.selects RX4 yX4_bound yX4_bound, Cond.initialized RX4, Cond.code yX4_bound cX4_bound 7 (some .int), Cond.methodLink RX4 32 yX3_isHigh, Cond.instanceMethod yX3_isHigh, Cond.selects RX3 yX3_isHigh yX3_isHigh, Cond.initialized RX3, Cond.code yX3_isHigh cX3_isHigh 1 (some .boolean), Cond.fieldLink RX3 31 "MixedKernel$Task" "high" "I", Cond.methodLink RX4 28 yX4_leastSpan, Cond.instanceMethod yX4_leastSpan, Cond.selects RX4 yX4_leastSpan yX4_leastSpan, Cond.code yX4_leastSpan cX4_leastSpan 10 (some .int), Cond.methodLink RX4 39 yX4_workAhead, Cond.instanceMethod yX4_workAhead, Cond.selects RX4 yX4_workAhead yX4_workAhead, Cond.code yX4_workAhead cX4_workAhead 9 (some .int), Cond.static yX5_releasesWithin, Cond.initialized RX5, Cond.code yX5_releasesWithin cX5_releasesWithin 2 (some .int), Cond.methodLink RX4 62 yX3_budgetAmong]
def wsX4_firstBoundThatFails_r2 : List Cond := [Cond.instanceMethod yX3_budgetAmong, Cond.selects RX3 yX3_budgetAmong yX3_budgetAmong, Cond.code yX3_budgetAmong cX3_budgetAmong 2 (some .int), Cond.fieldLink RX3 18 "MixedKernel$Task" "low" "I"]
def wsX4_firstBoundThatFails : List Cond := .code yX4_firstBoundThatFails cX4_firstBoundThatFails 3 (some .int) :: ((wsX4_firstBoundThatFails_r1 ++ wsX4_firstBoundThatFails_r2) ++ wsX10 ++ wsX40 ++ wsX30)
def wsX4_lastThatPasses_r1 : List Cond := [Cond.fieldLink RX4 11 "MixedKernel$TaskSet" "all" "[LMixedKernel$Task;", Cond.methodLink RX4 45 yX4_lowResponse, Cond.instanceMethod yX4_lowResponse, Cond.selects RX4 yX4_lowResponse yX4_lowResponse, Cond.initialized RX4, Cond.code yX4_lowResponse cX4_lowResponse 4 (some .int), Cond.methodLink RX4 28 yX4_leastSpan, Cond.instanceMethod yX4_leastSpan, Cond.selects RX4 yX4_leastSpan yX4_leastSpan, Cond.code yX4_leastSpan cX4_leastSpan 10 (some .int), Cond.methodLink RX4 39 yX4_workAhead, Cond.instanceMethod yX4_workAhead, Cond.selects RX4 yX4_workAhead yX4_workAhead, Cond.code yX4_workAhead cX4_workAhead 9 (some .int), Cond.static yX5_releasesWithin, Cond.initialized RX5, Cond.code yX5_releasesWithin cX5_releasesWithin 2 (some .int), Cond.methodLink RX4 62 yX3_budgetAmong, Cond.instanceMethod yX3_budgetAmong, Cond.selects RX3 yX3_budgetAmong yX3_budgetAmong, Cond.initialized RX3, Cond.code yX3_budgetAmong cX3_budgetAmong 2 (some .int), Cond.fieldLink RX3 31 "MixedKernel$Task" "high" "I", Cond.fieldLink RX3 18 "MixedKernel$Task" "low" "I"]
def wsX4_lastThatPasses_r2 : List Cond := [Cond.methodLink RX4 52 yX4_bound, Cond.instanceMethod yX4_bound, Cond.selects RX4 yX4_bound yX4_bound, Cond.code yX4_bound cX4_bound 7 (some .int), Cond.methodLink RX4 32 yX3_isHigh, Cond.instanceMethod yX3_isHigh, Cond.selects RX3 yX3_isHigh yX3_isHigh, Cond.code yX3_isHigh cX3_isHigh 1 (some .boolean)]
def wsX4_lastThatPasses : List Cond := .code yX4_lastThatPasses cX4_lastThatPasses 5 (some .int) :: ((wsX4_lastThatPasses_r1 ++ wsX4_lastThatPasses_r2) ++ wsX40 ++ wsX10 ++ wsX30)
def wsX5_init_r1 : List Cond := [Cond.methodLink RX5 3 objectInit, Cond.instanceMethod objectInit, Cond.code objectInit ⟨#[0xb1]⟩ 1 none, Cond.classLink RX5 9 RX4, Cond.instantiable RX4 1, Cond.initialized RX4, Cond.fieldLink RX5 12 "MixedKernel" "set" "LMixedKernel$TaskSet;", Cond.fieldLink RX5 20 "MixedKernel" "tasks" "[LMixedKernel$Task;", Cond.classLink RX5 23 RX1, Cond.instantiable RX1 2, Cond.initialized RX1, Cond.fieldLink RX5 26 "MixedKernel" "plan" "LMixedKernel$Line;", Cond.fieldLink RX5 30 "MixedKernel" "order" "LMixedKernel$Line;", Cond.fieldLink RX5 33 "MixedKernel" "trial" "LMixedKernel$Line;", Cond.classLink RX5 36 RX2, Cond.instantiable RX2 4, Cond.initialized RX2, Cond.fieldLink RX5 39 "MixedKernel" "refusal" "LMixedKernel$Refusal;", Cond.classLink RX5 43 RX0, Cond.instantiable RX0 2, Cond.initialized RX0, Cond.fieldLink RX5 48 "MixedKernel" "ran" "LMixedKernel$Latest;", Cond.fieldLink RX5 52 "MixedKernel" "changes" "LMixedKernel$Latest;", Cond.methodLink RX5 11 yX4_init]
def wsX5_init_r2 : List Cond := [Cond.instanceMethod yX4_init, Cond.code yX4_init cX4_init 2 none, Cond.methodLink RX4 3 objectInit, Cond.classLink RX4 9 RX3, Cond.fieldLink RX4 11 "MixedKernel$TaskSet" "all" "[LMixedKernel$Task;", Cond.instantiable RX3 14, Cond.initialized RX3, Cond.instanceMethod yX3_init, Cond.code yX3_init cX3_init 1 none, Cond.methodLink RX3 3 objectInit, Cond.fieldLink RX3 9 "MixedKernel$Task" "period" "I", Cond.fieldLink RX3 15 "MixedKernel$Task" "deadline" "I", Cond.fieldLink RX3 18 "MixedKernel$Task" "low" "I", Cond.arrayClass .int, Cond.fieldLink RX3 21 "MixedKernel$Task" "demands" "[I", Cond.fieldLink RX3 25 "MixedKernel$Task" "releaseTimes" "[I", Cond.fieldLink RX3 28 "MixedKernel$Task" "endTimes" "[I", Cond.instanceMethod yX1_init, Cond.code yX1_init cX1_init 1 none, Cond.methodLink RX1 3 objectInit, Cond.fieldLink RX1 9 "MixedKernel$Line" "ids" "[I", Cond.instanceMethod yX2_init, Cond.code yX2_init cX2_init 1 none, Cond.methodLink RX2 3 objectInit]
def wsX5_init_r3 : List Cond := [Cond.fieldLink RX2 9 "MixedKernel$Refusal" "ids" "[I", Cond.fieldLink RX2 15 "MixedKernel$Refusal" "periods" "[I", Cond.methodLink RX5 45 yX0_init, Cond.instanceMethod yX0_init, Cond.code yX0_init cX0_init 2 none, Cond.methodLink RX0 1 objectInit, Cond.fieldLink RX0 7 "MixedKernel$Latest" "kept" "[I"]
def wsX5_init : List Cond := .code yX5_init cX5_init 1 none :: ((wsX5_init_r1 ++ (wsX5_init_r2 ++ wsX5_init_r3)) ++ wsX40 ++ wsX50 ++ wsX10 ++ wsX20 ++ wsX00 ++ wsX30)
def wsX5_isTask : List Cond := .code yX5_isTask cX5_isTask 1 (some .boolean) :: ([])
def wsX5_areTimes : List Cond := .code yX5_areTimes cX5_areTimes 2 (some .boolean) :: ([])
def wsX5_areBudgets : List Cond := .code yX5_areBudgets cX5_areBudgets 2 (some .boolean) :: ([])
def wsX5_isKnown : List Cond := .code yX5_isKnown cX5_isKnown 2 (some .boolean) :: ([.fieldLink RX5 26 "MixedKernel" "plan" "LMixedKernel$Line;", .methodLink RX5 150 yX1_placeOf, .instanceMethod yX1_placeOf, .selects RX1 yX1_placeOf yX1_placeOf, .initialized RX1, .code yX1_placeOf cX1_placeOf 3 (some .int), .fieldLink RX1 15 "MixedKernel$Line" "size" "I", .fieldLink RX1 9 "MixedKernel$Line" "ids" "[I"] ++ wsX50 ++ wsX10)
def wsX5_placeFor : List Cond := .code yX5_placeFor cX5_placeFor 3 (some .int) :: ([.fieldLink RX5 26 "MixedKernel" "plan" "LMixedKernel$Line;", .fieldLink RX5 20 "MixedKernel" "tasks" "[LMixedKernel$Task;"] ++ wsX50 ++ wsX10 ++ wsX30)
def wsX5_admitTrial_r1 : List Cond := [Cond.fieldLink RX5 12 "MixedKernel" "set" "LMixedKernel$TaskSet;", Cond.fieldLink RX5 33 "MixedKernel" "trial" "LMixedKernel$Line;", Cond.fieldLink RX5 39 "MixedKernel" "refusal" "LMixedKernel$Refusal;", Cond.fieldLink RX5 20 "MixedKernel" "tasks" "[LMixedKernel$Task;", Cond.fieldLink RX5 26 "MixedKernel" "plan" "LMixedKernel$Line;", Cond.methodLink RX5 218 yX4_firstLowResponseThatFails, Cond.instanceMethod yX4_firstLowResponseThatFails, Cond.selects RX4 yX4_firstLowResponseThatFails yX4_firstLowResponseThatFails, Cond.initialized RX4, Cond.code yX4_firstLowResponseThatFails cX4_firstLowResponseThatFails 3 (some .int), Cond.fieldLink RX4 11 "MixedKernel$TaskSet" "all" "[LMixedKernel$Task;", Cond.methodLink RX4 45 yX4_lowResponse, Cond.instanceMethod yX4_lowResponse, Cond.selects RX4 yX4_lowResponse yX4_lowResponse, Cond.code yX4_lowResponse cX4_lowResponse 4 (some .int), Cond.methodLink RX4 28 yX4_leastSpan, Cond.instanceMethod yX4_leastSpan, Cond.selects RX4 yX4_leastSpan yX4_leastSpan, Cond.code yX4_leastSpan cX4_leastSpan 10 (some .int), Cond.methodLink RX4 39 yX4_workAhead, Cond.instanceMethod yX4_workAhead, Cond.selects RX4 yX4_workAhead yX4_workAhead, Cond.code yX4_workAhead cX4_workAhead 9 (some .int), Cond.static yX5_releasesWithin]
def wsX5_admitTrial_r2 : List Cond := [Cond.initialized RX5, Cond.code yX5_releasesWithin cX5_releasesWithin 2 (some .int), Cond.methodLink RX4 62 yX3_budgetAmong, Cond.instanceMethod yX3_budgetAmong, Cond.selects RX3 yX3_budgetAmong yX3_budgetAmong, Cond.initialized RX3, Cond.code yX3_budgetAmong cX3_budgetAmong 2 (some .int), Cond.fieldLink RX3 31 "MixedKernel$Task" "high" "I", Cond.fieldLink RX3 18 "MixedKernel$Task" "low" "I", Cond.methodLink RX5 222 yX2_keep, Cond.instanceMethod yX2_keep, Cond.selects RX2 yX2_keep yX2_keep, Cond.initialized RX2, Cond.code yX2_keep cX2_keep 5 none, Cond.fieldLink RX2 18 "MixedKernel$Refusal" "size" "I", Cond.fieldLink RX2 9 "MixedKernel$Refusal" "ids" "[I", Cond.fieldLink RX2 15 "MixedKernel$Refusal" "periods" "[I", Cond.fieldLink RX2 33 "MixedKernel$Refusal" "deadline" "I", Cond.methodLink RX5 226 yX4_firstBoundThatFails, Cond.instanceMethod yX4_firstBoundThatFails, Cond.selects RX4 yX4_firstBoundThatFails yX4_firstBoundThatFails, Cond.code yX4_firstBoundThatFails cX4_firstBoundThatFails 3 (some .int), Cond.methodLink RX4 52 yX4_bound, Cond.instanceMethod yX4_bound]
def wsX5_admitTrial_r3 : List Cond := [Cond.selects RX4 yX4_bound yX4_bound, Cond.code yX4_bound cX4_bound 7 (some .int), Cond.methodLink RX4 32 yX3_isHigh, Cond.instanceMethod yX3_isHigh, Cond.selects RX3 yX3_isHigh yX3_isHigh, Cond.code yX3_isHigh cX3_isHigh 1 (some .boolean), Cond.methodLink RX5 81 yX1_become, Cond.instanceMethod yX1_become, Cond.selects RX1 yX1_become yX1_become, Cond.initialized RX1, Cond.code yX1_become cX1_become 2 none, Cond.fieldLink RX1 9 "MixedKernel$Line" "ids" "[I", Cond.methodLink RX1 19 arraycopyName, Cond.native arraycopyName, Cond.static arraycopyName, Cond.initialized "java/lang/System", Cond.fieldLink RX1 15 "MixedKernel$Line" "size" "I"]
def wsX5_admitTrial : List Cond := .code yX5_admitTrial cX5_admitTrial 3 (some .int) :: ((wsX5_admitTrial_r1 ++ (wsX5_admitTrial_r2 ++ wsX5_admitTrial_r3)) ++ wsX50 ++ wsX10 ++ wsX40 ++ wsX30 ++ wsX20)
def wsX5_add_r1 : List Cond := [Cond.classLink RX5 66 "java/lang/IllegalArgumentException", Cond.initialized "java/lang/IllegalArgumentException", Cond.classLink RX5 72 "java/lang/IllegalStateException", Cond.initialized "java/lang/IllegalStateException", Cond.fieldLink RX5 20 "MixedKernel" "tasks" "[LMixedKernel$Task;", Cond.fieldLink RX5 33 "MixedKernel" "trial" "LMixedKernel$Line;", Cond.fieldLink RX5 26 "MixedKernel" "plan" "LMixedKernel$Line;", Cond.methodLink RX5 55 yX5_isTask, Cond.static yX5_isTask, Cond.initialized RX5, Cond.code yX5_isTask cX5_isTask 1 (some .boolean), Cond.methodLink RX5 59 yX5_areTimes, Cond.static yX5_areTimes, Cond.code yX5_areTimes cX5_areTimes 2 (some .boolean), Cond.methodLink RX5 63 yX5_areBudgets, Cond.static yX5_areBudgets, Cond.code yX5_areBudgets cX5_areBudgets 2 (some .boolean), Cond.methodLink RX5 69 yX5_isKnown, Cond.instanceMethod yX5_isKnown, Cond.selects RX5 yX5_isKnown yX5_isKnown, Cond.code yX5_isKnown cX5_isKnown 2 (some .boolean), Cond.methodLink RX5 150 yX1_placeOf, Cond.instanceMethod yX1_placeOf, Cond.selects RX1 yX1_placeOf yX1_placeOf]
def wsX5_add_r2 : List Cond := [Cond.initialized RX1, Cond.code yX1_placeOf cX1_placeOf 3 (some .int), Cond.fieldLink RX1 15 "MixedKernel$Line" "size" "I", Cond.fieldLink RX1 9 "MixedKernel$Line" "ids" "[I", Cond.methodLink RX5 75 yX3_begin, Cond.instanceMethod yX3_begin, Cond.selects RX3 yX3_begin yX3_begin, Cond.initialized RX3, Cond.code yX3_begin cX3_begin 5 none, Cond.fieldLink RX3 9 "MixedKernel$Task" "period" "I", Cond.fieldLink RX3 15 "MixedKernel$Task" "deadline" "I", Cond.fieldLink RX3 18 "MixedKernel$Task" "low" "I", Cond.fieldLink RX3 31 "MixedKernel$Task" "high" "I", Cond.fieldLink RX3 34 "MixedKernel$Task" "leaving" "Z", Cond.fieldLink RX3 38 "MixedKernel$Task" "jobs" "I", Cond.fieldLink RX3 41 "MixedKernel$Task" "dropped" "I", Cond.fieldLink RX3 44 "MixedKernel$Task" "ticks" "I", Cond.fieldLink RX3 47 "MixedKernel$Task" "endedLate" "I", Cond.fieldLink RX3 50 "MixedKernel$Task" "pending" "I", Cond.fieldLink RX3 53 "MixedKernel$Task" "charged" "I", Cond.methodLink RX5 81 yX1_become, Cond.instanceMethod yX1_become, Cond.selects RX1 yX1_become yX1_become, Cond.code yX1_become cX1_become 2 none]
def wsX5_add_r3 : List Cond := [Cond.methodLink RX1 19 arraycopyName, Cond.native arraycopyName, Cond.static arraycopyName, Cond.initialized "java/lang/System", Cond.methodLink RX5 85 yX5_placeFor, Cond.instanceMethod yX5_placeFor, Cond.selects RX5 yX5_placeFor yX5_placeFor, Cond.code yX5_placeFor cX5_placeFor 3 (some .int), Cond.methodLink RX5 89 yX1_insert, Cond.instanceMethod yX1_insert, Cond.selects RX1 yX1_insert yX1_insert, Cond.code yX1_insert cX1_insert 4 none, Cond.methodLink RX5 93 yX5_admitTrial, Cond.instanceMethod yX5_admitTrial, Cond.selects RX5 yX5_admitTrial yX5_admitTrial, Cond.code yX5_admitTrial cX5_admitTrial 3 (some .int), Cond.fieldLink RX5 12 "MixedKernel" "set" "LMixedKernel$TaskSet;", Cond.fieldLink RX5 39 "MixedKernel" "refusal" "LMixedKernel$Refusal;", Cond.methodLink RX5 218 yX4_firstLowResponseThatFails, Cond.instanceMethod yX4_firstLowResponseThatFails, Cond.selects RX4 yX4_firstLowResponseThatFails yX4_firstLowResponseThatFails, Cond.initialized RX4, Cond.code yX4_firstLowResponseThatFails cX4_firstLowResponseThatFails 3 (some .int), Cond.fieldLink RX4 11 "MixedKernel$TaskSet" "all" "[LMixedKernel$Task;"]
def wsX5_add_r4 : List Cond := [Cond.methodLink RX4 45 yX4_lowResponse, Cond.instanceMethod yX4_lowResponse, Cond.selects RX4 yX4_lowResponse yX4_lowResponse, Cond.code yX4_lowResponse cX4_lowResponse 4 (some .int), Cond.methodLink RX4 28 yX4_leastSpan, Cond.instanceMethod yX4_leastSpan, Cond.selects RX4 yX4_leastSpan yX4_leastSpan, Cond.code yX4_leastSpan cX4_leastSpan 10 (some .int), Cond.methodLink RX4 39 yX4_workAhead, Cond.instanceMethod yX4_workAhead, Cond.selects RX4 yX4_workAhead yX4_workAhead, Cond.code yX4_workAhead cX4_workAhead 9 (some .int), Cond.static yX5_releasesWithin, Cond.code yX5_releasesWithin cX5_releasesWithin 2 (some .int), Cond.methodLink RX4 62 yX3_budgetAmong, Cond.instanceMethod yX3_budgetAmong, Cond.selects RX3 yX3_budgetAmong yX3_budgetAmong, Cond.code yX3_budgetAmong cX3_budgetAmong 2 (some .int), Cond.methodLink RX5 222 yX2_keep, Cond.instanceMethod yX2_keep, Cond.selects RX2 yX2_keep yX2_keep, Cond.initialized RX2, Cond.code yX2_keep cX2_keep 5 none, Cond.fieldLink RX2 18 "MixedKernel$Refusal" "size" "I"]
def wsX5_add_r5 : List Cond := [Cond.fieldLink RX2 9 "MixedKernel$Refusal" "ids" "[I", Cond.fieldLink RX2 15 "MixedKernel$Refusal" "periods" "[I", Cond.fieldLink RX2 33 "MixedKernel$Refusal" "deadline" "I", Cond.methodLink RX5 226 yX4_firstBoundThatFails, Cond.instanceMethod yX4_firstBoundThatFails, Cond.selects RX4 yX4_firstBoundThatFails yX4_firstBoundThatFails, Cond.code yX4_firstBoundThatFails cX4_firstBoundThatFails 3 (some .int), Cond.methodLink RX4 52 yX4_bound, Cond.instanceMethod yX4_bound, Cond.selects RX4 yX4_bound yX4_bound, Cond.code yX4_bound cX4_bound 7 (some .int), Cond.methodLink RX4 32 yX3_isHigh, Cond.instanceMethod yX3_isHigh, Cond.selects RX3 yX3_isHigh yX3_isHigh, Cond.code yX3_isHigh cX3_isHigh 1 (some .boolean)]
def wsX5_add : List Cond := .code yX5_add cX5_add 6 (some .int) :: ((wsX5_add_r1 ++ (wsX5_add_r2 ++ (wsX5_add_r3 ++ (wsX5_add_r4 ++ wsX5_add_r5)))) ++ wsX50 ++ wsX10 ++ wsX30 ++ wsX40 ++ wsX20 ++ (vx_at0 RX5 68 "java/lang/IllegalArgumentException" ["java/lang/RuntimeException", "java/lang/Exception"]).filter goodWord ++ (vx_at0 RX5 74 "java/lang/IllegalStateException" ["java/lang/RuntimeException", "java/lang/Exception"]).filter goodWord)
def wsX5_forgetIfLeft : List Cond := .code yX5_forgetIfLeft cX5_forgetIfLeft 2 none :: ([.fieldLink RX5 20 "MixedKernel" "tasks" "[LMixedKernel$Task;", .fieldLink RX5 26 "MixedKernel" "plan" "LMixedKernel$Line;", .fieldLink RX5 30 "MixedKernel" "order" "LMixedKernel$Line;", .methodLink RX5 256 yX1_drop, .instanceMethod yX1_drop, .selects RX1 yX1_drop yX1_drop, .initialized RX1, .code yX1_drop cX1_drop 3 none, .fieldLink RX1 15 "MixedKernel$Line" "size" "I", .methodLink RX1 25 yX1_placeOf, .instanceMethod yX1_placeOf, .selects RX1 yX1_placeOf yX1_placeOf, .code yX1_placeOf cX1_placeOf 3 (some .int), .fieldLink RX1 9 "MixedKernel$Line" "ids" "[I", .methodLink RX1 29 yX1_moveBack, .instanceMethod yX1_moveBack, .selects RX1 yX1_moveBack yX1_moveBack, .code yX1_moveBack cX1_moveBack 5 none] ++ wsX50 ++ wsX30 ++ wsX10)
def wsX5_remove_r1 : List Cond := [Cond.classLink RX5 97 "java/util/NoSuchElementException", Cond.initialized "java/util/NoSuchElementException", Cond.classLink RX5 72 "java/lang/IllegalStateException", Cond.initialized "java/lang/IllegalStateException", Cond.fieldLink RX5 20 "MixedKernel" "tasks" "[LMixedKernel$Task;", Cond.methodLink RX5 69 yX5_isKnown, Cond.instanceMethod yX5_isKnown, Cond.selects RX5 yX5_isKnown yX5_isKnown, Cond.initialized RX5, Cond.code yX5_isKnown cX5_isKnown 2 (some .boolean), Cond.fieldLink RX5 26 "MixedKernel" "plan" "LMixedKernel$Line;", Cond.methodLink RX5 150 yX1_placeOf, Cond.instanceMethod yX1_placeOf, Cond.selects RX1 yX1_placeOf yX1_placeOf, Cond.initialized RX1, Cond.code yX1_placeOf cX1_placeOf 3 (some .int), Cond.fieldLink RX1 15 "MixedKernel$Line" "size" "I", Cond.fieldLink RX1 9 "MixedKernel$Line" "ids" "[I", Cond.methodLink RX5 104 yX5_forgetIfLeft, Cond.instanceMethod yX5_forgetIfLeft, Cond.selects RX5 yX5_forgetIfLeft yX5_forgetIfLeft, Cond.code yX5_forgetIfLeft cX5_forgetIfLeft 2 none, Cond.fieldLink RX5 30 "MixedKernel" "order" "LMixedKernel$Line;", Cond.methodLink RX5 256 yX1_drop]
def wsX5_remove_r2 : List Cond := [Cond.instanceMethod yX1_drop, Cond.selects RX1 yX1_drop yX1_drop, Cond.code yX1_drop cX1_drop 3 none, Cond.methodLink RX1 25 yX1_placeOf, Cond.methodLink RX1 29 yX1_moveBack, Cond.instanceMethod yX1_moveBack, Cond.selects RX1 yX1_moveBack yX1_moveBack, Cond.code yX1_moveBack cX1_moveBack 5 none]
def wsX5_remove : List Cond := .code yX5_remove cX5_remove 2 (some .boolean) :: ((wsX5_remove_r1 ++ wsX5_remove_r2) ++ wsX50 ++ wsX30 ++ wsX10 ++ (vx_at0 RX5 99 "java/util/NoSuchElementException" ["java/lang/RuntimeException", "java/lang/Exception"]).filter goodWord ++ (vx_at0 RX5 74 "java/lang/IllegalStateException" ["java/lang/RuntimeException", "java/lang/Exception"]).filter goodWord)
def wsX5_isInForce : List Cond := .code yX5_isInForce cX5_isInForce 2 (some .boolean) :: ([.fieldLink RX5 30 "MixedKernel" "order" "LMixedKernel$Line;", .methodLink RX5 150 yX1_placeOf, .instanceMethod yX1_placeOf, .selects RX1 yX1_placeOf yX1_placeOf, .initialized RX1, .code yX1_placeOf cX1_placeOf 3 (some .int), .fieldLink RX1 15 "MixedKernel$Line" "size" "I", .fieldLink RX1 9 "MixedKernel$Line" "ids" "[I"] ++ wsX50 ++ wsX10)
def wsX5_release_r1 : List Cond := [Cond.classLink RX5 97 "java/util/NoSuchElementException", Cond.initialized "java/util/NoSuchElementException", Cond.classLink RX5 66 "java/lang/IllegalArgumentException", Cond.initialized "java/lang/IllegalArgumentException", Cond.classLink RX5 72 "java/lang/IllegalStateException", Cond.initialized "java/lang/IllegalStateException", Cond.fieldLink RX5 20 "MixedKernel" "tasks" "[LMixedKernel$Task;", Cond.fieldLink RX5 113 "MixedKernel" "time" "I", Cond.fieldLink RX5 123 "MixedKernel" "highMode" "Z", Cond.methodLink RX5 107 yX5_isInForce, Cond.instanceMethod yX5_isInForce, Cond.selects RX5 yX5_isInForce yX5_isInForce, Cond.initialized RX5, Cond.code yX5_isInForce cX5_isInForce 2 (some .boolean), Cond.fieldLink RX5 30 "MixedKernel" "order" "LMixedKernel$Line;", Cond.methodLink RX5 150 yX1_placeOf, Cond.instanceMethod yX1_placeOf, Cond.selects RX1 yX1_placeOf yX1_placeOf, Cond.initialized RX1, Cond.code yX1_placeOf cX1_placeOf 3 (some .int), Cond.fieldLink RX1 15 "MixedKernel$Line" "size" "I", Cond.fieldLink RX1 9 "MixedKernel$Line" "ids" "[I", Cond.methodLink RX5 110 yX3_greatestBudget, Cond.instanceMethod yX3_greatestBudget]
def wsX5_release_r2 : List Cond := [Cond.selects RX3 yX3_greatestBudget yX3_greatestBudget, Cond.initialized RX3, Cond.code yX3_greatestBudget cX3_greatestBudget 1 (some .int), Cond.fieldLink RX3 31 "MixedKernel$Task" "high" "I", Cond.fieldLink RX3 18 "MixedKernel$Task" "low" "I", Cond.methodLink RX3 56 yX3_isHigh, Cond.instanceMethod yX3_isHigh, Cond.selects RX3 yX3_isHigh yX3_isHigh, Cond.code yX3_isHigh cX3_isHigh 1 (some .boolean), Cond.methodLink RX5 117 yX3_nextRelease, Cond.instanceMethod yX3_nextRelease, Cond.selects RX3 yX3_nextRelease yX3_nextRelease, Cond.code yX3_nextRelease cX3_nextRelease 1 (some .int), Cond.fieldLink RX3 38 "MixedKernel$Task" "jobs" "I", Cond.fieldLink RX3 25 "MixedKernel$Task" "releaseTimes" "[I", Cond.fieldLink RX3 9 "MixedKernel$Task" "period" "I", Cond.static yX5_slotOf, Cond.code yX5_slotOf cX5_slotOf 1 (some .int), Cond.methodLink RX5 207 yJ9_floorMod_7cf53, Cond.static yJ9_floorMod_7cf53, Cond.initialized RJ9, Cond.code yJ9_floorMod_7cf53 cJ9_floorMod_7cf53 3 (some .int), Cond.methodLink RX5 126 yX3_isHigh, Cond.methodLink RX5 133 yX3_newJob]
def wsX5_release_r3 : List Cond := [Cond.instanceMethod yX3_newJob, Cond.selects RX3 yX3_newJob yX3_newJob, Cond.code yX3_newJob cX3_newJob 4 (some .int), Cond.fieldLink RX3 50 "MixedKernel$Task" "pending" "I", Cond.fieldLink RX3 21 "MixedKernel$Task" "demands" "[I", Cond.fieldLink RX3 28 "MixedKernel$Task" "endTimes" "[I"]
def wsX5_release : List Cond := .code yX5_release cX5_release 4 (some .int) :: ((wsX5_release_r1 ++ (wsX5_release_r2 ++ wsX5_release_r3)) ++ wsX50 ++ wsX30 ++ wsX10 ++ (vx_at0 RX5 99 "java/util/NoSuchElementException" ["java/lang/RuntimeException", "java/lang/Exception"]).filter goodWord ++ (vx_at0 RX5 68 "java/lang/IllegalArgumentException" ["java/lang/RuntimeException", "java/lang/Exception"]).filter goodWord ++ (vx_at0 RX5 74 "java/lang/IllegalStateException" ["java/lang/RuntimeException", "java/lang/Exception"]).filter goodWord)
def wsX5_firstToRun : List Cond := .code yX5_firstToRun cX5_firstToRun 2 (some .int) :: ([.fieldLink RX5 30 "MixedKernel" "order" "LMixedKernel$Line;", .fieldLink RX5 20 "MixedKernel" "tasks" "[LMixedKernel$Task;"] ++ wsX50 ++ wsX10 ++ wsX30)
def wsX5_settle : List Cond := .code yX5_settle cX5_settle 1 none :: ([.fieldLink RX5 192 "MixedKernel" "idleTicks" "I", .fieldLink RX5 113 "MixedKernel" "time" "I", .fieldLink RX5 204 "MixedKernel" "latestIdle" "I", .fieldLink RX5 123 "MixedKernel" "highMode" "Z", .fieldLink RX5 30 "MixedKernel" "order" "LMixedKernel$Line;", .fieldLink RX5 26 "MixedKernel" "plan" "LMixedKernel$Line;", .methodLink RX5 81 yX1_become, .instanceMethod yX1_become, .selects RX1 yX1_become yX1_become, .initialized RX1, .code yX1_become cX1_become 2 none, .fieldLink RX1 9 "MixedKernel$Line" "ids" "[I", .methodLink RX1 19 arraycopyName, .native arraycopyName, .static arraycopyName, .initialized "java/lang/System", .fieldLink RX1 15 "MixedKernel$Line" "size" "I"] ++ wsX50 ++ wsX10)
def wsX5_becomeHigh_r1 : List Cond := [Cond.fieldLink RX5 123 "MixedKernel" "highMode" "Z", Cond.fieldLink RX5 52 "MixedKernel" "changes" "LMixedKernel$Latest;", Cond.fieldLink RX5 113 "MixedKernel" "time" "I", Cond.fieldLink RX5 20 "MixedKernel" "tasks" "[LMixedKernel$Task;", Cond.fieldLink RX5 201 "MixedKernel" "givenUp" "I", Cond.methodLink RX5 232 yX0_put, Cond.instanceMethod yX0_put, Cond.selects RX0 yX0_put yX0_put, Cond.initialized RX0, Cond.code yX0_put cX0_put 2 none, Cond.fieldLink RX0 7 "MixedKernel$Latest" "kept" "[I", Cond.fieldLink RX0 13 "MixedKernel$Latest" "total" "I", Cond.methodLink RX0 17 yJ9_floorMod_7cf53, Cond.static yJ9_floorMod_7cf53, Cond.initialized RJ9, Cond.code yJ9_floorMod_7cf53 cJ9_floorMod_7cf53 3 (some .int), Cond.methodLink RX5 126 yX3_isHigh, Cond.instanceMethod yX3_isHigh, Cond.selects RX3 yX3_isHigh yX3_isHigh, Cond.initialized RX3, Cond.code yX3_isHigh cX3_isHigh 1 (some .boolean), Cond.fieldLink RX3 31 "MixedKernel$Task" "high" "I", Cond.methodLink RX5 253 yX3_giveUpPending, Cond.instanceMethod yX3_giveUpPending]
def wsX5_becomeHigh_r2 : List Cond := [Cond.selects RX3 yX3_giveUpPending yX3_giveUpPending, Cond.code yX3_giveUpPending cX3_giveUpPending 3 (some .int), Cond.fieldLink RX3 50 "MixedKernel$Task" "pending" "I", Cond.fieldLink RX3 28 "MixedKernel$Task" "endTimes" "[I", Cond.fieldLink RX3 38 "MixedKernel$Task" "jobs" "I", Cond.fieldLink RX3 53 "MixedKernel$Task" "charged" "I", Cond.static yX5_slotOf, Cond.initialized RX5, Cond.code yX5_slotOf cX5_slotOf 1 (some .int), Cond.methodLink RX5 207 yJ9_floorMod_7cf53, Cond.methodLink RX5 104 yX5_forgetIfLeft, Cond.instanceMethod yX5_forgetIfLeft, Cond.selects RX5 yX5_forgetIfLeft yX5_forgetIfLeft, Cond.code yX5_forgetIfLeft cX5_forgetIfLeft 2 none, Cond.fieldLink RX5 26 "MixedKernel" "plan" "LMixedKernel$Line;", Cond.fieldLink RX5 30 "MixedKernel" "order" "LMixedKernel$Line;", Cond.methodLink RX5 256 yX1_drop, Cond.instanceMethod yX1_drop, Cond.selects RX1 yX1_drop yX1_drop, Cond.initialized RX1, Cond.code yX1_drop cX1_drop 3 none, Cond.fieldLink RX1 15 "MixedKernel$Line" "size" "I", Cond.methodLink RX1 25 yX1_placeOf, Cond.instanceMethod yX1_placeOf]
def wsX5_becomeHigh_r3 : List Cond := [Cond.selects RX1 yX1_placeOf yX1_placeOf, Cond.code yX1_placeOf cX1_placeOf 3 (some .int), Cond.fieldLink RX1 9 "MixedKernel$Line" "ids" "[I", Cond.methodLink RX1 29 yX1_moveBack, Cond.instanceMethod yX1_moveBack, Cond.selects RX1 yX1_moveBack yX1_moveBack, Cond.code yX1_moveBack cX1_moveBack 5 none]
def wsX5_becomeHigh : List Cond := .code yX5_becomeHigh cX5_becomeHigh 2 none :: ((wsX5_becomeHigh_r1 ++ (wsX5_becomeHigh_r2 ++ wsX5_becomeHigh_r3)) ++ wsX50 ++ wsX00 ++ wsX30 ++ wsX10)
def wsX5_charge_r1 : List Cond := [Cond.fieldLink RX5 20 "MixedKernel" "tasks" "[LMixedKernel$Task;", Cond.fieldLink RX5 113 "MixedKernel" "time" "I", Cond.fieldLink RX5 123 "MixedKernel" "highMode" "Z", Cond.methodLink RX5 241 yX3_chargeFirst, Cond.instanceMethod yX3_chargeFirst, Cond.selects RX3 yX3_chargeFirst yX3_chargeFirst, Cond.initialized RX3, Cond.code yX3_chargeFirst cX3_chargeFirst 3 (some .boolean), Cond.fieldLink RX3 38 "MixedKernel$Task" "jobs" "I", Cond.fieldLink RX3 50 "MixedKernel$Task" "pending" "I", Cond.fieldLink RX3 44 "MixedKernel$Task" "ticks" "I", Cond.fieldLink RX3 53 "MixedKernel$Task" "charged" "I", Cond.fieldLink RX3 21 "MixedKernel$Task" "demands" "[I", Cond.fieldLink RX3 28 "MixedKernel$Task" "endTimes" "[I", Cond.fieldLink RX3 47 "MixedKernel$Task" "endedLate" "I", Cond.static yX5_slotOf, Cond.initialized RX5, Cond.code yX5_slotOf cX5_slotOf 1 (some .int), Cond.methodLink RX5 207 yJ9_floorMod_7cf53, Cond.static yJ9_floorMod_7cf53, Cond.initialized RJ9, Cond.code yJ9_floorMod_7cf53 cJ9_floorMod_7cf53 3 (some .int), Cond.methodLink RX3 64 yX3_isLate, Cond.instanceMethod yX3_isLate]
def wsX5_charge_r2 : List Cond := [Cond.selects RX3 yX3_isLate yX3_isLate, Cond.code yX3_isLate cX3_isLate 3 (some .boolean), Cond.fieldLink RX3 25 "MixedKernel$Task" "releaseTimes" "[I", Cond.fieldLink RX3 15 "MixedKernel$Task" "deadline" "I", Cond.methodLink RX5 126 yX3_isHigh, Cond.instanceMethod yX3_isHigh, Cond.selects RX3 yX3_isHigh yX3_isHigh, Cond.code yX3_isHigh cX3_isHigh 1 (some .boolean), Cond.fieldLink RX3 31 "MixedKernel$Task" "high" "I", Cond.methodLink RX5 250 yX5_becomeHigh, Cond.instanceMethod yX5_becomeHigh, Cond.selects RX5 yX5_becomeHigh yX5_becomeHigh, Cond.code yX5_becomeHigh cX5_becomeHigh 2 none, Cond.fieldLink RX5 52 "MixedKernel" "changes" "LMixedKernel$Latest;", Cond.fieldLink RX5 201 "MixedKernel" "givenUp" "I", Cond.methodLink RX5 232 yX0_put, Cond.instanceMethod yX0_put, Cond.selects RX0 yX0_put yX0_put, Cond.initialized RX0, Cond.code yX0_put cX0_put 2 none, Cond.fieldLink RX0 7 "MixedKernel$Latest" "kept" "[I", Cond.fieldLink RX0 13 "MixedKernel$Latest" "total" "I", Cond.methodLink RX0 17 yJ9_floorMod_7cf53, Cond.methodLink RX5 253 yX3_giveUpPending]
def wsX5_charge_r3 : List Cond := [Cond.instanceMethod yX3_giveUpPending, Cond.selects RX3 yX3_giveUpPending yX3_giveUpPending, Cond.code yX3_giveUpPending cX3_giveUpPending 3 (some .int), Cond.methodLink RX5 104 yX5_forgetIfLeft, Cond.instanceMethod yX5_forgetIfLeft, Cond.selects RX5 yX5_forgetIfLeft yX5_forgetIfLeft, Cond.code yX5_forgetIfLeft cX5_forgetIfLeft 2 none, Cond.fieldLink RX5 26 "MixedKernel" "plan" "LMixedKernel$Line;", Cond.fieldLink RX5 30 "MixedKernel" "order" "LMixedKernel$Line;", Cond.methodLink RX5 256 yX1_drop, Cond.instanceMethod yX1_drop, Cond.selects RX1 yX1_drop yX1_drop, Cond.initialized RX1, Cond.code yX1_drop cX1_drop 3 none, Cond.fieldLink RX1 15 "MixedKernel$Line" "size" "I", Cond.methodLink RX1 25 yX1_placeOf, Cond.instanceMethod yX1_placeOf, Cond.selects RX1 yX1_placeOf yX1_placeOf, Cond.code yX1_placeOf cX1_placeOf 3 (some .int), Cond.fieldLink RX1 9 "MixedKernel$Line" "ids" "[I", Cond.methodLink RX1 29 yX1_moveBack, Cond.instanceMethod yX1_moveBack, Cond.selects RX1 yX1_moveBack yX1_moveBack, Cond.code yX1_moveBack cX1_moveBack 5 none]
def wsX5_charge : List Cond := .code yX5_charge cX5_charge 4 none :: ((wsX5_charge_r1 ++ (wsX5_charge_r2 ++ wsX5_charge_r3)) ++ wsX50 ++ wsX30 ++ wsX00 ++ wsX10)
def wsX5_advance_r1 : List Cond := [Cond.fieldLink RX5 113 "MixedKernel" "time" "I", Cond.fieldLink RX5 48 "MixedKernel" "ran" "LMixedKernel$Latest;", Cond.methodLink RX5 229 yX5_firstToRun, Cond.instanceMethod yX5_firstToRun, Cond.selects RX5 yX5_firstToRun yX5_firstToRun, Cond.initialized RX5, Cond.code yX5_firstToRun cX5_firstToRun 2 (some .int), Cond.fieldLink RX5 30 "MixedKernel" "order" "LMixedKernel$Line;", Cond.fieldLink RX5 20 "MixedKernel" "tasks" "[LMixedKernel$Task;", Cond.methodLink RX5 232 yX0_put, Cond.instanceMethod yX0_put, Cond.selects RX0 yX0_put yX0_put, Cond.initialized RX0, Cond.code yX0_put cX0_put 2 none, Cond.fieldLink RX0 7 "MixedKernel$Latest" "kept" "[I", Cond.fieldLink RX0 13 "MixedKernel$Latest" "total" "I", Cond.methodLink RX0 17 yJ9_floorMod_7cf53, Cond.static yJ9_floorMod_7cf53, Cond.initialized RJ9, Cond.code yJ9_floorMod_7cf53 cJ9_floorMod_7cf53 3 (some .int), Cond.methodLink RX5 235 yX5_settle, Cond.instanceMethod yX5_settle, Cond.selects RX5 yX5_settle yX5_settle, Cond.code yX5_settle cX5_settle 1 none]
def wsX5_advance_r2 : List Cond := [Cond.fieldLink RX5 192 "MixedKernel" "idleTicks" "I", Cond.fieldLink RX5 204 "MixedKernel" "latestIdle" "I", Cond.fieldLink RX5 123 "MixedKernel" "highMode" "Z", Cond.fieldLink RX5 26 "MixedKernel" "plan" "LMixedKernel$Line;", Cond.methodLink RX5 81 yX1_become, Cond.instanceMethod yX1_become, Cond.selects RX1 yX1_become yX1_become, Cond.initialized RX1, Cond.code yX1_become cX1_become 2 none, Cond.fieldLink RX1 9 "MixedKernel$Line" "ids" "[I", Cond.methodLink RX1 19 arraycopyName, Cond.native arraycopyName, Cond.static arraycopyName, Cond.initialized "java/lang/System", Cond.fieldLink RX1 15 "MixedKernel$Line" "size" "I", Cond.methodLink RX5 238 yX5_charge, Cond.instanceMethod yX5_charge, Cond.selects RX5 yX5_charge yX5_charge, Cond.code yX5_charge cX5_charge 4 none, Cond.methodLink RX5 241 yX3_chargeFirst, Cond.instanceMethod yX3_chargeFirst, Cond.selects RX3 yX3_chargeFirst yX3_chargeFirst, Cond.initialized RX3, Cond.code yX3_chargeFirst cX3_chargeFirst 3 (some .boolean)]
def wsX5_advance_r3 : List Cond := [Cond.fieldLink RX3 38 "MixedKernel$Task" "jobs" "I", Cond.fieldLink RX3 50 "MixedKernel$Task" "pending" "I", Cond.fieldLink RX3 44 "MixedKernel$Task" "ticks" "I", Cond.fieldLink RX3 53 "MixedKernel$Task" "charged" "I", Cond.fieldLink RX3 21 "MixedKernel$Task" "demands" "[I", Cond.fieldLink RX3 28 "MixedKernel$Task" "endTimes" "[I", Cond.fieldLink RX3 47 "MixedKernel$Task" "endedLate" "I", Cond.static yX5_slotOf, Cond.code yX5_slotOf cX5_slotOf 1 (some .int), Cond.methodLink RX5 207 yJ9_floorMod_7cf53, Cond.methodLink RX3 64 yX3_isLate, Cond.instanceMethod yX3_isLate, Cond.selects RX3 yX3_isLate yX3_isLate, Cond.code yX3_isLate cX3_isLate 3 (some .boolean), Cond.fieldLink RX3 25 "MixedKernel$Task" "releaseTimes" "[I", Cond.fieldLink RX3 15 "MixedKernel$Task" "deadline" "I", Cond.methodLink RX5 126 yX3_isHigh, Cond.instanceMethod yX3_isHigh, Cond.selects RX3 yX3_isHigh yX3_isHigh, Cond.code yX3_isHigh cX3_isHigh 1 (some .boolean), Cond.fieldLink RX3 31 "MixedKernel$Task" "high" "I", Cond.methodLink RX5 250 yX5_becomeHigh, Cond.instanceMethod yX5_becomeHigh, Cond.selects RX5 yX5_becomeHigh yX5_becomeHigh]
def wsX5_advance_r4 : List Cond := [Cond.code yX5_becomeHigh cX5_becomeHigh 2 none, Cond.fieldLink RX5 52 "MixedKernel" "changes" "LMixedKernel$Latest;", Cond.fieldLink RX5 201 "MixedKernel" "givenUp" "I", Cond.methodLink RX5 253 yX3_giveUpPending, Cond.instanceMethod yX3_giveUpPending, Cond.selects RX3 yX3_giveUpPending yX3_giveUpPending, Cond.code yX3_giveUpPending cX3_giveUpPending 3 (some .int), Cond.methodLink RX5 104 yX5_forgetIfLeft, Cond.instanceMethod yX5_forgetIfLeft, Cond.selects RX5 yX5_forgetIfLeft yX5_forgetIfLeft, Cond.code yX5_forgetIfLeft cX5_forgetIfLeft 2 none, Cond.methodLink RX5 256 yX1_drop, Cond.instanceMethod yX1_drop, Cond.selects RX1 yX1_drop yX1_drop, Cond.code yX1_drop cX1_drop 3 none, Cond.methodLink RX1 25 yX1_placeOf, Cond.instanceMethod yX1_placeOf, Cond.selects RX1 yX1_placeOf yX1_placeOf, Cond.code yX1_placeOf cX1_placeOf 3 (some .int), Cond.methodLink RX1 29 yX1_moveBack, Cond.instanceMethod yX1_moveBack, Cond.selects RX1 yX1_moveBack yX1_moveBack, Cond.code yX1_moveBack cX1_moveBack 5 none]
def wsX5_advance : List Cond := .code yX5_advance cX5_advance 2 (some .int) :: ((wsX5_advance_r1 ++ (wsX5_advance_r2 ++ (wsX5_advance_r3 ++ wsX5_advance_r4))) ++ wsX50 ++ wsX10 ++ wsX30 ++ wsX00)
def wsX5_tick_r1 : List Cond := [Cond.methodLink RX5 137 yX5_advance, Cond.instanceMethod yX5_advance, Cond.selects RX5 yX5_advance yX5_advance, Cond.initialized RX5, Cond.code yX5_advance cX5_advance 2 (some .int), Cond.fieldLink RX5 113 "MixedKernel" "time" "I", Cond.fieldLink RX5 48 "MixedKernel" "ran" "LMixedKernel$Latest;", Cond.methodLink RX5 229 yX5_firstToRun, Cond.instanceMethod yX5_firstToRun, Cond.selects RX5 yX5_firstToRun yX5_firstToRun, Cond.code yX5_firstToRun cX5_firstToRun 2 (some .int), Cond.fieldLink RX5 30 "MixedKernel" "order" "LMixedKernel$Line;", Cond.fieldLink RX5 20 "MixedKernel" "tasks" "[LMixedKernel$Task;", Cond.methodLink RX5 232 yX0_put, Cond.instanceMethod yX0_put, Cond.selects RX0 yX0_put yX0_put, Cond.initialized RX0, Cond.code yX0_put cX0_put 2 none, Cond.fieldLink RX0 7 "MixedKernel$Latest" "kept" "[I", Cond.fieldLink RX0 13 "MixedKernel$Latest" "total" "I", Cond.methodLink RX0 17 yJ9_floorMod_7cf53, Cond.static yJ9_floorMod_7cf53, Cond.initialized RJ9, Cond.code yJ9_floorMod_7cf53 cJ9_floorMod_7cf53 3 (some .int)]
def wsX5_tick_r2 : List Cond := [Cond.methodLink RX5 235 yX5_settle, Cond.instanceMethod yX5_settle, Cond.selects RX5 yX5_settle yX5_settle, Cond.code yX5_settle cX5_settle 1 none, Cond.fieldLink RX5 192 "MixedKernel" "idleTicks" "I", Cond.fieldLink RX5 204 "MixedKernel" "latestIdle" "I", Cond.fieldLink RX5 123 "MixedKernel" "highMode" "Z", Cond.fieldLink RX5 26 "MixedKernel" "plan" "LMixedKernel$Line;", Cond.methodLink RX5 81 yX1_become, Cond.instanceMethod yX1_become, Cond.selects RX1 yX1_become yX1_become, Cond.initialized RX1, Cond.code yX1_become cX1_become 2 none, Cond.fieldLink RX1 9 "MixedKernel$Line" "ids" "[I", Cond.methodLink RX1 19 arraycopyName, Cond.native arraycopyName, Cond.static arraycopyName, Cond.initialized "java/lang/System", Cond.fieldLink RX1 15 "MixedKernel$Line" "size" "I", Cond.methodLink RX5 238 yX5_charge, Cond.instanceMethod yX5_charge, Cond.selects RX5 yX5_charge yX5_charge, Cond.code yX5_charge cX5_charge 4 none, Cond.methodLink RX5 241 yX3_chargeFirst]
def wsX5_tick_r3 : List Cond := [Cond.instanceMethod yX3_chargeFirst, Cond.selects RX3 yX3_chargeFirst yX3_chargeFirst, Cond.initialized RX3, Cond.code yX3_chargeFirst cX3_chargeFirst 3 (some .boolean), Cond.fieldLink RX3 38 "MixedKernel$Task" "jobs" "I", Cond.fieldLink RX3 50 "MixedKernel$Task" "pending" "I", Cond.fieldLink RX3 44 "MixedKernel$Task" "ticks" "I", Cond.fieldLink RX3 53 "MixedKernel$Task" "charged" "I", Cond.fieldLink RX3 21 "MixedKernel$Task" "demands" "[I", Cond.fieldLink RX3 28 "MixedKernel$Task" "endTimes" "[I", Cond.fieldLink RX3 47 "MixedKernel$Task" "endedLate" "I", Cond.static yX5_slotOf, Cond.code yX5_slotOf cX5_slotOf 1 (some .int), Cond.methodLink RX5 207 yJ9_floorMod_7cf53, Cond.methodLink RX3 64 yX3_isLate, Cond.instanceMethod yX3_isLate, Cond.selects RX3 yX3_isLate yX3_isLate, Cond.code yX3_isLate cX3_isLate 3 (some .boolean), Cond.fieldLink RX3 25 "MixedKernel$Task" "releaseTimes" "[I", Cond.fieldLink RX3 15 "MixedKernel$Task" "deadline" "I", Cond.methodLink RX5 126 yX3_isHigh, Cond.instanceMethod yX3_isHigh, Cond.selects RX3 yX3_isHigh yX3_isHigh, Cond.code yX3_isHigh cX3_isHigh 1 (some .boolean)]
def wsX5_tick_r4 : List Cond := [Cond.fieldLink RX3 31 "MixedKernel$Task" "high" "I", Cond.methodLink RX5 250 yX5_becomeHigh, Cond.instanceMethod yX5_becomeHigh, Cond.selects RX5 yX5_becomeHigh yX5_becomeHigh, Cond.code yX5_becomeHigh cX5_becomeHigh 2 none, Cond.fieldLink RX5 52 "MixedKernel" "changes" "LMixedKernel$Latest;", Cond.fieldLink RX5 201 "MixedKernel" "givenUp" "I", Cond.methodLink RX5 253 yX3_giveUpPending, Cond.instanceMethod yX3_giveUpPending, Cond.selects RX3 yX3_giveUpPending yX3_giveUpPending, Cond.code yX3_giveUpPending cX3_giveUpPending 3 (some .int), Cond.methodLink RX5 104 yX5_forgetIfLeft, Cond.instanceMethod yX5_forgetIfLeft, Cond.selects RX5 yX5_forgetIfLeft yX5_forgetIfLeft, Cond.code yX5_forgetIfLeft cX5_forgetIfLeft 2 none, Cond.methodLink RX5 256 yX1_drop, Cond.instanceMethod yX1_drop, Cond.selects RX1 yX1_drop yX1_drop, Cond.code yX1_drop cX1_drop 3 none, Cond.methodLink RX1 25 yX1_placeOf, Cond.instanceMethod yX1_placeOf, Cond.selects RX1 yX1_placeOf yX1_placeOf, Cond.code yX1_placeOf cX1_placeOf 3 (some .int), Cond.methodLink RX1 29 yX1_moveBack]
def wsX5_tick_r5 : List Cond := [Cond.instanceMethod yX1_moveBack, Cond.selects RX1 yX1_moveBack yX1_moveBack, Cond.code yX1_moveBack cX1_moveBack 5 none]
def wsX5_tick : List Cond := .code yX5_tick cX5_tick 1 (some .int) :: ((wsX5_tick_r1 ++ (wsX5_tick_r2 ++ (wsX5_tick_r3 ++ (wsX5_tick_r4 ++ wsX5_tick_r5)))) ++ wsX50 ++ wsX10 ++ wsX30 ++ wsX00)
def wsX5_run_r1 : List Cond := [Cond.classLink RX5 66 "java/lang/IllegalArgumentException", Cond.initialized "java/lang/IllegalArgumentException", Cond.methodLink RX5 137 yX5_advance, Cond.instanceMethod yX5_advance, Cond.selects RX5 yX5_advance yX5_advance, Cond.initialized RX5, Cond.code yX5_advance cX5_advance 2 (some .int), Cond.fieldLink RX5 113 "MixedKernel" "time" "I", Cond.fieldLink RX5 48 "MixedKernel" "ran" "LMixedKernel$Latest;", Cond.methodLink RX5 229 yX5_firstToRun, Cond.instanceMethod yX5_firstToRun, Cond.selects RX5 yX5_firstToRun yX5_firstToRun, Cond.code yX5_firstToRun cX5_firstToRun 2 (some .int), Cond.fieldLink RX5 30 "MixedKernel" "order" "LMixedKernel$Line;", Cond.fieldLink RX5 20 "MixedKernel" "tasks" "[LMixedKernel$Task;", Cond.methodLink RX5 232 yX0_put, Cond.instanceMethod yX0_put, Cond.selects RX0 yX0_put yX0_put, Cond.initialized RX0, Cond.code yX0_put cX0_put 2 none, Cond.fieldLink RX0 7 "MixedKernel$Latest" "kept" "[I", Cond.fieldLink RX0 13 "MixedKernel$Latest" "total" "I", Cond.methodLink RX0 17 yJ9_floorMod_7cf53, Cond.static yJ9_floorMod_7cf53]
def wsX5_run_r2 : List Cond := [Cond.initialized RJ9, Cond.code yJ9_floorMod_7cf53 cJ9_floorMod_7cf53 3 (some .int), Cond.methodLink RX5 235 yX5_settle, Cond.instanceMethod yX5_settle, Cond.selects RX5 yX5_settle yX5_settle, Cond.code yX5_settle cX5_settle 1 none, Cond.fieldLink RX5 192 "MixedKernel" "idleTicks" "I", Cond.fieldLink RX5 204 "MixedKernel" "latestIdle" "I", Cond.fieldLink RX5 123 "MixedKernel" "highMode" "Z", Cond.fieldLink RX5 26 "MixedKernel" "plan" "LMixedKernel$Line;", Cond.methodLink RX5 81 yX1_become, Cond.instanceMethod yX1_become, Cond.selects RX1 yX1_become yX1_become, Cond.initialized RX1, Cond.code yX1_become cX1_become 2 none, Cond.fieldLink RX1 9 "MixedKernel$Line" "ids" "[I", Cond.methodLink RX1 19 arraycopyName, Cond.native arraycopyName, Cond.static arraycopyName, Cond.initialized "java/lang/System", Cond.fieldLink RX1 15 "MixedKernel$Line" "size" "I", Cond.methodLink RX5 238 yX5_charge, Cond.instanceMethod yX5_charge, Cond.selects RX5 yX5_charge yX5_charge]
def wsX5_run_r3 : List Cond := [Cond.code yX5_charge cX5_charge 4 none, Cond.methodLink RX5 241 yX3_chargeFirst, Cond.instanceMethod yX3_chargeFirst, Cond.selects RX3 yX3_chargeFirst yX3_chargeFirst, Cond.initialized RX3, Cond.code yX3_chargeFirst cX3_chargeFirst 3 (some .boolean), Cond.fieldLink RX3 38 "MixedKernel$Task" "jobs" "I", Cond.fieldLink RX3 50 "MixedKernel$Task" "pending" "I", Cond.fieldLink RX3 44 "MixedKernel$Task" "ticks" "I", Cond.fieldLink RX3 53 "MixedKernel$Task" "charged" "I", Cond.fieldLink RX3 21 "MixedKernel$Task" "demands" "[I", Cond.fieldLink RX3 28 "MixedKernel$Task" "endTimes" "[I", Cond.fieldLink RX3 47 "MixedKernel$Task" "endedLate" "I", Cond.static yX5_slotOf, Cond.code yX5_slotOf cX5_slotOf 1 (some .int), Cond.methodLink RX5 207 yJ9_floorMod_7cf53, Cond.methodLink RX3 64 yX3_isLate, Cond.instanceMethod yX3_isLate, Cond.selects RX3 yX3_isLate yX3_isLate, Cond.code yX3_isLate cX3_isLate 3 (some .boolean), Cond.fieldLink RX3 25 "MixedKernel$Task" "releaseTimes" "[I", Cond.fieldLink RX3 15 "MixedKernel$Task" "deadline" "I", Cond.methodLink RX5 126 yX3_isHigh, Cond.instanceMethod yX3_isHigh]
def wsX5_run_r4 : List Cond := [Cond.selects RX3 yX3_isHigh yX3_isHigh, Cond.code yX3_isHigh cX3_isHigh 1 (some .boolean), Cond.fieldLink RX3 31 "MixedKernel$Task" "high" "I", Cond.methodLink RX5 250 yX5_becomeHigh, Cond.instanceMethod yX5_becomeHigh, Cond.selects RX5 yX5_becomeHigh yX5_becomeHigh, Cond.code yX5_becomeHigh cX5_becomeHigh 2 none, Cond.fieldLink RX5 52 "MixedKernel" "changes" "LMixedKernel$Latest;", Cond.fieldLink RX5 201 "MixedKernel" "givenUp" "I", Cond.methodLink RX5 253 yX3_giveUpPending, Cond.instanceMethod yX3_giveUpPending, Cond.selects RX3 yX3_giveUpPending yX3_giveUpPending, Cond.code yX3_giveUpPending cX3_giveUpPending 3 (some .int), Cond.methodLink RX5 104 yX5_forgetIfLeft, Cond.instanceMethod yX5_forgetIfLeft, Cond.selects RX5 yX5_forgetIfLeft yX5_forgetIfLeft, Cond.code yX5_forgetIfLeft cX5_forgetIfLeft 2 none, Cond.methodLink RX5 256 yX1_drop, Cond.instanceMethod yX1_drop, Cond.selects RX1 yX1_drop yX1_drop, Cond.code yX1_drop cX1_drop 3 none, Cond.methodLink RX1 25 yX1_placeOf, Cond.instanceMethod yX1_placeOf, Cond.selects RX1 yX1_placeOf yX1_placeOf]
def wsX5_run_r5 : List Cond := [Cond.code yX1_placeOf cX1_placeOf 3 (some .int), Cond.methodLink RX1 29 yX1_moveBack, Cond.instanceMethod yX1_moveBack, Cond.selects RX1 yX1_moveBack yX1_moveBack, Cond.code yX1_moveBack cX1_moveBack 5 none]
def wsX5_run : List Cond := .code yX5_run cX5_run 4 (some .int) :: ((wsX5_run_r1 ++ (wsX5_run_r2 ++ (wsX5_run_r3 ++ (wsX5_run_r4 ++ wsX5_run_r5)))) ++ wsX50 ++ wsX10 ++ wsX30 ++ wsX00 ++ (vx_at0 RX5 68 "java/lang/IllegalArgumentException" ["java/lang/RuntimeException", "java/lang/Exception"]).filter goodWord)
def wsX5_assign_r1 : List Cond := [Cond.fieldLink RX5 33 "MixedKernel" "trial" "LMixedKernel$Line;", Cond.fieldLink RX5 26 "MixedKernel" "plan" "LMixedKernel$Line;", Cond.fieldLink RX5 12 "MixedKernel" "set" "LMixedKernel$TaskSet;", Cond.methodLink RX5 81 yX1_become, Cond.instanceMethod yX1_become, Cond.selects RX1 yX1_become yX1_become, Cond.initialized RX1, Cond.code yX1_become cX1_become 2 none, Cond.fieldLink RX1 9 "MixedKernel$Line" "ids" "[I", Cond.methodLink RX1 19 arraycopyName, Cond.native arraycopyName, Cond.static arraycopyName, Cond.initialized "java/lang/System", Cond.fieldLink RX1 15 "MixedKernel$Line" "size" "I", Cond.methodLink RX5 143 yX4_lastThatPasses, Cond.instanceMethod yX4_lastThatPasses, Cond.selects RX4 yX4_lastThatPasses yX4_lastThatPasses, Cond.initialized RX4, Cond.code yX4_lastThatPasses cX4_lastThatPasses 5 (some .int), Cond.fieldLink RX4 11 "MixedKernel$TaskSet" "all" "[LMixedKernel$Task;", Cond.methodLink RX4 45 yX4_lowResponse, Cond.instanceMethod yX4_lowResponse, Cond.selects RX4 yX4_lowResponse yX4_lowResponse, Cond.code yX4_lowResponse cX4_lowResponse 4 (some .int)]
def wsX5_assign_r2 : List Cond := [Cond.methodLink RX4 28 yX4_leastSpan, Cond.instanceMethod yX4_leastSpan, Cond.selects RX4 yX4_leastSpan yX4_leastSpan, Cond.code yX4_leastSpan cX4_leastSpan 10 (some .int), Cond.methodLink RX4 39 yX4_workAhead, Cond.instanceMethod yX4_workAhead, Cond.selects RX4 yX4_workAhead yX4_workAhead, Cond.code yX4_workAhead cX4_workAhead 9 (some .int), Cond.static yX5_releasesWithin, Cond.initialized RX5, Cond.code yX5_releasesWithin cX5_releasesWithin 2 (some .int), Cond.methodLink RX4 62 yX3_budgetAmong, Cond.instanceMethod yX3_budgetAmong, Cond.selects RX3 yX3_budgetAmong yX3_budgetAmong, Cond.initialized RX3, Cond.code yX3_budgetAmong cX3_budgetAmong 2 (some .int), Cond.fieldLink RX3 31 "MixedKernel$Task" "high" "I", Cond.fieldLink RX3 18 "MixedKernel$Task" "low" "I", Cond.methodLink RX4 52 yX4_bound, Cond.instanceMethod yX4_bound, Cond.selects RX4 yX4_bound yX4_bound, Cond.code yX4_bound cX4_bound 7 (some .int), Cond.methodLink RX4 32 yX3_isHigh, Cond.instanceMethod yX3_isHigh]
def wsX5_assign_r3 : List Cond := [Cond.selects RX3 yX3_isHigh yX3_isHigh, Cond.code yX3_isHigh cX3_isHigh 1 (some .boolean), Cond.methodLink RX5 147 yX1_moveBack, Cond.instanceMethod yX1_moveBack, Cond.selects RX1 yX1_moveBack yX1_moveBack, Cond.code yX1_moveBack cX1_moveBack 5 none]
def wsX5_assign : List Cond := .code yX5_assign cX5_assign 3 (some .boolean) :: ((wsX5_assign_r1 ++ (wsX5_assign_r2 ++ wsX5_assign_r3)) ++ wsX50 ++ wsX10 ++ wsX40 ++ wsX30)
def wsX5_response_r1 : List Cond := [Cond.classLink RX5 97 "java/util/NoSuchElementException", Cond.initialized "java/util/NoSuchElementException", Cond.classLink RX5 66 "java/lang/IllegalArgumentException", Cond.initialized "java/lang/IllegalArgumentException", Cond.fieldLink RX5 26 "MixedKernel" "plan" "LMixedKernel$Line;", Cond.fieldLink RX5 12 "MixedKernel" "set" "LMixedKernel$TaskSet;", Cond.methodLink RX5 150 yX1_placeOf, Cond.instanceMethod yX1_placeOf, Cond.selects RX1 yX1_placeOf yX1_placeOf, Cond.initialized RX1, Cond.code yX1_placeOf cX1_placeOf 3 (some .int), Cond.fieldLink RX1 15 "MixedKernel$Line" "size" "I", Cond.fieldLink RX1 9 "MixedKernel$Line" "ids" "[I", Cond.methodLink RX5 153 yX4_lowResponse, Cond.instanceMethod yX4_lowResponse, Cond.selects RX4 yX4_lowResponse yX4_lowResponse, Cond.initialized RX4, Cond.code yX4_lowResponse cX4_lowResponse 4 (some .int), Cond.fieldLink RX4 11 "MixedKernel$TaskSet" "all" "[LMixedKernel$Task;", Cond.methodLink RX4 28 yX4_leastSpan, Cond.instanceMethod yX4_leastSpan, Cond.selects RX4 yX4_leastSpan yX4_leastSpan, Cond.code yX4_leastSpan cX4_leastSpan 10 (some .int), Cond.methodLink RX4 39 yX4_workAhead]
def wsX5_response_r2 : List Cond := [Cond.instanceMethod yX4_workAhead, Cond.selects RX4 yX4_workAhead yX4_workAhead, Cond.code yX4_workAhead cX4_workAhead 9 (some .int), Cond.static yX5_releasesWithin, Cond.initialized RX5, Cond.code yX5_releasesWithin cX5_releasesWithin 2 (some .int), Cond.methodLink RX4 62 yX3_budgetAmong, Cond.instanceMethod yX3_budgetAmong, Cond.selects RX3 yX3_budgetAmong yX3_budgetAmong, Cond.initialized RX3, Cond.code yX3_budgetAmong cX3_budgetAmong 2 (some .int), Cond.fieldLink RX3 31 "MixedKernel$Task" "high" "I", Cond.fieldLink RX3 18 "MixedKernel$Task" "low" "I", Cond.methodLink RX5 157 yX4_bound, Cond.instanceMethod yX4_bound, Cond.selects RX4 yX4_bound yX4_bound, Cond.code yX4_bound cX4_bound 7 (some .int), Cond.methodLink RX4 32 yX3_isHigh, Cond.instanceMethod yX3_isHigh, Cond.selects RX3 yX3_isHigh yX3_isHigh, Cond.code yX3_isHigh cX3_isHigh 1 (some .boolean)]
def wsX5_response : List Cond := .code yX5_response cX5_response 4 (some .int) :: ((wsX5_response_r1 ++ wsX5_response_r2) ++ wsX50 ++ wsX10 ++ wsX40 ++ wsX30 ++ (vx_at0 RX5 99 "java/util/NoSuchElementException" ["java/lang/RuntimeException", "java/lang/Exception"]).filter goodWord ++ (vx_at0 RX5 68 "java/lang/IllegalArgumentException" ["java/lang/RuntimeException", "java/lang/Exception"]).filter goodWord)
def wsX5_ended_r1 : List Cond := [Cond.classLink RX5 97 "java/util/NoSuchElementException", Cond.initialized "java/util/NoSuchElementException", Cond.fieldLink RX5 20 "MixedKernel" "tasks" "[LMixedKernel$Task;", Cond.methodLink RX5 69 yX5_isKnown, Cond.instanceMethod yX5_isKnown, Cond.selects RX5 yX5_isKnown yX5_isKnown, Cond.initialized RX5, Cond.code yX5_isKnown cX5_isKnown 2 (some .boolean), Cond.fieldLink RX5 26 "MixedKernel" "plan" "LMixedKernel$Line;", Cond.methodLink RX5 150 yX1_placeOf, Cond.instanceMethod yX1_placeOf, Cond.selects RX1 yX1_placeOf yX1_placeOf, Cond.initialized RX1, Cond.code yX1_placeOf cX1_placeOf 3 (some .int), Cond.fieldLink RX1 15 "MixedKernel$Line" "size" "I", Cond.fieldLink RX1 9 "MixedKernel$Line" "ids" "[I", Cond.methodLink RX5 160 yX3_keeps, Cond.instanceMethod yX3_keeps, Cond.selects RX3 yX3_keeps yX3_keeps, Cond.initialized RX3, Cond.code yX3_keeps cX3_keeps 2 (some .boolean), Cond.fieldLink RX3 38 "MixedKernel$Task" "jobs" "I", Cond.methodLink RX5 167 yX5_slotOf, Cond.static yX5_slotOf]
def wsX5_ended_r2 : List Cond := [Cond.code yX5_slotOf cX5_slotOf 1 (some .int), Cond.methodLink RX5 207 yJ9_floorMod_7cf53, Cond.static yJ9_floorMod_7cf53, Cond.initialized RJ9, Cond.code yJ9_floorMod_7cf53 cJ9_floorMod_7cf53 3 (some .int)]
def wsX5_ended : List Cond := .code yX5_ended cX5_ended 3 (some .int) :: ((wsX5_ended_r1 ++ wsX5_ended_r2) ++ wsX50 ++ wsX30 ++ wsX10 ++ (vx_at0 RX5 99 "java/util/NoSuchElementException" ["java/lang/RuntimeException", "java/lang/Exception"]).filter goodWord)
def wsX5_about_r1 : List Cond := [Cond.classLink RX5 97 "java/util/NoSuchElementException", Cond.initialized "java/util/NoSuchElementException", Cond.classLink RX5 66 "java/lang/IllegalArgumentException", Cond.initialized "java/lang/IllegalArgumentException", Cond.fieldLink RX5 20 "MixedKernel" "tasks" "[LMixedKernel$Task;", Cond.fieldLink RX5 30 "MixedKernel" "order" "LMixedKernel$Line;", Cond.fieldLink RX5 26 "MixedKernel" "plan" "LMixedKernel$Line;", Cond.fieldLink RX5 113 "MixedKernel" "time" "I", Cond.methodLink RX5 69 yX5_isKnown, Cond.instanceMethod yX5_isKnown, Cond.selects RX5 yX5_isKnown yX5_isKnown, Cond.initialized RX5, Cond.code yX5_isKnown cX5_isKnown 2 (some .boolean), Cond.methodLink RX5 150 yX1_placeOf, Cond.instanceMethod yX1_placeOf, Cond.selects RX1 yX1_placeOf yX1_placeOf, Cond.initialized RX1, Cond.code yX1_placeOf cX1_placeOf 3 (some .int), Cond.fieldLink RX1 15 "MixedKernel$Line" "size" "I", Cond.fieldLink RX1 9 "MixedKernel$Line" "ids" "[I", Cond.methodLink RX5 117 yX3_nextRelease, Cond.instanceMethod yX3_nextRelease, Cond.selects RX3 yX3_nextRelease yX3_nextRelease, Cond.initialized RX3]
def wsX5_about_r2 : List Cond := [Cond.code yX3_nextRelease cX3_nextRelease 1 (some .int), Cond.fieldLink RX3 38 "MixedKernel$Task" "jobs" "I", Cond.fieldLink RX3 25 "MixedKernel$Task" "releaseTimes" "[I", Cond.fieldLink RX3 9 "MixedKernel$Task" "period" "I", Cond.static yX5_slotOf, Cond.code yX5_slotOf cX5_slotOf 1 (some .int), Cond.methodLink RX5 207 yJ9_floorMod_7cf53, Cond.static yJ9_floorMod_7cf53, Cond.initialized RJ9, Cond.code yJ9_floorMod_7cf53 cJ9_floorMod_7cf53 3 (some .int), Cond.methodLink RX5 176 yX3_lateJobs, Cond.instanceMethod yX3_lateJobs, Cond.selects RX3 yX3_lateJobs yX3_lateJobs, Cond.code yX3_lateJobs cX3_lateJobs 4 (some .int), Cond.fieldLink RX3 47 "MixedKernel$Task" "endedLate" "I", Cond.fieldLink RX3 50 "MixedKernel$Task" "pending" "I", Cond.methodLink RX3 64 yX3_isLate, Cond.instanceMethod yX3_isLate, Cond.selects RX3 yX3_isLate yX3_isLate, Cond.code yX3_isLate cX3_isLate 3 (some .boolean), Cond.fieldLink RX3 15 "MixedKernel$Task" "deadline" "I"]
def wsX5_about : List Cond := .code yX5_about cX5_about 4 (some .int) :: ((wsX5_about_r1 ++ wsX5_about_r2) ++ wsX50 ++ wsX30 ++ wsX10 ++ (vx_at0 RX5 99 "java/util/NoSuchElementException" ["java/lang/RuntimeException", "java/lang/Exception"]).filter goodWord ++ (vx_at0 RX5 68 "java/lang/IllegalArgumentException" ["java/lang/RuntimeException", "java/lang/Exception"]).filter goodWord)
def wsX5_witness_r1 : List Cond := [Cond.classLink RX5 97 "java/util/NoSuchElementException", Cond.initialized "java/util/NoSuchElementException", Cond.classLink RX5 66 "java/lang/IllegalArgumentException", Cond.initialized "java/lang/IllegalArgumentException", Cond.fieldLink RX5 39 "MixedKernel" "refusal" "LMixedKernel$Refusal;", Cond.methodLink RX5 179 yX2_releases, Cond.instanceMethod yX2_releases, Cond.selects RX2 yX2_releases yX2_releases, Cond.initialized RX2, Cond.code yX2_releases cX2_releases 1 (some .int), Cond.fieldLink RX2 33 "MixedKernel$Refusal" "deadline" "I", Cond.methodLink RX2 34 yX2_releasesBefore, Cond.instanceMethod yX2_releasesBefore, Cond.selects RX2 yX2_releasesBefore yX2_releasesBefore, Cond.code yX2_releasesBefore cX2_releasesBefore 4 (some .int), Cond.fieldLink RX2 18 "MixedKernel$Refusal" "size" "I", Cond.fieldLink RX2 15 "MixedKernel$Refusal" "periods" "[I", Cond.static yX5_releasesWithin, Cond.initialized RX5, Cond.code yX5_releasesWithin cX5_releasesWithin 2 (some .int), Cond.methodLink RX5 182 yX2_timeOf, Cond.instanceMethod yX2_timeOf, Cond.selects RX2 yX2_timeOf yX2_timeOf, Cond.code yX2_timeOf cX2_timeOf 4 (some .int)]
def wsX5_witness_r2 : List Cond := [Cond.methodLink RX5 185 yX2_taskOf, Cond.instanceMethod yX2_taskOf, Cond.selects RX2 yX2_taskOf yX2_taskOf, Cond.code yX2_taskOf cX2_taskOf 5 (some .int), Cond.fieldLink RX2 9 "MixedKernel$Refusal" "ids" "[I", Cond.methodLink RX2 38 yX2_timeOf, Cond.methodLink RX2 41 yX2_isReleaseTime, Cond.static yX2_isReleaseTime, Cond.code yX2_isReleaseTime cX2_isReleaseTime 2 (some .boolean)]
def wsX5_witness : List Cond := .code yX5_witness cX5_witness 3 (some .int) :: ((wsX5_witness_r1 ++ wsX5_witness_r2) ++ wsX50 ++ wsX20 ++ (vx_at0 RX5 99 "java/util/NoSuchElementException" ["java/lang/RuntimeException", "java/lang/Exception"]).filter goodWord ++ (vx_at0 RX5 68 "java/lang/IllegalArgumentException" ["java/lang/RuntimeException", "java/lang/Exception"]).filter goodWord)
def wsX5_trace : List Cond := .code yX5_trace cX5_trace 2 (some .int) :: ([.classLink RX5 97 "java/util/NoSuchElementException", .initialized "java/util/NoSuchElementException", .fieldLink RX5 48 "MixedKernel" "ran" "LMixedKernel$Latest;", .methodLink RX5 188 yX0_keeps, .instanceMethod yX0_keeps, .selects RX0 yX0_keeps yX0_keeps, .initialized RX0, .code yX0_keeps cX0_keeps 2 (some .boolean), .fieldLink RX0 7 "MixedKernel$Latest" "kept" "[I", .fieldLink RX0 13 "MixedKernel$Latest" "total" "I", .methodLink RX5 189 yX0_back, .instanceMethod yX0_back, .selects RX0 yX0_back yX0_back, .code yX0_back cX0_back 2 (some .int), .methodLink RX0 17 yJ9_floorMod_7cf53, .static yJ9_floorMod_7cf53, .initialized RJ9, .code yJ9_floorMod_7cf53 cJ9_floorMod_7cf53 3 (some .int)] ++ wsX50 ++ wsX00 ++ (vx_at0 RX5 99 "java/util/NoSuchElementException" ["java/lang/RuntimeException", "java/lang/Exception"]).filter goodWord)
def wsX5_changed : List Cond := .code yX5_changed cX5_changed 2 (some .int) :: ([.classLink RX5 97 "java/util/NoSuchElementException", .initialized "java/util/NoSuchElementException", .fieldLink RX5 52 "MixedKernel" "changes" "LMixedKernel$Latest;", .methodLink RX5 188 yX0_keeps, .instanceMethod yX0_keeps, .selects RX0 yX0_keeps yX0_keeps, .initialized RX0, .code yX0_keeps cX0_keeps 2 (some .boolean), .fieldLink RX0 7 "MixedKernel$Latest" "kept" "[I", .fieldLink RX0 13 "MixedKernel$Latest" "total" "I", .methodLink RX5 189 yX0_back, .instanceMethod yX0_back, .selects RX0 yX0_back yX0_back, .code yX0_back cX0_back 2 (some .int), .methodLink RX0 17 yJ9_floorMod_7cf53, .static yJ9_floorMod_7cf53, .initialized RJ9, .code yJ9_floorMod_7cf53 cJ9_floorMod_7cf53 3 (some .int)] ++ wsX50 ++ wsX00 ++ (vx_at0 RX5 99 "java/util/NoSuchElementException" ["java/lang/RuntimeException", "java/lang/Exception"]).filter goodWord)
def wsX5_pendingJobs : List Cond := .code yX5_pendingJobs cX5_pendingJobs 3 (some .int) :: ([.fieldLink RX5 20 "MixedKernel" "tasks" "[LMixedKernel$Task;"] ++ wsX50 ++ wsX30)
def wsX5_count : List Cond := .code yX5_count cX5_count 2 (some .int) :: ([.classLink RX5 66 "java/lang/IllegalArgumentException", .initialized "java/lang/IllegalArgumentException", .fieldLink RX5 113 "MixedKernel" "time" "I", .fieldLink RX5 192 "MixedKernel" "idleTicks" "I", .fieldLink RX5 123 "MixedKernel" "highMode" "Z", .fieldLink RX5 52 "MixedKernel" "changes" "LMixedKernel$Latest;", .fieldLink RX5 26 "MixedKernel" "plan" "LMixedKernel$Line;", .fieldLink RX5 30 "MixedKernel" "order" "LMixedKernel$Line;", .fieldLink RX5 201 "MixedKernel" "givenUp" "I", .fieldLink RX5 204 "MixedKernel" "latestIdle" "I", .methodLink RX5 198 yX5_pendingJobs, .instanceMethod yX5_pendingJobs, .selects RX5 yX5_pendingJobs yX5_pendingJobs, .initialized RX5, .code yX5_pendingJobs cX5_pendingJobs 3 (some .int), .fieldLink RX5 20 "MixedKernel" "tasks" "[LMixedKernel$Task;"] ++ wsX50 ++ wsX00 ++ wsX10 ++ wsX30 ++ (vx_at0 RX5 68 "java/lang/IllegalArgumentException" ["java/lang/RuntimeException", "java/lang/Exception"]).filter goodWord)
def wsX6_init_r1 : List Cond := [Cond.methodLink RX6 1 objectInit, Cond.instanceMethod objectInit, Cond.code objectInit ⟨#[0xb1]⟩ 1 none, Cond.arrayClass .boolean, Cond.fieldLink RX6 7 "MixedKernelModel" "known" "[Z", Cond.fieldLink RX6 13 "MixedKernelModel" "leaving" "[Z", Cond.arrayClass .int, Cond.fieldLink RX6 16 "MixedKernelModel" "periods" "[I", Cond.fieldLink RX6 20 "MixedKernelModel" "deadlines" "[I", Cond.fieldLink RX6 23 "MixedKernelModel" "lows" "[I", Cond.fieldLink RX6 26 "MixedKernelModel" "highs" "[I", Cond.fieldLink RX6 29 "MixedKernelModel" "plan" "[I", Cond.fieldLink RX6 32 "MixedKernelModel" "order" "[I", Cond.fieldLink RX6 35 "MixedKernelModel" "found" "[I", Cond.fieldLink RX6 38 "MixedKernelModel" "jobs" "[I", Cond.fieldLink RX6 41 "MixedKernelModel" "drops" "[I", Cond.fieldLink RX6 44 "MixedKernelModel" "charged" "[I", Cond.fieldLink RX6 47 "MixedKernelModel" "lates" "[I", Cond.fieldLink RX6 50 "MixedKernelModel" "nexts" "[I", Cond.fieldLink RX6 53 "MixedKernelModel" "releases" "[I", Cond.fieldLink RX6 56 "MixedKernelModel" "demands" "[I", Cond.fieldLink RX6 59 "MixedKernelModel" "charges" "[I", Cond.fieldLink RX6 62 "MixedKernelModel" "ends" "[I", Cond.fieldLink RX6 65 "MixedKernelModel" "changed" "[I"]
def wsX6_init_r2 : List Cond := [Cond.fieldLink RX6 68 "MixedKernelModel" "trace" "[I", Cond.fieldLink RX6 71 "MixedKernelModel" "who" "[I", Cond.fieldLink RX6 74 "MixedKernelModel" "whoPeriods" "[I", Cond.fieldLink RX6 77 "MixedKernelModel" "trial" "[I", Cond.fieldLink RX6 80 "MixedKernelModel" "placed" "[Z"]
def wsX6_init : List Cond := .code yX6_init cX6_init 1 none :: ((wsX6_init_r1 ++ wsX6_init_r2) ++ wsX60)
def wsX6_thrown : List Cond := .code yX6_thrown cX6_thrown 1 (some .int) :: ([.fieldLink RX6 83 "MixedKernelModel" "thrown" "I"] ++ wsX60)
def wsX6_goes : List Cond := .code yX6_goes cX6_goes 4 (some .boolean) :: ([.fieldLink RX6 83 "MixedKernelModel" "thrown" "I"] ++ wsX60)
def wsX6_within : List Cond := .code yX6_within cX6_within 3 (some .boolean) :: ([])
def wsX6_isKnown : List Cond := .code yX6_isKnown cX6_isKnown 2 (some .boolean) :: ([.fieldLink RX6 7 "MixedKernelModel" "known" "[Z"] ++ wsX60)
def wsX6_times : List Cond := .code yX6_times cX6_times 2 (some .int) :: ([])
def wsX6_lowResponse : List Cond := .code yX6_lowResponse cX6_lowResponse 5 (some .int) :: ([.fieldLink RX6 20 "MixedKernelModel" "deadlines" "[I", .fieldLink RX6 23 "MixedKernelModel" "lows" "[I", .fieldLink RX6 80 "MixedKernelModel" "placed" "[Z", .fieldLink RX6 16 "MixedKernelModel" "periods" "[I", .methodLink RX6 87 yX6_times, .static yX6_times, .initialized RX6, .code yX6_times cX6_times 2 (some .int)] ++ wsX60)
def wsX6_bound : List Cond := .code yX6_bound cX6_bound 7 (some .int) :: ([.fieldLink RX6 26 "MixedKernelModel" "highs" "[I", .fieldLink RX6 80 "MixedKernelModel" "placed" "[Z", .fieldLink RX6 16 "MixedKernelModel" "periods" "[I", .fieldLink RX6 23 "MixedKernelModel" "lows" "[I", .fieldLink RX6 20 "MixedKernelModel" "deadlines" "[I", .methodLink RX6 87 yX6_times, .static yX6_times, .initialized RX6, .code yX6_times cX6_times 2 (some .int)] ++ wsX60)
def wsX6_markAhead : List Cond := .code yX6_markAhead cX6_markAhead 3 none :: ([.fieldLink RX6 80 "MixedKernelModel" "placed" "[Z", .fieldLink RX6 29 "MixedKernelModel" "plan" "[I"] ++ wsX60)
def wsX6_unfit : List Cond := .code yX6_unfit cX6_unfit 2 (some .int) :: ([.fieldLink RX6 91 "MixedKernelModel" "planned" "I", .fieldLink RX6 35 "MixedKernelModel" "found" "[I", .fieldLink RX6 29 "MixedKernelModel" "plan" "[I", .fieldLink RX6 26 "MixedKernelModel" "highs" "[I", .methodLink RX6 94 yX6_markAhead, .instanceMethod yX6_markAhead, .selects RX6 yX6_markAhead yX6_markAhead, .initialized RX6, .code yX6_markAhead cX6_markAhead 3 none, .fieldLink RX6 80 "MixedKernelModel" "placed" "[Z", .methodLink RX6 98 yX6_lowResponse, .instanceMethod yX6_lowResponse, .selects RX6 yX6_lowResponse yX6_lowResponse, .code yX6_lowResponse cX6_lowResponse 5 (some .int), .fieldLink RX6 20 "MixedKernelModel" "deadlines" "[I", .fieldLink RX6 23 "MixedKernelModel" "lows" "[I", .fieldLink RX6 16 "MixedKernelModel" "periods" "[I", .methodLink RX6 87 yX6_times, .static yX6_times, .code yX6_times cX6_times 2 (some .int), .methodLink RX6 102 yX6_bound, .instanceMethod yX6_bound, .selects RX6 yX6_bound yX6_bound, .code yX6_bound cX6_bound 7 (some .int)] ++ wsX60)
def wsX6_takeOut : List Cond := .code yX6_takeOut cX6_takeOut 4 none :: ([.fieldLink RX6 91 "MixedKernelModel" "planned" "I", .fieldLink RX6 29 "MixedKernelModel" "plan" "[I"] ++ wsX60)
def wsX6_noteWitness : List Cond := .code yX6_noteWitness cX6_noteWitness 3 none :: ([.fieldLink RX6 105 "MixedKernelModel" "witnesses" "I", .fieldLink RX6 91 "MixedKernelModel" "planned" "I", .fieldLink RX6 29 "MixedKernelModel" "plan" "[I", .fieldLink RX6 71 "MixedKernelModel" "who" "[I", .fieldLink RX6 74 "MixedKernelModel" "whoPeriods" "[I", .fieldLink RX6 16 "MixedKernelModel" "periods" "[I", .fieldLink RX6 20 "MixedKernelModel" "deadlines" "[I", .fieldLink RX6 108 "MixedKernelModel" "until" "I"] ++ wsX60)
def wsX6_add_r1 : List Cond := [Cond.fieldLink RX6 91 "MixedKernelModel" "planned" "I", Cond.fieldLink RX6 20 "MixedKernelModel" "deadlines" "[I", Cond.fieldLink RX6 29 "MixedKernelModel" "plan" "[I", Cond.fieldLink RX6 16 "MixedKernelModel" "periods" "[I", Cond.fieldLink RX6 23 "MixedKernelModel" "lows" "[I", Cond.fieldLink RX6 26 "MixedKernelModel" "highs" "[I", Cond.fieldLink RX6 7 "MixedKernelModel" "known" "[Z", Cond.fieldLink RX6 13 "MixedKernelModel" "leaving" "[Z", Cond.fieldLink RX6 38 "MixedKernelModel" "jobs" "[I", Cond.fieldLink RX6 41 "MixedKernelModel" "drops" "[I", Cond.fieldLink RX6 44 "MixedKernelModel" "charged" "[I", Cond.fieldLink RX6 47 "MixedKernelModel" "lates" "[I", Cond.fieldLink RX6 50 "MixedKernelModel" "nexts" "[I", Cond.methodLink RX6 111 yX6_within, Cond.static yX6_within, Cond.initialized RX6, Cond.code yX6_within cX6_within 3 (some .boolean), Cond.methodLink RX6 115 yX6_isKnown, Cond.instanceMethod yX6_isKnown, Cond.selects RX6 yX6_isKnown yX6_isKnown, Cond.code yX6_isKnown cX6_isKnown 2 (some .boolean), Cond.methodLink RX6 119 yX6_goes, Cond.instanceMethod yX6_goes, Cond.selects RX6 yX6_goes yX6_goes]
def wsX6_add_r2 : List Cond := [Cond.code yX6_goes cX6_goes 4 (some .boolean), Cond.fieldLink RX6 83 "MixedKernelModel" "thrown" "I", Cond.methodLink RX6 123 yX6_unfit, Cond.instanceMethod yX6_unfit, Cond.selects RX6 yX6_unfit yX6_unfit, Cond.code yX6_unfit cX6_unfit 2 (some .int), Cond.fieldLink RX6 35 "MixedKernelModel" "found" "[I", Cond.methodLink RX6 94 yX6_markAhead, Cond.instanceMethod yX6_markAhead, Cond.selects RX6 yX6_markAhead yX6_markAhead, Cond.code yX6_markAhead cX6_markAhead 3 none, Cond.fieldLink RX6 80 "MixedKernelModel" "placed" "[Z", Cond.methodLink RX6 98 yX6_lowResponse, Cond.instanceMethod yX6_lowResponse, Cond.selects RX6 yX6_lowResponse yX6_lowResponse, Cond.code yX6_lowResponse cX6_lowResponse 5 (some .int), Cond.methodLink RX6 87 yX6_times, Cond.static yX6_times, Cond.code yX6_times cX6_times 2 (some .int), Cond.methodLink RX6 102 yX6_bound, Cond.instanceMethod yX6_bound, Cond.selects RX6 yX6_bound yX6_bound, Cond.code yX6_bound cX6_bound 7 (some .int), Cond.methodLink RX6 127 yX6_noteWitness]
def wsX6_add_r3 : List Cond := [Cond.instanceMethod yX6_noteWitness, Cond.selects RX6 yX6_noteWitness yX6_noteWitness, Cond.code yX6_noteWitness cX6_noteWitness 3 none, Cond.fieldLink RX6 105 "MixedKernelModel" "witnesses" "I", Cond.fieldLink RX6 71 "MixedKernelModel" "who" "[I", Cond.fieldLink RX6 74 "MixedKernelModel" "whoPeriods" "[I", Cond.fieldLink RX6 108 "MixedKernelModel" "until" "I", Cond.methodLink RX6 130 yX6_takeOut, Cond.instanceMethod yX6_takeOut, Cond.selects RX6 yX6_takeOut yX6_takeOut, Cond.code yX6_takeOut cX6_takeOut 4 none]
def wsX6_add : List Cond := .code yX6_add cX6_add 9 (some .int) :: ((wsX6_add_r1 ++ (wsX6_add_r2 ++ wsX6_add_r3)) ++ wsX60)
def wsX6_at : List Cond := .code yX6_at cX6_at 2 (some .int) :: ([])
def wsX6_isPending : List Cond := .code yX6_isPending cX6_isPending 3 (some .boolean) :: ([.fieldLink RX6 38 "MixedKernelModel" "jobs" "[I", .fieldLink RX6 62 "MixedKernelModel" "ends" "[I", .methodLink RX6 133 yX6_at, .static yX6_at, .initialized RX6, .code yX6_at cX6_at 2 (some .int)] ++ wsX60)
def wsX6_pending : List Cond := .code yX6_pending cX6_pending 4 (some .int) :: ([.fieldLink RX6 38 "MixedKernelModel" "jobs" "[I", .methodLink RX6 136 yX6_isPending, .instanceMethod yX6_isPending, .selects RX6 yX6_isPending yX6_isPending, .initialized RX6, .code yX6_isPending cX6_isPending 3 (some .boolean), .fieldLink RX6 62 "MixedKernelModel" "ends" "[I", .methodLink RX6 133 yX6_at, .static yX6_at, .code yX6_at cX6_at 2 (some .int)] ++ wsX60)
def wsX6_leave : List Cond := .code yX6_leave cX6_leave 4 none :: ([.fieldLink RX6 7 "MixedKernelModel" "known" "[Z", .fieldLink RX6 13 "MixedKernelModel" "leaving" "[Z", .fieldLink RX6 143 "MixedKernelModel" "inForce" "I", .fieldLink RX6 32 "MixedKernelModel" "order" "[I", .methodLink RX6 140 yX6_pending, .instanceMethod yX6_pending, .selects RX6 yX6_pending yX6_pending, .initialized RX6, .code yX6_pending cX6_pending 4 (some .int), .fieldLink RX6 38 "MixedKernelModel" "jobs" "[I", .methodLink RX6 136 yX6_isPending, .instanceMethod yX6_isPending, .selects RX6 yX6_isPending yX6_isPending, .code yX6_isPending cX6_isPending 3 (some .boolean), .fieldLink RX6 62 "MixedKernelModel" "ends" "[I", .methodLink RX6 133 yX6_at, .static yX6_at, .code yX6_at cX6_at 2 (some .int), .methodLink RX6 130 yX6_takeOut, .instanceMethod yX6_takeOut, .selects RX6 yX6_takeOut yX6_takeOut, .code yX6_takeOut cX6_takeOut 4 none, .fieldLink RX6 91 "MixedKernelModel" "planned" "I", .fieldLink RX6 29 "MixedKernelModel" "plan" "[I"] ++ wsX60)
def wsX6_remove_r1 : List Cond := [Cond.fieldLink RX6 13 "MixedKernelModel" "leaving" "[Z", Cond.fieldLink RX6 7 "MixedKernelModel" "known" "[Z", Cond.methodLink RX6 115 yX6_isKnown, Cond.instanceMethod yX6_isKnown, Cond.selects RX6 yX6_isKnown yX6_isKnown, Cond.initialized RX6, Cond.code yX6_isKnown cX6_isKnown 2 (some .boolean), Cond.methodLink RX6 119 yX6_goes, Cond.instanceMethod yX6_goes, Cond.selects RX6 yX6_goes yX6_goes, Cond.code yX6_goes cX6_goes 4 (some .boolean), Cond.fieldLink RX6 83 "MixedKernelModel" "thrown" "I", Cond.methodLink RX6 146 yX6_leave, Cond.instanceMethod yX6_leave, Cond.selects RX6 yX6_leave yX6_leave, Cond.code yX6_leave cX6_leave 4 none, Cond.fieldLink RX6 143 "MixedKernelModel" "inForce" "I", Cond.fieldLink RX6 32 "MixedKernelModel" "order" "[I", Cond.methodLink RX6 140 yX6_pending, Cond.instanceMethod yX6_pending, Cond.selects RX6 yX6_pending yX6_pending, Cond.code yX6_pending cX6_pending 4 (some .int), Cond.fieldLink RX6 38 "MixedKernelModel" "jobs" "[I", Cond.methodLink RX6 136 yX6_isPending]
def wsX6_remove_r2 : List Cond := [Cond.instanceMethod yX6_isPending, Cond.selects RX6 yX6_isPending yX6_isPending, Cond.code yX6_isPending cX6_isPending 3 (some .boolean), Cond.fieldLink RX6 62 "MixedKernelModel" "ends" "[I", Cond.methodLink RX6 133 yX6_at, Cond.static yX6_at, Cond.code yX6_at cX6_at 2 (some .int), Cond.methodLink RX6 130 yX6_takeOut, Cond.instanceMethod yX6_takeOut, Cond.selects RX6 yX6_takeOut yX6_takeOut, Cond.code yX6_takeOut cX6_takeOut 4 none, Cond.fieldLink RX6 91 "MixedKernelModel" "planned" "I", Cond.fieldLink RX6 29 "MixedKernelModel" "plan" "[I"]
def wsX6_remove : List Cond := .code yX6_remove cX6_remove 2 (some .boolean) :: ((wsX6_remove_r1 ++ wsX6_remove_r2) ++ wsX60)
def wsX6_place : List Cond := .code yX6_place cX6_place 3 (some .int) :: ([.fieldLink RX6 143 "MixedKernelModel" "inForce" "I", .fieldLink RX6 32 "MixedKernelModel" "order" "[I"] ++ wsX60)
def wsX6_release_r1 : List Cond := [Cond.fieldLink RX6 26 "MixedKernelModel" "highs" "[I", Cond.fieldLink RX6 23 "MixedKernelModel" "lows" "[I", Cond.fieldLink RX6 13 "MixedKernelModel" "leaving" "[Z", Cond.fieldLink RX6 152 "MixedKernelModel" "time" "I", Cond.fieldLink RX6 50 "MixedKernelModel" "nexts" "[I", Cond.fieldLink RX6 155 "MixedKernelModel" "mode" "I", Cond.fieldLink RX6 41 "MixedKernelModel" "drops" "[I", Cond.fieldLink RX6 38 "MixedKernelModel" "jobs" "[I", Cond.fieldLink RX6 53 "MixedKernelModel" "releases" "[I", Cond.fieldLink RX6 56 "MixedKernelModel" "demands" "[I", Cond.fieldLink RX6 59 "MixedKernelModel" "charges" "[I", Cond.fieldLink RX6 62 "MixedKernelModel" "ends" "[I", Cond.fieldLink RX6 16 "MixedKernelModel" "periods" "[I", Cond.methodLink RX6 115 yX6_isKnown, Cond.instanceMethod yX6_isKnown, Cond.selects RX6 yX6_isKnown yX6_isKnown, Cond.initialized RX6, Cond.code yX6_isKnown cX6_isKnown 2 (some .boolean), Cond.fieldLink RX6 7 "MixedKernelModel" "known" "[Z", Cond.methodLink RX6 149 yX6_place, Cond.instanceMethod yX6_place, Cond.selects RX6 yX6_place yX6_place, Cond.code yX6_place cX6_place 3 (some .int), Cond.fieldLink RX6 143 "MixedKernelModel" "inForce" "I"]
def wsX6_release_r2 : List Cond := [Cond.fieldLink RX6 32 "MixedKernelModel" "order" "[I", Cond.methodLink RX6 111 yX6_within, Cond.static yX6_within, Cond.code yX6_within cX6_within 3 (some .boolean), Cond.methodLink RX6 140 yX6_pending, Cond.instanceMethod yX6_pending, Cond.selects RX6 yX6_pending yX6_pending, Cond.code yX6_pending cX6_pending 4 (some .int), Cond.methodLink RX6 136 yX6_isPending, Cond.instanceMethod yX6_isPending, Cond.selects RX6 yX6_isPending yX6_isPending, Cond.code yX6_isPending cX6_isPending 3 (some .boolean), Cond.methodLink RX6 133 yX6_at, Cond.static yX6_at, Cond.code yX6_at cX6_at 2 (some .int), Cond.methodLink RX6 119 yX6_goes, Cond.instanceMethod yX6_goes, Cond.selects RX6 yX6_goes yX6_goes, Cond.code yX6_goes cX6_goes 4 (some .boolean), Cond.fieldLink RX6 83 "MixedKernelModel" "thrown" "I"]
def wsX6_release : List Cond := .code yX6_release cX6_release 6 (some .int) :: ((wsX6_release_r1 ++ wsX6_release_r2) ++ wsX60)
def wsX6_giveUp_r1 : List Cond := [Cond.fieldLink RX6 38 "MixedKernelModel" "jobs" "[I", Cond.fieldLink RX6 7 "MixedKernelModel" "known" "[Z", Cond.fieldLink RX6 26 "MixedKernelModel" "highs" "[I", Cond.fieldLink RX6 62 "MixedKernelModel" "ends" "[I", Cond.fieldLink RX6 158 "MixedKernelModel" "givenUp" "I", Cond.methodLink RX6 136 yX6_isPending, Cond.instanceMethod yX6_isPending, Cond.selects RX6 yX6_isPending yX6_isPending, Cond.initialized RX6, Cond.code yX6_isPending cX6_isPending 3 (some .boolean), Cond.methodLink RX6 133 yX6_at, Cond.static yX6_at, Cond.code yX6_at cX6_at 2 (some .int), Cond.methodLink RX6 146 yX6_leave, Cond.instanceMethod yX6_leave, Cond.selects RX6 yX6_leave yX6_leave, Cond.code yX6_leave cX6_leave 4 none, Cond.fieldLink RX6 13 "MixedKernelModel" "leaving" "[Z", Cond.fieldLink RX6 143 "MixedKernelModel" "inForce" "I", Cond.fieldLink RX6 32 "MixedKernelModel" "order" "[I", Cond.methodLink RX6 140 yX6_pending, Cond.instanceMethod yX6_pending, Cond.selects RX6 yX6_pending yX6_pending, Cond.code yX6_pending cX6_pending 4 (some .int)]
def wsX6_giveUp_r2 : List Cond := [Cond.methodLink RX6 130 yX6_takeOut, Cond.instanceMethod yX6_takeOut, Cond.selects RX6 yX6_takeOut yX6_takeOut, Cond.code yX6_takeOut cX6_takeOut 4 none, Cond.fieldLink RX6 91 "MixedKernelModel" "planned" "I", Cond.fieldLink RX6 29 "MixedKernelModel" "plan" "[I"]
def wsX6_giveUp : List Cond := .code yX6_giveUp cX6_giveUp 3 none :: ((wsX6_giveUp_r1 ++ wsX6_giveUp_r2) ++ wsX60)
def wsX6_firstJob : List Cond := .code yX6_firstJob cX6_firstJob 3 (some .int) :: ([.fieldLink RX6 38 "MixedKernelModel" "jobs" "[I", .methodLink RX6 136 yX6_isPending, .instanceMethod yX6_isPending, .selects RX6 yX6_isPending yX6_isPending, .initialized RX6, .code yX6_isPending cX6_isPending 3 (some .boolean), .fieldLink RX6 62 "MixedKernelModel" "ends" "[I", .methodLink RX6 133 yX6_at, .static yX6_at, .code yX6_at cX6_at 2 (some .int)] ++ wsX60)
def wsX6_charge_r1 : List Cond := [Cond.fieldLink RX6 59 "MixedKernelModel" "charges" "[I", Cond.fieldLink RX6 44 "MixedKernelModel" "charged" "[I", Cond.fieldLink RX6 56 "MixedKernelModel" "demands" "[I", Cond.fieldLink RX6 62 "MixedKernelModel" "ends" "[I", Cond.fieldLink RX6 152 "MixedKernelModel" "time" "I", Cond.fieldLink RX6 47 "MixedKernelModel" "lates" "[I", Cond.fieldLink RX6 53 "MixedKernelModel" "releases" "[I", Cond.fieldLink RX6 20 "MixedKernelModel" "deadlines" "[I", Cond.fieldLink RX6 155 "MixedKernelModel" "mode" "I", Cond.fieldLink RX6 26 "MixedKernelModel" "highs" "[I", Cond.fieldLink RX6 23 "MixedKernelModel" "lows" "[I", Cond.fieldLink RX6 65 "MixedKernelModel" "changed" "[I", Cond.fieldLink RX6 164 "MixedKernelModel" "changes" "I", Cond.methodLink RX6 161 yX6_firstJob, Cond.instanceMethod yX6_firstJob, Cond.selects RX6 yX6_firstJob yX6_firstJob, Cond.initialized RX6, Cond.code yX6_firstJob cX6_firstJob 3 (some .int), Cond.fieldLink RX6 38 "MixedKernelModel" "jobs" "[I", Cond.methodLink RX6 136 yX6_isPending, Cond.instanceMethod yX6_isPending, Cond.selects RX6 yX6_isPending yX6_isPending, Cond.code yX6_isPending cX6_isPending 3 (some .boolean), Cond.methodLink RX6 133 yX6_at]
def wsX6_charge_r2 : List Cond := [Cond.static yX6_at, Cond.code yX6_at cX6_at 2 (some .int), Cond.methodLink RX6 146 yX6_leave, Cond.instanceMethod yX6_leave, Cond.selects RX6 yX6_leave yX6_leave, Cond.code yX6_leave cX6_leave 4 none, Cond.fieldLink RX6 7 "MixedKernelModel" "known" "[Z", Cond.fieldLink RX6 13 "MixedKernelModel" "leaving" "[Z", Cond.fieldLink RX6 143 "MixedKernelModel" "inForce" "I", Cond.fieldLink RX6 32 "MixedKernelModel" "order" "[I", Cond.methodLink RX6 140 yX6_pending, Cond.instanceMethod yX6_pending, Cond.selects RX6 yX6_pending yX6_pending, Cond.code yX6_pending cX6_pending 4 (some .int), Cond.methodLink RX6 130 yX6_takeOut, Cond.instanceMethod yX6_takeOut, Cond.selects RX6 yX6_takeOut yX6_takeOut, Cond.code yX6_takeOut cX6_takeOut 4 none, Cond.fieldLink RX6 91 "MixedKernelModel" "planned" "I", Cond.fieldLink RX6 29 "MixedKernelModel" "plan" "[I", Cond.methodLink RX6 167 yX6_giveUp, Cond.instanceMethod yX6_giveUp, Cond.selects RX6 yX6_giveUp yX6_giveUp, Cond.code yX6_giveUp cX6_giveUp 3 none]
def wsX6_charge_r3 : List Cond := [Cond.fieldLink RX6 158 "MixedKernelModel" "givenUp" "I"]
def wsX6_charge : List Cond := .code yX6_charge cX6_charge 3 none :: ((wsX6_charge_r1 ++ (wsX6_charge_r2 ++ wsX6_charge_r3)) ++ wsX60)
def wsX6_oneTick_r1 : List Cond := [Cond.fieldLink RX6 143 "MixedKernelModel" "inForce" "I", Cond.fieldLink RX6 32 "MixedKernelModel" "order" "[I", Cond.fieldLink RX6 68 "MixedKernelModel" "trace" "[I", Cond.fieldLink RX6 152 "MixedKernelModel" "time" "I", Cond.fieldLink RX6 173 "MixedKernelModel" "idles" "I", Cond.fieldLink RX6 176 "MixedKernelModel" "latestIdle" "I", Cond.fieldLink RX6 155 "MixedKernelModel" "mode" "I", Cond.fieldLink RX6 91 "MixedKernelModel" "planned" "I", Cond.fieldLink RX6 29 "MixedKernelModel" "plan" "[I", Cond.methodLink RX6 140 yX6_pending, Cond.instanceMethod yX6_pending, Cond.selects RX6 yX6_pending yX6_pending, Cond.initialized RX6, Cond.code yX6_pending cX6_pending 4 (some .int), Cond.fieldLink RX6 38 "MixedKernelModel" "jobs" "[I", Cond.methodLink RX6 136 yX6_isPending, Cond.instanceMethod yX6_isPending, Cond.selects RX6 yX6_isPending yX6_isPending, Cond.code yX6_isPending cX6_isPending 3 (some .boolean), Cond.fieldLink RX6 62 "MixedKernelModel" "ends" "[I", Cond.methodLink RX6 133 yX6_at, Cond.static yX6_at, Cond.code yX6_at cX6_at 2 (some .int), Cond.methodLink RX6 170 yX6_charge]
def wsX6_oneTick_r2 : List Cond := [Cond.instanceMethod yX6_charge, Cond.selects RX6 yX6_charge yX6_charge, Cond.code yX6_charge cX6_charge 3 none, Cond.fieldLink RX6 59 "MixedKernelModel" "charges" "[I", Cond.fieldLink RX6 44 "MixedKernelModel" "charged" "[I", Cond.fieldLink RX6 56 "MixedKernelModel" "demands" "[I", Cond.fieldLink RX6 47 "MixedKernelModel" "lates" "[I", Cond.fieldLink RX6 53 "MixedKernelModel" "releases" "[I", Cond.fieldLink RX6 20 "MixedKernelModel" "deadlines" "[I", Cond.fieldLink RX6 26 "MixedKernelModel" "highs" "[I", Cond.fieldLink RX6 23 "MixedKernelModel" "lows" "[I", Cond.fieldLink RX6 65 "MixedKernelModel" "changed" "[I", Cond.fieldLink RX6 164 "MixedKernelModel" "changes" "I", Cond.methodLink RX6 161 yX6_firstJob, Cond.instanceMethod yX6_firstJob, Cond.selects RX6 yX6_firstJob yX6_firstJob, Cond.code yX6_firstJob cX6_firstJob 3 (some .int), Cond.methodLink RX6 146 yX6_leave, Cond.instanceMethod yX6_leave, Cond.selects RX6 yX6_leave yX6_leave, Cond.code yX6_leave cX6_leave 4 none, Cond.fieldLink RX6 7 "MixedKernelModel" "known" "[Z", Cond.fieldLink RX6 13 "MixedKernelModel" "leaving" "[Z", Cond.methodLink RX6 130 yX6_takeOut]
def wsX6_oneTick_r3 : List Cond := [Cond.instanceMethod yX6_takeOut, Cond.selects RX6 yX6_takeOut yX6_takeOut, Cond.code yX6_takeOut cX6_takeOut 4 none, Cond.methodLink RX6 167 yX6_giveUp, Cond.instanceMethod yX6_giveUp, Cond.selects RX6 yX6_giveUp yX6_giveUp, Cond.code yX6_giveUp cX6_giveUp 3 none, Cond.fieldLink RX6 158 "MixedKernelModel" "givenUp" "I"]
def wsX6_oneTick : List Cond := .code yX6_oneTick cX6_oneTick 3 (some .int) :: ((wsX6_oneTick_r1 ++ (wsX6_oneTick_r2 ++ wsX6_oneTick_r3)) ++ wsX60)
def wsX6_tick_r1 : List Cond := [Cond.fieldLink RX6 83 "MixedKernelModel" "thrown" "I", Cond.methodLink RX6 179 yX6_oneTick, Cond.instanceMethod yX6_oneTick, Cond.selects RX6 yX6_oneTick yX6_oneTick, Cond.initialized RX6, Cond.code yX6_oneTick cX6_oneTick 3 (some .int), Cond.fieldLink RX6 143 "MixedKernelModel" "inForce" "I", Cond.fieldLink RX6 32 "MixedKernelModel" "order" "[I", Cond.fieldLink RX6 68 "MixedKernelModel" "trace" "[I", Cond.fieldLink RX6 152 "MixedKernelModel" "time" "I", Cond.fieldLink RX6 173 "MixedKernelModel" "idles" "I", Cond.fieldLink RX6 176 "MixedKernelModel" "latestIdle" "I", Cond.fieldLink RX6 155 "MixedKernelModel" "mode" "I", Cond.fieldLink RX6 91 "MixedKernelModel" "planned" "I", Cond.fieldLink RX6 29 "MixedKernelModel" "plan" "[I", Cond.methodLink RX6 140 yX6_pending, Cond.instanceMethod yX6_pending, Cond.selects RX6 yX6_pending yX6_pending, Cond.code yX6_pending cX6_pending 4 (some .int), Cond.fieldLink RX6 38 "MixedKernelModel" "jobs" "[I", Cond.methodLink RX6 136 yX6_isPending, Cond.instanceMethod yX6_isPending, Cond.selects RX6 yX6_isPending yX6_isPending, Cond.code yX6_isPending cX6_isPending 3 (some .boolean)]
def wsX6_tick_r2 : List Cond := [Cond.fieldLink RX6 62 "MixedKernelModel" "ends" "[I", Cond.methodLink RX6 133 yX6_at, Cond.static yX6_at, Cond.code yX6_at cX6_at 2 (some .int), Cond.methodLink RX6 170 yX6_charge, Cond.instanceMethod yX6_charge, Cond.selects RX6 yX6_charge yX6_charge, Cond.code yX6_charge cX6_charge 3 none, Cond.fieldLink RX6 59 "MixedKernelModel" "charges" "[I", Cond.fieldLink RX6 44 "MixedKernelModel" "charged" "[I", Cond.fieldLink RX6 56 "MixedKernelModel" "demands" "[I", Cond.fieldLink RX6 47 "MixedKernelModel" "lates" "[I", Cond.fieldLink RX6 53 "MixedKernelModel" "releases" "[I", Cond.fieldLink RX6 20 "MixedKernelModel" "deadlines" "[I", Cond.fieldLink RX6 26 "MixedKernelModel" "highs" "[I", Cond.fieldLink RX6 23 "MixedKernelModel" "lows" "[I", Cond.fieldLink RX6 65 "MixedKernelModel" "changed" "[I", Cond.fieldLink RX6 164 "MixedKernelModel" "changes" "I", Cond.methodLink RX6 161 yX6_firstJob, Cond.instanceMethod yX6_firstJob, Cond.selects RX6 yX6_firstJob yX6_firstJob, Cond.code yX6_firstJob cX6_firstJob 3 (some .int), Cond.methodLink RX6 146 yX6_leave, Cond.instanceMethod yX6_leave]
def wsX6_tick_r3 : List Cond := [Cond.selects RX6 yX6_leave yX6_leave, Cond.code yX6_leave cX6_leave 4 none, Cond.fieldLink RX6 7 "MixedKernelModel" "known" "[Z", Cond.fieldLink RX6 13 "MixedKernelModel" "leaving" "[Z", Cond.methodLink RX6 130 yX6_takeOut, Cond.instanceMethod yX6_takeOut, Cond.selects RX6 yX6_takeOut yX6_takeOut, Cond.code yX6_takeOut cX6_takeOut 4 none, Cond.methodLink RX6 167 yX6_giveUp, Cond.instanceMethod yX6_giveUp, Cond.selects RX6 yX6_giveUp yX6_giveUp, Cond.code yX6_giveUp cX6_giveUp 3 none, Cond.fieldLink RX6 158 "MixedKernelModel" "givenUp" "I"]
def wsX6_tick : List Cond := .code yX6_tick cX6_tick 1 (some .int) :: ((wsX6_tick_r1 ++ (wsX6_tick_r2 ++ wsX6_tick_r3)) ++ wsX60)
def wsX6_run_r1 : List Cond := [Cond.methodLink RX6 111 yX6_within, Cond.static yX6_within, Cond.initialized RX6, Cond.code yX6_within cX6_within 3 (some .boolean), Cond.methodLink RX6 119 yX6_goes, Cond.instanceMethod yX6_goes, Cond.selects RX6 yX6_goes yX6_goes, Cond.code yX6_goes cX6_goes 4 (some .boolean), Cond.fieldLink RX6 83 "MixedKernelModel" "thrown" "I", Cond.methodLink RX6 179 yX6_oneTick, Cond.instanceMethod yX6_oneTick, Cond.selects RX6 yX6_oneTick yX6_oneTick, Cond.code yX6_oneTick cX6_oneTick 3 (some .int), Cond.fieldLink RX6 143 "MixedKernelModel" "inForce" "I", Cond.fieldLink RX6 32 "MixedKernelModel" "order" "[I", Cond.fieldLink RX6 68 "MixedKernelModel" "trace" "[I", Cond.fieldLink RX6 152 "MixedKernelModel" "time" "I", Cond.fieldLink RX6 173 "MixedKernelModel" "idles" "I", Cond.fieldLink RX6 176 "MixedKernelModel" "latestIdle" "I", Cond.fieldLink RX6 155 "MixedKernelModel" "mode" "I", Cond.fieldLink RX6 91 "MixedKernelModel" "planned" "I", Cond.fieldLink RX6 29 "MixedKernelModel" "plan" "[I", Cond.methodLink RX6 140 yX6_pending, Cond.instanceMethod yX6_pending]
def wsX6_run_r2 : List Cond := [Cond.selects RX6 yX6_pending yX6_pending, Cond.code yX6_pending cX6_pending 4 (some .int), Cond.fieldLink RX6 38 "MixedKernelModel" "jobs" "[I", Cond.methodLink RX6 136 yX6_isPending, Cond.instanceMethod yX6_isPending, Cond.selects RX6 yX6_isPending yX6_isPending, Cond.code yX6_isPending cX6_isPending 3 (some .boolean), Cond.fieldLink RX6 62 "MixedKernelModel" "ends" "[I", Cond.methodLink RX6 133 yX6_at, Cond.static yX6_at, Cond.code yX6_at cX6_at 2 (some .int), Cond.methodLink RX6 170 yX6_charge, Cond.instanceMethod yX6_charge, Cond.selects RX6 yX6_charge yX6_charge, Cond.code yX6_charge cX6_charge 3 none, Cond.fieldLink RX6 59 "MixedKernelModel" "charges" "[I", Cond.fieldLink RX6 44 "MixedKernelModel" "charged" "[I", Cond.fieldLink RX6 56 "MixedKernelModel" "demands" "[I", Cond.fieldLink RX6 47 "MixedKernelModel" "lates" "[I", Cond.fieldLink RX6 53 "MixedKernelModel" "releases" "[I", Cond.fieldLink RX6 20 "MixedKernelModel" "deadlines" "[I", Cond.fieldLink RX6 26 "MixedKernelModel" "highs" "[I", Cond.fieldLink RX6 23 "MixedKernelModel" "lows" "[I", Cond.fieldLink RX6 65 "MixedKernelModel" "changed" "[I"]
def wsX6_run_r3 : List Cond := [Cond.fieldLink RX6 164 "MixedKernelModel" "changes" "I", Cond.methodLink RX6 161 yX6_firstJob, Cond.instanceMethod yX6_firstJob, Cond.selects RX6 yX6_firstJob yX6_firstJob, Cond.code yX6_firstJob cX6_firstJob 3 (some .int), Cond.methodLink RX6 146 yX6_leave, Cond.instanceMethod yX6_leave, Cond.selects RX6 yX6_leave yX6_leave, Cond.code yX6_leave cX6_leave 4 none, Cond.fieldLink RX6 7 "MixedKernelModel" "known" "[Z", Cond.fieldLink RX6 13 "MixedKernelModel" "leaving" "[Z", Cond.methodLink RX6 130 yX6_takeOut, Cond.instanceMethod yX6_takeOut, Cond.selects RX6 yX6_takeOut yX6_takeOut, Cond.code yX6_takeOut cX6_takeOut 4 none, Cond.methodLink RX6 167 yX6_giveUp, Cond.instanceMethod yX6_giveUp, Cond.selects RX6 yX6_giveUp yX6_giveUp, Cond.code yX6_giveUp cX6_giveUp 3 none, Cond.fieldLink RX6 158 "MixedKernelModel" "givenUp" "I"]
def wsX6_run : List Cond := .code yX6_run cX6_run 4 (some .int) :: ((wsX6_run_r1 ++ (wsX6_run_r2 ++ wsX6_run_r3)) ++ wsX60)
def wsX6_passes : List Cond := .code yX6_passes cX6_passes 3 (some .boolean) :: ([.fieldLink RX6 26 "MixedKernelModel" "highs" "[I", .methodLink RX6 98 yX6_lowResponse, .instanceMethod yX6_lowResponse, .selects RX6 yX6_lowResponse yX6_lowResponse, .initialized RX6, .code yX6_lowResponse cX6_lowResponse 5 (some .int), .fieldLink RX6 20 "MixedKernelModel" "deadlines" "[I", .fieldLink RX6 23 "MixedKernelModel" "lows" "[I", .fieldLink RX6 80 "MixedKernelModel" "placed" "[Z", .fieldLink RX6 16 "MixedKernelModel" "periods" "[I", .methodLink RX6 87 yX6_times, .static yX6_times, .code yX6_times cX6_times 2 (some .int), .methodLink RX6 102 yX6_bound, .instanceMethod yX6_bound, .selects RX6 yX6_bound yX6_bound, .code yX6_bound cX6_bound 7 (some .int)] ++ wsX60)
def wsX6_assign_r1 : List Cond := [Cond.fieldLink RX6 83 "MixedKernelModel" "thrown" "I", Cond.fieldLink RX6 80 "MixedKernelModel" "placed" "[Z", Cond.fieldLink RX6 7 "MixedKernelModel" "known" "[Z", Cond.fieldLink RX6 91 "MixedKernelModel" "planned" "I", Cond.fieldLink RX6 29 "MixedKernelModel" "plan" "[I", Cond.fieldLink RX6 77 "MixedKernelModel" "trial" "[I", Cond.methodLink RX6 182 yX6_passes, Cond.instanceMethod yX6_passes, Cond.selects RX6 yX6_passes yX6_passes, Cond.initialized RX6, Cond.code yX6_passes cX6_passes 3 (some .boolean), Cond.fieldLink RX6 26 "MixedKernelModel" "highs" "[I", Cond.methodLink RX6 98 yX6_lowResponse, Cond.instanceMethod yX6_lowResponse, Cond.selects RX6 yX6_lowResponse yX6_lowResponse, Cond.code yX6_lowResponse cX6_lowResponse 5 (some .int), Cond.fieldLink RX6 20 "MixedKernelModel" "deadlines" "[I", Cond.fieldLink RX6 23 "MixedKernelModel" "lows" "[I", Cond.fieldLink RX6 16 "MixedKernelModel" "periods" "[I", Cond.methodLink RX6 87 yX6_times, Cond.static yX6_times, Cond.code yX6_times cX6_times 2 (some .int), Cond.methodLink RX6 102 yX6_bound, Cond.instanceMethod yX6_bound]
def wsX6_assign_r2 : List Cond := [Cond.selects RX6 yX6_bound yX6_bound, Cond.code yX6_bound cX6_bound 7 (some .int)]
def wsX6_assign : List Cond := .code yX6_assign cX6_assign 4 (some .boolean) :: ((wsX6_assign_r1 ++ wsX6_assign_r2) ++ wsX60)
def wsX6_planPlace : List Cond := .code yX6_planPlace cX6_planPlace 3 (some .int) :: ([.fieldLink RX6 29 "MixedKernelModel" "plan" "[I"] ++ wsX60)
def wsX6_response_r1 : List Cond := [Cond.fieldLink RX6 26 "MixedKernelModel" "highs" "[I", Cond.methodLink RX6 115 yX6_isKnown, Cond.instanceMethod yX6_isKnown, Cond.selects RX6 yX6_isKnown yX6_isKnown, Cond.initialized RX6, Cond.code yX6_isKnown cX6_isKnown 2 (some .boolean), Cond.fieldLink RX6 7 "MixedKernelModel" "known" "[Z", Cond.methodLink RX6 111 yX6_within, Cond.static yX6_within, Cond.code yX6_within cX6_within 3 (some .boolean), Cond.methodLink RX6 119 yX6_goes, Cond.instanceMethod yX6_goes, Cond.selects RX6 yX6_goes yX6_goes, Cond.code yX6_goes cX6_goes 4 (some .boolean), Cond.fieldLink RX6 83 "MixedKernelModel" "thrown" "I", Cond.methodLink RX6 185 yX6_planPlace, Cond.instanceMethod yX6_planPlace, Cond.selects RX6 yX6_planPlace yX6_planPlace, Cond.code yX6_planPlace cX6_planPlace 3 (some .int), Cond.fieldLink RX6 29 "MixedKernelModel" "plan" "[I", Cond.methodLink RX6 94 yX6_markAhead, Cond.instanceMethod yX6_markAhead, Cond.selects RX6 yX6_markAhead yX6_markAhead, Cond.code yX6_markAhead cX6_markAhead 3 none]
def wsX6_response_r2 : List Cond := [Cond.fieldLink RX6 80 "MixedKernelModel" "placed" "[Z", Cond.methodLink RX6 98 yX6_lowResponse, Cond.instanceMethod yX6_lowResponse, Cond.selects RX6 yX6_lowResponse yX6_lowResponse, Cond.code yX6_lowResponse cX6_lowResponse 5 (some .int), Cond.fieldLink RX6 20 "MixedKernelModel" "deadlines" "[I", Cond.fieldLink RX6 23 "MixedKernelModel" "lows" "[I", Cond.fieldLink RX6 16 "MixedKernelModel" "periods" "[I", Cond.methodLink RX6 87 yX6_times, Cond.static yX6_times, Cond.code yX6_times cX6_times 2 (some .int), Cond.methodLink RX6 102 yX6_bound, Cond.instanceMethod yX6_bound, Cond.selects RX6 yX6_bound yX6_bound, Cond.code yX6_bound cX6_bound 7 (some .int)]
def wsX6_response : List Cond := .code yX6_response cX6_response 4 (some .int) :: ((wsX6_response_r1 ++ wsX6_response_r2) ++ wsX60)
def wsX6_ended : List Cond := .code yX6_ended cX6_ended 4 (some .int) :: ([.fieldLink RX6 38 "MixedKernelModel" "jobs" "[I", .fieldLink RX6 62 "MixedKernelModel" "ends" "[I", .methodLink RX6 115 yX6_isKnown, .instanceMethod yX6_isKnown, .selects RX6 yX6_isKnown yX6_isKnown, .initialized RX6, .code yX6_isKnown cX6_isKnown 2 (some .boolean), .fieldLink RX6 7 "MixedKernelModel" "known" "[Z", .methodLink RX6 119 yX6_goes, .instanceMethod yX6_goes, .selects RX6 yX6_goes yX6_goes, .code yX6_goes cX6_goes 4 (some .boolean), .fieldLink RX6 83 "MixedKernelModel" "thrown" "I", .methodLink RX6 133 yX6_at, .static yX6_at, .code yX6_at cX6_at 2 (some .int)] ++ wsX60)
def wsX6_late : List Cond := .code yX6_late cX6_late 4 (some .int) :: ([.fieldLink RX6 47 "MixedKernelModel" "lates" "[I", .fieldLink RX6 38 "MixedKernelModel" "jobs" "[I", .fieldLink RX6 152 "MixedKernelModel" "time" "I", .fieldLink RX6 53 "MixedKernelModel" "releases" "[I", .fieldLink RX6 20 "MixedKernelModel" "deadlines" "[I", .methodLink RX6 136 yX6_isPending, .instanceMethod yX6_isPending, .selects RX6 yX6_isPending yX6_isPending, .initialized RX6, .code yX6_isPending cX6_isPending 3 (some .boolean), .fieldLink RX6 62 "MixedKernelModel" "ends" "[I", .methodLink RX6 133 yX6_at, .static yX6_at, .code yX6_at cX6_at 2 (some .int)] ++ wsX60)
def wsX6_about_r1 : List Cond := [Cond.fieldLink RX6 38 "MixedKernelModel" "jobs" "[I", Cond.fieldLink RX6 41 "MixedKernelModel" "drops" "[I", Cond.fieldLink RX6 44 "MixedKernelModel" "charged" "[I", Cond.fieldLink RX6 50 "MixedKernelModel" "nexts" "[I", Cond.fieldLink RX6 13 "MixedKernelModel" "leaving" "[Z", Cond.methodLink RX6 115 yX6_isKnown, Cond.instanceMethod yX6_isKnown, Cond.selects RX6 yX6_isKnown yX6_isKnown, Cond.initialized RX6, Cond.code yX6_isKnown cX6_isKnown 2 (some .boolean), Cond.fieldLink RX6 7 "MixedKernelModel" "known" "[Z", Cond.methodLink RX6 111 yX6_within, Cond.static yX6_within, Cond.code yX6_within cX6_within 3 (some .boolean), Cond.methodLink RX6 119 yX6_goes, Cond.instanceMethod yX6_goes, Cond.selects RX6 yX6_goes yX6_goes, Cond.code yX6_goes cX6_goes 4 (some .boolean), Cond.fieldLink RX6 83 "MixedKernelModel" "thrown" "I", Cond.methodLink RX6 149 yX6_place, Cond.instanceMethod yX6_place, Cond.selects RX6 yX6_place yX6_place, Cond.code yX6_place cX6_place 3 (some .int), Cond.fieldLink RX6 143 "MixedKernelModel" "inForce" "I"]
def wsX6_about_r2 : List Cond := [Cond.fieldLink RX6 32 "MixedKernelModel" "order" "[I", Cond.methodLink RX6 185 yX6_planPlace, Cond.instanceMethod yX6_planPlace, Cond.selects RX6 yX6_planPlace yX6_planPlace, Cond.code yX6_planPlace cX6_planPlace 3 (some .int), Cond.fieldLink RX6 29 "MixedKernelModel" "plan" "[I", Cond.methodLink RX6 140 yX6_pending, Cond.instanceMethod yX6_pending, Cond.selects RX6 yX6_pending yX6_pending, Cond.code yX6_pending cX6_pending 4 (some .int), Cond.methodLink RX6 136 yX6_isPending, Cond.instanceMethod yX6_isPending, Cond.selects RX6 yX6_isPending yX6_isPending, Cond.code yX6_isPending cX6_isPending 3 (some .boolean), Cond.fieldLink RX6 62 "MixedKernelModel" "ends" "[I", Cond.methodLink RX6 133 yX6_at, Cond.static yX6_at, Cond.code yX6_at cX6_at 2 (some .int), Cond.methodLink RX6 188 yX6_late, Cond.instanceMethod yX6_late, Cond.selects RX6 yX6_late yX6_late, Cond.code yX6_late cX6_late 4 (some .int), Cond.fieldLink RX6 47 "MixedKernelModel" "lates" "[I", Cond.fieldLink RX6 152 "MixedKernelModel" "time" "I"]
def wsX6_about_r3 : List Cond := [Cond.fieldLink RX6 53 "MixedKernelModel" "releases" "[I", Cond.fieldLink RX6 20 "MixedKernelModel" "deadlines" "[I"]
def wsX6_about : List Cond := .code yX6_about cX6_about 3 (some .int) :: ((wsX6_about_r1 ++ (wsX6_about_r2 ++ wsX6_about_r3)) ++ wsX60)
def wsX6_witness : List Cond := .code yX6_witness cX6_witness 8 (some .int) :: ([.fieldLink RX6 108 "MixedKernelModel" "until" "I", .fieldLink RX6 105 "MixedKernelModel" "witnesses" "I", .fieldLink RX6 74 "MixedKernelModel" "whoPeriods" "[I", .fieldLink RX6 71 "MixedKernelModel" "who" "[I", .methodLink RX6 111 yX6_within, .static yX6_within, .initialized RX6, .code yX6_within cX6_within 3 (some .boolean), .methodLink RX6 119 yX6_goes, .instanceMethod yX6_goes, .selects RX6 yX6_goes yX6_goes, .code yX6_goes cX6_goes 4 (some .boolean), .fieldLink RX6 83 "MixedKernelModel" "thrown" "I"] ++ wsX60)
def wsX6_trace : List Cond := .code yX6_trace cX6_trace 2 (some .int) :: ([.fieldLink RX6 152 "MixedKernelModel" "time" "I", .fieldLink RX6 68 "MixedKernelModel" "trace" "[I", .methodLink RX6 119 yX6_goes, .instanceMethod yX6_goes, .selects RX6 yX6_goes yX6_goes, .initialized RX6, .code yX6_goes cX6_goes 4 (some .boolean), .fieldLink RX6 83 "MixedKernelModel" "thrown" "I"] ++ wsX60)
def wsX6_changed : List Cond := .code yX6_changed cX6_changed 2 (some .int) :: ([.fieldLink RX6 164 "MixedKernelModel" "changes" "I", .fieldLink RX6 65 "MixedKernelModel" "changed" "[I", .methodLink RX6 119 yX6_goes, .instanceMethod yX6_goes, .selects RX6 yX6_goes yX6_goes, .initialized RX6, .code yX6_goes cX6_goes 4 (some .boolean), .fieldLink RX6 83 "MixedKernelModel" "thrown" "I"] ++ wsX60)
def wsX6_sum : List Cond := .code yX6_sum cX6_sum 4 (some .int) :: ([.fieldLink RX6 7 "MixedKernelModel" "known" "[Z", .methodLink RX6 140 yX6_pending, .instanceMethod yX6_pending, .selects RX6 yX6_pending yX6_pending, .initialized RX6, .code yX6_pending cX6_pending 4 (some .int), .fieldLink RX6 38 "MixedKernelModel" "jobs" "[I", .methodLink RX6 136 yX6_isPending, .instanceMethod yX6_isPending, .selects RX6 yX6_isPending yX6_isPending, .code yX6_isPending cX6_isPending 3 (some .boolean), .fieldLink RX6 62 "MixedKernelModel" "ends" "[I", .methodLink RX6 133 yX6_at, .static yX6_at, .code yX6_at cX6_at 2 (some .int)] ++ wsX60)
def wsX6_count_r1 : List Cond := [Cond.fieldLink RX6 152 "MixedKernelModel" "time" "I", Cond.fieldLink RX6 173 "MixedKernelModel" "idles" "I", Cond.fieldLink RX6 155 "MixedKernelModel" "mode" "I", Cond.fieldLink RX6 164 "MixedKernelModel" "changes" "I", Cond.fieldLink RX6 143 "MixedKernelModel" "inForce" "I", Cond.fieldLink RX6 158 "MixedKernelModel" "givenUp" "I", Cond.fieldLink RX6 176 "MixedKernelModel" "latestIdle" "I", Cond.methodLink RX6 111 yX6_within, Cond.static yX6_within, Cond.initialized RX6, Cond.code yX6_within cX6_within 3 (some .boolean), Cond.methodLink RX6 119 yX6_goes, Cond.instanceMethod yX6_goes, Cond.selects RX6 yX6_goes yX6_goes, Cond.code yX6_goes cX6_goes 4 (some .boolean), Cond.fieldLink RX6 83 "MixedKernelModel" "thrown" "I", Cond.methodLink RX6 191 yX6_sum, Cond.instanceMethod yX6_sum, Cond.selects RX6 yX6_sum yX6_sum, Cond.code yX6_sum cX6_sum 4 (some .int), Cond.fieldLink RX6 7 "MixedKernelModel" "known" "[Z", Cond.methodLink RX6 140 yX6_pending, Cond.instanceMethod yX6_pending, Cond.selects RX6 yX6_pending yX6_pending]
def wsX6_count_r2 : List Cond := [Cond.code yX6_pending cX6_pending 4 (some .int), Cond.fieldLink RX6 38 "MixedKernelModel" "jobs" "[I", Cond.methodLink RX6 136 yX6_isPending, Cond.instanceMethod yX6_isPending, Cond.selects RX6 yX6_isPending yX6_isPending, Cond.code yX6_isPending cX6_isPending 3 (some .boolean), Cond.fieldLink RX6 62 "MixedKernelModel" "ends" "[I", Cond.methodLink RX6 133 yX6_at, Cond.static yX6_at, Cond.code yX6_at cX6_at 2 (some .int)]
def wsX6_count : List Cond := .code yX6_count cX6_count 2 (some .int) :: ((wsX6_count_r1 ++ wsX6_count_r2) ++ wsX60)
def wsL_add_r1 : List Cond := [Cond.classLink RL 13 "java/lang/IllegalArgumentException", Cond.classLink RL 15 "java/lang/IllegalStateException", Cond.methodLink RL 7 yX5_add, Cond.instanceMethod yX5_add, Cond.selects RX5 yX5_add yX5_add, Cond.initialized RX5, Cond.code yX5_add cX5_add 6 (some .int), Cond.classLink RX5 66 "java/lang/IllegalArgumentException", Cond.initialized "java/lang/IllegalArgumentException", Cond.classLink RX5 72 "java/lang/IllegalStateException", Cond.initialized "java/lang/IllegalStateException", Cond.fieldLink RX5 20 "MixedKernel" "tasks" "[LMixedKernel$Task;", Cond.fieldLink RX5 33 "MixedKernel" "trial" "LMixedKernel$Line;", Cond.fieldLink RX5 26 "MixedKernel" "plan" "LMixedKernel$Line;", Cond.methodLink RX5 55 yX5_isTask, Cond.static yX5_isTask, Cond.code yX5_isTask cX5_isTask 1 (some .boolean), Cond.methodLink RX5 59 yX5_areTimes, Cond.static yX5_areTimes, Cond.code yX5_areTimes cX5_areTimes 2 (some .boolean), Cond.methodLink RX5 63 yX5_areBudgets, Cond.static yX5_areBudgets, Cond.code yX5_areBudgets cX5_areBudgets 2 (some .boolean), Cond.methodLink RX5 69 yX5_isKnown]
def wsL_add_r2 : List Cond := [Cond.instanceMethod yX5_isKnown, Cond.selects RX5 yX5_isKnown yX5_isKnown, Cond.code yX5_isKnown cX5_isKnown 2 (some .boolean), Cond.methodLink RX5 150 yX1_placeOf, Cond.instanceMethod yX1_placeOf, Cond.selects RX1 yX1_placeOf yX1_placeOf, Cond.initialized RX1, Cond.code yX1_placeOf cX1_placeOf 3 (some .int), Cond.fieldLink RX1 15 "MixedKernel$Line" "size" "I", Cond.fieldLink RX1 9 "MixedKernel$Line" "ids" "[I", Cond.methodLink RX5 75 yX3_begin, Cond.instanceMethod yX3_begin, Cond.selects RX3 yX3_begin yX3_begin, Cond.initialized RX3, Cond.code yX3_begin cX3_begin 5 none, Cond.fieldLink RX3 9 "MixedKernel$Task" "period" "I", Cond.fieldLink RX3 15 "MixedKernel$Task" "deadline" "I", Cond.fieldLink RX3 18 "MixedKernel$Task" "low" "I", Cond.fieldLink RX3 31 "MixedKernel$Task" "high" "I", Cond.fieldLink RX3 34 "MixedKernel$Task" "leaving" "Z", Cond.fieldLink RX3 38 "MixedKernel$Task" "jobs" "I", Cond.fieldLink RX3 41 "MixedKernel$Task" "dropped" "I", Cond.fieldLink RX3 44 "MixedKernel$Task" "ticks" "I", Cond.fieldLink RX3 47 "MixedKernel$Task" "endedLate" "I"]
def wsL_add_r3 : List Cond := [Cond.fieldLink RX3 50 "MixedKernel$Task" "pending" "I", Cond.fieldLink RX3 53 "MixedKernel$Task" "charged" "I", Cond.methodLink RX5 81 yX1_become, Cond.instanceMethod yX1_become, Cond.selects RX1 yX1_become yX1_become, Cond.code yX1_become cX1_become 2 none, Cond.methodLink RX1 19 arraycopyName, Cond.native arraycopyName, Cond.static arraycopyName, Cond.initialized "java/lang/System", Cond.methodLink RX5 85 yX5_placeFor, Cond.instanceMethod yX5_placeFor, Cond.selects RX5 yX5_placeFor yX5_placeFor, Cond.code yX5_placeFor cX5_placeFor 3 (some .int), Cond.methodLink RX5 89 yX1_insert, Cond.instanceMethod yX1_insert, Cond.selects RX1 yX1_insert yX1_insert, Cond.code yX1_insert cX1_insert 4 none, Cond.methodLink RX5 93 yX5_admitTrial, Cond.instanceMethod yX5_admitTrial, Cond.selects RX5 yX5_admitTrial yX5_admitTrial, Cond.code yX5_admitTrial cX5_admitTrial 3 (some .int), Cond.fieldLink RX5 12 "MixedKernel" "set" "LMixedKernel$TaskSet;", Cond.fieldLink RX5 39 "MixedKernel" "refusal" "LMixedKernel$Refusal;"]
def wsL_add_r4 : List Cond := [Cond.methodLink RX5 218 yX4_firstLowResponseThatFails, Cond.instanceMethod yX4_firstLowResponseThatFails, Cond.selects RX4 yX4_firstLowResponseThatFails yX4_firstLowResponseThatFails, Cond.initialized RX4, Cond.code yX4_firstLowResponseThatFails cX4_firstLowResponseThatFails 3 (some .int), Cond.fieldLink RX4 11 "MixedKernel$TaskSet" "all" "[LMixedKernel$Task;", Cond.methodLink RX4 45 yX4_lowResponse, Cond.instanceMethod yX4_lowResponse, Cond.selects RX4 yX4_lowResponse yX4_lowResponse, Cond.code yX4_lowResponse cX4_lowResponse 4 (some .int), Cond.methodLink RX4 28 yX4_leastSpan, Cond.instanceMethod yX4_leastSpan, Cond.selects RX4 yX4_leastSpan yX4_leastSpan, Cond.code yX4_leastSpan cX4_leastSpan 10 (some .int), Cond.methodLink RX4 39 yX4_workAhead, Cond.instanceMethod yX4_workAhead, Cond.selects RX4 yX4_workAhead yX4_workAhead, Cond.code yX4_workAhead cX4_workAhead 9 (some .int), Cond.static yX5_releasesWithin, Cond.code yX5_releasesWithin cX5_releasesWithin 2 (some .int), Cond.methodLink RX4 62 yX3_budgetAmong, Cond.instanceMethod yX3_budgetAmong, Cond.selects RX3 yX3_budgetAmong yX3_budgetAmong, Cond.code yX3_budgetAmong cX3_budgetAmong 2 (some .int)]
def wsL_add_r5 : List Cond := [Cond.methodLink RX5 222 yX2_keep, Cond.instanceMethod yX2_keep, Cond.selects RX2 yX2_keep yX2_keep, Cond.initialized RX2, Cond.code yX2_keep cX2_keep 5 none, Cond.fieldLink RX2 18 "MixedKernel$Refusal" "size" "I", Cond.fieldLink RX2 9 "MixedKernel$Refusal" "ids" "[I", Cond.fieldLink RX2 15 "MixedKernel$Refusal" "periods" "[I", Cond.fieldLink RX2 33 "MixedKernel$Refusal" "deadline" "I", Cond.methodLink RX5 226 yX4_firstBoundThatFails, Cond.instanceMethod yX4_firstBoundThatFails, Cond.selects RX4 yX4_firstBoundThatFails yX4_firstBoundThatFails, Cond.code yX4_firstBoundThatFails cX4_firstBoundThatFails 3 (some .int), Cond.methodLink RX4 52 yX4_bound, Cond.instanceMethod yX4_bound, Cond.selects RX4 yX4_bound yX4_bound, Cond.code yX4_bound cX4_bound 7 (some .int), Cond.methodLink RX4 32 yX3_isHigh, Cond.instanceMethod yX3_isHigh, Cond.selects RX3 yX3_isHigh yX3_isHigh, Cond.code yX3_isHigh cX3_isHigh 1 (some .boolean)]
def wsL_add : List Cond := .codeWith yL_add cL_add 8 (some .int) [(0, 16, 19, 13), (0, 16, 23, 15)] :: ((wsL_add_r1 ++ (wsL_add_r2 ++ (wsL_add_r3 ++ (wsL_add_r4 ++ wsL_add_r5)))) ++ wsX50 ++ wsX10 ++ wsX30 ++ wsX40 ++ wsX20 ++ (vx_at0 RX5 68 "java/lang/IllegalArgumentException" ["java/lang/RuntimeException", "java/lang/Exception"]).filter goodWord ++ (vx_at0 RX5 74 "java/lang/IllegalStateException" ["java/lang/RuntimeException", "java/lang/Exception"]).filter goodWord)
def wsL_remove_r1 : List Cond := [Cond.classLink RL 21 "java/util/NoSuchElementException", Cond.classLink RL 15 "java/lang/IllegalStateException", Cond.methodLink RL 17 yX5_remove, Cond.instanceMethod yX5_remove, Cond.selects RX5 yX5_remove yX5_remove, Cond.initialized RX5, Cond.code yX5_remove cX5_remove 2 (some .boolean), Cond.classLink RX5 97 "java/util/NoSuchElementException", Cond.initialized "java/util/NoSuchElementException", Cond.classLink RX5 72 "java/lang/IllegalStateException", Cond.initialized "java/lang/IllegalStateException", Cond.fieldLink RX5 20 "MixedKernel" "tasks" "[LMixedKernel$Task;", Cond.methodLink RX5 69 yX5_isKnown, Cond.instanceMethod yX5_isKnown, Cond.selects RX5 yX5_isKnown yX5_isKnown, Cond.code yX5_isKnown cX5_isKnown 2 (some .boolean), Cond.fieldLink RX5 26 "MixedKernel" "plan" "LMixedKernel$Line;", Cond.methodLink RX5 150 yX1_placeOf, Cond.instanceMethod yX1_placeOf, Cond.selects RX1 yX1_placeOf yX1_placeOf, Cond.initialized RX1, Cond.code yX1_placeOf cX1_placeOf 3 (some .int), Cond.fieldLink RX1 15 "MixedKernel$Line" "size" "I", Cond.fieldLink RX1 9 "MixedKernel$Line" "ids" "[I"]
def wsL_remove_r2 : List Cond := [Cond.methodLink RX5 104 yX5_forgetIfLeft, Cond.instanceMethod yX5_forgetIfLeft, Cond.selects RX5 yX5_forgetIfLeft yX5_forgetIfLeft, Cond.code yX5_forgetIfLeft cX5_forgetIfLeft 2 none, Cond.fieldLink RX5 30 "MixedKernel" "order" "LMixedKernel$Line;", Cond.methodLink RX5 256 yX1_drop, Cond.instanceMethod yX1_drop, Cond.selects RX1 yX1_drop yX1_drop, Cond.code yX1_drop cX1_drop 3 none, Cond.methodLink RX1 25 yX1_placeOf, Cond.methodLink RX1 29 yX1_moveBack, Cond.instanceMethod yX1_moveBack, Cond.selects RX1 yX1_moveBack yX1_moveBack, Cond.code yX1_moveBack cX1_moveBack 5 none]
def wsL_remove : List Cond := .codeWith yL_remove cL_remove 4 (some .int) [(0, 16, 19, 21), (0, 16, 22, 15)] :: ((wsL_remove_r1 ++ wsL_remove_r2) ++ wsX50 ++ wsX30 ++ wsX10 ++ (vx_at0 RX5 99 "java/util/NoSuchElementException" ["java/lang/RuntimeException", "java/lang/Exception"]).filter goodWord ++ (vx_at0 RX5 74 "java/lang/IllegalStateException" ["java/lang/RuntimeException", "java/lang/Exception"]).filter goodWord)
def wsL_release_r1 : List Cond := [Cond.classLink RL 21 "java/util/NoSuchElementException", Cond.classLink RL 13 "java/lang/IllegalArgumentException", Cond.classLink RL 15 "java/lang/IllegalStateException", Cond.methodLink RL 23 yX5_release, Cond.instanceMethod yX5_release, Cond.selects RX5 yX5_release yX5_release, Cond.initialized RX5, Cond.code yX5_release cX5_release 4 (some .int), Cond.classLink RX5 97 "java/util/NoSuchElementException", Cond.initialized "java/util/NoSuchElementException", Cond.classLink RX5 66 "java/lang/IllegalArgumentException", Cond.initialized "java/lang/IllegalArgumentException", Cond.classLink RX5 72 "java/lang/IllegalStateException", Cond.initialized "java/lang/IllegalStateException", Cond.fieldLink RX5 20 "MixedKernel" "tasks" "[LMixedKernel$Task;", Cond.fieldLink RX5 113 "MixedKernel" "time" "I", Cond.fieldLink RX5 123 "MixedKernel" "highMode" "Z", Cond.methodLink RX5 107 yX5_isInForce, Cond.instanceMethod yX5_isInForce, Cond.selects RX5 yX5_isInForce yX5_isInForce, Cond.code yX5_isInForce cX5_isInForce 2 (some .boolean), Cond.fieldLink RX5 30 "MixedKernel" "order" "LMixedKernel$Line;", Cond.methodLink RX5 150 yX1_placeOf, Cond.instanceMethod yX1_placeOf]
def wsL_release_r2 : List Cond := [Cond.selects RX1 yX1_placeOf yX1_placeOf, Cond.initialized RX1, Cond.code yX1_placeOf cX1_placeOf 3 (some .int), Cond.fieldLink RX1 15 "MixedKernel$Line" "size" "I", Cond.fieldLink RX1 9 "MixedKernel$Line" "ids" "[I", Cond.methodLink RX5 110 yX3_greatestBudget, Cond.instanceMethod yX3_greatestBudget, Cond.selects RX3 yX3_greatestBudget yX3_greatestBudget, Cond.initialized RX3, Cond.code yX3_greatestBudget cX3_greatestBudget 1 (some .int), Cond.fieldLink RX3 31 "MixedKernel$Task" "high" "I", Cond.fieldLink RX3 18 "MixedKernel$Task" "low" "I", Cond.methodLink RX3 56 yX3_isHigh, Cond.instanceMethod yX3_isHigh, Cond.selects RX3 yX3_isHigh yX3_isHigh, Cond.code yX3_isHigh cX3_isHigh 1 (some .boolean), Cond.methodLink RX5 117 yX3_nextRelease, Cond.instanceMethod yX3_nextRelease, Cond.selects RX3 yX3_nextRelease yX3_nextRelease, Cond.code yX3_nextRelease cX3_nextRelease 1 (some .int), Cond.fieldLink RX3 38 "MixedKernel$Task" "jobs" "I", Cond.fieldLink RX3 25 "MixedKernel$Task" "releaseTimes" "[I", Cond.fieldLink RX3 9 "MixedKernel$Task" "period" "I", Cond.static yX5_slotOf]
def wsL_release_r3 : List Cond := [Cond.code yX5_slotOf cX5_slotOf 1 (some .int), Cond.methodLink RX5 207 yJ9_floorMod_7cf53, Cond.static yJ9_floorMod_7cf53, Cond.initialized RJ9, Cond.code yJ9_floorMod_7cf53 cJ9_floorMod_7cf53 3 (some .int), Cond.methodLink RX5 126 yX3_isHigh, Cond.methodLink RX5 133 yX3_newJob, Cond.instanceMethod yX3_newJob, Cond.selects RX3 yX3_newJob yX3_newJob, Cond.code yX3_newJob cX3_newJob 4 (some .int), Cond.fieldLink RX3 50 "MixedKernel$Task" "pending" "I", Cond.fieldLink RX3 21 "MixedKernel$Task" "demands" "[I", Cond.fieldLink RX3 28 "MixedKernel$Task" "endTimes" "[I"]
def wsL_release : List Cond := .codeWith yL_release cL_release 5 (some .int) [(0, 10, 13, 21), (0, 10, 17, 13), (0, 10, 21, 15)] :: ((wsL_release_r1 ++ (wsL_release_r2 ++ wsL_release_r3)) ++ wsX50 ++ wsX30 ++ wsX10 ++ (vx_at0 RX5 99 "java/util/NoSuchElementException" ["java/lang/RuntimeException", "java/lang/Exception"]).filter goodWord ++ (vx_at0 RX5 68 "java/lang/IllegalArgumentException" ["java/lang/RuntimeException", "java/lang/Exception"]).filter goodWord ++ (vx_at0 RX5 74 "java/lang/IllegalStateException" ["java/lang/RuntimeException", "java/lang/Exception"]).filter goodWord)
def wsL_run_r1 : List Cond := [Cond.classLink RL 13 "java/lang/IllegalArgumentException", Cond.methodLink RL 27 yX5_run, Cond.instanceMethod yX5_run, Cond.selects RX5 yX5_run yX5_run, Cond.initialized RX5, Cond.code yX5_run cX5_run 4 (some .int), Cond.classLink RX5 66 "java/lang/IllegalArgumentException", Cond.initialized "java/lang/IllegalArgumentException", Cond.methodLink RX5 137 yX5_advance, Cond.instanceMethod yX5_advance, Cond.selects RX5 yX5_advance yX5_advance, Cond.code yX5_advance cX5_advance 2 (some .int), Cond.fieldLink RX5 113 "MixedKernel" "time" "I", Cond.fieldLink RX5 48 "MixedKernel" "ran" "LMixedKernel$Latest;", Cond.methodLink RX5 229 yX5_firstToRun, Cond.instanceMethod yX5_firstToRun, Cond.selects RX5 yX5_firstToRun yX5_firstToRun, Cond.code yX5_firstToRun cX5_firstToRun 2 (some .int), Cond.fieldLink RX5 30 "MixedKernel" "order" "LMixedKernel$Line;", Cond.fieldLink RX5 20 "MixedKernel" "tasks" "[LMixedKernel$Task;", Cond.methodLink RX5 232 yX0_put, Cond.instanceMethod yX0_put, Cond.selects RX0 yX0_put yX0_put, Cond.initialized RX0]
def wsL_run_r2 : List Cond := [Cond.code yX0_put cX0_put 2 none, Cond.fieldLink RX0 7 "MixedKernel$Latest" "kept" "[I", Cond.fieldLink RX0 13 "MixedKernel$Latest" "total" "I", Cond.methodLink RX0 17 yJ9_floorMod_7cf53, Cond.static yJ9_floorMod_7cf53, Cond.initialized RJ9, Cond.code yJ9_floorMod_7cf53 cJ9_floorMod_7cf53 3 (some .int), Cond.methodLink RX5 235 yX5_settle, Cond.instanceMethod yX5_settle, Cond.selects RX5 yX5_settle yX5_settle, Cond.code yX5_settle cX5_settle 1 none, Cond.fieldLink RX5 192 "MixedKernel" "idleTicks" "I", Cond.fieldLink RX5 204 "MixedKernel" "latestIdle" "I", Cond.fieldLink RX5 123 "MixedKernel" "highMode" "Z", Cond.fieldLink RX5 26 "MixedKernel" "plan" "LMixedKernel$Line;", Cond.methodLink RX5 81 yX1_become, Cond.instanceMethod yX1_become, Cond.selects RX1 yX1_become yX1_become, Cond.initialized RX1, Cond.code yX1_become cX1_become 2 none, Cond.fieldLink RX1 9 "MixedKernel$Line" "ids" "[I", Cond.methodLink RX1 19 arraycopyName, Cond.native arraycopyName, Cond.static arraycopyName]
def wsL_run_r3 : List Cond := [Cond.initialized "java/lang/System", Cond.fieldLink RX1 15 "MixedKernel$Line" "size" "I", Cond.methodLink RX5 238 yX5_charge, Cond.instanceMethod yX5_charge, Cond.selects RX5 yX5_charge yX5_charge, Cond.code yX5_charge cX5_charge 4 none, Cond.methodLink RX5 241 yX3_chargeFirst, Cond.instanceMethod yX3_chargeFirst, Cond.selects RX3 yX3_chargeFirst yX3_chargeFirst, Cond.initialized RX3, Cond.code yX3_chargeFirst cX3_chargeFirst 3 (some .boolean), Cond.fieldLink RX3 38 "MixedKernel$Task" "jobs" "I", Cond.fieldLink RX3 50 "MixedKernel$Task" "pending" "I", Cond.fieldLink RX3 44 "MixedKernel$Task" "ticks" "I", Cond.fieldLink RX3 53 "MixedKernel$Task" "charged" "I", Cond.fieldLink RX3 21 "MixedKernel$Task" "demands" "[I", Cond.fieldLink RX3 28 "MixedKernel$Task" "endTimes" "[I", Cond.fieldLink RX3 47 "MixedKernel$Task" "endedLate" "I", Cond.static yX5_slotOf, Cond.code yX5_slotOf cX5_slotOf 1 (some .int), Cond.methodLink RX5 207 yJ9_floorMod_7cf53, Cond.methodLink RX3 64 yX3_isLate, Cond.instanceMethod yX3_isLate, Cond.selects RX3 yX3_isLate yX3_isLate]
def wsL_run_r4 : List Cond := [Cond.code yX3_isLate cX3_isLate 3 (some .boolean), Cond.fieldLink RX3 25 "MixedKernel$Task" "releaseTimes" "[I", Cond.fieldLink RX3 15 "MixedKernel$Task" "deadline" "I", Cond.methodLink RX5 126 yX3_isHigh, Cond.instanceMethod yX3_isHigh, Cond.selects RX3 yX3_isHigh yX3_isHigh, Cond.code yX3_isHigh cX3_isHigh 1 (some .boolean), Cond.fieldLink RX3 31 "MixedKernel$Task" "high" "I", Cond.methodLink RX5 250 yX5_becomeHigh, Cond.instanceMethod yX5_becomeHigh, Cond.selects RX5 yX5_becomeHigh yX5_becomeHigh, Cond.code yX5_becomeHigh cX5_becomeHigh 2 none, Cond.fieldLink RX5 52 "MixedKernel" "changes" "LMixedKernel$Latest;", Cond.fieldLink RX5 201 "MixedKernel" "givenUp" "I", Cond.methodLink RX5 253 yX3_giveUpPending, Cond.instanceMethod yX3_giveUpPending, Cond.selects RX3 yX3_giveUpPending yX3_giveUpPending, Cond.code yX3_giveUpPending cX3_giveUpPending 3 (some .int), Cond.methodLink RX5 104 yX5_forgetIfLeft, Cond.instanceMethod yX5_forgetIfLeft, Cond.selects RX5 yX5_forgetIfLeft yX5_forgetIfLeft, Cond.code yX5_forgetIfLeft cX5_forgetIfLeft 2 none, Cond.methodLink RX5 256 yX1_drop, Cond.instanceMethod yX1_drop]
def wsL_run_r5 : List Cond := [Cond.selects RX1 yX1_drop yX1_drop, Cond.code yX1_drop cX1_drop 3 none, Cond.methodLink RX1 25 yX1_placeOf, Cond.instanceMethod yX1_placeOf, Cond.selects RX1 yX1_placeOf yX1_placeOf, Cond.code yX1_placeOf cX1_placeOf 3 (some .int), Cond.methodLink RX1 29 yX1_moveBack, Cond.instanceMethod yX1_moveBack, Cond.selects RX1 yX1_moveBack yX1_moveBack, Cond.code yX1_moveBack cX1_moveBack 5 none]
def wsL_run : List Cond := .codeWith yL_run cL_run 4 (some .int) [(0, 9, 12, 13)] :: ((wsL_run_r1 ++ (wsL_run_r2 ++ (wsL_run_r3 ++ (wsL_run_r4 ++ wsL_run_r5)))) ++ wsX50 ++ wsX10 ++ wsX30 ++ wsX00 ++ (vx_at0 RX5 68 "java/lang/IllegalArgumentException" ["java/lang/RuntimeException", "java/lang/Exception"]).filter goodWord)
def wsL_response_r1 : List Cond := [Cond.classLink RL 21 "java/util/NoSuchElementException", Cond.classLink RL 13 "java/lang/IllegalArgumentException", Cond.methodLink RL 31 yX5_response, Cond.instanceMethod yX5_response, Cond.selects RX5 yX5_response yX5_response, Cond.initialized RX5, Cond.code yX5_response cX5_response 4 (some .int), Cond.classLink RX5 97 "java/util/NoSuchElementException", Cond.initialized "java/util/NoSuchElementException", Cond.classLink RX5 66 "java/lang/IllegalArgumentException", Cond.initialized "java/lang/IllegalArgumentException", Cond.fieldLink RX5 26 "MixedKernel" "plan" "LMixedKernel$Line;", Cond.fieldLink RX5 12 "MixedKernel" "set" "LMixedKernel$TaskSet;", Cond.methodLink RX5 150 yX1_placeOf, Cond.instanceMethod yX1_placeOf, Cond.selects RX1 yX1_placeOf yX1_placeOf, Cond.initialized RX1, Cond.code yX1_placeOf cX1_placeOf 3 (some .int), Cond.fieldLink RX1 15 "MixedKernel$Line" "size" "I", Cond.fieldLink RX1 9 "MixedKernel$Line" "ids" "[I", Cond.methodLink RX5 153 yX4_lowResponse, Cond.instanceMethod yX4_lowResponse, Cond.selects RX4 yX4_lowResponse yX4_lowResponse, Cond.initialized RX4]
def wsL_response_r2 : List Cond := [Cond.code yX4_lowResponse cX4_lowResponse 4 (some .int), Cond.fieldLink RX4 11 "MixedKernel$TaskSet" "all" "[LMixedKernel$Task;", Cond.methodLink RX4 28 yX4_leastSpan, Cond.instanceMethod yX4_leastSpan, Cond.selects RX4 yX4_leastSpan yX4_leastSpan, Cond.code yX4_leastSpan cX4_leastSpan 10 (some .int), Cond.methodLink RX4 39 yX4_workAhead, Cond.instanceMethod yX4_workAhead, Cond.selects RX4 yX4_workAhead yX4_workAhead, Cond.code yX4_workAhead cX4_workAhead 9 (some .int), Cond.static yX5_releasesWithin, Cond.code yX5_releasesWithin cX5_releasesWithin 2 (some .int), Cond.methodLink RX4 62 yX3_budgetAmong, Cond.instanceMethod yX3_budgetAmong, Cond.selects RX3 yX3_budgetAmong yX3_budgetAmong, Cond.initialized RX3, Cond.code yX3_budgetAmong cX3_budgetAmong 2 (some .int), Cond.fieldLink RX3 31 "MixedKernel$Task" "high" "I", Cond.fieldLink RX3 18 "MixedKernel$Task" "low" "I", Cond.methodLink RX5 157 yX4_bound, Cond.instanceMethod yX4_bound, Cond.selects RX4 yX4_bound yX4_bound, Cond.code yX4_bound cX4_bound 7 (some .int), Cond.methodLink RX4 32 yX3_isHigh]
def wsL_response_r3 : List Cond := [Cond.instanceMethod yX3_isHigh, Cond.selects RX3 yX3_isHigh yX3_isHigh, Cond.code yX3_isHigh cX3_isHigh 1 (some .boolean)]
def wsL_response : List Cond := .codeWith yL_response cL_response 5 (some .int) [(0, 10, 13, 21), (0, 10, 17, 13)] :: ((wsL_response_r1 ++ (wsL_response_r2 ++ wsL_response_r3)) ++ wsX50 ++ wsX10 ++ wsX40 ++ wsX30 ++ (vx_at0 RX5 99 "java/util/NoSuchElementException" ["java/lang/RuntimeException", "java/lang/Exception"]).filter goodWord ++ (vx_at0 RX5 68 "java/lang/IllegalArgumentException" ["java/lang/RuntimeException", "java/lang/Exception"]).filter goodWord)
def wsL_ended_r1 : List Cond := [Cond.classLink RL 21 "java/util/NoSuchElementException", Cond.methodLink RL 34 yX5_ended, Cond.instanceMethod yX5_ended, Cond.selects RX5 yX5_ended yX5_ended, Cond.initialized RX5, Cond.code yX5_ended cX5_ended 3 (some .int), Cond.classLink RX5 97 "java/util/NoSuchElementException", Cond.initialized "java/util/NoSuchElementException", Cond.fieldLink RX5 20 "MixedKernel" "tasks" "[LMixedKernel$Task;", Cond.methodLink RX5 69 yX5_isKnown, Cond.instanceMethod yX5_isKnown, Cond.selects RX5 yX5_isKnown yX5_isKnown, Cond.code yX5_isKnown cX5_isKnown 2 (some .boolean), Cond.fieldLink RX5 26 "MixedKernel" "plan" "LMixedKernel$Line;", Cond.methodLink RX5 150 yX1_placeOf, Cond.instanceMethod yX1_placeOf, Cond.selects RX1 yX1_placeOf yX1_placeOf, Cond.initialized RX1, Cond.code yX1_placeOf cX1_placeOf 3 (some .int), Cond.fieldLink RX1 15 "MixedKernel$Line" "size" "I", Cond.fieldLink RX1 9 "MixedKernel$Line" "ids" "[I", Cond.methodLink RX5 160 yX3_keeps, Cond.instanceMethod yX3_keeps, Cond.selects RX3 yX3_keeps yX3_keeps]
def wsL_ended_r2 : List Cond := [Cond.initialized RX3, Cond.code yX3_keeps cX3_keeps 2 (some .boolean), Cond.fieldLink RX3 38 "MixedKernel$Task" "jobs" "I", Cond.methodLink RX5 167 yX5_slotOf, Cond.static yX5_slotOf, Cond.code yX5_slotOf cX5_slotOf 1 (some .int), Cond.methodLink RX5 207 yJ9_floorMod_7cf53, Cond.static yJ9_floorMod_7cf53, Cond.initialized RJ9, Cond.code yJ9_floorMod_7cf53 cJ9_floorMod_7cf53 3 (some .int)]
def wsL_ended : List Cond := .codeWith yL_ended cL_ended 5 (some .int) [(0, 10, 13, 21)] :: ((wsL_ended_r1 ++ wsL_ended_r2) ++ wsX50 ++ wsX30 ++ wsX10 ++ (vx_at0 RX5 99 "java/util/NoSuchElementException" ["java/lang/RuntimeException", "java/lang/Exception"]).filter goodWord)
def wsL_about_r1 : List Cond := [Cond.classLink RL 21 "java/util/NoSuchElementException", Cond.classLink RL 13 "java/lang/IllegalArgumentException", Cond.methodLink RL 37 yX5_about, Cond.instanceMethod yX5_about, Cond.selects RX5 yX5_about yX5_about, Cond.initialized RX5, Cond.code yX5_about cX5_about 4 (some .int), Cond.classLink RX5 97 "java/util/NoSuchElementException", Cond.initialized "java/util/NoSuchElementException", Cond.classLink RX5 66 "java/lang/IllegalArgumentException", Cond.initialized "java/lang/IllegalArgumentException", Cond.fieldLink RX5 20 "MixedKernel" "tasks" "[LMixedKernel$Task;", Cond.fieldLink RX5 30 "MixedKernel" "order" "LMixedKernel$Line;", Cond.fieldLink RX5 26 "MixedKernel" "plan" "LMixedKernel$Line;", Cond.fieldLink RX5 113 "MixedKernel" "time" "I", Cond.methodLink RX5 69 yX5_isKnown, Cond.instanceMethod yX5_isKnown, Cond.selects RX5 yX5_isKnown yX5_isKnown, Cond.code yX5_isKnown cX5_isKnown 2 (some .boolean), Cond.methodLink RX5 150 yX1_placeOf, Cond.instanceMethod yX1_placeOf, Cond.selects RX1 yX1_placeOf yX1_placeOf, Cond.initialized RX1, Cond.code yX1_placeOf cX1_placeOf 3 (some .int)]
def wsL_about_r2 : List Cond := [Cond.fieldLink RX1 15 "MixedKernel$Line" "size" "I", Cond.fieldLink RX1 9 "MixedKernel$Line" "ids" "[I", Cond.methodLink RX5 117 yX3_nextRelease, Cond.instanceMethod yX3_nextRelease, Cond.selects RX3 yX3_nextRelease yX3_nextRelease, Cond.initialized RX3, Cond.code yX3_nextRelease cX3_nextRelease 1 (some .int), Cond.fieldLink RX3 38 "MixedKernel$Task" "jobs" "I", Cond.fieldLink RX3 25 "MixedKernel$Task" "releaseTimes" "[I", Cond.fieldLink RX3 9 "MixedKernel$Task" "period" "I", Cond.static yX5_slotOf, Cond.code yX5_slotOf cX5_slotOf 1 (some .int), Cond.methodLink RX5 207 yJ9_floorMod_7cf53, Cond.static yJ9_floorMod_7cf53, Cond.initialized RJ9, Cond.code yJ9_floorMod_7cf53 cJ9_floorMod_7cf53 3 (some .int), Cond.methodLink RX5 176 yX3_lateJobs, Cond.instanceMethod yX3_lateJobs, Cond.selects RX3 yX3_lateJobs yX3_lateJobs, Cond.code yX3_lateJobs cX3_lateJobs 4 (some .int), Cond.fieldLink RX3 47 "MixedKernel$Task" "endedLate" "I", Cond.fieldLink RX3 50 "MixedKernel$Task" "pending" "I", Cond.methodLink RX3 64 yX3_isLate, Cond.instanceMethod yX3_isLate]
def wsL_about_r3 : List Cond := [Cond.selects RX3 yX3_isLate yX3_isLate, Cond.code yX3_isLate cX3_isLate 3 (some .boolean), Cond.fieldLink RX3 15 "MixedKernel$Task" "deadline" "I"]
def wsL_about : List Cond := .codeWith yL_about cL_about 5 (some .int) [(0, 10, 13, 21), (0, 10, 17, 13)] :: ((wsL_about_r1 ++ (wsL_about_r2 ++ wsL_about_r3)) ++ wsX50 ++ wsX30 ++ wsX10 ++ (vx_at0 RX5 99 "java/util/NoSuchElementException" ["java/lang/RuntimeException", "java/lang/Exception"]).filter goodWord ++ (vx_at0 RX5 68 "java/lang/IllegalArgumentException" ["java/lang/RuntimeException", "java/lang/Exception"]).filter goodWord)
def wsL_witness_r1 : List Cond := [Cond.classLink RL 21 "java/util/NoSuchElementException", Cond.classLink RL 13 "java/lang/IllegalArgumentException", Cond.methodLink RL 40 yX5_witness, Cond.instanceMethod yX5_witness, Cond.selects RX5 yX5_witness yX5_witness, Cond.initialized RX5, Cond.code yX5_witness cX5_witness 3 (some .int), Cond.classLink RX5 97 "java/util/NoSuchElementException", Cond.initialized "java/util/NoSuchElementException", Cond.classLink RX5 66 "java/lang/IllegalArgumentException", Cond.initialized "java/lang/IllegalArgumentException", Cond.fieldLink RX5 39 "MixedKernel" "refusal" "LMixedKernel$Refusal;", Cond.methodLink RX5 179 yX2_releases, Cond.instanceMethod yX2_releases, Cond.selects RX2 yX2_releases yX2_releases, Cond.initialized RX2, Cond.code yX2_releases cX2_releases 1 (some .int), Cond.fieldLink RX2 33 "MixedKernel$Refusal" "deadline" "I", Cond.methodLink RX2 34 yX2_releasesBefore, Cond.instanceMethod yX2_releasesBefore, Cond.selects RX2 yX2_releasesBefore yX2_releasesBefore, Cond.code yX2_releasesBefore cX2_releasesBefore 4 (some .int), Cond.fieldLink RX2 18 "MixedKernel$Refusal" "size" "I", Cond.fieldLink RX2 15 "MixedKernel$Refusal" "periods" "[I"]
def wsL_witness_r2 : List Cond := [Cond.static yX5_releasesWithin, Cond.code yX5_releasesWithin cX5_releasesWithin 2 (some .int), Cond.methodLink RX5 182 yX2_timeOf, Cond.instanceMethod yX2_timeOf, Cond.selects RX2 yX2_timeOf yX2_timeOf, Cond.code yX2_timeOf cX2_timeOf 4 (some .int), Cond.methodLink RX5 185 yX2_taskOf, Cond.instanceMethod yX2_taskOf, Cond.selects RX2 yX2_taskOf yX2_taskOf, Cond.code yX2_taskOf cX2_taskOf 5 (some .int), Cond.fieldLink RX2 9 "MixedKernel$Refusal" "ids" "[I", Cond.methodLink RX2 38 yX2_timeOf, Cond.methodLink RX2 41 yX2_isReleaseTime, Cond.static yX2_isReleaseTime, Cond.code yX2_isReleaseTime cX2_isReleaseTime 2 (some .boolean)]
def wsL_witness : List Cond := .codeWith yL_witness cL_witness 5 (some .int) [(0, 10, 13, 21), (0, 10, 17, 13)] :: ((wsL_witness_r1 ++ wsL_witness_r2) ++ wsX50 ++ wsX20 ++ (vx_at0 RX5 99 "java/util/NoSuchElementException" ["java/lang/RuntimeException", "java/lang/Exception"]).filter goodWord ++ (vx_at0 RX5 68 "java/lang/IllegalArgumentException" ["java/lang/RuntimeException", "java/lang/Exception"]).filter goodWord)
def wsL_trace : List Cond := .codeWith yL_trace cL_trace 4 (some .int) [(0, 9, 12, 21)] :: ([.classLink RL 21 "java/util/NoSuchElementException", .methodLink RL 43 yX5_trace, .instanceMethod yX5_trace, .selects RX5 yX5_trace yX5_trace, .initialized RX5, .code yX5_trace cX5_trace 2 (some .int), .classLink RX5 97 "java/util/NoSuchElementException", .initialized "java/util/NoSuchElementException", .fieldLink RX5 48 "MixedKernel" "ran" "LMixedKernel$Latest;", .methodLink RX5 188 yX0_keeps, .instanceMethod yX0_keeps, .selects RX0 yX0_keeps yX0_keeps, .initialized RX0, .code yX0_keeps cX0_keeps 2 (some .boolean), .fieldLink RX0 7 "MixedKernel$Latest" "kept" "[I", .fieldLink RX0 13 "MixedKernel$Latest" "total" "I", .methodLink RX5 189 yX0_back, .instanceMethod yX0_back, .selects RX0 yX0_back yX0_back, .code yX0_back cX0_back 2 (some .int), .methodLink RX0 17 yJ9_floorMod_7cf53, .static yJ9_floorMod_7cf53, .initialized RJ9, .code yJ9_floorMod_7cf53 cJ9_floorMod_7cf53 3 (some .int)] ++ wsX50 ++ wsX00 ++ (vx_at0 RX5 99 "java/util/NoSuchElementException" ["java/lang/RuntimeException", "java/lang/Exception"]).filter goodWord)
def wsL_changed : List Cond := .codeWith yL_changed cL_changed 4 (some .int) [(0, 9, 12, 21)] :: ([.classLink RL 21 "java/util/NoSuchElementException", .methodLink RL 46 yX5_changed, .instanceMethod yX5_changed, .selects RX5 yX5_changed yX5_changed, .initialized RX5, .code yX5_changed cX5_changed 2 (some .int), .classLink RX5 97 "java/util/NoSuchElementException", .initialized "java/util/NoSuchElementException", .fieldLink RX5 52 "MixedKernel" "changes" "LMixedKernel$Latest;", .methodLink RX5 188 yX0_keeps, .instanceMethod yX0_keeps, .selects RX0 yX0_keeps yX0_keeps, .initialized RX0, .code yX0_keeps cX0_keeps 2 (some .boolean), .fieldLink RX0 7 "MixedKernel$Latest" "kept" "[I", .fieldLink RX0 13 "MixedKernel$Latest" "total" "I", .methodLink RX5 189 yX0_back, .instanceMethod yX0_back, .selects RX0 yX0_back yX0_back, .code yX0_back cX0_back 2 (some .int), .methodLink RX0 17 yJ9_floorMod_7cf53, .static yJ9_floorMod_7cf53, .initialized RJ9, .code yJ9_floorMod_7cf53 cJ9_floorMod_7cf53 3 (some .int)] ++ wsX50 ++ wsX00 ++ (vx_at0 RX5 99 "java/util/NoSuchElementException" ["java/lang/RuntimeException", "java/lang/Exception"]).filter goodWord)
def wsL_count : List Cond := .codeWith yL_count cL_count 4 (some .int) [(0, 9, 12, 13)] :: ([.classLink RL 13 "java/lang/IllegalArgumentException", .methodLink RL 49 yX5_count, .instanceMethod yX5_count, .selects RX5 yX5_count yX5_count, .initialized RX5, .code yX5_count cX5_count 2 (some .int), .classLink RX5 66 "java/lang/IllegalArgumentException", .initialized "java/lang/IllegalArgumentException", .fieldLink RX5 113 "MixedKernel" "time" "I", .fieldLink RX5 192 "MixedKernel" "idleTicks" "I", .fieldLink RX5 123 "MixedKernel" "highMode" "Z", .fieldLink RX5 52 "MixedKernel" "changes" "LMixedKernel$Latest;", .fieldLink RX5 26 "MixedKernel" "plan" "LMixedKernel$Line;", .fieldLink RX5 30 "MixedKernel" "order" "LMixedKernel$Line;", .fieldLink RX5 201 "MixedKernel" "givenUp" "I", .fieldLink RX5 204 "MixedKernel" "latestIdle" "I", .methodLink RX5 198 yX5_pendingJobs, .instanceMethod yX5_pendingJobs, .selects RX5 yX5_pendingJobs yX5_pendingJobs, .code yX5_pendingJobs cX5_pendingJobs 3 (some .int), .fieldLink RX5 20 "MixedKernel" "tasks" "[LMixedKernel$Task;"] ++ wsX50 ++ wsX00 ++ wsX10 ++ wsX30 ++ (vx_at0 RX5 68 "java/lang/IllegalArgumentException" ["java/lang/RuntimeException", "java/lang/Exception"]).filter goodWord)
def wsL_law0_r1 : List Cond := [Cond.classLink RL 8 RX5, Cond.instantiable RX5 13, Cond.initialized RX5, Cond.classLink RL 53 RX6, Cond.instantiable RX6 35, Cond.initialized RX6, Cond.arrayClass .long, Cond.methodLink RL 52 yX5_init, Cond.instanceMethod yX5_init, Cond.code yX5_init cX5_init 1 none, Cond.methodLink RX5 3 objectInit, Cond.instanceMethod objectInit, Cond.code objectInit ⟨#[0xb1]⟩ 1 none, Cond.classLink RX5 9 RX4, Cond.instantiable RX4 1, Cond.initialized RX4, Cond.fieldLink RX5 12 "MixedKernel" "set" "LMixedKernel$TaskSet;", Cond.fieldLink RX5 20 "MixedKernel" "tasks" "[LMixedKernel$Task;", Cond.classLink RX5 23 RX1, Cond.instantiable RX1 2, Cond.initialized RX1, Cond.fieldLink RX5 26 "MixedKernel" "plan" "LMixedKernel$Line;", Cond.fieldLink RX5 30 "MixedKernel" "order" "LMixedKernel$Line;", Cond.fieldLink RX5 33 "MixedKernel" "trial" "LMixedKernel$Line;"]
def wsL_law0_r2 : List Cond := [Cond.classLink RX5 36 RX2, Cond.instantiable RX2 4, Cond.initialized RX2, Cond.fieldLink RX5 39 "MixedKernel" "refusal" "LMixedKernel$Refusal;", Cond.classLink RX5 43 RX0, Cond.instantiable RX0 2, Cond.initialized RX0, Cond.fieldLink RX5 48 "MixedKernel" "ran" "LMixedKernel$Latest;", Cond.fieldLink RX5 52 "MixedKernel" "changes" "LMixedKernel$Latest;", Cond.methodLink RX5 11 yX4_init, Cond.instanceMethod yX4_init, Cond.code yX4_init cX4_init 2 none, Cond.methodLink RX4 3 objectInit, Cond.classLink RX4 9 RX3, Cond.fieldLink RX4 11 "MixedKernel$TaskSet" "all" "[LMixedKernel$Task;", Cond.instantiable RX3 14, Cond.initialized RX3, Cond.instanceMethod yX3_init, Cond.code yX3_init cX3_init 1 none, Cond.methodLink RX3 3 objectInit, Cond.fieldLink RX3 9 "MixedKernel$Task" "period" "I", Cond.fieldLink RX3 15 "MixedKernel$Task" "deadline" "I", Cond.fieldLink RX3 18 "MixedKernel$Task" "low" "I", Cond.arrayClass .int]
def wsL_law0_r3 : List Cond := [Cond.fieldLink RX3 21 "MixedKernel$Task" "demands" "[I", Cond.fieldLink RX3 25 "MixedKernel$Task" "releaseTimes" "[I", Cond.fieldLink RX3 28 "MixedKernel$Task" "endTimes" "[I", Cond.instanceMethod yX1_init, Cond.code yX1_init cX1_init 1 none, Cond.methodLink RX1 3 objectInit, Cond.fieldLink RX1 9 "MixedKernel$Line" "ids" "[I", Cond.instanceMethod yX2_init, Cond.code yX2_init cX2_init 1 none, Cond.methodLink RX2 3 objectInit, Cond.fieldLink RX2 9 "MixedKernel$Refusal" "ids" "[I", Cond.fieldLink RX2 15 "MixedKernel$Refusal" "periods" "[I", Cond.methodLink RX5 45 yX0_init, Cond.instanceMethod yX0_init, Cond.code yX0_init cX0_init 2 none, Cond.methodLink RX0 1 objectInit, Cond.fieldLink RX0 7 "MixedKernel$Latest" "kept" "[I", Cond.methodLink RL 55 yX6_init, Cond.instanceMethod yX6_init, Cond.code yX6_init cX6_init 1 none, Cond.methodLink RX6 1 objectInit, Cond.arrayClass .boolean, Cond.fieldLink RX6 7 "MixedKernelModel" "known" "[Z", Cond.fieldLink RX6 13 "MixedKernelModel" "leaving" "[Z"]
def wsL_law0_r4 : List Cond := [Cond.fieldLink RX6 16 "MixedKernelModel" "periods" "[I", Cond.fieldLink RX6 20 "MixedKernelModel" "deadlines" "[I", Cond.fieldLink RX6 23 "MixedKernelModel" "lows" "[I", Cond.fieldLink RX6 26 "MixedKernelModel" "highs" "[I", Cond.fieldLink RX6 29 "MixedKernelModel" "plan" "[I", Cond.fieldLink RX6 32 "MixedKernelModel" "order" "[I", Cond.fieldLink RX6 35 "MixedKernelModel" "found" "[I", Cond.fieldLink RX6 38 "MixedKernelModel" "jobs" "[I", Cond.fieldLink RX6 41 "MixedKernelModel" "drops" "[I", Cond.fieldLink RX6 44 "MixedKernelModel" "charged" "[I", Cond.fieldLink RX6 47 "MixedKernelModel" "lates" "[I", Cond.fieldLink RX6 50 "MixedKernelModel" "nexts" "[I", Cond.fieldLink RX6 53 "MixedKernelModel" "releases" "[I", Cond.fieldLink RX6 56 "MixedKernelModel" "demands" "[I", Cond.fieldLink RX6 59 "MixedKernelModel" "charges" "[I", Cond.fieldLink RX6 62 "MixedKernelModel" "ends" "[I", Cond.fieldLink RX6 65 "MixedKernelModel" "changed" "[I", Cond.fieldLink RX6 68 "MixedKernelModel" "trace" "[I", Cond.fieldLink RX6 71 "MixedKernelModel" "who" "[I", Cond.fieldLink RX6 74 "MixedKernelModel" "whoPeriods" "[I", Cond.fieldLink RX6 77 "MixedKernelModel" "trial" "[I", Cond.fieldLink RX6 80 "MixedKernelModel" "placed" "[Z", Cond.methodLink RL 56 yL_add, Cond.static yL_add]
def wsL_law0_r5 : List Cond := [Cond.initialized RL, Cond.codeWith yL_add cL_add 8 (some .int) [(0, 16, 19, 13), (0, 16, 23, 15)], Cond.classLink RL 13 "java/lang/IllegalArgumentException", Cond.classLink RL 15 "java/lang/IllegalStateException", Cond.methodLink RL 7 yX5_add, Cond.instanceMethod yX5_add, Cond.selects RX5 yX5_add yX5_add, Cond.code yX5_add cX5_add 6 (some .int), Cond.classLink RX5 66 "java/lang/IllegalArgumentException", Cond.initialized "java/lang/IllegalArgumentException", Cond.classLink RX5 72 "java/lang/IllegalStateException", Cond.initialized "java/lang/IllegalStateException", Cond.methodLink RX5 55 yX5_isTask, Cond.static yX5_isTask, Cond.code yX5_isTask cX5_isTask 1 (some .boolean), Cond.methodLink RX5 59 yX5_areTimes, Cond.static yX5_areTimes, Cond.code yX5_areTimes cX5_areTimes 2 (some .boolean), Cond.methodLink RX5 63 yX5_areBudgets, Cond.static yX5_areBudgets, Cond.code yX5_areBudgets cX5_areBudgets 2 (some .boolean), Cond.methodLink RX5 69 yX5_isKnown, Cond.instanceMethod yX5_isKnown, Cond.selects RX5 yX5_isKnown yX5_isKnown]
def wsL_law0_r6 : List Cond := [Cond.code yX5_isKnown cX5_isKnown 2 (some .boolean), Cond.methodLink RX5 150 yX1_placeOf, Cond.instanceMethod yX1_placeOf, Cond.selects RX1 yX1_placeOf yX1_placeOf, Cond.code yX1_placeOf cX1_placeOf 3 (some .int), Cond.fieldLink RX1 15 "MixedKernel$Line" "size" "I", Cond.methodLink RX5 75 yX3_begin, Cond.instanceMethod yX3_begin, Cond.selects RX3 yX3_begin yX3_begin, Cond.code yX3_begin cX3_begin 5 none, Cond.fieldLink RX3 31 "MixedKernel$Task" "high" "I", Cond.fieldLink RX3 34 "MixedKernel$Task" "leaving" "Z", Cond.fieldLink RX3 38 "MixedKernel$Task" "jobs" "I", Cond.fieldLink RX3 41 "MixedKernel$Task" "dropped" "I", Cond.fieldLink RX3 44 "MixedKernel$Task" "ticks" "I", Cond.fieldLink RX3 47 "MixedKernel$Task" "endedLate" "I", Cond.fieldLink RX3 50 "MixedKernel$Task" "pending" "I", Cond.fieldLink RX3 53 "MixedKernel$Task" "charged" "I", Cond.methodLink RX5 81 yX1_become, Cond.instanceMethod yX1_become, Cond.selects RX1 yX1_become yX1_become, Cond.code yX1_become cX1_become 2 none, Cond.methodLink RX1 19 arraycopyName, Cond.native arraycopyName]
def wsL_law0_r7 : List Cond := [Cond.static arraycopyName, Cond.initialized "java/lang/System", Cond.methodLink RX5 85 yX5_placeFor, Cond.instanceMethod yX5_placeFor, Cond.selects RX5 yX5_placeFor yX5_placeFor, Cond.code yX5_placeFor cX5_placeFor 3 (some .int), Cond.methodLink RX5 89 yX1_insert, Cond.instanceMethod yX1_insert, Cond.selects RX1 yX1_insert yX1_insert, Cond.code yX1_insert cX1_insert 4 none, Cond.methodLink RX5 93 yX5_admitTrial, Cond.instanceMethod yX5_admitTrial, Cond.selects RX5 yX5_admitTrial yX5_admitTrial, Cond.code yX5_admitTrial cX5_admitTrial 3 (some .int), Cond.methodLink RX5 218 yX4_firstLowResponseThatFails, Cond.instanceMethod yX4_firstLowResponseThatFails, Cond.selects RX4 yX4_firstLowResponseThatFails yX4_firstLowResponseThatFails, Cond.code yX4_firstLowResponseThatFails cX4_firstLowResponseThatFails 3 (some .int), Cond.methodLink RX4 45 yX4_lowResponse, Cond.instanceMethod yX4_lowResponse, Cond.selects RX4 yX4_lowResponse yX4_lowResponse, Cond.code yX4_lowResponse cX4_lowResponse 4 (some .int), Cond.methodLink RX4 28 yX4_leastSpan, Cond.instanceMethod yX4_leastSpan]
def wsL_law0_r8 : List Cond := [Cond.selects RX4 yX4_leastSpan yX4_leastSpan, Cond.code yX4_leastSpan cX4_leastSpan 10 (some .int), Cond.methodLink RX4 39 yX4_workAhead, Cond.instanceMethod yX4_workAhead, Cond.selects RX4 yX4_workAhead yX4_workAhead, Cond.code yX4_workAhead cX4_workAhead 9 (some .int), Cond.static yX5_releasesWithin, Cond.code yX5_releasesWithin cX5_releasesWithin 2 (some .int), Cond.methodLink RX4 62 yX3_budgetAmong, Cond.instanceMethod yX3_budgetAmong, Cond.selects RX3 yX3_budgetAmong yX3_budgetAmong, Cond.code yX3_budgetAmong cX3_budgetAmong 2 (some .int), Cond.methodLink RX5 222 yX2_keep, Cond.instanceMethod yX2_keep, Cond.selects RX2 yX2_keep yX2_keep, Cond.code yX2_keep cX2_keep 5 none, Cond.fieldLink RX2 18 "MixedKernel$Refusal" "size" "I", Cond.fieldLink RX2 33 "MixedKernel$Refusal" "deadline" "I", Cond.methodLink RX5 226 yX4_firstBoundThatFails, Cond.instanceMethod yX4_firstBoundThatFails, Cond.selects RX4 yX4_firstBoundThatFails yX4_firstBoundThatFails, Cond.code yX4_firstBoundThatFails cX4_firstBoundThatFails 3 (some .int), Cond.methodLink RX4 52 yX4_bound, Cond.instanceMethod yX4_bound]
def wsL_law0_r9 : List Cond := [Cond.selects RX4 yX4_bound yX4_bound, Cond.code yX4_bound cX4_bound 7 (some .int), Cond.methodLink RX4 32 yX3_isHigh, Cond.instanceMethod yX3_isHigh, Cond.selects RX3 yX3_isHigh yX3_isHigh, Cond.code yX3_isHigh cX3_isHigh 1 (some .boolean), Cond.methodLink RL 61 yX6_add, Cond.instanceMethod yX6_add, Cond.selects RX6 yX6_add yX6_add, Cond.code yX6_add cX6_add 9 (some .int), Cond.fieldLink RX6 91 "MixedKernelModel" "planned" "I", Cond.methodLink RX6 111 yX6_within, Cond.static yX6_within, Cond.code yX6_within cX6_within 3 (some .boolean), Cond.methodLink RX6 115 yX6_isKnown, Cond.instanceMethod yX6_isKnown, Cond.selects RX6 yX6_isKnown yX6_isKnown, Cond.code yX6_isKnown cX6_isKnown 2 (some .boolean), Cond.methodLink RX6 119 yX6_goes, Cond.instanceMethod yX6_goes, Cond.selects RX6 yX6_goes yX6_goes, Cond.code yX6_goes cX6_goes 4 (some .boolean), Cond.fieldLink RX6 83 "MixedKernelModel" "thrown" "I", Cond.methodLink RX6 123 yX6_unfit]
def wsL_law0_r10 : List Cond := [Cond.instanceMethod yX6_unfit, Cond.selects RX6 yX6_unfit yX6_unfit, Cond.code yX6_unfit cX6_unfit 2 (some .int), Cond.methodLink RX6 94 yX6_markAhead, Cond.instanceMethod yX6_markAhead, Cond.selects RX6 yX6_markAhead yX6_markAhead, Cond.code yX6_markAhead cX6_markAhead 3 none, Cond.methodLink RX6 98 yX6_lowResponse, Cond.instanceMethod yX6_lowResponse, Cond.selects RX6 yX6_lowResponse yX6_lowResponse, Cond.code yX6_lowResponse cX6_lowResponse 5 (some .int), Cond.methodLink RX6 87 yX6_times, Cond.static yX6_times, Cond.code yX6_times cX6_times 2 (some .int), Cond.methodLink RX6 102 yX6_bound, Cond.instanceMethod yX6_bound, Cond.selects RX6 yX6_bound yX6_bound, Cond.code yX6_bound cX6_bound 7 (some .int), Cond.methodLink RX6 127 yX6_noteWitness, Cond.instanceMethod yX6_noteWitness, Cond.selects RX6 yX6_noteWitness yX6_noteWitness, Cond.code yX6_noteWitness cX6_noteWitness 3 none, Cond.fieldLink RX6 105 "MixedKernelModel" "witnesses" "I", Cond.fieldLink RX6 108 "MixedKernelModel" "until" "I"]
def wsL_law0_r11 : List Cond := [Cond.methodLink RX6 130 yX6_takeOut, Cond.instanceMethod yX6_takeOut, Cond.selects RX6 yX6_takeOut yX6_takeOut, Cond.code yX6_takeOut cX6_takeOut 4 none, Cond.methodLink RL 62 yX6_thrown, Cond.instanceMethod yX6_thrown, Cond.selects RX6 yX6_thrown yX6_thrown, Cond.code yX6_thrown cX6_thrown 1 (some .int), Cond.methodLink RL 66 yL_remove, Cond.static yL_remove, Cond.codeWith yL_remove cL_remove 4 (some .int) [(0, 16, 19, 21), (0, 16, 22, 15)], Cond.classLink RL 21 "java/util/NoSuchElementException", Cond.methodLink RL 17 yX5_remove, Cond.instanceMethod yX5_remove, Cond.selects RX5 yX5_remove yX5_remove, Cond.code yX5_remove cX5_remove 2 (some .boolean), Cond.classLink RX5 97 "java/util/NoSuchElementException", Cond.initialized "java/util/NoSuchElementException", Cond.methodLink RX5 104 yX5_forgetIfLeft, Cond.instanceMethod yX5_forgetIfLeft, Cond.selects RX5 yX5_forgetIfLeft yX5_forgetIfLeft, Cond.code yX5_forgetIfLeft cX5_forgetIfLeft 2 none, Cond.methodLink RX5 256 yX1_drop, Cond.instanceMethod yX1_drop]
def wsL_law0_r12 : List Cond := [Cond.selects RX1 yX1_drop yX1_drop, Cond.code yX1_drop cX1_drop 3 none, Cond.methodLink RX1 25 yX1_placeOf, Cond.methodLink RX1 29 yX1_moveBack, Cond.instanceMethod yX1_moveBack, Cond.selects RX1 yX1_moveBack yX1_moveBack, Cond.code yX1_moveBack cX1_moveBack 5 none, Cond.methodLink RL 69 yX6_remove, Cond.instanceMethod yX6_remove, Cond.selects RX6 yX6_remove yX6_remove, Cond.code yX6_remove cX6_remove 2 (some .boolean), Cond.methodLink RX6 146 yX6_leave, Cond.instanceMethod yX6_leave, Cond.selects RX6 yX6_leave yX6_leave, Cond.code yX6_leave cX6_leave 4 none, Cond.fieldLink RX6 143 "MixedKernelModel" "inForce" "I", Cond.methodLink RX6 140 yX6_pending, Cond.instanceMethod yX6_pending, Cond.selects RX6 yX6_pending yX6_pending, Cond.code yX6_pending cX6_pending 4 (some .int), Cond.methodLink RX6 136 yX6_isPending, Cond.instanceMethod yX6_isPending, Cond.selects RX6 yX6_isPending yX6_isPending, Cond.code yX6_isPending cX6_isPending 3 (some .boolean)]
def wsL_law0_r13 : List Cond := [Cond.methodLink RX6 133 yX6_at, Cond.static yX6_at, Cond.code yX6_at cX6_at 2 (some .int), Cond.methodLink RL 70 yL_release, Cond.static yL_release, Cond.codeWith yL_release cL_release 5 (some .int) [(0, 10, 13, 21), (0, 10, 17, 13), (0, 10, 21, 15)], Cond.methodLink RL 23 yX5_release, Cond.instanceMethod yX5_release, Cond.selects RX5 yX5_release yX5_release, Cond.code yX5_release cX5_release 4 (some .int), Cond.fieldLink RX5 113 "MixedKernel" "time" "I", Cond.fieldLink RX5 123 "MixedKernel" "highMode" "Z", Cond.methodLink RX5 107 yX5_isInForce, Cond.instanceMethod yX5_isInForce, Cond.selects RX5 yX5_isInForce yX5_isInForce, Cond.code yX5_isInForce cX5_isInForce 2 (some .boolean), Cond.methodLink RX5 110 yX3_greatestBudget, Cond.instanceMethod yX3_greatestBudget, Cond.selects RX3 yX3_greatestBudget yX3_greatestBudget, Cond.code yX3_greatestBudget cX3_greatestBudget 1 (some .int), Cond.methodLink RX3 56 yX3_isHigh, Cond.methodLink RX5 117 yX3_nextRelease, Cond.instanceMethod yX3_nextRelease, Cond.selects RX3 yX3_nextRelease yX3_nextRelease]
def wsL_law0_r14 : List Cond := [Cond.code yX3_nextRelease cX3_nextRelease 1 (some .int), Cond.static yX5_slotOf, Cond.code yX5_slotOf cX5_slotOf 1 (some .int), Cond.methodLink RX5 207 yJ9_floorMod_7cf53, Cond.static yJ9_floorMod_7cf53, Cond.initialized RJ9, Cond.code yJ9_floorMod_7cf53 cJ9_floorMod_7cf53 3 (some .int), Cond.methodLink RX5 126 yX3_isHigh, Cond.methodLink RX5 133 yX3_newJob, Cond.instanceMethod yX3_newJob, Cond.selects RX3 yX3_newJob yX3_newJob, Cond.code yX3_newJob cX3_newJob 4 (some .int), Cond.methodLink RL 73 yX6_release, Cond.instanceMethod yX6_release, Cond.selects RX6 yX6_release yX6_release, Cond.code yX6_release cX6_release 6 (some .int), Cond.fieldLink RX6 152 "MixedKernelModel" "time" "I", Cond.fieldLink RX6 155 "MixedKernelModel" "mode" "I", Cond.methodLink RX6 149 yX6_place, Cond.instanceMethod yX6_place, Cond.selects RX6 yX6_place yX6_place, Cond.code yX6_place cX6_place 3 (some .int), Cond.methodLink RL 74 yX5_tick, Cond.instanceMethod yX5_tick]
def wsL_law0_r15 : List Cond := [Cond.selects RX5 yX5_tick yX5_tick, Cond.code yX5_tick cX5_tick 1 (some .int), Cond.methodLink RX5 137 yX5_advance, Cond.instanceMethod yX5_advance, Cond.selects RX5 yX5_advance yX5_advance, Cond.code yX5_advance cX5_advance 2 (some .int), Cond.methodLink RX5 229 yX5_firstToRun, Cond.instanceMethod yX5_firstToRun, Cond.selects RX5 yX5_firstToRun yX5_firstToRun, Cond.code yX5_firstToRun cX5_firstToRun 2 (some .int), Cond.methodLink RX5 232 yX0_put, Cond.instanceMethod yX0_put, Cond.selects RX0 yX0_put yX0_put, Cond.code yX0_put cX0_put 2 none, Cond.fieldLink RX0 13 "MixedKernel$Latest" "total" "I", Cond.methodLink RX0 17 yJ9_floorMod_7cf53, Cond.methodLink RX5 235 yX5_settle, Cond.instanceMethod yX5_settle, Cond.selects RX5 yX5_settle yX5_settle, Cond.code yX5_settle cX5_settle 1 none, Cond.fieldLink RX5 192 "MixedKernel" "idleTicks" "I", Cond.fieldLink RX5 204 "MixedKernel" "latestIdle" "I", Cond.methodLink RX5 238 yX5_charge, Cond.instanceMethod yX5_charge]
def wsL_law0_r16 : List Cond := [Cond.selects RX5 yX5_charge yX5_charge, Cond.code yX5_charge cX5_charge 4 none, Cond.methodLink RX5 241 yX3_chargeFirst, Cond.instanceMethod yX3_chargeFirst, Cond.selects RX3 yX3_chargeFirst yX3_chargeFirst, Cond.code yX3_chargeFirst cX3_chargeFirst 3 (some .boolean), Cond.methodLink RX3 64 yX3_isLate, Cond.instanceMethod yX3_isLate, Cond.selects RX3 yX3_isLate yX3_isLate, Cond.code yX3_isLate cX3_isLate 3 (some .boolean), Cond.methodLink RX5 250 yX5_becomeHigh, Cond.instanceMethod yX5_becomeHigh, Cond.selects RX5 yX5_becomeHigh yX5_becomeHigh, Cond.code yX5_becomeHigh cX5_becomeHigh 2 none, Cond.fieldLink RX5 201 "MixedKernel" "givenUp" "I", Cond.methodLink RX5 253 yX3_giveUpPending, Cond.instanceMethod yX3_giveUpPending, Cond.selects RX3 yX3_giveUpPending yX3_giveUpPending, Cond.code yX3_giveUpPending cX3_giveUpPending 3 (some .int), Cond.methodLink RL 77 yX6_tick, Cond.instanceMethod yX6_tick, Cond.selects RX6 yX6_tick yX6_tick, Cond.code yX6_tick cX6_tick 1 (some .int), Cond.methodLink RX6 179 yX6_oneTick]
def wsL_law0_r17 : List Cond := [Cond.instanceMethod yX6_oneTick, Cond.selects RX6 yX6_oneTick yX6_oneTick, Cond.code yX6_oneTick cX6_oneTick 3 (some .int), Cond.fieldLink RX6 173 "MixedKernelModel" "idles" "I", Cond.fieldLink RX6 176 "MixedKernelModel" "latestIdle" "I", Cond.methodLink RX6 170 yX6_charge, Cond.instanceMethod yX6_charge, Cond.selects RX6 yX6_charge yX6_charge, Cond.code yX6_charge cX6_charge 3 none, Cond.fieldLink RX6 164 "MixedKernelModel" "changes" "I", Cond.methodLink RX6 161 yX6_firstJob, Cond.instanceMethod yX6_firstJob, Cond.selects RX6 yX6_firstJob yX6_firstJob, Cond.code yX6_firstJob cX6_firstJob 3 (some .int), Cond.methodLink RX6 167 yX6_giveUp, Cond.instanceMethod yX6_giveUp, Cond.selects RX6 yX6_giveUp yX6_giveUp, Cond.code yX6_giveUp cX6_giveUp 3 none, Cond.fieldLink RX6 158 "MixedKernelModel" "givenUp" "I", Cond.methodLink RL 78 yL_run, Cond.static yL_run, Cond.codeWith yL_run cL_run 4 (some .int) [(0, 9, 12, 13)], Cond.methodLink RL 27 yX5_run, Cond.instanceMethod yX5_run]
def wsL_law0_r18 : List Cond := [Cond.selects RX5 yX5_run yX5_run, Cond.code yX5_run cX5_run 4 (some .int), Cond.methodLink RL 80 yX6_run, Cond.instanceMethod yX6_run, Cond.selects RX6 yX6_run yX6_run, Cond.code yX6_run cX6_run 4 (some .int), Cond.methodLink RL 81 yX5_assign, Cond.instanceMethod yX5_assign, Cond.selects RX5 yX5_assign yX5_assign, Cond.code yX5_assign cX5_assign 3 (some .boolean), Cond.methodLink RX5 143 yX4_lastThatPasses, Cond.instanceMethod yX4_lastThatPasses, Cond.selects RX4 yX4_lastThatPasses yX4_lastThatPasses, Cond.code yX4_lastThatPasses cX4_lastThatPasses 5 (some .int), Cond.methodLink RX5 147 yX1_moveBack, Cond.methodLink RL 85 yX6_assign, Cond.instanceMethod yX6_assign, Cond.selects RX6 yX6_assign yX6_assign, Cond.code yX6_assign cX6_assign 4 (some .boolean), Cond.methodLink RX6 182 yX6_passes, Cond.instanceMethod yX6_passes, Cond.selects RX6 yX6_passes yX6_passes, Cond.code yX6_passes cX6_passes 3 (some .boolean), Cond.methodLink RL 86 yL_response]
def wsL_law0_r19 : List Cond := [Cond.static yL_response, Cond.codeWith yL_response cL_response 5 (some .int) [(0, 10, 13, 21), (0, 10, 17, 13)], Cond.methodLink RL 31 yX5_response, Cond.instanceMethod yX5_response, Cond.selects RX5 yX5_response yX5_response, Cond.code yX5_response cX5_response 4 (some .int), Cond.methodLink RX5 153 yX4_lowResponse, Cond.methodLink RX5 157 yX4_bound, Cond.methodLink RL 88 yX6_response, Cond.instanceMethod yX6_response, Cond.selects RX6 yX6_response yX6_response, Cond.code yX6_response cX6_response 4 (some .int), Cond.methodLink RX6 185 yX6_planPlace, Cond.instanceMethod yX6_planPlace, Cond.selects RX6 yX6_planPlace yX6_planPlace, Cond.code yX6_planPlace cX6_planPlace 3 (some .int), Cond.methodLink RL 89 yL_ended, Cond.static yL_ended, Cond.codeWith yL_ended cL_ended 5 (some .int) [(0, 10, 13, 21)], Cond.methodLink RL 34 yX5_ended, Cond.instanceMethod yX5_ended, Cond.selects RX5 yX5_ended yX5_ended, Cond.code yX5_ended cX5_ended 3 (some .int), Cond.methodLink RX5 160 yX3_keeps]
def wsL_law0_r20 : List Cond := [Cond.instanceMethod yX3_keeps, Cond.selects RX3 yX3_keeps yX3_keeps, Cond.code yX3_keeps cX3_keeps 2 (some .boolean), Cond.methodLink RX5 167 yX5_slotOf, Cond.methodLink RL 91 yX6_ended, Cond.instanceMethod yX6_ended, Cond.selects RX6 yX6_ended yX6_ended, Cond.code yX6_ended cX6_ended 4 (some .int), Cond.methodLink RL 92 yL_about, Cond.static yL_about, Cond.codeWith yL_about cL_about 5 (some .int) [(0, 10, 13, 21), (0, 10, 17, 13)], Cond.methodLink RL 37 yX5_about, Cond.instanceMethod yX5_about, Cond.selects RX5 yX5_about yX5_about, Cond.code yX5_about cX5_about 4 (some .int), Cond.methodLink RX5 176 yX3_lateJobs, Cond.instanceMethod yX3_lateJobs, Cond.selects RX3 yX3_lateJobs yX3_lateJobs, Cond.code yX3_lateJobs cX3_lateJobs 4 (some .int), Cond.methodLink RL 94 yX6_about, Cond.instanceMethod yX6_about, Cond.selects RX6 yX6_about yX6_about, Cond.code yX6_about cX6_about 3 (some .int), Cond.methodLink RX6 188 yX6_late]
def wsL_law0_r21 : List Cond := [Cond.instanceMethod yX6_late, Cond.selects RX6 yX6_late yX6_late, Cond.code yX6_late cX6_late 4 (some .int), Cond.methodLink RL 95 yL_witness, Cond.static yL_witness, Cond.codeWith yL_witness cL_witness 5 (some .int) [(0, 10, 13, 21), (0, 10, 17, 13)], Cond.methodLink RL 40 yX5_witness, Cond.instanceMethod yX5_witness, Cond.selects RX5 yX5_witness yX5_witness, Cond.code yX5_witness cX5_witness 3 (some .int), Cond.methodLink RX5 179 yX2_releases, Cond.instanceMethod yX2_releases, Cond.selects RX2 yX2_releases yX2_releases, Cond.code yX2_releases cX2_releases 1 (some .int), Cond.methodLink RX2 34 yX2_releasesBefore, Cond.instanceMethod yX2_releasesBefore, Cond.selects RX2 yX2_releasesBefore yX2_releasesBefore, Cond.code yX2_releasesBefore cX2_releasesBefore 4 (some .int), Cond.methodLink RX5 182 yX2_timeOf, Cond.instanceMethod yX2_timeOf, Cond.selects RX2 yX2_timeOf yX2_timeOf, Cond.code yX2_timeOf cX2_timeOf 4 (some .int), Cond.methodLink RX5 185 yX2_taskOf, Cond.instanceMethod yX2_taskOf]
def wsL_law0_r22 : List Cond := [Cond.selects RX2 yX2_taskOf yX2_taskOf, Cond.code yX2_taskOf cX2_taskOf 5 (some .int), Cond.methodLink RX2 38 yX2_timeOf, Cond.methodLink RX2 41 yX2_isReleaseTime, Cond.static yX2_isReleaseTime, Cond.code yX2_isReleaseTime cX2_isReleaseTime 2 (some .boolean), Cond.methodLink RL 97 yX6_witness, Cond.instanceMethod yX6_witness, Cond.selects RX6 yX6_witness yX6_witness, Cond.code yX6_witness cX6_witness 8 (some .int), Cond.methodLink RL 98 yL_trace, Cond.static yL_trace, Cond.codeWith yL_trace cL_trace 4 (some .int) [(0, 9, 12, 21)], Cond.methodLink RL 43 yX5_trace, Cond.instanceMethod yX5_trace, Cond.selects RX5 yX5_trace yX5_trace, Cond.code yX5_trace cX5_trace 2 (some .int), Cond.methodLink RX5 188 yX0_keeps, Cond.instanceMethod yX0_keeps, Cond.selects RX0 yX0_keeps yX0_keeps, Cond.code yX0_keeps cX0_keeps 2 (some .boolean), Cond.methodLink RX5 189 yX0_back, Cond.instanceMethod yX0_back, Cond.selects RX0 yX0_back yX0_back]
def wsL_law0_r23 : List Cond := [Cond.code yX0_back cX0_back 2 (some .int), Cond.methodLink RL 100 yX6_trace, Cond.instanceMethod yX6_trace, Cond.selects RX6 yX6_trace yX6_trace, Cond.code yX6_trace cX6_trace 2 (some .int), Cond.methodLink RL 101 yL_changed, Cond.static yL_changed, Cond.codeWith yL_changed cL_changed 4 (some .int) [(0, 9, 12, 21)], Cond.methodLink RL 46 yX5_changed, Cond.instanceMethod yX5_changed, Cond.selects RX5 yX5_changed yX5_changed, Cond.code yX5_changed cX5_changed 2 (some .int), Cond.methodLink RL 103 yX6_changed, Cond.instanceMethod yX6_changed, Cond.selects RX6 yX6_changed yX6_changed, Cond.code yX6_changed cX6_changed 2 (some .int), Cond.methodLink RL 104 yL_count, Cond.static yL_count, Cond.codeWith yL_count cL_count 4 (some .int) [(0, 9, 12, 13)], Cond.methodLink RL 49 yX5_count, Cond.instanceMethod yX5_count, Cond.selects RX5 yX5_count yX5_count, Cond.code yX5_count cX5_count 2 (some .int), Cond.methodLink RX5 198 yX5_pendingJobs]
def wsL_law0_r24 : List Cond := [Cond.instanceMethod yX5_pendingJobs, Cond.selects RX5 yX5_pendingJobs yX5_pendingJobs, Cond.code yX5_pendingJobs cX5_pendingJobs 3 (some .int), Cond.methodLink RL 106 yX6_count, Cond.instanceMethod yX6_count, Cond.selects RX6 yX6_count yX6_count, Cond.code yX6_count cX6_count 2 (some .int), Cond.methodLink RX6 191 yX6_sum, Cond.instanceMethod yX6_sum, Cond.selects RX6 yX6_sum yX6_sum, Cond.code yX6_sum cX6_sum 4 (some .int)]
def wsL_law0 : List Cond := (wsL_law0_r1 ++ (wsL_law0_r2 ++ (wsL_law0_r3 ++ (wsL_law0_r4 ++ (wsL_law0_r5 ++ (wsL_law0_r6 ++ (wsL_law0_r7 ++ (wsL_law0_r8 ++ (wsL_law0_r9 ++ (wsL_law0_r10 ++ (wsL_law0_r11 ++ (wsL_law0_r12 ++ (wsL_law0_r13 ++ (wsL_law0_r14 ++ (wsL_law0_r15 ++ (wsL_law0_r16 ++ (wsL_law0_r17 ++ (wsL_law0_r18 ++ (wsL_law0_r19 ++ (wsL_law0_r20 ++ (wsL_law0_r21 ++ (wsL_law0_r22 ++ (wsL_law0_r23 ++ wsL_law0_r24))))))))))))))))))))))) ++ wsX50 ++ wsX60 ++ wsX40 ++ wsX10 ++ wsX20 ++ wsX00 ++ wsX30 ++ ([] : List Cond)
def wsL_law : List Cond := wsL_law0 ++ (vx_at0 RX5 68 "java/lang/IllegalArgumentException" ["java/lang/RuntimeException", "java/lang/Exception"]).filter goodWord ++ (vx_at0 RX5 74 "java/lang/IllegalStateException" ["java/lang/RuntimeException", "java/lang/Exception"]).filter goodWord ++ (vx_at0 RX5 99 "java/util/NoSuchElementException" ["java/lang/RuntimeException", "java/lang/Exception"]).filter goodWord
theorem dX0_init_0 : decode cX0_init 0 = .ok (.aload_n 0, 1) := by decide +kernel
theorem dX0_init_1 : decode cX0_init 1 = .ok (.invokespecial 1, 3) := by decide +kernel
theorem dX0_init_4 : decode cX0_init 4 = .ok (.aload_n 0, 1) := by decide +kernel
theorem dX0_init_5 : decode cX0_init 5 = .ok (.iload_n 1, 1) := by decide +kernel
theorem dX0_init_6 : decode cX0_init 6 = .ok (.newarray .int, 2) := by decide +kernel
theorem dX0_init_8 : decode cX0_init 8 = .ok (.putfield 7, 3) := by decide +kernel
theorem dX0_init_11 : decode cX0_init 11 = .ok (.return_, 1) := by decide +kernel
set_option maxRecDepth 20000 in
theorem ggX0_put_J9_floorMod_7cf53 : GoodIn wsX0_put wsJ9_floorMod_7cf53 := goodIn_r _ [6] (by decide +kernel) (by decide +kernel)
set_option maxRecDepth 20000 in
theorem gX0_put_J9_floorMod_7cf53 : GoodIn wsX0_put (va_wsS RX0 17 yJ9_floorMod_7cf53 wsJ9_floorMod_7cf53) := goodIn_app (goodIn_of _ (by decide +kernel)) ggX0_put_J9_floorMod_7cf53
theorem dX0_put_0 : decode cX0_put 0 = .ok (.aload_n 0, 1) := by decide +kernel
theorem dX0_put_1 : decode cX0_put 1 = .ok (.getfield 7, 3) := by decide +kernel
theorem dX0_put_4 : decode cX0_put 4 = .ok (.aload_n 0, 1) := by decide +kernel
theorem dX0_put_5 : decode cX0_put 5 = .ok (.getfield 13, 3) := by decide +kernel
theorem dX0_put_8 : decode cX0_put 8 = .ok (.aload_n 0, 1) := by decide +kernel
theorem dX0_put_9 : decode cX0_put 9 = .ok (.getfield 7, 3) := by decide +kernel
theorem dX0_put_12 : decode cX0_put 12 = .ok (.arraylength, 1) := by decide +kernel
theorem dX0_put_13 : decode cX0_put 13 = .ok (.invokestatic 17, 3) := by decide +kernel
theorem dX0_put_16 : decode cX0_put 16 = .ok (.iload_n 1, 1) := by decide +kernel
theorem dX0_put_17 : decode cX0_put 17 = .ok (.iastore, 1) := by decide +kernel
theorem dX0_put_18 : decode cX0_put 18 = .ok (.aload_n 0, 1) := by decide +kernel
theorem dX0_put_19 : decode cX0_put 19 = .ok (.dup, 1) := by decide +kernel
theorem dX0_put_20 : decode cX0_put 20 = .ok (.getfield 13, 3) := by decide +kernel
theorem dX0_put_23 : decode cX0_put 23 = .ok (.iconst 1, 1) := by decide +kernel
theorem dX0_put_24 : decode cX0_put 24 = .ok (.iadd, 1) := by decide +kernel
theorem dX0_put_25 : decode cX0_put 25 = .ok (.putfield 13, 3) := by decide +kernel
theorem dX0_put_28 : decode cX0_put 28 = .ok (.return_, 1) := by decide +kernel
theorem dX0_keeps_0 : decode cX0_keeps 0 = .ok (.iload_n 1, 1) := by decide +kernel
theorem dX0_keeps_1 : decode cX0_keeps 1 = .ok (.ifCond .lt 24, 3) := by decide +kernel
theorem dX0_keeps_4 : decode cX0_keeps 4 = .ok (.iload_n 1, 1) := by decide +kernel
theorem dX0_keeps_5 : decode cX0_keeps 5 = .ok (.aload_n 0, 1) := by decide +kernel
theorem dX0_keeps_6 : decode cX0_keeps 6 = .ok (.getfield 7, 3) := by decide +kernel
theorem dX0_keeps_9 : decode cX0_keeps 9 = .ok (.arraylength, 1) := by decide +kernel
theorem dX0_keeps_10 : decode cX0_keeps 10 = .ok (.if_icmp .ge 15, 3) := by decide +kernel
theorem dX0_keeps_13 : decode cX0_keeps 13 = .ok (.iload_n 1, 1) := by decide +kernel
theorem dX0_keeps_14 : decode cX0_keeps 14 = .ok (.aload_n 0, 1) := by decide +kernel
theorem dX0_keeps_15 : decode cX0_keeps 15 = .ok (.getfield 13, 3) := by decide +kernel
theorem dX0_keeps_18 : decode cX0_keeps 18 = .ok (.if_icmp .ge 7, 3) := by decide +kernel
theorem dX0_keeps_21 : decode cX0_keeps 21 = .ok (.iconst 1, 1) := by decide +kernel
theorem dX0_keeps_22 : decode cX0_keeps 22 = .ok (.goto 4, 3) := by decide +kernel
theorem dX0_keeps_25 : decode cX0_keeps 25 = .ok (.iconst 0, 1) := by decide +kernel
theorem dX0_keeps_26 : decode cX0_keeps 26 = .ok (.ireturn, 1) := by decide +kernel
set_option maxRecDepth 20000 in
theorem ggX0_back_J9_floorMod_7cf53 : GoodIn wsX0_back wsJ9_floorMod_7cf53 := goodIn_r _ [6] (by decide +kernel) (by decide +kernel)
set_option maxRecDepth 20000 in
theorem gX0_back_J9_floorMod_7cf53 : GoodIn wsX0_back (va_wsS RX0 17 yJ9_floorMod_7cf53 wsJ9_floorMod_7cf53) := goodIn_app (goodIn_of _ (by decide +kernel)) ggX0_back_J9_floorMod_7cf53
theorem dX0_back_0 : decode cX0_back 0 = .ok (.aload_n 0, 1) := by decide +kernel
theorem dX0_back_1 : decode cX0_back 1 = .ok (.getfield 7, 3) := by decide +kernel
theorem dX0_back_4 : decode cX0_back 4 = .ok (.aload_n 0, 1) := by decide +kernel
theorem dX0_back_5 : decode cX0_back 5 = .ok (.getfield 13, 3) := by decide +kernel
theorem dX0_back_8 : decode cX0_back 8 = .ok (.iconst 1, 1) := by decide +kernel
theorem dX0_back_9 : decode cX0_back 9 = .ok (.isub, 1) := by decide +kernel
theorem dX0_back_10 : decode cX0_back 10 = .ok (.iload_n 1, 1) := by decide +kernel
theorem dX0_back_11 : decode cX0_back 11 = .ok (.isub, 1) := by decide +kernel
theorem dX0_back_12 : decode cX0_back 12 = .ok (.aload_n 0, 1) := by decide +kernel
theorem dX0_back_13 : decode cX0_back 13 = .ok (.getfield 7, 3) := by decide +kernel
theorem dX0_back_16 : decode cX0_back 16 = .ok (.arraylength, 1) := by decide +kernel
theorem dX0_back_17 : decode cX0_back 17 = .ok (.invokestatic 17, 3) := by decide +kernel
theorem dX0_back_20 : decode cX0_back 20 = .ok (.iaload, 1) := by decide +kernel
theorem dX0_back_21 : decode cX0_back 21 = .ok (.ireturn, 1) := by decide +kernel
theorem dX1_init_0 : decode cX1_init 0 = .ok (.aload_n 0, 1) := by decide +kernel
theorem dX1_init_1 : decode cX1_init 1 = .ok (.invokespecial 3, 3) := by decide +kernel
theorem dX1_init_4 : decode cX1_init 4 = .ok (.aload_n 0, 1) := by decide +kernel
theorem dX1_init_5 : decode cX1_init 5 = .ok (.bipush 12, 2) := by decide +kernel
theorem dX1_init_7 : decode cX1_init 7 = .ok (.newarray .int, 2) := by decide +kernel
theorem dX1_init_9 : decode cX1_init 9 = .ok (.putfield 9, 3) := by decide +kernel
theorem dX1_init_12 : decode cX1_init 12 = .ok (.return_, 1) := by decide +kernel
theorem dX1_placeOf_0 : decode cX1_placeOf 0 = .ok (.iconst 0, 1) := by decide +kernel
theorem dX1_placeOf_1 : decode cX1_placeOf 1 = .ok (.istore_n 2, 1) := by decide +kernel
theorem dX1_placeOf_2 : decode cX1_placeOf 2 = .ok (.iload_n 2, 1) := by decide +kernel
theorem dX1_placeOf_3 : decode cX1_placeOf 3 = .ok (.aload_n 0, 1) := by decide +kernel
theorem dX1_placeOf_4 : decode cX1_placeOf 4 = .ok (.getfield 15, 3) := by decide +kernel
theorem dX1_placeOf_7 : decode cX1_placeOf 7 = .ok (.if_icmp .ge 21, 3) := by decide +kernel
theorem dX1_placeOf_10 : decode cX1_placeOf 10 = .ok (.aload_n 0, 1) := by decide +kernel
theorem dX1_placeOf_11 : decode cX1_placeOf 11 = .ok (.getfield 9, 3) := by decide +kernel
theorem dX1_placeOf_14 : decode cX1_placeOf 14 = .ok (.iload_n 2, 1) := by decide +kernel
theorem dX1_placeOf_15 : decode cX1_placeOf 15 = .ok (.iaload, 1) := by decide +kernel
theorem dX1_placeOf_16 : decode cX1_placeOf 16 = .ok (.iload_n 1, 1) := by decide +kernel
theorem dX1_placeOf_17 : decode cX1_placeOf 17 = .ok (.if_icmp .ne 5, 3) := by decide +kernel
theorem dX1_placeOf_20 : decode cX1_placeOf 20 = .ok (.iload_n 2, 1) := by decide +kernel
theorem dX1_placeOf_21 : decode cX1_placeOf 21 = .ok (.ireturn, 1) := by decide +kernel
theorem dX1_placeOf_22 : decode cX1_placeOf 22 = .ok (.iinc 2 1, 3) := by decide +kernel
theorem dX1_placeOf_25 : decode cX1_placeOf 25 = .ok (.goto (-23), 3) := by decide +kernel
theorem dX1_placeOf_28 : decode cX1_placeOf 28 = .ok (.iconst (-1), 1) := by decide +kernel
theorem dX1_placeOf_29 : decode cX1_placeOf 29 = .ok (.ireturn, 1) := by decide +kernel
theorem dX1_become_0 : decode cX1_become 0 = .ok (.aload_n 1, 1) := by decide +kernel
theorem dX1_become_1 : decode cX1_become 1 = .ok (.getfield 9, 3) := by decide +kernel
theorem dX1_become_4 : decode cX1_become 4 = .ok (.iconst 0, 1) := by decide +kernel
theorem dX1_become_5 : decode cX1_become 5 = .ok (.aload_n 0, 1) := by decide +kernel
theorem dX1_become_6 : decode cX1_become 6 = .ok (.getfield 9, 3) := by decide +kernel
theorem dX1_become_9 : decode cX1_become 9 = .ok (.iconst 0, 1) := by decide +kernel
theorem dX1_become_10 : decode cX1_become 10 = .ok (.bipush 12, 2) := by decide +kernel
theorem dX1_become_12 : decode cX1_become 12 = .ok (.invokestatic 19, 3) := by decide +kernel
theorem dX1_become_15 : decode cX1_become 15 = .ok (.aload_n 0, 1) := by decide +kernel
theorem dX1_become_16 : decode cX1_become 16 = .ok (.aload_n 1, 1) := by decide +kernel
theorem dX1_become_17 : decode cX1_become 17 = .ok (.getfield 15, 3) := by decide +kernel
theorem dX1_become_20 : decode cX1_become 20 = .ok (.putfield 15, 3) := by decide +kernel
theorem dX1_become_23 : decode cX1_become 23 = .ok (.return_, 1) := by decide +kernel
theorem dX1_insert_0 : decode cX1_insert 0 = .ok (.aload_n 0, 1) := by decide +kernel
theorem dX1_insert_1 : decode cX1_insert 1 = .ok (.getfield 15, 3) := by decide +kernel
theorem dX1_insert_4 : decode cX1_insert 4 = .ok (.bipush 12, 2) := by decide +kernel
theorem dX1_insert_6 : decode cX1_insert 6 = .ok (.if_icmp .ge 15, 3) := by decide +kernel
theorem dX1_insert_9 : decode cX1_insert 9 = .ok (.iload_n 1, 1) := by decide +kernel
theorem dX1_insert_10 : decode cX1_insert 10 = .ok (.ifCond .lt 11, 3) := by decide +kernel
theorem dX1_insert_13 : decode cX1_insert 13 = .ok (.iload_n 1, 1) := by decide +kernel
theorem dX1_insert_14 : decode cX1_insert 14 = .ok (.aload_n 0, 1) := by decide +kernel
theorem dX1_insert_15 : decode cX1_insert 15 = .ok (.getfield 15, 3) := by decide +kernel
theorem dX1_insert_18 : decode cX1_insert 18 = .ok (.if_icmp .le 4, 3) := by decide +kernel
theorem dX1_insert_21 : decode cX1_insert 21 = .ok (.return_, 1) := by decide +kernel
theorem dX1_insert_22 : decode cX1_insert 22 = .ok (.aload_n 0, 1) := by decide +kernel
theorem dX1_insert_23 : decode cX1_insert 23 = .ok (.getfield 15, 3) := by decide +kernel
theorem dX1_insert_26 : decode cX1_insert 26 = .ok (.istore_n 3, 1) := by decide +kernel
theorem dX1_insert_27 : decode cX1_insert 27 = .ok (.iload_n 3, 1) := by decide +kernel
theorem dX1_insert_28 : decode cX1_insert 28 = .ok (.iload_n 1, 1) := by decide +kernel
theorem dX1_insert_29 : decode cX1_insert 29 = .ok (.if_icmp .le 23, 3) := by decide +kernel
theorem dX1_insert_32 : decode cX1_insert 32 = .ok (.aload_n 0, 1) := by decide +kernel
theorem dX1_insert_33 : decode cX1_insert 33 = .ok (.getfield 9, 3) := by decide +kernel
theorem dX1_insert_36 : decode cX1_insert 36 = .ok (.iload_n 3, 1) := by decide +kernel
theorem dX1_insert_37 : decode cX1_insert 37 = .ok (.aload_n 0, 1) := by decide +kernel
theorem dX1_insert_38 : decode cX1_insert 38 = .ok (.getfield 9, 3) := by decide +kernel
theorem dX1_insert_41 : decode cX1_insert 41 = .ok (.iload_n 3, 1) := by decide +kernel
theorem dX1_insert_42 : decode cX1_insert 42 = .ok (.iconst 1, 1) := by decide +kernel
theorem dX1_insert_43 : decode cX1_insert 43 = .ok (.isub, 1) := by decide +kernel
theorem dX1_insert_44 : decode cX1_insert 44 = .ok (.iaload, 1) := by decide +kernel
theorem dX1_insert_45 : decode cX1_insert 45 = .ok (.iastore, 1) := by decide +kernel
theorem dX1_insert_46 : decode cX1_insert 46 = .ok (.iinc 3 (-1), 3) := by decide +kernel
theorem dX1_insert_49 : decode cX1_insert 49 = .ok (.goto (-22), 3) := by decide +kernel
theorem dX1_insert_52 : decode cX1_insert 52 = .ok (.aload_n 0, 1) := by decide +kernel
theorem dX1_insert_53 : decode cX1_insert 53 = .ok (.getfield 9, 3) := by decide +kernel
theorem dX1_insert_56 : decode cX1_insert 56 = .ok (.iload_n 1, 1) := by decide +kernel
theorem dX1_insert_57 : decode cX1_insert 57 = .ok (.iload_n 2, 1) := by decide +kernel
theorem dX1_insert_58 : decode cX1_insert 58 = .ok (.iastore, 1) := by decide +kernel
theorem dX1_insert_59 : decode cX1_insert 59 = .ok (.aload_n 0, 1) := by decide +kernel
theorem dX1_insert_60 : decode cX1_insert 60 = .ok (.dup, 1) := by decide +kernel
theorem dX1_insert_61 : decode cX1_insert 61 = .ok (.getfield 15, 3) := by decide +kernel
theorem dX1_insert_64 : decode cX1_insert 64 = .ok (.iconst 1, 1) := by decide +kernel
theorem dX1_insert_65 : decode cX1_insert 65 = .ok (.iadd, 1) := by decide +kernel
theorem dX1_insert_66 : decode cX1_insert 66 = .ok (.putfield 15, 3) := by decide +kernel
theorem dX1_insert_69 : decode cX1_insert 69 = .ok (.return_, 1) := by decide +kernel
set_option maxRecDepth 20000 in
theorem ggX1_drop_X1_placeOf : GoodIn wsX1_drop wsX1_placeOf := goodIn_r _ [6, 1, 7, 12, 13] (by decide +kernel) (by decide +kernel)
set_option maxRecDepth 20000 in
theorem gX1_drop_X1_placeOf : GoodIn wsX1_drop (wsV RX1 25 RX1 yX1_placeOf wsX1_placeOf) := goodIn_app (goodIn_of _ (by decide +kernel)) ggX1_drop_X1_placeOf
set_option maxRecDepth 20000 in
theorem ggX1_drop_X1_moveBack : GoodIn wsX1_drop wsX1_moveBack := goodIn_r _ [11, 7, 12, 13] (by decide +kernel) (by decide +kernel)
set_option maxRecDepth 20000 in
theorem gX1_drop_X1_moveBack : GoodIn wsX1_drop (wsV RX1 29 RX1 yX1_moveBack wsX1_moveBack) := goodIn_app (goodIn_of _ (by decide +kernel)) ggX1_drop_X1_moveBack
theorem dX1_drop_0 : decode cX1_drop 0 = .ok (.aload_n 0, 1) := by decide +kernel
theorem dX1_drop_1 : decode cX1_drop 1 = .ok (.iload_n 1, 1) := by decide +kernel
theorem dX1_drop_2 : decode cX1_drop 2 = .ok (.invokevirtual 25, 3) := by decide +kernel
theorem dX1_drop_5 : decode cX1_drop 5 = .ok (.istore_n 2, 1) := by decide +kernel
theorem dX1_drop_6 : decode cX1_drop 6 = .ok (.iload_n 2, 1) := by decide +kernel
theorem dX1_drop_7 : decode cX1_drop 7 = .ok (.iconst (-1), 1) := by decide +kernel
theorem dX1_drop_8 : decode cX1_drop 8 = .ok (.if_icmp .ne 4, 3) := by decide +kernel
theorem dX1_drop_11 : decode cX1_drop 11 = .ok (.return_, 1) := by decide +kernel
theorem dX1_drop_12 : decode cX1_drop 12 = .ok (.aload_n 0, 1) := by decide +kernel
theorem dX1_drop_13 : decode cX1_drop 13 = .ok (.iload_n 2, 1) := by decide +kernel
theorem dX1_drop_14 : decode cX1_drop 14 = .ok (.aload_n 0, 1) := by decide +kernel
theorem dX1_drop_15 : decode cX1_drop 15 = .ok (.getfield 15, 3) := by decide +kernel
theorem dX1_drop_18 : decode cX1_drop 18 = .ok (.iconst 1, 1) := by decide +kernel
theorem dX1_drop_19 : decode cX1_drop 19 = .ok (.isub, 1) := by decide +kernel
theorem dX1_drop_20 : decode cX1_drop 20 = .ok (.invokevirtual 29, 3) := by decide +kernel
theorem dX1_drop_23 : decode cX1_drop 23 = .ok (.aload_n 0, 1) := by decide +kernel
theorem dX1_drop_24 : decode cX1_drop 24 = .ok (.dup, 1) := by decide +kernel
theorem dX1_drop_25 : decode cX1_drop 25 = .ok (.getfield 15, 3) := by decide +kernel
theorem dX1_drop_28 : decode cX1_drop 28 = .ok (.iconst 1, 1) := by decide +kernel
theorem dX1_drop_29 : decode cX1_drop 29 = .ok (.isub, 1) := by decide +kernel
theorem dX1_drop_30 : decode cX1_drop 30 = .ok (.putfield 15, 3) := by decide +kernel
theorem dX1_drop_33 : decode cX1_drop 33 = .ok (.return_, 1) := by decide +kernel
theorem dX1_moveBack_0 : decode cX1_moveBack 0 = .ok (.aload_n 0, 1) := by decide +kernel
theorem dX1_moveBack_1 : decode cX1_moveBack 1 = .ok (.getfield 9, 3) := by decide +kernel
theorem dX1_moveBack_4 : decode cX1_moveBack 4 = .ok (.iload_n 1, 1) := by decide +kernel
theorem dX1_moveBack_5 : decode cX1_moveBack 5 = .ok (.iaload, 1) := by decide +kernel
theorem dX1_moveBack_6 : decode cX1_moveBack 6 = .ok (.istore_n 3, 1) := by decide +kernel
theorem dX1_moveBack_7 : decode cX1_moveBack 7 = .ok (.iload_n 1, 1) := by decide +kernel
theorem dX1_moveBack_8 : decode cX1_moveBack 8 = .ok (.istore 4, 2) := by decide +kernel
theorem dX1_moveBack_10 : decode cX1_moveBack 10 = .ok (.iload 4, 2) := by decide +kernel
theorem dX1_moveBack_12 : decode cX1_moveBack 12 = .ok (.iload_n 2, 1) := by decide +kernel
theorem dX1_moveBack_13 : decode cX1_moveBack 13 = .ok (.if_icmp .ge 25, 3) := by decide +kernel
theorem dX1_moveBack_16 : decode cX1_moveBack 16 = .ok (.aload_n 0, 1) := by decide +kernel
theorem dX1_moveBack_17 : decode cX1_moveBack 17 = .ok (.getfield 9, 3) := by decide +kernel
theorem dX1_moveBack_20 : decode cX1_moveBack 20 = .ok (.iload 4, 2) := by decide +kernel
theorem dX1_moveBack_22 : decode cX1_moveBack 22 = .ok (.aload_n 0, 1) := by decide +kernel
theorem dX1_moveBack_23 : decode cX1_moveBack 23 = .ok (.getfield 9, 3) := by decide +kernel
theorem dX1_moveBack_26 : decode cX1_moveBack 26 = .ok (.iload 4, 2) := by decide +kernel
theorem dX1_moveBack_28 : decode cX1_moveBack 28 = .ok (.iconst 1, 1) := by decide +kernel
theorem dX1_moveBack_29 : decode cX1_moveBack 29 = .ok (.iadd, 1) := by decide +kernel
theorem dX1_moveBack_30 : decode cX1_moveBack 30 = .ok (.iaload, 1) := by decide +kernel
theorem dX1_moveBack_31 : decode cX1_moveBack 31 = .ok (.iastore, 1) := by decide +kernel
theorem dX1_moveBack_32 : decode cX1_moveBack 32 = .ok (.iinc 4 1, 3) := by decide +kernel
theorem dX1_moveBack_35 : decode cX1_moveBack 35 = .ok (.goto (-25), 3) := by decide +kernel
theorem dX1_moveBack_38 : decode cX1_moveBack 38 = .ok (.aload_n 0, 1) := by decide +kernel
theorem dX1_moveBack_39 : decode cX1_moveBack 39 = .ok (.getfield 9, 3) := by decide +kernel
theorem dX1_moveBack_42 : decode cX1_moveBack 42 = .ok (.iload_n 2, 1) := by decide +kernel
theorem dX1_moveBack_43 : decode cX1_moveBack 43 = .ok (.iload_n 3, 1) := by decide +kernel
theorem dX1_moveBack_44 : decode cX1_moveBack 44 = .ok (.iastore, 1) := by decide +kernel
theorem dX1_moveBack_45 : decode cX1_moveBack 45 = .ok (.return_, 1) := by decide +kernel
theorem dX2_init_0 : decode cX2_init 0 = .ok (.aload_n 0, 1) := by decide +kernel
theorem dX2_init_1 : decode cX2_init 1 = .ok (.invokespecial 3, 3) := by decide +kernel
theorem dX2_init_4 : decode cX2_init 4 = .ok (.aload_n 0, 1) := by decide +kernel
theorem dX2_init_5 : decode cX2_init 5 = .ok (.bipush 12, 2) := by decide +kernel
theorem dX2_init_7 : decode cX2_init 7 = .ok (.newarray .int, 2) := by decide +kernel
theorem dX2_init_9 : decode cX2_init 9 = .ok (.putfield 9, 3) := by decide +kernel
theorem dX2_init_12 : decode cX2_init 12 = .ok (.aload_n 0, 1) := by decide +kernel
theorem dX2_init_13 : decode cX2_init 13 = .ok (.bipush 12, 2) := by decide +kernel
theorem dX2_init_15 : decode cX2_init 15 = .ok (.newarray .int, 2) := by decide +kernel
theorem dX2_init_17 : decode cX2_init 17 = .ok (.putfield 15, 3) := by decide +kernel
theorem dX2_init_20 : decode cX2_init 20 = .ok (.return_, 1) := by decide +kernel
theorem dX2_keep_0 : decode cX2_keep 0 = .ok (.aload_n 0, 1) := by decide +kernel
theorem dX2_keep_1 : decode cX2_keep 1 = .ok (.iload_n 2, 1) := by decide +kernel
theorem dX2_keep_2 : decode cX2_keep 2 = .ok (.iconst 1, 1) := by decide +kernel
theorem dX2_keep_3 : decode cX2_keep 3 = .ok (.iadd, 1) := by decide +kernel
theorem dX2_keep_4 : decode cX2_keep 4 = .ok (.putfield 18, 3) := by decide +kernel
theorem dX2_keep_7 : decode cX2_keep 7 = .ok (.iconst 0, 1) := by decide +kernel
theorem dX2_keep_8 : decode cX2_keep 8 = .ok (.istore 4, 2) := by decide +kernel
theorem dX2_keep_10 : decode cX2_keep 10 = .ok (.iload 4, 2) := by decide +kernel
theorem dX2_keep_12 : decode cX2_keep 12 = .ok (.aload_n 0, 1) := by decide +kernel
theorem dX2_keep_13 : decode cX2_keep 13 = .ok (.getfield 18, 3) := by decide +kernel
theorem dX2_keep_16 : decode cX2_keep 16 = .ok (.if_icmp .ge 42, 3) := by decide +kernel
theorem dX2_keep_19 : decode cX2_keep 19 = .ok (.aload_n 0, 1) := by decide +kernel
theorem dX2_keep_20 : decode cX2_keep 20 = .ok (.getfield 9, 3) := by decide +kernel
theorem dX2_keep_23 : decode cX2_keep 23 = .ok (.iload 4, 2) := by decide +kernel
theorem dX2_keep_25 : decode cX2_keep 25 = .ok (.aload_n 1, 1) := by decide +kernel
theorem dX2_keep_26 : decode cX2_keep 26 = .ok (.getfield 22, 3) := by decide +kernel
theorem dX2_keep_29 : decode cX2_keep 29 = .ok (.iload 4, 2) := by decide +kernel
theorem dX2_keep_31 : decode cX2_keep 31 = .ok (.iaload, 1) := by decide +kernel
theorem dX2_keep_32 : decode cX2_keep 32 = .ok (.iastore, 1) := by decide +kernel
theorem dX2_keep_33 : decode cX2_keep 33 = .ok (.aload_n 0, 1) := by decide +kernel
theorem dX2_keep_34 : decode cX2_keep 34 = .ok (.getfield 15, 3) := by decide +kernel
theorem dX2_keep_37 : decode cX2_keep 37 = .ok (.iload 4, 2) := by decide +kernel
theorem dX2_keep_39 : decode cX2_keep 39 = .ok (.aload_n 3, 1) := by decide +kernel
theorem dX2_keep_40 : decode cX2_keep 40 = .ok (.aload_n 1, 1) := by decide +kernel
theorem dX2_keep_41 : decode cX2_keep 41 = .ok (.getfield 22, 3) := by decide +kernel
theorem dX2_keep_44 : decode cX2_keep 44 = .ok (.iload 4, 2) := by decide +kernel
theorem dX2_keep_46 : decode cX2_keep 46 = .ok (.iaload, 1) := by decide +kernel
theorem dX2_keep_47 : decode cX2_keep 47 = .ok (.aaload, 1) := by decide +kernel
theorem dX2_keep_48 : decode cX2_keep 48 = .ok (.getfield 25, 3) := by decide +kernel
theorem dX2_keep_51 : decode cX2_keep 51 = .ok (.iastore, 1) := by decide +kernel
theorem dX2_keep_52 : decode cX2_keep 52 = .ok (.iinc 4 1, 3) := by decide +kernel
theorem dX2_keep_55 : decode cX2_keep 55 = .ok (.goto (-45), 3) := by decide +kernel
theorem dX2_keep_58 : decode cX2_keep 58 = .ok (.aload_n 0, 1) := by decide +kernel
theorem dX2_keep_59 : decode cX2_keep 59 = .ok (.aload_n 3, 1) := by decide +kernel
theorem dX2_keep_60 : decode cX2_keep 60 = .ok (.aload_n 1, 1) := by decide +kernel
theorem dX2_keep_61 : decode cX2_keep 61 = .ok (.getfield 22, 3) := by decide +kernel
theorem dX2_keep_64 : decode cX2_keep 64 = .ok (.iload_n 2, 1) := by decide +kernel
theorem dX2_keep_65 : decode cX2_keep 65 = .ok (.iaload, 1) := by decide +kernel
theorem dX2_keep_66 : decode cX2_keep 66 = .ok (.aaload, 1) := by decide +kernel
theorem dX2_keep_67 : decode cX2_keep 67 = .ok (.getfield 30, 3) := by decide +kernel
theorem dX2_keep_70 : decode cX2_keep 70 = .ok (.putfield 33, 3) := by decide +kernel
theorem dX2_keep_73 : decode cX2_keep 73 = .ok (.return_, 1) := by decide +kernel
set_option maxRecDepth 20000 in
theorem ggX2_releases_X2_releasesBefore : GoodIn wsX2_releases wsX2_releasesBefore := goodIn_r _ [6, 7, 8, 9, 10, 11, 12, 13, 14, 15] (by decide +kernel) (by decide +kernel)
set_option maxRecDepth 20000 in
theorem gX2_releases_X2_releasesBefore : GoodIn wsX2_releases (wsV RX2 34 RX2 yX2_releasesBefore wsX2_releasesBefore) := goodIn_app (goodIn_of _ (by decide +kernel)) ggX2_releases_X2_releasesBefore
theorem dX2_releases_0 : decode cX2_releases 0 = .ok (.aload_n 0, 1) := by decide +kernel
theorem dX2_releases_1 : decode cX2_releases 1 = .ok (.aload_n 0, 1) := by decide +kernel
theorem dX2_releases_2 : decode cX2_releases 2 = .ok (.getfield 33, 3) := by decide +kernel
theorem dX2_releases_5 : decode cX2_releases 5 = .ok (.invokevirtual 34, 3) := by decide +kernel
theorem dX2_releases_8 : decode cX2_releases 8 = .ok (.ireturn, 1) := by decide +kernel
set_option maxRecDepth 20000 in
theorem ggX2_timeOf_X2_releasesBefore : GoodIn wsX2_timeOf wsX2_releasesBefore := goodIn_r _ [6, 7, 8, 9, 10, 11, 12, 13, 14, 15] (by decide +kernel) (by decide +kernel)
set_option maxRecDepth 20000 in
theorem gX2_timeOf_X2_releasesBefore : GoodIn wsX2_timeOf (wsV RX2 34 RX2 yX2_releasesBefore wsX2_releasesBefore) := goodIn_app (goodIn_of _ (by decide +kernel)) ggX2_timeOf_X2_releasesBefore
theorem dX2_timeOf_0 : decode cX2_timeOf 0 = .ok (.iconst 0, 1) := by decide +kernel
theorem dX2_timeOf_1 : decode cX2_timeOf 1 = .ok (.istore_n 2, 1) := by decide +kernel
theorem dX2_timeOf_2 : decode cX2_timeOf 2 = .ok (.sipush 512, 3) := by decide +kernel
theorem dX2_timeOf_5 : decode cX2_timeOf 5 = .ok (.istore_n 3, 1) := by decide +kernel
theorem dX2_timeOf_6 : decode cX2_timeOf 6 = .ok (.iload_n 3, 1) := by decide +kernel
theorem dX2_timeOf_7 : decode cX2_timeOf 7 = .ok (.ifCond .le 35, 3) := by decide +kernel
theorem dX2_timeOf_10 : decode cX2_timeOf 10 = .ok (.iload_n 2, 1) := by decide +kernel
theorem dX2_timeOf_11 : decode cX2_timeOf 11 = .ok (.iload_n 3, 1) := by decide +kernel
theorem dX2_timeOf_12 : decode cX2_timeOf 12 = .ok (.iadd, 1) := by decide +kernel
theorem dX2_timeOf_13 : decode cX2_timeOf 13 = .ok (.aload_n 0, 1) := by decide +kernel
theorem dX2_timeOf_14 : decode cX2_timeOf 14 = .ok (.getfield 33, 3) := by decide +kernel
theorem dX2_timeOf_17 : decode cX2_timeOf 17 = .ok (.if_icmp .ge 18, 3) := by decide +kernel
theorem dX2_timeOf_20 : decode cX2_timeOf 20 = .ok (.aload_n 0, 1) := by decide +kernel
theorem dX2_timeOf_21 : decode cX2_timeOf 21 = .ok (.iload_n 2, 1) := by decide +kernel
theorem dX2_timeOf_22 : decode cX2_timeOf 22 = .ok (.iload_n 3, 1) := by decide +kernel
theorem dX2_timeOf_23 : decode cX2_timeOf 23 = .ok (.iadd, 1) := by decide +kernel
theorem dX2_timeOf_24 : decode cX2_timeOf 24 = .ok (.invokevirtual 34, 3) := by decide +kernel
theorem dX2_timeOf_27 : decode cX2_timeOf 27 = .ok (.iload_n 1, 1) := by decide +kernel
theorem dX2_timeOf_28 : decode cX2_timeOf 28 = .ok (.if_icmp .gt 7, 3) := by decide +kernel
theorem dX2_timeOf_31 : decode cX2_timeOf 31 = .ok (.iload_n 2, 1) := by decide +kernel
theorem dX2_timeOf_32 : decode cX2_timeOf 32 = .ok (.iload_n 3, 1) := by decide +kernel
theorem dX2_timeOf_33 : decode cX2_timeOf 33 = .ok (.iadd, 1) := by decide +kernel
theorem dX2_timeOf_34 : decode cX2_timeOf 34 = .ok (.istore_n 2, 1) := by decide +kernel
theorem dX2_timeOf_35 : decode cX2_timeOf 35 = .ok (.iload_n 3, 1) := by decide +kernel
theorem dX2_timeOf_36 : decode cX2_timeOf 36 = .ok (.iconst 2, 1) := by decide +kernel
theorem dX2_timeOf_37 : decode cX2_timeOf 37 = .ok (.idiv, 1) := by decide +kernel
theorem dX2_timeOf_38 : decode cX2_timeOf 38 = .ok (.istore_n 3, 1) := by decide +kernel
theorem dX2_timeOf_39 : decode cX2_timeOf 39 = .ok (.goto (-33), 3) := by decide +kernel
theorem dX2_timeOf_42 : decode cX2_timeOf 42 = .ok (.iload_n 2, 1) := by decide +kernel
theorem dX2_timeOf_43 : decode cX2_timeOf 43 = .ok (.ireturn, 1) := by decide +kernel
set_option maxRecDepth 20000 in
theorem ggX2_taskOf_X2_timeOf : GoodIn wsX2_taskOf wsX2_timeOf := goodIn_r _ [8, 9, 10, 11, 12, 7, 13, 1, 2, 14, 15, 16, 20, 21, 22, 23] (by decide +kernel) (by decide +kernel)
set_option maxRecDepth 20000 in
theorem gX2_taskOf_X2_timeOf : GoodIn wsX2_taskOf (wsV RX2 38 RX2 yX2_timeOf wsX2_timeOf) := goodIn_app (goodIn_of _ (by decide +kernel)) ggX2_taskOf_X2_timeOf
set_option maxRecDepth 20000 in
theorem ggX2_taskOf_X2_releasesBefore : GoodIn wsX2_taskOf wsX2_releasesBefore := goodIn_r _ [13, 1, 2, 14, 15, 16, 20, 21, 22, 23] (by decide +kernel) (by decide +kernel)
set_option maxRecDepth 20000 in
theorem gX2_taskOf_X2_releasesBefore : GoodIn wsX2_taskOf (wsV RX2 34 RX2 yX2_releasesBefore wsX2_releasesBefore) := goodIn_app (goodIn_of _ (by decide +kernel)) ggX2_taskOf_X2_releasesBefore
set_option maxRecDepth 20000 in
theorem ggX2_taskOf_X2_isReleaseTime : GoodIn wsX2_taskOf wsX2_isReleaseTime := goodIn_r _ [19] (by decide +kernel) (by decide +kernel)
set_option maxRecDepth 20000 in
theorem gX2_taskOf_X2_isReleaseTime : GoodIn wsX2_taskOf (va_wsS RX2 41 yX2_isReleaseTime wsX2_isReleaseTime) := goodIn_app (goodIn_of _ (by decide +kernel)) ggX2_taskOf_X2_isReleaseTime
theorem dX2_taskOf_0 : decode cX2_taskOf 0 = .ok (.aload_n 0, 1) := by decide +kernel
theorem dX2_taskOf_1 : decode cX2_taskOf 1 = .ok (.iload_n 1, 1) := by decide +kernel
theorem dX2_taskOf_2 : decode cX2_taskOf 2 = .ok (.invokevirtual 38, 3) := by decide +kernel
theorem dX2_taskOf_5 : decode cX2_taskOf 5 = .ok (.istore_n 2, 1) := by decide +kernel
theorem dX2_taskOf_6 : decode cX2_taskOf 6 = .ok (.iload_n 1, 1) := by decide +kernel
end
section
theorem dX2_taskOf_7 : decode cX2_taskOf 7 = .ok (.aload_n 0, 1) := by decide +kernel
theorem dX2_taskOf_8 : decode cX2_taskOf 8 = .ok (.iload_n 2, 1) := by decide +kernel
theorem dX2_taskOf_9 : decode cX2_taskOf 9 = .ok (.invokevirtual 34, 3) := by decide +kernel
theorem dX2_taskOf_12 : decode cX2_taskOf 12 = .ok (.isub, 1) := by decide +kernel
theorem dX2_taskOf_13 : decode cX2_taskOf 13 = .ok (.istore_n 3, 1) := by decide +kernel
theorem dX2_taskOf_14 : decode cX2_taskOf 14 = .ok (.iconst 0, 1) := by decide +kernel
theorem dX2_taskOf_15 : decode cX2_taskOf 15 = .ok (.istore 4, 2) := by decide +kernel
theorem dX2_taskOf_17 : decode cX2_taskOf 17 = .ok (.iload 4, 2) := by decide +kernel
theorem dX2_taskOf_19 : decode cX2_taskOf 19 = .ok (.aload_n 0, 1) := by decide +kernel
theorem dX2_taskOf_20 : decode cX2_taskOf 20 = .ok (.getfield 18, 3) := by decide +kernel
theorem dX2_taskOf_23 : decode cX2_taskOf 23 = .ok (.if_icmp .ge 38, 3) := by decide +kernel
theorem dX2_taskOf_26 : decode cX2_taskOf 26 = .ok (.iload_n 2, 1) := by decide +kernel
theorem dX2_taskOf_27 : decode cX2_taskOf 27 = .ok (.aload_n 0, 1) := by decide +kernel
theorem dX2_taskOf_28 : decode cX2_taskOf 28 = .ok (.getfield 15, 3) := by decide +kernel
theorem dX2_taskOf_31 : decode cX2_taskOf 31 = .ok (.iload 4, 2) := by decide +kernel
theorem dX2_taskOf_33 : decode cX2_taskOf 33 = .ok (.iaload, 1) := by decide +kernel
theorem dX2_taskOf_34 : decode cX2_taskOf 34 = .ok (.invokestatic 41, 3) := by decide +kernel
theorem dX2_taskOf_37 : decode cX2_taskOf 37 = .ok (.ifCond .eq 18, 3) := by decide +kernel
theorem dX2_taskOf_40 : decode cX2_taskOf 40 = .ok (.iload_n 3, 1) := by decide +kernel
theorem dX2_taskOf_41 : decode cX2_taskOf 41 = .ok (.ifCond .ne 11, 3) := by decide +kernel
theorem dX2_taskOf_44 : decode cX2_taskOf 44 = .ok (.aload_n 0, 1) := by decide +kernel
theorem dX2_taskOf_45 : decode cX2_taskOf 45 = .ok (.getfield 9, 3) := by decide +kernel
theorem dX2_taskOf_48 : decode cX2_taskOf 48 = .ok (.iload 4, 2) := by decide +kernel
theorem dX2_taskOf_50 : decode cX2_taskOf 50 = .ok (.iaload, 1) := by decide +kernel
theorem dX2_taskOf_51 : decode cX2_taskOf 51 = .ok (.ireturn, 1) := by decide +kernel
theorem dX2_taskOf_52 : decode cX2_taskOf 52 = .ok (.iinc 3 (-1), 3) := by decide +kernel
theorem dX2_taskOf_55 : decode cX2_taskOf 55 = .ok (.iinc 4 1, 3) := by decide +kernel
theorem dX2_taskOf_58 : decode cX2_taskOf 58 = .ok (.goto (-41), 3) := by decide +kernel
theorem dX2_taskOf_61 : decode cX2_taskOf 61 = .ok (.iconst (-1), 1) := by decide +kernel
theorem dX2_taskOf_62 : decode cX2_taskOf 62 = .ok (.ireturn, 1) := by decide +kernel
set_option maxRecDepth 20000 in
theorem ggX2_releasesBefore_X5_releasesWithin : GoodIn wsX2_releasesBefore wsX5_releasesWithin := goodIn_r _ [5] (by decide +kernel) (by decide +kernel)
set_option maxRecDepth 20000 in
theorem gX2_releasesBefore_X5_releasesWithin_n45 : GoodIn wsX2_releasesBefore (wsX5_releasesWithin) := ggX2_releasesBefore_X5_releasesWithin
theorem dX2_releasesBefore_0 : decode cX2_releasesBefore 0 = .ok (.iconst 0, 1) := by decide +kernel
theorem dX2_releasesBefore_1 : decode cX2_releasesBefore 1 = .ok (.istore_n 2, 1) := by decide +kernel
theorem dX2_releasesBefore_2 : decode cX2_releasesBefore 2 = .ok (.iconst 0, 1) := by decide +kernel
theorem dX2_releasesBefore_3 : decode cX2_releasesBefore 3 = .ok (.istore_n 3, 1) := by decide +kernel
theorem dX2_releasesBefore_4 : decode cX2_releasesBefore 4 = .ok (.iload_n 3, 1) := by decide +kernel
theorem dX2_releasesBefore_5 : decode cX2_releasesBefore 5 = .ok (.aload_n 0, 1) := by decide +kernel
theorem dX2_releasesBefore_6 : decode cX2_releasesBefore 6 = .ok (.getfield 18, 3) := by decide +kernel
theorem dX2_releasesBefore_9 : decode cX2_releasesBefore 9 = .ok (.if_icmp .ge 22, 3) := by decide +kernel
theorem dX2_releasesBefore_12 : decode cX2_releasesBefore 12 = .ok (.iload_n 2, 1) := by decide +kernel
theorem dX2_releasesBefore_13 : decode cX2_releasesBefore 13 = .ok (.iload_n 1, 1) := by decide +kernel
theorem dX2_releasesBefore_14 : decode cX2_releasesBefore 14 = .ok (.aload_n 0, 1) := by decide +kernel
theorem dX2_releasesBefore_15 : decode cX2_releasesBefore 15 = .ok (.getfield 15, 3) := by decide +kernel
theorem dX2_releasesBefore_18 : decode cX2_releasesBefore 18 = .ok (.iload_n 3, 1) := by decide +kernel
theorem dX2_releasesBefore_19 : decode cX2_releasesBefore 19 = .ok (.iaload, 1) := by decide +kernel
theorem dX2_releasesBefore_20 : decode cX2_releasesBefore 20 = .ok (.invokestatic 45, 3) := by decide +kernel
theorem dX2_releasesBefore_23 : decode cX2_releasesBefore 23 = .ok (.iadd, 1) := by decide +kernel
theorem dX2_releasesBefore_24 : decode cX2_releasesBefore 24 = .ok (.istore_n 2, 1) := by decide +kernel
theorem dX2_releasesBefore_25 : decode cX2_releasesBefore 25 = .ok (.iinc 3 1, 3) := by decide +kernel
theorem dX2_releasesBefore_28 : decode cX2_releasesBefore 28 = .ok (.goto (-24), 3) := by decide +kernel
theorem dX2_releasesBefore_31 : decode cX2_releasesBefore 31 = .ok (.iload_n 2, 1) := by decide +kernel
theorem dX2_releasesBefore_32 : decode cX2_releasesBefore 32 = .ok (.ireturn, 1) := by decide +kernel
theorem dX2_isReleaseTime_0 : decode cX2_isReleaseTime 0 = .ok (.iload_n 1, 1) := by decide +kernel
theorem dX2_isReleaseTime_1 : decode cX2_isReleaseTime 1 = .ok (.iconst 1, 1) := by decide +kernel
theorem dX2_isReleaseTime_2 : decode cX2_isReleaseTime 2 = .ok (.if_icmp .lt 13, 3) := by decide +kernel
theorem dX2_isReleaseTime_5 : decode cX2_isReleaseTime 5 = .ok (.iload_n 0, 1) := by decide +kernel
theorem dX2_isReleaseTime_6 : decode cX2_isReleaseTime 6 = .ok (.iload_n 1, 1) := by decide +kernel
theorem dX2_isReleaseTime_7 : decode cX2_isReleaseTime 7 = .ok (.irem, 1) := by decide +kernel
theorem dX2_isReleaseTime_8 : decode cX2_isReleaseTime 8 = .ok (.ifCond .ne 7, 3) := by decide +kernel
theorem dX2_isReleaseTime_11 : decode cX2_isReleaseTime 11 = .ok (.iconst 1, 1) := by decide +kernel
theorem dX2_isReleaseTime_12 : decode cX2_isReleaseTime 12 = .ok (.goto 4, 3) := by decide +kernel
theorem dX2_isReleaseTime_15 : decode cX2_isReleaseTime 15 = .ok (.iconst 0, 1) := by decide +kernel
theorem dX2_isReleaseTime_16 : decode cX2_isReleaseTime 16 = .ok (.ireturn, 1) := by decide +kernel
theorem dX3_init_0 : decode cX3_init 0 = .ok (.aload_n 0, 1) := by decide +kernel
theorem dX3_init_1 : decode cX3_init 1 = .ok (.invokespecial 3, 3) := by decide +kernel
theorem dX3_init_4 : decode cX3_init 4 = .ok (.aload_n 0, 1) := by decide +kernel
theorem dX3_init_5 : decode cX3_init 5 = .ok (.iconst 1, 1) := by decide +kernel
theorem dX3_init_6 : decode cX3_init 6 = .ok (.putfield 9, 3) := by decide +kernel
theorem dX3_init_9 : decode cX3_init 9 = .ok (.aload_n 0, 1) := by decide +kernel
theorem dX3_init_10 : decode cX3_init 10 = .ok (.iconst 1, 1) := by decide +kernel
theorem dX3_init_11 : decode cX3_init 11 = .ok (.putfield 15, 3) := by decide +kernel
theorem dX3_init_14 : decode cX3_init 14 = .ok (.aload_n 0, 1) := by decide +kernel
theorem dX3_init_15 : decode cX3_init 15 = .ok (.iconst 1, 1) := by decide +kernel
theorem dX3_init_16 : decode cX3_init 16 = .ok (.putfield 18, 3) := by decide +kernel
theorem dX3_init_19 : decode cX3_init 19 = .ok (.aload_n 0, 1) := by decide +kernel
theorem dX3_init_20 : decode cX3_init 20 = .ok (.bipush 8, 2) := by decide +kernel
theorem dX3_init_22 : decode cX3_init 22 = .ok (.newarray .int, 2) := by decide +kernel
theorem dX3_init_24 : decode cX3_init 24 = .ok (.putfield 21, 3) := by decide +kernel
theorem dX3_init_27 : decode cX3_init 27 = .ok (.aload_n 0, 1) := by decide +kernel
theorem dX3_init_28 : decode cX3_init 28 = .ok (.bipush 8, 2) := by decide +kernel
theorem dX3_init_30 : decode cX3_init 30 = .ok (.newarray .int, 2) := by decide +kernel
theorem dX3_init_32 : decode cX3_init 32 = .ok (.putfield 25, 3) := by decide +kernel
theorem dX3_init_35 : decode cX3_init 35 = .ok (.aload_n 0, 1) := by decide +kernel
theorem dX3_init_36 : decode cX3_init 36 = .ok (.bipush 8, 2) := by decide +kernel
theorem dX3_init_38 : decode cX3_init 38 = .ok (.newarray .int, 2) := by decide +kernel
theorem dX3_init_40 : decode cX3_init 40 = .ok (.putfield 28, 3) := by decide +kernel
theorem dX3_init_43 : decode cX3_init 43 = .ok (.return_, 1) := by decide +kernel
theorem dX3_begin_0 : decode cX3_begin 0 = .ok (.aload_n 0, 1) := by decide +kernel
theorem dX3_begin_1 : decode cX3_begin 1 = .ok (.iload_n 1, 1) := by decide +kernel
theorem dX3_begin_2 : decode cX3_begin 2 = .ok (.putfield 9, 3) := by decide +kernel
theorem dX3_begin_5 : decode cX3_begin 5 = .ok (.aload_n 0, 1) := by decide +kernel
theorem dX3_begin_6 : decode cX3_begin 6 = .ok (.iload_n 2, 1) := by decide +kernel
theorem dX3_begin_7 : decode cX3_begin 7 = .ok (.putfield 15, 3) := by decide +kernel
theorem dX3_begin_10 : decode cX3_begin 10 = .ok (.aload_n 0, 1) := by decide +kernel
theorem dX3_begin_11 : decode cX3_begin 11 = .ok (.iload_n 3, 1) := by decide +kernel
theorem dX3_begin_12 : decode cX3_begin 12 = .ok (.putfield 18, 3) := by decide +kernel
theorem dX3_begin_15 : decode cX3_begin 15 = .ok (.aload_n 0, 1) := by decide +kernel
theorem dX3_begin_16 : decode cX3_begin 16 = .ok (.iload 4, 2) := by decide +kernel
theorem dX3_begin_18 : decode cX3_begin 18 = .ok (.putfield 31, 3) := by decide +kernel
theorem dX3_begin_21 : decode cX3_begin 21 = .ok (.aload_n 0, 1) := by decide +kernel
theorem dX3_begin_22 : decode cX3_begin 22 = .ok (.iconst 0, 1) := by decide +kernel
theorem dX3_begin_23 : decode cX3_begin 23 = .ok (.putfield 34, 3) := by decide +kernel
theorem dX3_begin_26 : decode cX3_begin 26 = .ok (.aload_n 0, 1) := by decide +kernel
theorem dX3_begin_27 : decode cX3_begin 27 = .ok (.iconst 0, 1) := by decide +kernel
theorem dX3_begin_28 : decode cX3_begin 28 = .ok (.putfield 38, 3) := by decide +kernel
theorem dX3_begin_31 : decode cX3_begin 31 = .ok (.aload_n 0, 1) := by decide +kernel
theorem dX3_begin_32 : decode cX3_begin 32 = .ok (.iconst 0, 1) := by decide +kernel
theorem dX3_begin_33 : decode cX3_begin 33 = .ok (.putfield 41, 3) := by decide +kernel
theorem dX3_begin_36 : decode cX3_begin 36 = .ok (.aload_n 0, 1) := by decide +kernel
theorem dX3_begin_37 : decode cX3_begin 37 = .ok (.iconst 0, 1) := by decide +kernel
theorem dX3_begin_38 : decode cX3_begin 38 = .ok (.putfield 44, 3) := by decide +kernel
theorem dX3_begin_41 : decode cX3_begin 41 = .ok (.aload_n 0, 1) := by decide +kernel
theorem dX3_begin_42 : decode cX3_begin 42 = .ok (.iconst 0, 1) := by decide +kernel
theorem dX3_begin_43 : decode cX3_begin 43 = .ok (.putfield 47, 3) := by decide +kernel
theorem dX3_begin_46 : decode cX3_begin 46 = .ok (.aload_n 0, 1) := by decide +kernel
theorem dX3_begin_47 : decode cX3_begin 47 = .ok (.iconst 0, 1) := by decide +kernel
theorem dX3_begin_48 : decode cX3_begin 48 = .ok (.putfield 50, 3) := by decide +kernel
theorem dX3_begin_51 : decode cX3_begin 51 = .ok (.aload_n 0, 1) := by decide +kernel
theorem dX3_begin_52 : decode cX3_begin 52 = .ok (.iconst 0, 1) := by decide +kernel
theorem dX3_begin_53 : decode cX3_begin 53 = .ok (.putfield 53, 3) := by decide +kernel
theorem dX3_begin_56 : decode cX3_begin 56 = .ok (.return_, 1) := by decide +kernel
theorem dX3_isHigh_0 : decode cX3_isHigh 0 = .ok (.aload_n 0, 1) := by decide +kernel
theorem dX3_isHigh_1 : decode cX3_isHigh 1 = .ok (.getfield 31, 3) := by decide +kernel
theorem dX3_isHigh_4 : decode cX3_isHigh 4 = .ok (.ifCond .le 7, 3) := by decide +kernel
theorem dX3_isHigh_7 : decode cX3_isHigh 7 = .ok (.iconst 1, 1) := by decide +kernel
theorem dX3_isHigh_8 : decode cX3_isHigh 8 = .ok (.goto 4, 3) := by decide +kernel
theorem dX3_isHigh_11 : decode cX3_isHigh 11 = .ok (.iconst 0, 1) := by decide +kernel
theorem dX3_isHigh_12 : decode cX3_isHigh 12 = .ok (.ireturn, 1) := by decide +kernel
set_option maxRecDepth 20000 in
theorem ggX3_greatestBudget_X3_isHigh : GoodIn wsX3_greatestBudget wsX3_isHigh := goodIn_r _ [7, 1, 8, 9, 10, 11, 12, 13, 14, 15, 16, 17, 18, 19, 20, 21] (by decide +kernel) (by decide +kernel)
set_option maxRecDepth 20000 in
theorem gX3_greatestBudget_X3_isHigh : GoodIn wsX3_greatestBudget (wsV RX3 56 RX3 yX3_isHigh wsX3_isHigh) := goodIn_app (goodIn_of _ (by decide +kernel)) ggX3_greatestBudget_X3_isHigh
theorem dX3_greatestBudget_0 : decode cX3_greatestBudget 0 = .ok (.aload_n 0, 1) := by decide +kernel
theorem dX3_greatestBudget_1 : decode cX3_greatestBudget 1 = .ok (.invokevirtual 56, 3) := by decide +kernel
theorem dX3_greatestBudget_4 : decode cX3_greatestBudget 4 = .ok (.ifCond .eq 10, 3) := by decide +kernel
theorem dX3_greatestBudget_7 : decode cX3_greatestBudget 7 = .ok (.aload_n 0, 1) := by decide +kernel
theorem dX3_greatestBudget_8 : decode cX3_greatestBudget 8 = .ok (.getfield 31, 3) := by decide +kernel
theorem dX3_greatestBudget_11 : decode cX3_greatestBudget 11 = .ok (.goto 7, 3) := by decide +kernel
theorem dX3_greatestBudget_14 : decode cX3_greatestBudget 14 = .ok (.aload_n 0, 1) := by decide +kernel
theorem dX3_greatestBudget_15 : decode cX3_greatestBudget 15 = .ok (.getfield 18, 3) := by decide +kernel
theorem dX3_greatestBudget_18 : decode cX3_greatestBudget 18 = .ok (.ireturn, 1) := by decide +kernel
theorem dX3_budgetAmong_0 : decode cX3_budgetAmong 0 = .ok (.iload_n 1, 1) := by decide +kernel
theorem dX3_budgetAmong_1 : decode cX3_budgetAmong 1 = .ok (.iconst 2, 1) := by decide +kernel
theorem dX3_budgetAmong_2 : decode cX3_budgetAmong 2 = .ok (.if_icmp .ne 8, 3) := by decide +kernel
theorem dX3_budgetAmong_5 : decode cX3_budgetAmong 5 = .ok (.aload_n 0, 1) := by decide +kernel
theorem dX3_budgetAmong_6 : decode cX3_budgetAmong 6 = .ok (.getfield 31, 3) := by decide +kernel
theorem dX3_budgetAmong_9 : decode cX3_budgetAmong 9 = .ok (.ireturn, 1) := by decide +kernel
theorem dX3_budgetAmong_10 : decode cX3_budgetAmong 10 = .ok (.iload_n 1, 1) := by decide +kernel
theorem dX3_budgetAmong_11 : decode cX3_budgetAmong 11 = .ok (.iconst 1, 1) := by decide +kernel
theorem dX3_budgetAmong_12 : decode cX3_budgetAmong 12 = .ok (.if_icmp .ne 14, 3) := by decide +kernel
theorem dX3_budgetAmong_15 : decode cX3_budgetAmong 15 = .ok (.aload_n 0, 1) := by decide +kernel
theorem dX3_budgetAmong_16 : decode cX3_budgetAmong 16 = .ok (.getfield 31, 3) := by decide +kernel
theorem dX3_budgetAmong_19 : decode cX3_budgetAmong 19 = .ok (.ifCond .le 7, 3) := by decide +kernel
theorem dX3_budgetAmong_22 : decode cX3_budgetAmong 22 = .ok (.iconst 0, 1) := by decide +kernel
theorem dX3_budgetAmong_23 : decode cX3_budgetAmong 23 = .ok (.goto 7, 3) := by decide +kernel
theorem dX3_budgetAmong_26 : decode cX3_budgetAmong 26 = .ok (.aload_n 0, 1) := by decide +kernel
theorem dX3_budgetAmong_27 : decode cX3_budgetAmong 27 = .ok (.getfield 18, 3) := by decide +kernel
theorem dX3_budgetAmong_30 : decode cX3_budgetAmong 30 = .ok (.ireturn, 1) := by decide +kernel
set_option maxRecDepth 20000 in
theorem ggX3_nextRelease_X5_slotOf : GoodIn wsX3_nextRelease wsX5_slotOf := goodIn_r _ [6, 7, 8, 9, 10] (by decide +kernel) (by decide +kernel)
set_option maxRecDepth 20000 in
theorem gX3_nextRelease_X5_slotOf_n60 : GoodIn wsX3_nextRelease (wsX5_slotOf) := ggX3_nextRelease_X5_slotOf
theorem dX3_nextRelease_0 : decode cX3_nextRelease 0 = .ok (.aload_n 0, 1) := by decide +kernel
theorem dX3_nextRelease_1 : decode cX3_nextRelease 1 = .ok (.getfield 38, 3) := by decide +kernel
theorem dX3_nextRelease_4 : decode cX3_nextRelease 4 = .ok (.ifCond .ne 7, 3) := by decide +kernel
theorem dX3_nextRelease_7 : decode cX3_nextRelease 7 = .ok (.iconst 0, 1) := by decide +kernel
theorem dX3_nextRelease_8 : decode cX3_nextRelease 8 = .ok (.goto 20, 3) := by decide +kernel
theorem dX3_nextRelease_11 : decode cX3_nextRelease 11 = .ok (.aload_n 0, 1) := by decide +kernel
theorem dX3_nextRelease_12 : decode cX3_nextRelease 12 = .ok (.getfield 25, 3) := by decide +kernel
theorem dX3_nextRelease_15 : decode cX3_nextRelease 15 = .ok (.aload_n 0, 1) := by decide +kernel
theorem dX3_nextRelease_16 : decode cX3_nextRelease 16 = .ok (.getfield 38, 3) := by decide +kernel
theorem dX3_nextRelease_19 : decode cX3_nextRelease 19 = .ok (.invokestatic 60, 3) := by decide +kernel
theorem dX3_nextRelease_22 : decode cX3_nextRelease 22 = .ok (.iaload, 1) := by decide +kernel
theorem dX3_nextRelease_23 : decode cX3_nextRelease 23 = .ok (.aload_n 0, 1) := by decide +kernel
theorem dX3_nextRelease_24 : decode cX3_nextRelease 24 = .ok (.getfield 9, 3) := by decide +kernel
theorem dX3_nextRelease_27 : decode cX3_nextRelease 27 = .ok (.iadd, 1) := by decide +kernel
theorem dX3_nextRelease_28 : decode cX3_nextRelease 28 = .ok (.ireturn, 1) := by decide +kernel
theorem dX3_keeps_0 : decode cX3_keeps 0 = .ok (.iload_n 1, 1) := by decide +kernel
theorem dX3_keeps_1 : decode cX3_keeps 1 = .ok (.iconst 1, 1) := by decide +kernel
theorem dX3_keeps_2 : decode cX3_keeps 2 = .ok (.if_icmp .lt 26, 3) := by decide +kernel
theorem dX3_keeps_5 : decode cX3_keeps 5 = .ok (.iload_n 1, 1) := by decide +kernel
theorem dX3_keeps_6 : decode cX3_keeps 6 = .ok (.aload_n 0, 1) := by decide +kernel
theorem dX3_keeps_7 : decode cX3_keeps 7 = .ok (.getfield 38, 3) := by decide +kernel
theorem dX3_keeps_10 : decode cX3_keeps 10 = .ok (.if_icmp .gt 18, 3) := by decide +kernel
theorem dX3_keeps_13 : decode cX3_keeps 13 = .ok (.iload_n 1, 1) := by decide +kernel
theorem dX3_keeps_14 : decode cX3_keeps 14 = .ok (.aload_n 0, 1) := by decide +kernel
theorem dX3_keeps_15 : decode cX3_keeps 15 = .ok (.getfield 38, 3) := by decide +kernel
theorem dX3_keeps_18 : decode cX3_keeps 18 = .ok (.bipush 8, 2) := by decide +kernel
theorem dX3_keeps_20 : decode cX3_keeps 20 = .ok (.isub, 1) := by decide +kernel
theorem dX3_keeps_21 : decode cX3_keeps 21 = .ok (.if_icmp .le 7, 3) := by decide +kernel
theorem dX3_keeps_24 : decode cX3_keeps 24 = .ok (.iconst 1, 1) := by decide +kernel
theorem dX3_keeps_25 : decode cX3_keeps 25 = .ok (.goto 4, 3) := by decide +kernel
theorem dX3_keeps_28 : decode cX3_keeps 28 = .ok (.iconst 0, 1) := by decide +kernel
theorem dX3_keeps_29 : decode cX3_keeps 29 = .ok (.ireturn, 1) := by decide +kernel
set_option maxRecDepth 20000 in
theorem ggX3_newJob_X5_slotOf : GoodIn wsX3_newJob wsX5_slotOf := goodIn_r _ [8, 9, 10, 11, 12] (by decide +kernel) (by decide +kernel)
set_option maxRecDepth 20000 in
theorem gX3_newJob_X5_slotOf_n60 : GoodIn wsX3_newJob (wsX5_slotOf) := ggX3_newJob_X5_slotOf
theorem dX3_newJob_0 : decode cX3_newJob 0 = .ok (.aload_n 0, 1) := by decide +kernel
theorem dX3_newJob_1 : decode cX3_newJob 1 = .ok (.dup, 1) := by decide +kernel
theorem dX3_newJob_2 : decode cX3_newJob 2 = .ok (.getfield 38, 3) := by decide +kernel
theorem dX3_newJob_5 : decode cX3_newJob 5 = .ok (.iconst 1, 1) := by decide +kernel
theorem dX3_newJob_6 : decode cX3_newJob 6 = .ok (.iadd, 1) := by decide +kernel
theorem dX3_newJob_7 : decode cX3_newJob 7 = .ok (.putfield 38, 3) := by decide +kernel
theorem dX3_newJob_10 : decode cX3_newJob 10 = .ok (.aload_n 0, 1) := by decide +kernel
theorem dX3_newJob_11 : decode cX3_newJob 11 = .ok (.dup, 1) := by decide +kernel
theorem dX3_newJob_12 : decode cX3_newJob 12 = .ok (.getfield 50, 3) := by decide +kernel
theorem dX3_newJob_15 : decode cX3_newJob 15 = .ok (.iconst 1, 1) := by decide +kernel
theorem dX3_newJob_16 : decode cX3_newJob 16 = .ok (.iadd, 1) := by decide +kernel
theorem dX3_newJob_17 : decode cX3_newJob 17 = .ok (.putfield 50, 3) := by decide +kernel
theorem dX3_newJob_20 : decode cX3_newJob 20 = .ok (.aload_n 0, 1) := by decide +kernel
theorem dX3_newJob_21 : decode cX3_newJob 21 = .ok (.getfield 38, 3) := by decide +kernel
theorem dX3_newJob_24 : decode cX3_newJob 24 = .ok (.invokestatic 60, 3) := by decide +kernel
theorem dX3_newJob_27 : decode cX3_newJob 27 = .ok (.istore_n 3, 1) := by decide +kernel
theorem dX3_newJob_28 : decode cX3_newJob 28 = .ok (.aload_n 0, 1) := by decide +kernel
theorem dX3_newJob_29 : decode cX3_newJob 29 = .ok (.getfield 21, 3) := by decide +kernel
theorem dX3_newJob_32 : decode cX3_newJob 32 = .ok (.iload_n 3, 1) := by decide +kernel
theorem dX3_newJob_33 : decode cX3_newJob 33 = .ok (.iload_n 1, 1) := by decide +kernel
theorem dX3_newJob_34 : decode cX3_newJob 34 = .ok (.iastore, 1) := by decide +kernel
theorem dX3_newJob_35 : decode cX3_newJob 35 = .ok (.aload_n 0, 1) := by decide +kernel
theorem dX3_newJob_36 : decode cX3_newJob 36 = .ok (.getfield 25, 3) := by decide +kernel
theorem dX3_newJob_39 : decode cX3_newJob 39 = .ok (.iload_n 3, 1) := by decide +kernel
theorem dX3_newJob_40 : decode cX3_newJob 40 = .ok (.iload_n 2, 1) := by decide +kernel
theorem dX3_newJob_41 : decode cX3_newJob 41 = .ok (.iastore, 1) := by decide +kernel
theorem dX3_newJob_42 : decode cX3_newJob 42 = .ok (.aload_n 0, 1) := by decide +kernel
theorem dX3_newJob_43 : decode cX3_newJob 43 = .ok (.getfield 28, 3) := by decide +kernel
theorem dX3_newJob_46 : decode cX3_newJob 46 = .ok (.iload_n 3, 1) := by decide +kernel
theorem dX3_newJob_47 : decode cX3_newJob 47 = .ok (.iconst (-1), 1) := by decide +kernel
theorem dX3_newJob_48 : decode cX3_newJob 48 = .ok (.iastore, 1) := by decide +kernel
theorem dX3_newJob_49 : decode cX3_newJob 49 = .ok (.aload_n 0, 1) := by decide +kernel
theorem dX3_newJob_50 : decode cX3_newJob 50 = .ok (.getfield 38, 3) := by decide +kernel
theorem dX3_newJob_53 : decode cX3_newJob 53 = .ok (.ireturn, 1) := by decide +kernel
set_option maxRecDepth 20000 in
theorem ggX3_chargeFirst_X5_slotOf : GoodIn wsX3_chargeFirst wsX5_slotOf := goodIn_r _ [10, 11, 12, 13, 14] (by decide +kernel) (by decide +kernel)
set_option maxRecDepth 20000 in
theorem gX3_chargeFirst_X5_slotOf_n60 : GoodIn wsX3_chargeFirst (wsX5_slotOf) := ggX3_chargeFirst_X5_slotOf
set_option maxRecDepth 20000 in
theorem ggX3_chargeFirst_X3_isLate : GoodIn wsX3_chargeFirst wsX3_isLate := goodIn_r _ [19, 20, 21, 22, 23, 24, 25, 26, 27, 28, 29, 30, 31, 32, 33, 34, 35] (by decide +kernel) (by decide +kernel)
set_option maxRecDepth 20000 in
theorem gX3_chargeFirst_X3_isLate : GoodIn wsX3_chargeFirst (wsV RX3 64 RX3 yX3_isLate wsX3_isLate) := goodIn_app (goodIn_of _ (by decide +kernel)) ggX3_chargeFirst_X3_isLate
theorem dX3_chargeFirst_0 : decode cX3_chargeFirst 0 = .ok (.aload_n 0, 1) := by decide +kernel
theorem dX3_chargeFirst_1 : decode cX3_chargeFirst 1 = .ok (.getfield 38, 3) := by decide +kernel
theorem dX3_chargeFirst_4 : decode cX3_chargeFirst 4 = .ok (.aload_n 0, 1) := by decide +kernel
theorem dX3_chargeFirst_5 : decode cX3_chargeFirst 5 = .ok (.getfield 50, 3) := by decide +kernel
theorem dX3_chargeFirst_8 : decode cX3_chargeFirst 8 = .ok (.isub, 1) := by decide +kernel
theorem dX3_chargeFirst_9 : decode cX3_chargeFirst 9 = .ok (.iconst 1, 1) := by decide +kernel
theorem dX3_chargeFirst_10 : decode cX3_chargeFirst 10 = .ok (.iadd, 1) := by decide +kernel
theorem dX3_chargeFirst_11 : decode cX3_chargeFirst 11 = .ok (.invokestatic 60, 3) := by decide +kernel
theorem dX3_chargeFirst_14 : decode cX3_chargeFirst 14 = .ok (.istore_n 2, 1) := by decide +kernel
theorem dX3_chargeFirst_15 : decode cX3_chargeFirst 15 = .ok (.aload_n 0, 1) := by decide +kernel
theorem dX3_chargeFirst_16 : decode cX3_chargeFirst 16 = .ok (.dup, 1) := by decide +kernel
theorem dX3_chargeFirst_17 : decode cX3_chargeFirst 17 = .ok (.getfield 44, 3) := by decide +kernel
theorem dX3_chargeFirst_20 : decode cX3_chargeFirst 20 = .ok (.iconst 1, 1) := by decide +kernel
theorem dX3_chargeFirst_21 : decode cX3_chargeFirst 21 = .ok (.iadd, 1) := by decide +kernel
theorem dX3_chargeFirst_22 : decode cX3_chargeFirst 22 = .ok (.putfield 44, 3) := by decide +kernel
theorem dX3_chargeFirst_25 : decode cX3_chargeFirst 25 = .ok (.aload_n 0, 1) := by decide +kernel
theorem dX3_chargeFirst_26 : decode cX3_chargeFirst 26 = .ok (.dup, 1) := by decide +kernel
theorem dX3_chargeFirst_27 : decode cX3_chargeFirst 27 = .ok (.getfield 53, 3) := by decide +kernel
theorem dX3_chargeFirst_30 : decode cX3_chargeFirst 30 = .ok (.iconst 1, 1) := by decide +kernel
theorem dX3_chargeFirst_31 : decode cX3_chargeFirst 31 = .ok (.iadd, 1) := by decide +kernel
theorem dX3_chargeFirst_32 : decode cX3_chargeFirst 32 = .ok (.putfield 53, 3) := by decide +kernel
theorem dX3_chargeFirst_35 : decode cX3_chargeFirst 35 = .ok (.aload_n 0, 1) := by decide +kernel
theorem dX3_chargeFirst_36 : decode cX3_chargeFirst 36 = .ok (.getfield 53, 3) := by decide +kernel
theorem dX3_chargeFirst_39 : decode cX3_chargeFirst 39 = .ok (.aload_n 0, 1) := by decide +kernel
theorem dX3_chargeFirst_40 : decode cX3_chargeFirst 40 = .ok (.getfield 21, 3) := by decide +kernel
theorem dX3_chargeFirst_43 : decode cX3_chargeFirst 43 = .ok (.iload_n 2, 1) := by decide +kernel
theorem dX3_chargeFirst_44 : decode cX3_chargeFirst 44 = .ok (.iaload, 1) := by decide +kernel
theorem dX3_chargeFirst_45 : decode cX3_chargeFirst 45 = .ok (.if_icmp .ge 5, 3) := by decide +kernel
theorem dX3_chargeFirst_48 : decode cX3_chargeFirst 48 = .ok (.iconst 0, 1) := by decide +kernel
theorem dX3_chargeFirst_49 : decode cX3_chargeFirst 49 = .ok (.ireturn, 1) := by decide +kernel
theorem dX3_chargeFirst_50 : decode cX3_chargeFirst 50 = .ok (.aload_n 0, 1) := by decide +kernel
theorem dX3_chargeFirst_51 : decode cX3_chargeFirst 51 = .ok (.getfield 28, 3) := by decide +kernel
theorem dX3_chargeFirst_54 : decode cX3_chargeFirst 54 = .ok (.iload_n 2, 1) := by decide +kernel
theorem dX3_chargeFirst_55 : decode cX3_chargeFirst 55 = .ok (.iload_n 1, 1) := by decide +kernel
theorem dX3_chargeFirst_56 : decode cX3_chargeFirst 56 = .ok (.iastore, 1) := by decide +kernel
theorem dX3_chargeFirst_57 : decode cX3_chargeFirst 57 = .ok (.aload_n 0, 1) := by decide +kernel
theorem dX3_chargeFirst_58 : decode cX3_chargeFirst 58 = .ok (.iload_n 2, 1) := by decide +kernel
theorem dX3_chargeFirst_59 : decode cX3_chargeFirst 59 = .ok (.iload_n 1, 1) := by decide +kernel
theorem dX3_chargeFirst_60 : decode cX3_chargeFirst 60 = .ok (.invokevirtual 64, 3) := by decide +kernel
theorem dX3_chargeFirst_63 : decode cX3_chargeFirst 63 = .ok (.ifCond .eq 13, 3) := by decide +kernel
theorem dX3_chargeFirst_66 : decode cX3_chargeFirst 66 = .ok (.aload_n 0, 1) := by decide +kernel
theorem dX3_chargeFirst_67 : decode cX3_chargeFirst 67 = .ok (.dup, 1) := by decide +kernel
theorem dX3_chargeFirst_68 : decode cX3_chargeFirst 68 = .ok (.getfield 47, 3) := by decide +kernel
theorem dX3_chargeFirst_71 : decode cX3_chargeFirst 71 = .ok (.iconst 1, 1) := by decide +kernel
theorem dX3_chargeFirst_72 : decode cX3_chargeFirst 72 = .ok (.iadd, 1) := by decide +kernel
theorem dX3_chargeFirst_73 : decode cX3_chargeFirst 73 = .ok (.putfield 47, 3) := by decide +kernel
theorem dX3_chargeFirst_76 : decode cX3_chargeFirst 76 = .ok (.aload_n 0, 1) := by decide +kernel
theorem dX3_chargeFirst_77 : decode cX3_chargeFirst 77 = .ok (.dup, 1) := by decide +kernel
theorem dX3_chargeFirst_78 : decode cX3_chargeFirst 78 = .ok (.getfield 50, 3) := by decide +kernel
theorem dX3_chargeFirst_81 : decode cX3_chargeFirst 81 = .ok (.iconst 1, 1) := by decide +kernel
theorem dX3_chargeFirst_82 : decode cX3_chargeFirst 82 = .ok (.isub, 1) := by decide +kernel
theorem dX3_chargeFirst_83 : decode cX3_chargeFirst 83 = .ok (.putfield 50, 3) := by decide +kernel
theorem dX3_chargeFirst_86 : decode cX3_chargeFirst 86 = .ok (.aload_n 0, 1) := by decide +kernel
theorem dX3_chargeFirst_87 : decode cX3_chargeFirst 87 = .ok (.iconst 0, 1) := by decide +kernel
theorem dX3_chargeFirst_88 : decode cX3_chargeFirst 88 = .ok (.putfield 53, 3) := by decide +kernel
theorem dX3_chargeFirst_91 : decode cX3_chargeFirst 91 = .ok (.iconst 1, 1) := by decide +kernel
theorem dX3_chargeFirst_92 : decode cX3_chargeFirst 92 = .ok (.ireturn, 1) := by decide +kernel
set_option maxRecDepth 20000 in
theorem ggX3_giveUpPending_X5_slotOf : GoodIn wsX3_giveUpPending wsX5_slotOf := goodIn_r _ [7, 8, 9, 10, 11] (by decide +kernel) (by decide +kernel)
set_option maxRecDepth 20000 in
theorem gX3_giveUpPending_X5_slotOf_n60 : GoodIn wsX3_giveUpPending (wsX5_slotOf) := ggX3_giveUpPending_X5_slotOf
theorem dX3_giveUpPending_0 : decode cX3_giveUpPending 0 = .ok (.aload_n 0, 1) := by decide +kernel
theorem dX3_giveUpPending_1 : decode cX3_giveUpPending 1 = .ok (.getfield 50, 3) := by decide +kernel
theorem dX3_giveUpPending_4 : decode cX3_giveUpPending 4 = .ok (.istore_n 1, 1) := by decide +kernel
theorem dX3_giveUpPending_5 : decode cX3_giveUpPending 5 = .ok (.iconst 0, 1) := by decide +kernel
theorem dX3_giveUpPending_6 : decode cX3_giveUpPending 6 = .ok (.istore_n 2, 1) := by decide +kernel
theorem dX3_giveUpPending_7 : decode cX3_giveUpPending 7 = .ok (.iload_n 2, 1) := by decide +kernel
theorem dX3_giveUpPending_8 : decode cX3_giveUpPending 8 = .ok (.iload_n 1, 1) := by decide +kernel
theorem dX3_giveUpPending_9 : decode cX3_giveUpPending 9 = .ok (.if_icmp .ge 25, 3) := by decide +kernel
theorem dX3_giveUpPending_12 : decode cX3_giveUpPending 12 = .ok (.aload_n 0, 1) := by decide +kernel
theorem dX3_giveUpPending_13 : decode cX3_giveUpPending 13 = .ok (.getfield 28, 3) := by decide +kernel
theorem dX3_giveUpPending_16 : decode cX3_giveUpPending 16 = .ok (.aload_n 0, 1) := by decide +kernel
theorem dX3_giveUpPending_17 : decode cX3_giveUpPending 17 = .ok (.getfield 38, 3) := by decide +kernel
theorem dX3_giveUpPending_20 : decode cX3_giveUpPending 20 = .ok (.iload_n 2, 1) := by decide +kernel
theorem dX3_giveUpPending_21 : decode cX3_giveUpPending 21 = .ok (.isub, 1) := by decide +kernel
theorem dX3_giveUpPending_22 : decode cX3_giveUpPending 22 = .ok (.invokestatic 60, 3) := by decide +kernel
theorem dX3_giveUpPending_25 : decode cX3_giveUpPending 25 = .ok (.bipush (-2), 2) := by decide +kernel
theorem dX3_giveUpPending_27 : decode cX3_giveUpPending 27 = .ok (.iastore, 1) := by decide +kernel
theorem dX3_giveUpPending_28 : decode cX3_giveUpPending 28 = .ok (.iinc 2 1, 3) := by decide +kernel
theorem dX3_giveUpPending_31 : decode cX3_giveUpPending 31 = .ok (.goto (-24), 3) := by decide +kernel
theorem dX3_giveUpPending_34 : decode cX3_giveUpPending 34 = .ok (.aload_n 0, 1) := by decide +kernel
theorem dX3_giveUpPending_35 : decode cX3_giveUpPending 35 = .ok (.iconst 0, 1) := by decide +kernel
theorem dX3_giveUpPending_36 : decode cX3_giveUpPending 36 = .ok (.putfield 50, 3) := by decide +kernel
theorem dX3_giveUpPending_39 : decode cX3_giveUpPending 39 = .ok (.aload_n 0, 1) := by decide +kernel
theorem dX3_giveUpPending_40 : decode cX3_giveUpPending 40 = .ok (.iconst 0, 1) := by decide +kernel
theorem dX3_giveUpPending_41 : decode cX3_giveUpPending 41 = .ok (.putfield 53, 3) := by decide +kernel
theorem dX3_giveUpPending_44 : decode cX3_giveUpPending 44 = .ok (.iload_n 1, 1) := by decide +kernel
theorem dX3_giveUpPending_45 : decode cX3_giveUpPending 45 = .ok (.ireturn, 1) := by decide +kernel
set_option maxRecDepth 20000 in
theorem ggX3_lateJobs_X5_slotOf : GoodIn wsX3_lateJobs wsX5_slotOf := goodIn_r _ [6, 7, 8, 9, 10] (by decide +kernel) (by decide +kernel)
set_option maxRecDepth 20000 in
theorem gX3_lateJobs_X5_slotOf_n60 : GoodIn wsX3_lateJobs (wsX5_slotOf) := ggX3_lateJobs_X5_slotOf
set_option maxRecDepth 20000 in
theorem ggX3_lateJobs_X3_isLate : GoodIn wsX3_lateJobs wsX3_isLate := goodIn_r _ [15, 16, 17, 18, 19, 20, 21, 22, 23, 24, 25, 26, 27, 28, 29, 30, 31] (by decide +kernel) (by decide +kernel)
set_option maxRecDepth 20000 in
theorem gX3_lateJobs_X3_isLate : GoodIn wsX3_lateJobs (wsV RX3 64 RX3 yX3_isLate wsX3_isLate) := goodIn_app (goodIn_of _ (by decide +kernel)) ggX3_lateJobs_X3_isLate
theorem dX3_lateJobs_0 : decode cX3_lateJobs 0 = .ok (.aload_n 0, 1) := by decide +kernel
theorem dX3_lateJobs_1 : decode cX3_lateJobs 1 = .ok (.getfield 47, 3) := by decide +kernel
theorem dX3_lateJobs_4 : decode cX3_lateJobs 4 = .ok (.istore_n 2, 1) := by decide +kernel
theorem dX3_lateJobs_5 : decode cX3_lateJobs 5 = .ok (.iconst 0, 1) := by decide +kernel
theorem dX3_lateJobs_6 : decode cX3_lateJobs 6 = .ok (.istore_n 3, 1) := by decide +kernel
theorem dX3_lateJobs_7 : decode cX3_lateJobs 7 = .ok (.iload_n 3, 1) := by decide +kernel
theorem dX3_lateJobs_8 : decode cX3_lateJobs 8 = .ok (.aload_n 0, 1) := by decide +kernel
theorem dX3_lateJobs_9 : decode cX3_lateJobs 9 = .ok (.getfield 50, 3) := by decide +kernel
theorem dX3_lateJobs_12 : decode cX3_lateJobs 12 = .ok (.if_icmp .ge 29, 3) := by decide +kernel
theorem dX3_lateJobs_15 : decode cX3_lateJobs 15 = .ok (.aload_n 0, 1) := by decide +kernel
theorem dX3_lateJobs_16 : decode cX3_lateJobs 16 = .ok (.aload_n 0, 1) := by decide +kernel
theorem dX3_lateJobs_17 : decode cX3_lateJobs 17 = .ok (.getfield 38, 3) := by decide +kernel
theorem dX3_lateJobs_20 : decode cX3_lateJobs 20 = .ok (.iload_n 3, 1) := by decide +kernel
theorem dX3_lateJobs_21 : decode cX3_lateJobs 21 = .ok (.isub, 1) := by decide +kernel
theorem dX3_lateJobs_22 : decode cX3_lateJobs 22 = .ok (.invokestatic 60, 3) := by decide +kernel
theorem dX3_lateJobs_25 : decode cX3_lateJobs 25 = .ok (.iload_n 1, 1) := by decide +kernel
theorem dX3_lateJobs_26 : decode cX3_lateJobs 26 = .ok (.invokevirtual 64, 3) := by decide +kernel
theorem dX3_lateJobs_29 : decode cX3_lateJobs 29 = .ok (.ifCond .eq 6, 3) := by decide +kernel
theorem dX3_lateJobs_32 : decode cX3_lateJobs 32 = .ok (.iinc 2 1, 3) := by decide +kernel
theorem dX3_lateJobs_35 : decode cX3_lateJobs 35 = .ok (.iinc 3 1, 3) := by decide +kernel
theorem dX3_lateJobs_38 : decode cX3_lateJobs 38 = .ok (.goto (-31), 3) := by decide +kernel
theorem dX3_lateJobs_41 : decode cX3_lateJobs 41 = .ok (.iload_n 2, 1) := by decide +kernel
theorem dX3_lateJobs_42 : decode cX3_lateJobs 42 = .ok (.ireturn, 1) := by decide +kernel
theorem dX3_isLate_0 : decode cX3_isLate 0 = .ok (.iload_n 2, 1) := by decide +kernel
theorem dX3_isLate_1 : decode cX3_isLate 1 = .ok (.aload_n 0, 1) := by decide +kernel
theorem dX3_isLate_2 : decode cX3_isLate 2 = .ok (.getfield 25, 3) := by decide +kernel
theorem dX3_isLate_5 : decode cX3_isLate 5 = .ok (.iload_n 1, 1) := by decide +kernel
theorem dX3_isLate_6 : decode cX3_isLate 6 = .ok (.iaload, 1) := by decide +kernel
theorem dX3_isLate_7 : decode cX3_isLate 7 = .ok (.aload_n 0, 1) := by decide +kernel
theorem dX3_isLate_8 : decode cX3_isLate 8 = .ok (.getfield 15, 3) := by decide +kernel
theorem dX3_isLate_11 : decode cX3_isLate 11 = .ok (.iadd, 1) := by decide +kernel
theorem dX3_isLate_12 : decode cX3_isLate 12 = .ok (.if_icmp .le 7, 3) := by decide +kernel
theorem dX3_isLate_15 : decode cX3_isLate 15 = .ok (.iconst 1, 1) := by decide +kernel
theorem dX3_isLate_16 : decode cX3_isLate 16 = .ok (.goto 4, 3) := by decide +kernel
theorem dX3_isLate_19 : decode cX3_isLate 19 = .ok (.iconst 0, 1) := by decide +kernel
theorem dX3_isLate_20 : decode cX3_isLate 20 = .ok (.ireturn, 1) := by decide +kernel
set_option maxRecDepth 20000 in
theorem ggX4_init_X3_init : GoodIn wsX4_init wsX3_init := goodIn_r _ [9, 10, 2, 3, 11, 12, 13, 14, 15, 16, 17, 19, 20, 21, 22, 23, 24, 25, 26, 27, 28, 29, 30, 31, 32] (by decide +kernel) (by decide +kernel)
set_option maxRecDepth 20000 in
theorem gX4_init_X3_init_n17 : GoodIn wsX4_init (wsX3_init) := ggX4_init_X3_init
theorem dX4_init_0 : decode cX4_init 0 = .ok (.aload_n 0, 1) := by decide +kernel
theorem dX4_init_1 : decode cX4_init 1 = .ok (.invokespecial 3, 3) := by decide +kernel
theorem dX4_init_4 : decode cX4_init 4 = .ok (.aload_n 0, 1) := by decide +kernel
theorem dX4_init_5 : decode cX4_init 5 = .ok (.bipush 13, 2) := by decide +kernel
theorem dX4_init_7 : decode cX4_init 7 = .ok (.anewarray 9, 3) := by decide +kernel
theorem dX4_init_10 : decode cX4_init 10 = .ok (.putfield 11, 3) := by decide +kernel
theorem dX4_init_13 : decode cX4_init 13 = .ok (.iconst 0, 1) := by decide +kernel
theorem dX4_init_14 : decode cX4_init 14 = .ok (.istore_n 1, 1) := by decide +kernel
theorem dX4_init_15 : decode cX4_init 15 = .ok (.iload_n 1, 1) := by decide +kernel
theorem dX4_init_16 : decode cX4_init 16 = .ok (.bipush 12, 2) := by decide +kernel
theorem dX4_init_18 : decode cX4_init 18 = .ok (.if_icmp .gt 22, 3) := by decide +kernel
theorem dX4_init_21 : decode cX4_init 21 = .ok (.aload_n 0, 1) := by decide +kernel
theorem dX4_init_22 : decode cX4_init 22 = .ok (.getfield 11, 3) := by decide +kernel
theorem dX4_init_25 : decode cX4_init 25 = .ok (.iload_n 1, 1) := by decide +kernel
theorem dX4_init_26 : decode cX4_init 26 = .ok (.new 9, 3) := by decide +kernel
theorem dX4_init_29 : decode cX4_init 29 = .ok (.dup, 1) := by decide +kernel
theorem dX4_init_30 : decode cX4_init 30 = .ok (.invokespecial 17, 3) := by decide +kernel
theorem dX4_init_33 : decode cX4_init 33 = .ok (.aastore, 1) := by decide +kernel
theorem dX4_init_34 : decode cX4_init 34 = .ok (.iinc 1 1, 3) := by decide +kernel
theorem dX4_init_37 : decode cX4_init 37 = .ok (.goto (-22), 3) := by decide +kernel
theorem dX4_init_40 : decode cX4_init 40 = .ok (.return_, 1) := by decide +kernel
set_option maxRecDepth 20000 in
theorem ggX4_lowResponse_X4_leastSpan : GoodIn wsX4_lowResponse wsX4_leastSpan := goodIn_r _ [6, 1, 7, 8, 9, 5, 10, 11, 12, 13, 14, 15, 16, 17, 18, 19, 20, 21, 22, 23, 24, 25, 26, 27, 28, 29, 30, 31, 32, 33, 34, 35, 36, 37] (by decide +kernel) (by decide +kernel)
set_option maxRecDepth 20000 in
theorem gX4_lowResponse_X4_leastSpan : GoodIn wsX4_lowResponse (wsV RX4 28 RX4 yX4_leastSpan wsX4_leastSpan) := goodIn_app (goodIn_of _ (by decide +kernel)) ggX4_lowResponse_X4_leastSpan
theorem dX4_lowResponse_0 : decode cX4_lowResponse 0 = .ok (.aload_n 0, 1) := by decide +kernel
theorem dX4_lowResponse_1 : decode cX4_lowResponse 1 = .ok (.aload_n 1, 1) := by decide +kernel
theorem dX4_lowResponse_2 : decode cX4_lowResponse 2 = .ok (.iload_n 2, 1) := by decide +kernel
theorem dX4_lowResponse_3 : decode cX4_lowResponse 3 = .ok (.iload_n 3, 1) := by decide +kernel
theorem dX4_lowResponse_4 : decode cX4_lowResponse 4 = .ok (.aload_n 0, 1) := by decide +kernel
theorem dX4_lowResponse_5 : decode cX4_lowResponse 5 = .ok (.getfield 11, 3) := by decide +kernel
theorem dX4_lowResponse_8 : decode cX4_lowResponse 8 = .ok (.aload_n 1, 1) := by decide +kernel
theorem dX4_lowResponse_9 : decode cX4_lowResponse 9 = .ok (.getfield 18, 3) := by decide +kernel
theorem dX4_lowResponse_12 : decode cX4_lowResponse 12 = .ok (.iload_n 2, 1) := by decide +kernel
theorem dX4_lowResponse_13 : decode cX4_lowResponse 13 = .ok (.iaload, 1) := by decide +kernel
theorem dX4_lowResponse_14 : decode cX4_lowResponse 14 = .ok (.aaload, 1) := by decide +kernel
theorem dX4_lowResponse_15 : decode cX4_lowResponse 15 = .ok (.getfield 24, 3) := by decide +kernel
theorem dX4_lowResponse_18 : decode cX4_lowResponse 18 = .ok (.iconst 0, 1) := by decide +kernel
theorem dX4_lowResponse_19 : decode cX4_lowResponse 19 = .ok (.invokevirtual 28, 3) := by decide +kernel
theorem dX4_lowResponse_22 : decode cX4_lowResponse 22 = .ok (.ireturn, 1) := by decide +kernel
set_option maxRecDepth 20000 in
theorem ggX4_bound_X3_isHigh : GoodIn wsX4_bound wsX3_isHigh := goodIn_r _ [6, 7, 28, 29, 30, 31, 32, 33, 34, 35, 36, 37, 38, 39, 40, 41] (by decide +kernel) (by decide +kernel)
set_option maxRecDepth 20000 in
theorem gX4_bound_X3_isHigh : GoodIn wsX4_bound (wsV RX4 32 RX3 yX3_isHigh wsX3_isHigh) := goodIn_app (goodIn_of _ (by decide +kernel)) ggX4_bound_X3_isHigh
set_option maxRecDepth 20000 in
theorem ggX4_bound_X4_leastSpan : GoodIn wsX4_bound wsX4_leastSpan := goodIn_r _ [12, 1, 13, 14, 15, 11, 16, 17, 18, 19, 20, 21, 22, 5, 23, 7, 24, 25, 26, 27, 28, 29, 30, 31, 32, 33, 34, 35, 36, 37, 38, 39, 40, 41] (by decide +kernel) (by decide +kernel)
set_option maxRecDepth 20000 in
theorem gX4_bound_X4_leastSpan : GoodIn wsX4_bound (wsV RX4 28 RX4 yX4_leastSpan wsX4_leastSpan) := goodIn_app (goodIn_of _ (by decide +kernel)) ggX4_bound_X4_leastSpan
set_option maxRecDepth 20000 in
theorem ggX4_bound_X4_workAhead : GoodIn wsX4_bound wsX4_workAhead := goodIn_r _ [16, 1, 17, 18, 19, 20, 21, 22, 5, 23, 7, 24, 25, 26, 27, 28, 29, 30, 31, 32, 33, 34, 35, 36, 37, 38, 39, 40, 41] (by decide +kernel) (by decide +kernel)
set_option maxRecDepth 20000 in
theorem gX4_bound_X4_workAhead : GoodIn wsX4_bound (wsV RX4 39 RX4 yX4_workAhead wsX4_workAhead) := goodIn_app (goodIn_of _ (by decide +kernel)) ggX4_bound_X4_workAhead
theorem dX4_bound_0 : decode cX4_bound 0 = .ok (.aload_n 0, 1) := by decide +kernel
theorem dX4_bound_1 : decode cX4_bound 1 = .ok (.getfield 11, 3) := by decide +kernel
theorem dX4_bound_4 : decode cX4_bound 4 = .ok (.aload_n 1, 1) := by decide +kernel
theorem dX4_bound_5 : decode cX4_bound 5 = .ok (.getfield 18, 3) := by decide +kernel
theorem dX4_bound_8 : decode cX4_bound 8 = .ok (.iload_n 2, 1) := by decide +kernel
theorem dX4_bound_9 : decode cX4_bound 9 = .ok (.iaload, 1) := by decide +kernel
theorem dX4_bound_10 : decode cX4_bound 10 = .ok (.aaload, 1) := by decide +kernel
theorem dX4_bound_11 : decode cX4_bound 11 = .ok (.astore 4, 2) := by decide +kernel
theorem dX4_bound_13 : decode cX4_bound 13 = .ok (.aload 4, 2) := by decide +kernel
theorem dX4_bound_15 : decode cX4_bound 15 = .ok (.invokevirtual 32, 3) := by decide +kernel
theorem dX4_bound_18 : decode cX4_bound 18 = .ok (.ifCond .ne 5, 3) := by decide +kernel
theorem dX4_bound_21 : decode cX4_bound 21 = .ok (.iconst (-1), 1) := by decide +kernel
theorem dX4_bound_22 : decode cX4_bound 22 = .ok (.ireturn, 1) := by decide +kernel
theorem dX4_bound_23 : decode cX4_bound 23 = .ok (.aload_n 0, 1) := by decide +kernel
theorem dX4_bound_24 : decode cX4_bound 24 = .ok (.aload_n 1, 1) := by decide +kernel
theorem dX4_bound_25 : decode cX4_bound 25 = .ok (.iload_n 2, 1) := by decide +kernel
theorem dX4_bound_26 : decode cX4_bound 26 = .ok (.iload_n 3, 1) := by decide +kernel
theorem dX4_bound_27 : decode cX4_bound 27 = .ok (.aload 4, 2) := by decide +kernel
theorem dX4_bound_29 : decode cX4_bound 29 = .ok (.getfield 24, 3) := by decide +kernel
theorem dX4_bound_32 : decode cX4_bound 32 = .ok (.iconst 0, 1) := by decide +kernel
theorem dX4_bound_33 : decode cX4_bound 33 = .ok (.invokevirtual 28, 3) := by decide +kernel
theorem dX4_bound_36 : decode cX4_bound 36 = .ok (.istore 5, 2) := by decide +kernel
theorem dX4_bound_38 : decode cX4_bound 38 = .ok (.aload 4, 2) := by decide +kernel
theorem dX4_bound_40 : decode cX4_bound 40 = .ok (.getfield 36, 3) := by decide +kernel
theorem dX4_bound_43 : decode cX4_bound 43 = .ok (.aload_n 0, 1) := by decide +kernel
theorem dX4_bound_44 : decode cX4_bound 44 = .ok (.aload_n 1, 1) := by decide +kernel
theorem dX4_bound_45 : decode cX4_bound 45 = .ok (.iload_n 2, 1) := by decide +kernel
theorem dX4_bound_46 : decode cX4_bound 46 = .ok (.iload_n 3, 1) := by decide +kernel
theorem dX4_bound_47 : decode cX4_bound 47 = .ok (.iload 5, 2) := by decide +kernel
theorem dX4_bound_49 : decode cX4_bound 49 = .ok (.iconst 1, 1) := by decide +kernel
theorem dX4_bound_50 : decode cX4_bound 50 = .ok (.invokevirtual 39, 3) := by decide +kernel
theorem dX4_bound_53 : decode cX4_bound 53 = .ok (.iadd, 1) := by decide +kernel
theorem dX4_bound_54 : decode cX4_bound 54 = .ok (.istore 6, 2) := by decide +kernel
theorem dX4_bound_56 : decode cX4_bound 56 = .ok (.aload_n 0, 1) := by decide +kernel
theorem dX4_bound_57 : decode cX4_bound 57 = .ok (.aload_n 1, 1) := by decide +kernel
theorem dX4_bound_58 : decode cX4_bound 58 = .ok (.iload_n 2, 1) := by decide +kernel
theorem dX4_bound_59 : decode cX4_bound 59 = .ok (.iload_n 3, 1) := by decide +kernel
theorem dX4_bound_60 : decode cX4_bound 60 = .ok (.iload 6, 2) := by decide +kernel
theorem dX4_bound_62 : decode cX4_bound 62 = .ok (.iconst 2, 1) := by decide +kernel
theorem dX4_bound_63 : decode cX4_bound 63 = .ok (.invokevirtual 28, 3) := by decide +kernel
theorem dX4_bound_66 : decode cX4_bound 66 = .ok (.ireturn, 1) := by decide +kernel
set_option maxRecDepth 20000 in
theorem ggX4_firstLowResponseThatFails_X4_lowResponse : GoodIn wsX4_firstLowResponseThatFails wsX4_lowResponse := goodIn_r _ [6, 1, 7, 8, 9, 5, 10, 11, 12, 13, 14, 15, 16, 17, 18, 19, 20, 21, 22, 23, 24, 27, 25, 26, 28, 29, 30, 31, 32, 33, 34, 35, 36, 37, 38, 39, 40, 41] (by decide +kernel) (by decide +kernel)
set_option maxRecDepth 20000 in
theorem gX4_firstLowResponseThatFails_X4_lowResponse : GoodIn wsX4_firstLowResponseThatFails (wsV RX4 45 RX4 yX4_lowResponse wsX4_lowResponse) := goodIn_app (goodIn_of _ (by decide +kernel)) ggX4_firstLowResponseThatFails_X4_lowResponse
theorem dX4_firstLowResponseThatFails_0 : decode cX4_firstLowResponseThatFails 0 = .ok (.iconst 0, 1) := by decide +kernel
theorem dX4_firstLowResponseThatFails_1 : decode cX4_firstLowResponseThatFails 1 = .ok (.istore_n 2, 1) := by decide +kernel
theorem dX4_firstLowResponseThatFails_2 : decode cX4_firstLowResponseThatFails 2 = .ok (.iload_n 2, 1) := by decide +kernel
theorem dX4_firstLowResponseThatFails_3 : decode cX4_firstLowResponseThatFails 3 = .ok (.aload_n 1, 1) := by decide +kernel
theorem dX4_firstLowResponseThatFails_4 : decode cX4_firstLowResponseThatFails 4 = .ok (.getfield 42, 3) := by decide +kernel
theorem dX4_firstLowResponseThatFails_7 : decode cX4_firstLowResponseThatFails 7 = .ok (.if_icmp .ge 35, 3) := by decide +kernel
theorem dX4_firstLowResponseThatFails_10 : decode cX4_firstLowResponseThatFails 10 = .ok (.aload_n 0, 1) := by decide +kernel
theorem dX4_firstLowResponseThatFails_11 : decode cX4_firstLowResponseThatFails 11 = .ok (.aload_n 1, 1) := by decide +kernel
theorem dX4_firstLowResponseThatFails_12 : decode cX4_firstLowResponseThatFails 12 = .ok (.iload_n 2, 1) := by decide +kernel
theorem dX4_firstLowResponseThatFails_13 : decode cX4_firstLowResponseThatFails 13 = .ok (.iload_n 2, 1) := by decide +kernel
theorem dX4_firstLowResponseThatFails_14 : decode cX4_firstLowResponseThatFails 14 = .ok (.invokevirtual 45, 3) := by decide +kernel
theorem dX4_firstLowResponseThatFails_17 : decode cX4_firstLowResponseThatFails 17 = .ok (.aload_n 0, 1) := by decide +kernel
theorem dX4_firstLowResponseThatFails_18 : decode cX4_firstLowResponseThatFails 18 = .ok (.getfield 11, 3) := by decide +kernel
theorem dX4_firstLowResponseThatFails_21 : decode cX4_firstLowResponseThatFails 21 = .ok (.aload_n 1, 1) := by decide +kernel
theorem dX4_firstLowResponseThatFails_22 : decode cX4_firstLowResponseThatFails 22 = .ok (.getfield 18, 3) := by decide +kernel
theorem dX4_firstLowResponseThatFails_25 : decode cX4_firstLowResponseThatFails 25 = .ok (.iload_n 2, 1) := by decide +kernel
theorem dX4_firstLowResponseThatFails_26 : decode cX4_firstLowResponseThatFails 26 = .ok (.iaload, 1) := by decide +kernel
theorem dX4_firstLowResponseThatFails_27 : decode cX4_firstLowResponseThatFails 27 = .ok (.aaload, 1) := by decide +kernel
theorem dX4_firstLowResponseThatFails_28 : decode cX4_firstLowResponseThatFails 28 = .ok (.getfield 49, 3) := by decide +kernel
theorem dX4_firstLowResponseThatFails_31 : decode cX4_firstLowResponseThatFails 31 = .ok (.if_icmp .le 5, 3) := by decide +kernel
theorem dX4_firstLowResponseThatFails_34 : decode cX4_firstLowResponseThatFails 34 = .ok (.iload_n 2, 1) := by decide +kernel
theorem dX4_firstLowResponseThatFails_35 : decode cX4_firstLowResponseThatFails 35 = .ok (.ireturn, 1) := by decide +kernel
theorem dX4_firstLowResponseThatFails_36 : decode cX4_firstLowResponseThatFails 36 = .ok (.iinc 2 1, 3) := by decide +kernel
theorem dX4_firstLowResponseThatFails_39 : decode cX4_firstLowResponseThatFails 39 = .ok (.goto (-37), 3) := by decide +kernel
theorem dX4_firstLowResponseThatFails_42 : decode cX4_firstLowResponseThatFails 42 = .ok (.iconst (-1), 1) := by decide +kernel
theorem dX4_firstLowResponseThatFails_43 : decode cX4_firstLowResponseThatFails 43 = .ok (.ireturn, 1) := by decide +kernel
set_option maxRecDepth 20000 in
theorem ggX4_firstBoundThatFails_X4_bound : GoodIn wsX4_firstBoundThatFails wsX4_bound := goodIn_r _ [6, 1, 7, 8, 9, 10, 11, 12, 13, 14, 15, 5, 16, 17, 18, 19, 20, 21, 22, 23, 24, 25, 26, 27, 28, 31, 29, 30, 32, 33, 34, 35, 36, 37, 38, 39, 40, 41, 42, 43, 44, 45] (by decide +kernel) (by decide +kernel)
set_option maxRecDepth 20000 in
theorem gX4_firstBoundThatFails_X4_bound : GoodIn wsX4_firstBoundThatFails (wsV RX4 52 RX4 yX4_bound wsX4_bound) := goodIn_app (goodIn_of _ (by decide +kernel)) ggX4_firstBoundThatFails_X4_bound
theorem dX4_firstBoundThatFails_0 : decode cX4_firstBoundThatFails 0 = .ok (.iconst 0, 1) := by decide +kernel
theorem dX4_firstBoundThatFails_1 : decode cX4_firstBoundThatFails 1 = .ok (.istore_n 2, 1) := by decide +kernel
theorem dX4_firstBoundThatFails_2 : decode cX4_firstBoundThatFails 2 = .ok (.iload_n 2, 1) := by decide +kernel
theorem dX4_firstBoundThatFails_3 : decode cX4_firstBoundThatFails 3 = .ok (.aload_n 1, 1) := by decide +kernel
theorem dX4_firstBoundThatFails_4 : decode cX4_firstBoundThatFails 4 = .ok (.getfield 42, 3) := by decide +kernel
theorem dX4_firstBoundThatFails_7 : decode cX4_firstBoundThatFails 7 = .ok (.if_icmp .ge 35, 3) := by decide +kernel
theorem dX4_firstBoundThatFails_10 : decode cX4_firstBoundThatFails 10 = .ok (.aload_n 0, 1) := by decide +kernel
theorem dX4_firstBoundThatFails_11 : decode cX4_firstBoundThatFails 11 = .ok (.aload_n 1, 1) := by decide +kernel
theorem dX4_firstBoundThatFails_12 : decode cX4_firstBoundThatFails 12 = .ok (.iload_n 2, 1) := by decide +kernel
theorem dX4_firstBoundThatFails_13 : decode cX4_firstBoundThatFails 13 = .ok (.iload_n 2, 1) := by decide +kernel
theorem dX4_firstBoundThatFails_14 : decode cX4_firstBoundThatFails 14 = .ok (.invokevirtual 52, 3) := by decide +kernel
theorem dX4_firstBoundThatFails_17 : decode cX4_firstBoundThatFails 17 = .ok (.aload_n 0, 1) := by decide +kernel
theorem dX4_firstBoundThatFails_18 : decode cX4_firstBoundThatFails 18 = .ok (.getfield 11, 3) := by decide +kernel
theorem dX4_firstBoundThatFails_21 : decode cX4_firstBoundThatFails 21 = .ok (.aload_n 1, 1) := by decide +kernel
theorem dX4_firstBoundThatFails_22 : decode cX4_firstBoundThatFails 22 = .ok (.getfield 18, 3) := by decide +kernel
theorem dX4_firstBoundThatFails_25 : decode cX4_firstBoundThatFails 25 = .ok (.iload_n 2, 1) := by decide +kernel
theorem dX4_firstBoundThatFails_26 : decode cX4_firstBoundThatFails 26 = .ok (.iaload, 1) := by decide +kernel
theorem dX4_firstBoundThatFails_27 : decode cX4_firstBoundThatFails 27 = .ok (.aaload, 1) := by decide +kernel
theorem dX4_firstBoundThatFails_28 : decode cX4_firstBoundThatFails 28 = .ok (.getfield 49, 3) := by decide +kernel
theorem dX4_firstBoundThatFails_31 : decode cX4_firstBoundThatFails 31 = .ok (.if_icmp .le 5, 3) := by decide +kernel
theorem dX4_firstBoundThatFails_34 : decode cX4_firstBoundThatFails 34 = .ok (.iload_n 2, 1) := by decide +kernel
theorem dX4_firstBoundThatFails_35 : decode cX4_firstBoundThatFails 35 = .ok (.ireturn, 1) := by decide +kernel
theorem dX4_firstBoundThatFails_36 : decode cX4_firstBoundThatFails 36 = .ok (.iinc 2 1, 3) := by decide +kernel
theorem dX4_firstBoundThatFails_39 : decode cX4_firstBoundThatFails 39 = .ok (.goto (-37), 3) := by decide +kernel
theorem dX4_firstBoundThatFails_42 : decode cX4_firstBoundThatFails 42 = .ok (.iconst (-1), 1) := by decide +kernel
theorem dX4_firstBoundThatFails_43 : decode cX4_firstBoundThatFails 43 = .ok (.ireturn, 1) := by decide +kernel
set_option maxRecDepth 20000 in
theorem ggX4_lastThatPasses_X4_lowResponse : GoodIn wsX4_lastThatPasses wsX4_lowResponse := goodIn_r _ [6, 1, 7, 8, 9, 5, 10, 11, 12, 13, 14, 15, 16, 17, 18, 19, 20, 21, 22, 23, 24, 33, 34, 35, 36, 37, 38, 39, 40, 41, 42, 43, 44, 45, 46, 47, 48, 49] (by decide +kernel) (by decide +kernel)
set_option maxRecDepth 20000 in
theorem gX4_lastThatPasses_X4_lowResponse : GoodIn wsX4_lastThatPasses (wsV RX4 45 RX4 yX4_lowResponse wsX4_lowResponse) := goodIn_app (goodIn_of _ (by decide +kernel)) ggX4_lastThatPasses_X4_lowResponse
set_option maxRecDepth 20000 in
theorem ggX4_lastThatPasses_X4_bound : GoodIn wsX4_lastThatPasses wsX4_bound := goodIn_r _ [28, 1, 29, 30, 31, 21, 32, 23, 7, 8, 9, 5, 10, 11, 12, 13, 14, 15, 16, 17, 18, 19, 20, 22, 24, 33, 34, 35, 36, 37, 38, 39, 40, 41, 42, 43, 44, 45, 46, 47, 48, 49] (by decide +kernel) (by decide +kernel)
set_option maxRecDepth 20000 in
theorem gX4_lastThatPasses_X4_bound : GoodIn wsX4_lastThatPasses (wsV RX4 52 RX4 yX4_bound wsX4_bound) := goodIn_app (goodIn_of _ (by decide +kernel)) ggX4_lastThatPasses_X4_bound
theorem dX4_lastThatPasses_0 : decode cX4_lastThatPasses 0 = .ok (.iload_n 2, 1) := by decide +kernel
theorem dX4_lastThatPasses_1 : decode cX4_lastThatPasses 1 = .ok (.istore_n 3, 1) := by decide +kernel
theorem dX4_lastThatPasses_2 : decode cX4_lastThatPasses 2 = .ok (.iload_n 3, 1) := by decide +kernel
theorem dX4_lastThatPasses_3 : decode cX4_lastThatPasses 3 = .ok (.ifCond .lt 51, 3) := by decide +kernel
theorem dX4_lastThatPasses_6 : decode cX4_lastThatPasses 6 = .ok (.aload_n 0, 1) := by decide +kernel
theorem dX4_lastThatPasses_7 : decode cX4_lastThatPasses 7 = .ok (.getfield 11, 3) := by decide +kernel
theorem dX4_lastThatPasses_10 : decode cX4_lastThatPasses 10 = .ok (.aload_n 1, 1) := by decide +kernel
theorem dX4_lastThatPasses_11 : decode cX4_lastThatPasses 11 = .ok (.getfield 18, 3) := by decide +kernel
theorem dX4_lastThatPasses_14 : decode cX4_lastThatPasses 14 = .ok (.iload_n 3, 1) := by decide +kernel
theorem dX4_lastThatPasses_15 : decode cX4_lastThatPasses 15 = .ok (.iaload, 1) := by decide +kernel
theorem dX4_lastThatPasses_16 : decode cX4_lastThatPasses 16 = .ok (.aaload, 1) := by decide +kernel
theorem dX4_lastThatPasses_17 : decode cX4_lastThatPasses 17 = .ok (.getfield 49, 3) := by decide +kernel
theorem dX4_lastThatPasses_20 : decode cX4_lastThatPasses 20 = .ok (.istore 4, 2) := by decide +kernel
theorem dX4_lastThatPasses_22 : decode cX4_lastThatPasses 22 = .ok (.aload_n 0, 1) := by decide +kernel
theorem dX4_lastThatPasses_23 : decode cX4_lastThatPasses 23 = .ok (.aload_n 1, 1) := by decide +kernel
theorem dX4_lastThatPasses_24 : decode cX4_lastThatPasses 24 = .ok (.iload_n 3, 1) := by decide +kernel
theorem dX4_lastThatPasses_25 : decode cX4_lastThatPasses 25 = .ok (.iload_n 2, 1) := by decide +kernel
theorem dX4_lastThatPasses_26 : decode cX4_lastThatPasses 26 = .ok (.invokevirtual 45, 3) := by decide +kernel
theorem dX4_lastThatPasses_29 : decode cX4_lastThatPasses 29 = .ok (.iload 4, 2) := by decide +kernel
theorem dX4_lastThatPasses_31 : decode cX4_lastThatPasses 31 = .ok (.if_icmp .gt 17, 3) := by decide +kernel
theorem dX4_lastThatPasses_34 : decode cX4_lastThatPasses 34 = .ok (.aload_n 0, 1) := by decide +kernel
theorem dX4_lastThatPasses_35 : decode cX4_lastThatPasses 35 = .ok (.aload_n 1, 1) := by decide +kernel
theorem dX4_lastThatPasses_36 : decode cX4_lastThatPasses 36 = .ok (.iload_n 3, 1) := by decide +kernel
theorem dX4_lastThatPasses_37 : decode cX4_lastThatPasses 37 = .ok (.iload_n 2, 1) := by decide +kernel
theorem dX4_lastThatPasses_38 : decode cX4_lastThatPasses 38 = .ok (.invokevirtual 52, 3) := by decide +kernel
theorem dX4_lastThatPasses_41 : decode cX4_lastThatPasses 41 = .ok (.iload 4, 2) := by decide +kernel
theorem dX4_lastThatPasses_43 : decode cX4_lastThatPasses 43 = .ok (.if_icmp .gt 5, 3) := by decide +kernel
theorem dX4_lastThatPasses_46 : decode cX4_lastThatPasses 46 = .ok (.iload_n 3, 1) := by decide +kernel
theorem dX4_lastThatPasses_47 : decode cX4_lastThatPasses 47 = .ok (.ireturn, 1) := by decide +kernel
theorem dX4_lastThatPasses_48 : decode cX4_lastThatPasses 48 = .ok (.iinc 3 (-1), 3) := by decide +kernel
theorem dX4_lastThatPasses_51 : decode cX4_lastThatPasses 51 = .ok (.goto (-49), 3) := by decide +kernel
theorem dX4_lastThatPasses_54 : decode cX4_lastThatPasses 54 = .ok (.iconst (-1), 1) := by decide +kernel
theorem dX4_lastThatPasses_55 : decode cX4_lastThatPasses 55 = .ok (.ireturn, 1) := by decide +kernel
set_option maxRecDepth 20000 in
theorem ggX4_leastSpan_X4_workAhead : GoodIn wsX4_leastSpan wsX4_workAhead := goodIn_r _ [6, 1, 7, 8, 9, 10, 11, 12, 13, 14, 15, 16, 17, 18, 19, 20, 21, 22, 23, 24, 25, 26, 27, 28, 29, 30, 31, 32, 33] (by decide +kernel) (by decide +kernel)
set_option maxRecDepth 20000 in
theorem gX4_leastSpan_X4_workAhead : GoodIn wsX4_leastSpan (wsV RX4 39 RX4 yX4_workAhead wsX4_workAhead) := goodIn_app (goodIn_of _ (by decide +kernel)) ggX4_leastSpan_X4_workAhead
theorem dX4_leastSpan_0 : decode cX4_leastSpan 0 = .ok (.aload_n 0, 1) := by decide +kernel
theorem dX4_leastSpan_1 : decode cX4_leastSpan 1 = .ok (.getfield 11, 3) := by decide +kernel
theorem dX4_leastSpan_4 : decode cX4_leastSpan 4 = .ok (.aload_n 1, 1) := by decide +kernel
theorem dX4_leastSpan_5 : decode cX4_leastSpan 5 = .ok (.getfield 18, 3) := by decide +kernel
theorem dX4_leastSpan_8 : decode cX4_leastSpan 8 = .ok (.iload_n 2, 1) := by decide +kernel
theorem dX4_leastSpan_9 : decode cX4_leastSpan 9 = .ok (.iaload, 1) := by decide +kernel
theorem dX4_leastSpan_10 : decode cX4_leastSpan 10 = .ok (.aaload, 1) := by decide +kernel
theorem dX4_leastSpan_11 : decode cX4_leastSpan 11 = .ok (.getfield 49, 3) := by decide +kernel
theorem dX4_leastSpan_14 : decode cX4_leastSpan 14 = .ok (.istore 6, 2) := by decide +kernel
theorem dX4_leastSpan_16 : decode cX4_leastSpan 16 = .ok (.iload 4, 2) := by decide +kernel
theorem dX4_leastSpan_18 : decode cX4_leastSpan 18 = .ok (.istore 7, 2) := by decide +kernel
theorem dX4_leastSpan_20 : decode cX4_leastSpan 20 = .ok (.iconst 0, 1) := by decide +kernel
theorem dX4_leastSpan_21 : decode cX4_leastSpan 21 = .ok (.istore 8, 2) := by decide +kernel
theorem dX4_leastSpan_23 : decode cX4_leastSpan 23 = .ok (.iload 8, 2) := by decide +kernel
theorem dX4_leastSpan_25 : decode cX4_leastSpan 25 = .ok (.iload 6, 2) := by decide +kernel
theorem dX4_leastSpan_27 : decode cX4_leastSpan 27 = .ok (.if_icmp .gt 46, 3) := by decide +kernel
theorem dX4_leastSpan_30 : decode cX4_leastSpan 30 = .ok (.iload 7, 2) := by decide +kernel
theorem dX4_leastSpan_32 : decode cX4_leastSpan 32 = .ok (.iload 6, 2) := by decide +kernel
theorem dX4_leastSpan_34 : decode cX4_leastSpan 34 = .ok (.if_icmp .gt 39, 3) := by decide +kernel
theorem dX4_leastSpan_37 : decode cX4_leastSpan 37 = .ok (.iload 4, 2) := by decide +kernel
theorem dX4_leastSpan_39 : decode cX4_leastSpan 39 = .ok (.aload_n 0, 1) := by decide +kernel
theorem dX4_leastSpan_40 : decode cX4_leastSpan 40 = .ok (.aload_n 1, 1) := by decide +kernel
theorem dX4_leastSpan_41 : decode cX4_leastSpan 41 = .ok (.iload_n 2, 1) := by decide +kernel
theorem dX4_leastSpan_42 : decode cX4_leastSpan 42 = .ok (.iload_n 3, 1) := by decide +kernel
theorem dX4_leastSpan_43 : decode cX4_leastSpan 43 = .ok (.iload 7, 2) := by decide +kernel
theorem dX4_leastSpan_45 : decode cX4_leastSpan 45 = .ok (.iload 5, 2) := by decide +kernel
theorem dX4_leastSpan_47 : decode cX4_leastSpan 47 = .ok (.invokevirtual 39, 3) := by decide +kernel
theorem dX4_leastSpan_50 : decode cX4_leastSpan 50 = .ok (.iadd, 1) := by decide +kernel
theorem dX4_leastSpan_51 : decode cX4_leastSpan 51 = .ok (.istore 9, 2) := by decide +kernel
theorem dX4_leastSpan_53 : decode cX4_leastSpan 53 = .ok (.iload 9, 2) := by decide +kernel
theorem dX4_leastSpan_55 : decode cX4_leastSpan 55 = .ok (.iload 7, 2) := by decide +kernel
theorem dX4_leastSpan_57 : decode cX4_leastSpan 57 = .ok (.if_icmp .ne 6, 3) := by decide +kernel
theorem dX4_leastSpan_60 : decode cX4_leastSpan 60 = .ok (.iload 7, 2) := by decide +kernel
theorem dX4_leastSpan_62 : decode cX4_leastSpan 62 = .ok (.ireturn, 1) := by decide +kernel
theorem dX4_leastSpan_63 : decode cX4_leastSpan 63 = .ok (.iload 9, 2) := by decide +kernel
theorem dX4_leastSpan_65 : decode cX4_leastSpan 65 = .ok (.istore 7, 2) := by decide +kernel
theorem dX4_leastSpan_67 : decode cX4_leastSpan 67 = .ok (.iinc 8 1, 3) := by decide +kernel
theorem dX4_leastSpan_70 : decode cX4_leastSpan 70 = .ok (.goto (-47), 3) := by decide +kernel
theorem dX4_leastSpan_73 : decode cX4_leastSpan 73 = .ok (.sipush 1001, 3) := by decide +kernel
theorem dX4_leastSpan_76 : decode cX4_leastSpan 76 = .ok (.ireturn, 1) := by decide +kernel
set_option maxRecDepth 20000 in
theorem ggX4_workAhead_X5_releasesWithin : GoodIn wsX4_workAhead wsX5_releasesWithin := goodIn_r _ [4] (by decide +kernel) (by decide +kernel)
set_option maxRecDepth 20000 in
theorem gX4_workAhead_X5_releasesWithin_n58 : GoodIn wsX4_workAhead (wsX5_releasesWithin) := ggX4_workAhead_X5_releasesWithin
set_option maxRecDepth 20000 in
theorem ggX4_workAhead_X3_budgetAmong : GoodIn wsX4_workAhead wsX3_budgetAmong := goodIn_r _ [9, 10, 11, 15, 16, 17, 18, 19, 20, 21, 22, 23, 24, 25, 26, 27, 28] (by decide +kernel) (by decide +kernel)
set_option maxRecDepth 20000 in
theorem gX4_workAhead_X3_budgetAmong : GoodIn wsX4_workAhead (wsV RX4 62 RX3 yX3_budgetAmong wsX3_budgetAmong) := goodIn_app (goodIn_of _ (by decide +kernel)) ggX4_workAhead_X3_budgetAmong
theorem dX4_workAhead_0 : decode cX4_workAhead 0 = .ok (.iconst 0, 1) := by decide +kernel
theorem dX4_workAhead_1 : decode cX4_workAhead 1 = .ok (.istore 6, 2) := by decide +kernel
theorem dX4_workAhead_3 : decode cX4_workAhead 3 = .ok (.iconst 0, 1) := by decide +kernel
theorem dX4_workAhead_4 : decode cX4_workAhead 4 = .ok (.istore 7, 2) := by decide +kernel
theorem dX4_workAhead_6 : decode cX4_workAhead 6 = .ok (.iload 7, 2) := by decide +kernel
theorem dX4_workAhead_8 : decode cX4_workAhead 8 = .ok (.iload_n 3, 1) := by decide +kernel
theorem dX4_workAhead_9 : decode cX4_workAhead 9 = .ok (.if_icmp .gt 52, 3) := by decide +kernel
theorem dX4_workAhead_12 : decode cX4_workAhead 12 = .ok (.iload 7, 2) := by decide +kernel
theorem dX4_workAhead_14 : decode cX4_workAhead 14 = .ok (.iload_n 2, 1) := by decide +kernel
theorem dX4_workAhead_15 : decode cX4_workAhead 15 = .ok (.if_icmp .eq 40, 3) := by decide +kernel
theorem dX4_workAhead_18 : decode cX4_workAhead 18 = .ok (.aload_n 0, 1) := by decide +kernel
theorem dX4_workAhead_19 : decode cX4_workAhead 19 = .ok (.getfield 11, 3) := by decide +kernel
theorem dX4_workAhead_22 : decode cX4_workAhead 22 = .ok (.aload_n 1, 1) := by decide +kernel
theorem dX4_workAhead_23 : decode cX4_workAhead 23 = .ok (.getfield 18, 3) := by decide +kernel
theorem dX4_workAhead_26 : decode cX4_workAhead 26 = .ok (.iload 7, 2) := by decide +kernel
theorem dX4_workAhead_28 : decode cX4_workAhead 28 = .ok (.iaload, 1) := by decide +kernel
theorem dX4_workAhead_29 : decode cX4_workAhead 29 = .ok (.aaload, 1) := by decide +kernel
theorem dX4_workAhead_30 : decode cX4_workAhead 30 = .ok (.astore 8, 2) := by decide +kernel
theorem dX4_workAhead_32 : decode cX4_workAhead 32 = .ok (.iload 6, 2) := by decide +kernel
theorem dX4_workAhead_34 : decode cX4_workAhead 34 = .ok (.iload 4, 2) := by decide +kernel
theorem dX4_workAhead_36 : decode cX4_workAhead 36 = .ok (.aload 8, 2) := by decide +kernel
theorem dX4_workAhead_38 : decode cX4_workAhead 38 = .ok (.getfield 55, 3) := by decide +kernel
theorem dX4_workAhead_41 : decode cX4_workAhead 41 = .ok (.invokestatic 58, 3) := by decide +kernel
theorem dX4_workAhead_44 : decode cX4_workAhead 44 = .ok (.aload 8, 2) := by decide +kernel
theorem dX4_workAhead_46 : decode cX4_workAhead 46 = .ok (.iload 5, 2) := by decide +kernel
theorem dX4_workAhead_48 : decode cX4_workAhead 48 = .ok (.invokevirtual 62, 3) := by decide +kernel
theorem dX4_workAhead_51 : decode cX4_workAhead 51 = .ok (.imul, 1) := by decide +kernel
theorem dX4_workAhead_52 : decode cX4_workAhead 52 = .ok (.iadd, 1) := by decide +kernel
theorem dX4_workAhead_53 : decode cX4_workAhead 53 = .ok (.istore 6, 2) := by decide +kernel
theorem dX4_workAhead_55 : decode cX4_workAhead 55 = .ok (.iinc 7 1, 3) := by decide +kernel
theorem dX4_workAhead_58 : decode cX4_workAhead 58 = .ok (.goto (-52), 3) := by decide +kernel
theorem dX4_workAhead_61 : decode cX4_workAhead 61 = .ok (.iload 6, 2) := by decide +kernel
theorem dX4_workAhead_63 : decode cX4_workAhead 63 = .ok (.ireturn, 1) := by decide +kernel
set_option maxRecDepth 20000 in
theorem ggX5_init_X4_init : GoodIn wsX5_init wsX4_init := goodIn_r _ [26, 27, 2, 3, 28, 29, 30, 31, 32, 33, 34, 35, 36, 37, 38, 39, 40, 41, 56, 78, 79, 80, 81, 82, 83, 84, 85, 86, 87, 88, 89, 90, 91] (by decide +kernel) (by decide +kernel)
set_option maxRecDepth 20000 in
theorem gX5_init_X4_init : GoodIn wsX5_init (wsX4_init) := ggX5_init_X4_init
set_option maxRecDepth 20000 in
theorem ggX5_init_X1_init : GoodIn wsX5_init wsX1_init := goodIn_r _ [43, 44, 2, 3, 38, 45, 70, 71] (by decide +kernel) (by decide +kernel)
set_option maxRecDepth 20000 in
theorem gX5_init_X1_init_n25 : GoodIn wsX5_init (wsX1_init) := ggX5_init_X1_init
set_option maxRecDepth 20000 in
theorem ggX5_init_X2_init : GoodIn wsX5_init wsX2_init := goodIn_r _ [47, 48, 2, 3, 38, 49, 50, 72, 73, 74, 75] (by decide +kernel) (by decide +kernel)
set_option maxRecDepth 20000 in
theorem gX5_init_X2_init_n38 : GoodIn wsX5_init (wsX2_init) := ggX5_init_X2_init
set_option maxRecDepth 20000 in
theorem ggX5_init_X0_init : GoodIn wsX5_init wsX0_init := goodIn_r _ [53, 54, 2, 3, 38, 55, 76, 77] (by decide +kernel) (by decide +kernel)
set_option maxRecDepth 20000 in
theorem gX5_init_X0_init : GoodIn wsX5_init (wsX0_init) := ggX5_init_X0_init
theorem dX5_init_0 : decode cX5_init 0 = .ok (.aload_n 0, 1) := by decide +kernel
theorem dX5_init_1 : decode cX5_init 1 = .ok (.invokespecial 3, 3) := by decide +kernel
theorem dX5_init_4 : decode cX5_init 4 = .ok (.aload_n 0, 1) := by decide +kernel
theorem dX5_init_5 : decode cX5_init 5 = .ok (.new 9, 3) := by decide +kernel
theorem dX5_init_8 : decode cX5_init 8 = .ok (.dup, 1) := by decide +kernel
theorem dX5_init_9 : decode cX5_init 9 = .ok (.invokespecial 11, 3) := by decide +kernel
theorem dX5_init_12 : decode cX5_init 12 = .ok (.putfield 12, 3) := by decide +kernel
theorem dX5_init_15 : decode cX5_init 15 = .ok (.aload_n 0, 1) := by decide +kernel
theorem dX5_init_16 : decode cX5_init 16 = .ok (.aload_n 0, 1) := by decide +kernel
theorem dX5_init_17 : decode cX5_init 17 = .ok (.getfield 12, 3) := by decide +kernel
theorem dX5_init_20 : decode cX5_init 20 = .ok (.getfield 16, 3) := by decide +kernel
theorem dX5_init_23 : decode cX5_init 23 = .ok (.putfield 20, 3) := by decide +kernel
theorem dX5_init_26 : decode cX5_init 26 = .ok (.aload_n 0, 1) := by decide +kernel
theorem dX5_init_27 : decode cX5_init 27 = .ok (.new 23, 3) := by decide +kernel
theorem dX5_init_30 : decode cX5_init 30 = .ok (.dup, 1) := by decide +kernel
theorem dX5_init_31 : decode cX5_init 31 = .ok (.invokespecial 25, 3) := by decide +kernel
theorem dX5_init_34 : decode cX5_init 34 = .ok (.putfield 26, 3) := by decide +kernel
theorem dX5_init_37 : decode cX5_init 37 = .ok (.aload_n 0, 1) := by decide +kernel
theorem dX5_init_38 : decode cX5_init 38 = .ok (.new 23, 3) := by decide +kernel
theorem dX5_init_41 : decode cX5_init 41 = .ok (.dup, 1) := by decide +kernel
theorem dX5_init_42 : decode cX5_init 42 = .ok (.invokespecial 25, 3) := by decide +kernel
theorem dX5_init_45 : decode cX5_init 45 = .ok (.putfield 30, 3) := by decide +kernel
theorem dX5_init_48 : decode cX5_init 48 = .ok (.aload_n 0, 1) := by decide +kernel
theorem dX5_init_49 : decode cX5_init 49 = .ok (.new 23, 3) := by decide +kernel
theorem dX5_init_52 : decode cX5_init 52 = .ok (.dup, 1) := by decide +kernel
theorem dX5_init_53 : decode cX5_init 53 = .ok (.invokespecial 25, 3) := by decide +kernel
theorem dX5_init_56 : decode cX5_init 56 = .ok (.putfield 33, 3) := by decide +kernel
theorem dX5_init_59 : decode cX5_init 59 = .ok (.aload_n 0, 1) := by decide +kernel
theorem dX5_init_60 : decode cX5_init 60 = .ok (.new 36, 3) := by decide +kernel
theorem dX5_init_63 : decode cX5_init 63 = .ok (.dup, 1) := by decide +kernel
theorem dX5_init_64 : decode cX5_init 64 = .ok (.invokespecial 38, 3) := by decide +kernel
theorem dX5_init_67 : decode cX5_init 67 = .ok (.putfield 39, 3) := by decide +kernel
theorem dX5_init_70 : decode cX5_init 70 = .ok (.aload_n 0, 1) := by decide +kernel
theorem dX5_init_71 : decode cX5_init 71 = .ok (.new 43, 3) := by decide +kernel
theorem dX5_init_74 : decode cX5_init 74 = .ok (.dup, 1) := by decide +kernel
theorem dX5_init_75 : decode cX5_init 75 = .ok (.sipush 256, 3) := by decide +kernel
theorem dX5_init_78 : decode cX5_init 78 = .ok (.invokespecial 45, 3) := by decide +kernel
theorem dX5_init_81 : decode cX5_init 81 = .ok (.putfield 48, 3) := by decide +kernel
theorem dX5_init_84 : decode cX5_init 84 = .ok (.aload_n 0, 1) := by decide +kernel
theorem dX5_init_85 : decode cX5_init 85 = .ok (.new 43, 3) := by decide +kernel
theorem dX5_init_88 : decode cX5_init 88 = .ok (.dup, 1) := by decide +kernel
theorem dX5_init_89 : decode cX5_init 89 = .ok (.bipush 8, 2) := by decide +kernel
theorem dX5_init_91 : decode cX5_init 91 = .ok (.invokespecial 45, 3) := by decide +kernel
theorem dX5_init_94 : decode cX5_init 94 = .ok (.putfield 52, 3) := by decide +kernel
theorem dX5_init_97 : decode cX5_init 97 = .ok (.return_, 1) := by decide +kernel
set_option maxRecDepth 20000 in
theorem ggX5_add_X5_isTask : GoodIn wsX5_add wsX5_isTask := goodIn_r _ [11] (by decide +kernel) (by decide +kernel)
set_option maxRecDepth 20000 in
theorem gX5_add_X5_isTask : GoodIn wsX5_add (va_wsS RX5 55 yX5_isTask wsX5_isTask) := goodIn_app (goodIn_of _ (by decide +kernel)) ggX5_add_X5_isTask
set_option maxRecDepth 20000 in
theorem ggX5_add_X5_areTimes : GoodIn wsX5_add wsX5_areTimes := goodIn_r _ [14] (by decide +kernel) (by decide +kernel)
set_option maxRecDepth 20000 in
theorem gX5_add_X5_areTimes : GoodIn wsX5_add (va_wsS RX5 59 yX5_areTimes wsX5_areTimes) := goodIn_app (goodIn_of _ (by decide +kernel)) ggX5_add_X5_areTimes
set_option maxRecDepth 20000 in
theorem ggX5_add_X5_areBudgets : GoodIn wsX5_add wsX5_areBudgets := goodIn_r _ [17] (by decide +kernel) (by decide +kernel)
set_option maxRecDepth 20000 in
theorem gX5_add_X5_areBudgets : GoodIn wsX5_add (va_wsS RX5 63 yX5_areBudgets wsX5_areBudgets) := goodIn_app (goodIn_of _ (by decide +kernel)) ggX5_add_X5_areBudgets
set_option maxRecDepth 20000 in
theorem ggX5_add_X5_isKnown : GoodIn wsX5_add wsX5_isKnown := goodIn_r _ [21, 7, 22, 23, 24, 25, 26, 27, 28, 112, 113, 114, 115, 116, 117, 118, 119, 120, 121, 122, 123, 124, 125, 126] (by decide +kernel) (by decide +kernel)
set_option maxRecDepth 20000 in
theorem gX5_add_X5_isKnown : GoodIn wsX5_add (wsV RX5 69 RX5 yX5_isKnown wsX5_isKnown) := goodIn_app (goodIn_of _ (by decide +kernel)) ggX5_add_X5_isKnown
set_option maxRecDepth 20000 in
theorem ggX5_add_X3_begin : GoodIn wsX5_add wsX3_begin := goodIn_r _ [33, 34, 35, 36, 37, 38, 39, 40, 41, 42, 43, 44, 127, 128, 129, 130, 131, 132, 133, 134, 135, 136, 137, 138, 139, 140] (by decide +kernel) (by decide +kernel)
set_option maxRecDepth 20000 in
theorem gX5_add_X3_begin : GoodIn wsX5_add (wsV RX5 75 RX3 yX3_begin wsX3_begin) := goodIn_app (goodIn_of _ (by decide +kernel)) ggX5_add_X3_begin
set_option maxRecDepth 20000 in
theorem ggX5_add_X1_become : GoodIn wsX5_add wsX1_become := goodIn_r _ [48, 28, 49, 50, 51, 52, 27, 125, 126] (by decide +kernel) (by decide +kernel)
set_option maxRecDepth 20000 in
theorem gX5_add_X1_become : GoodIn wsX5_add (wsV RX5 81 RX1 yX1_become wsX1_become) := goodIn_app (goodIn_of _ (by decide +kernel)) ggX5_add_X1_become
set_option maxRecDepth 20000 in
theorem ggX5_add_X5_placeFor : GoodIn wsX5_add wsX5_placeFor := goodIn_r _ [56, 7, 5, 112, 113, 114, 115, 116, 117, 118, 119, 120, 121, 122, 123, 124, 125, 126, 127, 128, 129, 130, 131, 132, 133, 134, 135, 136, 137, 138, 139, 140] (by decide +kernel) (by decide +kernel)
set_option maxRecDepth 20000 in
theorem gX5_add_X5_placeFor : GoodIn wsX5_add (wsV RX5 85 RX5 yX5_placeFor wsX5_placeFor) := goodIn_app (goodIn_of _ (by decide +kernel)) ggX5_add_X5_placeFor
set_option maxRecDepth 20000 in
theorem ggX5_add_X1_insert : GoodIn wsX5_add wsX1_insert := goodIn_r _ [60, 27, 28, 125, 126] (by decide +kernel) (by decide +kernel)
set_option maxRecDepth 20000 in
theorem gX5_add_X1_insert : GoodIn wsX5_add (wsV RX5 89 RX1 yX1_insert wsX1_insert) := goodIn_app (goodIn_of _ (by decide +kernel)) ggX5_add_X1_insert
set_option maxRecDepth 20000 in
theorem ggX5_add_X5_admitTrial : GoodIn wsX5_add wsX5_admitTrial := goodIn_r _ [64, 65, 6, 66, 5, 7, 67, 68, 69, 70, 71, 72, 73, 74, 75, 76, 77, 78, 79, 80, 81, 82, 83, 84, 85, 10, 86, 87, 88, 89, 32, 90, 37, 36, 91, 92, 93, 94, 95, 96, 97, 98, 99, 100, 101, 102, 103, 104, 105, 106, 107, 108, 109, 110, 111, 45, 46, 47, 25, 48, 28, 49, 50, 51, 52, 27, 112, 113, 114, 115, 116, 117, 118, 119, 120, 121, 122, 123, 124, 125, 126, 141, 127, 128, 129, 130, 131, 132, 133, 134, 135, 136, 137, 138, 139, 140, 142, 143, 144, 145] (by decide +kernel) (by decide +kernel)
set_option maxRecDepth 20000 in
theorem gX5_add_X5_admitTrial : GoodIn wsX5_add (wsV RX5 93 RX5 yX5_admitTrial wsX5_admitTrial) := goodIn_app (goodIn_of _ (by decide +kernel)) ggX5_add_X5_admitTrial
theorem dX5_add_0 : decode cX5_add 0 = .ok (.iload_n 1, 1) := by decide +kernel
theorem dX5_add_1 : decode cX5_add 1 = .ok (.invokestatic 55, 3) := by decide +kernel
theorem dX5_add_4 : decode cX5_add 4 = .ok (.ifCond .eq 21, 3) := by decide +kernel
theorem dX5_add_7 : decode cX5_add 7 = .ok (.iload_n 2, 1) := by decide +kernel
theorem dX5_add_8 : decode cX5_add 8 = .ok (.iload_n 3, 1) := by decide +kernel
theorem dX5_add_9 : decode cX5_add 9 = .ok (.invokestatic 59, 3) := by decide +kernel
theorem dX5_add_12 : decode cX5_add 12 = .ok (.ifCond .eq 13, 3) := by decide +kernel
theorem dX5_add_15 : decode cX5_add 15 = .ok (.iload 4, 2) := by decide +kernel
theorem dX5_add_17 : decode cX5_add 17 = .ok (.iload 5, 2) := by decide +kernel
theorem dX5_add_19 : decode cX5_add 19 = .ok (.invokestatic 63, 3) := by decide +kernel
theorem dX5_add_22 : decode cX5_add 22 = .ok (.ifCond .ne 11, 3) := by decide +kernel
theorem dX5_add_25 : decode cX5_add 25 = .ok (.new 66, 3) := by decide +kernel
theorem dX5_add_28 : decode cX5_add 28 = .ok (.dup, 1) := by decide +kernel
theorem dX5_add_29 : decode cX5_add 29 = .ok (.invokespecial 68, 3) := by decide +kernel
theorem dX5_add_32 : decode cX5_add 32 = .ok (.athrow, 1) := by decide +kernel
theorem dX5_add_33 : decode cX5_add 33 = .ok (.aload_n 0, 1) := by decide +kernel
theorem dX5_add_34 : decode cX5_add 34 = .ok (.iload_n 1, 1) := by decide +kernel
theorem dX5_add_35 : decode cX5_add 35 = .ok (.invokevirtual 69, 3) := by decide +kernel
theorem dX5_add_38 : decode cX5_add 38 = .ok (.ifCond .eq 11, 3) := by decide +kernel
theorem dX5_add_41 : decode cX5_add 41 = .ok (.new 72, 3) := by decide +kernel
theorem dX5_add_44 : decode cX5_add 44 = .ok (.dup, 1) := by decide +kernel
theorem dX5_add_45 : decode cX5_add 45 = .ok (.invokespecial 74, 3) := by decide +kernel
theorem dX5_add_48 : decode cX5_add 48 = .ok (.athrow, 1) := by decide +kernel
theorem dX5_add_49 : decode cX5_add 49 = .ok (.aload_n 0, 1) := by decide +kernel
theorem dX5_add_50 : decode cX5_add 50 = .ok (.getfield 20, 3) := by decide +kernel
theorem dX5_add_53 : decode cX5_add 53 = .ok (.iload_n 1, 1) := by decide +kernel
theorem dX5_add_54 : decode cX5_add 54 = .ok (.aaload, 1) := by decide +kernel
theorem dX5_add_55 : decode cX5_add 55 = .ok (.iload_n 2, 1) := by decide +kernel
theorem dX5_add_56 : decode cX5_add 56 = .ok (.iload_n 3, 1) := by decide +kernel
theorem dX5_add_57 : decode cX5_add 57 = .ok (.iload 4, 2) := by decide +kernel
theorem dX5_add_59 : decode cX5_add 59 = .ok (.iload 5, 2) := by decide +kernel
theorem dX5_add_61 : decode cX5_add 61 = .ok (.invokevirtual 75, 3) := by decide +kernel
theorem dX5_add_64 : decode cX5_add 64 = .ok (.aload_n 0, 1) := by decide +kernel
theorem dX5_add_65 : decode cX5_add 65 = .ok (.getfield 33, 3) := by decide +kernel
theorem dX5_add_68 : decode cX5_add 68 = .ok (.aload_n 0, 1) := by decide +kernel
theorem dX5_add_69 : decode cX5_add 69 = .ok (.getfield 26, 3) := by decide +kernel
theorem dX5_add_72 : decode cX5_add 72 = .ok (.invokevirtual 81, 3) := by decide +kernel
theorem dX5_add_75 : decode cX5_add 75 = .ok (.aload_n 0, 1) := by decide +kernel
theorem dX5_add_76 : decode cX5_add 76 = .ok (.getfield 33, 3) := by decide +kernel
theorem dX5_add_79 : decode cX5_add 79 = .ok (.aload_n 0, 1) := by decide +kernel
theorem dX5_add_80 : decode cX5_add 80 = .ok (.iload_n 3, 1) := by decide +kernel
theorem dX5_add_81 : decode cX5_add 81 = .ok (.invokevirtual 85, 3) := by decide +kernel
theorem dX5_add_84 : decode cX5_add 84 = .ok (.iload_n 1, 1) := by decide +kernel
theorem dX5_add_85 : decode cX5_add 85 = .ok (.invokevirtual 89, 3) := by decide +kernel
theorem dX5_add_88 : decode cX5_add 88 = .ok (.aload_n 0, 1) := by decide +kernel
theorem dX5_add_89 : decode cX5_add 89 = .ok (.invokevirtual 93, 3) := by decide +kernel
theorem dX5_add_92 : decode cX5_add 92 = .ok (.ireturn, 1) := by decide +kernel
set_option maxRecDepth 20000 in
theorem ggX5_remove_X5_isKnown : GoodIn wsX5_remove wsX5_isKnown := goodIn_r _ [10, 11, 12, 13, 14, 15, 16, 17, 18, 33, 34, 35, 36, 37, 38, 39, 40, 41, 42, 43, 44, 45, 60, 61] (by decide +kernel) (by decide +kernel)
set_option maxRecDepth 20000 in
theorem gX5_remove_X5_isKnown : GoodIn wsX5_remove (wsV RX5 69 RX5 yX5_isKnown wsX5_isKnown) := goodIn_app (goodIn_of _ (by decide +kernel)) ggX5_remove_X5_isKnown
set_option maxRecDepth 20000 in
theorem ggX5_remove_X5_forgetIfLeft : GoodIn wsX5_remove wsX5_forgetIfLeft := goodIn_r _ [22, 5, 11, 23, 24, 25, 26, 15, 27, 17, 28, 13, 14, 16, 18, 29, 30, 31, 32, 33, 34, 35, 36, 37, 38, 39, 40, 41, 42, 43, 44, 45, 46, 47, 48, 49, 50, 51, 52, 53, 54, 55, 56, 57, 58, 59, 60, 61] (by decide +kernel) (by decide +kernel)
set_option maxRecDepth 20000 in
theorem gX5_remove_X5_forgetIfLeft : GoodIn wsX5_remove (wsV RX5 104 RX5 yX5_forgetIfLeft wsX5_forgetIfLeft) := goodIn_app (goodIn_of _ (by decide +kernel)) ggX5_remove_X5_forgetIfLeft
theorem dX5_remove_0 : decode cX5_remove 0 = .ok (.aload_n 0, 1) := by decide +kernel
theorem dX5_remove_1 : decode cX5_remove 1 = .ok (.iload_n 1, 1) := by decide +kernel
theorem dX5_remove_2 : decode cX5_remove 2 = .ok (.invokevirtual 69, 3) := by decide +kernel
theorem dX5_remove_5 : decode cX5_remove 5 = .ok (.ifCond .ne 11, 3) := by decide +kernel
theorem dX5_remove_8 : decode cX5_remove 8 = .ok (.new 97, 3) := by decide +kernel
theorem dX5_remove_11 : decode cX5_remove 11 = .ok (.dup, 1) := by decide +kernel
theorem dX5_remove_12 : decode cX5_remove 12 = .ok (.invokespecial 99, 3) := by decide +kernel
theorem dX5_remove_15 : decode cX5_remove 15 = .ok (.athrow, 1) := by decide +kernel
theorem dX5_remove_16 : decode cX5_remove 16 = .ok (.aload_n 0, 1) := by decide +kernel
theorem dX5_remove_17 : decode cX5_remove 17 = .ok (.getfield 20, 3) := by decide +kernel
theorem dX5_remove_20 : decode cX5_remove 20 = .ok (.iload_n 1, 1) := by decide +kernel
theorem dX5_remove_21 : decode cX5_remove 21 = .ok (.aaload, 1) := by decide +kernel
theorem dX5_remove_22 : decode cX5_remove 22 = .ok (.getfield 100, 3) := by decide +kernel
theorem dX5_remove_25 : decode cX5_remove 25 = .ok (.ifCond .eq 11, 3) := by decide +kernel
theorem dX5_remove_28 : decode cX5_remove 28 = .ok (.new 72, 3) := by decide +kernel
theorem dX5_remove_31 : decode cX5_remove 31 = .ok (.dup, 1) := by decide +kernel
theorem dX5_remove_32 : decode cX5_remove 32 = .ok (.invokespecial 74, 3) := by decide +kernel
theorem dX5_remove_35 : decode cX5_remove 35 = .ok (.athrow, 1) := by decide +kernel
theorem dX5_remove_36 : decode cX5_remove 36 = .ok (.aload_n 0, 1) := by decide +kernel
theorem dX5_remove_37 : decode cX5_remove 37 = .ok (.getfield 20, 3) := by decide +kernel
theorem dX5_remove_40 : decode cX5_remove 40 = .ok (.iload_n 1, 1) := by decide +kernel
theorem dX5_remove_41 : decode cX5_remove 41 = .ok (.aaload, 1) := by decide +kernel
theorem dX5_remove_42 : decode cX5_remove 42 = .ok (.iconst 1, 1) := by decide +kernel
theorem dX5_remove_43 : decode cX5_remove 43 = .ok (.putfield 100, 3) := by decide +kernel
theorem dX5_remove_46 : decode cX5_remove 46 = .ok (.aload_n 0, 1) := by decide +kernel
theorem dX5_remove_47 : decode cX5_remove 47 = .ok (.iload_n 1, 1) := by decide +kernel
theorem dX5_remove_48 : decode cX5_remove 48 = .ok (.invokevirtual 104, 3) := by decide +kernel
theorem dX5_remove_51 : decode cX5_remove 51 = .ok (.aload_n 0, 1) := by decide +kernel
theorem dX5_remove_52 : decode cX5_remove 52 = .ok (.iload_n 1, 1) := by decide +kernel
theorem dX5_remove_53 : decode cX5_remove 53 = .ok (.invokevirtual 69, 3) := by decide +kernel
theorem dX5_remove_56 : decode cX5_remove 56 = .ok (.ifCond .ne 7, 3) := by decide +kernel
theorem dX5_remove_59 : decode cX5_remove 59 = .ok (.iconst 1, 1) := by decide +kernel
theorem dX5_remove_60 : decode cX5_remove 60 = .ok (.goto 4, 3) := by decide +kernel
theorem dX5_remove_63 : decode cX5_remove 63 = .ok (.iconst 0, 1) := by decide +kernel
theorem dX5_remove_64 : decode cX5_remove 64 = .ok (.ireturn, 1) := by decide +kernel
set_option maxRecDepth 20000 in
theorem ggX5_release_X5_isInForce : GoodIn wsX5_release wsX5_isInForce := goodIn_r _ [14, 15, 16, 17, 18, 19, 20, 21, 22, 55, 56, 57, 58, 59, 60, 61, 62, 63, 64, 65, 66, 67, 82, 83] (by decide +kernel) (by decide +kernel)
set_option maxRecDepth 20000 in
theorem gX5_release_X5_isInForce : GoodIn wsX5_release (wsV RX5 107 RX5 yX5_isInForce wsX5_isInForce) := goodIn_app (goodIn_of _ (by decide +kernel)) ggX5_release_X5_isInForce
set_option maxRecDepth 20000 in
theorem ggX5_release_X3_greatestBudget : GoodIn wsX5_release wsX3_greatestBudget := goodIn_r _ [27, 28, 29, 30, 31, 32, 26, 33, 68, 69, 70, 71, 72, 73, 74, 75, 76, 77, 78, 79, 80, 81] (by decide +kernel) (by decide +kernel)
set_option maxRecDepth 20000 in
theorem gX5_release_X3_greatestBudget : GoodIn wsX5_release (wsV RX5 110 RX3 yX3_greatestBudget wsX3_greatestBudget) := goodIn_app (goodIn_of _ (by decide +kernel)) ggX5_release_X3_greatestBudget
set_option maxRecDepth 20000 in
theorem ggX5_release_X3_nextRelease : GoodIn wsX5_release wsX3_nextRelease := goodIn_r _ [37, 38, 39, 40, 41, 13, 42, 43, 44, 45, 46, 68, 69, 70, 71, 72, 73, 74, 75, 76, 77, 78, 79, 80, 81] (by decide +kernel) (by decide +kernel)
set_option maxRecDepth 20000 in
theorem gX5_release_X3_nextRelease : GoodIn wsX5_release (wsV RX5 117 RX3 yX3_nextRelease wsX3_nextRelease) := goodIn_app (goodIn_of _ (by decide +kernel)) ggX5_release_X3_nextRelease
set_option maxRecDepth 20000 in
theorem ggX5_release_X3_isHigh : GoodIn wsX5_release wsX3_isHigh := goodIn_r _ [33, 28, 68, 69, 70, 71, 72, 73, 74, 75, 76, 77, 78, 79, 80, 81] (by decide +kernel) (by decide +kernel)
set_option maxRecDepth 20000 in
theorem gX5_release_X3_isHigh : GoodIn wsX5_release (wsV RX5 126 RX3 yX3_isHigh wsX3_isHigh) := goodIn_app (goodIn_of _ (by decide +kernel)) ggX5_release_X3_isHigh
set_option maxRecDepth 20000 in
theorem ggX5_release_X3_newJob : GoodIn wsX5_release wsX3_newJob := goodIn_r _ [51, 38, 52, 53, 39, 54, 41, 13, 42, 43, 44, 45, 46, 68, 69, 70, 71, 72, 73, 74, 75, 76, 77, 78, 79, 80, 81] (by decide +kernel) (by decide +kernel)
set_option maxRecDepth 20000 in
theorem gX5_release_X3_newJob : GoodIn wsX5_release (wsV RX5 133 RX3 yX3_newJob wsX3_newJob) := goodIn_app (goodIn_of _ (by decide +kernel)) ggX5_release_X3_newJob
theorem dX5_release_0 : decode cX5_release 0 = .ok (.aload_n 0, 1) := by decide +kernel
theorem dX5_release_1 : decode cX5_release 1 = .ok (.iload_n 1, 1) := by decide +kernel
theorem dX5_release_2 : decode cX5_release 2 = .ok (.invokevirtual 107, 3) := by decide +kernel
theorem dX5_release_5 : decode cX5_release 5 = .ok (.ifCond .ne 11, 3) := by decide +kernel
theorem dX5_release_8 : decode cX5_release 8 = .ok (.new 97, 3) := by decide +kernel
theorem dX5_release_11 : decode cX5_release 11 = .ok (.dup, 1) := by decide +kernel
theorem dX5_release_12 : decode cX5_release 12 = .ok (.invokespecial 99, 3) := by decide +kernel
theorem dX5_release_15 : decode cX5_release 15 = .ok (.athrow, 1) := by decide +kernel
theorem dX5_release_16 : decode cX5_release 16 = .ok (.aload_n 0, 1) := by decide +kernel
theorem dX5_release_17 : decode cX5_release 17 = .ok (.getfield 20, 3) := by decide +kernel
theorem dX5_release_20 : decode cX5_release 20 = .ok (.iload_n 1, 1) := by decide +kernel
theorem dX5_release_21 : decode cX5_release 21 = .ok (.aaload, 1) := by decide +kernel
theorem dX5_release_22 : decode cX5_release 22 = .ok (.astore_n 3, 1) := by decide +kernel
theorem dX5_release_23 : decode cX5_release 23 = .ok (.iload_n 2, 1) := by decide +kernel
theorem dX5_release_24 : decode cX5_release 24 = .ok (.iconst 1, 1) := by decide +kernel
theorem dX5_release_25 : decode cX5_release 25 = .ok (.if_icmp .lt 11, 3) := by decide +kernel
theorem dX5_release_28 : decode cX5_release 28 = .ok (.iload_n 2, 1) := by decide +kernel
theorem dX5_release_29 : decode cX5_release 29 = .ok (.aload_n 3, 1) := by decide +kernel
theorem dX5_release_30 : decode cX5_release 30 = .ok (.invokevirtual 110, 3) := by decide +kernel
theorem dX5_release_33 : decode cX5_release 33 = .ok (.if_icmp .le 11, 3) := by decide +kernel
theorem dX5_release_36 : decode cX5_release 36 = .ok (.new 66, 3) := by decide +kernel
theorem dX5_release_39 : decode cX5_release 39 = .ok (.dup, 1) := by decide +kernel
theorem dX5_release_40 : decode cX5_release 40 = .ok (.invokespecial 68, 3) := by decide +kernel
theorem dX5_release_43 : decode cX5_release 43 = .ok (.athrow, 1) := by decide +kernel
theorem dX5_release_44 : decode cX5_release 44 = .ok (.aload_n 3, 1) := by decide +kernel
theorem dX5_release_45 : decode cX5_release 45 = .ok (.getfield 100, 3) := by decide +kernel
theorem dX5_release_48 : decode cX5_release 48 = .ok (.ifCond .ne 22, 3) := by decide +kernel
theorem dX5_release_51 : decode cX5_release 51 = .ok (.aload_n 0, 1) := by decide +kernel
theorem dX5_release_52 : decode cX5_release 52 = .ok (.getfield 113, 3) := by decide +kernel
theorem dX5_release_55 : decode cX5_release 55 = .ok (.aload_n 3, 1) := by decide +kernel
theorem dX5_release_56 : decode cX5_release 56 = .ok (.invokevirtual 117, 3) := by decide +kernel
theorem dX5_release_59 : decode cX5_release 59 = .ok (.if_icmp .lt 11, 3) := by decide +kernel
theorem dX5_release_62 : decode cX5_release 62 = .ok (.aload_n 3, 1) := by decide +kernel
theorem dX5_release_63 : decode cX5_release 63 = .ok (.getfield 120, 3) := by decide +kernel
theorem dX5_release_66 : decode cX5_release 66 = .ok (.iconst 4, 1) := by decide +kernel
theorem dX5_release_67 : decode cX5_release 67 = .ok (.if_icmp .lt 11, 3) := by decide +kernel
theorem dX5_release_70 : decode cX5_release 70 = .ok (.new 72, 3) := by decide +kernel
theorem dX5_release_73 : decode cX5_release 73 = .ok (.dup, 1) := by decide +kernel
theorem dX5_release_74 : decode cX5_release 74 = .ok (.invokespecial 74, 3) := by decide +kernel
theorem dX5_release_77 : decode cX5_release 77 = .ok (.athrow, 1) := by decide +kernel
theorem dX5_release_78 : decode cX5_release 78 = .ok (.aload_n 0, 1) := by decide +kernel
theorem dX5_release_79 : decode cX5_release 79 = .ok (.getfield 123, 3) := by decide +kernel
theorem dX5_release_82 : decode cX5_release 82 = .ok (.ifCond .eq 22, 3) := by decide +kernel
theorem dX5_release_85 : decode cX5_release 85 = .ok (.aload_n 3, 1) := by decide +kernel
theorem dX5_release_86 : decode cX5_release 86 = .ok (.invokevirtual 126, 3) := by decide +kernel
theorem dX5_release_89 : decode cX5_release 89 = .ok (.ifCond .ne 15, 3) := by decide +kernel
theorem dX5_release_92 : decode cX5_release 92 = .ok (.aload_n 3, 1) := by decide +kernel
theorem dX5_release_93 : decode cX5_release 93 = .ok (.dup, 1) := by decide +kernel
theorem dX5_release_94 : decode cX5_release 94 = .ok (.getfield 130, 3) := by decide +kernel
theorem dX5_release_97 : decode cX5_release 97 = .ok (.iconst 1, 1) := by decide +kernel
theorem dX5_release_98 : decode cX5_release 98 = .ok (.iadd, 1) := by decide +kernel
theorem dX5_release_99 : decode cX5_release 99 = .ok (.putfield 130, 3) := by decide +kernel
theorem dX5_release_102 : decode cX5_release 102 = .ok (.iconst 0, 1) := by decide +kernel
theorem dX5_release_103 : decode cX5_release 103 = .ok (.ireturn, 1) := by decide +kernel
theorem dX5_release_104 : decode cX5_release 104 = .ok (.aload_n 3, 1) := by decide +kernel
theorem dX5_release_105 : decode cX5_release 105 = .ok (.iload_n 2, 1) := by decide +kernel
theorem dX5_release_106 : decode cX5_release 106 = .ok (.aload_n 0, 1) := by decide +kernel
theorem dX5_release_107 : decode cX5_release 107 = .ok (.getfield 113, 3) := by decide +kernel
theorem dX5_release_110 : decode cX5_release 110 = .ok (.invokevirtual 133, 3) := by decide +kernel
theorem dX5_release_113 : decode cX5_release 113 = .ok (.ireturn, 1) := by decide +kernel
set_option maxRecDepth 20000 in
theorem ggX5_tick_X5_advance : GoodIn wsX5_tick wsX5_advance := goodIn_r _ [5, 6, 7, 8, 9, 10, 4, 11, 12, 13, 14, 15, 16, 17, 18, 19, 20, 21, 22, 23, 24, 25, 26, 27, 28, 29, 30, 31, 32, 33, 34, 35, 36, 37, 38, 39, 40, 41, 42, 43, 44, 45, 46, 47, 48, 49, 50, 51, 52, 53, 54, 55, 56, 57, 58, 59, 60, 61, 62, 63, 64, 65, 66, 67, 68, 69, 70, 71, 72, 73, 74, 75, 76, 77, 78, 79, 80, 81, 82, 83, 84, 85, 86, 87, 88, 89, 90, 91, 92, 93, 94, 95, 96, 97, 98, 99, 100, 101, 102, 103, 104, 105, 106, 107, 108, 109, 110, 111, 112, 113, 114, 115, 116, 117, 118, 119, 120, 121, 122, 123, 124, 125, 126, 127, 128, 129, 130] (by decide +kernel) (by decide +kernel)
set_option maxRecDepth 20000 in
theorem gX5_tick_X5_advance : GoodIn wsX5_tick (wsV RX5 137 RX5 yX5_advance wsX5_advance) := goodIn_app (goodIn_of _ (by decide +kernel)) ggX5_tick_X5_advance
theorem dX5_tick_0 : decode cX5_tick 0 = .ok (.aload_n 0, 1) := by decide +kernel
theorem dX5_tick_1 : decode cX5_tick 1 = .ok (.invokevirtual 137, 3) := by decide +kernel
theorem dX5_tick_4 : decode cX5_tick 4 = .ok (.ireturn, 1) := by decide +kernel
set_option maxRecDepth 20000 in
theorem ggX5_run_X5_advance : GoodIn wsX5_run wsX5_advance := goodIn_r _ [7, 8, 9, 10, 11, 12, 6, 13, 14, 15, 16, 17, 18, 19, 20, 21, 22, 23, 24, 25, 26, 27, 28, 29, 30, 31, 32, 33, 34, 35, 36, 37, 38, 39, 40, 41, 42, 43, 44, 45, 46, 47, 48, 49, 50, 51, 52, 53, 54, 55, 56, 57, 58, 59, 60, 61, 62, 63, 64, 65, 66, 67, 68, 69, 70, 71, 72, 73, 74, 75, 76, 77, 78, 79, 80, 81, 82, 83, 84, 85, 86, 87, 88, 89, 90, 91, 92, 93, 94, 95, 96, 97, 98, 99, 100, 101, 102, 103, 104, 105, 106, 107, 108, 109, 110, 111, 112, 113, 114, 115, 116, 117, 118, 119, 120, 121, 122, 123, 124, 125, 126, 127, 128, 129, 130, 131, 132] (by decide +kernel) (by decide +kernel)
set_option maxRecDepth 20000 in
theorem gX5_run_X5_advance : GoodIn wsX5_run (wsV RX5 137 RX5 yX5_advance wsX5_advance) := goodIn_app (goodIn_of _ (by decide +kernel)) ggX5_run_X5_advance
theorem dX5_run_0 : decode cX5_run 0 = .ok (.iload_n 1, 1) := by decide +kernel
theorem dX5_run_1 : decode cX5_run 1 = .ok (.ifCond .lt 10, 3) := by decide +kernel
theorem dX5_run_4 : decode cX5_run 4 = .ok (.iload_n 1, 1) := by decide +kernel
theorem dX5_run_5 : decode cX5_run 5 = .ok (.sipush 1000, 3) := by decide +kernel
theorem dX5_run_8 : decode cX5_run 8 = .ok (.if_icmp .le 11, 3) := by decide +kernel
theorem dX5_run_11 : decode cX5_run 11 = .ok (.new 66, 3) := by decide +kernel
theorem dX5_run_14 : decode cX5_run 14 = .ok (.dup, 1) := by decide +kernel
theorem dX5_run_15 : decode cX5_run 15 = .ok (.invokespecial 68, 3) := by decide +kernel
theorem dX5_run_18 : decode cX5_run 18 = .ok (.athrow, 1) := by decide +kernel
theorem dX5_run_19 : decode cX5_run 19 = .ok (.iconst 0, 1) := by decide +kernel
theorem dX5_run_20 : decode cX5_run 20 = .ok (.istore_n 2, 1) := by decide +kernel
theorem dX5_run_21 : decode cX5_run 21 = .ok (.iconst 0, 1) := by decide +kernel
theorem dX5_run_22 : decode cX5_run 22 = .ok (.istore_n 3, 1) := by decide +kernel
theorem dX5_run_23 : decode cX5_run 23 = .ok (.iload_n 3, 1) := by decide +kernel
theorem dX5_run_24 : decode cX5_run 24 = .ok (.iload_n 1, 1) := by decide +kernel
theorem dX5_run_25 : decode cX5_run 25 = .ok (.if_icmp .ge 19, 3) := by decide +kernel
theorem dX5_run_28 : decode cX5_run 28 = .ok (.aload_n 0, 1) := by decide +kernel
theorem dX5_run_29 : decode cX5_run 29 = .ok (.invokevirtual 137, 3) := by decide +kernel
theorem dX5_run_32 : decode cX5_run 32 = .ok (.ifCond .ne 6, 3) := by decide +kernel
theorem dX5_run_35 : decode cX5_run 35 = .ok (.iinc 2 1, 3) := by decide +kernel
theorem dX5_run_38 : decode cX5_run 38 = .ok (.iinc 3 1, 3) := by decide +kernel
theorem dX5_run_41 : decode cX5_run 41 = .ok (.goto (-18), 3) := by decide +kernel
theorem dX5_run_44 : decode cX5_run 44 = .ok (.iload_n 2, 1) := by decide +kernel
theorem dX5_run_45 : decode cX5_run 45 = .ok (.ireturn, 1) := by decide +kernel
set_option maxRecDepth 20000 in
theorem ggX5_assign_X1_become : GoodIn wsX5_assign wsX1_become := goodIn_r _ [8, 9, 10, 11, 12, 13, 14, 68, 69] (by decide +kernel) (by decide +kernel)
set_option maxRecDepth 20000 in
theorem gX5_assign_X1_become : GoodIn wsX5_assign (wsV RX5 81 RX1 yX1_become wsX1_become) := goodIn_app (goodIn_of _ (by decide +kernel)) ggX5_assign_X1_become
set_option maxRecDepth 20000 in
theorem ggX5_assign_X4_lastThatPasses : GoodIn wsX5_assign wsX4_lastThatPasses := goodIn_r _ [19, 20, 21, 22, 23, 18, 24, 25, 26, 27, 28, 29, 30, 31, 32, 33, 34, 35, 36, 37, 38, 39, 40, 41, 42, 43, 44, 45, 46, 47, 48, 49, 50, 70, 68, 69, 71, 72, 73, 74, 75, 76, 77, 78, 79, 80, 81, 82, 83, 84] (by decide +kernel) (by decide +kernel)
set_option maxRecDepth 20000 in
theorem gX5_assign_X4_lastThatPasses : GoodIn wsX5_assign (wsV RX5 143 RX4 yX4_lastThatPasses wsX4_lastThatPasses) := goodIn_app (goodIn_of _ (by decide +kernel)) ggX5_assign_X4_lastThatPasses
set_option maxRecDepth 20000 in
theorem ggX5_assign_X1_moveBack : GoodIn wsX5_assign wsX1_moveBack := goodIn_r _ [54, 9, 68, 69] (by decide +kernel) (by decide +kernel)
set_option maxRecDepth 20000 in
theorem gX5_assign_X1_moveBack : GoodIn wsX5_assign (wsV RX5 147 RX1 yX1_moveBack wsX1_moveBack) := goodIn_app (goodIn_of _ (by decide +kernel)) ggX5_assign_X1_moveBack
theorem dX5_assign_0 : decode cX5_assign 0 = .ok (.aload_n 0, 1) := by decide +kernel
theorem dX5_assign_1 : decode cX5_assign 1 = .ok (.getfield 33, 3) := by decide +kernel
theorem dX5_assign_4 : decode cX5_assign 4 = .ok (.aload_n 0, 1) := by decide +kernel
theorem dX5_assign_5 : decode cX5_assign 5 = .ok (.getfield 26, 3) := by decide +kernel
theorem dX5_assign_8 : decode cX5_assign 8 = .ok (.invokevirtual 81, 3) := by decide +kernel
theorem dX5_assign_11 : decode cX5_assign 11 = .ok (.aload_n 0, 1) := by decide +kernel
theorem dX5_assign_12 : decode cX5_assign 12 = .ok (.getfield 33, 3) := by decide +kernel
theorem dX5_assign_15 : decode cX5_assign 15 = .ok (.getfield 140, 3) := by decide +kernel
theorem dX5_assign_18 : decode cX5_assign 18 = .ok (.iconst 1, 1) := by decide +kernel
theorem dX5_assign_19 : decode cX5_assign 19 = .ok (.isub, 1) := by decide +kernel
theorem dX5_assign_20 : decode cX5_assign 20 = .ok (.istore_n 1, 1) := by decide +kernel
theorem dX5_assign_21 : decode cX5_assign 21 = .ok (.iload_n 1, 1) := by decide +kernel
theorem dX5_assign_22 : decode cX5_assign 22 = .ok (.ifCond .lt 38, 3) := by decide +kernel
theorem dX5_assign_25 : decode cX5_assign 25 = .ok (.aload_n 0, 1) := by decide +kernel
theorem dX5_assign_26 : decode cX5_assign 26 = .ok (.getfield 12, 3) := by decide +kernel
theorem dX5_assign_29 : decode cX5_assign 29 = .ok (.aload_n 0, 1) := by decide +kernel
theorem dX5_assign_30 : decode cX5_assign 30 = .ok (.getfield 33, 3) := by decide +kernel
theorem dX5_assign_33 : decode cX5_assign 33 = .ok (.iload_n 1, 1) := by decide +kernel
theorem dX5_assign_34 : decode cX5_assign 34 = .ok (.invokevirtual 143, 3) := by decide +kernel
theorem dX5_assign_37 : decode cX5_assign 37 = .ok (.istore_n 2, 1) := by decide +kernel
theorem dX5_assign_38 : decode cX5_assign 38 = .ok (.iload_n 2, 1) := by decide +kernel
theorem dX5_assign_39 : decode cX5_assign 39 = .ok (.iconst (-1), 1) := by decide +kernel
theorem dX5_assign_40 : decode cX5_assign 40 = .ok (.if_icmp .ne 5, 3) := by decide +kernel
theorem dX5_assign_43 : decode cX5_assign 43 = .ok (.iconst 0, 1) := by decide +kernel
theorem dX5_assign_44 : decode cX5_assign 44 = .ok (.ireturn, 1) := by decide +kernel
theorem dX5_assign_45 : decode cX5_assign 45 = .ok (.aload_n 0, 1) := by decide +kernel
theorem dX5_assign_46 : decode cX5_assign 46 = .ok (.getfield 33, 3) := by decide +kernel
theorem dX5_assign_49 : decode cX5_assign 49 = .ok (.iload_n 2, 1) := by decide +kernel
end
section
theorem dX5_assign_50 : decode cX5_assign 50 = .ok (.iload_n 1, 1) := by decide +kernel
theorem dX5_assign_51 : decode cX5_assign 51 = .ok (.invokevirtual 147, 3) := by decide +kernel
theorem dX5_assign_54 : decode cX5_assign 54 = .ok (.iinc 1 (-1), 3) := by decide +kernel
theorem dX5_assign_57 : decode cX5_assign 57 = .ok (.goto (-36), 3) := by decide +kernel
theorem dX5_assign_60 : decode cX5_assign 60 = .ok (.aload_n 0, 1) := by decide +kernel
theorem dX5_assign_61 : decode cX5_assign 61 = .ok (.getfield 26, 3) := by decide +kernel
theorem dX5_assign_64 : decode cX5_assign 64 = .ok (.aload_n 0, 1) := by decide +kernel
theorem dX5_assign_65 : decode cX5_assign 65 = .ok (.getfield 33, 3) := by decide +kernel
theorem dX5_assign_68 : decode cX5_assign 68 = .ok (.invokevirtual 81, 3) := by decide +kernel
theorem dX5_assign_71 : decode cX5_assign 71 = .ok (.iconst 1, 1) := by decide +kernel
theorem dX5_assign_72 : decode cX5_assign 72 = .ok (.ireturn, 1) := by decide +kernel
set_option maxRecDepth 20000 in
theorem ggX5_response_X1_placeOf : GoodIn wsX5_response wsX1_placeOf := goodIn_r _ [11, 12, 13, 59, 60] (by decide +kernel) (by decide +kernel)
set_option maxRecDepth 20000 in
theorem gX5_response_X1_placeOf : GoodIn wsX5_response (wsV RX5 150 RX1 yX1_placeOf wsX1_placeOf) := goodIn_app (goodIn_of _ (by decide +kernel)) ggX5_response_X1_placeOf
set_option maxRecDepth 20000 in
theorem ggX5_response_X4_lowResponse : GoodIn wsX5_response wsX4_lowResponse := goodIn_r _ [18, 19, 20, 21, 22, 17, 23, 24, 25, 26, 27, 28, 29, 30, 31, 32, 33, 34, 35, 36, 37, 61, 59, 60, 62, 63, 64, 65, 66, 67, 68, 69, 70, 71, 72, 73, 74, 75] (by decide +kernel) (by decide +kernel)
set_option maxRecDepth 20000 in
theorem gX5_response_X4_lowResponse : GoodIn wsX5_response (wsV RX5 153 RX4 yX4_lowResponse wsX4_lowResponse) := goodIn_app (goodIn_of _ (by decide +kernel)) ggX5_response_X4_lowResponse
set_option maxRecDepth 20000 in
theorem ggX5_response_X4_bound : GoodIn wsX5_response wsX4_bound := goodIn_r _ [41, 19, 42, 43, 44, 34, 45, 36, 20, 21, 22, 17, 23, 24, 25, 26, 27, 28, 29, 30, 31, 32, 33, 35, 37, 61, 59, 60, 62, 63, 64, 65, 66, 67, 68, 69, 70, 71, 72, 73, 74, 75] (by decide +kernel) (by decide +kernel)
set_option maxRecDepth 20000 in
theorem gX5_response_X4_bound : GoodIn wsX5_response (wsV RX5 157 RX4 yX4_bound wsX4_bound) := goodIn_app (goodIn_of _ (by decide +kernel)) ggX5_response_X4_bound
theorem dX5_response_0 : decode cX5_response 0 = .ok (.aload_n 0, 1) := by decide +kernel
theorem dX5_response_1 : decode cX5_response 1 = .ok (.getfield 26, 3) := by decide +kernel
theorem dX5_response_4 : decode cX5_response 4 = .ok (.iload_n 1, 1) := by decide +kernel
theorem dX5_response_5 : decode cX5_response 5 = .ok (.invokevirtual 150, 3) := by decide +kernel
theorem dX5_response_8 : decode cX5_response 8 = .ok (.istore_n 3, 1) := by decide +kernel
theorem dX5_response_9 : decode cX5_response 9 = .ok (.iload_n 3, 1) := by decide +kernel
theorem dX5_response_10 : decode cX5_response 10 = .ok (.iconst (-1), 1) := by decide +kernel
theorem dX5_response_11 : decode cX5_response 11 = .ok (.if_icmp .ne 11, 3) := by decide +kernel
theorem dX5_response_14 : decode cX5_response 14 = .ok (.new 97, 3) := by decide +kernel
theorem dX5_response_17 : decode cX5_response 17 = .ok (.dup, 1) := by decide +kernel
theorem dX5_response_18 : decode cX5_response 18 = .ok (.invokespecial 99, 3) := by decide +kernel
theorem dX5_response_21 : decode cX5_response 21 = .ok (.athrow, 1) := by decide +kernel
theorem dX5_response_22 : decode cX5_response 22 = .ok (.iload_n 2, 1) := by decide +kernel
theorem dX5_response_23 : decode cX5_response 23 = .ok (.ifCond .ne 17, 3) := by decide +kernel
theorem dX5_response_26 : decode cX5_response 26 = .ok (.aload_n 0, 1) := by decide +kernel
theorem dX5_response_27 : decode cX5_response 27 = .ok (.getfield 12, 3) := by decide +kernel
theorem dX5_response_30 : decode cX5_response 30 = .ok (.aload_n 0, 1) := by decide +kernel
theorem dX5_response_31 : decode cX5_response 31 = .ok (.getfield 26, 3) := by decide +kernel
theorem dX5_response_34 : decode cX5_response 34 = .ok (.iload_n 3, 1) := by decide +kernel
theorem dX5_response_35 : decode cX5_response 35 = .ok (.iload_n 3, 1) := by decide +kernel
theorem dX5_response_36 : decode cX5_response 36 = .ok (.invokevirtual 153, 3) := by decide +kernel
theorem dX5_response_39 : decode cX5_response 39 = .ok (.ireturn, 1) := by decide +kernel
theorem dX5_response_40 : decode cX5_response 40 = .ok (.iload_n 2, 1) := by decide +kernel
theorem dX5_response_41 : decode cX5_response 41 = .ok (.iconst 1, 1) := by decide +kernel
theorem dX5_response_42 : decode cX5_response 42 = .ok (.if_icmp .ne 17, 3) := by decide +kernel
theorem dX5_response_45 : decode cX5_response 45 = .ok (.aload_n 0, 1) := by decide +kernel
theorem dX5_response_46 : decode cX5_response 46 = .ok (.getfield 12, 3) := by decide +kernel
theorem dX5_response_49 : decode cX5_response 49 = .ok (.aload_n 0, 1) := by decide +kernel
theorem dX5_response_50 : decode cX5_response 50 = .ok (.getfield 26, 3) := by decide +kernel
theorem dX5_response_53 : decode cX5_response 53 = .ok (.iload_n 3, 1) := by decide +kernel
theorem dX5_response_54 : decode cX5_response 54 = .ok (.iload_n 3, 1) := by decide +kernel
theorem dX5_response_55 : decode cX5_response 55 = .ok (.invokevirtual 157, 3) := by decide +kernel
theorem dX5_response_58 : decode cX5_response 58 = .ok (.ireturn, 1) := by decide +kernel
theorem dX5_response_59 : decode cX5_response 59 = .ok (.new 66, 3) := by decide +kernel
theorem dX5_response_62 : decode cX5_response 62 = .ok (.dup, 1) := by decide +kernel
theorem dX5_response_63 : decode cX5_response 63 = .ok (.invokespecial 68, 3) := by decide +kernel
theorem dX5_response_66 : decode cX5_response 66 = .ok (.athrow, 1) := by decide +kernel
set_option maxRecDepth 20000 in
theorem ggX5_ended_X5_isKnown : GoodIn wsX5_ended wsX5_isKnown := goodIn_r _ [8, 9, 10, 11, 12, 13, 14, 15, 16, 30, 31, 32, 33, 34, 35, 36, 37, 38, 39, 40, 41, 42, 57, 58] (by decide +kernel) (by decide +kernel)
set_option maxRecDepth 20000 in
theorem gX5_ended_X5_isKnown : GoodIn wsX5_ended (wsV RX5 69 RX5 yX5_isKnown wsX5_isKnown) := goodIn_app (goodIn_of _ (by decide +kernel)) ggX5_ended_X5_isKnown
set_option maxRecDepth 20000 in
theorem ggX5_ended_X3_keeps : GoodIn wsX5_ended wsX3_keeps := goodIn_r _ [21, 22, 43, 44, 45, 46, 47, 48, 49, 50, 51, 52, 53, 54, 55, 56] (by decide +kernel) (by decide +kernel)
set_option maxRecDepth 20000 in
theorem gX5_ended_X3_keeps : GoodIn wsX5_ended (wsV RX5 160 RX3 yX3_keeps wsX3_keeps) := goodIn_app (goodIn_of _ (by decide +kernel)) ggX5_ended_X3_keeps
set_option maxRecDepth 20000 in
theorem ggX5_ended_X5_slotOf : GoodIn wsX5_ended wsX5_slotOf := goodIn_r _ [25, 26, 27, 28, 29] (by decide +kernel) (by decide +kernel)
set_option maxRecDepth 20000 in
theorem gX5_ended_X5_slotOf : GoodIn wsX5_ended (va_wsS RX5 167 yX5_slotOf wsX5_slotOf) := goodIn_app (goodIn_of _ (by decide +kernel)) ggX5_ended_X5_slotOf
theorem dX5_ended_0 : decode cX5_ended 0 = .ok (.aload_n 0, 1) := by decide +kernel
theorem dX5_ended_1 : decode cX5_ended 1 = .ok (.iload_n 1, 1) := by decide +kernel
theorem dX5_ended_2 : decode cX5_ended 2 = .ok (.invokevirtual 69, 3) := by decide +kernel
theorem dX5_ended_5 : decode cX5_ended 5 = .ok (.ifCond .eq 16, 3) := by decide +kernel
theorem dX5_ended_8 : decode cX5_ended 8 = .ok (.aload_n 0, 1) := by decide +kernel
theorem dX5_ended_9 : decode cX5_ended 9 = .ok (.getfield 20, 3) := by decide +kernel
theorem dX5_ended_12 : decode cX5_ended 12 = .ok (.iload_n 1, 1) := by decide +kernel
theorem dX5_ended_13 : decode cX5_ended 13 = .ok (.aaload, 1) := by decide +kernel
theorem dX5_ended_14 : decode cX5_ended 14 = .ok (.iload_n 2, 1) := by decide +kernel
theorem dX5_ended_15 : decode cX5_ended 15 = .ok (.invokevirtual 160, 3) := by decide +kernel
theorem dX5_ended_18 : decode cX5_ended 18 = .ok (.ifCond .ne 11, 3) := by decide +kernel
theorem dX5_ended_21 : decode cX5_ended 21 = .ok (.new 97, 3) := by decide +kernel
theorem dX5_ended_24 : decode cX5_ended 24 = .ok (.dup, 1) := by decide +kernel
theorem dX5_ended_25 : decode cX5_ended 25 = .ok (.invokespecial 99, 3) := by decide +kernel
theorem dX5_ended_28 : decode cX5_ended 28 = .ok (.athrow, 1) := by decide +kernel
theorem dX5_ended_29 : decode cX5_ended 29 = .ok (.aload_n 0, 1) := by decide +kernel
theorem dX5_ended_30 : decode cX5_ended 30 = .ok (.getfield 20, 3) := by decide +kernel
theorem dX5_ended_33 : decode cX5_ended 33 = .ok (.iload_n 1, 1) := by decide +kernel
theorem dX5_ended_34 : decode cX5_ended 34 = .ok (.aaload, 1) := by decide +kernel
theorem dX5_ended_35 : decode cX5_ended 35 = .ok (.getfield 163, 3) := by decide +kernel
theorem dX5_ended_38 : decode cX5_ended 38 = .ok (.iload_n 2, 1) := by decide +kernel
theorem dX5_ended_39 : decode cX5_ended 39 = .ok (.invokestatic 167, 3) := by decide +kernel
theorem dX5_ended_42 : decode cX5_ended 42 = .ok (.iaload, 1) := by decide +kernel
theorem dX5_ended_43 : decode cX5_ended 43 = .ok (.ireturn, 1) := by decide +kernel
set_option maxRecDepth 20000 in
theorem ggX5_about_X5_isKnown : GoodIn wsX5_about wsX5_isKnown := goodIn_r _ [13, 7, 14, 15, 16, 17, 18, 19, 20, 46, 47, 48, 49, 50, 51, 52, 53, 54, 55, 56, 57, 58, 73, 74] (by decide +kernel) (by decide +kernel)
set_option maxRecDepth 20000 in
theorem gX5_about_X5_isKnown : GoodIn wsX5_about (wsV RX5 69 RX5 yX5_isKnown wsX5_isKnown) := goodIn_app (goodIn_of _ (by decide +kernel)) ggX5_about_X5_isKnown
set_option maxRecDepth 20000 in
theorem ggX5_about_X1_placeOf : GoodIn wsX5_about wsX1_placeOf := goodIn_r _ [18, 19, 20, 73, 74] (by decide +kernel) (by decide +kernel)
set_option maxRecDepth 20000 in
theorem gX5_about_X1_placeOf : GoodIn wsX5_about (wsV RX5 150 RX1 yX1_placeOf wsX1_placeOf) := goodIn_app (goodIn_of _ (by decide +kernel)) ggX5_about_X1_placeOf
set_option maxRecDepth 20000 in
theorem ggX5_about_X3_nextRelease : GoodIn wsX5_about wsX3_nextRelease := goodIn_r _ [25, 26, 27, 28, 29, 12, 30, 31, 32, 33, 34, 59, 60, 61, 62, 63, 64, 65, 66, 67, 68, 69, 70, 71, 72] (by decide +kernel) (by decide +kernel)
set_option maxRecDepth 20000 in
theorem gX5_about_X3_nextRelease : GoodIn wsX5_about (wsV RX5 117 RX3 yX3_nextRelease wsX3_nextRelease) := goodIn_app (goodIn_of _ (by decide +kernel)) ggX5_about_X3_nextRelease
set_option maxRecDepth 20000 in
theorem ggX5_about_X3_lateJobs : GoodIn wsX5_about wsX3_lateJobs := goodIn_r _ [38, 39, 40, 26, 29, 12, 30, 31, 32, 33, 34, 41, 42, 43, 24, 44, 27, 45, 59, 60, 61, 62, 63, 64, 65, 66, 67, 68, 69, 70, 71, 72] (by decide +kernel) (by decide +kernel)
set_option maxRecDepth 20000 in
theorem gX5_about_X3_lateJobs : GoodIn wsX5_about (wsV RX5 176 RX3 yX3_lateJobs wsX3_lateJobs) := goodIn_app (goodIn_of _ (by decide +kernel)) ggX5_about_X3_lateJobs
theorem dX5_about_0 : decode cX5_about 0 = .ok (.aload_n 0, 1) := by decide +kernel
theorem dX5_about_1 : decode cX5_about 1 = .ok (.iload_n 1, 1) := by decide +kernel
theorem dX5_about_2 : decode cX5_about 2 = .ok (.invokevirtual 69, 3) := by decide +kernel
theorem dX5_about_5 : decode cX5_about 5 = .ok (.ifCond .ne 11, 3) := by decide +kernel
theorem dX5_about_8 : decode cX5_about 8 = .ok (.new 97, 3) := by decide +kernel
theorem dX5_about_11 : decode cX5_about 11 = .ok (.dup, 1) := by decide +kernel
theorem dX5_about_12 : decode cX5_about 12 = .ok (.invokespecial 99, 3) := by decide +kernel
theorem dX5_about_15 : decode cX5_about 15 = .ok (.athrow, 1) := by decide +kernel
theorem dX5_about_16 : decode cX5_about 16 = .ok (.aload_n 0, 1) := by decide +kernel
theorem dX5_about_17 : decode cX5_about 17 = .ok (.getfield 20, 3) := by decide +kernel
theorem dX5_about_20 : decode cX5_about 20 = .ok (.iload_n 1, 1) := by decide +kernel
theorem dX5_about_21 : decode cX5_about 21 = .ok (.aaload, 1) := by decide +kernel
theorem dX5_about_22 : decode cX5_about 22 = .ok (.astore_n 3, 1) := by decide +kernel
theorem dX5_about_23 : decode cX5_about 23 = .ok (.iload_n 2, 1) := by decide +kernel
theorem dX5_about_24 : decode cX5_about 24 = .ok (.tableswitch 117 0 8 #[52, 61, 70, 75, 80, 85, 90, 95, 108], 52) := by decide +kernel
theorem dX5_about_76 : decode cX5_about 76 = .ok (.aload_n 0, 1) := by decide +kernel
theorem dX5_about_77 : decode cX5_about 77 = .ok (.getfield 30, 3) := by decide +kernel
theorem dX5_about_80 : decode cX5_about 80 = .ok (.iload_n 1, 1) := by decide +kernel
theorem dX5_about_81 : decode cX5_about 81 = .ok (.invokevirtual 150, 3) := by decide +kernel
theorem dX5_about_84 : decode cX5_about 84 = .ok (.ireturn, 1) := by decide +kernel
theorem dX5_about_85 : decode cX5_about 85 = .ok (.aload_n 0, 1) := by decide +kernel
theorem dX5_about_86 : decode cX5_about 86 = .ok (.getfield 26, 3) := by decide +kernel
theorem dX5_about_89 : decode cX5_about 89 = .ok (.iload_n 1, 1) := by decide +kernel
theorem dX5_about_90 : decode cX5_about 90 = .ok (.invokevirtual 150, 3) := by decide +kernel
theorem dX5_about_93 : decode cX5_about 93 = .ok (.ireturn, 1) := by decide +kernel
theorem dX5_about_94 : decode cX5_about 94 = .ok (.aload_n 3, 1) := by decide +kernel
theorem dX5_about_95 : decode cX5_about 95 = .ok (.getfield 120, 3) := by decide +kernel
theorem dX5_about_98 : decode cX5_about 98 = .ok (.ireturn, 1) := by decide +kernel
theorem dX5_about_99 : decode cX5_about 99 = .ok (.aload_n 3, 1) := by decide +kernel
theorem dX5_about_100 : decode cX5_about 100 = .ok (.getfield 170, 3) := by decide +kernel
theorem dX5_about_103 : decode cX5_about 103 = .ok (.ireturn, 1) := by decide +kernel
theorem dX5_about_104 : decode cX5_about 104 = .ok (.aload_n 3, 1) := by decide +kernel
theorem dX5_about_105 : decode cX5_about 105 = .ok (.getfield 130, 3) := by decide +kernel
theorem dX5_about_108 : decode cX5_about 108 = .ok (.ireturn, 1) := by decide +kernel
theorem dX5_about_109 : decode cX5_about 109 = .ok (.aload_n 3, 1) := by decide +kernel
theorem dX5_about_110 : decode cX5_about 110 = .ok (.getfield 173, 3) := by decide +kernel
theorem dX5_about_113 : decode cX5_about 113 = .ok (.ireturn, 1) := by decide +kernel
theorem dX5_about_114 : decode cX5_about 114 = .ok (.aload_n 3, 1) := by decide +kernel
theorem dX5_about_115 : decode cX5_about 115 = .ok (.invokevirtual 117, 3) := by decide +kernel
theorem dX5_about_118 : decode cX5_about 118 = .ok (.ireturn, 1) := by decide +kernel
theorem dX5_about_119 : decode cX5_about 119 = .ok (.aload_n 3, 1) := by decide +kernel
theorem dX5_about_120 : decode cX5_about 120 = .ok (.getfield 100, 3) := by decide +kernel
theorem dX5_about_123 : decode cX5_about 123 = .ok (.ifCond .eq 7, 3) := by decide +kernel
theorem dX5_about_126 : decode cX5_about 126 = .ok (.iconst 1, 1) := by decide +kernel
theorem dX5_about_127 : decode cX5_about 127 = .ok (.goto 4, 3) := by decide +kernel
theorem dX5_about_130 : decode cX5_about 130 = .ok (.iconst 0, 1) := by decide +kernel
theorem dX5_about_131 : decode cX5_about 131 = .ok (.ireturn, 1) := by decide +kernel
theorem dX5_about_132 : decode cX5_about 132 = .ok (.aload_n 3, 1) := by decide +kernel
theorem dX5_about_133 : decode cX5_about 133 = .ok (.aload_n 0, 1) := by decide +kernel
theorem dX5_about_134 : decode cX5_about 134 = .ok (.getfield 113, 3) := by decide +kernel
theorem dX5_about_137 : decode cX5_about 137 = .ok (.invokevirtual 176, 3) := by decide +kernel
theorem dX5_about_140 : decode cX5_about 140 = .ok (.ireturn, 1) := by decide +kernel
theorem dX5_about_141 : decode cX5_about 141 = .ok (.new 66, 3) := by decide +kernel
theorem dX5_about_144 : decode cX5_about 144 = .ok (.dup, 1) := by decide +kernel
theorem dX5_about_145 : decode cX5_about 145 = .ok (.invokespecial 68, 3) := by decide +kernel
theorem dX5_about_148 : decode cX5_about 148 = .ok (.athrow, 1) := by decide +kernel
set_option maxRecDepth 20000 in
theorem ggX5_witness_X2_releases : GoodIn wsX5_witness wsX2_releases := goodIn_r _ [10, 11, 12, 13, 14, 9, 15, 16, 17, 18, 19, 20, 47, 48, 49, 50] (by decide +kernel) (by decide +kernel)
set_option maxRecDepth 20000 in
theorem gX5_witness_X2_releases : GoodIn wsX5_witness (wsV RX5 179 RX2 yX2_releases wsX2_releases) := goodIn_app (goodIn_of _ (by decide +kernel)) ggX5_witness_X2_releases
set_option maxRecDepth 20000 in
theorem ggX5_witness_X2_timeOf : GoodIn wsX5_witness wsX2_timeOf := goodIn_r _ [24, 11, 12, 13, 14, 9, 15, 16, 17, 18, 19, 20, 47, 48, 49, 50] (by decide +kernel) (by decide +kernel)
set_option maxRecDepth 20000 in
theorem gX5_witness_X2_timeOf : GoodIn wsX5_witness (wsV RX5 182 RX2 yX2_timeOf wsX2_timeOf) := goodIn_app (goodIn_of _ (by decide +kernel)) ggX5_witness_X2_timeOf
set_option maxRecDepth 20000 in
theorem ggX5_witness_X2_taskOf : GoodIn wsX5_witness wsX2_taskOf := goodIn_r _ [28, 16, 17, 29, 30, 22, 23, 9, 24, 11, 12, 13, 14, 15, 18, 19, 20, 31, 32, 33, 47, 48, 49, 50] (by decide +kernel) (by decide +kernel)
set_option maxRecDepth 20000 in
theorem gX5_witness_X2_taskOf : GoodIn wsX5_witness (wsV RX5 185 RX2 yX2_taskOf wsX2_taskOf) := goodIn_app (goodIn_of _ (by decide +kernel)) ggX5_witness_X2_taskOf
theorem dX5_witness_0 : decode cX5_witness 0 = .ok (.iload_n 1, 1) := by decide +kernel
theorem dX5_witness_1 : decode cX5_witness 1 = .ok (.ifCond .lt 14, 3) := by decide +kernel
theorem dX5_witness_4 : decode cX5_witness 4 = .ok (.iload_n 1, 1) := by decide +kernel
theorem dX5_witness_5 : decode cX5_witness 5 = .ok (.aload_n 0, 1) := by decide +kernel
theorem dX5_witness_6 : decode cX5_witness 6 = .ok (.getfield 39, 3) := by decide +kernel
theorem dX5_witness_9 : decode cX5_witness 9 = .ok (.invokevirtual 179, 3) := by decide +kernel
theorem dX5_witness_12 : decode cX5_witness 12 = .ok (.if_icmp .lt 11, 3) := by decide +kernel
theorem dX5_witness_15 : decode cX5_witness 15 = .ok (.new 97, 3) := by decide +kernel
theorem dX5_witness_18 : decode cX5_witness 18 = .ok (.dup, 1) := by decide +kernel
theorem dX5_witness_19 : decode cX5_witness 19 = .ok (.invokespecial 99, 3) := by decide +kernel
theorem dX5_witness_22 : decode cX5_witness 22 = .ok (.athrow, 1) := by decide +kernel
theorem dX5_witness_23 : decode cX5_witness 23 = .ok (.iload_n 2, 1) := by decide +kernel
theorem dX5_witness_24 : decode cX5_witness 24 = .ok (.ifCond .ne 12, 3) := by decide +kernel
theorem dX5_witness_27 : decode cX5_witness 27 = .ok (.aload_n 0, 1) := by decide +kernel
theorem dX5_witness_28 : decode cX5_witness 28 = .ok (.getfield 39, 3) := by decide +kernel
theorem dX5_witness_31 : decode cX5_witness 31 = .ok (.iload_n 1, 1) := by decide +kernel
theorem dX5_witness_32 : decode cX5_witness 32 = .ok (.invokevirtual 182, 3) := by decide +kernel
theorem dX5_witness_35 : decode cX5_witness 35 = .ok (.ireturn, 1) := by decide +kernel
theorem dX5_witness_36 : decode cX5_witness 36 = .ok (.iload_n 2, 1) := by decide +kernel
theorem dX5_witness_37 : decode cX5_witness 37 = .ok (.iconst 1, 1) := by decide +kernel
theorem dX5_witness_38 : decode cX5_witness 38 = .ok (.if_icmp .ne 12, 3) := by decide +kernel
theorem dX5_witness_41 : decode cX5_witness 41 = .ok (.aload_n 0, 1) := by decide +kernel
theorem dX5_witness_42 : decode cX5_witness 42 = .ok (.getfield 39, 3) := by decide +kernel
theorem dX5_witness_45 : decode cX5_witness 45 = .ok (.iload_n 1, 1) := by decide +kernel
theorem dX5_witness_46 : decode cX5_witness 46 = .ok (.invokevirtual 185, 3) := by decide +kernel
theorem dX5_witness_49 : decode cX5_witness 49 = .ok (.ireturn, 1) := by decide +kernel
theorem dX5_witness_50 : decode cX5_witness 50 = .ok (.new 66, 3) := by decide +kernel
theorem dX5_witness_53 : decode cX5_witness 53 = .ok (.dup, 1) := by decide +kernel
theorem dX5_witness_54 : decode cX5_witness 54 = .ok (.invokespecial 68, 3) := by decide +kernel
theorem dX5_witness_57 : decode cX5_witness 57 = .ok (.athrow, 1) := by decide +kernel
set_option maxRecDepth 20000 in
theorem ggX5_trace_X0_keeps : GoodIn wsX5_trace wsX0_keeps := goodIn_r _ [8, 9, 10, 32, 33] (by decide +kernel) (by decide +kernel)
set_option maxRecDepth 20000 in
theorem gX5_trace_X0_keeps : GoodIn wsX5_trace (wsV RX5 188 RX0 yX0_keeps wsX0_keeps) := goodIn_app (goodIn_of _ (by decide +kernel)) ggX5_trace_X0_keeps
set_option maxRecDepth 20000 in
theorem ggX5_trace_X0_back : GoodIn wsX5_trace wsX0_back := goodIn_r _ [14, 9, 10, 15, 16, 17, 18, 32, 33] (by decide +kernel) (by decide +kernel)
set_option maxRecDepth 20000 in
theorem gX5_trace_X0_back : GoodIn wsX5_trace (wsV RX5 189 RX0 yX0_back wsX0_back) := goodIn_app (goodIn_of _ (by decide +kernel)) ggX5_trace_X0_back
theorem dX5_trace_0 : decode cX5_trace 0 = .ok (.aload_n 0, 1) := by decide +kernel
theorem dX5_trace_1 : decode cX5_trace 1 = .ok (.getfield 48, 3) := by decide +kernel
theorem dX5_trace_4 : decode cX5_trace 4 = .ok (.iload_n 1, 1) := by decide +kernel
theorem dX5_trace_5 : decode cX5_trace 5 = .ok (.invokevirtual 188, 3) := by decide +kernel
theorem dX5_trace_8 : decode cX5_trace 8 = .ok (.ifCond .ne 11, 3) := by decide +kernel
theorem dX5_trace_11 : decode cX5_trace 11 = .ok (.new 97, 3) := by decide +kernel
theorem dX5_trace_14 : decode cX5_trace 14 = .ok (.dup, 1) := by decide +kernel
theorem dX5_trace_15 : decode cX5_trace 15 = .ok (.invokespecial 99, 3) := by decide +kernel
theorem dX5_trace_18 : decode cX5_trace 18 = .ok (.athrow, 1) := by decide +kernel
theorem dX5_trace_19 : decode cX5_trace 19 = .ok (.aload_n 0, 1) := by decide +kernel
theorem dX5_trace_20 : decode cX5_trace 20 = .ok (.getfield 48, 3) := by decide +kernel
theorem dX5_trace_23 : decode cX5_trace 23 = .ok (.iload_n 1, 1) := by decide +kernel
theorem dX5_trace_24 : decode cX5_trace 24 = .ok (.invokevirtual 189, 3) := by decide +kernel
theorem dX5_trace_27 : decode cX5_trace 27 = .ok (.ireturn, 1) := by decide +kernel
set_option maxRecDepth 20000 in
theorem ggX5_changed_X0_keeps : GoodIn wsX5_changed wsX0_keeps := goodIn_r _ [8, 9, 10, 32, 33] (by decide +kernel) (by decide +kernel)
set_option maxRecDepth 20000 in
theorem gX5_changed_X0_keeps : GoodIn wsX5_changed (wsV RX5 188 RX0 yX0_keeps wsX0_keeps) := goodIn_app (goodIn_of _ (by decide +kernel)) ggX5_changed_X0_keeps
set_option maxRecDepth 20000 in
theorem ggX5_changed_X0_back : GoodIn wsX5_changed wsX0_back := goodIn_r _ [14, 9, 10, 15, 16, 17, 18, 32, 33] (by decide +kernel) (by decide +kernel)
set_option maxRecDepth 20000 in
theorem gX5_changed_X0_back : GoodIn wsX5_changed (wsV RX5 189 RX0 yX0_back wsX0_back) := goodIn_app (goodIn_of _ (by decide +kernel)) ggX5_changed_X0_back
theorem dX5_changed_0 : decode cX5_changed 0 = .ok (.aload_n 0, 1) := by decide +kernel
theorem dX5_changed_1 : decode cX5_changed 1 = .ok (.getfield 52, 3) := by decide +kernel
theorem dX5_changed_4 : decode cX5_changed 4 = .ok (.iload_n 1, 1) := by decide +kernel
theorem dX5_changed_5 : decode cX5_changed 5 = .ok (.invokevirtual 188, 3) := by decide +kernel
theorem dX5_changed_8 : decode cX5_changed 8 = .ok (.ifCond .ne 11, 3) := by decide +kernel
theorem dX5_changed_11 : decode cX5_changed 11 = .ok (.new 97, 3) := by decide +kernel
theorem dX5_changed_14 : decode cX5_changed 14 = .ok (.dup, 1) := by decide +kernel
theorem dX5_changed_15 : decode cX5_changed 15 = .ok (.invokespecial 99, 3) := by decide +kernel
theorem dX5_changed_18 : decode cX5_changed 18 = .ok (.athrow, 1) := by decide +kernel
theorem dX5_changed_19 : decode cX5_changed 19 = .ok (.aload_n 0, 1) := by decide +kernel
theorem dX5_changed_20 : decode cX5_changed 20 = .ok (.getfield 52, 3) := by decide +kernel
theorem dX5_changed_23 : decode cX5_changed 23 = .ok (.iload_n 1, 1) := by decide +kernel
theorem dX5_changed_24 : decode cX5_changed 24 = .ok (.invokevirtual 189, 3) := by decide +kernel
theorem dX5_changed_27 : decode cX5_changed 27 = .ok (.ireturn, 1) := by decide +kernel
set_option maxRecDepth 20000 in
theorem ggX5_count_X5_pendingJobs : GoodIn wsX5_count wsX5_pendingJobs := goodIn_r _ [15, 16, 17, 18, 19, 20, 21, 22, 23, 24, 25, 26, 27, 28, 29, 34, 35, 36, 37, 38, 39, 40, 41, 42, 43, 44, 45, 46, 47] (by decide +kernel) (by decide +kernel)
set_option maxRecDepth 20000 in
theorem gX5_count_X5_pendingJobs : GoodIn wsX5_count (wsV RX5 198 RX5 yX5_pendingJobs wsX5_pendingJobs) := goodIn_app (goodIn_of _ (by decide +kernel)) ggX5_count_X5_pendingJobs
theorem dX5_count_0 : decode cX5_count 0 = .ok (.iload_n 1, 1) := by decide +kernel
theorem dX5_count_1 : decode cX5_count 1 = .ok (.tableswitch 118 0 8 #[51, 56, 61, 74, 82, 90, 98, 103, 108], 51) := by decide +kernel
theorem dX5_count_52 : decode cX5_count 52 = .ok (.aload_n 0, 1) := by decide +kernel
theorem dX5_count_53 : decode cX5_count 53 = .ok (.getfield 113, 3) := by decide +kernel
theorem dX5_count_56 : decode cX5_count 56 = .ok (.ireturn, 1) := by decide +kernel
theorem dX5_count_57 : decode cX5_count 57 = .ok (.aload_n 0, 1) := by decide +kernel
theorem dX5_count_58 : decode cX5_count 58 = .ok (.getfield 192, 3) := by decide +kernel
theorem dX5_count_61 : decode cX5_count 61 = .ok (.ireturn, 1) := by decide +kernel
theorem dX5_count_62 : decode cX5_count 62 = .ok (.aload_n 0, 1) := by decide +kernel
theorem dX5_count_63 : decode cX5_count 63 = .ok (.getfield 123, 3) := by decide +kernel
theorem dX5_count_66 : decode cX5_count 66 = .ok (.ifCond .eq 7, 3) := by decide +kernel
theorem dX5_count_69 : decode cX5_count 69 = .ok (.iconst 1, 1) := by decide +kernel
theorem dX5_count_70 : decode cX5_count 70 = .ok (.goto 4, 3) := by decide +kernel
theorem dX5_count_73 : decode cX5_count 73 = .ok (.iconst 0, 1) := by decide +kernel
theorem dX5_count_74 : decode cX5_count 74 = .ok (.ireturn, 1) := by decide +kernel
theorem dX5_count_75 : decode cX5_count 75 = .ok (.aload_n 0, 1) := by decide +kernel
theorem dX5_count_76 : decode cX5_count 76 = .ok (.getfield 52, 3) := by decide +kernel
theorem dX5_count_79 : decode cX5_count 79 = .ok (.getfield 195, 3) := by decide +kernel
theorem dX5_count_82 : decode cX5_count 82 = .ok (.ireturn, 1) := by decide +kernel
theorem dX5_count_83 : decode cX5_count 83 = .ok (.aload_n 0, 1) := by decide +kernel
theorem dX5_count_84 : decode cX5_count 84 = .ok (.getfield 26, 3) := by decide +kernel
theorem dX5_count_87 : decode cX5_count 87 = .ok (.getfield 140, 3) := by decide +kernel
theorem dX5_count_90 : decode cX5_count 90 = .ok (.ireturn, 1) := by decide +kernel
theorem dX5_count_91 : decode cX5_count 91 = .ok (.aload_n 0, 1) := by decide +kernel
theorem dX5_count_92 : decode cX5_count 92 = .ok (.getfield 30, 3) := by decide +kernel
theorem dX5_count_95 : decode cX5_count 95 = .ok (.getfield 140, 3) := by decide +kernel
theorem dX5_count_98 : decode cX5_count 98 = .ok (.ireturn, 1) := by decide +kernel
theorem dX5_count_99 : decode cX5_count 99 = .ok (.aload_n 0, 1) := by decide +kernel
theorem dX5_count_100 : decode cX5_count 100 = .ok (.invokevirtual 198, 3) := by decide +kernel
theorem dX5_count_103 : decode cX5_count 103 = .ok (.ireturn, 1) := by decide +kernel
theorem dX5_count_104 : decode cX5_count 104 = .ok (.aload_n 0, 1) := by decide +kernel
theorem dX5_count_105 : decode cX5_count 105 = .ok (.getfield 201, 3) := by decide +kernel
theorem dX5_count_108 : decode cX5_count 108 = .ok (.ireturn, 1) := by decide +kernel
theorem dX5_count_109 : decode cX5_count 109 = .ok (.aload_n 0, 1) := by decide +kernel
theorem dX5_count_110 : decode cX5_count 110 = .ok (.getfield 113, 3) := by decide +kernel
theorem dX5_count_113 : decode cX5_count 113 = .ok (.aload_n 0, 1) := by decide +kernel
theorem dX5_count_114 : decode cX5_count 114 = .ok (.getfield 204, 3) := by decide +kernel
theorem dX5_count_117 : decode cX5_count 117 = .ok (.isub, 1) := by decide +kernel
theorem dX5_count_118 : decode cX5_count 118 = .ok (.ireturn, 1) := by decide +kernel
theorem dX5_count_119 : decode cX5_count 119 = .ok (.new 66, 3) := by decide +kernel
theorem dX5_count_122 : decode cX5_count 122 = .ok (.dup, 1) := by decide +kernel
theorem dX5_count_123 : decode cX5_count 123 = .ok (.invokespecial 68, 3) := by decide +kernel
theorem dX5_count_126 : decode cX5_count 126 = .ok (.athrow, 1) := by decide +kernel
theorem dX5_isTask_0 : decode cX5_isTask 0 = .ok (.iload_n 0, 1) := by decide +kernel
theorem dX5_isTask_1 : decode cX5_isTask 1 = .ok (.iconst 1, 1) := by decide +kernel
theorem dX5_isTask_2 : decode cX5_isTask 2 = .ok (.if_icmp .lt 13, 3) := by decide +kernel
theorem dX5_isTask_5 : decode cX5_isTask 5 = .ok (.iload_n 0, 1) := by decide +kernel
theorem dX5_isTask_6 : decode cX5_isTask 6 = .ok (.bipush 12, 2) := by decide +kernel
theorem dX5_isTask_8 : decode cX5_isTask 8 = .ok (.if_icmp .gt 7, 3) := by decide +kernel
theorem dX5_isTask_11 : decode cX5_isTask 11 = .ok (.iconst 1, 1) := by decide +kernel
theorem dX5_isTask_12 : decode cX5_isTask 12 = .ok (.goto 4, 3) := by decide +kernel
theorem dX5_isTask_15 : decode cX5_isTask 15 = .ok (.iconst 0, 1) := by decide +kernel
theorem dX5_isTask_16 : decode cX5_isTask 16 = .ok (.ireturn, 1) := by decide +kernel
theorem dX5_areTimes_0 : decode cX5_areTimes 0 = .ok (.iload_n 0, 1) := by decide +kernel
theorem dX5_areTimes_1 : decode cX5_areTimes 1 = .ok (.iconst 1, 1) := by decide +kernel
theorem dX5_areTimes_2 : decode cX5_areTimes 2 = .ok (.if_icmp .lt 24, 3) := by decide +kernel
theorem dX5_areTimes_5 : decode cX5_areTimes 5 = .ok (.iload_n 0, 1) := by decide +kernel
theorem dX5_areTimes_6 : decode cX5_areTimes 6 = .ok (.sipush 1000, 3) := by decide +kernel
theorem dX5_areTimes_9 : decode cX5_areTimes 9 = .ok (.if_icmp .gt 17, 3) := by decide +kernel
theorem dX5_areTimes_12 : decode cX5_areTimes 12 = .ok (.iload_n 1, 1) := by decide +kernel
theorem dX5_areTimes_13 : decode cX5_areTimes 13 = .ok (.iconst 1, 1) := by decide +kernel
theorem dX5_areTimes_14 : decode cX5_areTimes 14 = .ok (.if_icmp .lt 12, 3) := by decide +kernel
theorem dX5_areTimes_17 : decode cX5_areTimes 17 = .ok (.iload_n 1, 1) := by decide +kernel
theorem dX5_areTimes_18 : decode cX5_areTimes 18 = .ok (.iload_n 0, 1) := by decide +kernel
theorem dX5_areTimes_19 : decode cX5_areTimes 19 = .ok (.if_icmp .gt 7, 3) := by decide +kernel
theorem dX5_areTimes_22 : decode cX5_areTimes 22 = .ok (.iconst 1, 1) := by decide +kernel
theorem dX5_areTimes_23 : decode cX5_areTimes 23 = .ok (.goto 4, 3) := by decide +kernel
theorem dX5_areTimes_26 : decode cX5_areTimes 26 = .ok (.iconst 0, 1) := by decide +kernel
theorem dX5_areTimes_27 : decode cX5_areTimes 27 = .ok (.ireturn, 1) := by decide +kernel
theorem dX5_areBudgets_0 : decode cX5_areBudgets 0 = .ok (.iload_n 0, 1) := by decide +kernel
theorem dX5_areBudgets_1 : decode cX5_areBudgets 1 = .ok (.iconst 1, 1) := by decide +kernel
theorem dX5_areBudgets_2 : decode cX5_areBudgets 2 = .ok (.if_icmp .lt 29, 3) := by decide +kernel
theorem dX5_areBudgets_5 : decode cX5_areBudgets 5 = .ok (.iload_n 0, 1) := by decide +kernel
theorem dX5_areBudgets_6 : decode cX5_areBudgets 6 = .ok (.bipush 100, 2) := by decide +kernel
theorem dX5_areBudgets_8 : decode cX5_areBudgets 8 = .ok (.if_icmp .gt 23, 3) := by decide +kernel
theorem dX5_areBudgets_11 : decode cX5_areBudgets 11 = .ok (.iload_n 1, 1) := by decide +kernel
theorem dX5_areBudgets_12 : decode cX5_areBudgets 12 = .ok (.ifCond .eq 15, 3) := by decide +kernel
theorem dX5_areBudgets_15 : decode cX5_areBudgets 15 = .ok (.iload_n 1, 1) := by decide +kernel
theorem dX5_areBudgets_16 : decode cX5_areBudgets 16 = .ok (.iload_n 0, 1) := by decide +kernel
theorem dX5_areBudgets_17 : decode cX5_areBudgets 17 = .ok (.if_icmp .lt 14, 3) := by decide +kernel
theorem dX5_areBudgets_20 : decode cX5_areBudgets 20 = .ok (.iload_n 1, 1) := by decide +kernel
theorem dX5_areBudgets_21 : decode cX5_areBudgets 21 = .ok (.sipush 200, 3) := by decide +kernel
theorem dX5_areBudgets_24 : decode cX5_areBudgets 24 = .ok (.if_icmp .gt 7, 3) := by decide +kernel
theorem dX5_areBudgets_27 : decode cX5_areBudgets 27 = .ok (.iconst 1, 1) := by decide +kernel
theorem dX5_areBudgets_28 : decode cX5_areBudgets 28 = .ok (.goto 4, 3) := by decide +kernel
theorem dX5_areBudgets_31 : decode cX5_areBudgets 31 = .ok (.iconst 0, 1) := by decide +kernel
theorem dX5_areBudgets_32 : decode cX5_areBudgets 32 = .ok (.ireturn, 1) := by decide +kernel
set_option maxRecDepth 20000 in
theorem ggX5_slotOf_J9_floorMod_7cf53 : GoodIn wsX5_slotOf wsJ9_floorMod_7cf53 := goodIn_r _ [4] (by decide +kernel) (by decide +kernel)
set_option maxRecDepth 20000 in
theorem gX5_slotOf_J9_floorMod_7cf53 : GoodIn wsX5_slotOf (va_wsS RX5 207 yJ9_floorMod_7cf53 wsJ9_floorMod_7cf53) := goodIn_app (goodIn_of _ (by decide +kernel)) ggX5_slotOf_J9_floorMod_7cf53
theorem dX5_slotOf_0 : decode cX5_slotOf 0 = .ok (.iload_n 0, 1) := by decide +kernel
theorem dX5_slotOf_1 : decode cX5_slotOf 1 = .ok (.bipush 8, 2) := by decide +kernel
theorem dX5_slotOf_3 : decode cX5_slotOf 3 = .ok (.invokestatic 207, 3) := by decide +kernel
theorem dX5_slotOf_6 : decode cX5_slotOf 6 = .ok (.ireturn, 1) := by decide +kernel
theorem dX5_releasesWithin_0 : decode cX5_releasesWithin 0 = .ok (.iload_n 1, 1) := by decide +kernel
theorem dX5_releasesWithin_1 : decode cX5_releasesWithin 1 = .ok (.iconst 1, 1) := by decide +kernel
theorem dX5_releasesWithin_2 : decode cX5_releasesWithin 2 = .ok (.if_icmp .ge 7, 3) := by decide +kernel
theorem dX5_releasesWithin_5 : decode cX5_releasesWithin 5 = .ok (.iconst 0, 1) := by decide +kernel
theorem dX5_releasesWithin_6 : decode cX5_releasesWithin 6 = .ok (.goto 10, 3) := by decide +kernel
theorem dX5_releasesWithin_9 : decode cX5_releasesWithin 9 = .ok (.iload_n 0, 1) := by decide +kernel
theorem dX5_releasesWithin_10 : decode cX5_releasesWithin 10 = .ok (.iload_n 1, 1) := by decide +kernel
theorem dX5_releasesWithin_11 : decode cX5_releasesWithin 11 = .ok (.iadd, 1) := by decide +kernel
theorem dX5_releasesWithin_12 : decode cX5_releasesWithin 12 = .ok (.iconst 1, 1) := by decide +kernel
theorem dX5_releasesWithin_13 : decode cX5_releasesWithin 13 = .ok (.isub, 1) := by decide +kernel
theorem dX5_releasesWithin_14 : decode cX5_releasesWithin 14 = .ok (.iload_n 1, 1) := by decide +kernel
theorem dX5_releasesWithin_15 : decode cX5_releasesWithin 15 = .ok (.idiv, 1) := by decide +kernel
theorem dX5_releasesWithin_16 : decode cX5_releasesWithin 16 = .ok (.ireturn, 1) := by decide +kernel
set_option maxRecDepth 20000 in
theorem ggX5_isKnown_X1_placeOf : GoodIn wsX5_isKnown wsX1_placeOf := goodIn_r _ [6, 7, 8, 22, 23] (by decide +kernel) (by decide +kernel)
set_option maxRecDepth 20000 in
theorem gX5_isKnown_X1_placeOf : GoodIn wsX5_isKnown (wsV RX5 150 RX1 yX1_placeOf wsX1_placeOf) := goodIn_app (goodIn_of _ (by decide +kernel)) ggX5_isKnown_X1_placeOf
theorem dX5_isKnown_0 : decode cX5_isKnown 0 = .ok (.aload_n 0, 1) := by decide +kernel
theorem dX5_isKnown_1 : decode cX5_isKnown 1 = .ok (.getfield 26, 3) := by decide +kernel
theorem dX5_isKnown_4 : decode cX5_isKnown 4 = .ok (.iload_n 1, 1) := by decide +kernel
theorem dX5_isKnown_5 : decode cX5_isKnown 5 = .ok (.invokevirtual 150, 3) := by decide +kernel
theorem dX5_isKnown_8 : decode cX5_isKnown 8 = .ok (.iconst (-1), 1) := by decide +kernel
theorem dX5_isKnown_9 : decode cX5_isKnown 9 = .ok (.if_icmp .eq 7, 3) := by decide +kernel
theorem dX5_isKnown_12 : decode cX5_isKnown 12 = .ok (.iconst 1, 1) := by decide +kernel
theorem dX5_isKnown_13 : decode cX5_isKnown 13 = .ok (.goto 4, 3) := by decide +kernel
theorem dX5_isKnown_16 : decode cX5_isKnown 16 = .ok (.iconst 0, 1) := by decide +kernel
theorem dX5_isKnown_17 : decode cX5_isKnown 17 = .ok (.ireturn, 1) := by decide +kernel
set_option maxRecDepth 20000 in
theorem ggX5_isInForce_X1_placeOf : GoodIn wsX5_isInForce wsX1_placeOf := goodIn_r _ [6, 7, 8, 22, 23] (by decide +kernel) (by decide +kernel)
set_option maxRecDepth 20000 in
theorem gX5_isInForce_X1_placeOf : GoodIn wsX5_isInForce (wsV RX5 150 RX1 yX1_placeOf wsX1_placeOf) := goodIn_app (goodIn_of _ (by decide +kernel)) ggX5_isInForce_X1_placeOf
theorem dX5_isInForce_0 : decode cX5_isInForce 0 = .ok (.aload_n 0, 1) := by decide +kernel
theorem dX5_isInForce_1 : decode cX5_isInForce 1 = .ok (.getfield 30, 3) := by decide +kernel
theorem dX5_isInForce_4 : decode cX5_isInForce 4 = .ok (.iload_n 1, 1) := by decide +kernel
theorem dX5_isInForce_5 : decode cX5_isInForce 5 = .ok (.invokevirtual 150, 3) := by decide +kernel
theorem dX5_isInForce_8 : decode cX5_isInForce 8 = .ok (.iconst (-1), 1) := by decide +kernel
theorem dX5_isInForce_9 : decode cX5_isInForce 9 = .ok (.if_icmp .eq 7, 3) := by decide +kernel
theorem dX5_isInForce_12 : decode cX5_isInForce 12 = .ok (.iconst 1, 1) := by decide +kernel
theorem dX5_isInForce_13 : decode cX5_isInForce 13 = .ok (.goto 4, 3) := by decide +kernel
theorem dX5_isInForce_16 : decode cX5_isInForce 16 = .ok (.iconst 0, 1) := by decide +kernel
theorem dX5_isInForce_17 : decode cX5_isInForce 17 = .ok (.ireturn, 1) := by decide +kernel
theorem dX5_placeFor_0 : decode cX5_placeFor 0 = .ok (.aload_n 0, 1) := by decide +kernel
theorem dX5_placeFor_1 : decode cX5_placeFor 1 = .ok (.getfield 26, 3) := by decide +kernel
theorem dX5_placeFor_4 : decode cX5_placeFor 4 = .ok (.getfield 140, 3) := by decide +kernel
theorem dX5_placeFor_7 : decode cX5_placeFor 7 = .ok (.iconst 1, 1) := by decide +kernel
theorem dX5_placeFor_8 : decode cX5_placeFor 8 = .ok (.isub, 1) := by decide +kernel
theorem dX5_placeFor_9 : decode cX5_placeFor 9 = .ok (.istore_n 2, 1) := by decide +kernel
theorem dX5_placeFor_10 : decode cX5_placeFor 10 = .ok (.iload_n 2, 1) := by decide +kernel
theorem dX5_placeFor_11 : decode cX5_placeFor 11 = .ok (.ifCond .lt 34, 3) := by decide +kernel
theorem dX5_placeFor_14 : decode cX5_placeFor 14 = .ok (.aload_n 0, 1) := by decide +kernel
theorem dX5_placeFor_15 : decode cX5_placeFor 15 = .ok (.getfield 20, 3) := by decide +kernel
theorem dX5_placeFor_18 : decode cX5_placeFor 18 = .ok (.aload_n 0, 1) := by decide +kernel
theorem dX5_placeFor_19 : decode cX5_placeFor 19 = .ok (.getfield 26, 3) := by decide +kernel
theorem dX5_placeFor_22 : decode cX5_placeFor 22 = .ok (.getfield 212, 3) := by decide +kernel
theorem dX5_placeFor_25 : decode cX5_placeFor 25 = .ok (.iload_n 2, 1) := by decide +kernel
theorem dX5_placeFor_26 : decode cX5_placeFor 26 = .ok (.iaload, 1) := by decide +kernel
theorem dX5_placeFor_27 : decode cX5_placeFor 27 = .ok (.aaload, 1) := by decide +kernel
theorem dX5_placeFor_28 : decode cX5_placeFor 28 = .ok (.getfield 215, 3) := by decide +kernel
theorem dX5_placeFor_31 : decode cX5_placeFor 31 = .ok (.iload_n 1, 1) := by decide +kernel
theorem dX5_placeFor_32 : decode cX5_placeFor 32 = .ok (.if_icmp .gt 7, 3) := by decide +kernel
theorem dX5_placeFor_35 : decode cX5_placeFor 35 = .ok (.iload_n 2, 1) := by decide +kernel
theorem dX5_placeFor_36 : decode cX5_placeFor 36 = .ok (.iconst 1, 1) := by decide +kernel
theorem dX5_placeFor_37 : decode cX5_placeFor 37 = .ok (.iadd, 1) := by decide +kernel
theorem dX5_placeFor_38 : decode cX5_placeFor 38 = .ok (.ireturn, 1) := by decide +kernel
theorem dX5_placeFor_39 : decode cX5_placeFor 39 = .ok (.iinc 2 (-1), 3) := by decide +kernel
theorem dX5_placeFor_42 : decode cX5_placeFor 42 = .ok (.goto (-32), 3) := by decide +kernel
theorem dX5_placeFor_45 : decode cX5_placeFor 45 = .ok (.iconst 0, 1) := by decide +kernel
theorem dX5_placeFor_46 : decode cX5_placeFor 46 = .ok (.ireturn, 1) := by decide +kernel
set_option maxRecDepth 20000 in
theorem ggX5_admitTrial_X4_firstLowResponseThatFails : GoodIn wsX5_admitTrial wsX4_firstLowResponseThatFails := goodIn_r _ [10, 11, 12, 13, 14, 9, 15, 16, 17, 18, 19, 20, 21, 22, 23, 24, 25, 26, 27, 28, 29, 30, 31, 32, 33, 79, 80, 81, 82, 83, 84, 85, 86, 87, 88, 89, 90, 91, 92, 93, 94, 95] (by decide +kernel) (by decide +kernel)
set_option maxRecDepth 20000 in
theorem gX5_admitTrial_X4_firstLowResponseThatFails : GoodIn wsX5_admitTrial (wsV RX5 218 RX4 yX4_firstLowResponseThatFails wsX4_firstLowResponseThatFails) := goodIn_app (goodIn_of _ (by decide +kernel)) ggX5_admitTrial_X4_firstLowResponseThatFails
set_option maxRecDepth 20000 in
theorem ggX5_admitTrial_X2_keep : GoodIn wsX5_admitTrial wsX2_keep := goodIn_r _ [38, 39, 40, 41, 42, 96, 97, 98, 99, 79, 80, 82, 83, 84, 85, 86, 87, 88, 89, 90, 91, 92, 93, 94, 95] (by decide +kernel) (by decide +kernel)
set_option maxRecDepth 20000 in
theorem gX5_admitTrial_X2_keep : GoodIn wsX5_admitTrial (wsV RX5 222 RX2 yX2_keep wsX2_keep) := goodIn_app (goodIn_of _ (by decide +kernel)) ggX5_admitTrial_X2_keep
set_option maxRecDepth 20000 in
theorem ggX5_admitTrial_X4_firstBoundThatFails : GoodIn wsX5_admitTrial wsX4_firstBoundThatFails := goodIn_r _ [46, 11, 47, 48, 49, 9, 50, 51, 52, 53, 30, 54, 32, 16, 17, 18, 19, 20, 21, 22, 23, 24, 25, 26, 27, 28, 29, 31, 33, 79, 80, 81, 82, 83, 84, 85, 86, 87, 88, 89, 90, 91, 92, 93, 94, 95] (by decide +kernel) (by decide +kernel)
set_option maxRecDepth 20000 in
theorem gX5_admitTrial_X4_firstBoundThatFails : GoodIn wsX5_admitTrial (wsV RX5 226 RX4 yX4_firstBoundThatFails wsX4_firstBoundThatFails) := goodIn_app (goodIn_of _ (by decide +kernel)) ggX5_admitTrial_X4_firstBoundThatFails
set_option maxRecDepth 20000 in
theorem ggX5_admitTrial_X1_become : GoodIn wsX5_admitTrial wsX1_become := goodIn_r _ [59, 60, 61, 62, 63, 64, 65, 79, 80] (by decide +kernel) (by decide +kernel)
set_option maxRecDepth 20000 in
theorem gX5_admitTrial_X1_become : GoodIn wsX5_admitTrial (wsV RX5 81 RX1 yX1_become wsX1_become) := goodIn_app (goodIn_of _ (by decide +kernel)) ggX5_admitTrial_X1_become
theorem dX5_admitTrial_0 : decode cX5_admitTrial 0 = .ok (.aload_n 0, 1) := by decide +kernel
theorem dX5_admitTrial_1 : decode cX5_admitTrial 1 = .ok (.getfield 12, 3) := by decide +kernel
theorem dX5_admitTrial_4 : decode cX5_admitTrial 4 = .ok (.aload_n 0, 1) := by decide +kernel
theorem dX5_admitTrial_5 : decode cX5_admitTrial 5 = .ok (.getfield 33, 3) := by decide +kernel
theorem dX5_admitTrial_8 : decode cX5_admitTrial 8 = .ok (.invokevirtual 218, 3) := by decide +kernel
theorem dX5_admitTrial_11 : decode cX5_admitTrial 11 = .ok (.istore_n 1, 1) := by decide +kernel
theorem dX5_admitTrial_12 : decode cX5_admitTrial 12 = .ok (.iload_n 1, 1) := by decide +kernel
theorem dX5_admitTrial_13 : decode cX5_admitTrial 13 = .ok (.iconst (-1), 1) := by decide +kernel
theorem dX5_admitTrial_14 : decode cX5_admitTrial 14 = .ok (.if_icmp .eq 29, 3) := by decide +kernel
theorem dX5_admitTrial_17 : decode cX5_admitTrial 17 = .ok (.aload_n 0, 1) := by decide +kernel
theorem dX5_admitTrial_18 : decode cX5_admitTrial 18 = .ok (.getfield 39, 3) := by decide +kernel
theorem dX5_admitTrial_21 : decode cX5_admitTrial 21 = .ok (.aload_n 0, 1) := by decide +kernel
theorem dX5_admitTrial_22 : decode cX5_admitTrial 22 = .ok (.getfield 33, 3) := by decide +kernel
theorem dX5_admitTrial_25 : decode cX5_admitTrial 25 = .ok (.iload_n 1, 1) := by decide +kernel
theorem dX5_admitTrial_26 : decode cX5_admitTrial 26 = .ok (.aload_n 0, 1) := by decide +kernel
theorem dX5_admitTrial_27 : decode cX5_admitTrial 27 = .ok (.getfield 20, 3) := by decide +kernel
theorem dX5_admitTrial_30 : decode cX5_admitTrial 30 = .ok (.invokevirtual 222, 3) := by decide +kernel
theorem dX5_admitTrial_33 : decode cX5_admitTrial 33 = .ok (.aload_n 0, 1) := by decide +kernel
theorem dX5_admitTrial_34 : decode cX5_admitTrial 34 = .ok (.getfield 33, 3) := by decide +kernel
theorem dX5_admitTrial_37 : decode cX5_admitTrial 37 = .ok (.getfield 212, 3) := by decide +kernel
theorem dX5_admitTrial_40 : decode cX5_admitTrial 40 = .ok (.iload_n 1, 1) := by decide +kernel
theorem dX5_admitTrial_41 : decode cX5_admitTrial 41 = .ok (.iaload, 1) := by decide +kernel
theorem dX5_admitTrial_42 : decode cX5_admitTrial 42 = .ok (.ireturn, 1) := by decide +kernel
theorem dX5_admitTrial_43 : decode cX5_admitTrial 43 = .ok (.aload_n 0, 1) := by decide +kernel
theorem dX5_admitTrial_44 : decode cX5_admitTrial 44 = .ok (.getfield 12, 3) := by decide +kernel
theorem dX5_admitTrial_47 : decode cX5_admitTrial 47 = .ok (.aload_n 0, 1) := by decide +kernel
theorem dX5_admitTrial_48 : decode cX5_admitTrial 48 = .ok (.getfield 33, 3) := by decide +kernel
theorem dX5_admitTrial_51 : decode cX5_admitTrial 51 = .ok (.invokevirtual 226, 3) := by decide +kernel
theorem dX5_admitTrial_54 : decode cX5_admitTrial 54 = .ok (.istore_n 2, 1) := by decide +kernel
theorem dX5_admitTrial_55 : decode cX5_admitTrial 55 = .ok (.iload_n 2, 1) := by decide +kernel
theorem dX5_admitTrial_56 : decode cX5_admitTrial 56 = .ok (.iconst (-1), 1) := by decide +kernel
theorem dX5_admitTrial_57 : decode cX5_admitTrial 57 = .ok (.if_icmp .eq 14, 3) := by decide +kernel
theorem dX5_admitTrial_60 : decode cX5_admitTrial 60 = .ok (.aload_n 0, 1) := by decide +kernel
theorem dX5_admitTrial_61 : decode cX5_admitTrial 61 = .ok (.getfield 33, 3) := by decide +kernel
theorem dX5_admitTrial_64 : decode cX5_admitTrial 64 = .ok (.getfield 212, 3) := by decide +kernel
theorem dX5_admitTrial_67 : decode cX5_admitTrial 67 = .ok (.iload_n 2, 1) := by decide +kernel
theorem dX5_admitTrial_68 : decode cX5_admitTrial 68 = .ok (.iaload, 1) := by decide +kernel
theorem dX5_admitTrial_69 : decode cX5_admitTrial 69 = .ok (.ineg, 1) := by decide +kernel
theorem dX5_admitTrial_70 : decode cX5_admitTrial 70 = .ok (.ireturn, 1) := by decide +kernel
theorem dX5_admitTrial_71 : decode cX5_admitTrial 71 = .ok (.aload_n 0, 1) := by decide +kernel
theorem dX5_admitTrial_72 : decode cX5_admitTrial 72 = .ok (.getfield 26, 3) := by decide +kernel
theorem dX5_admitTrial_75 : decode cX5_admitTrial 75 = .ok (.aload_n 0, 1) := by decide +kernel
theorem dX5_admitTrial_76 : decode cX5_admitTrial 76 = .ok (.getfield 33, 3) := by decide +kernel
theorem dX5_admitTrial_79 : decode cX5_admitTrial 79 = .ok (.invokevirtual 81, 3) := by decide +kernel
theorem dX5_admitTrial_82 : decode cX5_admitTrial 82 = .ok (.iconst 0, 1) := by decide +kernel
theorem dX5_admitTrial_83 : decode cX5_admitTrial 83 = .ok (.ireturn, 1) := by decide +kernel
theorem dX5_pendingJobs_0 : decode cX5_pendingJobs 0 = .ok (.iconst 0, 1) := by decide +kernel
theorem dX5_pendingJobs_1 : decode cX5_pendingJobs 1 = .ok (.istore_n 1, 1) := by decide +kernel
theorem dX5_pendingJobs_2 : decode cX5_pendingJobs 2 = .ok (.iconst 1, 1) := by decide +kernel
theorem dX5_pendingJobs_3 : decode cX5_pendingJobs 3 = .ok (.istore_n 2, 1) := by decide +kernel
theorem dX5_pendingJobs_4 : decode cX5_pendingJobs 4 = .ok (.iload_n 2, 1) := by decide +kernel
theorem dX5_pendingJobs_5 : decode cX5_pendingJobs 5 = .ok (.bipush 12, 2) := by decide +kernel
theorem dX5_pendingJobs_7 : decode cX5_pendingJobs 7 = .ok (.if_icmp .gt 21, 3) := by decide +kernel
theorem dX5_pendingJobs_10 : decode cX5_pendingJobs 10 = .ok (.iload_n 1, 1) := by decide +kernel
theorem dX5_pendingJobs_11 : decode cX5_pendingJobs 11 = .ok (.aload_n 0, 1) := by decide +kernel
theorem dX5_pendingJobs_12 : decode cX5_pendingJobs 12 = .ok (.getfield 20, 3) := by decide +kernel
theorem dX5_pendingJobs_15 : decode cX5_pendingJobs 15 = .ok (.iload_n 2, 1) := by decide +kernel
theorem dX5_pendingJobs_16 : decode cX5_pendingJobs 16 = .ok (.aaload, 1) := by decide +kernel
theorem dX5_pendingJobs_17 : decode cX5_pendingJobs 17 = .ok (.getfield 120, 3) := by decide +kernel
theorem dX5_pendingJobs_20 : decode cX5_pendingJobs 20 = .ok (.iadd, 1) := by decide +kernel
theorem dX5_pendingJobs_21 : decode cX5_pendingJobs 21 = .ok (.istore_n 1, 1) := by decide +kernel
theorem dX5_pendingJobs_22 : decode cX5_pendingJobs 22 = .ok (.iinc 2 1, 3) := by decide +kernel
theorem dX5_pendingJobs_25 : decode cX5_pendingJobs 25 = .ok (.goto (-21), 3) := by decide +kernel
theorem dX5_pendingJobs_28 : decode cX5_pendingJobs 28 = .ok (.iload_n 1, 1) := by decide +kernel
theorem dX5_pendingJobs_29 : decode cX5_pendingJobs 29 = .ok (.ireturn, 1) := by decide +kernel
set_option maxRecDepth 20000 in
theorem ggX5_advance_X5_firstToRun : GoodIn wsX5_advance wsX5_firstToRun := goodIn_r _ [7, 8, 9, 96, 97, 98, 99, 100, 101, 102, 103, 104, 105, 106, 107, 108, 109, 110, 111, 112, 113, 114, 115, 116, 117, 118, 119, 120, 121, 122, 123, 124] (by decide +kernel) (by decide +kernel)
set_option maxRecDepth 20000 in
theorem gX5_advance_X5_firstToRun : GoodIn wsX5_advance (wsV RX5 229 RX5 yX5_firstToRun wsX5_firstToRun) := goodIn_app (goodIn_of _ (by decide +kernel)) ggX5_advance_X5_firstToRun
set_option maxRecDepth 20000 in
theorem ggX5_advance_X0_put : GoodIn wsX5_advance wsX0_put := goodIn_r _ [14, 15, 16, 17, 18, 19, 20, 125, 126] (by decide +kernel) (by decide +kernel)
set_option maxRecDepth 20000 in
theorem gX5_advance_X0_put : GoodIn wsX5_advance (wsV RX5 232 RX0 yX0_put wsX0_put) := goodIn_app (goodIn_of _ (by decide +kernel)) ggX5_advance_X0_put
set_option maxRecDepth 20000 in
theorem ggX5_advance_X5_settle : GoodIn wsX5_advance wsX5_settle := goodIn_r _ [24, 25, 1, 26, 27, 8, 28, 29, 30, 31, 32, 33, 34, 35, 36, 37, 38, 39, 96, 97, 98, 99, 100, 101, 102, 103, 104, 105, 106, 107, 108, 109, 110] (by decide +kernel) (by decide +kernel)
set_option maxRecDepth 20000 in
theorem gX5_advance_X5_settle : GoodIn wsX5_advance (wsV RX5 235 RX5 yX5_settle wsX5_settle) := goodIn_app (goodIn_of _ (by decide +kernel)) ggX5_advance_X5_settle
set_option maxRecDepth 20000 in
theorem ggX5_advance_X5_charge : GoodIn wsX5_advance wsX5_charge := goodIn_r _ [43, 9, 1, 27, 44, 45, 46, 47, 48, 49, 50, 51, 52, 53, 54, 55, 56, 6, 57, 58, 18, 19, 20, 59, 60, 61, 62, 63, 64, 65, 66, 67, 68, 69, 70, 71, 72, 73, 74, 75, 10, 11, 12, 13, 14, 15, 16, 17, 76, 77, 78, 79, 80, 81, 82, 83, 28, 8, 84, 85, 86, 32, 87, 39, 88, 89, 90, 91, 34, 92, 93, 94, 95, 96, 97, 98, 99, 100, 101, 102, 103, 104, 105, 106, 107, 108, 111, 112, 113, 114, 115, 116, 117, 118, 119, 120, 121, 122, 123, 124, 125, 126, 109, 110] (by decide +kernel) (by decide +kernel)
set_option maxRecDepth 20000 in
theorem gX5_advance_X5_charge : GoodIn wsX5_advance (wsV RX5 238 RX5 yX5_charge wsX5_charge) := goodIn_app (goodIn_of _ (by decide +kernel)) ggX5_advance_X5_charge
theorem dX5_advance_0 : decode cX5_advance 0 = .ok (.aload_n 0, 1) := by decide +kernel
theorem dX5_advance_1 : decode cX5_advance 1 = .ok (.invokevirtual 229, 3) := by decide +kernel
theorem dX5_advance_4 : decode cX5_advance 4 = .ok (.istore_n 1, 1) := by decide +kernel
theorem dX5_advance_5 : decode cX5_advance 5 = .ok (.aload_n 0, 1) := by decide +kernel
theorem dX5_advance_6 : decode cX5_advance 6 = .ok (.dup, 1) := by decide +kernel
theorem dX5_advance_7 : decode cX5_advance 7 = .ok (.getfield 113, 3) := by decide +kernel
theorem dX5_advance_10 : decode cX5_advance 10 = .ok (.iconst 1, 1) := by decide +kernel
theorem dX5_advance_11 : decode cX5_advance 11 = .ok (.iadd, 1) := by decide +kernel
theorem dX5_advance_12 : decode cX5_advance 12 = .ok (.putfield 113, 3) := by decide +kernel
theorem dX5_advance_15 : decode cX5_advance 15 = .ok (.aload_n 0, 1) := by decide +kernel
theorem dX5_advance_16 : decode cX5_advance 16 = .ok (.getfield 48, 3) := by decide +kernel
theorem dX5_advance_19 : decode cX5_advance 19 = .ok (.iload_n 1, 1) := by decide +kernel
theorem dX5_advance_20 : decode cX5_advance 20 = .ok (.invokevirtual 232, 3) := by decide +kernel
theorem dX5_advance_23 : decode cX5_advance 23 = .ok (.iload_n 1, 1) := by decide +kernel
theorem dX5_advance_24 : decode cX5_advance 24 = .ok (.ifCond .ne 10, 3) := by decide +kernel
theorem dX5_advance_27 : decode cX5_advance 27 = .ok (.aload_n 0, 1) := by decide +kernel
theorem dX5_advance_28 : decode cX5_advance 28 = .ok (.invokevirtual 235, 3) := by decide +kernel
theorem dX5_advance_31 : decode cX5_advance 31 = .ok (.goto 8, 3) := by decide +kernel
theorem dX5_advance_34 : decode cX5_advance 34 = .ok (.aload_n 0, 1) := by decide +kernel
theorem dX5_advance_35 : decode cX5_advance 35 = .ok (.iload_n 1, 1) := by decide +kernel
theorem dX5_advance_36 : decode cX5_advance 36 = .ok (.invokevirtual 238, 3) := by decide +kernel
theorem dX5_advance_39 : decode cX5_advance 39 = .ok (.iload_n 1, 1) := by decide +kernel
theorem dX5_advance_40 : decode cX5_advance 40 = .ok (.ireturn, 1) := by decide +kernel
theorem dX5_firstToRun_0 : decode cX5_firstToRun 0 = .ok (.iconst 0, 1) := by decide +kernel
theorem dX5_firstToRun_1 : decode cX5_firstToRun 1 = .ok (.istore_n 1, 1) := by decide +kernel
theorem dX5_firstToRun_2 : decode cX5_firstToRun 2 = .ok (.iload_n 1, 1) := by decide +kernel
theorem dX5_firstToRun_3 : decode cX5_firstToRun 3 = .ok (.aload_n 0, 1) := by decide +kernel
theorem dX5_firstToRun_4 : decode cX5_firstToRun 4 = .ok (.getfield 30, 3) := by decide +kernel
theorem dX5_firstToRun_7 : decode cX5_firstToRun 7 = .ok (.getfield 140, 3) := by decide +kernel
theorem dX5_firstToRun_10 : decode cX5_firstToRun 10 = .ok (.if_icmp .ge 39, 3) := by decide +kernel
theorem dX5_firstToRun_13 : decode cX5_firstToRun 13 = .ok (.aload_n 0, 1) := by decide +kernel
theorem dX5_firstToRun_14 : decode cX5_firstToRun 14 = .ok (.getfield 20, 3) := by decide +kernel
theorem dX5_firstToRun_17 : decode cX5_firstToRun 17 = .ok (.aload_n 0, 1) := by decide +kernel
theorem dX5_firstToRun_18 : decode cX5_firstToRun 18 = .ok (.getfield 30, 3) := by decide +kernel
theorem dX5_firstToRun_21 : decode cX5_firstToRun 21 = .ok (.getfield 212, 3) := by decide +kernel
theorem dX5_firstToRun_24 : decode cX5_firstToRun 24 = .ok (.iload_n 1, 1) := by decide +kernel
theorem dX5_firstToRun_25 : decode cX5_firstToRun 25 = .ok (.iaload, 1) := by decide +kernel
theorem dX5_firstToRun_26 : decode cX5_firstToRun 26 = .ok (.aaload, 1) := by decide +kernel
theorem dX5_firstToRun_27 : decode cX5_firstToRun 27 = .ok (.getfield 120, 3) := by decide +kernel
theorem dX5_firstToRun_30 : decode cX5_firstToRun 30 = .ok (.ifCond .le 13, 3) := by decide +kernel
theorem dX5_firstToRun_33 : decode cX5_firstToRun 33 = .ok (.aload_n 0, 1) := by decide +kernel
theorem dX5_firstToRun_34 : decode cX5_firstToRun 34 = .ok (.getfield 30, 3) := by decide +kernel
theorem dX5_firstToRun_37 : decode cX5_firstToRun 37 = .ok (.getfield 212, 3) := by decide +kernel
theorem dX5_firstToRun_40 : decode cX5_firstToRun 40 = .ok (.iload_n 1, 1) := by decide +kernel
theorem dX5_firstToRun_41 : decode cX5_firstToRun 41 = .ok (.iaload, 1) := by decide +kernel
theorem dX5_firstToRun_42 : decode cX5_firstToRun 42 = .ok (.ireturn, 1) := by decide +kernel
theorem dX5_firstToRun_43 : decode cX5_firstToRun 43 = .ok (.iinc 1 1, 3) := by decide +kernel
theorem dX5_firstToRun_46 : decode cX5_firstToRun 46 = .ok (.goto (-44), 3) := by decide +kernel
theorem dX5_firstToRun_49 : decode cX5_firstToRun 49 = .ok (.iconst 0, 1) := by decide +kernel
theorem dX5_firstToRun_50 : decode cX5_firstToRun 50 = .ok (.ireturn, 1) := by decide +kernel
set_option maxRecDepth 20000 in
theorem ggX5_settle_X1_become : GoodIn wsX5_settle wsX1_become := goodIn_r _ [11, 12, 13, 14, 15, 16, 17, 31, 32] (by decide +kernel) (by decide +kernel)
set_option maxRecDepth 20000 in
theorem gX5_settle_X1_become : GoodIn wsX5_settle (wsV RX5 81 RX1 yX1_become wsX1_become) := goodIn_app (goodIn_of _ (by decide +kernel)) ggX5_settle_X1_become
theorem dX5_settle_0 : decode cX5_settle 0 = .ok (.aload_n 0, 1) := by decide +kernel
theorem dX5_settle_1 : decode cX5_settle 1 = .ok (.dup, 1) := by decide +kernel
theorem dX5_settle_2 : decode cX5_settle 2 = .ok (.getfield 192, 3) := by decide +kernel
theorem dX5_settle_5 : decode cX5_settle 5 = .ok (.iconst 1, 1) := by decide +kernel
theorem dX5_settle_6 : decode cX5_settle 6 = .ok (.iadd, 1) := by decide +kernel
theorem dX5_settle_7 : decode cX5_settle 7 = .ok (.putfield 192, 3) := by decide +kernel
theorem dX5_settle_10 : decode cX5_settle 10 = .ok (.aload_n 0, 1) := by decide +kernel
theorem dX5_settle_11 : decode cX5_settle 11 = .ok (.aload_n 0, 1) := by decide +kernel
theorem dX5_settle_12 : decode cX5_settle 12 = .ok (.getfield 113, 3) := by decide +kernel
theorem dX5_settle_15 : decode cX5_settle 15 = .ok (.putfield 204, 3) := by decide +kernel
theorem dX5_settle_18 : decode cX5_settle 18 = .ok (.aload_n 0, 1) := by decide +kernel
theorem dX5_settle_19 : decode cX5_settle 19 = .ok (.iconst 0, 1) := by decide +kernel
theorem dX5_settle_20 : decode cX5_settle 20 = .ok (.putfield 123, 3) := by decide +kernel
theorem dX5_settle_23 : decode cX5_settle 23 = .ok (.aload_n 0, 1) := by decide +kernel
theorem dX5_settle_24 : decode cX5_settle 24 = .ok (.getfield 30, 3) := by decide +kernel
theorem dX5_settle_27 : decode cX5_settle 27 = .ok (.aload_n 0, 1) := by decide +kernel
theorem dX5_settle_28 : decode cX5_settle 28 = .ok (.getfield 26, 3) := by decide +kernel
theorem dX5_settle_31 : decode cX5_settle 31 = .ok (.invokevirtual 81, 3) := by decide +kernel
theorem dX5_settle_34 : decode cX5_settle 34 = .ok (.return_, 1) := by decide +kernel
set_option maxRecDepth 20000 in
theorem ggX5_charge_X3_chargeFirst : GoodIn wsX5_charge wsX3_chargeFirst := goodIn_r _ [8, 9, 10, 11, 12, 13, 14, 15, 16, 17, 18, 19, 20, 21, 22, 23, 24, 25, 7, 26, 27, 28, 86, 87, 88, 89, 90, 91, 92, 93, 94, 95, 96, 97, 98, 99] (by decide +kernel) (by decide +kernel)
set_option maxRecDepth 20000 in
theorem gX5_charge_X3_chargeFirst : GoodIn wsX5_charge (wsV RX5 241 RX3 yX3_chargeFirst wsX3_chargeFirst) := goodIn_app (goodIn_of _ (by decide +kernel)) ggX5_charge_X3_chargeFirst
set_option maxRecDepth 20000 in
theorem ggX5_charge_X3_isHigh : GoodIn wsX5_charge wsX3_isHigh := goodIn_r _ [32, 33, 86, 87, 88, 89, 90, 91, 92, 93, 94, 95, 96, 97, 98, 99] (by decide +kernel) (by decide +kernel)
set_option maxRecDepth 20000 in
theorem gX5_charge_X3_isHigh : GoodIn wsX5_charge (wsV RX5 126 RX3 yX3_isHigh wsX3_isHigh) := goodIn_app (goodIn_of _ (by decide +kernel)) ggX5_charge_X3_isHigh
set_option maxRecDepth 20000 in
theorem ggX5_charge_X5_becomeHigh : GoodIn wsX5_charge wsX5_becomeHigh := goodIn_r _ [37, 3, 38, 2, 1, 39, 40, 41, 42, 43, 44, 45, 46, 47, 20, 21, 22, 29, 30, 31, 7, 32, 33, 48, 49, 50, 51, 10, 14, 9, 12, 16, 17, 18, 19, 52, 53, 54, 55, 56, 57, 58, 59, 60, 61, 62, 63, 64, 65, 66, 67, 68, 69, 70, 71, 72, 73, 74, 75, 76, 77, 78, 79, 80, 81, 82, 83, 84, 85, 100, 101, 86, 87, 88, 89, 90, 91, 92, 93, 94, 95, 96, 97, 98, 99, 102, 103] (by decide +kernel) (by decide +kernel)
set_option maxRecDepth 20000 in
theorem gX5_charge_X5_becomeHigh : GoodIn wsX5_charge (wsV RX5 250 RX5 yX5_becomeHigh wsX5_becomeHigh) := goodIn_app (goodIn_of _ (by decide +kernel)) ggX5_charge_X5_becomeHigh
set_option maxRecDepth 20000 in
theorem ggX5_charge_X5_forgetIfLeft : GoodIn wsX5_charge wsX5_forgetIfLeft := goodIn_r _ [55, 1, 56, 57, 58, 59, 60, 61, 62, 63, 64, 65, 66, 67, 68, 69, 70, 71, 72, 73, 74, 75, 76, 77, 78, 79, 80, 81, 82, 83, 84, 85, 86, 87, 88, 89, 90, 91, 92, 93, 94, 95, 96, 97, 98, 99, 102, 103] (by decide +kernel) (by decide +kernel)
set_option maxRecDepth 20000 in
theorem gX5_charge_X5_forgetIfLeft : GoodIn wsX5_charge (wsV RX5 104 RX5 yX5_forgetIfLeft wsX5_forgetIfLeft) := goodIn_app (goodIn_of _ (by decide +kernel)) ggX5_charge_X5_forgetIfLeft
theorem dX5_charge_0 : decode cX5_charge 0 = .ok (.aload_n 0, 1) := by decide +kernel
theorem dX5_charge_1 : decode cX5_charge 1 = .ok (.getfield 20, 3) := by decide +kernel
theorem dX5_charge_4 : decode cX5_charge 4 = .ok (.iload_n 1, 1) := by decide +kernel
theorem dX5_charge_5 : decode cX5_charge 5 = .ok (.aaload, 1) := by decide +kernel
theorem dX5_charge_6 : decode cX5_charge 6 = .ok (.astore_n 2, 1) := by decide +kernel
theorem dX5_charge_7 : decode cX5_charge 7 = .ok (.aload_n 2, 1) := by decide +kernel
theorem dX5_charge_8 : decode cX5_charge 8 = .ok (.aload_n 0, 1) := by decide +kernel
theorem dX5_charge_9 : decode cX5_charge 9 = .ok (.getfield 113, 3) := by decide +kernel
theorem dX5_charge_12 : decode cX5_charge 12 = .ok (.invokevirtual 241, 3) := by decide +kernel
theorem dX5_charge_15 : decode cX5_charge 15 = .ok (.istore_n 3, 1) := by decide +kernel
theorem dX5_charge_16 : decode cX5_charge 16 = .ok (.iload_n 3, 1) := by decide +kernel
theorem dX5_charge_17 : decode cX5_charge 17 = .ok (.ifCond .ne 32, 3) := by decide +kernel
theorem dX5_charge_20 : decode cX5_charge 20 = .ok (.aload_n 0, 1) := by decide +kernel
theorem dX5_charge_21 : decode cX5_charge 21 = .ok (.getfield 123, 3) := by decide +kernel
theorem dX5_charge_24 : decode cX5_charge 24 = .ok (.ifCond .ne 25, 3) := by decide +kernel
theorem dX5_charge_27 : decode cX5_charge 27 = .ok (.aload_n 2, 1) := by decide +kernel
theorem dX5_charge_28 : decode cX5_charge 28 = .ok (.invokevirtual 126, 3) := by decide +kernel
theorem dX5_charge_31 : decode cX5_charge 31 = .ok (.ifCond .eq 18, 3) := by decide +kernel
theorem dX5_charge_34 : decode cX5_charge 34 = .ok (.aload_n 2, 1) := by decide +kernel
theorem dX5_charge_35 : decode cX5_charge 35 = .ok (.getfield 244, 3) := by decide +kernel
theorem dX5_charge_38 : decode cX5_charge 38 = .ok (.aload_n 2, 1) := by decide +kernel
theorem dX5_charge_39 : decode cX5_charge 39 = .ok (.getfield 247, 3) := by decide +kernel
theorem dX5_charge_42 : decode cX5_charge 42 = .ok (.if_icmp .ne 7, 3) := by decide +kernel
theorem dX5_charge_45 : decode cX5_charge 45 = .ok (.aload_n 0, 1) := by decide +kernel
theorem dX5_charge_46 : decode cX5_charge 46 = .ok (.invokevirtual 250, 3) := by decide +kernel
theorem dX5_charge_49 : decode cX5_charge 49 = .ok (.aload_n 0, 1) := by decide +kernel
theorem dX5_charge_50 : decode cX5_charge 50 = .ok (.iload_n 1, 1) := by decide +kernel
theorem dX5_charge_51 : decode cX5_charge 51 = .ok (.invokevirtual 104, 3) := by decide +kernel
theorem dX5_charge_54 : decode cX5_charge 54 = .ok (.return_, 1) := by decide +kernel
set_option maxRecDepth 20000 in
theorem ggX5_becomeHigh_X0_put : GoodIn wsX5_becomeHigh wsX0_put := goodIn_r _ [10, 11, 12, 13, 14, 15, 16, 69, 70] (by decide +kernel) (by decide +kernel)
set_option maxRecDepth 20000 in
theorem gX5_becomeHigh_X0_put : GoodIn wsX5_becomeHigh (wsV RX5 232 RX0 yX0_put wsX0_put) := goodIn_app (goodIn_of _ (by decide +kernel)) ggX5_becomeHigh_X0_put
set_option maxRecDepth 20000 in
theorem ggX5_becomeHigh_X3_isHigh : GoodIn wsX5_becomeHigh wsX3_isHigh := goodIn_r _ [21, 22, 71, 72, 73, 74, 75, 76, 77, 78, 79, 80, 81, 82, 83, 84] (by decide +kernel) (by decide +kernel)
set_option maxRecDepth 20000 in
theorem gX5_becomeHigh_X3_isHigh : GoodIn wsX5_becomeHigh (wsV RX5 126 RX3 yX3_isHigh wsX3_isHigh) := goodIn_app (goodIn_of _ (by decide +kernel)) ggX5_becomeHigh_X3_isHigh
set_option maxRecDepth 20000 in
theorem ggX5_becomeHigh_X3_giveUpPending : GoodIn wsX5_becomeHigh wsX3_giveUpPending := goodIn_r _ [26, 27, 28, 29, 30, 31, 32, 33, 34, 14, 15, 16, 71, 72, 73, 74, 75, 76, 77, 78, 79, 80, 81, 82, 83, 84] (by decide +kernel) (by decide +kernel)
set_option maxRecDepth 20000 in
theorem gX5_becomeHigh_X3_giveUpPending : GoodIn wsX5_becomeHigh (wsV RX5 253 RX3 yX3_giveUpPending wsX3_giveUpPending) := goodIn_app (goodIn_of _ (by decide +kernel)) ggX5_becomeHigh_X3_giveUpPending
set_option maxRecDepth 20000 in
theorem ggX5_becomeHigh_X5_forgetIfLeft : GoodIn wsX5_becomeHigh wsX5_forgetIfLeft := goodIn_r _ [38, 4, 39, 40, 41, 42, 43, 44, 45, 46, 47, 48, 49, 50, 51, 52, 53, 54, 55, 56, 57, 58, 59, 60, 61, 62, 63, 64, 65, 66, 67, 68, 71, 72, 73, 74, 75, 76, 77, 78, 79, 80, 81, 82, 83, 84, 85, 86] (by decide +kernel) (by decide +kernel)
set_option maxRecDepth 20000 in
theorem gX5_becomeHigh_X5_forgetIfLeft : GoodIn wsX5_becomeHigh (wsV RX5 104 RX5 yX5_forgetIfLeft wsX5_forgetIfLeft) := goodIn_app (goodIn_of _ (by decide +kernel)) ggX5_becomeHigh_X5_forgetIfLeft
theorem dX5_becomeHigh_0 : decode cX5_becomeHigh 0 = .ok (.aload_n 0, 1) := by decide +kernel
theorem dX5_becomeHigh_1 : decode cX5_becomeHigh 1 = .ok (.iconst 1, 1) := by decide +kernel
theorem dX5_becomeHigh_2 : decode cX5_becomeHigh 2 = .ok (.putfield 123, 3) := by decide +kernel
theorem dX5_becomeHigh_5 : decode cX5_becomeHigh 5 = .ok (.aload_n 0, 1) := by decide +kernel
theorem dX5_becomeHigh_6 : decode cX5_becomeHigh 6 = .ok (.getfield 52, 3) := by decide +kernel
theorem dX5_becomeHigh_9 : decode cX5_becomeHigh 9 = .ok (.aload_n 0, 1) := by decide +kernel
theorem dX5_becomeHigh_10 : decode cX5_becomeHigh 10 = .ok (.getfield 113, 3) := by decide +kernel
theorem dX5_becomeHigh_13 : decode cX5_becomeHigh 13 = .ok (.invokevirtual 232, 3) := by decide +kernel
theorem dX5_becomeHigh_16 : decode cX5_becomeHigh 16 = .ok (.iconst 1, 1) := by decide +kernel
theorem dX5_becomeHigh_17 : decode cX5_becomeHigh 17 = .ok (.istore_n 1, 1) := by decide +kernel
theorem dX5_becomeHigh_18 : decode cX5_becomeHigh 18 = .ok (.iload_n 1, 1) := by decide +kernel
theorem dX5_becomeHigh_19 : decode cX5_becomeHigh 19 = .ok (.bipush 12, 2) := by decide +kernel
theorem dX5_becomeHigh_21 : decode cX5_becomeHigh 21 = .ok (.if_icmp .gt 44, 3) := by decide +kernel
theorem dX5_becomeHigh_24 : decode cX5_becomeHigh 24 = .ok (.aload_n 0, 1) := by decide +kernel
theorem dX5_becomeHigh_25 : decode cX5_becomeHigh 25 = .ok (.getfield 20, 3) := by decide +kernel
theorem dX5_becomeHigh_28 : decode cX5_becomeHigh 28 = .ok (.iload_n 1, 1) := by decide +kernel
theorem dX5_becomeHigh_29 : decode cX5_becomeHigh 29 = .ok (.aaload, 1) := by decide +kernel
theorem dX5_becomeHigh_30 : decode cX5_becomeHigh 30 = .ok (.invokevirtual 126, 3) := by decide +kernel
theorem dX5_becomeHigh_33 : decode cX5_becomeHigh 33 = .ok (.ifCond .ne 26, 3) := by decide +kernel
theorem dX5_becomeHigh_36 : decode cX5_becomeHigh 36 = .ok (.aload_n 0, 1) := by decide +kernel
theorem dX5_becomeHigh_37 : decode cX5_becomeHigh 37 = .ok (.dup, 1) := by decide +kernel
theorem dX5_becomeHigh_38 : decode cX5_becomeHigh 38 = .ok (.getfield 201, 3) := by decide +kernel
theorem dX5_becomeHigh_41 : decode cX5_becomeHigh 41 = .ok (.aload_n 0, 1) := by decide +kernel
theorem dX5_becomeHigh_42 : decode cX5_becomeHigh 42 = .ok (.getfield 20, 3) := by decide +kernel
theorem dX5_becomeHigh_45 : decode cX5_becomeHigh 45 = .ok (.iload_n 1, 1) := by decide +kernel
theorem dX5_becomeHigh_46 : decode cX5_becomeHigh 46 = .ok (.aaload, 1) := by decide +kernel
theorem dX5_becomeHigh_47 : decode cX5_becomeHigh 47 = .ok (.invokevirtual 253, 3) := by decide +kernel
theorem dX5_becomeHigh_50 : decode cX5_becomeHigh 50 = .ok (.iadd, 1) := by decide +kernel
theorem dX5_becomeHigh_51 : decode cX5_becomeHigh 51 = .ok (.putfield 201, 3) := by decide +kernel
theorem dX5_becomeHigh_54 : decode cX5_becomeHigh 54 = .ok (.aload_n 0, 1) := by decide +kernel
theorem dX5_becomeHigh_55 : decode cX5_becomeHigh 55 = .ok (.iload_n 1, 1) := by decide +kernel
theorem dX5_becomeHigh_56 : decode cX5_becomeHigh 56 = .ok (.invokevirtual 104, 3) := by decide +kernel
theorem dX5_becomeHigh_59 : decode cX5_becomeHigh 59 = .ok (.iinc 1 1, 3) := by decide +kernel
theorem dX5_becomeHigh_62 : decode cX5_becomeHigh 62 = .ok (.goto (-44), 3) := by decide +kernel
theorem dX5_becomeHigh_65 : decode cX5_becomeHigh 65 = .ok (.return_, 1) := by decide +kernel
set_option maxRecDepth 20000 in
theorem ggX5_forgetIfLeft_X1_drop : GoodIn wsX5_forgetIfLeft wsX1_drop := goodIn_r _ [8, 9, 10, 11, 12, 7, 13, 14, 15, 16, 17, 18, 46, 47] (by decide +kernel) (by decide +kernel)
set_option maxRecDepth 20000 in
theorem gX5_forgetIfLeft_X1_drop : GoodIn wsX5_forgetIfLeft (wsV RX5 256 RX1 yX1_drop wsX1_drop) := goodIn_app (goodIn_of _ (by decide +kernel)) ggX5_forgetIfLeft_X1_drop
theorem dX5_forgetIfLeft_0 : decode cX5_forgetIfLeft 0 = .ok (.aload_n 0, 1) := by decide +kernel
theorem dX5_forgetIfLeft_1 : decode cX5_forgetIfLeft 1 = .ok (.getfield 20, 3) := by decide +kernel
theorem dX5_forgetIfLeft_4 : decode cX5_forgetIfLeft 4 = .ok (.iload_n 1, 1) := by decide +kernel
theorem dX5_forgetIfLeft_5 : decode cX5_forgetIfLeft 5 = .ok (.aaload, 1) := by decide +kernel
theorem dX5_forgetIfLeft_6 : decode cX5_forgetIfLeft 6 = .ok (.getfield 100, 3) := by decide +kernel
theorem dX5_forgetIfLeft_9 : decode cX5_forgetIfLeft 9 = .ok (.ifCond .eq 31, 3) := by decide +kernel
theorem dX5_forgetIfLeft_12 : decode cX5_forgetIfLeft 12 = .ok (.aload_n 0, 1) := by decide +kernel
theorem dX5_forgetIfLeft_13 : decode cX5_forgetIfLeft 13 = .ok (.getfield 20, 3) := by decide +kernel
theorem dX5_forgetIfLeft_16 : decode cX5_forgetIfLeft 16 = .ok (.iload_n 1, 1) := by decide +kernel
theorem dX5_forgetIfLeft_17 : decode cX5_forgetIfLeft 17 = .ok (.aaload, 1) := by decide +kernel
theorem dX5_forgetIfLeft_18 : decode cX5_forgetIfLeft 18 = .ok (.getfield 120, 3) := by decide +kernel
theorem dX5_forgetIfLeft_21 : decode cX5_forgetIfLeft 21 = .ok (.ifCond .ne 19, 3) := by decide +kernel
theorem dX5_forgetIfLeft_24 : decode cX5_forgetIfLeft 24 = .ok (.aload_n 0, 1) := by decide +kernel
theorem dX5_forgetIfLeft_25 : decode cX5_forgetIfLeft 25 = .ok (.getfield 26, 3) := by decide +kernel
theorem dX5_forgetIfLeft_28 : decode cX5_forgetIfLeft 28 = .ok (.iload_n 1, 1) := by decide +kernel
theorem dX5_forgetIfLeft_29 : decode cX5_forgetIfLeft 29 = .ok (.invokevirtual 256, 3) := by decide +kernel
theorem dX5_forgetIfLeft_32 : decode cX5_forgetIfLeft 32 = .ok (.aload_n 0, 1) := by decide +kernel
theorem dX5_forgetIfLeft_33 : decode cX5_forgetIfLeft 33 = .ok (.getfield 30, 3) := by decide +kernel
theorem dX5_forgetIfLeft_36 : decode cX5_forgetIfLeft 36 = .ok (.iload_n 1, 1) := by decide +kernel
theorem dX5_forgetIfLeft_37 : decode cX5_forgetIfLeft 37 = .ok (.invokevirtual 256, 3) := by decide +kernel
theorem dX5_forgetIfLeft_40 : decode cX5_forgetIfLeft 40 = .ok (.return_, 1) := by decide +kernel
theorem dX6_init_0 : decode cX6_init 0 = .ok (.aload_n 0, 1) := by decide +kernel
theorem dX6_init_1 : decode cX6_init 1 = .ok (.invokespecial 1, 3) := by decide +kernel
theorem dX6_init_4 : decode cX6_init 4 = .ok (.aload_n 0, 1) := by decide +kernel
theorem dX6_init_5 : decode cX6_init 5 = .ok (.bipush 13, 2) := by decide +kernel
theorem dX6_init_7 : decode cX6_init 7 = .ok (.newarray .boolean, 2) := by decide +kernel
theorem dX6_init_9 : decode cX6_init 9 = .ok (.putfield 7, 3) := by decide +kernel
theorem dX6_init_12 : decode cX6_init 12 = .ok (.aload_n 0, 1) := by decide +kernel
theorem dX6_init_13 : decode cX6_init 13 = .ok (.bipush 13, 2) := by decide +kernel
theorem dX6_init_15 : decode cX6_init 15 = .ok (.newarray .boolean, 2) := by decide +kernel
theorem dX6_init_17 : decode cX6_init 17 = .ok (.putfield 13, 3) := by decide +kernel
theorem dX6_init_20 : decode cX6_init 20 = .ok (.aload_n 0, 1) := by decide +kernel
theorem dX6_init_21 : decode cX6_init 21 = .ok (.bipush 13, 2) := by decide +kernel
theorem dX6_init_23 : decode cX6_init 23 = .ok (.newarray .int, 2) := by decide +kernel
theorem dX6_init_25 : decode cX6_init 25 = .ok (.putfield 16, 3) := by decide +kernel
theorem dX6_init_28 : decode cX6_init 28 = .ok (.aload_n 0, 1) := by decide +kernel
theorem dX6_init_29 : decode cX6_init 29 = .ok (.bipush 13, 2) := by decide +kernel
theorem dX6_init_31 : decode cX6_init 31 = .ok (.newarray .int, 2) := by decide +kernel
theorem dX6_init_33 : decode cX6_init 33 = .ok (.putfield 20, 3) := by decide +kernel
theorem dX6_init_36 : decode cX6_init 36 = .ok (.aload_n 0, 1) := by decide +kernel
theorem dX6_init_37 : decode cX6_init 37 = .ok (.bipush 13, 2) := by decide +kernel
theorem dX6_init_39 : decode cX6_init 39 = .ok (.newarray .int, 2) := by decide +kernel
theorem dX6_init_41 : decode cX6_init 41 = .ok (.putfield 23, 3) := by decide +kernel
theorem dX6_init_44 : decode cX6_init 44 = .ok (.aload_n 0, 1) := by decide +kernel
theorem dX6_init_45 : decode cX6_init 45 = .ok (.bipush 13, 2) := by decide +kernel
theorem dX6_init_47 : decode cX6_init 47 = .ok (.newarray .int, 2) := by decide +kernel
theorem dX6_init_49 : decode cX6_init 49 = .ok (.putfield 26, 3) := by decide +kernel
theorem dX6_init_52 : decode cX6_init 52 = .ok (.aload_n 0, 1) := by decide +kernel
theorem dX6_init_53 : decode cX6_init 53 = .ok (.bipush 13, 2) := by decide +kernel
theorem dX6_init_55 : decode cX6_init 55 = .ok (.newarray .int, 2) := by decide +kernel
theorem dX6_init_57 : decode cX6_init 57 = .ok (.putfield 29, 3) := by decide +kernel
theorem dX6_init_60 : decode cX6_init 60 = .ok (.aload_n 0, 1) := by decide +kernel
theorem dX6_init_61 : decode cX6_init 61 = .ok (.bipush 13, 2) := by decide +kernel
theorem dX6_init_63 : decode cX6_init 63 = .ok (.newarray .int, 2) := by decide +kernel
theorem dX6_init_65 : decode cX6_init 65 = .ok (.putfield 32, 3) := by decide +kernel
theorem dX6_init_68 : decode cX6_init 68 = .ok (.aload_n 0, 1) := by decide +kernel
theorem dX6_init_69 : decode cX6_init 69 = .ok (.bipush 13, 2) := by decide +kernel
theorem dX6_init_71 : decode cX6_init 71 = .ok (.newarray .int, 2) := by decide +kernel
theorem dX6_init_73 : decode cX6_init 73 = .ok (.putfield 35, 3) := by decide +kernel
theorem dX6_init_76 : decode cX6_init 76 = .ok (.aload_n 0, 1) := by decide +kernel
theorem dX6_init_77 : decode cX6_init 77 = .ok (.bipush 13, 2) := by decide +kernel
theorem dX6_init_79 : decode cX6_init 79 = .ok (.newarray .int, 2) := by decide +kernel
theorem dX6_init_81 : decode cX6_init 81 = .ok (.putfield 38, 3) := by decide +kernel
theorem dX6_init_84 : decode cX6_init 84 = .ok (.aload_n 0, 1) := by decide +kernel
theorem dX6_init_85 : decode cX6_init 85 = .ok (.bipush 13, 2) := by decide +kernel
theorem dX6_init_87 : decode cX6_init 87 = .ok (.newarray .int, 2) := by decide +kernel
theorem dX6_init_89 : decode cX6_init 89 = .ok (.putfield 41, 3) := by decide +kernel
theorem dX6_init_92 : decode cX6_init 92 = .ok (.aload_n 0, 1) := by decide +kernel
theorem dX6_init_93 : decode cX6_init 93 = .ok (.bipush 13, 2) := by decide +kernel
theorem dX6_init_95 : decode cX6_init 95 = .ok (.newarray .int, 2) := by decide +kernel
theorem dX6_init_97 : decode cX6_init 97 = .ok (.putfield 44, 3) := by decide +kernel
theorem dX6_init_100 : decode cX6_init 100 = .ok (.aload_n 0, 1) := by decide +kernel
theorem dX6_init_101 : decode cX6_init 101 = .ok (.bipush 13, 2) := by decide +kernel
theorem dX6_init_103 : decode cX6_init 103 = .ok (.newarray .int, 2) := by decide +kernel
theorem dX6_init_105 : decode cX6_init 105 = .ok (.putfield 47, 3) := by decide +kernel
theorem dX6_init_108 : decode cX6_init 108 = .ok (.aload_n 0, 1) := by decide +kernel
theorem dX6_init_109 : decode cX6_init 109 = .ok (.bipush 13, 2) := by decide +kernel
theorem dX6_init_111 : decode cX6_init 111 = .ok (.newarray .int, 2) := by decide +kernel
theorem dX6_init_113 : decode cX6_init 113 = .ok (.putfield 50, 3) := by decide +kernel
theorem dX6_init_116 : decode cX6_init 116 = .ok (.aload_n 0, 1) := by decide +kernel
theorem dX6_init_117 : decode cX6_init 117 = .ok (.bipush 104, 2) := by decide +kernel
theorem dX6_init_119 : decode cX6_init 119 = .ok (.newarray .int, 2) := by decide +kernel
theorem dX6_init_121 : decode cX6_init 121 = .ok (.putfield 53, 3) := by decide +kernel
theorem dX6_init_124 : decode cX6_init 124 = .ok (.aload_n 0, 1) := by decide +kernel
theorem dX6_init_125 : decode cX6_init 125 = .ok (.bipush 104, 2) := by decide +kernel
theorem dX6_init_127 : decode cX6_init 127 = .ok (.newarray .int, 2) := by decide +kernel
theorem dX6_init_129 : decode cX6_init 129 = .ok (.putfield 56, 3) := by decide +kernel
theorem dX6_init_132 : decode cX6_init 132 = .ok (.aload_n 0, 1) := by decide +kernel
theorem dX6_init_133 : decode cX6_init 133 = .ok (.bipush 104, 2) := by decide +kernel
theorem dX6_init_135 : decode cX6_init 135 = .ok (.newarray .int, 2) := by decide +kernel
theorem dX6_init_137 : decode cX6_init 137 = .ok (.putfield 59, 3) := by decide +kernel
theorem dX6_init_140 : decode cX6_init 140 = .ok (.aload_n 0, 1) := by decide +kernel
theorem dX6_init_141 : decode cX6_init 141 = .ok (.bipush 104, 2) := by decide +kernel
theorem dX6_init_143 : decode cX6_init 143 = .ok (.newarray .int, 2) := by decide +kernel
theorem dX6_init_145 : decode cX6_init 145 = .ok (.putfield 62, 3) := by decide +kernel
theorem dX6_init_148 : decode cX6_init 148 = .ok (.aload_n 0, 1) := by decide +kernel
theorem dX6_init_149 : decode cX6_init 149 = .ok (.bipush 8, 2) := by decide +kernel
theorem dX6_init_151 : decode cX6_init 151 = .ok (.newarray .int, 2) := by decide +kernel
theorem dX6_init_153 : decode cX6_init 153 = .ok (.putfield 65, 3) := by decide +kernel
theorem dX6_init_156 : decode cX6_init 156 = .ok (.aload_n 0, 1) := by decide +kernel
theorem dX6_init_157 : decode cX6_init 157 = .ok (.sipush 256, 3) := by decide +kernel
theorem dX6_init_160 : decode cX6_init 160 = .ok (.newarray .int, 2) := by decide +kernel
theorem dX6_init_162 : decode cX6_init 162 = .ok (.putfield 68, 3) := by decide +kernel
theorem dX6_init_165 : decode cX6_init 165 = .ok (.aload_n 0, 1) := by decide +kernel
theorem dX6_init_166 : decode cX6_init 166 = .ok (.bipush 13, 2) := by decide +kernel
theorem dX6_init_168 : decode cX6_init 168 = .ok (.newarray .int, 2) := by decide +kernel
theorem dX6_init_170 : decode cX6_init 170 = .ok (.putfield 71, 3) := by decide +kernel
theorem dX6_init_173 : decode cX6_init 173 = .ok (.aload_n 0, 1) := by decide +kernel
theorem dX6_init_174 : decode cX6_init 174 = .ok (.bipush 13, 2) := by decide +kernel
theorem dX6_init_176 : decode cX6_init 176 = .ok (.newarray .int, 2) := by decide +kernel
theorem dX6_init_178 : decode cX6_init 178 = .ok (.putfield 74, 3) := by decide +kernel
theorem dX6_init_181 : decode cX6_init 181 = .ok (.aload_n 0, 1) := by decide +kernel
theorem dX6_init_182 : decode cX6_init 182 = .ok (.bipush 13, 2) := by decide +kernel
theorem dX6_init_184 : decode cX6_init 184 = .ok (.newarray .int, 2) := by decide +kernel
theorem dX6_init_186 : decode cX6_init 186 = .ok (.putfield 77, 3) := by decide +kernel
theorem dX6_init_189 : decode cX6_init 189 = .ok (.aload_n 0, 1) := by decide +kernel
theorem dX6_init_190 : decode cX6_init 190 = .ok (.bipush 13, 2) := by decide +kernel
theorem dX6_init_192 : decode cX6_init 192 = .ok (.newarray .boolean, 2) := by decide +kernel
theorem dX6_init_194 : decode cX6_init 194 = .ok (.putfield 80, 3) := by decide +kernel
theorem dX6_init_197 : decode cX6_init 197 = .ok (.return_, 1) := by decide +kernel
theorem dX6_thrown_0 : decode cX6_thrown 0 = .ok (.aload_n 0, 1) := by decide +kernel
theorem dX6_thrown_1 : decode cX6_thrown 1 = .ok (.getfield 83, 3) := by decide +kernel
theorem dX6_thrown_4 : decode cX6_thrown 4 = .ok (.ireturn, 1) := by decide +kernel
theorem dX6_goes_0 : decode cX6_goes 0 = .ok (.aload_n 0, 1) := by decide +kernel
theorem dX6_goes_1 : decode cX6_goes 1 = .ok (.iload_n 1, 1) := by decide +kernel
theorem dX6_goes_2 : decode cX6_goes 2 = .ok (.ifCond .ne 7, 3) := by decide +kernel
theorem dX6_goes_5 : decode cX6_goes 5 = .ok (.iconst 1, 1) := by decide +kernel
theorem dX6_goes_6 : decode cX6_goes 6 = .ok (.goto 20, 3) := by decide +kernel
theorem dX6_goes_9 : decode cX6_goes 9 = .ok (.iload_n 2, 1) := by decide +kernel
theorem dX6_goes_10 : decode cX6_goes 10 = .ok (.ifCond .ne 7, 3) := by decide +kernel
theorem dX6_goes_13 : decode cX6_goes 13 = .ok (.iconst 2, 1) := by decide +kernel
theorem dX6_goes_14 : decode cX6_goes 14 = .ok (.goto 12, 3) := by decide +kernel
theorem dX6_goes_17 : decode cX6_goes 17 = .ok (.iload_n 3, 1) := by decide +kernel
theorem dX6_goes_18 : decode cX6_goes 18 = .ok (.ifCond .ne 7, 3) := by decide +kernel
theorem dX6_goes_21 : decode cX6_goes 21 = .ok (.iconst 3, 1) := by decide +kernel
theorem dX6_goes_22 : decode cX6_goes 22 = .ok (.goto 4, 3) := by decide +kernel
theorem dX6_goes_25 : decode cX6_goes 25 = .ok (.iconst 0, 1) := by decide +kernel
theorem dX6_goes_26 : decode cX6_goes 26 = .ok (.putfield 83, 3) := by decide +kernel
theorem dX6_goes_29 : decode cX6_goes 29 = .ok (.aload_n 0, 1) := by decide +kernel
theorem dX6_goes_30 : decode cX6_goes 30 = .ok (.getfield 83, 3) := by decide +kernel
theorem dX6_goes_33 : decode cX6_goes 33 = .ok (.ifCond .ne 7, 3) := by decide +kernel
theorem dX6_goes_36 : decode cX6_goes 36 = .ok (.iconst 1, 1) := by decide +kernel
theorem dX6_goes_37 : decode cX6_goes 37 = .ok (.goto 4, 3) := by decide +kernel
theorem dX6_goes_40 : decode cX6_goes 40 = .ok (.iconst 0, 1) := by decide +kernel
theorem dX6_goes_41 : decode cX6_goes 41 = .ok (.ireturn, 1) := by decide +kernel
theorem dX6_within_0 : decode cX6_within 0 = .ok (.iload_n 0, 1) := by decide +kernel
theorem dX6_within_1 : decode cX6_within 1 = .ok (.iload_n 1, 1) := by decide +kernel
theorem dX6_within_2 : decode cX6_within 2 = .ok (.if_icmp .lt 12, 3) := by decide +kernel
theorem dX6_within_5 : decode cX6_within 5 = .ok (.iload_n 0, 1) := by decide +kernel
theorem dX6_within_6 : decode cX6_within 6 = .ok (.iload_n 2, 1) := by decide +kernel
theorem dX6_within_7 : decode cX6_within 7 = .ok (.if_icmp .gt 7, 3) := by decide +kernel
theorem dX6_within_10 : decode cX6_within 10 = .ok (.iconst 1, 1) := by decide +kernel
theorem dX6_within_11 : decode cX6_within 11 = .ok (.goto 4, 3) := by decide +kernel
theorem dX6_within_14 : decode cX6_within 14 = .ok (.iconst 0, 1) := by decide +kernel
theorem dX6_within_15 : decode cX6_within 15 = .ok (.ireturn, 1) := by decide +kernel
theorem dX6_isKnown_0 : decode cX6_isKnown 0 = .ok (.iload_n 1, 1) := by decide +kernel
theorem dX6_isKnown_1 : decode cX6_isKnown 1 = .ok (.iconst 1, 1) := by decide +kernel
theorem dX6_isKnown_2 : decode cX6_isKnown 2 = .ok (.if_icmp .lt 22, 3) := by decide +kernel
theorem dX6_isKnown_5 : decode cX6_isKnown 5 = .ok (.iload_n 1, 1) := by decide +kernel
theorem dX6_isKnown_6 : decode cX6_isKnown 6 = .ok (.bipush 12, 2) := by decide +kernel
theorem dX6_isKnown_8 : decode cX6_isKnown 8 = .ok (.if_icmp .gt 16, 3) := by decide +kernel
theorem dX6_isKnown_11 : decode cX6_isKnown 11 = .ok (.aload_n 0, 1) := by decide +kernel
theorem dX6_isKnown_12 : decode cX6_isKnown 12 = .ok (.getfield 7, 3) := by decide +kernel
theorem dX6_isKnown_15 : decode cX6_isKnown 15 = .ok (.iload_n 1, 1) := by decide +kernel
theorem dX6_isKnown_16 : decode cX6_isKnown 16 = .ok (.baload, 1) := by decide +kernel
theorem dX6_isKnown_17 : decode cX6_isKnown 17 = .ok (.ifCond .eq 7, 3) := by decide +kernel
theorem dX6_isKnown_20 : decode cX6_isKnown 20 = .ok (.iconst 1, 1) := by decide +kernel
theorem dX6_isKnown_21 : decode cX6_isKnown 21 = .ok (.goto 4, 3) := by decide +kernel
theorem dX6_isKnown_24 : decode cX6_isKnown 24 = .ok (.iconst 0, 1) := by decide +kernel
theorem dX6_isKnown_25 : decode cX6_isKnown 25 = .ok (.ireturn, 1) := by decide +kernel
theorem dX6_times_0 : decode cX6_times 0 = .ok (.iload_n 0, 1) := by decide +kernel
theorem dX6_times_1 : decode cX6_times 1 = .ok (.iload_n 1, 1) := by decide +kernel
theorem dX6_times_2 : decode cX6_times 2 = .ok (.iadd, 1) := by decide +kernel
theorem dX6_times_3 : decode cX6_times 3 = .ok (.iconst 1, 1) := by decide +kernel
theorem dX6_times_4 : decode cX6_times 4 = .ok (.isub, 1) := by decide +kernel
theorem dX6_times_5 : decode cX6_times 5 = .ok (.iload_n 1, 1) := by decide +kernel
theorem dX6_times_6 : decode cX6_times 6 = .ok (.idiv, 1) := by decide +kernel
theorem dX6_times_7 : decode cX6_times 7 = .ok (.ireturn, 1) := by decide +kernel
set_option maxRecDepth 20000 in
theorem ggX6_lowResponse_X6_times : GoodIn wsX6_lowResponse wsX6_times := goodIn_r _ [8] (by decide +kernel) (by decide +kernel)
set_option maxRecDepth 20000 in
theorem gX6_lowResponse_X6_times : GoodIn wsX6_lowResponse (va_wsS RX6 87 yX6_times wsX6_times) := goodIn_app (goodIn_of _ (by decide +kernel)) ggX6_lowResponse_X6_times
theorem dX6_lowResponse_0 : decode cX6_lowResponse 0 = .ok (.iconst 1, 1) := by decide +kernel
theorem dX6_lowResponse_1 : decode cX6_lowResponse 1 = .ok (.istore_n 2, 1) := by decide +kernel
theorem dX6_lowResponse_2 : decode cX6_lowResponse 2 = .ok (.iload_n 2, 1) := by decide +kernel
theorem dX6_lowResponse_3 : decode cX6_lowResponse 3 = .ok (.aload_n 0, 1) := by decide +kernel
theorem dX6_lowResponse_4 : decode cX6_lowResponse 4 = .ok (.getfield 20, 3) := by decide +kernel
theorem dX6_lowResponse_7 : decode cX6_lowResponse 7 = .ok (.iload_n 1, 1) := by decide +kernel
theorem dX6_lowResponse_8 : decode cX6_lowResponse 8 = .ok (.iaload, 1) := by decide +kernel
theorem dX6_lowResponse_9 : decode cX6_lowResponse 9 = .ok (.if_icmp .gt 81, 3) := by decide +kernel
theorem dX6_lowResponse_12 : decode cX6_lowResponse 12 = .ok (.aload_n 0, 1) := by decide +kernel
theorem dX6_lowResponse_13 : decode cX6_lowResponse 13 = .ok (.getfield 23, 3) := by decide +kernel
theorem dX6_lowResponse_16 : decode cX6_lowResponse 16 = .ok (.iload_n 1, 1) := by decide +kernel
theorem dX6_lowResponse_17 : decode cX6_lowResponse 17 = .ok (.iaload, 1) := by decide +kernel
theorem dX6_lowResponse_18 : decode cX6_lowResponse 18 = .ok (.istore_n 3, 1) := by decide +kernel
theorem dX6_lowResponse_19 : decode cX6_lowResponse 19 = .ok (.iconst 1, 1) := by decide +kernel
theorem dX6_lowResponse_20 : decode cX6_lowResponse 20 = .ok (.istore 4, 2) := by decide +kernel
theorem dX6_lowResponse_22 : decode cX6_lowResponse 22 = .ok (.iload 4, 2) := by decide +kernel
theorem dX6_lowResponse_24 : decode cX6_lowResponse 24 = .ok (.bipush 13, 2) := by decide +kernel
theorem dX6_lowResponse_26 : decode cX6_lowResponse 26 = .ok (.if_icmp .ge 51, 3) := by decide +kernel
theorem dX6_lowResponse_29 : decode cX6_lowResponse 29 = .ok (.aload_n 0, 1) := by decide +kernel
theorem dX6_lowResponse_30 : decode cX6_lowResponse 30 = .ok (.getfield 80, 3) := by decide +kernel
theorem dX6_lowResponse_33 : decode cX6_lowResponse 33 = .ok (.iload 4, 2) := by decide +kernel
theorem dX6_lowResponse_35 : decode cX6_lowResponse 35 = .ok (.baload, 1) := by decide +kernel
theorem dX6_lowResponse_36 : decode cX6_lowResponse 36 = .ok (.ifCond .eq 33, 3) := by decide +kernel
theorem dX6_lowResponse_39 : decode cX6_lowResponse 39 = .ok (.iload 4, 2) := by decide +kernel
theorem dX6_lowResponse_41 : decode cX6_lowResponse 41 = .ok (.iload_n 1, 1) := by decide +kernel
theorem dX6_lowResponse_42 : decode cX6_lowResponse 42 = .ok (.if_icmp .eq 27, 3) := by decide +kernel
theorem dX6_lowResponse_45 : decode cX6_lowResponse 45 = .ok (.iload_n 3, 1) := by decide +kernel
theorem dX6_lowResponse_46 : decode cX6_lowResponse 46 = .ok (.iload_n 2, 1) := by decide +kernel
theorem dX6_lowResponse_47 : decode cX6_lowResponse 47 = .ok (.aload_n 0, 1) := by decide +kernel
theorem dX6_lowResponse_48 : decode cX6_lowResponse 48 = .ok (.getfield 16, 3) := by decide +kernel
theorem dX6_lowResponse_51 : decode cX6_lowResponse 51 = .ok (.iload 4, 2) := by decide +kernel
theorem dX6_lowResponse_53 : decode cX6_lowResponse 53 = .ok (.iaload, 1) := by decide +kernel
theorem dX6_lowResponse_54 : decode cX6_lowResponse 54 = .ok (.invokestatic 87, 3) := by decide +kernel
theorem dX6_lowResponse_57 : decode cX6_lowResponse 57 = .ok (.aload_n 0, 1) := by decide +kernel
theorem dX6_lowResponse_58 : decode cX6_lowResponse 58 = .ok (.getfield 23, 3) := by decide +kernel
theorem dX6_lowResponse_61 : decode cX6_lowResponse 61 = .ok (.iload 4, 2) := by decide +kernel
theorem dX6_lowResponse_63 : decode cX6_lowResponse 63 = .ok (.iaload, 1) := by decide +kernel
theorem dX6_lowResponse_64 : decode cX6_lowResponse 64 = .ok (.imul, 1) := by decide +kernel
theorem dX6_lowResponse_65 : decode cX6_lowResponse 65 = .ok (.iadd, 1) := by decide +kernel
theorem dX6_lowResponse_66 : decode cX6_lowResponse 66 = .ok (.goto 4, 3) := by decide +kernel
theorem dX6_lowResponse_69 : decode cX6_lowResponse 69 = .ok (.iload_n 3, 1) := by decide +kernel
theorem dX6_lowResponse_70 : decode cX6_lowResponse 70 = .ok (.istore_n 3, 1) := by decide +kernel
theorem dX6_lowResponse_71 : decode cX6_lowResponse 71 = .ok (.iinc 4 1, 3) := by decide +kernel
theorem dX6_lowResponse_74 : decode cX6_lowResponse 74 = .ok (.goto (-52), 3) := by decide +kernel
theorem dX6_lowResponse_77 : decode cX6_lowResponse 77 = .ok (.iload_n 3, 1) := by decide +kernel
theorem dX6_lowResponse_78 : decode cX6_lowResponse 78 = .ok (.iload_n 2, 1) := by decide +kernel
theorem dX6_lowResponse_79 : decode cX6_lowResponse 79 = .ok (.if_icmp .gt 5, 3) := by decide +kernel
theorem dX6_lowResponse_82 : decode cX6_lowResponse 82 = .ok (.iload_n 2, 1) := by decide +kernel
theorem dX6_lowResponse_83 : decode cX6_lowResponse 83 = .ok (.ireturn, 1) := by decide +kernel
theorem dX6_lowResponse_84 : decode cX6_lowResponse 84 = .ok (.iinc 2 1, 3) := by decide +kernel
theorem dX6_lowResponse_87 : decode cX6_lowResponse 87 = .ok (.goto (-85), 3) := by decide +kernel
theorem dX6_lowResponse_90 : decode cX6_lowResponse 90 = .ok (.iconst 0, 1) := by decide +kernel
theorem dX6_lowResponse_91 : decode cX6_lowResponse 91 = .ok (.ireturn, 1) := by decide +kernel
set_option maxRecDepth 20000 in
theorem ggX6_bound_X6_times : GoodIn wsX6_bound wsX6_times := goodIn_r _ [9] (by decide +kernel) (by decide +kernel)
set_option maxRecDepth 20000 in
theorem gX6_bound_X6_times : GoodIn wsX6_bound (va_wsS RX6 87 yX6_times wsX6_times) := goodIn_app (goodIn_of _ (by decide +kernel)) ggX6_bound_X6_times
theorem dX6_bound_0 : decode cX6_bound 0 = .ok (.aload_n 0, 1) := by decide +kernel
theorem dX6_bound_1 : decode cX6_bound 1 = .ok (.getfield 26, 3) := by decide +kernel
theorem dX6_bound_4 : decode cX6_bound 4 = .ok (.iload_n 1, 1) := by decide +kernel
theorem dX6_bound_5 : decode cX6_bound 5 = .ok (.iaload, 1) := by decide +kernel
theorem dX6_bound_6 : decode cX6_bound 6 = .ok (.istore_n 3, 1) := by decide +kernel
theorem dX6_bound_7 : decode cX6_bound 7 = .ok (.iconst 1, 1) := by decide +kernel
theorem dX6_bound_8 : decode cX6_bound 8 = .ok (.istore 4, 2) := by decide +kernel
theorem dX6_bound_10 : decode cX6_bound 10 = .ok (.iload 4, 2) := by decide +kernel
theorem dX6_bound_12 : decode cX6_bound 12 = .ok (.bipush 13, 2) := by decide +kernel
theorem dX6_bound_14 : decode cX6_bound 14 = .ok (.if_icmp .ge 61, 3) := by decide +kernel
theorem dX6_bound_17 : decode cX6_bound 17 = .ok (.aload_n 0, 1) := by decide +kernel
theorem dX6_bound_18 : decode cX6_bound 18 = .ok (.getfield 80, 3) := by decide +kernel
theorem dX6_bound_21 : decode cX6_bound 21 = .ok (.iload 4, 2) := by decide +kernel
theorem dX6_bound_23 : decode cX6_bound 23 = .ok (.baload, 1) := by decide +kernel
theorem dX6_bound_24 : decode cX6_bound 24 = .ok (.ifCond .eq 43, 3) := by decide +kernel
theorem dX6_bound_27 : decode cX6_bound 27 = .ok (.iload 4, 2) := by decide +kernel
theorem dX6_bound_29 : decode cX6_bound 29 = .ok (.iload_n 1, 1) := by decide +kernel
theorem dX6_bound_30 : decode cX6_bound 30 = .ok (.if_icmp .eq 37, 3) := by decide +kernel
theorem dX6_bound_33 : decode cX6_bound 33 = .ok (.aload_n 0, 1) := by decide +kernel
theorem dX6_bound_34 : decode cX6_bound 34 = .ok (.getfield 26, 3) := by decide +kernel
theorem dX6_bound_37 : decode cX6_bound 37 = .ok (.iload 4, 2) := by decide +kernel
theorem dX6_bound_39 : decode cX6_bound 39 = .ok (.iaload, 1) := by decide +kernel
theorem dX6_bound_40 : decode cX6_bound 40 = .ok (.ifCond .ne 27, 3) := by decide +kernel
theorem dX6_bound_43 : decode cX6_bound 43 = .ok (.iload_n 3, 1) := by decide +kernel
theorem dX6_bound_44 : decode cX6_bound 44 = .ok (.iload_n 2, 1) := by decide +kernel
theorem dX6_bound_45 : decode cX6_bound 45 = .ok (.aload_n 0, 1) := by decide +kernel
theorem dX6_bound_46 : decode cX6_bound 46 = .ok (.getfield 16, 3) := by decide +kernel
theorem dX6_bound_49 : decode cX6_bound 49 = .ok (.iload 4, 2) := by decide +kernel
theorem dX6_bound_51 : decode cX6_bound 51 = .ok (.iaload, 1) := by decide +kernel
theorem dX6_bound_52 : decode cX6_bound 52 = .ok (.invokestatic 87, 3) := by decide +kernel
theorem dX6_bound_55 : decode cX6_bound 55 = .ok (.aload_n 0, 1) := by decide +kernel
theorem dX6_bound_56 : decode cX6_bound 56 = .ok (.getfield 23, 3) := by decide +kernel
theorem dX6_bound_59 : decode cX6_bound 59 = .ok (.iload 4, 2) := by decide +kernel
theorem dX6_bound_61 : decode cX6_bound 61 = .ok (.iaload, 1) := by decide +kernel
theorem dX6_bound_62 : decode cX6_bound 62 = .ok (.imul, 1) := by decide +kernel
theorem dX6_bound_63 : decode cX6_bound 63 = .ok (.iadd, 1) := by decide +kernel
theorem dX6_bound_64 : decode cX6_bound 64 = .ok (.goto 4, 3) := by decide +kernel
theorem dX6_bound_67 : decode cX6_bound 67 = .ok (.iload_n 3, 1) := by decide +kernel
theorem dX6_bound_68 : decode cX6_bound 68 = .ok (.istore_n 3, 1) := by decide +kernel
theorem dX6_bound_69 : decode cX6_bound 69 = .ok (.iinc 4 1, 3) := by decide +kernel
theorem dX6_bound_72 : decode cX6_bound 72 = .ok (.goto (-62), 3) := by decide +kernel
theorem dX6_bound_75 : decode cX6_bound 75 = .ok (.iconst 1, 1) := by decide +kernel
theorem dX6_bound_76 : decode cX6_bound 76 = .ok (.istore 4, 2) := by decide +kernel
theorem dX6_bound_78 : decode cX6_bound 78 = .ok (.iload 4, 2) := by decide +kernel
theorem dX6_bound_80 : decode cX6_bound 80 = .ok (.aload_n 0, 1) := by decide +kernel
theorem dX6_bound_81 : decode cX6_bound 81 = .ok (.getfield 20, 3) := by decide +kernel
theorem dX6_bound_84 : decode cX6_bound 84 = .ok (.iload_n 1, 1) := by decide +kernel
theorem dX6_bound_85 : decode cX6_bound 85 = .ok (.iaload, 1) := by decide +kernel
theorem dX6_bound_86 : decode cX6_bound 86 = .ok (.if_icmp .gt 94, 3) := by decide +kernel
theorem dX6_bound_89 : decode cX6_bound 89 = .ok (.iload_n 3, 1) := by decide +kernel
theorem dX6_bound_90 : decode cX6_bound 90 = .ok (.istore 5, 2) := by decide +kernel
theorem dX6_bound_92 : decode cX6_bound 92 = .ok (.iconst 1, 1) := by decide +kernel
theorem dX6_bound_93 : decode cX6_bound 93 = .ok (.istore 6, 2) := by decide +kernel
theorem dX6_bound_95 : decode cX6_bound 95 = .ok (.iload 6, 2) := by decide +kernel
theorem dX6_bound_97 : decode cX6_bound 97 = .ok (.bipush 13, 2) := by decide +kernel
theorem dX6_bound_99 : decode cX6_bound 99 = .ok (.if_icmp .ge 65, 3) := by decide +kernel
theorem dX6_bound_102 : decode cX6_bound 102 = .ok (.aload_n 0, 1) := by decide +kernel
theorem dX6_bound_103 : decode cX6_bound 103 = .ok (.getfield 80, 3) := by decide +kernel
theorem dX6_bound_106 : decode cX6_bound 106 = .ok (.iload 6, 2) := by decide +kernel
theorem dX6_bound_108 : decode cX6_bound 108 = .ok (.baload, 1) := by decide +kernel
theorem dX6_bound_109 : decode cX6_bound 109 = .ok (.ifCond .eq 45, 3) := by decide +kernel
theorem dX6_bound_112 : decode cX6_bound 112 = .ok (.iload 6, 2) := by decide +kernel
theorem dX6_bound_114 : decode cX6_bound 114 = .ok (.iload_n 1, 1) := by decide +kernel
theorem dX6_bound_115 : decode cX6_bound 115 = .ok (.if_icmp .eq 39, 3) := by decide +kernel
theorem dX6_bound_118 : decode cX6_bound 118 = .ok (.aload_n 0, 1) := by decide +kernel
theorem dX6_bound_119 : decode cX6_bound 119 = .ok (.getfield 26, 3) := by decide +kernel
theorem dX6_bound_122 : decode cX6_bound 122 = .ok (.iload 6, 2) := by decide +kernel
theorem dX6_bound_124 : decode cX6_bound 124 = .ok (.iaload, 1) := by decide +kernel
theorem dX6_bound_125 : decode cX6_bound 125 = .ok (.ifCond .le 29, 3) := by decide +kernel
theorem dX6_bound_128 : decode cX6_bound 128 = .ok (.iload 5, 2) := by decide +kernel
end
section
theorem dX6_bound_130 : decode cX6_bound 130 = .ok (.iload 4, 2) := by decide +kernel
theorem dX6_bound_132 : decode cX6_bound 132 = .ok (.aload_n 0, 1) := by decide +kernel
theorem dX6_bound_133 : decode cX6_bound 133 = .ok (.getfield 16, 3) := by decide +kernel
theorem dX6_bound_136 : decode cX6_bound 136 = .ok (.iload 6, 2) := by decide +kernel
theorem dX6_bound_138 : decode cX6_bound 138 = .ok (.iaload, 1) := by decide +kernel
theorem dX6_bound_139 : decode cX6_bound 139 = .ok (.invokestatic 87, 3) := by decide +kernel
theorem dX6_bound_142 : decode cX6_bound 142 = .ok (.aload_n 0, 1) := by decide +kernel
theorem dX6_bound_143 : decode cX6_bound 143 = .ok (.getfield 26, 3) := by decide +kernel
theorem dX6_bound_146 : decode cX6_bound 146 = .ok (.iload 6, 2) := by decide +kernel
theorem dX6_bound_148 : decode cX6_bound 148 = .ok (.iaload, 1) := by decide +kernel
theorem dX6_bound_149 : decode cX6_bound 149 = .ok (.imul, 1) := by decide +kernel
theorem dX6_bound_150 : decode cX6_bound 150 = .ok (.iadd, 1) := by decide +kernel
theorem dX6_bound_151 : decode cX6_bound 151 = .ok (.goto 5, 3) := by decide +kernel
theorem dX6_bound_154 : decode cX6_bound 154 = .ok (.iload 5, 2) := by decide +kernel
theorem dX6_bound_156 : decode cX6_bound 156 = .ok (.istore 5, 2) := by decide +kernel
theorem dX6_bound_158 : decode cX6_bound 158 = .ok (.iinc 6 1, 3) := by decide +kernel
theorem dX6_bound_161 : decode cX6_bound 161 = .ok (.goto (-66), 3) := by decide +kernel
theorem dX6_bound_164 : decode cX6_bound 164 = .ok (.iload 5, 2) := by decide +kernel
theorem dX6_bound_166 : decode cX6_bound 166 = .ok (.iload 4, 2) := by decide +kernel
theorem dX6_bound_168 : decode cX6_bound 168 = .ok (.if_icmp .gt 6, 3) := by decide +kernel
theorem dX6_bound_171 : decode cX6_bound 171 = .ok (.iload 4, 2) := by decide +kernel
theorem dX6_bound_173 : decode cX6_bound 173 = .ok (.ireturn, 1) := by decide +kernel
theorem dX6_bound_174 : decode cX6_bound 174 = .ok (.iinc 4 1, 3) := by decide +kernel
theorem dX6_bound_177 : decode cX6_bound 177 = .ok (.goto (-99), 3) := by decide +kernel
theorem dX6_bound_180 : decode cX6_bound 180 = .ok (.iconst 0, 1) := by decide +kernel
theorem dX6_bound_181 : decode cX6_bound 181 = .ok (.ireturn, 1) := by decide +kernel
theorem dX6_markAhead_0 : decode cX6_markAhead 0 = .ok (.iconst 1, 1) := by decide +kernel
theorem dX6_markAhead_1 : decode cX6_markAhead 1 = .ok (.istore_n 2, 1) := by decide +kernel
theorem dX6_markAhead_2 : decode cX6_markAhead 2 = .ok (.iload_n 2, 1) := by decide +kernel
theorem dX6_markAhead_3 : decode cX6_markAhead 3 = .ok (.bipush 13, 2) := by decide +kernel
theorem dX6_markAhead_5 : decode cX6_markAhead 5 = .ok (.if_icmp .ge 16, 3) := by decide +kernel
theorem dX6_markAhead_8 : decode cX6_markAhead 8 = .ok (.aload_n 0, 1) := by decide +kernel
theorem dX6_markAhead_9 : decode cX6_markAhead 9 = .ok (.getfield 80, 3) := by decide +kernel
theorem dX6_markAhead_12 : decode cX6_markAhead 12 = .ok (.iload_n 2, 1) := by decide +kernel
theorem dX6_markAhead_13 : decode cX6_markAhead 13 = .ok (.iconst 0, 1) := by decide +kernel
theorem dX6_markAhead_14 : decode cX6_markAhead 14 = .ok (.bastore, 1) := by decide +kernel
theorem dX6_markAhead_15 : decode cX6_markAhead 15 = .ok (.iinc 2 1, 3) := by decide +kernel
theorem dX6_markAhead_18 : decode cX6_markAhead 18 = .ok (.goto (-16), 3) := by decide +kernel
theorem dX6_markAhead_21 : decode cX6_markAhead 21 = .ok (.iconst 0, 1) := by decide +kernel
theorem dX6_markAhead_22 : decode cX6_markAhead 22 = .ok (.istore_n 2, 1) := by decide +kernel
theorem dX6_markAhead_23 : decode cX6_markAhead 23 = .ok (.iload_n 2, 1) := by decide +kernel
theorem dX6_markAhead_24 : decode cX6_markAhead 24 = .ok (.iload_n 1, 1) := by decide +kernel
theorem dX6_markAhead_25 : decode cX6_markAhead 25 = .ok (.if_icmp .ge 21, 3) := by decide +kernel
theorem dX6_markAhead_28 : decode cX6_markAhead 28 = .ok (.aload_n 0, 1) := by decide +kernel
theorem dX6_markAhead_29 : decode cX6_markAhead 29 = .ok (.getfield 80, 3) := by decide +kernel
theorem dX6_markAhead_32 : decode cX6_markAhead 32 = .ok (.aload_n 0, 1) := by decide +kernel
theorem dX6_markAhead_33 : decode cX6_markAhead 33 = .ok (.getfield 29, 3) := by decide +kernel
theorem dX6_markAhead_36 : decode cX6_markAhead 36 = .ok (.iload_n 2, 1) := by decide +kernel
theorem dX6_markAhead_37 : decode cX6_markAhead 37 = .ok (.iaload, 1) := by decide +kernel
theorem dX6_markAhead_38 : decode cX6_markAhead 38 = .ok (.iconst 1, 1) := by decide +kernel
theorem dX6_markAhead_39 : decode cX6_markAhead 39 = .ok (.bastore, 1) := by decide +kernel
theorem dX6_markAhead_40 : decode cX6_markAhead 40 = .ok (.iinc 2 1, 3) := by decide +kernel
theorem dX6_markAhead_43 : decode cX6_markAhead 43 = .ok (.goto (-20), 3) := by decide +kernel
theorem dX6_markAhead_46 : decode cX6_markAhead 46 = .ok (.return_, 1) := by decide +kernel
set_option maxRecDepth 20000 in
theorem ggX6_unfit_X6_markAhead : GoodIn wsX6_unfit wsX6_markAhead := goodIn_r _ [9, 10, 3, 25, 26, 27, 28, 29, 30, 31, 32, 33, 34, 35, 36, 37, 38, 39, 40, 41, 42, 43, 44, 45, 46, 47, 48, 49, 50, 51, 52, 53, 54, 55, 56, 57, 58, 59] (by decide +kernel) (by decide +kernel)
set_option maxRecDepth 20000 in
theorem gX6_unfit_X6_markAhead : GoodIn wsX6_unfit (wsV RX6 94 RX6 yX6_markAhead wsX6_markAhead) := goodIn_app (goodIn_of _ (by decide +kernel)) ggX6_unfit_X6_markAhead
set_option maxRecDepth 20000 in
theorem ggX6_unfit_X6_lowResponse : GoodIn wsX6_unfit wsX6_lowResponse := goodIn_r _ [14, 15, 16, 10, 17, 18, 19, 8, 20, 25, 26, 27, 28, 29, 30, 31, 32, 33, 34, 35, 36, 37, 38, 39, 40, 41, 42, 43, 44, 45, 46, 47, 48, 49, 50, 51, 52, 53, 54, 55, 56, 57, 58, 59] (by decide +kernel) (by decide +kernel)
set_option maxRecDepth 20000 in
theorem gX6_unfit_X6_lowResponse : GoodIn wsX6_unfit (wsV RX6 98 RX6 yX6_lowResponse wsX6_lowResponse) := goodIn_app (goodIn_of _ (by decide +kernel)) ggX6_unfit_X6_lowResponse
set_option maxRecDepth 20000 in
theorem ggX6_unfit_X6_bound : GoodIn wsX6_unfit wsX6_bound := goodIn_r _ [24, 4, 10, 17, 16, 15, 18, 19, 8, 20, 25, 26, 27, 28, 29, 30, 31, 32, 33, 34, 35, 36, 37, 38, 39, 40, 41, 42, 43, 44, 45, 46, 47, 48, 49, 50, 51, 52, 53, 54, 55, 56, 57, 58, 59] (by decide +kernel) (by decide +kernel)
set_option maxRecDepth 20000 in
theorem gX6_unfit_X6_bound : GoodIn wsX6_unfit (wsV RX6 102 RX6 yX6_bound wsX6_bound) := goodIn_app (goodIn_of _ (by decide +kernel)) ggX6_unfit_X6_bound
theorem dX6_unfit_0 : decode cX6_unfit 0 = .ok (.iconst 0, 1) := by decide +kernel
theorem dX6_unfit_1 : decode cX6_unfit 1 = .ok (.istore_n 1, 1) := by decide +kernel
theorem dX6_unfit_2 : decode cX6_unfit 2 = .ok (.iload_n 1, 1) := by decide +kernel
theorem dX6_unfit_3 : decode cX6_unfit 3 = .ok (.aload_n 0, 1) := by decide +kernel
theorem dX6_unfit_4 : decode cX6_unfit 4 = .ok (.getfield 91, 3) := by decide +kernel
theorem dX6_unfit_7 : decode cX6_unfit 7 = .ok (.if_icmp .ge 56, 3) := by decide +kernel
theorem dX6_unfit_10 : decode cX6_unfit 10 = .ok (.aload_n 0, 1) := by decide +kernel
theorem dX6_unfit_11 : decode cX6_unfit 11 = .ok (.iload_n 1, 1) := by decide +kernel
theorem dX6_unfit_12 : decode cX6_unfit 12 = .ok (.invokevirtual 94, 3) := by decide +kernel
theorem dX6_unfit_15 : decode cX6_unfit 15 = .ok (.aload_n 0, 1) := by decide +kernel
theorem dX6_unfit_16 : decode cX6_unfit 16 = .ok (.getfield 35, 3) := by decide +kernel
theorem dX6_unfit_19 : decode cX6_unfit 19 = .ok (.aload_n 0, 1) := by decide +kernel
theorem dX6_unfit_20 : decode cX6_unfit 20 = .ok (.getfield 29, 3) := by decide +kernel
theorem dX6_unfit_23 : decode cX6_unfit 23 = .ok (.iload_n 1, 1) := by decide +kernel
theorem dX6_unfit_24 : decode cX6_unfit 24 = .ok (.iaload, 1) := by decide +kernel
theorem dX6_unfit_25 : decode cX6_unfit 25 = .ok (.aload_n 0, 1) := by decide +kernel
theorem dX6_unfit_26 : decode cX6_unfit 26 = .ok (.aload_n 0, 1) := by decide +kernel
theorem dX6_unfit_27 : decode cX6_unfit 27 = .ok (.getfield 29, 3) := by decide +kernel
theorem dX6_unfit_30 : decode cX6_unfit 30 = .ok (.iload_n 1, 1) := by decide +kernel
theorem dX6_unfit_31 : decode cX6_unfit 31 = .ok (.iaload, 1) := by decide +kernel
theorem dX6_unfit_32 : decode cX6_unfit 32 = .ok (.invokevirtual 98, 3) := by decide +kernel
theorem dX6_unfit_35 : decode cX6_unfit 35 = .ok (.iastore, 1) := by decide +kernel
theorem dX6_unfit_36 : decode cX6_unfit 36 = .ok (.aload_n 0, 1) := by decide +kernel
theorem dX6_unfit_37 : decode cX6_unfit 37 = .ok (.getfield 35, 3) := by decide +kernel
theorem dX6_unfit_40 : decode cX6_unfit 40 = .ok (.aload_n 0, 1) := by decide +kernel
theorem dX6_unfit_41 : decode cX6_unfit 41 = .ok (.getfield 29, 3) := by decide +kernel
theorem dX6_unfit_44 : decode cX6_unfit 44 = .ok (.iload_n 1, 1) := by decide +kernel
theorem dX6_unfit_45 : decode cX6_unfit 45 = .ok (.iaload, 1) := by decide +kernel
theorem dX6_unfit_46 : decode cX6_unfit 46 = .ok (.iaload, 1) := by decide +kernel
theorem dX6_unfit_47 : decode cX6_unfit 47 = .ok (.ifCond .ne 10, 3) := by decide +kernel
theorem dX6_unfit_50 : decode cX6_unfit 50 = .ok (.aload_n 0, 1) := by decide +kernel
theorem dX6_unfit_51 : decode cX6_unfit 51 = .ok (.getfield 29, 3) := by decide +kernel
theorem dX6_unfit_54 : decode cX6_unfit 54 = .ok (.iload_n 1, 1) := by decide +kernel
theorem dX6_unfit_55 : decode cX6_unfit 55 = .ok (.iaload, 1) := by decide +kernel
theorem dX6_unfit_56 : decode cX6_unfit 56 = .ok (.ireturn, 1) := by decide +kernel
theorem dX6_unfit_57 : decode cX6_unfit 57 = .ok (.iinc 1 1, 3) := by decide +kernel
theorem dX6_unfit_60 : decode cX6_unfit 60 = .ok (.goto (-58), 3) := by decide +kernel
theorem dX6_unfit_63 : decode cX6_unfit 63 = .ok (.iconst 0, 1) := by decide +kernel
theorem dX6_unfit_64 : decode cX6_unfit 64 = .ok (.istore_n 1, 1) := by decide +kernel
theorem dX6_unfit_65 : decode cX6_unfit 65 = .ok (.iload_n 1, 1) := by decide +kernel
theorem dX6_unfit_66 : decode cX6_unfit 66 = .ok (.aload_n 0, 1) := by decide +kernel
theorem dX6_unfit_67 : decode cX6_unfit 67 = .ok (.getfield 91, 3) := by decide +kernel
theorem dX6_unfit_70 : decode cX6_unfit 70 = .ok (.if_icmp .ge 61, 3) := by decide +kernel
theorem dX6_unfit_73 : decode cX6_unfit 73 = .ok (.aload_n 0, 1) := by decide +kernel
theorem dX6_unfit_74 : decode cX6_unfit 74 = .ok (.iload_n 1, 1) := by decide +kernel
theorem dX6_unfit_75 : decode cX6_unfit 75 = .ok (.invokevirtual 94, 3) := by decide +kernel
theorem dX6_unfit_78 : decode cX6_unfit 78 = .ok (.aload_n 0, 1) := by decide +kernel
theorem dX6_unfit_79 : decode cX6_unfit 79 = .ok (.getfield 26, 3) := by decide +kernel
theorem dX6_unfit_82 : decode cX6_unfit 82 = .ok (.aload_n 0, 1) := by decide +kernel
theorem dX6_unfit_83 : decode cX6_unfit 83 = .ok (.getfield 29, 3) := by decide +kernel
theorem dX6_unfit_86 : decode cX6_unfit 86 = .ok (.iload_n 1, 1) := by decide +kernel
theorem dX6_unfit_87 : decode cX6_unfit 87 = .ok (.iaload, 1) := by decide +kernel
theorem dX6_unfit_88 : decode cX6_unfit 88 = .ok (.iaload, 1) := by decide +kernel
theorem dX6_unfit_89 : decode cX6_unfit 89 = .ok (.ifCond .le 36, 3) := by decide +kernel
theorem dX6_unfit_92 : decode cX6_unfit 92 = .ok (.aload_n 0, 1) := by decide +kernel
theorem dX6_unfit_93 : decode cX6_unfit 93 = .ok (.aload_n 0, 1) := by decide +kernel
theorem dX6_unfit_94 : decode cX6_unfit 94 = .ok (.getfield 29, 3) := by decide +kernel
theorem dX6_unfit_97 : decode cX6_unfit 97 = .ok (.iload_n 1, 1) := by decide +kernel
theorem dX6_unfit_98 : decode cX6_unfit 98 = .ok (.iaload, 1) := by decide +kernel
theorem dX6_unfit_99 : decode cX6_unfit 99 = .ok (.aload_n 0, 1) := by decide +kernel
theorem dX6_unfit_100 : decode cX6_unfit 100 = .ok (.getfield 35, 3) := by decide +kernel
theorem dX6_unfit_103 : decode cX6_unfit 103 = .ok (.aload_n 0, 1) := by decide +kernel
theorem dX6_unfit_104 : decode cX6_unfit 104 = .ok (.getfield 29, 3) := by decide +kernel
theorem dX6_unfit_107 : decode cX6_unfit 107 = .ok (.iload_n 1, 1) := by decide +kernel
theorem dX6_unfit_108 : decode cX6_unfit 108 = .ok (.iaload, 1) := by decide +kernel
theorem dX6_unfit_109 : decode cX6_unfit 109 = .ok (.iaload, 1) := by decide +kernel
theorem dX6_unfit_110 : decode cX6_unfit 110 = .ok (.invokevirtual 102, 3) := by decide +kernel
theorem dX6_unfit_113 : decode cX6_unfit 113 = .ok (.ifCond .ne 12, 3) := by decide +kernel
theorem dX6_unfit_116 : decode cX6_unfit 116 = .ok (.iconst 0, 1) := by decide +kernel
theorem dX6_unfit_117 : decode cX6_unfit 117 = .ok (.aload_n 0, 1) := by decide +kernel
theorem dX6_unfit_118 : decode cX6_unfit 118 = .ok (.getfield 29, 3) := by decide +kernel
theorem dX6_unfit_121 : decode cX6_unfit 121 = .ok (.iload_n 1, 1) := by decide +kernel
theorem dX6_unfit_122 : decode cX6_unfit 122 = .ok (.iaload, 1) := by decide +kernel
theorem dX6_unfit_123 : decode cX6_unfit 123 = .ok (.isub, 1) := by decide +kernel
theorem dX6_unfit_124 : decode cX6_unfit 124 = .ok (.ireturn, 1) := by decide +kernel
theorem dX6_unfit_125 : decode cX6_unfit 125 = .ok (.iinc 1 1, 3) := by decide +kernel
theorem dX6_unfit_128 : decode cX6_unfit 128 = .ok (.goto (-63), 3) := by decide +kernel
theorem dX6_unfit_131 : decode cX6_unfit 131 = .ok (.iconst 0, 1) := by decide +kernel
theorem dX6_unfit_132 : decode cX6_unfit 132 = .ok (.ireturn, 1) := by decide +kernel
theorem dX6_takeOut_0 : decode cX6_takeOut 0 = .ok (.iconst 0, 1) := by decide +kernel
theorem dX6_takeOut_1 : decode cX6_takeOut 1 = .ok (.istore_n 2, 1) := by decide +kernel
theorem dX6_takeOut_2 : decode cX6_takeOut 2 = .ok (.iconst 0, 1) := by decide +kernel
theorem dX6_takeOut_3 : decode cX6_takeOut 3 = .ok (.istore_n 3, 1) := by decide +kernel
theorem dX6_takeOut_4 : decode cX6_takeOut 4 = .ok (.iload_n 3, 1) := by decide +kernel
theorem dX6_takeOut_5 : decode cX6_takeOut 5 = .ok (.aload_n 0, 1) := by decide +kernel
theorem dX6_takeOut_6 : decode cX6_takeOut 6 = .ok (.getfield 91, 3) := by decide +kernel
theorem dX6_takeOut_9 : decode cX6_takeOut 9 = .ok (.if_icmp .ge 39, 3) := by decide +kernel
theorem dX6_takeOut_12 : decode cX6_takeOut 12 = .ok (.aload_n 0, 1) := by decide +kernel
theorem dX6_takeOut_13 : decode cX6_takeOut 13 = .ok (.getfield 29, 3) := by decide +kernel
theorem dX6_takeOut_16 : decode cX6_takeOut 16 = .ok (.iload_n 2, 1) := by decide +kernel
theorem dX6_takeOut_17 : decode cX6_takeOut 17 = .ok (.aload_n 0, 1) := by decide +kernel
theorem dX6_takeOut_18 : decode cX6_takeOut 18 = .ok (.getfield 29, 3) := by decide +kernel
theorem dX6_takeOut_21 : decode cX6_takeOut 21 = .ok (.iload_n 3, 1) := by decide +kernel
theorem dX6_takeOut_22 : decode cX6_takeOut 22 = .ok (.iaload, 1) := by decide +kernel
theorem dX6_takeOut_23 : decode cX6_takeOut 23 = .ok (.iastore, 1) := by decide +kernel
theorem dX6_takeOut_24 : decode cX6_takeOut 24 = .ok (.aload_n 0, 1) := by decide +kernel
theorem dX6_takeOut_25 : decode cX6_takeOut 25 = .ok (.getfield 29, 3) := by decide +kernel
theorem dX6_takeOut_28 : decode cX6_takeOut 28 = .ok (.iload_n 3, 1) := by decide +kernel
theorem dX6_takeOut_29 : decode cX6_takeOut 29 = .ok (.iaload, 1) := by decide +kernel
theorem dX6_takeOut_30 : decode cX6_takeOut 30 = .ok (.iload_n 1, 1) := by decide +kernel
theorem dX6_takeOut_31 : decode cX6_takeOut 31 = .ok (.if_icmp .ne 7, 3) := by decide +kernel
theorem dX6_takeOut_34 : decode cX6_takeOut 34 = .ok (.iload_n 2, 1) := by decide +kernel
theorem dX6_takeOut_35 : decode cX6_takeOut 35 = .ok (.goto 6, 3) := by decide +kernel
theorem dX6_takeOut_38 : decode cX6_takeOut 38 = .ok (.iload_n 2, 1) := by decide +kernel
theorem dX6_takeOut_39 : decode cX6_takeOut 39 = .ok (.iconst 1, 1) := by decide +kernel
theorem dX6_takeOut_40 : decode cX6_takeOut 40 = .ok (.iadd, 1) := by decide +kernel
theorem dX6_takeOut_41 : decode cX6_takeOut 41 = .ok (.istore_n 2, 1) := by decide +kernel
theorem dX6_takeOut_42 : decode cX6_takeOut 42 = .ok (.iinc 3 1, 3) := by decide +kernel
theorem dX6_takeOut_45 : decode cX6_takeOut 45 = .ok (.goto (-41), 3) := by decide +kernel
theorem dX6_takeOut_48 : decode cX6_takeOut 48 = .ok (.aload_n 0, 1) := by decide +kernel
theorem dX6_takeOut_49 : decode cX6_takeOut 49 = .ok (.iload_n 2, 1) := by decide +kernel
theorem dX6_takeOut_50 : decode cX6_takeOut 50 = .ok (.putfield 91, 3) := by decide +kernel
theorem dX6_takeOut_53 : decode cX6_takeOut 53 = .ok (.return_, 1) := by decide +kernel
theorem dX6_noteWitness_0 : decode cX6_noteWitness 0 = .ok (.aload_n 0, 1) := by decide +kernel
theorem dX6_noteWitness_1 : decode cX6_noteWitness 1 = .ok (.iconst 0, 1) := by decide +kernel
theorem dX6_noteWitness_2 : decode cX6_noteWitness 2 = .ok (.putfield 105, 3) := by decide +kernel
theorem dX6_noteWitness_5 : decode cX6_noteWitness 5 = .ok (.iconst 0, 1) := by decide +kernel
theorem dX6_noteWitness_6 : decode cX6_noteWitness 6 = .ok (.istore_n 2, 1) := by decide +kernel
theorem dX6_noteWitness_7 : decode cX6_noteWitness 7 = .ok (.iload_n 2, 1) := by decide +kernel
theorem dX6_noteWitness_8 : decode cX6_noteWitness 8 = .ok (.aload_n 0, 1) := by decide +kernel
theorem dX6_noteWitness_9 : decode cX6_noteWitness 9 = .ok (.getfield 91, 3) := by decide +kernel
theorem dX6_noteWitness_12 : decode cX6_noteWitness 12 = .ok (.if_icmp .ge 64, 3) := by decide +kernel
theorem dX6_noteWitness_15 : decode cX6_noteWitness 15 = .ok (.iload_n 2, 1) := by decide +kernel
theorem dX6_noteWitness_16 : decode cX6_noteWitness 16 = .ok (.ifCond .eq 15, 3) := by decide +kernel
theorem dX6_noteWitness_19 : decode cX6_noteWitness 19 = .ok (.aload_n 0, 1) := by decide +kernel
theorem dX6_noteWitness_20 : decode cX6_noteWitness 20 = .ok (.getfield 29, 3) := by decide +kernel
theorem dX6_noteWitness_23 : decode cX6_noteWitness 23 = .ok (.iload_n 2, 1) := by decide +kernel
theorem dX6_noteWitness_24 : decode cX6_noteWitness 24 = .ok (.iconst 1, 1) := by decide +kernel
theorem dX6_noteWitness_25 : decode cX6_noteWitness 25 = .ok (.isub, 1) := by decide +kernel
theorem dX6_noteWitness_26 : decode cX6_noteWitness 26 = .ok (.iaload, 1) := by decide +kernel
theorem dX6_noteWitness_27 : decode cX6_noteWitness 27 = .ok (.iload_n 1, 1) := by decide +kernel
theorem dX6_noteWitness_28 : decode cX6_noteWitness 28 = .ok (.if_icmp .eq 48, 3) := by decide +kernel
theorem dX6_noteWitness_31 : decode cX6_noteWitness 31 = .ok (.aload_n 0, 1) := by decide +kernel
theorem dX6_noteWitness_32 : decode cX6_noteWitness 32 = .ok (.getfield 71, 3) := by decide +kernel
theorem dX6_noteWitness_35 : decode cX6_noteWitness 35 = .ok (.iload_n 2, 1) := by decide +kernel
theorem dX6_noteWitness_36 : decode cX6_noteWitness 36 = .ok (.aload_n 0, 1) := by decide +kernel
theorem dX6_noteWitness_37 : decode cX6_noteWitness 37 = .ok (.getfield 29, 3) := by decide +kernel
theorem dX6_noteWitness_40 : decode cX6_noteWitness 40 = .ok (.iload_n 2, 1) := by decide +kernel
theorem dX6_noteWitness_41 : decode cX6_noteWitness 41 = .ok (.iaload, 1) := by decide +kernel
theorem dX6_noteWitness_42 : decode cX6_noteWitness 42 = .ok (.iastore, 1) := by decide +kernel
theorem dX6_noteWitness_43 : decode cX6_noteWitness 43 = .ok (.aload_n 0, 1) := by decide +kernel
theorem dX6_noteWitness_44 : decode cX6_noteWitness 44 = .ok (.getfield 74, 3) := by decide +kernel
theorem dX6_noteWitness_47 : decode cX6_noteWitness 47 = .ok (.iload_n 2, 1) := by decide +kernel
theorem dX6_noteWitness_48 : decode cX6_noteWitness 48 = .ok (.aload_n 0, 1) := by decide +kernel
theorem dX6_noteWitness_49 : decode cX6_noteWitness 49 = .ok (.getfield 16, 3) := by decide +kernel
theorem dX6_noteWitness_52 : decode cX6_noteWitness 52 = .ok (.aload_n 0, 1) := by decide +kernel
theorem dX6_noteWitness_53 : decode cX6_noteWitness 53 = .ok (.getfield 29, 3) := by decide +kernel
theorem dX6_noteWitness_56 : decode cX6_noteWitness 56 = .ok (.iload_n 2, 1) := by decide +kernel
theorem dX6_noteWitness_57 : decode cX6_noteWitness 57 = .ok (.iaload, 1) := by decide +kernel
theorem dX6_noteWitness_58 : decode cX6_noteWitness 58 = .ok (.iaload, 1) := by decide +kernel
theorem dX6_noteWitness_59 : decode cX6_noteWitness 59 = .ok (.iastore, 1) := by decide +kernel
theorem dX6_noteWitness_60 : decode cX6_noteWitness 60 = .ok (.aload_n 0, 1) := by decide +kernel
theorem dX6_noteWitness_61 : decode cX6_noteWitness 61 = .ok (.dup, 1) := by decide +kernel
theorem dX6_noteWitness_62 : decode cX6_noteWitness 62 = .ok (.getfield 105, 3) := by decide +kernel
theorem dX6_noteWitness_65 : decode cX6_noteWitness 65 = .ok (.iconst 1, 1) := by decide +kernel
theorem dX6_noteWitness_66 : decode cX6_noteWitness 66 = .ok (.iadd, 1) := by decide +kernel
theorem dX6_noteWitness_67 : decode cX6_noteWitness 67 = .ok (.putfield 105, 3) := by decide +kernel
theorem dX6_noteWitness_70 : decode cX6_noteWitness 70 = .ok (.iinc 2 1, 3) := by decide +kernel
theorem dX6_noteWitness_73 : decode cX6_noteWitness 73 = .ok (.goto (-66), 3) := by decide +kernel
theorem dX6_noteWitness_76 : decode cX6_noteWitness 76 = .ok (.aload_n 0, 1) := by decide +kernel
theorem dX6_noteWitness_77 : decode cX6_noteWitness 77 = .ok (.aload_n 0, 1) := by decide +kernel
theorem dX6_noteWitness_78 : decode cX6_noteWitness 78 = .ok (.getfield 20, 3) := by decide +kernel
theorem dX6_noteWitness_81 : decode cX6_noteWitness 81 = .ok (.iload_n 1, 1) := by decide +kernel
theorem dX6_noteWitness_82 : decode cX6_noteWitness 82 = .ok (.iaload, 1) := by decide +kernel
theorem dX6_noteWitness_83 : decode cX6_noteWitness 83 = .ok (.putfield 108, 3) := by decide +kernel
theorem dX6_noteWitness_86 : decode cX6_noteWitness 86 = .ok (.return_, 1) := by decide +kernel
set_option maxRecDepth 20000 in
theorem ggX6_add_X6_within : GoodIn wsX6_add wsX6_within := goodIn_r _ [17] (by decide +kernel) (by decide +kernel)
set_option maxRecDepth 20000 in
theorem gX6_add_X6_within : GoodIn wsX6_add (va_wsS RX6 111 yX6_within wsX6_within) := goodIn_app (goodIn_of _ (by decide +kernel)) ggX6_add_X6_within
set_option maxRecDepth 20000 in
theorem ggX6_add_X6_isKnown : GoodIn wsX6_add wsX6_isKnown := goodIn_r _ [21, 7, 60, 61, 62, 63, 64, 65, 66, 67, 68, 69, 70, 71, 72, 73, 74, 75, 76, 77, 78, 79, 80, 81, 82, 83, 84, 85, 86, 87, 88, 89, 90, 91, 92, 93, 94] (by decide +kernel) (by decide +kernel)
set_option maxRecDepth 20000 in
theorem gX6_add_X6_isKnown : GoodIn wsX6_add (wsV RX6 115 RX6 yX6_isKnown wsX6_isKnown) := goodIn_app (goodIn_of _ (by decide +kernel)) ggX6_add_X6_isKnown
set_option maxRecDepth 20000 in
theorem ggX6_add_X6_goes : GoodIn wsX6_add wsX6_goes := goodIn_r _ [25, 26, 60, 61, 62, 63, 64, 65, 66, 67, 68, 69, 70, 71, 72, 73, 74, 75, 76, 77, 78, 79, 80, 81, 82, 83, 84, 85, 86, 87, 88, 89, 90, 91, 92, 93, 94] (by decide +kernel) (by decide +kernel)
set_option maxRecDepth 20000 in
theorem gX6_add_X6_goes : GoodIn wsX6_add (wsV RX6 119 RX6 yX6_goes wsX6_goes) := goodIn_app (goodIn_of _ (by decide +kernel)) ggX6_add_X6_goes
set_option maxRecDepth 20000 in
theorem ggX6_add_X6_unfit : GoodIn wsX6_add wsX6_unfit := goodIn_r _ [30, 1, 31, 3, 6, 32, 33, 34, 16, 35, 36, 37, 38, 39, 40, 2, 5, 4, 41, 42, 43, 44, 45, 46, 47, 60, 61, 62, 63, 64, 65, 66, 67, 68, 69, 70, 71, 72, 73, 74, 75, 76, 77, 78, 79, 80, 81, 82, 83, 84, 85, 86, 87, 88, 89, 90, 91, 92, 93, 94] (by decide +kernel) (by decide +kernel)
set_option maxRecDepth 20000 in
theorem gX6_add_X6_unfit : GoodIn wsX6_add (wsV RX6 123 RX6 yX6_unfit wsX6_unfit) := goodIn_app (goodIn_of _ (by decide +kernel)) ggX6_add_X6_unfit
set_option maxRecDepth 20000 in
theorem ggX6_add_X6_noteWitness : GoodIn wsX6_add wsX6_noteWitness := goodIn_r _ [51, 52, 1, 3, 53, 54, 4, 2, 55, 60, 61, 62, 63, 64, 65, 66, 67, 68, 69, 70, 71, 72, 73, 74, 75, 76, 77, 78, 79, 80, 81, 82, 83, 84, 85, 86, 87, 88, 89, 90, 91, 92, 93, 94] (by decide +kernel) (by decide +kernel)
set_option maxRecDepth 20000 in
theorem gX6_add_X6_noteWitness : GoodIn wsX6_add (wsV RX6 127 RX6 yX6_noteWitness wsX6_noteWitness) := goodIn_app (goodIn_of _ (by decide +kernel)) ggX6_add_X6_noteWitness
set_option maxRecDepth 20000 in
theorem ggX6_add_X6_takeOut : GoodIn wsX6_add wsX6_takeOut := goodIn_r _ [59, 1, 3, 60, 61, 62, 63, 64, 65, 66, 67, 68, 69, 70, 71, 72, 73, 74, 75, 76, 77, 78, 79, 80, 81, 82, 83, 84, 85, 86, 87, 88, 89, 90, 91, 92, 93, 94] (by decide +kernel) (by decide +kernel)
set_option maxRecDepth 20000 in
theorem gX6_add_X6_takeOut : GoodIn wsX6_add (wsV RX6 130 RX6 yX6_takeOut wsX6_takeOut) := goodIn_app (goodIn_of _ (by decide +kernel)) ggX6_add_X6_takeOut
theorem dX6_add_0 : decode cX6_add 0 = .ok (.iload_n 1, 1) := by decide +kernel
theorem dX6_add_1 : decode cX6_add 1 = .ok (.iconst 1, 1) := by decide +kernel
theorem dX6_add_2 : decode cX6_add 2 = .ok (.bipush 12, 2) := by decide +kernel
theorem dX6_add_4 : decode cX6_add 4 = .ok (.invokestatic 111, 3) := by decide +kernel
theorem dX6_add_7 : decode cX6_add 7 = .ok (.ifCond .eq 56, 3) := by decide +kernel
theorem dX6_add_10 : decode cX6_add 10 = .ok (.iload_n 2, 1) := by decide +kernel
theorem dX6_add_11 : decode cX6_add 11 = .ok (.iconst 1, 1) := by decide +kernel
theorem dX6_add_12 : decode cX6_add 12 = .ok (.sipush 1000, 3) := by decide +kernel
theorem dX6_add_15 : decode cX6_add 15 = .ok (.invokestatic 111, 3) := by decide +kernel
theorem dX6_add_18 : decode cX6_add 18 = .ok (.ifCond .eq 45, 3) := by decide +kernel
theorem dX6_add_21 : decode cX6_add 21 = .ok (.iload_n 3, 1) := by decide +kernel
theorem dX6_add_22 : decode cX6_add 22 = .ok (.iconst 1, 1) := by decide +kernel
theorem dX6_add_23 : decode cX6_add 23 = .ok (.iload_n 2, 1) := by decide +kernel
theorem dX6_add_24 : decode cX6_add 24 = .ok (.invokestatic 111, 3) := by decide +kernel
theorem dX6_add_27 : decode cX6_add 27 = .ok (.ifCond .eq 36, 3) := by decide +kernel
theorem dX6_add_30 : decode cX6_add 30 = .ok (.iload 4, 2) := by decide +kernel
theorem dX6_add_32 : decode cX6_add 32 = .ok (.iconst 1, 1) := by decide +kernel
theorem dX6_add_33 : decode cX6_add 33 = .ok (.bipush 100, 2) := by decide +kernel
theorem dX6_add_35 : decode cX6_add 35 = .ok (.invokestatic 111, 3) := by decide +kernel
theorem dX6_add_38 : decode cX6_add 38 = .ok (.ifCond .eq 25, 3) := by decide +kernel
theorem dX6_add_41 : decode cX6_add 41 = .ok (.iload 5, 2) := by decide +kernel
theorem dX6_add_43 : decode cX6_add 43 = .ok (.ifCond .eq 16, 3) := by decide +kernel
theorem dX6_add_46 : decode cX6_add 46 = .ok (.iload 5, 2) := by decide +kernel
theorem dX6_add_48 : decode cX6_add 48 = .ok (.iload 4, 2) := by decide +kernel
theorem dX6_add_50 : decode cX6_add 50 = .ok (.sipush 200, 3) := by decide +kernel
theorem dX6_add_53 : decode cX6_add 53 = .ok (.invokestatic 111, 3) := by decide +kernel
theorem dX6_add_56 : decode cX6_add 56 = .ok (.ifCond .eq 7, 3) := by decide +kernel
theorem dX6_add_59 : decode cX6_add 59 = .ok (.iconst 1, 1) := by decide +kernel
theorem dX6_add_60 : decode cX6_add 60 = .ok (.goto 4, 3) := by decide +kernel
theorem dX6_add_63 : decode cX6_add 63 = .ok (.iconst 0, 1) := by decide +kernel
theorem dX6_add_64 : decode cX6_add 64 = .ok (.istore 6, 2) := by decide +kernel
theorem dX6_add_66 : decode cX6_add 66 = .ok (.aload_n 0, 1) := by decide +kernel
theorem dX6_add_67 : decode cX6_add 67 = .ok (.iload 6, 2) := by decide +kernel
theorem dX6_add_69 : decode cX6_add 69 = .ok (.aload_n 0, 1) := by decide +kernel
theorem dX6_add_70 : decode cX6_add 70 = .ok (.iload_n 1, 1) := by decide +kernel
theorem dX6_add_71 : decode cX6_add 71 = .ok (.invokevirtual 115, 3) := by decide +kernel
theorem dX6_add_74 : decode cX6_add 74 = .ok (.ifCond .ne 7, 3) := by decide +kernel
theorem dX6_add_77 : decode cX6_add 77 = .ok (.iconst 1, 1) := by decide +kernel
theorem dX6_add_78 : decode cX6_add 78 = .ok (.goto 4, 3) := by decide +kernel
theorem dX6_add_81 : decode cX6_add 81 = .ok (.iconst 0, 1) := by decide +kernel
theorem dX6_add_82 : decode cX6_add 82 = .ok (.iconst 1, 1) := by decide +kernel
theorem dX6_add_83 : decode cX6_add 83 = .ok (.invokevirtual 119, 3) := by decide +kernel
theorem dX6_add_86 : decode cX6_add 86 = .ok (.ifCond .ne 5, 3) := by decide +kernel
theorem dX6_add_89 : decode cX6_add 89 = .ok (.iconst 0, 1) := by decide +kernel
theorem dX6_add_90 : decode cX6_add 90 = .ok (.ireturn, 1) := by decide +kernel
theorem dX6_add_91 : decode cX6_add 91 = .ok (.iconst 0, 1) := by decide +kernel
theorem dX6_add_92 : decode cX6_add 92 = .ok (.istore 7, 2) := by decide +kernel
theorem dX6_add_94 : decode cX6_add 94 = .ok (.iconst 0, 1) := by decide +kernel
theorem dX6_add_95 : decode cX6_add 95 = .ok (.istore 8, 2) := by decide +kernel
theorem dX6_add_97 : decode cX6_add 97 = .ok (.iload 8, 2) := by decide +kernel
theorem dX6_add_99 : decode cX6_add 99 = .ok (.aload_n 0, 1) := by decide +kernel
theorem dX6_add_100 : decode cX6_add 100 = .ok (.getfield 91, 3) := by decide +kernel
theorem dX6_add_103 : decode cX6_add 103 = .ok (.if_icmp .ge 36, 3) := by decide +kernel
theorem dX6_add_106 : decode cX6_add 106 = .ok (.aload_n 0, 1) := by decide +kernel
theorem dX6_add_107 : decode cX6_add 107 = .ok (.getfield 20, 3) := by decide +kernel
theorem dX6_add_110 : decode cX6_add 110 = .ok (.aload_n 0, 1) := by decide +kernel
theorem dX6_add_111 : decode cX6_add 111 = .ok (.getfield 29, 3) := by decide +kernel
theorem dX6_add_114 : decode cX6_add 114 = .ok (.iload 8, 2) := by decide +kernel
theorem dX6_add_116 : decode cX6_add 116 = .ok (.iaload, 1) := by decide +kernel
theorem dX6_add_117 : decode cX6_add 117 = .ok (.iaload, 1) := by decide +kernel
theorem dX6_add_118 : decode cX6_add 118 = .ok (.iload_n 3, 1) := by decide +kernel
theorem dX6_add_119 : decode cX6_add 119 = .ok (.if_icmp .gt 10, 3) := by decide +kernel
theorem dX6_add_122 : decode cX6_add 122 = .ok (.iload 8, 2) := by decide +kernel
theorem dX6_add_124 : decode cX6_add 124 = .ok (.iconst 1, 1) := by decide +kernel
theorem dX6_add_125 : decode cX6_add 125 = .ok (.iadd, 1) := by decide +kernel
theorem dX6_add_126 : decode cX6_add 126 = .ok (.goto 5, 3) := by decide +kernel
theorem dX6_add_129 : decode cX6_add 129 = .ok (.iload 7, 2) := by decide +kernel
theorem dX6_add_131 : decode cX6_add 131 = .ok (.istore 7, 2) := by decide +kernel
theorem dX6_add_133 : decode cX6_add 133 = .ok (.iinc 8 1, 3) := by decide +kernel
theorem dX6_add_136 : decode cX6_add 136 = .ok (.goto (-39), 3) := by decide +kernel
theorem dX6_add_139 : decode cX6_add 139 = .ok (.aload_n 0, 1) := by decide +kernel
theorem dX6_add_140 : decode cX6_add 140 = .ok (.getfield 91, 3) := by decide +kernel
theorem dX6_add_143 : decode cX6_add 143 = .ok (.istore 8, 2) := by decide +kernel
theorem dX6_add_145 : decode cX6_add 145 = .ok (.iload 8, 2) := by decide +kernel
theorem dX6_add_147 : decode cX6_add 147 = .ok (.iload 7, 2) := by decide +kernel
theorem dX6_add_149 : decode cX6_add 149 = .ok (.if_icmp .le 25, 3) := by decide +kernel
theorem dX6_add_152 : decode cX6_add 152 = .ok (.aload_n 0, 1) := by decide +kernel
theorem dX6_add_153 : decode cX6_add 153 = .ok (.getfield 29, 3) := by decide +kernel
theorem dX6_add_156 : decode cX6_add 156 = .ok (.iload 8, 2) := by decide +kernel
theorem dX6_add_158 : decode cX6_add 158 = .ok (.aload_n 0, 1) := by decide +kernel
theorem dX6_add_159 : decode cX6_add 159 = .ok (.getfield 29, 3) := by decide +kernel
theorem dX6_add_162 : decode cX6_add 162 = .ok (.iload 8, 2) := by decide +kernel
theorem dX6_add_164 : decode cX6_add 164 = .ok (.iconst 1, 1) := by decide +kernel
theorem dX6_add_165 : decode cX6_add 165 = .ok (.isub, 1) := by decide +kernel
theorem dX6_add_166 : decode cX6_add 166 = .ok (.iaload, 1) := by decide +kernel
theorem dX6_add_167 : decode cX6_add 167 = .ok (.iastore, 1) := by decide +kernel
theorem dX6_add_168 : decode cX6_add 168 = .ok (.iinc 8 (-1), 3) := by decide +kernel
theorem dX6_add_171 : decode cX6_add 171 = .ok (.goto (-26), 3) := by decide +kernel
theorem dX6_add_174 : decode cX6_add 174 = .ok (.aload_n 0, 1) := by decide +kernel
theorem dX6_add_175 : decode cX6_add 175 = .ok (.getfield 29, 3) := by decide +kernel
theorem dX6_add_178 : decode cX6_add 178 = .ok (.iload 7, 2) := by decide +kernel
theorem dX6_add_180 : decode cX6_add 180 = .ok (.iload_n 1, 1) := by decide +kernel
theorem dX6_add_181 : decode cX6_add 181 = .ok (.iastore, 1) := by decide +kernel
theorem dX6_add_182 : decode cX6_add 182 = .ok (.aload_n 0, 1) := by decide +kernel
theorem dX6_add_183 : decode cX6_add 183 = .ok (.dup, 1) := by decide +kernel
theorem dX6_add_184 : decode cX6_add 184 = .ok (.getfield 91, 3) := by decide +kernel
theorem dX6_add_187 : decode cX6_add 187 = .ok (.iconst 1, 1) := by decide +kernel
theorem dX6_add_188 : decode cX6_add 188 = .ok (.iadd, 1) := by decide +kernel
theorem dX6_add_189 : decode cX6_add 189 = .ok (.putfield 91, 3) := by decide +kernel
theorem dX6_add_192 : decode cX6_add 192 = .ok (.aload_n 0, 1) := by decide +kernel
theorem dX6_add_193 : decode cX6_add 193 = .ok (.getfield 16, 3) := by decide +kernel
theorem dX6_add_196 : decode cX6_add 196 = .ok (.iload_n 1, 1) := by decide +kernel
theorem dX6_add_197 : decode cX6_add 197 = .ok (.iload_n 2, 1) := by decide +kernel
theorem dX6_add_198 : decode cX6_add 198 = .ok (.iastore, 1) := by decide +kernel
theorem dX6_add_199 : decode cX6_add 199 = .ok (.aload_n 0, 1) := by decide +kernel
theorem dX6_add_200 : decode cX6_add 200 = .ok (.getfield 20, 3) := by decide +kernel
theorem dX6_add_203 : decode cX6_add 203 = .ok (.iload_n 1, 1) := by decide +kernel
theorem dX6_add_204 : decode cX6_add 204 = .ok (.iload_n 3, 1) := by decide +kernel
theorem dX6_add_205 : decode cX6_add 205 = .ok (.iastore, 1) := by decide +kernel
theorem dX6_add_206 : decode cX6_add 206 = .ok (.aload_n 0, 1) := by decide +kernel
theorem dX6_add_207 : decode cX6_add 207 = .ok (.getfield 23, 3) := by decide +kernel
theorem dX6_add_210 : decode cX6_add 210 = .ok (.iload_n 1, 1) := by decide +kernel
theorem dX6_add_211 : decode cX6_add 211 = .ok (.iload 4, 2) := by decide +kernel
theorem dX6_add_213 : decode cX6_add 213 = .ok (.iastore, 1) := by decide +kernel
theorem dX6_add_214 : decode cX6_add 214 = .ok (.aload_n 0, 1) := by decide +kernel
theorem dX6_add_215 : decode cX6_add 215 = .ok (.getfield 26, 3) := by decide +kernel
theorem dX6_add_218 : decode cX6_add 218 = .ok (.iload_n 1, 1) := by decide +kernel
theorem dX6_add_219 : decode cX6_add 219 = .ok (.iload 5, 2) := by decide +kernel
theorem dX6_add_221 : decode cX6_add 221 = .ok (.iastore, 1) := by decide +kernel
theorem dX6_add_222 : decode cX6_add 222 = .ok (.aload_n 0, 1) := by decide +kernel
theorem dX6_add_223 : decode cX6_add 223 = .ok (.invokevirtual 123, 3) := by decide +kernel
theorem dX6_add_226 : decode cX6_add 226 = .ok (.istore 8, 2) := by decide +kernel
theorem dX6_add_228 : decode cX6_add 228 = .ok (.iload 8, 2) := by decide +kernel
theorem dX6_add_230 : decode cX6_add 230 = .ok (.ifCond .eq 22, 3) := by decide +kernel
theorem dX6_add_233 : decode cX6_add 233 = .ok (.iload 8, 2) := by decide +kernel
theorem dX6_add_235 : decode cX6_add 235 = .ok (.ifCond .le 9, 3) := by decide +kernel
theorem dX6_add_238 : decode cX6_add 238 = .ok (.aload_n 0, 1) := by decide +kernel
theorem dX6_add_239 : decode cX6_add 239 = .ok (.iload 8, 2) := by decide +kernel
theorem dX6_add_241 : decode cX6_add 241 = .ok (.invokevirtual 127, 3) := by decide +kernel
theorem dX6_add_244 : decode cX6_add 244 = .ok (.aload_n 0, 1) := by decide +kernel
theorem dX6_add_245 : decode cX6_add 245 = .ok (.iload_n 1, 1) := by decide +kernel
theorem dX6_add_246 : decode cX6_add 246 = .ok (.invokevirtual 130, 3) := by decide +kernel
theorem dX6_add_249 : decode cX6_add 249 = .ok (.iload 8, 2) := by decide +kernel
theorem dX6_add_251 : decode cX6_add 251 = .ok (.ireturn, 1) := by decide +kernel
theorem dX6_add_252 : decode cX6_add 252 = .ok (.aload_n 0, 1) := by decide +kernel
theorem dX6_add_253 : decode cX6_add 253 = .ok (.getfield 7, 3) := by decide +kernel
theorem dX6_add_256 : decode cX6_add 256 = .ok (.iload_n 1, 1) := by decide +kernel
theorem dX6_add_257 : decode cX6_add 257 = .ok (.iconst 1, 1) := by decide +kernel
theorem dX6_add_258 : decode cX6_add 258 = .ok (.bastore, 1) := by decide +kernel
theorem dX6_add_259 : decode cX6_add 259 = .ok (.aload_n 0, 1) := by decide +kernel
theorem dX6_add_260 : decode cX6_add 260 = .ok (.getfield 13, 3) := by decide +kernel
theorem dX6_add_263 : decode cX6_add 263 = .ok (.iload_n 1, 1) := by decide +kernel
theorem dX6_add_264 : decode cX6_add 264 = .ok (.iconst 0, 1) := by decide +kernel
theorem dX6_add_265 : decode cX6_add 265 = .ok (.bastore, 1) := by decide +kernel
theorem dX6_add_266 : decode cX6_add 266 = .ok (.aload_n 0, 1) := by decide +kernel
theorem dX6_add_267 : decode cX6_add 267 = .ok (.getfield 38, 3) := by decide +kernel
theorem dX6_add_270 : decode cX6_add 270 = .ok (.iload_n 1, 1) := by decide +kernel
theorem dX6_add_271 : decode cX6_add 271 = .ok (.iconst 0, 1) := by decide +kernel
theorem dX6_add_272 : decode cX6_add 272 = .ok (.iastore, 1) := by decide +kernel
theorem dX6_add_273 : decode cX6_add 273 = .ok (.aload_n 0, 1) := by decide +kernel
theorem dX6_add_274 : decode cX6_add 274 = .ok (.getfield 41, 3) := by decide +kernel
theorem dX6_add_277 : decode cX6_add 277 = .ok (.iload_n 1, 1) := by decide +kernel
theorem dX6_add_278 : decode cX6_add 278 = .ok (.iconst 0, 1) := by decide +kernel
theorem dX6_add_279 : decode cX6_add 279 = .ok (.iastore, 1) := by decide +kernel
theorem dX6_add_280 : decode cX6_add 280 = .ok (.aload_n 0, 1) := by decide +kernel
theorem dX6_add_281 : decode cX6_add 281 = .ok (.getfield 44, 3) := by decide +kernel
theorem dX6_add_284 : decode cX6_add 284 = .ok (.iload_n 1, 1) := by decide +kernel
theorem dX6_add_285 : decode cX6_add 285 = .ok (.iconst 0, 1) := by decide +kernel
theorem dX6_add_286 : decode cX6_add 286 = .ok (.iastore, 1) := by decide +kernel
theorem dX6_add_287 : decode cX6_add 287 = .ok (.aload_n 0, 1) := by decide +kernel
theorem dX6_add_288 : decode cX6_add 288 = .ok (.getfield 47, 3) := by decide +kernel
theorem dX6_add_291 : decode cX6_add 291 = .ok (.iload_n 1, 1) := by decide +kernel
theorem dX6_add_292 : decode cX6_add 292 = .ok (.iconst 0, 1) := by decide +kernel
theorem dX6_add_293 : decode cX6_add 293 = .ok (.iastore, 1) := by decide +kernel
theorem dX6_add_294 : decode cX6_add 294 = .ok (.aload_n 0, 1) := by decide +kernel
theorem dX6_add_295 : decode cX6_add 295 = .ok (.getfield 50, 3) := by decide +kernel
theorem dX6_add_298 : decode cX6_add 298 = .ok (.iload_n 1, 1) := by decide +kernel
theorem dX6_add_299 : decode cX6_add 299 = .ok (.iconst 0, 1) := by decide +kernel
theorem dX6_add_300 : decode cX6_add 300 = .ok (.iastore, 1) := by decide +kernel
theorem dX6_add_301 : decode cX6_add 301 = .ok (.iconst 0, 1) := by decide +kernel
theorem dX6_add_302 : decode cX6_add 302 = .ok (.ireturn, 1) := by decide +kernel
theorem dX6_at_0 : decode cX6_at 0 = .ok (.bipush 8, 2) := by decide +kernel
theorem dX6_at_2 : decode cX6_at 2 = .ok (.iload_n 0, 1) := by decide +kernel
theorem dX6_at_3 : decode cX6_at 3 = .ok (.imul, 1) := by decide +kernel
theorem dX6_at_4 : decode cX6_at 4 = .ok (.iload_n 1, 1) := by decide +kernel
theorem dX6_at_5 : decode cX6_at 5 = .ok (.bipush 8, 2) := by decide +kernel
theorem dX6_at_7 : decode cX6_at 7 = .ok (.irem, 1) := by decide +kernel
theorem dX6_at_8 : decode cX6_at 8 = .ok (.iadd, 1) := by decide +kernel
theorem dX6_at_9 : decode cX6_at 9 = .ok (.ireturn, 1) := by decide +kernel
set_option maxRecDepth 20000 in
theorem ggX6_isPending_X6_at : GoodIn wsX6_isPending wsX6_at := goodIn_r _ [6] (by decide +kernel) (by decide +kernel)
set_option maxRecDepth 20000 in
theorem gX6_isPending_X6_at : GoodIn wsX6_isPending (va_wsS RX6 133 yX6_at wsX6_at) := goodIn_app (goodIn_of _ (by decide +kernel)) ggX6_isPending_X6_at
theorem dX6_isPending_0 : decode cX6_isPending 0 = .ok (.iload_n 2, 1) := by decide +kernel
theorem dX6_isPending_1 : decode cX6_isPending 1 = .ok (.iconst 1, 1) := by decide +kernel
theorem dX6_isPending_2 : decode cX6_isPending 2 = .ok (.if_icmp .lt 44, 3) := by decide +kernel
theorem dX6_isPending_5 : decode cX6_isPending 5 = .ok (.iload_n 2, 1) := by decide +kernel
theorem dX6_isPending_6 : decode cX6_isPending 6 = .ok (.aload_n 0, 1) := by decide +kernel
theorem dX6_isPending_7 : decode cX6_isPending 7 = .ok (.getfield 38, 3) := by decide +kernel
theorem dX6_isPending_10 : decode cX6_isPending 10 = .ok (.iload_n 1, 1) := by decide +kernel
theorem dX6_isPending_11 : decode cX6_isPending 11 = .ok (.iaload, 1) := by decide +kernel
theorem dX6_isPending_12 : decode cX6_isPending 12 = .ok (.if_icmp .gt 34, 3) := by decide +kernel
theorem dX6_isPending_15 : decode cX6_isPending 15 = .ok (.iload_n 2, 1) := by decide +kernel
theorem dX6_isPending_16 : decode cX6_isPending 16 = .ok (.aload_n 0, 1) := by decide +kernel
theorem dX6_isPending_17 : decode cX6_isPending 17 = .ok (.getfield 38, 3) := by decide +kernel
theorem dX6_isPending_20 : decode cX6_isPending 20 = .ok (.iload_n 1, 1) := by decide +kernel
theorem dX6_isPending_21 : decode cX6_isPending 21 = .ok (.iaload, 1) := by decide +kernel
theorem dX6_isPending_22 : decode cX6_isPending 22 = .ok (.bipush 8, 2) := by decide +kernel
theorem dX6_isPending_24 : decode cX6_isPending 24 = .ok (.isub, 1) := by decide +kernel
theorem dX6_isPending_25 : decode cX6_isPending 25 = .ok (.if_icmp .le 21, 3) := by decide +kernel
theorem dX6_isPending_28 : decode cX6_isPending 28 = .ok (.aload_n 0, 1) := by decide +kernel
theorem dX6_isPending_29 : decode cX6_isPending 29 = .ok (.getfield 62, 3) := by decide +kernel
theorem dX6_isPending_32 : decode cX6_isPending 32 = .ok (.iload_n 1, 1) := by decide +kernel
theorem dX6_isPending_33 : decode cX6_isPending 33 = .ok (.iload_n 2, 1) := by decide +kernel
theorem dX6_isPending_34 : decode cX6_isPending 34 = .ok (.invokestatic 133, 3) := by decide +kernel
theorem dX6_isPending_37 : decode cX6_isPending 37 = .ok (.iaload, 1) := by decide +kernel
theorem dX6_isPending_38 : decode cX6_isPending 38 = .ok (.iconst (-1), 1) := by decide +kernel
theorem dX6_isPending_39 : decode cX6_isPending 39 = .ok (.if_icmp .ne 7, 3) := by decide +kernel
theorem dX6_isPending_42 : decode cX6_isPending 42 = .ok (.iconst 1, 1) := by decide +kernel
theorem dX6_isPending_43 : decode cX6_isPending 43 = .ok (.goto 4, 3) := by decide +kernel
theorem dX6_isPending_46 : decode cX6_isPending 46 = .ok (.iconst 0, 1) := by decide +kernel
theorem dX6_isPending_47 : decode cX6_isPending 47 = .ok (.ireturn, 1) := by decide +kernel
set_option maxRecDepth 20000 in
theorem ggX6_pending_X6_isPending : GoodIn wsX6_pending wsX6_isPending := goodIn_r _ [6, 1, 7, 8, 9, 5, 10, 11, 12, 13, 14, 15, 16, 17, 18, 19, 20, 21, 22, 23, 24, 25, 26, 27, 28, 29, 30, 31, 32, 33, 34, 35, 36, 37, 38, 39, 40, 41, 42, 43, 44, 45] (by decide +kernel) (by decide +kernel)
set_option maxRecDepth 20000 in
theorem gX6_pending_X6_isPending : GoodIn wsX6_pending (wsV RX6 136 RX6 yX6_isPending wsX6_isPending) := goodIn_app (goodIn_of _ (by decide +kernel)) ggX6_pending_X6_isPending
theorem dX6_pending_0 : decode cX6_pending 0 = .ok (.iconst 0, 1) := by decide +kernel
theorem dX6_pending_1 : decode cX6_pending 1 = .ok (.istore_n 2, 1) := by decide +kernel
theorem dX6_pending_2 : decode cX6_pending 2 = .ok (.aload_n 0, 1) := by decide +kernel
theorem dX6_pending_3 : decode cX6_pending 3 = .ok (.getfield 38, 3) := by decide +kernel
theorem dX6_pending_6 : decode cX6_pending 6 = .ok (.iload_n 1, 1) := by decide +kernel
theorem dX6_pending_7 : decode cX6_pending 7 = .ok (.iaload, 1) := by decide +kernel
theorem dX6_pending_8 : decode cX6_pending 8 = .ok (.bipush 7, 2) := by decide +kernel
theorem dX6_pending_10 : decode cX6_pending 10 = .ok (.isub, 1) := by decide +kernel
theorem dX6_pending_11 : decode cX6_pending 11 = .ok (.istore_n 3, 1) := by decide +kernel
theorem dX6_pending_12 : decode cX6_pending 12 = .ok (.iload_n 3, 1) := by decide +kernel
theorem dX6_pending_13 : decode cX6_pending 13 = .ok (.aload_n 0, 1) := by decide +kernel
theorem dX6_pending_14 : decode cX6_pending 14 = .ok (.getfield 38, 3) := by decide +kernel
theorem dX6_pending_17 : decode cX6_pending 17 = .ok (.iload_n 1, 1) := by decide +kernel
theorem dX6_pending_18 : decode cX6_pending 18 = .ok (.iaload, 1) := by decide +kernel
theorem dX6_pending_19 : decode cX6_pending 19 = .ok (.if_icmp .gt 26, 3) := by decide +kernel
theorem dX6_pending_22 : decode cX6_pending 22 = .ok (.aload_n 0, 1) := by decide +kernel
theorem dX6_pending_23 : decode cX6_pending 23 = .ok (.iload_n 1, 1) := by decide +kernel
theorem dX6_pending_24 : decode cX6_pending 24 = .ok (.iload_n 3, 1) := by decide +kernel
theorem dX6_pending_25 : decode cX6_pending 25 = .ok (.invokevirtual 136, 3) := by decide +kernel
theorem dX6_pending_28 : decode cX6_pending 28 = .ok (.ifCond .eq 9, 3) := by decide +kernel
theorem dX6_pending_31 : decode cX6_pending 31 = .ok (.iload_n 2, 1) := by decide +kernel
theorem dX6_pending_32 : decode cX6_pending 32 = .ok (.iconst 1, 1) := by decide +kernel
theorem dX6_pending_33 : decode cX6_pending 33 = .ok (.iadd, 1) := by decide +kernel
theorem dX6_pending_34 : decode cX6_pending 34 = .ok (.goto 4, 3) := by decide +kernel
theorem dX6_pending_37 : decode cX6_pending 37 = .ok (.iload_n 2, 1) := by decide +kernel
theorem dX6_pending_38 : decode cX6_pending 38 = .ok (.istore_n 2, 1) := by decide +kernel
theorem dX6_pending_39 : decode cX6_pending 39 = .ok (.iinc 3 1, 3) := by decide +kernel
theorem dX6_pending_42 : decode cX6_pending 42 = .ok (.goto (-30), 3) := by decide +kernel
theorem dX6_pending_45 : decode cX6_pending 45 = .ok (.iload_n 2, 1) := by decide +kernel
theorem dX6_pending_46 : decode cX6_pending 46 = .ok (.ireturn, 1) := by decide +kernel
set_option maxRecDepth 20000 in
theorem ggX6_leave_X6_pending : GoodIn wsX6_leave wsX6_pending := goodIn_r _ [9, 10, 11, 12, 13, 8, 14, 15, 16, 17, 18, 25, 26, 27, 28, 29, 30, 31, 32, 33, 34, 35, 36, 37, 38, 39, 40, 41, 42, 43, 44, 45, 46, 47, 48, 49, 50, 51, 52, 53, 54, 55, 56, 57, 58, 59] (by decide +kernel) (by decide +kernel)
set_option maxRecDepth 20000 in
theorem gX6_leave_X6_pending : GoodIn wsX6_leave (wsV RX6 140 RX6 yX6_pending wsX6_pending) := goodIn_app (goodIn_of _ (by decide +kernel)) ggX6_leave_X6_pending
set_option maxRecDepth 20000 in
theorem ggX6_leave_X6_takeOut : GoodIn wsX6_leave wsX6_takeOut := goodIn_r _ [22, 23, 24, 25, 26, 27, 28, 29, 30, 31, 32, 33, 34, 35, 36, 37, 38, 39, 40, 41, 42, 43, 44, 45, 46, 47, 48, 49, 50, 51, 52, 53, 54, 55, 56, 57, 58, 59] (by decide +kernel) (by decide +kernel)
set_option maxRecDepth 20000 in
theorem gX6_leave_X6_takeOut : GoodIn wsX6_leave (wsV RX6 130 RX6 yX6_takeOut wsX6_takeOut) := goodIn_app (goodIn_of _ (by decide +kernel)) ggX6_leave_X6_takeOut
theorem dX6_leave_0 : decode cX6_leave 0 = .ok (.aload_n 0, 1) := by decide +kernel
theorem dX6_leave_1 : decode cX6_leave 1 = .ok (.getfield 7, 3) := by decide +kernel
theorem dX6_leave_4 : decode cX6_leave 4 = .ok (.iload_n 1, 1) := by decide +kernel
theorem dX6_leave_5 : decode cX6_leave 5 = .ok (.baload, 1) := by decide +kernel
theorem dX6_leave_6 : decode cX6_leave 6 = .ok (.ifCond .eq 20, 3) := by decide +kernel
theorem dX6_leave_9 : decode cX6_leave 9 = .ok (.aload_n 0, 1) := by decide +kernel
theorem dX6_leave_10 : decode cX6_leave 10 = .ok (.getfield 13, 3) := by decide +kernel
theorem dX6_leave_13 : decode cX6_leave 13 = .ok (.iload_n 1, 1) := by decide +kernel
theorem dX6_leave_14 : decode cX6_leave 14 = .ok (.baload, 1) := by decide +kernel
theorem dX6_leave_15 : decode cX6_leave 15 = .ok (.ifCond .eq 11, 3) := by decide +kernel
theorem dX6_leave_18 : decode cX6_leave 18 = .ok (.aload_n 0, 1) := by decide +kernel
theorem dX6_leave_19 : decode cX6_leave 19 = .ok (.iload_n 1, 1) := by decide +kernel
theorem dX6_leave_20 : decode cX6_leave 20 = .ok (.invokevirtual 140, 3) := by decide +kernel
theorem dX6_leave_23 : decode cX6_leave 23 = .ok (.ifCond .le 4, 3) := by decide +kernel
theorem dX6_leave_26 : decode cX6_leave 26 = .ok (.return_, 1) := by decide +kernel
theorem dX6_leave_27 : decode cX6_leave 27 = .ok (.aload_n 0, 1) := by decide +kernel
theorem dX6_leave_28 : decode cX6_leave 28 = .ok (.getfield 7, 3) := by decide +kernel
theorem dX6_leave_31 : decode cX6_leave 31 = .ok (.iload_n 1, 1) := by decide +kernel
theorem dX6_leave_32 : decode cX6_leave 32 = .ok (.iconst 0, 1) := by decide +kernel
theorem dX6_leave_33 : decode cX6_leave 33 = .ok (.bastore, 1) := by decide +kernel
theorem dX6_leave_34 : decode cX6_leave 34 = .ok (.aload_n 0, 1) := by decide +kernel
theorem dX6_leave_35 : decode cX6_leave 35 = .ok (.iload_n 1, 1) := by decide +kernel
theorem dX6_leave_36 : decode cX6_leave 36 = .ok (.invokevirtual 130, 3) := by decide +kernel
theorem dX6_leave_39 : decode cX6_leave 39 = .ok (.iconst 0, 1) := by decide +kernel
theorem dX6_leave_40 : decode cX6_leave 40 = .ok (.istore_n 2, 1) := by decide +kernel
theorem dX6_leave_41 : decode cX6_leave 41 = .ok (.iconst 0, 1) := by decide +kernel
theorem dX6_leave_42 : decode cX6_leave 42 = .ok (.istore_n 3, 1) := by decide +kernel
theorem dX6_leave_43 : decode cX6_leave 43 = .ok (.iload_n 3, 1) := by decide +kernel
theorem dX6_leave_44 : decode cX6_leave 44 = .ok (.aload_n 0, 1) := by decide +kernel
theorem dX6_leave_45 : decode cX6_leave 45 = .ok (.getfield 143, 3) := by decide +kernel
theorem dX6_leave_48 : decode cX6_leave 48 = .ok (.if_icmp .ge 39, 3) := by decide +kernel
theorem dX6_leave_51 : decode cX6_leave 51 = .ok (.aload_n 0, 1) := by decide +kernel
theorem dX6_leave_52 : decode cX6_leave 52 = .ok (.getfield 32, 3) := by decide +kernel
theorem dX6_leave_55 : decode cX6_leave 55 = .ok (.iload_n 2, 1) := by decide +kernel
theorem dX6_leave_56 : decode cX6_leave 56 = .ok (.aload_n 0, 1) := by decide +kernel
theorem dX6_leave_57 : decode cX6_leave 57 = .ok (.getfield 32, 3) := by decide +kernel
theorem dX6_leave_60 : decode cX6_leave 60 = .ok (.iload_n 3, 1) := by decide +kernel
theorem dX6_leave_61 : decode cX6_leave 61 = .ok (.iaload, 1) := by decide +kernel
theorem dX6_leave_62 : decode cX6_leave 62 = .ok (.iastore, 1) := by decide +kernel
theorem dX6_leave_63 : decode cX6_leave 63 = .ok (.aload_n 0, 1) := by decide +kernel
theorem dX6_leave_64 : decode cX6_leave 64 = .ok (.getfield 32, 3) := by decide +kernel
theorem dX6_leave_67 : decode cX6_leave 67 = .ok (.iload_n 3, 1) := by decide +kernel
theorem dX6_leave_68 : decode cX6_leave 68 = .ok (.iaload, 1) := by decide +kernel
theorem dX6_leave_69 : decode cX6_leave 69 = .ok (.iload_n 1, 1) := by decide +kernel
theorem dX6_leave_70 : decode cX6_leave 70 = .ok (.if_icmp .ne 7, 3) := by decide +kernel
theorem dX6_leave_73 : decode cX6_leave 73 = .ok (.iload_n 2, 1) := by decide +kernel
theorem dX6_leave_74 : decode cX6_leave 74 = .ok (.goto 6, 3) := by decide +kernel
theorem dX6_leave_77 : decode cX6_leave 77 = .ok (.iload_n 2, 1) := by decide +kernel
theorem dX6_leave_78 : decode cX6_leave 78 = .ok (.iconst 1, 1) := by decide +kernel
theorem dX6_leave_79 : decode cX6_leave 79 = .ok (.iadd, 1) := by decide +kernel
theorem dX6_leave_80 : decode cX6_leave 80 = .ok (.istore_n 2, 1) := by decide +kernel
theorem dX6_leave_81 : decode cX6_leave 81 = .ok (.iinc 3 1, 3) := by decide +kernel
theorem dX6_leave_84 : decode cX6_leave 84 = .ok (.goto (-41), 3) := by decide +kernel
theorem dX6_leave_87 : decode cX6_leave 87 = .ok (.aload_n 0, 1) := by decide +kernel
theorem dX6_leave_88 : decode cX6_leave 88 = .ok (.iload_n 2, 1) := by decide +kernel
theorem dX6_leave_89 : decode cX6_leave 89 = .ok (.putfield 143, 3) := by decide +kernel
theorem dX6_leave_92 : decode cX6_leave 92 = .ok (.return_, 1) := by decide +kernel
set_option maxRecDepth 20000 in
theorem ggX6_remove_X6_isKnown : GoodIn wsX6_remove wsX6_isKnown := goodIn_r _ [7, 2, 38, 39, 40, 41, 42, 43, 44, 45, 46, 47, 48, 49, 50, 51, 52, 53, 54, 55, 56, 57, 58, 59, 60, 61, 62, 63, 64, 65, 66, 67, 68, 69, 70, 71, 72] (by decide +kernel) (by decide +kernel)
set_option maxRecDepth 20000 in
theorem gX6_remove_X6_isKnown : GoodIn wsX6_remove (wsV RX6 115 RX6 yX6_isKnown wsX6_isKnown) := goodIn_app (goodIn_of _ (by decide +kernel)) ggX6_remove_X6_isKnown
set_option maxRecDepth 20000 in
theorem ggX6_remove_X6_goes : GoodIn wsX6_remove wsX6_goes := goodIn_r _ [11, 12, 38, 39, 40, 41, 42, 43, 44, 45, 46, 47, 48, 49, 50, 51, 52, 53, 54, 55, 56, 57, 58, 59, 60, 61, 62, 63, 64, 65, 66, 67, 68, 69, 70, 71, 72] (by decide +kernel) (by decide +kernel)
set_option maxRecDepth 20000 in
theorem gX6_remove_X6_goes : GoodIn wsX6_remove (wsV RX6 119 RX6 yX6_goes wsX6_goes) := goodIn_app (goodIn_of _ (by decide +kernel)) ggX6_remove_X6_goes
set_option maxRecDepth 20000 in
theorem ggX6_remove_X6_leave : GoodIn wsX6_remove wsX6_leave := goodIn_r _ [16, 2, 1, 17, 18, 19, 20, 21, 6, 22, 23, 24, 25, 26, 27, 28, 29, 30, 31, 32, 33, 34, 35, 36, 37, 38, 39, 40, 41, 42, 43, 44, 45, 46, 47, 48, 49, 50, 51, 52, 53, 54, 55, 56, 57, 58, 59, 60, 61, 62, 63, 64, 65, 66, 67, 68, 69, 70, 71, 72] (by decide +kernel) (by decide +kernel)
set_option maxRecDepth 20000 in
theorem gX6_remove_X6_leave : GoodIn wsX6_remove (wsV RX6 146 RX6 yX6_leave wsX6_leave) := goodIn_app (goodIn_of _ (by decide +kernel)) ggX6_remove_X6_leave
theorem dX6_remove_0 : decode cX6_remove 0 = .ok (.aload_n 0, 1) := by decide +kernel
theorem dX6_remove_1 : decode cX6_remove 1 = .ok (.aload_n 0, 1) := by decide +kernel
theorem dX6_remove_2 : decode cX6_remove 2 = .ok (.iload_n 1, 1) := by decide +kernel
theorem dX6_remove_3 : decode cX6_remove 3 = .ok (.invokevirtual 115, 3) := by decide +kernel
theorem dX6_remove_6 : decode cX6_remove 6 = .ok (.aload_n 0, 1) := by decide +kernel
theorem dX6_remove_7 : decode cX6_remove 7 = .ok (.iload_n 1, 1) := by decide +kernel
theorem dX6_remove_8 : decode cX6_remove 8 = .ok (.invokevirtual 115, 3) := by decide +kernel
theorem dX6_remove_11 : decode cX6_remove 11 = .ok (.ifCond .eq 12, 3) := by decide +kernel
theorem dX6_remove_14 : decode cX6_remove 14 = .ok (.aload_n 0, 1) := by decide +kernel
theorem dX6_remove_15 : decode cX6_remove 15 = .ok (.getfield 13, 3) := by decide +kernel
theorem dX6_remove_18 : decode cX6_remove 18 = .ok (.iload_n 1, 1) := by decide +kernel
theorem dX6_remove_19 : decode cX6_remove 19 = .ok (.baload, 1) := by decide +kernel
theorem dX6_remove_20 : decode cX6_remove 20 = .ok (.ifCond .ne 7, 3) := by decide +kernel
theorem dX6_remove_23 : decode cX6_remove 23 = .ok (.iconst 1, 1) := by decide +kernel
theorem dX6_remove_24 : decode cX6_remove 24 = .ok (.goto 4, 3) := by decide +kernel
theorem dX6_remove_27 : decode cX6_remove 27 = .ok (.iconst 0, 1) := by decide +kernel
theorem dX6_remove_28 : decode cX6_remove 28 = .ok (.iconst 1, 1) := by decide +kernel
theorem dX6_remove_29 : decode cX6_remove 29 = .ok (.invokevirtual 119, 3) := by decide +kernel
theorem dX6_remove_32 : decode cX6_remove 32 = .ok (.ifCond .ne 5, 3) := by decide +kernel
theorem dX6_remove_35 : decode cX6_remove 35 = .ok (.iconst 0, 1) := by decide +kernel
theorem dX6_remove_36 : decode cX6_remove 36 = .ok (.ireturn, 1) := by decide +kernel
theorem dX6_remove_37 : decode cX6_remove 37 = .ok (.aload_n 0, 1) := by decide +kernel
theorem dX6_remove_38 : decode cX6_remove 38 = .ok (.getfield 13, 3) := by decide +kernel
theorem dX6_remove_41 : decode cX6_remove 41 = .ok (.iload_n 1, 1) := by decide +kernel
theorem dX6_remove_42 : decode cX6_remove 42 = .ok (.iconst 1, 1) := by decide +kernel
theorem dX6_remove_43 : decode cX6_remove 43 = .ok (.bastore, 1) := by decide +kernel
theorem dX6_remove_44 : decode cX6_remove 44 = .ok (.aload_n 0, 1) := by decide +kernel
theorem dX6_remove_45 : decode cX6_remove 45 = .ok (.iload_n 1, 1) := by decide +kernel
theorem dX6_remove_46 : decode cX6_remove 46 = .ok (.invokevirtual 146, 3) := by decide +kernel
theorem dX6_remove_49 : decode cX6_remove 49 = .ok (.aload_n 0, 1) := by decide +kernel
theorem dX6_remove_50 : decode cX6_remove 50 = .ok (.getfield 7, 3) := by decide +kernel
theorem dX6_remove_53 : decode cX6_remove 53 = .ok (.iload_n 1, 1) := by decide +kernel
theorem dX6_remove_54 : decode cX6_remove 54 = .ok (.baload, 1) := by decide +kernel
theorem dX6_remove_55 : decode cX6_remove 55 = .ok (.ifCond .ne 7, 3) := by decide +kernel
theorem dX6_remove_58 : decode cX6_remove 58 = .ok (.iconst 1, 1) := by decide +kernel
theorem dX6_remove_59 : decode cX6_remove 59 = .ok (.goto 4, 3) := by decide +kernel
theorem dX6_remove_62 : decode cX6_remove 62 = .ok (.iconst 0, 1) := by decide +kernel
theorem dX6_remove_63 : decode cX6_remove 63 = .ok (.ireturn, 1) := by decide +kernel
theorem dX6_place_0 : decode cX6_place 0 = .ok (.iconst 0, 1) := by decide +kernel
theorem dX6_place_1 : decode cX6_place 1 = .ok (.istore_n 2, 1) := by decide +kernel
theorem dX6_place_2 : decode cX6_place 2 = .ok (.iload_n 2, 1) := by decide +kernel
theorem dX6_place_3 : decode cX6_place 3 = .ok (.aload_n 0, 1) := by decide +kernel
theorem dX6_place_4 : decode cX6_place 4 = .ok (.getfield 143, 3) := by decide +kernel
theorem dX6_place_7 : decode cX6_place 7 = .ok (.if_icmp .ge 21, 3) := by decide +kernel
theorem dX6_place_10 : decode cX6_place 10 = .ok (.aload_n 0, 1) := by decide +kernel
theorem dX6_place_11 : decode cX6_place 11 = .ok (.getfield 32, 3) := by decide +kernel
theorem dX6_place_14 : decode cX6_place 14 = .ok (.iload_n 2, 1) := by decide +kernel
theorem dX6_place_15 : decode cX6_place 15 = .ok (.iaload, 1) := by decide +kernel
theorem dX6_place_16 : decode cX6_place 16 = .ok (.iload_n 1, 1) := by decide +kernel
theorem dX6_place_17 : decode cX6_place 17 = .ok (.if_icmp .ne 5, 3) := by decide +kernel
theorem dX6_place_20 : decode cX6_place 20 = .ok (.iload_n 2, 1) := by decide +kernel
theorem dX6_place_21 : decode cX6_place 21 = .ok (.ireturn, 1) := by decide +kernel
theorem dX6_place_22 : decode cX6_place 22 = .ok (.iinc 2 1, 3) := by decide +kernel
theorem dX6_place_25 : decode cX6_place 25 = .ok (.goto (-23), 3) := by decide +kernel
theorem dX6_place_28 : decode cX6_place 28 = .ok (.iconst (-1), 1) := by decide +kernel
theorem dX6_place_29 : decode cX6_place 29 = .ok (.ireturn, 1) := by decide +kernel
set_option maxRecDepth 20000 in
theorem ggX6_release_X6_isKnown : GoodIn wsX6_release wsX6_isKnown := goodIn_r _ [18, 19, 45, 46, 47, 48, 49, 50, 51, 52, 53, 54, 55, 56, 57, 58, 59, 60, 61, 62, 63, 64, 65, 66, 67, 68, 69, 70, 71, 72, 73, 74, 75, 76, 77, 78, 79] (by decide +kernel) (by decide +kernel)
set_option maxRecDepth 20000 in
theorem gX6_release_X6_isKnown : GoodIn wsX6_release (wsV RX6 115 RX6 yX6_isKnown wsX6_isKnown) := goodIn_app (goodIn_of _ (by decide +kernel)) ggX6_release_X6_isKnown
set_option maxRecDepth 20000 in
theorem ggX6_release_X6_place : GoodIn wsX6_release wsX6_place := goodIn_r _ [23, 24, 25, 45, 46, 47, 48, 49, 50, 51, 52, 53, 54, 55, 56, 57, 58, 59, 60, 61, 62, 63, 64, 65, 66, 67, 68, 69, 70, 71, 72, 73, 74, 75, 76, 77, 78, 79] (by decide +kernel) (by decide +kernel)
set_option maxRecDepth 20000 in
theorem gX6_release_X6_place : GoodIn wsX6_release (wsV RX6 149 RX6 yX6_place wsX6_place) := goodIn_app (goodIn_of _ (by decide +kernel)) ggX6_release_X6_place
set_option maxRecDepth 20000 in
theorem ggX6_release_X6_within : GoodIn wsX6_release wsX6_within := goodIn_r _ [28] (by decide +kernel) (by decide +kernel)
set_option maxRecDepth 20000 in
theorem gX6_release_X6_within : GoodIn wsX6_release (va_wsS RX6 111 yX6_within wsX6_within) := goodIn_app (goodIn_of _ (by decide +kernel)) ggX6_release_X6_within
set_option maxRecDepth 20000 in
theorem ggX6_release_X6_pending : GoodIn wsX6_release wsX6_pending := goodIn_r _ [32, 8, 33, 34, 35, 17, 36, 12, 37, 38, 39, 45, 46, 47, 48, 49, 50, 51, 52, 53, 54, 55, 56, 57, 58, 59, 60, 61, 62, 63, 64, 65, 66, 67, 68, 69, 70, 71, 72, 73, 74, 75, 76, 77, 78, 79] (by decide +kernel) (by decide +kernel)
set_option maxRecDepth 20000 in
theorem gX6_release_X6_pending : GoodIn wsX6_release (wsV RX6 140 RX6 yX6_pending wsX6_pending) := goodIn_app (goodIn_of _ (by decide +kernel)) ggX6_release_X6_pending
set_option maxRecDepth 20000 in
theorem ggX6_release_X6_goes : GoodIn wsX6_release wsX6_goes := goodIn_r _ [43, 44, 45, 46, 47, 48, 49, 50, 51, 52, 53, 54, 55, 56, 57, 58, 59, 60, 61, 62, 63, 64, 65, 66, 67, 68, 69, 70, 71, 72, 73, 74, 75, 76, 77, 78, 79] (by decide +kernel) (by decide +kernel)
set_option maxRecDepth 20000 in
theorem gX6_release_X6_goes : GoodIn wsX6_release (wsV RX6 119 RX6 yX6_goes wsX6_goes) := goodIn_app (goodIn_of _ (by decide +kernel)) ggX6_release_X6_goes
set_option maxRecDepth 20000 in
theorem ggX6_release_X6_at : GoodIn wsX6_release wsX6_at := goodIn_r _ [39] (by decide +kernel) (by decide +kernel)
set_option maxRecDepth 20000 in
theorem gX6_release_X6_at : GoodIn wsX6_release (va_wsS RX6 133 yX6_at wsX6_at) := goodIn_app (goodIn_of _ (by decide +kernel)) ggX6_release_X6_at
theorem dX6_release_0 : decode cX6_release 0 = .ok (.aload_n 0, 1) := by decide +kernel
theorem dX6_release_1 : decode cX6_release 1 = .ok (.iload_n 1, 1) := by decide +kernel
theorem dX6_release_2 : decode cX6_release 2 = .ok (.invokevirtual 115, 3) := by decide +kernel
theorem dX6_release_5 : decode cX6_release 5 = .ok (.ifCond .eq 16, 3) := by decide +kernel
theorem dX6_release_8 : decode cX6_release 8 = .ok (.aload_n 0, 1) := by decide +kernel
theorem dX6_release_9 : decode cX6_release 9 = .ok (.iload_n 1, 1) := by decide +kernel
theorem dX6_release_10 : decode cX6_release 10 = .ok (.invokevirtual 149, 3) := by decide +kernel
theorem dX6_release_13 : decode cX6_release 13 = .ok (.iconst (-1), 1) := by decide +kernel
theorem dX6_release_14 : decode cX6_release 14 = .ok (.if_icmp .eq 7, 3) := by decide +kernel
theorem dX6_release_17 : decode cX6_release 17 = .ok (.iconst 1, 1) := by decide +kernel
theorem dX6_release_18 : decode cX6_release 18 = .ok (.goto 4, 3) := by decide +kernel
theorem dX6_release_21 : decode cX6_release 21 = .ok (.iconst 0, 1) := by decide +kernel
theorem dX6_release_22 : decode cX6_release 22 = .ok (.istore_n 3, 1) := by decide +kernel
theorem dX6_release_23 : decode cX6_release 23 = .ok (.iload_n 3, 1) := by decide +kernel
theorem dX6_release_24 : decode cX6_release 24 = .ok (.ifCond .eq 39, 3) := by decide +kernel
theorem dX6_release_27 : decode cX6_release 27 = .ok (.iload_n 2, 1) := by decide +kernel
theorem dX6_release_28 : decode cX6_release 28 = .ok (.iconst 1, 1) := by decide +kernel
theorem dX6_release_29 : decode cX6_release 29 = .ok (.aload_n 0, 1) := by decide +kernel
theorem dX6_release_30 : decode cX6_release 30 = .ok (.getfield 26, 3) := by decide +kernel
theorem dX6_release_33 : decode cX6_release 33 = .ok (.iload_n 1, 1) := by decide +kernel
theorem dX6_release_34 : decode cX6_release 34 = .ok (.iaload, 1) := by decide +kernel
theorem dX6_release_35 : decode cX6_release 35 = .ok (.ifCond .le 12, 3) := by decide +kernel
theorem dX6_release_38 : decode cX6_release 38 = .ok (.aload_n 0, 1) := by decide +kernel
theorem dX6_release_39 : decode cX6_release 39 = .ok (.getfield 26, 3) := by decide +kernel
theorem dX6_release_42 : decode cX6_release 42 = .ok (.iload_n 1, 1) := by decide +kernel
theorem dX6_release_43 : decode cX6_release 43 = .ok (.iaload, 1) := by decide +kernel
theorem dX6_release_44 : decode cX6_release 44 = .ok (.goto 9, 3) := by decide +kernel
theorem dX6_release_47 : decode cX6_release 47 = .ok (.aload_n 0, 1) := by decide +kernel
theorem dX6_release_48 : decode cX6_release 48 = .ok (.getfield 23, 3) := by decide +kernel
theorem dX6_release_51 : decode cX6_release 51 = .ok (.iload_n 1, 1) := by decide +kernel
theorem dX6_release_52 : decode cX6_release 52 = .ok (.iaload, 1) := by decide +kernel
theorem dX6_release_53 : decode cX6_release 53 = .ok (.invokestatic 111, 3) := by decide +kernel
theorem dX6_release_56 : decode cX6_release 56 = .ok (.ifCond .eq 7, 3) := by decide +kernel
theorem dX6_release_59 : decode cX6_release 59 = .ok (.iconst 1, 1) := by decide +kernel
theorem dX6_release_60 : decode cX6_release 60 = .ok (.goto 4, 3) := by decide +kernel
theorem dX6_release_63 : decode cX6_release 63 = .ok (.iconst 0, 1) := by decide +kernel
theorem dX6_release_64 : decode cX6_release 64 = .ok (.istore 4, 2) := by decide +kernel
theorem dX6_release_66 : decode cX6_release 66 = .ok (.aload_n 0, 1) := by decide +kernel
theorem dX6_release_67 : decode cX6_release 67 = .ok (.iload_n 3, 1) := by decide +kernel
theorem dX6_release_68 : decode cX6_release 68 = .ok (.iload 4, 2) := by decide +kernel
theorem dX6_release_70 : decode cX6_release 70 = .ok (.iload_n 3, 1) := by decide +kernel
theorem dX6_release_71 : decode cX6_release 71 = .ok (.ifCond .eq 38, 3) := by decide +kernel
theorem dX6_release_74 : decode cX6_release 74 = .ok (.aload_n 0, 1) := by decide +kernel
theorem dX6_release_75 : decode cX6_release 75 = .ok (.getfield 13, 3) := by decide +kernel
theorem dX6_release_78 : decode cX6_release 78 = .ok (.iload_n 1, 1) := by decide +kernel
theorem dX6_release_79 : decode cX6_release 79 = .ok (.baload, 1) := by decide +kernel
theorem dX6_release_80 : decode cX6_release 80 = .ok (.ifCond .ne 29, 3) := by decide +kernel
theorem dX6_release_83 : decode cX6_release 83 = .ok (.aload_n 0, 1) := by decide +kernel
theorem dX6_release_84 : decode cX6_release 84 = .ok (.getfield 152, 3) := by decide +kernel
theorem dX6_release_87 : decode cX6_release 87 = .ok (.aload_n 0, 1) := by decide +kernel
theorem dX6_release_88 : decode cX6_release 88 = .ok (.getfield 50, 3) := by decide +kernel
theorem dX6_release_91 : decode cX6_release 91 = .ok (.iload_n 1, 1) := by decide +kernel
theorem dX6_release_92 : decode cX6_release 92 = .ok (.iaload, 1) := by decide +kernel
theorem dX6_release_93 : decode cX6_release 93 = .ok (.if_icmp .lt 16, 3) := by decide +kernel
theorem dX6_release_96 : decode cX6_release 96 = .ok (.aload_n 0, 1) := by decide +kernel
theorem dX6_release_97 : decode cX6_release 97 = .ok (.iload_n 1, 1) := by decide +kernel
theorem dX6_release_98 : decode cX6_release 98 = .ok (.invokevirtual 140, 3) := by decide +kernel
theorem dX6_release_101 : decode cX6_release 101 = .ok (.iconst 4, 1) := by decide +kernel
theorem dX6_release_102 : decode cX6_release 102 = .ok (.if_icmp .ge 7, 3) := by decide +kernel
theorem dX6_release_105 : decode cX6_release 105 = .ok (.iconst 1, 1) := by decide +kernel
theorem dX6_release_106 : decode cX6_release 106 = .ok (.goto 4, 3) := by decide +kernel
theorem dX6_release_109 : decode cX6_release 109 = .ok (.iconst 0, 1) := by decide +kernel
theorem dX6_release_110 : decode cX6_release 110 = .ok (.invokevirtual 119, 3) := by decide +kernel
theorem dX6_release_113 : decode cX6_release 113 = .ok (.ifCond .ne 5, 3) := by decide +kernel
theorem dX6_release_116 : decode cX6_release 116 = .ok (.iconst 0, 1) := by decide +kernel
theorem dX6_release_117 : decode cX6_release 117 = .ok (.ireturn, 1) := by decide +kernel
theorem dX6_release_118 : decode cX6_release 118 = .ok (.aload_n 0, 1) := by decide +kernel
theorem dX6_release_119 : decode cX6_release 119 = .ok (.getfield 155, 3) := by decide +kernel
theorem dX6_release_122 : decode cX6_release 122 = .ok (.iconst 1, 1) := by decide +kernel
theorem dX6_release_123 : decode cX6_release 123 = .ok (.if_icmp .ne 24, 3) := by decide +kernel
theorem dX6_release_126 : decode cX6_release 126 = .ok (.aload_n 0, 1) := by decide +kernel
theorem dX6_release_127 : decode cX6_release 127 = .ok (.getfield 26, 3) := by decide +kernel
theorem dX6_release_130 : decode cX6_release 130 = .ok (.iload_n 1, 1) := by decide +kernel
theorem dX6_release_131 : decode cX6_release 131 = .ok (.iaload, 1) := by decide +kernel
theorem dX6_release_132 : decode cX6_release 132 = .ok (.ifCond .ne 15, 3) := by decide +kernel
theorem dX6_release_135 : decode cX6_release 135 = .ok (.aload_n 0, 1) := by decide +kernel
theorem dX6_release_136 : decode cX6_release 136 = .ok (.getfield 41, 3) := by decide +kernel
theorem dX6_release_139 : decode cX6_release 139 = .ok (.iload_n 1, 1) := by decide +kernel
theorem dX6_release_140 : decode cX6_release 140 = .ok (.dup2, 1) := by decide +kernel
theorem dX6_release_141 : decode cX6_release 141 = .ok (.iaload, 1) := by decide +kernel
theorem dX6_release_142 : decode cX6_release 142 = .ok (.iconst 1, 1) := by decide +kernel
theorem dX6_release_143 : decode cX6_release 143 = .ok (.iadd, 1) := by decide +kernel
theorem dX6_release_144 : decode cX6_release 144 = .ok (.iastore, 1) := by decide +kernel
theorem dX6_release_145 : decode cX6_release 145 = .ok (.iconst 0, 1) := by decide +kernel
theorem dX6_release_146 : decode cX6_release 146 = .ok (.ireturn, 1) := by decide +kernel
theorem dX6_release_147 : decode cX6_release 147 = .ok (.aload_n 0, 1) := by decide +kernel
theorem dX6_release_148 : decode cX6_release 148 = .ok (.getfield 38, 3) := by decide +kernel
theorem dX6_release_151 : decode cX6_release 151 = .ok (.iload_n 1, 1) := by decide +kernel
theorem dX6_release_152 : decode cX6_release 152 = .ok (.dup2, 1) := by decide +kernel
theorem dX6_release_153 : decode cX6_release 153 = .ok (.iaload, 1) := by decide +kernel
theorem dX6_release_154 : decode cX6_release 154 = .ok (.iconst 1, 1) := by decide +kernel
theorem dX6_release_155 : decode cX6_release 155 = .ok (.iadd, 1) := by decide +kernel
theorem dX6_release_156 : decode cX6_release 156 = .ok (.iastore, 1) := by decide +kernel
theorem dX6_release_157 : decode cX6_release 157 = .ok (.iload_n 1, 1) := by decide +kernel
theorem dX6_release_158 : decode cX6_release 158 = .ok (.aload_n 0, 1) := by decide +kernel
theorem dX6_release_159 : decode cX6_release 159 = .ok (.getfield 38, 3) := by decide +kernel
theorem dX6_release_162 : decode cX6_release 162 = .ok (.iload_n 1, 1) := by decide +kernel
theorem dX6_release_163 : decode cX6_release 163 = .ok (.iaload, 1) := by decide +kernel
theorem dX6_release_164 : decode cX6_release 164 = .ok (.invokestatic 133, 3) := by decide +kernel
theorem dX6_release_167 : decode cX6_release 167 = .ok (.istore 5, 2) := by decide +kernel
theorem dX6_release_169 : decode cX6_release 169 = .ok (.aload_n 0, 1) := by decide +kernel
theorem dX6_release_170 : decode cX6_release 170 = .ok (.getfield 53, 3) := by decide +kernel
theorem dX6_release_173 : decode cX6_release 173 = .ok (.iload 5, 2) := by decide +kernel
theorem dX6_release_175 : decode cX6_release 175 = .ok (.aload_n 0, 1) := by decide +kernel
theorem dX6_release_176 : decode cX6_release 176 = .ok (.getfield 152, 3) := by decide +kernel
theorem dX6_release_179 : decode cX6_release 179 = .ok (.iastore, 1) := by decide +kernel
theorem dX6_release_180 : decode cX6_release 180 = .ok (.aload_n 0, 1) := by decide +kernel
theorem dX6_release_181 : decode cX6_release 181 = .ok (.getfield 56, 3) := by decide +kernel
theorem dX6_release_184 : decode cX6_release 184 = .ok (.iload 5, 2) := by decide +kernel
theorem dX6_release_186 : decode cX6_release 186 = .ok (.iload_n 2, 1) := by decide +kernel
theorem dX6_release_187 : decode cX6_release 187 = .ok (.iastore, 1) := by decide +kernel
theorem dX6_release_188 : decode cX6_release 188 = .ok (.aload_n 0, 1) := by decide +kernel
theorem dX6_release_189 : decode cX6_release 189 = .ok (.getfield 59, 3) := by decide +kernel
theorem dX6_release_192 : decode cX6_release 192 = .ok (.iload 5, 2) := by decide +kernel
theorem dX6_release_194 : decode cX6_release 194 = .ok (.iconst 0, 1) := by decide +kernel
theorem dX6_release_195 : decode cX6_release 195 = .ok (.iastore, 1) := by decide +kernel
theorem dX6_release_196 : decode cX6_release 196 = .ok (.aload_n 0, 1) := by decide +kernel
theorem dX6_release_197 : decode cX6_release 197 = .ok (.getfield 62, 3) := by decide +kernel
theorem dX6_release_200 : decode cX6_release 200 = .ok (.iload 5, 2) := by decide +kernel
theorem dX6_release_202 : decode cX6_release 202 = .ok (.iconst (-1), 1) := by decide +kernel
theorem dX6_release_203 : decode cX6_release 203 = .ok (.iastore, 1) := by decide +kernel
theorem dX6_release_204 : decode cX6_release 204 = .ok (.aload_n 0, 1) := by decide +kernel
theorem dX6_release_205 : decode cX6_release 205 = .ok (.getfield 50, 3) := by decide +kernel
theorem dX6_release_208 : decode cX6_release 208 = .ok (.iload_n 1, 1) := by decide +kernel
theorem dX6_release_209 : decode cX6_release 209 = .ok (.aload_n 0, 1) := by decide +kernel
theorem dX6_release_210 : decode cX6_release 210 = .ok (.getfield 152, 3) := by decide +kernel
theorem dX6_release_213 : decode cX6_release 213 = .ok (.aload_n 0, 1) := by decide +kernel
theorem dX6_release_214 : decode cX6_release 214 = .ok (.getfield 16, 3) := by decide +kernel
theorem dX6_release_217 : decode cX6_release 217 = .ok (.iload_n 1, 1) := by decide +kernel
theorem dX6_release_218 : decode cX6_release 218 = .ok (.iaload, 1) := by decide +kernel
theorem dX6_release_219 : decode cX6_release 219 = .ok (.iadd, 1) := by decide +kernel
theorem dX6_release_220 : decode cX6_release 220 = .ok (.iastore, 1) := by decide +kernel
theorem dX6_release_221 : decode cX6_release 221 = .ok (.aload_n 0, 1) := by decide +kernel
theorem dX6_release_222 : decode cX6_release 222 = .ok (.getfield 38, 3) := by decide +kernel
theorem dX6_release_225 : decode cX6_release 225 = .ok (.iload_n 1, 1) := by decide +kernel
theorem dX6_release_226 : decode cX6_release 226 = .ok (.iaload, 1) := by decide +kernel
theorem dX6_release_227 : decode cX6_release 227 = .ok (.ireturn, 1) := by decide +kernel
set_option maxRecDepth 20000 in
theorem ggX6_giveUp_X6_isPending : GoodIn wsX6_giveUp wsX6_isPending := goodIn_r _ [10, 1, 4, 11, 12, 9, 13, 31, 32, 33, 34, 35, 36, 37, 38, 39, 40, 41, 42, 43, 44, 45, 46, 47, 48, 49, 50, 51, 52, 53, 54, 55, 56, 57, 58, 59, 60, 61, 62, 63, 64, 65] (by decide +kernel) (by decide +kernel)
set_option maxRecDepth 20000 in
theorem gX6_giveUp_X6_isPending : GoodIn wsX6_giveUp (wsV RX6 136 RX6 yX6_isPending wsX6_isPending) := goodIn_app (goodIn_of _ (by decide +kernel)) ggX6_giveUp_X6_isPending
set_option maxRecDepth 20000 in
theorem ggX6_giveUp_X6_at : GoodIn wsX6_giveUp wsX6_at := goodIn_r _ [13] (by decide +kernel) (by decide +kernel)
set_option maxRecDepth 20000 in
theorem gX6_giveUp_X6_at : GoodIn wsX6_giveUp (va_wsS RX6 133 yX6_at wsX6_at) := goodIn_app (goodIn_of _ (by decide +kernel)) ggX6_giveUp_X6_at
set_option maxRecDepth 20000 in
theorem ggX6_giveUp_X6_leave : GoodIn wsX6_giveUp wsX6_leave := goodIn_r _ [17, 2, 18, 19, 20, 21, 22, 23, 9, 24, 1, 6, 7, 8, 10, 4, 11, 12, 13, 25, 26, 27, 28, 29, 30, 31, 32, 33, 34, 35, 36, 37, 38, 39, 40, 41, 42, 43, 44, 45, 46, 47, 48, 49, 50, 51, 52, 53, 54, 55, 56, 57, 58, 59, 60, 61, 62, 63, 64, 65] (by decide +kernel) (by decide +kernel)
set_option maxRecDepth 20000 in
theorem gX6_giveUp_X6_leave : GoodIn wsX6_giveUp (wsV RX6 146 RX6 yX6_leave wsX6_leave) := goodIn_app (goodIn_of _ (by decide +kernel)) ggX6_giveUp_X6_leave
theorem dX6_giveUp_0 : decode cX6_giveUp 0 = .ok (.iconst 1, 1) := by decide +kernel
theorem dX6_giveUp_1 : decode cX6_giveUp 1 = .ok (.istore_n 1, 1) := by decide +kernel
theorem dX6_giveUp_2 : decode cX6_giveUp 2 = .ok (.iload_n 1, 1) := by decide +kernel
theorem dX6_giveUp_3 : decode cX6_giveUp 3 = .ok (.bipush 13, 2) := by decide +kernel
theorem dX6_giveUp_5 : decode cX6_giveUp 5 = .ok (.if_icmp .ge 84, 3) := by decide +kernel
theorem dX6_giveUp_8 : decode cX6_giveUp 8 = .ok (.aload_n 0, 1) := by decide +kernel
theorem dX6_giveUp_9 : decode cX6_giveUp 9 = .ok (.getfield 38, 3) := by decide +kernel
theorem dX6_giveUp_12 : decode cX6_giveUp 12 = .ok (.iload_n 1, 1) := by decide +kernel
theorem dX6_giveUp_13 : decode cX6_giveUp 13 = .ok (.iaload, 1) := by decide +kernel
theorem dX6_giveUp_14 : decode cX6_giveUp 14 = .ok (.bipush 7, 2) := by decide +kernel
theorem dX6_giveUp_16 : decode cX6_giveUp 16 = .ok (.isub, 1) := by decide +kernel
theorem dX6_giveUp_17 : decode cX6_giveUp 17 = .ok (.istore_n 2, 1) := by decide +kernel
theorem dX6_giveUp_18 : decode cX6_giveUp 18 = .ok (.iload_n 2, 1) := by decide +kernel
theorem dX6_giveUp_19 : decode cX6_giveUp 19 = .ok (.aload_n 0, 1) := by decide +kernel
theorem dX6_giveUp_20 : decode cX6_giveUp 20 = .ok (.getfield 38, 3) := by decide +kernel
theorem dX6_giveUp_23 : decode cX6_giveUp 23 = .ok (.iload_n 1, 1) := by decide +kernel
theorem dX6_giveUp_24 : decode cX6_giveUp 24 = .ok (.iaload, 1) := by decide +kernel
theorem dX6_giveUp_25 : decode cX6_giveUp 25 = .ok (.if_icmp .gt 58, 3) := by decide +kernel
theorem dX6_giveUp_28 : decode cX6_giveUp 28 = .ok (.aload_n 0, 1) := by decide +kernel
theorem dX6_giveUp_29 : decode cX6_giveUp 29 = .ok (.getfield 7, 3) := by decide +kernel
theorem dX6_giveUp_32 : decode cX6_giveUp 32 = .ok (.iload_n 1, 1) := by decide +kernel
theorem dX6_giveUp_33 : decode cX6_giveUp 33 = .ok (.baload, 1) := by decide +kernel
theorem dX6_giveUp_34 : decode cX6_giveUp 34 = .ok (.ifCond .eq 49, 3) := by decide +kernel
theorem dX6_giveUp_37 : decode cX6_giveUp 37 = .ok (.aload_n 0, 1) := by decide +kernel
theorem dX6_giveUp_38 : decode cX6_giveUp 38 = .ok (.getfield 26, 3) := by decide +kernel
theorem dX6_giveUp_41 : decode cX6_giveUp 41 = .ok (.iload_n 1, 1) := by decide +kernel
theorem dX6_giveUp_42 : decode cX6_giveUp 42 = .ok (.iaload, 1) := by decide +kernel
theorem dX6_giveUp_43 : decode cX6_giveUp 43 = .ok (.ifCond .ne 40, 3) := by decide +kernel
theorem dX6_giveUp_46 : decode cX6_giveUp 46 = .ok (.aload_n 0, 1) := by decide +kernel
theorem dX6_giveUp_47 : decode cX6_giveUp 47 = .ok (.iload_n 1, 1) := by decide +kernel
theorem dX6_giveUp_48 : decode cX6_giveUp 48 = .ok (.iload_n 2, 1) := by decide +kernel
theorem dX6_giveUp_49 : decode cX6_giveUp 49 = .ok (.invokevirtual 136, 3) := by decide +kernel
theorem dX6_giveUp_52 : decode cX6_giveUp 52 = .ok (.ifCond .eq 25, 3) := by decide +kernel
theorem dX6_giveUp_55 : decode cX6_giveUp 55 = .ok (.aload_n 0, 1) := by decide +kernel
theorem dX6_giveUp_56 : decode cX6_giveUp 56 = .ok (.getfield 62, 3) := by decide +kernel
theorem dX6_giveUp_59 : decode cX6_giveUp 59 = .ok (.iload_n 1, 1) := by decide +kernel
theorem dX6_giveUp_60 : decode cX6_giveUp 60 = .ok (.iload_n 2, 1) := by decide +kernel
theorem dX6_giveUp_61 : decode cX6_giveUp 61 = .ok (.invokestatic 133, 3) := by decide +kernel
theorem dX6_giveUp_64 : decode cX6_giveUp 64 = .ok (.bipush (-2), 2) := by decide +kernel
theorem dX6_giveUp_66 : decode cX6_giveUp 66 = .ok (.iastore, 1) := by decide +kernel
theorem dX6_giveUp_67 : decode cX6_giveUp 67 = .ok (.aload_n 0, 1) := by decide +kernel
theorem dX6_giveUp_68 : decode cX6_giveUp 68 = .ok (.dup, 1) := by decide +kernel
theorem dX6_giveUp_69 : decode cX6_giveUp 69 = .ok (.getfield 158, 3) := by decide +kernel
theorem dX6_giveUp_72 : decode cX6_giveUp 72 = .ok (.iconst 1, 1) := by decide +kernel
theorem dX6_giveUp_73 : decode cX6_giveUp 73 = .ok (.iadd, 1) := by decide +kernel
theorem dX6_giveUp_74 : decode cX6_giveUp 74 = .ok (.putfield 158, 3) := by decide +kernel
theorem dX6_giveUp_77 : decode cX6_giveUp 77 = .ok (.iinc 2 1, 3) := by decide +kernel
theorem dX6_giveUp_80 : decode cX6_giveUp 80 = .ok (.goto (-62), 3) := by decide +kernel
theorem dX6_giveUp_83 : decode cX6_giveUp 83 = .ok (.iinc 1 1, 3) := by decide +kernel
theorem dX6_giveUp_86 : decode cX6_giveUp 86 = .ok (.goto (-84), 3) := by decide +kernel
theorem dX6_giveUp_89 : decode cX6_giveUp 89 = .ok (.iconst 1, 1) := by decide +kernel
theorem dX6_giveUp_90 : decode cX6_giveUp 90 = .ok (.istore_n 1, 1) := by decide +kernel
theorem dX6_giveUp_91 : decode cX6_giveUp 91 = .ok (.iload_n 1, 1) := by decide +kernel
theorem dX6_giveUp_92 : decode cX6_giveUp 92 = .ok (.bipush 13, 2) := by decide +kernel
theorem dX6_giveUp_94 : decode cX6_giveUp 94 = .ok (.if_icmp .ge 23, 3) := by decide +kernel
theorem dX6_giveUp_97 : decode cX6_giveUp 97 = .ok (.aload_n 0, 1) := by decide +kernel
theorem dX6_giveUp_98 : decode cX6_giveUp 98 = .ok (.getfield 26, 3) := by decide +kernel
theorem dX6_giveUp_101 : decode cX6_giveUp 101 = .ok (.iload_n 1, 1) := by decide +kernel
theorem dX6_giveUp_102 : decode cX6_giveUp 102 = .ok (.iaload, 1) := by decide +kernel
theorem dX6_giveUp_103 : decode cX6_giveUp 103 = .ok (.ifCond .ne 8, 3) := by decide +kernel
theorem dX6_giveUp_106 : decode cX6_giveUp 106 = .ok (.aload_n 0, 1) := by decide +kernel
theorem dX6_giveUp_107 : decode cX6_giveUp 107 = .ok (.iload_n 1, 1) := by decide +kernel
theorem dX6_giveUp_108 : decode cX6_giveUp 108 = .ok (.invokevirtual 146, 3) := by decide +kernel
theorem dX6_giveUp_111 : decode cX6_giveUp 111 = .ok (.iinc 1 1, 3) := by decide +kernel
theorem dX6_giveUp_114 : decode cX6_giveUp 114 = .ok (.goto (-23), 3) := by decide +kernel
theorem dX6_giveUp_117 : decode cX6_giveUp 117 = .ok (.return_, 1) := by decide +kernel
set_option maxRecDepth 20000 in
theorem ggX6_firstJob_X6_isPending : GoodIn wsX6_firstJob wsX6_isPending := goodIn_r _ [6, 1, 7, 8, 9, 5, 10, 11, 12, 13, 14, 15, 16, 17, 18, 19, 20, 21, 22, 23, 24, 25, 26, 27, 28, 29, 30, 31, 32, 33, 34, 35, 36, 37, 38, 39, 40, 41, 42, 43, 44, 45] (by decide +kernel) (by decide +kernel)
set_option maxRecDepth 20000 in
theorem gX6_firstJob_X6_isPending : GoodIn wsX6_firstJob (wsV RX6 136 RX6 yX6_isPending wsX6_isPending) := goodIn_app (goodIn_of _ (by decide +kernel)) ggX6_firstJob_X6_isPending
theorem dX6_firstJob_0 : decode cX6_firstJob 0 = .ok (.aload_n 0, 1) := by decide +kernel
theorem dX6_firstJob_1 : decode cX6_firstJob 1 = .ok (.getfield 38, 3) := by decide +kernel
theorem dX6_firstJob_4 : decode cX6_firstJob 4 = .ok (.iload_n 1, 1) := by decide +kernel
theorem dX6_firstJob_5 : decode cX6_firstJob 5 = .ok (.iaload, 1) := by decide +kernel
theorem dX6_firstJob_6 : decode cX6_firstJob 6 = .ok (.bipush 8, 2) := by decide +kernel
theorem dX6_firstJob_8 : decode cX6_firstJob 8 = .ok (.if_icmp .ge 7, 3) := by decide +kernel
theorem dX6_firstJob_11 : decode cX6_firstJob 11 = .ok (.iconst 1, 1) := by decide +kernel
theorem dX6_firstJob_12 : decode cX6_firstJob 12 = .ok (.goto 12, 3) := by decide +kernel
theorem dX6_firstJob_15 : decode cX6_firstJob 15 = .ok (.aload_n 0, 1) := by decide +kernel
theorem dX6_firstJob_16 : decode cX6_firstJob 16 = .ok (.getfield 38, 3) := by decide +kernel
theorem dX6_firstJob_19 : decode cX6_firstJob 19 = .ok (.iload_n 1, 1) := by decide +kernel
theorem dX6_firstJob_20 : decode cX6_firstJob 20 = .ok (.iaload, 1) := by decide +kernel
theorem dX6_firstJob_21 : decode cX6_firstJob 21 = .ok (.bipush 7, 2) := by decide +kernel
theorem dX6_firstJob_23 : decode cX6_firstJob 23 = .ok (.isub, 1) := by decide +kernel
theorem dX6_firstJob_24 : decode cX6_firstJob 24 = .ok (.istore_n 2, 1) := by decide +kernel
theorem dX6_firstJob_25 : decode cX6_firstJob 25 = .ok (.aload_n 0, 1) := by decide +kernel
theorem dX6_firstJob_26 : decode cX6_firstJob 26 = .ok (.iload_n 1, 1) := by decide +kernel
theorem dX6_firstJob_27 : decode cX6_firstJob 27 = .ok (.iload_n 2, 1) := by decide +kernel
theorem dX6_firstJob_28 : decode cX6_firstJob 28 = .ok (.invokevirtual 136, 3) := by decide +kernel
theorem dX6_firstJob_31 : decode cX6_firstJob 31 = .ok (.ifCond .ne 9, 3) := by decide +kernel
theorem dX6_firstJob_34 : decode cX6_firstJob 34 = .ok (.iinc 2 1, 3) := by decide +kernel
theorem dX6_firstJob_37 : decode cX6_firstJob 37 = .ok (.goto (-12), 3) := by decide +kernel
theorem dX6_firstJob_40 : decode cX6_firstJob 40 = .ok (.iload_n 2, 1) := by decide +kernel
theorem dX6_firstJob_41 : decode cX6_firstJob 41 = .ok (.ireturn, 1) := by decide +kernel
set_option maxRecDepth 20000 in
theorem ggX6_charge_X6_firstJob : GoodIn wsX6_charge wsX6_firstJob := goodIn_r _ [18, 19, 20, 21, 22, 17, 23, 4, 24, 25, 26, 50, 51, 52, 53, 54, 55, 56, 57, 58, 59, 60, 61, 62, 63, 64, 65, 66, 67, 68, 69, 70, 71, 72, 73, 74, 75, 76, 77, 78, 79, 80, 81, 82, 83, 84] (by decide +kernel) (by decide +kernel)
set_option maxRecDepth 20000 in
theorem gX6_charge_X6_firstJob : GoodIn wsX6_charge (wsV RX6 161 RX6 yX6_firstJob wsX6_firstJob) := goodIn_app (goodIn_of _ (by decide +kernel)) ggX6_charge_X6_firstJob
set_option maxRecDepth 20000 in
theorem ggX6_charge_X6_at : GoodIn wsX6_charge wsX6_at := goodIn_r _ [26] (by decide +kernel) (by decide +kernel)
set_option maxRecDepth 20000 in
theorem gX6_charge_X6_at : GoodIn wsX6_charge (va_wsS RX6 133 yX6_at wsX6_at) := goodIn_app (goodIn_of _ (by decide +kernel)) ggX6_charge_X6_at
set_option maxRecDepth 20000 in
theorem ggX6_charge_X6_leave : GoodIn wsX6_charge wsX6_leave := goodIn_r _ [30, 31, 32, 33, 34, 35, 36, 37, 17, 38, 19, 20, 21, 22, 23, 4, 24, 25, 26, 39, 40, 41, 42, 43, 44, 50, 51, 52, 53, 54, 55, 56, 57, 58, 59, 60, 61, 62, 63, 64, 65, 66, 67, 68, 69, 70, 71, 72, 73, 74, 75, 76, 77, 78, 79, 80, 81, 82, 83, 84] (by decide +kernel) (by decide +kernel)
set_option maxRecDepth 20000 in
theorem gX6_charge_X6_leave : GoodIn wsX6_charge (wsV RX6 146 RX6 yX6_leave wsX6_leave) := goodIn_app (goodIn_of _ (by decide +kernel)) ggX6_charge_X6_leave
set_option maxRecDepth 20000 in
theorem ggX6_charge_X6_giveUp : GoodIn wsX6_charge wsX6_giveUp := goodIn_r _ [48, 19, 31, 10, 4, 49, 20, 21, 22, 17, 23, 24, 25, 26, 27, 28, 29, 30, 32, 33, 34, 35, 36, 37, 38, 39, 40, 41, 42, 43, 44, 50, 51, 52, 53, 54, 55, 56, 57, 58, 59, 60, 61, 62, 63, 64, 65, 66, 67, 68, 69, 70, 71, 72, 73, 74, 75, 76, 77, 78, 79, 80, 81, 82, 83, 84] (by decide +kernel) (by decide +kernel)
set_option maxRecDepth 20000 in
theorem gX6_charge_X6_giveUp : GoodIn wsX6_charge (wsV RX6 167 RX6 yX6_giveUp wsX6_giveUp) := goodIn_app (goodIn_of _ (by decide +kernel)) ggX6_charge_X6_giveUp
theorem dX6_charge_0 : decode cX6_charge 0 = .ok (.iload_n 1, 1) := by decide +kernel
theorem dX6_charge_1 : decode cX6_charge 1 = .ok (.aload_n 0, 1) := by decide +kernel
theorem dX6_charge_2 : decode cX6_charge 2 = .ok (.iload_n 1, 1) := by decide +kernel
theorem dX6_charge_3 : decode cX6_charge 3 = .ok (.invokevirtual 161, 3) := by decide +kernel
theorem dX6_charge_6 : decode cX6_charge 6 = .ok (.invokestatic 133, 3) := by decide +kernel
theorem dX6_charge_9 : decode cX6_charge 9 = .ok (.istore_n 2, 1) := by decide +kernel
theorem dX6_charge_10 : decode cX6_charge 10 = .ok (.aload_n 0, 1) := by decide +kernel
theorem dX6_charge_11 : decode cX6_charge 11 = .ok (.getfield 59, 3) := by decide +kernel
theorem dX6_charge_14 : decode cX6_charge 14 = .ok (.iload_n 2, 1) := by decide +kernel
theorem dX6_charge_15 : decode cX6_charge 15 = .ok (.dup2, 1) := by decide +kernel
theorem dX6_charge_16 : decode cX6_charge 16 = .ok (.iaload, 1) := by decide +kernel
theorem dX6_charge_17 : decode cX6_charge 17 = .ok (.iconst 1, 1) := by decide +kernel
theorem dX6_charge_18 : decode cX6_charge 18 = .ok (.iadd, 1) := by decide +kernel
theorem dX6_charge_19 : decode cX6_charge 19 = .ok (.iastore, 1) := by decide +kernel
theorem dX6_charge_20 : decode cX6_charge 20 = .ok (.aload_n 0, 1) := by decide +kernel
theorem dX6_charge_21 : decode cX6_charge 21 = .ok (.getfield 44, 3) := by decide +kernel
theorem dX6_charge_24 : decode cX6_charge 24 = .ok (.iload_n 1, 1) := by decide +kernel
theorem dX6_charge_25 : decode cX6_charge 25 = .ok (.dup2, 1) := by decide +kernel
theorem dX6_charge_26 : decode cX6_charge 26 = .ok (.iaload, 1) := by decide +kernel
theorem dX6_charge_27 : decode cX6_charge 27 = .ok (.iconst 1, 1) := by decide +kernel
theorem dX6_charge_28 : decode cX6_charge 28 = .ok (.iadd, 1) := by decide +kernel
theorem dX6_charge_29 : decode cX6_charge 29 = .ok (.iastore, 1) := by decide +kernel
theorem dX6_charge_30 : decode cX6_charge 30 = .ok (.aload_n 0, 1) := by decide +kernel
theorem dX6_charge_31 : decode cX6_charge 31 = .ok (.getfield 59, 3) := by decide +kernel
theorem dX6_charge_34 : decode cX6_charge 34 = .ok (.iload_n 2, 1) := by decide +kernel
theorem dX6_charge_35 : decode cX6_charge 35 = .ok (.iaload, 1) := by decide +kernel
theorem dX6_charge_36 : decode cX6_charge 36 = .ok (.aload_n 0, 1) := by decide +kernel
theorem dX6_charge_37 : decode cX6_charge 37 = .ok (.getfield 56, 3) := by decide +kernel
theorem dX6_charge_40 : decode cX6_charge 40 = .ok (.iload_n 2, 1) := by decide +kernel
theorem dX6_charge_41 : decode cX6_charge 41 = .ok (.iaload, 1) := by decide +kernel
theorem dX6_charge_42 : decode cX6_charge 42 = .ok (.if_icmp .ne 64, 3) := by decide +kernel
theorem dX6_charge_45 : decode cX6_charge 45 = .ok (.aload_n 0, 1) := by decide +kernel
theorem dX6_charge_46 : decode cX6_charge 46 = .ok (.getfield 62, 3) := by decide +kernel
theorem dX6_charge_49 : decode cX6_charge 49 = .ok (.iload_n 2, 1) := by decide +kernel
theorem dX6_charge_50 : decode cX6_charge 50 = .ok (.aload_n 0, 1) := by decide +kernel
theorem dX6_charge_51 : decode cX6_charge 51 = .ok (.getfield 152, 3) := by decide +kernel
theorem dX6_charge_54 : decode cX6_charge 54 = .ok (.iastore, 1) := by decide +kernel
theorem dX6_charge_55 : decode cX6_charge 55 = .ok (.aload_n 0, 1) := by decide +kernel
theorem dX6_charge_56 : decode cX6_charge 56 = .ok (.getfield 47, 3) := by decide +kernel
theorem dX6_charge_59 : decode cX6_charge 59 = .ok (.iload_n 1, 1) := by decide +kernel
theorem dX6_charge_60 : decode cX6_charge 60 = .ok (.aload_n 0, 1) := by decide +kernel
theorem dX6_charge_61 : decode cX6_charge 61 = .ok (.getfield 152, 3) := by decide +kernel
theorem dX6_charge_64 : decode cX6_charge 64 = .ok (.aload_n 0, 1) := by decide +kernel
theorem dX6_charge_65 : decode cX6_charge 65 = .ok (.getfield 53, 3) := by decide +kernel
theorem dX6_charge_68 : decode cX6_charge 68 = .ok (.iload_n 2, 1) := by decide +kernel
theorem dX6_charge_69 : decode cX6_charge 69 = .ok (.iaload, 1) := by decide +kernel
theorem dX6_charge_70 : decode cX6_charge 70 = .ok (.aload_n 0, 1) := by decide +kernel
theorem dX6_charge_71 : decode cX6_charge 71 = .ok (.getfield 20, 3) := by decide +kernel
theorem dX6_charge_74 : decode cX6_charge 74 = .ok (.iload_n 1, 1) := by decide +kernel
theorem dX6_charge_75 : decode cX6_charge 75 = .ok (.iaload, 1) := by decide +kernel
theorem dX6_charge_76 : decode cX6_charge 76 = .ok (.iadd, 1) := by decide +kernel
theorem dX6_charge_77 : decode cX6_charge 77 = .ok (.if_icmp .le 14, 3) := by decide +kernel
theorem dX6_charge_80 : decode cX6_charge 80 = .ok (.aload_n 0, 1) := by decide +kernel
theorem dX6_charge_81 : decode cX6_charge 81 = .ok (.getfield 47, 3) := by decide +kernel
theorem dX6_charge_84 : decode cX6_charge 84 = .ok (.iload_n 1, 1) := by decide +kernel
theorem dX6_charge_85 : decode cX6_charge 85 = .ok (.iaload, 1) := by decide +kernel
theorem dX6_charge_86 : decode cX6_charge 86 = .ok (.iconst 1, 1) := by decide +kernel
theorem dX6_charge_87 : decode cX6_charge 87 = .ok (.iadd, 1) := by decide +kernel
theorem dX6_charge_88 : decode cX6_charge 88 = .ok (.goto 9, 3) := by decide +kernel
theorem dX6_charge_91 : decode cX6_charge 91 = .ok (.aload_n 0, 1) := by decide +kernel
theorem dX6_charge_92 : decode cX6_charge 92 = .ok (.getfield 47, 3) := by decide +kernel
theorem dX6_charge_95 : decode cX6_charge 95 = .ok (.iload_n 1, 1) := by decide +kernel
theorem dX6_charge_96 : decode cX6_charge 96 = .ok (.iaload, 1) := by decide +kernel
theorem dX6_charge_97 : decode cX6_charge 97 = .ok (.iastore, 1) := by decide +kernel
theorem dX6_charge_98 : decode cX6_charge 98 = .ok (.aload_n 0, 1) := by decide +kernel
theorem dX6_charge_99 : decode cX6_charge 99 = .ok (.iload_n 1, 1) := by decide +kernel
theorem dX6_charge_100 : decode cX6_charge 100 = .ok (.invokevirtual 146, 3) := by decide +kernel
theorem dX6_charge_103 : decode cX6_charge 103 = .ok (.goto 69, 3) := by decide +kernel
theorem dX6_charge_106 : decode cX6_charge 106 = .ok (.aload_n 0, 1) := by decide +kernel
theorem dX6_charge_107 : decode cX6_charge 107 = .ok (.getfield 155, 3) := by decide +kernel
theorem dX6_charge_110 : decode cX6_charge 110 = .ok (.ifCond .ne 62, 3) := by decide +kernel
theorem dX6_charge_113 : decode cX6_charge 113 = .ok (.aload_n 0, 1) := by decide +kernel
theorem dX6_charge_114 : decode cX6_charge 114 = .ok (.getfield 26, 3) := by decide +kernel
theorem dX6_charge_117 : decode cX6_charge 117 = .ok (.iload_n 1, 1) := by decide +kernel
theorem dX6_charge_118 : decode cX6_charge 118 = .ok (.iaload, 1) := by decide +kernel
theorem dX6_charge_119 : decode cX6_charge 119 = .ok (.ifCond .le 53, 3) := by decide +kernel
theorem dX6_charge_122 : decode cX6_charge 122 = .ok (.aload_n 0, 1) := by decide +kernel
theorem dX6_charge_123 : decode cX6_charge 123 = .ok (.getfield 59, 3) := by decide +kernel
theorem dX6_charge_126 : decode cX6_charge 126 = .ok (.iload_n 2, 1) := by decide +kernel
theorem dX6_charge_127 : decode cX6_charge 127 = .ok (.iaload, 1) := by decide +kernel
theorem dX6_charge_128 : decode cX6_charge 128 = .ok (.aload_n 0, 1) := by decide +kernel
theorem dX6_charge_129 : decode cX6_charge 129 = .ok (.getfield 23, 3) := by decide +kernel
end
section
theorem dX6_charge_132 : decode cX6_charge 132 = .ok (.iload_n 1, 1) := by decide +kernel
theorem dX6_charge_133 : decode cX6_charge 133 = .ok (.iaload, 1) := by decide +kernel
theorem dX6_charge_134 : decode cX6_charge 134 = .ok (.if_icmp .ne 38, 3) := by decide +kernel
theorem dX6_charge_137 : decode cX6_charge 137 = .ok (.aload_n 0, 1) := by decide +kernel
theorem dX6_charge_138 : decode cX6_charge 138 = .ok (.iconst 1, 1) := by decide +kernel
theorem dX6_charge_139 : decode cX6_charge 139 = .ok (.putfield 155, 3) := by decide +kernel
theorem dX6_charge_142 : decode cX6_charge 142 = .ok (.aload_n 0, 1) := by decide +kernel
theorem dX6_charge_143 : decode cX6_charge 143 = .ok (.getfield 65, 3) := by decide +kernel
theorem dX6_charge_146 : decode cX6_charge 146 = .ok (.aload_n 0, 1) := by decide +kernel
theorem dX6_charge_147 : decode cX6_charge 147 = .ok (.getfield 164, 3) := by decide +kernel
theorem dX6_charge_150 : decode cX6_charge 150 = .ok (.bipush 8, 2) := by decide +kernel
theorem dX6_charge_152 : decode cX6_charge 152 = .ok (.irem, 1) := by decide +kernel
theorem dX6_charge_153 : decode cX6_charge 153 = .ok (.aload_n 0, 1) := by decide +kernel
theorem dX6_charge_154 : decode cX6_charge 154 = .ok (.getfield 152, 3) := by decide +kernel
theorem dX6_charge_157 : decode cX6_charge 157 = .ok (.iastore, 1) := by decide +kernel
theorem dX6_charge_158 : decode cX6_charge 158 = .ok (.aload_n 0, 1) := by decide +kernel
theorem dX6_charge_159 : decode cX6_charge 159 = .ok (.dup, 1) := by decide +kernel
theorem dX6_charge_160 : decode cX6_charge 160 = .ok (.getfield 164, 3) := by decide +kernel
theorem dX6_charge_163 : decode cX6_charge 163 = .ok (.iconst 1, 1) := by decide +kernel
theorem dX6_charge_164 : decode cX6_charge 164 = .ok (.iadd, 1) := by decide +kernel
theorem dX6_charge_165 : decode cX6_charge 165 = .ok (.putfield 164, 3) := by decide +kernel
theorem dX6_charge_168 : decode cX6_charge 168 = .ok (.aload_n 0, 1) := by decide +kernel
theorem dX6_charge_169 : decode cX6_charge 169 = .ok (.invokevirtual 167, 3) := by decide +kernel
theorem dX6_charge_172 : decode cX6_charge 172 = .ok (.return_, 1) := by decide +kernel
set_option maxRecDepth 20000 in
theorem ggX6_oneTick_X6_pending : GoodIn wsX6_oneTick wsX6_pending := goodIn_r _ [14, 15, 16, 17, 18, 13, 19, 20, 21, 22, 23, 57, 58, 59, 60, 61, 62, 63, 64, 65, 66, 67, 68, 69, 70, 71, 72, 73, 74, 75, 76, 77, 78, 79, 80, 81, 82, 83, 84, 85, 86, 87, 88, 89, 90, 91] (by decide +kernel) (by decide +kernel)
set_option maxRecDepth 20000 in
theorem gX6_oneTick_X6_pending : GoodIn wsX6_oneTick (wsV RX6 140 RX6 yX6_pending wsX6_pending) := goodIn_app (goodIn_of _ (by decide +kernel)) ggX6_oneTick_X6_pending
set_option maxRecDepth 20000 in
theorem ggX6_oneTick_X6_charge : GoodIn wsX6_oneTick wsX6_charge := goodIn_r _ [27, 28, 29, 30, 20, 4, 31, 32, 33, 7, 34, 35, 36, 37, 38, 39, 40, 13, 41, 15, 16, 17, 18, 19, 21, 22, 23, 42, 43, 44, 45, 46, 47, 1, 2, 10, 11, 12, 14, 48, 49, 50, 51, 8, 9, 52, 53, 54, 55, 56, 57, 58, 59, 60, 61, 62, 63, 64, 65, 66, 67, 68, 69, 70, 71, 72, 73, 74, 75, 76, 77, 78, 79, 80, 81, 82, 83, 84, 85, 86, 87, 88, 89, 90, 91] (by decide +kernel) (by decide +kernel)
set_option maxRecDepth 20000 in
theorem gX6_oneTick_X6_charge : GoodIn wsX6_oneTick (wsV RX6 170 RX6 yX6_charge wsX6_charge) := goodIn_app (goodIn_of _ (by decide +kernel)) ggX6_oneTick_X6_charge
theorem dX6_oneTick_0 : decode cX6_oneTick 0 = .ok (.iconst 0, 1) := by decide +kernel
theorem dX6_oneTick_1 : decode cX6_oneTick 1 = .ok (.istore_n 1, 1) := by decide +kernel
theorem dX6_oneTick_2 : decode cX6_oneTick 2 = .ok (.iconst 0, 1) := by decide +kernel
theorem dX6_oneTick_3 : decode cX6_oneTick 3 = .ok (.istore_n 2, 1) := by decide +kernel
theorem dX6_oneTick_4 : decode cX6_oneTick 4 = .ok (.iload_n 2, 1) := by decide +kernel
theorem dX6_oneTick_5 : decode cX6_oneTick 5 = .ok (.aload_n 0, 1) := by decide +kernel
theorem dX6_oneTick_6 : decode cX6_oneTick 6 = .ok (.getfield 143, 3) := by decide +kernel
theorem dX6_oneTick_9 : decode cX6_oneTick 9 = .ok (.if_icmp .ge 37, 3) := by decide +kernel
theorem dX6_oneTick_12 : decode cX6_oneTick 12 = .ok (.iload_n 1, 1) := by decide +kernel
theorem dX6_oneTick_13 : decode cX6_oneTick 13 = .ok (.ifCond .ne 33, 3) := by decide +kernel
theorem dX6_oneTick_16 : decode cX6_oneTick 16 = .ok (.aload_n 0, 1) := by decide +kernel
theorem dX6_oneTick_17 : decode cX6_oneTick 17 = .ok (.aload_n 0, 1) := by decide +kernel
theorem dX6_oneTick_18 : decode cX6_oneTick 18 = .ok (.getfield 32, 3) := by decide +kernel
theorem dX6_oneTick_21 : decode cX6_oneTick 21 = .ok (.iload_n 2, 1) := by decide +kernel
theorem dX6_oneTick_22 : decode cX6_oneTick 22 = .ok (.iaload, 1) := by decide +kernel
theorem dX6_oneTick_23 : decode cX6_oneTick 23 = .ok (.invokevirtual 140, 3) := by decide +kernel
theorem dX6_oneTick_26 : decode cX6_oneTick 26 = .ok (.ifCond .le 12, 3) := by decide +kernel
theorem dX6_oneTick_29 : decode cX6_oneTick 29 = .ok (.aload_n 0, 1) := by decide +kernel
theorem dX6_oneTick_30 : decode cX6_oneTick 30 = .ok (.getfield 32, 3) := by decide +kernel
theorem dX6_oneTick_33 : decode cX6_oneTick 33 = .ok (.iload_n 2, 1) := by decide +kernel
theorem dX6_oneTick_34 : decode cX6_oneTick 34 = .ok (.iaload, 1) := by decide +kernel
theorem dX6_oneTick_35 : decode cX6_oneTick 35 = .ok (.goto 4, 3) := by decide +kernel
theorem dX6_oneTick_38 : decode cX6_oneTick 38 = .ok (.iconst 0, 1) := by decide +kernel
theorem dX6_oneTick_39 : decode cX6_oneTick 39 = .ok (.istore_n 1, 1) := by decide +kernel
theorem dX6_oneTick_40 : decode cX6_oneTick 40 = .ok (.iinc 2 1, 3) := by decide +kernel
theorem dX6_oneTick_43 : decode cX6_oneTick 43 = .ok (.goto (-39), 3) := by decide +kernel
theorem dX6_oneTick_46 : decode cX6_oneTick 46 = .ok (.aload_n 0, 1) := by decide +kernel
theorem dX6_oneTick_47 : decode cX6_oneTick 47 = .ok (.getfield 68, 3) := by decide +kernel
theorem dX6_oneTick_50 : decode cX6_oneTick 50 = .ok (.aload_n 0, 1) := by decide +kernel
theorem dX6_oneTick_51 : decode cX6_oneTick 51 = .ok (.getfield 152, 3) := by decide +kernel
theorem dX6_oneTick_54 : decode cX6_oneTick 54 = .ok (.sipush 256, 3) := by decide +kernel
theorem dX6_oneTick_57 : decode cX6_oneTick 57 = .ok (.irem, 1) := by decide +kernel
theorem dX6_oneTick_58 : decode cX6_oneTick 58 = .ok (.iload_n 1, 1) := by decide +kernel
theorem dX6_oneTick_59 : decode cX6_oneTick 59 = .ok (.iastore, 1) := by decide +kernel
theorem dX6_oneTick_60 : decode cX6_oneTick 60 = .ok (.aload_n 0, 1) := by decide +kernel
theorem dX6_oneTick_61 : decode cX6_oneTick 61 = .ok (.dup, 1) := by decide +kernel
theorem dX6_oneTick_62 : decode cX6_oneTick 62 = .ok (.getfield 152, 3) := by decide +kernel
theorem dX6_oneTick_65 : decode cX6_oneTick 65 = .ok (.iconst 1, 1) := by decide +kernel
theorem dX6_oneTick_66 : decode cX6_oneTick 66 = .ok (.iadd, 1) := by decide +kernel
theorem dX6_oneTick_67 : decode cX6_oneTick 67 = .ok (.putfield 152, 3) := by decide +kernel
theorem dX6_oneTick_70 : decode cX6_oneTick 70 = .ok (.iload_n 1, 1) := by decide +kernel
theorem dX6_oneTick_71 : decode cX6_oneTick 71 = .ok (.ifCond .le 10, 3) := by decide +kernel
theorem dX6_oneTick_74 : decode cX6_oneTick 74 = .ok (.aload_n 0, 1) := by decide +kernel
theorem dX6_oneTick_75 : decode cX6_oneTick 75 = .ok (.iload_n 1, 1) := by decide +kernel
theorem dX6_oneTick_76 : decode cX6_oneTick 76 = .ok (.invokevirtual 170, 3) := by decide +kernel
theorem dX6_oneTick_79 : decode cX6_oneTick 79 = .ok (.iload_n 1, 1) := by decide +kernel
theorem dX6_oneTick_80 : decode cX6_oneTick 80 = .ok (.ireturn, 1) := by decide +kernel
theorem dX6_oneTick_81 : decode cX6_oneTick 81 = .ok (.aload_n 0, 1) := by decide +kernel
theorem dX6_oneTick_82 : decode cX6_oneTick 82 = .ok (.dup, 1) := by decide +kernel
theorem dX6_oneTick_83 : decode cX6_oneTick 83 = .ok (.getfield 173, 3) := by decide +kernel
theorem dX6_oneTick_86 : decode cX6_oneTick 86 = .ok (.iconst 1, 1) := by decide +kernel
theorem dX6_oneTick_87 : decode cX6_oneTick 87 = .ok (.iadd, 1) := by decide +kernel
theorem dX6_oneTick_88 : decode cX6_oneTick 88 = .ok (.putfield 173, 3) := by decide +kernel
theorem dX6_oneTick_91 : decode cX6_oneTick 91 = .ok (.aload_n 0, 1) := by decide +kernel
theorem dX6_oneTick_92 : decode cX6_oneTick 92 = .ok (.aload_n 0, 1) := by decide +kernel
theorem dX6_oneTick_93 : decode cX6_oneTick 93 = .ok (.getfield 152, 3) := by decide +kernel
theorem dX6_oneTick_96 : decode cX6_oneTick 96 = .ok (.putfield 176, 3) := by decide +kernel
theorem dX6_oneTick_99 : decode cX6_oneTick 99 = .ok (.aload_n 0, 1) := by decide +kernel
theorem dX6_oneTick_100 : decode cX6_oneTick 100 = .ok (.iconst 0, 1) := by decide +kernel
theorem dX6_oneTick_101 : decode cX6_oneTick 101 = .ok (.putfield 155, 3) := by decide +kernel
theorem dX6_oneTick_104 : decode cX6_oneTick 104 = .ok (.aload_n 0, 1) := by decide +kernel
theorem dX6_oneTick_105 : decode cX6_oneTick 105 = .ok (.aload_n 0, 1) := by decide +kernel
theorem dX6_oneTick_106 : decode cX6_oneTick 106 = .ok (.getfield 91, 3) := by decide +kernel
theorem dX6_oneTick_109 : decode cX6_oneTick 109 = .ok (.putfield 143, 3) := by decide +kernel
theorem dX6_oneTick_112 : decode cX6_oneTick 112 = .ok (.iconst 0, 1) := by decide +kernel
theorem dX6_oneTick_113 : decode cX6_oneTick 113 = .ok (.istore_n 2, 1) := by decide +kernel
theorem dX6_oneTick_114 : decode cX6_oneTick 114 = .ok (.iload_n 2, 1) := by decide +kernel
theorem dX6_oneTick_115 : decode cX6_oneTick 115 = .ok (.aload_n 0, 1) := by decide +kernel
theorem dX6_oneTick_116 : decode cX6_oneTick 116 = .ok (.getfield 91, 3) := by decide +kernel
theorem dX6_oneTick_119 : decode cX6_oneTick 119 = .ok (.if_icmp .ge 21, 3) := by decide +kernel
theorem dX6_oneTick_122 : decode cX6_oneTick 122 = .ok (.aload_n 0, 1) := by decide +kernel
theorem dX6_oneTick_123 : decode cX6_oneTick 123 = .ok (.getfield 32, 3) := by decide +kernel
theorem dX6_oneTick_126 : decode cX6_oneTick 126 = .ok (.iload_n 2, 1) := by decide +kernel
theorem dX6_oneTick_127 : decode cX6_oneTick 127 = .ok (.aload_n 0, 1) := by decide +kernel
theorem dX6_oneTick_128 : decode cX6_oneTick 128 = .ok (.getfield 29, 3) := by decide +kernel
theorem dX6_oneTick_131 : decode cX6_oneTick 131 = .ok (.iload_n 2, 1) := by decide +kernel
theorem dX6_oneTick_132 : decode cX6_oneTick 132 = .ok (.iaload, 1) := by decide +kernel
theorem dX6_oneTick_133 : decode cX6_oneTick 133 = .ok (.iastore, 1) := by decide +kernel
theorem dX6_oneTick_134 : decode cX6_oneTick 134 = .ok (.iinc 2 1, 3) := by decide +kernel
theorem dX6_oneTick_137 : decode cX6_oneTick 137 = .ok (.goto (-23), 3) := by decide +kernel
theorem dX6_oneTick_140 : decode cX6_oneTick 140 = .ok (.iconst 0, 1) := by decide +kernel
theorem dX6_oneTick_141 : decode cX6_oneTick 141 = .ok (.ireturn, 1) := by decide +kernel
set_option maxRecDepth 20000 in
theorem ggX6_tick_X6_oneTick : GoodIn wsX6_tick wsX6_oneTick := goodIn_r _ [6, 7, 8, 9, 10, 11, 12, 13, 14, 15, 16, 17, 18, 5, 19, 20, 21, 22, 23, 24, 25, 26, 27, 28, 29, 30, 31, 32, 33, 34, 35, 36, 37, 38, 39, 40, 41, 42, 43, 44, 45, 46, 47, 48, 49, 50, 51, 52, 53, 54, 55, 56, 57, 58, 59, 60, 61, 62, 63, 64, 65, 66, 67, 68, 69, 70, 71, 72, 73, 74, 75, 76, 77, 78, 79, 80, 81, 82, 83, 84, 85, 86, 87, 88, 89, 90, 91, 92, 93, 94, 95, 96] (by decide +kernel) (by decide +kernel)
set_option maxRecDepth 20000 in
theorem gX6_tick_X6_oneTick : GoodIn wsX6_tick (wsV RX6 179 RX6 yX6_oneTick wsX6_oneTick) := goodIn_app (goodIn_of _ (by decide +kernel)) ggX6_tick_X6_oneTick
theorem dX6_tick_0 : decode cX6_tick 0 = .ok (.aload_n 0, 1) := by decide +kernel
theorem dX6_tick_1 : decode cX6_tick 1 = .ok (.iconst 0, 1) := by decide +kernel
theorem dX6_tick_2 : decode cX6_tick 2 = .ok (.putfield 83, 3) := by decide +kernel
theorem dX6_tick_5 : decode cX6_tick 5 = .ok (.aload_n 0, 1) := by decide +kernel
theorem dX6_tick_6 : decode cX6_tick 6 = .ok (.invokevirtual 179, 3) := by decide +kernel
theorem dX6_tick_9 : decode cX6_tick 9 = .ok (.ireturn, 1) := by decide +kernel
set_option maxRecDepth 20000 in
theorem ggX6_run_X6_within : GoodIn wsX6_run wsX6_within := goodIn_r _ [4] (by decide +kernel) (by decide +kernel)
set_option maxRecDepth 20000 in
theorem gX6_run_X6_within : GoodIn wsX6_run (va_wsS RX6 111 yX6_within wsX6_within) := goodIn_app (goodIn_of _ (by decide +kernel)) ggX6_run_X6_within
set_option maxRecDepth 20000 in
theorem ggX6_run_X6_goes : GoodIn wsX6_run wsX6_goes := goodIn_r _ [8, 9, 69, 70, 71, 72, 73, 74, 75, 76, 77, 78, 79, 80, 81, 82, 83, 84, 85, 86, 87, 88, 89, 90, 91, 92, 93, 94, 95, 96, 97, 98, 99, 100, 101, 102, 103] (by decide +kernel) (by decide +kernel)
set_option maxRecDepth 20000 in
theorem gX6_run_X6_goes : GoodIn wsX6_run (wsV RX6 119 RX6 yX6_goes wsX6_goes) := goodIn_app (goodIn_of _ (by decide +kernel)) ggX6_run_X6_goes
set_option maxRecDepth 20000 in
theorem ggX6_run_X6_oneTick : GoodIn wsX6_run wsX6_oneTick := goodIn_r _ [13, 14, 15, 16, 17, 18, 19, 20, 21, 22, 23, 24, 25, 3, 26, 27, 28, 29, 30, 31, 32, 33, 34, 35, 36, 37, 38, 39, 40, 41, 42, 43, 44, 45, 46, 47, 48, 49, 50, 51, 52, 53, 54, 55, 56, 57, 58, 59, 60, 61, 62, 63, 64, 65, 66, 67, 68, 69, 70, 71, 72, 73, 74, 75, 76, 77, 78, 79, 80, 81, 82, 83, 84, 85, 86, 87, 88, 89, 90, 91, 92, 93, 94, 95, 96, 97, 98, 99, 100, 101, 102, 103] (by decide +kernel) (by decide +kernel)
set_option maxRecDepth 20000 in
theorem gX6_run_X6_oneTick : GoodIn wsX6_run (wsV RX6 179 RX6 yX6_oneTick wsX6_oneTick) := goodIn_app (goodIn_of _ (by decide +kernel)) ggX6_run_X6_oneTick
theorem dX6_run_0 : decode cX6_run 0 = .ok (.aload_n 0, 1) := by decide +kernel
theorem dX6_run_1 : decode cX6_run 1 = .ok (.iload_n 1, 1) := by decide +kernel
theorem dX6_run_2 : decode cX6_run 2 = .ok (.iconst 0, 1) := by decide +kernel
theorem dX6_run_3 : decode cX6_run 3 = .ok (.sipush 1000, 3) := by decide +kernel
theorem dX6_run_6 : decode cX6_run 6 = .ok (.invokestatic 111, 3) := by decide +kernel
theorem dX6_run_9 : decode cX6_run 9 = .ok (.iconst 1, 1) := by decide +kernel
theorem dX6_run_10 : decode cX6_run 10 = .ok (.iconst 1, 1) := by decide +kernel
theorem dX6_run_11 : decode cX6_run 11 = .ok (.invokevirtual 119, 3) := by decide +kernel
theorem dX6_run_14 : decode cX6_run 14 = .ok (.ifCond .ne 5, 3) := by decide +kernel
theorem dX6_run_17 : decode cX6_run 17 = .ok (.iconst 0, 1) := by decide +kernel
theorem dX6_run_18 : decode cX6_run 18 = .ok (.ireturn, 1) := by decide +kernel
theorem dX6_run_19 : decode cX6_run 19 = .ok (.iconst 0, 1) := by decide +kernel
theorem dX6_run_20 : decode cX6_run 20 = .ok (.istore_n 2, 1) := by decide +kernel
theorem dX6_run_21 : decode cX6_run 21 = .ok (.iconst 0, 1) := by decide +kernel
theorem dX6_run_22 : decode cX6_run 22 = .ok (.istore_n 3, 1) := by decide +kernel
theorem dX6_run_23 : decode cX6_run 23 = .ok (.iload_n 3, 1) := by decide +kernel
theorem dX6_run_24 : decode cX6_run 24 = .ok (.iload_n 1, 1) := by decide +kernel
theorem dX6_run_25 : decode cX6_run 25 = .ok (.if_icmp .ge 24, 3) := by decide +kernel
theorem dX6_run_28 : decode cX6_run 28 = .ok (.aload_n 0, 1) := by decide +kernel
theorem dX6_run_29 : decode cX6_run 29 = .ok (.invokevirtual 179, 3) := by decide +kernel
theorem dX6_run_32 : decode cX6_run 32 = .ok (.ifCond .ne 9, 3) := by decide +kernel
theorem dX6_run_35 : decode cX6_run 35 = .ok (.iload_n 2, 1) := by decide +kernel
theorem dX6_run_36 : decode cX6_run 36 = .ok (.iconst 1, 1) := by decide +kernel
theorem dX6_run_37 : decode cX6_run 37 = .ok (.iadd, 1) := by decide +kernel
theorem dX6_run_38 : decode cX6_run 38 = .ok (.goto 4, 3) := by decide +kernel
theorem dX6_run_41 : decode cX6_run 41 = .ok (.iload_n 2, 1) := by decide +kernel
theorem dX6_run_42 : decode cX6_run 42 = .ok (.istore_n 2, 1) := by decide +kernel
theorem dX6_run_43 : decode cX6_run 43 = .ok (.iinc 3 1, 3) := by decide +kernel
theorem dX6_run_46 : decode cX6_run 46 = .ok (.goto (-23), 3) := by decide +kernel
theorem dX6_run_49 : decode cX6_run 49 = .ok (.iload_n 2, 1) := by decide +kernel
theorem dX6_run_50 : decode cX6_run 50 = .ok (.ireturn, 1) := by decide +kernel
set_option maxRecDepth 20000 in
theorem ggX6_passes_X6_lowResponse : GoodIn wsX6_passes wsX6_lowResponse := goodIn_r _ [6, 7, 8, 9, 10, 11, 12, 5, 13, 18, 19, 20, 21, 22, 23, 24, 25, 26, 27, 28, 29, 30, 31, 32, 33, 34, 35, 36, 37, 38, 39, 40, 41, 42, 43, 44, 45, 46, 47, 48, 49, 50, 51, 52] (by decide +kernel) (by decide +kernel)
set_option maxRecDepth 20000 in
theorem gX6_passes_X6_lowResponse : GoodIn wsX6_passes (wsV RX6 98 RX6 yX6_lowResponse wsX6_lowResponse) := goodIn_app (goodIn_of _ (by decide +kernel)) ggX6_passes_X6_lowResponse
set_option maxRecDepth 20000 in
theorem ggX6_passes_X6_bound : GoodIn wsX6_passes wsX6_bound := goodIn_r _ [17, 1, 9, 10, 8, 7, 11, 12, 5, 13, 18, 19, 20, 21, 22, 23, 24, 25, 26, 27, 28, 29, 30, 31, 32, 33, 34, 35, 36, 37, 38, 39, 40, 41, 42, 43, 44, 45, 46, 47, 48, 49, 50, 51, 52] (by decide +kernel) (by decide +kernel)
set_option maxRecDepth 20000 in
theorem gX6_passes_X6_bound : GoodIn wsX6_passes (wsV RX6 102 RX6 yX6_bound wsX6_bound) := goodIn_app (goodIn_of _ (by decide +kernel)) ggX6_passes_X6_bound
theorem dX6_passes_0 : decode cX6_passes 0 = .ok (.aload_n 0, 1) := by decide +kernel
theorem dX6_passes_1 : decode cX6_passes 1 = .ok (.iload_n 1, 1) := by decide +kernel
theorem dX6_passes_2 : decode cX6_passes 2 = .ok (.invokevirtual 98, 3) := by decide +kernel
theorem dX6_passes_5 : decode cX6_passes 5 = .ok (.istore_n 2, 1) := by decide +kernel
theorem dX6_passes_6 : decode cX6_passes 6 = .ok (.iload_n 2, 1) := by decide +kernel
theorem dX6_passes_7 : decode cX6_passes 7 = .ok (.ifCond .le 25, 3) := by decide +kernel
theorem dX6_passes_10 : decode cX6_passes 10 = .ok (.aload_n 0, 1) := by decide +kernel
theorem dX6_passes_11 : decode cX6_passes 11 = .ok (.getfield 26, 3) := by decide +kernel
theorem dX6_passes_14 : decode cX6_passes 14 = .ok (.iload_n 1, 1) := by decide +kernel
theorem dX6_passes_15 : decode cX6_passes 15 = .ok (.iaload, 1) := by decide +kernel
theorem dX6_passes_16 : decode cX6_passes 16 = .ok (.ifCond .eq 12, 3) := by decide +kernel
theorem dX6_passes_19 : decode cX6_passes 19 = .ok (.aload_n 0, 1) := by decide +kernel
theorem dX6_passes_20 : decode cX6_passes 20 = .ok (.iload_n 1, 1) := by decide +kernel
theorem dX6_passes_21 : decode cX6_passes 21 = .ok (.iload_n 2, 1) := by decide +kernel
theorem dX6_passes_22 : decode cX6_passes 22 = .ok (.invokevirtual 102, 3) := by decide +kernel
theorem dX6_passes_25 : decode cX6_passes 25 = .ok (.ifCond .le 7, 3) := by decide +kernel
theorem dX6_passes_28 : decode cX6_passes 28 = .ok (.iconst 1, 1) := by decide +kernel
theorem dX6_passes_29 : decode cX6_passes 29 = .ok (.goto 4, 3) := by decide +kernel
theorem dX6_passes_32 : decode cX6_passes 32 = .ok (.iconst 0, 1) := by decide +kernel
theorem dX6_passes_33 : decode cX6_passes 33 = .ok (.ireturn, 1) := by decide +kernel
set_option maxRecDepth 20000 in
theorem ggX6_assign_X6_passes : GoodIn wsX6_assign wsX6_passes := goodIn_r _ [11, 12, 13, 14, 15, 10, 16, 17, 18, 2, 19, 20, 21, 22, 23, 24, 25, 26, 27, 28, 29, 30, 31, 32, 33, 34, 35, 36, 37, 38, 39, 40, 41, 42, 43, 44, 45, 46, 47, 48, 49, 50, 51, 52, 53, 54, 55, 56, 57, 58, 59, 60, 61] (by decide +kernel) (by decide +kernel)
set_option maxRecDepth 20000 in
theorem gX6_assign_X6_passes : GoodIn wsX6_assign (wsV RX6 182 RX6 yX6_passes wsX6_passes) := goodIn_app (goodIn_of _ (by decide +kernel)) ggX6_assign_X6_passes
theorem dX6_assign_0 : decode cX6_assign 0 = .ok (.aload_n 0, 1) := by decide +kernel
theorem dX6_assign_1 : decode cX6_assign 1 = .ok (.iconst 0, 1) := by decide +kernel
theorem dX6_assign_2 : decode cX6_assign 2 = .ok (.putfield 83, 3) := by decide +kernel
theorem dX6_assign_5 : decode cX6_assign 5 = .ok (.iconst 1, 1) := by decide +kernel
theorem dX6_assign_6 : decode cX6_assign 6 = .ok (.istore_n 1, 1) := by decide +kernel
theorem dX6_assign_7 : decode cX6_assign 7 = .ok (.iload_n 1, 1) := by decide +kernel
theorem dX6_assign_8 : decode cX6_assign 8 = .ok (.bipush 13, 2) := by decide +kernel
theorem dX6_assign_10 : decode cX6_assign 10 = .ok (.if_icmp .ge 21, 3) := by decide +kernel
theorem dX6_assign_13 : decode cX6_assign 13 = .ok (.aload_n 0, 1) := by decide +kernel
theorem dX6_assign_14 : decode cX6_assign 14 = .ok (.getfield 80, 3) := by decide +kernel
theorem dX6_assign_17 : decode cX6_assign 17 = .ok (.iload_n 1, 1) := by decide +kernel
theorem dX6_assign_18 : decode cX6_assign 18 = .ok (.aload_n 0, 1) := by decide +kernel
theorem dX6_assign_19 : decode cX6_assign 19 = .ok (.getfield 7, 3) := by decide +kernel
theorem dX6_assign_22 : decode cX6_assign 22 = .ok (.iload_n 1, 1) := by decide +kernel
theorem dX6_assign_23 : decode cX6_assign 23 = .ok (.baload, 1) := by decide +kernel
theorem dX6_assign_24 : decode cX6_assign 24 = .ok (.bastore, 1) := by decide +kernel
theorem dX6_assign_25 : decode cX6_assign 25 = .ok (.iinc 1 1, 3) := by decide +kernel
theorem dX6_assign_28 : decode cX6_assign 28 = .ok (.goto (-21), 3) := by decide +kernel
theorem dX6_assign_31 : decode cX6_assign 31 = .ok (.aload_n 0, 1) := by decide +kernel
theorem dX6_assign_32 : decode cX6_assign 32 = .ok (.getfield 91, 3) := by decide +kernel
theorem dX6_assign_35 : decode cX6_assign 35 = .ok (.iconst 1, 1) := by decide +kernel
theorem dX6_assign_36 : decode cX6_assign 36 = .ok (.isub, 1) := by decide +kernel
theorem dX6_assign_37 : decode cX6_assign 37 = .ok (.istore_n 1, 1) := by decide +kernel
theorem dX6_assign_38 : decode cX6_assign 38 = .ok (.iload_n 1, 1) := by decide +kernel
theorem dX6_assign_39 : decode cX6_assign 39 = .ok (.ifCond .lt 85, 3) := by decide +kernel
theorem dX6_assign_42 : decode cX6_assign 42 = .ok (.iconst 0, 1) := by decide +kernel
theorem dX6_assign_43 : decode cX6_assign 43 = .ok (.istore_n 2, 1) := by decide +kernel
theorem dX6_assign_44 : decode cX6_assign 44 = .ok (.iconst 0, 1) := by decide +kernel
theorem dX6_assign_45 : decode cX6_assign 45 = .ok (.istore_n 3, 1) := by decide +kernel
theorem dX6_assign_46 : decode cX6_assign 46 = .ok (.iload_n 3, 1) := by decide +kernel
theorem dX6_assign_47 : decode cX6_assign 47 = .ok (.aload_n 0, 1) := by decide +kernel
theorem dX6_assign_48 : decode cX6_assign 48 = .ok (.getfield 91, 3) := by decide +kernel
theorem dX6_assign_51 : decode cX6_assign 51 = .ok (.if_icmp .ge 47, 3) := by decide +kernel
theorem dX6_assign_54 : decode cX6_assign 54 = .ok (.aload_n 0, 1) := by decide +kernel
theorem dX6_assign_55 : decode cX6_assign 55 = .ok (.getfield 80, 3) := by decide +kernel
theorem dX6_assign_58 : decode cX6_assign 58 = .ok (.aload_n 0, 1) := by decide +kernel
theorem dX6_assign_59 : decode cX6_assign 59 = .ok (.getfield 29, 3) := by decide +kernel
theorem dX6_assign_62 : decode cX6_assign 62 = .ok (.iload_n 3, 1) := by decide +kernel
theorem dX6_assign_63 : decode cX6_assign 63 = .ok (.iaload, 1) := by decide +kernel
theorem dX6_assign_64 : decode cX6_assign 64 = .ok (.baload, 1) := by decide +kernel
theorem dX6_assign_65 : decode cX6_assign 65 = .ok (.ifCond .eq 25, 3) := by decide +kernel
theorem dX6_assign_68 : decode cX6_assign 68 = .ok (.aload_n 0, 1) := by decide +kernel
theorem dX6_assign_69 : decode cX6_assign 69 = .ok (.aload_n 0, 1) := by decide +kernel
theorem dX6_assign_70 : decode cX6_assign 70 = .ok (.getfield 29, 3) := by decide +kernel
theorem dX6_assign_73 : decode cX6_assign 73 = .ok (.iload_n 3, 1) := by decide +kernel
theorem dX6_assign_74 : decode cX6_assign 74 = .ok (.iaload, 1) := by decide +kernel
theorem dX6_assign_75 : decode cX6_assign 75 = .ok (.invokevirtual 182, 3) := by decide +kernel
theorem dX6_assign_78 : decode cX6_assign 78 = .ok (.ifCond .eq 12, 3) := by decide +kernel
theorem dX6_assign_81 : decode cX6_assign 81 = .ok (.aload_n 0, 1) := by decide +kernel
theorem dX6_assign_82 : decode cX6_assign 82 = .ok (.getfield 29, 3) := by decide +kernel
theorem dX6_assign_85 : decode cX6_assign 85 = .ok (.iload_n 3, 1) := by decide +kernel
theorem dX6_assign_86 : decode cX6_assign 86 = .ok (.iaload, 1) := by decide +kernel
theorem dX6_assign_87 : decode cX6_assign 87 = .ok (.goto 4, 3) := by decide +kernel
theorem dX6_assign_90 : decode cX6_assign 90 = .ok (.iload_n 2, 1) := by decide +kernel
theorem dX6_assign_91 : decode cX6_assign 91 = .ok (.istore_n 2, 1) := by decide +kernel
theorem dX6_assign_92 : decode cX6_assign 92 = .ok (.iinc 3 1, 3) := by decide +kernel
theorem dX6_assign_95 : decode cX6_assign 95 = .ok (.goto (-49), 3) := by decide +kernel
theorem dX6_assign_98 : decode cX6_assign 98 = .ok (.iload_n 2, 1) := by decide +kernel
theorem dX6_assign_99 : decode cX6_assign 99 = .ok (.ifCond .ne 5, 3) := by decide +kernel
theorem dX6_assign_102 : decode cX6_assign 102 = .ok (.iconst 0, 1) := by decide +kernel
theorem dX6_assign_103 : decode cX6_assign 103 = .ok (.ireturn, 1) := by decide +kernel
theorem dX6_assign_104 : decode cX6_assign 104 = .ok (.aload_n 0, 1) := by decide +kernel
theorem dX6_assign_105 : decode cX6_assign 105 = .ok (.getfield 77, 3) := by decide +kernel
theorem dX6_assign_108 : decode cX6_assign 108 = .ok (.iload_n 1, 1) := by decide +kernel
theorem dX6_assign_109 : decode cX6_assign 109 = .ok (.iload_n 2, 1) := by decide +kernel
theorem dX6_assign_110 : decode cX6_assign 110 = .ok (.iastore, 1) := by decide +kernel
theorem dX6_assign_111 : decode cX6_assign 111 = .ok (.aload_n 0, 1) := by decide +kernel
theorem dX6_assign_112 : decode cX6_assign 112 = .ok (.getfield 80, 3) := by decide +kernel
theorem dX6_assign_115 : decode cX6_assign 115 = .ok (.iload_n 2, 1) := by decide +kernel
theorem dX6_assign_116 : decode cX6_assign 116 = .ok (.iconst 0, 1) := by decide +kernel
theorem dX6_assign_117 : decode cX6_assign 117 = .ok (.bastore, 1) := by decide +kernel
theorem dX6_assign_118 : decode cX6_assign 118 = .ok (.iinc 1 (-1), 3) := by decide +kernel
theorem dX6_assign_121 : decode cX6_assign 121 = .ok (.goto (-83), 3) := by decide +kernel
theorem dX6_assign_124 : decode cX6_assign 124 = .ok (.iconst 0, 1) := by decide +kernel
theorem dX6_assign_125 : decode cX6_assign 125 = .ok (.istore_n 1, 1) := by decide +kernel
theorem dX6_assign_126 : decode cX6_assign 126 = .ok (.iload_n 1, 1) := by decide +kernel
theorem dX6_assign_127 : decode cX6_assign 127 = .ok (.aload_n 0, 1) := by decide +kernel
theorem dX6_assign_128 : decode cX6_assign 128 = .ok (.getfield 91, 3) := by decide +kernel
theorem dX6_assign_131 : decode cX6_assign 131 = .ok (.if_icmp .ge 21, 3) := by decide +kernel
theorem dX6_assign_134 : decode cX6_assign 134 = .ok (.aload_n 0, 1) := by decide +kernel
theorem dX6_assign_135 : decode cX6_assign 135 = .ok (.getfield 29, 3) := by decide +kernel
theorem dX6_assign_138 : decode cX6_assign 138 = .ok (.iload_n 1, 1) := by decide +kernel
theorem dX6_assign_139 : decode cX6_assign 139 = .ok (.aload_n 0, 1) := by decide +kernel
theorem dX6_assign_140 : decode cX6_assign 140 = .ok (.getfield 77, 3) := by decide +kernel
theorem dX6_assign_143 : decode cX6_assign 143 = .ok (.iload_n 1, 1) := by decide +kernel
theorem dX6_assign_144 : decode cX6_assign 144 = .ok (.iaload, 1) := by decide +kernel
theorem dX6_assign_145 : decode cX6_assign 145 = .ok (.iastore, 1) := by decide +kernel
theorem dX6_assign_146 : decode cX6_assign 146 = .ok (.iinc 1 1, 3) := by decide +kernel
theorem dX6_assign_149 : decode cX6_assign 149 = .ok (.goto (-23), 3) := by decide +kernel
theorem dX6_assign_152 : decode cX6_assign 152 = .ok (.iconst 1, 1) := by decide +kernel
theorem dX6_assign_153 : decode cX6_assign 153 = .ok (.ireturn, 1) := by decide +kernel
theorem dX6_planPlace_0 : decode cX6_planPlace 0 = .ok (.iconst 0, 1) := by decide +kernel
theorem dX6_planPlace_1 : decode cX6_planPlace 1 = .ok (.istore_n 2, 1) := by decide +kernel
theorem dX6_planPlace_2 : decode cX6_planPlace 2 = .ok (.aload_n 0, 1) := by decide +kernel
theorem dX6_planPlace_3 : decode cX6_planPlace 3 = .ok (.getfield 29, 3) := by decide +kernel
theorem dX6_planPlace_6 : decode cX6_planPlace 6 = .ok (.iload_n 2, 1) := by decide +kernel
theorem dX6_planPlace_7 : decode cX6_planPlace 7 = .ok (.iaload, 1) := by decide +kernel
theorem dX6_planPlace_8 : decode cX6_planPlace 8 = .ok (.iload_n 1, 1) := by decide +kernel
theorem dX6_planPlace_9 : decode cX6_planPlace 9 = .ok (.if_icmp .eq 9, 3) := by decide +kernel
theorem dX6_planPlace_12 : decode cX6_planPlace 12 = .ok (.iinc 2 1, 3) := by decide +kernel
theorem dX6_planPlace_15 : decode cX6_planPlace 15 = .ok (.goto (-13), 3) := by decide +kernel
theorem dX6_planPlace_18 : decode cX6_planPlace 18 = .ok (.iload_n 2, 1) := by decide +kernel
theorem dX6_planPlace_19 : decode cX6_planPlace 19 = .ok (.ireturn, 1) := by decide +kernel
set_option maxRecDepth 20000 in
theorem ggX6_response_X6_isKnown : GoodIn wsX6_response wsX6_isKnown := goodIn_r _ [6, 7, 40, 41, 42, 43, 44, 45, 46, 47, 48, 49, 50, 51, 52, 53, 54, 55, 56, 57, 58, 59, 60, 61, 62, 63, 64, 65, 66, 67, 68, 69, 70, 71, 72, 73, 74] (by decide +kernel) (by decide +kernel)
set_option maxRecDepth 20000 in
theorem gX6_response_X6_isKnown : GoodIn wsX6_response (wsV RX6 115 RX6 yX6_isKnown wsX6_isKnown) := goodIn_app (goodIn_of _ (by decide +kernel)) ggX6_response_X6_isKnown
set_option maxRecDepth 20000 in
theorem ggX6_response_X6_within : GoodIn wsX6_response wsX6_within := goodIn_r _ [10] (by decide +kernel) (by decide +kernel)
set_option maxRecDepth 20000 in
theorem gX6_response_X6_within : GoodIn wsX6_response (va_wsS RX6 111 yX6_within wsX6_within) := goodIn_app (goodIn_of _ (by decide +kernel)) ggX6_response_X6_within
set_option maxRecDepth 20000 in
theorem ggX6_response_X6_goes : GoodIn wsX6_response wsX6_goes := goodIn_r _ [14, 15, 40, 41, 42, 43, 44, 45, 46, 47, 48, 49, 50, 51, 52, 53, 54, 55, 56, 57, 58, 59, 60, 61, 62, 63, 64, 65, 66, 67, 68, 69, 70, 71, 72, 73, 74] (by decide +kernel) (by decide +kernel)
set_option maxRecDepth 20000 in
theorem gX6_response_X6_goes : GoodIn wsX6_response (wsV RX6 119 RX6 yX6_goes wsX6_goes) := goodIn_app (goodIn_of _ (by decide +kernel)) ggX6_response_X6_goes
set_option maxRecDepth 20000 in
theorem ggX6_response_X6_planPlace : GoodIn wsX6_response wsX6_planPlace := goodIn_r _ [19, 20, 40, 41, 42, 43, 44, 45, 46, 47, 48, 49, 50, 51, 52, 53, 54, 55, 56, 57, 58, 59, 60, 61, 62, 63, 64, 65, 66, 67, 68, 69, 70, 71, 72, 73, 74] (by decide +kernel) (by decide +kernel)
set_option maxRecDepth 20000 in
theorem gX6_response_X6_planPlace : GoodIn wsX6_response (wsV RX6 185 RX6 yX6_planPlace wsX6_planPlace) := goodIn_app (goodIn_of _ (by decide +kernel)) ggX6_response_X6_planPlace
set_option maxRecDepth 20000 in
theorem ggX6_response_X6_markAhead : GoodIn wsX6_response wsX6_markAhead := goodIn_r _ [24, 25, 20, 40, 41, 42, 43, 44, 45, 46, 47, 48, 49, 50, 51, 52, 53, 54, 55, 56, 57, 58, 59, 60, 61, 62, 63, 64, 65, 66, 67, 68, 69, 70, 71, 72, 73, 74] (by decide +kernel) (by decide +kernel)
set_option maxRecDepth 20000 in
theorem gX6_response_X6_markAhead : GoodIn wsX6_response (wsV RX6 94 RX6 yX6_markAhead wsX6_markAhead) := goodIn_app (goodIn_of _ (by decide +kernel)) ggX6_response_X6_markAhead
set_option maxRecDepth 20000 in
theorem ggX6_response_X6_lowResponse : GoodIn wsX6_response wsX6_lowResponse := goodIn_r _ [29, 30, 31, 25, 32, 33, 34, 5, 35, 40, 41, 42, 43, 44, 45, 46, 47, 48, 49, 50, 51, 52, 53, 54, 55, 56, 57, 58, 59, 60, 61, 62, 63, 64, 65, 66, 67, 68, 69, 70, 71, 72, 73, 74] (by decide +kernel) (by decide +kernel)
set_option maxRecDepth 20000 in
theorem gX6_response_X6_lowResponse : GoodIn wsX6_response (wsV RX6 98 RX6 yX6_lowResponse wsX6_lowResponse) := goodIn_app (goodIn_of _ (by decide +kernel)) ggX6_response_X6_lowResponse
set_option maxRecDepth 20000 in
theorem ggX6_response_X6_bound : GoodIn wsX6_response wsX6_bound := goodIn_r _ [39, 1, 25, 32, 31, 30, 33, 34, 5, 35, 40, 41, 42, 43, 44, 45, 46, 47, 48, 49, 50, 51, 52, 53, 54, 55, 56, 57, 58, 59, 60, 61, 62, 63, 64, 65, 66, 67, 68, 69, 70, 71, 72, 73, 74] (by decide +kernel) (by decide +kernel)
set_option maxRecDepth 20000 in
theorem gX6_response_X6_bound : GoodIn wsX6_response (wsV RX6 102 RX6 yX6_bound wsX6_bound) := goodIn_app (goodIn_of _ (by decide +kernel)) ggX6_response_X6_bound
theorem dX6_response_0 : decode cX6_response 0 = .ok (.aload_n 0, 1) := by decide +kernel
theorem dX6_response_1 : decode cX6_response 1 = .ok (.aload_n 0, 1) := by decide +kernel
theorem dX6_response_2 : decode cX6_response 2 = .ok (.iload_n 1, 1) := by decide +kernel
theorem dX6_response_3 : decode cX6_response 3 = .ok (.invokevirtual 115, 3) := by decide +kernel
theorem dX6_response_6 : decode cX6_response 6 = .ok (.iload_n 2, 1) := by decide +kernel
theorem dX6_response_7 : decode cX6_response 7 = .ok (.iconst 0, 1) := by decide +kernel
theorem dX6_response_8 : decode cX6_response 8 = .ok (.iconst 1, 1) := by decide +kernel
theorem dX6_response_9 : decode cX6_response 9 = .ok (.invokestatic 111, 3) := by decide +kernel
theorem dX6_response_12 : decode cX6_response 12 = .ok (.iconst 1, 1) := by decide +kernel
theorem dX6_response_13 : decode cX6_response 13 = .ok (.invokevirtual 119, 3) := by decide +kernel
theorem dX6_response_16 : decode cX6_response 16 = .ok (.ifCond .ne 5, 3) := by decide +kernel
theorem dX6_response_19 : decode cX6_response 19 = .ok (.iconst 0, 1) := by decide +kernel
theorem dX6_response_20 : decode cX6_response 20 = .ok (.ireturn, 1) := by decide +kernel
theorem dX6_response_21 : decode cX6_response 21 = .ok (.aload_n 0, 1) := by decide +kernel
theorem dX6_response_22 : decode cX6_response 22 = .ok (.aload_n 0, 1) := by decide +kernel
theorem dX6_response_23 : decode cX6_response 23 = .ok (.iload_n 1, 1) := by decide +kernel
theorem dX6_response_24 : decode cX6_response 24 = .ok (.invokevirtual 185, 3) := by decide +kernel
theorem dX6_response_27 : decode cX6_response 27 = .ok (.invokevirtual 94, 3) := by decide +kernel
theorem dX6_response_30 : decode cX6_response 30 = .ok (.aload_n 0, 1) := by decide +kernel
theorem dX6_response_31 : decode cX6_response 31 = .ok (.iload_n 1, 1) := by decide +kernel
theorem dX6_response_32 : decode cX6_response 32 = .ok (.invokevirtual 98, 3) := by decide +kernel
theorem dX6_response_35 : decode cX6_response 35 = .ok (.istore_n 3, 1) := by decide +kernel
theorem dX6_response_36 : decode cX6_response 36 = .ok (.iload_n 2, 1) := by decide +kernel
theorem dX6_response_37 : decode cX6_response 37 = .ok (.ifCond .ne 7, 3) := by decide +kernel
theorem dX6_response_40 : decode cX6_response 40 = .ok (.iload_n 3, 1) := by decide +kernel
theorem dX6_response_41 : decode cX6_response 41 = .ok (.goto 22, 3) := by decide +kernel
theorem dX6_response_44 : decode cX6_response 44 = .ok (.aload_n 0, 1) := by decide +kernel
theorem dX6_response_45 : decode cX6_response 45 = .ok (.getfield 26, 3) := by decide +kernel
theorem dX6_response_48 : decode cX6_response 48 = .ok (.iload_n 1, 1) := by decide +kernel
theorem dX6_response_49 : decode cX6_response 49 = .ok (.iaload, 1) := by decide +kernel
theorem dX6_response_50 : decode cX6_response 50 = .ok (.ifCond .ne 7, 3) := by decide +kernel
theorem dX6_response_53 : decode cX6_response 53 = .ok (.iconst (-1), 1) := by decide +kernel
theorem dX6_response_54 : decode cX6_response 54 = .ok (.goto 9, 3) := by decide +kernel
theorem dX6_response_57 : decode cX6_response 57 = .ok (.aload_n 0, 1) := by decide +kernel
theorem dX6_response_58 : decode cX6_response 58 = .ok (.iload_n 1, 1) := by decide +kernel
theorem dX6_response_59 : decode cX6_response 59 = .ok (.iload_n 3, 1) := by decide +kernel
theorem dX6_response_60 : decode cX6_response 60 = .ok (.invokevirtual 102, 3) := by decide +kernel
theorem dX6_response_63 : decode cX6_response 63 = .ok (.ireturn, 1) := by decide +kernel
set_option maxRecDepth 20000 in
theorem ggX6_ended_X6_isKnown : GoodIn wsX6_ended wsX6_isKnown := goodIn_r _ [7, 8, 17, 18, 19, 20, 21, 22, 23, 24, 25, 26, 27, 28, 29, 30, 31, 32, 33, 34, 35, 36, 37, 38, 39, 40, 41, 42, 43, 44, 45, 46, 47, 48, 49, 50, 51] (by decide +kernel) (by decide +kernel)
set_option maxRecDepth 20000 in
theorem gX6_ended_X6_isKnown : GoodIn wsX6_ended (wsV RX6 115 RX6 yX6_isKnown wsX6_isKnown) := goodIn_app (goodIn_of _ (by decide +kernel)) ggX6_ended_X6_isKnown
set_option maxRecDepth 20000 in
theorem ggX6_ended_X6_goes : GoodIn wsX6_ended wsX6_goes := goodIn_r _ [12, 13, 17, 18, 19, 20, 21, 22, 23, 24, 25, 26, 27, 28, 29, 30, 31, 32, 33, 34, 35, 36, 37, 38, 39, 40, 41, 42, 43, 44, 45, 46, 47, 48, 49, 50, 51] (by decide +kernel) (by decide +kernel)
set_option maxRecDepth 20000 in
theorem gX6_ended_X6_goes : GoodIn wsX6_ended (wsV RX6 119 RX6 yX6_goes wsX6_goes) := goodIn_app (goodIn_of _ (by decide +kernel)) ggX6_ended_X6_goes
set_option maxRecDepth 20000 in
theorem ggX6_ended_X6_at : GoodIn wsX6_ended wsX6_at := goodIn_r _ [16] (by decide +kernel) (by decide +kernel)
set_option maxRecDepth 20000 in
theorem gX6_ended_X6_at : GoodIn wsX6_ended (va_wsS RX6 133 yX6_at wsX6_at) := goodIn_app (goodIn_of _ (by decide +kernel)) ggX6_ended_X6_at
theorem dX6_ended_0 : decode cX6_ended 0 = .ok (.aload_n 0, 1) := by decide +kernel
theorem dX6_ended_1 : decode cX6_ended 1 = .ok (.iload_n 1, 1) := by decide +kernel
theorem dX6_ended_2 : decode cX6_ended 2 = .ok (.invokevirtual 115, 3) := by decide +kernel
theorem dX6_ended_5 : decode cX6_ended 5 = .ok (.ifCond .eq 35, 3) := by decide +kernel
theorem dX6_ended_8 : decode cX6_ended 8 = .ok (.iload_n 2, 1) := by decide +kernel
theorem dX6_ended_9 : decode cX6_ended 9 = .ok (.iconst 1, 1) := by decide +kernel
theorem dX6_ended_10 : decode cX6_ended 10 = .ok (.if_icmp .lt 30, 3) := by decide +kernel
theorem dX6_ended_13 : decode cX6_ended 13 = .ok (.iload_n 2, 1) := by decide +kernel
theorem dX6_ended_14 : decode cX6_ended 14 = .ok (.aload_n 0, 1) := by decide +kernel
theorem dX6_ended_15 : decode cX6_ended 15 = .ok (.getfield 38, 3) := by decide +kernel
theorem dX6_ended_18 : decode cX6_ended 18 = .ok (.iload_n 1, 1) := by decide +kernel
theorem dX6_ended_19 : decode cX6_ended 19 = .ok (.iaload, 1) := by decide +kernel
theorem dX6_ended_20 : decode cX6_ended 20 = .ok (.if_icmp .gt 20, 3) := by decide +kernel
theorem dX6_ended_23 : decode cX6_ended 23 = .ok (.iload_n 2, 1) := by decide +kernel
theorem dX6_ended_24 : decode cX6_ended 24 = .ok (.aload_n 0, 1) := by decide +kernel
theorem dX6_ended_25 : decode cX6_ended 25 = .ok (.getfield 38, 3) := by decide +kernel
theorem dX6_ended_28 : decode cX6_ended 28 = .ok (.iload_n 1, 1) := by decide +kernel
theorem dX6_ended_29 : decode cX6_ended 29 = .ok (.iaload, 1) := by decide +kernel
theorem dX6_ended_30 : decode cX6_ended 30 = .ok (.bipush 8, 2) := by decide +kernel
theorem dX6_ended_32 : decode cX6_ended 32 = .ok (.isub, 1) := by decide +kernel
theorem dX6_ended_33 : decode cX6_ended 33 = .ok (.if_icmp .le 7, 3) := by decide +kernel
theorem dX6_ended_36 : decode cX6_ended 36 = .ok (.iconst 1, 1) := by decide +kernel
theorem dX6_ended_37 : decode cX6_ended 37 = .ok (.goto 4, 3) := by decide +kernel
theorem dX6_ended_40 : decode cX6_ended 40 = .ok (.iconst 0, 1) := by decide +kernel
theorem dX6_ended_41 : decode cX6_ended 41 = .ok (.istore_n 3, 1) := by decide +kernel
theorem dX6_ended_42 : decode cX6_ended 42 = .ok (.aload_n 0, 1) := by decide +kernel
theorem dX6_ended_43 : decode cX6_ended 43 = .ok (.iload_n 3, 1) := by decide +kernel
theorem dX6_ended_44 : decode cX6_ended 44 = .ok (.iconst 1, 1) := by decide +kernel
theorem dX6_ended_45 : decode cX6_ended 45 = .ok (.iconst 1, 1) := by decide +kernel
theorem dX6_ended_46 : decode cX6_ended 46 = .ok (.invokevirtual 119, 3) := by decide +kernel
theorem dX6_ended_49 : decode cX6_ended 49 = .ok (.ifCond .eq 16, 3) := by decide +kernel
theorem dX6_ended_52 : decode cX6_ended 52 = .ok (.aload_n 0, 1) := by decide +kernel
theorem dX6_ended_53 : decode cX6_ended 53 = .ok (.getfield 62, 3) := by decide +kernel
theorem dX6_ended_56 : decode cX6_ended 56 = .ok (.iload_n 1, 1) := by decide +kernel
theorem dX6_ended_57 : decode cX6_ended 57 = .ok (.iload_n 2, 1) := by decide +kernel
theorem dX6_ended_58 : decode cX6_ended 58 = .ok (.invokestatic 133, 3) := by decide +kernel
theorem dX6_ended_61 : decode cX6_ended 61 = .ok (.iaload, 1) := by decide +kernel
theorem dX6_ended_62 : decode cX6_ended 62 = .ok (.goto 4, 3) := by decide +kernel
theorem dX6_ended_65 : decode cX6_ended 65 = .ok (.iconst 0, 1) := by decide +kernel
theorem dX6_ended_66 : decode cX6_ended 66 = .ok (.ireturn, 1) := by decide +kernel
set_option maxRecDepth 20000 in
theorem ggX6_late_X6_isPending : GoodIn wsX6_late wsX6_isPending := goodIn_r _ [10, 2, 11, 12, 13, 9, 14, 15, 16, 17, 18, 19, 20, 21, 22, 23, 24, 25, 26, 27, 28, 29, 30, 31, 32, 33, 34, 35, 36, 37, 38, 39, 40, 41, 42, 43, 44, 45, 46, 47, 48, 49] (by decide +kernel) (by decide +kernel)
set_option maxRecDepth 20000 in
theorem gX6_late_X6_isPending : GoodIn wsX6_late (wsV RX6 136 RX6 yX6_isPending wsX6_isPending) := goodIn_app (goodIn_of _ (by decide +kernel)) ggX6_late_X6_isPending
set_option maxRecDepth 20000 in
theorem ggX6_late_X6_at : GoodIn wsX6_late wsX6_at := goodIn_r _ [14] (by decide +kernel) (by decide +kernel)
set_option maxRecDepth 20000 in
theorem gX6_late_X6_at : GoodIn wsX6_late (va_wsS RX6 133 yX6_at wsX6_at) := goodIn_app (goodIn_of _ (by decide +kernel)) ggX6_late_X6_at
theorem dX6_late_0 : decode cX6_late 0 = .ok (.aload_n 0, 1) := by decide +kernel
theorem dX6_late_1 : decode cX6_late 1 = .ok (.getfield 47, 3) := by decide +kernel
theorem dX6_late_4 : decode cX6_late 4 = .ok (.iload_n 1, 1) := by decide +kernel
theorem dX6_late_5 : decode cX6_late 5 = .ok (.iaload, 1) := by decide +kernel
theorem dX6_late_6 : decode cX6_late 6 = .ok (.istore_n 2, 1) := by decide +kernel
theorem dX6_late_7 : decode cX6_late 7 = .ok (.aload_n 0, 1) := by decide +kernel
theorem dX6_late_8 : decode cX6_late 8 = .ok (.getfield 38, 3) := by decide +kernel
theorem dX6_late_11 : decode cX6_late 11 = .ok (.iload_n 1, 1) := by decide +kernel
theorem dX6_late_12 : decode cX6_late 12 = .ok (.iaload, 1) := by decide +kernel
theorem dX6_late_13 : decode cX6_late 13 = .ok (.bipush 7, 2) := by decide +kernel
theorem dX6_late_15 : decode cX6_late 15 = .ok (.isub, 1) := by decide +kernel
theorem dX6_late_16 : decode cX6_late 16 = .ok (.istore_n 3, 1) := by decide +kernel
theorem dX6_late_17 : decode cX6_late 17 = .ok (.iload_n 3, 1) := by decide +kernel
theorem dX6_late_18 : decode cX6_late 18 = .ok (.aload_n 0, 1) := by decide +kernel
theorem dX6_late_19 : decode cX6_late 19 = .ok (.getfield 38, 3) := by decide +kernel
theorem dX6_late_22 : decode cX6_late 22 = .ok (.iload_n 1, 1) := by decide +kernel
theorem dX6_late_23 : decode cX6_late 23 = .ok (.iaload, 1) := by decide +kernel
theorem dX6_late_24 : decode cX6_late 24 = .ok (.if_icmp .gt 50, 3) := by decide +kernel
theorem dX6_late_27 : decode cX6_late 27 = .ok (.aload_n 0, 1) := by decide +kernel
theorem dX6_late_28 : decode cX6_late 28 = .ok (.iload_n 1, 1) := by decide +kernel
theorem dX6_late_29 : decode cX6_late 29 = .ok (.iload_n 3, 1) := by decide +kernel
theorem dX6_late_30 : decode cX6_late 30 = .ok (.invokevirtual 136, 3) := by decide +kernel
theorem dX6_late_33 : decode cX6_late 33 = .ok (.ifCond .eq 33, 3) := by decide +kernel
theorem dX6_late_36 : decode cX6_late 36 = .ok (.aload_n 0, 1) := by decide +kernel
theorem dX6_late_37 : decode cX6_late 37 = .ok (.getfield 152, 3) := by decide +kernel
theorem dX6_late_40 : decode cX6_late 40 = .ok (.aload_n 0, 1) := by decide +kernel
theorem dX6_late_41 : decode cX6_late 41 = .ok (.getfield 53, 3) := by decide +kernel
theorem dX6_late_44 : decode cX6_late 44 = .ok (.iload_n 1, 1) := by decide +kernel
theorem dX6_late_45 : decode cX6_late 45 = .ok (.iload_n 3, 1) := by decide +kernel
theorem dX6_late_46 : decode cX6_late 46 = .ok (.invokestatic 133, 3) := by decide +kernel
theorem dX6_late_49 : decode cX6_late 49 = .ok (.iaload, 1) := by decide +kernel
theorem dX6_late_50 : decode cX6_late 50 = .ok (.aload_n 0, 1) := by decide +kernel
theorem dX6_late_51 : decode cX6_late 51 = .ok (.getfield 20, 3) := by decide +kernel
theorem dX6_late_54 : decode cX6_late 54 = .ok (.iload_n 1, 1) := by decide +kernel
theorem dX6_late_55 : decode cX6_late 55 = .ok (.iaload, 1) := by decide +kernel
theorem dX6_late_56 : decode cX6_late 56 = .ok (.iadd, 1) := by decide +kernel
theorem dX6_late_57 : decode cX6_late 57 = .ok (.if_icmp .le 9, 3) := by decide +kernel
theorem dX6_late_60 : decode cX6_late 60 = .ok (.iload_n 2, 1) := by decide +kernel
theorem dX6_late_61 : decode cX6_late 61 = .ok (.iconst 1, 1) := by decide +kernel
theorem dX6_late_62 : decode cX6_late 62 = .ok (.iadd, 1) := by decide +kernel
theorem dX6_late_63 : decode cX6_late 63 = .ok (.goto 4, 3) := by decide +kernel
theorem dX6_late_66 : decode cX6_late 66 = .ok (.iload_n 2, 1) := by decide +kernel
theorem dX6_late_67 : decode cX6_late 67 = .ok (.istore_n 2, 1) := by decide +kernel
theorem dX6_late_68 : decode cX6_late 68 = .ok (.iinc 3 1, 3) := by decide +kernel
theorem dX6_late_71 : decode cX6_late 71 = .ok (.goto (-54), 3) := by decide +kernel
theorem dX6_late_74 : decode cX6_late 74 = .ok (.iload_n 2, 1) := by decide +kernel
theorem dX6_late_75 : decode cX6_late 75 = .ok (.ireturn, 1) := by decide +kernel
set_option maxRecDepth 20000 in
theorem ggX6_about_X6_isKnown : GoodIn wsX6_about wsX6_isKnown := goodIn_r _ [10, 11, 51, 52, 53, 54, 55, 56, 57, 58, 59, 60, 61, 62, 63, 64, 65, 66, 67, 68, 69, 70, 71, 72, 73, 74, 75, 76, 77, 78, 79, 80, 81, 82, 83, 84, 85] (by decide +kernel) (by decide +kernel)
set_option maxRecDepth 20000 in
theorem gX6_about_X6_isKnown : GoodIn wsX6_about (wsV RX6 115 RX6 yX6_isKnown wsX6_isKnown) := goodIn_app (goodIn_of _ (by decide +kernel)) ggX6_about_X6_isKnown
set_option maxRecDepth 20000 in
theorem ggX6_about_X6_within : GoodIn wsX6_about wsX6_within := goodIn_r _ [14] (by decide +kernel) (by decide +kernel)
set_option maxRecDepth 20000 in
theorem gX6_about_X6_within : GoodIn wsX6_about (va_wsS RX6 111 yX6_within wsX6_within) := goodIn_app (goodIn_of _ (by decide +kernel)) ggX6_about_X6_within
set_option maxRecDepth 20000 in
theorem ggX6_about_X6_goes : GoodIn wsX6_about wsX6_goes := goodIn_r _ [18, 19, 51, 52, 53, 54, 55, 56, 57, 58, 59, 60, 61, 62, 63, 64, 65, 66, 67, 68, 69, 70, 71, 72, 73, 74, 75, 76, 77, 78, 79, 80, 81, 82, 83, 84, 85] (by decide +kernel) (by decide +kernel)
set_option maxRecDepth 20000 in
theorem gX6_about_X6_goes : GoodIn wsX6_about (wsV RX6 119 RX6 yX6_goes wsX6_goes) := goodIn_app (goodIn_of _ (by decide +kernel)) ggX6_about_X6_goes
set_option maxRecDepth 20000 in
theorem ggX6_about_X6_place : GoodIn wsX6_about wsX6_place := goodIn_r _ [23, 24, 25, 51, 52, 53, 54, 55, 56, 57, 58, 59, 60, 61, 62, 63, 64, 65, 66, 67, 68, 69, 70, 71, 72, 73, 74, 75, 76, 77, 78, 79, 80, 81, 82, 83, 84, 85] (by decide +kernel) (by decide +kernel)
set_option maxRecDepth 20000 in
theorem gX6_about_X6_place : GoodIn wsX6_about (wsV RX6 149 RX6 yX6_place wsX6_place) := goodIn_app (goodIn_of _ (by decide +kernel)) ggX6_about_X6_place
set_option maxRecDepth 20000 in
theorem ggX6_about_X6_planPlace : GoodIn wsX6_about wsX6_planPlace := goodIn_r _ [29, 30, 51, 52, 53, 54, 55, 56, 57, 58, 59, 60, 61, 62, 63, 64, 65, 66, 67, 68, 69, 70, 71, 72, 73, 74, 75, 76, 77, 78, 79, 80, 81, 82, 83, 84, 85] (by decide +kernel) (by decide +kernel)
set_option maxRecDepth 20000 in
theorem gX6_about_X6_planPlace : GoodIn wsX6_about (wsV RX6 185 RX6 yX6_planPlace wsX6_planPlace) := goodIn_app (goodIn_of _ (by decide +kernel)) ggX6_about_X6_planPlace
set_option maxRecDepth 20000 in
theorem ggX6_about_X6_pending : GoodIn wsX6_about wsX6_pending := goodIn_r _ [34, 1, 35, 36, 37, 9, 38, 39, 40, 41, 42, 51, 52, 53, 54, 55, 56, 57, 58, 59, 60, 61, 62, 63, 64, 65, 66, 67, 68, 69, 70, 71, 72, 73, 74, 75, 76, 77, 78, 79, 80, 81, 82, 83, 84, 85] (by decide +kernel) (by decide +kernel)
set_option maxRecDepth 20000 in
theorem gX6_about_X6_pending : GoodIn wsX6_about (wsV RX6 140 RX6 yX6_pending wsX6_pending) := goodIn_app (goodIn_of _ (by decide +kernel)) ggX6_about_X6_pending
set_option maxRecDepth 20000 in
theorem ggX6_about_X6_late : GoodIn wsX6_about wsX6_late := goodIn_r _ [46, 47, 1, 48, 49, 50, 35, 36, 37, 9, 38, 39, 40, 41, 42, 51, 52, 53, 54, 55, 56, 57, 58, 59, 60, 61, 62, 63, 64, 65, 66, 67, 68, 69, 70, 71, 72, 73, 74, 75, 76, 77, 78, 79, 80, 81, 82, 83, 84, 85] (by decide +kernel) (by decide +kernel)
set_option maxRecDepth 20000 in
theorem gX6_about_X6_late : GoodIn wsX6_about (wsV RX6 188 RX6 yX6_late wsX6_late) := goodIn_app (goodIn_of _ (by decide +kernel)) ggX6_about_X6_late
theorem dX6_about_0 : decode cX6_about 0 = .ok (.aload_n 0, 1) := by decide +kernel
theorem dX6_about_1 : decode cX6_about 1 = .ok (.aload_n 0, 1) := by decide +kernel
theorem dX6_about_2 : decode cX6_about 2 = .ok (.iload_n 1, 1) := by decide +kernel
theorem dX6_about_3 : decode cX6_about 3 = .ok (.invokevirtual 115, 3) := by decide +kernel
theorem dX6_about_6 : decode cX6_about 6 = .ok (.iload_n 2, 1) := by decide +kernel
theorem dX6_about_7 : decode cX6_about 7 = .ok (.iconst 0, 1) := by decide +kernel
theorem dX6_about_8 : decode cX6_about 8 = .ok (.bipush 8, 2) := by decide +kernel
theorem dX6_about_10 : decode cX6_about 10 = .ok (.invokestatic 111, 3) := by decide +kernel
theorem dX6_about_13 : decode cX6_about 13 = .ok (.iconst 1, 1) := by decide +kernel
theorem dX6_about_14 : decode cX6_about 14 = .ok (.invokevirtual 119, 3) := by decide +kernel
theorem dX6_about_17 : decode cX6_about 17 = .ok (.ifCond .ne 5, 3) := by decide +kernel
theorem dX6_about_20 : decode cX6_about 20 = .ok (.iconst 0, 1) := by decide +kernel
theorem dX6_about_21 : decode cX6_about 21 = .ok (.ireturn, 1) := by decide +kernel
theorem dX6_about_22 : decode cX6_about 22 = .ok (.iload_n 2, 1) := by decide +kernel
theorem dX6_about_23 : decode cX6_about 23 = .ok (.tableswitch 106 0 7 #[45, 51, 57, 63, 70, 77, 84, 91], 45) := by decide +kernel
theorem dX6_about_68 : decode cX6_about 68 = .ok (.aload_n 0, 1) := by decide +kernel
theorem dX6_about_69 : decode cX6_about 69 = .ok (.iload_n 1, 1) := by decide +kernel
theorem dX6_about_70 : decode cX6_about 70 = .ok (.invokevirtual 149, 3) := by decide +kernel
theorem dX6_about_73 : decode cX6_about 73 = .ok (.ireturn, 1) := by decide +kernel
theorem dX6_about_74 : decode cX6_about 74 = .ok (.aload_n 0, 1) := by decide +kernel
theorem dX6_about_75 : decode cX6_about 75 = .ok (.iload_n 1, 1) := by decide +kernel
theorem dX6_about_76 : decode cX6_about 76 = .ok (.invokevirtual 185, 3) := by decide +kernel
theorem dX6_about_79 : decode cX6_about 79 = .ok (.ireturn, 1) := by decide +kernel
theorem dX6_about_80 : decode cX6_about 80 = .ok (.aload_n 0, 1) := by decide +kernel
theorem dX6_about_81 : decode cX6_about 81 = .ok (.iload_n 1, 1) := by decide +kernel
theorem dX6_about_82 : decode cX6_about 82 = .ok (.invokevirtual 140, 3) := by decide +kernel
theorem dX6_about_85 : decode cX6_about 85 = .ok (.ireturn, 1) := by decide +kernel
theorem dX6_about_86 : decode cX6_about 86 = .ok (.aload_n 0, 1) := by decide +kernel
theorem dX6_about_87 : decode cX6_about 87 = .ok (.getfield 38, 3) := by decide +kernel
theorem dX6_about_90 : decode cX6_about 90 = .ok (.iload_n 1, 1) := by decide +kernel
theorem dX6_about_91 : decode cX6_about 91 = .ok (.iaload, 1) := by decide +kernel
theorem dX6_about_92 : decode cX6_about 92 = .ok (.ireturn, 1) := by decide +kernel
theorem dX6_about_93 : decode cX6_about 93 = .ok (.aload_n 0, 1) := by decide +kernel
theorem dX6_about_94 : decode cX6_about 94 = .ok (.getfield 41, 3) := by decide +kernel
theorem dX6_about_97 : decode cX6_about 97 = .ok (.iload_n 1, 1) := by decide +kernel
theorem dX6_about_98 : decode cX6_about 98 = .ok (.iaload, 1) := by decide +kernel
theorem dX6_about_99 : decode cX6_about 99 = .ok (.ireturn, 1) := by decide +kernel
theorem dX6_about_100 : decode cX6_about 100 = .ok (.aload_n 0, 1) := by decide +kernel
theorem dX6_about_101 : decode cX6_about 101 = .ok (.getfield 44, 3) := by decide +kernel
theorem dX6_about_104 : decode cX6_about 104 = .ok (.iload_n 1, 1) := by decide +kernel
theorem dX6_about_105 : decode cX6_about 105 = .ok (.iaload, 1) := by decide +kernel
theorem dX6_about_106 : decode cX6_about 106 = .ok (.ireturn, 1) := by decide +kernel
theorem dX6_about_107 : decode cX6_about 107 = .ok (.aload_n 0, 1) := by decide +kernel
theorem dX6_about_108 : decode cX6_about 108 = .ok (.getfield 50, 3) := by decide +kernel
theorem dX6_about_111 : decode cX6_about 111 = .ok (.iload_n 1, 1) := by decide +kernel
theorem dX6_about_112 : decode cX6_about 112 = .ok (.iaload, 1) := by decide +kernel
theorem dX6_about_113 : decode cX6_about 113 = .ok (.ireturn, 1) := by decide +kernel
theorem dX6_about_114 : decode cX6_about 114 = .ok (.aload_n 0, 1) := by decide +kernel
theorem dX6_about_115 : decode cX6_about 115 = .ok (.getfield 13, 3) := by decide +kernel
theorem dX6_about_118 : decode cX6_about 118 = .ok (.iload_n 1, 1) := by decide +kernel
theorem dX6_about_119 : decode cX6_about 119 = .ok (.baload, 1) := by decide +kernel
theorem dX6_about_120 : decode cX6_about 120 = .ok (.ifCond .eq 7, 3) := by decide +kernel
theorem dX6_about_123 : decode cX6_about 123 = .ok (.iconst 1, 1) := by decide +kernel
theorem dX6_about_124 : decode cX6_about 124 = .ok (.goto 4, 3) := by decide +kernel
theorem dX6_about_127 : decode cX6_about 127 = .ok (.iconst 0, 1) := by decide +kernel
theorem dX6_about_128 : decode cX6_about 128 = .ok (.ireturn, 1) := by decide +kernel
theorem dX6_about_129 : decode cX6_about 129 = .ok (.aload_n 0, 1) := by decide +kernel
theorem dX6_about_130 : decode cX6_about 130 = .ok (.iload_n 1, 1) := by decide +kernel
theorem dX6_about_131 : decode cX6_about 131 = .ok (.invokevirtual 188, 3) := by decide +kernel
theorem dX6_about_134 : decode cX6_about 134 = .ok (.ireturn, 1) := by decide +kernel
set_option maxRecDepth 20000 in
theorem ggX6_witness_X6_within : GoodIn wsX6_witness wsX6_within := goodIn_r _ [8] (by decide +kernel) (by decide +kernel)
set_option maxRecDepth 20000 in
theorem gX6_witness_X6_within : GoodIn wsX6_witness (va_wsS RX6 111 yX6_within wsX6_within) := goodIn_app (goodIn_of _ (by decide +kernel)) ggX6_witness_X6_within
set_option maxRecDepth 20000 in
theorem ggX6_witness_X6_goes : GoodIn wsX6_witness wsX6_goes := goodIn_r _ [12, 13, 14, 15, 16, 17, 18, 19, 20, 21, 22, 23, 24, 25, 26, 27, 28, 29, 30, 31, 32, 33, 34, 35, 36, 37, 38, 39, 40, 41, 42, 43, 44, 45, 46, 47, 48] (by decide +kernel) (by decide +kernel)
set_option maxRecDepth 20000 in
theorem gX6_witness_X6_goes : GoodIn wsX6_witness (wsV RX6 119 RX6 yX6_goes wsX6_goes) := goodIn_app (goodIn_of _ (by decide +kernel)) ggX6_witness_X6_goes
theorem dX6_witness_0 : decode cX6_witness 0 = .ok (.iload_n 1, 1) := by decide +kernel
theorem dX6_witness_1 : decode cX6_witness 1 = .ok (.istore_n 3, 1) := by decide +kernel
theorem dX6_witness_2 : decode cX6_witness 2 = .ok (.iconst (-1), 1) := by decide +kernel
theorem dX6_witness_3 : decode cX6_witness 3 = .ok (.istore 4, 2) := by decide +kernel
theorem dX6_witness_5 : decode cX6_witness 5 = .ok (.iconst 0, 1) := by decide +kernel
theorem dX6_witness_6 : decode cX6_witness 6 = .ok (.istore 5, 2) := by decide +kernel
theorem dX6_witness_8 : decode cX6_witness 8 = .ok (.iconst 0, 1) := by decide +kernel
theorem dX6_witness_9 : decode cX6_witness 9 = .ok (.istore 6, 2) := by decide +kernel
theorem dX6_witness_11 : decode cX6_witness 11 = .ok (.iload 6, 2) := by decide +kernel
theorem dX6_witness_13 : decode cX6_witness 13 = .ok (.aload_n 0, 1) := by decide +kernel
theorem dX6_witness_14 : decode cX6_witness 14 = .ok (.getfield 108, 3) := by decide +kernel
theorem dX6_witness_17 : decode cX6_witness 17 = .ok (.if_icmp .ge 69, 3) := by decide +kernel
theorem dX6_witness_20 : decode cX6_witness 20 = .ok (.iload_n 3, 1) := by decide +kernel
theorem dX6_witness_21 : decode cX6_witness 21 = .ok (.ifCond .lt 65, 3) := by decide +kernel
theorem dX6_witness_24 : decode cX6_witness 24 = .ok (.iconst 0, 1) := by decide +kernel
theorem dX6_witness_25 : decode cX6_witness 25 = .ok (.istore 7, 2) := by decide +kernel
theorem dX6_witness_27 : decode cX6_witness 27 = .ok (.iload 7, 2) := by decide +kernel
theorem dX6_witness_29 : decode cX6_witness 29 = .ok (.aload_n 0, 1) := by decide +kernel
theorem dX6_witness_30 : decode cX6_witness 30 = .ok (.getfield 105, 3) := by decide +kernel
theorem dX6_witness_33 : decode cX6_witness 33 = .ok (.if_icmp .ge 47, 3) := by decide +kernel
theorem dX6_witness_36 : decode cX6_witness 36 = .ok (.iload_n 3, 1) := by decide +kernel
theorem dX6_witness_37 : decode cX6_witness 37 = .ok (.ifCond .lt 43, 3) := by decide +kernel
theorem dX6_witness_40 : decode cX6_witness 40 = .ok (.iload 6, 2) := by decide +kernel
theorem dX6_witness_42 : decode cX6_witness 42 = .ok (.aload_n 0, 1) := by decide +kernel
theorem dX6_witness_43 : decode cX6_witness 43 = .ok (.getfield 74, 3) := by decide +kernel
theorem dX6_witness_46 : decode cX6_witness 46 = .ok (.iload 7, 2) := by decide +kernel
theorem dX6_witness_48 : decode cX6_witness 48 = .ok (.iaload, 1) := by decide +kernel
theorem dX6_witness_49 : decode cX6_witness 49 = .ok (.irem, 1) := by decide +kernel
theorem dX6_witness_50 : decode cX6_witness 50 = .ok (.ifCond .ne 9, 3) := by decide +kernel
theorem dX6_witness_53 : decode cX6_witness 53 = .ok (.iload_n 3, 1) := by decide +kernel
theorem dX6_witness_54 : decode cX6_witness 54 = .ok (.iconst 1, 1) := by decide +kernel
theorem dX6_witness_55 : decode cX6_witness 55 = .ok (.isub, 1) := by decide +kernel
theorem dX6_witness_56 : decode cX6_witness 56 = .ok (.goto 4, 3) := by decide +kernel
theorem dX6_witness_59 : decode cX6_witness 59 = .ok (.iload_n 3, 1) := by decide +kernel
theorem dX6_witness_60 : decode cX6_witness 60 = .ok (.istore_n 3, 1) := by decide +kernel
theorem dX6_witness_61 : decode cX6_witness 61 = .ok (.iload 6, 2) := by decide +kernel
theorem dX6_witness_63 : decode cX6_witness 63 = .ok (.istore 4, 2) := by decide +kernel
theorem dX6_witness_65 : decode cX6_witness 65 = .ok (.aload_n 0, 1) := by decide +kernel
theorem dX6_witness_66 : decode cX6_witness 66 = .ok (.getfield 71, 3) := by decide +kernel
theorem dX6_witness_69 : decode cX6_witness 69 = .ok (.iload 7, 2) := by decide +kernel
theorem dX6_witness_71 : decode cX6_witness 71 = .ok (.iaload, 1) := by decide +kernel
theorem dX6_witness_72 : decode cX6_witness 72 = .ok (.istore 5, 2) := by decide +kernel
theorem dX6_witness_74 : decode cX6_witness 74 = .ok (.iinc 7 1, 3) := by decide +kernel
theorem dX6_witness_77 : decode cX6_witness 77 = .ok (.goto (-50), 3) := by decide +kernel
theorem dX6_witness_80 : decode cX6_witness 80 = .ok (.iinc 6 1, 3) := by decide +kernel
theorem dX6_witness_83 : decode cX6_witness 83 = .ok (.goto (-72), 3) := by decide +kernel
theorem dX6_witness_86 : decode cX6_witness 86 = .ok (.iload_n 1, 1) := by decide +kernel
theorem dX6_witness_87 : decode cX6_witness 87 = .ok (.ifCond .lt 11, 3) := by decide +kernel
theorem dX6_witness_90 : decode cX6_witness 90 = .ok (.iload_n 3, 1) := by decide +kernel
theorem dX6_witness_91 : decode cX6_witness 91 = .ok (.ifCond .ge 7, 3) := by decide +kernel
theorem dX6_witness_94 : decode cX6_witness 94 = .ok (.iconst 1, 1) := by decide +kernel
theorem dX6_witness_95 : decode cX6_witness 95 = .ok (.goto 4, 3) := by decide +kernel
theorem dX6_witness_98 : decode cX6_witness 98 = .ok (.iconst 0, 1) := by decide +kernel
theorem dX6_witness_99 : decode cX6_witness 99 = .ok (.istore 6, 2) := by decide +kernel
theorem dX6_witness_101 : decode cX6_witness 101 = .ok (.aload_n 0, 1) := by decide +kernel
theorem dX6_witness_102 : decode cX6_witness 102 = .ok (.iload 6, 2) := by decide +kernel
theorem dX6_witness_104 : decode cX6_witness 104 = .ok (.iload_n 2, 1) := by decide +kernel
theorem dX6_witness_105 : decode cX6_witness 105 = .ok (.iconst 0, 1) := by decide +kernel
theorem dX6_witness_106 : decode cX6_witness 106 = .ok (.iconst 1, 1) := by decide +kernel
theorem dX6_witness_107 : decode cX6_witness 107 = .ok (.invokestatic 111, 3) := by decide +kernel
theorem dX6_witness_110 : decode cX6_witness 110 = .ok (.iconst 1, 1) := by decide +kernel
theorem dX6_witness_111 : decode cX6_witness 111 = .ok (.invokevirtual 119, 3) := by decide +kernel
theorem dX6_witness_114 : decode cX6_witness 114 = .ok (.ifCond .ne 5, 3) := by decide +kernel
theorem dX6_witness_117 : decode cX6_witness 117 = .ok (.iconst 0, 1) := by decide +kernel
theorem dX6_witness_118 : decode cX6_witness 118 = .ok (.ireturn, 1) := by decide +kernel
theorem dX6_witness_119 : decode cX6_witness 119 = .ok (.iload_n 2, 1) := by decide +kernel
theorem dX6_witness_120 : decode cX6_witness 120 = .ok (.ifCond .ne 8, 3) := by decide +kernel
theorem dX6_witness_123 : decode cX6_witness 123 = .ok (.iload 4, 2) := by decide +kernel
theorem dX6_witness_125 : decode cX6_witness 125 = .ok (.goto 5, 3) := by decide +kernel
theorem dX6_witness_128 : decode cX6_witness 128 = .ok (.iload 5, 2) := by decide +kernel
theorem dX6_witness_130 : decode cX6_witness 130 = .ok (.ireturn, 1) := by decide +kernel
set_option maxRecDepth 20000 in
theorem ggX6_trace_X6_goes : GoodIn wsX6_trace wsX6_goes := goodIn_r _ [7, 8, 9, 10, 11, 12, 13, 14, 15, 16, 17, 18, 19, 20, 21, 22, 23, 24, 25, 26, 27, 28, 29, 30, 31, 32, 33, 34, 35, 36, 37, 38, 39, 40, 41, 42, 43] (by decide +kernel) (by decide +kernel)
set_option maxRecDepth 20000 in
theorem gX6_trace_X6_goes : GoodIn wsX6_trace (wsV RX6 119 RX6 yX6_goes wsX6_goes) := goodIn_app (goodIn_of _ (by decide +kernel)) ggX6_trace_X6_goes
theorem dX6_trace_0 : decode cX6_trace 0 = .ok (.aload_n 0, 1) := by decide +kernel
theorem dX6_trace_1 : decode cX6_trace 1 = .ok (.iload_n 1, 1) := by decide +kernel
theorem dX6_trace_2 : decode cX6_trace 2 = .ok (.ifCond .lt 22, 3) := by decide +kernel
theorem dX6_trace_5 : decode cX6_trace 5 = .ok (.iload_n 1, 1) := by decide +kernel
theorem dX6_trace_6 : decode cX6_trace 6 = .ok (.sipush 256, 3) := by decide +kernel
theorem dX6_trace_9 : decode cX6_trace 9 = .ok (.if_icmp .ge 15, 3) := by decide +kernel
theorem dX6_trace_12 : decode cX6_trace 12 = .ok (.iload_n 1, 1) := by decide +kernel
theorem dX6_trace_13 : decode cX6_trace 13 = .ok (.aload_n 0, 1) := by decide +kernel
theorem dX6_trace_14 : decode cX6_trace 14 = .ok (.getfield 152, 3) := by decide +kernel
theorem dX6_trace_17 : decode cX6_trace 17 = .ok (.if_icmp .ge 7, 3) := by decide +kernel
theorem dX6_trace_20 : decode cX6_trace 20 = .ok (.iconst 1, 1) := by decide +kernel
theorem dX6_trace_21 : decode cX6_trace 21 = .ok (.goto 4, 3) := by decide +kernel
theorem dX6_trace_24 : decode cX6_trace 24 = .ok (.iconst 0, 1) := by decide +kernel
theorem dX6_trace_25 : decode cX6_trace 25 = .ok (.iconst 1, 1) := by decide +kernel
theorem dX6_trace_26 : decode cX6_trace 26 = .ok (.iconst 1, 1) := by decide +kernel
theorem dX6_trace_27 : decode cX6_trace 27 = .ok (.invokevirtual 119, 3) := by decide +kernel
theorem dX6_trace_30 : decode cX6_trace 30 = .ok (.ifCond .eq 23, 3) := by decide +kernel
theorem dX6_trace_33 : decode cX6_trace 33 = .ok (.aload_n 0, 1) := by decide +kernel
theorem dX6_trace_34 : decode cX6_trace 34 = .ok (.getfield 68, 3) := by decide +kernel
theorem dX6_trace_37 : decode cX6_trace 37 = .ok (.aload_n 0, 1) := by decide +kernel
theorem dX6_trace_38 : decode cX6_trace 38 = .ok (.getfield 152, 3) := by decide +kernel
theorem dX6_trace_41 : decode cX6_trace 41 = .ok (.iconst 1, 1) := by decide +kernel
theorem dX6_trace_42 : decode cX6_trace 42 = .ok (.isub, 1) := by decide +kernel
theorem dX6_trace_43 : decode cX6_trace 43 = .ok (.iload_n 1, 1) := by decide +kernel
theorem dX6_trace_44 : decode cX6_trace 44 = .ok (.isub, 1) := by decide +kernel
theorem dX6_trace_45 : decode cX6_trace 45 = .ok (.sipush 256, 3) := by decide +kernel
theorem dX6_trace_48 : decode cX6_trace 48 = .ok (.irem, 1) := by decide +kernel
theorem dX6_trace_49 : decode cX6_trace 49 = .ok (.iaload, 1) := by decide +kernel
theorem dX6_trace_50 : decode cX6_trace 50 = .ok (.goto 4, 3) := by decide +kernel
theorem dX6_trace_53 : decode cX6_trace 53 = .ok (.iconst 0, 1) := by decide +kernel
theorem dX6_trace_54 : decode cX6_trace 54 = .ok (.ireturn, 1) := by decide +kernel
set_option maxRecDepth 20000 in
theorem ggX6_changed_X6_goes : GoodIn wsX6_changed wsX6_goes := goodIn_r _ [7, 8, 9, 10, 11, 12, 13, 14, 15, 16, 17, 18, 19, 20, 21, 22, 23, 24, 25, 26, 27, 28, 29, 30, 31, 32, 33, 34, 35, 36, 37, 38, 39, 40, 41, 42, 43] (by decide +kernel) (by decide +kernel)
set_option maxRecDepth 20000 in
theorem gX6_changed_X6_goes : GoodIn wsX6_changed (wsV RX6 119 RX6 yX6_goes wsX6_goes) := goodIn_app (goodIn_of _ (by decide +kernel)) ggX6_changed_X6_goes
theorem dX6_changed_0 : decode cX6_changed 0 = .ok (.aload_n 0, 1) := by decide +kernel
theorem dX6_changed_1 : decode cX6_changed 1 = .ok (.iload_n 1, 1) := by decide +kernel
theorem dX6_changed_2 : decode cX6_changed 2 = .ok (.ifCond .lt 21, 3) := by decide +kernel
theorem dX6_changed_5 : decode cX6_changed 5 = .ok (.iload_n 1, 1) := by decide +kernel
theorem dX6_changed_6 : decode cX6_changed 6 = .ok (.bipush 8, 2) := by decide +kernel
theorem dX6_changed_8 : decode cX6_changed 8 = .ok (.if_icmp .ge 15, 3) := by decide +kernel
theorem dX6_changed_11 : decode cX6_changed 11 = .ok (.iload_n 1, 1) := by decide +kernel
theorem dX6_changed_12 : decode cX6_changed 12 = .ok (.aload_n 0, 1) := by decide +kernel
theorem dX6_changed_13 : decode cX6_changed 13 = .ok (.getfield 164, 3) := by decide +kernel
theorem dX6_changed_16 : decode cX6_changed 16 = .ok (.if_icmp .ge 7, 3) := by decide +kernel
theorem dX6_changed_19 : decode cX6_changed 19 = .ok (.iconst 1, 1) := by decide +kernel
theorem dX6_changed_20 : decode cX6_changed 20 = .ok (.goto 4, 3) := by decide +kernel
theorem dX6_changed_23 : decode cX6_changed 23 = .ok (.iconst 0, 1) := by decide +kernel
theorem dX6_changed_24 : decode cX6_changed 24 = .ok (.iconst 1, 1) := by decide +kernel
theorem dX6_changed_25 : decode cX6_changed 25 = .ok (.iconst 1, 1) := by decide +kernel
theorem dX6_changed_26 : decode cX6_changed 26 = .ok (.invokevirtual 119, 3) := by decide +kernel
theorem dX6_changed_29 : decode cX6_changed 29 = .ok (.ifCond .eq 22, 3) := by decide +kernel
theorem dX6_changed_32 : decode cX6_changed 32 = .ok (.aload_n 0, 1) := by decide +kernel
theorem dX6_changed_33 : decode cX6_changed 33 = .ok (.getfield 65, 3) := by decide +kernel
theorem dX6_changed_36 : decode cX6_changed 36 = .ok (.aload_n 0, 1) := by decide +kernel
theorem dX6_changed_37 : decode cX6_changed 37 = .ok (.getfield 164, 3) := by decide +kernel
theorem dX6_changed_40 : decode cX6_changed 40 = .ok (.iconst 1, 1) := by decide +kernel
theorem dX6_changed_41 : decode cX6_changed 41 = .ok (.isub, 1) := by decide +kernel
theorem dX6_changed_42 : decode cX6_changed 42 = .ok (.iload_n 1, 1) := by decide +kernel
theorem dX6_changed_43 : decode cX6_changed 43 = .ok (.isub, 1) := by decide +kernel
theorem dX6_changed_44 : decode cX6_changed 44 = .ok (.bipush 8, 2) := by decide +kernel
theorem dX6_changed_46 : decode cX6_changed 46 = .ok (.irem, 1) := by decide +kernel
theorem dX6_changed_47 : decode cX6_changed 47 = .ok (.iaload, 1) := by decide +kernel
theorem dX6_changed_48 : decode cX6_changed 48 = .ok (.goto 4, 3) := by decide +kernel
theorem dX6_changed_51 : decode cX6_changed 51 = .ok (.iconst 0, 1) := by decide +kernel
theorem dX6_changed_52 : decode cX6_changed 52 = .ok (.ireturn, 1) := by decide +kernel
set_option maxRecDepth 20000 in
theorem ggX6_sum_X6_pending : GoodIn wsX6_sum wsX6_pending := goodIn_r _ [6, 7, 8, 9, 10, 5, 11, 12, 13, 14, 15, 16, 17, 18, 19, 20, 21, 22, 23, 24, 25, 26, 27, 28, 29, 30, 31, 32, 33, 34, 35, 36, 37, 38, 39, 40, 41, 42, 43, 44, 45, 46, 47, 48, 49, 50] (by decide +kernel) (by decide +kernel)
set_option maxRecDepth 20000 in
theorem gX6_sum_X6_pending : GoodIn wsX6_sum (wsV RX6 140 RX6 yX6_pending wsX6_pending) := goodIn_app (goodIn_of _ (by decide +kernel)) ggX6_sum_X6_pending
theorem dX6_sum_0 : decode cX6_sum 0 = .ok (.iconst 0, 1) := by decide +kernel
theorem dX6_sum_1 : decode cX6_sum 1 = .ok (.istore_n 2, 1) := by decide +kernel
theorem dX6_sum_2 : decode cX6_sum 2 = .ok (.iconst 1, 1) := by decide +kernel
theorem dX6_sum_3 : decode cX6_sum 3 = .ok (.istore_n 3, 1) := by decide +kernel
theorem dX6_sum_4 : decode cX6_sum 4 = .ok (.iload_n 3, 1) := by decide +kernel
theorem dX6_sum_5 : decode cX6_sum 5 = .ok (.bipush 13, 2) := by decide +kernel
theorem dX6_sum_7 : decode cX6_sum 7 = .ok (.if_icmp .ge 58, 3) := by decide +kernel
theorem dX6_sum_10 : decode cX6_sum 10 = .ok (.aload_n 0, 1) := by decide +kernel
theorem dX6_sum_11 : decode cX6_sum 11 = .ok (.getfield 7, 3) := by decide +kernel
theorem dX6_sum_14 : decode cX6_sum 14 = .ok (.iload_n 3, 1) := by decide +kernel
theorem dX6_sum_15 : decode cX6_sum 15 = .ok (.baload, 1) := by decide +kernel
theorem dX6_sum_16 : decode cX6_sum 16 = .ok (.ifCond .eq 14, 3) := by decide +kernel
theorem dX6_sum_19 : decode cX6_sum 19 = .ok (.iload_n 1, 1) := by decide +kernel
theorem dX6_sum_20 : decode cX6_sum 20 = .ok (.iconst 4, 1) := by decide +kernel
theorem dX6_sum_21 : decode cX6_sum 21 = .ok (.if_icmp .ne 9, 3) := by decide +kernel
theorem dX6_sum_24 : decode cX6_sum 24 = .ok (.iload_n 2, 1) := by decide +kernel
theorem dX6_sum_25 : decode cX6_sum 25 = .ok (.iconst 1, 1) := by decide +kernel
theorem dX6_sum_26 : decode cX6_sum 26 = .ok (.iadd, 1) := by decide +kernel
theorem dX6_sum_27 : decode cX6_sum 27 = .ok (.goto 4, 3) := by decide +kernel
theorem dX6_sum_30 : decode cX6_sum 30 = .ok (.iload_n 2, 1) := by decide +kernel
theorem dX6_sum_31 : decode cX6_sum 31 = .ok (.istore_n 2, 1) := by decide +kernel
theorem dX6_sum_32 : decode cX6_sum 32 = .ok (.aload_n 0, 1) := by decide +kernel
theorem dX6_sum_33 : decode cX6_sum 33 = .ok (.getfield 7, 3) := by decide +kernel
theorem dX6_sum_36 : decode cX6_sum 36 = .ok (.iload_n 3, 1) := by decide +kernel
theorem dX6_sum_37 : decode cX6_sum 37 = .ok (.baload, 1) := by decide +kernel
theorem dX6_sum_38 : decode cX6_sum 38 = .ok (.ifCond .eq 19, 3) := by decide +kernel
theorem dX6_sum_41 : decode cX6_sum 41 = .ok (.iload_n 1, 1) := by decide +kernel
theorem dX6_sum_42 : decode cX6_sum 42 = .ok (.bipush 6, 2) := by decide +kernel
theorem dX6_sum_44 : decode cX6_sum 44 = .ok (.if_icmp .ne 13, 3) := by decide +kernel
theorem dX6_sum_47 : decode cX6_sum 47 = .ok (.iload_n 2, 1) := by decide +kernel
theorem dX6_sum_48 : decode cX6_sum 48 = .ok (.aload_n 0, 1) := by decide +kernel
theorem dX6_sum_49 : decode cX6_sum 49 = .ok (.iload_n 3, 1) := by decide +kernel
theorem dX6_sum_50 : decode cX6_sum 50 = .ok (.invokevirtual 140, 3) := by decide +kernel
theorem dX6_sum_53 : decode cX6_sum 53 = .ok (.iadd, 1) := by decide +kernel
theorem dX6_sum_54 : decode cX6_sum 54 = .ok (.goto 4, 3) := by decide +kernel
theorem dX6_sum_57 : decode cX6_sum 57 = .ok (.iload_n 2, 1) := by decide +kernel
theorem dX6_sum_58 : decode cX6_sum 58 = .ok (.istore_n 2, 1) := by decide +kernel
theorem dX6_sum_59 : decode cX6_sum 59 = .ok (.iinc 3 1, 3) := by decide +kernel
theorem dX6_sum_62 : decode cX6_sum 62 = .ok (.goto (-58), 3) := by decide +kernel
theorem dX6_sum_65 : decode cX6_sum 65 = .ok (.iload_n 2, 1) := by decide +kernel
theorem dX6_sum_66 : decode cX6_sum 66 = .ok (.ireturn, 1) := by decide +kernel
set_option maxRecDepth 20000 in
theorem ggX6_count_X6_within : GoodIn wsX6_count wsX6_within := goodIn_r _ [11] (by decide +kernel) (by decide +kernel)
set_option maxRecDepth 20000 in
theorem gX6_count_X6_within : GoodIn wsX6_count (va_wsS RX6 111 yX6_within wsX6_within) := goodIn_app (goodIn_of _ (by decide +kernel)) ggX6_count_X6_within
set_option maxRecDepth 20000 in
theorem ggX6_count_X6_goes : GoodIn wsX6_count wsX6_goes := goodIn_r _ [15, 16, 35, 36, 37, 38, 39, 40, 41, 42, 43, 44, 45, 46, 47, 48, 49, 50, 51, 52, 53, 54, 55, 56, 57, 58, 59, 60, 61, 62, 63, 64, 65, 66, 67, 68, 69] (by decide +kernel) (by decide +kernel)
set_option maxRecDepth 20000 in
theorem gX6_count_X6_goes : GoodIn wsX6_count (wsV RX6 119 RX6 yX6_goes wsX6_goes) := goodIn_app (goodIn_of _ (by decide +kernel)) ggX6_count_X6_goes
set_option maxRecDepth 20000 in
theorem ggX6_count_X6_sum : GoodIn wsX6_count wsX6_sum := goodIn_r _ [20, 21, 22, 23, 24, 10, 25, 26, 27, 28, 29, 30, 31, 32, 33, 34, 35, 36, 37, 38, 39, 40, 41, 42, 43, 44, 45, 46, 47, 48, 49, 50, 51, 52, 53, 54, 55, 56, 57, 58, 59, 60, 61, 62, 63, 64, 65, 66, 67, 68, 69] (by decide +kernel) (by decide +kernel)
set_option maxRecDepth 20000 in
theorem gX6_count_X6_sum : GoodIn wsX6_count (wsV RX6 191 RX6 yX6_sum wsX6_sum) := goodIn_app (goodIn_of _ (by decide +kernel)) ggX6_count_X6_sum
theorem dX6_count_0 : decode cX6_count 0 = .ok (.aload_n 0, 1) := by decide +kernel
theorem dX6_count_1 : decode cX6_count 1 = .ok (.iload_n 1, 1) := by decide +kernel
theorem dX6_count_2 : decode cX6_count 2 = .ok (.iconst 0, 1) := by decide +kernel
theorem dX6_count_3 : decode cX6_count 3 = .ok (.bipush 8, 2) := by decide +kernel
theorem dX6_count_5 : decode cX6_count 5 = .ok (.invokestatic 111, 3) := by decide +kernel
theorem dX6_count_8 : decode cX6_count 8 = .ok (.iconst 1, 1) := by decide +kernel
theorem dX6_count_9 : decode cX6_count 9 = .ok (.iconst 1, 1) := by decide +kernel
theorem dX6_count_10 : decode cX6_count 10 = .ok (.invokevirtual 119, 3) := by decide +kernel
theorem dX6_count_13 : decode cX6_count 13 = .ok (.ifCond .ne 5, 3) := by decide +kernel
theorem dX6_count_16 : decode cX6_count 16 = .ok (.iconst 0, 1) := by decide +kernel
theorem dX6_count_17 : decode cX6_count 17 = .ok (.ireturn, 1) := by decide +kernel
theorem dX6_count_18 : decode cX6_count 18 = .ok (.iload_n 1, 1) := by decide +kernel
theorem dX6_count_19 : decode cX6_count 19 = .ok (.tableswitch 89 0 8 #[49, 54, 59, 64, 89, 69, 89, 74, 79], 49) := by decide +kernel
theorem dX6_count_68 : decode cX6_count 68 = .ok (.aload_n 0, 1) := by decide +kernel
theorem dX6_count_69 : decode cX6_count 69 = .ok (.getfield 152, 3) := by decide +kernel
theorem dX6_count_72 : decode cX6_count 72 = .ok (.ireturn, 1) := by decide +kernel
theorem dX6_count_73 : decode cX6_count 73 = .ok (.aload_n 0, 1) := by decide +kernel
theorem dX6_count_74 : decode cX6_count 74 = .ok (.getfield 173, 3) := by decide +kernel
theorem dX6_count_77 : decode cX6_count 77 = .ok (.ireturn, 1) := by decide +kernel
theorem dX6_count_78 : decode cX6_count 78 = .ok (.aload_n 0, 1) := by decide +kernel
theorem dX6_count_79 : decode cX6_count 79 = .ok (.getfield 155, 3) := by decide +kernel
theorem dX6_count_82 : decode cX6_count 82 = .ok (.ireturn, 1) := by decide +kernel
theorem dX6_count_83 : decode cX6_count 83 = .ok (.aload_n 0, 1) := by decide +kernel
theorem dX6_count_84 : decode cX6_count 84 = .ok (.getfield 164, 3) := by decide +kernel
theorem dX6_count_87 : decode cX6_count 87 = .ok (.ireturn, 1) := by decide +kernel
theorem dX6_count_88 : decode cX6_count 88 = .ok (.aload_n 0, 1) := by decide +kernel
theorem dX6_count_89 : decode cX6_count 89 = .ok (.getfield 143, 3) := by decide +kernel
theorem dX6_count_92 : decode cX6_count 92 = .ok (.ireturn, 1) := by decide +kernel
theorem dX6_count_93 : decode cX6_count 93 = .ok (.aload_n 0, 1) := by decide +kernel
theorem dX6_count_94 : decode cX6_count 94 = .ok (.getfield 158, 3) := by decide +kernel
theorem dX6_count_97 : decode cX6_count 97 = .ok (.ireturn, 1) := by decide +kernel
theorem dX6_count_98 : decode cX6_count 98 = .ok (.aload_n 0, 1) := by decide +kernel
theorem dX6_count_99 : decode cX6_count 99 = .ok (.getfield 152, 3) := by decide +kernel
theorem dX6_count_102 : decode cX6_count 102 = .ok (.aload_n 0, 1) := by decide +kernel
theorem dX6_count_103 : decode cX6_count 103 = .ok (.getfield 176, 3) := by decide +kernel
theorem dX6_count_106 : decode cX6_count 106 = .ok (.isub, 1) := by decide +kernel
theorem dX6_count_107 : decode cX6_count 107 = .ok (.ireturn, 1) := by decide +kernel
theorem dX6_count_108 : decode cX6_count 108 = .ok (.aload_n 0, 1) := by decide +kernel
theorem dX6_count_109 : decode cX6_count 109 = .ok (.iload_n 1, 1) := by decide +kernel
theorem dX6_count_110 : decode cX6_count 110 = .ok (.invokevirtual 191, 3) := by decide +kernel
theorem dX6_count_113 : decode cX6_count 113 = .ok (.ireturn, 1) := by decide +kernel
theorem dJ9_floorMod_7cf53_0 : decode cJ9_floorMod_7cf53 0 = .ok (.iload_n 0, 1) := by decide +kernel
theorem dJ9_floorMod_7cf53_1 : decode cJ9_floorMod_7cf53 1 = .ok (.iload_n 1, 1) := by decide +kernel
theorem dJ9_floorMod_7cf53_2 : decode cJ9_floorMod_7cf53 2 = .ok (.irem, 1) := by decide +kernel
theorem dJ9_floorMod_7cf53_3 : decode cJ9_floorMod_7cf53 3 = .ok (.istore_n 2, 1) := by decide +kernel
theorem dJ9_floorMod_7cf53_4 : decode cJ9_floorMod_7cf53 4 = .ok (.iload_n 0, 1) := by decide +kernel
theorem dJ9_floorMod_7cf53_5 : decode cJ9_floorMod_7cf53 5 = .ok (.iload_n 1, 1) := by decide +kernel
theorem dJ9_floorMod_7cf53_6 : decode cJ9_floorMod_7cf53 6 = .ok (.ixor, 1) := by decide +kernel
theorem dJ9_floorMod_7cf53_7 : decode cJ9_floorMod_7cf53 7 = .ok (.ifCond .ge 11, 3) := by decide +kernel
theorem dJ9_floorMod_7cf53_10 : decode cJ9_floorMod_7cf53 10 = .ok (.iload_n 2, 1) := by decide +kernel
theorem dJ9_floorMod_7cf53_11 : decode cJ9_floorMod_7cf53 11 = .ok (.ifCond .eq 7, 3) := by decide +kernel
theorem dJ9_floorMod_7cf53_14 : decode cJ9_floorMod_7cf53 14 = .ok (.iload_n 2, 1) := by decide +kernel
theorem dJ9_floorMod_7cf53_15 : decode cJ9_floorMod_7cf53 15 = .ok (.iload_n 1, 1) := by decide +kernel
theorem dJ9_floorMod_7cf53_16 : decode cJ9_floorMod_7cf53 16 = .ok (.iadd, 1) := by decide +kernel
theorem dJ9_floorMod_7cf53_17 : decode cJ9_floorMod_7cf53 17 = .ok (.ireturn, 1) := by decide +kernel
theorem dJ9_floorMod_7cf53_18 : decode cJ9_floorMod_7cf53 18 = .ok (.iload_n 2, 1) := by decide +kernel
theorem dJ9_floorMod_7cf53_19 : decode cJ9_floorMod_7cf53 19 = .ok (.ireturn, 1) := by decide +kernel
set_option maxRecDepth 20000 in
theorem ggL_add_X5_add : GoodIn wsL_add wsX5_add := goodIn_ca (goodIn_ca (goodIn_r _ [7, 8, 9, 10, 11, 12, 13, 14, 15, 16, 6, 17, 18, 19, 20, 21, 22, 23, 24, 25, 26, 27, 28, 29, 30, 31, 32, 33, 34, 35, 36, 37, 38, 39, 40, 41, 42, 43, 44, 45, 46, 47, 48, 49, 50, 51, 52, 53, 54, 55, 56, 57, 58, 59, 60, 61, 62, 63, 64, 65, 66, 67, 68, 69, 70, 71, 72, 73, 74, 75, 76, 77, 78, 79, 80, 81, 82, 83, 84, 85, 86, 87, 88, 89, 90, 91, 92, 93, 94, 95, 96, 97, 98, 99, 100, 101, 102, 103, 104, 105, 106, 107, 108, 109, 110, 111, 112, 113, 114, 115, 116, 117, 118, 119, 120, 121, 122, 123, 124, 125, 126, 127, 128, 129, 130, 131, 132, 133, 134, 135, 136, 137, 138, 139, 140, 141, 142, 143, 144, 145, 146, 147, 148, 149, 150, 151] (by decide +kernel) (by decide +kernel)) (goodIn_sub (fun _ h => List.mem_cons_of_mem _ (List.mem_append_left _ (List.mem_append_right _ h))) (by decide +kernel))) (goodIn_sub (fun _ h => List.mem_cons_of_mem _ (List.mem_append_right _ h)) (by decide +kernel))
set_option maxRecDepth 20000 in
theorem gL_add_X5_add : GoodIn wsL_add (wsV RL 7 RX5 yX5_add wsX5_add) := goodIn_app (goodIn_of _ (by decide +kernel)) ggL_add_X5_add
theorem dL_add_0 : decode cL_add 0 = .ok (.aload 6, 2) := by decide +kernel
theorem dL_add_2 : decode cL_add 2 = .ok (.iconst 0, 1) := by decide +kernel
theorem dL_add_3 : decode cL_add 3 = .ok (.aload_n 0, 1) := by decide +kernel
theorem dL_add_4 : decode cL_add 4 = .ok (.iload_n 1, 1) := by decide +kernel
theorem dL_add_5 : decode cL_add 5 = .ok (.iload_n 2, 1) := by decide +kernel
theorem dL_add_6 : decode cL_add 6 = .ok (.iload_n 3, 1) := by decide +kernel
theorem dL_add_7 : decode cL_add 7 = .ok (.iload 4, 2) := by decide +kernel
theorem dL_add_9 : decode cL_add 9 = .ok (.iload 5, 2) := by decide +kernel
theorem dL_add_11 : decode cL_add 11 = .ok (.invokevirtual 7, 3) := by decide +kernel
theorem dL_add_14 : decode cL_add 14 = .ok (.i2l, 1) := by decide +kernel
theorem dL_add_15 : decode cL_add 15 = .ok (.lastore, 1) := by decide +kernel
theorem dL_add_16 : decode cL_add 16 = .ok (.goto 11, 3) := by decide +kernel
theorem dL_add_19 : decode cL_add 19 = .ok (.astore 7, 2) := by decide +kernel
theorem dL_add_21 : decode cL_add 21 = .ok (.iconst 1, 1) := by decide +kernel
theorem dL_add_22 : decode cL_add 22 = .ok (.ireturn, 1) := by decide +kernel
theorem dL_add_23 : decode cL_add 23 = .ok (.astore 7, 2) := by decide +kernel
theorem dL_add_25 : decode cL_add 25 = .ok (.iconst 2, 1) := by decide +kernel
theorem dL_add_26 : decode cL_add 26 = .ok (.ireturn, 1) := by decide +kernel
theorem dL_add_27 : decode cL_add 27 = .ok (.iconst 0, 1) := by decide +kernel
theorem dL_add_28 : decode cL_add 28 = .ok (.ireturn, 1) := by decide +kernel
set_option maxRecDepth 20000 in
theorem ggL_remove_X5_remove : GoodIn wsL_remove wsX5_remove := goodIn_ca (goodIn_ca (goodIn_r _ [7, 8, 9, 10, 11, 12, 13, 14, 15, 6, 16, 17, 18, 19, 20, 21, 22, 23, 24, 25, 26, 27, 28, 29, 30, 31, 32, 33, 34, 35, 36, 37, 38, 39, 40, 41, 42, 43, 44, 45, 46, 47, 48, 49, 50, 51, 52, 53, 54, 55, 56, 57, 58, 59, 60, 61, 62, 63, 64, 65, 66, 67] (by decide +kernel) (by decide +kernel)) (goodIn_sub (fun _ h => List.mem_cons_of_mem _ (List.mem_append_left _ (List.mem_append_right _ h))) (by decide +kernel))) (goodIn_sub (fun _ h => List.mem_cons_of_mem _ (List.mem_append_right _ h)) (by decide +kernel))
set_option maxRecDepth 20000 in
theorem gL_remove_X5_remove : GoodIn wsL_remove (wsV RL 17 RX5 yX5_remove wsX5_remove) := goodIn_app (goodIn_of _ (by decide +kernel)) ggL_remove_X5_remove
theorem dL_remove_0 : decode cL_remove 0 = .ok (.aload_n 2, 1) := by decide +kernel
theorem dL_remove_1 : decode cL_remove 1 = .ok (.iconst 0, 1) := by decide +kernel
theorem dL_remove_2 : decode cL_remove 2 = .ok (.aload_n 0, 1) := by decide +kernel
theorem dL_remove_3 : decode cL_remove 3 = .ok (.iload_n 1, 1) := by decide +kernel
theorem dL_remove_4 : decode cL_remove 4 = .ok (.invokevirtual 17, 3) := by decide +kernel
theorem dL_remove_7 : decode cL_remove 7 = .ok (.ifCond .eq 7, 3) := by decide +kernel
theorem dL_remove_10 : decode cL_remove 10 = .ok (.lconst 1, 1) := by decide +kernel
theorem dL_remove_11 : decode cL_remove 11 = .ok (.goto 4, 3) := by decide +kernel
theorem dL_remove_14 : decode cL_remove 14 = .ok (.lconst 0, 1) := by decide +kernel
theorem dL_remove_15 : decode cL_remove 15 = .ok (.lastore, 1) := by decide +kernel
theorem dL_remove_16 : decode cL_remove 16 = .ok (.goto 9, 3) := by decide +kernel
theorem dL_remove_19 : decode cL_remove 19 = .ok (.astore_n 3, 1) := by decide +kernel
theorem dL_remove_20 : decode cL_remove 20 = .ok (.iconst 1, 1) := by decide +kernel
theorem dL_remove_21 : decode cL_remove 21 = .ok (.ireturn, 1) := by decide +kernel
theorem dL_remove_22 : decode cL_remove 22 = .ok (.astore_n 3, 1) := by decide +kernel
theorem dL_remove_23 : decode cL_remove 23 = .ok (.iconst 2, 1) := by decide +kernel
theorem dL_remove_24 : decode cL_remove 24 = .ok (.ireturn, 1) := by decide +kernel
theorem dL_remove_25 : decode cL_remove 25 = .ok (.iconst 0, 1) := by decide +kernel
theorem dL_remove_26 : decode cL_remove 26 = .ok (.ireturn, 1) := by decide +kernel
set_option maxRecDepth 20000 in
theorem ggL_release_X5_release : GoodIn wsL_release wsX5_release := goodIn_ca (goodIn_ca (goodIn_ca (goodIn_r _ [8, 9, 10, 11, 12, 13, 14, 15, 16, 17, 18, 19, 20, 7, 21, 22, 23, 24, 25, 26, 27, 28, 29, 30, 31, 32, 33, 34, 35, 36, 37, 38, 39, 40, 41, 42, 43, 44, 45, 46, 47, 48, 49, 50, 51, 52, 53, 54, 55, 56, 57, 58, 59, 60, 61, 62, 63, 64, 65, 66, 67, 68, 69, 70, 71, 72, 73, 74, 75, 76, 77, 78, 79, 80, 81, 82, 83, 84, 85, 86, 87, 88, 89, 90] (by decide +kernel) (by decide +kernel)) (goodIn_sub (fun _ h => List.mem_cons_of_mem _ (List.mem_append_left _ (List.mem_append_left _ (List.mem_append_right _ h)))) (by decide +kernel))) (goodIn_sub (fun _ h => List.mem_cons_of_mem _ (List.mem_append_left _ (List.mem_append_right _ h))) (by decide +kernel))) (goodIn_sub (fun _ h => List.mem_cons_of_mem _ (List.mem_append_right _ h)) (by decide +kernel))
set_option maxRecDepth 20000 in
theorem gL_release_X5_release : GoodIn wsL_release (wsV RL 23 RX5 yX5_release wsX5_release) := goodIn_app (goodIn_of _ (by decide +kernel)) ggL_release_X5_release
theorem dL_release_0 : decode cL_release 0 = .ok (.aload_n 3, 1) := by decide +kernel
theorem dL_release_1 : decode cL_release 1 = .ok (.iconst 0, 1) := by decide +kernel
theorem dL_release_2 : decode cL_release 2 = .ok (.aload_n 0, 1) := by decide +kernel
theorem dL_release_3 : decode cL_release 3 = .ok (.iload_n 1, 1) := by decide +kernel
theorem dL_release_4 : decode cL_release 4 = .ok (.iload_n 2, 1) := by decide +kernel
theorem dL_release_5 : decode cL_release 5 = .ok (.invokevirtual 23, 3) := by decide +kernel
theorem dL_release_8 : decode cL_release 8 = .ok (.i2l, 1) := by decide +kernel
theorem dL_release_9 : decode cL_release 9 = .ok (.lastore, 1) := by decide +kernel
theorem dL_release_10 : decode cL_release 10 = .ok (.goto 15, 3) := by decide +kernel
theorem dL_release_13 : decode cL_release 13 = .ok (.astore 4, 2) := by decide +kernel
theorem dL_release_15 : decode cL_release 15 = .ok (.iconst 1, 1) := by decide +kernel
theorem dL_release_16 : decode cL_release 16 = .ok (.ireturn, 1) := by decide +kernel
theorem dL_release_17 : decode cL_release 17 = .ok (.astore 4, 2) := by decide +kernel
theorem dL_release_19 : decode cL_release 19 = .ok (.iconst 2, 1) := by decide +kernel
theorem dL_release_20 : decode cL_release 20 = .ok (.ireturn, 1) := by decide +kernel
theorem dL_release_21 : decode cL_release 21 = .ok (.astore 4, 2) := by decide +kernel
theorem dL_release_23 : decode cL_release 23 = .ok (.iconst 3, 1) := by decide +kernel
theorem dL_release_24 : decode cL_release 24 = .ok (.ireturn, 1) := by decide +kernel
theorem dL_release_25 : decode cL_release 25 = .ok (.iconst 0, 1) := by decide +kernel
theorem dL_release_26 : decode cL_release 26 = .ok (.ireturn, 1) := by decide +kernel
set_option maxRecDepth 20000 in
theorem ggL_run_X5_run : GoodIn wsL_run wsX5_run := goodIn_ca (goodIn_r _ [6, 7, 8, 9, 10, 11, 5, 12, 13, 14, 15, 16, 17, 18, 19, 20, 21, 22, 23, 24, 25, 26, 27, 28, 29, 30, 31, 32, 33, 34, 35, 36, 37, 38, 39, 40, 41, 42, 43, 44, 45, 46, 47, 48, 49, 50, 51, 52, 53, 54, 55, 56, 57, 58, 59, 60, 61, 62, 63, 64, 65, 66, 67, 68, 69, 70, 71, 72, 73, 74, 75, 76, 77, 78, 79, 80, 81, 82, 83, 84, 85, 86, 87, 88, 89, 90, 91, 92, 93, 94, 95, 96, 97, 98, 99, 100, 101, 102, 103, 104, 105, 106, 107, 108, 109, 110, 111, 112, 113, 114, 115, 116, 117, 118, 119, 120, 121, 122, 123, 124, 125, 126, 127, 128, 129, 130, 131, 132, 133, 134, 135, 136, 137] (by decide +kernel) (by decide +kernel)) (goodIn_sub (fun _ h => List.mem_cons_of_mem _ (List.mem_append_right _ h)) (by decide +kernel))
set_option maxRecDepth 20000 in
theorem gL_run_X5_run : GoodIn wsL_run (wsV RL 27 RX5 yX5_run wsX5_run) := goodIn_app (goodIn_of _ (by decide +kernel)) ggL_run_X5_run
theorem dL_run_0 : decode cL_run 0 = .ok (.aload_n 2, 1) := by decide +kernel
theorem dL_run_1 : decode cL_run 1 = .ok (.iconst 0, 1) := by decide +kernel
theorem dL_run_2 : decode cL_run 2 = .ok (.aload_n 0, 1) := by decide +kernel
theorem dL_run_3 : decode cL_run 3 = .ok (.iload_n 1, 1) := by decide +kernel
theorem dL_run_4 : decode cL_run 4 = .ok (.invokevirtual 27, 3) := by decide +kernel
theorem dL_run_7 : decode cL_run 7 = .ok (.i2l, 1) := by decide +kernel
theorem dL_run_8 : decode cL_run 8 = .ok (.lastore, 1) := by decide +kernel
theorem dL_run_9 : decode cL_run 9 = .ok (.goto 6, 3) := by decide +kernel
theorem dL_run_12 : decode cL_run 12 = .ok (.astore_n 3, 1) := by decide +kernel
theorem dL_run_13 : decode cL_run 13 = .ok (.iconst 1, 1) := by decide +kernel
theorem dL_run_14 : decode cL_run 14 = .ok (.ireturn, 1) := by decide +kernel
theorem dL_run_15 : decode cL_run 15 = .ok (.iconst 0, 1) := by decide +kernel
theorem dL_run_16 : decode cL_run 16 = .ok (.ireturn, 1) := by decide +kernel
set_option maxRecDepth 20000 in
theorem ggL_response_X5_response : GoodIn wsL_response wsX5_response := goodIn_ca (goodIn_ca (goodIn_r _ [7, 8, 9, 10, 11, 12, 13, 14, 15, 16, 17, 18, 19, 20, 21, 22, 23, 24, 25, 26, 27, 28, 29, 30, 31, 32, 33, 34, 35, 6, 36, 37, 38, 39, 40, 41, 42, 43, 44, 45, 46, 47, 48, 49, 50, 51, 52, 53, 54, 55, 56, 57, 58, 59, 60, 61, 62, 63, 64, 65, 66, 67, 68, 69, 70, 71, 72, 73, 74, 75, 76, 77, 78, 79, 80, 81] (by decide +kernel) (by decide +kernel)) (goodIn_sub (fun _ h => List.mem_cons_of_mem _ (List.mem_append_left _ (List.mem_append_right _ h))) (by decide +kernel))) (goodIn_sub (fun _ h => List.mem_cons_of_mem _ (List.mem_append_right _ h)) (by decide +kernel))
set_option maxRecDepth 20000 in
theorem gL_response_X5_response : GoodIn wsL_response (wsV RL 31 RX5 yX5_response wsX5_response) := goodIn_app (goodIn_of _ (by decide +kernel)) ggL_response_X5_response
theorem dL_response_0 : decode cL_response 0 = .ok (.aload_n 3, 1) := by decide +kernel
theorem dL_response_1 : decode cL_response 1 = .ok (.iconst 0, 1) := by decide +kernel
theorem dL_response_2 : decode cL_response 2 = .ok (.aload_n 0, 1) := by decide +kernel
theorem dL_response_3 : decode cL_response 3 = .ok (.iload_n 1, 1) := by decide +kernel
theorem dL_response_4 : decode cL_response 4 = .ok (.iload_n 2, 1) := by decide +kernel
theorem dL_response_5 : decode cL_response 5 = .ok (.invokevirtual 31, 3) := by decide +kernel
theorem dL_response_8 : decode cL_response 8 = .ok (.i2l, 1) := by decide +kernel
theorem dL_response_9 : decode cL_response 9 = .ok (.lastore, 1) := by decide +kernel
theorem dL_response_10 : decode cL_response 10 = .ok (.goto 11, 3) := by decide +kernel
theorem dL_response_13 : decode cL_response 13 = .ok (.astore 4, 2) := by decide +kernel
theorem dL_response_15 : decode cL_response 15 = .ok (.iconst 1, 1) := by decide +kernel
theorem dL_response_16 : decode cL_response 16 = .ok (.ireturn, 1) := by decide +kernel
theorem dL_response_17 : decode cL_response 17 = .ok (.astore 4, 2) := by decide +kernel
theorem dL_response_19 : decode cL_response 19 = .ok (.iconst 2, 1) := by decide +kernel
theorem dL_response_20 : decode cL_response 20 = .ok (.ireturn, 1) := by decide +kernel
theorem dL_response_21 : decode cL_response 21 = .ok (.iconst 0, 1) := by decide +kernel
theorem dL_response_22 : decode cL_response 22 = .ok (.ireturn, 1) := by decide +kernel
set_option maxRecDepth 20000 in
theorem ggL_ended_X5_ended : GoodIn wsL_ended wsX5_ended := goodIn_ca (goodIn_r _ [6, 7, 8, 9, 10, 11, 12, 5, 13, 14, 15, 16, 17, 18, 19, 20, 21, 22, 23, 24, 25, 26, 27, 28, 29, 30, 31, 32, 33, 34, 35, 36, 37, 38, 39, 40, 41, 42, 43, 44, 45, 46, 47, 48, 49, 50, 51, 52, 53, 54, 55, 56, 57, 58, 59, 60, 61, 62, 63] (by decide +kernel) (by decide +kernel)) (goodIn_sub (fun _ h => List.mem_cons_of_mem _ (List.mem_append_right _ h)) (by decide +kernel))
set_option maxRecDepth 20000 in
theorem gL_ended_X5_ended : GoodIn wsL_ended (wsV RL 34 RX5 yX5_ended wsX5_ended) := goodIn_app (goodIn_of _ (by decide +kernel)) ggL_ended_X5_ended
theorem dL_ended_0 : decode cL_ended 0 = .ok (.aload_n 3, 1) := by decide +kernel
theorem dL_ended_1 : decode cL_ended 1 = .ok (.iconst 0, 1) := by decide +kernel
theorem dL_ended_2 : decode cL_ended 2 = .ok (.aload_n 0, 1) := by decide +kernel
theorem dL_ended_3 : decode cL_ended 3 = .ok (.iload_n 1, 1) := by decide +kernel
theorem dL_ended_4 : decode cL_ended 4 = .ok (.iload_n 2, 1) := by decide +kernel
theorem dL_ended_5 : decode cL_ended 5 = .ok (.invokevirtual 34, 3) := by decide +kernel
theorem dL_ended_8 : decode cL_ended 8 = .ok (.i2l, 1) := by decide +kernel
theorem dL_ended_9 : decode cL_ended 9 = .ok (.lastore, 1) := by decide +kernel
theorem dL_ended_10 : decode cL_ended 10 = .ok (.goto 7, 3) := by decide +kernel
theorem dL_ended_13 : decode cL_ended 13 = .ok (.astore 4, 2) := by decide +kernel
theorem dL_ended_15 : decode cL_ended 15 = .ok (.iconst 1, 1) := by decide +kernel
theorem dL_ended_16 : decode cL_ended 16 = .ok (.ireturn, 1) := by decide +kernel
theorem dL_ended_17 : decode cL_ended 17 = .ok (.iconst 0, 1) := by decide +kernel
theorem dL_ended_18 : decode cL_ended 18 = .ok (.ireturn, 1) := by decide +kernel
set_option maxRecDepth 20000 in
theorem ggL_about_X5_about : GoodIn wsL_about wsX5_about := goodIn_ca (goodIn_ca (goodIn_r _ [7, 8, 9, 10, 11, 12, 13, 14, 15, 16, 17, 18, 6, 19, 20, 21, 22, 23, 24, 25, 26, 27, 28, 29, 30, 31, 32, 33, 34, 35, 36, 37, 38, 39, 40, 41, 42, 43, 44, 45, 46, 47, 48, 49, 50, 51, 52, 53, 54, 55, 56, 57, 58, 59, 60, 61, 62, 63, 64, 65, 66, 67, 68, 69, 70, 71, 72, 73, 74, 75, 76, 77, 78, 79, 80] (by decide +kernel) (by decide +kernel)) (goodIn_sub (fun _ h => List.mem_cons_of_mem _ (List.mem_append_left _ (List.mem_append_right _ h))) (by decide +kernel))) (goodIn_sub (fun _ h => List.mem_cons_of_mem _ (List.mem_append_right _ h)) (by decide +kernel))
set_option maxRecDepth 20000 in
theorem gL_about_X5_about : GoodIn wsL_about (wsV RL 37 RX5 yX5_about wsX5_about) := goodIn_app (goodIn_of _ (by decide +kernel)) ggL_about_X5_about
theorem dL_about_0 : decode cL_about 0 = .ok (.aload_n 3, 1) := by decide +kernel
theorem dL_about_1 : decode cL_about 1 = .ok (.iconst 0, 1) := by decide +kernel
theorem dL_about_2 : decode cL_about 2 = .ok (.aload_n 0, 1) := by decide +kernel
theorem dL_about_3 : decode cL_about 3 = .ok (.iload_n 1, 1) := by decide +kernel
theorem dL_about_4 : decode cL_about 4 = .ok (.iload_n 2, 1) := by decide +kernel
theorem dL_about_5 : decode cL_about 5 = .ok (.invokevirtual 37, 3) := by decide +kernel
theorem dL_about_8 : decode cL_about 8 = .ok (.i2l, 1) := by decide +kernel
theorem dL_about_9 : decode cL_about 9 = .ok (.lastore, 1) := by decide +kernel
theorem dL_about_10 : decode cL_about 10 = .ok (.goto 11, 3) := by decide +kernel
theorem dL_about_13 : decode cL_about 13 = .ok (.astore 4, 2) := by decide +kernel
theorem dL_about_15 : decode cL_about 15 = .ok (.iconst 1, 1) := by decide +kernel
theorem dL_about_16 : decode cL_about 16 = .ok (.ireturn, 1) := by decide +kernel
theorem dL_about_17 : decode cL_about 17 = .ok (.astore 4, 2) := by decide +kernel
theorem dL_about_19 : decode cL_about 19 = .ok (.iconst 2, 1) := by decide +kernel
theorem dL_about_20 : decode cL_about 20 = .ok (.ireturn, 1) := by decide +kernel
theorem dL_about_21 : decode cL_about 21 = .ok (.iconst 0, 1) := by decide +kernel
theorem dL_about_22 : decode cL_about 22 = .ok (.ireturn, 1) := by decide +kernel
set_option maxRecDepth 20000 in
theorem ggL_witness_X5_witness : GoodIn wsL_witness wsX5_witness := goodIn_ca (goodIn_ca (goodIn_r _ [7, 8, 9, 10, 11, 12, 13, 14, 15, 16, 17, 18, 19, 20, 21, 22, 23, 24, 25, 6, 26, 27, 28, 29, 30, 31, 32, 33, 34, 35, 36, 37, 38, 39, 40, 41, 42, 43, 44, 45, 46, 47, 48, 49, 50, 51, 52, 53, 54, 55, 56] (by decide +kernel) (by decide +kernel)) (goodIn_sub (fun _ h => List.mem_cons_of_mem _ (List.mem_append_left _ (List.mem_append_right _ h))) (by decide +kernel))) (goodIn_sub (fun _ h => List.mem_cons_of_mem _ (List.mem_append_right _ h)) (by decide +kernel))
set_option maxRecDepth 20000 in
theorem gL_witness_X5_witness : GoodIn wsL_witness (wsV RL 40 RX5 yX5_witness wsX5_witness) := goodIn_app (goodIn_of _ (by decide +kernel)) ggL_witness_X5_witness
theorem dL_witness_0 : decode cL_witness 0 = .ok (.aload_n 3, 1) := by decide +kernel
theorem dL_witness_1 : decode cL_witness 1 = .ok (.iconst 0, 1) := by decide +kernel
theorem dL_witness_2 : decode cL_witness 2 = .ok (.aload_n 0, 1) := by decide +kernel
theorem dL_witness_3 : decode cL_witness 3 = .ok (.iload_n 1, 1) := by decide +kernel
theorem dL_witness_4 : decode cL_witness 4 = .ok (.iload_n 2, 1) := by decide +kernel
theorem dL_witness_5 : decode cL_witness 5 = .ok (.invokevirtual 40, 3) := by decide +kernel
theorem dL_witness_8 : decode cL_witness 8 = .ok (.i2l, 1) := by decide +kernel
theorem dL_witness_9 : decode cL_witness 9 = .ok (.lastore, 1) := by decide +kernel
theorem dL_witness_10 : decode cL_witness 10 = .ok (.goto 11, 3) := by decide +kernel
theorem dL_witness_13 : decode cL_witness 13 = .ok (.astore 4, 2) := by decide +kernel
theorem dL_witness_15 : decode cL_witness 15 = .ok (.iconst 1, 1) := by decide +kernel
theorem dL_witness_16 : decode cL_witness 16 = .ok (.ireturn, 1) := by decide +kernel
theorem dL_witness_17 : decode cL_witness 17 = .ok (.astore 4, 2) := by decide +kernel
theorem dL_witness_19 : decode cL_witness 19 = .ok (.iconst 2, 1) := by decide +kernel
theorem dL_witness_20 : decode cL_witness 20 = .ok (.ireturn, 1) := by decide +kernel
theorem dL_witness_21 : decode cL_witness 21 = .ok (.iconst 0, 1) := by decide +kernel
theorem dL_witness_22 : decode cL_witness 22 = .ok (.ireturn, 1) := by decide +kernel
set_option maxRecDepth 20000 in
theorem ggL_trace_X5_trace : GoodIn wsL_trace wsX5_trace := goodIn_ca (goodIn_r _ [6, 7, 8, 9, 10, 11, 12, 13, 14, 15, 16, 17, 18, 19, 20, 21, 22, 23, 24, 25, 26, 27, 28, 29, 30, 31, 32, 33, 34, 35, 36, 37, 38, 39] (by decide +kernel) (by decide +kernel)) (goodIn_sub (fun _ h => List.mem_cons_of_mem _ (List.mem_append_right _ h)) (by decide +kernel))
set_option maxRecDepth 20000 in
theorem gL_trace_X5_trace : GoodIn wsL_trace (wsV RL 43 RX5 yX5_trace wsX5_trace) := goodIn_app (goodIn_of _ (by decide +kernel)) ggL_trace_X5_trace
theorem dL_trace_0 : decode cL_trace 0 = .ok (.aload_n 2, 1) := by decide +kernel
end
section
theorem dL_trace_1 : decode cL_trace 1 = .ok (.iconst 0, 1) := by decide +kernel
theorem dL_trace_2 : decode cL_trace 2 = .ok (.aload_n 0, 1) := by decide +kernel
theorem dL_trace_3 : decode cL_trace 3 = .ok (.iload_n 1, 1) := by decide +kernel
theorem dL_trace_4 : decode cL_trace 4 = .ok (.invokevirtual 43, 3) := by decide +kernel
theorem dL_trace_7 : decode cL_trace 7 = .ok (.i2l, 1) := by decide +kernel
theorem dL_trace_8 : decode cL_trace 8 = .ok (.lastore, 1) := by decide +kernel
theorem dL_trace_9 : decode cL_trace 9 = .ok (.goto 6, 3) := by decide +kernel
theorem dL_trace_12 : decode cL_trace 12 = .ok (.astore_n 3, 1) := by decide +kernel
theorem dL_trace_13 : decode cL_trace 13 = .ok (.iconst 1, 1) := by decide +kernel
theorem dL_trace_14 : decode cL_trace 14 = .ok (.ireturn, 1) := by decide +kernel
theorem dL_trace_15 : decode cL_trace 15 = .ok (.iconst 0, 1) := by decide +kernel
theorem dL_trace_16 : decode cL_trace 16 = .ok (.ireturn, 1) := by decide +kernel
set_option maxRecDepth 20000 in
theorem ggL_changed_X5_changed : GoodIn wsL_changed wsX5_changed := goodIn_ca (goodIn_r _ [6, 7, 8, 9, 10, 11, 12, 13, 14, 15, 16, 17, 18, 19, 20, 21, 22, 23, 24, 25, 26, 27, 28, 29, 30, 31, 32, 33, 34, 35, 36, 37, 38, 39] (by decide +kernel) (by decide +kernel)) (goodIn_sub (fun _ h => List.mem_cons_of_mem _ (List.mem_append_right _ h)) (by decide +kernel))
set_option maxRecDepth 20000 in
theorem gL_changed_X5_changed : GoodIn wsL_changed (wsV RL 46 RX5 yX5_changed wsX5_changed) := goodIn_app (goodIn_of _ (by decide +kernel)) ggL_changed_X5_changed
theorem dL_changed_0 : decode cL_changed 0 = .ok (.aload_n 2, 1) := by decide +kernel
theorem dL_changed_1 : decode cL_changed 1 = .ok (.iconst 0, 1) := by decide +kernel
theorem dL_changed_2 : decode cL_changed 2 = .ok (.aload_n 0, 1) := by decide +kernel
theorem dL_changed_3 : decode cL_changed 3 = .ok (.iload_n 1, 1) := by decide +kernel
theorem dL_changed_4 : decode cL_changed 4 = .ok (.invokevirtual 46, 3) := by decide +kernel
theorem dL_changed_7 : decode cL_changed 7 = .ok (.i2l, 1) := by decide +kernel
theorem dL_changed_8 : decode cL_changed 8 = .ok (.lastore, 1) := by decide +kernel
theorem dL_changed_9 : decode cL_changed 9 = .ok (.goto 6, 3) := by decide +kernel
theorem dL_changed_12 : decode cL_changed 12 = .ok (.astore_n 3, 1) := by decide +kernel
theorem dL_changed_13 : decode cL_changed 13 = .ok (.iconst 1, 1) := by decide +kernel
theorem dL_changed_14 : decode cL_changed 14 = .ok (.ireturn, 1) := by decide +kernel
theorem dL_changed_15 : decode cL_changed 15 = .ok (.iconst 0, 1) := by decide +kernel
theorem dL_changed_16 : decode cL_changed 16 = .ok (.ireturn, 1) := by decide +kernel
set_option maxRecDepth 20000 in
theorem ggL_count_X5_count : GoodIn wsL_count wsX5_count := goodIn_ca (goodIn_r _ [6, 7, 8, 9, 10, 11, 12, 13, 14, 15, 16, 17, 18, 19, 5, 20, 21, 22, 23, 24, 25, 26, 27, 28, 29, 30, 31, 32, 33, 34, 35, 36, 37, 38, 39, 40, 41, 42, 43, 44, 45, 46, 47, 48, 49, 50, 51, 52] (by decide +kernel) (by decide +kernel)) (goodIn_sub (fun _ h => List.mem_cons_of_mem _ (List.mem_append_right _ h)) (by decide +kernel))
set_option maxRecDepth 20000 in
theorem gL_count_X5_count : GoodIn wsL_count (wsV RL 49 RX5 yX5_count wsX5_count) := goodIn_app (goodIn_of _ (by decide +kernel)) ggL_count_X5_count
theorem dL_count_0 : decode cL_count 0 = .ok (.aload_n 2, 1) := by decide +kernel
theorem dL_count_1 : decode cL_count 1 = .ok (.iconst 0, 1) := by decide +kernel
theorem dL_count_2 : decode cL_count 2 = .ok (.aload_n 0, 1) := by decide +kernel
theorem dL_count_3 : decode cL_count 3 = .ok (.iload_n 1, 1) := by decide +kernel
theorem dL_count_4 : decode cL_count 4 = .ok (.invokevirtual 49, 3) := by decide +kernel
theorem dL_count_7 : decode cL_count 7 = .ok (.i2l, 1) := by decide +kernel
theorem dL_count_8 : decode cL_count 8 = .ok (.lastore, 1) := by decide +kernel
theorem dL_count_9 : decode cL_count 9 = .ok (.goto 6, 3) := by decide +kernel
theorem dL_count_12 : decode cL_count 12 = .ok (.astore_n 3, 1) := by decide +kernel
theorem dL_count_13 : decode cL_count 13 = .ok (.iconst 1, 1) := by decide +kernel
theorem dL_count_14 : decode cL_count 14 = .ok (.ireturn, 1) := by decide +kernel
theorem dL_count_15 : decode cL_count 15 = .ok (.iconst 0, 1) := by decide +kernel
theorem dL_count_16 : decode cL_count 16 = .ok (.ireturn, 1) := by decide +kernel
set_option maxRecDepth 20000 in
theorem ggL_law_X5_init : GoodIn wsL_law wsX5_init := goodIn_r _ [9, 10, 11, 12, 13, 14, 15, 16, 17, 18, 19, 20, 21, 22, 23, 24, 25, 26, 27, 28, 29, 30, 31, 32, 33, 34, 35, 36, 37, 38, 39, 40, 41, 42, 43, 44, 45, 46, 47, 48, 49, 50, 51, 52, 53, 54, 55, 56, 57, 58, 59, 60, 61, 62, 63, 64, 611, 563, 564, 565, 566, 567, 568, 569, 570, 571, 572, 573, 574, 575, 612, 613, 614, 615, 616, 617, 618, 619, 620, 621, 622, 623, 624, 625, 626, 627, 628, 629, 630, 631, 632, 633] (by decide +kernel) (by decide +kernel)
set_option maxRecDepth 20000 in
theorem gL_law_X5_init : GoodIn wsL_law (wsX5_init) := ggL_law_X5_init
set_option maxRecDepth 20000 in
theorem ggL_law_X6_init : GoodIn wsL_law wsX6_init := goodIn_r _ [67, 68, 11, 12, 69, 70, 71, 47, 72, 73, 74, 75, 76, 77, 78, 79, 80, 81, 82, 83, 84, 85, 86, 87, 88, 89, 90, 91, 92, 93, 576, 577, 578, 579, 580, 581, 582, 583, 584, 585, 586, 587, 588, 589, 590, 591, 592, 593, 594, 595, 596, 597, 598, 599, 600, 601, 602, 603, 604, 605, 606, 607, 608, 609, 610] (by decide +kernel) (by decide +kernel)
set_option maxRecDepth 20000 in
theorem gL_law_X6_init : GoodIn wsL_law (wsX6_init) := ggL_law_X6_init
set_option maxRecDepth 20000 in
theorem ggL_law_L_add : GoodIn wsL_law wsL_add := goodIn_ca (goodIn_ca (goodIn_r _ [97, 98, 99, 100, 101, 102, 2, 103, 104, 105, 106, 107, 17, 23, 21, 108, 109, 110, 111, 112, 113, 114, 115, 116, 117, 118, 119, 120, 121, 122, 123, 20, 124, 125, 54, 126, 127, 128, 40, 129, 44, 45, 46, 130, 131, 132, 133, 134, 135, 136, 137, 138, 139, 140, 141, 142, 143, 144, 145, 146, 147, 148, 149, 150, 151, 152, 153, 154, 155, 156, 157, 16, 27, 158, 159, 160, 15, 161, 38, 162, 163, 164, 165, 166, 167, 168, 169, 170, 171, 172, 173, 174, 175, 176, 177, 178, 179, 180, 181, 182, 26, 183, 184, 58, 59, 185, 186, 187, 188, 189, 190, 191, 192, 193, 194, 195, 196, 197, 563, 564, 565, 566, 567, 568, 569, 570, 571, 572, 573, 574, 575, 612, 613, 620, 621, 622, 623, 624, 625, 626, 627, 628, 629, 630, 631, 632, 633, 611, 614, 615, 616, 617] (by decide +kernel) (by decide +kernel)) (goodIn_sub (fun _ h => List.mem_append_left _ (List.mem_append_left _ (List.mem_append_right _ h))) (by decide +kernel))) (goodIn_sub (fun _ h => List.mem_append_left _ (List.mem_append_right _ h)) (by decide +kernel))
set_option maxRecDepth 20000 in
theorem gL_law_L_add : GoodIn wsL_law (va_wsS RL 56 yL_add wsL_add) := goodIn_app (goodIn_of _ (by decide +kernel)) ggL_law_L_add
set_option maxRecDepth 20000 in
theorem ggL_law_X6_add : GoodIn wsL_law wsX6_add := goodIn_r _ [201, 202, 73, 76, 72, 74, 75, 70, 71, 79, 80, 81, 82, 83, 203, 204, 5, 205, 206, 207, 208, 209, 210, 211, 212, 213, 214, 215, 216, 217, 218, 78, 219, 220, 221, 222, 93, 223, 224, 225, 226, 227, 228, 229, 230, 231, 232, 233, 234, 235, 236, 237, 238, 90, 91, 239, 240, 241, 242, 243, 576, 577, 578, 579, 580, 581, 582, 583, 584, 585, 586, 587, 588, 589, 590, 591, 592, 593, 594, 595, 596, 597, 598, 599, 600, 601, 602, 603, 604, 605, 606, 607, 608, 609, 610] (by decide +kernel) (by decide +kernel)
set_option maxRecDepth 20000 in
theorem gL_law_X6_add : GoodIn wsL_law (wsV RL 61 RX6 yX6_add wsX6_add) := goodIn_app (goodIn_of _ (by decide +kernel)) ggL_law_X6_add
set_option maxRecDepth 20000 in
theorem ggL_law_X6_thrown : GoodIn wsL_law wsX6_thrown := goodIn_r _ [247, 214, 576, 577, 578, 579, 580, 581, 582, 583, 584, 585, 586, 587, 588, 589, 590, 591, 592, 593, 594, 595, 596, 597, 598, 599, 600, 601, 602, 603, 604, 605, 606, 607, 608, 609, 610] (by decide +kernel) (by decide +kernel)
set_option maxRecDepth 20000 in
theorem gL_law_X6_thrown : GoodIn wsL_law (wsV RL 62 RX6 yX6_thrown wsX6_thrown) := goodIn_app (goodIn_of _ (by decide +kernel)) ggL_law_X6_thrown
set_option maxRecDepth 20000 in
theorem ggL_law_L_remove : GoodIn wsL_law wsL_remove := goodIn_ca (goodIn_ca (goodIn_r _ [250, 251, 99, 252, 253, 254, 2, 255, 256, 257, 106, 107, 17, 117, 118, 119, 120, 21, 121, 122, 123, 20, 124, 125, 54, 258, 259, 260, 261, 22, 262, 263, 264, 265, 266, 267, 268, 269, 270, 563, 564, 565, 566, 567, 568, 569, 570, 571, 572, 573, 574, 575, 620, 621, 622, 623, 624, 625, 626, 627, 628, 629, 630, 631, 632, 633, 612, 613] (by decide +kernel) (by decide +kernel)) (goodIn_sub (fun _ h => List.mem_append_right _ h) (by decide +kernel))) (goodIn_sub (fun _ h => List.mem_append_left _ (List.mem_append_right _ h)) (by decide +kernel))
set_option maxRecDepth 20000 in
theorem gL_law_L_remove : GoodIn wsL_law (va_wsS RL 66 yL_remove wsL_remove) := goodIn_app (goodIn_of _ (by decide +kernel)) ggL_law_L_remove
set_option maxRecDepth 20000 in
theorem ggL_law_X6_remove : GoodIn wsL_law wsX6_remove := goodIn_r _ [274, 71, 70, 206, 207, 208, 5, 209, 210, 211, 212, 213, 214, 275, 276, 277, 278, 279, 77, 280, 281, 282, 283, 79, 284, 285, 286, 287, 87, 288, 289, 290, 240, 241, 242, 243, 202, 76, 576, 577, 578, 579, 580, 581, 582, 583, 584, 585, 586, 587, 588, 589, 590, 591, 592, 593, 594, 595, 596, 597, 598, 599, 600, 601, 602, 603, 604, 605, 606, 607, 608, 609, 610] (by decide +kernel) (by decide +kernel)
set_option maxRecDepth 20000 in
theorem gL_law_X6_remove : GoodIn wsL_law (wsV RL 69 RX6 yX6_remove wsX6_remove) := goodIn_app (goodIn_of _ (by decide +kernel)) ggL_law_X6_remove
set_option maxRecDepth 20000 in
theorem ggL_law_L_release : GoodIn wsL_law wsL_release := goodIn_ca (goodIn_ca (goodIn_ca (goodIn_r _ [293, 251, 98, 99, 294, 295, 296, 2, 297, 256, 257, 104, 105, 106, 107, 17, 298, 299, 300, 301, 302, 303, 22, 121, 122, 123, 20, 124, 125, 54, 304, 305, 306, 40, 307, 130, 46, 308, 195, 196, 197, 309, 310, 311, 312, 132, 49, 44, 313, 314, 315, 316, 317, 318, 319, 320, 321, 322, 323, 136, 48, 50, 563, 564, 565, 566, 567, 568, 569, 570, 571, 572, 573, 574, 575, 620, 621, 622, 623, 624, 625, 626, 627, 628, 629, 630, 631, 632, 633, 612, 613] (by decide +kernel) (by decide +kernel)) (goodIn_sub (fun _ h => List.mem_append_right _ h) (by decide +kernel))) (goodIn_sub (fun _ h => List.mem_append_left _ (List.mem_append_left _ (List.mem_append_right _ h))) (by decide +kernel))) (goodIn_sub (fun _ h => List.mem_append_left _ (List.mem_append_right _ h)) (by decide +kernel))
set_option maxRecDepth 20000 in
theorem gL_law_L_release : GoodIn wsL_law (va_wsS RL 70 yL_release wsL_release) := goodIn_app (goodIn_of _ (by decide +kernel)) ggL_law_L_release
set_option maxRecDepth 20000 in
theorem ggL_law_X6_release : GoodIn wsL_law wsX6_release := goodIn_r _ [327, 75, 74, 71, 328, 83, 329, 80, 79, 84, 85, 86, 87, 72, 206, 207, 208, 5, 209, 70, 330, 331, 332, 333, 279, 77, 203, 204, 205, 280, 281, 282, 283, 284, 285, 286, 287, 288, 289, 290, 210, 211, 212, 213, 214, 576, 577, 578, 579, 580, 581, 582, 583, 584, 585, 586, 587, 588, 589, 590, 591, 592, 593, 594, 595, 596, 597, 598, 599, 600, 601, 602, 603, 604, 605, 606, 607, 608, 609, 610] (by decide +kernel) (by decide +kernel)
set_option maxRecDepth 20000 in
theorem gL_law_X6_release : GoodIn wsL_law (wsV RL 73 RX6 yX6_release wsX6_release) := goodIn_app (goodIn_of _ (by decide +kernel)) ggL_law_X6_release
set_option maxRecDepth 20000 in
theorem ggL_law_X5_tick : GoodIn wsL_law wsX5_tick := goodIn_r _ [337, 338, 339, 340, 2, 341, 298, 31, 342, 343, 344, 345, 22, 17, 346, 347, 348, 30, 349, 64, 350, 351, 316, 317, 318, 352, 353, 354, 355, 356, 357, 299, 21, 138, 139, 140, 20, 141, 54, 142, 143, 144, 145, 125, 358, 359, 360, 361, 362, 363, 364, 40, 365, 132, 136, 134, 137, 48, 50, 135, 313, 314, 315, 366, 367, 368, 369, 49, 45, 319, 195, 196, 197, 130, 370, 371, 372, 373, 32, 374, 375, 376, 377, 378, 258, 259, 260, 261, 262, 263, 264, 265, 266, 122, 123, 124, 267, 268, 269, 270, 563, 564, 565, 566, 567, 568, 569, 570, 571, 572, 573, 574, 575, 612, 613, 620, 621, 622, 623, 624, 625, 626, 627, 628, 629, 630, 631, 632, 633, 618, 619] (by decide +kernel) (by decide +kernel)
set_option maxRecDepth 20000 in
theorem gL_law_X5_tick : GoodIn wsL_law (wsV RL 74 RX5 yX5_tick wsX5_tick) := goodIn_app (goodIn_of _ (by decide +kernel)) ggL_law_X5_tick
set_option maxRecDepth 20000 in
theorem ggL_law_X6_tick : GoodIn wsL_law wsX6_tick := goodIn_r _ [382, 214, 383, 384, 385, 5, 386, 279, 77, 89, 328, 387, 388, 329, 202, 76, 280, 281, 282, 283, 79, 284, 285, 286, 287, 87, 288, 289, 290, 389, 390, 391, 392, 86, 81, 85, 82, 84, 73, 75, 74, 88, 393, 394, 395, 396, 397, 275, 276, 277, 278, 70, 71, 240, 241, 242, 243, 398, 399, 400, 401, 402, 576, 577, 578, 579, 580, 581, 582, 583, 584, 585, 586, 587, 588, 589, 590, 591, 592, 593, 594, 595, 596, 597, 598, 599, 600, 601, 602, 603, 604, 605, 606, 607, 608, 609, 610] (by decide +kernel) (by decide +kernel)
set_option maxRecDepth 20000 in
theorem gL_law_X6_tick : GoodIn wsL_law (wsV RL 77 RX6 yX6_tick wsX6_tick) := goodIn_app (goodIn_of _ (by decide +kernel)) ggL_law_X6_tick
set_option maxRecDepth 20000 in
theorem ggL_law_L_run : GoodIn wsL_law wsL_run := goodIn_ca (goodIn_r _ [405, 98, 406, 407, 408, 2, 409, 104, 105, 338, 339, 340, 341, 298, 31, 342, 343, 344, 345, 22, 17, 346, 347, 348, 30, 349, 64, 350, 351, 316, 317, 318, 352, 353, 354, 355, 356, 357, 299, 21, 138, 139, 140, 20, 141, 54, 142, 143, 144, 145, 125, 358, 359, 360, 361, 362, 363, 364, 40, 365, 132, 136, 134, 137, 48, 50, 135, 313, 314, 315, 366, 367, 368, 369, 49, 45, 319, 195, 196, 197, 130, 370, 371, 372, 373, 32, 374, 375, 376, 377, 378, 258, 259, 260, 261, 262, 263, 264, 265, 266, 122, 123, 124, 267, 268, 269, 270, 563, 564, 565, 566, 567, 568, 569, 570, 571, 572, 573, 574, 575, 612, 613, 620, 621, 622, 623, 624, 625, 626, 627, 628, 629, 630, 631, 632, 633, 618, 619] (by decide +kernel) (by decide +kernel)) (goodIn_sub (fun _ h => List.mem_append_left _ (List.mem_append_left _ (List.mem_append_right _ h))) (by decide +kernel))
set_option maxRecDepth 20000 in
theorem gL_law_L_run : GoodIn wsL_law (va_wsS RL 78 yL_run wsL_run) := goodIn_app (goodIn_of _ (by decide +kernel)) ggL_law_L_run
set_option maxRecDepth 20000 in
theorem ggL_law_X6_run : GoodIn wsL_law wsX6_run := goodIn_r _ [413, 203, 204, 5, 205, 210, 211, 212, 213, 214, 383, 384, 385, 386, 279, 77, 89, 328, 387, 388, 329, 202, 76, 280, 281, 282, 283, 79, 284, 285, 286, 287, 87, 288, 289, 290, 389, 390, 391, 392, 86, 81, 85, 82, 84, 73, 75, 74, 88, 393, 394, 395, 396, 397, 275, 276, 277, 278, 70, 71, 240, 241, 242, 243, 398, 399, 400, 401, 402, 576, 577, 578, 579, 580, 581, 582, 583, 584, 585, 586, 587, 588, 589, 590, 591, 592, 593, 594, 595, 596, 597, 598, 599, 600, 601, 602, 603, 604, 605, 606, 607, 608, 609, 610] (by decide +kernel) (by decide +kernel)
set_option maxRecDepth 20000 in
theorem gL_law_X6_run : GoodIn wsL_law (wsV RL 80 RX6 yX6_run wsX6_run) := goodIn_app (goodIn_of _ (by decide +kernel)) ggL_law_X6_run
set_option maxRecDepth 20000 in
theorem ggL_law_X5_assign : GoodIn wsL_law wsX5_assign := goodIn_r _ [417, 23, 21, 16, 138, 139, 140, 20, 141, 54, 142, 143, 144, 145, 125, 418, 419, 420, 15, 421, 38, 162, 163, 164, 165, 166, 167, 168, 169, 170, 171, 172, 173, 174, 2, 175, 176, 177, 178, 40, 179, 130, 46, 190, 191, 192, 193, 194, 195, 196, 197, 422, 268, 269, 270, 563, 564, 565, 566, 567, 568, 569, 570, 571, 572, 573, 574, 575, 612, 613, 611, 620, 621, 622, 623, 624, 625, 626, 627, 628, 629, 630, 631, 632, 633] (by decide +kernel) (by decide +kernel)
set_option maxRecDepth 20000 in
theorem gL_law_X5_assign : GoodIn wsL_law (wsV RL 81 RX5 yX5_assign wsX5_assign) := goodIn_app (goodIn_of _ (by decide +kernel)) ggL_law_X5_assign
set_option maxRecDepth 20000 in
theorem ggL_law_X6_assign : GoodIn wsL_law wsX6_assign := goodIn_r _ [426, 214, 93, 70, 202, 76, 92, 427, 428, 429, 5, 430, 75, 223, 224, 225, 226, 73, 74, 72, 227, 228, 229, 230, 231, 232, 233, 576, 577, 578, 579, 580, 581, 582, 583, 584, 585, 586, 587, 588, 589, 590, 591, 592, 593, 594, 595, 596, 597, 598, 599, 600, 601, 602, 603, 604, 605, 606, 607, 608, 609, 610] (by decide +kernel) (by decide +kernel)
set_option maxRecDepth 20000 in
theorem gL_law_X6_assign : GoodIn wsL_law (wsV RL 85 RX6 yX6_assign wsX6_assign) := goodIn_app (goodIn_of _ (by decide +kernel)) ggL_law_X6_assign
set_option maxRecDepth 20000 in
theorem ggL_law_L_response : GoodIn wsL_law wsL_response := goodIn_ca (goodIn_ca (goodIn_r _ [433, 251, 98, 434, 435, 436, 2, 437, 256, 257, 104, 105, 21, 16, 121, 122, 123, 20, 124, 125, 54, 438, 163, 164, 15, 165, 38, 166, 167, 168, 169, 170, 171, 172, 173, 174, 175, 176, 177, 178, 40, 179, 130, 46, 439, 191, 192, 193, 194, 195, 196, 197, 563, 564, 565, 566, 567, 568, 569, 570, 571, 572, 573, 574, 575, 612, 613, 611, 620, 621, 622, 623, 624, 625, 626, 627, 628, 629, 630, 631, 632, 633] (by decide +kernel) (by decide +kernel)) (goodIn_sub (fun _ h => List.mem_append_right _ h) (by decide +kernel))) (goodIn_sub (fun _ h => List.mem_append_left _ (List.mem_append_left _ (List.mem_append_right _ h))) (by decide +kernel))
set_option maxRecDepth 20000 in
theorem gL_law_L_response : GoodIn wsL_law (va_wsS RL 86 yL_response wsL_response) := goodIn_app (goodIn_of _ (by decide +kernel)) ggL_law_L_response
set_option maxRecDepth 20000 in
theorem ggL_law_X6_response : GoodIn wsL_law wsX6_response := goodIn_r _ [443, 75, 206, 207, 208, 5, 209, 70, 203, 204, 205, 210, 211, 212, 213, 214, 444, 445, 446, 447, 76, 219, 220, 221, 222, 93, 223, 224, 225, 226, 73, 74, 72, 227, 228, 229, 230, 231, 232, 233, 576, 577, 578, 579, 580, 581, 582, 583, 584, 585, 586, 587, 588, 589, 590, 591, 592, 593, 594, 595, 596, 597, 598, 599, 600, 601, 602, 603, 604, 605, 606, 607, 608, 609, 610] (by decide +kernel) (by decide +kernel)
set_option maxRecDepth 20000 in
theorem gL_law_X6_response : GoodIn wsL_law (wsV RL 88 RX6 yX6_response wsX6_response) := goodIn_app (goodIn_of _ (by decide +kernel)) ggL_law_X6_response
set_option maxRecDepth 20000 in
theorem ggL_law_L_ended : GoodIn wsL_law wsL_ended := goodIn_ca (goodIn_r _ [450, 251, 451, 452, 453, 2, 454, 256, 257, 17, 117, 118, 119, 120, 21, 121, 122, 123, 20, 124, 125, 54, 455, 456, 457, 40, 458, 132, 459, 313, 314, 315, 316, 317, 318, 563, 564, 565, 566, 567, 568, 569, 570, 571, 572, 573, 574, 575, 620, 621, 622, 623, 624, 625, 626, 627, 628, 629, 630, 631, 632, 633, 612, 613] (by decide +kernel) (by decide +kernel)) (goodIn_sub (fun _ h => List.mem_append_right _ h) (by decide +kernel))
set_option maxRecDepth 20000 in
theorem gL_law_L_ended : GoodIn wsL_law (va_wsS RL 89 yL_ended wsL_ended) := goodIn_app (goodIn_of _ (by decide +kernel)) ggL_law_L_ended
set_option maxRecDepth 20000 in
theorem ggL_law_X6_ended : GoodIn wsL_law wsX6_ended := goodIn_r _ [463, 79, 87, 206, 207, 208, 5, 209, 70, 210, 211, 212, 213, 214, 288, 289, 290, 576, 577, 578, 579, 580, 581, 582, 583, 584, 585, 586, 587, 588, 589, 590, 591, 592, 593, 594, 595, 596, 597, 598, 599, 600, 601, 602, 603, 604, 605, 606, 607, 608, 609, 610] (by decide +kernel) (by decide +kernel)
set_option maxRecDepth 20000 in
theorem gL_law_X6_ended : GoodIn wsL_law (wsV RL 91 RX6 yX6_ended wsX6_ended) := goodIn_app (goodIn_of _ (by decide +kernel)) ggL_law_X6_ended
set_option maxRecDepth 20000 in
theorem ggL_law_L_about : GoodIn wsL_law wsL_about := goodIn_ca (goodIn_ca (goodIn_r _ [466, 251, 98, 467, 468, 469, 2, 470, 256, 257, 104, 105, 17, 22, 21, 298, 117, 118, 119, 120, 121, 122, 123, 20, 124, 125, 54, 309, 310, 311, 40, 312, 132, 49, 44, 313, 314, 315, 316, 317, 318, 471, 472, 473, 474, 135, 136, 366, 367, 368, 369, 45, 563, 564, 565, 566, 567, 568, 569, 570, 571, 572, 573, 574, 575, 620, 621, 622, 623, 624, 625, 626, 627, 628, 629, 630, 631, 632, 633, 612, 613] (by decide +kernel) (by decide +kernel)) (goodIn_sub (fun _ h => List.mem_append_right _ h) (by decide +kernel))) (goodIn_sub (fun _ h => List.mem_append_left _ (List.mem_append_left _ (List.mem_append_right _ h))) (by decide +kernel))
set_option maxRecDepth 20000 in
theorem gL_law_L_about : GoodIn wsL_law (va_wsS RL 92 yL_about wsL_about) := goodIn_app (goodIn_of _ (by decide +kernel)) ggL_law_L_about
set_option maxRecDepth 20000 in
theorem ggL_law_X6_about : GoodIn wsL_law wsX6_about := goodIn_r _ [478, 79, 80, 81, 83, 71, 206, 207, 208, 5, 209, 70, 203, 204, 205, 210, 211, 212, 213, 214, 330, 331, 332, 333, 279, 77, 444, 445, 446, 447, 76, 280, 281, 282, 283, 284, 285, 286, 287, 87, 288, 289, 290, 479, 480, 481, 482, 82, 328, 84, 73, 576, 577, 578, 579, 580, 581, 582, 583, 584, 585, 586, 587, 588, 589, 590, 591, 592, 593, 594, 595, 596, 597, 598, 599, 600, 601, 602, 603, 604, 605, 606, 607, 608, 609, 610] (by decide +kernel) (by decide +kernel)
set_option maxRecDepth 20000 in
theorem gL_law_X6_about : GoodIn wsL_law (wsV RL 94 RX6 yX6_about wsX6_about) := goodIn_app (goodIn_of _ (by decide +kernel)) ggL_law_X6_about
set_option maxRecDepth 20000 in
theorem ggL_law_L_witness : GoodIn wsL_law wsL_witness := goodIn_ca (goodIn_ca (goodIn_r _ [485, 251, 98, 486, 487, 488, 2, 489, 256, 257, 104, 105, 27, 490, 491, 492, 26, 493, 185, 494, 495, 496, 497, 184, 59, 174, 175, 498, 499, 500, 501, 502, 503, 504, 505, 58, 506, 507, 508, 509, 563, 564, 565, 566, 567, 568, 569, 570, 571, 572, 573, 574, 575, 614, 615, 616, 617] (by decide +kernel) (by decide +kernel)) (goodIn_sub (fun _ h => List.mem_append_right _ h) (by decide +kernel))) (goodIn_sub (fun _ h => List.mem_append_left _ (List.mem_append_left _ (List.mem_append_right _ h))) (by decide +kernel))
set_option maxRecDepth 20000 in
theorem gL_law_L_witness : GoodIn wsL_law (va_wsS RL 95 yL_witness wsL_witness) := goodIn_app (goodIn_of _ (by decide +kernel)) ggL_law_L_witness
set_option maxRecDepth 20000 in
theorem ggL_law_X6_witness : GoodIn wsL_law wsX6_witness := goodIn_r _ [513, 239, 238, 91, 90, 203, 204, 5, 205, 210, 211, 212, 213, 214, 576, 577, 578, 579, 580, 581, 582, 583, 584, 585, 586, 587, 588, 589, 590, 591, 592, 593, 594, 595, 596, 597, 598, 599, 600, 601, 602, 603, 604, 605, 606, 607, 608, 609, 610] (by decide +kernel) (by decide +kernel)
set_option maxRecDepth 20000 in
theorem gL_law_X6_witness : GoodIn wsL_law (wsV RL 97 RX6 yX6_witness wsX6_witness) := goodIn_app (goodIn_of _ (by decide +kernel)) ggL_law_X6_witness
set_option maxRecDepth 20000 in
theorem ggL_law_L_trace : GoodIn wsL_law wsL_trace := goodIn_ca (goodIn_r _ [516, 251, 517, 518, 519, 2, 520, 256, 257, 31, 521, 522, 523, 30, 524, 64, 350, 525, 526, 527, 528, 351, 316, 317, 318, 563, 564, 565, 566, 567, 568, 569, 570, 571, 572, 573, 574, 575, 618, 619] (by decide +kernel) (by decide +kernel)) (goodIn_sub (fun _ h => List.mem_append_right _ h) (by decide +kernel))
set_option maxRecDepth 20000 in
theorem gL_law_L_trace : GoodIn wsL_law (va_wsS RL 98 yL_trace wsL_trace) := goodIn_app (goodIn_of _ (by decide +kernel)) ggL_law_L_trace
set_option maxRecDepth 20000 in
theorem ggL_law_X6_trace : GoodIn wsL_law wsX6_trace := goodIn_r _ [532, 328, 89, 210, 211, 212, 5, 213, 214, 576, 577, 578, 579, 580, 581, 582, 583, 584, 585, 586, 587, 588, 589, 590, 591, 592, 593, 594, 595, 596, 597, 598, 599, 600, 601, 602, 603, 604, 605, 606, 607, 608, 609, 610] (by decide +kernel) (by decide +kernel)
set_option maxRecDepth 20000 in
theorem gL_law_X6_trace : GoodIn wsL_law (wsV RL 100 RX6 yX6_trace wsX6_trace) := goodIn_app (goodIn_of _ (by decide +kernel)) ggL_law_X6_trace
set_option maxRecDepth 20000 in
theorem ggL_law_L_changed : GoodIn wsL_law wsL_changed := goodIn_ca (goodIn_r _ [535, 251, 536, 537, 538, 2, 539, 256, 257, 32, 521, 522, 523, 30, 524, 64, 350, 525, 526, 527, 528, 351, 316, 317, 318, 563, 564, 565, 566, 567, 568, 569, 570, 571, 572, 573, 574, 575, 618, 619] (by decide +kernel) (by decide +kernel)) (goodIn_sub (fun _ h => List.mem_append_right _ h) (by decide +kernel))
set_option maxRecDepth 20000 in
theorem gL_law_L_changed : GoodIn wsL_law (va_wsS RL 101 yL_changed wsL_changed) := goodIn_app (goodIn_of _ (by decide +kernel)) ggL_law_L_changed
set_option maxRecDepth 20000 in
theorem ggL_law_X6_changed : GoodIn wsL_law wsX6_changed := goodIn_r _ [543, 393, 88, 210, 211, 212, 5, 213, 214, 576, 577, 578, 579, 580, 581, 582, 583, 584, 585, 586, 587, 588, 589, 590, 591, 592, 593, 594, 595, 596, 597, 598, 599, 600, 601, 602, 603, 604, 605, 606, 607, 608, 609, 610] (by decide +kernel) (by decide +kernel)
set_option maxRecDepth 20000 in
theorem gL_law_X6_changed : GoodIn wsL_law (wsV RL 103 RX6 yX6_changed wsX6_changed) := goodIn_app (goodIn_of _ (by decide +kernel)) ggL_law_X6_changed
set_option maxRecDepth 20000 in
theorem ggL_law_L_count : GoodIn wsL_law wsL_count := goodIn_ca (goodIn_r _ [546, 98, 547, 548, 549, 2, 550, 104, 105, 298, 356, 299, 32, 21, 22, 374, 357, 551, 552, 553, 554, 17, 563, 564, 565, 566, 567, 568, 569, 570, 571, 572, 573, 574, 575, 618, 619, 612, 613, 620, 621, 622, 623, 624, 625, 626, 627, 628, 629, 630, 631, 632, 633] (by decide +kernel) (by decide +kernel)) (goodIn_sub (fun _ h => List.mem_append_left _ (List.mem_append_left _ (List.mem_append_right _ h))) (by decide +kernel))
set_option maxRecDepth 20000 in
theorem gL_law_L_count : GoodIn wsL_law (va_wsS RL 104 yL_count wsL_count) := goodIn_app (goodIn_of _ (by decide +kernel)) ggL_law_L_count
set_option maxRecDepth 20000 in
theorem ggL_law_X6_count : GoodIn wsL_law wsX6_count := goodIn_r _ [558, 328, 387, 329, 393, 279, 402, 388, 203, 204, 5, 205, 210, 211, 212, 213, 214, 559, 560, 561, 562, 70, 280, 281, 282, 283, 79, 284, 285, 286, 287, 87, 288, 289, 290, 576, 577, 578, 579, 580, 581, 582, 583, 584, 585, 586, 587, 588, 589, 590, 591, 592, 593, 594, 595, 596, 597, 598, 599, 600, 601, 602, 603, 604, 605, 606, 607, 608, 609, 610] (by decide +kernel) (by decide +kernel)
set_option maxRecDepth 20000 in
theorem gL_law_X6_count : GoodIn wsL_law (wsV RL 106 RX6 yX6_count wsX6_count) := goodIn_app (goodIn_of _ (by decide +kernel)) ggL_law_X6_count
theorem dL_law_0 : decode cL_law 0 = .ok (.new 8, 3) := by decide +kernel
theorem dL_law_3 : decode cL_law 3 = .ok (.dup, 1) := by decide +kernel
theorem dL_law_4 : decode cL_law 4 = .ok (.invokespecial 52, 3) := by decide +kernel
theorem dL_law_7 : decode cL_law 7 = .ok (.astore_n 1, 1) := by decide +kernel
theorem dL_law_8 : decode cL_law 8 = .ok (.new 53, 3) := by decide +kernel
theorem dL_law_11 : decode cL_law 11 = .ok (.dup, 1) := by decide +kernel
theorem dL_law_12 : decode cL_law 12 = .ok (.invokespecial 55, 3) := by decide +kernel
theorem dL_law_15 : decode cL_law 15 = .ok (.astore_n 2, 1) := by decide +kernel
theorem dL_law_16 : decode cL_law 16 = .ok (.iconst 1, 1) := by decide +kernel
theorem dL_law_17 : decode cL_law 17 = .ok (.newarray .long, 2) := by decide +kernel
theorem dL_law_19 : decode cL_law 19 = .ok (.astore_n 3, 1) := by decide +kernel
theorem dL_law_20 : decode cL_law 20 = .ok (.iconst 0, 1) := by decide +kernel
theorem dL_law_21 : decode cL_law 21 = .ok (.istore 4, 2) := by decide +kernel
theorem dL_law_23 : decode cL_law 23 = .ok (.iload 4, 2) := by decide +kernel
theorem dL_law_25 : decode cL_law 25 = .ok (.aload_n 0, 1) := by decide +kernel
theorem dL_law_26 : decode cL_law 26 = .ok (.arraylength, 1) := by decide +kernel
theorem dL_law_27 : decode cL_law 27 = .ok (.bipush 6, 2) := by decide +kernel
theorem dL_law_29 : decode cL_law 29 = .ok (.isub, 1) := by decide +kernel
theorem dL_law_30 : decode cL_law 30 = .ok (.if_icmp .gt 841, 3) := by decide +kernel
theorem dL_law_33 : decode cL_law 33 = .ok (.aload_n 0, 1) := by decide +kernel
theorem dL_law_34 : decode cL_law 34 = .ok (.iload 4, 2) := by decide +kernel
theorem dL_law_36 : decode cL_law 36 = .ok (.iaload, 1) := by decide +kernel
theorem dL_law_37 : decode cL_law 37 = .ok (.bipush 15, 2) := by decide +kernel
theorem dL_law_39 : decode cL_law 39 = .ok (.iand, 1) := by decide +kernel
theorem dL_law_40 : decode cL_law 40 = .ok (.tableswitch 825 0 12 #[68, 172, 235, 303, 316, 372, 385, 453, 521, 589, 657, 713, 769], 68) := by decide +kernel
theorem dL_law_108 : decode cL_law 108 = .ok (.aload_n 1, 1) := by decide +kernel
theorem dL_law_109 : decode cL_law 109 = .ok (.aload_n 0, 1) := by decide +kernel
theorem dL_law_110 : decode cL_law 110 = .ok (.iload 4, 2) := by decide +kernel
theorem dL_law_112 : decode cL_law 112 = .ok (.iconst 1, 1) := by decide +kernel
theorem dL_law_113 : decode cL_law 113 = .ok (.iadd, 1) := by decide +kernel
theorem dL_law_114 : decode cL_law 114 = .ok (.iaload, 1) := by decide +kernel
theorem dL_law_115 : decode cL_law 115 = .ok (.aload_n 0, 1) := by decide +kernel
theorem dL_law_116 : decode cL_law 116 = .ok (.iload 4, 2) := by decide +kernel
theorem dL_law_118 : decode cL_law 118 = .ok (.iconst 2, 1) := by decide +kernel
theorem dL_law_119 : decode cL_law 119 = .ok (.iadd, 1) := by decide +kernel
theorem dL_law_120 : decode cL_law 120 = .ok (.iaload, 1) := by decide +kernel
theorem dL_law_121 : decode cL_law 121 = .ok (.aload_n 0, 1) := by decide +kernel
theorem dL_law_122 : decode cL_law 122 = .ok (.iload 4, 2) := by decide +kernel
theorem dL_law_124 : decode cL_law 124 = .ok (.iconst 3, 1) := by decide +kernel
theorem dL_law_125 : decode cL_law 125 = .ok (.iadd, 1) := by decide +kernel
theorem dL_law_126 : decode cL_law 126 = .ok (.iaload, 1) := by decide +kernel
theorem dL_law_127 : decode cL_law 127 = .ok (.aload_n 0, 1) := by decide +kernel
theorem dL_law_128 : decode cL_law 128 = .ok (.iload 4, 2) := by decide +kernel
theorem dL_law_130 : decode cL_law 130 = .ok (.iconst 4, 1) := by decide +kernel
theorem dL_law_131 : decode cL_law 131 = .ok (.iadd, 1) := by decide +kernel
theorem dL_law_132 : decode cL_law 132 = .ok (.iaload, 1) := by decide +kernel
theorem dL_law_133 : decode cL_law 133 = .ok (.aload_n 0, 1) := by decide +kernel
theorem dL_law_134 : decode cL_law 134 = .ok (.iload 4, 2) := by decide +kernel
theorem dL_law_136 : decode cL_law 136 = .ok (.iconst 5, 1) := by decide +kernel
theorem dL_law_137 : decode cL_law 137 = .ok (.iadd, 1) := by decide +kernel
theorem dL_law_138 : decode cL_law 138 = .ok (.iaload, 1) := by decide +kernel
theorem dL_law_139 : decode cL_law 139 = .ok (.aload_n 3, 1) := by decide +kernel
theorem dL_law_140 : decode cL_law 140 = .ok (.invokestatic 56, 3) := by decide +kernel
theorem dL_law_143 : decode cL_law 143 = .ok (.istore 5, 2) := by decide +kernel
theorem dL_law_145 : decode cL_law 145 = .ok (.aload_n 2, 1) := by decide +kernel
theorem dL_law_146 : decode cL_law 146 = .ok (.aload_n 0, 1) := by decide +kernel
theorem dL_law_147 : decode cL_law 147 = .ok (.iload 4, 2) := by decide +kernel
theorem dL_law_149 : decode cL_law 149 = .ok (.iconst 1, 1) := by decide +kernel
theorem dL_law_150 : decode cL_law 150 = .ok (.iadd, 1) := by decide +kernel
theorem dL_law_151 : decode cL_law 151 = .ok (.iaload, 1) := by decide +kernel
theorem dL_law_152 : decode cL_law 152 = .ok (.aload_n 0, 1) := by decide +kernel
theorem dL_law_153 : decode cL_law 153 = .ok (.iload 4, 2) := by decide +kernel
theorem dL_law_155 : decode cL_law 155 = .ok (.iconst 2, 1) := by decide +kernel
theorem dL_law_156 : decode cL_law 156 = .ok (.iadd, 1) := by decide +kernel
theorem dL_law_157 : decode cL_law 157 = .ok (.iaload, 1) := by decide +kernel
theorem dL_law_158 : decode cL_law 158 = .ok (.aload_n 0, 1) := by decide +kernel
theorem dL_law_159 : decode cL_law 159 = .ok (.iload 4, 2) := by decide +kernel
theorem dL_law_161 : decode cL_law 161 = .ok (.iconst 3, 1) := by decide +kernel
theorem dL_law_162 : decode cL_law 162 = .ok (.iadd, 1) := by decide +kernel
theorem dL_law_163 : decode cL_law 163 = .ok (.iaload, 1) := by decide +kernel
theorem dL_law_164 : decode cL_law 164 = .ok (.aload_n 0, 1) := by decide +kernel
theorem dL_law_165 : decode cL_law 165 = .ok (.iload 4, 2) := by decide +kernel
theorem dL_law_167 : decode cL_law 167 = .ok (.iconst 4, 1) := by decide +kernel
theorem dL_law_168 : decode cL_law 168 = .ok (.iadd, 1) := by decide +kernel
theorem dL_law_169 : decode cL_law 169 = .ok (.iaload, 1) := by decide +kernel
theorem dL_law_170 : decode cL_law 170 = .ok (.aload_n 0, 1) := by decide +kernel
theorem dL_law_171 : decode cL_law 171 = .ok (.iload 4, 2) := by decide +kernel
theorem dL_law_173 : decode cL_law 173 = .ok (.iconst 5, 1) := by decide +kernel
theorem dL_law_174 : decode cL_law 174 = .ok (.iadd, 1) := by decide +kernel
theorem dL_law_175 : decode cL_law 175 = .ok (.iaload, 1) := by decide +kernel
theorem dL_law_176 : decode cL_law 176 = .ok (.invokevirtual 61, 3) := by decide +kernel
theorem dL_law_179 : decode cL_law 179 = .ok (.istore 6, 2) := by decide +kernel
theorem dL_law_181 : decode cL_law 181 = .ok (.aload_n 2, 1) := by decide +kernel
theorem dL_law_182 : decode cL_law 182 = .ok (.invokevirtual 62, 3) := by decide +kernel
theorem dL_law_185 : decode cL_law 185 = .ok (.iload 5, 2) := by decide +kernel
theorem dL_law_187 : decode cL_law 187 = .ok (.if_icmp .eq 5, 3) := by decide +kernel
theorem dL_law_190 : decode cL_law 190 = .ok (.iconst 0, 1) := by decide +kernel
theorem dL_law_191 : decode cL_law 191 = .ok (.ireturn, 1) := by decide +kernel
theorem dL_law_192 : decode cL_law 192 = .ok (.iload 5, 2) := by decide +kernel
theorem dL_law_194 : decode cL_law 194 = .ok (.ifCond .ne 15, 3) := by decide +kernel
theorem dL_law_197 : decode cL_law 197 = .ok (.aload_n 3, 1) := by decide +kernel
theorem dL_law_198 : decode cL_law 198 = .ok (.iconst 0, 1) := by decide +kernel
theorem dL_law_199 : decode cL_law 199 = .ok (.laload, 1) := by decide +kernel
theorem dL_law_200 : decode cL_law 200 = .ok (.iload 6, 2) := by decide +kernel
theorem dL_law_202 : decode cL_law 202 = .ok (.i2l, 1) := by decide +kernel
theorem dL_law_203 : decode cL_law 203 = .ok (.lcmp, 1) := by decide +kernel
theorem dL_law_204 : decode cL_law 204 = .ok (.ifCond .eq 5, 3) := by decide +kernel
theorem dL_law_207 : decode cL_law 207 = .ok (.iconst 0, 1) := by decide +kernel
theorem dL_law_208 : decode cL_law 208 = .ok (.ireturn, 1) := by decide +kernel
theorem dL_law_209 : decode cL_law 209 = .ok (.goto 656, 3) := by decide +kernel
theorem dL_law_212 : decode cL_law 212 = .ok (.aload_n 1, 1) := by decide +kernel
theorem dL_law_213 : decode cL_law 213 = .ok (.aload_n 0, 1) := by decide +kernel
theorem dL_law_214 : decode cL_law 214 = .ok (.iload 4, 2) := by decide +kernel
theorem dL_law_216 : decode cL_law 216 = .ok (.iconst 1, 1) := by decide +kernel
theorem dL_law_217 : decode cL_law 217 = .ok (.iadd, 1) := by decide +kernel
theorem dL_law_218 : decode cL_law 218 = .ok (.iaload, 1) := by decide +kernel
theorem dL_law_219 : decode cL_law 219 = .ok (.aload_n 3, 1) := by decide +kernel
theorem dL_law_220 : decode cL_law 220 = .ok (.invokestatic 66, 3) := by decide +kernel
theorem dL_law_223 : decode cL_law 223 = .ok (.istore 5, 2) := by decide +kernel
theorem dL_law_225 : decode cL_law 225 = .ok (.aload_n 2, 1) := by decide +kernel
theorem dL_law_226 : decode cL_law 226 = .ok (.aload_n 0, 1) := by decide +kernel
theorem dL_law_227 : decode cL_law 227 = .ok (.iload 4, 2) := by decide +kernel
theorem dL_law_229 : decode cL_law 229 = .ok (.iconst 1, 1) := by decide +kernel
theorem dL_law_230 : decode cL_law 230 = .ok (.iadd, 1) := by decide +kernel
theorem dL_law_231 : decode cL_law 231 = .ok (.iaload, 1) := by decide +kernel
theorem dL_law_232 : decode cL_law 232 = .ok (.invokevirtual 69, 3) := by decide +kernel
theorem dL_law_235 : decode cL_law 235 = .ok (.istore 6, 2) := by decide +kernel
theorem dL_law_237 : decode cL_law 237 = .ok (.aload_n 2, 1) := by decide +kernel
theorem dL_law_238 : decode cL_law 238 = .ok (.invokevirtual 62, 3) := by decide +kernel
theorem dL_law_241 : decode cL_law 241 = .ok (.iload 5, 2) := by decide +kernel
theorem dL_law_243 : decode cL_law 243 = .ok (.if_icmp .eq 5, 3) := by decide +kernel
theorem dL_law_246 : decode cL_law 246 = .ok (.iconst 0, 1) := by decide +kernel
theorem dL_law_247 : decode cL_law 247 = .ok (.ireturn, 1) := by decide +kernel
theorem dL_law_248 : decode cL_law 248 = .ok (.iload 5, 2) := by decide +kernel
theorem dL_law_250 : decode cL_law 250 = .ok (.ifCond .ne 22, 3) := by decide +kernel
theorem dL_law_253 : decode cL_law 253 = .ok (.aload_n 3, 1) := by decide +kernel
theorem dL_law_254 : decode cL_law 254 = .ok (.iconst 0, 1) := by decide +kernel
theorem dL_law_255 : decode cL_law 255 = .ok (.laload, 1) := by decide +kernel
theorem dL_law_256 : decode cL_law 256 = .ok (.iload 6, 2) := by decide +kernel
theorem dL_law_258 : decode cL_law 258 = .ok (.ifCond .eq 7, 3) := by decide +kernel
theorem dL_law_261 : decode cL_law 261 = .ok (.lconst 1, 1) := by decide +kernel
theorem dL_law_262 : decode cL_law 262 = .ok (.goto 4, 3) := by decide +kernel
theorem dL_law_265 : decode cL_law 265 = .ok (.lconst 0, 1) := by decide +kernel
theorem dL_law_266 : decode cL_law 266 = .ok (.lcmp, 1) := by decide +kernel
theorem dL_law_267 : decode cL_law 267 = .ok (.ifCond .eq 5, 3) := by decide +kernel
theorem dL_law_270 : decode cL_law 270 = .ok (.iconst 0, 1) := by decide +kernel
theorem dL_law_271 : decode cL_law 271 = .ok (.ireturn, 1) := by decide +kernel
theorem dL_law_272 : decode cL_law 272 = .ok (.goto 593, 3) := by decide +kernel
theorem dL_law_275 : decode cL_law 275 = .ok (.aload_n 1, 1) := by decide +kernel
theorem dL_law_276 : decode cL_law 276 = .ok (.aload_n 0, 1) := by decide +kernel
theorem dL_law_277 : decode cL_law 277 = .ok (.iload 4, 2) := by decide +kernel
theorem dL_law_279 : decode cL_law 279 = .ok (.iconst 1, 1) := by decide +kernel
theorem dL_law_280 : decode cL_law 280 = .ok (.iadd, 1) := by decide +kernel
theorem dL_law_281 : decode cL_law 281 = .ok (.iaload, 1) := by decide +kernel
theorem dL_law_282 : decode cL_law 282 = .ok (.aload_n 0, 1) := by decide +kernel
theorem dL_law_283 : decode cL_law 283 = .ok (.iload 4, 2) := by decide +kernel
theorem dL_law_285 : decode cL_law 285 = .ok (.iconst 2, 1) := by decide +kernel
theorem dL_law_286 : decode cL_law 286 = .ok (.iadd, 1) := by decide +kernel
theorem dL_law_287 : decode cL_law 287 = .ok (.iaload, 1) := by decide +kernel
theorem dL_law_288 : decode cL_law 288 = .ok (.aload_n 3, 1) := by decide +kernel
theorem dL_law_289 : decode cL_law 289 = .ok (.invokestatic 70, 3) := by decide +kernel
theorem dL_law_292 : decode cL_law 292 = .ok (.istore 5, 2) := by decide +kernel
theorem dL_law_294 : decode cL_law 294 = .ok (.aload_n 2, 1) := by decide +kernel
theorem dL_law_295 : decode cL_law 295 = .ok (.aload_n 0, 1) := by decide +kernel
theorem dL_law_296 : decode cL_law 296 = .ok (.iload 4, 2) := by decide +kernel
theorem dL_law_298 : decode cL_law 298 = .ok (.iconst 1, 1) := by decide +kernel
theorem dL_law_299 : decode cL_law 299 = .ok (.iadd, 1) := by decide +kernel
theorem dL_law_300 : decode cL_law 300 = .ok (.iaload, 1) := by decide +kernel
theorem dL_law_301 : decode cL_law 301 = .ok (.aload_n 0, 1) := by decide +kernel
theorem dL_law_302 : decode cL_law 302 = .ok (.iload 4, 2) := by decide +kernel
theorem dL_law_304 : decode cL_law 304 = .ok (.iconst 2, 1) := by decide +kernel
theorem dL_law_305 : decode cL_law 305 = .ok (.iadd, 1) := by decide +kernel
theorem dL_law_306 : decode cL_law 306 = .ok (.iaload, 1) := by decide +kernel
theorem dL_law_307 : decode cL_law 307 = .ok (.invokevirtual 73, 3) := by decide +kernel
theorem dL_law_310 : decode cL_law 310 = .ok (.istore 6, 2) := by decide +kernel
theorem dL_law_312 : decode cL_law 312 = .ok (.aload_n 2, 1) := by decide +kernel
theorem dL_law_313 : decode cL_law 313 = .ok (.invokevirtual 62, 3) := by decide +kernel
theorem dL_law_316 : decode cL_law 316 = .ok (.iload 5, 2) := by decide +kernel
theorem dL_law_318 : decode cL_law 318 = .ok (.if_icmp .eq 5, 3) := by decide +kernel
theorem dL_law_321 : decode cL_law 321 = .ok (.iconst 0, 1) := by decide +kernel
theorem dL_law_322 : decode cL_law 322 = .ok (.ireturn, 1) := by decide +kernel
theorem dL_law_323 : decode cL_law 323 = .ok (.iload 5, 2) := by decide +kernel
theorem dL_law_325 : decode cL_law 325 = .ok (.ifCond .ne 15, 3) := by decide +kernel
theorem dL_law_328 : decode cL_law 328 = .ok (.aload_n 3, 1) := by decide +kernel
theorem dL_law_329 : decode cL_law 329 = .ok (.iconst 0, 1) := by decide +kernel
theorem dL_law_330 : decode cL_law 330 = .ok (.laload, 1) := by decide +kernel
theorem dL_law_331 : decode cL_law 331 = .ok (.iload 6, 2) := by decide +kernel
theorem dL_law_333 : decode cL_law 333 = .ok (.i2l, 1) := by decide +kernel
theorem dL_law_334 : decode cL_law 334 = .ok (.lcmp, 1) := by decide +kernel
theorem dL_law_335 : decode cL_law 335 = .ok (.ifCond .eq 5, 3) := by decide +kernel
theorem dL_law_338 : decode cL_law 338 = .ok (.iconst 0, 1) := by decide +kernel
theorem dL_law_339 : decode cL_law 339 = .ok (.ireturn, 1) := by decide +kernel
theorem dL_law_340 : decode cL_law 340 = .ok (.goto 525, 3) := by decide +kernel
theorem dL_law_343 : decode cL_law 343 = .ok (.aload_n 1, 1) := by decide +kernel
theorem dL_law_344 : decode cL_law 344 = .ok (.invokevirtual 74, 3) := by decide +kernel
theorem dL_law_347 : decode cL_law 347 = .ok (.aload_n 2, 1) := by decide +kernel
theorem dL_law_348 : decode cL_law 348 = .ok (.invokevirtual 77, 3) := by decide +kernel
theorem dL_law_351 : decode cL_law 351 = .ok (.if_icmp .eq 514, 3) := by decide +kernel
theorem dL_law_354 : decode cL_law 354 = .ok (.iconst 0, 1) := by decide +kernel
theorem dL_law_355 : decode cL_law 355 = .ok (.ireturn, 1) := by decide +kernel
theorem dL_law_356 : decode cL_law 356 = .ok (.aload_n 1, 1) := by decide +kernel
theorem dL_law_357 : decode cL_law 357 = .ok (.aload_n 0, 1) := by decide +kernel
theorem dL_law_358 : decode cL_law 358 = .ok (.iload 4, 2) := by decide +kernel
theorem dL_law_360 : decode cL_law 360 = .ok (.iconst 1, 1) := by decide +kernel
theorem dL_law_361 : decode cL_law 361 = .ok (.iadd, 1) := by decide +kernel
theorem dL_law_362 : decode cL_law 362 = .ok (.iaload, 1) := by decide +kernel
theorem dL_law_363 : decode cL_law 363 = .ok (.aload_n 3, 1) := by decide +kernel
theorem dL_law_364 : decode cL_law 364 = .ok (.invokestatic 78, 3) := by decide +kernel
theorem dL_law_367 : decode cL_law 367 = .ok (.istore 5, 2) := by decide +kernel
theorem dL_law_369 : decode cL_law 369 = .ok (.aload_n 2, 1) := by decide +kernel
theorem dL_law_370 : decode cL_law 370 = .ok (.aload_n 0, 1) := by decide +kernel
theorem dL_law_371 : decode cL_law 371 = .ok (.iload 4, 2) := by decide +kernel
theorem dL_law_373 : decode cL_law 373 = .ok (.iconst 1, 1) := by decide +kernel
theorem dL_law_374 : decode cL_law 374 = .ok (.iadd, 1) := by decide +kernel
theorem dL_law_375 : decode cL_law 375 = .ok (.iaload, 1) := by decide +kernel
theorem dL_law_376 : decode cL_law 376 = .ok (.invokevirtual 80, 3) := by decide +kernel
theorem dL_law_379 : decode cL_law 379 = .ok (.istore 6, 2) := by decide +kernel
theorem dL_law_381 : decode cL_law 381 = .ok (.aload_n 2, 1) := by decide +kernel
theorem dL_law_382 : decode cL_law 382 = .ok (.invokevirtual 62, 3) := by decide +kernel
theorem dL_law_385 : decode cL_law 385 = .ok (.iload 5, 2) := by decide +kernel
theorem dL_law_387 : decode cL_law 387 = .ok (.if_icmp .eq 5, 3) := by decide +kernel
theorem dL_law_390 : decode cL_law 390 = .ok (.iconst 0, 1) := by decide +kernel
theorem dL_law_391 : decode cL_law 391 = .ok (.ireturn, 1) := by decide +kernel
theorem dL_law_392 : decode cL_law 392 = .ok (.iload 5, 2) := by decide +kernel
theorem dL_law_394 : decode cL_law 394 = .ok (.ifCond .ne 15, 3) := by decide +kernel
theorem dL_law_397 : decode cL_law 397 = .ok (.aload_n 3, 1) := by decide +kernel
theorem dL_law_398 : decode cL_law 398 = .ok (.iconst 0, 1) := by decide +kernel
theorem dL_law_399 : decode cL_law 399 = .ok (.laload, 1) := by decide +kernel
theorem dL_law_400 : decode cL_law 400 = .ok (.iload 6, 2) := by decide +kernel
theorem dL_law_402 : decode cL_law 402 = .ok (.i2l, 1) := by decide +kernel
theorem dL_law_403 : decode cL_law 403 = .ok (.lcmp, 1) := by decide +kernel
theorem dL_law_404 : decode cL_law 404 = .ok (.ifCond .eq 5, 3) := by decide +kernel
theorem dL_law_407 : decode cL_law 407 = .ok (.iconst 0, 1) := by decide +kernel
theorem dL_law_408 : decode cL_law 408 = .ok (.ireturn, 1) := by decide +kernel
theorem dL_law_409 : decode cL_law 409 = .ok (.goto 456, 3) := by decide +kernel
theorem dL_law_412 : decode cL_law 412 = .ok (.aload_n 1, 1) := by decide +kernel
theorem dL_law_413 : decode cL_law 413 = .ok (.invokevirtual 81, 3) := by decide +kernel
theorem dL_law_416 : decode cL_law 416 = .ok (.aload_n 2, 1) := by decide +kernel
theorem dL_law_417 : decode cL_law 417 = .ok (.invokevirtual 85, 3) := by decide +kernel
theorem dL_law_420 : decode cL_law 420 = .ok (.if_icmp .eq 445, 3) := by decide +kernel
theorem dL_law_423 : decode cL_law 423 = .ok (.iconst 0, 1) := by decide +kernel
theorem dL_law_424 : decode cL_law 424 = .ok (.ireturn, 1) := by decide +kernel
theorem dL_law_425 : decode cL_law 425 = .ok (.aload_n 1, 1) := by decide +kernel
theorem dL_law_426 : decode cL_law 426 = .ok (.aload_n 0, 1) := by decide +kernel
theorem dL_law_427 : decode cL_law 427 = .ok (.iload 4, 2) := by decide +kernel
theorem dL_law_429 : decode cL_law 429 = .ok (.iconst 1, 1) := by decide +kernel
theorem dL_law_430 : decode cL_law 430 = .ok (.iadd, 1) := by decide +kernel
theorem dL_law_431 : decode cL_law 431 = .ok (.iaload, 1) := by decide +kernel
theorem dL_law_432 : decode cL_law 432 = .ok (.aload_n 0, 1) := by decide +kernel
theorem dL_law_433 : decode cL_law 433 = .ok (.iload 4, 2) := by decide +kernel
theorem dL_law_435 : decode cL_law 435 = .ok (.iconst 2, 1) := by decide +kernel
theorem dL_law_436 : decode cL_law 436 = .ok (.iadd, 1) := by decide +kernel
theorem dL_law_437 : decode cL_law 437 = .ok (.iaload, 1) := by decide +kernel
theorem dL_law_438 : decode cL_law 438 = .ok (.aload_n 3, 1) := by decide +kernel
theorem dL_law_439 : decode cL_law 439 = .ok (.invokestatic 86, 3) := by decide +kernel
theorem dL_law_442 : decode cL_law 442 = .ok (.istore 5, 2) := by decide +kernel
theorem dL_law_444 : decode cL_law 444 = .ok (.aload_n 2, 1) := by decide +kernel
theorem dL_law_445 : decode cL_law 445 = .ok (.aload_n 0, 1) := by decide +kernel
theorem dL_law_446 : decode cL_law 446 = .ok (.iload 4, 2) := by decide +kernel
theorem dL_law_448 : decode cL_law 448 = .ok (.iconst 1, 1) := by decide +kernel
theorem dL_law_449 : decode cL_law 449 = .ok (.iadd, 1) := by decide +kernel
theorem dL_law_450 : decode cL_law 450 = .ok (.iaload, 1) := by decide +kernel
theorem dL_law_451 : decode cL_law 451 = .ok (.aload_n 0, 1) := by decide +kernel
theorem dL_law_452 : decode cL_law 452 = .ok (.iload 4, 2) := by decide +kernel
theorem dL_law_454 : decode cL_law 454 = .ok (.iconst 2, 1) := by decide +kernel
theorem dL_law_455 : decode cL_law 455 = .ok (.iadd, 1) := by decide +kernel
theorem dL_law_456 : decode cL_law 456 = .ok (.iaload, 1) := by decide +kernel
theorem dL_law_457 : decode cL_law 457 = .ok (.invokevirtual 88, 3) := by decide +kernel
theorem dL_law_460 : decode cL_law 460 = .ok (.istore 6, 2) := by decide +kernel
theorem dL_law_462 : decode cL_law 462 = .ok (.aload_n 2, 1) := by decide +kernel
theorem dL_law_463 : decode cL_law 463 = .ok (.invokevirtual 62, 3) := by decide +kernel
theorem dL_law_466 : decode cL_law 466 = .ok (.iload 5, 2) := by decide +kernel
theorem dL_law_468 : decode cL_law 468 = .ok (.if_icmp .eq 5, 3) := by decide +kernel
theorem dL_law_471 : decode cL_law 471 = .ok (.iconst 0, 1) := by decide +kernel
theorem dL_law_472 : decode cL_law 472 = .ok (.ireturn, 1) := by decide +kernel
theorem dL_law_473 : decode cL_law 473 = .ok (.iload 5, 2) := by decide +kernel
theorem dL_law_475 : decode cL_law 475 = .ok (.ifCond .ne 15, 3) := by decide +kernel
theorem dL_law_478 : decode cL_law 478 = .ok (.aload_n 3, 1) := by decide +kernel
theorem dL_law_479 : decode cL_law 479 = .ok (.iconst 0, 1) := by decide +kernel
theorem dL_law_480 : decode cL_law 480 = .ok (.laload, 1) := by decide +kernel
theorem dL_law_481 : decode cL_law 481 = .ok (.iload 6, 2) := by decide +kernel
theorem dL_law_483 : decode cL_law 483 = .ok (.i2l, 1) := by decide +kernel
theorem dL_law_484 : decode cL_law 484 = .ok (.lcmp, 1) := by decide +kernel
theorem dL_law_485 : decode cL_law 485 = .ok (.ifCond .eq 5, 3) := by decide +kernel
theorem dL_law_488 : decode cL_law 488 = .ok (.iconst 0, 1) := by decide +kernel
theorem dL_law_489 : decode cL_law 489 = .ok (.ireturn, 1) := by decide +kernel
theorem dL_law_490 : decode cL_law 490 = .ok (.goto 375, 3) := by decide +kernel
theorem dL_law_493 : decode cL_law 493 = .ok (.aload_n 1, 1) := by decide +kernel
theorem dL_law_494 : decode cL_law 494 = .ok (.aload_n 0, 1) := by decide +kernel
theorem dL_law_495 : decode cL_law 495 = .ok (.iload 4, 2) := by decide +kernel
theorem dL_law_497 : decode cL_law 497 = .ok (.iconst 1, 1) := by decide +kernel
theorem dL_law_498 : decode cL_law 498 = .ok (.iadd, 1) := by decide +kernel
theorem dL_law_499 : decode cL_law 499 = .ok (.iaload, 1) := by decide +kernel
theorem dL_law_500 : decode cL_law 500 = .ok (.aload_n 0, 1) := by decide +kernel
theorem dL_law_501 : decode cL_law 501 = .ok (.iload 4, 2) := by decide +kernel
theorem dL_law_503 : decode cL_law 503 = .ok (.iconst 2, 1) := by decide +kernel
theorem dL_law_504 : decode cL_law 504 = .ok (.iadd, 1) := by decide +kernel
theorem dL_law_505 : decode cL_law 505 = .ok (.iaload, 1) := by decide +kernel
theorem dL_law_506 : decode cL_law 506 = .ok (.aload_n 3, 1) := by decide +kernel
theorem dL_law_507 : decode cL_law 507 = .ok (.invokestatic 89, 3) := by decide +kernel
theorem dL_law_510 : decode cL_law 510 = .ok (.istore 5, 2) := by decide +kernel
theorem dL_law_512 : decode cL_law 512 = .ok (.aload_n 2, 1) := by decide +kernel
theorem dL_law_513 : decode cL_law 513 = .ok (.aload_n 0, 1) := by decide +kernel
theorem dL_law_514 : decode cL_law 514 = .ok (.iload 4, 2) := by decide +kernel
theorem dL_law_516 : decode cL_law 516 = .ok (.iconst 1, 1) := by decide +kernel
theorem dL_law_517 : decode cL_law 517 = .ok (.iadd, 1) := by decide +kernel
theorem dL_law_518 : decode cL_law 518 = .ok (.iaload, 1) := by decide +kernel
theorem dL_law_519 : decode cL_law 519 = .ok (.aload_n 0, 1) := by decide +kernel
theorem dL_law_520 : decode cL_law 520 = .ok (.iload 4, 2) := by decide +kernel
theorem dL_law_522 : decode cL_law 522 = .ok (.iconst 2, 1) := by decide +kernel
theorem dL_law_523 : decode cL_law 523 = .ok (.iadd, 1) := by decide +kernel
theorem dL_law_524 : decode cL_law 524 = .ok (.iaload, 1) := by decide +kernel
theorem dL_law_525 : decode cL_law 525 = .ok (.invokevirtual 91, 3) := by decide +kernel
theorem dL_law_528 : decode cL_law 528 = .ok (.istore 6, 2) := by decide +kernel
theorem dL_law_530 : decode cL_law 530 = .ok (.aload_n 2, 1) := by decide +kernel
theorem dL_law_531 : decode cL_law 531 = .ok (.invokevirtual 62, 3) := by decide +kernel
theorem dL_law_534 : decode cL_law 534 = .ok (.iload 5, 2) := by decide +kernel
theorem dL_law_536 : decode cL_law 536 = .ok (.if_icmp .eq 5, 3) := by decide +kernel
theorem dL_law_539 : decode cL_law 539 = .ok (.iconst 0, 1) := by decide +kernel
theorem dL_law_540 : decode cL_law 540 = .ok (.ireturn, 1) := by decide +kernel
theorem dL_law_541 : decode cL_law 541 = .ok (.iload 5, 2) := by decide +kernel
theorem dL_law_543 : decode cL_law 543 = .ok (.ifCond .ne 15, 3) := by decide +kernel
theorem dL_law_546 : decode cL_law 546 = .ok (.aload_n 3, 1) := by decide +kernel
theorem dL_law_547 : decode cL_law 547 = .ok (.iconst 0, 1) := by decide +kernel
theorem dL_law_548 : decode cL_law 548 = .ok (.laload, 1) := by decide +kernel
theorem dL_law_549 : decode cL_law 549 = .ok (.iload 6, 2) := by decide +kernel
theorem dL_law_551 : decode cL_law 551 = .ok (.i2l, 1) := by decide +kernel
theorem dL_law_552 : decode cL_law 552 = .ok (.lcmp, 1) := by decide +kernel
theorem dL_law_553 : decode cL_law 553 = .ok (.ifCond .eq 5, 3) := by decide +kernel
theorem dL_law_556 : decode cL_law 556 = .ok (.iconst 0, 1) := by decide +kernel
theorem dL_law_557 : decode cL_law 557 = .ok (.ireturn, 1) := by decide +kernel
theorem dL_law_558 : decode cL_law 558 = .ok (.goto 307, 3) := by decide +kernel
theorem dL_law_561 : decode cL_law 561 = .ok (.aload_n 1, 1) := by decide +kernel
theorem dL_law_562 : decode cL_law 562 = .ok (.aload_n 0, 1) := by decide +kernel
theorem dL_law_563 : decode cL_law 563 = .ok (.iload 4, 2) := by decide +kernel
theorem dL_law_565 : decode cL_law 565 = .ok (.iconst 1, 1) := by decide +kernel
theorem dL_law_566 : decode cL_law 566 = .ok (.iadd, 1) := by decide +kernel
theorem dL_law_567 : decode cL_law 567 = .ok (.iaload, 1) := by decide +kernel
theorem dL_law_568 : decode cL_law 568 = .ok (.aload_n 0, 1) := by decide +kernel
theorem dL_law_569 : decode cL_law 569 = .ok (.iload 4, 2) := by decide +kernel
theorem dL_law_571 : decode cL_law 571 = .ok (.iconst 2, 1) := by decide +kernel
theorem dL_law_572 : decode cL_law 572 = .ok (.iadd, 1) := by decide +kernel
theorem dL_law_573 : decode cL_law 573 = .ok (.iaload, 1) := by decide +kernel
theorem dL_law_574 : decode cL_law 574 = .ok (.aload_n 3, 1) := by decide +kernel
theorem dL_law_575 : decode cL_law 575 = .ok (.invokestatic 92, 3) := by decide +kernel
theorem dL_law_578 : decode cL_law 578 = .ok (.istore 5, 2) := by decide +kernel
theorem dL_law_580 : decode cL_law 580 = .ok (.aload_n 2, 1) := by decide +kernel
theorem dL_law_581 : decode cL_law 581 = .ok (.aload_n 0, 1) := by decide +kernel
theorem dL_law_582 : decode cL_law 582 = .ok (.iload 4, 2) := by decide +kernel
theorem dL_law_584 : decode cL_law 584 = .ok (.iconst 1, 1) := by decide +kernel
theorem dL_law_585 : decode cL_law 585 = .ok (.iadd, 1) := by decide +kernel
theorem dL_law_586 : decode cL_law 586 = .ok (.iaload, 1) := by decide +kernel
theorem dL_law_587 : decode cL_law 587 = .ok (.aload_n 0, 1) := by decide +kernel
theorem dL_law_588 : decode cL_law 588 = .ok (.iload 4, 2) := by decide +kernel
theorem dL_law_590 : decode cL_law 590 = .ok (.iconst 2, 1) := by decide +kernel
theorem dL_law_591 : decode cL_law 591 = .ok (.iadd, 1) := by decide +kernel
theorem dL_law_592 : decode cL_law 592 = .ok (.iaload, 1) := by decide +kernel
theorem dL_law_593 : decode cL_law 593 = .ok (.invokevirtual 94, 3) := by decide +kernel
theorem dL_law_596 : decode cL_law 596 = .ok (.istore 6, 2) := by decide +kernel
theorem dL_law_598 : decode cL_law 598 = .ok (.aload_n 2, 1) := by decide +kernel
theorem dL_law_599 : decode cL_law 599 = .ok (.invokevirtual 62, 3) := by decide +kernel
theorem dL_law_602 : decode cL_law 602 = .ok (.iload 5, 2) := by decide +kernel
theorem dL_law_604 : decode cL_law 604 = .ok (.if_icmp .eq 5, 3) := by decide +kernel
theorem dL_law_607 : decode cL_law 607 = .ok (.iconst 0, 1) := by decide +kernel
theorem dL_law_608 : decode cL_law 608 = .ok (.ireturn, 1) := by decide +kernel
theorem dL_law_609 : decode cL_law 609 = .ok (.iload 5, 2) := by decide +kernel
theorem dL_law_611 : decode cL_law 611 = .ok (.ifCond .ne 15, 3) := by decide +kernel
theorem dL_law_614 : decode cL_law 614 = .ok (.aload_n 3, 1) := by decide +kernel
theorem dL_law_615 : decode cL_law 615 = .ok (.iconst 0, 1) := by decide +kernel
theorem dL_law_616 : decode cL_law 616 = .ok (.laload, 1) := by decide +kernel
theorem dL_law_617 : decode cL_law 617 = .ok (.iload 6, 2) := by decide +kernel
theorem dL_law_619 : decode cL_law 619 = .ok (.i2l, 1) := by decide +kernel
theorem dL_law_620 : decode cL_law 620 = .ok (.lcmp, 1) := by decide +kernel
theorem dL_law_621 : decode cL_law 621 = .ok (.ifCond .eq 5, 3) := by decide +kernel
theorem dL_law_624 : decode cL_law 624 = .ok (.iconst 0, 1) := by decide +kernel
theorem dL_law_625 : decode cL_law 625 = .ok (.ireturn, 1) := by decide +kernel
theorem dL_law_626 : decode cL_law 626 = .ok (.goto 239, 3) := by decide +kernel
theorem dL_law_629 : decode cL_law 629 = .ok (.aload_n 1, 1) := by decide +kernel
theorem dL_law_630 : decode cL_law 630 = .ok (.aload_n 0, 1) := by decide +kernel
theorem dL_law_631 : decode cL_law 631 = .ok (.iload 4, 2) := by decide +kernel
theorem dL_law_633 : decode cL_law 633 = .ok (.iconst 1, 1) := by decide +kernel
theorem dL_law_634 : decode cL_law 634 = .ok (.iadd, 1) := by decide +kernel
theorem dL_law_635 : decode cL_law 635 = .ok (.iaload, 1) := by decide +kernel
theorem dL_law_636 : decode cL_law 636 = .ok (.aload_n 0, 1) := by decide +kernel
theorem dL_law_637 : decode cL_law 637 = .ok (.iload 4, 2) := by decide +kernel
theorem dL_law_639 : decode cL_law 639 = .ok (.iconst 2, 1) := by decide +kernel
theorem dL_law_640 : decode cL_law 640 = .ok (.iadd, 1) := by decide +kernel
theorem dL_law_641 : decode cL_law 641 = .ok (.iaload, 1) := by decide +kernel
theorem dL_law_642 : decode cL_law 642 = .ok (.aload_n 3, 1) := by decide +kernel
theorem dL_law_643 : decode cL_law 643 = .ok (.invokestatic 95, 3) := by decide +kernel
theorem dL_law_646 : decode cL_law 646 = .ok (.istore 5, 2) := by decide +kernel
theorem dL_law_648 : decode cL_law 648 = .ok (.aload_n 2, 1) := by decide +kernel
theorem dL_law_649 : decode cL_law 649 = .ok (.aload_n 0, 1) := by decide +kernel
theorem dL_law_650 : decode cL_law 650 = .ok (.iload 4, 2) := by decide +kernel
theorem dL_law_652 : decode cL_law 652 = .ok (.iconst 1, 1) := by decide +kernel
theorem dL_law_653 : decode cL_law 653 = .ok (.iadd, 1) := by decide +kernel
theorem dL_law_654 : decode cL_law 654 = .ok (.iaload, 1) := by decide +kernel
theorem dL_law_655 : decode cL_law 655 = .ok (.aload_n 0, 1) := by decide +kernel
theorem dL_law_656 : decode cL_law 656 = .ok (.iload 4, 2) := by decide +kernel
theorem dL_law_658 : decode cL_law 658 = .ok (.iconst 2, 1) := by decide +kernel
theorem dL_law_659 : decode cL_law 659 = .ok (.iadd, 1) := by decide +kernel
theorem dL_law_660 : decode cL_law 660 = .ok (.iaload, 1) := by decide +kernel
theorem dL_law_661 : decode cL_law 661 = .ok (.invokevirtual 97, 3) := by decide +kernel
theorem dL_law_664 : decode cL_law 664 = .ok (.istore 6, 2) := by decide +kernel
theorem dL_law_666 : decode cL_law 666 = .ok (.aload_n 2, 1) := by decide +kernel
theorem dL_law_667 : decode cL_law 667 = .ok (.invokevirtual 62, 3) := by decide +kernel
theorem dL_law_670 : decode cL_law 670 = .ok (.iload 5, 2) := by decide +kernel
theorem dL_law_672 : decode cL_law 672 = .ok (.if_icmp .eq 5, 3) := by decide +kernel
theorem dL_law_675 : decode cL_law 675 = .ok (.iconst 0, 1) := by decide +kernel
theorem dL_law_676 : decode cL_law 676 = .ok (.ireturn, 1) := by decide +kernel
theorem dL_law_677 : decode cL_law 677 = .ok (.iload 5, 2) := by decide +kernel
theorem dL_law_679 : decode cL_law 679 = .ok (.ifCond .ne 15, 3) := by decide +kernel
theorem dL_law_682 : decode cL_law 682 = .ok (.aload_n 3, 1) := by decide +kernel
theorem dL_law_683 : decode cL_law 683 = .ok (.iconst 0, 1) := by decide +kernel
theorem dL_law_684 : decode cL_law 684 = .ok (.laload, 1) := by decide +kernel
theorem dL_law_685 : decode cL_law 685 = .ok (.iload 6, 2) := by decide +kernel
theorem dL_law_687 : decode cL_law 687 = .ok (.i2l, 1) := by decide +kernel
theorem dL_law_688 : decode cL_law 688 = .ok (.lcmp, 1) := by decide +kernel
theorem dL_law_689 : decode cL_law 689 = .ok (.ifCond .eq 5, 3) := by decide +kernel
theorem dL_law_692 : decode cL_law 692 = .ok (.iconst 0, 1) := by decide +kernel
theorem dL_law_693 : decode cL_law 693 = .ok (.ireturn, 1) := by decide +kernel
theorem dL_law_694 : decode cL_law 694 = .ok (.goto 171, 3) := by decide +kernel
theorem dL_law_697 : decode cL_law 697 = .ok (.aload_n 1, 1) := by decide +kernel
theorem dL_law_698 : decode cL_law 698 = .ok (.aload_n 0, 1) := by decide +kernel
theorem dL_law_699 : decode cL_law 699 = .ok (.iload 4, 2) := by decide +kernel
theorem dL_law_701 : decode cL_law 701 = .ok (.iconst 1, 1) := by decide +kernel
theorem dL_law_702 : decode cL_law 702 = .ok (.iadd, 1) := by decide +kernel
theorem dL_law_703 : decode cL_law 703 = .ok (.iaload, 1) := by decide +kernel
theorem dL_law_704 : decode cL_law 704 = .ok (.aload_n 3, 1) := by decide +kernel
theorem dL_law_705 : decode cL_law 705 = .ok (.invokestatic 98, 3) := by decide +kernel
theorem dL_law_708 : decode cL_law 708 = .ok (.istore 5, 2) := by decide +kernel
theorem dL_law_710 : decode cL_law 710 = .ok (.aload_n 2, 1) := by decide +kernel
theorem dL_law_711 : decode cL_law 711 = .ok (.aload_n 0, 1) := by decide +kernel
theorem dL_law_712 : decode cL_law 712 = .ok (.iload 4, 2) := by decide +kernel
theorem dL_law_714 : decode cL_law 714 = .ok (.iconst 1, 1) := by decide +kernel
theorem dL_law_715 : decode cL_law 715 = .ok (.iadd, 1) := by decide +kernel
theorem dL_law_716 : decode cL_law 716 = .ok (.iaload, 1) := by decide +kernel
theorem dL_law_717 : decode cL_law 717 = .ok (.invokevirtual 100, 3) := by decide +kernel
theorem dL_law_720 : decode cL_law 720 = .ok (.istore 6, 2) := by decide +kernel
theorem dL_law_722 : decode cL_law 722 = .ok (.aload_n 2, 1) := by decide +kernel
theorem dL_law_723 : decode cL_law 723 = .ok (.invokevirtual 62, 3) := by decide +kernel
theorem dL_law_726 : decode cL_law 726 = .ok (.iload 5, 2) := by decide +kernel
theorem dL_law_728 : decode cL_law 728 = .ok (.if_icmp .eq 5, 3) := by decide +kernel
theorem dL_law_731 : decode cL_law 731 = .ok (.iconst 0, 1) := by decide +kernel
theorem dL_law_732 : decode cL_law 732 = .ok (.ireturn, 1) := by decide +kernel
theorem dL_law_733 : decode cL_law 733 = .ok (.iload 5, 2) := by decide +kernel
theorem dL_law_735 : decode cL_law 735 = .ok (.ifCond .ne 15, 3) := by decide +kernel
theorem dL_law_738 : decode cL_law 738 = .ok (.aload_n 3, 1) := by decide +kernel
theorem dL_law_739 : decode cL_law 739 = .ok (.iconst 0, 1) := by decide +kernel
theorem dL_law_740 : decode cL_law 740 = .ok (.laload, 1) := by decide +kernel
theorem dL_law_741 : decode cL_law 741 = .ok (.iload 6, 2) := by decide +kernel
theorem dL_law_743 : decode cL_law 743 = .ok (.i2l, 1) := by decide +kernel
theorem dL_law_744 : decode cL_law 744 = .ok (.lcmp, 1) := by decide +kernel
theorem dL_law_745 : decode cL_law 745 = .ok (.ifCond .eq 5, 3) := by decide +kernel
theorem dL_law_748 : decode cL_law 748 = .ok (.iconst 0, 1) := by decide +kernel
theorem dL_law_749 : decode cL_law 749 = .ok (.ireturn, 1) := by decide +kernel
theorem dL_law_750 : decode cL_law 750 = .ok (.goto 115, 3) := by decide +kernel
theorem dL_law_753 : decode cL_law 753 = .ok (.aload_n 1, 1) := by decide +kernel
theorem dL_law_754 : decode cL_law 754 = .ok (.aload_n 0, 1) := by decide +kernel
theorem dL_law_755 : decode cL_law 755 = .ok (.iload 4, 2) := by decide +kernel
theorem dL_law_757 : decode cL_law 757 = .ok (.iconst 1, 1) := by decide +kernel
theorem dL_law_758 : decode cL_law 758 = .ok (.iadd, 1) := by decide +kernel
theorem dL_law_759 : decode cL_law 759 = .ok (.iaload, 1) := by decide +kernel
theorem dL_law_760 : decode cL_law 760 = .ok (.aload_n 3, 1) := by decide +kernel
theorem dL_law_761 : decode cL_law 761 = .ok (.invokestatic 101, 3) := by decide +kernel
theorem dL_law_764 : decode cL_law 764 = .ok (.istore 5, 2) := by decide +kernel
theorem dL_law_766 : decode cL_law 766 = .ok (.aload_n 2, 1) := by decide +kernel
theorem dL_law_767 : decode cL_law 767 = .ok (.aload_n 0, 1) := by decide +kernel
theorem dL_law_768 : decode cL_law 768 = .ok (.iload 4, 2) := by decide +kernel
theorem dL_law_770 : decode cL_law 770 = .ok (.iconst 1, 1) := by decide +kernel
theorem dL_law_771 : decode cL_law 771 = .ok (.iadd, 1) := by decide +kernel
theorem dL_law_772 : decode cL_law 772 = .ok (.iaload, 1) := by decide +kernel
theorem dL_law_773 : decode cL_law 773 = .ok (.invokevirtual 103, 3) := by decide +kernel
theorem dL_law_776 : decode cL_law 776 = .ok (.istore 6, 2) := by decide +kernel
theorem dL_law_778 : decode cL_law 778 = .ok (.aload_n 2, 1) := by decide +kernel
theorem dL_law_779 : decode cL_law 779 = .ok (.invokevirtual 62, 3) := by decide +kernel
theorem dL_law_782 : decode cL_law 782 = .ok (.iload 5, 2) := by decide +kernel
theorem dL_law_784 : decode cL_law 784 = .ok (.if_icmp .eq 5, 3) := by decide +kernel
theorem dL_law_787 : decode cL_law 787 = .ok (.iconst 0, 1) := by decide +kernel
theorem dL_law_788 : decode cL_law 788 = .ok (.ireturn, 1) := by decide +kernel
theorem dL_law_789 : decode cL_law 789 = .ok (.iload 5, 2) := by decide +kernel
theorem dL_law_791 : decode cL_law 791 = .ok (.ifCond .ne 15, 3) := by decide +kernel
theorem dL_law_794 : decode cL_law 794 = .ok (.aload_n 3, 1) := by decide +kernel
theorem dL_law_795 : decode cL_law 795 = .ok (.iconst 0, 1) := by decide +kernel
theorem dL_law_796 : decode cL_law 796 = .ok (.laload, 1) := by decide +kernel
theorem dL_law_797 : decode cL_law 797 = .ok (.iload 6, 2) := by decide +kernel
theorem dL_law_799 : decode cL_law 799 = .ok (.i2l, 1) := by decide +kernel
theorem dL_law_800 : decode cL_law 800 = .ok (.lcmp, 1) := by decide +kernel
theorem dL_law_801 : decode cL_law 801 = .ok (.ifCond .eq 5, 3) := by decide +kernel
theorem dL_law_804 : decode cL_law 804 = .ok (.iconst 0, 1) := by decide +kernel
theorem dL_law_805 : decode cL_law 805 = .ok (.ireturn, 1) := by decide +kernel
theorem dL_law_806 : decode cL_law 806 = .ok (.goto 59, 3) := by decide +kernel
theorem dL_law_809 : decode cL_law 809 = .ok (.aload_n 1, 1) := by decide +kernel
theorem dL_law_810 : decode cL_law 810 = .ok (.aload_n 0, 1) := by decide +kernel
theorem dL_law_811 : decode cL_law 811 = .ok (.iload 4, 2) := by decide +kernel
theorem dL_law_813 : decode cL_law 813 = .ok (.iconst 1, 1) := by decide +kernel
theorem dL_law_814 : decode cL_law 814 = .ok (.iadd, 1) := by decide +kernel
theorem dL_law_815 : decode cL_law 815 = .ok (.iaload, 1) := by decide +kernel
theorem dL_law_816 : decode cL_law 816 = .ok (.aload_n 3, 1) := by decide +kernel
theorem dL_law_817 : decode cL_law 817 = .ok (.invokestatic 104, 3) := by decide +kernel
theorem dL_law_820 : decode cL_law 820 = .ok (.istore 5, 2) := by decide +kernel
theorem dL_law_822 : decode cL_law 822 = .ok (.aload_n 2, 1) := by decide +kernel
theorem dL_law_823 : decode cL_law 823 = .ok (.aload_n 0, 1) := by decide +kernel
theorem dL_law_824 : decode cL_law 824 = .ok (.iload 4, 2) := by decide +kernel
theorem dL_law_826 : decode cL_law 826 = .ok (.iconst 1, 1) := by decide +kernel
theorem dL_law_827 : decode cL_law 827 = .ok (.iadd, 1) := by decide +kernel
theorem dL_law_828 : decode cL_law 828 = .ok (.iaload, 1) := by decide +kernel
theorem dL_law_829 : decode cL_law 829 = .ok (.invokevirtual 106, 3) := by decide +kernel
theorem dL_law_832 : decode cL_law 832 = .ok (.istore 6, 2) := by decide +kernel
theorem dL_law_834 : decode cL_law 834 = .ok (.aload_n 2, 1) := by decide +kernel
theorem dL_law_835 : decode cL_law 835 = .ok (.invokevirtual 62, 3) := by decide +kernel
theorem dL_law_838 : decode cL_law 838 = .ok (.iload 5, 2) := by decide +kernel
theorem dL_law_840 : decode cL_law 840 = .ok (.if_icmp .eq 5, 3) := by decide +kernel
theorem dL_law_843 : decode cL_law 843 = .ok (.iconst 0, 1) := by decide +kernel
theorem dL_law_844 : decode cL_law 844 = .ok (.ireturn, 1) := by decide +kernel
theorem dL_law_845 : decode cL_law 845 = .ok (.iload 5, 2) := by decide +kernel
theorem dL_law_847 : decode cL_law 847 = .ok (.ifCond .ne 15, 3) := by decide +kernel
theorem dL_law_850 : decode cL_law 850 = .ok (.aload_n 3, 1) := by decide +kernel
theorem dL_law_851 : decode cL_law 851 = .ok (.iconst 0, 1) := by decide +kernel
theorem dL_law_852 : decode cL_law 852 = .ok (.laload, 1) := by decide +kernel
theorem dL_law_853 : decode cL_law 853 = .ok (.iload 6, 2) := by decide +kernel
theorem dL_law_855 : decode cL_law 855 = .ok (.i2l, 1) := by decide +kernel
theorem dL_law_856 : decode cL_law 856 = .ok (.lcmp, 1) := by decide +kernel
theorem dL_law_857 : decode cL_law 857 = .ok (.ifCond .eq 5, 3) := by decide +kernel
theorem dL_law_860 : decode cL_law 860 = .ok (.iconst 0, 1) := by decide +kernel
theorem dL_law_861 : decode cL_law 861 = .ok (.ireturn, 1) := by decide +kernel
theorem dL_law_862 : decode cL_law 862 = .ok (.goto 3, 3) := by decide +kernel
theorem dL_law_865 : decode cL_law 865 = .ok (.iinc 4 6, 3) := by decide +kernel
theorem dL_law_868 : decode cL_law 868 = .ok (.goto (-845), 3) := by decide +kernel
theorem dL_law_871 : decode cL_law 871 = .ok (.iconst 1, 1) := by decide +kernel
theorem dL_law_872 : decode cL_law 872 = .ok (.ireturn, 1) := by decide +kernel
abbrev vwCl : List vw_C := [(RX0, TX0, 2), (RX1, TX1, 2), (RX2, TX2, 4), (RX3, TX3, 14), (RX4, TX4, 1), (RX5, TX5, 13), (RX6, TX6, 35)]
end
section
/-! THE MEMORY AND THE WORLD. Every number that the class, the reference and the law keep stands in M place index; L is the law's one long. -/
abbrev mk_M : Type := Nat → Nat → Int32
abbrev mk_E : Type := (Nat → Nat) × ClassId × ClassId × ClassId × ClassId
def mk_st (M : mk_M) (x k : Nat) (v : Int32) : mk_M := fun a b => if a = x ∧ b = k then v else M a b
theorem mk_st_same (M : mk_M) (x k : Nat) (v : Int32) : mk_st M x k v x k = v := by simp [mk_st]
theorem mk_st_ne (M : mk_M) (x k : Nat) (v : Int32) {a b : Nat} (h : ¬ (a = x ∧ b = k)) : mk_st M x k v a b = M a b := by simp only [mk_st, if_neg h]
theorem mk_st_off (M : mk_M) (x k : Nat) (v : Int32) {y : Nat} (h : y ≠ x) : mk_st M x k v y = M y := by funext b; simp [mk_st, h]
theorem mk_st_row (M : mk_M) (x k : Nat) (v : Int32) : mk_st M x k v x = upd (M x) k v := by funext b; by_cases h : b = k <;> simp [mk_st, upd, h]
/-- a whole row of the memory anew -/
def mk_sr (M : mk_M) (x : Nat) (f : Nat → Int32) : mk_M := fun a => if a = x then f else M a
theorem mk_sr_off (M : mk_M) (x : Nat) (f : Nat → Int32) {y : Nat} (h : y ≠ x) : mk_sr M x f y = M y := by simp [mk_sr, h]
theorem mk_sr_row (M : mk_M) (x : Nat) (f : Nat → Int32) : mk_sr M x f x = f := by simp [mk_sr]
/-- the kind of a place: 0 to 6 the objects by their classes, 7 an int row, 8 a boolean row, 9 the tasks, 10 the law's long -/
def mk_kd (x : Nat) : Nat := if x < 16 then (match x with | 0 => 5 | 1 => 4 | 2 => 9 | 3 => 1 | 5 => 1 | 7 => 1 | 9 => 2 | 12 => 0 | 14 => 0 | _ => 7) else if x < 68 then (if x % 4 = 0 then 3 else 7) else if x = 68 then 6 else if x = 69 ∨ x = 70 ∨ x = 92 then 8 else if x = 93 then 10 else 7
def mk_ln (x : Nat) : Nat := if x < 13 then 12 else if x = 13 then 256 else if x < 68 then 8 else if x < 83 then 13 else if x < 87 then 104 else if x = 87 then 8 else if x = 88 then 256 else 13
def mk_rep (E : mk_E) (M : mk_M) (L : Nat → Int64) (x : Nat) : va_E := match mk_kd x with
  | 0 => .inr (0, [.ref (E.1 (x+1)), .int (M x 1)])
  | 1 => .inr (1, [.ref (E.1 (x+1)), .int (M x 1)])
  | 2 => .inr (2, [.ref (E.1 (x+1)), .ref (E.1 (x+2)), .int (M x 2), .int (M x 3)])
  | 3 => .inr (3, [.int (M x 0), .int (M x 1), .int (M x 2), .int (M x 3), .int (M x 4), .int (M x 5), .int (M x 6), .int (M x 7), .int (M x 8), .int (M x 9), .int (M x 10), .ref (E.1 (x+1)), .ref (E.1 (x+2)), .ref (E.1 (x+3))])
  | 4 => .inr (4, [.ref (E.1 2)])
  | 5 => .inr (5, [.ref (E.1 1), .ref (E.1 2), .ref (E.1 3), .ref (E.1 5), .ref (E.1 7), .ref (E.1 9), .ref (E.1 12), .ref (E.1 14), .int (M x 8), .int (M x 9), .int (M x 10), .int (M x 11), .int (M x 12)])
  | 6 => .inr (6, [.int (M x 0), .ref (E.1 69), .ref (E.1 70), .ref (E.1 71), .ref (E.1 72), .ref (E.1 73), .ref (E.1 74), .int (M x 7), .ref (E.1 75), .int (M x 9), .ref (E.1 76), .ref (E.1 77), .ref (E.1 78), .ref (E.1 79), .ref (E.1 80), .ref (E.1 81), .ref (E.1 82), .ref (E.1 83), .ref (E.1 84), .ref (E.1 85), .ref (E.1 86), .int (M x 21), .int (M x 22), .int (M x 23), .int (M x 24), .int (M x 25), .int (M x 26), .ref (E.1 87), .ref (E.1 88), .int (M x 29), .ref (E.1 89), .ref (E.1 90), .int (M x 32), .ref (E.1 91), .ref (E.1 92)])
  | 7 => .inl (E.2.1, mk_ln x, .inl (M x))
  | 8 => .inl (E.2.2.1, 13, .inl (M x))
  | 9 => .inl (E.2.2.2.1, 13, .inr (.inr (.inr (.inr (fun i => some (E.1 (16 + 4 * i)))))))
  | _ => .inl (E.2.2.2.2, 1, .inr (.inl L))
theorem mk_rep_0 {E : mk_E} {M : mk_M} {L : Nat → Int64} {x : Nat} (h : mk_kd x = 0) : mk_rep E M L x = .inr (0, [.ref (E.1 (x+1)), .int (M x 1)]) := by simp only [mk_rep, h]
theorem mk_rep_1 {E : mk_E} {M : mk_M} {L : Nat → Int64} {x : Nat} (h : mk_kd x = 1) : mk_rep E M L x = .inr (1, [.ref (E.1 (x+1)), .int (M x 1)]) := by simp only [mk_rep, h]
theorem mk_rep_2 {E : mk_E} {M : mk_M} {L : Nat → Int64} {x : Nat} (h : mk_kd x = 2) : mk_rep E M L x = .inr (2, [.ref (E.1 (x+1)), .ref (E.1 (x+2)), .int (M x 2), .int (M x 3)]) := by simp only [mk_rep, h]
theorem mk_rep_3 {E : mk_E} {M : mk_M} {L : Nat → Int64} {x : Nat} (h : mk_kd x = 3) : mk_rep E M L x = .inr (3, [.int (M x 0), .int (M x 1), .int (M x 2), .int (M x 3), .int (M x 4), .int (M x 5), .int (M x 6), .int (M x 7), .int (M x 8), .int (M x 9), .int (M x 10), .ref (E.1 (x+1)), .ref (E.1 (x+2)), .ref (E.1 (x+3))]) := by simp only [mk_rep, h]
theorem mk_rep_4 {E : mk_E} {M : mk_M} {L : Nat → Int64} {x : Nat} (h : mk_kd x = 4) : mk_rep E M L x = .inr (4, [.ref (E.1 2)]) := by simp only [mk_rep, h]
theorem mk_rep_5 {E : mk_E} {M : mk_M} {L : Nat → Int64} {x : Nat} (h : mk_kd x = 5) : mk_rep E M L x = .inr (5, [.ref (E.1 1), .ref (E.1 2), .ref (E.1 3), .ref (E.1 5), .ref (E.1 7), .ref (E.1 9), .ref (E.1 12), .ref (E.1 14), .int (M x 8), .int (M x 9), .int (M x 10), .int (M x 11), .int (M x 12)]) := by simp only [mk_rep, h]
theorem mk_rep_6 {E : mk_E} {M : mk_M} {L : Nat → Int64} {x : Nat} (h : mk_kd x = 6) : mk_rep E M L x = .inr (6, [.int (M x 0), .ref (E.1 69), .ref (E.1 70), .ref (E.1 71), .ref (E.1 72), .ref (E.1 73), .ref (E.1 74), .int (M x 7), .ref (E.1 75), .int (M x 9), .ref (E.1 76), .ref (E.1 77), .ref (E.1 78), .ref (E.1 79), .ref (E.1 80), .ref (E.1 81), .ref (E.1 82), .ref (E.1 83), .ref (E.1 84), .ref (E.1 85), .ref (E.1 86), .int (M x 21), .int (M x 22), .int (M x 23), .int (M x 24), .int (M x 25), .int (M x 26), .ref (E.1 87), .ref (E.1 88), .int (M x 29), .ref (E.1 89), .ref (E.1 90), .int (M x 32), .ref (E.1 91), .ref (E.1 92)]) := by simp only [mk_rep, h]
theorem mk_rep_7 {E : mk_E} {M : mk_M} {L : Nat → Int64} {x : Nat} (h : mk_kd x = 7) : mk_rep E M L x = .inl (E.2.1, mk_ln x, .inl (M x)) := by simp only [mk_rep, h]
theorem mk_rep_8 {E : mk_E} {M : mk_M} {L : Nat → Int64} {x : Nat} (h : mk_kd x = 8) : mk_rep E M L x = .inl (E.2.2.1, 13, .inl (M x)) := by simp only [mk_rep, h]
theorem mk_rep_9 {E : mk_E} {M : mk_M} {L : Nat → Int64} {x : Nat} (h : mk_kd x = 9) : mk_rep E M L x = .inl (E.2.2.2.1, 13, .inr (.inr (.inr (.inr (fun i => some (E.1 (16 + 4 * i))))))) := by simp only [mk_rep, h]
theorem mk_rep_10 {E : mk_E} {M : mk_M} {L : Nat → Int64} {x : Nat} (h : mk_kd x = 10) : mk_rep E M L x = .inl (E.2.2.2.2, 1, .inr (.inl L)) := by simp only [mk_rep, h]
theorem mk_rep_congr (E : mk_E) {M M2 : mk_M} (L : Nat → Int64) {y : Nat} (h : M y = M2 y) : mk_rep E M L y = mk_rep E M2 L y := by unfold mk_rep; rw [h]
theorem mk_rep_L (E : mk_E) (M : mk_M) (L L2 : Nat → Int64) {y : Nat} (h : y ≠ 93) : mk_rep E M L y = mk_rep E M L2 y := by
  have h10 : mk_kd y ≠ 10 := by
    unfold mk_kd
    split
    · split <;> decide
    · split
      · split <;> decide
      · split
        · decide
        · split
          · decide
          · rw [if_neg h]; decide
  unfold mk_rep
  split <;> first | rfl | (exfalso; rename_i h0 h1 h2 h3 h4 h5 h6 h7 h8 h9; have hb : mk_kd y ≤ 10 := by (unfold mk_kd; split <;> [(split <;> decide); (split <;> [(split <;> decide); (split <;> [decide; (split <;> [decide; (split <;> decide)])])])]); omega)
def mk_wl (E : mk_E) (M : mk_M) (L : Nat → Int64) : va_W := (List.range 94).map (fun x => (E.1 x, mk_rep E M L x))
theorem mk_get (E : mk_E) (M : mk_M) (L : Nat → Int64) {x : Nat} (h : x < 94) : (mk_wl E M L)[x]? = some (E.1 x, mk_rep E M L x) := by simp [mk_wl, h]
theorem mk_set {E : mk_E} {M M2 : mk_M} {L L2 : Nat → Int64} {x : Nat} {e : va_E} (h : x < 94) (he : mk_rep E M2 L2 x = e) (ho : ∀ y, y ≠ x → mk_rep E M2 L2 y = mk_rep E M L y) : (mk_wl E M L).set x (E.1 x, e) = mk_wl E M2 L2 := by
  apply List.ext_getElem?
  intro j
  by_cases hj : j = x
  · subst hj
    rw [List.getElem?_set_self (by simpa [mk_wl] using h), mk_get E M2 L2 h, he]
  · rw [List.getElem?_set_ne (Ne.symm hj)]
    by_cases hl : j < 94
    · rw [mk_get E M L hl, mk_get E M2 L2 hl, ho j hj]
    · rw [List.getElem?_eq_none (by simpa [mk_wl] using hl), List.getElem?_eq_none (by simpa [mk_wl] using hl)]
theorem mk_D {A : Nat → Prop} {E : mk_E} {M M2 : mk_M} {L L2 : Nat → Int64} (h : va_D A (mk_wl E M L)) : va_D A (mk_wl E M2 L2) := by
  have key : ∀ (k : Nat) (q : Nat × va_E), (mk_wl E M2 L2)[k]? = some q → ∃ q0, (mk_wl E M L)[k]? = some q0 ∧ q0.1 = q.1 := by
    intro k q hk
    by_cases hl : k < 94
    · rw [mk_get E M2 L2 hl] at hk
      cases hk
      exact ⟨_, mk_get E M L hl, rfl⟩
    · rw [List.getElem?_eq_none (by simpa [mk_wl] using hl)] at hk
      cases hk
  refine ⟨fun i j x y hi hj hxy => ?_, fun k q hk => ?_⟩
  · obtain ⟨x0, h1, h2⟩ := key i x hi
    obtain ⟨y0, h3, h4⟩ := key j y hj
    exact h.1 i j x0 y0 h1 h3 (by rw [h2, h4]; exact hxy)
  · obtain ⟨q0, h1, h2⟩ := key k q hk
    rw [← h2]; exact h.2 k q0 h1
/-- the links between nest mates, which a method must be told -/
def mk_nest : List Cond := [.fieldLinkNest "MixedKernel$Refusal" 25 "MixedKernel$Task" "period" "I" "MixedKernel", .fieldLinkNest "MixedKernel$TaskSet" 55 "MixedKernel$Task" "period" "I" "MixedKernel", .fieldLinkNest "MixedKernel$Refusal" 30 "MixedKernel$Task" "deadline" "I" "MixedKernel", .fieldLinkNest "MixedKernel$TaskSet" 49 "MixedKernel$Task" "deadline" "I" "MixedKernel", .fieldLinkNest "MixedKernel" 215 "MixedKernel$Task" "deadline" "I" "MixedKernel", .fieldLinkNest "MixedKernel$TaskSet" 24 "MixedKernel$Task" "low" "I" "MixedKernel", .fieldLinkNest "MixedKernel" 247 "MixedKernel$Task" "low" "I" "MixedKernel", .fieldLinkNest "MixedKernel$TaskSet" 36 "MixedKernel$Task" "high" "I" "MixedKernel", .fieldLinkNest "MixedKernel" 100 "MixedKernel$Task" "leaving" "Z" "MixedKernel", .fieldLinkNest "MixedKernel" 170 "MixedKernel$Task" "jobs" "I" "MixedKernel", .fieldLinkNest "MixedKernel" 130 "MixedKernel$Task" "dropped" "I" "MixedKernel", .fieldLinkNest "MixedKernel" 173 "MixedKernel$Task" "ticks" "I" "MixedKernel", .fieldLinkNest "MixedKernel" 120 "MixedKernel$Task" "pending" "I" "MixedKernel", .fieldLinkNest "MixedKernel" 244 "MixedKernel$Task" "charged" "I" "MixedKernel", .fieldLinkNest "MixedKernel" 163 "MixedKernel$Task" "endTimes" "[I" "MixedKernel", .fieldLinkNest "MixedKernel" 16 "MixedKernel$TaskSet" "all" "[LMixedKernel$Task;" "MixedKernel", .fieldLinkNest "MixedKernel$TaskSet" 18 "MixedKernel$Line" "ids" "[I" "MixedKernel", .fieldLinkNest "MixedKernel$Refusal" 22 "MixedKernel$Line" "ids" "[I" "MixedKernel", .fieldLinkNest "MixedKernel" 212 "MixedKernel$Line" "ids" "[I" "MixedKernel", .fieldLinkNest "MixedKernel$TaskSet" 42 "MixedKernel$Line" "size" "I" "MixedKernel", .fieldLinkNest "MixedKernel" 140 "MixedKernel$Line" "size" "I" "MixedKernel", .fieldLinkNest "MixedKernel" 195 "MixedKernel$Latest" "total" "I" "MixedKernel", .methodLinkNest "MixedKernel$TaskSet" 17 ⟨"MixedKernel$Task", "<init>", "()V"⟩ "MixedKernel", .methodLinkNest "MixedKernel" 25 ⟨"MixedKernel$Line", "<init>", "()V"⟩ "MixedKernel", .methodLinkNest "MixedKernel" 38 ⟨"MixedKernel$Refusal", "<init>", "()V"⟩ "MixedKernel", .methodLinkNest "MixedKernel$Task" 60 ⟨"MixedKernel", "slotOf", "(I)I"⟩ "MixedKernel", .methodLinkNest "MixedKernel$TaskSet" 58 ⟨"MixedKernel", "releasesWithin", "(II)I"⟩ "MixedKernel", .methodLinkNest "MixedKernel$Refusal" 45 ⟨"MixedKernel", "releasesWithin", "(II)I"⟩ "MixedKernel"]
def mk_Nst (U : State) : Prop := ∀ w ∈ mk_nest, va_Nw w U
theorem mk_Nst.warm {s U : State} (hW : s.WarmedH U.vm) (h : mk_Nst s) : mk_Nst U := by
  intro w hw
  have h0 := h w hw
  simp only [mk_nest, List.mem_cons, List.not_mem_nil, or_false] at hw
  rcases hw with rfl | rfl | rfl | rfl | rfl | rfl | rfl | rfl | rfl | rfl | rfl | rfl | rfl | rfl | rfl | rfl | rfl | rfl | rfl | rfl | rfl | rfl | rfl | rfl | rfl | rfl | rfl | rfl
  · exact va_Nw.warmF hW h0
  · exact va_Nw.warmF hW h0
  · exact va_Nw.warmF hW h0
  · exact va_Nw.warmF hW h0
  · exact va_Nw.warmF hW h0
  · exact va_Nw.warmF hW h0
  · exact va_Nw.warmF hW h0
  · exact va_Nw.warmF hW h0
  · exact va_Nw.warmF hW h0
  · exact va_Nw.warmF hW h0
  · exact va_Nw.warmF hW h0
  · exact va_Nw.warmF hW h0
  · exact va_Nw.warmF hW h0
  · exact va_Nw.warmF hW h0
  · exact va_Nw.warmF hW h0
  · exact va_Nw.warmF hW h0
  · exact va_Nw.warmF hW h0
  · exact va_Nw.warmF hW h0
  · exact va_Nw.warmF hW h0
  · exact va_Nw.warmF hW h0
  · exact va_Nw.warmF hW h0
  · exact va_Nw.warmF hW h0
  · exact va_Nw.warmM hW h0
  · exact va_Nw.warmM hW h0
  · exact va_Nw.warmM hW h0
  · exact va_Nw.warmM hW h0
  · exact va_Nw.warmM hW h0
  · exact va_Nw.warmM hW h0
theorem mk_Nst.same {u U : State} (h : u.vm = U.vm) (hZ : mk_Nst u) : mk_Nst U := by
  intro w hw
  have h0 := hZ w hw
  refine va_Nw.same ?_ h h0
  simp only [mk_nest, List.mem_cons, List.not_mem_nil, or_false] at hw
  rcases hw with rfl | rfl | rfl | rfl | rfl | rfl | rfl | rfl | rfl | rfl | rfl | rfl | rfl | rfl | rfl | rfl | rfl | rfl | rfl | rfl | rfl | rfl | rfl | rfl | rfl | rfl | rfl | rfl <;> rfl
abbrev mk_tys (E : mk_E) : List (ClassId × FieldType) := [(E.2.1, .int), (E.2.2.1, .boolean), (E.2.2.2.1, .object "MixedKernel$Task"), (E.2.2.2.2, .long)]
/-- the addresses of the world -/
def mk_A (E : mk_E) : Nat → Prop := fun q => ∃ x, x < 94 ∧ E.1 x = q
/-- the world at a state -/
def mk_W (D : va_G) (E : mk_E) (M : mk_M) (L : Nat → Int64) (U : State) : Prop := va_P D vwCl (mk_wl E M L) U.heap ∧ va_K D vwCl (mk_tys E) U ∧ va_D (mk_A E) (mk_wl E M L) ∧ mk_Nst U
theorem mk_W.blind {D : va_G} {E : mk_E} {M : mk_M} {L : Nat → Int64} {as : List Value} : FrameBlind (va_Pc as (mk_W D E M L)) := by
  intro a U g mk h
  exact ⟨h.1, h.2.1, va_K.moved (u := U) (U := U.calling g mk a) (Vm.Alike.refl U.vm) h.2.2.1, h.2.2.2.1, mk_Nst.same (u := U) (U := U.calling g mk a) rfl h.2.2.2.2⟩
theorem mk_W.at {D : va_G} {E : mk_E} {M : mk_M} {L : Nat → Int64} {s U : State} {H : Heap} (hU : U.heap = H) (hW : s.WarmedH U.vm) (hP : va_P D vwCl (mk_wl E M L) H) (hK : va_K D vwCl (mk_tys E) s) (hD : va_D (mk_A E) (mk_wl E M L)) (hN : mk_Nst s) : mk_W D E M L U :=
  ⟨by rw [hU]; exact hP, va_K.moved hW.alike hK, hD, hN.warm hW⟩
section MKR
variable {p : Program} {l : Launch} {e : Env} {R : Room} {s : State} {m : MethodId} {args : Array Value} {below : List Frame} {meth : Method} {c : Code} {H : Heap} {locs : List Loc} {cells slots : Nat} {Q : State → Prop}
variable {cc : ByteArray} {pc : Nat} {ls : Array Slot} {rest : List Value} {D : va_G} {E : mk_E} {M : mk_M} {L : Nat → Int64} {H0 : Heap} {own : String} {index : Nat} {Ts : List Cond} {x : Nat}
abbrev mk_Wj (p : Program) (l : Launch) (e : Env) (R : Room) (s : State) (m : MethodId) (args : Array Value) (below : List Frame) (meth : Method) (c : Code) (H : Heap) (locs : List Loc) (cells slots : Nat) (Q : State → Prop) (g : JFrame) : Prop := W p l e R s m args below meth c H locs cells slots Q g
theorem mk_g0_0 (hx : p.tables.exec = Jvm.exec) (hb : c.code = cc) (hts : ∀ w ∈ Ts, w.before args s = true) (hin : ∀ w ∈ wsX00, w ∈ Ts) (hown : s.vm.findClass own = some m.cls) (hK : va_K D vwCl (mk_tys E) s) (hP : va_P D vwCl (mk_wl E M L) H) (hxx : x < 94) (hk : mk_kd x = 0) (hlink : (Cond.fieldLink own index "MixedKernel$Latest" "kept" "[I").before args s = true) (hdg : decode cc pc = .ok (.getfield index, 3)) (kk : W p l e R s m args below meth c H locs cells slots Q (F0 m (pc + 3) ls (.ref (E.1 (x+1)) :: rest))) : W p l e R s m args below meth c H locs cells slots Q (F0 m pc ls (.ref (E.1 x) :: rest)) :=
  va_get (D := D) (ci := 0) (v := .ref (E.1 (x+1))) (C := RX0) (T := TX0) (N := 2) hx hb hts hin hown hK hP x (by rw [mk_get E M L hxx, mk_rep_0 hk]) rfl 0 (by decide) hlink (fun _ h9 => h9) rfl hdg kk
theorem mk_n0_0 (hx : p.tables.exec = Jvm.exec) (hb : c.code = cc) (hts : ∀ w ∈ Ts, w.before args s = true) (hin : ∀ w ∈ wsX00, w ∈ Ts) (hown : s.vm.findClass own = some m.cls) (hK : va_K D vwCl (mk_tys E) s) (hP : va_P D vwCl (mk_wl E M L) H) (hxx : x < 94) (hk : mk_kd x = 0) {host : String} (hlink : (Cond.fieldLinkNest own index "MixedKernel$Latest" "kept" "[I" host).before args s = true) (hdg : decode cc pc = .ok (.getfield index, 3)) (kk : W p l e R s m args below meth c H locs cells slots Q (F0 m (pc + 3) ls (.ref (E.1 (x+1)) :: rest))) : W p l e R s m args below meth c H locs cells slots Q (F0 m pc ls (.ref (E.1 x) :: rest)) :=
  va_getN (D := D) (ci := 0) (v := .ref (E.1 (x+1))) (C := RX0) (T := TX0) (N := 2) hx hb hts hin hown hK hP x (by rw [mk_get E M L hxx, mk_rep_0 hk]) rfl 0 (by decide) hlink (fun _ h9 => h9) rfl hdg kk
theorem mk_g0_1 (hx : p.tables.exec = Jvm.exec) (hb : c.code = cc) (hts : ∀ w ∈ Ts, w.before args s = true) (hin : ∀ w ∈ wsX00, w ∈ Ts) (hown : s.vm.findClass own = some m.cls) (hK : va_K D vwCl (mk_tys E) s) (hP : va_P D vwCl (mk_wl E M L) H) (hxx : x < 94) (hk : mk_kd x = 0) (hlink : (Cond.fieldLink own index "MixedKernel$Latest" "total" "I").before args s = true) (hdg : decode cc pc = .ok (.getfield index, 3)) (kk : W p l e R s m args below meth c H locs cells slots Q (F0 m (pc + 3) ls (.int (M x 1) :: rest))) : W p l e R s m args below meth c H locs cells slots Q (F0 m pc ls (.ref (E.1 x) :: rest)) :=
  va_get (D := D) (ci := 0) (v := .int (M x 1)) (C := RX0) (T := TX0) (N := 2) hx hb hts hin hown hK hP x (by rw [mk_get E M L hxx, mk_rep_0 hk]) rfl 1 (by decide) hlink (fun _ h9 => h9) rfl hdg kk
theorem mk_n0_1 (hx : p.tables.exec = Jvm.exec) (hb : c.code = cc) (hts : ∀ w ∈ Ts, w.before args s = true) (hin : ∀ w ∈ wsX00, w ∈ Ts) (hown : s.vm.findClass own = some m.cls) (hK : va_K D vwCl (mk_tys E) s) (hP : va_P D vwCl (mk_wl E M L) H) (hxx : x < 94) (hk : mk_kd x = 0) {host : String} (hlink : (Cond.fieldLinkNest own index "MixedKernel$Latest" "total" "I" host).before args s = true) (hdg : decode cc pc = .ok (.getfield index, 3)) (kk : W p l e R s m args below meth c H locs cells slots Q (F0 m (pc + 3) ls (.int (M x 1) :: rest))) : W p l e R s m args below meth c H locs cells slots Q (F0 m pc ls (.ref (E.1 x) :: rest)) :=
  va_getN (D := D) (ci := 0) (v := .int (M x 1)) (C := RX0) (T := TX0) (N := 2) hx hb hts hin hown hK hP x (by rw [mk_get E M L hxx, mk_rep_0 hk]) rfl 1 (by decide) hlink (fun _ h9 => h9) rfl hdg kk
theorem mk_p0_1 {v : Int32} (hx : p.tables.exec = Jvm.exec) (hb : c.code = cc) (hts : ∀ w ∈ Ts, w.before args s = true) (hin : ∀ w ∈ wsX00, w ∈ Ts) (hown : s.vm.findClass own = some m.cls) (hK : va_K D vwCl (mk_tys E) s) (hP : va_P D vwCl (mk_wl E M L) H) (hxx : x < 94) (hk : mk_kd x = 0) (hD : va_D (mk_A E) (mk_wl E M L)) (hS : va_S (mk_A E) H0 H locs) (hlink : (Cond.fieldLink own index "MixedKernel$Latest" "total" "I").before args s = true) (hdg : decode cc pc = .ok (.putfield index, 3)) (kk : ∀ (H1 : Heap) (locs1 : List Loc), va_P D vwCl (mk_wl E (mk_st M x 1 v) L) H1 → va_S (mk_A E) H0 H1 locs1 → W p l e R s m args below meth c H1 locs1 cells slots Q (F0 m (pc + 3) ls rest)) : W p l e R s m args below meth c H locs cells slots Q (F0 m pc ls (.int v :: .ref (E.1 x) :: rest)) := by
  refine va_put (D := D) (ci := 0) (v := .int v) (ty := .int) (C := RX0) (T := TX0) (N := 2) hx hb hts hin tyX0 tyX0_ok nmX0 hown hK hP hD hS x (by rw [mk_get E M L hxx, mk_rep_0 hk]) rfl 1 (by decide) hlink (fun _ h9 => h9) rfl (by decide +kernel) rfl rfl (by decide) hdg (fun H1 locs1 hP1 _ hS1 => kk H1 locs1 ?_ hS1)
  rw [← mk_set (M := M) (M2 := mk_st M x 1 v) (L := L) (L2 := L) (e := .inr (0, [.ref (E.1 (x+1)), .int v])) hxx (by rw [mk_rep_0 hk]; simp [mk_st]) (fun y hy => mk_rep_congr E L (mk_st_off M x 1 v hy))]
  exact hP1
theorem mk_g1_0 (hx : p.tables.exec = Jvm.exec) (hb : c.code = cc) (hts : ∀ w ∈ Ts, w.before args s = true) (hin : ∀ w ∈ wsX10, w ∈ Ts) (hown : s.vm.findClass own = some m.cls) (hK : va_K D vwCl (mk_tys E) s) (hP : va_P D vwCl (mk_wl E M L) H) (hxx : x < 94) (hk : mk_kd x = 1) (hlink : (Cond.fieldLink own index "MixedKernel$Line" "ids" "[I").before args s = true) (hdg : decode cc pc = .ok (.getfield index, 3)) (kk : W p l e R s m args below meth c H locs cells slots Q (F0 m (pc + 3) ls (.ref (E.1 (x+1)) :: rest))) : W p l e R s m args below meth c H locs cells slots Q (F0 m pc ls (.ref (E.1 x) :: rest)) :=
  va_get (D := D) (ci := 1) (v := .ref (E.1 (x+1))) (C := RX1) (T := TX1) (N := 2) hx hb hts hin hown hK hP x (by rw [mk_get E M L hxx, mk_rep_1 hk]) rfl 0 (by decide) hlink (fun _ h9 => h9) rfl hdg kk
theorem mk_n1_0 (hx : p.tables.exec = Jvm.exec) (hb : c.code = cc) (hts : ∀ w ∈ Ts, w.before args s = true) (hin : ∀ w ∈ wsX10, w ∈ Ts) (hown : s.vm.findClass own = some m.cls) (hK : va_K D vwCl (mk_tys E) s) (hP : va_P D vwCl (mk_wl E M L) H) (hxx : x < 94) (hk : mk_kd x = 1) {host : String} (hlink : (Cond.fieldLinkNest own index "MixedKernel$Line" "ids" "[I" host).before args s = true) (hdg : decode cc pc = .ok (.getfield index, 3)) (kk : W p l e R s m args below meth c H locs cells slots Q (F0 m (pc + 3) ls (.ref (E.1 (x+1)) :: rest))) : W p l e R s m args below meth c H locs cells slots Q (F0 m pc ls (.ref (E.1 x) :: rest)) :=
  va_getN (D := D) (ci := 1) (v := .ref (E.1 (x+1))) (C := RX1) (T := TX1) (N := 2) hx hb hts hin hown hK hP x (by rw [mk_get E M L hxx, mk_rep_1 hk]) rfl 0 (by decide) hlink (fun _ h9 => h9) rfl hdg kk
theorem mk_g1_1 (hx : p.tables.exec = Jvm.exec) (hb : c.code = cc) (hts : ∀ w ∈ Ts, w.before args s = true) (hin : ∀ w ∈ wsX10, w ∈ Ts) (hown : s.vm.findClass own = some m.cls) (hK : va_K D vwCl (mk_tys E) s) (hP : va_P D vwCl (mk_wl E M L) H) (hxx : x < 94) (hk : mk_kd x = 1) (hlink : (Cond.fieldLink own index "MixedKernel$Line" "size" "I").before args s = true) (hdg : decode cc pc = .ok (.getfield index, 3)) (kk : W p l e R s m args below meth c H locs cells slots Q (F0 m (pc + 3) ls (.int (M x 1) :: rest))) : W p l e R s m args below meth c H locs cells slots Q (F0 m pc ls (.ref (E.1 x) :: rest)) :=
  va_get (D := D) (ci := 1) (v := .int (M x 1)) (C := RX1) (T := TX1) (N := 2) hx hb hts hin hown hK hP x (by rw [mk_get E M L hxx, mk_rep_1 hk]) rfl 1 (by decide) hlink (fun _ h9 => h9) rfl hdg kk
theorem mk_n1_1 (hx : p.tables.exec = Jvm.exec) (hb : c.code = cc) (hts : ∀ w ∈ Ts, w.before args s = true) (hin : ∀ w ∈ wsX10, w ∈ Ts) (hown : s.vm.findClass own = some m.cls) (hK : va_K D vwCl (mk_tys E) s) (hP : va_P D vwCl (mk_wl E M L) H) (hxx : x < 94) (hk : mk_kd x = 1) {host : String} (hlink : (Cond.fieldLinkNest own index "MixedKernel$Line" "size" "I" host).before args s = true) (hdg : decode cc pc = .ok (.getfield index, 3)) (kk : W p l e R s m args below meth c H locs cells slots Q (F0 m (pc + 3) ls (.int (M x 1) :: rest))) : W p l e R s m args below meth c H locs cells slots Q (F0 m pc ls (.ref (E.1 x) :: rest)) :=
  va_getN (D := D) (ci := 1) (v := .int (M x 1)) (C := RX1) (T := TX1) (N := 2) hx hb hts hin hown hK hP x (by rw [mk_get E M L hxx, mk_rep_1 hk]) rfl 1 (by decide) hlink (fun _ h9 => h9) rfl hdg kk
theorem mk_p1_1 {v : Int32} (hx : p.tables.exec = Jvm.exec) (hb : c.code = cc) (hts : ∀ w ∈ Ts, w.before args s = true) (hin : ∀ w ∈ wsX10, w ∈ Ts) (hown : s.vm.findClass own = some m.cls) (hK : va_K D vwCl (mk_tys E) s) (hP : va_P D vwCl (mk_wl E M L) H) (hxx : x < 94) (hk : mk_kd x = 1) (hD : va_D (mk_A E) (mk_wl E M L)) (hS : va_S (mk_A E) H0 H locs) (hlink : (Cond.fieldLink own index "MixedKernel$Line" "size" "I").before args s = true) (hdg : decode cc pc = .ok (.putfield index, 3)) (kk : ∀ (H1 : Heap) (locs1 : List Loc), va_P D vwCl (mk_wl E (mk_st M x 1 v) L) H1 → va_S (mk_A E) H0 H1 locs1 → W p l e R s m args below meth c H1 locs1 cells slots Q (F0 m (pc + 3) ls rest)) : W p l e R s m args below meth c H locs cells slots Q (F0 m pc ls (.int v :: .ref (E.1 x) :: rest)) := by
  refine va_put (D := D) (ci := 1) (v := .int v) (ty := .int) (C := RX1) (T := TX1) (N := 2) hx hb hts hin tyX1 tyX1_ok nmX1 hown hK hP hD hS x (by rw [mk_get E M L hxx, mk_rep_1 hk]) rfl 1 (by decide) hlink (fun _ h9 => h9) rfl (by decide +kernel) rfl rfl (by decide) hdg (fun H1 locs1 hP1 _ hS1 => kk H1 locs1 ?_ hS1)
  rw [← mk_set (M := M) (M2 := mk_st M x 1 v) (L := L) (L2 := L) (e := .inr (1, [.ref (E.1 (x+1)), .int v])) hxx (by rw [mk_rep_1 hk]; simp [mk_st]) (fun y hy => mk_rep_congr E L (mk_st_off M x 1 v hy))]
  exact hP1
theorem mk_g2_0 (hx : p.tables.exec = Jvm.exec) (hb : c.code = cc) (hts : ∀ w ∈ Ts, w.before args s = true) (hin : ∀ w ∈ wsX20, w ∈ Ts) (hown : s.vm.findClass own = some m.cls) (hK : va_K D vwCl (mk_tys E) s) (hP : va_P D vwCl (mk_wl E M L) H) (hxx : x < 94) (hk : mk_kd x = 2) (hlink : (Cond.fieldLink own index "MixedKernel$Refusal" "ids" "[I").before args s = true) (hdg : decode cc pc = .ok (.getfield index, 3)) (kk : W p l e R s m args below meth c H locs cells slots Q (F0 m (pc + 3) ls (.ref (E.1 (x+1)) :: rest))) : W p l e R s m args below meth c H locs cells slots Q (F0 m pc ls (.ref (E.1 x) :: rest)) :=
  va_get (D := D) (ci := 2) (v := .ref (E.1 (x+1))) (C := RX2) (T := TX2) (N := 4) hx hb hts hin hown hK hP x (by rw [mk_get E M L hxx, mk_rep_2 hk]) rfl 0 (by decide) hlink (fun _ h9 => h9) rfl hdg kk
theorem mk_n2_0 (hx : p.tables.exec = Jvm.exec) (hb : c.code = cc) (hts : ∀ w ∈ Ts, w.before args s = true) (hin : ∀ w ∈ wsX20, w ∈ Ts) (hown : s.vm.findClass own = some m.cls) (hK : va_K D vwCl (mk_tys E) s) (hP : va_P D vwCl (mk_wl E M L) H) (hxx : x < 94) (hk : mk_kd x = 2) {host : String} (hlink : (Cond.fieldLinkNest own index "MixedKernel$Refusal" "ids" "[I" host).before args s = true) (hdg : decode cc pc = .ok (.getfield index, 3)) (kk : W p l e R s m args below meth c H locs cells slots Q (F0 m (pc + 3) ls (.ref (E.1 (x+1)) :: rest))) : W p l e R s m args below meth c H locs cells slots Q (F0 m pc ls (.ref (E.1 x) :: rest)) :=
  va_getN (D := D) (ci := 2) (v := .ref (E.1 (x+1))) (C := RX2) (T := TX2) (N := 4) hx hb hts hin hown hK hP x (by rw [mk_get E M L hxx, mk_rep_2 hk]) rfl 0 (by decide) hlink (fun _ h9 => h9) rfl hdg kk
theorem mk_g2_1 (hx : p.tables.exec = Jvm.exec) (hb : c.code = cc) (hts : ∀ w ∈ Ts, w.before args s = true) (hin : ∀ w ∈ wsX20, w ∈ Ts) (hown : s.vm.findClass own = some m.cls) (hK : va_K D vwCl (mk_tys E) s) (hP : va_P D vwCl (mk_wl E M L) H) (hxx : x < 94) (hk : mk_kd x = 2) (hlink : (Cond.fieldLink own index "MixedKernel$Refusal" "periods" "[I").before args s = true) (hdg : decode cc pc = .ok (.getfield index, 3)) (kk : W p l e R s m args below meth c H locs cells slots Q (F0 m (pc + 3) ls (.ref (E.1 (x+2)) :: rest))) : W p l e R s m args below meth c H locs cells slots Q (F0 m pc ls (.ref (E.1 x) :: rest)) :=
  va_get (D := D) (ci := 2) (v := .ref (E.1 (x+2))) (C := RX2) (T := TX2) (N := 4) hx hb hts hin hown hK hP x (by rw [mk_get E M L hxx, mk_rep_2 hk]) rfl 1 (by decide) hlink (fun _ h9 => h9) rfl hdg kk
theorem mk_n2_1 (hx : p.tables.exec = Jvm.exec) (hb : c.code = cc) (hts : ∀ w ∈ Ts, w.before args s = true) (hin : ∀ w ∈ wsX20, w ∈ Ts) (hown : s.vm.findClass own = some m.cls) (hK : va_K D vwCl (mk_tys E) s) (hP : va_P D vwCl (mk_wl E M L) H) (hxx : x < 94) (hk : mk_kd x = 2) {host : String} (hlink : (Cond.fieldLinkNest own index "MixedKernel$Refusal" "periods" "[I" host).before args s = true) (hdg : decode cc pc = .ok (.getfield index, 3)) (kk : W p l e R s m args below meth c H locs cells slots Q (F0 m (pc + 3) ls (.ref (E.1 (x+2)) :: rest))) : W p l e R s m args below meth c H locs cells slots Q (F0 m pc ls (.ref (E.1 x) :: rest)) :=
  va_getN (D := D) (ci := 2) (v := .ref (E.1 (x+2))) (C := RX2) (T := TX2) (N := 4) hx hb hts hin hown hK hP x (by rw [mk_get E M L hxx, mk_rep_2 hk]) rfl 1 (by decide) hlink (fun _ h9 => h9) rfl hdg kk
theorem mk_g2_2 (hx : p.tables.exec = Jvm.exec) (hb : c.code = cc) (hts : ∀ w ∈ Ts, w.before args s = true) (hin : ∀ w ∈ wsX20, w ∈ Ts) (hown : s.vm.findClass own = some m.cls) (hK : va_K D vwCl (mk_tys E) s) (hP : va_P D vwCl (mk_wl E M L) H) (hxx : x < 94) (hk : mk_kd x = 2) (hlink : (Cond.fieldLink own index "MixedKernel$Refusal" "size" "I").before args s = true) (hdg : decode cc pc = .ok (.getfield index, 3)) (kk : W p l e R s m args below meth c H locs cells slots Q (F0 m (pc + 3) ls (.int (M x 2) :: rest))) : W p l e R s m args below meth c H locs cells slots Q (F0 m pc ls (.ref (E.1 x) :: rest)) :=
  va_get (D := D) (ci := 2) (v := .int (M x 2)) (C := RX2) (T := TX2) (N := 4) hx hb hts hin hown hK hP x (by rw [mk_get E M L hxx, mk_rep_2 hk]) rfl 2 (by decide) hlink (fun _ h9 => h9) rfl hdg kk
theorem mk_n2_2 (hx : p.tables.exec = Jvm.exec) (hb : c.code = cc) (hts : ∀ w ∈ Ts, w.before args s = true) (hin : ∀ w ∈ wsX20, w ∈ Ts) (hown : s.vm.findClass own = some m.cls) (hK : va_K D vwCl (mk_tys E) s) (hP : va_P D vwCl (mk_wl E M L) H) (hxx : x < 94) (hk : mk_kd x = 2) {host : String} (hlink : (Cond.fieldLinkNest own index "MixedKernel$Refusal" "size" "I" host).before args s = true) (hdg : decode cc pc = .ok (.getfield index, 3)) (kk : W p l e R s m args below meth c H locs cells slots Q (F0 m (pc + 3) ls (.int (M x 2) :: rest))) : W p l e R s m args below meth c H locs cells slots Q (F0 m pc ls (.ref (E.1 x) :: rest)) :=
  va_getN (D := D) (ci := 2) (v := .int (M x 2)) (C := RX2) (T := TX2) (N := 4) hx hb hts hin hown hK hP x (by rw [mk_get E M L hxx, mk_rep_2 hk]) rfl 2 (by decide) hlink (fun _ h9 => h9) rfl hdg kk
theorem mk_p2_2 {v : Int32} (hx : p.tables.exec = Jvm.exec) (hb : c.code = cc) (hts : ∀ w ∈ Ts, w.before args s = true) (hin : ∀ w ∈ wsX20, w ∈ Ts) (hown : s.vm.findClass own = some m.cls) (hK : va_K D vwCl (mk_tys E) s) (hP : va_P D vwCl (mk_wl E M L) H) (hxx : x < 94) (hk : mk_kd x = 2) (hD : va_D (mk_A E) (mk_wl E M L)) (hS : va_S (mk_A E) H0 H locs) (hlink : (Cond.fieldLink own index "MixedKernel$Refusal" "size" "I").before args s = true) (hdg : decode cc pc = .ok (.putfield index, 3)) (kk : ∀ (H1 : Heap) (locs1 : List Loc), va_P D vwCl (mk_wl E (mk_st M x 2 v) L) H1 → va_S (mk_A E) H0 H1 locs1 → W p l e R s m args below meth c H1 locs1 cells slots Q (F0 m (pc + 3) ls rest)) : W p l e R s m args below meth c H locs cells slots Q (F0 m pc ls (.int v :: .ref (E.1 x) :: rest)) := by
  refine va_put (D := D) (ci := 2) (v := .int v) (ty := .int) (C := RX2) (T := TX2) (N := 4) hx hb hts hin tyX2 tyX2_ok nmX2 hown hK hP hD hS x (by rw [mk_get E M L hxx, mk_rep_2 hk]) rfl 2 (by decide) hlink (fun _ h9 => h9) rfl (by decide +kernel) rfl rfl (by decide) hdg (fun H1 locs1 hP1 _ hS1 => kk H1 locs1 ?_ hS1)
  rw [← mk_set (M := M) (M2 := mk_st M x 2 v) (L := L) (L2 := L) (e := .inr (2, [.ref (E.1 (x+1)), .ref (E.1 (x+2)), .int v, .int (M x 3)])) hxx (by rw [mk_rep_2 hk]; simp [mk_st]) (fun y hy => mk_rep_congr E L (mk_st_off M x 2 v hy))]
  exact hP1
theorem mk_g2_3 (hx : p.tables.exec = Jvm.exec) (hb : c.code = cc) (hts : ∀ w ∈ Ts, w.before args s = true) (hin : ∀ w ∈ wsX20, w ∈ Ts) (hown : s.vm.findClass own = some m.cls) (hK : va_K D vwCl (mk_tys E) s) (hP : va_P D vwCl (mk_wl E M L) H) (hxx : x < 94) (hk : mk_kd x = 2) (hlink : (Cond.fieldLink own index "MixedKernel$Refusal" "deadline" "I").before args s = true) (hdg : decode cc pc = .ok (.getfield index, 3)) (kk : W p l e R s m args below meth c H locs cells slots Q (F0 m (pc + 3) ls (.int (M x 3) :: rest))) : W p l e R s m args below meth c H locs cells slots Q (F0 m pc ls (.ref (E.1 x) :: rest)) :=
  va_get (D := D) (ci := 2) (v := .int (M x 3)) (C := RX2) (T := TX2) (N := 4) hx hb hts hin hown hK hP x (by rw [mk_get E M L hxx, mk_rep_2 hk]) rfl 3 (by decide) hlink (fun _ h9 => h9) rfl hdg kk
theorem mk_n2_3 (hx : p.tables.exec = Jvm.exec) (hb : c.code = cc) (hts : ∀ w ∈ Ts, w.before args s = true) (hin : ∀ w ∈ wsX20, w ∈ Ts) (hown : s.vm.findClass own = some m.cls) (hK : va_K D vwCl (mk_tys E) s) (hP : va_P D vwCl (mk_wl E M L) H) (hxx : x < 94) (hk : mk_kd x = 2) {host : String} (hlink : (Cond.fieldLinkNest own index "MixedKernel$Refusal" "deadline" "I" host).before args s = true) (hdg : decode cc pc = .ok (.getfield index, 3)) (kk : W p l e R s m args below meth c H locs cells slots Q (F0 m (pc + 3) ls (.int (M x 3) :: rest))) : W p l e R s m args below meth c H locs cells slots Q (F0 m pc ls (.ref (E.1 x) :: rest)) :=
  va_getN (D := D) (ci := 2) (v := .int (M x 3)) (C := RX2) (T := TX2) (N := 4) hx hb hts hin hown hK hP x (by rw [mk_get E M L hxx, mk_rep_2 hk]) rfl 3 (by decide) hlink (fun _ h9 => h9) rfl hdg kk
theorem mk_p2_3 {v : Int32} (hx : p.tables.exec = Jvm.exec) (hb : c.code = cc) (hts : ∀ w ∈ Ts, w.before args s = true) (hin : ∀ w ∈ wsX20, w ∈ Ts) (hown : s.vm.findClass own = some m.cls) (hK : va_K D vwCl (mk_tys E) s) (hP : va_P D vwCl (mk_wl E M L) H) (hxx : x < 94) (hk : mk_kd x = 2) (hD : va_D (mk_A E) (mk_wl E M L)) (hS : va_S (mk_A E) H0 H locs) (hlink : (Cond.fieldLink own index "MixedKernel$Refusal" "deadline" "I").before args s = true) (hdg : decode cc pc = .ok (.putfield index, 3)) (kk : ∀ (H1 : Heap) (locs1 : List Loc), va_P D vwCl (mk_wl E (mk_st M x 3 v) L) H1 → va_S (mk_A E) H0 H1 locs1 → W p l e R s m args below meth c H1 locs1 cells slots Q (F0 m (pc + 3) ls rest)) : W p l e R s m args below meth c H locs cells slots Q (F0 m pc ls (.int v :: .ref (E.1 x) :: rest)) := by
  refine va_put (D := D) (ci := 2) (v := .int v) (ty := .int) (C := RX2) (T := TX2) (N := 4) hx hb hts hin tyX2 tyX2_ok nmX2 hown hK hP hD hS x (by rw [mk_get E M L hxx, mk_rep_2 hk]) rfl 3 (by decide) hlink (fun _ h9 => h9) rfl (by decide +kernel) rfl rfl (by decide) hdg (fun H1 locs1 hP1 _ hS1 => kk H1 locs1 ?_ hS1)
  rw [← mk_set (M := M) (M2 := mk_st M x 3 v) (L := L) (L2 := L) (e := .inr (2, [.ref (E.1 (x+1)), .ref (E.1 (x+2)), .int (M x 2), .int v])) hxx (by rw [mk_rep_2 hk]; simp [mk_st]) (fun y hy => mk_rep_congr E L (mk_st_off M x 3 v hy))]
  exact hP1
theorem mk_g3_0 (hx : p.tables.exec = Jvm.exec) (hb : c.code = cc) (hts : ∀ w ∈ Ts, w.before args s = true) (hin : ∀ w ∈ wsX30, w ∈ Ts) (hown : s.vm.findClass own = some m.cls) (hK : va_K D vwCl (mk_tys E) s) (hP : va_P D vwCl (mk_wl E M L) H) (hxx : x < 94) (hk : mk_kd x = 3) (hlink : (Cond.fieldLink own index "MixedKernel$Task" "period" "I").before args s = true) (hdg : decode cc pc = .ok (.getfield index, 3)) (kk : W p l e R s m args below meth c H locs cells slots Q (F0 m (pc + 3) ls (.int (M x 0) :: rest))) : W p l e R s m args below meth c H locs cells slots Q (F0 m pc ls (.ref (E.1 x) :: rest)) :=
  va_get (D := D) (ci := 3) (v := .int (M x 0)) (C := RX3) (T := TX3) (N := 14) hx hb hts hin hown hK hP x (by rw [mk_get E M L hxx, mk_rep_3 hk]) rfl 0 (by decide) hlink (fun _ h9 => h9) rfl hdg kk
theorem mk_n3_0 (hx : p.tables.exec = Jvm.exec) (hb : c.code = cc) (hts : ∀ w ∈ Ts, w.before args s = true) (hin : ∀ w ∈ wsX30, w ∈ Ts) (hown : s.vm.findClass own = some m.cls) (hK : va_K D vwCl (mk_tys E) s) (hP : va_P D vwCl (mk_wl E M L) H) (hxx : x < 94) (hk : mk_kd x = 3) {host : String} (hlink : (Cond.fieldLinkNest own index "MixedKernel$Task" "period" "I" host).before args s = true) (hdg : decode cc pc = .ok (.getfield index, 3)) (kk : W p l e R s m args below meth c H locs cells slots Q (F0 m (pc + 3) ls (.int (M x 0) :: rest))) : W p l e R s m args below meth c H locs cells slots Q (F0 m pc ls (.ref (E.1 x) :: rest)) :=
  va_getN (D := D) (ci := 3) (v := .int (M x 0)) (C := RX3) (T := TX3) (N := 14) hx hb hts hin hown hK hP x (by rw [mk_get E M L hxx, mk_rep_3 hk]) rfl 0 (by decide) hlink (fun _ h9 => h9) rfl hdg kk
theorem mk_p3_0 {v : Int32} (hx : p.tables.exec = Jvm.exec) (hb : c.code = cc) (hts : ∀ w ∈ Ts, w.before args s = true) (hin : ∀ w ∈ wsX30, w ∈ Ts) (hown : s.vm.findClass own = some m.cls) (hK : va_K D vwCl (mk_tys E) s) (hP : va_P D vwCl (mk_wl E M L) H) (hxx : x < 94) (hk : mk_kd x = 3) (hD : va_D (mk_A E) (mk_wl E M L)) (hS : va_S (mk_A E) H0 H locs) (hlink : (Cond.fieldLink own index "MixedKernel$Task" "period" "I").before args s = true) (hdg : decode cc pc = .ok (.putfield index, 3)) (kk : ∀ (H1 : Heap) (locs1 : List Loc), va_P D vwCl (mk_wl E (mk_st M x 0 v) L) H1 → va_S (mk_A E) H0 H1 locs1 → W p l e R s m args below meth c H1 locs1 cells slots Q (F0 m (pc + 3) ls rest)) : W p l e R s m args below meth c H locs cells slots Q (F0 m pc ls (.int v :: .ref (E.1 x) :: rest)) := by
  refine va_put (D := D) (ci := 3) (v := .int v) (ty := .int) (C := RX3) (T := TX3) (N := 14) hx hb hts hin tyX3 tyX3_ok nmX3 hown hK hP hD hS x (by rw [mk_get E M L hxx, mk_rep_3 hk]) rfl 0 (by decide) hlink (fun _ h9 => h9) rfl (by decide +kernel) rfl rfl (by decide) hdg (fun H1 locs1 hP1 _ hS1 => kk H1 locs1 ?_ hS1)
  rw [← mk_set (M := M) (M2 := mk_st M x 0 v) (L := L) (L2 := L) (e := .inr (3, [.int v, .int (M x 1), .int (M x 2), .int (M x 3), .int (M x 4), .int (M x 5), .int (M x 6), .int (M x 7), .int (M x 8), .int (M x 9), .int (M x 10), .ref (E.1 (x+1)), .ref (E.1 (x+2)), .ref (E.1 (x+3))])) hxx (by rw [mk_rep_3 hk]; simp [mk_st]) (fun y hy => mk_rep_congr E L (mk_st_off M x 0 v hy))]
  exact hP1
theorem mk_q3_0 {v : Int32} (hx : p.tables.exec = Jvm.exec) (hb : c.code = cc) (hts : ∀ w ∈ Ts, w.before args s = true) (hin : ∀ w ∈ wsX30, w ∈ Ts) (hown : s.vm.findClass own = some m.cls) (hK : va_K D vwCl (mk_tys E) s) (hP : va_P D vwCl (mk_wl E M L) H) (hxx : x < 94) (hk : mk_kd x = 3) (hD : va_D (mk_A E) (mk_wl E M L)) (hS : va_S (mk_A E) H0 H locs) {host : String} (hlink : (Cond.fieldLinkNest own index "MixedKernel$Task" "period" "I" host).before args s = true) (hdg : decode cc pc = .ok (.putfield index, 3)) (kk : ∀ (H1 : Heap) (locs1 : List Loc), va_P D vwCl (mk_wl E (mk_st M x 0 v) L) H1 → va_S (mk_A E) H0 H1 locs1 → W p l e R s m args below meth c H1 locs1 cells slots Q (F0 m (pc + 3) ls rest)) : W p l e R s m args below meth c H locs cells slots Q (F0 m pc ls (.int v :: .ref (E.1 x) :: rest)) := by
  refine va_putN (D := D) (ci := 3) (v := .int v) (ty := .int) (C := RX3) (T := TX3) (N := 14) hx hb hts hin tyX3 tyX3_ok nmX3 hown hK hP hD hS x (by rw [mk_get E M L hxx, mk_rep_3 hk]) rfl 0 (by decide) hlink (fun _ h9 => h9) rfl (by decide +kernel) rfl rfl (by decide) hdg (fun H1 locs1 hP1 _ hS1 => kk H1 locs1 ?_ hS1)
  rw [← mk_set (M := M) (M2 := mk_st M x 0 v) (L := L) (L2 := L) (e := .inr (3, [.int v, .int (M x 1), .int (M x 2), .int (M x 3), .int (M x 4), .int (M x 5), .int (M x 6), .int (M x 7), .int (M x 8), .int (M x 9), .int (M x 10), .ref (E.1 (x+1)), .ref (E.1 (x+2)), .ref (E.1 (x+3))])) hxx (by rw [mk_rep_3 hk]; simp [mk_st]) (fun y hy => mk_rep_congr E L (mk_st_off M x 0 v hy))]
  exact hP1
theorem mk_g3_1 (hx : p.tables.exec = Jvm.exec) (hb : c.code = cc) (hts : ∀ w ∈ Ts, w.before args s = true) (hin : ∀ w ∈ wsX30, w ∈ Ts) (hown : s.vm.findClass own = some m.cls) (hK : va_K D vwCl (mk_tys E) s) (hP : va_P D vwCl (mk_wl E M L) H) (hxx : x < 94) (hk : mk_kd x = 3) (hlink : (Cond.fieldLink own index "MixedKernel$Task" "deadline" "I").before args s = true) (hdg : decode cc pc = .ok (.getfield index, 3)) (kk : W p l e R s m args below meth c H locs cells slots Q (F0 m (pc + 3) ls (.int (M x 1) :: rest))) : W p l e R s m args below meth c H locs cells slots Q (F0 m pc ls (.ref (E.1 x) :: rest)) :=
  va_get (D := D) (ci := 3) (v := .int (M x 1)) (C := RX3) (T := TX3) (N := 14) hx hb hts hin hown hK hP x (by rw [mk_get E M L hxx, mk_rep_3 hk]) rfl 1 (by decide) hlink (fun _ h9 => h9) rfl hdg kk
theorem mk_n3_1 (hx : p.tables.exec = Jvm.exec) (hb : c.code = cc) (hts : ∀ w ∈ Ts, w.before args s = true) (hin : ∀ w ∈ wsX30, w ∈ Ts) (hown : s.vm.findClass own = some m.cls) (hK : va_K D vwCl (mk_tys E) s) (hP : va_P D vwCl (mk_wl E M L) H) (hxx : x < 94) (hk : mk_kd x = 3) {host : String} (hlink : (Cond.fieldLinkNest own index "MixedKernel$Task" "deadline" "I" host).before args s = true) (hdg : decode cc pc = .ok (.getfield index, 3)) (kk : W p l e R s m args below meth c H locs cells slots Q (F0 m (pc + 3) ls (.int (M x 1) :: rest))) : W p l e R s m args below meth c H locs cells slots Q (F0 m pc ls (.ref (E.1 x) :: rest)) :=
  va_getN (D := D) (ci := 3) (v := .int (M x 1)) (C := RX3) (T := TX3) (N := 14) hx hb hts hin hown hK hP x (by rw [mk_get E M L hxx, mk_rep_3 hk]) rfl 1 (by decide) hlink (fun _ h9 => h9) rfl hdg kk
theorem mk_p3_1 {v : Int32} (hx : p.tables.exec = Jvm.exec) (hb : c.code = cc) (hts : ∀ w ∈ Ts, w.before args s = true) (hin : ∀ w ∈ wsX30, w ∈ Ts) (hown : s.vm.findClass own = some m.cls) (hK : va_K D vwCl (mk_tys E) s) (hP : va_P D vwCl (mk_wl E M L) H) (hxx : x < 94) (hk : mk_kd x = 3) (hD : va_D (mk_A E) (mk_wl E M L)) (hS : va_S (mk_A E) H0 H locs) (hlink : (Cond.fieldLink own index "MixedKernel$Task" "deadline" "I").before args s = true) (hdg : decode cc pc = .ok (.putfield index, 3)) (kk : ∀ (H1 : Heap) (locs1 : List Loc), va_P D vwCl (mk_wl E (mk_st M x 1 v) L) H1 → va_S (mk_A E) H0 H1 locs1 → W p l e R s m args below meth c H1 locs1 cells slots Q (F0 m (pc + 3) ls rest)) : W p l e R s m args below meth c H locs cells slots Q (F0 m pc ls (.int v :: .ref (E.1 x) :: rest)) := by
  refine va_put (D := D) (ci := 3) (v := .int v) (ty := .int) (C := RX3) (T := TX3) (N := 14) hx hb hts hin tyX3 tyX3_ok nmX3 hown hK hP hD hS x (by rw [mk_get E M L hxx, mk_rep_3 hk]) rfl 1 (by decide) hlink (fun _ h9 => h9) rfl (by decide +kernel) rfl rfl (by decide) hdg (fun H1 locs1 hP1 _ hS1 => kk H1 locs1 ?_ hS1)
  rw [← mk_set (M := M) (M2 := mk_st M x 1 v) (L := L) (L2 := L) (e := .inr (3, [.int (M x 0), .int v, .int (M x 2), .int (M x 3), .int (M x 4), .int (M x 5), .int (M x 6), .int (M x 7), .int (M x 8), .int (M x 9), .int (M x 10), .ref (E.1 (x+1)), .ref (E.1 (x+2)), .ref (E.1 (x+3))])) hxx (by rw [mk_rep_3 hk]; simp [mk_st]) (fun y hy => mk_rep_congr E L (mk_st_off M x 1 v hy))]
  exact hP1
theorem mk_q3_1 {v : Int32} (hx : p.tables.exec = Jvm.exec) (hb : c.code = cc) (hts : ∀ w ∈ Ts, w.before args s = true) (hin : ∀ w ∈ wsX30, w ∈ Ts) (hown : s.vm.findClass own = some m.cls) (hK : va_K D vwCl (mk_tys E) s) (hP : va_P D vwCl (mk_wl E M L) H) (hxx : x < 94) (hk : mk_kd x = 3) (hD : va_D (mk_A E) (mk_wl E M L)) (hS : va_S (mk_A E) H0 H locs) {host : String} (hlink : (Cond.fieldLinkNest own index "MixedKernel$Task" "deadline" "I" host).before args s = true) (hdg : decode cc pc = .ok (.putfield index, 3)) (kk : ∀ (H1 : Heap) (locs1 : List Loc), va_P D vwCl (mk_wl E (mk_st M x 1 v) L) H1 → va_S (mk_A E) H0 H1 locs1 → W p l e R s m args below meth c H1 locs1 cells slots Q (F0 m (pc + 3) ls rest)) : W p l e R s m args below meth c H locs cells slots Q (F0 m pc ls (.int v :: .ref (E.1 x) :: rest)) := by
  refine va_putN (D := D) (ci := 3) (v := .int v) (ty := .int) (C := RX3) (T := TX3) (N := 14) hx hb hts hin tyX3 tyX3_ok nmX3 hown hK hP hD hS x (by rw [mk_get E M L hxx, mk_rep_3 hk]) rfl 1 (by decide) hlink (fun _ h9 => h9) rfl (by decide +kernel) rfl rfl (by decide) hdg (fun H1 locs1 hP1 _ hS1 => kk H1 locs1 ?_ hS1)
  rw [← mk_set (M := M) (M2 := mk_st M x 1 v) (L := L) (L2 := L) (e := .inr (3, [.int (M x 0), .int v, .int (M x 2), .int (M x 3), .int (M x 4), .int (M x 5), .int (M x 6), .int (M x 7), .int (M x 8), .int (M x 9), .int (M x 10), .ref (E.1 (x+1)), .ref (E.1 (x+2)), .ref (E.1 (x+3))])) hxx (by rw [mk_rep_3 hk]; simp [mk_st]) (fun y hy => mk_rep_congr E L (mk_st_off M x 1 v hy))]
  exact hP1
theorem mk_g3_2 (hx : p.tables.exec = Jvm.exec) (hb : c.code = cc) (hts : ∀ w ∈ Ts, w.before args s = true) (hin : ∀ w ∈ wsX30, w ∈ Ts) (hown : s.vm.findClass own = some m.cls) (hK : va_K D vwCl (mk_tys E) s) (hP : va_P D vwCl (mk_wl E M L) H) (hxx : x < 94) (hk : mk_kd x = 3) (hlink : (Cond.fieldLink own index "MixedKernel$Task" "low" "I").before args s = true) (hdg : decode cc pc = .ok (.getfield index, 3)) (kk : W p l e R s m args below meth c H locs cells slots Q (F0 m (pc + 3) ls (.int (M x 2) :: rest))) : W p l e R s m args below meth c H locs cells slots Q (F0 m pc ls (.ref (E.1 x) :: rest)) :=
  va_get (D := D) (ci := 3) (v := .int (M x 2)) (C := RX3) (T := TX3) (N := 14) hx hb hts hin hown hK hP x (by rw [mk_get E M L hxx, mk_rep_3 hk]) rfl 2 (by decide) hlink (fun _ h9 => h9) rfl hdg kk
theorem mk_n3_2 (hx : p.tables.exec = Jvm.exec) (hb : c.code = cc) (hts : ∀ w ∈ Ts, w.before args s = true) (hin : ∀ w ∈ wsX30, w ∈ Ts) (hown : s.vm.findClass own = some m.cls) (hK : va_K D vwCl (mk_tys E) s) (hP : va_P D vwCl (mk_wl E M L) H) (hxx : x < 94) (hk : mk_kd x = 3) {host : String} (hlink : (Cond.fieldLinkNest own index "MixedKernel$Task" "low" "I" host).before args s = true) (hdg : decode cc pc = .ok (.getfield index, 3)) (kk : W p l e R s m args below meth c H locs cells slots Q (F0 m (pc + 3) ls (.int (M x 2) :: rest))) : W p l e R s m args below meth c H locs cells slots Q (F0 m pc ls (.ref (E.1 x) :: rest)) :=
  va_getN (D := D) (ci := 3) (v := .int (M x 2)) (C := RX3) (T := TX3) (N := 14) hx hb hts hin hown hK hP x (by rw [mk_get E M L hxx, mk_rep_3 hk]) rfl 2 (by decide) hlink (fun _ h9 => h9) rfl hdg kk
theorem mk_p3_2 {v : Int32} (hx : p.tables.exec = Jvm.exec) (hb : c.code = cc) (hts : ∀ w ∈ Ts, w.before args s = true) (hin : ∀ w ∈ wsX30, w ∈ Ts) (hown : s.vm.findClass own = some m.cls) (hK : va_K D vwCl (mk_tys E) s) (hP : va_P D vwCl (mk_wl E M L) H) (hxx : x < 94) (hk : mk_kd x = 3) (hD : va_D (mk_A E) (mk_wl E M L)) (hS : va_S (mk_A E) H0 H locs) (hlink : (Cond.fieldLink own index "MixedKernel$Task" "low" "I").before args s = true) (hdg : decode cc pc = .ok (.putfield index, 3)) (kk : ∀ (H1 : Heap) (locs1 : List Loc), va_P D vwCl (mk_wl E (mk_st M x 2 v) L) H1 → va_S (mk_A E) H0 H1 locs1 → W p l e R s m args below meth c H1 locs1 cells slots Q (F0 m (pc + 3) ls rest)) : W p l e R s m args below meth c H locs cells slots Q (F0 m pc ls (.int v :: .ref (E.1 x) :: rest)) := by
  refine va_put (D := D) (ci := 3) (v := .int v) (ty := .int) (C := RX3) (T := TX3) (N := 14) hx hb hts hin tyX3 tyX3_ok nmX3 hown hK hP hD hS x (by rw [mk_get E M L hxx, mk_rep_3 hk]) rfl 2 (by decide) hlink (fun _ h9 => h9) rfl (by decide +kernel) rfl rfl (by decide) hdg (fun H1 locs1 hP1 _ hS1 => kk H1 locs1 ?_ hS1)
  rw [← mk_set (M := M) (M2 := mk_st M x 2 v) (L := L) (L2 := L) (e := .inr (3, [.int (M x 0), .int (M x 1), .int v, .int (M x 3), .int (M x 4), .int (M x 5), .int (M x 6), .int (M x 7), .int (M x 8), .int (M x 9), .int (M x 10), .ref (E.1 (x+1)), .ref (E.1 (x+2)), .ref (E.1 (x+3))])) hxx (by rw [mk_rep_3 hk]; simp [mk_st]) (fun y hy => mk_rep_congr E L (mk_st_off M x 2 v hy))]
  exact hP1
theorem mk_q3_2 {v : Int32} (hx : p.tables.exec = Jvm.exec) (hb : c.code = cc) (hts : ∀ w ∈ Ts, w.before args s = true) (hin : ∀ w ∈ wsX30, w ∈ Ts) (hown : s.vm.findClass own = some m.cls) (hK : va_K D vwCl (mk_tys E) s) (hP : va_P D vwCl (mk_wl E M L) H) (hxx : x < 94) (hk : mk_kd x = 3) (hD : va_D (mk_A E) (mk_wl E M L)) (hS : va_S (mk_A E) H0 H locs) {host : String} (hlink : (Cond.fieldLinkNest own index "MixedKernel$Task" "low" "I" host).before args s = true) (hdg : decode cc pc = .ok (.putfield index, 3)) (kk : ∀ (H1 : Heap) (locs1 : List Loc), va_P D vwCl (mk_wl E (mk_st M x 2 v) L) H1 → va_S (mk_A E) H0 H1 locs1 → W p l e R s m args below meth c H1 locs1 cells slots Q (F0 m (pc + 3) ls rest)) : W p l e R s m args below meth c H locs cells slots Q (F0 m pc ls (.int v :: .ref (E.1 x) :: rest)) := by
  refine va_putN (D := D) (ci := 3) (v := .int v) (ty := .int) (C := RX3) (T := TX3) (N := 14) hx hb hts hin tyX3 tyX3_ok nmX3 hown hK hP hD hS x (by rw [mk_get E M L hxx, mk_rep_3 hk]) rfl 2 (by decide) hlink (fun _ h9 => h9) rfl (by decide +kernel) rfl rfl (by decide) hdg (fun H1 locs1 hP1 _ hS1 => kk H1 locs1 ?_ hS1)
  rw [← mk_set (M := M) (M2 := mk_st M x 2 v) (L := L) (L2 := L) (e := .inr (3, [.int (M x 0), .int (M x 1), .int v, .int (M x 3), .int (M x 4), .int (M x 5), .int (M x 6), .int (M x 7), .int (M x 8), .int (M x 9), .int (M x 10), .ref (E.1 (x+1)), .ref (E.1 (x+2)), .ref (E.1 (x+3))])) hxx (by rw [mk_rep_3 hk]; simp [mk_st]) (fun y hy => mk_rep_congr E L (mk_st_off M x 2 v hy))]
  exact hP1
theorem mk_g3_3 (hx : p.tables.exec = Jvm.exec) (hb : c.code = cc) (hts : ∀ w ∈ Ts, w.before args s = true) (hin : ∀ w ∈ wsX30, w ∈ Ts) (hown : s.vm.findClass own = some m.cls) (hK : va_K D vwCl (mk_tys E) s) (hP : va_P D vwCl (mk_wl E M L) H) (hxx : x < 94) (hk : mk_kd x = 3) (hlink : (Cond.fieldLink own index "MixedKernel$Task" "high" "I").before args s = true) (hdg : decode cc pc = .ok (.getfield index, 3)) (kk : W p l e R s m args below meth c H locs cells slots Q (F0 m (pc + 3) ls (.int (M x 3) :: rest))) : W p l e R s m args below meth c H locs cells slots Q (F0 m pc ls (.ref (E.1 x) :: rest)) :=
  va_get (D := D) (ci := 3) (v := .int (M x 3)) (C := RX3) (T := TX3) (N := 14) hx hb hts hin hown hK hP x (by rw [mk_get E M L hxx, mk_rep_3 hk]) rfl 3 (by decide) hlink (fun _ h9 => h9) rfl hdg kk
theorem mk_n3_3 (hx : p.tables.exec = Jvm.exec) (hb : c.code = cc) (hts : ∀ w ∈ Ts, w.before args s = true) (hin : ∀ w ∈ wsX30, w ∈ Ts) (hown : s.vm.findClass own = some m.cls) (hK : va_K D vwCl (mk_tys E) s) (hP : va_P D vwCl (mk_wl E M L) H) (hxx : x < 94) (hk : mk_kd x = 3) {host : String} (hlink : (Cond.fieldLinkNest own index "MixedKernel$Task" "high" "I" host).before args s = true) (hdg : decode cc pc = .ok (.getfield index, 3)) (kk : W p l e R s m args below meth c H locs cells slots Q (F0 m (pc + 3) ls (.int (M x 3) :: rest))) : W p l e R s m args below meth c H locs cells slots Q (F0 m pc ls (.ref (E.1 x) :: rest)) :=
  va_getN (D := D) (ci := 3) (v := .int (M x 3)) (C := RX3) (T := TX3) (N := 14) hx hb hts hin hown hK hP x (by rw [mk_get E M L hxx, mk_rep_3 hk]) rfl 3 (by decide) hlink (fun _ h9 => h9) rfl hdg kk
theorem mk_p3_3 {v : Int32} (hx : p.tables.exec = Jvm.exec) (hb : c.code = cc) (hts : ∀ w ∈ Ts, w.before args s = true) (hin : ∀ w ∈ wsX30, w ∈ Ts) (hown : s.vm.findClass own = some m.cls) (hK : va_K D vwCl (mk_tys E) s) (hP : va_P D vwCl (mk_wl E M L) H) (hxx : x < 94) (hk : mk_kd x = 3) (hD : va_D (mk_A E) (mk_wl E M L)) (hS : va_S (mk_A E) H0 H locs) (hlink : (Cond.fieldLink own index "MixedKernel$Task" "high" "I").before args s = true) (hdg : decode cc pc = .ok (.putfield index, 3)) (kk : ∀ (H1 : Heap) (locs1 : List Loc), va_P D vwCl (mk_wl E (mk_st M x 3 v) L) H1 → va_S (mk_A E) H0 H1 locs1 → W p l e R s m args below meth c H1 locs1 cells slots Q (F0 m (pc + 3) ls rest)) : W p l e R s m args below meth c H locs cells slots Q (F0 m pc ls (.int v :: .ref (E.1 x) :: rest)) := by
  refine va_put (D := D) (ci := 3) (v := .int v) (ty := .int) (C := RX3) (T := TX3) (N := 14) hx hb hts hin tyX3 tyX3_ok nmX3 hown hK hP hD hS x (by rw [mk_get E M L hxx, mk_rep_3 hk]) rfl 3 (by decide) hlink (fun _ h9 => h9) rfl (by decide +kernel) rfl rfl (by decide) hdg (fun H1 locs1 hP1 _ hS1 => kk H1 locs1 ?_ hS1)
  rw [← mk_set (M := M) (M2 := mk_st M x 3 v) (L := L) (L2 := L) (e := .inr (3, [.int (M x 0), .int (M x 1), .int (M x 2), .int v, .int (M x 4), .int (M x 5), .int (M x 6), .int (M x 7), .int (M x 8), .int (M x 9), .int (M x 10), .ref (E.1 (x+1)), .ref (E.1 (x+2)), .ref (E.1 (x+3))])) hxx (by rw [mk_rep_3 hk]; simp [mk_st]) (fun y hy => mk_rep_congr E L (mk_st_off M x 3 v hy))]
  exact hP1
theorem mk_q3_3 {v : Int32} (hx : p.tables.exec = Jvm.exec) (hb : c.code = cc) (hts : ∀ w ∈ Ts, w.before args s = true) (hin : ∀ w ∈ wsX30, w ∈ Ts) (hown : s.vm.findClass own = some m.cls) (hK : va_K D vwCl (mk_tys E) s) (hP : va_P D vwCl (mk_wl E M L) H) (hxx : x < 94) (hk : mk_kd x = 3) (hD : va_D (mk_A E) (mk_wl E M L)) (hS : va_S (mk_A E) H0 H locs) {host : String} (hlink : (Cond.fieldLinkNest own index "MixedKernel$Task" "high" "I" host).before args s = true) (hdg : decode cc pc = .ok (.putfield index, 3)) (kk : ∀ (H1 : Heap) (locs1 : List Loc), va_P D vwCl (mk_wl E (mk_st M x 3 v) L) H1 → va_S (mk_A E) H0 H1 locs1 → W p l e R s m args below meth c H1 locs1 cells slots Q (F0 m (pc + 3) ls rest)) : W p l e R s m args below meth c H locs cells slots Q (F0 m pc ls (.int v :: .ref (E.1 x) :: rest)) := by
  refine va_putN (D := D) (ci := 3) (v := .int v) (ty := .int) (C := RX3) (T := TX3) (N := 14) hx hb hts hin tyX3 tyX3_ok nmX3 hown hK hP hD hS x (by rw [mk_get E M L hxx, mk_rep_3 hk]) rfl 3 (by decide) hlink (fun _ h9 => h9) rfl (by decide +kernel) rfl rfl (by decide) hdg (fun H1 locs1 hP1 _ hS1 => kk H1 locs1 ?_ hS1)
  rw [← mk_set (M := M) (M2 := mk_st M x 3 v) (L := L) (L2 := L) (e := .inr (3, [.int (M x 0), .int (M x 1), .int (M x 2), .int v, .int (M x 4), .int (M x 5), .int (M x 6), .int (M x 7), .int (M x 8), .int (M x 9), .int (M x 10), .ref (E.1 (x+1)), .ref (E.1 (x+2)), .ref (E.1 (x+3))])) hxx (by rw [mk_rep_3 hk]; simp [mk_st]) (fun y hy => mk_rep_congr E L (mk_st_off M x 3 v hy))]
  exact hP1
theorem mk_g3_4 (hx : p.tables.exec = Jvm.exec) (hb : c.code = cc) (hts : ∀ w ∈ Ts, w.before args s = true) (hin : ∀ w ∈ wsX30, w ∈ Ts) (hown : s.vm.findClass own = some m.cls) (hK : va_K D vwCl (mk_tys E) s) (hP : va_P D vwCl (mk_wl E M L) H) (hxx : x < 94) (hk : mk_kd x = 3) (hlink : (Cond.fieldLink own index "MixedKernel$Task" "leaving" "Z").before args s = true) (hdg : decode cc pc = .ok (.getfield index, 3)) (kk : W p l e R s m args below meth c H locs cells slots Q (F0 m (pc + 3) ls (.int (M x 4) :: rest))) : W p l e R s m args below meth c H locs cells slots Q (F0 m pc ls (.ref (E.1 x) :: rest)) :=
  va_get (D := D) (ci := 3) (v := .int (M x 4)) (C := RX3) (T := TX3) (N := 14) hx hb hts hin hown hK hP x (by rw [mk_get E M L hxx, mk_rep_3 hk]) rfl 4 (by decide) hlink (fun _ h9 => h9) rfl hdg kk
theorem mk_n3_4 (hx : p.tables.exec = Jvm.exec) (hb : c.code = cc) (hts : ∀ w ∈ Ts, w.before args s = true) (hin : ∀ w ∈ wsX30, w ∈ Ts) (hown : s.vm.findClass own = some m.cls) (hK : va_K D vwCl (mk_tys E) s) (hP : va_P D vwCl (mk_wl E M L) H) (hxx : x < 94) (hk : mk_kd x = 3) {host : String} (hlink : (Cond.fieldLinkNest own index "MixedKernel$Task" "leaving" "Z" host).before args s = true) (hdg : decode cc pc = .ok (.getfield index, 3)) (kk : W p l e R s m args below meth c H locs cells slots Q (F0 m (pc + 3) ls (.int (M x 4) :: rest))) : W p l e R s m args below meth c H locs cells slots Q (F0 m pc ls (.ref (E.1 x) :: rest)) :=
  va_getN (D := D) (ci := 3) (v := .int (M x 4)) (C := RX3) (T := TX3) (N := 14) hx hb hts hin hown hK hP x (by rw [mk_get E M L hxx, mk_rep_3 hk]) rfl 4 (by decide) hlink (fun _ h9 => h9) rfl hdg kk
theorem mk_p3_4 {v : Int32} (hx : p.tables.exec = Jvm.exec) (hb : c.code = cc) (hts : ∀ w ∈ Ts, w.before args s = true) (hin : ∀ w ∈ wsX30, w ∈ Ts) (hown : s.vm.findClass own = some m.cls) (hK : va_K D vwCl (mk_tys E) s) (hP : va_P D vwCl (mk_wl E M L) H) (hxx : x < 94) (hk : mk_kd x = 3) (hD : va_D (mk_A E) (mk_wl E M L)) (hS : va_S (mk_A E) H0 H locs) (hv : narrow .boolean (.int v) = .int v) (hf : fits .boolean (.int v) = true) (hlink : (Cond.fieldLink own index "MixedKernel$Task" "leaving" "Z").before args s = true) (hdg : decode cc pc = .ok (.putfield index, 3)) (kk : ∀ (H1 : Heap) (locs1 : List Loc), va_P D vwCl (mk_wl E (mk_st M x 4 v) L) H1 → va_S (mk_A E) H0 H1 locs1 → W p l e R s m args below meth c H1 locs1 cells slots Q (F0 m (pc + 3) ls rest)) : W p l e R s m args below meth c H locs cells slots Q (F0 m pc ls (.int v :: .ref (E.1 x) :: rest)) := by
  refine va_put (D := D) (ci := 3) (v := .int v) (ty := .boolean) (C := RX3) (T := TX3) (N := 14) hx hb hts hin tyX3 tyX3_ok nmX3 hown hK hP hD hS x (by rw [mk_get E M L hxx, mk_rep_3 hk]) rfl 4 (by decide) hlink (fun _ h9 => h9) rfl (by decide +kernel) hv hf (by decide) hdg (fun H1 locs1 hP1 _ hS1 => kk H1 locs1 ?_ hS1)
  rw [← mk_set (M := M) (M2 := mk_st M x 4 v) (L := L) (L2 := L) (e := .inr (3, [.int (M x 0), .int (M x 1), .int (M x 2), .int (M x 3), .int v, .int (M x 5), .int (M x 6), .int (M x 7), .int (M x 8), .int (M x 9), .int (M x 10), .ref (E.1 (x+1)), .ref (E.1 (x+2)), .ref (E.1 (x+3))])) hxx (by rw [mk_rep_3 hk]; simp [mk_st]) (fun y hy => mk_rep_congr E L (mk_st_off M x 4 v hy))]
  exact hP1
theorem mk_q3_4 {v : Int32} (hx : p.tables.exec = Jvm.exec) (hb : c.code = cc) (hts : ∀ w ∈ Ts, w.before args s = true) (hin : ∀ w ∈ wsX30, w ∈ Ts) (hown : s.vm.findClass own = some m.cls) (hK : va_K D vwCl (mk_tys E) s) (hP : va_P D vwCl (mk_wl E M L) H) (hxx : x < 94) (hk : mk_kd x = 3) (hD : va_D (mk_A E) (mk_wl E M L)) (hS : va_S (mk_A E) H0 H locs) (hv : narrow .boolean (.int v) = .int v) (hf : fits .boolean (.int v) = true) {host : String} (hlink : (Cond.fieldLinkNest own index "MixedKernel$Task" "leaving" "Z" host).before args s = true) (hdg : decode cc pc = .ok (.putfield index, 3)) (kk : ∀ (H1 : Heap) (locs1 : List Loc), va_P D vwCl (mk_wl E (mk_st M x 4 v) L) H1 → va_S (mk_A E) H0 H1 locs1 → W p l e R s m args below meth c H1 locs1 cells slots Q (F0 m (pc + 3) ls rest)) : W p l e R s m args below meth c H locs cells slots Q (F0 m pc ls (.int v :: .ref (E.1 x) :: rest)) := by
  refine va_putN (D := D) (ci := 3) (v := .int v) (ty := .boolean) (C := RX3) (T := TX3) (N := 14) hx hb hts hin tyX3 tyX3_ok nmX3 hown hK hP hD hS x (by rw [mk_get E M L hxx, mk_rep_3 hk]) rfl 4 (by decide) hlink (fun _ h9 => h9) rfl (by decide +kernel) hv hf (by decide) hdg (fun H1 locs1 hP1 _ hS1 => kk H1 locs1 ?_ hS1)
  rw [← mk_set (M := M) (M2 := mk_st M x 4 v) (L := L) (L2 := L) (e := .inr (3, [.int (M x 0), .int (M x 1), .int (M x 2), .int (M x 3), .int v, .int (M x 5), .int (M x 6), .int (M x 7), .int (M x 8), .int (M x 9), .int (M x 10), .ref (E.1 (x+1)), .ref (E.1 (x+2)), .ref (E.1 (x+3))])) hxx (by rw [mk_rep_3 hk]; simp [mk_st]) (fun y hy => mk_rep_congr E L (mk_st_off M x 4 v hy))]
  exact hP1
theorem mk_g3_5 (hx : p.tables.exec = Jvm.exec) (hb : c.code = cc) (hts : ∀ w ∈ Ts, w.before args s = true) (hin : ∀ w ∈ wsX30, w ∈ Ts) (hown : s.vm.findClass own = some m.cls) (hK : va_K D vwCl (mk_tys E) s) (hP : va_P D vwCl (mk_wl E M L) H) (hxx : x < 94) (hk : mk_kd x = 3) (hlink : (Cond.fieldLink own index "MixedKernel$Task" "jobs" "I").before args s = true) (hdg : decode cc pc = .ok (.getfield index, 3)) (kk : W p l e R s m args below meth c H locs cells slots Q (F0 m (pc + 3) ls (.int (M x 5) :: rest))) : W p l e R s m args below meth c H locs cells slots Q (F0 m pc ls (.ref (E.1 x) :: rest)) :=
  va_get (D := D) (ci := 3) (v := .int (M x 5)) (C := RX3) (T := TX3) (N := 14) hx hb hts hin hown hK hP x (by rw [mk_get E M L hxx, mk_rep_3 hk]) rfl 5 (by decide) hlink (fun _ h9 => h9) rfl hdg kk
theorem mk_n3_5 (hx : p.tables.exec = Jvm.exec) (hb : c.code = cc) (hts : ∀ w ∈ Ts, w.before args s = true) (hin : ∀ w ∈ wsX30, w ∈ Ts) (hown : s.vm.findClass own = some m.cls) (hK : va_K D vwCl (mk_tys E) s) (hP : va_P D vwCl (mk_wl E M L) H) (hxx : x < 94) (hk : mk_kd x = 3) {host : String} (hlink : (Cond.fieldLinkNest own index "MixedKernel$Task" "jobs" "I" host).before args s = true) (hdg : decode cc pc = .ok (.getfield index, 3)) (kk : W p l e R s m args below meth c H locs cells slots Q (F0 m (pc + 3) ls (.int (M x 5) :: rest))) : W p l e R s m args below meth c H locs cells slots Q (F0 m pc ls (.ref (E.1 x) :: rest)) :=
  va_getN (D := D) (ci := 3) (v := .int (M x 5)) (C := RX3) (T := TX3) (N := 14) hx hb hts hin hown hK hP x (by rw [mk_get E M L hxx, mk_rep_3 hk]) rfl 5 (by decide) hlink (fun _ h9 => h9) rfl hdg kk
theorem mk_p3_5 {v : Int32} (hx : p.tables.exec = Jvm.exec) (hb : c.code = cc) (hts : ∀ w ∈ Ts, w.before args s = true) (hin : ∀ w ∈ wsX30, w ∈ Ts) (hown : s.vm.findClass own = some m.cls) (hK : va_K D vwCl (mk_tys E) s) (hP : va_P D vwCl (mk_wl E M L) H) (hxx : x < 94) (hk : mk_kd x = 3) (hD : va_D (mk_A E) (mk_wl E M L)) (hS : va_S (mk_A E) H0 H locs) (hlink : (Cond.fieldLink own index "MixedKernel$Task" "jobs" "I").before args s = true) (hdg : decode cc pc = .ok (.putfield index, 3)) (kk : ∀ (H1 : Heap) (locs1 : List Loc), va_P D vwCl (mk_wl E (mk_st M x 5 v) L) H1 → va_S (mk_A E) H0 H1 locs1 → W p l e R s m args below meth c H1 locs1 cells slots Q (F0 m (pc + 3) ls rest)) : W p l e R s m args below meth c H locs cells slots Q (F0 m pc ls (.int v :: .ref (E.1 x) :: rest)) := by
  refine va_put (D := D) (ci := 3) (v := .int v) (ty := .int) (C := RX3) (T := TX3) (N := 14) hx hb hts hin tyX3 tyX3_ok nmX3 hown hK hP hD hS x (by rw [mk_get E M L hxx, mk_rep_3 hk]) rfl 5 (by decide) hlink (fun _ h9 => h9) rfl (by decide +kernel) rfl rfl (by decide) hdg (fun H1 locs1 hP1 _ hS1 => kk H1 locs1 ?_ hS1)
  rw [← mk_set (M := M) (M2 := mk_st M x 5 v) (L := L) (L2 := L) (e := .inr (3, [.int (M x 0), .int (M x 1), .int (M x 2), .int (M x 3), .int (M x 4), .int v, .int (M x 6), .int (M x 7), .int (M x 8), .int (M x 9), .int (M x 10), .ref (E.1 (x+1)), .ref (E.1 (x+2)), .ref (E.1 (x+3))])) hxx (by rw [mk_rep_3 hk]; simp [mk_st]) (fun y hy => mk_rep_congr E L (mk_st_off M x 5 v hy))]
  exact hP1
theorem mk_q3_5 {v : Int32} (hx : p.tables.exec = Jvm.exec) (hb : c.code = cc) (hts : ∀ w ∈ Ts, w.before args s = true) (hin : ∀ w ∈ wsX30, w ∈ Ts) (hown : s.vm.findClass own = some m.cls) (hK : va_K D vwCl (mk_tys E) s) (hP : va_P D vwCl (mk_wl E M L) H) (hxx : x < 94) (hk : mk_kd x = 3) (hD : va_D (mk_A E) (mk_wl E M L)) (hS : va_S (mk_A E) H0 H locs) {host : String} (hlink : (Cond.fieldLinkNest own index "MixedKernel$Task" "jobs" "I" host).before args s = true) (hdg : decode cc pc = .ok (.putfield index, 3)) (kk : ∀ (H1 : Heap) (locs1 : List Loc), va_P D vwCl (mk_wl E (mk_st M x 5 v) L) H1 → va_S (mk_A E) H0 H1 locs1 → W p l e R s m args below meth c H1 locs1 cells slots Q (F0 m (pc + 3) ls rest)) : W p l e R s m args below meth c H locs cells slots Q (F0 m pc ls (.int v :: .ref (E.1 x) :: rest)) := by
  refine va_putN (D := D) (ci := 3) (v := .int v) (ty := .int) (C := RX3) (T := TX3) (N := 14) hx hb hts hin tyX3 tyX3_ok nmX3 hown hK hP hD hS x (by rw [mk_get E M L hxx, mk_rep_3 hk]) rfl 5 (by decide) hlink (fun _ h9 => h9) rfl (by decide +kernel) rfl rfl (by decide) hdg (fun H1 locs1 hP1 _ hS1 => kk H1 locs1 ?_ hS1)
  rw [← mk_set (M := M) (M2 := mk_st M x 5 v) (L := L) (L2 := L) (e := .inr (3, [.int (M x 0), .int (M x 1), .int (M x 2), .int (M x 3), .int (M x 4), .int v, .int (M x 6), .int (M x 7), .int (M x 8), .int (M x 9), .int (M x 10), .ref (E.1 (x+1)), .ref (E.1 (x+2)), .ref (E.1 (x+3))])) hxx (by rw [mk_rep_3 hk]; simp [mk_st]) (fun y hy => mk_rep_congr E L (mk_st_off M x 5 v hy))]
  exact hP1
theorem mk_g3_6 (hx : p.tables.exec = Jvm.exec) (hb : c.code = cc) (hts : ∀ w ∈ Ts, w.before args s = true) (hin : ∀ w ∈ wsX30, w ∈ Ts) (hown : s.vm.findClass own = some m.cls) (hK : va_K D vwCl (mk_tys E) s) (hP : va_P D vwCl (mk_wl E M L) H) (hxx : x < 94) (hk : mk_kd x = 3) (hlink : (Cond.fieldLink own index "MixedKernel$Task" "dropped" "I").before args s = true) (hdg : decode cc pc = .ok (.getfield index, 3)) (kk : W p l e R s m args below meth c H locs cells slots Q (F0 m (pc + 3) ls (.int (M x 6) :: rest))) : W p l e R s m args below meth c H locs cells slots Q (F0 m pc ls (.ref (E.1 x) :: rest)) :=
  va_get (D := D) (ci := 3) (v := .int (M x 6)) (C := RX3) (T := TX3) (N := 14) hx hb hts hin hown hK hP x (by rw [mk_get E M L hxx, mk_rep_3 hk]) rfl 6 (by decide) hlink (fun _ h9 => h9) rfl hdg kk
theorem mk_n3_6 (hx : p.tables.exec = Jvm.exec) (hb : c.code = cc) (hts : ∀ w ∈ Ts, w.before args s = true) (hin : ∀ w ∈ wsX30, w ∈ Ts) (hown : s.vm.findClass own = some m.cls) (hK : va_K D vwCl (mk_tys E) s) (hP : va_P D vwCl (mk_wl E M L) H) (hxx : x < 94) (hk : mk_kd x = 3) {host : String} (hlink : (Cond.fieldLinkNest own index "MixedKernel$Task" "dropped" "I" host).before args s = true) (hdg : decode cc pc = .ok (.getfield index, 3)) (kk : W p l e R s m args below meth c H locs cells slots Q (F0 m (pc + 3) ls (.int (M x 6) :: rest))) : W p l e R s m args below meth c H locs cells slots Q (F0 m pc ls (.ref (E.1 x) :: rest)) :=
  va_getN (D := D) (ci := 3) (v := .int (M x 6)) (C := RX3) (T := TX3) (N := 14) hx hb hts hin hown hK hP x (by rw [mk_get E M L hxx, mk_rep_3 hk]) rfl 6 (by decide) hlink (fun _ h9 => h9) rfl hdg kk
theorem mk_p3_6 {v : Int32} (hx : p.tables.exec = Jvm.exec) (hb : c.code = cc) (hts : ∀ w ∈ Ts, w.before args s = true) (hin : ∀ w ∈ wsX30, w ∈ Ts) (hown : s.vm.findClass own = some m.cls) (hK : va_K D vwCl (mk_tys E) s) (hP : va_P D vwCl (mk_wl E M L) H) (hxx : x < 94) (hk : mk_kd x = 3) (hD : va_D (mk_A E) (mk_wl E M L)) (hS : va_S (mk_A E) H0 H locs) (hlink : (Cond.fieldLink own index "MixedKernel$Task" "dropped" "I").before args s = true) (hdg : decode cc pc = .ok (.putfield index, 3)) (kk : ∀ (H1 : Heap) (locs1 : List Loc), va_P D vwCl (mk_wl E (mk_st M x 6 v) L) H1 → va_S (mk_A E) H0 H1 locs1 → W p l e R s m args below meth c H1 locs1 cells slots Q (F0 m (pc + 3) ls rest)) : W p l e R s m args below meth c H locs cells slots Q (F0 m pc ls (.int v :: .ref (E.1 x) :: rest)) := by
  refine va_put (D := D) (ci := 3) (v := .int v) (ty := .int) (C := RX3) (T := TX3) (N := 14) hx hb hts hin tyX3 tyX3_ok nmX3 hown hK hP hD hS x (by rw [mk_get E M L hxx, mk_rep_3 hk]) rfl 6 (by decide) hlink (fun _ h9 => h9) rfl (by decide +kernel) rfl rfl (by decide) hdg (fun H1 locs1 hP1 _ hS1 => kk H1 locs1 ?_ hS1)
  rw [← mk_set (M := M) (M2 := mk_st M x 6 v) (L := L) (L2 := L) (e := .inr (3, [.int (M x 0), .int (M x 1), .int (M x 2), .int (M x 3), .int (M x 4), .int (M x 5), .int v, .int (M x 7), .int (M x 8), .int (M x 9), .int (M x 10), .ref (E.1 (x+1)), .ref (E.1 (x+2)), .ref (E.1 (x+3))])) hxx (by rw [mk_rep_3 hk]; simp [mk_st]) (fun y hy => mk_rep_congr E L (mk_st_off M x 6 v hy))]
  exact hP1
theorem mk_q3_6 {v : Int32} (hx : p.tables.exec = Jvm.exec) (hb : c.code = cc) (hts : ∀ w ∈ Ts, w.before args s = true) (hin : ∀ w ∈ wsX30, w ∈ Ts) (hown : s.vm.findClass own = some m.cls) (hK : va_K D vwCl (mk_tys E) s) (hP : va_P D vwCl (mk_wl E M L) H) (hxx : x < 94) (hk : mk_kd x = 3) (hD : va_D (mk_A E) (mk_wl E M L)) (hS : va_S (mk_A E) H0 H locs) {host : String} (hlink : (Cond.fieldLinkNest own index "MixedKernel$Task" "dropped" "I" host).before args s = true) (hdg : decode cc pc = .ok (.putfield index, 3)) (kk : ∀ (H1 : Heap) (locs1 : List Loc), va_P D vwCl (mk_wl E (mk_st M x 6 v) L) H1 → va_S (mk_A E) H0 H1 locs1 → W p l e R s m args below meth c H1 locs1 cells slots Q (F0 m (pc + 3) ls rest)) : W p l e R s m args below meth c H locs cells slots Q (F0 m pc ls (.int v :: .ref (E.1 x) :: rest)) := by
  refine va_putN (D := D) (ci := 3) (v := .int v) (ty := .int) (C := RX3) (T := TX3) (N := 14) hx hb hts hin tyX3 tyX3_ok nmX3 hown hK hP hD hS x (by rw [mk_get E M L hxx, mk_rep_3 hk]) rfl 6 (by decide) hlink (fun _ h9 => h9) rfl (by decide +kernel) rfl rfl (by decide) hdg (fun H1 locs1 hP1 _ hS1 => kk H1 locs1 ?_ hS1)
  rw [← mk_set (M := M) (M2 := mk_st M x 6 v) (L := L) (L2 := L) (e := .inr (3, [.int (M x 0), .int (M x 1), .int (M x 2), .int (M x 3), .int (M x 4), .int (M x 5), .int v, .int (M x 7), .int (M x 8), .int (M x 9), .int (M x 10), .ref (E.1 (x+1)), .ref (E.1 (x+2)), .ref (E.1 (x+3))])) hxx (by rw [mk_rep_3 hk]; simp [mk_st]) (fun y hy => mk_rep_congr E L (mk_st_off M x 6 v hy))]
  exact hP1
theorem mk_g3_7 (hx : p.tables.exec = Jvm.exec) (hb : c.code = cc) (hts : ∀ w ∈ Ts, w.before args s = true) (hin : ∀ w ∈ wsX30, w ∈ Ts) (hown : s.vm.findClass own = some m.cls) (hK : va_K D vwCl (mk_tys E) s) (hP : va_P D vwCl (mk_wl E M L) H) (hxx : x < 94) (hk : mk_kd x = 3) (hlink : (Cond.fieldLink own index "MixedKernel$Task" "ticks" "I").before args s = true) (hdg : decode cc pc = .ok (.getfield index, 3)) (kk : W p l e R s m args below meth c H locs cells slots Q (F0 m (pc + 3) ls (.int (M x 7) :: rest))) : W p l e R s m args below meth c H locs cells slots Q (F0 m pc ls (.ref (E.1 x) :: rest)) :=
  va_get (D := D) (ci := 3) (v := .int (M x 7)) (C := RX3) (T := TX3) (N := 14) hx hb hts hin hown hK hP x (by rw [mk_get E M L hxx, mk_rep_3 hk]) rfl 7 (by decide) hlink (fun _ h9 => h9) rfl hdg kk
theorem mk_n3_7 (hx : p.tables.exec = Jvm.exec) (hb : c.code = cc) (hts : ∀ w ∈ Ts, w.before args s = true) (hin : ∀ w ∈ wsX30, w ∈ Ts) (hown : s.vm.findClass own = some m.cls) (hK : va_K D vwCl (mk_tys E) s) (hP : va_P D vwCl (mk_wl E M L) H) (hxx : x < 94) (hk : mk_kd x = 3) {host : String} (hlink : (Cond.fieldLinkNest own index "MixedKernel$Task" "ticks" "I" host).before args s = true) (hdg : decode cc pc = .ok (.getfield index, 3)) (kk : W p l e R s m args below meth c H locs cells slots Q (F0 m (pc + 3) ls (.int (M x 7) :: rest))) : W p l e R s m args below meth c H locs cells slots Q (F0 m pc ls (.ref (E.1 x) :: rest)) :=
  va_getN (D := D) (ci := 3) (v := .int (M x 7)) (C := RX3) (T := TX3) (N := 14) hx hb hts hin hown hK hP x (by rw [mk_get E M L hxx, mk_rep_3 hk]) rfl 7 (by decide) hlink (fun _ h9 => h9) rfl hdg kk
theorem mk_p3_7 {v : Int32} (hx : p.tables.exec = Jvm.exec) (hb : c.code = cc) (hts : ∀ w ∈ Ts, w.before args s = true) (hin : ∀ w ∈ wsX30, w ∈ Ts) (hown : s.vm.findClass own = some m.cls) (hK : va_K D vwCl (mk_tys E) s) (hP : va_P D vwCl (mk_wl E M L) H) (hxx : x < 94) (hk : mk_kd x = 3) (hD : va_D (mk_A E) (mk_wl E M L)) (hS : va_S (mk_A E) H0 H locs) (hlink : (Cond.fieldLink own index "MixedKernel$Task" "ticks" "I").before args s = true) (hdg : decode cc pc = .ok (.putfield index, 3)) (kk : ∀ (H1 : Heap) (locs1 : List Loc), va_P D vwCl (mk_wl E (mk_st M x 7 v) L) H1 → va_S (mk_A E) H0 H1 locs1 → W p l e R s m args below meth c H1 locs1 cells slots Q (F0 m (pc + 3) ls rest)) : W p l e R s m args below meth c H locs cells slots Q (F0 m pc ls (.int v :: .ref (E.1 x) :: rest)) := by
  refine va_put (D := D) (ci := 3) (v := .int v) (ty := .int) (C := RX3) (T := TX3) (N := 14) hx hb hts hin tyX3 tyX3_ok nmX3 hown hK hP hD hS x (by rw [mk_get E M L hxx, mk_rep_3 hk]) rfl 7 (by decide) hlink (fun _ h9 => h9) rfl (by decide +kernel) rfl rfl (by decide) hdg (fun H1 locs1 hP1 _ hS1 => kk H1 locs1 ?_ hS1)
  rw [← mk_set (M := M) (M2 := mk_st M x 7 v) (L := L) (L2 := L) (e := .inr (3, [.int (M x 0), .int (M x 1), .int (M x 2), .int (M x 3), .int (M x 4), .int (M x 5), .int (M x 6), .int v, .int (M x 8), .int (M x 9), .int (M x 10), .ref (E.1 (x+1)), .ref (E.1 (x+2)), .ref (E.1 (x+3))])) hxx (by rw [mk_rep_3 hk]; simp [mk_st]) (fun y hy => mk_rep_congr E L (mk_st_off M x 7 v hy))]
  exact hP1
theorem mk_q3_7 {v : Int32} (hx : p.tables.exec = Jvm.exec) (hb : c.code = cc) (hts : ∀ w ∈ Ts, w.before args s = true) (hin : ∀ w ∈ wsX30, w ∈ Ts) (hown : s.vm.findClass own = some m.cls) (hK : va_K D vwCl (mk_tys E) s) (hP : va_P D vwCl (mk_wl E M L) H) (hxx : x < 94) (hk : mk_kd x = 3) (hD : va_D (mk_A E) (mk_wl E M L)) (hS : va_S (mk_A E) H0 H locs) {host : String} (hlink : (Cond.fieldLinkNest own index "MixedKernel$Task" "ticks" "I" host).before args s = true) (hdg : decode cc pc = .ok (.putfield index, 3)) (kk : ∀ (H1 : Heap) (locs1 : List Loc), va_P D vwCl (mk_wl E (mk_st M x 7 v) L) H1 → va_S (mk_A E) H0 H1 locs1 → W p l e R s m args below meth c H1 locs1 cells slots Q (F0 m (pc + 3) ls rest)) : W p l e R s m args below meth c H locs cells slots Q (F0 m pc ls (.int v :: .ref (E.1 x) :: rest)) := by
  refine va_putN (D := D) (ci := 3) (v := .int v) (ty := .int) (C := RX3) (T := TX3) (N := 14) hx hb hts hin tyX3 tyX3_ok nmX3 hown hK hP hD hS x (by rw [mk_get E M L hxx, mk_rep_3 hk]) rfl 7 (by decide) hlink (fun _ h9 => h9) rfl (by decide +kernel) rfl rfl (by decide) hdg (fun H1 locs1 hP1 _ hS1 => kk H1 locs1 ?_ hS1)
  rw [← mk_set (M := M) (M2 := mk_st M x 7 v) (L := L) (L2 := L) (e := .inr (3, [.int (M x 0), .int (M x 1), .int (M x 2), .int (M x 3), .int (M x 4), .int (M x 5), .int (M x 6), .int v, .int (M x 8), .int (M x 9), .int (M x 10), .ref (E.1 (x+1)), .ref (E.1 (x+2)), .ref (E.1 (x+3))])) hxx (by rw [mk_rep_3 hk]; simp [mk_st]) (fun y hy => mk_rep_congr E L (mk_st_off M x 7 v hy))]
  exact hP1
theorem mk_g3_8 (hx : p.tables.exec = Jvm.exec) (hb : c.code = cc) (hts : ∀ w ∈ Ts, w.before args s = true) (hin : ∀ w ∈ wsX30, w ∈ Ts) (hown : s.vm.findClass own = some m.cls) (hK : va_K D vwCl (mk_tys E) s) (hP : va_P D vwCl (mk_wl E M L) H) (hxx : x < 94) (hk : mk_kd x = 3) (hlink : (Cond.fieldLink own index "MixedKernel$Task" "endedLate" "I").before args s = true) (hdg : decode cc pc = .ok (.getfield index, 3)) (kk : W p l e R s m args below meth c H locs cells slots Q (F0 m (pc + 3) ls (.int (M x 8) :: rest))) : W p l e R s m args below meth c H locs cells slots Q (F0 m pc ls (.ref (E.1 x) :: rest)) :=
  va_get (D := D) (ci := 3) (v := .int (M x 8)) (C := RX3) (T := TX3) (N := 14) hx hb hts hin hown hK hP x (by rw [mk_get E M L hxx, mk_rep_3 hk]) rfl 8 (by decide) hlink (fun _ h9 => h9) rfl hdg kk
theorem mk_n3_8 (hx : p.tables.exec = Jvm.exec) (hb : c.code = cc) (hts : ∀ w ∈ Ts, w.before args s = true) (hin : ∀ w ∈ wsX30, w ∈ Ts) (hown : s.vm.findClass own = some m.cls) (hK : va_K D vwCl (mk_tys E) s) (hP : va_P D vwCl (mk_wl E M L) H) (hxx : x < 94) (hk : mk_kd x = 3) {host : String} (hlink : (Cond.fieldLinkNest own index "MixedKernel$Task" "endedLate" "I" host).before args s = true) (hdg : decode cc pc = .ok (.getfield index, 3)) (kk : W p l e R s m args below meth c H locs cells slots Q (F0 m (pc + 3) ls (.int (M x 8) :: rest))) : W p l e R s m args below meth c H locs cells slots Q (F0 m pc ls (.ref (E.1 x) :: rest)) :=
  va_getN (D := D) (ci := 3) (v := .int (M x 8)) (C := RX3) (T := TX3) (N := 14) hx hb hts hin hown hK hP x (by rw [mk_get E M L hxx, mk_rep_3 hk]) rfl 8 (by decide) hlink (fun _ h9 => h9) rfl hdg kk
theorem mk_p3_8 {v : Int32} (hx : p.tables.exec = Jvm.exec) (hb : c.code = cc) (hts : ∀ w ∈ Ts, w.before args s = true) (hin : ∀ w ∈ wsX30, w ∈ Ts) (hown : s.vm.findClass own = some m.cls) (hK : va_K D vwCl (mk_tys E) s) (hP : va_P D vwCl (mk_wl E M L) H) (hxx : x < 94) (hk : mk_kd x = 3) (hD : va_D (mk_A E) (mk_wl E M L)) (hS : va_S (mk_A E) H0 H locs) (hlink : (Cond.fieldLink own index "MixedKernel$Task" "endedLate" "I").before args s = true) (hdg : decode cc pc = .ok (.putfield index, 3)) (kk : ∀ (H1 : Heap) (locs1 : List Loc), va_P D vwCl (mk_wl E (mk_st M x 8 v) L) H1 → va_S (mk_A E) H0 H1 locs1 → W p l e R s m args below meth c H1 locs1 cells slots Q (F0 m (pc + 3) ls rest)) : W p l e R s m args below meth c H locs cells slots Q (F0 m pc ls (.int v :: .ref (E.1 x) :: rest)) := by
  refine va_put (D := D) (ci := 3) (v := .int v) (ty := .int) (C := RX3) (T := TX3) (N := 14) hx hb hts hin tyX3 tyX3_ok nmX3 hown hK hP hD hS x (by rw [mk_get E M L hxx, mk_rep_3 hk]) rfl 8 (by decide) hlink (fun _ h9 => h9) rfl (by decide +kernel) rfl rfl (by decide) hdg (fun H1 locs1 hP1 _ hS1 => kk H1 locs1 ?_ hS1)
  rw [← mk_set (M := M) (M2 := mk_st M x 8 v) (L := L) (L2 := L) (e := .inr (3, [.int (M x 0), .int (M x 1), .int (M x 2), .int (M x 3), .int (M x 4), .int (M x 5), .int (M x 6), .int (M x 7), .int v, .int (M x 9), .int (M x 10), .ref (E.1 (x+1)), .ref (E.1 (x+2)), .ref (E.1 (x+3))])) hxx (by rw [mk_rep_3 hk]; simp [mk_st]) (fun y hy => mk_rep_congr E L (mk_st_off M x 8 v hy))]
  exact hP1
theorem mk_q3_8 {v : Int32} (hx : p.tables.exec = Jvm.exec) (hb : c.code = cc) (hts : ∀ w ∈ Ts, w.before args s = true) (hin : ∀ w ∈ wsX30, w ∈ Ts) (hown : s.vm.findClass own = some m.cls) (hK : va_K D vwCl (mk_tys E) s) (hP : va_P D vwCl (mk_wl E M L) H) (hxx : x < 94) (hk : mk_kd x = 3) (hD : va_D (mk_A E) (mk_wl E M L)) (hS : va_S (mk_A E) H0 H locs) {host : String} (hlink : (Cond.fieldLinkNest own index "MixedKernel$Task" "endedLate" "I" host).before args s = true) (hdg : decode cc pc = .ok (.putfield index, 3)) (kk : ∀ (H1 : Heap) (locs1 : List Loc), va_P D vwCl (mk_wl E (mk_st M x 8 v) L) H1 → va_S (mk_A E) H0 H1 locs1 → W p l e R s m args below meth c H1 locs1 cells slots Q (F0 m (pc + 3) ls rest)) : W p l e R s m args below meth c H locs cells slots Q (F0 m pc ls (.int v :: .ref (E.1 x) :: rest)) := by
  refine va_putN (D := D) (ci := 3) (v := .int v) (ty := .int) (C := RX3) (T := TX3) (N := 14) hx hb hts hin tyX3 tyX3_ok nmX3 hown hK hP hD hS x (by rw [mk_get E M L hxx, mk_rep_3 hk]) rfl 8 (by decide) hlink (fun _ h9 => h9) rfl (by decide +kernel) rfl rfl (by decide) hdg (fun H1 locs1 hP1 _ hS1 => kk H1 locs1 ?_ hS1)
  rw [← mk_set (M := M) (M2 := mk_st M x 8 v) (L := L) (L2 := L) (e := .inr (3, [.int (M x 0), .int (M x 1), .int (M x 2), .int (M x 3), .int (M x 4), .int (M x 5), .int (M x 6), .int (M x 7), .int v, .int (M x 9), .int (M x 10), .ref (E.1 (x+1)), .ref (E.1 (x+2)), .ref (E.1 (x+3))])) hxx (by rw [mk_rep_3 hk]; simp [mk_st]) (fun y hy => mk_rep_congr E L (mk_st_off M x 8 v hy))]
  exact hP1
theorem mk_g3_9 (hx : p.tables.exec = Jvm.exec) (hb : c.code = cc) (hts : ∀ w ∈ Ts, w.before args s = true) (hin : ∀ w ∈ wsX30, w ∈ Ts) (hown : s.vm.findClass own = some m.cls) (hK : va_K D vwCl (mk_tys E) s) (hP : va_P D vwCl (mk_wl E M L) H) (hxx : x < 94) (hk : mk_kd x = 3) (hlink : (Cond.fieldLink own index "MixedKernel$Task" "pending" "I").before args s = true) (hdg : decode cc pc = .ok (.getfield index, 3)) (kk : W p l e R s m args below meth c H locs cells slots Q (F0 m (pc + 3) ls (.int (M x 9) :: rest))) : W p l e R s m args below meth c H locs cells slots Q (F0 m pc ls (.ref (E.1 x) :: rest)) :=
  va_get (D := D) (ci := 3) (v := .int (M x 9)) (C := RX3) (T := TX3) (N := 14) hx hb hts hin hown hK hP x (by rw [mk_get E M L hxx, mk_rep_3 hk]) rfl 9 (by decide) hlink (fun _ h9 => h9) rfl hdg kk
theorem mk_n3_9 (hx : p.tables.exec = Jvm.exec) (hb : c.code = cc) (hts : ∀ w ∈ Ts, w.before args s = true) (hin : ∀ w ∈ wsX30, w ∈ Ts) (hown : s.vm.findClass own = some m.cls) (hK : va_K D vwCl (mk_tys E) s) (hP : va_P D vwCl (mk_wl E M L) H) (hxx : x < 94) (hk : mk_kd x = 3) {host : String} (hlink : (Cond.fieldLinkNest own index "MixedKernel$Task" "pending" "I" host).before args s = true) (hdg : decode cc pc = .ok (.getfield index, 3)) (kk : W p l e R s m args below meth c H locs cells slots Q (F0 m (pc + 3) ls (.int (M x 9) :: rest))) : W p l e R s m args below meth c H locs cells slots Q (F0 m pc ls (.ref (E.1 x) :: rest)) :=
  va_getN (D := D) (ci := 3) (v := .int (M x 9)) (C := RX3) (T := TX3) (N := 14) hx hb hts hin hown hK hP x (by rw [mk_get E M L hxx, mk_rep_3 hk]) rfl 9 (by decide) hlink (fun _ h9 => h9) rfl hdg kk
theorem mk_p3_9 {v : Int32} (hx : p.tables.exec = Jvm.exec) (hb : c.code = cc) (hts : ∀ w ∈ Ts, w.before args s = true) (hin : ∀ w ∈ wsX30, w ∈ Ts) (hown : s.vm.findClass own = some m.cls) (hK : va_K D vwCl (mk_tys E) s) (hP : va_P D vwCl (mk_wl E M L) H) (hxx : x < 94) (hk : mk_kd x = 3) (hD : va_D (mk_A E) (mk_wl E M L)) (hS : va_S (mk_A E) H0 H locs) (hlink : (Cond.fieldLink own index "MixedKernel$Task" "pending" "I").before args s = true) (hdg : decode cc pc = .ok (.putfield index, 3)) (kk : ∀ (H1 : Heap) (locs1 : List Loc), va_P D vwCl (mk_wl E (mk_st M x 9 v) L) H1 → va_S (mk_A E) H0 H1 locs1 → W p l e R s m args below meth c H1 locs1 cells slots Q (F0 m (pc + 3) ls rest)) : W p l e R s m args below meth c H locs cells slots Q (F0 m pc ls (.int v :: .ref (E.1 x) :: rest)) := by
  refine va_put (D := D) (ci := 3) (v := .int v) (ty := .int) (C := RX3) (T := TX3) (N := 14) hx hb hts hin tyX3 tyX3_ok nmX3 hown hK hP hD hS x (by rw [mk_get E M L hxx, mk_rep_3 hk]) rfl 9 (by decide) hlink (fun _ h9 => h9) rfl (by decide +kernel) rfl rfl (by decide) hdg (fun H1 locs1 hP1 _ hS1 => kk H1 locs1 ?_ hS1)
  rw [← mk_set (M := M) (M2 := mk_st M x 9 v) (L := L) (L2 := L) (e := .inr (3, [.int (M x 0), .int (M x 1), .int (M x 2), .int (M x 3), .int (M x 4), .int (M x 5), .int (M x 6), .int (M x 7), .int (M x 8), .int v, .int (M x 10), .ref (E.1 (x+1)), .ref (E.1 (x+2)), .ref (E.1 (x+3))])) hxx (by rw [mk_rep_3 hk]; simp [mk_st]) (fun y hy => mk_rep_congr E L (mk_st_off M x 9 v hy))]
  exact hP1
theorem mk_q3_9 {v : Int32} (hx : p.tables.exec = Jvm.exec) (hb : c.code = cc) (hts : ∀ w ∈ Ts, w.before args s = true) (hin : ∀ w ∈ wsX30, w ∈ Ts) (hown : s.vm.findClass own = some m.cls) (hK : va_K D vwCl (mk_tys E) s) (hP : va_P D vwCl (mk_wl E M L) H) (hxx : x < 94) (hk : mk_kd x = 3) (hD : va_D (mk_A E) (mk_wl E M L)) (hS : va_S (mk_A E) H0 H locs) {host : String} (hlink : (Cond.fieldLinkNest own index "MixedKernel$Task" "pending" "I" host).before args s = true) (hdg : decode cc pc = .ok (.putfield index, 3)) (kk : ∀ (H1 : Heap) (locs1 : List Loc), va_P D vwCl (mk_wl E (mk_st M x 9 v) L) H1 → va_S (mk_A E) H0 H1 locs1 → W p l e R s m args below meth c H1 locs1 cells slots Q (F0 m (pc + 3) ls rest)) : W p l e R s m args below meth c H locs cells slots Q (F0 m pc ls (.int v :: .ref (E.1 x) :: rest)) := by
  refine va_putN (D := D) (ci := 3) (v := .int v) (ty := .int) (C := RX3) (T := TX3) (N := 14) hx hb hts hin tyX3 tyX3_ok nmX3 hown hK hP hD hS x (by rw [mk_get E M L hxx, mk_rep_3 hk]) rfl 9 (by decide) hlink (fun _ h9 => h9) rfl (by decide +kernel) rfl rfl (by decide) hdg (fun H1 locs1 hP1 _ hS1 => kk H1 locs1 ?_ hS1)
  rw [← mk_set (M := M) (M2 := mk_st M x 9 v) (L := L) (L2 := L) (e := .inr (3, [.int (M x 0), .int (M x 1), .int (M x 2), .int (M x 3), .int (M x 4), .int (M x 5), .int (M x 6), .int (M x 7), .int (M x 8), .int v, .int (M x 10), .ref (E.1 (x+1)), .ref (E.1 (x+2)), .ref (E.1 (x+3))])) hxx (by rw [mk_rep_3 hk]; simp [mk_st]) (fun y hy => mk_rep_congr E L (mk_st_off M x 9 v hy))]
  exact hP1
theorem mk_g3_10 (hx : p.tables.exec = Jvm.exec) (hb : c.code = cc) (hts : ∀ w ∈ Ts, w.before args s = true) (hin : ∀ w ∈ wsX30, w ∈ Ts) (hown : s.vm.findClass own = some m.cls) (hK : va_K D vwCl (mk_tys E) s) (hP : va_P D vwCl (mk_wl E M L) H) (hxx : x < 94) (hk : mk_kd x = 3) (hlink : (Cond.fieldLink own index "MixedKernel$Task" "charged" "I").before args s = true) (hdg : decode cc pc = .ok (.getfield index, 3)) (kk : W p l e R s m args below meth c H locs cells slots Q (F0 m (pc + 3) ls (.int (M x 10) :: rest))) : W p l e R s m args below meth c H locs cells slots Q (F0 m pc ls (.ref (E.1 x) :: rest)) :=
  va_get (D := D) (ci := 3) (v := .int (M x 10)) (C := RX3) (T := TX3) (N := 14) hx hb hts hin hown hK hP x (by rw [mk_get E M L hxx, mk_rep_3 hk]) rfl 10 (by decide) hlink (fun _ h9 => h9) rfl hdg kk
theorem mk_n3_10 (hx : p.tables.exec = Jvm.exec) (hb : c.code = cc) (hts : ∀ w ∈ Ts, w.before args s = true) (hin : ∀ w ∈ wsX30, w ∈ Ts) (hown : s.vm.findClass own = some m.cls) (hK : va_K D vwCl (mk_tys E) s) (hP : va_P D vwCl (mk_wl E M L) H) (hxx : x < 94) (hk : mk_kd x = 3) {host : String} (hlink : (Cond.fieldLinkNest own index "MixedKernel$Task" "charged" "I" host).before args s = true) (hdg : decode cc pc = .ok (.getfield index, 3)) (kk : W p l e R s m args below meth c H locs cells slots Q (F0 m (pc + 3) ls (.int (M x 10) :: rest))) : W p l e R s m args below meth c H locs cells slots Q (F0 m pc ls (.ref (E.1 x) :: rest)) :=
  va_getN (D := D) (ci := 3) (v := .int (M x 10)) (C := RX3) (T := TX3) (N := 14) hx hb hts hin hown hK hP x (by rw [mk_get E M L hxx, mk_rep_3 hk]) rfl 10 (by decide) hlink (fun _ h9 => h9) rfl hdg kk
theorem mk_p3_10 {v : Int32} (hx : p.tables.exec = Jvm.exec) (hb : c.code = cc) (hts : ∀ w ∈ Ts, w.before args s = true) (hin : ∀ w ∈ wsX30, w ∈ Ts) (hown : s.vm.findClass own = some m.cls) (hK : va_K D vwCl (mk_tys E) s) (hP : va_P D vwCl (mk_wl E M L) H) (hxx : x < 94) (hk : mk_kd x = 3) (hD : va_D (mk_A E) (mk_wl E M L)) (hS : va_S (mk_A E) H0 H locs) (hlink : (Cond.fieldLink own index "MixedKernel$Task" "charged" "I").before args s = true) (hdg : decode cc pc = .ok (.putfield index, 3)) (kk : ∀ (H1 : Heap) (locs1 : List Loc), va_P D vwCl (mk_wl E (mk_st M x 10 v) L) H1 → va_S (mk_A E) H0 H1 locs1 → W p l e R s m args below meth c H1 locs1 cells slots Q (F0 m (pc + 3) ls rest)) : W p l e R s m args below meth c H locs cells slots Q (F0 m pc ls (.int v :: .ref (E.1 x) :: rest)) := by
  refine va_put (D := D) (ci := 3) (v := .int v) (ty := .int) (C := RX3) (T := TX3) (N := 14) hx hb hts hin tyX3 tyX3_ok nmX3 hown hK hP hD hS x (by rw [mk_get E M L hxx, mk_rep_3 hk]) rfl 10 (by decide) hlink (fun _ h9 => h9) rfl (by decide +kernel) rfl rfl (by decide) hdg (fun H1 locs1 hP1 _ hS1 => kk H1 locs1 ?_ hS1)
  rw [← mk_set (M := M) (M2 := mk_st M x 10 v) (L := L) (L2 := L) (e := .inr (3, [.int (M x 0), .int (M x 1), .int (M x 2), .int (M x 3), .int (M x 4), .int (M x 5), .int (M x 6), .int (M x 7), .int (M x 8), .int (M x 9), .int v, .ref (E.1 (x+1)), .ref (E.1 (x+2)), .ref (E.1 (x+3))])) hxx (by rw [mk_rep_3 hk]; simp [mk_st]) (fun y hy => mk_rep_congr E L (mk_st_off M x 10 v hy))]
  exact hP1
theorem mk_q3_10 {v : Int32} (hx : p.tables.exec = Jvm.exec) (hb : c.code = cc) (hts : ∀ w ∈ Ts, w.before args s = true) (hin : ∀ w ∈ wsX30, w ∈ Ts) (hown : s.vm.findClass own = some m.cls) (hK : va_K D vwCl (mk_tys E) s) (hP : va_P D vwCl (mk_wl E M L) H) (hxx : x < 94) (hk : mk_kd x = 3) (hD : va_D (mk_A E) (mk_wl E M L)) (hS : va_S (mk_A E) H0 H locs) {host : String} (hlink : (Cond.fieldLinkNest own index "MixedKernel$Task" "charged" "I" host).before args s = true) (hdg : decode cc pc = .ok (.putfield index, 3)) (kk : ∀ (H1 : Heap) (locs1 : List Loc), va_P D vwCl (mk_wl E (mk_st M x 10 v) L) H1 → va_S (mk_A E) H0 H1 locs1 → W p l e R s m args below meth c H1 locs1 cells slots Q (F0 m (pc + 3) ls rest)) : W p l e R s m args below meth c H locs cells slots Q (F0 m pc ls (.int v :: .ref (E.1 x) :: rest)) := by
  refine va_putN (D := D) (ci := 3) (v := .int v) (ty := .int) (C := RX3) (T := TX3) (N := 14) hx hb hts hin tyX3 tyX3_ok nmX3 hown hK hP hD hS x (by rw [mk_get E M L hxx, mk_rep_3 hk]) rfl 10 (by decide) hlink (fun _ h9 => h9) rfl (by decide +kernel) rfl rfl (by decide) hdg (fun H1 locs1 hP1 _ hS1 => kk H1 locs1 ?_ hS1)
  rw [← mk_set (M := M) (M2 := mk_st M x 10 v) (L := L) (L2 := L) (e := .inr (3, [.int (M x 0), .int (M x 1), .int (M x 2), .int (M x 3), .int (M x 4), .int (M x 5), .int (M x 6), .int (M x 7), .int (M x 8), .int (M x 9), .int v, .ref (E.1 (x+1)), .ref (E.1 (x+2)), .ref (E.1 (x+3))])) hxx (by rw [mk_rep_3 hk]; simp [mk_st]) (fun y hy => mk_rep_congr E L (mk_st_off M x 10 v hy))]
  exact hP1
theorem mk_g3_11 (hx : p.tables.exec = Jvm.exec) (hb : c.code = cc) (hts : ∀ w ∈ Ts, w.before args s = true) (hin : ∀ w ∈ wsX30, w ∈ Ts) (hown : s.vm.findClass own = some m.cls) (hK : va_K D vwCl (mk_tys E) s) (hP : va_P D vwCl (mk_wl E M L) H) (hxx : x < 94) (hk : mk_kd x = 3) (hlink : (Cond.fieldLink own index "MixedKernel$Task" "demands" "[I").before args s = true) (hdg : decode cc pc = .ok (.getfield index, 3)) (kk : W p l e R s m args below meth c H locs cells slots Q (F0 m (pc + 3) ls (.ref (E.1 (x+1)) :: rest))) : W p l e R s m args below meth c H locs cells slots Q (F0 m pc ls (.ref (E.1 x) :: rest)) :=
  va_get (D := D) (ci := 3) (v := .ref (E.1 (x+1))) (C := RX3) (T := TX3) (N := 14) hx hb hts hin hown hK hP x (by rw [mk_get E M L hxx, mk_rep_3 hk]) rfl 11 (by decide) hlink (fun _ h9 => h9) rfl hdg kk
theorem mk_n3_11 (hx : p.tables.exec = Jvm.exec) (hb : c.code = cc) (hts : ∀ w ∈ Ts, w.before args s = true) (hin : ∀ w ∈ wsX30, w ∈ Ts) (hown : s.vm.findClass own = some m.cls) (hK : va_K D vwCl (mk_tys E) s) (hP : va_P D vwCl (mk_wl E M L) H) (hxx : x < 94) (hk : mk_kd x = 3) {host : String} (hlink : (Cond.fieldLinkNest own index "MixedKernel$Task" "demands" "[I" host).before args s = true) (hdg : decode cc pc = .ok (.getfield index, 3)) (kk : W p l e R s m args below meth c H locs cells slots Q (F0 m (pc + 3) ls (.ref (E.1 (x+1)) :: rest))) : W p l e R s m args below meth c H locs cells slots Q (F0 m pc ls (.ref (E.1 x) :: rest)) :=
  va_getN (D := D) (ci := 3) (v := .ref (E.1 (x+1))) (C := RX3) (T := TX3) (N := 14) hx hb hts hin hown hK hP x (by rw [mk_get E M L hxx, mk_rep_3 hk]) rfl 11 (by decide) hlink (fun _ h9 => h9) rfl hdg kk
theorem mk_g3_12 (hx : p.tables.exec = Jvm.exec) (hb : c.code = cc) (hts : ∀ w ∈ Ts, w.before args s = true) (hin : ∀ w ∈ wsX30, w ∈ Ts) (hown : s.vm.findClass own = some m.cls) (hK : va_K D vwCl (mk_tys E) s) (hP : va_P D vwCl (mk_wl E M L) H) (hxx : x < 94) (hk : mk_kd x = 3) (hlink : (Cond.fieldLink own index "MixedKernel$Task" "releaseTimes" "[I").before args s = true) (hdg : decode cc pc = .ok (.getfield index, 3)) (kk : W p l e R s m args below meth c H locs cells slots Q (F0 m (pc + 3) ls (.ref (E.1 (x+2)) :: rest))) : W p l e R s m args below meth c H locs cells slots Q (F0 m pc ls (.ref (E.1 x) :: rest)) :=
  va_get (D := D) (ci := 3) (v := .ref (E.1 (x+2))) (C := RX3) (T := TX3) (N := 14) hx hb hts hin hown hK hP x (by rw [mk_get E M L hxx, mk_rep_3 hk]) rfl 12 (by decide) hlink (fun _ h9 => h9) rfl hdg kk
theorem mk_n3_12 (hx : p.tables.exec = Jvm.exec) (hb : c.code = cc) (hts : ∀ w ∈ Ts, w.before args s = true) (hin : ∀ w ∈ wsX30, w ∈ Ts) (hown : s.vm.findClass own = some m.cls) (hK : va_K D vwCl (mk_tys E) s) (hP : va_P D vwCl (mk_wl E M L) H) (hxx : x < 94) (hk : mk_kd x = 3) {host : String} (hlink : (Cond.fieldLinkNest own index "MixedKernel$Task" "releaseTimes" "[I" host).before args s = true) (hdg : decode cc pc = .ok (.getfield index, 3)) (kk : W p l e R s m args below meth c H locs cells slots Q (F0 m (pc + 3) ls (.ref (E.1 (x+2)) :: rest))) : W p l e R s m args below meth c H locs cells slots Q (F0 m pc ls (.ref (E.1 x) :: rest)) :=
  va_getN (D := D) (ci := 3) (v := .ref (E.1 (x+2))) (C := RX3) (T := TX3) (N := 14) hx hb hts hin hown hK hP x (by rw [mk_get E M L hxx, mk_rep_3 hk]) rfl 12 (by decide) hlink (fun _ h9 => h9) rfl hdg kk
theorem mk_g3_13 (hx : p.tables.exec = Jvm.exec) (hb : c.code = cc) (hts : ∀ w ∈ Ts, w.before args s = true) (hin : ∀ w ∈ wsX30, w ∈ Ts) (hown : s.vm.findClass own = some m.cls) (hK : va_K D vwCl (mk_tys E) s) (hP : va_P D vwCl (mk_wl E M L) H) (hxx : x < 94) (hk : mk_kd x = 3) (hlink : (Cond.fieldLink own index "MixedKernel$Task" "endTimes" "[I").before args s = true) (hdg : decode cc pc = .ok (.getfield index, 3)) (kk : W p l e R s m args below meth c H locs cells slots Q (F0 m (pc + 3) ls (.ref (E.1 (x+3)) :: rest))) : W p l e R s m args below meth c H locs cells slots Q (F0 m pc ls (.ref (E.1 x) :: rest)) :=
  va_get (D := D) (ci := 3) (v := .ref (E.1 (x+3))) (C := RX3) (T := TX3) (N := 14) hx hb hts hin hown hK hP x (by rw [mk_get E M L hxx, mk_rep_3 hk]) rfl 13 (by decide) hlink (fun _ h9 => h9) rfl hdg kk
theorem mk_n3_13 (hx : p.tables.exec = Jvm.exec) (hb : c.code = cc) (hts : ∀ w ∈ Ts, w.before args s = true) (hin : ∀ w ∈ wsX30, w ∈ Ts) (hown : s.vm.findClass own = some m.cls) (hK : va_K D vwCl (mk_tys E) s) (hP : va_P D vwCl (mk_wl E M L) H) (hxx : x < 94) (hk : mk_kd x = 3) {host : String} (hlink : (Cond.fieldLinkNest own index "MixedKernel$Task" "endTimes" "[I" host).before args s = true) (hdg : decode cc pc = .ok (.getfield index, 3)) (kk : W p l e R s m args below meth c H locs cells slots Q (F0 m (pc + 3) ls (.ref (E.1 (x+3)) :: rest))) : W p l e R s m args below meth c H locs cells slots Q (F0 m pc ls (.ref (E.1 x) :: rest)) :=
  va_getN (D := D) (ci := 3) (v := .ref (E.1 (x+3))) (C := RX3) (T := TX3) (N := 14) hx hb hts hin hown hK hP x (by rw [mk_get E M L hxx, mk_rep_3 hk]) rfl 13 (by decide) hlink (fun _ h9 => h9) rfl hdg kk
theorem mk_g4_0 (hx : p.tables.exec = Jvm.exec) (hb : c.code = cc) (hts : ∀ w ∈ Ts, w.before args s = true) (hin : ∀ w ∈ wsX40, w ∈ Ts) (hown : s.vm.findClass own = some m.cls) (hK : va_K D vwCl (mk_tys E) s) (hP : va_P D vwCl (mk_wl E M L) H) (hxx : x < 94) (hk : mk_kd x = 4) (hlink : (Cond.fieldLink own index "MixedKernel$TaskSet" "all" "[LMixedKernel$Task;").before args s = true) (hdg : decode cc pc = .ok (.getfield index, 3)) (kk : W p l e R s m args below meth c H locs cells slots Q (F0 m (pc + 3) ls (.ref (E.1 2) :: rest))) : W p l e R s m args below meth c H locs cells slots Q (F0 m pc ls (.ref (E.1 x) :: rest)) :=
  va_get (D := D) (ci := 4) (v := .ref (E.1 2)) (C := RX4) (T := TX4) (N := 1) hx hb hts hin hown hK hP x (by rw [mk_get E M L hxx, mk_rep_4 hk]) rfl 0 (by decide) hlink (fun _ h9 => h9) rfl hdg kk
theorem mk_n4_0 (hx : p.tables.exec = Jvm.exec) (hb : c.code = cc) (hts : ∀ w ∈ Ts, w.before args s = true) (hin : ∀ w ∈ wsX40, w ∈ Ts) (hown : s.vm.findClass own = some m.cls) (hK : va_K D vwCl (mk_tys E) s) (hP : va_P D vwCl (mk_wl E M L) H) (hxx : x < 94) (hk : mk_kd x = 4) {host : String} (hlink : (Cond.fieldLinkNest own index "MixedKernel$TaskSet" "all" "[LMixedKernel$Task;" host).before args s = true) (hdg : decode cc pc = .ok (.getfield index, 3)) (kk : W p l e R s m args below meth c H locs cells slots Q (F0 m (pc + 3) ls (.ref (E.1 2) :: rest))) : W p l e R s m args below meth c H locs cells slots Q (F0 m pc ls (.ref (E.1 x) :: rest)) :=
  va_getN (D := D) (ci := 4) (v := .ref (E.1 2)) (C := RX4) (T := TX4) (N := 1) hx hb hts hin hown hK hP x (by rw [mk_get E M L hxx, mk_rep_4 hk]) rfl 0 (by decide) hlink (fun _ h9 => h9) rfl hdg kk
theorem mk_g5_0 (hx : p.tables.exec = Jvm.exec) (hb : c.code = cc) (hts : ∀ w ∈ Ts, w.before args s = true) (hin : ∀ w ∈ wsX50, w ∈ Ts) (hown : s.vm.findClass own = some m.cls) (hK : va_K D vwCl (mk_tys E) s) (hP : va_P D vwCl (mk_wl E M L) H) (hxx : x < 94) (hk : mk_kd x = 5) (hlink : (Cond.fieldLink own index "MixedKernel" "set" "LMixedKernel$TaskSet;").before args s = true) (hdg : decode cc pc = .ok (.getfield index, 3)) (kk : W p l e R s m args below meth c H locs cells slots Q (F0 m (pc + 3) ls (.ref (E.1 1) :: rest))) : W p l e R s m args below meth c H locs cells slots Q (F0 m pc ls (.ref (E.1 x) :: rest)) :=
  va_get (D := D) (ci := 5) (v := .ref (E.1 1)) (C := RX5) (T := TX5) (N := 13) hx hb hts hin hown hK hP x (by rw [mk_get E M L hxx, mk_rep_5 hk]) rfl 0 (by decide) hlink (fun _ h9 => h9) rfl hdg kk
theorem mk_g5_1 (hx : p.tables.exec = Jvm.exec) (hb : c.code = cc) (hts : ∀ w ∈ Ts, w.before args s = true) (hin : ∀ w ∈ wsX50, w ∈ Ts) (hown : s.vm.findClass own = some m.cls) (hK : va_K D vwCl (mk_tys E) s) (hP : va_P D vwCl (mk_wl E M L) H) (hxx : x < 94) (hk : mk_kd x = 5) (hlink : (Cond.fieldLink own index "MixedKernel" "tasks" "[LMixedKernel$Task;").before args s = true) (hdg : decode cc pc = .ok (.getfield index, 3)) (kk : W p l e R s m args below meth c H locs cells slots Q (F0 m (pc + 3) ls (.ref (E.1 2) :: rest))) : W p l e R s m args below meth c H locs cells slots Q (F0 m pc ls (.ref (E.1 x) :: rest)) :=
  va_get (D := D) (ci := 5) (v := .ref (E.1 2)) (C := RX5) (T := TX5) (N := 13) hx hb hts hin hown hK hP x (by rw [mk_get E M L hxx, mk_rep_5 hk]) rfl 1 (by decide) hlink (fun _ h9 => h9) rfl hdg kk
theorem mk_g5_2 (hx : p.tables.exec = Jvm.exec) (hb : c.code = cc) (hts : ∀ w ∈ Ts, w.before args s = true) (hin : ∀ w ∈ wsX50, w ∈ Ts) (hown : s.vm.findClass own = some m.cls) (hK : va_K D vwCl (mk_tys E) s) (hP : va_P D vwCl (mk_wl E M L) H) (hxx : x < 94) (hk : mk_kd x = 5) (hlink : (Cond.fieldLink own index "MixedKernel" "plan" "LMixedKernel$Line;").before args s = true) (hdg : decode cc pc = .ok (.getfield index, 3)) (kk : W p l e R s m args below meth c H locs cells slots Q (F0 m (pc + 3) ls (.ref (E.1 3) :: rest))) : W p l e R s m args below meth c H locs cells slots Q (F0 m pc ls (.ref (E.1 x) :: rest)) :=
  va_get (D := D) (ci := 5) (v := .ref (E.1 3)) (C := RX5) (T := TX5) (N := 13) hx hb hts hin hown hK hP x (by rw [mk_get E M L hxx, mk_rep_5 hk]) rfl 2 (by decide) hlink (fun _ h9 => h9) rfl hdg kk
theorem mk_g5_3 (hx : p.tables.exec = Jvm.exec) (hb : c.code = cc) (hts : ∀ w ∈ Ts, w.before args s = true) (hin : ∀ w ∈ wsX50, w ∈ Ts) (hown : s.vm.findClass own = some m.cls) (hK : va_K D vwCl (mk_tys E) s) (hP : va_P D vwCl (mk_wl E M L) H) (hxx : x < 94) (hk : mk_kd x = 5) (hlink : (Cond.fieldLink own index "MixedKernel" "order" "LMixedKernel$Line;").before args s = true) (hdg : decode cc pc = .ok (.getfield index, 3)) (kk : W p l e R s m args below meth c H locs cells slots Q (F0 m (pc + 3) ls (.ref (E.1 5) :: rest))) : W p l e R s m args below meth c H locs cells slots Q (F0 m pc ls (.ref (E.1 x) :: rest)) :=
  va_get (D := D) (ci := 5) (v := .ref (E.1 5)) (C := RX5) (T := TX5) (N := 13) hx hb hts hin hown hK hP x (by rw [mk_get E M L hxx, mk_rep_5 hk]) rfl 3 (by decide) hlink (fun _ h9 => h9) rfl hdg kk
theorem mk_g5_4 (hx : p.tables.exec = Jvm.exec) (hb : c.code = cc) (hts : ∀ w ∈ Ts, w.before args s = true) (hin : ∀ w ∈ wsX50, w ∈ Ts) (hown : s.vm.findClass own = some m.cls) (hK : va_K D vwCl (mk_tys E) s) (hP : va_P D vwCl (mk_wl E M L) H) (hxx : x < 94) (hk : mk_kd x = 5) (hlink : (Cond.fieldLink own index "MixedKernel" "trial" "LMixedKernel$Line;").before args s = true) (hdg : decode cc pc = .ok (.getfield index, 3)) (kk : W p l e R s m args below meth c H locs cells slots Q (F0 m (pc + 3) ls (.ref (E.1 7) :: rest))) : W p l e R s m args below meth c H locs cells slots Q (F0 m pc ls (.ref (E.1 x) :: rest)) :=
  va_get (D := D) (ci := 5) (v := .ref (E.1 7)) (C := RX5) (T := TX5) (N := 13) hx hb hts hin hown hK hP x (by rw [mk_get E M L hxx, mk_rep_5 hk]) rfl 4 (by decide) hlink (fun _ h9 => h9) rfl hdg kk
theorem mk_g5_5 (hx : p.tables.exec = Jvm.exec) (hb : c.code = cc) (hts : ∀ w ∈ Ts, w.before args s = true) (hin : ∀ w ∈ wsX50, w ∈ Ts) (hown : s.vm.findClass own = some m.cls) (hK : va_K D vwCl (mk_tys E) s) (hP : va_P D vwCl (mk_wl E M L) H) (hxx : x < 94) (hk : mk_kd x = 5) (hlink : (Cond.fieldLink own index "MixedKernel" "refusal" "LMixedKernel$Refusal;").before args s = true) (hdg : decode cc pc = .ok (.getfield index, 3)) (kk : W p l e R s m args below meth c H locs cells slots Q (F0 m (pc + 3) ls (.ref (E.1 9) :: rest))) : W p l e R s m args below meth c H locs cells slots Q (F0 m pc ls (.ref (E.1 x) :: rest)) :=
  va_get (D := D) (ci := 5) (v := .ref (E.1 9)) (C := RX5) (T := TX5) (N := 13) hx hb hts hin hown hK hP x (by rw [mk_get E M L hxx, mk_rep_5 hk]) rfl 5 (by decide) hlink (fun _ h9 => h9) rfl hdg kk
theorem mk_g5_6 (hx : p.tables.exec = Jvm.exec) (hb : c.code = cc) (hts : ∀ w ∈ Ts, w.before args s = true) (hin : ∀ w ∈ wsX50, w ∈ Ts) (hown : s.vm.findClass own = some m.cls) (hK : va_K D vwCl (mk_tys E) s) (hP : va_P D vwCl (mk_wl E M L) H) (hxx : x < 94) (hk : mk_kd x = 5) (hlink : (Cond.fieldLink own index "MixedKernel" "ran" "LMixedKernel$Latest;").before args s = true) (hdg : decode cc pc = .ok (.getfield index, 3)) (kk : W p l e R s m args below meth c H locs cells slots Q (F0 m (pc + 3) ls (.ref (E.1 12) :: rest))) : W p l e R s m args below meth c H locs cells slots Q (F0 m pc ls (.ref (E.1 x) :: rest)) :=
  va_get (D := D) (ci := 5) (v := .ref (E.1 12)) (C := RX5) (T := TX5) (N := 13) hx hb hts hin hown hK hP x (by rw [mk_get E M L hxx, mk_rep_5 hk]) rfl 6 (by decide) hlink (fun _ h9 => h9) rfl hdg kk
theorem mk_g5_7 (hx : p.tables.exec = Jvm.exec) (hb : c.code = cc) (hts : ∀ w ∈ Ts, w.before args s = true) (hin : ∀ w ∈ wsX50, w ∈ Ts) (hown : s.vm.findClass own = some m.cls) (hK : va_K D vwCl (mk_tys E) s) (hP : va_P D vwCl (mk_wl E M L) H) (hxx : x < 94) (hk : mk_kd x = 5) (hlink : (Cond.fieldLink own index "MixedKernel" "changes" "LMixedKernel$Latest;").before args s = true) (hdg : decode cc pc = .ok (.getfield index, 3)) (kk : W p l e R s m args below meth c H locs cells slots Q (F0 m (pc + 3) ls (.ref (E.1 14) :: rest))) : W p l e R s m args below meth c H locs cells slots Q (F0 m pc ls (.ref (E.1 x) :: rest)) :=
  va_get (D := D) (ci := 5) (v := .ref (E.1 14)) (C := RX5) (T := TX5) (N := 13) hx hb hts hin hown hK hP x (by rw [mk_get E M L hxx, mk_rep_5 hk]) rfl 7 (by decide) hlink (fun _ h9 => h9) rfl hdg kk
theorem mk_g5_8 (hx : p.tables.exec = Jvm.exec) (hb : c.code = cc) (hts : ∀ w ∈ Ts, w.before args s = true) (hin : ∀ w ∈ wsX50, w ∈ Ts) (hown : s.vm.findClass own = some m.cls) (hK : va_K D vwCl (mk_tys E) s) (hP : va_P D vwCl (mk_wl E M L) H) (hxx : x < 94) (hk : mk_kd x = 5) (hlink : (Cond.fieldLink own index "MixedKernel" "highMode" "Z").before args s = true) (hdg : decode cc pc = .ok (.getfield index, 3)) (kk : W p l e R s m args below meth c H locs cells slots Q (F0 m (pc + 3) ls (.int (M x 8) :: rest))) : W p l e R s m args below meth c H locs cells slots Q (F0 m pc ls (.ref (E.1 x) :: rest)) :=
  va_get (D := D) (ci := 5) (v := .int (M x 8)) (C := RX5) (T := TX5) (N := 13) hx hb hts hin hown hK hP x (by rw [mk_get E M L hxx, mk_rep_5 hk]) rfl 8 (by decide) hlink (fun _ h9 => h9) rfl hdg kk
theorem mk_p5_8 {v : Int32} (hx : p.tables.exec = Jvm.exec) (hb : c.code = cc) (hts : ∀ w ∈ Ts, w.before args s = true) (hin : ∀ w ∈ wsX50, w ∈ Ts) (hown : s.vm.findClass own = some m.cls) (hK : va_K D vwCl (mk_tys E) s) (hP : va_P D vwCl (mk_wl E M L) H) (hxx : x < 94) (hk : mk_kd x = 5) (hD : va_D (mk_A E) (mk_wl E M L)) (hS : va_S (mk_A E) H0 H locs) (hv : narrow .boolean (.int v) = .int v) (hf : fits .boolean (.int v) = true) (hlink : (Cond.fieldLink own index "MixedKernel" "highMode" "Z").before args s = true) (hdg : decode cc pc = .ok (.putfield index, 3)) (kk : ∀ (H1 : Heap) (locs1 : List Loc), va_P D vwCl (mk_wl E (mk_st M x 8 v) L) H1 → va_S (mk_A E) H0 H1 locs1 → W p l e R s m args below meth c H1 locs1 cells slots Q (F0 m (pc + 3) ls rest)) : W p l e R s m args below meth c H locs cells slots Q (F0 m pc ls (.int v :: .ref (E.1 x) :: rest)) := by
  refine va_put (D := D) (ci := 5) (v := .int v) (ty := .boolean) (C := RX5) (T := TX5) (N := 13) hx hb hts hin tyX5 tyX5_ok nmX5 hown hK hP hD hS x (by rw [mk_get E M L hxx, mk_rep_5 hk]) rfl 8 (by decide) hlink (fun _ h9 => h9) rfl (by decide +kernel) hv hf (by decide) hdg (fun H1 locs1 hP1 _ hS1 => kk H1 locs1 ?_ hS1)
  rw [← mk_set (M := M) (M2 := mk_st M x 8 v) (L := L) (L2 := L) (e := .inr (5, [.ref (E.1 1), .ref (E.1 2), .ref (E.1 3), .ref (E.1 5), .ref (E.1 7), .ref (E.1 9), .ref (E.1 12), .ref (E.1 14), .int v, .int (M x 9), .int (M x 10), .int (M x 11), .int (M x 12)])) hxx (by rw [mk_rep_5 hk]; simp [mk_st]) (fun y hy => mk_rep_congr E L (mk_st_off M x 8 v hy))]
  exact hP1
theorem mk_g5_9 (hx : p.tables.exec = Jvm.exec) (hb : c.code = cc) (hts : ∀ w ∈ Ts, w.before args s = true) (hin : ∀ w ∈ wsX50, w ∈ Ts) (hown : s.vm.findClass own = some m.cls) (hK : va_K D vwCl (mk_tys E) s) (hP : va_P D vwCl (mk_wl E M L) H) (hxx : x < 94) (hk : mk_kd x = 5) (hlink : (Cond.fieldLink own index "MixedKernel" "time" "I").before args s = true) (hdg : decode cc pc = .ok (.getfield index, 3)) (kk : W p l e R s m args below meth c H locs cells slots Q (F0 m (pc + 3) ls (.int (M x 9) :: rest))) : W p l e R s m args below meth c H locs cells slots Q (F0 m pc ls (.ref (E.1 x) :: rest)) :=
  va_get (D := D) (ci := 5) (v := .int (M x 9)) (C := RX5) (T := TX5) (N := 13) hx hb hts hin hown hK hP x (by rw [mk_get E M L hxx, mk_rep_5 hk]) rfl 9 (by decide) hlink (fun _ h9 => h9) rfl hdg kk
theorem mk_p5_9 {v : Int32} (hx : p.tables.exec = Jvm.exec) (hb : c.code = cc) (hts : ∀ w ∈ Ts, w.before args s = true) (hin : ∀ w ∈ wsX50, w ∈ Ts) (hown : s.vm.findClass own = some m.cls) (hK : va_K D vwCl (mk_tys E) s) (hP : va_P D vwCl (mk_wl E M L) H) (hxx : x < 94) (hk : mk_kd x = 5) (hD : va_D (mk_A E) (mk_wl E M L)) (hS : va_S (mk_A E) H0 H locs) (hlink : (Cond.fieldLink own index "MixedKernel" "time" "I").before args s = true) (hdg : decode cc pc = .ok (.putfield index, 3)) (kk : ∀ (H1 : Heap) (locs1 : List Loc), va_P D vwCl (mk_wl E (mk_st M x 9 v) L) H1 → va_S (mk_A E) H0 H1 locs1 → W p l e R s m args below meth c H1 locs1 cells slots Q (F0 m (pc + 3) ls rest)) : W p l e R s m args below meth c H locs cells slots Q (F0 m pc ls (.int v :: .ref (E.1 x) :: rest)) := by
  refine va_put (D := D) (ci := 5) (v := .int v) (ty := .int) (C := RX5) (T := TX5) (N := 13) hx hb hts hin tyX5 tyX5_ok nmX5 hown hK hP hD hS x (by rw [mk_get E M L hxx, mk_rep_5 hk]) rfl 9 (by decide) hlink (fun _ h9 => h9) rfl (by decide +kernel) rfl rfl (by decide) hdg (fun H1 locs1 hP1 _ hS1 => kk H1 locs1 ?_ hS1)
  rw [← mk_set (M := M) (M2 := mk_st M x 9 v) (L := L) (L2 := L) (e := .inr (5, [.ref (E.1 1), .ref (E.1 2), .ref (E.1 3), .ref (E.1 5), .ref (E.1 7), .ref (E.1 9), .ref (E.1 12), .ref (E.1 14), .int (M x 8), .int v, .int (M x 10), .int (M x 11), .int (M x 12)])) hxx (by rw [mk_rep_5 hk]; simp [mk_st]) (fun y hy => mk_rep_congr E L (mk_st_off M x 9 v hy))]
  exact hP1
theorem mk_g5_10 (hx : p.tables.exec = Jvm.exec) (hb : c.code = cc) (hts : ∀ w ∈ Ts, w.before args s = true) (hin : ∀ w ∈ wsX50, w ∈ Ts) (hown : s.vm.findClass own = some m.cls) (hK : va_K D vwCl (mk_tys E) s) (hP : va_P D vwCl (mk_wl E M L) H) (hxx : x < 94) (hk : mk_kd x = 5) (hlink : (Cond.fieldLink own index "MixedKernel" "idleTicks" "I").before args s = true) (hdg : decode cc pc = .ok (.getfield index, 3)) (kk : W p l e R s m args below meth c H locs cells slots Q (F0 m (pc + 3) ls (.int (M x 10) :: rest))) : W p l e R s m args below meth c H locs cells slots Q (F0 m pc ls (.ref (E.1 x) :: rest)) :=
  va_get (D := D) (ci := 5) (v := .int (M x 10)) (C := RX5) (T := TX5) (N := 13) hx hb hts hin hown hK hP x (by rw [mk_get E M L hxx, mk_rep_5 hk]) rfl 10 (by decide) hlink (fun _ h9 => h9) rfl hdg kk
theorem mk_p5_10 {v : Int32} (hx : p.tables.exec = Jvm.exec) (hb : c.code = cc) (hts : ∀ w ∈ Ts, w.before args s = true) (hin : ∀ w ∈ wsX50, w ∈ Ts) (hown : s.vm.findClass own = some m.cls) (hK : va_K D vwCl (mk_tys E) s) (hP : va_P D vwCl (mk_wl E M L) H) (hxx : x < 94) (hk : mk_kd x = 5) (hD : va_D (mk_A E) (mk_wl E M L)) (hS : va_S (mk_A E) H0 H locs) (hlink : (Cond.fieldLink own index "MixedKernel" "idleTicks" "I").before args s = true) (hdg : decode cc pc = .ok (.putfield index, 3)) (kk : ∀ (H1 : Heap) (locs1 : List Loc), va_P D vwCl (mk_wl E (mk_st M x 10 v) L) H1 → va_S (mk_A E) H0 H1 locs1 → W p l e R s m args below meth c H1 locs1 cells slots Q (F0 m (pc + 3) ls rest)) : W p l e R s m args below meth c H locs cells slots Q (F0 m pc ls (.int v :: .ref (E.1 x) :: rest)) := by
  refine va_put (D := D) (ci := 5) (v := .int v) (ty := .int) (C := RX5) (T := TX5) (N := 13) hx hb hts hin tyX5 tyX5_ok nmX5 hown hK hP hD hS x (by rw [mk_get E M L hxx, mk_rep_5 hk]) rfl 10 (by decide) hlink (fun _ h9 => h9) rfl (by decide +kernel) rfl rfl (by decide) hdg (fun H1 locs1 hP1 _ hS1 => kk H1 locs1 ?_ hS1)
  rw [← mk_set (M := M) (M2 := mk_st M x 10 v) (L := L) (L2 := L) (e := .inr (5, [.ref (E.1 1), .ref (E.1 2), .ref (E.1 3), .ref (E.1 5), .ref (E.1 7), .ref (E.1 9), .ref (E.1 12), .ref (E.1 14), .int (M x 8), .int (M x 9), .int v, .int (M x 11), .int (M x 12)])) hxx (by rw [mk_rep_5 hk]; simp [mk_st]) (fun y hy => mk_rep_congr E L (mk_st_off M x 10 v hy))]
  exact hP1
theorem mk_g5_11 (hx : p.tables.exec = Jvm.exec) (hb : c.code = cc) (hts : ∀ w ∈ Ts, w.before args s = true) (hin : ∀ w ∈ wsX50, w ∈ Ts) (hown : s.vm.findClass own = some m.cls) (hK : va_K D vwCl (mk_tys E) s) (hP : va_P D vwCl (mk_wl E M L) H) (hxx : x < 94) (hk : mk_kd x = 5) (hlink : (Cond.fieldLink own index "MixedKernel" "latestIdle" "I").before args s = true) (hdg : decode cc pc = .ok (.getfield index, 3)) (kk : W p l e R s m args below meth c H locs cells slots Q (F0 m (pc + 3) ls (.int (M x 11) :: rest))) : W p l e R s m args below meth c H locs cells slots Q (F0 m pc ls (.ref (E.1 x) :: rest)) :=
  va_get (D := D) (ci := 5) (v := .int (M x 11)) (C := RX5) (T := TX5) (N := 13) hx hb hts hin hown hK hP x (by rw [mk_get E M L hxx, mk_rep_5 hk]) rfl 11 (by decide) hlink (fun _ h9 => h9) rfl hdg kk
theorem mk_p5_11 {v : Int32} (hx : p.tables.exec = Jvm.exec) (hb : c.code = cc) (hts : ∀ w ∈ Ts, w.before args s = true) (hin : ∀ w ∈ wsX50, w ∈ Ts) (hown : s.vm.findClass own = some m.cls) (hK : va_K D vwCl (mk_tys E) s) (hP : va_P D vwCl (mk_wl E M L) H) (hxx : x < 94) (hk : mk_kd x = 5) (hD : va_D (mk_A E) (mk_wl E M L)) (hS : va_S (mk_A E) H0 H locs) (hlink : (Cond.fieldLink own index "MixedKernel" "latestIdle" "I").before args s = true) (hdg : decode cc pc = .ok (.putfield index, 3)) (kk : ∀ (H1 : Heap) (locs1 : List Loc), va_P D vwCl (mk_wl E (mk_st M x 11 v) L) H1 → va_S (mk_A E) H0 H1 locs1 → W p l e R s m args below meth c H1 locs1 cells slots Q (F0 m (pc + 3) ls rest)) : W p l e R s m args below meth c H locs cells slots Q (F0 m pc ls (.int v :: .ref (E.1 x) :: rest)) := by
  refine va_put (D := D) (ci := 5) (v := .int v) (ty := .int) (C := RX5) (T := TX5) (N := 13) hx hb hts hin tyX5 tyX5_ok nmX5 hown hK hP hD hS x (by rw [mk_get E M L hxx, mk_rep_5 hk]) rfl 11 (by decide) hlink (fun _ h9 => h9) rfl (by decide +kernel) rfl rfl (by decide) hdg (fun H1 locs1 hP1 _ hS1 => kk H1 locs1 ?_ hS1)
  rw [← mk_set (M := M) (M2 := mk_st M x 11 v) (L := L) (L2 := L) (e := .inr (5, [.ref (E.1 1), .ref (E.1 2), .ref (E.1 3), .ref (E.1 5), .ref (E.1 7), .ref (E.1 9), .ref (E.1 12), .ref (E.1 14), .int (M x 8), .int (M x 9), .int (M x 10), .int v, .int (M x 12)])) hxx (by rw [mk_rep_5 hk]; simp [mk_st]) (fun y hy => mk_rep_congr E L (mk_st_off M x 11 v hy))]
  exact hP1
theorem mk_g5_12 (hx : p.tables.exec = Jvm.exec) (hb : c.code = cc) (hts : ∀ w ∈ Ts, w.before args s = true) (hin : ∀ w ∈ wsX50, w ∈ Ts) (hown : s.vm.findClass own = some m.cls) (hK : va_K D vwCl (mk_tys E) s) (hP : va_P D vwCl (mk_wl E M L) H) (hxx : x < 94) (hk : mk_kd x = 5) (hlink : (Cond.fieldLink own index "MixedKernel" "givenUp" "I").before args s = true) (hdg : decode cc pc = .ok (.getfield index, 3)) (kk : W p l e R s m args below meth c H locs cells slots Q (F0 m (pc + 3) ls (.int (M x 12) :: rest))) : W p l e R s m args below meth c H locs cells slots Q (F0 m pc ls (.ref (E.1 x) :: rest)) :=
  va_get (D := D) (ci := 5) (v := .int (M x 12)) (C := RX5) (T := TX5) (N := 13) hx hb hts hin hown hK hP x (by rw [mk_get E M L hxx, mk_rep_5 hk]) rfl 12 (by decide) hlink (fun _ h9 => h9) rfl hdg kk
theorem mk_p5_12 {v : Int32} (hx : p.tables.exec = Jvm.exec) (hb : c.code = cc) (hts : ∀ w ∈ Ts, w.before args s = true) (hin : ∀ w ∈ wsX50, w ∈ Ts) (hown : s.vm.findClass own = some m.cls) (hK : va_K D vwCl (mk_tys E) s) (hP : va_P D vwCl (mk_wl E M L) H) (hxx : x < 94) (hk : mk_kd x = 5) (hD : va_D (mk_A E) (mk_wl E M L)) (hS : va_S (mk_A E) H0 H locs) (hlink : (Cond.fieldLink own index "MixedKernel" "givenUp" "I").before args s = true) (hdg : decode cc pc = .ok (.putfield index, 3)) (kk : ∀ (H1 : Heap) (locs1 : List Loc), va_P D vwCl (mk_wl E (mk_st M x 12 v) L) H1 → va_S (mk_A E) H0 H1 locs1 → W p l e R s m args below meth c H1 locs1 cells slots Q (F0 m (pc + 3) ls rest)) : W p l e R s m args below meth c H locs cells slots Q (F0 m pc ls (.int v :: .ref (E.1 x) :: rest)) := by
  refine va_put (D := D) (ci := 5) (v := .int v) (ty := .int) (C := RX5) (T := TX5) (N := 13) hx hb hts hin tyX5 tyX5_ok nmX5 hown hK hP hD hS x (by rw [mk_get E M L hxx, mk_rep_5 hk]) rfl 12 (by decide) hlink (fun _ h9 => h9) rfl (by decide +kernel) rfl rfl (by decide) hdg (fun H1 locs1 hP1 _ hS1 => kk H1 locs1 ?_ hS1)
  rw [← mk_set (M := M) (M2 := mk_st M x 12 v) (L := L) (L2 := L) (e := .inr (5, [.ref (E.1 1), .ref (E.1 2), .ref (E.1 3), .ref (E.1 5), .ref (E.1 7), .ref (E.1 9), .ref (E.1 12), .ref (E.1 14), .int (M x 8), .int (M x 9), .int (M x 10), .int (M x 11), .int v])) hxx (by rw [mk_rep_5 hk]; simp [mk_st]) (fun y hy => mk_rep_congr E L (mk_st_off M x 12 v hy))]
  exact hP1
theorem mk_g6_0 (hx : p.tables.exec = Jvm.exec) (hb : c.code = cc) (hts : ∀ w ∈ Ts, w.before args s = true) (hin : ∀ w ∈ wsX60, w ∈ Ts) (hown : s.vm.findClass own = some m.cls) (hK : va_K D vwCl (mk_tys E) s) (hP : va_P D vwCl (mk_wl E M L) H) (hxx : x < 94) (hk : mk_kd x = 6) (hlink : (Cond.fieldLink own index "MixedKernelModel" "thrown" "I").before args s = true) (hdg : decode cc pc = .ok (.getfield index, 3)) (kk : W p l e R s m args below meth c H locs cells slots Q (F0 m (pc + 3) ls (.int (M x 0) :: rest))) : W p l e R s m args below meth c H locs cells slots Q (F0 m pc ls (.ref (E.1 x) :: rest)) :=
  va_get (D := D) (ci := 6) (v := .int (M x 0)) (C := RX6) (T := TX6) (N := 35) hx hb hts hin hown hK hP x (by rw [mk_get E M L hxx, mk_rep_6 hk]) rfl 0 (by decide) hlink (fun _ h9 => h9) rfl hdg kk
theorem mk_p6_0 {v : Int32} (hx : p.tables.exec = Jvm.exec) (hb : c.code = cc) (hts : ∀ w ∈ Ts, w.before args s = true) (hin : ∀ w ∈ wsX60, w ∈ Ts) (hown : s.vm.findClass own = some m.cls) (hK : va_K D vwCl (mk_tys E) s) (hP : va_P D vwCl (mk_wl E M L) H) (hxx : x < 94) (hk : mk_kd x = 6) (hD : va_D (mk_A E) (mk_wl E M L)) (hS : va_S (mk_A E) H0 H locs) (hlink : (Cond.fieldLink own index "MixedKernelModel" "thrown" "I").before args s = true) (hdg : decode cc pc = .ok (.putfield index, 3)) (kk : ∀ (H1 : Heap) (locs1 : List Loc), va_P D vwCl (mk_wl E (mk_st M x 0 v) L) H1 → va_S (mk_A E) H0 H1 locs1 → W p l e R s m args below meth c H1 locs1 cells slots Q (F0 m (pc + 3) ls rest)) : W p l e R s m args below meth c H locs cells slots Q (F0 m pc ls (.int v :: .ref (E.1 x) :: rest)) := by
  refine va_put (D := D) (ci := 6) (v := .int v) (ty := .int) (C := RX6) (T := TX6) (N := 35) hx hb hts hin tyX6 tyX6_ok nmX6 hown hK hP hD hS x (by rw [mk_get E M L hxx, mk_rep_6 hk]) rfl 0 (by decide) hlink (fun _ h9 => h9) rfl (by decide +kernel) rfl rfl (by decide) hdg (fun H1 locs1 hP1 _ hS1 => kk H1 locs1 ?_ hS1)
  rw [← mk_set (M := M) (M2 := mk_st M x 0 v) (L := L) (L2 := L) (e := .inr (6, [.int v, .ref (E.1 69), .ref (E.1 70), .ref (E.1 71), .ref (E.1 72), .ref (E.1 73), .ref (E.1 74), .int (M x 7), .ref (E.1 75), .int (M x 9), .ref (E.1 76), .ref (E.1 77), .ref (E.1 78), .ref (E.1 79), .ref (E.1 80), .ref (E.1 81), .ref (E.1 82), .ref (E.1 83), .ref (E.1 84), .ref (E.1 85), .ref (E.1 86), .int (M x 21), .int (M x 22), .int (M x 23), .int (M x 24), .int (M x 25), .int (M x 26), .ref (E.1 87), .ref (E.1 88), .int (M x 29), .ref (E.1 89), .ref (E.1 90), .int (M x 32), .ref (E.1 91), .ref (E.1 92)])) hxx (by rw [mk_rep_6 hk]; simp [mk_st]) (fun y hy => mk_rep_congr E L (mk_st_off M x 0 v hy))]
  exact hP1
theorem mk_g6_1 (hx : p.tables.exec = Jvm.exec) (hb : c.code = cc) (hts : ∀ w ∈ Ts, w.before args s = true) (hin : ∀ w ∈ wsX60, w ∈ Ts) (hown : s.vm.findClass own = some m.cls) (hK : va_K D vwCl (mk_tys E) s) (hP : va_P D vwCl (mk_wl E M L) H) (hxx : x < 94) (hk : mk_kd x = 6) (hlink : (Cond.fieldLink own index "MixedKernelModel" "known" "[Z").before args s = true) (hdg : decode cc pc = .ok (.getfield index, 3)) (kk : W p l e R s m args below meth c H locs cells slots Q (F0 m (pc + 3) ls (.ref (E.1 69) :: rest))) : W p l e R s m args below meth c H locs cells slots Q (F0 m pc ls (.ref (E.1 x) :: rest)) :=
  va_get (D := D) (ci := 6) (v := .ref (E.1 69)) (C := RX6) (T := TX6) (N := 35) hx hb hts hin hown hK hP x (by rw [mk_get E M L hxx, mk_rep_6 hk]) rfl 1 (by decide) hlink (fun _ h9 => h9) rfl hdg kk
theorem mk_g6_2 (hx : p.tables.exec = Jvm.exec) (hb : c.code = cc) (hts : ∀ w ∈ Ts, w.before args s = true) (hin : ∀ w ∈ wsX60, w ∈ Ts) (hown : s.vm.findClass own = some m.cls) (hK : va_K D vwCl (mk_tys E) s) (hP : va_P D vwCl (mk_wl E M L) H) (hxx : x < 94) (hk : mk_kd x = 6) (hlink : (Cond.fieldLink own index "MixedKernelModel" "leaving" "[Z").before args s = true) (hdg : decode cc pc = .ok (.getfield index, 3)) (kk : W p l e R s m args below meth c H locs cells slots Q (F0 m (pc + 3) ls (.ref (E.1 70) :: rest))) : W p l e R s m args below meth c H locs cells slots Q (F0 m pc ls (.ref (E.1 x) :: rest)) :=
  va_get (D := D) (ci := 6) (v := .ref (E.1 70)) (C := RX6) (T := TX6) (N := 35) hx hb hts hin hown hK hP x (by rw [mk_get E M L hxx, mk_rep_6 hk]) rfl 2 (by decide) hlink (fun _ h9 => h9) rfl hdg kk
theorem mk_g6_3 (hx : p.tables.exec = Jvm.exec) (hb : c.code = cc) (hts : ∀ w ∈ Ts, w.before args s = true) (hin : ∀ w ∈ wsX60, w ∈ Ts) (hown : s.vm.findClass own = some m.cls) (hK : va_K D vwCl (mk_tys E) s) (hP : va_P D vwCl (mk_wl E M L) H) (hxx : x < 94) (hk : mk_kd x = 6) (hlink : (Cond.fieldLink own index "MixedKernelModel" "periods" "[I").before args s = true) (hdg : decode cc pc = .ok (.getfield index, 3)) (kk : W p l e R s m args below meth c H locs cells slots Q (F0 m (pc + 3) ls (.ref (E.1 71) :: rest))) : W p l e R s m args below meth c H locs cells slots Q (F0 m pc ls (.ref (E.1 x) :: rest)) :=
  va_get (D := D) (ci := 6) (v := .ref (E.1 71)) (C := RX6) (T := TX6) (N := 35) hx hb hts hin hown hK hP x (by rw [mk_get E M L hxx, mk_rep_6 hk]) rfl 3 (by decide) hlink (fun _ h9 => h9) rfl hdg kk
theorem mk_g6_4 (hx : p.tables.exec = Jvm.exec) (hb : c.code = cc) (hts : ∀ w ∈ Ts, w.before args s = true) (hin : ∀ w ∈ wsX60, w ∈ Ts) (hown : s.vm.findClass own = some m.cls) (hK : va_K D vwCl (mk_tys E) s) (hP : va_P D vwCl (mk_wl E M L) H) (hxx : x < 94) (hk : mk_kd x = 6) (hlink : (Cond.fieldLink own index "MixedKernelModel" "deadlines" "[I").before args s = true) (hdg : decode cc pc = .ok (.getfield index, 3)) (kk : W p l e R s m args below meth c H locs cells slots Q (F0 m (pc + 3) ls (.ref (E.1 72) :: rest))) : W p l e R s m args below meth c H locs cells slots Q (F0 m pc ls (.ref (E.1 x) :: rest)) :=
  va_get (D := D) (ci := 6) (v := .ref (E.1 72)) (C := RX6) (T := TX6) (N := 35) hx hb hts hin hown hK hP x (by rw [mk_get E M L hxx, mk_rep_6 hk]) rfl 4 (by decide) hlink (fun _ h9 => h9) rfl hdg kk
theorem mk_g6_5 (hx : p.tables.exec = Jvm.exec) (hb : c.code = cc) (hts : ∀ w ∈ Ts, w.before args s = true) (hin : ∀ w ∈ wsX60, w ∈ Ts) (hown : s.vm.findClass own = some m.cls) (hK : va_K D vwCl (mk_tys E) s) (hP : va_P D vwCl (mk_wl E M L) H) (hxx : x < 94) (hk : mk_kd x = 6) (hlink : (Cond.fieldLink own index "MixedKernelModel" "lows" "[I").before args s = true) (hdg : decode cc pc = .ok (.getfield index, 3)) (kk : W p l e R s m args below meth c H locs cells slots Q (F0 m (pc + 3) ls (.ref (E.1 73) :: rest))) : W p l e R s m args below meth c H locs cells slots Q (F0 m pc ls (.ref (E.1 x) :: rest)) :=
  va_get (D := D) (ci := 6) (v := .ref (E.1 73)) (C := RX6) (T := TX6) (N := 35) hx hb hts hin hown hK hP x (by rw [mk_get E M L hxx, mk_rep_6 hk]) rfl 5 (by decide) hlink (fun _ h9 => h9) rfl hdg kk
theorem mk_g6_6 (hx : p.tables.exec = Jvm.exec) (hb : c.code = cc) (hts : ∀ w ∈ Ts, w.before args s = true) (hin : ∀ w ∈ wsX60, w ∈ Ts) (hown : s.vm.findClass own = some m.cls) (hK : va_K D vwCl (mk_tys E) s) (hP : va_P D vwCl (mk_wl E M L) H) (hxx : x < 94) (hk : mk_kd x = 6) (hlink : (Cond.fieldLink own index "MixedKernelModel" "highs" "[I").before args s = true) (hdg : decode cc pc = .ok (.getfield index, 3)) (kk : W p l e R s m args below meth c H locs cells slots Q (F0 m (pc + 3) ls (.ref (E.1 74) :: rest))) : W p l e R s m args below meth c H locs cells slots Q (F0 m pc ls (.ref (E.1 x) :: rest)) :=
  va_get (D := D) (ci := 6) (v := .ref (E.1 74)) (C := RX6) (T := TX6) (N := 35) hx hb hts hin hown hK hP x (by rw [mk_get E M L hxx, mk_rep_6 hk]) rfl 6 (by decide) hlink (fun _ h9 => h9) rfl hdg kk
theorem mk_g6_7 (hx : p.tables.exec = Jvm.exec) (hb : c.code = cc) (hts : ∀ w ∈ Ts, w.before args s = true) (hin : ∀ w ∈ wsX60, w ∈ Ts) (hown : s.vm.findClass own = some m.cls) (hK : va_K D vwCl (mk_tys E) s) (hP : va_P D vwCl (mk_wl E M L) H) (hxx : x < 94) (hk : mk_kd x = 6) (hlink : (Cond.fieldLink own index "MixedKernelModel" "planned" "I").before args s = true) (hdg : decode cc pc = .ok (.getfield index, 3)) (kk : W p l e R s m args below meth c H locs cells slots Q (F0 m (pc + 3) ls (.int (M x 7) :: rest))) : W p l e R s m args below meth c H locs cells slots Q (F0 m pc ls (.ref (E.1 x) :: rest)) :=
  va_get (D := D) (ci := 6) (v := .int (M x 7)) (C := RX6) (T := TX6) (N := 35) hx hb hts hin hown hK hP x (by rw [mk_get E M L hxx, mk_rep_6 hk]) rfl 7 (by decide) hlink (fun _ h9 => h9) rfl hdg kk
theorem mk_p6_7 {v : Int32} (hx : p.tables.exec = Jvm.exec) (hb : c.code = cc) (hts : ∀ w ∈ Ts, w.before args s = true) (hin : ∀ w ∈ wsX60, w ∈ Ts) (hown : s.vm.findClass own = some m.cls) (hK : va_K D vwCl (mk_tys E) s) (hP : va_P D vwCl (mk_wl E M L) H) (hxx : x < 94) (hk : mk_kd x = 6) (hD : va_D (mk_A E) (mk_wl E M L)) (hS : va_S (mk_A E) H0 H locs) (hlink : (Cond.fieldLink own index "MixedKernelModel" "planned" "I").before args s = true) (hdg : decode cc pc = .ok (.putfield index, 3)) (kk : ∀ (H1 : Heap) (locs1 : List Loc), va_P D vwCl (mk_wl E (mk_st M x 7 v) L) H1 → va_S (mk_A E) H0 H1 locs1 → W p l e R s m args below meth c H1 locs1 cells slots Q (F0 m (pc + 3) ls rest)) : W p l e R s m args below meth c H locs cells slots Q (F0 m pc ls (.int v :: .ref (E.1 x) :: rest)) := by
  refine va_put (D := D) (ci := 6) (v := .int v) (ty := .int) (C := RX6) (T := TX6) (N := 35) hx hb hts hin tyX6 tyX6_ok nmX6 hown hK hP hD hS x (by rw [mk_get E M L hxx, mk_rep_6 hk]) rfl 7 (by decide) hlink (fun _ h9 => h9) rfl (by decide +kernel) rfl rfl (by decide) hdg (fun H1 locs1 hP1 _ hS1 => kk H1 locs1 ?_ hS1)
  rw [← mk_set (M := M) (M2 := mk_st M x 7 v) (L := L) (L2 := L) (e := .inr (6, [.int (M x 0), .ref (E.1 69), .ref (E.1 70), .ref (E.1 71), .ref (E.1 72), .ref (E.1 73), .ref (E.1 74), .int v, .ref (E.1 75), .int (M x 9), .ref (E.1 76), .ref (E.1 77), .ref (E.1 78), .ref (E.1 79), .ref (E.1 80), .ref (E.1 81), .ref (E.1 82), .ref (E.1 83), .ref (E.1 84), .ref (E.1 85), .ref (E.1 86), .int (M x 21), .int (M x 22), .int (M x 23), .int (M x 24), .int (M x 25), .int (M x 26), .ref (E.1 87), .ref (E.1 88), .int (M x 29), .ref (E.1 89), .ref (E.1 90), .int (M x 32), .ref (E.1 91), .ref (E.1 92)])) hxx (by rw [mk_rep_6 hk]; simp [mk_st]) (fun y hy => mk_rep_congr E L (mk_st_off M x 7 v hy))]
  exact hP1
theorem mk_g6_8 (hx : p.tables.exec = Jvm.exec) (hb : c.code = cc) (hts : ∀ w ∈ Ts, w.before args s = true) (hin : ∀ w ∈ wsX60, w ∈ Ts) (hown : s.vm.findClass own = some m.cls) (hK : va_K D vwCl (mk_tys E) s) (hP : va_P D vwCl (mk_wl E M L) H) (hxx : x < 94) (hk : mk_kd x = 6) (hlink : (Cond.fieldLink own index "MixedKernelModel" "plan" "[I").before args s = true) (hdg : decode cc pc = .ok (.getfield index, 3)) (kk : W p l e R s m args below meth c H locs cells slots Q (F0 m (pc + 3) ls (.ref (E.1 75) :: rest))) : W p l e R s m args below meth c H locs cells slots Q (F0 m pc ls (.ref (E.1 x) :: rest)) :=
  va_get (D := D) (ci := 6) (v := .ref (E.1 75)) (C := RX6) (T := TX6) (N := 35) hx hb hts hin hown hK hP x (by rw [mk_get E M L hxx, mk_rep_6 hk]) rfl 8 (by decide) hlink (fun _ h9 => h9) rfl hdg kk
theorem mk_g6_9 (hx : p.tables.exec = Jvm.exec) (hb : c.code = cc) (hts : ∀ w ∈ Ts, w.before args s = true) (hin : ∀ w ∈ wsX60, w ∈ Ts) (hown : s.vm.findClass own = some m.cls) (hK : va_K D vwCl (mk_tys E) s) (hP : va_P D vwCl (mk_wl E M L) H) (hxx : x < 94) (hk : mk_kd x = 6) (hlink : (Cond.fieldLink own index "MixedKernelModel" "inForce" "I").before args s = true) (hdg : decode cc pc = .ok (.getfield index, 3)) (kk : W p l e R s m args below meth c H locs cells slots Q (F0 m (pc + 3) ls (.int (M x 9) :: rest))) : W p l e R s m args below meth c H locs cells slots Q (F0 m pc ls (.ref (E.1 x) :: rest)) :=
  va_get (D := D) (ci := 6) (v := .int (M x 9)) (C := RX6) (T := TX6) (N := 35) hx hb hts hin hown hK hP x (by rw [mk_get E M L hxx, mk_rep_6 hk]) rfl 9 (by decide) hlink (fun _ h9 => h9) rfl hdg kk
theorem mk_p6_9 {v : Int32} (hx : p.tables.exec = Jvm.exec) (hb : c.code = cc) (hts : ∀ w ∈ Ts, w.before args s = true) (hin : ∀ w ∈ wsX60, w ∈ Ts) (hown : s.vm.findClass own = some m.cls) (hK : va_K D vwCl (mk_tys E) s) (hP : va_P D vwCl (mk_wl E M L) H) (hxx : x < 94) (hk : mk_kd x = 6) (hD : va_D (mk_A E) (mk_wl E M L)) (hS : va_S (mk_A E) H0 H locs) (hlink : (Cond.fieldLink own index "MixedKernelModel" "inForce" "I").before args s = true) (hdg : decode cc pc = .ok (.putfield index, 3)) (kk : ∀ (H1 : Heap) (locs1 : List Loc), va_P D vwCl (mk_wl E (mk_st M x 9 v) L) H1 → va_S (mk_A E) H0 H1 locs1 → W p l e R s m args below meth c H1 locs1 cells slots Q (F0 m (pc + 3) ls rest)) : W p l e R s m args below meth c H locs cells slots Q (F0 m pc ls (.int v :: .ref (E.1 x) :: rest)) := by
  refine va_put (D := D) (ci := 6) (v := .int v) (ty := .int) (C := RX6) (T := TX6) (N := 35) hx hb hts hin tyX6 tyX6_ok nmX6 hown hK hP hD hS x (by rw [mk_get E M L hxx, mk_rep_6 hk]) rfl 9 (by decide) hlink (fun _ h9 => h9) rfl (by decide +kernel) rfl rfl (by decide) hdg (fun H1 locs1 hP1 _ hS1 => kk H1 locs1 ?_ hS1)
  rw [← mk_set (M := M) (M2 := mk_st M x 9 v) (L := L) (L2 := L) (e := .inr (6, [.int (M x 0), .ref (E.1 69), .ref (E.1 70), .ref (E.1 71), .ref (E.1 72), .ref (E.1 73), .ref (E.1 74), .int (M x 7), .ref (E.1 75), .int v, .ref (E.1 76), .ref (E.1 77), .ref (E.1 78), .ref (E.1 79), .ref (E.1 80), .ref (E.1 81), .ref (E.1 82), .ref (E.1 83), .ref (E.1 84), .ref (E.1 85), .ref (E.1 86), .int (M x 21), .int (M x 22), .int (M x 23), .int (M x 24), .int (M x 25), .int (M x 26), .ref (E.1 87), .ref (E.1 88), .int (M x 29), .ref (E.1 89), .ref (E.1 90), .int (M x 32), .ref (E.1 91), .ref (E.1 92)])) hxx (by rw [mk_rep_6 hk]; simp [mk_st]) (fun y hy => mk_rep_congr E L (mk_st_off M x 9 v hy))]
  exact hP1
theorem mk_g6_10 (hx : p.tables.exec = Jvm.exec) (hb : c.code = cc) (hts : ∀ w ∈ Ts, w.before args s = true) (hin : ∀ w ∈ wsX60, w ∈ Ts) (hown : s.vm.findClass own = some m.cls) (hK : va_K D vwCl (mk_tys E) s) (hP : va_P D vwCl (mk_wl E M L) H) (hxx : x < 94) (hk : mk_kd x = 6) (hlink : (Cond.fieldLink own index "MixedKernelModel" "order" "[I").before args s = true) (hdg : decode cc pc = .ok (.getfield index, 3)) (kk : W p l e R s m args below meth c H locs cells slots Q (F0 m (pc + 3) ls (.ref (E.1 76) :: rest))) : W p l e R s m args below meth c H locs cells slots Q (F0 m pc ls (.ref (E.1 x) :: rest)) :=
  va_get (D := D) (ci := 6) (v := .ref (E.1 76)) (C := RX6) (T := TX6) (N := 35) hx hb hts hin hown hK hP x (by rw [mk_get E M L hxx, mk_rep_6 hk]) rfl 10 (by decide) hlink (fun _ h9 => h9) rfl hdg kk
theorem mk_g6_11 (hx : p.tables.exec = Jvm.exec) (hb : c.code = cc) (hts : ∀ w ∈ Ts, w.before args s = true) (hin : ∀ w ∈ wsX60, w ∈ Ts) (hown : s.vm.findClass own = some m.cls) (hK : va_K D vwCl (mk_tys E) s) (hP : va_P D vwCl (mk_wl E M L) H) (hxx : x < 94) (hk : mk_kd x = 6) (hlink : (Cond.fieldLink own index "MixedKernelModel" "found" "[I").before args s = true) (hdg : decode cc pc = .ok (.getfield index, 3)) (kk : W p l e R s m args below meth c H locs cells slots Q (F0 m (pc + 3) ls (.ref (E.1 77) :: rest))) : W p l e R s m args below meth c H locs cells slots Q (F0 m pc ls (.ref (E.1 x) :: rest)) :=
  va_get (D := D) (ci := 6) (v := .ref (E.1 77)) (C := RX6) (T := TX6) (N := 35) hx hb hts hin hown hK hP x (by rw [mk_get E M L hxx, mk_rep_6 hk]) rfl 11 (by decide) hlink (fun _ h9 => h9) rfl hdg kk
theorem mk_g6_12 (hx : p.tables.exec = Jvm.exec) (hb : c.code = cc) (hts : ∀ w ∈ Ts, w.before args s = true) (hin : ∀ w ∈ wsX60, w ∈ Ts) (hown : s.vm.findClass own = some m.cls) (hK : va_K D vwCl (mk_tys E) s) (hP : va_P D vwCl (mk_wl E M L) H) (hxx : x < 94) (hk : mk_kd x = 6) (hlink : (Cond.fieldLink own index "MixedKernelModel" "jobs" "[I").before args s = true) (hdg : decode cc pc = .ok (.getfield index, 3)) (kk : W p l e R s m args below meth c H locs cells slots Q (F0 m (pc + 3) ls (.ref (E.1 78) :: rest))) : W p l e R s m args below meth c H locs cells slots Q (F0 m pc ls (.ref (E.1 x) :: rest)) :=
  va_get (D := D) (ci := 6) (v := .ref (E.1 78)) (C := RX6) (T := TX6) (N := 35) hx hb hts hin hown hK hP x (by rw [mk_get E M L hxx, mk_rep_6 hk]) rfl 12 (by decide) hlink (fun _ h9 => h9) rfl hdg kk
theorem mk_g6_13 (hx : p.tables.exec = Jvm.exec) (hb : c.code = cc) (hts : ∀ w ∈ Ts, w.before args s = true) (hin : ∀ w ∈ wsX60, w ∈ Ts) (hown : s.vm.findClass own = some m.cls) (hK : va_K D vwCl (mk_tys E) s) (hP : va_P D vwCl (mk_wl E M L) H) (hxx : x < 94) (hk : mk_kd x = 6) (hlink : (Cond.fieldLink own index "MixedKernelModel" "drops" "[I").before args s = true) (hdg : decode cc pc = .ok (.getfield index, 3)) (kk : W p l e R s m args below meth c H locs cells slots Q (F0 m (pc + 3) ls (.ref (E.1 79) :: rest))) : W p l e R s m args below meth c H locs cells slots Q (F0 m pc ls (.ref (E.1 x) :: rest)) :=
  va_get (D := D) (ci := 6) (v := .ref (E.1 79)) (C := RX6) (T := TX6) (N := 35) hx hb hts hin hown hK hP x (by rw [mk_get E M L hxx, mk_rep_6 hk]) rfl 13 (by decide) hlink (fun _ h9 => h9) rfl hdg kk
theorem mk_g6_14 (hx : p.tables.exec = Jvm.exec) (hb : c.code = cc) (hts : ∀ w ∈ Ts, w.before args s = true) (hin : ∀ w ∈ wsX60, w ∈ Ts) (hown : s.vm.findClass own = some m.cls) (hK : va_K D vwCl (mk_tys E) s) (hP : va_P D vwCl (mk_wl E M L) H) (hxx : x < 94) (hk : mk_kd x = 6) (hlink : (Cond.fieldLink own index "MixedKernelModel" "charged" "[I").before args s = true) (hdg : decode cc pc = .ok (.getfield index, 3)) (kk : W p l e R s m args below meth c H locs cells slots Q (F0 m (pc + 3) ls (.ref (E.1 80) :: rest))) : W p l e R s m args below meth c H locs cells slots Q (F0 m pc ls (.ref (E.1 x) :: rest)) :=
  va_get (D := D) (ci := 6) (v := .ref (E.1 80)) (C := RX6) (T := TX6) (N := 35) hx hb hts hin hown hK hP x (by rw [mk_get E M L hxx, mk_rep_6 hk]) rfl 14 (by decide) hlink (fun _ h9 => h9) rfl hdg kk
theorem mk_g6_15 (hx : p.tables.exec = Jvm.exec) (hb : c.code = cc) (hts : ∀ w ∈ Ts, w.before args s = true) (hin : ∀ w ∈ wsX60, w ∈ Ts) (hown : s.vm.findClass own = some m.cls) (hK : va_K D vwCl (mk_tys E) s) (hP : va_P D vwCl (mk_wl E M L) H) (hxx : x < 94) (hk : mk_kd x = 6) (hlink : (Cond.fieldLink own index "MixedKernelModel" "lates" "[I").before args s = true) (hdg : decode cc pc = .ok (.getfield index, 3)) (kk : W p l e R s m args below meth c H locs cells slots Q (F0 m (pc + 3) ls (.ref (E.1 81) :: rest))) : W p l e R s m args below meth c H locs cells slots Q (F0 m pc ls (.ref (E.1 x) :: rest)) :=
  va_get (D := D) (ci := 6) (v := .ref (E.1 81)) (C := RX6) (T := TX6) (N := 35) hx hb hts hin hown hK hP x (by rw [mk_get E M L hxx, mk_rep_6 hk]) rfl 15 (by decide) hlink (fun _ h9 => h9) rfl hdg kk
theorem mk_g6_16 (hx : p.tables.exec = Jvm.exec) (hb : c.code = cc) (hts : ∀ w ∈ Ts, w.before args s = true) (hin : ∀ w ∈ wsX60, w ∈ Ts) (hown : s.vm.findClass own = some m.cls) (hK : va_K D vwCl (mk_tys E) s) (hP : va_P D vwCl (mk_wl E M L) H) (hxx : x < 94) (hk : mk_kd x = 6) (hlink : (Cond.fieldLink own index "MixedKernelModel" "nexts" "[I").before args s = true) (hdg : decode cc pc = .ok (.getfield index, 3)) (kk : W p l e R s m args below meth c H locs cells slots Q (F0 m (pc + 3) ls (.ref (E.1 82) :: rest))) : W p l e R s m args below meth c H locs cells slots Q (F0 m pc ls (.ref (E.1 x) :: rest)) :=
  va_get (D := D) (ci := 6) (v := .ref (E.1 82)) (C := RX6) (T := TX6) (N := 35) hx hb hts hin hown hK hP x (by rw [mk_get E M L hxx, mk_rep_6 hk]) rfl 16 (by decide) hlink (fun _ h9 => h9) rfl hdg kk
theorem mk_g6_17 (hx : p.tables.exec = Jvm.exec) (hb : c.code = cc) (hts : ∀ w ∈ Ts, w.before args s = true) (hin : ∀ w ∈ wsX60, w ∈ Ts) (hown : s.vm.findClass own = some m.cls) (hK : va_K D vwCl (mk_tys E) s) (hP : va_P D vwCl (mk_wl E M L) H) (hxx : x < 94) (hk : mk_kd x = 6) (hlink : (Cond.fieldLink own index "MixedKernelModel" "releases" "[I").before args s = true) (hdg : decode cc pc = .ok (.getfield index, 3)) (kk : W p l e R s m args below meth c H locs cells slots Q (F0 m (pc + 3) ls (.ref (E.1 83) :: rest))) : W p l e R s m args below meth c H locs cells slots Q (F0 m pc ls (.ref (E.1 x) :: rest)) :=
  va_get (D := D) (ci := 6) (v := .ref (E.1 83)) (C := RX6) (T := TX6) (N := 35) hx hb hts hin hown hK hP x (by rw [mk_get E M L hxx, mk_rep_6 hk]) rfl 17 (by decide) hlink (fun _ h9 => h9) rfl hdg kk
theorem mk_g6_18 (hx : p.tables.exec = Jvm.exec) (hb : c.code = cc) (hts : ∀ w ∈ Ts, w.before args s = true) (hin : ∀ w ∈ wsX60, w ∈ Ts) (hown : s.vm.findClass own = some m.cls) (hK : va_K D vwCl (mk_tys E) s) (hP : va_P D vwCl (mk_wl E M L) H) (hxx : x < 94) (hk : mk_kd x = 6) (hlink : (Cond.fieldLink own index "MixedKernelModel" "demands" "[I").before args s = true) (hdg : decode cc pc = .ok (.getfield index, 3)) (kk : W p l e R s m args below meth c H locs cells slots Q (F0 m (pc + 3) ls (.ref (E.1 84) :: rest))) : W p l e R s m args below meth c H locs cells slots Q (F0 m pc ls (.ref (E.1 x) :: rest)) :=
  va_get (D := D) (ci := 6) (v := .ref (E.1 84)) (C := RX6) (T := TX6) (N := 35) hx hb hts hin hown hK hP x (by rw [mk_get E M L hxx, mk_rep_6 hk]) rfl 18 (by decide) hlink (fun _ h9 => h9) rfl hdg kk
theorem mk_g6_19 (hx : p.tables.exec = Jvm.exec) (hb : c.code = cc) (hts : ∀ w ∈ Ts, w.before args s = true) (hin : ∀ w ∈ wsX60, w ∈ Ts) (hown : s.vm.findClass own = some m.cls) (hK : va_K D vwCl (mk_tys E) s) (hP : va_P D vwCl (mk_wl E M L) H) (hxx : x < 94) (hk : mk_kd x = 6) (hlink : (Cond.fieldLink own index "MixedKernelModel" "charges" "[I").before args s = true) (hdg : decode cc pc = .ok (.getfield index, 3)) (kk : W p l e R s m args below meth c H locs cells slots Q (F0 m (pc + 3) ls (.ref (E.1 85) :: rest))) : W p l e R s m args below meth c H locs cells slots Q (F0 m pc ls (.ref (E.1 x) :: rest)) :=
  va_get (D := D) (ci := 6) (v := .ref (E.1 85)) (C := RX6) (T := TX6) (N := 35) hx hb hts hin hown hK hP x (by rw [mk_get E M L hxx, mk_rep_6 hk]) rfl 19 (by decide) hlink (fun _ h9 => h9) rfl hdg kk
theorem mk_g6_20 (hx : p.tables.exec = Jvm.exec) (hb : c.code = cc) (hts : ∀ w ∈ Ts, w.before args s = true) (hin : ∀ w ∈ wsX60, w ∈ Ts) (hown : s.vm.findClass own = some m.cls) (hK : va_K D vwCl (mk_tys E) s) (hP : va_P D vwCl (mk_wl E M L) H) (hxx : x < 94) (hk : mk_kd x = 6) (hlink : (Cond.fieldLink own index "MixedKernelModel" "ends" "[I").before args s = true) (hdg : decode cc pc = .ok (.getfield index, 3)) (kk : W p l e R s m args below meth c H locs cells slots Q (F0 m (pc + 3) ls (.ref (E.1 86) :: rest))) : W p l e R s m args below meth c H locs cells slots Q (F0 m pc ls (.ref (E.1 x) :: rest)) :=
  va_get (D := D) (ci := 6) (v := .ref (E.1 86)) (C := RX6) (T := TX6) (N := 35) hx hb hts hin hown hK hP x (by rw [mk_get E M L hxx, mk_rep_6 hk]) rfl 20 (by decide) hlink (fun _ h9 => h9) rfl hdg kk
theorem mk_g6_21 (hx : p.tables.exec = Jvm.exec) (hb : c.code = cc) (hts : ∀ w ∈ Ts, w.before args s = true) (hin : ∀ w ∈ wsX60, w ∈ Ts) (hown : s.vm.findClass own = some m.cls) (hK : va_K D vwCl (mk_tys E) s) (hP : va_P D vwCl (mk_wl E M L) H) (hxx : x < 94) (hk : mk_kd x = 6) (hlink : (Cond.fieldLink own index "MixedKernelModel" "time" "I").before args s = true) (hdg : decode cc pc = .ok (.getfield index, 3)) (kk : W p l e R s m args below meth c H locs cells slots Q (F0 m (pc + 3) ls (.int (M x 21) :: rest))) : W p l e R s m args below meth c H locs cells slots Q (F0 m pc ls (.ref (E.1 x) :: rest)) :=
  va_get (D := D) (ci := 6) (v := .int (M x 21)) (C := RX6) (T := TX6) (N := 35) hx hb hts hin hown hK hP x (by rw [mk_get E M L hxx, mk_rep_6 hk]) rfl 21 (by decide) hlink (fun _ h9 => h9) rfl hdg kk
theorem mk_p6_21 {v : Int32} (hx : p.tables.exec = Jvm.exec) (hb : c.code = cc) (hts : ∀ w ∈ Ts, w.before args s = true) (hin : ∀ w ∈ wsX60, w ∈ Ts) (hown : s.vm.findClass own = some m.cls) (hK : va_K D vwCl (mk_tys E) s) (hP : va_P D vwCl (mk_wl E M L) H) (hxx : x < 94) (hk : mk_kd x = 6) (hD : va_D (mk_A E) (mk_wl E M L)) (hS : va_S (mk_A E) H0 H locs) (hlink : (Cond.fieldLink own index "MixedKernelModel" "time" "I").before args s = true) (hdg : decode cc pc = .ok (.putfield index, 3)) (kk : ∀ (H1 : Heap) (locs1 : List Loc), va_P D vwCl (mk_wl E (mk_st M x 21 v) L) H1 → va_S (mk_A E) H0 H1 locs1 → W p l e R s m args below meth c H1 locs1 cells slots Q (F0 m (pc + 3) ls rest)) : W p l e R s m args below meth c H locs cells slots Q (F0 m pc ls (.int v :: .ref (E.1 x) :: rest)) := by
  refine va_put (D := D) (ci := 6) (v := .int v) (ty := .int) (C := RX6) (T := TX6) (N := 35) hx hb hts hin tyX6 tyX6_ok nmX6 hown hK hP hD hS x (by rw [mk_get E M L hxx, mk_rep_6 hk]) rfl 21 (by decide) hlink (fun _ h9 => h9) rfl (by decide +kernel) rfl rfl (by decide) hdg (fun H1 locs1 hP1 _ hS1 => kk H1 locs1 ?_ hS1)
  rw [← mk_set (M := M) (M2 := mk_st M x 21 v) (L := L) (L2 := L) (e := .inr (6, [.int (M x 0), .ref (E.1 69), .ref (E.1 70), .ref (E.1 71), .ref (E.1 72), .ref (E.1 73), .ref (E.1 74), .int (M x 7), .ref (E.1 75), .int (M x 9), .ref (E.1 76), .ref (E.1 77), .ref (E.1 78), .ref (E.1 79), .ref (E.1 80), .ref (E.1 81), .ref (E.1 82), .ref (E.1 83), .ref (E.1 84), .ref (E.1 85), .ref (E.1 86), .int v, .int (M x 22), .int (M x 23), .int (M x 24), .int (M x 25), .int (M x 26), .ref (E.1 87), .ref (E.1 88), .int (M x 29), .ref (E.1 89), .ref (E.1 90), .int (M x 32), .ref (E.1 91), .ref (E.1 92)])) hxx (by rw [mk_rep_6 hk]; simp [mk_st]) (fun y hy => mk_rep_congr E L (mk_st_off M x 21 v hy))]
  exact hP1
theorem mk_g6_22 (hx : p.tables.exec = Jvm.exec) (hb : c.code = cc) (hts : ∀ w ∈ Ts, w.before args s = true) (hin : ∀ w ∈ wsX60, w ∈ Ts) (hown : s.vm.findClass own = some m.cls) (hK : va_K D vwCl (mk_tys E) s) (hP : va_P D vwCl (mk_wl E M L) H) (hxx : x < 94) (hk : mk_kd x = 6) (hlink : (Cond.fieldLink own index "MixedKernelModel" "idles" "I").before args s = true) (hdg : decode cc pc = .ok (.getfield index, 3)) (kk : W p l e R s m args below meth c H locs cells slots Q (F0 m (pc + 3) ls (.int (M x 22) :: rest))) : W p l e R s m args below meth c H locs cells slots Q (F0 m pc ls (.ref (E.1 x) :: rest)) :=
  va_get (D := D) (ci := 6) (v := .int (M x 22)) (C := RX6) (T := TX6) (N := 35) hx hb hts hin hown hK hP x (by rw [mk_get E M L hxx, mk_rep_6 hk]) rfl 22 (by decide) hlink (fun _ h9 => h9) rfl hdg kk
theorem mk_p6_22 {v : Int32} (hx : p.tables.exec = Jvm.exec) (hb : c.code = cc) (hts : ∀ w ∈ Ts, w.before args s = true) (hin : ∀ w ∈ wsX60, w ∈ Ts) (hown : s.vm.findClass own = some m.cls) (hK : va_K D vwCl (mk_tys E) s) (hP : va_P D vwCl (mk_wl E M L) H) (hxx : x < 94) (hk : mk_kd x = 6) (hD : va_D (mk_A E) (mk_wl E M L)) (hS : va_S (mk_A E) H0 H locs) (hlink : (Cond.fieldLink own index "MixedKernelModel" "idles" "I").before args s = true) (hdg : decode cc pc = .ok (.putfield index, 3)) (kk : ∀ (H1 : Heap) (locs1 : List Loc), va_P D vwCl (mk_wl E (mk_st M x 22 v) L) H1 → va_S (mk_A E) H0 H1 locs1 → W p l e R s m args below meth c H1 locs1 cells slots Q (F0 m (pc + 3) ls rest)) : W p l e R s m args below meth c H locs cells slots Q (F0 m pc ls (.int v :: .ref (E.1 x) :: rest)) := by
  refine va_put (D := D) (ci := 6) (v := .int v) (ty := .int) (C := RX6) (T := TX6) (N := 35) hx hb hts hin tyX6 tyX6_ok nmX6 hown hK hP hD hS x (by rw [mk_get E M L hxx, mk_rep_6 hk]) rfl 22 (by decide) hlink (fun _ h9 => h9) rfl (by decide +kernel) rfl rfl (by decide) hdg (fun H1 locs1 hP1 _ hS1 => kk H1 locs1 ?_ hS1)
  rw [← mk_set (M := M) (M2 := mk_st M x 22 v) (L := L) (L2 := L) (e := .inr (6, [.int (M x 0), .ref (E.1 69), .ref (E.1 70), .ref (E.1 71), .ref (E.1 72), .ref (E.1 73), .ref (E.1 74), .int (M x 7), .ref (E.1 75), .int (M x 9), .ref (E.1 76), .ref (E.1 77), .ref (E.1 78), .ref (E.1 79), .ref (E.1 80), .ref (E.1 81), .ref (E.1 82), .ref (E.1 83), .ref (E.1 84), .ref (E.1 85), .ref (E.1 86), .int (M x 21), .int v, .int (M x 23), .int (M x 24), .int (M x 25), .int (M x 26), .ref (E.1 87), .ref (E.1 88), .int (M x 29), .ref (E.1 89), .ref (E.1 90), .int (M x 32), .ref (E.1 91), .ref (E.1 92)])) hxx (by rw [mk_rep_6 hk]; simp [mk_st]) (fun y hy => mk_rep_congr E L (mk_st_off M x 22 v hy))]
  exact hP1
theorem mk_g6_23 (hx : p.tables.exec = Jvm.exec) (hb : c.code = cc) (hts : ∀ w ∈ Ts, w.before args s = true) (hin : ∀ w ∈ wsX60, w ∈ Ts) (hown : s.vm.findClass own = some m.cls) (hK : va_K D vwCl (mk_tys E) s) (hP : va_P D vwCl (mk_wl E M L) H) (hxx : x < 94) (hk : mk_kd x = 6) (hlink : (Cond.fieldLink own index "MixedKernelModel" "latestIdle" "I").before args s = true) (hdg : decode cc pc = .ok (.getfield index, 3)) (kk : W p l e R s m args below meth c H locs cells slots Q (F0 m (pc + 3) ls (.int (M x 23) :: rest))) : W p l e R s m args below meth c H locs cells slots Q (F0 m pc ls (.ref (E.1 x) :: rest)) :=
  va_get (D := D) (ci := 6) (v := .int (M x 23)) (C := RX6) (T := TX6) (N := 35) hx hb hts hin hown hK hP x (by rw [mk_get E M L hxx, mk_rep_6 hk]) rfl 23 (by decide) hlink (fun _ h9 => h9) rfl hdg kk
theorem mk_p6_23 {v : Int32} (hx : p.tables.exec = Jvm.exec) (hb : c.code = cc) (hts : ∀ w ∈ Ts, w.before args s = true) (hin : ∀ w ∈ wsX60, w ∈ Ts) (hown : s.vm.findClass own = some m.cls) (hK : va_K D vwCl (mk_tys E) s) (hP : va_P D vwCl (mk_wl E M L) H) (hxx : x < 94) (hk : mk_kd x = 6) (hD : va_D (mk_A E) (mk_wl E M L)) (hS : va_S (mk_A E) H0 H locs) (hlink : (Cond.fieldLink own index "MixedKernelModel" "latestIdle" "I").before args s = true) (hdg : decode cc pc = .ok (.putfield index, 3)) (kk : ∀ (H1 : Heap) (locs1 : List Loc), va_P D vwCl (mk_wl E (mk_st M x 23 v) L) H1 → va_S (mk_A E) H0 H1 locs1 → W p l e R s m args below meth c H1 locs1 cells slots Q (F0 m (pc + 3) ls rest)) : W p l e R s m args below meth c H locs cells slots Q (F0 m pc ls (.int v :: .ref (E.1 x) :: rest)) := by
  refine va_put (D := D) (ci := 6) (v := .int v) (ty := .int) (C := RX6) (T := TX6) (N := 35) hx hb hts hin tyX6 tyX6_ok nmX6 hown hK hP hD hS x (by rw [mk_get E M L hxx, mk_rep_6 hk]) rfl 23 (by decide) hlink (fun _ h9 => h9) rfl (by decide +kernel) rfl rfl (by decide) hdg (fun H1 locs1 hP1 _ hS1 => kk H1 locs1 ?_ hS1)
  rw [← mk_set (M := M) (M2 := mk_st M x 23 v) (L := L) (L2 := L) (e := .inr (6, [.int (M x 0), .ref (E.1 69), .ref (E.1 70), .ref (E.1 71), .ref (E.1 72), .ref (E.1 73), .ref (E.1 74), .int (M x 7), .ref (E.1 75), .int (M x 9), .ref (E.1 76), .ref (E.1 77), .ref (E.1 78), .ref (E.1 79), .ref (E.1 80), .ref (E.1 81), .ref (E.1 82), .ref (E.1 83), .ref (E.1 84), .ref (E.1 85), .ref (E.1 86), .int (M x 21), .int (M x 22), .int v, .int (M x 24), .int (M x 25), .int (M x 26), .ref (E.1 87), .ref (E.1 88), .int (M x 29), .ref (E.1 89), .ref (E.1 90), .int (M x 32), .ref (E.1 91), .ref (E.1 92)])) hxx (by rw [mk_rep_6 hk]; simp [mk_st]) (fun y hy => mk_rep_congr E L (mk_st_off M x 23 v hy))]
  exact hP1
theorem mk_g6_24 (hx : p.tables.exec = Jvm.exec) (hb : c.code = cc) (hts : ∀ w ∈ Ts, w.before args s = true) (hin : ∀ w ∈ wsX60, w ∈ Ts) (hown : s.vm.findClass own = some m.cls) (hK : va_K D vwCl (mk_tys E) s) (hP : va_P D vwCl (mk_wl E M L) H) (hxx : x < 94) (hk : mk_kd x = 6) (hlink : (Cond.fieldLink own index "MixedKernelModel" "mode" "I").before args s = true) (hdg : decode cc pc = .ok (.getfield index, 3)) (kk : W p l e R s m args below meth c H locs cells slots Q (F0 m (pc + 3) ls (.int (M x 24) :: rest))) : W p l e R s m args below meth c H locs cells slots Q (F0 m pc ls (.ref (E.1 x) :: rest)) :=
  va_get (D := D) (ci := 6) (v := .int (M x 24)) (C := RX6) (T := TX6) (N := 35) hx hb hts hin hown hK hP x (by rw [mk_get E M L hxx, mk_rep_6 hk]) rfl 24 (by decide) hlink (fun _ h9 => h9) rfl hdg kk
theorem mk_p6_24 {v : Int32} (hx : p.tables.exec = Jvm.exec) (hb : c.code = cc) (hts : ∀ w ∈ Ts, w.before args s = true) (hin : ∀ w ∈ wsX60, w ∈ Ts) (hown : s.vm.findClass own = some m.cls) (hK : va_K D vwCl (mk_tys E) s) (hP : va_P D vwCl (mk_wl E M L) H) (hxx : x < 94) (hk : mk_kd x = 6) (hD : va_D (mk_A E) (mk_wl E M L)) (hS : va_S (mk_A E) H0 H locs) (hlink : (Cond.fieldLink own index "MixedKernelModel" "mode" "I").before args s = true) (hdg : decode cc pc = .ok (.putfield index, 3)) (kk : ∀ (H1 : Heap) (locs1 : List Loc), va_P D vwCl (mk_wl E (mk_st M x 24 v) L) H1 → va_S (mk_A E) H0 H1 locs1 → W p l e R s m args below meth c H1 locs1 cells slots Q (F0 m (pc + 3) ls rest)) : W p l e R s m args below meth c H locs cells slots Q (F0 m pc ls (.int v :: .ref (E.1 x) :: rest)) := by
  refine va_put (D := D) (ci := 6) (v := .int v) (ty := .int) (C := RX6) (T := TX6) (N := 35) hx hb hts hin tyX6 tyX6_ok nmX6 hown hK hP hD hS x (by rw [mk_get E M L hxx, mk_rep_6 hk]) rfl 24 (by decide) hlink (fun _ h9 => h9) rfl (by decide +kernel) rfl rfl (by decide) hdg (fun H1 locs1 hP1 _ hS1 => kk H1 locs1 ?_ hS1)
  rw [← mk_set (M := M) (M2 := mk_st M x 24 v) (L := L) (L2 := L) (e := .inr (6, [.int (M x 0), .ref (E.1 69), .ref (E.1 70), .ref (E.1 71), .ref (E.1 72), .ref (E.1 73), .ref (E.1 74), .int (M x 7), .ref (E.1 75), .int (M x 9), .ref (E.1 76), .ref (E.1 77), .ref (E.1 78), .ref (E.1 79), .ref (E.1 80), .ref (E.1 81), .ref (E.1 82), .ref (E.1 83), .ref (E.1 84), .ref (E.1 85), .ref (E.1 86), .int (M x 21), .int (M x 22), .int (M x 23), .int v, .int (M x 25), .int (M x 26), .ref (E.1 87), .ref (E.1 88), .int (M x 29), .ref (E.1 89), .ref (E.1 90), .int (M x 32), .ref (E.1 91), .ref (E.1 92)])) hxx (by rw [mk_rep_6 hk]; simp [mk_st]) (fun y hy => mk_rep_congr E L (mk_st_off M x 24 v hy))]
  exact hP1
theorem mk_g6_25 (hx : p.tables.exec = Jvm.exec) (hb : c.code = cc) (hts : ∀ w ∈ Ts, w.before args s = true) (hin : ∀ w ∈ wsX60, w ∈ Ts) (hown : s.vm.findClass own = some m.cls) (hK : va_K D vwCl (mk_tys E) s) (hP : va_P D vwCl (mk_wl E M L) H) (hxx : x < 94) (hk : mk_kd x = 6) (hlink : (Cond.fieldLink own index "MixedKernelModel" "changes" "I").before args s = true) (hdg : decode cc pc = .ok (.getfield index, 3)) (kk : W p l e R s m args below meth c H locs cells slots Q (F0 m (pc + 3) ls (.int (M x 25) :: rest))) : W p l e R s m args below meth c H locs cells slots Q (F0 m pc ls (.ref (E.1 x) :: rest)) :=
  va_get (D := D) (ci := 6) (v := .int (M x 25)) (C := RX6) (T := TX6) (N := 35) hx hb hts hin hown hK hP x (by rw [mk_get E M L hxx, mk_rep_6 hk]) rfl 25 (by decide) hlink (fun _ h9 => h9) rfl hdg kk
theorem mk_p6_25 {v : Int32} (hx : p.tables.exec = Jvm.exec) (hb : c.code = cc) (hts : ∀ w ∈ Ts, w.before args s = true) (hin : ∀ w ∈ wsX60, w ∈ Ts) (hown : s.vm.findClass own = some m.cls) (hK : va_K D vwCl (mk_tys E) s) (hP : va_P D vwCl (mk_wl E M L) H) (hxx : x < 94) (hk : mk_kd x = 6) (hD : va_D (mk_A E) (mk_wl E M L)) (hS : va_S (mk_A E) H0 H locs) (hlink : (Cond.fieldLink own index "MixedKernelModel" "changes" "I").before args s = true) (hdg : decode cc pc = .ok (.putfield index, 3)) (kk : ∀ (H1 : Heap) (locs1 : List Loc), va_P D vwCl (mk_wl E (mk_st M x 25 v) L) H1 → va_S (mk_A E) H0 H1 locs1 → W p l e R s m args below meth c H1 locs1 cells slots Q (F0 m (pc + 3) ls rest)) : W p l e R s m args below meth c H locs cells slots Q (F0 m pc ls (.int v :: .ref (E.1 x) :: rest)) := by
  refine va_put (D := D) (ci := 6) (v := .int v) (ty := .int) (C := RX6) (T := TX6) (N := 35) hx hb hts hin tyX6 tyX6_ok nmX6 hown hK hP hD hS x (by rw [mk_get E M L hxx, mk_rep_6 hk]) rfl 25 (by decide) hlink (fun _ h9 => h9) rfl (by decide +kernel) rfl rfl (by decide) hdg (fun H1 locs1 hP1 _ hS1 => kk H1 locs1 ?_ hS1)
  rw [← mk_set (M := M) (M2 := mk_st M x 25 v) (L := L) (L2 := L) (e := .inr (6, [.int (M x 0), .ref (E.1 69), .ref (E.1 70), .ref (E.1 71), .ref (E.1 72), .ref (E.1 73), .ref (E.1 74), .int (M x 7), .ref (E.1 75), .int (M x 9), .ref (E.1 76), .ref (E.1 77), .ref (E.1 78), .ref (E.1 79), .ref (E.1 80), .ref (E.1 81), .ref (E.1 82), .ref (E.1 83), .ref (E.1 84), .ref (E.1 85), .ref (E.1 86), .int (M x 21), .int (M x 22), .int (M x 23), .int (M x 24), .int v, .int (M x 26), .ref (E.1 87), .ref (E.1 88), .int (M x 29), .ref (E.1 89), .ref (E.1 90), .int (M x 32), .ref (E.1 91), .ref (E.1 92)])) hxx (by rw [mk_rep_6 hk]; simp [mk_st]) (fun y hy => mk_rep_congr E L (mk_st_off M x 25 v hy))]
  exact hP1
theorem mk_g6_26 (hx : p.tables.exec = Jvm.exec) (hb : c.code = cc) (hts : ∀ w ∈ Ts, w.before args s = true) (hin : ∀ w ∈ wsX60, w ∈ Ts) (hown : s.vm.findClass own = some m.cls) (hK : va_K D vwCl (mk_tys E) s) (hP : va_P D vwCl (mk_wl E M L) H) (hxx : x < 94) (hk : mk_kd x = 6) (hlink : (Cond.fieldLink own index "MixedKernelModel" "givenUp" "I").before args s = true) (hdg : decode cc pc = .ok (.getfield index, 3)) (kk : W p l e R s m args below meth c H locs cells slots Q (F0 m (pc + 3) ls (.int (M x 26) :: rest))) : W p l e R s m args below meth c H locs cells slots Q (F0 m pc ls (.ref (E.1 x) :: rest)) :=
  va_get (D := D) (ci := 6) (v := .int (M x 26)) (C := RX6) (T := TX6) (N := 35) hx hb hts hin hown hK hP x (by rw [mk_get E M L hxx, mk_rep_6 hk]) rfl 26 (by decide) hlink (fun _ h9 => h9) rfl hdg kk
theorem mk_p6_26 {v : Int32} (hx : p.tables.exec = Jvm.exec) (hb : c.code = cc) (hts : ∀ w ∈ Ts, w.before args s = true) (hin : ∀ w ∈ wsX60, w ∈ Ts) (hown : s.vm.findClass own = some m.cls) (hK : va_K D vwCl (mk_tys E) s) (hP : va_P D vwCl (mk_wl E M L) H) (hxx : x < 94) (hk : mk_kd x = 6) (hD : va_D (mk_A E) (mk_wl E M L)) (hS : va_S (mk_A E) H0 H locs) (hlink : (Cond.fieldLink own index "MixedKernelModel" "givenUp" "I").before args s = true) (hdg : decode cc pc = .ok (.putfield index, 3)) (kk : ∀ (H1 : Heap) (locs1 : List Loc), va_P D vwCl (mk_wl E (mk_st M x 26 v) L) H1 → va_S (mk_A E) H0 H1 locs1 → W p l e R s m args below meth c H1 locs1 cells slots Q (F0 m (pc + 3) ls rest)) : W p l e R s m args below meth c H locs cells slots Q (F0 m pc ls (.int v :: .ref (E.1 x) :: rest)) := by
  refine va_put (D := D) (ci := 6) (v := .int v) (ty := .int) (C := RX6) (T := TX6) (N := 35) hx hb hts hin tyX6 tyX6_ok nmX6 hown hK hP hD hS x (by rw [mk_get E M L hxx, mk_rep_6 hk]) rfl 26 (by decide) hlink (fun _ h9 => h9) rfl (by decide +kernel) rfl rfl (by decide) hdg (fun H1 locs1 hP1 _ hS1 => kk H1 locs1 ?_ hS1)
  rw [← mk_set (M := M) (M2 := mk_st M x 26 v) (L := L) (L2 := L) (e := .inr (6, [.int (M x 0), .ref (E.1 69), .ref (E.1 70), .ref (E.1 71), .ref (E.1 72), .ref (E.1 73), .ref (E.1 74), .int (M x 7), .ref (E.1 75), .int (M x 9), .ref (E.1 76), .ref (E.1 77), .ref (E.1 78), .ref (E.1 79), .ref (E.1 80), .ref (E.1 81), .ref (E.1 82), .ref (E.1 83), .ref (E.1 84), .ref (E.1 85), .ref (E.1 86), .int (M x 21), .int (M x 22), .int (M x 23), .int (M x 24), .int (M x 25), .int v, .ref (E.1 87), .ref (E.1 88), .int (M x 29), .ref (E.1 89), .ref (E.1 90), .int (M x 32), .ref (E.1 91), .ref (E.1 92)])) hxx (by rw [mk_rep_6 hk]; simp [mk_st]) (fun y hy => mk_rep_congr E L (mk_st_off M x 26 v hy))]
  exact hP1
theorem mk_g6_27 (hx : p.tables.exec = Jvm.exec) (hb : c.code = cc) (hts : ∀ w ∈ Ts, w.before args s = true) (hin : ∀ w ∈ wsX60, w ∈ Ts) (hown : s.vm.findClass own = some m.cls) (hK : va_K D vwCl (mk_tys E) s) (hP : va_P D vwCl (mk_wl E M L) H) (hxx : x < 94) (hk : mk_kd x = 6) (hlink : (Cond.fieldLink own index "MixedKernelModel" "changed" "[I").before args s = true) (hdg : decode cc pc = .ok (.getfield index, 3)) (kk : W p l e R s m args below meth c H locs cells slots Q (F0 m (pc + 3) ls (.ref (E.1 87) :: rest))) : W p l e R s m args below meth c H locs cells slots Q (F0 m pc ls (.ref (E.1 x) :: rest)) :=
  va_get (D := D) (ci := 6) (v := .ref (E.1 87)) (C := RX6) (T := TX6) (N := 35) hx hb hts hin hown hK hP x (by rw [mk_get E M L hxx, mk_rep_6 hk]) rfl 27 (by decide) hlink (fun _ h9 => h9) rfl hdg kk
theorem mk_g6_28 (hx : p.tables.exec = Jvm.exec) (hb : c.code = cc) (hts : ∀ w ∈ Ts, w.before args s = true) (hin : ∀ w ∈ wsX60, w ∈ Ts) (hown : s.vm.findClass own = some m.cls) (hK : va_K D vwCl (mk_tys E) s) (hP : va_P D vwCl (mk_wl E M L) H) (hxx : x < 94) (hk : mk_kd x = 6) (hlink : (Cond.fieldLink own index "MixedKernelModel" "trace" "[I").before args s = true) (hdg : decode cc pc = .ok (.getfield index, 3)) (kk : W p l e R s m args below meth c H locs cells slots Q (F0 m (pc + 3) ls (.ref (E.1 88) :: rest))) : W p l e R s m args below meth c H locs cells slots Q (F0 m pc ls (.ref (E.1 x) :: rest)) :=
  va_get (D := D) (ci := 6) (v := .ref (E.1 88)) (C := RX6) (T := TX6) (N := 35) hx hb hts hin hown hK hP x (by rw [mk_get E M L hxx, mk_rep_6 hk]) rfl 28 (by decide) hlink (fun _ h9 => h9) rfl hdg kk
theorem mk_g6_29 (hx : p.tables.exec = Jvm.exec) (hb : c.code = cc) (hts : ∀ w ∈ Ts, w.before args s = true) (hin : ∀ w ∈ wsX60, w ∈ Ts) (hown : s.vm.findClass own = some m.cls) (hK : va_K D vwCl (mk_tys E) s) (hP : va_P D vwCl (mk_wl E M L) H) (hxx : x < 94) (hk : mk_kd x = 6) (hlink : (Cond.fieldLink own index "MixedKernelModel" "witnesses" "I").before args s = true) (hdg : decode cc pc = .ok (.getfield index, 3)) (kk : W p l e R s m args below meth c H locs cells slots Q (F0 m (pc + 3) ls (.int (M x 29) :: rest))) : W p l e R s m args below meth c H locs cells slots Q (F0 m pc ls (.ref (E.1 x) :: rest)) :=
  va_get (D := D) (ci := 6) (v := .int (M x 29)) (C := RX6) (T := TX6) (N := 35) hx hb hts hin hown hK hP x (by rw [mk_get E M L hxx, mk_rep_6 hk]) rfl 29 (by decide) hlink (fun _ h9 => h9) rfl hdg kk
theorem mk_p6_29 {v : Int32} (hx : p.tables.exec = Jvm.exec) (hb : c.code = cc) (hts : ∀ w ∈ Ts, w.before args s = true) (hin : ∀ w ∈ wsX60, w ∈ Ts) (hown : s.vm.findClass own = some m.cls) (hK : va_K D vwCl (mk_tys E) s) (hP : va_P D vwCl (mk_wl E M L) H) (hxx : x < 94) (hk : mk_kd x = 6) (hD : va_D (mk_A E) (mk_wl E M L)) (hS : va_S (mk_A E) H0 H locs) (hlink : (Cond.fieldLink own index "MixedKernelModel" "witnesses" "I").before args s = true) (hdg : decode cc pc = .ok (.putfield index, 3)) (kk : ∀ (H1 : Heap) (locs1 : List Loc), va_P D vwCl (mk_wl E (mk_st M x 29 v) L) H1 → va_S (mk_A E) H0 H1 locs1 → W p l e R s m args below meth c H1 locs1 cells slots Q (F0 m (pc + 3) ls rest)) : W p l e R s m args below meth c H locs cells slots Q (F0 m pc ls (.int v :: .ref (E.1 x) :: rest)) := by
  refine va_put (D := D) (ci := 6) (v := .int v) (ty := .int) (C := RX6) (T := TX6) (N := 35) hx hb hts hin tyX6 tyX6_ok nmX6 hown hK hP hD hS x (by rw [mk_get E M L hxx, mk_rep_6 hk]) rfl 29 (by decide) hlink (fun _ h9 => h9) rfl (by decide +kernel) rfl rfl (by decide) hdg (fun H1 locs1 hP1 _ hS1 => kk H1 locs1 ?_ hS1)
  rw [← mk_set (M := M) (M2 := mk_st M x 29 v) (L := L) (L2 := L) (e := .inr (6, [.int (M x 0), .ref (E.1 69), .ref (E.1 70), .ref (E.1 71), .ref (E.1 72), .ref (E.1 73), .ref (E.1 74), .int (M x 7), .ref (E.1 75), .int (M x 9), .ref (E.1 76), .ref (E.1 77), .ref (E.1 78), .ref (E.1 79), .ref (E.1 80), .ref (E.1 81), .ref (E.1 82), .ref (E.1 83), .ref (E.1 84), .ref (E.1 85), .ref (E.1 86), .int (M x 21), .int (M x 22), .int (M x 23), .int (M x 24), .int (M x 25), .int (M x 26), .ref (E.1 87), .ref (E.1 88), .int v, .ref (E.1 89), .ref (E.1 90), .int (M x 32), .ref (E.1 91), .ref (E.1 92)])) hxx (by rw [mk_rep_6 hk]; simp [mk_st]) (fun y hy => mk_rep_congr E L (mk_st_off M x 29 v hy))]
  exact hP1
theorem mk_g6_30 (hx : p.tables.exec = Jvm.exec) (hb : c.code = cc) (hts : ∀ w ∈ Ts, w.before args s = true) (hin : ∀ w ∈ wsX60, w ∈ Ts) (hown : s.vm.findClass own = some m.cls) (hK : va_K D vwCl (mk_tys E) s) (hP : va_P D vwCl (mk_wl E M L) H) (hxx : x < 94) (hk : mk_kd x = 6) (hlink : (Cond.fieldLink own index "MixedKernelModel" "who" "[I").before args s = true) (hdg : decode cc pc = .ok (.getfield index, 3)) (kk : W p l e R s m args below meth c H locs cells slots Q (F0 m (pc + 3) ls (.ref (E.1 89) :: rest))) : W p l e R s m args below meth c H locs cells slots Q (F0 m pc ls (.ref (E.1 x) :: rest)) :=
  va_get (D := D) (ci := 6) (v := .ref (E.1 89)) (C := RX6) (T := TX6) (N := 35) hx hb hts hin hown hK hP x (by rw [mk_get E M L hxx, mk_rep_6 hk]) rfl 30 (by decide) hlink (fun _ h9 => h9) rfl hdg kk
theorem mk_g6_31 (hx : p.tables.exec = Jvm.exec) (hb : c.code = cc) (hts : ∀ w ∈ Ts, w.before args s = true) (hin : ∀ w ∈ wsX60, w ∈ Ts) (hown : s.vm.findClass own = some m.cls) (hK : va_K D vwCl (mk_tys E) s) (hP : va_P D vwCl (mk_wl E M L) H) (hxx : x < 94) (hk : mk_kd x = 6) (hlink : (Cond.fieldLink own index "MixedKernelModel" "whoPeriods" "[I").before args s = true) (hdg : decode cc pc = .ok (.getfield index, 3)) (kk : W p l e R s m args below meth c H locs cells slots Q (F0 m (pc + 3) ls (.ref (E.1 90) :: rest))) : W p l e R s m args below meth c H locs cells slots Q (F0 m pc ls (.ref (E.1 x) :: rest)) :=
  va_get (D := D) (ci := 6) (v := .ref (E.1 90)) (C := RX6) (T := TX6) (N := 35) hx hb hts hin hown hK hP x (by rw [mk_get E M L hxx, mk_rep_6 hk]) rfl 31 (by decide) hlink (fun _ h9 => h9) rfl hdg kk
theorem mk_g6_32 (hx : p.tables.exec = Jvm.exec) (hb : c.code = cc) (hts : ∀ w ∈ Ts, w.before args s = true) (hin : ∀ w ∈ wsX60, w ∈ Ts) (hown : s.vm.findClass own = some m.cls) (hK : va_K D vwCl (mk_tys E) s) (hP : va_P D vwCl (mk_wl E M L) H) (hxx : x < 94) (hk : mk_kd x = 6) (hlink : (Cond.fieldLink own index "MixedKernelModel" "until" "I").before args s = true) (hdg : decode cc pc = .ok (.getfield index, 3)) (kk : W p l e R s m args below meth c H locs cells slots Q (F0 m (pc + 3) ls (.int (M x 32) :: rest))) : W p l e R s m args below meth c H locs cells slots Q (F0 m pc ls (.ref (E.1 x) :: rest)) :=
  va_get (D := D) (ci := 6) (v := .int (M x 32)) (C := RX6) (T := TX6) (N := 35) hx hb hts hin hown hK hP x (by rw [mk_get E M L hxx, mk_rep_6 hk]) rfl 32 (by decide) hlink (fun _ h9 => h9) rfl hdg kk
theorem mk_p6_32 {v : Int32} (hx : p.tables.exec = Jvm.exec) (hb : c.code = cc) (hts : ∀ w ∈ Ts, w.before args s = true) (hin : ∀ w ∈ wsX60, w ∈ Ts) (hown : s.vm.findClass own = some m.cls) (hK : va_K D vwCl (mk_tys E) s) (hP : va_P D vwCl (mk_wl E M L) H) (hxx : x < 94) (hk : mk_kd x = 6) (hD : va_D (mk_A E) (mk_wl E M L)) (hS : va_S (mk_A E) H0 H locs) (hlink : (Cond.fieldLink own index "MixedKernelModel" "until" "I").before args s = true) (hdg : decode cc pc = .ok (.putfield index, 3)) (kk : ∀ (H1 : Heap) (locs1 : List Loc), va_P D vwCl (mk_wl E (mk_st M x 32 v) L) H1 → va_S (mk_A E) H0 H1 locs1 → W p l e R s m args below meth c H1 locs1 cells slots Q (F0 m (pc + 3) ls rest)) : W p l e R s m args below meth c H locs cells slots Q (F0 m pc ls (.int v :: .ref (E.1 x) :: rest)) := by
  refine va_put (D := D) (ci := 6) (v := .int v) (ty := .int) (C := RX6) (T := TX6) (N := 35) hx hb hts hin tyX6 tyX6_ok nmX6 hown hK hP hD hS x (by rw [mk_get E M L hxx, mk_rep_6 hk]) rfl 32 (by decide) hlink (fun _ h9 => h9) rfl (by decide +kernel) rfl rfl (by decide) hdg (fun H1 locs1 hP1 _ hS1 => kk H1 locs1 ?_ hS1)
  rw [← mk_set (M := M) (M2 := mk_st M x 32 v) (L := L) (L2 := L) (e := .inr (6, [.int (M x 0), .ref (E.1 69), .ref (E.1 70), .ref (E.1 71), .ref (E.1 72), .ref (E.1 73), .ref (E.1 74), .int (M x 7), .ref (E.1 75), .int (M x 9), .ref (E.1 76), .ref (E.1 77), .ref (E.1 78), .ref (E.1 79), .ref (E.1 80), .ref (E.1 81), .ref (E.1 82), .ref (E.1 83), .ref (E.1 84), .ref (E.1 85), .ref (E.1 86), .int (M x 21), .int (M x 22), .int (M x 23), .int (M x 24), .int (M x 25), .int (M x 26), .ref (E.1 87), .ref (E.1 88), .int (M x 29), .ref (E.1 89), .ref (E.1 90), .int v, .ref (E.1 91), .ref (E.1 92)])) hxx (by rw [mk_rep_6 hk]; simp [mk_st]) (fun y hy => mk_rep_congr E L (mk_st_off M x 32 v hy))]
  exact hP1
theorem mk_g6_33 (hx : p.tables.exec = Jvm.exec) (hb : c.code = cc) (hts : ∀ w ∈ Ts, w.before args s = true) (hin : ∀ w ∈ wsX60, w ∈ Ts) (hown : s.vm.findClass own = some m.cls) (hK : va_K D vwCl (mk_tys E) s) (hP : va_P D vwCl (mk_wl E M L) H) (hxx : x < 94) (hk : mk_kd x = 6) (hlink : (Cond.fieldLink own index "MixedKernelModel" "trial" "[I").before args s = true) (hdg : decode cc pc = .ok (.getfield index, 3)) (kk : W p l e R s m args below meth c H locs cells slots Q (F0 m (pc + 3) ls (.ref (E.1 91) :: rest))) : W p l e R s m args below meth c H locs cells slots Q (F0 m pc ls (.ref (E.1 x) :: rest)) :=
  va_get (D := D) (ci := 6) (v := .ref (E.1 91)) (C := RX6) (T := TX6) (N := 35) hx hb hts hin hown hK hP x (by rw [mk_get E M L hxx, mk_rep_6 hk]) rfl 33 (by decide) hlink (fun _ h9 => h9) rfl hdg kk
theorem mk_g6_34 (hx : p.tables.exec = Jvm.exec) (hb : c.code = cc) (hts : ∀ w ∈ Ts, w.before args s = true) (hin : ∀ w ∈ wsX60, w ∈ Ts) (hown : s.vm.findClass own = some m.cls) (hK : va_K D vwCl (mk_tys E) s) (hP : va_P D vwCl (mk_wl E M L) H) (hxx : x < 94) (hk : mk_kd x = 6) (hlink : (Cond.fieldLink own index "MixedKernelModel" "placed" "[Z").before args s = true) (hdg : decode cc pc = .ok (.getfield index, 3)) (kk : W p l e R s m args below meth c H locs cells slots Q (F0 m (pc + 3) ls (.ref (E.1 92) :: rest))) : W p l e R s m args below meth c H locs cells slots Q (F0 m pc ls (.ref (E.1 x) :: rest)) :=
  va_get (D := D) (ci := 6) (v := .ref (E.1 92)) (C := RX6) (T := TX6) (N := 35) hx hb hts hin hown hK hP x (by rw [mk_get E M L hxx, mk_rep_6 hk]) rfl 34 (by decide) hlink (fun _ h9 => h9) rfl hdg kk
theorem mk_ia (hx : p.tables.exec = Jvm.exec) (hb : c.code = cc) (hK : va_K D vwCl (mk_tys E) s) (hP : va_P D vwCl (mk_wl E M L) H) (hxx : x < 94) (hk : mk_kd x = 7) {i : Int32} (hin : vp_in i (mk_ln x)) (hdg : decode cc pc = .ok (.iaload, 1)) (kk : W p l e R s m args below meth c H locs cells slots Q (F0 m (pc + 1) ls (.int (M x i.toNatClampNeg) :: rest))) : W p l e R s m args below meth c H locs cells slots Q (F0 m pc ls (.int i :: .ref (E.1 x) :: rest)) :=
  va_iald hx hb hK hP x 0 (by rw [mk_get E M L hxx, mk_rep_7 hk]) rfl hin hdg kk
theorem mk_za (hx : p.tables.exec = Jvm.exec) (hb : c.code = cc) (hK : va_K D vwCl (mk_tys E) s) (hP : va_P D vwCl (mk_wl E M L) H) (hxx : x < 94) (hk : mk_kd x = 8) {i : Int32} (hin : vp_in i 13) (hdg : decode cc pc = .ok (.baload, 1)) (kk : W p l e R s m args below meth c H locs cells slots Q (F0 m (pc + 1) ls (.int (M x i.toNatClampNeg) :: rest))) : W p l e R s m args below meth c H locs cells slots Q (F0 m pc ls (.int i :: .ref (E.1 x) :: rest)) :=
  va_zald hx hb hK hP x 1 (by rw [mk_get E M L hxx, mk_rep_8 hk]) rfl hin hdg kk
theorem mk_is (hx : p.tables.exec = Jvm.exec) (hb : c.code = cc) (hK : va_K D vwCl (mk_tys E) s) (hP : va_P D vwCl (mk_wl E M L) H) (hD : va_D (mk_A E) (mk_wl E M L)) (hS : va_S (mk_A E) H0 H locs) (hxx : x < 94) (hk : mk_kd x = 7) {i v : Int32} (hin : vp_in i (mk_ln x)) (hdg : decode cc pc = .ok (.iastore, 1)) (kk : ∀ (H1 : Heap) (locs1 : List Loc), va_P D vwCl (mk_wl E (mk_st M x i.toNatClampNeg v) L) H1 → va_S (mk_A E) H0 H1 locs1 → W p l e R s m args below meth c H1 locs1 cells slots Q (F0 m (pc + 1) ls rest)) : W p l e R s m args below meth c H locs cells slots Q (F0 m pc ls (.int v :: .int i :: .ref (E.1 x) :: rest)) := by
  refine va_iast hx hb hK hP hD hS x 0 (by rw [mk_get E M L hxx, mk_rep_7 hk]) rfl hin hdg (fun H1 locs1 hP1 _ hS1 => kk H1 locs1 ?_ hS1)
  rw [← mk_set (M := M) (M2 := mk_st M x i.toNatClampNeg v) (L := L) (L2 := L) hxx (by rw [mk_rep_7 hk, mk_st_row]) (fun y hy => mk_rep_congr E L (mk_st_off M x _ _ hy))]
  exact hP1
theorem mk_zs (hx : p.tables.exec = Jvm.exec) (hb : c.code = cc) (hK : va_K D vwCl (mk_tys E) s) (hP : va_P D vwCl (mk_wl E M L) H) (hD : va_D (mk_A E) (mk_wl E M L)) (hS : va_S (mk_A E) H0 H locs) (hxx : x < 94) (hk : mk_kd x = 8) {i v : Int32} (hin : vp_in i 13) (hdg : decode cc pc = .ok (.bastore, 1)) (kk : ∀ (H1 : Heap) (locs1 : List Loc), va_P D vwCl (mk_wl E (mk_st M x i.toNatClampNeg (vp_nar .boolean v)) L) H1 → va_S (mk_A E) H0 H1 locs1 → W p l e R s m args below meth c H1 locs1 cells slots Q (F0 m (pc + 1) ls rest)) : W p l e R s m args below meth c H locs cells slots Q (F0 m pc ls (.int v :: .int i :: .ref (E.1 x) :: rest)) := by
  refine va_zast hx hb hK hP hD hS x 1 (by rw [mk_get E M L hxx, mk_rep_8 hk]) rfl hin hdg (fun H1 locs1 hP1 _ hS1 => kk H1 locs1 ?_ hS1)
  rw [← mk_set (M := M) (M2 := mk_st M x i.toNatClampNeg (vp_nar .boolean v)) (L := L) (L2 := L) hxx (by rw [mk_rep_8 hk, mk_st_row]) (fun y hy => mk_rep_congr E L (mk_st_off M x _ _ hy))]
  exact hP1
theorem mk_aa (hx : p.tables.exec = Jvm.exec) (hb : c.code = cc) (hK : va_K D vwCl (mk_tys E) s) (hP : va_P D vwCl (mk_wl E M L) H) (hxx : x < 94) (hk : mk_kd x = 9) {i : Int32} (hin : vp_in i 13) (hdg : decode cc pc = .ok (.aaload, 1)) (kk : W p l e R s m args below meth c H locs cells slots Q (F0 m (pc + 1) ls (.ref (E.1 (16 + 4 * i.toNatClampNeg)) :: rest))) : W p l e R s m args below meth c H locs cells slots Q (F0 m pc ls (.int i :: .ref (E.1 x) :: rest)) :=
  va_aldq (C := "MixedKernel$Task") hx hb hK hP x 2 (by rw [mk_get E M L hxx, mk_rep_9 hk]) rfl hin hdg kk
theorem mk_al (hx : p.tables.exec = Jvm.exec) (hb : c.code = cc) (hK : va_K D vwCl (mk_tys E) s) (hP : va_P D vwCl (mk_wl E M L) H) (hxx : x < 94) (hk : mk_kd x = 7) (hdg : decode cc pc = .ok (.arraylength, 1)) (kk : W p l e R s m args below meth c H locs cells slots Q (F0 m (pc + 1) ls (.int (Int32.ofNat (mk_ln x)) :: rest))) : W p l e R s m args below meth c H locs cells slots Q (F0 m pc ls (.ref (E.1 x) :: rest)) :=
  va_alen hx hb hK hP x 0 (by rw [mk_get E M L hxx, mk_rep_7 hk]) rfl rfl hdg kk
end MKR
theorem mk_kd_task {i : Int32} (h : vp_in i 13) : mk_kd (16 + 4 * i.toNatClampNeg) = 3 ∧ 16 + 4 * i.toNatClampNeg < 68 := by
  have hlt : i.toNatClampNeg < 13 := Nat.not_le.mp fun q => h (Or.inr q)
  generalize i.toNatClampNeg = n at hlt
  constructor
  · unfold mk_kd
    rw [if_neg (by omega), if_pos (by omega), if_pos (by omega)]
  · omega
/-- what of a task's place, a line's .. follows from its kind -/
theorem mk_kd3 {x : Nat} (h : mk_kd x = 3) : 16 ≤ x ∧ x < 68 ∧ x % 4 = 0 := by
  unfold mk_kd at h
  split at h
  · split at h <;> cases h
  · split at h
    · split at h
      · omega
      · cases h
    · split at h
      · cases h
      · split at h
        · cases h
        · split at h <;> cases h
end
section
/-! small rows that every walk uses -/
abbrev mk_ob (i : Int32) (n : Nat) : Prop := i < 0 ∨ n ≤ i.toNatClampNeg
def mk_F : Nat := 5000
theorem mk_ifn {α : Type} {c : Prop} [Decidable c] {b : Option α} {q : α} (h : (if c then none else b) = some q) : ¬ c ∧ b = some q := by
  by_cases hc : c
  · rw [if_pos hc] at h; cases h
  · rw [if_neg hc] at h; exact ⟨hc, h⟩
theorem mk_bind {α β : Type} {o : Option α} {f : α → Option β} {q : β} (h : o.bind f = some q) : ∃ r, o = some r ∧ f r = some q := by
  cases o with
  | none => cases h
  | some r => exact ⟨r, rfl, h⟩
theorem mk_s1 {x : Nat} (h : mk_kd x = 1) : x + 1 < 94 ∧ mk_kd (x + 1) = 7 ∧ mk_ln (x + 1) = 12 := by
  have hx : x = 3 ∨ x = 5 ∨ x = 7 := by
    unfold mk_kd at h
    split at h
    · split at h <;> first | omega | cases h
    · split at h
      · split at h <;> cases h
      · split at h
        · cases h
        · split at h
          · cases h
          · split at h <;> cases h
  rcases hx with rfl | rfl | rfl <;> decide
theorem mk_s0 {x : Nat} (h : mk_kd x = 0) : x + 1 < 94 ∧ mk_kd (x + 1) = 7 := by
  have hx : x = 12 ∨ x = 14 := by
    unfold mk_kd at h
    split at h
    · split at h <;> first | omega | cases h
    · split at h
      · split at h <;> cases h
      · split at h
        · cases h
        · split at h
          · cases h
          · split at h <;> cases h
  rcases hx with rfl | rfl <;> decide
theorem mk_kdt {x : Nat} (h1 : 16 ≤ x) (h2 : x < 68) (h3 : x % 4 ≠ 0) : mk_kd x = 7 ∧ mk_ln x = 8 := by
  constructor
  · unfold mk_kd
    rw [if_neg (by omega), if_pos h2, if_neg h3]
  · unfold mk_ln
    rw [if_neg (by omega), if_neg (by omega), if_pos h2]
theorem mk_s3 {x : Nat} (h : mk_kd x = 3) : (x + 1 < 94 ∧ mk_kd (x + 1) = 7 ∧ mk_ln (x + 1) = 8) ∧ (x + 2 < 94 ∧ mk_kd (x + 2) = 7 ∧ mk_ln (x + 2) = 8) ∧ (x + 3 < 94 ∧ mk_kd (x + 3) = 7 ∧ mk_ln (x + 3) = 8) := by
  obtain ⟨h1, h2, h3⟩ := mk_kd3 h
  exact ⟨⟨by omega, mk_kdt (by omega) (by omega) (by omega)⟩, ⟨by omega, mk_kdt (by omega) (by omega) (by omega)⟩, ⟨by omega, mk_kdt (by omega) (by omega) (by omega)⟩⟩
def mk_C (p : Program) (s : State) (m : MethodId) (args : Array Value) (meth : Method) (c : Code) (cc : ByteArray) (nL : Nat) (Ts : List Cond) (own : String) (ret : Option FieldType) (D : va_G) (E : mk_E) : Prop :=
  p.tables.exec = Jvm.exec ∧ c.code = cc ∧ c.maxLocals = nL ∧ s.vm.findClass own = some m.cls ∧ (∀ w ∈ Ts, w.before args s = true) ∧ meth.sig.returnType = ret ∧ meth.locks = false ∧ va_K D vwCl (mk_tys E) s ∧ (∀ (M : mk_M) (L : Nat → Int64), va_D (mk_A E) (mk_wl E M L)) ∧ mk_Nst s
abbrev mk_Qi (D : va_G) (E : mk_E) (L : Nat → Int64) (r : Int32) (M : mk_M) : Array Value → State → Outcome → State → Prop := va_Qi (S := Unit) (fun r' _ => r' = r) (fun _ t => va_P D vwCl (mk_wl E M L) t.heap) (mk_A E)
abbrev mk_Qv (D : va_G) (E : mk_E) (L : Nat → Int64) (M : mk_M) : Array Value → State → Outcome → State → Prop := va_Qv (S := Unit) (fun _ => True) (fun _ t => va_P D vwCl (mk_wl E M L) t.heap) (mk_A E)
theorem mk_rc0 {s : State} {H : Heap} {D : va_G} {E : mk_E} {M : mk_M} {L : Nat → Int64} {x : Nat} (hK : va_K D vwCl (mk_tys E) s) (hP : va_P D vwCl (mk_wl E M L) H) (hxx : x < 94) (hk : mk_kd x = 0) : ∃ cell : Cell, H[E.1 x]? = some cell ∧ cell.vm.isStatics = false ∧ s.vm.findClass RX0 = some cell.cls := va_recv hK hP (ci := 0) (q0 := x) rfl (by rw [mk_get E M L hxx, mk_rep_0 hk])
theorem mk_rc1 {s : State} {H : Heap} {D : va_G} {E : mk_E} {M : mk_M} {L : Nat → Int64} {x : Nat} (hK : va_K D vwCl (mk_tys E) s) (hP : va_P D vwCl (mk_wl E M L) H) (hxx : x < 94) (hk : mk_kd x = 1) : ∃ cell : Cell, H[E.1 x]? = some cell ∧ cell.vm.isStatics = false ∧ s.vm.findClass RX1 = some cell.cls := va_recv hK hP (ci := 1) (q0 := x) rfl (by rw [mk_get E M L hxx, mk_rep_1 hk])
theorem mk_rc2 {s : State} {H : Heap} {D : va_G} {E : mk_E} {M : mk_M} {L : Nat → Int64} {x : Nat} (hK : va_K D vwCl (mk_tys E) s) (hP : va_P D vwCl (mk_wl E M L) H) (hxx : x < 94) (hk : mk_kd x = 2) : ∃ cell : Cell, H[E.1 x]? = some cell ∧ cell.vm.isStatics = false ∧ s.vm.findClass RX2 = some cell.cls := va_recv hK hP (ci := 2) (q0 := x) rfl (by rw [mk_get E M L hxx, mk_rep_2 hk])
theorem mk_rc3 {s : State} {H : Heap} {D : va_G} {E : mk_E} {M : mk_M} {L : Nat → Int64} {x : Nat} (hK : va_K D vwCl (mk_tys E) s) (hP : va_P D vwCl (mk_wl E M L) H) (hxx : x < 94) (hk : mk_kd x = 3) : ∃ cell : Cell, H[E.1 x]? = some cell ∧ cell.vm.isStatics = false ∧ s.vm.findClass RX3 = some cell.cls := va_recv hK hP (ci := 3) (q0 := x) rfl (by rw [mk_get E M L hxx, mk_rep_3 hk])
theorem mk_rc4 {s : State} {H : Heap} {D : va_G} {E : mk_E} {M : mk_M} {L : Nat → Int64} {x : Nat} (hK : va_K D vwCl (mk_tys E) s) (hP : va_P D vwCl (mk_wl E M L) H) (hxx : x < 94) (hk : mk_kd x = 4) : ∃ cell : Cell, H[E.1 x]? = some cell ∧ cell.vm.isStatics = false ∧ s.vm.findClass RX4 = some cell.cls := va_recv hK hP (ci := 4) (q0 := x) rfl (by rw [mk_get E M L hxx, mk_rep_4 hk])
theorem mk_rc5 {s : State} {H : Heap} {D : va_G} {E : mk_E} {M : mk_M} {L : Nat → Int64} {x : Nat} (hK : va_K D vwCl (mk_tys E) s) (hP : va_P D vwCl (mk_wl E M L) H) (hxx : x < 94) (hk : mk_kd x = 5) : ∃ cell : Cell, H[E.1 x]? = some cell ∧ cell.vm.isStatics = false ∧ s.vm.findClass RX5 = some cell.cls := va_recv hK hP (ci := 5) (q0 := x) rfl (by rw [mk_get E M L hxx, mk_rep_5 hk])
theorem mk_rc6 {s : State} {H : Heap} {D : va_G} {E : mk_E} {M : mk_M} {L : Nat → Int64} {x : Nat} (hK : va_K D vwCl (mk_tys E) s) (hP : va_P D vwCl (mk_wl E M L) H) (hxx : x < 94) (hk : mk_kd x = 6) : ∃ cell : Cell, H[E.1 x]? = some cell ∧ cell.vm.isStatics = false ∧ s.vm.findClass RX6 = some cell.cls := va_recv hK hP (ci := 6) (q0 := x) rfl (by rw [mk_get E M L hxx, mk_rep_6 hk])
section MKC
variable {p : Program} {l : Launch} {e : Env} {R : Room} {s : State} {m : MethodId} {args : Array Value} {below : List Frame} {meth : Method} {c : Code} {H : Heap} {locs : List Loc} {cells slots : Nat} {Q : State → Prop}
variable {cc : ByteArray} {pc : Nat} {ls : Array Slot} {rest : List Value} {D : va_G} {E : mk_E} {M : mk_M} {L : Nat → Int64} {H0 : Heap} {own : String} {index : Nat} {x y : Nat}
theorem mk_cp (hx : p.tables.exec = Jvm.exec) (hb : c.code = cc) (hml : c.maxLocals = ls.size) (hown : s.vm.findClass own = some m.cls) (hlink : (Cond.methodLink own index arraycopyName).before args s = true) (hnat : (Cond.native arraycopyName).before args s = true) (hstat : (Cond.static arraycopyName).before args s = true) (hini : (Cond.initialized "java/lang/System").before args s = true)
    (hK : va_K D vwCl (mk_tys E) s) (hP : va_P D vwCl (mk_wl E M L) H) (hD : va_D (mk_A E) (mk_wl E M L)) (hS : va_S (mk_A E) H0 H locs) (hxx : x < 94) (hkx : mk_kd x = 7) (hlx : mk_ln x = 12) (hyy : y < 94) (hky : mk_kd y = 7) (hly : mk_ln y = 12)
    (hframes : 1 ≤ R.frames) (hlocals : (rest.map fun v => v.category).sum + (nativeFrameWords "java/lang/System" "arraycopy" 5 + 11) ≤ R.locals) (hdg : decode cc pc = .ok (.invokestatic index, 3))
    (kk : ∀ (H1 : Heap) (locs1 : List Loc), va_P D vwCl (mk_wl E (mk_sr M y (va_cpy (M x) (M y) 0 0 12)) L) H1 → va_S (mk_A E) H0 H1 locs1 → W p l e R s m args below meth c H1 locs1 cells slots Q (F0 m (pc + 3) ls rest)) : W p l e R s m args below meth c H locs cells slots Q (F0 m pc ls (.int 12 :: .int 0 :: .ref (E.1 y) :: .int 0 :: .ref (E.1 x) :: rest)) := by
  refine va_copyi (ty := .int) hx hb hml hown hlink hnat hstat hini hK hP hD hS x y 0 0 (by rw [mk_get E M L hxx, mk_rep_7 hkx]) (by rw [mk_get E M L hyy, mk_rep_7 hky]) rfl rfl rfl (by decide) (by decide) (by decide) (by rw [hlx]; decide) (by rw [hly]; decide) (fun i hi => rfl) hframes hlocals hdg (fun H1 locs1 hP1 _ hS1 => kk H1 locs1 ?_ hS1)
  rw [← mk_set (M := M) (M2 := mk_sr M y (va_cpy (M x) (M y) 0 0 12)) (L := L) (L2 := L) hyy (by rw [mk_rep_7 hky, mk_sr_row]) (fun z hz => mk_rep_congr E L (mk_sr_off M y _ hz))]
  exact hP1
end MKC
end
