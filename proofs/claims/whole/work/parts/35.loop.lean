def R_law : String := "MixedKernelLaw"
def lw_P (b : Addr) (xs : List Int32) (args : Array Value) (s : State) : Prop := args = #[.ref b] ∧ s.IntsAt b xs ∧ xs.length ≤ 3072 ∧ (Jvm.Cond.and given_1 narrow_1).before args s = true
def lw_Q (_ : Array Value) (s : State) (o : Outcome) (t : State) : Prop := o = .returned (some (.int 1)) ∧ Framed s o t [] 601024 7293034
def lw_Z (below : List Frame) (a : Array Value) (s : State) : State → Prop := fun t => ∃ o, t.status = .running ∧ Ended t below o ∧ lw_Q a s o t
/-- the law's own end, with 1 on the stack, nothing written that was there before, its room as the claim has it -/
theorem lw_ret {p : Program} {l : Launch} {e : Env} {s : State} {m : MethodId} {below : List Frame} {meth : Method} {c : Code} {b : Nat} (hx : p.tables.exec = Jvm.exec) (hb : c.code = code) (hr : meth.sig.returnType = ret) (hlocks : meth.locks = false) {pc : Nat} {H : Heap} {ls : Array Slot} (hdg : decode code pc = .ok (.ireturn, 1)) : W p l e room_1 s m #[Value.ref b] below meth c H [] 601024 7293034 (lw_Z below #[Value.ref b] s) (F0 m pc ls [.int 1]) := by
  intro T hT X
  obtain ⟨fs, hret, hrun, hended, hW, hframe⟩ := X.leave (v := some (.int 1)) (hlocks := hlocks) (fun h => by rw [hr] at h; cases h)
  have hmeth' : T.vm.method? m = some meth := X.method'
  refine ⟨T.setFrames fs, ?_, .returned (some (.int 1)), hrun, hended, rfl, ⟨_, rfl⟩, hW, hframe⟩
  jvm_step X.here [X.here.top, hx, hb, hdg, hmeth', hr, ret, narrow_b1]
  (try refine ⟨rfl, ?_⟩); (try refine ⟨rfl, ?_⟩)
  first | (intro acts; rw [hret _ acts rfl rfl rfl]) | rw [hret _ _ rfl rfl rfl]
  exact Steps.refl _
/-- what holds at the law's entry: the machine, the code, the tables' words (any of lw_tbl by 'hts w (by decide +kernel)'), the script of L ints xs at the cell b, what the Statement gives of the start (any of its parts by flat_of_before) -/
def lw_At (p : Program) (s : State) (m : MethodId) (meth : Method) (c : Code) (b L : Nat) (xs : Nat → Int32) : Prop :=
  p.tables.exec = Jvm.exec ∧ c.code = code ∧ meth.sig.returnType = ret ∧ c.maxLocals = 7 ∧ s.vm.findClass R_law = some m.cls ∧ (∀ w ∈ lw_tbl, w.before #[Value.ref b] s = true) ∧ va_X b L xs s s.heap ∧ b < s.heap.size ∧ meth.locks = false ∧ (Jvm.Cond.and given_1 narrow_1).before #[Value.ref b] s = true
/-! what the pure part owes: an invariant of the memory that each of the thirteen calls keeps, and under which the class and the reference answer alike -/
def mk_S0 (I : Nat → mk_M → Prop) : Prop := ∀ (n : Nat) (M : mk_M) (a1 a2 a3 a4 a5 : Int32), n < 512 → I n M → ∃ (q : (Nat × Int32) × mk_M) (r : Int32 × mk_M), f_X5_add a1 a2 a3 a4 a5 M = some q ∧ (q.1.1 = 0 ∨ q.1.1 = 1 ∨ q.1.1 = 2) ∧ f_X6_add a1 a2 a3 a4 a5 q.2 = some r ∧ r.2 68 0 = fc_L_add q ∧ (fc_L_add q = 0 → q.1.2 = r.1) ∧ I (n + 1) r.2
def mk_S1 (I : Nat → mk_M → Prop) : Prop := ∀ (n : Nat) (M : mk_M) (a1 : Int32), n < 512 → I n M → ∃ (q : (Nat × Int32) × mk_M) (r : Int32 × mk_M), f_X5_remove a1 M = some q ∧ (q.1.1 = 0 ∨ q.1.1 = 3 ∨ q.1.1 = 2) ∧ f_X6_remove a1 q.2 = some r ∧ r.2 68 0 = fc_L_remove q ∧ (fc_L_remove q = 0 → (q.1.2 = 0 ↔ r.1 = 0)) ∧ I (n + 1) r.2
def mk_S2 (I : Nat → mk_M → Prop) : Prop := ∀ (n : Nat) (M : mk_M) (a1 a2 : Int32), n < 512 → I n M → ∃ (q : (Nat × Int32) × mk_M) (r : Int32 × mk_M), f_X5_release a1 a2 M = some q ∧ (q.1.1 = 0 ∨ q.1.1 = 3 ∨ q.1.1 = 1 ∨ q.1.1 = 2) ∧ f_X6_release a1 a2 q.2 = some r ∧ r.2 68 0 = fc_L_release q ∧ (fc_L_release q = 0 → q.1.2 = r.1) ∧ I (n + 1) r.2
def mk_S3 (I : Nat → mk_M → Prop) : Prop := ∀ (n : Nat) (M : mk_M), n < 512 → I n M → ∃ q r : Int32 × mk_M, f_X5_tick M = some q ∧ f_X6_tick q.2 = some r ∧ q.1 = r.1 ∧ I (n + 1) r.2
def mk_S4 (I : Nat → mk_M → Prop) : Prop := ∀ (n : Nat) (M : mk_M) (a1 : Int32), n < 512 → I n M → ∃ (q : (Nat × Int32) × mk_M) (r : Int32 × mk_M), f_X5_run a1 M = some q ∧ (q.1.1 = 0 ∨ q.1.1 = 1) ∧ f_X6_run a1 q.2 = some r ∧ r.2 68 0 = fc_L_run q ∧ (fc_L_run q = 0 → q.1.2 = r.1) ∧ I (n + 1) r.2
def mk_S5 (I : Nat → mk_M → Prop) : Prop := ∀ (n : Nat) (M : mk_M), n < 512 → I n M → ∃ q r : Int32 × mk_M, f_X5_assign M = some q ∧ f_X6_assign q.2 = some r ∧ q.1 = r.1 ∧ I (n + 1) r.2
def mk_S6 (I : Nat → mk_M → Prop) : Prop := ∀ (n : Nat) (M : mk_M) (a1 a2 : Int32), n < 512 → I n M → ∃ (q : (Nat × Int32) × mk_M) (r : Int32 × mk_M), f_X5_response a1 a2 M = some q ∧ (q.1.1 = 0 ∨ q.1.1 = 3 ∨ q.1.1 = 1) ∧ f_X6_response a1 a2 q.2 = some r ∧ r.2 68 0 = fc_L_response q ∧ (fc_L_response q = 0 → q.1.2 = r.1) ∧ I (n + 1) r.2
def mk_S7 (I : Nat → mk_M → Prop) : Prop := ∀ (n : Nat) (M : mk_M) (a1 a2 : Int32), n < 512 → I n M → ∃ (q : (Nat × Int32) × mk_M) (r : Int32 × mk_M), f_X5_ended a1 a2 M = some q ∧ (q.1.1 = 0 ∨ q.1.1 = 3) ∧ f_X6_ended a1 a2 q.2 = some r ∧ r.2 68 0 = fc_L_ended q ∧ (fc_L_ended q = 0 → q.1.2 = r.1) ∧ I (n + 1) r.2
def mk_S8 (I : Nat → mk_M → Prop) : Prop := ∀ (n : Nat) (M : mk_M) (a1 a2 : Int32), n < 512 → I n M → ∃ (q : (Nat × Int32) × mk_M) (r : Int32 × mk_M), f_X5_about a1 a2 M = some q ∧ (q.1.1 = 0 ∨ q.1.1 = 3 ∨ q.1.1 = 1) ∧ f_X6_about a1 a2 q.2 = some r ∧ r.2 68 0 = fc_L_about q ∧ (fc_L_about q = 0 → q.1.2 = r.1) ∧ I (n + 1) r.2
def mk_S9 (I : Nat → mk_M → Prop) : Prop := ∀ (n : Nat) (M : mk_M) (a1 a2 : Int32), n < 512 → I n M → ∃ (q : (Nat × Int32) × mk_M) (r : Int32 × mk_M), f_X5_witness a1 a2 M = some q ∧ (q.1.1 = 0 ∨ q.1.1 = 3 ∨ q.1.1 = 1) ∧ f_X6_witness a1 a2 q.2 = some r ∧ r.2 68 0 = fc_L_witness q ∧ (fc_L_witness q = 0 → q.1.2 = r.1) ∧ I (n + 1) r.2
def mk_S10 (I : Nat → mk_M → Prop) : Prop := ∀ (n : Nat) (M : mk_M) (a1 : Int32), n < 512 → I n M → ∃ (q : (Nat × Int32) × mk_M) (r : Int32 × mk_M), f_X5_trace a1 M = some q ∧ (q.1.1 = 0 ∨ q.1.1 = 3) ∧ f_X6_trace a1 q.2 = some r ∧ r.2 68 0 = fc_L_trace q ∧ (fc_L_trace q = 0 → q.1.2 = r.1) ∧ I (n + 1) r.2
def mk_S11 (I : Nat → mk_M → Prop) : Prop := ∀ (n : Nat) (M : mk_M) (a1 : Int32), n < 512 → I n M → ∃ (q : (Nat × Int32) × mk_M) (r : Int32 × mk_M), f_X5_changed a1 M = some q ∧ (q.1.1 = 0 ∨ q.1.1 = 3) ∧ f_X6_changed a1 q.2 = some r ∧ r.2 68 0 = fc_L_changed q ∧ (fc_L_changed q = 0 → q.1.2 = r.1) ∧ I (n + 1) r.2
def mk_S12 (I : Nat → mk_M → Prop) : Prop := ∀ (n : Nat) (M : mk_M) (a1 : Int32), n < 512 → I n M → ∃ (q : (Nat × Int32) × mk_M) (r : Int32 × mk_M), f_X5_count a1 M = some q ∧ (q.1.1 = 0 ∨ q.1.1 = 1) ∧ f_X6_count a1 q.2 = some r ∧ r.2 68 0 = fc_L_count q ∧ (fc_L_count q = 0 → q.1.2 = r.1) ∧ I (n + 1) r.2
def mk_Step (I : Nat → mk_M → Prop) : Prop := (∀ (n : Nat) (M : mk_M), n < 512 → I n M → I (n + 1) M) ∧ mk_S0 I ∧ mk_S1 I ∧ mk_S2 I ∧ mk_S3 I ∧ mk_S4 I ∧ mk_S5 I ∧ mk_S6 I ∧ mk_S7 I ∧ mk_S8 I ∧ mk_S9 I ∧ mk_S10 I ∧ mk_S11 I ∧ mk_S12 I
theorem law_lt {Ln n : Nat} (hL : Ln ≤ 3072) (hn : n ≤ 513) (h : Ln < 6 * n + 6) : Int32.ofNat Ln - 6 < nI (6 * n) := by
  have e1 : (nI Ln - nI 6).toInt = (Ln : Int) - 6 := pk_sub_toInt (by omega) (by omega)
  rw [Int32.lt_iff_toInt_lt, nI_toInt (by omega)]
  rw [show Int32.ofNat Ln - 6 = nI Ln - nI 6 from rfl, e1]
  omega
theorem law_ge {Ln n : Nat} (hL : Ln ≤ 3072) (hn : n ≤ 513) (h : ¬ Int32.ofNat Ln - 6 < nI (6 * n)) : 6 * n + 6 ≤ Ln := by
  rcases Nat.lt_or_ge Ln (6 * n + 6) with q | q
  · exact absurd (law_lt hL hn q) h
  · exact q
set_option maxHeartbeats 8000000 in
theorem law_end {p : Program} {l : Launch} {e : Env} {s : State} {m : MethodId} {below : List Frame} {meth : Method} {c : Code} {b : Nat} (hx : p.tables.exec = Jvm.exec) (hb : c.code = cL_law) (hr : meth.sig.returnType = ret) (hlk : meth.locks = false) {E : mk_E} (hE : ∀ q, mk_A E q → s.heap.size ≤ q) {H : Heap} {locs : List Loc} {ls : Array Slot} {cells slots : Nat} (hS : va_S (mk_A E) s.heap H locs) (h1 : cells ≤ 601024) (h2 : slots ≤ 7293034) : W p l e room_1 s m #[Value.ref b] below meth c H locs cells slots (lw_Z below #[Value.ref b] s) (F0 m 871 ls []) := by
  refine lv_iconst (v := 1) hx hb dL_law_871 (by decide) ?_
  refine va_forget (fun q hq => hE _ (hS.2.2 q hq)) ?_
  refine W.widen (k := 601024) (n := 7293034) h1 h2 ?_
  exact lw_ret hx hb hr hlk dL_law_872
set_option maxHeartbeats 8000000 in
set_option maxRecDepth 100000 in
theorem law_loop {p : Program} {l : Launch} {e : Env} {s : State} {m : MethodId} {below : List Frame} {meth : Method} {c : Code} {b Ln : Nat} {xs : Nat → Int32} (hLn : Ln ≤ 3072) (hx : p.tables.exec = Jvm.exec) (hb : c.code = cL_law) (hr : meth.sig.returnType = ret) (hlk : meth.locks = false) (hml : c.maxLocals = 7) (hown : s.vm.findClass RL = some m.cls) (hts : ∀ w ∈ wsL_law, w.before #[Value.ref b] s = true) (hst : l.stackTraces = false) (hX : va_X b Ln xs s s.heap) (hbl : b < s.heap.size) {D : va_G} {E : mk_E} (hbA : ¬ mk_A E b) (hE : ∀ q, mk_A E q → s.heap.size ≤ q) (hK : va_K D vwCl (mk_tys E) s) (hD : ∀ (M : mk_M) (L : Nat → Int64), va_D (mk_A E) (mk_wl E M L)) (hN : mk_Nst s) (hT : mk_T E s) (hC : mk_NC s) {I : Nat → mk_M → Prop} (hI : mk_Step I) : ∀ (d n : Nat), n + d = 513 → ∀ (M : mk_M) (L : Nat → Int64) (H : Heap) (locs : List Loc) (ls : Array Slot), I n M → va_P D vwCl (mk_wl E M L) H → va_S (mk_A E) s.heap H locs → lv_has ls 7 [(0, .ref b), (1, .ref (E.1 0)), (2, .ref (E.1 68)), (3, .ref (E.1 93)), (4, .int (nI (6 * n)))] → W p l e room_1 s m #[Value.ref b] below meth c H locs (94 + n) (1809 + 6 * n) (lw_Z below #[Value.ref b] s) (F0 m 23 ls []) := by
  intro d
  induction d with
  | zero =>
    intro n hn M L H locs ls hM hP hS hl
    refine lv_iload hx hb dL_law_23 (lv_at hl 4 rfl) ?_
    refine lv_aload_n hx hb dL_law_25 rfl (lv_at hl 0 rfl) ?_
    refine va_slen hx hb hX hbl hbA hS dL_law_26 ?_
    refine lv_bipush (v := 6) hx hb dL_law_27 (by decide) ?_
    refine lv_isub hx hb dL_law_29 ?_
    refine lv_icmp_gt (tgt := 871) hx hb dL_law_30 (by decide) (fun _ => ?_) (fun h => absurd (law_lt (Ln := Ln) (n := n) (by omega) (by omega) (by omega)) h)
    exact law_end hx hb hr hlk hE hS (by omega) (by omega)
  | succ d ih =>
    intro n hn M L H locs ls hM hP hS hl
    refine lv_iload hx hb dL_law_23 (lv_at hl 4 rfl) ?_
    refine lv_aload_n hx hb dL_law_25 rfl (lv_at hl 0 rfl) ?_
    refine va_slen hx hb hX hbl hbA hS dL_law_26 ?_
    refine lv_bipush (v := 6) hx hb dL_law_27 (by decide) ?_
    refine lv_isub hx hb dL_law_29 ?_
    refine lv_icmp_gt (tgt := 871) hx hb dL_law_30 (by decide) (fun _ => ?_) (fun c0 => ?_)
    · exact law_end hx hb hr hlk hE hS (by omega) (by omega)
    · have hlt : 6 * n + 6 ≤ Ln := law_ge (by omega) (by omega) c0
      have hn5 : n < 512 := by omega
      have hi0 : vp_in (nI (6 * n)) Ln := by exact vp_in_nI (by omega) (by omega)
      have hi1 : vp_in (nI (6 * n) + 1) Ln := by rw [show nI (6 * n) + 1 = nI (6 * n + 1) from nI_add (6 * n) 1]; exact vp_in_nI (by omega) (by omega)
      have hi2 : vp_in (nI (6 * n) + 2) Ln := by rw [show nI (6 * n) + 2 = nI (6 * n + 2) from nI_add (6 * n) 2]; exact vp_in_nI (by omega) (by omega)
      have hi3 : vp_in (nI (6 * n) + 3) Ln := by rw [show nI (6 * n) + 3 = nI (6 * n + 3) from nI_add (6 * n) 3]; exact vp_in_nI (by omega) (by omega)
      have hi4 : vp_in (nI (6 * n) + 4) Ln := by rw [show nI (6 * n) + 4 = nI (6 * n + 4) from nI_add (6 * n) 4]; exact vp_in_nI (by omega) (by omega)
      have hi5 : vp_in (nI (6 * n) + 5) Ln := by rw [show nI (6 * n) + 5 = nI (6 * n + 5) from nI_add (6 * n) 5]; exact vp_in_nI (by omega) (by omega)
      have go : ∀ (M : mk_M) (L : Nat → Int64) (H : Heap) (locs : List Loc) (ls : Array Slot), I (n + 1) M → va_P D vwCl (mk_wl E M L) H → va_S (mk_A E) s.heap H locs → lv_has ls 7 [(0, .ref b), (1, .ref (E.1 0)), (2, .ref (E.1 68)), (3, .ref (E.1 93)), (4, .int (nI (6 * n)))] → W p l e room_1 s m #[Value.ref b] below meth c H locs (94 + n + 1) (1809 + 6 * n + 6) (lw_Z below #[Value.ref b] s) (F0 m 865 ls []) := by
        intro M L H locs ls hM hP hS hl
        refine lv_iinc (v := nI (6 * n) + 6) (lv' := [(4, .int (nI (6 * n) + 6)), (0, .ref b), (1, .ref (E.1 0)), (2, .ref (E.1 68)), (3, .ref (E.1 93))]) hx hb dL_law_865 hl (k := 4) rfl rfl (by decide) rfl (fun ls hl => ?_)
        refine lv_goto (tgt := 23) hx hb dL_law_868 (by decide) ?_
        rw [show nI (6 * n) + 6 = nI (6 * (n + 1)) from nI_add (6 * n) 6] at hl
        refine W.widen (k := 94 + (n + 1)) (n := 1809 + 6 * (n + 1)) (by omega) (by omega) ?_
        exact ih (n + 1) (by omega) M L H locs ls hM hP hS (lv_sub hl [1, 2, 3, 4, 0] rfl)
      refine lv_aload_n hx hb dL_law_33 rfl (lv_at hl 0 rfl) ?_
      refine lv_iload hx hb dL_law_34 (lv_at hl 4 rfl) ?_
      refine va_sld hx hb hX hbl hbA hS hi0 dL_law_36 ?_
      refine lv_bipush (v := 15) hx hb dL_law_37 (by decide) ?_
      refine lv_iand hx hb dL_law_39 ?_
      refine lv_topi (fun y ey => ?_)
      clear ey
      by_cases c1 : y = 0
      · subst c1
        obtain ⟨q, r, h1, hq, h2, h3, h4, h5⟩ := hI.2.1 n M (xs (nI (6 * n) + 1).toNatClampNeg) (xs (nI (6 * n) + 2).toNatClampNeg) (xs (nI (6 * n) + 3).toNatClampNeg) (xs (nI (6 * n) + 4).toNatClampNeg) (xs (nI (6 * n) + 5).toNatClampNeg) hn5 hM
        refine lv_tableIn (x := 0) (tgt := 108) hx hb dL_law_40 (by decide) (by decide) rfl (by decide) ?_
        exact lc_0 hx hb hml hown hts hst hX hbl hbA hK hD hN hT hC (by omega) (by omega) hi1 hi2 hi3 hi4 hi5 h1 hq h2 h3 h4 hP hS hl (fun H locs ls hP hS hl => go _ _ H locs ls h5 hP hS hl)
      by_cases c2 : y = 1
      · subst c2
        obtain ⟨q, r, h1, hq, h2, h3, h4, h5⟩ := hI.2.2.1 n M (xs (nI (6 * n) + 1).toNatClampNeg) hn5 hM
        refine lv_tableIn (x := 1) (tgt := 212) hx hb dL_law_40 (by decide) (by decide) rfl (by decide) ?_
        exact lc_1 hx hb hml hown hts hst hX hbl hbA hK hD hN hT hC (by omega) (by omega) hi1 h1 hq h2 h3 h4 hP hS hl (fun H locs ls hP hS hl => go _ _ H locs ls h5 hP hS hl)
      by_cases c3 : y = 2
      · subst c3
        obtain ⟨q, r, h1, hq, h2, h3, h4, h5⟩ := hI.2.2.2.1 n M (xs (nI (6 * n) + 1).toNatClampNeg) (xs (nI (6 * n) + 2).toNatClampNeg) hn5 hM
        refine lv_tableIn (x := 2) (tgt := 275) hx hb dL_law_40 (by decide) (by decide) rfl (by decide) ?_
        exact lc_2 hx hb hml hown hts hst hX hbl hbA hK hD hN hT hC (by omega) (by omega) hi1 hi2 h1 hq h2 h3 h4 hP hS hl (fun H locs ls hP hS hl => go _ _ H locs ls h5 hP hS hl)
      by_cases c4 : y = 3
      · subst c4
        obtain ⟨q, r, h1, h2, h3, h4⟩ := hI.2.2.2.2.1 n M hn5 hM
        refine lv_tableIn (x := 3) (tgt := 343) hx hb dL_law_40 (by decide) (by decide) rfl (by decide) ?_
        exact lc_3 hx hb hml hown hts hst hX hbl hbA hK hD hN hT hC (by omega) (by omega) h1 h2 h3 hP hS hl (fun H locs ls hP hS hl => go _ _ H locs ls h4 hP hS hl)
      by_cases c5 : y = 4
      · subst c5
        obtain ⟨q, r, h1, hq, h2, h3, h4, h5⟩ := hI.2.2.2.2.2.1 n M (xs (nI (6 * n) + 1).toNatClampNeg) hn5 hM
        refine lv_tableIn (x := 4) (tgt := 356) hx hb dL_law_40 (by decide) (by decide) rfl (by decide) ?_
        exact lc_4 hx hb hml hown hts hst hX hbl hbA hK hD hN hT hC (by omega) (by omega) hi1 h1 hq h2 h3 h4 hP hS hl (fun H locs ls hP hS hl => go _ _ H locs ls h5 hP hS hl)
      by_cases c6 : y = 5
      · subst c6
        obtain ⟨q, r, h1, h2, h3, h4⟩ := hI.2.2.2.2.2.2.1 n M hn5 hM
        refine lv_tableIn (x := 5) (tgt := 412) hx hb dL_law_40 (by decide) (by decide) rfl (by decide) ?_
        exact lc_5 hx hb hml hown hts hst hX hbl hbA hK hD hN hT hC (by omega) (by omega) h1 h2 h3 hP hS hl (fun H locs ls hP hS hl => go _ _ H locs ls h4 hP hS hl)
      by_cases c7 : y = 6
      · subst c7
        obtain ⟨q, r, h1, hq, h2, h3, h4, h5⟩ := hI.2.2.2.2.2.2.2.1 n M (xs (nI (6 * n) + 1).toNatClampNeg) (xs (nI (6 * n) + 2).toNatClampNeg) hn5 hM
        refine lv_tableIn (x := 6) (tgt := 425) hx hb dL_law_40 (by decide) (by decide) rfl (by decide) ?_
        exact lc_6 hx hb hml hown hts hst hX hbl hbA hK hD hN hT hC (by omega) (by omega) hi1 hi2 h1 hq h2 h3 h4 hP hS hl (fun H locs ls hP hS hl => go _ _ H locs ls h5 hP hS hl)
      by_cases c8 : y = 7
      · subst c8
        obtain ⟨q, r, h1, hq, h2, h3, h4, h5⟩ := hI.2.2.2.2.2.2.2.2.1 n M (xs (nI (6 * n) + 1).toNatClampNeg) (xs (nI (6 * n) + 2).toNatClampNeg) hn5 hM
        refine lv_tableIn (x := 7) (tgt := 493) hx hb dL_law_40 (by decide) (by decide) rfl (by decide) ?_
        exact lc_7 hx hb hml hown hts hst hX hbl hbA hK hD hN hT hC (by omega) (by omega) hi1 hi2 h1 hq h2 h3 h4 hP hS hl (fun H locs ls hP hS hl => go _ _ H locs ls h5 hP hS hl)
      by_cases c9 : y = 8
      · subst c9
        obtain ⟨q, r, h1, hq, h2, h3, h4, h5⟩ := hI.2.2.2.2.2.2.2.2.2.1 n M (xs (nI (6 * n) + 1).toNatClampNeg) (xs (nI (6 * n) + 2).toNatClampNeg) hn5 hM
        refine lv_tableIn (x := 8) (tgt := 561) hx hb dL_law_40 (by decide) (by decide) rfl (by decide) ?_
        exact lc_8 hx hb hml hown hts hst hX hbl hbA hK hD hN hT hC (by omega) (by omega) hi1 hi2 h1 hq h2 h3 h4 hP hS hl (fun H locs ls hP hS hl => go _ _ H locs ls h5 hP hS hl)
      by_cases c10 : y = 9
      · subst c10
        obtain ⟨q, r, h1, hq, h2, h3, h4, h5⟩ := hI.2.2.2.2.2.2.2.2.2.2.1 n M (xs (nI (6 * n) + 1).toNatClampNeg) (xs (nI (6 * n) + 2).toNatClampNeg) hn5 hM
        refine lv_tableIn (x := 9) (tgt := 629) hx hb dL_law_40 (by decide) (by decide) rfl (by decide) ?_
        exact lc_9 hx hb hml hown hts hst hX hbl hbA hK hD hN hT hC (by omega) (by omega) hi1 hi2 h1 hq h2 h3 h4 hP hS hl (fun H locs ls hP hS hl => go _ _ H locs ls h5 hP hS hl)
      by_cases c11 : y = 10
      · subst c11
        obtain ⟨q, r, h1, hq, h2, h3, h4, h5⟩ := hI.2.2.2.2.2.2.2.2.2.2.2.1 n M (xs (nI (6 * n) + 1).toNatClampNeg) hn5 hM
        refine lv_tableIn (x := 10) (tgt := 697) hx hb dL_law_40 (by decide) (by decide) rfl (by decide) ?_
        exact lc_10 hx hb hml hown hts hst hX hbl hbA hK hD hN hT hC (by omega) (by omega) hi1 h1 hq h2 h3 h4 hP hS hl (fun H locs ls hP hS hl => go _ _ H locs ls h5 hP hS hl)
      by_cases c12 : y = 11
      · subst c12
        obtain ⟨q, r, h1, hq, h2, h3, h4, h5⟩ := hI.2.2.2.2.2.2.2.2.2.2.2.2.1 n M (xs (nI (6 * n) + 1).toNatClampNeg) hn5 hM
        refine lv_tableIn (x := 11) (tgt := 753) hx hb dL_law_40 (by decide) (by decide) rfl (by decide) ?_
        exact lc_11 hx hb hml hown hts hst hX hbl hbA hK hD hN hT hC (by omega) (by omega) hi1 h1 hq h2 h3 h4 hP hS hl (fun H locs ls hP hS hl => go _ _ H locs ls h5 hP hS hl)
      by_cases c13 : y = 12
      · subst c13
        obtain ⟨q, r, h1, hq, h2, h3, h4, h5⟩ := hI.2.2.2.2.2.2.2.2.2.2.2.2.2 n M (xs (nI (6 * n) + 1).toNatClampNeg) hn5 hM
        refine lv_tableIn (x := 12) (tgt := 809) hx hb dL_law_40 (by decide) (by decide) rfl (by decide) ?_
        exact lc_12 hx hb hml hown hts hst hX hbl hbA hK hD hN hT hC (by omega) (by omega) hi1 h1 hq h2 h3 h4 hP hS hl (fun H locs ls hP hS hl => go _ _ H locs ls h5 hP hS hl)
      have e1 := lv_neT (k := 0) (a := 0) c1 rfl
      have e2 := lv_neT (k := 1) (a := 1) c2 rfl
      have e3 := lv_neT (k := 2) (a := 2) c3 rfl
      have e4 := lv_neT (k := 3) (a := 3) c4 rfl
      have e5 := lv_neT (k := 4) (a := 4) c5 rfl
      have e6 := lv_neT (k := 5) (a := 5) c6 rfl
      have e7 := lv_neT (k := 6) (a := 6) c7 rfl
      have e8 := lv_neT (k := 7) (a := 7) c8 rfl
      have e9 := lv_neT (k := 8) (a := 8) c9 rfl
      have e10 := lv_neT (k := 9) (a := 9) c10 rfl
      have e11 := lv_neT (k := 10) (a := 10) c11 rfl
      have e12 := lv_neT (k := 11) (a := 11) c12 rfl
      have e13 := lv_neT (k := 12) (a := 12) c13 rfl
      refine lv_tableOut (x := y) (tgt := 865) hx hb dL_law_40 (by omega) (by decide) ?_
      refine W.widen (k := 94 + n + 1) (n := 1809 + 6 * n + 6) (by omega) (by omega) ?_
      exact go M L H locs ls (hI.1 n M hn5 hM) hP hS hl
