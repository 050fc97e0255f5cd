abbrev rm_X4_workAhead : Room := { frames := 1, cells := 0, slots := 0, locals := 21 }
theorem in_X4_workAhead_X1 : ∀ w ∈ wsX10, w ∈ wsX4_workAhead := by decide +kernel
theorem in_X4_workAhead_X3 : ∀ w ∈ wsX30, w ∈ wsX4_workAhead := by decide +kernel
theorem in_X4_workAhead_X4 : ∀ w ∈ wsX40, w ∈ wsX4_workAhead := by decide +kernel
def f_X4_workAhead_6 (x1 : Nat) : Nat → Int32 → Int32 → Int32 → Int32 → Int32 → Int32 → mk_M → Option (Int32)
  | 0, _, _, _, _, _, _, _ => none
  | n + 1, l2, l3, l4, l5, l6, l7, M => (if l3 < l7 then (some l6) else (if l7 = l2 then (f_X4_workAhead_6 x1 n l2 l3 l4 l5 l6 (l7 + 1) M) else (if mk_ob l7 12 then none else (if mk_ob (M (x1+1) (l7).toNatClampNeg) 13 then none else ((f_X5_releasesWithin l4 (M (16 + 4 * (M (x1+1) (l7).toNatClampNeg).toNatClampNeg) 0) M).bind (fun r_8 => ((f_X3_budgetAmong (16 + 4 * (M (x1+1) (l7).toNatClampNeg).toNatClampNeg) l5 M).bind (fun r_10 => (f_X4_workAhead_6 x1 n l2 l3 l4 l5 (l6 + (r_8 * r_10)) (l7 + 1) M)))))))))
set_option maxHeartbeats 4000000 in
set_option maxRecDepth 100000 in
theorem w_X4_workAhead_6 {p : Program} {l : Launch} {e : Env} {s : State} {m : MethodId} {args : Array Value} {below : List Frame} {meth : Method} {c : Code} {D : va_G} {E : mk_E} {L : Nat → Int64} (C0 : mk_C p s m args meth c cX4_workAhead 9 wsX4_workAhead RX4 (some .int) D E) (x1 : Nat) (hx_x1 : x1 < 94) (hk_x1 : mk_kd x1 = 1) : ∀ n : Nat, ∀ (l2 : Int32) (l3 : Int32) (l4 : Int32) (l5 : Int32) (l6 : Int32) (l7 : Int32) (M : mk_M) (q : Int32), f_X4_workAhead_6 x1 n l2 l3 l4 l5 l6 l7 M = some q → ∀ (H : Heap) (locs : List Loc) (ls : Array Slot), va_P D vwCl (mk_wl E M L) H → va_S (mk_A E) s.heap H locs → lv_has ls 9 [(0, .ref (E.1 1)), (1, .ref (E.1 x1)), (2, .int l2), (3, .int l3), (4, .int l4), (5, .int l5), (6, .int l6), (7, .int l7)] → W p l e rm_X4_workAhead s m args below meth c H locs 0 0 (MQ below (mk_Qi D E L q M) args s 0 0 (mk_A E)) (F0 m 6 ls []) := by
  obtain ⟨hx, hb, hml, hown, hts, hr, hlk, hK, hD, hN⟩ := id C0
  have ha_x1 := mk_s1 hk_x1
  intro n
  induction n with
  | zero =>
    intro l2 l3 l4 l5 l6 l7 M q h
    cases h
  | succ n ih =>
    intro l2 l3 l4 l5 l6 l7 M q h H locs ls hP hS hl
    replace h : (if l3 < l7 then (some l6) else (if l7 = l2 then (f_X4_workAhead_6 x1 n l2 l3 l4 l5 l6 (l7 + 1) M) else (if mk_ob l7 12 then none else (if mk_ob (M (x1+1) (l7).toNatClampNeg) 13 then none else ((f_X5_releasesWithin l4 (M (16 + 4 * (M (x1+1) (l7).toNatClampNeg).toNatClampNeg) 0) M).bind (fun r_8 => ((f_X3_budgetAmong (16 + 4 * (M (x1+1) (l7).toNatClampNeg).toNatClampNeg) l5 M).bind (fun r_10 => (f_X4_workAhead_6 x1 n l2 l3 l4 l5 (l6 + (r_8 * r_10)) (l7 + 1) M))))))))) = some q := h
    refine lv_iload hx hb dX4_workAhead_6 (lv_at hl 7 rfl) ?_
    refine lv_iload_n hx hb dX4_workAhead_8 rfl (lv_at hl 3 rfl) ?_
    refine lv_icmp_gt (tgt := 61) hx hb dX4_workAhead_9 (by decide) (fun c_1 => ?_) (fun c_1 => ?_)
    · replace h := (if_pos c_1).symm.trans h
      refine lv_iload hx hb dX4_workAhead_61 (lv_at hl 6 rfl) ?_
      replace h := Option.some.inj h
      subst q
      exact W.iret (v := l6) hx hb hr (fun t ht hW => ⟨⟨_, (), rfl, rfl, by rw [← ht] at hP; exact hP⟩, hS.F ht⟩) hS.2.2 dX4_workAhead_63
    · replace h := (if_neg c_1).symm.trans h
      refine lv_iload hx hb dX4_workAhead_12 (lv_at hl 7 rfl) ?_
      refine lv_iload_n hx hb dX4_workAhead_14 rfl (lv_at hl 2 rfl) ?_
      refine lv_icmp_eq (tgt := 55) hx hb dX4_workAhead_15 (by decide) (fun c_2 => ?_) (fun c_2 => ?_)
      · replace h := (if_pos c_2).symm.trans h
        refine lv_iinc (v := l7 + 1) (lv' := [(7, .int (l7 + 1)), (0, .ref (E.1 1)), (1, .ref (E.1 x1)), (2, .int l2), (3, .int l3), (4, .int l4), (5, .int l5), (6, .int l6)]) hx hb dX4_workAhead_55 hl (k := 7) rfl rfl (by decide) rfl (fun ls hl => ?_)
        refine lv_goto (tgt := 6) hx hb dX4_workAhead_58 (by decide) ?_
        exact ih l2 l3 l4 l5 l6 (l7 + 1) M _ h _ _ _ hP hS (lv_sub hl [1, 2, 3, 4, 5, 6, 7, 0] rfl)
      · replace h := (if_neg c_2).symm.trans h
        refine lv_aload_n hx hb dX4_workAhead_18 rfl (lv_at hl 0 rfl) ?_
        refine mk_g4_0 hx hb hts in_X4_workAhead_X4 hown hK hP (by decide) rfl (hts (.fieldLink RX4 11 "MixedKernel$TaskSet" "all" "[LMixedKernel$Task;") (by decide +kernel)) dX4_workAhead_19 ?_
        refine lv_aload_n hx hb dX4_workAhead_22 rfl (lv_at hl 1 rfl) ?_
        refine mk_n1_0 hx hb hts in_X4_workAhead_X1 hown hK hP hx_x1 hk_x1 (va_Nw.use rfl (hN (.fieldLinkNest "MixedKernel$TaskSet" 18 "MixedKernel$Line" "ids" "[I" "MixedKernel") (by decide +kernel))) dX4_workAhead_23 ?_
        refine lv_iload hx hb dX4_workAhead_26 (lv_at hl 7 rfl) ?_
        obtain ⟨i_3, h⟩ := mk_ifn h
        refine mk_ia hx hb hK hP ha_x1.1 ha_x1.2.1 (by rw [ha_x1.2.2]; exact i_3) dX4_workAhead_28 ?_
        obtain ⟨i_4, h⟩ := mk_ifn h
        have k_5 := mk_kd_task i_4
        have w_6 := mk_s3 k_5.1
        refine mk_aa hx hb hK hP (by decide) rfl i_4 dX4_workAhead_29 ?_
        refine lv_astore (lv' := [(8, .ref (E.1 (16 + 4 * (M (x1+1) (l7).toNatClampNeg).toNatClampNeg))), (0, .ref (E.1 1)), (1, .ref (E.1 x1)), (2, .int l2), (3, .int l3), (4, .int l4), (5, .int l5), (6, .int l6), (7, .int l7)]) hx hb dX4_workAhead_30 hl (by decide) rfl (fun ls hl => ?_)
        refine lv_iload hx hb dX4_workAhead_32 (lv_at hl 7 rfl) ?_
        refine lv_iload hx hb dX4_workAhead_34 (lv_at hl 5 rfl) ?_
        refine lv_aload hx hb dX4_workAhead_36 (lv_at hl 0 rfl) ?_
        refine mk_n3_0 hx hb hts in_X4_workAhead_X3 hown hK hP (Nat.lt_trans k_5.2 (by decide)) k_5.1 (va_Nw.use rfl (hN (.fieldLinkNest "MixedKernel$TaskSet" 55 "MixedKernel$Task" "period" "I" "MixedKernel") (by decide +kernel))) dX4_workAhead_38 ?_
        obtain ⟨r_8, e_7, h⟩ := mk_bind h
        refine va_calli (va_runSN (As := [.int l4, .int (M (16 + 4 * (M (x1+1) (l7).toNatClampNeg).toNatClampNeg) 0)]) (rest := [.int l6]) ⟨hx, hb, hml, hown, hts⟩ (c_X5_releasesWithin l D E L l4 (M (16 + 4 * (M (x1+1) (l7).toNatClampNeg).toNatClampNeg) 0) M  e_7) ⟨va_cnB 2 hts ggX4_workAhead_X5_releasesWithin rfl rfl rfl (hN (.methodLinkNest "MixedKernel$TaskSet" 58 ⟨"MixedKernel", "releasesWithin", "(II)I"⟩ "MixedKernel") (by decide +kernel)) (hts (.initialized RX5) (by decide +kernel)) (by decide +kernel) ⟨Nat.le_of_ble_eq_true rfl, Nat.le_of_ble_eq_true rfl⟩, hts (.static yX5_releasesWithin) (by decide +kernel), trivial⟩ ⟨mk_W.blind, fun U hU hW => ⟨rfl, mk_W.at hU hW hP hK (hD _ _) hN⟩⟩ rfl rfl hl.1 rfl (lv_room (Nat.le_of_ble_eq_true rfl)) dX4_workAhead_41 ⟨Nat.zero_le _, Nat.zero_le _⟩) hS (fun q _ h => h) (fun q h => h) (fun v_12 u t H1 locs ht hvm hw hB hz1 hk1 hS => ?_)
        subst v_12
        rw [ht] at hB
        replace hP := hB
        clear hB hz1 hk1 hvm ht
        generalize H1 = H at hP hS ⊢
        refine lv_aload hx hb dX4_workAhead_44 (lv_at hl 0 rfl) ?_
        refine lv_iload hx hb dX4_workAhead_46 (lv_at hl 6 rfl) ?_
        obtain ⟨r_10, e_9, h⟩ := mk_bind h
        refine va_calli (va_runV (As := [.int l5]) (rest := [.int r_8, .int l6]) ⟨hx, hb, hml, hown, hts⟩ (c_X3_budgetAmong l D E L (16 + 4 * (M (x1+1) (l7).toNatClampNeg).toNatClampNeg) l5 M (Nat.lt_trans k_5.2 (by decide)) k_5.1 e_9) (cwV 1 hts gX4_workAhead_X3_budgetAmong rfl rfl rfl (by decide +kernel) ⟨Nat.le_of_ble_eq_true rfl, Nat.le_of_ble_eq_true rfl⟩) ⟨mk_W.blind, mk_rc3 hK hP (Nat.lt_trans k_5.2 (by decide)) k_5.1, fun U hU hW => ⟨rfl, mk_W.at hU hW hP hK (hD _ _) hN⟩⟩ rfl rfl hl.1 rfl (lv_room (Nat.le_of_ble_eq_true rfl)) dX4_workAhead_48 ⟨Nat.zero_le _, Nat.zero_le _⟩) hS (fun q _ h => h) (fun q h => h) (fun v_11 u t H1 locs ht hvm hw hB hz1 hk1 hS => ?_)
        subst v_11
        rw [ht] at hB
        replace hP := hB
        clear hB hz1 hk1 hvm ht
        generalize H1 = H at hP hS ⊢
        refine lv_imul hx hb dX4_workAhead_51 ?_
        refine lv_iadd hx hb dX4_workAhead_52 ?_
        refine lv_istore (lv' := [(6, .int (l6 + (r_8 * r_10))), (8, .ref (E.1 (16 + 4 * (M (x1+1) (l7).toNatClampNeg).toNatClampNeg))), (0, .ref (E.1 1)), (1, .ref (E.1 x1)), (2, .int l2), (3, .int l3), (4, .int l4), (5, .int l5), (7, .int l7)]) hx hb dX4_workAhead_53 hl (by decide) rfl (fun ls hl => ?_)
        refine lv_iinc (v := l7 + 1) (lv' := [(7, .int (l7 + 1)), (6, .int (l6 + (r_8 * r_10))), (8, .ref (E.1 (16 + 4 * (M (x1+1) (l7).toNatClampNeg).toNatClampNeg))), (0, .ref (E.1 1)), (1, .ref (E.1 x1)), (2, .int l2), (3, .int l3), (4, .int l4), (5, .int l5)]) hx hb dX4_workAhead_55 hl (k := 8) rfl rfl (by decide) rfl (fun ls hl => ?_)
        refine lv_goto (tgt := 6) hx hb dX4_workAhead_58 (by decide) ?_
        exact ih l2 l3 l4 l5 (l6 + (r_8 * r_10)) (l7 + 1) M _ h _ _ _ hP hS (lv_sub hl [3, 4, 5, 6, 7, 8, 1, 0] rfl)
def f_X4_workAhead (x1 : Nat) (a2 : Int32) (a3 : Int32) (a4 : Int32) (a5 : Int32) (M : mk_M) : Option (Int32) := (f_X4_workAhead_6 x1 mk_F a2 a3 a4 a5 0 0 M)
set_option maxHeartbeats 4000000 in
set_option maxRecDepth 100000 in
theorem c_X4_workAhead (l : Launch) (D : va_G) (E : mk_E) (L : Nat → Int64) (x1 : Nat) (a2 : Int32) (a3 : Int32) (a4 : Int32) (a5 : Int32) (M : mk_M) (hx_x1 : x1 < 94) (hk_x1 : mk_kd x1 = 1) {q : Int32} (h : f_X4_workAhead x1 a2 a3 a4 a5 M = some q) : Met l yX4_workAhead wsX4_workAhead rm_X4_workAhead (va_Pc [.ref (E.1 1), .ref (E.1 x1), .int a2, .int a3, .int a4, .int a5] (mk_W D E M L)) (mk_Qi D E L q M) 0 0 (mk_A E) := by
  have ha_x1 := mk_s1 hk_x1
  refine Met.ofW (cc := cX4_workAhead) (maxL := 9) (ret := (some .int)) (by decide) rfl ?_
  intro p e s m args below meth c s₁ B hml hv
  obtain ⟨rfl, hP, hK, hD0, hN⟩ := hv
  have hx := B.exec
  have hb := B.bytes
  have hr := B.returns
  have hts := atoms_spec (ws := wsX4_workAhead) B.pre
  have hown : s.vm.findClass RX4 = some m.cls := findClass_of_methodNamed B.named
  have hlk := B.notSynchronized
  have hD : ∀ (M : mk_M) (L : Nat → Int64), va_D (mk_A E) (mk_wl E M L) := fun _ _ => mk_D hD0
  have C0 : mk_C p s m [.ref (E.1 1), .ref (E.1 x1), .int a2, .int a3, .int a4, .int a5].toArray meth c cX4_workAhead 9 wsX4_workAhead RX4 (some .int) D E := ⟨hx, hb, hml, hown, hts, hr, hlk, hK, hD, hN⟩
  have hS : va_S (mk_A E) s.heap s.heap [] := va_S.rf
  have hl := lv_entry ([.ref (E.1 1), .ref (E.1 x1), .int a2, .int a3, .int a4, .int a5]) (n := 9) (Nat.le_of_ble_eq_true rfl)
  rw [lg_entry_eq]
  generalize (lg_sl ([.ref (E.1 1), .ref (E.1 x1), .int a2, .int a3, .int a4, .int a5]) ++ List.replicate (9 - (lg_sl ([.ref (E.1 1), .ref (E.1 x1), .int a2, .int a3, .int a4, .int a5])).length) Slot.unset).toArray = ls at hl ⊢
  have hl : lv_has ls 9 [(0, .ref (E.1 1)), (1, .ref (E.1 x1)), (2, .int a2), (3, .int a3), (4, .int a4), (5, .int a5)] := hl
  replace h : (f_X4_workAhead_6 x1 mk_F a2 a3 a4 a5 0 0 M) = some q := h
  refine lv_iconst (v := 0) hx hb dX4_workAhead_0 (by decide) ?_
  refine lv_istore (lv' := [(6, .int 0), (0, .ref (E.1 1)), (1, .ref (E.1 x1)), (2, .int a2), (3, .int a3), (4, .int a4), (5, .int a5)]) hx hb dX4_workAhead_1 hl (by decide) rfl (fun ls hl => ?_)
  refine lv_iconst (v := 0) hx hb dX4_workAhead_3 (by decide) ?_
  refine lv_istore (lv' := [(7, .int 0), (6, .int 0), (0, .ref (E.1 1)), (1, .ref (E.1 x1)), (2, .int a2), (3, .int a3), (4, .int a4), (5, .int a5)]) hx hb dX4_workAhead_4 hl (by decide) rfl (fun ls hl => ?_)
  exact w_X4_workAhead_6 C0 x1 hx_x1 hk_x1 mk_F a2 a3 a4 a5 0 0 M _ h _ _ _ hP hS (lv_sub hl [2, 3, 4, 5, 6, 7, 1, 0] rfl)
abbrev rm_X4_leastSpan : Room := { frames := 2, cells := 0, slots := 0, locals := 49 }
theorem in_X4_leastSpan_X1 : ∀ w ∈ wsX10, w ∈ wsX4_leastSpan := by decide +kernel
theorem in_X4_leastSpan_X3 : ∀ w ∈ wsX30, w ∈ wsX4_leastSpan := by decide +kernel
theorem in_X4_leastSpan_X4 : ∀ w ∈ wsX40, w ∈ wsX4_leastSpan := by decide +kernel
def f_X4_leastSpan_23 (x1 : Nat) : Nat → Int32 → Int32 → Int32 → Int32 → Int32 → Int32 → Int32 → mk_M → Option (Int32)
  | 0, _, _, _, _, _, _, _, _ => none
  | n + 1, l2, l3, l4, l5, l6, l7, l8, M => (if l6 < l8 then (some 1001) else (if l6 < l7 then (some 1001) else ((f_X4_workAhead x1 l2 l3 l7 l5 M).bind (fun r_8 => (if (l4 + r_8) = l7 then (some l7) else (f_X4_leastSpan_23 x1 n l2 l3 l4 l5 l6 (l4 + r_8) (l8 + 1) M))))))
set_option maxHeartbeats 4000000 in
set_option maxRecDepth 100000 in
theorem w_X4_leastSpan_23 {p : Program} {l : Launch} {e : Env} {s : State} {m : MethodId} {args : Array Value} {below : List Frame} {meth : Method} {c : Code} {D : va_G} {E : mk_E} {L : Nat → Int64} (C0 : mk_C p s m args meth c cX4_leastSpan 10 wsX4_leastSpan RX4 (some .int) D E) (x1 : Nat) (hx_x1 : x1 < 94) (hk_x1 : mk_kd x1 = 1) : ∀ n : Nat, ∀ (l2 : Int32) (l3 : Int32) (l4 : Int32) (l5 : Int32) (l6 : Int32) (l7 : Int32) (l8 : Int32) (M : mk_M) (q : Int32), f_X4_leastSpan_23 x1 n l2 l3 l4 l5 l6 l7 l8 M = some q → ∀ (H : Heap) (locs : List Loc) (ls : Array Slot), va_P D vwCl (mk_wl E M L) H → va_S (mk_A E) s.heap H locs → lv_has ls 10 [(0, .ref (E.1 1)), (1, .ref (E.1 x1)), (2, .int l2), (3, .int l3), (4, .int l4), (5, .int l5), (6, .int l6), (7, .int l7), (8, .int l8)] → W p l e rm_X4_leastSpan s m args below meth c H locs 0 0 (MQ below (mk_Qi D E L q M) args s 0 0 (mk_A E)) (F0 m 23 ls []) := by
  obtain ⟨hx, hb, hml, hown, hts, hr, hlk, hK, hD, hN⟩ := id C0
  have ha_x1 := mk_s1 hk_x1
  intro n
  induction n with
  | zero =>
    intro l2 l3 l4 l5 l6 l7 l8 M q h
    cases h
  | succ n ih =>
    intro l2 l3 l4 l5 l6 l7 l8 M q h H locs ls hP hS hl
    replace h : (if l6 < l8 then (some 1001) else (if l6 < l7 then (some 1001) else ((f_X4_workAhead x1 l2 l3 l7 l5 M).bind (fun r_8 => (if (l4 + r_8) = l7 then (some l7) else (f_X4_leastSpan_23 x1 n l2 l3 l4 l5 l6 (l4 + r_8) (l8 + 1) M)))))) = some q := h
    refine lv_iload hx hb dX4_leastSpan_23 (lv_at hl 8 rfl) ?_
    refine lv_iload hx hb dX4_leastSpan_25 (lv_at hl 6 rfl) ?_
    refine lv_icmp_gt (tgt := 73) hx hb dX4_leastSpan_27 (by decide) (fun c_5 => ?_) (fun c_5 => ?_)
    · replace h := (if_pos c_5).symm.trans h
      refine lv_sipush (v := 1001) hx hb dX4_leastSpan_73 (by decide) ?_
      replace h := Option.some.inj h
      subst q
      exact W.iret (v := 1001) hx hb hr (fun t ht hW => ⟨⟨_, (), rfl, rfl, by rw [← ht] at hP; exact hP⟩, hS.F ht⟩) hS.2.2 dX4_leastSpan_76
    · replace h := (if_neg c_5).symm.trans h
      refine lv_iload hx hb dX4_leastSpan_30 (lv_at hl 7 rfl) ?_
      refine lv_iload hx hb dX4_leastSpan_32 (lv_at hl 6 rfl) ?_
      refine lv_icmp_gt (tgt := 73) hx hb dX4_leastSpan_34 (by decide) (fun c_6 => ?_) (fun c_6 => ?_)
      · replace h := (if_pos c_6).symm.trans h
        refine lv_sipush (v := 1001) hx hb dX4_leastSpan_73 (by decide) ?_
        replace h := Option.some.inj h
        subst q
        exact W.iret (v := 1001) hx hb hr (fun t ht hW => ⟨⟨_, (), rfl, rfl, by rw [← ht] at hP; exact hP⟩, hS.F ht⟩) hS.2.2 dX4_leastSpan_76
      · replace h := (if_neg c_6).symm.trans h
        refine lv_iload hx hb dX4_leastSpan_37 (lv_at hl 4 rfl) ?_
        refine lv_aload_n hx hb dX4_leastSpan_39 rfl (lv_at hl 0 rfl) ?_
        refine lv_aload_n hx hb dX4_leastSpan_40 rfl (lv_at hl 1 rfl) ?_
        refine lv_iload_n hx hb dX4_leastSpan_41 rfl (lv_at hl 2 rfl) ?_
        refine lv_iload_n hx hb dX4_leastSpan_42 rfl (lv_at hl 3 rfl) ?_
        refine lv_iload hx hb dX4_leastSpan_43 (lv_at hl 7 rfl) ?_
        refine lv_iload hx hb dX4_leastSpan_45 (lv_at hl 5 rfl) ?_
        obtain ⟨r_8, e_7, h⟩ := mk_bind h
        refine va_calli (va_runV (As := [.ref (E.1 x1), .int l2, .int l3, .int l7, .int l5]) (rest := [.int l4]) ⟨hx, hb, hml, hown, hts⟩ (c_X4_workAhead l D E L x1 l2 l3 l7 l5 M hx_x1 hk_x1 e_7) (cwV 5 hts gX4_leastSpan_X4_workAhead rfl rfl rfl (by decide +kernel) ⟨Nat.le_of_ble_eq_true rfl, Nat.le_of_ble_eq_true rfl⟩) ⟨mk_W.blind, mk_rc4 hK hP (by decide) rfl, fun U hU hW => ⟨rfl, mk_W.at hU hW hP hK (hD _ _) hN⟩⟩ rfl rfl hl.1 rfl (lv_room (Nat.le_of_ble_eq_true rfl)) dX4_leastSpan_47 ⟨Nat.zero_le _, Nat.zero_le _⟩) hS (fun q _ h => h) (fun q h => h) (fun v_10 u t H1 locs ht hvm hw hB hz1 hk1 hS => ?_)
        subst v_10
        rw [ht] at hB
        replace hP := hB
        clear hB hz1 hk1 hvm ht
        generalize H1 = H at hP hS ⊢
        refine lv_iadd hx hb dX4_leastSpan_50 ?_
        refine lv_istore (lv' := [(9, .int (l4 + r_8)), (0, .ref (E.1 1)), (1, .ref (E.1 x1)), (2, .int l2), (3, .int l3), (4, .int l4), (5, .int l5), (6, .int l6), (7, .int l7), (8, .int l8)]) hx hb dX4_leastSpan_51 hl (by decide) rfl (fun ls hl => ?_)
        refine lv_iload hx hb dX4_leastSpan_53 (lv_at hl 0 rfl) ?_
        refine lv_iload hx hb dX4_leastSpan_55 (lv_at hl 8 rfl) ?_
        refine lv_icmp_ne (tgt := 63) hx hb dX4_leastSpan_57 (by decide) (fun c_9 => ?_) (fun c_9 => ?_)
        · replace h := (if_neg c_9).symm.trans h
          refine lv_iload hx hb dX4_leastSpan_63 (lv_at hl 0 rfl) ?_
          refine lv_istore (lv' := [(7, .int (l4 + r_8)), (9, .int (l4 + r_8)), (0, .ref (E.1 1)), (1, .ref (E.1 x1)), (2, .int l2), (3, .int l3), (4, .int l4), (5, .int l5), (6, .int l6), (8, .int l8)]) hx hb dX4_leastSpan_65 hl (by decide) rfl (fun ls hl => ?_)
          refine lv_iinc (v := l8 + 1) (lv' := [(8, .int (l8 + 1)), (7, .int (l4 + r_8)), (9, .int (l4 + r_8)), (0, .ref (E.1 1)), (1, .ref (E.1 x1)), (2, .int l2), (3, .int l3), (4, .int l4), (5, .int l5), (6, .int l6)]) hx hb dX4_leastSpan_67 hl (k := 9) rfl rfl (by decide) rfl (fun ls hl => ?_)
          refine lv_goto (tgt := 23) hx hb dX4_leastSpan_70 (by decide) ?_
          exact ih l2 l3 l4 l5 l6 (l4 + r_8) (l8 + 1) M _ h _ _ _ hP hS (lv_sub hl [3, 4, 5, 6, 7, 8, 9, 1, 0] rfl)
        · replace h := (if_pos c_9).symm.trans h
          refine lv_iload hx hb dX4_leastSpan_60 (lv_at hl 8 rfl) ?_
          replace h := Option.some.inj h
          subst q
          exact W.iret (v := l7) hx hb hr (fun t ht hW => ⟨⟨_, (), rfl, rfl, by rw [← ht] at hP; exact hP⟩, hS.F ht⟩) hS.2.2 dX4_leastSpan_62
def f_X4_leastSpan (x1 : Nat) (a2 : Int32) (a3 : Int32) (a4 : Int32) (a5 : Int32) (M : mk_M) : Option (Int32) := (if mk_ob a2 12 then none else (if mk_ob (M (x1+1) (a2).toNatClampNeg) 13 then none else (f_X4_leastSpan_23 x1 mk_F a2 a3 a4 a5 (M (16 + 4 * (M (x1+1) (a2).toNatClampNeg).toNatClampNeg) 1) a4 0 M)))
set_option maxHeartbeats 4000000 in
set_option maxRecDepth 100000 in
theorem c_X4_leastSpan (l : Launch) (D : va_G) (E : mk_E) (L : Nat → Int64) (x1 : Nat) (a2 : Int32) (a3 : Int32) (a4 : Int32) (a5 : Int32) (M : mk_M) (hx_x1 : x1 < 94) (hk_x1 : mk_kd x1 = 1) {q : Int32} (h : f_X4_leastSpan x1 a2 a3 a4 a5 M = some q) : Met l yX4_leastSpan wsX4_leastSpan rm_X4_leastSpan (va_Pc [.ref (E.1 1), .ref (E.1 x1), .int a2, .int a3, .int a4, .int a5] (mk_W D E M L)) (mk_Qi D E L q M) 0 0 (mk_A E) := by
  have ha_x1 := mk_s1 hk_x1
  refine Met.ofW (cc := cX4_leastSpan) (maxL := 10) (ret := (some .int)) (by decide) rfl ?_
  intro p e s m args below meth c s₁ B hml hv
  obtain ⟨rfl, hP, hK, hD0, hN⟩ := hv
  have hx := B.exec
  have hb := B.bytes
  have hr := B.returns
  have hts := atoms_spec (ws := wsX4_leastSpan) B.pre
  have hown : s.vm.findClass RX4 = some m.cls := findClass_of_methodNamed B.named
  have hlk := B.notSynchronized
  have hD : ∀ (M : mk_M) (L : Nat → Int64), va_D (mk_A E) (mk_wl E M L) := fun _ _ => mk_D hD0
  have C0 : mk_C p s m [.ref (E.1 1), .ref (E.1 x1), .int a2, .int a3, .int a4, .int a5].toArray meth c cX4_leastSpan 10 wsX4_leastSpan RX4 (some .int) D E := ⟨hx, hb, hml, hown, hts, hr, hlk, hK, hD, hN⟩
  have hS : va_S (mk_A E) s.heap s.heap [] := va_S.rf
  have hl := lv_entry ([.ref (E.1 1), .ref (E.1 x1), .int a2, .int a3, .int a4, .int a5]) (n := 10) (Nat.le_of_ble_eq_true rfl)
  rw [lg_entry_eq]
  generalize (lg_sl ([.ref (E.1 1), .ref (E.1 x1), .int a2, .int a3, .int a4, .int a5]) ++ List.replicate (10 - (lg_sl ([.ref (E.1 1), .ref (E.1 x1), .int a2, .int a3, .int a4, .int a5])).length) Slot.unset).toArray = ls at hl ⊢
  have hl : lv_has ls 10 [(0, .ref (E.1 1)), (1, .ref (E.1 x1)), (2, .int a2), (3, .int a3), (4, .int a4), (5, .int a5)] := hl
  replace h : (if mk_ob a2 12 then none else (if mk_ob (M (x1+1) (a2).toNatClampNeg) 13 then none else (f_X4_leastSpan_23 x1 mk_F a2 a3 a4 a5 (M (16 + 4 * (M (x1+1) (a2).toNatClampNeg).toNatClampNeg) 1) a4 0 M))) = some q := h
  refine lv_aload_n hx hb dX4_leastSpan_0 rfl (lv_at hl 0 rfl) ?_
  refine mk_g4_0 hx hb hts in_X4_leastSpan_X4 hown hK hP (by decide) rfl (hts (.fieldLink RX4 11 "MixedKernel$TaskSet" "all" "[LMixedKernel$Task;") (by decide +kernel)) dX4_leastSpan_1 ?_
  refine lv_aload_n hx hb dX4_leastSpan_4 rfl (lv_at hl 1 rfl) ?_
  refine mk_n1_0 hx hb hts in_X4_leastSpan_X1 hown hK hP hx_x1 hk_x1 (va_Nw.use rfl (hN (.fieldLinkNest "MixedKernel$TaskSet" 18 "MixedKernel$Line" "ids" "[I" "MixedKernel") (by decide +kernel))) dX4_leastSpan_5 ?_
  refine lv_iload_n hx hb dX4_leastSpan_8 rfl (lv_at hl 2 rfl) ?_
  obtain ⟨i_1, h⟩ := mk_ifn h
  refine mk_ia hx hb hK hP ha_x1.1 ha_x1.2.1 (by rw [ha_x1.2.2]; exact i_1) dX4_leastSpan_9 ?_
  obtain ⟨i_2, h⟩ := mk_ifn h
  have k_3 := mk_kd_task i_2
  have w_4 := mk_s3 k_3.1
  refine mk_aa hx hb hK hP (by decide) rfl i_2 dX4_leastSpan_10 ?_
  refine mk_n3_1 hx hb hts in_X4_leastSpan_X3 hown hK hP (Nat.lt_trans k_3.2 (by decide)) k_3.1 (va_Nw.use rfl (hN (.fieldLinkNest "MixedKernel$TaskSet" 49 "MixedKernel$Task" "deadline" "I" "MixedKernel") (by decide +kernel))) dX4_leastSpan_11 ?_
  refine lv_istore (lv' := [(6, .int (M (16 + 4 * (M (x1+1) (a2).toNatClampNeg).toNatClampNeg) 1)), (0, .ref (E.1 1)), (1, .ref (E.1 x1)), (2, .int a2), (3, .int a3), (4, .int a4), (5, .int a5)]) hx hb dX4_leastSpan_14 hl (by decide) rfl (fun ls hl => ?_)
  refine lv_iload hx hb dX4_leastSpan_16 (lv_at hl 5 rfl) ?_
  refine lv_istore (lv' := [(7, .int a4), (6, .int (M (16 + 4 * (M (x1+1) (a2).toNatClampNeg).toNatClampNeg) 1)), (0, .ref (E.1 1)), (1, .ref (E.1 x1)), (2, .int a2), (3, .int a3), (4, .int a4), (5, .int a5)]) hx hb dX4_leastSpan_18 hl (by decide) rfl (fun ls hl => ?_)
  refine lv_iconst (v := 0) hx hb dX4_leastSpan_20 (by decide) ?_
  refine lv_istore (lv' := [(8, .int 0), (7, .int a4), (6, .int (M (16 + 4 * (M (x1+1) (a2).toNatClampNeg).toNatClampNeg) 1)), (0, .ref (E.1 1)), (1, .ref (E.1 x1)), (2, .int a2), (3, .int a3), (4, .int a4), (5, .int a5)]) hx hb dX4_leastSpan_21 hl (by decide) rfl (fun ls hl => ?_)
  exact w_X4_leastSpan_23 C0 x1 hx_x1 hk_x1 mk_F a2 a3 a4 a5 (M (16 + 4 * (M (x1+1) (a2).toNatClampNeg).toNatClampNeg) 1) a4 0 M _ h _ _ _ hP hS (lv_sub hl [3, 4, 5, 6, 7, 8, 2, 1, 0] rfl)
abbrev rm_X4_lowResponse : Room := { frames := 3, cells := 0, slots := 0, locals := 78 }
theorem in_X4_lowResponse_X1 : ∀ w ∈ wsX10, w ∈ wsX4_lowResponse := by decide +kernel
theorem in_X4_lowResponse_X3 : ∀ w ∈ wsX30, w ∈ wsX4_lowResponse := by decide +kernel
theorem in_X4_lowResponse_X4 : ∀ w ∈ wsX40, w ∈ wsX4_lowResponse := by decide +kernel
def f_X4_lowResponse (x1 : Nat) (a2 : Int32) (a3 : Int32) (M : mk_M) : Option (Int32) := (if mk_ob a2 12 then none else (if mk_ob (M (x1+1) (a2).toNatClampNeg) 13 then none else ((f_X4_leastSpan x1 a2 a3 (M (16 + 4 * (M (x1+1) (a2).toNatClampNeg).toNatClampNeg) 2) 0 M).bind (fun r_6 => (some r_6)))))
set_option maxHeartbeats 4000000 in
set_option maxRecDepth 100000 in
theorem c_X4_lowResponse (l : Launch) (D : va_G) (E : mk_E) (L : Nat → Int64) (x1 : Nat) (a2 : Int32) (a3 : Int32) (M : mk_M) (hx_x1 : x1 < 94) (hk_x1 : mk_kd x1 = 1) {q : Int32} (h : f_X4_lowResponse x1 a2 a3 M = some q) : Met l yX4_lowResponse wsX4_lowResponse rm_X4_lowResponse (va_Pc [.ref (E.1 1), .ref (E.1 x1), .int a2, .int a3] (mk_W D E M L)) (mk_Qi D E L q M) 0 0 (mk_A E) := by
  have ha_x1 := mk_s1 hk_x1
  refine Met.ofW (cc := cX4_lowResponse) (maxL := 4) (ret := (some .int)) (by decide) rfl ?_
  intro p e s m args below meth c s₁ B hml hv
  obtain ⟨rfl, hP, hK, hD0, hN⟩ := hv
  have hx := B.exec
  have hb := B.bytes
  have hr := B.returns
  have hts := atoms_spec (ws := wsX4_lowResponse) B.pre
  have hown : s.vm.findClass RX4 = some m.cls := findClass_of_methodNamed B.named
  have hlk := B.notSynchronized
  have hD : ∀ (M : mk_M) (L : Nat → Int64), va_D (mk_A E) (mk_wl E M L) := fun _ _ => mk_D hD0
  have C0 : mk_C p s m [.ref (E.1 1), .ref (E.1 x1), .int a2, .int a3].toArray meth c cX4_lowResponse 4 wsX4_lowResponse RX4 (some .int) D E := ⟨hx, hb, hml, hown, hts, hr, hlk, hK, hD, hN⟩
  have hS : va_S (mk_A E) s.heap s.heap [] := va_S.rf
  have hl := lv_entry ([.ref (E.1 1), .ref (E.1 x1), .int a2, .int a3]) (n := 4) (Nat.le_of_ble_eq_true rfl)
  rw [lg_entry_eq]
  generalize (lg_sl ([.ref (E.1 1), .ref (E.1 x1), .int a2, .int a3]) ++ List.replicate (4 - (lg_sl ([.ref (E.1 1), .ref (E.1 x1), .int a2, .int a3])).length) Slot.unset).toArray = ls at hl ⊢
  have hl : lv_has ls 4 [(0, .ref (E.1 1)), (1, .ref (E.1 x1)), (2, .int a2), (3, .int a3)] := hl
  replace h : (if mk_ob a2 12 then none else (if mk_ob (M (x1+1) (a2).toNatClampNeg) 13 then none else ((f_X4_leastSpan x1 a2 a3 (M (16 + 4 * (M (x1+1) (a2).toNatClampNeg).toNatClampNeg) 2) 0 M).bind (fun r_6 => (some r_6))))) = some q := h
  refine lv_aload_n hx hb dX4_lowResponse_0 rfl (lv_at hl 0 rfl) ?_
  refine lv_aload_n hx hb dX4_lowResponse_1 rfl (lv_at hl 1 rfl) ?_
  refine lv_iload_n hx hb dX4_lowResponse_2 rfl (lv_at hl 2 rfl) ?_
  refine lv_iload_n hx hb dX4_lowResponse_3 rfl (lv_at hl 3 rfl) ?_
  refine lv_aload_n hx hb dX4_lowResponse_4 rfl (lv_at hl 0 rfl) ?_
  refine mk_g4_0 hx hb hts in_X4_lowResponse_X4 hown hK hP (by decide) rfl (hts (.fieldLink RX4 11 "MixedKernel$TaskSet" "all" "[LMixedKernel$Task;") (by decide +kernel)) dX4_lowResponse_5 ?_
  refine lv_aload_n hx hb dX4_lowResponse_8 rfl (lv_at hl 1 rfl) ?_
  refine mk_n1_0 hx hb hts in_X4_lowResponse_X1 hown hK hP hx_x1 hk_x1 (va_Nw.use rfl (hN (.fieldLinkNest "MixedKernel$TaskSet" 18 "MixedKernel$Line" "ids" "[I" "MixedKernel") (by decide +kernel))) dX4_lowResponse_9 ?_
  refine lv_iload_n hx hb dX4_lowResponse_12 rfl (lv_at hl 2 rfl) ?_
  obtain ⟨i_1, h⟩ := mk_ifn h
  refine mk_ia hx hb hK hP ha_x1.1 ha_x1.2.1 (by rw [ha_x1.2.2]; exact i_1) dX4_lowResponse_13 ?_
  obtain ⟨i_2, h⟩ := mk_ifn h
  have k_3 := mk_kd_task i_2
  have w_4 := mk_s3 k_3.1
  refine mk_aa hx hb hK hP (by decide) rfl i_2 dX4_lowResponse_14 ?_
  refine mk_n3_2 hx hb hts in_X4_lowResponse_X3 hown hK hP (Nat.lt_trans k_3.2 (by decide)) k_3.1 (va_Nw.use rfl (hN (.fieldLinkNest "MixedKernel$TaskSet" 24 "MixedKernel$Task" "low" "I" "MixedKernel") (by decide +kernel))) dX4_lowResponse_15 ?_
  refine lv_iconst (v := 0) hx hb dX4_lowResponse_18 (by decide) ?_
  obtain ⟨r_6, e_5, h⟩ := mk_bind h
  refine va_calli (va_runV (As := [.ref (E.1 x1), .int a2, .int a3, .int (M (16 + 4 * (M (x1+1) (a2).toNatClampNeg).toNatClampNeg) 2), .int 0]) (rest := []) ⟨hx, hb, hml, hown, hts⟩ (c_X4_leastSpan l D E L x1 a2 a3 (M (16 + 4 * (M (x1+1) (a2).toNatClampNeg).toNatClampNeg) 2) 0 M hx_x1 hk_x1 e_5) (cwV 5 hts gX4_lowResponse_X4_leastSpan rfl rfl rfl (by decide +kernel) ⟨Nat.le_of_ble_eq_true rfl, Nat.le_of_ble_eq_true rfl⟩) ⟨mk_W.blind, mk_rc4 hK hP (by decide) rfl, fun U hU hW => ⟨rfl, mk_W.at hU hW hP hK (hD _ _) hN⟩⟩ rfl rfl hl.1 rfl (lv_room (Nat.le_of_ble_eq_true rfl)) dX4_lowResponse_19 ⟨Nat.zero_le _, Nat.zero_le _⟩) hS (fun q _ h => h) (fun q h => h) (fun v_7 u t H1 locs ht hvm hw hB hz1 hk1 hS => ?_)
  subst v_7
  rw [ht] at hB
  replace hP := hB
  clear hB hz1 hk1 hvm ht
  generalize H1 = H at hP hS ⊢
  replace h := Option.some.inj h
  subst q
  exact W.iret (v := r_6) hx hb hr (fun t ht hW => ⟨⟨_, (), rfl, rfl, by rw [← ht] at hP; exact hP⟩, hS.F ht⟩) hS.2.2 dX4_lowResponse_22
abbrev rm_X4_bound : Room := { frames := 3, cells := 0, slots := 0, locals := 78 }
theorem in_X4_bound_X1 : ∀ w ∈ wsX10, w ∈ wsX4_bound := by decide +kernel
theorem in_X4_bound_X3 : ∀ w ∈ wsX30, w ∈ wsX4_bound := by decide +kernel
theorem in_X4_bound_X4 : ∀ w ∈ wsX40, w ∈ wsX4_bound := by decide +kernel
def f_X4_bound (x1 : Nat) (a2 : Int32) (a3 : Int32) (M : mk_M) : Option (Int32) := (if mk_ob a2 12 then none else (if mk_ob (M (x1+1) (a2).toNatClampNeg) 13 then none else ((f_X3_isHigh (16 + 4 * (M (x1+1) (a2).toNatClampNeg).toNatClampNeg) M).bind (fun r_6 => (if r_6 = 0 then (some (-1)) else ((f_X4_leastSpan x1 a2 a3 (M (16 + 4 * (M (x1+1) (a2).toNatClampNeg).toNatClampNeg) 2) 0 M).bind (fun r_9 => ((f_X4_workAhead x1 a2 a3 r_9 1 M).bind (fun r_11 => ((f_X4_leastSpan x1 a2 a3 ((M (16 + 4 * (M (x1+1) (a2).toNatClampNeg).toNatClampNeg) 3) + r_11) 2 M).bind (fun r_13 => (some r_13))))))))))))
set_option maxHeartbeats 4000000 in
set_option maxRecDepth 100000 in
theorem c_X4_bound (l : Launch) (D : va_G) (E : mk_E) (L : Nat → Int64) (x1 : Nat) (a2 : Int32) (a3 : Int32) (M : mk_M) (hx_x1 : x1 < 94) (hk_x1 : mk_kd x1 = 1) {q : Int32} (h : f_X4_bound x1 a2 a3 M = some q) : Met l yX4_bound wsX4_bound rm_X4_bound (va_Pc [.ref (E.1 1), .ref (E.1 x1), .int a2, .int a3] (mk_W D E M L)) (mk_Qi D E L q M) 0 0 (mk_A E) := by
  have ha_x1 := mk_s1 hk_x1
  refine Met.ofW (cc := cX4_bound) (maxL := 7) (ret := (some .int)) (by decide) rfl ?_
  intro p e s m args below meth c s₁ B hml hv
  obtain ⟨rfl, hP, hK, hD0, hN⟩ := hv
  have hx := B.exec
  have hb := B.bytes
  have hr := B.returns
  have hts := atoms_spec (ws := wsX4_bound) B.pre
  have hown : s.vm.findClass RX4 = some m.cls := findClass_of_methodNamed B.named
  have hlk := B.notSynchronized
  have hD : ∀ (M : mk_M) (L : Nat → Int64), va_D (mk_A E) (mk_wl E M L) := fun _ _ => mk_D hD0
  have C0 : mk_C p s m [.ref (E.1 1), .ref (E.1 x1), .int a2, .int a3].toArray meth c cX4_bound 7 wsX4_bound RX4 (some .int) D E := ⟨hx, hb, hml, hown, hts, hr, hlk, hK, hD, hN⟩
  have hS : va_S (mk_A E) s.heap s.heap [] := va_S.rf
  have hl := lv_entry ([.ref (E.1 1), .ref (E.1 x1), .int a2, .int a3]) (n := 7) (Nat.le_of_ble_eq_true rfl)
  rw [lg_entry_eq]
  generalize (lg_sl ([.ref (E.1 1), .ref (E.1 x1), .int a2, .int a3]) ++ List.replicate (7 - (lg_sl ([.ref (E.1 1), .ref (E.1 x1), .int a2, .int a3])).length) Slot.unset).toArray = ls at hl ⊢
  have hl : lv_has ls 7 [(0, .ref (E.1 1)), (1, .ref (E.1 x1)), (2, .int a2), (3, .int a3)] := hl
  replace h : (if mk_ob a2 12 then none else (if mk_ob (M (x1+1) (a2).toNatClampNeg) 13 then none else ((f_X3_isHigh (16 + 4 * (M (x1+1) (a2).toNatClampNeg).toNatClampNeg) M).bind (fun r_6 => (if r_6 = 0 then (some (-1)) else ((f_X4_leastSpan x1 a2 a3 (M (16 + 4 * (M (x1+1) (a2).toNatClampNeg).toNatClampNeg) 2) 0 M).bind (fun r_9 => ((f_X4_workAhead x1 a2 a3 r_9 1 M).bind (fun r_11 => ((f_X4_leastSpan x1 a2 a3 ((M (16 + 4 * (M (x1+1) (a2).toNatClampNeg).toNatClampNeg) 3) + r_11) 2 M).bind (fun r_13 => (some r_13)))))))))))) = some q := h
  refine lv_aload_n hx hb dX4_bound_0 rfl (lv_at hl 0 rfl) ?_
  refine mk_g4_0 hx hb hts in_X4_bound_X4 hown hK hP (by decide) rfl (hts (.fieldLink RX4 11 "MixedKernel$TaskSet" "all" "[LMixedKernel$Task;") (by decide +kernel)) dX4_bound_1 ?_
  refine lv_aload_n hx hb dX4_bound_4 rfl (lv_at hl 1 rfl) ?_
  refine mk_n1_0 hx hb hts in_X4_bound_X1 hown hK hP hx_x1 hk_x1 (va_Nw.use rfl (hN (.fieldLinkNest "MixedKernel$TaskSet" 18 "MixedKernel$Line" "ids" "[I" "MixedKernel") (by decide +kernel))) dX4_bound_5 ?_
  refine lv_iload_n hx hb dX4_bound_8 rfl (lv_at hl 2 rfl) ?_
  obtain ⟨i_1, h⟩ := mk_ifn h
  refine mk_ia hx hb hK hP ha_x1.1 ha_x1.2.1 (by rw [ha_x1.2.2]; exact i_1) dX4_bound_9 ?_
  obtain ⟨i_2, h⟩ := mk_ifn h
  have k_3 := mk_kd_task i_2
  have w_4 := mk_s3 k_3.1
  refine mk_aa hx hb hK hP (by decide) rfl i_2 dX4_bound_10 ?_
  refine lv_astore (lv' := [(4, .ref (E.1 (16 + 4 * (M (x1+1) (a2).toNatClampNeg).toNatClampNeg))), (0, .ref (E.1 1)), (1, .ref (E.1 x1)), (2, .int a2), (3, .int a3)]) hx hb dX4_bound_11 hl (by decide) rfl (fun ls hl => ?_)
  refine lv_aload hx hb dX4_bound_13 (lv_at hl 0 rfl) ?_
  obtain ⟨r_6, e_5, h⟩ := mk_bind h
  refine va_calli (va_runV (As := []) (rest := []) ⟨hx, hb, hml, hown, hts⟩ (c_X3_isHigh l D E L (16 + 4 * (M (x1+1) (a2).toNatClampNeg).toNatClampNeg) M (Nat.lt_trans k_3.2 (by decide)) k_3.1 e_5) (cwV 0 hts gX4_bound_X3_isHigh rfl rfl rfl (by decide +kernel) ⟨Nat.le_of_ble_eq_true rfl, Nat.le_of_ble_eq_true rfl⟩) ⟨mk_W.blind, mk_rc3 hK hP (Nat.lt_trans k_3.2 (by decide)) k_3.1, fun U hU hW => ⟨rfl, mk_W.at hU hW hP hK (hD _ _) hN⟩⟩ rfl rfl hl.1 rfl (lv_room (Nat.le_of_ble_eq_true rfl)) dX4_bound_15 ⟨Nat.zero_le _, Nat.zero_le _⟩) hS (fun q _ h => h) (fun q h => h) (fun v_17 u t H1 locs ht hvm hw hB hz1 hk1 hS => ?_)
  subst v_17
  rw [ht] at hB
  replace hP := hB
  clear hB hz1 hk1 hvm ht
  generalize H1 = H at hP hS ⊢
  refine lv_if_ne (tgt := 23) hx hb dX4_bound_18 (by decide) (fun c_7 => ?_) (fun c_7 => ?_)
  · replace h := (if_neg c_7).symm.trans h
    refine lv_aload_n hx hb dX4_bound_23 rfl (lv_at hl 1 rfl) ?_
    refine lv_aload_n hx hb dX4_bound_24 rfl (lv_at hl 2 rfl) ?_
    refine lv_iload_n hx hb dX4_bound_25 rfl (lv_at hl 3 rfl) ?_
    refine lv_iload_n hx hb dX4_bound_26 rfl (lv_at hl 4 rfl) ?_
    refine lv_aload hx hb dX4_bound_27 (lv_at hl 0 rfl) ?_
    refine mk_n3_2 hx hb hts in_X4_bound_X3 hown hK hP (Nat.lt_trans k_3.2 (by decide)) k_3.1 (va_Nw.use rfl (hN (.fieldLinkNest "MixedKernel$TaskSet" 24 "MixedKernel$Task" "low" "I" "MixedKernel") (by decide +kernel))) dX4_bound_29 ?_
    refine lv_iconst (v := 0) hx hb dX4_bound_32 (by decide) ?_
    obtain ⟨r_9, e_8, h⟩ := mk_bind h
    refine va_calli (va_runV (As := [.ref (E.1 x1), .int a2, .int a3, .int (M (16 + 4 * (M (x1+1) (a2).toNatClampNeg).toNatClampNeg) 2), .int 0]) (rest := []) ⟨hx, hb, hml, hown, hts⟩ (c_X4_leastSpan l D E L x1 a2 a3 (M (16 + 4 * (M (x1+1) (a2).toNatClampNeg).toNatClampNeg) 2) 0 M hx_x1 hk_x1 e_8) (cwV 5 hts gX4_bound_X4_leastSpan rfl rfl rfl (by decide +kernel) ⟨Nat.le_of_ble_eq_true rfl, Nat.le_of_ble_eq_true rfl⟩) ⟨mk_W.blind, mk_rc4 hK hP (by decide) rfl, fun U hU hW => ⟨rfl, mk_W.at hU hW hP hK (hD _ _) hN⟩⟩ rfl rfl hl.1 rfl (lv_room (Nat.le_of_ble_eq_true rfl)) dX4_bound_33 ⟨Nat.zero_le _, Nat.zero_le _⟩) hS (fun q _ h => h) (fun q h => h) (fun v_16 u t H1 locs ht hvm hw hB hz1 hk1 hS => ?_)
    subst v_16
    rw [ht] at hB
    replace hP := hB
    clear hB hz1 hk1 hvm ht
    generalize H1 = H at hP hS ⊢
    refine lv_istore (lv' := [(5, .int r_9), (4, .ref (E.1 (16 + 4 * (M (x1+1) (a2).toNatClampNeg).toNatClampNeg))), (0, .ref (E.1 1)), (1, .ref (E.1 x1)), (2, .int a2), (3, .int a3)]) hx hb dX4_bound_36 hl (by decide) rfl (fun ls hl => ?_)
    refine lv_aload hx hb dX4_bound_38 (lv_at hl 1 rfl) ?_
    refine mk_n3_3 hx hb hts in_X4_bound_X3 hown hK hP (Nat.lt_trans k_3.2 (by decide)) k_3.1 (va_Nw.use rfl (hN (.fieldLinkNest "MixedKernel$TaskSet" 36 "MixedKernel$Task" "high" "I" "MixedKernel") (by decide +kernel))) dX4_bound_40 ?_
    refine lv_aload_n hx hb dX4_bound_43 rfl (lv_at hl 2 rfl) ?_
    refine lv_aload_n hx hb dX4_bound_44 rfl (lv_at hl 3 rfl) ?_
    refine lv_iload_n hx hb dX4_bound_45 rfl (lv_at hl 4 rfl) ?_
    refine lv_iload_n hx hb dX4_bound_46 rfl (lv_at hl 5 rfl) ?_
    refine lv_iload hx hb dX4_bound_47 (lv_at hl 0 rfl) ?_
    refine lv_iconst (v := 1) hx hb dX4_bound_49 (by decide) ?_
    obtain ⟨r_11, e_10, h⟩ := mk_bind h
    refine va_calli (va_runV (As := [.ref (E.1 x1), .int a2, .int a3, .int r_9, .int 1]) (rest := [.int (M (16 + 4 * (M (x1+1) (a2).toNatClampNeg).toNatClampNeg) 3)]) ⟨hx, hb, hml, hown, hts⟩ (c_X4_workAhead l D E L x1 a2 a3 r_9 1 M hx_x1 hk_x1 e_10) (cwV 5 hts gX4_bound_X4_workAhead rfl rfl rfl (by decide +kernel) ⟨Nat.le_of_ble_eq_true rfl, Nat.le_of_ble_eq_true rfl⟩) ⟨mk_W.blind, mk_rc4 hK hP (by decide) rfl, fun U hU hW => ⟨rfl, mk_W.at hU hW hP hK (hD _ _) hN⟩⟩ rfl rfl hl.1 rfl (lv_room (Nat.le_of_ble_eq_true rfl)) dX4_bound_50 ⟨Nat.zero_le _, Nat.zero_le _⟩) hS (fun q _ h => h) (fun q h => h) (fun v_15 u t H1 locs ht hvm hw hB hz1 hk1 hS => ?_)
    subst v_15
    rw [ht] at hB
    replace hP := hB
    clear hB hz1 hk1 hvm ht
    generalize H1 = H at hP hS ⊢
    refine lv_iadd hx hb dX4_bound_53 ?_
    refine lv_istore (lv' := [(6, .int ((M (16 + 4 * (M (x1+1) (a2).toNatClampNeg).toNatClampNeg) 3) + r_11)), (5, .int r_9), (4, .ref (E.1 (16 + 4 * (M (x1+1) (a2).toNatClampNeg).toNatClampNeg))), (0, .ref (E.1 1)), (1, .ref (E.1 x1)), (2, .int a2), (3, .int a3)]) hx hb dX4_bound_54 hl (by decide) rfl (fun ls hl => ?_)
    refine lv_aload_n hx hb dX4_bound_56 rfl (lv_at hl 3 rfl) ?_
    refine lv_aload_n hx hb dX4_bound_57 rfl (lv_at hl 4 rfl) ?_
    refine lv_iload_n hx hb dX4_bound_58 rfl (lv_at hl 5 rfl) ?_
    refine lv_iload_n hx hb dX4_bound_59 rfl (lv_at hl 6 rfl) ?_
    refine lv_iload hx hb dX4_bound_60 (lv_at hl 0 rfl) ?_
    refine lv_iconst (v := 2) hx hb dX4_bound_62 (by decide) ?_
    obtain ⟨r_13, e_12, h⟩ := mk_bind h
    refine va_calli (va_runV (As := [.ref (E.1 x1), .int a2, .int a3, .int ((M (16 + 4 * (M (x1+1) (a2).toNatClampNeg).toNatClampNeg) 3) + r_11), .int 2]) (rest := []) ⟨hx, hb, hml, hown, hts⟩ (c_X4_leastSpan l D E L x1 a2 a3 ((M (16 + 4 * (M (x1+1) (a2).toNatClampNeg).toNatClampNeg) 3) + r_11) 2 M hx_x1 hk_x1 e_12) (cwV 5 hts gX4_bound_X4_leastSpan rfl rfl rfl (by decide +kernel) ⟨Nat.le_of_ble_eq_true rfl, Nat.le_of_ble_eq_true rfl⟩) ⟨mk_W.blind, mk_rc4 hK hP (by decide) rfl, fun U hU hW => ⟨rfl, mk_W.at hU hW hP hK (hD _ _) hN⟩⟩ rfl rfl hl.1 rfl (lv_room (Nat.le_of_ble_eq_true rfl)) dX4_bound_63 ⟨Nat.zero_le _, Nat.zero_le _⟩) hS (fun q _ h => h) (fun q h => h) (fun v_14 u t H1 locs ht hvm hw hB hz1 hk1 hS => ?_)
    subst v_14
    rw [ht] at hB
    replace hP := hB
    clear hB hz1 hk1 hvm ht
    generalize H1 = H at hP hS ⊢
    replace h := Option.some.inj h
    subst q
    exact W.iret (v := r_13) hx hb hr (fun t ht hW => ⟨⟨_, (), rfl, rfl, by rw [← ht] at hP; exact hP⟩, hS.F ht⟩) hS.2.2 dX4_bound_66
  · replace h := (if_pos c_7).symm.trans h
    refine lv_iconst (v := -1) hx hb dX4_bound_21 (by decide) ?_
    replace h := Option.some.inj h
    subst q
    exact W.iret (v := (-1)) hx hb hr (fun t ht hW => ⟨⟨_, (), rfl, rfl, by rw [← ht] at hP; exact hP⟩, hS.F ht⟩) hS.2.2 dX4_bound_22
abbrev rm_X4_lastThatPasses : Room := { frames := 4, cells := 0, slots := 0, locals := 104 }
theorem in_X4_lastThatPasses_X1 : ∀ w ∈ wsX10, w ∈ wsX4_lastThatPasses := by decide +kernel
theorem in_X4_lastThatPasses_X3 : ∀ w ∈ wsX30, w ∈ wsX4_lastThatPasses := by decide +kernel
theorem in_X4_lastThatPasses_X4 : ∀ w ∈ wsX40, w ∈ wsX4_lastThatPasses := by decide +kernel
def f_X4_lastThatPasses_2 (x1 : Nat) : Nat → Int32 → Int32 → mk_M → Option (Int32)
  | 0, _, _, _ => none
  | n + 1, l2, l3, M => (if l3 < 0 then (some (-1)) else (if mk_ob l3 12 then none else (if mk_ob (M (x1+1) (l3).toNatClampNeg) 13 then none else ((f_X4_lowResponse x1 l3 l2 M).bind (fun r_7 => (if (M (16 + 4 * (M (x1+1) (l3).toNatClampNeg).toNatClampNeg) 1) < r_7 then (f_X4_lastThatPasses_2 x1 n l2 (l3 + (-1)) M) else ((f_X4_bound x1 l3 l2 M).bind (fun r_10 => (if (M (16 + 4 * (M (x1+1) (l3).toNatClampNeg).toNatClampNeg) 1) < r_10 then (f_X4_lastThatPasses_2 x1 n l2 (l3 + (-1)) M) else (some l3))))))))))
set_option maxHeartbeats 4000000 in
set_option maxRecDepth 100000 in
theorem w_X4_lastThatPasses_2 {p : Program} {l : Launch} {e : Env} {s : State} {m : MethodId} {args : Array Value} {below : List Frame} {meth : Method} {c : Code} {D : va_G} {E : mk_E} {L : Nat → Int64} (C0 : mk_C p s m args meth c cX4_lastThatPasses 5 wsX4_lastThatPasses RX4 (some .int) D E) (x1 : Nat) (hx_x1 : x1 < 94) (hk_x1 : mk_kd x1 = 1) : ∀ n : Nat, ∀ (l2 : Int32) (l3 : Int32) (M : mk_M) (q : Int32), f_X4_lastThatPasses_2 x1 n l2 l3 M = some q → ∀ (H : Heap) (locs : List Loc) (ls : Array Slot), va_P D vwCl (mk_wl E M L) H → va_S (mk_A E) s.heap H locs → lv_has ls 5 [(0, .ref (E.1 1)), (1, .ref (E.1 x1)), (2, .int l2), (3, .int l3)] → W p l e rm_X4_lastThatPasses s m args below meth c H locs 0 0 (MQ below (mk_Qi D E L q M) args s 0 0 (mk_A E)) (F0 m 2 ls []) := by
  obtain ⟨hx, hb, hml, hown, hts, hr, hlk, hK, hD, hN⟩ := id C0
  have ha_x1 := mk_s1 hk_x1
  intro n
  induction n with
  | zero =>
    intro l2 l3 M q h
    cases h
  | succ n ih =>
    intro l2 l3 M q h H locs ls hP hS hl
    replace h : (if l3 < 0 then (some (-1)) else (if mk_ob l3 12 then none else (if mk_ob (M (x1+1) (l3).toNatClampNeg) 13 then none else ((f_X4_lowResponse x1 l3 l2 M).bind (fun r_7 => (if (M (16 + 4 * (M (x1+1) (l3).toNatClampNeg).toNatClampNeg) 1) < r_7 then (f_X4_lastThatPasses_2 x1 n l2 (l3 + (-1)) M) else ((f_X4_bound x1 l3 l2 M).bind (fun r_10 => (if (M (16 + 4 * (M (x1+1) (l3).toNatClampNeg).toNatClampNeg) 1) < r_10 then (f_X4_lastThatPasses_2 x1 n l2 (l3 + (-1)) M) else (some l3)))))))))) = some q := h
    refine lv_iload_n hx hb dX4_lastThatPasses_2 rfl (lv_at hl 3 rfl) ?_
    refine lv_if_lt (tgt := 54) hx hb dX4_lastThatPasses_3 (by decide) (fun c_1 => ?_) (fun c_1 => ?_)
    · replace h := (if_pos c_1).symm.trans h
      refine lv_iconst (v := -1) hx hb dX4_lastThatPasses_54 (by decide) ?_
      replace h := Option.some.inj h
      subst q
      exact W.iret (v := (-1)) hx hb hr (fun t ht hW => ⟨⟨_, (), rfl, rfl, by rw [← ht] at hP; exact hP⟩, hS.F ht⟩) hS.2.2 dX4_lastThatPasses_55
    · replace h := (if_neg c_1).symm.trans h
      refine lv_aload_n hx hb dX4_lastThatPasses_6 rfl (lv_at hl 0 rfl) ?_
      refine mk_g4_0 hx hb hts in_X4_lastThatPasses_X4 hown hK hP (by decide) rfl (hts (.fieldLink RX4 11 "MixedKernel$TaskSet" "all" "[LMixedKernel$Task;") (by decide +kernel)) dX4_lastThatPasses_7 ?_
      refine lv_aload_n hx hb dX4_lastThatPasses_10 rfl (lv_at hl 1 rfl) ?_
      refine mk_n1_0 hx hb hts in_X4_lastThatPasses_X1 hown hK hP hx_x1 hk_x1 (va_Nw.use rfl (hN (.fieldLinkNest "MixedKernel$TaskSet" 18 "MixedKernel$Line" "ids" "[I" "MixedKernel") (by decide +kernel))) dX4_lastThatPasses_11 ?_
      refine lv_iload_n hx hb dX4_lastThatPasses_14 rfl (lv_at hl 3 rfl) ?_
      obtain ⟨i_2, h⟩ := mk_ifn h
      refine mk_ia hx hb hK hP ha_x1.1 ha_x1.2.1 (by rw [ha_x1.2.2]; exact i_2) dX4_lastThatPasses_15 ?_
      obtain ⟨i_3, h⟩ := mk_ifn h
      have k_4 := mk_kd_task i_3
      have w_5 := mk_s3 k_4.1
      refine mk_aa hx hb hK hP (by decide) rfl i_3 dX4_lastThatPasses_16 ?_
      refine mk_n3_1 hx hb hts in_X4_lastThatPasses_X3 hown hK hP (Nat.lt_trans k_4.2 (by decide)) k_4.1 (va_Nw.use rfl (hN (.fieldLinkNest "MixedKernel$TaskSet" 49 "MixedKernel$Task" "deadline" "I" "MixedKernel") (by decide +kernel))) dX4_lastThatPasses_17 ?_
      refine lv_istore (lv' := [(4, .int (M (16 + 4 * (M (x1+1) (l3).toNatClampNeg).toNatClampNeg) 1)), (0, .ref (E.1 1)), (1, .ref (E.1 x1)), (2, .int l2), (3, .int l3)]) hx hb dX4_lastThatPasses_20 hl (by decide) rfl (fun ls hl => ?_)
      refine lv_aload_n hx hb dX4_lastThatPasses_22 rfl (lv_at hl 1 rfl) ?_
      refine lv_aload_n hx hb dX4_lastThatPasses_23 rfl (lv_at hl 2 rfl) ?_
      refine lv_iload_n hx hb dX4_lastThatPasses_24 rfl (lv_at hl 4 rfl) ?_
      refine lv_iload_n hx hb dX4_lastThatPasses_25 rfl (lv_at hl 3 rfl) ?_
      obtain ⟨r_7, e_6, h⟩ := mk_bind h
      refine va_calli (va_runV (As := [.ref (E.1 x1), .int l3, .int l2]) (rest := []) ⟨hx, hb, hml, hown, hts⟩ (c_X4_lowResponse l D E L x1 l3 l2 M hx_x1 hk_x1 e_6) (cwV 3 hts gX4_lastThatPasses_X4_lowResponse rfl rfl rfl (by decide +kernel) ⟨Nat.le_of_ble_eq_true rfl, Nat.le_of_ble_eq_true rfl⟩) ⟨mk_W.blind, mk_rc4 hK hP (by decide) rfl, fun U hU hW => ⟨rfl, mk_W.at hU hW hP hK (hD _ _) hN⟩⟩ rfl rfl hl.1 rfl (lv_room (Nat.le_of_ble_eq_true rfl)) dX4_lastThatPasses_26 ⟨Nat.zero_le _, Nat.zero_le _⟩) hS (fun q _ h => h) (fun q h => h) (fun v_13 u t H1 locs ht hvm hw hB hz1 hk1 hS => ?_)
      subst v_13
      rw [ht] at hB
      replace hP := hB
      clear hB hz1 hk1 hvm ht
      generalize H1 = H at hP hS ⊢
      refine lv_iload hx hb dX4_lastThatPasses_29 (lv_at hl 0 rfl) ?_
      refine lv_icmp_gt (tgt := 48) hx hb dX4_lastThatPasses_31 (by decide) (fun c_8 => ?_) (fun c_8 => ?_)
      · replace h := (if_pos c_8).symm.trans h
        refine lv_iinc (v := l3 + (-1)) (lv' := [(3, .int (l3 + (-1))), (4, .int (M (16 + 4 * (M (x1+1) (l3).toNatClampNeg).toNatClampNeg) 1)), (0, .ref (E.1 1)), (1, .ref (E.1 x1)), (2, .int l2)]) hx hb dX4_lastThatPasses_48 hl (k := 4) rfl rfl (by decide) rfl (fun ls hl => ?_)
        refine lv_goto (tgt := 2) hx hb dX4_lastThatPasses_51 (by decide) ?_
        exact ih l2 (l3 + (-1)) M _ h _ _ _ hP hS (lv_sub hl [2, 3, 4, 0] rfl)
      · replace h := (if_neg c_8).symm.trans h
        refine lv_aload_n hx hb dX4_lastThatPasses_34 rfl (lv_at hl 1 rfl) ?_
        refine lv_aload_n hx hb dX4_lastThatPasses_35 rfl (lv_at hl 2 rfl) ?_
        refine lv_iload_n hx hb dX4_lastThatPasses_36 rfl (lv_at hl 4 rfl) ?_
        refine lv_iload_n hx hb dX4_lastThatPasses_37 rfl (lv_at hl 3 rfl) ?_
        obtain ⟨r_10, e_9, h⟩ := mk_bind h
        refine va_calli (va_runV (As := [.ref (E.1 x1), .int l3, .int l2]) (rest := []) ⟨hx, hb, hml, hown, hts⟩ (c_X4_bound l D E L x1 l3 l2 M hx_x1 hk_x1 e_9) (cwV 3 hts gX4_lastThatPasses_X4_bound rfl rfl rfl (by decide +kernel) ⟨Nat.le_of_ble_eq_true rfl, Nat.le_of_ble_eq_true rfl⟩) ⟨mk_W.blind, mk_rc4 hK hP (by decide) rfl, fun U hU hW => ⟨rfl, mk_W.at hU hW hP hK (hD _ _) hN⟩⟩ rfl rfl hl.1 rfl (lv_room (Nat.le_of_ble_eq_true rfl)) dX4_lastThatPasses_38 ⟨Nat.zero_le _, Nat.zero_le _⟩) hS (fun q _ h => h) (fun q h => h) (fun v_12 u t H1 locs ht hvm hw hB hz1 hk1 hS => ?_)
        subst v_12
        rw [ht] at hB
        replace hP := hB
        clear hB hz1 hk1 hvm ht
        generalize H1 = H at hP hS ⊢
        refine lv_iload hx hb dX4_lastThatPasses_41 (lv_at hl 0 rfl) ?_
        refine lv_icmp_gt (tgt := 48) hx hb dX4_lastThatPasses_43 (by decide) (fun c_11 => ?_) (fun c_11 => ?_)
        · replace h := (if_pos c_11).symm.trans h
          refine lv_iinc (v := l3 + (-1)) (lv' := [(3, .int (l3 + (-1))), (4, .int (M (16 + 4 * (M (x1+1) (l3).toNatClampNeg).toNatClampNeg) 1)), (0, .ref (E.1 1)), (1, .ref (E.1 x1)), (2, .int l2)]) hx hb dX4_lastThatPasses_48 hl (k := 4) rfl rfl (by decide) rfl (fun ls hl => ?_)
          refine lv_goto (tgt := 2) hx hb dX4_lastThatPasses_51 (by decide) ?_
          exact ih l2 (l3 + (-1)) M _ h _ _ _ hP hS (lv_sub hl [2, 3, 4, 0] rfl)
        · replace h := (if_neg c_11).symm.trans h
          refine lv_iload_n hx hb dX4_lastThatPasses_46 rfl (lv_at hl 4 rfl) ?_
          replace h := Option.some.inj h
          subst q
          exact W.iret (v := l3) hx hb hr (fun t ht hW => ⟨⟨_, (), rfl, rfl, by rw [← ht] at hP; exact hP⟩, hS.F ht⟩) hS.2.2 dX4_lastThatPasses_47
def f_X4_lastThatPasses (x1 : Nat) (a2 : Int32) (M : mk_M) : Option (Int32) := (f_X4_lastThatPasses_2 x1 mk_F a2 a2 M)
set_option maxHeartbeats 4000000 in
set_option maxRecDepth 100000 in
theorem c_X4_lastThatPasses (l : Launch) (D : va_G) (E : mk_E) (L : Nat → Int64) (x1 : Nat) (a2 : Int32) (M : mk_M) (hx_x1 : x1 < 94) (hk_x1 : mk_kd x1 = 1) {q : Int32} (h : f_X4_lastThatPasses x1 a2 M = some q) : Met l yX4_lastThatPasses wsX4_lastThatPasses rm_X4_lastThatPasses (va_Pc [.ref (E.1 1), .ref (E.1 x1), .int a2] (mk_W D E M L)) (mk_Qi D E L q M) 0 0 (mk_A E) := by
  have ha_x1 := mk_s1 hk_x1
  refine Met.ofW (cc := cX4_lastThatPasses) (maxL := 5) (ret := (some .int)) (by decide) rfl ?_
  intro p e s m args below meth c s₁ B hml hv
  obtain ⟨rfl, hP, hK, hD0, hN⟩ := hv
  have hx := B.exec
  have hb := B.bytes
  have hr := B.returns
  have hts := atoms_spec (ws := wsX4_lastThatPasses) B.pre
  have hown : s.vm.findClass RX4 = some m.cls := findClass_of_methodNamed B.named
  have hlk := B.notSynchronized
  have hD : ∀ (M : mk_M) (L : Nat → Int64), va_D (mk_A E) (mk_wl E M L) := fun _ _ => mk_D hD0
  have C0 : mk_C p s m [.ref (E.1 1), .ref (E.1 x1), .int a2].toArray meth c cX4_lastThatPasses 5 wsX4_lastThatPasses RX4 (some .int) D E := ⟨hx, hb, hml, hown, hts, hr, hlk, hK, hD, hN⟩
  have hS : va_S (mk_A E) s.heap s.heap [] := va_S.rf
  have hl := lv_entry ([.ref (E.1 1), .ref (E.1 x1), .int a2]) (n := 5) (Nat.le_of_ble_eq_true rfl)
  rw [lg_entry_eq]
  generalize (lg_sl ([.ref (E.1 1), .ref (E.1 x1), .int a2]) ++ List.replicate (5 - (lg_sl ([.ref (E.1 1), .ref (E.1 x1), .int a2])).length) Slot.unset).toArray = ls at hl ⊢
  have hl : lv_has ls 5 [(0, .ref (E.1 1)), (1, .ref (E.1 x1)), (2, .int a2)] := hl
  replace h : (f_X4_lastThatPasses_2 x1 mk_F a2 a2 M) = some q := h
  refine lv_iload_n hx hb dX4_lastThatPasses_0 rfl (lv_at hl 2 rfl) ?_
  refine lv_istore_n (lv' := [(3, .int a2), (0, .ref (E.1 1)), (1, .ref (E.1 x1)), (2, .int a2)]) hx hb dX4_lastThatPasses_1 rfl hl (by decide) rfl (fun ls hl => ?_)
  exact w_X4_lastThatPasses_2 C0 x1 hx_x1 hk_x1 mk_F a2 a2 M _ h _ _ _ hP hS (lv_sub hl [1, 2, 3, 0] rfl)
abbrev rm_X4_firstLowResponseThatFails : Room := { frames := 4, cells := 0, slots := 0, locals := 101 }
theorem in_X4_firstLowResponseThatFails_X1 : ∀ w ∈ wsX10, w ∈ wsX4_firstLowResponseThatFails := by decide +kernel
theorem in_X4_firstLowResponseThatFails_X3 : ∀ w ∈ wsX30, w ∈ wsX4_firstLowResponseThatFails := by decide +kernel
theorem in_X4_firstLowResponseThatFails_X4 : ∀ w ∈ wsX40, w ∈ wsX4_firstLowResponseThatFails := by decide +kernel
def f_X4_firstLowResponseThatFails_2 (x1 : Nat) : Nat → Int32 → mk_M → Option (Int32)
  | 0, _, _ => none
  | n + 1, l2, M => (if (M x1 1) ≤ l2 then (some (-1)) else ((f_X4_lowResponse x1 l2 l2 M).bind (fun r_3 => (if mk_ob l2 12 then none else (if mk_ob (M (x1+1) (l2).toNatClampNeg) 13 then none else (if r_3 ≤ (M (16 + 4 * (M (x1+1) (l2).toNatClampNeg).toNatClampNeg) 1) then (f_X4_firstLowResponseThatFails_2 x1 n (l2 + 1) M) else (some l2)))))))
set_option maxHeartbeats 4000000 in
set_option maxRecDepth 100000 in
theorem w_X4_firstLowResponseThatFails_2 {p : Program} {l : Launch} {e : Env} {s : State} {m : MethodId} {args : Array Value} {below : List Frame} {meth : Method} {c : Code} {D : va_G} {E : mk_E} {L : Nat → Int64} (C0 : mk_C p s m args meth c cX4_firstLowResponseThatFails 3 wsX4_firstLowResponseThatFails RX4 (some .int) D E) (x1 : Nat) (hx_x1 : x1 < 94) (hk_x1 : mk_kd x1 = 1) : ∀ n : Nat, ∀ (l2 : Int32) (M : mk_M) (q : Int32), f_X4_firstLowResponseThatFails_2 x1 n l2 M = some q → ∀ (H : Heap) (locs : List Loc) (ls : Array Slot), va_P D vwCl (mk_wl E M L) H → va_S (mk_A E) s.heap H locs → lv_has ls 3 [(0, .ref (E.1 1)), (1, .ref (E.1 x1)), (2, .int l2)] → W p l e rm_X4_firstLowResponseThatFails s m args below meth c H locs 0 0 (MQ below (mk_Qi D E L q M) args s 0 0 (mk_A E)) (F0 m 2 ls []) := by
  obtain ⟨hx, hb, hml, hown, hts, hr, hlk, hK, hD, hN⟩ := id C0
  have ha_x1 := mk_s1 hk_x1
  intro n
  induction n with
  | zero =>
    intro l2 M q h
    cases h
  | succ n ih =>
    intro l2 M q h H locs ls hP hS hl
    replace h : (if (M x1 1) ≤ l2 then (some (-1)) else ((f_X4_lowResponse x1 l2 l2 M).bind (fun r_3 => (if mk_ob l2 12 then none else (if mk_ob (M (x1+1) (l2).toNatClampNeg) 13 then none else (if r_3 ≤ (M (16 + 4 * (M (x1+1) (l2).toNatClampNeg).toNatClampNeg) 1) then (f_X4_firstLowResponseThatFails_2 x1 n (l2 + 1) M) else (some l2))))))) = some q := h
    refine lv_iload_n hx hb dX4_firstLowResponseThatFails_2 rfl (lv_at hl 2 rfl) ?_
    refine lv_aload_n hx hb dX4_firstLowResponseThatFails_3 rfl (lv_at hl 1 rfl) ?_
    refine mk_n1_1 hx hb hts in_X4_firstLowResponseThatFails_X1 hown hK hP hx_x1 hk_x1 (va_Nw.use rfl (hN (.fieldLinkNest "MixedKernel$TaskSet" 42 "MixedKernel$Line" "size" "I" "MixedKernel") (by decide +kernel))) dX4_firstLowResponseThatFails_4 ?_
    refine lv_icmp_ge (tgt := 42) hx hb dX4_firstLowResponseThatFails_7 (by decide) (fun c_1 => ?_) (fun c_1 => ?_)
    · replace h := (if_pos c_1).symm.trans h
      refine lv_iconst (v := -1) hx hb dX4_firstLowResponseThatFails_42 (by decide) ?_
      replace h := Option.some.inj h
      subst q
      exact W.iret (v := (-1)) hx hb hr (fun t ht hW => ⟨⟨_, (), rfl, rfl, by rw [← ht] at hP; exact hP⟩, hS.F ht⟩) hS.2.2 dX4_firstLowResponseThatFails_43
    · replace h := (if_neg c_1).symm.trans h
      refine lv_aload_n hx hb dX4_firstLowResponseThatFails_10 rfl (lv_at hl 0 rfl) ?_
      refine lv_aload_n hx hb dX4_firstLowResponseThatFails_11 rfl (lv_at hl 1 rfl) ?_
      refine lv_iload_n hx hb dX4_firstLowResponseThatFails_12 rfl (lv_at hl 2 rfl) ?_
      refine lv_iload_n hx hb dX4_firstLowResponseThatFails_13 rfl (lv_at hl 2 rfl) ?_
      obtain ⟨r_3, e_2, h⟩ := mk_bind h
      refine va_calli (va_runV (As := [.ref (E.1 x1), .int l2, .int l2]) (rest := []) ⟨hx, hb, hml, hown, hts⟩ (c_X4_lowResponse l D E L x1 l2 l2 M hx_x1 hk_x1 e_2) (cwV 3 hts gX4_firstLowResponseThatFails_X4_lowResponse rfl rfl rfl (by decide +kernel) ⟨Nat.le_of_ble_eq_true rfl, Nat.le_of_ble_eq_true rfl⟩) ⟨mk_W.blind, mk_rc4 hK hP (by decide) rfl, fun U hU hW => ⟨rfl, mk_W.at hU hW hP hK (hD _ _) hN⟩⟩ rfl rfl hl.1 rfl (lv_room (Nat.le_of_ble_eq_true rfl)) dX4_firstLowResponseThatFails_14 ⟨Nat.zero_le _, Nat.zero_le _⟩) hS (fun q _ h => h) (fun q h => h) (fun v_9 u t H1 locs ht hvm hw hB hz1 hk1 hS => ?_)
      subst v_9
      rw [ht] at hB
      replace hP := hB
      clear hB hz1 hk1 hvm ht
      generalize H1 = H at hP hS ⊢
      refine lv_aload_n hx hb dX4_firstLowResponseThatFails_17 rfl (lv_at hl 0 rfl) ?_
      refine mk_g4_0 hx hb hts in_X4_firstLowResponseThatFails_X4 hown hK hP (by decide) rfl (hts (.fieldLink RX4 11 "MixedKernel$TaskSet" "all" "[LMixedKernel$Task;") (by decide +kernel)) dX4_firstLowResponseThatFails_18 ?_
      refine lv_aload_n hx hb dX4_firstLowResponseThatFails_21 rfl (lv_at hl 1 rfl) ?_
      refine mk_n1_0 hx hb hts in_X4_firstLowResponseThatFails_X1 hown hK hP hx_x1 hk_x1 (va_Nw.use rfl (hN (.fieldLinkNest "MixedKernel$TaskSet" 18 "MixedKernel$Line" "ids" "[I" "MixedKernel") (by decide +kernel))) dX4_firstLowResponseThatFails_22 ?_
      refine lv_iload_n hx hb dX4_firstLowResponseThatFails_25 rfl (lv_at hl 2 rfl) ?_
      obtain ⟨i_4, h⟩ := mk_ifn h
      refine mk_ia hx hb hK hP ha_x1.1 ha_x1.2.1 (by rw [ha_x1.2.2]; exact i_4) dX4_firstLowResponseThatFails_26 ?_
      obtain ⟨i_5, h⟩ := mk_ifn h
      have k_6 := mk_kd_task i_5
      have w_7 := mk_s3 k_6.1
      refine mk_aa hx hb hK hP (by decide) rfl i_5 dX4_firstLowResponseThatFails_27 ?_
      refine mk_n3_1 hx hb hts in_X4_firstLowResponseThatFails_X3 hown hK hP (Nat.lt_trans k_6.2 (by decide)) k_6.1 (va_Nw.use rfl (hN (.fieldLinkNest "MixedKernel$TaskSet" 49 "MixedKernel$Task" "deadline" "I" "MixedKernel") (by decide +kernel))) dX4_firstLowResponseThatFails_28 ?_
      refine lv_icmp_le (tgt := 36) hx hb dX4_firstLowResponseThatFails_31 (by decide) (fun c_8 => ?_) (fun c_8 => ?_)
      · replace h := (if_pos c_8).symm.trans h
        refine lv_iinc (v := l2 + 1) (lv' := [(2, .int (l2 + 1)), (0, .ref (E.1 1)), (1, .ref (E.1 x1))]) hx hb dX4_firstLowResponseThatFails_36 hl (k := 2) rfl rfl (by decide) rfl (fun ls hl => ?_)
        refine lv_goto (tgt := 2) hx hb dX4_firstLowResponseThatFails_39 (by decide) ?_
        exact ih (l2 + 1) M _ h _ _ _ hP hS (lv_sub hl [1, 2, 0] rfl)
      · replace h := (if_neg c_8).symm.trans h
        refine lv_iload_n hx hb dX4_firstLowResponseThatFails_34 rfl (lv_at hl 2 rfl) ?_
        replace h := Option.some.inj h
        subst q
        exact W.iret (v := l2) hx hb hr (fun t ht hW => ⟨⟨_, (), rfl, rfl, by rw [← ht] at hP; exact hP⟩, hS.F ht⟩) hS.2.2 dX4_firstLowResponseThatFails_35
def f_X4_firstLowResponseThatFails (x1 : Nat) (M : mk_M) : Option (Int32) := (f_X4_firstLowResponseThatFails_2 x1 mk_F 0 M)
set_option maxHeartbeats 4000000 in
set_option maxRecDepth 100000 in
theorem c_X4_firstLowResponseThatFails (l : Launch) (D : va_G) (E : mk_E) (L : Nat → Int64) (x1 : Nat) (M : mk_M) (hx_x1 : x1 < 94) (hk_x1 : mk_kd x1 = 1) {q : Int32} (h : f_X4_firstLowResponseThatFails x1 M = some q) : Met l yX4_firstLowResponseThatFails wsX4_firstLowResponseThatFails rm_X4_firstLowResponseThatFails (va_Pc [.ref (E.1 1), .ref (E.1 x1)] (mk_W D E M L)) (mk_Qi D E L q M) 0 0 (mk_A E) := by
  have ha_x1 := mk_s1 hk_x1
  refine Met.ofW (cc := cX4_firstLowResponseThatFails) (maxL := 3) (ret := (some .int)) (by decide) rfl ?_
  intro p e s m args below meth c s₁ B hml hv
  obtain ⟨rfl, hP, hK, hD0, hN⟩ := hv
  have hx := B.exec
  have hb := B.bytes
  have hr := B.returns
  have hts := atoms_spec (ws := wsX4_firstLowResponseThatFails) B.pre
  have hown : s.vm.findClass RX4 = some m.cls := findClass_of_methodNamed B.named
  have hlk := B.notSynchronized
  have hD : ∀ (M : mk_M) (L : Nat → Int64), va_D (mk_A E) (mk_wl E M L) := fun _ _ => mk_D hD0
  have C0 : mk_C p s m [.ref (E.1 1), .ref (E.1 x1)].toArray meth c cX4_firstLowResponseThatFails 3 wsX4_firstLowResponseThatFails RX4 (some .int) D E := ⟨hx, hb, hml, hown, hts, hr, hlk, hK, hD, hN⟩
  have hS : va_S (mk_A E) s.heap s.heap [] := va_S.rf
  have hl := lv_entry ([.ref (E.1 1), .ref (E.1 x1)]) (n := 3) (Nat.le_of_ble_eq_true rfl)
  rw [lg_entry_eq]
  generalize (lg_sl ([.ref (E.1 1), .ref (E.1 x1)]) ++ List.replicate (3 - (lg_sl ([.ref (E.1 1), .ref (E.1 x1)])).length) Slot.unset).toArray = ls at hl ⊢
  have hl : lv_has ls 3 [(0, .ref (E.1 1)), (1, .ref (E.1 x1))] := hl
  replace h : (f_X4_firstLowResponseThatFails_2 x1 mk_F 0 M) = some q := h
  refine lv_iconst (v := 0) hx hb dX4_firstLowResponseThatFails_0 (by decide) ?_
  refine lv_istore_n (lv' := [(2, .int 0), (0, .ref (E.1 1)), (1, .ref (E.1 x1))]) hx hb dX4_firstLowResponseThatFails_1 rfl hl (by decide) rfl (fun ls hl => ?_)
  exact w_X4_firstLowResponseThatFails_2 C0 x1 hx_x1 hk_x1 mk_F 0 M _ h _ _ _ hP hS (lv_sub hl [1, 2, 0] rfl)
abbrev rm_X4_firstBoundThatFails : Room := { frames := 4, cells := 0, slots := 0, locals := 104 }
theorem in_X4_firstBoundThatFails_X1 : ∀ w ∈ wsX10, w ∈ wsX4_firstBoundThatFails := by decide +kernel
theorem in_X4_firstBoundThatFails_X3 : ∀ w ∈ wsX30, w ∈ wsX4_firstBoundThatFails := by decide +kernel
theorem in_X4_firstBoundThatFails_X4 : ∀ w ∈ wsX40, w ∈ wsX4_firstBoundThatFails := by decide +kernel
def f_X4_firstBoundThatFails_2 (x1 : Nat) : Nat → Int32 → mk_M → Option (Int32)
  | 0, _, _ => none
  | n + 1, l2, M => (if (M x1 1) ≤ l2 then (some (-1)) else ((f_X4_bound x1 l2 l2 M).bind (fun r_3 => (if mk_ob l2 12 then none else (if mk_ob (M (x1+1) (l2).toNatClampNeg) 13 then none else (if r_3 ≤ (M (16 + 4 * (M (x1+1) (l2).toNatClampNeg).toNatClampNeg) 1) then (f_X4_firstBoundThatFails_2 x1 n (l2 + 1) M) else (some l2)))))))
set_option maxHeartbeats 4000000 in
set_option maxRecDepth 100000 in
theorem w_X4_firstBoundThatFails_2 {p : Program} {l : Launch} {e : Env} {s : State} {m : MethodId} {args : Array Value} {below : List Frame} {meth : Method} {c : Code} {D : va_G} {E : mk_E} {L : Nat → Int64} (C0 : mk_C p s m args meth c cX4_firstBoundThatFails 3 wsX4_firstBoundThatFails RX4 (some .int) D E) (x1 : Nat) (hx_x1 : x1 < 94) (hk_x1 : mk_kd x1 = 1) : ∀ n : Nat, ∀ (l2 : Int32) (M : mk_M) (q : Int32), f_X4_firstBoundThatFails_2 x1 n l2 M = some q → ∀ (H : Heap) (locs : List Loc) (ls : Array Slot), va_P D vwCl (mk_wl E M L) H → va_S (mk_A E) s.heap H locs → lv_has ls 3 [(0, .ref (E.1 1)), (1, .ref (E.1 x1)), (2, .int l2)] → W p l e rm_X4_firstBoundThatFails s m args below meth c H locs 0 0 (MQ below (mk_Qi D E L q M) args s 0 0 (mk_A E)) (F0 m 2 ls []) := by
  obtain ⟨hx, hb, hml, hown, hts, hr, hlk, hK, hD, hN⟩ := id C0
  have ha_x1 := mk_s1 hk_x1
  intro n
  induction n with
  | zero =>
    intro l2 M q h
    cases h
  | succ n ih =>
    intro l2 M q h H locs ls hP hS hl
    replace h : (if (M x1 1) ≤ l2 then (some (-1)) else ((f_X4_bound x1 l2 l2 M).bind (fun r_3 => (if mk_ob l2 12 then none else (if mk_ob (M (x1+1) (l2).toNatClampNeg) 13 then none else (if r_3 ≤ (M (16 + 4 * (M (x1+1) (l2).toNatClampNeg).toNatClampNeg) 1) then (f_X4_firstBoundThatFails_2 x1 n (l2 + 1) M) else (some l2))))))) = some q := h
    refine lv_iload_n hx hb dX4_firstBoundThatFails_2 rfl (lv_at hl 2 rfl) ?_
    refine lv_aload_n hx hb dX4_firstBoundThatFails_3 rfl (lv_at hl 1 rfl) ?_
    refine mk_n1_1 hx hb hts in_X4_firstBoundThatFails_X1 hown hK hP hx_x1 hk_x1 (va_Nw.use rfl (hN (.fieldLinkNest "MixedKernel$TaskSet" 42 "MixedKernel$Line" "size" "I" "MixedKernel") (by decide +kernel))) dX4_firstBoundThatFails_4 ?_
    refine lv_icmp_ge (tgt := 42) hx hb dX4_firstBoundThatFails_7 (by decide) (fun c_1 => ?_) (fun c_1 => ?_)
    · replace h := (if_pos c_1).symm.trans h
      refine lv_iconst (v := -1) hx hb dX4_firstBoundThatFails_42 (by decide) ?_
      replace h := Option.some.inj h
      subst q
      exact W.iret (v := (-1)) hx hb hr (fun t ht hW => ⟨⟨_, (), rfl, rfl, by rw [← ht] at hP; exact hP⟩, hS.F ht⟩) hS.2.2 dX4_firstBoundThatFails_43
    · replace h := (if_neg c_1).symm.trans h
      refine lv_aload_n hx hb dX4_firstBoundThatFails_10 rfl (lv_at hl 0 rfl) ?_
      refine lv_aload_n hx hb dX4_firstBoundThatFails_11 rfl (lv_at hl 1 rfl) ?_
      refine lv_iload_n hx hb dX4_firstBoundThatFails_12 rfl (lv_at hl 2 rfl) ?_
      refine lv_iload_n hx hb dX4_firstBoundThatFails_13 rfl (lv_at hl 2 rfl) ?_
      obtain ⟨r_3, e_2, h⟩ := mk_bind h
      refine va_calli (va_runV (As := [.ref (E.1 x1), .int l2, .int l2]) (rest := []) ⟨hx, hb, hml, hown, hts⟩ (c_X4_bound l D E L x1 l2 l2 M hx_x1 hk_x1 e_2) (cwV 3 hts gX4_firstBoundThatFails_X4_bound rfl rfl rfl (by decide +kernel) ⟨Nat.le_of_ble_eq_true rfl, Nat.le_of_ble_eq_true rfl⟩) ⟨mk_W.blind, mk_rc4 hK hP (by decide) rfl, fun U hU hW => ⟨rfl, mk_W.at hU hW hP hK (hD _ _) hN⟩⟩ rfl rfl hl.1 rfl (lv_room (Nat.le_of_ble_eq_true rfl)) dX4_firstBoundThatFails_14 ⟨Nat.zero_le _, Nat.zero_le _⟩) hS (fun q _ h => h) (fun q h => h) (fun v_9 u t H1 locs ht hvm hw hB hz1 hk1 hS => ?_)
      subst v_9
      rw [ht] at hB
      replace hP := hB
      clear hB hz1 hk1 hvm ht
      generalize H1 = H at hP hS ⊢
      refine lv_aload_n hx hb dX4_firstBoundThatFails_17 rfl (lv_at hl 0 rfl) ?_
      refine mk_g4_0 hx hb hts in_X4_firstBoundThatFails_X4 hown hK hP (by decide) rfl (hts (.fieldLink RX4 11 "MixedKernel$TaskSet" "all" "[LMixedKernel$Task;") (by decide +kernel)) dX4_firstBoundThatFails_18 ?_
      refine lv_aload_n hx hb dX4_firstBoundThatFails_21 rfl (lv_at hl 1 rfl) ?_
      refine mk_n1_0 hx hb hts in_X4_firstBoundThatFails_X1 hown hK hP hx_x1 hk_x1 (va_Nw.use rfl (hN (.fieldLinkNest "MixedKernel$TaskSet" 18 "MixedKernel$Line" "ids" "[I" "MixedKernel") (by decide +kernel))) dX4_firstBoundThatFails_22 ?_
      refine lv_iload_n hx hb dX4_firstBoundThatFails_25 rfl (lv_at hl 2 rfl) ?_
      obtain ⟨i_4, h⟩ := mk_ifn h
      refine mk_ia hx hb hK hP ha_x1.1 ha_x1.2.1 (by rw [ha_x1.2.2]; exact i_4) dX4_firstBoundThatFails_26 ?_
      obtain ⟨i_5, h⟩ := mk_ifn h
      have k_6 := mk_kd_task i_5
      have w_7 := mk_s3 k_6.1
      refine mk_aa hx hb hK hP (by decide) rfl i_5 dX4_firstBoundThatFails_27 ?_
      refine mk_n3_1 hx hb hts in_X4_firstBoundThatFails_X3 hown hK hP (Nat.lt_trans k_6.2 (by decide)) k_6.1 (va_Nw.use rfl (hN (.fieldLinkNest "MixedKernel$TaskSet" 49 "MixedKernel$Task" "deadline" "I" "MixedKernel") (by decide +kernel))) dX4_firstBoundThatFails_28 ?_
      refine lv_icmp_le (tgt := 36) hx hb dX4_firstBoundThatFails_31 (by decide) (fun c_8 => ?_) (fun c_8 => ?_)
      · replace h := (if_pos c_8).symm.trans h
        refine lv_iinc (v := l2 + 1) (lv' := [(2, .int (l2 + 1)), (0, .ref (E.1 1)), (1, .ref (E.1 x1))]) hx hb dX4_firstBoundThatFails_36 hl (k := 2) rfl rfl (by decide) rfl (fun ls hl => ?_)
        refine lv_goto (tgt := 2) hx hb dX4_firstBoundThatFails_39 (by decide) ?_
        exact ih (l2 + 1) M _ h _ _ _ hP hS (lv_sub hl [1, 2, 0] rfl)
      · replace h := (if_neg c_8).symm.trans h
        refine lv_iload_n hx hb dX4_firstBoundThatFails_34 rfl (lv_at hl 2 rfl) ?_
        replace h := Option.some.inj h
        subst q
        exact W.iret (v := l2) hx hb hr (fun t ht hW => ⟨⟨_, (), rfl, rfl, by rw [← ht] at hP; exact hP⟩, hS.F ht⟩) hS.2.2 dX4_firstBoundThatFails_35
def f_X4_firstBoundThatFails (x1 : Nat) (M : mk_M) : Option (Int32) := (f_X4_firstBoundThatFails_2 x1 mk_F 0 M)
set_option maxHeartbeats 4000000 in
set_option maxRecDepth 100000 in
theorem c_X4_firstBoundThatFails (l : Launch) (D : va_G) (E : mk_E) (L : Nat → Int64) (x1 : Nat) (M : mk_M) (hx_x1 : x1 < 94) (hk_x1 : mk_kd x1 = 1) {q : Int32} (h : f_X4_firstBoundThatFails x1 M = some q) : Met l yX4_firstBoundThatFails wsX4_firstBoundThatFails rm_X4_firstBoundThatFails (va_Pc [.ref (E.1 1), .ref (E.1 x1)] (mk_W D E M L)) (mk_Qi D E L q M) 0 0 (mk_A E) := by
  have ha_x1 := mk_s1 hk_x1
  refine Met.ofW (cc := cX4_firstBoundThatFails) (maxL := 3) (ret := (some .int)) (by decide) rfl ?_
  intro p e s m args below meth c s₁ B hml hv
  obtain ⟨rfl, hP, hK, hD0, hN⟩ := hv
  have hx := B.exec
  have hb := B.bytes
  have hr := B.returns
  have hts := atoms_spec (ws := wsX4_firstBoundThatFails) B.pre
  have hown : s.vm.findClass RX4 = some m.cls := findClass_of_methodNamed B.named
  have hlk := B.notSynchronized
  have hD : ∀ (M : mk_M) (L : Nat → Int64), va_D (mk_A E) (mk_wl E M L) := fun _ _ => mk_D hD0
  have C0 : mk_C p s m [.ref (E.1 1), .ref (E.1 x1)].toArray meth c cX4_firstBoundThatFails 3 wsX4_firstBoundThatFails RX4 (some .int) D E := ⟨hx, hb, hml, hown, hts, hr, hlk, hK, hD, hN⟩
  have hS : va_S (mk_A E) s.heap s.heap [] := va_S.rf
  have hl := lv_entry ([.ref (E.1 1), .ref (E.1 x1)]) (n := 3) (Nat.le_of_ble_eq_true rfl)
  rw [lg_entry_eq]
  generalize (lg_sl ([.ref (E.1 1), .ref (E.1 x1)]) ++ List.replicate (3 - (lg_sl ([.ref (E.1 1), .ref (E.1 x1)])).length) Slot.unset).toArray = ls at hl ⊢
  have hl : lv_has ls 3 [(0, .ref (E.1 1)), (1, .ref (E.1 x1))] := hl
  replace h : (f_X4_firstBoundThatFails_2 x1 mk_F 0 M) = some q := h
  refine lv_iconst (v := 0) hx hb dX4_firstBoundThatFails_0 (by decide) ?_
  refine lv_istore_n (lv' := [(2, .int 0), (0, .ref (E.1 1)), (1, .ref (E.1 x1))]) hx hb dX4_firstBoundThatFails_1 rfl hl (by decide) rfl (fun ls hl => ?_)
  exact w_X4_firstBoundThatFails_2 C0 x1 hx_x1 hk_x1 mk_F 0 M _ h _ _ _ hP hS (lv_sub hl [1, 2, 0] rfl)
