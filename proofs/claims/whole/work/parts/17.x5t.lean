abbrev rm_X5_run : Room := { frames := 6, cells := 1, slots := 6, locals := 132 }
theorem xa_X5_run_1 : ∀ w ∈ (vx_at0 RX5 68 "java/lang/IllegalArgumentException" ["java/lang/RuntimeException", "java/lang/Exception"]).filter goodWord, w ∈ wsX5_run := by decide +kernel
theorem xb_X5_run_1 : ∀ w ∈ (vx_at0 RX5 68 "java/lang/IllegalArgumentException" ["java/lang/RuntimeException", "java/lang/Exception"]).filter (fun w => !goodWord w), w ∈ mk_bad := by decide +kernel
theorem xg_X5_run_1 : ∀ w ∈ Cond.classLink RX5 66 "java/lang/IllegalArgumentException" :: Cond.initialized "java/lang/IllegalArgumentException" :: vx_at0 RX5 68 "java/lang/IllegalArgumentException" ["java/lang/RuntimeException", "java/lang/Exception"], vx_ot w = true := by decide +kernel
def f_X5_run_23 : Nat → Int32 → Int32 → Int32 → mk_M → Option ((Nat × Int32) × mk_M)
  | 0, _, _, _, _ => none
  | n + 1, l1, l2, l3, M => (if l1 ≤ l3 then (some ((0, l2), M)) else ((f_X5_advance M).bind (fun r_5 => (if r_5.1 = 0 then (f_X5_run_23 n l1 (l2 + 1) (l3 + 1) r_5.2) else (f_X5_run_23 n l1 l2 (l3 + 1) r_5.2)))))
set_option maxHeartbeats 4000000 in
set_option maxRecDepth 100000 in
theorem w_X5_run_23 {p : Program} {l : Launch} {e : Env} {s : State} {m : MethodId} {args : Array Value} {below : List Frame} {meth : Method} {c : Code} {D : va_G} {E : mk_E} {L : Nat → Int64} (C0 : mk_C p s m args meth c cX5_run 4 wsX5_run RX5 (some .int) D E) : ∀ n : Nat, ∀ (l1 : Int32) (l2 : Int32) (l3 : Int32) (M : mk_M) (q : (Nat × Int32) × mk_M), f_X5_run_23 n l1 l2 l3 M = some q → ∀ (H : Heap) (locs : List Loc) (ls : Array Slot), va_P D vwCl (mk_wl E M L) H → va_S (mk_A E) s.heap H locs → lv_has ls 4 [(0, .ref (E.1 0)), (1, .int l1), (2, .int l2), (3, .int l3)] → W p l e rm_X5_run s m args below meth c H locs 0 0 (vx_MQ below (mk_Qt D E L q) (mk_X D E L q) args s 1 6 (mk_A E)) (F0 m 23 ls []) := by
  obtain ⟨hx, hb, hml, hown, hts, hr, hlk, hK, hD, hN⟩ := id C0
  intro n
  induction n with
  | zero =>
    intro l1 l2 l3 M q h
    cases h
  | succ n ih =>
    intro l1 l2 l3 M q h H locs ls hP hS hl
    replace h : (if l1 ≤ l3 then (some ((0, l2), M)) else ((f_X5_advance M).bind (fun r_5 => (if r_5.1 = 0 then (f_X5_run_23 n l1 (l2 + 1) (l3 + 1) r_5.2) else (f_X5_run_23 n l1 l2 (l3 + 1) r_5.2))))) = some q := h
    refine lv_iload_n hx hb dX5_run_23 rfl (lv_at hl 3 rfl) ?_
    refine lv_iload_n hx hb dX5_run_24 rfl (lv_at hl 1 rfl) ?_
    refine lv_icmp_ge (tgt := 44) hx hb dX5_run_25 (by decide) (fun c_3 => ?_) (fun c_3 => ?_)
    · replace h := (if_pos c_3).symm.trans h
      refine lv_iload_n hx hb dX5_run_44 rfl (lv_at hl 2 rfl) ?_
      replace h := Option.some.inj h
      subst q
      exact W.widen (k := 1) (n := 6) (Nat.zero_le _) (Nat.zero_le _) (vx_ret (W.iret (v := l2) hx hb hr (fun t ht hW => ⟨⟨_, (), rfl, ⟨rfl, rfl⟩, by rw [← ht] at hP; exact hP⟩, hS.F ht⟩) hS.2.2 dX5_run_45))
    · replace h := (if_neg c_3).symm.trans h
      refine lv_aload_n hx hb dX5_run_28 rfl (lv_at hl 0 rfl) ?_
      obtain ⟨r_5, e_4, h⟩ := mk_bind h
      refine va_calli (va_runV (As := []) (rest := []) ⟨hx, hb, hml, hown, hts⟩ (c_X5_advance l D E L  M  e_4) (cwV 0 hts gX5_run_X5_advance rfl rfl rfl (by decide +kernel) ⟨Nat.le_of_ble_eq_true rfl, Nat.le_of_ble_eq_true rfl⟩) ⟨mk_W.blind, mk_rc5 hK hP (by decide) rfl, fun U hU hW => ⟨rfl, mk_W.at hU hW hP hK (hD _ _) hN⟩⟩ rfl rfl hl.1 rfl (lv_room (Nat.le_of_ble_eq_true rfl)) dX5_run_29 ⟨Nat.zero_le _, Nat.zero_le _⟩) hS (fun q _ h => h) (fun q h => h) (fun v_7 u t H1 locs ht hvm hw hB hz1 hk1 hS => ?_)
      subst v_7
      rw [ht] at hB
      replace hP := hB
      clear hB hz1 hk1 hvm ht
      generalize H1 = H at hP hS ⊢
      refine lv_if_ne (tgt := 38) hx hb dX5_run_32 (by decide) (fun c_6 => ?_) (fun c_6 => ?_)
      · replace h := (if_neg c_6).symm.trans h
        refine lv_iinc (v := l3 + 1) (lv' := [(3, .int (l3 + 1)), (0, .ref (E.1 0)), (1, .int l1), (2, .int l2)]) hx hb dX5_run_38 hl (k := 3) rfl rfl (by decide) rfl (fun ls hl => ?_)
        refine lv_goto (tgt := 23) hx hb dX5_run_41 (by decide) ?_
        exact ih l1 l2 (l3 + 1) r_5.2 _ h _ _ _ hP hS (lv_sub hl [1, 2, 3, 0] rfl)
      · replace h := (if_pos c_6).symm.trans h
        refine lv_iinc (v := l2 + 1) (lv' := [(2, .int (l2 + 1)), (0, .ref (E.1 0)), (1, .int l1), (3, .int l3)]) hx hb dX5_run_35 hl (k := 2) rfl rfl (by decide) rfl (fun ls hl => ?_)
        refine lv_iinc (v := l3 + 1) (lv' := [(3, .int (l3 + 1)), (2, .int (l2 + 1)), (0, .ref (E.1 0)), (1, .int l1)]) hx hb dX5_run_38 hl (k := 3) rfl rfl (by decide) rfl (fun ls hl => ?_)
        refine lv_goto (tgt := 23) hx hb dX5_run_41 (by decide) ?_
        exact ih l1 (l2 + 1) (l3 + 1) r_5.2 _ h _ _ _ hP hS (lv_sub hl [2, 3, 1, 0] rfl)
def f_X5_run (a1 : Int32) (M : mk_M) : Option ((Nat × Int32) × mk_M) := (if a1 < 0 then (some ((1, 0), M)) else (if a1 ≤ 1000 then (f_X5_run_23 mk_F a1 0 0 M) else (some ((1, 0), M))))
set_option maxHeartbeats 4000000 in
set_option maxRecDepth 100000 in
theorem c_X5_run (l : Launch) (hst : l.stackTraces = false) (D : va_G) (E : mk_E) (L : Nat → Int64) (a1 : Int32) (M : mk_M) {q : (Nat × Int32) × mk_M} (h : f_X5_run a1 M = some q) : vx_Met l yX5_run wsX5_run rm_X5_run (va_Pc [.ref (E.1 0), .int a1] (mk_WT D E M L)) (mk_Qt D E L q) (mk_X D E L q) 1 6 (mk_A E) := by
  refine vx_ofW (cc := cX5_run) (maxL := 4) (ret := (some .int)) (by decide) rfl ?_
  intro p e s m args below meth c s₁ B hml hno hv
  obtain ⟨rfl, ⟨hP, hK, hD0, hN⟩, hT⟩ := hv
  have hx := B.exec
  have hb := B.bytes
  have hr := B.returns
  have hts := atoms_spec (ws := wsX5_run) B.pre
  have hown : s.vm.findClass RX5 = some m.cls := findClass_of_methodNamed B.named
  have hlk := B.notSynchronized
  have hD : ∀ (M : mk_M) (L : Nat → Int64), va_D (mk_A E) (mk_wl E M L) := fun _ _ => mk_D hD0
  have C0 : mk_C p s m [.ref (E.1 0), .int a1].toArray meth c cX5_run 4 wsX5_run RX5 (some .int) D E := ⟨hx, hb, hml, hown, hts, hr, hlk, hK, hD, hN⟩
  have hS : va_S (mk_A E) s.heap s.heap [] := va_S.rf
  have hl := lv_entry ([.ref (E.1 0), .int a1]) (n := 4) (Nat.le_of_ble_eq_true rfl)
  rw [lg_entry_eq]
  generalize (lg_sl ([.ref (E.1 0), .int a1]) ++ List.replicate (4 - (lg_sl ([.ref (E.1 0), .int a1])).length) Slot.unset).toArray = ls at hl ⊢
  have hl : lv_has ls 4 [(0, .ref (E.1 0)), (1, .int a1)] := hl
  replace h : (if a1 < 0 then (some ((1, 0), M)) else (if a1 ≤ 1000 then (f_X5_run_23 mk_F a1 0 0 M) else (some ((1, 0), M)))) = some q := h
  refine lv_iload_n hx hb dX5_run_0 rfl (lv_at hl 1 rfl) ?_
  refine lv_if_lt (tgt := 11) hx hb dX5_run_1 (by decide) (fun c_1 => ?_) (fun c_1 => ?_)
  · replace h := (if_pos c_1).symm.trans h
    replace h := Option.some.inj h
    subst q
    exact vx_throw0 (names := ["java/lang/RuntimeException", "java/lang/Exception"]) (A := mk_A E) hx hb hst hown (by decide +kernel) (by decide +kernel) (hts (.classLink RX5 66 "java/lang/IllegalArgumentException") (by decide +kernel)) (hts (.initialized "java/lang/IllegalArgumentException") (by decide +kernel)) (vx_hat (fun w h9 => hts w (xa_X5_run_1 w h9)) xb_X5_run_1 (fun w h9 => hT.2.2 w h9 _)) xg_X5_run_1 hT.1 hT.2.1 hS (hl.1.trans hml.symm) dX5_run_11 dX5_run_14 dX5_run_15 dX5_run_18 (fun x h9 => (hno x h9).elim) (Nat.le_of_ble_eq_true rfl) (Nat.le_of_ble_eq_true rfl) (Nat.le_of_ble_eq_true rfl) (Nat.le_of_ble_eq_true rfl) hlk (fun t _ h1 h2 => mk_thr (q := ((1, 0), M)) hP hS (Nat.succ_ne_zero _) h1 h2) hS.2.2 (Nat.le_of_ble_eq_true rfl) (Nat.le_of_ble_eq_true rfl)
  · replace h := (if_neg c_1).symm.trans h
    refine lv_iload_n hx hb dX5_run_4 rfl (lv_at hl 1 rfl) ?_
    refine lv_sipush (v := 1000) hx hb dX5_run_5 (by decide) ?_
    refine lv_icmp_le (tgt := 19) hx hb dX5_run_8 (by decide) (fun c_2 => ?_) (fun c_2 => ?_)
    · replace h := (if_pos c_2).symm.trans h
      refine lv_iconst (v := 0) hx hb dX5_run_19 (by decide) ?_
      refine lv_istore_n (lv' := [(2, .int 0), (0, .ref (E.1 0)), (1, .int a1)]) hx hb dX5_run_20 rfl hl (by decide) rfl (fun ls hl => ?_)
      refine lv_iconst (v := 0) hx hb dX5_run_21 (by decide) ?_
      refine lv_istore_n (lv' := [(3, .int 0), (2, .int 0), (0, .ref (E.1 0)), (1, .int a1)]) hx hb dX5_run_22 rfl hl (by decide) rfl (fun ls hl => ?_)
      exact w_X5_run_23 C0 mk_F a1 0 0 M _ h _ _ _ hP hS (lv_sub hl [2, 3, 1, 0] rfl)
    · replace h := (if_neg c_2).symm.trans h
      replace h := Option.some.inj h
      subst q
      exact vx_throw0 (names := ["java/lang/RuntimeException", "java/lang/Exception"]) (A := mk_A E) hx hb hst hown (by decide +kernel) (by decide +kernel) (hts (.classLink RX5 66 "java/lang/IllegalArgumentException") (by decide +kernel)) (hts (.initialized "java/lang/IllegalArgumentException") (by decide +kernel)) (vx_hat (fun w h9 => hts w (xa_X5_run_1 w h9)) xb_X5_run_1 (fun w h9 => hT.2.2 w h9 _)) xg_X5_run_1 hT.1 hT.2.1 hS (hl.1.trans hml.symm) dX5_run_11 dX5_run_14 dX5_run_15 dX5_run_18 (fun x h9 => (hno x h9).elim) (Nat.le_of_ble_eq_true rfl) (Nat.le_of_ble_eq_true rfl) (Nat.le_of_ble_eq_true rfl) (Nat.le_of_ble_eq_true rfl) hlk (fun t _ h1 h2 => mk_thr (q := ((1, 0), M)) hP hS (Nat.succ_ne_zero _) h1 h2) hS.2.2 (Nat.le_of_ble_eq_true rfl) (Nat.le_of_ble_eq_true rfl)
abbrev rm_X5_ended : Room := { frames := 6, cells := 1, slots := 6, locals := 81 }
theorem xa_X5_ended_3 : ∀ w ∈ (vx_at0 RX5 99 "java/util/NoSuchElementException" ["java/lang/RuntimeException", "java/lang/Exception"]).filter goodWord, w ∈ wsX5_ended := by decide +kernel
theorem xb_X5_ended_3 : ∀ w ∈ (vx_at0 RX5 99 "java/util/NoSuchElementException" ["java/lang/RuntimeException", "java/lang/Exception"]).filter (fun w => !goodWord w), w ∈ mk_bad := by decide +kernel
theorem xg_X5_ended_3 : ∀ w ∈ Cond.classLink RX5 97 "java/util/NoSuchElementException" :: Cond.initialized "java/util/NoSuchElementException" :: vx_at0 RX5 99 "java/util/NoSuchElementException" ["java/lang/RuntimeException", "java/lang/Exception"], vx_ot w = true := by decide +kernel
theorem in_X5_ended_X3 : ∀ w ∈ wsX30, w ∈ wsX5_ended := by decide +kernel
theorem in_X5_ended_X5 : ∀ w ∈ wsX50, w ∈ wsX5_ended := by decide +kernel
def f_X5_ended (a1 : Int32) (a2 : Int32) (M : mk_M) : Option ((Nat × Int32) × mk_M) := ((f_X5_isKnown a1 M).bind (fun r_2 => (if r_2 = 0 then (some ((3, 0), M)) else (if mk_ob a1 13 then none else ((f_X3_keeps (16 + 4 * (a1).toNatClampNeg) a2 M).bind (fun r_8 => (if r_8 = 0 then (some ((3, 0), M)) else (if mk_ob a1 13 then none else ((f_X5_slotOf a2 M).bind (fun r_14 => (if mk_ob r_14 8 then none else (some ((0, M ((16 + 4 * (a1).toNatClampNeg)+3) (r_14).toNatClampNeg), M)))))))))))))
set_option maxHeartbeats 4000000 in
set_option maxRecDepth 100000 in
theorem c_X5_ended (l : Launch) (hst : l.stackTraces = false) (D : va_G) (E : mk_E) (L : Nat → Int64) (a1 : Int32) (a2 : Int32) (M : mk_M) {q : (Nat × Int32) × mk_M} (h : f_X5_ended a1 a2 M = some q) : vx_Met l yX5_ended wsX5_ended rm_X5_ended (va_Pc [.ref (E.1 0), .int a1, .int a2] (mk_WT D E M L)) (mk_Qt D E L q) (mk_X D E L q) 1 6 (mk_A E) := by
  refine vx_ofW (cc := cX5_ended) (maxL := 3) (ret := (some .int)) (by decide) rfl ?_
  intro p e s m args below meth c s₁ B hml hno hv
  obtain ⟨rfl, ⟨hP, hK, hD0, hN⟩, hT⟩ := hv
  have hx := B.exec
  have hb := B.bytes
  have hr := B.returns
  have hts := atoms_spec (ws := wsX5_ended) B.pre
  have hown : s.vm.findClass RX5 = some m.cls := findClass_of_methodNamed B.named
  have hlk := B.notSynchronized
  have hD : ∀ (M : mk_M) (L : Nat → Int64), va_D (mk_A E) (mk_wl E M L) := fun _ _ => mk_D hD0
  have C0 : mk_C p s m [.ref (E.1 0), .int a1, .int a2].toArray meth c cX5_ended 3 wsX5_ended RX5 (some .int) D E := ⟨hx, hb, hml, hown, hts, hr, hlk, hK, hD, hN⟩
  have hS : va_S (mk_A E) s.heap s.heap [] := va_S.rf
  have hl := lv_entry ([.ref (E.1 0), .int a1, .int a2]) (n := 3) (Nat.le_of_ble_eq_true rfl)
  rw [lg_entry_eq]
  generalize (lg_sl ([.ref (E.1 0), .int a1, .int a2]) ++ List.replicate (3 - (lg_sl ([.ref (E.1 0), .int a1, .int a2])).length) Slot.unset).toArray = ls at hl ⊢
  have hl : lv_has ls 3 [(0, .ref (E.1 0)), (1, .int a1), (2, .int a2)] := hl
  replace h : ((f_X5_isKnown a1 M).bind (fun r_2 => (if r_2 = 0 then (some ((3, 0), M)) else (if mk_ob a1 13 then none else ((f_X3_keeps (16 + 4 * (a1).toNatClampNeg) a2 M).bind (fun r_8 => (if r_8 = 0 then (some ((3, 0), M)) else (if mk_ob a1 13 then none else ((f_X5_slotOf a2 M).bind (fun r_14 => (if mk_ob r_14 8 then none else (some ((0, M ((16 + 4 * (a1).toNatClampNeg)+3) (r_14).toNatClampNeg), M))))))))))))) = some q := h
  refine lv_aload_n hx hb dX5_ended_0 rfl (lv_at hl 0 rfl) ?_
  refine lv_iload_n hx hb dX5_ended_1 rfl (lv_at hl 1 rfl) ?_
  obtain ⟨r_2, e_1, h⟩ := mk_bind h
  refine va_calli (va_runV (As := [.int a1]) (rest := []) ⟨hx, hb, hml, hown, hts⟩ (c_X5_isKnown l D E L a1 M  e_1) (cwV 1 hts gX5_ended_X5_isKnown rfl rfl rfl (by decide +kernel) ⟨Nat.le_of_ble_eq_true rfl, Nat.le_of_ble_eq_true rfl⟩) ⟨mk_W.blind, mk_rc5 hK hP (by decide) rfl, fun U hU hW => ⟨rfl, mk_W.at hU hW hP hK (hD _ _) hN⟩⟩ rfl rfl hl.1 rfl (lv_room (Nat.le_of_ble_eq_true rfl)) dX5_ended_2 ⟨Nat.zero_le _, Nat.zero_le _⟩) hS (fun q _ h => h) (fun q h => h) (fun v_18 u t H1 locs ht hvm hw hB hz1 hk1 hS => ?_)
  subst v_18
  rw [ht] at hB
  replace hP := hB
  clear hB hz1 hk1 hvm ht
  generalize H1 = H at hP hS ⊢
  refine lv_if_eq (tgt := 21) hx hb dX5_ended_5 (by decide) (fun c_3 => ?_) (fun c_3 => ?_)
  · replace h := (if_pos c_3).symm.trans h
    replace h := Option.some.inj h
    subst q
    exact vx_throw0 (names := ["java/lang/RuntimeException", "java/lang/Exception"]) (A := mk_A E) hx hb hst hown (by decide +kernel) (by decide +kernel) (hts (.classLink RX5 97 "java/util/NoSuchElementException") (by decide +kernel)) (hts (.initialized "java/util/NoSuchElementException") (by decide +kernel)) (vx_hat (fun w h9 => hts w (xa_X5_ended_3 w h9)) xb_X5_ended_3 (fun w h9 => hT.2.2 w h9 _)) xg_X5_ended_3 hT.1 hT.2.1 hS (hl.1.trans hml.symm) dX5_ended_21 dX5_ended_24 dX5_ended_25 dX5_ended_28 (fun x h9 => (hno x h9).elim) (Nat.le_of_ble_eq_true rfl) (Nat.le_of_ble_eq_true rfl) (Nat.le_of_ble_eq_true rfl) (Nat.le_of_ble_eq_true rfl) hlk (fun t _ h1 h2 => mk_thr (q := ((3, 0), M)) hP hS (Nat.succ_ne_zero _) h1 h2) hS.2.2 (Nat.le_of_ble_eq_true rfl) (Nat.le_of_ble_eq_true rfl)
  · replace h := (if_neg c_3).symm.trans h
    refine lv_aload_n hx hb dX5_ended_8 rfl (lv_at hl 0 rfl) ?_
    refine mk_g5_1 hx hb hts in_X5_ended_X5 hown hK hP (by decide) rfl (hts (.fieldLink RX5 20 "MixedKernel" "tasks" "[LMixedKernel$Task;") (by decide +kernel)) dX5_ended_9 ?_
    refine lv_iload_n hx hb dX5_ended_12 rfl (lv_at hl 1 rfl) ?_
    obtain ⟨i_4, h⟩ := mk_ifn h
    have k_5 := mk_kd_task i_4
    have w_6 := mk_s3 k_5.1
    refine mk_aa hx hb hK hP (by decide) rfl i_4 dX5_ended_13 ?_
    refine lv_iload_n hx hb dX5_ended_14 rfl (lv_at hl 2 rfl) ?_
    obtain ⟨r_8, e_7, h⟩ := mk_bind h
    refine va_calli (va_runV (As := [.int a2]) (rest := []) ⟨hx, hb, hml, hown, hts⟩ (c_X3_keeps l D E L (16 + 4 * (a1).toNatClampNeg) a2 M (Nat.lt_trans k_5.2 (by decide)) k_5.1 e_7) (cwV 1 hts gX5_ended_X3_keeps rfl rfl rfl (by decide +kernel) ⟨Nat.le_of_ble_eq_true rfl, Nat.le_of_ble_eq_true rfl⟩) ⟨mk_W.blind, mk_rc3 hK hP (Nat.lt_trans k_5.2 (by decide)) k_5.1, fun U hU hW => ⟨rfl, mk_W.at hU hW hP hK (hD _ _) hN⟩⟩ rfl rfl hl.1 rfl (lv_room (Nat.le_of_ble_eq_true rfl)) dX5_ended_15 ⟨Nat.zero_le _, Nat.zero_le _⟩) hS (fun q _ h => h) (fun q h => h) (fun v_17 u t H1 locs ht hvm hw hB hz1 hk1 hS => ?_)
    subst v_17
    rw [ht] at hB
    replace hP := hB
    clear hB hz1 hk1 hvm ht
    generalize H1 = H at hP hS ⊢
    refine lv_if_ne (tgt := 29) hx hb dX5_ended_18 (by decide) (fun c_9 => ?_) (fun c_9 => ?_)
    · replace h := (if_neg c_9).symm.trans h
      refine lv_aload_n hx hb dX5_ended_29 rfl (lv_at hl 0 rfl) ?_
      refine mk_g5_1 hx hb hts in_X5_ended_X5 hown hK hP (by decide) rfl (hts (.fieldLink RX5 20 "MixedKernel" "tasks" "[LMixedKernel$Task;") (by decide +kernel)) dX5_ended_30 ?_
      refine lv_iload_n hx hb dX5_ended_33 rfl (lv_at hl 1 rfl) ?_
      obtain ⟨i_10, h⟩ := mk_ifn h
      have k_11 := mk_kd_task i_10
      have w_12 := mk_s3 k_11.1
      refine mk_aa hx hb hK hP (by decide) rfl i_10 dX5_ended_34 ?_
      refine mk_n3_13 hx hb hts in_X5_ended_X3 hown hK hP (Nat.lt_trans k_11.2 (by decide)) k_11.1 (va_Nw.use rfl (hN (.fieldLinkNest "MixedKernel" 163 "MixedKernel$Task" "endTimes" "[I" "MixedKernel") (by decide +kernel))) dX5_ended_35 ?_
      refine lv_iload_n hx hb dX5_ended_38 rfl (lv_at hl 2 rfl) ?_
      obtain ⟨r_14, e_13, h⟩ := mk_bind h
      refine va_calli (va_runS (As := [.int a2]) (rest := [.ref (E.1 ((16 + 4 * (a1).toNatClampNeg)+3))]) ⟨hx, hb, hml, hown, hts⟩ (c_X5_slotOf l D E L a2 M  e_13) (cwS 1 hts gX5_ended_X5_slotOf rfl rfl rfl (by decide +kernel) ⟨Nat.le_of_ble_eq_true rfl, Nat.le_of_ble_eq_true rfl⟩) ⟨mk_W.blind, fun U hU hW => ⟨rfl, mk_W.at hU hW hP hK (hD _ _) hN⟩⟩ rfl rfl hl.1 rfl (lv_room (Nat.le_of_ble_eq_true rfl)) dX5_ended_39 ⟨Nat.zero_le _, Nat.zero_le _⟩) hS (fun q _ h => h) (fun q h => h) (fun v_16 u t H1 locs ht hvm hw hB hz1 hk1 hS => ?_)
      subst v_16
      rw [ht] at hB
      replace hP := hB
      clear hB hz1 hk1 hvm ht
      generalize H1 = H at hP hS ⊢
      obtain ⟨i_15, h⟩ := mk_ifn h
      refine mk_ia hx hb hK hP w_12.2.2.1 w_12.2.2.2.1 (by rw [w_12.2.2.2.2]; exact i_15) dX5_ended_42 ?_
      replace h := Option.some.inj h
      subst q
      exact W.widen (k := 1) (n := 6) (Nat.zero_le _) (Nat.zero_le _) (vx_ret (W.iret (v := M ((16 + 4 * (a1).toNatClampNeg)+3) (r_14).toNatClampNeg) hx hb hr (fun t ht hW => ⟨⟨_, (), rfl, ⟨rfl, rfl⟩, by rw [← ht] at hP; exact hP⟩, hS.F ht⟩) hS.2.2 dX5_ended_43))
    · replace h := (if_pos c_9).symm.trans h
      replace h := Option.some.inj h
      subst q
      exact vx_throw0 (names := ["java/lang/RuntimeException", "java/lang/Exception"]) (A := mk_A E) hx hb hst hown (by decide +kernel) (by decide +kernel) (hts (.classLink RX5 97 "java/util/NoSuchElementException") (by decide +kernel)) (hts (.initialized "java/util/NoSuchElementException") (by decide +kernel)) (vx_hat (fun w h9 => hts w (xa_X5_ended_3 w h9)) xb_X5_ended_3 (fun w h9 => hT.2.2 w h9 _)) xg_X5_ended_3 hT.1 hT.2.1 hS (hl.1.trans hml.symm) dX5_ended_21 dX5_ended_24 dX5_ended_25 dX5_ended_28 (fun x h9 => (hno x h9).elim) (Nat.le_of_ble_eq_true rfl) (Nat.le_of_ble_eq_true rfl) (Nat.le_of_ble_eq_true rfl) (Nat.le_of_ble_eq_true rfl) hlk (fun t _ h1 h2 => mk_thr (q := ((3, 0), M)) hP hS (Nat.succ_ne_zero _) h1 h2) hS.2.2 (Nat.le_of_ble_eq_true rfl) (Nat.le_of_ble_eq_true rfl)
abbrev rm_X5_changed : Room := { frames := 6, cells := 1, slots := 6, locals := 81 }
theorem xa_X5_changed_3 : ∀ w ∈ (vx_at0 RX5 99 "java/util/NoSuchElementException" ["java/lang/RuntimeException", "java/lang/Exception"]).filter goodWord, w ∈ wsX5_changed := by decide +kernel
theorem xb_X5_changed_3 : ∀ w ∈ (vx_at0 RX5 99 "java/util/NoSuchElementException" ["java/lang/RuntimeException", "java/lang/Exception"]).filter (fun w => !goodWord w), w ∈ mk_bad := by decide +kernel
theorem xg_X5_changed_3 : ∀ w ∈ Cond.classLink RX5 97 "java/util/NoSuchElementException" :: Cond.initialized "java/util/NoSuchElementException" :: vx_at0 RX5 99 "java/util/NoSuchElementException" ["java/lang/RuntimeException", "java/lang/Exception"], vx_ot w = true := by decide +kernel
theorem in_X5_changed_X5 : ∀ w ∈ wsX50, w ∈ wsX5_changed := by decide +kernel
def f_X5_changed (a1 : Int32) (M : mk_M) : Option ((Nat × Int32) × mk_M) := ((f_X0_keeps 14 a1 M).bind (fun r_2 => (if r_2 = 0 then (some ((3, 0), M)) else ((f_X0_back 14 a1 M).bind (fun r_5 => (some ((0, r_5), M)))))))
set_option maxHeartbeats 4000000 in
set_option maxRecDepth 100000 in
theorem c_X5_changed (l : Launch) (hst : l.stackTraces = false) (D : va_G) (E : mk_E) (L : Nat → Int64) (a1 : Int32) (M : mk_M) {q : (Nat × Int32) × mk_M} (h : f_X5_changed a1 M = some q) : vx_Met l yX5_changed wsX5_changed rm_X5_changed (va_Pc [.ref (E.1 0), .int a1] (mk_WT D E M L)) (mk_Qt D E L q) (mk_X D E L q) 1 6 (mk_A E) := by
  refine vx_ofW (cc := cX5_changed) (maxL := 2) (ret := (some .int)) (by decide) rfl ?_
  intro p e s m args below meth c s₁ B hml hno hv
  obtain ⟨rfl, ⟨hP, hK, hD0, hN⟩, hT⟩ := hv
  have hx := B.exec
  have hb := B.bytes
  have hr := B.returns
  have hts := atoms_spec (ws := wsX5_changed) B.pre
  have hown : s.vm.findClass RX5 = some m.cls := findClass_of_methodNamed B.named
  have hlk := B.notSynchronized
  have hD : ∀ (M : mk_M) (L : Nat → Int64), va_D (mk_A E) (mk_wl E M L) := fun _ _ => mk_D hD0
  have C0 : mk_C p s m [.ref (E.1 0), .int a1].toArray meth c cX5_changed 2 wsX5_changed RX5 (some .int) D E := ⟨hx, hb, hml, hown, hts, hr, hlk, hK, hD, hN⟩
  have hS : va_S (mk_A E) s.heap s.heap [] := va_S.rf
  have hl := lv_entry ([.ref (E.1 0), .int a1]) (n := 2) (Nat.le_of_ble_eq_true rfl)
  rw [lg_entry_eq]
  generalize (lg_sl ([.ref (E.1 0), .int a1]) ++ List.replicate (2 - (lg_sl ([.ref (E.1 0), .int a1])).length) Slot.unset).toArray = ls at hl ⊢
  have hl : lv_has ls 2 [(0, .ref (E.1 0)), (1, .int a1)] := hl
  replace h : ((f_X0_keeps 14 a1 M).bind (fun r_2 => (if r_2 = 0 then (some ((3, 0), M)) else ((f_X0_back 14 a1 M).bind (fun r_5 => (some ((0, r_5), M))))))) = some q := h
  refine lv_aload_n hx hb dX5_changed_0 rfl (lv_at hl 0 rfl) ?_
  refine mk_g5_7 hx hb hts in_X5_changed_X5 hown hK hP (by decide) rfl (hts (.fieldLink RX5 52 "MixedKernel" "changes" "LMixedKernel$Latest;") (by decide +kernel)) dX5_changed_1 ?_
  refine lv_iload_n hx hb dX5_changed_4 rfl (lv_at hl 1 rfl) ?_
  obtain ⟨r_2, e_1, h⟩ := mk_bind h
  refine va_calli (va_runV (As := [.int a1]) (rest := []) ⟨hx, hb, hml, hown, hts⟩ (c_X0_keeps l D E L 14 a1 M (by decide) rfl e_1) (cwV 1 hts gX5_changed_X0_keeps rfl rfl rfl (by decide +kernel) ⟨Nat.le_of_ble_eq_true rfl, Nat.le_of_ble_eq_true rfl⟩) ⟨mk_W.blind, mk_rc0 hK hP (by decide) rfl, fun U hU hW => ⟨rfl, mk_W.at hU hW hP hK (hD _ _) hN⟩⟩ rfl rfl hl.1 rfl (lv_room (Nat.le_of_ble_eq_true rfl)) dX5_changed_5 ⟨Nat.zero_le _, Nat.zero_le _⟩) hS (fun q _ h => h) (fun q h => h) (fun v_7 u t H1 locs ht hvm hw hB hz1 hk1 hS => ?_)
  subst v_7
  rw [ht] at hB
  replace hP := hB
  clear hB hz1 hk1 hvm ht
  generalize H1 = H at hP hS ⊢
  refine lv_if_ne (tgt := 19) hx hb dX5_changed_8 (by decide) (fun c_3 => ?_) (fun c_3 => ?_)
  · replace h := (if_neg c_3).symm.trans h
    refine lv_aload_n hx hb dX5_changed_19 rfl (lv_at hl 0 rfl) ?_
    refine mk_g5_7 hx hb hts in_X5_changed_X5 hown hK hP (by decide) rfl (hts (.fieldLink RX5 52 "MixedKernel" "changes" "LMixedKernel$Latest;") (by decide +kernel)) dX5_changed_20 ?_
    refine lv_iload_n hx hb dX5_changed_23 rfl (lv_at hl 1 rfl) ?_
    obtain ⟨r_5, e_4, h⟩ := mk_bind h
    refine va_calli (va_runV (As := [.int a1]) (rest := []) ⟨hx, hb, hml, hown, hts⟩ (c_X0_back l D E L 14 a1 M (by decide) rfl e_4) (cwV 1 hts gX5_changed_X0_back rfl rfl rfl (by decide +kernel) ⟨Nat.le_of_ble_eq_true rfl, Nat.le_of_ble_eq_true rfl⟩) ⟨mk_W.blind, mk_rc0 hK hP (by decide) rfl, fun U hU hW => ⟨rfl, mk_W.at hU hW hP hK (hD _ _) hN⟩⟩ rfl rfl hl.1 rfl (lv_room (Nat.le_of_ble_eq_true rfl)) dX5_changed_24 ⟨Nat.zero_le _, Nat.zero_le _⟩) hS (fun q _ h => h) (fun q h => h) (fun v_6 u t H1 locs ht hvm hw hB hz1 hk1 hS => ?_)
    subst v_6
    rw [ht] at hB
    replace hP := hB
    clear hB hz1 hk1 hvm ht
    generalize H1 = H at hP hS ⊢
    replace h := Option.some.inj h
    subst q
    exact W.widen (k := 1) (n := 6) (Nat.zero_le _) (Nat.zero_le _) (vx_ret (W.iret (v := r_5) hx hb hr (fun t ht hW => ⟨⟨_, (), rfl, ⟨rfl, rfl⟩, by rw [← ht] at hP; exact hP⟩, hS.F ht⟩) hS.2.2 dX5_changed_27))
  · replace h := (if_pos c_3).symm.trans h
    replace h := Option.some.inj h
    subst q
    exact vx_throw0 (names := ["java/lang/RuntimeException", "java/lang/Exception"]) (A := mk_A E) hx hb hst hown (by decide +kernel) (by decide +kernel) (hts (.classLink RX5 97 "java/util/NoSuchElementException") (by decide +kernel)) (hts (.initialized "java/util/NoSuchElementException") (by decide +kernel)) (vx_hat (fun w h9 => hts w (xa_X5_changed_3 w h9)) xb_X5_changed_3 (fun w h9 => hT.2.2 w h9 _)) xg_X5_changed_3 hT.1 hT.2.1 hS (hl.1.trans hml.symm) dX5_changed_11 dX5_changed_14 dX5_changed_15 dX5_changed_18 (fun x h9 => (hno x h9).elim) (Nat.le_of_ble_eq_true rfl) (Nat.le_of_ble_eq_true rfl) (Nat.le_of_ble_eq_true rfl) (Nat.le_of_ble_eq_true rfl) hlk (fun t _ h1 h2 => mk_thr (q := ((3, 0), M)) hP hS (Nat.succ_ne_zero _) h1 h2) hS.2.2 (Nat.le_of_ble_eq_true rfl) (Nat.le_of_ble_eq_true rfl)
abbrev rm_X5_add : Room := { frames := 6, cells := 1, slots := 6, locals := 148 }
theorem xa_X5_add_1 : ∀ w ∈ (vx_at0 RX5 68 "java/lang/IllegalArgumentException" ["java/lang/RuntimeException", "java/lang/Exception"]).filter goodWord, w ∈ wsX5_add := by decide +kernel
theorem xb_X5_add_1 : ∀ w ∈ (vx_at0 RX5 68 "java/lang/IllegalArgumentException" ["java/lang/RuntimeException", "java/lang/Exception"]).filter (fun w => !goodWord w), w ∈ mk_bad := by decide +kernel
theorem xg_X5_add_1 : ∀ w ∈ Cond.classLink RX5 66 "java/lang/IllegalArgumentException" :: Cond.initialized "java/lang/IllegalArgumentException" :: vx_at0 RX5 68 "java/lang/IllegalArgumentException" ["java/lang/RuntimeException", "java/lang/Exception"], vx_ot w = true := by decide +kernel
theorem xa_X5_add_2 : ∀ w ∈ (vx_at0 RX5 74 "java/lang/IllegalStateException" ["java/lang/RuntimeException", "java/lang/Exception"]).filter goodWord, w ∈ wsX5_add := by decide +kernel
theorem xb_X5_add_2 : ∀ w ∈ (vx_at0 RX5 74 "java/lang/IllegalStateException" ["java/lang/RuntimeException", "java/lang/Exception"]).filter (fun w => !goodWord w), w ∈ mk_bad := by decide +kernel
theorem xg_X5_add_2 : ∀ w ∈ Cond.classLink RX5 72 "java/lang/IllegalStateException" :: Cond.initialized "java/lang/IllegalStateException" :: vx_at0 RX5 74 "java/lang/IllegalStateException" ["java/lang/RuntimeException", "java/lang/Exception"], vx_ot w = true := by decide +kernel
theorem in_X5_add_X5 : ∀ w ∈ wsX50, w ∈ wsX5_add := by decide +kernel
def f_X5_add (a1 : Int32) (a2 : Int32) (a3 : Int32) (a4 : Int32) (a5 : Int32) (M : mk_M) : Option ((Nat × Int32) × mk_M) := ((f_X5_isTask a1 M).bind (fun r_2 => (if r_2 = 0 then (some ((1, 0), M)) else ((f_X5_areTimes a2 a3 M).bind (fun r_5 => (if r_5 = 0 then (some ((1, 0), M)) else ((f_X5_areBudgets a4 a5 M).bind (fun r_8 => (if r_8 = 0 then (some ((1, 0), M)) else ((f_X5_isKnown a1 M).bind (fun r_11 => (if r_11 = 0 then (if mk_ob a1 13 then none else ((f_X3_begin (16 + 4 * (a1).toNatClampNeg) a2 a3 a4 a5 M).bind (fun r_17 => ((f_X1_become 7 3 r_17).bind (fun r_19 => ((f_X5_placeFor a3 r_19).bind (fun r_21 => ((f_X1_insert 7 r_21 a1 r_19).bind (fun r_23 => ((f_X5_admitTrial r_23).bind (fun r_25 => (some ((0, r_25.1), r_25.2))))))))))))) else (some ((2, 0), M))))))))))))))
set_option maxHeartbeats 4000000 in
set_option maxRecDepth 100000 in
theorem c_X5_add (l : Launch) (hst : l.stackTraces = false) (D : va_G) (E : mk_E) (L : Nat → Int64) (a1 : Int32) (a2 : Int32) (a3 : Int32) (a4 : Int32) (a5 : Int32) (M : mk_M) {q : (Nat × Int32) × mk_M} (h : f_X5_add a1 a2 a3 a4 a5 M = some q) : vx_Met l yX5_add wsX5_add rm_X5_add (va_Pc [.ref (E.1 0), .int a1, .int a2, .int a3, .int a4, .int a5] (mk_WT D E M L)) (mk_Qt D E L q) (mk_X D E L q) 1 6 (mk_A E) := by
  refine vx_ofW (cc := cX5_add) (maxL := 6) (ret := (some .int)) (by decide) rfl ?_
  intro p e s m args below meth c s₁ B hml hno hv
  obtain ⟨rfl, ⟨hP, hK, hD0, hN⟩, hT⟩ := hv
  have hx := B.exec
  have hb := B.bytes
  have hr := B.returns
  have hts := atoms_spec (ws := wsX5_add) B.pre
  have hown : s.vm.findClass RX5 = some m.cls := findClass_of_methodNamed B.named
  have hlk := B.notSynchronized
  have hD : ∀ (M : mk_M) (L : Nat → Int64), va_D (mk_A E) (mk_wl E M L) := fun _ _ => mk_D hD0
  have C0 : mk_C p s m [.ref (E.1 0), .int a1, .int a2, .int a3, .int a4, .int a5].toArray meth c cX5_add 6 wsX5_add RX5 (some .int) D E := ⟨hx, hb, hml, hown, hts, hr, hlk, hK, hD, hN⟩
  have hS : va_S (mk_A E) s.heap s.heap [] := va_S.rf
  have hl := lv_entry ([.ref (E.1 0), .int a1, .int a2, .int a3, .int a4, .int a5]) (n := 6) (Nat.le_of_ble_eq_true rfl)
  rw [lg_entry_eq]
  generalize (lg_sl ([.ref (E.1 0), .int a1, .int a2, .int a3, .int a4, .int a5]) ++ List.replicate (6 - (lg_sl ([.ref (E.1 0), .int a1, .int a2, .int a3, .int a4, .int a5])).length) Slot.unset).toArray = ls at hl ⊢
  have hl : lv_has ls 6 [(0, .ref (E.1 0)), (1, .int a1), (2, .int a2), (3, .int a3), (4, .int a4), (5, .int a5)] := hl
  replace h : ((f_X5_isTask a1 M).bind (fun r_2 => (if r_2 = 0 then (some ((1, 0), M)) else ((f_X5_areTimes a2 a3 M).bind (fun r_5 => (if r_5 = 0 then (some ((1, 0), M)) else ((f_X5_areBudgets a4 a5 M).bind (fun r_8 => (if r_8 = 0 then (some ((1, 0), M)) else ((f_X5_isKnown a1 M).bind (fun r_11 => (if r_11 = 0 then (if mk_ob a1 13 then none else ((f_X3_begin (16 + 4 * (a1).toNatClampNeg) a2 a3 a4 a5 M).bind (fun r_17 => ((f_X1_become 7 3 r_17).bind (fun r_19 => ((f_X5_placeFor a3 r_19).bind (fun r_21 => ((f_X1_insert 7 r_21 a1 r_19).bind (fun r_23 => ((f_X5_admitTrial r_23).bind (fun r_25 => (some ((0, r_25.1), r_25.2))))))))))))) else (some ((2, 0), M)))))))))))))) = some q := h
  refine lv_iload_n hx hb dX5_add_0 rfl (lv_at hl 1 rfl) ?_
  obtain ⟨r_2, e_1, h⟩ := mk_bind h
  refine va_calli (va_runS (As := [.int a1]) (rest := []) ⟨hx, hb, hml, hown, hts⟩ (c_X5_isTask l D E L a1 M  e_1) (cwS 1 hts gX5_add_X5_isTask rfl rfl rfl (by decide +kernel) ⟨Nat.le_of_ble_eq_true rfl, Nat.le_of_ble_eq_true rfl⟩) ⟨mk_W.blind, fun U hU hW => ⟨rfl, mk_W.at hU hW hP hK (hD _ _) hN⟩⟩ rfl rfl hl.1 rfl (lv_room (Nat.le_of_ble_eq_true rfl)) dX5_add_1 ⟨Nat.zero_le _, Nat.zero_le _⟩) hS (fun q _ h => h) (fun q h => h) (fun v_31 u t H1 locs ht hvm hw hB hz1 hk1 hS => ?_)
  subst v_31
  rw [ht] at hB
  replace hP := hB
  clear hB hz1 hk1 hvm ht
  generalize H1 = H at hP hS ⊢
  refine lv_if_eq (tgt := 25) hx hb dX5_add_4 (by decide) (fun c_3 => ?_) (fun c_3 => ?_)
  · replace h := (if_pos c_3).symm.trans h
    replace h := Option.some.inj h
    subst q
    exact vx_throw0 (names := ["java/lang/RuntimeException", "java/lang/Exception"]) (A := mk_A E) hx hb hst hown (by decide +kernel) (by decide +kernel) (hts (.classLink RX5 66 "java/lang/IllegalArgumentException") (by decide +kernel)) (hts (.initialized "java/lang/IllegalArgumentException") (by decide +kernel)) (vx_hat (fun w h9 => hts w (xa_X5_add_1 w h9)) xb_X5_add_1 (fun w h9 => hT.2.2 w h9 _)) xg_X5_add_1 hT.1 hT.2.1 hS (hl.1.trans hml.symm) dX5_add_25 dX5_add_28 dX5_add_29 dX5_add_32 (fun x h9 => (hno x h9).elim) (Nat.le_of_ble_eq_true rfl) (Nat.le_of_ble_eq_true rfl) (Nat.le_of_ble_eq_true rfl) (Nat.le_of_ble_eq_true rfl) hlk (fun t _ h1 h2 => mk_thr (q := ((1, 0), M)) hP hS (Nat.succ_ne_zero _) h1 h2) hS.2.2 (Nat.le_of_ble_eq_true rfl) (Nat.le_of_ble_eq_true rfl)
  · replace h := (if_neg c_3).symm.trans h
    refine lv_iload_n hx hb dX5_add_7 rfl (lv_at hl 2 rfl) ?_
    refine lv_iload_n hx hb dX5_add_8 rfl (lv_at hl 3 rfl) ?_
    obtain ⟨r_5, e_4, h⟩ := mk_bind h
    refine va_calli (va_runS (As := [.int a2, .int a3]) (rest := []) ⟨hx, hb, hml, hown, hts⟩ (c_X5_areTimes l D E L a2 a3 M  e_4) (cwS 2 hts gX5_add_X5_areTimes rfl rfl rfl (by decide +kernel) ⟨Nat.le_of_ble_eq_true rfl, Nat.le_of_ble_eq_true rfl⟩) ⟨mk_W.blind, fun U hU hW => ⟨rfl, mk_W.at hU hW hP hK (hD _ _) hN⟩⟩ rfl rfl hl.1 rfl (lv_room (Nat.le_of_ble_eq_true rfl)) dX5_add_9 ⟨Nat.zero_le _, Nat.zero_le _⟩) hS (fun q _ h => h) (fun q h => h) (fun v_30 u t H1 locs ht hvm hw hB hz1 hk1 hS => ?_)
    subst v_30
    rw [ht] at hB
    replace hP := hB
    clear hB hz1 hk1 hvm ht
    generalize H1 = H at hP hS ⊢
    refine lv_if_eq (tgt := 25) hx hb dX5_add_12 (by decide) (fun c_6 => ?_) (fun c_6 => ?_)
    · replace h := (if_pos c_6).symm.trans h
      replace h := Option.some.inj h
      subst q
      exact vx_throw0 (names := ["java/lang/RuntimeException", "java/lang/Exception"]) (A := mk_A E) hx hb hst hown (by decide +kernel) (by decide +kernel) (hts (.classLink RX5 66 "java/lang/IllegalArgumentException") (by decide +kernel)) (hts (.initialized "java/lang/IllegalArgumentException") (by decide +kernel)) (vx_hat (fun w h9 => hts w (xa_X5_add_1 w h9)) xb_X5_add_1 (fun w h9 => hT.2.2 w h9 _)) xg_X5_add_1 hT.1 hT.2.1 hS (hl.1.trans hml.symm) dX5_add_25 dX5_add_28 dX5_add_29 dX5_add_32 (fun x h9 => (hno x h9).elim) (Nat.le_of_ble_eq_true rfl) (Nat.le_of_ble_eq_true rfl) (Nat.le_of_ble_eq_true rfl) (Nat.le_of_ble_eq_true rfl) hlk (fun t _ h1 h2 => mk_thr (q := ((1, 0), M)) hP hS (Nat.succ_ne_zero _) h1 h2) hS.2.2 (Nat.le_of_ble_eq_true rfl) (Nat.le_of_ble_eq_true rfl)
    · replace h := (if_neg c_6).symm.trans h
      refine lv_iload hx hb dX5_add_15 (lv_at hl 4 rfl) ?_
      refine lv_iload hx hb dX5_add_17 (lv_at hl 5 rfl) ?_
      obtain ⟨r_8, e_7, h⟩ := mk_bind h
      refine va_calli (va_runS (As := [.int a4, .int a5]) (rest := []) ⟨hx, hb, hml, hown, hts⟩ (c_X5_areBudgets l D E L a4 a5 M  e_7) (cwS 2 hts gX5_add_X5_areBudgets rfl rfl rfl (by decide +kernel) ⟨Nat.le_of_ble_eq_true rfl, Nat.le_of_ble_eq_true rfl⟩) ⟨mk_W.blind, fun U hU hW => ⟨rfl, mk_W.at hU hW hP hK (hD _ _) hN⟩⟩ rfl rfl hl.1 rfl (lv_room (Nat.le_of_ble_eq_true rfl)) dX5_add_19 ⟨Nat.zero_le _, Nat.zero_le _⟩) hS (fun q _ h => h) (fun q h => h) (fun v_29 u t H1 locs ht hvm hw hB hz1 hk1 hS => ?_)
      subst v_29
      rw [ht] at hB
      replace hP := hB
      clear hB hz1 hk1 hvm ht
      generalize H1 = H at hP hS ⊢
      refine lv_if_ne (tgt := 33) hx hb dX5_add_22 (by decide) (fun c_9 => ?_) (fun c_9 => ?_)
      · replace h := (if_neg c_9).symm.trans h
        refine lv_aload_n hx hb dX5_add_33 rfl (lv_at hl 0 rfl) ?_
        refine lv_iload_n hx hb dX5_add_34 rfl (lv_at hl 1 rfl) ?_
        obtain ⟨r_11, e_10, h⟩ := mk_bind h
        refine va_calli (va_runV (As := [.int a1]) (rest := []) ⟨hx, hb, hml, hown, hts⟩ (c_X5_isKnown l D E L a1 M  e_10) (cwV 1 hts gX5_add_X5_isKnown rfl rfl rfl (by decide +kernel) ⟨Nat.le_of_ble_eq_true rfl, Nat.le_of_ble_eq_true rfl⟩) ⟨mk_W.blind, mk_rc5 hK hP (by decide) rfl, fun U hU hW => ⟨rfl, mk_W.at hU hW hP hK (hD _ _) hN⟩⟩ rfl rfl hl.1 rfl (lv_room (Nat.le_of_ble_eq_true rfl)) dX5_add_35 ⟨Nat.zero_le _, Nat.zero_le _⟩) hS (fun q _ h => h) (fun q h => h) (fun v_28 u t H1 locs ht hvm hw hB hz1 hk1 hS => ?_)
        subst v_28
        rw [ht] at hB
        replace hP := hB
        clear hB hz1 hk1 hvm ht
        generalize H1 = H at hP hS ⊢
        refine lv_if_eq (tgt := 49) hx hb dX5_add_38 (by decide) (fun c_12 => ?_) (fun c_12 => ?_)
        · replace h := (if_pos c_12).symm.trans h
          refine lv_aload_n hx hb dX5_add_49 rfl (lv_at hl 0 rfl) ?_
          refine mk_g5_1 hx hb hts in_X5_add_X5 hown hK hP (by decide) rfl (hts (.fieldLink RX5 20 "MixedKernel" "tasks" "[LMixedKernel$Task;") (by decide +kernel)) dX5_add_50 ?_
          refine lv_iload_n hx hb dX5_add_53 rfl (lv_at hl 1 rfl) ?_
          obtain ⟨i_13, h⟩ := mk_ifn h
          have k_14 := mk_kd_task i_13
          have w_15 := mk_s3 k_14.1
          refine mk_aa hx hb hK hP (by decide) rfl i_13 dX5_add_54 ?_
          refine lv_iload_n hx hb dX5_add_55 rfl (lv_at hl 2 rfl) ?_
          refine lv_iload_n hx hb dX5_add_56 rfl (lv_at hl 3 rfl) ?_
          refine lv_iload hx hb dX5_add_57 (lv_at hl 4 rfl) ?_
          refine lv_iload hx hb dX5_add_59 (lv_at hl 5 rfl) ?_
          obtain ⟨r_17, e_16, h⟩ := mk_bind h
          refine va_callv (va_runV (As := [.int a2, .int a3, .int a4, .int a5]) (rest := []) ⟨hx, hb, hml, hown, hts⟩ (c_X3_begin l D E L (16 + 4 * (a1).toNatClampNeg) a2 a3 a4 a5 M (Nat.lt_trans k_14.2 (by decide)) k_14.1 e_16) (cwV 4 hts gX5_add_X3_begin rfl rfl rfl (by decide +kernel) ⟨Nat.le_of_ble_eq_true rfl, Nat.le_of_ble_eq_true rfl⟩) ⟨mk_W.blind, mk_rc3 hK hP (Nat.lt_trans k_14.2 (by decide)) k_14.1, fun U hU hW => ⟨rfl, mk_W.at hU hW hP hK (hD _ _) hN⟩⟩ rfl rfl hl.1 rfl (lv_room (Nat.le_of_ble_eq_true rfl)) dX5_add_61 ⟨Nat.zero_le _, Nat.zero_le _⟩) hS (fun q _ h => h) (fun q h => h) (fun u t H1 locs ht hvm hw hB hz1 hk1 hS => ?_)
          rw [ht] at hB
          replace hP := hB
          clear hB hz1 hk1 hvm ht
          generalize H1 = H at hP hS ⊢
          refine lv_aload_n hx hb dX5_add_64 rfl (lv_at hl 0 rfl) ?_
          refine mk_g5_4 hx hb hts in_X5_add_X5 hown hK hP (by decide) rfl (hts (.fieldLink RX5 33 "MixedKernel" "trial" "LMixedKernel$Line;") (by decide +kernel)) dX5_add_65 ?_
          refine lv_aload_n hx hb dX5_add_68 rfl (lv_at hl 0 rfl) ?_
          refine mk_g5_2 hx hb hts in_X5_add_X5 hown hK hP (by decide) rfl (hts (.fieldLink RX5 26 "MixedKernel" "plan" "LMixedKernel$Line;") (by decide +kernel)) dX5_add_69 ?_
          obtain ⟨r_19, e_18, h⟩ := mk_bind h
          refine va_callv (va_runV (As := [.ref (E.1 3)]) (rest := []) ⟨hx, hb, hml, hown, hts⟩ (c_X1_become l D E L 7 3 r_17 (by decide) rfl (by decide) rfl e_18) (cwV 1 hts gX5_add_X1_become rfl rfl rfl (by decide +kernel) ⟨Nat.le_of_ble_eq_true rfl, Nat.le_of_ble_eq_true rfl⟩) ⟨mk_W.blind, mk_rc1 hK hP (by decide) rfl, fun U hU hW => ⟨rfl, mk_W.at hU hW hP hK (hD _ _) hN⟩⟩ rfl rfl hl.1 rfl (lv_room (Nat.le_of_ble_eq_true rfl)) dX5_add_72 ⟨Nat.zero_le _, Nat.zero_le _⟩) hS (fun q _ h => h) (fun q h => h) (fun u t H1 locs ht hvm hw hB hz1 hk1 hS => ?_)
          rw [ht] at hB
          replace hP := hB
          clear hB hz1 hk1 hvm ht
          generalize H1 = H at hP hS ⊢
          refine lv_aload_n hx hb dX5_add_75 rfl (lv_at hl 0 rfl) ?_
          refine mk_g5_4 hx hb hts in_X5_add_X5 hown hK hP (by decide) rfl (hts (.fieldLink RX5 33 "MixedKernel" "trial" "LMixedKernel$Line;") (by decide +kernel)) dX5_add_76 ?_
          refine lv_aload_n hx hb dX5_add_79 rfl (lv_at hl 0 rfl) ?_
          refine lv_iload_n hx hb dX5_add_80 rfl (lv_at hl 3 rfl) ?_
          obtain ⟨r_21, e_20, h⟩ := mk_bind h
          refine va_calli (va_runV (As := [.int a3]) (rest := [.ref (E.1 7)]) ⟨hx, hb, hml, hown, hts⟩ (c_X5_placeFor l D E L a3 r_19  e_20) (cwV 1 hts gX5_add_X5_placeFor rfl rfl rfl (by decide +kernel) ⟨Nat.le_of_ble_eq_true rfl, Nat.le_of_ble_eq_true rfl⟩) ⟨mk_W.blind, mk_rc5 hK hP (by decide) rfl, fun U hU hW => ⟨rfl, mk_W.at hU hW hP hK (hD _ _) hN⟩⟩ rfl rfl hl.1 rfl (lv_room (Nat.le_of_ble_eq_true rfl)) dX5_add_81 ⟨Nat.zero_le _, Nat.zero_le _⟩) hS (fun q _ h => h) (fun q h => h) (fun v_27 u t H1 locs ht hvm hw hB hz1 hk1 hS => ?_)
          subst v_27
          rw [ht] at hB
          replace hP := hB
          clear hB hz1 hk1 hvm ht
          generalize H1 = H at hP hS ⊢
          refine lv_iload_n hx hb dX5_add_84 rfl (lv_at hl 1 rfl) ?_
          obtain ⟨r_23, e_22, h⟩ := mk_bind h
          refine va_callv (va_runV (As := [.int r_21, .int a1]) (rest := []) ⟨hx, hb, hml, hown, hts⟩ (c_X1_insert l D E L 7 r_21 a1 r_19 (by decide) rfl e_22) (cwV 2 hts gX5_add_X1_insert rfl rfl rfl (by decide +kernel) ⟨Nat.le_of_ble_eq_true rfl, Nat.le_of_ble_eq_true rfl⟩) ⟨mk_W.blind, mk_rc1 hK hP (by decide) rfl, fun U hU hW => ⟨rfl, mk_W.at hU hW hP hK (hD _ _) hN⟩⟩ rfl rfl hl.1 rfl (lv_room (Nat.le_of_ble_eq_true rfl)) dX5_add_85 ⟨Nat.zero_le _, Nat.zero_le _⟩) hS (fun q _ h => h) (fun q h => h) (fun u t H1 locs ht hvm hw hB hz1 hk1 hS => ?_)
          rw [ht] at hB
          replace hP := hB
          clear hB hz1 hk1 hvm ht
          generalize H1 = H at hP hS ⊢
          refine lv_aload_n hx hb dX5_add_88 rfl (lv_at hl 0 rfl) ?_
          obtain ⟨r_25, e_24, h⟩ := mk_bind h
          refine va_calli (va_runV (As := []) (rest := []) ⟨hx, hb, hml, hown, hts⟩ (c_X5_admitTrial l D E L  r_23  e_24) (cwV 0 hts gX5_add_X5_admitTrial rfl rfl rfl (by decide +kernel) ⟨Nat.le_of_ble_eq_true rfl, Nat.le_of_ble_eq_true rfl⟩) ⟨mk_W.blind, mk_rc5 hK hP (by decide) rfl, fun U hU hW => ⟨rfl, mk_W.at hU hW hP hK (hD _ _) hN⟩⟩ rfl rfl hl.1 rfl (lv_room (Nat.le_of_ble_eq_true rfl)) dX5_add_89 ⟨Nat.zero_le _, Nat.zero_le _⟩) hS (fun q _ h => h) (fun q h => h) (fun v_26 u t H1 locs ht hvm hw hB hz1 hk1 hS => ?_)
          subst v_26
          rw [ht] at hB
          replace hP := hB
          clear hB hz1 hk1 hvm ht
          generalize H1 = H at hP hS ⊢
          replace h := Option.some.inj h
          subst q
          exact W.widen (k := 1) (n := 6) (Nat.zero_le _) (Nat.zero_le _) (vx_ret (W.iret (v := r_25.1) hx hb hr (fun t ht hW => ⟨⟨_, (), rfl, ⟨rfl, rfl⟩, by rw [← ht] at hP; exact hP⟩, hS.F ht⟩) hS.2.2 dX5_add_92))
        · replace h := (if_neg c_12).symm.trans h
          replace h := Option.some.inj h
          subst q
          exact vx_throw0 (names := ["java/lang/RuntimeException", "java/lang/Exception"]) (A := mk_A E) hx hb hst hown (by decide +kernel) (by decide +kernel) (hts (.classLink RX5 72 "java/lang/IllegalStateException") (by decide +kernel)) (hts (.initialized "java/lang/IllegalStateException") (by decide +kernel)) (vx_hat (fun w h9 => hts w (xa_X5_add_2 w h9)) xb_X5_add_2 (fun w h9 => hT.2.2 w h9 _)) xg_X5_add_2 hT.1 hT.2.1 hS (hl.1.trans hml.symm) dX5_add_41 dX5_add_44 dX5_add_45 dX5_add_48 (fun x h9 => (hno x h9).elim) (Nat.le_of_ble_eq_true rfl) (Nat.le_of_ble_eq_true rfl) (Nat.le_of_ble_eq_true rfl) (Nat.le_of_ble_eq_true rfl) hlk (fun t _ h1 h2 => mk_thr (q := ((2, 0), M)) hP hS (Nat.succ_ne_zero _) h1 h2) hS.2.2 (Nat.le_of_ble_eq_true rfl) (Nat.le_of_ble_eq_true rfl)
      · replace h := (if_pos c_9).symm.trans h
        replace h := Option.some.inj h
        subst q
        exact vx_throw0 (names := ["java/lang/RuntimeException", "java/lang/Exception"]) (A := mk_A E) hx hb hst hown (by decide +kernel) (by decide +kernel) (hts (.classLink RX5 66 "java/lang/IllegalArgumentException") (by decide +kernel)) (hts (.initialized "java/lang/IllegalArgumentException") (by decide +kernel)) (vx_hat (fun w h9 => hts w (xa_X5_add_1 w h9)) xb_X5_add_1 (fun w h9 => hT.2.2 w h9 _)) xg_X5_add_1 hT.1 hT.2.1 hS (hl.1.trans hml.symm) dX5_add_25 dX5_add_28 dX5_add_29 dX5_add_32 (fun x h9 => (hno x h9).elim) (Nat.le_of_ble_eq_true rfl) (Nat.le_of_ble_eq_true rfl) (Nat.le_of_ble_eq_true rfl) (Nat.le_of_ble_eq_true rfl) hlk (fun t _ h1 h2 => mk_thr (q := ((1, 0), M)) hP hS (Nat.succ_ne_zero _) h1 h2) hS.2.2 (Nat.le_of_ble_eq_true rfl) (Nat.le_of_ble_eq_true rfl)
abbrev rm_X5_trace : Room := { frames := 6, cells := 1, slots := 6, locals := 81 }
theorem xa_X5_trace_3 : ∀ w ∈ (vx_at0 RX5 99 "java/util/NoSuchElementException" ["java/lang/RuntimeException", "java/lang/Exception"]).filter goodWord, w ∈ wsX5_trace := by decide +kernel
theorem xb_X5_trace_3 : ∀ w ∈ (vx_at0 RX5 99 "java/util/NoSuchElementException" ["java/lang/RuntimeException", "java/lang/Exception"]).filter (fun w => !goodWord w), w ∈ mk_bad := by decide +kernel
theorem xg_X5_trace_3 : ∀ w ∈ Cond.classLink RX5 97 "java/util/NoSuchElementException" :: Cond.initialized "java/util/NoSuchElementException" :: vx_at0 RX5 99 "java/util/NoSuchElementException" ["java/lang/RuntimeException", "java/lang/Exception"], vx_ot w = true := by decide +kernel
theorem in_X5_trace_X5 : ∀ w ∈ wsX50, w ∈ wsX5_trace := by decide +kernel
def f_X5_trace (a1 : Int32) (M : mk_M) : Option ((Nat × Int32) × mk_M) := ((f_X0_keeps 12 a1 M).bind (fun r_2 => (if r_2 = 0 then (some ((3, 0), M)) else ((f_X0_back 12 a1 M).bind (fun r_5 => (some ((0, r_5), M)))))))
set_option maxHeartbeats 4000000 in
set_option maxRecDepth 100000 in
theorem c_X5_trace (l : Launch) (hst : l.stackTraces = false) (D : va_G) (E : mk_E) (L : Nat → Int64) (a1 : Int32) (M : mk_M) {q : (Nat × Int32) × mk_M} (h : f_X5_trace a1 M = some q) : vx_Met l yX5_trace wsX5_trace rm_X5_trace (va_Pc [.ref (E.1 0), .int a1] (mk_WT D E M L)) (mk_Qt D E L q) (mk_X D E L q) 1 6 (mk_A E) := by
  refine vx_ofW (cc := cX5_trace) (maxL := 2) (ret := (some .int)) (by decide) rfl ?_
  intro p e s m args below meth c s₁ B hml hno hv
  obtain ⟨rfl, ⟨hP, hK, hD0, hN⟩, hT⟩ := hv
  have hx := B.exec
  have hb := B.bytes
  have hr := B.returns
  have hts := atoms_spec (ws := wsX5_trace) B.pre
  have hown : s.vm.findClass RX5 = some m.cls := findClass_of_methodNamed B.named
  have hlk := B.notSynchronized
  have hD : ∀ (M : mk_M) (L : Nat → Int64), va_D (mk_A E) (mk_wl E M L) := fun _ _ => mk_D hD0
  have C0 : mk_C p s m [.ref (E.1 0), .int a1].toArray meth c cX5_trace 2 wsX5_trace RX5 (some .int) D E := ⟨hx, hb, hml, hown, hts, hr, hlk, hK, hD, hN⟩
  have hS : va_S (mk_A E) s.heap s.heap [] := va_S.rf
  have hl := lv_entry ([.ref (E.1 0), .int a1]) (n := 2) (Nat.le_of_ble_eq_true rfl)
  rw [lg_entry_eq]
  generalize (lg_sl ([.ref (E.1 0), .int a1]) ++ List.replicate (2 - (lg_sl ([.ref (E.1 0), .int a1])).length) Slot.unset).toArray = ls at hl ⊢
  have hl : lv_has ls 2 [(0, .ref (E.1 0)), (1, .int a1)] := hl
  replace h : ((f_X0_keeps 12 a1 M).bind (fun r_2 => (if r_2 = 0 then (some ((3, 0), M)) else ((f_X0_back 12 a1 M).bind (fun r_5 => (some ((0, r_5), M))))))) = some q := h
  refine lv_aload_n hx hb dX5_trace_0 rfl (lv_at hl 0 rfl) ?_
  refine mk_g5_6 hx hb hts in_X5_trace_X5 hown hK hP (by decide) rfl (hts (.fieldLink RX5 48 "MixedKernel" "ran" "LMixedKernel$Latest;") (by decide +kernel)) dX5_trace_1 ?_
  refine lv_iload_n hx hb dX5_trace_4 rfl (lv_at hl 1 rfl) ?_
  obtain ⟨r_2, e_1, h⟩ := mk_bind h
  refine va_calli (va_runV (As := [.int a1]) (rest := []) ⟨hx, hb, hml, hown, hts⟩ (c_X0_keeps l D E L 12 a1 M (by decide) rfl e_1) (cwV 1 hts gX5_trace_X0_keeps rfl rfl rfl (by decide +kernel) ⟨Nat.le_of_ble_eq_true rfl, Nat.le_of_ble_eq_true rfl⟩) ⟨mk_W.blind, mk_rc0 hK hP (by decide) rfl, fun U hU hW => ⟨rfl, mk_W.at hU hW hP hK (hD _ _) hN⟩⟩ rfl rfl hl.1 rfl (lv_room (Nat.le_of_ble_eq_true rfl)) dX5_trace_5 ⟨Nat.zero_le _, Nat.zero_le _⟩) hS (fun q _ h => h) (fun q h => h) (fun v_7 u t H1 locs ht hvm hw hB hz1 hk1 hS => ?_)
  subst v_7
  rw [ht] at hB
  replace hP := hB
  clear hB hz1 hk1 hvm ht
  generalize H1 = H at hP hS ⊢
  refine lv_if_ne (tgt := 19) hx hb dX5_trace_8 (by decide) (fun c_3 => ?_) (fun c_3 => ?_)
  · replace h := (if_neg c_3).symm.trans h
    refine lv_aload_n hx hb dX5_trace_19 rfl (lv_at hl 0 rfl) ?_
    refine mk_g5_6 hx hb hts in_X5_trace_X5 hown hK hP (by decide) rfl (hts (.fieldLink RX5 48 "MixedKernel" "ran" "LMixedKernel$Latest;") (by decide +kernel)) dX5_trace_20 ?_
    refine lv_iload_n hx hb dX5_trace_23 rfl (lv_at hl 1 rfl) ?_
    obtain ⟨r_5, e_4, h⟩ := mk_bind h
    refine va_calli (va_runV (As := [.int a1]) (rest := []) ⟨hx, hb, hml, hown, hts⟩ (c_X0_back l D E L 12 a1 M (by decide) rfl e_4) (cwV 1 hts gX5_trace_X0_back rfl rfl rfl (by decide +kernel) ⟨Nat.le_of_ble_eq_true rfl, Nat.le_of_ble_eq_true rfl⟩) ⟨mk_W.blind, mk_rc0 hK hP (by decide) rfl, fun U hU hW => ⟨rfl, mk_W.at hU hW hP hK (hD _ _) hN⟩⟩ rfl rfl hl.1 rfl (lv_room (Nat.le_of_ble_eq_true rfl)) dX5_trace_24 ⟨Nat.zero_le _, Nat.zero_le _⟩) hS (fun q _ h => h) (fun q h => h) (fun v_6 u t H1 locs ht hvm hw hB hz1 hk1 hS => ?_)
    subst v_6
    rw [ht] at hB
    replace hP := hB
    clear hB hz1 hk1 hvm ht
    generalize H1 = H at hP hS ⊢
    replace h := Option.some.inj h
    subst q
    exact W.widen (k := 1) (n := 6) (Nat.zero_le _) (Nat.zero_le _) (vx_ret (W.iret (v := r_5) hx hb hr (fun t ht hW => ⟨⟨_, (), rfl, ⟨rfl, rfl⟩, by rw [← ht] at hP; exact hP⟩, hS.F ht⟩) hS.2.2 dX5_trace_27))
  · replace h := (if_pos c_3).symm.trans h
    replace h := Option.some.inj h
    subst q
    exact vx_throw0 (names := ["java/lang/RuntimeException", "java/lang/Exception"]) (A := mk_A E) hx hb hst hown (by decide +kernel) (by decide +kernel) (hts (.classLink RX5 97 "java/util/NoSuchElementException") (by decide +kernel)) (hts (.initialized "java/util/NoSuchElementException") (by decide +kernel)) (vx_hat (fun w h9 => hts w (xa_X5_trace_3 w h9)) xb_X5_trace_3 (fun w h9 => hT.2.2 w h9 _)) xg_X5_trace_3 hT.1 hT.2.1 hS (hl.1.trans hml.symm) dX5_trace_11 dX5_trace_14 dX5_trace_15 dX5_trace_18 (fun x h9 => (hno x h9).elim) (Nat.le_of_ble_eq_true rfl) (Nat.le_of_ble_eq_true rfl) (Nat.le_of_ble_eq_true rfl) (Nat.le_of_ble_eq_true rfl) hlk (fun t _ h1 h2 => mk_thr (q := ((3, 0), M)) hP hS (Nat.succ_ne_zero _) h1 h2) hS.2.2 (Nat.le_of_ble_eq_true rfl) (Nat.le_of_ble_eq_true rfl)
abbrev rm_X5_about : Room := { frames := 6, cells := 1, slots := 6, locals := 81 }
theorem xa_X5_about_1 : ∀ w ∈ (vx_at0 RX5 68 "java/lang/IllegalArgumentException" ["java/lang/RuntimeException", "java/lang/Exception"]).filter goodWord, w ∈ wsX5_about := by decide +kernel
theorem xb_X5_about_1 : ∀ w ∈ (vx_at0 RX5 68 "java/lang/IllegalArgumentException" ["java/lang/RuntimeException", "java/lang/Exception"]).filter (fun w => !goodWord w), w ∈ mk_bad := by decide +kernel
theorem xg_X5_about_1 : ∀ w ∈ Cond.classLink RX5 66 "java/lang/IllegalArgumentException" :: Cond.initialized "java/lang/IllegalArgumentException" :: vx_at0 RX5 68 "java/lang/IllegalArgumentException" ["java/lang/RuntimeException", "java/lang/Exception"], vx_ot w = true := by decide +kernel
theorem xa_X5_about_3 : ∀ w ∈ (vx_at0 RX5 99 "java/util/NoSuchElementException" ["java/lang/RuntimeException", "java/lang/Exception"]).filter goodWord, w ∈ wsX5_about := by decide +kernel
theorem xb_X5_about_3 : ∀ w ∈ (vx_at0 RX5 99 "java/util/NoSuchElementException" ["java/lang/RuntimeException", "java/lang/Exception"]).filter (fun w => !goodWord w), w ∈ mk_bad := by decide +kernel
theorem xg_X5_about_3 : ∀ w ∈ Cond.classLink RX5 97 "java/util/NoSuchElementException" :: Cond.initialized "java/util/NoSuchElementException" :: vx_at0 RX5 99 "java/util/NoSuchElementException" ["java/lang/RuntimeException", "java/lang/Exception"], vx_ot w = true := by decide +kernel
theorem in_X5_about_X3 : ∀ w ∈ wsX30, w ∈ wsX5_about := by decide +kernel
theorem in_X5_about_X5 : ∀ w ∈ wsX50, w ∈ wsX5_about := by decide +kernel
def f_X5_about (a1 : Int32) (a2 : Int32) (M : mk_M) : Option ((Nat × Int32) × mk_M) := ((f_X5_isKnown a1 M).bind (fun r_2 => (if r_2 = 0 then (some ((3, 0), M)) else (if mk_ob a1 13 then none else (if a2 = 0 then ((f_X1_placeOf 5 a1 M).bind (fun r_9 => (some ((0, r_9), M)))) else (if a2 = 1 then ((f_X1_placeOf 3 a1 M).bind (fun r_13 => (some ((0, r_13), M)))) else (if a2 = 2 then (some ((0, M (16 + 4 * (a1).toNatClampNeg) 9), M)) else (if a2 = 3 then (some ((0, M (16 + 4 * (a1).toNatClampNeg) 5), M)) else (if a2 = 4 then (some ((0, M (16 + 4 * (a1).toNatClampNeg) 6), M)) else (if a2 = 5 then (some ((0, M (16 + 4 * (a1).toNatClampNeg) 7), M)) else (if a2 = 6 then ((f_X3_nextRelease (16 + 4 * (a1).toNatClampNeg) M).bind (fun r_21 => (some ((0, r_21), M)))) else (if a2 = 7 then (if (M (16 + 4 * (a1).toNatClampNeg) 4) = 0 then (some ((0, 0), M)) else (some ((0, 1), M))) else (if a2 = 8 then ((f_X3_lateJobs (16 + 4 * (a1).toNatClampNeg) (M 0 9) M).bind (fun r_27 => (some ((0, r_27), M)))) else (some ((1, 0), M)))))))))))))))
set_option maxHeartbeats 4000000 in
set_option maxRecDepth 100000 in
theorem c_X5_about (l : Launch) (hst : l.stackTraces = false) (D : va_G) (E : mk_E) (L : Nat → Int64) (a1 : Int32) (a2 : Int32) (M : mk_M) {q : (Nat × Int32) × mk_M} (h : f_X5_about a1 a2 M = some q) : vx_Met l yX5_about wsX5_about rm_X5_about (va_Pc [.ref (E.1 0), .int a1, .int a2] (mk_WT D E M L)) (mk_Qt D E L q) (mk_X D E L q) 1 6 (mk_A E) := by
  refine vx_ofW (cc := cX5_about) (maxL := 4) (ret := (some .int)) (by decide) rfl ?_
  intro p e s m args below meth c s₁ B hml hno hv
  obtain ⟨rfl, ⟨hP, hK, hD0, hN⟩, hT⟩ := hv
  have hx := B.exec
  have hb := B.bytes
  have hr := B.returns
  have hts := atoms_spec (ws := wsX5_about) B.pre
  have hown : s.vm.findClass RX5 = some m.cls := findClass_of_methodNamed B.named
  have hlk := B.notSynchronized
  have hD : ∀ (M : mk_M) (L : Nat → Int64), va_D (mk_A E) (mk_wl E M L) := fun _ _ => mk_D hD0
  have C0 : mk_C p s m [.ref (E.1 0), .int a1, .int a2].toArray meth c cX5_about 4 wsX5_about RX5 (some .int) D E := ⟨hx, hb, hml, hown, hts, hr, hlk, hK, hD, hN⟩
  have hS : va_S (mk_A E) s.heap s.heap [] := va_S.rf
  have hl := lv_entry ([.ref (E.1 0), .int a1, .int a2]) (n := 4) (Nat.le_of_ble_eq_true rfl)
  rw [lg_entry_eq]
  generalize (lg_sl ([.ref (E.1 0), .int a1, .int a2]) ++ List.replicate (4 - (lg_sl ([.ref (E.1 0), .int a1, .int a2])).length) Slot.unset).toArray = ls at hl ⊢
  have hl : lv_has ls 4 [(0, .ref (E.1 0)), (1, .int a1), (2, .int a2)] := hl
  replace h : ((f_X5_isKnown a1 M).bind (fun r_2 => (if r_2 = 0 then (some ((3, 0), M)) else (if mk_ob a1 13 then none else (if a2 = 0 then ((f_X1_placeOf 5 a1 M).bind (fun r_9 => (some ((0, r_9), M)))) else (if a2 = 1 then ((f_X1_placeOf 3 a1 M).bind (fun r_13 => (some ((0, r_13), M)))) else (if a2 = 2 then (some ((0, M (16 + 4 * (a1).toNatClampNeg) 9), M)) else (if a2 = 3 then (some ((0, M (16 + 4 * (a1).toNatClampNeg) 5), M)) else (if a2 = 4 then (some ((0, M (16 + 4 * (a1).toNatClampNeg) 6), M)) else (if a2 = 5 then (some ((0, M (16 + 4 * (a1).toNatClampNeg) 7), M)) else (if a2 = 6 then ((f_X3_nextRelease (16 + 4 * (a1).toNatClampNeg) M).bind (fun r_21 => (some ((0, r_21), M)))) else (if a2 = 7 then (if (M (16 + 4 * (a1).toNatClampNeg) 4) = 0 then (some ((0, 0), M)) else (some ((0, 1), M))) else (if a2 = 8 then ((f_X3_lateJobs (16 + 4 * (a1).toNatClampNeg) (M 0 9) M).bind (fun r_27 => (some ((0, r_27), M)))) else (some ((1, 0), M))))))))))))))) = some q := h
  refine lv_aload_n hx hb dX5_about_0 rfl (lv_at hl 0 rfl) ?_
  refine lv_iload_n hx hb dX5_about_1 rfl (lv_at hl 1 rfl) ?_
  obtain ⟨r_2, e_1, h⟩ := mk_bind h
  refine va_calli (va_runV (As := [.int a1]) (rest := []) ⟨hx, hb, hml, hown, hts⟩ (c_X5_isKnown l D E L a1 M  e_1) (cwV 1 hts gX5_about_X5_isKnown rfl rfl rfl (by decide +kernel) ⟨Nat.le_of_ble_eq_true rfl, Nat.le_of_ble_eq_true rfl⟩) ⟨mk_W.blind, mk_rc5 hK hP (by decide) rfl, fun U hU hW => ⟨rfl, mk_W.at hU hW hP hK (hD _ _) hN⟩⟩ rfl rfl hl.1 rfl (lv_room (Nat.le_of_ble_eq_true rfl)) dX5_about_2 ⟨Nat.zero_le _, Nat.zero_le _⟩) hS (fun q _ h => h) (fun q h => h) (fun v_29 u t H1 locs ht hvm hw hB hz1 hk1 hS => ?_)
  subst v_29
  rw [ht] at hB
  replace hP := hB
  clear hB hz1 hk1 hvm ht
  generalize H1 = H at hP hS ⊢
  refine lv_if_ne (tgt := 16) hx hb dX5_about_5 (by decide) (fun c_3 => ?_) (fun c_3 => ?_)
  · replace h := (if_neg c_3).symm.trans h
    refine lv_aload_n hx hb dX5_about_16 rfl (lv_at hl 0 rfl) ?_
    refine mk_g5_1 hx hb hts in_X5_about_X5 hown hK hP (by decide) rfl (hts (.fieldLink RX5 20 "MixedKernel" "tasks" "[LMixedKernel$Task;") (by decide +kernel)) dX5_about_17 ?_
    refine lv_iload_n hx hb dX5_about_20 rfl (lv_at hl 1 rfl) ?_
    obtain ⟨i_4, h⟩ := mk_ifn h
    have k_5 := mk_kd_task i_4
    have w_6 := mk_s3 k_5.1
    refine mk_aa hx hb hK hP (by decide) rfl i_4 dX5_about_21 ?_
    refine lv_astore_n (lv' := [(3, .ref (E.1 (16 + 4 * (a1).toNatClampNeg))), (0, .ref (E.1 0)), (1, .int a1), (2, .int a2)]) hx hb dX5_about_22 rfl hl (by decide) rfl (fun ls hl => ?_)
    refine lv_iload_n hx hb dX5_about_23 rfl (lv_at hl 3 rfl) ?_
    by_cases c_7 : a2 = 0
    · replace h := (if_pos c_7).symm.trans h
      refine lv_tableIn (x := a2) (tgt := 76) hx hb dX5_about_24 (by rw [c_7]; decide) (by rw [c_7]; decide) (by rw [c_7]; rfl) (by decide) ?_
      refine lv_aload_n hx hb dX5_about_76 rfl (lv_at hl 1 rfl) ?_
      refine mk_g5_3 hx hb hts in_X5_about_X5 hown hK hP (by decide) rfl (hts (.fieldLink RX5 30 "MixedKernel" "order" "LMixedKernel$Line;") (by decide +kernel)) dX5_about_77 ?_
      refine lv_iload_n hx hb dX5_about_80 rfl (lv_at hl 2 rfl) ?_
      obtain ⟨r_9, e_8, h⟩ := mk_bind h
      refine va_calli (va_runV (As := [.int a1]) (rest := []) ⟨hx, hb, hml, hown, hts⟩ (c_X1_placeOf l D E L 5 a1 M (by decide) rfl e_8) (cwV 1 hts gX5_about_X1_placeOf rfl rfl rfl (by decide +kernel) ⟨Nat.le_of_ble_eq_true rfl, Nat.le_of_ble_eq_true rfl⟩) ⟨mk_W.blind, mk_rc1 hK hP (by decide) rfl, fun U hU hW => ⟨rfl, mk_W.at hU hW hP hK (hD _ _) hN⟩⟩ rfl rfl hl.1 rfl (lv_room (Nat.le_of_ble_eq_true rfl)) dX5_about_81 ⟨Nat.zero_le _, Nat.zero_le _⟩) hS (fun q _ h => h) (fun q h => h) (fun v_10 u t H1 locs ht hvm hw hB hz1 hk1 hS => ?_)
      subst v_10
      rw [ht] at hB
      replace hP := hB
      clear hB hz1 hk1 hvm ht
      generalize H1 = H at hP hS ⊢
      replace h := Option.some.inj h
      subst q
      exact W.widen (k := 1) (n := 6) (Nat.zero_le _) (Nat.zero_le _) (vx_ret (W.iret (v := r_9) hx hb hr (fun t ht hW => ⟨⟨_, (), rfl, ⟨rfl, rfl⟩, by rw [← ht] at hP; exact hP⟩, hS.F ht⟩) hS.2.2 dX5_about_84))
    · replace h := (if_neg c_7).symm.trans h
      by_cases c_11 : a2 = 1
      · replace h := (if_pos c_11).symm.trans h
        refine lv_tableIn (x := a2) (tgt := 85) hx hb dX5_about_24 (by rw [c_11]; decide) (by rw [c_11]; decide) (by rw [c_11]; rfl) (by decide) ?_
        refine lv_aload_n hx hb dX5_about_85 rfl (lv_at hl 1 rfl) ?_
        refine mk_g5_2 hx hb hts in_X5_about_X5 hown hK hP (by decide) rfl (hts (.fieldLink RX5 26 "MixedKernel" "plan" "LMixedKernel$Line;") (by decide +kernel)) dX5_about_86 ?_
        refine lv_iload_n hx hb dX5_about_89 rfl (lv_at hl 2 rfl) ?_
        obtain ⟨r_13, e_12, h⟩ := mk_bind h
        refine va_calli (va_runV (As := [.int a1]) (rest := []) ⟨hx, hb, hml, hown, hts⟩ (c_X1_placeOf l D E L 3 a1 M (by decide) rfl e_12) (cwV 1 hts gX5_about_X1_placeOf rfl rfl rfl (by decide +kernel) ⟨Nat.le_of_ble_eq_true rfl, Nat.le_of_ble_eq_true rfl⟩) ⟨mk_W.blind, mk_rc1 hK hP (by decide) rfl, fun U hU hW => ⟨rfl, mk_W.at hU hW hP hK (hD _ _) hN⟩⟩ rfl rfl hl.1 rfl (lv_room (Nat.le_of_ble_eq_true rfl)) dX5_about_90 ⟨Nat.zero_le _, Nat.zero_le _⟩) hS (fun q _ h => h) (fun q h => h) (fun v_14 u t H1 locs ht hvm hw hB hz1 hk1 hS => ?_)
        subst v_14
        rw [ht] at hB
        replace hP := hB
        clear hB hz1 hk1 hvm ht
        generalize H1 = H at hP hS ⊢
        replace h := Option.some.inj h
        subst q
        exact W.widen (k := 1) (n := 6) (Nat.zero_le _) (Nat.zero_le _) (vx_ret (W.iret (v := r_13) hx hb hr (fun t ht hW => ⟨⟨_, (), rfl, ⟨rfl, rfl⟩, by rw [← ht] at hP; exact hP⟩, hS.F ht⟩) hS.2.2 dX5_about_93))
      · replace h := (if_neg c_11).symm.trans h
        by_cases c_15 : a2 = 2
        · replace h := (if_pos c_15).symm.trans h
          refine lv_tableIn (x := a2) (tgt := 94) hx hb dX5_about_24 (by rw [c_15]; decide) (by rw [c_15]; decide) (by rw [c_15]; rfl) (by decide) ?_
          refine lv_aload_n hx hb dX5_about_94 rfl (lv_at hl 0 rfl) ?_
          refine mk_n3_9 hx hb hts in_X5_about_X3 hown hK hP (Nat.lt_trans k_5.2 (by decide)) k_5.1 (va_Nw.use rfl (hN (.fieldLinkNest "MixedKernel" 120 "MixedKernel$Task" "pending" "I" "MixedKernel") (by decide +kernel))) dX5_about_95 ?_
          replace h := Option.some.inj h
          subst q
          exact W.widen (k := 1) (n := 6) (Nat.zero_le _) (Nat.zero_le _) (vx_ret (W.iret (v := M (16 + 4 * (a1).toNatClampNeg) 9) hx hb hr (fun t ht hW => ⟨⟨_, (), rfl, ⟨rfl, rfl⟩, by rw [← ht] at hP; exact hP⟩, hS.F ht⟩) hS.2.2 dX5_about_98))
        · replace h := (if_neg c_15).symm.trans h
          by_cases c_16 : a2 = 3
          · replace h := (if_pos c_16).symm.trans h
            refine lv_tableIn (x := a2) (tgt := 99) hx hb dX5_about_24 (by rw [c_16]; decide) (by rw [c_16]; decide) (by rw [c_16]; rfl) (by decide) ?_
            refine lv_aload_n hx hb dX5_about_99 rfl (lv_at hl 0 rfl) ?_
            refine mk_n3_5 hx hb hts in_X5_about_X3 hown hK hP (Nat.lt_trans k_5.2 (by decide)) k_5.1 (va_Nw.use rfl (hN (.fieldLinkNest "MixedKernel" 170 "MixedKernel$Task" "jobs" "I" "MixedKernel") (by decide +kernel))) dX5_about_100 ?_
            replace h := Option.some.inj h
            subst q
            exact W.widen (k := 1) (n := 6) (Nat.zero_le _) (Nat.zero_le _) (vx_ret (W.iret (v := M (16 + 4 * (a1).toNatClampNeg) 5) hx hb hr (fun t ht hW => ⟨⟨_, (), rfl, ⟨rfl, rfl⟩, by rw [← ht] at hP; exact hP⟩, hS.F ht⟩) hS.2.2 dX5_about_103))
          · replace h := (if_neg c_16).symm.trans h
            by_cases c_17 : a2 = 4
            · replace h := (if_pos c_17).symm.trans h
              refine lv_tableIn (x := a2) (tgt := 104) hx hb dX5_about_24 (by rw [c_17]; decide) (by rw [c_17]; decide) (by rw [c_17]; rfl) (by decide) ?_
              refine lv_aload_n hx hb dX5_about_104 rfl (lv_at hl 0 rfl) ?_
              refine mk_n3_6 hx hb hts in_X5_about_X3 hown hK hP (Nat.lt_trans k_5.2 (by decide)) k_5.1 (va_Nw.use rfl (hN (.fieldLinkNest "MixedKernel" 130 "MixedKernel$Task" "dropped" "I" "MixedKernel") (by decide +kernel))) dX5_about_105 ?_
              replace h := Option.some.inj h
              subst q
              exact W.widen (k := 1) (n := 6) (Nat.zero_le _) (Nat.zero_le _) (vx_ret (W.iret (v := M (16 + 4 * (a1).toNatClampNeg) 6) hx hb hr (fun t ht hW => ⟨⟨_, (), rfl, ⟨rfl, rfl⟩, by rw [← ht] at hP; exact hP⟩, hS.F ht⟩) hS.2.2 dX5_about_108))
            · replace h := (if_neg c_17).symm.trans h
              by_cases c_18 : a2 = 5
              · replace h := (if_pos c_18).symm.trans h
                refine lv_tableIn (x := a2) (tgt := 109) hx hb dX5_about_24 (by rw [c_18]; decide) (by rw [c_18]; decide) (by rw [c_18]; rfl) (by decide) ?_
                refine lv_aload_n hx hb dX5_about_109 rfl (lv_at hl 0 rfl) ?_
                refine mk_n3_7 hx hb hts in_X5_about_X3 hown hK hP (Nat.lt_trans k_5.2 (by decide)) k_5.1 (va_Nw.use rfl (hN (.fieldLinkNest "MixedKernel" 173 "MixedKernel$Task" "ticks" "I" "MixedKernel") (by decide +kernel))) dX5_about_110 ?_
                replace h := Option.some.inj h
                subst q
                exact W.widen (k := 1) (n := 6) (Nat.zero_le _) (Nat.zero_le _) (vx_ret (W.iret (v := M (16 + 4 * (a1).toNatClampNeg) 7) hx hb hr (fun t ht hW => ⟨⟨_, (), rfl, ⟨rfl, rfl⟩, by rw [← ht] at hP; exact hP⟩, hS.F ht⟩) hS.2.2 dX5_about_113))
              · replace h := (if_neg c_18).symm.trans h
                by_cases c_19 : a2 = 6
                · replace h := (if_pos c_19).symm.trans h
                  refine lv_tableIn (x := a2) (tgt := 114) hx hb dX5_about_24 (by rw [c_19]; decide) (by rw [c_19]; decide) (by rw [c_19]; rfl) (by decide) ?_
                  refine lv_aload_n hx hb dX5_about_114 rfl (lv_at hl 0 rfl) ?_
                  obtain ⟨r_21, e_20, h⟩ := mk_bind h
                  refine va_calli (va_runV (As := []) (rest := []) ⟨hx, hb, hml, hown, hts⟩ (c_X3_nextRelease l D E L (16 + 4 * (a1).toNatClampNeg) M (Nat.lt_trans k_5.2 (by decide)) k_5.1 e_20) (cwV 0 hts gX5_about_X3_nextRelease rfl rfl rfl (by decide +kernel) ⟨Nat.le_of_ble_eq_true rfl, Nat.le_of_ble_eq_true rfl⟩) ⟨mk_W.blind, mk_rc3 hK hP (Nat.lt_trans k_5.2 (by decide)) k_5.1, fun U hU hW => ⟨rfl, mk_W.at hU hW hP hK (hD _ _) hN⟩⟩ rfl rfl hl.1 rfl (lv_room (Nat.le_of_ble_eq_true rfl)) dX5_about_115 ⟨Nat.zero_le _, Nat.zero_le _⟩) hS (fun q _ h => h) (fun q h => h) (fun v_22 u t H1 locs ht hvm hw hB hz1 hk1 hS => ?_)
                  subst v_22
                  rw [ht] at hB
                  replace hP := hB
                  clear hB hz1 hk1 hvm ht
                  generalize H1 = H at hP hS ⊢
                  replace h := Option.some.inj h
                  subst q
                  exact W.widen (k := 1) (n := 6) (Nat.zero_le _) (Nat.zero_le _) (vx_ret (W.iret (v := r_21) hx hb hr (fun t ht hW => ⟨⟨_, (), rfl, ⟨rfl, rfl⟩, by rw [← ht] at hP; exact hP⟩, hS.F ht⟩) hS.2.2 dX5_about_118))
                · replace h := (if_neg c_19).symm.trans h
                  by_cases c_23 : a2 = 7
                  · replace h := (if_pos c_23).symm.trans h
                    refine lv_tableIn (x := a2) (tgt := 119) hx hb dX5_about_24 (by rw [c_23]; decide) (by rw [c_23]; decide) (by rw [c_23]; rfl) (by decide) ?_
                    refine lv_aload_n hx hb dX5_about_119 rfl (lv_at hl 0 rfl) ?_
                    refine mk_n3_4 hx hb hts in_X5_about_X3 hown hK hP (Nat.lt_trans k_5.2 (by decide)) k_5.1 (va_Nw.use rfl (hN (.fieldLinkNest "MixedKernel" 100 "MixedKernel$Task" "leaving" "Z" "MixedKernel") (by decide +kernel))) dX5_about_120 ?_
                    refine lv_if_eq (tgt := 130) hx hb dX5_about_123 (by decide) (fun c_24 => ?_) (fun c_24 => ?_)
                    · replace h := (if_pos c_24).symm.trans h
                      refine lv_iconst (v := 0) hx hb dX5_about_130 (by decide) ?_
                      replace h := Option.some.inj h
                      subst q
                      exact W.widen (k := 1) (n := 6) (Nat.zero_le _) (Nat.zero_le _) (vx_ret (W.iret (v := 0) hx hb hr (fun t ht hW => ⟨⟨_, (), rfl, ⟨rfl, rfl⟩, by rw [← ht] at hP; exact hP⟩, hS.F ht⟩) hS.2.2 dX5_about_131))
                    · replace h := (if_neg c_24).symm.trans h
                      refine lv_iconst (v := 1) hx hb dX5_about_126 (by decide) ?_
                      refine lv_goto (tgt := 131) hx hb dX5_about_127 (by decide) ?_
                      replace h := Option.some.inj h
                      subst q
                      exact W.widen (k := 1) (n := 6) (Nat.zero_le _) (Nat.zero_le _) (vx_ret (W.iret (v := 1) hx hb hr (fun t ht hW => ⟨⟨_, (), rfl, ⟨rfl, rfl⟩, by rw [← ht] at hP; exact hP⟩, hS.F ht⟩) hS.2.2 dX5_about_131))
                  · replace h := (if_neg c_23).symm.trans h
                    by_cases c_25 : a2 = 8
                    · replace h := (if_pos c_25).symm.trans h
                      refine lv_tableIn (x := a2) (tgt := 132) hx hb dX5_about_24 (by rw [c_25]; decide) (by rw [c_25]; decide) (by rw [c_25]; rfl) (by decide) ?_
                      refine lv_aload_n hx hb dX5_about_132 rfl (lv_at hl 0 rfl) ?_
                      refine lv_aload_n hx hb dX5_about_133 rfl (lv_at hl 1 rfl) ?_
                      refine mk_g5_9 hx hb hts in_X5_about_X5 hown hK hP (by decide) rfl (hts (.fieldLink RX5 113 "MixedKernel" "time" "I") (by decide +kernel)) dX5_about_134 ?_
                      obtain ⟨r_27, e_26, h⟩ := mk_bind h
                      refine va_calli (va_runV (As := [.int (M 0 9)]) (rest := []) ⟨hx, hb, hml, hown, hts⟩ (c_X3_lateJobs l D E L (16 + 4 * (a1).toNatClampNeg) (M 0 9) M (Nat.lt_trans k_5.2 (by decide)) k_5.1 e_26) (cwV 1 hts gX5_about_X3_lateJobs rfl rfl rfl (by decide +kernel) ⟨Nat.le_of_ble_eq_true rfl, Nat.le_of_ble_eq_true rfl⟩) ⟨mk_W.blind, mk_rc3 hK hP (Nat.lt_trans k_5.2 (by decide)) k_5.1, fun U hU hW => ⟨rfl, mk_W.at hU hW hP hK (hD _ _) hN⟩⟩ rfl rfl hl.1 rfl (lv_room (Nat.le_of_ble_eq_true rfl)) dX5_about_137 ⟨Nat.zero_le _, Nat.zero_le _⟩) hS (fun q _ h => h) (fun q h => h) (fun v_28 u t H1 locs ht hvm hw hB hz1 hk1 hS => ?_)
                      subst v_28
                      rw [ht] at hB
                      replace hP := hB
                      clear hB hz1 hk1 hvm ht
                      generalize H1 = H at hP hS ⊢
                      replace h := Option.some.inj h
                      subst q
                      exact W.widen (k := 1) (n := 6) (Nat.zero_le _) (Nat.zero_le _) (vx_ret (W.iret (v := r_27) hx hb hr (fun t ht hW => ⟨⟨_, (), rfl, ⟨rfl, rfl⟩, by rw [← ht] at hP; exact hP⟩, hS.F ht⟩) hS.2.2 dX5_about_140))
                    · replace h := (if_neg c_25).symm.trans h
                      have ec_7 := lv_neT (k := 0) (a := 0) c_7 rfl
                      have ec_11 := lv_neT (k := 1) (a := 1) c_11 rfl
                      have ec_15 := lv_neT (k := 2) (a := 2) c_15 rfl
                      have ec_16 := lv_neT (k := 3) (a := 3) c_16 rfl
                      have ec_17 := lv_neT (k := 4) (a := 4) c_17 rfl
                      have ec_18 := lv_neT (k := 5) (a := 5) c_18 rfl
                      have ec_19 := lv_neT (k := 6) (a := 6) c_19 rfl
                      have ec_23 := lv_neT (k := 7) (a := 7) c_23 rfl
                      have ec_25 := lv_neT (k := 8) (a := 8) c_25 rfl
                      refine lv_tableOut (x := a2) (tgt := 141) hx hb dX5_about_24 (by omega) (by decide) ?_
                      replace h := Option.some.inj h
                      subst q
                      exact vx_throw0 (names := ["java/lang/RuntimeException", "java/lang/Exception"]) (A := mk_A E) hx hb hst hown (by decide +kernel) (by decide +kernel) (hts (.classLink RX5 66 "java/lang/IllegalArgumentException") (by decide +kernel)) (hts (.initialized "java/lang/IllegalArgumentException") (by decide +kernel)) (vx_hat (fun w h9 => hts w (xa_X5_about_1 w h9)) xb_X5_about_1 (fun w h9 => hT.2.2 w h9 _)) xg_X5_about_1 hT.1 hT.2.1 hS (hl.1.trans hml.symm) dX5_about_141 dX5_about_144 dX5_about_145 dX5_about_148 (fun x h9 => (hno x h9).elim) (Nat.le_of_ble_eq_true rfl) (Nat.le_of_ble_eq_true rfl) (Nat.le_of_ble_eq_true rfl) (Nat.le_of_ble_eq_true rfl) hlk (fun t _ h1 h2 => mk_thr (q := ((1, 0), M)) hP hS (Nat.succ_ne_zero _) h1 h2) hS.2.2 (Nat.le_of_ble_eq_true rfl) (Nat.le_of_ble_eq_true rfl)
  · replace h := (if_pos c_3).symm.trans h
    replace h := Option.some.inj h
    subst q
    exact vx_throw0 (names := ["java/lang/RuntimeException", "java/lang/Exception"]) (A := mk_A E) hx hb hst hown (by decide +kernel) (by decide +kernel) (hts (.classLink RX5 97 "java/util/NoSuchElementException") (by decide +kernel)) (hts (.initialized "java/util/NoSuchElementException") (by decide +kernel)) (vx_hat (fun w h9 => hts w (xa_X5_about_3 w h9)) xb_X5_about_3 (fun w h9 => hT.2.2 w h9 _)) xg_X5_about_3 hT.1 hT.2.1 hS (hl.1.trans hml.symm) dX5_about_8 dX5_about_11 dX5_about_12 dX5_about_15 (fun x h9 => (hno x h9).elim) (Nat.le_of_ble_eq_true rfl) (Nat.le_of_ble_eq_true rfl) (Nat.le_of_ble_eq_true rfl) (Nat.le_of_ble_eq_true rfl) hlk (fun t _ h1 h2 => mk_thr (q := ((3, 0), M)) hP hS (Nat.succ_ne_zero _) h1 h2) hS.2.2 (Nat.le_of_ble_eq_true rfl) (Nat.le_of_ble_eq_true rfl)
abbrev rm_X5_count : Room := { frames := 6, cells := 1, slots := 6, locals := 81 }
theorem xa_X5_count_1 : ∀ w ∈ (vx_at0 RX5 68 "java/lang/IllegalArgumentException" ["java/lang/RuntimeException", "java/lang/Exception"]).filter goodWord, w ∈ wsX5_count := by decide +kernel
theorem xb_X5_count_1 : ∀ w ∈ (vx_at0 RX5 68 "java/lang/IllegalArgumentException" ["java/lang/RuntimeException", "java/lang/Exception"]).filter (fun w => !goodWord w), w ∈ mk_bad := by decide +kernel
theorem xg_X5_count_1 : ∀ w ∈ Cond.classLink RX5 66 "java/lang/IllegalArgumentException" :: Cond.initialized "java/lang/IllegalArgumentException" :: vx_at0 RX5 68 "java/lang/IllegalArgumentException" ["java/lang/RuntimeException", "java/lang/Exception"], vx_ot w = true := by decide +kernel
theorem in_X5_count_X0 : ∀ w ∈ wsX00, w ∈ wsX5_count := by decide +kernel
theorem in_X5_count_X1 : ∀ w ∈ wsX10, w ∈ wsX5_count := by decide +kernel
theorem in_X5_count_X5 : ∀ w ∈ wsX50, w ∈ wsX5_count := by decide +kernel
def f_X5_count (a1 : Int32) (M : mk_M) : Option ((Nat × Int32) × mk_M) := (if a1 = 0 then (some ((0, M 0 9), M)) else (if a1 = 1 then (some ((0, M 0 10), M)) else (if a1 = 2 then (if (M 0 8) = 0 then (some ((0, 0), M)) else (some ((0, 1), M))) else (if a1 = 3 then (some ((0, M 14 1), M)) else (if a1 = 4 then (some ((0, M 3 1), M)) else (if a1 = 5 then (some ((0, M 5 1), M)) else (if a1 = 6 then ((f_X5_pendingJobs M).bind (fun r_10 => (some ((0, r_10), M)))) else (if a1 = 7 then (some ((0, M 0 12), M)) else (if a1 = 8 then (some ((0, (M 0 9) - (M 0 11)), M)) else (some ((1, 0), M)))))))))))
set_option maxHeartbeats 4000000 in
set_option maxRecDepth 100000 in
theorem c_X5_count (l : Launch) (hst : l.stackTraces = false) (D : va_G) (E : mk_E) (L : Nat → Int64) (a1 : Int32) (M : mk_M) {q : (Nat × Int32) × mk_M} (h : f_X5_count a1 M = some q) : vx_Met l yX5_count wsX5_count rm_X5_count (va_Pc [.ref (E.1 0), .int a1] (mk_WT D E M L)) (mk_Qt D E L q) (mk_X D E L q) 1 6 (mk_A E) := by
  refine vx_ofW (cc := cX5_count) (maxL := 2) (ret := (some .int)) (by decide) rfl ?_
  intro p e s m args below meth c s₁ B hml hno hv
  obtain ⟨rfl, ⟨hP, hK, hD0, hN⟩, hT⟩ := hv
  have hx := B.exec
  have hb := B.bytes
  have hr := B.returns
  have hts := atoms_spec (ws := wsX5_count) B.pre
  have hown : s.vm.findClass RX5 = some m.cls := findClass_of_methodNamed B.named
  have hlk := B.notSynchronized
  have hD : ∀ (M : mk_M) (L : Nat → Int64), va_D (mk_A E) (mk_wl E M L) := fun _ _ => mk_D hD0
  have C0 : mk_C p s m [.ref (E.1 0), .int a1].toArray meth c cX5_count 2 wsX5_count RX5 (some .int) D E := ⟨hx, hb, hml, hown, hts, hr, hlk, hK, hD, hN⟩
  have hS : va_S (mk_A E) s.heap s.heap [] := va_S.rf
  have hl := lv_entry ([.ref (E.1 0), .int a1]) (n := 2) (Nat.le_of_ble_eq_true rfl)
  rw [lg_entry_eq]
  generalize (lg_sl ([.ref (E.1 0), .int a1]) ++ List.replicate (2 - (lg_sl ([.ref (E.1 0), .int a1])).length) Slot.unset).toArray = ls at hl ⊢
  have hl : lv_has ls 2 [(0, .ref (E.1 0)), (1, .int a1)] := hl
  replace h : (if a1 = 0 then (some ((0, M 0 9), M)) else (if a1 = 1 then (some ((0, M 0 10), M)) else (if a1 = 2 then (if (M 0 8) = 0 then (some ((0, 0), M)) else (some ((0, 1), M))) else (if a1 = 3 then (some ((0, M 14 1), M)) else (if a1 = 4 then (some ((0, M 3 1), M)) else (if a1 = 5 then (some ((0, M 5 1), M)) else (if a1 = 6 then ((f_X5_pendingJobs M).bind (fun r_10 => (some ((0, r_10), M)))) else (if a1 = 7 then (some ((0, M 0 12), M)) else (if a1 = 8 then (some ((0, (M 0 9) - (M 0 11)), M)) else (some ((1, 0), M))))))))))) = some q := h
  refine lv_iload_n hx hb dX5_count_0 rfl (lv_at hl 1 rfl) ?_
  by_cases c_1 : a1 = 0
  · replace h := (if_pos c_1).symm.trans h
    refine lv_tableIn (x := a1) (tgt := 52) hx hb dX5_count_1 (by rw [c_1]; decide) (by rw [c_1]; decide) (by rw [c_1]; rfl) (by decide) ?_
    refine lv_aload_n hx hb dX5_count_52 rfl (lv_at hl 0 rfl) ?_
    refine mk_g5_9 hx hb hts in_X5_count_X5 hown hK hP (by decide) rfl (hts (.fieldLink RX5 113 "MixedKernel" "time" "I") (by decide +kernel)) dX5_count_53 ?_
    replace h := Option.some.inj h
    subst q
    exact W.widen (k := 1) (n := 6) (Nat.zero_le _) (Nat.zero_le _) (vx_ret (W.iret (v := M 0 9) hx hb hr (fun t ht hW => ⟨⟨_, (), rfl, ⟨rfl, rfl⟩, by rw [← ht] at hP; exact hP⟩, hS.F ht⟩) hS.2.2 dX5_count_56))
  · replace h := (if_neg c_1).symm.trans h
    by_cases c_2 : a1 = 1
    · replace h := (if_pos c_2).symm.trans h
      refine lv_tableIn (x := a1) (tgt := 57) hx hb dX5_count_1 (by rw [c_2]; decide) (by rw [c_2]; decide) (by rw [c_2]; rfl) (by decide) ?_
      refine lv_aload_n hx hb dX5_count_57 rfl (lv_at hl 0 rfl) ?_
      refine mk_g5_10 hx hb hts in_X5_count_X5 hown hK hP (by decide) rfl (hts (.fieldLink RX5 192 "MixedKernel" "idleTicks" "I") (by decide +kernel)) dX5_count_58 ?_
      replace h := Option.some.inj h
      subst q
      exact W.widen (k := 1) (n := 6) (Nat.zero_le _) (Nat.zero_le _) (vx_ret (W.iret (v := M 0 10) hx hb hr (fun t ht hW => ⟨⟨_, (), rfl, ⟨rfl, rfl⟩, by rw [← ht] at hP; exact hP⟩, hS.F ht⟩) hS.2.2 dX5_count_61))
    · replace h := (if_neg c_2).symm.trans h
      by_cases c_3 : a1 = 2
      · replace h := (if_pos c_3).symm.trans h
        refine lv_tableIn (x := a1) (tgt := 62) hx hb dX5_count_1 (by rw [c_3]; decide) (by rw [c_3]; decide) (by rw [c_3]; rfl) (by decide) ?_
        refine lv_aload_n hx hb dX5_count_62 rfl (lv_at hl 0 rfl) ?_
        refine mk_g5_8 hx hb hts in_X5_count_X5 hown hK hP (by decide) rfl (hts (.fieldLink RX5 123 "MixedKernel" "highMode" "Z") (by decide +kernel)) dX5_count_63 ?_
        refine lv_if_eq (tgt := 73) hx hb dX5_count_66 (by decide) (fun c_4 => ?_) (fun c_4 => ?_)
        · replace h := (if_pos c_4).symm.trans h
          refine lv_iconst (v := 0) hx hb dX5_count_73 (by decide) ?_
          replace h := Option.some.inj h
          subst q
          exact W.widen (k := 1) (n := 6) (Nat.zero_le _) (Nat.zero_le _) (vx_ret (W.iret (v := 0) hx hb hr (fun t ht hW => ⟨⟨_, (), rfl, ⟨rfl, rfl⟩, by rw [← ht] at hP; exact hP⟩, hS.F ht⟩) hS.2.2 dX5_count_74))
        · replace h := (if_neg c_4).symm.trans h
          refine lv_iconst (v := 1) hx hb dX5_count_69 (by decide) ?_
          refine lv_goto (tgt := 74) hx hb dX5_count_70 (by decide) ?_
          replace h := Option.some.inj h
          subst q
          exact W.widen (k := 1) (n := 6) (Nat.zero_le _) (Nat.zero_le _) (vx_ret (W.iret (v := 1) hx hb hr (fun t ht hW => ⟨⟨_, (), rfl, ⟨rfl, rfl⟩, by rw [← ht] at hP; exact hP⟩, hS.F ht⟩) hS.2.2 dX5_count_74))
      · replace h := (if_neg c_3).symm.trans h
        by_cases c_5 : a1 = 3
        · replace h := (if_pos c_5).symm.trans h
          refine lv_tableIn (x := a1) (tgt := 75) hx hb dX5_count_1 (by rw [c_5]; decide) (by rw [c_5]; decide) (by rw [c_5]; rfl) (by decide) ?_
          refine lv_aload_n hx hb dX5_count_75 rfl (lv_at hl 0 rfl) ?_
          refine mk_g5_7 hx hb hts in_X5_count_X5 hown hK hP (by decide) rfl (hts (.fieldLink RX5 52 "MixedKernel" "changes" "LMixedKernel$Latest;") (by decide +kernel)) dX5_count_76 ?_
          refine mk_n0_1 hx hb hts in_X5_count_X0 hown hK hP (by decide) rfl (va_Nw.use rfl (hN (.fieldLinkNest "MixedKernel" 195 "MixedKernel$Latest" "total" "I" "MixedKernel") (by decide +kernel))) dX5_count_79 ?_
          replace h := Option.some.inj h
          subst q
          exact W.widen (k := 1) (n := 6) (Nat.zero_le _) (Nat.zero_le _) (vx_ret (W.iret (v := M 14 1) hx hb hr (fun t ht hW => ⟨⟨_, (), rfl, ⟨rfl, rfl⟩, by rw [← ht] at hP; exact hP⟩, hS.F ht⟩) hS.2.2 dX5_count_82))
        · replace h := (if_neg c_5).symm.trans h
          by_cases c_6 : a1 = 4
          · replace h := (if_pos c_6).symm.trans h
            refine lv_tableIn (x := a1) (tgt := 83) hx hb dX5_count_1 (by rw [c_6]; decide) (by rw [c_6]; decide) (by rw [c_6]; rfl) (by decide) ?_
            refine lv_aload_n hx hb dX5_count_83 rfl (lv_at hl 0 rfl) ?_
            refine mk_g5_2 hx hb hts in_X5_count_X5 hown hK hP (by decide) rfl (hts (.fieldLink RX5 26 "MixedKernel" "plan" "LMixedKernel$Line;") (by decide +kernel)) dX5_count_84 ?_
            refine mk_n1_1 hx hb hts in_X5_count_X1 hown hK hP (by decide) rfl (va_Nw.use rfl (hN (.fieldLinkNest "MixedKernel" 140 "MixedKernel$Line" "size" "I" "MixedKernel") (by decide +kernel))) dX5_count_87 ?_
            replace h := Option.some.inj h
            subst q
            exact W.widen (k := 1) (n := 6) (Nat.zero_le _) (Nat.zero_le _) (vx_ret (W.iret (v := M 3 1) hx hb hr (fun t ht hW => ⟨⟨_, (), rfl, ⟨rfl, rfl⟩, by rw [← ht] at hP; exact hP⟩, hS.F ht⟩) hS.2.2 dX5_count_90))
          · replace h := (if_neg c_6).symm.trans h
            by_cases c_7 : a1 = 5
            · replace h := (if_pos c_7).symm.trans h
              refine lv_tableIn (x := a1) (tgt := 91) hx hb dX5_count_1 (by rw [c_7]; decide) (by rw [c_7]; decide) (by rw [c_7]; rfl) (by decide) ?_
              refine lv_aload_n hx hb dX5_count_91 rfl (lv_at hl 0 rfl) ?_
              refine mk_g5_3 hx hb hts in_X5_count_X5 hown hK hP (by decide) rfl (hts (.fieldLink RX5 30 "MixedKernel" "order" "LMixedKernel$Line;") (by decide +kernel)) dX5_count_92 ?_
              refine mk_n1_1 hx hb hts in_X5_count_X1 hown hK hP (by decide) rfl (va_Nw.use rfl (hN (.fieldLinkNest "MixedKernel" 140 "MixedKernel$Line" "size" "I" "MixedKernel") (by decide +kernel))) dX5_count_95 ?_
              replace h := Option.some.inj h
              subst q
              exact W.widen (k := 1) (n := 6) (Nat.zero_le _) (Nat.zero_le _) (vx_ret (W.iret (v := M 5 1) hx hb hr (fun t ht hW => ⟨⟨_, (), rfl, ⟨rfl, rfl⟩, by rw [← ht] at hP; exact hP⟩, hS.F ht⟩) hS.2.2 dX5_count_98))
            · replace h := (if_neg c_7).symm.trans h
              by_cases c_8 : a1 = 6
              · replace h := (if_pos c_8).symm.trans h
                refine lv_tableIn (x := a1) (tgt := 99) hx hb dX5_count_1 (by rw [c_8]; decide) (by rw [c_8]; decide) (by rw [c_8]; rfl) (by decide) ?_
                refine lv_aload_n hx hb dX5_count_99 rfl (lv_at hl 0 rfl) ?_
                obtain ⟨r_10, e_9, h⟩ := mk_bind h
                refine va_calli (va_runV (As := []) (rest := []) ⟨hx, hb, hml, hown, hts⟩ (c_X5_pendingJobs l D E L  M  e_9) (cwV 0 hts gX5_count_X5_pendingJobs rfl rfl rfl (by decide +kernel) ⟨Nat.le_of_ble_eq_true rfl, Nat.le_of_ble_eq_true rfl⟩) ⟨mk_W.blind, mk_rc5 hK hP (by decide) rfl, fun U hU hW => ⟨rfl, mk_W.at hU hW hP hK (hD _ _) hN⟩⟩ rfl rfl hl.1 rfl (lv_room (Nat.le_of_ble_eq_true rfl)) dX5_count_100 ⟨Nat.zero_le _, Nat.zero_le _⟩) hS (fun q _ h => h) (fun q h => h) (fun v_11 u t H1 locs ht hvm hw hB hz1 hk1 hS => ?_)
                subst v_11
                rw [ht] at hB
                replace hP := hB
                clear hB hz1 hk1 hvm ht
                generalize H1 = H at hP hS ⊢
                replace h := Option.some.inj h
                subst q
                exact W.widen (k := 1) (n := 6) (Nat.zero_le _) (Nat.zero_le _) (vx_ret (W.iret (v := r_10) hx hb hr (fun t ht hW => ⟨⟨_, (), rfl, ⟨rfl, rfl⟩, by rw [← ht] at hP; exact hP⟩, hS.F ht⟩) hS.2.2 dX5_count_103))
              · replace h := (if_neg c_8).symm.trans h
                by_cases c_12 : a1 = 7
                · replace h := (if_pos c_12).symm.trans h
                  refine lv_tableIn (x := a1) (tgt := 104) hx hb dX5_count_1 (by rw [c_12]; decide) (by rw [c_12]; decide) (by rw [c_12]; rfl) (by decide) ?_
                  refine lv_aload_n hx hb dX5_count_104 rfl (lv_at hl 0 rfl) ?_
                  refine mk_g5_12 hx hb hts in_X5_count_X5 hown hK hP (by decide) rfl (hts (.fieldLink RX5 201 "MixedKernel" "givenUp" "I") (by decide +kernel)) dX5_count_105 ?_
                  replace h := Option.some.inj h
                  subst q
                  exact W.widen (k := 1) (n := 6) (Nat.zero_le _) (Nat.zero_le _) (vx_ret (W.iret (v := M 0 12) hx hb hr (fun t ht hW => ⟨⟨_, (), rfl, ⟨rfl, rfl⟩, by rw [← ht] at hP; exact hP⟩, hS.F ht⟩) hS.2.2 dX5_count_108))
                · replace h := (if_neg c_12).symm.trans h
                  by_cases c_13 : a1 = 8
                  · replace h := (if_pos c_13).symm.trans h
                    refine lv_tableIn (x := a1) (tgt := 109) hx hb dX5_count_1 (by rw [c_13]; decide) (by rw [c_13]; decide) (by rw [c_13]; rfl) (by decide) ?_
                    refine lv_aload_n hx hb dX5_count_109 rfl (lv_at hl 0 rfl) ?_
                    refine mk_g5_9 hx hb hts in_X5_count_X5 hown hK hP (by decide) rfl (hts (.fieldLink RX5 113 "MixedKernel" "time" "I") (by decide +kernel)) dX5_count_110 ?_
                    refine lv_aload_n hx hb dX5_count_113 rfl (lv_at hl 0 rfl) ?_
                    refine mk_g5_11 hx hb hts in_X5_count_X5 hown hK hP (by decide) rfl (hts (.fieldLink RX5 204 "MixedKernel" "latestIdle" "I") (by decide +kernel)) dX5_count_114 ?_
                    refine lv_isub hx hb dX5_count_117 ?_
                    replace h := Option.some.inj h
                    subst q
                    exact W.widen (k := 1) (n := 6) (Nat.zero_le _) (Nat.zero_le _) (vx_ret (W.iret (v := (M 0 9) - (M 0 11)) hx hb hr (fun t ht hW => ⟨⟨_, (), rfl, ⟨rfl, rfl⟩, by rw [← ht] at hP; exact hP⟩, hS.F ht⟩) hS.2.2 dX5_count_118))
                  · replace h := (if_neg c_13).symm.trans h
                    have ec_1 := lv_neT (k := 0) (a := 0) c_1 rfl
                    have ec_2 := lv_neT (k := 1) (a := 1) c_2 rfl
                    have ec_3 := lv_neT (k := 2) (a := 2) c_3 rfl
                    have ec_5 := lv_neT (k := 3) (a := 3) c_5 rfl
                    have ec_6 := lv_neT (k := 4) (a := 4) c_6 rfl
                    have ec_7 := lv_neT (k := 5) (a := 5) c_7 rfl
                    have ec_8 := lv_neT (k := 6) (a := 6) c_8 rfl
                    have ec_12 := lv_neT (k := 7) (a := 7) c_12 rfl
                    have ec_13 := lv_neT (k := 8) (a := 8) c_13 rfl
                    refine lv_tableOut (x := a1) (tgt := 119) hx hb dX5_count_1 (by omega) (by decide) ?_
                    replace h := Option.some.inj h
                    subst q
                    exact vx_throw0 (names := ["java/lang/RuntimeException", "java/lang/Exception"]) (A := mk_A E) hx hb hst hown (by decide +kernel) (by decide +kernel) (hts (.classLink RX5 66 "java/lang/IllegalArgumentException") (by decide +kernel)) (hts (.initialized "java/lang/IllegalArgumentException") (by decide +kernel)) (vx_hat (fun w h9 => hts w (xa_X5_count_1 w h9)) xb_X5_count_1 (fun w h9 => hT.2.2 w h9 _)) xg_X5_count_1 hT.1 hT.2.1 hS (hl.1.trans hml.symm) dX5_count_119 dX5_count_122 dX5_count_123 dX5_count_126 (fun x h9 => (hno x h9).elim) (Nat.le_of_ble_eq_true rfl) (Nat.le_of_ble_eq_true rfl) (Nat.le_of_ble_eq_true rfl) (Nat.le_of_ble_eq_true rfl) hlk (fun t _ h1 h2 => mk_thr (q := ((1, 0), M)) hP hS (Nat.succ_ne_zero _) h1 h2) hS.2.2 (Nat.le_of_ble_eq_true rfl) (Nat.le_of_ble_eq_true rfl)
abbrev rm_X5_witness : Room := { frames := 6, cells := 1, slots := 6, locals := 91 }
theorem xa_X5_witness_1 : ∀ w ∈ (vx_at0 RX5 68 "java/lang/IllegalArgumentException" ["java/lang/RuntimeException", "java/lang/Exception"]).filter goodWord, w ∈ wsX5_witness := by decide +kernel
theorem xb_X5_witness_1 : ∀ w ∈ (vx_at0 RX5 68 "java/lang/IllegalArgumentException" ["java/lang/RuntimeException", "java/lang/Exception"]).filter (fun w => !goodWord w), w ∈ mk_bad := by decide +kernel
theorem xg_X5_witness_1 : ∀ w ∈ Cond.classLink RX5 66 "java/lang/IllegalArgumentException" :: Cond.initialized "java/lang/IllegalArgumentException" :: vx_at0 RX5 68 "java/lang/IllegalArgumentException" ["java/lang/RuntimeException", "java/lang/Exception"], vx_ot w = true := by decide +kernel
theorem xa_X5_witness_3 : ∀ w ∈ (vx_at0 RX5 99 "java/util/NoSuchElementException" ["java/lang/RuntimeException", "java/lang/Exception"]).filter goodWord, w ∈ wsX5_witness := by decide +kernel
theorem xb_X5_witness_3 : ∀ w ∈ (vx_at0 RX5 99 "java/util/NoSuchElementException" ["java/lang/RuntimeException", "java/lang/Exception"]).filter (fun w => !goodWord w), w ∈ mk_bad := by decide +kernel
theorem xg_X5_witness_3 : ∀ w ∈ Cond.classLink RX5 97 "java/util/NoSuchElementException" :: Cond.initialized "java/util/NoSuchElementException" :: vx_at0 RX5 99 "java/util/NoSuchElementException" ["java/lang/RuntimeException", "java/lang/Exception"], vx_ot w = true := by decide +kernel
theorem in_X5_witness_X5 : ∀ w ∈ wsX50, w ∈ wsX5_witness := by decide +kernel
def f_X5_witness (a1 : Int32) (a2 : Int32) (M : mk_M) : Option ((Nat × Int32) × mk_M) := (if a1 < 0 then (some ((3, 0), M)) else ((f_X2_releases M).bind (fun r_3 => (if a1 < r_3 then (if a2 = 0 then ((f_X2_timeOf a1 M).bind (fun r_11 => (some ((0, r_11), M)))) else (if a2 = 1 then ((f_X2_taskOf a1 M).bind (fun r_8 => (some ((0, r_8), M)))) else (some ((1, 0), M)))) else (some ((3, 0), M))))))
set_option maxHeartbeats 4000000 in
set_option maxRecDepth 100000 in
theorem c_X5_witness (l : Launch) (hst : l.stackTraces = false) (D : va_G) (E : mk_E) (L : Nat → Int64) (a1 : Int32) (a2 : Int32) (M : mk_M) {q : (Nat × Int32) × mk_M} (h : f_X5_witness a1 a2 M = some q) : vx_Met l yX5_witness wsX5_witness rm_X5_witness (va_Pc [.ref (E.1 0), .int a1, .int a2] (mk_WT D E M L)) (mk_Qt D E L q) (mk_X D E L q) 1 6 (mk_A E) := by
  refine vx_ofW (cc := cX5_witness) (maxL := 3) (ret := (some .int)) (by decide) rfl ?_
  intro p e s m args below meth c s₁ B hml hno hv
  obtain ⟨rfl, ⟨hP, hK, hD0, hN⟩, hT⟩ := hv
  have hx := B.exec
  have hb := B.bytes
  have hr := B.returns
  have hts := atoms_spec (ws := wsX5_witness) B.pre
  have hown : s.vm.findClass RX5 = some m.cls := findClass_of_methodNamed B.named
  have hlk := B.notSynchronized
  have hD : ∀ (M : mk_M) (L : Nat → Int64), va_D (mk_A E) (mk_wl E M L) := fun _ _ => mk_D hD0
  have C0 : mk_C p s m [.ref (E.1 0), .int a1, .int a2].toArray meth c cX5_witness 3 wsX5_witness RX5 (some .int) D E := ⟨hx, hb, hml, hown, hts, hr, hlk, hK, hD, hN⟩
  have hS : va_S (mk_A E) s.heap s.heap [] := va_S.rf
  have hl := lv_entry ([.ref (E.1 0), .int a1, .int a2]) (n := 3) (Nat.le_of_ble_eq_true rfl)
  rw [lg_entry_eq]
  generalize (lg_sl ([.ref (E.1 0), .int a1, .int a2]) ++ List.replicate (3 - (lg_sl ([.ref (E.1 0), .int a1, .int a2])).length) Slot.unset).toArray = ls at hl ⊢
  have hl : lv_has ls 3 [(0, .ref (E.1 0)), (1, .int a1), (2, .int a2)] := hl
  replace h : (if a1 < 0 then (some ((3, 0), M)) else ((f_X2_releases M).bind (fun r_3 => (if a1 < r_3 then (if a2 = 0 then ((f_X2_timeOf a1 M).bind (fun r_11 => (some ((0, r_11), M)))) else (if a2 = 1 then ((f_X2_taskOf a1 M).bind (fun r_8 => (some ((0, r_8), M)))) else (some ((1, 0), M)))) else (some ((3, 0), M)))))) = some q := h
  refine lv_iload_n hx hb dX5_witness_0 rfl (lv_at hl 1 rfl) ?_
  refine lv_if_lt (tgt := 15) hx hb dX5_witness_1 (by decide) (fun c_1 => ?_) (fun c_1 => ?_)
  · replace h := (if_pos c_1).symm.trans h
    replace h := Option.some.inj h
    subst q
    exact vx_throw0 (names := ["java/lang/RuntimeException", "java/lang/Exception"]) (A := mk_A E) hx hb hst hown (by decide +kernel) (by decide +kernel) (hts (.classLink RX5 97 "java/util/NoSuchElementException") (by decide +kernel)) (hts (.initialized "java/util/NoSuchElementException") (by decide +kernel)) (vx_hat (fun w h9 => hts w (xa_X5_witness_3 w h9)) xb_X5_witness_3 (fun w h9 => hT.2.2 w h9 _)) xg_X5_witness_3 hT.1 hT.2.1 hS (hl.1.trans hml.symm) dX5_witness_15 dX5_witness_18 dX5_witness_19 dX5_witness_22 (fun x h9 => (hno x h9).elim) (Nat.le_of_ble_eq_true rfl) (Nat.le_of_ble_eq_true rfl) (Nat.le_of_ble_eq_true rfl) (Nat.le_of_ble_eq_true rfl) hlk (fun t _ h1 h2 => mk_thr (q := ((3, 0), M)) hP hS (Nat.succ_ne_zero _) h1 h2) hS.2.2 (Nat.le_of_ble_eq_true rfl) (Nat.le_of_ble_eq_true rfl)
  · replace h := (if_neg c_1).symm.trans h
    refine lv_iload_n hx hb dX5_witness_4 rfl (lv_at hl 1 rfl) ?_
    refine lv_aload_n hx hb dX5_witness_5 rfl (lv_at hl 0 rfl) ?_
    refine mk_g5_5 hx hb hts in_X5_witness_X5 hown hK hP (by decide) rfl (hts (.fieldLink RX5 39 "MixedKernel" "refusal" "LMixedKernel$Refusal;") (by decide +kernel)) dX5_witness_6 ?_
    obtain ⟨r_3, e_2, h⟩ := mk_bind h
    refine va_calli (va_runV (As := []) (rest := [.int a1]) ⟨hx, hb, hml, hown, hts⟩ (c_X2_releases l D E L  M  e_2) (cwV 0 hts gX5_witness_X2_releases rfl rfl rfl (by decide +kernel) ⟨Nat.le_of_ble_eq_true rfl, Nat.le_of_ble_eq_true rfl⟩) ⟨mk_W.blind, mk_rc2 hK hP (by decide) rfl, fun U hU hW => ⟨rfl, mk_W.at hU hW hP hK (hD _ _) hN⟩⟩ rfl rfl hl.1 rfl (lv_room (Nat.le_of_ble_eq_true rfl)) dX5_witness_9 ⟨Nat.zero_le _, Nat.zero_le _⟩) hS (fun q _ h => h) (fun q h => h) (fun v_13 u t H1 locs ht hvm hw hB hz1 hk1 hS => ?_)
    subst v_13
    rw [ht] at hB
    replace hP := hB
    clear hB hz1 hk1 hvm ht
    generalize H1 = H at hP hS ⊢
    refine lv_icmp_lt (tgt := 23) hx hb dX5_witness_12 (by decide) (fun c_4 => ?_) (fun c_4 => ?_)
    · replace h := (if_pos c_4).symm.trans h
      refine lv_iload_n hx hb dX5_witness_23 rfl (lv_at hl 2 rfl) ?_
      refine lv_if_ne (tgt := 36) hx hb dX5_witness_24 (by decide) (fun c_5 => ?_) (fun c_5 => ?_)
      · replace h := (if_neg c_5).symm.trans h
        refine lv_iload_n hx hb dX5_witness_36 rfl (lv_at hl 2 rfl) ?_
        refine lv_iconst (v := 1) hx hb dX5_witness_37 (by decide) ?_
        refine lv_icmp_ne (tgt := 50) hx hb dX5_witness_38 (by decide) (fun c_6 => ?_) (fun c_6 => ?_)
        · replace h := (if_neg c_6).symm.trans h
          replace h := Option.some.inj h
          subst q
          exact vx_throw0 (names := ["java/lang/RuntimeException", "java/lang/Exception"]) (A := mk_A E) hx hb hst hown (by decide +kernel) (by decide +kernel) (hts (.classLink RX5 66 "java/lang/IllegalArgumentException") (by decide +kernel)) (hts (.initialized "java/lang/IllegalArgumentException") (by decide +kernel)) (vx_hat (fun w h9 => hts w (xa_X5_witness_1 w h9)) xb_X5_witness_1 (fun w h9 => hT.2.2 w h9 _)) xg_X5_witness_1 hT.1 hT.2.1 hS (hl.1.trans hml.symm) dX5_witness_50 dX5_witness_53 dX5_witness_54 dX5_witness_57 (fun x h9 => (hno x h9).elim) (Nat.le_of_ble_eq_true rfl) (Nat.le_of_ble_eq_true rfl) (Nat.le_of_ble_eq_true rfl) (Nat.le_of_ble_eq_true rfl) hlk (fun t _ h1 h2 => mk_thr (q := ((1, 0), M)) hP hS (Nat.succ_ne_zero _) h1 h2) hS.2.2 (Nat.le_of_ble_eq_true rfl) (Nat.le_of_ble_eq_true rfl)
        · replace h := (if_pos c_6).symm.trans h
          refine lv_aload_n hx hb dX5_witness_41 rfl (lv_at hl 0 rfl) ?_
          refine mk_g5_5 hx hb hts in_X5_witness_X5 hown hK hP (by decide) rfl (hts (.fieldLink RX5 39 "MixedKernel" "refusal" "LMixedKernel$Refusal;") (by decide +kernel)) dX5_witness_42 ?_
          refine lv_iload_n hx hb dX5_witness_45 rfl (lv_at hl 1 rfl) ?_
          obtain ⟨r_8, e_7, h⟩ := mk_bind h
          refine va_calli (va_runV (As := [.int a1]) (rest := []) ⟨hx, hb, hml, hown, hts⟩ (c_X2_taskOf l D E L a1 M  e_7) (cwV 1 hts gX5_witness_X2_taskOf rfl rfl rfl (by decide +kernel) ⟨Nat.le_of_ble_eq_true rfl, Nat.le_of_ble_eq_true rfl⟩) ⟨mk_W.blind, mk_rc2 hK hP (by decide) rfl, fun U hU hW => ⟨rfl, mk_W.at hU hW hP hK (hD _ _) hN⟩⟩ rfl rfl hl.1 rfl (lv_room (Nat.le_of_ble_eq_true rfl)) dX5_witness_46 ⟨Nat.zero_le _, Nat.zero_le _⟩) hS (fun q _ h => h) (fun q h => h) (fun v_9 u t H1 locs ht hvm hw hB hz1 hk1 hS => ?_)
          subst v_9
          rw [ht] at hB
          replace hP := hB
          clear hB hz1 hk1 hvm ht
          generalize H1 = H at hP hS ⊢
          replace h := Option.some.inj h
          subst q
          exact W.widen (k := 1) (n := 6) (Nat.zero_le _) (Nat.zero_le _) (vx_ret (W.iret (v := r_8) hx hb hr (fun t ht hW => ⟨⟨_, (), rfl, ⟨rfl, rfl⟩, by rw [← ht] at hP; exact hP⟩, hS.F ht⟩) hS.2.2 dX5_witness_49))
      · replace h := (if_pos c_5).symm.trans h
        refine lv_aload_n hx hb dX5_witness_27 rfl (lv_at hl 0 rfl) ?_
        refine mk_g5_5 hx hb hts in_X5_witness_X5 hown hK hP (by decide) rfl (hts (.fieldLink RX5 39 "MixedKernel" "refusal" "LMixedKernel$Refusal;") (by decide +kernel)) dX5_witness_28 ?_
        refine lv_iload_n hx hb dX5_witness_31 rfl (lv_at hl 1 rfl) ?_
        obtain ⟨r_11, e_10, h⟩ := mk_bind h
        refine va_calli (va_runV (As := [.int a1]) (rest := []) ⟨hx, hb, hml, hown, hts⟩ (c_X2_timeOf l D E L a1 M  e_10) (cwV 1 hts gX5_witness_X2_timeOf rfl rfl rfl (by decide +kernel) ⟨Nat.le_of_ble_eq_true rfl, Nat.le_of_ble_eq_true rfl⟩) ⟨mk_W.blind, mk_rc2 hK hP (by decide) rfl, fun U hU hW => ⟨rfl, mk_W.at hU hW hP hK (hD _ _) hN⟩⟩ rfl rfl hl.1 rfl (lv_room (Nat.le_of_ble_eq_true rfl)) dX5_witness_32 ⟨Nat.zero_le _, Nat.zero_le _⟩) hS (fun q _ h => h) (fun q h => h) (fun v_12 u t H1 locs ht hvm hw hB hz1 hk1 hS => ?_)
        subst v_12
        rw [ht] at hB
        replace hP := hB
        clear hB hz1 hk1 hvm ht
        generalize H1 = H at hP hS ⊢
        replace h := Option.some.inj h
        subst q
        exact W.widen (k := 1) (n := 6) (Nat.zero_le _) (Nat.zero_le _) (vx_ret (W.iret (v := r_11) hx hb hr (fun t ht hW => ⟨⟨_, (), rfl, ⟨rfl, rfl⟩, by rw [← ht] at hP; exact hP⟩, hS.F ht⟩) hS.2.2 dX5_witness_35))
    · replace h := (if_neg c_4).symm.trans h
      replace h := Option.some.inj h
      subst q
      exact vx_throw0 (names := ["java/lang/RuntimeException", "java/lang/Exception"]) (A := mk_A E) hx hb hst hown (by decide +kernel) (by decide +kernel) (hts (.classLink RX5 97 "java/util/NoSuchElementException") (by decide +kernel)) (hts (.initialized "java/util/NoSuchElementException") (by decide +kernel)) (vx_hat (fun w h9 => hts w (xa_X5_witness_3 w h9)) xb_X5_witness_3 (fun w h9 => hT.2.2 w h9 _)) xg_X5_witness_3 hT.1 hT.2.1 hS (hl.1.trans hml.symm) dX5_witness_15 dX5_witness_18 dX5_witness_19 dX5_witness_22 (fun x h9 => (hno x h9).elim) (Nat.le_of_ble_eq_true rfl) (Nat.le_of_ble_eq_true rfl) (Nat.le_of_ble_eq_true rfl) (Nat.le_of_ble_eq_true rfl) hlk (fun t _ h1 h2 => mk_thr (q := ((3, 0), M)) hP hS (Nat.succ_ne_zero _) h1 h2) hS.2.2 (Nat.le_of_ble_eq_true rfl) (Nat.le_of_ble_eq_true rfl)
abbrev rm_X5_remove : Room := { frames := 6, cells := 1, slots := 6, locals := 81 }
theorem xa_X5_remove_2 : ∀ w ∈ (vx_at0 RX5 74 "java/lang/IllegalStateException" ["java/lang/RuntimeException", "java/lang/Exception"]).filter goodWord, w ∈ wsX5_remove := by decide +kernel
theorem xb_X5_remove_2 : ∀ w ∈ (vx_at0 RX5 74 "java/lang/IllegalStateException" ["java/lang/RuntimeException", "java/lang/Exception"]).filter (fun w => !goodWord w), w ∈ mk_bad := by decide +kernel
theorem xg_X5_remove_2 : ∀ w ∈ Cond.classLink RX5 72 "java/lang/IllegalStateException" :: Cond.initialized "java/lang/IllegalStateException" :: vx_at0 RX5 74 "java/lang/IllegalStateException" ["java/lang/RuntimeException", "java/lang/Exception"], vx_ot w = true := by decide +kernel
theorem xa_X5_remove_3 : ∀ w ∈ (vx_at0 RX5 99 "java/util/NoSuchElementException" ["java/lang/RuntimeException", "java/lang/Exception"]).filter goodWord, w ∈ wsX5_remove := by decide +kernel
theorem xb_X5_remove_3 : ∀ w ∈ (vx_at0 RX5 99 "java/util/NoSuchElementException" ["java/lang/RuntimeException", "java/lang/Exception"]).filter (fun w => !goodWord w), w ∈ mk_bad := by decide +kernel
theorem xg_X5_remove_3 : ∀ w ∈ Cond.classLink RX5 97 "java/util/NoSuchElementException" :: Cond.initialized "java/util/NoSuchElementException" :: vx_at0 RX5 99 "java/util/NoSuchElementException" ["java/lang/RuntimeException", "java/lang/Exception"], vx_ot w = true := by decide +kernel
theorem in_X5_remove_X3 : ∀ w ∈ wsX30, w ∈ wsX5_remove := by decide +kernel
theorem in_X5_remove_X5 : ∀ w ∈ wsX50, w ∈ wsX5_remove := by decide +kernel
def f_X5_remove (a1 : Int32) (M : mk_M) : Option ((Nat × Int32) × mk_M) := ((f_X5_isKnown a1 M).bind (fun r_2 => (if r_2 = 0 then (some ((3, 0), M)) else (if mk_ob a1 13 then none else (if (M (16 + 4 * (a1).toNatClampNeg) 4) = 0 then (if mk_ob a1 13 then none else ((f_X5_forgetIfLeft a1 (mk_st M (16 + 4 * (a1).toNatClampNeg) 4 1)).bind (fun r_12 => ((f_X5_isKnown a1 r_12).bind (fun r_14 => (if r_14 = 0 then (some ((0, 1), r_12)) else (some ((0, 0), r_12)))))))) else (some ((2, 0), M)))))))
set_option maxHeartbeats 4000000 in
set_option maxRecDepth 100000 in
theorem c_X5_remove (l : Launch) (hst : l.stackTraces = false) (D : va_G) (E : mk_E) (L : Nat → Int64) (a1 : Int32) (M : mk_M) {q : (Nat × Int32) × mk_M} (h : f_X5_remove a1 M = some q) : vx_Met l yX5_remove wsX5_remove rm_X5_remove (va_Pc [.ref (E.1 0), .int a1] (mk_WT D E M L)) (mk_Qt D E L q) (mk_X D E L q) 1 6 (mk_A E) := by
  refine vx_ofW (cc := cX5_remove) (maxL := 2) (ret := (some .boolean)) (by decide) rfl ?_
  intro p e s m args below meth c s₁ B hml hno hv
  obtain ⟨rfl, ⟨hP, hK, hD0, hN⟩, hT⟩ := hv
  have hx := B.exec
  have hb := B.bytes
  have hr := B.returns
  have hts := atoms_spec (ws := wsX5_remove) B.pre
  have hown : s.vm.findClass RX5 = some m.cls := findClass_of_methodNamed B.named
  have hlk := B.notSynchronized
  have hD : ∀ (M : mk_M) (L : Nat → Int64), va_D (mk_A E) (mk_wl E M L) := fun _ _ => mk_D hD0
  have C0 : mk_C p s m [.ref (E.1 0), .int a1].toArray meth c cX5_remove 2 wsX5_remove RX5 (some .boolean) D E := ⟨hx, hb, hml, hown, hts, hr, hlk, hK, hD, hN⟩
  have hS : va_S (mk_A E) s.heap s.heap [] := va_S.rf
  have hl := lv_entry ([.ref (E.1 0), .int a1]) (n := 2) (Nat.le_of_ble_eq_true rfl)
  rw [lg_entry_eq]
  generalize (lg_sl ([.ref (E.1 0), .int a1]) ++ List.replicate (2 - (lg_sl ([.ref (E.1 0), .int a1])).length) Slot.unset).toArray = ls at hl ⊢
  have hl : lv_has ls 2 [(0, .ref (E.1 0)), (1, .int a1)] := hl
  replace h : ((f_X5_isKnown a1 M).bind (fun r_2 => (if r_2 = 0 then (some ((3, 0), M)) else (if mk_ob a1 13 then none else (if (M (16 + 4 * (a1).toNatClampNeg) 4) = 0 then (if mk_ob a1 13 then none else ((f_X5_forgetIfLeft a1 (mk_st M (16 + 4 * (a1).toNatClampNeg) 4 1)).bind (fun r_12 => ((f_X5_isKnown a1 r_12).bind (fun r_14 => (if r_14 = 0 then (some ((0, 1), r_12)) else (some ((0, 0), r_12)))))))) else (some ((2, 0), M))))))) = some q := h
  refine lv_aload_n hx hb dX5_remove_0 rfl (lv_at hl 0 rfl) ?_
  refine lv_iload_n hx hb dX5_remove_1 rfl (lv_at hl 1 rfl) ?_
  obtain ⟨r_2, e_1, h⟩ := mk_bind h
  refine va_calli (va_runV (As := [.int a1]) (rest := []) ⟨hx, hb, hml, hown, hts⟩ (c_X5_isKnown l D E L a1 M  e_1) (cwV 1 hts gX5_remove_X5_isKnown rfl rfl rfl (by decide +kernel) ⟨Nat.le_of_ble_eq_true rfl, Nat.le_of_ble_eq_true rfl⟩) ⟨mk_W.blind, mk_rc5 hK hP (by decide) rfl, fun U hU hW => ⟨rfl, mk_W.at hU hW hP hK (hD _ _) hN⟩⟩ rfl rfl hl.1 rfl (lv_room (Nat.le_of_ble_eq_true rfl)) dX5_remove_2 ⟨Nat.zero_le _, Nat.zero_le _⟩) hS (fun q _ h => h) (fun q h => h) (fun v_17 u t H1 locs ht hvm hw hB hz1 hk1 hS => ?_)
  subst v_17
  rw [ht] at hB
  replace hP := hB
  clear hB hz1 hk1 hvm ht
  generalize H1 = H at hP hS ⊢
  refine lv_if_ne (tgt := 16) hx hb dX5_remove_5 (by decide) (fun c_3 => ?_) (fun c_3 => ?_)
  · replace h := (if_neg c_3).symm.trans h
    refine lv_aload_n hx hb dX5_remove_16 rfl (lv_at hl 0 rfl) ?_
    refine mk_g5_1 hx hb hts in_X5_remove_X5 hown hK hP (by decide) rfl (hts (.fieldLink RX5 20 "MixedKernel" "tasks" "[LMixedKernel$Task;") (by decide +kernel)) dX5_remove_17 ?_
    refine lv_iload_n hx hb dX5_remove_20 rfl (lv_at hl 1 rfl) ?_
    obtain ⟨i_4, h⟩ := mk_ifn h
    have k_5 := mk_kd_task i_4
    have w_6 := mk_s3 k_5.1
    refine mk_aa hx hb hK hP (by decide) rfl i_4 dX5_remove_21 ?_
    refine mk_n3_4 hx hb hts in_X5_remove_X3 hown hK hP (Nat.lt_trans k_5.2 (by decide)) k_5.1 (va_Nw.use rfl (hN (.fieldLinkNest "MixedKernel" 100 "MixedKernel$Task" "leaving" "Z" "MixedKernel") (by decide +kernel))) dX5_remove_22 ?_
    refine lv_if_eq (tgt := 36) hx hb dX5_remove_25 (by decide) (fun c_7 => ?_) (fun c_7 => ?_)
    · replace h := (if_pos c_7).symm.trans h
      refine lv_aload_n hx hb dX5_remove_36 rfl (lv_at hl 0 rfl) ?_
      refine mk_g5_1 hx hb hts in_X5_remove_X5 hown hK hP (by decide) rfl (hts (.fieldLink RX5 20 "MixedKernel" "tasks" "[LMixedKernel$Task;") (by decide +kernel)) dX5_remove_37 ?_
      refine lv_iload_n hx hb dX5_remove_40 rfl (lv_at hl 1 rfl) ?_
      obtain ⟨i_8, h⟩ := mk_ifn h
      have k_9 := mk_kd_task i_8
      have w_10 := mk_s3 k_9.1
      refine mk_aa hx hb hK hP (by decide) rfl i_8 dX5_remove_41 ?_
      refine lv_iconst (v := 1) hx hb dX5_remove_42 (by decide) ?_
      refine mk_q3_4 hx hb hts in_X5_remove_X3 hown hK hP (Nat.lt_trans k_9.2 (by decide)) k_9.1 (hD _ _) hS (by decide) (by decide) (va_Nw.use rfl (hN (.fieldLinkNest "MixedKernel" 100 "MixedKernel$Task" "leaving" "Z" "MixedKernel") (by decide +kernel))) dX5_remove_43 (fun H locs hP hS => ?_)
      refine lv_aload_n hx hb dX5_remove_46 rfl (lv_at hl 0 rfl) ?_
      refine lv_iload_n hx hb dX5_remove_47 rfl (lv_at hl 1 rfl) ?_
      obtain ⟨r_12, e_11, h⟩ := mk_bind h
      refine va_callv (va_runV (As := [.int a1]) (rest := []) ⟨hx, hb, hml, hown, hts⟩ (c_X5_forgetIfLeft l D E L a1 (mk_st M (16 + 4 * (a1).toNatClampNeg) 4 1)  e_11) (cwV 1 hts gX5_remove_X5_forgetIfLeft rfl rfl rfl (by decide +kernel) ⟨Nat.le_of_ble_eq_true rfl, Nat.le_of_ble_eq_true rfl⟩) ⟨mk_W.blind, mk_rc5 hK hP (by decide) rfl, fun U hU hW => ⟨rfl, mk_W.at hU hW hP hK (hD _ _) hN⟩⟩ rfl rfl hl.1 rfl (lv_room (Nat.le_of_ble_eq_true rfl)) dX5_remove_48 ⟨Nat.zero_le _, Nat.zero_le _⟩) hS (fun q _ h => h) (fun q h => h) (fun u t H1 locs ht hvm hw hB hz1 hk1 hS => ?_)
      rw [ht] at hB
      replace hP := hB
      clear hB hz1 hk1 hvm ht
      generalize H1 = H at hP hS ⊢
      refine lv_aload_n hx hb dX5_remove_51 rfl (lv_at hl 0 rfl) ?_
      refine lv_iload_n hx hb dX5_remove_52 rfl (lv_at hl 1 rfl) ?_
      obtain ⟨r_14, e_13, h⟩ := mk_bind h
      refine va_calli (va_runV (As := [.int a1]) (rest := []) ⟨hx, hb, hml, hown, hts⟩ (c_X5_isKnown l D E L a1 r_12  e_13) (cwV 1 hts gX5_remove_X5_isKnown rfl rfl rfl (by decide +kernel) ⟨Nat.le_of_ble_eq_true rfl, Nat.le_of_ble_eq_true rfl⟩) ⟨mk_W.blind, mk_rc5 hK hP (by decide) rfl, fun U hU hW => ⟨rfl, mk_W.at hU hW hP hK (hD _ _) hN⟩⟩ rfl rfl hl.1 rfl (lv_room (Nat.le_of_ble_eq_true rfl)) dX5_remove_53 ⟨Nat.zero_le _, Nat.zero_le _⟩) hS (fun q _ h => h) (fun q h => h) (fun v_16 u t H1 locs ht hvm hw hB hz1 hk1 hS => ?_)
      subst v_16
      rw [ht] at hB
      replace hP := hB
      clear hB hz1 hk1 hvm ht
      generalize H1 = H at hP hS ⊢
      refine lv_if_ne (tgt := 63) hx hb dX5_remove_56 (by decide) (fun c_15 => ?_) (fun c_15 => ?_)
      · replace h := (if_neg c_15).symm.trans h
        refine lv_iconst (v := 0) hx hb dX5_remove_63 (by decide) ?_
        replace h := Option.some.inj h
        subst q
        exact W.widen (k := 1) (n := 6) (Nat.zero_le _) (Nat.zero_le _) (vx_ret (W.zret (v := 0) hx hb hr rfl (fun t ht hW => ⟨⟨_, (), rfl, ⟨rfl, rfl⟩, by rw [← ht] at hP; exact hP⟩, hS.F ht⟩) hS.2.2 dX5_remove_64))
      · replace h := (if_pos c_15).symm.trans h
        refine lv_iconst (v := 1) hx hb dX5_remove_59 (by decide) ?_
        refine lv_goto (tgt := 64) hx hb dX5_remove_60 (by decide) ?_
        replace h := Option.some.inj h
        subst q
        exact W.widen (k := 1) (n := 6) (Nat.zero_le _) (Nat.zero_le _) (vx_ret (W.zret (v := 1) hx hb hr rfl (fun t ht hW => ⟨⟨_, (), rfl, ⟨rfl, rfl⟩, by rw [← ht] at hP; exact hP⟩, hS.F ht⟩) hS.2.2 dX5_remove_64))
    · replace h := (if_neg c_7).symm.trans h
      replace h := Option.some.inj h
      subst q
      exact vx_throw0 (names := ["java/lang/RuntimeException", "java/lang/Exception"]) (A := mk_A E) hx hb hst hown (by decide +kernel) (by decide +kernel) (hts (.classLink RX5 72 "java/lang/IllegalStateException") (by decide +kernel)) (hts (.initialized "java/lang/IllegalStateException") (by decide +kernel)) (vx_hat (fun w h9 => hts w (xa_X5_remove_2 w h9)) xb_X5_remove_2 (fun w h9 => hT.2.2 w h9 _)) xg_X5_remove_2 hT.1 hT.2.1 hS (hl.1.trans hml.symm) dX5_remove_28 dX5_remove_31 dX5_remove_32 dX5_remove_35 (fun x h9 => (hno x h9).elim) (Nat.le_of_ble_eq_true rfl) (Nat.le_of_ble_eq_true rfl) (Nat.le_of_ble_eq_true rfl) (Nat.le_of_ble_eq_true rfl) hlk (fun t _ h1 h2 => mk_thr (q := ((2, 0), M)) hP hS (Nat.succ_ne_zero _) h1 h2) hS.2.2 (Nat.le_of_ble_eq_true rfl) (Nat.le_of_ble_eq_true rfl)
  · replace h := (if_pos c_3).symm.trans h
    replace h := Option.some.inj h
    subst q
    exact vx_throw0 (names := ["java/lang/RuntimeException", "java/lang/Exception"]) (A := mk_A E) hx hb hst hown (by decide +kernel) (by decide +kernel) (hts (.classLink RX5 97 "java/util/NoSuchElementException") (by decide +kernel)) (hts (.initialized "java/util/NoSuchElementException") (by decide +kernel)) (vx_hat (fun w h9 => hts w (xa_X5_remove_3 w h9)) xb_X5_remove_3 (fun w h9 => hT.2.2 w h9 _)) xg_X5_remove_3 hT.1 hT.2.1 hS (hl.1.trans hml.symm) dX5_remove_8 dX5_remove_11 dX5_remove_12 dX5_remove_15 (fun x h9 => (hno x h9).elim) (Nat.le_of_ble_eq_true rfl) (Nat.le_of_ble_eq_true rfl) (Nat.le_of_ble_eq_true rfl) (Nat.le_of_ble_eq_true rfl) hlk (fun t _ h1 h2 => mk_thr (q := ((3, 0), M)) hP hS (Nat.succ_ne_zero _) h1 h2) hS.2.2 (Nat.le_of_ble_eq_true rfl) (Nat.le_of_ble_eq_true rfl)
abbrev rm_X5_response : Room := { frames := 6, cells := 1, slots := 6, locals := 104 }
theorem xa_X5_response_1 : ∀ w ∈ (vx_at0 RX5 68 "java/lang/IllegalArgumentException" ["java/lang/RuntimeException", "java/lang/Exception"]).filter goodWord, w ∈ wsX5_response := by decide +kernel
theorem xb_X5_response_1 : ∀ w ∈ (vx_at0 RX5 68 "java/lang/IllegalArgumentException" ["java/lang/RuntimeException", "java/lang/Exception"]).filter (fun w => !goodWord w), w ∈ mk_bad := by decide +kernel
theorem xg_X5_response_1 : ∀ w ∈ Cond.classLink RX5 66 "java/lang/IllegalArgumentException" :: Cond.initialized "java/lang/IllegalArgumentException" :: vx_at0 RX5 68 "java/lang/IllegalArgumentException" ["java/lang/RuntimeException", "java/lang/Exception"], vx_ot w = true := by decide +kernel
theorem xa_X5_response_3 : ∀ w ∈ (vx_at0 RX5 99 "java/util/NoSuchElementException" ["java/lang/RuntimeException", "java/lang/Exception"]).filter goodWord, w ∈ wsX5_response := by decide +kernel
theorem xb_X5_response_3 : ∀ w ∈ (vx_at0 RX5 99 "java/util/NoSuchElementException" ["java/lang/RuntimeException", "java/lang/Exception"]).filter (fun w => !goodWord w), w ∈ mk_bad := by decide +kernel
theorem xg_X5_response_3 : ∀ w ∈ Cond.classLink RX5 97 "java/util/NoSuchElementException" :: Cond.initialized "java/util/NoSuchElementException" :: vx_at0 RX5 99 "java/util/NoSuchElementException" ["java/lang/RuntimeException", "java/lang/Exception"], vx_ot w = true := by decide +kernel
theorem in_X5_response_X5 : ∀ w ∈ wsX50, w ∈ wsX5_response := by decide +kernel
def f_X5_response (a1 : Int32) (a2 : Int32) (M : mk_M) : Option ((Nat × Int32) × mk_M) := ((f_X1_placeOf 3 a1 M).bind (fun r_2 => (if r_2 = (-1) then (some ((3, 0), M)) else (if a2 = 0 then ((f_X4_lowResponse 3 r_2 r_2 M).bind (fun r_10 => (some ((0, r_10), M)))) else (if a2 = 1 then ((f_X4_bound 3 r_2 r_2 M).bind (fun r_7 => (some ((0, r_7), M)))) else (some ((1, 0), M)))))))
set_option maxHeartbeats 4000000 in
set_option maxRecDepth 100000 in
theorem c_X5_response (l : Launch) (hst : l.stackTraces = false) (D : va_G) (E : mk_E) (L : Nat → Int64) (a1 : Int32) (a2 : Int32) (M : mk_M) {q : (Nat × Int32) × mk_M} (h : f_X5_response a1 a2 M = some q) : vx_Met l yX5_response wsX5_response rm_X5_response (va_Pc [.ref (E.1 0), .int a1, .int a2] (mk_WT D E M L)) (mk_Qt D E L q) (mk_X D E L q) 1 6 (mk_A E) := by
  refine vx_ofW (cc := cX5_response) (maxL := 4) (ret := (some .int)) (by decide) rfl ?_
  intro p e s m args below meth c s₁ B hml hno hv
  obtain ⟨rfl, ⟨hP, hK, hD0, hN⟩, hT⟩ := hv
  have hx := B.exec
  have hb := B.bytes
  have hr := B.returns
  have hts := atoms_spec (ws := wsX5_response) B.pre
  have hown : s.vm.findClass RX5 = some m.cls := findClass_of_methodNamed B.named
  have hlk := B.notSynchronized
  have hD : ∀ (M : mk_M) (L : Nat → Int64), va_D (mk_A E) (mk_wl E M L) := fun _ _ => mk_D hD0
  have C0 : mk_C p s m [.ref (E.1 0), .int a1, .int a2].toArray meth c cX5_response 4 wsX5_response RX5 (some .int) D E := ⟨hx, hb, hml, hown, hts, hr, hlk, hK, hD, hN⟩
  have hS : va_S (mk_A E) s.heap s.heap [] := va_S.rf
  have hl := lv_entry ([.ref (E.1 0), .int a1, .int a2]) (n := 4) (Nat.le_of_ble_eq_true rfl)
  rw [lg_entry_eq]
  generalize (lg_sl ([.ref (E.1 0), .int a1, .int a2]) ++ List.replicate (4 - (lg_sl ([.ref (E.1 0), .int a1, .int a2])).length) Slot.unset).toArray = ls at hl ⊢
  have hl : lv_has ls 4 [(0, .ref (E.1 0)), (1, .int a1), (2, .int a2)] := hl
  replace h : ((f_X1_placeOf 3 a1 M).bind (fun r_2 => (if r_2 = (-1) then (some ((3, 0), M)) else (if a2 = 0 then ((f_X4_lowResponse 3 r_2 r_2 M).bind (fun r_10 => (some ((0, r_10), M)))) else (if a2 = 1 then ((f_X4_bound 3 r_2 r_2 M).bind (fun r_7 => (some ((0, r_7), M)))) else (some ((1, 0), M))))))) = some q := h
  refine lv_aload_n hx hb dX5_response_0 rfl (lv_at hl 0 rfl) ?_
  refine mk_g5_2 hx hb hts in_X5_response_X5 hown hK hP (by decide) rfl (hts (.fieldLink RX5 26 "MixedKernel" "plan" "LMixedKernel$Line;") (by decide +kernel)) dX5_response_1 ?_
  refine lv_iload_n hx hb dX5_response_4 rfl (lv_at hl 1 rfl) ?_
  obtain ⟨r_2, e_1, h⟩ := mk_bind h
  refine va_calli (va_runV (As := [.int a1]) (rest := []) ⟨hx, hb, hml, hown, hts⟩ (c_X1_placeOf l D E L 3 a1 M (by decide) rfl e_1) (cwV 1 hts gX5_response_X1_placeOf rfl rfl rfl (by decide +kernel) ⟨Nat.le_of_ble_eq_true rfl, Nat.le_of_ble_eq_true rfl⟩) ⟨mk_W.blind, mk_rc1 hK hP (by decide) rfl, fun U hU hW => ⟨rfl, mk_W.at hU hW hP hK (hD _ _) hN⟩⟩ rfl rfl hl.1 rfl (lv_room (Nat.le_of_ble_eq_true rfl)) dX5_response_5 ⟨Nat.zero_le _, Nat.zero_le _⟩) hS (fun q _ h => h) (fun q h => h) (fun v_12 u t H1 locs ht hvm hw hB hz1 hk1 hS => ?_)
  subst v_12
  rw [ht] at hB
  replace hP := hB
  clear hB hz1 hk1 hvm ht
  generalize H1 = H at hP hS ⊢
  refine lv_istore_n (lv' := [(3, .int r_2), (0, .ref (E.1 0)), (1, .int a1), (2, .int a2)]) hx hb dX5_response_8 rfl hl (by decide) rfl (fun ls hl => ?_)
  refine lv_iload_n hx hb dX5_response_9 rfl (lv_at hl 0 rfl) ?_
  refine lv_iconst (v := -1) hx hb dX5_response_10 (by decide) ?_
  refine lv_icmp_ne (tgt := 22) hx hb dX5_response_11 (by decide) (fun c_3 => ?_) (fun c_3 => ?_)
  · replace h := (if_neg c_3).symm.trans h
    refine lv_iload_n hx hb dX5_response_22 rfl (lv_at hl 3 rfl) ?_
    refine lv_if_ne (tgt := 40) hx hb dX5_response_23 (by decide) (fun c_4 => ?_) (fun c_4 => ?_)
    · replace h := (if_neg c_4).symm.trans h
      refine lv_iload_n hx hb dX5_response_40 rfl (lv_at hl 3 rfl) ?_
      refine lv_iconst (v := 1) hx hb dX5_response_41 (by decide) ?_
      refine lv_icmp_ne (tgt := 59) hx hb dX5_response_42 (by decide) (fun c_5 => ?_) (fun c_5 => ?_)
      · replace h := (if_neg c_5).symm.trans h
        replace h := Option.some.inj h
        subst q
        exact vx_throw0 (names := ["java/lang/RuntimeException", "java/lang/Exception"]) (A := mk_A E) hx hb hst hown (by decide +kernel) (by decide +kernel) (hts (.classLink RX5 66 "java/lang/IllegalArgumentException") (by decide +kernel)) (hts (.initialized "java/lang/IllegalArgumentException") (by decide +kernel)) (vx_hat (fun w h9 => hts w (xa_X5_response_1 w h9)) xb_X5_response_1 (fun w h9 => hT.2.2 w h9 _)) xg_X5_response_1 hT.1 hT.2.1 hS (hl.1.trans hml.symm) dX5_response_59 dX5_response_62 dX5_response_63 dX5_response_66 (fun x h9 => (hno x h9).elim) (Nat.le_of_ble_eq_true rfl) (Nat.le_of_ble_eq_true rfl) (Nat.le_of_ble_eq_true rfl) (Nat.le_of_ble_eq_true rfl) hlk (fun t _ h1 h2 => mk_thr (q := ((1, 0), M)) hP hS (Nat.succ_ne_zero _) h1 h2) hS.2.2 (Nat.le_of_ble_eq_true rfl) (Nat.le_of_ble_eq_true rfl)
      · replace h := (if_pos c_5).symm.trans h
        refine lv_aload_n hx hb dX5_response_45 rfl (lv_at hl 1 rfl) ?_
        refine mk_g5_0 hx hb hts in_X5_response_X5 hown hK hP (by decide) rfl (hts (.fieldLink RX5 12 "MixedKernel" "set" "LMixedKernel$TaskSet;") (by decide +kernel)) dX5_response_46 ?_
        refine lv_aload_n hx hb dX5_response_49 rfl (lv_at hl 1 rfl) ?_
        refine mk_g5_2 hx hb hts in_X5_response_X5 hown hK hP (by decide) rfl (hts (.fieldLink RX5 26 "MixedKernel" "plan" "LMixedKernel$Line;") (by decide +kernel)) dX5_response_50 ?_
        refine lv_iload_n hx hb dX5_response_53 rfl (lv_at hl 0 rfl) ?_
        refine lv_iload_n hx hb dX5_response_54 rfl (lv_at hl 0 rfl) ?_
        obtain ⟨r_7, e_6, h⟩ := mk_bind h
        refine va_calli (va_runV (As := [.ref (E.1 3), .int r_2, .int r_2]) (rest := []) ⟨hx, hb, hml, hown, hts⟩ (c_X4_bound l D E L 3 r_2 r_2 M (by decide) rfl e_6) (cwV 3 hts gX5_response_X4_bound rfl rfl rfl (by decide +kernel) ⟨Nat.le_of_ble_eq_true rfl, Nat.le_of_ble_eq_true rfl⟩) ⟨mk_W.blind, mk_rc4 hK hP (by decide) rfl, fun U hU hW => ⟨rfl, mk_W.at hU hW hP hK (hD _ _) hN⟩⟩ rfl rfl hl.1 rfl (lv_room (Nat.le_of_ble_eq_true rfl)) dX5_response_55 ⟨Nat.zero_le _, Nat.zero_le _⟩) hS (fun q _ h => h) (fun q h => h) (fun v_8 u t H1 locs ht hvm hw hB hz1 hk1 hS => ?_)
        subst v_8
        rw [ht] at hB
        replace hP := hB
        clear hB hz1 hk1 hvm ht
        generalize H1 = H at hP hS ⊢
        replace h := Option.some.inj h
        subst q
        exact W.widen (k := 1) (n := 6) (Nat.zero_le _) (Nat.zero_le _) (vx_ret (W.iret (v := r_7) hx hb hr (fun t ht hW => ⟨⟨_, (), rfl, ⟨rfl, rfl⟩, by rw [← ht] at hP; exact hP⟩, hS.F ht⟩) hS.2.2 dX5_response_58))
    · replace h := (if_pos c_4).symm.trans h
      refine lv_aload_n hx hb dX5_response_26 rfl (lv_at hl 1 rfl) ?_
      refine mk_g5_0 hx hb hts in_X5_response_X5 hown hK hP (by decide) rfl (hts (.fieldLink RX5 12 "MixedKernel" "set" "LMixedKernel$TaskSet;") (by decide +kernel)) dX5_response_27 ?_
      refine lv_aload_n hx hb dX5_response_30 rfl (lv_at hl 1 rfl) ?_
      refine mk_g5_2 hx hb hts in_X5_response_X5 hown hK hP (by decide) rfl (hts (.fieldLink RX5 26 "MixedKernel" "plan" "LMixedKernel$Line;") (by decide +kernel)) dX5_response_31 ?_
      refine lv_iload_n hx hb dX5_response_34 rfl (lv_at hl 0 rfl) ?_
      refine lv_iload_n hx hb dX5_response_35 rfl (lv_at hl 0 rfl) ?_
      obtain ⟨r_10, e_9, h⟩ := mk_bind h
      refine va_calli (va_runV (As := [.ref (E.1 3), .int r_2, .int r_2]) (rest := []) ⟨hx, hb, hml, hown, hts⟩ (c_X4_lowResponse l D E L 3 r_2 r_2 M (by decide) rfl e_9) (cwV 3 hts gX5_response_X4_lowResponse rfl rfl rfl (by decide +kernel) ⟨Nat.le_of_ble_eq_true rfl, Nat.le_of_ble_eq_true rfl⟩) ⟨mk_W.blind, mk_rc4 hK hP (by decide) rfl, fun U hU hW => ⟨rfl, mk_W.at hU hW hP hK (hD _ _) hN⟩⟩ rfl rfl hl.1 rfl (lv_room (Nat.le_of_ble_eq_true rfl)) dX5_response_36 ⟨Nat.zero_le _, Nat.zero_le _⟩) hS (fun q _ h => h) (fun q h => h) (fun v_11 u t H1 locs ht hvm hw hB hz1 hk1 hS => ?_)
      subst v_11
      rw [ht] at hB
      replace hP := hB
      clear hB hz1 hk1 hvm ht
      generalize H1 = H at hP hS ⊢
      replace h := Option.some.inj h
      subst q
      exact W.widen (k := 1) (n := 6) (Nat.zero_le _) (Nat.zero_le _) (vx_ret (W.iret (v := r_10) hx hb hr (fun t ht hW => ⟨⟨_, (), rfl, ⟨rfl, rfl⟩, by rw [← ht] at hP; exact hP⟩, hS.F ht⟩) hS.2.2 dX5_response_39))
  · replace h := (if_pos c_3).symm.trans h
    replace h := Option.some.inj h
    subst q
    exact vx_throw0 (names := ["java/lang/RuntimeException", "java/lang/Exception"]) (A := mk_A E) hx hb hst hown (by decide +kernel) (by decide +kernel) (hts (.classLink RX5 97 "java/util/NoSuchElementException") (by decide +kernel)) (hts (.initialized "java/util/NoSuchElementException") (by decide +kernel)) (vx_hat (fun w h9 => hts w (xa_X5_response_3 w h9)) xb_X5_response_3 (fun w h9 => hT.2.2 w h9 _)) xg_X5_response_3 hT.1 hT.2.1 hS (hl.1.trans hml.symm) dX5_response_14 dX5_response_17 dX5_response_18 dX5_response_21 (fun x h9 => (hno x h9).elim) (Nat.le_of_ble_eq_true rfl) (Nat.le_of_ble_eq_true rfl) (Nat.le_of_ble_eq_true rfl) (Nat.le_of_ble_eq_true rfl) hlk (fun t _ h1 h2 => mk_thr (q := ((3, 0), M)) hP hS (Nat.succ_ne_zero _) h1 h2) hS.2.2 (Nat.le_of_ble_eq_true rfl) (Nat.le_of_ble_eq_true rfl)
abbrev rm_X5_release : Room := { frames := 6, cells := 1, slots := 6, locals := 81 }
theorem xa_X5_release_1 : ∀ w ∈ (vx_at0 RX5 68 "java/lang/IllegalArgumentException" ["java/lang/RuntimeException", "java/lang/Exception"]).filter goodWord, w ∈ wsX5_release := by decide +kernel
theorem xb_X5_release_1 : ∀ w ∈ (vx_at0 RX5 68 "java/lang/IllegalArgumentException" ["java/lang/RuntimeException", "java/lang/Exception"]).filter (fun w => !goodWord w), w ∈ mk_bad := by decide +kernel
theorem xg_X5_release_1 : ∀ w ∈ Cond.classLink RX5 66 "java/lang/IllegalArgumentException" :: Cond.initialized "java/lang/IllegalArgumentException" :: vx_at0 RX5 68 "java/lang/IllegalArgumentException" ["java/lang/RuntimeException", "java/lang/Exception"], vx_ot w = true := by decide +kernel
theorem xa_X5_release_2 : ∀ w ∈ (vx_at0 RX5 74 "java/lang/IllegalStateException" ["java/lang/RuntimeException", "java/lang/Exception"]).filter goodWord, w ∈ wsX5_release := by decide +kernel
theorem xb_X5_release_2 : ∀ w ∈ (vx_at0 RX5 74 "java/lang/IllegalStateException" ["java/lang/RuntimeException", "java/lang/Exception"]).filter (fun w => !goodWord w), w ∈ mk_bad := by decide +kernel
theorem xg_X5_release_2 : ∀ w ∈ Cond.classLink RX5 72 "java/lang/IllegalStateException" :: Cond.initialized "java/lang/IllegalStateException" :: vx_at0 RX5 74 "java/lang/IllegalStateException" ["java/lang/RuntimeException", "java/lang/Exception"], vx_ot w = true := by decide +kernel
theorem xa_X5_release_3 : ∀ w ∈ (vx_at0 RX5 99 "java/util/NoSuchElementException" ["java/lang/RuntimeException", "java/lang/Exception"]).filter goodWord, w ∈ wsX5_release := by decide +kernel
theorem xb_X5_release_3 : ∀ w ∈ (vx_at0 RX5 99 "java/util/NoSuchElementException" ["java/lang/RuntimeException", "java/lang/Exception"]).filter (fun w => !goodWord w), w ∈ mk_bad := by decide +kernel
theorem xg_X5_release_3 : ∀ w ∈ Cond.classLink RX5 97 "java/util/NoSuchElementException" :: Cond.initialized "java/util/NoSuchElementException" :: vx_at0 RX5 99 "java/util/NoSuchElementException" ["java/lang/RuntimeException", "java/lang/Exception"], vx_ot w = true := by decide +kernel
theorem in_X5_release_X3 : ∀ w ∈ wsX30, w ∈ wsX5_release := by decide +kernel
theorem in_X5_release_X5 : ∀ w ∈ wsX50, w ∈ wsX5_release := by decide +kernel
def f_X5_release (a1 : Int32) (a2 : Int32) (M : mk_M) : Option ((Nat × Int32) × mk_M) := ((f_X5_isInForce a1 M).bind (fun r_2 => (if r_2 = 0 then (some ((3, 0), M)) else (if mk_ob a1 13 then none else (if a2 < 1 then (some ((1, 0), M)) else ((f_X3_greatestBudget (16 + 4 * (a1).toNatClampNeg) M).bind (fun r_9 => (if a2 ≤ r_9 then (if (M (16 + 4 * (a1).toNatClampNeg) 4) = 0 then ((f_X3_nextRelease (16 + 4 * (a1).toNatClampNeg) M).bind (fun r_13 => (if (M 0 9) < r_13 then (some ((2, 0), M)) else (if (M (16 + 4 * (a1).toNatClampNeg) 9) < 4 then (if (M 0 8) = 0 then ((f_X3_newJob (16 + 4 * (a1).toNatClampNeg) a2 (M 0 9) M).bind (fun r_18 => (some ((0, r_18.1), r_18.2)))) else ((f_X3_isHigh (16 + 4 * (a1).toNatClampNeg) M).bind (fun r_21 => (if r_21 = 0 then (some ((0, 0), mk_st M (16 + 4 * (a1).toNatClampNeg) 6 ((M (16 + 4 * (a1).toNatClampNeg) 6) + 1))) else ((f_X3_newJob (16 + 4 * (a1).toNatClampNeg) a2 (M 0 9) M).bind (fun r_24 => (some ((0, r_24.1), r_24.2)))))))) else (some ((2, 0), M)))))) else (some ((2, 0), M))) else (some ((1, 0), M))))))))))
set_option maxHeartbeats 4000000 in
set_option maxRecDepth 100000 in
theorem c_X5_release (l : Launch) (hst : l.stackTraces = false) (D : va_G) (E : mk_E) (L : Nat → Int64) (a1 : Int32) (a2 : Int32) (M : mk_M) {q : (Nat × Int32) × mk_M} (h : f_X5_release a1 a2 M = some q) : vx_Met l yX5_release wsX5_release rm_X5_release (va_Pc [.ref (E.1 0), .int a1, .int a2] (mk_WT D E M L)) (mk_Qt D E L q) (mk_X D E L q) 1 6 (mk_A E) := by
  refine vx_ofW (cc := cX5_release) (maxL := 4) (ret := (some .int)) (by decide) rfl ?_
  intro p e s m args below meth c s₁ B hml hno hv
  obtain ⟨rfl, ⟨hP, hK, hD0, hN⟩, hT⟩ := hv
  have hx := B.exec
  have hb := B.bytes
  have hr := B.returns
  have hts := atoms_spec (ws := wsX5_release) B.pre
  have hown : s.vm.findClass RX5 = some m.cls := findClass_of_methodNamed B.named
  have hlk := B.notSynchronized
  have hD : ∀ (M : mk_M) (L : Nat → Int64), va_D (mk_A E) (mk_wl E M L) := fun _ _ => mk_D hD0
  have C0 : mk_C p s m [.ref (E.1 0), .int a1, .int a2].toArray meth c cX5_release 4 wsX5_release RX5 (some .int) D E := ⟨hx, hb, hml, hown, hts, hr, hlk, hK, hD, hN⟩
  have hS : va_S (mk_A E) s.heap s.heap [] := va_S.rf
  have hl := lv_entry ([.ref (E.1 0), .int a1, .int a2]) (n := 4) (Nat.le_of_ble_eq_true rfl)
  rw [lg_entry_eq]
  generalize (lg_sl ([.ref (E.1 0), .int a1, .int a2]) ++ List.replicate (4 - (lg_sl ([.ref (E.1 0), .int a1, .int a2])).length) Slot.unset).toArray = ls at hl ⊢
  have hl : lv_has ls 4 [(0, .ref (E.1 0)), (1, .int a1), (2, .int a2)] := hl
  replace h : ((f_X5_isInForce a1 M).bind (fun r_2 => (if r_2 = 0 then (some ((3, 0), M)) else (if mk_ob a1 13 then none else (if a2 < 1 then (some ((1, 0), M)) else ((f_X3_greatestBudget (16 + 4 * (a1).toNatClampNeg) M).bind (fun r_9 => (if a2 ≤ r_9 then (if (M (16 + 4 * (a1).toNatClampNeg) 4) = 0 then ((f_X3_nextRelease (16 + 4 * (a1).toNatClampNeg) M).bind (fun r_13 => (if (M 0 9) < r_13 then (some ((2, 0), M)) else (if (M (16 + 4 * (a1).toNatClampNeg) 9) < 4 then (if (M 0 8) = 0 then ((f_X3_newJob (16 + 4 * (a1).toNatClampNeg) a2 (M 0 9) M).bind (fun r_18 => (some ((0, r_18.1), r_18.2)))) else ((f_X3_isHigh (16 + 4 * (a1).toNatClampNeg) M).bind (fun r_21 => (if r_21 = 0 then (some ((0, 0), mk_st M (16 + 4 * (a1).toNatClampNeg) 6 ((M (16 + 4 * (a1).toNatClampNeg) 6) + 1))) else ((f_X3_newJob (16 + 4 * (a1).toNatClampNeg) a2 (M 0 9) M).bind (fun r_24 => (some ((0, r_24.1), r_24.2)))))))) else (some ((2, 0), M)))))) else (some ((2, 0), M))) else (some ((1, 0), M)))))))))) = some q := h
  refine lv_aload_n hx hb dX5_release_0 rfl (lv_at hl 0 rfl) ?_
  refine lv_iload_n hx hb dX5_release_1 rfl (lv_at hl 1 rfl) ?_
  obtain ⟨r_2, e_1, h⟩ := mk_bind h
  refine va_calli (va_runV (As := [.int a1]) (rest := []) ⟨hx, hb, hml, hown, hts⟩ (c_X5_isInForce l D E L a1 M  e_1) (cwV 1 hts gX5_release_X5_isInForce rfl rfl rfl (by decide +kernel) ⟨Nat.le_of_ble_eq_true rfl, Nat.le_of_ble_eq_true rfl⟩) ⟨mk_W.blind, mk_rc5 hK hP (by decide) rfl, fun U hU hW => ⟨rfl, mk_W.at hU hW hP hK (hD _ _) hN⟩⟩ rfl rfl hl.1 rfl (lv_room (Nat.le_of_ble_eq_true rfl)) dX5_release_2 ⟨Nat.zero_le _, Nat.zero_le _⟩) hS (fun q _ h => h) (fun q h => h) (fun v_29 u t H1 locs ht hvm hw hB hz1 hk1 hS => ?_)
  subst v_29
  rw [ht] at hB
  replace hP := hB
  clear hB hz1 hk1 hvm ht
  generalize H1 = H at hP hS ⊢
  refine lv_if_ne (tgt := 16) hx hb dX5_release_5 (by decide) (fun c_3 => ?_) (fun c_3 => ?_)
  · replace h := (if_neg c_3).symm.trans h
    refine lv_aload_n hx hb dX5_release_16 rfl (lv_at hl 0 rfl) ?_
    refine mk_g5_1 hx hb hts in_X5_release_X5 hown hK hP (by decide) rfl (hts (.fieldLink RX5 20 "MixedKernel" "tasks" "[LMixedKernel$Task;") (by decide +kernel)) dX5_release_17 ?_
    refine lv_iload_n hx hb dX5_release_20 rfl (lv_at hl 1 rfl) ?_
    obtain ⟨i_4, h⟩ := mk_ifn h
    have k_5 := mk_kd_task i_4
    have w_6 := mk_s3 k_5.1
    refine mk_aa hx hb hK hP (by decide) rfl i_4 dX5_release_21 ?_
    refine lv_astore_n (lv' := [(3, .ref (E.1 (16 + 4 * (a1).toNatClampNeg))), (0, .ref (E.1 0)), (1, .int a1), (2, .int a2)]) hx hb dX5_release_22 rfl hl (by decide) rfl (fun ls hl => ?_)
    refine lv_iload_n hx hb dX5_release_23 rfl (lv_at hl 3 rfl) ?_
    refine lv_iconst (v := 1) hx hb dX5_release_24 (by decide) ?_
    refine lv_icmp_lt (tgt := 36) hx hb dX5_release_25 (by decide) (fun c_7 => ?_) (fun c_7 => ?_)
    · replace h := (if_pos c_7).symm.trans h
      replace h := Option.some.inj h
      subst q
      exact vx_throw0 (names := ["java/lang/RuntimeException", "java/lang/Exception"]) (A := mk_A E) hx hb hst hown (by decide +kernel) (by decide +kernel) (hts (.classLink RX5 66 "java/lang/IllegalArgumentException") (by decide +kernel)) (hts (.initialized "java/lang/IllegalArgumentException") (by decide +kernel)) (vx_hat (fun w h9 => hts w (xa_X5_release_1 w h9)) xb_X5_release_1 (fun w h9 => hT.2.2 w h9 _)) xg_X5_release_1 hT.1 hT.2.1 hS (hl.1.trans hml.symm) dX5_release_36 dX5_release_39 dX5_release_40 dX5_release_43 (fun x h9 => (hno x h9).elim) (Nat.le_of_ble_eq_true rfl) (Nat.le_of_ble_eq_true rfl) (Nat.le_of_ble_eq_true rfl) (Nat.le_of_ble_eq_true rfl) hlk (fun t _ h1 h2 => mk_thr (q := ((1, 0), M)) hP hS (Nat.succ_ne_zero _) h1 h2) hS.2.2 (Nat.le_of_ble_eq_true rfl) (Nat.le_of_ble_eq_true rfl)
    · replace h := (if_neg c_7).symm.trans h
      refine lv_iload_n hx hb dX5_release_28 rfl (lv_at hl 3 rfl) ?_
      refine lv_aload_n hx hb dX5_release_29 rfl (lv_at hl 0 rfl) ?_
      obtain ⟨r_9, e_8, h⟩ := mk_bind h
      refine va_calli (va_runV (As := []) (rest := [.int a2]) ⟨hx, hb, hml, hown, hts⟩ (c_X3_greatestBudget l D E L (16 + 4 * (a1).toNatClampNeg) M (Nat.lt_trans k_5.2 (by decide)) k_5.1 e_8) (cwV 0 hts gX5_release_X3_greatestBudget rfl rfl rfl (by decide +kernel) ⟨Nat.le_of_ble_eq_true rfl, Nat.le_of_ble_eq_true rfl⟩) ⟨mk_W.blind, mk_rc3 hK hP (Nat.lt_trans k_5.2 (by decide)) k_5.1, fun U hU hW => ⟨rfl, mk_W.at hU hW hP hK (hD _ _) hN⟩⟩ rfl rfl hl.1 rfl (lv_room (Nat.le_of_ble_eq_true rfl)) dX5_release_30 ⟨Nat.zero_le _, Nat.zero_le _⟩) hS (fun q _ h => h) (fun q h => h) (fun v_28 u t H1 locs ht hvm hw hB hz1 hk1 hS => ?_)
      subst v_28
      rw [ht] at hB
      replace hP := hB
      clear hB hz1 hk1 hvm ht
      generalize H1 = H at hP hS ⊢
      refine lv_icmp_le (tgt := 44) hx hb dX5_release_33 (by decide) (fun c_10 => ?_) (fun c_10 => ?_)
      · replace h := (if_pos c_10).symm.trans h
        refine lv_aload_n hx hb dX5_release_44 rfl (lv_at hl 0 rfl) ?_
        refine mk_n3_4 hx hb hts in_X5_release_X3 hown hK hP (Nat.lt_trans k_5.2 (by decide)) k_5.1 (va_Nw.use rfl (hN (.fieldLinkNest "MixedKernel" 100 "MixedKernel$Task" "leaving" "Z" "MixedKernel") (by decide +kernel))) dX5_release_45 ?_
        refine lv_if_ne (tgt := 70) hx hb dX5_release_48 (by decide) (fun c_11 => ?_) (fun c_11 => ?_)
        · replace h := (if_neg c_11).symm.trans h
          replace h := Option.some.inj h
          subst q
          exact vx_throw0 (names := ["java/lang/RuntimeException", "java/lang/Exception"]) (A := mk_A E) hx hb hst hown (by decide +kernel) (by decide +kernel) (hts (.classLink RX5 72 "java/lang/IllegalStateException") (by decide +kernel)) (hts (.initialized "java/lang/IllegalStateException") (by decide +kernel)) (vx_hat (fun w h9 => hts w (xa_X5_release_2 w h9)) xb_X5_release_2 (fun w h9 => hT.2.2 w h9 _)) xg_X5_release_2 hT.1 hT.2.1 hS (hl.1.trans hml.symm) dX5_release_70 dX5_release_73 dX5_release_74 dX5_release_77 (fun x h9 => (hno x h9).elim) (Nat.le_of_ble_eq_true rfl) (Nat.le_of_ble_eq_true rfl) (Nat.le_of_ble_eq_true rfl) (Nat.le_of_ble_eq_true rfl) hlk (fun t _ h1 h2 => mk_thr (q := ((2, 0), M)) hP hS (Nat.succ_ne_zero _) h1 h2) hS.2.2 (Nat.le_of_ble_eq_true rfl) (Nat.le_of_ble_eq_true rfl)
        · replace h := (if_pos c_11).symm.trans h
          refine lv_aload_n hx hb dX5_release_51 rfl (lv_at hl 1 rfl) ?_
          refine mk_g5_9 hx hb hts in_X5_release_X5 hown hK hP (by decide) rfl (hts (.fieldLink RX5 113 "MixedKernel" "time" "I") (by decide +kernel)) dX5_release_52 ?_
          refine lv_aload_n hx hb dX5_release_55 rfl (lv_at hl 0 rfl) ?_
          obtain ⟨r_13, e_12, h⟩ := mk_bind h
          refine va_calli (va_runV (As := []) (rest := [.int (M 0 9)]) ⟨hx, hb, hml, hown, hts⟩ (c_X3_nextRelease l D E L (16 + 4 * (a1).toNatClampNeg) M (Nat.lt_trans k_5.2 (by decide)) k_5.1 e_12) (cwV 0 hts gX5_release_X3_nextRelease rfl rfl rfl (by decide +kernel) ⟨Nat.le_of_ble_eq_true rfl, Nat.le_of_ble_eq_true rfl⟩) ⟨mk_W.blind, mk_rc3 hK hP (Nat.lt_trans k_5.2 (by decide)) k_5.1, fun U hU hW => ⟨rfl, mk_W.at hU hW hP hK (hD _ _) hN⟩⟩ rfl rfl hl.1 rfl (lv_room (Nat.le_of_ble_eq_true rfl)) dX5_release_56 ⟨Nat.zero_le _, Nat.zero_le _⟩) hS (fun q _ h => h) (fun q h => h) (fun v_27 u t H1 locs ht hvm hw hB hz1 hk1 hS => ?_)
          subst v_27
          rw [ht] at hB
          replace hP := hB
          clear hB hz1 hk1 hvm ht
          generalize H1 = H at hP hS ⊢
          refine lv_icmp_lt (tgt := 70) hx hb dX5_release_59 (by decide) (fun c_14 => ?_) (fun c_14 => ?_)
          · replace h := (if_pos c_14).symm.trans h
            replace h := Option.some.inj h
            subst q
            exact vx_throw0 (names := ["java/lang/RuntimeException", "java/lang/Exception"]) (A := mk_A E) hx hb hst hown (by decide +kernel) (by decide +kernel) (hts (.classLink RX5 72 "java/lang/IllegalStateException") (by decide +kernel)) (hts (.initialized "java/lang/IllegalStateException") (by decide +kernel)) (vx_hat (fun w h9 => hts w (xa_X5_release_2 w h9)) xb_X5_release_2 (fun w h9 => hT.2.2 w h9 _)) xg_X5_release_2 hT.1 hT.2.1 hS (hl.1.trans hml.symm) dX5_release_70 dX5_release_73 dX5_release_74 dX5_release_77 (fun x h9 => (hno x h9).elim) (Nat.le_of_ble_eq_true rfl) (Nat.le_of_ble_eq_true rfl) (Nat.le_of_ble_eq_true rfl) (Nat.le_of_ble_eq_true rfl) hlk (fun t _ h1 h2 => mk_thr (q := ((2, 0), M)) hP hS (Nat.succ_ne_zero _) h1 h2) hS.2.2 (Nat.le_of_ble_eq_true rfl) (Nat.le_of_ble_eq_true rfl)
          · replace h := (if_neg c_14).symm.trans h
            refine lv_aload_n hx hb dX5_release_62 rfl (lv_at hl 0 rfl) ?_
            refine mk_n3_9 hx hb hts in_X5_release_X3 hown hK hP (Nat.lt_trans k_5.2 (by decide)) k_5.1 (va_Nw.use rfl (hN (.fieldLinkNest "MixedKernel" 120 "MixedKernel$Task" "pending" "I" "MixedKernel") (by decide +kernel))) dX5_release_63 ?_
            refine lv_iconst (v := 4) hx hb dX5_release_66 (by decide) ?_
            refine lv_icmp_lt (tgt := 78) hx hb dX5_release_67 (by decide) (fun c_15 => ?_) (fun c_15 => ?_)
            · replace h := (if_pos c_15).symm.trans h
              refine lv_aload_n hx hb dX5_release_78 rfl (lv_at hl 1 rfl) ?_
              refine mk_g5_8 hx hb hts in_X5_release_X5 hown hK hP (by decide) rfl (hts (.fieldLink RX5 123 "MixedKernel" "highMode" "Z") (by decide +kernel)) dX5_release_79 ?_
              refine lv_if_eq (tgt := 104) hx hb dX5_release_82 (by decide) (fun c_16 => ?_) (fun c_16 => ?_)
              · replace h := (if_pos c_16).symm.trans h
                refine lv_aload_n hx hb dX5_release_104 rfl (lv_at hl 0 rfl) ?_
                refine lv_iload_n hx hb dX5_release_105 rfl (lv_at hl 3 rfl) ?_
                refine lv_aload_n hx hb dX5_release_106 rfl (lv_at hl 1 rfl) ?_
                refine mk_g5_9 hx hb hts in_X5_release_X5 hown hK hP (by decide) rfl (hts (.fieldLink RX5 113 "MixedKernel" "time" "I") (by decide +kernel)) dX5_release_107 ?_
                obtain ⟨r_18, e_17, h⟩ := mk_bind h
                refine va_calli (va_runV (As := [.int a2, .int (M 0 9)]) (rest := []) ⟨hx, hb, hml, hown, hts⟩ (c_X3_newJob l D E L (16 + 4 * (a1).toNatClampNeg) a2 (M 0 9) M (Nat.lt_trans k_5.2 (by decide)) k_5.1 e_17) (cwV 2 hts gX5_release_X3_newJob rfl rfl rfl (by decide +kernel) ⟨Nat.le_of_ble_eq_true rfl, Nat.le_of_ble_eq_true rfl⟩) ⟨mk_W.blind, mk_rc3 hK hP (Nat.lt_trans k_5.2 (by decide)) k_5.1, fun U hU hW => ⟨rfl, mk_W.at hU hW hP hK (hD _ _) hN⟩⟩ rfl rfl hl.1 rfl (lv_room (Nat.le_of_ble_eq_true rfl)) dX5_release_110 ⟨Nat.zero_le _, Nat.zero_le _⟩) hS (fun q _ h => h) (fun q h => h) (fun v_19 u t H1 locs ht hvm hw hB hz1 hk1 hS => ?_)
                subst v_19
                rw [ht] at hB
                replace hP := hB
                clear hB hz1 hk1 hvm ht
                generalize H1 = H at hP hS ⊢
                replace h := Option.some.inj h
                subst q
                exact W.widen (k := 1) (n := 6) (Nat.zero_le _) (Nat.zero_le _) (vx_ret (W.iret (v := r_18.1) hx hb hr (fun t ht hW => ⟨⟨_, (), rfl, ⟨rfl, rfl⟩, by rw [← ht] at hP; exact hP⟩, hS.F ht⟩) hS.2.2 dX5_release_113))
              · replace h := (if_neg c_16).symm.trans h
                refine lv_aload_n hx hb dX5_release_85 rfl (lv_at hl 0 rfl) ?_
                obtain ⟨r_21, e_20, h⟩ := mk_bind h
                refine va_calli (va_runV (As := []) (rest := []) ⟨hx, hb, hml, hown, hts⟩ (c_X3_isHigh l D E L (16 + 4 * (a1).toNatClampNeg) M (Nat.lt_trans k_5.2 (by decide)) k_5.1 e_20) (cwV 0 hts gX5_release_X3_isHigh rfl rfl rfl (by decide +kernel) ⟨Nat.le_of_ble_eq_true rfl, Nat.le_of_ble_eq_true rfl⟩) ⟨mk_W.blind, mk_rc3 hK hP (Nat.lt_trans k_5.2 (by decide)) k_5.1, fun U hU hW => ⟨rfl, mk_W.at hU hW hP hK (hD _ _) hN⟩⟩ rfl rfl hl.1 rfl (lv_room (Nat.le_of_ble_eq_true rfl)) dX5_release_86 ⟨Nat.zero_le _, Nat.zero_le _⟩) hS (fun q _ h => h) (fun q h => h) (fun v_26 u t H1 locs ht hvm hw hB hz1 hk1 hS => ?_)
                subst v_26
                rw [ht] at hB
                replace hP := hB
                clear hB hz1 hk1 hvm ht
                generalize H1 = H at hP hS ⊢
                refine lv_if_ne (tgt := 104) hx hb dX5_release_89 (by decide) (fun c_22 => ?_) (fun c_22 => ?_)
                · replace h := (if_neg c_22).symm.trans h
                  refine lv_aload_n hx hb dX5_release_104 rfl (lv_at hl 0 rfl) ?_
                  refine lv_iload_n hx hb dX5_release_105 rfl (lv_at hl 3 rfl) ?_
                  refine lv_aload_n hx hb dX5_release_106 rfl (lv_at hl 1 rfl) ?_
                  refine mk_g5_9 hx hb hts in_X5_release_X5 hown hK hP (by decide) rfl (hts (.fieldLink RX5 113 "MixedKernel" "time" "I") (by decide +kernel)) dX5_release_107 ?_
                  obtain ⟨r_24, e_23, h⟩ := mk_bind h
                  refine va_calli (va_runV (As := [.int a2, .int (M 0 9)]) (rest := []) ⟨hx, hb, hml, hown, hts⟩ (c_X3_newJob l D E L (16 + 4 * (a1).toNatClampNeg) a2 (M 0 9) M (Nat.lt_trans k_5.2 (by decide)) k_5.1 e_23) (cwV 2 hts gX5_release_X3_newJob rfl rfl rfl (by decide +kernel) ⟨Nat.le_of_ble_eq_true rfl, Nat.le_of_ble_eq_true rfl⟩) ⟨mk_W.blind, mk_rc3 hK hP (Nat.lt_trans k_5.2 (by decide)) k_5.1, fun U hU hW => ⟨rfl, mk_W.at hU hW hP hK (hD _ _) hN⟩⟩ rfl rfl hl.1 rfl (lv_room (Nat.le_of_ble_eq_true rfl)) dX5_release_110 ⟨Nat.zero_le _, Nat.zero_le _⟩) hS (fun q _ h => h) (fun q h => h) (fun v_25 u t H1 locs ht hvm hw hB hz1 hk1 hS => ?_)
                  subst v_25
                  rw [ht] at hB
                  replace hP := hB
                  clear hB hz1 hk1 hvm ht
                  generalize H1 = H at hP hS ⊢
                  replace h := Option.some.inj h
                  subst q
                  exact W.widen (k := 1) (n := 6) (Nat.zero_le _) (Nat.zero_le _) (vx_ret (W.iret (v := r_24.1) hx hb hr (fun t ht hW => ⟨⟨_, (), rfl, ⟨rfl, rfl⟩, by rw [← ht] at hP; exact hP⟩, hS.F ht⟩) hS.2.2 dX5_release_113))
                · replace h := (if_pos c_22).symm.trans h
                  refine lv_aload_n hx hb dX5_release_92 rfl (lv_at hl 0 rfl) ?_
                  refine lv_dup hx hb dX5_release_93 rfl ?_
                  refine mk_n3_6 hx hb hts in_X5_release_X3 hown hK hP (Nat.lt_trans k_5.2 (by decide)) k_5.1 (va_Nw.use rfl (hN (.fieldLinkNest "MixedKernel" 130 "MixedKernel$Task" "dropped" "I" "MixedKernel") (by decide +kernel))) dX5_release_94 ?_
                  refine lv_iconst (v := 1) hx hb dX5_release_97 (by decide) ?_
                  refine lv_iadd hx hb dX5_release_98 ?_
                  refine mk_q3_6 hx hb hts in_X5_release_X3 hown hK hP (Nat.lt_trans k_5.2 (by decide)) k_5.1 (hD _ _) hS (va_Nw.use rfl (hN (.fieldLinkNest "MixedKernel" 130 "MixedKernel$Task" "dropped" "I" "MixedKernel") (by decide +kernel))) dX5_release_99 (fun H locs hP hS => ?_)
                  refine lv_iconst (v := 0) hx hb dX5_release_102 (by decide) ?_
                  replace h := Option.some.inj h
                  subst q
                  exact W.widen (k := 1) (n := 6) (Nat.zero_le _) (Nat.zero_le _) (vx_ret (W.iret (v := 0) hx hb hr (fun t ht hW => ⟨⟨_, (), rfl, ⟨rfl, rfl⟩, by rw [← ht] at hP; exact hP⟩, hS.F ht⟩) hS.2.2 dX5_release_103))
            · replace h := (if_neg c_15).symm.trans h
              replace h := Option.some.inj h
              subst q
              exact vx_throw0 (names := ["java/lang/RuntimeException", "java/lang/Exception"]) (A := mk_A E) hx hb hst hown (by decide +kernel) (by decide +kernel) (hts (.classLink RX5 72 "java/lang/IllegalStateException") (by decide +kernel)) (hts (.initialized "java/lang/IllegalStateException") (by decide +kernel)) (vx_hat (fun w h9 => hts w (xa_X5_release_2 w h9)) xb_X5_release_2 (fun w h9 => hT.2.2 w h9 _)) xg_X5_release_2 hT.1 hT.2.1 hS (hl.1.trans hml.symm) dX5_release_70 dX5_release_73 dX5_release_74 dX5_release_77 (fun x h9 => (hno x h9).elim) (Nat.le_of_ble_eq_true rfl) (Nat.le_of_ble_eq_true rfl) (Nat.le_of_ble_eq_true rfl) (Nat.le_of_ble_eq_true rfl) hlk (fun t _ h1 h2 => mk_thr (q := ((2, 0), M)) hP hS (Nat.succ_ne_zero _) h1 h2) hS.2.2 (Nat.le_of_ble_eq_true rfl) (Nat.le_of_ble_eq_true rfl)
      · replace h := (if_neg c_10).symm.trans h
        replace h := Option.some.inj h
        subst q
        exact vx_throw0 (names := ["java/lang/RuntimeException", "java/lang/Exception"]) (A := mk_A E) hx hb hst hown (by decide +kernel) (by decide +kernel) (hts (.classLink RX5 66 "java/lang/IllegalArgumentException") (by decide +kernel)) (hts (.initialized "java/lang/IllegalArgumentException") (by decide +kernel)) (vx_hat (fun w h9 => hts w (xa_X5_release_1 w h9)) xb_X5_release_1 (fun w h9 => hT.2.2 w h9 _)) xg_X5_release_1 hT.1 hT.2.1 hS (hl.1.trans hml.symm) dX5_release_36 dX5_release_39 dX5_release_40 dX5_release_43 (fun x h9 => (hno x h9).elim) (Nat.le_of_ble_eq_true rfl) (Nat.le_of_ble_eq_true rfl) (Nat.le_of_ble_eq_true rfl) (Nat.le_of_ble_eq_true rfl) hlk (fun t _ h1 h2 => mk_thr (q := ((1, 0), M)) hP hS (Nat.succ_ne_zero _) h1 h2) hS.2.2 (Nat.le_of_ble_eq_true rfl) (Nat.le_of_ble_eq_true rfl)
  · replace h := (if_pos c_3).symm.trans h
    replace h := Option.some.inj h
    subst q
    exact vx_throw0 (names := ["java/lang/RuntimeException", "java/lang/Exception"]) (A := mk_A E) hx hb hst hown (by decide +kernel) (by decide +kernel) (hts (.classLink RX5 97 "java/util/NoSuchElementException") (by decide +kernel)) (hts (.initialized "java/util/NoSuchElementException") (by decide +kernel)) (vx_hat (fun w h9 => hts w (xa_X5_release_3 w h9)) xb_X5_release_3 (fun w h9 => hT.2.2 w h9 _)) xg_X5_release_3 hT.1 hT.2.1 hS (hl.1.trans hml.symm) dX5_release_8 dX5_release_11 dX5_release_12 dX5_release_15 (fun x h9 => (hno x h9).elim) (Nat.le_of_ble_eq_true rfl) (Nat.le_of_ble_eq_true rfl) (Nat.le_of_ble_eq_true rfl) (Nat.le_of_ble_eq_true rfl) hlk (fun t _ h1 h2 => mk_thr (q := ((3, 0), M)) hP hS (Nat.succ_ne_zero _) h1 h2) hS.2.2 (Nat.le_of_ble_eq_true rfl) (Nat.le_of_ble_eq_true rfl)
