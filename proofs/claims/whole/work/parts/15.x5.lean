abbrev rm_X5_firstToRun : Room := { frames := 0, cells := 0, slots := 0, locals := 0 }
theorem in_X5_firstToRun_X1 : ∀ w ∈ wsX10, w ∈ wsX5_firstToRun := by decide +kernel
theorem in_X5_firstToRun_X3 : ∀ w ∈ wsX30, w ∈ wsX5_firstToRun := by decide +kernel
theorem in_X5_firstToRun_X5 : ∀ w ∈ wsX50, w ∈ wsX5_firstToRun := by decide +kernel
def f_X5_firstToRun_2 : Nat → Int32 → mk_M → Option (Int32)
  | 0, _, _ => none
  | n + 1, l1, M => (if (M 5 1) ≤ l1 then (some 0) else (if mk_ob l1 12 then none else (if mk_ob (M 6 (l1).toNatClampNeg) 13 then none else (if (M (16 + 4 * (M 6 (l1).toNatClampNeg).toNatClampNeg) 9) ≤ 0 then (f_X5_firstToRun_2 n (l1 + 1) M) else (if mk_ob l1 12 then none else (some (M 6 (l1).toNatClampNeg)))))))
set_option maxHeartbeats 4000000 in
set_option maxRecDepth 100000 in
theorem w_X5_firstToRun_2 {p : Program} {l : Launch} {e : Env} {s : State} {m : MethodId} {args : Array Value} {below : List Frame} {meth : Method} {c : Code} {D : va_G} {E : mk_E} {L : Nat → Int64} (C0 : mk_C p s m args meth c cX5_firstToRun 2 wsX5_firstToRun RX5 (some .int) D E) : ∀ n : Nat, ∀ (l1 : Int32) (M : mk_M) (q : Int32), f_X5_firstToRun_2 n l1 M = some q → ∀ (H : Heap) (locs : List Loc) (ls : Array Slot), va_P D vwCl (mk_wl E M L) H → va_S (mk_A E) s.heap H locs → lv_has ls 2 [(0, .ref (E.1 0)), (1, .int l1)] → W p l e rm_X5_firstToRun s m args below meth c H locs 0 0 (MQ below (mk_Qi D E L q M) args s 0 0 (mk_A E)) (F0 m 2 ls []) := by
  obtain ⟨hx, hb, hml, hown, hts, hr, hlk, hK, hD, hN⟩ := id C0
  intro n
  induction n with
  | zero =>
    intro l1 M q h
    cases h
  | succ n ih =>
    intro l1 M q h H locs ls hP hS hl
    replace h : (if (M 5 1) ≤ l1 then (some 0) else (if mk_ob l1 12 then none else (if mk_ob (M 6 (l1).toNatClampNeg) 13 then none else (if (M (16 + 4 * (M 6 (l1).toNatClampNeg).toNatClampNeg) 9) ≤ 0 then (f_X5_firstToRun_2 n (l1 + 1) M) else (if mk_ob l1 12 then none else (some (M 6 (l1).toNatClampNeg))))))) = some q := h
    refine lv_iload_n hx hb dX5_firstToRun_2 rfl (lv_at hl 1 rfl) ?_
    refine lv_aload_n hx hb dX5_firstToRun_3 rfl (lv_at hl 0 rfl) ?_
    refine mk_g5_3 hx hb hts in_X5_firstToRun_X5 hown hK hP (by decide) rfl (hts (.fieldLink RX5 30 "MixedKernel" "order" "LMixedKernel$Line;") (by decide +kernel)) dX5_firstToRun_4 ?_
    refine mk_n1_1 hx hb hts in_X5_firstToRun_X1 hown hK hP (by decide) rfl (va_Nw.use rfl (hN (.fieldLinkNest "MixedKernel" 140 "MixedKernel$Line" "size" "I" "MixedKernel") (by decide +kernel))) dX5_firstToRun_7 ?_
    refine lv_icmp_ge (tgt := 49) hx hb dX5_firstToRun_10 (by decide) (fun c_1 => ?_) (fun c_1 => ?_)
    · replace h := (if_pos c_1).symm.trans h
      refine lv_iconst (v := 0) hx hb dX5_firstToRun_49 (by decide) ?_
      replace h := Option.some.inj h
      subst q
      exact W.iret (v := 0) hx hb hr (fun t ht hW => ⟨⟨_, (), rfl, rfl, by rw [← ht] at hP; exact hP⟩, hS.F ht⟩) hS.2.2 dX5_firstToRun_50
    · replace h := (if_neg c_1).symm.trans h
      refine lv_aload_n hx hb dX5_firstToRun_13 rfl (lv_at hl 0 rfl) ?_
      refine mk_g5_1 hx hb hts in_X5_firstToRun_X5 hown hK hP (by decide) rfl (hts (.fieldLink RX5 20 "MixedKernel" "tasks" "[LMixedKernel$Task;") (by decide +kernel)) dX5_firstToRun_14 ?_
      refine lv_aload_n hx hb dX5_firstToRun_17 rfl (lv_at hl 0 rfl) ?_
      refine mk_g5_3 hx hb hts in_X5_firstToRun_X5 hown hK hP (by decide) rfl (hts (.fieldLink RX5 30 "MixedKernel" "order" "LMixedKernel$Line;") (by decide +kernel)) dX5_firstToRun_18 ?_
      refine mk_n1_0 hx hb hts in_X5_firstToRun_X1 hown hK hP (by decide) rfl (va_Nw.use rfl (hN (.fieldLinkNest "MixedKernel" 212 "MixedKernel$Line" "ids" "[I" "MixedKernel") (by decide +kernel))) dX5_firstToRun_21 ?_
      refine lv_iload_n hx hb dX5_firstToRun_24 rfl (lv_at hl 1 rfl) ?_
      obtain ⟨i_2, h⟩ := mk_ifn h
      refine mk_ia hx hb hK hP (by decide) rfl i_2 dX5_firstToRun_25 ?_
      obtain ⟨i_3, h⟩ := mk_ifn h
      have k_4 := mk_kd_task i_3
      have w_5 := mk_s3 k_4.1
      refine mk_aa hx hb hK hP (by decide) rfl i_3 dX5_firstToRun_26 ?_
      refine mk_n3_9 hx hb hts in_X5_firstToRun_X3 hown hK hP (Nat.lt_trans k_4.2 (by decide)) k_4.1 (va_Nw.use rfl (hN (.fieldLinkNest "MixedKernel" 120 "MixedKernel$Task" "pending" "I" "MixedKernel") (by decide +kernel))) dX5_firstToRun_27 ?_
      refine lv_if_le (tgt := 43) hx hb dX5_firstToRun_30 (by decide) (fun c_6 => ?_) (fun c_6 => ?_)
      · replace h := (if_pos c_6).symm.trans h
        refine lv_iinc (v := l1 + 1) (lv' := [(1, .int (l1 + 1)), (0, .ref (E.1 0))]) hx hb dX5_firstToRun_43 hl (k := 1) rfl rfl (by decide) rfl (fun ls hl => ?_)
        refine lv_goto (tgt := 2) hx hb dX5_firstToRun_46 (by decide) ?_
        exact ih (l1 + 1) M _ h _ _ _ hP hS (lv_sub hl [1, 0] rfl)
      · replace h := (if_neg c_6).symm.trans h
        refine lv_aload_n hx hb dX5_firstToRun_33 rfl (lv_at hl 0 rfl) ?_
        refine mk_g5_3 hx hb hts in_X5_firstToRun_X5 hown hK hP (by decide) rfl (hts (.fieldLink RX5 30 "MixedKernel" "order" "LMixedKernel$Line;") (by decide +kernel)) dX5_firstToRun_34 ?_
        refine mk_n1_0 hx hb hts in_X5_firstToRun_X1 hown hK hP (by decide) rfl (va_Nw.use rfl (hN (.fieldLinkNest "MixedKernel" 212 "MixedKernel$Line" "ids" "[I" "MixedKernel") (by decide +kernel))) dX5_firstToRun_37 ?_
        refine lv_iload_n hx hb dX5_firstToRun_40 rfl (lv_at hl 1 rfl) ?_
        obtain ⟨i_7, h⟩ := mk_ifn h
        refine mk_ia hx hb hK hP (by decide) rfl i_7 dX5_firstToRun_41 ?_
        replace h := Option.some.inj h
        subst q
        exact W.iret (v := M 6 (l1).toNatClampNeg) hx hb hr (fun t ht hW => ⟨⟨_, (), rfl, rfl, by rw [← ht] at hP; exact hP⟩, hS.F ht⟩) hS.2.2 dX5_firstToRun_42
def f_X5_firstToRun (M : mk_M) : Option (Int32) := (f_X5_firstToRun_2 mk_F 0 M)
set_option maxHeartbeats 4000000 in
set_option maxRecDepth 100000 in
theorem c_X5_firstToRun (l : Launch) (D : va_G) (E : mk_E) (L : Nat → Int64) (M : mk_M) {q : Int32} (h : f_X5_firstToRun M = some q) : Met l yX5_firstToRun wsX5_firstToRun rm_X5_firstToRun (va_Pc [.ref (E.1 0)] (mk_W D E M L)) (mk_Qi D E L q M) 0 0 (mk_A E) := by
  refine Met.ofW (cc := cX5_firstToRun) (maxL := 2) (ret := (some .int)) (by decide) rfl ?_
  intro p e s m args below meth c s₁ B hml hv
  obtain ⟨rfl, hP, hK, hD0, hN⟩ := hv
  have hx := B.exec
  have hb := B.bytes
  have hr := B.returns
  have hts := atoms_spec (ws := wsX5_firstToRun) B.pre
  have hown : s.vm.findClass RX5 = some m.cls := findClass_of_methodNamed B.named
  have hlk := B.notSynchronized
  have hD : ∀ (M : mk_M) (L : Nat → Int64), va_D (mk_A E) (mk_wl E M L) := fun _ _ => mk_D hD0
  have C0 : mk_C p s m [.ref (E.1 0)].toArray meth c cX5_firstToRun 2 wsX5_firstToRun RX5 (some .int) D E := ⟨hx, hb, hml, hown, hts, hr, hlk, hK, hD, hN⟩
  have hS : va_S (mk_A E) s.heap s.heap [] := va_S.rf
  have hl := lv_entry ([.ref (E.1 0)]) (n := 2) (Nat.le_of_ble_eq_true rfl)
  rw [lg_entry_eq]
  generalize (lg_sl ([.ref (E.1 0)]) ++ List.replicate (2 - (lg_sl ([.ref (E.1 0)])).length) Slot.unset).toArray = ls at hl ⊢
  have hl : lv_has ls 2 [(0, .ref (E.1 0))] := hl
  replace h : (f_X5_firstToRun_2 mk_F 0 M) = some q := h
  refine lv_iconst (v := 0) hx hb dX5_firstToRun_0 (by decide) ?_
  refine lv_istore_n (lv' := [(1, .int 0), (0, .ref (E.1 0))]) hx hb dX5_firstToRun_1 rfl hl (by decide) rfl (fun ls hl => ?_)
  exact w_X5_firstToRun_2 C0 mk_F 0 M _ h _ _ _ hP hS (lv_sub hl [1, 0] rfl)
abbrev rm_X5_settle : Room := { frames := 2, cells := 0, slots := 0, locals := 81 }
theorem in_X5_settle_X5 : ∀ w ∈ wsX50, w ∈ wsX5_settle := by decide +kernel
def f_X5_settle (M : mk_M) : Option (mk_M) := ((f_X1_become 5 3 (mk_st (mk_st (mk_st M 0 10 ((M 0 10) + 1)) 0 11 ((mk_st M 0 10 ((M 0 10) + 1)) 0 9)) 0 8 0)).bind (fun r_2 => (some r_2)))
set_option maxHeartbeats 4000000 in
set_option maxRecDepth 100000 in
theorem c_X5_settle (l : Launch) (D : va_G) (E : mk_E) (L : Nat → Int64) (M : mk_M) {q : mk_M} (h : f_X5_settle M = some q) : Met l yX5_settle wsX5_settle rm_X5_settle (va_Pc [.ref (E.1 0)] (mk_W D E M L)) (mk_Qv D E L q) 0 0 (mk_A E) := by
  refine Met.ofW (cc := cX5_settle) (maxL := 1) (ret := none) (by decide) rfl ?_
  intro p e s m args below meth c s₁ B hml hv
  obtain ⟨rfl, hP, hK, hD0, hN⟩ := hv
  have hx := B.exec
  have hb := B.bytes
  have hr := B.returns
  have hts := atoms_spec (ws := wsX5_settle) B.pre
  have hown : s.vm.findClass RX5 = some m.cls := findClass_of_methodNamed B.named
  have hlk := B.notSynchronized
  have hD : ∀ (M : mk_M) (L : Nat → Int64), va_D (mk_A E) (mk_wl E M L) := fun _ _ => mk_D hD0
  have C0 : mk_C p s m [.ref (E.1 0)].toArray meth c cX5_settle 1 wsX5_settle RX5 none D E := ⟨hx, hb, hml, hown, hts, hr, hlk, hK, hD, hN⟩
  have hS : va_S (mk_A E) s.heap s.heap [] := va_S.rf
  have hl := lv_entry ([.ref (E.1 0)]) (n := 1) (Nat.le_of_ble_eq_true rfl)
  rw [lg_entry_eq]
  generalize (lg_sl ([.ref (E.1 0)]) ++ List.replicate (1 - (lg_sl ([.ref (E.1 0)])).length) Slot.unset).toArray = ls at hl ⊢
  have hl : lv_has ls 1 [(0, .ref (E.1 0))] := hl
  replace h : ((f_X1_become 5 3 (mk_st (mk_st (mk_st M 0 10 ((M 0 10) + 1)) 0 11 ((mk_st M 0 10 ((M 0 10) + 1)) 0 9)) 0 8 0)).bind (fun r_2 => (some r_2))) = some q := h
  refine lv_aload_n hx hb dX5_settle_0 rfl (lv_at hl 0 rfl) ?_
  refine lv_dup hx hb dX5_settle_1 rfl ?_
  refine mk_g5_10 hx hb hts in_X5_settle_X5 hown hK hP (by decide) rfl (hts (.fieldLink RX5 192 "MixedKernel" "idleTicks" "I") (by decide +kernel)) dX5_settle_2 ?_
  refine lv_iconst (v := 1) hx hb dX5_settle_5 (by decide) ?_
  refine lv_iadd hx hb dX5_settle_6 ?_
  refine mk_p5_10 hx hb hts in_X5_settle_X5 hown hK hP (by decide) rfl (hD _ _) hS (hts (.fieldLink RX5 192 "MixedKernel" "idleTicks" "I") (by decide +kernel)) dX5_settle_7 (fun H locs hP hS => ?_)
  refine lv_aload_n hx hb dX5_settle_10 rfl (lv_at hl 0 rfl) ?_
  refine lv_aload_n hx hb dX5_settle_11 rfl (lv_at hl 0 rfl) ?_
  refine mk_g5_9 hx hb hts in_X5_settle_X5 hown hK hP (by decide) rfl (hts (.fieldLink RX5 113 "MixedKernel" "time" "I") (by decide +kernel)) dX5_settle_12 ?_
  refine mk_p5_11 hx hb hts in_X5_settle_X5 hown hK hP (by decide) rfl (hD _ _) hS (hts (.fieldLink RX5 204 "MixedKernel" "latestIdle" "I") (by decide +kernel)) dX5_settle_15 (fun H locs hP hS => ?_)
  refine lv_aload_n hx hb dX5_settle_18 rfl (lv_at hl 0 rfl) ?_
  refine lv_iconst (v := 0) hx hb dX5_settle_19 (by decide) ?_
  refine mk_p5_8 hx hb hts in_X5_settle_X5 hown hK hP (by decide) rfl (hD _ _) hS (by decide) (by decide) (hts (.fieldLink RX5 123 "MixedKernel" "highMode" "Z") (by decide +kernel)) dX5_settle_20 (fun H locs hP hS => ?_)
  refine lv_aload_n hx hb dX5_settle_23 rfl (lv_at hl 0 rfl) ?_
  refine mk_g5_3 hx hb hts in_X5_settle_X5 hown hK hP (by decide) rfl (hts (.fieldLink RX5 30 "MixedKernel" "order" "LMixedKernel$Line;") (by decide +kernel)) dX5_settle_24 ?_
  refine lv_aload_n hx hb dX5_settle_27 rfl (lv_at hl 0 rfl) ?_
  refine mk_g5_2 hx hb hts in_X5_settle_X5 hown hK hP (by decide) rfl (hts (.fieldLink RX5 26 "MixedKernel" "plan" "LMixedKernel$Line;") (by decide +kernel)) dX5_settle_28 ?_
  obtain ⟨r_2, e_1, h⟩ := mk_bind h
  refine va_callv (va_runV (As := [.ref (E.1 3)]) (rest := []) ⟨hx, hb, hml, hown, hts⟩ (c_X1_become l D E L 5 3 (mk_st (mk_st (mk_st M 0 10 ((M 0 10) + 1)) 0 11 ((mk_st M 0 10 ((M 0 10) + 1)) 0 9)) 0 8 0) (by decide) rfl (by decide) rfl e_1) (cwV 1 hts gX5_settle_X1_become rfl rfl rfl (by decide +kernel) ⟨Nat.le_of_ble_eq_true rfl, Nat.le_of_ble_eq_true rfl⟩) ⟨mk_W.blind, mk_rc1 hK hP (by decide) rfl, fun U hU hW => ⟨rfl, mk_W.at hU hW hP hK (hD _ _) hN⟩⟩ rfl rfl hl.1 rfl (lv_room (Nat.le_of_ble_eq_true rfl)) dX5_settle_31 ⟨Nat.zero_le _, Nat.zero_le _⟩) hS (fun q _ h => h) (fun q h => h) (fun u t H1 locs ht hvm hw hB hz1 hk1 hS => ?_)
  rw [ht] at hB
  replace hP := hB
  clear hB hz1 hk1 hvm ht
  generalize H1 = H at hP hS ⊢
  replace h := Option.some.inj h
  subst q
  exact W.vret hx hb hr (fun t ht hW => ⟨⟨(), rfl, trivial, by rw [← ht] at hP; exact hP⟩, hS.F ht⟩) hS.2.2 dX5_settle_34
abbrev rm_X5_forgetIfLeft : Room := { frames := 2, cells := 0, slots := 0, locals := 46 }
theorem in_X5_forgetIfLeft_X3 : ∀ w ∈ wsX30, w ∈ wsX5_forgetIfLeft := by decide +kernel
theorem in_X5_forgetIfLeft_X5 : ∀ w ∈ wsX50, w ∈ wsX5_forgetIfLeft := by decide +kernel
def f_X5_forgetIfLeft (a1 : Int32) (M : mk_M) : Option (mk_M) := (if mk_ob a1 13 then none else (if (M (16 + 4 * (a1).toNatClampNeg) 4) = 0 then (some M) else (if mk_ob a1 13 then none else (if (M (16 + 4 * (a1).toNatClampNeg) 9) = 0 then ((f_X1_drop 3 a1 M).bind (fun r_10 => ((f_X1_drop 5 a1 r_10).bind (fun r_12 => (some r_12))))) else (some M)))))
set_option maxHeartbeats 4000000 in
set_option maxRecDepth 100000 in
theorem c_X5_forgetIfLeft (l : Launch) (D : va_G) (E : mk_E) (L : Nat → Int64) (a1 : Int32) (M : mk_M) {q : mk_M} (h : f_X5_forgetIfLeft a1 M = some q) : Met l yX5_forgetIfLeft wsX5_forgetIfLeft rm_X5_forgetIfLeft (va_Pc [.ref (E.1 0), .int a1] (mk_W D E M L)) (mk_Qv D E L q) 0 0 (mk_A E) := by
  refine Met.ofW (cc := cX5_forgetIfLeft) (maxL := 2) (ret := none) (by decide) rfl ?_
  intro p e s m args below meth c s₁ B hml hv
  obtain ⟨rfl, hP, hK, hD0, hN⟩ := hv
  have hx := B.exec
  have hb := B.bytes
  have hr := B.returns
  have hts := atoms_spec (ws := wsX5_forgetIfLeft) B.pre
  have hown : s.vm.findClass RX5 = some m.cls := findClass_of_methodNamed B.named
  have hlk := B.notSynchronized
  have hD : ∀ (M : mk_M) (L : Nat → Int64), va_D (mk_A E) (mk_wl E M L) := fun _ _ => mk_D hD0
  have C0 : mk_C p s m [.ref (E.1 0), .int a1].toArray meth c cX5_forgetIfLeft 2 wsX5_forgetIfLeft RX5 none D E := ⟨hx, hb, hml, hown, hts, hr, hlk, hK, hD, hN⟩
  have hS : va_S (mk_A E) s.heap s.heap [] := va_S.rf
  have hl := lv_entry ([.ref (E.1 0), .int a1]) (n := 2) (Nat.le_of_ble_eq_true rfl)
  rw [lg_entry_eq]
  generalize (lg_sl ([.ref (E.1 0), .int a1]) ++ List.replicate (2 - (lg_sl ([.ref (E.1 0), .int a1])).length) Slot.unset).toArray = ls at hl ⊢
  have hl : lv_has ls 2 [(0, .ref (E.1 0)), (1, .int a1)] := hl
  replace h : (if mk_ob a1 13 then none else (if (M (16 + 4 * (a1).toNatClampNeg) 4) = 0 then (some M) else (if mk_ob a1 13 then none else (if (M (16 + 4 * (a1).toNatClampNeg) 9) = 0 then ((f_X1_drop 3 a1 M).bind (fun r_10 => ((f_X1_drop 5 a1 r_10).bind (fun r_12 => (some r_12))))) else (some M))))) = some q := h
  refine lv_aload_n hx hb dX5_forgetIfLeft_0 rfl (lv_at hl 0 rfl) ?_
  refine mk_g5_1 hx hb hts in_X5_forgetIfLeft_X5 hown hK hP (by decide) rfl (hts (.fieldLink RX5 20 "MixedKernel" "tasks" "[LMixedKernel$Task;") (by decide +kernel)) dX5_forgetIfLeft_1 ?_
  refine lv_iload_n hx hb dX5_forgetIfLeft_4 rfl (lv_at hl 1 rfl) ?_
  obtain ⟨i_1, h⟩ := mk_ifn h
  have k_2 := mk_kd_task i_1
  have w_3 := mk_s3 k_2.1
  refine mk_aa hx hb hK hP (by decide) rfl i_1 dX5_forgetIfLeft_5 ?_
  refine mk_n3_4 hx hb hts in_X5_forgetIfLeft_X3 hown hK hP (Nat.lt_trans k_2.2 (by decide)) k_2.1 (va_Nw.use rfl (hN (.fieldLinkNest "MixedKernel" 100 "MixedKernel$Task" "leaving" "Z" "MixedKernel") (by decide +kernel))) dX5_forgetIfLeft_6 ?_
  refine lv_if_eq (tgt := 40) hx hb dX5_forgetIfLeft_9 (by decide) (fun c_4 => ?_) (fun c_4 => ?_)
  · replace h := (if_pos c_4).symm.trans h
    replace h := Option.some.inj h
    subst q
    exact W.vret hx hb hr (fun t ht hW => ⟨⟨(), rfl, trivial, by rw [← ht] at hP; exact hP⟩, hS.F ht⟩) hS.2.2 dX5_forgetIfLeft_40
  · replace h := (if_neg c_4).symm.trans h
    refine lv_aload_n hx hb dX5_forgetIfLeft_12 rfl (lv_at hl 0 rfl) ?_
    refine mk_g5_1 hx hb hts in_X5_forgetIfLeft_X5 hown hK hP (by decide) rfl (hts (.fieldLink RX5 20 "MixedKernel" "tasks" "[LMixedKernel$Task;") (by decide +kernel)) dX5_forgetIfLeft_13 ?_
    refine lv_iload_n hx hb dX5_forgetIfLeft_16 rfl (lv_at hl 1 rfl) ?_
    obtain ⟨i_5, h⟩ := mk_ifn h
    have k_6 := mk_kd_task i_5
    have w_7 := mk_s3 k_6.1
    refine mk_aa hx hb hK hP (by decide) rfl i_5 dX5_forgetIfLeft_17 ?_
    refine mk_n3_9 hx hb hts in_X5_forgetIfLeft_X3 hown hK hP (Nat.lt_trans k_6.2 (by decide)) k_6.1 (va_Nw.use rfl (hN (.fieldLinkNest "MixedKernel" 120 "MixedKernel$Task" "pending" "I" "MixedKernel") (by decide +kernel))) dX5_forgetIfLeft_18 ?_
    refine lv_if_ne (tgt := 40) hx hb dX5_forgetIfLeft_21 (by decide) (fun c_8 => ?_) (fun c_8 => ?_)
    · replace h := (if_neg c_8).symm.trans h
      replace h := Option.some.inj h
      subst q
      exact W.vret hx hb hr (fun t ht hW => ⟨⟨(), rfl, trivial, by rw [← ht] at hP; exact hP⟩, hS.F ht⟩) hS.2.2 dX5_forgetIfLeft_40
    · replace h := (if_pos c_8).symm.trans h
      refine lv_aload_n hx hb dX5_forgetIfLeft_24 rfl (lv_at hl 0 rfl) ?_
      refine mk_g5_2 hx hb hts in_X5_forgetIfLeft_X5 hown hK hP (by decide) rfl (hts (.fieldLink RX5 26 "MixedKernel" "plan" "LMixedKernel$Line;") (by decide +kernel)) dX5_forgetIfLeft_25 ?_
      refine lv_iload_n hx hb dX5_forgetIfLeft_28 rfl (lv_at hl 1 rfl) ?_
      obtain ⟨r_10, e_9, h⟩ := mk_bind h
      refine va_callv (va_runV (As := [.int a1]) (rest := []) ⟨hx, hb, hml, hown, hts⟩ (c_X1_drop l D E L 3 a1 M (by decide) rfl e_9) (cwV 1 hts gX5_forgetIfLeft_X1_drop rfl rfl rfl (by decide +kernel) ⟨Nat.le_of_ble_eq_true rfl, Nat.le_of_ble_eq_true rfl⟩) ⟨mk_W.blind, mk_rc1 hK hP (by decide) rfl, fun U hU hW => ⟨rfl, mk_W.at hU hW hP hK (hD _ _) hN⟩⟩ rfl rfl hl.1 rfl (lv_room (Nat.le_of_ble_eq_true rfl)) dX5_forgetIfLeft_29 ⟨Nat.zero_le _, Nat.zero_le _⟩) hS (fun q _ h => h) (fun q h => h) (fun u t H1 locs ht hvm hw hB hz1 hk1 hS => ?_)
      rw [ht] at hB
      replace hP := hB
      clear hB hz1 hk1 hvm ht
      generalize H1 = H at hP hS ⊢
      refine lv_aload_n hx hb dX5_forgetIfLeft_32 rfl (lv_at hl 0 rfl) ?_
      refine mk_g5_3 hx hb hts in_X5_forgetIfLeft_X5 hown hK hP (by decide) rfl (hts (.fieldLink RX5 30 "MixedKernel" "order" "LMixedKernel$Line;") (by decide +kernel)) dX5_forgetIfLeft_33 ?_
      refine lv_iload_n hx hb dX5_forgetIfLeft_36 rfl (lv_at hl 1 rfl) ?_
      obtain ⟨r_12, e_11, h⟩ := mk_bind h
      refine va_callv (va_runV (As := [.int a1]) (rest := []) ⟨hx, hb, hml, hown, hts⟩ (c_X1_drop l D E L 5 a1 r_10 (by decide) rfl e_11) (cwV 1 hts gX5_forgetIfLeft_X1_drop rfl rfl rfl (by decide +kernel) ⟨Nat.le_of_ble_eq_true rfl, Nat.le_of_ble_eq_true rfl⟩) ⟨mk_W.blind, mk_rc1 hK hP (by decide) rfl, fun U hU hW => ⟨rfl, mk_W.at hU hW hP hK (hD _ _) hN⟩⟩ rfl rfl hl.1 rfl (lv_room (Nat.le_of_ble_eq_true rfl)) dX5_forgetIfLeft_37 ⟨Nat.zero_le _, Nat.zero_le _⟩) hS (fun q _ h => h) (fun q h => h) (fun u t H1 locs ht hvm hw hB hz1 hk1 hS => ?_)
      rw [ht] at hB
      replace hP := hB
      clear hB hz1 hk1 hvm ht
      generalize H1 = H at hP hS ⊢
      replace h := Option.some.inj h
      subst q
      exact W.vret hx hb hr (fun t ht hW => ⟨⟨(), rfl, trivial, by rw [← ht] at hP; exact hP⟩, hS.F ht⟩) hS.2.2 dX5_forgetIfLeft_40
abbrev rm_X5_becomeHigh : Room := { frames := 3, cells := 0, slots := 0, locals := 67 }
theorem in_X5_becomeHigh_X5 : ∀ w ∈ wsX50, w ∈ wsX5_becomeHigh := by decide +kernel
def f_X5_becomeHigh_18 : Nat → Int32 → mk_M → Option (mk_M)
  | 0, _, _ => none
  | n + 1, l1, M => (if 12 < l1 then (some M) else (if mk_ob l1 13 then none else ((f_X3_isHigh (16 + 4 * (l1).toNatClampNeg) M).bind (fun r_8 => (if r_8 = 0 then (if mk_ob l1 13 then none else ((f_X3_giveUpPending (16 + 4 * (l1).toNatClampNeg) M).bind (fun r_14 => ((f_X5_forgetIfLeft l1 (mk_st r_14.2 0 12 ((M 0 12) + r_14.1))).bind (fun r_16 => (f_X5_becomeHigh_18 n (l1 + 1) r_16)))))) else (f_X5_becomeHigh_18 n (l1 + 1) M))))))
set_option maxHeartbeats 4000000 in
set_option maxRecDepth 100000 in
theorem w_X5_becomeHigh_18 {p : Program} {l : Launch} {e : Env} {s : State} {m : MethodId} {args : Array Value} {below : List Frame} {meth : Method} {c : Code} {D : va_G} {E : mk_E} {L : Nat → Int64} (C0 : mk_C p s m args meth c cX5_becomeHigh 2 wsX5_becomeHigh RX5 none D E) : ∀ n : Nat, ∀ (l1 : Int32) (M : mk_M) (q : mk_M), f_X5_becomeHigh_18 n l1 M = some q → ∀ (H : Heap) (locs : List Loc) (ls : Array Slot), va_P D vwCl (mk_wl E M L) H → va_S (mk_A E) s.heap H locs → lv_has ls 2 [(0, .ref (E.1 0)), (1, .int l1)] → W p l e rm_X5_becomeHigh s m args below meth c H locs 0 0 (MQ below (mk_Qv D E L q) args s 0 0 (mk_A E)) (F0 m 18 ls []) := by
  obtain ⟨hx, hb, hml, hown, hts, hr, hlk, hK, hD, hN⟩ := id C0
  intro n
  induction n with
  | zero =>
    intro l1 M q h
    cases h
  | succ n ih =>
    intro l1 M q h H locs ls hP hS hl
    replace h : (if 12 < l1 then (some M) else (if mk_ob l1 13 then none else ((f_X3_isHigh (16 + 4 * (l1).toNatClampNeg) M).bind (fun r_8 => (if r_8 = 0 then (if mk_ob l1 13 then none else ((f_X3_giveUpPending (16 + 4 * (l1).toNatClampNeg) M).bind (fun r_14 => ((f_X5_forgetIfLeft l1 (mk_st r_14.2 0 12 ((M 0 12) + r_14.1))).bind (fun r_16 => (f_X5_becomeHigh_18 n (l1 + 1) r_16)))))) else (f_X5_becomeHigh_18 n (l1 + 1) M)))))) = some q := h
    refine lv_iload_n hx hb dX5_becomeHigh_18 rfl (lv_at hl 1 rfl) ?_
    refine lv_bipush (v := 12) hx hb dX5_becomeHigh_19 (by decide) ?_
    refine lv_icmp_gt (tgt := 65) hx hb dX5_becomeHigh_21 (by decide) (fun c_3 => ?_) (fun c_3 => ?_)
    · replace h := (if_pos c_3).symm.trans h
      replace h := Option.some.inj h
      subst q
      exact W.vret hx hb hr (fun t ht hW => ⟨⟨(), rfl, trivial, by rw [← ht] at hP; exact hP⟩, hS.F ht⟩) hS.2.2 dX5_becomeHigh_65
    · replace h := (if_neg c_3).symm.trans h
      refine lv_aload_n hx hb dX5_becomeHigh_24 rfl (lv_at hl 0 rfl) ?_
      refine mk_g5_1 hx hb hts in_X5_becomeHigh_X5 hown hK hP (by decide) rfl (hts (.fieldLink RX5 20 "MixedKernel" "tasks" "[LMixedKernel$Task;") (by decide +kernel)) dX5_becomeHigh_25 ?_
      refine lv_iload_n hx hb dX5_becomeHigh_28 rfl (lv_at hl 1 rfl) ?_
      obtain ⟨i_4, h⟩ := mk_ifn h
      have k_5 := mk_kd_task i_4
      have w_6 := mk_s3 k_5.1
      refine mk_aa hx hb hK hP (by decide) rfl i_4 dX5_becomeHigh_29 ?_
      obtain ⟨r_8, e_7, h⟩ := mk_bind h
      refine va_calli (va_runV (As := []) (rest := []) ⟨hx, hb, hml, hown, hts⟩ (c_X3_isHigh l D E L (16 + 4 * (l1).toNatClampNeg) M (Nat.lt_trans k_5.2 (by decide)) k_5.1 e_7) (cwV 0 hts gX5_becomeHigh_X3_isHigh rfl rfl rfl (by decide +kernel) ⟨Nat.le_of_ble_eq_true rfl, Nat.le_of_ble_eq_true rfl⟩) ⟨mk_W.blind, mk_rc3 hK hP (Nat.lt_trans k_5.2 (by decide)) k_5.1, fun U hU hW => ⟨rfl, mk_W.at hU hW hP hK (hD _ _) hN⟩⟩ rfl rfl hl.1 rfl (lv_room (Nat.le_of_ble_eq_true rfl)) dX5_becomeHigh_30 ⟨Nat.zero_le _, Nat.zero_le _⟩) hS (fun q _ h => h) (fun q h => h) (fun v_18 u t H1 locs ht hvm hw hB hz1 hk1 hS => ?_)
      subst v_18
      rw [ht] at hB
      replace hP := hB
      clear hB hz1 hk1 hvm ht
      generalize H1 = H at hP hS ⊢
      refine lv_if_ne (tgt := 59) hx hb dX5_becomeHigh_33 (by decide) (fun c_9 => ?_) (fun c_9 => ?_)
      · replace h := (if_neg c_9).symm.trans h
        refine lv_iinc (v := l1 + 1) (lv' := [(1, .int (l1 + 1)), (0, .ref (E.1 0))]) hx hb dX5_becomeHigh_59 hl (k := 1) rfl rfl (by decide) rfl (fun ls hl => ?_)
        refine lv_goto (tgt := 18) hx hb dX5_becomeHigh_62 (by decide) ?_
        exact ih (l1 + 1) M _ h _ _ _ hP hS (lv_sub hl [1, 0] rfl)
      · replace h := (if_pos c_9).symm.trans h
        refine lv_aload_n hx hb dX5_becomeHigh_36 rfl (lv_at hl 0 rfl) ?_
        refine lv_dup hx hb dX5_becomeHigh_37 rfl ?_
        refine mk_g5_12 hx hb hts in_X5_becomeHigh_X5 hown hK hP (by decide) rfl (hts (.fieldLink RX5 201 "MixedKernel" "givenUp" "I") (by decide +kernel)) dX5_becomeHigh_38 ?_
        refine lv_aload_n hx hb dX5_becomeHigh_41 rfl (lv_at hl 0 rfl) ?_
        refine mk_g5_1 hx hb hts in_X5_becomeHigh_X5 hown hK hP (by decide) rfl (hts (.fieldLink RX5 20 "MixedKernel" "tasks" "[LMixedKernel$Task;") (by decide +kernel)) dX5_becomeHigh_42 ?_
        refine lv_iload_n hx hb dX5_becomeHigh_45 rfl (lv_at hl 1 rfl) ?_
        obtain ⟨i_10, h⟩ := mk_ifn h
        have k_11 := mk_kd_task i_10
        have w_12 := mk_s3 k_11.1
        refine mk_aa hx hb hK hP (by decide) rfl i_10 dX5_becomeHigh_46 ?_
        obtain ⟨r_14, e_13, h⟩ := mk_bind h
        refine va_calli (va_runV (As := []) (rest := [.int (M 0 12), .ref (E.1 0)]) ⟨hx, hb, hml, hown, hts⟩ (c_X3_giveUpPending l D E L (16 + 4 * (l1).toNatClampNeg) M (Nat.lt_trans k_11.2 (by decide)) k_11.1 e_13) (cwV 0 hts gX5_becomeHigh_X3_giveUpPending rfl rfl rfl (by decide +kernel) ⟨Nat.le_of_ble_eq_true rfl, Nat.le_of_ble_eq_true rfl⟩) ⟨mk_W.blind, mk_rc3 hK hP (Nat.lt_trans k_11.2 (by decide)) k_11.1, fun U hU hW => ⟨rfl, mk_W.at hU hW hP hK (hD _ _) hN⟩⟩ rfl rfl hl.1 rfl (lv_room (Nat.le_of_ble_eq_true rfl)) dX5_becomeHigh_47 ⟨Nat.zero_le _, Nat.zero_le _⟩) hS (fun q _ h => h) (fun q h => h) (fun v_17 u t H1 locs ht hvm hw hB hz1 hk1 hS => ?_)
        subst v_17
        rw [ht] at hB
        replace hP := hB
        clear hB hz1 hk1 hvm ht
        generalize H1 = H at hP hS ⊢
        refine lv_iadd hx hb dX5_becomeHigh_50 ?_
        refine mk_p5_12 hx hb hts in_X5_becomeHigh_X5 hown hK hP (by decide) rfl (hD _ _) hS (hts (.fieldLink RX5 201 "MixedKernel" "givenUp" "I") (by decide +kernel)) dX5_becomeHigh_51 (fun H locs hP hS => ?_)
        refine lv_aload_n hx hb dX5_becomeHigh_54 rfl (lv_at hl 0 rfl) ?_
        refine lv_iload_n hx hb dX5_becomeHigh_55 rfl (lv_at hl 1 rfl) ?_
        obtain ⟨r_16, e_15, h⟩ := mk_bind h
        refine va_callv (va_runV (As := [.int l1]) (rest := []) ⟨hx, hb, hml, hown, hts⟩ (c_X5_forgetIfLeft l D E L l1 (mk_st r_14.2 0 12 ((M 0 12) + r_14.1))  e_15) (cwV 1 hts gX5_becomeHigh_X5_forgetIfLeft rfl rfl rfl (by decide +kernel) ⟨Nat.le_of_ble_eq_true rfl, Nat.le_of_ble_eq_true rfl⟩) ⟨mk_W.blind, mk_rc5 hK hP (by decide) rfl, fun U hU hW => ⟨rfl, mk_W.at hU hW hP hK (hD _ _) hN⟩⟩ rfl rfl hl.1 rfl (lv_room (Nat.le_of_ble_eq_true rfl)) dX5_becomeHigh_56 ⟨Nat.zero_le _, Nat.zero_le _⟩) hS (fun q _ h => h) (fun q h => h) (fun u t H1 locs ht hvm hw hB hz1 hk1 hS => ?_)
        rw [ht] at hB
        replace hP := hB
        clear hB hz1 hk1 hvm ht
        generalize H1 = H at hP hS ⊢
        refine lv_iinc (v := l1 + 1) (lv' := [(1, .int (l1 + 1)), (0, .ref (E.1 0))]) hx hb dX5_becomeHigh_59 hl (k := 1) rfl rfl (by decide) rfl (fun ls hl => ?_)
        refine lv_goto (tgt := 18) hx hb dX5_becomeHigh_62 (by decide) ?_
        exact ih (l1 + 1) r_16 _ h _ _ _ hP hS (lv_sub hl [1, 0] rfl)
def f_X5_becomeHigh (M : mk_M) : Option (mk_M) := ((f_X0_put 14 ((mk_st M 0 8 1) 0 9) (mk_st M 0 8 1)).bind (fun r_2 => (f_X5_becomeHigh_18 mk_F 1 r_2)))
set_option maxHeartbeats 4000000 in
set_option maxRecDepth 100000 in
theorem c_X5_becomeHigh (l : Launch) (D : va_G) (E : mk_E) (L : Nat → Int64) (M : mk_M) {q : mk_M} (h : f_X5_becomeHigh M = some q) : Met l yX5_becomeHigh wsX5_becomeHigh rm_X5_becomeHigh (va_Pc [.ref (E.1 0)] (mk_W D E M L)) (mk_Qv D E L q) 0 0 (mk_A E) := by
  refine Met.ofW (cc := cX5_becomeHigh) (maxL := 2) (ret := none) (by decide) rfl ?_
  intro p e s m args below meth c s₁ B hml hv
  obtain ⟨rfl, hP, hK, hD0, hN⟩ := hv
  have hx := B.exec
  have hb := B.bytes
  have hr := B.returns
  have hts := atoms_spec (ws := wsX5_becomeHigh) B.pre
  have hown : s.vm.findClass RX5 = some m.cls := findClass_of_methodNamed B.named
  have hlk := B.notSynchronized
  have hD : ∀ (M : mk_M) (L : Nat → Int64), va_D (mk_A E) (mk_wl E M L) := fun _ _ => mk_D hD0
  have C0 : mk_C p s m [.ref (E.1 0)].toArray meth c cX5_becomeHigh 2 wsX5_becomeHigh RX5 none D E := ⟨hx, hb, hml, hown, hts, hr, hlk, hK, hD, hN⟩
  have hS : va_S (mk_A E) s.heap s.heap [] := va_S.rf
  have hl := lv_entry ([.ref (E.1 0)]) (n := 2) (Nat.le_of_ble_eq_true rfl)
  rw [lg_entry_eq]
  generalize (lg_sl ([.ref (E.1 0)]) ++ List.replicate (2 - (lg_sl ([.ref (E.1 0)])).length) Slot.unset).toArray = ls at hl ⊢
  have hl : lv_has ls 2 [(0, .ref (E.1 0))] := hl
  replace h : ((f_X0_put 14 ((mk_st M 0 8 1) 0 9) (mk_st M 0 8 1)).bind (fun r_2 => (f_X5_becomeHigh_18 mk_F 1 r_2))) = some q := h
  refine lv_aload_n hx hb dX5_becomeHigh_0 rfl (lv_at hl 0 rfl) ?_
  refine lv_iconst (v := 1) hx hb dX5_becomeHigh_1 (by decide) ?_
  refine mk_p5_8 hx hb hts in_X5_becomeHigh_X5 hown hK hP (by decide) rfl (hD _ _) hS (by decide) (by decide) (hts (.fieldLink RX5 123 "MixedKernel" "highMode" "Z") (by decide +kernel)) dX5_becomeHigh_2 (fun H locs hP hS => ?_)
  refine lv_aload_n hx hb dX5_becomeHigh_5 rfl (lv_at hl 0 rfl) ?_
  refine mk_g5_7 hx hb hts in_X5_becomeHigh_X5 hown hK hP (by decide) rfl (hts (.fieldLink RX5 52 "MixedKernel" "changes" "LMixedKernel$Latest;") (by decide +kernel)) dX5_becomeHigh_6 ?_
  refine lv_aload_n hx hb dX5_becomeHigh_9 rfl (lv_at hl 0 rfl) ?_
  refine mk_g5_9 hx hb hts in_X5_becomeHigh_X5 hown hK hP (by decide) rfl (hts (.fieldLink RX5 113 "MixedKernel" "time" "I") (by decide +kernel)) dX5_becomeHigh_10 ?_
  obtain ⟨r_2, e_1, h⟩ := mk_bind h
  refine va_callv (va_runV (As := [.int ((mk_st M 0 8 1) 0 9)]) (rest := []) ⟨hx, hb, hml, hown, hts⟩ (c_X0_put l D E L 14 ((mk_st M 0 8 1) 0 9) (mk_st M 0 8 1) (by decide) rfl e_1) (cwV 1 hts gX5_becomeHigh_X0_put rfl rfl rfl (by decide +kernel) ⟨Nat.le_of_ble_eq_true rfl, Nat.le_of_ble_eq_true rfl⟩) ⟨mk_W.blind, mk_rc0 hK hP (by decide) rfl, fun U hU hW => ⟨rfl, mk_W.at hU hW hP hK (hD _ _) hN⟩⟩ rfl rfl hl.1 rfl (lv_room (Nat.le_of_ble_eq_true rfl)) dX5_becomeHigh_13 ⟨Nat.zero_le _, Nat.zero_le _⟩) hS (fun q _ h => h) (fun q h => h) (fun u t H1 locs ht hvm hw hB hz1 hk1 hS => ?_)
  rw [ht] at hB
  replace hP := hB
  clear hB hz1 hk1 hvm ht
  generalize H1 = H at hP hS ⊢
  refine lv_iconst (v := 1) hx hb dX5_becomeHigh_16 (by decide) ?_
  refine lv_istore_n (lv' := [(1, .int 1), (0, .ref (E.1 0))]) hx hb dX5_becomeHigh_17 rfl hl (by decide) rfl (fun ls hl => ?_)
  exact w_X5_becomeHigh_18 C0 mk_F 1 r_2 _ h _ _ _ hP hS (lv_sub hl [1, 0] rfl)
abbrev rm_X5_charge : Room := { frames := 4, cells := 0, slots := 0, locals := 88 }
theorem in_X5_charge_X3 : ∀ w ∈ wsX30, w ∈ wsX5_charge := by decide +kernel
theorem in_X5_charge_X5 : ∀ w ∈ wsX50, w ∈ wsX5_charge := by decide +kernel
def f_X5_charge (a1 : Int32) (M : mk_M) : Option (mk_M) := (if mk_ob a1 13 then none else ((f_X3_chargeFirst (16 + 4 * (a1).toNatClampNeg) (M 0 9) M).bind (fun r_5 => (if r_5.1 = 0 then (if (r_5.2 0 8) = 0 then ((f_X3_isHigh (16 + 4 * (a1).toNatClampNeg) r_5.2).bind (fun r_13 => (if r_13 = 0 then ((f_X5_forgetIfLeft a1 r_5.2).bind (fun r_16 => (some r_16))) else (if (r_5.2 (16 + 4 * (a1).toNatClampNeg) 10) = (r_5.2 (16 + 4 * (a1).toNatClampNeg) 2) then ((f_X5_becomeHigh r_5.2).bind (fun r_21 => ((f_X5_forgetIfLeft a1 r_21).bind (fun r_23 => (some r_23))))) else ((f_X5_forgetIfLeft a1 r_5.2).bind (fun r_19 => (some r_19))))))) else ((f_X5_forgetIfLeft a1 r_5.2).bind (fun r_11 => (some r_11)))) else ((f_X5_forgetIfLeft a1 r_5.2).bind (fun r_8 => (some r_8)))))))
set_option maxHeartbeats 4000000 in
set_option maxRecDepth 100000 in
theorem c_X5_charge (l : Launch) (D : va_G) (E : mk_E) (L : Nat → Int64) (a1 : Int32) (M : mk_M) {q : mk_M} (h : f_X5_charge a1 M = some q) : Met l yX5_charge wsX5_charge rm_X5_charge (va_Pc [.ref (E.1 0), .int a1] (mk_W D E M L)) (mk_Qv D E L q) 0 0 (mk_A E) := by
  refine Met.ofW (cc := cX5_charge) (maxL := 4) (ret := none) (by decide) rfl ?_
  intro p e s m args below meth c s₁ B hml hv
  obtain ⟨rfl, hP, hK, hD0, hN⟩ := hv
  have hx := B.exec
  have hb := B.bytes
  have hr := B.returns
  have hts := atoms_spec (ws := wsX5_charge) B.pre
  have hown : s.vm.findClass RX5 = some m.cls := findClass_of_methodNamed B.named
  have hlk := B.notSynchronized
  have hD : ∀ (M : mk_M) (L : Nat → Int64), va_D (mk_A E) (mk_wl E M L) := fun _ _ => mk_D hD0
  have C0 : mk_C p s m [.ref (E.1 0), .int a1].toArray meth c cX5_charge 4 wsX5_charge RX5 none D E := ⟨hx, hb, hml, hown, hts, hr, hlk, hK, hD, hN⟩
  have hS : va_S (mk_A E) s.heap s.heap [] := va_S.rf
  have hl := lv_entry ([.ref (E.1 0), .int a1]) (n := 4) (Nat.le_of_ble_eq_true rfl)
  rw [lg_entry_eq]
  generalize (lg_sl ([.ref (E.1 0), .int a1]) ++ List.replicate (4 - (lg_sl ([.ref (E.1 0), .int a1])).length) Slot.unset).toArray = ls at hl ⊢
  have hl : lv_has ls 4 [(0, .ref (E.1 0)), (1, .int a1)] := hl
  replace h : (if mk_ob a1 13 then none else ((f_X3_chargeFirst (16 + 4 * (a1).toNatClampNeg) (M 0 9) M).bind (fun r_5 => (if r_5.1 = 0 then (if (r_5.2 0 8) = 0 then ((f_X3_isHigh (16 + 4 * (a1).toNatClampNeg) r_5.2).bind (fun r_13 => (if r_13 = 0 then ((f_X5_forgetIfLeft a1 r_5.2).bind (fun r_16 => (some r_16))) else (if (r_5.2 (16 + 4 * (a1).toNatClampNeg) 10) = (r_5.2 (16 + 4 * (a1).toNatClampNeg) 2) then ((f_X5_becomeHigh r_5.2).bind (fun r_21 => ((f_X5_forgetIfLeft a1 r_21).bind (fun r_23 => (some r_23))))) else ((f_X5_forgetIfLeft a1 r_5.2).bind (fun r_19 => (some r_19))))))) else ((f_X5_forgetIfLeft a1 r_5.2).bind (fun r_11 => (some r_11)))) else ((f_X5_forgetIfLeft a1 r_5.2).bind (fun r_8 => (some r_8))))))) = some q := h
  refine lv_aload_n hx hb dX5_charge_0 rfl (lv_at hl 0 rfl) ?_
  refine mk_g5_1 hx hb hts in_X5_charge_X5 hown hK hP (by decide) rfl (hts (.fieldLink RX5 20 "MixedKernel" "tasks" "[LMixedKernel$Task;") (by decide +kernel)) dX5_charge_1 ?_
  refine lv_iload_n hx hb dX5_charge_4 rfl (lv_at hl 1 rfl) ?_
  obtain ⟨i_1, h⟩ := mk_ifn h
  have k_2 := mk_kd_task i_1
  have w_3 := mk_s3 k_2.1
  refine mk_aa hx hb hK hP (by decide) rfl i_1 dX5_charge_5 ?_
  refine lv_astore_n (lv' := [(2, .ref (E.1 (16 + 4 * (a1).toNatClampNeg))), (0, .ref (E.1 0)), (1, .int a1)]) hx hb dX5_charge_6 rfl hl (by decide) rfl (fun ls hl => ?_)
  refine lv_aload_n hx hb dX5_charge_7 rfl (lv_at hl 0 rfl) ?_
  refine lv_aload_n hx hb dX5_charge_8 rfl (lv_at hl 1 rfl) ?_
  refine mk_g5_9 hx hb hts in_X5_charge_X5 hown hK hP (by decide) rfl (hts (.fieldLink RX5 113 "MixedKernel" "time" "I") (by decide +kernel)) dX5_charge_9 ?_
  obtain ⟨r_5, e_4, h⟩ := mk_bind h
  refine va_calli (va_runV (As := [.int (M 0 9)]) (rest := []) ⟨hx, hb, hml, hown, hts⟩ (c_X3_chargeFirst l D E L (16 + 4 * (a1).toNatClampNeg) (M 0 9) M (Nat.lt_trans k_2.2 (by decide)) k_2.1 e_4) (cwV 1 hts gX5_charge_X3_chargeFirst rfl rfl rfl (by decide +kernel) ⟨Nat.le_of_ble_eq_true rfl, Nat.le_of_ble_eq_true rfl⟩) ⟨mk_W.blind, mk_rc3 hK hP (Nat.lt_trans k_2.2 (by decide)) k_2.1, fun U hU hW => ⟨rfl, mk_W.at hU hW hP hK (hD _ _) hN⟩⟩ rfl rfl hl.1 rfl (lv_room (Nat.le_of_ble_eq_true rfl)) dX5_charge_12 ⟨Nat.zero_le _, Nat.zero_le _⟩) hS (fun q _ h => h) (fun q h => h) (fun v_25 u t H1 locs ht hvm hw hB hz1 hk1 hS => ?_)
  subst v_25
  rw [ht] at hB
  replace hP := hB
  clear hB hz1 hk1 hvm ht
  generalize H1 = H at hP hS ⊢
  refine lv_istore_n (lv' := [(3, .int r_5.1), (2, .ref (E.1 (16 + 4 * (a1).toNatClampNeg))), (0, .ref (E.1 0)), (1, .int a1)]) hx hb dX5_charge_15 rfl hl (by decide) rfl (fun ls hl => ?_)
  refine lv_iload_n hx hb dX5_charge_16 rfl (lv_at hl 0 rfl) ?_
  refine lv_if_ne (tgt := 49) hx hb dX5_charge_17 (by decide) (fun c_6 => ?_) (fun c_6 => ?_)
  · replace h := (if_neg c_6).symm.trans h
    refine lv_aload_n hx hb dX5_charge_49 rfl (lv_at hl 2 rfl) ?_
    refine lv_iload_n hx hb dX5_charge_50 rfl (lv_at hl 3 rfl) ?_
    obtain ⟨r_8, e_7, h⟩ := mk_bind h
    refine va_callv (va_runV (As := [.int a1]) (rest := []) ⟨hx, hb, hml, hown, hts⟩ (c_X5_forgetIfLeft l D E L a1 r_5.2  e_7) (cwV 1 hts gX5_charge_X5_forgetIfLeft rfl rfl rfl (by decide +kernel) ⟨Nat.le_of_ble_eq_true rfl, Nat.le_of_ble_eq_true rfl⟩) ⟨mk_W.blind, mk_rc5 hK hP (by decide) rfl, fun U hU hW => ⟨rfl, mk_W.at hU hW hP hK (hD _ _) hN⟩⟩ rfl rfl hl.1 rfl (lv_room (Nat.le_of_ble_eq_true rfl)) dX5_charge_51 ⟨Nat.zero_le _, Nat.zero_le _⟩) hS (fun q _ h => h) (fun q h => h) (fun u t H1 locs ht hvm hw hB hz1 hk1 hS => ?_)
    rw [ht] at hB
    replace hP := hB
    clear hB hz1 hk1 hvm ht
    generalize H1 = H at hP hS ⊢
    replace h := Option.some.inj h
    subst q
    exact W.vret hx hb hr (fun t ht hW => ⟨⟨(), rfl, trivial, by rw [← ht] at hP; exact hP⟩, hS.F ht⟩) hS.2.2 dX5_charge_54
  · replace h := (if_pos c_6).symm.trans h
    refine lv_aload_n hx hb dX5_charge_20 rfl (lv_at hl 2 rfl) ?_
    refine mk_g5_8 hx hb hts in_X5_charge_X5 hown hK hP (by decide) rfl (hts (.fieldLink RX5 123 "MixedKernel" "highMode" "Z") (by decide +kernel)) dX5_charge_21 ?_
    refine lv_if_ne (tgt := 49) hx hb dX5_charge_24 (by decide) (fun c_9 => ?_) (fun c_9 => ?_)
    · replace h := (if_neg c_9).symm.trans h
      refine lv_aload_n hx hb dX5_charge_49 rfl (lv_at hl 2 rfl) ?_
      refine lv_iload_n hx hb dX5_charge_50 rfl (lv_at hl 3 rfl) ?_
      obtain ⟨r_11, e_10, h⟩ := mk_bind h
      refine va_callv (va_runV (As := [.int a1]) (rest := []) ⟨hx, hb, hml, hown, hts⟩ (c_X5_forgetIfLeft l D E L a1 r_5.2  e_10) (cwV 1 hts gX5_charge_X5_forgetIfLeft rfl rfl rfl (by decide +kernel) ⟨Nat.le_of_ble_eq_true rfl, Nat.le_of_ble_eq_true rfl⟩) ⟨mk_W.blind, mk_rc5 hK hP (by decide) rfl, fun U hU hW => ⟨rfl, mk_W.at hU hW hP hK (hD _ _) hN⟩⟩ rfl rfl hl.1 rfl (lv_room (Nat.le_of_ble_eq_true rfl)) dX5_charge_51 ⟨Nat.zero_le _, Nat.zero_le _⟩) hS (fun q _ h => h) (fun q h => h) (fun u t H1 locs ht hvm hw hB hz1 hk1 hS => ?_)
      rw [ht] at hB
      replace hP := hB
      clear hB hz1 hk1 hvm ht
      generalize H1 = H at hP hS ⊢
      replace h := Option.some.inj h
      subst q
      exact W.vret hx hb hr (fun t ht hW => ⟨⟨(), rfl, trivial, by rw [← ht] at hP; exact hP⟩, hS.F ht⟩) hS.2.2 dX5_charge_54
    · replace h := (if_pos c_9).symm.trans h
      refine lv_aload_n hx hb dX5_charge_27 rfl (lv_at hl 1 rfl) ?_
      obtain ⟨r_13, e_12, h⟩ := mk_bind h
      refine va_calli (va_runV (As := []) (rest := []) ⟨hx, hb, hml, hown, hts⟩ (c_X3_isHigh l D E L (16 + 4 * (a1).toNatClampNeg) r_5.2 (Nat.lt_trans k_2.2 (by decide)) k_2.1 e_12) (cwV 0 hts gX5_charge_X3_isHigh rfl rfl rfl (by decide +kernel) ⟨Nat.le_of_ble_eq_true rfl, Nat.le_of_ble_eq_true rfl⟩) ⟨mk_W.blind, mk_rc3 hK hP (Nat.lt_trans k_2.2 (by decide)) k_2.1, fun U hU hW => ⟨rfl, mk_W.at hU hW hP hK (hD _ _) hN⟩⟩ rfl rfl hl.1 rfl (lv_room (Nat.le_of_ble_eq_true rfl)) dX5_charge_28 ⟨Nat.zero_le _, Nat.zero_le _⟩) hS (fun q _ h => h) (fun q h => h) (fun v_24 u t H1 locs ht hvm hw hB hz1 hk1 hS => ?_)
      subst v_24
      rw [ht] at hB
      replace hP := hB
      clear hB hz1 hk1 hvm ht
      generalize H1 = H at hP hS ⊢
      refine lv_if_eq (tgt := 49) hx hb dX5_charge_31 (by decide) (fun c_14 => ?_) (fun c_14 => ?_)
      · replace h := (if_pos c_14).symm.trans h
        refine lv_aload_n hx hb dX5_charge_49 rfl (lv_at hl 2 rfl) ?_
        refine lv_iload_n hx hb dX5_charge_50 rfl (lv_at hl 3 rfl) ?_
        obtain ⟨r_16, e_15, h⟩ := mk_bind h
        refine va_callv (va_runV (As := [.int a1]) (rest := []) ⟨hx, hb, hml, hown, hts⟩ (c_X5_forgetIfLeft l D E L a1 r_5.2  e_15) (cwV 1 hts gX5_charge_X5_forgetIfLeft rfl rfl rfl (by decide +kernel) ⟨Nat.le_of_ble_eq_true rfl, Nat.le_of_ble_eq_true rfl⟩) ⟨mk_W.blind, mk_rc5 hK hP (by decide) rfl, fun U hU hW => ⟨rfl, mk_W.at hU hW hP hK (hD _ _) hN⟩⟩ rfl rfl hl.1 rfl (lv_room (Nat.le_of_ble_eq_true rfl)) dX5_charge_51 ⟨Nat.zero_le _, Nat.zero_le _⟩) hS (fun q _ h => h) (fun q h => h) (fun u t H1 locs ht hvm hw hB hz1 hk1 hS => ?_)
        rw [ht] at hB
        replace hP := hB
        clear hB hz1 hk1 hvm ht
        generalize H1 = H at hP hS ⊢
        replace h := Option.some.inj h
        subst q
        exact W.vret hx hb hr (fun t ht hW => ⟨⟨(), rfl, trivial, by rw [← ht] at hP; exact hP⟩, hS.F ht⟩) hS.2.2 dX5_charge_54
      · replace h := (if_neg c_14).symm.trans h
        refine lv_aload_n hx hb dX5_charge_34 rfl (lv_at hl 1 rfl) ?_
        refine mk_n3_10 hx hb hts in_X5_charge_X3 hown hK hP (Nat.lt_trans k_2.2 (by decide)) k_2.1 (va_Nw.use rfl (hN (.fieldLinkNest "MixedKernel" 244 "MixedKernel$Task" "charged" "I" "MixedKernel") (by decide +kernel))) dX5_charge_35 ?_
        refine lv_aload_n hx hb dX5_charge_38 rfl (lv_at hl 1 rfl) ?_
        refine mk_n3_2 hx hb hts in_X5_charge_X3 hown hK hP (Nat.lt_trans k_2.2 (by decide)) k_2.1 (va_Nw.use rfl (hN (.fieldLinkNest "MixedKernel" 247 "MixedKernel$Task" "low" "I" "MixedKernel") (by decide +kernel))) dX5_charge_39 ?_
        refine lv_icmp_ne (tgt := 49) hx hb dX5_charge_42 (by decide) (fun c_17 => ?_) (fun c_17 => ?_)
        · replace h := (if_neg c_17).symm.trans h
          refine lv_aload_n hx hb dX5_charge_49 rfl (lv_at hl 2 rfl) ?_
          refine lv_iload_n hx hb dX5_charge_50 rfl (lv_at hl 3 rfl) ?_
          obtain ⟨r_19, e_18, h⟩ := mk_bind h
          refine va_callv (va_runV (As := [.int a1]) (rest := []) ⟨hx, hb, hml, hown, hts⟩ (c_X5_forgetIfLeft l D E L a1 r_5.2  e_18) (cwV 1 hts gX5_charge_X5_forgetIfLeft rfl rfl rfl (by decide +kernel) ⟨Nat.le_of_ble_eq_true rfl, Nat.le_of_ble_eq_true rfl⟩) ⟨mk_W.blind, mk_rc5 hK hP (by decide) rfl, fun U hU hW => ⟨rfl, mk_W.at hU hW hP hK (hD _ _) hN⟩⟩ rfl rfl hl.1 rfl (lv_room (Nat.le_of_ble_eq_true rfl)) dX5_charge_51 ⟨Nat.zero_le _, Nat.zero_le _⟩) hS (fun q _ h => h) (fun q h => h) (fun u t H1 locs ht hvm hw hB hz1 hk1 hS => ?_)
          rw [ht] at hB
          replace hP := hB
          clear hB hz1 hk1 hvm ht
          generalize H1 = H at hP hS ⊢
          replace h := Option.some.inj h
          subst q
          exact W.vret hx hb hr (fun t ht hW => ⟨⟨(), rfl, trivial, by rw [← ht] at hP; exact hP⟩, hS.F ht⟩) hS.2.2 dX5_charge_54
        · replace h := (if_pos c_17).symm.trans h
          refine lv_aload_n hx hb dX5_charge_45 rfl (lv_at hl 2 rfl) ?_
          obtain ⟨r_21, e_20, h⟩ := mk_bind h
          refine va_callv (va_runV (As := []) (rest := []) ⟨hx, hb, hml, hown, hts⟩ (c_X5_becomeHigh l D E L  r_5.2  e_20) (cwV 0 hts gX5_charge_X5_becomeHigh rfl rfl rfl (by decide +kernel) ⟨Nat.le_of_ble_eq_true rfl, Nat.le_of_ble_eq_true rfl⟩) ⟨mk_W.blind, mk_rc5 hK hP (by decide) rfl, fun U hU hW => ⟨rfl, mk_W.at hU hW hP hK (hD _ _) hN⟩⟩ rfl rfl hl.1 rfl (lv_room (Nat.le_of_ble_eq_true rfl)) dX5_charge_46 ⟨Nat.zero_le _, Nat.zero_le _⟩) hS (fun q _ h => h) (fun q h => h) (fun u t H1 locs ht hvm hw hB hz1 hk1 hS => ?_)
          rw [ht] at hB
          replace hP := hB
          clear hB hz1 hk1 hvm ht
          generalize H1 = H at hP hS ⊢
          refine lv_aload_n hx hb dX5_charge_49 rfl (lv_at hl 2 rfl) ?_
          refine lv_iload_n hx hb dX5_charge_50 rfl (lv_at hl 3 rfl) ?_
          obtain ⟨r_23, e_22, h⟩ := mk_bind h
          refine va_callv (va_runV (As := [.int a1]) (rest := []) ⟨hx, hb, hml, hown, hts⟩ (c_X5_forgetIfLeft l D E L a1 r_21  e_22) (cwV 1 hts gX5_charge_X5_forgetIfLeft rfl rfl rfl (by decide +kernel) ⟨Nat.le_of_ble_eq_true rfl, Nat.le_of_ble_eq_true rfl⟩) ⟨mk_W.blind, mk_rc5 hK hP (by decide) rfl, fun U hU hW => ⟨rfl, mk_W.at hU hW hP hK (hD _ _) hN⟩⟩ rfl rfl hl.1 rfl (lv_room (Nat.le_of_ble_eq_true rfl)) dX5_charge_51 ⟨Nat.zero_le _, Nat.zero_le _⟩) hS (fun q _ h => h) (fun q h => h) (fun u t H1 locs ht hvm hw hB hz1 hk1 hS => ?_)
          rw [ht] at hB
          replace hP := hB
          clear hB hz1 hk1 hvm ht
          generalize H1 = H at hP hS ⊢
          replace h := Option.some.inj h
          subst q
          exact W.vret hx hb hr (fun t ht hW => ⟨⟨(), rfl, trivial, by rw [← ht] at hP; exact hP⟩, hS.F ht⟩) hS.2.2 dX5_charge_54
abbrev rm_X5_advance : Room := { frames := 5, cells := 0, slots := 0, locals := 111 }
theorem in_X5_advance_X5 : ∀ w ∈ wsX50, w ∈ wsX5_advance := by decide +kernel
def f_X5_advance (M : mk_M) : Option (Int32 × mk_M) := ((f_X5_firstToRun M).bind (fun r_2 => ((f_X0_put 12 r_2 (mk_st M 0 9 ((M 0 9) + 1))).bind (fun r_4 => (if r_2 = 0 then ((f_X5_settle r_4).bind (fun r_9 => (some (r_2, r_9)))) else ((f_X5_charge r_2 r_4).bind (fun r_7 => (some (r_2, r_7)))))))))
set_option maxHeartbeats 4000000 in
set_option maxRecDepth 100000 in
theorem c_X5_advance (l : Launch) (D : va_G) (E : mk_E) (L : Nat → Int64) (M : mk_M) {q : Int32 × mk_M} (h : f_X5_advance M = some q) : Met l yX5_advance wsX5_advance rm_X5_advance (va_Pc [.ref (E.1 0)] (mk_W D E M L)) (mk_Qi D E L q.1 q.2) 0 0 (mk_A E) := by
  refine Met.ofW (cc := cX5_advance) (maxL := 2) (ret := (some .int)) (by decide) rfl ?_
  intro p e s m args below meth c s₁ B hml hv
  obtain ⟨rfl, hP, hK, hD0, hN⟩ := hv
  have hx := B.exec
  have hb := B.bytes
  have hr := B.returns
  have hts := atoms_spec (ws := wsX5_advance) B.pre
  have hown : s.vm.findClass RX5 = some m.cls := findClass_of_methodNamed B.named
  have hlk := B.notSynchronized
  have hD : ∀ (M : mk_M) (L : Nat → Int64), va_D (mk_A E) (mk_wl E M L) := fun _ _ => mk_D hD0
  have C0 : mk_C p s m [.ref (E.1 0)].toArray meth c cX5_advance 2 wsX5_advance RX5 (some .int) D E := ⟨hx, hb, hml, hown, hts, hr, hlk, hK, hD, hN⟩
  have hS : va_S (mk_A E) s.heap s.heap [] := va_S.rf
  have hl := lv_entry ([.ref (E.1 0)]) (n := 2) (Nat.le_of_ble_eq_true rfl)
  rw [lg_entry_eq]
  generalize (lg_sl ([.ref (E.1 0)]) ++ List.replicate (2 - (lg_sl ([.ref (E.1 0)])).length) Slot.unset).toArray = ls at hl ⊢
  have hl : lv_has ls 2 [(0, .ref (E.1 0))] := hl
  replace h : ((f_X5_firstToRun M).bind (fun r_2 => ((f_X0_put 12 r_2 (mk_st M 0 9 ((M 0 9) + 1))).bind (fun r_4 => (if r_2 = 0 then ((f_X5_settle r_4).bind (fun r_9 => (some (r_2, r_9)))) else ((f_X5_charge r_2 r_4).bind (fun r_7 => (some (r_2, r_7))))))))) = some q := h
  refine lv_aload_n hx hb dX5_advance_0 rfl (lv_at hl 0 rfl) ?_
  obtain ⟨r_2, e_1, h⟩ := mk_bind h
  refine va_calli (va_runV (As := []) (rest := []) ⟨hx, hb, hml, hown, hts⟩ (c_X5_firstToRun l D E L  M  e_1) (cwV 0 hts gX5_advance_X5_firstToRun rfl rfl rfl (by decide +kernel) ⟨Nat.le_of_ble_eq_true rfl, Nat.le_of_ble_eq_true rfl⟩) ⟨mk_W.blind, mk_rc5 hK hP (by decide) rfl, fun U hU hW => ⟨rfl, mk_W.at hU hW hP hK (hD _ _) hN⟩⟩ rfl rfl hl.1 rfl (lv_room (Nat.le_of_ble_eq_true rfl)) dX5_advance_1 ⟨Nat.zero_le _, Nat.zero_le _⟩) hS (fun q _ h => h) (fun q h => h) (fun v_10 u t H1 locs ht hvm hw hB hz1 hk1 hS => ?_)
  subst v_10
  rw [ht] at hB
  replace hP := hB
  clear hB hz1 hk1 hvm ht
  generalize H1 = H at hP hS ⊢
  refine lv_istore_n (lv' := [(1, .int r_2), (0, .ref (E.1 0))]) hx hb dX5_advance_4 rfl hl (by decide) rfl (fun ls hl => ?_)
  refine lv_aload_n hx hb dX5_advance_5 rfl (lv_at hl 1 rfl) ?_
  refine lv_dup hx hb dX5_advance_6 rfl ?_
  refine mk_g5_9 hx hb hts in_X5_advance_X5 hown hK hP (by decide) rfl (hts (.fieldLink RX5 113 "MixedKernel" "time" "I") (by decide +kernel)) dX5_advance_7 ?_
  refine lv_iconst (v := 1) hx hb dX5_advance_10 (by decide) ?_
  refine lv_iadd hx hb dX5_advance_11 ?_
  refine mk_p5_9 hx hb hts in_X5_advance_X5 hown hK hP (by decide) rfl (hD _ _) hS (hts (.fieldLink RX5 113 "MixedKernel" "time" "I") (by decide +kernel)) dX5_advance_12 (fun H locs hP hS => ?_)
  refine lv_aload_n hx hb dX5_advance_15 rfl (lv_at hl 1 rfl) ?_
  refine mk_g5_6 hx hb hts in_X5_advance_X5 hown hK hP (by decide) rfl (hts (.fieldLink RX5 48 "MixedKernel" "ran" "LMixedKernel$Latest;") (by decide +kernel)) dX5_advance_16 ?_
  refine lv_iload_n hx hb dX5_advance_19 rfl (lv_at hl 0 rfl) ?_
  obtain ⟨r_4, e_3, h⟩ := mk_bind h
  refine va_callv (va_runV (As := [.int r_2]) (rest := []) ⟨hx, hb, hml, hown, hts⟩ (c_X0_put l D E L 12 r_2 (mk_st M 0 9 ((M 0 9) + 1)) (by decide) rfl e_3) (cwV 1 hts gX5_advance_X0_put rfl rfl rfl (by decide +kernel) ⟨Nat.le_of_ble_eq_true rfl, Nat.le_of_ble_eq_true rfl⟩) ⟨mk_W.blind, mk_rc0 hK hP (by decide) rfl, fun U hU hW => ⟨rfl, mk_W.at hU hW hP hK (hD _ _) hN⟩⟩ rfl rfl hl.1 rfl (lv_room (Nat.le_of_ble_eq_true rfl)) dX5_advance_20 ⟨Nat.zero_le _, Nat.zero_le _⟩) hS (fun q _ h => h) (fun q h => h) (fun u t H1 locs ht hvm hw hB hz1 hk1 hS => ?_)
  rw [ht] at hB
  replace hP := hB
  clear hB hz1 hk1 hvm ht
  generalize H1 = H at hP hS ⊢
  refine lv_iload_n hx hb dX5_advance_23 rfl (lv_at hl 0 rfl) ?_
  refine lv_if_ne (tgt := 34) hx hb dX5_advance_24 (by decide) (fun c_5 => ?_) (fun c_5 => ?_)
  · replace h := (if_neg c_5).symm.trans h
    refine lv_aload_n hx hb dX5_advance_34 rfl (lv_at hl 1 rfl) ?_
    refine lv_iload_n hx hb dX5_advance_35 rfl (lv_at hl 0 rfl) ?_
    obtain ⟨r_7, e_6, h⟩ := mk_bind h
    refine va_callv (va_runV (As := [.int r_2]) (rest := []) ⟨hx, hb, hml, hown, hts⟩ (c_X5_charge l D E L r_2 r_4  e_6) (cwV 1 hts gX5_advance_X5_charge rfl rfl rfl (by decide +kernel) ⟨Nat.le_of_ble_eq_true rfl, Nat.le_of_ble_eq_true rfl⟩) ⟨mk_W.blind, mk_rc5 hK hP (by decide) rfl, fun U hU hW => ⟨rfl, mk_W.at hU hW hP hK (hD _ _) hN⟩⟩ rfl rfl hl.1 rfl (lv_room (Nat.le_of_ble_eq_true rfl)) dX5_advance_36 ⟨Nat.zero_le _, Nat.zero_le _⟩) hS (fun q _ h => h) (fun q h => h) (fun u t H1 locs ht hvm hw hB hz1 hk1 hS => ?_)
    rw [ht] at hB
    replace hP := hB
    clear hB hz1 hk1 hvm ht
    generalize H1 = H at hP hS ⊢
    refine lv_iload_n hx hb dX5_advance_39 rfl (lv_at hl 0 rfl) ?_
    replace h := Option.some.inj h
    subst q
    exact W.iret (v := r_2) hx hb hr (fun t ht hW => ⟨⟨_, (), rfl, rfl, by rw [← ht] at hP; exact hP⟩, hS.F ht⟩) hS.2.2 dX5_advance_40
  · replace h := (if_pos c_5).symm.trans h
    refine lv_aload_n hx hb dX5_advance_27 rfl (lv_at hl 1 rfl) ?_
    obtain ⟨r_9, e_8, h⟩ := mk_bind h
    refine va_callv (va_runV (As := []) (rest := []) ⟨hx, hb, hml, hown, hts⟩ (c_X5_settle l D E L  r_4  e_8) (cwV 0 hts gX5_advance_X5_settle rfl rfl rfl (by decide +kernel) ⟨Nat.le_of_ble_eq_true rfl, Nat.le_of_ble_eq_true rfl⟩) ⟨mk_W.blind, mk_rc5 hK hP (by decide) rfl, fun U hU hW => ⟨rfl, mk_W.at hU hW hP hK (hD _ _) hN⟩⟩ rfl rfl hl.1 rfl (lv_room (Nat.le_of_ble_eq_true rfl)) dX5_advance_28 ⟨Nat.zero_le _, Nat.zero_le _⟩) hS (fun q _ h => h) (fun q h => h) (fun u t H1 locs ht hvm hw hB hz1 hk1 hS => ?_)
    rw [ht] at hB
    replace hP := hB
    clear hB hz1 hk1 hvm ht
    generalize H1 = H at hP hS ⊢
    refine lv_goto (tgt := 39) hx hb dX5_advance_31 (by decide) ?_
    refine lv_iload_n hx hb dX5_advance_39 rfl (lv_at hl 0 rfl) ?_
    replace h := Option.some.inj h
    subst q
    exact W.iret (v := r_2) hx hb hr (fun t ht hW => ⟨⟨_, (), rfl, rfl, by rw [← ht] at hP; exact hP⟩, hS.F ht⟩) hS.2.2 dX5_advance_40
abbrev rm_X5_tick : Room := { frames := 6, cells := 0, slots := 0, locals := 132 }
def f_X5_tick (M : mk_M) : Option (Int32 × mk_M) := ((f_X5_advance M).bind (fun r_2 => (some (r_2.1, r_2.2))))
set_option maxHeartbeats 4000000 in
set_option maxRecDepth 100000 in
theorem c_X5_tick (l : Launch) (D : va_G) (E : mk_E) (L : Nat → Int64) (M : mk_M) {q : Int32 × mk_M} (h : f_X5_tick M = some q) : Met l yX5_tick wsX5_tick rm_X5_tick (va_Pc [.ref (E.1 0)] (mk_W D E M L)) (mk_Qi D E L q.1 q.2) 0 0 (mk_A E) := by
  refine Met.ofW (cc := cX5_tick) (maxL := 1) (ret := (some .int)) (by decide) rfl ?_
  intro p e s m args below meth c s₁ B hml hv
  obtain ⟨rfl, hP, hK, hD0, hN⟩ := hv
  have hx := B.exec
  have hb := B.bytes
  have hr := B.returns
  have hts := atoms_spec (ws := wsX5_tick) B.pre
  have hown : s.vm.findClass RX5 = some m.cls := findClass_of_methodNamed B.named
  have hlk := B.notSynchronized
  have hD : ∀ (M : mk_M) (L : Nat → Int64), va_D (mk_A E) (mk_wl E M L) := fun _ _ => mk_D hD0
  have C0 : mk_C p s m [.ref (E.1 0)].toArray meth c cX5_tick 1 wsX5_tick RX5 (some .int) D E := ⟨hx, hb, hml, hown, hts, hr, hlk, hK, hD, hN⟩
  have hS : va_S (mk_A E) s.heap s.heap [] := va_S.rf
  have hl := lv_entry ([.ref (E.1 0)]) (n := 1) (Nat.le_of_ble_eq_true rfl)
  rw [lg_entry_eq]
  generalize (lg_sl ([.ref (E.1 0)]) ++ List.replicate (1 - (lg_sl ([.ref (E.1 0)])).length) Slot.unset).toArray = ls at hl ⊢
  have hl : lv_has ls 1 [(0, .ref (E.1 0))] := hl
  replace h : ((f_X5_advance M).bind (fun r_2 => (some (r_2.1, r_2.2)))) = some q := h
  refine lv_aload_n hx hb dX5_tick_0 rfl (lv_at hl 0 rfl) ?_
  obtain ⟨r_2, e_1, h⟩ := mk_bind h
  refine va_calli (va_runV (As := []) (rest := []) ⟨hx, hb, hml, hown, hts⟩ (c_X5_advance l D E L  M  e_1) (cwV 0 hts gX5_tick_X5_advance rfl rfl rfl (by decide +kernel) ⟨Nat.le_of_ble_eq_true rfl, Nat.le_of_ble_eq_true rfl⟩) ⟨mk_W.blind, mk_rc5 hK hP (by decide) rfl, fun U hU hW => ⟨rfl, mk_W.at hU hW hP hK (hD _ _) hN⟩⟩ rfl rfl hl.1 rfl (lv_room (Nat.le_of_ble_eq_true rfl)) dX5_tick_1 ⟨Nat.zero_le _, Nat.zero_le _⟩) hS (fun q _ h => h) (fun q h => h) (fun v_3 u t H1 locs ht hvm hw hB hz1 hk1 hS => ?_)
  subst v_3
  rw [ht] at hB
  replace hP := hB
  clear hB hz1 hk1 hvm ht
  generalize H1 = H at hP hS ⊢
  replace h := Option.some.inj h
  subst q
  exact W.iret (v := r_2.1) hx hb hr (fun t ht hW => ⟨⟨_, (), rfl, rfl, by rw [← ht] at hP; exact hP⟩, hS.F ht⟩) hS.2.2 dX5_tick_4
abbrev rm_X5_assign : Room := { frames := 5, cells := 0, slots := 0, locals := 128 }
theorem in_X5_assign_X1 : ∀ w ∈ wsX10, w ∈ wsX5_assign := by decide +kernel
theorem in_X5_assign_X5 : ∀ w ∈ wsX50, w ∈ wsX5_assign := by decide +kernel
def f_X5_assign_21 : Nat → Int32 → mk_M → Option (Int32 × mk_M)
  | 0, _, _ => none
  | n + 1, l1, M => (if l1 < 0 then ((f_X1_become 3 7 M).bind (fun r_5 => (some (1, r_5)))) else ((f_X4_lastThatPasses 7 l1 M).bind (fun r_7 => (if r_7 = (-1) then (some (0, M)) else ((f_X1_moveBack 7 r_7 l1 M).bind (fun r_10 => (f_X5_assign_21 n (l1 + (-1)) r_10)))))))
set_option maxHeartbeats 4000000 in
set_option maxRecDepth 100000 in
theorem w_X5_assign_21 {p : Program} {l : Launch} {e : Env} {s : State} {m : MethodId} {args : Array Value} {below : List Frame} {meth : Method} {c : Code} {D : va_G} {E : mk_E} {L : Nat → Int64} (C0 : mk_C p s m args meth c cX5_assign 3 wsX5_assign RX5 (some .boolean) D E) : ∀ n : Nat, ∀ (l1 : Int32) (M : mk_M) (q : Int32 × mk_M), f_X5_assign_21 n l1 M = some q → ∀ (H : Heap) (locs : List Loc) (ls : Array Slot), va_P D vwCl (mk_wl E M L) H → va_S (mk_A E) s.heap H locs → lv_has ls 3 [(0, .ref (E.1 0)), (1, .int l1)] → W p l e rm_X5_assign s m args below meth c H locs 0 0 (MQ below (mk_Qi D E L q.1 q.2) args s 0 0 (mk_A E)) (F0 m 21 ls []) := by
  obtain ⟨hx, hb, hml, hown, hts, hr, hlk, hK, hD, hN⟩ := id C0
  intro n
  induction n with
  | zero =>
    intro l1 M q h
    cases h
  | succ n ih =>
    intro l1 M q h H locs ls hP hS hl
    replace h : (if l1 < 0 then ((f_X1_become 3 7 M).bind (fun r_5 => (some (1, r_5)))) else ((f_X4_lastThatPasses 7 l1 M).bind (fun r_7 => (if r_7 = (-1) then (some (0, M)) else ((f_X1_moveBack 7 r_7 l1 M).bind (fun r_10 => (f_X5_assign_21 n (l1 + (-1)) r_10))))))) = some q := h
    refine lv_iload_n hx hb dX5_assign_21 rfl (lv_at hl 1 rfl) ?_
    refine lv_if_lt (tgt := 60) hx hb dX5_assign_22 (by decide) (fun c_3 => ?_) (fun c_3 => ?_)
    · replace h := (if_pos c_3).symm.trans h
      refine lv_aload_n hx hb dX5_assign_60 rfl (lv_at hl 0 rfl) ?_
      refine mk_g5_2 hx hb hts in_X5_assign_X5 hown hK hP (by decide) rfl (hts (.fieldLink RX5 26 "MixedKernel" "plan" "LMixedKernel$Line;") (by decide +kernel)) dX5_assign_61 ?_
      refine lv_aload_n hx hb dX5_assign_64 rfl (lv_at hl 0 rfl) ?_
      refine mk_g5_4 hx hb hts in_X5_assign_X5 hown hK hP (by decide) rfl (hts (.fieldLink RX5 33 "MixedKernel" "trial" "LMixedKernel$Line;") (by decide +kernel)) dX5_assign_65 ?_
      obtain ⟨r_5, e_4, h⟩ := mk_bind h
      refine va_callv (va_runV (As := [.ref (E.1 7)]) (rest := []) ⟨hx, hb, hml, hown, hts⟩ (c_X1_become l D E L 3 7 M (by decide) rfl (by decide) rfl e_4) (cwV 1 hts gX5_assign_X1_become rfl rfl rfl (by decide +kernel) ⟨Nat.le_of_ble_eq_true rfl, Nat.le_of_ble_eq_true rfl⟩) ⟨mk_W.blind, mk_rc1 hK hP (by decide) rfl, fun U hU hW => ⟨rfl, mk_W.at hU hW hP hK (hD _ _) hN⟩⟩ rfl rfl hl.1 rfl (lv_room (Nat.le_of_ble_eq_true rfl)) dX5_assign_68 ⟨Nat.zero_le _, Nat.zero_le _⟩) hS (fun q _ h => h) (fun q h => h) (fun u t H1 locs ht hvm hw hB hz1 hk1 hS => ?_)
      rw [ht] at hB
      replace hP := hB
      clear hB hz1 hk1 hvm ht
      generalize H1 = H at hP hS ⊢
      refine lv_iconst (v := 1) hx hb dX5_assign_71 (by decide) ?_
      replace h := Option.some.inj h
      subst q
      exact W.zret (v := 1) hx hb hr rfl (fun t ht hW => ⟨⟨_, (), rfl, rfl, by rw [← ht] at hP; exact hP⟩, hS.F ht⟩) hS.2.2 dX5_assign_72
    · replace h := (if_neg c_3).symm.trans h
      refine lv_aload_n hx hb dX5_assign_25 rfl (lv_at hl 0 rfl) ?_
      refine mk_g5_0 hx hb hts in_X5_assign_X5 hown hK hP (by decide) rfl (hts (.fieldLink RX5 12 "MixedKernel" "set" "LMixedKernel$TaskSet;") (by decide +kernel)) dX5_assign_26 ?_
      refine lv_aload_n hx hb dX5_assign_29 rfl (lv_at hl 0 rfl) ?_
      refine mk_g5_4 hx hb hts in_X5_assign_X5 hown hK hP (by decide) rfl (hts (.fieldLink RX5 33 "MixedKernel" "trial" "LMixedKernel$Line;") (by decide +kernel)) dX5_assign_30 ?_
      refine lv_iload_n hx hb dX5_assign_33 rfl (lv_at hl 1 rfl) ?_
      obtain ⟨r_7, e_6, h⟩ := mk_bind h
      refine va_calli (va_runV (As := [.ref (E.1 7), .int l1]) (rest := []) ⟨hx, hb, hml, hown, hts⟩ (c_X4_lastThatPasses l D E L 7 l1 M (by decide) rfl e_6) (cwV 2 hts gX5_assign_X4_lastThatPasses rfl rfl rfl (by decide +kernel) ⟨Nat.le_of_ble_eq_true rfl, Nat.le_of_ble_eq_true rfl⟩) ⟨mk_W.blind, mk_rc4 hK hP (by decide) rfl, fun U hU hW => ⟨rfl, mk_W.at hU hW hP hK (hD _ _) hN⟩⟩ rfl rfl hl.1 rfl (lv_room (Nat.le_of_ble_eq_true rfl)) dX5_assign_34 ⟨Nat.zero_le _, Nat.zero_le _⟩) hS (fun q _ h => h) (fun q h => h) (fun v_11 u t H1 locs ht hvm hw hB hz1 hk1 hS => ?_)
      subst v_11
      rw [ht] at hB
      replace hP := hB
      clear hB hz1 hk1 hvm ht
      generalize H1 = H at hP hS ⊢
      refine lv_istore_n (lv' := [(2, .int r_7), (0, .ref (E.1 0)), (1, .int l1)]) hx hb dX5_assign_37 rfl hl (by decide) rfl (fun ls hl => ?_)
      refine lv_iload_n hx hb dX5_assign_38 rfl (lv_at hl 0 rfl) ?_
      refine lv_iconst (v := -1) hx hb dX5_assign_39 (by decide) ?_
      refine lv_icmp_ne (tgt := 45) hx hb dX5_assign_40 (by decide) (fun c_8 => ?_) (fun c_8 => ?_)
      · replace h := (if_neg c_8).symm.trans h
        refine lv_aload_n hx hb dX5_assign_45 rfl (lv_at hl 1 rfl) ?_
        refine mk_g5_4 hx hb hts in_X5_assign_X5 hown hK hP (by decide) rfl (hts (.fieldLink RX5 33 "MixedKernel" "trial" "LMixedKernel$Line;") (by decide +kernel)) dX5_assign_46 ?_
        refine lv_iload_n hx hb dX5_assign_49 rfl (lv_at hl 0 rfl) ?_
        refine lv_iload_n hx hb dX5_assign_50 rfl (lv_at hl 2 rfl) ?_
        obtain ⟨r_10, e_9, h⟩ := mk_bind h
        refine va_callv (va_runV (As := [.int r_7, .int l1]) (rest := []) ⟨hx, hb, hml, hown, hts⟩ (c_X1_moveBack l D E L 7 r_7 l1 M (by decide) rfl e_9) (cwV 2 hts gX5_assign_X1_moveBack rfl rfl rfl (by decide +kernel) ⟨Nat.le_of_ble_eq_true rfl, Nat.le_of_ble_eq_true rfl⟩) ⟨mk_W.blind, mk_rc1 hK hP (by decide) rfl, fun U hU hW => ⟨rfl, mk_W.at hU hW hP hK (hD _ _) hN⟩⟩ rfl rfl hl.1 rfl (lv_room (Nat.le_of_ble_eq_true rfl)) dX5_assign_51 ⟨Nat.zero_le _, Nat.zero_le _⟩) hS (fun q _ h => h) (fun q h => h) (fun u t H1 locs ht hvm hw hB hz1 hk1 hS => ?_)
        rw [ht] at hB
        replace hP := hB
        clear hB hz1 hk1 hvm ht
        generalize H1 = H at hP hS ⊢
        refine lv_iinc (v := l1 + (-1)) (lv' := [(1, .int (l1 + (-1))), (2, .int r_7), (0, .ref (E.1 0))]) hx hb dX5_assign_54 hl (k := 2) rfl rfl (by decide) rfl (fun ls hl => ?_)
        refine lv_goto (tgt := 21) hx hb dX5_assign_57 (by decide) ?_
        exact ih (l1 + (-1)) r_10 _ h _ _ _ hP hS (lv_sub hl [2, 0] rfl)
      · replace h := (if_pos c_8).symm.trans h
        refine lv_iconst (v := 0) hx hb dX5_assign_43 (by decide) ?_
        replace h := Option.some.inj h
        subst q
        exact W.zret (v := 0) hx hb hr rfl (fun t ht hW => ⟨⟨_, (), rfl, rfl, by rw [← ht] at hP; exact hP⟩, hS.F ht⟩) hS.2.2 dX5_assign_44
def f_X5_assign (M : mk_M) : Option (Int32 × mk_M) := ((f_X1_become 7 3 M).bind (fun r_2 => (f_X5_assign_21 mk_F ((r_2 7 1) - 1) r_2)))
set_option maxHeartbeats 4000000 in
set_option maxRecDepth 100000 in
theorem c_X5_assign (l : Launch) (D : va_G) (E : mk_E) (L : Nat → Int64) (M : mk_M) {q : Int32 × mk_M} (h : f_X5_assign M = some q) : Met l yX5_assign wsX5_assign rm_X5_assign (va_Pc [.ref (E.1 0)] (mk_W D E M L)) (mk_Qi D E L q.1 q.2) 0 0 (mk_A E) := by
  refine Met.ofW (cc := cX5_assign) (maxL := 3) (ret := (some .boolean)) (by decide) rfl ?_
  intro p e s m args below meth c s₁ B hml hv
  obtain ⟨rfl, hP, hK, hD0, hN⟩ := hv
  have hx := B.exec
  have hb := B.bytes
  have hr := B.returns
  have hts := atoms_spec (ws := wsX5_assign) B.pre
  have hown : s.vm.findClass RX5 = some m.cls := findClass_of_methodNamed B.named
  have hlk := B.notSynchronized
  have hD : ∀ (M : mk_M) (L : Nat → Int64), va_D (mk_A E) (mk_wl E M L) := fun _ _ => mk_D hD0
  have C0 : mk_C p s m [.ref (E.1 0)].toArray meth c cX5_assign 3 wsX5_assign RX5 (some .boolean) D E := ⟨hx, hb, hml, hown, hts, hr, hlk, hK, hD, hN⟩
  have hS : va_S (mk_A E) s.heap s.heap [] := va_S.rf
  have hl := lv_entry ([.ref (E.1 0)]) (n := 3) (Nat.le_of_ble_eq_true rfl)
  rw [lg_entry_eq]
  generalize (lg_sl ([.ref (E.1 0)]) ++ List.replicate (3 - (lg_sl ([.ref (E.1 0)])).length) Slot.unset).toArray = ls at hl ⊢
  have hl : lv_has ls 3 [(0, .ref (E.1 0))] := hl
  replace h : ((f_X1_become 7 3 M).bind (fun r_2 => (f_X5_assign_21 mk_F ((r_2 7 1) - 1) r_2))) = some q := h
  refine lv_aload_n hx hb dX5_assign_0 rfl (lv_at hl 0 rfl) ?_
  refine mk_g5_4 hx hb hts in_X5_assign_X5 hown hK hP (by decide) rfl (hts (.fieldLink RX5 33 "MixedKernel" "trial" "LMixedKernel$Line;") (by decide +kernel)) dX5_assign_1 ?_
  refine lv_aload_n hx hb dX5_assign_4 rfl (lv_at hl 0 rfl) ?_
  refine mk_g5_2 hx hb hts in_X5_assign_X5 hown hK hP (by decide) rfl (hts (.fieldLink RX5 26 "MixedKernel" "plan" "LMixedKernel$Line;") (by decide +kernel)) dX5_assign_5 ?_
  obtain ⟨r_2, e_1, h⟩ := mk_bind h
  refine va_callv (va_runV (As := [.ref (E.1 3)]) (rest := []) ⟨hx, hb, hml, hown, hts⟩ (c_X1_become l D E L 7 3 M (by decide) rfl (by decide) rfl e_1) (cwV 1 hts gX5_assign_X1_become rfl rfl rfl (by decide +kernel) ⟨Nat.le_of_ble_eq_true rfl, Nat.le_of_ble_eq_true rfl⟩) ⟨mk_W.blind, mk_rc1 hK hP (by decide) rfl, fun U hU hW => ⟨rfl, mk_W.at hU hW hP hK (hD _ _) hN⟩⟩ rfl rfl hl.1 rfl (lv_room (Nat.le_of_ble_eq_true rfl)) dX5_assign_8 ⟨Nat.zero_le _, Nat.zero_le _⟩) hS (fun q _ h => h) (fun q h => h) (fun u t H1 locs ht hvm hw hB hz1 hk1 hS => ?_)
  rw [ht] at hB
  replace hP := hB
  clear hB hz1 hk1 hvm ht
  generalize H1 = H at hP hS ⊢
  refine lv_aload_n hx hb dX5_assign_11 rfl (lv_at hl 0 rfl) ?_
  refine mk_g5_4 hx hb hts in_X5_assign_X5 hown hK hP (by decide) rfl (hts (.fieldLink RX5 33 "MixedKernel" "trial" "LMixedKernel$Line;") (by decide +kernel)) dX5_assign_12 ?_
  refine mk_n1_1 hx hb hts in_X5_assign_X1 hown hK hP (by decide) rfl (va_Nw.use rfl (hN (.fieldLinkNest "MixedKernel" 140 "MixedKernel$Line" "size" "I" "MixedKernel") (by decide +kernel))) dX5_assign_15 ?_
  refine lv_iconst (v := 1) hx hb dX5_assign_18 (by decide) ?_
  refine lv_isub hx hb dX5_assign_19 ?_
  refine lv_istore_n (lv' := [(1, .int ((r_2 7 1) - 1)), (0, .ref (E.1 0))]) hx hb dX5_assign_20 rfl hl (by decide) rfl (fun ls hl => ?_)
  exact w_X5_assign_21 C0 mk_F ((r_2 7 1) - 1) r_2 _ h _ _ _ hP hS (lv_sub hl [1, 0] rfl)
abbrev rm_X5_isTask : Room := { frames := 0, cells := 0, slots := 0, locals := 0 }
def f_X5_isTask (a0 : Int32) (M : mk_M) : Option (Int32) := (if a0 < 1 then (some 0) else (if 12 < a0 then (some 0) else (some 1)))
set_option maxHeartbeats 4000000 in
set_option maxRecDepth 100000 in
theorem c_X5_isTask (l : Launch) (D : va_G) (E : mk_E) (L : Nat → Int64) (a0 : Int32) (M : mk_M) {q : Int32} (h : f_X5_isTask a0 M = some q) : Met l yX5_isTask wsX5_isTask rm_X5_isTask (va_Pc [.int a0] (mk_W D E M L)) (mk_Qi D E L q M) 0 0 (mk_A E) := by
  refine Met.ofW (cc := cX5_isTask) (maxL := 1) (ret := (some .boolean)) (by decide) rfl ?_
  intro p e s m args below meth c s₁ B hml hv
  obtain ⟨rfl, hP, hK, hD0, hN⟩ := hv
  have hx := B.exec
  have hb := B.bytes
  have hr := B.returns
  have hts := atoms_spec (ws := wsX5_isTask) B.pre
  have hown : s.vm.findClass RX5 = some m.cls := findClass_of_methodNamed B.named
  have hlk := B.notSynchronized
  have hD : ∀ (M : mk_M) (L : Nat → Int64), va_D (mk_A E) (mk_wl E M L) := fun _ _ => mk_D hD0
  have C0 : mk_C p s m [.int a0].toArray meth c cX5_isTask 1 wsX5_isTask RX5 (some .boolean) D E := ⟨hx, hb, hml, hown, hts, hr, hlk, hK, hD, hN⟩
  have hS : va_S (mk_A E) s.heap s.heap [] := va_S.rf
  have hl := lv_entry ([.int a0]) (n := 1) (Nat.le_of_ble_eq_true rfl)
  rw [lg_entry_eq]
  generalize (lg_sl ([.int a0]) ++ List.replicate (1 - (lg_sl ([.int a0])).length) Slot.unset).toArray = ls at hl ⊢
  have hl : lv_has ls 1 [(0, .int a0)] := hl
  replace h : (if a0 < 1 then (some 0) else (if 12 < a0 then (some 0) else (some 1))) = some q := h
  refine lv_iload_n hx hb dX5_isTask_0 rfl (lv_at hl 0 rfl) ?_
  refine lv_iconst (v := 1) hx hb dX5_isTask_1 (by decide) ?_
  refine lv_icmp_lt (tgt := 15) hx hb dX5_isTask_2 (by decide) (fun c_1 => ?_) (fun c_1 => ?_)
  · replace h := (if_pos c_1).symm.trans h
    refine lv_iconst (v := 0) hx hb dX5_isTask_15 (by decide) ?_
    replace h := Option.some.inj h
    subst q
    exact W.zret (v := 0) hx hb hr rfl (fun t ht hW => ⟨⟨_, (), rfl, rfl, by rw [← ht] at hP; exact hP⟩, hS.F ht⟩) hS.2.2 dX5_isTask_16
  · replace h := (if_neg c_1).symm.trans h
    refine lv_iload_n hx hb dX5_isTask_5 rfl (lv_at hl 0 rfl) ?_
    refine lv_bipush (v := 12) hx hb dX5_isTask_6 (by decide) ?_
    refine lv_icmp_gt (tgt := 15) hx hb dX5_isTask_8 (by decide) (fun c_2 => ?_) (fun c_2 => ?_)
    · replace h := (if_pos c_2).symm.trans h
      refine lv_iconst (v := 0) hx hb dX5_isTask_15 (by decide) ?_
      replace h := Option.some.inj h
      subst q
      exact W.zret (v := 0) hx hb hr rfl (fun t ht hW => ⟨⟨_, (), rfl, rfl, by rw [← ht] at hP; exact hP⟩, hS.F ht⟩) hS.2.2 dX5_isTask_16
    · replace h := (if_neg c_2).symm.trans h
      refine lv_iconst (v := 1) hx hb dX5_isTask_11 (by decide) ?_
      refine lv_goto (tgt := 16) hx hb dX5_isTask_12 (by decide) ?_
      replace h := Option.some.inj h
      subst q
      exact W.zret (v := 1) hx hb hr rfl (fun t ht hW => ⟨⟨_, (), rfl, rfl, by rw [← ht] at hP; exact hP⟩, hS.F ht⟩) hS.2.2 dX5_isTask_16
abbrev rm_X5_areTimes : Room := { frames := 0, cells := 0, slots := 0, locals := 0 }
def f_X5_areTimes (a0 : Int32) (a1 : Int32) (M : mk_M) : Option (Int32) := (if a0 < 1 then (some 0) else (if 1000 < a0 then (some 0) else (if a1 < 1 then (some 0) else (if a0 < a1 then (some 0) else (some 1)))))
set_option maxHeartbeats 4000000 in
set_option maxRecDepth 100000 in
theorem c_X5_areTimes (l : Launch) (D : va_G) (E : mk_E) (L : Nat → Int64) (a0 : Int32) (a1 : Int32) (M : mk_M) {q : Int32} (h : f_X5_areTimes a0 a1 M = some q) : Met l yX5_areTimes wsX5_areTimes rm_X5_areTimes (va_Pc [.int a0, .int a1] (mk_W D E M L)) (mk_Qi D E L q M) 0 0 (mk_A E) := by
  refine Met.ofW (cc := cX5_areTimes) (maxL := 2) (ret := (some .boolean)) (by decide) rfl ?_
  intro p e s m args below meth c s₁ B hml hv
  obtain ⟨rfl, hP, hK, hD0, hN⟩ := hv
  have hx := B.exec
  have hb := B.bytes
  have hr := B.returns
  have hts := atoms_spec (ws := wsX5_areTimes) B.pre
  have hown : s.vm.findClass RX5 = some m.cls := findClass_of_methodNamed B.named
  have hlk := B.notSynchronized
  have hD : ∀ (M : mk_M) (L : Nat → Int64), va_D (mk_A E) (mk_wl E M L) := fun _ _ => mk_D hD0
  have C0 : mk_C p s m [.int a0, .int a1].toArray meth c cX5_areTimes 2 wsX5_areTimes RX5 (some .boolean) D E := ⟨hx, hb, hml, hown, hts, hr, hlk, hK, hD, hN⟩
  have hS : va_S (mk_A E) s.heap s.heap [] := va_S.rf
  have hl := lv_entry ([.int a0, .int a1]) (n := 2) (Nat.le_of_ble_eq_true rfl)
  rw [lg_entry_eq]
  generalize (lg_sl ([.int a0, .int a1]) ++ List.replicate (2 - (lg_sl ([.int a0, .int a1])).length) Slot.unset).toArray = ls at hl ⊢
  have hl : lv_has ls 2 [(0, .int a0), (1, .int a1)] := hl
  replace h : (if a0 < 1 then (some 0) else (if 1000 < a0 then (some 0) else (if a1 < 1 then (some 0) else (if a0 < a1 then (some 0) else (some 1))))) = some q := h
  refine lv_iload_n hx hb dX5_areTimes_0 rfl (lv_at hl 0 rfl) ?_
  refine lv_iconst (v := 1) hx hb dX5_areTimes_1 (by decide) ?_
  refine lv_icmp_lt (tgt := 26) hx hb dX5_areTimes_2 (by decide) (fun c_1 => ?_) (fun c_1 => ?_)
  · replace h := (if_pos c_1).symm.trans h
    refine lv_iconst (v := 0) hx hb dX5_areTimes_26 (by decide) ?_
    replace h := Option.some.inj h
    subst q
    exact W.zret (v := 0) hx hb hr rfl (fun t ht hW => ⟨⟨_, (), rfl, rfl, by rw [← ht] at hP; exact hP⟩, hS.F ht⟩) hS.2.2 dX5_areTimes_27
  · replace h := (if_neg c_1).symm.trans h
    refine lv_iload_n hx hb dX5_areTimes_5 rfl (lv_at hl 0 rfl) ?_
    refine lv_sipush (v := 1000) hx hb dX5_areTimes_6 (by decide) ?_
    refine lv_icmp_gt (tgt := 26) hx hb dX5_areTimes_9 (by decide) (fun c_2 => ?_) (fun c_2 => ?_)
    · replace h := (if_pos c_2).symm.trans h
      refine lv_iconst (v := 0) hx hb dX5_areTimes_26 (by decide) ?_
      replace h := Option.some.inj h
      subst q
      exact W.zret (v := 0) hx hb hr rfl (fun t ht hW => ⟨⟨_, (), rfl, rfl, by rw [← ht] at hP; exact hP⟩, hS.F ht⟩) hS.2.2 dX5_areTimes_27
    · replace h := (if_neg c_2).symm.trans h
      refine lv_iload_n hx hb dX5_areTimes_12 rfl (lv_at hl 1 rfl) ?_
      refine lv_iconst (v := 1) hx hb dX5_areTimes_13 (by decide) ?_
      refine lv_icmp_lt (tgt := 26) hx hb dX5_areTimes_14 (by decide) (fun c_3 => ?_) (fun c_3 => ?_)
      · replace h := (if_pos c_3).symm.trans h
        refine lv_iconst (v := 0) hx hb dX5_areTimes_26 (by decide) ?_
        replace h := Option.some.inj h
        subst q
        exact W.zret (v := 0) hx hb hr rfl (fun t ht hW => ⟨⟨_, (), rfl, rfl, by rw [← ht] at hP; exact hP⟩, hS.F ht⟩) hS.2.2 dX5_areTimes_27
      · replace h := (if_neg c_3).symm.trans h
        refine lv_iload_n hx hb dX5_areTimes_17 rfl (lv_at hl 1 rfl) ?_
        refine lv_iload_n hx hb dX5_areTimes_18 rfl (lv_at hl 0 rfl) ?_
        refine lv_icmp_gt (tgt := 26) hx hb dX5_areTimes_19 (by decide) (fun c_4 => ?_) (fun c_4 => ?_)
        · replace h := (if_pos c_4).symm.trans h
          refine lv_iconst (v := 0) hx hb dX5_areTimes_26 (by decide) ?_
          replace h := Option.some.inj h
          subst q
          exact W.zret (v := 0) hx hb hr rfl (fun t ht hW => ⟨⟨_, (), rfl, rfl, by rw [← ht] at hP; exact hP⟩, hS.F ht⟩) hS.2.2 dX5_areTimes_27
        · replace h := (if_neg c_4).symm.trans h
          refine lv_iconst (v := 1) hx hb dX5_areTimes_22 (by decide) ?_
          refine lv_goto (tgt := 27) hx hb dX5_areTimes_23 (by decide) ?_
          replace h := Option.some.inj h
          subst q
          exact W.zret (v := 1) hx hb hr rfl (fun t ht hW => ⟨⟨_, (), rfl, rfl, by rw [← ht] at hP; exact hP⟩, hS.F ht⟩) hS.2.2 dX5_areTimes_27
abbrev rm_X5_areBudgets : Room := { frames := 0, cells := 0, slots := 0, locals := 0 }
def f_X5_areBudgets (a0 : Int32) (a1 : Int32) (M : mk_M) : Option (Int32) := (if a0 < 1 then (some 0) else (if 100 < a0 then (some 0) else (if a1 = 0 then (some 1) else (if a1 < a0 then (some 0) else (if 200 < a1 then (some 0) else (some 1))))))
set_option maxHeartbeats 4000000 in
set_option maxRecDepth 100000 in
theorem c_X5_areBudgets (l : Launch) (D : va_G) (E : mk_E) (L : Nat → Int64) (a0 : Int32) (a1 : Int32) (M : mk_M) {q : Int32} (h : f_X5_areBudgets a0 a1 M = some q) : Met l yX5_areBudgets wsX5_areBudgets rm_X5_areBudgets (va_Pc [.int a0, .int a1] (mk_W D E M L)) (mk_Qi D E L q M) 0 0 (mk_A E) := by
  refine Met.ofW (cc := cX5_areBudgets) (maxL := 2) (ret := (some .boolean)) (by decide) rfl ?_
  intro p e s m args below meth c s₁ B hml hv
  obtain ⟨rfl, hP, hK, hD0, hN⟩ := hv
  have hx := B.exec
  have hb := B.bytes
  have hr := B.returns
  have hts := atoms_spec (ws := wsX5_areBudgets) B.pre
  have hown : s.vm.findClass RX5 = some m.cls := findClass_of_methodNamed B.named
  have hlk := B.notSynchronized
  have hD : ∀ (M : mk_M) (L : Nat → Int64), va_D (mk_A E) (mk_wl E M L) := fun _ _ => mk_D hD0
  have C0 : mk_C p s m [.int a0, .int a1].toArray meth c cX5_areBudgets 2 wsX5_areBudgets RX5 (some .boolean) D E := ⟨hx, hb, hml, hown, hts, hr, hlk, hK, hD, hN⟩
  have hS : va_S (mk_A E) s.heap s.heap [] := va_S.rf
  have hl := lv_entry ([.int a0, .int a1]) (n := 2) (Nat.le_of_ble_eq_true rfl)
  rw [lg_entry_eq]
  generalize (lg_sl ([.int a0, .int a1]) ++ List.replicate (2 - (lg_sl ([.int a0, .int a1])).length) Slot.unset).toArray = ls at hl ⊢
  have hl : lv_has ls 2 [(0, .int a0), (1, .int a1)] := hl
  replace h : (if a0 < 1 then (some 0) else (if 100 < a0 then (some 0) else (if a1 = 0 then (some 1) else (if a1 < a0 then (some 0) else (if 200 < a1 then (some 0) else (some 1)))))) = some q := h
  refine lv_iload_n hx hb dX5_areBudgets_0 rfl (lv_at hl 0 rfl) ?_
  refine lv_iconst (v := 1) hx hb dX5_areBudgets_1 (by decide) ?_
  refine lv_icmp_lt (tgt := 31) hx hb dX5_areBudgets_2 (by decide) (fun c_1 => ?_) (fun c_1 => ?_)
  · replace h := (if_pos c_1).symm.trans h
    refine lv_iconst (v := 0) hx hb dX5_areBudgets_31 (by decide) ?_
    replace h := Option.some.inj h
    subst q
    exact W.zret (v := 0) hx hb hr rfl (fun t ht hW => ⟨⟨_, (), rfl, rfl, by rw [← ht] at hP; exact hP⟩, hS.F ht⟩) hS.2.2 dX5_areBudgets_32
  · replace h := (if_neg c_1).symm.trans h
    refine lv_iload_n hx hb dX5_areBudgets_5 rfl (lv_at hl 0 rfl) ?_
    refine lv_bipush (v := 100) hx hb dX5_areBudgets_6 (by decide) ?_
    refine lv_icmp_gt (tgt := 31) hx hb dX5_areBudgets_8 (by decide) (fun c_2 => ?_) (fun c_2 => ?_)
    · replace h := (if_pos c_2).symm.trans h
      refine lv_iconst (v := 0) hx hb dX5_areBudgets_31 (by decide) ?_
      replace h := Option.some.inj h
      subst q
      exact W.zret (v := 0) hx hb hr rfl (fun t ht hW => ⟨⟨_, (), rfl, rfl, by rw [← ht] at hP; exact hP⟩, hS.F ht⟩) hS.2.2 dX5_areBudgets_32
    · replace h := (if_neg c_2).symm.trans h
      refine lv_iload_n hx hb dX5_areBudgets_11 rfl (lv_at hl 1 rfl) ?_
      refine lv_if_eq (tgt := 27) hx hb dX5_areBudgets_12 (by decide) (fun c_3 => ?_) (fun c_3 => ?_)
      · replace h := (if_pos c_3).symm.trans h
        refine lv_iconst (v := 1) hx hb dX5_areBudgets_27 (by decide) ?_
        refine lv_goto (tgt := 32) hx hb dX5_areBudgets_28 (by decide) ?_
        replace h := Option.some.inj h
        subst q
        exact W.zret (v := 1) hx hb hr rfl (fun t ht hW => ⟨⟨_, (), rfl, rfl, by rw [← ht] at hP; exact hP⟩, hS.F ht⟩) hS.2.2 dX5_areBudgets_32
      · replace h := (if_neg c_3).symm.trans h
        refine lv_iload_n hx hb dX5_areBudgets_15 rfl (lv_at hl 1 rfl) ?_
        refine lv_iload_n hx hb dX5_areBudgets_16 rfl (lv_at hl 0 rfl) ?_
        refine lv_icmp_lt (tgt := 31) hx hb dX5_areBudgets_17 (by decide) (fun c_4 => ?_) (fun c_4 => ?_)
        · replace h := (if_pos c_4).symm.trans h
          refine lv_iconst (v := 0) hx hb dX5_areBudgets_31 (by decide) ?_
          replace h := Option.some.inj h
          subst q
          exact W.zret (v := 0) hx hb hr rfl (fun t ht hW => ⟨⟨_, (), rfl, rfl, by rw [← ht] at hP; exact hP⟩, hS.F ht⟩) hS.2.2 dX5_areBudgets_32
        · replace h := (if_neg c_4).symm.trans h
          refine lv_iload_n hx hb dX5_areBudgets_20 rfl (lv_at hl 1 rfl) ?_
          refine lv_sipush (v := 200) hx hb dX5_areBudgets_21 (by decide) ?_
          refine lv_icmp_gt (tgt := 31) hx hb dX5_areBudgets_24 (by decide) (fun c_5 => ?_) (fun c_5 => ?_)
          · replace h := (if_pos c_5).symm.trans h
            refine lv_iconst (v := 0) hx hb dX5_areBudgets_31 (by decide) ?_
            replace h := Option.some.inj h
            subst q
            exact W.zret (v := 0) hx hb hr rfl (fun t ht hW => ⟨⟨_, (), rfl, rfl, by rw [← ht] at hP; exact hP⟩, hS.F ht⟩) hS.2.2 dX5_areBudgets_32
          · replace h := (if_neg c_5).symm.trans h
            refine lv_iconst (v := 1) hx hb dX5_areBudgets_27 (by decide) ?_
            refine lv_goto (tgt := 32) hx hb dX5_areBudgets_28 (by decide) ?_
            replace h := Option.some.inj h
            subst q
            exact W.zret (v := 1) hx hb hr rfl (fun t ht hW => ⟨⟨_, (), rfl, rfl, by rw [← ht] at hP; exact hP⟩, hS.F ht⟩) hS.2.2 dX5_areBudgets_32
abbrev rm_X5_isKnown : Room := { frames := 1, cells := 0, slots := 0, locals := 22 }
theorem in_X5_isKnown_X5 : ∀ w ∈ wsX50, w ∈ wsX5_isKnown := by decide +kernel
def f_X5_isKnown (a1 : Int32) (M : mk_M) : Option (Int32) := ((f_X1_placeOf 3 a1 M).bind (fun r_2 => (if r_2 = (-1) then (some 0) else (some 1))))
set_option maxHeartbeats 4000000 in
set_option maxRecDepth 100000 in
theorem c_X5_isKnown (l : Launch) (D : va_G) (E : mk_E) (L : Nat → Int64) (a1 : Int32) (M : mk_M) {q : Int32} (h : f_X5_isKnown a1 M = some q) : Met l yX5_isKnown wsX5_isKnown rm_X5_isKnown (va_Pc [.ref (E.1 0), .int a1] (mk_W D E M L)) (mk_Qi D E L q M) 0 0 (mk_A E) := by
  refine Met.ofW (cc := cX5_isKnown) (maxL := 2) (ret := (some .boolean)) (by decide) rfl ?_
  intro p e s m args below meth c s₁ B hml hv
  obtain ⟨rfl, hP, hK, hD0, hN⟩ := hv
  have hx := B.exec
  have hb := B.bytes
  have hr := B.returns
  have hts := atoms_spec (ws := wsX5_isKnown) B.pre
  have hown : s.vm.findClass RX5 = some m.cls := findClass_of_methodNamed B.named
  have hlk := B.notSynchronized
  have hD : ∀ (M : mk_M) (L : Nat → Int64), va_D (mk_A E) (mk_wl E M L) := fun _ _ => mk_D hD0
  have C0 : mk_C p s m [.ref (E.1 0), .int a1].toArray meth c cX5_isKnown 2 wsX5_isKnown RX5 (some .boolean) D E := ⟨hx, hb, hml, hown, hts, hr, hlk, hK, hD, hN⟩
  have hS : va_S (mk_A E) s.heap s.heap [] := va_S.rf
  have hl := lv_entry ([.ref (E.1 0), .int a1]) (n := 2) (Nat.le_of_ble_eq_true rfl)
  rw [lg_entry_eq]
  generalize (lg_sl ([.ref (E.1 0), .int a1]) ++ List.replicate (2 - (lg_sl ([.ref (E.1 0), .int a1])).length) Slot.unset).toArray = ls at hl ⊢
  have hl : lv_has ls 2 [(0, .ref (E.1 0)), (1, .int a1)] := hl
  replace h : ((f_X1_placeOf 3 a1 M).bind (fun r_2 => (if r_2 = (-1) then (some 0) else (some 1)))) = some q := h
  refine lv_aload_n hx hb dX5_isKnown_0 rfl (lv_at hl 0 rfl) ?_
  refine mk_g5_2 hx hb hts in_X5_isKnown_X5 hown hK hP (by decide) rfl (hts (.fieldLink RX5 26 "MixedKernel" "plan" "LMixedKernel$Line;") (by decide +kernel)) dX5_isKnown_1 ?_
  refine lv_iload_n hx hb dX5_isKnown_4 rfl (lv_at hl 1 rfl) ?_
  obtain ⟨r_2, e_1, h⟩ := mk_bind h
  refine va_calli (va_runV (As := [.int a1]) (rest := []) ⟨hx, hb, hml, hown, hts⟩ (c_X1_placeOf l D E L 3 a1 M (by decide) rfl e_1) (cwV 1 hts gX5_isKnown_X1_placeOf rfl rfl rfl (by decide +kernel) ⟨Nat.le_of_ble_eq_true rfl, Nat.le_of_ble_eq_true rfl⟩) ⟨mk_W.blind, mk_rc1 hK hP (by decide) rfl, fun U hU hW => ⟨rfl, mk_W.at hU hW hP hK (hD _ _) hN⟩⟩ rfl rfl hl.1 rfl (lv_room (Nat.le_of_ble_eq_true rfl)) dX5_isKnown_5 ⟨Nat.zero_le _, Nat.zero_le _⟩) hS (fun q _ h => h) (fun q h => h) (fun v_4 u t H1 locs ht hvm hw hB hz1 hk1 hS => ?_)
  subst v_4
  rw [ht] at hB
  replace hP := hB
  clear hB hz1 hk1 hvm ht
  generalize H1 = H at hP hS ⊢
  refine lv_iconst (v := -1) hx hb dX5_isKnown_8 (by decide) ?_
  refine lv_icmp_eq (tgt := 16) hx hb dX5_isKnown_9 (by decide) (fun c_3 => ?_) (fun c_3 => ?_)
  · replace h := (if_pos c_3).symm.trans h
    refine lv_iconst (v := 0) hx hb dX5_isKnown_16 (by decide) ?_
    replace h := Option.some.inj h
    subst q
    exact W.zret (v := 0) hx hb hr rfl (fun t ht hW => ⟨⟨_, (), rfl, rfl, by rw [← ht] at hP; exact hP⟩, hS.F ht⟩) hS.2.2 dX5_isKnown_17
  · replace h := (if_neg c_3).symm.trans h
    refine lv_iconst (v := 1) hx hb dX5_isKnown_12 (by decide) ?_
    refine lv_goto (tgt := 17) hx hb dX5_isKnown_13 (by decide) ?_
    replace h := Option.some.inj h
    subst q
    exact W.zret (v := 1) hx hb hr rfl (fun t ht hW => ⟨⟨_, (), rfl, rfl, by rw [← ht] at hP; exact hP⟩, hS.F ht⟩) hS.2.2 dX5_isKnown_17
abbrev rm_X5_isInForce : Room := { frames := 1, cells := 0, slots := 0, locals := 22 }
theorem in_X5_isInForce_X5 : ∀ w ∈ wsX50, w ∈ wsX5_isInForce := by decide +kernel
def f_X5_isInForce (a1 : Int32) (M : mk_M) : Option (Int32) := ((f_X1_placeOf 5 a1 M).bind (fun r_2 => (if r_2 = (-1) then (some 0) else (some 1))))
set_option maxHeartbeats 4000000 in
set_option maxRecDepth 100000 in
theorem c_X5_isInForce (l : Launch) (D : va_G) (E : mk_E) (L : Nat → Int64) (a1 : Int32) (M : mk_M) {q : Int32} (h : f_X5_isInForce a1 M = some q) : Met l yX5_isInForce wsX5_isInForce rm_X5_isInForce (va_Pc [.ref (E.1 0), .int a1] (mk_W D E M L)) (mk_Qi D E L q M) 0 0 (mk_A E) := by
  refine Met.ofW (cc := cX5_isInForce) (maxL := 2) (ret := (some .boolean)) (by decide) rfl ?_
  intro p e s m args below meth c s₁ B hml hv
  obtain ⟨rfl, hP, hK, hD0, hN⟩ := hv
  have hx := B.exec
  have hb := B.bytes
  have hr := B.returns
  have hts := atoms_spec (ws := wsX5_isInForce) B.pre
  have hown : s.vm.findClass RX5 = some m.cls := findClass_of_methodNamed B.named
  have hlk := B.notSynchronized
  have hD : ∀ (M : mk_M) (L : Nat → Int64), va_D (mk_A E) (mk_wl E M L) := fun _ _ => mk_D hD0
  have C0 : mk_C p s m [.ref (E.1 0), .int a1].toArray meth c cX5_isInForce 2 wsX5_isInForce RX5 (some .boolean) D E := ⟨hx, hb, hml, hown, hts, hr, hlk, hK, hD, hN⟩
  have hS : va_S (mk_A E) s.heap s.heap [] := va_S.rf
  have hl := lv_entry ([.ref (E.1 0), .int a1]) (n := 2) (Nat.le_of_ble_eq_true rfl)
  rw [lg_entry_eq]
  generalize (lg_sl ([.ref (E.1 0), .int a1]) ++ List.replicate (2 - (lg_sl ([.ref (E.1 0), .int a1])).length) Slot.unset).toArray = ls at hl ⊢
  have hl : lv_has ls 2 [(0, .ref (E.1 0)), (1, .int a1)] := hl
  replace h : ((f_X1_placeOf 5 a1 M).bind (fun r_2 => (if r_2 = (-1) then (some 0) else (some 1)))) = some q := h
  refine lv_aload_n hx hb dX5_isInForce_0 rfl (lv_at hl 0 rfl) ?_
  refine mk_g5_3 hx hb hts in_X5_isInForce_X5 hown hK hP (by decide) rfl (hts (.fieldLink RX5 30 "MixedKernel" "order" "LMixedKernel$Line;") (by decide +kernel)) dX5_isInForce_1 ?_
  refine lv_iload_n hx hb dX5_isInForce_4 rfl (lv_at hl 1 rfl) ?_
  obtain ⟨r_2, e_1, h⟩ := mk_bind h
  refine va_calli (va_runV (As := [.int a1]) (rest := []) ⟨hx, hb, hml, hown, hts⟩ (c_X1_placeOf l D E L 5 a1 M (by decide) rfl e_1) (cwV 1 hts gX5_isInForce_X1_placeOf rfl rfl rfl (by decide +kernel) ⟨Nat.le_of_ble_eq_true rfl, Nat.le_of_ble_eq_true rfl⟩) ⟨mk_W.blind, mk_rc1 hK hP (by decide) rfl, fun U hU hW => ⟨rfl, mk_W.at hU hW hP hK (hD _ _) hN⟩⟩ rfl rfl hl.1 rfl (lv_room (Nat.le_of_ble_eq_true rfl)) dX5_isInForce_5 ⟨Nat.zero_le _, Nat.zero_le _⟩) hS (fun q _ h => h) (fun q h => h) (fun v_4 u t H1 locs ht hvm hw hB hz1 hk1 hS => ?_)
  subst v_4
  rw [ht] at hB
  replace hP := hB
  clear hB hz1 hk1 hvm ht
  generalize H1 = H at hP hS ⊢
  refine lv_iconst (v := -1) hx hb dX5_isInForce_8 (by decide) ?_
  refine lv_icmp_eq (tgt := 16) hx hb dX5_isInForce_9 (by decide) (fun c_3 => ?_) (fun c_3 => ?_)
  · replace h := (if_pos c_3).symm.trans h
    refine lv_iconst (v := 0) hx hb dX5_isInForce_16 (by decide) ?_
    replace h := Option.some.inj h
    subst q
    exact W.zret (v := 0) hx hb hr rfl (fun t ht hW => ⟨⟨_, (), rfl, rfl, by rw [← ht] at hP; exact hP⟩, hS.F ht⟩) hS.2.2 dX5_isInForce_17
  · replace h := (if_neg c_3).symm.trans h
    refine lv_iconst (v := 1) hx hb dX5_isInForce_12 (by decide) ?_
    refine lv_goto (tgt := 17) hx hb dX5_isInForce_13 (by decide) ?_
    replace h := Option.some.inj h
    subst q
    exact W.zret (v := 1) hx hb hr rfl (fun t ht hW => ⟨⟨_, (), rfl, rfl, by rw [← ht] at hP; exact hP⟩, hS.F ht⟩) hS.2.2 dX5_isInForce_17
abbrev rm_X5_placeFor : Room := { frames := 0, cells := 0, slots := 0, locals := 0 }
theorem in_X5_placeFor_X1 : ∀ w ∈ wsX10, w ∈ wsX5_placeFor := by decide +kernel
theorem in_X5_placeFor_X3 : ∀ w ∈ wsX30, w ∈ wsX5_placeFor := by decide +kernel
theorem in_X5_placeFor_X5 : ∀ w ∈ wsX50, w ∈ wsX5_placeFor := by decide +kernel
def f_X5_placeFor_10 : Nat → Int32 → Int32 → mk_M → Option (Int32)
  | 0, _, _, _ => none
  | n + 1, l1, l2, M => (if l2 < 0 then (some 0) else (if mk_ob l2 12 then none else (if mk_ob (M 4 (l2).toNatClampNeg) 13 then none else (if l1 < (M (16 + 4 * (M 4 (l2).toNatClampNeg).toNatClampNeg) 1) then (f_X5_placeFor_10 n l1 (l2 + (-1)) M) else (some (l2 + 1))))))
set_option maxHeartbeats 4000000 in
set_option maxRecDepth 100000 in
theorem w_X5_placeFor_10 {p : Program} {l : Launch} {e : Env} {s : State} {m : MethodId} {args : Array Value} {below : List Frame} {meth : Method} {c : Code} {D : va_G} {E : mk_E} {L : Nat → Int64} (C0 : mk_C p s m args meth c cX5_placeFor 3 wsX5_placeFor RX5 (some .int) D E) : ∀ n : Nat, ∀ (l1 : Int32) (l2 : Int32) (M : mk_M) (q : Int32), f_X5_placeFor_10 n l1 l2 M = some q → ∀ (H : Heap) (locs : List Loc) (ls : Array Slot), va_P D vwCl (mk_wl E M L) H → va_S (mk_A E) s.heap H locs → lv_has ls 3 [(0, .ref (E.1 0)), (1, .int l1), (2, .int l2)] → W p l e rm_X5_placeFor s m args below meth c H locs 0 0 (MQ below (mk_Qi D E L q M) args s 0 0 (mk_A E)) (F0 m 10 ls []) := by
  obtain ⟨hx, hb, hml, hown, hts, hr, hlk, hK, hD, hN⟩ := id C0
  intro n
  induction n with
  | zero =>
    intro l1 l2 M q h
    cases h
  | succ n ih =>
    intro l1 l2 M q h H locs ls hP hS hl
    replace h : (if l2 < 0 then (some 0) else (if mk_ob l2 12 then none else (if mk_ob (M 4 (l2).toNatClampNeg) 13 then none else (if l1 < (M (16 + 4 * (M 4 (l2).toNatClampNeg).toNatClampNeg) 1) then (f_X5_placeFor_10 n l1 (l2 + (-1)) M) else (some (l2 + 1)))))) = some q := h
    refine lv_iload_n hx hb dX5_placeFor_10 rfl (lv_at hl 2 rfl) ?_
    refine lv_if_lt (tgt := 45) hx hb dX5_placeFor_11 (by decide) (fun c_1 => ?_) (fun c_1 => ?_)
    · replace h := (if_pos c_1).symm.trans h
      refine lv_iconst (v := 0) hx hb dX5_placeFor_45 (by decide) ?_
      replace h := Option.some.inj h
      subst q
      exact W.iret (v := 0) hx hb hr (fun t ht hW => ⟨⟨_, (), rfl, rfl, by rw [← ht] at hP; exact hP⟩, hS.F ht⟩) hS.2.2 dX5_placeFor_46
    · replace h := (if_neg c_1).symm.trans h
      refine lv_aload_n hx hb dX5_placeFor_14 rfl (lv_at hl 0 rfl) ?_
      refine mk_g5_1 hx hb hts in_X5_placeFor_X5 hown hK hP (by decide) rfl (hts (.fieldLink RX5 20 "MixedKernel" "tasks" "[LMixedKernel$Task;") (by decide +kernel)) dX5_placeFor_15 ?_
      refine lv_aload_n hx hb dX5_placeFor_18 rfl (lv_at hl 0 rfl) ?_
      refine mk_g5_2 hx hb hts in_X5_placeFor_X5 hown hK hP (by decide) rfl (hts (.fieldLink RX5 26 "MixedKernel" "plan" "LMixedKernel$Line;") (by decide +kernel)) dX5_placeFor_19 ?_
      refine mk_n1_0 hx hb hts in_X5_placeFor_X1 hown hK hP (by decide) rfl (va_Nw.use rfl (hN (.fieldLinkNest "MixedKernel" 212 "MixedKernel$Line" "ids" "[I" "MixedKernel") (by decide +kernel))) dX5_placeFor_22 ?_
      refine lv_iload_n hx hb dX5_placeFor_25 rfl (lv_at hl 2 rfl) ?_
      obtain ⟨i_2, h⟩ := mk_ifn h
      refine mk_ia hx hb hK hP (by decide) rfl i_2 dX5_placeFor_26 ?_
      obtain ⟨i_3, h⟩ := mk_ifn h
      have k_4 := mk_kd_task i_3
      have w_5 := mk_s3 k_4.1
      refine mk_aa hx hb hK hP (by decide) rfl i_3 dX5_placeFor_27 ?_
      refine mk_n3_1 hx hb hts in_X5_placeFor_X3 hown hK hP (Nat.lt_trans k_4.2 (by decide)) k_4.1 (va_Nw.use rfl (hN (.fieldLinkNest "MixedKernel" 215 "MixedKernel$Task" "deadline" "I" "MixedKernel") (by decide +kernel))) dX5_placeFor_28 ?_
      refine lv_iload_n hx hb dX5_placeFor_31 rfl (lv_at hl 1 rfl) ?_
      refine lv_icmp_gt (tgt := 39) hx hb dX5_placeFor_32 (by decide) (fun c_6 => ?_) (fun c_6 => ?_)
      · replace h := (if_pos c_6).symm.trans h
        refine lv_iinc (v := l2 + (-1)) (lv' := [(2, .int (l2 + (-1))), (0, .ref (E.1 0)), (1, .int l1)]) hx hb dX5_placeFor_39 hl (k := 2) rfl rfl (by decide) rfl (fun ls hl => ?_)
        refine lv_goto (tgt := 10) hx hb dX5_placeFor_42 (by decide) ?_
        exact ih l1 (l2 + (-1)) M _ h _ _ _ hP hS (lv_sub hl [1, 2, 0] rfl)
      · replace h := (if_neg c_6).symm.trans h
        refine lv_iload_n hx hb dX5_placeFor_35 rfl (lv_at hl 2 rfl) ?_
        refine lv_iconst (v := 1) hx hb dX5_placeFor_36 (by decide) ?_
        refine lv_iadd hx hb dX5_placeFor_37 ?_
        replace h := Option.some.inj h
        subst q
        exact W.iret (v := l2 + 1) hx hb hr (fun t ht hW => ⟨⟨_, (), rfl, rfl, by rw [← ht] at hP; exact hP⟩, hS.F ht⟩) hS.2.2 dX5_placeFor_38
def f_X5_placeFor (a1 : Int32) (M : mk_M) : Option (Int32) := (f_X5_placeFor_10 mk_F a1 ((M 3 1) - 1) M)
set_option maxHeartbeats 4000000 in
set_option maxRecDepth 100000 in
theorem c_X5_placeFor (l : Launch) (D : va_G) (E : mk_E) (L : Nat → Int64) (a1 : Int32) (M : mk_M) {q : Int32} (h : f_X5_placeFor a1 M = some q) : Met l yX5_placeFor wsX5_placeFor rm_X5_placeFor (va_Pc [.ref (E.1 0), .int a1] (mk_W D E M L)) (mk_Qi D E L q M) 0 0 (mk_A E) := by
  refine Met.ofW (cc := cX5_placeFor) (maxL := 3) (ret := (some .int)) (by decide) rfl ?_
  intro p e s m args below meth c s₁ B hml hv
  obtain ⟨rfl, hP, hK, hD0, hN⟩ := hv
  have hx := B.exec
  have hb := B.bytes
  have hr := B.returns
  have hts := atoms_spec (ws := wsX5_placeFor) B.pre
  have hown : s.vm.findClass RX5 = some m.cls := findClass_of_methodNamed B.named
  have hlk := B.notSynchronized
  have hD : ∀ (M : mk_M) (L : Nat → Int64), va_D (mk_A E) (mk_wl E M L) := fun _ _ => mk_D hD0
  have C0 : mk_C p s m [.ref (E.1 0), .int a1].toArray meth c cX5_placeFor 3 wsX5_placeFor RX5 (some .int) D E := ⟨hx, hb, hml, hown, hts, hr, hlk, hK, hD, hN⟩
  have hS : va_S (mk_A E) s.heap s.heap [] := va_S.rf
  have hl := lv_entry ([.ref (E.1 0), .int a1]) (n := 3) (Nat.le_of_ble_eq_true rfl)
  rw [lg_entry_eq]
  generalize (lg_sl ([.ref (E.1 0), .int a1]) ++ List.replicate (3 - (lg_sl ([.ref (E.1 0), .int a1])).length) Slot.unset).toArray = ls at hl ⊢
  have hl : lv_has ls 3 [(0, .ref (E.1 0)), (1, .int a1)] := hl
  replace h : (f_X5_placeFor_10 mk_F a1 ((M 3 1) - 1) M) = some q := h
  refine lv_aload_n hx hb dX5_placeFor_0 rfl (lv_at hl 0 rfl) ?_
  refine mk_g5_2 hx hb hts in_X5_placeFor_X5 hown hK hP (by decide) rfl (hts (.fieldLink RX5 26 "MixedKernel" "plan" "LMixedKernel$Line;") (by decide +kernel)) dX5_placeFor_1 ?_
  refine mk_n1_1 hx hb hts in_X5_placeFor_X1 hown hK hP (by decide) rfl (va_Nw.use rfl (hN (.fieldLinkNest "MixedKernel" 140 "MixedKernel$Line" "size" "I" "MixedKernel") (by decide +kernel))) dX5_placeFor_4 ?_
  refine lv_iconst (v := 1) hx hb dX5_placeFor_7 (by decide) ?_
  refine lv_isub hx hb dX5_placeFor_8 ?_
  refine lv_istore_n (lv' := [(2, .int ((M 3 1) - 1)), (0, .ref (E.1 0)), (1, .int a1)]) hx hb dX5_placeFor_9 rfl hl (by decide) rfl (fun ls hl => ?_)
  exact w_X5_placeFor_10 C0 mk_F a1 ((M 3 1) - 1) M _ h _ _ _ hP hS (lv_sub hl [1, 2, 0] rfl)
abbrev rm_X5_admitTrial : Room := { frames := 5, cells := 0, slots := 0, locals := 126 }
theorem in_X5_admitTrial_X1 : ∀ w ∈ wsX10, w ∈ wsX5_admitTrial := by decide +kernel
theorem in_X5_admitTrial_X5 : ∀ w ∈ wsX50, w ∈ wsX5_admitTrial := by decide +kernel
def f_X5_admitTrial (M : mk_M) : Option (Int32 × mk_M) := ((f_X4_firstLowResponseThatFails 7 M).bind (fun r_2 => (if r_2 = (-1) then ((f_X4_firstBoundThatFails 7 M).bind (fun r_5 => (if r_5 = (-1) then ((f_X1_become 3 7 M).bind (fun r_8 => (some (0, r_8)))) else (if mk_ob r_5 12 then none else (some (-(M 8 (r_5).toNatClampNeg), M)))))) else ((f_X2_keep 7 r_2 M).bind (fun r_12 => (if mk_ob r_2 12 then none else (some (r_12 8 (r_2).toNatClampNeg, r_12))))))))
set_option maxHeartbeats 4000000 in
set_option maxRecDepth 100000 in
theorem c_X5_admitTrial (l : Launch) (D : va_G) (E : mk_E) (L : Nat → Int64) (M : mk_M) {q : Int32 × mk_M} (h : f_X5_admitTrial M = some q) : Met l yX5_admitTrial wsX5_admitTrial rm_X5_admitTrial (va_Pc [.ref (E.1 0)] (mk_W D E M L)) (mk_Qi D E L q.1 q.2) 0 0 (mk_A E) := by
  refine Met.ofW (cc := cX5_admitTrial) (maxL := 3) (ret := (some .int)) (by decide) rfl ?_
  intro p e s m args below meth c s₁ B hml hv
  obtain ⟨rfl, hP, hK, hD0, hN⟩ := hv
  have hx := B.exec
  have hb := B.bytes
  have hr := B.returns
  have hts := atoms_spec (ws := wsX5_admitTrial) B.pre
  have hown : s.vm.findClass RX5 = some m.cls := findClass_of_methodNamed B.named
  have hlk := B.notSynchronized
  have hD : ∀ (M : mk_M) (L : Nat → Int64), va_D (mk_A E) (mk_wl E M L) := fun _ _ => mk_D hD0
  have C0 : mk_C p s m [.ref (E.1 0)].toArray meth c cX5_admitTrial 3 wsX5_admitTrial RX5 (some .int) D E := ⟨hx, hb, hml, hown, hts, hr, hlk, hK, hD, hN⟩
  have hS : va_S (mk_A E) s.heap s.heap [] := va_S.rf
  have hl := lv_entry ([.ref (E.1 0)]) (n := 3) (Nat.le_of_ble_eq_true rfl)
  rw [lg_entry_eq]
  generalize (lg_sl ([.ref (E.1 0)]) ++ List.replicate (3 - (lg_sl ([.ref (E.1 0)])).length) Slot.unset).toArray = ls at hl ⊢
  have hl : lv_has ls 3 [(0, .ref (E.1 0))] := hl
  replace h : ((f_X4_firstLowResponseThatFails 7 M).bind (fun r_2 => (if r_2 = (-1) then ((f_X4_firstBoundThatFails 7 M).bind (fun r_5 => (if r_5 = (-1) then ((f_X1_become 3 7 M).bind (fun r_8 => (some (0, r_8)))) else (if mk_ob r_5 12 then none else (some (-(M 8 (r_5).toNatClampNeg), M)))))) else ((f_X2_keep 7 r_2 M).bind (fun r_12 => (if mk_ob r_2 12 then none else (some (r_12 8 (r_2).toNatClampNeg, r_12)))))))) = some q := h
  refine lv_aload_n hx hb dX5_admitTrial_0 rfl (lv_at hl 0 rfl) ?_
  refine mk_g5_0 hx hb hts in_X5_admitTrial_X5 hown hK hP (by decide) rfl (hts (.fieldLink RX5 12 "MixedKernel" "set" "LMixedKernel$TaskSet;") (by decide +kernel)) dX5_admitTrial_1 ?_
  refine lv_aload_n hx hb dX5_admitTrial_4 rfl (lv_at hl 0 rfl) ?_
  refine mk_g5_4 hx hb hts in_X5_admitTrial_X5 hown hK hP (by decide) rfl (hts (.fieldLink RX5 33 "MixedKernel" "trial" "LMixedKernel$Line;") (by decide +kernel)) dX5_admitTrial_5 ?_
  obtain ⟨r_2, e_1, h⟩ := mk_bind h
  refine va_calli (va_runV (As := [.ref (E.1 7)]) (rest := []) ⟨hx, hb, hml, hown, hts⟩ (c_X4_firstLowResponseThatFails l D E L 7 M (by decide) rfl e_1) (cwV 1 hts gX5_admitTrial_X4_firstLowResponseThatFails rfl rfl rfl (by decide +kernel) ⟨Nat.le_of_ble_eq_true rfl, Nat.le_of_ble_eq_true rfl⟩) ⟨mk_W.blind, mk_rc4 hK hP (by decide) rfl, fun U hU hW => ⟨rfl, mk_W.at hU hW hP hK (hD _ _) hN⟩⟩ rfl rfl hl.1 rfl (lv_room (Nat.le_of_ble_eq_true rfl)) dX5_admitTrial_8 ⟨Nat.zero_le _, Nat.zero_le _⟩) hS (fun q _ h => h) (fun q h => h) (fun v_14 u t H1 locs ht hvm hw hB hz1 hk1 hS => ?_)
  subst v_14
  rw [ht] at hB
  replace hP := hB
  clear hB hz1 hk1 hvm ht
  generalize H1 = H at hP hS ⊢
  refine lv_istore_n (lv' := [(1, .int r_2), (0, .ref (E.1 0))]) hx hb dX5_admitTrial_11 rfl hl (by decide) rfl (fun ls hl => ?_)
  refine lv_iload_n hx hb dX5_admitTrial_12 rfl (lv_at hl 0 rfl) ?_
  refine lv_iconst (v := -1) hx hb dX5_admitTrial_13 (by decide) ?_
  refine lv_icmp_eq (tgt := 43) hx hb dX5_admitTrial_14 (by decide) (fun c_3 => ?_) (fun c_3 => ?_)
  · replace h := (if_pos c_3).symm.trans h
    refine lv_aload_n hx hb dX5_admitTrial_43 rfl (lv_at hl 1 rfl) ?_
    refine mk_g5_0 hx hb hts in_X5_admitTrial_X5 hown hK hP (by decide) rfl (hts (.fieldLink RX5 12 "MixedKernel" "set" "LMixedKernel$TaskSet;") (by decide +kernel)) dX5_admitTrial_44 ?_
    refine lv_aload_n hx hb dX5_admitTrial_47 rfl (lv_at hl 1 rfl) ?_
    refine mk_g5_4 hx hb hts in_X5_admitTrial_X5 hown hK hP (by decide) rfl (hts (.fieldLink RX5 33 "MixedKernel" "trial" "LMixedKernel$Line;") (by decide +kernel)) dX5_admitTrial_48 ?_
    obtain ⟨r_5, e_4, h⟩ := mk_bind h
    refine va_calli (va_runV (As := [.ref (E.1 7)]) (rest := []) ⟨hx, hb, hml, hown, hts⟩ (c_X4_firstBoundThatFails l D E L 7 M (by decide) rfl e_4) (cwV 1 hts gX5_admitTrial_X4_firstBoundThatFails rfl rfl rfl (by decide +kernel) ⟨Nat.le_of_ble_eq_true rfl, Nat.le_of_ble_eq_true rfl⟩) ⟨mk_W.blind, mk_rc4 hK hP (by decide) rfl, fun U hU hW => ⟨rfl, mk_W.at hU hW hP hK (hD _ _) hN⟩⟩ rfl rfl hl.1 rfl (lv_room (Nat.le_of_ble_eq_true rfl)) dX5_admitTrial_51 ⟨Nat.zero_le _, Nat.zero_le _⟩) hS (fun q _ h => h) (fun q h => h) (fun v_10 u t H1 locs ht hvm hw hB hz1 hk1 hS => ?_)
    subst v_10
    rw [ht] at hB
    replace hP := hB
    clear hB hz1 hk1 hvm ht
    generalize H1 = H at hP hS ⊢
    refine lv_istore_n (lv' := [(2, .int r_5), (1, .int r_2), (0, .ref (E.1 0))]) hx hb dX5_admitTrial_54 rfl hl (by decide) rfl (fun ls hl => ?_)
    refine lv_iload_n hx hb dX5_admitTrial_55 rfl (lv_at hl 0 rfl) ?_
    refine lv_iconst (v := -1) hx hb dX5_admitTrial_56 (by decide) ?_
    refine lv_icmp_eq (tgt := 71) hx hb dX5_admitTrial_57 (by decide) (fun c_6 => ?_) (fun c_6 => ?_)
    · replace h := (if_pos c_6).symm.trans h
      refine lv_aload_n hx hb dX5_admitTrial_71 rfl (lv_at hl 2 rfl) ?_
      refine mk_g5_2 hx hb hts in_X5_admitTrial_X5 hown hK hP (by decide) rfl (hts (.fieldLink RX5 26 "MixedKernel" "plan" "LMixedKernel$Line;") (by decide +kernel)) dX5_admitTrial_72 ?_
      refine lv_aload_n hx hb dX5_admitTrial_75 rfl (lv_at hl 2 rfl) ?_
      refine mk_g5_4 hx hb hts in_X5_admitTrial_X5 hown hK hP (by decide) rfl (hts (.fieldLink RX5 33 "MixedKernel" "trial" "LMixedKernel$Line;") (by decide +kernel)) dX5_admitTrial_76 ?_
      obtain ⟨r_8, e_7, h⟩ := mk_bind h
      refine va_callv (va_runV (As := [.ref (E.1 7)]) (rest := []) ⟨hx, hb, hml, hown, hts⟩ (c_X1_become l D E L 3 7 M (by decide) rfl (by decide) rfl e_7) (cwV 1 hts gX5_admitTrial_X1_become rfl rfl rfl (by decide +kernel) ⟨Nat.le_of_ble_eq_true rfl, Nat.le_of_ble_eq_true rfl⟩) ⟨mk_W.blind, mk_rc1 hK hP (by decide) rfl, fun U hU hW => ⟨rfl, mk_W.at hU hW hP hK (hD _ _) hN⟩⟩ rfl rfl hl.1 rfl (lv_room (Nat.le_of_ble_eq_true rfl)) dX5_admitTrial_79 ⟨Nat.zero_le _, Nat.zero_le _⟩) hS (fun q _ h => h) (fun q h => h) (fun u t H1 locs ht hvm hw hB hz1 hk1 hS => ?_)
      rw [ht] at hB
      replace hP := hB
      clear hB hz1 hk1 hvm ht
      generalize H1 = H at hP hS ⊢
      refine lv_iconst (v := 0) hx hb dX5_admitTrial_82 (by decide) ?_
      replace h := Option.some.inj h
      subst q
      exact W.iret (v := 0) hx hb hr (fun t ht hW => ⟨⟨_, (), rfl, rfl, by rw [← ht] at hP; exact hP⟩, hS.F ht⟩) hS.2.2 dX5_admitTrial_83
    · replace h := (if_neg c_6).symm.trans h
      refine lv_aload_n hx hb dX5_admitTrial_60 rfl (lv_at hl 2 rfl) ?_
      refine mk_g5_4 hx hb hts in_X5_admitTrial_X5 hown hK hP (by decide) rfl (hts (.fieldLink RX5 33 "MixedKernel" "trial" "LMixedKernel$Line;") (by decide +kernel)) dX5_admitTrial_61 ?_
      refine mk_n1_0 hx hb hts in_X5_admitTrial_X1 hown hK hP (by decide) rfl (va_Nw.use rfl (hN (.fieldLinkNest "MixedKernel" 212 "MixedKernel$Line" "ids" "[I" "MixedKernel") (by decide +kernel))) dX5_admitTrial_64 ?_
      refine lv_iload_n hx hb dX5_admitTrial_67 rfl (lv_at hl 0 rfl) ?_
      obtain ⟨i_9, h⟩ := mk_ifn h
      refine mk_ia hx hb hK hP (by decide) rfl i_9 dX5_admitTrial_68 ?_
      refine lv_ineg hx hb dX5_admitTrial_69 ?_
      replace h := Option.some.inj h
      subst q
      exact W.iret (v := -(M 8 (r_5).toNatClampNeg)) hx hb hr (fun t ht hW => ⟨⟨_, (), rfl, rfl, by rw [← ht] at hP; exact hP⟩, hS.F ht⟩) hS.2.2 dX5_admitTrial_70
  · replace h := (if_neg c_3).symm.trans h
    refine lv_aload_n hx hb dX5_admitTrial_17 rfl (lv_at hl 1 rfl) ?_
    refine mk_g5_5 hx hb hts in_X5_admitTrial_X5 hown hK hP (by decide) rfl (hts (.fieldLink RX5 39 "MixedKernel" "refusal" "LMixedKernel$Refusal;") (by decide +kernel)) dX5_admitTrial_18 ?_
    refine lv_aload_n hx hb dX5_admitTrial_21 rfl (lv_at hl 1 rfl) ?_
    refine mk_g5_4 hx hb hts in_X5_admitTrial_X5 hown hK hP (by decide) rfl (hts (.fieldLink RX5 33 "MixedKernel" "trial" "LMixedKernel$Line;") (by decide +kernel)) dX5_admitTrial_22 ?_
    refine lv_iload_n hx hb dX5_admitTrial_25 rfl (lv_at hl 0 rfl) ?_
    refine lv_aload_n hx hb dX5_admitTrial_26 rfl (lv_at hl 1 rfl) ?_
    refine mk_g5_1 hx hb hts in_X5_admitTrial_X5 hown hK hP (by decide) rfl (hts (.fieldLink RX5 20 "MixedKernel" "tasks" "[LMixedKernel$Task;") (by decide +kernel)) dX5_admitTrial_27 ?_
    obtain ⟨r_12, e_11, h⟩ := mk_bind h
    refine va_callv (va_runV (As := [.ref (E.1 7), .int r_2, .ref (E.1 2)]) (rest := []) ⟨hx, hb, hml, hown, hts⟩ (c_X2_keep l D E L 7 r_2 M (by decide) rfl e_11) (cwV 3 hts gX5_admitTrial_X2_keep rfl rfl rfl (by decide +kernel) ⟨Nat.le_of_ble_eq_true rfl, Nat.le_of_ble_eq_true rfl⟩) ⟨mk_W.blind, mk_rc2 hK hP (by decide) rfl, fun U hU hW => ⟨rfl, mk_W.at hU hW hP hK (hD _ _) hN⟩⟩ rfl rfl hl.1 rfl (lv_room (Nat.le_of_ble_eq_true rfl)) dX5_admitTrial_30 ⟨Nat.zero_le _, Nat.zero_le _⟩) hS (fun q _ h => h) (fun q h => h) (fun u t H1 locs ht hvm hw hB hz1 hk1 hS => ?_)
    rw [ht] at hB
    replace hP := hB
    clear hB hz1 hk1 hvm ht
    generalize H1 = H at hP hS ⊢
    refine lv_aload_n hx hb dX5_admitTrial_33 rfl (lv_at hl 1 rfl) ?_
    refine mk_g5_4 hx hb hts in_X5_admitTrial_X5 hown hK hP (by decide) rfl (hts (.fieldLink RX5 33 "MixedKernel" "trial" "LMixedKernel$Line;") (by decide +kernel)) dX5_admitTrial_34 ?_
    refine mk_n1_0 hx hb hts in_X5_admitTrial_X1 hown hK hP (by decide) rfl (va_Nw.use rfl (hN (.fieldLinkNest "MixedKernel" 212 "MixedKernel$Line" "ids" "[I" "MixedKernel") (by decide +kernel))) dX5_admitTrial_37 ?_
    refine lv_iload_n hx hb dX5_admitTrial_40 rfl (lv_at hl 0 rfl) ?_
    obtain ⟨i_13, h⟩ := mk_ifn h
    refine mk_ia hx hb hK hP (by decide) rfl i_13 dX5_admitTrial_41 ?_
    replace h := Option.some.inj h
    subst q
    exact W.iret (v := r_12 8 (r_2).toNatClampNeg) hx hb hr (fun t ht hW => ⟨⟨_, (), rfl, rfl, by rw [← ht] at hP; exact hP⟩, hS.F ht⟩) hS.2.2 dX5_admitTrial_42
abbrev rm_X5_pendingJobs : Room := { frames := 0, cells := 0, slots := 0, locals := 0 }
theorem in_X5_pendingJobs_X3 : ∀ w ∈ wsX30, w ∈ wsX5_pendingJobs := by decide +kernel
theorem in_X5_pendingJobs_X5 : ∀ w ∈ wsX50, w ∈ wsX5_pendingJobs := by decide +kernel
def f_X5_pendingJobs_4 : Nat → Int32 → Int32 → mk_M → Option (Int32)
  | 0, _, _, _ => none
  | n + 1, l1, l2, M => (if 12 < l2 then (some l1) else (if mk_ob l2 13 then none else (f_X5_pendingJobs_4 n (l1 + (M (16 + 4 * (l2).toNatClampNeg) 9)) (l2 + 1) M)))
set_option maxHeartbeats 4000000 in
set_option maxRecDepth 100000 in
theorem w_X5_pendingJobs_4 {p : Program} {l : Launch} {e : Env} {s : State} {m : MethodId} {args : Array Value} {below : List Frame} {meth : Method} {c : Code} {D : va_G} {E : mk_E} {L : Nat → Int64} (C0 : mk_C p s m args meth c cX5_pendingJobs 3 wsX5_pendingJobs RX5 (some .int) D E) : ∀ n : Nat, ∀ (l1 : Int32) (l2 : Int32) (M : mk_M) (q : Int32), f_X5_pendingJobs_4 n l1 l2 M = some q → ∀ (H : Heap) (locs : List Loc) (ls : Array Slot), va_P D vwCl (mk_wl E M L) H → va_S (mk_A E) s.heap H locs → lv_has ls 3 [(0, .ref (E.1 0)), (1, .int l1), (2, .int l2)] → W p l e rm_X5_pendingJobs s m args below meth c H locs 0 0 (MQ below (mk_Qi D E L q M) args s 0 0 (mk_A E)) (F0 m 4 ls []) := by
  obtain ⟨hx, hb, hml, hown, hts, hr, hlk, hK, hD, hN⟩ := id C0
  intro n
  induction n with
  | zero =>
    intro l1 l2 M q h
    cases h
  | succ n ih =>
    intro l1 l2 M q h H locs ls hP hS hl
    replace h : (if 12 < l2 then (some l1) else (if mk_ob l2 13 then none else (f_X5_pendingJobs_4 n (l1 + (M (16 + 4 * (l2).toNatClampNeg) 9)) (l2 + 1) M))) = some q := h
    refine lv_iload_n hx hb dX5_pendingJobs_4 rfl (lv_at hl 2 rfl) ?_
    refine lv_bipush (v := 12) hx hb dX5_pendingJobs_5 (by decide) ?_
    refine lv_icmp_gt (tgt := 28) hx hb dX5_pendingJobs_7 (by decide) (fun c_1 => ?_) (fun c_1 => ?_)
    · replace h := (if_pos c_1).symm.trans h
      refine lv_iload_n hx hb dX5_pendingJobs_28 rfl (lv_at hl 1 rfl) ?_
      replace h := Option.some.inj h
      subst q
      exact W.iret (v := l1) hx hb hr (fun t ht hW => ⟨⟨_, (), rfl, rfl, by rw [← ht] at hP; exact hP⟩, hS.F ht⟩) hS.2.2 dX5_pendingJobs_29
    · replace h := (if_neg c_1).symm.trans h
      refine lv_iload_n hx hb dX5_pendingJobs_10 rfl (lv_at hl 1 rfl) ?_
      refine lv_aload_n hx hb dX5_pendingJobs_11 rfl (lv_at hl 0 rfl) ?_
      refine mk_g5_1 hx hb hts in_X5_pendingJobs_X5 hown hK hP (by decide) rfl (hts (.fieldLink RX5 20 "MixedKernel" "tasks" "[LMixedKernel$Task;") (by decide +kernel)) dX5_pendingJobs_12 ?_
      refine lv_iload_n hx hb dX5_pendingJobs_15 rfl (lv_at hl 2 rfl) ?_
      obtain ⟨i_2, h⟩ := mk_ifn h
      have k_3 := mk_kd_task i_2
      have w_4 := mk_s3 k_3.1
      refine mk_aa hx hb hK hP (by decide) rfl i_2 dX5_pendingJobs_16 ?_
      refine mk_n3_9 hx hb hts in_X5_pendingJobs_X3 hown hK hP (Nat.lt_trans k_3.2 (by decide)) k_3.1 (va_Nw.use rfl (hN (.fieldLinkNest "MixedKernel" 120 "MixedKernel$Task" "pending" "I" "MixedKernel") (by decide +kernel))) dX5_pendingJobs_17 ?_
      refine lv_iadd hx hb dX5_pendingJobs_20 ?_
      refine lv_istore_n (lv' := [(1, .int (l1 + (M (16 + 4 * (l2).toNatClampNeg) 9))), (0, .ref (E.1 0)), (2, .int l2)]) hx hb dX5_pendingJobs_21 rfl hl (by decide) rfl (fun ls hl => ?_)
      refine lv_iinc (v := l2 + 1) (lv' := [(2, .int (l2 + 1)), (1, .int (l1 + (M (16 + 4 * (l2).toNatClampNeg) 9))), (0, .ref (E.1 0))]) hx hb dX5_pendingJobs_22 hl (k := 2) rfl rfl (by decide) rfl (fun ls hl => ?_)
      refine lv_goto (tgt := 4) hx hb dX5_pendingJobs_25 (by decide) ?_
      exact ih (l1 + (M (16 + 4 * (l2).toNatClampNeg) 9)) (l2 + 1) M _ h _ _ _ hP hS (lv_sub hl [2, 1, 0] rfl)
def f_X5_pendingJobs (M : mk_M) : Option (Int32) := (f_X5_pendingJobs_4 mk_F 0 1 M)
set_option maxHeartbeats 4000000 in
set_option maxRecDepth 100000 in
theorem c_X5_pendingJobs (l : Launch) (D : va_G) (E : mk_E) (L : Nat → Int64) (M : mk_M) {q : Int32} (h : f_X5_pendingJobs M = some q) : Met l yX5_pendingJobs wsX5_pendingJobs rm_X5_pendingJobs (va_Pc [.ref (E.1 0)] (mk_W D E M L)) (mk_Qi D E L q M) 0 0 (mk_A E) := by
  refine Met.ofW (cc := cX5_pendingJobs) (maxL := 3) (ret := (some .int)) (by decide) rfl ?_
  intro p e s m args below meth c s₁ B hml hv
  obtain ⟨rfl, hP, hK, hD0, hN⟩ := hv
  have hx := B.exec
  have hb := B.bytes
  have hr := B.returns
  have hts := atoms_spec (ws := wsX5_pendingJobs) B.pre
  have hown : s.vm.findClass RX5 = some m.cls := findClass_of_methodNamed B.named
  have hlk := B.notSynchronized
  have hD : ∀ (M : mk_M) (L : Nat → Int64), va_D (mk_A E) (mk_wl E M L) := fun _ _ => mk_D hD0
  have C0 : mk_C p s m [.ref (E.1 0)].toArray meth c cX5_pendingJobs 3 wsX5_pendingJobs RX5 (some .int) D E := ⟨hx, hb, hml, hown, hts, hr, hlk, hK, hD, hN⟩
  have hS : va_S (mk_A E) s.heap s.heap [] := va_S.rf
  have hl := lv_entry ([.ref (E.1 0)]) (n := 3) (Nat.le_of_ble_eq_true rfl)
  rw [lg_entry_eq]
  generalize (lg_sl ([.ref (E.1 0)]) ++ List.replicate (3 - (lg_sl ([.ref (E.1 0)])).length) Slot.unset).toArray = ls at hl ⊢
  have hl : lv_has ls 3 [(0, .ref (E.1 0))] := hl
  replace h : (f_X5_pendingJobs_4 mk_F 0 1 M) = some q := h
  refine lv_iconst (v := 0) hx hb dX5_pendingJobs_0 (by decide) ?_
  refine lv_istore_n (lv' := [(1, .int 0), (0, .ref (E.1 0))]) hx hb dX5_pendingJobs_1 rfl hl (by decide) rfl (fun ls hl => ?_)
  refine lv_iconst (v := 1) hx hb dX5_pendingJobs_2 (by decide) ?_
  refine lv_istore_n (lv' := [(2, .int 1), (1, .int 0), (0, .ref (E.1 0))]) hx hb dX5_pendingJobs_3 rfl hl (by decide) rfl (fun ls hl => ?_)
  exact w_X5_pendingJobs_4 C0 mk_F 0 1 M _ h _ _ _ hP hS (lv_sub hl [2, 1, 0] rfl)
