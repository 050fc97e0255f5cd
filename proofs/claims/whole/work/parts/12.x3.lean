abbrev rm_X3_isLate : Room := { frames := 0, cells := 0, slots := 0, locals := 0 }
theorem in_X3_isLate_X3 : ∀ w ∈ wsX30, w ∈ wsX3_isLate := by decide +kernel
def f_X3_isLate (x0 : Nat) (a1 : Int32) (a2 : Int32) (M : mk_M) : Option (Int32) := (if mk_ob a1 8 then none else (if a2 ≤ ((M (x0+2) (a1).toNatClampNeg) + (M x0 1)) then (some 0) else (some 1)))
set_option maxHeartbeats 4000000 in
set_option maxRecDepth 100000 in
theorem c_X3_isLate (l : Launch) (D : va_G) (E : mk_E) (L : Nat → Int64) (x0 : Nat) (a1 : Int32) (a2 : Int32) (M : mk_M) (hx_x0 : x0 < 94) (hk_x0 : mk_kd x0 = 3) {q : Int32} (h : f_X3_isLate x0 a1 a2 M = some q) : Met l yX3_isLate wsX3_isLate rm_X3_isLate (va_Pc [.ref (E.1 x0), .int a1, .int a2] (mk_W D E M L)) (mk_Qi D E L q M) 0 0 (mk_A E) := by
  have ha_x0 := mk_s3 hk_x0
  refine Met.ofW (cc := cX3_isLate) (maxL := 3) (ret := (some .boolean)) (by decide) rfl ?_
  intro p e s m args below meth c s₁ B hml hv
  obtain ⟨rfl, hP, hK, hD0, hN⟩ := hv
  have hx := B.exec
  have hb := B.bytes
  have hr := B.returns
  have hts := atoms_spec (ws := wsX3_isLate) B.pre
  have hown : s.vm.findClass RX3 = some m.cls := findClass_of_methodNamed B.named
  have hlk := B.notSynchronized
  have hD : ∀ (M : mk_M) (L : Nat → Int64), va_D (mk_A E) (mk_wl E M L) := fun _ _ => mk_D hD0
  have C0 : mk_C p s m [.ref (E.1 x0), .int a1, .int a2].toArray meth c cX3_isLate 3 wsX3_isLate RX3 (some .boolean) D E := ⟨hx, hb, hml, hown, hts, hr, hlk, hK, hD, hN⟩
  have hS : va_S (mk_A E) s.heap s.heap [] := va_S.rf
  have hl := lv_entry ([.ref (E.1 x0), .int a1, .int a2]) (n := 3) (Nat.le_of_ble_eq_true rfl)
  rw [lg_entry_eq]
  generalize (lg_sl ([.ref (E.1 x0), .int a1, .int a2]) ++ List.replicate (3 - (lg_sl ([.ref (E.1 x0), .int a1, .int a2])).length) Slot.unset).toArray = ls at hl ⊢
  have hl : lv_has ls 3 [(0, .ref (E.1 x0)), (1, .int a1), (2, .int a2)] := hl
  replace h : (if mk_ob a1 8 then none else (if a2 ≤ ((M (x0+2) (a1).toNatClampNeg) + (M x0 1)) then (some 0) else (some 1))) = some q := h
  refine lv_iload_n hx hb dX3_isLate_0 rfl (lv_at hl 2 rfl) ?_
  refine lv_aload_n hx hb dX3_isLate_1 rfl (lv_at hl 0 rfl) ?_
  refine mk_g3_12 hx hb hts in_X3_isLate_X3 hown hK hP hx_x0 hk_x0 (hts (.fieldLink RX3 25 "MixedKernel$Task" "releaseTimes" "[I") (by decide +kernel)) dX3_isLate_2 ?_
  refine lv_iload_n hx hb dX3_isLate_5 rfl (lv_at hl 1 rfl) ?_
  obtain ⟨i_1, h⟩ := mk_ifn h
  refine mk_ia hx hb hK hP ha_x0.2.1.1 ha_x0.2.1.2.1 (by rw [ha_x0.2.1.2.2]; exact i_1) dX3_isLate_6 ?_
  refine lv_aload_n hx hb dX3_isLate_7 rfl (lv_at hl 0 rfl) ?_
  refine mk_g3_1 hx hb hts in_X3_isLate_X3 hown hK hP hx_x0 hk_x0 (hts (.fieldLink RX3 15 "MixedKernel$Task" "deadline" "I") (by decide +kernel)) dX3_isLate_8 ?_
  refine lv_iadd hx hb dX3_isLate_11 ?_
  refine lv_icmp_le (tgt := 19) hx hb dX3_isLate_12 (by decide) (fun c_2 => ?_) (fun c_2 => ?_)
  · replace h := (if_pos c_2).symm.trans h
    refine lv_iconst (v := 0) hx hb dX3_isLate_19 (by decide) ?_
    replace h := Option.some.inj h
    subst q
    exact W.zret (v := 0) hx hb hr rfl (fun t ht hW => ⟨⟨_, (), rfl, rfl, by rw [← ht] at hP; exact hP⟩, hS.F ht⟩) hS.2.2 dX3_isLate_20
  · replace h := (if_neg c_2).symm.trans h
    refine lv_iconst (v := 1) hx hb dX3_isLate_15 (by decide) ?_
    refine lv_goto (tgt := 20) hx hb dX3_isLate_16 (by decide) ?_
    replace h := Option.some.inj h
    subst q
    exact W.zret (v := 1) hx hb hr rfl (fun t ht hW => ⟨⟨_, (), rfl, rfl, by rw [← ht] at hP; exact hP⟩, hS.F ht⟩) hS.2.2 dX3_isLate_20
abbrev rm_X3_chargeFirst : Room := { frames := 2, cells := 0, slots := 0, locals := 42 }
theorem in_X3_chargeFirst_X3 : ∀ w ∈ wsX30, w ∈ wsX3_chargeFirst := by decide +kernel
def f_X3_chargeFirst (x0 : Nat) (a1 : Int32) (M : mk_M) : Option (Int32 × mk_M) := ((f_X5_slotOf (((M x0 5) - (M x0 9)) + 1) M).bind (fun r_2 => (if mk_ob r_2 8 then none else (if ((mk_st (mk_st M x0 7 ((M x0 7) + 1)) x0 10 (((mk_st M x0 7 ((M x0 7) + 1)) x0 10) + 1)) (x0+1) (r_2).toNatClampNeg) ≤ ((mk_st (mk_st M x0 7 ((M x0 7) + 1)) x0 10 (((mk_st M x0 7 ((M x0 7) + 1)) x0 10) + 1)) x0 10) then (if mk_ob r_2 8 then none else ((f_X3_isLate x0 r_2 a1 (mk_st (mk_st (mk_st M x0 7 ((M x0 7) + 1)) x0 10 (((mk_st M x0 7 ((M x0 7) + 1)) x0 10) + 1)) (x0+3) (r_2).toNatClampNeg a1)).bind (fun r_7 => (if r_7 = 0 then (some (1, mk_st (mk_st (mk_st (mk_st (mk_st M x0 7 ((M x0 7) + 1)) x0 10 (((mk_st M x0 7 ((M x0 7) + 1)) x0 10) + 1)) (x0+3) (r_2).toNatClampNeg a1) x0 9 (((mk_st (mk_st (mk_st M x0 7 ((M x0 7) + 1)) x0 10 (((mk_st M x0 7 ((M x0 7) + 1)) x0 10) + 1)) (x0+3) (r_2).toNatClampNeg a1) x0 9) - 1)) x0 10 0)) else (some (1, mk_st (mk_st (mk_st (mk_st (mk_st (mk_st M x0 7 ((M x0 7) + 1)) x0 10 (((mk_st M x0 7 ((M x0 7) + 1)) x0 10) + 1)) (x0+3) (r_2).toNatClampNeg a1) x0 8 (((mk_st (mk_st (mk_st M x0 7 ((M x0 7) + 1)) x0 10 (((mk_st M x0 7 ((M x0 7) + 1)) x0 10) + 1)) (x0+3) (r_2).toNatClampNeg a1) x0 8) + 1)) x0 9 (((mk_st (mk_st (mk_st (mk_st M x0 7 ((M x0 7) + 1)) x0 10 (((mk_st M x0 7 ((M x0 7) + 1)) x0 10) + 1)) (x0+3) (r_2).toNatClampNeg a1) x0 8 (((mk_st (mk_st (mk_st M x0 7 ((M x0 7) + 1)) x0 10 (((mk_st M x0 7 ((M x0 7) + 1)) x0 10) + 1)) (x0+3) (r_2).toNatClampNeg a1) x0 8) + 1)) x0 9) - 1)) x0 10 0)))))) else (some (0, mk_st (mk_st M x0 7 ((M x0 7) + 1)) x0 10 (((mk_st M x0 7 ((M x0 7) + 1)) x0 10) + 1)))))))
set_option maxHeartbeats 4000000 in
set_option maxRecDepth 100000 in
theorem c_X3_chargeFirst (l : Launch) (D : va_G) (E : mk_E) (L : Nat → Int64) (x0 : Nat) (a1 : Int32) (M : mk_M) (hx_x0 : x0 < 94) (hk_x0 : mk_kd x0 = 3) {q : Int32 × mk_M} (h : f_X3_chargeFirst x0 a1 M = some q) : Met l yX3_chargeFirst wsX3_chargeFirst rm_X3_chargeFirst (va_Pc [.ref (E.1 x0), .int a1] (mk_W D E M L)) (mk_Qi D E L q.1 q.2) 0 0 (mk_A E) := by
  have ha_x0 := mk_s3 hk_x0
  refine Met.ofW (cc := cX3_chargeFirst) (maxL := 3) (ret := (some .boolean)) (by decide) rfl ?_
  intro p e s m args below meth c s₁ B hml hv
  obtain ⟨rfl, hP, hK, hD0, hN⟩ := hv
  have hx := B.exec
  have hb := B.bytes
  have hr := B.returns
  have hts := atoms_spec (ws := wsX3_chargeFirst) B.pre
  have hown : s.vm.findClass RX3 = some m.cls := findClass_of_methodNamed B.named
  have hlk := B.notSynchronized
  have hD : ∀ (M : mk_M) (L : Nat → Int64), va_D (mk_A E) (mk_wl E M L) := fun _ _ => mk_D hD0
  have C0 : mk_C p s m [.ref (E.1 x0), .int a1].toArray meth c cX3_chargeFirst 3 wsX3_chargeFirst RX3 (some .boolean) D E := ⟨hx, hb, hml, hown, hts, hr, hlk, hK, hD, hN⟩
  have hS : va_S (mk_A E) s.heap s.heap [] := va_S.rf
  have hl := lv_entry ([.ref (E.1 x0), .int a1]) (n := 3) (Nat.le_of_ble_eq_true rfl)
  rw [lg_entry_eq]
  generalize (lg_sl ([.ref (E.1 x0), .int a1]) ++ List.replicate (3 - (lg_sl ([.ref (E.1 x0), .int a1])).length) Slot.unset).toArray = ls at hl ⊢
  have hl : lv_has ls 3 [(0, .ref (E.1 x0)), (1, .int a1)] := hl
  replace h : ((f_X5_slotOf (((M x0 5) - (M x0 9)) + 1) M).bind (fun r_2 => (if mk_ob r_2 8 then none else (if ((mk_st (mk_st M x0 7 ((M x0 7) + 1)) x0 10 (((mk_st M x0 7 ((M x0 7) + 1)) x0 10) + 1)) (x0+1) (r_2).toNatClampNeg) ≤ ((mk_st (mk_st M x0 7 ((M x0 7) + 1)) x0 10 (((mk_st M x0 7 ((M x0 7) + 1)) x0 10) + 1)) x0 10) then (if mk_ob r_2 8 then none else ((f_X3_isLate x0 r_2 a1 (mk_st (mk_st (mk_st M x0 7 ((M x0 7) + 1)) x0 10 (((mk_st M x0 7 ((M x0 7) + 1)) x0 10) + 1)) (x0+3) (r_2).toNatClampNeg a1)).bind (fun r_7 => (if r_7 = 0 then (some (1, mk_st (mk_st (mk_st (mk_st (mk_st M x0 7 ((M x0 7) + 1)) x0 10 (((mk_st M x0 7 ((M x0 7) + 1)) x0 10) + 1)) (x0+3) (r_2).toNatClampNeg a1) x0 9 (((mk_st (mk_st (mk_st M x0 7 ((M x0 7) + 1)) x0 10 (((mk_st M x0 7 ((M x0 7) + 1)) x0 10) + 1)) (x0+3) (r_2).toNatClampNeg a1) x0 9) - 1)) x0 10 0)) else (some (1, mk_st (mk_st (mk_st (mk_st (mk_st (mk_st M x0 7 ((M x0 7) + 1)) x0 10 (((mk_st M x0 7 ((M x0 7) + 1)) x0 10) + 1)) (x0+3) (r_2).toNatClampNeg a1) x0 8 (((mk_st (mk_st (mk_st M x0 7 ((M x0 7) + 1)) x0 10 (((mk_st M x0 7 ((M x0 7) + 1)) x0 10) + 1)) (x0+3) (r_2).toNatClampNeg a1) x0 8) + 1)) x0 9 (((mk_st (mk_st (mk_st (mk_st M x0 7 ((M x0 7) + 1)) x0 10 (((mk_st M x0 7 ((M x0 7) + 1)) x0 10) + 1)) (x0+3) (r_2).toNatClampNeg a1) x0 8 (((mk_st (mk_st (mk_st M x0 7 ((M x0 7) + 1)) x0 10 (((mk_st M x0 7 ((M x0 7) + 1)) x0 10) + 1)) (x0+3) (r_2).toNatClampNeg a1) x0 8) + 1)) x0 9) - 1)) x0 10 0)))))) else (some (0, mk_st (mk_st M x0 7 ((M x0 7) + 1)) x0 10 (((mk_st M x0 7 ((M x0 7) + 1)) x0 10) + 1))))))) = some q := h
  refine lv_aload_n hx hb dX3_chargeFirst_0 rfl (lv_at hl 0 rfl) ?_
  refine mk_g3_5 hx hb hts in_X3_chargeFirst_X3 hown hK hP hx_x0 hk_x0 (hts (.fieldLink RX3 38 "MixedKernel$Task" "jobs" "I") (by decide +kernel)) dX3_chargeFirst_1 ?_
  refine lv_aload_n hx hb dX3_chargeFirst_4 rfl (lv_at hl 0 rfl) ?_
  refine mk_g3_9 hx hb hts in_X3_chargeFirst_X3 hown hK hP hx_x0 hk_x0 (hts (.fieldLink RX3 50 "MixedKernel$Task" "pending" "I") (by decide +kernel)) dX3_chargeFirst_5 ?_
  refine lv_isub hx hb dX3_chargeFirst_8 ?_
  refine lv_iconst (v := 1) hx hb dX3_chargeFirst_9 (by decide) ?_
  refine lv_iadd hx hb dX3_chargeFirst_10 ?_
  obtain ⟨r_2, e_1, h⟩ := mk_bind h
  refine va_calli (va_runSN (As := [.int (((M x0 5) - (M x0 9)) + 1)]) (rest := []) ⟨hx, hb, hml, hown, hts⟩ (c_X5_slotOf l D E L (((M x0 5) - (M x0 9)) + 1) M  e_1) ⟨va_cnB 1 hts ggX3_chargeFirst_X5_slotOf rfl rfl rfl (hN (.methodLinkNest "MixedKernel$Task" 60 ⟨"MixedKernel", "slotOf", "(I)I"⟩ "MixedKernel") (by decide +kernel)) (hts (.initialized RX5) (by decide +kernel)) (by decide +kernel) ⟨Nat.le_of_ble_eq_true rfl, Nat.le_of_ble_eq_true rfl⟩, hts (.static yX5_slotOf) (by decide +kernel), trivial⟩ ⟨mk_W.blind, fun U hU hW => ⟨rfl, mk_W.at hU hW hP hK (hD _ _) hN⟩⟩ rfl rfl hl.1 rfl (lv_room (Nat.le_of_ble_eq_true rfl)) dX3_chargeFirst_11 ⟨Nat.zero_le _, Nat.zero_le _⟩) hS (fun q _ h => h) (fun q h => h) (fun v_10 u t H1 locs ht hvm hw hB hz1 hk1 hS => ?_)
  subst v_10
  rw [ht] at hB
  replace hP := hB
  clear hB hz1 hk1 hvm ht
  generalize H1 = H at hP hS ⊢
  refine lv_istore_n (lv' := [(2, .int r_2), (0, .ref (E.1 x0)), (1, .int a1)]) hx hb dX3_chargeFirst_14 rfl hl (by decide) rfl (fun ls hl => ?_)
  refine lv_aload_n hx hb dX3_chargeFirst_15 rfl (lv_at hl 1 rfl) ?_
  refine lv_dup hx hb dX3_chargeFirst_16 rfl ?_
  refine mk_g3_7 hx hb hts in_X3_chargeFirst_X3 hown hK hP hx_x0 hk_x0 (hts (.fieldLink RX3 44 "MixedKernel$Task" "ticks" "I") (by decide +kernel)) dX3_chargeFirst_17 ?_
  refine lv_iconst (v := 1) hx hb dX3_chargeFirst_20 (by decide) ?_
  refine lv_iadd hx hb dX3_chargeFirst_21 ?_
  refine mk_p3_7 hx hb hts in_X3_chargeFirst_X3 hown hK hP hx_x0 hk_x0 (hD _ _) hS (hts (.fieldLink RX3 44 "MixedKernel$Task" "ticks" "I") (by decide +kernel)) dX3_chargeFirst_22 (fun H locs hP hS => ?_)
  refine lv_aload_n hx hb dX3_chargeFirst_25 rfl (lv_at hl 1 rfl) ?_
  refine lv_dup hx hb dX3_chargeFirst_26 rfl ?_
  refine mk_g3_10 hx hb hts in_X3_chargeFirst_X3 hown hK hP hx_x0 hk_x0 (hts (.fieldLink RX3 53 "MixedKernel$Task" "charged" "I") (by decide +kernel)) dX3_chargeFirst_27 ?_
  refine lv_iconst (v := 1) hx hb dX3_chargeFirst_30 (by decide) ?_
  refine lv_iadd hx hb dX3_chargeFirst_31 ?_
  refine mk_p3_10 hx hb hts in_X3_chargeFirst_X3 hown hK hP hx_x0 hk_x0 (hD _ _) hS (hts (.fieldLink RX3 53 "MixedKernel$Task" "charged" "I") (by decide +kernel)) dX3_chargeFirst_32 (fun H locs hP hS => ?_)
  refine lv_aload_n hx hb dX3_chargeFirst_35 rfl (lv_at hl 1 rfl) ?_
  refine mk_g3_10 hx hb hts in_X3_chargeFirst_X3 hown hK hP hx_x0 hk_x0 (hts (.fieldLink RX3 53 "MixedKernel$Task" "charged" "I") (by decide +kernel)) dX3_chargeFirst_36 ?_
  refine lv_aload_n hx hb dX3_chargeFirst_39 rfl (lv_at hl 1 rfl) ?_
  refine mk_g3_11 hx hb hts in_X3_chargeFirst_X3 hown hK hP hx_x0 hk_x0 (hts (.fieldLink RX3 21 "MixedKernel$Task" "demands" "[I") (by decide +kernel)) dX3_chargeFirst_40 ?_
  refine lv_iload_n hx hb dX3_chargeFirst_43 rfl (lv_at hl 0 rfl) ?_
  obtain ⟨i_3, h⟩ := mk_ifn h
  refine mk_ia hx hb hK hP ha_x0.1.1 ha_x0.1.2.1 (by rw [ha_x0.1.2.2]; exact i_3) dX3_chargeFirst_44 ?_
  refine lv_icmp_ge (tgt := 50) hx hb dX3_chargeFirst_45 (by decide) (fun c_4 => ?_) (fun c_4 => ?_)
  · replace h := (if_pos c_4).symm.trans h
    refine lv_aload_n hx hb dX3_chargeFirst_50 rfl (lv_at hl 1 rfl) ?_
    refine mk_g3_13 hx hb hts in_X3_chargeFirst_X3 hown hK hP hx_x0 hk_x0 (hts (.fieldLink RX3 28 "MixedKernel$Task" "endTimes" "[I") (by decide +kernel)) dX3_chargeFirst_51 ?_
    refine lv_iload_n hx hb dX3_chargeFirst_54 rfl (lv_at hl 0 rfl) ?_
    refine lv_iload_n hx hb dX3_chargeFirst_55 rfl (lv_at hl 2 rfl) ?_
    obtain ⟨i_5, h⟩ := mk_ifn h
    refine mk_is hx hb hK hP (hD _ _) hS ha_x0.2.2.1 ha_x0.2.2.2.1 (by rw [ha_x0.2.2.2.2]; exact i_5) dX3_chargeFirst_56 (fun H locs hP hS => ?_)
    refine lv_aload_n hx hb dX3_chargeFirst_57 rfl (lv_at hl 1 rfl) ?_
    refine lv_iload_n hx hb dX3_chargeFirst_58 rfl (lv_at hl 0 rfl) ?_
    refine lv_iload_n hx hb dX3_chargeFirst_59 rfl (lv_at hl 2 rfl) ?_
    obtain ⟨r_7, e_6, h⟩ := mk_bind h
    refine va_calli (va_runV (As := [.int r_2, .int a1]) (rest := []) ⟨hx, hb, hml, hown, hts⟩ (c_X3_isLate l D E L x0 r_2 a1 (mk_st (mk_st (mk_st M x0 7 ((M x0 7) + 1)) x0 10 (((mk_st M x0 7 ((M x0 7) + 1)) x0 10) + 1)) (x0+3) (r_2).toNatClampNeg a1) hx_x0 hk_x0 e_6) (cwV 2 hts gX3_chargeFirst_X3_isLate rfl rfl rfl (by decide +kernel) ⟨Nat.le_of_ble_eq_true rfl, Nat.le_of_ble_eq_true rfl⟩) ⟨mk_W.blind, mk_rc3 hK hP hx_x0 hk_x0, fun U hU hW => ⟨rfl, mk_W.at hU hW hP hK (hD _ _) hN⟩⟩ rfl rfl hl.1 rfl (lv_room (Nat.le_of_ble_eq_true rfl)) dX3_chargeFirst_60 ⟨Nat.zero_le _, Nat.zero_le _⟩) hS (fun q _ h => h) (fun q h => h) (fun v_9 u t H1 locs ht hvm hw hB hz1 hk1 hS => ?_)
    subst v_9
    rw [ht] at hB
    replace hP := hB
    clear hB hz1 hk1 hvm ht
    generalize H1 = H at hP hS ⊢
    refine lv_if_eq (tgt := 76) hx hb dX3_chargeFirst_63 (by decide) (fun c_8 => ?_) (fun c_8 => ?_)
    · replace h := (if_pos c_8).symm.trans h
      refine lv_aload_n hx hb dX3_chargeFirst_76 rfl (lv_at hl 1 rfl) ?_
      refine lv_dup hx hb dX3_chargeFirst_77 rfl ?_
      refine mk_g3_9 hx hb hts in_X3_chargeFirst_X3 hown hK hP hx_x0 hk_x0 (hts (.fieldLink RX3 50 "MixedKernel$Task" "pending" "I") (by decide +kernel)) dX3_chargeFirst_78 ?_
      refine lv_iconst (v := 1) hx hb dX3_chargeFirst_81 (by decide) ?_
      refine lv_isub hx hb dX3_chargeFirst_82 ?_
      refine mk_p3_9 hx hb hts in_X3_chargeFirst_X3 hown hK hP hx_x0 hk_x0 (hD _ _) hS (hts (.fieldLink RX3 50 "MixedKernel$Task" "pending" "I") (by decide +kernel)) dX3_chargeFirst_83 (fun H locs hP hS => ?_)
      refine lv_aload_n hx hb dX3_chargeFirst_86 rfl (lv_at hl 1 rfl) ?_
      refine lv_iconst (v := 0) hx hb dX3_chargeFirst_87 (by decide) ?_
      refine mk_p3_10 hx hb hts in_X3_chargeFirst_X3 hown hK hP hx_x0 hk_x0 (hD _ _) hS (hts (.fieldLink RX3 53 "MixedKernel$Task" "charged" "I") (by decide +kernel)) dX3_chargeFirst_88 (fun H locs hP hS => ?_)
      refine lv_iconst (v := 1) hx hb dX3_chargeFirst_91 (by decide) ?_
      replace h := Option.some.inj h
      subst q
      exact W.zret (v := 1) hx hb hr rfl (fun t ht hW => ⟨⟨_, (), rfl, rfl, by rw [← ht] at hP; exact hP⟩, hS.F ht⟩) hS.2.2 dX3_chargeFirst_92
    · replace h := (if_neg c_8).symm.trans h
      refine lv_aload_n hx hb dX3_chargeFirst_66 rfl (lv_at hl 1 rfl) ?_
      refine lv_dup hx hb dX3_chargeFirst_67 rfl ?_
      refine mk_g3_8 hx hb hts in_X3_chargeFirst_X3 hown hK hP hx_x0 hk_x0 (hts (.fieldLink RX3 47 "MixedKernel$Task" "endedLate" "I") (by decide +kernel)) dX3_chargeFirst_68 ?_
      refine lv_iconst (v := 1) hx hb dX3_chargeFirst_71 (by decide) ?_
      refine lv_iadd hx hb dX3_chargeFirst_72 ?_
      refine mk_p3_8 hx hb hts in_X3_chargeFirst_X3 hown hK hP hx_x0 hk_x0 (hD _ _) hS (hts (.fieldLink RX3 47 "MixedKernel$Task" "endedLate" "I") (by decide +kernel)) dX3_chargeFirst_73 (fun H locs hP hS => ?_)
      refine lv_aload_n hx hb dX3_chargeFirst_76 rfl (lv_at hl 1 rfl) ?_
      refine lv_dup hx hb dX3_chargeFirst_77 rfl ?_
      refine mk_g3_9 hx hb hts in_X3_chargeFirst_X3 hown hK hP hx_x0 hk_x0 (hts (.fieldLink RX3 50 "MixedKernel$Task" "pending" "I") (by decide +kernel)) dX3_chargeFirst_78 ?_
      refine lv_iconst (v := 1) hx hb dX3_chargeFirst_81 (by decide) ?_
      refine lv_isub hx hb dX3_chargeFirst_82 ?_
      refine mk_p3_9 hx hb hts in_X3_chargeFirst_X3 hown hK hP hx_x0 hk_x0 (hD _ _) hS (hts (.fieldLink RX3 50 "MixedKernel$Task" "pending" "I") (by decide +kernel)) dX3_chargeFirst_83 (fun H locs hP hS => ?_)
      refine lv_aload_n hx hb dX3_chargeFirst_86 rfl (lv_at hl 1 rfl) ?_
      refine lv_iconst (v := 0) hx hb dX3_chargeFirst_87 (by decide) ?_
      refine mk_p3_10 hx hb hts in_X3_chargeFirst_X3 hown hK hP hx_x0 hk_x0 (hD _ _) hS (hts (.fieldLink RX3 53 "MixedKernel$Task" "charged" "I") (by decide +kernel)) dX3_chargeFirst_88 (fun H locs hP hS => ?_)
      refine lv_iconst (v := 1) hx hb dX3_chargeFirst_91 (by decide) ?_
      replace h := Option.some.inj h
      subst q
      exact W.zret (v := 1) hx hb hr rfl (fun t ht hW => ⟨⟨_, (), rfl, rfl, by rw [← ht] at hP; exact hP⟩, hS.F ht⟩) hS.2.2 dX3_chargeFirst_92
  · replace h := (if_neg c_4).symm.trans h
    refine lv_iconst (v := 0) hx hb dX3_chargeFirst_48 (by decide) ?_
    replace h := Option.some.inj h
    subst q
    exact W.zret (v := 0) hx hb hr rfl (fun t ht hW => ⟨⟨_, (), rfl, rfl, by rw [← ht] at hP; exact hP⟩, hS.F ht⟩) hS.2.2 dX3_chargeFirst_49
abbrev rm_X3_isHigh : Room := { frames := 0, cells := 0, slots := 0, locals := 0 }
theorem in_X3_isHigh_X3 : ∀ w ∈ wsX30, w ∈ wsX3_isHigh := by decide +kernel
def f_X3_isHigh (x0 : Nat) (M : mk_M) : Option (Int32) := (if (M x0 3) ≤ 0 then (some 0) else (some 1))
set_option maxHeartbeats 4000000 in
set_option maxRecDepth 100000 in
theorem c_X3_isHigh (l : Launch) (D : va_G) (E : mk_E) (L : Nat → Int64) (x0 : Nat) (M : mk_M) (hx_x0 : x0 < 94) (hk_x0 : mk_kd x0 = 3) {q : Int32} (h : f_X3_isHigh x0 M = some q) : Met l yX3_isHigh wsX3_isHigh rm_X3_isHigh (va_Pc [.ref (E.1 x0)] (mk_W D E M L)) (mk_Qi D E L q M) 0 0 (mk_A E) := by
  have ha_x0 := mk_s3 hk_x0
  refine Met.ofW (cc := cX3_isHigh) (maxL := 1) (ret := (some .boolean)) (by decide) rfl ?_
  intro p e s m args below meth c s₁ B hml hv
  obtain ⟨rfl, hP, hK, hD0, hN⟩ := hv
  have hx := B.exec
  have hb := B.bytes
  have hr := B.returns
  have hts := atoms_spec (ws := wsX3_isHigh) B.pre
  have hown : s.vm.findClass RX3 = some m.cls := findClass_of_methodNamed B.named
  have hlk := B.notSynchronized
  have hD : ∀ (M : mk_M) (L : Nat → Int64), va_D (mk_A E) (mk_wl E M L) := fun _ _ => mk_D hD0
  have C0 : mk_C p s m [.ref (E.1 x0)].toArray meth c cX3_isHigh 1 wsX3_isHigh RX3 (some .boolean) D E := ⟨hx, hb, hml, hown, hts, hr, hlk, hK, hD, hN⟩
  have hS : va_S (mk_A E) s.heap s.heap [] := va_S.rf
  have hl := lv_entry ([.ref (E.1 x0)]) (n := 1) (Nat.le_of_ble_eq_true rfl)
  rw [lg_entry_eq]
  generalize (lg_sl ([.ref (E.1 x0)]) ++ List.replicate (1 - (lg_sl ([.ref (E.1 x0)])).length) Slot.unset).toArray = ls at hl ⊢
  have hl : lv_has ls 1 [(0, .ref (E.1 x0))] := hl
  replace h : (if (M x0 3) ≤ 0 then (some 0) else (some 1)) = some q := h
  refine lv_aload_n hx hb dX3_isHigh_0 rfl (lv_at hl 0 rfl) ?_
  refine mk_g3_3 hx hb hts in_X3_isHigh_X3 hown hK hP hx_x0 hk_x0 (hts (.fieldLink RX3 31 "MixedKernel$Task" "high" "I") (by decide +kernel)) dX3_isHigh_1 ?_
  refine lv_if_le (tgt := 11) hx hb dX3_isHigh_4 (by decide) (fun c_1 => ?_) (fun c_1 => ?_)
  · replace h := (if_pos c_1).symm.trans h
    refine lv_iconst (v := 0) hx hb dX3_isHigh_11 (by decide) ?_
    replace h := Option.some.inj h
    subst q
    exact W.zret (v := 0) hx hb hr rfl (fun t ht hW => ⟨⟨_, (), rfl, rfl, by rw [← ht] at hP; exact hP⟩, hS.F ht⟩) hS.2.2 dX3_isHigh_12
  · replace h := (if_neg c_1).symm.trans h
    refine lv_iconst (v := 1) hx hb dX3_isHigh_7 (by decide) ?_
    refine lv_goto (tgt := 12) hx hb dX3_isHigh_8 (by decide) ?_
    replace h := Option.some.inj h
    subst q
    exact W.zret (v := 1) hx hb hr rfl (fun t ht hW => ⟨⟨_, (), rfl, rfl, by rw [← ht] at hP; exact hP⟩, hS.F ht⟩) hS.2.2 dX3_isHigh_12
abbrev rm_X3_giveUpPending : Room := { frames := 2, cells := 0, slots := 0, locals := 42 }
theorem in_X3_giveUpPending_X3 : ∀ w ∈ wsX30, w ∈ wsX3_giveUpPending := by decide +kernel
def f_X3_giveUpPending_7 (x0 : Nat) : Nat → Int32 → Int32 → mk_M → Option (Int32 × mk_M)
  | 0, _, _, _ => none
  | n + 1, l1, l2, M => (if l1 ≤ l2 then (some (l1, mk_st (mk_st M x0 9 0) x0 10 0)) else ((f_X5_slotOf ((M x0 5) - l2) M).bind (fun r_3 => (if mk_ob r_3 8 then none else (f_X3_giveUpPending_7 x0 n l1 (l2 + 1) (mk_st M (x0+3) (r_3).toNatClampNeg (-2)))))))
set_option maxHeartbeats 4000000 in
set_option maxRecDepth 100000 in
theorem w_X3_giveUpPending_7 {p : Program} {l : Launch} {e : Env} {s : State} {m : MethodId} {args : Array Value} {below : List Frame} {meth : Method} {c : Code} {D : va_G} {E : mk_E} {L : Nat → Int64} (C0 : mk_C p s m args meth c cX3_giveUpPending 3 wsX3_giveUpPending RX3 (some .int) D E) (x0 : Nat) (hx_x0 : x0 < 94) (hk_x0 : mk_kd x0 = 3) : ∀ n : Nat, ∀ (l1 : Int32) (l2 : Int32) (M : mk_M) (q : Int32 × mk_M), f_X3_giveUpPending_7 x0 n l1 l2 M = some q → ∀ (H : Heap) (locs : List Loc) (ls : Array Slot), va_P D vwCl (mk_wl E M L) H → va_S (mk_A E) s.heap H locs → lv_has ls 3 [(0, .ref (E.1 x0)), (1, .int l1), (2, .int l2)] → W p l e rm_X3_giveUpPending s m args below meth c H locs 0 0 (MQ below (mk_Qi D E L q.1 q.2) args s 0 0 (mk_A E)) (F0 m 7 ls []) := by
  obtain ⟨hx, hb, hml, hown, hts, hr, hlk, hK, hD, hN⟩ := id C0
  have ha_x0 := mk_s3 hk_x0
  intro n
  induction n with
  | zero =>
    intro l1 l2 M q h
    cases h
  | succ n ih =>
    intro l1 l2 M q h H locs ls hP hS hl
    replace h : (if l1 ≤ l2 then (some (l1, mk_st (mk_st M x0 9 0) x0 10 0)) else ((f_X5_slotOf ((M x0 5) - l2) M).bind (fun r_3 => (if mk_ob r_3 8 then none else (f_X3_giveUpPending_7 x0 n l1 (l2 + 1) (mk_st M (x0+3) (r_3).toNatClampNeg (-2))))))) = some q := h
    refine lv_iload_n hx hb dX3_giveUpPending_7 rfl (lv_at hl 2 rfl) ?_
    refine lv_iload_n hx hb dX3_giveUpPending_8 rfl (lv_at hl 1 rfl) ?_
    refine lv_icmp_ge (tgt := 34) hx hb dX3_giveUpPending_9 (by decide) (fun c_1 => ?_) (fun c_1 => ?_)
    · replace h := (if_pos c_1).symm.trans h
      refine lv_aload_n hx hb dX3_giveUpPending_34 rfl (lv_at hl 0 rfl) ?_
      refine lv_iconst (v := 0) hx hb dX3_giveUpPending_35 (by decide) ?_
      refine mk_p3_9 hx hb hts in_X3_giveUpPending_X3 hown hK hP hx_x0 hk_x0 (hD _ _) hS (hts (.fieldLink RX3 50 "MixedKernel$Task" "pending" "I") (by decide +kernel)) dX3_giveUpPending_36 (fun H locs hP hS => ?_)
      refine lv_aload_n hx hb dX3_giveUpPending_39 rfl (lv_at hl 0 rfl) ?_
      refine lv_iconst (v := 0) hx hb dX3_giveUpPending_40 (by decide) ?_
      refine mk_p3_10 hx hb hts in_X3_giveUpPending_X3 hown hK hP hx_x0 hk_x0 (hD _ _) hS (hts (.fieldLink RX3 53 "MixedKernel$Task" "charged" "I") (by decide +kernel)) dX3_giveUpPending_41 (fun H locs hP hS => ?_)
      refine lv_iload_n hx hb dX3_giveUpPending_44 rfl (lv_at hl 1 rfl) ?_
      replace h := Option.some.inj h
      subst q
      exact W.iret (v := l1) hx hb hr (fun t ht hW => ⟨⟨_, (), rfl, rfl, by rw [← ht] at hP; exact hP⟩, hS.F ht⟩) hS.2.2 dX3_giveUpPending_45
    · replace h := (if_neg c_1).symm.trans h
      refine lv_aload_n hx hb dX3_giveUpPending_12 rfl (lv_at hl 0 rfl) ?_
      refine mk_g3_13 hx hb hts in_X3_giveUpPending_X3 hown hK hP hx_x0 hk_x0 (hts (.fieldLink RX3 28 "MixedKernel$Task" "endTimes" "[I") (by decide +kernel)) dX3_giveUpPending_13 ?_
      refine lv_aload_n hx hb dX3_giveUpPending_16 rfl (lv_at hl 0 rfl) ?_
      refine mk_g3_5 hx hb hts in_X3_giveUpPending_X3 hown hK hP hx_x0 hk_x0 (hts (.fieldLink RX3 38 "MixedKernel$Task" "jobs" "I") (by decide +kernel)) dX3_giveUpPending_17 ?_
      refine lv_iload_n hx hb dX3_giveUpPending_20 rfl (lv_at hl 2 rfl) ?_
      refine lv_isub hx hb dX3_giveUpPending_21 ?_
      obtain ⟨r_3, e_2, h⟩ := mk_bind h
      refine va_calli (va_runSN (As := [.int ((M x0 5) - l2)]) (rest := [.ref (E.1 (x0+3))]) ⟨hx, hb, hml, hown, hts⟩ (c_X5_slotOf l D E L ((M x0 5) - l2) M  e_2) ⟨va_cnB 1 hts ggX3_giveUpPending_X5_slotOf rfl rfl rfl (hN (.methodLinkNest "MixedKernel$Task" 60 ⟨"MixedKernel", "slotOf", "(I)I"⟩ "MixedKernel") (by decide +kernel)) (hts (.initialized RX5) (by decide +kernel)) (by decide +kernel) ⟨Nat.le_of_ble_eq_true rfl, Nat.le_of_ble_eq_true rfl⟩, hts (.static yX5_slotOf) (by decide +kernel), trivial⟩ ⟨mk_W.blind, fun U hU hW => ⟨rfl, mk_W.at hU hW hP hK (hD _ _) hN⟩⟩ rfl rfl hl.1 rfl (lv_room (Nat.le_of_ble_eq_true rfl)) dX3_giveUpPending_22 ⟨Nat.zero_le _, Nat.zero_le _⟩) hS (fun q _ h => h) (fun q h => h) (fun v_5 u t H1 locs ht hvm hw hB hz1 hk1 hS => ?_)
      subst v_5
      rw [ht] at hB
      replace hP := hB
      clear hB hz1 hk1 hvm ht
      generalize H1 = H at hP hS ⊢
      refine lv_bipush (v := -2) hx hb dX3_giveUpPending_25 (by decide) ?_
      obtain ⟨i_4, h⟩ := mk_ifn h
      refine mk_is hx hb hK hP (hD _ _) hS ha_x0.2.2.1 ha_x0.2.2.2.1 (by rw [ha_x0.2.2.2.2]; exact i_4) dX3_giveUpPending_27 (fun H locs hP hS => ?_)
      refine lv_iinc (v := l2 + 1) (lv' := [(2, .int (l2 + 1)), (0, .ref (E.1 x0)), (1, .int l1)]) hx hb dX3_giveUpPending_28 hl (k := 2) rfl rfl (by decide) rfl (fun ls hl => ?_)
      refine lv_goto (tgt := 7) hx hb dX3_giveUpPending_31 (by decide) ?_
      exact ih l1 (l2 + 1) (mk_st M (x0+3) (r_3).toNatClampNeg (-2)) _ h _ _ _ hP hS (lv_sub hl [1, 2, 0] rfl)
def f_X3_giveUpPending (x0 : Nat) (M : mk_M) : Option (Int32 × mk_M) := (f_X3_giveUpPending_7 x0 mk_F (M x0 9) 0 M)
set_option maxHeartbeats 4000000 in
set_option maxRecDepth 100000 in
theorem c_X3_giveUpPending (l : Launch) (D : va_G) (E : mk_E) (L : Nat → Int64) (x0 : Nat) (M : mk_M) (hx_x0 : x0 < 94) (hk_x0 : mk_kd x0 = 3) {q : Int32 × mk_M} (h : f_X3_giveUpPending x0 M = some q) : Met l yX3_giveUpPending wsX3_giveUpPending rm_X3_giveUpPending (va_Pc [.ref (E.1 x0)] (mk_W D E M L)) (mk_Qi D E L q.1 q.2) 0 0 (mk_A E) := by
  have ha_x0 := mk_s3 hk_x0
  refine Met.ofW (cc := cX3_giveUpPending) (maxL := 3) (ret := (some .int)) (by decide) rfl ?_
  intro p e s m args below meth c s₁ B hml hv
  obtain ⟨rfl, hP, hK, hD0, hN⟩ := hv
  have hx := B.exec
  have hb := B.bytes
  have hr := B.returns
  have hts := atoms_spec (ws := wsX3_giveUpPending) B.pre
  have hown : s.vm.findClass RX3 = some m.cls := findClass_of_methodNamed B.named
  have hlk := B.notSynchronized
  have hD : ∀ (M : mk_M) (L : Nat → Int64), va_D (mk_A E) (mk_wl E M L) := fun _ _ => mk_D hD0
  have C0 : mk_C p s m [.ref (E.1 x0)].toArray meth c cX3_giveUpPending 3 wsX3_giveUpPending RX3 (some .int) D E := ⟨hx, hb, hml, hown, hts, hr, hlk, hK, hD, hN⟩
  have hS : va_S (mk_A E) s.heap s.heap [] := va_S.rf
  have hl := lv_entry ([.ref (E.1 x0)]) (n := 3) (Nat.le_of_ble_eq_true rfl)
  rw [lg_entry_eq]
  generalize (lg_sl ([.ref (E.1 x0)]) ++ List.replicate (3 - (lg_sl ([.ref (E.1 x0)])).length) Slot.unset).toArray = ls at hl ⊢
  have hl : lv_has ls 3 [(0, .ref (E.1 x0))] := hl
  replace h : (f_X3_giveUpPending_7 x0 mk_F (M x0 9) 0 M) = some q := h
  refine lv_aload_n hx hb dX3_giveUpPending_0 rfl (lv_at hl 0 rfl) ?_
  refine mk_g3_9 hx hb hts in_X3_giveUpPending_X3 hown hK hP hx_x0 hk_x0 (hts (.fieldLink RX3 50 "MixedKernel$Task" "pending" "I") (by decide +kernel)) dX3_giveUpPending_1 ?_
  refine lv_istore_n (lv' := [(1, .int (M x0 9)), (0, .ref (E.1 x0))]) hx hb dX3_giveUpPending_4 rfl hl (by decide) rfl (fun ls hl => ?_)
  refine lv_iconst (v := 0) hx hb dX3_giveUpPending_5 (by decide) ?_
  refine lv_istore_n (lv' := [(2, .int 0), (1, .int (M x0 9)), (0, .ref (E.1 x0))]) hx hb dX3_giveUpPending_6 rfl hl (by decide) rfl (fun ls hl => ?_)
  exact w_X3_giveUpPending_7 C0 x0 hx_x0 hk_x0 mk_F (M x0 9) 0 M _ h _ _ _ hP hS (lv_sub hl [2, 1, 0] rfl)
abbrev rm_X3_budgetAmong : Room := { frames := 0, cells := 0, slots := 0, locals := 0 }
theorem in_X3_budgetAmong_X3 : ∀ w ∈ wsX30, w ∈ wsX3_budgetAmong := by decide +kernel
def f_X3_budgetAmong (x0 : Nat) (a1 : Int32) (M : mk_M) : Option (Int32) := (if a1 = 2 then (some (M x0 3)) else (if a1 = 1 then (if (M x0 3) ≤ 0 then (some (M x0 2)) else (some 0)) else (some (M x0 2))))
set_option maxHeartbeats 4000000 in
set_option maxRecDepth 100000 in
theorem c_X3_budgetAmong (l : Launch) (D : va_G) (E : mk_E) (L : Nat → Int64) (x0 : Nat) (a1 : Int32) (M : mk_M) (hx_x0 : x0 < 94) (hk_x0 : mk_kd x0 = 3) {q : Int32} (h : f_X3_budgetAmong x0 a1 M = some q) : Met l yX3_budgetAmong wsX3_budgetAmong rm_X3_budgetAmong (va_Pc [.ref (E.1 x0), .int a1] (mk_W D E M L)) (mk_Qi D E L q M) 0 0 (mk_A E) := by
  have ha_x0 := mk_s3 hk_x0
  refine Met.ofW (cc := cX3_budgetAmong) (maxL := 2) (ret := (some .int)) (by decide) rfl ?_
  intro p e s m args below meth c s₁ B hml hv
  obtain ⟨rfl, hP, hK, hD0, hN⟩ := hv
  have hx := B.exec
  have hb := B.bytes
  have hr := B.returns
  have hts := atoms_spec (ws := wsX3_budgetAmong) B.pre
  have hown : s.vm.findClass RX3 = some m.cls := findClass_of_methodNamed B.named
  have hlk := B.notSynchronized
  have hD : ∀ (M : mk_M) (L : Nat → Int64), va_D (mk_A E) (mk_wl E M L) := fun _ _ => mk_D hD0
  have C0 : mk_C p s m [.ref (E.1 x0), .int a1].toArray meth c cX3_budgetAmong 2 wsX3_budgetAmong RX3 (some .int) D E := ⟨hx, hb, hml, hown, hts, hr, hlk, hK, hD, hN⟩
  have hS : va_S (mk_A E) s.heap s.heap [] := va_S.rf
  have hl := lv_entry ([.ref (E.1 x0), .int a1]) (n := 2) (Nat.le_of_ble_eq_true rfl)
  rw [lg_entry_eq]
  generalize (lg_sl ([.ref (E.1 x0), .int a1]) ++ List.replicate (2 - (lg_sl ([.ref (E.1 x0), .int a1])).length) Slot.unset).toArray = ls at hl ⊢
  have hl : lv_has ls 2 [(0, .ref (E.1 x0)), (1, .int a1)] := hl
  replace h : (if a1 = 2 then (some (M x0 3)) else (if a1 = 1 then (if (M x0 3) ≤ 0 then (some (M x0 2)) else (some 0)) else (some (M x0 2)))) = some q := h
  refine lv_iload_n hx hb dX3_budgetAmong_0 rfl (lv_at hl 1 rfl) ?_
  refine lv_iconst (v := 2) hx hb dX3_budgetAmong_1 (by decide) ?_
  refine lv_icmp_ne (tgt := 10) hx hb dX3_budgetAmong_2 (by decide) (fun c_1 => ?_) (fun c_1 => ?_)
  · replace h := (if_neg c_1).symm.trans h
    refine lv_iload_n hx hb dX3_budgetAmong_10 rfl (lv_at hl 1 rfl) ?_
    refine lv_iconst (v := 1) hx hb dX3_budgetAmong_11 (by decide) ?_
    refine lv_icmp_ne (tgt := 26) hx hb dX3_budgetAmong_12 (by decide) (fun c_2 => ?_) (fun c_2 => ?_)
    · replace h := (if_neg c_2).symm.trans h
      refine lv_aload_n hx hb dX3_budgetAmong_26 rfl (lv_at hl 0 rfl) ?_
      refine mk_g3_2 hx hb hts in_X3_budgetAmong_X3 hown hK hP hx_x0 hk_x0 (hts (.fieldLink RX3 18 "MixedKernel$Task" "low" "I") (by decide +kernel)) dX3_budgetAmong_27 ?_
      replace h := Option.some.inj h
      subst q
      exact W.iret (v := M x0 2) hx hb hr (fun t ht hW => ⟨⟨_, (), rfl, rfl, by rw [← ht] at hP; exact hP⟩, hS.F ht⟩) hS.2.2 dX3_budgetAmong_30
    · replace h := (if_pos c_2).symm.trans h
      refine lv_aload_n hx hb dX3_budgetAmong_15 rfl (lv_at hl 0 rfl) ?_
      refine mk_g3_3 hx hb hts in_X3_budgetAmong_X3 hown hK hP hx_x0 hk_x0 (hts (.fieldLink RX3 31 "MixedKernel$Task" "high" "I") (by decide +kernel)) dX3_budgetAmong_16 ?_
      refine lv_if_le (tgt := 26) hx hb dX3_budgetAmong_19 (by decide) (fun c_3 => ?_) (fun c_3 => ?_)
      · replace h := (if_pos c_3).symm.trans h
        refine lv_aload_n hx hb dX3_budgetAmong_26 rfl (lv_at hl 0 rfl) ?_
        refine mk_g3_2 hx hb hts in_X3_budgetAmong_X3 hown hK hP hx_x0 hk_x0 (hts (.fieldLink RX3 18 "MixedKernel$Task" "low" "I") (by decide +kernel)) dX3_budgetAmong_27 ?_
        replace h := Option.some.inj h
        subst q
        exact W.iret (v := M x0 2) hx hb hr (fun t ht hW => ⟨⟨_, (), rfl, rfl, by rw [← ht] at hP; exact hP⟩, hS.F ht⟩) hS.2.2 dX3_budgetAmong_30
      · replace h := (if_neg c_3).symm.trans h
        refine lv_iconst (v := 0) hx hb dX3_budgetAmong_22 (by decide) ?_
        refine lv_goto (tgt := 30) hx hb dX3_budgetAmong_23 (by decide) ?_
        replace h := Option.some.inj h
        subst q
        exact W.iret (v := 0) hx hb hr (fun t ht hW => ⟨⟨_, (), rfl, rfl, by rw [← ht] at hP; exact hP⟩, hS.F ht⟩) hS.2.2 dX3_budgetAmong_30
  · replace h := (if_pos c_1).symm.trans h
    refine lv_aload_n hx hb dX3_budgetAmong_5 rfl (lv_at hl 0 rfl) ?_
    refine mk_g3_3 hx hb hts in_X3_budgetAmong_X3 hown hK hP hx_x0 hk_x0 (hts (.fieldLink RX3 31 "MixedKernel$Task" "high" "I") (by decide +kernel)) dX3_budgetAmong_6 ?_
    replace h := Option.some.inj h
    subst q
    exact W.iret (v := M x0 3) hx hb hr (fun t ht hW => ⟨⟨_, (), rfl, rfl, by rw [← ht] at hP; exact hP⟩, hS.F ht⟩) hS.2.2 dX3_budgetAmong_9
abbrev rm_X3_begin : Room := { frames := 0, cells := 0, slots := 0, locals := 0 }
theorem in_X3_begin_X3 : ∀ w ∈ wsX30, w ∈ wsX3_begin := by decide +kernel
def f_X3_begin (x0 : Nat) (a1 : Int32) (a2 : Int32) (a3 : Int32) (a4 : Int32) (M : mk_M) : Option (mk_M) := (some (mk_st (mk_st (mk_st (mk_st (mk_st (mk_st (mk_st (mk_st (mk_st (mk_st (mk_st M x0 0 a1) x0 1 a2) x0 2 a3) x0 3 a4) x0 4 0) x0 5 0) x0 6 0) x0 7 0) x0 8 0) x0 9 0) x0 10 0))
set_option maxHeartbeats 4000000 in
set_option maxRecDepth 100000 in
theorem c_X3_begin (l : Launch) (D : va_G) (E : mk_E) (L : Nat → Int64) (x0 : Nat) (a1 : Int32) (a2 : Int32) (a3 : Int32) (a4 : Int32) (M : mk_M) (hx_x0 : x0 < 94) (hk_x0 : mk_kd x0 = 3) {q : mk_M} (h : f_X3_begin x0 a1 a2 a3 a4 M = some q) : Met l yX3_begin wsX3_begin rm_X3_begin (va_Pc [.ref (E.1 x0), .int a1, .int a2, .int a3, .int a4] (mk_W D E M L)) (mk_Qv D E L q) 0 0 (mk_A E) := by
  have ha_x0 := mk_s3 hk_x0
  refine Met.ofW (cc := cX3_begin) (maxL := 5) (ret := none) (by decide) rfl ?_
  intro p e s m args below meth c s₁ B hml hv
  obtain ⟨rfl, hP, hK, hD0, hN⟩ := hv
  have hx := B.exec
  have hb := B.bytes
  have hr := B.returns
  have hts := atoms_spec (ws := wsX3_begin) B.pre
  have hown : s.vm.findClass RX3 = some m.cls := findClass_of_methodNamed B.named
  have hlk := B.notSynchronized
  have hD : ∀ (M : mk_M) (L : Nat → Int64), va_D (mk_A E) (mk_wl E M L) := fun _ _ => mk_D hD0
  have C0 : mk_C p s m [.ref (E.1 x0), .int a1, .int a2, .int a3, .int a4].toArray meth c cX3_begin 5 wsX3_begin RX3 none D E := ⟨hx, hb, hml, hown, hts, hr, hlk, hK, hD, hN⟩
  have hS : va_S (mk_A E) s.heap s.heap [] := va_S.rf
  have hl := lv_entry ([.ref (E.1 x0), .int a1, .int a2, .int a3, .int a4]) (n := 5) (Nat.le_of_ble_eq_true rfl)
  rw [lg_entry_eq]
  generalize (lg_sl ([.ref (E.1 x0), .int a1, .int a2, .int a3, .int a4]) ++ List.replicate (5 - (lg_sl ([.ref (E.1 x0), .int a1, .int a2, .int a3, .int a4])).length) Slot.unset).toArray = ls at hl ⊢
  have hl : lv_has ls 5 [(0, .ref (E.1 x0)), (1, .int a1), (2, .int a2), (3, .int a3), (4, .int a4)] := hl
  replace h : (some (mk_st (mk_st (mk_st (mk_st (mk_st (mk_st (mk_st (mk_st (mk_st (mk_st (mk_st M x0 0 a1) x0 1 a2) x0 2 a3) x0 3 a4) x0 4 0) x0 5 0) x0 6 0) x0 7 0) x0 8 0) x0 9 0) x0 10 0)) = some q := h
  refine lv_aload_n hx hb dX3_begin_0 rfl (lv_at hl 0 rfl) ?_
  refine lv_iload_n hx hb dX3_begin_1 rfl (lv_at hl 1 rfl) ?_
  refine mk_p3_0 hx hb hts in_X3_begin_X3 hown hK hP hx_x0 hk_x0 (hD _ _) hS (hts (.fieldLink RX3 9 "MixedKernel$Task" "period" "I") (by decide +kernel)) dX3_begin_2 (fun H locs hP hS => ?_)
  refine lv_aload_n hx hb dX3_begin_5 rfl (lv_at hl 0 rfl) ?_
  refine lv_iload_n hx hb dX3_begin_6 rfl (lv_at hl 2 rfl) ?_
  refine mk_p3_1 hx hb hts in_X3_begin_X3 hown hK hP hx_x0 hk_x0 (hD _ _) hS (hts (.fieldLink RX3 15 "MixedKernel$Task" "deadline" "I") (by decide +kernel)) dX3_begin_7 (fun H locs hP hS => ?_)
  refine lv_aload_n hx hb dX3_begin_10 rfl (lv_at hl 0 rfl) ?_
  refine lv_iload_n hx hb dX3_begin_11 rfl (lv_at hl 3 rfl) ?_
  refine mk_p3_2 hx hb hts in_X3_begin_X3 hown hK hP hx_x0 hk_x0 (hD _ _) hS (hts (.fieldLink RX3 18 "MixedKernel$Task" "low" "I") (by decide +kernel)) dX3_begin_12 (fun H locs hP hS => ?_)
  refine lv_aload_n hx hb dX3_begin_15 rfl (lv_at hl 0 rfl) ?_
  refine lv_iload hx hb dX3_begin_16 (lv_at hl 4 rfl) ?_
  refine mk_p3_3 hx hb hts in_X3_begin_X3 hown hK hP hx_x0 hk_x0 (hD _ _) hS (hts (.fieldLink RX3 31 "MixedKernel$Task" "high" "I") (by decide +kernel)) dX3_begin_18 (fun H locs hP hS => ?_)
  refine lv_aload_n hx hb dX3_begin_21 rfl (lv_at hl 0 rfl) ?_
  refine lv_iconst (v := 0) hx hb dX3_begin_22 (by decide) ?_
  refine mk_p3_4 hx hb hts in_X3_begin_X3 hown hK hP hx_x0 hk_x0 (hD _ _) hS (by decide) (by decide) (hts (.fieldLink RX3 34 "MixedKernel$Task" "leaving" "Z") (by decide +kernel)) dX3_begin_23 (fun H locs hP hS => ?_)
  refine lv_aload_n hx hb dX3_begin_26 rfl (lv_at hl 0 rfl) ?_
  refine lv_iconst (v := 0) hx hb dX3_begin_27 (by decide) ?_
  refine mk_p3_5 hx hb hts in_X3_begin_X3 hown hK hP hx_x0 hk_x0 (hD _ _) hS (hts (.fieldLink RX3 38 "MixedKernel$Task" "jobs" "I") (by decide +kernel)) dX3_begin_28 (fun H locs hP hS => ?_)
  refine lv_aload_n hx hb dX3_begin_31 rfl (lv_at hl 0 rfl) ?_
  refine lv_iconst (v := 0) hx hb dX3_begin_32 (by decide) ?_
  refine mk_p3_6 hx hb hts in_X3_begin_X3 hown hK hP hx_x0 hk_x0 (hD _ _) hS (hts (.fieldLink RX3 41 "MixedKernel$Task" "dropped" "I") (by decide +kernel)) dX3_begin_33 (fun H locs hP hS => ?_)
  refine lv_aload_n hx hb dX3_begin_36 rfl (lv_at hl 0 rfl) ?_
  refine lv_iconst (v := 0) hx hb dX3_begin_37 (by decide) ?_
  refine mk_p3_7 hx hb hts in_X3_begin_X3 hown hK hP hx_x0 hk_x0 (hD _ _) hS (hts (.fieldLink RX3 44 "MixedKernel$Task" "ticks" "I") (by decide +kernel)) dX3_begin_38 (fun H locs hP hS => ?_)
  refine lv_aload_n hx hb dX3_begin_41 rfl (lv_at hl 0 rfl) ?_
  refine lv_iconst (v := 0) hx hb dX3_begin_42 (by decide) ?_
  refine mk_p3_8 hx hb hts in_X3_begin_X3 hown hK hP hx_x0 hk_x0 (hD _ _) hS (hts (.fieldLink RX3 47 "MixedKernel$Task" "endedLate" "I") (by decide +kernel)) dX3_begin_43 (fun H locs hP hS => ?_)
  refine lv_aload_n hx hb dX3_begin_46 rfl (lv_at hl 0 rfl) ?_
  refine lv_iconst (v := 0) hx hb dX3_begin_47 (by decide) ?_
  refine mk_p3_9 hx hb hts in_X3_begin_X3 hown hK hP hx_x0 hk_x0 (hD _ _) hS (hts (.fieldLink RX3 50 "MixedKernel$Task" "pending" "I") (by decide +kernel)) dX3_begin_48 (fun H locs hP hS => ?_)
  refine lv_aload_n hx hb dX3_begin_51 rfl (lv_at hl 0 rfl) ?_
  refine lv_iconst (v := 0) hx hb dX3_begin_52 (by decide) ?_
  refine mk_p3_10 hx hb hts in_X3_begin_X3 hown hK hP hx_x0 hk_x0 (hD _ _) hS (hts (.fieldLink RX3 53 "MixedKernel$Task" "charged" "I") (by decide +kernel)) dX3_begin_53 (fun H locs hP hS => ?_)
  replace h := Option.some.inj h
  subst q
  exact W.vret hx hb hr (fun t ht hW => ⟨⟨(), rfl, trivial, by rw [← ht] at hP; exact hP⟩, hS.F ht⟩) hS.2.2 dX3_begin_56
abbrev rm_X3_greatestBudget : Room := { frames := 1, cells := 0, slots := 0, locals := 20 }
theorem in_X3_greatestBudget_X3 : ∀ w ∈ wsX30, w ∈ wsX3_greatestBudget := by decide +kernel
def f_X3_greatestBudget (x0 : Nat) (M : mk_M) : Option (Int32) := ((f_X3_isHigh x0 M).bind (fun r_2 => (if r_2 = 0 then (some (M x0 2)) else (some (M x0 3)))))
set_option maxHeartbeats 4000000 in
set_option maxRecDepth 100000 in
theorem c_X3_greatestBudget (l : Launch) (D : va_G) (E : mk_E) (L : Nat → Int64) (x0 : Nat) (M : mk_M) (hx_x0 : x0 < 94) (hk_x0 : mk_kd x0 = 3) {q : Int32} (h : f_X3_greatestBudget x0 M = some q) : Met l yX3_greatestBudget wsX3_greatestBudget rm_X3_greatestBudget (va_Pc [.ref (E.1 x0)] (mk_W D E M L)) (mk_Qi D E L q M) 0 0 (mk_A E) := by
  have ha_x0 := mk_s3 hk_x0
  refine Met.ofW (cc := cX3_greatestBudget) (maxL := 1) (ret := (some .int)) (by decide) rfl ?_
  intro p e s m args below meth c s₁ B hml hv
  obtain ⟨rfl, hP, hK, hD0, hN⟩ := hv
  have hx := B.exec
  have hb := B.bytes
  have hr := B.returns
  have hts := atoms_spec (ws := wsX3_greatestBudget) B.pre
  have hown : s.vm.findClass RX3 = some m.cls := findClass_of_methodNamed B.named
  have hlk := B.notSynchronized
  have hD : ∀ (M : mk_M) (L : Nat → Int64), va_D (mk_A E) (mk_wl E M L) := fun _ _ => mk_D hD0
  have C0 : mk_C p s m [.ref (E.1 x0)].toArray meth c cX3_greatestBudget 1 wsX3_greatestBudget RX3 (some .int) D E := ⟨hx, hb, hml, hown, hts, hr, hlk, hK, hD, hN⟩
  have hS : va_S (mk_A E) s.heap s.heap [] := va_S.rf
  have hl := lv_entry ([.ref (E.1 x0)]) (n := 1) (Nat.le_of_ble_eq_true rfl)
  rw [lg_entry_eq]
  generalize (lg_sl ([.ref (E.1 x0)]) ++ List.replicate (1 - (lg_sl ([.ref (E.1 x0)])).length) Slot.unset).toArray = ls at hl ⊢
  have hl : lv_has ls 1 [(0, .ref (E.1 x0))] := hl
  replace h : ((f_X3_isHigh x0 M).bind (fun r_2 => (if r_2 = 0 then (some (M x0 2)) else (some (M x0 3))))) = some q := h
  refine lv_aload_n hx hb dX3_greatestBudget_0 rfl (lv_at hl 0 rfl) ?_
  obtain ⟨r_2, e_1, h⟩ := mk_bind h
  refine va_calli (va_runV (As := []) (rest := []) ⟨hx, hb, hml, hown, hts⟩ (c_X3_isHigh l D E L x0 M hx_x0 hk_x0 e_1) (cwV 0 hts gX3_greatestBudget_X3_isHigh rfl rfl rfl (by decide +kernel) ⟨Nat.le_of_ble_eq_true rfl, Nat.le_of_ble_eq_true rfl⟩) ⟨mk_W.blind, mk_rc3 hK hP hx_x0 hk_x0, fun U hU hW => ⟨rfl, mk_W.at hU hW hP hK (hD _ _) hN⟩⟩ rfl rfl hl.1 rfl (lv_room (Nat.le_of_ble_eq_true rfl)) dX3_greatestBudget_1 ⟨Nat.zero_le _, Nat.zero_le _⟩) hS (fun q _ h => h) (fun q h => h) (fun v_4 u t H1 locs ht hvm hw hB hz1 hk1 hS => ?_)
  subst v_4
  rw [ht] at hB
  replace hP := hB
  clear hB hz1 hk1 hvm ht
  generalize H1 = H at hP hS ⊢
  refine lv_if_eq (tgt := 14) hx hb dX3_greatestBudget_4 (by decide) (fun c_3 => ?_) (fun c_3 => ?_)
  · replace h := (if_pos c_3).symm.trans h
    refine lv_aload_n hx hb dX3_greatestBudget_14 rfl (lv_at hl 0 rfl) ?_
    refine mk_g3_2 hx hb hts in_X3_greatestBudget_X3 hown hK hP hx_x0 hk_x0 (hts (.fieldLink RX3 18 "MixedKernel$Task" "low" "I") (by decide +kernel)) dX3_greatestBudget_15 ?_
    replace h := Option.some.inj h
    subst q
    exact W.iret (v := M x0 2) hx hb hr (fun t ht hW => ⟨⟨_, (), rfl, rfl, by rw [← ht] at hP; exact hP⟩, hS.F ht⟩) hS.2.2 dX3_greatestBudget_18
  · replace h := (if_neg c_3).symm.trans h
    refine lv_aload_n hx hb dX3_greatestBudget_7 rfl (lv_at hl 0 rfl) ?_
    refine mk_g3_3 hx hb hts in_X3_greatestBudget_X3 hown hK hP hx_x0 hk_x0 (hts (.fieldLink RX3 31 "MixedKernel$Task" "high" "I") (by decide +kernel)) dX3_greatestBudget_8 ?_
    refine lv_goto (tgt := 18) hx hb dX3_greatestBudget_11 (by decide) ?_
    replace h := Option.some.inj h
    subst q
    exact W.iret (v := M x0 3) hx hb hr (fun t ht hW => ⟨⟨_, (), rfl, rfl, by rw [← ht] at hP; exact hP⟩, hS.F ht⟩) hS.2.2 dX3_greatestBudget_18
abbrev rm_X3_nextRelease : Room := { frames := 2, cells := 0, slots := 0, locals := 42 }
theorem in_X3_nextRelease_X3 : ∀ w ∈ wsX30, w ∈ wsX3_nextRelease := by decide +kernel
def f_X3_nextRelease (x0 : Nat) (M : mk_M) : Option (Int32) := (if (M x0 5) = 0 then (some 0) else ((f_X5_slotOf (M x0 5) M).bind (fun r_3 => (if mk_ob r_3 8 then none else (some ((M (x0+2) (r_3).toNatClampNeg) + (M x0 0)))))))
set_option maxHeartbeats 4000000 in
set_option maxRecDepth 100000 in
theorem c_X3_nextRelease (l : Launch) (D : va_G) (E : mk_E) (L : Nat → Int64) (x0 : Nat) (M : mk_M) (hx_x0 : x0 < 94) (hk_x0 : mk_kd x0 = 3) {q : Int32} (h : f_X3_nextRelease x0 M = some q) : Met l yX3_nextRelease wsX3_nextRelease rm_X3_nextRelease (va_Pc [.ref (E.1 x0)] (mk_W D E M L)) (mk_Qi D E L q M) 0 0 (mk_A E) := by
  have ha_x0 := mk_s3 hk_x0
  refine Met.ofW (cc := cX3_nextRelease) (maxL := 1) (ret := (some .int)) (by decide) rfl ?_
  intro p e s m args below meth c s₁ B hml hv
  obtain ⟨rfl, hP, hK, hD0, hN⟩ := hv
  have hx := B.exec
  have hb := B.bytes
  have hr := B.returns
  have hts := atoms_spec (ws := wsX3_nextRelease) B.pre
  have hown : s.vm.findClass RX3 = some m.cls := findClass_of_methodNamed B.named
  have hlk := B.notSynchronized
  have hD : ∀ (M : mk_M) (L : Nat → Int64), va_D (mk_A E) (mk_wl E M L) := fun _ _ => mk_D hD0
  have C0 : mk_C p s m [.ref (E.1 x0)].toArray meth c cX3_nextRelease 1 wsX3_nextRelease RX3 (some .int) D E := ⟨hx, hb, hml, hown, hts, hr, hlk, hK, hD, hN⟩
  have hS : va_S (mk_A E) s.heap s.heap [] := va_S.rf
  have hl := lv_entry ([.ref (E.1 x0)]) (n := 1) (Nat.le_of_ble_eq_true rfl)
  rw [lg_entry_eq]
  generalize (lg_sl ([.ref (E.1 x0)]) ++ List.replicate (1 - (lg_sl ([.ref (E.1 x0)])).length) Slot.unset).toArray = ls at hl ⊢
  have hl : lv_has ls 1 [(0, .ref (E.1 x0))] := hl
  replace h : (if (M x0 5) = 0 then (some 0) else ((f_X5_slotOf (M x0 5) M).bind (fun r_3 => (if mk_ob r_3 8 then none else (some ((M (x0+2) (r_3).toNatClampNeg) + (M x0 0))))))) = some q := h
  refine lv_aload_n hx hb dX3_nextRelease_0 rfl (lv_at hl 0 rfl) ?_
  refine mk_g3_5 hx hb hts in_X3_nextRelease_X3 hown hK hP hx_x0 hk_x0 (hts (.fieldLink RX3 38 "MixedKernel$Task" "jobs" "I") (by decide +kernel)) dX3_nextRelease_1 ?_
  refine lv_if_ne (tgt := 11) hx hb dX3_nextRelease_4 (by decide) (fun c_1 => ?_) (fun c_1 => ?_)
  · replace h := (if_neg c_1).symm.trans h
    refine lv_aload_n hx hb dX3_nextRelease_11 rfl (lv_at hl 0 rfl) ?_
    refine mk_g3_12 hx hb hts in_X3_nextRelease_X3 hown hK hP hx_x0 hk_x0 (hts (.fieldLink RX3 25 "MixedKernel$Task" "releaseTimes" "[I") (by decide +kernel)) dX3_nextRelease_12 ?_
    refine lv_aload_n hx hb dX3_nextRelease_15 rfl (lv_at hl 0 rfl) ?_
    refine mk_g3_5 hx hb hts in_X3_nextRelease_X3 hown hK hP hx_x0 hk_x0 (hts (.fieldLink RX3 38 "MixedKernel$Task" "jobs" "I") (by decide +kernel)) dX3_nextRelease_16 ?_
    obtain ⟨r_3, e_2, h⟩ := mk_bind h
    refine va_calli (va_runSN (As := [.int (M x0 5)]) (rest := [.ref (E.1 (x0+2))]) ⟨hx, hb, hml, hown, hts⟩ (c_X5_slotOf l D E L (M x0 5) M  e_2) ⟨va_cnB 1 hts ggX3_nextRelease_X5_slotOf rfl rfl rfl (hN (.methodLinkNest "MixedKernel$Task" 60 ⟨"MixedKernel", "slotOf", "(I)I"⟩ "MixedKernel") (by decide +kernel)) (hts (.initialized RX5) (by decide +kernel)) (by decide +kernel) ⟨Nat.le_of_ble_eq_true rfl, Nat.le_of_ble_eq_true rfl⟩, hts (.static yX5_slotOf) (by decide +kernel), trivial⟩ ⟨mk_W.blind, fun U hU hW => ⟨rfl, mk_W.at hU hW hP hK (hD _ _) hN⟩⟩ rfl rfl hl.1 rfl (lv_room (Nat.le_of_ble_eq_true rfl)) dX3_nextRelease_19 ⟨Nat.zero_le _, Nat.zero_le _⟩) hS (fun q _ h => h) (fun q h => h) (fun v_5 u t H1 locs ht hvm hw hB hz1 hk1 hS => ?_)
    subst v_5
    rw [ht] at hB
    replace hP := hB
    clear hB hz1 hk1 hvm ht
    generalize H1 = H at hP hS ⊢
    obtain ⟨i_4, h⟩ := mk_ifn h
    refine mk_ia hx hb hK hP ha_x0.2.1.1 ha_x0.2.1.2.1 (by rw [ha_x0.2.1.2.2]; exact i_4) dX3_nextRelease_22 ?_
    refine lv_aload_n hx hb dX3_nextRelease_23 rfl (lv_at hl 0 rfl) ?_
    refine mk_g3_0 hx hb hts in_X3_nextRelease_X3 hown hK hP hx_x0 hk_x0 (hts (.fieldLink RX3 9 "MixedKernel$Task" "period" "I") (by decide +kernel)) dX3_nextRelease_24 ?_
    refine lv_iadd hx hb dX3_nextRelease_27 ?_
    replace h := Option.some.inj h
    subst q
    exact W.iret (v := (M (x0+2) (r_3).toNatClampNeg) + (M x0 0)) hx hb hr (fun t ht hW => ⟨⟨_, (), rfl, rfl, by rw [← ht] at hP; exact hP⟩, hS.F ht⟩) hS.2.2 dX3_nextRelease_28
  · replace h := (if_pos c_1).symm.trans h
    refine lv_iconst (v := 0) hx hb dX3_nextRelease_7 (by decide) ?_
    refine lv_goto (tgt := 28) hx hb dX3_nextRelease_8 (by decide) ?_
    replace h := Option.some.inj h
    subst q
    exact W.iret (v := 0) hx hb hr (fun t ht hW => ⟨⟨_, (), rfl, rfl, by rw [← ht] at hP; exact hP⟩, hS.F ht⟩) hS.2.2 dX3_nextRelease_28
abbrev rm_X3_keeps : Room := { frames := 0, cells := 0, slots := 0, locals := 0 }
theorem in_X3_keeps_X3 : ∀ w ∈ wsX30, w ∈ wsX3_keeps := by decide +kernel
def f_X3_keeps (x0 : Nat) (a1 : Int32) (M : mk_M) : Option (Int32) := (if a1 < 1 then (some 0) else (if (M x0 5) < a1 then (some 0) else (if a1 ≤ ((M x0 5) - 8) then (some 0) else (some 1))))
set_option maxHeartbeats 4000000 in
set_option maxRecDepth 100000 in
theorem c_X3_keeps (l : Launch) (D : va_G) (E : mk_E) (L : Nat → Int64) (x0 : Nat) (a1 : Int32) (M : mk_M) (hx_x0 : x0 < 94) (hk_x0 : mk_kd x0 = 3) {q : Int32} (h : f_X3_keeps x0 a1 M = some q) : Met l yX3_keeps wsX3_keeps rm_X3_keeps (va_Pc [.ref (E.1 x0), .int a1] (mk_W D E M L)) (mk_Qi D E L q M) 0 0 (mk_A E) := by
  have ha_x0 := mk_s3 hk_x0
  refine Met.ofW (cc := cX3_keeps) (maxL := 2) (ret := (some .boolean)) (by decide) rfl ?_
  intro p e s m args below meth c s₁ B hml hv
  obtain ⟨rfl, hP, hK, hD0, hN⟩ := hv
  have hx := B.exec
  have hb := B.bytes
  have hr := B.returns
  have hts := atoms_spec (ws := wsX3_keeps) B.pre
  have hown : s.vm.findClass RX3 = some m.cls := findClass_of_methodNamed B.named
  have hlk := B.notSynchronized
  have hD : ∀ (M : mk_M) (L : Nat → Int64), va_D (mk_A E) (mk_wl E M L) := fun _ _ => mk_D hD0
  have C0 : mk_C p s m [.ref (E.1 x0), .int a1].toArray meth c cX3_keeps 2 wsX3_keeps RX3 (some .boolean) D E := ⟨hx, hb, hml, hown, hts, hr, hlk, hK, hD, hN⟩
  have hS : va_S (mk_A E) s.heap s.heap [] := va_S.rf
  have hl := lv_entry ([.ref (E.1 x0), .int a1]) (n := 2) (Nat.le_of_ble_eq_true rfl)
  rw [lg_entry_eq]
  generalize (lg_sl ([.ref (E.1 x0), .int a1]) ++ List.replicate (2 - (lg_sl ([.ref (E.1 x0), .int a1])).length) Slot.unset).toArray = ls at hl ⊢
  have hl : lv_has ls 2 [(0, .ref (E.1 x0)), (1, .int a1)] := hl
  replace h : (if a1 < 1 then (some 0) else (if (M x0 5) < a1 then (some 0) else (if a1 ≤ ((M x0 5) - 8) then (some 0) else (some 1)))) = some q := h
  refine lv_iload_n hx hb dX3_keeps_0 rfl (lv_at hl 1 rfl) ?_
  refine lv_iconst (v := 1) hx hb dX3_keeps_1 (by decide) ?_
  refine lv_icmp_lt (tgt := 28) hx hb dX3_keeps_2 (by decide) (fun c_1 => ?_) (fun c_1 => ?_)
  · replace h := (if_pos c_1).symm.trans h
    refine lv_iconst (v := 0) hx hb dX3_keeps_28 (by decide) ?_
    replace h := Option.some.inj h
    subst q
    exact W.zret (v := 0) hx hb hr rfl (fun t ht hW => ⟨⟨_, (), rfl, rfl, by rw [← ht] at hP; exact hP⟩, hS.F ht⟩) hS.2.2 dX3_keeps_29
  · replace h := (if_neg c_1).symm.trans h
    refine lv_iload_n hx hb dX3_keeps_5 rfl (lv_at hl 1 rfl) ?_
    refine lv_aload_n hx hb dX3_keeps_6 rfl (lv_at hl 0 rfl) ?_
    refine mk_g3_5 hx hb hts in_X3_keeps_X3 hown hK hP hx_x0 hk_x0 (hts (.fieldLink RX3 38 "MixedKernel$Task" "jobs" "I") (by decide +kernel)) dX3_keeps_7 ?_
    refine lv_icmp_gt (tgt := 28) hx hb dX3_keeps_10 (by decide) (fun c_2 => ?_) (fun c_2 => ?_)
    · replace h := (if_pos c_2).symm.trans h
      refine lv_iconst (v := 0) hx hb dX3_keeps_28 (by decide) ?_
      replace h := Option.some.inj h
      subst q
      exact W.zret (v := 0) hx hb hr rfl (fun t ht hW => ⟨⟨_, (), rfl, rfl, by rw [← ht] at hP; exact hP⟩, hS.F ht⟩) hS.2.2 dX3_keeps_29
    · replace h := (if_neg c_2).symm.trans h
      refine lv_iload_n hx hb dX3_keeps_13 rfl (lv_at hl 1 rfl) ?_
      refine lv_aload_n hx hb dX3_keeps_14 rfl (lv_at hl 0 rfl) ?_
      refine mk_g3_5 hx hb hts in_X3_keeps_X3 hown hK hP hx_x0 hk_x0 (hts (.fieldLink RX3 38 "MixedKernel$Task" "jobs" "I") (by decide +kernel)) dX3_keeps_15 ?_
      refine lv_bipush (v := 8) hx hb dX3_keeps_18 (by decide) ?_
      refine lv_isub hx hb dX3_keeps_20 ?_
      refine lv_icmp_le (tgt := 28) hx hb dX3_keeps_21 (by decide) (fun c_3 => ?_) (fun c_3 => ?_)
      · replace h := (if_pos c_3).symm.trans h
        refine lv_iconst (v := 0) hx hb dX3_keeps_28 (by decide) ?_
        replace h := Option.some.inj h
        subst q
        exact W.zret (v := 0) hx hb hr rfl (fun t ht hW => ⟨⟨_, (), rfl, rfl, by rw [← ht] at hP; exact hP⟩, hS.F ht⟩) hS.2.2 dX3_keeps_29
      · replace h := (if_neg c_3).symm.trans h
        refine lv_iconst (v := 1) hx hb dX3_keeps_24 (by decide) ?_
        refine lv_goto (tgt := 29) hx hb dX3_keeps_25 (by decide) ?_
        replace h := Option.some.inj h
        subst q
        exact W.zret (v := 1) hx hb hr rfl (fun t ht hW => ⟨⟨_, (), rfl, rfl, by rw [← ht] at hP; exact hP⟩, hS.F ht⟩) hS.2.2 dX3_keeps_29
abbrev rm_X3_newJob : Room := { frames := 2, cells := 0, slots := 0, locals := 42 }
theorem in_X3_newJob_X3 : ∀ w ∈ wsX30, w ∈ wsX3_newJob := by decide +kernel
def f_X3_newJob (x0 : Nat) (a1 : Int32) (a2 : Int32) (M : mk_M) : Option (Int32 × mk_M) := ((f_X5_slotOf ((mk_st (mk_st M x0 5 ((M x0 5) + 1)) x0 9 (((mk_st M x0 5 ((M x0 5) + 1)) x0 9) + 1)) x0 5) (mk_st (mk_st M x0 5 ((M x0 5) + 1)) x0 9 (((mk_st M x0 5 ((M x0 5) + 1)) x0 9) + 1))).bind (fun r_2 => (if mk_ob r_2 8 then none else (if mk_ob r_2 8 then none else (if mk_ob r_2 8 then none else (some ((mk_st (mk_st (mk_st (mk_st (mk_st M x0 5 ((M x0 5) + 1)) x0 9 (((mk_st M x0 5 ((M x0 5) + 1)) x0 9) + 1)) (x0+1) (r_2).toNatClampNeg a1) (x0+2) (r_2).toNatClampNeg a2) (x0+3) (r_2).toNatClampNeg (-1)) x0 5, mk_st (mk_st (mk_st (mk_st (mk_st M x0 5 ((M x0 5) + 1)) x0 9 (((mk_st M x0 5 ((M x0 5) + 1)) x0 9) + 1)) (x0+1) (r_2).toNatClampNeg a1) (x0+2) (r_2).toNatClampNeg a2) (x0+3) (r_2).toNatClampNeg (-1))))))))
set_option maxHeartbeats 4000000 in
set_option maxRecDepth 100000 in
theorem c_X3_newJob (l : Launch) (D : va_G) (E : mk_E) (L : Nat → Int64) (x0 : Nat) (a1 : Int32) (a2 : Int32) (M : mk_M) (hx_x0 : x0 < 94) (hk_x0 : mk_kd x0 = 3) {q : Int32 × mk_M} (h : f_X3_newJob x0 a1 a2 M = some q) : Met l yX3_newJob wsX3_newJob rm_X3_newJob (va_Pc [.ref (E.1 x0), .int a1, .int a2] (mk_W D E M L)) (mk_Qi D E L q.1 q.2) 0 0 (mk_A E) := by
  have ha_x0 := mk_s3 hk_x0
  refine Met.ofW (cc := cX3_newJob) (maxL := 4) (ret := (some .int)) (by decide) rfl ?_
  intro p e s m args below meth c s₁ B hml hv
  obtain ⟨rfl, hP, hK, hD0, hN⟩ := hv
  have hx := B.exec
  have hb := B.bytes
  have hr := B.returns
  have hts := atoms_spec (ws := wsX3_newJob) B.pre
  have hown : s.vm.findClass RX3 = some m.cls := findClass_of_methodNamed B.named
  have hlk := B.notSynchronized
  have hD : ∀ (M : mk_M) (L : Nat → Int64), va_D (mk_A E) (mk_wl E M L) := fun _ _ => mk_D hD0
  have C0 : mk_C p s m [.ref (E.1 x0), .int a1, .int a2].toArray meth c cX3_newJob 4 wsX3_newJob RX3 (some .int) D E := ⟨hx, hb, hml, hown, hts, hr, hlk, hK, hD, hN⟩
  have hS : va_S (mk_A E) s.heap s.heap [] := va_S.rf
  have hl := lv_entry ([.ref (E.1 x0), .int a1, .int a2]) (n := 4) (Nat.le_of_ble_eq_true rfl)
  rw [lg_entry_eq]
  generalize (lg_sl ([.ref (E.1 x0), .int a1, .int a2]) ++ List.replicate (4 - (lg_sl ([.ref (E.1 x0), .int a1, .int a2])).length) Slot.unset).toArray = ls at hl ⊢
  have hl : lv_has ls 4 [(0, .ref (E.1 x0)), (1, .int a1), (2, .int a2)] := hl
  replace h : ((f_X5_slotOf ((mk_st (mk_st M x0 5 ((M x0 5) + 1)) x0 9 (((mk_st M x0 5 ((M x0 5) + 1)) x0 9) + 1)) x0 5) (mk_st (mk_st M x0 5 ((M x0 5) + 1)) x0 9 (((mk_st M x0 5 ((M x0 5) + 1)) x0 9) + 1))).bind (fun r_2 => (if mk_ob r_2 8 then none else (if mk_ob r_2 8 then none else (if mk_ob r_2 8 then none else (some ((mk_st (mk_st (mk_st (mk_st (mk_st M x0 5 ((M x0 5) + 1)) x0 9 (((mk_st M x0 5 ((M x0 5) + 1)) x0 9) + 1)) (x0+1) (r_2).toNatClampNeg a1) (x0+2) (r_2).toNatClampNeg a2) (x0+3) (r_2).toNatClampNeg (-1)) x0 5, mk_st (mk_st (mk_st (mk_st (mk_st M x0 5 ((M x0 5) + 1)) x0 9 (((mk_st M x0 5 ((M x0 5) + 1)) x0 9) + 1)) (x0+1) (r_2).toNatClampNeg a1) (x0+2) (r_2).toNatClampNeg a2) (x0+3) (r_2).toNatClampNeg (-1)))))))) = some q := h
  refine lv_aload_n hx hb dX3_newJob_0 rfl (lv_at hl 0 rfl) ?_
  refine lv_dup hx hb dX3_newJob_1 rfl ?_
  refine mk_g3_5 hx hb hts in_X3_newJob_X3 hown hK hP hx_x0 hk_x0 (hts (.fieldLink RX3 38 "MixedKernel$Task" "jobs" "I") (by decide +kernel)) dX3_newJob_2 ?_
  refine lv_iconst (v := 1) hx hb dX3_newJob_5 (by decide) ?_
  refine lv_iadd hx hb dX3_newJob_6 ?_
  refine mk_p3_5 hx hb hts in_X3_newJob_X3 hown hK hP hx_x0 hk_x0 (hD _ _) hS (hts (.fieldLink RX3 38 "MixedKernel$Task" "jobs" "I") (by decide +kernel)) dX3_newJob_7 (fun H locs hP hS => ?_)
  refine lv_aload_n hx hb dX3_newJob_10 rfl (lv_at hl 0 rfl) ?_
  refine lv_dup hx hb dX3_newJob_11 rfl ?_
  refine mk_g3_9 hx hb hts in_X3_newJob_X3 hown hK hP hx_x0 hk_x0 (hts (.fieldLink RX3 50 "MixedKernel$Task" "pending" "I") (by decide +kernel)) dX3_newJob_12 ?_
  refine lv_iconst (v := 1) hx hb dX3_newJob_15 (by decide) ?_
  refine lv_iadd hx hb dX3_newJob_16 ?_
  refine mk_p3_9 hx hb hts in_X3_newJob_X3 hown hK hP hx_x0 hk_x0 (hD _ _) hS (hts (.fieldLink RX3 50 "MixedKernel$Task" "pending" "I") (by decide +kernel)) dX3_newJob_17 (fun H locs hP hS => ?_)
  refine lv_aload_n hx hb dX3_newJob_20 rfl (lv_at hl 0 rfl) ?_
  refine mk_g3_5 hx hb hts in_X3_newJob_X3 hown hK hP hx_x0 hk_x0 (hts (.fieldLink RX3 38 "MixedKernel$Task" "jobs" "I") (by decide +kernel)) dX3_newJob_21 ?_
  obtain ⟨r_2, e_1, h⟩ := mk_bind h
  refine va_calli (va_runSN (As := [.int ((mk_st (mk_st M x0 5 ((M x0 5) + 1)) x0 9 (((mk_st M x0 5 ((M x0 5) + 1)) x0 9) + 1)) x0 5)]) (rest := []) ⟨hx, hb, hml, hown, hts⟩ (c_X5_slotOf l D E L ((mk_st (mk_st M x0 5 ((M x0 5) + 1)) x0 9 (((mk_st M x0 5 ((M x0 5) + 1)) x0 9) + 1)) x0 5) (mk_st (mk_st M x0 5 ((M x0 5) + 1)) x0 9 (((mk_st M x0 5 ((M x0 5) + 1)) x0 9) + 1))  e_1) ⟨va_cnB 1 hts ggX3_newJob_X5_slotOf rfl rfl rfl (hN (.methodLinkNest "MixedKernel$Task" 60 ⟨"MixedKernel", "slotOf", "(I)I"⟩ "MixedKernel") (by decide +kernel)) (hts (.initialized RX5) (by decide +kernel)) (by decide +kernel) ⟨Nat.le_of_ble_eq_true rfl, Nat.le_of_ble_eq_true rfl⟩, hts (.static yX5_slotOf) (by decide +kernel), trivial⟩ ⟨mk_W.blind, fun U hU hW => ⟨rfl, mk_W.at hU hW hP hK (hD _ _) hN⟩⟩ rfl rfl hl.1 rfl (lv_room (Nat.le_of_ble_eq_true rfl)) dX3_newJob_24 ⟨Nat.zero_le _, Nat.zero_le _⟩) hS (fun q _ h => h) (fun q h => h) (fun v_6 u t H1 locs ht hvm hw hB hz1 hk1 hS => ?_)
  subst v_6
  rw [ht] at hB
  replace hP := hB
  clear hB hz1 hk1 hvm ht
  generalize H1 = H at hP hS ⊢
  refine lv_istore_n (lv' := [(3, .int r_2), (0, .ref (E.1 x0)), (1, .int a1), (2, .int a2)]) hx hb dX3_newJob_27 rfl hl (by decide) rfl (fun ls hl => ?_)
  refine lv_aload_n hx hb dX3_newJob_28 rfl (lv_at hl 1 rfl) ?_
  refine mk_g3_11 hx hb hts in_X3_newJob_X3 hown hK hP hx_x0 hk_x0 (hts (.fieldLink RX3 21 "MixedKernel$Task" "demands" "[I") (by decide +kernel)) dX3_newJob_29 ?_
  refine lv_iload_n hx hb dX3_newJob_32 rfl (lv_at hl 0 rfl) ?_
  refine lv_iload_n hx hb dX3_newJob_33 rfl (lv_at hl 2 rfl) ?_
  obtain ⟨i_3, h⟩ := mk_ifn h
  refine mk_is hx hb hK hP (hD _ _) hS ha_x0.1.1 ha_x0.1.2.1 (by rw [ha_x0.1.2.2]; exact i_3) dX3_newJob_34 (fun H locs hP hS => ?_)
  refine lv_aload_n hx hb dX3_newJob_35 rfl (lv_at hl 1 rfl) ?_
  refine mk_g3_12 hx hb hts in_X3_newJob_X3 hown hK hP hx_x0 hk_x0 (hts (.fieldLink RX3 25 "MixedKernel$Task" "releaseTimes" "[I") (by decide +kernel)) dX3_newJob_36 ?_
  refine lv_iload_n hx hb dX3_newJob_39 rfl (lv_at hl 0 rfl) ?_
  refine lv_iload_n hx hb dX3_newJob_40 rfl (lv_at hl 3 rfl) ?_
  obtain ⟨i_4, h⟩ := mk_ifn h
  refine mk_is hx hb hK hP (hD _ _) hS ha_x0.2.1.1 ha_x0.2.1.2.1 (by rw [ha_x0.2.1.2.2]; exact i_4) dX3_newJob_41 (fun H locs hP hS => ?_)
  refine lv_aload_n hx hb dX3_newJob_42 rfl (lv_at hl 1 rfl) ?_
  refine mk_g3_13 hx hb hts in_X3_newJob_X3 hown hK hP hx_x0 hk_x0 (hts (.fieldLink RX3 28 "MixedKernel$Task" "endTimes" "[I") (by decide +kernel)) dX3_newJob_43 ?_
  refine lv_iload_n hx hb dX3_newJob_46 rfl (lv_at hl 0 rfl) ?_
  refine lv_iconst (v := -1) hx hb dX3_newJob_47 (by decide) ?_
  obtain ⟨i_5, h⟩ := mk_ifn h
  refine mk_is hx hb hK hP (hD _ _) hS ha_x0.2.2.1 ha_x0.2.2.2.1 (by rw [ha_x0.2.2.2.2]; exact i_5) dX3_newJob_48 (fun H locs hP hS => ?_)
  refine lv_aload_n hx hb dX3_newJob_49 rfl (lv_at hl 1 rfl) ?_
  refine mk_g3_5 hx hb hts in_X3_newJob_X3 hown hK hP hx_x0 hk_x0 (hts (.fieldLink RX3 38 "MixedKernel$Task" "jobs" "I") (by decide +kernel)) dX3_newJob_50 ?_
  replace h := Option.some.inj h
  subst q
  exact W.iret (v := (mk_st (mk_st (mk_st (mk_st (mk_st M x0 5 ((M x0 5) + 1)) x0 9 (((mk_st M x0 5 ((M x0 5) + 1)) x0 9) + 1)) (x0+1) (r_2).toNatClampNeg a1) (x0+2) (r_2).toNatClampNeg a2) (x0+3) (r_2).toNatClampNeg (-1)) x0 5) hx hb hr (fun t ht hW => ⟨⟨_, (), rfl, rfl, by rw [← ht] at hP; exact hP⟩, hS.F ht⟩) hS.2.2 dX3_newJob_53
abbrev rm_X3_lateJobs : Room := { frames := 2, cells := 0, slots := 0, locals := 42 }
theorem in_X3_lateJobs_X3 : ∀ w ∈ wsX30, w ∈ wsX3_lateJobs := by decide +kernel
def f_X3_lateJobs_7 (x0 : Nat) : Nat → Int32 → Int32 → Int32 → mk_M → Option (Int32)
  | 0, _, _, _, _ => none
  | n + 1, l1, l2, l3, M => (if (M x0 9) ≤ l3 then (some l2) else ((f_X5_slotOf ((M x0 5) - l3) M).bind (fun r_3 => ((f_X3_isLate x0 r_3 l1 M).bind (fun r_5 => (if r_5 = 0 then (f_X3_lateJobs_7 x0 n l1 l2 (l3 + 1) M) else (f_X3_lateJobs_7 x0 n l1 (l2 + 1) (l3 + 1) M)))))))
set_option maxHeartbeats 4000000 in
set_option maxRecDepth 100000 in
theorem w_X3_lateJobs_7 {p : Program} {l : Launch} {e : Env} {s : State} {m : MethodId} {args : Array Value} {below : List Frame} {meth : Method} {c : Code} {D : va_G} {E : mk_E} {L : Nat → Int64} (C0 : mk_C p s m args meth c cX3_lateJobs 4 wsX3_lateJobs RX3 (some .int) D E) (x0 : Nat) (hx_x0 : x0 < 94) (hk_x0 : mk_kd x0 = 3) : ∀ n : Nat, ∀ (l1 : Int32) (l2 : Int32) (l3 : Int32) (M : mk_M) (q : Int32), f_X3_lateJobs_7 x0 n l1 l2 l3 M = some q → ∀ (H : Heap) (locs : List Loc) (ls : Array Slot), va_P D vwCl (mk_wl E M L) H → va_S (mk_A E) s.heap H locs → lv_has ls 4 [(0, .ref (E.1 x0)), (1, .int l1), (2, .int l2), (3, .int l3)] → W p l e rm_X3_lateJobs s m args below meth c H locs 0 0 (MQ below (mk_Qi D E L q M) args s 0 0 (mk_A E)) (F0 m 7 ls []) := by
  obtain ⟨hx, hb, hml, hown, hts, hr, hlk, hK, hD, hN⟩ := id C0
  have ha_x0 := mk_s3 hk_x0
  intro n
  induction n with
  | zero =>
    intro l1 l2 l3 M q h
    cases h
  | succ n ih =>
    intro l1 l2 l3 M q h H locs ls hP hS hl
    replace h : (if (M x0 9) ≤ l3 then (some l2) else ((f_X5_slotOf ((M x0 5) - l3) M).bind (fun r_3 => ((f_X3_isLate x0 r_3 l1 M).bind (fun r_5 => (if r_5 = 0 then (f_X3_lateJobs_7 x0 n l1 l2 (l3 + 1) M) else (f_X3_lateJobs_7 x0 n l1 (l2 + 1) (l3 + 1) M))))))) = some q := h
    refine lv_iload_n hx hb dX3_lateJobs_7 rfl (lv_at hl 3 rfl) ?_
    refine lv_aload_n hx hb dX3_lateJobs_8 rfl (lv_at hl 0 rfl) ?_
    refine mk_g3_9 hx hb hts in_X3_lateJobs_X3 hown hK hP hx_x0 hk_x0 (hts (.fieldLink RX3 50 "MixedKernel$Task" "pending" "I") (by decide +kernel)) dX3_lateJobs_9 ?_
    refine lv_icmp_ge (tgt := 41) hx hb dX3_lateJobs_12 (by decide) (fun c_1 => ?_) (fun c_1 => ?_)
    · replace h := (if_pos c_1).symm.trans h
      refine lv_iload_n hx hb dX3_lateJobs_41 rfl (lv_at hl 2 rfl) ?_
      replace h := Option.some.inj h
      subst q
      exact W.iret (v := l2) hx hb hr (fun t ht hW => ⟨⟨_, (), rfl, rfl, by rw [← ht] at hP; exact hP⟩, hS.F ht⟩) hS.2.2 dX3_lateJobs_42
    · replace h := (if_neg c_1).symm.trans h
      refine lv_aload_n hx hb dX3_lateJobs_15 rfl (lv_at hl 0 rfl) ?_
      refine lv_aload_n hx hb dX3_lateJobs_16 rfl (lv_at hl 0 rfl) ?_
      refine mk_g3_5 hx hb hts in_X3_lateJobs_X3 hown hK hP hx_x0 hk_x0 (hts (.fieldLink RX3 38 "MixedKernel$Task" "jobs" "I") (by decide +kernel)) dX3_lateJobs_17 ?_
      refine lv_iload_n hx hb dX3_lateJobs_20 rfl (lv_at hl 3 rfl) ?_
      refine lv_isub hx hb dX3_lateJobs_21 ?_
      obtain ⟨r_3, e_2, h⟩ := mk_bind h
      refine va_calli (va_runSN (As := [.int ((M x0 5) - l3)]) (rest := [.ref (E.1 x0)]) ⟨hx, hb, hml, hown, hts⟩ (c_X5_slotOf l D E L ((M x0 5) - l3) M  e_2) ⟨va_cnB 1 hts ggX3_lateJobs_X5_slotOf rfl rfl rfl (hN (.methodLinkNest "MixedKernel$Task" 60 ⟨"MixedKernel", "slotOf", "(I)I"⟩ "MixedKernel") (by decide +kernel)) (hts (.initialized RX5) (by decide +kernel)) (by decide +kernel) ⟨Nat.le_of_ble_eq_true rfl, Nat.le_of_ble_eq_true rfl⟩, hts (.static yX5_slotOf) (by decide +kernel), trivial⟩ ⟨mk_W.blind, fun U hU hW => ⟨rfl, mk_W.at hU hW hP hK (hD _ _) hN⟩⟩ rfl rfl hl.1 rfl (lv_room (Nat.le_of_ble_eq_true rfl)) dX3_lateJobs_22 ⟨Nat.zero_le _, Nat.zero_le _⟩) hS (fun q _ h => h) (fun q h => h) (fun v_8 u t H1 locs ht hvm hw hB hz1 hk1 hS => ?_)
      subst v_8
      rw [ht] at hB
      replace hP := hB
      clear hB hz1 hk1 hvm ht
      generalize H1 = H at hP hS ⊢
      refine lv_iload_n hx hb dX3_lateJobs_25 rfl (lv_at hl 1 rfl) ?_
      obtain ⟨r_5, e_4, h⟩ := mk_bind h
      refine va_calli (va_runV (As := [.int r_3, .int l1]) (rest := []) ⟨hx, hb, hml, hown, hts⟩ (c_X3_isLate l D E L x0 r_3 l1 M hx_x0 hk_x0 e_4) (cwV 2 hts gX3_lateJobs_X3_isLate rfl rfl rfl (by decide +kernel) ⟨Nat.le_of_ble_eq_true rfl, Nat.le_of_ble_eq_true rfl⟩) ⟨mk_W.blind, mk_rc3 hK hP hx_x0 hk_x0, fun U hU hW => ⟨rfl, mk_W.at hU hW hP hK (hD _ _) hN⟩⟩ rfl rfl hl.1 rfl (lv_room (Nat.le_of_ble_eq_true rfl)) dX3_lateJobs_26 ⟨Nat.zero_le _, Nat.zero_le _⟩) hS (fun q _ h => h) (fun q h => h) (fun v_7 u t H1 locs ht hvm hw hB hz1 hk1 hS => ?_)
      subst v_7
      rw [ht] at hB
      replace hP := hB
      clear hB hz1 hk1 hvm ht
      generalize H1 = H at hP hS ⊢
      refine lv_if_eq (tgt := 35) hx hb dX3_lateJobs_29 (by decide) (fun c_6 => ?_) (fun c_6 => ?_)
      · replace h := (if_pos c_6).symm.trans h
        refine lv_iinc (v := l3 + 1) (lv' := [(3, .int (l3 + 1)), (0, .ref (E.1 x0)), (1, .int l1), (2, .int l2)]) hx hb dX3_lateJobs_35 hl (k := 3) rfl rfl (by decide) rfl (fun ls hl => ?_)
        refine lv_goto (tgt := 7) hx hb dX3_lateJobs_38 (by decide) ?_
        exact ih l1 l2 (l3 + 1) M _ h _ _ _ hP hS (lv_sub hl [1, 2, 3, 0] rfl)
      · replace h := (if_neg c_6).symm.trans h
        refine lv_iinc (v := l2 + 1) (lv' := [(2, .int (l2 + 1)), (0, .ref (E.1 x0)), (1, .int l1), (3, .int l3)]) hx hb dX3_lateJobs_32 hl (k := 2) rfl rfl (by decide) rfl (fun ls hl => ?_)
        refine lv_iinc (v := l3 + 1) (lv' := [(3, .int (l3 + 1)), (2, .int (l2 + 1)), (0, .ref (E.1 x0)), (1, .int l1)]) hx hb dX3_lateJobs_35 hl (k := 3) rfl rfl (by decide) rfl (fun ls hl => ?_)
        refine lv_goto (tgt := 7) hx hb dX3_lateJobs_38 (by decide) ?_
        exact ih l1 (l2 + 1) (l3 + 1) M _ h _ _ _ hP hS (lv_sub hl [2, 3, 1, 0] rfl)
def f_X3_lateJobs (x0 : Nat) (a1 : Int32) (M : mk_M) : Option (Int32) := (f_X3_lateJobs_7 x0 mk_F a1 (M x0 8) 0 M)
set_option maxHeartbeats 4000000 in
set_option maxRecDepth 100000 in
theorem c_X3_lateJobs (l : Launch) (D : va_G) (E : mk_E) (L : Nat → Int64) (x0 : Nat) (a1 : Int32) (M : mk_M) (hx_x0 : x0 < 94) (hk_x0 : mk_kd x0 = 3) {q : Int32} (h : f_X3_lateJobs x0 a1 M = some q) : Met l yX3_lateJobs wsX3_lateJobs rm_X3_lateJobs (va_Pc [.ref (E.1 x0), .int a1] (mk_W D E M L)) (mk_Qi D E L q M) 0 0 (mk_A E) := by
  have ha_x0 := mk_s3 hk_x0
  refine Met.ofW (cc := cX3_lateJobs) (maxL := 4) (ret := (some .int)) (by decide) rfl ?_
  intro p e s m args below meth c s₁ B hml hv
  obtain ⟨rfl, hP, hK, hD0, hN⟩ := hv
  have hx := B.exec
  have hb := B.bytes
  have hr := B.returns
  have hts := atoms_spec (ws := wsX3_lateJobs) B.pre
  have hown : s.vm.findClass RX3 = some m.cls := findClass_of_methodNamed B.named
  have hlk := B.notSynchronized
  have hD : ∀ (M : mk_M) (L : Nat → Int64), va_D (mk_A E) (mk_wl E M L) := fun _ _ => mk_D hD0
  have C0 : mk_C p s m [.ref (E.1 x0), .int a1].toArray meth c cX3_lateJobs 4 wsX3_lateJobs RX3 (some .int) D E := ⟨hx, hb, hml, hown, hts, hr, hlk, hK, hD, hN⟩
  have hS : va_S (mk_A E) s.heap s.heap [] := va_S.rf
  have hl := lv_entry ([.ref (E.1 x0), .int a1]) (n := 4) (Nat.le_of_ble_eq_true rfl)
  rw [lg_entry_eq]
  generalize (lg_sl ([.ref (E.1 x0), .int a1]) ++ List.replicate (4 - (lg_sl ([.ref (E.1 x0), .int a1])).length) Slot.unset).toArray = ls at hl ⊢
  have hl : lv_has ls 4 [(0, .ref (E.1 x0)), (1, .int a1)] := hl
  replace h : (f_X3_lateJobs_7 x0 mk_F a1 (M x0 8) 0 M) = some q := h
  refine lv_aload_n hx hb dX3_lateJobs_0 rfl (lv_at hl 0 rfl) ?_
  refine mk_g3_8 hx hb hts in_X3_lateJobs_X3 hown hK hP hx_x0 hk_x0 (hts (.fieldLink RX3 47 "MixedKernel$Task" "endedLate" "I") (by decide +kernel)) dX3_lateJobs_1 ?_
  refine lv_istore_n (lv' := [(2, .int (M x0 8)), (0, .ref (E.1 x0)), (1, .int a1)]) hx hb dX3_lateJobs_4 rfl hl (by decide) rfl (fun ls hl => ?_)
  refine lv_iconst (v := 0) hx hb dX3_lateJobs_5 (by decide) ?_
  refine lv_istore_n (lv' := [(3, .int 0), (2, .int (M x0 8)), (0, .ref (E.1 x0)), (1, .int a1)]) hx hb dX3_lateJobs_6 rfl hl (by decide) rfl (fun ls hl => ?_)
  exact w_X3_lateJobs_7 C0 x0 hx_x0 hk_x0 mk_F a1 (M x0 8) 0 M _ h _ _ _ hP hS (lv_sub hl [2, 3, 1, 0] rfl)
