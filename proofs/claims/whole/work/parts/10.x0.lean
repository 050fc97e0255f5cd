abbrev rm_J9_floorMod_7cf53 : Room := { frames := 0, cells := 0, slots := 0, locals := 0 }
def f_J9_floorMod_7cf53 (a0 : Int32) (a1 : Int32) (M : mk_M) : Option (Int32) := (if a1 = 0 then none else (if 0 ≤ (a0 ^^^ a1) then (some (a0 - a0 / a1 * a1)) else (if (a0 - a0 / a1 * a1) = 0 then (some (a0 - a0 / a1 * a1)) else (some ((a0 - a0 / a1 * a1) + a1)))))
set_option maxHeartbeats 4000000 in
set_option maxRecDepth 100000 in
theorem c_J9_floorMod_7cf53 (l : Launch) (D : va_G) (E : mk_E) (L : Nat → Int64) (a0 : Int32) (a1 : Int32) (M : mk_M) {q : Int32} (h : f_J9_floorMod_7cf53 a0 a1 M = some q) : Met l yJ9_floorMod_7cf53 wsJ9_floorMod_7cf53 rm_J9_floorMod_7cf53 (va_Pc [.int a0, .int a1] (mk_W D E M L)) (mk_Qi D E L q M) 0 0 (mk_A E) := by
  refine va_MetF (cc := cJ9_floorMod_7cf53) (maxL := 3) (ret := (some .int)) (by decide +kernel) rfl ?_
  intro p e s m args below meth c s₁ B hml hv
  obtain ⟨rfl, hP, hK, hD0, hN⟩ := hv
  have hx := B.exec
  have hb := B.bytes
  have hr := B.returns
  have hts := atoms_spec (ws := wsJ9_floorMod_7cf53) B.pre
  have hown : s.vm.findClass RJ9 = some m.cls := findClass_of_methodNamed B.named
  have hlk := B.notSynchronized
  have hD : ∀ (M : mk_M) (L : Nat → Int64), va_D (mk_A E) (mk_wl E M L) := fun _ _ => mk_D hD0
  have C0 : mk_C p s m [.int a0, .int a1].toArray meth c cJ9_floorMod_7cf53 3 wsJ9_floorMod_7cf53 RJ9 (some .int) D E := ⟨hx, hb, hml, hown, hts, hr, hlk, hK, hD, hN⟩
  have hS : va_S (mk_A E) s.heap s.heap [] := va_S.rf
  have hl := lv_entry ([.int a0, .int a1]) (n := 3) (Nat.le_of_ble_eq_true rfl)
  rw [lg_entry_eq]
  generalize (lg_sl ([.int a0, .int a1]) ++ List.replicate (3 - (lg_sl ([.int a0, .int a1])).length) Slot.unset).toArray = ls at hl ⊢
  have hl : lv_has ls 3 [(0, .int a0), (1, .int a1)] := hl
  replace h : (if a1 = 0 then none else (if 0 ≤ (a0 ^^^ a1) then (some (a0 - a0 / a1 * a1)) else (if (a0 - a0 / a1 * a1) = 0 then (some (a0 - a0 / a1 * a1)) else (some ((a0 - a0 / a1 * a1) + a1))))) = some q := h
  refine lv_iload_n hx hb dJ9_floorMod_7cf53_0 rfl (lv_at hl 0 rfl) ?_
  refine lv_iload_n hx hb dJ9_floorMod_7cf53_1 rfl (lv_at hl 1 rfl) ?_
  obtain ⟨z_1, h⟩ := mk_ifn h
  refine lv_irem hx hb dJ9_floorMod_7cf53_2 z_1 ?_
  refine lv_istore_n (lv' := [(2, .int (a0 - a0 / a1 * a1)), (0, .int a0), (1, .int a1)]) hx hb dJ9_floorMod_7cf53_3 rfl hl (by decide) rfl (fun ls hl => ?_)
  refine lv_iload_n hx hb dJ9_floorMod_7cf53_4 rfl (lv_at hl 1 rfl) ?_
  refine lv_iload_n hx hb dJ9_floorMod_7cf53_5 rfl (lv_at hl 2 rfl) ?_
  refine lv_ixor hx hb dJ9_floorMod_7cf53_6 ?_
  refine lv_if_ge (tgt := 18) hx hb dJ9_floorMod_7cf53_7 (by decide) (fun c_2 => ?_) (fun c_2 => ?_)
  · replace h := (if_pos c_2).symm.trans h
    refine lv_iload_n hx hb dJ9_floorMod_7cf53_18 rfl (lv_at hl 0 rfl) ?_
    replace h := Option.some.inj h
    subst q
    exact W.iret (v := a0 - a0 / a1 * a1) hx hb hr (fun t ht hW => ⟨⟨_, (), rfl, rfl, by rw [← ht] at hP; exact hP⟩, hS.F ht⟩) hS.2.2 dJ9_floorMod_7cf53_19
  · replace h := (if_neg c_2).symm.trans h
    refine lv_iload_n hx hb dJ9_floorMod_7cf53_10 rfl (lv_at hl 0 rfl) ?_
    refine lv_if_eq (tgt := 18) hx hb dJ9_floorMod_7cf53_11 (by decide) (fun c_3 => ?_) (fun c_3 => ?_)
    · replace h := (if_pos c_3).symm.trans h
      refine lv_iload_n hx hb dJ9_floorMod_7cf53_18 rfl (lv_at hl 0 rfl) ?_
      replace h := Option.some.inj h
      subst q
      exact W.iret (v := a0 - a0 / a1 * a1) hx hb hr (fun t ht hW => ⟨⟨_, (), rfl, rfl, by rw [← ht] at hP; exact hP⟩, hS.F ht⟩) hS.2.2 dJ9_floorMod_7cf53_19
    · replace h := (if_neg c_3).symm.trans h
      refine lv_iload_n hx hb dJ9_floorMod_7cf53_14 rfl (lv_at hl 0 rfl) ?_
      refine lv_iload_n hx hb dJ9_floorMod_7cf53_15 rfl (lv_at hl 2 rfl) ?_
      refine lv_iadd hx hb dJ9_floorMod_7cf53_16 ?_
      replace h := Option.some.inj h
      subst q
      exact W.iret (v := (a0 - a0 / a1 * a1) + a1) hx hb hr (fun t ht hW => ⟨⟨_, (), rfl, rfl, by rw [← ht] at hP; exact hP⟩, hS.F ht⟩) hS.2.2 dJ9_floorMod_7cf53_17
abbrev rm_X0_put : Room := { frames := 1, cells := 0, slots := 0, locals := 22 }
theorem in_X0_put_X0 : ∀ w ∈ wsX00, w ∈ wsX0_put := by decide +kernel
def f_X0_put (x0 : Nat) (a1 : Int32) (M : mk_M) : Option (mk_M) := ((f_J9_floorMod_7cf53 (M x0 1) (Int32.ofNat (mk_ln (x0+1))) M).bind (fun r_2 => (if mk_ob r_2 (mk_ln (x0+1)) then none else (some (mk_st (mk_st M (x0+1) (r_2).toNatClampNeg a1) x0 1 (((mk_st M (x0+1) (r_2).toNatClampNeg a1) x0 1) + 1))))))
set_option maxHeartbeats 4000000 in
set_option maxRecDepth 100000 in
theorem c_X0_put (l : Launch) (D : va_G) (E : mk_E) (L : Nat → Int64) (x0 : Nat) (a1 : Int32) (M : mk_M) (hx_x0 : x0 < 94) (hk_x0 : mk_kd x0 = 0) {q : mk_M} (h : f_X0_put x0 a1 M = some q) : Met l yX0_put wsX0_put rm_X0_put (va_Pc [.ref (E.1 x0), .int a1] (mk_W D E M L)) (mk_Qv D E L q) 0 0 (mk_A E) := by
  have ha_x0 := mk_s0 hk_x0
  refine Met.ofW (cc := cX0_put) (maxL := 2) (ret := none) (by decide) rfl ?_
  intro p e s m args below meth c s₁ B hml hv
  obtain ⟨rfl, hP, hK, hD0, hN⟩ := hv
  have hx := B.exec
  have hb := B.bytes
  have hr := B.returns
  have hts := atoms_spec (ws := wsX0_put) B.pre
  have hown : s.vm.findClass RX0 = some m.cls := findClass_of_methodNamed B.named
  have hlk := B.notSynchronized
  have hD : ∀ (M : mk_M) (L : Nat → Int64), va_D (mk_A E) (mk_wl E M L) := fun _ _ => mk_D hD0
  have C0 : mk_C p s m [.ref (E.1 x0), .int a1].toArray meth c cX0_put 2 wsX0_put RX0 none D E := ⟨hx, hb, hml, hown, hts, hr, hlk, hK, hD, hN⟩
  have hS : va_S (mk_A E) s.heap s.heap [] := va_S.rf
  have hl := lv_entry ([.ref (E.1 x0), .int a1]) (n := 2) (Nat.le_of_ble_eq_true rfl)
  rw [lg_entry_eq]
  generalize (lg_sl ([.ref (E.1 x0), .int a1]) ++ List.replicate (2 - (lg_sl ([.ref (E.1 x0), .int a1])).length) Slot.unset).toArray = ls at hl ⊢
  have hl : lv_has ls 2 [(0, .ref (E.1 x0)), (1, .int a1)] := hl
  replace h : ((f_J9_floorMod_7cf53 (M x0 1) (Int32.ofNat (mk_ln (x0+1))) M).bind (fun r_2 => (if mk_ob r_2 (mk_ln (x0+1)) then none else (some (mk_st (mk_st M (x0+1) (r_2).toNatClampNeg a1) x0 1 (((mk_st M (x0+1) (r_2).toNatClampNeg a1) x0 1) + 1)))))) = some q := h
  refine lv_aload_n hx hb dX0_put_0 rfl (lv_at hl 0 rfl) ?_
  refine mk_g0_0 hx hb hts in_X0_put_X0 hown hK hP hx_x0 hk_x0 (hts (.fieldLink RX0 7 "MixedKernel$Latest" "kept" "[I") (by decide +kernel)) dX0_put_1 ?_
  refine lv_aload_n hx hb dX0_put_4 rfl (lv_at hl 0 rfl) ?_
  refine mk_g0_1 hx hb hts in_X0_put_X0 hown hK hP hx_x0 hk_x0 (hts (.fieldLink RX0 13 "MixedKernel$Latest" "total" "I") (by decide +kernel)) dX0_put_5 ?_
  refine lv_aload_n hx hb dX0_put_8 rfl (lv_at hl 0 rfl) ?_
  refine mk_g0_0 hx hb hts in_X0_put_X0 hown hK hP hx_x0 hk_x0 (hts (.fieldLink RX0 7 "MixedKernel$Latest" "kept" "[I") (by decide +kernel)) dX0_put_9 ?_
  refine mk_al hx hb hK hP ha_x0.1 ha_x0.2 dX0_put_12 ?_
  obtain ⟨r_2, e_1, h⟩ := mk_bind h
  refine va_calli (va_runS (As := [.int (M x0 1), .int (Int32.ofNat (mk_ln (x0+1)))]) (rest := [.ref (E.1 (x0+1))]) ⟨hx, hb, hml, hown, hts⟩ (c_J9_floorMod_7cf53 l D E L (M x0 1) (Int32.ofNat (mk_ln (x0+1))) M  e_1) (va_cwS 2 hts gX0_put_J9_floorMod_7cf53 rfl rfl rfl (by decide +kernel) ⟨Nat.le_of_ble_eq_true rfl, Nat.le_of_ble_eq_true rfl⟩) ⟨mk_W.blind, fun U hU hW => ⟨rfl, mk_W.at hU hW hP hK (hD _ _) hN⟩⟩ rfl rfl hl.1 rfl (lv_room (Nat.le_of_ble_eq_true rfl)) dX0_put_13 ⟨Nat.zero_le _, Nat.zero_le _⟩) hS (fun q _ h => h) (fun q h => h) (fun v_4 u t H1 locs ht hvm hw hB hz1 hk1 hS => ?_)
  subst v_4
  rw [ht] at hB
  replace hP := hB
  clear hB hz1 hk1 hvm ht
  generalize H1 = H at hP hS ⊢
  refine lv_iload_n hx hb dX0_put_16 rfl (lv_at hl 1 rfl) ?_
  obtain ⟨i_3, h⟩ := mk_ifn h
  refine mk_is hx hb hK hP (hD _ _) hS ha_x0.1 ha_x0.2 i_3 dX0_put_17 (fun H locs hP hS => ?_)
  refine lv_aload_n hx hb dX0_put_18 rfl (lv_at hl 0 rfl) ?_
  refine lv_dup hx hb dX0_put_19 rfl ?_
  refine mk_g0_1 hx hb hts in_X0_put_X0 hown hK hP hx_x0 hk_x0 (hts (.fieldLink RX0 13 "MixedKernel$Latest" "total" "I") (by decide +kernel)) dX0_put_20 ?_
  refine lv_iconst (v := 1) hx hb dX0_put_23 (by decide) ?_
  refine lv_iadd hx hb dX0_put_24 ?_
  refine mk_p0_1 hx hb hts in_X0_put_X0 hown hK hP hx_x0 hk_x0 (hD _ _) hS (hts (.fieldLink RX0 13 "MixedKernel$Latest" "total" "I") (by decide +kernel)) dX0_put_25 (fun H locs hP hS => ?_)
  replace h := Option.some.inj h
  subst q
  exact W.vret hx hb hr (fun t ht hW => ⟨⟨(), rfl, trivial, by rw [← ht] at hP; exact hP⟩, hS.F ht⟩) hS.2.2 dX0_put_28
abbrev rm_X5_slotOf : Room := { frames := 1, cells := 0, slots := 0, locals := 22 }
def f_X5_slotOf (a0 : Int32) (M : mk_M) : Option (Int32) := ((f_J9_floorMod_7cf53 a0 8 M).bind (fun r_2 => (some r_2)))
set_option maxHeartbeats 4000000 in
set_option maxRecDepth 100000 in
theorem c_X5_slotOf (l : Launch) (D : va_G) (E : mk_E) (L : Nat → Int64) (a0 : Int32) (M : mk_M) {q : Int32} (h : f_X5_slotOf a0 M = some q) : Met l yX5_slotOf wsX5_slotOf rm_X5_slotOf (va_Pc [.int a0] (mk_W D E M L)) (mk_Qi D E L q M) 0 0 (mk_A E) := by
  refine Met.ofW (cc := cX5_slotOf) (maxL := 1) (ret := (some .int)) (by decide) rfl ?_
  intro p e s m args below meth c s₁ B hml hv
  obtain ⟨rfl, hP, hK, hD0, hN⟩ := hv
  have hx := B.exec
  have hb := B.bytes
  have hr := B.returns
  have hts := atoms_spec (ws := wsX5_slotOf) B.pre
  have hown : s.vm.findClass RX5 = some m.cls := findClass_of_methodNamed B.named
  have hlk := B.notSynchronized
  have hD : ∀ (M : mk_M) (L : Nat → Int64), va_D (mk_A E) (mk_wl E M L) := fun _ _ => mk_D hD0
  have C0 : mk_C p s m [.int a0].toArray meth c cX5_slotOf 1 wsX5_slotOf RX5 (some .int) D E := ⟨hx, hb, hml, hown, hts, hr, hlk, hK, hD, hN⟩
  have hS : va_S (mk_A E) s.heap s.heap [] := va_S.rf
  have hl := lv_entry ([.int a0]) (n := 1) (Nat.le_of_ble_eq_true rfl)
  rw [lg_entry_eq]
  generalize (lg_sl ([.int a0]) ++ List.replicate (1 - (lg_sl ([.int a0])).length) Slot.unset).toArray = ls at hl ⊢
  have hl : lv_has ls 1 [(0, .int a0)] := hl
  replace h : ((f_J9_floorMod_7cf53 a0 8 M).bind (fun r_2 => (some r_2))) = some q := h
  refine lv_iload_n hx hb dX5_slotOf_0 rfl (lv_at hl 0 rfl) ?_
  refine lv_bipush (v := 8) hx hb dX5_slotOf_1 (by decide) ?_
  obtain ⟨r_2, e_1, h⟩ := mk_bind h
  refine va_calli (va_runS (As := [.int a0, .int 8]) (rest := []) ⟨hx, hb, hml, hown, hts⟩ (c_J9_floorMod_7cf53 l D E L a0 8 M  e_1) (va_cwS 2 hts gX5_slotOf_J9_floorMod_7cf53 rfl rfl rfl (by decide +kernel) ⟨Nat.le_of_ble_eq_true rfl, Nat.le_of_ble_eq_true rfl⟩) ⟨mk_W.blind, fun U hU hW => ⟨rfl, mk_W.at hU hW hP hK (hD _ _) hN⟩⟩ rfl rfl hl.1 rfl (lv_room (Nat.le_of_ble_eq_true rfl)) dX5_slotOf_3 ⟨Nat.zero_le _, Nat.zero_le _⟩) hS (fun q _ h => h) (fun q h => h) (fun v_3 u t H1 locs ht hvm hw hB hz1 hk1 hS => ?_)
  subst v_3
  rw [ht] at hB
  replace hP := hB
  clear hB hz1 hk1 hvm ht
  generalize H1 = H at hP hS ⊢
  replace h := Option.some.inj h
  subst q
  exact W.iret (v := r_2) hx hb hr (fun t ht hW => ⟨⟨_, (), rfl, rfl, by rw [← ht] at hP; exact hP⟩, hS.F ht⟩) hS.2.2 dX5_slotOf_6
abbrev rm_X5_releasesWithin : Room := { frames := 0, cells := 0, slots := 0, locals := 0 }
def f_X5_releasesWithin (a0 : Int32) (a1 : Int32) (M : mk_M) : Option (Int32) := (if 1 ≤ a1 then (if a1 = 0 then none else (some (((a0 + a1) - 1) / a1))) else (some 0))
set_option maxHeartbeats 4000000 in
set_option maxRecDepth 100000 in
theorem c_X5_releasesWithin (l : Launch) (D : va_G) (E : mk_E) (L : Nat → Int64) (a0 : Int32) (a1 : Int32) (M : mk_M) {q : Int32} (h : f_X5_releasesWithin a0 a1 M = some q) : Met l yX5_releasesWithin wsX5_releasesWithin rm_X5_releasesWithin (va_Pc [.int a0, .int a1] (mk_W D E M L)) (mk_Qi D E L q M) 0 0 (mk_A E) := by
  refine Met.ofW (cc := cX5_releasesWithin) (maxL := 2) (ret := (some .int)) (by decide) rfl ?_
  intro p e s m args below meth c s₁ B hml hv
  obtain ⟨rfl, hP, hK, hD0, hN⟩ := hv
  have hx := B.exec
  have hb := B.bytes
  have hr := B.returns
  have hts := atoms_spec (ws := wsX5_releasesWithin) B.pre
  have hown : s.vm.findClass RX5 = some m.cls := findClass_of_methodNamed B.named
  have hlk := B.notSynchronized
  have hD : ∀ (M : mk_M) (L : Nat → Int64), va_D (mk_A E) (mk_wl E M L) := fun _ _ => mk_D hD0
  have C0 : mk_C p s m [.int a0, .int a1].toArray meth c cX5_releasesWithin 2 wsX5_releasesWithin RX5 (some .int) D E := ⟨hx, hb, hml, hown, hts, hr, hlk, hK, hD, hN⟩
  have hS : va_S (mk_A E) s.heap s.heap [] := va_S.rf
  have hl := lv_entry ([.int a0, .int a1]) (n := 2) (Nat.le_of_ble_eq_true rfl)
  rw [lg_entry_eq]
  generalize (lg_sl ([.int a0, .int a1]) ++ List.replicate (2 - (lg_sl ([.int a0, .int a1])).length) Slot.unset).toArray = ls at hl ⊢
  have hl : lv_has ls 2 [(0, .int a0), (1, .int a1)] := hl
  replace h : (if 1 ≤ a1 then (if a1 = 0 then none else (some (((a0 + a1) - 1) / a1))) else (some 0)) = some q := h
  refine lv_iload_n hx hb dX5_releasesWithin_0 rfl (lv_at hl 1 rfl) ?_
  refine lv_iconst (v := 1) hx hb dX5_releasesWithin_1 (by decide) ?_
  refine lv_icmp_ge (tgt := 9) hx hb dX5_releasesWithin_2 (by decide) (fun c_1 => ?_) (fun c_1 => ?_)
  · replace h := (if_pos c_1).symm.trans h
    refine lv_iload_n hx hb dX5_releasesWithin_9 rfl (lv_at hl 0 rfl) ?_
    refine lv_iload_n hx hb dX5_releasesWithin_10 rfl (lv_at hl 1 rfl) ?_
    refine lv_iadd hx hb dX5_releasesWithin_11 ?_
    refine lv_iconst (v := 1) hx hb dX5_releasesWithin_12 (by decide) ?_
    refine lv_isub hx hb dX5_releasesWithin_13 ?_
    refine lv_iload_n hx hb dX5_releasesWithin_14 rfl (lv_at hl 1 rfl) ?_
    obtain ⟨z_2, h⟩ := mk_ifn h
    refine lv_idiv hx hb dX5_releasesWithin_15 z_2 ?_
    replace h := Option.some.inj h
    subst q
    exact W.iret (v := ((a0 + a1) - 1) / a1) hx hb hr (fun t ht hW => ⟨⟨_, (), rfl, rfl, by rw [← ht] at hP; exact hP⟩, hS.F ht⟩) hS.2.2 dX5_releasesWithin_16
  · replace h := (if_neg c_1).symm.trans h
    refine lv_iconst (v := 0) hx hb dX5_releasesWithin_5 (by decide) ?_
    refine lv_goto (tgt := 16) hx hb dX5_releasesWithin_6 (by decide) ?_
    replace h := Option.some.inj h
    subst q
    exact W.iret (v := 0) hx hb hr (fun t ht hW => ⟨⟨_, (), rfl, rfl, by rw [← ht] at hP; exact hP⟩, hS.F ht⟩) hS.2.2 dX5_releasesWithin_16
abbrev rm_X0_keeps : Room := { frames := 0, cells := 0, slots := 0, locals := 0 }
theorem in_X0_keeps_X0 : ∀ w ∈ wsX00, w ∈ wsX0_keeps := by decide +kernel
def f_X0_keeps (x0 : Nat) (a1 : Int32) (M : mk_M) : Option (Int32) := (if a1 < 0 then (some 0) else (if (Int32.ofNat (mk_ln (x0+1))) ≤ a1 then (some 0) else (if (M x0 1) ≤ a1 then (some 0) else (some 1))))
set_option maxHeartbeats 4000000 in
set_option maxRecDepth 100000 in
theorem c_X0_keeps (l : Launch) (D : va_G) (E : mk_E) (L : Nat → Int64) (x0 : Nat) (a1 : Int32) (M : mk_M) (hx_x0 : x0 < 94) (hk_x0 : mk_kd x0 = 0) {q : Int32} (h : f_X0_keeps x0 a1 M = some q) : Met l yX0_keeps wsX0_keeps rm_X0_keeps (va_Pc [.ref (E.1 x0), .int a1] (mk_W D E M L)) (mk_Qi D E L q M) 0 0 (mk_A E) := by
  have ha_x0 := mk_s0 hk_x0
  refine Met.ofW (cc := cX0_keeps) (maxL := 2) (ret := (some .boolean)) (by decide) rfl ?_
  intro p e s m args below meth c s₁ B hml hv
  obtain ⟨rfl, hP, hK, hD0, hN⟩ := hv
  have hx := B.exec
  have hb := B.bytes
  have hr := B.returns
  have hts := atoms_spec (ws := wsX0_keeps) B.pre
  have hown : s.vm.findClass RX0 = some m.cls := findClass_of_methodNamed B.named
  have hlk := B.notSynchronized
  have hD : ∀ (M : mk_M) (L : Nat → Int64), va_D (mk_A E) (mk_wl E M L) := fun _ _ => mk_D hD0
  have C0 : mk_C p s m [.ref (E.1 x0), .int a1].toArray meth c cX0_keeps 2 wsX0_keeps RX0 (some .boolean) D E := ⟨hx, hb, hml, hown, hts, hr, hlk, hK, hD, hN⟩
  have hS : va_S (mk_A E) s.heap s.heap [] := va_S.rf
  have hl := lv_entry ([.ref (E.1 x0), .int a1]) (n := 2) (Nat.le_of_ble_eq_true rfl)
  rw [lg_entry_eq]
  generalize (lg_sl ([.ref (E.1 x0), .int a1]) ++ List.replicate (2 - (lg_sl ([.ref (E.1 x0), .int a1])).length) Slot.unset).toArray = ls at hl ⊢
  have hl : lv_has ls 2 [(0, .ref (E.1 x0)), (1, .int a1)] := hl
  replace h : (if a1 < 0 then (some 0) else (if (Int32.ofNat (mk_ln (x0+1))) ≤ a1 then (some 0) else (if (M x0 1) ≤ a1 then (some 0) else (some 1)))) = some q := h
  refine lv_iload_n hx hb dX0_keeps_0 rfl (lv_at hl 1 rfl) ?_
  refine lv_if_lt (tgt := 25) hx hb dX0_keeps_1 (by decide) (fun c_1 => ?_) (fun c_1 => ?_)
  · replace h := (if_pos c_1).symm.trans h
    refine lv_iconst (v := 0) hx hb dX0_keeps_25 (by decide) ?_
    replace h := Option.some.inj h
    subst q
    exact W.zret (v := 0) hx hb hr rfl (fun t ht hW => ⟨⟨_, (), rfl, rfl, by rw [← ht] at hP; exact hP⟩, hS.F ht⟩) hS.2.2 dX0_keeps_26
  · replace h := (if_neg c_1).symm.trans h
    refine lv_iload_n hx hb dX0_keeps_4 rfl (lv_at hl 1 rfl) ?_
    refine lv_aload_n hx hb dX0_keeps_5 rfl (lv_at hl 0 rfl) ?_
    refine mk_g0_0 hx hb hts in_X0_keeps_X0 hown hK hP hx_x0 hk_x0 (hts (.fieldLink RX0 7 "MixedKernel$Latest" "kept" "[I") (by decide +kernel)) dX0_keeps_6 ?_
    refine mk_al hx hb hK hP ha_x0.1 ha_x0.2 dX0_keeps_9 ?_
    refine lv_icmp_ge (tgt := 25) hx hb dX0_keeps_10 (by decide) (fun c_2 => ?_) (fun c_2 => ?_)
    · replace h := (if_pos c_2).symm.trans h
      refine lv_iconst (v := 0) hx hb dX0_keeps_25 (by decide) ?_
      replace h := Option.some.inj h
      subst q
      exact W.zret (v := 0) hx hb hr rfl (fun t ht hW => ⟨⟨_, (), rfl, rfl, by rw [← ht] at hP; exact hP⟩, hS.F ht⟩) hS.2.2 dX0_keeps_26
    · replace h := (if_neg c_2).symm.trans h
      refine lv_iload_n hx hb dX0_keeps_13 rfl (lv_at hl 1 rfl) ?_
      refine lv_aload_n hx hb dX0_keeps_14 rfl (lv_at hl 0 rfl) ?_
      refine mk_g0_1 hx hb hts in_X0_keeps_X0 hown hK hP hx_x0 hk_x0 (hts (.fieldLink RX0 13 "MixedKernel$Latest" "total" "I") (by decide +kernel)) dX0_keeps_15 ?_
      refine lv_icmp_ge (tgt := 25) hx hb dX0_keeps_18 (by decide) (fun c_3 => ?_) (fun c_3 => ?_)
      · replace h := (if_pos c_3).symm.trans h
        refine lv_iconst (v := 0) hx hb dX0_keeps_25 (by decide) ?_
        replace h := Option.some.inj h
        subst q
        exact W.zret (v := 0) hx hb hr rfl (fun t ht hW => ⟨⟨_, (), rfl, rfl, by rw [← ht] at hP; exact hP⟩, hS.F ht⟩) hS.2.2 dX0_keeps_26
      · replace h := (if_neg c_3).symm.trans h
        refine lv_iconst (v := 1) hx hb dX0_keeps_21 (by decide) ?_
        refine lv_goto (tgt := 26) hx hb dX0_keeps_22 (by decide) ?_
        replace h := Option.some.inj h
        subst q
        exact W.zret (v := 1) hx hb hr rfl (fun t ht hW => ⟨⟨_, (), rfl, rfl, by rw [← ht] at hP; exact hP⟩, hS.F ht⟩) hS.2.2 dX0_keeps_26
abbrev rm_X0_back : Room := { frames := 1, cells := 0, slots := 0, locals := 22 }
theorem in_X0_back_X0 : ∀ w ∈ wsX00, w ∈ wsX0_back := by decide +kernel
def f_X0_back (x0 : Nat) (a1 : Int32) (M : mk_M) : Option (Int32) := ((f_J9_floorMod_7cf53 (((M x0 1) - 1) - a1) (Int32.ofNat (mk_ln (x0+1))) M).bind (fun r_2 => (if mk_ob r_2 (mk_ln (x0+1)) then none else (some (M (x0+1) (r_2).toNatClampNeg)))))
set_option maxHeartbeats 4000000 in
set_option maxRecDepth 100000 in
theorem c_X0_back (l : Launch) (D : va_G) (E : mk_E) (L : Nat → Int64) (x0 : Nat) (a1 : Int32) (M : mk_M) (hx_x0 : x0 < 94) (hk_x0 : mk_kd x0 = 0) {q : Int32} (h : f_X0_back x0 a1 M = some q) : Met l yX0_back wsX0_back rm_X0_back (va_Pc [.ref (E.1 x0), .int a1] (mk_W D E M L)) (mk_Qi D E L q M) 0 0 (mk_A E) := by
  have ha_x0 := mk_s0 hk_x0
  refine Met.ofW (cc := cX0_back) (maxL := 2) (ret := (some .int)) (by decide) rfl ?_
  intro p e s m args below meth c s₁ B hml hv
  obtain ⟨rfl, hP, hK, hD0, hN⟩ := hv
  have hx := B.exec
  have hb := B.bytes
  have hr := B.returns
  have hts := atoms_spec (ws := wsX0_back) B.pre
  have hown : s.vm.findClass RX0 = some m.cls := findClass_of_methodNamed B.named
  have hlk := B.notSynchronized
  have hD : ∀ (M : mk_M) (L : Nat → Int64), va_D (mk_A E) (mk_wl E M L) := fun _ _ => mk_D hD0
  have C0 : mk_C p s m [.ref (E.1 x0), .int a1].toArray meth c cX0_back 2 wsX0_back RX0 (some .int) D E := ⟨hx, hb, hml, hown, hts, hr, hlk, hK, hD, hN⟩
  have hS : va_S (mk_A E) s.heap s.heap [] := va_S.rf
  have hl := lv_entry ([.ref (E.1 x0), .int a1]) (n := 2) (Nat.le_of_ble_eq_true rfl)
  rw [lg_entry_eq]
  generalize (lg_sl ([.ref (E.1 x0), .int a1]) ++ List.replicate (2 - (lg_sl ([.ref (E.1 x0), .int a1])).length) Slot.unset).toArray = ls at hl ⊢
  have hl : lv_has ls 2 [(0, .ref (E.1 x0)), (1, .int a1)] := hl
  replace h : ((f_J9_floorMod_7cf53 (((M x0 1) - 1) - a1) (Int32.ofNat (mk_ln (x0+1))) M).bind (fun r_2 => (if mk_ob r_2 (mk_ln (x0+1)) then none else (some (M (x0+1) (r_2).toNatClampNeg))))) = some q := h
  refine lv_aload_n hx hb dX0_back_0 rfl (lv_at hl 0 rfl) ?_
  refine mk_g0_0 hx hb hts in_X0_back_X0 hown hK hP hx_x0 hk_x0 (hts (.fieldLink RX0 7 "MixedKernel$Latest" "kept" "[I") (by decide +kernel)) dX0_back_1 ?_
  refine lv_aload_n hx hb dX0_back_4 rfl (lv_at hl 0 rfl) ?_
  refine mk_g0_1 hx hb hts in_X0_back_X0 hown hK hP hx_x0 hk_x0 (hts (.fieldLink RX0 13 "MixedKernel$Latest" "total" "I") (by decide +kernel)) dX0_back_5 ?_
  refine lv_iconst (v := 1) hx hb dX0_back_8 (by decide) ?_
  refine lv_isub hx hb dX0_back_9 ?_
  refine lv_iload_n hx hb dX0_back_10 rfl (lv_at hl 1 rfl) ?_
  refine lv_isub hx hb dX0_back_11 ?_
  refine lv_aload_n hx hb dX0_back_12 rfl (lv_at hl 0 rfl) ?_
  refine mk_g0_0 hx hb hts in_X0_back_X0 hown hK hP hx_x0 hk_x0 (hts (.fieldLink RX0 7 "MixedKernel$Latest" "kept" "[I") (by decide +kernel)) dX0_back_13 ?_
  refine mk_al hx hb hK hP ha_x0.1 ha_x0.2 dX0_back_16 ?_
  obtain ⟨r_2, e_1, h⟩ := mk_bind h
  refine va_calli (va_runS (As := [.int (((M x0 1) - 1) - a1), .int (Int32.ofNat (mk_ln (x0+1)))]) (rest := [.ref (E.1 (x0+1))]) ⟨hx, hb, hml, hown, hts⟩ (c_J9_floorMod_7cf53 l D E L (((M x0 1) - 1) - a1) (Int32.ofNat (mk_ln (x0+1))) M  e_1) (va_cwS 2 hts gX0_back_J9_floorMod_7cf53 rfl rfl rfl (by decide +kernel) ⟨Nat.le_of_ble_eq_true rfl, Nat.le_of_ble_eq_true rfl⟩) ⟨mk_W.blind, fun U hU hW => ⟨rfl, mk_W.at hU hW hP hK (hD _ _) hN⟩⟩ rfl rfl hl.1 rfl (lv_room (Nat.le_of_ble_eq_true rfl)) dX0_back_17 ⟨Nat.zero_le _, Nat.zero_le _⟩) hS (fun q _ h => h) (fun q h => h) (fun v_4 u t H1 locs ht hvm hw hB hz1 hk1 hS => ?_)
  subst v_4
  rw [ht] at hB
  replace hP := hB
  clear hB hz1 hk1 hvm ht
  generalize H1 = H at hP hS ⊢
  obtain ⟨i_3, h⟩ := mk_ifn h
  refine mk_ia hx hb hK hP ha_x0.1 ha_x0.2 i_3 dX0_back_20 ?_
  replace h := Option.some.inj h
  subst q
  exact W.iret (v := M (x0+1) (r_2).toNatClampNeg) hx hb hr (fun t ht hW => ⟨⟨_, (), rfl, rfl, by rw [← ht] at hP; exact hP⟩, hS.F ht⟩) hS.2.2 dX0_back_21
