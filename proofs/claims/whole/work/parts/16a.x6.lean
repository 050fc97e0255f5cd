abbrev rm_X6_thrown : Room := { frames := 0, cells := 0, slots := 0, locals := 0 }
theorem in_X6_thrown_X6 : ∀ w ∈ wsX60, w ∈ wsX6_thrown := by decide +kernel
def f_X6_thrown (M : mk_M) : Option (Int32) := (some (M 68 0))
set_option maxHeartbeats 4000000 in
set_option maxRecDepth 100000 in
theorem c_X6_thrown (l : Launch) (D : va_G) (E : mk_E) (L : Nat → Int64) (M : mk_M) {q : Int32} (h : f_X6_thrown M = some q) : Met l yX6_thrown wsX6_thrown rm_X6_thrown (va_Pc [.ref (E.1 68)] (mk_W D E M L)) (mk_Qi D E L q M) 0 0 (mk_A E) := by
  refine Met.ofW (cc := cX6_thrown) (maxL := 1) (ret := (some .int)) (by decide) rfl ?_
  intro p e s m args below meth c s₁ B hml hv
  obtain ⟨rfl, hP, hK, hD0, hN⟩ := hv
  have hx := B.exec
  have hb := B.bytes
  have hr := B.returns
  have hts := atoms_spec (ws := wsX6_thrown) B.pre
  have hown : s.vm.findClass RX6 = some m.cls := findClass_of_methodNamed B.named
  have hlk := B.notSynchronized
  have hD : ∀ (M : mk_M) (L : Nat → Int64), va_D (mk_A E) (mk_wl E M L) := fun _ _ => mk_D hD0
  have C0 : mk_C p s m [.ref (E.1 68)].toArray meth c cX6_thrown 1 wsX6_thrown RX6 (some .int) D E := ⟨hx, hb, hml, hown, hts, hr, hlk, hK, hD, hN⟩
  have hS : va_S (mk_A E) s.heap s.heap [] := va_S.rf
  have hl := lv_entry ([.ref (E.1 68)]) (n := 1) (Nat.le_of_ble_eq_true rfl)
  rw [lg_entry_eq]
  generalize (lg_sl ([.ref (E.1 68)]) ++ List.replicate (1 - (lg_sl ([.ref (E.1 68)])).length) Slot.unset).toArray = ls at hl ⊢
  have hl : lv_has ls 1 [(0, .ref (E.1 68))] := hl
  replace h : (some (M 68 0)) = some q := h
  refine lv_aload_n hx hb dX6_thrown_0 rfl (lv_at hl 0 rfl) ?_
  refine mk_g6_0 hx hb hts in_X6_thrown_X6 hown hK hP (by decide) rfl (hts (.fieldLink RX6 83 "MixedKernelModel" "thrown" "I") (by decide +kernel)) dX6_thrown_1 ?_
  replace h := Option.some.inj h
  subst q
  exact W.iret (v := M 68 0) hx hb hr (fun t ht hW => ⟨⟨_, (), rfl, rfl, by rw [← ht] at hP; exact hP⟩, hS.F ht⟩) hS.2.2 dX6_thrown_4
abbrev rm_X6_goes : Room := { frames := 0, cells := 0, slots := 0, locals := 0 }
theorem in_X6_goes_X6 : ∀ w ∈ wsX60, w ∈ wsX6_goes := by decide +kernel
def f_X6_goes (a1 : Int32) (a2 : Int32) (a3 : Int32) (M : mk_M) : Option (Int32 × mk_M) := (if a1 = 0 then (if ((mk_st M 68 0 1) 68 0) = 0 then (some (1, mk_st M 68 0 1)) else (some (0, mk_st M 68 0 1))) else (if a2 = 0 then (if ((mk_st M 68 0 2) 68 0) = 0 then (some (1, mk_st M 68 0 2)) else (some (0, mk_st M 68 0 2))) else (if a3 = 0 then (if ((mk_st M 68 0 3) 68 0) = 0 then (some (1, mk_st M 68 0 3)) else (some (0, mk_st M 68 0 3))) else (if ((mk_st M 68 0 0) 68 0) = 0 then (some (1, mk_st M 68 0 0)) else (some (0, mk_st M 68 0 0))))))
set_option maxHeartbeats 4000000 in
set_option maxRecDepth 100000 in
theorem c_X6_goes (l : Launch) (D : va_G) (E : mk_E) (L : Nat → Int64) (a1 : Int32) (a2 : Int32) (a3 : Int32) (M : mk_M) {q : Int32 × mk_M} (h : f_X6_goes a1 a2 a3 M = some q) : Met l yX6_goes wsX6_goes rm_X6_goes (va_Pc [.ref (E.1 68), .int a1, .int a2, .int a3] (mk_W D E M L)) (mk_Qi D E L q.1 q.2) 0 0 (mk_A E) := by
  refine Met.ofW (cc := cX6_goes) (maxL := 4) (ret := (some .boolean)) (by decide) rfl ?_
  intro p e s m args below meth c s₁ B hml hv
  obtain ⟨rfl, hP, hK, hD0, hN⟩ := hv
  have hx := B.exec
  have hb := B.bytes
  have hr := B.returns
  have hts := atoms_spec (ws := wsX6_goes) B.pre
  have hown : s.vm.findClass RX6 = some m.cls := findClass_of_methodNamed B.named
  have hlk := B.notSynchronized
  have hD : ∀ (M : mk_M) (L : Nat → Int64), va_D (mk_A E) (mk_wl E M L) := fun _ _ => mk_D hD0
  have C0 : mk_C p s m [.ref (E.1 68), .int a1, .int a2, .int a3].toArray meth c cX6_goes 4 wsX6_goes RX6 (some .boolean) D E := ⟨hx, hb, hml, hown, hts, hr, hlk, hK, hD, hN⟩
  have hS : va_S (mk_A E) s.heap s.heap [] := va_S.rf
  have hl := lv_entry ([.ref (E.1 68), .int a1, .int a2, .int a3]) (n := 4) (Nat.le_of_ble_eq_true rfl)
  rw [lg_entry_eq]
  generalize (lg_sl ([.ref (E.1 68), .int a1, .int a2, .int a3]) ++ List.replicate (4 - (lg_sl ([.ref (E.1 68), .int a1, .int a2, .int a3])).length) Slot.unset).toArray = ls at hl ⊢
  have hl : lv_has ls 4 [(0, .ref (E.1 68)), (1, .int a1), (2, .int a2), (3, .int a3)] := hl
  replace h : (if a1 = 0 then (if ((mk_st M 68 0 1) 68 0) = 0 then (some (1, mk_st M 68 0 1)) else (some (0, mk_st M 68 0 1))) else (if a2 = 0 then (if ((mk_st M 68 0 2) 68 0) = 0 then (some (1, mk_st M 68 0 2)) else (some (0, mk_st M 68 0 2))) else (if a3 = 0 then (if ((mk_st M 68 0 3) 68 0) = 0 then (some (1, mk_st M 68 0 3)) else (some (0, mk_st M 68 0 3))) else (if ((mk_st M 68 0 0) 68 0) = 0 then (some (1, mk_st M 68 0 0)) else (some (0, mk_st M 68 0 0)))))) = some q := h
  refine lv_aload_n hx hb dX6_goes_0 rfl (lv_at hl 0 rfl) ?_
  refine lv_iload_n hx hb dX6_goes_1 rfl (lv_at hl 1 rfl) ?_
  refine lv_if_ne (tgt := 9) hx hb dX6_goes_2 (by decide) (fun c_1 => ?_) (fun c_1 => ?_)
  · replace h := (if_neg c_1).symm.trans h
    refine lv_iload_n hx hb dX6_goes_9 rfl (lv_at hl 2 rfl) ?_
    refine lv_if_ne (tgt := 17) hx hb dX6_goes_10 (by decide) (fun c_2 => ?_) (fun c_2 => ?_)
    · replace h := (if_neg c_2).symm.trans h
      refine lv_iload_n hx hb dX6_goes_17 rfl (lv_at hl 3 rfl) ?_
      refine lv_if_ne (tgt := 25) hx hb dX6_goes_18 (by decide) (fun c_3 => ?_) (fun c_3 => ?_)
      · replace h := (if_neg c_3).symm.trans h
        refine lv_iconst (v := 0) hx hb dX6_goes_25 (by decide) ?_
        refine mk_p6_0 hx hb hts in_X6_goes_X6 hown hK hP (by decide) rfl (hD _ _) hS (hts (.fieldLink RX6 83 "MixedKernelModel" "thrown" "I") (by decide +kernel)) dX6_goes_26 (fun H locs hP hS => ?_)
        refine lv_aload_n hx hb dX6_goes_29 rfl (lv_at hl 0 rfl) ?_
        refine mk_g6_0 hx hb hts in_X6_goes_X6 hown hK hP (by decide) rfl (hts (.fieldLink RX6 83 "MixedKernelModel" "thrown" "I") (by decide +kernel)) dX6_goes_30 ?_
        refine lv_if_ne (tgt := 40) hx hb dX6_goes_33 (by decide) (fun c_4 => ?_) (fun c_4 => ?_)
        · replace h := (if_neg c_4).symm.trans h
          refine lv_iconst (v := 0) hx hb dX6_goes_40 (by decide) ?_
          replace h := Option.some.inj h
          subst q
          exact W.zret (v := 0) hx hb hr rfl (fun t ht hW => ⟨⟨_, (), rfl, rfl, by rw [← ht] at hP; exact hP⟩, hS.F ht⟩) hS.2.2 dX6_goes_41
        · replace h := (if_pos c_4).symm.trans h
          refine lv_iconst (v := 1) hx hb dX6_goes_36 (by decide) ?_
          refine lv_goto (tgt := 41) hx hb dX6_goes_37 (by decide) ?_
          replace h := Option.some.inj h
          subst q
          exact W.zret (v := 1) hx hb hr rfl (fun t ht hW => ⟨⟨_, (), rfl, rfl, by rw [← ht] at hP; exact hP⟩, hS.F ht⟩) hS.2.2 dX6_goes_41
      · replace h := (if_pos c_3).symm.trans h
        refine lv_iconst (v := 3) hx hb dX6_goes_21 (by decide) ?_
        refine lv_goto (tgt := 26) hx hb dX6_goes_22 (by decide) ?_
        refine mk_p6_0 hx hb hts in_X6_goes_X6 hown hK hP (by decide) rfl (hD _ _) hS (hts (.fieldLink RX6 83 "MixedKernelModel" "thrown" "I") (by decide +kernel)) dX6_goes_26 (fun H locs hP hS => ?_)
        refine lv_aload_n hx hb dX6_goes_29 rfl (lv_at hl 0 rfl) ?_
        refine mk_g6_0 hx hb hts in_X6_goes_X6 hown hK hP (by decide) rfl (hts (.fieldLink RX6 83 "MixedKernelModel" "thrown" "I") (by decide +kernel)) dX6_goes_30 ?_
        refine lv_if_ne (tgt := 40) hx hb dX6_goes_33 (by decide) (fun c_5 => ?_) (fun c_5 => ?_)
        · replace h := (if_neg c_5).symm.trans h
          refine lv_iconst (v := 0) hx hb dX6_goes_40 (by decide) ?_
          replace h := Option.some.inj h
          subst q
          exact W.zret (v := 0) hx hb hr rfl (fun t ht hW => ⟨⟨_, (), rfl, rfl, by rw [← ht] at hP; exact hP⟩, hS.F ht⟩) hS.2.2 dX6_goes_41
        · replace h := (if_pos c_5).symm.trans h
          refine lv_iconst (v := 1) hx hb dX6_goes_36 (by decide) ?_
          refine lv_goto (tgt := 41) hx hb dX6_goes_37 (by decide) ?_
          replace h := Option.some.inj h
          subst q
          exact W.zret (v := 1) hx hb hr rfl (fun t ht hW => ⟨⟨_, (), rfl, rfl, by rw [← ht] at hP; exact hP⟩, hS.F ht⟩) hS.2.2 dX6_goes_41
    · replace h := (if_pos c_2).symm.trans h
      refine lv_iconst (v := 2) hx hb dX6_goes_13 (by decide) ?_
      refine lv_goto (tgt := 26) hx hb dX6_goes_14 (by decide) ?_
      refine mk_p6_0 hx hb hts in_X6_goes_X6 hown hK hP (by decide) rfl (hD _ _) hS (hts (.fieldLink RX6 83 "MixedKernelModel" "thrown" "I") (by decide +kernel)) dX6_goes_26 (fun H locs hP hS => ?_)
      refine lv_aload_n hx hb dX6_goes_29 rfl (lv_at hl 0 rfl) ?_
      refine mk_g6_0 hx hb hts in_X6_goes_X6 hown hK hP (by decide) rfl (hts (.fieldLink RX6 83 "MixedKernelModel" "thrown" "I") (by decide +kernel)) dX6_goes_30 ?_
      refine lv_if_ne (tgt := 40) hx hb dX6_goes_33 (by decide) (fun c_6 => ?_) (fun c_6 => ?_)
      · replace h := (if_neg c_6).symm.trans h
        refine lv_iconst (v := 0) hx hb dX6_goes_40 (by decide) ?_
        replace h := Option.some.inj h
        subst q
        exact W.zret (v := 0) hx hb hr rfl (fun t ht hW => ⟨⟨_, (), rfl, rfl, by rw [← ht] at hP; exact hP⟩, hS.F ht⟩) hS.2.2 dX6_goes_41
      · replace h := (if_pos c_6).symm.trans h
        refine lv_iconst (v := 1) hx hb dX6_goes_36 (by decide) ?_
        refine lv_goto (tgt := 41) hx hb dX6_goes_37 (by decide) ?_
        replace h := Option.some.inj h
        subst q
        exact W.zret (v := 1) hx hb hr rfl (fun t ht hW => ⟨⟨_, (), rfl, rfl, by rw [← ht] at hP; exact hP⟩, hS.F ht⟩) hS.2.2 dX6_goes_41
  · replace h := (if_pos c_1).symm.trans h
    refine lv_iconst (v := 1) hx hb dX6_goes_5 (by decide) ?_
    refine lv_goto (tgt := 26) hx hb dX6_goes_6 (by decide) ?_
    refine mk_p6_0 hx hb hts in_X6_goes_X6 hown hK hP (by decide) rfl (hD _ _) hS (hts (.fieldLink RX6 83 "MixedKernelModel" "thrown" "I") (by decide +kernel)) dX6_goes_26 (fun H locs hP hS => ?_)
    refine lv_aload_n hx hb dX6_goes_29 rfl (lv_at hl 0 rfl) ?_
    refine mk_g6_0 hx hb hts in_X6_goes_X6 hown hK hP (by decide) rfl (hts (.fieldLink RX6 83 "MixedKernelModel" "thrown" "I") (by decide +kernel)) dX6_goes_30 ?_
    refine lv_if_ne (tgt := 40) hx hb dX6_goes_33 (by decide) (fun c_7 => ?_) (fun c_7 => ?_)
    · replace h := (if_neg c_7).symm.trans h
      refine lv_iconst (v := 0) hx hb dX6_goes_40 (by decide) ?_
      replace h := Option.some.inj h
      subst q
      exact W.zret (v := 0) hx hb hr rfl (fun t ht hW => ⟨⟨_, (), rfl, rfl, by rw [← ht] at hP; exact hP⟩, hS.F ht⟩) hS.2.2 dX6_goes_41
    · replace h := (if_pos c_7).symm.trans h
      refine lv_iconst (v := 1) hx hb dX6_goes_36 (by decide) ?_
      refine lv_goto (tgt := 41) hx hb dX6_goes_37 (by decide) ?_
      replace h := Option.some.inj h
      subst q
      exact W.zret (v := 1) hx hb hr rfl (fun t ht hW => ⟨⟨_, (), rfl, rfl, by rw [← ht] at hP; exact hP⟩, hS.F ht⟩) hS.2.2 dX6_goes_41
abbrev rm_X6_within : Room := { frames := 0, cells := 0, slots := 0, locals := 0 }
def f_X6_within (a0 : Int32) (a1 : Int32) (a2 : Int32) (M : mk_M) : Option (Int32) := (if a0 < a1 then (some 0) else (if a2 < a0 then (some 0) else (some 1)))
set_option maxHeartbeats 4000000 in
set_option maxRecDepth 100000 in
theorem c_X6_within (l : Launch) (D : va_G) (E : mk_E) (L : Nat → Int64) (a0 : Int32) (a1 : Int32) (a2 : Int32) (M : mk_M) {q : Int32} (h : f_X6_within a0 a1 a2 M = some q) : Met l yX6_within wsX6_within rm_X6_within (va_Pc [.int a0, .int a1, .int a2] (mk_W D E M L)) (mk_Qi D E L q M) 0 0 (mk_A E) := by
  refine Met.ofW (cc := cX6_within) (maxL := 3) (ret := (some .boolean)) (by decide) rfl ?_
  intro p e s m args below meth c s₁ B hml hv
  obtain ⟨rfl, hP, hK, hD0, hN⟩ := hv
  have hx := B.exec
  have hb := B.bytes
  have hr := B.returns
  have hts := atoms_spec (ws := wsX6_within) B.pre
  have hown : s.vm.findClass RX6 = some m.cls := findClass_of_methodNamed B.named
  have hlk := B.notSynchronized
  have hD : ∀ (M : mk_M) (L : Nat → Int64), va_D (mk_A E) (mk_wl E M L) := fun _ _ => mk_D hD0
  have C0 : mk_C p s m [.int a0, .int a1, .int a2].toArray meth c cX6_within 3 wsX6_within RX6 (some .boolean) D E := ⟨hx, hb, hml, hown, hts, hr, hlk, hK, hD, hN⟩
  have hS : va_S (mk_A E) s.heap s.heap [] := va_S.rf
  have hl := lv_entry ([.int a0, .int a1, .int a2]) (n := 3) (Nat.le_of_ble_eq_true rfl)
  rw [lg_entry_eq]
  generalize (lg_sl ([.int a0, .int a1, .int a2]) ++ List.replicate (3 - (lg_sl ([.int a0, .int a1, .int a2])).length) Slot.unset).toArray = ls at hl ⊢
  have hl : lv_has ls 3 [(0, .int a0), (1, .int a1), (2, .int a2)] := hl
  replace h : (if a0 < a1 then (some 0) else (if a2 < a0 then (some 0) else (some 1))) = some q := h
  refine lv_iload_n hx hb dX6_within_0 rfl (lv_at hl 0 rfl) ?_
  refine lv_iload_n hx hb dX6_within_1 rfl (lv_at hl 1 rfl) ?_
  refine lv_icmp_lt (tgt := 14) hx hb dX6_within_2 (by decide) (fun c_1 => ?_) (fun c_1 => ?_)
  · replace h := (if_pos c_1).symm.trans h
    refine lv_iconst (v := 0) hx hb dX6_within_14 (by decide) ?_
    replace h := Option.some.inj h
    subst q
    exact W.zret (v := 0) hx hb hr rfl (fun t ht hW => ⟨⟨_, (), rfl, rfl, by rw [← ht] at hP; exact hP⟩, hS.F ht⟩) hS.2.2 dX6_within_15
  · replace h := (if_neg c_1).symm.trans h
    refine lv_iload_n hx hb dX6_within_5 rfl (lv_at hl 0 rfl) ?_
    refine lv_iload_n hx hb dX6_within_6 rfl (lv_at hl 2 rfl) ?_
    refine lv_icmp_gt (tgt := 14) hx hb dX6_within_7 (by decide) (fun c_2 => ?_) (fun c_2 => ?_)
    · replace h := (if_pos c_2).symm.trans h
      refine lv_iconst (v := 0) hx hb dX6_within_14 (by decide) ?_
      replace h := Option.some.inj h
      subst q
      exact W.zret (v := 0) hx hb hr rfl (fun t ht hW => ⟨⟨_, (), rfl, rfl, by rw [← ht] at hP; exact hP⟩, hS.F ht⟩) hS.2.2 dX6_within_15
    · replace h := (if_neg c_2).symm.trans h
      refine lv_iconst (v := 1) hx hb dX6_within_10 (by decide) ?_
      refine lv_goto (tgt := 15) hx hb dX6_within_11 (by decide) ?_
      replace h := Option.some.inj h
      subst q
      exact W.zret (v := 1) hx hb hr rfl (fun t ht hW => ⟨⟨_, (), rfl, rfl, by rw [← ht] at hP; exact hP⟩, hS.F ht⟩) hS.2.2 dX6_within_15
abbrev rm_X6_isKnown : Room := { frames := 0, cells := 0, slots := 0, locals := 0 }
theorem in_X6_isKnown_X6 : ∀ w ∈ wsX60, w ∈ wsX6_isKnown := by decide +kernel
def f_X6_isKnown (a1 : Int32) (M : mk_M) : Option (Int32) := (if a1 < 1 then (some 0) else (if 12 < a1 then (some 0) else (if mk_ob a1 13 then none else (if (M 69 (a1).toNatClampNeg) = 0 then (some 0) else (some 1)))))
set_option maxHeartbeats 4000000 in
set_option maxRecDepth 100000 in
theorem c_X6_isKnown (l : Launch) (D : va_G) (E : mk_E) (L : Nat → Int64) (a1 : Int32) (M : mk_M) {q : Int32} (h : f_X6_isKnown a1 M = some q) : Met l yX6_isKnown wsX6_isKnown rm_X6_isKnown (va_Pc [.ref (E.1 68), .int a1] (mk_W D E M L)) (mk_Qi D E L q M) 0 0 (mk_A E) := by
  refine Met.ofW (cc := cX6_isKnown) (maxL := 2) (ret := (some .boolean)) (by decide) rfl ?_
  intro p e s m args below meth c s₁ B hml hv
  obtain ⟨rfl, hP, hK, hD0, hN⟩ := hv
  have hx := B.exec
  have hb := B.bytes
  have hr := B.returns
  have hts := atoms_spec (ws := wsX6_isKnown) B.pre
  have hown : s.vm.findClass RX6 = some m.cls := findClass_of_methodNamed B.named
  have hlk := B.notSynchronized
  have hD : ∀ (M : mk_M) (L : Nat → Int64), va_D (mk_A E) (mk_wl E M L) := fun _ _ => mk_D hD0
  have C0 : mk_C p s m [.ref (E.1 68), .int a1].toArray meth c cX6_isKnown 2 wsX6_isKnown RX6 (some .boolean) D E := ⟨hx, hb, hml, hown, hts, hr, hlk, hK, hD, hN⟩
  have hS : va_S (mk_A E) s.heap s.heap [] := va_S.rf
  have hl := lv_entry ([.ref (E.1 68), .int a1]) (n := 2) (Nat.le_of_ble_eq_true rfl)
  rw [lg_entry_eq]
  generalize (lg_sl ([.ref (E.1 68), .int a1]) ++ List.replicate (2 - (lg_sl ([.ref (E.1 68), .int a1])).length) Slot.unset).toArray = ls at hl ⊢
  have hl : lv_has ls 2 [(0, .ref (E.1 68)), (1, .int a1)] := hl
  replace h : (if a1 < 1 then (some 0) else (if 12 < a1 then (some 0) else (if mk_ob a1 13 then none else (if (M 69 (a1).toNatClampNeg) = 0 then (some 0) else (some 1))))) = some q := h
  refine lv_iload_n hx hb dX6_isKnown_0 rfl (lv_at hl 1 rfl) ?_
  refine lv_iconst (v := 1) hx hb dX6_isKnown_1 (by decide) ?_
  refine lv_icmp_lt (tgt := 24) hx hb dX6_isKnown_2 (by decide) (fun c_1 => ?_) (fun c_1 => ?_)
  · replace h := (if_pos c_1).symm.trans h
    refine lv_iconst (v := 0) hx hb dX6_isKnown_24 (by decide) ?_
    replace h := Option.some.inj h
    subst q
    exact W.zret (v := 0) hx hb hr rfl (fun t ht hW => ⟨⟨_, (), rfl, rfl, by rw [← ht] at hP; exact hP⟩, hS.F ht⟩) hS.2.2 dX6_isKnown_25
  · replace h := (if_neg c_1).symm.trans h
    refine lv_iload_n hx hb dX6_isKnown_5 rfl (lv_at hl 1 rfl) ?_
    refine lv_bipush (v := 12) hx hb dX6_isKnown_6 (by decide) ?_
    refine lv_icmp_gt (tgt := 24) hx hb dX6_isKnown_8 (by decide) (fun c_2 => ?_) (fun c_2 => ?_)
    · replace h := (if_pos c_2).symm.trans h
      refine lv_iconst (v := 0) hx hb dX6_isKnown_24 (by decide) ?_
      replace h := Option.some.inj h
      subst q
      exact W.zret (v := 0) hx hb hr rfl (fun t ht hW => ⟨⟨_, (), rfl, rfl, by rw [← ht] at hP; exact hP⟩, hS.F ht⟩) hS.2.2 dX6_isKnown_25
    · replace h := (if_neg c_2).symm.trans h
      refine lv_aload_n hx hb dX6_isKnown_11 rfl (lv_at hl 0 rfl) ?_
      refine mk_g6_1 hx hb hts in_X6_isKnown_X6 hown hK hP (by decide) rfl (hts (.fieldLink RX6 7 "MixedKernelModel" "known" "[Z") (by decide +kernel)) dX6_isKnown_12 ?_
      refine lv_iload_n hx hb dX6_isKnown_15 rfl (lv_at hl 1 rfl) ?_
      obtain ⟨i_3, h⟩ := mk_ifn h
      refine mk_za hx hb hK hP (by decide) rfl i_3 dX6_isKnown_16 ?_
      refine lv_if_eq (tgt := 24) hx hb dX6_isKnown_17 (by decide) (fun c_4 => ?_) (fun c_4 => ?_)
      · replace h := (if_pos c_4).symm.trans h
        refine lv_iconst (v := 0) hx hb dX6_isKnown_24 (by decide) ?_
        replace h := Option.some.inj h
        subst q
        exact W.zret (v := 0) hx hb hr rfl (fun t ht hW => ⟨⟨_, (), rfl, rfl, by rw [← ht] at hP; exact hP⟩, hS.F ht⟩) hS.2.2 dX6_isKnown_25
      · replace h := (if_neg c_4).symm.trans h
        refine lv_iconst (v := 1) hx hb dX6_isKnown_20 (by decide) ?_
        refine lv_goto (tgt := 25) hx hb dX6_isKnown_21 (by decide) ?_
        replace h := Option.some.inj h
        subst q
        exact W.zret (v := 1) hx hb hr rfl (fun t ht hW => ⟨⟨_, (), rfl, rfl, by rw [← ht] at hP; exact hP⟩, hS.F ht⟩) hS.2.2 dX6_isKnown_25
abbrev rm_X6_times : Room := { frames := 0, cells := 0, slots := 0, locals := 0 }
def f_X6_times (a0 : Int32) (a1 : Int32) (M : mk_M) : Option (Int32) := (if a1 = 0 then none else (some (((a0 + a1) - 1) / a1)))
set_option maxHeartbeats 4000000 in
set_option maxRecDepth 100000 in
theorem c_X6_times (l : Launch) (D : va_G) (E : mk_E) (L : Nat → Int64) (a0 : Int32) (a1 : Int32) (M : mk_M) {q : Int32} (h : f_X6_times a0 a1 M = some q) : Met l yX6_times wsX6_times rm_X6_times (va_Pc [.int a0, .int a1] (mk_W D E M L)) (mk_Qi D E L q M) 0 0 (mk_A E) := by
  refine Met.ofW (cc := cX6_times) (maxL := 2) (ret := (some .int)) (by decide) rfl ?_
  intro p e s m args below meth c s₁ B hml hv
  obtain ⟨rfl, hP, hK, hD0, hN⟩ := hv
  have hx := B.exec
  have hb := B.bytes
  have hr := B.returns
  have hts := atoms_spec (ws := wsX6_times) B.pre
  have hown : s.vm.findClass RX6 = some m.cls := findClass_of_methodNamed B.named
  have hlk := B.notSynchronized
  have hD : ∀ (M : mk_M) (L : Nat → Int64), va_D (mk_A E) (mk_wl E M L) := fun _ _ => mk_D hD0
  have C0 : mk_C p s m [.int a0, .int a1].toArray meth c cX6_times 2 wsX6_times RX6 (some .int) D E := ⟨hx, hb, hml, hown, hts, hr, hlk, hK, hD, hN⟩
  have hS : va_S (mk_A E) s.heap s.heap [] := va_S.rf
  have hl := lv_entry ([.int a0, .int a1]) (n := 2) (Nat.le_of_ble_eq_true rfl)
  rw [lg_entry_eq]
  generalize (lg_sl ([.int a0, .int a1]) ++ List.replicate (2 - (lg_sl ([.int a0, .int a1])).length) Slot.unset).toArray = ls at hl ⊢
  have hl : lv_has ls 2 [(0, .int a0), (1, .int a1)] := hl
  replace h : (if a1 = 0 then none else (some (((a0 + a1) - 1) / a1))) = some q := h
  refine lv_iload_n hx hb dX6_times_0 rfl (lv_at hl 0 rfl) ?_
  refine lv_iload_n hx hb dX6_times_1 rfl (lv_at hl 1 rfl) ?_
  refine lv_iadd hx hb dX6_times_2 ?_
  refine lv_iconst (v := 1) hx hb dX6_times_3 (by decide) ?_
  refine lv_isub hx hb dX6_times_4 ?_
  refine lv_iload_n hx hb dX6_times_5 rfl (lv_at hl 1 rfl) ?_
  obtain ⟨z_1, h⟩ := mk_ifn h
  refine lv_idiv hx hb dX6_times_6 z_1 ?_
  replace h := Option.some.inj h
  subst q
  exact W.iret (v := ((a0 + a1) - 1) / a1) hx hb hr (fun t ht hW => ⟨⟨_, (), rfl, rfl, by rw [← ht] at hP; exact hP⟩, hS.F ht⟩) hS.2.2 dX6_times_7
abbrev rm_X6_lowResponse : Room := { frames := 1, cells := 0, slots := 0, locals := 21 }
theorem in_X6_lowResponse_X6 : ∀ w ∈ wsX60, w ∈ wsX6_lowResponse := by decide +kernel
def f_X6_lowResponse_22 (K2 : Int32 → Int32 → mk_M → Option (Int32)) : Nat → Int32 → Int32 → Int32 → Int32 → mk_M → Option (Int32)
  | 0, _, _, _, _, _ => none
  | n + 1, l1, l2, l3, l4, M => (if 13 ≤ l4 then (if l2 < l3 then (K2 l1 (l2 + 1) M) else (some l2)) else (if mk_ob l4 13 then none else (if (M 92 (l4).toNatClampNeg) = 0 then (f_X6_lowResponse_22 K2 n l1 l2 l3 (l4 + 1) M) else (if l4 = l1 then (f_X6_lowResponse_22 K2 n l1 l2 l3 (l4 + 1) M) else (if mk_ob l4 13 then none else ((f_X6_times l2 (M 71 (l4).toNatClampNeg) M).bind (fun r_11 => (if mk_ob l4 13 then none else (f_X6_lowResponse_22 K2 n l1 l2 (l3 + (r_11 * (M 73 (l4).toNatClampNeg))) (l4 + 1) M)))))))))
set_option maxHeartbeats 4000000 in
set_option maxRecDepth 100000 in
theorem w_X6_lowResponse_22 {p : Program} {l : Launch} {e : Env} {s : State} {m : MethodId} {args : Array Value} {below : List Frame} {meth : Method} {c : Code} {D : va_G} {E : mk_E} {L : Nat → Int64} (C0 : mk_C p s m args meth c cX6_lowResponse 5 wsX6_lowResponse RX6 (some .int) D E) (K2 : Int32 → Int32 → mk_M → Option (Int32)) (hK2 : ∀ (l1 : Int32) (l2 : Int32) (M : mk_M) (q : Int32), K2 l1 l2 M = some q → ∀ (H : Heap) (locs : List Loc) (ls : Array Slot), va_P D vwCl (mk_wl E M L) H → va_S (mk_A E) s.heap H locs → lv_has ls 5 [(0, .ref (E.1 68)), (1, .int l1), (2, .int l2)] → W p l e rm_X6_lowResponse s m args below meth c H locs 0 0 (MQ below (mk_Qi D E L q M) args s 0 0 (mk_A E)) (F0 m 2 ls [])) : ∀ n : Nat, ∀ (l1 : Int32) (l2 : Int32) (l3 : Int32) (l4 : Int32) (M : mk_M) (q : Int32), f_X6_lowResponse_22 K2 n l1 l2 l3 l4 M = some q → ∀ (H : Heap) (locs : List Loc) (ls : Array Slot), va_P D vwCl (mk_wl E M L) H → va_S (mk_A E) s.heap H locs → lv_has ls 5 [(0, .ref (E.1 68)), (1, .int l1), (2, .int l2), (3, .int l3), (4, .int l4)] → W p l e rm_X6_lowResponse s m args below meth c H locs 0 0 (MQ below (mk_Qi D E L q M) args s 0 0 (mk_A E)) (F0 m 22 ls []) := by
  obtain ⟨hx, hb, hml, hown, hts, hr, hlk, hK, hD, hN⟩ := id C0
  intro n
  induction n with
  | zero =>
    intro l1 l2 l3 l4 M q h
    cases h
  | succ n ih =>
    intro l1 l2 l3 l4 M q h H locs ls hP hS hl
    replace h : (if 13 ≤ l4 then (if l2 < l3 then (K2 l1 (l2 + 1) M) else (some l2)) else (if mk_ob l4 13 then none else (if (M 92 (l4).toNatClampNeg) = 0 then (f_X6_lowResponse_22 K2 n l1 l2 l3 (l4 + 1) M) else (if l4 = l1 then (f_X6_lowResponse_22 K2 n l1 l2 l3 (l4 + 1) M) else (if mk_ob l4 13 then none else ((f_X6_times l2 (M 71 (l4).toNatClampNeg) M).bind (fun r_11 => (if mk_ob l4 13 then none else (f_X6_lowResponse_22 K2 n l1 l2 (l3 + (r_11 * (M 73 (l4).toNatClampNeg))) (l4 + 1) M))))))))) = some q := h
    refine lv_iload hx hb dX6_lowResponse_22 (lv_at hl 4 rfl) ?_
    refine lv_bipush (v := 13) hx hb dX6_lowResponse_24 (by decide) ?_
    refine lv_icmp_ge (tgt := 77) hx hb dX6_lowResponse_26 (by decide) (fun c_4 => ?_) (fun c_4 => ?_)
    · replace h := (if_pos c_4).symm.trans h
      refine lv_iload_n hx hb dX6_lowResponse_77 rfl (lv_at hl 3 rfl) ?_
      refine lv_iload_n hx hb dX6_lowResponse_78 rfl (lv_at hl 2 rfl) ?_
      refine lv_icmp_gt (tgt := 84) hx hb dX6_lowResponse_79 (by decide) (fun c_5 => ?_) (fun c_5 => ?_)
      · replace h := (if_pos c_5).symm.trans h
        refine lv_iinc (v := l2 + 1) (lv' := [(2, .int (l2 + 1)), (0, .ref (E.1 68)), (1, .int l1), (3, .int l3), (4, .int l4)]) hx hb dX6_lowResponse_84 hl (k := 2) rfl rfl (by decide) rfl (fun ls hl => ?_)
        refine lv_goto (tgt := 2) hx hb dX6_lowResponse_87 (by decide) ?_
        exact hK2 l1 (l2 + 1) M _ h _ _ _ hP hS (lv_sub hl [1, 2, 0] rfl)
      · replace h := (if_neg c_5).symm.trans h
        refine lv_iload_n hx hb dX6_lowResponse_82 rfl (lv_at hl 2 rfl) ?_
        replace h := Option.some.inj h
        subst q
        exact W.iret (v := l2) hx hb hr (fun t ht hW => ⟨⟨_, (), rfl, rfl, by rw [← ht] at hP; exact hP⟩, hS.F ht⟩) hS.2.2 dX6_lowResponse_83
    · replace h := (if_neg c_4).symm.trans h
      refine lv_aload_n hx hb dX6_lowResponse_29 rfl (lv_at hl 0 rfl) ?_
      refine mk_g6_34 hx hb hts in_X6_lowResponse_X6 hown hK hP (by decide) rfl (hts (.fieldLink RX6 80 "MixedKernelModel" "placed" "[Z") (by decide +kernel)) dX6_lowResponse_30 ?_
      refine lv_iload hx hb dX6_lowResponse_33 (lv_at hl 4 rfl) ?_
      obtain ⟨i_6, h⟩ := mk_ifn h
      refine mk_za hx hb hK hP (by decide) rfl i_6 dX6_lowResponse_35 ?_
      refine lv_if_eq (tgt := 69) hx hb dX6_lowResponse_36 (by decide) (fun c_7 => ?_) (fun c_7 => ?_)
      · replace h := (if_pos c_7).symm.trans h
        refine lv_iload_n hx hb dX6_lowResponse_69 rfl (lv_at hl 3 rfl) ?_
        refine lv_istore_n (lv' := [(3, .int l3), (0, .ref (E.1 68)), (1, .int l1), (2, .int l2), (4, .int l4)]) hx hb dX6_lowResponse_70 rfl hl (by decide) rfl (fun ls hl => ?_)
        refine lv_iinc (v := l4 + 1) (lv' := [(4, .int (l4 + 1)), (3, .int l3), (0, .ref (E.1 68)), (1, .int l1), (2, .int l2)]) hx hb dX6_lowResponse_71 hl (k := 4) rfl rfl (by decide) rfl (fun ls hl => ?_)
        refine lv_goto (tgt := 22) hx hb dX6_lowResponse_74 (by decide) ?_
        exact ih l1 l2 l3 (l4 + 1) M _ h _ _ _ hP hS (lv_sub hl [2, 3, 4, 1, 0] rfl)
      · replace h := (if_neg c_7).symm.trans h
        refine lv_iload hx hb dX6_lowResponse_39 (lv_at hl 4 rfl) ?_
        refine lv_iload_n hx hb dX6_lowResponse_41 rfl (lv_at hl 1 rfl) ?_
        refine lv_icmp_eq (tgt := 69) hx hb dX6_lowResponse_42 (by decide) (fun c_8 => ?_) (fun c_8 => ?_)
        · replace h := (if_pos c_8).symm.trans h
          refine lv_iload_n hx hb dX6_lowResponse_69 rfl (lv_at hl 3 rfl) ?_
          refine lv_istore_n (lv' := [(3, .int l3), (0, .ref (E.1 68)), (1, .int l1), (2, .int l2), (4, .int l4)]) hx hb dX6_lowResponse_70 rfl hl (by decide) rfl (fun ls hl => ?_)
          refine lv_iinc (v := l4 + 1) (lv' := [(4, .int (l4 + 1)), (3, .int l3), (0, .ref (E.1 68)), (1, .int l1), (2, .int l2)]) hx hb dX6_lowResponse_71 hl (k := 4) rfl rfl (by decide) rfl (fun ls hl => ?_)
          refine lv_goto (tgt := 22) hx hb dX6_lowResponse_74 (by decide) ?_
          exact ih l1 l2 l3 (l4 + 1) M _ h _ _ _ hP hS (lv_sub hl [2, 3, 4, 1, 0] rfl)
        · replace h := (if_neg c_8).symm.trans h
          refine lv_iload_n hx hb dX6_lowResponse_45 rfl (lv_at hl 3 rfl) ?_
          refine lv_iload_n hx hb dX6_lowResponse_46 rfl (lv_at hl 2 rfl) ?_
          refine lv_aload_n hx hb dX6_lowResponse_47 rfl (lv_at hl 0 rfl) ?_
          refine mk_g6_3 hx hb hts in_X6_lowResponse_X6 hown hK hP (by decide) rfl (hts (.fieldLink RX6 16 "MixedKernelModel" "periods" "[I") (by decide +kernel)) dX6_lowResponse_48 ?_
          refine lv_iload hx hb dX6_lowResponse_51 (lv_at hl 4 rfl) ?_
          obtain ⟨i_9, h⟩ := mk_ifn h
          refine mk_ia hx hb hK hP (by decide) rfl i_9 dX6_lowResponse_53 ?_
          obtain ⟨r_11, e_10, h⟩ := mk_bind h
          refine va_calli (va_runS (As := [.int l2, .int (M 71 (l4).toNatClampNeg)]) (rest := [.int l3]) ⟨hx, hb, hml, hown, hts⟩ (c_X6_times l D E L l2 (M 71 (l4).toNatClampNeg) M  e_10) (cwS 2 hts gX6_lowResponse_X6_times rfl rfl rfl (by decide +kernel) ⟨Nat.le_of_ble_eq_true rfl, Nat.le_of_ble_eq_true rfl⟩) ⟨mk_W.blind, fun U hU hW => ⟨rfl, mk_W.at hU hW hP hK (hD _ _) hN⟩⟩ rfl rfl hl.1 rfl (lv_room (Nat.le_of_ble_eq_true rfl)) dX6_lowResponse_54 ⟨Nat.zero_le _, Nat.zero_le _⟩) hS (fun q _ h => h) (fun q h => h) (fun v_13 u t H1 locs ht hvm hw hB hz1 hk1 hS => ?_)
          subst v_13
          rw [ht] at hB
          replace hP := hB
          clear hB hz1 hk1 hvm ht
          generalize H1 = H at hP hS ⊢
          refine lv_aload_n hx hb dX6_lowResponse_57 rfl (lv_at hl 0 rfl) ?_
          refine mk_g6_5 hx hb hts in_X6_lowResponse_X6 hown hK hP (by decide) rfl (hts (.fieldLink RX6 23 "MixedKernelModel" "lows" "[I") (by decide +kernel)) dX6_lowResponse_58 ?_
          refine lv_iload hx hb dX6_lowResponse_61 (lv_at hl 4 rfl) ?_
          obtain ⟨i_12, h⟩ := mk_ifn h
          refine mk_ia hx hb hK hP (by decide) rfl i_12 dX6_lowResponse_63 ?_
          refine lv_imul hx hb dX6_lowResponse_64 ?_
          refine lv_iadd hx hb dX6_lowResponse_65 ?_
          refine lv_goto (tgt := 70) hx hb dX6_lowResponse_66 (by decide) ?_
          refine lv_istore_n (lv' := [(3, .int (l3 + (r_11 * (M 73 (l4).toNatClampNeg)))), (0, .ref (E.1 68)), (1, .int l1), (2, .int l2), (4, .int l4)]) hx hb dX6_lowResponse_70 rfl hl (by decide) rfl (fun ls hl => ?_)
          refine lv_iinc (v := l4 + 1) (lv' := [(4, .int (l4 + 1)), (3, .int (l3 + (r_11 * (M 73 (l4).toNatClampNeg)))), (0, .ref (E.1 68)), (1, .int l1), (2, .int l2)]) hx hb dX6_lowResponse_71 hl (k := 4) rfl rfl (by decide) rfl (fun ls hl => ?_)
          refine lv_goto (tgt := 22) hx hb dX6_lowResponse_74 (by decide) ?_
          exact ih l1 l2 (l3 + (r_11 * (M 73 (l4).toNatClampNeg))) (l4 + 1) M _ h _ _ _ hP hS (lv_sub hl [2, 3, 4, 1, 0] rfl)
def f_X6_lowResponse_2 : Nat → Int32 → Int32 → mk_M → Option (Int32)
  | 0, _, _, _ => none
  | n + 1, l1, l2, M => (if mk_ob l1 13 then none else (if (M 72 (l1).toNatClampNeg) < l2 then (some 0) else (if mk_ob l1 13 then none else (f_X6_lowResponse_22 (f_X6_lowResponse_2 n) mk_F l1 l2 (M 73 (l1).toNatClampNeg) 1 M))))
set_option maxHeartbeats 4000000 in
set_option maxRecDepth 100000 in
theorem w_X6_lowResponse_2 {p : Program} {l : Launch} {e : Env} {s : State} {m : MethodId} {args : Array Value} {below : List Frame} {meth : Method} {c : Code} {D : va_G} {E : mk_E} {L : Nat → Int64} (C0 : mk_C p s m args meth c cX6_lowResponse 5 wsX6_lowResponse RX6 (some .int) D E) : ∀ n : Nat, ∀ (l1 : Int32) (l2 : Int32) (M : mk_M) (q : Int32), f_X6_lowResponse_2 n l1 l2 M = some q → ∀ (H : Heap) (locs : List Loc) (ls : Array Slot), va_P D vwCl (mk_wl E M L) H → va_S (mk_A E) s.heap H locs → lv_has ls 5 [(0, .ref (E.1 68)), (1, .int l1), (2, .int l2)] → W p l e rm_X6_lowResponse s m args below meth c H locs 0 0 (MQ below (mk_Qi D E L q M) args s 0 0 (mk_A E)) (F0 m 2 ls []) := by
  obtain ⟨hx, hb, hml, hown, hts, hr, hlk, hK, hD, hN⟩ := id C0
  intro n
  induction n with
  | zero =>
    intro l1 l2 M q h
    cases h
  | succ n ih =>
    intro l1 l2 M q h H locs ls hP hS hl
    replace h : (if mk_ob l1 13 then none else (if (M 72 (l1).toNatClampNeg) < l2 then (some 0) else (if mk_ob l1 13 then none else (f_X6_lowResponse_22 (f_X6_lowResponse_2 n) mk_F l1 l2 (M 73 (l1).toNatClampNeg) 1 M)))) = some q := h
    refine lv_iload_n hx hb dX6_lowResponse_2 rfl (lv_at hl 2 rfl) ?_
    refine lv_aload_n hx hb dX6_lowResponse_3 rfl (lv_at hl 0 rfl) ?_
    refine mk_g6_4 hx hb hts in_X6_lowResponse_X6 hown hK hP (by decide) rfl (hts (.fieldLink RX6 20 "MixedKernelModel" "deadlines" "[I") (by decide +kernel)) dX6_lowResponse_4 ?_
    refine lv_iload_n hx hb dX6_lowResponse_7 rfl (lv_at hl 1 rfl) ?_
    obtain ⟨i_1, h⟩ := mk_ifn h
    refine mk_ia hx hb hK hP (by decide) rfl i_1 dX6_lowResponse_8 ?_
    refine lv_icmp_gt (tgt := 90) hx hb dX6_lowResponse_9 (by decide) (fun c_2 => ?_) (fun c_2 => ?_)
    · replace h := (if_pos c_2).symm.trans h
      refine lv_iconst (v := 0) hx hb dX6_lowResponse_90 (by decide) ?_
      replace h := Option.some.inj h
      subst q
      exact W.iret (v := 0) hx hb hr (fun t ht hW => ⟨⟨_, (), rfl, rfl, by rw [← ht] at hP; exact hP⟩, hS.F ht⟩) hS.2.2 dX6_lowResponse_91
    · replace h := (if_neg c_2).symm.trans h
      refine lv_aload_n hx hb dX6_lowResponse_12 rfl (lv_at hl 0 rfl) ?_
      refine mk_g6_5 hx hb hts in_X6_lowResponse_X6 hown hK hP (by decide) rfl (hts (.fieldLink RX6 23 "MixedKernelModel" "lows" "[I") (by decide +kernel)) dX6_lowResponse_13 ?_
      refine lv_iload_n hx hb dX6_lowResponse_16 rfl (lv_at hl 1 rfl) ?_
      obtain ⟨i_3, h⟩ := mk_ifn h
      refine mk_ia hx hb hK hP (by decide) rfl i_3 dX6_lowResponse_17 ?_
      refine lv_istore_n (lv' := [(3, .int (M 73 (l1).toNatClampNeg)), (0, .ref (E.1 68)), (1, .int l1), (2, .int l2)]) hx hb dX6_lowResponse_18 rfl hl (by decide) rfl (fun ls hl => ?_)
      refine lv_iconst (v := 1) hx hb dX6_lowResponse_19 (by decide) ?_
      refine lv_istore (lv' := [(4, .int 1), (3, .int (M 73 (l1).toNatClampNeg)), (0, .ref (E.1 68)), (1, .int l1), (2, .int l2)]) hx hb dX6_lowResponse_20 hl (by decide) rfl (fun ls hl => ?_)
      exact w_X6_lowResponse_22 C0 (f_X6_lowResponse_2 n) ih mk_F l1 l2 (M 73 (l1).toNatClampNeg) 1 M _ h _ _ _ hP hS (lv_sub hl [2, 3, 4, 1, 0] rfl)
def f_X6_lowResponse (a1 : Int32) (M : mk_M) : Option (Int32) := (f_X6_lowResponse_2 mk_F a1 1 M)
set_option maxHeartbeats 4000000 in
set_option maxRecDepth 100000 in
theorem c_X6_lowResponse (l : Launch) (D : va_G) (E : mk_E) (L : Nat → Int64) (a1 : Int32) (M : mk_M) {q : Int32} (h : f_X6_lowResponse a1 M = some q) : Met l yX6_lowResponse wsX6_lowResponse rm_X6_lowResponse (va_Pc [.ref (E.1 68), .int a1] (mk_W D E M L)) (mk_Qi D E L q M) 0 0 (mk_A E) := by
  refine Met.ofW (cc := cX6_lowResponse) (maxL := 5) (ret := (some .int)) (by decide) rfl ?_
  intro p e s m args below meth c s₁ B hml hv
  obtain ⟨rfl, hP, hK, hD0, hN⟩ := hv
  have hx := B.exec
  have hb := B.bytes
  have hr := B.returns
  have hts := atoms_spec (ws := wsX6_lowResponse) B.pre
  have hown : s.vm.findClass RX6 = some m.cls := findClass_of_methodNamed B.named
  have hlk := B.notSynchronized
  have hD : ∀ (M : mk_M) (L : Nat → Int64), va_D (mk_A E) (mk_wl E M L) := fun _ _ => mk_D hD0
  have C0 : mk_C p s m [.ref (E.1 68), .int a1].toArray meth c cX6_lowResponse 5 wsX6_lowResponse RX6 (some .int) D E := ⟨hx, hb, hml, hown, hts, hr, hlk, hK, hD, hN⟩
  have hS : va_S (mk_A E) s.heap s.heap [] := va_S.rf
  have hl := lv_entry ([.ref (E.1 68), .int a1]) (n := 5) (Nat.le_of_ble_eq_true rfl)
  rw [lg_entry_eq]
  generalize (lg_sl ([.ref (E.1 68), .int a1]) ++ List.replicate (5 - (lg_sl ([.ref (E.1 68), .int a1])).length) Slot.unset).toArray = ls at hl ⊢
  have hl : lv_has ls 5 [(0, .ref (E.1 68)), (1, .int a1)] := hl
  replace h : (f_X6_lowResponse_2 mk_F a1 1 M) = some q := h
  refine lv_iconst (v := 1) hx hb dX6_lowResponse_0 (by decide) ?_
  refine lv_istore_n (lv' := [(2, .int 1), (0, .ref (E.1 68)), (1, .int a1)]) hx hb dX6_lowResponse_1 rfl hl (by decide) rfl (fun ls hl => ?_)
  exact w_X6_lowResponse_2 C0 mk_F a1 1 M _ h _ _ _ hP hS (lv_sub hl [1, 2, 0] rfl)
abbrev rm_X6_bound : Room := { frames := 1, cells := 0, slots := 0, locals := 21 }
theorem in_X6_bound_X6 : ∀ w ∈ wsX60, w ∈ wsX6_bound := by decide +kernel
def f_X6_bound_95 (K78 : Int32 → Int32 → Int32 → mk_M → Option (Int32)) : Nat → Int32 → Int32 → Int32 → Int32 → Int32 → mk_M → Option (Int32)
  | 0, _, _, _, _, _, _ => none
  | n + 1, l1, l3, l4, l5, l6, M => (if 13 ≤ l6 then (if l4 < l5 then (K78 l1 l3 (l4 + 1) M) else (some l4)) else (if mk_ob l6 13 then none else (if (M 92 (l6).toNatClampNeg) = 0 then (f_X6_bound_95 K78 n l1 l3 l4 l5 (l6 + 1) M) else (if l6 = l1 then (f_X6_bound_95 K78 n l1 l3 l4 l5 (l6 + 1) M) else (if mk_ob l6 13 then none else (if (M 74 (l6).toNatClampNeg) ≤ 0 then (f_X6_bound_95 K78 n l1 l3 l4 l5 (l6 + 1) M) else (if mk_ob l6 13 then none else ((f_X6_times l4 (M 71 (l6).toNatClampNeg) M).bind (fun r_14 => (if mk_ob l6 13 then none else (f_X6_bound_95 K78 n l1 l3 l4 (l5 + (r_14 * (M 74 (l6).toNatClampNeg))) (l6 + 1) M)))))))))))
set_option maxHeartbeats 4000000 in
set_option maxRecDepth 100000 in
theorem w_X6_bound_95 {p : Program} {l : Launch} {e : Env} {s : State} {m : MethodId} {args : Array Value} {below : List Frame} {meth : Method} {c : Code} {D : va_G} {E : mk_E} {L : Nat → Int64} (C0 : mk_C p s m args meth c cX6_bound 7 wsX6_bound RX6 (some .int) D E) (K78 : Int32 → Int32 → Int32 → mk_M → Option (Int32)) (hK78 : ∀ (l1 : Int32) (l3 : Int32) (l4 : Int32) (M : mk_M) (q : Int32), K78 l1 l3 l4 M = some q → ∀ (H : Heap) (locs : List Loc) (ls : Array Slot), va_P D vwCl (mk_wl E M L) H → va_S (mk_A E) s.heap H locs → lv_has ls 7 [(0, .ref (E.1 68)), (1, .int l1), (3, .int l3), (4, .int l4)] → W p l e rm_X6_bound s m args below meth c H locs 0 0 (MQ below (mk_Qi D E L q M) args s 0 0 (mk_A E)) (F0 m 78 ls [])) : ∀ n : Nat, ∀ (l1 : Int32) (l3 : Int32) (l4 : Int32) (l5 : Int32) (l6 : Int32) (M : mk_M) (q : Int32), f_X6_bound_95 K78 n l1 l3 l4 l5 l6 M = some q → ∀ (H : Heap) (locs : List Loc) (ls : Array Slot), va_P D vwCl (mk_wl E M L) H → va_S (mk_A E) s.heap H locs → lv_has ls 7 [(0, .ref (E.1 68)), (1, .int l1), (3, .int l3), (4, .int l4), (5, .int l5), (6, .int l6)] → W p l e rm_X6_bound s m args below meth c H locs 0 0 (MQ below (mk_Qi D E L q M) args s 0 0 (mk_A E)) (F0 m 95 ls []) := by
  obtain ⟨hx, hb, hml, hown, hts, hr, hlk, hK, hD, hN⟩ := id C0
  intro n
  induction n with
  | zero =>
    intro l1 l3 l4 l5 l6 M q h
    cases h
  | succ n ih =>
    intro l1 l3 l4 l5 l6 M q h H locs ls hP hS hl
    replace h : (if 13 ≤ l6 then (if l4 < l5 then (K78 l1 l3 (l4 + 1) M) else (some l4)) else (if mk_ob l6 13 then none else (if (M 92 (l6).toNatClampNeg) = 0 then (f_X6_bound_95 K78 n l1 l3 l4 l5 (l6 + 1) M) else (if l6 = l1 then (f_X6_bound_95 K78 n l1 l3 l4 l5 (l6 + 1) M) else (if mk_ob l6 13 then none else (if (M 74 (l6).toNatClampNeg) ≤ 0 then (f_X6_bound_95 K78 n l1 l3 l4 l5 (l6 + 1) M) else (if mk_ob l6 13 then none else ((f_X6_times l4 (M 71 (l6).toNatClampNeg) M).bind (fun r_14 => (if mk_ob l6 13 then none else (f_X6_bound_95 K78 n l1 l3 l4 (l5 + (r_14 * (M 74 (l6).toNatClampNeg))) (l6 + 1) M))))))))))) = some q := h
    refine lv_iload hx hb dX6_bound_95 (lv_at hl 5 rfl) ?_
    refine lv_bipush (v := 13) hx hb dX6_bound_97 (by decide) ?_
    refine lv_icmp_ge (tgt := 164) hx hb dX6_bound_99 (by decide) (fun c_5 => ?_) (fun c_5 => ?_)
    · replace h := (if_pos c_5).symm.trans h
      refine lv_iload hx hb dX6_bound_164 (lv_at hl 4 rfl) ?_
      refine lv_iload hx hb dX6_bound_166 (lv_at hl 3 rfl) ?_
      refine lv_icmp_gt (tgt := 174) hx hb dX6_bound_168 (by decide) (fun c_6 => ?_) (fun c_6 => ?_)
      · replace h := (if_pos c_6).symm.trans h
        refine lv_iinc (v := l4 + 1) (lv' := [(4, .int (l4 + 1)), (0, .ref (E.1 68)), (1, .int l1), (3, .int l3), (5, .int l5), (6, .int l6)]) hx hb dX6_bound_174 hl (k := 3) rfl rfl (by decide) rfl (fun ls hl => ?_)
        refine lv_goto (tgt := 78) hx hb dX6_bound_177 (by decide) ?_
        exact hK78 l1 l3 (l4 + 1) M _ h _ _ _ hP hS (lv_sub hl [1, 2, 3, 0] rfl)
      · replace h := (if_neg c_6).symm.trans h
        refine lv_iload hx hb dX6_bound_171 (lv_at hl 3 rfl) ?_
        replace h := Option.some.inj h
        subst q
        exact W.iret (v := l4) hx hb hr (fun t ht hW => ⟨⟨_, (), rfl, rfl, by rw [← ht] at hP; exact hP⟩, hS.F ht⟩) hS.2.2 dX6_bound_173
    · replace h := (if_neg c_5).symm.trans h
      refine lv_aload_n hx hb dX6_bound_102 rfl (lv_at hl 0 rfl) ?_
      refine mk_g6_34 hx hb hts in_X6_bound_X6 hown hK hP (by decide) rfl (hts (.fieldLink RX6 80 "MixedKernelModel" "placed" "[Z") (by decide +kernel)) dX6_bound_103 ?_
      refine lv_iload hx hb dX6_bound_106 (lv_at hl 5 rfl) ?_
      obtain ⟨i_7, h⟩ := mk_ifn h
      refine mk_za hx hb hK hP (by decide) rfl i_7 dX6_bound_108 ?_
      refine lv_if_eq (tgt := 154) hx hb dX6_bound_109 (by decide) (fun c_8 => ?_) (fun c_8 => ?_)
      · replace h := (if_pos c_8).symm.trans h
        refine lv_iload hx hb dX6_bound_154 (lv_at hl 4 rfl) ?_
        refine lv_istore (lv' := [(5, .int l5), (0, .ref (E.1 68)), (1, .int l1), (3, .int l3), (4, .int l4), (6, .int l6)]) hx hb dX6_bound_156 hl (by decide) rfl (fun ls hl => ?_)
        refine lv_iinc (v := l6 + 1) (lv' := [(6, .int (l6 + 1)), (5, .int l5), (0, .ref (E.1 68)), (1, .int l1), (3, .int l3), (4, .int l4)]) hx hb dX6_bound_158 hl (k := 5) rfl rfl (by decide) rfl (fun ls hl => ?_)
        refine lv_goto (tgt := 95) hx hb dX6_bound_161 (by decide) ?_
        exact ih l1 l3 l4 l5 (l6 + 1) M _ h _ _ _ hP hS (lv_sub hl [2, 3, 4, 5, 1, 0] rfl)
      · replace h := (if_neg c_8).symm.trans h
        refine lv_iload hx hb dX6_bound_112 (lv_at hl 5 rfl) ?_
        refine lv_iload_n hx hb dX6_bound_114 rfl (lv_at hl 1 rfl) ?_
        refine lv_icmp_eq (tgt := 154) hx hb dX6_bound_115 (by decide) (fun c_9 => ?_) (fun c_9 => ?_)
        · replace h := (if_pos c_9).symm.trans h
          refine lv_iload hx hb dX6_bound_154 (lv_at hl 4 rfl) ?_
          refine lv_istore (lv' := [(5, .int l5), (0, .ref (E.1 68)), (1, .int l1), (3, .int l3), (4, .int l4), (6, .int l6)]) hx hb dX6_bound_156 hl (by decide) rfl (fun ls hl => ?_)
          refine lv_iinc (v := l6 + 1) (lv' := [(6, .int (l6 + 1)), (5, .int l5), (0, .ref (E.1 68)), (1, .int l1), (3, .int l3), (4, .int l4)]) hx hb dX6_bound_158 hl (k := 5) rfl rfl (by decide) rfl (fun ls hl => ?_)
          refine lv_goto (tgt := 95) hx hb dX6_bound_161 (by decide) ?_
          exact ih l1 l3 l4 l5 (l6 + 1) M _ h _ _ _ hP hS (lv_sub hl [2, 3, 4, 5, 1, 0] rfl)
        · replace h := (if_neg c_9).symm.trans h
          refine lv_aload_n hx hb dX6_bound_118 rfl (lv_at hl 0 rfl) ?_
          refine mk_g6_6 hx hb hts in_X6_bound_X6 hown hK hP (by decide) rfl (hts (.fieldLink RX6 26 "MixedKernelModel" "highs" "[I") (by decide +kernel)) dX6_bound_119 ?_
          refine lv_iload hx hb dX6_bound_122 (lv_at hl 5 rfl) ?_
          obtain ⟨i_10, h⟩ := mk_ifn h
          refine mk_ia hx hb hK hP (by decide) rfl i_10 dX6_bound_124 ?_
          refine lv_if_le (tgt := 154) hx hb dX6_bound_125 (by decide) (fun c_11 => ?_) (fun c_11 => ?_)
          · replace h := (if_pos c_11).symm.trans h
            refine lv_iload hx hb dX6_bound_154 (lv_at hl 4 rfl) ?_
            refine lv_istore (lv' := [(5, .int l5), (0, .ref (E.1 68)), (1, .int l1), (3, .int l3), (4, .int l4), (6, .int l6)]) hx hb dX6_bound_156 hl (by decide) rfl (fun ls hl => ?_)
            refine lv_iinc (v := l6 + 1) (lv' := [(6, .int (l6 + 1)), (5, .int l5), (0, .ref (E.1 68)), (1, .int l1), (3, .int l3), (4, .int l4)]) hx hb dX6_bound_158 hl (k := 5) rfl rfl (by decide) rfl (fun ls hl => ?_)
            refine lv_goto (tgt := 95) hx hb dX6_bound_161 (by decide) ?_
            exact ih l1 l3 l4 l5 (l6 + 1) M _ h _ _ _ hP hS (lv_sub hl [2, 3, 4, 5, 1, 0] rfl)
          · replace h := (if_neg c_11).symm.trans h
            refine lv_iload hx hb dX6_bound_128 (lv_at hl 4 rfl) ?_
            refine lv_iload hx hb dX6_bound_130 (lv_at hl 3 rfl) ?_
            refine lv_aload_n hx hb dX6_bound_132 rfl (lv_at hl 0 rfl) ?_
            refine mk_g6_3 hx hb hts in_X6_bound_X6 hown hK hP (by decide) rfl (hts (.fieldLink RX6 16 "MixedKernelModel" "periods" "[I") (by decide +kernel)) dX6_bound_133 ?_
            refine lv_iload hx hb dX6_bound_136 (lv_at hl 5 rfl) ?_
            obtain ⟨i_12, h⟩ := mk_ifn h
            refine mk_ia hx hb hK hP (by decide) rfl i_12 dX6_bound_138 ?_
            obtain ⟨r_14, e_13, h⟩ := mk_bind h
            refine va_calli (va_runS (As := [.int l4, .int (M 71 (l6).toNatClampNeg)]) (rest := [.int l5]) ⟨hx, hb, hml, hown, hts⟩ (c_X6_times l D E L l4 (M 71 (l6).toNatClampNeg) M  e_13) (cwS 2 hts gX6_bound_X6_times rfl rfl rfl (by decide +kernel) ⟨Nat.le_of_ble_eq_true rfl, Nat.le_of_ble_eq_true rfl⟩) ⟨mk_W.blind, fun U hU hW => ⟨rfl, mk_W.at hU hW hP hK (hD _ _) hN⟩⟩ rfl rfl hl.1 rfl (lv_room (Nat.le_of_ble_eq_true rfl)) dX6_bound_139 ⟨Nat.zero_le _, Nat.zero_le _⟩) hS (fun q _ h => h) (fun q h => h) (fun v_16 u t H1 locs ht hvm hw hB hz1 hk1 hS => ?_)
            subst v_16
            rw [ht] at hB
            replace hP := hB
            clear hB hz1 hk1 hvm ht
            generalize H1 = H at hP hS ⊢
            refine lv_aload_n hx hb dX6_bound_142 rfl (lv_at hl 0 rfl) ?_
            refine mk_g6_6 hx hb hts in_X6_bound_X6 hown hK hP (by decide) rfl (hts (.fieldLink RX6 26 "MixedKernelModel" "highs" "[I") (by decide +kernel)) dX6_bound_143 ?_
            refine lv_iload hx hb dX6_bound_146 (lv_at hl 5 rfl) ?_
            obtain ⟨i_15, h⟩ := mk_ifn h
            refine mk_ia hx hb hK hP (by decide) rfl i_15 dX6_bound_148 ?_
            refine lv_imul hx hb dX6_bound_149 ?_
            refine lv_iadd hx hb dX6_bound_150 ?_
            refine lv_goto (tgt := 156) hx hb dX6_bound_151 (by decide) ?_
            refine lv_istore (lv' := [(5, .int (l5 + (r_14 * (M 74 (l6).toNatClampNeg)))), (0, .ref (E.1 68)), (1, .int l1), (3, .int l3), (4, .int l4), (6, .int l6)]) hx hb dX6_bound_156 hl (by decide) rfl (fun ls hl => ?_)
            refine lv_iinc (v := l6 + 1) (lv' := [(6, .int (l6 + 1)), (5, .int (l5 + (r_14 * (M 74 (l6).toNatClampNeg)))), (0, .ref (E.1 68)), (1, .int l1), (3, .int l3), (4, .int l4)]) hx hb dX6_bound_158 hl (k := 5) rfl rfl (by decide) rfl (fun ls hl => ?_)
            refine lv_goto (tgt := 95) hx hb dX6_bound_161 (by decide) ?_
            exact ih l1 l3 l4 (l5 + (r_14 * (M 74 (l6).toNatClampNeg))) (l6 + 1) M _ h _ _ _ hP hS (lv_sub hl [2, 3, 4, 5, 1, 0] rfl)
def f_X6_bound_78 : Nat → Int32 → Int32 → Int32 → mk_M → Option (Int32)
  | 0, _, _, _, _ => none
  | n + 1, l1, l3, l4, M => (if mk_ob l1 13 then none else (if (M 72 (l1).toNatClampNeg) < l4 then (some 0) else (f_X6_bound_95 (f_X6_bound_78 n) mk_F l1 l3 l4 l3 1 M)))
set_option maxHeartbeats 4000000 in
set_option maxRecDepth 100000 in
theorem w_X6_bound_78 {p : Program} {l : Launch} {e : Env} {s : State} {m : MethodId} {args : Array Value} {below : List Frame} {meth : Method} {c : Code} {D : va_G} {E : mk_E} {L : Nat → Int64} (C0 : mk_C p s m args meth c cX6_bound 7 wsX6_bound RX6 (some .int) D E) : ∀ n : Nat, ∀ (l1 : Int32) (l3 : Int32) (l4 : Int32) (M : mk_M) (q : Int32), f_X6_bound_78 n l1 l3 l4 M = some q → ∀ (H : Heap) (locs : List Loc) (ls : Array Slot), va_P D vwCl (mk_wl E M L) H → va_S (mk_A E) s.heap H locs → lv_has ls 7 [(0, .ref (E.1 68)), (1, .int l1), (3, .int l3), (4, .int l4)] → W p l e rm_X6_bound s m args below meth c H locs 0 0 (MQ below (mk_Qi D E L q M) args s 0 0 (mk_A E)) (F0 m 78 ls []) := by
  obtain ⟨hx, hb, hml, hown, hts, hr, hlk, hK, hD, hN⟩ := id C0
  intro n
  induction n with
  | zero =>
    intro l1 l3 l4 M q h
    cases h
  | succ n ih =>
    intro l1 l3 l4 M q h H locs ls hP hS hl
    replace h : (if mk_ob l1 13 then none else (if (M 72 (l1).toNatClampNeg) < l4 then (some 0) else (f_X6_bound_95 (f_X6_bound_78 n) mk_F l1 l3 l4 l3 1 M))) = some q := h
    refine lv_iload hx hb dX6_bound_78 (lv_at hl 3 rfl) ?_
    refine lv_aload_n hx hb dX6_bound_80 rfl (lv_at hl 0 rfl) ?_
    refine mk_g6_4 hx hb hts in_X6_bound_X6 hown hK hP (by decide) rfl (hts (.fieldLink RX6 20 "MixedKernelModel" "deadlines" "[I") (by decide +kernel)) dX6_bound_81 ?_
    refine lv_iload_n hx hb dX6_bound_84 rfl (lv_at hl 1 rfl) ?_
    obtain ⟨i_3, h⟩ := mk_ifn h
    refine mk_ia hx hb hK hP (by decide) rfl i_3 dX6_bound_85 ?_
    refine lv_icmp_gt (tgt := 180) hx hb dX6_bound_86 (by decide) (fun c_4 => ?_) (fun c_4 => ?_)
    · replace h := (if_pos c_4).symm.trans h
      refine lv_iconst (v := 0) hx hb dX6_bound_180 (by decide) ?_
      replace h := Option.some.inj h
      subst q
      exact W.iret (v := 0) hx hb hr (fun t ht hW => ⟨⟨_, (), rfl, rfl, by rw [← ht] at hP; exact hP⟩, hS.F ht⟩) hS.2.2 dX6_bound_181
    · replace h := (if_neg c_4).symm.trans h
      refine lv_iload_n hx hb dX6_bound_89 rfl (lv_at hl 2 rfl) ?_
      refine lv_istore (lv' := [(5, .int l3), (0, .ref (E.1 68)), (1, .int l1), (3, .int l3), (4, .int l4)]) hx hb dX6_bound_90 hl (by decide) rfl (fun ls hl => ?_)
      refine lv_iconst (v := 1) hx hb dX6_bound_92 (by decide) ?_
      refine lv_istore (lv' := [(6, .int 1), (5, .int l3), (0, .ref (E.1 68)), (1, .int l1), (3, .int l3), (4, .int l4)]) hx hb dX6_bound_93 hl (by decide) rfl (fun ls hl => ?_)
      exact w_X6_bound_95 C0 (f_X6_bound_78 n) ih mk_F l1 l3 l4 l3 1 M _ h _ _ _ hP hS (lv_sub hl [2, 3, 4, 5, 1, 0] rfl)
def f_X6_bound_10 : Nat → Int32 → Int32 → Int32 → Int32 → mk_M → Option (Int32)
  | 0, _, _, _, _, _ => none
  | n + 1, l1, l2, l3, l4, M => (if 13 ≤ l4 then (f_X6_bound_78 mk_F l1 l3 1 M) else (if mk_ob l4 13 then none else (if (M 92 (l4).toNatClampNeg) = 0 then (f_X6_bound_10 n l1 l2 l3 (l4 + 1) M) else (if l4 = l1 then (f_X6_bound_10 n l1 l2 l3 (l4 + 1) M) else (if mk_ob l4 13 then none else (if (M 74 (l4).toNatClampNeg) = 0 then (if mk_ob l4 13 then none else ((f_X6_times l2 (M 71 (l4).toNatClampNeg) M).bind (fun r_24 => (if mk_ob l4 13 then none else (f_X6_bound_10 n l1 l2 (l3 + (r_24 * (M 73 (l4).toNatClampNeg))) (l4 + 1) M))))) else (f_X6_bound_10 n l1 l2 l3 (l4 + 1) M)))))))
set_option maxHeartbeats 4000000 in
set_option maxRecDepth 100000 in
theorem w_X6_bound_10 {p : Program} {l : Launch} {e : Env} {s : State} {m : MethodId} {args : Array Value} {below : List Frame} {meth : Method} {c : Code} {D : va_G} {E : mk_E} {L : Nat → Int64} (C0 : mk_C p s m args meth c cX6_bound 7 wsX6_bound RX6 (some .int) D E) : ∀ n : Nat, ∀ (l1 : Int32) (l2 : Int32) (l3 : Int32) (l4 : Int32) (M : mk_M) (q : Int32), f_X6_bound_10 n l1 l2 l3 l4 M = some q → ∀ (H : Heap) (locs : List Loc) (ls : Array Slot), va_P D vwCl (mk_wl E M L) H → va_S (mk_A E) s.heap H locs → lv_has ls 7 [(0, .ref (E.1 68)), (1, .int l1), (2, .int l2), (3, .int l3), (4, .int l4)] → W p l e rm_X6_bound s m args below meth c H locs 0 0 (MQ below (mk_Qi D E L q M) args s 0 0 (mk_A E)) (F0 m 10 ls []) := by
  obtain ⟨hx, hb, hml, hown, hts, hr, hlk, hK, hD, hN⟩ := id C0
  intro n
  induction n with
  | zero =>
    intro l1 l2 l3 l4 M q h
    cases h
  | succ n ih =>
    intro l1 l2 l3 l4 M q h H locs ls hP hS hl
    replace h : (if 13 ≤ l4 then (f_X6_bound_78 mk_F l1 l3 1 M) else (if mk_ob l4 13 then none else (if (M 92 (l4).toNatClampNeg) = 0 then (f_X6_bound_10 n l1 l2 l3 (l4 + 1) M) else (if l4 = l1 then (f_X6_bound_10 n l1 l2 l3 (l4 + 1) M) else (if mk_ob l4 13 then none else (if (M 74 (l4).toNatClampNeg) = 0 then (if mk_ob l4 13 then none else ((f_X6_times l2 (M 71 (l4).toNatClampNeg) M).bind (fun r_24 => (if mk_ob l4 13 then none else (f_X6_bound_10 n l1 l2 (l3 + (r_24 * (M 73 (l4).toNatClampNeg))) (l4 + 1) M))))) else (f_X6_bound_10 n l1 l2 l3 (l4 + 1) M))))))) = some q := h
    refine lv_iload hx hb dX6_bound_10 (lv_at hl 4 rfl) ?_
    refine lv_bipush (v := 13) hx hb dX6_bound_12 (by decide) ?_
    refine lv_icmp_ge (tgt := 75) hx hb dX6_bound_14 (by decide) (fun c_2 => ?_) (fun c_2 => ?_)
    · replace h := (if_pos c_2).symm.trans h
      refine lv_iconst (v := 1) hx hb dX6_bound_75 (by decide) ?_
      refine lv_istore (lv' := [(4, .int 1), (0, .ref (E.1 68)), (1, .int l1), (2, .int l2), (3, .int l3)]) hx hb dX6_bound_76 hl (by decide) rfl (fun ls hl => ?_)
      exact w_X6_bound_78 C0 mk_F l1 l3 1 M _ h _ _ _ hP hS (lv_sub hl [1, 2, 4, 0] rfl)
    · replace h := (if_neg c_2).symm.trans h
      refine lv_aload_n hx hb dX6_bound_17 rfl (lv_at hl 0 rfl) ?_
      refine mk_g6_34 hx hb hts in_X6_bound_X6 hown hK hP (by decide) rfl (hts (.fieldLink RX6 80 "MixedKernelModel" "placed" "[Z") (by decide +kernel)) dX6_bound_18 ?_
      refine lv_iload hx hb dX6_bound_21 (lv_at hl 4 rfl) ?_
      obtain ⟨i_17, h⟩ := mk_ifn h
      refine mk_za hx hb hK hP (by decide) rfl i_17 dX6_bound_23 ?_
      refine lv_if_eq (tgt := 67) hx hb dX6_bound_24 (by decide) (fun c_18 => ?_) (fun c_18 => ?_)
      · replace h := (if_pos c_18).symm.trans h
        refine lv_iload_n hx hb dX6_bound_67 rfl (lv_at hl 3 rfl) ?_
        refine lv_istore_n (lv' := [(3, .int l3), (0, .ref (E.1 68)), (1, .int l1), (2, .int l2), (4, .int l4)]) hx hb dX6_bound_68 rfl hl (by decide) rfl (fun ls hl => ?_)
        refine lv_iinc (v := l4 + 1) (lv' := [(4, .int (l4 + 1)), (3, .int l3), (0, .ref (E.1 68)), (1, .int l1), (2, .int l2)]) hx hb dX6_bound_69 hl (k := 4) rfl rfl (by decide) rfl (fun ls hl => ?_)
        refine lv_goto (tgt := 10) hx hb dX6_bound_72 (by decide) ?_
        exact ih l1 l2 l3 (l4 + 1) M _ h _ _ _ hP hS (lv_sub hl [2, 3, 4, 1, 0] rfl)
      · replace h := (if_neg c_18).symm.trans h
        refine lv_iload hx hb dX6_bound_27 (lv_at hl 4 rfl) ?_
        refine lv_iload_n hx hb dX6_bound_29 rfl (lv_at hl 1 rfl) ?_
        refine lv_icmp_eq (tgt := 67) hx hb dX6_bound_30 (by decide) (fun c_19 => ?_) (fun c_19 => ?_)
        · replace h := (if_pos c_19).symm.trans h
          refine lv_iload_n hx hb dX6_bound_67 rfl (lv_at hl 3 rfl) ?_
          refine lv_istore_n (lv' := [(3, .int l3), (0, .ref (E.1 68)), (1, .int l1), (2, .int l2), (4, .int l4)]) hx hb dX6_bound_68 rfl hl (by decide) rfl (fun ls hl => ?_)
          refine lv_iinc (v := l4 + 1) (lv' := [(4, .int (l4 + 1)), (3, .int l3), (0, .ref (E.1 68)), (1, .int l1), (2, .int l2)]) hx hb dX6_bound_69 hl (k := 4) rfl rfl (by decide) rfl (fun ls hl => ?_)
          refine lv_goto (tgt := 10) hx hb dX6_bound_72 (by decide) ?_
          exact ih l1 l2 l3 (l4 + 1) M _ h _ _ _ hP hS (lv_sub hl [2, 3, 4, 1, 0] rfl)
        · replace h := (if_neg c_19).symm.trans h
          refine lv_aload_n hx hb dX6_bound_33 rfl (lv_at hl 0 rfl) ?_
          refine mk_g6_6 hx hb hts in_X6_bound_X6 hown hK hP (by decide) rfl (hts (.fieldLink RX6 26 "MixedKernelModel" "highs" "[I") (by decide +kernel)) dX6_bound_34 ?_
          refine lv_iload hx hb dX6_bound_37 (lv_at hl 4 rfl) ?_
          obtain ⟨i_20, h⟩ := mk_ifn h
          refine mk_ia hx hb hK hP (by decide) rfl i_20 dX6_bound_39 ?_
          refine lv_if_ne (tgt := 67) hx hb dX6_bound_40 (by decide) (fun c_21 => ?_) (fun c_21 => ?_)
          · replace h := (if_neg c_21).symm.trans h
            refine lv_iload_n hx hb dX6_bound_67 rfl (lv_at hl 3 rfl) ?_
            refine lv_istore_n (lv' := [(3, .int l3), (0, .ref (E.1 68)), (1, .int l1), (2, .int l2), (4, .int l4)]) hx hb dX6_bound_68 rfl hl (by decide) rfl (fun ls hl => ?_)
            refine lv_iinc (v := l4 + 1) (lv' := [(4, .int (l4 + 1)), (3, .int l3), (0, .ref (E.1 68)), (1, .int l1), (2, .int l2)]) hx hb dX6_bound_69 hl (k := 4) rfl rfl (by decide) rfl (fun ls hl => ?_)
            refine lv_goto (tgt := 10) hx hb dX6_bound_72 (by decide) ?_
            exact ih l1 l2 l3 (l4 + 1) M _ h _ _ _ hP hS (lv_sub hl [2, 3, 4, 1, 0] rfl)
          · replace h := (if_pos c_21).symm.trans h
            refine lv_iload_n hx hb dX6_bound_43 rfl (lv_at hl 3 rfl) ?_
            refine lv_iload_n hx hb dX6_bound_44 rfl (lv_at hl 2 rfl) ?_
            refine lv_aload_n hx hb dX6_bound_45 rfl (lv_at hl 0 rfl) ?_
            refine mk_g6_3 hx hb hts in_X6_bound_X6 hown hK hP (by decide) rfl (hts (.fieldLink RX6 16 "MixedKernelModel" "periods" "[I") (by decide +kernel)) dX6_bound_46 ?_
            refine lv_iload hx hb dX6_bound_49 (lv_at hl 4 rfl) ?_
            obtain ⟨i_22, h⟩ := mk_ifn h
            refine mk_ia hx hb hK hP (by decide) rfl i_22 dX6_bound_51 ?_
            obtain ⟨r_24, e_23, h⟩ := mk_bind h
            refine va_calli (va_runS (As := [.int l2, .int (M 71 (l4).toNatClampNeg)]) (rest := [.int l3]) ⟨hx, hb, hml, hown, hts⟩ (c_X6_times l D E L l2 (M 71 (l4).toNatClampNeg) M  e_23) (cwS 2 hts gX6_bound_X6_times rfl rfl rfl (by decide +kernel) ⟨Nat.le_of_ble_eq_true rfl, Nat.le_of_ble_eq_true rfl⟩) ⟨mk_W.blind, fun U hU hW => ⟨rfl, mk_W.at hU hW hP hK (hD _ _) hN⟩⟩ rfl rfl hl.1 rfl (lv_room (Nat.le_of_ble_eq_true rfl)) dX6_bound_52 ⟨Nat.zero_le _, Nat.zero_le _⟩) hS (fun q _ h => h) (fun q h => h) (fun v_26 u t H1 locs ht hvm hw hB hz1 hk1 hS => ?_)
            subst v_26
            rw [ht] at hB
            replace hP := hB
            clear hB hz1 hk1 hvm ht
            generalize H1 = H at hP hS ⊢
            refine lv_aload_n hx hb dX6_bound_55 rfl (lv_at hl 0 rfl) ?_
            refine mk_g6_5 hx hb hts in_X6_bound_X6 hown hK hP (by decide) rfl (hts (.fieldLink RX6 23 "MixedKernelModel" "lows" "[I") (by decide +kernel)) dX6_bound_56 ?_
            refine lv_iload hx hb dX6_bound_59 (lv_at hl 4 rfl) ?_
            obtain ⟨i_25, h⟩ := mk_ifn h
            refine mk_ia hx hb hK hP (by decide) rfl i_25 dX6_bound_61 ?_
            refine lv_imul hx hb dX6_bound_62 ?_
            refine lv_iadd hx hb dX6_bound_63 ?_
            refine lv_goto (tgt := 68) hx hb dX6_bound_64 (by decide) ?_
            refine lv_istore_n (lv' := [(3, .int (l3 + (r_24 * (M 73 (l4).toNatClampNeg)))), (0, .ref (E.1 68)), (1, .int l1), (2, .int l2), (4, .int l4)]) hx hb dX6_bound_68 rfl hl (by decide) rfl (fun ls hl => ?_)
            refine lv_iinc (v := l4 + 1) (lv' := [(4, .int (l4 + 1)), (3, .int (l3 + (r_24 * (M 73 (l4).toNatClampNeg)))), (0, .ref (E.1 68)), (1, .int l1), (2, .int l2)]) hx hb dX6_bound_69 hl (k := 4) rfl rfl (by decide) rfl (fun ls hl => ?_)
            refine lv_goto (tgt := 10) hx hb dX6_bound_72 (by decide) ?_
            exact ih l1 l2 (l3 + (r_24 * (M 73 (l4).toNatClampNeg))) (l4 + 1) M _ h _ _ _ hP hS (lv_sub hl [2, 3, 4, 1, 0] rfl)
def f_X6_bound (a1 : Int32) (a2 : Int32) (M : mk_M) : Option (Int32) := (if mk_ob a1 13 then none else (f_X6_bound_10 mk_F a1 a2 (M 74 (a1).toNatClampNeg) 1 M))
set_option maxHeartbeats 4000000 in
set_option maxRecDepth 100000 in
theorem c_X6_bound (l : Launch) (D : va_G) (E : mk_E) (L : Nat → Int64) (a1 : Int32) (a2 : Int32) (M : mk_M) {q : Int32} (h : f_X6_bound a1 a2 M = some q) : Met l yX6_bound wsX6_bound rm_X6_bound (va_Pc [.ref (E.1 68), .int a1, .int a2] (mk_W D E M L)) (mk_Qi D E L q M) 0 0 (mk_A E) := by
  refine Met.ofW (cc := cX6_bound) (maxL := 7) (ret := (some .int)) (by decide) rfl ?_
  intro p e s m args below meth c s₁ B hml hv
  obtain ⟨rfl, hP, hK, hD0, hN⟩ := hv
  have hx := B.exec
  have hb := B.bytes
  have hr := B.returns
  have hts := atoms_spec (ws := wsX6_bound) B.pre
  have hown : s.vm.findClass RX6 = some m.cls := findClass_of_methodNamed B.named
  have hlk := B.notSynchronized
  have hD : ∀ (M : mk_M) (L : Nat → Int64), va_D (mk_A E) (mk_wl E M L) := fun _ _ => mk_D hD0
  have C0 : mk_C p s m [.ref (E.1 68), .int a1, .int a2].toArray meth c cX6_bound 7 wsX6_bound RX6 (some .int) D E := ⟨hx, hb, hml, hown, hts, hr, hlk, hK, hD, hN⟩
  have hS : va_S (mk_A E) s.heap s.heap [] := va_S.rf
  have hl := lv_entry ([.ref (E.1 68), .int a1, .int a2]) (n := 7) (Nat.le_of_ble_eq_true rfl)
  rw [lg_entry_eq]
  generalize (lg_sl ([.ref (E.1 68), .int a1, .int a2]) ++ List.replicate (7 - (lg_sl ([.ref (E.1 68), .int a1, .int a2])).length) Slot.unset).toArray = ls at hl ⊢
  have hl : lv_has ls 7 [(0, .ref (E.1 68)), (1, .int a1), (2, .int a2)] := hl
  replace h : (if mk_ob a1 13 then none else (f_X6_bound_10 mk_F a1 a2 (M 74 (a1).toNatClampNeg) 1 M)) = some q := h
  refine lv_aload_n hx hb dX6_bound_0 rfl (lv_at hl 0 rfl) ?_
  refine mk_g6_6 hx hb hts in_X6_bound_X6 hown hK hP (by decide) rfl (hts (.fieldLink RX6 26 "MixedKernelModel" "highs" "[I") (by decide +kernel)) dX6_bound_1 ?_
  refine lv_iload_n hx hb dX6_bound_4 rfl (lv_at hl 1 rfl) ?_
  obtain ⟨i_1, h⟩ := mk_ifn h
  refine mk_ia hx hb hK hP (by decide) rfl i_1 dX6_bound_5 ?_
  refine lv_istore_n (lv' := [(3, .int (M 74 (a1).toNatClampNeg)), (0, .ref (E.1 68)), (1, .int a1), (2, .int a2)]) hx hb dX6_bound_6 rfl hl (by decide) rfl (fun ls hl => ?_)
  refine lv_iconst (v := 1) hx hb dX6_bound_7 (by decide) ?_
  refine lv_istore (lv' := [(4, .int 1), (3, .int (M 74 (a1).toNatClampNeg)), (0, .ref (E.1 68)), (1, .int a1), (2, .int a2)]) hx hb dX6_bound_8 hl (by decide) rfl (fun ls hl => ?_)
  exact w_X6_bound_10 C0 mk_F a1 a2 (M 74 (a1).toNatClampNeg) 1 M _ h _ _ _ hP hS (lv_sub hl [2, 3, 4, 1, 0] rfl)
abbrev rm_X6_markAhead : Room := { frames := 0, cells := 0, slots := 0, locals := 0 }
theorem in_X6_markAhead_X6 : ∀ w ∈ wsX60, w ∈ wsX6_markAhead := by decide +kernel
def f_X6_markAhead_23 : Nat → Int32 → Int32 → mk_M → Option (mk_M)
  | 0, _, _, _ => none
  | n + 1, l1, l2, M => (if l1 ≤ l2 then (some M) else (if mk_ob l2 13 then none else (if mk_ob (M 75 (l2).toNatClampNeg) 13 then none else (f_X6_markAhead_23 n l1 (l2 + 1) (mk_st M 92 (M 75 (l2).toNatClampNeg).toNatClampNeg (vp_nar .boolean 1))))))
set_option maxHeartbeats 4000000 in
set_option maxRecDepth 100000 in
theorem w_X6_markAhead_23 {p : Program} {l : Launch} {e : Env} {s : State} {m : MethodId} {args : Array Value} {below : List Frame} {meth : Method} {c : Code} {D : va_G} {E : mk_E} {L : Nat → Int64} (C0 : mk_C p s m args meth c cX6_markAhead 3 wsX6_markAhead RX6 none D E) : ∀ n : Nat, ∀ (l1 : Int32) (l2 : Int32) (M : mk_M) (q : mk_M), f_X6_markAhead_23 n l1 l2 M = some q → ∀ (H : Heap) (locs : List Loc) (ls : Array Slot), va_P D vwCl (mk_wl E M L) H → va_S (mk_A E) s.heap H locs → lv_has ls 3 [(0, .ref (E.1 68)), (1, .int l1), (2, .int l2)] → W p l e rm_X6_markAhead s m args below meth c H locs 0 0 (MQ below (mk_Qv D E L q) args s 0 0 (mk_A E)) (F0 m 23 ls []) := by
  obtain ⟨hx, hb, hml, hown, hts, hr, hlk, hK, hD, hN⟩ := id C0
  intro n
  induction n with
  | zero =>
    intro l1 l2 M q h
    cases h
  | succ n ih =>
    intro l1 l2 M q h H locs ls hP hS hl
    replace h : (if l1 ≤ l2 then (some M) else (if mk_ob l2 13 then none else (if mk_ob (M 75 (l2).toNatClampNeg) 13 then none else (f_X6_markAhead_23 n l1 (l2 + 1) (mk_st M 92 (M 75 (l2).toNatClampNeg).toNatClampNeg (vp_nar .boolean 1)))))) = some q := h
    refine lv_iload_n hx hb dX6_markAhead_23 rfl (lv_at hl 2 rfl) ?_
    refine lv_iload_n hx hb dX6_markAhead_24 rfl (lv_at hl 1 rfl) ?_
    refine lv_icmp_ge (tgt := 46) hx hb dX6_markAhead_25 (by decide) (fun c_2 => ?_) (fun c_2 => ?_)
    · replace h := (if_pos c_2).symm.trans h
      replace h := Option.some.inj h
      subst q
      exact W.vret hx hb hr (fun t ht hW => ⟨⟨(), rfl, trivial, by rw [← ht] at hP; exact hP⟩, hS.F ht⟩) hS.2.2 dX6_markAhead_46
    · replace h := (if_neg c_2).symm.trans h
      refine lv_aload_n hx hb dX6_markAhead_28 rfl (lv_at hl 0 rfl) ?_
      refine mk_g6_34 hx hb hts in_X6_markAhead_X6 hown hK hP (by decide) rfl (hts (.fieldLink RX6 80 "MixedKernelModel" "placed" "[Z") (by decide +kernel)) dX6_markAhead_29 ?_
      refine lv_aload_n hx hb dX6_markAhead_32 rfl (lv_at hl 0 rfl) ?_
      refine mk_g6_8 hx hb hts in_X6_markAhead_X6 hown hK hP (by decide) rfl (hts (.fieldLink RX6 29 "MixedKernelModel" "plan" "[I") (by decide +kernel)) dX6_markAhead_33 ?_
      refine lv_iload_n hx hb dX6_markAhead_36 rfl (lv_at hl 2 rfl) ?_
      obtain ⟨i_3, h⟩ := mk_ifn h
      refine mk_ia hx hb hK hP (by decide) rfl i_3 dX6_markAhead_37 ?_
      refine lv_iconst (v := 1) hx hb dX6_markAhead_38 (by decide) ?_
      obtain ⟨i_4, h⟩ := mk_ifn h
      refine mk_zs hx hb hK hP (hD _ _) hS (by decide) rfl i_4 dX6_markAhead_39 (fun H locs hP hS => ?_)
      refine lv_iinc (v := l2 + 1) (lv' := [(2, .int (l2 + 1)), (0, .ref (E.1 68)), (1, .int l1)]) hx hb dX6_markAhead_40 hl (k := 2) rfl rfl (by decide) rfl (fun ls hl => ?_)
      refine lv_goto (tgt := 23) hx hb dX6_markAhead_43 (by decide) ?_
      exact ih l1 (l2 + 1) (mk_st M 92 (M 75 (l2).toNatClampNeg).toNatClampNeg (vp_nar .boolean 1)) _ h _ _ _ hP hS (lv_sub hl [1, 2, 0] rfl)
def f_X6_markAhead_2 : Nat → Int32 → Int32 → mk_M → Option (mk_M)
  | 0, _, _, _ => none
  | n + 1, l1, l2, M => (if 13 ≤ l2 then (f_X6_markAhead_23 mk_F l1 0 M) else (if mk_ob l2 13 then none else (f_X6_markAhead_2 n l1 (l2 + 1) (mk_st M 92 (l2).toNatClampNeg (vp_nar .boolean 0)))))
set_option maxHeartbeats 4000000 in
set_option maxRecDepth 100000 in
theorem w_X6_markAhead_2 {p : Program} {l : Launch} {e : Env} {s : State} {m : MethodId} {args : Array Value} {below : List Frame} {meth : Method} {c : Code} {D : va_G} {E : mk_E} {L : Nat → Int64} (C0 : mk_C p s m args meth c cX6_markAhead 3 wsX6_markAhead RX6 none D E) : ∀ n : Nat, ∀ (l1 : Int32) (l2 : Int32) (M : mk_M) (q : mk_M), f_X6_markAhead_2 n l1 l2 M = some q → ∀ (H : Heap) (locs : List Loc) (ls : Array Slot), va_P D vwCl (mk_wl E M L) H → va_S (mk_A E) s.heap H locs → lv_has ls 3 [(0, .ref (E.1 68)), (1, .int l1), (2, .int l2)] → W p l e rm_X6_markAhead s m args below meth c H locs 0 0 (MQ below (mk_Qv D E L q) args s 0 0 (mk_A E)) (F0 m 2 ls []) := by
  obtain ⟨hx, hb, hml, hown, hts, hr, hlk, hK, hD, hN⟩ := id C0
  intro n
  induction n with
  | zero =>
    intro l1 l2 M q h
    cases h
  | succ n ih =>
    intro l1 l2 M q h H locs ls hP hS hl
    replace h : (if 13 ≤ l2 then (f_X6_markAhead_23 mk_F l1 0 M) else (if mk_ob l2 13 then none else (f_X6_markAhead_2 n l1 (l2 + 1) (mk_st M 92 (l2).toNatClampNeg (vp_nar .boolean 0))))) = some q := h
    refine lv_iload_n hx hb dX6_markAhead_2 rfl (lv_at hl 2 rfl) ?_
    refine lv_bipush (v := 13) hx hb dX6_markAhead_3 (by decide) ?_
    refine lv_icmp_ge (tgt := 21) hx hb dX6_markAhead_5 (by decide) (fun c_1 => ?_) (fun c_1 => ?_)
    · replace h := (if_pos c_1).symm.trans h
      refine lv_iconst (v := 0) hx hb dX6_markAhead_21 (by decide) ?_
      refine lv_istore_n (lv' := [(2, .int 0), (0, .ref (E.1 68)), (1, .int l1)]) hx hb dX6_markAhead_22 rfl hl (by decide) rfl (fun ls hl => ?_)
      exact w_X6_markAhead_23 C0 mk_F l1 0 M _ h _ _ _ hP hS (lv_sub hl [1, 2, 0] rfl)
    · replace h := (if_neg c_1).symm.trans h
      refine lv_aload_n hx hb dX6_markAhead_8 rfl (lv_at hl 0 rfl) ?_
      refine mk_g6_34 hx hb hts in_X6_markAhead_X6 hown hK hP (by decide) rfl (hts (.fieldLink RX6 80 "MixedKernelModel" "placed" "[Z") (by decide +kernel)) dX6_markAhead_9 ?_
      refine lv_iload_n hx hb dX6_markAhead_12 rfl (lv_at hl 2 rfl) ?_
      refine lv_iconst (v := 0) hx hb dX6_markAhead_13 (by decide) ?_
      obtain ⟨i_5, h⟩ := mk_ifn h
      refine mk_zs hx hb hK hP (hD _ _) hS (by decide) rfl i_5 dX6_markAhead_14 (fun H locs hP hS => ?_)
      refine lv_iinc (v := l2 + 1) (lv' := [(2, .int (l2 + 1)), (0, .ref (E.1 68)), (1, .int l1)]) hx hb dX6_markAhead_15 hl (k := 2) rfl rfl (by decide) rfl (fun ls hl => ?_)
      refine lv_goto (tgt := 2) hx hb dX6_markAhead_18 (by decide) ?_
      exact ih l1 (l2 + 1) (mk_st M 92 (l2).toNatClampNeg (vp_nar .boolean 0)) _ h _ _ _ hP hS (lv_sub hl [1, 2, 0] rfl)
def f_X6_markAhead (a1 : Int32) (M : mk_M) : Option (mk_M) := (f_X6_markAhead_2 mk_F a1 1 M)
set_option maxHeartbeats 4000000 in
set_option maxRecDepth 100000 in
theorem c_X6_markAhead (l : Launch) (D : va_G) (E : mk_E) (L : Nat → Int64) (a1 : Int32) (M : mk_M) {q : mk_M} (h : f_X6_markAhead a1 M = some q) : Met l yX6_markAhead wsX6_markAhead rm_X6_markAhead (va_Pc [.ref (E.1 68), .int a1] (mk_W D E M L)) (mk_Qv D E L q) 0 0 (mk_A E) := by
  refine Met.ofW (cc := cX6_markAhead) (maxL := 3) (ret := none) (by decide) rfl ?_
  intro p e s m args below meth c s₁ B hml hv
  obtain ⟨rfl, hP, hK, hD0, hN⟩ := hv
  have hx := B.exec
  have hb := B.bytes
  have hr := B.returns
  have hts := atoms_spec (ws := wsX6_markAhead) B.pre
  have hown : s.vm.findClass RX6 = some m.cls := findClass_of_methodNamed B.named
  have hlk := B.notSynchronized
  have hD : ∀ (M : mk_M) (L : Nat → Int64), va_D (mk_A E) (mk_wl E M L) := fun _ _ => mk_D hD0
  have C0 : mk_C p s m [.ref (E.1 68), .int a1].toArray meth c cX6_markAhead 3 wsX6_markAhead RX6 none D E := ⟨hx, hb, hml, hown, hts, hr, hlk, hK, hD, hN⟩
  have hS : va_S (mk_A E) s.heap s.heap [] := va_S.rf
  have hl := lv_entry ([.ref (E.1 68), .int a1]) (n := 3) (Nat.le_of_ble_eq_true rfl)
  rw [lg_entry_eq]
  generalize (lg_sl ([.ref (E.1 68), .int a1]) ++ List.replicate (3 - (lg_sl ([.ref (E.1 68), .int a1])).length) Slot.unset).toArray = ls at hl ⊢
  have hl : lv_has ls 3 [(0, .ref (E.1 68)), (1, .int a1)] := hl
  replace h : (f_X6_markAhead_2 mk_F a1 1 M) = some q := h
  refine lv_iconst (v := 1) hx hb dX6_markAhead_0 (by decide) ?_
  refine lv_istore_n (lv' := [(2, .int 1), (0, .ref (E.1 68)), (1, .int a1)]) hx hb dX6_markAhead_1 rfl hl (by decide) rfl (fun ls hl => ?_)
  exact w_X6_markAhead_2 C0 mk_F a1 1 M _ h _ _ _ hP hS (lv_sub hl [1, 2, 0] rfl)
abbrev rm_X6_unfit : Room := { frames := 2, cells := 0, slots := 0, locals := 47 }
theorem in_X6_unfit_X6 : ∀ w ∈ wsX60, w ∈ wsX6_unfit := by decide +kernel
def f_X6_unfit_65 : Nat → Int32 → mk_M → Option (Int32 × mk_M)
  | 0, _, _ => none
  | n + 1, l1, M => (if (M 68 7) ≤ l1 then (some (0, M)) else ((f_X6_markAhead l1 M).bind (fun r_4 => (if mk_ob l1 13 then none else (if mk_ob (r_4 75 (l1).toNatClampNeg) 13 then none else (if (r_4 74 (r_4 75 (l1).toNatClampNeg).toNatClampNeg) ≤ 0 then (f_X6_unfit_65 n (l1 + 1) r_4) else (if mk_ob l1 13 then none else (if mk_ob l1 13 then none else (if mk_ob (r_4 75 (l1).toNatClampNeg) 13 then none else ((f_X6_bound (r_4 75 (l1).toNatClampNeg) (r_4 77 (r_4 75 (l1).toNatClampNeg).toNatClampNeg) r_4).bind (fun r_12 => (if r_12 = 0 then (if mk_ob l1 13 then none else (some (0 - (r_4 75 (l1).toNatClampNeg), r_4))) else (f_X6_unfit_65 n (l1 + 1) r_4)))))))))))))
set_option maxHeartbeats 4000000 in
set_option maxRecDepth 100000 in
theorem w_X6_unfit_65 {p : Program} {l : Launch} {e : Env} {s : State} {m : MethodId} {args : Array Value} {below : List Frame} {meth : Method} {c : Code} {D : va_G} {E : mk_E} {L : Nat → Int64} (C0 : mk_C p s m args meth c cX6_unfit 2 wsX6_unfit RX6 (some .int) D E) : ∀ n : Nat, ∀ (l1 : Int32) (M : mk_M) (q : Int32 × mk_M), f_X6_unfit_65 n l1 M = some q → ∀ (H : Heap) (locs : List Loc) (ls : Array Slot), va_P D vwCl (mk_wl E M L) H → va_S (mk_A E) s.heap H locs → lv_has ls 2 [(0, .ref (E.1 68)), (1, .int l1)] → W p l e rm_X6_unfit s m args below meth c H locs 0 0 (MQ below (mk_Qi D E L q.1 q.2) args s 0 0 (mk_A E)) (F0 m 65 ls []) := by
  obtain ⟨hx, hb, hml, hown, hts, hr, hlk, hK, hD, hN⟩ := id C0
  intro n
  induction n with
  | zero =>
    intro l1 M q h
    cases h
  | succ n ih =>
    intro l1 M q h H locs ls hP hS hl
    replace h : (if (M 68 7) ≤ l1 then (some (0, M)) else ((f_X6_markAhead l1 M).bind (fun r_4 => (if mk_ob l1 13 then none else (if mk_ob (r_4 75 (l1).toNatClampNeg) 13 then none else (if (r_4 74 (r_4 75 (l1).toNatClampNeg).toNatClampNeg) ≤ 0 then (f_X6_unfit_65 n (l1 + 1) r_4) else (if mk_ob l1 13 then none else (if mk_ob l1 13 then none else (if mk_ob (r_4 75 (l1).toNatClampNeg) 13 then none else ((f_X6_bound (r_4 75 (l1).toNatClampNeg) (r_4 77 (r_4 75 (l1).toNatClampNeg).toNatClampNeg) r_4).bind (fun r_12 => (if r_12 = 0 then (if mk_ob l1 13 then none else (some (0 - (r_4 75 (l1).toNatClampNeg), r_4))) else (f_X6_unfit_65 n (l1 + 1) r_4))))))))))))) = some q := h
    refine lv_iload_n hx hb dX6_unfit_65 rfl (lv_at hl 1 rfl) ?_
    refine lv_aload_n hx hb dX6_unfit_66 rfl (lv_at hl 0 rfl) ?_
    refine mk_g6_7 hx hb hts in_X6_unfit_X6 hown hK hP (by decide) rfl (hts (.fieldLink RX6 91 "MixedKernelModel" "planned" "I") (by decide +kernel)) dX6_unfit_67 ?_
    refine lv_icmp_ge (tgt := 131) hx hb dX6_unfit_70 (by decide) (fun c_2 => ?_) (fun c_2 => ?_)
    · replace h := (if_pos c_2).symm.trans h
      refine lv_iconst (v := 0) hx hb dX6_unfit_131 (by decide) ?_
      replace h := Option.some.inj h
      subst q
      exact W.iret (v := 0) hx hb hr (fun t ht hW => ⟨⟨_, (), rfl, rfl, by rw [← ht] at hP; exact hP⟩, hS.F ht⟩) hS.2.2 dX6_unfit_132
    · replace h := (if_neg c_2).symm.trans h
      refine lv_aload_n hx hb dX6_unfit_73 rfl (lv_at hl 0 rfl) ?_
      refine lv_iload_n hx hb dX6_unfit_74 rfl (lv_at hl 1 rfl) ?_
      obtain ⟨r_4, e_3, h⟩ := mk_bind h
      refine va_callv (va_runV (As := [.int l1]) (rest := []) ⟨hx, hb, hml, hown, hts⟩ (c_X6_markAhead l D E L l1 M  e_3) (cwV 1 hts gX6_unfit_X6_markAhead rfl rfl rfl (by decide +kernel) ⟨Nat.le_of_ble_eq_true rfl, Nat.le_of_ble_eq_true rfl⟩) ⟨mk_W.blind, mk_rc6 hK hP (by decide) rfl, fun U hU hW => ⟨rfl, mk_W.at hU hW hP hK (hD _ _) hN⟩⟩ rfl rfl hl.1 rfl (lv_room (Nat.le_of_ble_eq_true rfl)) dX6_unfit_75 ⟨Nat.zero_le _, Nat.zero_le _⟩) hS (fun q _ h => h) (fun q h => h) (fun u t H1 locs ht hvm hw hB hz1 hk1 hS => ?_)
      rw [ht] at hB
      replace hP := hB
      clear hB hz1 hk1 hvm ht
      generalize H1 = H at hP hS ⊢
      refine lv_aload_n hx hb dX6_unfit_78 rfl (lv_at hl 0 rfl) ?_
      refine mk_g6_6 hx hb hts in_X6_unfit_X6 hown hK hP (by decide) rfl (hts (.fieldLink RX6 26 "MixedKernelModel" "highs" "[I") (by decide +kernel)) dX6_unfit_79 ?_
      refine lv_aload_n hx hb dX6_unfit_82 rfl (lv_at hl 0 rfl) ?_
      refine mk_g6_8 hx hb hts in_X6_unfit_X6 hown hK hP (by decide) rfl (hts (.fieldLink RX6 29 "MixedKernelModel" "plan" "[I") (by decide +kernel)) dX6_unfit_83 ?_
      refine lv_iload_n hx hb dX6_unfit_86 rfl (lv_at hl 1 rfl) ?_
      obtain ⟨i_5, h⟩ := mk_ifn h
      refine mk_ia hx hb hK hP (by decide) rfl i_5 dX6_unfit_87 ?_
      obtain ⟨i_6, h⟩ := mk_ifn h
      refine mk_ia hx hb hK hP (by decide) rfl i_6 dX6_unfit_88 ?_
      refine lv_if_le (tgt := 125) hx hb dX6_unfit_89 (by decide) (fun c_7 => ?_) (fun c_7 => ?_)
      · replace h := (if_pos c_7).symm.trans h
        refine lv_iinc (v := l1 + 1) (lv' := [(1, .int (l1 + 1)), (0, .ref (E.1 68))]) hx hb dX6_unfit_125 hl (k := 1) rfl rfl (by decide) rfl (fun ls hl => ?_)
        refine lv_goto (tgt := 65) hx hb dX6_unfit_128 (by decide) ?_
        exact ih (l1 + 1) r_4 _ h _ _ _ hP hS (lv_sub hl [1, 0] rfl)
      · replace h := (if_neg c_7).symm.trans h
        refine lv_aload_n hx hb dX6_unfit_92 rfl (lv_at hl 0 rfl) ?_
        refine lv_aload_n hx hb dX6_unfit_93 rfl (lv_at hl 0 rfl) ?_
        refine mk_g6_8 hx hb hts in_X6_unfit_X6 hown hK hP (by decide) rfl (hts (.fieldLink RX6 29 "MixedKernelModel" "plan" "[I") (by decide +kernel)) dX6_unfit_94 ?_
        refine lv_iload_n hx hb dX6_unfit_97 rfl (lv_at hl 1 rfl) ?_
        obtain ⟨i_8, h⟩ := mk_ifn h
        refine mk_ia hx hb hK hP (by decide) rfl i_8 dX6_unfit_98 ?_
        refine lv_aload_n hx hb dX6_unfit_99 rfl (lv_at hl 0 rfl) ?_
        refine mk_g6_11 hx hb hts in_X6_unfit_X6 hown hK hP (by decide) rfl (hts (.fieldLink RX6 35 "MixedKernelModel" "found" "[I") (by decide +kernel)) dX6_unfit_100 ?_
        refine lv_aload_n hx hb dX6_unfit_103 rfl (lv_at hl 0 rfl) ?_
        refine mk_g6_8 hx hb hts in_X6_unfit_X6 hown hK hP (by decide) rfl (hts (.fieldLink RX6 29 "MixedKernelModel" "plan" "[I") (by decide +kernel)) dX6_unfit_104 ?_
        refine lv_iload_n hx hb dX6_unfit_107 rfl (lv_at hl 1 rfl) ?_
        obtain ⟨i_9, h⟩ := mk_ifn h
        refine mk_ia hx hb hK hP (by decide) rfl i_9 dX6_unfit_108 ?_
        obtain ⟨i_10, h⟩ := mk_ifn h
        refine mk_ia hx hb hK hP (by decide) rfl i_10 dX6_unfit_109 ?_
        obtain ⟨r_12, e_11, h⟩ := mk_bind h
        refine va_calli (va_runV (As := [.int (r_4 75 (l1).toNatClampNeg), .int (r_4 77 (r_4 75 (l1).toNatClampNeg).toNatClampNeg)]) (rest := []) ⟨hx, hb, hml, hown, hts⟩ (c_X6_bound l D E L (r_4 75 (l1).toNatClampNeg) (r_4 77 (r_4 75 (l1).toNatClampNeg).toNatClampNeg) r_4  e_11) (cwV 2 hts gX6_unfit_X6_bound rfl rfl rfl (by decide +kernel) ⟨Nat.le_of_ble_eq_true rfl, Nat.le_of_ble_eq_true rfl⟩) ⟨mk_W.blind, mk_rc6 hK hP (by decide) rfl, fun U hU hW => ⟨rfl, mk_W.at hU hW hP hK (hD _ _) hN⟩⟩ rfl rfl hl.1 rfl (lv_room (Nat.le_of_ble_eq_true rfl)) dX6_unfit_110 ⟨Nat.zero_le _, Nat.zero_le _⟩) hS (fun q _ h => h) (fun q h => h) (fun v_15 u t H1 locs ht hvm hw hB hz1 hk1 hS => ?_)
        subst v_15
        rw [ht] at hB
        replace hP := hB
        clear hB hz1 hk1 hvm ht
        generalize H1 = H at hP hS ⊢
        refine lv_if_ne (tgt := 125) hx hb dX6_unfit_113 (by decide) (fun c_13 => ?_) (fun c_13 => ?_)
        · replace h := (if_neg c_13).symm.trans h
          refine lv_iinc (v := l1 + 1) (lv' := [(1, .int (l1 + 1)), (0, .ref (E.1 68))]) hx hb dX6_unfit_125 hl (k := 1) rfl rfl (by decide) rfl (fun ls hl => ?_)
          refine lv_goto (tgt := 65) hx hb dX6_unfit_128 (by decide) ?_
          exact ih (l1 + 1) r_4 _ h _ _ _ hP hS (lv_sub hl [1, 0] rfl)
        · replace h := (if_pos c_13).symm.trans h
          refine lv_iconst (v := 0) hx hb dX6_unfit_116 (by decide) ?_
          refine lv_aload_n hx hb dX6_unfit_117 rfl (lv_at hl 0 rfl) ?_
          refine mk_g6_8 hx hb hts in_X6_unfit_X6 hown hK hP (by decide) rfl (hts (.fieldLink RX6 29 "MixedKernelModel" "plan" "[I") (by decide +kernel)) dX6_unfit_118 ?_
          refine lv_iload_n hx hb dX6_unfit_121 rfl (lv_at hl 1 rfl) ?_
          obtain ⟨i_14, h⟩ := mk_ifn h
          refine mk_ia hx hb hK hP (by decide) rfl i_14 dX6_unfit_122 ?_
          refine lv_isub hx hb dX6_unfit_123 ?_
          replace h := Option.some.inj h
          subst q
          exact W.iret (v := 0 - (r_4 75 (l1).toNatClampNeg)) hx hb hr (fun t ht hW => ⟨⟨_, (), rfl, rfl, by rw [← ht] at hP; exact hP⟩, hS.F ht⟩) hS.2.2 dX6_unfit_124
def f_X6_unfit_2 : Nat → Int32 → mk_M → Option (Int32 × mk_M)
  | 0, _, _ => none
  | n + 1, l1, M => (if (M 68 7) ≤ l1 then (f_X6_unfit_65 mk_F 0 M) else ((f_X6_markAhead l1 M).bind (fun r_17 => (if mk_ob l1 13 then none else (if mk_ob l1 13 then none else ((f_X6_lowResponse (r_17 75 (l1).toNatClampNeg) r_17).bind (fun r_21 => (if mk_ob (r_17 75 (l1).toNatClampNeg) 13 then none else (if mk_ob l1 13 then none else (if mk_ob ((mk_st r_17 77 (r_17 75 (l1).toNatClampNeg).toNatClampNeg r_21) 75 (l1).toNatClampNeg) 13 then none else (if ((mk_st r_17 77 (r_17 75 (l1).toNatClampNeg).toNatClampNeg r_21) 77 ((mk_st r_17 77 (r_17 75 (l1).toNatClampNeg).toNatClampNeg r_21) 75 (l1).toNatClampNeg).toNatClampNeg) = 0 then (if mk_ob l1 13 then none else (some ((mk_st r_17 77 (r_17 75 (l1).toNatClampNeg).toNatClampNeg r_21) 75 (l1).toNatClampNeg, mk_st r_17 77 (r_17 75 (l1).toNatClampNeg).toNatClampNeg r_21))) else (f_X6_unfit_2 n (l1 + 1) (mk_st r_17 77 (r_17 75 (l1).toNatClampNeg).toNatClampNeg r_21)))))))))))))
set_option maxHeartbeats 4000000 in
set_option maxRecDepth 100000 in
theorem w_X6_unfit_2 {p : Program} {l : Launch} {e : Env} {s : State} {m : MethodId} {args : Array Value} {below : List Frame} {meth : Method} {c : Code} {D : va_G} {E : mk_E} {L : Nat → Int64} (C0 : mk_C p s m args meth c cX6_unfit 2 wsX6_unfit RX6 (some .int) D E) : ∀ n : Nat, ∀ (l1 : Int32) (M : mk_M) (q : Int32 × mk_M), f_X6_unfit_2 n l1 M = some q → ∀ (H : Heap) (locs : List Loc) (ls : Array Slot), va_P D vwCl (mk_wl E M L) H → va_S (mk_A E) s.heap H locs → lv_has ls 2 [(0, .ref (E.1 68)), (1, .int l1)] → W p l e rm_X6_unfit s m args below meth c H locs 0 0 (MQ below (mk_Qi D E L q.1 q.2) args s 0 0 (mk_A E)) (F0 m 2 ls []) := by
  obtain ⟨hx, hb, hml, hown, hts, hr, hlk, hK, hD, hN⟩ := id C0
  intro n
  induction n with
  | zero =>
    intro l1 M q h
    cases h
  | succ n ih =>
    intro l1 M q h H locs ls hP hS hl
    replace h : (if (M 68 7) ≤ l1 then (f_X6_unfit_65 mk_F 0 M) else ((f_X6_markAhead l1 M).bind (fun r_17 => (if mk_ob l1 13 then none else (if mk_ob l1 13 then none else ((f_X6_lowResponse (r_17 75 (l1).toNatClampNeg) r_17).bind (fun r_21 => (if mk_ob (r_17 75 (l1).toNatClampNeg) 13 then none else (if mk_ob l1 13 then none else (if mk_ob ((mk_st r_17 77 (r_17 75 (l1).toNatClampNeg).toNatClampNeg r_21) 75 (l1).toNatClampNeg) 13 then none else (if ((mk_st r_17 77 (r_17 75 (l1).toNatClampNeg).toNatClampNeg r_21) 77 ((mk_st r_17 77 (r_17 75 (l1).toNatClampNeg).toNatClampNeg r_21) 75 (l1).toNatClampNeg).toNatClampNeg) = 0 then (if mk_ob l1 13 then none else (some ((mk_st r_17 77 (r_17 75 (l1).toNatClampNeg).toNatClampNeg r_21) 75 (l1).toNatClampNeg, mk_st r_17 77 (r_17 75 (l1).toNatClampNeg).toNatClampNeg r_21))) else (f_X6_unfit_2 n (l1 + 1) (mk_st r_17 77 (r_17 75 (l1).toNatClampNeg).toNatClampNeg r_21))))))))))))) = some q := h
    refine lv_iload_n hx hb dX6_unfit_2 rfl (lv_at hl 1 rfl) ?_
    refine lv_aload_n hx hb dX6_unfit_3 rfl (lv_at hl 0 rfl) ?_
    refine mk_g6_7 hx hb hts in_X6_unfit_X6 hown hK hP (by decide) rfl (hts (.fieldLink RX6 91 "MixedKernelModel" "planned" "I") (by decide +kernel)) dX6_unfit_4 ?_
    refine lv_icmp_ge (tgt := 63) hx hb dX6_unfit_7 (by decide) (fun c_1 => ?_) (fun c_1 => ?_)
    · replace h := (if_pos c_1).symm.trans h
      refine lv_iconst (v := 0) hx hb dX6_unfit_63 (by decide) ?_
      refine lv_istore_n (lv' := [(1, .int 0), (0, .ref (E.1 68))]) hx hb dX6_unfit_64 rfl hl (by decide) rfl (fun ls hl => ?_)
      exact w_X6_unfit_65 C0 mk_F 0 M _ h _ _ _ hP hS (lv_sub hl [1, 0] rfl)
    · replace h := (if_neg c_1).symm.trans h
      refine lv_aload_n hx hb dX6_unfit_10 rfl (lv_at hl 0 rfl) ?_
      refine lv_iload_n hx hb dX6_unfit_11 rfl (lv_at hl 1 rfl) ?_
      obtain ⟨r_17, e_16, h⟩ := mk_bind h
      refine va_callv (va_runV (As := [.int l1]) (rest := []) ⟨hx, hb, hml, hown, hts⟩ (c_X6_markAhead l D E L l1 M  e_16) (cwV 1 hts gX6_unfit_X6_markAhead rfl rfl rfl (by decide +kernel) ⟨Nat.le_of_ble_eq_true rfl, Nat.le_of_ble_eq_true rfl⟩) ⟨mk_W.blind, mk_rc6 hK hP (by decide) rfl, fun U hU hW => ⟨rfl, mk_W.at hU hW hP hK (hD _ _) hN⟩⟩ rfl rfl hl.1 rfl (lv_room (Nat.le_of_ble_eq_true rfl)) dX6_unfit_12 ⟨Nat.zero_le _, Nat.zero_le _⟩) hS (fun q _ h => h) (fun q h => h) (fun u t H1 locs ht hvm hw hB hz1 hk1 hS => ?_)
      rw [ht] at hB
      replace hP := hB
      clear hB hz1 hk1 hvm ht
      generalize H1 = H at hP hS ⊢
      refine lv_aload_n hx hb dX6_unfit_15 rfl (lv_at hl 0 rfl) ?_
      refine mk_g6_11 hx hb hts in_X6_unfit_X6 hown hK hP (by decide) rfl (hts (.fieldLink RX6 35 "MixedKernelModel" "found" "[I") (by decide +kernel)) dX6_unfit_16 ?_
      refine lv_aload_n hx hb dX6_unfit_19 rfl (lv_at hl 0 rfl) ?_
      refine mk_g6_8 hx hb hts in_X6_unfit_X6 hown hK hP (by decide) rfl (hts (.fieldLink RX6 29 "MixedKernelModel" "plan" "[I") (by decide +kernel)) dX6_unfit_20 ?_
      refine lv_iload_n hx hb dX6_unfit_23 rfl (lv_at hl 1 rfl) ?_
      obtain ⟨i_18, h⟩ := mk_ifn h
      refine mk_ia hx hb hK hP (by decide) rfl i_18 dX6_unfit_24 ?_
      refine lv_aload_n hx hb dX6_unfit_25 rfl (lv_at hl 0 rfl) ?_
      refine lv_aload_n hx hb dX6_unfit_26 rfl (lv_at hl 0 rfl) ?_
      refine mk_g6_8 hx hb hts in_X6_unfit_X6 hown hK hP (by decide) rfl (hts (.fieldLink RX6 29 "MixedKernelModel" "plan" "[I") (by decide +kernel)) dX6_unfit_27 ?_
      refine lv_iload_n hx hb dX6_unfit_30 rfl (lv_at hl 1 rfl) ?_
      obtain ⟨i_19, h⟩ := mk_ifn h
      refine mk_ia hx hb hK hP (by decide) rfl i_19 dX6_unfit_31 ?_
      obtain ⟨r_21, e_20, h⟩ := mk_bind h
      refine va_calli (va_runV (As := [.int (r_17 75 (l1).toNatClampNeg)]) (rest := [.int (r_17 75 (l1).toNatClampNeg), .ref (E.1 77)]) ⟨hx, hb, hml, hown, hts⟩ (c_X6_lowResponse l D E L (r_17 75 (l1).toNatClampNeg) r_17  e_20) (cwV 1 hts gX6_unfit_X6_lowResponse rfl rfl rfl (by decide +kernel) ⟨Nat.le_of_ble_eq_true rfl, Nat.le_of_ble_eq_true rfl⟩) ⟨mk_W.blind, mk_rc6 hK hP (by decide) rfl, fun U hU hW => ⟨rfl, mk_W.at hU hW hP hK (hD _ _) hN⟩⟩ rfl rfl hl.1 rfl (lv_room (Nat.le_of_ble_eq_true rfl)) dX6_unfit_32 ⟨Nat.zero_le _, Nat.zero_le _⟩) hS (fun q _ h => h) (fun q h => h) (fun v_27 u t H1 locs ht hvm hw hB hz1 hk1 hS => ?_)
      subst v_27
      rw [ht] at hB
      replace hP := hB
      clear hB hz1 hk1 hvm ht
      generalize H1 = H at hP hS ⊢
      obtain ⟨i_22, h⟩ := mk_ifn h
      refine mk_is hx hb hK hP (hD _ _) hS (by decide) rfl i_22 dX6_unfit_35 (fun H locs hP hS => ?_)
      refine lv_aload_n hx hb dX6_unfit_36 rfl (lv_at hl 0 rfl) ?_
      refine mk_g6_11 hx hb hts in_X6_unfit_X6 hown hK hP (by decide) rfl (hts (.fieldLink RX6 35 "MixedKernelModel" "found" "[I") (by decide +kernel)) dX6_unfit_37 ?_
      refine lv_aload_n hx hb dX6_unfit_40 rfl (lv_at hl 0 rfl) ?_
      refine mk_g6_8 hx hb hts in_X6_unfit_X6 hown hK hP (by decide) rfl (hts (.fieldLink RX6 29 "MixedKernelModel" "plan" "[I") (by decide +kernel)) dX6_unfit_41 ?_
      refine lv_iload_n hx hb dX6_unfit_44 rfl (lv_at hl 1 rfl) ?_
      obtain ⟨i_23, h⟩ := mk_ifn h
      refine mk_ia hx hb hK hP (by decide) rfl i_23 dX6_unfit_45 ?_
      obtain ⟨i_24, h⟩ := mk_ifn h
      refine mk_ia hx hb hK hP (by decide) rfl i_24 dX6_unfit_46 ?_
      refine lv_if_ne (tgt := 57) hx hb dX6_unfit_47 (by decide) (fun c_25 => ?_) (fun c_25 => ?_)
      · replace h := (if_neg c_25).symm.trans h
        refine lv_iinc (v := l1 + 1) (lv' := [(1, .int (l1 + 1)), (0, .ref (E.1 68))]) hx hb dX6_unfit_57 hl (k := 1) rfl rfl (by decide) rfl (fun ls hl => ?_)
        refine lv_goto (tgt := 2) hx hb dX6_unfit_60 (by decide) ?_
        exact ih (l1 + 1) (mk_st r_17 77 (r_17 75 (l1).toNatClampNeg).toNatClampNeg r_21) _ h _ _ _ hP hS (lv_sub hl [1, 0] rfl)
      · replace h := (if_pos c_25).symm.trans h
        refine lv_aload_n hx hb dX6_unfit_50 rfl (lv_at hl 0 rfl) ?_
        refine mk_g6_8 hx hb hts in_X6_unfit_X6 hown hK hP (by decide) rfl (hts (.fieldLink RX6 29 "MixedKernelModel" "plan" "[I") (by decide +kernel)) dX6_unfit_51 ?_
        refine lv_iload_n hx hb dX6_unfit_54 rfl (lv_at hl 1 rfl) ?_
        obtain ⟨i_26, h⟩ := mk_ifn h
        refine mk_ia hx hb hK hP (by decide) rfl i_26 dX6_unfit_55 ?_
        replace h := Option.some.inj h
        subst q
        exact W.iret (v := (mk_st r_17 77 (r_17 75 (l1).toNatClampNeg).toNatClampNeg r_21) 75 (l1).toNatClampNeg) hx hb hr (fun t ht hW => ⟨⟨_, (), rfl, rfl, by rw [← ht] at hP; exact hP⟩, hS.F ht⟩) hS.2.2 dX6_unfit_56
def f_X6_unfit (M : mk_M) : Option (Int32 × mk_M) := (f_X6_unfit_2 mk_F 0 M)
set_option maxHeartbeats 4000000 in
set_option maxRecDepth 100000 in
theorem c_X6_unfit (l : Launch) (D : va_G) (E : mk_E) (L : Nat → Int64) (M : mk_M) {q : Int32 × mk_M} (h : f_X6_unfit M = some q) : Met l yX6_unfit wsX6_unfit rm_X6_unfit (va_Pc [.ref (E.1 68)] (mk_W D E M L)) (mk_Qi D E L q.1 q.2) 0 0 (mk_A E) := by
  refine Met.ofW (cc := cX6_unfit) (maxL := 2) (ret := (some .int)) (by decide) rfl ?_
  intro p e s m args below meth c s₁ B hml hv
  obtain ⟨rfl, hP, hK, hD0, hN⟩ := hv
  have hx := B.exec
  have hb := B.bytes
  have hr := B.returns
  have hts := atoms_spec (ws := wsX6_unfit) B.pre
  have hown : s.vm.findClass RX6 = some m.cls := findClass_of_methodNamed B.named
  have hlk := B.notSynchronized
  have hD : ∀ (M : mk_M) (L : Nat → Int64), va_D (mk_A E) (mk_wl E M L) := fun _ _ => mk_D hD0
  have C0 : mk_C p s m [.ref (E.1 68)].toArray meth c cX6_unfit 2 wsX6_unfit RX6 (some .int) D E := ⟨hx, hb, hml, hown, hts, hr, hlk, hK, hD, hN⟩
  have hS : va_S (mk_A E) s.heap s.heap [] := va_S.rf
  have hl := lv_entry ([.ref (E.1 68)]) (n := 2) (Nat.le_of_ble_eq_true rfl)
  rw [lg_entry_eq]
  generalize (lg_sl ([.ref (E.1 68)]) ++ List.replicate (2 - (lg_sl ([.ref (E.1 68)])).length) Slot.unset).toArray = ls at hl ⊢
  have hl : lv_has ls 2 [(0, .ref (E.1 68))] := hl
  replace h : (f_X6_unfit_2 mk_F 0 M) = some q := h
  refine lv_iconst (v := 0) hx hb dX6_unfit_0 (by decide) ?_
  refine lv_istore_n (lv' := [(1, .int 0), (0, .ref (E.1 68))]) hx hb dX6_unfit_1 rfl hl (by decide) rfl (fun ls hl => ?_)
  exact w_X6_unfit_2 C0 mk_F 0 M _ h _ _ _ hP hS (lv_sub hl [1, 0] rfl)
abbrev rm_X6_takeOut : Room := { frames := 0, cells := 0, slots := 0, locals := 0 }
theorem in_X6_takeOut_X6 : ∀ w ∈ wsX60, w ∈ wsX6_takeOut := by decide +kernel
def f_X6_takeOut_4 : Nat → Int32 → Int32 → Int32 → mk_M → Option (mk_M)
  | 0, _, _, _, _ => none
  | n + 1, l1, l2, l3, M => (if (M 68 7) ≤ l3 then (some (mk_st M 68 7 l2)) else (if mk_ob l3 13 then none else (if mk_ob l2 13 then none else (if mk_ob l3 13 then none else (if ((mk_st M 75 (l2).toNatClampNeg (M 75 (l3).toNatClampNeg)) 75 (l3).toNatClampNeg) = l1 then (f_X6_takeOut_4 n l1 l2 (l3 + 1) (mk_st M 75 (l2).toNatClampNeg (M 75 (l3).toNatClampNeg))) else (f_X6_takeOut_4 n l1 (l2 + 1) (l3 + 1) (mk_st M 75 (l2).toNatClampNeg (M 75 (l3).toNatClampNeg))))))))
set_option maxHeartbeats 4000000 in
set_option maxRecDepth 100000 in
theorem w_X6_takeOut_4 {p : Program} {l : Launch} {e : Env} {s : State} {m : MethodId} {args : Array Value} {below : List Frame} {meth : Method} {c : Code} {D : va_G} {E : mk_E} {L : Nat → Int64} (C0 : mk_C p s m args meth c cX6_takeOut 4 wsX6_takeOut RX6 none D E) : ∀ n : Nat, ∀ (l1 : Int32) (l2 : Int32) (l3 : Int32) (M : mk_M) (q : mk_M), f_X6_takeOut_4 n l1 l2 l3 M = some q → ∀ (H : Heap) (locs : List Loc) (ls : Array Slot), va_P D vwCl (mk_wl E M L) H → va_S (mk_A E) s.heap H locs → lv_has ls 4 [(0, .ref (E.1 68)), (1, .int l1), (2, .int l2), (3, .int l3)] → W p l e rm_X6_takeOut s m args below meth c H locs 0 0 (MQ below (mk_Qv D E L q) args s 0 0 (mk_A E)) (F0 m 4 ls []) := by
  obtain ⟨hx, hb, hml, hown, hts, hr, hlk, hK, hD, hN⟩ := id C0
  intro n
  induction n with
  | zero =>
    intro l1 l2 l3 M q h
    cases h
  | succ n ih =>
    intro l1 l2 l3 M q h H locs ls hP hS hl
    replace h : (if (M 68 7) ≤ l3 then (some (mk_st M 68 7 l2)) else (if mk_ob l3 13 then none else (if mk_ob l2 13 then none else (if mk_ob l3 13 then none else (if ((mk_st M 75 (l2).toNatClampNeg (M 75 (l3).toNatClampNeg)) 75 (l3).toNatClampNeg) = l1 then (f_X6_takeOut_4 n l1 l2 (l3 + 1) (mk_st M 75 (l2).toNatClampNeg (M 75 (l3).toNatClampNeg))) else (f_X6_takeOut_4 n l1 (l2 + 1) (l3 + 1) (mk_st M 75 (l2).toNatClampNeg (M 75 (l3).toNatClampNeg)))))))) = some q := h
    refine lv_iload_n hx hb dX6_takeOut_4 rfl (lv_at hl 3 rfl) ?_
    refine lv_aload_n hx hb dX6_takeOut_5 rfl (lv_at hl 0 rfl) ?_
    refine mk_g6_7 hx hb hts in_X6_takeOut_X6 hown hK hP (by decide) rfl (hts (.fieldLink RX6 91 "MixedKernelModel" "planned" "I") (by decide +kernel)) dX6_takeOut_6 ?_
    refine lv_icmp_ge (tgt := 48) hx hb dX6_takeOut_9 (by decide) (fun c_1 => ?_) (fun c_1 => ?_)
    · replace h := (if_pos c_1).symm.trans h
      refine lv_aload_n hx hb dX6_takeOut_48 rfl (lv_at hl 0 rfl) ?_
      refine lv_iload_n hx hb dX6_takeOut_49 rfl (lv_at hl 2 rfl) ?_
      refine mk_p6_7 hx hb hts in_X6_takeOut_X6 hown hK hP (by decide) rfl (hD _ _) hS (hts (.fieldLink RX6 91 "MixedKernelModel" "planned" "I") (by decide +kernel)) dX6_takeOut_50 (fun H locs hP hS => ?_)
      replace h := Option.some.inj h
      subst q
      exact W.vret hx hb hr (fun t ht hW => ⟨⟨(), rfl, trivial, by rw [← ht] at hP; exact hP⟩, hS.F ht⟩) hS.2.2 dX6_takeOut_53
    · replace h := (if_neg c_1).symm.trans h
      refine lv_aload_n hx hb dX6_takeOut_12 rfl (lv_at hl 0 rfl) ?_
      refine mk_g6_8 hx hb hts in_X6_takeOut_X6 hown hK hP (by decide) rfl (hts (.fieldLink RX6 29 "MixedKernelModel" "plan" "[I") (by decide +kernel)) dX6_takeOut_13 ?_
      refine lv_iload_n hx hb dX6_takeOut_16 rfl (lv_at hl 2 rfl) ?_
      refine lv_aload_n hx hb dX6_takeOut_17 rfl (lv_at hl 0 rfl) ?_
      refine mk_g6_8 hx hb hts in_X6_takeOut_X6 hown hK hP (by decide) rfl (hts (.fieldLink RX6 29 "MixedKernelModel" "plan" "[I") (by decide +kernel)) dX6_takeOut_18 ?_
      refine lv_iload_n hx hb dX6_takeOut_21 rfl (lv_at hl 3 rfl) ?_
      obtain ⟨i_2, h⟩ := mk_ifn h
      refine mk_ia hx hb hK hP (by decide) rfl i_2 dX6_takeOut_22 ?_
      obtain ⟨i_3, h⟩ := mk_ifn h
      refine mk_is hx hb hK hP (hD _ _) hS (by decide) rfl i_3 dX6_takeOut_23 (fun H locs hP hS => ?_)
      refine lv_aload_n hx hb dX6_takeOut_24 rfl (lv_at hl 0 rfl) ?_
      refine mk_g6_8 hx hb hts in_X6_takeOut_X6 hown hK hP (by decide) rfl (hts (.fieldLink RX6 29 "MixedKernelModel" "plan" "[I") (by decide +kernel)) dX6_takeOut_25 ?_
      refine lv_iload_n hx hb dX6_takeOut_28 rfl (lv_at hl 3 rfl) ?_
      obtain ⟨i_4, h⟩ := mk_ifn h
      refine mk_ia hx hb hK hP (by decide) rfl i_4 dX6_takeOut_29 ?_
      refine lv_iload_n hx hb dX6_takeOut_30 rfl (lv_at hl 1 rfl) ?_
      refine lv_icmp_ne (tgt := 38) hx hb dX6_takeOut_31 (by decide) (fun c_5 => ?_) (fun c_5 => ?_)
      · replace h := (if_neg c_5).symm.trans h
        refine lv_iload_n hx hb dX6_takeOut_38 rfl (lv_at hl 2 rfl) ?_
        refine lv_iconst (v := 1) hx hb dX6_takeOut_39 (by decide) ?_
        refine lv_iadd hx hb dX6_takeOut_40 ?_
        refine lv_istore_n (lv' := [(2, .int (l2 + 1)), (0, .ref (E.1 68)), (1, .int l1), (3, .int l3)]) hx hb dX6_takeOut_41 rfl hl (by decide) rfl (fun ls hl => ?_)
        refine lv_iinc (v := l3 + 1) (lv' := [(3, .int (l3 + 1)), (2, .int (l2 + 1)), (0, .ref (E.1 68)), (1, .int l1)]) hx hb dX6_takeOut_42 hl (k := 3) rfl rfl (by decide) rfl (fun ls hl => ?_)
        refine lv_goto (tgt := 4) hx hb dX6_takeOut_45 (by decide) ?_
        exact ih l1 (l2 + 1) (l3 + 1) (mk_st M 75 (l2).toNatClampNeg (M 75 (l3).toNatClampNeg)) _ h _ _ _ hP hS (lv_sub hl [2, 3, 1, 0] rfl)
      · replace h := (if_pos c_5).symm.trans h
        refine lv_iload_n hx hb dX6_takeOut_34 rfl (lv_at hl 2 rfl) ?_
        refine lv_goto (tgt := 41) hx hb dX6_takeOut_35 (by decide) ?_
        refine lv_istore_n (lv' := [(2, .int l2), (0, .ref (E.1 68)), (1, .int l1), (3, .int l3)]) hx hb dX6_takeOut_41 rfl hl (by decide) rfl (fun ls hl => ?_)
        refine lv_iinc (v := l3 + 1) (lv' := [(3, .int (l3 + 1)), (2, .int l2), (0, .ref (E.1 68)), (1, .int l1)]) hx hb dX6_takeOut_42 hl (k := 3) rfl rfl (by decide) rfl (fun ls hl => ?_)
        refine lv_goto (tgt := 4) hx hb dX6_takeOut_45 (by decide) ?_
        exact ih l1 l2 (l3 + 1) (mk_st M 75 (l2).toNatClampNeg (M 75 (l3).toNatClampNeg)) _ h _ _ _ hP hS (lv_sub hl [2, 3, 1, 0] rfl)
def f_X6_takeOut (a1 : Int32) (M : mk_M) : Option (mk_M) := (f_X6_takeOut_4 mk_F a1 0 0 M)
set_option maxHeartbeats 4000000 in
set_option maxRecDepth 100000 in
theorem c_X6_takeOut (l : Launch) (D : va_G) (E : mk_E) (L : Nat → Int64) (a1 : Int32) (M : mk_M) {q : mk_M} (h : f_X6_takeOut a1 M = some q) : Met l yX6_takeOut wsX6_takeOut rm_X6_takeOut (va_Pc [.ref (E.1 68), .int a1] (mk_W D E M L)) (mk_Qv D E L q) 0 0 (mk_A E) := by
  refine Met.ofW (cc := cX6_takeOut) (maxL := 4) (ret := none) (by decide) rfl ?_
  intro p e s m args below meth c s₁ B hml hv
  obtain ⟨rfl, hP, hK, hD0, hN⟩ := hv
  have hx := B.exec
  have hb := B.bytes
  have hr := B.returns
  have hts := atoms_spec (ws := wsX6_takeOut) B.pre
  have hown : s.vm.findClass RX6 = some m.cls := findClass_of_methodNamed B.named
  have hlk := B.notSynchronized
  have hD : ∀ (M : mk_M) (L : Nat → Int64), va_D (mk_A E) (mk_wl E M L) := fun _ _ => mk_D hD0
  have C0 : mk_C p s m [.ref (E.1 68), .int a1].toArray meth c cX6_takeOut 4 wsX6_takeOut RX6 none D E := ⟨hx, hb, hml, hown, hts, hr, hlk, hK, hD, hN⟩
  have hS : va_S (mk_A E) s.heap s.heap [] := va_S.rf
  have hl := lv_entry ([.ref (E.1 68), .int a1]) (n := 4) (Nat.le_of_ble_eq_true rfl)
  rw [lg_entry_eq]
  generalize (lg_sl ([.ref (E.1 68), .int a1]) ++ List.replicate (4 - (lg_sl ([.ref (E.1 68), .int a1])).length) Slot.unset).toArray = ls at hl ⊢
  have hl : lv_has ls 4 [(0, .ref (E.1 68)), (1, .int a1)] := hl
  replace h : (f_X6_takeOut_4 mk_F a1 0 0 M) = some q := h
  refine lv_iconst (v := 0) hx hb dX6_takeOut_0 (by decide) ?_
  refine lv_istore_n (lv' := [(2, .int 0), (0, .ref (E.1 68)), (1, .int a1)]) hx hb dX6_takeOut_1 rfl hl (by decide) rfl (fun ls hl => ?_)
  refine lv_iconst (v := 0) hx hb dX6_takeOut_2 (by decide) ?_
  refine lv_istore_n (lv' := [(3, .int 0), (2, .int 0), (0, .ref (E.1 68)), (1, .int a1)]) hx hb dX6_takeOut_3 rfl hl (by decide) rfl (fun ls hl => ?_)
  exact w_X6_takeOut_4 C0 mk_F a1 0 0 M _ h _ _ _ hP hS (lv_sub hl [2, 3, 1, 0] rfl)
