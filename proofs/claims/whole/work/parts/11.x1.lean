abbrev rm_X1_become : Room := { frames := 1, cells := 0, slots := 0, locals := 60 }
theorem in_X1_become_X1 : ∀ w ∈ wsX10, w ∈ wsX1_become := by decide +kernel
def f_X1_become (x0 : Nat) (x1 : Nat) (M : mk_M) : Option (mk_M) := (some (mk_st (mk_sr M (x0+1) (va_cpy (M (x1+1)) (M (x0+1)) 0 0 12)) x0 1 ((mk_sr M (x0+1) (va_cpy (M (x1+1)) (M (x0+1)) 0 0 12)) x1 1)))
set_option maxHeartbeats 4000000 in
set_option maxRecDepth 100000 in
theorem c_X1_become (l : Launch) (D : va_G) (E : mk_E) (L : Nat → Int64) (x0 : Nat) (x1 : Nat) (M : mk_M) (hx_x0 : x0 < 94) (hk_x0 : mk_kd x0 = 1) (hx_x1 : x1 < 94) (hk_x1 : mk_kd x1 = 1) {q : mk_M} (h : f_X1_become x0 x1 M = some q) : Met l yX1_become wsX1_become rm_X1_become (va_Pc [.ref (E.1 x0), .ref (E.1 x1)] (mk_W D E M L)) (mk_Qv D E L q) 0 0 (mk_A E) := by
  have ha_x0 := mk_s1 hk_x0
  have ha_x1 := mk_s1 hk_x1
  refine Met.ofW (cc := cX1_become) (maxL := 2) (ret := none) (by decide) rfl ?_
  intro p e s m args below meth c s₁ B hml hv
  obtain ⟨rfl, hP, hK, hD0, hN⟩ := hv
  have hx := B.exec
  have hb := B.bytes
  have hr := B.returns
  have hts := atoms_spec (ws := wsX1_become) B.pre
  have hown : s.vm.findClass RX1 = some m.cls := findClass_of_methodNamed B.named
  have hlk := B.notSynchronized
  have hD : ∀ (M : mk_M) (L : Nat → Int64), va_D (mk_A E) (mk_wl E M L) := fun _ _ => mk_D hD0
  have C0 : mk_C p s m [.ref (E.1 x0), .ref (E.1 x1)].toArray meth c cX1_become 2 wsX1_become RX1 none D E := ⟨hx, hb, hml, hown, hts, hr, hlk, hK, hD, hN⟩
  have hS : va_S (mk_A E) s.heap s.heap [] := va_S.rf
  have hl := lv_entry ([.ref (E.1 x0), .ref (E.1 x1)]) (n := 2) (Nat.le_of_ble_eq_true rfl)
  rw [lg_entry_eq]
  generalize (lg_sl ([.ref (E.1 x0), .ref (E.1 x1)]) ++ List.replicate (2 - (lg_sl ([.ref (E.1 x0), .ref (E.1 x1)])).length) Slot.unset).toArray = ls at hl ⊢
  have hl : lv_has ls 2 [(0, .ref (E.1 x0)), (1, .ref (E.1 x1))] := hl
  replace h : (some (mk_st (mk_sr M (x0+1) (va_cpy (M (x1+1)) (M (x0+1)) 0 0 12)) x0 1 ((mk_sr M (x0+1) (va_cpy (M (x1+1)) (M (x0+1)) 0 0 12)) x1 1))) = some q := h
  refine lv_aload_n hx hb dX1_become_0 rfl (lv_at hl 1 rfl) ?_
  refine mk_g1_0 hx hb hts in_X1_become_X1 hown hK hP hx_x1 hk_x1 (hts (.fieldLink RX1 9 "MixedKernel$Line" "ids" "[I") (by decide +kernel)) dX1_become_1 ?_
  refine lv_iconst (v := 0) hx hb dX1_become_4 (by decide) ?_
  refine lv_aload_n hx hb dX1_become_5 rfl (lv_at hl 0 rfl) ?_
  refine mk_g1_0 hx hb hts in_X1_become_X1 hown hK hP hx_x0 hk_x0 (hts (.fieldLink RX1 9 "MixedKernel$Line" "ids" "[I") (by decide +kernel)) dX1_become_6 ?_
  refine lv_iconst (v := 0) hx hb dX1_become_9 (by decide) ?_
  refine lv_bipush (v := 12) hx hb dX1_become_10 (by decide) ?_
  refine mk_cp hx hb (hml.trans hl.1.symm) hown (hts (.methodLink RX1 19 arraycopyName) (by decide +kernel)) (hts (.native arraycopyName) (by decide +kernel)) (hts (.static arraycopyName) (by decide +kernel)) (hts (.initialized "java/lang/System") (by decide +kernel)) hK hP (hD _ _) hS ha_x1.1 ha_x1.2.1 ha_x1.2.2 ha_x0.1 ha_x0.2.1 ha_x0.2.2 (Nat.le_of_ble_eq_true rfl) (by decide +kernel) dX1_become_12 (fun H locs hP hS => ?_)
  refine lv_aload_n hx hb dX1_become_15 rfl (lv_at hl 0 rfl) ?_
  refine lv_aload_n hx hb dX1_become_16 rfl (lv_at hl 1 rfl) ?_
  refine mk_g1_1 hx hb hts in_X1_become_X1 hown hK hP hx_x1 hk_x1 (hts (.fieldLink RX1 15 "MixedKernel$Line" "size" "I") (by decide +kernel)) dX1_become_17 ?_
  refine mk_p1_1 hx hb hts in_X1_become_X1 hown hK hP hx_x0 hk_x0 (hD _ _) hS (hts (.fieldLink RX1 15 "MixedKernel$Line" "size" "I") (by decide +kernel)) dX1_become_20 (fun H locs hP hS => ?_)
  replace h := Option.some.inj h
  subst q
  exact W.vret hx hb hr (fun t ht hW => ⟨⟨(), rfl, trivial, by rw [← ht] at hP; exact hP⟩, hS.F ht⟩) hS.2.2 dX1_become_23
abbrev rm_X1_placeOf : Room := { frames := 0, cells := 0, slots := 0, locals := 0 }
theorem in_X1_placeOf_X1 : ∀ w ∈ wsX10, w ∈ wsX1_placeOf := by decide +kernel
def f_X1_placeOf_2 (x0 : Nat) : Nat → Int32 → Int32 → mk_M → Option (Int32)
  | 0, _, _, _ => none
  | n + 1, l1, l2, M => (if (M x0 1) ≤ l2 then (some (-1)) else (if mk_ob l2 12 then none else (if (M (x0+1) (l2).toNatClampNeg) = l1 then (some l2) else (f_X1_placeOf_2 x0 n l1 (l2 + 1) M))))
set_option maxHeartbeats 4000000 in
set_option maxRecDepth 100000 in
theorem w_X1_placeOf_2 {p : Program} {l : Launch} {e : Env} {s : State} {m : MethodId} {args : Array Value} {below : List Frame} {meth : Method} {c : Code} {D : va_G} {E : mk_E} {L : Nat → Int64} (C0 : mk_C p s m args meth c cX1_placeOf 3 wsX1_placeOf RX1 (some .int) D E) (x0 : Nat) (hx_x0 : x0 < 94) (hk_x0 : mk_kd x0 = 1) : ∀ n : Nat, ∀ (l1 : Int32) (l2 : Int32) (M : mk_M) (q : Int32), f_X1_placeOf_2 x0 n l1 l2 M = some q → ∀ (H : Heap) (locs : List Loc) (ls : Array Slot), va_P D vwCl (mk_wl E M L) H → va_S (mk_A E) s.heap H locs → lv_has ls 3 [(0, .ref (E.1 x0)), (1, .int l1), (2, .int l2)] → W p l e rm_X1_placeOf s m args below meth c H locs 0 0 (MQ below (mk_Qi D E L q M) args s 0 0 (mk_A E)) (F0 m 2 ls []) := by
  obtain ⟨hx, hb, hml, hown, hts, hr, hlk, hK, hD, hN⟩ := id C0
  have ha_x0 := mk_s1 hk_x0
  intro n
  induction n with
  | zero =>
    intro l1 l2 M q h
    cases h
  | succ n ih =>
    intro l1 l2 M q h H locs ls hP hS hl
    replace h : (if (M x0 1) ≤ l2 then (some (-1)) else (if mk_ob l2 12 then none else (if (M (x0+1) (l2).toNatClampNeg) = l1 then (some l2) else (f_X1_placeOf_2 x0 n l1 (l2 + 1) M)))) = some q := h
    refine lv_iload_n hx hb dX1_placeOf_2 rfl (lv_at hl 2 rfl) ?_
    refine lv_aload_n hx hb dX1_placeOf_3 rfl (lv_at hl 0 rfl) ?_
    refine mk_g1_1 hx hb hts in_X1_placeOf_X1 hown hK hP hx_x0 hk_x0 (hts (.fieldLink RX1 15 "MixedKernel$Line" "size" "I") (by decide +kernel)) dX1_placeOf_4 ?_
    refine lv_icmp_ge (tgt := 28) hx hb dX1_placeOf_7 (by decide) (fun c_1 => ?_) (fun c_1 => ?_)
    · replace h := (if_pos c_1).symm.trans h
      refine lv_iconst (v := -1) hx hb dX1_placeOf_28 (by decide) ?_
      replace h := Option.some.inj h
      subst q
      exact W.iret (v := (-1)) hx hb hr (fun t ht hW => ⟨⟨_, (), rfl, rfl, by rw [← ht] at hP; exact hP⟩, hS.F ht⟩) hS.2.2 dX1_placeOf_29
    · replace h := (if_neg c_1).symm.trans h
      refine lv_aload_n hx hb dX1_placeOf_10 rfl (lv_at hl 0 rfl) ?_
      refine mk_g1_0 hx hb hts in_X1_placeOf_X1 hown hK hP hx_x0 hk_x0 (hts (.fieldLink RX1 9 "MixedKernel$Line" "ids" "[I") (by decide +kernel)) dX1_placeOf_11 ?_
      refine lv_iload_n hx hb dX1_placeOf_14 rfl (lv_at hl 2 rfl) ?_
      obtain ⟨i_2, h⟩ := mk_ifn h
      refine mk_ia hx hb hK hP ha_x0.1 ha_x0.2.1 (by rw [ha_x0.2.2]; exact i_2) dX1_placeOf_15 ?_
      refine lv_iload_n hx hb dX1_placeOf_16 rfl (lv_at hl 1 rfl) ?_
      refine lv_icmp_ne (tgt := 22) hx hb dX1_placeOf_17 (by decide) (fun c_3 => ?_) (fun c_3 => ?_)
      · replace h := (if_neg c_3).symm.trans h
        refine lv_iinc (v := l2 + 1) (lv' := [(2, .int (l2 + 1)), (0, .ref (E.1 x0)), (1, .int l1)]) hx hb dX1_placeOf_22 hl (k := 2) rfl rfl (by decide) rfl (fun ls hl => ?_)
        refine lv_goto (tgt := 2) hx hb dX1_placeOf_25 (by decide) ?_
        exact ih l1 (l2 + 1) M _ h _ _ _ hP hS (lv_sub hl [1, 2, 0] rfl)
      · replace h := (if_pos c_3).symm.trans h
        refine lv_iload_n hx hb dX1_placeOf_20 rfl (lv_at hl 2 rfl) ?_
        replace h := Option.some.inj h
        subst q
        exact W.iret (v := l2) hx hb hr (fun t ht hW => ⟨⟨_, (), rfl, rfl, by rw [← ht] at hP; exact hP⟩, hS.F ht⟩) hS.2.2 dX1_placeOf_21
def f_X1_placeOf (x0 : Nat) (a1 : Int32) (M : mk_M) : Option (Int32) := (f_X1_placeOf_2 x0 mk_F a1 0 M)
set_option maxHeartbeats 4000000 in
set_option maxRecDepth 100000 in
theorem c_X1_placeOf (l : Launch) (D : va_G) (E : mk_E) (L : Nat → Int64) (x0 : Nat) (a1 : Int32) (M : mk_M) (hx_x0 : x0 < 94) (hk_x0 : mk_kd x0 = 1) {q : Int32} (h : f_X1_placeOf x0 a1 M = some q) : Met l yX1_placeOf wsX1_placeOf rm_X1_placeOf (va_Pc [.ref (E.1 x0), .int a1] (mk_W D E M L)) (mk_Qi D E L q M) 0 0 (mk_A E) := by
  have ha_x0 := mk_s1 hk_x0
  refine Met.ofW (cc := cX1_placeOf) (maxL := 3) (ret := (some .int)) (by decide) rfl ?_
  intro p e s m args below meth c s₁ B hml hv
  obtain ⟨rfl, hP, hK, hD0, hN⟩ := hv
  have hx := B.exec
  have hb := B.bytes
  have hr := B.returns
  have hts := atoms_spec (ws := wsX1_placeOf) B.pre
  have hown : s.vm.findClass RX1 = some m.cls := findClass_of_methodNamed B.named
  have hlk := B.notSynchronized
  have hD : ∀ (M : mk_M) (L : Nat → Int64), va_D (mk_A E) (mk_wl E M L) := fun _ _ => mk_D hD0
  have C0 : mk_C p s m [.ref (E.1 x0), .int a1].toArray meth c cX1_placeOf 3 wsX1_placeOf RX1 (some .int) D E := ⟨hx, hb, hml, hown, hts, hr, hlk, hK, hD, hN⟩
  have hS : va_S (mk_A E) s.heap s.heap [] := va_S.rf
  have hl := lv_entry ([.ref (E.1 x0), .int a1]) (n := 3) (Nat.le_of_ble_eq_true rfl)
  rw [lg_entry_eq]
  generalize (lg_sl ([.ref (E.1 x0), .int a1]) ++ List.replicate (3 - (lg_sl ([.ref (E.1 x0), .int a1])).length) Slot.unset).toArray = ls at hl ⊢
  have hl : lv_has ls 3 [(0, .ref (E.1 x0)), (1, .int a1)] := hl
  replace h : (f_X1_placeOf_2 x0 mk_F a1 0 M) = some q := h
  refine lv_iconst (v := 0) hx hb dX1_placeOf_0 (by decide) ?_
  refine lv_istore_n (lv' := [(2, .int 0), (0, .ref (E.1 x0)), (1, .int a1)]) hx hb dX1_placeOf_1 rfl hl (by decide) rfl (fun ls hl => ?_)
  exact w_X1_placeOf_2 C0 x0 hx_x0 hk_x0 mk_F a1 0 M _ h _ _ _ hP hS (lv_sub hl [1, 2, 0] rfl)
abbrev rm_X1_moveBack : Room := { frames := 0, cells := 0, slots := 0, locals := 0 }
theorem in_X1_moveBack_X1 : ∀ w ∈ wsX10, w ∈ wsX1_moveBack := by decide +kernel
def f_X1_moveBack_10 (x0 : Nat) : Nat → Int32 → Int32 → Int32 → mk_M → Option (mk_M)
  | 0, _, _, _, _ => none
  | n + 1, l2, l3, l4, M => (if l2 ≤ l4 then (if mk_ob l2 12 then none else (some (mk_st M (x0+1) (l2).toNatClampNeg l3))) else (if mk_ob (l4 + 1) 12 then none else (if mk_ob l4 12 then none else (f_X1_moveBack_10 x0 n l2 l3 (l4 + 1) (mk_st M (x0+1) (l4).toNatClampNeg (M (x0+1) (l4 + 1).toNatClampNeg))))))
set_option maxHeartbeats 4000000 in
set_option maxRecDepth 100000 in
theorem w_X1_moveBack_10 {p : Program} {l : Launch} {e : Env} {s : State} {m : MethodId} {args : Array Value} {below : List Frame} {meth : Method} {c : Code} {D : va_G} {E : mk_E} {L : Nat → Int64} (C0 : mk_C p s m args meth c cX1_moveBack 5 wsX1_moveBack RX1 none D E) (x0 : Nat) (hx_x0 : x0 < 94) (hk_x0 : mk_kd x0 = 1) : ∀ n : Nat, ∀ (l2 : Int32) (l3 : Int32) (l4 : Int32) (M : mk_M) (q : mk_M), f_X1_moveBack_10 x0 n l2 l3 l4 M = some q → ∀ (H : Heap) (locs : List Loc) (ls : Array Slot), va_P D vwCl (mk_wl E M L) H → va_S (mk_A E) s.heap H locs → lv_has ls 5 [(0, .ref (E.1 x0)), (2, .int l2), (3, .int l3), (4, .int l4)] → W p l e rm_X1_moveBack s m args below meth c H locs 0 0 (MQ below (mk_Qv D E L q) args s 0 0 (mk_A E)) (F0 m 10 ls []) := by
  obtain ⟨hx, hb, hml, hown, hts, hr, hlk, hK, hD, hN⟩ := id C0
  have ha_x0 := mk_s1 hk_x0
  intro n
  induction n with
  | zero =>
    intro l2 l3 l4 M q h
    cases h
  | succ n ih =>
    intro l2 l3 l4 M q h H locs ls hP hS hl
    replace h : (if l2 ≤ l4 then (if mk_ob l2 12 then none else (some (mk_st M (x0+1) (l2).toNatClampNeg l3))) else (if mk_ob (l4 + 1) 12 then none else (if mk_ob l4 12 then none else (f_X1_moveBack_10 x0 n l2 l3 (l4 + 1) (mk_st M (x0+1) (l4).toNatClampNeg (M (x0+1) (l4 + 1).toNatClampNeg)))))) = some q := h
    refine lv_iload hx hb dX1_moveBack_10 (lv_at hl 3 rfl) ?_
    refine lv_iload_n hx hb dX1_moveBack_12 rfl (lv_at hl 1 rfl) ?_
    refine lv_icmp_ge (tgt := 38) hx hb dX1_moveBack_13 (by decide) (fun c_2 => ?_) (fun c_2 => ?_)
    · replace h := (if_pos c_2).symm.trans h
      refine lv_aload_n hx hb dX1_moveBack_38 rfl (lv_at hl 0 rfl) ?_
      refine mk_g1_0 hx hb hts in_X1_moveBack_X1 hown hK hP hx_x0 hk_x0 (hts (.fieldLink RX1 9 "MixedKernel$Line" "ids" "[I") (by decide +kernel)) dX1_moveBack_39 ?_
      refine lv_iload_n hx hb dX1_moveBack_42 rfl (lv_at hl 1 rfl) ?_
      refine lv_iload_n hx hb dX1_moveBack_43 rfl (lv_at hl 2 rfl) ?_
      obtain ⟨i_3, h⟩ := mk_ifn h
      refine mk_is hx hb hK hP (hD _ _) hS ha_x0.1 ha_x0.2.1 (by rw [ha_x0.2.2]; exact i_3) dX1_moveBack_44 (fun H locs hP hS => ?_)
      replace h := Option.some.inj h
      subst q
      exact W.vret hx hb hr (fun t ht hW => ⟨⟨(), rfl, trivial, by rw [← ht] at hP; exact hP⟩, hS.F ht⟩) hS.2.2 dX1_moveBack_45
    · replace h := (if_neg c_2).symm.trans h
      refine lv_aload_n hx hb dX1_moveBack_16 rfl (lv_at hl 0 rfl) ?_
      refine mk_g1_0 hx hb hts in_X1_moveBack_X1 hown hK hP hx_x0 hk_x0 (hts (.fieldLink RX1 9 "MixedKernel$Line" "ids" "[I") (by decide +kernel)) dX1_moveBack_17 ?_
      refine lv_iload hx hb dX1_moveBack_20 (lv_at hl 3 rfl) ?_
      refine lv_aload_n hx hb dX1_moveBack_22 rfl (lv_at hl 0 rfl) ?_
      refine mk_g1_0 hx hb hts in_X1_moveBack_X1 hown hK hP hx_x0 hk_x0 (hts (.fieldLink RX1 9 "MixedKernel$Line" "ids" "[I") (by decide +kernel)) dX1_moveBack_23 ?_
      refine lv_iload hx hb dX1_moveBack_26 (lv_at hl 3 rfl) ?_
      refine lv_iconst (v := 1) hx hb dX1_moveBack_28 (by decide) ?_
      refine lv_iadd hx hb dX1_moveBack_29 ?_
      obtain ⟨i_4, h⟩ := mk_ifn h
      refine mk_ia hx hb hK hP ha_x0.1 ha_x0.2.1 (by rw [ha_x0.2.2]; exact i_4) dX1_moveBack_30 ?_
      obtain ⟨i_5, h⟩ := mk_ifn h
      refine mk_is hx hb hK hP (hD _ _) hS ha_x0.1 ha_x0.2.1 (by rw [ha_x0.2.2]; exact i_5) dX1_moveBack_31 (fun H locs hP hS => ?_)
      refine lv_iinc (v := l4 + 1) (lv' := [(4, .int (l4 + 1)), (0, .ref (E.1 x0)), (2, .int l2), (3, .int l3)]) hx hb dX1_moveBack_32 hl (k := 3) rfl rfl (by decide) rfl (fun ls hl => ?_)
      refine lv_goto (tgt := 10) hx hb dX1_moveBack_35 (by decide) ?_
      exact ih l2 l3 (l4 + 1) (mk_st M (x0+1) (l4).toNatClampNeg (M (x0+1) (l4 + 1).toNatClampNeg)) _ h _ _ _ hP hS (lv_sub hl [1, 2, 3, 0] rfl)
def f_X1_moveBack (x0 : Nat) (a1 : Int32) (a2 : Int32) (M : mk_M) : Option (mk_M) := (if mk_ob a1 12 then none else (f_X1_moveBack_10 x0 mk_F a2 (M (x0+1) (a1).toNatClampNeg) a1 M))
set_option maxHeartbeats 4000000 in
set_option maxRecDepth 100000 in
theorem c_X1_moveBack (l : Launch) (D : va_G) (E : mk_E) (L : Nat → Int64) (x0 : Nat) (a1 : Int32) (a2 : Int32) (M : mk_M) (hx_x0 : x0 < 94) (hk_x0 : mk_kd x0 = 1) {q : mk_M} (h : f_X1_moveBack x0 a1 a2 M = some q) : Met l yX1_moveBack wsX1_moveBack rm_X1_moveBack (va_Pc [.ref (E.1 x0), .int a1, .int a2] (mk_W D E M L)) (mk_Qv D E L q) 0 0 (mk_A E) := by
  have ha_x0 := mk_s1 hk_x0
  refine Met.ofW (cc := cX1_moveBack) (maxL := 5) (ret := none) (by decide) rfl ?_
  intro p e s m args below meth c s₁ B hml hv
  obtain ⟨rfl, hP, hK, hD0, hN⟩ := hv
  have hx := B.exec
  have hb := B.bytes
  have hr := B.returns
  have hts := atoms_spec (ws := wsX1_moveBack) B.pre
  have hown : s.vm.findClass RX1 = some m.cls := findClass_of_methodNamed B.named
  have hlk := B.notSynchronized
  have hD : ∀ (M : mk_M) (L : Nat → Int64), va_D (mk_A E) (mk_wl E M L) := fun _ _ => mk_D hD0
  have C0 : mk_C p s m [.ref (E.1 x0), .int a1, .int a2].toArray meth c cX1_moveBack 5 wsX1_moveBack RX1 none D E := ⟨hx, hb, hml, hown, hts, hr, hlk, hK, hD, hN⟩
  have hS : va_S (mk_A E) s.heap s.heap [] := va_S.rf
  have hl := lv_entry ([.ref (E.1 x0), .int a1, .int a2]) (n := 5) (Nat.le_of_ble_eq_true rfl)
  rw [lg_entry_eq]
  generalize (lg_sl ([.ref (E.1 x0), .int a1, .int a2]) ++ List.replicate (5 - (lg_sl ([.ref (E.1 x0), .int a1, .int a2])).length) Slot.unset).toArray = ls at hl ⊢
  have hl : lv_has ls 5 [(0, .ref (E.1 x0)), (1, .int a1), (2, .int a2)] := hl
  replace h : (if mk_ob a1 12 then none else (f_X1_moveBack_10 x0 mk_F a2 (M (x0+1) (a1).toNatClampNeg) a1 M)) = some q := h
  refine lv_aload_n hx hb dX1_moveBack_0 rfl (lv_at hl 0 rfl) ?_
  refine mk_g1_0 hx hb hts in_X1_moveBack_X1 hown hK hP hx_x0 hk_x0 (hts (.fieldLink RX1 9 "MixedKernel$Line" "ids" "[I") (by decide +kernel)) dX1_moveBack_1 ?_
  refine lv_iload_n hx hb dX1_moveBack_4 rfl (lv_at hl 1 rfl) ?_
  obtain ⟨i_1, h⟩ := mk_ifn h
  refine mk_ia hx hb hK hP ha_x0.1 ha_x0.2.1 (by rw [ha_x0.2.2]; exact i_1) dX1_moveBack_5 ?_
  refine lv_istore_n (lv' := [(3, .int (M (x0+1) (a1).toNatClampNeg)), (0, .ref (E.1 x0)), (1, .int a1), (2, .int a2)]) hx hb dX1_moveBack_6 rfl hl (by decide) rfl (fun ls hl => ?_)
  refine lv_iload_n hx hb dX1_moveBack_7 rfl (lv_at hl 2 rfl) ?_
  refine lv_istore (lv' := [(4, .int a1), (3, .int (M (x0+1) (a1).toNatClampNeg)), (0, .ref (E.1 x0)), (1, .int a1), (2, .int a2)]) hx hb dX1_moveBack_8 hl (by decide) rfl (fun ls hl => ?_)
  exact w_X1_moveBack_10 C0 x0 hx_x0 hk_x0 mk_F a2 (M (x0+1) (a1).toNatClampNeg) a1 M _ h _ _ _ hP hS (lv_sub hl [2, 4, 1, 0] rfl)
abbrev rm_X1_drop : Room := { frames := 1, cells := 0, slots := 0, locals := 24 }
theorem in_X1_drop_X1 : ∀ w ∈ wsX10, w ∈ wsX1_drop := by decide +kernel
def f_X1_drop (x0 : Nat) (a1 : Int32) (M : mk_M) : Option (mk_M) := ((f_X1_placeOf x0 a1 M).bind (fun r_2 => (if r_2 = (-1) then (some M) else ((f_X1_moveBack x0 r_2 ((M x0 1) - 1) M).bind (fun r_5 => (some (mk_st r_5 x0 1 ((r_5 x0 1) - 1))))))))
set_option maxHeartbeats 4000000 in
set_option maxRecDepth 100000 in
theorem c_X1_drop (l : Launch) (D : va_G) (E : mk_E) (L : Nat → Int64) (x0 : Nat) (a1 : Int32) (M : mk_M) (hx_x0 : x0 < 94) (hk_x0 : mk_kd x0 = 1) {q : mk_M} (h : f_X1_drop x0 a1 M = some q) : Met l yX1_drop wsX1_drop rm_X1_drop (va_Pc [.ref (E.1 x0), .int a1] (mk_W D E M L)) (mk_Qv D E L q) 0 0 (mk_A E) := by
  have ha_x0 := mk_s1 hk_x0
  refine Met.ofW (cc := cX1_drop) (maxL := 3) (ret := none) (by decide) rfl ?_
  intro p e s m args below meth c s₁ B hml hv
  obtain ⟨rfl, hP, hK, hD0, hN⟩ := hv
  have hx := B.exec
  have hb := B.bytes
  have hr := B.returns
  have hts := atoms_spec (ws := wsX1_drop) B.pre
  have hown : s.vm.findClass RX1 = some m.cls := findClass_of_methodNamed B.named
  have hlk := B.notSynchronized
  have hD : ∀ (M : mk_M) (L : Nat → Int64), va_D (mk_A E) (mk_wl E M L) := fun _ _ => mk_D hD0
  have C0 : mk_C p s m [.ref (E.1 x0), .int a1].toArray meth c cX1_drop 3 wsX1_drop RX1 none D E := ⟨hx, hb, hml, hown, hts, hr, hlk, hK, hD, hN⟩
  have hS : va_S (mk_A E) s.heap s.heap [] := va_S.rf
  have hl := lv_entry ([.ref (E.1 x0), .int a1]) (n := 3) (Nat.le_of_ble_eq_true rfl)
  rw [lg_entry_eq]
  generalize (lg_sl ([.ref (E.1 x0), .int a1]) ++ List.replicate (3 - (lg_sl ([.ref (E.1 x0), .int a1])).length) Slot.unset).toArray = ls at hl ⊢
  have hl : lv_has ls 3 [(0, .ref (E.1 x0)), (1, .int a1)] := hl
  replace h : ((f_X1_placeOf x0 a1 M).bind (fun r_2 => (if r_2 = (-1) then (some M) else ((f_X1_moveBack x0 r_2 ((M x0 1) - 1) M).bind (fun r_5 => (some (mk_st r_5 x0 1 ((r_5 x0 1) - 1)))))))) = some q := h
  refine lv_aload_n hx hb dX1_drop_0 rfl (lv_at hl 0 rfl) ?_
  refine lv_iload_n hx hb dX1_drop_1 rfl (lv_at hl 1 rfl) ?_
  obtain ⟨r_2, e_1, h⟩ := mk_bind h
  refine va_calli (va_runV (As := [.int a1]) (rest := []) ⟨hx, hb, hml, hown, hts⟩ (c_X1_placeOf l D E L x0 a1 M hx_x0 hk_x0 e_1) (cwV 1 hts gX1_drop_X1_placeOf rfl rfl rfl (by decide +kernel) ⟨Nat.le_of_ble_eq_true rfl, Nat.le_of_ble_eq_true rfl⟩) ⟨mk_W.blind, mk_rc1 hK hP hx_x0 hk_x0, fun U hU hW => ⟨rfl, mk_W.at hU hW hP hK (hD _ _) hN⟩⟩ rfl rfl hl.1 rfl (lv_room (Nat.le_of_ble_eq_true rfl)) dX1_drop_2 ⟨Nat.zero_le _, Nat.zero_le _⟩) hS (fun q _ h => h) (fun q h => h) (fun v_6 u t H1 locs ht hvm hw hB hz1 hk1 hS => ?_)
  subst v_6
  rw [ht] at hB
  replace hP := hB
  clear hB hz1 hk1 hvm ht
  generalize H1 = H at hP hS ⊢
  refine lv_istore_n (lv' := [(2, .int r_2), (0, .ref (E.1 x0)), (1, .int a1)]) hx hb dX1_drop_5 rfl hl (by decide) rfl (fun ls hl => ?_)
  refine lv_iload_n hx hb dX1_drop_6 rfl (lv_at hl 0 rfl) ?_
  refine lv_iconst (v := -1) hx hb dX1_drop_7 (by decide) ?_
  refine lv_icmp_ne (tgt := 12) hx hb dX1_drop_8 (by decide) (fun c_3 => ?_) (fun c_3 => ?_)
  · replace h := (if_neg c_3).symm.trans h
    refine lv_aload_n hx hb dX1_drop_12 rfl (lv_at hl 1 rfl) ?_
    refine lv_iload_n hx hb dX1_drop_13 rfl (lv_at hl 0 rfl) ?_
    refine lv_aload_n hx hb dX1_drop_14 rfl (lv_at hl 1 rfl) ?_
    refine mk_g1_1 hx hb hts in_X1_drop_X1 hown hK hP hx_x0 hk_x0 (hts (.fieldLink RX1 15 "MixedKernel$Line" "size" "I") (by decide +kernel)) dX1_drop_15 ?_
    refine lv_iconst (v := 1) hx hb dX1_drop_18 (by decide) ?_
    refine lv_isub hx hb dX1_drop_19 ?_
    obtain ⟨r_5, e_4, h⟩ := mk_bind h
    refine va_callv (va_runV (As := [.int r_2, .int ((M x0 1) - 1)]) (rest := []) ⟨hx, hb, hml, hown, hts⟩ (c_X1_moveBack l D E L x0 r_2 ((M x0 1) - 1) M hx_x0 hk_x0 e_4) (cwV 2 hts gX1_drop_X1_moveBack rfl rfl rfl (by decide +kernel) ⟨Nat.le_of_ble_eq_true rfl, Nat.le_of_ble_eq_true rfl⟩) ⟨mk_W.blind, mk_rc1 hK hP hx_x0 hk_x0, fun U hU hW => ⟨rfl, mk_W.at hU hW hP hK (hD _ _) hN⟩⟩ rfl rfl hl.1 rfl (lv_room (Nat.le_of_ble_eq_true rfl)) dX1_drop_20 ⟨Nat.zero_le _, Nat.zero_le _⟩) hS (fun q _ h => h) (fun q h => h) (fun u t H1 locs ht hvm hw hB hz1 hk1 hS => ?_)
    rw [ht] at hB
    replace hP := hB
    clear hB hz1 hk1 hvm ht
    generalize H1 = H at hP hS ⊢
    refine lv_aload_n hx hb dX1_drop_23 rfl (lv_at hl 1 rfl) ?_
    refine lv_dup hx hb dX1_drop_24 rfl ?_
    refine mk_g1_1 hx hb hts in_X1_drop_X1 hown hK hP hx_x0 hk_x0 (hts (.fieldLink RX1 15 "MixedKernel$Line" "size" "I") (by decide +kernel)) dX1_drop_25 ?_
    refine lv_iconst (v := 1) hx hb dX1_drop_28 (by decide) ?_
    refine lv_isub hx hb dX1_drop_29 ?_
    refine mk_p1_1 hx hb hts in_X1_drop_X1 hown hK hP hx_x0 hk_x0 (hD _ _) hS (hts (.fieldLink RX1 15 "MixedKernel$Line" "size" "I") (by decide +kernel)) dX1_drop_30 (fun H locs hP hS => ?_)
    replace h := Option.some.inj h
    subst q
    exact W.vret hx hb hr (fun t ht hW => ⟨⟨(), rfl, trivial, by rw [← ht] at hP; exact hP⟩, hS.F ht⟩) hS.2.2 dX1_drop_33
  · replace h := (if_pos c_3).symm.trans h
    replace h := Option.some.inj h
    subst q
    exact W.vret hx hb hr (fun t ht hW => ⟨⟨(), rfl, trivial, by rw [← ht] at hP; exact hP⟩, hS.F ht⟩) hS.2.2 dX1_drop_11
abbrev rm_X1_insert : Room := { frames := 0, cells := 0, slots := 0, locals := 0 }
theorem in_X1_insert_X1 : ∀ w ∈ wsX10, w ∈ wsX1_insert := by decide +kernel
def f_X1_insert_27 (x0 : Nat) : Nat → Int32 → Int32 → Int32 → mk_M → Option (mk_M)
  | 0, _, _, _, _ => none
  | n + 1, l1, l2, l3, M => (if l3 ≤ l1 then (if mk_ob l1 12 then none else (some (mk_st (mk_st M (x0+1) (l1).toNatClampNeg l2) x0 1 (((mk_st M (x0+1) (l1).toNatClampNeg l2) x0 1) + 1)))) else (if mk_ob (l3 - 1) 12 then none else (if mk_ob l3 12 then none else (f_X1_insert_27 x0 n l1 l2 (l3 + (-1)) (mk_st M (x0+1) (l3).toNatClampNeg (M (x0+1) (l3 - 1).toNatClampNeg))))))
set_option maxHeartbeats 4000000 in
set_option maxRecDepth 100000 in
theorem w_X1_insert_27 {p : Program} {l : Launch} {e : Env} {s : State} {m : MethodId} {args : Array Value} {below : List Frame} {meth : Method} {c : Code} {D : va_G} {E : mk_E} {L : Nat → Int64} (C0 : mk_C p s m args meth c cX1_insert 4 wsX1_insert RX1 none D E) (x0 : Nat) (hx_x0 : x0 < 94) (hk_x0 : mk_kd x0 = 1) : ∀ n : Nat, ∀ (l1 : Int32) (l2 : Int32) (l3 : Int32) (M : mk_M) (q : mk_M), f_X1_insert_27 x0 n l1 l2 l3 M = some q → ∀ (H : Heap) (locs : List Loc) (ls : Array Slot), va_P D vwCl (mk_wl E M L) H → va_S (mk_A E) s.heap H locs → lv_has ls 4 [(0, .ref (E.1 x0)), (1, .int l1), (2, .int l2), (3, .int l3)] → W p l e rm_X1_insert s m args below meth c H locs 0 0 (MQ below (mk_Qv D E L q) args s 0 0 (mk_A E)) (F0 m 27 ls []) := by
  obtain ⟨hx, hb, hml, hown, hts, hr, hlk, hK, hD, hN⟩ := id C0
  have ha_x0 := mk_s1 hk_x0
  intro n
  induction n with
  | zero =>
    intro l1 l2 l3 M q h
    cases h
  | succ n ih =>
    intro l1 l2 l3 M q h H locs ls hP hS hl
    replace h : (if l3 ≤ l1 then (if mk_ob l1 12 then none else (some (mk_st (mk_st M (x0+1) (l1).toNatClampNeg l2) x0 1 (((mk_st M (x0+1) (l1).toNatClampNeg l2) x0 1) + 1)))) else (if mk_ob (l3 - 1) 12 then none else (if mk_ob l3 12 then none else (f_X1_insert_27 x0 n l1 l2 (l3 + (-1)) (mk_st M (x0+1) (l3).toNatClampNeg (M (x0+1) (l3 - 1).toNatClampNeg)))))) = some q := h
    refine lv_iload_n hx hb dX1_insert_27 rfl (lv_at hl 3 rfl) ?_
    refine lv_iload_n hx hb dX1_insert_28 rfl (lv_at hl 1 rfl) ?_
    refine lv_icmp_le (tgt := 52) hx hb dX1_insert_29 (by decide) (fun c_4 => ?_) (fun c_4 => ?_)
    · replace h := (if_pos c_4).symm.trans h
      refine lv_aload_n hx hb dX1_insert_52 rfl (lv_at hl 0 rfl) ?_
      refine mk_g1_0 hx hb hts in_X1_insert_X1 hown hK hP hx_x0 hk_x0 (hts (.fieldLink RX1 9 "MixedKernel$Line" "ids" "[I") (by decide +kernel)) dX1_insert_53 ?_
      refine lv_iload_n hx hb dX1_insert_56 rfl (lv_at hl 1 rfl) ?_
      refine lv_iload_n hx hb dX1_insert_57 rfl (lv_at hl 2 rfl) ?_
      obtain ⟨i_5, h⟩ := mk_ifn h
      refine mk_is hx hb hK hP (hD _ _) hS ha_x0.1 ha_x0.2.1 (by rw [ha_x0.2.2]; exact i_5) dX1_insert_58 (fun H locs hP hS => ?_)
      refine lv_aload_n hx hb dX1_insert_59 rfl (lv_at hl 0 rfl) ?_
      refine lv_dup hx hb dX1_insert_60 rfl ?_
      refine mk_g1_1 hx hb hts in_X1_insert_X1 hown hK hP hx_x0 hk_x0 (hts (.fieldLink RX1 15 "MixedKernel$Line" "size" "I") (by decide +kernel)) dX1_insert_61 ?_
      refine lv_iconst (v := 1) hx hb dX1_insert_64 (by decide) ?_
      refine lv_iadd hx hb dX1_insert_65 ?_
      refine mk_p1_1 hx hb hts in_X1_insert_X1 hown hK hP hx_x0 hk_x0 (hD _ _) hS (hts (.fieldLink RX1 15 "MixedKernel$Line" "size" "I") (by decide +kernel)) dX1_insert_66 (fun H locs hP hS => ?_)
      replace h := Option.some.inj h
      subst q
      exact W.vret hx hb hr (fun t ht hW => ⟨⟨(), rfl, trivial, by rw [← ht] at hP; exact hP⟩, hS.F ht⟩) hS.2.2 dX1_insert_69
    · replace h := (if_neg c_4).symm.trans h
      refine lv_aload_n hx hb dX1_insert_32 rfl (lv_at hl 0 rfl) ?_
      refine mk_g1_0 hx hb hts in_X1_insert_X1 hown hK hP hx_x0 hk_x0 (hts (.fieldLink RX1 9 "MixedKernel$Line" "ids" "[I") (by decide +kernel)) dX1_insert_33 ?_
      refine lv_iload_n hx hb dX1_insert_36 rfl (lv_at hl 3 rfl) ?_
      refine lv_aload_n hx hb dX1_insert_37 rfl (lv_at hl 0 rfl) ?_
      refine mk_g1_0 hx hb hts in_X1_insert_X1 hown hK hP hx_x0 hk_x0 (hts (.fieldLink RX1 9 "MixedKernel$Line" "ids" "[I") (by decide +kernel)) dX1_insert_38 ?_
      refine lv_iload_n hx hb dX1_insert_41 rfl (lv_at hl 3 rfl) ?_
      refine lv_iconst (v := 1) hx hb dX1_insert_42 (by decide) ?_
      refine lv_isub hx hb dX1_insert_43 ?_
      obtain ⟨i_6, h⟩ := mk_ifn h
      refine mk_ia hx hb hK hP ha_x0.1 ha_x0.2.1 (by rw [ha_x0.2.2]; exact i_6) dX1_insert_44 ?_
      obtain ⟨i_7, h⟩ := mk_ifn h
      refine mk_is hx hb hK hP (hD _ _) hS ha_x0.1 ha_x0.2.1 (by rw [ha_x0.2.2]; exact i_7) dX1_insert_45 (fun H locs hP hS => ?_)
      refine lv_iinc (v := l3 + (-1)) (lv' := [(3, .int (l3 + (-1))), (0, .ref (E.1 x0)), (1, .int l1), (2, .int l2)]) hx hb dX1_insert_46 hl (k := 3) rfl rfl (by decide) rfl (fun ls hl => ?_)
      refine lv_goto (tgt := 27) hx hb dX1_insert_49 (by decide) ?_
      exact ih l1 l2 (l3 + (-1)) (mk_st M (x0+1) (l3).toNatClampNeg (M (x0+1) (l3 - 1).toNatClampNeg)) _ h _ _ _ hP hS (lv_sub hl [1, 2, 3, 0] rfl)
def f_X1_insert (x0 : Nat) (a1 : Int32) (a2 : Int32) (M : mk_M) : Option (mk_M) := (if 12 ≤ (M x0 1) then (some M) else (if a1 < 0 then (some M) else (if a1 ≤ (M x0 1) then (f_X1_insert_27 x0 mk_F a1 a2 (M x0 1) M) else (some M))))
set_option maxHeartbeats 4000000 in
set_option maxRecDepth 100000 in
theorem c_X1_insert (l : Launch) (D : va_G) (E : mk_E) (L : Nat → Int64) (x0 : Nat) (a1 : Int32) (a2 : Int32) (M : mk_M) (hx_x0 : x0 < 94) (hk_x0 : mk_kd x0 = 1) {q : mk_M} (h : f_X1_insert x0 a1 a2 M = some q) : Met l yX1_insert wsX1_insert rm_X1_insert (va_Pc [.ref (E.1 x0), .int a1, .int a2] (mk_W D E M L)) (mk_Qv D E L q) 0 0 (mk_A E) := by
  have ha_x0 := mk_s1 hk_x0
  refine Met.ofW (cc := cX1_insert) (maxL := 4) (ret := none) (by decide) rfl ?_
  intro p e s m args below meth c s₁ B hml hv
  obtain ⟨rfl, hP, hK, hD0, hN⟩ := hv
  have hx := B.exec
  have hb := B.bytes
  have hr := B.returns
  have hts := atoms_spec (ws := wsX1_insert) B.pre
  have hown : s.vm.findClass RX1 = some m.cls := findClass_of_methodNamed B.named
  have hlk := B.notSynchronized
  have hD : ∀ (M : mk_M) (L : Nat → Int64), va_D (mk_A E) (mk_wl E M L) := fun _ _ => mk_D hD0
  have C0 : mk_C p s m [.ref (E.1 x0), .int a1, .int a2].toArray meth c cX1_insert 4 wsX1_insert RX1 none D E := ⟨hx, hb, hml, hown, hts, hr, hlk, hK, hD, hN⟩
  have hS : va_S (mk_A E) s.heap s.heap [] := va_S.rf
  have hl := lv_entry ([.ref (E.1 x0), .int a1, .int a2]) (n := 4) (Nat.le_of_ble_eq_true rfl)
  rw [lg_entry_eq]
  generalize (lg_sl ([.ref (E.1 x0), .int a1, .int a2]) ++ List.replicate (4 - (lg_sl ([.ref (E.1 x0), .int a1, .int a2])).length) Slot.unset).toArray = ls at hl ⊢
  have hl : lv_has ls 4 [(0, .ref (E.1 x0)), (1, .int a1), (2, .int a2)] := hl
  replace h : (if 12 ≤ (M x0 1) then (some M) else (if a1 < 0 then (some M) else (if a1 ≤ (M x0 1) then (f_X1_insert_27 x0 mk_F a1 a2 (M x0 1) M) else (some M)))) = some q := h
  refine lv_aload_n hx hb dX1_insert_0 rfl (lv_at hl 0 rfl) ?_
  refine mk_g1_1 hx hb hts in_X1_insert_X1 hown hK hP hx_x0 hk_x0 (hts (.fieldLink RX1 15 "MixedKernel$Line" "size" "I") (by decide +kernel)) dX1_insert_1 ?_
  refine lv_bipush (v := 12) hx hb dX1_insert_4 (by decide) ?_
  refine lv_icmp_ge (tgt := 21) hx hb dX1_insert_6 (by decide) (fun c_1 => ?_) (fun c_1 => ?_)
  · replace h := (if_pos c_1).symm.trans h
    replace h := Option.some.inj h
    subst q
    exact W.vret hx hb hr (fun t ht hW => ⟨⟨(), rfl, trivial, by rw [← ht] at hP; exact hP⟩, hS.F ht⟩) hS.2.2 dX1_insert_21
  · replace h := (if_neg c_1).symm.trans h
    refine lv_iload_n hx hb dX1_insert_9 rfl (lv_at hl 1 rfl) ?_
    refine lv_if_lt (tgt := 21) hx hb dX1_insert_10 (by decide) (fun c_2 => ?_) (fun c_2 => ?_)
    · replace h := (if_pos c_2).symm.trans h
      replace h := Option.some.inj h
      subst q
      exact W.vret hx hb hr (fun t ht hW => ⟨⟨(), rfl, trivial, by rw [← ht] at hP; exact hP⟩, hS.F ht⟩) hS.2.2 dX1_insert_21
    · replace h := (if_neg c_2).symm.trans h
      refine lv_iload_n hx hb dX1_insert_13 rfl (lv_at hl 1 rfl) ?_
      refine lv_aload_n hx hb dX1_insert_14 rfl (lv_at hl 0 rfl) ?_
      refine mk_g1_1 hx hb hts in_X1_insert_X1 hown hK hP hx_x0 hk_x0 (hts (.fieldLink RX1 15 "MixedKernel$Line" "size" "I") (by decide +kernel)) dX1_insert_15 ?_
      refine lv_icmp_le (tgt := 22) hx hb dX1_insert_18 (by decide) (fun c_3 => ?_) (fun c_3 => ?_)
      · replace h := (if_pos c_3).symm.trans h
        refine lv_aload_n hx hb dX1_insert_22 rfl (lv_at hl 0 rfl) ?_
        refine mk_g1_1 hx hb hts in_X1_insert_X1 hown hK hP hx_x0 hk_x0 (hts (.fieldLink RX1 15 "MixedKernel$Line" "size" "I") (by decide +kernel)) dX1_insert_23 ?_
        refine lv_istore_n (lv' := [(3, .int (M x0 1)), (0, .ref (E.1 x0)), (1, .int a1), (2, .int a2)]) hx hb dX1_insert_26 rfl hl (by decide) rfl (fun ls hl => ?_)
        exact w_X1_insert_27 C0 x0 hx_x0 hk_x0 mk_F a1 a2 (M x0 1) M _ h _ _ _ hP hS (lv_sub hl [1, 2, 3, 0] rfl)
      · replace h := (if_neg c_3).symm.trans h
        replace h := Option.some.inj h
        subst q
        exact W.vret hx hb hr (fun t ht hW => ⟨⟨(), rfl, trivial, by rw [← ht] at hP; exact hP⟩, hS.F ht⟩) hS.2.2 dX1_insert_21
