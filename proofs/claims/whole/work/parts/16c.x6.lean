abbrev rm_X6_remove : Room := { frames := 4, cells := 0, slots := 0, locals := 89 }
theorem in_X6_remove_X6 : ∀ w ∈ wsX60, w ∈ wsX6_remove := by decide +kernel
def f_X6_remove_28 (l1 : Int32) (s0 : Int32) (s1 : Int32) (M : mk_M) : Option (Int32 × mk_M) := ((f_X6_goes s1 s0 1 M).bind (fun r_7 => (if r_7.1 = 0 then (some (0, r_7.2)) else (if mk_ob l1 13 then none else ((f_X6_leave l1 (mk_st r_7.2 70 (l1).toNatClampNeg (vp_nar .boolean 1))).bind (fun r_11 => (if mk_ob l1 13 then none else (if (r_11 69 (l1).toNatClampNeg) = 0 then (some (1, r_11)) else (some (0, r_11))))))))))
set_option maxHeartbeats 4000000 in
set_option maxRecDepth 100000 in
theorem w_X6_remove_28 {p : Program} {l : Launch} {e : Env} {s : State} {m : MethodId} {args : Array Value} {below : List Frame} {meth : Method} {c : Code} {D : va_G} {E : mk_E} {L : Nat → Int64} (C0 : mk_C p s m args meth c cX6_remove 2 wsX6_remove RX6 (some .boolean) D E) : ∀ (l1 : Int32) (s0 : Int32) (s1 : Int32) (M : mk_M) (q : Int32 × mk_M), f_X6_remove_28 l1 s0 s1 M = some q → ∀ (H : Heap) (locs : List Loc) (ls : Array Slot), va_P D vwCl (mk_wl E M L) H → va_S (mk_A E) s.heap H locs → lv_has ls 2 [(0, .ref (E.1 68)), (1, .int l1)] → W p l e rm_X6_remove s m args below meth c H locs 0 0 (MQ below (mk_Qi D E L q.1 q.2) args s 0 0 (mk_A E)) (F0 m 28 ls [.int s0, .int s1, .ref (E.1 68)]) := by
  obtain ⟨hx, hb, hml, hown, hts, hr, hlk, hK, hD, hN⟩ := id C0
  intro l1 s0 s1 M q h H locs ls hP hS hl
  replace h : ((f_X6_goes s1 s0 1 M).bind (fun r_7 => (if r_7.1 = 0 then (some (0, r_7.2)) else (if mk_ob l1 13 then none else ((f_X6_leave l1 (mk_st r_7.2 70 (l1).toNatClampNeg (vp_nar .boolean 1))).bind (fun r_11 => (if mk_ob l1 13 then none else (if (r_11 69 (l1).toNatClampNeg) = 0 then (some (1, r_11)) else (some (0, r_11)))))))))) = some q := h
  refine lv_iconst (v := 1) hx hb dX6_remove_28 (by decide) ?_
  obtain ⟨r_7, e_6, h⟩ := mk_bind h
  refine va_calli (va_runV (As := [.int s1, .int s0, .int 1]) (rest := []) ⟨hx, hb, hml, hown, hts⟩ (c_X6_goes l D E L s1 s0 1 M  e_6) (cwV 3 hts gX6_remove_X6_goes rfl rfl rfl (by decide +kernel) ⟨Nat.le_of_ble_eq_true rfl, Nat.le_of_ble_eq_true rfl⟩) ⟨mk_W.blind, mk_rc6 hK hP (by decide) rfl, fun U hU hW => ⟨rfl, mk_W.at hU hW hP hK (hD _ _) hN⟩⟩ rfl rfl hl.1 rfl (lv_room (Nat.le_of_ble_eq_true rfl)) dX6_remove_29 ⟨Nat.zero_le _, Nat.zero_le _⟩) hS (fun q _ h => h) (fun q h => h) (fun v_14 u t H1 locs ht hvm hw hB hz1 hk1 hS => ?_)
  subst v_14
  rw [ht] at hB
  replace hP := hB
  clear hB hz1 hk1 hvm ht
  generalize H1 = H at hP hS ⊢
  refine lv_if_ne (tgt := 37) hx hb dX6_remove_32 (by decide) (fun c_8 => ?_) (fun c_8 => ?_)
  · replace h := (if_neg c_8).symm.trans h
    refine lv_aload_n hx hb dX6_remove_37 rfl (lv_at hl 0 rfl) ?_
    refine mk_g6_2 hx hb hts in_X6_remove_X6 hown hK hP (by decide) rfl (hts (.fieldLink RX6 13 "MixedKernelModel" "leaving" "[Z") (by decide +kernel)) dX6_remove_38 ?_
    refine lv_iload_n hx hb dX6_remove_41 rfl (lv_at hl 1 rfl) ?_
    refine lv_iconst (v := 1) hx hb dX6_remove_42 (by decide) ?_
    obtain ⟨i_9, h⟩ := mk_ifn h
    refine mk_zs hx hb hK hP (hD _ _) hS (by decide) rfl i_9 dX6_remove_43 (fun H locs hP hS => ?_)
    refine lv_aload_n hx hb dX6_remove_44 rfl (lv_at hl 0 rfl) ?_
    refine lv_iload_n hx hb dX6_remove_45 rfl (lv_at hl 1 rfl) ?_
    obtain ⟨r_11, e_10, h⟩ := mk_bind h
    refine va_callv (va_runV (As := [.int l1]) (rest := []) ⟨hx, hb, hml, hown, hts⟩ (c_X6_leave l D E L l1 (mk_st r_7.2 70 (l1).toNatClampNeg (vp_nar .boolean 1))  e_10) (cwV 1 hts gX6_remove_X6_leave rfl rfl rfl (by decide +kernel) ⟨Nat.le_of_ble_eq_true rfl, Nat.le_of_ble_eq_true rfl⟩) ⟨mk_W.blind, mk_rc6 hK hP (by decide) rfl, fun U hU hW => ⟨rfl, mk_W.at hU hW hP hK (hD _ _) hN⟩⟩ rfl rfl hl.1 rfl (lv_room (Nat.le_of_ble_eq_true rfl)) dX6_remove_46 ⟨Nat.zero_le _, Nat.zero_le _⟩) hS (fun q _ h => h) (fun q h => h) (fun u t H1 locs ht hvm hw hB hz1 hk1 hS => ?_)
    rw [ht] at hB
    replace hP := hB
    clear hB hz1 hk1 hvm ht
    generalize H1 = H at hP hS ⊢
    refine lv_aload_n hx hb dX6_remove_49 rfl (lv_at hl 0 rfl) ?_
    refine mk_g6_1 hx hb hts in_X6_remove_X6 hown hK hP (by decide) rfl (hts (.fieldLink RX6 7 "MixedKernelModel" "known" "[Z") (by decide +kernel)) dX6_remove_50 ?_
    refine lv_iload_n hx hb dX6_remove_53 rfl (lv_at hl 1 rfl) ?_
    obtain ⟨i_12, h⟩ := mk_ifn h
    refine mk_za hx hb hK hP (by decide) rfl i_12 dX6_remove_54 ?_
    refine lv_if_ne (tgt := 62) hx hb dX6_remove_55 (by decide) (fun c_13 => ?_) (fun c_13 => ?_)
    · replace h := (if_neg c_13).symm.trans h
      refine lv_iconst (v := 0) hx hb dX6_remove_62 (by decide) ?_
      replace h := Option.some.inj h
      subst q
      exact W.zret (v := 0) hx hb hr rfl (fun t ht hW => ⟨⟨_, (), rfl, rfl, by rw [← ht] at hP; exact hP⟩, hS.F ht⟩) hS.2.2 dX6_remove_63
    · replace h := (if_pos c_13).symm.trans h
      refine lv_iconst (v := 1) hx hb dX6_remove_58 (by decide) ?_
      refine lv_goto (tgt := 63) hx hb dX6_remove_59 (by decide) ?_
      replace h := Option.some.inj h
      subst q
      exact W.zret (v := 1) hx hb hr rfl (fun t ht hW => ⟨⟨_, (), rfl, rfl, by rw [← ht] at hP; exact hP⟩, hS.F ht⟩) hS.2.2 dX6_remove_63
  · replace h := (if_pos c_8).symm.trans h
    refine lv_iconst (v := 0) hx hb dX6_remove_35 (by decide) ?_
    replace h := Option.some.inj h
    subst q
    exact W.zret (v := 0) hx hb hr rfl (fun t ht hW => ⟨⟨_, (), rfl, rfl, by rw [← ht] at hP; exact hP⟩, hS.F ht⟩) hS.2.2 dX6_remove_36
def f_X6_remove_23 (l1 : Int32) (s0 : Int32) (M : mk_M) : Option (Int32 × mk_M) := (f_X6_remove_28 l1 1 s0 M)
set_option maxHeartbeats 4000000 in
set_option maxRecDepth 100000 in
theorem w_X6_remove_23 {p : Program} {l : Launch} {e : Env} {s : State} {m : MethodId} {args : Array Value} {below : List Frame} {meth : Method} {c : Code} {D : va_G} {E : mk_E} {L : Nat → Int64} (C0 : mk_C p s m args meth c cX6_remove 2 wsX6_remove RX6 (some .boolean) D E) : ∀ (l1 : Int32) (s0 : Int32) (M : mk_M) (q : Int32 × mk_M), f_X6_remove_23 l1 s0 M = some q → ∀ (H : Heap) (locs : List Loc) (ls : Array Slot), va_P D vwCl (mk_wl E M L) H → va_S (mk_A E) s.heap H locs → lv_has ls 2 [(0, .ref (E.1 68)), (1, .int l1)] → W p l e rm_X6_remove s m args below meth c H locs 0 0 (MQ below (mk_Qi D E L q.1 q.2) args s 0 0 (mk_A E)) (F0 m 23 ls [.int s0, .ref (E.1 68)]) := by
  obtain ⟨hx, hb, hml, hown, hts, hr, hlk, hK, hD, hN⟩ := id C0
  intro l1 s0 M q h H locs ls hP hS hl
  replace h : (f_X6_remove_28 l1 1 s0 M) = some q := h
  refine lv_iconst (v := 1) hx hb dX6_remove_23 (by decide) ?_
  refine lv_goto (tgt := 28) hx hb dX6_remove_24 (by decide) ?_
  exact w_X6_remove_28 C0 l1 1 s0 M _ h _ _ _ hP hS (lv_sub hl [0, 1] rfl)
def f_X6_remove (a1 : Int32) (M : mk_M) : Option (Int32 × mk_M) := ((f_X6_isKnown a1 M).bind (fun r_2 => ((f_X6_isKnown a1 M).bind (fun r_4 => (if r_4 = 0 then (f_X6_remove_23 a1 r_2 M) else (if mk_ob a1 13 then none else (if (M 70 (a1).toNatClampNeg) = 0 then (f_X6_remove_23 a1 r_2 M) else (f_X6_remove_28 a1 0 r_2 M))))))))
set_option maxHeartbeats 4000000 in
set_option maxRecDepth 100000 in
theorem c_X6_remove (l : Launch) (D : va_G) (E : mk_E) (L : Nat → Int64) (a1 : Int32) (M : mk_M) {q : Int32 × mk_M} (h : f_X6_remove a1 M = some q) : Met l yX6_remove wsX6_remove rm_X6_remove (va_Pc [.ref (E.1 68), .int a1] (mk_W D E M L)) (mk_Qi D E L q.1 q.2) 0 0 (mk_A E) := by
  refine Met.ofW (cc := cX6_remove) (maxL := 2) (ret := (some .boolean)) (by decide) rfl ?_
  intro p e s m args below meth c s₁ B hml hv
  obtain ⟨rfl, hP, hK, hD0, hN⟩ := hv
  have hx := B.exec
  have hb := B.bytes
  have hr := B.returns
  have hts := atoms_spec (ws := wsX6_remove) B.pre
  have hown : s.vm.findClass RX6 = some m.cls := findClass_of_methodNamed B.named
  have hlk := B.notSynchronized
  have hD : ∀ (M : mk_M) (L : Nat → Int64), va_D (mk_A E) (mk_wl E M L) := fun _ _ => mk_D hD0
  have C0 : mk_C p s m [.ref (E.1 68), .int a1].toArray meth c cX6_remove 2 wsX6_remove RX6 (some .boolean) D E := ⟨hx, hb, hml, hown, hts, hr, hlk, hK, hD, hN⟩
  have hS : va_S (mk_A E) s.heap s.heap [] := va_S.rf
  have hl := lv_entry ([.ref (E.1 68), .int a1]) (n := 2) (Nat.le_of_ble_eq_true rfl)
  rw [lg_entry_eq]
  generalize (lg_sl ([.ref (E.1 68), .int a1]) ++ List.replicate (2 - (lg_sl ([.ref (E.1 68), .int a1])).length) Slot.unset).toArray = ls at hl ⊢
  have hl : lv_has ls 2 [(0, .ref (E.1 68)), (1, .int a1)] := hl
  replace h : ((f_X6_isKnown a1 M).bind (fun r_2 => ((f_X6_isKnown a1 M).bind (fun r_4 => (if r_4 = 0 then (f_X6_remove_23 a1 r_2 M) else (if mk_ob a1 13 then none else (if (M 70 (a1).toNatClampNeg) = 0 then (f_X6_remove_23 a1 r_2 M) else (f_X6_remove_28 a1 0 r_2 M)))))))) = some q := h
  refine lv_aload_n hx hb dX6_remove_0 rfl (lv_at hl 0 rfl) ?_
  refine lv_aload_n hx hb dX6_remove_1 rfl (lv_at hl 0 rfl) ?_
  refine lv_iload_n hx hb dX6_remove_2 rfl (lv_at hl 1 rfl) ?_
  obtain ⟨r_2, e_1, h⟩ := mk_bind h
  refine va_calli (va_runV (As := [.int a1]) (rest := [.ref (E.1 68)]) ⟨hx, hb, hml, hown, hts⟩ (c_X6_isKnown l D E L a1 M  e_1) (cwV 1 hts gX6_remove_X6_isKnown rfl rfl rfl (by decide +kernel) ⟨Nat.le_of_ble_eq_true rfl, Nat.le_of_ble_eq_true rfl⟩) ⟨mk_W.blind, mk_rc6 hK hP (by decide) rfl, fun U hU hW => ⟨rfl, mk_W.at hU hW hP hK (hD _ _) hN⟩⟩ rfl rfl hl.1 rfl (lv_room (Nat.le_of_ble_eq_true rfl)) dX6_remove_3 ⟨Nat.zero_le _, Nat.zero_le _⟩) hS (fun q _ h => h) (fun q h => h) (fun v_18 u t H1 locs ht hvm hw hB hz1 hk1 hS => ?_)
  subst v_18
  rw [ht] at hB
  replace hP := hB
  clear hB hz1 hk1 hvm ht
  generalize H1 = H at hP hS ⊢
  refine lv_aload_n hx hb dX6_remove_6 rfl (lv_at hl 0 rfl) ?_
  refine lv_iload_n hx hb dX6_remove_7 rfl (lv_at hl 1 rfl) ?_
  obtain ⟨r_4, e_3, h⟩ := mk_bind h
  refine va_calli (va_runV (As := [.int a1]) (rest := [.int r_2, .ref (E.1 68)]) ⟨hx, hb, hml, hown, hts⟩ (c_X6_isKnown l D E L a1 M  e_3) (cwV 1 hts gX6_remove_X6_isKnown rfl rfl rfl (by decide +kernel) ⟨Nat.le_of_ble_eq_true rfl, Nat.le_of_ble_eq_true rfl⟩) ⟨mk_W.blind, mk_rc6 hK hP (by decide) rfl, fun U hU hW => ⟨rfl, mk_W.at hU hW hP hK (hD _ _) hN⟩⟩ rfl rfl hl.1 rfl (lv_room (Nat.le_of_ble_eq_true rfl)) dX6_remove_8 ⟨Nat.zero_le _, Nat.zero_le _⟩) hS (fun q _ h => h) (fun q h => h) (fun v_17 u t H1 locs ht hvm hw hB hz1 hk1 hS => ?_)
  subst v_17
  rw [ht] at hB
  replace hP := hB
  clear hB hz1 hk1 hvm ht
  generalize H1 = H at hP hS ⊢
  refine lv_if_eq (tgt := 23) hx hb dX6_remove_11 (by decide) (fun c_5 => ?_) (fun c_5 => ?_)
  · replace h := (if_pos c_5).symm.trans h
    exact w_X6_remove_23 C0 a1 r_2 M _ h _ _ _ hP hS (lv_sub hl [0, 1] rfl)
  · replace h := (if_neg c_5).symm.trans h
    refine lv_aload_n hx hb dX6_remove_14 rfl (lv_at hl 0 rfl) ?_
    refine mk_g6_2 hx hb hts in_X6_remove_X6 hown hK hP (by decide) rfl (hts (.fieldLink RX6 13 "MixedKernelModel" "leaving" "[Z") (by decide +kernel)) dX6_remove_15 ?_
    refine lv_iload_n hx hb dX6_remove_18 rfl (lv_at hl 1 rfl) ?_
    obtain ⟨i_15, h⟩ := mk_ifn h
    refine mk_za hx hb hK hP (by decide) rfl i_15 dX6_remove_19 ?_
    refine lv_if_ne (tgt := 27) hx hb dX6_remove_20 (by decide) (fun c_16 => ?_) (fun c_16 => ?_)
    · replace h := (if_neg c_16).symm.trans h
      refine lv_iconst (v := 0) hx hb dX6_remove_27 (by decide) ?_
      exact w_X6_remove_28 C0 a1 0 r_2 M _ h _ _ _ hP hS (lv_sub hl [0, 1] rfl)
    · replace h := (if_pos c_16).symm.trans h
      exact w_X6_remove_23 C0 a1 r_2 M _ h _ _ _ hP hS (lv_sub hl [0, 1] rfl)
abbrev rm_X6_place : Room := { frames := 0, cells := 0, slots := 0, locals := 0 }
theorem in_X6_place_X6 : ∀ w ∈ wsX60, w ∈ wsX6_place := by decide +kernel
def f_X6_place_2 : Nat → Int32 → Int32 → mk_M → Option (Int32)
  | 0, _, _, _ => none
  | n + 1, l1, l2, M => (if (M 68 9) ≤ l2 then (some (-1)) else (if mk_ob l2 13 then none else (if (M 76 (l2).toNatClampNeg) = l1 then (some l2) else (f_X6_place_2 n l1 (l2 + 1) M))))
set_option maxHeartbeats 4000000 in
set_option maxRecDepth 100000 in
theorem w_X6_place_2 {p : Program} {l : Launch} {e : Env} {s : State} {m : MethodId} {args : Array Value} {below : List Frame} {meth : Method} {c : Code} {D : va_G} {E : mk_E} {L : Nat → Int64} (C0 : mk_C p s m args meth c cX6_place 3 wsX6_place RX6 (some .int) D E) : ∀ n : Nat, ∀ (l1 : Int32) (l2 : Int32) (M : mk_M) (q : Int32), f_X6_place_2 n l1 l2 M = some q → ∀ (H : Heap) (locs : List Loc) (ls : Array Slot), va_P D vwCl (mk_wl E M L) H → va_S (mk_A E) s.heap H locs → lv_has ls 3 [(0, .ref (E.1 68)), (1, .int l1), (2, .int l2)] → W p l e rm_X6_place s m args below meth c H locs 0 0 (MQ below (mk_Qi D E L q M) args s 0 0 (mk_A E)) (F0 m 2 ls []) := by
  obtain ⟨hx, hb, hml, hown, hts, hr, hlk, hK, hD, hN⟩ := id C0
  intro n
  induction n with
  | zero =>
    intro l1 l2 M q h
    cases h
  | succ n ih =>
    intro l1 l2 M q h H locs ls hP hS hl
    replace h : (if (M 68 9) ≤ l2 then (some (-1)) else (if mk_ob l2 13 then none else (if (M 76 (l2).toNatClampNeg) = l1 then (some l2) else (f_X6_place_2 n l1 (l2 + 1) M)))) = some q := h
    refine lv_iload_n hx hb dX6_place_2 rfl (lv_at hl 2 rfl) ?_
    refine lv_aload_n hx hb dX6_place_3 rfl (lv_at hl 0 rfl) ?_
    refine mk_g6_9 hx hb hts in_X6_place_X6 hown hK hP (by decide) rfl (hts (.fieldLink RX6 143 "MixedKernelModel" "inForce" "I") (by decide +kernel)) dX6_place_4 ?_
    refine lv_icmp_ge (tgt := 28) hx hb dX6_place_7 (by decide) (fun c_1 => ?_) (fun c_1 => ?_)
    · replace h := (if_pos c_1).symm.trans h
      refine lv_iconst (v := -1) hx hb dX6_place_28 (by decide) ?_
      replace h := Option.some.inj h
      subst q
      exact W.iret (v := (-1)) hx hb hr (fun t ht hW => ⟨⟨_, (), rfl, rfl, by rw [← ht] at hP; exact hP⟩, hS.F ht⟩) hS.2.2 dX6_place_29
    · replace h := (if_neg c_1).symm.trans h
      refine lv_aload_n hx hb dX6_place_10 rfl (lv_at hl 0 rfl) ?_
      refine mk_g6_10 hx hb hts in_X6_place_X6 hown hK hP (by decide) rfl (hts (.fieldLink RX6 32 "MixedKernelModel" "order" "[I") (by decide +kernel)) dX6_place_11 ?_
      refine lv_iload_n hx hb dX6_place_14 rfl (lv_at hl 2 rfl) ?_
      obtain ⟨i_2, h⟩ := mk_ifn h
      refine mk_ia hx hb hK hP (by decide) rfl i_2 dX6_place_15 ?_
      refine lv_iload_n hx hb dX6_place_16 rfl (lv_at hl 1 rfl) ?_
      refine lv_icmp_ne (tgt := 22) hx hb dX6_place_17 (by decide) (fun c_3 => ?_) (fun c_3 => ?_)
      · replace h := (if_neg c_3).symm.trans h
        refine lv_iinc (v := l2 + 1) (lv' := [(2, .int (l2 + 1)), (0, .ref (E.1 68)), (1, .int l1)]) hx hb dX6_place_22 hl (k := 2) rfl rfl (by decide) rfl (fun ls hl => ?_)
        refine lv_goto (tgt := 2) hx hb dX6_place_25 (by decide) ?_
        exact ih l1 (l2 + 1) M _ h _ _ _ hP hS (lv_sub hl [1, 2, 0] rfl)
      · replace h := (if_pos c_3).symm.trans h
        refine lv_iload_n hx hb dX6_place_20 rfl (lv_at hl 2 rfl) ?_
        replace h := Option.some.inj h
        subst q
        exact W.iret (v := l2) hx hb hr (fun t ht hW => ⟨⟨_, (), rfl, rfl, by rw [← ht] at hP; exact hP⟩, hS.F ht⟩) hS.2.2 dX6_place_21
def f_X6_place (a1 : Int32) (M : mk_M) : Option (Int32) := (f_X6_place_2 mk_F a1 0 M)
set_option maxHeartbeats 4000000 in
set_option maxRecDepth 100000 in
theorem c_X6_place (l : Launch) (D : va_G) (E : mk_E) (L : Nat → Int64) (a1 : Int32) (M : mk_M) {q : Int32} (h : f_X6_place a1 M = some q) : Met l yX6_place wsX6_place rm_X6_place (va_Pc [.ref (E.1 68), .int a1] (mk_W D E M L)) (mk_Qi D E L q M) 0 0 (mk_A E) := by
  refine Met.ofW (cc := cX6_place) (maxL := 3) (ret := (some .int)) (by decide) rfl ?_
  intro p e s m args below meth c s₁ B hml hv
  obtain ⟨rfl, hP, hK, hD0, hN⟩ := hv
  have hx := B.exec
  have hb := B.bytes
  have hr := B.returns
  have hts := atoms_spec (ws := wsX6_place) B.pre
  have hown : s.vm.findClass RX6 = some m.cls := findClass_of_methodNamed B.named
  have hlk := B.notSynchronized
  have hD : ∀ (M : mk_M) (L : Nat → Int64), va_D (mk_A E) (mk_wl E M L) := fun _ _ => mk_D hD0
  have C0 : mk_C p s m [.ref (E.1 68), .int a1].toArray meth c cX6_place 3 wsX6_place RX6 (some .int) D E := ⟨hx, hb, hml, hown, hts, hr, hlk, hK, hD, hN⟩
  have hS : va_S (mk_A E) s.heap s.heap [] := va_S.rf
  have hl := lv_entry ([.ref (E.1 68), .int a1]) (n := 3) (Nat.le_of_ble_eq_true rfl)
  rw [lg_entry_eq]
  generalize (lg_sl ([.ref (E.1 68), .int a1]) ++ List.replicate (3 - (lg_sl ([.ref (E.1 68), .int a1])).length) Slot.unset).toArray = ls at hl ⊢
  have hl : lv_has ls 3 [(0, .ref (E.1 68)), (1, .int a1)] := hl
  replace h : (f_X6_place_2 mk_F a1 0 M) = some q := h
  refine lv_iconst (v := 0) hx hb dX6_place_0 (by decide) ?_
  refine lv_istore_n (lv' := [(2, .int 0), (0, .ref (E.1 68)), (1, .int a1)]) hx hb dX6_place_1 rfl hl (by decide) rfl (fun ls hl => ?_)
  exact w_X6_place_2 C0 mk_F a1 0 M _ h _ _ _ hP hS (lv_sub hl [1, 2, 0] rfl)
abbrev rm_X6_release : Room := { frames := 3, cells := 0, slots := 0, locals := 66 }
theorem in_X6_release_X6 : ∀ w ∈ wsX60, w ∈ wsX6_release := by decide +kernel
def f_X6_release_147 (l1 : Int32) (l2 : Int32) (M : mk_M) : Option (Int32 × mk_M) := (if mk_ob l1 13 then none else (if mk_ob l1 13 then none else (if mk_ob l1 13 then none else ((f_X6_at l1 ((mk_st M 78 (l1).toNatClampNeg ((M 78 (l1).toNatClampNeg) + 1)) 78 (l1).toNatClampNeg) (mk_st M 78 (l1).toNatClampNeg ((M 78 (l1).toNatClampNeg) + 1))).bind (fun r_14 => (if mk_ob r_14 104 then none else (if mk_ob r_14 104 then none else (if mk_ob r_14 104 then none else (if mk_ob r_14 104 then none else (if mk_ob l1 13 then none else (if mk_ob l1 13 then none else (if mk_ob l1 13 then none else (some ((mk_st (mk_st (mk_st (mk_st (mk_st (mk_st M 78 (l1).toNatClampNeg ((M 78 (l1).toNatClampNeg) + 1)) 83 (r_14).toNatClampNeg ((mk_st M 78 (l1).toNatClampNeg ((M 78 (l1).toNatClampNeg) + 1)) 68 21)) 84 (r_14).toNatClampNeg l2) 85 (r_14).toNatClampNeg 0) 86 (r_14).toNatClampNeg (-1)) 82 (l1).toNatClampNeg (((mk_st (mk_st (mk_st (mk_st (mk_st M 78 (l1).toNatClampNeg ((M 78 (l1).toNatClampNeg) + 1)) 83 (r_14).toNatClampNeg ((mk_st M 78 (l1).toNatClampNeg ((M 78 (l1).toNatClampNeg) + 1)) 68 21)) 84 (r_14).toNatClampNeg l2) 85 (r_14).toNatClampNeg 0) 86 (r_14).toNatClampNeg (-1)) 68 21) + ((mk_st (mk_st (mk_st (mk_st (mk_st M 78 (l1).toNatClampNeg ((M 78 (l1).toNatClampNeg) + 1)) 83 (r_14).toNatClampNeg ((mk_st M 78 (l1).toNatClampNeg ((M 78 (l1).toNatClampNeg) + 1)) 68 21)) 84 (r_14).toNatClampNeg l2) 85 (r_14).toNatClampNeg 0) 86 (r_14).toNatClampNeg (-1)) 71 (l1).toNatClampNeg))) 78 (l1).toNatClampNeg, mk_st (mk_st (mk_st (mk_st (mk_st (mk_st M 78 (l1).toNatClampNeg ((M 78 (l1).toNatClampNeg) + 1)) 83 (r_14).toNatClampNeg ((mk_st M 78 (l1).toNatClampNeg ((M 78 (l1).toNatClampNeg) + 1)) 68 21)) 84 (r_14).toNatClampNeg l2) 85 (r_14).toNatClampNeg 0) 86 (r_14).toNatClampNeg (-1)) 82 (l1).toNatClampNeg (((mk_st (mk_st (mk_st (mk_st (mk_st M 78 (l1).toNatClampNeg ((M 78 (l1).toNatClampNeg) + 1)) 83 (r_14).toNatClampNeg ((mk_st M 78 (l1).toNatClampNeg ((M 78 (l1).toNatClampNeg) + 1)) 68 21)) 84 (r_14).toNatClampNeg l2) 85 (r_14).toNatClampNeg 0) 86 (r_14).toNatClampNeg (-1)) 68 21) + ((mk_st (mk_st (mk_st (mk_st (mk_st M 78 (l1).toNatClampNeg ((M 78 (l1).toNatClampNeg) + 1)) 83 (r_14).toNatClampNeg ((mk_st M 78 (l1).toNatClampNeg ((M 78 (l1).toNatClampNeg) + 1)) 68 21)) 84 (r_14).toNatClampNeg l2) 85 (r_14).toNatClampNeg 0) 86 (r_14).toNatClampNeg (-1)) 71 (l1).toNatClampNeg))))))))))))))))
set_option maxHeartbeats 4000000 in
set_option maxRecDepth 100000 in
theorem w_X6_release_147 {p : Program} {l : Launch} {e : Env} {s : State} {m : MethodId} {args : Array Value} {below : List Frame} {meth : Method} {c : Code} {D : va_G} {E : mk_E} {L : Nat → Int64} (C0 : mk_C p s m args meth c cX6_release 6 wsX6_release RX6 (some .int) D E) : ∀ (l1 : Int32) (l2 : Int32) (M : mk_M) (q : Int32 × mk_M), f_X6_release_147 l1 l2 M = some q → ∀ (H : Heap) (locs : List Loc) (ls : Array Slot), va_P D vwCl (mk_wl E M L) H → va_S (mk_A E) s.heap H locs → lv_has ls 6 [(0, .ref (E.1 68)), (1, .int l1), (2, .int l2)] → W p l e rm_X6_release s m args below meth c H locs 0 0 (MQ below (mk_Qi D E L q.1 q.2) args s 0 0 (mk_A E)) (F0 m 147 ls []) := by
  obtain ⟨hx, hb, hml, hown, hts, hr, hlk, hK, hD, hN⟩ := id C0
  intro l1 l2 M q h H locs ls hP hS hl
  replace h : (if mk_ob l1 13 then none else (if mk_ob l1 13 then none else (if mk_ob l1 13 then none else ((f_X6_at l1 ((mk_st M 78 (l1).toNatClampNeg ((M 78 (l1).toNatClampNeg) + 1)) 78 (l1).toNatClampNeg) (mk_st M 78 (l1).toNatClampNeg ((M 78 (l1).toNatClampNeg) + 1))).bind (fun r_14 => (if mk_ob r_14 104 then none else (if mk_ob r_14 104 then none else (if mk_ob r_14 104 then none else (if mk_ob r_14 104 then none else (if mk_ob l1 13 then none else (if mk_ob l1 13 then none else (if mk_ob l1 13 then none else (some ((mk_st (mk_st (mk_st (mk_st (mk_st (mk_st M 78 (l1).toNatClampNeg ((M 78 (l1).toNatClampNeg) + 1)) 83 (r_14).toNatClampNeg ((mk_st M 78 (l1).toNatClampNeg ((M 78 (l1).toNatClampNeg) + 1)) 68 21)) 84 (r_14).toNatClampNeg l2) 85 (r_14).toNatClampNeg 0) 86 (r_14).toNatClampNeg (-1)) 82 (l1).toNatClampNeg (((mk_st (mk_st (mk_st (mk_st (mk_st M 78 (l1).toNatClampNeg ((M 78 (l1).toNatClampNeg) + 1)) 83 (r_14).toNatClampNeg ((mk_st M 78 (l1).toNatClampNeg ((M 78 (l1).toNatClampNeg) + 1)) 68 21)) 84 (r_14).toNatClampNeg l2) 85 (r_14).toNatClampNeg 0) 86 (r_14).toNatClampNeg (-1)) 68 21) + ((mk_st (mk_st (mk_st (mk_st (mk_st M 78 (l1).toNatClampNeg ((M 78 (l1).toNatClampNeg) + 1)) 83 (r_14).toNatClampNeg ((mk_st M 78 (l1).toNatClampNeg ((M 78 (l1).toNatClampNeg) + 1)) 68 21)) 84 (r_14).toNatClampNeg l2) 85 (r_14).toNatClampNeg 0) 86 (r_14).toNatClampNeg (-1)) 71 (l1).toNatClampNeg))) 78 (l1).toNatClampNeg, mk_st (mk_st (mk_st (mk_st (mk_st (mk_st M 78 (l1).toNatClampNeg ((M 78 (l1).toNatClampNeg) + 1)) 83 (r_14).toNatClampNeg ((mk_st M 78 (l1).toNatClampNeg ((M 78 (l1).toNatClampNeg) + 1)) 68 21)) 84 (r_14).toNatClampNeg l2) 85 (r_14).toNatClampNeg 0) 86 (r_14).toNatClampNeg (-1)) 82 (l1).toNatClampNeg (((mk_st (mk_st (mk_st (mk_st (mk_st M 78 (l1).toNatClampNeg ((M 78 (l1).toNatClampNeg) + 1)) 83 (r_14).toNatClampNeg ((mk_st M 78 (l1).toNatClampNeg ((M 78 (l1).toNatClampNeg) + 1)) 68 21)) 84 (r_14).toNatClampNeg l2) 85 (r_14).toNatClampNeg 0) 86 (r_14).toNatClampNeg (-1)) 68 21) + ((mk_st (mk_st (mk_st (mk_st (mk_st M 78 (l1).toNatClampNeg ((M 78 (l1).toNatClampNeg) + 1)) 83 (r_14).toNatClampNeg ((mk_st M 78 (l1).toNatClampNeg ((M 78 (l1).toNatClampNeg) + 1)) 68 21)) 84 (r_14).toNatClampNeg l2) 85 (r_14).toNatClampNeg 0) 86 (r_14).toNatClampNeg (-1)) 71 (l1).toNatClampNeg)))))))))))))))) = some q := h
  refine lv_aload_n hx hb dX6_release_147 rfl (lv_at hl 0 rfl) ?_
  refine mk_g6_12 hx hb hts in_X6_release_X6 hown hK hP (by decide) rfl (hts (.fieldLink RX6 38 "MixedKernelModel" "jobs" "[I") (by decide +kernel)) dX6_release_148 ?_
  refine lv_iload_n hx hb dX6_release_151 rfl (lv_at hl 1 rfl) ?_
  refine lv_dup2_11 hx hb dX6_release_152 rfl rfl ?_
  obtain ⟨i_10, h⟩ := mk_ifn h
  refine mk_ia hx hb hK hP (by decide) rfl i_10 dX6_release_153 ?_
  refine lv_iconst (v := 1) hx hb dX6_release_154 (by decide) ?_
  refine lv_iadd hx hb dX6_release_155 ?_
  obtain ⟨i_11, h⟩ := mk_ifn h
  refine mk_is hx hb hK hP (hD _ _) hS (by decide) rfl i_11 dX6_release_156 (fun H locs hP hS => ?_)
  refine lv_iload_n hx hb dX6_release_157 rfl (lv_at hl 1 rfl) ?_
  refine lv_aload_n hx hb dX6_release_158 rfl (lv_at hl 0 rfl) ?_
  refine mk_g6_12 hx hb hts in_X6_release_X6 hown hK hP (by decide) rfl (hts (.fieldLink RX6 38 "MixedKernelModel" "jobs" "[I") (by decide +kernel)) dX6_release_159 ?_
  refine lv_iload_n hx hb dX6_release_162 rfl (lv_at hl 1 rfl) ?_
  obtain ⟨i_12, h⟩ := mk_ifn h
  refine mk_ia hx hb hK hP (by decide) rfl i_12 dX6_release_163 ?_
  obtain ⟨r_14, e_13, h⟩ := mk_bind h
  refine va_calli (va_runS (As := [.int l1, .int ((mk_st M 78 (l1).toNatClampNeg ((M 78 (l1).toNatClampNeg) + 1)) 78 (l1).toNatClampNeg)]) (rest := []) ⟨hx, hb, hml, hown, hts⟩ (c_X6_at l D E L l1 ((mk_st M 78 (l1).toNatClampNeg ((M 78 (l1).toNatClampNeg) + 1)) 78 (l1).toNatClampNeg) (mk_st M 78 (l1).toNatClampNeg ((M 78 (l1).toNatClampNeg) + 1))  e_13) (cwS 2 hts gX6_release_X6_at rfl rfl rfl (by decide +kernel) ⟨Nat.le_of_ble_eq_true rfl, Nat.le_of_ble_eq_true rfl⟩) ⟨mk_W.blind, fun U hU hW => ⟨rfl, mk_W.at hU hW hP hK (hD _ _) hN⟩⟩ rfl rfl hl.1 rfl (lv_room (Nat.le_of_ble_eq_true rfl)) dX6_release_164 ⟨Nat.zero_le _, Nat.zero_le _⟩) hS (fun q _ h => h) (fun q h => h) (fun v_22 u t H1 locs ht hvm hw hB hz1 hk1 hS => ?_)
  subst v_22
  rw [ht] at hB
  replace hP := hB
  clear hB hz1 hk1 hvm ht
  generalize H1 = H at hP hS ⊢
  refine lv_istore (lv' := [(5, .int r_14), (0, .ref (E.1 68)), (1, .int l1), (2, .int l2)]) hx hb dX6_release_167 hl (by decide) rfl (fun ls hl => ?_)
  refine lv_aload_n hx hb dX6_release_169 rfl (lv_at hl 1 rfl) ?_
  refine mk_g6_17 hx hb hts in_X6_release_X6 hown hK hP (by decide) rfl (hts (.fieldLink RX6 53 "MixedKernelModel" "releases" "[I") (by decide +kernel)) dX6_release_170 ?_
  refine lv_iload hx hb dX6_release_173 (lv_at hl 0 rfl) ?_
  refine lv_aload_n hx hb dX6_release_175 rfl (lv_at hl 1 rfl) ?_
  refine mk_g6_21 hx hb hts in_X6_release_X6 hown hK hP (by decide) rfl (hts (.fieldLink RX6 152 "MixedKernelModel" "time" "I") (by decide +kernel)) dX6_release_176 ?_
  obtain ⟨i_15, h⟩ := mk_ifn h
  refine mk_is hx hb hK hP (hD _ _) hS (by decide) rfl i_15 dX6_release_179 (fun H locs hP hS => ?_)
  refine lv_aload_n hx hb dX6_release_180 rfl (lv_at hl 1 rfl) ?_
  refine mk_g6_18 hx hb hts in_X6_release_X6 hown hK hP (by decide) rfl (hts (.fieldLink RX6 56 "MixedKernelModel" "demands" "[I") (by decide +kernel)) dX6_release_181 ?_
  refine lv_iload hx hb dX6_release_184 (lv_at hl 0 rfl) ?_
  refine lv_iload_n hx hb dX6_release_186 rfl (lv_at hl 3 rfl) ?_
  obtain ⟨i_16, h⟩ := mk_ifn h
  refine mk_is hx hb hK hP (hD _ _) hS (by decide) rfl i_16 dX6_release_187 (fun H locs hP hS => ?_)
  refine lv_aload_n hx hb dX6_release_188 rfl (lv_at hl 1 rfl) ?_
  refine mk_g6_19 hx hb hts in_X6_release_X6 hown hK hP (by decide) rfl (hts (.fieldLink RX6 59 "MixedKernelModel" "charges" "[I") (by decide +kernel)) dX6_release_189 ?_
  refine lv_iload hx hb dX6_release_192 (lv_at hl 0 rfl) ?_
  refine lv_iconst (v := 0) hx hb dX6_release_194 (by decide) ?_
  obtain ⟨i_17, h⟩ := mk_ifn h
  refine mk_is hx hb hK hP (hD _ _) hS (by decide) rfl i_17 dX6_release_195 (fun H locs hP hS => ?_)
  refine lv_aload_n hx hb dX6_release_196 rfl (lv_at hl 1 rfl) ?_
  refine mk_g6_20 hx hb hts in_X6_release_X6 hown hK hP (by decide) rfl (hts (.fieldLink RX6 62 "MixedKernelModel" "ends" "[I") (by decide +kernel)) dX6_release_197 ?_
  refine lv_iload hx hb dX6_release_200 (lv_at hl 0 rfl) ?_
  refine lv_iconst (v := -1) hx hb dX6_release_202 (by decide) ?_
  obtain ⟨i_18, h⟩ := mk_ifn h
  refine mk_is hx hb hK hP (hD _ _) hS (by decide) rfl i_18 dX6_release_203 (fun H locs hP hS => ?_)
  refine lv_aload_n hx hb dX6_release_204 rfl (lv_at hl 1 rfl) ?_
  refine mk_g6_16 hx hb hts in_X6_release_X6 hown hK hP (by decide) rfl (hts (.fieldLink RX6 50 "MixedKernelModel" "nexts" "[I") (by decide +kernel)) dX6_release_205 ?_
  refine lv_iload_n hx hb dX6_release_208 rfl (lv_at hl 2 rfl) ?_
  refine lv_aload_n hx hb dX6_release_209 rfl (lv_at hl 1 rfl) ?_
  refine mk_g6_21 hx hb hts in_X6_release_X6 hown hK hP (by decide) rfl (hts (.fieldLink RX6 152 "MixedKernelModel" "time" "I") (by decide +kernel)) dX6_release_210 ?_
  refine lv_aload_n hx hb dX6_release_213 rfl (lv_at hl 1 rfl) ?_
  refine mk_g6_3 hx hb hts in_X6_release_X6 hown hK hP (by decide) rfl (hts (.fieldLink RX6 16 "MixedKernelModel" "periods" "[I") (by decide +kernel)) dX6_release_214 ?_
  refine lv_iload_n hx hb dX6_release_217 rfl (lv_at hl 2 rfl) ?_
  obtain ⟨i_19, h⟩ := mk_ifn h
  refine mk_ia hx hb hK hP (by decide) rfl i_19 dX6_release_218 ?_
  refine lv_iadd hx hb dX6_release_219 ?_
  obtain ⟨i_20, h⟩ := mk_ifn h
  refine mk_is hx hb hK hP (hD _ _) hS (by decide) rfl i_20 dX6_release_220 (fun H locs hP hS => ?_)
  refine lv_aload_n hx hb dX6_release_221 rfl (lv_at hl 1 rfl) ?_
  refine mk_g6_12 hx hb hts in_X6_release_X6 hown hK hP (by decide) rfl (hts (.fieldLink RX6 38 "MixedKernelModel" "jobs" "[I") (by decide +kernel)) dX6_release_222 ?_
  refine lv_iload_n hx hb dX6_release_225 rfl (lv_at hl 2 rfl) ?_
  obtain ⟨i_21, h⟩ := mk_ifn h
  refine mk_ia hx hb hK hP (by decide) rfl i_21 dX6_release_226 ?_
  replace h := Option.some.inj h
  subst q
  exact W.iret (v := (mk_st (mk_st (mk_st (mk_st (mk_st (mk_st M 78 (l1).toNatClampNeg ((M 78 (l1).toNatClampNeg) + 1)) 83 (r_14).toNatClampNeg ((mk_st M 78 (l1).toNatClampNeg ((M 78 (l1).toNatClampNeg) + 1)) 68 21)) 84 (r_14).toNatClampNeg l2) 85 (r_14).toNatClampNeg 0) 86 (r_14).toNatClampNeg (-1)) 82 (l1).toNatClampNeg (((mk_st (mk_st (mk_st (mk_st (mk_st M 78 (l1).toNatClampNeg ((M 78 (l1).toNatClampNeg) + 1)) 83 (r_14).toNatClampNeg ((mk_st M 78 (l1).toNatClampNeg ((M 78 (l1).toNatClampNeg) + 1)) 68 21)) 84 (r_14).toNatClampNeg l2) 85 (r_14).toNatClampNeg 0) 86 (r_14).toNatClampNeg (-1)) 68 21) + ((mk_st (mk_st (mk_st (mk_st (mk_st M 78 (l1).toNatClampNeg ((M 78 (l1).toNatClampNeg) + 1)) 83 (r_14).toNatClampNeg ((mk_st M 78 (l1).toNatClampNeg ((M 78 (l1).toNatClampNeg) + 1)) 68 21)) 84 (r_14).toNatClampNeg l2) 85 (r_14).toNatClampNeg 0) 86 (r_14).toNatClampNeg (-1)) 71 (l1).toNatClampNeg))) 78 (l1).toNatClampNeg) hx hb hr (fun t ht hW => ⟨⟨_, (), rfl, rfl, by rw [← ht] at hP; exact hP⟩, hS.F ht⟩) hS.2.2 dX6_release_227
def f_X6_release_110 (l1 : Int32) (l2 : Int32) (s0 : Int32) (s1 : Int32) (s2 : Int32) (M : mk_M) : Option (Int32 × mk_M) := ((f_X6_goes s2 s1 s0 M).bind (fun r_7 => (if r_7.1 = 0 then (some (0, r_7.2)) else (if (r_7.2 68 24) = 1 then (if mk_ob l1 13 then none else (if (r_7.2 74 (l1).toNatClampNeg) = 0 then (if mk_ob l1 13 then none else (if mk_ob l1 13 then none else (some (0, mk_st r_7.2 79 (l1).toNatClampNeg ((r_7.2 79 (l1).toNatClampNeg) + 1))))) else (f_X6_release_147 l1 l2 r_7.2))) else (f_X6_release_147 l1 l2 r_7.2)))))
set_option maxHeartbeats 4000000 in
set_option maxRecDepth 100000 in
theorem w_X6_release_110 {p : Program} {l : Launch} {e : Env} {s : State} {m : MethodId} {args : Array Value} {below : List Frame} {meth : Method} {c : Code} {D : va_G} {E : mk_E} {L : Nat → Int64} (C0 : mk_C p s m args meth c cX6_release 6 wsX6_release RX6 (some .int) D E) : ∀ (l1 : Int32) (l2 : Int32) (s0 : Int32) (s1 : Int32) (s2 : Int32) (M : mk_M) (q : Int32 × mk_M), f_X6_release_110 l1 l2 s0 s1 s2 M = some q → ∀ (H : Heap) (locs : List Loc) (ls : Array Slot), va_P D vwCl (mk_wl E M L) H → va_S (mk_A E) s.heap H locs → lv_has ls 6 [(0, .ref (E.1 68)), (1, .int l1), (2, .int l2)] → W p l e rm_X6_release s m args below meth c H locs 0 0 (MQ below (mk_Qi D E L q.1 q.2) args s 0 0 (mk_A E)) (F0 m 110 ls [.int s0, .int s1, .int s2, .ref (E.1 68)]) := by
  obtain ⟨hx, hb, hml, hown, hts, hr, hlk, hK, hD, hN⟩ := id C0
  intro l1 l2 s0 s1 s2 M q h H locs ls hP hS hl
  replace h : ((f_X6_goes s2 s1 s0 M).bind (fun r_7 => (if r_7.1 = 0 then (some (0, r_7.2)) else (if (r_7.2 68 24) = 1 then (if mk_ob l1 13 then none else (if (r_7.2 74 (l1).toNatClampNeg) = 0 then (if mk_ob l1 13 then none else (if mk_ob l1 13 then none else (some (0, mk_st r_7.2 79 (l1).toNatClampNeg ((r_7.2 79 (l1).toNatClampNeg) + 1))))) else (f_X6_release_147 l1 l2 r_7.2))) else (f_X6_release_147 l1 l2 r_7.2))))) = some q := h
  obtain ⟨r_7, e_6, h⟩ := mk_bind h
  refine va_calli (va_runV (As := [.int s2, .int s1, .int s0]) (rest := []) ⟨hx, hb, hml, hown, hts⟩ (c_X6_goes l D E L s2 s1 s0 M  e_6) (cwV 3 hts gX6_release_X6_goes rfl rfl rfl (by decide +kernel) ⟨Nat.le_of_ble_eq_true rfl, Nat.le_of_ble_eq_true rfl⟩) ⟨mk_W.blind, mk_rc6 hK hP (by decide) rfl, fun U hU hW => ⟨rfl, mk_W.at hU hW hP hK (hD _ _) hN⟩⟩ rfl rfl hl.1 rfl (lv_room (Nat.le_of_ble_eq_true rfl)) dX6_release_110 ⟨Nat.zero_le _, Nat.zero_le _⟩) hS (fun q _ h => h) (fun q h => h) (fun v_27 u t H1 locs ht hvm hw hB hz1 hk1 hS => ?_)
  subst v_27
  rw [ht] at hB
  replace hP := hB
  clear hB hz1 hk1 hvm ht
  generalize H1 = H at hP hS ⊢
  refine lv_if_ne (tgt := 118) hx hb dX6_release_113 (by decide) (fun c_8 => ?_) (fun c_8 => ?_)
  · replace h := (if_neg c_8).symm.trans h
    refine lv_aload_n hx hb dX6_release_118 rfl (lv_at hl 0 rfl) ?_
    refine mk_g6_24 hx hb hts in_X6_release_X6 hown hK hP (by decide) rfl (hts (.fieldLink RX6 155 "MixedKernelModel" "mode" "I") (by decide +kernel)) dX6_release_119 ?_
    refine lv_iconst (v := 1) hx hb dX6_release_122 (by decide) ?_
    refine lv_icmp_ne (tgt := 147) hx hb dX6_release_123 (by decide) (fun c_9 => ?_) (fun c_9 => ?_)
    · replace h := (if_neg c_9).symm.trans h
      exact w_X6_release_147 C0 l1 l2 r_7.2 _ h _ _ _ hP hS (lv_sub hl [0, 1, 2] rfl)
    · replace h := (if_pos c_9).symm.trans h
      refine lv_aload_n hx hb dX6_release_126 rfl (lv_at hl 0 rfl) ?_
      refine mk_g6_6 hx hb hts in_X6_release_X6 hown hK hP (by decide) rfl (hts (.fieldLink RX6 26 "MixedKernelModel" "highs" "[I") (by decide +kernel)) dX6_release_127 ?_
      refine lv_iload_n hx hb dX6_release_130 rfl (lv_at hl 1 rfl) ?_
      obtain ⟨i_23, h⟩ := mk_ifn h
      refine mk_ia hx hb hK hP (by decide) rfl i_23 dX6_release_131 ?_
      refine lv_if_ne (tgt := 147) hx hb dX6_release_132 (by decide) (fun c_24 => ?_) (fun c_24 => ?_)
      · replace h := (if_neg c_24).symm.trans h
        exact w_X6_release_147 C0 l1 l2 r_7.2 _ h _ _ _ hP hS (lv_sub hl [0, 1, 2] rfl)
      · replace h := (if_pos c_24).symm.trans h
        refine lv_aload_n hx hb dX6_release_135 rfl (lv_at hl 0 rfl) ?_
        refine mk_g6_13 hx hb hts in_X6_release_X6 hown hK hP (by decide) rfl (hts (.fieldLink RX6 41 "MixedKernelModel" "drops" "[I") (by decide +kernel)) dX6_release_136 ?_
        refine lv_iload_n hx hb dX6_release_139 rfl (lv_at hl 1 rfl) ?_
        refine lv_dup2_11 hx hb dX6_release_140 rfl rfl ?_
        obtain ⟨i_25, h⟩ := mk_ifn h
        refine mk_ia hx hb hK hP (by decide) rfl i_25 dX6_release_141 ?_
        refine lv_iconst (v := 1) hx hb dX6_release_142 (by decide) ?_
        refine lv_iadd hx hb dX6_release_143 ?_
        obtain ⟨i_26, h⟩ := mk_ifn h
        refine mk_is hx hb hK hP (hD _ _) hS (by decide) rfl i_26 dX6_release_144 (fun H locs hP hS => ?_)
        refine lv_iconst (v := 0) hx hb dX6_release_145 (by decide) ?_
        replace h := Option.some.inj h
        subst q
        exact W.iret (v := 0) hx hb hr (fun t ht hW => ⟨⟨_, (), rfl, rfl, by rw [← ht] at hP; exact hP⟩, hS.F ht⟩) hS.2.2 dX6_release_146
  · replace h := (if_pos c_8).symm.trans h
    refine lv_iconst (v := 0) hx hb dX6_release_116 (by decide) ?_
    replace h := Option.some.inj h
    subst q
    exact W.iret (v := 0) hx hb hr (fun t ht hW => ⟨⟨_, (), rfl, rfl, by rw [← ht] at hP; exact hP⟩, hS.F ht⟩) hS.2.2 dX6_release_117
def f_X6_release_109 (l1 : Int32) (l2 : Int32) (s0 : Int32) (s1 : Int32) (M : mk_M) : Option (Int32 × mk_M) := (f_X6_release_110 l1 l2 0 s0 s1 M)
set_option maxHeartbeats 4000000 in
set_option maxRecDepth 100000 in
theorem w_X6_release_109 {p : Program} {l : Launch} {e : Env} {s : State} {m : MethodId} {args : Array Value} {below : List Frame} {meth : Method} {c : Code} {D : va_G} {E : mk_E} {L : Nat → Int64} (C0 : mk_C p s m args meth c cX6_release 6 wsX6_release RX6 (some .int) D E) : ∀ (l1 : Int32) (l2 : Int32) (s0 : Int32) (s1 : Int32) (M : mk_M) (q : Int32 × mk_M), f_X6_release_109 l1 l2 s0 s1 M = some q → ∀ (H : Heap) (locs : List Loc) (ls : Array Slot), va_P D vwCl (mk_wl E M L) H → va_S (mk_A E) s.heap H locs → lv_has ls 6 [(0, .ref (E.1 68)), (1, .int l1), (2, .int l2)] → W p l e rm_X6_release s m args below meth c H locs 0 0 (MQ below (mk_Qi D E L q.1 q.2) args s 0 0 (mk_A E)) (F0 m 109 ls [.int s0, .int s1, .ref (E.1 68)]) := by
  obtain ⟨hx, hb, hml, hown, hts, hr, hlk, hK, hD, hN⟩ := id C0
  intro l1 l2 s0 s1 M q h H locs ls hP hS hl
  replace h : (f_X6_release_110 l1 l2 0 s0 s1 M) = some q := h
  refine lv_iconst (v := 0) hx hb dX6_release_109 (by decide) ?_
  exact w_X6_release_110 C0 l1 l2 0 s0 s1 M _ h _ _ _ hP hS (lv_sub hl [0, 1, 2] rfl)
def f_X6_release_64 (l1 : Int32) (l2 : Int32) (l3 : Int32) (s0 : Int32) (M : mk_M) : Option (Int32 × mk_M) := (if l3 = 0 then (f_X6_release_109 l1 l2 s0 l3 M) else (if mk_ob l1 13 then none else (if (M 70 (l1).toNatClampNeg) = 0 then (if mk_ob l1 13 then none else (if (M 68 21) < (M 82 (l1).toNatClampNeg) then (f_X6_release_109 l1 l2 s0 l3 M) else ((f_X6_pending l1 M).bind (fun r_33 => (if 4 ≤ r_33 then (f_X6_release_109 l1 l2 s0 l3 M) else (f_X6_release_110 l1 l2 1 s0 l3 M)))))) else (f_X6_release_109 l1 l2 s0 l3 M))))
set_option maxHeartbeats 4000000 in
set_option maxRecDepth 100000 in
theorem w_X6_release_64 {p : Program} {l : Launch} {e : Env} {s : State} {m : MethodId} {args : Array Value} {below : List Frame} {meth : Method} {c : Code} {D : va_G} {E : mk_E} {L : Nat → Int64} (C0 : mk_C p s m args meth c cX6_release 6 wsX6_release RX6 (some .int) D E) : ∀ (l1 : Int32) (l2 : Int32) (l3 : Int32) (s0 : Int32) (M : mk_M) (q : Int32 × mk_M), f_X6_release_64 l1 l2 l3 s0 M = some q → ∀ (H : Heap) (locs : List Loc) (ls : Array Slot), va_P D vwCl (mk_wl E M L) H → va_S (mk_A E) s.heap H locs → lv_has ls 6 [(0, .ref (E.1 68)), (1, .int l1), (2, .int l2), (3, .int l3)] → W p l e rm_X6_release s m args below meth c H locs 0 0 (MQ below (mk_Qi D E L q.1 q.2) args s 0 0 (mk_A E)) (F0 m 64 ls [.int s0]) := by
  obtain ⟨hx, hb, hml, hown, hts, hr, hlk, hK, hD, hN⟩ := id C0
  intro l1 l2 l3 s0 M q h H locs ls hP hS hl
  replace h : (if l3 = 0 then (f_X6_release_109 l1 l2 s0 l3 M) else (if mk_ob l1 13 then none else (if (M 70 (l1).toNatClampNeg) = 0 then (if mk_ob l1 13 then none else (if (M 68 21) < (M 82 (l1).toNatClampNeg) then (f_X6_release_109 l1 l2 s0 l3 M) else ((f_X6_pending l1 M).bind (fun r_33 => (if 4 ≤ r_33 then (f_X6_release_109 l1 l2 s0 l3 M) else (f_X6_release_110 l1 l2 1 s0 l3 M)))))) else (f_X6_release_109 l1 l2 s0 l3 M)))) = some q := h
  refine lv_istore (lv' := [(4, .int s0), (0, .ref (E.1 68)), (1, .int l1), (2, .int l2), (3, .int l3)]) hx hb dX6_release_64 hl (by decide) rfl (fun ls hl => ?_)
  refine lv_aload_n hx hb dX6_release_66 rfl (lv_at hl 1 rfl) ?_
  refine lv_iload_n hx hb dX6_release_67 rfl (lv_at hl 4 rfl) ?_
  refine lv_iload hx hb dX6_release_68 (lv_at hl 0 rfl) ?_
  refine lv_iload_n hx hb dX6_release_70 rfl (lv_at hl 4 rfl) ?_
  refine lv_if_eq (tgt := 109) hx hb dX6_release_71 (by decide) (fun c_5 => ?_) (fun c_5 => ?_)
  · replace h := (if_pos c_5).symm.trans h
    exact w_X6_release_109 C0 l1 l2 s0 l3 M _ h _ _ _ hP hS (lv_sub hl [1, 2, 3] rfl)
  · replace h := (if_neg c_5).symm.trans h
    refine lv_aload_n hx hb dX6_release_74 rfl (lv_at hl 1 rfl) ?_
    refine mk_g6_2 hx hb hts in_X6_release_X6 hown hK hP (by decide) rfl (hts (.fieldLink RX6 13 "MixedKernelModel" "leaving" "[Z") (by decide +kernel)) dX6_release_75 ?_
    refine lv_iload_n hx hb dX6_release_78 rfl (lv_at hl 2 rfl) ?_
    obtain ⟨i_28, h⟩ := mk_ifn h
    refine mk_za hx hb hK hP (by decide) rfl i_28 dX6_release_79 ?_
    refine lv_if_ne (tgt := 109) hx hb dX6_release_80 (by decide) (fun c_29 => ?_) (fun c_29 => ?_)
    · replace h := (if_neg c_29).symm.trans h
      exact w_X6_release_109 C0 l1 l2 s0 l3 M _ h _ _ _ hP hS (lv_sub hl [1, 2, 3] rfl)
    · replace h := (if_pos c_29).symm.trans h
      refine lv_aload_n hx hb dX6_release_83 rfl (lv_at hl 1 rfl) ?_
      refine mk_g6_21 hx hb hts in_X6_release_X6 hown hK hP (by decide) rfl (hts (.fieldLink RX6 152 "MixedKernelModel" "time" "I") (by decide +kernel)) dX6_release_84 ?_
      refine lv_aload_n hx hb dX6_release_87 rfl (lv_at hl 1 rfl) ?_
      refine mk_g6_16 hx hb hts in_X6_release_X6 hown hK hP (by decide) rfl (hts (.fieldLink RX6 50 "MixedKernelModel" "nexts" "[I") (by decide +kernel)) dX6_release_88 ?_
      refine lv_iload_n hx hb dX6_release_91 rfl (lv_at hl 2 rfl) ?_
      obtain ⟨i_30, h⟩ := mk_ifn h
      refine mk_ia hx hb hK hP (by decide) rfl i_30 dX6_release_92 ?_
      refine lv_icmp_lt (tgt := 109) hx hb dX6_release_93 (by decide) (fun c_31 => ?_) (fun c_31 => ?_)
      · replace h := (if_pos c_31).symm.trans h
        exact w_X6_release_109 C0 l1 l2 s0 l3 M _ h _ _ _ hP hS (lv_sub hl [1, 2, 3] rfl)
      · replace h := (if_neg c_31).symm.trans h
        refine lv_aload_n hx hb dX6_release_96 rfl (lv_at hl 1 rfl) ?_
        refine lv_iload_n hx hb dX6_release_97 rfl (lv_at hl 2 rfl) ?_
        obtain ⟨r_33, e_32, h⟩ := mk_bind h
        refine va_calli (va_runV (As := [.int l1]) (rest := [.int s0, .int l3, .ref (E.1 68)]) ⟨hx, hb, hml, hown, hts⟩ (c_X6_pending l D E L l1 M  e_32) (cwV 1 hts gX6_release_X6_pending rfl rfl rfl (by decide +kernel) ⟨Nat.le_of_ble_eq_true rfl, Nat.le_of_ble_eq_true rfl⟩) ⟨mk_W.blind, mk_rc6 hK hP (by decide) rfl, fun U hU hW => ⟨rfl, mk_W.at hU hW hP hK (hD _ _) hN⟩⟩ rfl rfl hl.1 rfl (lv_room (Nat.le_of_ble_eq_true rfl)) dX6_release_98 ⟨Nat.zero_le _, Nat.zero_le _⟩) hS (fun q _ h => h) (fun q h => h) (fun v_35 u t H1 locs ht hvm hw hB hz1 hk1 hS => ?_)
        subst v_35
        rw [ht] at hB
        replace hP := hB
        clear hB hz1 hk1 hvm ht
        generalize H1 = H at hP hS ⊢
        refine lv_iconst (v := 4) hx hb dX6_release_101 (by decide) ?_
        refine lv_icmp_ge (tgt := 109) hx hb dX6_release_102 (by decide) (fun c_34 => ?_) (fun c_34 => ?_)
        · replace h := (if_pos c_34).symm.trans h
          exact w_X6_release_109 C0 l1 l2 s0 l3 M _ h _ _ _ hP hS (lv_sub hl [1, 2, 3] rfl)
        · replace h := (if_neg c_34).symm.trans h
          refine lv_iconst (v := 1) hx hb dX6_release_105 (by decide) ?_
          refine lv_goto (tgt := 110) hx hb dX6_release_106 (by decide) ?_
          exact w_X6_release_110 C0 l1 l2 1 s0 l3 M _ h _ _ _ hP hS (lv_sub hl [1, 2, 3] rfl)
def f_X6_release_63 (l1 : Int32) (l2 : Int32) (l3 : Int32) (M : mk_M) : Option (Int32 × mk_M) := (f_X6_release_64 l1 l2 l3 0 M)
set_option maxHeartbeats 4000000 in
set_option maxRecDepth 100000 in
theorem w_X6_release_63 {p : Program} {l : Launch} {e : Env} {s : State} {m : MethodId} {args : Array Value} {below : List Frame} {meth : Method} {c : Code} {D : va_G} {E : mk_E} {L : Nat → Int64} (C0 : mk_C p s m args meth c cX6_release 6 wsX6_release RX6 (some .int) D E) : ∀ (l1 : Int32) (l2 : Int32) (l3 : Int32) (M : mk_M) (q : Int32 × mk_M), f_X6_release_63 l1 l2 l3 M = some q → ∀ (H : Heap) (locs : List Loc) (ls : Array Slot), va_P D vwCl (mk_wl E M L) H → va_S (mk_A E) s.heap H locs → lv_has ls 6 [(0, .ref (E.1 68)), (1, .int l1), (2, .int l2), (3, .int l3)] → W p l e rm_X6_release s m args below meth c H locs 0 0 (MQ below (mk_Qi D E L q.1 q.2) args s 0 0 (mk_A E)) (F0 m 63 ls []) := by
  obtain ⟨hx, hb, hml, hown, hts, hr, hlk, hK, hD, hN⟩ := id C0
  intro l1 l2 l3 M q h H locs ls hP hS hl
  replace h : (f_X6_release_64 l1 l2 l3 0 M) = some q := h
  refine lv_iconst (v := 0) hx hb dX6_release_63 (by decide) ?_
  exact w_X6_release_64 C0 l1 l2 l3 0 M _ h _ _ _ hP hS (lv_sub hl [0, 1, 2, 3] rfl)
def f_X6_release_53 (l1 : Int32) (l2 : Int32) (l3 : Int32) (s0 : Int32) (s1 : Int32) (s2 : Int32) (M : mk_M) : Option (Int32 × mk_M) := ((f_X6_within s2 s1 s0 M).bind (fun r_40 => (if r_40 = 0 then (f_X6_release_63 l1 l2 l3 M) else (f_X6_release_64 l1 l2 l3 1 M))))
set_option maxHeartbeats 4000000 in
set_option maxRecDepth 100000 in
theorem w_X6_release_53 {p : Program} {l : Launch} {e : Env} {s : State} {m : MethodId} {args : Array Value} {below : List Frame} {meth : Method} {c : Code} {D : va_G} {E : mk_E} {L : Nat → Int64} (C0 : mk_C p s m args meth c cX6_release 6 wsX6_release RX6 (some .int) D E) : ∀ (l1 : Int32) (l2 : Int32) (l3 : Int32) (s0 : Int32) (s1 : Int32) (s2 : Int32) (M : mk_M) (q : Int32 × mk_M), f_X6_release_53 l1 l2 l3 s0 s1 s2 M = some q → ∀ (H : Heap) (locs : List Loc) (ls : Array Slot), va_P D vwCl (mk_wl E M L) H → va_S (mk_A E) s.heap H locs → lv_has ls 6 [(0, .ref (E.1 68)), (1, .int l1), (2, .int l2), (3, .int l3)] → W p l e rm_X6_release s m args below meth c H locs 0 0 (MQ below (mk_Qi D E L q.1 q.2) args s 0 0 (mk_A E)) (F0 m 53 ls [.int s0, .int s1, .int s2]) := by
  obtain ⟨hx, hb, hml, hown, hts, hr, hlk, hK, hD, hN⟩ := id C0
  intro l1 l2 l3 s0 s1 s2 M q h H locs ls hP hS hl
  replace h : ((f_X6_within s2 s1 s0 M).bind (fun r_40 => (if r_40 = 0 then (f_X6_release_63 l1 l2 l3 M) else (f_X6_release_64 l1 l2 l3 1 M)))) = some q := h
  obtain ⟨r_40, e_39, h⟩ := mk_bind h
  refine va_calli (va_runS (As := [.int s2, .int s1, .int s0]) (rest := []) ⟨hx, hb, hml, hown, hts⟩ (c_X6_within l D E L s2 s1 s0 M  e_39) (cwS 3 hts gX6_release_X6_within rfl rfl rfl (by decide +kernel) ⟨Nat.le_of_ble_eq_true rfl, Nat.le_of_ble_eq_true rfl⟩) ⟨mk_W.blind, fun U hU hW => ⟨rfl, mk_W.at hU hW hP hK (hD _ _) hN⟩⟩ rfl rfl hl.1 rfl (lv_room (Nat.le_of_ble_eq_true rfl)) dX6_release_53 ⟨Nat.zero_le _, Nat.zero_le _⟩) hS (fun q _ h => h) (fun q h => h) (fun v_42 u t H1 locs ht hvm hw hB hz1 hk1 hS => ?_)
  subst v_42
  rw [ht] at hB
  replace hP := hB
  clear hB hz1 hk1 hvm ht
  generalize H1 = H at hP hS ⊢
  refine lv_if_eq (tgt := 63) hx hb dX6_release_56 (by decide) (fun c_41 => ?_) (fun c_41 => ?_)
  · replace h := (if_pos c_41).symm.trans h
    exact w_X6_release_63 C0 l1 l2 l3 M _ h _ _ _ hP hS (lv_sub hl [0, 1, 2, 3] rfl)
  · replace h := (if_neg c_41).symm.trans h
    refine lv_iconst (v := 1) hx hb dX6_release_59 (by decide) ?_
    refine lv_goto (tgt := 64) hx hb dX6_release_60 (by decide) ?_
    exact w_X6_release_64 C0 l1 l2 l3 1 M _ h _ _ _ hP hS (lv_sub hl [0, 1, 2, 3] rfl)
def f_X6_release_22 (l1 : Int32) (l2 : Int32) (s0 : Int32) (M : mk_M) : Option (Int32 × mk_M) := (if s0 = 0 then (f_X6_release_63 l1 l2 s0 M) else (if mk_ob l1 13 then none else (if (M 74 (l1).toNatClampNeg) ≤ 0 then (if mk_ob l1 13 then none else (f_X6_release_53 l1 l2 s0 (M 73 (l1).toNatClampNeg) 1 l2 M)) else (if mk_ob l1 13 then none else (f_X6_release_53 l1 l2 s0 (M 74 (l1).toNatClampNeg) 1 l2 M)))))
set_option maxHeartbeats 4000000 in
set_option maxRecDepth 100000 in
theorem w_X6_release_22 {p : Program} {l : Launch} {e : Env} {s : State} {m : MethodId} {args : Array Value} {below : List Frame} {meth : Method} {c : Code} {D : va_G} {E : mk_E} {L : Nat → Int64} (C0 : mk_C p s m args meth c cX6_release 6 wsX6_release RX6 (some .int) D E) : ∀ (l1 : Int32) (l2 : Int32) (s0 : Int32) (M : mk_M) (q : Int32 × mk_M), f_X6_release_22 l1 l2 s0 M = some q → ∀ (H : Heap) (locs : List Loc) (ls : Array Slot), va_P D vwCl (mk_wl E M L) H → va_S (mk_A E) s.heap H locs → lv_has ls 6 [(0, .ref (E.1 68)), (1, .int l1), (2, .int l2)] → W p l e rm_X6_release s m args below meth c H locs 0 0 (MQ below (mk_Qi D E L q.1 q.2) args s 0 0 (mk_A E)) (F0 m 22 ls [.int s0]) := by
  obtain ⟨hx, hb, hml, hown, hts, hr, hlk, hK, hD, hN⟩ := id C0
  intro l1 l2 s0 M q h H locs ls hP hS hl
  replace h : (if s0 = 0 then (f_X6_release_63 l1 l2 s0 M) else (if mk_ob l1 13 then none else (if (M 74 (l1).toNatClampNeg) ≤ 0 then (if mk_ob l1 13 then none else (f_X6_release_53 l1 l2 s0 (M 73 (l1).toNatClampNeg) 1 l2 M)) else (if mk_ob l1 13 then none else (f_X6_release_53 l1 l2 s0 (M 74 (l1).toNatClampNeg) 1 l2 M))))) = some q := h
  refine lv_istore_n (lv' := [(3, .int s0), (0, .ref (E.1 68)), (1, .int l1), (2, .int l2)]) hx hb dX6_release_22 rfl hl (by decide) rfl (fun ls hl => ?_)
  refine lv_iload_n hx hb dX6_release_23 rfl (lv_at hl 0 rfl) ?_
  refine lv_if_eq (tgt := 63) hx hb dX6_release_24 (by decide) (fun c_4 => ?_) (fun c_4 => ?_)
  · replace h := (if_pos c_4).symm.trans h
    exact w_X6_release_63 C0 l1 l2 s0 M _ h _ _ _ hP hS (lv_sub hl [1, 2, 3, 0] rfl)
  · replace h := (if_neg c_4).symm.trans h
    refine lv_iload_n hx hb dX6_release_27 rfl (lv_at hl 3 rfl) ?_
    refine lv_iconst (v := 1) hx hb dX6_release_28 (by decide) ?_
    refine lv_aload_n hx hb dX6_release_29 rfl (lv_at hl 1 rfl) ?_
    refine mk_g6_6 hx hb hts in_X6_release_X6 hown hK hP (by decide) rfl (hts (.fieldLink RX6 26 "MixedKernelModel" "highs" "[I") (by decide +kernel)) dX6_release_30 ?_
    refine lv_iload_n hx hb dX6_release_33 rfl (lv_at hl 2 rfl) ?_
    obtain ⟨i_36, h⟩ := mk_ifn h
    refine mk_ia hx hb hK hP (by decide) rfl i_36 dX6_release_34 ?_
    refine lv_if_le (tgt := 47) hx hb dX6_release_35 (by decide) (fun c_37 => ?_) (fun c_37 => ?_)
    · replace h := (if_pos c_37).symm.trans h
      refine lv_aload_n hx hb dX6_release_47 rfl (lv_at hl 1 rfl) ?_
      refine mk_g6_5 hx hb hts in_X6_release_X6 hown hK hP (by decide) rfl (hts (.fieldLink RX6 23 "MixedKernelModel" "lows" "[I") (by decide +kernel)) dX6_release_48 ?_
      refine lv_iload_n hx hb dX6_release_51 rfl (lv_at hl 2 rfl) ?_
      obtain ⟨i_38, h⟩ := mk_ifn h
      refine mk_ia hx hb hK hP (by decide) rfl i_38 dX6_release_52 ?_
      exact w_X6_release_53 C0 l1 l2 s0 (M 73 (l1).toNatClampNeg) 1 l2 M _ h _ _ _ hP hS (lv_sub hl [1, 2, 3, 0] rfl)
    · replace h := (if_neg c_37).symm.trans h
      refine lv_aload_n hx hb dX6_release_38 rfl (lv_at hl 1 rfl) ?_
      refine mk_g6_6 hx hb hts in_X6_release_X6 hown hK hP (by decide) rfl (hts (.fieldLink RX6 26 "MixedKernelModel" "highs" "[I") (by decide +kernel)) dX6_release_39 ?_
      refine lv_iload_n hx hb dX6_release_42 rfl (lv_at hl 2 rfl) ?_
      obtain ⟨i_43, h⟩ := mk_ifn h
      refine mk_ia hx hb hK hP (by decide) rfl i_43 dX6_release_43 ?_
      refine lv_goto (tgt := 53) hx hb dX6_release_44 (by decide) ?_
      exact w_X6_release_53 C0 l1 l2 s0 (M 74 (l1).toNatClampNeg) 1 l2 M _ h _ _ _ hP hS (lv_sub hl [1, 2, 3, 0] rfl)
def f_X6_release_21 (l1 : Int32) (l2 : Int32) (M : mk_M) : Option (Int32 × mk_M) := (f_X6_release_22 l1 l2 0 M)
set_option maxHeartbeats 4000000 in
set_option maxRecDepth 100000 in
theorem w_X6_release_21 {p : Program} {l : Launch} {e : Env} {s : State} {m : MethodId} {args : Array Value} {below : List Frame} {meth : Method} {c : Code} {D : va_G} {E : mk_E} {L : Nat → Int64} (C0 : mk_C p s m args meth c cX6_release 6 wsX6_release RX6 (some .int) D E) : ∀ (l1 : Int32) (l2 : Int32) (M : mk_M) (q : Int32 × mk_M), f_X6_release_21 l1 l2 M = some q → ∀ (H : Heap) (locs : List Loc) (ls : Array Slot), va_P D vwCl (mk_wl E M L) H → va_S (mk_A E) s.heap H locs → lv_has ls 6 [(0, .ref (E.1 68)), (1, .int l1), (2, .int l2)] → W p l e rm_X6_release s m args below meth c H locs 0 0 (MQ below (mk_Qi D E L q.1 q.2) args s 0 0 (mk_A E)) (F0 m 21 ls []) := by
  obtain ⟨hx, hb, hml, hown, hts, hr, hlk, hK, hD, hN⟩ := id C0
  intro l1 l2 M q h H locs ls hP hS hl
  replace h : (f_X6_release_22 l1 l2 0 M) = some q := h
  refine lv_iconst (v := 0) hx hb dX6_release_21 (by decide) ?_
  exact w_X6_release_22 C0 l1 l2 0 M _ h _ _ _ hP hS (lv_sub hl [0, 1, 2] rfl)
def f_X6_release (a1 : Int32) (a2 : Int32) (M : mk_M) : Option (Int32 × mk_M) := ((f_X6_isKnown a1 M).bind (fun r_2 => (if r_2 = 0 then (f_X6_release_21 a1 a2 M) else ((f_X6_place a1 M).bind (fun r_45 => (if r_45 = (-1) then (f_X6_release_21 a1 a2 M) else (f_X6_release_22 a1 a2 1 M)))))))
set_option maxHeartbeats 4000000 in
set_option maxRecDepth 100000 in
theorem c_X6_release (l : Launch) (D : va_G) (E : mk_E) (L : Nat → Int64) (a1 : Int32) (a2 : Int32) (M : mk_M) {q : Int32 × mk_M} (h : f_X6_release a1 a2 M = some q) : Met l yX6_release wsX6_release rm_X6_release (va_Pc [.ref (E.1 68), .int a1, .int a2] (mk_W D E M L)) (mk_Qi D E L q.1 q.2) 0 0 (mk_A E) := by
  refine Met.ofW (cc := cX6_release) (maxL := 6) (ret := (some .int)) (by decide) rfl ?_
  intro p e s m args below meth c s₁ B hml hv
  obtain ⟨rfl, hP, hK, hD0, hN⟩ := hv
  have hx := B.exec
  have hb := B.bytes
  have hr := B.returns
  have hts := atoms_spec (ws := wsX6_release) B.pre
  have hown : s.vm.findClass RX6 = some m.cls := findClass_of_methodNamed B.named
  have hlk := B.notSynchronized
  have hD : ∀ (M : mk_M) (L : Nat → Int64), va_D (mk_A E) (mk_wl E M L) := fun _ _ => mk_D hD0
  have C0 : mk_C p s m [.ref (E.1 68), .int a1, .int a2].toArray meth c cX6_release 6 wsX6_release RX6 (some .int) D E := ⟨hx, hb, hml, hown, hts, hr, hlk, hK, hD, hN⟩
  have hS : va_S (mk_A E) s.heap s.heap [] := va_S.rf
  have hl := lv_entry ([.ref (E.1 68), .int a1, .int a2]) (n := 6) (Nat.le_of_ble_eq_true rfl)
  rw [lg_entry_eq]
  generalize (lg_sl ([.ref (E.1 68), .int a1, .int a2]) ++ List.replicate (6 - (lg_sl ([.ref (E.1 68), .int a1, .int a2])).length) Slot.unset).toArray = ls at hl ⊢
  have hl : lv_has ls 6 [(0, .ref (E.1 68)), (1, .int a1), (2, .int a2)] := hl
  replace h : ((f_X6_isKnown a1 M).bind (fun r_2 => (if r_2 = 0 then (f_X6_release_21 a1 a2 M) else ((f_X6_place a1 M).bind (fun r_45 => (if r_45 = (-1) then (f_X6_release_21 a1 a2 M) else (f_X6_release_22 a1 a2 1 M))))))) = some q := h
  refine lv_aload_n hx hb dX6_release_0 rfl (lv_at hl 0 rfl) ?_
  refine lv_iload_n hx hb dX6_release_1 rfl (lv_at hl 1 rfl) ?_
  obtain ⟨r_2, e_1, h⟩ := mk_bind h
  refine va_calli (va_runV (As := [.int a1]) (rest := []) ⟨hx, hb, hml, hown, hts⟩ (c_X6_isKnown l D E L a1 M  e_1) (cwV 1 hts gX6_release_X6_isKnown rfl rfl rfl (by decide +kernel) ⟨Nat.le_of_ble_eq_true rfl, Nat.le_of_ble_eq_true rfl⟩) ⟨mk_W.blind, mk_rc6 hK hP (by decide) rfl, fun U hU hW => ⟨rfl, mk_W.at hU hW hP hK (hD _ _) hN⟩⟩ rfl rfl hl.1 rfl (lv_room (Nat.le_of_ble_eq_true rfl)) dX6_release_2 ⟨Nat.zero_le _, Nat.zero_le _⟩) hS (fun q _ h => h) (fun q h => h) (fun v_48 u t H1 locs ht hvm hw hB hz1 hk1 hS => ?_)
  subst v_48
  rw [ht] at hB
  replace hP := hB
  clear hB hz1 hk1 hvm ht
  generalize H1 = H at hP hS ⊢
  refine lv_if_eq (tgt := 21) hx hb dX6_release_5 (by decide) (fun c_3 => ?_) (fun c_3 => ?_)
  · replace h := (if_pos c_3).symm.trans h
    exact w_X6_release_21 C0 a1 a2 M _ h _ _ _ hP hS (lv_sub hl [0, 1, 2] rfl)
  · replace h := (if_neg c_3).symm.trans h
    refine lv_aload_n hx hb dX6_release_8 rfl (lv_at hl 0 rfl) ?_
    refine lv_iload_n hx hb dX6_release_9 rfl (lv_at hl 1 rfl) ?_
    obtain ⟨r_45, e_44, h⟩ := mk_bind h
    refine va_calli (va_runV (As := [.int a1]) (rest := []) ⟨hx, hb, hml, hown, hts⟩ (c_X6_place l D E L a1 M  e_44) (cwV 1 hts gX6_release_X6_place rfl rfl rfl (by decide +kernel) ⟨Nat.le_of_ble_eq_true rfl, Nat.le_of_ble_eq_true rfl⟩) ⟨mk_W.blind, mk_rc6 hK hP (by decide) rfl, fun U hU hW => ⟨rfl, mk_W.at hU hW hP hK (hD _ _) hN⟩⟩ rfl rfl hl.1 rfl (lv_room (Nat.le_of_ble_eq_true rfl)) dX6_release_10 ⟨Nat.zero_le _, Nat.zero_le _⟩) hS (fun q _ h => h) (fun q h => h) (fun v_47 u t H1 locs ht hvm hw hB hz1 hk1 hS => ?_)
    subst v_47
    rw [ht] at hB
    replace hP := hB
    clear hB hz1 hk1 hvm ht
    generalize H1 = H at hP hS ⊢
    refine lv_iconst (v := -1) hx hb dX6_release_13 (by decide) ?_
    refine lv_icmp_eq (tgt := 21) hx hb dX6_release_14 (by decide) (fun c_46 => ?_) (fun c_46 => ?_)
    · replace h := (if_pos c_46).symm.trans h
      exact w_X6_release_21 C0 a1 a2 M _ h _ _ _ hP hS (lv_sub hl [0, 1, 2] rfl)
    · replace h := (if_neg c_46).symm.trans h
      refine lv_iconst (v := 1) hx hb dX6_release_17 (by decide) ?_
      refine lv_goto (tgt := 22) hx hb dX6_release_18 (by decide) ?_
      exact w_X6_release_22 C0 a1 a2 1 M _ h _ _ _ hP hS (lv_sub hl [0, 1, 2] rfl)
abbrev rm_X6_giveUp : Room := { frames := 4, cells := 0, slots := 0, locals := 89 }
theorem in_X6_giveUp_X6 : ∀ w ∈ wsX60, w ∈ wsX6_giveUp := by decide +kernel
def f_X6_giveUp_91 : Nat → Int32 → mk_M → Option (mk_M)
  | 0, _, _ => none
  | n + 1, l1, M => (if 13 ≤ l1 then (some M) else (if mk_ob l1 13 then none else (if (M 74 (l1).toNatClampNeg) = 0 then ((f_X6_leave l1 M).bind (fun r_6 => (f_X6_giveUp_91 n (l1 + 1) r_6))) else (f_X6_giveUp_91 n (l1 + 1) M))))
set_option maxHeartbeats 4000000 in
set_option maxRecDepth 100000 in
theorem w_X6_giveUp_91 {p : Program} {l : Launch} {e : Env} {s : State} {m : MethodId} {args : Array Value} {below : List Frame} {meth : Method} {c : Code} {D : va_G} {E : mk_E} {L : Nat → Int64} (C0 : mk_C p s m args meth c cX6_giveUp 3 wsX6_giveUp RX6 none D E) : ∀ n : Nat, ∀ (l1 : Int32) (M : mk_M) (q : mk_M), f_X6_giveUp_91 n l1 M = some q → ∀ (H : Heap) (locs : List Loc) (ls : Array Slot), va_P D vwCl (mk_wl E M L) H → va_S (mk_A E) s.heap H locs → lv_has ls 3 [(0, .ref (E.1 68)), (1, .int l1)] → W p l e rm_X6_giveUp s m args below meth c H locs 0 0 (MQ below (mk_Qv D E L q) args s 0 0 (mk_A E)) (F0 m 91 ls []) := by
  obtain ⟨hx, hb, hml, hown, hts, hr, hlk, hK, hD, hN⟩ := id C0
  intro n
  induction n with
  | zero =>
    intro l1 M q h
    cases h
  | succ n ih =>
    intro l1 M q h H locs ls hP hS hl
    replace h : (if 13 ≤ l1 then (some M) else (if mk_ob l1 13 then none else (if (M 74 (l1).toNatClampNeg) = 0 then ((f_X6_leave l1 M).bind (fun r_6 => (f_X6_giveUp_91 n (l1 + 1) r_6))) else (f_X6_giveUp_91 n (l1 + 1) M)))) = some q := h
    refine lv_iload_n hx hb dX6_giveUp_91 rfl (lv_at hl 1 rfl) ?_
    refine lv_bipush (v := 13) hx hb dX6_giveUp_92 (by decide) ?_
    refine lv_icmp_ge (tgt := 117) hx hb dX6_giveUp_94 (by decide) (fun c_2 => ?_) (fun c_2 => ?_)
    · replace h := (if_pos c_2).symm.trans h
      replace h := Option.some.inj h
      subst q
      exact W.vret hx hb hr (fun t ht hW => ⟨⟨(), rfl, trivial, by rw [← ht] at hP; exact hP⟩, hS.F ht⟩) hS.2.2 dX6_giveUp_117
    · replace h := (if_neg c_2).symm.trans h
      refine lv_aload_n hx hb dX6_giveUp_97 rfl (lv_at hl 0 rfl) ?_
      refine mk_g6_6 hx hb hts in_X6_giveUp_X6 hown hK hP (by decide) rfl (hts (.fieldLink RX6 26 "MixedKernelModel" "highs" "[I") (by decide +kernel)) dX6_giveUp_98 ?_
      refine lv_iload_n hx hb dX6_giveUp_101 rfl (lv_at hl 1 rfl) ?_
      obtain ⟨i_3, h⟩ := mk_ifn h
      refine mk_ia hx hb hK hP (by decide) rfl i_3 dX6_giveUp_102 ?_
      refine lv_if_ne (tgt := 111) hx hb dX6_giveUp_103 (by decide) (fun c_4 => ?_) (fun c_4 => ?_)
      · replace h := (if_neg c_4).symm.trans h
        refine lv_iinc (v := l1 + 1) (lv' := [(1, .int (l1 + 1)), (0, .ref (E.1 68))]) hx hb dX6_giveUp_111 hl (k := 1) rfl rfl (by decide) rfl (fun ls hl => ?_)
        refine lv_goto (tgt := 91) hx hb dX6_giveUp_114 (by decide) ?_
        exact ih (l1 + 1) M _ h _ _ _ hP hS (lv_sub hl [1, 0] rfl)
      · replace h := (if_pos c_4).symm.trans h
        refine lv_aload_n hx hb dX6_giveUp_106 rfl (lv_at hl 0 rfl) ?_
        refine lv_iload_n hx hb dX6_giveUp_107 rfl (lv_at hl 1 rfl) ?_
        obtain ⟨r_6, e_5, h⟩ := mk_bind h
        refine va_callv (va_runV (As := [.int l1]) (rest := []) ⟨hx, hb, hml, hown, hts⟩ (c_X6_leave l D E L l1 M  e_5) (cwV 1 hts gX6_giveUp_X6_leave rfl rfl rfl (by decide +kernel) ⟨Nat.le_of_ble_eq_true rfl, Nat.le_of_ble_eq_true rfl⟩) ⟨mk_W.blind, mk_rc6 hK hP (by decide) rfl, fun U hU hW => ⟨rfl, mk_W.at hU hW hP hK (hD _ _) hN⟩⟩ rfl rfl hl.1 rfl (lv_room (Nat.le_of_ble_eq_true rfl)) dX6_giveUp_108 ⟨Nat.zero_le _, Nat.zero_le _⟩) hS (fun q _ h => h) (fun q h => h) (fun u t H1 locs ht hvm hw hB hz1 hk1 hS => ?_)
        rw [ht] at hB
        replace hP := hB
        clear hB hz1 hk1 hvm ht
        generalize H1 = H at hP hS ⊢
        refine lv_iinc (v := l1 + 1) (lv' := [(1, .int (l1 + 1)), (0, .ref (E.1 68))]) hx hb dX6_giveUp_111 hl (k := 1) rfl rfl (by decide) rfl (fun ls hl => ?_)
        refine lv_goto (tgt := 91) hx hb dX6_giveUp_114 (by decide) ?_
        exact ih (l1 + 1) r_6 _ h _ _ _ hP hS (lv_sub hl [1, 0] rfl)
def f_X6_giveUp_18 (K2 : Int32 → mk_M → Option (mk_M)) : Nat → Int32 → Int32 → mk_M → Option (mk_M)
  | 0, _, _, _ => none
  | n + 1, l1, l2, M => (if mk_ob l1 13 then none else (if (M 78 (l1).toNatClampNeg) < l2 then (K2 (l1 + 1) M) else (if mk_ob l1 13 then none else (if (M 69 (l1).toNatClampNeg) = 0 then (K2 (l1 + 1) M) else (if mk_ob l1 13 then none else (if (M 74 (l1).toNatClampNeg) = 0 then ((f_X6_isPending l1 l2 M).bind (fun r_15 => (if r_15 = 0 then (f_X6_giveUp_18 K2 n l1 (l2 + 1) M) else ((f_X6_at l1 l2 M).bind (fun r_18 => (if mk_ob r_18 104 then none else (f_X6_giveUp_18 K2 n l1 (l2 + 1) (mk_st (mk_st M 86 (r_18).toNatClampNeg (-2)) 68 26 (((mk_st M 86 (r_18).toNatClampNeg (-2)) 68 26) + 1))))))))) else (K2 (l1 + 1) M)))))))
set_option maxHeartbeats 4000000 in
set_option maxRecDepth 100000 in
theorem w_X6_giveUp_18 {p : Program} {l : Launch} {e : Env} {s : State} {m : MethodId} {args : Array Value} {below : List Frame} {meth : Method} {c : Code} {D : va_G} {E : mk_E} {L : Nat → Int64} (C0 : mk_C p s m args meth c cX6_giveUp 3 wsX6_giveUp RX6 none D E) (K2 : Int32 → mk_M → Option (mk_M)) (hK2 : ∀ (l1 : Int32) (M : mk_M) (q : mk_M), K2 l1 M = some q → ∀ (H : Heap) (locs : List Loc) (ls : Array Slot), va_P D vwCl (mk_wl E M L) H → va_S (mk_A E) s.heap H locs → lv_has ls 3 [(0, .ref (E.1 68)), (1, .int l1)] → W p l e rm_X6_giveUp s m args below meth c H locs 0 0 (MQ below (mk_Qv D E L q) args s 0 0 (mk_A E)) (F0 m 2 ls [])) : ∀ n : Nat, ∀ (l1 : Int32) (l2 : Int32) (M : mk_M) (q : mk_M), f_X6_giveUp_18 K2 n l1 l2 M = some q → ∀ (H : Heap) (locs : List Loc) (ls : Array Slot), va_P D vwCl (mk_wl E M L) H → va_S (mk_A E) s.heap H locs → lv_has ls 3 [(0, .ref (E.1 68)), (1, .int l1), (2, .int l2)] → W p l e rm_X6_giveUp s m args below meth c H locs 0 0 (MQ below (mk_Qv D E L q) args s 0 0 (mk_A E)) (F0 m 18 ls []) := by
  obtain ⟨hx, hb, hml, hown, hts, hr, hlk, hK, hD, hN⟩ := id C0
  intro n
  induction n with
  | zero =>
    intro l1 l2 M q h
    cases h
  | succ n ih =>
    intro l1 l2 M q h H locs ls hP hS hl
    replace h : (if mk_ob l1 13 then none else (if (M 78 (l1).toNatClampNeg) < l2 then (K2 (l1 + 1) M) else (if mk_ob l1 13 then none else (if (M 69 (l1).toNatClampNeg) = 0 then (K2 (l1 + 1) M) else (if mk_ob l1 13 then none else (if (M 74 (l1).toNatClampNeg) = 0 then ((f_X6_isPending l1 l2 M).bind (fun r_15 => (if r_15 = 0 then (f_X6_giveUp_18 K2 n l1 (l2 + 1) M) else ((f_X6_at l1 l2 M).bind (fun r_18 => (if mk_ob r_18 104 then none else (f_X6_giveUp_18 K2 n l1 (l2 + 1) (mk_st (mk_st M 86 (r_18).toNatClampNeg (-2)) 68 26 (((mk_st M 86 (r_18).toNatClampNeg (-2)) 68 26) + 1))))))))) else (K2 (l1 + 1) M))))))) = some q := h
    refine lv_iload_n hx hb dX6_giveUp_18 rfl (lv_at hl 2 rfl) ?_
    refine lv_aload_n hx hb dX6_giveUp_19 rfl (lv_at hl 0 rfl) ?_
    refine mk_g6_12 hx hb hts in_X6_giveUp_X6 hown hK hP (by decide) rfl (hts (.fieldLink RX6 38 "MixedKernelModel" "jobs" "[I") (by decide +kernel)) dX6_giveUp_20 ?_
    refine lv_iload_n hx hb dX6_giveUp_23 rfl (lv_at hl 1 rfl) ?_
    obtain ⟨i_8, h⟩ := mk_ifn h
    refine mk_ia hx hb hK hP (by decide) rfl i_8 dX6_giveUp_24 ?_
    refine lv_icmp_gt (tgt := 83) hx hb dX6_giveUp_25 (by decide) (fun c_9 => ?_) (fun c_9 => ?_)
    · replace h := (if_pos c_9).symm.trans h
      refine lv_iinc (v := l1 + 1) (lv' := [(1, .int (l1 + 1)), (0, .ref (E.1 68)), (2, .int l2)]) hx hb dX6_giveUp_83 hl (k := 1) rfl rfl (by decide) rfl (fun ls hl => ?_)
      refine lv_goto (tgt := 2) hx hb dX6_giveUp_86 (by decide) ?_
      exact hK2 (l1 + 1) M _ h _ _ _ hP hS (lv_sub hl [1, 0] rfl)
    · replace h := (if_neg c_9).symm.trans h
      refine lv_aload_n hx hb dX6_giveUp_28 rfl (lv_at hl 0 rfl) ?_
      refine mk_g6_1 hx hb hts in_X6_giveUp_X6 hown hK hP (by decide) rfl (hts (.fieldLink RX6 7 "MixedKernelModel" "known" "[Z") (by decide +kernel)) dX6_giveUp_29 ?_
      refine lv_iload_n hx hb dX6_giveUp_32 rfl (lv_at hl 1 rfl) ?_
      obtain ⟨i_10, h⟩ := mk_ifn h
      refine mk_za hx hb hK hP (by decide) rfl i_10 dX6_giveUp_33 ?_
      refine lv_if_eq (tgt := 83) hx hb dX6_giveUp_34 (by decide) (fun c_11 => ?_) (fun c_11 => ?_)
      · replace h := (if_pos c_11).symm.trans h
        refine lv_iinc (v := l1 + 1) (lv' := [(1, .int (l1 + 1)), (0, .ref (E.1 68)), (2, .int l2)]) hx hb dX6_giveUp_83 hl (k := 1) rfl rfl (by decide) rfl (fun ls hl => ?_)
        refine lv_goto (tgt := 2) hx hb dX6_giveUp_86 (by decide) ?_
        exact hK2 (l1 + 1) M _ h _ _ _ hP hS (lv_sub hl [1, 0] rfl)
      · replace h := (if_neg c_11).symm.trans h
        refine lv_aload_n hx hb dX6_giveUp_37 rfl (lv_at hl 0 rfl) ?_
        refine mk_g6_6 hx hb hts in_X6_giveUp_X6 hown hK hP (by decide) rfl (hts (.fieldLink RX6 26 "MixedKernelModel" "highs" "[I") (by decide +kernel)) dX6_giveUp_38 ?_
        refine lv_iload_n hx hb dX6_giveUp_41 rfl (lv_at hl 1 rfl) ?_
        obtain ⟨i_12, h⟩ := mk_ifn h
        refine mk_ia hx hb hK hP (by decide) rfl i_12 dX6_giveUp_42 ?_
        refine lv_if_ne (tgt := 83) hx hb dX6_giveUp_43 (by decide) (fun c_13 => ?_) (fun c_13 => ?_)
        · replace h := (if_neg c_13).symm.trans h
          refine lv_iinc (v := l1 + 1) (lv' := [(1, .int (l1 + 1)), (0, .ref (E.1 68)), (2, .int l2)]) hx hb dX6_giveUp_83 hl (k := 1) rfl rfl (by decide) rfl (fun ls hl => ?_)
          refine lv_goto (tgt := 2) hx hb dX6_giveUp_86 (by decide) ?_
          exact hK2 (l1 + 1) M _ h _ _ _ hP hS (lv_sub hl [1, 0] rfl)
        · replace h := (if_pos c_13).symm.trans h
          refine lv_aload_n hx hb dX6_giveUp_46 rfl (lv_at hl 0 rfl) ?_
          refine lv_iload_n hx hb dX6_giveUp_47 rfl (lv_at hl 1 rfl) ?_
          refine lv_iload_n hx hb dX6_giveUp_48 rfl (lv_at hl 2 rfl) ?_
          obtain ⟨r_15, e_14, h⟩ := mk_bind h
          refine va_calli (va_runV (As := [.int l1, .int l2]) (rest := []) ⟨hx, hb, hml, hown, hts⟩ (c_X6_isPending l D E L l1 l2 M  e_14) (cwV 2 hts gX6_giveUp_X6_isPending rfl rfl rfl (by decide +kernel) ⟨Nat.le_of_ble_eq_true rfl, Nat.le_of_ble_eq_true rfl⟩) ⟨mk_W.blind, mk_rc6 hK hP (by decide) rfl, fun U hU hW => ⟨rfl, mk_W.at hU hW hP hK (hD _ _) hN⟩⟩ rfl rfl hl.1 rfl (lv_room (Nat.le_of_ble_eq_true rfl)) dX6_giveUp_49 ⟨Nat.zero_le _, Nat.zero_le _⟩) hS (fun q _ h => h) (fun q h => h) (fun v_21 u t H1 locs ht hvm hw hB hz1 hk1 hS => ?_)
          subst v_21
          rw [ht] at hB
          replace hP := hB
          clear hB hz1 hk1 hvm ht
          generalize H1 = H at hP hS ⊢
          refine lv_if_eq (tgt := 77) hx hb dX6_giveUp_52 (by decide) (fun c_16 => ?_) (fun c_16 => ?_)
          · replace h := (if_pos c_16).symm.trans h
            refine lv_iinc (v := l2 + 1) (lv' := [(2, .int (l2 + 1)), (0, .ref (E.1 68)), (1, .int l1)]) hx hb dX6_giveUp_77 hl (k := 2) rfl rfl (by decide) rfl (fun ls hl => ?_)
            refine lv_goto (tgt := 18) hx hb dX6_giveUp_80 (by decide) ?_
            exact ih l1 (l2 + 1) M _ h _ _ _ hP hS (lv_sub hl [1, 2, 0] rfl)
          · replace h := (if_neg c_16).symm.trans h
            refine lv_aload_n hx hb dX6_giveUp_55 rfl (lv_at hl 0 rfl) ?_
            refine mk_g6_20 hx hb hts in_X6_giveUp_X6 hown hK hP (by decide) rfl (hts (.fieldLink RX6 62 "MixedKernelModel" "ends" "[I") (by decide +kernel)) dX6_giveUp_56 ?_
            refine lv_iload_n hx hb dX6_giveUp_59 rfl (lv_at hl 1 rfl) ?_
            refine lv_iload_n hx hb dX6_giveUp_60 rfl (lv_at hl 2 rfl) ?_
            obtain ⟨r_18, e_17, h⟩ := mk_bind h
            refine va_calli (va_runS (As := [.int l1, .int l2]) (rest := [.ref (E.1 86)]) ⟨hx, hb, hml, hown, hts⟩ (c_X6_at l D E L l1 l2 M  e_17) (cwS 2 hts gX6_giveUp_X6_at rfl rfl rfl (by decide +kernel) ⟨Nat.le_of_ble_eq_true rfl, Nat.le_of_ble_eq_true rfl⟩) ⟨mk_W.blind, fun U hU hW => ⟨rfl, mk_W.at hU hW hP hK (hD _ _) hN⟩⟩ rfl rfl hl.1 rfl (lv_room (Nat.le_of_ble_eq_true rfl)) dX6_giveUp_61 ⟨Nat.zero_le _, Nat.zero_le _⟩) hS (fun q _ h => h) (fun q h => h) (fun v_20 u t H1 locs ht hvm hw hB hz1 hk1 hS => ?_)
            subst v_20
            rw [ht] at hB
            replace hP := hB
            clear hB hz1 hk1 hvm ht
            generalize H1 = H at hP hS ⊢
            refine lv_bipush (v := -2) hx hb dX6_giveUp_64 (by decide) ?_
            obtain ⟨i_19, h⟩ := mk_ifn h
            refine mk_is hx hb hK hP (hD _ _) hS (by decide) rfl i_19 dX6_giveUp_66 (fun H locs hP hS => ?_)
            refine lv_aload_n hx hb dX6_giveUp_67 rfl (lv_at hl 0 rfl) ?_
            refine lv_dup hx hb dX6_giveUp_68 rfl ?_
            refine mk_g6_26 hx hb hts in_X6_giveUp_X6 hown hK hP (by decide) rfl (hts (.fieldLink RX6 158 "MixedKernelModel" "givenUp" "I") (by decide +kernel)) dX6_giveUp_69 ?_
            refine lv_iconst (v := 1) hx hb dX6_giveUp_72 (by decide) ?_
            refine lv_iadd hx hb dX6_giveUp_73 ?_
            refine mk_p6_26 hx hb hts in_X6_giveUp_X6 hown hK hP (by decide) rfl (hD _ _) hS (hts (.fieldLink RX6 158 "MixedKernelModel" "givenUp" "I") (by decide +kernel)) dX6_giveUp_74 (fun H locs hP hS => ?_)
            refine lv_iinc (v := l2 + 1) (lv' := [(2, .int (l2 + 1)), (0, .ref (E.1 68)), (1, .int l1)]) hx hb dX6_giveUp_77 hl (k := 2) rfl rfl (by decide) rfl (fun ls hl => ?_)
            refine lv_goto (tgt := 18) hx hb dX6_giveUp_80 (by decide) ?_
            exact ih l1 (l2 + 1) (mk_st (mk_st M 86 (r_18).toNatClampNeg (-2)) 68 26 (((mk_st M 86 (r_18).toNatClampNeg (-2)) 68 26) + 1)) _ h _ _ _ hP hS (lv_sub hl [1, 2, 0] rfl)
def f_X6_giveUp_2 : Nat → Int32 → mk_M → Option (mk_M)
  | 0, _, _ => none
  | n + 1, l1, M => (if 13 ≤ l1 then (f_X6_giveUp_91 mk_F 1 M) else (if mk_ob l1 13 then none else (f_X6_giveUp_18 (f_X6_giveUp_2 n) mk_F l1 ((M 78 (l1).toNatClampNeg) - 7) M)))
set_option maxHeartbeats 4000000 in
set_option maxRecDepth 100000 in
theorem w_X6_giveUp_2 {p : Program} {l : Launch} {e : Env} {s : State} {m : MethodId} {args : Array Value} {below : List Frame} {meth : Method} {c : Code} {D : va_G} {E : mk_E} {L : Nat → Int64} (C0 : mk_C p s m args meth c cX6_giveUp 3 wsX6_giveUp RX6 none D E) : ∀ n : Nat, ∀ (l1 : Int32) (M : mk_M) (q : mk_M), f_X6_giveUp_2 n l1 M = some q → ∀ (H : Heap) (locs : List Loc) (ls : Array Slot), va_P D vwCl (mk_wl E M L) H → va_S (mk_A E) s.heap H locs → lv_has ls 3 [(0, .ref (E.1 68)), (1, .int l1)] → W p l e rm_X6_giveUp s m args below meth c H locs 0 0 (MQ below (mk_Qv D E L q) args s 0 0 (mk_A E)) (F0 m 2 ls []) := by
  obtain ⟨hx, hb, hml, hown, hts, hr, hlk, hK, hD, hN⟩ := id C0
  intro n
  induction n with
  | zero =>
    intro l1 M q h
    cases h
  | succ n ih =>
    intro l1 M q h H locs ls hP hS hl
    replace h : (if 13 ≤ l1 then (f_X6_giveUp_91 mk_F 1 M) else (if mk_ob l1 13 then none else (f_X6_giveUp_18 (f_X6_giveUp_2 n) mk_F l1 ((M 78 (l1).toNatClampNeg) - 7) M))) = some q := h
    refine lv_iload_n hx hb dX6_giveUp_2 rfl (lv_at hl 1 rfl) ?_
    refine lv_bipush (v := 13) hx hb dX6_giveUp_3 (by decide) ?_
    refine lv_icmp_ge (tgt := 89) hx hb dX6_giveUp_5 (by decide) (fun c_1 => ?_) (fun c_1 => ?_)
    · replace h := (if_pos c_1).symm.trans h
      refine lv_iconst (v := 1) hx hb dX6_giveUp_89 (by decide) ?_
      refine lv_istore_n (lv' := [(1, .int 1), (0, .ref (E.1 68))]) hx hb dX6_giveUp_90 rfl hl (by decide) rfl (fun ls hl => ?_)
      exact w_X6_giveUp_91 C0 mk_F 1 M _ h _ _ _ hP hS (lv_sub hl [1, 0] rfl)
    · replace h := (if_neg c_1).symm.trans h
      refine lv_aload_n hx hb dX6_giveUp_8 rfl (lv_at hl 0 rfl) ?_
      refine mk_g6_12 hx hb hts in_X6_giveUp_X6 hown hK hP (by decide) rfl (hts (.fieldLink RX6 38 "MixedKernelModel" "jobs" "[I") (by decide +kernel)) dX6_giveUp_9 ?_
      refine lv_iload_n hx hb dX6_giveUp_12 rfl (lv_at hl 1 rfl) ?_
      obtain ⟨i_7, h⟩ := mk_ifn h
      refine mk_ia hx hb hK hP (by decide) rfl i_7 dX6_giveUp_13 ?_
      refine lv_bipush (v := 7) hx hb dX6_giveUp_14 (by decide) ?_
      refine lv_isub hx hb dX6_giveUp_16 ?_
      refine lv_istore_n (lv' := [(2, .int ((M 78 (l1).toNatClampNeg) - 7)), (0, .ref (E.1 68)), (1, .int l1)]) hx hb dX6_giveUp_17 rfl hl (by decide) rfl (fun ls hl => ?_)
      exact w_X6_giveUp_18 C0 (f_X6_giveUp_2 n) ih mk_F l1 ((M 78 (l1).toNatClampNeg) - 7) M _ h _ _ _ hP hS (lv_sub hl [1, 2, 0] rfl)
def f_X6_giveUp (M : mk_M) : Option (mk_M) := (f_X6_giveUp_2 mk_F 1 M)
set_option maxHeartbeats 4000000 in
set_option maxRecDepth 100000 in
theorem c_X6_giveUp (l : Launch) (D : va_G) (E : mk_E) (L : Nat → Int64) (M : mk_M) {q : mk_M} (h : f_X6_giveUp M = some q) : Met l yX6_giveUp wsX6_giveUp rm_X6_giveUp (va_Pc [.ref (E.1 68)] (mk_W D E M L)) (mk_Qv D E L q) 0 0 (mk_A E) := by
  refine Met.ofW (cc := cX6_giveUp) (maxL := 3) (ret := none) (by decide) rfl ?_
  intro p e s m args below meth c s₁ B hml hv
  obtain ⟨rfl, hP, hK, hD0, hN⟩ := hv
  have hx := B.exec
  have hb := B.bytes
  have hr := B.returns
  have hts := atoms_spec (ws := wsX6_giveUp) B.pre
  have hown : s.vm.findClass RX6 = some m.cls := findClass_of_methodNamed B.named
  have hlk := B.notSynchronized
  have hD : ∀ (M : mk_M) (L : Nat → Int64), va_D (mk_A E) (mk_wl E M L) := fun _ _ => mk_D hD0
  have C0 : mk_C p s m [.ref (E.1 68)].toArray meth c cX6_giveUp 3 wsX6_giveUp RX6 none D E := ⟨hx, hb, hml, hown, hts, hr, hlk, hK, hD, hN⟩
  have hS : va_S (mk_A E) s.heap s.heap [] := va_S.rf
  have hl := lv_entry ([.ref (E.1 68)]) (n := 3) (Nat.le_of_ble_eq_true rfl)
  rw [lg_entry_eq]
  generalize (lg_sl ([.ref (E.1 68)]) ++ List.replicate (3 - (lg_sl ([.ref (E.1 68)])).length) Slot.unset).toArray = ls at hl ⊢
  have hl : lv_has ls 3 [(0, .ref (E.1 68))] := hl
  replace h : (f_X6_giveUp_2 mk_F 1 M) = some q := h
  refine lv_iconst (v := 1) hx hb dX6_giveUp_0 (by decide) ?_
  refine lv_istore_n (lv' := [(1, .int 1), (0, .ref (E.1 68))]) hx hb dX6_giveUp_1 rfl hl (by decide) rfl (fun ls hl => ?_)
  exact w_X6_giveUp_2 C0 mk_F 1 M _ h _ _ _ hP hS (lv_sub hl [1, 0] rfl)
abbrev rm_X6_firstJob : Room := { frames := 2, cells := 0, slots := 0, locals := 43 }
theorem in_X6_firstJob_X6 : ∀ w ∈ wsX60, w ∈ wsX6_firstJob := by decide +kernel
def f_X6_firstJob_25 : Nat → Int32 → Int32 → mk_M → Option (Int32)
  | 0, _, _, _ => none
  | n + 1, l1, l2, M => ((f_X6_isPending l1 l2 M).bind (fun r_5 => (if r_5 = 0 then (f_X6_firstJob_25 n l1 (l2 + 1) M) else (some l2))))
set_option maxHeartbeats 4000000 in
set_option maxRecDepth 100000 in
theorem w_X6_firstJob_25 {p : Program} {l : Launch} {e : Env} {s : State} {m : MethodId} {args : Array Value} {below : List Frame} {meth : Method} {c : Code} {D : va_G} {E : mk_E} {L : Nat → Int64} (C0 : mk_C p s m args meth c cX6_firstJob 3 wsX6_firstJob RX6 (some .int) D E) : ∀ n : Nat, ∀ (l1 : Int32) (l2 : Int32) (M : mk_M) (q : Int32), f_X6_firstJob_25 n l1 l2 M = some q → ∀ (H : Heap) (locs : List Loc) (ls : Array Slot), va_P D vwCl (mk_wl E M L) H → va_S (mk_A E) s.heap H locs → lv_has ls 3 [(0, .ref (E.1 68)), (1, .int l1), (2, .int l2)] → W p l e rm_X6_firstJob s m args below meth c H locs 0 0 (MQ below (mk_Qi D E L q M) args s 0 0 (mk_A E)) (F0 m 25 ls []) := by
  obtain ⟨hx, hb, hml, hown, hts, hr, hlk, hK, hD, hN⟩ := id C0
  intro n
  induction n with
  | zero =>
    intro l1 l2 M q h
    cases h
  | succ n ih =>
    intro l1 l2 M q h H locs ls hP hS hl
    replace h : ((f_X6_isPending l1 l2 M).bind (fun r_5 => (if r_5 = 0 then (f_X6_firstJob_25 n l1 (l2 + 1) M) else (some l2)))) = some q := h
    refine lv_aload_n hx hb dX6_firstJob_25 rfl (lv_at hl 0 rfl) ?_
    refine lv_iload_n hx hb dX6_firstJob_26 rfl (lv_at hl 1 rfl) ?_
    refine lv_iload_n hx hb dX6_firstJob_27 rfl (lv_at hl 2 rfl) ?_
    obtain ⟨r_5, e_4, h⟩ := mk_bind h
    refine va_calli (va_runV (As := [.int l1, .int l2]) (rest := []) ⟨hx, hb, hml, hown, hts⟩ (c_X6_isPending l D E L l1 l2 M  e_4) (cwV 2 hts gX6_firstJob_X6_isPending rfl rfl rfl (by decide +kernel) ⟨Nat.le_of_ble_eq_true rfl, Nat.le_of_ble_eq_true rfl⟩) ⟨mk_W.blind, mk_rc6 hK hP (by decide) rfl, fun U hU hW => ⟨rfl, mk_W.at hU hW hP hK (hD _ _) hN⟩⟩ rfl rfl hl.1 rfl (lv_room (Nat.le_of_ble_eq_true rfl)) dX6_firstJob_28 ⟨Nat.zero_le _, Nat.zero_le _⟩) hS (fun q _ h => h) (fun q h => h) (fun v_7 u t H1 locs ht hvm hw hB hz1 hk1 hS => ?_)
    subst v_7
    rw [ht] at hB
    replace hP := hB
    clear hB hz1 hk1 hvm ht
    generalize H1 = H at hP hS ⊢
    refine lv_if_ne (tgt := 40) hx hb dX6_firstJob_31 (by decide) (fun c_6 => ?_) (fun c_6 => ?_)
    · replace h := (if_neg c_6).symm.trans h
      refine lv_iload_n hx hb dX6_firstJob_40 rfl (lv_at hl 2 rfl) ?_
      replace h := Option.some.inj h
      subst q
      exact W.iret (v := l2) hx hb hr (fun t ht hW => ⟨⟨_, (), rfl, rfl, by rw [← ht] at hP; exact hP⟩, hS.F ht⟩) hS.2.2 dX6_firstJob_41
    · replace h := (if_pos c_6).symm.trans h
      refine lv_iinc (v := l2 + 1) (lv' := [(2, .int (l2 + 1)), (0, .ref (E.1 68)), (1, .int l1)]) hx hb dX6_firstJob_34 hl (k := 2) rfl rfl (by decide) rfl (fun ls hl => ?_)
      refine lv_goto (tgt := 25) hx hb dX6_firstJob_37 (by decide) ?_
      exact ih l1 (l2 + 1) M _ h _ _ _ hP hS (lv_sub hl [1, 2, 0] rfl)
def f_X6_firstJob (a1 : Int32) (M : mk_M) : Option (Int32) := (if mk_ob a1 13 then none else (if 8 ≤ (M 78 (a1).toNatClampNeg) then (if mk_ob a1 13 then none else (f_X6_firstJob_25 mk_F a1 ((M 78 (a1).toNatClampNeg) - 7) M)) else (f_X6_firstJob_25 mk_F a1 1 M)))
set_option maxHeartbeats 4000000 in
set_option maxRecDepth 100000 in
theorem c_X6_firstJob (l : Launch) (D : va_G) (E : mk_E) (L : Nat → Int64) (a1 : Int32) (M : mk_M) {q : Int32} (h : f_X6_firstJob a1 M = some q) : Met l yX6_firstJob wsX6_firstJob rm_X6_firstJob (va_Pc [.ref (E.1 68), .int a1] (mk_W D E M L)) (mk_Qi D E L q M) 0 0 (mk_A E) := by
  refine Met.ofW (cc := cX6_firstJob) (maxL := 3) (ret := (some .int)) (by decide) rfl ?_
  intro p e s m args below meth c s₁ B hml hv
  obtain ⟨rfl, hP, hK, hD0, hN⟩ := hv
  have hx := B.exec
  have hb := B.bytes
  have hr := B.returns
  have hts := atoms_spec (ws := wsX6_firstJob) B.pre
  have hown : s.vm.findClass RX6 = some m.cls := findClass_of_methodNamed B.named
  have hlk := B.notSynchronized
  have hD : ∀ (M : mk_M) (L : Nat → Int64), va_D (mk_A E) (mk_wl E M L) := fun _ _ => mk_D hD0
  have C0 : mk_C p s m [.ref (E.1 68), .int a1].toArray meth c cX6_firstJob 3 wsX6_firstJob RX6 (some .int) D E := ⟨hx, hb, hml, hown, hts, hr, hlk, hK, hD, hN⟩
  have hS : va_S (mk_A E) s.heap s.heap [] := va_S.rf
  have hl := lv_entry ([.ref (E.1 68), .int a1]) (n := 3) (Nat.le_of_ble_eq_true rfl)
  rw [lg_entry_eq]
  generalize (lg_sl ([.ref (E.1 68), .int a1]) ++ List.replicate (3 - (lg_sl ([.ref (E.1 68), .int a1])).length) Slot.unset).toArray = ls at hl ⊢
  have hl : lv_has ls 3 [(0, .ref (E.1 68)), (1, .int a1)] := hl
  replace h : (if mk_ob a1 13 then none else (if 8 ≤ (M 78 (a1).toNatClampNeg) then (if mk_ob a1 13 then none else (f_X6_firstJob_25 mk_F a1 ((M 78 (a1).toNatClampNeg) - 7) M)) else (f_X6_firstJob_25 mk_F a1 1 M))) = some q := h
  refine lv_aload_n hx hb dX6_firstJob_0 rfl (lv_at hl 0 rfl) ?_
  refine mk_g6_12 hx hb hts in_X6_firstJob_X6 hown hK hP (by decide) rfl (hts (.fieldLink RX6 38 "MixedKernelModel" "jobs" "[I") (by decide +kernel)) dX6_firstJob_1 ?_
  refine lv_iload_n hx hb dX6_firstJob_4 rfl (lv_at hl 1 rfl) ?_
  obtain ⟨i_1, h⟩ := mk_ifn h
  refine mk_ia hx hb hK hP (by decide) rfl i_1 dX6_firstJob_5 ?_
  refine lv_bipush (v := 8) hx hb dX6_firstJob_6 (by decide) ?_
  refine lv_icmp_ge (tgt := 15) hx hb dX6_firstJob_8 (by decide) (fun c_2 => ?_) (fun c_2 => ?_)
  · replace h := (if_pos c_2).symm.trans h
    refine lv_aload_n hx hb dX6_firstJob_15 rfl (lv_at hl 0 rfl) ?_
    refine mk_g6_12 hx hb hts in_X6_firstJob_X6 hown hK hP (by decide) rfl (hts (.fieldLink RX6 38 "MixedKernelModel" "jobs" "[I") (by decide +kernel)) dX6_firstJob_16 ?_
    refine lv_iload_n hx hb dX6_firstJob_19 rfl (lv_at hl 1 rfl) ?_
    obtain ⟨i_3, h⟩ := mk_ifn h
    refine mk_ia hx hb hK hP (by decide) rfl i_3 dX6_firstJob_20 ?_
    refine lv_bipush (v := 7) hx hb dX6_firstJob_21 (by decide) ?_
    refine lv_isub hx hb dX6_firstJob_23 ?_
    refine lv_istore_n (lv' := [(2, .int ((M 78 (a1).toNatClampNeg) - 7)), (0, .ref (E.1 68)), (1, .int a1)]) hx hb dX6_firstJob_24 rfl hl (by decide) rfl (fun ls hl => ?_)
    exact w_X6_firstJob_25 C0 mk_F a1 ((M 78 (a1).toNatClampNeg) - 7) M _ h _ _ _ hP hS (lv_sub hl [1, 2, 0] rfl)
  · replace h := (if_neg c_2).symm.trans h
    refine lv_iconst (v := 1) hx hb dX6_firstJob_11 (by decide) ?_
    refine lv_goto (tgt := 24) hx hb dX6_firstJob_12 (by decide) ?_
    refine lv_istore_n (lv' := [(2, .int 1), (0, .ref (E.1 68)), (1, .int a1)]) hx hb dX6_firstJob_24 rfl hl (by decide) rfl (fun ls hl => ?_)
    exact w_X6_firstJob_25 C0 mk_F a1 1 M _ h _ _ _ hP hS (lv_sub hl [1, 2, 0] rfl)
abbrev rm_X6_charge : Room := { frames := 5, cells := 0, slots := 0, locals := 111 }
theorem in_X6_charge_X6 : ∀ w ∈ wsX60, w ∈ wsX6_charge := by decide +kernel
def f_X6_charge (a1 : Int32) (M : mk_M) : Option (mk_M) := ((f_X6_firstJob a1 M).bind (fun r_2 => ((f_X6_at a1 r_2 M).bind (fun r_4 => (if mk_ob r_4 104 then none else (if mk_ob r_4 104 then none else (if mk_ob a1 13 then none else (if mk_ob a1 13 then none else (if mk_ob r_4 104 then none else (if mk_ob r_4 104 then none else (if ((mk_st (mk_st M 85 (r_4).toNatClampNeg ((M 85 (r_4).toNatClampNeg) + 1)) 80 (a1).toNatClampNeg (((mk_st M 85 (r_4).toNatClampNeg ((M 85 (r_4).toNatClampNeg) + 1)) 80 (a1).toNatClampNeg) + 1)) 85 (r_4).toNatClampNeg) = ((mk_st (mk_st M 85 (r_4).toNatClampNeg ((M 85 (r_4).toNatClampNeg) + 1)) 80 (a1).toNatClampNeg (((mk_st M 85 (r_4).toNatClampNeg ((M 85 (r_4).toNatClampNeg) + 1)) 80 (a1).toNatClampNeg) + 1)) 84 (r_4).toNatClampNeg) then (if mk_ob r_4 104 then none else (if mk_ob r_4 104 then none else (if mk_ob a1 13 then none else (if ((mk_st (mk_st (mk_st M 85 (r_4).toNatClampNeg ((M 85 (r_4).toNatClampNeg) + 1)) 80 (a1).toNatClampNeg (((mk_st M 85 (r_4).toNatClampNeg ((M 85 (r_4).toNatClampNeg) + 1)) 80 (a1).toNatClampNeg) + 1)) 86 (r_4).toNatClampNeg ((mk_st (mk_st M 85 (r_4).toNatClampNeg ((M 85 (r_4).toNatClampNeg) + 1)) 80 (a1).toNatClampNeg (((mk_st M 85 (r_4).toNatClampNeg ((M 85 (r_4).toNatClampNeg) + 1)) 80 (a1).toNatClampNeg) + 1)) 68 21)) 68 21) ≤ (((mk_st (mk_st (mk_st M 85 (r_4).toNatClampNeg ((M 85 (r_4).toNatClampNeg) + 1)) 80 (a1).toNatClampNeg (((mk_st M 85 (r_4).toNatClampNeg ((M 85 (r_4).toNatClampNeg) + 1)) 80 (a1).toNatClampNeg) + 1)) 86 (r_4).toNatClampNeg ((mk_st (mk_st M 85 (r_4).toNatClampNeg ((M 85 (r_4).toNatClampNeg) + 1)) 80 (a1).toNatClampNeg (((mk_st M 85 (r_4).toNatClampNeg ((M 85 (r_4).toNatClampNeg) + 1)) 80 (a1).toNatClampNeg) + 1)) 68 21)) 83 (r_4).toNatClampNeg) + ((mk_st (mk_st (mk_st M 85 (r_4).toNatClampNeg ((M 85 (r_4).toNatClampNeg) + 1)) 80 (a1).toNatClampNeg (((mk_st M 85 (r_4).toNatClampNeg ((M 85 (r_4).toNatClampNeg) + 1)) 80 (a1).toNatClampNeg) + 1)) 86 (r_4).toNatClampNeg ((mk_st (mk_st M 85 (r_4).toNatClampNeg ((M 85 (r_4).toNatClampNeg) + 1)) 80 (a1).toNatClampNeg (((mk_st M 85 (r_4).toNatClampNeg ((M 85 (r_4).toNatClampNeg) + 1)) 80 (a1).toNatClampNeg) + 1)) 68 21)) 72 (a1).toNatClampNeg)) then (if mk_ob a1 13 then none else (if mk_ob a1 13 then none else ((f_X6_leave a1 (mk_st (mk_st (mk_st (mk_st M 85 (r_4).toNatClampNeg ((M 85 (r_4).toNatClampNeg) + 1)) 80 (a1).toNatClampNeg (((mk_st M 85 (r_4).toNatClampNeg ((M 85 (r_4).toNatClampNeg) + 1)) 80 (a1).toNatClampNeg) + 1)) 86 (r_4).toNatClampNeg ((mk_st (mk_st M 85 (r_4).toNatClampNeg ((M 85 (r_4).toNatClampNeg) + 1)) 80 (a1).toNatClampNeg (((mk_st M 85 (r_4).toNatClampNeg ((M 85 (r_4).toNatClampNeg) + 1)) 80 (a1).toNatClampNeg) + 1)) 68 21)) 81 (a1).toNatClampNeg ((mk_st (mk_st (mk_st M 85 (r_4).toNatClampNeg ((M 85 (r_4).toNatClampNeg) + 1)) 80 (a1).toNatClampNeg (((mk_st M 85 (r_4).toNatClampNeg ((M 85 (r_4).toNatClampNeg) + 1)) 80 (a1).toNatClampNeg) + 1)) 86 (r_4).toNatClampNeg ((mk_st (mk_st M 85 (r_4).toNatClampNeg ((M 85 (r_4).toNatClampNeg) + 1)) 80 (a1).toNatClampNeg (((mk_st M 85 (r_4).toNatClampNeg ((M 85 (r_4).toNatClampNeg) + 1)) 80 (a1).toNatClampNeg) + 1)) 68 21)) 81 (a1).toNatClampNeg))).bind (fun r_28 => (some r_28))))) else (if mk_ob a1 13 then none else (if mk_ob a1 13 then none else ((f_X6_leave a1 (mk_st (mk_st (mk_st (mk_st M 85 (r_4).toNatClampNeg ((M 85 (r_4).toNatClampNeg) + 1)) 80 (a1).toNatClampNeg (((mk_st M 85 (r_4).toNatClampNeg ((M 85 (r_4).toNatClampNeg) + 1)) 80 (a1).toNatClampNeg) + 1)) 86 (r_4).toNatClampNeg ((mk_st (mk_st M 85 (r_4).toNatClampNeg ((M 85 (r_4).toNatClampNeg) + 1)) 80 (a1).toNatClampNeg (((mk_st M 85 (r_4).toNatClampNeg ((M 85 (r_4).toNatClampNeg) + 1)) 80 (a1).toNatClampNeg) + 1)) 68 21)) 81 (a1).toNatClampNeg (((mk_st (mk_st (mk_st M 85 (r_4).toNatClampNeg ((M 85 (r_4).toNatClampNeg) + 1)) 80 (a1).toNatClampNeg (((mk_st M 85 (r_4).toNatClampNeg ((M 85 (r_4).toNatClampNeg) + 1)) 80 (a1).toNatClampNeg) + 1)) 86 (r_4).toNatClampNeg ((mk_st (mk_st M 85 (r_4).toNatClampNeg ((M 85 (r_4).toNatClampNeg) + 1)) 80 (a1).toNatClampNeg (((mk_st M 85 (r_4).toNatClampNeg ((M 85 (r_4).toNatClampNeg) + 1)) 80 (a1).toNatClampNeg) + 1)) 68 21)) 81 (a1).toNatClampNeg) + 1))).bind (fun r_32 => (some r_32))))))))) else (if ((mk_st (mk_st M 85 (r_4).toNatClampNeg ((M 85 (r_4).toNatClampNeg) + 1)) 80 (a1).toNatClampNeg (((mk_st M 85 (r_4).toNatClampNeg ((M 85 (r_4).toNatClampNeg) + 1)) 80 (a1).toNatClampNeg) + 1)) 68 24) = 0 then (if mk_ob a1 13 then none else (if ((mk_st (mk_st M 85 (r_4).toNatClampNeg ((M 85 (r_4).toNatClampNeg) + 1)) 80 (a1).toNatClampNeg (((mk_st M 85 (r_4).toNatClampNeg ((M 85 (r_4).toNatClampNeg) + 1)) 80 (a1).toNatClampNeg) + 1)) 74 (a1).toNatClampNeg) ≤ 0 then (some (mk_st (mk_st M 85 (r_4).toNatClampNeg ((M 85 (r_4).toNatClampNeg) + 1)) 80 (a1).toNatClampNeg (((mk_st M 85 (r_4).toNatClampNeg ((M 85 (r_4).toNatClampNeg) + 1)) 80 (a1).toNatClampNeg) + 1))) else (if mk_ob r_4 104 then none else (if mk_ob a1 13 then none else (if ((mk_st (mk_st M 85 (r_4).toNatClampNeg ((M 85 (r_4).toNatClampNeg) + 1)) 80 (a1).toNatClampNeg (((mk_st M 85 (r_4).toNatClampNeg ((M 85 (r_4).toNatClampNeg) + 1)) 80 (a1).toNatClampNeg) + 1)) 85 (r_4).toNatClampNeg) = ((mk_st (mk_st M 85 (r_4).toNatClampNeg ((M 85 (r_4).toNatClampNeg) + 1)) 80 (a1).toNatClampNeg (((mk_st M 85 (r_4).toNatClampNeg ((M 85 (r_4).toNatClampNeg) + 1)) 80 (a1).toNatClampNeg) + 1)) 73 (a1).toNatClampNeg) then (if mk_ob (((mk_st (mk_st (mk_st M 85 (r_4).toNatClampNeg ((M 85 (r_4).toNatClampNeg) + 1)) 80 (a1).toNatClampNeg (((mk_st M 85 (r_4).toNatClampNeg ((M 85 (r_4).toNatClampNeg) + 1)) 80 (a1).toNatClampNeg) + 1)) 68 24 1) 68 25) - ((mk_st (mk_st (mk_st M 85 (r_4).toNatClampNeg ((M 85 (r_4).toNatClampNeg) + 1)) 80 (a1).toNatClampNeg (((mk_st M 85 (r_4).toNatClampNeg ((M 85 (r_4).toNatClampNeg) + 1)) 80 (a1).toNatClampNeg) + 1)) 68 24 1) 68 25) / 8 * 8) 8 then none else ((f_X6_giveUp (mk_st (mk_st (mk_st (mk_st (mk_st M 85 (r_4).toNatClampNeg ((M 85 (r_4).toNatClampNeg) + 1)) 80 (a1).toNatClampNeg (((mk_st M 85 (r_4).toNatClampNeg ((M 85 (r_4).toNatClampNeg) + 1)) 80 (a1).toNatClampNeg) + 1)) 68 24 1) 87 (((mk_st (mk_st (mk_st M 85 (r_4).toNatClampNeg ((M 85 (r_4).toNatClampNeg) + 1)) 80 (a1).toNatClampNeg (((mk_st M 85 (r_4).toNatClampNeg ((M 85 (r_4).toNatClampNeg) + 1)) 80 (a1).toNatClampNeg) + 1)) 68 24 1) 68 25) - ((mk_st (mk_st (mk_st M 85 (r_4).toNatClampNeg ((M 85 (r_4).toNatClampNeg) + 1)) 80 (a1).toNatClampNeg (((mk_st M 85 (r_4).toNatClampNeg ((M 85 (r_4).toNatClampNeg) + 1)) 80 (a1).toNatClampNeg) + 1)) 68 24 1) 68 25) / 8 * 8).toNatClampNeg ((mk_st (mk_st (mk_st M 85 (r_4).toNatClampNeg ((M 85 (r_4).toNatClampNeg) + 1)) 80 (a1).toNatClampNeg (((mk_st M 85 (r_4).toNatClampNeg ((M 85 (r_4).toNatClampNeg) + 1)) 80 (a1).toNatClampNeg) + 1)) 68 24 1) 68 21)) 68 25 (((mk_st (mk_st (mk_st (mk_st M 85 (r_4).toNatClampNeg ((M 85 (r_4).toNatClampNeg) + 1)) 80 (a1).toNatClampNeg (((mk_st M 85 (r_4).toNatClampNeg ((M 85 (r_4).toNatClampNeg) + 1)) 80 (a1).toNatClampNeg) + 1)) 68 24 1) 87 (((mk_st (mk_st (mk_st M 85 (r_4).toNatClampNeg ((M 85 (r_4).toNatClampNeg) + 1)) 80 (a1).toNatClampNeg (((mk_st M 85 (r_4).toNatClampNeg ((M 85 (r_4).toNatClampNeg) + 1)) 80 (a1).toNatClampNeg) + 1)) 68 24 1) 68 25) - ((mk_st (mk_st (mk_st M 85 (r_4).toNatClampNeg ((M 85 (r_4).toNatClampNeg) + 1)) 80 (a1).toNatClampNeg (((mk_st M 85 (r_4).toNatClampNeg ((M 85 (r_4).toNatClampNeg) + 1)) 80 (a1).toNatClampNeg) + 1)) 68 24 1) 68 25) / 8 * 8).toNatClampNeg ((mk_st (mk_st (mk_st M 85 (r_4).toNatClampNeg ((M 85 (r_4).toNatClampNeg) + 1)) 80 (a1).toNatClampNeg (((mk_st M 85 (r_4).toNatClampNeg ((M 85 (r_4).toNatClampNeg) + 1)) 80 (a1).toNatClampNeg) + 1)) 68 24 1) 68 21)) 68 25) + 1))).bind (fun r_20 => (some r_20)))) else (some (mk_st (mk_st M 85 (r_4).toNatClampNeg ((M 85 (r_4).toNatClampNeg) + 1)) 80 (a1).toNatClampNeg (((mk_st M 85 (r_4).toNatClampNeg ((M 85 (r_4).toNatClampNeg) + 1)) 80 (a1).toNatClampNeg) + 1)))))))) else (some (mk_st (mk_st M 85 (r_4).toNatClampNeg ((M 85 (r_4).toNatClampNeg) + 1)) 80 (a1).toNatClampNeg (((mk_st M 85 (r_4).toNatClampNeg ((M 85 (r_4).toNatClampNeg) + 1)) 80 (a1).toNatClampNeg) + 1)))))))))))))))
set_option maxHeartbeats 4000000 in
set_option maxRecDepth 100000 in
theorem c_X6_charge (l : Launch) (D : va_G) (E : mk_E) (L : Nat → Int64) (a1 : Int32) (M : mk_M) {q : mk_M} (h : f_X6_charge a1 M = some q) : Met l yX6_charge wsX6_charge rm_X6_charge (va_Pc [.ref (E.1 68), .int a1] (mk_W D E M L)) (mk_Qv D E L q) 0 0 (mk_A E) := by
  refine Met.ofW (cc := cX6_charge) (maxL := 3) (ret := none) (by decide) rfl ?_
  intro p e s m args below meth c s₁ B hml hv
  obtain ⟨rfl, hP, hK, hD0, hN⟩ := hv
  have hx := B.exec
  have hb := B.bytes
  have hr := B.returns
  have hts := atoms_spec (ws := wsX6_charge) B.pre
  have hown : s.vm.findClass RX6 = some m.cls := findClass_of_methodNamed B.named
  have hlk := B.notSynchronized
  have hD : ∀ (M : mk_M) (L : Nat → Int64), va_D (mk_A E) (mk_wl E M L) := fun _ _ => mk_D hD0
  have C0 : mk_C p s m [.ref (E.1 68), .int a1].toArray meth c cX6_charge 3 wsX6_charge RX6 none D E := ⟨hx, hb, hml, hown, hts, hr, hlk, hK, hD, hN⟩
  have hS : va_S (mk_A E) s.heap s.heap [] := va_S.rf
  have hl := lv_entry ([.ref (E.1 68), .int a1]) (n := 3) (Nat.le_of_ble_eq_true rfl)
  rw [lg_entry_eq]
  generalize (lg_sl ([.ref (E.1 68), .int a1]) ++ List.replicate (3 - (lg_sl ([.ref (E.1 68), .int a1])).length) Slot.unset).toArray = ls at hl ⊢
  have hl : lv_has ls 3 [(0, .ref (E.1 68)), (1, .int a1)] := hl
  replace h : ((f_X6_firstJob a1 M).bind (fun r_2 => ((f_X6_at a1 r_2 M).bind (fun r_4 => (if mk_ob r_4 104 then none else (if mk_ob r_4 104 then none else (if mk_ob a1 13 then none else (if mk_ob a1 13 then none else (if mk_ob r_4 104 then none else (if mk_ob r_4 104 then none else (if ((mk_st (mk_st M 85 (r_4).toNatClampNeg ((M 85 (r_4).toNatClampNeg) + 1)) 80 (a1).toNatClampNeg (((mk_st M 85 (r_4).toNatClampNeg ((M 85 (r_4).toNatClampNeg) + 1)) 80 (a1).toNatClampNeg) + 1)) 85 (r_4).toNatClampNeg) = ((mk_st (mk_st M 85 (r_4).toNatClampNeg ((M 85 (r_4).toNatClampNeg) + 1)) 80 (a1).toNatClampNeg (((mk_st M 85 (r_4).toNatClampNeg ((M 85 (r_4).toNatClampNeg) + 1)) 80 (a1).toNatClampNeg) + 1)) 84 (r_4).toNatClampNeg) then (if mk_ob r_4 104 then none else (if mk_ob r_4 104 then none else (if mk_ob a1 13 then none else (if ((mk_st (mk_st (mk_st M 85 (r_4).toNatClampNeg ((M 85 (r_4).toNatClampNeg) + 1)) 80 (a1).toNatClampNeg (((mk_st M 85 (r_4).toNatClampNeg ((M 85 (r_4).toNatClampNeg) + 1)) 80 (a1).toNatClampNeg) + 1)) 86 (r_4).toNatClampNeg ((mk_st (mk_st M 85 (r_4).toNatClampNeg ((M 85 (r_4).toNatClampNeg) + 1)) 80 (a1).toNatClampNeg (((mk_st M 85 (r_4).toNatClampNeg ((M 85 (r_4).toNatClampNeg) + 1)) 80 (a1).toNatClampNeg) + 1)) 68 21)) 68 21) ≤ (((mk_st (mk_st (mk_st M 85 (r_4).toNatClampNeg ((M 85 (r_4).toNatClampNeg) + 1)) 80 (a1).toNatClampNeg (((mk_st M 85 (r_4).toNatClampNeg ((M 85 (r_4).toNatClampNeg) + 1)) 80 (a1).toNatClampNeg) + 1)) 86 (r_4).toNatClampNeg ((mk_st (mk_st M 85 (r_4).toNatClampNeg ((M 85 (r_4).toNatClampNeg) + 1)) 80 (a1).toNatClampNeg (((mk_st M 85 (r_4).toNatClampNeg ((M 85 (r_4).toNatClampNeg) + 1)) 80 (a1).toNatClampNeg) + 1)) 68 21)) 83 (r_4).toNatClampNeg) + ((mk_st (mk_st (mk_st M 85 (r_4).toNatClampNeg ((M 85 (r_4).toNatClampNeg) + 1)) 80 (a1).toNatClampNeg (((mk_st M 85 (r_4).toNatClampNeg ((M 85 (r_4).toNatClampNeg) + 1)) 80 (a1).toNatClampNeg) + 1)) 86 (r_4).toNatClampNeg ((mk_st (mk_st M 85 (r_4).toNatClampNeg ((M 85 (r_4).toNatClampNeg) + 1)) 80 (a1).toNatClampNeg (((mk_st M 85 (r_4).toNatClampNeg ((M 85 (r_4).toNatClampNeg) + 1)) 80 (a1).toNatClampNeg) + 1)) 68 21)) 72 (a1).toNatClampNeg)) then (if mk_ob a1 13 then none else (if mk_ob a1 13 then none else ((f_X6_leave a1 (mk_st (mk_st (mk_st (mk_st M 85 (r_4).toNatClampNeg ((M 85 (r_4).toNatClampNeg) + 1)) 80 (a1).toNatClampNeg (((mk_st M 85 (r_4).toNatClampNeg ((M 85 (r_4).toNatClampNeg) + 1)) 80 (a1).toNatClampNeg) + 1)) 86 (r_4).toNatClampNeg ((mk_st (mk_st M 85 (r_4).toNatClampNeg ((M 85 (r_4).toNatClampNeg) + 1)) 80 (a1).toNatClampNeg (((mk_st M 85 (r_4).toNatClampNeg ((M 85 (r_4).toNatClampNeg) + 1)) 80 (a1).toNatClampNeg) + 1)) 68 21)) 81 (a1).toNatClampNeg ((mk_st (mk_st (mk_st M 85 (r_4).toNatClampNeg ((M 85 (r_4).toNatClampNeg) + 1)) 80 (a1).toNatClampNeg (((mk_st M 85 (r_4).toNatClampNeg ((M 85 (r_4).toNatClampNeg) + 1)) 80 (a1).toNatClampNeg) + 1)) 86 (r_4).toNatClampNeg ((mk_st (mk_st M 85 (r_4).toNatClampNeg ((M 85 (r_4).toNatClampNeg) + 1)) 80 (a1).toNatClampNeg (((mk_st M 85 (r_4).toNatClampNeg ((M 85 (r_4).toNatClampNeg) + 1)) 80 (a1).toNatClampNeg) + 1)) 68 21)) 81 (a1).toNatClampNeg))).bind (fun r_28 => (some r_28))))) else (if mk_ob a1 13 then none else (if mk_ob a1 13 then none else ((f_X6_leave a1 (mk_st (mk_st (mk_st (mk_st M 85 (r_4).toNatClampNeg ((M 85 (r_4).toNatClampNeg) + 1)) 80 (a1).toNatClampNeg (((mk_st M 85 (r_4).toNatClampNeg ((M 85 (r_4).toNatClampNeg) + 1)) 80 (a1).toNatClampNeg) + 1)) 86 (r_4).toNatClampNeg ((mk_st (mk_st M 85 (r_4).toNatClampNeg ((M 85 (r_4).toNatClampNeg) + 1)) 80 (a1).toNatClampNeg (((mk_st M 85 (r_4).toNatClampNeg ((M 85 (r_4).toNatClampNeg) + 1)) 80 (a1).toNatClampNeg) + 1)) 68 21)) 81 (a1).toNatClampNeg (((mk_st (mk_st (mk_st M 85 (r_4).toNatClampNeg ((M 85 (r_4).toNatClampNeg) + 1)) 80 (a1).toNatClampNeg (((mk_st M 85 (r_4).toNatClampNeg ((M 85 (r_4).toNatClampNeg) + 1)) 80 (a1).toNatClampNeg) + 1)) 86 (r_4).toNatClampNeg ((mk_st (mk_st M 85 (r_4).toNatClampNeg ((M 85 (r_4).toNatClampNeg) + 1)) 80 (a1).toNatClampNeg (((mk_st M 85 (r_4).toNatClampNeg ((M 85 (r_4).toNatClampNeg) + 1)) 80 (a1).toNatClampNeg) + 1)) 68 21)) 81 (a1).toNatClampNeg) + 1))).bind (fun r_32 => (some r_32))))))))) else (if ((mk_st (mk_st M 85 (r_4).toNatClampNeg ((M 85 (r_4).toNatClampNeg) + 1)) 80 (a1).toNatClampNeg (((mk_st M 85 (r_4).toNatClampNeg ((M 85 (r_4).toNatClampNeg) + 1)) 80 (a1).toNatClampNeg) + 1)) 68 24) = 0 then (if mk_ob a1 13 then none else (if ((mk_st (mk_st M 85 (r_4).toNatClampNeg ((M 85 (r_4).toNatClampNeg) + 1)) 80 (a1).toNatClampNeg (((mk_st M 85 (r_4).toNatClampNeg ((M 85 (r_4).toNatClampNeg) + 1)) 80 (a1).toNatClampNeg) + 1)) 74 (a1).toNatClampNeg) ≤ 0 then (some (mk_st (mk_st M 85 (r_4).toNatClampNeg ((M 85 (r_4).toNatClampNeg) + 1)) 80 (a1).toNatClampNeg (((mk_st M 85 (r_4).toNatClampNeg ((M 85 (r_4).toNatClampNeg) + 1)) 80 (a1).toNatClampNeg) + 1))) else (if mk_ob r_4 104 then none else (if mk_ob a1 13 then none else (if ((mk_st (mk_st M 85 (r_4).toNatClampNeg ((M 85 (r_4).toNatClampNeg) + 1)) 80 (a1).toNatClampNeg (((mk_st M 85 (r_4).toNatClampNeg ((M 85 (r_4).toNatClampNeg) + 1)) 80 (a1).toNatClampNeg) + 1)) 85 (r_4).toNatClampNeg) = ((mk_st (mk_st M 85 (r_4).toNatClampNeg ((M 85 (r_4).toNatClampNeg) + 1)) 80 (a1).toNatClampNeg (((mk_st M 85 (r_4).toNatClampNeg ((M 85 (r_4).toNatClampNeg) + 1)) 80 (a1).toNatClampNeg) + 1)) 73 (a1).toNatClampNeg) then (if mk_ob (((mk_st (mk_st (mk_st M 85 (r_4).toNatClampNeg ((M 85 (r_4).toNatClampNeg) + 1)) 80 (a1).toNatClampNeg (((mk_st M 85 (r_4).toNatClampNeg ((M 85 (r_4).toNatClampNeg) + 1)) 80 (a1).toNatClampNeg) + 1)) 68 24 1) 68 25) - ((mk_st (mk_st (mk_st M 85 (r_4).toNatClampNeg ((M 85 (r_4).toNatClampNeg) + 1)) 80 (a1).toNatClampNeg (((mk_st M 85 (r_4).toNatClampNeg ((M 85 (r_4).toNatClampNeg) + 1)) 80 (a1).toNatClampNeg) + 1)) 68 24 1) 68 25) / 8 * 8) 8 then none else ((f_X6_giveUp (mk_st (mk_st (mk_st (mk_st (mk_st M 85 (r_4).toNatClampNeg ((M 85 (r_4).toNatClampNeg) + 1)) 80 (a1).toNatClampNeg (((mk_st M 85 (r_4).toNatClampNeg ((M 85 (r_4).toNatClampNeg) + 1)) 80 (a1).toNatClampNeg) + 1)) 68 24 1) 87 (((mk_st (mk_st (mk_st M 85 (r_4).toNatClampNeg ((M 85 (r_4).toNatClampNeg) + 1)) 80 (a1).toNatClampNeg (((mk_st M 85 (r_4).toNatClampNeg ((M 85 (r_4).toNatClampNeg) + 1)) 80 (a1).toNatClampNeg) + 1)) 68 24 1) 68 25) - ((mk_st (mk_st (mk_st M 85 (r_4).toNatClampNeg ((M 85 (r_4).toNatClampNeg) + 1)) 80 (a1).toNatClampNeg (((mk_st M 85 (r_4).toNatClampNeg ((M 85 (r_4).toNatClampNeg) + 1)) 80 (a1).toNatClampNeg) + 1)) 68 24 1) 68 25) / 8 * 8).toNatClampNeg ((mk_st (mk_st (mk_st M 85 (r_4).toNatClampNeg ((M 85 (r_4).toNatClampNeg) + 1)) 80 (a1).toNatClampNeg (((mk_st M 85 (r_4).toNatClampNeg ((M 85 (r_4).toNatClampNeg) + 1)) 80 (a1).toNatClampNeg) + 1)) 68 24 1) 68 21)) 68 25 (((mk_st (mk_st (mk_st (mk_st M 85 (r_4).toNatClampNeg ((M 85 (r_4).toNatClampNeg) + 1)) 80 (a1).toNatClampNeg (((mk_st M 85 (r_4).toNatClampNeg ((M 85 (r_4).toNatClampNeg) + 1)) 80 (a1).toNatClampNeg) + 1)) 68 24 1) 87 (((mk_st (mk_st (mk_st M 85 (r_4).toNatClampNeg ((M 85 (r_4).toNatClampNeg) + 1)) 80 (a1).toNatClampNeg (((mk_st M 85 (r_4).toNatClampNeg ((M 85 (r_4).toNatClampNeg) + 1)) 80 (a1).toNatClampNeg) + 1)) 68 24 1) 68 25) - ((mk_st (mk_st (mk_st M 85 (r_4).toNatClampNeg ((M 85 (r_4).toNatClampNeg) + 1)) 80 (a1).toNatClampNeg (((mk_st M 85 (r_4).toNatClampNeg ((M 85 (r_4).toNatClampNeg) + 1)) 80 (a1).toNatClampNeg) + 1)) 68 24 1) 68 25) / 8 * 8).toNatClampNeg ((mk_st (mk_st (mk_st M 85 (r_4).toNatClampNeg ((M 85 (r_4).toNatClampNeg) + 1)) 80 (a1).toNatClampNeg (((mk_st M 85 (r_4).toNatClampNeg ((M 85 (r_4).toNatClampNeg) + 1)) 80 (a1).toNatClampNeg) + 1)) 68 24 1) 68 21)) 68 25) + 1))).bind (fun r_20 => (some r_20)))) else (some (mk_st (mk_st M 85 (r_4).toNatClampNeg ((M 85 (r_4).toNatClampNeg) + 1)) 80 (a1).toNatClampNeg (((mk_st M 85 (r_4).toNatClampNeg ((M 85 (r_4).toNatClampNeg) + 1)) 80 (a1).toNatClampNeg) + 1)))))))) else (some (mk_st (mk_st M 85 (r_4).toNatClampNeg ((M 85 (r_4).toNatClampNeg) + 1)) 80 (a1).toNatClampNeg (((mk_st M 85 (r_4).toNatClampNeg ((M 85 (r_4).toNatClampNeg) + 1)) 80 (a1).toNatClampNeg) + 1))))))))))))))) = some q := h
  refine lv_iload_n hx hb dX6_charge_0 rfl (lv_at hl 1 rfl) ?_
  refine lv_aload_n hx hb dX6_charge_1 rfl (lv_at hl 0 rfl) ?_
  refine lv_iload_n hx hb dX6_charge_2 rfl (lv_at hl 1 rfl) ?_
  obtain ⟨r_2, e_1, h⟩ := mk_bind h
  refine va_calli (va_runV (As := [.int a1]) (rest := [.int a1]) ⟨hx, hb, hml, hown, hts⟩ (c_X6_firstJob l D E L a1 M  e_1) (cwV 1 hts gX6_charge_X6_firstJob rfl rfl rfl (by decide +kernel) ⟨Nat.le_of_ble_eq_true rfl, Nat.le_of_ble_eq_true rfl⟩) ⟨mk_W.blind, mk_rc6 hK hP (by decide) rfl, fun U hU hW => ⟨rfl, mk_W.at hU hW hP hK (hD _ _) hN⟩⟩ rfl rfl hl.1 rfl (lv_room (Nat.le_of_ble_eq_true rfl)) dX6_charge_3 ⟨Nat.zero_le _, Nat.zero_le _⟩) hS (fun q _ h => h) (fun q h => h) (fun v_34 u t H1 locs ht hvm hw hB hz1 hk1 hS => ?_)
  subst v_34
  rw [ht] at hB
  replace hP := hB
  clear hB hz1 hk1 hvm ht
  generalize H1 = H at hP hS ⊢
  obtain ⟨r_4, e_3, h⟩ := mk_bind h
  refine va_calli (va_runS (As := [.int a1, .int r_2]) (rest := []) ⟨hx, hb, hml, hown, hts⟩ (c_X6_at l D E L a1 r_2 M  e_3) (cwS 2 hts gX6_charge_X6_at rfl rfl rfl (by decide +kernel) ⟨Nat.le_of_ble_eq_true rfl, Nat.le_of_ble_eq_true rfl⟩) ⟨mk_W.blind, fun U hU hW => ⟨rfl, mk_W.at hU hW hP hK (hD _ _) hN⟩⟩ rfl rfl hl.1 rfl (lv_room (Nat.le_of_ble_eq_true rfl)) dX6_charge_6 ⟨Nat.zero_le _, Nat.zero_le _⟩) hS (fun q _ h => h) (fun q h => h) (fun v_33 u t H1 locs ht hvm hw hB hz1 hk1 hS => ?_)
  subst v_33
  rw [ht] at hB
  replace hP := hB
  clear hB hz1 hk1 hvm ht
  generalize H1 = H at hP hS ⊢
  refine lv_istore_n (lv' := [(2, .int r_4), (0, .ref (E.1 68)), (1, .int a1)]) hx hb dX6_charge_9 rfl hl (by decide) rfl (fun ls hl => ?_)
  refine lv_aload_n hx hb dX6_charge_10 rfl (lv_at hl 1 rfl) ?_
  refine mk_g6_19 hx hb hts in_X6_charge_X6 hown hK hP (by decide) rfl (hts (.fieldLink RX6 59 "MixedKernelModel" "charges" "[I") (by decide +kernel)) dX6_charge_11 ?_
  refine lv_iload_n hx hb dX6_charge_14 rfl (lv_at hl 0 rfl) ?_
  refine lv_dup2_11 hx hb dX6_charge_15 rfl rfl ?_
  obtain ⟨i_5, h⟩ := mk_ifn h
  refine mk_ia hx hb hK hP (by decide) rfl i_5 dX6_charge_16 ?_
  refine lv_iconst (v := 1) hx hb dX6_charge_17 (by decide) ?_
  refine lv_iadd hx hb dX6_charge_18 ?_
  obtain ⟨i_6, h⟩ := mk_ifn h
  refine mk_is hx hb hK hP (hD _ _) hS (by decide) rfl i_6 dX6_charge_19 (fun H locs hP hS => ?_)
  refine lv_aload_n hx hb dX6_charge_20 rfl (lv_at hl 1 rfl) ?_
  refine mk_g6_14 hx hb hts in_X6_charge_X6 hown hK hP (by decide) rfl (hts (.fieldLink RX6 44 "MixedKernelModel" "charged" "[I") (by decide +kernel)) dX6_charge_21 ?_
  refine lv_iload_n hx hb dX6_charge_24 rfl (lv_at hl 2 rfl) ?_
  refine lv_dup2_11 hx hb dX6_charge_25 rfl rfl ?_
  obtain ⟨i_7, h⟩ := mk_ifn h
  refine mk_ia hx hb hK hP (by decide) rfl i_7 dX6_charge_26 ?_
  refine lv_iconst (v := 1) hx hb dX6_charge_27 (by decide) ?_
  refine lv_iadd hx hb dX6_charge_28 ?_
  obtain ⟨i_8, h⟩ := mk_ifn h
  refine mk_is hx hb hK hP (hD _ _) hS (by decide) rfl i_8 dX6_charge_29 (fun H locs hP hS => ?_)
  refine lv_aload_n hx hb dX6_charge_30 rfl (lv_at hl 1 rfl) ?_
  refine mk_g6_19 hx hb hts in_X6_charge_X6 hown hK hP (by decide) rfl (hts (.fieldLink RX6 59 "MixedKernelModel" "charges" "[I") (by decide +kernel)) dX6_charge_31 ?_
  refine lv_iload_n hx hb dX6_charge_34 rfl (lv_at hl 0 rfl) ?_
  obtain ⟨i_9, h⟩ := mk_ifn h
  refine mk_ia hx hb hK hP (by decide) rfl i_9 dX6_charge_35 ?_
  refine lv_aload_n hx hb dX6_charge_36 rfl (lv_at hl 1 rfl) ?_
  refine mk_g6_18 hx hb hts in_X6_charge_X6 hown hK hP (by decide) rfl (hts (.fieldLink RX6 56 "MixedKernelModel" "demands" "[I") (by decide +kernel)) dX6_charge_37 ?_
  refine lv_iload_n hx hb dX6_charge_40 rfl (lv_at hl 0 rfl) ?_
  obtain ⟨i_10, h⟩ := mk_ifn h
  refine mk_ia hx hb hK hP (by decide) rfl i_10 dX6_charge_41 ?_
  refine lv_icmp_ne (tgt := 106) hx hb dX6_charge_42 (by decide) (fun c_11 => ?_) (fun c_11 => ?_)
  · replace h := (if_neg c_11).symm.trans h
    refine lv_aload_n hx hb dX6_charge_106 rfl (lv_at hl 1 rfl) ?_
    refine mk_g6_24 hx hb hts in_X6_charge_X6 hown hK hP (by decide) rfl (hts (.fieldLink RX6 155 "MixedKernelModel" "mode" "I") (by decide +kernel)) dX6_charge_107 ?_
    refine lv_if_ne (tgt := 172) hx hb dX6_charge_110 (by decide) (fun c_12 => ?_) (fun c_12 => ?_)
    · replace h := (if_neg c_12).symm.trans h
      replace h := Option.some.inj h
      subst q
      exact W.vret hx hb hr (fun t ht hW => ⟨⟨(), rfl, trivial, by rw [← ht] at hP; exact hP⟩, hS.F ht⟩) hS.2.2 dX6_charge_172
    · replace h := (if_pos c_12).symm.trans h
      refine lv_aload_n hx hb dX6_charge_113 rfl (lv_at hl 1 rfl) ?_
      refine mk_g6_6 hx hb hts in_X6_charge_X6 hown hK hP (by decide) rfl (hts (.fieldLink RX6 26 "MixedKernelModel" "highs" "[I") (by decide +kernel)) dX6_charge_114 ?_
      refine lv_iload_n hx hb dX6_charge_117 rfl (lv_at hl 2 rfl) ?_
      obtain ⟨i_13, h⟩ := mk_ifn h
      refine mk_ia hx hb hK hP (by decide) rfl i_13 dX6_charge_118 ?_
      refine lv_if_le (tgt := 172) hx hb dX6_charge_119 (by decide) (fun c_14 => ?_) (fun c_14 => ?_)
      · replace h := (if_pos c_14).symm.trans h
        replace h := Option.some.inj h
        subst q
        exact W.vret hx hb hr (fun t ht hW => ⟨⟨(), rfl, trivial, by rw [← ht] at hP; exact hP⟩, hS.F ht⟩) hS.2.2 dX6_charge_172
      · replace h := (if_neg c_14).symm.trans h
        refine lv_aload_n hx hb dX6_charge_122 rfl (lv_at hl 1 rfl) ?_
        refine mk_g6_19 hx hb hts in_X6_charge_X6 hown hK hP (by decide) rfl (hts (.fieldLink RX6 59 "MixedKernelModel" "charges" "[I") (by decide +kernel)) dX6_charge_123 ?_
        refine lv_iload_n hx hb dX6_charge_126 rfl (lv_at hl 0 rfl) ?_
        obtain ⟨i_15, h⟩ := mk_ifn h
        refine mk_ia hx hb hK hP (by decide) rfl i_15 dX6_charge_127 ?_
        refine lv_aload_n hx hb dX6_charge_128 rfl (lv_at hl 1 rfl) ?_
        refine mk_g6_5 hx hb hts in_X6_charge_X6 hown hK hP (by decide) rfl (hts (.fieldLink RX6 23 "MixedKernelModel" "lows" "[I") (by decide +kernel)) dX6_charge_129 ?_
        refine lv_iload_n hx hb dX6_charge_132 rfl (lv_at hl 2 rfl) ?_
        obtain ⟨i_16, h⟩ := mk_ifn h
        refine mk_ia hx hb hK hP (by decide) rfl i_16 dX6_charge_133 ?_
        refine lv_icmp_ne (tgt := 172) hx hb dX6_charge_134 (by decide) (fun c_17 => ?_) (fun c_17 => ?_)
        · replace h := (if_neg c_17).symm.trans h
          replace h := Option.some.inj h
          subst q
          exact W.vret hx hb hr (fun t ht hW => ⟨⟨(), rfl, trivial, by rw [← ht] at hP; exact hP⟩, hS.F ht⟩) hS.2.2 dX6_charge_172
        · replace h := (if_pos c_17).symm.trans h
          refine lv_aload_n hx hb dX6_charge_137 rfl (lv_at hl 1 rfl) ?_
          refine lv_iconst (v := 1) hx hb dX6_charge_138 (by decide) ?_
          refine mk_p6_24 hx hb hts in_X6_charge_X6 hown hK hP (by decide) rfl (hD _ _) hS (hts (.fieldLink RX6 155 "MixedKernelModel" "mode" "I") (by decide +kernel)) dX6_charge_139 (fun H locs hP hS => ?_)
          refine lv_aload_n hx hb dX6_charge_142 rfl (lv_at hl 1 rfl) ?_
          refine mk_g6_27 hx hb hts in_X6_charge_X6 hown hK hP (by decide) rfl (hts (.fieldLink RX6 65 "MixedKernelModel" "changed" "[I") (by decide +kernel)) dX6_charge_143 ?_
          refine lv_aload_n hx hb dX6_charge_146 rfl (lv_at hl 1 rfl) ?_
          refine mk_g6_25 hx hb hts in_X6_charge_X6 hown hK hP (by decide) rfl (hts (.fieldLink RX6 164 "MixedKernelModel" "changes" "I") (by decide +kernel)) dX6_charge_147 ?_
          refine lv_bipush (v := 8) hx hb dX6_charge_150 (by decide) ?_
          refine lv_irem hx hb dX6_charge_152 (by decide) ?_
          refine lv_aload_n hx hb dX6_charge_153 rfl (lv_at hl 1 rfl) ?_
          refine mk_g6_21 hx hb hts in_X6_charge_X6 hown hK hP (by decide) rfl (hts (.fieldLink RX6 152 "MixedKernelModel" "time" "I") (by decide +kernel)) dX6_charge_154 ?_
          obtain ⟨i_18, h⟩ := mk_ifn h
          refine mk_is hx hb hK hP (hD _ _) hS (by decide) rfl i_18 dX6_charge_157 (fun H locs hP hS => ?_)
          refine lv_aload_n hx hb dX6_charge_158 rfl (lv_at hl 1 rfl) ?_
          refine lv_dup hx hb dX6_charge_159 rfl ?_
          refine mk_g6_25 hx hb hts in_X6_charge_X6 hown hK hP (by decide) rfl (hts (.fieldLink RX6 164 "MixedKernelModel" "changes" "I") (by decide +kernel)) dX6_charge_160 ?_
          refine lv_iconst (v := 1) hx hb dX6_charge_163 (by decide) ?_
          refine lv_iadd hx hb dX6_charge_164 ?_
          refine mk_p6_25 hx hb hts in_X6_charge_X6 hown hK hP (by decide) rfl (hD _ _) hS (hts (.fieldLink RX6 164 "MixedKernelModel" "changes" "I") (by decide +kernel)) dX6_charge_165 (fun H locs hP hS => ?_)
          refine lv_aload_n hx hb dX6_charge_168 rfl (lv_at hl 1 rfl) ?_
          obtain ⟨r_20, e_19, h⟩ := mk_bind h
          refine va_callv (va_runV (As := []) (rest := []) ⟨hx, hb, hml, hown, hts⟩ (c_X6_giveUp l D E L  (mk_st (mk_st (mk_st (mk_st (mk_st M 85 (r_4).toNatClampNeg ((M 85 (r_4).toNatClampNeg) + 1)) 80 (a1).toNatClampNeg (((mk_st M 85 (r_4).toNatClampNeg ((M 85 (r_4).toNatClampNeg) + 1)) 80 (a1).toNatClampNeg) + 1)) 68 24 1) 87 (((mk_st (mk_st (mk_st M 85 (r_4).toNatClampNeg ((M 85 (r_4).toNatClampNeg) + 1)) 80 (a1).toNatClampNeg (((mk_st M 85 (r_4).toNatClampNeg ((M 85 (r_4).toNatClampNeg) + 1)) 80 (a1).toNatClampNeg) + 1)) 68 24 1) 68 25) - ((mk_st (mk_st (mk_st M 85 (r_4).toNatClampNeg ((M 85 (r_4).toNatClampNeg) + 1)) 80 (a1).toNatClampNeg (((mk_st M 85 (r_4).toNatClampNeg ((M 85 (r_4).toNatClampNeg) + 1)) 80 (a1).toNatClampNeg) + 1)) 68 24 1) 68 25) / 8 * 8).toNatClampNeg ((mk_st (mk_st (mk_st M 85 (r_4).toNatClampNeg ((M 85 (r_4).toNatClampNeg) + 1)) 80 (a1).toNatClampNeg (((mk_st M 85 (r_4).toNatClampNeg ((M 85 (r_4).toNatClampNeg) + 1)) 80 (a1).toNatClampNeg) + 1)) 68 24 1) 68 21)) 68 25 (((mk_st (mk_st (mk_st (mk_st M 85 (r_4).toNatClampNeg ((M 85 (r_4).toNatClampNeg) + 1)) 80 (a1).toNatClampNeg (((mk_st M 85 (r_4).toNatClampNeg ((M 85 (r_4).toNatClampNeg) + 1)) 80 (a1).toNatClampNeg) + 1)) 68 24 1) 87 (((mk_st (mk_st (mk_st M 85 (r_4).toNatClampNeg ((M 85 (r_4).toNatClampNeg) + 1)) 80 (a1).toNatClampNeg (((mk_st M 85 (r_4).toNatClampNeg ((M 85 (r_4).toNatClampNeg) + 1)) 80 (a1).toNatClampNeg) + 1)) 68 24 1) 68 25) - ((mk_st (mk_st (mk_st M 85 (r_4).toNatClampNeg ((M 85 (r_4).toNatClampNeg) + 1)) 80 (a1).toNatClampNeg (((mk_st M 85 (r_4).toNatClampNeg ((M 85 (r_4).toNatClampNeg) + 1)) 80 (a1).toNatClampNeg) + 1)) 68 24 1) 68 25) / 8 * 8).toNatClampNeg ((mk_st (mk_st (mk_st M 85 (r_4).toNatClampNeg ((M 85 (r_4).toNatClampNeg) + 1)) 80 (a1).toNatClampNeg (((mk_st M 85 (r_4).toNatClampNeg ((M 85 (r_4).toNatClampNeg) + 1)) 80 (a1).toNatClampNeg) + 1)) 68 24 1) 68 21)) 68 25) + 1))  e_19) (cwV 0 hts gX6_charge_X6_giveUp rfl rfl rfl (by decide +kernel) ⟨Nat.le_of_ble_eq_true rfl, Nat.le_of_ble_eq_true rfl⟩) ⟨mk_W.blind, mk_rc6 hK hP (by decide) rfl, fun U hU hW => ⟨rfl, mk_W.at hU hW hP hK (hD _ _) hN⟩⟩ rfl rfl hl.1 rfl (lv_room (Nat.le_of_ble_eq_true rfl)) dX6_charge_169 ⟨Nat.zero_le _, Nat.zero_le _⟩) hS (fun q _ h => h) (fun q h => h) (fun u t H1 locs ht hvm hw hB hz1 hk1 hS => ?_)
          rw [ht] at hB
          replace hP := hB
          clear hB hz1 hk1 hvm ht
          generalize H1 = H at hP hS ⊢
          replace h := Option.some.inj h
          subst q
          exact W.vret hx hb hr (fun t ht hW => ⟨⟨(), rfl, trivial, by rw [← ht] at hP; exact hP⟩, hS.F ht⟩) hS.2.2 dX6_charge_172
  · replace h := (if_pos c_11).symm.trans h
    refine lv_aload_n hx hb dX6_charge_45 rfl (lv_at hl 1 rfl) ?_
    refine mk_g6_20 hx hb hts in_X6_charge_X6 hown hK hP (by decide) rfl (hts (.fieldLink RX6 62 "MixedKernelModel" "ends" "[I") (by decide +kernel)) dX6_charge_46 ?_
    refine lv_iload_n hx hb dX6_charge_49 rfl (lv_at hl 0 rfl) ?_
    refine lv_aload_n hx hb dX6_charge_50 rfl (lv_at hl 1 rfl) ?_
    refine mk_g6_21 hx hb hts in_X6_charge_X6 hown hK hP (by decide) rfl (hts (.fieldLink RX6 152 "MixedKernelModel" "time" "I") (by decide +kernel)) dX6_charge_51 ?_
    obtain ⟨i_21, h⟩ := mk_ifn h
    refine mk_is hx hb hK hP (hD _ _) hS (by decide) rfl i_21 dX6_charge_54 (fun H locs hP hS => ?_)
    refine lv_aload_n hx hb dX6_charge_55 rfl (lv_at hl 1 rfl) ?_
    refine mk_g6_15 hx hb hts in_X6_charge_X6 hown hK hP (by decide) rfl (hts (.fieldLink RX6 47 "MixedKernelModel" "lates" "[I") (by decide +kernel)) dX6_charge_56 ?_
    refine lv_iload_n hx hb dX6_charge_59 rfl (lv_at hl 2 rfl) ?_
    refine lv_aload_n hx hb dX6_charge_60 rfl (lv_at hl 1 rfl) ?_
    refine mk_g6_21 hx hb hts in_X6_charge_X6 hown hK hP (by decide) rfl (hts (.fieldLink RX6 152 "MixedKernelModel" "time" "I") (by decide +kernel)) dX6_charge_61 ?_
    refine lv_aload_n hx hb dX6_charge_64 rfl (lv_at hl 1 rfl) ?_
    refine mk_g6_17 hx hb hts in_X6_charge_X6 hown hK hP (by decide) rfl (hts (.fieldLink RX6 53 "MixedKernelModel" "releases" "[I") (by decide +kernel)) dX6_charge_65 ?_
    refine lv_iload_n hx hb dX6_charge_68 rfl (lv_at hl 0 rfl) ?_
    obtain ⟨i_22, h⟩ := mk_ifn h
    refine mk_ia hx hb hK hP (by decide) rfl i_22 dX6_charge_69 ?_
    refine lv_aload_n hx hb dX6_charge_70 rfl (lv_at hl 1 rfl) ?_
    refine mk_g6_4 hx hb hts in_X6_charge_X6 hown hK hP (by decide) rfl (hts (.fieldLink RX6 20 "MixedKernelModel" "deadlines" "[I") (by decide +kernel)) dX6_charge_71 ?_
    refine lv_iload_n hx hb dX6_charge_74 rfl (lv_at hl 2 rfl) ?_
    obtain ⟨i_23, h⟩ := mk_ifn h
    refine mk_ia hx hb hK hP (by decide) rfl i_23 dX6_charge_75 ?_
    refine lv_iadd hx hb dX6_charge_76 ?_
    refine lv_icmp_le (tgt := 91) hx hb dX6_charge_77 (by decide) (fun c_24 => ?_) (fun c_24 => ?_)
    · replace h := (if_pos c_24).symm.trans h
      refine lv_aload_n hx hb dX6_charge_91 rfl (lv_at hl 1 rfl) ?_
      refine mk_g6_15 hx hb hts in_X6_charge_X6 hown hK hP (by decide) rfl (hts (.fieldLink RX6 47 "MixedKernelModel" "lates" "[I") (by decide +kernel)) dX6_charge_92 ?_
      refine lv_iload_n hx hb dX6_charge_95 rfl (lv_at hl 2 rfl) ?_
      obtain ⟨i_25, h⟩ := mk_ifn h
      refine mk_ia hx hb hK hP (by decide) rfl i_25 dX6_charge_96 ?_
      obtain ⟨i_26, h⟩ := mk_ifn h
      refine mk_is hx hb hK hP (hD _ _) hS (by decide) rfl i_26 dX6_charge_97 (fun H locs hP hS => ?_)
      refine lv_aload_n hx hb dX6_charge_98 rfl (lv_at hl 1 rfl) ?_
      refine lv_iload_n hx hb dX6_charge_99 rfl (lv_at hl 2 rfl) ?_
      obtain ⟨r_28, e_27, h⟩ := mk_bind h
      refine va_callv (va_runV (As := [.int a1]) (rest := []) ⟨hx, hb, hml, hown, hts⟩ (c_X6_leave l D E L a1 (mk_st (mk_st (mk_st (mk_st M 85 (r_4).toNatClampNeg ((M 85 (r_4).toNatClampNeg) + 1)) 80 (a1).toNatClampNeg (((mk_st M 85 (r_4).toNatClampNeg ((M 85 (r_4).toNatClampNeg) + 1)) 80 (a1).toNatClampNeg) + 1)) 86 (r_4).toNatClampNeg ((mk_st (mk_st M 85 (r_4).toNatClampNeg ((M 85 (r_4).toNatClampNeg) + 1)) 80 (a1).toNatClampNeg (((mk_st M 85 (r_4).toNatClampNeg ((M 85 (r_4).toNatClampNeg) + 1)) 80 (a1).toNatClampNeg) + 1)) 68 21)) 81 (a1).toNatClampNeg ((mk_st (mk_st (mk_st M 85 (r_4).toNatClampNeg ((M 85 (r_4).toNatClampNeg) + 1)) 80 (a1).toNatClampNeg (((mk_st M 85 (r_4).toNatClampNeg ((M 85 (r_4).toNatClampNeg) + 1)) 80 (a1).toNatClampNeg) + 1)) 86 (r_4).toNatClampNeg ((mk_st (mk_st M 85 (r_4).toNatClampNeg ((M 85 (r_4).toNatClampNeg) + 1)) 80 (a1).toNatClampNeg (((mk_st M 85 (r_4).toNatClampNeg ((M 85 (r_4).toNatClampNeg) + 1)) 80 (a1).toNatClampNeg) + 1)) 68 21)) 81 (a1).toNatClampNeg))  e_27) (cwV 1 hts gX6_charge_X6_leave rfl rfl rfl (by decide +kernel) ⟨Nat.le_of_ble_eq_true rfl, Nat.le_of_ble_eq_true rfl⟩) ⟨mk_W.blind, mk_rc6 hK hP (by decide) rfl, fun U hU hW => ⟨rfl, mk_W.at hU hW hP hK (hD _ _) hN⟩⟩ rfl rfl hl.1 rfl (lv_room (Nat.le_of_ble_eq_true rfl)) dX6_charge_100 ⟨Nat.zero_le _, Nat.zero_le _⟩) hS (fun q _ h => h) (fun q h => h) (fun u t H1 locs ht hvm hw hB hz1 hk1 hS => ?_)
      rw [ht] at hB
      replace hP := hB
      clear hB hz1 hk1 hvm ht
      generalize H1 = H at hP hS ⊢
      refine lv_goto (tgt := 172) hx hb dX6_charge_103 (by decide) ?_
      replace h := Option.some.inj h
      subst q
      exact W.vret hx hb hr (fun t ht hW => ⟨⟨(), rfl, trivial, by rw [← ht] at hP; exact hP⟩, hS.F ht⟩) hS.2.2 dX6_charge_172
    · replace h := (if_neg c_24).symm.trans h
      refine lv_aload_n hx hb dX6_charge_80 rfl (lv_at hl 1 rfl) ?_
      refine mk_g6_15 hx hb hts in_X6_charge_X6 hown hK hP (by decide) rfl (hts (.fieldLink RX6 47 "MixedKernelModel" "lates" "[I") (by decide +kernel)) dX6_charge_81 ?_
      refine lv_iload_n hx hb dX6_charge_84 rfl (lv_at hl 2 rfl) ?_
      obtain ⟨i_29, h⟩ := mk_ifn h
      refine mk_ia hx hb hK hP (by decide) rfl i_29 dX6_charge_85 ?_
      refine lv_iconst (v := 1) hx hb dX6_charge_86 (by decide) ?_
      refine lv_iadd hx hb dX6_charge_87 ?_
      refine lv_goto (tgt := 97) hx hb dX6_charge_88 (by decide) ?_
      obtain ⟨i_30, h⟩ := mk_ifn h
      refine mk_is hx hb hK hP (hD _ _) hS (by decide) rfl i_30 dX6_charge_97 (fun H locs hP hS => ?_)
      refine lv_aload_n hx hb dX6_charge_98 rfl (lv_at hl 1 rfl) ?_
      refine lv_iload_n hx hb dX6_charge_99 rfl (lv_at hl 2 rfl) ?_
      obtain ⟨r_32, e_31, h⟩ := mk_bind h
      refine va_callv (va_runV (As := [.int a1]) (rest := []) ⟨hx, hb, hml, hown, hts⟩ (c_X6_leave l D E L a1 (mk_st (mk_st (mk_st (mk_st M 85 (r_4).toNatClampNeg ((M 85 (r_4).toNatClampNeg) + 1)) 80 (a1).toNatClampNeg (((mk_st M 85 (r_4).toNatClampNeg ((M 85 (r_4).toNatClampNeg) + 1)) 80 (a1).toNatClampNeg) + 1)) 86 (r_4).toNatClampNeg ((mk_st (mk_st M 85 (r_4).toNatClampNeg ((M 85 (r_4).toNatClampNeg) + 1)) 80 (a1).toNatClampNeg (((mk_st M 85 (r_4).toNatClampNeg ((M 85 (r_4).toNatClampNeg) + 1)) 80 (a1).toNatClampNeg) + 1)) 68 21)) 81 (a1).toNatClampNeg (((mk_st (mk_st (mk_st M 85 (r_4).toNatClampNeg ((M 85 (r_4).toNatClampNeg) + 1)) 80 (a1).toNatClampNeg (((mk_st M 85 (r_4).toNatClampNeg ((M 85 (r_4).toNatClampNeg) + 1)) 80 (a1).toNatClampNeg) + 1)) 86 (r_4).toNatClampNeg ((mk_st (mk_st M 85 (r_4).toNatClampNeg ((M 85 (r_4).toNatClampNeg) + 1)) 80 (a1).toNatClampNeg (((mk_st M 85 (r_4).toNatClampNeg ((M 85 (r_4).toNatClampNeg) + 1)) 80 (a1).toNatClampNeg) + 1)) 68 21)) 81 (a1).toNatClampNeg) + 1))  e_31) (cwV 1 hts gX6_charge_X6_leave rfl rfl rfl (by decide +kernel) ⟨Nat.le_of_ble_eq_true rfl, Nat.le_of_ble_eq_true rfl⟩) ⟨mk_W.blind, mk_rc6 hK hP (by decide) rfl, fun U hU hW => ⟨rfl, mk_W.at hU hW hP hK (hD _ _) hN⟩⟩ rfl rfl hl.1 rfl (lv_room (Nat.le_of_ble_eq_true rfl)) dX6_charge_100 ⟨Nat.zero_le _, Nat.zero_le _⟩) hS (fun q _ h => h) (fun q h => h) (fun u t H1 locs ht hvm hw hB hz1 hk1 hS => ?_)
      rw [ht] at hB
      replace hP := hB
      clear hB hz1 hk1 hvm ht
      generalize H1 = H at hP hS ⊢
      refine lv_goto (tgt := 172) hx hb dX6_charge_103 (by decide) ?_
      replace h := Option.some.inj h
      subst q
      exact W.vret hx hb hr (fun t ht hW => ⟨⟨(), rfl, trivial, by rw [← ht] at hP; exact hP⟩, hS.F ht⟩) hS.2.2 dX6_charge_172
