abbrev rm_X2_keep : Room := { frames := 0, cells := 0, slots := 0, locals := 0 }
theorem in_X2_keep_X1 : ∀ w ∈ wsX10, w ∈ wsX2_keep := by decide +kernel
theorem in_X2_keep_X2 : ∀ w ∈ wsX20, w ∈ wsX2_keep := by decide +kernel
theorem in_X2_keep_X3 : ∀ w ∈ wsX30, w ∈ wsX2_keep := by decide +kernel
def f_X2_keep_10 (x1 : Nat) : Nat → Int32 → Int32 → mk_M → Option (mk_M)
  | 0, _, _, _ => none
  | n + 1, l2, l4, M => (if (M 9 2) ≤ l4 then (if mk_ob l2 12 then none else (if mk_ob (M (x1+1) (l2).toNatClampNeg) 13 then none else (some (mk_st M 9 3 (M (16 + 4 * (M (x1+1) (l2).toNatClampNeg).toNatClampNeg) 1))))) else (if mk_ob l4 12 then none else (if mk_ob l4 12 then none else (if mk_ob l4 12 then none else (if mk_ob ((mk_st M 10 (l4).toNatClampNeg (M (x1+1) (l4).toNatClampNeg)) (x1+1) (l4).toNatClampNeg) 13 then none else (if mk_ob l4 12 then none else (f_X2_keep_10 x1 n l2 (l4 + 1) (mk_st (mk_st M 10 (l4).toNatClampNeg (M (x1+1) (l4).toNatClampNeg)) 11 (l4).toNatClampNeg ((mk_st M 10 (l4).toNatClampNeg (M (x1+1) (l4).toNatClampNeg)) (16 + 4 * ((mk_st M 10 (l4).toNatClampNeg (M (x1+1) (l4).toNatClampNeg)) (x1+1) (l4).toNatClampNeg).toNatClampNeg) 0)))))))))
set_option maxHeartbeats 4000000 in
set_option maxRecDepth 100000 in
theorem w_X2_keep_10 {p : Program} {l : Launch} {e : Env} {s : State} {m : MethodId} {args : Array Value} {below : List Frame} {meth : Method} {c : Code} {D : va_G} {E : mk_E} {L : Nat → Int64} (C0 : mk_C p s m args meth c cX2_keep 5 wsX2_keep RX2 none D E) (x1 : Nat) (hx_x1 : x1 < 94) (hk_x1 : mk_kd x1 = 1) : ∀ n : Nat, ∀ (l2 : Int32) (l4 : Int32) (M : mk_M) (q : mk_M), f_X2_keep_10 x1 n l2 l4 M = some q → ∀ (H : Heap) (locs : List Loc) (ls : Array Slot), va_P D vwCl (mk_wl E M L) H → va_S (mk_A E) s.heap H locs → lv_has ls 5 [(0, .ref (E.1 9)), (1, .ref (E.1 x1)), (2, .int l2), (3, .ref (E.1 2)), (4, .int l4)] → W p l e rm_X2_keep s m args below meth c H locs 0 0 (MQ below (mk_Qv D E L q) args s 0 0 (mk_A E)) (F0 m 10 ls []) := by
  obtain ⟨hx, hb, hml, hown, hts, hr, hlk, hK, hD, hN⟩ := id C0
  have ha_x1 := mk_s1 hk_x1
  intro n
  induction n with
  | zero =>
    intro l2 l4 M q h
    cases h
  | succ n ih =>
    intro l2 l4 M q h H locs ls hP hS hl
    replace h : (if (M 9 2) ≤ l4 then (if mk_ob l2 12 then none else (if mk_ob (M (x1+1) (l2).toNatClampNeg) 13 then none else (some (mk_st M 9 3 (M (16 + 4 * (M (x1+1) (l2).toNatClampNeg).toNatClampNeg) 1))))) else (if mk_ob l4 12 then none else (if mk_ob l4 12 then none else (if mk_ob l4 12 then none else (if mk_ob ((mk_st M 10 (l4).toNatClampNeg (M (x1+1) (l4).toNatClampNeg)) (x1+1) (l4).toNatClampNeg) 13 then none else (if mk_ob l4 12 then none else (f_X2_keep_10 x1 n l2 (l4 + 1) (mk_st (mk_st M 10 (l4).toNatClampNeg (M (x1+1) (l4).toNatClampNeg)) 11 (l4).toNatClampNeg ((mk_st M 10 (l4).toNatClampNeg (M (x1+1) (l4).toNatClampNeg)) (16 + 4 * ((mk_st M 10 (l4).toNatClampNeg (M (x1+1) (l4).toNatClampNeg)) (x1+1) (l4).toNatClampNeg).toNatClampNeg) 0))))))))) = some q := h
    refine lv_iload hx hb dX2_keep_10 (lv_at hl 4 rfl) ?_
    refine lv_aload_n hx hb dX2_keep_12 rfl (lv_at hl 0 rfl) ?_
    refine mk_g2_2 hx hb hts in_X2_keep_X2 hown hK hP (by decide) rfl (hts (.fieldLink RX2 18 "MixedKernel$Refusal" "size" "I") (by decide +kernel)) dX2_keep_13 ?_
    refine lv_icmp_ge (tgt := 58) hx hb dX2_keep_16 (by decide) (fun c_1 => ?_) (fun c_1 => ?_)
    · replace h := (if_pos c_1).symm.trans h
      refine lv_aload_n hx hb dX2_keep_58 rfl (lv_at hl 0 rfl) ?_
      refine lv_aload_n hx hb dX2_keep_59 rfl (lv_at hl 3 rfl) ?_
      refine lv_aload_n hx hb dX2_keep_60 rfl (lv_at hl 1 rfl) ?_
      refine mk_n1_0 hx hb hts in_X2_keep_X1 hown hK hP hx_x1 hk_x1 (va_Nw.use rfl (hN (.fieldLinkNest "MixedKernel$Refusal" 22 "MixedKernel$Line" "ids" "[I" "MixedKernel") (by decide +kernel))) dX2_keep_61 ?_
      refine lv_iload_n hx hb dX2_keep_64 rfl (lv_at hl 2 rfl) ?_
      obtain ⟨i_2, h⟩ := mk_ifn h
      refine mk_ia hx hb hK hP ha_x1.1 ha_x1.2.1 (by rw [ha_x1.2.2]; exact i_2) dX2_keep_65 ?_
      obtain ⟨i_3, h⟩ := mk_ifn h
      have k_4 := mk_kd_task i_3
      have w_5 := mk_s3 k_4.1
      refine mk_aa hx hb hK hP (by decide) rfl i_3 dX2_keep_66 ?_
      refine mk_n3_1 hx hb hts in_X2_keep_X3 hown hK hP (Nat.lt_trans k_4.2 (by decide)) k_4.1 (va_Nw.use rfl (hN (.fieldLinkNest "MixedKernel$Refusal" 30 "MixedKernel$Task" "deadline" "I" "MixedKernel") (by decide +kernel))) dX2_keep_67 ?_
      refine mk_p2_3 hx hb hts in_X2_keep_X2 hown hK hP (by decide) rfl (hD _ _) hS (hts (.fieldLink RX2 33 "MixedKernel$Refusal" "deadline" "I") (by decide +kernel)) dX2_keep_70 (fun H locs hP hS => ?_)
      replace h := Option.some.inj h
      subst q
      exact W.vret hx hb hr (fun t ht hW => ⟨⟨(), rfl, trivial, by rw [← ht] at hP; exact hP⟩, hS.F ht⟩) hS.2.2 dX2_keep_73
    · replace h := (if_neg c_1).symm.trans h
      refine lv_aload_n hx hb dX2_keep_19 rfl (lv_at hl 0 rfl) ?_
      refine mk_g2_0 hx hb hts in_X2_keep_X2 hown hK hP (by decide) rfl (hts (.fieldLink RX2 9 "MixedKernel$Refusal" "ids" "[I") (by decide +kernel)) dX2_keep_20 ?_
      refine lv_iload hx hb dX2_keep_23 (lv_at hl 4 rfl) ?_
      refine lv_aload_n hx hb dX2_keep_25 rfl (lv_at hl 1 rfl) ?_
      refine mk_n1_0 hx hb hts in_X2_keep_X1 hown hK hP hx_x1 hk_x1 (va_Nw.use rfl (hN (.fieldLinkNest "MixedKernel$Refusal" 22 "MixedKernel$Line" "ids" "[I" "MixedKernel") (by decide +kernel))) dX2_keep_26 ?_
      refine lv_iload hx hb dX2_keep_29 (lv_at hl 4 rfl) ?_
      obtain ⟨i_6, h⟩ := mk_ifn h
      refine mk_ia hx hb hK hP ha_x1.1 ha_x1.2.1 (by rw [ha_x1.2.2]; exact i_6) dX2_keep_31 ?_
      obtain ⟨i_7, h⟩ := mk_ifn h
      refine mk_is hx hb hK hP (hD _ _) hS (by decide) rfl i_7 dX2_keep_32 (fun H locs hP hS => ?_)
      refine lv_aload_n hx hb dX2_keep_33 rfl (lv_at hl 0 rfl) ?_
      refine mk_g2_1 hx hb hts in_X2_keep_X2 hown hK hP (by decide) rfl (hts (.fieldLink RX2 15 "MixedKernel$Refusal" "periods" "[I") (by decide +kernel)) dX2_keep_34 ?_
      refine lv_iload hx hb dX2_keep_37 (lv_at hl 4 rfl) ?_
      refine lv_aload_n hx hb dX2_keep_39 rfl (lv_at hl 3 rfl) ?_
      refine lv_aload_n hx hb dX2_keep_40 rfl (lv_at hl 1 rfl) ?_
      refine mk_n1_0 hx hb hts in_X2_keep_X1 hown hK hP hx_x1 hk_x1 (va_Nw.use rfl (hN (.fieldLinkNest "MixedKernel$Refusal" 22 "MixedKernel$Line" "ids" "[I" "MixedKernel") (by decide +kernel))) dX2_keep_41 ?_
      refine lv_iload hx hb dX2_keep_44 (lv_at hl 4 rfl) ?_
      obtain ⟨i_8, h⟩ := mk_ifn h
      refine mk_ia hx hb hK hP ha_x1.1 ha_x1.2.1 (by rw [ha_x1.2.2]; exact i_8) dX2_keep_46 ?_
      obtain ⟨i_9, h⟩ := mk_ifn h
      have k_10 := mk_kd_task i_9
      have w_11 := mk_s3 k_10.1
      refine mk_aa hx hb hK hP (by decide) rfl i_9 dX2_keep_47 ?_
      refine mk_n3_0 hx hb hts in_X2_keep_X3 hown hK hP (Nat.lt_trans k_10.2 (by decide)) k_10.1 (va_Nw.use rfl (hN (.fieldLinkNest "MixedKernel$Refusal" 25 "MixedKernel$Task" "period" "I" "MixedKernel") (by decide +kernel))) dX2_keep_48 ?_
      obtain ⟨i_12, h⟩ := mk_ifn h
      refine mk_is hx hb hK hP (hD _ _) hS (by decide) rfl i_12 dX2_keep_51 (fun H locs hP hS => ?_)
      refine lv_iinc (v := l4 + 1) (lv' := [(4, .int (l4 + 1)), (0, .ref (E.1 9)), (1, .ref (E.1 x1)), (2, .int l2), (3, .ref (E.1 2))]) hx hb dX2_keep_52 hl (k := 4) rfl rfl (by decide) rfl (fun ls hl => ?_)
      refine lv_goto (tgt := 10) hx hb dX2_keep_55 (by decide) ?_
      exact ih l2 (l4 + 1) (mk_st (mk_st M 10 (l4).toNatClampNeg (M (x1+1) (l4).toNatClampNeg)) 11 (l4).toNatClampNeg ((mk_st M 10 (l4).toNatClampNeg (M (x1+1) (l4).toNatClampNeg)) (16 + 4 * ((mk_st M 10 (l4).toNatClampNeg (M (x1+1) (l4).toNatClampNeg)) (x1+1) (l4).toNatClampNeg).toNatClampNeg) 0)) _ h _ _ _ hP hS (lv_sub hl [1, 2, 3, 4, 0] rfl)
def f_X2_keep (x1 : Nat) (a2 : Int32) (M : mk_M) : Option (mk_M) := (f_X2_keep_10 x1 mk_F a2 0 (mk_st M 9 2 (a2 + 1)))
set_option maxHeartbeats 4000000 in
set_option maxRecDepth 100000 in
theorem c_X2_keep (l : Launch) (D : va_G) (E : mk_E) (L : Nat → Int64) (x1 : Nat) (a2 : Int32) (M : mk_M) (hx_x1 : x1 < 94) (hk_x1 : mk_kd x1 = 1) {q : mk_M} (h : f_X2_keep x1 a2 M = some q) : Met l yX2_keep wsX2_keep rm_X2_keep (va_Pc [.ref (E.1 9), .ref (E.1 x1), .int a2, .ref (E.1 2)] (mk_W D E M L)) (mk_Qv D E L q) 0 0 (mk_A E) := by
  have ha_x1 := mk_s1 hk_x1
  refine Met.ofW (cc := cX2_keep) (maxL := 5) (ret := none) (by decide) rfl ?_
  intro p e s m args below meth c s₁ B hml hv
  obtain ⟨rfl, hP, hK, hD0, hN⟩ := hv
  have hx := B.exec
  have hb := B.bytes
  have hr := B.returns
  have hts := atoms_spec (ws := wsX2_keep) B.pre
  have hown : s.vm.findClass RX2 = some m.cls := findClass_of_methodNamed B.named
  have hlk := B.notSynchronized
  have hD : ∀ (M : mk_M) (L : Nat → Int64), va_D (mk_A E) (mk_wl E M L) := fun _ _ => mk_D hD0
  have C0 : mk_C p s m [.ref (E.1 9), .ref (E.1 x1), .int a2, .ref (E.1 2)].toArray meth c cX2_keep 5 wsX2_keep RX2 none D E := ⟨hx, hb, hml, hown, hts, hr, hlk, hK, hD, hN⟩
  have hS : va_S (mk_A E) s.heap s.heap [] := va_S.rf
  have hl := lv_entry ([.ref (E.1 9), .ref (E.1 x1), .int a2, .ref (E.1 2)]) (n := 5) (Nat.le_of_ble_eq_true rfl)
  rw [lg_entry_eq]
  generalize (lg_sl ([.ref (E.1 9), .ref (E.1 x1), .int a2, .ref (E.1 2)]) ++ List.replicate (5 - (lg_sl ([.ref (E.1 9), .ref (E.1 x1), .int a2, .ref (E.1 2)])).length) Slot.unset).toArray = ls at hl ⊢
  have hl : lv_has ls 5 [(0, .ref (E.1 9)), (1, .ref (E.1 x1)), (2, .int a2), (3, .ref (E.1 2))] := hl
  replace h : (f_X2_keep_10 x1 mk_F a2 0 (mk_st M 9 2 (a2 + 1))) = some q := h
  refine lv_aload_n hx hb dX2_keep_0 rfl (lv_at hl 0 rfl) ?_
  refine lv_iload_n hx hb dX2_keep_1 rfl (lv_at hl 2 rfl) ?_
  refine lv_iconst (v := 1) hx hb dX2_keep_2 (by decide) ?_
  refine lv_iadd hx hb dX2_keep_3 ?_
  refine mk_p2_2 hx hb hts in_X2_keep_X2 hown hK hP (by decide) rfl (hD _ _) hS (hts (.fieldLink RX2 18 "MixedKernel$Refusal" "size" "I") (by decide +kernel)) dX2_keep_4 (fun H locs hP hS => ?_)
  refine lv_iconst (v := 0) hx hb dX2_keep_7 (by decide) ?_
  refine lv_istore (lv' := [(4, .int 0), (0, .ref (E.1 9)), (1, .ref (E.1 x1)), (2, .int a2), (3, .ref (E.1 2))]) hx hb dX2_keep_8 hl (by decide) rfl (fun ls hl => ?_)
  exact w_X2_keep_10 C0 x1 hx_x1 hk_x1 mk_F a2 0 (mk_st M 9 2 (a2 + 1)) _ h _ _ _ hP hS (lv_sub hl [1, 2, 3, 4, 0] rfl)
abbrev rm_X2_releasesBefore : Room := { frames := 1, cells := 0, slots := 0, locals := 21 }
theorem in_X2_releasesBefore_X2 : ∀ w ∈ wsX20, w ∈ wsX2_releasesBefore := by decide +kernel
def f_X2_releasesBefore_4 : Nat → Int32 → Int32 → Int32 → mk_M → Option (Int32)
  | 0, _, _, _, _ => none
  | n + 1, l1, l2, l3, M => (if (M 9 2) ≤ l3 then (some l2) else (if mk_ob l3 12 then none else ((f_X5_releasesWithin l1 (M 11 (l3).toNatClampNeg) M).bind (fun r_4 => (f_X2_releasesBefore_4 n l1 (l2 + r_4) (l3 + 1) M)))))
set_option maxHeartbeats 4000000 in
set_option maxRecDepth 100000 in
theorem w_X2_releasesBefore_4 {p : Program} {l : Launch} {e : Env} {s : State} {m : MethodId} {args : Array Value} {below : List Frame} {meth : Method} {c : Code} {D : va_G} {E : mk_E} {L : Nat → Int64} (C0 : mk_C p s m args meth c cX2_releasesBefore 4 wsX2_releasesBefore RX2 (some .int) D E) : ∀ n : Nat, ∀ (l1 : Int32) (l2 : Int32) (l3 : Int32) (M : mk_M) (q : Int32), f_X2_releasesBefore_4 n l1 l2 l3 M = some q → ∀ (H : Heap) (locs : List Loc) (ls : Array Slot), va_P D vwCl (mk_wl E M L) H → va_S (mk_A E) s.heap H locs → lv_has ls 4 [(0, .ref (E.1 9)), (1, .int l1), (2, .int l2), (3, .int l3)] → W p l e rm_X2_releasesBefore s m args below meth c H locs 0 0 (MQ below (mk_Qi D E L q M) args s 0 0 (mk_A E)) (F0 m 4 ls []) := by
  obtain ⟨hx, hb, hml, hown, hts, hr, hlk, hK, hD, hN⟩ := id C0
  intro n
  induction n with
  | zero =>
    intro l1 l2 l3 M q h
    cases h
  | succ n ih =>
    intro l1 l2 l3 M q h H locs ls hP hS hl
    replace h : (if (M 9 2) ≤ l3 then (some l2) else (if mk_ob l3 12 then none else ((f_X5_releasesWithin l1 (M 11 (l3).toNatClampNeg) M).bind (fun r_4 => (f_X2_releasesBefore_4 n l1 (l2 + r_4) (l3 + 1) M))))) = some q := h
    refine lv_iload_n hx hb dX2_releasesBefore_4 rfl (lv_at hl 3 rfl) ?_
    refine lv_aload_n hx hb dX2_releasesBefore_5 rfl (lv_at hl 0 rfl) ?_
    refine mk_g2_2 hx hb hts in_X2_releasesBefore_X2 hown hK hP (by decide) rfl (hts (.fieldLink RX2 18 "MixedKernel$Refusal" "size" "I") (by decide +kernel)) dX2_releasesBefore_6 ?_
    refine lv_icmp_ge (tgt := 31) hx hb dX2_releasesBefore_9 (by decide) (fun c_1 => ?_) (fun c_1 => ?_)
    · replace h := (if_pos c_1).symm.trans h
      refine lv_iload_n hx hb dX2_releasesBefore_31 rfl (lv_at hl 2 rfl) ?_
      replace h := Option.some.inj h
      subst q
      exact W.iret (v := l2) hx hb hr (fun t ht hW => ⟨⟨_, (), rfl, rfl, by rw [← ht] at hP; exact hP⟩, hS.F ht⟩) hS.2.2 dX2_releasesBefore_32
    · replace h := (if_neg c_1).symm.trans h
      refine lv_iload_n hx hb dX2_releasesBefore_12 rfl (lv_at hl 2 rfl) ?_
      refine lv_iload_n hx hb dX2_releasesBefore_13 rfl (lv_at hl 1 rfl) ?_
      refine lv_aload_n hx hb dX2_releasesBefore_14 rfl (lv_at hl 0 rfl) ?_
      refine mk_g2_1 hx hb hts in_X2_releasesBefore_X2 hown hK hP (by decide) rfl (hts (.fieldLink RX2 15 "MixedKernel$Refusal" "periods" "[I") (by decide +kernel)) dX2_releasesBefore_15 ?_
      refine lv_iload_n hx hb dX2_releasesBefore_18 rfl (lv_at hl 3 rfl) ?_
      obtain ⟨i_2, h⟩ := mk_ifn h
      refine mk_ia hx hb hK hP (by decide) rfl i_2 dX2_releasesBefore_19 ?_
      obtain ⟨r_4, e_3, h⟩ := mk_bind h
      refine va_calli (va_runSN (As := [.int l1, .int (M 11 (l3).toNatClampNeg)]) (rest := [.int l2]) ⟨hx, hb, hml, hown, hts⟩ (c_X5_releasesWithin l D E L l1 (M 11 (l3).toNatClampNeg) M  e_3) ⟨va_cnB 2 hts ggX2_releasesBefore_X5_releasesWithin rfl rfl rfl (hN (.methodLinkNest "MixedKernel$Refusal" 45 ⟨"MixedKernel", "releasesWithin", "(II)I"⟩ "MixedKernel") (by decide +kernel)) (hts (.initialized RX5) (by decide +kernel)) (by decide +kernel) ⟨Nat.le_of_ble_eq_true rfl, Nat.le_of_ble_eq_true rfl⟩, hts (.static yX5_releasesWithin) (by decide +kernel), trivial⟩ ⟨mk_W.blind, fun U hU hW => ⟨rfl, mk_W.at hU hW hP hK (hD _ _) hN⟩⟩ rfl rfl hl.1 rfl (lv_room (Nat.le_of_ble_eq_true rfl)) dX2_releasesBefore_20 ⟨Nat.zero_le _, Nat.zero_le _⟩) hS (fun q _ h => h) (fun q h => h) (fun v_5 u t H1 locs ht hvm hw hB hz1 hk1 hS => ?_)
      subst v_5
      rw [ht] at hB
      replace hP := hB
      clear hB hz1 hk1 hvm ht
      generalize H1 = H at hP hS ⊢
      refine lv_iadd hx hb dX2_releasesBefore_23 ?_
      refine lv_istore_n (lv' := [(2, .int (l2 + r_4)), (0, .ref (E.1 9)), (1, .int l1), (3, .int l3)]) hx hb dX2_releasesBefore_24 rfl hl (by decide) rfl (fun ls hl => ?_)
      refine lv_iinc (v := l3 + 1) (lv' := [(3, .int (l3 + 1)), (2, .int (l2 + r_4)), (0, .ref (E.1 9)), (1, .int l1)]) hx hb dX2_releasesBefore_25 hl (k := 3) rfl rfl (by decide) rfl (fun ls hl => ?_)
      refine lv_goto (tgt := 4) hx hb dX2_releasesBefore_28 (by decide) ?_
      exact ih l1 (l2 + r_4) (l3 + 1) M _ h _ _ _ hP hS (lv_sub hl [2, 3, 1, 0] rfl)
def f_X2_releasesBefore (a1 : Int32) (M : mk_M) : Option (Int32) := (f_X2_releasesBefore_4 mk_F a1 0 0 M)
set_option maxHeartbeats 4000000 in
set_option maxRecDepth 100000 in
theorem c_X2_releasesBefore (l : Launch) (D : va_G) (E : mk_E) (L : Nat → Int64) (a1 : Int32) (M : mk_M) {q : Int32} (h : f_X2_releasesBefore a1 M = some q) : Met l yX2_releasesBefore wsX2_releasesBefore rm_X2_releasesBefore (va_Pc [.ref (E.1 9), .int a1] (mk_W D E M L)) (mk_Qi D E L q M) 0 0 (mk_A E) := by
  refine Met.ofW (cc := cX2_releasesBefore) (maxL := 4) (ret := (some .int)) (by decide) rfl ?_
  intro p e s m args below meth c s₁ B hml hv
  obtain ⟨rfl, hP, hK, hD0, hN⟩ := hv
  have hx := B.exec
  have hb := B.bytes
  have hr := B.returns
  have hts := atoms_spec (ws := wsX2_releasesBefore) B.pre
  have hown : s.vm.findClass RX2 = some m.cls := findClass_of_methodNamed B.named
  have hlk := B.notSynchronized
  have hD : ∀ (M : mk_M) (L : Nat → Int64), va_D (mk_A E) (mk_wl E M L) := fun _ _ => mk_D hD0
  have C0 : mk_C p s m [.ref (E.1 9), .int a1].toArray meth c cX2_releasesBefore 4 wsX2_releasesBefore RX2 (some .int) D E := ⟨hx, hb, hml, hown, hts, hr, hlk, hK, hD, hN⟩
  have hS : va_S (mk_A E) s.heap s.heap [] := va_S.rf
  have hl := lv_entry ([.ref (E.1 9), .int a1]) (n := 4) (Nat.le_of_ble_eq_true rfl)
  rw [lg_entry_eq]
  generalize (lg_sl ([.ref (E.1 9), .int a1]) ++ List.replicate (4 - (lg_sl ([.ref (E.1 9), .int a1])).length) Slot.unset).toArray = ls at hl ⊢
  have hl : lv_has ls 4 [(0, .ref (E.1 9)), (1, .int a1)] := hl
  replace h : (f_X2_releasesBefore_4 mk_F a1 0 0 M) = some q := h
  refine lv_iconst (v := 0) hx hb dX2_releasesBefore_0 (by decide) ?_
  refine lv_istore_n (lv' := [(2, .int 0), (0, .ref (E.1 9)), (1, .int a1)]) hx hb dX2_releasesBefore_1 rfl hl (by decide) rfl (fun ls hl => ?_)
  refine lv_iconst (v := 0) hx hb dX2_releasesBefore_2 (by decide) ?_
  refine lv_istore_n (lv' := [(3, .int 0), (2, .int 0), (0, .ref (E.1 9)), (1, .int a1)]) hx hb dX2_releasesBefore_3 rfl hl (by decide) rfl (fun ls hl => ?_)
  exact w_X2_releasesBefore_4 C0 mk_F a1 0 0 M _ h _ _ _ hP hS (lv_sub hl [2, 3, 1, 0] rfl)
abbrev rm_X2_releases : Room := { frames := 2, cells := 0, slots := 0, locals := 44 }
theorem in_X2_releases_X2 : ∀ w ∈ wsX20, w ∈ wsX2_releases := by decide +kernel
def f_X2_releases (M : mk_M) : Option (Int32) := ((f_X2_releasesBefore (M 9 3) M).bind (fun r_2 => (some r_2)))
set_option maxHeartbeats 4000000 in
set_option maxRecDepth 100000 in
theorem c_X2_releases (l : Launch) (D : va_G) (E : mk_E) (L : Nat → Int64) (M : mk_M) {q : Int32} (h : f_X2_releases M = some q) : Met l yX2_releases wsX2_releases rm_X2_releases (va_Pc [.ref (E.1 9)] (mk_W D E M L)) (mk_Qi D E L q M) 0 0 (mk_A E) := by
  refine Met.ofW (cc := cX2_releases) (maxL := 1) (ret := (some .int)) (by decide) rfl ?_
  intro p e s m args below meth c s₁ B hml hv
  obtain ⟨rfl, hP, hK, hD0, hN⟩ := hv
  have hx := B.exec
  have hb := B.bytes
  have hr := B.returns
  have hts := atoms_spec (ws := wsX2_releases) B.pre
  have hown : s.vm.findClass RX2 = some m.cls := findClass_of_methodNamed B.named
  have hlk := B.notSynchronized
  have hD : ∀ (M : mk_M) (L : Nat → Int64), va_D (mk_A E) (mk_wl E M L) := fun _ _ => mk_D hD0
  have C0 : mk_C p s m [.ref (E.1 9)].toArray meth c cX2_releases 1 wsX2_releases RX2 (some .int) D E := ⟨hx, hb, hml, hown, hts, hr, hlk, hK, hD, hN⟩
  have hS : va_S (mk_A E) s.heap s.heap [] := va_S.rf
  have hl := lv_entry ([.ref (E.1 9)]) (n := 1) (Nat.le_of_ble_eq_true rfl)
  rw [lg_entry_eq]
  generalize (lg_sl ([.ref (E.1 9)]) ++ List.replicate (1 - (lg_sl ([.ref (E.1 9)])).length) Slot.unset).toArray = ls at hl ⊢
  have hl : lv_has ls 1 [(0, .ref (E.1 9))] := hl
  replace h : ((f_X2_releasesBefore (M 9 3) M).bind (fun r_2 => (some r_2))) = some q := h
  refine lv_aload_n hx hb dX2_releases_0 rfl (lv_at hl 0 rfl) ?_
  refine lv_aload_n hx hb dX2_releases_1 rfl (lv_at hl 0 rfl) ?_
  refine mk_g2_3 hx hb hts in_X2_releases_X2 hown hK hP (by decide) rfl (hts (.fieldLink RX2 33 "MixedKernel$Refusal" "deadline" "I") (by decide +kernel)) dX2_releases_2 ?_
  obtain ⟨r_2, e_1, h⟩ := mk_bind h
  refine va_calli (va_runV (As := [.int (M 9 3)]) (rest := []) ⟨hx, hb, hml, hown, hts⟩ (c_X2_releasesBefore l D E L (M 9 3) M  e_1) (cwV 1 hts gX2_releases_X2_releasesBefore rfl rfl rfl (by decide +kernel) ⟨Nat.le_of_ble_eq_true rfl, Nat.le_of_ble_eq_true rfl⟩) ⟨mk_W.blind, mk_rc2 hK hP (by decide) rfl, fun U hU hW => ⟨rfl, mk_W.at hU hW hP hK (hD _ _) hN⟩⟩ rfl rfl hl.1 rfl (lv_room (Nat.le_of_ble_eq_true rfl)) dX2_releases_5 ⟨Nat.zero_le _, Nat.zero_le _⟩) hS (fun q _ h => h) (fun q h => h) (fun v_3 u t H1 locs ht hvm hw hB hz1 hk1 hS => ?_)
  subst v_3
  rw [ht] at hB
  replace hP := hB
  clear hB hz1 hk1 hvm ht
  generalize H1 = H at hP hS ⊢
  replace h := Option.some.inj h
  subst q
  exact W.iret (v := r_2) hx hb hr (fun t ht hW => ⟨⟨_, (), rfl, rfl, by rw [← ht] at hP; exact hP⟩, hS.F ht⟩) hS.2.2 dX2_releases_8
abbrev rm_X2_timeOf : Room := { frames := 2, cells := 0, slots := 0, locals := 44 }
theorem in_X2_timeOf_X2 : ∀ w ∈ wsX20, w ∈ wsX2_timeOf := by decide +kernel
def f_X2_timeOf_6 : Nat → Int32 → Int32 → Int32 → mk_M → Option (Int32)
  | 0, _, _, _, _ => none
  | n + 1, l1, l2, l3, M => (if l3 ≤ 0 then (some l2) else (if (M 9 3) ≤ (l2 + l3) then (f_X2_timeOf_6 n l1 l2 (l3 / 2) M) else ((f_X2_releasesBefore (l2 + l3) M).bind (fun r_4 => (if l1 < r_4 then (f_X2_timeOf_6 n l1 l2 (l3 / 2) M) else (f_X2_timeOf_6 n l1 (l2 + l3) (l3 / 2) M))))))
set_option maxHeartbeats 4000000 in
set_option maxRecDepth 100000 in
theorem w_X2_timeOf_6 {p : Program} {l : Launch} {e : Env} {s : State} {m : MethodId} {args : Array Value} {below : List Frame} {meth : Method} {c : Code} {D : va_G} {E : mk_E} {L : Nat → Int64} (C0 : mk_C p s m args meth c cX2_timeOf 4 wsX2_timeOf RX2 (some .int) D E) : ∀ n : Nat, ∀ (l1 : Int32) (l2 : Int32) (l3 : Int32) (M : mk_M) (q : Int32), f_X2_timeOf_6 n l1 l2 l3 M = some q → ∀ (H : Heap) (locs : List Loc) (ls : Array Slot), va_P D vwCl (mk_wl E M L) H → va_S (mk_A E) s.heap H locs → lv_has ls 4 [(0, .ref (E.1 9)), (1, .int l1), (2, .int l2), (3, .int l3)] → W p l e rm_X2_timeOf s m args below meth c H locs 0 0 (MQ below (mk_Qi D E L q M) args s 0 0 (mk_A E)) (F0 m 6 ls []) := by
  obtain ⟨hx, hb, hml, hown, hts, hr, hlk, hK, hD, hN⟩ := id C0
  intro n
  induction n with
  | zero =>
    intro l1 l2 l3 M q h
    cases h
  | succ n ih =>
    intro l1 l2 l3 M q h H locs ls hP hS hl
    replace h : (if l3 ≤ 0 then (some l2) else (if (M 9 3) ≤ (l2 + l3) then (f_X2_timeOf_6 n l1 l2 (l3 / 2) M) else ((f_X2_releasesBefore (l2 + l3) M).bind (fun r_4 => (if l1 < r_4 then (f_X2_timeOf_6 n l1 l2 (l3 / 2) M) else (f_X2_timeOf_6 n l1 (l2 + l3) (l3 / 2) M)))))) = some q := h
    refine lv_iload_n hx hb dX2_timeOf_6 rfl (lv_at hl 3 rfl) ?_
    refine lv_if_le (tgt := 42) hx hb dX2_timeOf_7 (by decide) (fun c_1 => ?_) (fun c_1 => ?_)
    · replace h := (if_pos c_1).symm.trans h
      refine lv_iload_n hx hb dX2_timeOf_42 rfl (lv_at hl 2 rfl) ?_
      replace h := Option.some.inj h
      subst q
      exact W.iret (v := l2) hx hb hr (fun t ht hW => ⟨⟨_, (), rfl, rfl, by rw [← ht] at hP; exact hP⟩, hS.F ht⟩) hS.2.2 dX2_timeOf_43
    · replace h := (if_neg c_1).symm.trans h
      refine lv_iload_n hx hb dX2_timeOf_10 rfl (lv_at hl 2 rfl) ?_
      refine lv_iload_n hx hb dX2_timeOf_11 rfl (lv_at hl 3 rfl) ?_
      refine lv_iadd hx hb dX2_timeOf_12 ?_
      refine lv_aload_n hx hb dX2_timeOf_13 rfl (lv_at hl 0 rfl) ?_
      refine mk_g2_3 hx hb hts in_X2_timeOf_X2 hown hK hP (by decide) rfl (hts (.fieldLink RX2 33 "MixedKernel$Refusal" "deadline" "I") (by decide +kernel)) dX2_timeOf_14 ?_
      refine lv_icmp_ge (tgt := 35) hx hb dX2_timeOf_17 (by decide) (fun c_2 => ?_) (fun c_2 => ?_)
      · replace h := (if_pos c_2).symm.trans h
        refine lv_iload_n hx hb dX2_timeOf_35 rfl (lv_at hl 3 rfl) ?_
        refine lv_iconst (v := 2) hx hb dX2_timeOf_36 (by decide) ?_
        refine lv_idiv hx hb dX2_timeOf_37 (by decide) ?_
        refine lv_istore_n (lv' := [(3, .int (l3 / 2)), (0, .ref (E.1 9)), (1, .int l1), (2, .int l2)]) hx hb dX2_timeOf_38 rfl hl (by decide) rfl (fun ls hl => ?_)
        refine lv_goto (tgt := 6) hx hb dX2_timeOf_39 (by decide) ?_
        exact ih l1 l2 (l3 / 2) M _ h _ _ _ hP hS (lv_sub hl [1, 2, 3, 0] rfl)
      · replace h := (if_neg c_2).symm.trans h
        refine lv_aload_n hx hb dX2_timeOf_20 rfl (lv_at hl 0 rfl) ?_
        refine lv_iload_n hx hb dX2_timeOf_21 rfl (lv_at hl 2 rfl) ?_
        refine lv_iload_n hx hb dX2_timeOf_22 rfl (lv_at hl 3 rfl) ?_
        refine lv_iadd hx hb dX2_timeOf_23 ?_
        obtain ⟨r_4, e_3, h⟩ := mk_bind h
        refine va_calli (va_runV (As := [.int (l2 + l3)]) (rest := []) ⟨hx, hb, hml, hown, hts⟩ (c_X2_releasesBefore l D E L (l2 + l3) M  e_3) (cwV 1 hts gX2_timeOf_X2_releasesBefore rfl rfl rfl (by decide +kernel) ⟨Nat.le_of_ble_eq_true rfl, Nat.le_of_ble_eq_true rfl⟩) ⟨mk_W.blind, mk_rc2 hK hP (by decide) rfl, fun U hU hW => ⟨rfl, mk_W.at hU hW hP hK (hD _ _) hN⟩⟩ rfl rfl hl.1 rfl (lv_room (Nat.le_of_ble_eq_true rfl)) dX2_timeOf_24 ⟨Nat.zero_le _, Nat.zero_le _⟩) hS (fun q _ h => h) (fun q h => h) (fun v_6 u t H1 locs ht hvm hw hB hz1 hk1 hS => ?_)
        subst v_6
        rw [ht] at hB
        replace hP := hB
        clear hB hz1 hk1 hvm ht
        generalize H1 = H at hP hS ⊢
        refine lv_iload_n hx hb dX2_timeOf_27 rfl (lv_at hl 1 rfl) ?_
        refine lv_icmp_gt (tgt := 35) hx hb dX2_timeOf_28 (by decide) (fun c_5 => ?_) (fun c_5 => ?_)
        · replace h := (if_pos c_5).symm.trans h
          refine lv_iload_n hx hb dX2_timeOf_35 rfl (lv_at hl 3 rfl) ?_
          refine lv_iconst (v := 2) hx hb dX2_timeOf_36 (by decide) ?_
          refine lv_idiv hx hb dX2_timeOf_37 (by decide) ?_
          refine lv_istore_n (lv' := [(3, .int (l3 / 2)), (0, .ref (E.1 9)), (1, .int l1), (2, .int l2)]) hx hb dX2_timeOf_38 rfl hl (by decide) rfl (fun ls hl => ?_)
          refine lv_goto (tgt := 6) hx hb dX2_timeOf_39 (by decide) ?_
          exact ih l1 l2 (l3 / 2) M _ h _ _ _ hP hS (lv_sub hl [1, 2, 3, 0] rfl)
        · replace h := (if_neg c_5).symm.trans h
          refine lv_iload_n hx hb dX2_timeOf_31 rfl (lv_at hl 2 rfl) ?_
          refine lv_iload_n hx hb dX2_timeOf_32 rfl (lv_at hl 3 rfl) ?_
          refine lv_iadd hx hb dX2_timeOf_33 ?_
          refine lv_istore_n (lv' := [(2, .int (l2 + l3)), (0, .ref (E.1 9)), (1, .int l1), (3, .int l3)]) hx hb dX2_timeOf_34 rfl hl (by decide) rfl (fun ls hl => ?_)
          refine lv_iload_n hx hb dX2_timeOf_35 rfl (lv_at hl 3 rfl) ?_
          refine lv_iconst (v := 2) hx hb dX2_timeOf_36 (by decide) ?_
          refine lv_idiv hx hb dX2_timeOf_37 (by decide) ?_
          refine lv_istore_n (lv' := [(3, .int (l3 / 2)), (2, .int (l2 + l3)), (0, .ref (E.1 9)), (1, .int l1)]) hx hb dX2_timeOf_38 rfl hl (by decide) rfl (fun ls hl => ?_)
          refine lv_goto (tgt := 6) hx hb dX2_timeOf_39 (by decide) ?_
          exact ih l1 (l2 + l3) (l3 / 2) M _ h _ _ _ hP hS (lv_sub hl [2, 3, 1, 0] rfl)
def f_X2_timeOf (a1 : Int32) (M : mk_M) : Option (Int32) := (f_X2_timeOf_6 mk_F a1 0 512 M)
set_option maxHeartbeats 4000000 in
set_option maxRecDepth 100000 in
theorem c_X2_timeOf (l : Launch) (D : va_G) (E : mk_E) (L : Nat → Int64) (a1 : Int32) (M : mk_M) {q : Int32} (h : f_X2_timeOf a1 M = some q) : Met l yX2_timeOf wsX2_timeOf rm_X2_timeOf (va_Pc [.ref (E.1 9), .int a1] (mk_W D E M L)) (mk_Qi D E L q M) 0 0 (mk_A E) := by
  refine Met.ofW (cc := cX2_timeOf) (maxL := 4) (ret := (some .int)) (by decide) rfl ?_
  intro p e s m args below meth c s₁ B hml hv
  obtain ⟨rfl, hP, hK, hD0, hN⟩ := hv
  have hx := B.exec
  have hb := B.bytes
  have hr := B.returns
  have hts := atoms_spec (ws := wsX2_timeOf) B.pre
  have hown : s.vm.findClass RX2 = some m.cls := findClass_of_methodNamed B.named
  have hlk := B.notSynchronized
  have hD : ∀ (M : mk_M) (L : Nat → Int64), va_D (mk_A E) (mk_wl E M L) := fun _ _ => mk_D hD0
  have C0 : mk_C p s m [.ref (E.1 9), .int a1].toArray meth c cX2_timeOf 4 wsX2_timeOf RX2 (some .int) D E := ⟨hx, hb, hml, hown, hts, hr, hlk, hK, hD, hN⟩
  have hS : va_S (mk_A E) s.heap s.heap [] := va_S.rf
  have hl := lv_entry ([.ref (E.1 9), .int a1]) (n := 4) (Nat.le_of_ble_eq_true rfl)
  rw [lg_entry_eq]
  generalize (lg_sl ([.ref (E.1 9), .int a1]) ++ List.replicate (4 - (lg_sl ([.ref (E.1 9), .int a1])).length) Slot.unset).toArray = ls at hl ⊢
  have hl : lv_has ls 4 [(0, .ref (E.1 9)), (1, .int a1)] := hl
  replace h : (f_X2_timeOf_6 mk_F a1 0 512 M) = some q := h
  refine lv_iconst (v := 0) hx hb dX2_timeOf_0 (by decide) ?_
  refine lv_istore_n (lv' := [(2, .int 0), (0, .ref (E.1 9)), (1, .int a1)]) hx hb dX2_timeOf_1 rfl hl (by decide) rfl (fun ls hl => ?_)
  refine lv_sipush (v := 512) hx hb dX2_timeOf_2 (by decide) ?_
  refine lv_istore_n (lv' := [(3, .int 512), (2, .int 0), (0, .ref (E.1 9)), (1, .int a1)]) hx hb dX2_timeOf_5 rfl hl (by decide) rfl (fun ls hl => ?_)
  exact w_X2_timeOf_6 C0 mk_F a1 0 512 M _ h _ _ _ hP hS (lv_sub hl [2, 3, 1, 0] rfl)
abbrev rm_X2_isReleaseTime : Room := { frames := 0, cells := 0, slots := 0, locals := 0 }
def f_X2_isReleaseTime (a0 : Int32) (a1 : Int32) (M : mk_M) : Option (Int32) := (if a1 < 1 then (some 0) else (if a1 = 0 then none else (if (a0 - a0 / a1 * a1) = 0 then (some 1) else (some 0))))
set_option maxHeartbeats 4000000 in
set_option maxRecDepth 100000 in
theorem c_X2_isReleaseTime (l : Launch) (D : va_G) (E : mk_E) (L : Nat → Int64) (a0 : Int32) (a1 : Int32) (M : mk_M) {q : Int32} (h : f_X2_isReleaseTime a0 a1 M = some q) : Met l yX2_isReleaseTime wsX2_isReleaseTime rm_X2_isReleaseTime (va_Pc [.int a0, .int a1] (mk_W D E M L)) (mk_Qi D E L q M) 0 0 (mk_A E) := by
  refine Met.ofW (cc := cX2_isReleaseTime) (maxL := 2) (ret := (some .boolean)) (by decide) rfl ?_
  intro p e s m args below meth c s₁ B hml hv
  obtain ⟨rfl, hP, hK, hD0, hN⟩ := hv
  have hx := B.exec
  have hb := B.bytes
  have hr := B.returns
  have hts := atoms_spec (ws := wsX2_isReleaseTime) B.pre
  have hown : s.vm.findClass RX2 = some m.cls := findClass_of_methodNamed B.named
  have hlk := B.notSynchronized
  have hD : ∀ (M : mk_M) (L : Nat → Int64), va_D (mk_A E) (mk_wl E M L) := fun _ _ => mk_D hD0
  have C0 : mk_C p s m [.int a0, .int a1].toArray meth c cX2_isReleaseTime 2 wsX2_isReleaseTime RX2 (some .boolean) D E := ⟨hx, hb, hml, hown, hts, hr, hlk, hK, hD, hN⟩
  have hS : va_S (mk_A E) s.heap s.heap [] := va_S.rf
  have hl := lv_entry ([.int a0, .int a1]) (n := 2) (Nat.le_of_ble_eq_true rfl)
  rw [lg_entry_eq]
  generalize (lg_sl ([.int a0, .int a1]) ++ List.replicate (2 - (lg_sl ([.int a0, .int a1])).length) Slot.unset).toArray = ls at hl ⊢
  have hl : lv_has ls 2 [(0, .int a0), (1, .int a1)] := hl
  replace h : (if a1 < 1 then (some 0) else (if a1 = 0 then none else (if (a0 - a0 / a1 * a1) = 0 then (some 1) else (some 0)))) = some q := h
  refine lv_iload_n hx hb dX2_isReleaseTime_0 rfl (lv_at hl 1 rfl) ?_
  refine lv_iconst (v := 1) hx hb dX2_isReleaseTime_1 (by decide) ?_
  refine lv_icmp_lt (tgt := 15) hx hb dX2_isReleaseTime_2 (by decide) (fun c_1 => ?_) (fun c_1 => ?_)
  · replace h := (if_pos c_1).symm.trans h
    refine lv_iconst (v := 0) hx hb dX2_isReleaseTime_15 (by decide) ?_
    replace h := Option.some.inj h
    subst q
    exact W.zret (v := 0) hx hb hr rfl (fun t ht hW => ⟨⟨_, (), rfl, rfl, by rw [← ht] at hP; exact hP⟩, hS.F ht⟩) hS.2.2 dX2_isReleaseTime_16
  · replace h := (if_neg c_1).symm.trans h
    refine lv_iload_n hx hb dX2_isReleaseTime_5 rfl (lv_at hl 0 rfl) ?_
    refine lv_iload_n hx hb dX2_isReleaseTime_6 rfl (lv_at hl 1 rfl) ?_
    obtain ⟨z_2, h⟩ := mk_ifn h
    refine lv_irem hx hb dX2_isReleaseTime_7 z_2 ?_
    refine lv_if_ne (tgt := 15) hx hb dX2_isReleaseTime_8 (by decide) (fun c_3 => ?_) (fun c_3 => ?_)
    · replace h := (if_neg c_3).symm.trans h
      refine lv_iconst (v := 0) hx hb dX2_isReleaseTime_15 (by decide) ?_
      replace h := Option.some.inj h
      subst q
      exact W.zret (v := 0) hx hb hr rfl (fun t ht hW => ⟨⟨_, (), rfl, rfl, by rw [← ht] at hP; exact hP⟩, hS.F ht⟩) hS.2.2 dX2_isReleaseTime_16
    · replace h := (if_pos c_3).symm.trans h
      refine lv_iconst (v := 1) hx hb dX2_isReleaseTime_11 (by decide) ?_
      refine lv_goto (tgt := 16) hx hb dX2_isReleaseTime_12 (by decide) ?_
      replace h := Option.some.inj h
      subst q
      exact W.zret (v := 1) hx hb hr rfl (fun t ht hW => ⟨⟨_, (), rfl, rfl, by rw [← ht] at hP; exact hP⟩, hS.F ht⟩) hS.2.2 dX2_isReleaseTime_16
abbrev rm_X2_taskOf : Room := { frames := 3, cells := 0, slots := 0, locals := 67 }
theorem in_X2_taskOf_X2 : ∀ w ∈ wsX20, w ∈ wsX2_taskOf := by decide +kernel
def f_X2_taskOf_17 : Nat → Int32 → Int32 → Int32 → mk_M → Option (Int32)
  | 0, _, _, _, _ => none
  | n + 1, l2, l3, l4, M => (if (M 9 2) ≤ l4 then (some (-1)) else (if mk_ob l4 12 then none else ((f_X2_isReleaseTime l2 (M 11 (l4).toNatClampNeg) M).bind (fun r_8 => (if r_8 = 0 then (f_X2_taskOf_17 n l2 l3 (l4 + 1) M) else (if l3 = 0 then (if mk_ob l4 12 then none else (some (M 10 (l4).toNatClampNeg))) else (f_X2_taskOf_17 n l2 (l3 + (-1)) (l4 + 1) M)))))))
set_option maxHeartbeats 4000000 in
set_option maxRecDepth 100000 in
theorem w_X2_taskOf_17 {p : Program} {l : Launch} {e : Env} {s : State} {m : MethodId} {args : Array Value} {below : List Frame} {meth : Method} {c : Code} {D : va_G} {E : mk_E} {L : Nat → Int64} (C0 : mk_C p s m args meth c cX2_taskOf 5 wsX2_taskOf RX2 (some .int) D E) : ∀ n : Nat, ∀ (l2 : Int32) (l3 : Int32) (l4 : Int32) (M : mk_M) (q : Int32), f_X2_taskOf_17 n l2 l3 l4 M = some q → ∀ (H : Heap) (locs : List Loc) (ls : Array Slot), va_P D vwCl (mk_wl E M L) H → va_S (mk_A E) s.heap H locs → lv_has ls 5 [(0, .ref (E.1 9)), (2, .int l2), (3, .int l3), (4, .int l4)] → W p l e rm_X2_taskOf s m args below meth c H locs 0 0 (MQ below (mk_Qi D E L q M) args s 0 0 (mk_A E)) (F0 m 17 ls []) := by
  obtain ⟨hx, hb, hml, hown, hts, hr, hlk, hK, hD, hN⟩ := id C0
  intro n
  induction n with
  | zero =>
    intro l2 l3 l4 M q h
    cases h
  | succ n ih =>
    intro l2 l3 l4 M q h H locs ls hP hS hl
    replace h : (if (M 9 2) ≤ l4 then (some (-1)) else (if mk_ob l4 12 then none else ((f_X2_isReleaseTime l2 (M 11 (l4).toNatClampNeg) M).bind (fun r_8 => (if r_8 = 0 then (f_X2_taskOf_17 n l2 l3 (l4 + 1) M) else (if l3 = 0 then (if mk_ob l4 12 then none else (some (M 10 (l4).toNatClampNeg))) else (f_X2_taskOf_17 n l2 (l3 + (-1)) (l4 + 1) M))))))) = some q := h
    refine lv_iload hx hb dX2_taskOf_17 (lv_at hl 3 rfl) ?_
    refine lv_aload_n hx hb dX2_taskOf_19 rfl (lv_at hl 0 rfl) ?_
    refine mk_g2_2 hx hb hts in_X2_taskOf_X2 hown hK hP (by decide) rfl (hts (.fieldLink RX2 18 "MixedKernel$Refusal" "size" "I") (by decide +kernel)) dX2_taskOf_20 ?_
    refine lv_icmp_ge (tgt := 61) hx hb dX2_taskOf_23 (by decide) (fun c_5 => ?_) (fun c_5 => ?_)
    · replace h := (if_pos c_5).symm.trans h
      refine lv_iconst (v := -1) hx hb dX2_taskOf_61 (by decide) ?_
      replace h := Option.some.inj h
      subst q
      exact W.iret (v := (-1)) hx hb hr (fun t ht hW => ⟨⟨_, (), rfl, rfl, by rw [← ht] at hP; exact hP⟩, hS.F ht⟩) hS.2.2 dX2_taskOf_62
    · replace h := (if_neg c_5).symm.trans h
      refine lv_iload_n hx hb dX2_taskOf_26 rfl (lv_at hl 1 rfl) ?_
      refine lv_aload_n hx hb dX2_taskOf_27 rfl (lv_at hl 0 rfl) ?_
      refine mk_g2_1 hx hb hts in_X2_taskOf_X2 hown hK hP (by decide) rfl (hts (.fieldLink RX2 15 "MixedKernel$Refusal" "periods" "[I") (by decide +kernel)) dX2_taskOf_28 ?_
      refine lv_iload hx hb dX2_taskOf_31 (lv_at hl 3 rfl) ?_
      obtain ⟨i_6, h⟩ := mk_ifn h
      refine mk_ia hx hb hK hP (by decide) rfl i_6 dX2_taskOf_33 ?_
      obtain ⟨r_8, e_7, h⟩ := mk_bind h
      refine va_calli (va_runS (As := [.int l2, .int (M 11 (l4).toNatClampNeg)]) (rest := []) ⟨hx, hb, hml, hown, hts⟩ (c_X2_isReleaseTime l D E L l2 (M 11 (l4).toNatClampNeg) M  e_7) (cwS 2 hts gX2_taskOf_X2_isReleaseTime rfl rfl rfl (by decide +kernel) ⟨Nat.le_of_ble_eq_true rfl, Nat.le_of_ble_eq_true rfl⟩) ⟨mk_W.blind, fun U hU hW => ⟨rfl, mk_W.at hU hW hP hK (hD _ _) hN⟩⟩ rfl rfl hl.1 rfl (lv_room (Nat.le_of_ble_eq_true rfl)) dX2_taskOf_34 ⟨Nat.zero_le _, Nat.zero_le _⟩) hS (fun q _ h => h) (fun q h => h) (fun v_12 u t H1 locs ht hvm hw hB hz1 hk1 hS => ?_)
      subst v_12
      rw [ht] at hB
      replace hP := hB
      clear hB hz1 hk1 hvm ht
      generalize H1 = H at hP hS ⊢
      refine lv_if_eq (tgt := 55) hx hb dX2_taskOf_37 (by decide) (fun c_9 => ?_) (fun c_9 => ?_)
      · replace h := (if_pos c_9).symm.trans h
        refine lv_iinc (v := l4 + 1) (lv' := [(4, .int (l4 + 1)), (0, .ref (E.1 9)), (2, .int l2), (3, .int l3)]) hx hb dX2_taskOf_55 hl (k := 3) rfl rfl (by decide) rfl (fun ls hl => ?_)
        refine lv_goto (tgt := 17) hx hb dX2_taskOf_58 (by decide) ?_
        exact ih l2 l3 (l4 + 1) M _ h _ _ _ hP hS (lv_sub hl [1, 2, 3, 0] rfl)
      · replace h := (if_neg c_9).symm.trans h
        refine lv_iload_n hx hb dX2_taskOf_40 rfl (lv_at hl 2 rfl) ?_
        refine lv_if_ne (tgt := 52) hx hb dX2_taskOf_41 (by decide) (fun c_10 => ?_) (fun c_10 => ?_)
        · replace h := (if_neg c_10).symm.trans h
          refine lv_iinc (v := l3 + (-1)) (lv' := [(3, .int (l3 + (-1))), (0, .ref (E.1 9)), (2, .int l2), (4, .int l4)]) hx hb dX2_taskOf_52 hl (k := 2) rfl rfl (by decide) rfl (fun ls hl => ?_)
          refine lv_iinc (v := l4 + 1) (lv' := [(4, .int (l4 + 1)), (3, .int (l3 + (-1))), (0, .ref (E.1 9)), (2, .int l2)]) hx hb dX2_taskOf_55 hl (k := 3) rfl rfl (by decide) rfl (fun ls hl => ?_)
          refine lv_goto (tgt := 17) hx hb dX2_taskOf_58 (by decide) ?_
          exact ih l2 (l3 + (-1)) (l4 + 1) M _ h _ _ _ hP hS (lv_sub hl [2, 3, 1, 0] rfl)
        · replace h := (if_pos c_10).symm.trans h
          refine lv_aload_n hx hb dX2_taskOf_44 rfl (lv_at hl 0 rfl) ?_
          refine mk_g2_0 hx hb hts in_X2_taskOf_X2 hown hK hP (by decide) rfl (hts (.fieldLink RX2 9 "MixedKernel$Refusal" "ids" "[I") (by decide +kernel)) dX2_taskOf_45 ?_
          refine lv_iload hx hb dX2_taskOf_48 (lv_at hl 3 rfl) ?_
          obtain ⟨i_11, h⟩ := mk_ifn h
          refine mk_ia hx hb hK hP (by decide) rfl i_11 dX2_taskOf_50 ?_
          replace h := Option.some.inj h
          subst q
          exact W.iret (v := M 10 (l4).toNatClampNeg) hx hb hr (fun t ht hW => ⟨⟨_, (), rfl, rfl, by rw [← ht] at hP; exact hP⟩, hS.F ht⟩) hS.2.2 dX2_taskOf_51
def f_X2_taskOf (a1 : Int32) (M : mk_M) : Option (Int32) := ((f_X2_timeOf a1 M).bind (fun r_2 => ((f_X2_releasesBefore r_2 M).bind (fun r_4 => (f_X2_taskOf_17 mk_F r_2 (a1 - r_4) 0 M)))))
set_option maxHeartbeats 4000000 in
set_option maxRecDepth 100000 in
theorem c_X2_taskOf (l : Launch) (D : va_G) (E : mk_E) (L : Nat → Int64) (a1 : Int32) (M : mk_M) {q : Int32} (h : f_X2_taskOf a1 M = some q) : Met l yX2_taskOf wsX2_taskOf rm_X2_taskOf (va_Pc [.ref (E.1 9), .int a1] (mk_W D E M L)) (mk_Qi D E L q M) 0 0 (mk_A E) := by
  refine Met.ofW (cc := cX2_taskOf) (maxL := 5) (ret := (some .int)) (by decide) rfl ?_
  intro p e s m args below meth c s₁ B hml hv
  obtain ⟨rfl, hP, hK, hD0, hN⟩ := hv
  have hx := B.exec
  have hb := B.bytes
  have hr := B.returns
  have hts := atoms_spec (ws := wsX2_taskOf) B.pre
  have hown : s.vm.findClass RX2 = some m.cls := findClass_of_methodNamed B.named
  have hlk := B.notSynchronized
  have hD : ∀ (M : mk_M) (L : Nat → Int64), va_D (mk_A E) (mk_wl E M L) := fun _ _ => mk_D hD0
  have C0 : mk_C p s m [.ref (E.1 9), .int a1].toArray meth c cX2_taskOf 5 wsX2_taskOf RX2 (some .int) D E := ⟨hx, hb, hml, hown, hts, hr, hlk, hK, hD, hN⟩
  have hS : va_S (mk_A E) s.heap s.heap [] := va_S.rf
  have hl := lv_entry ([.ref (E.1 9), .int a1]) (n := 5) (Nat.le_of_ble_eq_true rfl)
  rw [lg_entry_eq]
  generalize (lg_sl ([.ref (E.1 9), .int a1]) ++ List.replicate (5 - (lg_sl ([.ref (E.1 9), .int a1])).length) Slot.unset).toArray = ls at hl ⊢
  have hl : lv_has ls 5 [(0, .ref (E.1 9)), (1, .int a1)] := hl
  replace h : ((f_X2_timeOf a1 M).bind (fun r_2 => ((f_X2_releasesBefore r_2 M).bind (fun r_4 => (f_X2_taskOf_17 mk_F r_2 (a1 - r_4) 0 M))))) = some q := h
  refine lv_aload_n hx hb dX2_taskOf_0 rfl (lv_at hl 0 rfl) ?_
  refine lv_iload_n hx hb dX2_taskOf_1 rfl (lv_at hl 1 rfl) ?_
  obtain ⟨r_2, e_1, h⟩ := mk_bind h
  refine va_calli (va_runV (As := [.int a1]) (rest := []) ⟨hx, hb, hml, hown, hts⟩ (c_X2_timeOf l D E L a1 M  e_1) (cwV 1 hts gX2_taskOf_X2_timeOf rfl rfl rfl (by decide +kernel) ⟨Nat.le_of_ble_eq_true rfl, Nat.le_of_ble_eq_true rfl⟩) ⟨mk_W.blind, mk_rc2 hK hP (by decide) rfl, fun U hU hW => ⟨rfl, mk_W.at hU hW hP hK (hD _ _) hN⟩⟩ rfl rfl hl.1 rfl (lv_room (Nat.le_of_ble_eq_true rfl)) dX2_taskOf_2 ⟨Nat.zero_le _, Nat.zero_le _⟩) hS (fun q _ h => h) (fun q h => h) (fun v_14 u t H1 locs ht hvm hw hB hz1 hk1 hS => ?_)
  subst v_14
  rw [ht] at hB
  replace hP := hB
  clear hB hz1 hk1 hvm ht
  generalize H1 = H at hP hS ⊢
  refine lv_istore_n (lv' := [(2, .int r_2), (0, .ref (E.1 9)), (1, .int a1)]) hx hb dX2_taskOf_5 rfl hl (by decide) rfl (fun ls hl => ?_)
  refine lv_iload_n hx hb dX2_taskOf_6 rfl (lv_at hl 2 rfl) ?_
  refine lv_aload_n hx hb dX2_taskOf_7 rfl (lv_at hl 1 rfl) ?_
  refine lv_iload_n hx hb dX2_taskOf_8 rfl (lv_at hl 0 rfl) ?_
  obtain ⟨r_4, e_3, h⟩ := mk_bind h
  refine va_calli (va_runV (As := [.int r_2]) (rest := [.int a1]) ⟨hx, hb, hml, hown, hts⟩ (c_X2_releasesBefore l D E L r_2 M  e_3) (cwV 1 hts gX2_taskOf_X2_releasesBefore rfl rfl rfl (by decide +kernel) ⟨Nat.le_of_ble_eq_true rfl, Nat.le_of_ble_eq_true rfl⟩) ⟨mk_W.blind, mk_rc2 hK hP (by decide) rfl, fun U hU hW => ⟨rfl, mk_W.at hU hW hP hK (hD _ _) hN⟩⟩ rfl rfl hl.1 rfl (lv_room (Nat.le_of_ble_eq_true rfl)) dX2_taskOf_9 ⟨Nat.zero_le _, Nat.zero_le _⟩) hS (fun q _ h => h) (fun q h => h) (fun v_13 u t H1 locs ht hvm hw hB hz1 hk1 hS => ?_)
  subst v_13
  rw [ht] at hB
  replace hP := hB
  clear hB hz1 hk1 hvm ht
  generalize H1 = H at hP hS ⊢
  refine lv_isub hx hb dX2_taskOf_12 ?_
  refine lv_istore_n (lv' := [(3, .int (a1 - r_4)), (2, .int r_2), (0, .ref (E.1 9)), (1, .int a1)]) hx hb dX2_taskOf_13 rfl hl (by decide) rfl (fun ls hl => ?_)
  refine lv_iconst (v := 0) hx hb dX2_taskOf_14 (by decide) ?_
  refine lv_istore (lv' := [(4, .int 0), (3, .int (a1 - r_4)), (2, .int r_2), (0, .ref (E.1 9)), (1, .int a1)]) hx hb dX2_taskOf_15 hl (by decide) rfl (fun ls hl => ?_)
  exact w_X2_taskOf_17 C0 mk_F r_2 (a1 - r_4) 0 M _ h _ _ _ hP hS (lv_sub hl [3, 2, 1, 0] rfl)
