abbrev rm_X6_oneTick : Room := { frames := 6, cells := 0, slots := 0, locals := 133 }
theorem in_X6_oneTick_X6 : ∀ w ∈ wsX60, w ∈ wsX6_oneTick := by decide +kernel
def f_X6_oneTick_114 : Nat → Int32 → mk_M → Option (Int32 × mk_M)
  | 0, _, _ => none
  | n + 1, l2, M => (if (M 68 7) ≤ l2 then (some (0, M)) else (if mk_ob l2 13 then none else (if mk_ob l2 13 then none else (f_X6_oneTick_114 n (l2 + 1) (mk_st M 76 (l2).toNatClampNeg (M 75 (l2).toNatClampNeg))))))
set_option maxHeartbeats 4000000 in
set_option maxRecDepth 100000 in
theorem w_X6_oneTick_114 {p : Program} {l : Launch} {e : Env} {s : State} {m : MethodId} {args : Array Value} {below : List Frame} {meth : Method} {c : Code} {D : va_G} {E : mk_E} {L : Nat → Int64} (C0 : mk_C p s m args meth c cX6_oneTick 3 wsX6_oneTick RX6 (some .int) D E) : ∀ n : Nat, ∀ (l2 : Int32) (M : mk_M) (q : Int32 × mk_M), f_X6_oneTick_114 n l2 M = some q → ∀ (H : Heap) (locs : List Loc) (ls : Array Slot), va_P D vwCl (mk_wl E M L) H → va_S (mk_A E) s.heap H locs → lv_has ls 3 [(0, .ref (E.1 68)), (2, .int l2)] → W p l e rm_X6_oneTick s m args below meth c H locs 0 0 (MQ below (mk_Qi D E L q.1 q.2) args s 0 0 (mk_A E)) (F0 m 114 ls []) := by
  obtain ⟨hx, hb, hml, hown, hts, hr, hlk, hK, hD, hN⟩ := id C0
  intro n
  induction n with
  | zero =>
    intro l2 M q h
    cases h
  | succ n ih =>
    intro l2 M q h H locs ls hP hS hl
    replace h : (if (M 68 7) ≤ l2 then (some (0, M)) else (if mk_ob l2 13 then none else (if mk_ob l2 13 then none else (f_X6_oneTick_114 n (l2 + 1) (mk_st M 76 (l2).toNatClampNeg (M 75 (l2).toNatClampNeg)))))) = some q := h
    refine lv_iload_n hx hb dX6_oneTick_114 rfl (lv_at hl 1 rfl) ?_
    refine lv_aload_n hx hb dX6_oneTick_115 rfl (lv_at hl 0 rfl) ?_
    refine mk_g6_7 hx hb hts in_X6_oneTick_X6 hown hK hP (by decide) rfl (hts (.fieldLink RX6 91 "MixedKernelModel" "planned" "I") (by decide +kernel)) dX6_oneTick_116 ?_
    refine lv_icmp_ge (tgt := 140) hx hb dX6_oneTick_119 (by decide) (fun c_4 => ?_) (fun c_4 => ?_)
    · replace h := (if_pos c_4).symm.trans h
      refine lv_iconst (v := 0) hx hb dX6_oneTick_140 (by decide) ?_
      replace h := Option.some.inj h
      subst q
      exact W.iret (v := 0) hx hb hr (fun t ht hW => ⟨⟨_, (), rfl, rfl, by rw [← ht] at hP; exact hP⟩, hS.F ht⟩) hS.2.2 dX6_oneTick_141
    · replace h := (if_neg c_4).symm.trans h
      refine lv_aload_n hx hb dX6_oneTick_122 rfl (lv_at hl 0 rfl) ?_
      refine mk_g6_10 hx hb hts in_X6_oneTick_X6 hown hK hP (by decide) rfl (hts (.fieldLink RX6 32 "MixedKernelModel" "order" "[I") (by decide +kernel)) dX6_oneTick_123 ?_
      refine lv_iload_n hx hb dX6_oneTick_126 rfl (lv_at hl 1 rfl) ?_
      refine lv_aload_n hx hb dX6_oneTick_127 rfl (lv_at hl 0 rfl) ?_
      refine mk_g6_8 hx hb hts in_X6_oneTick_X6 hown hK hP (by decide) rfl (hts (.fieldLink RX6 29 "MixedKernelModel" "plan" "[I") (by decide +kernel)) dX6_oneTick_128 ?_
      refine lv_iload_n hx hb dX6_oneTick_131 rfl (lv_at hl 1 rfl) ?_
      obtain ⟨i_5, h⟩ := mk_ifn h
      refine mk_ia hx hb hK hP (by decide) rfl i_5 dX6_oneTick_132 ?_
      obtain ⟨i_6, h⟩ := mk_ifn h
      refine mk_is hx hb hK hP (hD _ _) hS (by decide) rfl i_6 dX6_oneTick_133 (fun H locs hP hS => ?_)
      refine lv_iinc (v := l2 + 1) (lv' := [(2, .int (l2 + 1)), (0, .ref (E.1 68))]) hx hb dX6_oneTick_134 hl (k := 1) rfl rfl (by decide) rfl (fun ls hl => ?_)
      refine lv_goto (tgt := 114) hx hb dX6_oneTick_137 (by decide) ?_
      exact ih (l2 + 1) (mk_st M 76 (l2).toNatClampNeg (M 75 (l2).toNatClampNeg)) _ h _ _ _ hP hS (lv_sub hl [1, 0] rfl)
def f_X6_oneTick_46 (l1 : Int32) (M : mk_M) : Option (Int32 × mk_M) := (if mk_ob ((M 68 21) - (M 68 21) / 256 * 256) 256 then none else (if l1 ≤ 0 then (f_X6_oneTick_114 mk_F 0 (mk_st (mk_st (mk_st (mk_st (mk_st (mk_st M 88 ((M 68 21) - (M 68 21) / 256 * 256).toNatClampNeg l1) 68 21 (((mk_st M 88 ((M 68 21) - (M 68 21) / 256 * 256).toNatClampNeg l1) 68 21) + 1)) 68 22 (((mk_st (mk_st M 88 ((M 68 21) - (M 68 21) / 256 * 256).toNatClampNeg l1) 68 21 (((mk_st M 88 ((M 68 21) - (M 68 21) / 256 * 256).toNatClampNeg l1) 68 21) + 1)) 68 22) + 1)) 68 23 ((mk_st (mk_st (mk_st M 88 ((M 68 21) - (M 68 21) / 256 * 256).toNatClampNeg l1) 68 21 (((mk_st M 88 ((M 68 21) - (M 68 21) / 256 * 256).toNatClampNeg l1) 68 21) + 1)) 68 22 (((mk_st (mk_st M 88 ((M 68 21) - (M 68 21) / 256 * 256).toNatClampNeg l1) 68 21 (((mk_st M 88 ((M 68 21) - (M 68 21) / 256 * 256).toNatClampNeg l1) 68 21) + 1)) 68 22) + 1)) 68 21)) 68 24 0) 68 9 ((mk_st (mk_st (mk_st (mk_st (mk_st M 88 ((M 68 21) - (M 68 21) / 256 * 256).toNatClampNeg l1) 68 21 (((mk_st M 88 ((M 68 21) - (M 68 21) / 256 * 256).toNatClampNeg l1) 68 21) + 1)) 68 22 (((mk_st (mk_st M 88 ((M 68 21) - (M 68 21) / 256 * 256).toNatClampNeg l1) 68 21 (((mk_st M 88 ((M 68 21) - (M 68 21) / 256 * 256).toNatClampNeg l1) 68 21) + 1)) 68 22) + 1)) 68 23 ((mk_st (mk_st (mk_st M 88 ((M 68 21) - (M 68 21) / 256 * 256).toNatClampNeg l1) 68 21 (((mk_st M 88 ((M 68 21) - (M 68 21) / 256 * 256).toNatClampNeg l1) 68 21) + 1)) 68 22 (((mk_st (mk_st M 88 ((M 68 21) - (M 68 21) / 256 * 256).toNatClampNeg l1) 68 21 (((mk_st M 88 ((M 68 21) - (M 68 21) / 256 * 256).toNatClampNeg l1) 68 21) + 1)) 68 22) + 1)) 68 21)) 68 24 0) 68 7))) else ((f_X6_charge l1 (mk_st (mk_st M 88 ((M 68 21) - (M 68 21) / 256 * 256).toNatClampNeg l1) 68 21 (((mk_st M 88 ((M 68 21) - (M 68 21) / 256 * 256).toNatClampNeg l1) 68 21) + 1))).bind (fun r_8 => (some (l1, r_8))))))
set_option maxHeartbeats 4000000 in
set_option maxRecDepth 100000 in
theorem w_X6_oneTick_46 {p : Program} {l : Launch} {e : Env} {s : State} {m : MethodId} {args : Array Value} {below : List Frame} {meth : Method} {c : Code} {D : va_G} {E : mk_E} {L : Nat → Int64} (C0 : mk_C p s m args meth c cX6_oneTick 3 wsX6_oneTick RX6 (some .int) D E) : ∀ (l1 : Int32) (M : mk_M) (q : Int32 × mk_M), f_X6_oneTick_46 l1 M = some q → ∀ (H : Heap) (locs : List Loc) (ls : Array Slot), va_P D vwCl (mk_wl E M L) H → va_S (mk_A E) s.heap H locs → lv_has ls 3 [(0, .ref (E.1 68)), (1, .int l1)] → W p l e rm_X6_oneTick s m args below meth c H locs 0 0 (MQ below (mk_Qi D E L q.1 q.2) args s 0 0 (mk_A E)) (F0 m 46 ls []) := by
  obtain ⟨hx, hb, hml, hown, hts, hr, hlk, hK, hD, hN⟩ := id C0
  intro l1 M q h H locs ls hP hS hl
  replace h : (if mk_ob ((M 68 21) - (M 68 21) / 256 * 256) 256 then none else (if l1 ≤ 0 then (f_X6_oneTick_114 mk_F 0 (mk_st (mk_st (mk_st (mk_st (mk_st (mk_st M 88 ((M 68 21) - (M 68 21) / 256 * 256).toNatClampNeg l1) 68 21 (((mk_st M 88 ((M 68 21) - (M 68 21) / 256 * 256).toNatClampNeg l1) 68 21) + 1)) 68 22 (((mk_st (mk_st M 88 ((M 68 21) - (M 68 21) / 256 * 256).toNatClampNeg l1) 68 21 (((mk_st M 88 ((M 68 21) - (M 68 21) / 256 * 256).toNatClampNeg l1) 68 21) + 1)) 68 22) + 1)) 68 23 ((mk_st (mk_st (mk_st M 88 ((M 68 21) - (M 68 21) / 256 * 256).toNatClampNeg l1) 68 21 (((mk_st M 88 ((M 68 21) - (M 68 21) / 256 * 256).toNatClampNeg l1) 68 21) + 1)) 68 22 (((mk_st (mk_st M 88 ((M 68 21) - (M 68 21) / 256 * 256).toNatClampNeg l1) 68 21 (((mk_st M 88 ((M 68 21) - (M 68 21) / 256 * 256).toNatClampNeg l1) 68 21) + 1)) 68 22) + 1)) 68 21)) 68 24 0) 68 9 ((mk_st (mk_st (mk_st (mk_st (mk_st M 88 ((M 68 21) - (M 68 21) / 256 * 256).toNatClampNeg l1) 68 21 (((mk_st M 88 ((M 68 21) - (M 68 21) / 256 * 256).toNatClampNeg l1) 68 21) + 1)) 68 22 (((mk_st (mk_st M 88 ((M 68 21) - (M 68 21) / 256 * 256).toNatClampNeg l1) 68 21 (((mk_st M 88 ((M 68 21) - (M 68 21) / 256 * 256).toNatClampNeg l1) 68 21) + 1)) 68 22) + 1)) 68 23 ((mk_st (mk_st (mk_st M 88 ((M 68 21) - (M 68 21) / 256 * 256).toNatClampNeg l1) 68 21 (((mk_st M 88 ((M 68 21) - (M 68 21) / 256 * 256).toNatClampNeg l1) 68 21) + 1)) 68 22 (((mk_st (mk_st M 88 ((M 68 21) - (M 68 21) / 256 * 256).toNatClampNeg l1) 68 21 (((mk_st M 88 ((M 68 21) - (M 68 21) / 256 * 256).toNatClampNeg l1) 68 21) + 1)) 68 22) + 1)) 68 21)) 68 24 0) 68 7))) else ((f_X6_charge l1 (mk_st (mk_st M 88 ((M 68 21) - (M 68 21) / 256 * 256).toNatClampNeg l1) 68 21 (((mk_st M 88 ((M 68 21) - (M 68 21) / 256 * 256).toNatClampNeg l1) 68 21) + 1))).bind (fun r_8 => (some (l1, r_8)))))) = some q := h
  refine lv_aload_n hx hb dX6_oneTick_46 rfl (lv_at hl 0 rfl) ?_
  refine mk_g6_28 hx hb hts in_X6_oneTick_X6 hown hK hP (by decide) rfl (hts (.fieldLink RX6 68 "MixedKernelModel" "trace" "[I") (by decide +kernel)) dX6_oneTick_47 ?_
  refine lv_aload_n hx hb dX6_oneTick_50 rfl (lv_at hl 0 rfl) ?_
  refine mk_g6_21 hx hb hts in_X6_oneTick_X6 hown hK hP (by decide) rfl (hts (.fieldLink RX6 152 "MixedKernelModel" "time" "I") (by decide +kernel)) dX6_oneTick_51 ?_
  refine lv_sipush (v := 256) hx hb dX6_oneTick_54 (by decide) ?_
  refine lv_irem hx hb dX6_oneTick_57 (by decide) ?_
  refine lv_iload_n hx hb dX6_oneTick_58 rfl (lv_at hl 1 rfl) ?_
  obtain ⟨i_2, h⟩ := mk_ifn h
  refine mk_is hx hb hK hP (hD _ _) hS (by decide) rfl i_2 dX6_oneTick_59 (fun H locs hP hS => ?_)
  refine lv_aload_n hx hb dX6_oneTick_60 rfl (lv_at hl 0 rfl) ?_
  refine lv_dup hx hb dX6_oneTick_61 rfl ?_
  refine mk_g6_21 hx hb hts in_X6_oneTick_X6 hown hK hP (by decide) rfl (hts (.fieldLink RX6 152 "MixedKernelModel" "time" "I") (by decide +kernel)) dX6_oneTick_62 ?_
  refine lv_iconst (v := 1) hx hb dX6_oneTick_65 (by decide) ?_
  refine lv_iadd hx hb dX6_oneTick_66 ?_
  refine mk_p6_21 hx hb hts in_X6_oneTick_X6 hown hK hP (by decide) rfl (hD _ _) hS (hts (.fieldLink RX6 152 "MixedKernelModel" "time" "I") (by decide +kernel)) dX6_oneTick_67 (fun H locs hP hS => ?_)
  refine lv_iload_n hx hb dX6_oneTick_70 rfl (lv_at hl 1 rfl) ?_
  refine lv_if_le (tgt := 81) hx hb dX6_oneTick_71 (by decide) (fun c_3 => ?_) (fun c_3 => ?_)
  · replace h := (if_pos c_3).symm.trans h
    refine lv_aload_n hx hb dX6_oneTick_81 rfl (lv_at hl 0 rfl) ?_
    refine lv_dup hx hb dX6_oneTick_82 rfl ?_
    refine mk_g6_22 hx hb hts in_X6_oneTick_X6 hown hK hP (by decide) rfl (hts (.fieldLink RX6 173 "MixedKernelModel" "idles" "I") (by decide +kernel)) dX6_oneTick_83 ?_
    refine lv_iconst (v := 1) hx hb dX6_oneTick_86 (by decide) ?_
    refine lv_iadd hx hb dX6_oneTick_87 ?_
    refine mk_p6_22 hx hb hts in_X6_oneTick_X6 hown hK hP (by decide) rfl (hD _ _) hS (hts (.fieldLink RX6 173 "MixedKernelModel" "idles" "I") (by decide +kernel)) dX6_oneTick_88 (fun H locs hP hS => ?_)
    refine lv_aload_n hx hb dX6_oneTick_91 rfl (lv_at hl 0 rfl) ?_
    refine lv_aload_n hx hb dX6_oneTick_92 rfl (lv_at hl 0 rfl) ?_
    refine mk_g6_21 hx hb hts in_X6_oneTick_X6 hown hK hP (by decide) rfl (hts (.fieldLink RX6 152 "MixedKernelModel" "time" "I") (by decide +kernel)) dX6_oneTick_93 ?_
    refine mk_p6_23 hx hb hts in_X6_oneTick_X6 hown hK hP (by decide) rfl (hD _ _) hS (hts (.fieldLink RX6 176 "MixedKernelModel" "latestIdle" "I") (by decide +kernel)) dX6_oneTick_96 (fun H locs hP hS => ?_)
    refine lv_aload_n hx hb dX6_oneTick_99 rfl (lv_at hl 0 rfl) ?_
    refine lv_iconst (v := 0) hx hb dX6_oneTick_100 (by decide) ?_
    refine mk_p6_24 hx hb hts in_X6_oneTick_X6 hown hK hP (by decide) rfl (hD _ _) hS (hts (.fieldLink RX6 155 "MixedKernelModel" "mode" "I") (by decide +kernel)) dX6_oneTick_101 (fun H locs hP hS => ?_)
    refine lv_aload_n hx hb dX6_oneTick_104 rfl (lv_at hl 0 rfl) ?_
    refine lv_aload_n hx hb dX6_oneTick_105 rfl (lv_at hl 0 rfl) ?_
    refine mk_g6_7 hx hb hts in_X6_oneTick_X6 hown hK hP (by decide) rfl (hts (.fieldLink RX6 91 "MixedKernelModel" "planned" "I") (by decide +kernel)) dX6_oneTick_106 ?_
    refine mk_p6_9 hx hb hts in_X6_oneTick_X6 hown hK hP (by decide) rfl (hD _ _) hS (hts (.fieldLink RX6 143 "MixedKernelModel" "inForce" "I") (by decide +kernel)) dX6_oneTick_109 (fun H locs hP hS => ?_)
    refine lv_iconst (v := 0) hx hb dX6_oneTick_112 (by decide) ?_
    refine lv_istore_n (lv' := [(2, .int 0), (0, .ref (E.1 68)), (1, .int l1)]) hx hb dX6_oneTick_113 rfl hl (by decide) rfl (fun ls hl => ?_)
    exact w_X6_oneTick_114 C0 mk_F 0 (mk_st (mk_st (mk_st (mk_st (mk_st (mk_st M 88 ((M 68 21) - (M 68 21) / 256 * 256).toNatClampNeg l1) 68 21 (((mk_st M 88 ((M 68 21) - (M 68 21) / 256 * 256).toNatClampNeg l1) 68 21) + 1)) 68 22 (((mk_st (mk_st M 88 ((M 68 21) - (M 68 21) / 256 * 256).toNatClampNeg l1) 68 21 (((mk_st M 88 ((M 68 21) - (M 68 21) / 256 * 256).toNatClampNeg l1) 68 21) + 1)) 68 22) + 1)) 68 23 ((mk_st (mk_st (mk_st M 88 ((M 68 21) - (M 68 21) / 256 * 256).toNatClampNeg l1) 68 21 (((mk_st M 88 ((M 68 21) - (M 68 21) / 256 * 256).toNatClampNeg l1) 68 21) + 1)) 68 22 (((mk_st (mk_st M 88 ((M 68 21) - (M 68 21) / 256 * 256).toNatClampNeg l1) 68 21 (((mk_st M 88 ((M 68 21) - (M 68 21) / 256 * 256).toNatClampNeg l1) 68 21) + 1)) 68 22) + 1)) 68 21)) 68 24 0) 68 9 ((mk_st (mk_st (mk_st (mk_st (mk_st M 88 ((M 68 21) - (M 68 21) / 256 * 256).toNatClampNeg l1) 68 21 (((mk_st M 88 ((M 68 21) - (M 68 21) / 256 * 256).toNatClampNeg l1) 68 21) + 1)) 68 22 (((mk_st (mk_st M 88 ((M 68 21) - (M 68 21) / 256 * 256).toNatClampNeg l1) 68 21 (((mk_st M 88 ((M 68 21) - (M 68 21) / 256 * 256).toNatClampNeg l1) 68 21) + 1)) 68 22) + 1)) 68 23 ((mk_st (mk_st (mk_st M 88 ((M 68 21) - (M 68 21) / 256 * 256).toNatClampNeg l1) 68 21 (((mk_st M 88 ((M 68 21) - (M 68 21) / 256 * 256).toNatClampNeg l1) 68 21) + 1)) 68 22 (((mk_st (mk_st M 88 ((M 68 21) - (M 68 21) / 256 * 256).toNatClampNeg l1) 68 21 (((mk_st M 88 ((M 68 21) - (M 68 21) / 256 * 256).toNatClampNeg l1) 68 21) + 1)) 68 22) + 1)) 68 21)) 68 24 0) 68 7)) _ h _ _ _ hP hS (lv_sub hl [1, 0] rfl)
  · replace h := (if_neg c_3).symm.trans h
    refine lv_aload_n hx hb dX6_oneTick_74 rfl (lv_at hl 0 rfl) ?_
    refine lv_iload_n hx hb dX6_oneTick_75 rfl (lv_at hl 1 rfl) ?_
    obtain ⟨r_8, e_7, h⟩ := mk_bind h
    refine va_callv (va_runV (As := [.int l1]) (rest := []) ⟨hx, hb, hml, hown, hts⟩ (c_X6_charge l D E L l1 (mk_st (mk_st M 88 ((M 68 21) - (M 68 21) / 256 * 256).toNatClampNeg l1) 68 21 (((mk_st M 88 ((M 68 21) - (M 68 21) / 256 * 256).toNatClampNeg l1) 68 21) + 1))  e_7) (cwV 1 hts gX6_oneTick_X6_charge rfl rfl rfl (by decide +kernel) ⟨Nat.le_of_ble_eq_true rfl, Nat.le_of_ble_eq_true rfl⟩) ⟨mk_W.blind, mk_rc6 hK hP (by decide) rfl, fun U hU hW => ⟨rfl, mk_W.at hU hW hP hK (hD _ _) hN⟩⟩ rfl rfl hl.1 rfl (lv_room (Nat.le_of_ble_eq_true rfl)) dX6_oneTick_76 ⟨Nat.zero_le _, Nat.zero_le _⟩) hS (fun q _ h => h) (fun q h => h) (fun u t H1 locs ht hvm hw hB hz1 hk1 hS => ?_)
    rw [ht] at hB
    replace hP := hB
    clear hB hz1 hk1 hvm ht
    generalize H1 = H at hP hS ⊢
    refine lv_iload_n hx hb dX6_oneTick_79 rfl (lv_at hl 1 rfl) ?_
    replace h := Option.some.inj h
    subst q
    exact W.iret (v := l1) hx hb hr (fun t ht hW => ⟨⟨_, (), rfl, rfl, by rw [← ht] at hP; exact hP⟩, hS.F ht⟩) hS.2.2 dX6_oneTick_80
def f_X6_oneTick_4 : Nat → Int32 → Int32 → mk_M → Option (Int32 × mk_M)
  | 0, _, _, _ => none
  | n + 1, l1, l2, M => (if (M 68 9) ≤ l2 then (f_X6_oneTick_46 l1 M) else (if l1 = 0 then (if mk_ob l2 13 then none else ((f_X6_pending (M 76 (l2).toNatClampNeg) M).bind (fun r_12 => (if r_12 ≤ 0 then (f_X6_oneTick_4 n 0 (l2 + 1) M) else (if mk_ob l2 13 then none else (f_X6_oneTick_4 n (M 76 (l2).toNatClampNeg) (l2 + 1) M)))))) else (f_X6_oneTick_46 l1 M)))
set_option maxHeartbeats 4000000 in
set_option maxRecDepth 100000 in
theorem w_X6_oneTick_4 {p : Program} {l : Launch} {e : Env} {s : State} {m : MethodId} {args : Array Value} {below : List Frame} {meth : Method} {c : Code} {D : va_G} {E : mk_E} {L : Nat → Int64} (C0 : mk_C p s m args meth c cX6_oneTick 3 wsX6_oneTick RX6 (some .int) D E) : ∀ n : Nat, ∀ (l1 : Int32) (l2 : Int32) (M : mk_M) (q : Int32 × mk_M), f_X6_oneTick_4 n l1 l2 M = some q → ∀ (H : Heap) (locs : List Loc) (ls : Array Slot), va_P D vwCl (mk_wl E M L) H → va_S (mk_A E) s.heap H locs → lv_has ls 3 [(0, .ref (E.1 68)), (1, .int l1), (2, .int l2)] → W p l e rm_X6_oneTick s m args below meth c H locs 0 0 (MQ below (mk_Qi D E L q.1 q.2) args s 0 0 (mk_A E)) (F0 m 4 ls []) := by
  obtain ⟨hx, hb, hml, hown, hts, hr, hlk, hK, hD, hN⟩ := id C0
  intro n
  induction n with
  | zero =>
    intro l1 l2 M q h
    cases h
  | succ n ih =>
    intro l1 l2 M q h H locs ls hP hS hl
    replace h : (if (M 68 9) ≤ l2 then (f_X6_oneTick_46 l1 M) else (if l1 = 0 then (if mk_ob l2 13 then none else ((f_X6_pending (M 76 (l2).toNatClampNeg) M).bind (fun r_12 => (if r_12 ≤ 0 then (f_X6_oneTick_4 n 0 (l2 + 1) M) else (if mk_ob l2 13 then none else (f_X6_oneTick_4 n (M 76 (l2).toNatClampNeg) (l2 + 1) M)))))) else (f_X6_oneTick_46 l1 M))) = some q := h
    refine lv_iload_n hx hb dX6_oneTick_4 rfl (lv_at hl 2 rfl) ?_
    refine lv_aload_n hx hb dX6_oneTick_5 rfl (lv_at hl 0 rfl) ?_
    refine mk_g6_9 hx hb hts in_X6_oneTick_X6 hown hK hP (by decide) rfl (hts (.fieldLink RX6 143 "MixedKernelModel" "inForce" "I") (by decide +kernel)) dX6_oneTick_6 ?_
    refine lv_icmp_ge (tgt := 46) hx hb dX6_oneTick_9 (by decide) (fun c_1 => ?_) (fun c_1 => ?_)
    · replace h := (if_pos c_1).symm.trans h
      exact w_X6_oneTick_46 C0 l1 M _ h _ _ _ hP hS (lv_sub hl [0, 1] rfl)
    · replace h := (if_neg c_1).symm.trans h
      refine lv_iload_n hx hb dX6_oneTick_12 rfl (lv_at hl 1 rfl) ?_
      refine lv_if_ne (tgt := 46) hx hb dX6_oneTick_13 (by decide) (fun c_9 => ?_) (fun c_9 => ?_)
      · replace h := (if_neg c_9).symm.trans h
        exact w_X6_oneTick_46 C0 l1 M _ h _ _ _ hP hS (lv_sub hl [0, 1] rfl)
      · replace h := (if_pos c_9).symm.trans h
        refine lv_aload_n hx hb dX6_oneTick_16 rfl (lv_at hl 0 rfl) ?_
        refine lv_aload_n hx hb dX6_oneTick_17 rfl (lv_at hl 0 rfl) ?_
        refine mk_g6_10 hx hb hts in_X6_oneTick_X6 hown hK hP (by decide) rfl (hts (.fieldLink RX6 32 "MixedKernelModel" "order" "[I") (by decide +kernel)) dX6_oneTick_18 ?_
        refine lv_iload_n hx hb dX6_oneTick_21 rfl (lv_at hl 2 rfl) ?_
        obtain ⟨i_10, h⟩ := mk_ifn h
        refine mk_ia hx hb hK hP (by decide) rfl i_10 dX6_oneTick_22 ?_
        obtain ⟨r_12, e_11, h⟩ := mk_bind h
        refine va_calli (va_runV (As := [.int (M 76 (l2).toNatClampNeg)]) (rest := []) ⟨hx, hb, hml, hown, hts⟩ (c_X6_pending l D E L (M 76 (l2).toNatClampNeg) M  e_11) (cwV 1 hts gX6_oneTick_X6_pending rfl rfl rfl (by decide +kernel) ⟨Nat.le_of_ble_eq_true rfl, Nat.le_of_ble_eq_true rfl⟩) ⟨mk_W.blind, mk_rc6 hK hP (by decide) rfl, fun U hU hW => ⟨rfl, mk_W.at hU hW hP hK (hD _ _) hN⟩⟩ rfl rfl hl.1 rfl (lv_room (Nat.le_of_ble_eq_true rfl)) dX6_oneTick_23 ⟨Nat.zero_le _, Nat.zero_le _⟩) hS (fun q _ h => h) (fun q h => h) (fun v_15 u t H1 locs ht hvm hw hB hz1 hk1 hS => ?_)
        subst v_15
        rw [ht] at hB
        replace hP := hB
        clear hB hz1 hk1 hvm ht
        generalize H1 = H at hP hS ⊢
        refine lv_if_le (tgt := 38) hx hb dX6_oneTick_26 (by decide) (fun c_13 => ?_) (fun c_13 => ?_)
        · replace h := (if_pos c_13).symm.trans h
          refine lv_iconst (v := 0) hx hb dX6_oneTick_38 (by decide) ?_
          refine lv_istore_n (lv' := [(1, .int 0), (0, .ref (E.1 68)), (2, .int l2)]) hx hb dX6_oneTick_39 rfl hl (by decide) rfl (fun ls hl => ?_)
          refine lv_iinc (v := l2 + 1) (lv' := [(2, .int (l2 + 1)), (1, .int 0), (0, .ref (E.1 68))]) hx hb dX6_oneTick_40 hl (k := 2) rfl rfl (by decide) rfl (fun ls hl => ?_)
          refine lv_goto (tgt := 4) hx hb dX6_oneTick_43 (by decide) ?_
          exact ih 0 (l2 + 1) M _ h _ _ _ hP hS (lv_sub hl [2, 1, 0] rfl)
        · replace h := (if_neg c_13).symm.trans h
          refine lv_aload_n hx hb dX6_oneTick_29 rfl (lv_at hl 0 rfl) ?_
          refine mk_g6_10 hx hb hts in_X6_oneTick_X6 hown hK hP (by decide) rfl (hts (.fieldLink RX6 32 "MixedKernelModel" "order" "[I") (by decide +kernel)) dX6_oneTick_30 ?_
          refine lv_iload_n hx hb dX6_oneTick_33 rfl (lv_at hl 2 rfl) ?_
          obtain ⟨i_14, h⟩ := mk_ifn h
          refine mk_ia hx hb hK hP (by decide) rfl i_14 dX6_oneTick_34 ?_
          refine lv_goto (tgt := 39) hx hb dX6_oneTick_35 (by decide) ?_
          refine lv_istore_n (lv' := [(1, .int (M 76 (l2).toNatClampNeg)), (0, .ref (E.1 68)), (2, .int l2)]) hx hb dX6_oneTick_39 rfl hl (by decide) rfl (fun ls hl => ?_)
          refine lv_iinc (v := l2 + 1) (lv' := [(2, .int (l2 + 1)), (1, .int (M 76 (l2).toNatClampNeg)), (0, .ref (E.1 68))]) hx hb dX6_oneTick_40 hl (k := 2) rfl rfl (by decide) rfl (fun ls hl => ?_)
          refine lv_goto (tgt := 4) hx hb dX6_oneTick_43 (by decide) ?_
          exact ih (M 76 (l2).toNatClampNeg) (l2 + 1) M _ h _ _ _ hP hS (lv_sub hl [2, 1, 0] rfl)
def f_X6_oneTick (M : mk_M) : Option (Int32 × mk_M) := (f_X6_oneTick_4 mk_F 0 0 M)
set_option maxHeartbeats 4000000 in
set_option maxRecDepth 100000 in
theorem c_X6_oneTick (l : Launch) (D : va_G) (E : mk_E) (L : Nat → Int64) (M : mk_M) {q : Int32 × mk_M} (h : f_X6_oneTick M = some q) : Met l yX6_oneTick wsX6_oneTick rm_X6_oneTick (va_Pc [.ref (E.1 68)] (mk_W D E M L)) (mk_Qi D E L q.1 q.2) 0 0 (mk_A E) := by
  refine Met.ofW (cc := cX6_oneTick) (maxL := 3) (ret := (some .int)) (by decide) rfl ?_
  intro p e s m args below meth c s₁ B hml hv
  obtain ⟨rfl, hP, hK, hD0, hN⟩ := hv
  have hx := B.exec
  have hb := B.bytes
  have hr := B.returns
  have hts := atoms_spec (ws := wsX6_oneTick) B.pre
  have hown : s.vm.findClass RX6 = some m.cls := findClass_of_methodNamed B.named
  have hlk := B.notSynchronized
  have hD : ∀ (M : mk_M) (L : Nat → Int64), va_D (mk_A E) (mk_wl E M L) := fun _ _ => mk_D hD0
  have C0 : mk_C p s m [.ref (E.1 68)].toArray meth c cX6_oneTick 3 wsX6_oneTick RX6 (some .int) D E := ⟨hx, hb, hml, hown, hts, hr, hlk, hK, hD, hN⟩
  have hS : va_S (mk_A E) s.heap s.heap [] := va_S.rf
  have hl := lv_entry ([.ref (E.1 68)]) (n := 3) (Nat.le_of_ble_eq_true rfl)
  rw [lg_entry_eq]
  generalize (lg_sl ([.ref (E.1 68)]) ++ List.replicate (3 - (lg_sl ([.ref (E.1 68)])).length) Slot.unset).toArray = ls at hl ⊢
  have hl : lv_has ls 3 [(0, .ref (E.1 68))] := hl
  replace h : (f_X6_oneTick_4 mk_F 0 0 M) = some q := h
  refine lv_iconst (v := 0) hx hb dX6_oneTick_0 (by decide) ?_
  refine lv_istore_n (lv' := [(1, .int 0), (0, .ref (E.1 68))]) hx hb dX6_oneTick_1 rfl hl (by decide) rfl (fun ls hl => ?_)
  refine lv_iconst (v := 0) hx hb dX6_oneTick_2 (by decide) ?_
  refine lv_istore_n (lv' := [(2, .int 0), (1, .int 0), (0, .ref (E.1 68))]) hx hb dX6_oneTick_3 rfl hl (by decide) rfl (fun ls hl => ?_)
  exact w_X6_oneTick_4 C0 mk_F 0 0 M _ h _ _ _ hP hS (lv_sub hl [2, 1, 0] rfl)
abbrev rm_X6_tick : Room := { frames := 7, cells := 0, slots := 0, locals := 155 }
theorem in_X6_tick_X6 : ∀ w ∈ wsX60, w ∈ wsX6_tick := by decide +kernel
def f_X6_tick (M : mk_M) : Option (Int32 × mk_M) := ((f_X6_oneTick (mk_st M 68 0 0)).bind (fun r_2 => (some (r_2.1, r_2.2))))
set_option maxHeartbeats 4000000 in
set_option maxRecDepth 100000 in
theorem c_X6_tick (l : Launch) (D : va_G) (E : mk_E) (L : Nat → Int64) (M : mk_M) {q : Int32 × mk_M} (h : f_X6_tick M = some q) : Met l yX6_tick wsX6_tick rm_X6_tick (va_Pc [.ref (E.1 68)] (mk_W D E M L)) (mk_Qi D E L q.1 q.2) 0 0 (mk_A E) := by
  refine Met.ofW (cc := cX6_tick) (maxL := 1) (ret := (some .int)) (by decide) rfl ?_
  intro p e s m args below meth c s₁ B hml hv
  obtain ⟨rfl, hP, hK, hD0, hN⟩ := hv
  have hx := B.exec
  have hb := B.bytes
  have hr := B.returns
  have hts := atoms_spec (ws := wsX6_tick) B.pre
  have hown : s.vm.findClass RX6 = some m.cls := findClass_of_methodNamed B.named
  have hlk := B.notSynchronized
  have hD : ∀ (M : mk_M) (L : Nat → Int64), va_D (mk_A E) (mk_wl E M L) := fun _ _ => mk_D hD0
  have C0 : mk_C p s m [.ref (E.1 68)].toArray meth c cX6_tick 1 wsX6_tick RX6 (some .int) D E := ⟨hx, hb, hml, hown, hts, hr, hlk, hK, hD, hN⟩
  have hS : va_S (mk_A E) s.heap s.heap [] := va_S.rf
  have hl := lv_entry ([.ref (E.1 68)]) (n := 1) (Nat.le_of_ble_eq_true rfl)
  rw [lg_entry_eq]
  generalize (lg_sl ([.ref (E.1 68)]) ++ List.replicate (1 - (lg_sl ([.ref (E.1 68)])).length) Slot.unset).toArray = ls at hl ⊢
  have hl : lv_has ls 1 [(0, .ref (E.1 68))] := hl
  replace h : ((f_X6_oneTick (mk_st M 68 0 0)).bind (fun r_2 => (some (r_2.1, r_2.2)))) = some q := h
  refine lv_aload_n hx hb dX6_tick_0 rfl (lv_at hl 0 rfl) ?_
  refine lv_iconst (v := 0) hx hb dX6_tick_1 (by decide) ?_
  refine mk_p6_0 hx hb hts in_X6_tick_X6 hown hK hP (by decide) rfl (hD _ _) hS (hts (.fieldLink RX6 83 "MixedKernelModel" "thrown" "I") (by decide +kernel)) dX6_tick_2 (fun H locs hP hS => ?_)
  refine lv_aload_n hx hb dX6_tick_5 rfl (lv_at hl 0 rfl) ?_
  obtain ⟨r_2, e_1, h⟩ := mk_bind h
  refine va_calli (va_runV (As := []) (rest := []) ⟨hx, hb, hml, hown, hts⟩ (c_X6_oneTick l D E L  (mk_st M 68 0 0)  e_1) (cwV 0 hts gX6_tick_X6_oneTick rfl rfl rfl (by decide +kernel) ⟨Nat.le_of_ble_eq_true rfl, Nat.le_of_ble_eq_true rfl⟩) ⟨mk_W.blind, mk_rc6 hK hP (by decide) rfl, fun U hU hW => ⟨rfl, mk_W.at hU hW hP hK (hD _ _) hN⟩⟩ rfl rfl hl.1 rfl (lv_room (Nat.le_of_ble_eq_true rfl)) dX6_tick_6 ⟨Nat.zero_le _, Nat.zero_le _⟩) hS (fun q _ h => h) (fun q h => h) (fun v_3 u t H1 locs ht hvm hw hB hz1 hk1 hS => ?_)
  subst v_3
  rw [ht] at hB
  replace hP := hB
  clear hB hz1 hk1 hvm ht
  generalize H1 = H at hP hS ⊢
  replace h := Option.some.inj h
  subst q
  exact W.iret (v := r_2.1) hx hb hr (fun t ht hW => ⟨⟨_, (), rfl, rfl, by rw [← ht] at hP; exact hP⟩, hS.F ht⟩) hS.2.2 dX6_tick_9
abbrev rm_X6_run : Room := { frames := 7, cells := 0, slots := 0, locals := 155 }
def f_X6_run_23 : Nat → Int32 → Int32 → Int32 → mk_M → Option (Int32 × mk_M)
  | 0, _, _, _, _ => none
  | n + 1, l1, l2, l3, M => (if l1 ≤ l3 then (some (l2, M)) else ((f_X6_oneTick M).bind (fun r_8 => (if r_8.1 = 0 then (f_X6_run_23 n l1 (l2 + 1) (l3 + 1) r_8.2) else (f_X6_run_23 n l1 l2 (l3 + 1) r_8.2)))))
set_option maxHeartbeats 4000000 in
set_option maxRecDepth 100000 in
theorem w_X6_run_23 {p : Program} {l : Launch} {e : Env} {s : State} {m : MethodId} {args : Array Value} {below : List Frame} {meth : Method} {c : Code} {D : va_G} {E : mk_E} {L : Nat → Int64} (C0 : mk_C p s m args meth c cX6_run 4 wsX6_run RX6 (some .int) D E) : ∀ n : Nat, ∀ (l1 : Int32) (l2 : Int32) (l3 : Int32) (M : mk_M) (q : Int32 × mk_M), f_X6_run_23 n l1 l2 l3 M = some q → ∀ (H : Heap) (locs : List Loc) (ls : Array Slot), va_P D vwCl (mk_wl E M L) H → va_S (mk_A E) s.heap H locs → lv_has ls 4 [(0, .ref (E.1 68)), (1, .int l1), (2, .int l2), (3, .int l3)] → W p l e rm_X6_run s m args below meth c H locs 0 0 (MQ below (mk_Qi D E L q.1 q.2) args s 0 0 (mk_A E)) (F0 m 23 ls []) := by
  obtain ⟨hx, hb, hml, hown, hts, hr, hlk, hK, hD, hN⟩ := id C0
  intro n
  induction n with
  | zero =>
    intro l1 l2 l3 M q h
    cases h
  | succ n ih =>
    intro l1 l2 l3 M q h H locs ls hP hS hl
    replace h : (if l1 ≤ l3 then (some (l2, M)) else ((f_X6_oneTick M).bind (fun r_8 => (if r_8.1 = 0 then (f_X6_run_23 n l1 (l2 + 1) (l3 + 1) r_8.2) else (f_X6_run_23 n l1 l2 (l3 + 1) r_8.2))))) = some q := h
    refine lv_iload_n hx hb dX6_run_23 rfl (lv_at hl 3 rfl) ?_
    refine lv_iload_n hx hb dX6_run_24 rfl (lv_at hl 1 rfl) ?_
    refine lv_icmp_ge (tgt := 49) hx hb dX6_run_25 (by decide) (fun c_6 => ?_) (fun c_6 => ?_)
    · replace h := (if_pos c_6).symm.trans h
      refine lv_iload_n hx hb dX6_run_49 rfl (lv_at hl 2 rfl) ?_
      replace h := Option.some.inj h
      subst q
      exact W.iret (v := l2) hx hb hr (fun t ht hW => ⟨⟨_, (), rfl, rfl, by rw [← ht] at hP; exact hP⟩, hS.F ht⟩) hS.2.2 dX6_run_50
    · replace h := (if_neg c_6).symm.trans h
      refine lv_aload_n hx hb dX6_run_28 rfl (lv_at hl 0 rfl) ?_
      obtain ⟨r_8, e_7, h⟩ := mk_bind h
      refine va_calli (va_runV (As := []) (rest := []) ⟨hx, hb, hml, hown, hts⟩ (c_X6_oneTick l D E L  M  e_7) (cwV 0 hts gX6_run_X6_oneTick rfl rfl rfl (by decide +kernel) ⟨Nat.le_of_ble_eq_true rfl, Nat.le_of_ble_eq_true rfl⟩) ⟨mk_W.blind, mk_rc6 hK hP (by decide) rfl, fun U hU hW => ⟨rfl, mk_W.at hU hW hP hK (hD _ _) hN⟩⟩ rfl rfl hl.1 rfl (lv_room (Nat.le_of_ble_eq_true rfl)) dX6_run_29 ⟨Nat.zero_le _, Nat.zero_le _⟩) hS (fun q _ h => h) (fun q h => h) (fun v_10 u t H1 locs ht hvm hw hB hz1 hk1 hS => ?_)
      subst v_10
      rw [ht] at hB
      replace hP := hB
      clear hB hz1 hk1 hvm ht
      generalize H1 = H at hP hS ⊢
      refine lv_if_ne (tgt := 41) hx hb dX6_run_32 (by decide) (fun c_9 => ?_) (fun c_9 => ?_)
      · replace h := (if_neg c_9).symm.trans h
        refine lv_iload_n hx hb dX6_run_41 rfl (lv_at hl 2 rfl) ?_
        refine lv_istore_n (lv' := [(2, .int l2), (0, .ref (E.1 68)), (1, .int l1), (3, .int l3)]) hx hb dX6_run_42 rfl hl (by decide) rfl (fun ls hl => ?_)
        refine lv_iinc (v := l3 + 1) (lv' := [(3, .int (l3 + 1)), (2, .int l2), (0, .ref (E.1 68)), (1, .int l1)]) hx hb dX6_run_43 hl (k := 3) rfl rfl (by decide) rfl (fun ls hl => ?_)
        refine lv_goto (tgt := 23) hx hb dX6_run_46 (by decide) ?_
        exact ih l1 l2 (l3 + 1) r_8.2 _ h _ _ _ hP hS (lv_sub hl [2, 3, 1, 0] rfl)
      · replace h := (if_pos c_9).symm.trans h
        refine lv_iload_n hx hb dX6_run_35 rfl (lv_at hl 2 rfl) ?_
        refine lv_iconst (v := 1) hx hb dX6_run_36 (by decide) ?_
        refine lv_iadd hx hb dX6_run_37 ?_
        refine lv_goto (tgt := 42) hx hb dX6_run_38 (by decide) ?_
        refine lv_istore_n (lv' := [(2, .int (l2 + 1)), (0, .ref (E.1 68)), (1, .int l1), (3, .int l3)]) hx hb dX6_run_42 rfl hl (by decide) rfl (fun ls hl => ?_)
        refine lv_iinc (v := l3 + 1) (lv' := [(3, .int (l3 + 1)), (2, .int (l2 + 1)), (0, .ref (E.1 68)), (1, .int l1)]) hx hb dX6_run_43 hl (k := 3) rfl rfl (by decide) rfl (fun ls hl => ?_)
        refine lv_goto (tgt := 23) hx hb dX6_run_46 (by decide) ?_
        exact ih l1 (l2 + 1) (l3 + 1) r_8.2 _ h _ _ _ hP hS (lv_sub hl [2, 3, 1, 0] rfl)
def f_X6_run (a1 : Int32) (M : mk_M) : Option (Int32 × mk_M) := ((f_X6_within a1 0 1000 M).bind (fun r_2 => ((f_X6_goes r_2 1 1 M).bind (fun r_4 => (if r_4.1 = 0 then (some (0, r_4.2)) else (f_X6_run_23 mk_F a1 0 0 r_4.2))))))
set_option maxHeartbeats 4000000 in
set_option maxRecDepth 100000 in
theorem c_X6_run (l : Launch) (D : va_G) (E : mk_E) (L : Nat → Int64) (a1 : Int32) (M : mk_M) {q : Int32 × mk_M} (h : f_X6_run a1 M = some q) : Met l yX6_run wsX6_run rm_X6_run (va_Pc [.ref (E.1 68), .int a1] (mk_W D E M L)) (mk_Qi D E L q.1 q.2) 0 0 (mk_A E) := by
  refine Met.ofW (cc := cX6_run) (maxL := 4) (ret := (some .int)) (by decide) rfl ?_
  intro p e s m args below meth c s₁ B hml hv
  obtain ⟨rfl, hP, hK, hD0, hN⟩ := hv
  have hx := B.exec
  have hb := B.bytes
  have hr := B.returns
  have hts := atoms_spec (ws := wsX6_run) B.pre
  have hown : s.vm.findClass RX6 = some m.cls := findClass_of_methodNamed B.named
  have hlk := B.notSynchronized
  have hD : ∀ (M : mk_M) (L : Nat → Int64), va_D (mk_A E) (mk_wl E M L) := fun _ _ => mk_D hD0
  have C0 : mk_C p s m [.ref (E.1 68), .int a1].toArray meth c cX6_run 4 wsX6_run RX6 (some .int) D E := ⟨hx, hb, hml, hown, hts, hr, hlk, hK, hD, hN⟩
  have hS : va_S (mk_A E) s.heap s.heap [] := va_S.rf
  have hl := lv_entry ([.ref (E.1 68), .int a1]) (n := 4) (Nat.le_of_ble_eq_true rfl)
  rw [lg_entry_eq]
  generalize (lg_sl ([.ref (E.1 68), .int a1]) ++ List.replicate (4 - (lg_sl ([.ref (E.1 68), .int a1])).length) Slot.unset).toArray = ls at hl ⊢
  have hl : lv_has ls 4 [(0, .ref (E.1 68)), (1, .int a1)] := hl
  replace h : ((f_X6_within a1 0 1000 M).bind (fun r_2 => ((f_X6_goes r_2 1 1 M).bind (fun r_4 => (if r_4.1 = 0 then (some (0, r_4.2)) else (f_X6_run_23 mk_F a1 0 0 r_4.2)))))) = some q := h
  refine lv_aload_n hx hb dX6_run_0 rfl (lv_at hl 0 rfl) ?_
  refine lv_iload_n hx hb dX6_run_1 rfl (lv_at hl 1 rfl) ?_
  refine lv_iconst (v := 0) hx hb dX6_run_2 (by decide) ?_
  refine lv_sipush (v := 1000) hx hb dX6_run_3 (by decide) ?_
  obtain ⟨r_2, e_1, h⟩ := mk_bind h
  refine va_calli (va_runS (As := [.int a1, .int 0, .int 1000]) (rest := [.ref (E.1 68)]) ⟨hx, hb, hml, hown, hts⟩ (c_X6_within l D E L a1 0 1000 M  e_1) (cwS 3 hts gX6_run_X6_within rfl rfl rfl (by decide +kernel) ⟨Nat.le_of_ble_eq_true rfl, Nat.le_of_ble_eq_true rfl⟩) ⟨mk_W.blind, fun U hU hW => ⟨rfl, mk_W.at hU hW hP hK (hD _ _) hN⟩⟩ rfl rfl hl.1 rfl (lv_room (Nat.le_of_ble_eq_true rfl)) dX6_run_6 ⟨Nat.zero_le _, Nat.zero_le _⟩) hS (fun q _ h => h) (fun q h => h) (fun v_12 u t H1 locs ht hvm hw hB hz1 hk1 hS => ?_)
  subst v_12
  rw [ht] at hB
  replace hP := hB
  clear hB hz1 hk1 hvm ht
  generalize H1 = H at hP hS ⊢
  refine lv_iconst (v := 1) hx hb dX6_run_9 (by decide) ?_
  refine lv_iconst (v := 1) hx hb dX6_run_10 (by decide) ?_
  obtain ⟨r_4, e_3, h⟩ := mk_bind h
  refine va_calli (va_runV (As := [.int r_2, .int 1, .int 1]) (rest := []) ⟨hx, hb, hml, hown, hts⟩ (c_X6_goes l D E L r_2 1 1 M  e_3) (cwV 3 hts gX6_run_X6_goes rfl rfl rfl (by decide +kernel) ⟨Nat.le_of_ble_eq_true rfl, Nat.le_of_ble_eq_true rfl⟩) ⟨mk_W.blind, mk_rc6 hK hP (by decide) rfl, fun U hU hW => ⟨rfl, mk_W.at hU hW hP hK (hD _ _) hN⟩⟩ rfl rfl hl.1 rfl (lv_room (Nat.le_of_ble_eq_true rfl)) dX6_run_11 ⟨Nat.zero_le _, Nat.zero_le _⟩) hS (fun q _ h => h) (fun q h => h) (fun v_11 u t H1 locs ht hvm hw hB hz1 hk1 hS => ?_)
  subst v_11
  rw [ht] at hB
  replace hP := hB
  clear hB hz1 hk1 hvm ht
  generalize H1 = H at hP hS ⊢
  refine lv_if_ne (tgt := 19) hx hb dX6_run_14 (by decide) (fun c_5 => ?_) (fun c_5 => ?_)
  · replace h := (if_neg c_5).symm.trans h
    refine lv_iconst (v := 0) hx hb dX6_run_19 (by decide) ?_
    refine lv_istore_n (lv' := [(2, .int 0), (0, .ref (E.1 68)), (1, .int a1)]) hx hb dX6_run_20 rfl hl (by decide) rfl (fun ls hl => ?_)
    refine lv_iconst (v := 0) hx hb dX6_run_21 (by decide) ?_
    refine lv_istore_n (lv' := [(3, .int 0), (2, .int 0), (0, .ref (E.1 68)), (1, .int a1)]) hx hb dX6_run_22 rfl hl (by decide) rfl (fun ls hl => ?_)
    exact w_X6_run_23 C0 mk_F a1 0 0 r_4.2 _ h _ _ _ hP hS (lv_sub hl [2, 3, 1, 0] rfl)
  · replace h := (if_pos c_5).symm.trans h
    refine lv_iconst (v := 0) hx hb dX6_run_17 (by decide) ?_
    replace h := Option.some.inj h
    subst q
    exact W.iret (v := 0) hx hb hr (fun t ht hW => ⟨⟨_, (), rfl, rfl, by rw [← ht] at hP; exact hP⟩, hS.F ht⟩) hS.2.2 dX6_run_18
abbrev rm_X6_passes : Room := { frames := 2, cells := 0, slots := 0, locals := 47 }
theorem in_X6_passes_X6 : ∀ w ∈ wsX60, w ∈ wsX6_passes := by decide +kernel
def f_X6_passes (a1 : Int32) (M : mk_M) : Option (Int32) := ((f_X6_lowResponse a1 M).bind (fun r_2 => (if r_2 ≤ 0 then (some 0) else (if mk_ob a1 13 then none else (if (M 74 (a1).toNatClampNeg) = 0 then (some 1) else ((f_X6_bound a1 r_2 M).bind (fun r_7 => (if r_7 ≤ 0 then (some 0) else (some 1)))))))))
set_option maxHeartbeats 4000000 in
set_option maxRecDepth 100000 in
theorem c_X6_passes (l : Launch) (D : va_G) (E : mk_E) (L : Nat → Int64) (a1 : Int32) (M : mk_M) {q : Int32} (h : f_X6_passes a1 M = some q) : Met l yX6_passes wsX6_passes rm_X6_passes (va_Pc [.ref (E.1 68), .int a1] (mk_W D E M L)) (mk_Qi D E L q M) 0 0 (mk_A E) := by
  refine Met.ofW (cc := cX6_passes) (maxL := 3) (ret := (some .boolean)) (by decide) rfl ?_
  intro p e s m args below meth c s₁ B hml hv
  obtain ⟨rfl, hP, hK, hD0, hN⟩ := hv
  have hx := B.exec
  have hb := B.bytes
  have hr := B.returns
  have hts := atoms_spec (ws := wsX6_passes) B.pre
  have hown : s.vm.findClass RX6 = some m.cls := findClass_of_methodNamed B.named
  have hlk := B.notSynchronized
  have hD : ∀ (M : mk_M) (L : Nat → Int64), va_D (mk_A E) (mk_wl E M L) := fun _ _ => mk_D hD0
  have C0 : mk_C p s m [.ref (E.1 68), .int a1].toArray meth c cX6_passes 3 wsX6_passes RX6 (some .boolean) D E := ⟨hx, hb, hml, hown, hts, hr, hlk, hK, hD, hN⟩
  have hS : va_S (mk_A E) s.heap s.heap [] := va_S.rf
  have hl := lv_entry ([.ref (E.1 68), .int a1]) (n := 3) (Nat.le_of_ble_eq_true rfl)
  rw [lg_entry_eq]
  generalize (lg_sl ([.ref (E.1 68), .int a1]) ++ List.replicate (3 - (lg_sl ([.ref (E.1 68), .int a1])).length) Slot.unset).toArray = ls at hl ⊢
  have hl : lv_has ls 3 [(0, .ref (E.1 68)), (1, .int a1)] := hl
  replace h : ((f_X6_lowResponse a1 M).bind (fun r_2 => (if r_2 ≤ 0 then (some 0) else (if mk_ob a1 13 then none else (if (M 74 (a1).toNatClampNeg) = 0 then (some 1) else ((f_X6_bound a1 r_2 M).bind (fun r_7 => (if r_7 ≤ 0 then (some 0) else (some 1))))))))) = some q := h
  refine lv_aload_n hx hb dX6_passes_0 rfl (lv_at hl 0 rfl) ?_
  refine lv_iload_n hx hb dX6_passes_1 rfl (lv_at hl 1 rfl) ?_
  obtain ⟨r_2, e_1, h⟩ := mk_bind h
  refine va_calli (va_runV (As := [.int a1]) (rest := []) ⟨hx, hb, hml, hown, hts⟩ (c_X6_lowResponse l D E L a1 M  e_1) (cwV 1 hts gX6_passes_X6_lowResponse rfl rfl rfl (by decide +kernel) ⟨Nat.le_of_ble_eq_true rfl, Nat.le_of_ble_eq_true rfl⟩) ⟨mk_W.blind, mk_rc6 hK hP (by decide) rfl, fun U hU hW => ⟨rfl, mk_W.at hU hW hP hK (hD _ _) hN⟩⟩ rfl rfl hl.1 rfl (lv_room (Nat.le_of_ble_eq_true rfl)) dX6_passes_2 ⟨Nat.zero_le _, Nat.zero_le _⟩) hS (fun q _ h => h) (fun q h => h) (fun v_10 u t H1 locs ht hvm hw hB hz1 hk1 hS => ?_)
  subst v_10
  rw [ht] at hB
  replace hP := hB
  clear hB hz1 hk1 hvm ht
  generalize H1 = H at hP hS ⊢
  refine lv_istore_n (lv' := [(2, .int r_2), (0, .ref (E.1 68)), (1, .int a1)]) hx hb dX6_passes_5 rfl hl (by decide) rfl (fun ls hl => ?_)
  refine lv_iload_n hx hb dX6_passes_6 rfl (lv_at hl 0 rfl) ?_
  refine lv_if_le (tgt := 32) hx hb dX6_passes_7 (by decide) (fun c_3 => ?_) (fun c_3 => ?_)
  · replace h := (if_pos c_3).symm.trans h
    refine lv_iconst (v := 0) hx hb dX6_passes_32 (by decide) ?_
    replace h := Option.some.inj h
    subst q
    exact W.zret (v := 0) hx hb hr rfl (fun t ht hW => ⟨⟨_, (), rfl, rfl, by rw [← ht] at hP; exact hP⟩, hS.F ht⟩) hS.2.2 dX6_passes_33
  · replace h := (if_neg c_3).symm.trans h
    refine lv_aload_n hx hb dX6_passes_10 rfl (lv_at hl 1 rfl) ?_
    refine mk_g6_6 hx hb hts in_X6_passes_X6 hown hK hP (by decide) rfl (hts (.fieldLink RX6 26 "MixedKernelModel" "highs" "[I") (by decide +kernel)) dX6_passes_11 ?_
    refine lv_iload_n hx hb dX6_passes_14 rfl (lv_at hl 2 rfl) ?_
    obtain ⟨i_4, h⟩ := mk_ifn h
    refine mk_ia hx hb hK hP (by decide) rfl i_4 dX6_passes_15 ?_
    refine lv_if_eq (tgt := 28) hx hb dX6_passes_16 (by decide) (fun c_5 => ?_) (fun c_5 => ?_)
    · replace h := (if_pos c_5).symm.trans h
      refine lv_iconst (v := 1) hx hb dX6_passes_28 (by decide) ?_
      refine lv_goto (tgt := 33) hx hb dX6_passes_29 (by decide) ?_
      replace h := Option.some.inj h
      subst q
      exact W.zret (v := 1) hx hb hr rfl (fun t ht hW => ⟨⟨_, (), rfl, rfl, by rw [← ht] at hP; exact hP⟩, hS.F ht⟩) hS.2.2 dX6_passes_33
    · replace h := (if_neg c_5).symm.trans h
      refine lv_aload_n hx hb dX6_passes_19 rfl (lv_at hl 1 rfl) ?_
      refine lv_iload_n hx hb dX6_passes_20 rfl (lv_at hl 2 rfl) ?_
      refine lv_iload_n hx hb dX6_passes_21 rfl (lv_at hl 0 rfl) ?_
      obtain ⟨r_7, e_6, h⟩ := mk_bind h
      refine va_calli (va_runV (As := [.int a1, .int r_2]) (rest := []) ⟨hx, hb, hml, hown, hts⟩ (c_X6_bound l D E L a1 r_2 M  e_6) (cwV 2 hts gX6_passes_X6_bound rfl rfl rfl (by decide +kernel) ⟨Nat.le_of_ble_eq_true rfl, Nat.le_of_ble_eq_true rfl⟩) ⟨mk_W.blind, mk_rc6 hK hP (by decide) rfl, fun U hU hW => ⟨rfl, mk_W.at hU hW hP hK (hD _ _) hN⟩⟩ rfl rfl hl.1 rfl (lv_room (Nat.le_of_ble_eq_true rfl)) dX6_passes_22 ⟨Nat.zero_le _, Nat.zero_le _⟩) hS (fun q _ h => h) (fun q h => h) (fun v_9 u t H1 locs ht hvm hw hB hz1 hk1 hS => ?_)
      subst v_9
      rw [ht] at hB
      replace hP := hB
      clear hB hz1 hk1 hvm ht
      generalize H1 = H at hP hS ⊢
      refine lv_if_le (tgt := 32) hx hb dX6_passes_25 (by decide) (fun c_8 => ?_) (fun c_8 => ?_)
      · replace h := (if_pos c_8).symm.trans h
        refine lv_iconst (v := 0) hx hb dX6_passes_32 (by decide) ?_
        replace h := Option.some.inj h
        subst q
        exact W.zret (v := 0) hx hb hr rfl (fun t ht hW => ⟨⟨_, (), rfl, rfl, by rw [← ht] at hP; exact hP⟩, hS.F ht⟩) hS.2.2 dX6_passes_33
      · replace h := (if_neg c_8).symm.trans h
        refine lv_iconst (v := 1) hx hb dX6_passes_28 (by decide) ?_
        refine lv_goto (tgt := 33) hx hb dX6_passes_29 (by decide) ?_
        replace h := Option.some.inj h
        subst q
        exact W.zret (v := 1) hx hb hr rfl (fun t ht hW => ⟨⟨_, (), rfl, rfl, by rw [← ht] at hP; exact hP⟩, hS.F ht⟩) hS.2.2 dX6_passes_33
abbrev rm_X6_assign : Room := { frames := 3, cells := 0, slots := 0, locals := 69 }
theorem in_X6_assign_X6 : ∀ w ∈ wsX60, w ∈ wsX6_assign := by decide +kernel
def f_X6_assign_126 : Nat → Int32 → mk_M → Option (Int32 × mk_M)
  | 0, _, _ => none
  | n + 1, l1, M => (if (M 68 7) ≤ l1 then (some (1, M)) else (if mk_ob l1 13 then none else (if mk_ob l1 13 then none else (f_X6_assign_126 n (l1 + 1) (mk_st M 75 (l1).toNatClampNeg (M 91 (l1).toNatClampNeg))))))
set_option maxHeartbeats 4000000 in
set_option maxRecDepth 100000 in
theorem w_X6_assign_126 {p : Program} {l : Launch} {e : Env} {s : State} {m : MethodId} {args : Array Value} {below : List Frame} {meth : Method} {c : Code} {D : va_G} {E : mk_E} {L : Nat → Int64} (C0 : mk_C p s m args meth c cX6_assign 4 wsX6_assign RX6 (some .boolean) D E) : ∀ n : Nat, ∀ (l1 : Int32) (M : mk_M) (q : Int32 × mk_M), f_X6_assign_126 n l1 M = some q → ∀ (H : Heap) (locs : List Loc) (ls : Array Slot), va_P D vwCl (mk_wl E M L) H → va_S (mk_A E) s.heap H locs → lv_has ls 4 [(0, .ref (E.1 68)), (1, .int l1)] → W p l e rm_X6_assign s m args below meth c H locs 0 0 (MQ below (mk_Qi D E L q.1 q.2) args s 0 0 (mk_A E)) (F0 m 126 ls []) := by
  obtain ⟨hx, hb, hml, hown, hts, hr, hlk, hK, hD, hN⟩ := id C0
  intro n
  induction n with
  | zero =>
    intro l1 M q h
    cases h
  | succ n ih =>
    intro l1 M q h H locs ls hP hS hl
    replace h : (if (M 68 7) ≤ l1 then (some (1, M)) else (if mk_ob l1 13 then none else (if mk_ob l1 13 then none else (f_X6_assign_126 n (l1 + 1) (mk_st M 75 (l1).toNatClampNeg (M 91 (l1).toNatClampNeg)))))) = some q := h
    refine lv_iload_n hx hb dX6_assign_126 rfl (lv_at hl 1 rfl) ?_
    refine lv_aload_n hx hb dX6_assign_127 rfl (lv_at hl 0 rfl) ?_
    refine mk_g6_7 hx hb hts in_X6_assign_X6 hown hK hP (by decide) rfl (hts (.fieldLink RX6 91 "MixedKernelModel" "planned" "I") (by decide +kernel)) dX6_assign_128 ?_
    refine lv_icmp_ge (tgt := 152) hx hb dX6_assign_131 (by decide) (fun c_3 => ?_) (fun c_3 => ?_)
    · replace h := (if_pos c_3).symm.trans h
      refine lv_iconst (v := 1) hx hb dX6_assign_152 (by decide) ?_
      replace h := Option.some.inj h
      subst q
      exact W.zret (v := 1) hx hb hr rfl (fun t ht hW => ⟨⟨_, (), rfl, rfl, by rw [← ht] at hP; exact hP⟩, hS.F ht⟩) hS.2.2 dX6_assign_153
    · replace h := (if_neg c_3).symm.trans h
      refine lv_aload_n hx hb dX6_assign_134 rfl (lv_at hl 0 rfl) ?_
      refine mk_g6_8 hx hb hts in_X6_assign_X6 hown hK hP (by decide) rfl (hts (.fieldLink RX6 29 "MixedKernelModel" "plan" "[I") (by decide +kernel)) dX6_assign_135 ?_
      refine lv_iload_n hx hb dX6_assign_138 rfl (lv_at hl 1 rfl) ?_
      refine lv_aload_n hx hb dX6_assign_139 rfl (lv_at hl 0 rfl) ?_
      refine mk_g6_33 hx hb hts in_X6_assign_X6 hown hK hP (by decide) rfl (hts (.fieldLink RX6 77 "MixedKernelModel" "trial" "[I") (by decide +kernel)) dX6_assign_140 ?_
      refine lv_iload_n hx hb dX6_assign_143 rfl (lv_at hl 1 rfl) ?_
      obtain ⟨i_4, h⟩ := mk_ifn h
      refine mk_ia hx hb hK hP (by decide) rfl i_4 dX6_assign_144 ?_
      obtain ⟨i_5, h⟩ := mk_ifn h
      refine mk_is hx hb hK hP (hD _ _) hS (by decide) rfl i_5 dX6_assign_145 (fun H locs hP hS => ?_)
      refine lv_iinc (v := l1 + 1) (lv' := [(1, .int (l1 + 1)), (0, .ref (E.1 68))]) hx hb dX6_assign_146 hl (k := 1) rfl rfl (by decide) rfl (fun ls hl => ?_)
      refine lv_goto (tgt := 126) hx hb dX6_assign_149 (by decide) ?_
      exact ih (l1 + 1) (mk_st M 75 (l1).toNatClampNeg (M 91 (l1).toNatClampNeg)) _ h _ _ _ hP hS (lv_sub hl [1, 0] rfl)
def f_X6_assign_46 (K38 : Int32 → mk_M → Option (Int32 × mk_M)) : Nat → Int32 → Int32 → Int32 → mk_M → Option (Int32 × mk_M)
  | 0, _, _, _, _ => none
  | n + 1, l1, l2, l3, M => (if (M 68 7) ≤ l3 then (if l2 = 0 then (some (0, M)) else (if mk_ob l1 13 then none else (if mk_ob l2 13 then none else (K38 (l1 + (-1)) (mk_st (mk_st M 91 (l1).toNatClampNeg l2) 92 (l2).toNatClampNeg (vp_nar .boolean 0)))))) else (if mk_ob l3 13 then none else (if mk_ob (M 75 (l3).toNatClampNeg) 13 then none else (if (M 92 (M 75 (l3).toNatClampNeg).toNatClampNeg) = 0 then (f_X6_assign_46 K38 n l1 l2 (l3 + 1) M) else (if mk_ob l3 13 then none else ((f_X6_passes (M 75 (l3).toNatClampNeg) M).bind (fun r_15 => (if r_15 = 0 then (f_X6_assign_46 K38 n l1 l2 (l3 + 1) M) else (if mk_ob l3 13 then none else (f_X6_assign_46 K38 n l1 (M 75 (l3).toNatClampNeg) (l3 + 1) M))))))))))
set_option maxHeartbeats 4000000 in
set_option maxRecDepth 100000 in
theorem w_X6_assign_46 {p : Program} {l : Launch} {e : Env} {s : State} {m : MethodId} {args : Array Value} {below : List Frame} {meth : Method} {c : Code} {D : va_G} {E : mk_E} {L : Nat → Int64} (C0 : mk_C p s m args meth c cX6_assign 4 wsX6_assign RX6 (some .boolean) D E) (K38 : Int32 → mk_M → Option (Int32 × mk_M)) (hK38 : ∀ (l1 : Int32) (M : mk_M) (q : Int32 × mk_M), K38 l1 M = some q → ∀ (H : Heap) (locs : List Loc) (ls : Array Slot), va_P D vwCl (mk_wl E M L) H → va_S (mk_A E) s.heap H locs → lv_has ls 4 [(0, .ref (E.1 68)), (1, .int l1)] → W p l e rm_X6_assign s m args below meth c H locs 0 0 (MQ below (mk_Qi D E L q.1 q.2) args s 0 0 (mk_A E)) (F0 m 38 ls [])) : ∀ n : Nat, ∀ (l1 : Int32) (l2 : Int32) (l3 : Int32) (M : mk_M) (q : Int32 × mk_M), f_X6_assign_46 K38 n l1 l2 l3 M = some q → ∀ (H : Heap) (locs : List Loc) (ls : Array Slot), va_P D vwCl (mk_wl E M L) H → va_S (mk_A E) s.heap H locs → lv_has ls 4 [(0, .ref (E.1 68)), (1, .int l1), (2, .int l2), (3, .int l3)] → W p l e rm_X6_assign s m args below meth c H locs 0 0 (MQ below (mk_Qi D E L q.1 q.2) args s 0 0 (mk_A E)) (F0 m 46 ls []) := by
  obtain ⟨hx, hb, hml, hown, hts, hr, hlk, hK, hD, hN⟩ := id C0
  intro n
  induction n with
  | zero =>
    intro l1 l2 l3 M q h
    cases h
  | succ n ih =>
    intro l1 l2 l3 M q h H locs ls hP hS hl
    replace h : (if (M 68 7) ≤ l3 then (if l2 = 0 then (some (0, M)) else (if mk_ob l1 13 then none else (if mk_ob l2 13 then none else (K38 (l1 + (-1)) (mk_st (mk_st M 91 (l1).toNatClampNeg l2) 92 (l2).toNatClampNeg (vp_nar .boolean 0)))))) else (if mk_ob l3 13 then none else (if mk_ob (M 75 (l3).toNatClampNeg) 13 then none else (if (M 92 (M 75 (l3).toNatClampNeg).toNatClampNeg) = 0 then (f_X6_assign_46 K38 n l1 l2 (l3 + 1) M) else (if mk_ob l3 13 then none else ((f_X6_passes (M 75 (l3).toNatClampNeg) M).bind (fun r_15 => (if r_15 = 0 then (f_X6_assign_46 K38 n l1 l2 (l3 + 1) M) else (if mk_ob l3 13 then none else (f_X6_assign_46 K38 n l1 (M 75 (l3).toNatClampNeg) (l3 + 1) M)))))))))) = some q := h
    refine lv_iload_n hx hb dX6_assign_46 rfl (lv_at hl 3 rfl) ?_
    refine lv_aload_n hx hb dX6_assign_47 rfl (lv_at hl 0 rfl) ?_
    refine mk_g6_7 hx hb hts in_X6_assign_X6 hown hK hP (by decide) rfl (hts (.fieldLink RX6 91 "MixedKernelModel" "planned" "I") (by decide +kernel)) dX6_assign_48 ?_
    refine lv_icmp_ge (tgt := 98) hx hb dX6_assign_51 (by decide) (fun c_6 => ?_) (fun c_6 => ?_)
    · replace h := (if_pos c_6).symm.trans h
      refine lv_iload_n hx hb dX6_assign_98 rfl (lv_at hl 2 rfl) ?_
      refine lv_if_ne (tgt := 104) hx hb dX6_assign_99 (by decide) (fun c_7 => ?_) (fun c_7 => ?_)
      · replace h := (if_neg c_7).symm.trans h
        refine lv_aload_n hx hb dX6_assign_104 rfl (lv_at hl 0 rfl) ?_
        refine mk_g6_33 hx hb hts in_X6_assign_X6 hown hK hP (by decide) rfl (hts (.fieldLink RX6 77 "MixedKernelModel" "trial" "[I") (by decide +kernel)) dX6_assign_105 ?_
        refine lv_iload_n hx hb dX6_assign_108 rfl (lv_at hl 1 rfl) ?_
        refine lv_iload_n hx hb dX6_assign_109 rfl (lv_at hl 2 rfl) ?_
        obtain ⟨i_8, h⟩ := mk_ifn h
        refine mk_is hx hb hK hP (hD _ _) hS (by decide) rfl i_8 dX6_assign_110 (fun H locs hP hS => ?_)
        refine lv_aload_n hx hb dX6_assign_111 rfl (lv_at hl 0 rfl) ?_
        refine mk_g6_34 hx hb hts in_X6_assign_X6 hown hK hP (by decide) rfl (hts (.fieldLink RX6 80 "MixedKernelModel" "placed" "[Z") (by decide +kernel)) dX6_assign_112 ?_
        refine lv_iload_n hx hb dX6_assign_115 rfl (lv_at hl 2 rfl) ?_
        refine lv_iconst (v := 0) hx hb dX6_assign_116 (by decide) ?_
        obtain ⟨i_9, h⟩ := mk_ifn h
        refine mk_zs hx hb hK hP (hD _ _) hS (by decide) rfl i_9 dX6_assign_117 (fun H locs hP hS => ?_)
        refine lv_iinc (v := l1 + (-1)) (lv' := [(1, .int (l1 + (-1))), (0, .ref (E.1 68)), (2, .int l2), (3, .int l3)]) hx hb dX6_assign_118 hl (k := 1) rfl rfl (by decide) rfl (fun ls hl => ?_)
        refine lv_goto (tgt := 38) hx hb dX6_assign_121 (by decide) ?_
        exact hK38 (l1 + (-1)) (mk_st (mk_st M 91 (l1).toNatClampNeg l2) 92 (l2).toNatClampNeg (vp_nar .boolean 0)) _ h _ _ _ hP hS (lv_sub hl [1, 0] rfl)
      · replace h := (if_pos c_7).symm.trans h
        refine lv_iconst (v := 0) hx hb dX6_assign_102 (by decide) ?_
        replace h := Option.some.inj h
        subst q
        exact W.zret (v := 0) hx hb hr rfl (fun t ht hW => ⟨⟨_, (), rfl, rfl, by rw [← ht] at hP; exact hP⟩, hS.F ht⟩) hS.2.2 dX6_assign_103
    · replace h := (if_neg c_6).symm.trans h
      refine lv_aload_n hx hb dX6_assign_54 rfl (lv_at hl 0 rfl) ?_
      refine mk_g6_34 hx hb hts in_X6_assign_X6 hown hK hP (by decide) rfl (hts (.fieldLink RX6 80 "MixedKernelModel" "placed" "[Z") (by decide +kernel)) dX6_assign_55 ?_
      refine lv_aload_n hx hb dX6_assign_58 rfl (lv_at hl 0 rfl) ?_
      refine mk_g6_8 hx hb hts in_X6_assign_X6 hown hK hP (by decide) rfl (hts (.fieldLink RX6 29 "MixedKernelModel" "plan" "[I") (by decide +kernel)) dX6_assign_59 ?_
      refine lv_iload_n hx hb dX6_assign_62 rfl (lv_at hl 3 rfl) ?_
      obtain ⟨i_10, h⟩ := mk_ifn h
      refine mk_ia hx hb hK hP (by decide) rfl i_10 dX6_assign_63 ?_
      obtain ⟨i_11, h⟩ := mk_ifn h
      refine mk_za hx hb hK hP (by decide) rfl i_11 dX6_assign_64 ?_
      refine lv_if_eq (tgt := 90) hx hb dX6_assign_65 (by decide) (fun c_12 => ?_) (fun c_12 => ?_)
      · replace h := (if_pos c_12).symm.trans h
        refine lv_iload_n hx hb dX6_assign_90 rfl (lv_at hl 2 rfl) ?_
        refine lv_istore_n (lv' := [(2, .int l2), (0, .ref (E.1 68)), (1, .int l1), (3, .int l3)]) hx hb dX6_assign_91 rfl hl (by decide) rfl (fun ls hl => ?_)
        refine lv_iinc (v := l3 + 1) (lv' := [(3, .int (l3 + 1)), (2, .int l2), (0, .ref (E.1 68)), (1, .int l1)]) hx hb dX6_assign_92 hl (k := 3) rfl rfl (by decide) rfl (fun ls hl => ?_)
        refine lv_goto (tgt := 46) hx hb dX6_assign_95 (by decide) ?_
        exact ih l1 l2 (l3 + 1) M _ h _ _ _ hP hS (lv_sub hl [2, 3, 1, 0] rfl)
      · replace h := (if_neg c_12).symm.trans h
        refine lv_aload_n hx hb dX6_assign_68 rfl (lv_at hl 0 rfl) ?_
        refine lv_aload_n hx hb dX6_assign_69 rfl (lv_at hl 0 rfl) ?_
        refine mk_g6_8 hx hb hts in_X6_assign_X6 hown hK hP (by decide) rfl (hts (.fieldLink RX6 29 "MixedKernelModel" "plan" "[I") (by decide +kernel)) dX6_assign_70 ?_
        refine lv_iload_n hx hb dX6_assign_73 rfl (lv_at hl 3 rfl) ?_
        obtain ⟨i_13, h⟩ := mk_ifn h
        refine mk_ia hx hb hK hP (by decide) rfl i_13 dX6_assign_74 ?_
        obtain ⟨r_15, e_14, h⟩ := mk_bind h
        refine va_calli (va_runV (As := [.int (M 75 (l3).toNatClampNeg)]) (rest := []) ⟨hx, hb, hml, hown, hts⟩ (c_X6_passes l D E L (M 75 (l3).toNatClampNeg) M  e_14) (cwV 1 hts gX6_assign_X6_passes rfl rfl rfl (by decide +kernel) ⟨Nat.le_of_ble_eq_true rfl, Nat.le_of_ble_eq_true rfl⟩) ⟨mk_W.blind, mk_rc6 hK hP (by decide) rfl, fun U hU hW => ⟨rfl, mk_W.at hU hW hP hK (hD _ _) hN⟩⟩ rfl rfl hl.1 rfl (lv_room (Nat.le_of_ble_eq_true rfl)) dX6_assign_75 ⟨Nat.zero_le _, Nat.zero_le _⟩) hS (fun q _ h => h) (fun q h => h) (fun v_18 u t H1 locs ht hvm hw hB hz1 hk1 hS => ?_)
        subst v_18
        rw [ht] at hB
        replace hP := hB
        clear hB hz1 hk1 hvm ht
        generalize H1 = H at hP hS ⊢
        refine lv_if_eq (tgt := 90) hx hb dX6_assign_78 (by decide) (fun c_16 => ?_) (fun c_16 => ?_)
        · replace h := (if_pos c_16).symm.trans h
          refine lv_iload_n hx hb dX6_assign_90 rfl (lv_at hl 2 rfl) ?_
          refine lv_istore_n (lv' := [(2, .int l2), (0, .ref (E.1 68)), (1, .int l1), (3, .int l3)]) hx hb dX6_assign_91 rfl hl (by decide) rfl (fun ls hl => ?_)
          refine lv_iinc (v := l3 + 1) (lv' := [(3, .int (l3 + 1)), (2, .int l2), (0, .ref (E.1 68)), (1, .int l1)]) hx hb dX6_assign_92 hl (k := 3) rfl rfl (by decide) rfl (fun ls hl => ?_)
          refine lv_goto (tgt := 46) hx hb dX6_assign_95 (by decide) ?_
          exact ih l1 l2 (l3 + 1) M _ h _ _ _ hP hS (lv_sub hl [2, 3, 1, 0] rfl)
        · replace h := (if_neg c_16).symm.trans h
          refine lv_aload_n hx hb dX6_assign_81 rfl (lv_at hl 0 rfl) ?_
          refine mk_g6_8 hx hb hts in_X6_assign_X6 hown hK hP (by decide) rfl (hts (.fieldLink RX6 29 "MixedKernelModel" "plan" "[I") (by decide +kernel)) dX6_assign_82 ?_
          refine lv_iload_n hx hb dX6_assign_85 rfl (lv_at hl 3 rfl) ?_
          obtain ⟨i_17, h⟩ := mk_ifn h
          refine mk_ia hx hb hK hP (by decide) rfl i_17 dX6_assign_86 ?_
          refine lv_goto (tgt := 91) hx hb dX6_assign_87 (by decide) ?_
          refine lv_istore_n (lv' := [(2, .int (M 75 (l3).toNatClampNeg)), (0, .ref (E.1 68)), (1, .int l1), (3, .int l3)]) hx hb dX6_assign_91 rfl hl (by decide) rfl (fun ls hl => ?_)
          refine lv_iinc (v := l3 + 1) (lv' := [(3, .int (l3 + 1)), (2, .int (M 75 (l3).toNatClampNeg)), (0, .ref (E.1 68)), (1, .int l1)]) hx hb dX6_assign_92 hl (k := 3) rfl rfl (by decide) rfl (fun ls hl => ?_)
          refine lv_goto (tgt := 46) hx hb dX6_assign_95 (by decide) ?_
          exact ih l1 (M 75 (l3).toNatClampNeg) (l3 + 1) M _ h _ _ _ hP hS (lv_sub hl [2, 3, 1, 0] rfl)
def f_X6_assign_38 : Nat → Int32 → mk_M → Option (Int32 × mk_M)
  | 0, _, _ => none
  | n + 1, l1, M => (if l1 < 0 then (f_X6_assign_126 mk_F 0 M) else (f_X6_assign_46 (f_X6_assign_38 n) mk_F l1 0 0 M))
set_option maxHeartbeats 4000000 in
set_option maxRecDepth 100000 in
theorem w_X6_assign_38 {p : Program} {l : Launch} {e : Env} {s : State} {m : MethodId} {args : Array Value} {below : List Frame} {meth : Method} {c : Code} {D : va_G} {E : mk_E} {L : Nat → Int64} (C0 : mk_C p s m args meth c cX6_assign 4 wsX6_assign RX6 (some .boolean) D E) : ∀ n : Nat, ∀ (l1 : Int32) (M : mk_M) (q : Int32 × mk_M), f_X6_assign_38 n l1 M = some q → ∀ (H : Heap) (locs : List Loc) (ls : Array Slot), va_P D vwCl (mk_wl E M L) H → va_S (mk_A E) s.heap H locs → lv_has ls 4 [(0, .ref (E.1 68)), (1, .int l1)] → W p l e rm_X6_assign s m args below meth c H locs 0 0 (MQ below (mk_Qi D E L q.1 q.2) args s 0 0 (mk_A E)) (F0 m 38 ls []) := by
  obtain ⟨hx, hb, hml, hown, hts, hr, hlk, hK, hD, hN⟩ := id C0
  intro n
  induction n with
  | zero =>
    intro l1 M q h
    cases h
  | succ n ih =>
    intro l1 M q h H locs ls hP hS hl
    replace h : (if l1 < 0 then (f_X6_assign_126 mk_F 0 M) else (f_X6_assign_46 (f_X6_assign_38 n) mk_F l1 0 0 M)) = some q := h
    refine lv_iload_n hx hb dX6_assign_38 rfl (lv_at hl 1 rfl) ?_
    refine lv_if_lt (tgt := 124) hx hb dX6_assign_39 (by decide) (fun c_2 => ?_) (fun c_2 => ?_)
    · replace h := (if_pos c_2).symm.trans h
      refine lv_iconst (v := 0) hx hb dX6_assign_124 (by decide) ?_
      refine lv_istore_n (lv' := [(1, .int 0), (0, .ref (E.1 68))]) hx hb dX6_assign_125 rfl hl (by decide) rfl (fun ls hl => ?_)
      exact w_X6_assign_126 C0 mk_F 0 M _ h _ _ _ hP hS (lv_sub hl [1, 0] rfl)
    · replace h := (if_neg c_2).symm.trans h
      refine lv_iconst (v := 0) hx hb dX6_assign_42 (by decide) ?_
      refine lv_istore_n (lv' := [(2, .int 0), (0, .ref (E.1 68)), (1, .int l1)]) hx hb dX6_assign_43 rfl hl (by decide) rfl (fun ls hl => ?_)
      refine lv_iconst (v := 0) hx hb dX6_assign_44 (by decide) ?_
      refine lv_istore_n (lv' := [(3, .int 0), (2, .int 0), (0, .ref (E.1 68)), (1, .int l1)]) hx hb dX6_assign_45 rfl hl (by decide) rfl (fun ls hl => ?_)
      exact w_X6_assign_46 C0 (f_X6_assign_38 n) ih mk_F l1 0 0 M _ h _ _ _ hP hS (lv_sub hl [2, 3, 1, 0] rfl)
def f_X6_assign_7 : Nat → Int32 → mk_M → Option (Int32 × mk_M)
  | 0, _, _ => none
  | n + 1, l1, M => (if 13 ≤ l1 then (f_X6_assign_38 mk_F ((M 68 7) - 1) M) else (if mk_ob l1 13 then none else (if mk_ob l1 13 then none else (f_X6_assign_7 n (l1 + 1) (mk_st M 92 (l1).toNatClampNeg (vp_nar .boolean (M 69 (l1).toNatClampNeg)))))))
set_option maxHeartbeats 4000000 in
set_option maxRecDepth 100000 in
theorem w_X6_assign_7 {p : Program} {l : Launch} {e : Env} {s : State} {m : MethodId} {args : Array Value} {below : List Frame} {meth : Method} {c : Code} {D : va_G} {E : mk_E} {L : Nat → Int64} (C0 : mk_C p s m args meth c cX6_assign 4 wsX6_assign RX6 (some .boolean) D E) : ∀ n : Nat, ∀ (l1 : Int32) (M : mk_M) (q : Int32 × mk_M), f_X6_assign_7 n l1 M = some q → ∀ (H : Heap) (locs : List Loc) (ls : Array Slot), va_P D vwCl (mk_wl E M L) H → va_S (mk_A E) s.heap H locs → lv_has ls 4 [(0, .ref (E.1 68)), (1, .int l1)] → W p l e rm_X6_assign s m args below meth c H locs 0 0 (MQ below (mk_Qi D E L q.1 q.2) args s 0 0 (mk_A E)) (F0 m 7 ls []) := by
  obtain ⟨hx, hb, hml, hown, hts, hr, hlk, hK, hD, hN⟩ := id C0
  intro n
  induction n with
  | zero =>
    intro l1 M q h
    cases h
  | succ n ih =>
    intro l1 M q h H locs ls hP hS hl
    replace h : (if 13 ≤ l1 then (f_X6_assign_38 mk_F ((M 68 7) - 1) M) else (if mk_ob l1 13 then none else (if mk_ob l1 13 then none else (f_X6_assign_7 n (l1 + 1) (mk_st M 92 (l1).toNatClampNeg (vp_nar .boolean (M 69 (l1).toNatClampNeg))))))) = some q := h
    refine lv_iload_n hx hb dX6_assign_7 rfl (lv_at hl 1 rfl) ?_
    refine lv_bipush (v := 13) hx hb dX6_assign_8 (by decide) ?_
    refine lv_icmp_ge (tgt := 31) hx hb dX6_assign_10 (by decide) (fun c_1 => ?_) (fun c_1 => ?_)
    · replace h := (if_pos c_1).symm.trans h
      refine lv_aload_n hx hb dX6_assign_31 rfl (lv_at hl 0 rfl) ?_
      refine mk_g6_7 hx hb hts in_X6_assign_X6 hown hK hP (by decide) rfl (hts (.fieldLink RX6 91 "MixedKernelModel" "planned" "I") (by decide +kernel)) dX6_assign_32 ?_
      refine lv_iconst (v := 1) hx hb dX6_assign_35 (by decide) ?_
      refine lv_isub hx hb dX6_assign_36 ?_
      refine lv_istore_n (lv' := [(1, .int ((M 68 7) - 1)), (0, .ref (E.1 68))]) hx hb dX6_assign_37 rfl hl (by decide) rfl (fun ls hl => ?_)
      exact w_X6_assign_38 C0 mk_F ((M 68 7) - 1) M _ h _ _ _ hP hS (lv_sub hl [1, 0] rfl)
    · replace h := (if_neg c_1).symm.trans h
      refine lv_aload_n hx hb dX6_assign_13 rfl (lv_at hl 0 rfl) ?_
      refine mk_g6_34 hx hb hts in_X6_assign_X6 hown hK hP (by decide) rfl (hts (.fieldLink RX6 80 "MixedKernelModel" "placed" "[Z") (by decide +kernel)) dX6_assign_14 ?_
      refine lv_iload_n hx hb dX6_assign_17 rfl (lv_at hl 1 rfl) ?_
      refine lv_aload_n hx hb dX6_assign_18 rfl (lv_at hl 0 rfl) ?_
      refine mk_g6_1 hx hb hts in_X6_assign_X6 hown hK hP (by decide) rfl (hts (.fieldLink RX6 7 "MixedKernelModel" "known" "[Z") (by decide +kernel)) dX6_assign_19 ?_
      refine lv_iload_n hx hb dX6_assign_22 rfl (lv_at hl 1 rfl) ?_
      obtain ⟨i_19, h⟩ := mk_ifn h
      refine mk_za hx hb hK hP (by decide) rfl i_19 dX6_assign_23 ?_
      obtain ⟨i_20, h⟩ := mk_ifn h
      refine mk_zs hx hb hK hP (hD _ _) hS (by decide) rfl i_20 dX6_assign_24 (fun H locs hP hS => ?_)
      refine lv_iinc (v := l1 + 1) (lv' := [(1, .int (l1 + 1)), (0, .ref (E.1 68))]) hx hb dX6_assign_25 hl (k := 1) rfl rfl (by decide) rfl (fun ls hl => ?_)
      refine lv_goto (tgt := 7) hx hb dX6_assign_28 (by decide) ?_
      exact ih (l1 + 1) (mk_st M 92 (l1).toNatClampNeg (vp_nar .boolean (M 69 (l1).toNatClampNeg))) _ h _ _ _ hP hS (lv_sub hl [1, 0] rfl)
def f_X6_assign (M : mk_M) : Option (Int32 × mk_M) := (f_X6_assign_7 mk_F 1 (mk_st M 68 0 0))
set_option maxHeartbeats 4000000 in
set_option maxRecDepth 100000 in
theorem c_X6_assign (l : Launch) (D : va_G) (E : mk_E) (L : Nat → Int64) (M : mk_M) {q : Int32 × mk_M} (h : f_X6_assign M = some q) : Met l yX6_assign wsX6_assign rm_X6_assign (va_Pc [.ref (E.1 68)] (mk_W D E M L)) (mk_Qi D E L q.1 q.2) 0 0 (mk_A E) := by
  refine Met.ofW (cc := cX6_assign) (maxL := 4) (ret := (some .boolean)) (by decide) rfl ?_
  intro p e s m args below meth c s₁ B hml hv
  obtain ⟨rfl, hP, hK, hD0, hN⟩ := hv
  have hx := B.exec
  have hb := B.bytes
  have hr := B.returns
  have hts := atoms_spec (ws := wsX6_assign) B.pre
  have hown : s.vm.findClass RX6 = some m.cls := findClass_of_methodNamed B.named
  have hlk := B.notSynchronized
  have hD : ∀ (M : mk_M) (L : Nat → Int64), va_D (mk_A E) (mk_wl E M L) := fun _ _ => mk_D hD0
  have C0 : mk_C p s m [.ref (E.1 68)].toArray meth c cX6_assign 4 wsX6_assign RX6 (some .boolean) D E := ⟨hx, hb, hml, hown, hts, hr, hlk, hK, hD, hN⟩
  have hS : va_S (mk_A E) s.heap s.heap [] := va_S.rf
  have hl := lv_entry ([.ref (E.1 68)]) (n := 4) (Nat.le_of_ble_eq_true rfl)
  rw [lg_entry_eq]
  generalize (lg_sl ([.ref (E.1 68)]) ++ List.replicate (4 - (lg_sl ([.ref (E.1 68)])).length) Slot.unset).toArray = ls at hl ⊢
  have hl : lv_has ls 4 [(0, .ref (E.1 68))] := hl
  replace h : (f_X6_assign_7 mk_F 1 (mk_st M 68 0 0)) = some q := h
  refine lv_aload_n hx hb dX6_assign_0 rfl (lv_at hl 0 rfl) ?_
  refine lv_iconst (v := 0) hx hb dX6_assign_1 (by decide) ?_
  refine mk_p6_0 hx hb hts in_X6_assign_X6 hown hK hP (by decide) rfl (hD _ _) hS (hts (.fieldLink RX6 83 "MixedKernelModel" "thrown" "I") (by decide +kernel)) dX6_assign_2 (fun H locs hP hS => ?_)
  refine lv_iconst (v := 1) hx hb dX6_assign_5 (by decide) ?_
  refine lv_istore_n (lv' := [(1, .int 1), (0, .ref (E.1 68))]) hx hb dX6_assign_6 rfl hl (by decide) rfl (fun ls hl => ?_)
  exact w_X6_assign_7 C0 mk_F 1 (mk_st M 68 0 0) _ h _ _ _ hP hS (lv_sub hl [1, 0] rfl)
abbrev rm_X6_planPlace : Room := { frames := 0, cells := 0, slots := 0, locals := 0 }
theorem in_X6_planPlace_X6 : ∀ w ∈ wsX60, w ∈ wsX6_planPlace := by decide +kernel
def f_X6_planPlace_2 : Nat → Int32 → Int32 → mk_M → Option (Int32)
  | 0, _, _, _ => none
  | n + 1, l1, l2, M => (if mk_ob l2 13 then none else (if (M 75 (l2).toNatClampNeg) = l1 then (some l2) else (f_X6_planPlace_2 n l1 (l2 + 1) M)))
set_option maxHeartbeats 4000000 in
set_option maxRecDepth 100000 in
theorem w_X6_planPlace_2 {p : Program} {l : Launch} {e : Env} {s : State} {m : MethodId} {args : Array Value} {below : List Frame} {meth : Method} {c : Code} {D : va_G} {E : mk_E} {L : Nat → Int64} (C0 : mk_C p s m args meth c cX6_planPlace 3 wsX6_planPlace RX6 (some .int) D E) : ∀ n : Nat, ∀ (l1 : Int32) (l2 : Int32) (M : mk_M) (q : Int32), f_X6_planPlace_2 n l1 l2 M = some q → ∀ (H : Heap) (locs : List Loc) (ls : Array Slot), va_P D vwCl (mk_wl E M L) H → va_S (mk_A E) s.heap H locs → lv_has ls 3 [(0, .ref (E.1 68)), (1, .int l1), (2, .int l2)] → W p l e rm_X6_planPlace s m args below meth c H locs 0 0 (MQ below (mk_Qi D E L q M) args s 0 0 (mk_A E)) (F0 m 2 ls []) := by
  obtain ⟨hx, hb, hml, hown, hts, hr, hlk, hK, hD, hN⟩ := id C0
  intro n
  induction n with
  | zero =>
    intro l1 l2 M q h
    cases h
  | succ n ih =>
    intro l1 l2 M q h H locs ls hP hS hl
    replace h : (if mk_ob l2 13 then none else (if (M 75 (l2).toNatClampNeg) = l1 then (some l2) else (f_X6_planPlace_2 n l1 (l2 + 1) M))) = some q := h
    refine lv_aload_n hx hb dX6_planPlace_2 rfl (lv_at hl 0 rfl) ?_
    refine mk_g6_8 hx hb hts in_X6_planPlace_X6 hown hK hP (by decide) rfl (hts (.fieldLink RX6 29 "MixedKernelModel" "plan" "[I") (by decide +kernel)) dX6_planPlace_3 ?_
    refine lv_iload_n hx hb dX6_planPlace_6 rfl (lv_at hl 2 rfl) ?_
    obtain ⟨i_1, h⟩ := mk_ifn h
    refine mk_ia hx hb hK hP (by decide) rfl i_1 dX6_planPlace_7 ?_
    refine lv_iload_n hx hb dX6_planPlace_8 rfl (lv_at hl 1 rfl) ?_
    refine lv_icmp_eq (tgt := 18) hx hb dX6_planPlace_9 (by decide) (fun c_2 => ?_) (fun c_2 => ?_)
    · replace h := (if_pos c_2).symm.trans h
      refine lv_iload_n hx hb dX6_planPlace_18 rfl (lv_at hl 2 rfl) ?_
      replace h := Option.some.inj h
      subst q
      exact W.iret (v := l2) hx hb hr (fun t ht hW => ⟨⟨_, (), rfl, rfl, by rw [← ht] at hP; exact hP⟩, hS.F ht⟩) hS.2.2 dX6_planPlace_19
    · replace h := (if_neg c_2).symm.trans h
      refine lv_iinc (v := l2 + 1) (lv' := [(2, .int (l2 + 1)), (0, .ref (E.1 68)), (1, .int l1)]) hx hb dX6_planPlace_12 hl (k := 2) rfl rfl (by decide) rfl (fun ls hl => ?_)
      refine lv_goto (tgt := 2) hx hb dX6_planPlace_15 (by decide) ?_
      exact ih l1 (l2 + 1) M _ h _ _ _ hP hS (lv_sub hl [1, 2, 0] rfl)
def f_X6_planPlace (a1 : Int32) (M : mk_M) : Option (Int32) := (f_X6_planPlace_2 mk_F a1 0 M)
set_option maxHeartbeats 4000000 in
set_option maxRecDepth 100000 in
theorem c_X6_planPlace (l : Launch) (D : va_G) (E : mk_E) (L : Nat → Int64) (a1 : Int32) (M : mk_M) {q : Int32} (h : f_X6_planPlace a1 M = some q) : Met l yX6_planPlace wsX6_planPlace rm_X6_planPlace (va_Pc [.ref (E.1 68), .int a1] (mk_W D E M L)) (mk_Qi D E L q M) 0 0 (mk_A E) := by
  refine Met.ofW (cc := cX6_planPlace) (maxL := 3) (ret := (some .int)) (by decide) rfl ?_
  intro p e s m args below meth c s₁ B hml hv
  obtain ⟨rfl, hP, hK, hD0, hN⟩ := hv
  have hx := B.exec
  have hb := B.bytes
  have hr := B.returns
  have hts := atoms_spec (ws := wsX6_planPlace) B.pre
  have hown : s.vm.findClass RX6 = some m.cls := findClass_of_methodNamed B.named
  have hlk := B.notSynchronized
  have hD : ∀ (M : mk_M) (L : Nat → Int64), va_D (mk_A E) (mk_wl E M L) := fun _ _ => mk_D hD0
  have C0 : mk_C p s m [.ref (E.1 68), .int a1].toArray meth c cX6_planPlace 3 wsX6_planPlace RX6 (some .int) D E := ⟨hx, hb, hml, hown, hts, hr, hlk, hK, hD, hN⟩
  have hS : va_S (mk_A E) s.heap s.heap [] := va_S.rf
  have hl := lv_entry ([.ref (E.1 68), .int a1]) (n := 3) (Nat.le_of_ble_eq_true rfl)
  rw [lg_entry_eq]
  generalize (lg_sl ([.ref (E.1 68), .int a1]) ++ List.replicate (3 - (lg_sl ([.ref (E.1 68), .int a1])).length) Slot.unset).toArray = ls at hl ⊢
  have hl : lv_has ls 3 [(0, .ref (E.1 68)), (1, .int a1)] := hl
  replace h : (f_X6_planPlace_2 mk_F a1 0 M) = some q := h
  refine lv_iconst (v := 0) hx hb dX6_planPlace_0 (by decide) ?_
  refine lv_istore_n (lv' := [(2, .int 0), (0, .ref (E.1 68)), (1, .int a1)]) hx hb dX6_planPlace_1 rfl hl (by decide) rfl (fun ls hl => ?_)
  exact w_X6_planPlace_2 C0 mk_F a1 0 M _ h _ _ _ hP hS (lv_sub hl [1, 2, 0] rfl)
abbrev rm_X6_response : Room := { frames := 2, cells := 0, slots := 0, locals := 47 }
theorem in_X6_response_X6 : ∀ w ∈ wsX60, w ∈ wsX6_response := by decide +kernel
def f_X6_response (a1 : Int32) (a2 : Int32) (M : mk_M) : Option (Int32 × mk_M) := ((f_X6_isKnown a1 M).bind (fun r_2 => ((f_X6_within a2 0 1 M).bind (fun r_4 => ((f_X6_goes r_2 r_4 1 M).bind (fun r_6 => (if r_6.1 = 0 then (some (0, r_6.2)) else ((f_X6_planPlace a1 r_6.2).bind (fun r_9 => ((f_X6_markAhead r_9 r_6.2).bind (fun r_11 => ((f_X6_lowResponse a1 r_11).bind (fun r_13 => (if a2 = 0 then (some (r_13, r_11)) else (if mk_ob a1 13 then none else (if (r_11 74 (a1).toNatClampNeg) = 0 then (some ((-1), r_11)) else ((f_X6_bound a1 r_13 r_11).bind (fun r_18 => (some (r_18, r_11))))))))))))))))))))
set_option maxHeartbeats 4000000 in
set_option maxRecDepth 100000 in
theorem c_X6_response (l : Launch) (D : va_G) (E : mk_E) (L : Nat → Int64) (a1 : Int32) (a2 : Int32) (M : mk_M) {q : Int32 × mk_M} (h : f_X6_response a1 a2 M = some q) : Met l yX6_response wsX6_response rm_X6_response (va_Pc [.ref (E.1 68), .int a1, .int a2] (mk_W D E M L)) (mk_Qi D E L q.1 q.2) 0 0 (mk_A E) := by
  refine Met.ofW (cc := cX6_response) (maxL := 4) (ret := (some .int)) (by decide) rfl ?_
  intro p e s m args below meth c s₁ B hml hv
  obtain ⟨rfl, hP, hK, hD0, hN⟩ := hv
  have hx := B.exec
  have hb := B.bytes
  have hr := B.returns
  have hts := atoms_spec (ws := wsX6_response) B.pre
  have hown : s.vm.findClass RX6 = some m.cls := findClass_of_methodNamed B.named
  have hlk := B.notSynchronized
  have hD : ∀ (M : mk_M) (L : Nat → Int64), va_D (mk_A E) (mk_wl E M L) := fun _ _ => mk_D hD0
  have C0 : mk_C p s m [.ref (E.1 68), .int a1, .int a2].toArray meth c cX6_response 4 wsX6_response RX6 (some .int) D E := ⟨hx, hb, hml, hown, hts, hr, hlk, hK, hD, hN⟩
  have hS : va_S (mk_A E) s.heap s.heap [] := va_S.rf
  have hl := lv_entry ([.ref (E.1 68), .int a1, .int a2]) (n := 4) (Nat.le_of_ble_eq_true rfl)
  rw [lg_entry_eq]
  generalize (lg_sl ([.ref (E.1 68), .int a1, .int a2]) ++ List.replicate (4 - (lg_sl ([.ref (E.1 68), .int a1, .int a2])).length) Slot.unset).toArray = ls at hl ⊢
  have hl : lv_has ls 4 [(0, .ref (E.1 68)), (1, .int a1), (2, .int a2)] := hl
  replace h : ((f_X6_isKnown a1 M).bind (fun r_2 => ((f_X6_within a2 0 1 M).bind (fun r_4 => ((f_X6_goes r_2 r_4 1 M).bind (fun r_6 => (if r_6.1 = 0 then (some (0, r_6.2)) else ((f_X6_planPlace a1 r_6.2).bind (fun r_9 => ((f_X6_markAhead r_9 r_6.2).bind (fun r_11 => ((f_X6_lowResponse a1 r_11).bind (fun r_13 => (if a2 = 0 then (some (r_13, r_11)) else (if mk_ob a1 13 then none else (if (r_11 74 (a1).toNatClampNeg) = 0 then (some ((-1), r_11)) else ((f_X6_bound a1 r_13 r_11).bind (fun r_18 => (some (r_18, r_11)))))))))))))))))))) = some q := h
  refine lv_aload_n hx hb dX6_response_0 rfl (lv_at hl 0 rfl) ?_
  refine lv_aload_n hx hb dX6_response_1 rfl (lv_at hl 0 rfl) ?_
  refine lv_iload_n hx hb dX6_response_2 rfl (lv_at hl 1 rfl) ?_
  obtain ⟨r_2, e_1, h⟩ := mk_bind h
  refine va_calli (va_runV (As := [.int a1]) (rest := [.ref (E.1 68)]) ⟨hx, hb, hml, hown, hts⟩ (c_X6_isKnown l D E L a1 M  e_1) (cwV 1 hts gX6_response_X6_isKnown rfl rfl rfl (by decide +kernel) ⟨Nat.le_of_ble_eq_true rfl, Nat.le_of_ble_eq_true rfl⟩) ⟨mk_W.blind, mk_rc6 hK hP (by decide) rfl, fun U hU hW => ⟨rfl, mk_W.at hU hW hP hK (hD _ _) hN⟩⟩ rfl rfl hl.1 rfl (lv_room (Nat.le_of_ble_eq_true rfl)) dX6_response_3 ⟨Nat.zero_le _, Nat.zero_le _⟩) hS (fun q _ h => h) (fun q h => h) (fun v_24 u t H1 locs ht hvm hw hB hz1 hk1 hS => ?_)
  subst v_24
  rw [ht] at hB
  replace hP := hB
  clear hB hz1 hk1 hvm ht
  generalize H1 = H at hP hS ⊢
  refine lv_iload_n hx hb dX6_response_6 rfl (lv_at hl 2 rfl) ?_
  refine lv_iconst (v := 0) hx hb dX6_response_7 (by decide) ?_
  refine lv_iconst (v := 1) hx hb dX6_response_8 (by decide) ?_
  obtain ⟨r_4, e_3, h⟩ := mk_bind h
  refine va_calli (va_runS (As := [.int a2, .int 0, .int 1]) (rest := [.int r_2, .ref (E.1 68)]) ⟨hx, hb, hml, hown, hts⟩ (c_X6_within l D E L a2 0 1 M  e_3) (cwS 3 hts gX6_response_X6_within rfl rfl rfl (by decide +kernel) ⟨Nat.le_of_ble_eq_true rfl, Nat.le_of_ble_eq_true rfl⟩) ⟨mk_W.blind, fun U hU hW => ⟨rfl, mk_W.at hU hW hP hK (hD _ _) hN⟩⟩ rfl rfl hl.1 rfl (lv_room (Nat.le_of_ble_eq_true rfl)) dX6_response_9 ⟨Nat.zero_le _, Nat.zero_le _⟩) hS (fun q _ h => h) (fun q h => h) (fun v_23 u t H1 locs ht hvm hw hB hz1 hk1 hS => ?_)
  subst v_23
  rw [ht] at hB
  replace hP := hB
  clear hB hz1 hk1 hvm ht
  generalize H1 = H at hP hS ⊢
  refine lv_iconst (v := 1) hx hb dX6_response_12 (by decide) ?_
  obtain ⟨r_6, e_5, h⟩ := mk_bind h
  refine va_calli (va_runV (As := [.int r_2, .int r_4, .int 1]) (rest := []) ⟨hx, hb, hml, hown, hts⟩ (c_X6_goes l D E L r_2 r_4 1 M  e_5) (cwV 3 hts gX6_response_X6_goes rfl rfl rfl (by decide +kernel) ⟨Nat.le_of_ble_eq_true rfl, Nat.le_of_ble_eq_true rfl⟩) ⟨mk_W.blind, mk_rc6 hK hP (by decide) rfl, fun U hU hW => ⟨rfl, mk_W.at hU hW hP hK (hD _ _) hN⟩⟩ rfl rfl hl.1 rfl (lv_room (Nat.le_of_ble_eq_true rfl)) dX6_response_13 ⟨Nat.zero_le _, Nat.zero_le _⟩) hS (fun q _ h => h) (fun q h => h) (fun v_22 u t H1 locs ht hvm hw hB hz1 hk1 hS => ?_)
  subst v_22
  rw [ht] at hB
  replace hP := hB
  clear hB hz1 hk1 hvm ht
  generalize H1 = H at hP hS ⊢
  refine lv_if_ne (tgt := 21) hx hb dX6_response_16 (by decide) (fun c_7 => ?_) (fun c_7 => ?_)
  · replace h := (if_neg c_7).symm.trans h
    refine lv_aload_n hx hb dX6_response_21 rfl (lv_at hl 0 rfl) ?_
    refine lv_aload_n hx hb dX6_response_22 rfl (lv_at hl 0 rfl) ?_
    refine lv_iload_n hx hb dX6_response_23 rfl (lv_at hl 1 rfl) ?_
    obtain ⟨r_9, e_8, h⟩ := mk_bind h
    refine va_calli (va_runV (As := [.int a1]) (rest := [.ref (E.1 68)]) ⟨hx, hb, hml, hown, hts⟩ (c_X6_planPlace l D E L a1 r_6.2  e_8) (cwV 1 hts gX6_response_X6_planPlace rfl rfl rfl (by decide +kernel) ⟨Nat.le_of_ble_eq_true rfl, Nat.le_of_ble_eq_true rfl⟩) ⟨mk_W.blind, mk_rc6 hK hP (by decide) rfl, fun U hU hW => ⟨rfl, mk_W.at hU hW hP hK (hD _ _) hN⟩⟩ rfl rfl hl.1 rfl (lv_room (Nat.le_of_ble_eq_true rfl)) dX6_response_24 ⟨Nat.zero_le _, Nat.zero_le _⟩) hS (fun q _ h => h) (fun q h => h) (fun v_21 u t H1 locs ht hvm hw hB hz1 hk1 hS => ?_)
    subst v_21
    rw [ht] at hB
    replace hP := hB
    clear hB hz1 hk1 hvm ht
    generalize H1 = H at hP hS ⊢
    obtain ⟨r_11, e_10, h⟩ := mk_bind h
    refine va_callv (va_runV (As := [.int r_9]) (rest := []) ⟨hx, hb, hml, hown, hts⟩ (c_X6_markAhead l D E L r_9 r_6.2  e_10) (cwV 1 hts gX6_response_X6_markAhead rfl rfl rfl (by decide +kernel) ⟨Nat.le_of_ble_eq_true rfl, Nat.le_of_ble_eq_true rfl⟩) ⟨mk_W.blind, mk_rc6 hK hP (by decide) rfl, fun U hU hW => ⟨rfl, mk_W.at hU hW hP hK (hD _ _) hN⟩⟩ rfl rfl hl.1 rfl (lv_room (Nat.le_of_ble_eq_true rfl)) dX6_response_27 ⟨Nat.zero_le _, Nat.zero_le _⟩) hS (fun q _ h => h) (fun q h => h) (fun u t H1 locs ht hvm hw hB hz1 hk1 hS => ?_)
    rw [ht] at hB
    replace hP := hB
    clear hB hz1 hk1 hvm ht
    generalize H1 = H at hP hS ⊢
    refine lv_aload_n hx hb dX6_response_30 rfl (lv_at hl 0 rfl) ?_
    refine lv_iload_n hx hb dX6_response_31 rfl (lv_at hl 1 rfl) ?_
    obtain ⟨r_13, e_12, h⟩ := mk_bind h
    refine va_calli (va_runV (As := [.int a1]) (rest := []) ⟨hx, hb, hml, hown, hts⟩ (c_X6_lowResponse l D E L a1 r_11  e_12) (cwV 1 hts gX6_response_X6_lowResponse rfl rfl rfl (by decide +kernel) ⟨Nat.le_of_ble_eq_true rfl, Nat.le_of_ble_eq_true rfl⟩) ⟨mk_W.blind, mk_rc6 hK hP (by decide) rfl, fun U hU hW => ⟨rfl, mk_W.at hU hW hP hK (hD _ _) hN⟩⟩ rfl rfl hl.1 rfl (lv_room (Nat.le_of_ble_eq_true rfl)) dX6_response_32 ⟨Nat.zero_le _, Nat.zero_le _⟩) hS (fun q _ h => h) (fun q h => h) (fun v_20 u t H1 locs ht hvm hw hB hz1 hk1 hS => ?_)
    subst v_20
    rw [ht] at hB
    replace hP := hB
    clear hB hz1 hk1 hvm ht
    generalize H1 = H at hP hS ⊢
    refine lv_istore_n (lv' := [(3, .int r_13), (0, .ref (E.1 68)), (1, .int a1), (2, .int a2)]) hx hb dX6_response_35 rfl hl (by decide) rfl (fun ls hl => ?_)
    refine lv_iload_n hx hb dX6_response_36 rfl (lv_at hl 3 rfl) ?_
    refine lv_if_ne (tgt := 44) hx hb dX6_response_37 (by decide) (fun c_14 => ?_) (fun c_14 => ?_)
    · replace h := (if_neg c_14).symm.trans h
      refine lv_aload_n hx hb dX6_response_44 rfl (lv_at hl 1 rfl) ?_
      refine mk_g6_6 hx hb hts in_X6_response_X6 hown hK hP (by decide) rfl (hts (.fieldLink RX6 26 "MixedKernelModel" "highs" "[I") (by decide +kernel)) dX6_response_45 ?_
      refine lv_iload_n hx hb dX6_response_48 rfl (lv_at hl 2 rfl) ?_
      obtain ⟨i_15, h⟩ := mk_ifn h
      refine mk_ia hx hb hK hP (by decide) rfl i_15 dX6_response_49 ?_
      refine lv_if_ne (tgt := 57) hx hb dX6_response_50 (by decide) (fun c_16 => ?_) (fun c_16 => ?_)
      · replace h := (if_neg c_16).symm.trans h
        refine lv_aload_n hx hb dX6_response_57 rfl (lv_at hl 1 rfl) ?_
        refine lv_iload_n hx hb dX6_response_58 rfl (lv_at hl 2 rfl) ?_
        refine lv_iload_n hx hb dX6_response_59 rfl (lv_at hl 0 rfl) ?_
        obtain ⟨r_18, e_17, h⟩ := mk_bind h
        refine va_calli (va_runV (As := [.int a1, .int r_13]) (rest := []) ⟨hx, hb, hml, hown, hts⟩ (c_X6_bound l D E L a1 r_13 r_11  e_17) (cwV 2 hts gX6_response_X6_bound rfl rfl rfl (by decide +kernel) ⟨Nat.le_of_ble_eq_true rfl, Nat.le_of_ble_eq_true rfl⟩) ⟨mk_W.blind, mk_rc6 hK hP (by decide) rfl, fun U hU hW => ⟨rfl, mk_W.at hU hW hP hK (hD _ _) hN⟩⟩ rfl rfl hl.1 rfl (lv_room (Nat.le_of_ble_eq_true rfl)) dX6_response_60 ⟨Nat.zero_le _, Nat.zero_le _⟩) hS (fun q _ h => h) (fun q h => h) (fun v_19 u t H1 locs ht hvm hw hB hz1 hk1 hS => ?_)
        subst v_19
        rw [ht] at hB
        replace hP := hB
        clear hB hz1 hk1 hvm ht
        generalize H1 = H at hP hS ⊢
        replace h := Option.some.inj h
        subst q
        exact W.iret (v := r_18) hx hb hr (fun t ht hW => ⟨⟨_, (), rfl, rfl, by rw [← ht] at hP; exact hP⟩, hS.F ht⟩) hS.2.2 dX6_response_63
      · replace h := (if_pos c_16).symm.trans h
        refine lv_iconst (v := -1) hx hb dX6_response_53 (by decide) ?_
        refine lv_goto (tgt := 63) hx hb dX6_response_54 (by decide) ?_
        replace h := Option.some.inj h
        subst q
        exact W.iret (v := (-1)) hx hb hr (fun t ht hW => ⟨⟨_, (), rfl, rfl, by rw [← ht] at hP; exact hP⟩, hS.F ht⟩) hS.2.2 dX6_response_63
    · replace h := (if_pos c_14).symm.trans h
      refine lv_iload_n hx hb dX6_response_40 rfl (lv_at hl 0 rfl) ?_
      refine lv_goto (tgt := 63) hx hb dX6_response_41 (by decide) ?_
      replace h := Option.some.inj h
      subst q
      exact W.iret (v := r_13) hx hb hr (fun t ht hW => ⟨⟨_, (), rfl, rfl, by rw [← ht] at hP; exact hP⟩, hS.F ht⟩) hS.2.2 dX6_response_63
  · replace h := (if_pos c_7).symm.trans h
    refine lv_iconst (v := 0) hx hb dX6_response_19 (by decide) ?_
    replace h := Option.some.inj h
    subst q
    exact W.iret (v := 0) hx hb hr (fun t ht hW => ⟨⟨_, (), rfl, rfl, by rw [← ht] at hP; exact hP⟩, hS.F ht⟩) hS.2.2 dX6_response_20
abbrev rm_X6_ended : Room := { frames := 1, cells := 0, slots := 0, locals := 23 }
theorem in_X6_ended_X6 : ∀ w ∈ wsX60, w ∈ wsX6_ended := by decide +kernel
def f_X6_ended_41 (l1 : Int32) (l2 : Int32) (s0 : Int32) (M : mk_M) : Option (Int32 × mk_M) := ((f_X6_goes s0 1 1 M).bind (fun r_5 => (if r_5.1 = 0 then (some (0, r_5.2)) else ((f_X6_at l1 l2 r_5.2).bind (fun r_8 => (if mk_ob r_8 104 then none else (some (r_5.2 86 (r_8).toNatClampNeg, r_5.2))))))))
set_option maxHeartbeats 4000000 in
set_option maxRecDepth 100000 in
theorem w_X6_ended_41 {p : Program} {l : Launch} {e : Env} {s : State} {m : MethodId} {args : Array Value} {below : List Frame} {meth : Method} {c : Code} {D : va_G} {E : mk_E} {L : Nat → Int64} (C0 : mk_C p s m args meth c cX6_ended 4 wsX6_ended RX6 (some .int) D E) : ∀ (l1 : Int32) (l2 : Int32) (s0 : Int32) (M : mk_M) (q : Int32 × mk_M), f_X6_ended_41 l1 l2 s0 M = some q → ∀ (H : Heap) (locs : List Loc) (ls : Array Slot), va_P D vwCl (mk_wl E M L) H → va_S (mk_A E) s.heap H locs → lv_has ls 4 [(0, .ref (E.1 68)), (1, .int l1), (2, .int l2)] → W p l e rm_X6_ended s m args below meth c H locs 0 0 (MQ below (mk_Qi D E L q.1 q.2) args s 0 0 (mk_A E)) (F0 m 41 ls [.int s0]) := by
  obtain ⟨hx, hb, hml, hown, hts, hr, hlk, hK, hD, hN⟩ := id C0
  intro l1 l2 s0 M q h H locs ls hP hS hl
  replace h : ((f_X6_goes s0 1 1 M).bind (fun r_5 => (if r_5.1 = 0 then (some (0, r_5.2)) else ((f_X6_at l1 l2 r_5.2).bind (fun r_8 => (if mk_ob r_8 104 then none else (some (r_5.2 86 (r_8).toNatClampNeg, r_5.2)))))))) = some q := h
  refine lv_istore_n (lv' := [(3, .int s0), (0, .ref (E.1 68)), (1, .int l1), (2, .int l2)]) hx hb dX6_ended_41 rfl hl (by decide) rfl (fun ls hl => ?_)
  refine lv_aload_n hx hb dX6_ended_42 rfl (lv_at hl 1 rfl) ?_
  refine lv_iload_n hx hb dX6_ended_43 rfl (lv_at hl 0 rfl) ?_
  refine lv_iconst (v := 1) hx hb dX6_ended_44 (by decide) ?_
  refine lv_iconst (v := 1) hx hb dX6_ended_45 (by decide) ?_
  obtain ⟨r_5, e_4, h⟩ := mk_bind h
  refine va_calli (va_runV (As := [.int s0, .int 1, .int 1]) (rest := []) ⟨hx, hb, hml, hown, hts⟩ (c_X6_goes l D E L s0 1 1 M  e_4) (cwV 3 hts gX6_ended_X6_goes rfl rfl rfl (by decide +kernel) ⟨Nat.le_of_ble_eq_true rfl, Nat.le_of_ble_eq_true rfl⟩) ⟨mk_W.blind, mk_rc6 hK hP (by decide) rfl, fun U hU hW => ⟨rfl, mk_W.at hU hW hP hK (hD _ _) hN⟩⟩ rfl rfl hl.1 rfl (lv_room (Nat.le_of_ble_eq_true rfl)) dX6_ended_46 ⟨Nat.zero_le _, Nat.zero_le _⟩) hS (fun q _ h => h) (fun q h => h) (fun v_11 u t H1 locs ht hvm hw hB hz1 hk1 hS => ?_)
  subst v_11
  rw [ht] at hB
  replace hP := hB
  clear hB hz1 hk1 hvm ht
  generalize H1 = H at hP hS ⊢
  refine lv_if_eq (tgt := 65) hx hb dX6_ended_49 (by decide) (fun c_6 => ?_) (fun c_6 => ?_)
  · replace h := (if_pos c_6).symm.trans h
    refine lv_iconst (v := 0) hx hb dX6_ended_65 (by decide) ?_
    replace h := Option.some.inj h
    subst q
    exact W.iret (v := 0) hx hb hr (fun t ht hW => ⟨⟨_, (), rfl, rfl, by rw [← ht] at hP; exact hP⟩, hS.F ht⟩) hS.2.2 dX6_ended_66
  · replace h := (if_neg c_6).symm.trans h
    refine lv_aload_n hx hb dX6_ended_52 rfl (lv_at hl 1 rfl) ?_
    refine mk_g6_20 hx hb hts in_X6_ended_X6 hown hK hP (by decide) rfl (hts (.fieldLink RX6 62 "MixedKernelModel" "ends" "[I") (by decide +kernel)) dX6_ended_53 ?_
    refine lv_iload_n hx hb dX6_ended_56 rfl (lv_at hl 2 rfl) ?_
    refine lv_iload_n hx hb dX6_ended_57 rfl (lv_at hl 3 rfl) ?_
    obtain ⟨r_8, e_7, h⟩ := mk_bind h
    refine va_calli (va_runS (As := [.int l1, .int l2]) (rest := [.ref (E.1 86)]) ⟨hx, hb, hml, hown, hts⟩ (c_X6_at l D E L l1 l2 r_5.2  e_7) (cwS 2 hts gX6_ended_X6_at rfl rfl rfl (by decide +kernel) ⟨Nat.le_of_ble_eq_true rfl, Nat.le_of_ble_eq_true rfl⟩) ⟨mk_W.blind, fun U hU hW => ⟨rfl, mk_W.at hU hW hP hK (hD _ _) hN⟩⟩ rfl rfl hl.1 rfl (lv_room (Nat.le_of_ble_eq_true rfl)) dX6_ended_58 ⟨Nat.zero_le _, Nat.zero_le _⟩) hS (fun q _ h => h) (fun q h => h) (fun v_10 u t H1 locs ht hvm hw hB hz1 hk1 hS => ?_)
    subst v_10
    rw [ht] at hB
    replace hP := hB
    clear hB hz1 hk1 hvm ht
    generalize H1 = H at hP hS ⊢
    obtain ⟨i_9, h⟩ := mk_ifn h
    refine mk_ia hx hb hK hP (by decide) rfl i_9 dX6_ended_61 ?_
    refine lv_goto (tgt := 66) hx hb dX6_ended_62 (by decide) ?_
    replace h := Option.some.inj h
    subst q
    exact W.iret (v := r_5.2 86 (r_8).toNatClampNeg) hx hb hr (fun t ht hW => ⟨⟨_, (), rfl, rfl, by rw [← ht] at hP; exact hP⟩, hS.F ht⟩) hS.2.2 dX6_ended_66
def f_X6_ended_40 (l1 : Int32) (l2 : Int32) (M : mk_M) : Option (Int32 × mk_M) := (f_X6_ended_41 l1 l2 0 M)
set_option maxHeartbeats 4000000 in
set_option maxRecDepth 100000 in
theorem w_X6_ended_40 {p : Program} {l : Launch} {e : Env} {s : State} {m : MethodId} {args : Array Value} {below : List Frame} {meth : Method} {c : Code} {D : va_G} {E : mk_E} {L : Nat → Int64} (C0 : mk_C p s m args meth c cX6_ended 4 wsX6_ended RX6 (some .int) D E) : ∀ (l1 : Int32) (l2 : Int32) (M : mk_M) (q : Int32 × mk_M), f_X6_ended_40 l1 l2 M = some q → ∀ (H : Heap) (locs : List Loc) (ls : Array Slot), va_P D vwCl (mk_wl E M L) H → va_S (mk_A E) s.heap H locs → lv_has ls 4 [(0, .ref (E.1 68)), (1, .int l1), (2, .int l2)] → W p l e rm_X6_ended s m args below meth c H locs 0 0 (MQ below (mk_Qi D E L q.1 q.2) args s 0 0 (mk_A E)) (F0 m 40 ls []) := by
  obtain ⟨hx, hb, hml, hown, hts, hr, hlk, hK, hD, hN⟩ := id C0
  intro l1 l2 M q h H locs ls hP hS hl
  replace h : (f_X6_ended_41 l1 l2 0 M) = some q := h
  refine lv_iconst (v := 0) hx hb dX6_ended_40 (by decide) ?_
  exact w_X6_ended_41 C0 l1 l2 0 M _ h _ _ _ hP hS (lv_sub hl [0, 1, 2] rfl)
def f_X6_ended (a1 : Int32) (a2 : Int32) (M : mk_M) : Option (Int32 × mk_M) := ((f_X6_isKnown a1 M).bind (fun r_2 => (if r_2 = 0 then (f_X6_ended_40 a1 a2 M) else (if a2 < 1 then (f_X6_ended_40 a1 a2 M) else (if mk_ob a1 13 then none else (if (M 78 (a1).toNatClampNeg) < a2 then (f_X6_ended_40 a1 a2 M) else (if mk_ob a1 13 then none else (if a2 ≤ ((M 78 (a1).toNatClampNeg) - 8) then (f_X6_ended_40 a1 a2 M) else (f_X6_ended_41 a1 a2 1 M)))))))))
set_option maxHeartbeats 4000000 in
set_option maxRecDepth 100000 in
theorem c_X6_ended (l : Launch) (D : va_G) (E : mk_E) (L : Nat → Int64) (a1 : Int32) (a2 : Int32) (M : mk_M) {q : Int32 × mk_M} (h : f_X6_ended a1 a2 M = some q) : Met l yX6_ended wsX6_ended rm_X6_ended (va_Pc [.ref (E.1 68), .int a1, .int a2] (mk_W D E M L)) (mk_Qi D E L q.1 q.2) 0 0 (mk_A E) := by
  refine Met.ofW (cc := cX6_ended) (maxL := 4) (ret := (some .int)) (by decide) rfl ?_
  intro p e s m args below meth c s₁ B hml hv
  obtain ⟨rfl, hP, hK, hD0, hN⟩ := hv
  have hx := B.exec
  have hb := B.bytes
  have hr := B.returns
  have hts := atoms_spec (ws := wsX6_ended) B.pre
  have hown : s.vm.findClass RX6 = some m.cls := findClass_of_methodNamed B.named
  have hlk := B.notSynchronized
  have hD : ∀ (M : mk_M) (L : Nat → Int64), va_D (mk_A E) (mk_wl E M L) := fun _ _ => mk_D hD0
  have C0 : mk_C p s m [.ref (E.1 68), .int a1, .int a2].toArray meth c cX6_ended 4 wsX6_ended RX6 (some .int) D E := ⟨hx, hb, hml, hown, hts, hr, hlk, hK, hD, hN⟩
  have hS : va_S (mk_A E) s.heap s.heap [] := va_S.rf
  have hl := lv_entry ([.ref (E.1 68), .int a1, .int a2]) (n := 4) (Nat.le_of_ble_eq_true rfl)
  rw [lg_entry_eq]
  generalize (lg_sl ([.ref (E.1 68), .int a1, .int a2]) ++ List.replicate (4 - (lg_sl ([.ref (E.1 68), .int a1, .int a2])).length) Slot.unset).toArray = ls at hl ⊢
  have hl : lv_has ls 4 [(0, .ref (E.1 68)), (1, .int a1), (2, .int a2)] := hl
  replace h : ((f_X6_isKnown a1 M).bind (fun r_2 => (if r_2 = 0 then (f_X6_ended_40 a1 a2 M) else (if a2 < 1 then (f_X6_ended_40 a1 a2 M) else (if mk_ob a1 13 then none else (if (M 78 (a1).toNatClampNeg) < a2 then (f_X6_ended_40 a1 a2 M) else (if mk_ob a1 13 then none else (if a2 ≤ ((M 78 (a1).toNatClampNeg) - 8) then (f_X6_ended_40 a1 a2 M) else (f_X6_ended_41 a1 a2 1 M))))))))) = some q := h
  refine lv_aload_n hx hb dX6_ended_0 rfl (lv_at hl 0 rfl) ?_
  refine lv_iload_n hx hb dX6_ended_1 rfl (lv_at hl 1 rfl) ?_
  obtain ⟨r_2, e_1, h⟩ := mk_bind h
  refine va_calli (va_runV (As := [.int a1]) (rest := []) ⟨hx, hb, hml, hown, hts⟩ (c_X6_isKnown l D E L a1 M  e_1) (cwV 1 hts gX6_ended_X6_isKnown rfl rfl rfl (by decide +kernel) ⟨Nat.le_of_ble_eq_true rfl, Nat.le_of_ble_eq_true rfl⟩) ⟨mk_W.blind, mk_rc6 hK hP (by decide) rfl, fun U hU hW => ⟨rfl, mk_W.at hU hW hP hK (hD _ _) hN⟩⟩ rfl rfl hl.1 rfl (lv_room (Nat.le_of_ble_eq_true rfl)) dX6_ended_2 ⟨Nat.zero_le _, Nat.zero_le _⟩) hS (fun q _ h => h) (fun q h => h) (fun v_17 u t H1 locs ht hvm hw hB hz1 hk1 hS => ?_)
  subst v_17
  rw [ht] at hB
  replace hP := hB
  clear hB hz1 hk1 hvm ht
  generalize H1 = H at hP hS ⊢
  refine lv_if_eq (tgt := 40) hx hb dX6_ended_5 (by decide) (fun c_3 => ?_) (fun c_3 => ?_)
  · replace h := (if_pos c_3).symm.trans h
    exact w_X6_ended_40 C0 a1 a2 M _ h _ _ _ hP hS (lv_sub hl [0, 1, 2] rfl)
  · replace h := (if_neg c_3).symm.trans h
    refine lv_iload_n hx hb dX6_ended_8 rfl (lv_at hl 2 rfl) ?_
    refine lv_iconst (v := 1) hx hb dX6_ended_9 (by decide) ?_
    refine lv_icmp_lt (tgt := 40) hx hb dX6_ended_10 (by decide) (fun c_12 => ?_) (fun c_12 => ?_)
    · replace h := (if_pos c_12).symm.trans h
      exact w_X6_ended_40 C0 a1 a2 M _ h _ _ _ hP hS (lv_sub hl [0, 1, 2] rfl)
    · replace h := (if_neg c_12).symm.trans h
      refine lv_iload_n hx hb dX6_ended_13 rfl (lv_at hl 2 rfl) ?_
      refine lv_aload_n hx hb dX6_ended_14 rfl (lv_at hl 0 rfl) ?_
      refine mk_g6_12 hx hb hts in_X6_ended_X6 hown hK hP (by decide) rfl (hts (.fieldLink RX6 38 "MixedKernelModel" "jobs" "[I") (by decide +kernel)) dX6_ended_15 ?_
      refine lv_iload_n hx hb dX6_ended_18 rfl (lv_at hl 1 rfl) ?_
      obtain ⟨i_13, h⟩ := mk_ifn h
      refine mk_ia hx hb hK hP (by decide) rfl i_13 dX6_ended_19 ?_
      refine lv_icmp_gt (tgt := 40) hx hb dX6_ended_20 (by decide) (fun c_14 => ?_) (fun c_14 => ?_)
      · replace h := (if_pos c_14).symm.trans h
        exact w_X6_ended_40 C0 a1 a2 M _ h _ _ _ hP hS (lv_sub hl [0, 1, 2] rfl)
      · replace h := (if_neg c_14).symm.trans h
        refine lv_iload_n hx hb dX6_ended_23 rfl (lv_at hl 2 rfl) ?_
        refine lv_aload_n hx hb dX6_ended_24 rfl (lv_at hl 0 rfl) ?_
        refine mk_g6_12 hx hb hts in_X6_ended_X6 hown hK hP (by decide) rfl (hts (.fieldLink RX6 38 "MixedKernelModel" "jobs" "[I") (by decide +kernel)) dX6_ended_25 ?_
        refine lv_iload_n hx hb dX6_ended_28 rfl (lv_at hl 1 rfl) ?_
        obtain ⟨i_15, h⟩ := mk_ifn h
        refine mk_ia hx hb hK hP (by decide) rfl i_15 dX6_ended_29 ?_
        refine lv_bipush (v := 8) hx hb dX6_ended_30 (by decide) ?_
        refine lv_isub hx hb dX6_ended_32 ?_
        refine lv_icmp_le (tgt := 40) hx hb dX6_ended_33 (by decide) (fun c_16 => ?_) (fun c_16 => ?_)
        · replace h := (if_pos c_16).symm.trans h
          exact w_X6_ended_40 C0 a1 a2 M _ h _ _ _ hP hS (lv_sub hl [0, 1, 2] rfl)
        · replace h := (if_neg c_16).symm.trans h
          refine lv_iconst (v := 1) hx hb dX6_ended_36 (by decide) ?_
          refine lv_goto (tgt := 41) hx hb dX6_ended_37 (by decide) ?_
          exact w_X6_ended_41 C0 a1 a2 1 M _ h _ _ _ hP hS (lv_sub hl [0, 1, 2] rfl)
abbrev rm_X6_late : Room := { frames := 2, cells := 0, slots := 0, locals := 43 }
theorem in_X6_late_X6 : ∀ w ∈ wsX60, w ∈ wsX6_late := by decide +kernel
def f_X6_late_17 : Nat → Int32 → Int32 → Int32 → mk_M → Option (Int32)
  | 0, _, _, _, _ => none
  | n + 1, l1, l2, l3, M => (if mk_ob l1 13 then none else (if (M 78 (l1).toNatClampNeg) < l3 then (some l2) else ((f_X6_isPending l1 l3 M).bind (fun r_6 => (if r_6 = 0 then (f_X6_late_17 n l1 l2 (l3 + 1) M) else ((f_X6_at l1 l3 M).bind (fun r_9 => (if mk_ob r_9 104 then none else (if mk_ob l1 13 then none else (if (M 68 21) ≤ ((M 83 (r_9).toNatClampNeg) + (M 72 (l1).toNatClampNeg)) then (f_X6_late_17 n l1 l2 (l3 + 1) M) else (f_X6_late_17 n l1 (l2 + 1) (l3 + 1) M)))))))))))
set_option maxHeartbeats 4000000 in
set_option maxRecDepth 100000 in
theorem w_X6_late_17 {p : Program} {l : Launch} {e : Env} {s : State} {m : MethodId} {args : Array Value} {below : List Frame} {meth : Method} {c : Code} {D : va_G} {E : mk_E} {L : Nat → Int64} (C0 : mk_C p s m args meth c cX6_late 4 wsX6_late RX6 (some .int) D E) : ∀ n : Nat, ∀ (l1 : Int32) (l2 : Int32) (l3 : Int32) (M : mk_M) (q : Int32), f_X6_late_17 n l1 l2 l3 M = some q → ∀ (H : Heap) (locs : List Loc) (ls : Array Slot), va_P D vwCl (mk_wl E M L) H → va_S (mk_A E) s.heap H locs → lv_has ls 4 [(0, .ref (E.1 68)), (1, .int l1), (2, .int l2), (3, .int l3)] → W p l e rm_X6_late s m args below meth c H locs 0 0 (MQ below (mk_Qi D E L q M) args s 0 0 (mk_A E)) (F0 m 17 ls []) := by
  obtain ⟨hx, hb, hml, hown, hts, hr, hlk, hK, hD, hN⟩ := id C0
  intro n
  induction n with
  | zero =>
    intro l1 l2 l3 M q h
    cases h
  | succ n ih =>
    intro l1 l2 l3 M q h H locs ls hP hS hl
    replace h : (if mk_ob l1 13 then none else (if (M 78 (l1).toNatClampNeg) < l3 then (some l2) else ((f_X6_isPending l1 l3 M).bind (fun r_6 => (if r_6 = 0 then (f_X6_late_17 n l1 l2 (l3 + 1) M) else ((f_X6_at l1 l3 M).bind (fun r_9 => (if mk_ob r_9 104 then none else (if mk_ob l1 13 then none else (if (M 68 21) ≤ ((M 83 (r_9).toNatClampNeg) + (M 72 (l1).toNatClampNeg)) then (f_X6_late_17 n l1 l2 (l3 + 1) M) else (f_X6_late_17 n l1 (l2 + 1) (l3 + 1) M))))))))))) = some q := h
    refine lv_iload_n hx hb dX6_late_17 rfl (lv_at hl 3 rfl) ?_
    refine lv_aload_n hx hb dX6_late_18 rfl (lv_at hl 0 rfl) ?_
    refine mk_g6_12 hx hb hts in_X6_late_X6 hown hK hP (by decide) rfl (hts (.fieldLink RX6 38 "MixedKernelModel" "jobs" "[I") (by decide +kernel)) dX6_late_19 ?_
    refine lv_iload_n hx hb dX6_late_22 rfl (lv_at hl 1 rfl) ?_
    obtain ⟨i_3, h⟩ := mk_ifn h
    refine mk_ia hx hb hK hP (by decide) rfl i_3 dX6_late_23 ?_
    refine lv_icmp_gt (tgt := 74) hx hb dX6_late_24 (by decide) (fun c_4 => ?_) (fun c_4 => ?_)
    · replace h := (if_pos c_4).symm.trans h
      refine lv_iload_n hx hb dX6_late_74 rfl (lv_at hl 2 rfl) ?_
      replace h := Option.some.inj h
      subst q
      exact W.iret (v := l2) hx hb hr (fun t ht hW => ⟨⟨_, (), rfl, rfl, by rw [← ht] at hP; exact hP⟩, hS.F ht⟩) hS.2.2 dX6_late_75
    · replace h := (if_neg c_4).symm.trans h
      refine lv_aload_n hx hb dX6_late_27 rfl (lv_at hl 0 rfl) ?_
      refine lv_iload_n hx hb dX6_late_28 rfl (lv_at hl 1 rfl) ?_
      refine lv_iload_n hx hb dX6_late_29 rfl (lv_at hl 3 rfl) ?_
      obtain ⟨r_6, e_5, h⟩ := mk_bind h
      refine va_calli (va_runV (As := [.int l1, .int l3]) (rest := []) ⟨hx, hb, hml, hown, hts⟩ (c_X6_isPending l D E L l1 l3 M  e_5) (cwV 2 hts gX6_late_X6_isPending rfl rfl rfl (by decide +kernel) ⟨Nat.le_of_ble_eq_true rfl, Nat.le_of_ble_eq_true rfl⟩) ⟨mk_W.blind, mk_rc6 hK hP (by decide) rfl, fun U hU hW => ⟨rfl, mk_W.at hU hW hP hK (hD _ _) hN⟩⟩ rfl rfl hl.1 rfl (lv_room (Nat.le_of_ble_eq_true rfl)) dX6_late_30 ⟨Nat.zero_le _, Nat.zero_le _⟩) hS (fun q _ h => h) (fun q h => h) (fun v_14 u t H1 locs ht hvm hw hB hz1 hk1 hS => ?_)
      subst v_14
      rw [ht] at hB
      replace hP := hB
      clear hB hz1 hk1 hvm ht
      generalize H1 = H at hP hS ⊢
      refine lv_if_eq (tgt := 66) hx hb dX6_late_33 (by decide) (fun c_7 => ?_) (fun c_7 => ?_)
      · replace h := (if_pos c_7).symm.trans h
        refine lv_iload_n hx hb dX6_late_66 rfl (lv_at hl 2 rfl) ?_
        refine lv_istore_n (lv' := [(2, .int l2), (0, .ref (E.1 68)), (1, .int l1), (3, .int l3)]) hx hb dX6_late_67 rfl hl (by decide) rfl (fun ls hl => ?_)
        refine lv_iinc (v := l3 + 1) (lv' := [(3, .int (l3 + 1)), (2, .int l2), (0, .ref (E.1 68)), (1, .int l1)]) hx hb dX6_late_68 hl (k := 3) rfl rfl (by decide) rfl (fun ls hl => ?_)
        refine lv_goto (tgt := 17) hx hb dX6_late_71 (by decide) ?_
        exact ih l1 l2 (l3 + 1) M _ h _ _ _ hP hS (lv_sub hl [2, 3, 1, 0] rfl)
      · replace h := (if_neg c_7).symm.trans h
        refine lv_aload_n hx hb dX6_late_36 rfl (lv_at hl 0 rfl) ?_
        refine mk_g6_21 hx hb hts in_X6_late_X6 hown hK hP (by decide) rfl (hts (.fieldLink RX6 152 "MixedKernelModel" "time" "I") (by decide +kernel)) dX6_late_37 ?_
        refine lv_aload_n hx hb dX6_late_40 rfl (lv_at hl 0 rfl) ?_
        refine mk_g6_17 hx hb hts in_X6_late_X6 hown hK hP (by decide) rfl (hts (.fieldLink RX6 53 "MixedKernelModel" "releases" "[I") (by decide +kernel)) dX6_late_41 ?_
        refine lv_iload_n hx hb dX6_late_44 rfl (lv_at hl 1 rfl) ?_
        refine lv_iload_n hx hb dX6_late_45 rfl (lv_at hl 3 rfl) ?_
        obtain ⟨r_9, e_8, h⟩ := mk_bind h
        refine va_calli (va_runS (As := [.int l1, .int l3]) (rest := [.ref (E.1 83), .int (M 68 21)]) ⟨hx, hb, hml, hown, hts⟩ (c_X6_at l D E L l1 l3 M  e_8) (cwS 2 hts gX6_late_X6_at rfl rfl rfl (by decide +kernel) ⟨Nat.le_of_ble_eq_true rfl, Nat.le_of_ble_eq_true rfl⟩) ⟨mk_W.blind, fun U hU hW => ⟨rfl, mk_W.at hU hW hP hK (hD _ _) hN⟩⟩ rfl rfl hl.1 rfl (lv_room (Nat.le_of_ble_eq_true rfl)) dX6_late_46 ⟨Nat.zero_le _, Nat.zero_le _⟩) hS (fun q _ h => h) (fun q h => h) (fun v_13 u t H1 locs ht hvm hw hB hz1 hk1 hS => ?_)
        subst v_13
        rw [ht] at hB
        replace hP := hB
        clear hB hz1 hk1 hvm ht
        generalize H1 = H at hP hS ⊢
        obtain ⟨i_10, h⟩ := mk_ifn h
        refine mk_ia hx hb hK hP (by decide) rfl i_10 dX6_late_49 ?_
        refine lv_aload_n hx hb dX6_late_50 rfl (lv_at hl 0 rfl) ?_
        refine mk_g6_4 hx hb hts in_X6_late_X6 hown hK hP (by decide) rfl (hts (.fieldLink RX6 20 "MixedKernelModel" "deadlines" "[I") (by decide +kernel)) dX6_late_51 ?_
        refine lv_iload_n hx hb dX6_late_54 rfl (lv_at hl 1 rfl) ?_
        obtain ⟨i_11, h⟩ := mk_ifn h
        refine mk_ia hx hb hK hP (by decide) rfl i_11 dX6_late_55 ?_
        refine lv_iadd hx hb dX6_late_56 ?_
        refine lv_icmp_le (tgt := 66) hx hb dX6_late_57 (by decide) (fun c_12 => ?_) (fun c_12 => ?_)
        · replace h := (if_pos c_12).symm.trans h
          refine lv_iload_n hx hb dX6_late_66 rfl (lv_at hl 2 rfl) ?_
          refine lv_istore_n (lv' := [(2, .int l2), (0, .ref (E.1 68)), (1, .int l1), (3, .int l3)]) hx hb dX6_late_67 rfl hl (by decide) rfl (fun ls hl => ?_)
          refine lv_iinc (v := l3 + 1) (lv' := [(3, .int (l3 + 1)), (2, .int l2), (0, .ref (E.1 68)), (1, .int l1)]) hx hb dX6_late_68 hl (k := 3) rfl rfl (by decide) rfl (fun ls hl => ?_)
          refine lv_goto (tgt := 17) hx hb dX6_late_71 (by decide) ?_
          exact ih l1 l2 (l3 + 1) M _ h _ _ _ hP hS (lv_sub hl [2, 3, 1, 0] rfl)
        · replace h := (if_neg c_12).symm.trans h
          refine lv_iload_n hx hb dX6_late_60 rfl (lv_at hl 2 rfl) ?_
          refine lv_iconst (v := 1) hx hb dX6_late_61 (by decide) ?_
          refine lv_iadd hx hb dX6_late_62 ?_
          refine lv_goto (tgt := 67) hx hb dX6_late_63 (by decide) ?_
          refine lv_istore_n (lv' := [(2, .int (l2 + 1)), (0, .ref (E.1 68)), (1, .int l1), (3, .int l3)]) hx hb dX6_late_67 rfl hl (by decide) rfl (fun ls hl => ?_)
          refine lv_iinc (v := l3 + 1) (lv' := [(3, .int (l3 + 1)), (2, .int (l2 + 1)), (0, .ref (E.1 68)), (1, .int l1)]) hx hb dX6_late_68 hl (k := 3) rfl rfl (by decide) rfl (fun ls hl => ?_)
          refine lv_goto (tgt := 17) hx hb dX6_late_71 (by decide) ?_
          exact ih l1 (l2 + 1) (l3 + 1) M _ h _ _ _ hP hS (lv_sub hl [2, 3, 1, 0] rfl)
def f_X6_late (a1 : Int32) (M : mk_M) : Option (Int32) := (if mk_ob a1 13 then none else (if mk_ob a1 13 then none else (f_X6_late_17 mk_F a1 (M 81 (a1).toNatClampNeg) ((M 78 (a1).toNatClampNeg) - 7) M)))
set_option maxHeartbeats 4000000 in
set_option maxRecDepth 100000 in
theorem c_X6_late (l : Launch) (D : va_G) (E : mk_E) (L : Nat → Int64) (a1 : Int32) (M : mk_M) {q : Int32} (h : f_X6_late a1 M = some q) : Met l yX6_late wsX6_late rm_X6_late (va_Pc [.ref (E.1 68), .int a1] (mk_W D E M L)) (mk_Qi D E L q M) 0 0 (mk_A E) := by
  refine Met.ofW (cc := cX6_late) (maxL := 4) (ret := (some .int)) (by decide) rfl ?_
  intro p e s m args below meth c s₁ B hml hv
  obtain ⟨rfl, hP, hK, hD0, hN⟩ := hv
  have hx := B.exec
  have hb := B.bytes
  have hr := B.returns
  have hts := atoms_spec (ws := wsX6_late) B.pre
  have hown : s.vm.findClass RX6 = some m.cls := findClass_of_methodNamed B.named
  have hlk := B.notSynchronized
  have hD : ∀ (M : mk_M) (L : Nat → Int64), va_D (mk_A E) (mk_wl E M L) := fun _ _ => mk_D hD0
  have C0 : mk_C p s m [.ref (E.1 68), .int a1].toArray meth c cX6_late 4 wsX6_late RX6 (some .int) D E := ⟨hx, hb, hml, hown, hts, hr, hlk, hK, hD, hN⟩
  have hS : va_S (mk_A E) s.heap s.heap [] := va_S.rf
  have hl := lv_entry ([.ref (E.1 68), .int a1]) (n := 4) (Nat.le_of_ble_eq_true rfl)
  rw [lg_entry_eq]
  generalize (lg_sl ([.ref (E.1 68), .int a1]) ++ List.replicate (4 - (lg_sl ([.ref (E.1 68), .int a1])).length) Slot.unset).toArray = ls at hl ⊢
  have hl : lv_has ls 4 [(0, .ref (E.1 68)), (1, .int a1)] := hl
  replace h : (if mk_ob a1 13 then none else (if mk_ob a1 13 then none else (f_X6_late_17 mk_F a1 (M 81 (a1).toNatClampNeg) ((M 78 (a1).toNatClampNeg) - 7) M))) = some q := h
  refine lv_aload_n hx hb dX6_late_0 rfl (lv_at hl 0 rfl) ?_
  refine mk_g6_15 hx hb hts in_X6_late_X6 hown hK hP (by decide) rfl (hts (.fieldLink RX6 47 "MixedKernelModel" "lates" "[I") (by decide +kernel)) dX6_late_1 ?_
  refine lv_iload_n hx hb dX6_late_4 rfl (lv_at hl 1 rfl) ?_
  obtain ⟨i_1, h⟩ := mk_ifn h
  refine mk_ia hx hb hK hP (by decide) rfl i_1 dX6_late_5 ?_
  refine lv_istore_n (lv' := [(2, .int (M 81 (a1).toNatClampNeg)), (0, .ref (E.1 68)), (1, .int a1)]) hx hb dX6_late_6 rfl hl (by decide) rfl (fun ls hl => ?_)
  refine lv_aload_n hx hb dX6_late_7 rfl (lv_at hl 1 rfl) ?_
  refine mk_g6_12 hx hb hts in_X6_late_X6 hown hK hP (by decide) rfl (hts (.fieldLink RX6 38 "MixedKernelModel" "jobs" "[I") (by decide +kernel)) dX6_late_8 ?_
  refine lv_iload_n hx hb dX6_late_11 rfl (lv_at hl 2 rfl) ?_
  obtain ⟨i_2, h⟩ := mk_ifn h
  refine mk_ia hx hb hK hP (by decide) rfl i_2 dX6_late_12 ?_
  refine lv_bipush (v := 7) hx hb dX6_late_13 (by decide) ?_
  refine lv_isub hx hb dX6_late_15 ?_
  refine lv_istore_n (lv' := [(3, .int ((M 78 (a1).toNatClampNeg) - 7)), (2, .int (M 81 (a1).toNatClampNeg)), (0, .ref (E.1 68)), (1, .int a1)]) hx hb dX6_late_16 rfl hl (by decide) rfl (fun ls hl => ?_)
  exact w_X6_late_17 C0 mk_F a1 (M 81 (a1).toNatClampNeg) ((M 78 (a1).toNatClampNeg) - 7) M _ h _ _ _ hP hS (lv_sub hl [2, 3, 1, 0] rfl)
