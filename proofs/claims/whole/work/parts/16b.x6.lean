abbrev rm_X6_noteWitness : Room := { frames := 0, cells := 0, slots := 0, locals := 0 }
theorem in_X6_noteWitness_X6 : ∀ w ∈ wsX60, w ∈ wsX6_noteWitness := by decide +kernel
def f_X6_noteWitness_31 (K7 : Int32 → Int32 → mk_M → Option (mk_M)) (l1 : Int32) (l2 : Int32) (M : mk_M) : Option (mk_M) := (if mk_ob l2 13 then none else (if mk_ob l2 13 then none else (if mk_ob l2 13 then none else (if mk_ob ((mk_st M 89 (l2).toNatClampNeg (M 75 (l2).toNatClampNeg)) 75 (l2).toNatClampNeg) 13 then none else (if mk_ob l2 13 then none else (K7 l1 (l2 + 1) (mk_st (mk_st (mk_st M 89 (l2).toNatClampNeg (M 75 (l2).toNatClampNeg)) 90 (l2).toNatClampNeg ((mk_st M 89 (l2).toNatClampNeg (M 75 (l2).toNatClampNeg)) 71 ((mk_st M 89 (l2).toNatClampNeg (M 75 (l2).toNatClampNeg)) 75 (l2).toNatClampNeg).toNatClampNeg)) 68 29 (((mk_st (mk_st M 89 (l2).toNatClampNeg (M 75 (l2).toNatClampNeg)) 90 (l2).toNatClampNeg ((mk_st M 89 (l2).toNatClampNeg (M 75 (l2).toNatClampNeg)) 71 ((mk_st M 89 (l2).toNatClampNeg (M 75 (l2).toNatClampNeg)) 75 (l2).toNatClampNeg).toNatClampNeg)) 68 29) + 1))))))))
set_option maxHeartbeats 4000000 in
set_option maxRecDepth 100000 in
theorem w_X6_noteWitness_31 {p : Program} {l : Launch} {e : Env} {s : State} {m : MethodId} {args : Array Value} {below : List Frame} {meth : Method} {c : Code} {D : va_G} {E : mk_E} {L : Nat → Int64} (C0 : mk_C p s m args meth c cX6_noteWitness 3 wsX6_noteWitness RX6 none D E) (K7 : Int32 → Int32 → mk_M → Option (mk_M)) (hK7 : ∀ (l1 : Int32) (l2 : Int32) (M : mk_M) (q : mk_M), K7 l1 l2 M = some q → ∀ (H : Heap) (locs : List Loc) (ls : Array Slot), va_P D vwCl (mk_wl E M L) H → va_S (mk_A E) s.heap H locs → lv_has ls 3 [(0, .ref (E.1 68)), (1, .int l1), (2, .int l2)] → W p l e rm_X6_noteWitness s m args below meth c H locs 0 0 (MQ below (mk_Qv D E L q) args s 0 0 (mk_A E)) (F0 m 7 ls [])) : ∀ (l1 : Int32) (l2 : Int32) (M : mk_M) (q : mk_M), f_X6_noteWitness_31 K7 l1 l2 M = some q → ∀ (H : Heap) (locs : List Loc) (ls : Array Slot), va_P D vwCl (mk_wl E M L) H → va_S (mk_A E) s.heap H locs → lv_has ls 3 [(0, .ref (E.1 68)), (1, .int l1), (2, .int l2)] → W p l e rm_X6_noteWitness s m args below meth c H locs 0 0 (MQ below (mk_Qv D E L q) args s 0 0 (mk_A E)) (F0 m 31 ls []) := by
  obtain ⟨hx, hb, hml, hown, hts, hr, hlk, hK, hD, hN⟩ := id C0
  intro l1 l2 M q h H locs ls hP hS hl
  replace h : (if mk_ob l2 13 then none else (if mk_ob l2 13 then none else (if mk_ob l2 13 then none else (if mk_ob ((mk_st M 89 (l2).toNatClampNeg (M 75 (l2).toNatClampNeg)) 75 (l2).toNatClampNeg) 13 then none else (if mk_ob l2 13 then none else (K7 l1 (l2 + 1) (mk_st (mk_st (mk_st M 89 (l2).toNatClampNeg (M 75 (l2).toNatClampNeg)) 90 (l2).toNatClampNeg ((mk_st M 89 (l2).toNatClampNeg (M 75 (l2).toNatClampNeg)) 71 ((mk_st M 89 (l2).toNatClampNeg (M 75 (l2).toNatClampNeg)) 75 (l2).toNatClampNeg).toNatClampNeg)) 68 29 (((mk_st (mk_st M 89 (l2).toNatClampNeg (M 75 (l2).toNatClampNeg)) 90 (l2).toNatClampNeg ((mk_st M 89 (l2).toNatClampNeg (M 75 (l2).toNatClampNeg)) 71 ((mk_st M 89 (l2).toNatClampNeg (M 75 (l2).toNatClampNeg)) 75 (l2).toNatClampNeg).toNatClampNeg)) 68 29) + 1)))))))) = some q := h
  refine lv_aload_n hx hb dX6_noteWitness_31 rfl (lv_at hl 0 rfl) ?_
  refine mk_g6_30 hx hb hts in_X6_noteWitness_X6 hown hK hP (by decide) rfl (hts (.fieldLink RX6 71 "MixedKernelModel" "who" "[I") (by decide +kernel)) dX6_noteWitness_32 ?_
  refine lv_iload_n hx hb dX6_noteWitness_35 rfl (lv_at hl 2 rfl) ?_
  refine lv_aload_n hx hb dX6_noteWitness_36 rfl (lv_at hl 0 rfl) ?_
  refine mk_g6_8 hx hb hts in_X6_noteWitness_X6 hown hK hP (by decide) rfl (hts (.fieldLink RX6 29 "MixedKernelModel" "plan" "[I") (by decide +kernel)) dX6_noteWitness_37 ?_
  refine lv_iload_n hx hb dX6_noteWitness_40 rfl (lv_at hl 2 rfl) ?_
  obtain ⟨i_4, h⟩ := mk_ifn h
  refine mk_ia hx hb hK hP (by decide) rfl i_4 dX6_noteWitness_41 ?_
  obtain ⟨i_5, h⟩ := mk_ifn h
  refine mk_is hx hb hK hP (hD _ _) hS (by decide) rfl i_5 dX6_noteWitness_42 (fun H locs hP hS => ?_)
  refine lv_aload_n hx hb dX6_noteWitness_43 rfl (lv_at hl 0 rfl) ?_
  refine mk_g6_31 hx hb hts in_X6_noteWitness_X6 hown hK hP (by decide) rfl (hts (.fieldLink RX6 74 "MixedKernelModel" "whoPeriods" "[I") (by decide +kernel)) dX6_noteWitness_44 ?_
  refine lv_iload_n hx hb dX6_noteWitness_47 rfl (lv_at hl 2 rfl) ?_
  refine lv_aload_n hx hb dX6_noteWitness_48 rfl (lv_at hl 0 rfl) ?_
  refine mk_g6_3 hx hb hts in_X6_noteWitness_X6 hown hK hP (by decide) rfl (hts (.fieldLink RX6 16 "MixedKernelModel" "periods" "[I") (by decide +kernel)) dX6_noteWitness_49 ?_
  refine lv_aload_n hx hb dX6_noteWitness_52 rfl (lv_at hl 0 rfl) ?_
  refine mk_g6_8 hx hb hts in_X6_noteWitness_X6 hown hK hP (by decide) rfl (hts (.fieldLink RX6 29 "MixedKernelModel" "plan" "[I") (by decide +kernel)) dX6_noteWitness_53 ?_
  refine lv_iload_n hx hb dX6_noteWitness_56 rfl (lv_at hl 2 rfl) ?_
  obtain ⟨i_6, h⟩ := mk_ifn h
  refine mk_ia hx hb hK hP (by decide) rfl i_6 dX6_noteWitness_57 ?_
  obtain ⟨i_7, h⟩ := mk_ifn h
  refine mk_ia hx hb hK hP (by decide) rfl i_7 dX6_noteWitness_58 ?_
  obtain ⟨i_8, h⟩ := mk_ifn h
  refine mk_is hx hb hK hP (hD _ _) hS (by decide) rfl i_8 dX6_noteWitness_59 (fun H locs hP hS => ?_)
  refine lv_aload_n hx hb dX6_noteWitness_60 rfl (lv_at hl 0 rfl) ?_
  refine lv_dup hx hb dX6_noteWitness_61 rfl ?_
  refine mk_g6_29 hx hb hts in_X6_noteWitness_X6 hown hK hP (by decide) rfl (hts (.fieldLink RX6 105 "MixedKernelModel" "witnesses" "I") (by decide +kernel)) dX6_noteWitness_62 ?_
  refine lv_iconst (v := 1) hx hb dX6_noteWitness_65 (by decide) ?_
  refine lv_iadd hx hb dX6_noteWitness_66 ?_
  refine mk_p6_29 hx hb hts in_X6_noteWitness_X6 hown hK hP (by decide) rfl (hD _ _) hS (hts (.fieldLink RX6 105 "MixedKernelModel" "witnesses" "I") (by decide +kernel)) dX6_noteWitness_67 (fun H locs hP hS => ?_)
  refine lv_iinc (v := l2 + 1) (lv' := [(2, .int (l2 + 1)), (0, .ref (E.1 68)), (1, .int l1)]) hx hb dX6_noteWitness_70 hl (k := 2) rfl rfl (by decide) rfl (fun ls hl => ?_)
  refine lv_goto (tgt := 7) hx hb dX6_noteWitness_73 (by decide) ?_
  exact hK7 l1 (l2 + 1) (mk_st (mk_st (mk_st M 89 (l2).toNatClampNeg (M 75 (l2).toNatClampNeg)) 90 (l2).toNatClampNeg ((mk_st M 89 (l2).toNatClampNeg (M 75 (l2).toNatClampNeg)) 71 ((mk_st M 89 (l2).toNatClampNeg (M 75 (l2).toNatClampNeg)) 75 (l2).toNatClampNeg).toNatClampNeg)) 68 29 (((mk_st (mk_st M 89 (l2).toNatClampNeg (M 75 (l2).toNatClampNeg)) 90 (l2).toNatClampNeg ((mk_st M 89 (l2).toNatClampNeg (M 75 (l2).toNatClampNeg)) 71 ((mk_st M 89 (l2).toNatClampNeg (M 75 (l2).toNatClampNeg)) 75 (l2).toNatClampNeg).toNatClampNeg)) 68 29) + 1)) _ h _ _ _ hP hS (lv_sub hl [1, 2, 0] rfl)
def f_X6_noteWitness_7 : Nat → Int32 → Int32 → mk_M → Option (mk_M)
  | 0, _, _, _ => none
  | n + 1, l1, l2, M => (if (M 68 7) ≤ l2 then (if mk_ob l1 13 then none else (some (mk_st M 68 32 (M 72 (l1).toNatClampNeg)))) else (if l2 = 0 then (f_X6_noteWitness_31 (f_X6_noteWitness_7 n) l1 l2 M) else (if mk_ob (l2 - 1) 13 then none else (if (M 75 (l2 - 1).toNatClampNeg) = l1 then (if mk_ob l1 13 then none else (some (mk_st M 68 32 (M 72 (l1).toNatClampNeg)))) else (f_X6_noteWitness_31 (f_X6_noteWitness_7 n) l1 l2 M)))))
set_option maxHeartbeats 4000000 in
set_option maxRecDepth 100000 in
theorem w_X6_noteWitness_7 {p : Program} {l : Launch} {e : Env} {s : State} {m : MethodId} {args : Array Value} {below : List Frame} {meth : Method} {c : Code} {D : va_G} {E : mk_E} {L : Nat → Int64} (C0 : mk_C p s m args meth c cX6_noteWitness 3 wsX6_noteWitness RX6 none D E) : ∀ n : Nat, ∀ (l1 : Int32) (l2 : Int32) (M : mk_M) (q : mk_M), f_X6_noteWitness_7 n l1 l2 M = some q → ∀ (H : Heap) (locs : List Loc) (ls : Array Slot), va_P D vwCl (mk_wl E M L) H → va_S (mk_A E) s.heap H locs → lv_has ls 3 [(0, .ref (E.1 68)), (1, .int l1), (2, .int l2)] → W p l e rm_X6_noteWitness s m args below meth c H locs 0 0 (MQ below (mk_Qv D E L q) args s 0 0 (mk_A E)) (F0 m 7 ls []) := by
  obtain ⟨hx, hb, hml, hown, hts, hr, hlk, hK, hD, hN⟩ := id C0
  intro n
  induction n with
  | zero =>
    intro l1 l2 M q h
    cases h
  | succ n ih =>
    intro l1 l2 M q h H locs ls hP hS hl
    replace h : (if (M 68 7) ≤ l2 then (if mk_ob l1 13 then none else (some (mk_st M 68 32 (M 72 (l1).toNatClampNeg)))) else (if l2 = 0 then (f_X6_noteWitness_31 (f_X6_noteWitness_7 n) l1 l2 M) else (if mk_ob (l2 - 1) 13 then none else (if (M 75 (l2 - 1).toNatClampNeg) = l1 then (if mk_ob l1 13 then none else (some (mk_st M 68 32 (M 72 (l1).toNatClampNeg)))) else (f_X6_noteWitness_31 (f_X6_noteWitness_7 n) l1 l2 M))))) = some q := h
    refine lv_iload_n hx hb dX6_noteWitness_7 rfl (lv_at hl 2 rfl) ?_
    refine lv_aload_n hx hb dX6_noteWitness_8 rfl (lv_at hl 0 rfl) ?_
    refine mk_g6_7 hx hb hts in_X6_noteWitness_X6 hown hK hP (by decide) rfl (hts (.fieldLink RX6 91 "MixedKernelModel" "planned" "I") (by decide +kernel)) dX6_noteWitness_9 ?_
    refine lv_icmp_ge (tgt := 76) hx hb dX6_noteWitness_12 (by decide) (fun c_1 => ?_) (fun c_1 => ?_)
    · replace h := (if_pos c_1).symm.trans h
      refine lv_aload_n hx hb dX6_noteWitness_76 rfl (lv_at hl 0 rfl) ?_
      refine lv_aload_n hx hb dX6_noteWitness_77 rfl (lv_at hl 0 rfl) ?_
      refine mk_g6_4 hx hb hts in_X6_noteWitness_X6 hown hK hP (by decide) rfl (hts (.fieldLink RX6 20 "MixedKernelModel" "deadlines" "[I") (by decide +kernel)) dX6_noteWitness_78 ?_
      refine lv_iload_n hx hb dX6_noteWitness_81 rfl (lv_at hl 1 rfl) ?_
      obtain ⟨i_2, h⟩ := mk_ifn h
      refine mk_ia hx hb hK hP (by decide) rfl i_2 dX6_noteWitness_82 ?_
      refine mk_p6_32 hx hb hts in_X6_noteWitness_X6 hown hK hP (by decide) rfl (hD _ _) hS (hts (.fieldLink RX6 108 "MixedKernelModel" "until" "I") (by decide +kernel)) dX6_noteWitness_83 (fun H locs hP hS => ?_)
      replace h := Option.some.inj h
      subst q
      exact W.vret hx hb hr (fun t ht hW => ⟨⟨(), rfl, trivial, by rw [← ht] at hP; exact hP⟩, hS.F ht⟩) hS.2.2 dX6_noteWitness_86
    · replace h := (if_neg c_1).symm.trans h
      refine lv_iload_n hx hb dX6_noteWitness_15 rfl (lv_at hl 2 rfl) ?_
      refine lv_if_eq (tgt := 31) hx hb dX6_noteWitness_16 (by decide) (fun c_3 => ?_) (fun c_3 => ?_)
      · replace h := (if_pos c_3).symm.trans h
        exact w_X6_noteWitness_31 C0 (f_X6_noteWitness_7 n) ih l1 l2 M _ h _ _ _ hP hS (lv_sub hl [0, 1, 2] rfl)
      · replace h := (if_neg c_3).symm.trans h
        refine lv_aload_n hx hb dX6_noteWitness_19 rfl (lv_at hl 0 rfl) ?_
        refine mk_g6_8 hx hb hts in_X6_noteWitness_X6 hown hK hP (by decide) rfl (hts (.fieldLink RX6 29 "MixedKernelModel" "plan" "[I") (by decide +kernel)) dX6_noteWitness_20 ?_
        refine lv_iload_n hx hb dX6_noteWitness_23 rfl (lv_at hl 2 rfl) ?_
        refine lv_iconst (v := 1) hx hb dX6_noteWitness_24 (by decide) ?_
        refine lv_isub hx hb dX6_noteWitness_25 ?_
        obtain ⟨i_9, h⟩ := mk_ifn h
        refine mk_ia hx hb hK hP (by decide) rfl i_9 dX6_noteWitness_26 ?_
        refine lv_iload_n hx hb dX6_noteWitness_27 rfl (lv_at hl 1 rfl) ?_
        refine lv_icmp_eq (tgt := 76) hx hb dX6_noteWitness_28 (by decide) (fun c_10 => ?_) (fun c_10 => ?_)
        · replace h := (if_pos c_10).symm.trans h
          refine lv_aload_n hx hb dX6_noteWitness_76 rfl (lv_at hl 0 rfl) ?_
          refine lv_aload_n hx hb dX6_noteWitness_77 rfl (lv_at hl 0 rfl) ?_
          refine mk_g6_4 hx hb hts in_X6_noteWitness_X6 hown hK hP (by decide) rfl (hts (.fieldLink RX6 20 "MixedKernelModel" "deadlines" "[I") (by decide +kernel)) dX6_noteWitness_78 ?_
          refine lv_iload_n hx hb dX6_noteWitness_81 rfl (lv_at hl 1 rfl) ?_
          obtain ⟨i_11, h⟩ := mk_ifn h
          refine mk_ia hx hb hK hP (by decide) rfl i_11 dX6_noteWitness_82 ?_
          refine mk_p6_32 hx hb hts in_X6_noteWitness_X6 hown hK hP (by decide) rfl (hD _ _) hS (hts (.fieldLink RX6 108 "MixedKernelModel" "until" "I") (by decide +kernel)) dX6_noteWitness_83 (fun H locs hP hS => ?_)
          replace h := Option.some.inj h
          subst q
          exact W.vret hx hb hr (fun t ht hW => ⟨⟨(), rfl, trivial, by rw [← ht] at hP; exact hP⟩, hS.F ht⟩) hS.2.2 dX6_noteWitness_86
        · replace h := (if_neg c_10).symm.trans h
          exact w_X6_noteWitness_31 C0 (f_X6_noteWitness_7 n) ih l1 l2 M _ h _ _ _ hP hS (lv_sub hl [0, 1, 2] rfl)
def f_X6_noteWitness (a1 : Int32) (M : mk_M) : Option (mk_M) := (f_X6_noteWitness_7 mk_F a1 0 (mk_st M 68 29 0))
set_option maxHeartbeats 4000000 in
set_option maxRecDepth 100000 in
theorem c_X6_noteWitness (l : Launch) (D : va_G) (E : mk_E) (L : Nat → Int64) (a1 : Int32) (M : mk_M) {q : mk_M} (h : f_X6_noteWitness a1 M = some q) : Met l yX6_noteWitness wsX6_noteWitness rm_X6_noteWitness (va_Pc [.ref (E.1 68), .int a1] (mk_W D E M L)) (mk_Qv D E L q) 0 0 (mk_A E) := by
  refine Met.ofW (cc := cX6_noteWitness) (maxL := 3) (ret := none) (by decide) rfl ?_
  intro p e s m args below meth c s₁ B hml hv
  obtain ⟨rfl, hP, hK, hD0, hN⟩ := hv
  have hx := B.exec
  have hb := B.bytes
  have hr := B.returns
  have hts := atoms_spec (ws := wsX6_noteWitness) B.pre
  have hown : s.vm.findClass RX6 = some m.cls := findClass_of_methodNamed B.named
  have hlk := B.notSynchronized
  have hD : ∀ (M : mk_M) (L : Nat → Int64), va_D (mk_A E) (mk_wl E M L) := fun _ _ => mk_D hD0
  have C0 : mk_C p s m [.ref (E.1 68), .int a1].toArray meth c cX6_noteWitness 3 wsX6_noteWitness RX6 none D E := ⟨hx, hb, hml, hown, hts, hr, hlk, hK, hD, hN⟩
  have hS : va_S (mk_A E) s.heap s.heap [] := va_S.rf
  have hl := lv_entry ([.ref (E.1 68), .int a1]) (n := 3) (Nat.le_of_ble_eq_true rfl)
  rw [lg_entry_eq]
  generalize (lg_sl ([.ref (E.1 68), .int a1]) ++ List.replicate (3 - (lg_sl ([.ref (E.1 68), .int a1])).length) Slot.unset).toArray = ls at hl ⊢
  have hl : lv_has ls 3 [(0, .ref (E.1 68)), (1, .int a1)] := hl
  replace h : (f_X6_noteWitness_7 mk_F a1 0 (mk_st M 68 29 0)) = some q := h
  refine lv_aload_n hx hb dX6_noteWitness_0 rfl (lv_at hl 0 rfl) ?_
  refine lv_iconst (v := 0) hx hb dX6_noteWitness_1 (by decide) ?_
  refine mk_p6_29 hx hb hts in_X6_noteWitness_X6 hown hK hP (by decide) rfl (hD _ _) hS (hts (.fieldLink RX6 105 "MixedKernelModel" "witnesses" "I") (by decide +kernel)) dX6_noteWitness_2 (fun H locs hP hS => ?_)
  refine lv_iconst (v := 0) hx hb dX6_noteWitness_5 (by decide) ?_
  refine lv_istore_n (lv' := [(2, .int 0), (0, .ref (E.1 68)), (1, .int a1)]) hx hb dX6_noteWitness_6 rfl hl (by decide) rfl (fun ls hl => ?_)
  exact w_X6_noteWitness_7 C0 mk_F a1 0 (mk_st M 68 29 0) _ h _ _ _ hP hS (lv_sub hl [1, 2, 0] rfl)
abbrev rm_X6_add : Room := { frames := 3, cells := 0, slots := 0, locals := 68 }
theorem in_X6_add_X6 : ∀ w ∈ wsX60, w ∈ wsX6_add := by decide +kernel
def f_X6_add_145 : Nat → Int32 → Int32 → Int32 → Int32 → Int32 → Int32 → Int32 → mk_M → Option (Int32 × mk_M)
  | 0, _, _, _, _, _, _, _, _ => none
  | n + 1, l1, l2, l3, l4, l5, l7, l8, M => (if l8 ≤ l7 then (if mk_ob l7 13 then none else (if mk_ob l1 13 then none else (if mk_ob l1 13 then none else (if mk_ob l1 13 then none else (if mk_ob l1 13 then none else ((f_X6_unfit (mk_st (mk_st (mk_st (mk_st (mk_st (mk_st M 75 (l7).toNatClampNeg l1) 68 7 (((mk_st M 75 (l7).toNatClampNeg l1) 68 7) + 1)) 71 (l1).toNatClampNeg l2) 72 (l1).toNatClampNeg l3) 73 (l1).toNatClampNeg l4) 74 (l1).toNatClampNeg l5)).bind (fun r_18 => (if r_18.1 = 0 then (if mk_ob l1 13 then none else (if mk_ob l1 13 then none else (if mk_ob l1 13 then none else (if mk_ob l1 13 then none else (if mk_ob l1 13 then none else (if mk_ob l1 13 then none else (if mk_ob l1 13 then none else (some (0, mk_st (mk_st (mk_st (mk_st (mk_st (mk_st (mk_st r_18.2 69 (l1).toNatClampNeg (vp_nar .boolean 1)) 70 (l1).toNatClampNeg (vp_nar .boolean 0)) 78 (l1).toNatClampNeg 0) 79 (l1).toNatClampNeg 0) 80 (l1).toNatClampNeg 0) 81 (l1).toNatClampNeg 0) 82 (l1).toNatClampNeg 0))))))))) else (if r_18.1 ≤ 0 then ((f_X6_takeOut l1 r_18.2).bind (fun r_29 => (some (r_18.1, r_29)))) else ((f_X6_noteWitness r_18.1 r_18.2).bind (fun r_31 => ((f_X6_takeOut l1 r_31).bind (fun r_33 => (some (r_18.1, r_33))))))))))))))) else (if mk_ob (l8 - 1) 13 then none else (if mk_ob l8 13 then none else (f_X6_add_145 n l1 l2 l3 l4 l5 l7 (l8 + (-1)) (mk_st M 75 (l8).toNatClampNeg (M 75 (l8 - 1).toNatClampNeg))))))
set_option maxHeartbeats 4000000 in
set_option maxRecDepth 100000 in
theorem w_X6_add_145 {p : Program} {l : Launch} {e : Env} {s : State} {m : MethodId} {args : Array Value} {below : List Frame} {meth : Method} {c : Code} {D : va_G} {E : mk_E} {L : Nat → Int64} (C0 : mk_C p s m args meth c cX6_add 9 wsX6_add RX6 (some .int) D E) : ∀ n : Nat, ∀ (l1 : Int32) (l2 : Int32) (l3 : Int32) (l4 : Int32) (l5 : Int32) (l7 : Int32) (l8 : Int32) (M : mk_M) (q : Int32 × mk_M), f_X6_add_145 n l1 l2 l3 l4 l5 l7 l8 M = some q → ∀ (H : Heap) (locs : List Loc) (ls : Array Slot), va_P D vwCl (mk_wl E M L) H → va_S (mk_A E) s.heap H locs → lv_has ls 9 [(0, .ref (E.1 68)), (1, .int l1), (2, .int l2), (3, .int l3), (4, .int l4), (5, .int l5), (7, .int l7), (8, .int l8)] → W p l e rm_X6_add s m args below meth c H locs 0 0 (MQ below (mk_Qi D E L q.1 q.2) args s 0 0 (mk_A E)) (F0 m 145 ls []) := by
  obtain ⟨hx, hb, hml, hown, hts, hr, hlk, hK, hD, hN⟩ := id C0
  intro n
  induction n with
  | zero =>
    intro l1 l2 l3 l4 l5 l7 l8 M q h
    cases h
  | succ n ih =>
    intro l1 l2 l3 l4 l5 l7 l8 M q h H locs ls hP hS hl
    replace h : (if l8 ≤ l7 then (if mk_ob l7 13 then none else (if mk_ob l1 13 then none else (if mk_ob l1 13 then none else (if mk_ob l1 13 then none else (if mk_ob l1 13 then none else ((f_X6_unfit (mk_st (mk_st (mk_st (mk_st (mk_st (mk_st M 75 (l7).toNatClampNeg l1) 68 7 (((mk_st M 75 (l7).toNatClampNeg l1) 68 7) + 1)) 71 (l1).toNatClampNeg l2) 72 (l1).toNatClampNeg l3) 73 (l1).toNatClampNeg l4) 74 (l1).toNatClampNeg l5)).bind (fun r_18 => (if r_18.1 = 0 then (if mk_ob l1 13 then none else (if mk_ob l1 13 then none else (if mk_ob l1 13 then none else (if mk_ob l1 13 then none else (if mk_ob l1 13 then none else (if mk_ob l1 13 then none else (if mk_ob l1 13 then none else (some (0, mk_st (mk_st (mk_st (mk_st (mk_st (mk_st (mk_st r_18.2 69 (l1).toNatClampNeg (vp_nar .boolean 1)) 70 (l1).toNatClampNeg (vp_nar .boolean 0)) 78 (l1).toNatClampNeg 0) 79 (l1).toNatClampNeg 0) 80 (l1).toNatClampNeg 0) 81 (l1).toNatClampNeg 0) 82 (l1).toNatClampNeg 0))))))))) else (if r_18.1 ≤ 0 then ((f_X6_takeOut l1 r_18.2).bind (fun r_29 => (some (r_18.1, r_29)))) else ((f_X6_noteWitness r_18.1 r_18.2).bind (fun r_31 => ((f_X6_takeOut l1 r_31).bind (fun r_33 => (some (r_18.1, r_33))))))))))))))) else (if mk_ob (l8 - 1) 13 then none else (if mk_ob l8 13 then none else (f_X6_add_145 n l1 l2 l3 l4 l5 l7 (l8 + (-1)) (mk_st M 75 (l8).toNatClampNeg (M 75 (l8 - 1).toNatClampNeg)))))) = some q := h
    refine lv_iload hx hb dX6_add_145 (lv_at hl 7 rfl) ?_
    refine lv_iload hx hb dX6_add_147 (lv_at hl 6 rfl) ?_
    refine lv_icmp_le (tgt := 174) hx hb dX6_add_149 (by decide) (fun c_11 => ?_) (fun c_11 => ?_)
    · replace h := (if_pos c_11).symm.trans h
      refine lv_aload_n hx hb dX6_add_174 rfl (lv_at hl 0 rfl) ?_
      refine mk_g6_8 hx hb hts in_X6_add_X6 hown hK hP (by decide) rfl (hts (.fieldLink RX6 29 "MixedKernelModel" "plan" "[I") (by decide +kernel)) dX6_add_175 ?_
      refine lv_iload hx hb dX6_add_178 (lv_at hl 6 rfl) ?_
      refine lv_iload_n hx hb dX6_add_180 rfl (lv_at hl 1 rfl) ?_
      obtain ⟨i_12, h⟩ := mk_ifn h
      refine mk_is hx hb hK hP (hD _ _) hS (by decide) rfl i_12 dX6_add_181 (fun H locs hP hS => ?_)
      refine lv_aload_n hx hb dX6_add_182 rfl (lv_at hl 0 rfl) ?_
      refine lv_dup hx hb dX6_add_183 rfl ?_
      refine mk_g6_7 hx hb hts in_X6_add_X6 hown hK hP (by decide) rfl (hts (.fieldLink RX6 91 "MixedKernelModel" "planned" "I") (by decide +kernel)) dX6_add_184 ?_
      refine lv_iconst (v := 1) hx hb dX6_add_187 (by decide) ?_
      refine lv_iadd hx hb dX6_add_188 ?_
      refine mk_p6_7 hx hb hts in_X6_add_X6 hown hK hP (by decide) rfl (hD _ _) hS (hts (.fieldLink RX6 91 "MixedKernelModel" "planned" "I") (by decide +kernel)) dX6_add_189 (fun H locs hP hS => ?_)
      refine lv_aload_n hx hb dX6_add_192 rfl (lv_at hl 0 rfl) ?_
      refine mk_g6_3 hx hb hts in_X6_add_X6 hown hK hP (by decide) rfl (hts (.fieldLink RX6 16 "MixedKernelModel" "periods" "[I") (by decide +kernel)) dX6_add_193 ?_
      refine lv_iload_n hx hb dX6_add_196 rfl (lv_at hl 1 rfl) ?_
      refine lv_iload_n hx hb dX6_add_197 rfl (lv_at hl 2 rfl) ?_
      obtain ⟨i_13, h⟩ := mk_ifn h
      refine mk_is hx hb hK hP (hD _ _) hS (by decide) rfl i_13 dX6_add_198 (fun H locs hP hS => ?_)
      refine lv_aload_n hx hb dX6_add_199 rfl (lv_at hl 0 rfl) ?_
      refine mk_g6_4 hx hb hts in_X6_add_X6 hown hK hP (by decide) rfl (hts (.fieldLink RX6 20 "MixedKernelModel" "deadlines" "[I") (by decide +kernel)) dX6_add_200 ?_
      refine lv_iload_n hx hb dX6_add_203 rfl (lv_at hl 1 rfl) ?_
      refine lv_iload_n hx hb dX6_add_204 rfl (lv_at hl 3 rfl) ?_
      obtain ⟨i_14, h⟩ := mk_ifn h
      refine mk_is hx hb hK hP (hD _ _) hS (by decide) rfl i_14 dX6_add_205 (fun H locs hP hS => ?_)
      refine lv_aload_n hx hb dX6_add_206 rfl (lv_at hl 0 rfl) ?_
      refine mk_g6_5 hx hb hts in_X6_add_X6 hown hK hP (by decide) rfl (hts (.fieldLink RX6 23 "MixedKernelModel" "lows" "[I") (by decide +kernel)) dX6_add_207 ?_
      refine lv_iload_n hx hb dX6_add_210 rfl (lv_at hl 1 rfl) ?_
      refine lv_iload hx hb dX6_add_211 (lv_at hl 4 rfl) ?_
      obtain ⟨i_15, h⟩ := mk_ifn h
      refine mk_is hx hb hK hP (hD _ _) hS (by decide) rfl i_15 dX6_add_213 (fun H locs hP hS => ?_)
      refine lv_aload_n hx hb dX6_add_214 rfl (lv_at hl 0 rfl) ?_
      refine mk_g6_6 hx hb hts in_X6_add_X6 hown hK hP (by decide) rfl (hts (.fieldLink RX6 26 "MixedKernelModel" "highs" "[I") (by decide +kernel)) dX6_add_215 ?_
      refine lv_iload_n hx hb dX6_add_218 rfl (lv_at hl 1 rfl) ?_
      refine lv_iload hx hb dX6_add_219 (lv_at hl 5 rfl) ?_
      obtain ⟨i_16, h⟩ := mk_ifn h
      refine mk_is hx hb hK hP (hD _ _) hS (by decide) rfl i_16 dX6_add_221 (fun H locs hP hS => ?_)
      refine lv_aload_n hx hb dX6_add_222 rfl (lv_at hl 0 rfl) ?_
      obtain ⟨r_18, e_17, h⟩ := mk_bind h
      refine va_calli (va_runV (As := []) (rest := []) ⟨hx, hb, hml, hown, hts⟩ (c_X6_unfit l D E L  (mk_st (mk_st (mk_st (mk_st (mk_st (mk_st M 75 (l7).toNatClampNeg l1) 68 7 (((mk_st M 75 (l7).toNatClampNeg l1) 68 7) + 1)) 71 (l1).toNatClampNeg l2) 72 (l1).toNatClampNeg l3) 73 (l1).toNatClampNeg l4) 74 (l1).toNatClampNeg l5)  e_17) (cwV 0 hts gX6_add_X6_unfit rfl rfl rfl (by decide +kernel) ⟨Nat.le_of_ble_eq_true rfl, Nat.le_of_ble_eq_true rfl⟩) ⟨mk_W.blind, mk_rc6 hK hP (by decide) rfl, fun U hU hW => ⟨rfl, mk_W.at hU hW hP hK (hD _ _) hN⟩⟩ rfl rfl hl.1 rfl (lv_room (Nat.le_of_ble_eq_true rfl)) dX6_add_223 ⟨Nat.zero_le _, Nat.zero_le _⟩) hS (fun q _ h => h) (fun q h => h) (fun v_34 u t H1 locs ht hvm hw hB hz1 hk1 hS => ?_)
      subst v_34
      rw [ht] at hB
      replace hP := hB
      clear hB hz1 hk1 hvm ht
      generalize H1 = H at hP hS ⊢
      refine lv_istore (lv' := [(8, .int r_18.1), (0, .ref (E.1 68)), (1, .int l1), (2, .int l2), (3, .int l3), (4, .int l4), (5, .int l5), (7, .int l7)]) hx hb dX6_add_226 hl (by decide) rfl (fun ls hl => ?_)
      refine lv_iload hx hb dX6_add_228 (lv_at hl 0 rfl) ?_
      refine lv_if_eq (tgt := 252) hx hb dX6_add_230 (by decide) (fun c_19 => ?_) (fun c_19 => ?_)
      · replace h := (if_pos c_19).symm.trans h
        refine lv_aload_n hx hb dX6_add_252 rfl (lv_at hl 1 rfl) ?_
        refine mk_g6_1 hx hb hts in_X6_add_X6 hown hK hP (by decide) rfl (hts (.fieldLink RX6 7 "MixedKernelModel" "known" "[Z") (by decide +kernel)) dX6_add_253 ?_
        refine lv_iload_n hx hb dX6_add_256 rfl (lv_at hl 2 rfl) ?_
        refine lv_iconst (v := 1) hx hb dX6_add_257 (by decide) ?_
        obtain ⟨i_20, h⟩ := mk_ifn h
        refine mk_zs hx hb hK hP (hD _ _) hS (by decide) rfl i_20 dX6_add_258 (fun H locs hP hS => ?_)
        refine lv_aload_n hx hb dX6_add_259 rfl (lv_at hl 1 rfl) ?_
        refine mk_g6_2 hx hb hts in_X6_add_X6 hown hK hP (by decide) rfl (hts (.fieldLink RX6 13 "MixedKernelModel" "leaving" "[Z") (by decide +kernel)) dX6_add_260 ?_
        refine lv_iload_n hx hb dX6_add_263 rfl (lv_at hl 2 rfl) ?_
        refine lv_iconst (v := 0) hx hb dX6_add_264 (by decide) ?_
        obtain ⟨i_21, h⟩ := mk_ifn h
        refine mk_zs hx hb hK hP (hD _ _) hS (by decide) rfl i_21 dX6_add_265 (fun H locs hP hS => ?_)
        refine lv_aload_n hx hb dX6_add_266 rfl (lv_at hl 1 rfl) ?_
        refine mk_g6_12 hx hb hts in_X6_add_X6 hown hK hP (by decide) rfl (hts (.fieldLink RX6 38 "MixedKernelModel" "jobs" "[I") (by decide +kernel)) dX6_add_267 ?_
        refine lv_iload_n hx hb dX6_add_270 rfl (lv_at hl 2 rfl) ?_
        refine lv_iconst (v := 0) hx hb dX6_add_271 (by decide) ?_
        obtain ⟨i_22, h⟩ := mk_ifn h
        refine mk_is hx hb hK hP (hD _ _) hS (by decide) rfl i_22 dX6_add_272 (fun H locs hP hS => ?_)
        refine lv_aload_n hx hb dX6_add_273 rfl (lv_at hl 1 rfl) ?_
        refine mk_g6_13 hx hb hts in_X6_add_X6 hown hK hP (by decide) rfl (hts (.fieldLink RX6 41 "MixedKernelModel" "drops" "[I") (by decide +kernel)) dX6_add_274 ?_
        refine lv_iload_n hx hb dX6_add_277 rfl (lv_at hl 2 rfl) ?_
        refine lv_iconst (v := 0) hx hb dX6_add_278 (by decide) ?_
        obtain ⟨i_23, h⟩ := mk_ifn h
        refine mk_is hx hb hK hP (hD _ _) hS (by decide) rfl i_23 dX6_add_279 (fun H locs hP hS => ?_)
        refine lv_aload_n hx hb dX6_add_280 rfl (lv_at hl 1 rfl) ?_
        refine mk_g6_14 hx hb hts in_X6_add_X6 hown hK hP (by decide) rfl (hts (.fieldLink RX6 44 "MixedKernelModel" "charged" "[I") (by decide +kernel)) dX6_add_281 ?_
        refine lv_iload_n hx hb dX6_add_284 rfl (lv_at hl 2 rfl) ?_
        refine lv_iconst (v := 0) hx hb dX6_add_285 (by decide) ?_
        obtain ⟨i_24, h⟩ := mk_ifn h
        refine mk_is hx hb hK hP (hD _ _) hS (by decide) rfl i_24 dX6_add_286 (fun H locs hP hS => ?_)
        refine lv_aload_n hx hb dX6_add_287 rfl (lv_at hl 1 rfl) ?_
        refine mk_g6_15 hx hb hts in_X6_add_X6 hown hK hP (by decide) rfl (hts (.fieldLink RX6 47 "MixedKernelModel" "lates" "[I") (by decide +kernel)) dX6_add_288 ?_
        refine lv_iload_n hx hb dX6_add_291 rfl (lv_at hl 2 rfl) ?_
        refine lv_iconst (v := 0) hx hb dX6_add_292 (by decide) ?_
        obtain ⟨i_25, h⟩ := mk_ifn h
        refine mk_is hx hb hK hP (hD _ _) hS (by decide) rfl i_25 dX6_add_293 (fun H locs hP hS => ?_)
        refine lv_aload_n hx hb dX6_add_294 rfl (lv_at hl 1 rfl) ?_
        refine mk_g6_16 hx hb hts in_X6_add_X6 hown hK hP (by decide) rfl (hts (.fieldLink RX6 50 "MixedKernelModel" "nexts" "[I") (by decide +kernel)) dX6_add_295 ?_
        refine lv_iload_n hx hb dX6_add_298 rfl (lv_at hl 2 rfl) ?_
        refine lv_iconst (v := 0) hx hb dX6_add_299 (by decide) ?_
        obtain ⟨i_26, h⟩ := mk_ifn h
        refine mk_is hx hb hK hP (hD _ _) hS (by decide) rfl i_26 dX6_add_300 (fun H locs hP hS => ?_)
        refine lv_iconst (v := 0) hx hb dX6_add_301 (by decide) ?_
        replace h := Option.some.inj h
        subst q
        exact W.iret (v := 0) hx hb hr (fun t ht hW => ⟨⟨_, (), rfl, rfl, by rw [← ht] at hP; exact hP⟩, hS.F ht⟩) hS.2.2 dX6_add_302
      · replace h := (if_neg c_19).symm.trans h
        refine lv_iload hx hb dX6_add_233 (lv_at hl 0 rfl) ?_
        refine lv_if_le (tgt := 244) hx hb dX6_add_235 (by decide) (fun c_27 => ?_) (fun c_27 => ?_)
        · replace h := (if_pos c_27).symm.trans h
          refine lv_aload_n hx hb dX6_add_244 rfl (lv_at hl 1 rfl) ?_
          refine lv_iload_n hx hb dX6_add_245 rfl (lv_at hl 2 rfl) ?_
          obtain ⟨r_29, e_28, h⟩ := mk_bind h
          refine va_callv (va_runV (As := [.int l1]) (rest := []) ⟨hx, hb, hml, hown, hts⟩ (c_X6_takeOut l D E L l1 r_18.2  e_28) (cwV 1 hts gX6_add_X6_takeOut rfl rfl rfl (by decide +kernel) ⟨Nat.le_of_ble_eq_true rfl, Nat.le_of_ble_eq_true rfl⟩) ⟨mk_W.blind, mk_rc6 hK hP (by decide) rfl, fun U hU hW => ⟨rfl, mk_W.at hU hW hP hK (hD _ _) hN⟩⟩ rfl rfl hl.1 rfl (lv_room (Nat.le_of_ble_eq_true rfl)) dX6_add_246 ⟨Nat.zero_le _, Nat.zero_le _⟩) hS (fun q _ h => h) (fun q h => h) (fun u t H1 locs ht hvm hw hB hz1 hk1 hS => ?_)
          rw [ht] at hB
          replace hP := hB
          clear hB hz1 hk1 hvm ht
          generalize H1 = H at hP hS ⊢
          refine lv_iload hx hb dX6_add_249 (lv_at hl 0 rfl) ?_
          replace h := Option.some.inj h
          subst q
          exact W.iret (v := r_18.1) hx hb hr (fun t ht hW => ⟨⟨_, (), rfl, rfl, by rw [← ht] at hP; exact hP⟩, hS.F ht⟩) hS.2.2 dX6_add_251
        · replace h := (if_neg c_27).symm.trans h
          refine lv_aload_n hx hb dX6_add_238 rfl (lv_at hl 1 rfl) ?_
          refine lv_iload hx hb dX6_add_239 (lv_at hl 0 rfl) ?_
          obtain ⟨r_31, e_30, h⟩ := mk_bind h
          refine va_callv (va_runV (As := [.int r_18.1]) (rest := []) ⟨hx, hb, hml, hown, hts⟩ (c_X6_noteWitness l D E L r_18.1 r_18.2  e_30) (cwV 1 hts gX6_add_X6_noteWitness rfl rfl rfl (by decide +kernel) ⟨Nat.le_of_ble_eq_true rfl, Nat.le_of_ble_eq_true rfl⟩) ⟨mk_W.blind, mk_rc6 hK hP (by decide) rfl, fun U hU hW => ⟨rfl, mk_W.at hU hW hP hK (hD _ _) hN⟩⟩ rfl rfl hl.1 rfl (lv_room (Nat.le_of_ble_eq_true rfl)) dX6_add_241 ⟨Nat.zero_le _, Nat.zero_le _⟩) hS (fun q _ h => h) (fun q h => h) (fun u t H1 locs ht hvm hw hB hz1 hk1 hS => ?_)
          rw [ht] at hB
          replace hP := hB
          clear hB hz1 hk1 hvm ht
          generalize H1 = H at hP hS ⊢
          refine lv_aload_n hx hb dX6_add_244 rfl (lv_at hl 1 rfl) ?_
          refine lv_iload_n hx hb dX6_add_245 rfl (lv_at hl 2 rfl) ?_
          obtain ⟨r_33, e_32, h⟩ := mk_bind h
          refine va_callv (va_runV (As := [.int l1]) (rest := []) ⟨hx, hb, hml, hown, hts⟩ (c_X6_takeOut l D E L l1 r_31  e_32) (cwV 1 hts gX6_add_X6_takeOut rfl rfl rfl (by decide +kernel) ⟨Nat.le_of_ble_eq_true rfl, Nat.le_of_ble_eq_true rfl⟩) ⟨mk_W.blind, mk_rc6 hK hP (by decide) rfl, fun U hU hW => ⟨rfl, mk_W.at hU hW hP hK (hD _ _) hN⟩⟩ rfl rfl hl.1 rfl (lv_room (Nat.le_of_ble_eq_true rfl)) dX6_add_246 ⟨Nat.zero_le _, Nat.zero_le _⟩) hS (fun q _ h => h) (fun q h => h) (fun u t H1 locs ht hvm hw hB hz1 hk1 hS => ?_)
          rw [ht] at hB
          replace hP := hB
          clear hB hz1 hk1 hvm ht
          generalize H1 = H at hP hS ⊢
          refine lv_iload hx hb dX6_add_249 (lv_at hl 0 rfl) ?_
          replace h := Option.some.inj h
          subst q
          exact W.iret (v := r_18.1) hx hb hr (fun t ht hW => ⟨⟨_, (), rfl, rfl, by rw [← ht] at hP; exact hP⟩, hS.F ht⟩) hS.2.2 dX6_add_251
    · replace h := (if_neg c_11).symm.trans h
      refine lv_aload_n hx hb dX6_add_152 rfl (lv_at hl 0 rfl) ?_
      refine mk_g6_8 hx hb hts in_X6_add_X6 hown hK hP (by decide) rfl (hts (.fieldLink RX6 29 "MixedKernelModel" "plan" "[I") (by decide +kernel)) dX6_add_153 ?_
      refine lv_iload hx hb dX6_add_156 (lv_at hl 7 rfl) ?_
      refine lv_aload_n hx hb dX6_add_158 rfl (lv_at hl 0 rfl) ?_
      refine mk_g6_8 hx hb hts in_X6_add_X6 hown hK hP (by decide) rfl (hts (.fieldLink RX6 29 "MixedKernelModel" "plan" "[I") (by decide +kernel)) dX6_add_159 ?_
      refine lv_iload hx hb dX6_add_162 (lv_at hl 7 rfl) ?_
      refine lv_iconst (v := 1) hx hb dX6_add_164 (by decide) ?_
      refine lv_isub hx hb dX6_add_165 ?_
      obtain ⟨i_35, h⟩ := mk_ifn h
      refine mk_ia hx hb hK hP (by decide) rfl i_35 dX6_add_166 ?_
      obtain ⟨i_36, h⟩ := mk_ifn h
      refine mk_is hx hb hK hP (hD _ _) hS (by decide) rfl i_36 dX6_add_167 (fun H locs hP hS => ?_)
      refine lv_iinc (v := l8 + (-1)) (lv' := [(8, .int (l8 + (-1))), (0, .ref (E.1 68)), (1, .int l1), (2, .int l2), (3, .int l3), (4, .int l4), (5, .int l5), (7, .int l7)]) hx hb dX6_add_168 hl (k := 7) rfl rfl (by decide) rfl (fun ls hl => ?_)
      refine lv_goto (tgt := 145) hx hb dX6_add_171 (by decide) ?_
      exact ih l1 l2 l3 l4 l5 l7 (l8 + (-1)) (mk_st M 75 (l8).toNatClampNeg (M 75 (l8 - 1).toNatClampNeg)) _ h _ _ _ hP hS (lv_sub hl [1, 2, 3, 4, 5, 6, 7, 0] rfl)
def f_X6_add_97 : Nat → Int32 → Int32 → Int32 → Int32 → Int32 → Int32 → Int32 → mk_M → Option (Int32 × mk_M)
  | 0, _, _, _, _, _, _, _, _ => none
  | n + 1, l1, l2, l3, l4, l5, l7, l8, M => (if (M 68 7) ≤ l8 then (f_X6_add_145 mk_F l1 l2 l3 l4 l5 l7 (M 68 7) M) else (if mk_ob l8 13 then none else (if mk_ob (M 75 (l8).toNatClampNeg) 13 then none else (if l3 < (M 72 (M 75 (l8).toNatClampNeg).toNatClampNeg) then (f_X6_add_97 n l1 l2 l3 l4 l5 l7 (l8 + 1) M) else (f_X6_add_97 n l1 l2 l3 l4 l5 (l8 + 1) (l8 + 1) M)))))
set_option maxHeartbeats 4000000 in
set_option maxRecDepth 100000 in
theorem w_X6_add_97 {p : Program} {l : Launch} {e : Env} {s : State} {m : MethodId} {args : Array Value} {below : List Frame} {meth : Method} {c : Code} {D : va_G} {E : mk_E} {L : Nat → Int64} (C0 : mk_C p s m args meth c cX6_add 9 wsX6_add RX6 (some .int) D E) : ∀ n : Nat, ∀ (l1 : Int32) (l2 : Int32) (l3 : Int32) (l4 : Int32) (l5 : Int32) (l7 : Int32) (l8 : Int32) (M : mk_M) (q : Int32 × mk_M), f_X6_add_97 n l1 l2 l3 l4 l5 l7 l8 M = some q → ∀ (H : Heap) (locs : List Loc) (ls : Array Slot), va_P D vwCl (mk_wl E M L) H → va_S (mk_A E) s.heap H locs → lv_has ls 9 [(0, .ref (E.1 68)), (1, .int l1), (2, .int l2), (3, .int l3), (4, .int l4), (5, .int l5), (7, .int l7), (8, .int l8)] → W p l e rm_X6_add s m args below meth c H locs 0 0 (MQ below (mk_Qi D E L q.1 q.2) args s 0 0 (mk_A E)) (F0 m 97 ls []) := by
  obtain ⟨hx, hb, hml, hown, hts, hr, hlk, hK, hD, hN⟩ := id C0
  intro n
  induction n with
  | zero =>
    intro l1 l2 l3 l4 l5 l7 l8 M q h
    cases h
  | succ n ih =>
    intro l1 l2 l3 l4 l5 l7 l8 M q h H locs ls hP hS hl
    replace h : (if (M 68 7) ≤ l8 then (f_X6_add_145 mk_F l1 l2 l3 l4 l5 l7 (M 68 7) M) else (if mk_ob l8 13 then none else (if mk_ob (M 75 (l8).toNatClampNeg) 13 then none else (if l3 < (M 72 (M 75 (l8).toNatClampNeg).toNatClampNeg) then (f_X6_add_97 n l1 l2 l3 l4 l5 l7 (l8 + 1) M) else (f_X6_add_97 n l1 l2 l3 l4 l5 (l8 + 1) (l8 + 1) M))))) = some q := h
    refine lv_iload hx hb dX6_add_97 (lv_at hl 7 rfl) ?_
    refine lv_aload_n hx hb dX6_add_99 rfl (lv_at hl 0 rfl) ?_
    refine mk_g6_7 hx hb hts in_X6_add_X6 hown hK hP (by decide) rfl (hts (.fieldLink RX6 91 "MixedKernelModel" "planned" "I") (by decide +kernel)) dX6_add_100 ?_
    refine lv_icmp_ge (tgt := 139) hx hb dX6_add_103 (by decide) (fun c_10 => ?_) (fun c_10 => ?_)
    · replace h := (if_pos c_10).symm.trans h
      refine lv_aload_n hx hb dX6_add_139 rfl (lv_at hl 0 rfl) ?_
      refine mk_g6_7 hx hb hts in_X6_add_X6 hown hK hP (by decide) rfl (hts (.fieldLink RX6 91 "MixedKernelModel" "planned" "I") (by decide +kernel)) dX6_add_140 ?_
      refine lv_istore (lv' := [(8, .int (M 68 7)), (0, .ref (E.1 68)), (1, .int l1), (2, .int l2), (3, .int l3), (4, .int l4), (5, .int l5), (7, .int l7)]) hx hb dX6_add_143 hl (by decide) rfl (fun ls hl => ?_)
      exact w_X6_add_145 C0 mk_F l1 l2 l3 l4 l5 l7 (M 68 7) M _ h _ _ _ hP hS (lv_sub hl [1, 2, 3, 4, 5, 6, 7, 0] rfl)
    · replace h := (if_neg c_10).symm.trans h
      refine lv_aload_n hx hb dX6_add_106 rfl (lv_at hl 0 rfl) ?_
      refine mk_g6_4 hx hb hts in_X6_add_X6 hown hK hP (by decide) rfl (hts (.fieldLink RX6 20 "MixedKernelModel" "deadlines" "[I") (by decide +kernel)) dX6_add_107 ?_
      refine lv_aload_n hx hb dX6_add_110 rfl (lv_at hl 0 rfl) ?_
      refine mk_g6_8 hx hb hts in_X6_add_X6 hown hK hP (by decide) rfl (hts (.fieldLink RX6 29 "MixedKernelModel" "plan" "[I") (by decide +kernel)) dX6_add_111 ?_
      refine lv_iload hx hb dX6_add_114 (lv_at hl 7 rfl) ?_
      obtain ⟨i_37, h⟩ := mk_ifn h
      refine mk_ia hx hb hK hP (by decide) rfl i_37 dX6_add_116 ?_
      obtain ⟨i_38, h⟩ := mk_ifn h
      refine mk_ia hx hb hK hP (by decide) rfl i_38 dX6_add_117 ?_
      refine lv_iload_n hx hb dX6_add_118 rfl (lv_at hl 3 rfl) ?_
      refine lv_icmp_gt (tgt := 129) hx hb dX6_add_119 (by decide) (fun c_39 => ?_) (fun c_39 => ?_)
      · replace h := (if_pos c_39).symm.trans h
        refine lv_iload hx hb dX6_add_129 (lv_at hl 6 rfl) ?_
        refine lv_istore (lv' := [(7, .int l7), (0, .ref (E.1 68)), (1, .int l1), (2, .int l2), (3, .int l3), (4, .int l4), (5, .int l5), (8, .int l8)]) hx hb dX6_add_131 hl (by decide) rfl (fun ls hl => ?_)
        refine lv_iinc (v := l8 + 1) (lv' := [(8, .int (l8 + 1)), (7, .int l7), (0, .ref (E.1 68)), (1, .int l1), (2, .int l2), (3, .int l3), (4, .int l4), (5, .int l5)]) hx hb dX6_add_133 hl (k := 7) rfl rfl (by decide) rfl (fun ls hl => ?_)
        refine lv_goto (tgt := 97) hx hb dX6_add_136 (by decide) ?_
        exact ih l1 l2 l3 l4 l5 l7 (l8 + 1) M _ h _ _ _ hP hS (lv_sub hl [2, 3, 4, 5, 6, 7, 1, 0] rfl)
      · replace h := (if_neg c_39).symm.trans h
        refine lv_iload hx hb dX6_add_122 (lv_at hl 7 rfl) ?_
        refine lv_iconst (v := 1) hx hb dX6_add_124 (by decide) ?_
        refine lv_iadd hx hb dX6_add_125 ?_
        refine lv_goto (tgt := 131) hx hb dX6_add_126 (by decide) ?_
        refine lv_istore (lv' := [(7, .int (l8 + 1)), (0, .ref (E.1 68)), (1, .int l1), (2, .int l2), (3, .int l3), (4, .int l4), (5, .int l5), (8, .int l8)]) hx hb dX6_add_131 hl (by decide) rfl (fun ls hl => ?_)
        refine lv_iinc (v := l8 + 1) (lv' := [(8, .int (l8 + 1)), (7, .int (l8 + 1)), (0, .ref (E.1 68)), (1, .int l1), (2, .int l2), (3, .int l3), (4, .int l4), (5, .int l5)]) hx hb dX6_add_133 hl (k := 7) rfl rfl (by decide) rfl (fun ls hl => ?_)
        refine lv_goto (tgt := 97) hx hb dX6_add_136 (by decide) ?_
        exact ih l1 l2 l3 l4 l5 (l8 + 1) (l8 + 1) M _ h _ _ _ hP hS (lv_sub hl [2, 3, 4, 5, 6, 7, 1, 0] rfl)
def f_X6_add_64 (l1 : Int32) (l2 : Int32) (l3 : Int32) (l4 : Int32) (l5 : Int32) (s0 : Int32) (M : mk_M) : Option (Int32 × mk_M) := ((f_X6_isKnown l1 M).bind (fun r_5 => (if r_5 = 0 then ((f_X6_goes s0 1 1 M).bind (fun r_42 => (if r_42.1 = 0 then (some (0, r_42.2)) else (f_X6_add_97 mk_F l1 l2 l3 l4 l5 0 0 r_42.2)))) else ((f_X6_goes s0 0 1 M).bind (fun r_8 => (if r_8.1 = 0 then (some (0, r_8.2)) else (f_X6_add_97 mk_F l1 l2 l3 l4 l5 0 0 r_8.2)))))))
set_option maxHeartbeats 4000000 in
set_option maxRecDepth 100000 in
theorem w_X6_add_64 {p : Program} {l : Launch} {e : Env} {s : State} {m : MethodId} {args : Array Value} {below : List Frame} {meth : Method} {c : Code} {D : va_G} {E : mk_E} {L : Nat → Int64} (C0 : mk_C p s m args meth c cX6_add 9 wsX6_add RX6 (some .int) D E) : ∀ (l1 : Int32) (l2 : Int32) (l3 : Int32) (l4 : Int32) (l5 : Int32) (s0 : Int32) (M : mk_M) (q : Int32 × mk_M), f_X6_add_64 l1 l2 l3 l4 l5 s0 M = some q → ∀ (H : Heap) (locs : List Loc) (ls : Array Slot), va_P D vwCl (mk_wl E M L) H → va_S (mk_A E) s.heap H locs → lv_has ls 9 [(0, .ref (E.1 68)), (1, .int l1), (2, .int l2), (3, .int l3), (4, .int l4), (5, .int l5)] → W p l e rm_X6_add s m args below meth c H locs 0 0 (MQ below (mk_Qi D E L q.1 q.2) args s 0 0 (mk_A E)) (F0 m 64 ls [.int s0]) := by
  obtain ⟨hx, hb, hml, hown, hts, hr, hlk, hK, hD, hN⟩ := id C0
  intro l1 l2 l3 l4 l5 s0 M q h H locs ls hP hS hl
  replace h : ((f_X6_isKnown l1 M).bind (fun r_5 => (if r_5 = 0 then ((f_X6_goes s0 1 1 M).bind (fun r_42 => (if r_42.1 = 0 then (some (0, r_42.2)) else (f_X6_add_97 mk_F l1 l2 l3 l4 l5 0 0 r_42.2)))) else ((f_X6_goes s0 0 1 M).bind (fun r_8 => (if r_8.1 = 0 then (some (0, r_8.2)) else (f_X6_add_97 mk_F l1 l2 l3 l4 l5 0 0 r_8.2))))))) = some q := h
  refine lv_istore (lv' := [(6, .int s0), (0, .ref (E.1 68)), (1, .int l1), (2, .int l2), (3, .int l3), (4, .int l4), (5, .int l5)]) hx hb dX6_add_64 hl (by decide) rfl (fun ls hl => ?_)
  refine lv_aload_n hx hb dX6_add_66 rfl (lv_at hl 1 rfl) ?_
  refine lv_iload hx hb dX6_add_67 (lv_at hl 0 rfl) ?_
  refine lv_aload_n hx hb dX6_add_69 rfl (lv_at hl 1 rfl) ?_
  refine lv_iload_n hx hb dX6_add_70 rfl (lv_at hl 2 rfl) ?_
  obtain ⟨r_5, e_4, h⟩ := mk_bind h
  refine va_calli (va_runV (As := [.int l1]) (rest := [.int s0, .ref (E.1 68)]) ⟨hx, hb, hml, hown, hts⟩ (c_X6_isKnown l D E L l1 M  e_4) (cwV 1 hts gX6_add_X6_isKnown rfl rfl rfl (by decide +kernel) ⟨Nat.le_of_ble_eq_true rfl, Nat.le_of_ble_eq_true rfl⟩) ⟨mk_W.blind, mk_rc6 hK hP (by decide) rfl, fun U hU hW => ⟨rfl, mk_W.at hU hW hP hK (hD _ _) hN⟩⟩ rfl rfl hl.1 rfl (lv_room (Nat.le_of_ble_eq_true rfl)) dX6_add_71 ⟨Nat.zero_le _, Nat.zero_le _⟩) hS (fun q _ h => h) (fun q h => h) (fun v_45 u t H1 locs ht hvm hw hB hz1 hk1 hS => ?_)
  subst v_45
  rw [ht] at hB
  replace hP := hB
  clear hB hz1 hk1 hvm ht
  generalize H1 = H at hP hS ⊢
  refine lv_if_ne (tgt := 81) hx hb dX6_add_74 (by decide) (fun c_6 => ?_) (fun c_6 => ?_)
  · replace h := (if_neg c_6).symm.trans h
    refine lv_iconst (v := 0) hx hb dX6_add_81 (by decide) ?_
    refine lv_iconst (v := 1) hx hb dX6_add_82 (by decide) ?_
    obtain ⟨r_8, e_7, h⟩ := mk_bind h
    refine va_calli (va_runV (As := [.int s0, .int 0, .int 1]) (rest := []) ⟨hx, hb, hml, hown, hts⟩ (c_X6_goes l D E L s0 0 1 M  e_7) (cwV 3 hts gX6_add_X6_goes rfl rfl rfl (by decide +kernel) ⟨Nat.le_of_ble_eq_true rfl, Nat.le_of_ble_eq_true rfl⟩) ⟨mk_W.blind, mk_rc6 hK hP (by decide) rfl, fun U hU hW => ⟨rfl, mk_W.at hU hW hP hK (hD _ _) hN⟩⟩ rfl rfl hl.1 rfl (lv_room (Nat.le_of_ble_eq_true rfl)) dX6_add_83 ⟨Nat.zero_le _, Nat.zero_le _⟩) hS (fun q _ h => h) (fun q h => h) (fun v_40 u t H1 locs ht hvm hw hB hz1 hk1 hS => ?_)
    subst v_40
    rw [ht] at hB
    replace hP := hB
    clear hB hz1 hk1 hvm ht
    generalize H1 = H at hP hS ⊢
    refine lv_if_ne (tgt := 91) hx hb dX6_add_86 (by decide) (fun c_9 => ?_) (fun c_9 => ?_)
    · replace h := (if_neg c_9).symm.trans h
      refine lv_iconst (v := 0) hx hb dX6_add_91 (by decide) ?_
      refine lv_istore (lv' := [(7, .int 0), (6, .int s0), (0, .ref (E.1 68)), (1, .int l1), (2, .int l2), (3, .int l3), (4, .int l4), (5, .int l5)]) hx hb dX6_add_92 hl (by decide) rfl (fun ls hl => ?_)
      refine lv_iconst (v := 0) hx hb dX6_add_94 (by decide) ?_
      refine lv_istore (lv' := [(8, .int 0), (7, .int 0), (6, .int s0), (0, .ref (E.1 68)), (1, .int l1), (2, .int l2), (3, .int l3), (4, .int l4), (5, .int l5)]) hx hb dX6_add_95 hl (by decide) rfl (fun ls hl => ?_)
      exact w_X6_add_97 C0 mk_F l1 l2 l3 l4 l5 0 0 r_8.2 _ h _ _ _ hP hS (lv_sub hl [3, 4, 5, 6, 7, 8, 1, 0] rfl)
    · replace h := (if_pos c_9).symm.trans h
      refine lv_iconst (v := 0) hx hb dX6_add_89 (by decide) ?_
      replace h := Option.some.inj h
      subst q
      exact W.iret (v := 0) hx hb hr (fun t ht hW => ⟨⟨_, (), rfl, rfl, by rw [← ht] at hP; exact hP⟩, hS.F ht⟩) hS.2.2 dX6_add_90
  · replace h := (if_pos c_6).symm.trans h
    refine lv_iconst (v := 1) hx hb dX6_add_77 (by decide) ?_
    refine lv_goto (tgt := 82) hx hb dX6_add_78 (by decide) ?_
    refine lv_iconst (v := 1) hx hb dX6_add_82 (by decide) ?_
    obtain ⟨r_42, e_41, h⟩ := mk_bind h
    refine va_calli (va_runV (As := [.int s0, .int 1, .int 1]) (rest := []) ⟨hx, hb, hml, hown, hts⟩ (c_X6_goes l D E L s0 1 1 M  e_41) (cwV 3 hts gX6_add_X6_goes rfl rfl rfl (by decide +kernel) ⟨Nat.le_of_ble_eq_true rfl, Nat.le_of_ble_eq_true rfl⟩) ⟨mk_W.blind, mk_rc6 hK hP (by decide) rfl, fun U hU hW => ⟨rfl, mk_W.at hU hW hP hK (hD _ _) hN⟩⟩ rfl rfl hl.1 rfl (lv_room (Nat.le_of_ble_eq_true rfl)) dX6_add_83 ⟨Nat.zero_le _, Nat.zero_le _⟩) hS (fun q _ h => h) (fun q h => h) (fun v_44 u t H1 locs ht hvm hw hB hz1 hk1 hS => ?_)
    subst v_44
    rw [ht] at hB
    replace hP := hB
    clear hB hz1 hk1 hvm ht
    generalize H1 = H at hP hS ⊢
    refine lv_if_ne (tgt := 91) hx hb dX6_add_86 (by decide) (fun c_43 => ?_) (fun c_43 => ?_)
    · replace h := (if_neg c_43).symm.trans h
      refine lv_iconst (v := 0) hx hb dX6_add_91 (by decide) ?_
      refine lv_istore (lv' := [(7, .int 0), (6, .int s0), (0, .ref (E.1 68)), (1, .int l1), (2, .int l2), (3, .int l3), (4, .int l4), (5, .int l5)]) hx hb dX6_add_92 hl (by decide) rfl (fun ls hl => ?_)
      refine lv_iconst (v := 0) hx hb dX6_add_94 (by decide) ?_
      refine lv_istore (lv' := [(8, .int 0), (7, .int 0), (6, .int s0), (0, .ref (E.1 68)), (1, .int l1), (2, .int l2), (3, .int l3), (4, .int l4), (5, .int l5)]) hx hb dX6_add_95 hl (by decide) rfl (fun ls hl => ?_)
      exact w_X6_add_97 C0 mk_F l1 l2 l3 l4 l5 0 0 r_42.2 _ h _ _ _ hP hS (lv_sub hl [3, 4, 5, 6, 7, 8, 1, 0] rfl)
    · replace h := (if_pos c_43).symm.trans h
      refine lv_iconst (v := 0) hx hb dX6_add_89 (by decide) ?_
      replace h := Option.some.inj h
      subst q
      exact W.iret (v := 0) hx hb hr (fun t ht hW => ⟨⟨_, (), rfl, rfl, by rw [← ht] at hP; exact hP⟩, hS.F ht⟩) hS.2.2 dX6_add_90
def f_X6_add_63 (l1 : Int32) (l2 : Int32) (l3 : Int32) (l4 : Int32) (l5 : Int32) (M : mk_M) : Option (Int32 × mk_M) := (f_X6_add_64 l1 l2 l3 l4 l5 0 M)
set_option maxHeartbeats 4000000 in
set_option maxRecDepth 100000 in
theorem w_X6_add_63 {p : Program} {l : Launch} {e : Env} {s : State} {m : MethodId} {args : Array Value} {below : List Frame} {meth : Method} {c : Code} {D : va_G} {E : mk_E} {L : Nat → Int64} (C0 : mk_C p s m args meth c cX6_add 9 wsX6_add RX6 (some .int) D E) : ∀ (l1 : Int32) (l2 : Int32) (l3 : Int32) (l4 : Int32) (l5 : Int32) (M : mk_M) (q : Int32 × mk_M), f_X6_add_63 l1 l2 l3 l4 l5 M = some q → ∀ (H : Heap) (locs : List Loc) (ls : Array Slot), va_P D vwCl (mk_wl E M L) H → va_S (mk_A E) s.heap H locs → lv_has ls 9 [(0, .ref (E.1 68)), (1, .int l1), (2, .int l2), (3, .int l3), (4, .int l4), (5, .int l5)] → W p l e rm_X6_add s m args below meth c H locs 0 0 (MQ below (mk_Qi D E L q.1 q.2) args s 0 0 (mk_A E)) (F0 m 63 ls []) := by
  obtain ⟨hx, hb, hml, hown, hts, hr, hlk, hK, hD, hN⟩ := id C0
  intro l1 l2 l3 l4 l5 M q h H locs ls hP hS hl
  replace h : (f_X6_add_64 l1 l2 l3 l4 l5 0 M) = some q := h
  refine lv_iconst (v := 0) hx hb dX6_add_63 (by decide) ?_
  exact w_X6_add_64 C0 l1 l2 l3 l4 l5 0 M _ h _ _ _ hP hS (lv_sub hl [0, 1, 2, 3, 4, 5] rfl)
def f_X6_add_59 (l1 : Int32) (l2 : Int32) (l3 : Int32) (l4 : Int32) (l5 : Int32) (M : mk_M) : Option (Int32 × mk_M) := (f_X6_add_64 l1 l2 l3 l4 l5 1 M)
set_option maxHeartbeats 4000000 in
set_option maxRecDepth 100000 in
theorem w_X6_add_59 {p : Program} {l : Launch} {e : Env} {s : State} {m : MethodId} {args : Array Value} {below : List Frame} {meth : Method} {c : Code} {D : va_G} {E : mk_E} {L : Nat → Int64} (C0 : mk_C p s m args meth c cX6_add 9 wsX6_add RX6 (some .int) D E) : ∀ (l1 : Int32) (l2 : Int32) (l3 : Int32) (l4 : Int32) (l5 : Int32) (M : mk_M) (q : Int32 × mk_M), f_X6_add_59 l1 l2 l3 l4 l5 M = some q → ∀ (H : Heap) (locs : List Loc) (ls : Array Slot), va_P D vwCl (mk_wl E M L) H → va_S (mk_A E) s.heap H locs → lv_has ls 9 [(0, .ref (E.1 68)), (1, .int l1), (2, .int l2), (3, .int l3), (4, .int l4), (5, .int l5)] → W p l e rm_X6_add s m args below meth c H locs 0 0 (MQ below (mk_Qi D E L q.1 q.2) args s 0 0 (mk_A E)) (F0 m 59 ls []) := by
  obtain ⟨hx, hb, hml, hown, hts, hr, hlk, hK, hD, hN⟩ := id C0
  intro l1 l2 l3 l4 l5 M q h H locs ls hP hS hl
  replace h : (f_X6_add_64 l1 l2 l3 l4 l5 1 M) = some q := h
  refine lv_iconst (v := 1) hx hb dX6_add_59 (by decide) ?_
  refine lv_goto (tgt := 64) hx hb dX6_add_60 (by decide) ?_
  exact w_X6_add_64 C0 l1 l2 l3 l4 l5 1 M _ h _ _ _ hP hS (lv_sub hl [0, 1, 2, 3, 4, 5] rfl)
def f_X6_add (a1 : Int32) (a2 : Int32) (a3 : Int32) (a4 : Int32) (a5 : Int32) (M : mk_M) : Option (Int32 × mk_M) := ((f_X6_within a1 1 12 M).bind (fun r_2 => (if r_2 = 0 then (f_X6_add_63 a1 a2 a3 a4 a5 M) else ((f_X6_within a2 1 1000 M).bind (fun r_47 => (if r_47 = 0 then (f_X6_add_63 a1 a2 a3 a4 a5 M) else ((f_X6_within a3 1 a2 M).bind (fun r_50 => (if r_50 = 0 then (f_X6_add_63 a1 a2 a3 a4 a5 M) else ((f_X6_within a4 1 100 M).bind (fun r_53 => (if r_53 = 0 then (f_X6_add_63 a1 a2 a3 a4 a5 M) else (if a5 = 0 then (f_X6_add_59 a1 a2 a3 a4 a5 M) else ((f_X6_within a5 a4 200 M).bind (fun r_57 => (if r_57 = 0 then (f_X6_add_63 a1 a2 a3 a4 a5 M) else (f_X6_add_59 a1 a2 a3 a4 a5 M)))))))))))))))))
set_option maxHeartbeats 4000000 in
set_option maxRecDepth 100000 in
theorem c_X6_add (l : Launch) (D : va_G) (E : mk_E) (L : Nat → Int64) (a1 : Int32) (a2 : Int32) (a3 : Int32) (a4 : Int32) (a5 : Int32) (M : mk_M) {q : Int32 × mk_M} (h : f_X6_add a1 a2 a3 a4 a5 M = some q) : Met l yX6_add wsX6_add rm_X6_add (va_Pc [.ref (E.1 68), .int a1, .int a2, .int a3, .int a4, .int a5] (mk_W D E M L)) (mk_Qi D E L q.1 q.2) 0 0 (mk_A E) := by
  refine Met.ofW (cc := cX6_add) (maxL := 9) (ret := (some .int)) (by decide) rfl ?_
  intro p e s m args below meth c s₁ B hml hv
  obtain ⟨rfl, hP, hK, hD0, hN⟩ := hv
  have hx := B.exec
  have hb := B.bytes
  have hr := B.returns
  have hts := atoms_spec (ws := wsX6_add) B.pre
  have hown : s.vm.findClass RX6 = some m.cls := findClass_of_methodNamed B.named
  have hlk := B.notSynchronized
  have hD : ∀ (M : mk_M) (L : Nat → Int64), va_D (mk_A E) (mk_wl E M L) := fun _ _ => mk_D hD0
  have C0 : mk_C p s m [.ref (E.1 68), .int a1, .int a2, .int a3, .int a4, .int a5].toArray meth c cX6_add 9 wsX6_add RX6 (some .int) D E := ⟨hx, hb, hml, hown, hts, hr, hlk, hK, hD, hN⟩
  have hS : va_S (mk_A E) s.heap s.heap [] := va_S.rf
  have hl := lv_entry ([.ref (E.1 68), .int a1, .int a2, .int a3, .int a4, .int a5]) (n := 9) (Nat.le_of_ble_eq_true rfl)
  rw [lg_entry_eq]
  generalize (lg_sl ([.ref (E.1 68), .int a1, .int a2, .int a3, .int a4, .int a5]) ++ List.replicate (9 - (lg_sl ([.ref (E.1 68), .int a1, .int a2, .int a3, .int a4, .int a5])).length) Slot.unset).toArray = ls at hl ⊢
  have hl : lv_has ls 9 [(0, .ref (E.1 68)), (1, .int a1), (2, .int a2), (3, .int a3), (4, .int a4), (5, .int a5)] := hl
  replace h : ((f_X6_within a1 1 12 M).bind (fun r_2 => (if r_2 = 0 then (f_X6_add_63 a1 a2 a3 a4 a5 M) else ((f_X6_within a2 1 1000 M).bind (fun r_47 => (if r_47 = 0 then (f_X6_add_63 a1 a2 a3 a4 a5 M) else ((f_X6_within a3 1 a2 M).bind (fun r_50 => (if r_50 = 0 then (f_X6_add_63 a1 a2 a3 a4 a5 M) else ((f_X6_within a4 1 100 M).bind (fun r_53 => (if r_53 = 0 then (f_X6_add_63 a1 a2 a3 a4 a5 M) else (if a5 = 0 then (f_X6_add_59 a1 a2 a3 a4 a5 M) else ((f_X6_within a5 a4 200 M).bind (fun r_57 => (if r_57 = 0 then (f_X6_add_63 a1 a2 a3 a4 a5 M) else (f_X6_add_59 a1 a2 a3 a4 a5 M))))))))))))))))) = some q := h
  refine lv_iload_n hx hb dX6_add_0 rfl (lv_at hl 1 rfl) ?_
  refine lv_iconst (v := 1) hx hb dX6_add_1 (by decide) ?_
  refine lv_bipush (v := 12) hx hb dX6_add_2 (by decide) ?_
  obtain ⟨r_2, e_1, h⟩ := mk_bind h
  refine va_calli (va_runS (As := [.int a1, .int 1, .int 12]) (rest := []) ⟨hx, hb, hml, hown, hts⟩ (c_X6_within l D E L a1 1 12 M  e_1) (cwS 3 hts gX6_add_X6_within rfl rfl rfl (by decide +kernel) ⟨Nat.le_of_ble_eq_true rfl, Nat.le_of_ble_eq_true rfl⟩) ⟨mk_W.blind, fun U hU hW => ⟨rfl, mk_W.at hU hW hP hK (hD _ _) hN⟩⟩ rfl rfl hl.1 rfl (lv_room (Nat.le_of_ble_eq_true rfl)) dX6_add_4 ⟨Nat.zero_le _, Nat.zero_le _⟩) hS (fun q _ h => h) (fun q h => h) (fun v_63 u t H1 locs ht hvm hw hB hz1 hk1 hS => ?_)
  subst v_63
  rw [ht] at hB
  replace hP := hB
  clear hB hz1 hk1 hvm ht
  generalize H1 = H at hP hS ⊢
  refine lv_if_eq (tgt := 63) hx hb dX6_add_7 (by decide) (fun c_3 => ?_) (fun c_3 => ?_)
  · replace h := (if_pos c_3).symm.trans h
    exact w_X6_add_63 C0 a1 a2 a3 a4 a5 M _ h _ _ _ hP hS (lv_sub hl [0, 1, 2, 3, 4, 5] rfl)
  · replace h := (if_neg c_3).symm.trans h
    refine lv_iload_n hx hb dX6_add_10 rfl (lv_at hl 2 rfl) ?_
    refine lv_iconst (v := 1) hx hb dX6_add_11 (by decide) ?_
    refine lv_sipush (v := 1000) hx hb dX6_add_12 (by decide) ?_
    obtain ⟨r_47, e_46, h⟩ := mk_bind h
    refine va_calli (va_runS (As := [.int a2, .int 1, .int 1000]) (rest := []) ⟨hx, hb, hml, hown, hts⟩ (c_X6_within l D E L a2 1 1000 M  e_46) (cwS 3 hts gX6_add_X6_within rfl rfl rfl (by decide +kernel) ⟨Nat.le_of_ble_eq_true rfl, Nat.le_of_ble_eq_true rfl⟩) ⟨mk_W.blind, fun U hU hW => ⟨rfl, mk_W.at hU hW hP hK (hD _ _) hN⟩⟩ rfl rfl hl.1 rfl (lv_room (Nat.le_of_ble_eq_true rfl)) dX6_add_15 ⟨Nat.zero_le _, Nat.zero_le _⟩) hS (fun q _ h => h) (fun q h => h) (fun v_62 u t H1 locs ht hvm hw hB hz1 hk1 hS => ?_)
    subst v_62
    rw [ht] at hB
    replace hP := hB
    clear hB hz1 hk1 hvm ht
    generalize H1 = H at hP hS ⊢
    refine lv_if_eq (tgt := 63) hx hb dX6_add_18 (by decide) (fun c_48 => ?_) (fun c_48 => ?_)
    · replace h := (if_pos c_48).symm.trans h
      exact w_X6_add_63 C0 a1 a2 a3 a4 a5 M _ h _ _ _ hP hS (lv_sub hl [0, 1, 2, 3, 4, 5] rfl)
    · replace h := (if_neg c_48).symm.trans h
      refine lv_iload_n hx hb dX6_add_21 rfl (lv_at hl 3 rfl) ?_
      refine lv_iconst (v := 1) hx hb dX6_add_22 (by decide) ?_
      refine lv_iload_n hx hb dX6_add_23 rfl (lv_at hl 2 rfl) ?_
      obtain ⟨r_50, e_49, h⟩ := mk_bind h
      refine va_calli (va_runS (As := [.int a3, .int 1, .int a2]) (rest := []) ⟨hx, hb, hml, hown, hts⟩ (c_X6_within l D E L a3 1 a2 M  e_49) (cwS 3 hts gX6_add_X6_within rfl rfl rfl (by decide +kernel) ⟨Nat.le_of_ble_eq_true rfl, Nat.le_of_ble_eq_true rfl⟩) ⟨mk_W.blind, fun U hU hW => ⟨rfl, mk_W.at hU hW hP hK (hD _ _) hN⟩⟩ rfl rfl hl.1 rfl (lv_room (Nat.le_of_ble_eq_true rfl)) dX6_add_24 ⟨Nat.zero_le _, Nat.zero_le _⟩) hS (fun q _ h => h) (fun q h => h) (fun v_61 u t H1 locs ht hvm hw hB hz1 hk1 hS => ?_)
      subst v_61
      rw [ht] at hB
      replace hP := hB
      clear hB hz1 hk1 hvm ht
      generalize H1 = H at hP hS ⊢
      refine lv_if_eq (tgt := 63) hx hb dX6_add_27 (by decide) (fun c_51 => ?_) (fun c_51 => ?_)
      · replace h := (if_pos c_51).symm.trans h
        exact w_X6_add_63 C0 a1 a2 a3 a4 a5 M _ h _ _ _ hP hS (lv_sub hl [0, 1, 2, 3, 4, 5] rfl)
      · replace h := (if_neg c_51).symm.trans h
        refine lv_iload hx hb dX6_add_30 (lv_at hl 4 rfl) ?_
        refine lv_iconst (v := 1) hx hb dX6_add_32 (by decide) ?_
        refine lv_bipush (v := 100) hx hb dX6_add_33 (by decide) ?_
        obtain ⟨r_53, e_52, h⟩ := mk_bind h
        refine va_calli (va_runS (As := [.int a4, .int 1, .int 100]) (rest := []) ⟨hx, hb, hml, hown, hts⟩ (c_X6_within l D E L a4 1 100 M  e_52) (cwS 3 hts gX6_add_X6_within rfl rfl rfl (by decide +kernel) ⟨Nat.le_of_ble_eq_true rfl, Nat.le_of_ble_eq_true rfl⟩) ⟨mk_W.blind, fun U hU hW => ⟨rfl, mk_W.at hU hW hP hK (hD _ _) hN⟩⟩ rfl rfl hl.1 rfl (lv_room (Nat.le_of_ble_eq_true rfl)) dX6_add_35 ⟨Nat.zero_le _, Nat.zero_le _⟩) hS (fun q _ h => h) (fun q h => h) (fun v_60 u t H1 locs ht hvm hw hB hz1 hk1 hS => ?_)
        subst v_60
        rw [ht] at hB
        replace hP := hB
        clear hB hz1 hk1 hvm ht
        generalize H1 = H at hP hS ⊢
        refine lv_if_eq (tgt := 63) hx hb dX6_add_38 (by decide) (fun c_54 => ?_) (fun c_54 => ?_)
        · replace h := (if_pos c_54).symm.trans h
          exact w_X6_add_63 C0 a1 a2 a3 a4 a5 M _ h _ _ _ hP hS (lv_sub hl [0, 1, 2, 3, 4, 5] rfl)
        · replace h := (if_neg c_54).symm.trans h
          refine lv_iload hx hb dX6_add_41 (lv_at hl 5 rfl) ?_
          refine lv_if_eq (tgt := 59) hx hb dX6_add_43 (by decide) (fun c_55 => ?_) (fun c_55 => ?_)
          · replace h := (if_pos c_55).symm.trans h
            exact w_X6_add_59 C0 a1 a2 a3 a4 a5 M _ h _ _ _ hP hS (lv_sub hl [0, 1, 2, 3, 4, 5] rfl)
          · replace h := (if_neg c_55).symm.trans h
            refine lv_iload hx hb dX6_add_46 (lv_at hl 5 rfl) ?_
            refine lv_iload hx hb dX6_add_48 (lv_at hl 4 rfl) ?_
            refine lv_sipush (v := 200) hx hb dX6_add_50 (by decide) ?_
            obtain ⟨r_57, e_56, h⟩ := mk_bind h
            refine va_calli (va_runS (As := [.int a5, .int a4, .int 200]) (rest := []) ⟨hx, hb, hml, hown, hts⟩ (c_X6_within l D E L a5 a4 200 M  e_56) (cwS 3 hts gX6_add_X6_within rfl rfl rfl (by decide +kernel) ⟨Nat.le_of_ble_eq_true rfl, Nat.le_of_ble_eq_true rfl⟩) ⟨mk_W.blind, fun U hU hW => ⟨rfl, mk_W.at hU hW hP hK (hD _ _) hN⟩⟩ rfl rfl hl.1 rfl (lv_room (Nat.le_of_ble_eq_true rfl)) dX6_add_53 ⟨Nat.zero_le _, Nat.zero_le _⟩) hS (fun q _ h => h) (fun q h => h) (fun v_59 u t H1 locs ht hvm hw hB hz1 hk1 hS => ?_)
            subst v_59
            rw [ht] at hB
            replace hP := hB
            clear hB hz1 hk1 hvm ht
            generalize H1 = H at hP hS ⊢
            refine lv_if_eq (tgt := 63) hx hb dX6_add_56 (by decide) (fun c_58 => ?_) (fun c_58 => ?_)
            · replace h := (if_pos c_58).symm.trans h
              exact w_X6_add_63 C0 a1 a2 a3 a4 a5 M _ h _ _ _ hP hS (lv_sub hl [0, 1, 2, 3, 4, 5] rfl)
            · replace h := (if_neg c_58).symm.trans h
              exact w_X6_add_59 C0 a1 a2 a3 a4 a5 M _ h _ _ _ hP hS (lv_sub hl [0, 1, 2, 3, 4, 5] rfl)
abbrev rm_X6_at : Room := { frames := 0, cells := 0, slots := 0, locals := 0 }
def f_X6_at (a0 : Int32) (a1 : Int32) (M : mk_M) : Option (Int32) := (some ((8 * a0) + (a1 - a1 / 8 * 8)))
set_option maxHeartbeats 4000000 in
set_option maxRecDepth 100000 in
theorem c_X6_at (l : Launch) (D : va_G) (E : mk_E) (L : Nat → Int64) (a0 : Int32) (a1 : Int32) (M : mk_M) {q : Int32} (h : f_X6_at a0 a1 M = some q) : Met l yX6_at wsX6_at rm_X6_at (va_Pc [.int a0, .int a1] (mk_W D E M L)) (mk_Qi D E L q M) 0 0 (mk_A E) := by
  refine Met.ofW (cc := cX6_at) (maxL := 2) (ret := (some .int)) (by decide) rfl ?_
  intro p e s m args below meth c s₁ B hml hv
  obtain ⟨rfl, hP, hK, hD0, hN⟩ := hv
  have hx := B.exec
  have hb := B.bytes
  have hr := B.returns
  have hts := atoms_spec (ws := wsX6_at) B.pre
  have hown : s.vm.findClass RX6 = some m.cls := findClass_of_methodNamed B.named
  have hlk := B.notSynchronized
  have hD : ∀ (M : mk_M) (L : Nat → Int64), va_D (mk_A E) (mk_wl E M L) := fun _ _ => mk_D hD0
  have C0 : mk_C p s m [.int a0, .int a1].toArray meth c cX6_at 2 wsX6_at RX6 (some .int) D E := ⟨hx, hb, hml, hown, hts, hr, hlk, hK, hD, hN⟩
  have hS : va_S (mk_A E) s.heap s.heap [] := va_S.rf
  have hl := lv_entry ([.int a0, .int a1]) (n := 2) (Nat.le_of_ble_eq_true rfl)
  rw [lg_entry_eq]
  generalize (lg_sl ([.int a0, .int a1]) ++ List.replicate (2 - (lg_sl ([.int a0, .int a1])).length) Slot.unset).toArray = ls at hl ⊢
  have hl : lv_has ls 2 [(0, .int a0), (1, .int a1)] := hl
  replace h : (some ((8 * a0) + (a1 - a1 / 8 * 8))) = some q := h
  refine lv_bipush (v := 8) hx hb dX6_at_0 (by decide) ?_
  refine lv_iload_n hx hb dX6_at_2 rfl (lv_at hl 0 rfl) ?_
  refine lv_imul hx hb dX6_at_3 ?_
  refine lv_iload_n hx hb dX6_at_4 rfl (lv_at hl 1 rfl) ?_
  refine lv_bipush (v := 8) hx hb dX6_at_5 (by decide) ?_
  refine lv_irem hx hb dX6_at_7 (by decide) ?_
  refine lv_iadd hx hb dX6_at_8 ?_
  replace h := Option.some.inj h
  subst q
  exact W.iret (v := (8 * a0) + (a1 - a1 / 8 * 8)) hx hb hr (fun t ht hW => ⟨⟨_, (), rfl, rfl, by rw [← ht] at hP; exact hP⟩, hS.F ht⟩) hS.2.2 dX6_at_9
abbrev rm_X6_isPending : Room := { frames := 1, cells := 0, slots := 0, locals := 21 }
theorem in_X6_isPending_X6 : ∀ w ∈ wsX60, w ∈ wsX6_isPending := by decide +kernel
def f_X6_isPending (a1 : Int32) (a2 : Int32) (M : mk_M) : Option (Int32) := (if a2 < 1 then (some 0) else (if mk_ob a1 13 then none else (if (M 78 (a1).toNatClampNeg) < a2 then (some 0) else (if mk_ob a1 13 then none else (if a2 ≤ ((M 78 (a1).toNatClampNeg) - 8) then (some 0) else ((f_X6_at a1 a2 M).bind (fun r_7 => (if mk_ob r_7 104 then none else (if (M 86 (r_7).toNatClampNeg) = (-1) then (some 1) else (some 0))))))))))
set_option maxHeartbeats 4000000 in
set_option maxRecDepth 100000 in
theorem c_X6_isPending (l : Launch) (D : va_G) (E : mk_E) (L : Nat → Int64) (a1 : Int32) (a2 : Int32) (M : mk_M) {q : Int32} (h : f_X6_isPending a1 a2 M = some q) : Met l yX6_isPending wsX6_isPending rm_X6_isPending (va_Pc [.ref (E.1 68), .int a1, .int a2] (mk_W D E M L)) (mk_Qi D E L q M) 0 0 (mk_A E) := by
  refine Met.ofW (cc := cX6_isPending) (maxL := 3) (ret := (some .boolean)) (by decide) rfl ?_
  intro p e s m args below meth c s₁ B hml hv
  obtain ⟨rfl, hP, hK, hD0, hN⟩ := hv
  have hx := B.exec
  have hb := B.bytes
  have hr := B.returns
  have hts := atoms_spec (ws := wsX6_isPending) B.pre
  have hown : s.vm.findClass RX6 = some m.cls := findClass_of_methodNamed B.named
  have hlk := B.notSynchronized
  have hD : ∀ (M : mk_M) (L : Nat → Int64), va_D (mk_A E) (mk_wl E M L) := fun _ _ => mk_D hD0
  have C0 : mk_C p s m [.ref (E.1 68), .int a1, .int a2].toArray meth c cX6_isPending 3 wsX6_isPending RX6 (some .boolean) D E := ⟨hx, hb, hml, hown, hts, hr, hlk, hK, hD, hN⟩
  have hS : va_S (mk_A E) s.heap s.heap [] := va_S.rf
  have hl := lv_entry ([.ref (E.1 68), .int a1, .int a2]) (n := 3) (Nat.le_of_ble_eq_true rfl)
  rw [lg_entry_eq]
  generalize (lg_sl ([.ref (E.1 68), .int a1, .int a2]) ++ List.replicate (3 - (lg_sl ([.ref (E.1 68), .int a1, .int a2])).length) Slot.unset).toArray = ls at hl ⊢
  have hl : lv_has ls 3 [(0, .ref (E.1 68)), (1, .int a1), (2, .int a2)] := hl
  replace h : (if a2 < 1 then (some 0) else (if mk_ob a1 13 then none else (if (M 78 (a1).toNatClampNeg) < a2 then (some 0) else (if mk_ob a1 13 then none else (if a2 ≤ ((M 78 (a1).toNatClampNeg) - 8) then (some 0) else ((f_X6_at a1 a2 M).bind (fun r_7 => (if mk_ob r_7 104 then none else (if (M 86 (r_7).toNatClampNeg) = (-1) then (some 1) else (some 0)))))))))) = some q := h
  refine lv_iload_n hx hb dX6_isPending_0 rfl (lv_at hl 2 rfl) ?_
  refine lv_iconst (v := 1) hx hb dX6_isPending_1 (by decide) ?_
  refine lv_icmp_lt (tgt := 46) hx hb dX6_isPending_2 (by decide) (fun c_1 => ?_) (fun c_1 => ?_)
  · replace h := (if_pos c_1).symm.trans h
    refine lv_iconst (v := 0) hx hb dX6_isPending_46 (by decide) ?_
    replace h := Option.some.inj h
    subst q
    exact W.zret (v := 0) hx hb hr rfl (fun t ht hW => ⟨⟨_, (), rfl, rfl, by rw [← ht] at hP; exact hP⟩, hS.F ht⟩) hS.2.2 dX6_isPending_47
  · replace h := (if_neg c_1).symm.trans h
    refine lv_iload_n hx hb dX6_isPending_5 rfl (lv_at hl 2 rfl) ?_
    refine lv_aload_n hx hb dX6_isPending_6 rfl (lv_at hl 0 rfl) ?_
    refine mk_g6_12 hx hb hts in_X6_isPending_X6 hown hK hP (by decide) rfl (hts (.fieldLink RX6 38 "MixedKernelModel" "jobs" "[I") (by decide +kernel)) dX6_isPending_7 ?_
    refine lv_iload_n hx hb dX6_isPending_10 rfl (lv_at hl 1 rfl) ?_
    obtain ⟨i_2, h⟩ := mk_ifn h
    refine mk_ia hx hb hK hP (by decide) rfl i_2 dX6_isPending_11 ?_
    refine lv_icmp_gt (tgt := 46) hx hb dX6_isPending_12 (by decide) (fun c_3 => ?_) (fun c_3 => ?_)
    · replace h := (if_pos c_3).symm.trans h
      refine lv_iconst (v := 0) hx hb dX6_isPending_46 (by decide) ?_
      replace h := Option.some.inj h
      subst q
      exact W.zret (v := 0) hx hb hr rfl (fun t ht hW => ⟨⟨_, (), rfl, rfl, by rw [← ht] at hP; exact hP⟩, hS.F ht⟩) hS.2.2 dX6_isPending_47
    · replace h := (if_neg c_3).symm.trans h
      refine lv_iload_n hx hb dX6_isPending_15 rfl (lv_at hl 2 rfl) ?_
      refine lv_aload_n hx hb dX6_isPending_16 rfl (lv_at hl 0 rfl) ?_
      refine mk_g6_12 hx hb hts in_X6_isPending_X6 hown hK hP (by decide) rfl (hts (.fieldLink RX6 38 "MixedKernelModel" "jobs" "[I") (by decide +kernel)) dX6_isPending_17 ?_
      refine lv_iload_n hx hb dX6_isPending_20 rfl (lv_at hl 1 rfl) ?_
      obtain ⟨i_4, h⟩ := mk_ifn h
      refine mk_ia hx hb hK hP (by decide) rfl i_4 dX6_isPending_21 ?_
      refine lv_bipush (v := 8) hx hb dX6_isPending_22 (by decide) ?_
      refine lv_isub hx hb dX6_isPending_24 ?_
      refine lv_icmp_le (tgt := 46) hx hb dX6_isPending_25 (by decide) (fun c_5 => ?_) (fun c_5 => ?_)
      · replace h := (if_pos c_5).symm.trans h
        refine lv_iconst (v := 0) hx hb dX6_isPending_46 (by decide) ?_
        replace h := Option.some.inj h
        subst q
        exact W.zret (v := 0) hx hb hr rfl (fun t ht hW => ⟨⟨_, (), rfl, rfl, by rw [← ht] at hP; exact hP⟩, hS.F ht⟩) hS.2.2 dX6_isPending_47
      · replace h := (if_neg c_5).symm.trans h
        refine lv_aload_n hx hb dX6_isPending_28 rfl (lv_at hl 0 rfl) ?_
        refine mk_g6_20 hx hb hts in_X6_isPending_X6 hown hK hP (by decide) rfl (hts (.fieldLink RX6 62 "MixedKernelModel" "ends" "[I") (by decide +kernel)) dX6_isPending_29 ?_
        refine lv_iload_n hx hb dX6_isPending_32 rfl (lv_at hl 1 rfl) ?_
        refine lv_iload_n hx hb dX6_isPending_33 rfl (lv_at hl 2 rfl) ?_
        obtain ⟨r_7, e_6, h⟩ := mk_bind h
        refine va_calli (va_runS (As := [.int a1, .int a2]) (rest := [.ref (E.1 86)]) ⟨hx, hb, hml, hown, hts⟩ (c_X6_at l D E L a1 a2 M  e_6) (cwS 2 hts gX6_isPending_X6_at rfl rfl rfl (by decide +kernel) ⟨Nat.le_of_ble_eq_true rfl, Nat.le_of_ble_eq_true rfl⟩) ⟨mk_W.blind, fun U hU hW => ⟨rfl, mk_W.at hU hW hP hK (hD _ _) hN⟩⟩ rfl rfl hl.1 rfl (lv_room (Nat.le_of_ble_eq_true rfl)) dX6_isPending_34 ⟨Nat.zero_le _, Nat.zero_le _⟩) hS (fun q _ h => h) (fun q h => h) (fun v_10 u t H1 locs ht hvm hw hB hz1 hk1 hS => ?_)
        subst v_10
        rw [ht] at hB
        replace hP := hB
        clear hB hz1 hk1 hvm ht
        generalize H1 = H at hP hS ⊢
        obtain ⟨i_8, h⟩ := mk_ifn h
        refine mk_ia hx hb hK hP (by decide) rfl i_8 dX6_isPending_37 ?_
        refine lv_iconst (v := -1) hx hb dX6_isPending_38 (by decide) ?_
        refine lv_icmp_ne (tgt := 46) hx hb dX6_isPending_39 (by decide) (fun c_9 => ?_) (fun c_9 => ?_)
        · replace h := (if_neg c_9).symm.trans h
          refine lv_iconst (v := 0) hx hb dX6_isPending_46 (by decide) ?_
          replace h := Option.some.inj h
          subst q
          exact W.zret (v := 0) hx hb hr rfl (fun t ht hW => ⟨⟨_, (), rfl, rfl, by rw [← ht] at hP; exact hP⟩, hS.F ht⟩) hS.2.2 dX6_isPending_47
        · replace h := (if_pos c_9).symm.trans h
          refine lv_iconst (v := 1) hx hb dX6_isPending_42 (by decide) ?_
          refine lv_goto (tgt := 47) hx hb dX6_isPending_43 (by decide) ?_
          replace h := Option.some.inj h
          subst q
          exact W.zret (v := 1) hx hb hr rfl (fun t ht hW => ⟨⟨_, (), rfl, rfl, by rw [← ht] at hP; exact hP⟩, hS.F ht⟩) hS.2.2 dX6_isPending_47
abbrev rm_X6_pending : Room := { frames := 2, cells := 0, slots := 0, locals := 43 }
theorem in_X6_pending_X6 : ∀ w ∈ wsX60, w ∈ wsX6_pending := by decide +kernel
def f_X6_pending_12 : Nat → Int32 → Int32 → Int32 → mk_M → Option (Int32)
  | 0, _, _, _, _ => none
  | n + 1, l1, l2, l3, M => (if mk_ob l1 13 then none else (if (M 78 (l1).toNatClampNeg) < l3 then (some l2) else ((f_X6_isPending l1 l3 M).bind (fun r_5 => (if r_5 = 0 then (f_X6_pending_12 n l1 l2 (l3 + 1) M) else (f_X6_pending_12 n l1 (l2 + 1) (l3 + 1) M))))))
set_option maxHeartbeats 4000000 in
set_option maxRecDepth 100000 in
theorem w_X6_pending_12 {p : Program} {l : Launch} {e : Env} {s : State} {m : MethodId} {args : Array Value} {below : List Frame} {meth : Method} {c : Code} {D : va_G} {E : mk_E} {L : Nat → Int64} (C0 : mk_C p s m args meth c cX6_pending 4 wsX6_pending RX6 (some .int) D E) : ∀ n : Nat, ∀ (l1 : Int32) (l2 : Int32) (l3 : Int32) (M : mk_M) (q : Int32), f_X6_pending_12 n l1 l2 l3 M = some q → ∀ (H : Heap) (locs : List Loc) (ls : Array Slot), va_P D vwCl (mk_wl E M L) H → va_S (mk_A E) s.heap H locs → lv_has ls 4 [(0, .ref (E.1 68)), (1, .int l1), (2, .int l2), (3, .int l3)] → W p l e rm_X6_pending s m args below meth c H locs 0 0 (MQ below (mk_Qi D E L q M) args s 0 0 (mk_A E)) (F0 m 12 ls []) := by
  obtain ⟨hx, hb, hml, hown, hts, hr, hlk, hK, hD, hN⟩ := id C0
  intro n
  induction n with
  | zero =>
    intro l1 l2 l3 M q h
    cases h
  | succ n ih =>
    intro l1 l2 l3 M q h H locs ls hP hS hl
    replace h : (if mk_ob l1 13 then none else (if (M 78 (l1).toNatClampNeg) < l3 then (some l2) else ((f_X6_isPending l1 l3 M).bind (fun r_5 => (if r_5 = 0 then (f_X6_pending_12 n l1 l2 (l3 + 1) M) else (f_X6_pending_12 n l1 (l2 + 1) (l3 + 1) M)))))) = some q := h
    refine lv_iload_n hx hb dX6_pending_12 rfl (lv_at hl 3 rfl) ?_
    refine lv_aload_n hx hb dX6_pending_13 rfl (lv_at hl 0 rfl) ?_
    refine mk_g6_12 hx hb hts in_X6_pending_X6 hown hK hP (by decide) rfl (hts (.fieldLink RX6 38 "MixedKernelModel" "jobs" "[I") (by decide +kernel)) dX6_pending_14 ?_
    refine lv_iload_n hx hb dX6_pending_17 rfl (lv_at hl 1 rfl) ?_
    obtain ⟨i_2, h⟩ := mk_ifn h
    refine mk_ia hx hb hK hP (by decide) rfl i_2 dX6_pending_18 ?_
    refine lv_icmp_gt (tgt := 45) hx hb dX6_pending_19 (by decide) (fun c_3 => ?_) (fun c_3 => ?_)
    · replace h := (if_pos c_3).symm.trans h
      refine lv_iload_n hx hb dX6_pending_45 rfl (lv_at hl 2 rfl) ?_
      replace h := Option.some.inj h
      subst q
      exact W.iret (v := l2) hx hb hr (fun t ht hW => ⟨⟨_, (), rfl, rfl, by rw [← ht] at hP; exact hP⟩, hS.F ht⟩) hS.2.2 dX6_pending_46
    · replace h := (if_neg c_3).symm.trans h
      refine lv_aload_n hx hb dX6_pending_22 rfl (lv_at hl 0 rfl) ?_
      refine lv_iload_n hx hb dX6_pending_23 rfl (lv_at hl 1 rfl) ?_
      refine lv_iload_n hx hb dX6_pending_24 rfl (lv_at hl 3 rfl) ?_
      obtain ⟨r_5, e_4, h⟩ := mk_bind h
      refine va_calli (va_runV (As := [.int l1, .int l3]) (rest := []) ⟨hx, hb, hml, hown, hts⟩ (c_X6_isPending l D E L l1 l3 M  e_4) (cwV 2 hts gX6_pending_X6_isPending rfl rfl rfl (by decide +kernel) ⟨Nat.le_of_ble_eq_true rfl, Nat.le_of_ble_eq_true rfl⟩) ⟨mk_W.blind, mk_rc6 hK hP (by decide) rfl, fun U hU hW => ⟨rfl, mk_W.at hU hW hP hK (hD _ _) hN⟩⟩ rfl rfl hl.1 rfl (lv_room (Nat.le_of_ble_eq_true rfl)) dX6_pending_25 ⟨Nat.zero_le _, Nat.zero_le _⟩) hS (fun q _ h => h) (fun q h => h) (fun v_7 u t H1 locs ht hvm hw hB hz1 hk1 hS => ?_)
      subst v_7
      rw [ht] at hB
      replace hP := hB
      clear hB hz1 hk1 hvm ht
      generalize H1 = H at hP hS ⊢
      refine lv_if_eq (tgt := 37) hx hb dX6_pending_28 (by decide) (fun c_6 => ?_) (fun c_6 => ?_)
      · replace h := (if_pos c_6).symm.trans h
        refine lv_iload_n hx hb dX6_pending_37 rfl (lv_at hl 2 rfl) ?_
        refine lv_istore_n (lv' := [(2, .int l2), (0, .ref (E.1 68)), (1, .int l1), (3, .int l3)]) hx hb dX6_pending_38 rfl hl (by decide) rfl (fun ls hl => ?_)
        refine lv_iinc (v := l3 + 1) (lv' := [(3, .int (l3 + 1)), (2, .int l2), (0, .ref (E.1 68)), (1, .int l1)]) hx hb dX6_pending_39 hl (k := 3) rfl rfl (by decide) rfl (fun ls hl => ?_)
        refine lv_goto (tgt := 12) hx hb dX6_pending_42 (by decide) ?_
        exact ih l1 l2 (l3 + 1) M _ h _ _ _ hP hS (lv_sub hl [2, 3, 1, 0] rfl)
      · replace h := (if_neg c_6).symm.trans h
        refine lv_iload_n hx hb dX6_pending_31 rfl (lv_at hl 2 rfl) ?_
        refine lv_iconst (v := 1) hx hb dX6_pending_32 (by decide) ?_
        refine lv_iadd hx hb dX6_pending_33 ?_
        refine lv_goto (tgt := 38) hx hb dX6_pending_34 (by decide) ?_
        refine lv_istore_n (lv' := [(2, .int (l2 + 1)), (0, .ref (E.1 68)), (1, .int l1), (3, .int l3)]) hx hb dX6_pending_38 rfl hl (by decide) rfl (fun ls hl => ?_)
        refine lv_iinc (v := l3 + 1) (lv' := [(3, .int (l3 + 1)), (2, .int (l2 + 1)), (0, .ref (E.1 68)), (1, .int l1)]) hx hb dX6_pending_39 hl (k := 3) rfl rfl (by decide) rfl (fun ls hl => ?_)
        refine lv_goto (tgt := 12) hx hb dX6_pending_42 (by decide) ?_
        exact ih l1 (l2 + 1) (l3 + 1) M _ h _ _ _ hP hS (lv_sub hl [2, 3, 1, 0] rfl)
def f_X6_pending (a1 : Int32) (M : mk_M) : Option (Int32) := (if mk_ob a1 13 then none else (f_X6_pending_12 mk_F a1 0 ((M 78 (a1).toNatClampNeg) - 7) M))
set_option maxHeartbeats 4000000 in
set_option maxRecDepth 100000 in
theorem c_X6_pending (l : Launch) (D : va_G) (E : mk_E) (L : Nat → Int64) (a1 : Int32) (M : mk_M) {q : Int32} (h : f_X6_pending a1 M = some q) : Met l yX6_pending wsX6_pending rm_X6_pending (va_Pc [.ref (E.1 68), .int a1] (mk_W D E M L)) (mk_Qi D E L q M) 0 0 (mk_A E) := by
  refine Met.ofW (cc := cX6_pending) (maxL := 4) (ret := (some .int)) (by decide) rfl ?_
  intro p e s m args below meth c s₁ B hml hv
  obtain ⟨rfl, hP, hK, hD0, hN⟩ := hv
  have hx := B.exec
  have hb := B.bytes
  have hr := B.returns
  have hts := atoms_spec (ws := wsX6_pending) B.pre
  have hown : s.vm.findClass RX6 = some m.cls := findClass_of_methodNamed B.named
  have hlk := B.notSynchronized
  have hD : ∀ (M : mk_M) (L : Nat → Int64), va_D (mk_A E) (mk_wl E M L) := fun _ _ => mk_D hD0
  have C0 : mk_C p s m [.ref (E.1 68), .int a1].toArray meth c cX6_pending 4 wsX6_pending RX6 (some .int) D E := ⟨hx, hb, hml, hown, hts, hr, hlk, hK, hD, hN⟩
  have hS : va_S (mk_A E) s.heap s.heap [] := va_S.rf
  have hl := lv_entry ([.ref (E.1 68), .int a1]) (n := 4) (Nat.le_of_ble_eq_true rfl)
  rw [lg_entry_eq]
  generalize (lg_sl ([.ref (E.1 68), .int a1]) ++ List.replicate (4 - (lg_sl ([.ref (E.1 68), .int a1])).length) Slot.unset).toArray = ls at hl ⊢
  have hl : lv_has ls 4 [(0, .ref (E.1 68)), (1, .int a1)] := hl
  replace h : (if mk_ob a1 13 then none else (f_X6_pending_12 mk_F a1 0 ((M 78 (a1).toNatClampNeg) - 7) M)) = some q := h
  refine lv_iconst (v := 0) hx hb dX6_pending_0 (by decide) ?_
  refine lv_istore_n (lv' := [(2, .int 0), (0, .ref (E.1 68)), (1, .int a1)]) hx hb dX6_pending_1 rfl hl (by decide) rfl (fun ls hl => ?_)
  refine lv_aload_n hx hb dX6_pending_2 rfl (lv_at hl 1 rfl) ?_
  refine mk_g6_12 hx hb hts in_X6_pending_X6 hown hK hP (by decide) rfl (hts (.fieldLink RX6 38 "MixedKernelModel" "jobs" "[I") (by decide +kernel)) dX6_pending_3 ?_
  refine lv_iload_n hx hb dX6_pending_6 rfl (lv_at hl 2 rfl) ?_
  obtain ⟨i_1, h⟩ := mk_ifn h
  refine mk_ia hx hb hK hP (by decide) rfl i_1 dX6_pending_7 ?_
  refine lv_bipush (v := 7) hx hb dX6_pending_8 (by decide) ?_
  refine lv_isub hx hb dX6_pending_10 ?_
  refine lv_istore_n (lv' := [(3, .int ((M 78 (a1).toNatClampNeg) - 7)), (2, .int 0), (0, .ref (E.1 68)), (1, .int a1)]) hx hb dX6_pending_11 rfl hl (by decide) rfl (fun ls hl => ?_)
  exact w_X6_pending_12 C0 mk_F a1 0 ((M 78 (a1).toNatClampNeg) - 7) M _ h _ _ _ hP hS (lv_sub hl [2, 3, 1, 0] rfl)
abbrev rm_X6_leave : Room := { frames := 3, cells := 0, slots := 0, locals := 66 }
theorem in_X6_leave_X6 : ∀ w ∈ wsX60, w ∈ wsX6_leave := by decide +kernel
def f_X6_leave_43 : Nat → Int32 → Int32 → Int32 → mk_M → Option (mk_M)
  | 0, _, _, _, _ => none
  | n + 1, l1, l2, l3, M => (if (M 68 9) ≤ l3 then (some (mk_st M 68 9 l2)) else (if mk_ob l3 13 then none else (if mk_ob l2 13 then none else (if mk_ob l3 13 then none else (if ((mk_st M 76 (l2).toNatClampNeg (M 76 (l3).toNatClampNeg)) 76 (l3).toNatClampNeg) = l1 then (f_X6_leave_43 n l1 l2 (l3 + 1) (mk_st M 76 (l2).toNatClampNeg (M 76 (l3).toNatClampNeg))) else (f_X6_leave_43 n l1 (l2 + 1) (l3 + 1) (mk_st M 76 (l2).toNatClampNeg (M 76 (l3).toNatClampNeg))))))))
set_option maxHeartbeats 4000000 in
set_option maxRecDepth 100000 in
theorem w_X6_leave_43 {p : Program} {l : Launch} {e : Env} {s : State} {m : MethodId} {args : Array Value} {below : List Frame} {meth : Method} {c : Code} {D : va_G} {E : mk_E} {L : Nat → Int64} (C0 : mk_C p s m args meth c cX6_leave 4 wsX6_leave RX6 none D E) : ∀ n : Nat, ∀ (l1 : Int32) (l2 : Int32) (l3 : Int32) (M : mk_M) (q : mk_M), f_X6_leave_43 n l1 l2 l3 M = some q → ∀ (H : Heap) (locs : List Loc) (ls : Array Slot), va_P D vwCl (mk_wl E M L) H → va_S (mk_A E) s.heap H locs → lv_has ls 4 [(0, .ref (E.1 68)), (1, .int l1), (2, .int l2), (3, .int l3)] → W p l e rm_X6_leave s m args below meth c H locs 0 0 (MQ below (mk_Qv D E L q) args s 0 0 (mk_A E)) (F0 m 43 ls []) := by
  obtain ⟨hx, hb, hml, hown, hts, hr, hlk, hK, hD, hN⟩ := id C0
  intro n
  induction n with
  | zero =>
    intro l1 l2 l3 M q h
    cases h
  | succ n ih =>
    intro l1 l2 l3 M q h H locs ls hP hS hl
    replace h : (if (M 68 9) ≤ l3 then (some (mk_st M 68 9 l2)) else (if mk_ob l3 13 then none else (if mk_ob l2 13 then none else (if mk_ob l3 13 then none else (if ((mk_st M 76 (l2).toNatClampNeg (M 76 (l3).toNatClampNeg)) 76 (l3).toNatClampNeg) = l1 then (f_X6_leave_43 n l1 l2 (l3 + 1) (mk_st M 76 (l2).toNatClampNeg (M 76 (l3).toNatClampNeg))) else (f_X6_leave_43 n l1 (l2 + 1) (l3 + 1) (mk_st M 76 (l2).toNatClampNeg (M 76 (l3).toNatClampNeg)))))))) = some q := h
    refine lv_iload_n hx hb dX6_leave_43 rfl (lv_at hl 3 rfl) ?_
    refine lv_aload_n hx hb dX6_leave_44 rfl (lv_at hl 0 rfl) ?_
    refine mk_g6_9 hx hb hts in_X6_leave_X6 hown hK hP (by decide) rfl (hts (.fieldLink RX6 143 "MixedKernelModel" "inForce" "I") (by decide +kernel)) dX6_leave_45 ?_
    refine lv_icmp_ge (tgt := 87) hx hb dX6_leave_48 (by decide) (fun c_11 => ?_) (fun c_11 => ?_)
    · replace h := (if_pos c_11).symm.trans h
      refine lv_aload_n hx hb dX6_leave_87 rfl (lv_at hl 0 rfl) ?_
      refine lv_iload_n hx hb dX6_leave_88 rfl (lv_at hl 2 rfl) ?_
      refine mk_p6_9 hx hb hts in_X6_leave_X6 hown hK hP (by decide) rfl (hD _ _) hS (hts (.fieldLink RX6 143 "MixedKernelModel" "inForce" "I") (by decide +kernel)) dX6_leave_89 (fun H locs hP hS => ?_)
      replace h := Option.some.inj h
      subst q
      exact W.vret hx hb hr (fun t ht hW => ⟨⟨(), rfl, trivial, by rw [← ht] at hP; exact hP⟩, hS.F ht⟩) hS.2.2 dX6_leave_92
    · replace h := (if_neg c_11).symm.trans h
      refine lv_aload_n hx hb dX6_leave_51 rfl (lv_at hl 0 rfl) ?_
      refine mk_g6_10 hx hb hts in_X6_leave_X6 hown hK hP (by decide) rfl (hts (.fieldLink RX6 32 "MixedKernelModel" "order" "[I") (by decide +kernel)) dX6_leave_52 ?_
      refine lv_iload_n hx hb dX6_leave_55 rfl (lv_at hl 2 rfl) ?_
      refine lv_aload_n hx hb dX6_leave_56 rfl (lv_at hl 0 rfl) ?_
      refine mk_g6_10 hx hb hts in_X6_leave_X6 hown hK hP (by decide) rfl (hts (.fieldLink RX6 32 "MixedKernelModel" "order" "[I") (by decide +kernel)) dX6_leave_57 ?_
      refine lv_iload_n hx hb dX6_leave_60 rfl (lv_at hl 3 rfl) ?_
      obtain ⟨i_12, h⟩ := mk_ifn h
      refine mk_ia hx hb hK hP (by decide) rfl i_12 dX6_leave_61 ?_
      obtain ⟨i_13, h⟩ := mk_ifn h
      refine mk_is hx hb hK hP (hD _ _) hS (by decide) rfl i_13 dX6_leave_62 (fun H locs hP hS => ?_)
      refine lv_aload_n hx hb dX6_leave_63 rfl (lv_at hl 0 rfl) ?_
      refine mk_g6_10 hx hb hts in_X6_leave_X6 hown hK hP (by decide) rfl (hts (.fieldLink RX6 32 "MixedKernelModel" "order" "[I") (by decide +kernel)) dX6_leave_64 ?_
      refine lv_iload_n hx hb dX6_leave_67 rfl (lv_at hl 3 rfl) ?_
      obtain ⟨i_14, h⟩ := mk_ifn h
      refine mk_ia hx hb hK hP (by decide) rfl i_14 dX6_leave_68 ?_
      refine lv_iload_n hx hb dX6_leave_69 rfl (lv_at hl 1 rfl) ?_
      refine lv_icmp_ne (tgt := 77) hx hb dX6_leave_70 (by decide) (fun c_15 => ?_) (fun c_15 => ?_)
      · replace h := (if_neg c_15).symm.trans h
        refine lv_iload_n hx hb dX6_leave_77 rfl (lv_at hl 2 rfl) ?_
        refine lv_iconst (v := 1) hx hb dX6_leave_78 (by decide) ?_
        refine lv_iadd hx hb dX6_leave_79 ?_
        refine lv_istore_n (lv' := [(2, .int (l2 + 1)), (0, .ref (E.1 68)), (1, .int l1), (3, .int l3)]) hx hb dX6_leave_80 rfl hl (by decide) rfl (fun ls hl => ?_)
        refine lv_iinc (v := l3 + 1) (lv' := [(3, .int (l3 + 1)), (2, .int (l2 + 1)), (0, .ref (E.1 68)), (1, .int l1)]) hx hb dX6_leave_81 hl (k := 3) rfl rfl (by decide) rfl (fun ls hl => ?_)
        refine lv_goto (tgt := 43) hx hb dX6_leave_84 (by decide) ?_
        exact ih l1 (l2 + 1) (l3 + 1) (mk_st M 76 (l2).toNatClampNeg (M 76 (l3).toNatClampNeg)) _ h _ _ _ hP hS (lv_sub hl [2, 3, 1, 0] rfl)
      · replace h := (if_pos c_15).symm.trans h
        refine lv_iload_n hx hb dX6_leave_73 rfl (lv_at hl 2 rfl) ?_
        refine lv_goto (tgt := 80) hx hb dX6_leave_74 (by decide) ?_
        refine lv_istore_n (lv' := [(2, .int l2), (0, .ref (E.1 68)), (1, .int l1), (3, .int l3)]) hx hb dX6_leave_80 rfl hl (by decide) rfl (fun ls hl => ?_)
        refine lv_iinc (v := l3 + 1) (lv' := [(3, .int (l3 + 1)), (2, .int l2), (0, .ref (E.1 68)), (1, .int l1)]) hx hb dX6_leave_81 hl (k := 3) rfl rfl (by decide) rfl (fun ls hl => ?_)
        refine lv_goto (tgt := 43) hx hb dX6_leave_84 (by decide) ?_
        exact ih l1 l2 (l3 + 1) (mk_st M 76 (l2).toNatClampNeg (M 76 (l3).toNatClampNeg)) _ h _ _ _ hP hS (lv_sub hl [2, 3, 1, 0] rfl)
def f_X6_leave (a1 : Int32) (M : mk_M) : Option (mk_M) := (if mk_ob a1 13 then none else (if (M 69 (a1).toNatClampNeg) = 0 then (some M) else (if mk_ob a1 13 then none else (if (M 70 (a1).toNatClampNeg) = 0 then (some M) else ((f_X6_pending a1 M).bind (fun r_6 => (if r_6 ≤ 0 then (if mk_ob a1 13 then none else ((f_X6_takeOut a1 (mk_st M 69 (a1).toNatClampNeg (vp_nar .boolean 0))).bind (fun r_10 => (f_X6_leave_43 mk_F a1 0 0 r_10)))) else (some M))))))))
set_option maxHeartbeats 4000000 in
set_option maxRecDepth 100000 in
theorem c_X6_leave (l : Launch) (D : va_G) (E : mk_E) (L : Nat → Int64) (a1 : Int32) (M : mk_M) {q : mk_M} (h : f_X6_leave a1 M = some q) : Met l yX6_leave wsX6_leave rm_X6_leave (va_Pc [.ref (E.1 68), .int a1] (mk_W D E M L)) (mk_Qv D E L q) 0 0 (mk_A E) := by
  refine Met.ofW (cc := cX6_leave) (maxL := 4) (ret := none) (by decide) rfl ?_
  intro p e s m args below meth c s₁ B hml hv
  obtain ⟨rfl, hP, hK, hD0, hN⟩ := hv
  have hx := B.exec
  have hb := B.bytes
  have hr := B.returns
  have hts := atoms_spec (ws := wsX6_leave) B.pre
  have hown : s.vm.findClass RX6 = some m.cls := findClass_of_methodNamed B.named
  have hlk := B.notSynchronized
  have hD : ∀ (M : mk_M) (L : Nat → Int64), va_D (mk_A E) (mk_wl E M L) := fun _ _ => mk_D hD0
  have C0 : mk_C p s m [.ref (E.1 68), .int a1].toArray meth c cX6_leave 4 wsX6_leave RX6 none D E := ⟨hx, hb, hml, hown, hts, hr, hlk, hK, hD, hN⟩
  have hS : va_S (mk_A E) s.heap s.heap [] := va_S.rf
  have hl := lv_entry ([.ref (E.1 68), .int a1]) (n := 4) (Nat.le_of_ble_eq_true rfl)
  rw [lg_entry_eq]
  generalize (lg_sl ([.ref (E.1 68), .int a1]) ++ List.replicate (4 - (lg_sl ([.ref (E.1 68), .int a1])).length) Slot.unset).toArray = ls at hl ⊢
  have hl : lv_has ls 4 [(0, .ref (E.1 68)), (1, .int a1)] := hl
  replace h : (if mk_ob a1 13 then none else (if (M 69 (a1).toNatClampNeg) = 0 then (some M) else (if mk_ob a1 13 then none else (if (M 70 (a1).toNatClampNeg) = 0 then (some M) else ((f_X6_pending a1 M).bind (fun r_6 => (if r_6 ≤ 0 then (if mk_ob a1 13 then none else ((f_X6_takeOut a1 (mk_st M 69 (a1).toNatClampNeg (vp_nar .boolean 0))).bind (fun r_10 => (f_X6_leave_43 mk_F a1 0 0 r_10)))) else (some M)))))))) = some q := h
  refine lv_aload_n hx hb dX6_leave_0 rfl (lv_at hl 0 rfl) ?_
  refine mk_g6_1 hx hb hts in_X6_leave_X6 hown hK hP (by decide) rfl (hts (.fieldLink RX6 7 "MixedKernelModel" "known" "[Z") (by decide +kernel)) dX6_leave_1 ?_
  refine lv_iload_n hx hb dX6_leave_4 rfl (lv_at hl 1 rfl) ?_
  obtain ⟨i_1, h⟩ := mk_ifn h
  refine mk_za hx hb hK hP (by decide) rfl i_1 dX6_leave_5 ?_
  refine lv_if_eq (tgt := 26) hx hb dX6_leave_6 (by decide) (fun c_2 => ?_) (fun c_2 => ?_)
  · replace h := (if_pos c_2).symm.trans h
    replace h := Option.some.inj h
    subst q
    exact W.vret hx hb hr (fun t ht hW => ⟨⟨(), rfl, trivial, by rw [← ht] at hP; exact hP⟩, hS.F ht⟩) hS.2.2 dX6_leave_26
  · replace h := (if_neg c_2).symm.trans h
    refine lv_aload_n hx hb dX6_leave_9 rfl (lv_at hl 0 rfl) ?_
    refine mk_g6_2 hx hb hts in_X6_leave_X6 hown hK hP (by decide) rfl (hts (.fieldLink RX6 13 "MixedKernelModel" "leaving" "[Z") (by decide +kernel)) dX6_leave_10 ?_
    refine lv_iload_n hx hb dX6_leave_13 rfl (lv_at hl 1 rfl) ?_
    obtain ⟨i_3, h⟩ := mk_ifn h
    refine mk_za hx hb hK hP (by decide) rfl i_3 dX6_leave_14 ?_
    refine lv_if_eq (tgt := 26) hx hb dX6_leave_15 (by decide) (fun c_4 => ?_) (fun c_4 => ?_)
    · replace h := (if_pos c_4).symm.trans h
      replace h := Option.some.inj h
      subst q
      exact W.vret hx hb hr (fun t ht hW => ⟨⟨(), rfl, trivial, by rw [← ht] at hP; exact hP⟩, hS.F ht⟩) hS.2.2 dX6_leave_26
    · replace h := (if_neg c_4).symm.trans h
      refine lv_aload_n hx hb dX6_leave_18 rfl (lv_at hl 0 rfl) ?_
      refine lv_iload_n hx hb dX6_leave_19 rfl (lv_at hl 1 rfl) ?_
      obtain ⟨r_6, e_5, h⟩ := mk_bind h
      refine va_calli (va_runV (As := [.int a1]) (rest := []) ⟨hx, hb, hml, hown, hts⟩ (c_X6_pending l D E L a1 M  e_5) (cwV 1 hts gX6_leave_X6_pending rfl rfl rfl (by decide +kernel) ⟨Nat.le_of_ble_eq_true rfl, Nat.le_of_ble_eq_true rfl⟩) ⟨mk_W.blind, mk_rc6 hK hP (by decide) rfl, fun U hU hW => ⟨rfl, mk_W.at hU hW hP hK (hD _ _) hN⟩⟩ rfl rfl hl.1 rfl (lv_room (Nat.le_of_ble_eq_true rfl)) dX6_leave_20 ⟨Nat.zero_le _, Nat.zero_le _⟩) hS (fun q _ h => h) (fun q h => h) (fun v_16 u t H1 locs ht hvm hw hB hz1 hk1 hS => ?_)
      subst v_16
      rw [ht] at hB
      replace hP := hB
      clear hB hz1 hk1 hvm ht
      generalize H1 = H at hP hS ⊢
      refine lv_if_le (tgt := 27) hx hb dX6_leave_23 (by decide) (fun c_7 => ?_) (fun c_7 => ?_)
      · replace h := (if_pos c_7).symm.trans h
        refine lv_aload_n hx hb dX6_leave_27 rfl (lv_at hl 0 rfl) ?_
        refine mk_g6_1 hx hb hts in_X6_leave_X6 hown hK hP (by decide) rfl (hts (.fieldLink RX6 7 "MixedKernelModel" "known" "[Z") (by decide +kernel)) dX6_leave_28 ?_
        refine lv_iload_n hx hb dX6_leave_31 rfl (lv_at hl 1 rfl) ?_
        refine lv_iconst (v := 0) hx hb dX6_leave_32 (by decide) ?_
        obtain ⟨i_8, h⟩ := mk_ifn h
        refine mk_zs hx hb hK hP (hD _ _) hS (by decide) rfl i_8 dX6_leave_33 (fun H locs hP hS => ?_)
        refine lv_aload_n hx hb dX6_leave_34 rfl (lv_at hl 0 rfl) ?_
        refine lv_iload_n hx hb dX6_leave_35 rfl (lv_at hl 1 rfl) ?_
        obtain ⟨r_10, e_9, h⟩ := mk_bind h
        refine va_callv (va_runV (As := [.int a1]) (rest := []) ⟨hx, hb, hml, hown, hts⟩ (c_X6_takeOut l D E L a1 (mk_st M 69 (a1).toNatClampNeg (vp_nar .boolean 0))  e_9) (cwV 1 hts gX6_leave_X6_takeOut rfl rfl rfl (by decide +kernel) ⟨Nat.le_of_ble_eq_true rfl, Nat.le_of_ble_eq_true rfl⟩) ⟨mk_W.blind, mk_rc6 hK hP (by decide) rfl, fun U hU hW => ⟨rfl, mk_W.at hU hW hP hK (hD _ _) hN⟩⟩ rfl rfl hl.1 rfl (lv_room (Nat.le_of_ble_eq_true rfl)) dX6_leave_36 ⟨Nat.zero_le _, Nat.zero_le _⟩) hS (fun q _ h => h) (fun q h => h) (fun u t H1 locs ht hvm hw hB hz1 hk1 hS => ?_)
        rw [ht] at hB
        replace hP := hB
        clear hB hz1 hk1 hvm ht
        generalize H1 = H at hP hS ⊢
        refine lv_iconst (v := 0) hx hb dX6_leave_39 (by decide) ?_
        refine lv_istore_n (lv' := [(2, .int 0), (0, .ref (E.1 68)), (1, .int a1)]) hx hb dX6_leave_40 rfl hl (by decide) rfl (fun ls hl => ?_)
        refine lv_iconst (v := 0) hx hb dX6_leave_41 (by decide) ?_
        refine lv_istore_n (lv' := [(3, .int 0), (2, .int 0), (0, .ref (E.1 68)), (1, .int a1)]) hx hb dX6_leave_42 rfl hl (by decide) rfl (fun ls hl => ?_)
        exact w_X6_leave_43 C0 mk_F a1 0 0 r_10 _ h _ _ _ hP hS (lv_sub hl [2, 3, 1, 0] rfl)
      · replace h := (if_neg c_7).symm.trans h
        replace h := Option.some.inj h
        subst q
        exact W.vret hx hb hr (fun t ht hW => ⟨⟨(), rfl, trivial, by rw [← ht] at hP; exact hP⟩, hS.F ht⟩) hS.2.2 dX6_leave_26
