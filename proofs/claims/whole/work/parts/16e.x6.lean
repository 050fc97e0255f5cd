abbrev rm_X6_about : Room := { frames := 3, cells := 0, slots := 0, locals := 66 }
theorem in_X6_about_X6 : ∀ w ∈ wsX60, w ∈ wsX6_about := by decide +kernel
def f_X6_about (a1 : Int32) (a2 : Int32) (M : mk_M) : Option (Int32 × mk_M) := ((f_X6_isKnown a1 M).bind (fun r_2 => ((f_X6_within a2 0 8 M).bind (fun r_4 => ((f_X6_goes r_2 r_4 1 M).bind (fun r_6 => (if r_6.1 = 0 then (some (0, r_6.2)) else (if a2 = 0 then ((f_X6_place a1 r_6.2).bind (fun r_10 => (some (r_10, r_6.2)))) else (if a2 = 1 then ((f_X6_planPlace a1 r_6.2).bind (fun r_14 => (some (r_14, r_6.2)))) else (if a2 = 2 then ((f_X6_pending a1 r_6.2).bind (fun r_18 => (some (r_18, r_6.2)))) else (if a2 = 3 then (if mk_ob a1 13 then none else (some (r_6.2 78 (a1).toNatClampNeg, r_6.2))) else (if a2 = 4 then (if mk_ob a1 13 then none else (some (r_6.2 79 (a1).toNatClampNeg, r_6.2))) else (if a2 = 5 then (if mk_ob a1 13 then none else (some (r_6.2 80 (a1).toNatClampNeg, r_6.2))) else (if a2 = 6 then (if mk_ob a1 13 then none else (some (r_6.2 82 (a1).toNatClampNeg, r_6.2))) else (if a2 = 7 then (if mk_ob a1 13 then none else (if (r_6.2 70 (a1).toNatClampNeg) = 0 then (some (0, r_6.2)) else (some (1, r_6.2)))) else ((f_X6_late a1 r_6.2).bind (fun r_32 => (some (r_32, r_6.2)))))))))))))))))))
set_option maxHeartbeats 4000000 in
set_option maxRecDepth 100000 in
theorem c_X6_about (l : Launch) (D : va_G) (E : mk_E) (L : Nat → Int64) (a1 : Int32) (a2 : Int32) (M : mk_M) {q : Int32 × mk_M} (h : f_X6_about a1 a2 M = some q) : Met l yX6_about wsX6_about rm_X6_about (va_Pc [.ref (E.1 68), .int a1, .int a2] (mk_W D E M L)) (mk_Qi D E L q.1 q.2) 0 0 (mk_A E) := by
  refine Met.ofW (cc := cX6_about) (maxL := 3) (ret := (some .int)) (by decide) rfl ?_
  intro p e s m args below meth c s₁ B hml hv
  obtain ⟨rfl, hP, hK, hD0, hN⟩ := hv
  have hx := B.exec
  have hb := B.bytes
  have hr := B.returns
  have hts := atoms_spec (ws := wsX6_about) B.pre
  have hown : s.vm.findClass RX6 = some m.cls := findClass_of_methodNamed B.named
  have hlk := B.notSynchronized
  have hD : ∀ (M : mk_M) (L : Nat → Int64), va_D (mk_A E) (mk_wl E M L) := fun _ _ => mk_D hD0
  have C0 : mk_C p s m [.ref (E.1 68), .int a1, .int a2].toArray meth c cX6_about 3 wsX6_about RX6 (some .int) D E := ⟨hx, hb, hml, hown, hts, hr, hlk, hK, hD, hN⟩
  have hS : va_S (mk_A E) s.heap s.heap [] := va_S.rf
  have hl := lv_entry ([.ref (E.1 68), .int a1, .int a2]) (n := 3) (Nat.le_of_ble_eq_true rfl)
  rw [lg_entry_eq]
  generalize (lg_sl ([.ref (E.1 68), .int a1, .int a2]) ++ List.replicate (3 - (lg_sl ([.ref (E.1 68), .int a1, .int a2])).length) Slot.unset).toArray = ls at hl ⊢
  have hl : lv_has ls 3 [(0, .ref (E.1 68)), (1, .int a1), (2, .int a2)] := hl
  replace h : ((f_X6_isKnown a1 M).bind (fun r_2 => ((f_X6_within a2 0 8 M).bind (fun r_4 => ((f_X6_goes r_2 r_4 1 M).bind (fun r_6 => (if r_6.1 = 0 then (some (0, r_6.2)) else (if a2 = 0 then ((f_X6_place a1 r_6.2).bind (fun r_10 => (some (r_10, r_6.2)))) else (if a2 = 1 then ((f_X6_planPlace a1 r_6.2).bind (fun r_14 => (some (r_14, r_6.2)))) else (if a2 = 2 then ((f_X6_pending a1 r_6.2).bind (fun r_18 => (some (r_18, r_6.2)))) else (if a2 = 3 then (if mk_ob a1 13 then none else (some (r_6.2 78 (a1).toNatClampNeg, r_6.2))) else (if a2 = 4 then (if mk_ob a1 13 then none else (some (r_6.2 79 (a1).toNatClampNeg, r_6.2))) else (if a2 = 5 then (if mk_ob a1 13 then none else (some (r_6.2 80 (a1).toNatClampNeg, r_6.2))) else (if a2 = 6 then (if mk_ob a1 13 then none else (some (r_6.2 82 (a1).toNatClampNeg, r_6.2))) else (if a2 = 7 then (if mk_ob a1 13 then none else (if (r_6.2 70 (a1).toNatClampNeg) = 0 then (some (0, r_6.2)) else (some (1, r_6.2)))) else ((f_X6_late a1 r_6.2).bind (fun r_32 => (some (r_32, r_6.2))))))))))))))))))) = some q := h
  refine lv_aload_n hx hb dX6_about_0 rfl (lv_at hl 0 rfl) ?_
  refine lv_aload_n hx hb dX6_about_1 rfl (lv_at hl 0 rfl) ?_
  refine lv_iload_n hx hb dX6_about_2 rfl (lv_at hl 1 rfl) ?_
  obtain ⟨r_2, e_1, h⟩ := mk_bind h
  refine va_calli (va_runV (As := [.int a1]) (rest := [.ref (E.1 68)]) ⟨hx, hb, hml, hown, hts⟩ (c_X6_isKnown l D E L a1 M  e_1) (cwV 1 hts gX6_about_X6_isKnown rfl rfl rfl (by decide +kernel) ⟨Nat.le_of_ble_eq_true rfl, Nat.le_of_ble_eq_true rfl⟩) ⟨mk_W.blind, mk_rc6 hK hP (by decide) rfl, fun U hU hW => ⟨rfl, mk_W.at hU hW hP hK (hD _ _) hN⟩⟩ rfl rfl hl.1 rfl (lv_room (Nat.le_of_ble_eq_true rfl)) dX6_about_3 ⟨Nat.zero_le _, Nat.zero_le _⟩) hS (fun q _ h => h) (fun q h => h) (fun v_36 u t H1 locs ht hvm hw hB hz1 hk1 hS => ?_)
  subst v_36
  rw [ht] at hB
  replace hP := hB
  clear hB hz1 hk1 hvm ht
  generalize H1 = H at hP hS ⊢
  refine lv_iload_n hx hb dX6_about_6 rfl (lv_at hl 2 rfl) ?_
  refine lv_iconst (v := 0) hx hb dX6_about_7 (by decide) ?_
  refine lv_bipush (v := 8) hx hb dX6_about_8 (by decide) ?_
  obtain ⟨r_4, e_3, h⟩ := mk_bind h
  refine va_calli (va_runS (As := [.int a2, .int 0, .int 8]) (rest := [.int r_2, .ref (E.1 68)]) ⟨hx, hb, hml, hown, hts⟩ (c_X6_within l D E L a2 0 8 M  e_3) (cwS 3 hts gX6_about_X6_within rfl rfl rfl (by decide +kernel) ⟨Nat.le_of_ble_eq_true rfl, Nat.le_of_ble_eq_true rfl⟩) ⟨mk_W.blind, fun U hU hW => ⟨rfl, mk_W.at hU hW hP hK (hD _ _) hN⟩⟩ rfl rfl hl.1 rfl (lv_room (Nat.le_of_ble_eq_true rfl)) dX6_about_10 ⟨Nat.zero_le _, Nat.zero_le _⟩) hS (fun q _ h => h) (fun q h => h) (fun v_35 u t H1 locs ht hvm hw hB hz1 hk1 hS => ?_)
  subst v_35
  rw [ht] at hB
  replace hP := hB
  clear hB hz1 hk1 hvm ht
  generalize H1 = H at hP hS ⊢
  refine lv_iconst (v := 1) hx hb dX6_about_13 (by decide) ?_
  obtain ⟨r_6, e_5, h⟩ := mk_bind h
  refine va_calli (va_runV (As := [.int r_2, .int r_4, .int 1]) (rest := []) ⟨hx, hb, hml, hown, hts⟩ (c_X6_goes l D E L r_2 r_4 1 M  e_5) (cwV 3 hts gX6_about_X6_goes rfl rfl rfl (by decide +kernel) ⟨Nat.le_of_ble_eq_true rfl, Nat.le_of_ble_eq_true rfl⟩) ⟨mk_W.blind, mk_rc6 hK hP (by decide) rfl, fun U hU hW => ⟨rfl, mk_W.at hU hW hP hK (hD _ _) hN⟩⟩ rfl rfl hl.1 rfl (lv_room (Nat.le_of_ble_eq_true rfl)) dX6_about_14 ⟨Nat.zero_le _, Nat.zero_le _⟩) hS (fun q _ h => h) (fun q h => h) (fun v_34 u t H1 locs ht hvm hw hB hz1 hk1 hS => ?_)
  subst v_34
  rw [ht] at hB
  replace hP := hB
  clear hB hz1 hk1 hvm ht
  generalize H1 = H at hP hS ⊢
  refine lv_if_ne (tgt := 22) hx hb dX6_about_17 (by decide) (fun c_7 => ?_) (fun c_7 => ?_)
  · replace h := (if_neg c_7).symm.trans h
    refine lv_iload_n hx hb dX6_about_22 rfl (lv_at hl 2 rfl) ?_
    by_cases c_8 : a2 = 0
    · replace h := (if_pos c_8).symm.trans h
      refine lv_tableIn (x := a2) (tgt := 68) hx hb dX6_about_23 (by rw [c_8]; decide) (by rw [c_8]; decide) (by rw [c_8]; rfl) (by decide) ?_
      refine lv_aload_n hx hb dX6_about_68 rfl (lv_at hl 0 rfl) ?_
      refine lv_iload_n hx hb dX6_about_69 rfl (lv_at hl 1 rfl) ?_
      obtain ⟨r_10, e_9, h⟩ := mk_bind h
      refine va_calli (va_runV (As := [.int a1]) (rest := []) ⟨hx, hb, hml, hown, hts⟩ (c_X6_place l D E L a1 r_6.2  e_9) (cwV 1 hts gX6_about_X6_place rfl rfl rfl (by decide +kernel) ⟨Nat.le_of_ble_eq_true rfl, Nat.le_of_ble_eq_true rfl⟩) ⟨mk_W.blind, mk_rc6 hK hP (by decide) rfl, fun U hU hW => ⟨rfl, mk_W.at hU hW hP hK (hD _ _) hN⟩⟩ rfl rfl hl.1 rfl (lv_room (Nat.le_of_ble_eq_true rfl)) dX6_about_70 ⟨Nat.zero_le _, Nat.zero_le _⟩) hS (fun q _ h => h) (fun q h => h) (fun v_11 u t H1 locs ht hvm hw hB hz1 hk1 hS => ?_)
      subst v_11
      rw [ht] at hB
      replace hP := hB
      clear hB hz1 hk1 hvm ht
      generalize H1 = H at hP hS ⊢
      replace h := Option.some.inj h
      subst q
      exact W.iret (v := r_10) hx hb hr (fun t ht hW => ⟨⟨_, (), rfl, rfl, by rw [← ht] at hP; exact hP⟩, hS.F ht⟩) hS.2.2 dX6_about_73
    · replace h := (if_neg c_8).symm.trans h
      by_cases c_12 : a2 = 1
      · replace h := (if_pos c_12).symm.trans h
        refine lv_tableIn (x := a2) (tgt := 74) hx hb dX6_about_23 (by rw [c_12]; decide) (by rw [c_12]; decide) (by rw [c_12]; rfl) (by decide) ?_
        refine lv_aload_n hx hb dX6_about_74 rfl (lv_at hl 0 rfl) ?_
        refine lv_iload_n hx hb dX6_about_75 rfl (lv_at hl 1 rfl) ?_
        obtain ⟨r_14, e_13, h⟩ := mk_bind h
        refine va_calli (va_runV (As := [.int a1]) (rest := []) ⟨hx, hb, hml, hown, hts⟩ (c_X6_planPlace l D E L a1 r_6.2  e_13) (cwV 1 hts gX6_about_X6_planPlace rfl rfl rfl (by decide +kernel) ⟨Nat.le_of_ble_eq_true rfl, Nat.le_of_ble_eq_true rfl⟩) ⟨mk_W.blind, mk_rc6 hK hP (by decide) rfl, fun U hU hW => ⟨rfl, mk_W.at hU hW hP hK (hD _ _) hN⟩⟩ rfl rfl hl.1 rfl (lv_room (Nat.le_of_ble_eq_true rfl)) dX6_about_76 ⟨Nat.zero_le _, Nat.zero_le _⟩) hS (fun q _ h => h) (fun q h => h) (fun v_15 u t H1 locs ht hvm hw hB hz1 hk1 hS => ?_)
        subst v_15
        rw [ht] at hB
        replace hP := hB
        clear hB hz1 hk1 hvm ht
        generalize H1 = H at hP hS ⊢
        replace h := Option.some.inj h
        subst q
        exact W.iret (v := r_14) hx hb hr (fun t ht hW => ⟨⟨_, (), rfl, rfl, by rw [← ht] at hP; exact hP⟩, hS.F ht⟩) hS.2.2 dX6_about_79
      · replace h := (if_neg c_12).symm.trans h
        by_cases c_16 : a2 = 2
        · replace h := (if_pos c_16).symm.trans h
          refine lv_tableIn (x := a2) (tgt := 80) hx hb dX6_about_23 (by rw [c_16]; decide) (by rw [c_16]; decide) (by rw [c_16]; rfl) (by decide) ?_
          refine lv_aload_n hx hb dX6_about_80 rfl (lv_at hl 0 rfl) ?_
          refine lv_iload_n hx hb dX6_about_81 rfl (lv_at hl 1 rfl) ?_
          obtain ⟨r_18, e_17, h⟩ := mk_bind h
          refine va_calli (va_runV (As := [.int a1]) (rest := []) ⟨hx, hb, hml, hown, hts⟩ (c_X6_pending l D E L a1 r_6.2  e_17) (cwV 1 hts gX6_about_X6_pending rfl rfl rfl (by decide +kernel) ⟨Nat.le_of_ble_eq_true rfl, Nat.le_of_ble_eq_true rfl⟩) ⟨mk_W.blind, mk_rc6 hK hP (by decide) rfl, fun U hU hW => ⟨rfl, mk_W.at hU hW hP hK (hD _ _) hN⟩⟩ rfl rfl hl.1 rfl (lv_room (Nat.le_of_ble_eq_true rfl)) dX6_about_82 ⟨Nat.zero_le _, Nat.zero_le _⟩) hS (fun q _ h => h) (fun q h => h) (fun v_19 u t H1 locs ht hvm hw hB hz1 hk1 hS => ?_)
          subst v_19
          rw [ht] at hB
          replace hP := hB
          clear hB hz1 hk1 hvm ht
          generalize H1 = H at hP hS ⊢
          replace h := Option.some.inj h
          subst q
          exact W.iret (v := r_18) hx hb hr (fun t ht hW => ⟨⟨_, (), rfl, rfl, by rw [← ht] at hP; exact hP⟩, hS.F ht⟩) hS.2.2 dX6_about_85
        · replace h := (if_neg c_16).symm.trans h
          by_cases c_20 : a2 = 3
          · replace h := (if_pos c_20).symm.trans h
            refine lv_tableIn (x := a2) (tgt := 86) hx hb dX6_about_23 (by rw [c_20]; decide) (by rw [c_20]; decide) (by rw [c_20]; rfl) (by decide) ?_
            refine lv_aload_n hx hb dX6_about_86 rfl (lv_at hl 0 rfl) ?_
            refine mk_g6_12 hx hb hts in_X6_about_X6 hown hK hP (by decide) rfl (hts (.fieldLink RX6 38 "MixedKernelModel" "jobs" "[I") (by decide +kernel)) dX6_about_87 ?_
            refine lv_iload_n hx hb dX6_about_90 rfl (lv_at hl 1 rfl) ?_
            obtain ⟨i_21, h⟩ := mk_ifn h
            refine mk_ia hx hb hK hP (by decide) rfl i_21 dX6_about_91 ?_
            replace h := Option.some.inj h
            subst q
            exact W.iret (v := r_6.2 78 (a1).toNatClampNeg) hx hb hr (fun t ht hW => ⟨⟨_, (), rfl, rfl, by rw [← ht] at hP; exact hP⟩, hS.F ht⟩) hS.2.2 dX6_about_92
          · replace h := (if_neg c_20).symm.trans h
            by_cases c_22 : a2 = 4
            · replace h := (if_pos c_22).symm.trans h
              refine lv_tableIn (x := a2) (tgt := 93) hx hb dX6_about_23 (by rw [c_22]; decide) (by rw [c_22]; decide) (by rw [c_22]; rfl) (by decide) ?_
              refine lv_aload_n hx hb dX6_about_93 rfl (lv_at hl 0 rfl) ?_
              refine mk_g6_13 hx hb hts in_X6_about_X6 hown hK hP (by decide) rfl (hts (.fieldLink RX6 41 "MixedKernelModel" "drops" "[I") (by decide +kernel)) dX6_about_94 ?_
              refine lv_iload_n hx hb dX6_about_97 rfl (lv_at hl 1 rfl) ?_
              obtain ⟨i_23, h⟩ := mk_ifn h
              refine mk_ia hx hb hK hP (by decide) rfl i_23 dX6_about_98 ?_
              replace h := Option.some.inj h
              subst q
              exact W.iret (v := r_6.2 79 (a1).toNatClampNeg) hx hb hr (fun t ht hW => ⟨⟨_, (), rfl, rfl, by rw [← ht] at hP; exact hP⟩, hS.F ht⟩) hS.2.2 dX6_about_99
            · replace h := (if_neg c_22).symm.trans h
              by_cases c_24 : a2 = 5
              · replace h := (if_pos c_24).symm.trans h
                refine lv_tableIn (x := a2) (tgt := 100) hx hb dX6_about_23 (by rw [c_24]; decide) (by rw [c_24]; decide) (by rw [c_24]; rfl) (by decide) ?_
                refine lv_aload_n hx hb dX6_about_100 rfl (lv_at hl 0 rfl) ?_
                refine mk_g6_14 hx hb hts in_X6_about_X6 hown hK hP (by decide) rfl (hts (.fieldLink RX6 44 "MixedKernelModel" "charged" "[I") (by decide +kernel)) dX6_about_101 ?_
                refine lv_iload_n hx hb dX6_about_104 rfl (lv_at hl 1 rfl) ?_
                obtain ⟨i_25, h⟩ := mk_ifn h
                refine mk_ia hx hb hK hP (by decide) rfl i_25 dX6_about_105 ?_
                replace h := Option.some.inj h
                subst q
                exact W.iret (v := r_6.2 80 (a1).toNatClampNeg) hx hb hr (fun t ht hW => ⟨⟨_, (), rfl, rfl, by rw [← ht] at hP; exact hP⟩, hS.F ht⟩) hS.2.2 dX6_about_106
              · replace h := (if_neg c_24).symm.trans h
                by_cases c_26 : a2 = 6
                · replace h := (if_pos c_26).symm.trans h
                  refine lv_tableIn (x := a2) (tgt := 107) hx hb dX6_about_23 (by rw [c_26]; decide) (by rw [c_26]; decide) (by rw [c_26]; rfl) (by decide) ?_
                  refine lv_aload_n hx hb dX6_about_107 rfl (lv_at hl 0 rfl) ?_
                  refine mk_g6_16 hx hb hts in_X6_about_X6 hown hK hP (by decide) rfl (hts (.fieldLink RX6 50 "MixedKernelModel" "nexts" "[I") (by decide +kernel)) dX6_about_108 ?_
                  refine lv_iload_n hx hb dX6_about_111 rfl (lv_at hl 1 rfl) ?_
                  obtain ⟨i_27, h⟩ := mk_ifn h
                  refine mk_ia hx hb hK hP (by decide) rfl i_27 dX6_about_112 ?_
                  replace h := Option.some.inj h
                  subst q
                  exact W.iret (v := r_6.2 82 (a1).toNatClampNeg) hx hb hr (fun t ht hW => ⟨⟨_, (), rfl, rfl, by rw [← ht] at hP; exact hP⟩, hS.F ht⟩) hS.2.2 dX6_about_113
                · replace h := (if_neg c_26).symm.trans h
                  by_cases c_28 : a2 = 7
                  · replace h := (if_pos c_28).symm.trans h
                    refine lv_tableIn (x := a2) (tgt := 114) hx hb dX6_about_23 (by rw [c_28]; decide) (by rw [c_28]; decide) (by rw [c_28]; rfl) (by decide) ?_
                    refine lv_aload_n hx hb dX6_about_114 rfl (lv_at hl 0 rfl) ?_
                    refine mk_g6_2 hx hb hts in_X6_about_X6 hown hK hP (by decide) rfl (hts (.fieldLink RX6 13 "MixedKernelModel" "leaving" "[Z") (by decide +kernel)) dX6_about_115 ?_
                    refine lv_iload_n hx hb dX6_about_118 rfl (lv_at hl 1 rfl) ?_
                    obtain ⟨i_29, h⟩ := mk_ifn h
                    refine mk_za hx hb hK hP (by decide) rfl i_29 dX6_about_119 ?_
                    refine lv_if_eq (tgt := 127) hx hb dX6_about_120 (by decide) (fun c_30 => ?_) (fun c_30 => ?_)
                    · replace h := (if_pos c_30).symm.trans h
                      refine lv_iconst (v := 0) hx hb dX6_about_127 (by decide) ?_
                      replace h := Option.some.inj h
                      subst q
                      exact W.iret (v := 0) hx hb hr (fun t ht hW => ⟨⟨_, (), rfl, rfl, by rw [← ht] at hP; exact hP⟩, hS.F ht⟩) hS.2.2 dX6_about_128
                    · replace h := (if_neg c_30).symm.trans h
                      refine lv_iconst (v := 1) hx hb dX6_about_123 (by decide) ?_
                      refine lv_goto (tgt := 128) hx hb dX6_about_124 (by decide) ?_
                      replace h := Option.some.inj h
                      subst q
                      exact W.iret (v := 1) hx hb hr (fun t ht hW => ⟨⟨_, (), rfl, rfl, by rw [← ht] at hP; exact hP⟩, hS.F ht⟩) hS.2.2 dX6_about_128
                  · replace h := (if_neg c_28).symm.trans h
                    have ec_8 := lv_neT (k := 0) (a := 0) c_8 rfl
                    have ec_12 := lv_neT (k := 1) (a := 1) c_12 rfl
                    have ec_16 := lv_neT (k := 2) (a := 2) c_16 rfl
                    have ec_20 := lv_neT (k := 3) (a := 3) c_20 rfl
                    have ec_22 := lv_neT (k := 4) (a := 4) c_22 rfl
                    have ec_24 := lv_neT (k := 5) (a := 5) c_24 rfl
                    have ec_26 := lv_neT (k := 6) (a := 6) c_26 rfl
                    have ec_28 := lv_neT (k := 7) (a := 7) c_28 rfl
                    refine lv_tableOut (x := a2) (tgt := 129) hx hb dX6_about_23 (by omega) (by decide) ?_
                    refine lv_aload_n hx hb dX6_about_129 rfl (lv_at hl 0 rfl) ?_
                    refine lv_iload_n hx hb dX6_about_130 rfl (lv_at hl 1 rfl) ?_
                    obtain ⟨r_32, e_31, h⟩ := mk_bind h
                    refine va_calli (va_runV (As := [.int a1]) (rest := []) ⟨hx, hb, hml, hown, hts⟩ (c_X6_late l D E L a1 r_6.2  e_31) (cwV 1 hts gX6_about_X6_late rfl rfl rfl (by decide +kernel) ⟨Nat.le_of_ble_eq_true rfl, Nat.le_of_ble_eq_true rfl⟩) ⟨mk_W.blind, mk_rc6 hK hP (by decide) rfl, fun U hU hW => ⟨rfl, mk_W.at hU hW hP hK (hD _ _) hN⟩⟩ rfl rfl hl.1 rfl (lv_room (Nat.le_of_ble_eq_true rfl)) dX6_about_131 ⟨Nat.zero_le _, Nat.zero_le _⟩) hS (fun q _ h => h) (fun q h => h) (fun v_33 u t H1 locs ht hvm hw hB hz1 hk1 hS => ?_)
                    subst v_33
                    rw [ht] at hB
                    replace hP := hB
                    clear hB hz1 hk1 hvm ht
                    generalize H1 = H at hP hS ⊢
                    replace h := Option.some.inj h
                    subst q
                    exact W.iret (v := r_32) hx hb hr (fun t ht hW => ⟨⟨_, (), rfl, rfl, by rw [← ht] at hP; exact hP⟩, hS.F ht⟩) hS.2.2 dX6_about_134
  · replace h := (if_pos c_7).symm.trans h
    refine lv_iconst (v := 0) hx hb dX6_about_20 (by decide) ?_
    replace h := Option.some.inj h
    subst q
    exact W.iret (v := 0) hx hb hr (fun t ht hW => ⟨⟨_, (), rfl, rfl, by rw [← ht] at hP; exact hP⟩, hS.F ht⟩) hS.2.2 dX6_about_21
abbrev rm_X6_witness : Room := { frames := 1, cells := 0, slots := 0, locals := 23 }
theorem in_X6_witness_X6 : ∀ w ∈ wsX60, w ∈ wsX6_witness := by decide +kernel
def f_X6_witness_99 (l2 : Int32) (l4 : Int32) (l5 : Int32) (s0 : Int32) (M : mk_M) : Option (Int32 × mk_M) := ((f_X6_within l2 0 1 M).bind (fun r_4 => ((f_X6_goes s0 r_4 1 M).bind (fun r_6 => (if r_6.1 = 0 then (some (0, r_6.2)) else (if l2 = 0 then (some (l4, r_6.2)) else (some (l5, r_6.2))))))))
set_option maxHeartbeats 4000000 in
set_option maxRecDepth 100000 in
theorem w_X6_witness_99 {p : Program} {l : Launch} {e : Env} {s : State} {m : MethodId} {args : Array Value} {below : List Frame} {meth : Method} {c : Code} {D : va_G} {E : mk_E} {L : Nat → Int64} (C0 : mk_C p s m args meth c cX6_witness 8 wsX6_witness RX6 (some .int) D E) : ∀ (l2 : Int32) (l4 : Int32) (l5 : Int32) (s0 : Int32) (M : mk_M) (q : Int32 × mk_M), f_X6_witness_99 l2 l4 l5 s0 M = some q → ∀ (H : Heap) (locs : List Loc) (ls : Array Slot), va_P D vwCl (mk_wl E M L) H → va_S (mk_A E) s.heap H locs → lv_has ls 8 [(0, .ref (E.1 68)), (2, .int l2), (4, .int l4), (5, .int l5)] → W p l e rm_X6_witness s m args below meth c H locs 0 0 (MQ below (mk_Qi D E L q.1 q.2) args s 0 0 (mk_A E)) (F0 m 99 ls [.int s0]) := by
  obtain ⟨hx, hb, hml, hown, hts, hr, hlk, hK, hD, hN⟩ := id C0
  intro l2 l4 l5 s0 M q h H locs ls hP hS hl
  replace h : ((f_X6_within l2 0 1 M).bind (fun r_4 => ((f_X6_goes s0 r_4 1 M).bind (fun r_6 => (if r_6.1 = 0 then (some (0, r_6.2)) else (if l2 = 0 then (some (l4, r_6.2)) else (some (l5, r_6.2)))))))) = some q := h
  refine lv_istore (lv' := [(6, .int s0), (0, .ref (E.1 68)), (2, .int l2), (4, .int l4), (5, .int l5)]) hx hb dX6_witness_99 hl (by decide) rfl (fun ls hl => ?_)
  refine lv_aload_n hx hb dX6_witness_101 rfl (lv_at hl 1 rfl) ?_
  refine lv_iload hx hb dX6_witness_102 (lv_at hl 0 rfl) ?_
  refine lv_iload_n hx hb dX6_witness_104 rfl (lv_at hl 2 rfl) ?_
  refine lv_iconst (v := 0) hx hb dX6_witness_105 (by decide) ?_
  refine lv_iconst (v := 1) hx hb dX6_witness_106 (by decide) ?_
  obtain ⟨r_4, e_3, h⟩ := mk_bind h
  refine va_calli (va_runS (As := [.int l2, .int 0, .int 1]) (rest := [.int s0, .ref (E.1 68)]) ⟨hx, hb, hml, hown, hts⟩ (c_X6_within l D E L l2 0 1 M  e_3) (cwS 3 hts gX6_witness_X6_within rfl rfl rfl (by decide +kernel) ⟨Nat.le_of_ble_eq_true rfl, Nat.le_of_ble_eq_true rfl⟩) ⟨mk_W.blind, fun U hU hW => ⟨rfl, mk_W.at hU hW hP hK (hD _ _) hN⟩⟩ rfl rfl hl.1 rfl (lv_room (Nat.le_of_ble_eq_true rfl)) dX6_witness_107 ⟨Nat.zero_le _, Nat.zero_le _⟩) hS (fun q _ h => h) (fun q h => h) (fun v_10 u t H1 locs ht hvm hw hB hz1 hk1 hS => ?_)
  subst v_10
  rw [ht] at hB
  replace hP := hB
  clear hB hz1 hk1 hvm ht
  generalize H1 = H at hP hS ⊢
  refine lv_iconst (v := 1) hx hb dX6_witness_110 (by decide) ?_
  obtain ⟨r_6, e_5, h⟩ := mk_bind h
  refine va_calli (va_runV (As := [.int s0, .int r_4, .int 1]) (rest := []) ⟨hx, hb, hml, hown, hts⟩ (c_X6_goes l D E L s0 r_4 1 M  e_5) (cwV 3 hts gX6_witness_X6_goes rfl rfl rfl (by decide +kernel) ⟨Nat.le_of_ble_eq_true rfl, Nat.le_of_ble_eq_true rfl⟩) ⟨mk_W.blind, mk_rc6 hK hP (by decide) rfl, fun U hU hW => ⟨rfl, mk_W.at hU hW hP hK (hD _ _) hN⟩⟩ rfl rfl hl.1 rfl (lv_room (Nat.le_of_ble_eq_true rfl)) dX6_witness_111 ⟨Nat.zero_le _, Nat.zero_le _⟩) hS (fun q _ h => h) (fun q h => h) (fun v_9 u t H1 locs ht hvm hw hB hz1 hk1 hS => ?_)
  subst v_9
  rw [ht] at hB
  replace hP := hB
  clear hB hz1 hk1 hvm ht
  generalize H1 = H at hP hS ⊢
  refine lv_if_ne (tgt := 119) hx hb dX6_witness_114 (by decide) (fun c_7 => ?_) (fun c_7 => ?_)
  · replace h := (if_neg c_7).symm.trans h
    refine lv_iload_n hx hb dX6_witness_119 rfl (lv_at hl 2 rfl) ?_
    refine lv_if_ne (tgt := 128) hx hb dX6_witness_120 (by decide) (fun c_8 => ?_) (fun c_8 => ?_)
    · replace h := (if_neg c_8).symm.trans h
      refine lv_iload hx hb dX6_witness_128 (lv_at hl 4 rfl) ?_
      replace h := Option.some.inj h
      subst q
      exact W.iret (v := l5) hx hb hr (fun t ht hW => ⟨⟨_, (), rfl, rfl, by rw [← ht] at hP; exact hP⟩, hS.F ht⟩) hS.2.2 dX6_witness_130
    · replace h := (if_pos c_8).symm.trans h
      refine lv_iload hx hb dX6_witness_123 (lv_at hl 3 rfl) ?_
      refine lv_goto (tgt := 130) hx hb dX6_witness_125 (by decide) ?_
      replace h := Option.some.inj h
      subst q
      exact W.iret (v := l4) hx hb hr (fun t ht hW => ⟨⟨_, (), rfl, rfl, by rw [← ht] at hP; exact hP⟩, hS.F ht⟩) hS.2.2 dX6_witness_130
  · replace h := (if_pos c_7).symm.trans h
    refine lv_iconst (v := 0) hx hb dX6_witness_117 (by decide) ?_
    replace h := Option.some.inj h
    subst q
    exact W.iret (v := 0) hx hb hr (fun t ht hW => ⟨⟨_, (), rfl, rfl, by rw [← ht] at hP; exact hP⟩, hS.F ht⟩) hS.2.2 dX6_witness_118
def f_X6_witness_98 (l2 : Int32) (l4 : Int32) (l5 : Int32) (M : mk_M) : Option (Int32 × mk_M) := (f_X6_witness_99 l2 l4 l5 0 M)
set_option maxHeartbeats 4000000 in
set_option maxRecDepth 100000 in
theorem w_X6_witness_98 {p : Program} {l : Launch} {e : Env} {s : State} {m : MethodId} {args : Array Value} {below : List Frame} {meth : Method} {c : Code} {D : va_G} {E : mk_E} {L : Nat → Int64} (C0 : mk_C p s m args meth c cX6_witness 8 wsX6_witness RX6 (some .int) D E) : ∀ (l2 : Int32) (l4 : Int32) (l5 : Int32) (M : mk_M) (q : Int32 × mk_M), f_X6_witness_98 l2 l4 l5 M = some q → ∀ (H : Heap) (locs : List Loc) (ls : Array Slot), va_P D vwCl (mk_wl E M L) H → va_S (mk_A E) s.heap H locs → lv_has ls 8 [(0, .ref (E.1 68)), (2, .int l2), (4, .int l4), (5, .int l5)] → W p l e rm_X6_witness s m args below meth c H locs 0 0 (MQ below (mk_Qi D E L q.1 q.2) args s 0 0 (mk_A E)) (F0 m 98 ls []) := by
  obtain ⟨hx, hb, hml, hown, hts, hr, hlk, hK, hD, hN⟩ := id C0
  intro l2 l4 l5 M q h H locs ls hP hS hl
  replace h : (f_X6_witness_99 l2 l4 l5 0 M) = some q := h
  refine lv_iconst (v := 0) hx hb dX6_witness_98 (by decide) ?_
  exact w_X6_witness_99 C0 l2 l4 l5 0 M _ h _ _ _ hP hS (lv_sub hl [0, 1, 2, 3] rfl)
def f_X6_witness_86 (l1 : Int32) (l2 : Int32) (l3 : Int32) (l4 : Int32) (l5 : Int32) (M : mk_M) : Option (Int32 × mk_M) := (if l1 < 0 then (f_X6_witness_98 l2 l4 l5 M) else (if 0 ≤ l3 then (f_X6_witness_98 l2 l4 l5 M) else (f_X6_witness_99 l2 l4 l5 1 M)))
set_option maxHeartbeats 4000000 in
set_option maxRecDepth 100000 in
theorem w_X6_witness_86 {p : Program} {l : Launch} {e : Env} {s : State} {m : MethodId} {args : Array Value} {below : List Frame} {meth : Method} {c : Code} {D : va_G} {E : mk_E} {L : Nat → Int64} (C0 : mk_C p s m args meth c cX6_witness 8 wsX6_witness RX6 (some .int) D E) : ∀ (l1 : Int32) (l2 : Int32) (l3 : Int32) (l4 : Int32) (l5 : Int32) (M : mk_M) (q : Int32 × mk_M), f_X6_witness_86 l1 l2 l3 l4 l5 M = some q → ∀ (H : Heap) (locs : List Loc) (ls : Array Slot), va_P D vwCl (mk_wl E M L) H → va_S (mk_A E) s.heap H locs → lv_has ls 8 [(0, .ref (E.1 68)), (1, .int l1), (2, .int l2), (3, .int l3), (4, .int l4), (5, .int l5)] → W p l e rm_X6_witness s m args below meth c H locs 0 0 (MQ below (mk_Qi D E L q.1 q.2) args s 0 0 (mk_A E)) (F0 m 86 ls []) := by
  obtain ⟨hx, hb, hml, hown, hts, hr, hlk, hK, hD, hN⟩ := id C0
  intro l1 l2 l3 l4 l5 M q h H locs ls hP hS hl
  replace h : (if l1 < 0 then (f_X6_witness_98 l2 l4 l5 M) else (if 0 ≤ l3 then (f_X6_witness_98 l2 l4 l5 M) else (f_X6_witness_99 l2 l4 l5 1 M))) = some q := h
  refine lv_iload_n hx hb dX6_witness_86 rfl (lv_at hl 1 rfl) ?_
  refine lv_if_lt (tgt := 98) hx hb dX6_witness_87 (by decide) (fun c_2 => ?_) (fun c_2 => ?_)
  · replace h := (if_pos c_2).symm.trans h
    exact w_X6_witness_98 C0 l2 l4 l5 M _ h _ _ _ hP hS (lv_sub hl [0, 2, 4, 5] rfl)
  · replace h := (if_neg c_2).symm.trans h
    refine lv_iload_n hx hb dX6_witness_90 rfl (lv_at hl 3 rfl) ?_
    refine lv_if_ge (tgt := 98) hx hb dX6_witness_91 (by decide) (fun c_11 => ?_) (fun c_11 => ?_)
    · replace h := (if_pos c_11).symm.trans h
      exact w_X6_witness_98 C0 l2 l4 l5 M _ h _ _ _ hP hS (lv_sub hl [0, 2, 4, 5] rfl)
    · replace h := (if_neg c_11).symm.trans h
      refine lv_iconst (v := 1) hx hb dX6_witness_94 (by decide) ?_
      refine lv_goto (tgt := 99) hx hb dX6_witness_95 (by decide) ?_
      exact w_X6_witness_99 C0 l2 l4 l5 1 M _ h _ _ _ hP hS (lv_sub hl [0, 2, 4, 5] rfl)
def f_X6_witness_27 (K11 : Int32 → Int32 → Int32 → Int32 → Int32 → Int32 → mk_M → Option (Int32 × mk_M)) : Nat → Int32 → Int32 → Int32 → Int32 → Int32 → Int32 → Int32 → mk_M → Option (Int32 × mk_M)
  | 0, _, _, _, _, _, _, _, _ => none
  | n + 1, l1, l2, l3, l4, l5, l6, l7, M => (if (M 68 29) ≤ l7 then (K11 l1 l2 l3 l4 l5 (l6 + 1) M) else (if l3 < 0 then (K11 l1 l2 l3 l4 l5 (l6 + 1) M) else (if mk_ob l7 13 then none else (if M 90 (l7).toNatClampNeg = 0 then none else (if (l6 - l6 / (M 90 (l7).toNatClampNeg) * (M 90 (l7).toNatClampNeg)) = 0 then (if mk_ob l7 13 then none else (f_X6_witness_27 K11 n l1 l2 (l3 - 1) l6 (M 89 (l7).toNatClampNeg) l6 (l7 + 1) M)) else (if mk_ob l7 13 then none else (f_X6_witness_27 K11 n l1 l2 l3 l6 (M 89 (l7).toNatClampNeg) l6 (l7 + 1) M)))))))
set_option maxHeartbeats 4000000 in
set_option maxRecDepth 100000 in
theorem w_X6_witness_27 {p : Program} {l : Launch} {e : Env} {s : State} {m : MethodId} {args : Array Value} {below : List Frame} {meth : Method} {c : Code} {D : va_G} {E : mk_E} {L : Nat → Int64} (C0 : mk_C p s m args meth c cX6_witness 8 wsX6_witness RX6 (some .int) D E) (K11 : Int32 → Int32 → Int32 → Int32 → Int32 → Int32 → mk_M → Option (Int32 × mk_M)) (hK11 : ∀ (l1 : Int32) (l2 : Int32) (l3 : Int32) (l4 : Int32) (l5 : Int32) (l6 : Int32) (M : mk_M) (q : Int32 × mk_M), K11 l1 l2 l3 l4 l5 l6 M = some q → ∀ (H : Heap) (locs : List Loc) (ls : Array Slot), va_P D vwCl (mk_wl E M L) H → va_S (mk_A E) s.heap H locs → lv_has ls 8 [(0, .ref (E.1 68)), (1, .int l1), (2, .int l2), (3, .int l3), (4, .int l4), (5, .int l5), (6, .int l6)] → W p l e rm_X6_witness s m args below meth c H locs 0 0 (MQ below (mk_Qi D E L q.1 q.2) args s 0 0 (mk_A E)) (F0 m 11 ls [])) : ∀ n : Nat, ∀ (l1 : Int32) (l2 : Int32) (l3 : Int32) (l4 : Int32) (l5 : Int32) (l6 : Int32) (l7 : Int32) (M : mk_M) (q : Int32 × mk_M), f_X6_witness_27 K11 n l1 l2 l3 l4 l5 l6 l7 M = some q → ∀ (H : Heap) (locs : List Loc) (ls : Array Slot), va_P D vwCl (mk_wl E M L) H → va_S (mk_A E) s.heap H locs → lv_has ls 8 [(0, .ref (E.1 68)), (1, .int l1), (2, .int l2), (3, .int l3), (4, .int l4), (5, .int l5), (6, .int l6), (7, .int l7)] → W p l e rm_X6_witness s m args below meth c H locs 0 0 (MQ below (mk_Qi D E L q.1 q.2) args s 0 0 (mk_A E)) (F0 m 27 ls []) := by
  obtain ⟨hx, hb, hml, hown, hts, hr, hlk, hK, hD, hN⟩ := id C0
  intro n
  induction n with
  | zero =>
    intro l1 l2 l3 l4 l5 l6 l7 M q h
    cases h
  | succ n ih =>
    intro l1 l2 l3 l4 l5 l6 l7 M q h H locs ls hP hS hl
    replace h : (if (M 68 29) ≤ l7 then (K11 l1 l2 l3 l4 l5 (l6 + 1) M) else (if l3 < 0 then (K11 l1 l2 l3 l4 l5 (l6 + 1) M) else (if mk_ob l7 13 then none else (if M 90 (l7).toNatClampNeg = 0 then none else (if (l6 - l6 / (M 90 (l7).toNatClampNeg) * (M 90 (l7).toNatClampNeg)) = 0 then (if mk_ob l7 13 then none else (f_X6_witness_27 K11 n l1 l2 (l3 - 1) l6 (M 89 (l7).toNatClampNeg) l6 (l7 + 1) M)) else (if mk_ob l7 13 then none else (f_X6_witness_27 K11 n l1 l2 l3 l6 (M 89 (l7).toNatClampNeg) l6 (l7 + 1) M))))))) = some q := h
    refine lv_iload hx hb dX6_witness_27 (lv_at hl 7 rfl) ?_
    refine lv_aload_n hx hb dX6_witness_29 rfl (lv_at hl 0 rfl) ?_
    refine mk_g6_29 hx hb hts in_X6_witness_X6 hown hK hP (by decide) rfl (hts (.fieldLink RX6 105 "MixedKernelModel" "witnesses" "I") (by decide +kernel)) dX6_witness_30 ?_
    refine lv_icmp_ge (tgt := 80) hx hb dX6_witness_33 (by decide) (fun c_13 => ?_) (fun c_13 => ?_)
    · replace h := (if_pos c_13).symm.trans h
      refine lv_iinc (v := l6 + 1) (lv' := [(6, .int (l6 + 1)), (0, .ref (E.1 68)), (1, .int l1), (2, .int l2), (3, .int l3), (4, .int l4), (5, .int l5), (7, .int l7)]) hx hb dX6_witness_80 hl (k := 6) rfl rfl (by decide) rfl (fun ls hl => ?_)
      refine lv_goto (tgt := 11) hx hb dX6_witness_83 (by decide) ?_
      exact hK11 l1 l2 l3 l4 l5 (l6 + 1) M _ h _ _ _ hP hS (lv_sub hl [1, 2, 3, 4, 5, 6, 0] rfl)
    · replace h := (if_neg c_13).symm.trans h
      refine lv_iload_n hx hb dX6_witness_36 rfl (lv_at hl 3 rfl) ?_
      refine lv_if_lt (tgt := 80) hx hb dX6_witness_37 (by decide) (fun c_14 => ?_) (fun c_14 => ?_)
      · replace h := (if_pos c_14).symm.trans h
        refine lv_iinc (v := l6 + 1) (lv' := [(6, .int (l6 + 1)), (0, .ref (E.1 68)), (1, .int l1), (2, .int l2), (3, .int l3), (4, .int l4), (5, .int l5), (7, .int l7)]) hx hb dX6_witness_80 hl (k := 6) rfl rfl (by decide) rfl (fun ls hl => ?_)
        refine lv_goto (tgt := 11) hx hb dX6_witness_83 (by decide) ?_
        exact hK11 l1 l2 l3 l4 l5 (l6 + 1) M _ h _ _ _ hP hS (lv_sub hl [1, 2, 3, 4, 5, 6, 0] rfl)
      · replace h := (if_neg c_14).symm.trans h
        refine lv_iload hx hb dX6_witness_40 (lv_at hl 6 rfl) ?_
        refine lv_aload_n hx hb dX6_witness_42 rfl (lv_at hl 0 rfl) ?_
        refine mk_g6_31 hx hb hts in_X6_witness_X6 hown hK hP (by decide) rfl (hts (.fieldLink RX6 74 "MixedKernelModel" "whoPeriods" "[I") (by decide +kernel)) dX6_witness_43 ?_
        refine lv_iload hx hb dX6_witness_46 (lv_at hl 7 rfl) ?_
        obtain ⟨i_15, h⟩ := mk_ifn h
        refine mk_ia hx hb hK hP (by decide) rfl i_15 dX6_witness_48 ?_
        obtain ⟨z_16, h⟩ := mk_ifn h
        refine lv_irem hx hb dX6_witness_49 z_16 ?_
        refine lv_if_ne (tgt := 59) hx hb dX6_witness_50 (by decide) (fun c_17 => ?_) (fun c_17 => ?_)
        · replace h := (if_neg c_17).symm.trans h
          refine lv_iload_n hx hb dX6_witness_59 rfl (lv_at hl 3 rfl) ?_
          refine lv_istore_n (lv' := [(3, .int l3), (0, .ref (E.1 68)), (1, .int l1), (2, .int l2), (4, .int l4), (5, .int l5), (6, .int l6), (7, .int l7)]) hx hb dX6_witness_60 rfl hl (by decide) rfl (fun ls hl => ?_)
          refine lv_iload hx hb dX6_witness_61 (lv_at hl 6 rfl) ?_
          refine lv_istore (lv' := [(4, .int l6), (3, .int l3), (0, .ref (E.1 68)), (1, .int l1), (2, .int l2), (5, .int l5), (6, .int l6), (7, .int l7)]) hx hb dX6_witness_63 hl (by decide) rfl (fun ls hl => ?_)
          refine lv_aload_n hx hb dX6_witness_65 rfl (lv_at hl 2 rfl) ?_
          refine mk_g6_30 hx hb hts in_X6_witness_X6 hown hK hP (by decide) rfl (hts (.fieldLink RX6 71 "MixedKernelModel" "who" "[I") (by decide +kernel)) dX6_witness_66 ?_
          refine lv_iload hx hb dX6_witness_69 (lv_at hl 7 rfl) ?_
          obtain ⟨i_18, h⟩ := mk_ifn h
          refine mk_ia hx hb hK hP (by decide) rfl i_18 dX6_witness_71 ?_
          refine lv_istore (lv' := [(5, .int (M 89 (l7).toNatClampNeg)), (4, .int l6), (3, .int l3), (0, .ref (E.1 68)), (1, .int l1), (2, .int l2), (6, .int l6), (7, .int l7)]) hx hb dX6_witness_72 hl (by decide) rfl (fun ls hl => ?_)
          refine lv_iinc (v := l7 + 1) (lv' := [(7, .int (l7 + 1)), (5, .int (M 89 (l7).toNatClampNeg)), (4, .int l6), (3, .int l3), (0, .ref (E.1 68)), (1, .int l1), (2, .int l2), (6, .int l6)]) hx hb dX6_witness_74 hl (k := 7) rfl rfl (by decide) rfl (fun ls hl => ?_)
          refine lv_goto (tgt := 27) hx hb dX6_witness_77 (by decide) ?_
          exact ih l1 l2 l3 l6 (M 89 (l7).toNatClampNeg) l6 (l7 + 1) M _ h _ _ _ hP hS (lv_sub hl [4, 5, 6, 3, 2, 1, 7, 0] rfl)
        · replace h := (if_pos c_17).symm.trans h
          refine lv_iload_n hx hb dX6_witness_53 rfl (lv_at hl 3 rfl) ?_
          refine lv_iconst (v := 1) hx hb dX6_witness_54 (by decide) ?_
          refine lv_isub hx hb dX6_witness_55 ?_
          refine lv_goto (tgt := 60) hx hb dX6_witness_56 (by decide) ?_
          refine lv_istore_n (lv' := [(3, .int (l3 - 1)), (0, .ref (E.1 68)), (1, .int l1), (2, .int l2), (4, .int l4), (5, .int l5), (6, .int l6), (7, .int l7)]) hx hb dX6_witness_60 rfl hl (by decide) rfl (fun ls hl => ?_)
          refine lv_iload hx hb dX6_witness_61 (lv_at hl 6 rfl) ?_
          refine lv_istore (lv' := [(4, .int l6), (3, .int (l3 - 1)), (0, .ref (E.1 68)), (1, .int l1), (2, .int l2), (5, .int l5), (6, .int l6), (7, .int l7)]) hx hb dX6_witness_63 hl (by decide) rfl (fun ls hl => ?_)
          refine lv_aload_n hx hb dX6_witness_65 rfl (lv_at hl 2 rfl) ?_
          refine mk_g6_30 hx hb hts in_X6_witness_X6 hown hK hP (by decide) rfl (hts (.fieldLink RX6 71 "MixedKernelModel" "who" "[I") (by decide +kernel)) dX6_witness_66 ?_
          refine lv_iload hx hb dX6_witness_69 (lv_at hl 7 rfl) ?_
          obtain ⟨i_19, h⟩ := mk_ifn h
          refine mk_ia hx hb hK hP (by decide) rfl i_19 dX6_witness_71 ?_
          refine lv_istore (lv' := [(5, .int (M 89 (l7).toNatClampNeg)), (4, .int l6), (3, .int (l3 - 1)), (0, .ref (E.1 68)), (1, .int l1), (2, .int l2), (6, .int l6), (7, .int l7)]) hx hb dX6_witness_72 hl (by decide) rfl (fun ls hl => ?_)
          refine lv_iinc (v := l7 + 1) (lv' := [(7, .int (l7 + 1)), (5, .int (M 89 (l7).toNatClampNeg)), (4, .int l6), (3, .int (l3 - 1)), (0, .ref (E.1 68)), (1, .int l1), (2, .int l2), (6, .int l6)]) hx hb dX6_witness_74 hl (k := 7) rfl rfl (by decide) rfl (fun ls hl => ?_)
          refine lv_goto (tgt := 27) hx hb dX6_witness_77 (by decide) ?_
          exact ih l1 l2 (l3 - 1) l6 (M 89 (l7).toNatClampNeg) l6 (l7 + 1) M _ h _ _ _ hP hS (lv_sub hl [4, 5, 6, 3, 2, 1, 7, 0] rfl)
def f_X6_witness_11 : Nat → Int32 → Int32 → Int32 → Int32 → Int32 → Int32 → mk_M → Option (Int32 × mk_M)
  | 0, _, _, _, _, _, _, _ => none
  | n + 1, l1, l2, l3, l4, l5, l6, M => (if (M 68 32) ≤ l6 then (f_X6_witness_86 l1 l2 l3 l4 l5 M) else (if l3 < 0 then (f_X6_witness_86 l1 l2 l3 l4 l5 M) else (f_X6_witness_27 (f_X6_witness_11 n) mk_F l1 l2 l3 l4 l5 l6 0 M)))
set_option maxHeartbeats 4000000 in
set_option maxRecDepth 100000 in
theorem w_X6_witness_11 {p : Program} {l : Launch} {e : Env} {s : State} {m : MethodId} {args : Array Value} {below : List Frame} {meth : Method} {c : Code} {D : va_G} {E : mk_E} {L : Nat → Int64} (C0 : mk_C p s m args meth c cX6_witness 8 wsX6_witness RX6 (some .int) D E) : ∀ n : Nat, ∀ (l1 : Int32) (l2 : Int32) (l3 : Int32) (l4 : Int32) (l5 : Int32) (l6 : Int32) (M : mk_M) (q : Int32 × mk_M), f_X6_witness_11 n l1 l2 l3 l4 l5 l6 M = some q → ∀ (H : Heap) (locs : List Loc) (ls : Array Slot), va_P D vwCl (mk_wl E M L) H → va_S (mk_A E) s.heap H locs → lv_has ls 8 [(0, .ref (E.1 68)), (1, .int l1), (2, .int l2), (3, .int l3), (4, .int l4), (5, .int l5), (6, .int l6)] → W p l e rm_X6_witness s m args below meth c H locs 0 0 (MQ below (mk_Qi D E L q.1 q.2) args s 0 0 (mk_A E)) (F0 m 11 ls []) := by
  obtain ⟨hx, hb, hml, hown, hts, hr, hlk, hK, hD, hN⟩ := id C0
  intro n
  induction n with
  | zero =>
    intro l1 l2 l3 l4 l5 l6 M q h
    cases h
  | succ n ih =>
    intro l1 l2 l3 l4 l5 l6 M q h H locs ls hP hS hl
    replace h : (if (M 68 32) ≤ l6 then (f_X6_witness_86 l1 l2 l3 l4 l5 M) else (if l3 < 0 then (f_X6_witness_86 l1 l2 l3 l4 l5 M) else (f_X6_witness_27 (f_X6_witness_11 n) mk_F l1 l2 l3 l4 l5 l6 0 M))) = some q := h
    refine lv_iload hx hb dX6_witness_11 (lv_at hl 6 rfl) ?_
    refine lv_aload_n hx hb dX6_witness_13 rfl (lv_at hl 0 rfl) ?_
    refine mk_g6_32 hx hb hts in_X6_witness_X6 hown hK hP (by decide) rfl (hts (.fieldLink RX6 108 "MixedKernelModel" "until" "I") (by decide +kernel)) dX6_witness_14 ?_
    refine lv_icmp_ge (tgt := 86) hx hb dX6_witness_17 (by decide) (fun c_1 => ?_) (fun c_1 => ?_)
    · replace h := (if_pos c_1).symm.trans h
      exact w_X6_witness_86 C0 l1 l2 l3 l4 l5 M _ h _ _ _ hP hS (lv_sub hl [0, 1, 2, 3, 4, 5] rfl)
    · replace h := (if_neg c_1).symm.trans h
      refine lv_iload_n hx hb dX6_witness_20 rfl (lv_at hl 3 rfl) ?_
      refine lv_if_lt (tgt := 86) hx hb dX6_witness_21 (by decide) (fun c_12 => ?_) (fun c_12 => ?_)
      · replace h := (if_pos c_12).symm.trans h
        exact w_X6_witness_86 C0 l1 l2 l3 l4 l5 M _ h _ _ _ hP hS (lv_sub hl [0, 1, 2, 3, 4, 5] rfl)
      · replace h := (if_neg c_12).symm.trans h
        refine lv_iconst (v := 0) hx hb dX6_witness_24 (by decide) ?_
        refine lv_istore (lv' := [(7, .int 0), (0, .ref (E.1 68)), (1, .int l1), (2, .int l2), (3, .int l3), (4, .int l4), (5, .int l5), (6, .int l6)]) hx hb dX6_witness_25 hl (by decide) rfl (fun ls hl => ?_)
        exact w_X6_witness_27 C0 (f_X6_witness_11 n) ih mk_F l1 l2 l3 l4 l5 l6 0 M _ h _ _ _ hP hS (lv_sub hl [1, 2, 3, 4, 5, 6, 7, 0] rfl)
def f_X6_witness (a1 : Int32) (a2 : Int32) (M : mk_M) : Option (Int32 × mk_M) := (f_X6_witness_11 mk_F a1 a2 a1 (-1) 0 0 M)
set_option maxHeartbeats 4000000 in
set_option maxRecDepth 100000 in
theorem c_X6_witness (l : Launch) (D : va_G) (E : mk_E) (L : Nat → Int64) (a1 : Int32) (a2 : Int32) (M : mk_M) {q : Int32 × mk_M} (h : f_X6_witness a1 a2 M = some q) : Met l yX6_witness wsX6_witness rm_X6_witness (va_Pc [.ref (E.1 68), .int a1, .int a2] (mk_W D E M L)) (mk_Qi D E L q.1 q.2) 0 0 (mk_A E) := by
  refine Met.ofW (cc := cX6_witness) (maxL := 8) (ret := (some .int)) (by decide) rfl ?_
  intro p e s m args below meth c s₁ B hml hv
  obtain ⟨rfl, hP, hK, hD0, hN⟩ := hv
  have hx := B.exec
  have hb := B.bytes
  have hr := B.returns
  have hts := atoms_spec (ws := wsX6_witness) B.pre
  have hown : s.vm.findClass RX6 = some m.cls := findClass_of_methodNamed B.named
  have hlk := B.notSynchronized
  have hD : ∀ (M : mk_M) (L : Nat → Int64), va_D (mk_A E) (mk_wl E M L) := fun _ _ => mk_D hD0
  have C0 : mk_C p s m [.ref (E.1 68), .int a1, .int a2].toArray meth c cX6_witness 8 wsX6_witness RX6 (some .int) D E := ⟨hx, hb, hml, hown, hts, hr, hlk, hK, hD, hN⟩
  have hS : va_S (mk_A E) s.heap s.heap [] := va_S.rf
  have hl := lv_entry ([.ref (E.1 68), .int a1, .int a2]) (n := 8) (Nat.le_of_ble_eq_true rfl)
  rw [lg_entry_eq]
  generalize (lg_sl ([.ref (E.1 68), .int a1, .int a2]) ++ List.replicate (8 - (lg_sl ([.ref (E.1 68), .int a1, .int a2])).length) Slot.unset).toArray = ls at hl ⊢
  have hl : lv_has ls 8 [(0, .ref (E.1 68)), (1, .int a1), (2, .int a2)] := hl
  replace h : (f_X6_witness_11 mk_F a1 a2 a1 (-1) 0 0 M) = some q := h
  refine lv_iload_n hx hb dX6_witness_0 rfl (lv_at hl 1 rfl) ?_
  refine lv_istore_n (lv' := [(3, .int a1), (0, .ref (E.1 68)), (1, .int a1), (2, .int a2)]) hx hb dX6_witness_1 rfl hl (by decide) rfl (fun ls hl => ?_)
  refine lv_iconst (v := -1) hx hb dX6_witness_2 (by decide) ?_
  refine lv_istore (lv' := [(4, .int (-1)), (3, .int a1), (0, .ref (E.1 68)), (1, .int a1), (2, .int a2)]) hx hb dX6_witness_3 hl (by decide) rfl (fun ls hl => ?_)
  refine lv_iconst (v := 0) hx hb dX6_witness_5 (by decide) ?_
  refine lv_istore (lv' := [(5, .int 0), (4, .int (-1)), (3, .int a1), (0, .ref (E.1 68)), (1, .int a1), (2, .int a2)]) hx hb dX6_witness_6 hl (by decide) rfl (fun ls hl => ?_)
  refine lv_iconst (v := 0) hx hb dX6_witness_8 (by decide) ?_
  refine lv_istore (lv' := [(6, .int 0), (5, .int 0), (4, .int (-1)), (3, .int a1), (0, .ref (E.1 68)), (1, .int a1), (2, .int a2)]) hx hb dX6_witness_9 hl (by decide) rfl (fun ls hl => ?_)
  exact w_X6_witness_11 C0 mk_F a1 a2 a1 (-1) 0 0 M _ h _ _ _ hP hS (lv_sub hl [4, 5, 6, 3, 2, 1, 0] rfl)
abbrev rm_X6_trace : Room := { frames := 1, cells := 0, slots := 0, locals := 23 }
theorem in_X6_trace_X6 : ∀ w ∈ wsX60, w ∈ wsX6_trace := by decide +kernel
def f_X6_trace_25 (l1 : Int32) (s0 : Int32) (M : mk_M) : Option (Int32 × mk_M) := ((f_X6_goes s0 1 1 M).bind (fun r_3 => (if r_3.1 = 0 then (some (0, r_3.2)) else (if mk_ob ((((r_3.2 68 21) - 1) - l1) - (((r_3.2 68 21) - 1) - l1) / 256 * 256) 256 then none else (some (r_3.2 88 ((((r_3.2 68 21) - 1) - l1) - (((r_3.2 68 21) - 1) - l1) / 256 * 256).toNatClampNeg, r_3.2))))))
set_option maxHeartbeats 4000000 in
set_option maxRecDepth 100000 in
theorem w_X6_trace_25 {p : Program} {l : Launch} {e : Env} {s : State} {m : MethodId} {args : Array Value} {below : List Frame} {meth : Method} {c : Code} {D : va_G} {E : mk_E} {L : Nat → Int64} (C0 : mk_C p s m args meth c cX6_trace 2 wsX6_trace RX6 (some .int) D E) : ∀ (l1 : Int32) (s0 : Int32) (M : mk_M) (q : Int32 × mk_M), f_X6_trace_25 l1 s0 M = some q → ∀ (H : Heap) (locs : List Loc) (ls : Array Slot), va_P D vwCl (mk_wl E M L) H → va_S (mk_A E) s.heap H locs → lv_has ls 2 [(0, .ref (E.1 68)), (1, .int l1)] → W p l e rm_X6_trace s m args below meth c H locs 0 0 (MQ below (mk_Qi D E L q.1 q.2) args s 0 0 (mk_A E)) (F0 m 25 ls [.int s0, .ref (E.1 68)]) := by
  obtain ⟨hx, hb, hml, hown, hts, hr, hlk, hK, hD, hN⟩ := id C0
  intro l1 s0 M q h H locs ls hP hS hl
  replace h : ((f_X6_goes s0 1 1 M).bind (fun r_3 => (if r_3.1 = 0 then (some (0, r_3.2)) else (if mk_ob ((((r_3.2 68 21) - 1) - l1) - (((r_3.2 68 21) - 1) - l1) / 256 * 256) 256 then none else (some (r_3.2 88 ((((r_3.2 68 21) - 1) - l1) - (((r_3.2 68 21) - 1) - l1) / 256 * 256).toNatClampNeg, r_3.2)))))) = some q := h
  refine lv_iconst (v := 1) hx hb dX6_trace_25 (by decide) ?_
  refine lv_iconst (v := 1) hx hb dX6_trace_26 (by decide) ?_
  obtain ⟨r_3, e_2, h⟩ := mk_bind h
  refine va_calli (va_runV (As := [.int s0, .int 1, .int 1]) (rest := []) ⟨hx, hb, hml, hown, hts⟩ (c_X6_goes l D E L s0 1 1 M  e_2) (cwV 3 hts gX6_trace_X6_goes rfl rfl rfl (by decide +kernel) ⟨Nat.le_of_ble_eq_true rfl, Nat.le_of_ble_eq_true rfl⟩) ⟨mk_W.blind, mk_rc6 hK hP (by decide) rfl, fun U hU hW => ⟨rfl, mk_W.at hU hW hP hK (hD _ _) hN⟩⟩ rfl rfl hl.1 rfl (lv_room (Nat.le_of_ble_eq_true rfl)) dX6_trace_27 ⟨Nat.zero_le _, Nat.zero_le _⟩) hS (fun q _ h => h) (fun q h => h) (fun v_6 u t H1 locs ht hvm hw hB hz1 hk1 hS => ?_)
  subst v_6
  rw [ht] at hB
  replace hP := hB
  clear hB hz1 hk1 hvm ht
  generalize H1 = H at hP hS ⊢
  refine lv_if_eq (tgt := 53) hx hb dX6_trace_30 (by decide) (fun c_4 => ?_) (fun c_4 => ?_)
  · replace h := (if_pos c_4).symm.trans h
    refine lv_iconst (v := 0) hx hb dX6_trace_53 (by decide) ?_
    replace h := Option.some.inj h
    subst q
    exact W.iret (v := 0) hx hb hr (fun t ht hW => ⟨⟨_, (), rfl, rfl, by rw [← ht] at hP; exact hP⟩, hS.F ht⟩) hS.2.2 dX6_trace_54
  · replace h := (if_neg c_4).symm.trans h
    refine lv_aload_n hx hb dX6_trace_33 rfl (lv_at hl 0 rfl) ?_
    refine mk_g6_28 hx hb hts in_X6_trace_X6 hown hK hP (by decide) rfl (hts (.fieldLink RX6 68 "MixedKernelModel" "trace" "[I") (by decide +kernel)) dX6_trace_34 ?_
    refine lv_aload_n hx hb dX6_trace_37 rfl (lv_at hl 0 rfl) ?_
    refine mk_g6_21 hx hb hts in_X6_trace_X6 hown hK hP (by decide) rfl (hts (.fieldLink RX6 152 "MixedKernelModel" "time" "I") (by decide +kernel)) dX6_trace_38 ?_
    refine lv_iconst (v := 1) hx hb dX6_trace_41 (by decide) ?_
    refine lv_isub hx hb dX6_trace_42 ?_
    refine lv_iload_n hx hb dX6_trace_43 rfl (lv_at hl 1 rfl) ?_
    refine lv_isub hx hb dX6_trace_44 ?_
    refine lv_sipush (v := 256) hx hb dX6_trace_45 (by decide) ?_
    refine lv_irem hx hb dX6_trace_48 (by decide) ?_
    obtain ⟨i_5, h⟩ := mk_ifn h
    refine mk_ia hx hb hK hP (by decide) rfl i_5 dX6_trace_49 ?_
    refine lv_goto (tgt := 54) hx hb dX6_trace_50 (by decide) ?_
    replace h := Option.some.inj h
    subst q
    exact W.iret (v := r_3.2 88 ((((r_3.2 68 21) - 1) - l1) - (((r_3.2 68 21) - 1) - l1) / 256 * 256).toNatClampNeg) hx hb hr (fun t ht hW => ⟨⟨_, (), rfl, rfl, by rw [← ht] at hP; exact hP⟩, hS.F ht⟩) hS.2.2 dX6_trace_54
def f_X6_trace_24 (l1 : Int32) (M : mk_M) : Option (Int32 × mk_M) := (f_X6_trace_25 l1 0 M)
set_option maxHeartbeats 4000000 in
set_option maxRecDepth 100000 in
theorem w_X6_trace_24 {p : Program} {l : Launch} {e : Env} {s : State} {m : MethodId} {args : Array Value} {below : List Frame} {meth : Method} {c : Code} {D : va_G} {E : mk_E} {L : Nat → Int64} (C0 : mk_C p s m args meth c cX6_trace 2 wsX6_trace RX6 (some .int) D E) : ∀ (l1 : Int32) (M : mk_M) (q : Int32 × mk_M), f_X6_trace_24 l1 M = some q → ∀ (H : Heap) (locs : List Loc) (ls : Array Slot), va_P D vwCl (mk_wl E M L) H → va_S (mk_A E) s.heap H locs → lv_has ls 2 [(0, .ref (E.1 68)), (1, .int l1)] → W p l e rm_X6_trace s m args below meth c H locs 0 0 (MQ below (mk_Qi D E L q.1 q.2) args s 0 0 (mk_A E)) (F0 m 24 ls [.ref (E.1 68)]) := by
  obtain ⟨hx, hb, hml, hown, hts, hr, hlk, hK, hD, hN⟩ := id C0
  intro l1 M q h H locs ls hP hS hl
  replace h : (f_X6_trace_25 l1 0 M) = some q := h
  refine lv_iconst (v := 0) hx hb dX6_trace_24 (by decide) ?_
  exact w_X6_trace_25 C0 l1 0 M _ h _ _ _ hP hS (lv_sub hl [0, 1] rfl)
def f_X6_trace (a1 : Int32) (M : mk_M) : Option (Int32 × mk_M) := (if a1 < 0 then (f_X6_trace_24 a1 M) else (if 256 ≤ a1 then (f_X6_trace_24 a1 M) else (if (M 68 21) ≤ a1 then (f_X6_trace_24 a1 M) else (f_X6_trace_25 a1 1 M))))
set_option maxHeartbeats 4000000 in
set_option maxRecDepth 100000 in
theorem c_X6_trace (l : Launch) (D : va_G) (E : mk_E) (L : Nat → Int64) (a1 : Int32) (M : mk_M) {q : Int32 × mk_M} (h : f_X6_trace a1 M = some q) : Met l yX6_trace wsX6_trace rm_X6_trace (va_Pc [.ref (E.1 68), .int a1] (mk_W D E M L)) (mk_Qi D E L q.1 q.2) 0 0 (mk_A E) := by
  refine Met.ofW (cc := cX6_trace) (maxL := 2) (ret := (some .int)) (by decide) rfl ?_
  intro p e s m args below meth c s₁ B hml hv
  obtain ⟨rfl, hP, hK, hD0, hN⟩ := hv
  have hx := B.exec
  have hb := B.bytes
  have hr := B.returns
  have hts := atoms_spec (ws := wsX6_trace) B.pre
  have hown : s.vm.findClass RX6 = some m.cls := findClass_of_methodNamed B.named
  have hlk := B.notSynchronized
  have hD : ∀ (M : mk_M) (L : Nat → Int64), va_D (mk_A E) (mk_wl E M L) := fun _ _ => mk_D hD0
  have C0 : mk_C p s m [.ref (E.1 68), .int a1].toArray meth c cX6_trace 2 wsX6_trace RX6 (some .int) D E := ⟨hx, hb, hml, hown, hts, hr, hlk, hK, hD, hN⟩
  have hS : va_S (mk_A E) s.heap s.heap [] := va_S.rf
  have hl := lv_entry ([.ref (E.1 68), .int a1]) (n := 2) (Nat.le_of_ble_eq_true rfl)
  rw [lg_entry_eq]
  generalize (lg_sl ([.ref (E.1 68), .int a1]) ++ List.replicate (2 - (lg_sl ([.ref (E.1 68), .int a1])).length) Slot.unset).toArray = ls at hl ⊢
  have hl : lv_has ls 2 [(0, .ref (E.1 68)), (1, .int a1)] := hl
  replace h : (if a1 < 0 then (f_X6_trace_24 a1 M) else (if 256 ≤ a1 then (f_X6_trace_24 a1 M) else (if (M 68 21) ≤ a1 then (f_X6_trace_24 a1 M) else (f_X6_trace_25 a1 1 M)))) = some q := h
  refine lv_aload_n hx hb dX6_trace_0 rfl (lv_at hl 0 rfl) ?_
  refine lv_iload_n hx hb dX6_trace_1 rfl (lv_at hl 1 rfl) ?_
  refine lv_if_lt (tgt := 24) hx hb dX6_trace_2 (by decide) (fun c_1 => ?_) (fun c_1 => ?_)
  · replace h := (if_pos c_1).symm.trans h
    exact w_X6_trace_24 C0 a1 M _ h _ _ _ hP hS (lv_sub hl [0, 1] rfl)
  · replace h := (if_neg c_1).symm.trans h
    refine lv_iload_n hx hb dX6_trace_5 rfl (lv_at hl 1 rfl) ?_
    refine lv_sipush (v := 256) hx hb dX6_trace_6 (by decide) ?_
    refine lv_icmp_ge (tgt := 24) hx hb dX6_trace_9 (by decide) (fun c_7 => ?_) (fun c_7 => ?_)
    · replace h := (if_pos c_7).symm.trans h
      exact w_X6_trace_24 C0 a1 M _ h _ _ _ hP hS (lv_sub hl [0, 1] rfl)
    · replace h := (if_neg c_7).symm.trans h
      refine lv_iload_n hx hb dX6_trace_12 rfl (lv_at hl 1 rfl) ?_
      refine lv_aload_n hx hb dX6_trace_13 rfl (lv_at hl 0 rfl) ?_
      refine mk_g6_21 hx hb hts in_X6_trace_X6 hown hK hP (by decide) rfl (hts (.fieldLink RX6 152 "MixedKernelModel" "time" "I") (by decide +kernel)) dX6_trace_14 ?_
      refine lv_icmp_ge (tgt := 24) hx hb dX6_trace_17 (by decide) (fun c_8 => ?_) (fun c_8 => ?_)
      · replace h := (if_pos c_8).symm.trans h
        exact w_X6_trace_24 C0 a1 M _ h _ _ _ hP hS (lv_sub hl [0, 1] rfl)
      · replace h := (if_neg c_8).symm.trans h
        refine lv_iconst (v := 1) hx hb dX6_trace_20 (by decide) ?_
        refine lv_goto (tgt := 25) hx hb dX6_trace_21 (by decide) ?_
        exact w_X6_trace_25 C0 a1 1 M _ h _ _ _ hP hS (lv_sub hl [0, 1] rfl)
abbrev rm_X6_changed : Room := { frames := 1, cells := 0, slots := 0, locals := 23 }
theorem in_X6_changed_X6 : ∀ w ∈ wsX60, w ∈ wsX6_changed := by decide +kernel
def f_X6_changed_24 (l1 : Int32) (s0 : Int32) (M : mk_M) : Option (Int32 × mk_M) := ((f_X6_goes s0 1 1 M).bind (fun r_3 => (if r_3.1 = 0 then (some (0, r_3.2)) else (if mk_ob ((((r_3.2 68 25) - 1) - l1) - (((r_3.2 68 25) - 1) - l1) / 8 * 8) 8 then none else (some (r_3.2 87 ((((r_3.2 68 25) - 1) - l1) - (((r_3.2 68 25) - 1) - l1) / 8 * 8).toNatClampNeg, r_3.2))))))
set_option maxHeartbeats 4000000 in
set_option maxRecDepth 100000 in
theorem w_X6_changed_24 {p : Program} {l : Launch} {e : Env} {s : State} {m : MethodId} {args : Array Value} {below : List Frame} {meth : Method} {c : Code} {D : va_G} {E : mk_E} {L : Nat → Int64} (C0 : mk_C p s m args meth c cX6_changed 2 wsX6_changed RX6 (some .int) D E) : ∀ (l1 : Int32) (s0 : Int32) (M : mk_M) (q : Int32 × mk_M), f_X6_changed_24 l1 s0 M = some q → ∀ (H : Heap) (locs : List Loc) (ls : Array Slot), va_P D vwCl (mk_wl E M L) H → va_S (mk_A E) s.heap H locs → lv_has ls 2 [(0, .ref (E.1 68)), (1, .int l1)] → W p l e rm_X6_changed s m args below meth c H locs 0 0 (MQ below (mk_Qi D E L q.1 q.2) args s 0 0 (mk_A E)) (F0 m 24 ls [.int s0, .ref (E.1 68)]) := by
  obtain ⟨hx, hb, hml, hown, hts, hr, hlk, hK, hD, hN⟩ := id C0
  intro l1 s0 M q h H locs ls hP hS hl
  replace h : ((f_X6_goes s0 1 1 M).bind (fun r_3 => (if r_3.1 = 0 then (some (0, r_3.2)) else (if mk_ob ((((r_3.2 68 25) - 1) - l1) - (((r_3.2 68 25) - 1) - l1) / 8 * 8) 8 then none else (some (r_3.2 87 ((((r_3.2 68 25) - 1) - l1) - (((r_3.2 68 25) - 1) - l1) / 8 * 8).toNatClampNeg, r_3.2)))))) = some q := h
  refine lv_iconst (v := 1) hx hb dX6_changed_24 (by decide) ?_
  refine lv_iconst (v := 1) hx hb dX6_changed_25 (by decide) ?_
  obtain ⟨r_3, e_2, h⟩ := mk_bind h
  refine va_calli (va_runV (As := [.int s0, .int 1, .int 1]) (rest := []) ⟨hx, hb, hml, hown, hts⟩ (c_X6_goes l D E L s0 1 1 M  e_2) (cwV 3 hts gX6_changed_X6_goes rfl rfl rfl (by decide +kernel) ⟨Nat.le_of_ble_eq_true rfl, Nat.le_of_ble_eq_true rfl⟩) ⟨mk_W.blind, mk_rc6 hK hP (by decide) rfl, fun U hU hW => ⟨rfl, mk_W.at hU hW hP hK (hD _ _) hN⟩⟩ rfl rfl hl.1 rfl (lv_room (Nat.le_of_ble_eq_true rfl)) dX6_changed_26 ⟨Nat.zero_le _, Nat.zero_le _⟩) hS (fun q _ h => h) (fun q h => h) (fun v_6 u t H1 locs ht hvm hw hB hz1 hk1 hS => ?_)
  subst v_6
  rw [ht] at hB
  replace hP := hB
  clear hB hz1 hk1 hvm ht
  generalize H1 = H at hP hS ⊢
  refine lv_if_eq (tgt := 51) hx hb dX6_changed_29 (by decide) (fun c_4 => ?_) (fun c_4 => ?_)
  · replace h := (if_pos c_4).symm.trans h
    refine lv_iconst (v := 0) hx hb dX6_changed_51 (by decide) ?_
    replace h := Option.some.inj h
    subst q
    exact W.iret (v := 0) hx hb hr (fun t ht hW => ⟨⟨_, (), rfl, rfl, by rw [← ht] at hP; exact hP⟩, hS.F ht⟩) hS.2.2 dX6_changed_52
  · replace h := (if_neg c_4).symm.trans h
    refine lv_aload_n hx hb dX6_changed_32 rfl (lv_at hl 0 rfl) ?_
    refine mk_g6_27 hx hb hts in_X6_changed_X6 hown hK hP (by decide) rfl (hts (.fieldLink RX6 65 "MixedKernelModel" "changed" "[I") (by decide +kernel)) dX6_changed_33 ?_
    refine lv_aload_n hx hb dX6_changed_36 rfl (lv_at hl 0 rfl) ?_
    refine mk_g6_25 hx hb hts in_X6_changed_X6 hown hK hP (by decide) rfl (hts (.fieldLink RX6 164 "MixedKernelModel" "changes" "I") (by decide +kernel)) dX6_changed_37 ?_
    refine lv_iconst (v := 1) hx hb dX6_changed_40 (by decide) ?_
    refine lv_isub hx hb dX6_changed_41 ?_
    refine lv_iload_n hx hb dX6_changed_42 rfl (lv_at hl 1 rfl) ?_
    refine lv_isub hx hb dX6_changed_43 ?_
    refine lv_bipush (v := 8) hx hb dX6_changed_44 (by decide) ?_
    refine lv_irem hx hb dX6_changed_46 (by decide) ?_
    obtain ⟨i_5, h⟩ := mk_ifn h
    refine mk_ia hx hb hK hP (by decide) rfl i_5 dX6_changed_47 ?_
    refine lv_goto (tgt := 52) hx hb dX6_changed_48 (by decide) ?_
    replace h := Option.some.inj h
    subst q
    exact W.iret (v := r_3.2 87 ((((r_3.2 68 25) - 1) - l1) - (((r_3.2 68 25) - 1) - l1) / 8 * 8).toNatClampNeg) hx hb hr (fun t ht hW => ⟨⟨_, (), rfl, rfl, by rw [← ht] at hP; exact hP⟩, hS.F ht⟩) hS.2.2 dX6_changed_52
def f_X6_changed_23 (l1 : Int32) (M : mk_M) : Option (Int32 × mk_M) := (f_X6_changed_24 l1 0 M)
set_option maxHeartbeats 4000000 in
set_option maxRecDepth 100000 in
theorem w_X6_changed_23 {p : Program} {l : Launch} {e : Env} {s : State} {m : MethodId} {args : Array Value} {below : List Frame} {meth : Method} {c : Code} {D : va_G} {E : mk_E} {L : Nat → Int64} (C0 : mk_C p s m args meth c cX6_changed 2 wsX6_changed RX6 (some .int) D E) : ∀ (l1 : Int32) (M : mk_M) (q : Int32 × mk_M), f_X6_changed_23 l1 M = some q → ∀ (H : Heap) (locs : List Loc) (ls : Array Slot), va_P D vwCl (mk_wl E M L) H → va_S (mk_A E) s.heap H locs → lv_has ls 2 [(0, .ref (E.1 68)), (1, .int l1)] → W p l e rm_X6_changed s m args below meth c H locs 0 0 (MQ below (mk_Qi D E L q.1 q.2) args s 0 0 (mk_A E)) (F0 m 23 ls [.ref (E.1 68)]) := by
  obtain ⟨hx, hb, hml, hown, hts, hr, hlk, hK, hD, hN⟩ := id C0
  intro l1 M q h H locs ls hP hS hl
  replace h : (f_X6_changed_24 l1 0 M) = some q := h
  refine lv_iconst (v := 0) hx hb dX6_changed_23 (by decide) ?_
  exact w_X6_changed_24 C0 l1 0 M _ h _ _ _ hP hS (lv_sub hl [0, 1] rfl)
def f_X6_changed (a1 : Int32) (M : mk_M) : Option (Int32 × mk_M) := (if a1 < 0 then (f_X6_changed_23 a1 M) else (if 8 ≤ a1 then (f_X6_changed_23 a1 M) else (if (M 68 25) ≤ a1 then (f_X6_changed_23 a1 M) else (f_X6_changed_24 a1 1 M))))
set_option maxHeartbeats 4000000 in
set_option maxRecDepth 100000 in
theorem c_X6_changed (l : Launch) (D : va_G) (E : mk_E) (L : Nat → Int64) (a1 : Int32) (M : mk_M) {q : Int32 × mk_M} (h : f_X6_changed a1 M = some q) : Met l yX6_changed wsX6_changed rm_X6_changed (va_Pc [.ref (E.1 68), .int a1] (mk_W D E M L)) (mk_Qi D E L q.1 q.2) 0 0 (mk_A E) := by
  refine Met.ofW (cc := cX6_changed) (maxL := 2) (ret := (some .int)) (by decide) rfl ?_
  intro p e s m args below meth c s₁ B hml hv
  obtain ⟨rfl, hP, hK, hD0, hN⟩ := hv
  have hx := B.exec
  have hb := B.bytes
  have hr := B.returns
  have hts := atoms_spec (ws := wsX6_changed) B.pre
  have hown : s.vm.findClass RX6 = some m.cls := findClass_of_methodNamed B.named
  have hlk := B.notSynchronized
  have hD : ∀ (M : mk_M) (L : Nat → Int64), va_D (mk_A E) (mk_wl E M L) := fun _ _ => mk_D hD0
  have C0 : mk_C p s m [.ref (E.1 68), .int a1].toArray meth c cX6_changed 2 wsX6_changed RX6 (some .int) D E := ⟨hx, hb, hml, hown, hts, hr, hlk, hK, hD, hN⟩
  have hS : va_S (mk_A E) s.heap s.heap [] := va_S.rf
  have hl := lv_entry ([.ref (E.1 68), .int a1]) (n := 2) (Nat.le_of_ble_eq_true rfl)
  rw [lg_entry_eq]
  generalize (lg_sl ([.ref (E.1 68), .int a1]) ++ List.replicate (2 - (lg_sl ([.ref (E.1 68), .int a1])).length) Slot.unset).toArray = ls at hl ⊢
  have hl : lv_has ls 2 [(0, .ref (E.1 68)), (1, .int a1)] := hl
  replace h : (if a1 < 0 then (f_X6_changed_23 a1 M) else (if 8 ≤ a1 then (f_X6_changed_23 a1 M) else (if (M 68 25) ≤ a1 then (f_X6_changed_23 a1 M) else (f_X6_changed_24 a1 1 M)))) = some q := h
  refine lv_aload_n hx hb dX6_changed_0 rfl (lv_at hl 0 rfl) ?_
  refine lv_iload_n hx hb dX6_changed_1 rfl (lv_at hl 1 rfl) ?_
  refine lv_if_lt (tgt := 23) hx hb dX6_changed_2 (by decide) (fun c_1 => ?_) (fun c_1 => ?_)
  · replace h := (if_pos c_1).symm.trans h
    exact w_X6_changed_23 C0 a1 M _ h _ _ _ hP hS (lv_sub hl [0, 1] rfl)
  · replace h := (if_neg c_1).symm.trans h
    refine lv_iload_n hx hb dX6_changed_5 rfl (lv_at hl 1 rfl) ?_
    refine lv_bipush (v := 8) hx hb dX6_changed_6 (by decide) ?_
    refine lv_icmp_ge (tgt := 23) hx hb dX6_changed_8 (by decide) (fun c_7 => ?_) (fun c_7 => ?_)
    · replace h := (if_pos c_7).symm.trans h
      exact w_X6_changed_23 C0 a1 M _ h _ _ _ hP hS (lv_sub hl [0, 1] rfl)
    · replace h := (if_neg c_7).symm.trans h
      refine lv_iload_n hx hb dX6_changed_11 rfl (lv_at hl 1 rfl) ?_
      refine lv_aload_n hx hb dX6_changed_12 rfl (lv_at hl 0 rfl) ?_
      refine mk_g6_25 hx hb hts in_X6_changed_X6 hown hK hP (by decide) rfl (hts (.fieldLink RX6 164 "MixedKernelModel" "changes" "I") (by decide +kernel)) dX6_changed_13 ?_
      refine lv_icmp_ge (tgt := 23) hx hb dX6_changed_16 (by decide) (fun c_8 => ?_) (fun c_8 => ?_)
      · replace h := (if_pos c_8).symm.trans h
        exact w_X6_changed_23 C0 a1 M _ h _ _ _ hP hS (lv_sub hl [0, 1] rfl)
      · replace h := (if_neg c_8).symm.trans h
        refine lv_iconst (v := 1) hx hb dX6_changed_19 (by decide) ?_
        refine lv_goto (tgt := 24) hx hb dX6_changed_20 (by decide) ?_
        exact w_X6_changed_24 C0 a1 1 M _ h _ _ _ hP hS (lv_sub hl [0, 1] rfl)
abbrev rm_X6_sum : Room := { frames := 3, cells := 0, slots := 0, locals := 66 }
theorem in_X6_sum_X6 : ∀ w ∈ wsX60, w ∈ wsX6_sum := by decide +kernel
def f_X6_sum_31 (K4 : Int32 → Int32 → Int32 → mk_M → Option (Int32)) (l1 : Int32) (l3 : Int32) (s0 : Int32) (M : mk_M) : Option (Int32) := (if mk_ob l3 13 then none else (if (M 69 (l3).toNatClampNeg) = 0 then (K4 l1 s0 (l3 + 1) M) else (if l1 = 6 then ((f_X6_pending l3 M).bind (fun r_8 => (K4 l1 (s0 + r_8) (l3 + 1) M))) else (K4 l1 s0 (l3 + 1) M))))
set_option maxHeartbeats 4000000 in
set_option maxRecDepth 100000 in
theorem w_X6_sum_31 {p : Program} {l : Launch} {e : Env} {s : State} {m : MethodId} {args : Array Value} {below : List Frame} {meth : Method} {c : Code} {D : va_G} {E : mk_E} {L : Nat → Int64} (C0 : mk_C p s m args meth c cX6_sum 4 wsX6_sum RX6 (some .int) D E) (K4 : Int32 → Int32 → Int32 → mk_M → Option (Int32)) (hK4 : ∀ (l1 : Int32) (l2 : Int32) (l3 : Int32) (M : mk_M) (q : Int32), K4 l1 l2 l3 M = some q → ∀ (H : Heap) (locs : List Loc) (ls : Array Slot), va_P D vwCl (mk_wl E M L) H → va_S (mk_A E) s.heap H locs → lv_has ls 4 [(0, .ref (E.1 68)), (1, .int l1), (2, .int l2), (3, .int l3)] → W p l e rm_X6_sum s m args below meth c H locs 0 0 (MQ below (mk_Qi D E L q M) args s 0 0 (mk_A E)) (F0 m 4 ls [])) : ∀ (l1 : Int32) (l3 : Int32) (s0 : Int32) (M : mk_M) (q : Int32), f_X6_sum_31 K4 l1 l3 s0 M = some q → ∀ (H : Heap) (locs : List Loc) (ls : Array Slot), va_P D vwCl (mk_wl E M L) H → va_S (mk_A E) s.heap H locs → lv_has ls 4 [(0, .ref (E.1 68)), (1, .int l1), (3, .int l3)] → W p l e rm_X6_sum s m args below meth c H locs 0 0 (MQ below (mk_Qi D E L q M) args s 0 0 (mk_A E)) (F0 m 31 ls [.int s0]) := by
  obtain ⟨hx, hb, hml, hown, hts, hr, hlk, hK, hD, hN⟩ := id C0
  intro l1 l3 s0 M q h H locs ls hP hS hl
  replace h : (if mk_ob l3 13 then none else (if (M 69 (l3).toNatClampNeg) = 0 then (K4 l1 s0 (l3 + 1) M) else (if l1 = 6 then ((f_X6_pending l3 M).bind (fun r_8 => (K4 l1 (s0 + r_8) (l3 + 1) M))) else (K4 l1 s0 (l3 + 1) M)))) = some q := h
  refine lv_istore_n (lv' := [(2, .int s0), (0, .ref (E.1 68)), (1, .int l1), (3, .int l3)]) hx hb dX6_sum_31 rfl hl (by decide) rfl (fun ls hl => ?_)
  refine lv_aload_n hx hb dX6_sum_32 rfl (lv_at hl 1 rfl) ?_
  refine mk_g6_1 hx hb hts in_X6_sum_X6 hown hK hP (by decide) rfl (hts (.fieldLink RX6 7 "MixedKernelModel" "known" "[Z") (by decide +kernel)) dX6_sum_33 ?_
  refine lv_iload_n hx hb dX6_sum_36 rfl (lv_at hl 3 rfl) ?_
  obtain ⟨i_4, h⟩ := mk_ifn h
  refine mk_za hx hb hK hP (by decide) rfl i_4 dX6_sum_37 ?_
  refine lv_if_eq (tgt := 57) hx hb dX6_sum_38 (by decide) (fun c_5 => ?_) (fun c_5 => ?_)
  · replace h := (if_pos c_5).symm.trans h
    refine lv_iload_n hx hb dX6_sum_57 rfl (lv_at hl 0 rfl) ?_
    refine lv_istore_n (lv' := [(2, .int s0), (0, .ref (E.1 68)), (1, .int l1), (3, .int l3)]) hx hb dX6_sum_58 rfl hl (by decide) rfl (fun ls hl => ?_)
    refine lv_iinc (v := l3 + 1) (lv' := [(3, .int (l3 + 1)), (2, .int s0), (0, .ref (E.1 68)), (1, .int l1)]) hx hb dX6_sum_59 hl (k := 3) rfl rfl (by decide) rfl (fun ls hl => ?_)
    refine lv_goto (tgt := 4) hx hb dX6_sum_62 (by decide) ?_
    exact hK4 l1 s0 (l3 + 1) M _ h _ _ _ hP hS (lv_sub hl [2, 3, 1, 0] rfl)
  · replace h := (if_neg c_5).symm.trans h
    refine lv_iload_n hx hb dX6_sum_41 rfl (lv_at hl 2 rfl) ?_
    refine lv_bipush (v := 6) hx hb dX6_sum_42 (by decide) ?_
    refine lv_icmp_ne (tgt := 57) hx hb dX6_sum_44 (by decide) (fun c_6 => ?_) (fun c_6 => ?_)
    · replace h := (if_neg c_6).symm.trans h
      refine lv_iload_n hx hb dX6_sum_57 rfl (lv_at hl 0 rfl) ?_
      refine lv_istore_n (lv' := [(2, .int s0), (0, .ref (E.1 68)), (1, .int l1), (3, .int l3)]) hx hb dX6_sum_58 rfl hl (by decide) rfl (fun ls hl => ?_)
      refine lv_iinc (v := l3 + 1) (lv' := [(3, .int (l3 + 1)), (2, .int s0), (0, .ref (E.1 68)), (1, .int l1)]) hx hb dX6_sum_59 hl (k := 3) rfl rfl (by decide) rfl (fun ls hl => ?_)
      refine lv_goto (tgt := 4) hx hb dX6_sum_62 (by decide) ?_
      exact hK4 l1 s0 (l3 + 1) M _ h _ _ _ hP hS (lv_sub hl [2, 3, 1, 0] rfl)
    · replace h := (if_pos c_6).symm.trans h
      refine lv_iload_n hx hb dX6_sum_47 rfl (lv_at hl 0 rfl) ?_
      refine lv_aload_n hx hb dX6_sum_48 rfl (lv_at hl 1 rfl) ?_
      refine lv_iload_n hx hb dX6_sum_49 rfl (lv_at hl 3 rfl) ?_
      obtain ⟨r_8, e_7, h⟩ := mk_bind h
      refine va_calli (va_runV (As := [.int l3]) (rest := [.int s0]) ⟨hx, hb, hml, hown, hts⟩ (c_X6_pending l D E L l3 M  e_7) (cwV 1 hts gX6_sum_X6_pending rfl rfl rfl (by decide +kernel) ⟨Nat.le_of_ble_eq_true rfl, Nat.le_of_ble_eq_true rfl⟩) ⟨mk_W.blind, mk_rc6 hK hP (by decide) rfl, fun U hU hW => ⟨rfl, mk_W.at hU hW hP hK (hD _ _) hN⟩⟩ rfl rfl hl.1 rfl (lv_room (Nat.le_of_ble_eq_true rfl)) dX6_sum_50 ⟨Nat.zero_le _, Nat.zero_le _⟩) hS (fun q _ h => h) (fun q h => h) (fun v_9 u t H1 locs ht hvm hw hB hz1 hk1 hS => ?_)
      subst v_9
      rw [ht] at hB
      replace hP := hB
      clear hB hz1 hk1 hvm ht
      generalize H1 = H at hP hS ⊢
      refine lv_iadd hx hb dX6_sum_53 ?_
      refine lv_goto (tgt := 58) hx hb dX6_sum_54 (by decide) ?_
      refine lv_istore_n (lv' := [(2, .int (s0 + r_8)), (0, .ref (E.1 68)), (1, .int l1), (3, .int l3)]) hx hb dX6_sum_58 rfl hl (by decide) rfl (fun ls hl => ?_)
      refine lv_iinc (v := l3 + 1) (lv' := [(3, .int (l3 + 1)), (2, .int (s0 + r_8)), (0, .ref (E.1 68)), (1, .int l1)]) hx hb dX6_sum_59 hl (k := 3) rfl rfl (by decide) rfl (fun ls hl => ?_)
      refine lv_goto (tgt := 4) hx hb dX6_sum_62 (by decide) ?_
      exact hK4 l1 (s0 + r_8) (l3 + 1) M _ h _ _ _ hP hS (lv_sub hl [2, 3, 1, 0] rfl)
def f_X6_sum_30 (K4 : Int32 → Int32 → Int32 → mk_M → Option (Int32)) (l1 : Int32) (l2 : Int32) (l3 : Int32) (M : mk_M) : Option (Int32) := (f_X6_sum_31 K4 l1 l3 l2 M)
set_option maxHeartbeats 4000000 in
set_option maxRecDepth 100000 in
theorem w_X6_sum_30 {p : Program} {l : Launch} {e : Env} {s : State} {m : MethodId} {args : Array Value} {below : List Frame} {meth : Method} {c : Code} {D : va_G} {E : mk_E} {L : Nat → Int64} (C0 : mk_C p s m args meth c cX6_sum 4 wsX6_sum RX6 (some .int) D E) (K4 : Int32 → Int32 → Int32 → mk_M → Option (Int32)) (hK4 : ∀ (l1 : Int32) (l2 : Int32) (l3 : Int32) (M : mk_M) (q : Int32), K4 l1 l2 l3 M = some q → ∀ (H : Heap) (locs : List Loc) (ls : Array Slot), va_P D vwCl (mk_wl E M L) H → va_S (mk_A E) s.heap H locs → lv_has ls 4 [(0, .ref (E.1 68)), (1, .int l1), (2, .int l2), (3, .int l3)] → W p l e rm_X6_sum s m args below meth c H locs 0 0 (MQ below (mk_Qi D E L q M) args s 0 0 (mk_A E)) (F0 m 4 ls [])) : ∀ (l1 : Int32) (l2 : Int32) (l3 : Int32) (M : mk_M) (q : Int32), f_X6_sum_30 K4 l1 l2 l3 M = some q → ∀ (H : Heap) (locs : List Loc) (ls : Array Slot), va_P D vwCl (mk_wl E M L) H → va_S (mk_A E) s.heap H locs → lv_has ls 4 [(0, .ref (E.1 68)), (1, .int l1), (2, .int l2), (3, .int l3)] → W p l e rm_X6_sum s m args below meth c H locs 0 0 (MQ below (mk_Qi D E L q M) args s 0 0 (mk_A E)) (F0 m 30 ls []) := by
  obtain ⟨hx, hb, hml, hown, hts, hr, hlk, hK, hD, hN⟩ := id C0
  intro l1 l2 l3 M q h H locs ls hP hS hl
  replace h : (f_X6_sum_31 K4 l1 l3 l2 M) = some q := h
  refine lv_iload_n hx hb dX6_sum_30 rfl (lv_at hl 2 rfl) ?_
  exact w_X6_sum_31 C0 K4 hK4 l1 l3 l2 M _ h _ _ _ hP hS (lv_sub hl [0, 1, 3] rfl)
def f_X6_sum_4 : Nat → Int32 → Int32 → Int32 → mk_M → Option (Int32)
  | 0, _, _, _, _ => none
  | n + 1, l1, l2, l3, M => (if 13 ≤ l3 then (some l2) else (if mk_ob l3 13 then none else (if (M 69 (l3).toNatClampNeg) = 0 then (f_X6_sum_30 (f_X6_sum_4 n) l1 l2 l3 M) else (if l1 = 4 then (f_X6_sum_31 (f_X6_sum_4 n) l1 l3 (l2 + 1) M) else (f_X6_sum_30 (f_X6_sum_4 n) l1 l2 l3 M)))))
set_option maxHeartbeats 4000000 in
set_option maxRecDepth 100000 in
theorem w_X6_sum_4 {p : Program} {l : Launch} {e : Env} {s : State} {m : MethodId} {args : Array Value} {below : List Frame} {meth : Method} {c : Code} {D : va_G} {E : mk_E} {L : Nat → Int64} (C0 : mk_C p s m args meth c cX6_sum 4 wsX6_sum RX6 (some .int) D E) : ∀ n : Nat, ∀ (l1 : Int32) (l2 : Int32) (l3 : Int32) (M : mk_M) (q : Int32), f_X6_sum_4 n l1 l2 l3 M = some q → ∀ (H : Heap) (locs : List Loc) (ls : Array Slot), va_P D vwCl (mk_wl E M L) H → va_S (mk_A E) s.heap H locs → lv_has ls 4 [(0, .ref (E.1 68)), (1, .int l1), (2, .int l2), (3, .int l3)] → W p l e rm_X6_sum s m args below meth c H locs 0 0 (MQ below (mk_Qi D E L q M) args s 0 0 (mk_A E)) (F0 m 4 ls []) := by
  obtain ⟨hx, hb, hml, hown, hts, hr, hlk, hK, hD, hN⟩ := id C0
  intro n
  induction n with
  | zero =>
    intro l1 l2 l3 M q h
    cases h
  | succ n ih =>
    intro l1 l2 l3 M q h H locs ls hP hS hl
    replace h : (if 13 ≤ l3 then (some l2) else (if mk_ob l3 13 then none else (if (M 69 (l3).toNatClampNeg) = 0 then (f_X6_sum_30 (f_X6_sum_4 n) l1 l2 l3 M) else (if l1 = 4 then (f_X6_sum_31 (f_X6_sum_4 n) l1 l3 (l2 + 1) M) else (f_X6_sum_30 (f_X6_sum_4 n) l1 l2 l3 M))))) = some q := h
    refine lv_iload_n hx hb dX6_sum_4 rfl (lv_at hl 3 rfl) ?_
    refine lv_bipush (v := 13) hx hb dX6_sum_5 (by decide) ?_
    refine lv_icmp_ge (tgt := 65) hx hb dX6_sum_7 (by decide) (fun c_1 => ?_) (fun c_1 => ?_)
    · replace h := (if_pos c_1).symm.trans h
      refine lv_iload_n hx hb dX6_sum_65 rfl (lv_at hl 2 rfl) ?_
      replace h := Option.some.inj h
      subst q
      exact W.iret (v := l2) hx hb hr (fun t ht hW => ⟨⟨_, (), rfl, rfl, by rw [← ht] at hP; exact hP⟩, hS.F ht⟩) hS.2.2 dX6_sum_66
    · replace h := (if_neg c_1).symm.trans h
      refine lv_aload_n hx hb dX6_sum_10 rfl (lv_at hl 0 rfl) ?_
      refine mk_g6_1 hx hb hts in_X6_sum_X6 hown hK hP (by decide) rfl (hts (.fieldLink RX6 7 "MixedKernelModel" "known" "[Z") (by decide +kernel)) dX6_sum_11 ?_
      refine lv_iload_n hx hb dX6_sum_14 rfl (lv_at hl 3 rfl) ?_
      obtain ⟨i_2, h⟩ := mk_ifn h
      refine mk_za hx hb hK hP (by decide) rfl i_2 dX6_sum_15 ?_
      refine lv_if_eq (tgt := 30) hx hb dX6_sum_16 (by decide) (fun c_3 => ?_) (fun c_3 => ?_)
      · replace h := (if_pos c_3).symm.trans h
        exact w_X6_sum_30 C0 (f_X6_sum_4 n) ih l1 l2 l3 M _ h _ _ _ hP hS (lv_sub hl [0, 1, 2, 3] rfl)
      · replace h := (if_neg c_3).symm.trans h
        refine lv_iload_n hx hb dX6_sum_19 rfl (lv_at hl 1 rfl) ?_
        refine lv_iconst (v := 4) hx hb dX6_sum_20 (by decide) ?_
        refine lv_icmp_ne (tgt := 30) hx hb dX6_sum_21 (by decide) (fun c_10 => ?_) (fun c_10 => ?_)
        · replace h := (if_neg c_10).symm.trans h
          exact w_X6_sum_30 C0 (f_X6_sum_4 n) ih l1 l2 l3 M _ h _ _ _ hP hS (lv_sub hl [0, 1, 2, 3] rfl)
        · replace h := (if_pos c_10).symm.trans h
          refine lv_iload_n hx hb dX6_sum_24 rfl (lv_at hl 2 rfl) ?_
          refine lv_iconst (v := 1) hx hb dX6_sum_25 (by decide) ?_
          refine lv_iadd hx hb dX6_sum_26 ?_
          refine lv_goto (tgt := 31) hx hb dX6_sum_27 (by decide) ?_
          exact w_X6_sum_31 C0 (f_X6_sum_4 n) ih l1 l3 (l2 + 1) M _ h _ _ _ hP hS (lv_sub hl [0, 1, 3] rfl)
def f_X6_sum (a1 : Int32) (M : mk_M) : Option (Int32) := (f_X6_sum_4 mk_F a1 0 1 M)
set_option maxHeartbeats 4000000 in
set_option maxRecDepth 100000 in
theorem c_X6_sum (l : Launch) (D : va_G) (E : mk_E) (L : Nat → Int64) (a1 : Int32) (M : mk_M) {q : Int32} (h : f_X6_sum a1 M = some q) : Met l yX6_sum wsX6_sum rm_X6_sum (va_Pc [.ref (E.1 68), .int a1] (mk_W D E M L)) (mk_Qi D E L q M) 0 0 (mk_A E) := by
  refine Met.ofW (cc := cX6_sum) (maxL := 4) (ret := (some .int)) (by decide) rfl ?_
  intro p e s m args below meth c s₁ B hml hv
  obtain ⟨rfl, hP, hK, hD0, hN⟩ := hv
  have hx := B.exec
  have hb := B.bytes
  have hr := B.returns
  have hts := atoms_spec (ws := wsX6_sum) B.pre
  have hown : s.vm.findClass RX6 = some m.cls := findClass_of_methodNamed B.named
  have hlk := B.notSynchronized
  have hD : ∀ (M : mk_M) (L : Nat → Int64), va_D (mk_A E) (mk_wl E M L) := fun _ _ => mk_D hD0
  have C0 : mk_C p s m [.ref (E.1 68), .int a1].toArray meth c cX6_sum 4 wsX6_sum RX6 (some .int) D E := ⟨hx, hb, hml, hown, hts, hr, hlk, hK, hD, hN⟩
  have hS : va_S (mk_A E) s.heap s.heap [] := va_S.rf
  have hl := lv_entry ([.ref (E.1 68), .int a1]) (n := 4) (Nat.le_of_ble_eq_true rfl)
  rw [lg_entry_eq]
  generalize (lg_sl ([.ref (E.1 68), .int a1]) ++ List.replicate (4 - (lg_sl ([.ref (E.1 68), .int a1])).length) Slot.unset).toArray = ls at hl ⊢
  have hl : lv_has ls 4 [(0, .ref (E.1 68)), (1, .int a1)] := hl
  replace h : (f_X6_sum_4 mk_F a1 0 1 M) = some q := h
  refine lv_iconst (v := 0) hx hb dX6_sum_0 (by decide) ?_
  refine lv_istore_n (lv' := [(2, .int 0), (0, .ref (E.1 68)), (1, .int a1)]) hx hb dX6_sum_1 rfl hl (by decide) rfl (fun ls hl => ?_)
  refine lv_iconst (v := 1) hx hb dX6_sum_2 (by decide) ?_
  refine lv_istore_n (lv' := [(3, .int 1), (2, .int 0), (0, .ref (E.1 68)), (1, .int a1)]) hx hb dX6_sum_3 rfl hl (by decide) rfl (fun ls hl => ?_)
  exact w_X6_sum_4 C0 mk_F a1 0 1 M _ h _ _ _ hP hS (lv_sub hl [2, 3, 1, 0] rfl)
abbrev rm_X6_count : Room := { frames := 4, cells := 0, slots := 0, locals := 89 }
theorem in_X6_count_X6 : ∀ w ∈ wsX60, w ∈ wsX6_count := by decide +kernel
def f_X6_count (a1 : Int32) (M : mk_M) : Option (Int32 × mk_M) := ((f_X6_within a1 0 8 M).bind (fun r_2 => ((f_X6_goes r_2 1 1 M).bind (fun r_4 => (if r_4.1 = 0 then (some (0, r_4.2)) else (if a1 = 0 then (some (r_4.2 68 21, r_4.2)) else (if a1 = 1 then (some (r_4.2 68 22, r_4.2)) else (if a1 = 2 then (some (r_4.2 68 24, r_4.2)) else (if a1 = 3 then (some (r_4.2 68 25, r_4.2)) else (if a1 = 4 then ((f_X6_sum a1 r_4.2).bind (fun r_12 => (some (r_12, r_4.2)))) else (if a1 = 5 then (some (r_4.2 68 9, r_4.2)) else (if a1 = 6 then ((f_X6_sum a1 r_4.2).bind (fun r_17 => (some (r_17, r_4.2)))) else (if a1 = 7 then (some (r_4.2 68 26, r_4.2)) else (if a1 = 8 then (some ((r_4.2 68 21) - (r_4.2 68 23), r_4.2)) else ((f_X6_sum a1 r_4.2).bind (fun r_22 => (some (r_22, r_4.2))))))))))))))))))
set_option maxHeartbeats 4000000 in
set_option maxRecDepth 100000 in
theorem c_X6_count (l : Launch) (D : va_G) (E : mk_E) (L : Nat → Int64) (a1 : Int32) (M : mk_M) {q : Int32 × mk_M} (h : f_X6_count a1 M = some q) : Met l yX6_count wsX6_count rm_X6_count (va_Pc [.ref (E.1 68), .int a1] (mk_W D E M L)) (mk_Qi D E L q.1 q.2) 0 0 (mk_A E) := by
  refine Met.ofW (cc := cX6_count) (maxL := 2) (ret := (some .int)) (by decide) rfl ?_
  intro p e s m args below meth c s₁ B hml hv
  obtain ⟨rfl, hP, hK, hD0, hN⟩ := hv
  have hx := B.exec
  have hb := B.bytes
  have hr := B.returns
  have hts := atoms_spec (ws := wsX6_count) B.pre
  have hown : s.vm.findClass RX6 = some m.cls := findClass_of_methodNamed B.named
  have hlk := B.notSynchronized
  have hD : ∀ (M : mk_M) (L : Nat → Int64), va_D (mk_A E) (mk_wl E M L) := fun _ _ => mk_D hD0
  have C0 : mk_C p s m [.ref (E.1 68), .int a1].toArray meth c cX6_count 2 wsX6_count RX6 (some .int) D E := ⟨hx, hb, hml, hown, hts, hr, hlk, hK, hD, hN⟩
  have hS : va_S (mk_A E) s.heap s.heap [] := va_S.rf
  have hl := lv_entry ([.ref (E.1 68), .int a1]) (n := 2) (Nat.le_of_ble_eq_true rfl)
  rw [lg_entry_eq]
  generalize (lg_sl ([.ref (E.1 68), .int a1]) ++ List.replicate (2 - (lg_sl ([.ref (E.1 68), .int a1])).length) Slot.unset).toArray = ls at hl ⊢
  have hl : lv_has ls 2 [(0, .ref (E.1 68)), (1, .int a1)] := hl
  replace h : ((f_X6_within a1 0 8 M).bind (fun r_2 => ((f_X6_goes r_2 1 1 M).bind (fun r_4 => (if r_4.1 = 0 then (some (0, r_4.2)) else (if a1 = 0 then (some (r_4.2 68 21, r_4.2)) else (if a1 = 1 then (some (r_4.2 68 22, r_4.2)) else (if a1 = 2 then (some (r_4.2 68 24, r_4.2)) else (if a1 = 3 then (some (r_4.2 68 25, r_4.2)) else (if a1 = 4 then ((f_X6_sum a1 r_4.2).bind (fun r_12 => (some (r_12, r_4.2)))) else (if a1 = 5 then (some (r_4.2 68 9, r_4.2)) else (if a1 = 6 then ((f_X6_sum a1 r_4.2).bind (fun r_17 => (some (r_17, r_4.2)))) else (if a1 = 7 then (some (r_4.2 68 26, r_4.2)) else (if a1 = 8 then (some ((r_4.2 68 21) - (r_4.2 68 23), r_4.2)) else ((f_X6_sum a1 r_4.2).bind (fun r_22 => (some (r_22, r_4.2)))))))))))))))))) = some q := h
  refine lv_aload_n hx hb dX6_count_0 rfl (lv_at hl 0 rfl) ?_
  refine lv_iload_n hx hb dX6_count_1 rfl (lv_at hl 1 rfl) ?_
  refine lv_iconst (v := 0) hx hb dX6_count_2 (by decide) ?_
  refine lv_bipush (v := 8) hx hb dX6_count_3 (by decide) ?_
  obtain ⟨r_2, e_1, h⟩ := mk_bind h
  refine va_calli (va_runS (As := [.int a1, .int 0, .int 8]) (rest := [.ref (E.1 68)]) ⟨hx, hb, hml, hown, hts⟩ (c_X6_within l D E L a1 0 8 M  e_1) (cwS 3 hts gX6_count_X6_within rfl rfl rfl (by decide +kernel) ⟨Nat.le_of_ble_eq_true rfl, Nat.le_of_ble_eq_true rfl⟩) ⟨mk_W.blind, fun U hU hW => ⟨rfl, mk_W.at hU hW hP hK (hD _ _) hN⟩⟩ rfl rfl hl.1 rfl (lv_room (Nat.le_of_ble_eq_true rfl)) dX6_count_5 ⟨Nat.zero_le _, Nat.zero_le _⟩) hS (fun q _ h => h) (fun q h => h) (fun v_25 u t H1 locs ht hvm hw hB hz1 hk1 hS => ?_)
  subst v_25
  rw [ht] at hB
  replace hP := hB
  clear hB hz1 hk1 hvm ht
  generalize H1 = H at hP hS ⊢
  refine lv_iconst (v := 1) hx hb dX6_count_8 (by decide) ?_
  refine lv_iconst (v := 1) hx hb dX6_count_9 (by decide) ?_
  obtain ⟨r_4, e_3, h⟩ := mk_bind h
  refine va_calli (va_runV (As := [.int r_2, .int 1, .int 1]) (rest := []) ⟨hx, hb, hml, hown, hts⟩ (c_X6_goes l D E L r_2 1 1 M  e_3) (cwV 3 hts gX6_count_X6_goes rfl rfl rfl (by decide +kernel) ⟨Nat.le_of_ble_eq_true rfl, Nat.le_of_ble_eq_true rfl⟩) ⟨mk_W.blind, mk_rc6 hK hP (by decide) rfl, fun U hU hW => ⟨rfl, mk_W.at hU hW hP hK (hD _ _) hN⟩⟩ rfl rfl hl.1 rfl (lv_room (Nat.le_of_ble_eq_true rfl)) dX6_count_10 ⟨Nat.zero_le _, Nat.zero_le _⟩) hS (fun q _ h => h) (fun q h => h) (fun v_24 u t H1 locs ht hvm hw hB hz1 hk1 hS => ?_)
  subst v_24
  rw [ht] at hB
  replace hP := hB
  clear hB hz1 hk1 hvm ht
  generalize H1 = H at hP hS ⊢
  refine lv_if_ne (tgt := 18) hx hb dX6_count_13 (by decide) (fun c_5 => ?_) (fun c_5 => ?_)
  · replace h := (if_neg c_5).symm.trans h
    refine lv_iload_n hx hb dX6_count_18 rfl (lv_at hl 1 rfl) ?_
    by_cases c_6 : a1 = 0
    · replace h := (if_pos c_6).symm.trans h
      refine lv_tableIn (x := a1) (tgt := 68) hx hb dX6_count_19 (by rw [c_6]; decide) (by rw [c_6]; decide) (by rw [c_6]; rfl) (by decide) ?_
      refine lv_aload_n hx hb dX6_count_68 rfl (lv_at hl 0 rfl) ?_
      refine mk_g6_21 hx hb hts in_X6_count_X6 hown hK hP (by decide) rfl (hts (.fieldLink RX6 152 "MixedKernelModel" "time" "I") (by decide +kernel)) dX6_count_69 ?_
      replace h := Option.some.inj h
      subst q
      exact W.iret (v := r_4.2 68 21) hx hb hr (fun t ht hW => ⟨⟨_, (), rfl, rfl, by rw [← ht] at hP; exact hP⟩, hS.F ht⟩) hS.2.2 dX6_count_72
    · replace h := (if_neg c_6).symm.trans h
      by_cases c_7 : a1 = 1
      · replace h := (if_pos c_7).symm.trans h
        refine lv_tableIn (x := a1) (tgt := 73) hx hb dX6_count_19 (by rw [c_7]; decide) (by rw [c_7]; decide) (by rw [c_7]; rfl) (by decide) ?_
        refine lv_aload_n hx hb dX6_count_73 rfl (lv_at hl 0 rfl) ?_
        refine mk_g6_22 hx hb hts in_X6_count_X6 hown hK hP (by decide) rfl (hts (.fieldLink RX6 173 "MixedKernelModel" "idles" "I") (by decide +kernel)) dX6_count_74 ?_
        replace h := Option.some.inj h
        subst q
        exact W.iret (v := r_4.2 68 22) hx hb hr (fun t ht hW => ⟨⟨_, (), rfl, rfl, by rw [← ht] at hP; exact hP⟩, hS.F ht⟩) hS.2.2 dX6_count_77
      · replace h := (if_neg c_7).symm.trans h
        by_cases c_8 : a1 = 2
        · replace h := (if_pos c_8).symm.trans h
          refine lv_tableIn (x := a1) (tgt := 78) hx hb dX6_count_19 (by rw [c_8]; decide) (by rw [c_8]; decide) (by rw [c_8]; rfl) (by decide) ?_
          refine lv_aload_n hx hb dX6_count_78 rfl (lv_at hl 0 rfl) ?_
          refine mk_g6_24 hx hb hts in_X6_count_X6 hown hK hP (by decide) rfl (hts (.fieldLink RX6 155 "MixedKernelModel" "mode" "I") (by decide +kernel)) dX6_count_79 ?_
          replace h := Option.some.inj h
          subst q
          exact W.iret (v := r_4.2 68 24) hx hb hr (fun t ht hW => ⟨⟨_, (), rfl, rfl, by rw [← ht] at hP; exact hP⟩, hS.F ht⟩) hS.2.2 dX6_count_82
        · replace h := (if_neg c_8).symm.trans h
          by_cases c_9 : a1 = 3
          · replace h := (if_pos c_9).symm.trans h
            refine lv_tableIn (x := a1) (tgt := 83) hx hb dX6_count_19 (by rw [c_9]; decide) (by rw [c_9]; decide) (by rw [c_9]; rfl) (by decide) ?_
            refine lv_aload_n hx hb dX6_count_83 rfl (lv_at hl 0 rfl) ?_
            refine mk_g6_25 hx hb hts in_X6_count_X6 hown hK hP (by decide) rfl (hts (.fieldLink RX6 164 "MixedKernelModel" "changes" "I") (by decide +kernel)) dX6_count_84 ?_
            replace h := Option.some.inj h
            subst q
            exact W.iret (v := r_4.2 68 25) hx hb hr (fun t ht hW => ⟨⟨_, (), rfl, rfl, by rw [← ht] at hP; exact hP⟩, hS.F ht⟩) hS.2.2 dX6_count_87
          · replace h := (if_neg c_9).symm.trans h
            by_cases c_10 : a1 = 4
            · replace h := (if_pos c_10).symm.trans h
              refine lv_tableIn (x := a1) (tgt := 108) hx hb dX6_count_19 (by rw [c_10]; decide) (by rw [c_10]; decide) (by rw [c_10]; rfl) (by decide) ?_
              refine lv_aload_n hx hb dX6_count_108 rfl (lv_at hl 0 rfl) ?_
              refine lv_iload_n hx hb dX6_count_109 rfl (lv_at hl 1 rfl) ?_
              obtain ⟨r_12, e_11, h⟩ := mk_bind h
              refine va_calli (va_runV (As := [.int a1]) (rest := []) ⟨hx, hb, hml, hown, hts⟩ (c_X6_sum l D E L a1 r_4.2  e_11) (cwV 1 hts gX6_count_X6_sum rfl rfl rfl (by decide +kernel) ⟨Nat.le_of_ble_eq_true rfl, Nat.le_of_ble_eq_true rfl⟩) ⟨mk_W.blind, mk_rc6 hK hP (by decide) rfl, fun U hU hW => ⟨rfl, mk_W.at hU hW hP hK (hD _ _) hN⟩⟩ rfl rfl hl.1 rfl (lv_room (Nat.le_of_ble_eq_true rfl)) dX6_count_110 ⟨Nat.zero_le _, Nat.zero_le _⟩) hS (fun q _ h => h) (fun q h => h) (fun v_13 u t H1 locs ht hvm hw hB hz1 hk1 hS => ?_)
              subst v_13
              rw [ht] at hB
              replace hP := hB
              clear hB hz1 hk1 hvm ht
              generalize H1 = H at hP hS ⊢
              replace h := Option.some.inj h
              subst q
              exact W.iret (v := r_12) hx hb hr (fun t ht hW => ⟨⟨_, (), rfl, rfl, by rw [← ht] at hP; exact hP⟩, hS.F ht⟩) hS.2.2 dX6_count_113
            · replace h := (if_neg c_10).symm.trans h
              by_cases c_14 : a1 = 5
              · replace h := (if_pos c_14).symm.trans h
                refine lv_tableIn (x := a1) (tgt := 88) hx hb dX6_count_19 (by rw [c_14]; decide) (by rw [c_14]; decide) (by rw [c_14]; rfl) (by decide) ?_
                refine lv_aload_n hx hb dX6_count_88 rfl (lv_at hl 0 rfl) ?_
                refine mk_g6_9 hx hb hts in_X6_count_X6 hown hK hP (by decide) rfl (hts (.fieldLink RX6 143 "MixedKernelModel" "inForce" "I") (by decide +kernel)) dX6_count_89 ?_
                replace h := Option.some.inj h
                subst q
                exact W.iret (v := r_4.2 68 9) hx hb hr (fun t ht hW => ⟨⟨_, (), rfl, rfl, by rw [← ht] at hP; exact hP⟩, hS.F ht⟩) hS.2.2 dX6_count_92
              · replace h := (if_neg c_14).symm.trans h
                by_cases c_15 : a1 = 6
                · replace h := (if_pos c_15).symm.trans h
                  refine lv_tableIn (x := a1) (tgt := 108) hx hb dX6_count_19 (by rw [c_15]; decide) (by rw [c_15]; decide) (by rw [c_15]; rfl) (by decide) ?_
                  refine lv_aload_n hx hb dX6_count_108 rfl (lv_at hl 0 rfl) ?_
                  refine lv_iload_n hx hb dX6_count_109 rfl (lv_at hl 1 rfl) ?_
                  obtain ⟨r_17, e_16, h⟩ := mk_bind h
                  refine va_calli (va_runV (As := [.int a1]) (rest := []) ⟨hx, hb, hml, hown, hts⟩ (c_X6_sum l D E L a1 r_4.2  e_16) (cwV 1 hts gX6_count_X6_sum rfl rfl rfl (by decide +kernel) ⟨Nat.le_of_ble_eq_true rfl, Nat.le_of_ble_eq_true rfl⟩) ⟨mk_W.blind, mk_rc6 hK hP (by decide) rfl, fun U hU hW => ⟨rfl, mk_W.at hU hW hP hK (hD _ _) hN⟩⟩ rfl rfl hl.1 rfl (lv_room (Nat.le_of_ble_eq_true rfl)) dX6_count_110 ⟨Nat.zero_le _, Nat.zero_le _⟩) hS (fun q _ h => h) (fun q h => h) (fun v_18 u t H1 locs ht hvm hw hB hz1 hk1 hS => ?_)
                  subst v_18
                  rw [ht] at hB
                  replace hP := hB
                  clear hB hz1 hk1 hvm ht
                  generalize H1 = H at hP hS ⊢
                  replace h := Option.some.inj h
                  subst q
                  exact W.iret (v := r_17) hx hb hr (fun t ht hW => ⟨⟨_, (), rfl, rfl, by rw [← ht] at hP; exact hP⟩, hS.F ht⟩) hS.2.2 dX6_count_113
                · replace h := (if_neg c_15).symm.trans h
                  by_cases c_19 : a1 = 7
                  · replace h := (if_pos c_19).symm.trans h
                    refine lv_tableIn (x := a1) (tgt := 93) hx hb dX6_count_19 (by rw [c_19]; decide) (by rw [c_19]; decide) (by rw [c_19]; rfl) (by decide) ?_
                    refine lv_aload_n hx hb dX6_count_93 rfl (lv_at hl 0 rfl) ?_
                    refine mk_g6_26 hx hb hts in_X6_count_X6 hown hK hP (by decide) rfl (hts (.fieldLink RX6 158 "MixedKernelModel" "givenUp" "I") (by decide +kernel)) dX6_count_94 ?_
                    replace h := Option.some.inj h
                    subst q
                    exact W.iret (v := r_4.2 68 26) hx hb hr (fun t ht hW => ⟨⟨_, (), rfl, rfl, by rw [← ht] at hP; exact hP⟩, hS.F ht⟩) hS.2.2 dX6_count_97
                  · replace h := (if_neg c_19).symm.trans h
                    by_cases c_20 : a1 = 8
                    · replace h := (if_pos c_20).symm.trans h
                      refine lv_tableIn (x := a1) (tgt := 98) hx hb dX6_count_19 (by rw [c_20]; decide) (by rw [c_20]; decide) (by rw [c_20]; rfl) (by decide) ?_
                      refine lv_aload_n hx hb dX6_count_98 rfl (lv_at hl 0 rfl) ?_
                      refine mk_g6_21 hx hb hts in_X6_count_X6 hown hK hP (by decide) rfl (hts (.fieldLink RX6 152 "MixedKernelModel" "time" "I") (by decide +kernel)) dX6_count_99 ?_
                      refine lv_aload_n hx hb dX6_count_102 rfl (lv_at hl 0 rfl) ?_
                      refine mk_g6_23 hx hb hts in_X6_count_X6 hown hK hP (by decide) rfl (hts (.fieldLink RX6 176 "MixedKernelModel" "latestIdle" "I") (by decide +kernel)) dX6_count_103 ?_
                      refine lv_isub hx hb dX6_count_106 ?_
                      replace h := Option.some.inj h
                      subst q
                      exact W.iret (v := (r_4.2 68 21) - (r_4.2 68 23)) hx hb hr (fun t ht hW => ⟨⟨_, (), rfl, rfl, by rw [← ht] at hP; exact hP⟩, hS.F ht⟩) hS.2.2 dX6_count_107
                    · replace h := (if_neg c_20).symm.trans h
                      have ec_6 := lv_neT (k := 0) (a := 0) c_6 rfl
                      have ec_7 := lv_neT (k := 1) (a := 1) c_7 rfl
                      have ec_8 := lv_neT (k := 2) (a := 2) c_8 rfl
                      have ec_9 := lv_neT (k := 3) (a := 3) c_9 rfl
                      have ec_10 := lv_neT (k := 4) (a := 4) c_10 rfl
                      have ec_14 := lv_neT (k := 5) (a := 5) c_14 rfl
                      have ec_15 := lv_neT (k := 6) (a := 6) c_15 rfl
                      have ec_19 := lv_neT (k := 7) (a := 7) c_19 rfl
                      have ec_20 := lv_neT (k := 8) (a := 8) c_20 rfl
                      refine lv_tableOut (x := a1) (tgt := 108) hx hb dX6_count_19 (by omega) (by decide) ?_
                      refine lv_aload_n hx hb dX6_count_108 rfl (lv_at hl 0 rfl) ?_
                      refine lv_iload_n hx hb dX6_count_109 rfl (lv_at hl 1 rfl) ?_
                      obtain ⟨r_22, e_21, h⟩ := mk_bind h
                      refine va_calli (va_runV (As := [.int a1]) (rest := []) ⟨hx, hb, hml, hown, hts⟩ (c_X6_sum l D E L a1 r_4.2  e_21) (cwV 1 hts gX6_count_X6_sum rfl rfl rfl (by decide +kernel) ⟨Nat.le_of_ble_eq_true rfl, Nat.le_of_ble_eq_true rfl⟩) ⟨mk_W.blind, mk_rc6 hK hP (by decide) rfl, fun U hU hW => ⟨rfl, mk_W.at hU hW hP hK (hD _ _) hN⟩⟩ rfl rfl hl.1 rfl (lv_room (Nat.le_of_ble_eq_true rfl)) dX6_count_110 ⟨Nat.zero_le _, Nat.zero_le _⟩) hS (fun q _ h => h) (fun q h => h) (fun v_23 u t H1 locs ht hvm hw hB hz1 hk1 hS => ?_)
                      subst v_23
                      rw [ht] at hB
                      replace hP := hB
                      clear hB hz1 hk1 hvm ht
                      generalize H1 = H at hP hS ⊢
                      replace h := Option.some.inj h
                      subst q
                      exact W.iret (v := r_22) hx hb hr (fun t ht hW => ⟨⟨_, (), rfl, rfl, by rw [← ht] at hP; exact hP⟩, hS.F ht⟩) hS.2.2 dX6_count_113
  · replace h := (if_pos c_5).symm.trans h
    refine lv_iconst (v := 0) hx hb dX6_count_16 (by decide) ?_
    replace h := Option.some.inj h
    subst q
    exact W.iret (v := 0) hx hb hr (fun t ht hW => ⟨⟨_, (), rfl, rfl, by rw [← ht] at hP; exact hP⟩, hS.F ht⟩) hS.2.2 dX6_count_17
