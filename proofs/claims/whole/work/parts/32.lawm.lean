abbrev rm_L_add : Room := { frames := 7, cells := 1, slots := 6, locals := 173 }
def fc_L_add (q : (Nat × Int32) × mk_M) : Int32 := (if q.1.1 = 0 then 0 else if q.1.1 = 1 then 1 else 2)
def fl_L_add (q : (Nat × Int32) × mk_M) (L : Nat → Int64) : Nat → Int64 := if q.1.1 = 0 then vp_updL L 0 (q.1.2).toInt64 else L
set_option maxHeartbeats 8000000 in
set_option maxRecDepth 100000 in
theorem c_L_add (l : Launch) (hst : l.stackTraces = false) (D : va_G) (E : mk_E) (L : Nat → Int64) (p0 : Int32) (p1 : Int32) (p2 : Int32) (p3 : Int32) (p4 : Int32) (M : mk_M) {q : (Nat × Int32) × mk_M} (h : f_X5_add p0 p1 p2 p3 p4 M = some q) (hq : q.1.1 = 0 ∨ q.1.1 = 1 ∨ q.1.1 = 2) : Met l yL_add wsL_add rm_L_add (va_Pc [.ref (E.1 0), .int p0, .int p1, .int p2, .int p3, .int p4, .ref (E.1 93)] (mk_WC D E M L)) (mk_Qw D E (fc_L_add q) q.2 (fl_L_add q L)) 1 6 (mk_A E) := by
  refine va_MetW (cc := cL_add) (maxL := 8) (ret := some .int) (hh := [(0, 16, 19, 13), (0, 16, 23, 15)]) (by decide) rfl ?_
  intro p e s m args below meth c s₁ B hml hv
  obtain ⟨rfl, ⟨⟨hP, hK, hD0, hN⟩, hT⟩, hC⟩ := hv
  have hx := B.exec
  have hb := B.bytes
  have hr := B.returns
  have hts := atoms_spec (ws := wsL_add) B.pre
  have htab : c.exceptionTable.toList = [⟨0, 16, 19, 13⟩, ⟨0, 16, 23, 15⟩] := vx_table (x := yL_add) B (hts (.codeWith yL_add cL_add 8 (some .int) [(0, 16, 19, 13), (0, 16, 23, 15)]) (List.mem_cons_self ..))
  have hown : s.vm.findClass RL = some m.cls := findClass_of_methodNamed B.named
  have hlk := B.notSynchronized
  have hD : ∀ (M : mk_M) (L : Nat → Int64), va_D (mk_A E) (mk_wl E M L) := fun _ _ => mk_D hD0
  have hS : va_S (mk_A E) s.heap s.heap [] := va_S.rf
  have hl := lv_entry ([.ref (E.1 0), .int p0, .int p1, .int p2, .int p3, .int p4, .ref (E.1 93)]) (n := 8) (Nat.le_of_ble_eq_true rfl)
  rw [lg_entry_eq]
  generalize (lg_sl ([.ref (E.1 0), .int p0, .int p1, .int p2, .int p3, .int p4, .ref (E.1 93)]) ++ List.replicate (8 - (lg_sl ([.ref (E.1 0), .int p0, .int p1, .int p2, .int p3, .int p4, .ref (E.1 93)])).length) Slot.unset).toArray = ls at hl ⊢
  have hl : lv_has ls 8 [(0, .ref (E.1 0)), (1, .int p0), (2, .int p1), (3, .int p2), (4, .int p3), (5, .int p4), (6, .ref (E.1 93))] := hl
  refine lv_aload hx hb dL_add_0 (lv_at hl 6 rfl) ?_
  refine lv_iconst (v := 0) hx hb dL_add_2 (by decide) ?_
  refine lv_aload_n hx hb dL_add_3 rfl (lv_at hl 0 rfl) ?_
  refine lv_iload_n hx hb dL_add_4 rfl (lv_at hl 1 rfl) ?_
  refine lv_iload_n hx hb dL_add_5 rfl (lv_at hl 2 rfl) ?_
  refine lv_iload_n hx hb dL_add_6 rfl (lv_at hl 3 rfl) ?_
  refine lv_iload hx hb dL_add_7 (lv_at hl 4 rfl) ?_
  refine lv_iload hx hb dL_add_9 (lv_at hl 5 rfl) ?_
  refine vx_calli (vx_runV (As := [.int p0, .int p1, .int p2, .int p3, .int p4]) (rest := [.int 0, .ref (E.1 93)]) ⟨hx, hb, hml, hown, hts⟩ (c_X5_add l hst D E L p0 p1 p2 p3 p4 M h) (cwV 5 hts gL_add_X5_add rfl rfl rfl (by decide +kernel) ⟨Nat.le_of_ble_eq_true rfl, Nat.le_of_ble_eq_true rfl⟩) ⟨mk_WT.blind, mk_rc5 hK hP (by decide) rfl, fun U hU hW => ⟨rfl, mk_W.at hU hW hP hK (hD _ _) hN, hT.at hS hU hW⟩⟩ rfl rfl hl.1 rfl (lv_room (Nat.le_of_ble_eq_true rfl)) dL_add_11 ⟨Nat.le_of_ble_eq_true rfl, Nat.le_of_ble_eq_true rfl⟩) hS (fun q _ h => h) (fun q h => h) (fun q _ h => h) (fun X ce q9 u t H1 locs ht hal hpx hBX hz1 hk1 hS hce hcv hcl => ?_) (fun r u t H1 locs ht hvm hw hB hz1 hk1 hS => ?_)
  · obtain ⟨rfl, hne, hP1⟩ := hBX
    rw [ht] at hP1
    rcases hq with hq | hq | hq
    · exact absurd hq hne
    · rw [hq] at hcl
      refine cx_catch hown [] ⟨0, 16, 19, 13⟩ [⟨0, 16, 23, 15⟩] htab (fun z hz => nomatch hz) (by decide) (by decide) (hts (.classLink RL 13 "java/lang/IllegalArgumentException") (by decide +kernel)) (hT.2.2 (.castable "java/lang/IllegalArgumentException" "java/lang/IllegalArgumentException") (by decide +kernel) _) hce hcv hcl ?_
      refine lv_astore (lv' := [(7, .ref q9), (0, .ref (E.1 0)), (1, .int p0), (2, .int p1), (3, .int p2), (4, .int p3), (5, .int p4), (6, .ref (E.1 93))]) hx hb dL_add_19 hl (by decide) rfl (fun ls hl => ?_)
      refine lv_iconst (v := 1) hx hb dL_add_21 (by decide) ?_
      have ec : fc_L_add q = 1 := by simp [fc_L_add, hq]
      have el : fl_L_add q L = L := by simp [fl_L_add, hq]
      rw [ec, el]
      exact W.iret (v := 1) hx hb hr (fun t2 ht2 hW => ⟨⟨_, (), rfl, rfl, by rw [← ht2] at hP1; exact hP1⟩, hS.F ht2⟩) hS.2.2 dL_add_22
    · rw [hq] at hcl
      refine cx_catch hown [⟨0, 16, 19, 13⟩] ⟨0, 16, 23, 15⟩ [] htab (fun z hz => by obtain rfl := List.mem_singleton.mp hz; exact Or.inr ⟨by decide, _, hts (.classLink RL 13 "java/lang/IllegalArgumentException") (by decide +kernel), hC.2.2.1⟩) (by decide) (by decide) (hts (.classLink RL 15 "java/lang/IllegalStateException") (by decide +kernel)) (hT.2.2 (.castable "java/lang/IllegalStateException" "java/lang/IllegalStateException") (by decide +kernel) _) hce hcv hcl ?_
      refine lv_astore (lv' := [(7, .ref q9), (0, .ref (E.1 0)), (1, .int p0), (2, .int p1), (3, .int p2), (4, .int p3), (5, .int p4), (6, .ref (E.1 93))]) hx hb dL_add_23 hl (by decide) rfl (fun ls hl => ?_)
      refine lv_iconst (v := 2) hx hb dL_add_25 (by decide) ?_
      have ec : fc_L_add q = 2 := by simp [fc_L_add, hq]
      have el : fl_L_add q L = L := by simp [fl_L_add, hq]
      rw [ec, el]
      exact W.iret (v := 2) hx hb hr (fun t2 ht2 hW => ⟨⟨_, (), rfl, rfl, by rw [← ht2] at hP1; exact hP1⟩, hS.F ht2⟩) hS.2.2 dL_add_26
  · obtain ⟨h0, rfl⟩ := hw
    rw [ht] at hB
    replace hP := hB
    have ec : fc_L_add q = 0 := by simp [fc_L_add, h0]
    have el : fl_L_add q L = vp_updL L 0 (q.1.2).toInt64 := by simp only [fl_L_add, h0, if_pos]
    rw [ec, el]
    refine lv_i2l hx hb dL_add_14 rfl ?_
    refine mk_ls hx hb hK hP (hD _ _) hS dL_add_15 (fun H locs hP hS => ?_)
    refine lv_goto (tgt := 27) hx hb dL_add_16 (by decide) ?_
    refine lv_iconst (v := 0) hx hb dL_add_27 (by decide) ?_
    exact W.iret (v := 0) hx hb hr (fun t2 ht2 hW => ⟨⟨_, (), rfl, rfl, by rw [← ht2] at hP; exact hP⟩, hS.F ht2⟩) hS.2.2 dL_add_28
abbrev rm_L_remove : Room := { frames := 7, cells := 1, slots := 6, locals := 102 }
def fc_L_remove (q : (Nat × Int32) × mk_M) : Int32 := (if q.1.1 = 0 then 0 else if q.1.1 = 3 then 1 else 2)
def fl_L_remove (q : (Nat × Int32) × mk_M) (L : Nat → Int64) : Nat → Int64 := if q.1.1 = 0 then vp_updL L 0 (if q.1.2 = 0 then (0 : Int64) else 1) else L
set_option maxHeartbeats 8000000 in
set_option maxRecDepth 100000 in
theorem c_L_remove (l : Launch) (hst : l.stackTraces = false) (D : va_G) (E : mk_E) (L : Nat → Int64) (p0 : Int32) (M : mk_M) {q : (Nat × Int32) × mk_M} (h : f_X5_remove p0 M = some q) (hq : q.1.1 = 0 ∨ q.1.1 = 3 ∨ q.1.1 = 2) : Met l yL_remove wsL_remove rm_L_remove (va_Pc [.ref (E.1 0), .int p0, .ref (E.1 93)] (mk_WC D E M L)) (mk_Qw D E (fc_L_remove q) q.2 (fl_L_remove q L)) 1 6 (mk_A E) := by
  refine va_MetW (cc := cL_remove) (maxL := 4) (ret := some .int) (hh := [(0, 16, 19, 21), (0, 16, 22, 15)]) (by decide) rfl ?_
  intro p e s m args below meth c s₁ B hml hv
  obtain ⟨rfl, ⟨⟨hP, hK, hD0, hN⟩, hT⟩, hC⟩ := hv
  have hx := B.exec
  have hb := B.bytes
  have hr := B.returns
  have hts := atoms_spec (ws := wsL_remove) B.pre
  have htab : c.exceptionTable.toList = [⟨0, 16, 19, 21⟩, ⟨0, 16, 22, 15⟩] := vx_table (x := yL_remove) B (hts (.codeWith yL_remove cL_remove 4 (some .int) [(0, 16, 19, 21), (0, 16, 22, 15)]) (List.mem_cons_self ..))
  have hown : s.vm.findClass RL = some m.cls := findClass_of_methodNamed B.named
  have hlk := B.notSynchronized
  have hD : ∀ (M : mk_M) (L : Nat → Int64), va_D (mk_A E) (mk_wl E M L) := fun _ _ => mk_D hD0
  have hS : va_S (mk_A E) s.heap s.heap [] := va_S.rf
  have hl := lv_entry ([.ref (E.1 0), .int p0, .ref (E.1 93)]) (n := 4) (Nat.le_of_ble_eq_true rfl)
  rw [lg_entry_eq]
  generalize (lg_sl ([.ref (E.1 0), .int p0, .ref (E.1 93)]) ++ List.replicate (4 - (lg_sl ([.ref (E.1 0), .int p0, .ref (E.1 93)])).length) Slot.unset).toArray = ls at hl ⊢
  have hl : lv_has ls 4 [(0, .ref (E.1 0)), (1, .int p0), (2, .ref (E.1 93))] := hl
  refine lv_aload_n hx hb dL_remove_0 rfl (lv_at hl 2 rfl) ?_
  refine lv_iconst (v := 0) hx hb dL_remove_1 (by decide) ?_
  refine lv_aload_n hx hb dL_remove_2 rfl (lv_at hl 0 rfl) ?_
  refine lv_iload_n hx hb dL_remove_3 rfl (lv_at hl 1 rfl) ?_
  refine vx_calli (vx_runV (As := [.int p0]) (rest := [.int 0, .ref (E.1 93)]) ⟨hx, hb, hml, hown, hts⟩ (c_X5_remove l hst D E L p0 M h) (cwV 1 hts gL_remove_X5_remove rfl rfl rfl (by decide +kernel) ⟨Nat.le_of_ble_eq_true rfl, Nat.le_of_ble_eq_true rfl⟩) ⟨mk_WT.blind, mk_rc5 hK hP (by decide) rfl, fun U hU hW => ⟨rfl, mk_W.at hU hW hP hK (hD _ _) hN, hT.at hS hU hW⟩⟩ rfl rfl hl.1 rfl (lv_room (Nat.le_of_ble_eq_true rfl)) dL_remove_4 ⟨Nat.le_of_ble_eq_true rfl, Nat.le_of_ble_eq_true rfl⟩) hS (fun q _ h => h) (fun q h => h) (fun q _ h => h) (fun X ce q9 u t H1 locs ht hal hpx hBX hz1 hk1 hS hce hcv hcl => ?_) (fun r u t H1 locs ht hvm hw hB hz1 hk1 hS => ?_)
  · obtain ⟨rfl, hne, hP1⟩ := hBX
    rw [ht] at hP1
    rcases hq with hq | hq | hq
    · exact absurd hq hne
    · rw [hq] at hcl
      refine cx_catch hown [] ⟨0, 16, 19, 21⟩ [⟨0, 16, 22, 15⟩] htab (fun z hz => nomatch hz) (by decide) (by decide) (hts (.classLink RL 21 "java/util/NoSuchElementException") (by decide +kernel)) (hT.2.2 (.castable "java/util/NoSuchElementException" "java/util/NoSuchElementException") (by decide +kernel) _) hce hcv hcl ?_
      refine lv_astore_n (lv' := [(3, .ref q9), (0, .ref (E.1 0)), (1, .int p0), (2, .ref (E.1 93))]) hx hb dL_remove_19 rfl hl (by decide) rfl (fun ls hl => ?_)
      refine lv_iconst (v := 1) hx hb dL_remove_20 (by decide) ?_
      have ec : fc_L_remove q = 1 := by simp [fc_L_remove, hq]
      have el : fl_L_remove q L = L := by simp [fl_L_remove, hq]
      rw [ec, el]
      exact W.iret (v := 1) hx hb hr (fun t2 ht2 hW => ⟨⟨_, (), rfl, rfl, by rw [← ht2] at hP1; exact hP1⟩, hS.F ht2⟩) hS.2.2 dL_remove_21
    · rw [hq] at hcl
      refine cx_catch hown [⟨0, 16, 19, 21⟩] ⟨0, 16, 22, 15⟩ [] htab (fun z hz => by obtain rfl := List.mem_singleton.mp hz; exact Or.inr ⟨by decide, _, hts (.classLink RL 21 "java/util/NoSuchElementException") (by decide +kernel), hC.2.2.2.1⟩) (by decide) (by decide) (hts (.classLink RL 15 "java/lang/IllegalStateException") (by decide +kernel)) (hT.2.2 (.castable "java/lang/IllegalStateException" "java/lang/IllegalStateException") (by decide +kernel) _) hce hcv hcl ?_
      refine lv_astore_n (lv' := [(3, .ref q9), (0, .ref (E.1 0)), (1, .int p0), (2, .ref (E.1 93))]) hx hb dL_remove_22 rfl hl (by decide) rfl (fun ls hl => ?_)
      refine lv_iconst (v := 2) hx hb dL_remove_23 (by decide) ?_
      have ec : fc_L_remove q = 2 := by simp [fc_L_remove, hq]
      have el : fl_L_remove q L = L := by simp [fl_L_remove, hq]
      rw [ec, el]
      exact W.iret (v := 2) hx hb hr (fun t2 ht2 hW => ⟨⟨_, (), rfl, rfl, by rw [← ht2] at hP1; exact hP1⟩, hS.F ht2⟩) hS.2.2 dL_remove_24
  · obtain ⟨h0, rfl⟩ := hw
    rw [ht] at hB
    replace hP := hB
    have ec : fc_L_remove q = 0 := by simp [fc_L_remove, h0]
    have el : fl_L_remove q L = vp_updL L 0 (if q.1.2 = 0 then (0 : Int64) else 1) := by simp only [fl_L_remove, h0, if_pos]
    rw [ec, el]
    refine lv_if_eq (tgt := 14) hx hb dL_remove_7 (by decide) (fun c1 => ?_) (fun c1 => ?_)
    · rw [if_pos c1]
      refine lv_lconst (v := 0) hx hb dL_remove_14 (by decide) ?_
      refine mk_ls hx hb hK hP (hD _ _) hS dL_remove_15 (fun H locs hP hS => ?_)
      refine lv_goto (tgt := 25) hx hb dL_remove_16 (by decide) ?_
      refine lv_iconst (v := 0) hx hb dL_remove_25 (by decide) ?_
      exact W.iret (v := 0) hx hb hr (fun t2 ht2 hW => ⟨⟨_, (), rfl, rfl, by rw [← ht2] at hP; exact hP⟩, hS.F ht2⟩) hS.2.2 dL_remove_26
    · rw [if_neg c1]
      refine lv_lconst (v := 1) hx hb dL_remove_10 (by decide) ?_
      refine lv_goto (tgt := 15) hx hb dL_remove_11 (by decide) ?_
      refine mk_ls hx hb hK hP (hD _ _) hS dL_remove_15 (fun H locs hP hS => ?_)
      refine lv_goto (tgt := 25) hx hb dL_remove_16 (by decide) ?_
      refine lv_iconst (v := 0) hx hb dL_remove_25 (by decide) ?_
      exact W.iret (v := 0) hx hb hr (fun t2 ht2 hW => ⟨⟨_, (), rfl, rfl, by rw [← ht2] at hP; exact hP⟩, hS.F ht2⟩) hS.2.2 dL_remove_26
abbrev rm_L_release : Room := { frames := 7, cells := 1, slots := 6, locals := 104 }
def fc_L_release (q : (Nat × Int32) × mk_M) : Int32 := (if q.1.1 = 0 then 0 else if q.1.1 = 3 then 1 else if q.1.1 = 1 then 2 else 3)
def fl_L_release (q : (Nat × Int32) × mk_M) (L : Nat → Int64) : Nat → Int64 := if q.1.1 = 0 then vp_updL L 0 (q.1.2).toInt64 else L
set_option maxHeartbeats 8000000 in
set_option maxRecDepth 100000 in
theorem c_L_release (l : Launch) (hst : l.stackTraces = false) (D : va_G) (E : mk_E) (L : Nat → Int64) (p0 : Int32) (p1 : Int32) (M : mk_M) {q : (Nat × Int32) × mk_M} (h : f_X5_release p0 p1 M = some q) (hq : q.1.1 = 0 ∨ q.1.1 = 3 ∨ q.1.1 = 1 ∨ q.1.1 = 2) : Met l yL_release wsL_release rm_L_release (va_Pc [.ref (E.1 0), .int p0, .int p1, .ref (E.1 93)] (mk_WC D E M L)) (mk_Qw D E (fc_L_release q) q.2 (fl_L_release q L)) 1 6 (mk_A E) := by
  refine va_MetW (cc := cL_release) (maxL := 5) (ret := some .int) (hh := [(0, 10, 13, 21), (0, 10, 17, 13), (0, 10, 21, 15)]) (by decide) rfl ?_
  intro p e s m args below meth c s₁ B hml hv
  obtain ⟨rfl, ⟨⟨hP, hK, hD0, hN⟩, hT⟩, hC⟩ := hv
  have hx := B.exec
  have hb := B.bytes
  have hr := B.returns
  have hts := atoms_spec (ws := wsL_release) B.pre
  have htab : c.exceptionTable.toList = [⟨0, 10, 13, 21⟩, ⟨0, 10, 17, 13⟩, ⟨0, 10, 21, 15⟩] := vx_table (x := yL_release) B (hts (.codeWith yL_release cL_release 5 (some .int) [(0, 10, 13, 21), (0, 10, 17, 13), (0, 10, 21, 15)]) (List.mem_cons_self ..))
  have hown : s.vm.findClass RL = some m.cls := findClass_of_methodNamed B.named
  have hlk := B.notSynchronized
  have hD : ∀ (M : mk_M) (L : Nat → Int64), va_D (mk_A E) (mk_wl E M L) := fun _ _ => mk_D hD0
  have hS : va_S (mk_A E) s.heap s.heap [] := va_S.rf
  have hl := lv_entry ([.ref (E.1 0), .int p0, .int p1, .ref (E.1 93)]) (n := 5) (Nat.le_of_ble_eq_true rfl)
  rw [lg_entry_eq]
  generalize (lg_sl ([.ref (E.1 0), .int p0, .int p1, .ref (E.1 93)]) ++ List.replicate (5 - (lg_sl ([.ref (E.1 0), .int p0, .int p1, .ref (E.1 93)])).length) Slot.unset).toArray = ls at hl ⊢
  have hl : lv_has ls 5 [(0, .ref (E.1 0)), (1, .int p0), (2, .int p1), (3, .ref (E.1 93))] := hl
  refine lv_aload_n hx hb dL_release_0 rfl (lv_at hl 3 rfl) ?_
  refine lv_iconst (v := 0) hx hb dL_release_1 (by decide) ?_
  refine lv_aload_n hx hb dL_release_2 rfl (lv_at hl 0 rfl) ?_
  refine lv_iload_n hx hb dL_release_3 rfl (lv_at hl 1 rfl) ?_
  refine lv_iload_n hx hb dL_release_4 rfl (lv_at hl 2 rfl) ?_
  refine vx_calli (vx_runV (As := [.int p0, .int p1]) (rest := [.int 0, .ref (E.1 93)]) ⟨hx, hb, hml, hown, hts⟩ (c_X5_release l hst D E L p0 p1 M h) (cwV 2 hts gL_release_X5_release rfl rfl rfl (by decide +kernel) ⟨Nat.le_of_ble_eq_true rfl, Nat.le_of_ble_eq_true rfl⟩) ⟨mk_WT.blind, mk_rc5 hK hP (by decide) rfl, fun U hU hW => ⟨rfl, mk_W.at hU hW hP hK (hD _ _) hN, hT.at hS hU hW⟩⟩ rfl rfl hl.1 rfl (lv_room (Nat.le_of_ble_eq_true rfl)) dL_release_5 ⟨Nat.le_of_ble_eq_true rfl, Nat.le_of_ble_eq_true rfl⟩) hS (fun q _ h => h) (fun q h => h) (fun q _ h => h) (fun X ce q9 u t H1 locs ht hal hpx hBX hz1 hk1 hS hce hcv hcl => ?_) (fun r u t H1 locs ht hvm hw hB hz1 hk1 hS => ?_)
  · obtain ⟨rfl, hne, hP1⟩ := hBX
    rw [ht] at hP1
    rcases hq with hq | hq | hq | hq
    · exact absurd hq hne
    · rw [hq] at hcl
      refine cx_catch hown [] ⟨0, 10, 13, 21⟩ [⟨0, 10, 17, 13⟩, ⟨0, 10, 21, 15⟩] htab (fun z hz => nomatch hz) (by decide) (by decide) (hts (.classLink RL 21 "java/util/NoSuchElementException") (by decide +kernel)) (hT.2.2 (.castable "java/util/NoSuchElementException" "java/util/NoSuchElementException") (by decide +kernel) _) hce hcv hcl ?_
      refine lv_astore (lv' := [(4, .ref q9), (0, .ref (E.1 0)), (1, .int p0), (2, .int p1), (3, .ref (E.1 93))]) hx hb dL_release_13 hl (by decide) rfl (fun ls hl => ?_)
      refine lv_iconst (v := 1) hx hb dL_release_15 (by decide) ?_
      have ec : fc_L_release q = 1 := by simp [fc_L_release, hq]
      have el : fl_L_release q L = L := by simp [fl_L_release, hq]
      rw [ec, el]
      exact W.iret (v := 1) hx hb hr (fun t2 ht2 hW => ⟨⟨_, (), rfl, rfl, by rw [← ht2] at hP1; exact hP1⟩, hS.F ht2⟩) hS.2.2 dL_release_16
    · rw [hq] at hcl
      refine cx_catch hown [⟨0, 10, 13, 21⟩] ⟨0, 10, 17, 13⟩ [⟨0, 10, 21, 15⟩] htab (fun z hz => by obtain rfl := List.mem_singleton.mp hz; exact Or.inr ⟨by decide, _, hts (.classLink RL 21 "java/util/NoSuchElementException") (by decide +kernel), hC.2.1⟩) (by decide) (by decide) (hts (.classLink RL 13 "java/lang/IllegalArgumentException") (by decide +kernel)) (hT.2.2 (.castable "java/lang/IllegalArgumentException" "java/lang/IllegalArgumentException") (by decide +kernel) _) hce hcv hcl ?_
      refine lv_astore (lv' := [(4, .ref q9), (0, .ref (E.1 0)), (1, .int p0), (2, .int p1), (3, .ref (E.1 93))]) hx hb dL_release_17 hl (by decide) rfl (fun ls hl => ?_)
      refine lv_iconst (v := 2) hx hb dL_release_19 (by decide) ?_
      have ec : fc_L_release q = 2 := by simp [fc_L_release, hq]
      have el : fl_L_release q L = L := by simp [fl_L_release, hq]
      rw [ec, el]
      exact W.iret (v := 2) hx hb hr (fun t2 ht2 hW => ⟨⟨_, (), rfl, rfl, by rw [← ht2] at hP1; exact hP1⟩, hS.F ht2⟩) hS.2.2 dL_release_20
    · rw [hq] at hcl
      refine cx_catch hown [⟨0, 10, 13, 21⟩, ⟨0, 10, 17, 13⟩] ⟨0, 10, 21, 15⟩ [] htab (fun z hz => by rcases List.mem_cons.mp hz with rfl | hz; exact Or.inr ⟨by decide, _, hts (.classLink RL 21 "java/util/NoSuchElementException") (by decide +kernel), hC.2.2.2.1⟩; obtain rfl := List.mem_singleton.mp hz; exact Or.inr ⟨by decide, _, hts (.classLink RL 13 "java/lang/IllegalArgumentException") (by decide +kernel), hC.2.2.1⟩) (by decide) (by decide) (hts (.classLink RL 15 "java/lang/IllegalStateException") (by decide +kernel)) (hT.2.2 (.castable "java/lang/IllegalStateException" "java/lang/IllegalStateException") (by decide +kernel) _) hce hcv hcl ?_
      refine lv_astore (lv' := [(4, .ref q9), (0, .ref (E.1 0)), (1, .int p0), (2, .int p1), (3, .ref (E.1 93))]) hx hb dL_release_21 hl (by decide) rfl (fun ls hl => ?_)
      refine lv_iconst (v := 3) hx hb dL_release_23 (by decide) ?_
      have ec : fc_L_release q = 3 := by simp [fc_L_release, hq]
      have el : fl_L_release q L = L := by simp [fl_L_release, hq]
      rw [ec, el]
      exact W.iret (v := 3) hx hb hr (fun t2 ht2 hW => ⟨⟨_, (), rfl, rfl, by rw [← ht2] at hP1; exact hP1⟩, hS.F ht2⟩) hS.2.2 dL_release_24
  · obtain ⟨h0, rfl⟩ := hw
    rw [ht] at hB
    replace hP := hB
    have ec : fc_L_release q = 0 := by simp [fc_L_release, h0]
    have el : fl_L_release q L = vp_updL L 0 (q.1.2).toInt64 := by simp only [fl_L_release, h0, if_pos]
    rw [ec, el]
    refine lv_i2l hx hb dL_release_8 rfl ?_
    refine mk_ls hx hb hK hP (hD _ _) hS dL_release_9 (fun H locs hP hS => ?_)
    refine lv_goto (tgt := 25) hx hb dL_release_10 (by decide) ?_
    refine lv_iconst (v := 0) hx hb dL_release_25 (by decide) ?_
    exact W.iret (v := 0) hx hb hr (fun t2 ht2 hW => ⟨⟨_, (), rfl, rfl, by rw [← ht2] at hP; exact hP⟩, hS.F ht2⟩) hS.2.2 dL_release_26
abbrev rm_L_run : Room := { frames := 7, cells := 1, slots := 6, locals := 155 }
def fc_L_run (q : (Nat × Int32) × mk_M) : Int32 := (if q.1.1 = 0 then 0 else 1)
def fl_L_run (q : (Nat × Int32) × mk_M) (L : Nat → Int64) : Nat → Int64 := if q.1.1 = 0 then vp_updL L 0 (q.1.2).toInt64 else L
set_option maxHeartbeats 8000000 in
set_option maxRecDepth 100000 in
theorem c_L_run (l : Launch) (hst : l.stackTraces = false) (D : va_G) (E : mk_E) (L : Nat → Int64) (p0 : Int32) (M : mk_M) {q : (Nat × Int32) × mk_M} (h : f_X5_run p0 M = some q) (hq : q.1.1 = 0 ∨ q.1.1 = 1) : Met l yL_run wsL_run rm_L_run (va_Pc [.ref (E.1 0), .int p0, .ref (E.1 93)] (mk_WC D E M L)) (mk_Qw D E (fc_L_run q) q.2 (fl_L_run q L)) 1 6 (mk_A E) := by
  refine va_MetW (cc := cL_run) (maxL := 4) (ret := some .int) (hh := [(0, 9, 12, 13)]) (by decide) rfl ?_
  intro p e s m args below meth c s₁ B hml hv
  obtain ⟨rfl, ⟨⟨hP, hK, hD0, hN⟩, hT⟩, hC⟩ := hv
  have hx := B.exec
  have hb := B.bytes
  have hr := B.returns
  have hts := atoms_spec (ws := wsL_run) B.pre
  have htab : c.exceptionTable.toList = [⟨0, 9, 12, 13⟩] := vx_table (x := yL_run) B (hts (.codeWith yL_run cL_run 4 (some .int) [(0, 9, 12, 13)]) (List.mem_cons_self ..))
  have hown : s.vm.findClass RL = some m.cls := findClass_of_methodNamed B.named
  have hlk := B.notSynchronized
  have hD : ∀ (M : mk_M) (L : Nat → Int64), va_D (mk_A E) (mk_wl E M L) := fun _ _ => mk_D hD0
  have hS : va_S (mk_A E) s.heap s.heap [] := va_S.rf
  have hl := lv_entry ([.ref (E.1 0), .int p0, .ref (E.1 93)]) (n := 4) (Nat.le_of_ble_eq_true rfl)
  rw [lg_entry_eq]
  generalize (lg_sl ([.ref (E.1 0), .int p0, .ref (E.1 93)]) ++ List.replicate (4 - (lg_sl ([.ref (E.1 0), .int p0, .ref (E.1 93)])).length) Slot.unset).toArray = ls at hl ⊢
  have hl : lv_has ls 4 [(0, .ref (E.1 0)), (1, .int p0), (2, .ref (E.1 93))] := hl
  refine lv_aload_n hx hb dL_run_0 rfl (lv_at hl 2 rfl) ?_
  refine lv_iconst (v := 0) hx hb dL_run_1 (by decide) ?_
  refine lv_aload_n hx hb dL_run_2 rfl (lv_at hl 0 rfl) ?_
  refine lv_iload_n hx hb dL_run_3 rfl (lv_at hl 1 rfl) ?_
  refine vx_calli (vx_runV (As := [.int p0]) (rest := [.int 0, .ref (E.1 93)]) ⟨hx, hb, hml, hown, hts⟩ (c_X5_run l hst D E L p0 M h) (cwV 1 hts gL_run_X5_run rfl rfl rfl (by decide +kernel) ⟨Nat.le_of_ble_eq_true rfl, Nat.le_of_ble_eq_true rfl⟩) ⟨mk_WT.blind, mk_rc5 hK hP (by decide) rfl, fun U hU hW => ⟨rfl, mk_W.at hU hW hP hK (hD _ _) hN, hT.at hS hU hW⟩⟩ rfl rfl hl.1 rfl (lv_room (Nat.le_of_ble_eq_true rfl)) dL_run_4 ⟨Nat.le_of_ble_eq_true rfl, Nat.le_of_ble_eq_true rfl⟩) hS (fun q _ h => h) (fun q h => h) (fun q _ h => h) (fun X ce q9 u t H1 locs ht hal hpx hBX hz1 hk1 hS hce hcv hcl => ?_) (fun r u t H1 locs ht hvm hw hB hz1 hk1 hS => ?_)
  · obtain ⟨rfl, hne, hP1⟩ := hBX
    rw [ht] at hP1
    rcases hq with hq | hq
    · exact absurd hq hne
    · rw [hq] at hcl
      refine cx_catch hown [] ⟨0, 9, 12, 13⟩ [] htab (fun z hz => nomatch hz) (by decide) (by decide) (hts (.classLink RL 13 "java/lang/IllegalArgumentException") (by decide +kernel)) (hT.2.2 (.castable "java/lang/IllegalArgumentException" "java/lang/IllegalArgumentException") (by decide +kernel) _) hce hcv hcl ?_
      refine lv_astore_n (lv' := [(3, .ref q9), (0, .ref (E.1 0)), (1, .int p0), (2, .ref (E.1 93))]) hx hb dL_run_12 rfl hl (by decide) rfl (fun ls hl => ?_)
      refine lv_iconst (v := 1) hx hb dL_run_13 (by decide) ?_
      have ec : fc_L_run q = 1 := by simp [fc_L_run, hq]
      have el : fl_L_run q L = L := by simp [fl_L_run, hq]
      rw [ec, el]
      exact W.iret (v := 1) hx hb hr (fun t2 ht2 hW => ⟨⟨_, (), rfl, rfl, by rw [← ht2] at hP1; exact hP1⟩, hS.F ht2⟩) hS.2.2 dL_run_14
  · obtain ⟨h0, rfl⟩ := hw
    rw [ht] at hB
    replace hP := hB
    have ec : fc_L_run q = 0 := by simp [fc_L_run, h0]
    have el : fl_L_run q L = vp_updL L 0 (q.1.2).toInt64 := by simp only [fl_L_run, h0, if_pos]
    rw [ec, el]
    refine lv_i2l hx hb dL_run_7 rfl ?_
    refine mk_ls hx hb hK hP (hD _ _) hS dL_run_8 (fun H locs hP hS => ?_)
    refine lv_goto (tgt := 15) hx hb dL_run_9 (by decide) ?_
    refine lv_iconst (v := 0) hx hb dL_run_15 (by decide) ?_
    exact W.iret (v := 0) hx hb hr (fun t2 ht2 hW => ⟨⟨_, (), rfl, rfl, by rw [← ht2] at hP; exact hP⟩, hS.F ht2⟩) hS.2.2 dL_run_16
abbrev rm_L_response : Room := { frames := 7, cells := 1, slots := 6, locals := 127 }
def fc_L_response (q : (Nat × Int32) × mk_M) : Int32 := (if q.1.1 = 0 then 0 else if q.1.1 = 3 then 1 else 2)
def fl_L_response (q : (Nat × Int32) × mk_M) (L : Nat → Int64) : Nat → Int64 := if q.1.1 = 0 then vp_updL L 0 (q.1.2).toInt64 else L
set_option maxHeartbeats 8000000 in
set_option maxRecDepth 100000 in
theorem c_L_response (l : Launch) (hst : l.stackTraces = false) (D : va_G) (E : mk_E) (L : Nat → Int64) (p0 : Int32) (p1 : Int32) (M : mk_M) {q : (Nat × Int32) × mk_M} (h : f_X5_response p0 p1 M = some q) (hq : q.1.1 = 0 ∨ q.1.1 = 3 ∨ q.1.1 = 1) : Met l yL_response wsL_response rm_L_response (va_Pc [.ref (E.1 0), .int p0, .int p1, .ref (E.1 93)] (mk_WC D E M L)) (mk_Qw D E (fc_L_response q) q.2 (fl_L_response q L)) 1 6 (mk_A E) := by
  refine va_MetW (cc := cL_response) (maxL := 5) (ret := some .int) (hh := [(0, 10, 13, 21), (0, 10, 17, 13)]) (by decide) rfl ?_
  intro p e s m args below meth c s₁ B hml hv
  obtain ⟨rfl, ⟨⟨hP, hK, hD0, hN⟩, hT⟩, hC⟩ := hv
  have hx := B.exec
  have hb := B.bytes
  have hr := B.returns
  have hts := atoms_spec (ws := wsL_response) B.pre
  have htab : c.exceptionTable.toList = [⟨0, 10, 13, 21⟩, ⟨0, 10, 17, 13⟩] := vx_table (x := yL_response) B (hts (.codeWith yL_response cL_response 5 (some .int) [(0, 10, 13, 21), (0, 10, 17, 13)]) (List.mem_cons_self ..))
  have hown : s.vm.findClass RL = some m.cls := findClass_of_methodNamed B.named
  have hlk := B.notSynchronized
  have hD : ∀ (M : mk_M) (L : Nat → Int64), va_D (mk_A E) (mk_wl E M L) := fun _ _ => mk_D hD0
  have hS : va_S (mk_A E) s.heap s.heap [] := va_S.rf
  have hl := lv_entry ([.ref (E.1 0), .int p0, .int p1, .ref (E.1 93)]) (n := 5) (Nat.le_of_ble_eq_true rfl)
  rw [lg_entry_eq]
  generalize (lg_sl ([.ref (E.1 0), .int p0, .int p1, .ref (E.1 93)]) ++ List.replicate (5 - (lg_sl ([.ref (E.1 0), .int p0, .int p1, .ref (E.1 93)])).length) Slot.unset).toArray = ls at hl ⊢
  have hl : lv_has ls 5 [(0, .ref (E.1 0)), (1, .int p0), (2, .int p1), (3, .ref (E.1 93))] := hl
  refine lv_aload_n hx hb dL_response_0 rfl (lv_at hl 3 rfl) ?_
  refine lv_iconst (v := 0) hx hb dL_response_1 (by decide) ?_
  refine lv_aload_n hx hb dL_response_2 rfl (lv_at hl 0 rfl) ?_
  refine lv_iload_n hx hb dL_response_3 rfl (lv_at hl 1 rfl) ?_
  refine lv_iload_n hx hb dL_response_4 rfl (lv_at hl 2 rfl) ?_
  refine vx_calli (vx_runV (As := [.int p0, .int p1]) (rest := [.int 0, .ref (E.1 93)]) ⟨hx, hb, hml, hown, hts⟩ (c_X5_response l hst D E L p0 p1 M h) (cwV 2 hts gL_response_X5_response rfl rfl rfl (by decide +kernel) ⟨Nat.le_of_ble_eq_true rfl, Nat.le_of_ble_eq_true rfl⟩) ⟨mk_WT.blind, mk_rc5 hK hP (by decide) rfl, fun U hU hW => ⟨rfl, mk_W.at hU hW hP hK (hD _ _) hN, hT.at hS hU hW⟩⟩ rfl rfl hl.1 rfl (lv_room (Nat.le_of_ble_eq_true rfl)) dL_response_5 ⟨Nat.le_of_ble_eq_true rfl, Nat.le_of_ble_eq_true rfl⟩) hS (fun q _ h => h) (fun q h => h) (fun q _ h => h) (fun X ce q9 u t H1 locs ht hal hpx hBX hz1 hk1 hS hce hcv hcl => ?_) (fun r u t H1 locs ht hvm hw hB hz1 hk1 hS => ?_)
  · obtain ⟨rfl, hne, hP1⟩ := hBX
    rw [ht] at hP1
    rcases hq with hq | hq | hq
    · exact absurd hq hne
    · rw [hq] at hcl
      refine cx_catch hown [] ⟨0, 10, 13, 21⟩ [⟨0, 10, 17, 13⟩] htab (fun z hz => nomatch hz) (by decide) (by decide) (hts (.classLink RL 21 "java/util/NoSuchElementException") (by decide +kernel)) (hT.2.2 (.castable "java/util/NoSuchElementException" "java/util/NoSuchElementException") (by decide +kernel) _) hce hcv hcl ?_
      refine lv_astore (lv' := [(4, .ref q9), (0, .ref (E.1 0)), (1, .int p0), (2, .int p1), (3, .ref (E.1 93))]) hx hb dL_response_13 hl (by decide) rfl (fun ls hl => ?_)
      refine lv_iconst (v := 1) hx hb dL_response_15 (by decide) ?_
      have ec : fc_L_response q = 1 := by simp [fc_L_response, hq]
      have el : fl_L_response q L = L := by simp [fl_L_response, hq]
      rw [ec, el]
      exact W.iret (v := 1) hx hb hr (fun t2 ht2 hW => ⟨⟨_, (), rfl, rfl, by rw [← ht2] at hP1; exact hP1⟩, hS.F ht2⟩) hS.2.2 dL_response_16
    · rw [hq] at hcl
      refine cx_catch hown [⟨0, 10, 13, 21⟩] ⟨0, 10, 17, 13⟩ [] htab (fun z hz => by obtain rfl := List.mem_singleton.mp hz; exact Or.inr ⟨by decide, _, hts (.classLink RL 21 "java/util/NoSuchElementException") (by decide +kernel), hC.2.1⟩) (by decide) (by decide) (hts (.classLink RL 13 "java/lang/IllegalArgumentException") (by decide +kernel)) (hT.2.2 (.castable "java/lang/IllegalArgumentException" "java/lang/IllegalArgumentException") (by decide +kernel) _) hce hcv hcl ?_
      refine lv_astore (lv' := [(4, .ref q9), (0, .ref (E.1 0)), (1, .int p0), (2, .int p1), (3, .ref (E.1 93))]) hx hb dL_response_17 hl (by decide) rfl (fun ls hl => ?_)
      refine lv_iconst (v := 2) hx hb dL_response_19 (by decide) ?_
      have ec : fc_L_response q = 2 := by simp [fc_L_response, hq]
      have el : fl_L_response q L = L := by simp [fl_L_response, hq]
      rw [ec, el]
      exact W.iret (v := 2) hx hb hr (fun t2 ht2 hW => ⟨⟨_, (), rfl, rfl, by rw [← ht2] at hP1; exact hP1⟩, hS.F ht2⟩) hS.2.2 dL_response_20
  · obtain ⟨h0, rfl⟩ := hw
    rw [ht] at hB
    replace hP := hB
    have ec : fc_L_response q = 0 := by simp [fc_L_response, h0]
    have el : fl_L_response q L = vp_updL L 0 (q.1.2).toInt64 := by simp only [fl_L_response, h0, if_pos]
    rw [ec, el]
    refine lv_i2l hx hb dL_response_8 rfl ?_
    refine mk_ls hx hb hK hP (hD _ _) hS dL_response_9 (fun H locs hP hS => ?_)
    refine lv_goto (tgt := 21) hx hb dL_response_10 (by decide) ?_
    refine lv_iconst (v := 0) hx hb dL_response_21 (by decide) ?_
    exact W.iret (v := 0) hx hb hr (fun t2 ht2 hW => ⟨⟨_, (), rfl, rfl, by rw [← ht2] at hP; exact hP⟩, hS.F ht2⟩) hS.2.2 dL_response_22
abbrev rm_L_ended : Room := { frames := 7, cells := 1, slots := 6, locals := 103 }
def fc_L_ended (q : (Nat × Int32) × mk_M) : Int32 := (if q.1.1 = 0 then 0 else 1)
def fl_L_ended (q : (Nat × Int32) × mk_M) (L : Nat → Int64) : Nat → Int64 := if q.1.1 = 0 then vp_updL L 0 (q.1.2).toInt64 else L
set_option maxHeartbeats 8000000 in
set_option maxRecDepth 100000 in
theorem c_L_ended (l : Launch) (hst : l.stackTraces = false) (D : va_G) (E : mk_E) (L : Nat → Int64) (p0 : Int32) (p1 : Int32) (M : mk_M) {q : (Nat × Int32) × mk_M} (h : f_X5_ended p0 p1 M = some q) (hq : q.1.1 = 0 ∨ q.1.1 = 3) : Met l yL_ended wsL_ended rm_L_ended (va_Pc [.ref (E.1 0), .int p0, .int p1, .ref (E.1 93)] (mk_WC D E M L)) (mk_Qw D E (fc_L_ended q) q.2 (fl_L_ended q L)) 1 6 (mk_A E) := by
  refine va_MetW (cc := cL_ended) (maxL := 5) (ret := some .int) (hh := [(0, 10, 13, 21)]) (by decide) rfl ?_
  intro p e s m args below meth c s₁ B hml hv
  obtain ⟨rfl, ⟨⟨hP, hK, hD0, hN⟩, hT⟩, hC⟩ := hv
  have hx := B.exec
  have hb := B.bytes
  have hr := B.returns
  have hts := atoms_spec (ws := wsL_ended) B.pre
  have htab : c.exceptionTable.toList = [⟨0, 10, 13, 21⟩] := vx_table (x := yL_ended) B (hts (.codeWith yL_ended cL_ended 5 (some .int) [(0, 10, 13, 21)]) (List.mem_cons_self ..))
  have hown : s.vm.findClass RL = some m.cls := findClass_of_methodNamed B.named
  have hlk := B.notSynchronized
  have hD : ∀ (M : mk_M) (L : Nat → Int64), va_D (mk_A E) (mk_wl E M L) := fun _ _ => mk_D hD0
  have hS : va_S (mk_A E) s.heap s.heap [] := va_S.rf
  have hl := lv_entry ([.ref (E.1 0), .int p0, .int p1, .ref (E.1 93)]) (n := 5) (Nat.le_of_ble_eq_true rfl)
  rw [lg_entry_eq]
  generalize (lg_sl ([.ref (E.1 0), .int p0, .int p1, .ref (E.1 93)]) ++ List.replicate (5 - (lg_sl ([.ref (E.1 0), .int p0, .int p1, .ref (E.1 93)])).length) Slot.unset).toArray = ls at hl ⊢
  have hl : lv_has ls 5 [(0, .ref (E.1 0)), (1, .int p0), (2, .int p1), (3, .ref (E.1 93))] := hl
  refine lv_aload_n hx hb dL_ended_0 rfl (lv_at hl 3 rfl) ?_
  refine lv_iconst (v := 0) hx hb dL_ended_1 (by decide) ?_
  refine lv_aload_n hx hb dL_ended_2 rfl (lv_at hl 0 rfl) ?_
  refine lv_iload_n hx hb dL_ended_3 rfl (lv_at hl 1 rfl) ?_
  refine lv_iload_n hx hb dL_ended_4 rfl (lv_at hl 2 rfl) ?_
  refine vx_calli (vx_runV (As := [.int p0, .int p1]) (rest := [.int 0, .ref (E.1 93)]) ⟨hx, hb, hml, hown, hts⟩ (c_X5_ended l hst D E L p0 p1 M h) (cwV 2 hts gL_ended_X5_ended rfl rfl rfl (by decide +kernel) ⟨Nat.le_of_ble_eq_true rfl, Nat.le_of_ble_eq_true rfl⟩) ⟨mk_WT.blind, mk_rc5 hK hP (by decide) rfl, fun U hU hW => ⟨rfl, mk_W.at hU hW hP hK (hD _ _) hN, hT.at hS hU hW⟩⟩ rfl rfl hl.1 rfl (lv_room (Nat.le_of_ble_eq_true rfl)) dL_ended_5 ⟨Nat.le_of_ble_eq_true rfl, Nat.le_of_ble_eq_true rfl⟩) hS (fun q _ h => h) (fun q h => h) (fun q _ h => h) (fun X ce q9 u t H1 locs ht hal hpx hBX hz1 hk1 hS hce hcv hcl => ?_) (fun r u t H1 locs ht hvm hw hB hz1 hk1 hS => ?_)
  · obtain ⟨rfl, hne, hP1⟩ := hBX
    rw [ht] at hP1
    rcases hq with hq | hq
    · exact absurd hq hne
    · rw [hq] at hcl
      refine cx_catch hown [] ⟨0, 10, 13, 21⟩ [] htab (fun z hz => nomatch hz) (by decide) (by decide) (hts (.classLink RL 21 "java/util/NoSuchElementException") (by decide +kernel)) (hT.2.2 (.castable "java/util/NoSuchElementException" "java/util/NoSuchElementException") (by decide +kernel) _) hce hcv hcl ?_
      refine lv_astore (lv' := [(4, .ref q9), (0, .ref (E.1 0)), (1, .int p0), (2, .int p1), (3, .ref (E.1 93))]) hx hb dL_ended_13 hl (by decide) rfl (fun ls hl => ?_)
      refine lv_iconst (v := 1) hx hb dL_ended_15 (by decide) ?_
      have ec : fc_L_ended q = 1 := by simp [fc_L_ended, hq]
      have el : fl_L_ended q L = L := by simp [fl_L_ended, hq]
      rw [ec, el]
      exact W.iret (v := 1) hx hb hr (fun t2 ht2 hW => ⟨⟨_, (), rfl, rfl, by rw [← ht2] at hP1; exact hP1⟩, hS.F ht2⟩) hS.2.2 dL_ended_16
  · obtain ⟨h0, rfl⟩ := hw
    rw [ht] at hB
    replace hP := hB
    have ec : fc_L_ended q = 0 := by simp [fc_L_ended, h0]
    have el : fl_L_ended q L = vp_updL L 0 (q.1.2).toInt64 := by simp only [fl_L_ended, h0, if_pos]
    rw [ec, el]
    refine lv_i2l hx hb dL_ended_8 rfl ?_
    refine mk_ls hx hb hK hP (hD _ _) hS dL_ended_9 (fun H locs hP hS => ?_)
    refine lv_goto (tgt := 17) hx hb dL_ended_10 (by decide) ?_
    refine lv_iconst (v := 0) hx hb dL_ended_17 (by decide) ?_
    exact W.iret (v := 0) hx hb hr (fun t2 ht2 hW => ⟨⟨_, (), rfl, rfl, by rw [← ht2] at hP; exact hP⟩, hS.F ht2⟩) hS.2.2 dL_ended_18
abbrev rm_L_about : Room := { frames := 7, cells := 1, slots := 6, locals := 104 }
def fc_L_about (q : (Nat × Int32) × mk_M) : Int32 := (if q.1.1 = 0 then 0 else if q.1.1 = 3 then 1 else 2)
def fl_L_about (q : (Nat × Int32) × mk_M) (L : Nat → Int64) : Nat → Int64 := if q.1.1 = 0 then vp_updL L 0 (q.1.2).toInt64 else L
set_option maxHeartbeats 8000000 in
set_option maxRecDepth 100000 in
theorem c_L_about (l : Launch) (hst : l.stackTraces = false) (D : va_G) (E : mk_E) (L : Nat → Int64) (p0 : Int32) (p1 : Int32) (M : mk_M) {q : (Nat × Int32) × mk_M} (h : f_X5_about p0 p1 M = some q) (hq : q.1.1 = 0 ∨ q.1.1 = 3 ∨ q.1.1 = 1) : Met l yL_about wsL_about rm_L_about (va_Pc [.ref (E.1 0), .int p0, .int p1, .ref (E.1 93)] (mk_WC D E M L)) (mk_Qw D E (fc_L_about q) q.2 (fl_L_about q L)) 1 6 (mk_A E) := by
  refine va_MetW (cc := cL_about) (maxL := 5) (ret := some .int) (hh := [(0, 10, 13, 21), (0, 10, 17, 13)]) (by decide) rfl ?_
  intro p e s m args below meth c s₁ B hml hv
  obtain ⟨rfl, ⟨⟨hP, hK, hD0, hN⟩, hT⟩, hC⟩ := hv
  have hx := B.exec
  have hb := B.bytes
  have hr := B.returns
  have hts := atoms_spec (ws := wsL_about) B.pre
  have htab : c.exceptionTable.toList = [⟨0, 10, 13, 21⟩, ⟨0, 10, 17, 13⟩] := vx_table (x := yL_about) B (hts (.codeWith yL_about cL_about 5 (some .int) [(0, 10, 13, 21), (0, 10, 17, 13)]) (List.mem_cons_self ..))
  have hown : s.vm.findClass RL = some m.cls := findClass_of_methodNamed B.named
  have hlk := B.notSynchronized
  have hD : ∀ (M : mk_M) (L : Nat → Int64), va_D (mk_A E) (mk_wl E M L) := fun _ _ => mk_D hD0
  have hS : va_S (mk_A E) s.heap s.heap [] := va_S.rf
  have hl := lv_entry ([.ref (E.1 0), .int p0, .int p1, .ref (E.1 93)]) (n := 5) (Nat.le_of_ble_eq_true rfl)
  rw [lg_entry_eq]
  generalize (lg_sl ([.ref (E.1 0), .int p0, .int p1, .ref (E.1 93)]) ++ List.replicate (5 - (lg_sl ([.ref (E.1 0), .int p0, .int p1, .ref (E.1 93)])).length) Slot.unset).toArray = ls at hl ⊢
  have hl : lv_has ls 5 [(0, .ref (E.1 0)), (1, .int p0), (2, .int p1), (3, .ref (E.1 93))] := hl
  refine lv_aload_n hx hb dL_about_0 rfl (lv_at hl 3 rfl) ?_
  refine lv_iconst (v := 0) hx hb dL_about_1 (by decide) ?_
  refine lv_aload_n hx hb dL_about_2 rfl (lv_at hl 0 rfl) ?_
  refine lv_iload_n hx hb dL_about_3 rfl (lv_at hl 1 rfl) ?_
  refine lv_iload_n hx hb dL_about_4 rfl (lv_at hl 2 rfl) ?_
  refine vx_calli (vx_runV (As := [.int p0, .int p1]) (rest := [.int 0, .ref (E.1 93)]) ⟨hx, hb, hml, hown, hts⟩ (c_X5_about l hst D E L p0 p1 M h) (cwV 2 hts gL_about_X5_about rfl rfl rfl (by decide +kernel) ⟨Nat.le_of_ble_eq_true rfl, Nat.le_of_ble_eq_true rfl⟩) ⟨mk_WT.blind, mk_rc5 hK hP (by decide) rfl, fun U hU hW => ⟨rfl, mk_W.at hU hW hP hK (hD _ _) hN, hT.at hS hU hW⟩⟩ rfl rfl hl.1 rfl (lv_room (Nat.le_of_ble_eq_true rfl)) dL_about_5 ⟨Nat.le_of_ble_eq_true rfl, Nat.le_of_ble_eq_true rfl⟩) hS (fun q _ h => h) (fun q h => h) (fun q _ h => h) (fun X ce q9 u t H1 locs ht hal hpx hBX hz1 hk1 hS hce hcv hcl => ?_) (fun r u t H1 locs ht hvm hw hB hz1 hk1 hS => ?_)
  · obtain ⟨rfl, hne, hP1⟩ := hBX
    rw [ht] at hP1
    rcases hq with hq | hq | hq
    · exact absurd hq hne
    · rw [hq] at hcl
      refine cx_catch hown [] ⟨0, 10, 13, 21⟩ [⟨0, 10, 17, 13⟩] htab (fun z hz => nomatch hz) (by decide) (by decide) (hts (.classLink RL 21 "java/util/NoSuchElementException") (by decide +kernel)) (hT.2.2 (.castable "java/util/NoSuchElementException" "java/util/NoSuchElementException") (by decide +kernel) _) hce hcv hcl ?_
      refine lv_astore (lv' := [(4, .ref q9), (0, .ref (E.1 0)), (1, .int p0), (2, .int p1), (3, .ref (E.1 93))]) hx hb dL_about_13 hl (by decide) rfl (fun ls hl => ?_)
      refine lv_iconst (v := 1) hx hb dL_about_15 (by decide) ?_
      have ec : fc_L_about q = 1 := by simp [fc_L_about, hq]
      have el : fl_L_about q L = L := by simp [fl_L_about, hq]
      rw [ec, el]
      exact W.iret (v := 1) hx hb hr (fun t2 ht2 hW => ⟨⟨_, (), rfl, rfl, by rw [← ht2] at hP1; exact hP1⟩, hS.F ht2⟩) hS.2.2 dL_about_16
    · rw [hq] at hcl
      refine cx_catch hown [⟨0, 10, 13, 21⟩] ⟨0, 10, 17, 13⟩ [] htab (fun z hz => by obtain rfl := List.mem_singleton.mp hz; exact Or.inr ⟨by decide, _, hts (.classLink RL 21 "java/util/NoSuchElementException") (by decide +kernel), hC.2.1⟩) (by decide) (by decide) (hts (.classLink RL 13 "java/lang/IllegalArgumentException") (by decide +kernel)) (hT.2.2 (.castable "java/lang/IllegalArgumentException" "java/lang/IllegalArgumentException") (by decide +kernel) _) hce hcv hcl ?_
      refine lv_astore (lv' := [(4, .ref q9), (0, .ref (E.1 0)), (1, .int p0), (2, .int p1), (3, .ref (E.1 93))]) hx hb dL_about_17 hl (by decide) rfl (fun ls hl => ?_)
      refine lv_iconst (v := 2) hx hb dL_about_19 (by decide) ?_
      have ec : fc_L_about q = 2 := by simp [fc_L_about, hq]
      have el : fl_L_about q L = L := by simp [fl_L_about, hq]
      rw [ec, el]
      exact W.iret (v := 2) hx hb hr (fun t2 ht2 hW => ⟨⟨_, (), rfl, rfl, by rw [← ht2] at hP1; exact hP1⟩, hS.F ht2⟩) hS.2.2 dL_about_20
  · obtain ⟨h0, rfl⟩ := hw
    rw [ht] at hB
    replace hP := hB
    have ec : fc_L_about q = 0 := by simp [fc_L_about, h0]
    have el : fl_L_about q L = vp_updL L 0 (q.1.2).toInt64 := by simp only [fl_L_about, h0, if_pos]
    rw [ec, el]
    refine lv_i2l hx hb dL_about_8 rfl ?_
    refine mk_ls hx hb hK hP (hD _ _) hS dL_about_9 (fun H locs hP hS => ?_)
    refine lv_goto (tgt := 21) hx hb dL_about_10 (by decide) ?_
    refine lv_iconst (v := 0) hx hb dL_about_21 (by decide) ?_
    exact W.iret (v := 0) hx hb hr (fun t2 ht2 hW => ⟨⟨_, (), rfl, rfl, by rw [← ht2] at hP; exact hP⟩, hS.F ht2⟩) hS.2.2 dL_about_22
abbrev rm_L_witness : Room := { frames := 7, cells := 1, slots := 6, locals := 113 }
def fc_L_witness (q : (Nat × Int32) × mk_M) : Int32 := (if q.1.1 = 0 then 0 else if q.1.1 = 3 then 1 else 2)
def fl_L_witness (q : (Nat × Int32) × mk_M) (L : Nat → Int64) : Nat → Int64 := if q.1.1 = 0 then vp_updL L 0 (q.1.2).toInt64 else L
set_option maxHeartbeats 8000000 in
set_option maxRecDepth 100000 in
theorem c_L_witness (l : Launch) (hst : l.stackTraces = false) (D : va_G) (E : mk_E) (L : Nat → Int64) (p0 : Int32) (p1 : Int32) (M : mk_M) {q : (Nat × Int32) × mk_M} (h : f_X5_witness p0 p1 M = some q) (hq : q.1.1 = 0 ∨ q.1.1 = 3 ∨ q.1.1 = 1) : Met l yL_witness wsL_witness rm_L_witness (va_Pc [.ref (E.1 0), .int p0, .int p1, .ref (E.1 93)] (mk_WC D E M L)) (mk_Qw D E (fc_L_witness q) q.2 (fl_L_witness q L)) 1 6 (mk_A E) := by
  refine va_MetW (cc := cL_witness) (maxL := 5) (ret := some .int) (hh := [(0, 10, 13, 21), (0, 10, 17, 13)]) (by decide) rfl ?_
  intro p e s m args below meth c s₁ B hml hv
  obtain ⟨rfl, ⟨⟨hP, hK, hD0, hN⟩, hT⟩, hC⟩ := hv
  have hx := B.exec
  have hb := B.bytes
  have hr := B.returns
  have hts := atoms_spec (ws := wsL_witness) B.pre
  have htab : c.exceptionTable.toList = [⟨0, 10, 13, 21⟩, ⟨0, 10, 17, 13⟩] := vx_table (x := yL_witness) B (hts (.codeWith yL_witness cL_witness 5 (some .int) [(0, 10, 13, 21), (0, 10, 17, 13)]) (List.mem_cons_self ..))
  have hown : s.vm.findClass RL = some m.cls := findClass_of_methodNamed B.named
  have hlk := B.notSynchronized
  have hD : ∀ (M : mk_M) (L : Nat → Int64), va_D (mk_A E) (mk_wl E M L) := fun _ _ => mk_D hD0
  have hS : va_S (mk_A E) s.heap s.heap [] := va_S.rf
  have hl := lv_entry ([.ref (E.1 0), .int p0, .int p1, .ref (E.1 93)]) (n := 5) (Nat.le_of_ble_eq_true rfl)
  rw [lg_entry_eq]
  generalize (lg_sl ([.ref (E.1 0), .int p0, .int p1, .ref (E.1 93)]) ++ List.replicate (5 - (lg_sl ([.ref (E.1 0), .int p0, .int p1, .ref (E.1 93)])).length) Slot.unset).toArray = ls at hl ⊢
  have hl : lv_has ls 5 [(0, .ref (E.1 0)), (1, .int p0), (2, .int p1), (3, .ref (E.1 93))] := hl
  refine lv_aload_n hx hb dL_witness_0 rfl (lv_at hl 3 rfl) ?_
  refine lv_iconst (v := 0) hx hb dL_witness_1 (by decide) ?_
  refine lv_aload_n hx hb dL_witness_2 rfl (lv_at hl 0 rfl) ?_
  refine lv_iload_n hx hb dL_witness_3 rfl (lv_at hl 1 rfl) ?_
  refine lv_iload_n hx hb dL_witness_4 rfl (lv_at hl 2 rfl) ?_
  refine vx_calli (vx_runV (As := [.int p0, .int p1]) (rest := [.int 0, .ref (E.1 93)]) ⟨hx, hb, hml, hown, hts⟩ (c_X5_witness l hst D E L p0 p1 M h) (cwV 2 hts gL_witness_X5_witness rfl rfl rfl (by decide +kernel) ⟨Nat.le_of_ble_eq_true rfl, Nat.le_of_ble_eq_true rfl⟩) ⟨mk_WT.blind, mk_rc5 hK hP (by decide) rfl, fun U hU hW => ⟨rfl, mk_W.at hU hW hP hK (hD _ _) hN, hT.at hS hU hW⟩⟩ rfl rfl hl.1 rfl (lv_room (Nat.le_of_ble_eq_true rfl)) dL_witness_5 ⟨Nat.le_of_ble_eq_true rfl, Nat.le_of_ble_eq_true rfl⟩) hS (fun q _ h => h) (fun q h => h) (fun q _ h => h) (fun X ce q9 u t H1 locs ht hal hpx hBX hz1 hk1 hS hce hcv hcl => ?_) (fun r u t H1 locs ht hvm hw hB hz1 hk1 hS => ?_)
  · obtain ⟨rfl, hne, hP1⟩ := hBX
    rw [ht] at hP1
    rcases hq with hq | hq | hq
    · exact absurd hq hne
    · rw [hq] at hcl
      refine cx_catch hown [] ⟨0, 10, 13, 21⟩ [⟨0, 10, 17, 13⟩] htab (fun z hz => nomatch hz) (by decide) (by decide) (hts (.classLink RL 21 "java/util/NoSuchElementException") (by decide +kernel)) (hT.2.2 (.castable "java/util/NoSuchElementException" "java/util/NoSuchElementException") (by decide +kernel) _) hce hcv hcl ?_
      refine lv_astore (lv' := [(4, .ref q9), (0, .ref (E.1 0)), (1, .int p0), (2, .int p1), (3, .ref (E.1 93))]) hx hb dL_witness_13 hl (by decide) rfl (fun ls hl => ?_)
      refine lv_iconst (v := 1) hx hb dL_witness_15 (by decide) ?_
      have ec : fc_L_witness q = 1 := by simp [fc_L_witness, hq]
      have el : fl_L_witness q L = L := by simp [fl_L_witness, hq]
      rw [ec, el]
      exact W.iret (v := 1) hx hb hr (fun t2 ht2 hW => ⟨⟨_, (), rfl, rfl, by rw [← ht2] at hP1; exact hP1⟩, hS.F ht2⟩) hS.2.2 dL_witness_16
    · rw [hq] at hcl
      refine cx_catch hown [⟨0, 10, 13, 21⟩] ⟨0, 10, 17, 13⟩ [] htab (fun z hz => by obtain rfl := List.mem_singleton.mp hz; exact Or.inr ⟨by decide, _, hts (.classLink RL 21 "java/util/NoSuchElementException") (by decide +kernel), hC.2.1⟩) (by decide) (by decide) (hts (.classLink RL 13 "java/lang/IllegalArgumentException") (by decide +kernel)) (hT.2.2 (.castable "java/lang/IllegalArgumentException" "java/lang/IllegalArgumentException") (by decide +kernel) _) hce hcv hcl ?_
      refine lv_astore (lv' := [(4, .ref q9), (0, .ref (E.1 0)), (1, .int p0), (2, .int p1), (3, .ref (E.1 93))]) hx hb dL_witness_17 hl (by decide) rfl (fun ls hl => ?_)
      refine lv_iconst (v := 2) hx hb dL_witness_19 (by decide) ?_
      have ec : fc_L_witness q = 2 := by simp [fc_L_witness, hq]
      have el : fl_L_witness q L = L := by simp [fl_L_witness, hq]
      rw [ec, el]
      exact W.iret (v := 2) hx hb hr (fun t2 ht2 hW => ⟨⟨_, (), rfl, rfl, by rw [← ht2] at hP1; exact hP1⟩, hS.F ht2⟩) hS.2.2 dL_witness_20
  · obtain ⟨h0, rfl⟩ := hw
    rw [ht] at hB
    replace hP := hB
    have ec : fc_L_witness q = 0 := by simp [fc_L_witness, h0]
    have el : fl_L_witness q L = vp_updL L 0 (q.1.2).toInt64 := by simp only [fl_L_witness, h0, if_pos]
    rw [ec, el]
    refine lv_i2l hx hb dL_witness_8 rfl ?_
    refine mk_ls hx hb hK hP (hD _ _) hS dL_witness_9 (fun H locs hP hS => ?_)
    refine lv_goto (tgt := 21) hx hb dL_witness_10 (by decide) ?_
    refine lv_iconst (v := 0) hx hb dL_witness_21 (by decide) ?_
    exact W.iret (v := 0) hx hb hr (fun t2 ht2 hW => ⟨⟨_, (), rfl, rfl, by rw [← ht2] at hP; exact hP⟩, hS.F ht2⟩) hS.2.2 dL_witness_22
abbrev rm_L_trace : Room := { frames := 7, cells := 1, slots := 6, locals := 102 }
def fc_L_trace (q : (Nat × Int32) × mk_M) : Int32 := (if q.1.1 = 0 then 0 else 1)
def fl_L_trace (q : (Nat × Int32) × mk_M) (L : Nat → Int64) : Nat → Int64 := if q.1.1 = 0 then vp_updL L 0 (q.1.2).toInt64 else L
set_option maxHeartbeats 8000000 in
set_option maxRecDepth 100000 in
theorem c_L_trace (l : Launch) (hst : l.stackTraces = false) (D : va_G) (E : mk_E) (L : Nat → Int64) (p0 : Int32) (M : mk_M) {q : (Nat × Int32) × mk_M} (h : f_X5_trace p0 M = some q) (hq : q.1.1 = 0 ∨ q.1.1 = 3) : Met l yL_trace wsL_trace rm_L_trace (va_Pc [.ref (E.1 0), .int p0, .ref (E.1 93)] (mk_WC D E M L)) (mk_Qw D E (fc_L_trace q) q.2 (fl_L_trace q L)) 1 6 (mk_A E) := by
  refine va_MetW (cc := cL_trace) (maxL := 4) (ret := some .int) (hh := [(0, 9, 12, 21)]) (by decide) rfl ?_
  intro p e s m args below meth c s₁ B hml hv
  obtain ⟨rfl, ⟨⟨hP, hK, hD0, hN⟩, hT⟩, hC⟩ := hv
  have hx := B.exec
  have hb := B.bytes
  have hr := B.returns
  have hts := atoms_spec (ws := wsL_trace) B.pre
  have htab : c.exceptionTable.toList = [⟨0, 9, 12, 21⟩] := vx_table (x := yL_trace) B (hts (.codeWith yL_trace cL_trace 4 (some .int) [(0, 9, 12, 21)]) (List.mem_cons_self ..))
  have hown : s.vm.findClass RL = some m.cls := findClass_of_methodNamed B.named
  have hlk := B.notSynchronized
  have hD : ∀ (M : mk_M) (L : Nat → Int64), va_D (mk_A E) (mk_wl E M L) := fun _ _ => mk_D hD0
  have hS : va_S (mk_A E) s.heap s.heap [] := va_S.rf
  have hl := lv_entry ([.ref (E.1 0), .int p0, .ref (E.1 93)]) (n := 4) (Nat.le_of_ble_eq_true rfl)
  rw [lg_entry_eq]
  generalize (lg_sl ([.ref (E.1 0), .int p0, .ref (E.1 93)]) ++ List.replicate (4 - (lg_sl ([.ref (E.1 0), .int p0, .ref (E.1 93)])).length) Slot.unset).toArray = ls at hl ⊢
  have hl : lv_has ls 4 [(0, .ref (E.1 0)), (1, .int p0), (2, .ref (E.1 93))] := hl
  refine lv_aload_n hx hb dL_trace_0 rfl (lv_at hl 2 rfl) ?_
  refine lv_iconst (v := 0) hx hb dL_trace_1 (by decide) ?_
  refine lv_aload_n hx hb dL_trace_2 rfl (lv_at hl 0 rfl) ?_
  refine lv_iload_n hx hb dL_trace_3 rfl (lv_at hl 1 rfl) ?_
  refine vx_calli (vx_runV (As := [.int p0]) (rest := [.int 0, .ref (E.1 93)]) ⟨hx, hb, hml, hown, hts⟩ (c_X5_trace l hst D E L p0 M h) (cwV 1 hts gL_trace_X5_trace rfl rfl rfl (by decide +kernel) ⟨Nat.le_of_ble_eq_true rfl, Nat.le_of_ble_eq_true rfl⟩) ⟨mk_WT.blind, mk_rc5 hK hP (by decide) rfl, fun U hU hW => ⟨rfl, mk_W.at hU hW hP hK (hD _ _) hN, hT.at hS hU hW⟩⟩ rfl rfl hl.1 rfl (lv_room (Nat.le_of_ble_eq_true rfl)) dL_trace_4 ⟨Nat.le_of_ble_eq_true rfl, Nat.le_of_ble_eq_true rfl⟩) hS (fun q _ h => h) (fun q h => h) (fun q _ h => h) (fun X ce q9 u t H1 locs ht hal hpx hBX hz1 hk1 hS hce hcv hcl => ?_) (fun r u t H1 locs ht hvm hw hB hz1 hk1 hS => ?_)
  · obtain ⟨rfl, hne, hP1⟩ := hBX
    rw [ht] at hP1
    rcases hq with hq | hq
    · exact absurd hq hne
    · rw [hq] at hcl
      refine cx_catch hown [] ⟨0, 9, 12, 21⟩ [] htab (fun z hz => nomatch hz) (by decide) (by decide) (hts (.classLink RL 21 "java/util/NoSuchElementException") (by decide +kernel)) (hT.2.2 (.castable "java/util/NoSuchElementException" "java/util/NoSuchElementException") (by decide +kernel) _) hce hcv hcl ?_
      refine lv_astore_n (lv' := [(3, .ref q9), (0, .ref (E.1 0)), (1, .int p0), (2, .ref (E.1 93))]) hx hb dL_trace_12 rfl hl (by decide) rfl (fun ls hl => ?_)
      refine lv_iconst (v := 1) hx hb dL_trace_13 (by decide) ?_
      have ec : fc_L_trace q = 1 := by simp [fc_L_trace, hq]
      have el : fl_L_trace q L = L := by simp [fl_L_trace, hq]
      rw [ec, el]
      exact W.iret (v := 1) hx hb hr (fun t2 ht2 hW => ⟨⟨_, (), rfl, rfl, by rw [← ht2] at hP1; exact hP1⟩, hS.F ht2⟩) hS.2.2 dL_trace_14
  · obtain ⟨h0, rfl⟩ := hw
    rw [ht] at hB
    replace hP := hB
    have ec : fc_L_trace q = 0 := by simp [fc_L_trace, h0]
    have el : fl_L_trace q L = vp_updL L 0 (q.1.2).toInt64 := by simp only [fl_L_trace, h0, if_pos]
    rw [ec, el]
    refine lv_i2l hx hb dL_trace_7 rfl ?_
    refine mk_ls hx hb hK hP (hD _ _) hS dL_trace_8 (fun H locs hP hS => ?_)
    refine lv_goto (tgt := 15) hx hb dL_trace_9 (by decide) ?_
    refine lv_iconst (v := 0) hx hb dL_trace_15 (by decide) ?_
    exact W.iret (v := 0) hx hb hr (fun t2 ht2 hW => ⟨⟨_, (), rfl, rfl, by rw [← ht2] at hP; exact hP⟩, hS.F ht2⟩) hS.2.2 dL_trace_16
abbrev rm_L_changed : Room := { frames := 7, cells := 1, slots := 6, locals := 102 }
def fc_L_changed (q : (Nat × Int32) × mk_M) : Int32 := (if q.1.1 = 0 then 0 else 1)
def fl_L_changed (q : (Nat × Int32) × mk_M) (L : Nat → Int64) : Nat → Int64 := if q.1.1 = 0 then vp_updL L 0 (q.1.2).toInt64 else L
set_option maxHeartbeats 8000000 in
set_option maxRecDepth 100000 in
theorem c_L_changed (l : Launch) (hst : l.stackTraces = false) (D : va_G) (E : mk_E) (L : Nat → Int64) (p0 : Int32) (M : mk_M) {q : (Nat × Int32) × mk_M} (h : f_X5_changed p0 M = some q) (hq : q.1.1 = 0 ∨ q.1.1 = 3) : Met l yL_changed wsL_changed rm_L_changed (va_Pc [.ref (E.1 0), .int p0, .ref (E.1 93)] (mk_WC D E M L)) (mk_Qw D E (fc_L_changed q) q.2 (fl_L_changed q L)) 1 6 (mk_A E) := by
  refine va_MetW (cc := cL_changed) (maxL := 4) (ret := some .int) (hh := [(0, 9, 12, 21)]) (by decide) rfl ?_
  intro p e s m args below meth c s₁ B hml hv
  obtain ⟨rfl, ⟨⟨hP, hK, hD0, hN⟩, hT⟩, hC⟩ := hv
  have hx := B.exec
  have hb := B.bytes
  have hr := B.returns
  have hts := atoms_spec (ws := wsL_changed) B.pre
  have htab : c.exceptionTable.toList = [⟨0, 9, 12, 21⟩] := vx_table (x := yL_changed) B (hts (.codeWith yL_changed cL_changed 4 (some .int) [(0, 9, 12, 21)]) (List.mem_cons_self ..))
  have hown : s.vm.findClass RL = some m.cls := findClass_of_methodNamed B.named
  have hlk := B.notSynchronized
  have hD : ∀ (M : mk_M) (L : Nat → Int64), va_D (mk_A E) (mk_wl E M L) := fun _ _ => mk_D hD0
  have hS : va_S (mk_A E) s.heap s.heap [] := va_S.rf
  have hl := lv_entry ([.ref (E.1 0), .int p0, .ref (E.1 93)]) (n := 4) (Nat.le_of_ble_eq_true rfl)
  rw [lg_entry_eq]
  generalize (lg_sl ([.ref (E.1 0), .int p0, .ref (E.1 93)]) ++ List.replicate (4 - (lg_sl ([.ref (E.1 0), .int p0, .ref (E.1 93)])).length) Slot.unset).toArray = ls at hl ⊢
  have hl : lv_has ls 4 [(0, .ref (E.1 0)), (1, .int p0), (2, .ref (E.1 93))] := hl
  refine lv_aload_n hx hb dL_changed_0 rfl (lv_at hl 2 rfl) ?_
  refine lv_iconst (v := 0) hx hb dL_changed_1 (by decide) ?_
  refine lv_aload_n hx hb dL_changed_2 rfl (lv_at hl 0 rfl) ?_
  refine lv_iload_n hx hb dL_changed_3 rfl (lv_at hl 1 rfl) ?_
  refine vx_calli (vx_runV (As := [.int p0]) (rest := [.int 0, .ref (E.1 93)]) ⟨hx, hb, hml, hown, hts⟩ (c_X5_changed l hst D E L p0 M h) (cwV 1 hts gL_changed_X5_changed rfl rfl rfl (by decide +kernel) ⟨Nat.le_of_ble_eq_true rfl, Nat.le_of_ble_eq_true rfl⟩) ⟨mk_WT.blind, mk_rc5 hK hP (by decide) rfl, fun U hU hW => ⟨rfl, mk_W.at hU hW hP hK (hD _ _) hN, hT.at hS hU hW⟩⟩ rfl rfl hl.1 rfl (lv_room (Nat.le_of_ble_eq_true rfl)) dL_changed_4 ⟨Nat.le_of_ble_eq_true rfl, Nat.le_of_ble_eq_true rfl⟩) hS (fun q _ h => h) (fun q h => h) (fun q _ h => h) (fun X ce q9 u t H1 locs ht hal hpx hBX hz1 hk1 hS hce hcv hcl => ?_) (fun r u t H1 locs ht hvm hw hB hz1 hk1 hS => ?_)
  · obtain ⟨rfl, hne, hP1⟩ := hBX
    rw [ht] at hP1
    rcases hq with hq | hq
    · exact absurd hq hne
    · rw [hq] at hcl
      refine cx_catch hown [] ⟨0, 9, 12, 21⟩ [] htab (fun z hz => nomatch hz) (by decide) (by decide) (hts (.classLink RL 21 "java/util/NoSuchElementException") (by decide +kernel)) (hT.2.2 (.castable "java/util/NoSuchElementException" "java/util/NoSuchElementException") (by decide +kernel) _) hce hcv hcl ?_
      refine lv_astore_n (lv' := [(3, .ref q9), (0, .ref (E.1 0)), (1, .int p0), (2, .ref (E.1 93))]) hx hb dL_changed_12 rfl hl (by decide) rfl (fun ls hl => ?_)
      refine lv_iconst (v := 1) hx hb dL_changed_13 (by decide) ?_
      have ec : fc_L_changed q = 1 := by simp [fc_L_changed, hq]
      have el : fl_L_changed q L = L := by simp [fl_L_changed, hq]
      rw [ec, el]
      exact W.iret (v := 1) hx hb hr (fun t2 ht2 hW => ⟨⟨_, (), rfl, rfl, by rw [← ht2] at hP1; exact hP1⟩, hS.F ht2⟩) hS.2.2 dL_changed_14
  · obtain ⟨h0, rfl⟩ := hw
    rw [ht] at hB
    replace hP := hB
    have ec : fc_L_changed q = 0 := by simp [fc_L_changed, h0]
    have el : fl_L_changed q L = vp_updL L 0 (q.1.2).toInt64 := by simp only [fl_L_changed, h0, if_pos]
    rw [ec, el]
    refine lv_i2l hx hb dL_changed_7 rfl ?_
    refine mk_ls hx hb hK hP (hD _ _) hS dL_changed_8 (fun H locs hP hS => ?_)
    refine lv_goto (tgt := 15) hx hb dL_changed_9 (by decide) ?_
    refine lv_iconst (v := 0) hx hb dL_changed_15 (by decide) ?_
    exact W.iret (v := 0) hx hb hr (fun t2 ht2 hW => ⟨⟨_, (), rfl, rfl, by rw [← ht2] at hP; exact hP⟩, hS.F ht2⟩) hS.2.2 dL_changed_16
abbrev rm_L_count : Room := { frames := 7, cells := 1, slots := 6, locals := 102 }
def fc_L_count (q : (Nat × Int32) × mk_M) : Int32 := (if q.1.1 = 0 then 0 else 1)
def fl_L_count (q : (Nat × Int32) × mk_M) (L : Nat → Int64) : Nat → Int64 := if q.1.1 = 0 then vp_updL L 0 (q.1.2).toInt64 else L
set_option maxHeartbeats 8000000 in
set_option maxRecDepth 100000 in
theorem c_L_count (l : Launch) (hst : l.stackTraces = false) (D : va_G) (E : mk_E) (L : Nat → Int64) (p0 : Int32) (M : mk_M) {q : (Nat × Int32) × mk_M} (h : f_X5_count p0 M = some q) (hq : q.1.1 = 0 ∨ q.1.1 = 1) : Met l yL_count wsL_count rm_L_count (va_Pc [.ref (E.1 0), .int p0, .ref (E.1 93)] (mk_WC D E M L)) (mk_Qw D E (fc_L_count q) q.2 (fl_L_count q L)) 1 6 (mk_A E) := by
  refine va_MetW (cc := cL_count) (maxL := 4) (ret := some .int) (hh := [(0, 9, 12, 13)]) (by decide) rfl ?_
  intro p e s m args below meth c s₁ B hml hv
  obtain ⟨rfl, ⟨⟨hP, hK, hD0, hN⟩, hT⟩, hC⟩ := hv
  have hx := B.exec
  have hb := B.bytes
  have hr := B.returns
  have hts := atoms_spec (ws := wsL_count) B.pre
  have htab : c.exceptionTable.toList = [⟨0, 9, 12, 13⟩] := vx_table (x := yL_count) B (hts (.codeWith yL_count cL_count 4 (some .int) [(0, 9, 12, 13)]) (List.mem_cons_self ..))
  have hown : s.vm.findClass RL = some m.cls := findClass_of_methodNamed B.named
  have hlk := B.notSynchronized
  have hD : ∀ (M : mk_M) (L : Nat → Int64), va_D (mk_A E) (mk_wl E M L) := fun _ _ => mk_D hD0
  have hS : va_S (mk_A E) s.heap s.heap [] := va_S.rf
  have hl := lv_entry ([.ref (E.1 0), .int p0, .ref (E.1 93)]) (n := 4) (Nat.le_of_ble_eq_true rfl)
  rw [lg_entry_eq]
  generalize (lg_sl ([.ref (E.1 0), .int p0, .ref (E.1 93)]) ++ List.replicate (4 - (lg_sl ([.ref (E.1 0), .int p0, .ref (E.1 93)])).length) Slot.unset).toArray = ls at hl ⊢
  have hl : lv_has ls 4 [(0, .ref (E.1 0)), (1, .int p0), (2, .ref (E.1 93))] := hl
  refine lv_aload_n hx hb dL_count_0 rfl (lv_at hl 2 rfl) ?_
  refine lv_iconst (v := 0) hx hb dL_count_1 (by decide) ?_
  refine lv_aload_n hx hb dL_count_2 rfl (lv_at hl 0 rfl) ?_
  refine lv_iload_n hx hb dL_count_3 rfl (lv_at hl 1 rfl) ?_
  refine vx_calli (vx_runV (As := [.int p0]) (rest := [.int 0, .ref (E.1 93)]) ⟨hx, hb, hml, hown, hts⟩ (c_X5_count l hst D E L p0 M h) (cwV 1 hts gL_count_X5_count rfl rfl rfl (by decide +kernel) ⟨Nat.le_of_ble_eq_true rfl, Nat.le_of_ble_eq_true rfl⟩) ⟨mk_WT.blind, mk_rc5 hK hP (by decide) rfl, fun U hU hW => ⟨rfl, mk_W.at hU hW hP hK (hD _ _) hN, hT.at hS hU hW⟩⟩ rfl rfl hl.1 rfl (lv_room (Nat.le_of_ble_eq_true rfl)) dL_count_4 ⟨Nat.le_of_ble_eq_true rfl, Nat.le_of_ble_eq_true rfl⟩) hS (fun q _ h => h) (fun q h => h) (fun q _ h => h) (fun X ce q9 u t H1 locs ht hal hpx hBX hz1 hk1 hS hce hcv hcl => ?_) (fun r u t H1 locs ht hvm hw hB hz1 hk1 hS => ?_)
  · obtain ⟨rfl, hne, hP1⟩ := hBX
    rw [ht] at hP1
    rcases hq with hq | hq
    · exact absurd hq hne
    · rw [hq] at hcl
      refine cx_catch hown [] ⟨0, 9, 12, 13⟩ [] htab (fun z hz => nomatch hz) (by decide) (by decide) (hts (.classLink RL 13 "java/lang/IllegalArgumentException") (by decide +kernel)) (hT.2.2 (.castable "java/lang/IllegalArgumentException" "java/lang/IllegalArgumentException") (by decide +kernel) _) hce hcv hcl ?_
      refine lv_astore_n (lv' := [(3, .ref q9), (0, .ref (E.1 0)), (1, .int p0), (2, .ref (E.1 93))]) hx hb dL_count_12 rfl hl (by decide) rfl (fun ls hl => ?_)
      refine lv_iconst (v := 1) hx hb dL_count_13 (by decide) ?_
      have ec : fc_L_count q = 1 := by simp [fc_L_count, hq]
      have el : fl_L_count q L = L := by simp [fl_L_count, hq]
      rw [ec, el]
      exact W.iret (v := 1) hx hb hr (fun t2 ht2 hW => ⟨⟨_, (), rfl, rfl, by rw [← ht2] at hP1; exact hP1⟩, hS.F ht2⟩) hS.2.2 dL_count_14
  · obtain ⟨h0, rfl⟩ := hw
    rw [ht] at hB
    replace hP := hB
    have ec : fc_L_count q = 0 := by simp [fc_L_count, h0]
    have el : fl_L_count q L = vp_updL L 0 (q.1.2).toInt64 := by simp only [fl_L_count, h0, if_pos]
    rw [ec, el]
    refine lv_i2l hx hb dL_count_7 rfl ?_
    refine mk_ls hx hb hK hP (hD _ _) hS dL_count_8 (fun H locs hP hS => ?_)
    refine lv_goto (tgt := 15) hx hb dL_count_9 (by decide) ?_
    refine lv_iconst (v := 0) hx hb dL_count_15 (by decide) ?_
    exact W.iret (v := 0) hx hb hr (fun t2 ht2 hW => ⟨⟨_, (), rfl, rfl, by rw [← ht2] at hP; exact hP⟩, hS.F ht2⟩) hS.2.2 dL_count_16
