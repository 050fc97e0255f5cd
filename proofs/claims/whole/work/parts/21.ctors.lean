/-! the constructors' contracts -/
def ct_W (D : va_G) (E : mk_E) (b n : Nat) (g : Nat → va_E) (U : State) : Prop := va_P D vwCl (ct_w b n g) U.heap ∧ U.heap.size = b + n ∧ va_K D vwCl (mk_tys E) U ∧ mk_Nst U ∧ va_AO "MixedKernel$Task" U
abbrev ct_Q (D : va_G) (b n : Nat) (g : Nat → va_E) : Array Value → State → Outcome → State → Prop := va_Qv (S := Unit) (fun _ => True) (fun _ t => va_P D vwCl (ct_w b n g) t.heap ∧ t.heap.size = b + n) (ct_A b)
theorem ct_W.blind {D : va_G} {E : mk_E} {b n : Nat} {g : Nat → va_E} {as : List Value} : FrameBlind (va_Pc as (ct_W D E b n g)) := by
  intro a U f mk h
  exact ⟨h.1, h.2.1, h.2.2.1, va_K.moved (u := U) (U := U.calling f mk a) (Vm.Alike.refl U.vm) h.2.2.2.1, mk_Nst.same (u := U) (U := U.calling f mk a) rfl h.2.2.2.2.1, va_AO.moved (u := U) (U := U.calling f mk a) (Vm.Alike.refl U.vm) h.2.2.2.2.2⟩
theorem ct_W.at {D : va_G} {E : mk_E} {b n : Nat} {g : Nat → va_E} {s U : State} {H : Heap} (hU : U.heap = H) (hW : s.WarmedH U.vm) (hP : va_P D vwCl (ct_w b n g) H) (hz : H.size = b + n) (hK : va_K D vwCl (mk_tys E) s) (hN : mk_Nst s) (hO : va_AO "MixedKernel$Task" s) : ct_W D E b n g U :=
  ⟨by rw [hU]; exact hP, by rw [hU]; exact hz, va_K.moved hW.alike hK, hN.warm hW, va_AO.moved hW.alike hO⟩
abbrev rm_X0_init (N0 : Nat) : Room := { frames := 1, cells := 1, slots := N0, locals := 12 }
theorem in_X0_init_X0 : ∀ w ∈ wsX00, w ∈ wsX0_init := by decide +kernel
def gg_X0_init (E : mk_E) (b : Nat) (N0 : Nat) (n k : Nat) (g : Nat → va_E) : Nat → va_E := (va_up (va_up g n (.inl (E.2.1, N0, .inl (fun _ => 0)))) k (.inr (0, [.ref (b + n), .int 0])))
theorem gk_X0_init (E : mk_E) (b : Nat) (N0 : Nat) (n k : Nat) (g : Nat → va_E) {x : Nat} (h1 : x < n) (h2 : x ≠ k) : gg_X0_init E b N0 n k g x = g x := by
  exact (va_up_ne _ _ (by omega)).trans ((va_up_ne _ _ (by omega)).trans (rfl))
set_option maxHeartbeats 8000000 in
set_option maxRecDepth 100000 in
theorem c_X0_init (l : Launch) (D : va_G) (E : mk_E) (b : Nat) (a1 : Int32) (N0 : Nat) (n : Nat) (g : Nat → va_E) (k : Nat) (hk : k < n) (hg : g k = .inr (0, [.null, .int 0])) (hv0 : ¬ a1 < 0) (hvN : a1.toNatClampNeg = N0) (hvB : N0 * componentBytes .int ≤ 536870912) : Met l yX0_init wsX0_init (rm_X0_init N0) (va_Pc [.ref (b + k), .int a1] (ct_W D E b n g)) (ct_Q D b (n + 1) (gg_X0_init E b N0 n k g)) 1 N0 (ct_A b) := by
  refine Met.ofW (cc := cX0_init) (maxL := 2) (ret := none) (by decide) rfl ?_
  intro p e s m args below meth c s₁ B hml hv
  obtain ⟨rfl, hP, hz, hK, hN, hO⟩ := hv
  have hx := B.exec
  have hb := B.bytes
  have hr := B.returns
  have hts := atoms_spec (ws := wsX0_init) B.pre
  have hown : s.vm.findClass RX0 = some m.cls := findClass_of_methodNamed B.named
  have hlk := B.notSynchronized
  have hin : meth.name = "<init>" := (name_of_methodNamed B.named B.method).1
  have hS : va_S (ct_A b) s.heap s.heap [] := va_S.rf
  have hl := lv_entry ([.ref (b + k), .int a1]) (n := 2) (Nat.le_of_ble_eq_true rfl)
  rw [lg_entry_eq]
  generalize (lg_sl ([.ref (b + k), .int a1]) ++ List.replicate (2 - (lg_sl ([.ref (b + k), .int a1])).length) Slot.unset).toArray = ls at hl ⊢
  have hl : lv_has ls 2 [(0, .ref (b + k)), (1, .int a1)] := hl
  refine lv_aload_n hx hb dX0_init_0 rfl (lv_at hl 0 rfl) ?_
  refine W.objInit hx hb hown (hts (.methodLink RX0 1 objectInit) (by decide +kernel)) (hts (.instanceMethod objectInit) (by decide +kernel)) (hts (.code objectInit ⟨#[0xb1]⟩ 1 none) (by decide +kernel)) rfl (by rw [hml]; exact hl.1) rfl dX0_init_1 (Nat.le_of_ble_eq_true rfl) (Nat.le_of_ble_eq_true rfl) ?_
  refine W.eq (g2 := F0 m 4 ls []) rfl ?_
  refine lv_aload_n hx hb dX0_init_4 rfl (lv_at hl 0 rfl) ?_
  refine lv_iload_n hx hb dX0_init_5 rfl (lv_at hl 1 rfl) ?_
  refine ct_newI (N' := N0) hx hb (hts (.arrayClass .int) (by decide +kernel)) hK hP hz hS hv0 hvN hvB (Nat.le_of_ble_eq_true rfl) (Nat.le_of_eq (Nat.zero_add _)) dX0_init_6 (fun H hP hz hS => ?_)
  replace hP : va_P D vwCl (ct_w b (n + 1) (va_up g n (.inl (E.2.1, N0, .inl (fun _ => 0))))) H := hP
  replace hz : H.size = b + (n + 1) := hz
  obtain ⟨g1, eg1⟩ : ∃ z : Nat → va_E, z = va_up g n (.inl (E.2.1, N0, .inl (fun _ => 0))) := ⟨_, rfl⟩
  rw [← eg1] at hP
  have hg : g1 k = .inr (0, [.null, .int 0]) := by rw [eg1, va_up_ne _ _ (by omega)]; exact hg
  refine ct_putF (v := .ref (b + n)) (ty := .array (.int)) (C := RX0) (T := TX0) (N := 2) hx hb hts in_X0_init_X0 tyX0 tyX0_ok nmX0 hown hK hP hz hS (k := k) (by omega) hg rfl 0 (by decide) (hts (.fieldLink RX0 7 "MixedKernel$Latest" "kept" "[I") (by decide +kernel)) rfl hin rfl (by decide +kernel) rfl rfl (Nat.le_of_ble_eq_true rfl) dX0_init_8 (fun H locs hP hz hS => ?_)
  replace hP : va_P D vwCl (ct_w b (n + 1) (va_up g1 k (.inr (0, [.ref (b + n), .int 0])))) H := hP
  replace hz : H.size = b + (n + 1) := hz
  obtain ⟨g2, eg2⟩ : ∃ z : Nat → va_E, z = va_up g1 k (.inr (0, [.ref (b + n), .int 0])) := ⟨_, rfl⟩
  rw [← eg2] at hP
  have hg : g2 k = .inr (0, [.ref (b + n), .int 0]) := by rw [eg2]; exact va_up_self _ _ _
  subst eg2
  subst eg1
  refine W.widen (k := 1) (n := N0) (Nat.le_refl _) (Nat.le_of_eq (Nat.zero_add _)) ?_
  exact W.vret hx hb hr (fun t ht hW => ⟨⟨(), rfl, trivial, by rw [← ht] at hP; exact hP, by rw [ht]; exact hz⟩, hS.F ht⟩) hS.2.2 dX0_init_11
abbrev rm_X1_init : Room := { frames := 1, cells := 1, slots := 12, locals := 12 }
theorem in_X1_init_X1 : ∀ w ∈ wsX10, w ∈ wsX1_init := by decide +kernel
def gg_X1_init (E : mk_E) (b : Nat) (n k : Nat) (g : Nat → va_E) : Nat → va_E := (va_up (va_up g n (.inl (E.2.1, 12, .inl (fun _ => 0)))) k (.inr (1, [.ref (b + n), .int 0])))
theorem gk_X1_init (E : mk_E) (b : Nat) (n k : Nat) (g : Nat → va_E) {x : Nat} (h1 : x < n) (h2 : x ≠ k) : gg_X1_init E b n k g x = g x := by
  exact (va_up_ne _ _ (by omega)).trans ((va_up_ne _ _ (by omega)).trans (rfl))
set_option maxHeartbeats 8000000 in
set_option maxRecDepth 100000 in
theorem c_X1_init (l : Launch) (D : va_G) (E : mk_E) (b : Nat) (n : Nat) (g : Nat → va_E) (k : Nat) (hk : k < n) (hg : g k = .inr (1, [.null, .int 0])) : Met l yX1_init wsX1_init (rm_X1_init) (va_Pc [.ref (b + k)] (ct_W D E b n g)) (ct_Q D b (n + 1) (gg_X1_init E b n k g)) 1 12 (ct_A b) := by
  refine Met.ofW (cc := cX1_init) (maxL := 1) (ret := none) (by decide) rfl ?_
  intro p e s m args below meth c s₁ B hml hv
  obtain ⟨rfl, hP, hz, hK, hN, hO⟩ := hv
  have hx := B.exec
  have hb := B.bytes
  have hr := B.returns
  have hts := atoms_spec (ws := wsX1_init) B.pre
  have hown : s.vm.findClass RX1 = some m.cls := findClass_of_methodNamed B.named
  have hlk := B.notSynchronized
  have hin : meth.name = "<init>" := (name_of_methodNamed B.named B.method).1
  have hS : va_S (ct_A b) s.heap s.heap [] := va_S.rf
  have hl := lv_entry ([.ref (b + k)]) (n := 1) (Nat.le_of_ble_eq_true rfl)
  rw [lg_entry_eq]
  generalize (lg_sl ([.ref (b + k)]) ++ List.replicate (1 - (lg_sl ([.ref (b + k)])).length) Slot.unset).toArray = ls at hl ⊢
  have hl : lv_has ls 1 [(0, .ref (b + k))] := hl
  refine lv_aload_n hx hb dX1_init_0 rfl (lv_at hl 0 rfl) ?_
  refine W.objInit hx hb hown (hts (.methodLink RX1 3 objectInit) (by decide +kernel)) (hts (.instanceMethod objectInit) (by decide +kernel)) (hts (.code objectInit ⟨#[0xb1]⟩ 1 none) (by decide +kernel)) rfl (by rw [hml]; exact hl.1) rfl dX1_init_1 (Nat.le_of_ble_eq_true rfl) (Nat.le_of_ble_eq_true rfl) ?_
  refine W.eq (g2 := F0 m 4 ls []) rfl ?_
  refine lv_aload_n hx hb dX1_init_4 rfl (lv_at hl 0 rfl) ?_
  refine lv_bipush (v := 12) hx hb dX1_init_5 (by decide) ?_
  refine ct_newI (N' := 12) hx hb (hts (.arrayClass .int) (by decide +kernel)) hK hP hz hS (by decide) (by decide) (by decide) (Nat.le_of_ble_eq_true rfl) (Nat.le_of_ble_eq_true rfl) dX1_init_7 (fun H hP hz hS => ?_)
  replace hP : va_P D vwCl (ct_w b (n + 1) (va_up g n (.inl (E.2.1, 12, .inl (fun _ => 0))))) H := hP
  replace hz : H.size = b + (n + 1) := hz
  obtain ⟨g1, eg1⟩ : ∃ z : Nat → va_E, z = va_up g n (.inl (E.2.1, 12, .inl (fun _ => 0))) := ⟨_, rfl⟩
  rw [← eg1] at hP
  have hg : g1 k = .inr (1, [.null, .int 0]) := by rw [eg1, va_up_ne _ _ (by omega)]; exact hg
  refine ct_putF (v := .ref (b + n)) (ty := .array (.int)) (C := RX1) (T := TX1) (N := 2) hx hb hts in_X1_init_X1 tyX1 tyX1_ok nmX1 hown hK hP hz hS (k := k) (by omega) hg rfl 0 (by decide) (hts (.fieldLink RX1 9 "MixedKernel$Line" "ids" "[I") (by decide +kernel)) rfl hin rfl (by decide +kernel) rfl rfl (Nat.le_of_ble_eq_true rfl) dX1_init_9 (fun H locs hP hz hS => ?_)
  replace hP : va_P D vwCl (ct_w b (n + 1) (va_up g1 k (.inr (1, [.ref (b + n), .int 0])))) H := hP
  replace hz : H.size = b + (n + 1) := hz
  obtain ⟨g2, eg2⟩ : ∃ z : Nat → va_E, z = va_up g1 k (.inr (1, [.ref (b + n), .int 0])) := ⟨_, rfl⟩
  rw [← eg2] at hP
  have hg : g2 k = .inr (1, [.ref (b + n), .int 0]) := by rw [eg2]; exact va_up_self _ _ _
  subst eg2
  subst eg1
  exact W.vret hx hb hr (fun t ht hW => ⟨⟨(), rfl, trivial, by rw [← ht] at hP; exact hP, by rw [ht]; exact hz⟩, hS.F ht⟩) hS.2.2 dX1_init_12
abbrev rm_X2_init : Room := { frames := 1, cells := 2, slots := 24, locals := 12 }
theorem in_X2_init_X2 : ∀ w ∈ wsX20, w ∈ wsX2_init := by decide +kernel
def gg_X2_init (E : mk_E) (b : Nat) (n k : Nat) (g : Nat → va_E) : Nat → va_E := (va_up (va_up (va_up (va_up g n (.inl (E.2.1, 12, .inl (fun _ => 0)))) k (.inr (2, [.ref (b + n), .null, .int 0, .int 0]))) (n + 1) (.inl (E.2.1, 12, .inl (fun _ => 0)))) k (.inr (2, [.ref (b + n), .ref (b + (n + 1)), .int 0, .int 0])))
theorem gk_X2_init (E : mk_E) (b : Nat) (n k : Nat) (g : Nat → va_E) {x : Nat} (h1 : x < n) (h2 : x ≠ k) : gg_X2_init E b n k g x = g x := by
  exact (va_up_ne _ _ (by omega)).trans ((va_up_ne _ _ (by omega)).trans ((va_up_ne _ _ (by omega)).trans ((va_up_ne _ _ (by omega)).trans (rfl))))
set_option maxHeartbeats 8000000 in
set_option maxRecDepth 100000 in
theorem c_X2_init (l : Launch) (D : va_G) (E : mk_E) (b : Nat) (n : Nat) (g : Nat → va_E) (k : Nat) (hk : k < n) (hg : g k = .inr (2, [.null, .null, .int 0, .int 0])) : Met l yX2_init wsX2_init (rm_X2_init) (va_Pc [.ref (b + k)] (ct_W D E b n g)) (ct_Q D b (n + 2) (gg_X2_init E b n k g)) 2 24 (ct_A b) := by
  refine Met.ofW (cc := cX2_init) (maxL := 1) (ret := none) (by decide) rfl ?_
  intro p e s m args below meth c s₁ B hml hv
  obtain ⟨rfl, hP, hz, hK, hN, hO⟩ := hv
  have hx := B.exec
  have hb := B.bytes
  have hr := B.returns
  have hts := atoms_spec (ws := wsX2_init) B.pre
  have hown : s.vm.findClass RX2 = some m.cls := findClass_of_methodNamed B.named
  have hlk := B.notSynchronized
  have hin : meth.name = "<init>" := (name_of_methodNamed B.named B.method).1
  have hS : va_S (ct_A b) s.heap s.heap [] := va_S.rf
  have hl := lv_entry ([.ref (b + k)]) (n := 1) (Nat.le_of_ble_eq_true rfl)
  rw [lg_entry_eq]
  generalize (lg_sl ([.ref (b + k)]) ++ List.replicate (1 - (lg_sl ([.ref (b + k)])).length) Slot.unset).toArray = ls at hl ⊢
  have hl : lv_has ls 1 [(0, .ref (b + k))] := hl
  refine lv_aload_n hx hb dX2_init_0 rfl (lv_at hl 0 rfl) ?_
  refine W.objInit hx hb hown (hts (.methodLink RX2 3 objectInit) (by decide +kernel)) (hts (.instanceMethod objectInit) (by decide +kernel)) (hts (.code objectInit ⟨#[0xb1]⟩ 1 none) (by decide +kernel)) rfl (by rw [hml]; exact hl.1) rfl dX2_init_1 (Nat.le_of_ble_eq_true rfl) (Nat.le_of_ble_eq_true rfl) ?_
  refine W.eq (g2 := F0 m 4 ls []) rfl ?_
  refine lv_aload_n hx hb dX2_init_4 rfl (lv_at hl 0 rfl) ?_
  refine lv_bipush (v := 12) hx hb dX2_init_5 (by decide) ?_
  refine ct_newI (N' := 12) hx hb (hts (.arrayClass .int) (by decide +kernel)) hK hP hz hS (by decide) (by decide) (by decide) (Nat.le_of_ble_eq_true rfl) (Nat.le_of_ble_eq_true rfl) dX2_init_7 (fun H hP hz hS => ?_)
  replace hP : va_P D vwCl (ct_w b (n + 1) (va_up g n (.inl (E.2.1, 12, .inl (fun _ => 0))))) H := hP
  replace hz : H.size = b + (n + 1) := hz
  obtain ⟨g1, eg1⟩ : ∃ z : Nat → va_E, z = va_up g n (.inl (E.2.1, 12, .inl (fun _ => 0))) := ⟨_, rfl⟩
  rw [← eg1] at hP
  have hg : g1 k = .inr (2, [.null, .null, .int 0, .int 0]) := by rw [eg1, va_up_ne _ _ (by omega)]; exact hg
  refine ct_putF (v := .ref (b + n)) (ty := .array (.int)) (C := RX2) (T := TX2) (N := 4) hx hb hts in_X2_init_X2 tyX2 tyX2_ok nmX2 hown hK hP hz hS (k := k) (by omega) hg rfl 0 (by decide) (hts (.fieldLink RX2 9 "MixedKernel$Refusal" "ids" "[I") (by decide +kernel)) rfl hin rfl (by decide +kernel) rfl rfl (Nat.le_of_ble_eq_true rfl) dX2_init_9 (fun H locs hP hz hS => ?_)
  replace hP : va_P D vwCl (ct_w b (n + 1) (va_up g1 k (.inr (2, [.ref (b + n), .null, .int 0, .int 0])))) H := hP
  replace hz : H.size = b + (n + 1) := hz
  obtain ⟨g2, eg2⟩ : ∃ z : Nat → va_E, z = va_up g1 k (.inr (2, [.ref (b + n), .null, .int 0, .int 0])) := ⟨_, rfl⟩
  rw [← eg2] at hP
  have hg : g2 k = .inr (2, [.ref (b + n), .null, .int 0, .int 0]) := by rw [eg2]; exact va_up_self _ _ _
  refine lv_aload_n hx hb dX2_init_12 rfl (lv_at hl 0 rfl) ?_
  refine lv_bipush (v := 12) hx hb dX2_init_13 (by decide) ?_
  refine ct_newI (N' := 12) hx hb (hts (.arrayClass .int) (by decide +kernel)) hK hP hz hS (by decide) (by decide) (by decide) (Nat.le_of_ble_eq_true rfl) (Nat.le_of_ble_eq_true rfl) dX2_init_15 (fun H hP hz hS => ?_)
  replace hP : va_P D vwCl (ct_w b (n + 2) (va_up g2 (n + 1) (.inl (E.2.1, 12, .inl (fun _ => 0))))) H := hP
  replace hz : H.size = b + (n + 2) := hz
  obtain ⟨g3, eg3⟩ : ∃ z : Nat → va_E, z = va_up g2 (n + 1) (.inl (E.2.1, 12, .inl (fun _ => 0))) := ⟨_, rfl⟩
  rw [← eg3] at hP
  have hg : g3 k = .inr (2, [.ref (b + n), .null, .int 0, .int 0]) := by rw [eg3, va_up_ne _ _ (by omega)]; exact hg
  refine ct_putF (v := .ref (b + (n + 1))) (ty := .array (.int)) (C := RX2) (T := TX2) (N := 4) hx hb hts in_X2_init_X2 tyX2 tyX2_ok nmX2 hown hK hP hz hS (k := k) (by omega) hg rfl 1 (by decide) (hts (.fieldLink RX2 15 "MixedKernel$Refusal" "periods" "[I") (by decide +kernel)) rfl hin rfl (by decide +kernel) rfl rfl (Nat.le_of_ble_eq_true rfl) dX2_init_17 (fun H locs hP hz hS => ?_)
  replace hP : va_P D vwCl (ct_w b (n + 2) (va_up g3 k (.inr (2, [.ref (b + n), .ref (b + (n + 1)), .int 0, .int 0])))) H := hP
  replace hz : H.size = b + (n + 2) := hz
  obtain ⟨g4, eg4⟩ : ∃ z : Nat → va_E, z = va_up g3 k (.inr (2, [.ref (b + n), .ref (b + (n + 1)), .int 0, .int 0])) := ⟨_, rfl⟩
  rw [← eg4] at hP
  have hg : g4 k = .inr (2, [.ref (b + n), .ref (b + (n + 1)), .int 0, .int 0]) := by rw [eg4]; exact va_up_self _ _ _
  subst eg4
  subst eg3
  subst eg2
  subst eg1
  exact W.vret hx hb hr (fun t ht hW => ⟨⟨(), rfl, trivial, by rw [← ht] at hP; exact hP, by rw [ht]; exact hz⟩, hS.F ht⟩) hS.2.2 dX2_init_20
abbrev rm_X3_init : Room := { frames := 1, cells := 3, slots := 24, locals := 12 }
theorem in_X3_init_X3 : ∀ w ∈ wsX30, w ∈ wsX3_init := by decide +kernel
def gg_X3_init (E : mk_E) (b : Nat) (n k : Nat) (g : Nat → va_E) : Nat → va_E := (va_up (va_up (va_up (va_up (va_up (va_up (va_up (va_up (va_up g k (.inr (3, [.int 1, .int 0, .int 0, .int 0, .int 0, .int 0, .int 0, .int 0, .int 0, .int 0, .int 0, .null, .null, .null]))) k (.inr (3, [.int 1, .int 1, .int 0, .int 0, .int 0, .int 0, .int 0, .int 0, .int 0, .int 0, .int 0, .null, .null, .null]))) k (.inr (3, [.int 1, .int 1, .int 1, .int 0, .int 0, .int 0, .int 0, .int 0, .int 0, .int 0, .int 0, .null, .null, .null]))) n (.inl (E.2.1, 8, .inl (fun _ => 0)))) k (.inr (3, [.int 1, .int 1, .int 1, .int 0, .int 0, .int 0, .int 0, .int 0, .int 0, .int 0, .int 0, .ref (b + n), .null, .null]))) (n + 1) (.inl (E.2.1, 8, .inl (fun _ => 0)))) k (.inr (3, [.int 1, .int 1, .int 1, .int 0, .int 0, .int 0, .int 0, .int 0, .int 0, .int 0, .int 0, .ref (b + n), .ref (b + (n + 1)), .null]))) (n + 2) (.inl (E.2.1, 8, .inl (fun _ => 0)))) k (.inr (3, [.int 1, .int 1, .int 1, .int 0, .int 0, .int 0, .int 0, .int 0, .int 0, .int 0, .int 0, .ref (b + n), .ref (b + (n + 1)), .ref (b + (n + 2))])))
theorem gk_X3_init (E : mk_E) (b : Nat) (n k : Nat) (g : Nat → va_E) {x : Nat} (h1 : x < n) (h2 : x ≠ k) : gg_X3_init E b n k g x = g x := by
  exact (va_up_ne _ _ (by omega)).trans ((va_up_ne _ _ (by omega)).trans ((va_up_ne _ _ (by omega)).trans ((va_up_ne _ _ (by omega)).trans ((va_up_ne _ _ (by omega)).trans ((va_up_ne _ _ (by omega)).trans ((va_up_ne _ _ (by omega)).trans ((va_up_ne _ _ (by omega)).trans ((va_up_ne _ _ (by omega)).trans (rfl)))))))))
set_option maxHeartbeats 8000000 in
set_option maxRecDepth 100000 in
theorem c_X3_init (l : Launch) (D : va_G) (E : mk_E) (b : Nat) (n : Nat) (g : Nat → va_E) (k : Nat) (hk : k < n) (hg : g k = .inr (3, [.int 0, .int 0, .int 0, .int 0, .int 0, .int 0, .int 0, .int 0, .int 0, .int 0, .int 0, .null, .null, .null])) : Met l yX3_init wsX3_init (rm_X3_init) (va_Pc [.ref (b + k)] (ct_W D E b n g)) (ct_Q D b (n + 3) (gg_X3_init E b n k g)) 3 24 (ct_A b) := by
  refine Met.ofW (cc := cX3_init) (maxL := 1) (ret := none) (by decide) rfl ?_
  intro p e s m args below meth c s₁ B hml hv
  obtain ⟨rfl, hP, hz, hK, hN, hO⟩ := hv
  have hx := B.exec
  have hb := B.bytes
  have hr := B.returns
  have hts := atoms_spec (ws := wsX3_init) B.pre
  have hown : s.vm.findClass RX3 = some m.cls := findClass_of_methodNamed B.named
  have hlk := B.notSynchronized
  have hin : meth.name = "<init>" := (name_of_methodNamed B.named B.method).1
  have hS : va_S (ct_A b) s.heap s.heap [] := va_S.rf
  have hl := lv_entry ([.ref (b + k)]) (n := 1) (Nat.le_of_ble_eq_true rfl)
  rw [lg_entry_eq]
  generalize (lg_sl ([.ref (b + k)]) ++ List.replicate (1 - (lg_sl ([.ref (b + k)])).length) Slot.unset).toArray = ls at hl ⊢
  have hl : lv_has ls 1 [(0, .ref (b + k))] := hl
  refine lv_aload_n hx hb dX3_init_0 rfl (lv_at hl 0 rfl) ?_
  refine W.objInit hx hb hown (hts (.methodLink RX3 3 objectInit) (by decide +kernel)) (hts (.instanceMethod objectInit) (by decide +kernel)) (hts (.code objectInit ⟨#[0xb1]⟩ 1 none) (by decide +kernel)) rfl (by rw [hml]; exact hl.1) rfl dX3_init_1 (Nat.le_of_ble_eq_true rfl) (Nat.le_of_ble_eq_true rfl) ?_
  refine W.eq (g2 := F0 m 4 ls []) rfl ?_
  refine lv_aload_n hx hb dX3_init_4 rfl (lv_at hl 0 rfl) ?_
  refine lv_iconst (v := 1) hx hb dX3_init_5 (by decide) ?_
  refine ct_put (v := .int 1) (ty := .int) (C := RX3) (T := TX3) (N := 14) hx hb hts in_X3_init_X3 tyX3 tyX3_ok nmX3 hown hK hP hz hS (k := k) (by omega) hg rfl 0 (by decide) (hts (.fieldLink RX3 9 "MixedKernel$Task" "period" "I") (by decide +kernel)) rfl (by decide +kernel) rfl rfl (Nat.le_of_ble_eq_true rfl) dX3_init_6 (fun H locs hP hz hS => ?_)
  replace hP : va_P D vwCl (ct_w b n (va_up g k (.inr (3, [.int 1, .int 0, .int 0, .int 0, .int 0, .int 0, .int 0, .int 0, .int 0, .int 0, .int 0, .null, .null, .null])))) H := hP
  replace hz : H.size = b + n := hz
  obtain ⟨g1, eg1⟩ : ∃ z : Nat → va_E, z = va_up g k (.inr (3, [.int 1, .int 0, .int 0, .int 0, .int 0, .int 0, .int 0, .int 0, .int 0, .int 0, .int 0, .null, .null, .null])) := ⟨_, rfl⟩
  rw [← eg1] at hP
  have hg : g1 k = .inr (3, [.int 1, .int 0, .int 0, .int 0, .int 0, .int 0, .int 0, .int 0, .int 0, .int 0, .int 0, .null, .null, .null]) := by rw [eg1]; exact va_up_self _ _ _
  refine lv_aload_n hx hb dX3_init_9 rfl (lv_at hl 0 rfl) ?_
  refine lv_iconst (v := 1) hx hb dX3_init_10 (by decide) ?_
  refine ct_put (v := .int 1) (ty := .int) (C := RX3) (T := TX3) (N := 14) hx hb hts in_X3_init_X3 tyX3 tyX3_ok nmX3 hown hK hP hz hS (k := k) (by omega) hg rfl 1 (by decide) (hts (.fieldLink RX3 15 "MixedKernel$Task" "deadline" "I") (by decide +kernel)) rfl (by decide +kernel) rfl rfl (Nat.le_of_ble_eq_true rfl) dX3_init_11 (fun H locs hP hz hS => ?_)
  replace hP : va_P D vwCl (ct_w b n (va_up g1 k (.inr (3, [.int 1, .int 1, .int 0, .int 0, .int 0, .int 0, .int 0, .int 0, .int 0, .int 0, .int 0, .null, .null, .null])))) H := hP
  replace hz : H.size = b + n := hz
  obtain ⟨g2, eg2⟩ : ∃ z : Nat → va_E, z = va_up g1 k (.inr (3, [.int 1, .int 1, .int 0, .int 0, .int 0, .int 0, .int 0, .int 0, .int 0, .int 0, .int 0, .null, .null, .null])) := ⟨_, rfl⟩
  rw [← eg2] at hP
  have hg : g2 k = .inr (3, [.int 1, .int 1, .int 0, .int 0, .int 0, .int 0, .int 0, .int 0, .int 0, .int 0, .int 0, .null, .null, .null]) := by rw [eg2]; exact va_up_self _ _ _
  refine lv_aload_n hx hb dX3_init_14 rfl (lv_at hl 0 rfl) ?_
  refine lv_iconst (v := 1) hx hb dX3_init_15 (by decide) ?_
  refine ct_put (v := .int 1) (ty := .int) (C := RX3) (T := TX3) (N := 14) hx hb hts in_X3_init_X3 tyX3 tyX3_ok nmX3 hown hK hP hz hS (k := k) (by omega) hg rfl 2 (by decide) (hts (.fieldLink RX3 18 "MixedKernel$Task" "low" "I") (by decide +kernel)) rfl (by decide +kernel) rfl rfl (Nat.le_of_ble_eq_true rfl) dX3_init_16 (fun H locs hP hz hS => ?_)
  replace hP : va_P D vwCl (ct_w b n (va_up g2 k (.inr (3, [.int 1, .int 1, .int 1, .int 0, .int 0, .int 0, .int 0, .int 0, .int 0, .int 0, .int 0, .null, .null, .null])))) H := hP
  replace hz : H.size = b + n := hz
  obtain ⟨g3, eg3⟩ : ∃ z : Nat → va_E, z = va_up g2 k (.inr (3, [.int 1, .int 1, .int 1, .int 0, .int 0, .int 0, .int 0, .int 0, .int 0, .int 0, .int 0, .null, .null, .null])) := ⟨_, rfl⟩
  rw [← eg3] at hP
  have hg : g3 k = .inr (3, [.int 1, .int 1, .int 1, .int 0, .int 0, .int 0, .int 0, .int 0, .int 0, .int 0, .int 0, .null, .null, .null]) := by rw [eg3]; exact va_up_self _ _ _
  refine lv_aload_n hx hb dX3_init_19 rfl (lv_at hl 0 rfl) ?_
  refine lv_bipush (v := 8) hx hb dX3_init_20 (by decide) ?_
  refine ct_newI (N' := 8) hx hb (hts (.arrayClass .int) (by decide +kernel)) hK hP hz hS (by decide) (by decide) (by decide) (Nat.le_of_ble_eq_true rfl) (Nat.le_of_ble_eq_true rfl) dX3_init_22 (fun H hP hz hS => ?_)
  replace hP : va_P D vwCl (ct_w b (n + 1) (va_up g3 n (.inl (E.2.1, 8, .inl (fun _ => 0))))) H := hP
  replace hz : H.size = b + (n + 1) := hz
  obtain ⟨g4, eg4⟩ : ∃ z : Nat → va_E, z = va_up g3 n (.inl (E.2.1, 8, .inl (fun _ => 0))) := ⟨_, rfl⟩
  rw [← eg4] at hP
  have hg : g4 k = .inr (3, [.int 1, .int 1, .int 1, .int 0, .int 0, .int 0, .int 0, .int 0, .int 0, .int 0, .int 0, .null, .null, .null]) := by rw [eg4, va_up_ne _ _ (by omega)]; exact hg
  refine ct_putF (v := .ref (b + n)) (ty := .array (.int)) (C := RX3) (T := TX3) (N := 14) hx hb hts in_X3_init_X3 tyX3 tyX3_ok nmX3 hown hK hP hz hS (k := k) (by omega) hg rfl 11 (by decide) (hts (.fieldLink RX3 21 "MixedKernel$Task" "demands" "[I") (by decide +kernel)) rfl hin rfl (by decide +kernel) rfl rfl (Nat.le_of_ble_eq_true rfl) dX3_init_24 (fun H locs hP hz hS => ?_)
  replace hP : va_P D vwCl (ct_w b (n + 1) (va_up g4 k (.inr (3, [.int 1, .int 1, .int 1, .int 0, .int 0, .int 0, .int 0, .int 0, .int 0, .int 0, .int 0, .ref (b + n), .null, .null])))) H := hP
  replace hz : H.size = b + (n + 1) := hz
  obtain ⟨g5, eg5⟩ : ∃ z : Nat → va_E, z = va_up g4 k (.inr (3, [.int 1, .int 1, .int 1, .int 0, .int 0, .int 0, .int 0, .int 0, .int 0, .int 0, .int 0, .ref (b + n), .null, .null])) := ⟨_, rfl⟩
  rw [← eg5] at hP
  have hg : g5 k = .inr (3, [.int 1, .int 1, .int 1, .int 0, .int 0, .int 0, .int 0, .int 0, .int 0, .int 0, .int 0, .ref (b + n), .null, .null]) := by rw [eg5]; exact va_up_self _ _ _
  refine lv_aload_n hx hb dX3_init_27 rfl (lv_at hl 0 rfl) ?_
  refine lv_bipush (v := 8) hx hb dX3_init_28 (by decide) ?_
  refine ct_newI (N' := 8) hx hb (hts (.arrayClass .int) (by decide +kernel)) hK hP hz hS (by decide) (by decide) (by decide) (Nat.le_of_ble_eq_true rfl) (Nat.le_of_ble_eq_true rfl) dX3_init_30 (fun H hP hz hS => ?_)
  replace hP : va_P D vwCl (ct_w b (n + 2) (va_up g5 (n + 1) (.inl (E.2.1, 8, .inl (fun _ => 0))))) H := hP
  replace hz : H.size = b + (n + 2) := hz
  obtain ⟨g6, eg6⟩ : ∃ z : Nat → va_E, z = va_up g5 (n + 1) (.inl (E.2.1, 8, .inl (fun _ => 0))) := ⟨_, rfl⟩
  rw [← eg6] at hP
  have hg : g6 k = .inr (3, [.int 1, .int 1, .int 1, .int 0, .int 0, .int 0, .int 0, .int 0, .int 0, .int 0, .int 0, .ref (b + n), .null, .null]) := by rw [eg6, va_up_ne _ _ (by omega)]; exact hg
  refine ct_putF (v := .ref (b + (n + 1))) (ty := .array (.int)) (C := RX3) (T := TX3) (N := 14) hx hb hts in_X3_init_X3 tyX3 tyX3_ok nmX3 hown hK hP hz hS (k := k) (by omega) hg rfl 12 (by decide) (hts (.fieldLink RX3 25 "MixedKernel$Task" "releaseTimes" "[I") (by decide +kernel)) rfl hin rfl (by decide +kernel) rfl rfl (Nat.le_of_ble_eq_true rfl) dX3_init_32 (fun H locs hP hz hS => ?_)
  replace hP : va_P D vwCl (ct_w b (n + 2) (va_up g6 k (.inr (3, [.int 1, .int 1, .int 1, .int 0, .int 0, .int 0, .int 0, .int 0, .int 0, .int 0, .int 0, .ref (b + n), .ref (b + (n + 1)), .null])))) H := hP
  replace hz : H.size = b + (n + 2) := hz
  obtain ⟨g7, eg7⟩ : ∃ z : Nat → va_E, z = va_up g6 k (.inr (3, [.int 1, .int 1, .int 1, .int 0, .int 0, .int 0, .int 0, .int 0, .int 0, .int 0, .int 0, .ref (b + n), .ref (b + (n + 1)), .null])) := ⟨_, rfl⟩
  rw [← eg7] at hP
  have hg : g7 k = .inr (3, [.int 1, .int 1, .int 1, .int 0, .int 0, .int 0, .int 0, .int 0, .int 0, .int 0, .int 0, .ref (b + n), .ref (b + (n + 1)), .null]) := by rw [eg7]; exact va_up_self _ _ _
  refine lv_aload_n hx hb dX3_init_35 rfl (lv_at hl 0 rfl) ?_
  refine lv_bipush (v := 8) hx hb dX3_init_36 (by decide) ?_
  refine ct_newI (N' := 8) hx hb (hts (.arrayClass .int) (by decide +kernel)) hK hP hz hS (by decide) (by decide) (by decide) (Nat.le_of_ble_eq_true rfl) (Nat.le_of_ble_eq_true rfl) dX3_init_38 (fun H hP hz hS => ?_)
  replace hP : va_P D vwCl (ct_w b (n + 3) (va_up g7 (n + 2) (.inl (E.2.1, 8, .inl (fun _ => 0))))) H := hP
  replace hz : H.size = b + (n + 3) := hz
  obtain ⟨g8, eg8⟩ : ∃ z : Nat → va_E, z = va_up g7 (n + 2) (.inl (E.2.1, 8, .inl (fun _ => 0))) := ⟨_, rfl⟩
  rw [← eg8] at hP
  have hg : g8 k = .inr (3, [.int 1, .int 1, .int 1, .int 0, .int 0, .int 0, .int 0, .int 0, .int 0, .int 0, .int 0, .ref (b + n), .ref (b + (n + 1)), .null]) := by rw [eg8, va_up_ne _ _ (by omega)]; exact hg
  refine ct_putF (v := .ref (b + (n + 2))) (ty := .array (.int)) (C := RX3) (T := TX3) (N := 14) hx hb hts in_X3_init_X3 tyX3 tyX3_ok nmX3 hown hK hP hz hS (k := k) (by omega) hg rfl 13 (by decide) (hts (.fieldLink RX3 28 "MixedKernel$Task" "endTimes" "[I") (by decide +kernel)) rfl hin rfl (by decide +kernel) rfl rfl (Nat.le_of_ble_eq_true rfl) dX3_init_40 (fun H locs hP hz hS => ?_)
  replace hP : va_P D vwCl (ct_w b (n + 3) (va_up g8 k (.inr (3, [.int 1, .int 1, .int 1, .int 0, .int 0, .int 0, .int 0, .int 0, .int 0, .int 0, .int 0, .ref (b + n), .ref (b + (n + 1)), .ref (b + (n + 2))])))) H := hP
  replace hz : H.size = b + (n + 3) := hz
  obtain ⟨g9, eg9⟩ : ∃ z : Nat → va_E, z = va_up g8 k (.inr (3, [.int 1, .int 1, .int 1, .int 0, .int 0, .int 0, .int 0, .int 0, .int 0, .int 0, .int 0, .ref (b + n), .ref (b + (n + 1)), .ref (b + (n + 2))])) := ⟨_, rfl⟩
  rw [← eg9] at hP
  have hg : g9 k = .inr (3, [.int 1, .int 1, .int 1, .int 0, .int 0, .int 0, .int 0, .int 0, .int 0, .int 0, .int 0, .ref (b + n), .ref (b + (n + 1)), .ref (b + (n + 2))]) := by rw [eg9]; exact va_up_self _ _ _
  subst eg9
  subst eg8
  subst eg7
  subst eg6
  subst eg5
  subst eg4
  subst eg3
  subst eg2
  subst eg1
  exact W.vret hx hb hr (fun t ht hW => ⟨⟨(), rfl, trivial, by rw [← ht] at hP; exact hP, by rw [ht]; exact hz⟩, hS.F ht⟩) hS.2.2 dX3_init_43
