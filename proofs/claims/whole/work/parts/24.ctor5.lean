/-! the kernel's constructor, a stretch for each of its parts -/
abbrev rm_X5_init : Room := { frames := 3, cells := 67, slots := 846, locals := 80 }
theorem in_X5_init_X0 : ∀ w ∈ wsX00, w ∈ wsX5_init := by decide +kernel
theorem in_X5_init_X1 : ∀ w ∈ wsX10, w ∈ wsX5_init := by decide +kernel
theorem in_X5_init_X2 : ∀ w ∈ wsX20, w ∈ wsX5_init := by decide +kernel
theorem in_X5_init_X3 : ∀ w ∈ wsX30, w ∈ wsX5_init := by decide +kernel
theorem in_X5_init_X4 : ∀ w ∈ wsX40, w ∈ wsX5_init := by decide +kernel
theorem in_X5_init_X5 : ∀ w ∈ wsX50, w ∈ wsX5_init := by decide +kernel
def gs5_0 (E : mk_E) (b n k : Nat) (A : Nat → va_E) : Nat → va_E := (va_up (va_up (gg_X4_init E b (n + 1) n (va_up A n (.inr (4, [.null])))) k (.inr (5, [.ref (b + n), .null, .null, .null, .null, .null, .null, .null, .int 0, .int 0, .int 0, .int 0, .int 0]))) k (.inr (5, [.ref (b + n), .ref (b + (n + 1)), .null, .null, .null, .null, .null, .null, .int 0, .int 0, .int 0, .int 0, .int 0])))
set_option maxHeartbeats 8000000 in
set_option maxRecDepth 100000 in
theorem sg5_0 {p : Program} {l : Launch} {e : Env} {s : State} {m : MethodId} {args : Array Value} {below : List Frame} {meth : Method} {c : Code} {D : va_G} {E : mk_E} {Q : State → Prop} {b n k : Nat} {ls : Array Slot} (hx : p.tables.exec = Jvm.exec) (hb : c.code = cX5_init) (hml : c.maxLocals = 1) (hown : s.vm.findClass RX5 = some m.cls) (hts : ∀ w ∈ wsX5_init, w.before args s = true) (hin : meth.name = "<init>") (hK : va_K D vwCl (mk_tys E) s) (hN : mk_Nst s) (hO : va_AO "MixedKernel$Task" s) (hk : k < n) (hl : lv_has ls 1 [(0, .ref (b + k))]) (A : Nat → va_E) (hg : A k = .inr (5, [.null, .null, .null, .null, .null, .null, .null, .null, .int 0, .int 0, .int 0, .int 0, .int 0])) {H : Heap} {locs : List Loc} (hP : va_P D vwCl (ct_w b n A) H) (hz : H.size = b + n) (hS : va_S (ct_A b) s.heap H locs) (kk : ∀ (H : Heap) (locs : List Loc), va_P D vwCl (ct_w b (n + 54) (gs5_0 E b n k A)) H → H.size = b + (n + 54) → va_S (ct_A b) s.heap H locs → W p l e rm_X5_init s m args below meth c H locs 54 508 Q (F0 m 26 ls [])) : W p l e rm_X5_init s m args below meth c H locs 0 0 Q (F0 m 4 ls []) := by
  refine lv_aload_n hx hb dX5_init_4 rfl (lv_at hl 0 rfl) ?_
  refine ct_new (ci := 4) (fs := [.null]) (C := RX4) (T := TX4) (N := 1) hx hb hts in_X5_init_X4 tyX4 tyX4_ok hown (hts (.classLink RX5 9 RX4) (by decide +kernel)) (hts (.instantiable RX4 1) (by decide +kernel)) (hts (.initialized RX4) (by decide +kernel)) hK hP hz hS rfl (by decide) (Nat.le_of_ble_eq_true rfl) (Nat.le_of_ble_eq_true rfl) dX5_init_5 (fun H hP hz hS => ?_)
  replace hP : va_P D vwCl (ct_w b (n + 1) (va_up A n (.inr (4, [.null])))) H := hP
  replace hz : H.size = b + (n + 1) := hz
  obtain ⟨g1, eg1⟩ : ∃ z : Nat → va_E, z = va_up A n (.inr (4, [.null])) := ⟨_, rfl⟩
  rw [← eg1] at hP
  have hg : g1 k = .inr (5, [.null, .null, .null, .null, .null, .null, .null, .null, .int 0, .int 0, .int 0, .int 0, .int 0]) := by rw [eg1, va_up_ne _ _ (by omega)]; exact hg
  refine lv_dup hx hb dX5_init_8 rfl ?_
  refine va_callv (va_runI (As := []) (rest := [.ref (b + n), .ref (b + k)]) ⟨hx, hb, hml, hown, hts⟩ (c_X4_init l D E b (n + 1) g1 n (by omega) (by rw [eg1]; exact va_up_self _ _ _)) (cwI 0 hts ggX5_init_X4_init rfl rfl rfl (hts (.initialized RX4) (by decide +kernel)) (hts (.methodLink RX5 11 yX4_init) (by decide +kernel)) (hts (.instanceMethod yX4_init) (by decide +kernel)) rfl (by decide +kernel) ⟨Nat.le_of_ble_eq_true rfl, Nat.le_of_ble_eq_true rfl⟩) ⟨ct_W.blind, fun U hU hW => ⟨rfl, ct_W.at hU hW hP hz hK hN hO⟩⟩ rfl rfl hl.1 rfl (lv_room (Nat.le_of_ble_eq_true rfl)) dX5_init_9 ⟨Nat.le_of_ble_eq_true rfl, Nat.le_of_ble_eq_true rfl⟩) hS (fun q _ h => h) (fun q h => h) (fun u t H1 locs ht hvm hw hB hz1 hk1 hS => ?_)
  obtain ⟨hP2, hz2⟩ := hB
  rw [ht] at hP2 hz2
  replace hP := hP2
  replace hz := hz2
  clear hP2 hz2 hz1 hk1 hvm ht
  generalize H1 = H at hP hz hS ⊢
  obtain ⟨g2, eg2⟩ : ∃ z : Nat → va_E, z = gg_X4_init E b (n + 1) n g1 := ⟨_, rfl⟩
  rw [← eg2] at hP
  have hg : g2 k = .inr (5, [.null, .null, .null, .null, .null, .null, .null, .null, .int 0, .int 0, .int 0, .int 0, .int 0]) := by rw [eg2, gk_X4_init E b (n + 1) n g1 (by omega) (by omega)]; exact hg
  have hset : g2 n = .inr (4, [.ref (b + (n + 1))]) := by rw [eg2]; exact ct_G4_k E b (n + 1) n _ (by omega) 13
  refine ct_putF (v := .ref (b + n)) (ty := .object "MixedKernel$TaskSet") (C := RX5) (T := TX5) (N := 13) hx hb hts in_X5_init_X5 tyX5 tyX5_ok nmX5 hown hK hP hz hS (k := k) (by omega) hg rfl 0 (by decide) (hts (.fieldLink RX5 12 "MixedKernel" "set" "LMixedKernel$TaskSet;") (by decide +kernel)) rfl hin rfl (by decide +kernel) rfl rfl (Nat.le_of_ble_eq_true rfl) dX5_init_12 (fun H locs hP hz hS => ?_)
  replace hP : va_P D vwCl (ct_w b (n + 54) (va_up g2 k (.inr (5, [.ref (b + n), .null, .null, .null, .null, .null, .null, .null, .int 0, .int 0, .int 0, .int 0, .int 0])))) H := hP
  replace hz : H.size = b + (n + 54) := hz
  obtain ⟨g3, eg3⟩ : ∃ z : Nat → va_E, z = va_up g2 k (.inr (5, [.ref (b + n), .null, .null, .null, .null, .null, .null, .null, .int 0, .int 0, .int 0, .int 0, .int 0])) := ⟨_, rfl⟩
  rw [← eg3] at hP
  have hg : g3 k = .inr (5, [.ref (b + n), .null, .null, .null, .null, .null, .null, .null, .int 0, .int 0, .int 0, .int 0, .int 0]) := by rw [eg3]; exact va_up_self _ _ _
  have hset : g3 n = .inr (4, [.ref (b + (n + 1))]) := by rw [eg3, va_up_ne _ _ (by omega)]; exact hset
  refine lv_aload_n hx hb dX5_init_15 rfl (lv_at hl 0 rfl) ?_
  refine lv_aload_n hx hb dX5_init_16 rfl (lv_at hl 0 rfl) ?_
  refine va_get (D := D) (ci := 5) (v := .ref (b + n)) (C := RX5) (T := TX5) (N := 13) hx hb hts in_X5_init_X5 hown hK hP k (by rw [ct_get (by omega), hg]) rfl 0 (by decide) (hts (.fieldLink RX5 12 "MixedKernel" "set" "LMixedKernel$TaskSet;") (by decide +kernel)) (fun _ h9 => h9) rfl dX5_init_17 ?_
  refine va_getN (D := D) (ci := 4) (v := .ref (b + (n + 1))) (C := RX4) (T := TX4) (N := 1) hx hb hts in_X5_init_X4 hown hK hP n (by rw [ct_get (by omega), hset]) rfl 0 (by decide) (va_Nw.use rfl (hN (.fieldLinkNest "MixedKernel" 16 "MixedKernel$TaskSet" "all" "[LMixedKernel$Task;" "MixedKernel") (by decide +kernel))) (fun _ h9 => h9) rfl dX5_init_20 ?_
  refine ct_putF (v := .ref (b + (n + 1))) (ty := .array (.object "MixedKernel$Task")) (C := RX5) (T := TX5) (N := 13) hx hb hts in_X5_init_X5 tyX5 tyX5_ok nmX5 hown hK hP hz hS (k := k) (by omega) hg rfl 1 (by decide) (hts (.fieldLink RX5 20 "MixedKernel" "tasks" "[LMixedKernel$Task;") (by decide +kernel)) rfl hin rfl (by decide +kernel) rfl rfl (Nat.le_of_ble_eq_true rfl) dX5_init_23 (fun H locs hP hz hS => ?_)
  replace hP : va_P D vwCl (ct_w b (n + 54) (va_up g3 k (.inr (5, [.ref (b + n), .ref (b + (n + 1)), .null, .null, .null, .null, .null, .null, .int 0, .int 0, .int 0, .int 0, .int 0])))) H := hP
  replace hz : H.size = b + (n + 54) := hz
  obtain ⟨g4, eg4⟩ : ∃ z : Nat → va_E, z = va_up g3 k (.inr (5, [.ref (b + n), .ref (b + (n + 1)), .null, .null, .null, .null, .null, .null, .int 0, .int 0, .int 0, .int 0, .int 0])) := ⟨_, rfl⟩
  rw [← eg4] at hP
  have hg : g4 k = .inr (5, [.ref (b + n), .ref (b + (n + 1)), .null, .null, .null, .null, .null, .null, .int 0, .int 0, .int 0, .int 0, .int 0]) := by rw [eg4]; exact va_up_self _ _ _
  subst eg4
  subst eg3
  subst eg2
  subst eg1
  exact kk H locs hP hz hS
theorem gt5_0 (E : mk_E) (b n k : Nat) (A : Nat → va_E) : gs5_0 E b n k A k = .inr (5, [.ref (b + n), .ref (b + (n + 1)), .null, .null, .null, .null, .null, .null, .int 0, .int 0, .int 0, .int 0, .int 0]) := va_up_self _ _ _
def gs5_1 (E : mk_E) (b n k : Nat) (A : Nat → va_E) : Nat → va_E := (va_up (gg_X1_init E b (n + 55) (n + 54) (va_up A (n + 54) (.inr (1, [.null, .int 0])))) k (.inr (5, [.ref (b + n), .ref (b + (n + 1)), .ref (b + (n + 54)), .null, .null, .null, .null, .null, .int 0, .int 0, .int 0, .int 0, .int 0])))
set_option maxHeartbeats 8000000 in
set_option maxRecDepth 100000 in
theorem sg5_1 {p : Program} {l : Launch} {e : Env} {s : State} {m : MethodId} {args : Array Value} {below : List Frame} {meth : Method} {c : Code} {D : va_G} {E : mk_E} {Q : State → Prop} {b n k : Nat} {ls : Array Slot} (hx : p.tables.exec = Jvm.exec) (hb : c.code = cX5_init) (hml : c.maxLocals = 1) (hown : s.vm.findClass RX5 = some m.cls) (hts : ∀ w ∈ wsX5_init, w.before args s = true) (hin : meth.name = "<init>") (hK : va_K D vwCl (mk_tys E) s) (hN : mk_Nst s) (hO : va_AO "MixedKernel$Task" s) (hk : k < n) (hl : lv_has ls 1 [(0, .ref (b + k))]) (A : Nat → va_E) (hg : A k = .inr (5, [.ref (b + n), .ref (b + (n + 1)), .null, .null, .null, .null, .null, .null, .int 0, .int 0, .int 0, .int 0, .int 0])) {H : Heap} {locs : List Loc} (hP : va_P D vwCl (ct_w b (n + 54) A) H) (hz : H.size = b + (n + 54)) (hS : va_S (ct_A b) s.heap H locs) (kk : ∀ (H : Heap) (locs : List Loc), va_P D vwCl (ct_w b (n + 56) (gs5_1 E b n k A)) H → H.size = b + (n + 56) → va_S (ct_A b) s.heap H locs → W p l e rm_X5_init s m args below meth c H locs 56 522 Q (F0 m 37 ls [])) : W p l e rm_X5_init s m args below meth c H locs 54 508 Q (F0 m 26 ls []) := by
  refine lv_aload_n hx hb dX5_init_26 rfl (lv_at hl 0 rfl) ?_
  refine ct_new (ci := 1) (fs := [.null, .int 0]) (C := RX1) (T := TX1) (N := 2) hx hb hts in_X5_init_X1 tyX1 tyX1_ok hown (hts (.classLink RX5 23 RX1) (by decide +kernel)) (hts (.instantiable RX1 2) (by decide +kernel)) (hts (.initialized RX1) (by decide +kernel)) hK hP hz hS rfl (by decide) (Nat.le_of_ble_eq_true rfl) (Nat.le_of_ble_eq_true rfl) dX5_init_27 (fun H hP hz hS => ?_)
  replace hP : va_P D vwCl (ct_w b (n + 55) (va_up A (n + 54) (.inr (1, [.null, .int 0])))) H := hP
  replace hz : H.size = b + (n + 55) := hz
  obtain ⟨g1, eg1⟩ : ∃ z : Nat → va_E, z = va_up A (n + 54) (.inr (1, [.null, .int 0])) := ⟨_, rfl⟩
  rw [← eg1] at hP
  have hg : g1 k = .inr (5, [.ref (b + n), .ref (b + (n + 1)), .null, .null, .null, .null, .null, .null, .int 0, .int 0, .int 0, .int 0, .int 0]) := by rw [eg1, va_up_ne _ _ (by omega)]; exact hg
  refine lv_dup hx hb dX5_init_30 rfl ?_
  refine va_callv (va_runIN (As := []) (rest := [.ref (b + (n + 54)), .ref (b + k)]) ⟨hx, hb, hml, hown, hts⟩ (c_X1_init l D E b (n + 55) g1 (n + 54) (by omega) (by rw [eg1]; exact va_up_self _ _ _)) ⟨va_cnB 0 hts ggX5_init_X1_init rfl rfl rfl (hN (.methodLinkNest "MixedKernel" 25 ⟨"MixedKernel$Line", "<init>", "()V"⟩ "MixedKernel") (by decide +kernel)) (hts (.initialized RX1) (by decide +kernel)) (by decide +kernel) ⟨Nat.le_of_ble_eq_true rfl, Nat.le_of_ble_eq_true rfl⟩, rfl, hts (.instanceMethod yX1_init) (by decide +kernel)⟩ ⟨ct_W.blind, fun U hU hW => ⟨rfl, ct_W.at hU hW hP hz hK hN hO⟩⟩ rfl rfl hl.1 rfl (lv_room (Nat.le_of_ble_eq_true rfl)) dX5_init_31 ⟨Nat.le_of_ble_eq_true rfl, Nat.le_of_ble_eq_true rfl⟩) hS (fun q _ h => h) (fun q h => h) (fun u t H1 locs ht hvm hw hB hz1 hk1 hS => ?_)
  obtain ⟨hP2, hz2⟩ := hB
  rw [ht] at hP2 hz2
  replace hP := hP2
  replace hz := hz2
  clear hP2 hz2 hz1 hk1 hvm ht
  generalize H1 = H at hP hz hS ⊢
  obtain ⟨g2, eg2⟩ : ∃ z : Nat → va_E, z = gg_X1_init E b (n + 55) (n + 54) g1 := ⟨_, rfl⟩
  rw [← eg2] at hP
  have hg : g2 k = .inr (5, [.ref (b + n), .ref (b + (n + 1)), .null, .null, .null, .null, .null, .null, .int 0, .int 0, .int 0, .int 0, .int 0]) := by rw [eg2, gk_X1_init E b (n + 55) (n + 54) g1 (by omega) (by omega)]; exact hg
  refine ct_putF (v := .ref (b + (n + 54))) (ty := .object "MixedKernel$Line") (C := RX5) (T := TX5) (N := 13) hx hb hts in_X5_init_X5 tyX5 tyX5_ok nmX5 hown hK hP hz hS (k := k) (by omega) hg rfl 2 (by decide) (hts (.fieldLink RX5 26 "MixedKernel" "plan" "LMixedKernel$Line;") (by decide +kernel)) rfl hin rfl (by decide +kernel) rfl rfl (Nat.le_of_ble_eq_true rfl) dX5_init_34 (fun H locs hP hz hS => ?_)
  replace hP : va_P D vwCl (ct_w b (n + 56) (va_up g2 k (.inr (5, [.ref (b + n), .ref (b + (n + 1)), .ref (b + (n + 54)), .null, .null, .null, .null, .null, .int 0, .int 0, .int 0, .int 0, .int 0])))) H := hP
  replace hz : H.size = b + (n + 56) := hz
  obtain ⟨g3, eg3⟩ : ∃ z : Nat → va_E, z = va_up g2 k (.inr (5, [.ref (b + n), .ref (b + (n + 1)), .ref (b + (n + 54)), .null, .null, .null, .null, .null, .int 0, .int 0, .int 0, .int 0, .int 0])) := ⟨_, rfl⟩
  rw [← eg3] at hP
  have hg : g3 k = .inr (5, [.ref (b + n), .ref (b + (n + 1)), .ref (b + (n + 54)), .null, .null, .null, .null, .null, .int 0, .int 0, .int 0, .int 0, .int 0]) := by rw [eg3]; exact va_up_self _ _ _
  subst eg3
  subst eg2
  subst eg1
  exact kk H locs hP hz hS
theorem gt5_1 (E : mk_E) (b n k : Nat) (A : Nat → va_E) : gs5_1 E b n k A k = .inr (5, [.ref (b + n), .ref (b + (n + 1)), .ref (b + (n + 54)), .null, .null, .null, .null, .null, .int 0, .int 0, .int 0, .int 0, .int 0]) := va_up_self _ _ _
def gs5_2 (E : mk_E) (b n k : Nat) (A : Nat → va_E) : Nat → va_E := (va_up (gg_X1_init E b (n + 57) (n + 56) (va_up A (n + 56) (.inr (1, [.null, .int 0])))) k (.inr (5, [.ref (b + n), .ref (b + (n + 1)), .ref (b + (n + 54)), .ref (b + (n + 56)), .null, .null, .null, .null, .int 0, .int 0, .int 0, .int 0, .int 0])))
set_option maxHeartbeats 8000000 in
set_option maxRecDepth 100000 in
theorem sg5_2 {p : Program} {l : Launch} {e : Env} {s : State} {m : MethodId} {args : Array Value} {below : List Frame} {meth : Method} {c : Code} {D : va_G} {E : mk_E} {Q : State → Prop} {b n k : Nat} {ls : Array Slot} (hx : p.tables.exec = Jvm.exec) (hb : c.code = cX5_init) (hml : c.maxLocals = 1) (hown : s.vm.findClass RX5 = some m.cls) (hts : ∀ w ∈ wsX5_init, w.before args s = true) (hin : meth.name = "<init>") (hK : va_K D vwCl (mk_tys E) s) (hN : mk_Nst s) (hO : va_AO "MixedKernel$Task" s) (hk : k < n) (hl : lv_has ls 1 [(0, .ref (b + k))]) (A : Nat → va_E) (hg : A k = .inr (5, [.ref (b + n), .ref (b + (n + 1)), .ref (b + (n + 54)), .null, .null, .null, .null, .null, .int 0, .int 0, .int 0, .int 0, .int 0])) {H : Heap} {locs : List Loc} (hP : va_P D vwCl (ct_w b (n + 56) A) H) (hz : H.size = b + (n + 56)) (hS : va_S (ct_A b) s.heap H locs) (kk : ∀ (H : Heap) (locs : List Loc), va_P D vwCl (ct_w b (n + 58) (gs5_2 E b n k A)) H → H.size = b + (n + 58) → va_S (ct_A b) s.heap H locs → W p l e rm_X5_init s m args below meth c H locs 58 536 Q (F0 m 48 ls [])) : W p l e rm_X5_init s m args below meth c H locs 56 522 Q (F0 m 37 ls []) := by
  refine lv_aload_n hx hb dX5_init_37 rfl (lv_at hl 0 rfl) ?_
  refine ct_new (ci := 1) (fs := [.null, .int 0]) (C := RX1) (T := TX1) (N := 2) hx hb hts in_X5_init_X1 tyX1 tyX1_ok hown (hts (.classLink RX5 23 RX1) (by decide +kernel)) (hts (.instantiable RX1 2) (by decide +kernel)) (hts (.initialized RX1) (by decide +kernel)) hK hP hz hS rfl (by decide) (Nat.le_of_ble_eq_true rfl) (Nat.le_of_ble_eq_true rfl) dX5_init_38 (fun H hP hz hS => ?_)
  replace hP : va_P D vwCl (ct_w b (n + 57) (va_up A (n + 56) (.inr (1, [.null, .int 0])))) H := hP
  replace hz : H.size = b + (n + 57) := hz
  obtain ⟨g1, eg1⟩ : ∃ z : Nat → va_E, z = va_up A (n + 56) (.inr (1, [.null, .int 0])) := ⟨_, rfl⟩
  rw [← eg1] at hP
  have hg : g1 k = .inr (5, [.ref (b + n), .ref (b + (n + 1)), .ref (b + (n + 54)), .null, .null, .null, .null, .null, .int 0, .int 0, .int 0, .int 0, .int 0]) := by rw [eg1, va_up_ne _ _ (by omega)]; exact hg
  refine lv_dup hx hb dX5_init_41 rfl ?_
  refine va_callv (va_runIN (As := []) (rest := [.ref (b + (n + 56)), .ref (b + k)]) ⟨hx, hb, hml, hown, hts⟩ (c_X1_init l D E b (n + 57) g1 (n + 56) (by omega) (by rw [eg1]; exact va_up_self _ _ _)) ⟨va_cnB 0 hts ggX5_init_X1_init rfl rfl rfl (hN (.methodLinkNest "MixedKernel" 25 ⟨"MixedKernel$Line", "<init>", "()V"⟩ "MixedKernel") (by decide +kernel)) (hts (.initialized RX1) (by decide +kernel)) (by decide +kernel) ⟨Nat.le_of_ble_eq_true rfl, Nat.le_of_ble_eq_true rfl⟩, rfl, hts (.instanceMethod yX1_init) (by decide +kernel)⟩ ⟨ct_W.blind, fun U hU hW => ⟨rfl, ct_W.at hU hW hP hz hK hN hO⟩⟩ rfl rfl hl.1 rfl (lv_room (Nat.le_of_ble_eq_true rfl)) dX5_init_42 ⟨Nat.le_of_ble_eq_true rfl, Nat.le_of_ble_eq_true rfl⟩) hS (fun q _ h => h) (fun q h => h) (fun u t H1 locs ht hvm hw hB hz1 hk1 hS => ?_)
  obtain ⟨hP2, hz2⟩ := hB
  rw [ht] at hP2 hz2
  replace hP := hP2
  replace hz := hz2
  clear hP2 hz2 hz1 hk1 hvm ht
  generalize H1 = H at hP hz hS ⊢
  obtain ⟨g2, eg2⟩ : ∃ z : Nat → va_E, z = gg_X1_init E b (n + 57) (n + 56) g1 := ⟨_, rfl⟩
  rw [← eg2] at hP
  have hg : g2 k = .inr (5, [.ref (b + n), .ref (b + (n + 1)), .ref (b + (n + 54)), .null, .null, .null, .null, .null, .int 0, .int 0, .int 0, .int 0, .int 0]) := by rw [eg2, gk_X1_init E b (n + 57) (n + 56) g1 (by omega) (by omega)]; exact hg
  refine ct_putF (v := .ref (b + (n + 56))) (ty := .object "MixedKernel$Line") (C := RX5) (T := TX5) (N := 13) hx hb hts in_X5_init_X5 tyX5 tyX5_ok nmX5 hown hK hP hz hS (k := k) (by omega) hg rfl 3 (by decide) (hts (.fieldLink RX5 30 "MixedKernel" "order" "LMixedKernel$Line;") (by decide +kernel)) rfl hin rfl (by decide +kernel) rfl rfl (Nat.le_of_ble_eq_true rfl) dX5_init_45 (fun H locs hP hz hS => ?_)
  replace hP : va_P D vwCl (ct_w b (n + 58) (va_up g2 k (.inr (5, [.ref (b + n), .ref (b + (n + 1)), .ref (b + (n + 54)), .ref (b + (n + 56)), .null, .null, .null, .null, .int 0, .int 0, .int 0, .int 0, .int 0])))) H := hP
  replace hz : H.size = b + (n + 58) := hz
  obtain ⟨g3, eg3⟩ : ∃ z : Nat → va_E, z = va_up g2 k (.inr (5, [.ref (b + n), .ref (b + (n + 1)), .ref (b + (n + 54)), .ref (b + (n + 56)), .null, .null, .null, .null, .int 0, .int 0, .int 0, .int 0, .int 0])) := ⟨_, rfl⟩
  rw [← eg3] at hP
  have hg : g3 k = .inr (5, [.ref (b + n), .ref (b + (n + 1)), .ref (b + (n + 54)), .ref (b + (n + 56)), .null, .null, .null, .null, .int 0, .int 0, .int 0, .int 0, .int 0]) := by rw [eg3]; exact va_up_self _ _ _
  subst eg3
  subst eg2
  subst eg1
  exact kk H locs hP hz hS
theorem gt5_2 (E : mk_E) (b n k : Nat) (A : Nat → va_E) : gs5_2 E b n k A k = .inr (5, [.ref (b + n), .ref (b + (n + 1)), .ref (b + (n + 54)), .ref (b + (n + 56)), .null, .null, .null, .null, .int 0, .int 0, .int 0, .int 0, .int 0]) := va_up_self _ _ _
def gs5_3 (E : mk_E) (b n k : Nat) (A : Nat → va_E) : Nat → va_E := (va_up (gg_X1_init E b (n + 59) (n + 58) (va_up A (n + 58) (.inr (1, [.null, .int 0])))) k (.inr (5, [.ref (b + n), .ref (b + (n + 1)), .ref (b + (n + 54)), .ref (b + (n + 56)), .ref (b + (n + 58)), .null, .null, .null, .int 0, .int 0, .int 0, .int 0, .int 0])))
set_option maxHeartbeats 8000000 in
set_option maxRecDepth 100000 in
theorem sg5_3 {p : Program} {l : Launch} {e : Env} {s : State} {m : MethodId} {args : Array Value} {below : List Frame} {meth : Method} {c : Code} {D : va_G} {E : mk_E} {Q : State → Prop} {b n k : Nat} {ls : Array Slot} (hx : p.tables.exec = Jvm.exec) (hb : c.code = cX5_init) (hml : c.maxLocals = 1) (hown : s.vm.findClass RX5 = some m.cls) (hts : ∀ w ∈ wsX5_init, w.before args s = true) (hin : meth.name = "<init>") (hK : va_K D vwCl (mk_tys E) s) (hN : mk_Nst s) (hO : va_AO "MixedKernel$Task" s) (hk : k < n) (hl : lv_has ls 1 [(0, .ref (b + k))]) (A : Nat → va_E) (hg : A k = .inr (5, [.ref (b + n), .ref (b + (n + 1)), .ref (b + (n + 54)), .ref (b + (n + 56)), .null, .null, .null, .null, .int 0, .int 0, .int 0, .int 0, .int 0])) {H : Heap} {locs : List Loc} (hP : va_P D vwCl (ct_w b (n + 58) A) H) (hz : H.size = b + (n + 58)) (hS : va_S (ct_A b) s.heap H locs) (kk : ∀ (H : Heap) (locs : List Loc), va_P D vwCl (ct_w b (n + 60) (gs5_3 E b n k A)) H → H.size = b + (n + 60) → va_S (ct_A b) s.heap H locs → W p l e rm_X5_init s m args below meth c H locs 60 550 Q (F0 m 59 ls [])) : W p l e rm_X5_init s m args below meth c H locs 58 536 Q (F0 m 48 ls []) := by
  refine lv_aload_n hx hb dX5_init_48 rfl (lv_at hl 0 rfl) ?_
  refine ct_new (ci := 1) (fs := [.null, .int 0]) (C := RX1) (T := TX1) (N := 2) hx hb hts in_X5_init_X1 tyX1 tyX1_ok hown (hts (.classLink RX5 23 RX1) (by decide +kernel)) (hts (.instantiable RX1 2) (by decide +kernel)) (hts (.initialized RX1) (by decide +kernel)) hK hP hz hS rfl (by decide) (Nat.le_of_ble_eq_true rfl) (Nat.le_of_ble_eq_true rfl) dX5_init_49 (fun H hP hz hS => ?_)
  replace hP : va_P D vwCl (ct_w b (n + 59) (va_up A (n + 58) (.inr (1, [.null, .int 0])))) H := hP
  replace hz : H.size = b + (n + 59) := hz
  obtain ⟨g1, eg1⟩ : ∃ z : Nat → va_E, z = va_up A (n + 58) (.inr (1, [.null, .int 0])) := ⟨_, rfl⟩
  rw [← eg1] at hP
  have hg : g1 k = .inr (5, [.ref (b + n), .ref (b + (n + 1)), .ref (b + (n + 54)), .ref (b + (n + 56)), .null, .null, .null, .null, .int 0, .int 0, .int 0, .int 0, .int 0]) := by rw [eg1, va_up_ne _ _ (by omega)]; exact hg
  refine lv_dup hx hb dX5_init_52 rfl ?_
  refine va_callv (va_runIN (As := []) (rest := [.ref (b + (n + 58)), .ref (b + k)]) ⟨hx, hb, hml, hown, hts⟩ (c_X1_init l D E b (n + 59) g1 (n + 58) (by omega) (by rw [eg1]; exact va_up_self _ _ _)) ⟨va_cnB 0 hts ggX5_init_X1_init rfl rfl rfl (hN (.methodLinkNest "MixedKernel" 25 ⟨"MixedKernel$Line", "<init>", "()V"⟩ "MixedKernel") (by decide +kernel)) (hts (.initialized RX1) (by decide +kernel)) (by decide +kernel) ⟨Nat.le_of_ble_eq_true rfl, Nat.le_of_ble_eq_true rfl⟩, rfl, hts (.instanceMethod yX1_init) (by decide +kernel)⟩ ⟨ct_W.blind, fun U hU hW => ⟨rfl, ct_W.at hU hW hP hz hK hN hO⟩⟩ rfl rfl hl.1 rfl (lv_room (Nat.le_of_ble_eq_true rfl)) dX5_init_53 ⟨Nat.le_of_ble_eq_true rfl, Nat.le_of_ble_eq_true rfl⟩) hS (fun q _ h => h) (fun q h => h) (fun u t H1 locs ht hvm hw hB hz1 hk1 hS => ?_)
  obtain ⟨hP2, hz2⟩ := hB
  rw [ht] at hP2 hz2
  replace hP := hP2
  replace hz := hz2
  clear hP2 hz2 hz1 hk1 hvm ht
  generalize H1 = H at hP hz hS ⊢
  obtain ⟨g2, eg2⟩ : ∃ z : Nat → va_E, z = gg_X1_init E b (n + 59) (n + 58) g1 := ⟨_, rfl⟩
  rw [← eg2] at hP
  have hg : g2 k = .inr (5, [.ref (b + n), .ref (b + (n + 1)), .ref (b + (n + 54)), .ref (b + (n + 56)), .null, .null, .null, .null, .int 0, .int 0, .int 0, .int 0, .int 0]) := by rw [eg2, gk_X1_init E b (n + 59) (n + 58) g1 (by omega) (by omega)]; exact hg
  refine ct_putF (v := .ref (b + (n + 58))) (ty := .object "MixedKernel$Line") (C := RX5) (T := TX5) (N := 13) hx hb hts in_X5_init_X5 tyX5 tyX5_ok nmX5 hown hK hP hz hS (k := k) (by omega) hg rfl 4 (by decide) (hts (.fieldLink RX5 33 "MixedKernel" "trial" "LMixedKernel$Line;") (by decide +kernel)) rfl hin rfl (by decide +kernel) rfl rfl (Nat.le_of_ble_eq_true rfl) dX5_init_56 (fun H locs hP hz hS => ?_)
  replace hP : va_P D vwCl (ct_w b (n + 60) (va_up g2 k (.inr (5, [.ref (b + n), .ref (b + (n + 1)), .ref (b + (n + 54)), .ref (b + (n + 56)), .ref (b + (n + 58)), .null, .null, .null, .int 0, .int 0, .int 0, .int 0, .int 0])))) H := hP
  replace hz : H.size = b + (n + 60) := hz
  obtain ⟨g3, eg3⟩ : ∃ z : Nat → va_E, z = va_up g2 k (.inr (5, [.ref (b + n), .ref (b + (n + 1)), .ref (b + (n + 54)), .ref (b + (n + 56)), .ref (b + (n + 58)), .null, .null, .null, .int 0, .int 0, .int 0, .int 0, .int 0])) := ⟨_, rfl⟩
  rw [← eg3] at hP
  have hg : g3 k = .inr (5, [.ref (b + n), .ref (b + (n + 1)), .ref (b + (n + 54)), .ref (b + (n + 56)), .ref (b + (n + 58)), .null, .null, .null, .int 0, .int 0, .int 0, .int 0, .int 0]) := by rw [eg3]; exact va_up_self _ _ _
  subst eg3
  subst eg2
  subst eg1
  exact kk H locs hP hz hS
theorem gt5_3 (E : mk_E) (b n k : Nat) (A : Nat → va_E) : gs5_3 E b n k A k = .inr (5, [.ref (b + n), .ref (b + (n + 1)), .ref (b + (n + 54)), .ref (b + (n + 56)), .ref (b + (n + 58)), .null, .null, .null, .int 0, .int 0, .int 0, .int 0, .int 0]) := va_up_self _ _ _
def gs5_4 (E : mk_E) (b n k : Nat) (A : Nat → va_E) : Nat → va_E := (va_up (gg_X2_init E b (n + 61) (n + 60) (va_up A (n + 60) (.inr (2, [.null, .null, .int 0, .int 0])))) k (.inr (5, [.ref (b + n), .ref (b + (n + 1)), .ref (b + (n + 54)), .ref (b + (n + 56)), .ref (b + (n + 58)), .ref (b + (n + 60)), .null, .null, .int 0, .int 0, .int 0, .int 0, .int 0])))
set_option maxHeartbeats 8000000 in
set_option maxRecDepth 100000 in
theorem sg5_4 {p : Program} {l : Launch} {e : Env} {s : State} {m : MethodId} {args : Array Value} {below : List Frame} {meth : Method} {c : Code} {D : va_G} {E : mk_E} {Q : State → Prop} {b n k : Nat} {ls : Array Slot} (hx : p.tables.exec = Jvm.exec) (hb : c.code = cX5_init) (hml : c.maxLocals = 1) (hown : s.vm.findClass RX5 = some m.cls) (hts : ∀ w ∈ wsX5_init, w.before args s = true) (hin : meth.name = "<init>") (hK : va_K D vwCl (mk_tys E) s) (hN : mk_Nst s) (hO : va_AO "MixedKernel$Task" s) (hk : k < n) (hl : lv_has ls 1 [(0, .ref (b + k))]) (A : Nat → va_E) (hg : A k = .inr (5, [.ref (b + n), .ref (b + (n + 1)), .ref (b + (n + 54)), .ref (b + (n + 56)), .ref (b + (n + 58)), .null, .null, .null, .int 0, .int 0, .int 0, .int 0, .int 0])) {H : Heap} {locs : List Loc} (hP : va_P D vwCl (ct_w b (n + 60) A) H) (hz : H.size = b + (n + 60)) (hS : va_S (ct_A b) s.heap H locs) (kk : ∀ (H : Heap) (locs : List Loc), va_P D vwCl (ct_w b (n + 63) (gs5_4 E b n k A)) H → H.size = b + (n + 63) → va_S (ct_A b) s.heap H locs → W p l e rm_X5_init s m args below meth c H locs 63 578 Q (F0 m 70 ls [])) : W p l e rm_X5_init s m args below meth c H locs 60 550 Q (F0 m 59 ls []) := by
  refine lv_aload_n hx hb dX5_init_59 rfl (lv_at hl 0 rfl) ?_
  refine ct_new (ci := 2) (fs := [.null, .null, .int 0, .int 0]) (C := RX2) (T := TX2) (N := 4) hx hb hts in_X5_init_X2 tyX2 tyX2_ok hown (hts (.classLink RX5 36 RX2) (by decide +kernel)) (hts (.instantiable RX2 4) (by decide +kernel)) (hts (.initialized RX2) (by decide +kernel)) hK hP hz hS rfl (by decide) (Nat.le_of_ble_eq_true rfl) (Nat.le_of_ble_eq_true rfl) dX5_init_60 (fun H hP hz hS => ?_)
  replace hP : va_P D vwCl (ct_w b (n + 61) (va_up A (n + 60) (.inr (2, [.null, .null, .int 0, .int 0])))) H := hP
  replace hz : H.size = b + (n + 61) := hz
  obtain ⟨g1, eg1⟩ : ∃ z : Nat → va_E, z = va_up A (n + 60) (.inr (2, [.null, .null, .int 0, .int 0])) := ⟨_, rfl⟩
  rw [← eg1] at hP
  have hg : g1 k = .inr (5, [.ref (b + n), .ref (b + (n + 1)), .ref (b + (n + 54)), .ref (b + (n + 56)), .ref (b + (n + 58)), .null, .null, .null, .int 0, .int 0, .int 0, .int 0, .int 0]) := by rw [eg1, va_up_ne _ _ (by omega)]; exact hg
  refine lv_dup hx hb dX5_init_63 rfl ?_
  refine va_callv (va_runIN (As := []) (rest := [.ref (b + (n + 60)), .ref (b + k)]) ⟨hx, hb, hml, hown, hts⟩ (c_X2_init l D E b (n + 61) g1 (n + 60) (by omega) (by rw [eg1]; exact va_up_self _ _ _)) ⟨va_cnB 0 hts ggX5_init_X2_init rfl rfl rfl (hN (.methodLinkNest "MixedKernel" 38 ⟨"MixedKernel$Refusal", "<init>", "()V"⟩ "MixedKernel") (by decide +kernel)) (hts (.initialized RX2) (by decide +kernel)) (by decide +kernel) ⟨Nat.le_of_ble_eq_true rfl, Nat.le_of_ble_eq_true rfl⟩, rfl, hts (.instanceMethod yX2_init) (by decide +kernel)⟩ ⟨ct_W.blind, fun U hU hW => ⟨rfl, ct_W.at hU hW hP hz hK hN hO⟩⟩ rfl rfl hl.1 rfl (lv_room (Nat.le_of_ble_eq_true rfl)) dX5_init_64 ⟨Nat.le_of_ble_eq_true rfl, Nat.le_of_ble_eq_true rfl⟩) hS (fun q _ h => h) (fun q h => h) (fun u t H1 locs ht hvm hw hB hz1 hk1 hS => ?_)
  obtain ⟨hP2, hz2⟩ := hB
  rw [ht] at hP2 hz2
  replace hP := hP2
  replace hz := hz2
  clear hP2 hz2 hz1 hk1 hvm ht
  generalize H1 = H at hP hz hS ⊢
  obtain ⟨g2, eg2⟩ : ∃ z : Nat → va_E, z = gg_X2_init E b (n + 61) (n + 60) g1 := ⟨_, rfl⟩
  rw [← eg2] at hP
  have hg : g2 k = .inr (5, [.ref (b + n), .ref (b + (n + 1)), .ref (b + (n + 54)), .ref (b + (n + 56)), .ref (b + (n + 58)), .null, .null, .null, .int 0, .int 0, .int 0, .int 0, .int 0]) := by rw [eg2, gk_X2_init E b (n + 61) (n + 60) g1 (by omega) (by omega)]; exact hg
  refine ct_putF (v := .ref (b + (n + 60))) (ty := .object "MixedKernel$Refusal") (C := RX5) (T := TX5) (N := 13) hx hb hts in_X5_init_X5 tyX5 tyX5_ok nmX5 hown hK hP hz hS (k := k) (by omega) hg rfl 5 (by decide) (hts (.fieldLink RX5 39 "MixedKernel" "refusal" "LMixedKernel$Refusal;") (by decide +kernel)) rfl hin rfl (by decide +kernel) rfl rfl (Nat.le_of_ble_eq_true rfl) dX5_init_67 (fun H locs hP hz hS => ?_)
  replace hP : va_P D vwCl (ct_w b (n + 63) (va_up g2 k (.inr (5, [.ref (b + n), .ref (b + (n + 1)), .ref (b + (n + 54)), .ref (b + (n + 56)), .ref (b + (n + 58)), .ref (b + (n + 60)), .null, .null, .int 0, .int 0, .int 0, .int 0, .int 0])))) H := hP
  replace hz : H.size = b + (n + 63) := hz
  obtain ⟨g3, eg3⟩ : ∃ z : Nat → va_E, z = va_up g2 k (.inr (5, [.ref (b + n), .ref (b + (n + 1)), .ref (b + (n + 54)), .ref (b + (n + 56)), .ref (b + (n + 58)), .ref (b + (n + 60)), .null, .null, .int 0, .int 0, .int 0, .int 0, .int 0])) := ⟨_, rfl⟩
  rw [← eg3] at hP
  have hg : g3 k = .inr (5, [.ref (b + n), .ref (b + (n + 1)), .ref (b + (n + 54)), .ref (b + (n + 56)), .ref (b + (n + 58)), .ref (b + (n + 60)), .null, .null, .int 0, .int 0, .int 0, .int 0, .int 0]) := by rw [eg3]; exact va_up_self _ _ _
  subst eg3
  subst eg2
  subst eg1
  exact kk H locs hP hz hS
theorem gt5_4 (E : mk_E) (b n k : Nat) (A : Nat → va_E) : gs5_4 E b n k A k = .inr (5, [.ref (b + n), .ref (b + (n + 1)), .ref (b + (n + 54)), .ref (b + (n + 56)), .ref (b + (n + 58)), .ref (b + (n + 60)), .null, .null, .int 0, .int 0, .int 0, .int 0, .int 0]) := va_up_self _ _ _
def gs5_5 (E : mk_E) (b n k : Nat) (A : Nat → va_E) : Nat → va_E := (va_up (gg_X0_init E b 256 (n + 64) (n + 63) (va_up A (n + 63) (.inr (0, [.null, .int 0])))) k (.inr (5, [.ref (b + n), .ref (b + (n + 1)), .ref (b + (n + 54)), .ref (b + (n + 56)), .ref (b + (n + 58)), .ref (b + (n + 60)), .ref (b + (n + 63)), .null, .int 0, .int 0, .int 0, .int 0, .int 0])))
set_option maxHeartbeats 8000000 in
set_option maxRecDepth 100000 in
theorem sg5_5 {p : Program} {l : Launch} {e : Env} {s : State} {m : MethodId} {args : Array Value} {below : List Frame} {meth : Method} {c : Code} {D : va_G} {E : mk_E} {Q : State → Prop} {b n k : Nat} {ls : Array Slot} (hx : p.tables.exec = Jvm.exec) (hb : c.code = cX5_init) (hml : c.maxLocals = 1) (hown : s.vm.findClass RX5 = some m.cls) (hts : ∀ w ∈ wsX5_init, w.before args s = true) (hin : meth.name = "<init>") (hK : va_K D vwCl (mk_tys E) s) (hN : mk_Nst s) (hO : va_AO "MixedKernel$Task" s) (hk : k < n) (hl : lv_has ls 1 [(0, .ref (b + k))]) (A : Nat → va_E) (hg : A k = .inr (5, [.ref (b + n), .ref (b + (n + 1)), .ref (b + (n + 54)), .ref (b + (n + 56)), .ref (b + (n + 58)), .ref (b + (n + 60)), .null, .null, .int 0, .int 0, .int 0, .int 0, .int 0])) {H : Heap} {locs : List Loc} (hP : va_P D vwCl (ct_w b (n + 63) A) H) (hz : H.size = b + (n + 63)) (hS : va_S (ct_A b) s.heap H locs) (kk : ∀ (H : Heap) (locs : List Loc), va_P D vwCl (ct_w b (n + 65) (gs5_5 E b n k A)) H → H.size = b + (n + 65) → va_S (ct_A b) s.heap H locs → W p l e rm_X5_init s m args below meth c H locs 65 836 Q (F0 m 84 ls [])) : W p l e rm_X5_init s m args below meth c H locs 63 578 Q (F0 m 70 ls []) := by
  refine lv_aload_n hx hb dX5_init_70 rfl (lv_at hl 0 rfl) ?_
  refine ct_new (ci := 0) (fs := [.null, .int 0]) (C := RX0) (T := TX0) (N := 2) hx hb hts in_X5_init_X0 tyX0 tyX0_ok hown (hts (.classLink RX5 43 RX0) (by decide +kernel)) (hts (.instantiable RX0 2) (by decide +kernel)) (hts (.initialized RX0) (by decide +kernel)) hK hP hz hS rfl (by decide) (Nat.le_of_ble_eq_true rfl) (Nat.le_of_ble_eq_true rfl) dX5_init_71 (fun H hP hz hS => ?_)
  replace hP : va_P D vwCl (ct_w b (n + 64) (va_up A (n + 63) (.inr (0, [.null, .int 0])))) H := hP
  replace hz : H.size = b + (n + 64) := hz
  obtain ⟨g1, eg1⟩ : ∃ z : Nat → va_E, z = va_up A (n + 63) (.inr (0, [.null, .int 0])) := ⟨_, rfl⟩
  rw [← eg1] at hP
  have hg : g1 k = .inr (5, [.ref (b + n), .ref (b + (n + 1)), .ref (b + (n + 54)), .ref (b + (n + 56)), .ref (b + (n + 58)), .ref (b + (n + 60)), .null, .null, .int 0, .int 0, .int 0, .int 0, .int 0]) := by rw [eg1, va_up_ne _ _ (by omega)]; exact hg
  refine lv_dup hx hb dX5_init_74 rfl ?_
  refine lv_sipush (v := 256) hx hb dX5_init_75 (by decide) ?_
  refine va_callv (va_runI (As := [.int 256]) (rest := [.ref (b + (n + 63)), .ref (b + k)]) ⟨hx, hb, hml, hown, hts⟩ (c_X0_init l D E b 256 256 (n + 64) g1 (n + 63) (by omega) (by rw [eg1]; exact va_up_self _ _ _) (by decide) (by decide) (by decide)) (cwI 1 hts ggX5_init_X0_init rfl rfl rfl (hts (.initialized RX0) (by decide +kernel)) (hts (.methodLink RX5 45 yX0_init) (by decide +kernel)) (hts (.instanceMethod yX0_init) (by decide +kernel)) rfl (by decide +kernel) ⟨Nat.le_of_ble_eq_true rfl, Nat.le_of_ble_eq_true rfl⟩) ⟨ct_W.blind, fun U hU hW => ⟨rfl, ct_W.at hU hW hP hz hK hN hO⟩⟩ rfl rfl hl.1 rfl (lv_room (Nat.le_of_ble_eq_true rfl)) dX5_init_78 ⟨Nat.le_of_ble_eq_true rfl, Nat.le_of_ble_eq_true rfl⟩) hS (fun q _ h => h) (fun q h => h) (fun u t H1 locs ht hvm hw hB hz1 hk1 hS => ?_)
  obtain ⟨hP2, hz2⟩ := hB
  rw [ht] at hP2 hz2
  replace hP := hP2
  replace hz := hz2
  clear hP2 hz2 hz1 hk1 hvm ht
  generalize H1 = H at hP hz hS ⊢
  obtain ⟨g2, eg2⟩ : ∃ z : Nat → va_E, z = gg_X0_init E b 256 (n + 64) (n + 63) g1 := ⟨_, rfl⟩
  rw [← eg2] at hP
  have hg : g2 k = .inr (5, [.ref (b + n), .ref (b + (n + 1)), .ref (b + (n + 54)), .ref (b + (n + 56)), .ref (b + (n + 58)), .ref (b + (n + 60)), .null, .null, .int 0, .int 0, .int 0, .int 0, .int 0]) := by rw [eg2, gk_X0_init E b 256 (n + 64) (n + 63) g1 (by omega) (by omega)]; exact hg
  refine ct_putF (v := .ref (b + (n + 63))) (ty := .object "MixedKernel$Latest") (C := RX5) (T := TX5) (N := 13) hx hb hts in_X5_init_X5 tyX5 tyX5_ok nmX5 hown hK hP hz hS (k := k) (by omega) hg rfl 6 (by decide) (hts (.fieldLink RX5 48 "MixedKernel" "ran" "LMixedKernel$Latest;") (by decide +kernel)) rfl hin rfl (by decide +kernel) rfl rfl (Nat.le_of_ble_eq_true rfl) dX5_init_81 (fun H locs hP hz hS => ?_)
  replace hP : va_P D vwCl (ct_w b (n + 65) (va_up g2 k (.inr (5, [.ref (b + n), .ref (b + (n + 1)), .ref (b + (n + 54)), .ref (b + (n + 56)), .ref (b + (n + 58)), .ref (b + (n + 60)), .ref (b + (n + 63)), .null, .int 0, .int 0, .int 0, .int 0, .int 0])))) H := hP
  replace hz : H.size = b + (n + 65) := hz
  obtain ⟨g3, eg3⟩ : ∃ z : Nat → va_E, z = va_up g2 k (.inr (5, [.ref (b + n), .ref (b + (n + 1)), .ref (b + (n + 54)), .ref (b + (n + 56)), .ref (b + (n + 58)), .ref (b + (n + 60)), .ref (b + (n + 63)), .null, .int 0, .int 0, .int 0, .int 0, .int 0])) := ⟨_, rfl⟩
  rw [← eg3] at hP
  have hg : g3 k = .inr (5, [.ref (b + n), .ref (b + (n + 1)), .ref (b + (n + 54)), .ref (b + (n + 56)), .ref (b + (n + 58)), .ref (b + (n + 60)), .ref (b + (n + 63)), .null, .int 0, .int 0, .int 0, .int 0, .int 0]) := by rw [eg3]; exact va_up_self _ _ _
  subst eg3
  subst eg2
  subst eg1
  exact kk H locs hP hz hS
theorem gt5_5 (E : mk_E) (b n k : Nat) (A : Nat → va_E) : gs5_5 E b n k A k = .inr (5, [.ref (b + n), .ref (b + (n + 1)), .ref (b + (n + 54)), .ref (b + (n + 56)), .ref (b + (n + 58)), .ref (b + (n + 60)), .ref (b + (n + 63)), .null, .int 0, .int 0, .int 0, .int 0, .int 0]) := va_up_self _ _ _
def gs5_6 (E : mk_E) (b n k : Nat) (A : Nat → va_E) : Nat → va_E := (va_up (gg_X0_init E b 8 (n + 66) (n + 65) (va_up A (n + 65) (.inr (0, [.null, .int 0])))) k (.inr (5, [.ref (b + n), .ref (b + (n + 1)), .ref (b + (n + 54)), .ref (b + (n + 56)), .ref (b + (n + 58)), .ref (b + (n + 60)), .ref (b + (n + 63)), .ref (b + (n + 65)), .int 0, .int 0, .int 0, .int 0, .int 0])))
set_option maxHeartbeats 8000000 in
set_option maxRecDepth 100000 in
theorem sg5_6 {p : Program} {l : Launch} {e : Env} {s : State} {m : MethodId} {args : Array Value} {below : List Frame} {meth : Method} {c : Code} {D : va_G} {E : mk_E} {Q : State → Prop} {b n k : Nat} {ls : Array Slot} (hx : p.tables.exec = Jvm.exec) (hb : c.code = cX5_init) (hml : c.maxLocals = 1) (hown : s.vm.findClass RX5 = some m.cls) (hts : ∀ w ∈ wsX5_init, w.before args s = true) (hin : meth.name = "<init>") (hK : va_K D vwCl (mk_tys E) s) (hN : mk_Nst s) (hO : va_AO "MixedKernel$Task" s) (hk : k < n) (hl : lv_has ls 1 [(0, .ref (b + k))]) (A : Nat → va_E) (hg : A k = .inr (5, [.ref (b + n), .ref (b + (n + 1)), .ref (b + (n + 54)), .ref (b + (n + 56)), .ref (b + (n + 58)), .ref (b + (n + 60)), .ref (b + (n + 63)), .null, .int 0, .int 0, .int 0, .int 0, .int 0])) {H : Heap} {locs : List Loc} (hP : va_P D vwCl (ct_w b (n + 65) A) H) (hz : H.size = b + (n + 65)) (hS : va_S (ct_A b) s.heap H locs) (kk : ∀ (H : Heap) (locs : List Loc), va_P D vwCl (ct_w b (n + 67) (gs5_6 E b n k A)) H → H.size = b + (n + 67) → va_S (ct_A b) s.heap H locs → W p l e rm_X5_init s m args below meth c H locs 67 846 Q (F0 m 97 ls [])) : W p l e rm_X5_init s m args below meth c H locs 65 836 Q (F0 m 84 ls []) := by
  refine lv_aload_n hx hb dX5_init_84 rfl (lv_at hl 0 rfl) ?_
  refine ct_new (ci := 0) (fs := [.null, .int 0]) (C := RX0) (T := TX0) (N := 2) hx hb hts in_X5_init_X0 tyX0 tyX0_ok hown (hts (.classLink RX5 43 RX0) (by decide +kernel)) (hts (.instantiable RX0 2) (by decide +kernel)) (hts (.initialized RX0) (by decide +kernel)) hK hP hz hS rfl (by decide) (Nat.le_of_ble_eq_true rfl) (Nat.le_of_ble_eq_true rfl) dX5_init_85 (fun H hP hz hS => ?_)
  replace hP : va_P D vwCl (ct_w b (n + 66) (va_up A (n + 65) (.inr (0, [.null, .int 0])))) H := hP
  replace hz : H.size = b + (n + 66) := hz
  obtain ⟨g1, eg1⟩ : ∃ z : Nat → va_E, z = va_up A (n + 65) (.inr (0, [.null, .int 0])) := ⟨_, rfl⟩
  rw [← eg1] at hP
  have hg : g1 k = .inr (5, [.ref (b + n), .ref (b + (n + 1)), .ref (b + (n + 54)), .ref (b + (n + 56)), .ref (b + (n + 58)), .ref (b + (n + 60)), .ref (b + (n + 63)), .null, .int 0, .int 0, .int 0, .int 0, .int 0]) := by rw [eg1, va_up_ne _ _ (by omega)]; exact hg
  refine lv_dup hx hb dX5_init_88 rfl ?_
  refine lv_bipush (v := 8) hx hb dX5_init_89 (by decide) ?_
  refine va_callv (va_runI (As := [.int 8]) (rest := [.ref (b + (n + 65)), .ref (b + k)]) ⟨hx, hb, hml, hown, hts⟩ (c_X0_init l D E b 8 8 (n + 66) g1 (n + 65) (by omega) (by rw [eg1]; exact va_up_self _ _ _) (by decide) (by decide) (by decide)) (cwI 1 hts ggX5_init_X0_init rfl rfl rfl (hts (.initialized RX0) (by decide +kernel)) (hts (.methodLink RX5 45 yX0_init) (by decide +kernel)) (hts (.instanceMethod yX0_init) (by decide +kernel)) rfl (by decide +kernel) ⟨Nat.le_of_ble_eq_true rfl, Nat.le_of_ble_eq_true rfl⟩) ⟨ct_W.blind, fun U hU hW => ⟨rfl, ct_W.at hU hW hP hz hK hN hO⟩⟩ rfl rfl hl.1 rfl (lv_room (Nat.le_of_ble_eq_true rfl)) dX5_init_91 ⟨Nat.le_of_ble_eq_true rfl, Nat.le_of_ble_eq_true rfl⟩) hS (fun q _ h => h) (fun q h => h) (fun u t H1 locs ht hvm hw hB hz1 hk1 hS => ?_)
  obtain ⟨hP2, hz2⟩ := hB
  rw [ht] at hP2 hz2
  replace hP := hP2
  replace hz := hz2
  clear hP2 hz2 hz1 hk1 hvm ht
  generalize H1 = H at hP hz hS ⊢
  obtain ⟨g2, eg2⟩ : ∃ z : Nat → va_E, z = gg_X0_init E b 8 (n + 66) (n + 65) g1 := ⟨_, rfl⟩
  rw [← eg2] at hP
  have hg : g2 k = .inr (5, [.ref (b + n), .ref (b + (n + 1)), .ref (b + (n + 54)), .ref (b + (n + 56)), .ref (b + (n + 58)), .ref (b + (n + 60)), .ref (b + (n + 63)), .null, .int 0, .int 0, .int 0, .int 0, .int 0]) := by rw [eg2, gk_X0_init E b 8 (n + 66) (n + 65) g1 (by omega) (by omega)]; exact hg
  refine ct_putF (v := .ref (b + (n + 65))) (ty := .object "MixedKernel$Latest") (C := RX5) (T := TX5) (N := 13) hx hb hts in_X5_init_X5 tyX5 tyX5_ok nmX5 hown hK hP hz hS (k := k) (by omega) hg rfl 7 (by decide) (hts (.fieldLink RX5 52 "MixedKernel" "changes" "LMixedKernel$Latest;") (by decide +kernel)) rfl hin rfl (by decide +kernel) rfl rfl (Nat.le_of_ble_eq_true rfl) dX5_init_94 (fun H locs hP hz hS => ?_)
  replace hP : va_P D vwCl (ct_w b (n + 67) (va_up g2 k (.inr (5, [.ref (b + n), .ref (b + (n + 1)), .ref (b + (n + 54)), .ref (b + (n + 56)), .ref (b + (n + 58)), .ref (b + (n + 60)), .ref (b + (n + 63)), .ref (b + (n + 65)), .int 0, .int 0, .int 0, .int 0, .int 0])))) H := hP
  replace hz : H.size = b + (n + 67) := hz
  obtain ⟨g3, eg3⟩ : ∃ z : Nat → va_E, z = va_up g2 k (.inr (5, [.ref (b + n), .ref (b + (n + 1)), .ref (b + (n + 54)), .ref (b + (n + 56)), .ref (b + (n + 58)), .ref (b + (n + 60)), .ref (b + (n + 63)), .ref (b + (n + 65)), .int 0, .int 0, .int 0, .int 0, .int 0])) := ⟨_, rfl⟩
  rw [← eg3] at hP
  have hg : g3 k = .inr (5, [.ref (b + n), .ref (b + (n + 1)), .ref (b + (n + 54)), .ref (b + (n + 56)), .ref (b + (n + 58)), .ref (b + (n + 60)), .ref (b + (n + 63)), .ref (b + (n + 65)), .int 0, .int 0, .int 0, .int 0, .int 0]) := by rw [eg3]; exact va_up_self _ _ _
  subst eg3
  subst eg2
  subst eg1
  exact kk H locs hP hz hS
theorem gt5_6 (E : mk_E) (b n k : Nat) (A : Nat → va_E) : gs5_6 E b n k A k = .inr (5, [.ref (b + n), .ref (b + (n + 1)), .ref (b + (n + 54)), .ref (b + (n + 56)), .ref (b + (n + 58)), .ref (b + (n + 60)), .ref (b + (n + 63)), .ref (b + (n + 65)), .int 0, .int 0, .int 0, .int 0, .int 0]) := va_up_self _ _ _
def gg_X5_init (E : mk_E) (b : Nat) (n k : Nat) (g : Nat → va_E) : Nat → va_E := (gs5_6 E b n k (gs5_5 E b n k (gs5_4 E b n k (gs5_3 E b n k (gs5_2 E b n k (gs5_1 E b n k (gs5_0 E b n k g)))))))
set_option maxHeartbeats 8000000 in
set_option maxRecDepth 100000 in
theorem c_X5_init (l : Launch) (D : va_G) (E : mk_E) (b : Nat) (n : Nat) (g : Nat → va_E) (k : Nat) (hk : k < n) (hg : g k = .inr (5, [.null, .null, .null, .null, .null, .null, .null, .null, .int 0, .int 0, .int 0, .int 0, .int 0])) : Met l yX5_init wsX5_init rm_X5_init (va_Pc [.ref (b + k)] (ct_W D E b n g)) (ct_Q D b (n + 67) (gg_X5_init E b n k g)) 67 846 (ct_A b) := by
  refine Met.ofW (cc := cX5_init) (maxL := 1) (ret := none) (by decide) rfl ?_
  intro p e s m args below meth c s₁ B hml hv
  obtain ⟨rfl, hP, hz, hK, hN, hO⟩ := hv
  have hx := B.exec
  have hb := B.bytes
  have hr := B.returns
  have hts := atoms_spec (ws := wsX5_init) B.pre
  have hown : s.vm.findClass RX5 = some m.cls := findClass_of_methodNamed B.named
  have hlk := B.notSynchronized
  have hin : meth.name = "<init>" := (name_of_methodNamed B.named B.method).1
  have hS : va_S (ct_A b) s.heap s.heap [] := va_S.rf
  have hl := lv_entry ([.ref (b + k)]) (n := 1) (Nat.le_of_ble_eq_true rfl)
  rw [lg_entry_eq]
  generalize (lg_sl ([.ref (b + k)]) ++ List.replicate (1 - (lg_sl ([.ref (b + k)])).length) Slot.unset).toArray = ls at hl ⊢
  have hl : lv_has ls 1 [(0, .ref (b + k))] := hl
  refine lv_aload_n hx hb dX5_init_0 rfl (lv_at hl 0 rfl) ?_
  refine W.objInit hx hb hown (hts (.methodLink RX5 3 objectInit) (by decide +kernel)) (hts (.instanceMethod objectInit) (by decide +kernel)) (hts (.code objectInit ⟨#[0xb1]⟩ 1 none) (by decide +kernel)) rfl (by rw [hml]; exact hl.1) rfl dX5_init_1 (Nat.le_of_ble_eq_true rfl) (Nat.le_of_ble_eq_true rfl) ?_
  refine W.eq (g2 := F0 m 4 ls []) rfl ?_
  refine sg5_0 hx hb hml hown hts hin hK hN hO hk hl _ hg hP hz hS (fun H locs hP hz hS => ?_)
  refine sg5_1 hx hb hml hown hts hin hK hN hO hk hl _ (gt5_0 E b n k _) hP hz hS (fun H locs hP hz hS => ?_)
  refine sg5_2 hx hb hml hown hts hin hK hN hO hk hl _ (gt5_1 E b n k _) hP hz hS (fun H locs hP hz hS => ?_)
  refine sg5_3 hx hb hml hown hts hin hK hN hO hk hl _ (gt5_2 E b n k _) hP hz hS (fun H locs hP hz hS => ?_)
  refine sg5_4 hx hb hml hown hts hin hK hN hO hk hl _ (gt5_3 E b n k _) hP hz hS (fun H locs hP hz hS => ?_)
  refine sg5_5 hx hb hml hown hts hin hK hN hO hk hl _ (gt5_4 E b n k _) hP hz hS (fun H locs hP hz hS => ?_)
  refine sg5_6 hx hb hml hown hts hin hK hN hO hk hl _ (gt5_5 E b n k _) hP hz hS (fun H locs hP hz hS => ?_)
  exact W.vret hx hb hr (fun t ht hW => ⟨⟨(), rfl, trivial, by rw [← ht] at hP; exact hP, by rw [ht]; exact hz⟩, hS.F ht⟩) hS.2.2 dX5_init_97
