/-! TaskSet(): the row of the tasks, and thirteen tasks -/
section CTA
variable {p : Program} {l : Launch} {e : Env} {R : Room} {s : State} {m : MethodId} {args : Array Value} {below : List Frame} {meth : Method} {c : Code} {H : Heap} {locs : List Loc} {cells slots : Nat} {Q : State → Prop}
variable {cc : ByteArray} {pc : Nat} {ls : Array Slot} {rest : List Value} {D : va_G} {E : mk_E} {H0 : Heap} {b n : Nat} {g : Nat → va_E}
theorem ct_ast (hx : p.tables.exec = Jvm.exec) (hb : c.code = cc) (hK : va_K D vwCl (mk_tys E) s) (hP : va_P D vwCl (ct_w b n g) H) (hz : H.size = b + n) (hS : va_S (ct_A b) H0 H locs) {i0 k0 : Nat} (hi0 : i0 < n) (hk0 : k0 < n) {f : Nat → Option Nat} (hg0 : g i0 = .inl (E.2.2.2.1, 13, .inr (.inr (.inr (.inr f))))) {vs : List Value} (hv : g k0 = .inr (3, vs)) {i : Int32} (hin : vp_in i 13) (hdg : decode cc pc = .ok (.aastore, 1))
    (kk : ∀ (H1 : Heap) (locs1 : List Loc), va_P D vwCl (ct_w b n (va_up g i0 (.inl (E.2.2.2.1, 13, .inr (.inr (.inr (.inr (va_up f i.toNatClampNeg (some (b + k0)))))))))) H1 → H1.size = b + n → va_S (ct_A b) H0 H1 locs1 → W p l e R s m args below meth c H1 locs1 cells slots Q (F0 m (pc + 1) ls rest)) : W p l e R s m args below meth c H locs cells slots Q (F0 m pc ls (.ref (b + k0) :: .int i :: .ref (b + i0) :: rest)) := by
  have ha : (ct_w b n g)[i0]? = some (b + i0, .inl (E.2.2.2.1, 13, .inr (.inr (.inr (.inr f))))) := by rw [ct_get hi0, hg0]
  have hv' : (ct_w b n g)[k0]? = some (b + k0, .inr (3, vs)) := by rw [ct_get hk0, hv]
  have hc : vwCl[3]? = some (RX3, TX3, 14) := rfl
  have ht : (mk_tys E)[2]? = some (E.2.2.2.1, .object RX3) := rfl
  have hlt : i.toNatClampNeg < 13 := Nat.not_le.mp fun q => hin (Or.inr q)
  have h0 : ¬ i < 0 := fun q => hin (Or.inl q)
  obtain ⟨r', hr', cellV, g1, g2, g3, -⟩ := hP k0 _ hv'
  have hcls := (hK.1 3 _ hc).2
  obtain ⟨kA, comp, k1, k2, k3, -⟩ := (hK.2 2 _ ht).2
  have hcomp : comp = D.1 3 := Option.some.inj (k3.symm.trans hcls.1)
  subst hcomp
  obtain ⟨kC, hkC, -⟩ := hcls.2
  refine W.aast hx hb (hP i0 _ ha) (fun q h => by cases h) (fun h => by cases h) k1 k2 rfl hkC ⟨h0, by show _ < (arrV _ _ _).slots.size; rw [arrV_size]; exact hlt⟩ g1 (fun q h => by rw [g3] at h; cases h) (by rw [g2]; exact hkC) (by rw [g2]; exact va_assign hcls) rfl rfl hdg fun H1 e z oq => ?_
  have hP1 : va_P D vwCl ((ct_w b n g).set i0 (b + i0, .inl (E.2.2.2.1, 13, .inr (.inr (.inr (.inr (va_up f i.toNatClampNeg (some (b + k0)))))))))  H1 := by
    refine hP.set (ct_D b n g) ha ?_ oq
    show H1[b + i0]? = some (vp_cell _ _)
    rw [e]
    rw [vp_cell_q, vp_cell_q, arrV_store]
    congr 2
    funext q
    by_cases hq : q = i.toNatClampNeg
    · subst hq
      simp [updV, va_up, va_rf]
    · simp [updV, va_up, hq]
  rw [ct_set hi0] at hP1
  exact kk H1 _ hP1 (by rw [z]; exact hz) (hS.put z oq (Nat.le_add_right _ _))
end CTA
abbrev rm_X4_init : Room := { frames := 2, cells := 53, slots := 507, locals := 40 }
theorem in_X4_init_X4 : ∀ w ∈ wsX40, w ∈ wsX4_init := by decide +kernel
theorem in_X4_init_X3 : ∀ w ∈ wsX30, w ∈ wsX4_init := by decide +kernel
/-- the tasks' row with i of them -/
def ct_row (b n i : Nat) : Nat → Option Nat := fun j => if j < i then some (b + (n + 1 + 4 * j)) else none
theorem ct_row_s (b n i : Nat) : va_up (ct_row b n i) i (some (b + (n + 1 + 4 * i))) = ct_row b n (i + 1) := by
  funext j
  by_cases h : j = i
  · subst h; rw [va_up_self]; simp [ct_row]
  · rw [va_up_ne _ _ h]
    by_cases h1 : j < i
    · simp [ct_row, h1, Nat.lt_succ_of_lt h1]
    · simp [ct_row, h1, show ¬ j < i + 1 by omega]
def ct_fr3 : List Value := [.int 0, .int 0, .int 0, .int 0, .int 0, .int 0, .int 0, .int 0, .int 0, .int 0, .int 0, .null, .null, .null]
/-- the world of TaskSet() with i tasks made -/
def ct_G4 (E : mk_E) (b n k : Nat) (g : Nat → va_E) : Nat → Nat → va_E
  | 0 => va_up (va_up g n (.inl (E.2.2.2.1, 13, .inr (.inr (.inr (.inr (ct_row b n 0))))))) k (.inr (4, [.ref (b + n)]))
  | i + 1 => va_up (gg_X3_init E b (n + 1 + 4 * i + 1) (n + 1 + 4 * i) (va_up (ct_G4 E b n k g i) (n + 1 + 4 * i) (.inr (3, ct_fr3)))) n (.inl (E.2.2.2.1, 13, .inr (.inr (.inr (.inr (ct_row b n (i + 1)))))))
theorem ct_G4_n (E : mk_E) (b n k : Nat) (g : Nat → va_E) (hk : k < n) (i : Nat) : ct_G4 E b n k g i n = .inl (E.2.2.2.1, 13, .inr (.inr (.inr (.inr (ct_row b n i))))) := by
  cases i with
  | zero => show va_up _ k _ n = _; rw [va_up_ne _ _ (by omega), va_up_self]
  | succ i => show va_up _ n _ n = _; rw [va_up_self]
theorem ct_G4_k (E : mk_E) (b n k : Nat) (g : Nat → va_E) (hk : k < n) (i : Nat) : ct_G4 E b n k g i k = .inr (4, [.ref (b + n)]) := by
  induction i with
  | zero => show va_up _ k _ k = _; rw [va_up_self]
  | succ i ih =>
    show va_up _ n _ k = _
    rw [va_up_ne _ _ (by omega), gk_X3_init E b _ _ _ (by omega) (by omega), va_up_ne _ _ (by omega)]
    exact ih
theorem ct_G4_x (E : mk_E) (b n k : Nat) (g : Nat → va_E) {x : Nat} (h1 : x < n) (h2 : x ≠ k) (i : Nat) : ct_G4 E b n k g i x = g x := by
  induction i with
  | zero => show va_up _ k _ x = _; rw [va_up_ne _ _ h2, va_up_ne _ _ (by omega)]
  | succ i ih =>
    show va_up _ n _ x = _
    rw [va_up_ne _ _ (by omega), gk_X3_init E b _ _ _ (by omega) (by omega), va_up_ne _ _ (by omega)]
    exact ih
set_option maxHeartbeats 8000000 in
set_option maxRecDepth 100000 in
theorem lp_X4_init {p : Program} {l : Launch} {e : Env} {s : State} {m : MethodId} {args : Array Value} {below : List Frame} {meth : Method} {c : Code} {D : va_G} {E : mk_E} {b n k : Nat} {g : Nat → va_E} (hx : p.tables.exec = Jvm.exec) (hb : c.code = cX4_init) (hml : c.maxLocals = 2) (hown : s.vm.findClass RX4 = some m.cls) (hts : ∀ w ∈ wsX4_init, w.before args s = true) (hr : meth.sig.returnType = none) (hlk : meth.locks = false) (hK : va_K D vwCl (mk_tys E) s) (hN : mk_Nst s) (hO : va_AO "MixedKernel$Task" s) (hk : k < n) :
    ∀ (d i : Nat), i + d = 13 → ∀ (H : Heap) (locs : List Loc) (ls : Array Slot), va_P D vwCl (ct_w b (n + 1 + 4 * i) (ct_G4 E b n k g i)) H → H.size = b + (n + 1 + 4 * i) → va_S (ct_A b) s.heap H locs → lv_has ls 2 [(0, .ref (b + k)), (1, .int (nI i))] → W p l e rm_X4_init s m args below meth c H locs (1 + 4 * i) (13 + 38 * i) (MQ below (ct_Q D b (n + 53) (ct_G4 E b n k g 13)) args s 53 507 (ct_A b)) (F0 m 15 ls []) := by
  intro d
  induction d with
  | zero =>
    intro i hi H locs ls hP hz hS hl
    have hi : i = 13 := by omega
    subst hi
    refine lv_iload_n hx hb dX4_init_15 rfl (lv_at hl 1 rfl) ?_
    refine lv_bipush (v := 12) hx hb dX4_init_16 (by decide) ?_
    refine lv_icmp_gt (tgt := 40) hx hb dX4_init_18 (by decide) (fun _ => ?_) (fun h => absurd (by decide) h)
    exact W.vret hx hb hr (fun t ht hW => ⟨⟨(), rfl, trivial, by rw [← ht] at hP; exact hP, by rw [ht]; exact hz⟩, hS.F ht⟩) hS.2.2 dX4_init_40
  | succ d ih =>
    intro i hi H locs ls hP hz hS hl
    have hi13 : i < 13 := by omega
    have hin13 : vp_in (nI i) 13 := vp_in_nI hi13 (by omega)
    have hcl : (nI i).toNatClampNeg = i := nI_clamp (by omega)
    refine lv_iload_n hx hb dX4_init_15 rfl (lv_at hl 1 rfl) ?_
    refine lv_bipush (v := 12) hx hb dX4_init_16 (by decide) ?_
    refine lv_icmp_gt (tgt := 40) hx hb dX4_init_18 (by decide) (fun h => absurd h (by rw [show (12 : Int32) = nI 12 from rfl, nI_ltI (by omega) (by omega)]; omega)) (fun _ => ?_)
    refine lv_aload_n hx hb dX4_init_21 rfl (lv_at hl 0 rfl) ?_
    refine va_get (D := D) (ci := 4) (v := .ref (b + n)) (C := RX4) (T := TX4) (N := 1) hx hb hts in_X4_init_X4 hown hK hP k (by rw [ct_get (by omega), ct_G4_k E b n k g hk i]) rfl 0 (by decide) (hts (.fieldLink RX4 11 "MixedKernel$TaskSet" "all" "[LMixedKernel$Task;") (by decide +kernel)) (fun _ h9 => h9) rfl dX4_init_22 ?_
    refine lv_iload_n hx hb dX4_init_25 rfl (lv_at hl 1 rfl) ?_
    refine ct_new (ci := 3) (fs := ct_fr3) (C := RX3) (T := TX3) (N := 14) hx hb hts in_X4_init_X3 tyX3 tyX3_ok hown (hts (.classLink RX4 9 RX3) (by decide +kernel)) (hts (.instantiable RX3 14) (by decide +kernel)) (hts (.initialized RX3) (by decide +kernel)) hK hP hz hS rfl (by decide) (by show 1 + 4 * i + 1 ≤ 53; omega) (by show 13 + 38 * i + 14 ≤ 507; omega) dX4_init_26 (fun H hP hz hS => ?_)
    refine lv_dup hx hb dX4_init_29 rfl ?_
    refine va_callv (va_runIN (As := []) (rest := [.ref (b + (n + 1 + 4 * i)), .int (nI i), .ref (b + n)]) ⟨hx, hb, hml, hown, hts⟩ (c_X3_init l D E b (n + 1 + 4 * i + 1) _ (n + 1 + 4 * i) (by omega) (va_up_self _ _ _)) ⟨va_cnB 0 hts ggX4_init_X3_init rfl rfl rfl (hN (.methodLinkNest "MixedKernel$TaskSet" 17 ⟨"MixedKernel$Task", "<init>", "()V"⟩ "MixedKernel") (by decide +kernel)) (hts (.initialized RX3) (by decide +kernel)) (by decide +kernel) ⟨Nat.le_of_ble_eq_true rfl, Nat.le_of_ble_eq_true rfl⟩, rfl, hts (.instanceMethod yX3_init) (by decide +kernel)⟩ ⟨ct_W.blind, fun U hU hW => ⟨rfl, ct_W.at hU hW hP hz hK hN hO⟩⟩ rfl rfl hl.1 rfl (lv_room (Nat.le_of_ble_eq_true rfl)) dX4_init_30 ⟨by show 1 + 4 * i + 1 + 3 ≤ 53; omega, by show 13 + 38 * i + 14 + 24 ≤ 507; omega⟩) hS (fun q _ h => h) (fun q h => h) (fun u t H1 locs ht hvm hw hB hz1 hk1 hS => ?_)
    obtain ⟨hP2, hz2⟩ := hB
    rw [ht] at hP2 hz2
    replace hP := hP2
    replace hz := hz2
    clear hP2 hz2 hz1 hk1 hvm ht
    generalize H1 = H at hP hz hS ⊢
    have hgn : gg_X3_init E b (n + 1 + 4 * i + 1) (n + 1 + 4 * i) (va_up (ct_G4 E b n k g i) (n + 1 + 4 * i) (.inr (3, ct_fr3))) n = .inl (E.2.2.2.1, 13, .inr (.inr (.inr (.inr (ct_row b n i))))) := by
      rw [gk_X3_init E b _ _ _ (by omega) (by omega), va_up_ne _ _ (by omega)]
      exact ct_G4_n E b n k g hk i
    refine ct_ast hx hb hK hP hz hS (i0 := n) (k0 := n + 1 + 4 * i) (by omega) (by omega) hgn (va_up_self _ _ _) hin13 dX4_init_33 (fun H locs hP hz hS => ?_)
    rw [hcl, ct_row_s] at hP
    refine W.widen (k := 1 + 4 * (i + 1)) (n := 13 + 38 * (i + 1)) (by omega) (by omega) ?_
    refine lv_iinc (v := nI i + 1) (lv' := [(1, .int (nI i + 1)), (0, .ref (b + k))]) hx hb dX4_init_34 hl (k := 1) rfl rfl (by decide) rfl (fun ls hl => ?_)
    refine lv_goto (tgt := 15) hx hb dX4_init_37 (by decide) ?_
    rw [nI_1] at hl
    have en : n + 1 + 4 * (i + 1) = n + 1 + 4 * i + 1 + 3 := by omega
    exact ih (i + 1) (by omega) H locs ls (by rw [en]; exact hP) (by rw [en]; exact hz) hS (lv_sub hl [1, 0] rfl)
def gg_X4_init (E : mk_E) (b : Nat) (n k : Nat) (g : Nat → va_E) : Nat → va_E := ct_G4 E b n k g 13
theorem gk_X4_init (E : mk_E) (b : Nat) (n k : Nat) (g : Nat → va_E) {x : Nat} (h1 : x < n) (h2 : x ≠ k) : gg_X4_init E b n k g x = g x := ct_G4_x E b n k g h1 h2 13
set_option maxHeartbeats 8000000 in
set_option maxRecDepth 100000 in
theorem c_X4_init (l : Launch) (D : va_G) (E : mk_E) (b : Nat) (n : Nat) (g : Nat → va_E) (k : Nat) (hk : k < n) (hg : g k = .inr (4, [.null])) : Met l yX4_init wsX4_init rm_X4_init (va_Pc [.ref (b + k)] (ct_W D E b n g)) (ct_Q D b (n + 53) (gg_X4_init E b n k g)) 53 507 (ct_A b) := by
  refine Met.ofW (cc := cX4_init) (maxL := 2) (ret := none) (by decide) rfl ?_
  intro p e s m args below meth c s₁ B hml hv
  obtain ⟨rfl, hP, hz, hK, hN, hO⟩ := hv
  have hx := B.exec
  have hb := B.bytes
  have hr := B.returns
  have hts := atoms_spec (ws := wsX4_init) B.pre
  have hown : s.vm.findClass RX4 = some m.cls := findClass_of_methodNamed B.named
  have hlk := B.notSynchronized
  have hin : meth.name = "<init>" := (name_of_methodNamed B.named B.method).1
  have hS : va_S (ct_A b) s.heap s.heap [] := va_S.rf
  have hl := lv_entry ([.ref (b + k)]) (n := 2) (Nat.le_of_ble_eq_true rfl)
  rw [lg_entry_eq]
  generalize (lg_sl ([.ref (b + k)]) ++ List.replicate (2 - (lg_sl ([.ref (b + k)])).length) Slot.unset).toArray = ls at hl ⊢
  have hl : lv_has ls 2 [(0, .ref (b + k))] := hl
  refine lv_aload_n hx hb dX4_init_0 rfl (lv_at hl 0 rfl) ?_
  refine W.objInit hx hb hown (hts (.methodLink RX4 3 objectInit) (by decide +kernel)) (hts (.instanceMethod objectInit) (by decide +kernel)) (hts (.code objectInit ⟨#[0xb1]⟩ 1 none) (by decide +kernel)) rfl (by rw [hml]; exact hl.1) rfl dX4_init_1 (Nat.le_of_ble_eq_true rfl) (Nat.le_of_ble_eq_true rfl) ?_
  refine W.eq (g2 := F0 m 4 ls []) rfl ?_
  refine lv_aload_n hx hb dX4_init_4 rfl (lv_at hl 0 rfl) ?_
  refine lv_bipush (v := 13) hx hb dX4_init_5 (by decide) ?_
  refine ct_newT hx hb hown (hts (.classLink RX4 9 RX3) (by decide +kernel)) hO hK hP hz hS (by decide) (by decide) (Nat.le_of_ble_eq_true rfl) (Nat.le_of_ble_eq_true rfl) dX4_init_7 (fun H hP hz hS => ?_)
  have hg1 : va_up g n (.inl (E.2.2.2.1, 13, .inr (.inr (.inr (.inr (fun _ => none)))))) k = .inr (4, [.null]) := by rw [va_up_ne _ _ (by omega)]; exact hg
  refine ct_putF (v := .ref (b + n)) (ty := .array (.object "MixedKernel$Task")) (C := RX4) (T := TX4) (N := 1) hx hb hts in_X4_init_X4 tyX4 tyX4_ok nmX4 hown hK hP hz hS (k := k) (by omega) hg1 rfl 0 (by decide) (hts (.fieldLink RX4 11 "MixedKernel$TaskSet" "all" "[LMixedKernel$Task;") (by decide +kernel)) rfl hin rfl (by decide +kernel) rfl rfl (Nat.le_of_ble_eq_true rfl) dX4_init_10 (fun H locs hP hz hS => ?_)
  have er : ct_row b n 0 = fun _ => none := by funext j; simp [ct_row]
  replace hP : va_P D vwCl (ct_w b (n + 1 + 4 * 0) (ct_G4 E b n k g 0)) H := by
    show va_P D vwCl (ct_w b (n + 1) (va_up (va_up g n (.inl (E.2.2.2.1, 13, .inr (.inr (.inr (.inr (ct_row b n 0))))))) k (.inr (4, [.ref (b + n)])))) H
    rw [er]; exact hP
  refine lv_iconst (v := 0) hx hb dX4_init_13 (by decide) ?_
  refine lv_istore_n (lv' := [(1, .int 0), (0, .ref (b + k))]) hx hb dX4_init_14 rfl hl (by decide) rfl (fun ls hl => ?_)
  exact lp_X4_init hx hb hml hown hts hr hlk hK hN hO hk 13 0 rfl H locs ls hP hz hS (lv_sub hl [1, 0] rfl)
