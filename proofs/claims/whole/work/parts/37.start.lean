/-! THE LAW FROM ITS ENTRY, over what the pure part owes -/
theorem nest_in : ∀ w ∈ mk_nest, w ∈ lw_tbl := by decide +kernel
theorem nest_on : ∀ w ∈ mk_nest, w.onTables = true := by decide +kernel
theorem bad_in : ∀ w ∈ mk_bad, w ∈ lw_tbl := by decide +kernel
theorem bad_on : ∀ w ∈ mk_bad, w.onTables = true := by decide +kernel
theorem over_in : Cond.arrayOver (.object "MixedKernel$Task") ∈ lw_tbl := by decide +kernel
theorem st_lU : Cond.laysStatic Bundle.tN "UNASSIGNED_STACK" Bundle.steD ∈ lw_tbl := by decide +kernel
theorem st_lN : Cond.laysStatic Bundle.tN "SUPPRESSED_SENTINEL" Bundle.listD ∈ lw_tbl := by decide +kernel
theorem st_in : Cond.initialized Bundle.tN ∈ lw_tbl := by decide +kernel
set_option maxHeartbeats 8000000 in
set_option maxRecDepth 100000 in
theorem start_open {I : Nat → mk_M → Prop} (hI : mk_Step I) (hM0 : I 0 mk_M0) {p : Program} {e : Env} {s : State} {m : MethodId} {below : List Frame} {meth : Method} {c : Code} (l : Launch) (hst : l.stackTraces = false) {b L : Nat} {xs : Nat → Int32} (hL : L ≤ 3072) (C0 : lw_At p s m meth c b L xs) : W p l e room_1 s m #[Value.ref b] below meth c s.heap [] 0 0 (lw_Z below #[Value.ref b] s) (entryFrame m ([Value.ref b] : List Value).toArray 7) := by
  obtain ⟨hx, hb, hr, hml, hown, htbl, hX, hbl, hlocks, hgv⟩ := id C0
  have hs := flat_of_before _ hgv
  have hts : ∀ w ∈ wsL_law, w.before #[Value.ref b] s = true := fun w h => htbl w (wsL_law_in w h)
  obtain ⟨c0, iS0, hKn0⟩ := u_known (C := RX0) (T := TX0) (N := 2) (n := 2) htbl wl_X0 (htbl (.instantiable RX0 2) (by decide +kernel))
  obtain ⟨c1, iS1, hKn1⟩ := u_known (C := RX1) (T := TX1) (N := 2) (n := 2) htbl wl_X1 (htbl (.instantiable RX1 2) (by decide +kernel))
  obtain ⟨c2, iS2, hKn2⟩ := u_known (C := RX2) (T := TX2) (N := 4) (n := 4) htbl wl_X2 (htbl (.instantiable RX2 4) (by decide +kernel))
  obtain ⟨c3, iS3, hKn3⟩ := u_known (C := RX3) (T := TX3) (N := 14) (n := 14) htbl wl_X3 (htbl (.instantiable RX3 14) (by decide +kernel))
  obtain ⟨c4, iS4, hKn4⟩ := u_known (C := RX4) (T := TX4) (N := 1) (n := 1) htbl wl_X4 (htbl (.instantiable RX4 1) (by decide +kernel))
  obtain ⟨c5, iS5, hKn5⟩ := u_known (C := RX5) (T := TX5) (N := 13) (n := 13) htbl wl_X5 (htbl (.instantiable RX5 13) (by decide +kernel))
  obtain ⟨c6, iS6, hKn6⟩ := u_known (C := RX6) (T := TX6) (N := 35) (n := 35) htbl wl_X6 (htbl (.instantiable RX6 35) (by decide +kernel))
  obtain ⟨D, hKc⟩ : ∃ D : va_G, ∀ (k : Nat) (q : vw_C), vwCl[k]? = some q → u_Kn s q.1 q.2.1 q.2.2 (D.1 k) (D.2 k) := by
    refine ⟨(fun k => match k with | 0 => c0 | 1 => c1 | 2 => c2 | 3 => c3 | 4 => c4 | 5 => c5 | _ => c6, fun k => match k with | 0 => iS0 | 1 => iS1 | 2 => iS2 | 3 => iS3 | 4 => iS4 | 5 => iS5 | _ => iS6), ?_⟩
    intro k q hq
    match k, hq with
    | 0, hq => cases hq; exact hKn0
    | 1, hq => cases hq; exact hKn1
    | 2, hq => cases hq; exact hKn2
    | 3, hq => cases hq; exact hKn3
    | 4, hq => cases hq; exact hKn4
    | 5, hq => cases hq; exact hKn5
    | 6, hq => cases hq; exact hKn6
    | k + 7, hq => simp [vwCl] at hq
  obtain ⟨cI, kI, pI, fI, gI, eI⟩ := Cond.arrayClass_spec (htbl (.arrayClass .int) (by decide +kernel))
  obtain ⟨cZ, kZ, pZ, fZ, gZ, eZ⟩ := Cond.arrayClass_spec (htbl (.arrayClass .boolean) (by decide +kernel))
  obtain ⟨cJ, kJ, pJ, fJ, gJ, eJ⟩ := Cond.arrayClass_spec (htbl (.arrayClass .long) (by decide +kernel))
  have hO : va_AO "MixedKernel$Task" s := va_AO.of (htbl _ over_in)
  obtain ⟨pT, cT, kT, a1, a2, a3, a4, a5⟩ := Cond.arrayOver_spec hO
  generalize hEe : mk_E0 s.heap.size cI cZ cT cJ = E
  have hK : va_K D vwCl (mk_tys E) s := by
    refine ⟨hKc, fun k q hq => ?_⟩
    rw [← hEe] at hq
    match k, hq with
    | 0, hq => cases hq; exact ⟨fun n z => ⟨fun k h => (by cases h), kI, gI, pI, eI⟩, fI⟩
    | 1, hq => cases hq; exact ⟨fun n z => ⟨fun k h => (by cases h), kZ, gZ, pZ, eZ⟩, fZ⟩
    | 2, hq => cases hq; exact ⟨fun n z => ⟨fun k h => (by cases h), kT, a3, pT, a4⟩, kT, pT, a3, a4, a1, a5⟩
    | 3, hq => cases hq; exact ⟨fun n z => ⟨fun k h => (by cases h), kJ, gJ, pJ, eJ⟩, fJ⟩
    | k + 4, hq => simp [mk_tys] at hq
  have hN : mk_Nst s := fun w hw => va_Nw.of (nest_on w hw) (htbl w (nest_in w hw))
  have hE : ∀ q, mk_A E q → s.heap.size ≤ q := by
    intro q hq
    rw [← hEe] at hq
    obtain ⟨x, -, rfl⟩ := hq
    exact Nat.le_add_right _ _
  have hbA : ¬ mk_A E b := fun h => absurd (hE b h) (by omega)
  have hD : ∀ (M : mk_M) (L : Nat → Int64), va_D (mk_A E) (mk_wl E M L) := by
    intro M L
    rw [← hEe]
    exact iw_D _ _ _ _ _ M L
  have hnA : ∀ a : Nat, a < s.heap.size → ¬ mk_A E a := fun a h q => absurd (hE a q) (by omega)
  have hT : mk_T E s := ⟨vx_Zqof (htbl _ st_lU) (htbl _ st_in) (hs (.isRef (.static Bundle.tN "UNASSIGNED_STACK" Bundle.steD)) (by decide +kernel)) hnA, vx_Zqof (htbl _ st_lN) (htbl _ st_in) (hs (.isRef (.static Bundle.tN "SUPPRESSED_SENTINEL" Bundle.listD)) (by decide +kernel)) hnA, fun w hw a => va_Nw.use (bad_on w hw) (va_Nw.of (bad_on w hw) (htbl w (bad_in w hw)))⟩
  have hC : mk_NC s := ⟨va_Nc.of (hs (.not (.castable (mk_ex 1) (mk_ex 2))) (by decide +kernel)), va_Nc.of (hs (.not (.castable (mk_ex 1) (mk_ex 3))) (by decide +kernel)), va_Nc.of (hs (.not (.castable (mk_ex 2) (mk_ex 1))) (by decide +kernel)), va_Nc.of (hs (.not (.castable (mk_ex 2) (mk_ex 3))) (by decide +kernel)), va_Nc.of (hs (.not (.castable (mk_ex 3) (mk_ex 1))) (by decide +kernel)), va_Nc.of (hs (.not (.castable (mk_ex 3) (mk_ex 2))) (by decide +kernel))⟩
  have hP : va_P D vwCl (ct_w s.heap.size 0 mk_g0) s.heap := fun k q h => by simp [ct_w] at h
  have hz : s.heap.size = s.heap.size + 0 := rfl
  have hS : va_S (ct_A s.heap.size) s.heap s.heap [] := va_S.rf
  have hl := lv_entry ([.ref b]) (n := 7) (Nat.le_of_ble_eq_true rfl)
  rw [lg_entry_eq]
  generalize (lg_sl ([.ref b]) ++ List.replicate (7 - (lg_sl ([.ref b])).length) Slot.unset).toArray = ls at hl ⊢
  have hl : lv_has ls 7 [(0, .ref b)] := hl
  refine ct_new (ci := 5) (fs := [.null, .null, .null, .null, .null, .null, .null, .null, .int 0, .int 0, .int 0, .int 0, .int 0]) (C := RX5) (T := TX5) (N := 13) hx hb htbl wl_X5 tyX5 tyX5_ok hown (htbl (.classLink RL 8 RX5) (by decide +kernel)) (htbl (.instantiable RX5 13) (by decide +kernel)) (htbl (.initialized RX5) (by decide +kernel)) hK hP hz hS rfl (by decide) (Nat.le_of_ble_eq_true rfl) (Nat.le_of_ble_eq_true rfl) dL_law_0 (fun H hP hz hS => ?_)
  refine lv_dup hx hb dL_law_3 rfl ?_
  refine va_callv (va_runI (As := []) (rest := [.ref (s.heap.size + 0)]) ⟨hx, hb, hml, hown, hts⟩ (c_X5_init l D E s.heap.size 1 _ 0 (by omega) (va_up_self _ _ _)) (cwI 0 hts gL_law_X5_init rfl rfl rfl (hts (.initialized RX5) (by decide +kernel)) (hts (.methodLink RL 52 yX5_init) (by decide +kernel)) (hts (.instanceMethod yX5_init) (by decide +kernel)) rfl (by decide +kernel) ⟨Nat.le_of_ble_eq_true rfl, Nat.le_of_ble_eq_true rfl⟩) ⟨ct_W.blind, fun U hU hW => ⟨rfl, ct_W.at hU hW hP hz hK hN hO⟩⟩ rfl rfl hl.1 rfl (lv_room (Nat.le_of_ble_eq_true rfl)) dL_law_4 ⟨Nat.le_of_ble_eq_true rfl, Nat.le_of_ble_eq_true rfl⟩) hS (fun q _ h => h) (fun q h => h) (fun u t H1 locs ht hvm hw hB hz1 hk1 hS => ?_)
  obtain ⟨hP2, hz2⟩ := hB
  rw [ht] at hP2 hz2
  replace hP : va_P D vwCl (ct_w s.heap.size 68 (mk_gK E s.heap.size)) H1 := hP2
  replace hz : H1.size = s.heap.size + 68 := hz2
  clear hP2 hz2 hz1 hk1 hvm ht
  generalize H1 = H at hP hz hS ⊢
  refine lv_astore_n (lv' := [(1, .ref (s.heap.size + 0)), (0, .ref b)]) hx hb dL_law_7 rfl hl (by decide) rfl (fun ls hl => ?_)
  refine ct_new (ci := 6) (fs := [.int 0, .null, .null, .null, .null, .null, .null, .int 0, .null, .int 0, .null, .null, .null, .null, .null, .null, .null, .null, .null, .null, .null, .int 0, .int 0, .int 0, .int 0, .int 0, .int 0, .null, .null, .int 0, .null, .null, .int 0, .null, .null]) (C := RX6) (T := TX6) (N := 35) hx hb htbl wl_X6 tyX6 tyX6_ok hown (htbl (.classLink RL 53 RX6) (by decide +kernel)) (htbl (.instantiable RX6 35) (by decide +kernel)) (htbl (.initialized RX6) (by decide +kernel)) hK hP hz hS rfl (by decide) (Nat.le_of_ble_eq_true rfl) (Nat.le_of_ble_eq_true rfl) dL_law_8 (fun H hP hz hS => ?_)
  refine lv_dup hx hb dL_law_11 rfl ?_
  refine va_callv (va_runI (As := []) (rest := [.ref (s.heap.size + 68)]) ⟨hx, hb, hml, hown, hts⟩ (c_X6_init l D E s.heap.size 69 _ 68 (by omega) (va_up_self _ _ _)) (cwI 0 hts gL_law_X6_init rfl rfl rfl (hts (.initialized RX6) (by decide +kernel)) (hts (.methodLink RL 55 yX6_init) (by decide +kernel)) (hts (.instanceMethod yX6_init) (by decide +kernel)) rfl (by decide +kernel) ⟨Nat.le_of_ble_eq_true rfl, Nat.le_of_ble_eq_true rfl⟩) ⟨ct_W.blind, fun U hU hW => ⟨rfl, ct_W.at hU hW hP hz hK hN hO⟩⟩ rfl rfl hl.1 rfl (lv_room (Nat.le_of_ble_eq_true rfl)) dL_law_12 ⟨Nat.le_of_ble_eq_true rfl, Nat.le_of_ble_eq_true rfl⟩) hS (fun q _ h => h) (fun q h => h) (fun u t H1 locs ht hvm hw hB hz1 hk1 hS => ?_)
  obtain ⟨hP2, hz2⟩ := hB
  rw [ht] at hP2 hz2
  replace hP : va_P D vwCl (ct_w s.heap.size 93 (mk_gM E s.heap.size)) H1 := hP2
  replace hz : H1.size = s.heap.size + 93 := hz2
  clear hP2 hz2 hz1 hk1 hvm ht
  generalize H1 = H at hP hz hS ⊢
  refine lv_astore_n (lv' := [(2, .ref (s.heap.size + 68)), (1, .ref (s.heap.size + 0)), (0, .ref b)]) hx hb dL_law_15 rfl hl (by decide) rfl (fun ls hl => ?_)
  refine lv_iconst (v := 1) hx hb dL_law_16 (by decide) ?_
  refine ct_newJ (N' := 1) hx hb (htbl (.arrayClass .long) (by decide +kernel)) hK hP hz hS (by decide) (by decide) (by decide) (Nat.le_of_ble_eq_true rfl) (Nat.le_of_ble_eq_true rfl) dL_law_17 (fun H hP hz hS => ?_)
  replace hP : va_P D vwCl (ct_w s.heap.size 94 (mk_gF E s.heap.size)) H := hP
  refine lv_astore_n (lv' := [(3, .ref (s.heap.size + 93)), (2, .ref (s.heap.size + 68)), (1, .ref (s.heap.size + 0)), (0, .ref b)]) hx hb dL_law_19 rfl hl (by decide) rfl (fun ls hl => ?_)
  refine lv_iconst (v := 0) hx hb dL_law_20 (by decide) ?_
  refine lv_istore (lv' := [(4, .int 0), (3, .ref (s.heap.size + 93)), (2, .ref (s.heap.size + 68)), (1, .ref (s.heap.size + 0)), (0, .ref b)]) hx hb dL_law_21 hl (by decide) rfl (fun ls hl => ?_)
  refine va_forget (fun q hq => hS.2.2 q hq) ?_
  have hP' : va_P D vwCl (mk_wl E mk_M0 (fun _ => 0)) H := by
    rw [← hEe] at hP ⊢
    exact iw_P hP
  have hS' : va_S (mk_A E) s.heap H [] := ⟨hS.1, fun q h1 _ => hS.2.1 q h1 (fun h2 => absurd h1 (Nat.not_lt.mpr h2)), fun _ h => nomatch h⟩
  have hl' : lv_has ls 7 [(0, .ref b), (1, .ref (E.1 0)), (2, .ref (E.1 68)), (3, .ref (E.1 93)), (4, .int (nI (6 * 0)))] := by
    rw [← hEe]
    exact lv_sub hl [4, 3, 2, 1, 0] rfl
  exact law_loop hL hx hb hr hlocks hml hown hts hst hX hbl hbA hE hK hD hN hT hC hI 513 0 rfl mk_M0 (fun _ => 0) H [] ls hM0 hP' hS' hl'
