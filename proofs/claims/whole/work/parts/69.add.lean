/-! add: the class up to its look; then both -/
def ad_p (a1 a2 a3 a4 a5 : Int32) (id : Nat) (M : mk_M) : Option ((Nat × Int32) × mk_M) := ((f_X3_begin (16 + 4 * id) a2 a3 a4 a5 M).bind (fun r_17 => ((f_X1_become 7 3 r_17).bind (fun r_19 => ((f_X5_placeFor a3 r_19).bind (fun r_21 => ((f_X1_insert 7 r_21 a1 r_19).bind (fun r_23 => ((f_X5_admitTrial r_23).bind (fun r_25 => (some ((0, r_25.1), r_25.2))))))))))))
theorem ad_cl {n : Nat} {M : mk_M} {t np no ch w wd : Nat} {P O : Nat → Nat} (hJ : pu_J n M t np no ch w wd P O) {id per dl lo hi c : Nat} (i1 : 1 ≤ id) (i2 : id ≤ 12) (p2 : per ≤ 1000) (d2 : dl ≤ per) (hk : ¬ pu_kn P np id) (hc : c = pu_pc dl (fun i => pu_v M 72 (P i)) np) :
    ∃ Mi : mk_M, ad_p (nI id) (nI per) (nI dl) (nI lo) (nI hi) id M = (f_X5_admitTrial Mi).bind (fun r_25 => (some ((0, r_25.1), r_25.2))) ∧ (∀ y, y ≠ 7 → y ≠ 8 → y ≠ 16 + 4 * id → Mi y = M y) ∧ Mi 7 1 = nI (np + 1) ∧ (∀ j, j < np + 1 → Mi 8 j = nI (pu_in P c id j)) ∧ (Mi (16 + 4 * id) 0 = nI per ∧ Mi (16 + 4 * id) 1 = nI dl ∧ Mi (16 + 4 * id) 2 = nI lo ∧ Mi (16 + 4 * id) 3 = nI hi) ∧ ∀ k, 4 ≤ k → k ≤ 10 → Mi (16 + 4 * id) k = 0 := by
  have hJ' := hJ
  obtain ⟨-, -, -, -, -, a6, a7, -⟩ := hJ'
  have hcn : c ≤ np := by rw [hc]; exact pc_le _ _ _
  have hnp := in_12 (fun i hi => (a6.2.2.2 i hi).2.2) i1 i2 a7 hk
  obtain ⟨Mb, hMb⟩ : ∃ Mb, f_X3_begin (16 + 4 * id) (nI per) (nI dl) (nI lo) (nI hi) M = some Mb := ⟨_, rfl⟩
  have eb : (mk_st (mk_st (mk_st (mk_st (mk_st (mk_st (mk_st (mk_st (mk_st (mk_st (mk_st M (16 + 4 * id) 0 (nI per)) (16 + 4 * id) 1 (nI dl)) (16 + 4 * id) 2 (nI lo)) (16 + 4 * id) 3 (nI hi)) (16 + 4 * id) 4 0) (16 + 4 * id) 5 0) (16 + 4 * id) 6 0) (16 + 4 * id) 7 0) (16 + 4 * id) 8 0) (16 + 4 * id) 9 0) (16 + 4 * id) 10 0) = Mb := Option.some.inj hMb
  have b0 : ∀ y, y ≠ 16 + 4 * id → Mb y = M y := fun y hy => by rw [← eb]; simp (disch := omega) only [mk_st_off]
  have bt : (Mb (16 + 4 * id) 0 = nI per ∧ Mb (16 + 4 * id) 1 = nI dl ∧ Mb (16 + 4 * id) 2 = nI lo ∧ Mb (16 + 4 * id) 3 = nI hi) := by
    rw [← eb]
    refine ⟨?_, ?_, ?_, ?_⟩ <;> simp (disch := omega) only [mk_st_ne, mk_st_same]
  have bz : ∀ k, 4 ≤ k → k ≤ 10 → Mb (16 + 4 * id) k = 0 := fun k k1 k2 => by
    rw [← eb]
    rcases (show k = 4 ∨ k = 5 ∨ k = 6 ∨ k = 7 ∨ k = 8 ∨ k = 9 ∨ k = 10 by omega) with e | e | e | e | e | e | e <;> rw [e] <;> simp (disch := omega) only [mk_st_ne, mk_st_same]
  obtain ⟨Mt, hMt⟩ : ∃ Mt, f_X1_become 7 3 Mb = some Mt := ⟨_, rfl⟩
  have et : (mk_st (mk_sr Mb (7+1) (va_cpy (Mb (3+1)) (Mb (7+1)) 0 0 12)) 7 1 ((mk_sr Mb (7+1) (va_cpy (Mb (3+1)) (Mb (7+1)) 0 0 12)) 3 1)) = Mt := Option.some.inj hMt
  have t0 : ∀ y, y ≠ 7 → y ≠ 8 → Mt y = Mb y := fun y y1 y2 => by rw [← et]; simp (disch := omega) only [mk_st_off, mk_sr_off]
  have r3 : Mb 3 = M 3 := b0 3 (by omega)
  have r4 : Mb 4 = M 4 := b0 4 (by omega)
  have t7 : Mt 7 1 = nI np := by rw [← et, mk_st_same, mk_sr_off _ _ _ (by decide), r3]; exact a6.1
  have t8 : ∀ i, i < np → Mt 8 i = nI (P i) := fun i hi' => by
    have q := (a6.2.2.2 i hi').1
    rw [← et, mk_st_off _ _ _ _ (by decide)]
    show mk_sr Mb 8 (va_cpy (Mb 4) (Mb 8) 0 0 12) 8 i = _
    rw [mk_sr_row]
    unfold va_cpy
    rw [if_pos (by omega), show 0 + (i - 0) = i by omega, r4]; exact q
  have pf : f_X5_placeFor (nI dl) Mt = some (nI c) := by
    have e := pf_lp (M := Mt) (np := np) (dl := dl) (P := P) (D := fun i => pu_v M 72 (P i)) (by omega) (by omega) (fun i hi' => by
      obtain ⟨v1, -, v3⟩ := hJ.val hi'
      have q := a6.2.2.2 i hi'
      have ne : P i ≠ id := fun z => hk ⟨i, hi', z⟩
      rw [t0 4 (by decide) (by decide), r4, t0 (16 + 4 * P i) (by omega) (by omega), b0 (16 + 4 * P i) (by omega)]
      exact ⟨q.1, q.2.2.2, v1.2.1, v3.2.1.2⟩) np mk_F (Nat.le_refl _) (mk_F_lt (by omega))
    unfold f_X5_placeFor
    rw [t0 3 (by decide) (by decide), r3, a6.1, Int32.sub_eq_add_neg, e, hc]
  obtain ⟨R, e2, e3⟩ := is_lp (M := Mt) (x := 7) (np := np) (c := c) (id := id) (P := P) hnp t7 (np - c) np mk_F (Mt 8) (by omega) (Nat.le_refl _) (mk_F_lt (by omega)) t8 (fun j j1 j2 => by omega)
  have e2' : f_X1_insert_27 7 mk_F (nI c) (nI id) (nI np) Mt = some (mk_st (mk_sr Mt 8 R) 7 1 (nI (np + 1))) := by
    rw [← e2]
    show _ = f_X1_insert_27 7 mk_F (nI c) (nI id) (nI np) (mk_sr Mt 8 (Mt 8))
    rw [mk_sr_id]
  have ei : f_X1_insert 7 (nI c) (nI id) Mt = some (mk_st (mk_sr Mt 8 R) 7 1 (nI (np + 1))) := by
    unfold f_X1_insert
    rw [t7, if_neg (show ¬ (12 : Int32) ≤ nI np from nI_ge (a := np) (b := 12) hnp (by decide)), if_neg (nI_pos (by omega)), if_pos (nI_le hcn (by omega))]
    exact e2'
  refine ⟨mk_st (mk_sr Mt 8 R) 7 1 (nI (np + 1)), ?_, fun y y1 y2 y3 => ?_, mk_st_same _ _ _ _, fun j hj => ?_, ?_, fun k k1 k2 => ?_⟩
  · unfold ad_p
    rw [hMb, Option.bind_some, hMt, Option.bind_some, pf, Option.bind_some, ei, Option.bind_some]
  · rw [mk_st_off _ _ _ _ y1, mk_sr_off _ _ _ y2, t0 y y1 y2, b0 y y3]
  · rw [mk_st_off _ _ _ _ (by decide), mk_sr_row]; exact e3 j (by omega)
  · rw [mk_st_off _ _ _ _ (by omega), mk_sr_off _ _ _ (by omega), t0 _ (by omega) (by omega)]; exact bt
  · rw [mk_st_off _ _ _ _ (by omega), mk_sr_off _ _ _ (by omega), t0 _ (by omega) (by omega)]; exact bz k k1 k2
theorem ng_n {q : Nat} (h1 : 1 ≤ q) (h2 : q ≤ 12) : ¬ (0 - nI q = (0 : Int32)) ∧ 0 - nI q ≤ (0 : Int32) := by
  have e : (0 - nI q : Int32).toInt = (0 : Int) - q := by
    rw [show (0 : Int32) = nI 0 from rfl, pk_sub_toInt (by omega) (by omega)]; omega
  refine ⟨fun z => ?_, ?_⟩
  · have := congrArg Int32.toInt z
    rw [e, Int32.toInt_zero] at this
    omega
  · rw [Int32.le_iff_toInt_le, e, Int32.toInt_zero]; omega
theorem ad_main {n : Nat} {M : mk_M} {t np no ch w wd : Nat} {P O : Nat → Nat} (hn : n < 512) (hJ : pu_J n M t np no ch w wd P O) {id per dl lo hi : Nat} (i1 : 1 ≤ id) (i2 : id ≤ 12) (p1 : 1 ≤ per) (p2 : per ≤ 1000) (d1 : 1 ≤ dl) (d2 : dl ≤ per) (l1 : 1 ≤ lo) (l2 : lo ≤ 100) (hh : hi = 0 ∨ (lo ≤ hi ∧ hi ≤ 200)) (hk : ¬ pu_kn P np id) :
    ∃ (v : Int32) (M1 N : mk_M), ad_p (nI id) (nI per) (nI dl) (nI lo) (nI hi) id M = some ((0, v), M1) ∧ (∀ y, 68 ≤ y → M1 y = M y) ∧ f_X6_add_97 mk_F (nI id) (nI per) (nI dl) (nI lo) (nI hi) 0 0 (mk_st M1 68 0 0) = some (v, N) ∧ N 68 0 = 0 ∧ pu_I (n + 1) N := by
  have h2 : hi ≤ 200 := by omega
  obtain ⟨c, hc⟩ : ∃ c, c = pu_pc dl (fun i => pu_v M 72 (P i)) np := ⟨_, rfl⟩
  have hcn : c ≤ np := by rw [hc]; exact pc_le _ _ _
  have hJ' := hJ
  obtain ⟨a1', a2', a3, a4, a5, a6, a7, a8, a9, a10, a11, a12⟩ := hJ'
  have hnp := in_12 (fun i hi => (a6.2.2.2 i hi).2.2) i1 i2 a7 hk
  obtain ⟨Mi, ep, m0, m7, m8, mt, mz⟩ := ad_cl (lo := lo) (hi := hi) hJ i1 i2 p2 d2 hk hc
  have val := V_val hJ (c := c) i1 i2 p1 p2 d1 d2 l1 l2 h2 hk hcn
  have ref := fun (B0 : mk_M) (k1 k2 : Nat) => ad_ref (B0 := B0) (k1 := k1) (k2 := k2) hJ i1 i2 p1 p2 d1 d2 l1 l2 h2 hk hc
  have inj : ∀ i j, i < np + 1 → j < np + 1 → pu_in P c id i = pu_in P c id j → i = j := fun i j hi hj h => in_ij a7 hk i j hi hj hcn h
  obtain ⟨dr1, dr2⟩ := in_dr a7 hk hcn
  have upk : ∀ j, pu_kn P np j → pu_kn (pu_in P c id) (np + 1) j := fun j h => in_up hcn h
  have dnk : ∀ j, j ≠ id → pu_kn (pu_in P c id) (np + 1) j → pu_kn P np j := fun j hj h => in_dn hcn hj h
  have idk : pu_kn (pu_in P c id) (np + 1) id := ⟨c, by omega, in_c⟩
  generalize hQ : pu_in P c id = Q at *
  obtain ⟨V, hV⟩ : ∃ V, V = pu_V M id per dl lo hi := ⟨_, rfl⟩
  have Vne : ∀ y j, j ≠ id → V y j = M y j := fun y j h => by rw [hV]; exact V_ne h
  have Vid := V_id (M := M) (id := id) (per := per) (dl := dl) (lo := lo) (hi := hi)
  rw [← hV] at val ref Vid
  have cv : ∀ i, i < np + 1 → Mi 8 i = nI (Q i) ∧ Q i ≤ 12 ∧ pu_cv Mi V (Q i) ∧ pu_vl V (Q i) := fun i hi' => by
    refine ⟨m8 i hi', (val i hi').1.2, ?_, (val i hi').2.2⟩
    obtain ⟨w1, w2, w3, w4⟩ := (val i hi').2.1
    by_cases e : Q i = id
    · unfold pu_cv
      rw [← w1, ← w2, ← w3, ← w4, e]
      exact ⟨mt.1.trans Vid.1.symm, mt.2.1.trans Vid.2.1.symm, mt.2.2.1.trans Vid.2.2.1.symm, mt.2.2.2.trans Vid.2.2.2.symm⟩
    · obtain ⟨j, j1, j2⟩ := dnk (Q i) e ⟨i, hi', rfl⟩
      have v := (hJ.val j1).1
      rw [j2] at v
      unfold pu_cv pu_v at v ⊢
      rw [Vne 71 _ e, Vne 72 _ e, Vne 73 _ e, Vne 74 _ e, m0 (16 + 4 * Q i) (by omega) (by omega) (by omega)]
      exact v
  have un := (a10 id i1 i2).2 hk
  obtain ⟨k1, hk1, f1, g1⟩ := pu_first (fun j => ∃ r, pu_lr V Q j r) (np + 1)
  obtain ⟨k2, hk2, f2, g2⟩ := pu_first (fun j => pu_ok V Q j) (np + 1)
  have efl : f_X4_firstLowResponseThatFails 7 Mi = some (if k1 < np + 1 then nI k1 else -1) := fl_lp (by omega) m7 cv hk1 f1 g1 k1 0 mk_F (by omega) (mk_F_lt (by omega))
  have okM : ∀ N : mk_M, (∀ y, 71 ≤ y → y ≤ 74 → N y = V y) → ∀ k, k < np → pu_ok N P k := fun N hN k hk' => ok_pt (fun i hi' y y1 y2 => by
    rw [hN y y1 y2]
    exact Vne y _ (fun z => hk ⟨i, by omega, z⟩)) (a12 k hk')
  by_cases c1 : k1 < np + 1
  · -- one has no low response
    obtain ⟨M2, e1, z1, z2, z3, z4⟩ := kp_lp (M := mk_st Mi 9 2 (nI (k1 + 1))) (k := k1) (Q := Q) (by omega) (mk_st_same _ _ _ _) (fun i hi' => by rw [mk_st_off _ _ _ _ (by decide)]; exact ⟨m8 i (by omega), (val i (by omega)).1.2⟩) (k1 + 1) 0 mk_F (mk_st Mi 9 2 (nI (k1 + 1))) (by omega) (mk_F_lt (by omega)) (fun _ _ _ => rfl) (fun j hj => absurd hj (by omega))
    have y1 : ∀ y, y ≠ 9 → y ≠ 10 → y ≠ 11 → M2 y = Mi y := fun y q1 q2 q3 => by rw [z1 y q1 q2 q3, mk_st_off _ _ _ _ q1]
    have ea : f_X5_admitTrial Mi = some (nI (Q k1), M2) := by
      unfold f_X5_admitTrial f_X2_keep
      rw [efl, Option.bind_some, if_pos c1, if_neg (nn1 (by omega)), nI_1, show f_X2_keep_10 7 mk_F (nI k1) 0 (mk_st Mi 9 2 (nI (k1 + 1))) = some M2 from e1, Option.bind_some, if_neg (ob_n (show k1 < 12 by omega) (by decide)), cl_n (by omega), y1 8 (by decide) (by decide) (by decide), m8 k1 c1]
    have u68 : ∀ y, 68 ≤ y → M2 y = M y := fun y hy => by rw [y1 y (by omega) (by omega) (by omega), m0 y (by omega) (by omega) (by omega)]
    obtain ⟨B3, s0, s68, s7, s75, sV, se⟩ := ref (mk_st M2 68 0 0) k1 k2 (fun y hy => by rw [mk_st_off _ _ _ _ (by omega)]; exact u68 y (by omega)) (fun k hk' => by rw [mk_st_ne _ _ _ _ (by omega), u68 68 (by decide)]) hk1 f1 g1 hk2 f2 g2
    have qk := (val k1 c1).1
    obtain ⟨B4, o1, o2, o3, o4, o5, o6⟩ := nw_lp (B := B3) (s := np + 1) (k := k1) (Q := Q) (by omega) c1 s7 (fun i hi' => ⟨s75 i hi', (val i hi').1⟩) inj (k1 + 1) 0 mk_F (mk_st B3 68 29 0) (by omega) (mk_F_lt (by omega)) (fun y q1 _ _ => by rw [mk_st_off _ _ _ _ q1]) (fun q hq => by rw [mk_st_ne _ _ _ _ (by omega)]) (mk_st_same _ _ _ _) (fun j hj => absurd hj (by omega))
    obtain ⟨R, x1, x2⟩ := take_n (M := B4) (id := id) (L := (np + 1, Q)) (by show np + 1 ≤ 12; omega) (by omega) (fun j hj => (val j hj).1.2) inj (by rw [o3 7 (by decide) (by decide)]; exact s7) (fun j hj => by rw [o2 75 (by decide) (by decide) (by decide)]; exact s75 j hj)
    rw [dr1] at x1 x2
    have er : ad_t (nI id) (nI (Q k1), B3) = some (nI (Q k1), mk_st (mk_sr B4 75 R) 68 7 (nI np)) := by
      unfold ad_t f_X6_noteWitness
      dsimp only
      rw [if_neg (nI_ne0 qk.1 (by omega)), if_neg (nle0 qk.1 (by omega))]
      rw [show f_X6_noteWitness_7 mk_F (nI (Q k1)) 0 (mk_st B3 68 29 0) = some B4 from o1, Option.bind_some, x1, Option.bind_some]
    refine ⟨nI (Q k1), M2, mk_st (mk_sr B4 75 R) 68 7 (nI np), by rw [ep, ea]; rfl, u68, by rw [se, if_pos c1]; exact er, ?_, t, np, no, ch, k1 + 1, pu_v V 72 (Q k1), P, O, ?_⟩
    · rw [mk_st_ne _ _ _ _ (by omega), mk_sr_off _ _ _ (by decide), o3 0 (by decide) (by decide), s68 0 (by decide), mk_st_same]
    · have nl : ∀ y, y ≠ 68 → y ≠ 71 → y ≠ 72 → y ≠ 73 → y ≠ 74 → y ≠ 75 → y ≠ 77 → y ≠ 89 → y ≠ 90 → y ≠ 92 → (mk_st (mk_sr B4 75 R) 68 7 (nI np)) y = M2 y := fun y q1 q2 q3 q4 q5 q6 q7 q8 q9 q10 => by
        rw [mk_st_off _ _ _ _ q1, mk_sr_off _ _ _ q6, o2 y q1 q8 q9, s0 y q1 q2 q3 q4 q5 q6 q7 q10, mk_st_off _ _ _ _ q1]
      have nV : ∀ y, 71 ≤ y → y ≤ 74 → (mk_st (mk_sr B4 75 R) 68 7 (nI np)) y = V y := fun y q1 q2 => by
        rw [mk_st_off _ _ _ _ (by omega), mk_sr_off _ _ _ (by omega), o2 y (by omega) (by omega) (by omega), sV y q1 q2]
      refine ch_J hn hJ i2 (fun y q0 q1 q2 q3 q4 q5 q6 q7 q8 => ?_) (fun y hy => ?_) (fun k q1 q2 q3 q4 => ?_) (fun y hy j hj => ?_) ⟨?_, mk_st_same _ _ _ _, a6.2.2.1, fun i hi' => ⟨?_, ?_, (a6.2.2.2 i hi').2.2⟩⟩ a7 (fun _ h => h) (fun _ _ h => h) ⟨fun h => absurd h hk, fun _ => ⟨?_, ?_⟩⟩ ⟨?_, ?_, by omega, ?_, ?_, (val k1 c1).2.2.2.1.2, fun i hi' => ⟨?_, pu_v V 71 (Q i), ?_, ?_, (val i (by omega)).2.2.1⟩⟩ (okM _ nV)
      · rw [nl y (by omega) (by omega) (by omega) (by omega) (by omega) (by omega) (by omega) (by omega) (by omega) (by omega), y1 y q5 q6 q7, m0 y q3 q4 q8]
      · rw [nl y (by omega) (by omega) (by omega) (by omega) (by omega) (by omega) (by omega) (by omega) (by omega) (by omega), u68 y (by omega)]
      · rw [mk_st_ne _ _ _ _ (by omega), mk_sr_off _ _ _ (by decide), o3 k q3 q4, s68 k q2, mk_st_ne _ _ _ _ (by omega), u68 68 (by decide)]
      · by_cases hv : 71 ≤ y ∧ y ≤ 74
        · rw [nV y hv.1 hv.2]; exact Vne y j hj
        · rw [nl y (by omega) (by omega) (by omega) (by omega) (by omega) (by omega) (by omega) (by omega) (by omega) (by omega), u68 y (by omega)]
      · rw [nl 3 (by decide) (by decide) (by decide) (by decide) (by decide) (by decide) (by decide) (by decide) (by decide) (by decide), y1 3 (by decide) (by decide) (by decide), m0 3 (by decide) (by decide) (by omega)]; exact a6.1
      · rw [nl 4 (by decide) (by decide) (by decide) (by decide) (by decide) (by decide) (by decide) (by decide) (by decide) (by decide), y1 4 (by decide) (by decide) (by decide), m0 4 (by decide) (by decide) (by omega)]; exact (a6.2.2.2 i hi').1
      · rw [mk_st_off _ _ _ _ (by decide), mk_sr_row, x2 i hi', dr2 i hi']
      · rw [nl 69 (by decide) (by decide) (by decide) (by decide) (by decide) (by decide) (by decide) (by decide) (by decide) (by decide), u68 69 (by decide)]; exact un.1
      · rw [nl (16 + 4 * id) (by omega) (by omega) (by omega) (by omega) (by omega) (by omega) (by omega) (by omega) (by omega) (by omega), y1 _ (by omega) (by omega) (by omega)]; exact mz 9 (by decide) (by decide)
      · rw [nl 9 (by decide) (by decide) (by decide) (by decide) (by decide) (by decide) (by decide) (by decide) (by decide) (by decide)]; exact z2
      · rw [mk_st_ne _ _ _ _ (by omega), mk_sr_off _ _ _ (by decide)]; exact o4
      · rw [nl 9 (by decide) (by decide) (by decide) (by decide) (by decide) (by decide) (by decide) (by decide) (by decide) (by decide), z3, mk_st_off _ _ _ _ (by omega)]; exact (cv k1 c1).2.2.1.2.1
      · rw [mk_st_ne _ _ _ _ (by omega), mk_sr_off _ _ _ (by decide), o5, sV 72 (by decide) (by decide)]; exact (val k1 c1).2.1.2.1
      · rw [nl 10 (by decide) (by decide) (by decide) (by decide) (by decide) (by decide) (by decide) (by decide) (by decide) (by decide), (z4 i (by omega)).1, mk_st_off _ _ _ _ (by decide), mk_sr_off _ _ _ (by decide), (o6 i (by omega)).1]
      · rw [nl 11 (by decide) (by decide) (by decide) (by decide) (by decide) (by decide) (by decide) (by decide) (by decide) (by decide), (z4 i (by omega)).2, mk_st_off _ _ _ _ (by omega)]; exact (cv i (by omega)).2.2.1.1
      · rw [mk_st_off _ _ _ _ (by decide), mk_sr_off _ _ _ (by decide), (o6 i (by omega)).2, sV 71 (by decide) (by decide)]; exact (val i (by omega)).2.1.1
  · have ek : k1 = np + 1 := by omega
    have efb : f_X4_firstBoundThatFails 7 Mi = some (if k2 < np + 1 then nI k2 else -1) := fb_lp (by omega) m7 cv hk2 (fun j hj => f1 j (by omega)) f2 g2 k2 0 mk_F (by omega) (mk_F_lt (by omega))
    have u68 : ∀ y, 68 ≤ y → Mi y = M y := fun y hy => m0 y (by omega) (by omega) (by omega)
    by_cases c2 : k2 < np + 1
    · -- one has no bound
      have ea : f_X5_admitTrial Mi = some (0 - nI (Q k2), Mi) := by
        unfold f_X5_admitTrial
        rw [efl, Option.bind_some, if_neg c1, if_pos rfl, efb, Option.bind_some, if_pos c2, if_neg (nn1 (by omega)), if_neg (ob_n (show k2 < 12 by omega) (by decide)), cl_n (by omega), m8 k2 c2, Int32.sub_eq_add_neg, Int32.zero_add]
      obtain ⟨B3, s0, s68, s7, s75, sV, se⟩ := ref (mk_st Mi 68 0 0) k1 k2 (fun y hy => by rw [mk_st_off _ _ _ _ (by omega)]; exact u68 y (by omega)) (fun k hk' => by rw [mk_st_ne _ _ _ _ (by omega), u68 68 (by decide)]) hk1 f1 g1 hk2 f2 g2
      have qk := (val k2 c2).1
      obtain ⟨R, x1, x2⟩ := take_n (M := B3) (id := id) (L := (np + 1, Q)) (by show np + 1 ≤ 12; omega) (by omega) (fun j hj => (val j hj).1.2) inj s7 s75
      rw [dr1] at x1 x2
      have er : ad_t (nI id) (0 - nI (Q k2), B3) = some (0 - nI (Q k2), mk_st (mk_sr B3 75 R) 68 7 (nI np)) := by
        unfold ad_t
        dsimp only
        rw [if_neg (ng_n qk.1 qk.2).1, if_pos (ng_n qk.1 qk.2).2, x1, Option.bind_some]
      refine ⟨0 - nI (Q k2), Mi, mk_st (mk_sr B3 75 R) 68 7 (nI np), by rw [ep, ea]; rfl, u68, by rw [se, if_neg c1, if_pos c2]; exact er, ?_, t, np, no, ch, w, wd, P, O, ?_⟩
      · rw [mk_st_ne _ _ _ _ (by omega), mk_sr_off _ _ _ (by decide), s68 0 (by decide), mk_st_same]
      · have nl : ∀ y, y ≠ 68 → y ≠ 71 → y ≠ 72 → y ≠ 73 → y ≠ 74 → y ≠ 75 → y ≠ 77 → y ≠ 92 → (mk_st (mk_sr B3 75 R) 68 7 (nI np)) y = Mi y := fun y q1 q2 q3 q4 q5 q6 q7 q10 => by
          rw [mk_st_off _ _ _ _ q1, mk_sr_off _ _ _ q6, s0 y q1 q2 q3 q4 q5 q6 q7 q10, mk_st_off _ _ _ _ q1]
        have n68 : ∀ k, k ≠ 0 → k ≠ 7 → (mk_st (mk_sr B3 75 R) 68 7 (nI np)) 68 k = M 68 k := fun k q1 q2 => by
          rw [mk_st_ne _ _ _ _ (by omega), mk_sr_off _ _ _ (by decide), s68 k q2, mk_st_ne _ _ _ _ (by omega), u68 68 (by decide)]
        have nV : ∀ y, 71 ≤ y → y ≤ 74 → (mk_st (mk_sr B3 75 R) 68 7 (nI np)) y = V y := fun y q1 q2 => by
          rw [mk_st_off _ _ _ _ (by omega), mk_sr_off _ _ _ (by omega), sV y q1 q2]
        have nM : ∀ y, y ≠ 68 → y ≠ 71 → y ≠ 72 → y ≠ 73 → y ≠ 74 → y ≠ 75 → y ≠ 77 → y ≠ 92 → y ≠ 7 → y ≠ 8 → y ≠ 16 + 4 * id → (mk_st (mk_sr B3 75 R) 68 7 (nI np)) y = M y := fun y q1 q2 q3 q4 q5 q6 q7 q10 q11 q12 q13 => by
          rw [nl y q1 q2 q3 q4 q5 q6 q7 q10, m0 y q11 q12 q13]
        refine ch_J hn hJ i2 (fun y q0 q1 q2 q3 q4 q5 q6 q7 q8 => nM y (by omega) (by omega) (by omega) (by omega) (by omega) (by omega) (by omega) (by omega) q3 q4 q8) (fun y hy => nM y (by omega) (by omega) (by omega) (by omega) (by omega) (by omega) (by omega) (by omega) (by omega) (by omega) (by omega)) (fun k q1 q2 _ _ => n68 k q1 q2) (fun y hy j hj => ?_) ⟨?_, mk_st_same _ _ _ _, a6.2.2.1, fun i hi' => ⟨?_, ?_, (a6.2.2.2 i hi').2.2⟩⟩ a7 (fun _ h => h) (fun _ _ h => h) ⟨fun h => absurd h hk, fun _ => ⟨?_, ?_⟩⟩ ?_ (okM _ nV)
        · by_cases hv : 71 ≤ y ∧ y ≤ 74
          · rw [nV y hv.1 hv.2]; exact Vne y j hj
          · rw [nM y (by omega) (by omega) (by omega) (by omega) (by omega) (by omega) (by omega) (by omega) (by omega) (by omega) (by omega)]
        · rw [nM 3 (by omega) (by omega) (by omega) (by omega) (by omega) (by omega) (by omega) (by omega) (by omega) (by omega) (by omega)]; exact a6.1
        · rw [nM 4 (by omega) (by omega) (by omega) (by omega) (by omega) (by omega) (by omega) (by omega) (by omega) (by omega) (by omega)]; exact (a6.2.2.2 i hi').1
        · rw [mk_st_off _ _ _ _ (by decide), mk_sr_row, x2 i hi', dr2 i hi']
        · rw [nM 69 (by omega) (by omega) (by omega) (by omega) (by omega) (by omega) (by omega) (by omega) (by omega) (by omega) (by omega)]; exact un.1
        · rw [nl (16 + 4 * id) (by omega) (by omega) (by omega) (by omega) (by omega) (by omega) (by omega) (by omega)]; exact mz 9 (by decide) (by decide)
        · rw [nM 9 (by omega) (by omega) (by omega) (by omega) (by omega) (by omega) (by omega) (by omega) (by omega) (by omega) (by omega), nM 10 (by omega) (by omega) (by omega) (by omega) (by omega) (by omega) (by omega) (by omega) (by omega) (by omega) (by omega), nM 11 (by omega) (by omega) (by omega) (by omega) (by omega) (by omega) (by omega) (by omega) (by omega) (by omega) (by omega), nM 89 (by omega) (by omega) (by omega) (by omega) (by omega) (by omega) (by omega) (by omega) (by omega) (by omega) (by omega), nM 90 (by omega) (by omega) (by omega) (by omega) (by omega) (by omega) (by omega) (by omega) (by omega) (by omega) (by omega), n68 29 (by decide) (by decide), n68 32 (by decide) (by decide)]
          exact a11
    · -- all fit
      have ek2 : k2 = np + 1 := by omega
      obtain ⟨M2, hM2⟩ : ∃ M2, f_X1_become 3 7 Mi = some M2 := ⟨_, rfl⟩
      have e2 : (mk_st (mk_sr Mi (3+1) (va_cpy (Mi (7+1)) (Mi (3+1)) 0 0 12)) 3 1 ((mk_sr Mi (3+1) (va_cpy (Mi (7+1)) (Mi (3+1)) 0 0 12)) 7 1)) = M2 := Option.some.inj hM2
      have y0 : ∀ y, y ≠ 3 → y ≠ 4 → M2 y = Mi y := fun y q1 q2 => by rw [← e2]; simp (disch := omega) only [mk_st_off, mk_sr_off]
      have y3 : M2 3 1 = nI (np + 1) := by rw [← e2, mk_st_same, mk_sr_off _ _ _ (by decide)]; exact m7
      have y4 : ∀ i, i < np + 1 → M2 4 i = nI (Q i) := fun i hi' => by
        have q := m8 i hi'
        rw [← e2, mk_st_off _ _ _ _ (by decide)]
        show mk_sr Mi 4 (va_cpy (Mi 8) (Mi 4) 0 0 12) 4 i = _
        rw [mk_sr_row]
        unfold va_cpy
        rw [if_pos (by omega), show 0 + (i - 0) = i by omega]; exact q
      have ea : f_X5_admitTrial Mi = some (0, M2) := by
        unfold f_X5_admitTrial
        rw [efl, Option.bind_some, if_neg c1, if_pos rfl, efb, Option.bind_some, if_neg c2, if_pos rfl, hM2, Option.bind_some]
      have v68 : ∀ y, 68 ≤ y → M2 y = M y := fun y hy => by rw [y0 y (by omega) (by omega)]; exact u68 y hy
      obtain ⟨B3, s0, s68, s7, s75, sV, se⟩ := ref (mk_st M2 68 0 0) k1 k2 (fun y hy => by rw [mk_st_off _ _ _ _ (by omega)]; exact v68 y (by omega)) (fun k hk' => by rw [mk_st_ne _ _ _ _ (by omega), v68 68 (by decide)]) hk1 f1 g1 hk2 f2 g2
      have ho : ¬ mk_ob (nI id) 13 := ob_n (by omega) (by omega)
      obtain ⟨N, hN⟩ : ∃ N, mk_st (mk_st (mk_st (mk_st (mk_st (mk_st (mk_st B3 69 id 1) 70 id 0) 78 id 0) 79 id 0) 80 id 0) 81 id 0) 82 id 0 = N := ⟨_, rfl⟩
      have er : ad_t (nI id) (0, B3) = some (0, N) := by
        unfold ad_t
        dsimp only
        rw [if_pos rfl]
        simp only [if_neg ho, cl_n (show id < 2 ^ 31 by omega), vb1, vb0]
        rw [hN]
      have nB : ∀ y, y ≠ 69 → y ≠ 70 → y ≠ 78 → y ≠ 79 → y ≠ 80 → y ≠ 81 → y ≠ 82 → N y = B3 y := fun y q1 q2 q3 q4 q5 q6 q7 => by rw [← hN]; simp (disch := omega) only [mk_st_off]
      have nI' : ∀ y, (69 ≤ y ∧ y ≤ 70) ∨ (78 ≤ y ∧ y ≤ 82) → ∀ j, j ≠ id → N y j = M y j := fun y hy j hj => by
        rw [← hN]
        simp (disch := omega) only [mk_st_ne]
        rw [s0 y (by omega) (by omega) (by omega) (by omega) (by omega) (by omega) (by omega) (by omega), mk_st_off _ _ _ _ (by omega), v68 y (by omega)]
      have nl : ∀ y, y ≠ 68 → y ≠ 69 → y ≠ 70 → y ≠ 71 → y ≠ 72 → y ≠ 73 → y ≠ 74 → y ≠ 75 → y ≠ 77 → y ≠ 78 → y ≠ 79 → y ≠ 80 → y ≠ 81 → y ≠ 82 → y ≠ 92 → N y = M2 y := fun y q1 q2 q3 q4 q5 q6 q7 q8 q9 q10 q11 q12 q13 q14 q15 => by
        rw [nB y q2 q3 q10 q11 q12 q13 q14, s0 y q1 q4 q5 q6 q7 q8 q9 q15, mk_st_off _ _ _ _ q1]
      have n68 : ∀ k, k ≠ 0 → k ≠ 7 → N 68 k = M 68 k := fun k q1 q2 => by
        rw [nB 68 (by decide) (by decide) (by decide) (by decide) (by decide) (by decide) (by decide), s68 k q2, mk_st_ne _ _ _ _ (by omega), v68 68 (by decide)]
      have nV : ∀ y, 71 ≤ y → y ≤ 74 → N y = V y := fun y q1 q2 => by
        rw [nB y (by omega) (by omega) (by omega) (by omega) (by omega) (by omega) (by omega), sV y q1 q2]
      have nM : ∀ y, y ≠ 68 → y ≠ 69 → y ≠ 70 → y ≠ 71 → y ≠ 72 → y ≠ 73 → y ≠ 74 → y ≠ 75 → y ≠ 77 → y ≠ 78 → y ≠ 79 → y ≠ 80 → y ≠ 81 → y ≠ 82 → y ≠ 92 → y ≠ 3 → y ≠ 4 → y ≠ 7 → y ≠ 8 → y ≠ 16 + 4 * id → N y = M y := fun y q1 q2 q3 q4 q5 q6 q7 q8 q9 q10 q11 q12 q13 q14 q15 q16 q17 q18 q19 q20 => by
        rw [nl y q1 q2 q3 q4 q5 q6 q7 q8 q9 q10 q11 q12 q13 q14 q15, y0 y q16 q17, m0 y q18 q19 q20]
      have nt : N (16 + 4 * id) = Mi (16 + 4 * id) := by
        rw [nl (16 + 4 * id) (by omega) (by omega) (by omega) (by omega) (by omega) (by omega) (by omega) (by omega) (by omega) (by omega) (by omega) (by omega) (by omega) (by omega) (by omega), y0 _ (by omega) (by omega)]
      have tk : pu_tk (n + 1) N id := by
        refine ⟨per, dl, lo, hi, 0, 0, ⟨?_, ?_, p1, p2⟩, ⟨?_, ?_, d1, d2⟩, ⟨?_, ?_, l1, l2⟩, ⟨?_, ?_, hh⟩, ⟨?_, Or.inl ?_⟩, ⟨?_, ?_, Nat.zero_le _⟩, ⟨?_, ?_, ?_⟩, ⟨?_, by omega, by omega⟩, fun j q1 q2 => by omega, fun _ => ?_, fun q => by omega, fun j q1 q2 => by omega, ?_⟩
        · rw [nt]; exact mt.1
        · rw [nV 71 (by decide) (by decide)]; exact Vid.1
        · rw [nt]; exact mt.2.1
        · rw [nV 72 (by decide) (by decide)]; exact Vid.2.1
        · rw [nt]; exact mt.2.2.1
        · rw [nV 73 (by decide) (by decide)]; exact Vid.2.2.1
        · rw [nt]; exact mt.2.2.2
        · rw [nV 74 (by decide) (by decide)]; exact Vid.2.2.2
        · rw [nt, mz 4 (by decide) (by decide), ← hN]; simp (disch := omega) only [mk_st_ne, mk_st_same]
        · rw [← hN]; simp (disch := omega) only [mk_st_ne, mk_st_same]
        · rw [nt, mz 5 (by decide) (by decide)]; exact nI_0.symm
        · rw [← hN]; simp (disch := omega) only [mk_st_ne, mk_st_same]; exact nI_0.symm
        · rw [nt, mz 6 (by decide) (by decide), ← hN]; simp (disch := omega) only [mk_st_ne, mk_st_same]
        · rw [nt, mz 7 (by decide) (by decide), ← hN]; simp (disch := omega) only [mk_st_ne, mk_st_same]
        · rw [nt, mz 8 (by decide) (by decide), ← hN]; simp (disch := omega) only [mk_st_ne, mk_st_same]
        · rw [nt, mz 9 (by decide) (by decide)]; exact nI_0.symm
        · rw [nt]; exact mz 10 (by decide) (by decide)
        · rw [if_pos rfl, ← hN, mk_st_same]
      refine ⟨0, M2, N, by rw [ep, ea]; rfl, v68, by rw [se, if_neg c1, if_neg c2]; exact er, ?_, t, np + 1, no, ch, w, wd, Q, O, ?_⟩
      · rw [nB 68 (by decide) (by decide) (by decide) (by decide) (by decide) (by decide) (by decide), s68 0 (by decide), mk_st_same]
      · refine ch_J hn hJ i2 (fun y q0 q1 q2 q3 q4 q5 q6 q7 q8 => nM y (by omega) (by omega) (by omega) (by omega) (by omega) (by omega) (by omega) (by omega) (by omega) (by omega) (by omega) (by omega) (by omega) (by omega) (by omega) q1 q2 q3 q4 q8) (fun y hy => nM y (by omega) (by omega) (by omega) (by omega) (by omega) (by omega) (by omega) (by omega) (by omega) (by omega) (by omega) (by omega) (by omega) (by omega) (by omega) (by omega) (by omega) (by omega) (by omega) (by omega)) (fun k q1 q2 _ _ => n68 k q1 q2) (fun y hy j hj => ?_) ⟨?_, ?_, by omega, fun i hi' => ⟨?_, ?_, (val i hi').1⟩⟩ inj upk dnk ⟨fun _ => ⟨?_, tk⟩, fun h => absurd idk h⟩ ?_ (fun k hk' => pu_ok_same (nV 71 (by decide) (by decide)) (nV 72 (by decide) (by decide)) (nV 73 (by decide) (by decide)) (nV 74 (by decide) (by decide)) (f2 k (by omega)))
        · by_cases hv : 71 ≤ y ∧ y ≤ 74
          · rw [nV y hv.1 hv.2]; exact Vne y j hj
          · exact nI' y (by omega) j hj
        · rw [nl 3 (by omega) (by omega) (by omega) (by omega) (by omega) (by omega) (by omega) (by omega) (by omega) (by omega) (by omega) (by omega) (by omega) (by omega) (by omega)]; exact y3
        · rw [nB 68 (by decide) (by decide) (by decide) (by decide) (by decide) (by decide) (by decide)]; exact s7
        · rw [nl 4 (by omega) (by omega) (by omega) (by omega) (by omega) (by omega) (by omega) (by omega) (by omega) (by omega) (by omega) (by omega) (by omega) (by omega) (by omega)]; exact y4 i hi'
        · rw [nB 75 (by decide) (by decide) (by decide) (by decide) (by decide) (by decide) (by decide)]; exact s75 i hi'
        · rw [← hN]; simp (disch := omega) only [mk_st_ne, mk_st_same]
        · rw [nM 9 (by omega) (by omega) (by omega) (by omega) (by omega) (by omega) (by omega) (by omega) (by omega) (by omega) (by omega) (by omega) (by omega) (by omega) (by omega) (by omega) (by omega) (by omega) (by omega) (by omega), nM 10 (by omega) (by omega) (by omega) (by omega) (by omega) (by omega) (by omega) (by omega) (by omega) (by omega) (by omega) (by omega) (by omega) (by omega) (by omega) (by omega) (by omega) (by omega) (by omega) (by omega), nM 11 (by omega) (by omega) (by omega) (by omega) (by omega) (by omega) (by omega) (by omega) (by omega) (by omega) (by omega) (by omega) (by omega) (by omega) (by omega) (by omega) (by omega) (by omega) (by omega) (by omega), nM 89 (by omega) (by omega) (by omega) (by omega) (by omega) (by omega) (by omega) (by omega) (by omega) (by omega) (by omega) (by omega) (by omega) (by omega) (by omega) (by omega) (by omega) (by omega) (by omega) (by omega), nM 90 (by omega) (by omega) (by omega) (by omega) (by omega) (by omega) (by omega) (by omega) (by omega) (by omega) (by omega) (by omega) (by omega) (by omega) (by omega) (by omega) (by omega) (by omega) (by omega) (by omega), n68 29 (by decide) (by decide), n68 32 (by decide) (by decide)]
          exact a11
