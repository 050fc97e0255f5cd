theorem gv_J {n : Nat} {A B : mk_M} {t np no ch w wd : Nat} {P O : Nat → Nat} (hJ : pu_J n (pu_ov A B) t np no ch w wd P O) :
    ∃ (A' B' : mk_M) (np' no' : Nat) (P' O' : Nat → Nat), f_X5_becomeHigh_18 mk_F 1 A = some A' ∧ f_X6_giveUp B = some B' ∧ (∀ x, 68 ≤ x → A' x = A x) ∧ ((∀ x, x < 68 → B' x = B x) ∧ B' 68 0 = B 68 0) ∧ (∀ id, 1 ≤ id → id ≤ 12 → ¬ A (16 + 4 * id) 3 ≤ 0 → A' (16 + 4 * id) = A (16 + 4 * id)) ∧ pu_J n (pu_ov A' B') t np' no' ch w wd P' O' := by
  have hJo := hJ.ord
  have hJ' := hJ
  obtain ⟨a1', a2', a3, a4, a5, a6, a7, a8, a9, a10, a11, a12⟩ := hJ'
  simp (disch := omega) only [ov_lo, ov_hi] at a1' a2' a3 a4 a5 a6 a8 a11
  have hn5 : n ≤ 512 := a1'.2.2.2
  have ij3 : pu_ij (np, P) := a7
  have ij5 : pu_ij (no, O) := a9
  have hOP : ∀ id, pu_kn O no id → pu_kn P np id := fun id ⟨i, h1, h2⟩ => by rw [← h2]; exact (a8.2.2.2 i h1).2.2
  obtain ⟨pv, hpv⟩ : ∃ pv : Nat → Nat, ∀ id, pv id = (A (16 + 4 * id) 9).toNatClampNeg := ⟨_, fun _ => rfl⟩
  obtain ⟨jv, hjv⟩ : ∃ jv : Nat → Nat, ∀ id, jv id = (A (16 + 4 * id) 5).toNatClampNeg := ⟨_, fun _ => rfl⟩
  -- known tasks
  have hkn : ∀ id, 1 ≤ id → id ≤ 12 → pu_kn P np id → B 69 id = 1 ∧ pu_jb B id (jv id) (pv id) ∧ pv id ≤ 4 ∧ A (16 + 4 * id) 9 = nI (pv id) ∧ A (16 + 4 * id) 5 = nI (jv id) ∧ A (16 + 4 * id) 4 = B 70 id ∧ (A (16 + 4 * id) 3 ≤ 0 ↔ B 74 id = 0) ∧ ∀ j, 1 ≤ j → j ≤ jv id → jv id < j + 8 → A (16 + 4 * id + 3) (j % 8) = B 86 (8 * id + j % 8) := by
    intro id i1 i2 hk
    obtain ⟨q69, htk⟩ := (a10 id i1 i2).1 hk
    unfold pu_tk at htk
    simp (disch := omega) only [ov_lo, ov_hi] at htk q69
    obtain ⟨per, dl, lo, hi, jb, pe, b1, b2, b3, b4, b5, b6, b7, b8, b9, b10, b11, b12, b13⟩ := htk
    have e1 : pv id = pe := by rw [hpv, b8.1, cl_n (by omega)]
    have e2 : jv id = jb := by rw [hjv, b6.1, cl_n (by omega)]
    rw [e1, e2]
    refine ⟨q69, ⟨b6.2.1, by omega, b8.2.2, by omega, fun j h1 h2 h3 => (b9 j h1 h2 h3).2.2.2.1⟩, b8.2.1, b8.1, b6.1, b5.1, ?_, fun j h1 h2 h3 => (b9 j h1 h2 h3).2.2.1⟩
    rw [b4.1, b4.2.1]
    rcases Nat.eq_zero_or_pos hi with q | q
    · rw [q]; exact ⟨fun _ => rfl, fun _ => by decide⟩
    · exact ⟨fun z => absurd z (nle0 q (by omega)), fun z => absurd z (nI_ne0 q (by omega))⟩
  have hun : ∀ id, 1 ≤ id → id ≤ 12 → ¬ pu_kn P np id → B 69 id = 0 ∧ A (16 + 4 * id) 9 = 0 ∧ pv id = 0 := by
    intro id i1 i2 hk
    obtain ⟨q1, q2⟩ := (a10 id i1 i2).2 hk
    simp (disch := omega) only [ov_lo, ov_hi] at q1 q2
    exact ⟨q1, q2, by rw [hpv, q2]; rfl⟩
  have hk69 : ∀ id, 1 ≤ id → id ≤ 12 → (¬ B 69 id = 0 ↔ pu_kn P np id) := by
    intro id i1 i2
    by_cases hk : pu_kn P np id
    · exact ⟨fun _ => hk, fun _ => by rw [(hkn id i1 i2 hk).1]; exact n1_0⟩
    · exact ⟨fun z => absurd (hun id i1 i2 hk).1 z, fun z => absurd z hk⟩
  obtain ⟨c, hcd⟩ : ∃ c : Nat → Bool, ∀ id, c id = true ↔ (¬ B 69 id = 0 ∧ B 74 id = 0 ∧ ¬ B 70 id = 0) := ⟨fun id => decide (¬ B 69 id = 0 ∧ B 74 id = 0 ∧ ¬ B 70 id = 0), fun id => by simp only [decide_eq_true_eq]⟩
  have hA : ∀ id, 1 ≤ id → id ≤ 12 → A (16 + 4 * id) 9 = nI (pv id) ∧ pv id ≤ 8 ∧ (0 < pv id → A (16 + 4 * id) 5 = nI (jv id) ∧ pv id ≤ jv id ∧ jv id ≤ 512) := by
    intro id i1 i2
    by_cases hk : pu_kn P np id
    · obtain ⟨-, q1, q2, q3, q4, -⟩ := hkn id i1 i2 hk
      exact ⟨q3, by omega, fun _ => ⟨q4, q1.2.2.1, q1.2.1⟩⟩
    · obtain ⟨-, q1, q2⟩ := hun id i1 i2 hk
      rw [q2]
      exact ⟨q1, by omega, fun z => by omega⟩
  have hc1 : ∀ id, 1 ≤ id → id ≤ 12 → A (16 + 4 * id) 3 ≤ 0 → ¬ A (16 + 4 * id) 4 = 0 → c id = true ∨ (¬ pu_kn (np, P).2 (np, P).1 id ∧ ¬ pu_kn (no, O).2 (no, O).1 id) := by
    intro id i1 i2 h3 h4
    by_cases hk : pu_kn P np id
    · left
      obtain ⟨q0, -, -, -, -, q5, q6, -⟩ := hkn id i1 i2 hk
      exact (hcd id).mpr ⟨by rw [q0]; exact n1_0, q6.mp h3, by rw [← q5]; exact h4⟩
    · exact Or.inr ⟨hk, fun z => hk (hOP id z)⟩
  have hc2 : ∀ id, 1 ≤ id → id ≤ 12 → c id = true → A (16 + 4 * id) 3 ≤ 0 ∧ ¬ A (16 + 4 * id) 4 = 0 := by
    intro id i1 i2 hc
    obtain ⟨z1, z2, z3⟩ := (hcd id).mp hc
    obtain ⟨-, -, -, -, -, q5, q6, -⟩ := hkn id i1 i2 ((hk69 id i1 i2).mp z1)
    exact ⟨q6.mpr z2, by rw [q5]; exact z3⟩
  have l3 : pu_ln A 3 (np, P) := ⟨a6.1, a6.2.2.1, fun i hi => ⟨(a6.2.2.2 i hi).1, (a6.2.2.2 i hi).2.2⟩⟩
  have l5 : pu_ln A 5 (no, O) := ⟨a8.1, a8.2.2.1, fun i hi => ⟨(a8.2.2.2 i hi).1, hJo i hi⟩⟩
  obtain ⟨A', f0, f1, f2, f3, f4, f5, f6, f7⟩ := bh_lp (A := A) (jv := jv) (pv := pv) (c := c) (LP := (np, P)) (LO := (no, O)) ij3 ij5 hA hc1 hc2 12 0 mk_F A (by omega) (mk_F_lt (by omega)) ⟨fun _ _ _ _ _ _ _ => rfl, fun _ _ => rfl, (Int32.add_zero _).symm, l3, l5, fun _ _ _ _ => ⟨rfl, rfl, rfl, rfl⟩, fun id h1 h2 => by omega⟩
  obtain ⟨B1, g0, g1, g2, g3, g4, g5⟩ := gi_al (B := B) (jv := jv) (pv := pv) (fun id i1 i2 z => (hkn id i1 i2 ((hk69 id i1 i2).mp z)).2.1) 12 0 mk_F B (by omega) (mk_F_lt (by omega)) ⟨fun _ _ _ => rfl, fun _ _ => rfl, (Int32.add_zero _).symm, fun _ _ _ _ _ _ => rfl, fun id h1 h2 => by omega⟩
  have b69 : B1 69 = B 69 := g1 69 (by decide) (by decide)
  have b70 : B1 70 = B 70 := g1 70 (by decide) (by decide)
  have b74 : B1 74 = B 74 := g1 74 (by decide) (by decide)
  have hlow : ∀ id, 1 ≤ id → id ≤ 12 → ¬ B 69 id = 0 → B 74 id = 0 → pu_jb B1 id (jv id) 0 := by
    intro id i1 i2 z1 z2
    obtain ⟨-, q1, q2, -⟩ := hkn id i1 i2 ((hk69 id i1 i2).mp z1)
    refine ⟨by rw [g1 78 (by decide) (by decide)]; exact q1.1, q1.2.1, by omega, by omega, fun j j1 j2 j3 => ?_⟩
    rw [g5 id i1 (by omega) ⟨z1, z2⟩ j j1 j2 j3]
    by_cases y : jv id < j + pv id
    · rw [if_pos y]
      exact ⟨fun z => absurd z (by decide), fun z => by omega⟩
    · rw [if_neg y]
      exact ⟨fun z => absurd ((q1.2.2.2.2 j j1 j2 j3).mp z) y, fun z => by omega⟩
  obtain ⟨B2, k0, k1, k2, k3, k4, k5⟩ := gj_al (B := B1) (c := c) (LP := (np, P)) (LO := (no, O)) ij3 ij5 a6.2.2.1 a8.2.2.1 (fun i hi => (a6.2.2.2 i hi).2.2) (fun i hi => hJo i hi) (fun id _ _ => by rw [b69, b70, b74]; exact hcd id) (fun id i1 i2 z1 z2 => by rw [b69] at z1; rw [b74] at z2; exact ⟨jv id, hlow id i1 i2 z1 z2⟩) 12 0 mk_F B1 (by omega) (mk_F_lt (by omega))
    ⟨fun _ _ _ _ _ => rfl, fun _ _ _ => rfl, ⟨by rw [g2 7 (by decide)]; exact a6.2.1, fun j hj => by rw [g1 75 (by decide) (by decide)]; exact (a6.2.2.2 j hj).2.1⟩, ⟨by rw [g2 9 (by decide)]; exact a8.2.1, fun j hj => by rw [g1 76 (by decide) (by decide)]; exact (a8.2.2.2 j hj).2.1⟩, fun id h1 h2 => by rw [if_neg (by omega)]⟩
  have rB : ∀ y, y ≠ 68 → y ≠ 69 → y ≠ 75 → y ≠ 76 → y ≠ 86 → B2 y = B y := fun y h1 h2 h3 h4 h5 => by rw [k1 y h1 h2 h3 h4, g1 y h1 h5]
  have rB68 : ∀ k, k ≠ 7 → k ≠ 9 → k ≠ 26 → B2 68 k = B 68 k := fun k h1 h2 h3 => by rw [k2 k h1 h2, g2 k h3]
  refine ⟨A', B2, (pu_it c (np, P) 12).1, (pu_it c (no, O) 12).1, (pu_it c (np, P) 12).2, (pu_it c (no, O) 12).2, f0, ?_, ?_, ?_, ?_, ?_, ?_, ?_, ?_, ?_, ?_, it_ij ij3 12, ?_, it_ij ij5 12, ?_, ?_, ?_⟩
  · show f_X6_giveUp_2 mk_F (nI 1) B = _
    rw [g0]
    exact k0
  · intro x hx
    exact f1 x (by omega) (by omega) (by omega) (by omega) (by omega) (Or.inr hx)
  · refine ⟨fun x hx => ?_, rB68 0 (by decide) (by decide) (by decide)⟩
    rw [k1 x (by omega) (by omega) (by omega) (by omega), g1 x (by omega) (by omega)]
  · intro id i1 i2 h3
    exact (f6 id i1 i2 (Or.inr h3)).1
  · simp (disch := omega) only [ov_lo, ov_hi]
    rw [f2 9 (by decide), rB68 21 (by decide) (by decide) (by decide)]; exact a1'
  · simp (disch := omega) only [ov_lo, ov_hi]
    rw [f1 12 (by decide) (by decide) (by decide) (by decide) (by decide) (by decide), f1 13 (by decide) (by decide) (by decide) (by decide) (by decide) (by decide), rB 88 (by decide) (by decide) (by decide) (by decide) (by decide)]; exact a2'
  · simp (disch := omega) only [ov_lo, ov_hi]
    rw [f2 8 (by decide), rB68 24 (by decide) (by decide) (by decide)]; exact a3
  · simp (disch := omega) only [ov_lo, ov_hi]
    rw [f2 10 (by decide), f2 11 (by decide), rB68 22 (by decide) (by decide) (by decide), rB68 23 (by decide) (by decide) (by decide)]
    refine ⟨a4.1, a4.2.1, ?_⟩
    rw [k2 26 (by decide) (by decide), f3, g3, a4.2.2, pu_sum_congr (n := 12) (g := fun j => if ¬ B 69 (j + 1) = 0 ∧ B 74 (j + 1) = 0 then pv (j + 1) else 0) (fun j hj => ?_)]
    show (if A (16 + 4 * (j + 1)) 3 ≤ 0 then pv (j + 1) else 0) = (if ¬ B 69 (j + 1) = 0 ∧ B 74 (j + 1) = 0 then pv (j + 1) else 0)
    by_cases hk : pu_kn P np (j + 1)
    · obtain ⟨q0, -, -, -, -, -, q6, -⟩ := hkn (j + 1) (by omega) (by omega) hk
      by_cases z : A (16 + 4 * (j + 1)) 3 ≤ 0
      · rw [if_pos z, if_pos ⟨by rw [q0]; exact n1_0, q6.mp z⟩]
      · rw [if_neg z, if_neg (fun y => z (q6.mpr y.2))]
    · rw [(hun (j + 1) (by omega) (by omega) hk).2.2, ite_self, ite_self]
  · simp (disch := omega) only [ov_lo, ov_hi]
    rw [f1 14 (by decide) (by decide) (by decide) (by decide) (by decide) (by decide), f1 15 (by decide) (by decide) (by decide) (by decide) (by decide) (by decide), rB 87 (by decide) (by decide) (by decide) (by decide) (by decide), rB68 25 (by decide) (by decide) (by decide)]; exact a5
  · simp (disch := omega) only [ov_lo, ov_hi]
    exact ⟨f4.1, k3.1, f4.2.1, fun i hi => ⟨(f4.2.2 i hi).1, k3.2 i hi, (f4.2.2 i hi).2⟩⟩
  · simp (disch := omega) only [ov_lo, ov_hi]
    refine ⟨f5.1, k4.1, f5.2.1, fun i hi => ⟨(f5.2.2 i hi).1, k4.2 i hi, ?_⟩⟩
    obtain ⟨z1, z2⟩ := (it_kn (c := c) ij5 ((pu_it c (no, O) 12).2 i) 12).mp ⟨i, hi, rfl⟩
    exact (it_kn (c := c) ij3 _ 12).mpr ⟨hOP _ z1, z2⟩
  · intro id i1 i2
    have e69 : B2 69 id = if c id = true then 0 else B 69 id := by
      rw [k5 id i1 i2, b69]
      by_cases z : c id = true
      · rw [if_pos ⟨i2, z⟩, if_pos z]
      · rw [if_neg (fun y => z y.2), if_neg z]
    rw [it_kn (c := c) ij3 id 12]
    constructor
    · intro ⟨hk, z⟩
      have cf : ¬ c id = true := fun y => z ⟨i1, i2, y⟩
      have hk' : pu_kn P np id := hk
      obtain ⟨q0, q1, q2, q3, q4, q5, q6, q7⟩ := hkn id i1 i2 hk'
      refine ⟨by simp (disch := omega) only [ov_hi]; rw [e69, if_neg cf]; exact q0, ?_⟩
      by_cases y : A (16 + 4 * id) 3 ≤ 0
      · -- low: its jobs are given up
        obtain ⟨-, htk⟩ := (a10 id i1 i2).1 hk
        unfold pu_tk at htk
        simp (disch := omega) only [ov_lo, ov_hi] at htk
        obtain ⟨per, dl, lo, hi, jb, pe, b1, b2, b3, b4, b5, b6, b7, b8, b9, b10, b11, b12, b13⟩ := htk
        have e1 : pv id = pe := by rw [hpv, b8.1, cl_n (by omega)]
        have e2 : jv id = jb := by rw [hjv, b6.1, cl_n (by omega)]
        obtain ⟨s0, s1, s2, s3, s4, s5⟩ := f7 id i1 i2 y
        have z74 := q6.mp y
        have z69 : ¬ B 69 id = 0 := by rw [q0]; exact n1_0
        unfold pu_tk
        simp (disch := omega) only [ov_lo, ov_hi]
        rw [rB 70 (by decide) (by decide) (by decide) (by decide) (by decide), rB 71 (by decide) (by decide) (by decide) (by decide) (by decide), rB 72 (by decide) (by decide) (by decide) (by decide) (by decide), rB 73 (by decide) (by decide) (by decide) (by decide) (by decide), rB 74 (by decide) (by decide) (by decide) (by decide) (by decide), rB 78 (by decide) (by decide) (by decide) (by decide) (by decide), rB 79 (by decide) (by decide) (by decide) (by decide) (by decide), rB 80 (by decide) (by decide) (by decide) (by decide) (by decide), rB 81 (by decide) (by decide) (by decide) (by decide) (by decide), rB 82 (by decide) (by decide) (by decide) (by decide) (by decide), rB 83 (by decide) (by decide) (by decide) (by decide) (by decide), rB 84 (by decide) (by decide) (by decide) (by decide) (by decide), rB 85 (by decide) (by decide) (by decide) (by decide) (by decide), s0 0 (by decide) (by decide), s0 1 (by decide) (by decide), s0 2 (by decide) (by decide), s0 3 (by decide) (by decide), s0 4 (by decide) (by decide), s0 5 (by decide) (by decide), s0 6 (by decide) (by decide), s0 7 (by decide) (by decide), s0 8 (by decide) (by decide), s1, s2, s3, s4]
        refine ⟨per, dl, lo, hi, jb, 0, b1, b2, b3, b4, b5, b6, b7, ⟨rfl, by omega, by omega⟩, ?_, fun _ => rfl, fun x => by omega, fun j x1 x2 => by omega, b13⟩
        intro j j1 j2 j3
        have v := b9 j j1 j2 j3
        have u := s5 j j1 (by omega) (by omega)
        have u2 := g5 id i1 i2 ⟨z69, z74⟩ j j1 (by omega) (by omega)
        have u3 := (hlow id i1 i2 z69 z74).2.2.2.2 j j1 (by omega) (by omega)
        rw [k1 86 (by decide) (by decide) (by decide) (by decide)]
        refine ⟨v.1, v.2.1, ?_, ?_, v.2.2.2.2⟩
        · rw [u, u2, v.2.2.1]
        · rw [← e2]; exact u3
      · obtain ⟨s0, s1, s2, s3⟩ := f6 id i1 i2 (Or.inr y)
        refine pu_tk_ad (M := pu_ov A B) (Nat.le_refl _) ⟨⟨?_, ?_, ?_, ?_⟩, fun x hx => ?_, fun x k x1 x2 hk2 => ?_⟩ ((a10 id i1 i2).1 hk).2
        · simp (disch := omega) only [ov_lo]; exact s0
        · simp (disch := omega) only [ov_lo]; exact s1
        · simp (disch := omega) only [ov_lo]; exact s2
        · simp (disch := omega) only [ov_lo]; exact s3
        · simp (disch := omega) only [ov_hi]
          by_cases x69 : x = 69
          · rw [x69, e69, if_neg cf]
          · rw [rB x (by omega) x69 (by omega) (by omega) (by omega)]
        · simp (disch := omega) only [ov_hi]
          by_cases x86 : x = 86
          · rw [x86, k1 86 (by decide) (by decide) (by decide) (by decide)]
            exact g4 id i1 i2 (Or.inr (fun v => y (q6.mpr v.2))) k hk2
          · rw [rB x (by omega) (by omega) (by omega) (by omega) x86]
    · intro z
      simp (disch := omega) only [ov_lo, ov_hi]
      by_cases cf : c id = true
      · rw [e69, if_pos cf]
        exact ⟨rfl, (f7 id i1 i2 (hc2 id i1 i2 cf).1).2.1⟩
      · have hk : ¬ pu_kn P np id := fun y => z ⟨y, fun v => cf v.2.2⟩
        obtain ⟨q1, q2, -⟩ := hun id i1 i2 hk
        rw [e69, if_neg cf]
        refine ⟨q1, ?_⟩
        by_cases y : A (16 + 4 * id) 3 ≤ 0
        · exact (f7 id i1 i2 y).2.1
        · rw [(f6 id i1 i2 (Or.inr y)).1]; exact q2
  · simp (disch := omega) only [ov_lo, ov_hi]
    rw [f1 9 (by decide) (by decide) (by decide) (by decide) (by decide) (by decide), f1 10 (by decide) (by decide) (by decide) (by decide) (by decide) (by decide), f1 11 (by decide) (by decide) (by decide) (by decide) (by decide) (by decide), rB 89 (by decide) (by decide) (by decide) (by decide) (by decide), rB 90 (by decide) (by decide) (by decide) (by decide) (by decide), rB68 29 (by decide) (by decide) (by decide), rB68 32 (by decide) (by decide) (by decide)]; exact a11
  · intro k hk
    refine pu_ok_same (M := pu_ov A B) ?_ ?_ ?_ ?_ (it_ok (L := (np, P)) a12 12 k hk)
    · simp (disch := omega) only [ov_hi]; exact rB 71 (by decide) (by decide) (by decide) (by decide) (by decide)
    · simp (disch := omega) only [ov_hi]; exact rB 72 (by decide) (by decide) (by decide) (by decide) (by decide)
    · simp (disch := omega) only [ov_hi]; exact rB 73 (by decide) (by decide) (by decide) (by decide) (by decide)
    · simp (disch := omega) only [ov_hi]; exact rB 74 (by decide) (by decide) (by decide) (by decide) (by decide)
