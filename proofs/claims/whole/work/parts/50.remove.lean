/-! remove -/
theorem vb1 : vp_nar .boolean (1 : Int32) = 1 := by decide
theorem vb0 : vp_nar .boolean (0 : Int32) = 0 := by decide
theorem nn1 {a : Nat} (h : a < 2 ^ 31) : ¬ nI a = (-1 : Int32) := by
  intro q
  have := congrArg Int32.toInt q
  rw [nI_toInt h] at this
  have e : (-1 : Int32).toInt = -1 := by decide
  omega
/-- the class forgets a task that is leaving with no job pending -/
theorem fg_n {M : mk_M} {id : Nat} {LP LO : Nat × (Nat → Nat)} (i2 : id ≤ 12) (h4 : ¬ M (16 + 4 * id) 4 = 0) (h9 : M (16 + 4 * id) 9 = 0) (h3 : pu_ln M 3 LP) (h5 : pu_ln M 5 LO) :
    ∃ R3 R5 : Nat → Int32, f_X5_forgetIfLeft (nI id) M = some (mk_st (mk_sr (mk_st (mk_sr M 4 R3) 3 1 (nI (pu_dr id LP).1)) 6 R5) 5 1 (nI (pu_dr id LO).1)) ∧ (∀ i, i < (pu_dr id LP).1 → R3 i = nI ((pu_dr id LP).2 i)) ∧ (∀ i, i < (pu_dr id LO).1 → R5 i = nI ((pu_dr id LO).2 i)) := by
  have ho : ¬ mk_ob (nI id) 13 := ob_n (by omega) (by omega)
  have ec : (nI id).toNatClampNeg = id := cl_n (by omega)
  obtain ⟨R3, a1, a2⟩ := drop_n (id := id) h3 (by omega)
  obtain ⟨R5, b1, b2⟩ := drop_n (M := mk_st (mk_sr M 4 R3) 3 1 (nI (pu_dr id LP).1)) (x := 5) (id := id) (L := LO) ⟨by rw [mk_st_ne _ _ _ _ (by decide), mk_sr_off _ _ _ (by decide)]; exact h5.1, h5.2.1, fun i hi => by rw [mk_st_off _ _ _ _ (by decide), mk_sr_off _ _ _ (by decide)]; exact h5.2.2 i hi⟩ (by omega)
  refine ⟨R3, R5, ?_, a2, b2⟩
  unfold f_X5_forgetIfLeft
  rw [if_neg ho]
  simp only [if_neg ho, ec]
  rw [if_neg h4, if_pos h9, a1, Option.bind_some, b1]
  rfl
/-- so does the reference -/
theorem lv_n {M : mk_M} {id : Nat} {LP LO : Nat × (Nat → Nat)} (i2 : id ≤ 12) (h69 : ¬ M 69 id = 0) (h70 : ¬ M 70 id = 0) (hp : f_X6_pending (nI id) M = some 0) (h7 : M 68 7 = nI LP.1) (h9 : M 68 9 = nI LO.1) (p1 : LP.1 ≤ 12) (o1 : LO.1 ≤ 12) (p2 : ∀ i, i < LP.1 → M 75 i = nI (LP.2 i) ∧ LP.2 i ≤ 12) (o2 : ∀ i, i < LO.1 → M 76 i = nI (LO.2 i) ∧ LO.2 i ≤ 12) (p3 : pu_ij LP) (o3 : pu_ij LO) :
    ∃ R3 R5 : Nat → Int32, f_X6_leave (nI id) M = some (mk_st (mk_sr (mk_st (mk_sr (mk_st M 69 id 0) 75 R3) 68 7 (nI (pu_dr id LP).1)) 76 R5) 68 9 (nI (pu_dr id LO).1)) ∧ (∀ i, i < (pu_dr id LP).1 → R3 i = nI ((pu_dr id LP).2 i)) ∧ (∀ i, i < (pu_dr id LO).1 → R5 i = nI ((pu_dr id LO).2 i)) := by
  have ho : ¬ mk_ob (nI id) 13 := ob_n (by omega) (by omega)
  have ec : (nI id).toNatClampNeg = id := cl_n (by omega)
  obtain ⟨R3, a1, a2⟩ := take_n (M := mk_st M 69 id 0) (id := id) (L := LP) p1 (by omega) (fun j hj => (p2 j hj).2) p3 (by rw [mk_st_off _ _ _ _ (by decide)]; exact h7) (fun j hj => by rw [mk_st_off _ _ _ _ (by decide)]; exact (p2 j hj).1)
  obtain ⟨R5, b1, b2⟩ := lv43_n (M := mk_st (mk_sr (mk_st M 69 id 0) 75 R3) 68 7 (nI (pu_dr id LP).1)) (id := id) (L := LO) o1 (by omega) (fun j hj => (o2 j hj).2) o3 (by rw [mk_st_ne _ _ _ _ (by decide), mk_sr_off _ _ _ (by decide), mk_st_off _ _ _ _ (by decide)]; exact h9) (fun j hj => by rw [mk_st_off _ _ _ _ (by decide), mk_sr_off _ _ _ (by decide), mk_st_off _ _ _ _ (by decide)]; exact (o2 j hj).1)
  refine ⟨R3, R5, ?_, a2, b2⟩
  unfold f_X6_leave
  rw [if_neg ho]
  simp only [if_neg ho, ec, vb0]
  rw [if_neg h69, if_neg h70, hp, Option.bind_some, if_pos (by decide), a1, Option.bind_some, b1]
theorem pu_T.out {n n' : Nat} {M M' : mk_M} {L : Nat × (Nat → Nat)} {id : Nat} (hn : n ≤ n') (hL : pu_ij L) (h : pu_T n M L.2 L.1) (h69 : M' 69 id = 0) (h9 : M' (16 + 4 * id) 9 = 0) (ha : ∀ j, 1 ≤ j → j ≤ 12 → j ≠ id → pu_ad M M' j) : pu_T n' M' (pu_dr id L).2 (pu_dr id L).1 := by
  intro j j1 j2
  rw [dr_kn hL]
  by_cases q : j = id
  · subst q
    exact ⟨fun c => absurd rfl c.2, fun _ => ⟨h69, h9⟩⟩
  · have a := ha j j1 j2 q
    obtain ⟨c1, c2⟩ := h j j1 j2
    refine ⟨fun c => ⟨by rw [a.2.1 69 (by decide)]; exact (c1 c.1).1, pu_tk_ad hn a (c1 c.1).2⟩, fun c => ?_⟩
    have c' : ¬ pu_kn L.2 L.1 j := fun k => c ⟨k, q⟩
    exact ⟨by rw [a.2.1 69 (by decide)]; exact (c2 c').1, by rw [a.1.1]; exact (c2 c').2⟩
theorem pu_s1 : mk_S1 pu_I := by
  intro n M a1 hn hI
  have hI' := hI
  obtain ⟨t, np, no, ch, w, wd, P, O, hJ⟩ := hI'
  have hJ' := hJ
  obtain ⟨a1', a2', a3, a4, a5, a6, a7, a8, a9, a10, a11, a12⟩ := hJ'
  rcases hJ.kn a1 with ⟨id, k, i1, i2, rfl, hk, hP, k1, k2⟩ | ⟨-, k1, k2⟩
  · have hkn : pu_kn P np id := ⟨k, hk, hP⟩
    obtain ⟨per, dl, lo, hi, jb, pe, b1, b2, b3, b4, b5, b6, b7, b8, b9, b10, b11, b12, b13⟩ := hJ.tk i1 i2 hk hP
    have h69 := ((a10 id i1 i2).1 hkn).1
    have ho : ¬ mk_ob (nI id) 13 := ob_n (by omega) (by omega)
    have ec : (nI id).toNatClampNeg = id := cl_n (by omega)
    by_cases c3 : M 70 id = 0
    · -- goes
      have e5 : f_X5_remove (nI id) M = ((f_X5_forgetIfLeft (nI id) (mk_st M (16 + 4 * id) 4 1)).bind (fun r_12 => ((f_X5_isKnown (nI id) r_12).bind (fun r_14 => (if r_14 = 0 then (some ((0, 1), r_12)) else (some ((0, 0), r_12))))))) := by
        unfold f_X5_remove
        rw [k1, Option.bind_some, if_neg n1_0, if_neg ho]
        simp only [if_neg ho, ec]
        rw [b5.1, if_pos c3]
      have e6 : ∀ M1 : mk_M, (∀ x, 68 ≤ x → M1 x = M x) → f_X6_remove (nI id) M1 = ((f_X6_leave (nI id) (mk_st (mk_st M1 68 0 0) 70 id 1)).bind (fun r_11 => (if (r_11 69 id) = 0 then (some (1, r_11)) else (some (0, r_11))))) := by
        intro M1 hr
        unfold f_X6_remove
        rw [cg_kn hr, k2, Option.bind_some, Option.bind_some, if_neg n1_0, if_neg ho]
        simp only [ec]
        rw [hr 70 (by decide), if_pos c3]
        unfold f_X6_remove_23 f_X6_remove_28
        rw [go_111, Option.bind_some, if_neg n1_0, if_neg ho]
        simp only [if_neg ho, ec, vb1]
      have pe6 : ∀ M2 : mk_M, (∀ x, 78 ≤ x → M2 x = M x) → f_X6_pending (nI id) M2 = some (nI pe) := fun M2 hr => pe_n i2 ⟨by rw [hr 78 (by decide)]; exact b6.2.1, by omega, b8.2.2, by omega, fun j h1 h2 h3 => by rw [hr 86 (by decide)]; exact (b9 j h1 h2 h3).2.2.2.1⟩
      rcases Nat.eq_zero_or_pos pe with q | q
      · -- it is forgotten
        subst q
        have l3 : pu_ln (mk_st M (16 + 4 * id) 4 1) 3 (np, P) := ⟨by simp (disch := omega) only [mk_st_ne]; exact a6.1, a6.2.2.1, fun i hi => by simp (disch := omega) only [mk_st_off]; exact ⟨(a6.2.2.2 i hi).1, (a6.2.2.2 i hi).2.2⟩⟩
        have l5 : pu_ln (mk_st M (16 + 4 * id) 4 1) 5 (no, O) := ⟨by simp (disch := omega) only [mk_st_ne]; exact a8.1, a8.2.2.1, fun i hi => by simp (disch := omega) only [mk_st_off]; exact ⟨(a8.2.2.2 i hi).1, hJ.ord i hi⟩⟩
        obtain ⟨R3, R5, f1, f2, f3⟩ := fg_n (M := mk_st M (16 + 4 * id) 4 1) (id := id) i2 (by rw [mk_st_same]; exact n1_0) (by rw [mk_st_ne _ _ _ _ (by omega)]; exact b8.1) l3 l5
        generalize hM1 : mk_st (mk_sr (mk_st (mk_sr (mk_st M (16 + 4 * id) 4 1) 4 R3) 3 1 (nI (pu_dr id (np, P)).1)) 6 R5) 5 1 (nI (pu_dr id (no, O)).1) = M1 at f1
        have hr1 : ∀ x, 68 ≤ x → M1 x = M x := fun x hx => by rw [← hM1]; simp (disch := omega) only [mk_st_off, mk_sr_off]
        have ij3 : pu_ij (np, P) := a7
        have ij5 : pu_ij (no, O) := a9
        have kn1 : f_X5_isKnown (nI id) M1 = some 0 := by
          have e3 : M1 3 1 = nI (pu_dr id (np, P)).1 := by rw [← hM1]; simp (disch := omega) only [mk_st_same, mk_st_ne, mk_sr_off]
          have e4 : ∀ i, i < (pu_dr id (np, P)).1 → M1 4 i = nI ((pu_dr id (np, P)).2 i) := fun i hi => by rw [← hM1]; simp (disch := omega) only [mk_st_off, mk_sr_off, mk_sr_row]; exact f2 i hi
          have hin := dr_in (id := id) (L := (np, P)) (fun i hi => (a6.2.2.2 i hi).2.2)
          rcases pl_of (x := 3) e3 (Nat.le_trans (dr_le _ _) a6.2.2.1) e4 hin (dr_ij ij3) (nI id) with ⟨kk, q1, q2, -⟩ | ⟨-, q2⟩
          · have e : (pu_dr id (np, P)).2 kk = id := (nI_inj (by omega) (by have := hin kk q1; omega) q2).symm
            exact absurd rfl (((dr_kn ij3 id).mp ⟨kk, q1, e⟩).2)
          · unfold f_X5_isKnown
            rw [q2, Option.bind_some, if_pos rfl]
        rw [f1, Option.bind_some, kn1, Option.bind_some, if_pos rfl] at e5
        have e6' := e6 M1 hr1
        obtain ⟨S3, S5, g1, g2, g3⟩ := lv_n (M := mk_st (mk_st M1 68 0 0) 70 id 1) (id := id) (LP := (np, P)) (LO := (no, O)) i2 (by simp (disch := omega) only [mk_st_ne]; rw [hr1 69 (by decide), h69]; exact n1_0) (by rw [mk_st_same]; exact n1_0) (pe6 _ (fun x hx => by simp (disch := omega) only [mk_st_off]; exact hr1 x (by omega))) (by simp (disch := omega) only [mk_st_ne]; rw [hr1 68 (by decide)]; exact a6.2.1) (by simp (disch := omega) only [mk_st_ne]; rw [hr1 68 (by decide)]; exact a8.2.1) a6.2.2.1 a8.2.2.1 (fun i hi => by simp (disch := omega) only [mk_st_off]; rw [hr1 75 (by decide)]; exact ⟨(a6.2.2.2 i hi).2.1, (a6.2.2.2 i hi).2.2.2⟩) (fun i hi => by simp (disch := omega) only [mk_st_off]; rw [hr1 76 (by decide)]; exact ⟨(a8.2.2.2 i hi).2.1, (hJ.ord i hi).2⟩) ij3 ij5
        rw [g1, Option.bind_some, if_pos (by simp (disch := omega) only [mk_st_same, mk_st_off, mk_sr_off])] at e6'
        refine ⟨_, _, e5, Or.inl rfl, e6', ?_, fun _ => ?_, t, (pu_dr id (np, P)).1, (pu_dr id (no, O)).1, ch, w, wd, (pu_dr id (np, P)).2, (pu_dr id (no, O)).2, ?_, ?_, ?_, ?_, ?_, ?_, dr_ij ij3, ?_, dr_ij ij5, ?_, ?_, ?_⟩
        · refine Eq.trans ?_ (show (0 : Int32) = fc_L_remove _ from rfl)
          dsimp only
          simp (disch := omega) only [mk_st_same, mk_st_ne, mk_sr_off]
        · exact Iff.rfl
        · dsimp only
          subst hM1
          simp (disch := omega) only [mk_st_same, mk_st_ne, mk_sr_off, mk_st_off]
          exact ⟨a1'.1, a1'.2.1, by omega, by omega⟩
        · dsimp only
          subst hM1
          simp (disch := omega) only [mk_st_same, mk_st_ne, mk_sr_off, mk_st_off]
          exact a2'
        · dsimp only
          subst hM1
          simp (disch := omega) only [mk_st_same, mk_st_ne, mk_sr_off, mk_st_off]
          exact a3
        · dsimp only
          subst hM1
          simp (disch := omega) only [mk_st_same, mk_st_ne, mk_sr_off, mk_st_off]
          exact a4
        · dsimp only
          subst hM1
          simp (disch := omega) only [mk_st_same, mk_st_ne, mk_sr_off, mk_st_off]
          exact a5
        · dsimp only
          subst hM1
          simp (disch := omega) only [mk_st_same, mk_st_ne, mk_sr_off, mk_st_off, mk_sr_row]
          exact ⟨trivial, trivial, Nat.le_trans (dr_le _ _) a6.2.2.1, fun i hi => ⟨f2 i hi, g2 i hi, dr_in (id := id) (L := (np, P)) (fun i hi => (a6.2.2.2 i hi).2.2) i hi⟩⟩
        · dsimp only
          subst hM1
          simp (disch := omega) only [mk_st_same, mk_st_ne, mk_sr_off, mk_st_off, mk_sr_row]
          refine ⟨trivial, trivial, Nat.le_trans (dr_le _ _) a8.2.2.1, fun i hi => ⟨f3 i hi, g3 i hi, ?_⟩⟩
          obtain ⟨⟨i', h1, h2⟩, h3⟩ := (dr_kn ij5 ((pu_dr id (no, O)).2 i)).mp ⟨i, hi, rfl⟩
          refine (dr_kn ij3 _).mpr ⟨?_, h3⟩
          dsimp only at h1 h2 ⊢
          rw [← h2]; exact (a8.2.2.2 i' h1).2.2
        · refine pu_T.out (M := M) (L := (np, P)) (Nat.le_succ n) ij3 a10 ?_ ?_ ?_
          · dsimp only
            simp (disch := omega) only [mk_st_same, mk_st_ne, mk_sr_off, mk_st_off, mk_sr_row]
          · dsimp only
            subst hM1
            simp (disch := omega) only [mk_st_same, mk_st_ne, mk_sr_off, mk_st_off, mk_sr_row]
            exact b8.1
          · intro j j1 j2 j3
            dsimp only
            subst hM1
            refine ⟨⟨?_, ?_, ?_, ?_⟩, fun y hy => ?_, fun y k y1 y2 hk => ?_⟩
            · simp (disch := omega) only [mk_st_off, mk_sr_off]
            · simp (disch := omega) only [mk_st_off, mk_sr_off]
            · simp (disch := omega) only [mk_st_off, mk_sr_off]
            · simp (disch := omega) only [mk_st_off, mk_sr_off]
            · simp (disch := omega) only [mk_st_ne, mk_sr_off]
            · simp (disch := omega) only [mk_st_ne, mk_sr_off]
        · dsimp only
          subst hM1
          simp (disch := omega) only [mk_st_same, mk_st_ne, mk_sr_off, mk_st_off, mk_sr_row]
          exact a11
        · dsimp only
          subst hM1
          intro k hk
          refine pu_ok_same (M := M) ?_ ?_ ?_ ?_ (pu_ok_dr (L := (np, P)) a12 k hk)
          · simp (disch := omega) only [mk_sr_off, mk_st_off]
          · simp (disch := omega) only [mk_sr_off, mk_st_off]
          · simp (disch := omega) only [mk_sr_off, mk_st_off]
          · simp (disch := omega) only [mk_sr_off, mk_st_off]
      · -- it stays
        have f1 : f_X5_forgetIfLeft (nI id) (mk_st M (16 + 4 * id) 4 1) = some (mk_st M (16 + 4 * id) 4 1) := by
          unfold f_X5_forgetIfLeft
          rw [if_neg ho]
          simp only [if_neg ho, ec]
          rw [mk_st_same, if_neg n1_0, mk_st_ne _ _ _ _ (by omega), b8.1, if_neg (nI_ne0 q (by omega))]
        have kn1 : f_X5_isKnown (nI id) (mk_st M (16 + 4 * id) 4 1) = some 1 := by
          rw [← k1]
          unfold f_X5_isKnown
          have e : ∀ (n : Nat) (i : Int32), f_X1_placeOf_2 3 n (nI id) i (mk_st M (16 + 4 * id) 4 1) = f_X1_placeOf_2 3 n (nI id) i M := by
            intro n
            induction n with
            | zero => intro i; rfl
            | succ n ih => intro i; simp (disch := omega) only [f_X1_placeOf_2, mk_st_ne, mk_st_off, ih]
          unfold f_X1_placeOf
          rw [e]
        rw [f1, Option.bind_some, kn1, Option.bind_some, if_neg n1_0] at e5
        have e6' := e6 (mk_st M (16 + 4 * id) 4 1) (fun x hx => by simp (disch := omega) only [mk_st_off])
        have g1 : f_X6_leave (nI id) (mk_st (mk_st (mk_st M (16 + 4 * id) 4 1) 68 0 0) 70 id 1) = some (mk_st (mk_st (mk_st M (16 + 4 * id) 4 1) 68 0 0) 70 id 1) := by
          unfold f_X6_leave
          rw [if_neg ho]
          simp only [if_neg ho, ec]
          simp (disch := omega) only [mk_st_same, mk_st_ne]
          rw [h69, if_neg n1_0, if_neg n1_0, pe6 _ (fun x hx => by simp (disch := omega) only [mk_st_off]), Option.bind_some, if_neg (nle0 q (by omega))]
        rw [g1, Option.bind_some, if_neg (by simp (disch := omega) only [mk_st_ne]; rw [h69]; exact n1_0)] at e6'
        refine ⟨_, _, e5, Or.inl rfl, e6', ?_, fun _ => ?_, t, np, no, ch, w, wd, P, O, ?_, ?_, ?_, ?_, ?_, ?_, a7, ?_, a9, ?_, ?_, ?_⟩
        · refine Eq.trans ?_ (show (0 : Int32) = fc_L_remove _ from rfl)
          dsimp only
          simp (disch := omega) only [mk_st_same, mk_st_ne]
        · exact Iff.rfl
        · dsimp only
          simp (disch := omega) only [mk_st_same, mk_st_ne, mk_sr_off, mk_st_off]
          exact ⟨a1'.1, a1'.2.1, by omega, by omega⟩
        · dsimp only
          simp (disch := omega) only [mk_st_same, mk_st_ne, mk_sr_off, mk_st_off]
          exact a2'
        · dsimp only
          simp (disch := omega) only [mk_st_same, mk_st_ne, mk_sr_off, mk_st_off]
          exact a3
        · dsimp only
          simp (disch := omega) only [mk_st_same, mk_st_ne, mk_sr_off, mk_st_off]
          exact a4
        · dsimp only
          simp (disch := omega) only [mk_st_same, mk_st_ne, mk_sr_off, mk_st_off]
          exact a5
        · dsimp only
          simp (disch := omega) only [mk_st_same, mk_st_ne, mk_sr_off, mk_st_off]
          exact a6
        · dsimp only
          simp (disch := omega) only [mk_st_same, mk_st_ne, mk_sr_off, mk_st_off]
          exact a8
        · refine pu_T.one (M := M) (Nat.le_succ n) a10 hkn ?_ ⟨per, dl, lo, hi, jb, pe, ?_⟩ ?_
          · dsimp only
            simp (disch := omega) only [mk_st_same, mk_st_ne]; exact h69
          · dsimp only
            simp (disch := omega) only [mk_st_same, mk_st_ne, mk_st_off]
            exact ⟨b1, b2, b3, b4, ⟨trivial, Or.inr trivial⟩, ⟨b6.1, b6.2.1, by omega⟩, b7, b8, b9, b10, b11, b12, b13⟩
          · intro j j1 j2 j3
            dsimp only
            refine ⟨⟨?_, ?_, ?_, ?_⟩, fun y hy => ?_, fun y k y1 y2 hk => ?_⟩
            · simp (disch := omega) only [mk_st_off, mk_sr_off]
            · simp (disch := omega) only [mk_st_off, mk_sr_off]
            · simp (disch := omega) only [mk_st_off, mk_sr_off]
            · simp (disch := omega) only [mk_st_off, mk_sr_off]
            · simp (disch := omega) only [mk_st_ne, mk_sr_off]
            · simp (disch := omega) only [mk_st_ne, mk_sr_off]
        · dsimp only
          simp (disch := omega) only [mk_st_same, mk_st_ne, mk_sr_off, mk_st_off, mk_sr_row]
          exact a11
        · dsimp only
          intro k hk
          refine pu_ok_same (M := M) ?_ ?_ ?_ ?_ (a12 k hk)
          · simp (disch := omega) only [mk_sr_off, mk_st_off]
          · simp (disch := omega) only [mk_sr_off, mk_st_off]
          · simp (disch := omega) only [mk_sr_off, mk_st_off]
          · simp (disch := omega) only [mk_sr_off, mk_st_off]
    · refine ⟨((2, 0), M), (0, mk_st M 68 0 2), ?_, Or.inr (Or.inr rfl), ?_, by show mk_st M 68 0 2 68 0 = 2; rw [mk_st_same], fun h => absurd h (show ¬ (2 : Int32) = 0 by decide), hI.up (Nat.le_succ n) hn (pu_ag.th M 2)⟩
      · unfold f_X5_remove
        rw [k1, Option.bind_some, if_neg n1_0, if_neg ho]
        simp only [if_neg ho, ec]
        rw [b5.1, if_neg c3]
      · show f_X6_remove (nI id) M = _
        unfold f_X6_remove
        rw [k2, Option.bind_some, Option.bind_some, if_neg n1_0, if_neg ho]
        simp only [ec]
        rw [if_neg c3]
        unfold f_X6_remove_28
        rw [go_10]; rfl
  · refine ⟨((3, 0), M), (0, mk_st M 68 0 1), ?_, Or.inr (Or.inl rfl), ?_, by show mk_st M 68 0 1 68 0 = 1; rw [mk_st_same], fun h => absurd h n1_0, hI.up (Nat.le_succ n) hn (pu_ag.th M 1)⟩
    · unfold f_X5_remove
      rw [k1, Option.bind_some, if_pos rfl]
    · show f_X6_remove a1 M = _
      unfold f_X6_remove
      rw [k2, Option.bind_some, Option.bind_some, if_pos rfl]
      unfold f_X6_remove_23 f_X6_remove_28
      rw [go_0]; rfl
