theorem chg_J {n : Nat} {A B : mk_M} {t np no ch w wd : Nat} {P O : Nat → Nat} (hJ : pu_J n (pu_ov A B) t np no ch w wd P O) (hch : ch < t) {id pe : Nat} (i1 : 1 ≤ id) (i2 : id ≤ 12) (hkn : pu_kn P np id) (h9 : A (16 + 4 * id) 9 = nI pe) (hp : 0 < pe) (hp8 : pe ≤ 8) :
    ∃ (A' B' : mk_M) (np' no' ch' : Nat) (P' O' : Nat → Nat), f_X5_charge (nI id) A = some A' ∧ f_X6_charge (nI id) B = some B' ∧ (∀ x, 68 ≤ x → A' x = A x) ∧ ((∀ x, x < 68 → B' x = B x) ∧ B' 68 0 = B 68 0) ∧ pu_J n (pu_ov A' B') t np' no' ch' w wd P' O' := by
  have ho : ¬ mk_ob (nI id) 13 := ob_n (by omega) (by omega)
  have ec : (nI id).toNatClampNeg = id := cl_n (by omega)
  have hJ' := hJ
  obtain ⟨a1', a2', a3, a4, a5, a6, a7, a8, a9, a10, a11, a12⟩ := hJ'
  obtain ⟨q69, htk⟩ := (a10 id i1 i2).1 hkn
  unfold pu_tk at htk
  simp (disch := omega) only [ov_lo, ov_hi] at a1' a3 a5 htk q69
  obtain ⟨per, dl, lo, hi, jb, pe', b1, b2, b3, b4, b5, b6, b7, b8, b9, b10, b11, b12, b13⟩ := htk
  have epe : pe' = pe := nI_inj (by omega) (by omega) (by rw [← b8.1, h9])
  subst epe
  have hhi : hi ≤ 200 := by rcases b4.2.2 with z | z <;> omega
  have hlo : lo ≤ 200 := by omega
  have v9a := (b9 (jb + 1 - pe') (by omega) (by omega) (by omega)).1
  have v9b := (b9 (jb + 1 - pe') (by omega) (by omega) (by omega)).2.1
  obtain ⟨cg, dm, c1, c2, c3, c4, c5⟩ := b11 hp
  clear b11
  have ht : t < 2 ^ 31 := by omega
  have hd : A (16 + 4 * id + 1) ((jb + 1 - pe') % 8) = nI dm := by rw [v9a]; exact c3
  have hjb : pu_jb B id jb pe' := ⟨b6.2.1, by omega, b8.2.2, by omega, fun j h1 h2 h3 => (b9 j h1 h2 h3).2.2.2.1⟩
  obtain ⟨cf1, cf2⟩ := cf_n (A := A) (x := 16 + 4 * id) (nI t) b6.1 b8.1 hp b8.2.2 (by omega) c1 hd c4 c5
  obtain ⟨ch1, ch2, ch3⟩ := ch_n (B := B) (id := id) (ch := ch) i2 hjb hp c2 c3 c5 c4 b4.2.1 b3.2.1 hhi hlo a5.2.1 (by omega)
  have e5 : f_X5_charge (nI id) A = ((f_X3_chargeFirst (16 + 4 * id) (nI t) A).bind (fun r_5 => (if r_5.1 = 0 then (if (r_5.2 0 8) = 0 then ((f_X3_isHigh (16 + 4 * id) r_5.2).bind (fun r_13 => (if r_13 = 0 then (f_X5_forgetIfLeft (nI id) r_5.2) else (if (r_5.2 (16 + 4 * id) 10) = (r_5.2 (16 + 4 * id) 2) then ((f_X5_becomeHigh r_5.2).bind (fun r_21 => (f_X5_forgetIfLeft (nI id) r_21))) else (f_X5_forgetIfLeft (nI id) r_5.2))))) else (f_X5_forgetIfLeft (nI id) r_5.2)) else (f_X5_forgetIfLeft (nI id) r_5.2)))) := by
    unfold f_X5_charge
    rw [if_neg ho]
    simp only [ec, a1'.1, ob_id]
  rcases Nat.lt_or_ge (cg + 1) dm with q | q
  · -- it goes on
    have J2 := cg_N hJ (cg := cg) (dm := dm) i1 i2 hkn b6.1 b8.1 (by omega) b8.2.1 hp (by omega) c3 c5 q
    rw [cf1 q, Option.bind_some] at e5
    dsimp only at e5
    rw [if_pos rfl] at e5
    generalize hA2 : mk_st (mk_st A (16 + 4 * id) 7 (A (16 + 4 * id) 7 + 1)) (16 + 4 * id) 10 (nI (cg + 1)) = A2 at e5 J2
    have fA2 : ∀ x, 68 ≤ x → A2 x = A x := fun x hx => by rw [← hA2]; simp (disch := omega) only [mk_st_off]
    have A2_8 : A2 0 8 = B 68 24 := by rw [← hA2]; simp (disch := omega) only [mk_st_ne]; exact a3.1
    have A2_3 : A2 (16 + 4 * id) 3 = nI hi := by rw [← hA2]; simp (disch := omega) only [mk_st_ne]; exact b4.1
    have A2_9 : A2 (16 + 4 * id) 9 = nI pe' := by rw [← hA2]; simp (disch := omega) only [mk_st_ne]; exact b8.1
    have A2_10 : A2 (16 + 4 * id) 10 = nI (cg + 1) := by rw [← hA2]; simp (disch := omega) only [mk_st_same]
    have A2_2 : A2 (16 + 4 * id) 2 = nI lo := by rw [← hA2]; simp (disch := omega) only [mk_st_ne]; exact b3.1
    have A2_09 : A2 0 9 = nI t := by rw [← hA2]; simp (disch := omega) only [mk_st_ne]; exact a1'.1
    have A2_14 : A2 14 1 = nI ch := by rw [← hA2]; simp (disch := omega) only [mk_st_ne]; exact a5.1
    have fg : f_X5_forgetIfLeft (nI id) A2 = some A2 := fg_no i2 (Or.inr (by rw [A2_9]; exact nI_ne0 hp (by omega)))
    by_cases c : B 68 24 = 0 ∧ 0 < hi ∧ cg + 1 = lo
    · -- the mode changes
      have J3 := cm_J J2 hch
      obtain ⟨A4, B4, np', no', P', O', g1, g2, g3, g4, g5, g6⟩ := gv_J J3
      have A3_3 : ¬ (mk_st (mk_st (mk_st A2 0 8 1) 15 (ch % 8) (nI t)) 14 1 (nI (ch + 1))) (16 + 4 * id) 3 ≤ 0 := by
        simp (disch := omega) only [mk_st_ne]
        rw [A2_3]; exact nle0 c.2.1 (by omega)
      have A4x := g5 id i1 i2 A3_3
      simp (disch := omega) only [mk_st_off] at A4x
      have bh : f_X5_becomeHigh A2 = some A4 := by
        unfold f_X5_becomeHigh
        rw [mk_st_ne _ _ _ _ (by decide), A2_09, put_n (t := ch) (k := 8) (nI t) rfl (by decide) (by decide) (by omega) (by rw [mk_st_off _ _ _ _ (by decide)]; exact A2_14), Option.bind_some]
        exact g1
      have e6 := ch3 q c
      rw [a1'.2.1] at e6
      refine ⟨A4, B4, np', no', ch + 1, P', O', ?_, ?_, ?_, ?_, g6⟩
      · rw [e5, if_pos (show A2 0 8 = 0 by rw [A2_8]; exact c.1)]
        unfold f_X3_isHigh
        rw [if_neg (show ¬ A2 (16 + 4 * id) 3 ≤ 0 by rw [A2_3]; exact nle0 c.2.1 (by omega)), Option.bind_some, if_neg n1_0, if_pos (show A2 (16 + 4 * id) 10 = A2 (16 + 4 * id) 2 by rw [A2_10, A2_2, c.2.2]), bh, Option.bind_some]
        exact fg_no i2 (Or.inr (by rw [A4x, A2_9]; exact nI_ne0 hp (by omega)))
      · rw [e6]; exact g2
      · intro x hx
        rw [g3 x hx]
        simp (disch := omega) only [mk_st_off]; exact fA2 x hx
      · refine ⟨fun x hx => ?_, ?_⟩
        · rw [g4.1 x hx]
          simp (disch := omega) only [mk_st_off]
        · rw [g4.2]
          simp (disch := omega) only [mk_st_ne]
    · refine ⟨A2, _, np, no, ch, P, O, ?_, ch2 q c, fA2, ?_, J2⟩
      · rw [e5, fg]
        by_cases d1 : B 68 24 = 0
        · rw [if_pos (show A2 0 8 = 0 by rw [A2_8]; exact d1)]
          unfold f_X3_isHigh
          rcases Nat.eq_zero_or_pos hi with d2 | d2
          · rw [if_pos (show A2 (16 + 4 * id) 3 ≤ 0 by rw [A2_3, d2]; decide), Option.bind_some, if_pos rfl]
          · rw [if_neg (show ¬ A2 (16 + 4 * id) 3 ≤ 0 by rw [A2_3]; exact nle0 d2 (by omega)), Option.bind_some, if_neg n1_0, if_neg (show ¬ A2 (16 + 4 * id) 10 = A2 (16 + 4 * id) 2 by rw [A2_10, A2_2]; exact fun z => c ⟨d1, d2, nI_inj (by omega) (by omega) z⟩)]
        · rw [if_neg (show ¬ A2 0 8 = 0 by rw [A2_8]; exact d1)]
      · refine ⟨fun x hx => ?_, ?_⟩
        · simp (disch := omega) only [mk_st_off]
        · simp (disch := omega) only [mk_st_ne]
  · -- it ends
    have q' : cg + 1 = dm := by omega
    rw [cf2 q', Option.bind_some] at e5
    dsimp only at e5
    rw [if_neg n1_0] at e5
    have e6 := ch1 q'
    have ev : (if nI t ≤ A (16 + 4 * id + 2) ((jb + 1 - pe') % 8) + A (16 + 4 * id) 1 then A (16 + 4 * id) 8 else A (16 + 4 * id) 8 + 1) = (if B 68 21 ≤ B 83 (8 * id + (jb + 1 - pe') % 8) + B 72 id then B 81 id else B 81 id + 1) := by
      rw [v9b, b2.1, b2.2.1, b7.2.2, a1'.2.1]
    have J2 := cg_E hJ (id := id) (jb := jb) (pe := pe') i1 i2 hkn b6.1 b8.1 (by omega) b8.2.1 hp (nI (cg + 1)) (nI (cg + 1)) _ _ ev ht
    rw [a1'.2.1] at e6 J2
    generalize hA2 : mk_st (mk_st (mk_st (mk_st (mk_st (mk_st A (16 + 4 * id) 7 (A (16 + 4 * id) 7 + 1)) (16 + 4 * id) 10 (nI (cg + 1))) (16 + 4 * id + 3) ((jb + 1 - pe') % 8) (nI t)) (16 + 4 * id) 8 (if nI t ≤ A (16 + 4 * id + 2) ((jb + 1 - pe') % 8) + A (16 + 4 * id) 1 then A (16 + 4 * id) 8 else A (16 + 4 * id) 8 + 1)) (16 + 4 * id) 9 (nI (pe' - 1))) (16 + 4 * id) 10 0 = A2 at e5 J2
    generalize hB2 : mk_st (mk_st (mk_st (mk_st B 85 (8 * id + (jb + 1 - pe') % 8) (nI (cg + 1))) 80 id (B 80 id + 1)) 86 (8 * id + (jb + 1 - pe') % 8) (nI t)) 81 id (if nI t ≤ B 83 (8 * id + (jb + 1 - pe') % 8) + B 72 id then B 81 id else B 81 id + 1) = B2 at e6 J2
    have fA2 : ∀ x, 68 ≤ x → A2 x = A x := fun x hx => by rw [← hA2]; simp (disch := omega) only [mk_st_off]
    have fB2 : (∀ x, x < 68 → B2 x = B x) ∧ B2 68 0 = B 68 0 := ⟨fun x hx => by rw [← hB2]; simp (disch := omega) only [mk_st_off], by rw [← hB2]; simp (disch := omega) only [mk_st_ne]⟩
    have A2_9 : A2 (16 + 4 * id) 9 = nI (pe' - 1) := by rw [← hA2]; simp (disch := omega) only [mk_st_same, mk_st_ne]
    have A2_4 : A2 (16 + 4 * id) 4 = B 70 id := by rw [← hA2]; simp (disch := omega) only [mk_st_ne]; exact b5.1
    have B2_70 : B2 70 id = B 70 id := by rw [← hB2]; simp (disch := omega) only [mk_st_ne]
    by_cases c : ¬ B 70 id = 0 ∧ pe' = 1
    · obtain ⟨A3, B3, np', no', P', O', g1, g2, g3, g4, g5⟩ := lv_J J2 i1 i2 hkn (by rw [A2_9, c.2]; rfl) (by rw [A2_4]; exact c.1)
      exact ⟨A3, B3, np', no', ch, P', O', by rw [e5]; exact g1, by rw [e6]; exact g2, fun x hx => by rw [g3 x hx, fA2 x hx], ⟨fun x hx => by rw [g4.1 x hx, fB2.1 x hx], by rw [g4.2, fB2.2]⟩, g5⟩
    · have hp2 : f_X6_pending (nI id) B2 = some (nI (pe' - 1)) := by
        have hT2 : pu_T n (pu_ov A2 B2) P np := by obtain ⟨-, -, -, -, -, -, -, -, -, z, -⟩ := J2; exact z
        obtain ⟨-, htk2⟩ := (hT2 id i1 i2).1 hkn
        unfold pu_tk at htk2
        simp (disch := omega) only [ov_lo, ov_hi] at htk2
        obtain ⟨per2, dl2, lo2, hi2, jb2, pe2, -, -, -, -, -, d6, -, d8, d9, -⟩ := htk2
        have e : pe2 = pe' - 1 := nI_inj (by omega) (by omega) (by rw [← d8.1, A2_9])
        rw [← e]
        exact pe_n i2 ⟨d6.2.1, by omega, d8.2.2, by omega, fun j h1 h2 h3 => (d9 j h1 h2 h3).2.2.2.1⟩
      have cc : B 70 id = 0 ∨ 0 < pe' - 1 := by
        by_cases z : B 70 id = 0
        · exact Or.inl z
        · exact Or.inr (by have : pe' ≠ 1 := fun y => c ⟨z, y⟩; omega)
      refine ⟨A2, B2, np, no, ch, P, O, ?_, ?_, fA2, fB2, J2⟩
      · rw [e5]
        exact fg_no i2 (by
          rcases cc with z | z
          · exact Or.inl (by rw [A2_4]; exact z)
          · exact Or.inr (by rw [A2_9]; exact nI_ne0 z (by omega)))
      · rw [e6]
        exact lv_no i2 hp2 (by omega) (by
          rcases cc with z | z
          · exact Or.inl (by rw [B2_70]; exact z)
          · exact Or.inr z)
theorem tk_J {n : Nat} {A B : mk_M} {t np no ch w wd : Nat} {P O : Nat → Nat} (hJ : pu_J n (pu_ov A B) t np no ch w wd P O) (ht : t < 1000 * n) :
    ∃ (v : Int32) (A' B' : mk_M) (np' no' ch' : Nat) (P' O' : Nat → Nat), f_X5_advance A = some (v, A') ∧ f_X6_oneTick B = some (v, B') ∧ (∀ x, 68 ≤ x → A' x = A x) ∧ ((∀ x, x < 68 → B' x = B x) ∧ B' 68 0 = B 68 0) ∧ pu_J n (pu_ov A' B') (t + 1) np' no' ch' w wd P' O' := by
  have hJo := hJ.ord
  have hJ' := hJ
  obtain ⟨a1', a2', a3, a4, a5, a6, a7, a8, a9, a10, a11, a12⟩ := hJ'
  simp (disch := omega) only [ov_lo, ov_hi] at a1' a2' a5 a6 a8
  have hn5 : n ≤ 512 := a1'.2.2.2
  have ht31 : t < 2 ^ 31 := by omega
  have hpk : ∀ i, i < no → pu_kn P np (O i) ∧ A (16 + 4 * O i) 9 = nI ((A (16 + 4 * O i) 9).toNatClampNeg) ∧ f_X6_pending (nI (O i)) B = some (nI ((A (16 + 4 * O i) 9).toNatClampNeg)) ∧ (A (16 + 4 * O i) 9).toNatClampNeg ≤ 8 := by
    intro i hi
    have hr := hJo i hi
    obtain ⟨q69, htk⟩ := (a10 (O i) hr.1 hr.2).1 (a8.2.2.2 i hi).2.2
    unfold pu_tk at htk
    simp (disch := omega) only [ov_lo, ov_hi] at htk
    obtain ⟨per, dl, lo, hi', jb, pe, b1, b2, b3, b4, b5, b6, b7, b8, b9, b10, b11, b12, b13⟩ := htk
    rw [b8.1, cl_n (by omega)]
    exact ⟨(a8.2.2.2 i hi).2.2, rfl, pe_n hr.2 ⟨b6.2.1, by omega, b8.2.2, by omega, fun j h1 h2 h3 => (b9 j h1 h2 h3).2.2.2.1⟩, by omega⟩
  have rc := ru_c (A := A) (no := no) (O := O) (pv := fun id => (A (16 + 4 * id) 9).toNatClampNeg) a8.1 a8.2.2.1 (fun i hi => ⟨(a8.2.2.2 i hi).1, (hJo i hi).2, (hpk i hi).2.1, (hpk i hi).2.2.2⟩) no 0 mk_F (by omega) (mk_F_lt (by omega)) (fun j hj => by omega)
  have rr := ru_r (B := B) (no := no) (O := O) (pv := fun id => (A (16 + 4 * id) 9).toNatClampNeg) a8.2.1 a8.2.2.1 (fun i hi => ⟨(a8.2.2.2 i hi).2.1, (hJo i hi).2, (hJo i hi).1, (hpk i hi).2.2.1, (hpk i hi).2.2.2⟩) no 0 mk_F (by omega) (mk_F_lt (by omega)) (fun j hj => by omega)
  have hm : t % 256 < 256 := Nat.mod_lt _ (by decide)
  have er : nI t - nI t / 256 * 256 = nI (t % 256) := by rw [show (256 : Int32) = nI 256 from rfl, pk_rem ht31 (by decide) (by decide)]
  have adv : ∀ v : Int32, f_X5_firstToRun A = some v → f_X5_advance A = (if v = 0 then ((f_X5_settle (mk_st (mk_st (mk_st A 0 9 (nI (t + 1))) 13 (t % 256) v) 12 1 (nI (t + 1)))).bind (fun r_9 => (some (v, r_9)))) else ((f_X5_charge v (mk_st (mk_st (mk_st A 0 9 (nI (t + 1))) 13 (t % 256) v) 12 1 (nI (t + 1)))).bind (fun r_7 => (some (v, r_7))))) := by
    intro v hv
    unfold f_X5_advance
    rw [hv, Option.bind_some, a1'.1, nI_1, put_n (t := t) (k := 256) v rfl (by decide) (by decide) ht31 (by rw [mk_st_off _ _ _ _ (by decide)]; exact a2'.1), Option.bind_some]
  have ot : ∀ v : Int32, f_X6_oneTick_46 v B = (if v ≤ 0 then (f_X6_oneTick_114 mk_F 0 (mk_st (mk_st (mk_st (mk_st (mk_st (mk_st B 88 (t % 256) v) 68 21 (nI (t + 1))) 68 22 (B 68 22 + 1)) 68 23 (nI (t + 1))) 68 24 0) 68 9 (B 68 7))) else ((f_X6_charge v (mk_st (mk_st B 88 (t % 256) v) 68 21 (nI (t + 1)))).bind (fun r_8 => (some (v, r_8))))) := by
    intro v
    unfold f_X6_oneTick_46
    simp (disch := omega) only [mk_st_same, mk_st_ne, a1'.2.1, er, nI_1]
    rw [if_neg (ob_n hm (by decide)), cl_n (by omega)]
  rcases rc with ⟨p, p1, p2, p3, p4⟩ | ⟨p1, p2⟩
  · rcases rr with ⟨r, r1, r2, r3, r4⟩ | ⟨r1, -⟩
    · have epr : p = r := by
        rcases Nat.lt_trichotomy p r with q | q | q
        · have := r3 p q; omega
        · exact q
        · have := p3 r q; omega
      subst epr
      have hr := hJo p p1
      have J1 := tm_J hJ ht (nI (O p))
      have h9 : (mk_st (mk_st (mk_st A 0 9 (nI (t + 1))) 13 (t % 256) (nI (O p))) 12 1 (nI (t + 1))) (16 + 4 * O p) 9 = nI ((A (16 + 4 * O p) 9).toNatClampNeg) := by
        simp (disch := omega) only [mk_st_ne]; exact (hpk p p1).2.1
      obtain ⟨A', B', np', no', ch', P', O', g1, g2, g3, g4, g5⟩ := chg_J J1 (by omega) hr.1 hr.2 (hpk p p1).1 h9 p2 (hpk p p1).2.2.2
      refine ⟨nI (O p), A', B', np', no', ch', P', O', ?_, ?_, ?_, ?_, g5⟩
      · rw [adv _ p4, if_neg (nI_ne0 hr.1 (by omega)), g1]; rfl
      · show f_X6_oneTick_4 mk_F 0 (nI 0) B = _
        rw [r4, ot, if_neg (nle0 hr.1 (by omega)), g2]; rfl
      · intro x hx
        rw [g3 x hx]
        simp (disch := omega) only [mk_st_off]
      · refine ⟨fun x hx => ?_, ?_⟩
        · rw [g4.1 x hx]
          simp (disch := omega) only [mk_st_off]
        · rw [g4.2]
          simp (disch := omega) only [mk_st_ne]
    · have := r1 p p1; omega
  · rcases rr with ⟨r, r1, r2, -, -⟩ | ⟨r1, r2⟩
    · have := p1 r r1; omega
    · have J1 := tm_J hJ ht 0
      obtain ⟨A', B', g1, g2, g3, g4, g5⟩ := id_J J1
      simp (disch := omega) only [mk_st_same, mk_st_ne, mk_st_off] at g2
      refine ⟨0, A', B', np, np, ch, P, P, ?_, ?_, ?_, ?_, g5⟩
      · rw [adv _ p2, if_pos rfl, g1]; rfl
      · show f_X6_oneTick_4 mk_F 0 (nI 0) B = _
        rw [r2, ot, if_pos (by decide)]
        exact g2
      · intro x hx
        rw [g3 x hx]
        simp (disch := omega) only [mk_st_off]
      · refine ⟨fun x hx => ?_, ?_⟩
        · rw [g4.1 x hx]
          simp (disch := omega) only [mk_st_off]
        · rw [g4.2]
          simp (disch := omega) only [mk_st_ne]
