/-! ended -/
theorem pu_tk.jb {n id : Nat} {M : mk_M} (hn : n ≤ 512) (h : pu_tk n M id) : ∃ jb pe, pu_jb M id jb pe ∧ M (16 + 4 * id) 5 = nI jb ∧ M (16 + 4 * id) 9 = nI pe ∧ pe ≤ 4 := by
  obtain ⟨per, dl, lo, hi, jb, pe, a1, a2, a3, a4, a5, a6, a7, a8, a9, a10, a11, a12, a13⟩ := h
  exact ⟨jb, pe, ⟨a6.2.1, by omega, a8.2.2, by omega, fun j h1 h2 h3 => (a9 j h1 h2 h3).2.2.2.1⟩, a6.1, a8.1, a8.2.1⟩
theorem pu_J.kn {n : Nat} {M : mk_M} {t np no ch w wd : Nat} {P O : Nat → Nat} (h : pu_J n M t np no ch w wd P O) (a1 : Int32) :
    (∃ id k, 1 ≤ id ∧ id ≤ 12 ∧ a1 = nI id ∧ k < np ∧ P k = id ∧ f_X5_isKnown a1 M = some 1 ∧ f_X6_isKnown a1 M = some 1) ∨ ((∀ k, k < np → a1 ≠ nI (P k)) ∧ f_X5_isKnown a1 M = some 0 ∧ f_X6_isKnown a1 M = some 0) := by
  obtain ⟨-, -, -, -, -, a6, a7, -, -, a10, -⟩ := h
  exact kn_of a6.1 a6.2.2.1 a6.2.2.2 a7 (fun id h1 h2 => ⟨fun hk => ((a10 id h1 h2).1 hk).1, fun hk => ((a10 id h1 h2).2 hk).1⟩) a1
theorem pu_J.tk {n : Nat} {M : mk_M} {t np no ch w wd : Nat} {P O : Nat → Nat} (h : pu_J n M t np no ch w wd P O) {id k : Nat} (h1 : 1 ≤ id) (h2 : id ≤ 12) (hk : k < np) (hP : P k = id) : pu_tk n M id := by
  obtain ⟨-, -, -, -, -, a6, a7, -, -, a10, -⟩ := h
  exact ((a10 id h1 h2).1 ⟨k, hk, hP⟩).2
theorem go_0 (M : mk_M) (a b : Int32) : f_X6_goes 0 a b M = some (0, mk_st M 68 0 1) := by rw [go_t, if_pos rfl]
theorem go_10 (M : mk_M) (b : Int32) : f_X6_goes 1 0 b M = some (0, mk_st M 68 0 2) := by rw [go_t, if_neg (by decide), if_pos rfl]
theorem go_110 (M : mk_M) : f_X6_goes 1 1 0 M = some (0, mk_st M 68 0 3) := by rw [go_t, if_neg (by decide), if_neg (by decide), if_pos rfl]
theorem go_111 (M : mk_M) : f_X6_goes 1 1 1 M = some (1, mk_st M 68 0 0) := by rw [go_t, if_neg (by decide), if_neg (by decide), if_neg (by decide)]
theorem sl_n (M : mk_M) {j : Nat} (hj : j < 2 ^ 31) : f_X5_slotOf (nI j) M = some (nI (j % 8)) := by
  unfold f_X5_slotOf
  rw [show (8 : Int32) = nI 8 from rfl, fm_n M hj (by decide) (by decide)]
  rfl
theorem n1_0 : ¬ (1 : Int32) = 0 := by decide
theorem pu_s7 : mk_S7 pu_I := by
  intro n M a1 a2 hn hI
  have hI' := hI
  obtain ⟨t, np, no, ch, w, wd, P, O, hJ⟩ := hI'
  have bad : f_X6_ended_40 a1 a2 M = some (0, mk_st M 68 0 1) := by
    unfold f_X6_ended_40 f_X6_ended_41
    rw [go_0]; rfl
  have fin : ∀ (h1 : f_X5_ended a1 a2 M = some ((3, 0), M)) (h2 : f_X6_ended a1 a2 M = some (0, mk_st M 68 0 1)), ∃ (q : (Nat × Int32) × mk_M) (r : Int32 × mk_M), f_X5_ended a1 a2 M = some q ∧ (q.1.1 = 0 ∨ q.1.1 = 3) ∧ f_X6_ended a1 a2 q.2 = some r ∧ r.2 68 0 = fc_L_ended q ∧ (fc_L_ended q = 0 → q.1.2 = r.1) ∧ pu_I (n + 1) r.2 :=
    fun h1 h2 => ⟨_, _, h1, Or.inr rfl, h2, by show mk_st M 68 0 1 68 0 = 1; rw [mk_st_same], fun h => absurd h n1_0, hI.up (Nat.le_succ n) hn (pu_ag.th M 1)⟩
  rcases hJ.kn a1 with ⟨id, k, i1, i2, rfl, hk, hP, k1, k2⟩ | ⟨-, k1, k2⟩
  · obtain ⟨per, dl, lo, hi, jb, pe, b1, b2, b3, b4, b5, b6, b7, b8, b9, b10, b11, b12, b13⟩ := hJ.tk i1 i2 hk hP
    have ho : ¬ mk_ob (nI id) 13 := ob_n (by omega) (by omega)
    have ec : (nI id).toNatClampNeg = id := cl_n (by omega)
    have e5 : f_X5_ended (nI id) a2 M = ((f_X3_keeps (16 + 4 * id) a2 M).bind (fun r_8 => (if r_8 = 0 then (some ((3, 0), M)) else ((f_X5_slotOf a2 M).bind (fun r_14 => (if mk_ob r_14 8 then none else (some ((0, M ((16 + 4 * id)+3) (r_14).toNatClampNeg), M)))))))) := by
      unfold f_X5_ended
      rw [k1, Option.bind_some, if_neg n1_0, if_neg ho]
      simp only [if_neg ho, ec]
    have e6 : f_X6_ended (nI id) a2 M = (if a2 < 1 then f_X6_ended_40 (nI id) a2 M else if nI jb < a2 then f_X6_ended_40 (nI id) a2 M else if a2 ≤ nI jb - 8 then f_X6_ended_40 (nI id) a2 M else f_X6_ended_41 (nI id) a2 1 M) := by
      unfold f_X6_ended
      rw [k2, Option.bind_some, if_neg n1_0, if_neg ho, if_neg ho]
      simp only [ec, b6.2.1]
    by_cases c1 : a2 < 1
    · refine fin ?_ ?_
      · rw [e5]; unfold f_X3_keeps; rw [if_pos c1]; rfl
      · rw [e6, if_pos c1]; exact bad
    by_cases c2 : nI jb < a2
    · refine fin ?_ ?_
      · rw [e5]; unfold f_X3_keeps; rw [if_neg c1, b6.1, if_pos c2]; rfl
      · rw [e6, if_neg c1, if_pos c2]; exact bad
    by_cases c3 : a2 ≤ nI jb - 8
    · refine fin ?_ ?_
      · rw [e5]; unfold f_X3_keeps; rw [if_neg c1, b6.1, if_neg c2, if_pos c3]; rfl
      · rw [e6, if_neg c1, if_neg c2, if_pos c3]; exact bad
    have c0 : ¬ a2 < 0 := by
      intro h
      apply c1
      rw [Int32.lt_iff_toInt_lt] at h ⊢
      rw [Int32.toInt_zero] at h
      have e : (1 : Int32).toInt = 1 := by decide
      omega
    obtain ⟨j, hj, rfl⟩ := nI_of c0
    have j1 : 1 ≤ j := by
      rcases Nat.lt_or_ge j 1 with q | q
      · exact absurd (show nI j < nI 1 from nI_lt q (by omega)) c1
      · exact q
    have j2 : j ≤ jb := by
      rcases Nat.lt_or_ge jb j with q | q
      · exact absurd (nI_lt q hj) c2
      · exact q
    have j3 : jb < j + 8 := by
      rcases Nat.lt_or_ge jb (j + 8) with q | q
      · exact q
      · exfalso
        apply c3
        rw [Int32.le_iff_toInt_le, nI_toInt hj, show (8 : Int32) = nI 8 from rfl, pk_sub_toInt (by omega) (by omega)]
        omega
    have hm : j % 8 < 8 := Nat.mod_lt _ (by decide)
    refine ⟨((0, M (16 + 4 * id + 3) (j % 8)), M), (M 86 (8 * id + j % 8), mk_st M 68 0 0), ?_, Or.inl rfl, ?_, ?_, fun _ => (b9 j j1 j2 j3).2.2.1, hI.up (Nat.le_succ n) hn (pu_ag.th M 0)⟩
    · rw [e5]
      unfold f_X3_keeps
      rw [if_neg c1, b6.1, if_neg c2, if_neg c3, Option.bind_some, if_neg n1_0, sl_n M hj, Option.bind_some, if_neg (ob_n hm (by decide)), cl_n (by omega)]
    · show f_X6_ended (nI id) (nI j) M = _
      rw [e6, if_neg c1, if_neg c2, if_neg c3]
      unfold f_X6_ended_41
      rw [go_111, Option.bind_some, if_neg n1_0]
      show ((f_X6_at (nI id) (nI j) (mk_st M 68 0 0)).bind fun r_8 => if mk_ob r_8 104 then none else some (mk_st M 68 0 0 86 r_8.toNatClampNeg, mk_st M 68 0 0)) = _
      rw [at_n _ i2 hj, Option.bind_some, if_neg (ob_n (by omega) (by decide)), cl_n (by omega), mk_st_off M 68 0 0 (show (86 : Nat) ≠ 68 by decide)]
    · show mk_st M 68 0 0 68 0 = 0
      rw [mk_st_same]
  · refine fin ?_ ?_
    · unfold f_X5_ended; rw [k1, Option.bind_some, if_pos rfl]
    · unfold f_X6_ended; rw [k2, Option.bind_some, if_pos rfl]; exact bad
