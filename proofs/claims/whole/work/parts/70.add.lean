/-! add -/
theorem nb_of {a : Int32} {lo hi : Nat} (hlo : lo < 2 ^ 31) (hhi : hi < 2 ^ 31) (h1 : ¬ a < nI lo) (h2 : ¬ nI hi < a) : ∃ x, lo ≤ x ∧ x ≤ hi ∧ a = nI x := by
  have c0 : ¬ a < 0 := by
    intro h
    apply h1
    rw [Int32.lt_iff_toInt_lt] at h ⊢
    rw [Int32.toInt_zero] at h
    rw [nI_toInt hlo]
    omega
  obtain ⟨x, hx, rfl⟩ := nI_of c0
  refine ⟨x, ?_, ?_, rfl⟩
  · rcases Nat.lt_or_ge x lo with q | q
    · exact absurd (nI_lt q hlo) h1
    · exact q
  · rcases Nat.lt_or_ge hi x with q | q
    · exact absurd (nI_lt q hx) h2
    · exact q
theorem n2_0 : ¬ (2 : Int32) = 0 := by decide
theorem pu_s0 : mk_S0 pu_I := by
  intro n M a1 a2 a3 a4 a5 hn hI
  have hI' := hI
  obtain ⟨t, np, no, ch, w, wd, P, O, hJ⟩ := hI'
  have bad : f_X6_add_63 a1 a2 a3 a4 a5 M = some (0, mk_st M 68 0 1) := by
    unfold f_X6_add_63 f_X6_add_64
    rcases hJ.kn a1 with ⟨_, _, _, _, _, _, _, _, k2⟩ | ⟨_, _, k2⟩
    · rw [k2, Option.bind_some, if_neg n1_0, go_0]; rfl
    · rw [k2, Option.bind_some, if_pos rfl, go_0]; rfl
  have fin : ∀ (h1 : f_X5_add a1 a2 a3 a4 a5 M = some ((1, 0), M)) (h2 : f_X6_add a1 a2 a3 a4 a5 M = some (0, mk_st M 68 0 1)), ∃ (q : (Nat × Int32) × mk_M) (r : Int32 × mk_M), f_X5_add a1 a2 a3 a4 a5 M = some q ∧ (q.1.1 = 0 ∨ q.1.1 = 1 ∨ q.1.1 = 2) ∧ f_X6_add a1 a2 a3 a4 a5 q.2 = some r ∧ r.2 68 0 = fc_L_add q ∧ (fc_L_add q = 0 → q.1.2 = r.1) ∧ pu_I (n + 1) r.2 :=
    fun h1 h2 => ⟨_, _, h1, Or.inr (Or.inl rfl), h2, (mk_st_same M 68 0 1).trans rfl, fun h => absurd h (show ¬ fc_L_add ((1, 0), M) = 0 from n1_0), hI.up (Nat.le_succ n) hn (pu_ag.th M 1)⟩
  by_cases c1 : a1 < 1
  · refine fin ?_ ?_
    · unfold f_X5_add f_X5_isTask; rw [if_pos c1, Option.bind_some, if_pos rfl]
    · unfold f_X6_add; rw [wi_n, if_pos c1, Option.bind_some, if_pos rfl]; exact bad
  by_cases c2 : 12 < a1
  · refine fin ?_ ?_
    · unfold f_X5_add f_X5_isTask; rw [if_neg c1, if_pos c2, Option.bind_some, if_pos rfl]
    · unfold f_X6_add; rw [wi_n, if_neg c1, if_pos c2, Option.bind_some, if_pos rfl]; exact bad
  have t1 : f_X5_isTask a1 M = some 1 := by unfold f_X5_isTask; rw [if_neg c1, if_neg c2]
  have w1 : ∀ N, f_X6_within a1 1 12 N = some 1 := fun N => by rw [wi_n, if_neg c1, if_neg c2]
  by_cases c3 : a2 < 1
  · refine fin ?_ ?_
    · unfold f_X5_add f_X5_areTimes; rw [t1, Option.bind_some, if_neg n1_0, if_pos c3, Option.bind_some, if_pos rfl]
    · unfold f_X6_add; rw [w1, Option.bind_some, if_neg n1_0, wi_n, if_pos c3, Option.bind_some, if_pos rfl]; exact bad
  by_cases c4 : 1000 < a2
  · refine fin ?_ ?_
    · unfold f_X5_add f_X5_areTimes; rw [t1, Option.bind_some, if_neg n1_0, if_neg c3, if_pos c4, Option.bind_some, if_pos rfl]
    · unfold f_X6_add; rw [w1, Option.bind_some, if_neg n1_0, wi_n, if_neg c3, if_pos c4, Option.bind_some, if_pos rfl]; exact bad
  have w2 : ∀ N, f_X6_within a2 1 1000 N = some 1 := fun N => by rw [wi_n, if_neg c3, if_neg c4]
  by_cases c5 : a3 < 1
  · refine fin ?_ ?_
    · unfold f_X5_add f_X5_areTimes; rw [t1, Option.bind_some, if_neg n1_0, if_neg c3, if_neg c4, if_pos c5, Option.bind_some, if_pos rfl]
    · unfold f_X6_add; rw [w1, Option.bind_some, if_neg n1_0, w2, Option.bind_some, if_neg n1_0, wi_n, if_pos c5, Option.bind_some, if_pos rfl]; exact bad
  by_cases c6 : a2 < a3
  · refine fin ?_ ?_
    · unfold f_X5_add f_X5_areTimes; rw [t1, Option.bind_some, if_neg n1_0, if_neg c3, if_neg c4, if_neg c5, if_pos c6, Option.bind_some, if_pos rfl]
    · unfold f_X6_add; rw [w1, Option.bind_some, if_neg n1_0, w2, Option.bind_some, if_neg n1_0, wi_n, if_neg c5, if_pos c6, Option.bind_some, if_pos rfl]; exact bad
  have t2 : f_X5_areTimes a2 a3 M = some 1 := by unfold f_X5_areTimes; rw [if_neg c3, if_neg c4, if_neg c5, if_neg c6]
  have w3 : ∀ N, f_X6_within a3 1 a2 N = some 1 := fun N => by rw [wi_n, if_neg c5, if_neg c6]
  by_cases c7 : a4 < 1
  · refine fin ?_ ?_
    · unfold f_X5_add f_X5_areBudgets; rw [t1, Option.bind_some, if_neg n1_0, t2, Option.bind_some, if_neg n1_0, if_pos c7, Option.bind_some, if_pos rfl]
    · unfold f_X6_add; rw [w1, Option.bind_some, if_neg n1_0, w2, Option.bind_some, if_neg n1_0, w3, Option.bind_some, if_neg n1_0, wi_n, if_pos c7, Option.bind_some, if_pos rfl]; exact bad
  by_cases c8 : 100 < a4
  · refine fin ?_ ?_
    · unfold f_X5_add f_X5_areBudgets; rw [t1, Option.bind_some, if_neg n1_0, t2, Option.bind_some, if_neg n1_0, if_neg c7, if_pos c8, Option.bind_some, if_pos rfl]
    · unfold f_X6_add; rw [w1, Option.bind_some, if_neg n1_0, w2, Option.bind_some, if_neg n1_0, w3, Option.bind_some, if_neg n1_0, wi_n, if_neg c7, if_pos c8, Option.bind_some, if_pos rfl]; exact bad
  have w4 : ∀ N, f_X6_within a4 1 100 N = some 1 := fun N => by rw [wi_n, if_neg c7, if_neg c8]
  obtain ⟨id, i1, i2, e1⟩ := nb_of (lo := 1) (hi := 12) (by decide) (by decide) c1 c2
  obtain ⟨per, p1, p2, e2⟩ := nb_of (lo := 1) (hi := 1000) (by decide) (by decide) c3 c4
  obtain ⟨dl, d1, d2, e3⟩ := nb_of (lo := 1) (hi := per) (a := a3) (by decide) (by omega) c5 (by rw [← e2]; exact c6)
  obtain ⟨lo, l1, l2, e4⟩ := nb_of (lo := 1) (hi := 100) (by decide) (by decide) c7 c8
  have good : ∀ (hi : Nat) (e5 : a5 = nI hi) (hh : hi = 0 ∨ (lo ≤ hi ∧ hi ≤ 200)) (t3 : f_X5_areBudgets a4 a5 M = some 1) (w5 : ∀ N, f_X6_add a1 a2 a3 a4 a5 N = f_X6_add_59 a1 a2 a3 a4 a5 N), ∃ (q : (Nat × Int32) × mk_M) (r : Int32 × mk_M), f_X5_add a1 a2 a3 a4 a5 M = some q ∧ (q.1.1 = 0 ∨ q.1.1 = 1 ∨ q.1.1 = 2) ∧ f_X6_add a1 a2 a3 a4 a5 q.2 = some r ∧ r.2 68 0 = fc_L_add q ∧ (fc_L_add q = 0 → q.1.2 = r.1) ∧ pu_I (n + 1) r.2 := by
    intro hi e5 hh t3 w5
    have ec : f_X5_add a1 a2 a3 a4 a5 M = ((f_X5_isKnown a1 M).bind (fun r_11 => (if r_11 = 0 then (if mk_ob a1 13 then none else ad_p a1 a2 a3 a4 a5 (a1).toNatClampNeg M) else (some ((2, 0), M))))) := by
      unfold f_X5_add
      rw [t1, Option.bind_some, if_neg n1_0, t2, Option.bind_some, if_neg n1_0, t3, Option.bind_some, if_neg n1_0]
      rfl
    rcases hJ.kn a1 with ⟨_, _, _, _, _, _, _, k1, k2⟩ | ⟨k0, k1, k2⟩
    · have h1 : f_X5_add a1 a2 a3 a4 a5 M = some ((2, 0), M) := by rw [ec, k1, Option.bind_some, if_neg n1_0]
      have h2 : f_X6_add a1 a2 a3 a4 a5 M = some (0, mk_st M 68 0 2) := by
        rw [w5]
        unfold f_X6_add_59 f_X6_add_64
        rw [k2, Option.bind_some, if_neg n1_0, go_10]; rfl
      exact ⟨_, _, h1, Or.inr (Or.inr rfl), h2, (mk_st_same M 68 0 2).trans rfl, fun h => absurd h (show ¬ fc_L_add ((2, 0), M) = 0 from n2_0), hI.up (Nat.le_succ n) hn (pu_ag.th M 2)⟩
    · have hk : ¬ pu_kn P np id := fun ⟨k, q1, q2⟩ => k0 k q1 (by rw [q2]; exact e1)
      obtain ⟨v, M1, N, r1, r2, r3, r4, r5⟩ := ad_main hn hJ i1 i2 p1 p2 d1 d2 l1 l2 hh hk
      have h1 : f_X5_add a1 a2 a3 a4 a5 M = some ((0, v), M1) := by
        rw [ec, k1, Option.bind_some, if_pos rfl, e1, if_neg (ob_n (show id < 13 by omega) (by decide)), cl_n (by omega), e2, e3, e4, e5]
        exact r1
      have h2 : f_X6_add a1 a2 a3 a4 a5 M1 = some (v, N) := by
        rw [w5]
        unfold f_X6_add_59 f_X6_add_64
        rw [cg_kn r2, k2, Option.bind_some, if_pos rfl, go_111, Option.bind_some, if_neg n1_0, e1, e2, e3, e4, e5]
        exact r3
      exact ⟨((0, v), M1), (v, N), h1, Or.inl rfl, h2, r4.trans rfl, fun _ => rfl, r5⟩
  have x6 : ∀ N, f_X6_add a1 a2 a3 a4 a5 N = (if a5 = 0 then (f_X6_add_59 a1 a2 a3 a4 a5 N) else ((f_X6_within a5 a4 200 N).bind (fun r_57 => (if r_57 = 0 then (f_X6_add_63 a1 a2 a3 a4 a5 N) else (f_X6_add_59 a1 a2 a3 a4 a5 N))))) := fun N => by
    unfold f_X6_add
    rw [w1, Option.bind_some, if_neg n1_0, w2, Option.bind_some, if_neg n1_0, w3, Option.bind_some, if_neg n1_0, w4, Option.bind_some, if_neg n1_0]
  by_cases c9 : a5 = 0
  · exact good 0 (c9.trans nI_0.symm) (Or.inl rfl) (by unfold f_X5_areBudgets; rw [if_neg c7, if_neg c8, if_pos c9]) (fun N => by rw [x6, if_pos c9])
  by_cases c10 : a5 < a4
  · refine fin ?_ ?_
    · unfold f_X5_add f_X5_areBudgets; rw [t1, Option.bind_some, if_neg n1_0, t2, Option.bind_some, if_neg n1_0, if_neg c7, if_neg c8, if_neg c9, if_pos c10, Option.bind_some, if_pos rfl]
    · rw [x6, if_neg c9, wi_n, if_pos c10, Option.bind_some, if_pos rfl]; exact bad
  by_cases c11 : 200 < a5
  · refine fin ?_ ?_
    · unfold f_X5_add f_X5_areBudgets; rw [t1, Option.bind_some, if_neg n1_0, t2, Option.bind_some, if_neg n1_0, if_neg c7, if_neg c8, if_neg c9, if_neg c10, if_pos c11, Option.bind_some, if_pos rfl]
    · rw [x6, if_neg c9, wi_n, if_neg c10, if_pos c11, Option.bind_some, if_pos rfl]; exact bad
  obtain ⟨hi, h1, h2, e5⟩ := nb_of (lo := lo) (hi := 200) (a := a5) (by omega) (by decide) (by rw [← e4]; exact c10) c11
  exact good hi e5 (Or.inr ⟨h1, h2⟩) (by unfold f_X5_areBudgets; rw [if_neg c7, if_neg c8, if_neg c9, if_neg c10, if_neg c11]) (fun N => by rw [x6, if_neg c9, wi_n, if_neg c10, if_neg c11, Option.bind_some, if_neg n1_0])
