/-! trace, changed -/
theorem pu_trc {M : mk_M} {t : Nat} (x y k : Nat) (hx : mk_ln (x + 1) = k) (hk0 : 0 < k) (hk : k ≤ 256) (ht : t ≤ 512000) (h1 : M x 1 = nI t) (h2 : ∀ i, i < k → M (x + 1) i = M y i) (a1 : Int32) :
    (∃ j, j < k ∧ j < t ∧ a1 = nI j ∧ f_X0_keeps x a1 M = some 1 ∧ f_X0_back x a1 M = some (M y ((t - 1 - j) % k))) ∨ ((a1 < 0 ∨ nI k ≤ a1 ∨ nI t ≤ a1) ∧ f_X0_keeps x a1 M = some 0) := by
  by_cases c1 : a1 < 0
  · exact Or.inr ⟨Or.inl c1, by unfold f_X0_keeps; rw [if_pos c1]⟩
  by_cases c2 : nI k ≤ a1
  · exact Or.inr ⟨Or.inr (Or.inl c2), by unfold f_X0_keeps; rw [if_neg c1, hx, if_pos (show Int32.ofNat k ≤ a1 from c2)]⟩
  by_cases c3 : nI t ≤ a1
  · exact Or.inr ⟨Or.inr (Or.inr c3), by unfold f_X0_keeps; rw [if_neg c1, hx, if_neg (show ¬ Int32.ofNat k ≤ a1 from c2), h1, if_pos c3]⟩
  left
  obtain ⟨j, hj, rfl⟩ := nI_of c1
  have hjk : j < k := by
    rcases Nat.lt_or_ge j k with h | h
    · exact h
    · exact absurd (nI_le h hj) c2
  have hjt : j < t := by
    rcases Nat.lt_or_ge j t with h | h
    · exact h
    · exact absurd (nI_le h hj) c3
  refine ⟨j, hjk, hjt, rfl, ?_, ?_⟩
  · unfold f_X0_keeps
    rw [if_neg c1, hx, if_neg (show ¬ Int32.ofNat k ≤ nI j from c2), h1, if_neg c3]
  · unfold f_X0_back
    have e1 : nI t - 1 - nI j = nI (t - 1 - j) := by
      rw [show (1 : Int32) = nI 1 from rfl, pk_sub (by omega), pk_sub (by omega)]
    have hm : (t - 1 - j) % k < k := Nat.mod_lt _ hk0
    rw [h1, hx, e1, show Int32.ofNat k = nI k from rfl, fm_n M (by omega) hk0 (by omega)]
    show (if mk_ob (nI ((t - 1 - j) % k)) k then none else some (M (x + 1) (nI ((t - 1 - j) % k)).toNatClampNeg)) = _
    rw [if_neg (ob_n hm (by omega)), cl_n (by omega), h2 _ hm]
theorem pu_s10 : mk_S10 pu_I := by
  intro n M a1 hn hI
  obtain ⟨t, np, no, ch, w, wd, P, O, hJ⟩ := id hI
  obtain ⟨a1', a2, -⟩ := hJ
  have ht : t ≤ 512000 := by omega
  rcases pu_trc (M := M) 12 88 256 rfl (by decide) (by decide) ht a2.1 a2.2 a1 with ⟨j, hj1, hj2, rfl, k1, k2⟩ | ⟨c, k1⟩
  · refine ⟨((0, M 88 ((t - 1 - j) % 256)), M), (M 88 ((t - 1 - j) % 256), mk_st M 68 0 0), ?_, Or.inl rfl, ?_, ?_, fun _ => rfl, ?_⟩
    · unfold f_X5_trace; rw [k1, Option.bind_some, if_neg (by decide), k2]; rfl
    · have e1 : nI t - 1 - nI j = nI (t - 1 - j) := by
        rw [show (1 : Int32) = nI 1 from rfl, pk_sub (by omega), pk_sub (by omega)]
      have hm : (t - 1 - j) % 256 < 256 := Nat.mod_lt _ (by decide)
      show f_X6_trace (nI j) M = _
      unfold f_X6_trace
      rw [if_neg (nI_pos (by omega)), if_neg (show ¬ (256 : Int32) ≤ nI j from nI_ge hj1 (by decide)), a1'.2.1, if_neg (nI_ge hj2 (by omega))]
      unfold f_X6_trace_25
      rw [go_t, Option.bind_some, if_neg (show ¬ (1 : Int32) = 0 by decide), if_neg (show ¬ (1 : Int32) = 0 by decide), if_neg (show ¬ (1 : Int32) = 0 by decide)]
      show (if (1 : Int32) = 0 then _ else _) = _
      rw [if_neg (by decide)]
      show (if mk_ob ((mk_st M 68 0 0 68 21 - 1 - nI j) - (mk_st M 68 0 0 68 21 - 1 - nI j) / nI 256 * nI 256) 256 then none else some (mk_st M 68 0 0 88 ((mk_st M 68 0 0 68 21 - 1 - nI j) - (mk_st M 68 0 0 68 21 - 1 - nI j) / nI 256 * nI 256).toNatClampNeg, mk_st M 68 0 0)) = _
      rw [mk_st_ne M 68 0 0 (show ¬ (68 = 68 ∧ 21 = 0) by decide), a1'.2.1, e1, pk_rem (by omega) (by decide) (by decide), if_neg (ob_n hm (by decide)), cl_n (by omega), mk_st_off M 68 0 0 (show (88 : Nat) ≠ 68 by decide)]
    · show mk_st M 68 0 0 68 0 = fc_L_trace _
      rw [mk_st_same]; rfl
    · exact hI.up (Nat.le_succ n) hn (pu_ag.th M 0)
  · refine ⟨((3, 0), M), (0, mk_st M 68 0 1), ?_, Or.inr rfl, ?_, ?_, fun h => absurd h (show ¬ (1 : Int32) = 0 by decide), ?_⟩
    · unfold f_X5_trace; rw [k1, Option.bind_some, if_pos rfl]
    · have e0 : f_X6_trace_24 a1 M = some (0, mk_st M 68 0 1) := by
        unfold f_X6_trace_24 f_X6_trace_25
        rw [go_t, Option.bind_some, if_pos rfl]
        rfl
      show f_X6_trace a1 M = _
      unfold f_X6_trace
      by_cases c1 : a1 < 0
      · rw [if_pos c1]; exact e0
      by_cases c2 : (256 : Int32) ≤ a1
      · rw [if_neg c1, if_pos c2]; exact e0
      have c3 : nI t ≤ a1 := by
        rcases c with c | c | c
        · exact absurd c c1
        · exact absurd c c2
        · exact c
      rw [if_neg c1, if_neg c2, a1'.2.1, if_pos c3]; exact e0
    · show mk_st M 68 0 1 68 0 = fc_L_trace _
      rw [mk_st_same]; rfl
    · exact hI.up (Nat.le_succ n) hn (pu_ag.th M 1)
theorem pu_s11 : mk_S11 pu_I := by
  intro n M a1 hn hI
  obtain ⟨t, np, no, ch, w, wd, P, O, hJ⟩ := id hI
  obtain ⟨a0, -, -, -, a2, -⟩ := hJ
  have ht : ch ≤ 512000 := by omega
  rcases pu_trc (M := M) 14 87 8 rfl (by decide) (by decide) ht a2.1 a2.2.2.2 a1 with ⟨j, hj1, hj2, rfl, k1, k2⟩ | ⟨c, k1⟩
  · refine ⟨((0, M 87 ((ch - 1 - j) % 8)), M), (M 87 ((ch - 1 - j) % 8), mk_st M 68 0 0), ?_, Or.inl rfl, ?_, ?_, fun _ => rfl, ?_⟩
    · unfold f_X5_changed; rw [k1, Option.bind_some, if_neg (by decide), k2]; rfl
    · have e1 : nI ch - 1 - nI j = nI (ch - 1 - j) := by
        rw [show (1 : Int32) = nI 1 from rfl, pk_sub (by omega), pk_sub (by omega)]
      have hm : (ch - 1 - j) % 8 < 8 := Nat.mod_lt _ (by decide)
      show f_X6_changed (nI j) M = _
      unfold f_X6_changed
      rw [if_neg (nI_pos (by omega)), if_neg (show ¬ (8 : Int32) ≤ nI j from nI_ge hj1 (by decide)), a2.2.1, if_neg (nI_ge hj2 (by omega))]
      unfold f_X6_changed_24
      rw [go_t, Option.bind_some, if_neg (show ¬ (1 : Int32) = 0 by decide), if_neg (show ¬ (1 : Int32) = 0 by decide), if_neg (show ¬ (1 : Int32) = 0 by decide)]
      show (if (1 : Int32) = 0 then _ else _) = _
      rw [if_neg (by decide)]
      show (if mk_ob ((mk_st M 68 0 0 68 25 - 1 - nI j) - (mk_st M 68 0 0 68 25 - 1 - nI j) / nI 8 * nI 8) 8 then none else some (mk_st M 68 0 0 87 ((mk_st M 68 0 0 68 25 - 1 - nI j) - (mk_st M 68 0 0 68 25 - 1 - nI j) / nI 8 * nI 8).toNatClampNeg, mk_st M 68 0 0)) = _
      rw [mk_st_ne M 68 0 0 (show ¬ (68 = 68 ∧ 25 = 0) by decide), a2.2.1, e1, pk_rem (by omega) (by decide) (by decide), if_neg (ob_n hm (by decide)), cl_n (by omega), mk_st_off M 68 0 0 (show (87 : Nat) ≠ 68 by decide)]
    · show mk_st M 68 0 0 68 0 = fc_L_changed _
      rw [mk_st_same]; rfl
    · exact hI.up (Nat.le_succ n) hn (pu_ag.th M 0)
  · refine ⟨((3, 0), M), (0, mk_st M 68 0 1), ?_, Or.inr rfl, ?_, ?_, fun h => absurd h (show ¬ (1 : Int32) = 0 by decide), ?_⟩
    · unfold f_X5_changed; rw [k1, Option.bind_some, if_pos rfl]
    · have e0 : f_X6_changed_23 a1 M = some (0, mk_st M 68 0 1) := by
        unfold f_X6_changed_23 f_X6_changed_24
        rw [go_t, Option.bind_some, if_pos rfl]
        rfl
      show f_X6_changed a1 M = _
      unfold f_X6_changed
      by_cases c1 : a1 < 0
      · rw [if_pos c1]; exact e0
      by_cases c2 : (8 : Int32) ≤ a1
      · rw [if_neg c1, if_pos c2]; exact e0
      have c3 : nI ch ≤ a1 := by
        rcases c with c | c | c
        · exact absurd c c1
        · exact absurd c c2
        · exact c
      rw [if_neg c1, if_neg c2, a2.2.1, if_pos c3]; exact e0
    · show mk_st M 68 0 1 68 0 = fc_L_changed _
      rw [mk_st_same]; rfl
    · exact hI.up (Nat.le_succ n) hn (pu_ag.th M 1)
