/-! tick, run -/
theorem ov_ag {M M1 : mk_M} (h : ∀ x, 68 ≤ x → M1 x = M x) : pu_ag M (pu_ov M (mk_st M1 68 0 0)) := by
  constructor
  · intro x _ _ h68 _ _ _
    rcases Nat.lt_or_ge x 68 with q | q
    · rw [ov_lo _ _ q]
    · rw [ov_hi _ _ q, mk_st_off _ _ _ _ h68, h x q]
  · intro k hk
    rw [ov_hi _ _ (by decide), mk_st_ne _ _ _ _ (fun z => hk z.2), h 68 (by decide)]
theorem ov_eq {M1 B : mk_M} (h : ∀ x, x < 68 → B x = (mk_st M1 68 0 0) x) : pu_ov M1 B = B := by
  funext x
  unfold pu_ov
  split
  · rename_i q
    rw [h x q, mk_st_off _ _ _ _ (by omega)]
  · rfl
theorem pu_s3 : mk_S3 pu_I := by
  intro n M hn hI
  obtain ⟨t, np, no, ch, w, wd, P, O, hJ⟩ := hI
  have J1 : pu_J (n + 1) M t np no ch w wd P O := hJ.up (Nat.le_succ n) hn (pu_ag.rf M)
  have ht : t < 1000 * (n + 1) := by have := hJ.1.2.2.1; omega
  obtain ⟨v, M1, -, -, -, -, -, -, f1, -, f3, -, -⟩ := tk_J (A := M) (B := M) (by rw [ov_self]; exact J1) ht
  obtain ⟨v', M1', B', np', no', ch', P', O', g1, g2, g3, g4, g5⟩ := tk_J (A := M) (B := mk_st M1 68 0 0) (J1.up (Nat.le_refl _) hn (ov_ag f3)) ht
  rw [f1] at g1
  obtain ⟨rfl, rfl⟩ := Prod.mk.inj (Option.some.inj g1)
  refine ⟨(v, M1), (v, B'), ?_, ?_, rfl, t + 1, np', no', ch', w, wd, P', O', ?_⟩
  · unfold f_X5_tick
    rw [f1]; rfl
  · unfold f_X6_tick
    show ((f_X6_oneTick (mk_st M1 68 0 0)).bind _) = _
    rw [g2]; rfl
  · rw [← ov_eq g4.1]; exact g5
theorem rn_lp {n N : Nat} {w wd : Nat} (hN : N ≤ 1000) (hn5 : n ≤ 512) : ∀ d i f : Nat, ∀ (A B : mk_M) (l : Int32) (t np no ch : Nat) (P O : Nat → Nat), i + d = N → d < f → t + d ≤ 1000 * n → pu_J n (pu_ov A B) t np no ch w wd P O → ∃ (v : Int32) (A' B' : mk_M), f_X5_run_23 f (nI N) l (nI i) A = some ((0, v), A') ∧ f_X6_run_23 f (nI N) l (nI i) B = some (v, B') ∧ (∀ x, 68 ≤ x → A' x = A x) ∧ ((∀ x, x < 68 → B' x = B x) ∧ B' 68 0 = B 68 0) ∧ pu_I n (pu_ov A' B') := by
  intro d
  induction d with
  | zero =>
    intro i f A B l t np no ch P O hi hf ht hJ
    obtain ⟨f, rfl⟩ : ∃ m, f = m + 1 := ⟨f - 1, by omega⟩
    have e : i = N := by omega
    subst e
    refine ⟨l, A, B, ?_, ?_, fun _ _ => rfl, ⟨fun _ _ => rfl, rfl⟩, t, np, no, ch, w, wd, P, O, hJ⟩
    · show (if nI i ≤ nI i then some ((0, l), A) else _) = _
      rw [if_pos (nI_le (Nat.le_refl _) (by omega))]
    · show (if nI i ≤ nI i then some (l, B) else _) = _
      rw [if_pos (nI_le (Nat.le_refl _) (by omega))]
  | succ d ih =>
    intro i f A B l t np no ch P O hi hf ht hJ
    obtain ⟨f, rfl⟩ : ∃ m, f = m + 1 := ⟨f - 1, by omega⟩
    obtain ⟨v, A', B', np', no', ch', P', O', g1, g2, g3, g4, g5⟩ := tk_J hJ (by omega)
    obtain ⟨v2, A2, B2, k1, k2, k3, k4, k5⟩ := ih (i + 1) f A' B' (if v = 0 then l + 1 else l) (t + 1) np' no' ch' P' O' (by omega) (by omega) (by omega) g5
    refine ⟨v2, A2, B2, ?_, ?_, fun x hx => by rw [k3 x hx, g3 x hx], ⟨fun x hx => by rw [k4.1 x hx, g4.1 x hx], by rw [k4.2, g4.2]⟩, k5⟩
    · show (if nI N ≤ nI i then _ else ((f_X5_advance A).bind (fun r_5 => (if r_5.1 = 0 then (f_X5_run_23 f (nI N) (l + 1) (nI i + 1) r_5.2) else (f_X5_run_23 f (nI N) l (nI i + 1) r_5.2))))) = _
      rw [if_neg (nI_ge (by omega) (by omega)), g1, Option.bind_some, nI_1, ← k1]
      by_cases c : v = 0
      · simp only [if_pos c]
      · simp only [if_neg c]
    · show (if nI N ≤ nI i then _ else ((f_X6_oneTick B).bind (fun r_8 => (if r_8.1 = 0 then (f_X6_run_23 f (nI N) (l + 1) (nI i + 1) r_8.2) else (f_X6_run_23 f (nI N) l (nI i + 1) r_8.2))))) = _
      rw [if_neg (nI_ge (by omega) (by omega)), g2, Option.bind_some, nI_1, ← k2]
      by_cases c : v = 0
      · simp only [if_pos c]
      · simp only [if_neg c]
theorem pu_s4 : mk_S4 pu_I := by
  intro n M a1 hn hI
  have hI' := hI
  obtain ⟨t, np, no, ch, w, wd, P, O, hJ⟩ := hI'
  by_cases hr : a1 < 0 ∨ 1000 < a1
  · refine ⟨((1, 0), M), (0, mk_st M 68 0 1), ?_, Or.inr rfl, ?_, by show mk_st M 68 0 1 68 0 = 1; rw [mk_st_same], fun h => absurd h n1_0, hI.up (Nat.le_succ n) hn (pu_ag.th M 1)⟩
    · unfold f_X5_run
      by_cases c : a1 < 0
      · rw [if_pos c]
      · rcases hr with h | h
        · exact absurd h c
        · rw [if_neg c, if_neg (fun z => by rw [Int32.le_iff_toInt_le] at z; rw [Int32.lt_iff_toInt_lt] at h; omega)]
    · show f_X6_run a1 M = _
      unfold f_X6_run
      have e : f_X6_within a1 0 1000 M = some 0 := by
        rw [wi_n]
        rcases hr with h | h
        · rw [if_pos h]
        · by_cases q : a1 < 0
          · rw [if_pos q]
          · rw [if_neg q, if_pos h]
      rw [e, Option.bind_some, go_0]
      rfl
  · have h0 : ¬ a1 < 0 := fun h => hr (Or.inl h)
    have h8 : ¬ 1000 < a1 := fun h => hr (Or.inr h)
    obtain ⟨N, hN31, rfl⟩ := nI_of h0
    have hN : N ≤ 1000 := by
      rcases Nat.lt_or_ge 1000 N with q | q
      · exact absurd (show nI 1000 < nI N from nI_lt q hN31) h8
      · exact q
    have J1 : pu_J (n + 1) M t np no ch w wd P O := hJ.up (Nat.le_succ n) hn (pu_ag.rf M)
    have ht : t + N ≤ 1000 * (n + 1) := by have := hJ.1.2.2.1; omega
    obtain ⟨v, M1, -, f1, -, f3, -, -⟩ := rn_lp (N := N) hN hn N 0 mk_F M M 0 t np no ch P O (by omega) (mk_F_lt (by omega)) ht (by rw [ov_self]; exact J1)
    obtain ⟨v', M1', B', g1, g2, g3, g4, g5⟩ := rn_lp (N := N) hN hn N 0 mk_F M (mk_st M1 68 0 0) 0 t np no ch P O (by omega) (mk_F_lt (by omega)) ht (J1.up (Nat.le_refl _) hn (ov_ag f3))
    rw [f1] at g1
    obtain ⟨e1, rfl⟩ := Prod.mk.inj (Option.some.inj g1)
    obtain ⟨-, rfl⟩ := Prod.mk.inj e1
    refine ⟨((0, v), M1), (v, B'), ?_, Or.inl rfl, ?_, ?_, fun _ => rfl, ?_⟩
    · unfold f_X5_run
      rw [if_neg h0, if_pos (show nI N ≤ 1000 from nI_le (a := N) (b := 1000) hN (by decide))]
      exact f1
    · show f_X6_run (nI N) M1 = _
      unfold f_X6_run
      rw [wi_n, if_neg h0, if_neg h8, Option.bind_some, go_111, Option.bind_some, if_neg n1_0]
      exact g2
    · show B' 68 0 = 0
      rw [g4.2, mk_st_same]
    · show pu_I (n + 1) B'
      rw [← ov_eq g4.1]; exact g5
