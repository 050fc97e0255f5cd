/-! add: the refusal's witness is kept -/
theorem kp_lp {M : mk_M} {k : Nat} {Q : Nat → Nat} (hk : k < 12) (h2 : M 9 2 = nI (k + 1)) (hQ : ∀ i, i ≤ k → M 8 i = nI (Q i) ∧ Q i ≤ 12) : ∀ d i n : Nat, ∀ M' : mk_M, i + d = k + 1 → d < n → (∀ y, y ≠ 10 → y ≠ 11 → M' y = M y) → (∀ j, j < i → M' 10 j = nI (Q j) ∧ M' 11 j = M (16 + 4 * Q j) 0) →
    ∃ M2 : mk_M, f_X2_keep_10 7 n (nI k) (nI i) M' = some M2 ∧ (∀ y, y ≠ 9 → y ≠ 10 → y ≠ 11 → M2 y = M y) ∧ M2 9 2 = nI (k + 1) ∧ M2 9 3 = M (16 + 4 * Q k) 1 ∧ ∀ j, j ≤ k → M2 10 j = nI (Q j) ∧ M2 11 j = M (16 + 4 * Q j) 0 := by
  intro d
  induction d with
  | zero =>
    intro i n M' hi hn h1 h3
    obtain ⟨n, rfl⟩ : ∃ m, n = m + 1 := ⟨n - 1, by omega⟩
    have e : i = k + 1 := by omega
    subst e
    obtain ⟨q1, q2⟩ := hQ k (Nat.le_refl _)
    have e8 : M' (7 + 1) k = nI (Q k) := by rw [h1 (7 + 1) (by decide) (by decide)]; exact q1
    refine ⟨mk_st M' 9 3 (M (16 + 4 * Q k) 1), ?_, fun y y1 y2 y3 => by rw [mk_st_off _ _ _ _ y1]; exact h1 y y2 y3, ?_, mk_st_same _ _ _ _, fun j hj => ?_⟩
    · show (if (M' 9 2) ≤ nI (k + 1) then (if mk_ob (nI k) 12 then none else (if mk_ob (M' (7+1) (nI k).toNatClampNeg) 13 then none else (some (mk_st M' 9 3 (M' (16 + 4 * (M' (7+1) (nI k).toNatClampNeg).toNatClampNeg) 1))))) else _) = _
      rw [h1 9 (by decide) (by decide), h2, if_pos (nI_le (Nat.le_refl _) (by omega)), if_neg (ob_n (show k < 12 by omega) (by decide))]
      simp only [cl_n (show k < 2 ^ 31 by omega), e8]
      rw [if_neg (ob_n (show Q k < 13 by omega) (by decide)), cl_n (by omega), h1 (16 + 4 * Q k) (by omega) (by omega)]
    · rw [mk_st_ne _ _ _ _ (by omega), h1 9 (by decide) (by decide)]; exact h2
    · rw [mk_st_off _ _ _ _ (by decide), mk_st_off _ _ _ _ (by decide)]; exact h3 j (by omega)
  | succ d ih =>
    intro i n M' hi hn h1 h3
    obtain ⟨n, rfl⟩ : ∃ m, n = m + 1 := ⟨n - 1, by omega⟩
    obtain ⟨q1, q2⟩ := hQ i (by omega)
    have e8 : M' (7 + 1) i = nI (Q i) := by rw [h1 (7 + 1) (by decide) (by decide)]; exact q1
    obtain ⟨M2, e1, e2⟩ := ih (i + 1) n (mk_st (mk_st M' 10 i (nI (Q i))) 11 i (M (16 + 4 * Q i) 0)) (by omega) (by omega) (fun y y1 y2 => by rw [mk_st_off _ _ _ _ y2, mk_st_off _ _ _ _ y1]; exact h1 y y1 y2) (fun j hj => by
      by_cases z : j = i
      · subst z
        exact ⟨by rw [mk_st_off _ _ _ _ (by decide), mk_st_same], mk_st_same _ _ _ _⟩
      · rw [mk_st_off _ _ _ _ (by decide), mk_st_ne _ _ _ _ (by omega), mk_st_ne _ _ _ _ (by omega), mk_st_off _ _ _ _ (by decide)]
        exact h3 j (by omega))
    refine ⟨M2, ?_, e2⟩
    rw [← e1]
    have ho := ob_n (show i < 12 by omega) (by decide)
    have f8 : (mk_st M' 10 i (nI (Q i))) (7 + 1) i = nI (Q i) := by rw [mk_st_off _ _ _ _ (by decide)]; exact e8
    have ft : (mk_st M' 10 i (nI (Q i))) (16 + 4 * Q i) 0 = M (16 + 4 * Q i) 0 := by rw [mk_st_off _ _ _ _ (by omega), h1 (16 + 4 * Q i) (by omega) (by omega)]
    show (if (M' 9 2) ≤ nI i then _ else (if mk_ob (nI i) 12 then none else (if mk_ob (nI i) 12 then none else (if mk_ob (nI i) 12 then none else (if mk_ob ((mk_st M' 10 (nI i).toNatClampNeg (M' (7+1) (nI i).toNatClampNeg)) (7+1) (nI i).toNatClampNeg) 13 then none else (if mk_ob (nI i) 12 then none else (f_X2_keep_10 7 n (nI k) (nI i + 1) (mk_st (mk_st M' 10 (nI i).toNatClampNeg (M' (7+1) (nI i).toNatClampNeg)) 11 (nI i).toNatClampNeg ((mk_st M' 10 (nI i).toNatClampNeg (M' (7+1) (nI i).toNatClampNeg)) (16 + 4 * ((mk_st M' 10 (nI i).toNatClampNeg (M' (7+1) (nI i).toNatClampNeg)) (7+1) (nI i).toNatClampNeg).toNatClampNeg) 0))))))))) = _
    rw [h1 9 (by decide) (by decide), h2, if_neg (nI_ge (by omega) (by omega)), if_neg ho, if_neg ho, if_neg ho]
    simp only [cl_n (show i < 2 ^ 31 by omega), e8, f8, cl_n (show Q i < 2 ^ 31 by omega), ft, nI_1, if_neg ho]
    rw [if_neg (ob_n (show Q i < 13 by omega) (by decide))]
theorem nw_lp {B : mk_M} {s k : Nat} {Q : Nat → Nat} (hs : s ≤ 12) (hk : k < s) (h7 : B 68 7 = nI s) (hQ : ∀ i, i < s → B 75 i = nI (Q i) ∧ 1 ≤ Q i ∧ Q i ≤ 12) (hj : ∀ i j, i < s → j < s → Q i = Q j → i = j) :
    ∀ d i n : Nat, ∀ B' : mk_M, i + d = k + 1 → d < n → (∀ y, y ≠ 68 → y ≠ 89 → y ≠ 90 → B' y = B y) → (∀ q, q ≠ 29 → B' 68 q = B 68 q) → B' 68 29 = nI i → (∀ j, j < i → B' 89 j = nI (Q j) ∧ B' 90 j = B 71 (Q j)) →
    ∃ B2 : mk_M, f_X6_noteWitness_7 n (nI (Q k)) (nI i) B' = some B2 ∧ (∀ y, y ≠ 68 → y ≠ 89 → y ≠ 90 → B2 y = B y) ∧ (∀ q, q ≠ 29 → q ≠ 32 → B2 68 q = B 68 q) ∧ B2 68 29 = nI (k + 1) ∧ B2 68 32 = B 72 (Q k) ∧ ∀ j, j ≤ k → B2 89 j = nI (Q j) ∧ B2 90 j = B 71 (Q j) := by
  have body : ∀ (K : Int32 → Int32 → mk_M → Option mk_M) (i : Nat) (B' : mk_M), i < s → (∀ y, y ≠ 68 → y ≠ 89 → y ≠ 90 → B' y = B y) → B' 68 29 = nI i → f_X6_noteWitness_31 K (nI (Q k)) (nI i) B' = K (nI (Q k)) (nI (i + 1)) (mk_st (mk_st (mk_st B' 89 i (nI (Q i))) 90 i (B 71 (Q i))) 68 29 (nI (i + 1))) := fun K i B' hi h1 h29 => by
    obtain ⟨q1, q2, q3⟩ := hQ i hi
    have ho := ob_n (show i < 13 by omega) (by decide)
    have e75 : B' 75 i = nI (Q i) := by rw [h1 75 (by decide) (by decide) (by decide)]; exact q1
    have f75 : (mk_st B' 89 i (nI (Q i))) 75 i = nI (Q i) := by rw [mk_st_off _ _ _ _ (by decide)]; exact e75
    have f71 : (mk_st B' 89 i (nI (Q i))) 71 (Q i) = B 71 (Q i) := by rw [mk_st_off _ _ _ _ (by decide), h1 71 (by decide) (by decide) (by decide)]
    have f29 : (mk_st (mk_st B' 89 i (nI (Q i))) 90 i (B 71 (Q i))) 68 29 = nI i := by rw [mk_st_off _ _ _ _ (by decide), mk_st_off _ _ _ _ (by decide)]; exact h29
    unfold f_X6_noteWitness_31
    simp only [if_neg ho, cl_n (show i < 2 ^ 31 by omega), e75, f75, cl_n (show Q i < 2 ^ 31 by omega), f71, f29, nI_1]
    rw [if_neg (ob_n (show Q i < 13 by omega) (by decide))]
  intro d
  induction d with
  | zero =>
    intro i n B' hi hn h1 h2 h3 h4
    obtain ⟨n, rfl⟩ : ∃ m, n = m + 1 := ⟨n - 1, by omega⟩
    have e : i = k + 1 := by omega
    subst e
    obtain ⟨q1, q2, q3⟩ := hQ k hk
    refine ⟨mk_st B' 68 32 (B 72 (Q k)), ?_, fun y y1 y2 y3 => by rw [mk_st_off _ _ _ _ y1]; exact h1 y y1 y2 y3, fun q z1 z2 => by rw [mk_st_ne _ _ _ _ (by omega)]; exact h2 q z1, by rw [mk_st_ne _ _ _ _ (by omega)]; exact h3, mk_st_same _ _ _ _, fun j hj' => by
      rw [mk_st_off _ _ _ _ (by decide), mk_st_off _ _ _ _ (by decide)]; exact h4 j (by omega)⟩
    have em : nI (k + 1) - 1 = nI k := by rw [show (1 : Int32) = nI 1 from rfl, pk_sub (by omega)]; rfl
    have e75 : B' 75 k = nI (Q k) := by rw [h1 75 (by decide) (by decide) (by decide)]; exact q1
    have E : (if mk_ob (nI (Q k)) 13 then none else (some (mk_st B' 68 32 (B' 72 (nI (Q k)).toNatClampNeg)))) = some (mk_st B' 68 32 (B 72 (Q k))) := by
      rw [if_neg (ob_n (show Q k < 13 by omega) (by decide)), cl_n (by omega), h1 72 (by decide) (by decide) (by decide)]
    show (if (B' 68 7) ≤ nI (k + 1) then (if mk_ob (nI (Q k)) 13 then none else (some (mk_st B' 68 32 (B' 72 (nI (Q k)).toNatClampNeg)))) else (if nI (k + 1) = 0 then (f_X6_noteWitness_31 (f_X6_noteWitness_7 n) (nI (Q k)) (nI (k + 1)) B') else (if mk_ob (nI (k + 1) - 1) 13 then none else (if (B' 75 (nI (k + 1) - 1).toNatClampNeg) = nI (Q k) then (if mk_ob (nI (Q k)) 13 then none else (some (mk_st B' 68 32 (B' 72 (nI (Q k)).toNatClampNeg)))) else _)))) = _
    rw [E, em, if_neg (nI_ne0 (show 0 < k + 1 by omega) (by omega)), if_neg (ob_n (show k < 13 by omega) (by decide)), cl_n (by omega), e75, if_pos rfl, ite_self]
  | succ d ih =>
    intro i n B' hi hn h1 h2 h3 h4
    obtain ⟨n, rfl⟩ : ∃ m, n = m + 1 := ⟨n - 1, by omega⟩
    obtain ⟨B2, e1, e2⟩ := ih (i + 1) n (mk_st (mk_st (mk_st B' 89 i (nI (Q i))) 90 i (B 71 (Q i))) 68 29 (nI (i + 1))) (by omega) (by omega) (fun y y1 y2 y3 => by rw [mk_st_off _ _ _ _ y1, mk_st_off _ _ _ _ y3, mk_st_off _ _ _ _ y2]; exact h1 y y1 y2 y3) (fun q z1 => by rw [mk_st_ne _ _ _ _ (by omega), mk_st_off _ _ _ _ (by decide), mk_st_off _ _ _ _ (by decide)]; exact h2 q z1) (mk_st_same _ _ _ _) (fun j hj' => by
      by_cases z : j = i
      · subst z
        exact ⟨by rw [mk_st_off _ _ _ _ (by decide), mk_st_off _ _ _ _ (by decide), mk_st_same], by rw [mk_st_off _ _ _ _ (by decide), mk_st_same]⟩
      · rw [mk_st_off _ _ _ _ (by decide), mk_st_off _ _ _ _ (by decide), mk_st_ne _ _ _ _ (by omega), mk_st_off _ _ _ _ (by decide), mk_st_ne _ _ _ _ (by omega), mk_st_off _ _ _ _ (by decide)]
        exact h4 j (by omega))
    refine ⟨B2, ?_, e2⟩
    rw [← e1, ← body (f_X6_noteWitness_7 n) i B' (by omega) h1 h3]
    show (if (B' 68 7) ≤ nI i then _ else (if nI i = 0 then (f_X6_noteWitness_31 (f_X6_noteWitness_7 n) (nI (Q k)) (nI i) B') else (if mk_ob (nI i - 1) 13 then none else (if (B' 75 (nI i - 1).toNatClampNeg) = nI (Q k) then _ else (f_X6_noteWitness_31 (f_X6_noteWitness_7 n) (nI (Q k)) (nI i) B'))))) = _
    rw [h2 7 (by decide), h7, if_neg (nI_ge (by omega) (by omega))]
    rcases Nat.eq_zero_or_pos i with z | z
    · rw [z, if_pos nI_0]
    · obtain ⟨i, rfl⟩ : ∃ m, i = m + 1 := ⟨i - 1, by omega⟩
      have em : nI (i + 1) - 1 = nI i := by rw [show (1 : Int32) = nI 1 from rfl, pk_sub (by omega)]; rfl
      obtain ⟨q1, q2, q3⟩ := hQ i (by omega)
      have q4 := (hQ k hk).2
      have e75 : B' 75 i = nI (Q i) := by rw [h1 75 (by decide) (by decide) (by decide)]; exact q1
      have ne : ¬ nI (Q i) = nI (Q k) := fun z' => by
        have := hj i k (by omega) hk (nI_inj (by omega) (by omega) z')
        omega
      rw [if_neg (nI_ne0 z (by omega)), em, if_neg (ob_n (show i < 13 by omega) (by decide)), cl_n (by omega), e75, if_neg ne]
