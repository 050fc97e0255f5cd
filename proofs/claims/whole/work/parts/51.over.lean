/-! tick: the class's rows and the reference's rows apart -/
def pu_ov (A B : mk_M) : mk_M := fun x => if x < 68 then A x else B x
theorem ov_lo (A B : mk_M) {x : Nat} (h : x < 68) : pu_ov A B x = A x := by unfold pu_ov; rw [if_pos h]
theorem ov_hi (A B : mk_M) {x : Nat} (h : 68 ≤ x) : pu_ov A B x = B x := by unfold pu_ov; rw [if_neg (by omega)]
theorem ov_self (M : mk_M) : pu_ov M M = M := by
  funext x
  unfold pu_ov
  rw [ite_self]
theorem pu_J.tsk {n n' : Nat} {M M2 : mk_M} {t np no ch w wd : Nat} {P O : Nat → Nat} (h : pu_J n M t np no ch w wd P O) (hn : n ≤ n') (hn5 : n' ≤ 512) (r1 : ∀ x, x < 7 ∨ (9 ≤ x ∧ x ≤ 15) → M2 x = M x) (r2 : ∀ k, k ≠ 0 → M2 68 k = M 68 k) (r3 : ∀ x, 69 ≤ x → (71 ≤ x ∧ x ≤ 76) ∨ 87 ≤ x → x ≠ 77 → x < 91 → M2 x = M x) (hT : pu_T n' M2 P np) : pu_J n' M2 t np no ch w wd P O := by
  obtain ⟨a1', a2', a3, a4, a5, a6, a7, a8, a9, a10, a11, a12⟩ := h
  refine ⟨?_, ?_, ?_, ?_, ?_, ?_, a7, ?_, a9, hT, ?_, ?_⟩
  · rw [r1 0 (by decide), r2 21 (by decide)]; exact ⟨a1'.1, a1'.2.1, by omega, by omega⟩
  · rw [r1 12 (by decide), r1 13 (by decide), r3 88 (by decide) (by decide) (by decide) (by decide)]; exact a2'
  · rw [r1 0 (by decide), r2 24 (by decide)]; exact a3
  · rw [r1 0 (by decide), r2 22 (by decide), r2 23 (by decide), r2 26 (by decide)]; exact a4
  · rw [r1 14 (by decide), r1 15 (by decide), r2 25 (by decide), r3 87 (by decide) (by decide) (by decide) (by decide)]; exact a5
  · rw [r1 3 (by decide), r1 4 (by decide), r2 7 (by decide), r3 75 (by decide) (by decide) (by decide) (by decide)]; exact a6
  · rw [r1 5 (by decide), r1 6 (by decide), r2 9 (by decide), r3 76 (by decide) (by decide) (by decide) (by decide)]; exact a8
  · rw [r1 9 (by decide), r1 10 (by decide), r1 11 (by decide), r2 29 (by decide), r2 32 (by decide), r3 89 (by decide) (by decide) (by decide) (by decide), r3 90 (by decide) (by decide) (by decide) (by decide)]; exact a11
  · exact fun k hk => pu_ok_same (r3 71 (by decide) (by decide) (by decide) (by decide)) (r3 72 (by decide) (by decide) (by decide) (by decide)) (r3 73 (by decide) (by decide) (by decide) (by decide)) (r3 74 (by decide) (by decide) (by decide) (by decide)) (a12 k hk)
/-! who runs -/
theorem ru_c {A : mk_M} {no : Nat} {O pv : Nat → Nat} (h5 : A 5 1 = nI no) (hno : no ≤ 12) (h6 : ∀ i, i < no → A 6 i = nI (O i) ∧ O i ≤ 12 ∧ A (16 + 4 * O i) 9 = nI (pv (O i)) ∧ pv (O i) ≤ 8) : ∀ d i n : Nat, i + d = no → d < n → (∀ j, j < i → pv (O j) = 0) →
    (∃ p, p < no ∧ 0 < pv (O p) ∧ (∀ j, j < p → pv (O j) = 0) ∧ f_X5_firstToRun_2 n (nI i) A = some (nI (O p))) ∨ ((∀ j, j < no → pv (O j) = 0) ∧ f_X5_firstToRun_2 n (nI i) A = some 0) := by
  intro d
  induction d with
  | zero =>
    intro i n hi hn h0
    obtain ⟨n, rfl⟩ : ∃ m, n = m + 1 := ⟨n - 1, by omega⟩
    have e : i = no := by omega
    subst e
    right
    refine ⟨h0, ?_⟩
    show (if A 5 1 ≤ nI i then some 0 else _) = _
    rw [h5, if_pos (nI_le (Nat.le_refl _) (by omega))]
  | succ d ih =>
    intro i n hi hn h0
    obtain ⟨n, rfl⟩ : ∃ m, n = m + 1 := ⟨n - 1, by omega⟩
    obtain ⟨q1, q2, q3, q4⟩ := h6 i (by omega)
    have e : f_X5_firstToRun_2 (n + 1) (nI i) A = if nI (pv (O i)) ≤ 0 then f_X5_firstToRun_2 n (nI (i + 1)) A else some (nI (O i)) := by
      show (if A 5 1 ≤ nI i then some 0 else (if mk_ob (nI i) 12 then none else (if mk_ob (A 6 (nI i).toNatClampNeg) 13 then none else (if (A (16 + 4 * (A 6 (nI i).toNatClampNeg).toNatClampNeg) 9) ≤ 0 then (f_X5_firstToRun_2 n (nI i + 1) A) else (if mk_ob (nI i) 12 then none else (some (A 6 (nI i).toNatClampNeg))))))) = _
      rw [h5, if_neg (nI_ge (by omega) (by omega)), if_neg (ob_n (by omega) (by omega)), if_neg (ob_n (show i < 12 by omega) (by omega))]
      simp only [cl_n (show i < 2 ^ 31 by omega), q1]
      rw [if_neg (ob_n (by omega) (by omega)), cl_n (by omega), q3, nI_1]
    rw [e]
    rcases Nat.eq_zero_or_pos (pv (O i)) with c | c
    · rw [c, if_pos (by decide)]
      exact ih (i + 1) n (by omega) (by omega) (fun j hj => by
        by_cases q : j = i
        · rw [q]; exact c
        · exact h0 j (by omega))
    · left
      exact ⟨i, by omega, c, h0, by rw [if_neg (nle0 c (by omega))]⟩
theorem ru_r {B : mk_M} {no : Nat} {O pv : Nat → Nat} (h9 : B 68 9 = nI no) (hno : no ≤ 12) (h6 : ∀ i, i < no → B 76 i = nI (O i) ∧ O i ≤ 12 ∧ 1 ≤ O i ∧ f_X6_pending (nI (O i)) B = some (nI (pv (O i))) ∧ pv (O i) ≤ 8) : ∀ d i n : Nat, i + d = no → d + 1 < n → (∀ j, j < i → pv (O j) = 0) →
    (∃ p, p < no ∧ 0 < pv (O p) ∧ (∀ j, j < p → pv (O j) = 0) ∧ f_X6_oneTick_4 n 0 (nI i) B = f_X6_oneTick_46 (nI (O p)) B) ∨ ((∀ j, j < no → pv (O j) = 0) ∧ f_X6_oneTick_4 n 0 (nI i) B = f_X6_oneTick_46 0 B) := by
  intro d
  induction d with
  | zero =>
    intro i n hi hn h0
    obtain ⟨n, rfl⟩ : ∃ m, n = m + 1 := ⟨n - 1, by omega⟩
    have e : i = no := by omega
    subst e
    right
    refine ⟨h0, ?_⟩
    show (if B 68 9 ≤ nI i then f_X6_oneTick_46 0 B else _) = _
    rw [h9, if_pos (nI_le (Nat.le_refl _) (by omega))]
  | succ d ih =>
    intro i n hi hn h0
    obtain ⟨n, rfl⟩ : ∃ m, n = m + 1 := ⟨n - 1, by omega⟩
    obtain ⟨q1, q2, q3, q4, q5⟩ := h6 i (by omega)
    have e : f_X6_oneTick_4 (n + 1) 0 (nI i) B = if nI (pv (O i)) ≤ 0 then f_X6_oneTick_4 n 0 (nI (i + 1)) B else f_X6_oneTick_4 n (nI (O i)) (nI (i + 1)) B := by
      show (if B 68 9 ≤ nI i then _ else (if (0 : Int32) = 0 then (if mk_ob (nI i) 13 then none else ((f_X6_pending (B 76 (nI i).toNatClampNeg) B).bind (fun r_12 => (if r_12 ≤ 0 then (f_X6_oneTick_4 n 0 (nI i + 1) B) else (if mk_ob (nI i) 13 then none else (f_X6_oneTick_4 n (B 76 (nI i).toNatClampNeg) (nI i + 1) B)))))) else _)) = _
      rw [h9, if_neg (nI_ge (by omega) (by omega)), if_pos rfl, if_neg (ob_n (show i < 13 by omega) (by omega))]
      simp only [cl_n (show i < 2 ^ 31 by omega), q1, q4, Option.bind_some, nI_1]
      rw [if_neg (ob_n (show i < 13 by omega) (by omega))]
    rw [e]
    rcases Nat.eq_zero_or_pos (pv (O i)) with c | c
    · rw [c, if_pos (by decide)]
      exact ih (i + 1) n (by omega) (by omega) (fun j hj => by
        by_cases q : j = i
        · rw [q]; exact c
        · exact h0 j (by omega))
    · left
      refine ⟨i, by omega, c, h0, ?_⟩
      rw [if_neg (nle0 c (by omega))]
      obtain ⟨n, rfl⟩ : ∃ m, n = m + 1 := ⟨n - 1, by omega⟩
      show (if B 68 9 ≤ nI (i + 1) then f_X6_oneTick_46 (nI (O i)) B else (if nI (O i) = 0 then _ else f_X6_oneTick_46 (nI (O i)) B)) = _
      rw [if_neg (nI_ne0 q3 (by omega)), ite_self]
theorem put_n {A : mk_M} {x k t : Nat} (v : Int32) (hl : mk_ln (x + 1) = k) (hk0 : 0 < k) (hk : k ≤ 256) (ht : t < 2 ^ 31) (h1 : A x 1 = nI t) : f_X0_put x v A = some (mk_st (mk_st A (x + 1) (t % k) v) x 1 (nI (t + 1))) := by
  have hm : t % k < k := Nat.mod_lt _ hk0
  unfold f_X0_put
  rw [h1, hl, show Int32.ofNat k = nI k from rfl, fm_n A ht hk0 (by omega), Option.bind_some, if_neg (ob_n hm (by omega)), cl_n (by omega), mk_st_ne _ _ _ _ (by omega), h1, nI_1]
