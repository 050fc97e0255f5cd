/-! responses and bounds: the reference's -/
def pu_rv (B : mk_M) (id : Nat) : Prop := B 71 id = nI (pu_v B 71 id) ∧ B 72 id = nI (pu_v B 72 id) ∧ B 73 id = nI (pu_v B 73 id) ∧ B 74 id = nI (pu_v B 74 id)
/-- what the reference needs to look at the task at place k -/
def pu_rk (B : mk_M) (P : Nat → Nat) (k : Nat) : Prop := k < 12 ∧ (∀ i, i ≤ k → (1 ≤ P i ∧ P i ≤ 12) ∧ pu_rv B (P i) ∧ pu_vl B (P i)) ∧ (∀ i j, i ≤ k → j ≤ k → P i = P j → i = j) ∧ ∀ j, 1 ≤ j → j ≤ 12 → ((¬ B 92 j = 0 ∧ j ≠ P k) ↔ pu_kn P k j)
theorem rk_sum {B : mk_M} {P : Nat → Nat} {k : Nat} (h : pu_rk B P k) (f : Nat → Nat) : pu_sum (fun j => if ¬ B 92 (j + 1) = 0 ∧ j + 1 ≠ P k then f (j + 1) else 0) 12 = pu_sum (fun i => f (P i)) k := by
  obtain ⟨h0, h1, h2, h3⟩ := h
  refine pu_perm f P k (fun i hi => (h1 i (by omega)).1) (fun i j hi hj => h2 i j (by omega) (by omega)) (fun j => if ¬ B 92 j = 0 ∧ j ≠ P k then f j else 0) (fun id i1 i2 => ⟨fun c => ?_, fun c => ?_⟩)
  · show (if _ then _ else _) = _
    rw [if_pos ((h3 id i1 i2).mpr c)]
  · show (if _ then _ else _) = _
    rw [if_neg (fun z => c ((h3 id i1 i2).mp z))]
theorem l22_lp {B : mk_M} {P : Nat → Nat} {k r s0 : Nat} (h : pu_rk B P k) (hr : r ≤ 1000) {K : Int32 → Int32 → mk_M → Option Int32} : ∀ d i n : Nat, i + d = 12 → d < n →
    f_X6_lowResponse_22 K n (nI (P k)) (nI r) (nI (s0 + pu_sum (fun j => if ¬ B 92 (j + 1) = 0 ∧ j + 1 ≠ P k then pu_ce r (pu_v B 71 (j + 1)) * pu_v B 73 (j + 1) else 0) i)) (nI (i + 1)) B = if nI r < nI (s0 + pu_sum (fun j => if ¬ B 92 (j + 1) = 0 ∧ j + 1 ≠ P k then pu_ce r (pu_v B 71 (j + 1)) * pu_v B 73 (j + 1) else 0) 12) then K (nI (P k)) (nI (r + 1)) B else some (nI r) := by
  intro d
  induction d with
  | zero =>
    intro i n hi hn
    obtain ⟨n, rfl⟩ : ∃ m, n = m + 1 := ⟨n - 1, by omega⟩
    have e : i = 12 := by omega
    subst e
    show (if (13 : Int32) ≤ nI 13 then (if nI r < nI _ then K (nI (P k)) (nI r + 1) B else some (nI r)) else _) = _
    rw [if_pos (by decide), nI_1]
  | succ d ih =>
    intro i n hi hn
    obtain ⟨n, rfl⟩ : ∃ m, n = m + 1 := ⟨n - 1, by omega⟩
    have hPk := (h.2.1 k (Nat.le_refl _)).1
    have ho : ¬ mk_ob (nI (i + 1)) 13 := ob_n (by omega) (by decide)
    have ec : (nI (i + 1)).toNatClampNeg = i + 1 := cl_n (by omega)
    rw [← ih (i + 1) n (by omega) (by omega)]
    generalize hS : pu_sum (fun j => if ¬ B 92 (j + 1) = 0 ∧ j + 1 ≠ P k then pu_ce r (pu_v B 71 (j + 1)) * pu_v B 73 (j + 1) else 0) i = S
    have es : pu_sum (fun j => if ¬ B 92 (j + 1) = 0 ∧ j + 1 ≠ P k then pu_ce r (pu_v B 71 (j + 1)) * pu_v B 73 (j + 1) else 0) (i + 1) = S + (if ¬ B 92 (i + 1) = 0 ∧ i + 1 ≠ P k then pu_ce r (pu_v B 71 (i + 1)) * pu_v B 73 (i + 1) else 0) := by rw [← hS]; rfl
    rw [es]
    show (if (13 : Int32) ≤ nI (i + 1) then _ else (if mk_ob (nI (i + 1)) 13 then none else (if (B 92 (nI (i + 1)).toNatClampNeg) = 0 then (f_X6_lowResponse_22 K n (nI (P k)) (nI r) (nI (s0 + S)) (nI (i + 1) + 1) B) else (if nI (i + 1) = nI (P k) then (f_X6_lowResponse_22 K n (nI (P k)) (nI r) (nI (s0 + S)) (nI (i + 1) + 1) B) else (if mk_ob (nI (i + 1)) 13 then none else ((f_X6_times (nI r) (B 71 (nI (i + 1)).toNatClampNeg) B).bind (fun r_11 => (if mk_ob (nI (i + 1)) 13 then none else (f_X6_lowResponse_22 K n (nI (P k)) (nI r) (nI (s0 + S) + (r_11 * (B 73 (nI (i + 1)).toNatClampNeg))) (nI (i + 1) + 1) B))))))))) = _
    rw [if_neg (show ¬ (13 : Int32) ≤ nI (i + 1) from nI_ge (a := i + 1) (b := 13) (by omega) (by decide)), if_neg ho]
    simp only [if_neg ho, ec, nI_1]
    by_cases c1 : B 92 (i + 1) = 0
    · rw [if_pos c1, if_neg (show ¬ (¬ B 92 (i + 1) = 0 ∧ i + 1 ≠ P k) from fun z => z.1 c1), show S + 0 = S from Nat.add_zero S]
    · by_cases c2 : i + 1 = P k
      · rw [if_neg c1, if_pos (show nI (i + 1) = nI (P k) by rw [c2]), if_neg (show ¬ (¬ B 92 (i + 1) = 0 ∧ i + 1 ≠ P k) from fun z => z.2 c2), show S + 0 = S from Nat.add_zero S]
      · obtain ⟨m, m1, m2⟩ := (h.2.2.2 (i + 1) (by omega) (by omega)).mp ⟨c1, c2⟩
        obtain ⟨-, v1, v2⟩ := h.2.1 m (by omega)
        rw [m2] at v1 v2
        rw [if_neg c1, if_neg (show ¬ nI (i + 1) = nI (P k) from fun z => c2 (nI_inj (by omega) (by omega) z)), if_pos (show ¬ B 92 (i + 1) = 0 ∧ i + 1 ≠ P k from ⟨c1, c2⟩), v1.1, ti_n B (by omega) v2.1.1 v2.1.2, Option.bind_some, v1.2.2.1, pk_mul, nI_add, Nat.add_assoc]
theorem lo_b {B : mk_M} {P : Nat → Nat} {k r : Nat} (h : pu_rk B P k) (hr : r ≤ 1000) : pu_lo B P k r < 2 ^ 31 := by
  unfold pu_lo
  have hk := h.1
  have : pu_sum (fun i => pu_ce r (pu_v B 71 (P i)) * pu_v B 73 (P i)) k ≤ k * 100000 := pu_sum_le (fun j hj => by
    obtain ⟨-, -, q4⟩ := h.2.1 j (by omega)
    have h1 := ce_le (r := r) q4.1.1
    exact Nat.le_trans (Nat.mul_le_mul (Nat.le_trans h1 hr) q4.2.2.1.2) (by decide))
  have := (h.2.1 k (Nat.le_refl _)).2.2.2.2.1.2
  omega
theorem l2_lp {B : mk_M} {P : Nat → Nat} {k : Nat} (h : pu_rk B P k) : ∀ d r n : Nat, r + d = pu_v B 72 (P k) + 1 → d < n → 1 ≤ r → (∀ q, 1 ≤ q → q < r → q < pu_lo B P k q) →
    (∃ r', pu_lr B P k r' ∧ f_X6_lowResponse_2 n (nI (P k)) (nI r) B = some (nI r')) ∨ ((∀ q, 1 ≤ q → q ≤ pu_v B 72 (P k) → q < pu_lo B P k q) ∧ f_X6_lowResponse_2 n (nI (P k)) (nI r) B = some 0) := by
  obtain ⟨hPk, v1, v2⟩ := h.2.1 k (Nat.le_refl _)
  have ho : ¬ mk_ob (nI (P k)) 13 := ob_n (by omega) (by decide)
  have ec : (nI (P k)).toNatClampNeg = P k := cl_n (by omega)
  have hdl := v2.2.1.2
  intro d
  induction d with
  | zero =>
    intro r n hr hn h1 h2
    obtain ⟨n, rfl⟩ : ∃ m, n = m + 1 := ⟨n - 1, by omega⟩
    right
    refine ⟨fun q q1 q2 => h2 q q1 (by omega), ?_⟩
    show (if mk_ob (nI (P k)) 13 then none else (if (B 72 (nI (P k)).toNatClampNeg) < nI r then some 0 else _)) = _
    rw [if_neg ho]
    simp only [ec]
    rw [v1.2.1, if_pos (nI_lt (by omega) (by omega))]
  | succ d ih =>
    intro r n hr hn h1 h2
    obtain ⟨n, rfl⟩ : ∃ m, n = m + 1 := ⟨n - 1, by omega⟩
    have key := l22_lp (r := r) (s0 := pu_v B 73 (P k)) h (by omega) (K := f_X6_lowResponse_2 n) 12 0 mk_F (by omega) (mk_F_lt (by omega))
    rw [rk_sum h (fun j => pu_ce r (pu_v B 71 j) * pu_v B 73 j)] at key
    have e : f_X6_lowResponse_2 (n + 1) (nI (P k)) (nI r) B = if nI r < nI (pu_lo B P k r) then f_X6_lowResponse_2 n (nI (P k)) (nI (r + 1)) B else some (nI r) := by
      rw [show pu_lo B P k r = pu_v B 73 (P k) + pu_sum (fun i => pu_ce r (pu_v B 71 (P i)) * pu_v B 73 (P i)) k from rfl, ← key]
      show (if mk_ob (nI (P k)) 13 then none else (if (B 72 (nI (P k)).toNatClampNeg) < nI r then some 0 else (if mk_ob (nI (P k)) 13 then none else (f_X6_lowResponse_22 (f_X6_lowResponse_2 n) mk_F (nI (P k)) (nI r) (B 73 (nI (P k)).toNatClampNeg) 1 B)))) = _
      rw [if_neg ho]
      simp only [if_neg ho, ec]
      rw [v1.2.1, if_neg (nI_nlt (by omega) (by omega)), v1.2.2.1]
      rfl
    rw [e]
    rcases Nat.lt_or_ge r (pu_lo B P k r) with c | c
    · rw [if_pos (nI_lt c (lo_b h (by omega)))]
      refine ih (r + 1) n (by omega) (by omega) (by omega) (fun q q1 q2 => ?_)
      by_cases z : q = r
      · rw [z]; exact c
      · exact h2 q q1 (by omega)
    · left
      exact ⟨r, ⟨h1, by omega, c, h2⟩, by rw [if_neg (nI_nlt c (by omega))]⟩
theorem l_n {B : mk_M} {P : Nat → Nat} {k : Nat} (h : pu_rk B P k) : (∃ r', pu_lr B P k r' ∧ f_X6_lowResponse (nI (P k)) B = some (nI r')) ∨ ((∀ q, 1 ≤ q → q ≤ pu_v B 72 (P k) → q < pu_lo B P k q) ∧ f_X6_lowResponse (nI (P k)) B = some 0) :=
  l2_lp h (pu_v B 72 (P k)) 1 mk_F (by omega) (mk_F_lt (by have := (h.2.1 k (Nat.le_refl _)).2.2.2.1.2; omega)) (by omega) (fun q q1 q2 => by omega)
theorem b10_lp {B : mk_M} {P : Nat → Nat} {k r s0 : Nat} (h : pu_rk B P k) (hr : r ≤ 1000) : ∀ d i n : Nat, i + d = 12 → d < n →
    f_X6_bound_10 n (nI (P k)) (nI r) (nI (s0 + pu_sum (fun j => if ¬ B 92 (j + 1) = 0 ∧ j + 1 ≠ P k then (if pu_v B 74 (j + 1) = 0 then pu_ce r (pu_v B 71 (j + 1)) * pu_v B 73 (j + 1) else 0) else 0) i)) (nI (i + 1)) B = f_X6_bound_78 mk_F (nI (P k)) (nI (s0 + pu_sum (fun j => if ¬ B 92 (j + 1) = 0 ∧ j + 1 ≠ P k then (if pu_v B 74 (j + 1) = 0 then pu_ce r (pu_v B 71 (j + 1)) * pu_v B 73 (j + 1) else 0) else 0) 12)) 1 B := by
  intro d
  induction d with
  | zero =>
    intro i n hi hn
    obtain ⟨n, rfl⟩ : ∃ m, n = m + 1 := ⟨n - 1, by omega⟩
    have e : i = 12 := by omega
    subst e
    show (if (13 : Int32) ≤ nI 13 then f_X6_bound_78 mk_F (nI (P k)) _ 1 B else _) = _
    rw [if_pos (by decide)]
  | succ d ih =>
    intro i n hi hn
    obtain ⟨n, rfl⟩ : ∃ m, n = m + 1 := ⟨n - 1, by omega⟩
    have hPk := (h.2.1 k (Nat.le_refl _)).1
    have ho : ¬ mk_ob (nI (i + 1)) 13 := ob_n (by omega) (by decide)
    have ec : (nI (i + 1)).toNatClampNeg = i + 1 := cl_n (by omega)
    rw [← ih (i + 1) n (by omega) (by omega)]
    generalize hS : pu_sum (fun j => if ¬ B 92 (j + 1) = 0 ∧ j + 1 ≠ P k then (if pu_v B 74 (j + 1) = 0 then pu_ce r (pu_v B 71 (j + 1)) * pu_v B 73 (j + 1) else 0) else 0) i = S
    have es : pu_sum (fun j => if ¬ B 92 (j + 1) = 0 ∧ j + 1 ≠ P k then (if pu_v B 74 (j + 1) = 0 then pu_ce r (pu_v B 71 (j + 1)) * pu_v B 73 (j + 1) else 0) else 0) (i + 1) = S + (if ¬ B 92 (i + 1) = 0 ∧ i + 1 ≠ P k then (if pu_v B 74 (i + 1) = 0 then pu_ce r (pu_v B 71 (i + 1)) * pu_v B 73 (i + 1) else 0) else 0) := by rw [← hS]; rfl
    rw [es]
    show (if (13 : Int32) ≤ nI (i + 1) then _ else (if mk_ob (nI (i + 1)) 13 then none else (if (B 92 (nI (i + 1)).toNatClampNeg) = 0 then (f_X6_bound_10 n (nI (P k)) (nI r) (nI (s0 + S)) (nI (i + 1) + 1) B) else (if nI (i + 1) = nI (P k) then (f_X6_bound_10 n (nI (P k)) (nI r) (nI (s0 + S)) (nI (i + 1) + 1) B) else (if mk_ob (nI (i + 1)) 13 then none else (if (B 74 (nI (i + 1)).toNatClampNeg) = 0 then (if mk_ob (nI (i + 1)) 13 then none else ((f_X6_times (nI r) (B 71 (nI (i + 1)).toNatClampNeg) B).bind (fun r_24 => (if mk_ob (nI (i + 1)) 13 then none else (f_X6_bound_10 n (nI (P k)) (nI r) (nI (s0 + S) + (r_24 * (B 73 (nI (i + 1)).toNatClampNeg))) (nI (i + 1) + 1) B))))) else (f_X6_bound_10 n (nI (P k)) (nI r) (nI (s0 + S)) (nI (i + 1) + 1) B))))))) = _
    rw [if_neg (show ¬ (13 : Int32) ≤ nI (i + 1) from nI_ge (a := i + 1) (b := 13) (by omega) (by decide)), if_neg ho]
    simp only [if_neg ho, ec, nI_1]
    by_cases c1 : B 92 (i + 1) = 0
    · rw [if_pos c1, if_neg (show ¬ (¬ B 92 (i + 1) = 0 ∧ i + 1 ≠ P k) from fun z => z.1 c1), show S + 0 = S from Nat.add_zero S]
    · by_cases c2 : i + 1 = P k
      · rw [if_neg c1, if_pos (show nI (i + 1) = nI (P k) by rw [c2]), if_neg (show ¬ (¬ B 92 (i + 1) = 0 ∧ i + 1 ≠ P k) from fun z => z.2 c2), show S + 0 = S from Nat.add_zero S]
      · obtain ⟨m, m1, m2⟩ := (h.2.2.2 (i + 1) (by omega) (by omega)).mp ⟨c1, c2⟩
        obtain ⟨-, v1, v2⟩ := h.2.1 m (by omega)
        rw [m2] at v1 v2
        have v74 := v2.2.2.2
        rw [if_neg c1, if_neg (show ¬ nI (i + 1) = nI (P k) from fun z => c2 (nI_inj (by omega) (by omega) z)), if_pos (show ¬ B 92 (i + 1) = 0 ∧ i + 1 ≠ P k from ⟨c1, c2⟩), v1.2.2.2]
        rcases Nat.eq_zero_or_pos (pu_v B 74 (i + 1)) with z | z
        · rw [z, if_pos nI_0, if_pos rfl, v1.1, ti_n B (by omega) v2.1.1 v2.1.2, Option.bind_some, v1.2.2.1, pk_mul, nI_add, Nat.add_assoc]
        · rw [if_neg (nI_ne0 z (by omega)), if_neg (show ¬ pu_v B 74 (i + 1) = 0 by omega), show S + 0 = S from Nat.add_zero S]
theorem b95_lp {B : mk_M} {P : Nat → Nat} {k r s0 : Nat} {l3 : Int32} (h : pu_rk B P k) (hr : r ≤ 1000) {K : Int32 → Int32 → Int32 → mk_M → Option Int32} : ∀ d i n : Nat, i + d = 12 → d < n →
    f_X6_bound_95 K n (nI (P k)) l3 (nI r) (nI (s0 + pu_sum (fun j => if ¬ B 92 (j + 1) = 0 ∧ j + 1 ≠ P k then pu_ce r (pu_v B 71 (j + 1)) * pu_v B 74 (j + 1) else 0) i)) (nI (i + 1)) B = if nI r < nI (s0 + pu_sum (fun j => if ¬ B 92 (j + 1) = 0 ∧ j + 1 ≠ P k then pu_ce r (pu_v B 71 (j + 1)) * pu_v B 74 (j + 1) else 0) 12) then K (nI (P k)) l3 (nI (r + 1)) B else some (nI r) := by
  intro d
  induction d with
  | zero =>
    intro i n hi hn
    obtain ⟨n, rfl⟩ : ∃ m, n = m + 1 := ⟨n - 1, by omega⟩
    have e : i = 12 := by omega
    subst e
    show (if (13 : Int32) ≤ nI 13 then (if nI r < nI _ then K (nI (P k)) l3 (nI r + 1) B else some (nI r)) else _) = _
    rw [if_pos (by decide), nI_1]
  | succ d ih =>
    intro i n hi hn
    obtain ⟨n, rfl⟩ : ∃ m, n = m + 1 := ⟨n - 1, by omega⟩
    have hPk := (h.2.1 k (Nat.le_refl _)).1
    have ho : ¬ mk_ob (nI (i + 1)) 13 := ob_n (by omega) (by decide)
    have ec : (nI (i + 1)).toNatClampNeg = i + 1 := cl_n (by omega)
    rw [← ih (i + 1) n (by omega) (by omega)]
    generalize hS : pu_sum (fun j => if ¬ B 92 (j + 1) = 0 ∧ j + 1 ≠ P k then pu_ce r (pu_v B 71 (j + 1)) * pu_v B 74 (j + 1) else 0) i = S
    have es : pu_sum (fun j => if ¬ B 92 (j + 1) = 0 ∧ j + 1 ≠ P k then pu_ce r (pu_v B 71 (j + 1)) * pu_v B 74 (j + 1) else 0) (i + 1) = S + (if ¬ B 92 (i + 1) = 0 ∧ i + 1 ≠ P k then pu_ce r (pu_v B 71 (i + 1)) * pu_v B 74 (i + 1) else 0) := by rw [← hS]; rfl
    rw [es]
    show (if (13 : Int32) ≤ nI (i + 1) then _ else (if mk_ob (nI (i + 1)) 13 then none else (if (B 92 (nI (i + 1)).toNatClampNeg) = 0 then (f_X6_bound_95 K n (nI (P k)) l3 (nI r) (nI (s0 + S)) (nI (i + 1) + 1) B) else (if nI (i + 1) = nI (P k) then (f_X6_bound_95 K n (nI (P k)) l3 (nI r) (nI (s0 + S)) (nI (i + 1) + 1) B) else (if mk_ob (nI (i + 1)) 13 then none else (if (B 74 (nI (i + 1)).toNatClampNeg) ≤ 0 then (f_X6_bound_95 K n (nI (P k)) l3 (nI r) (nI (s0 + S)) (nI (i + 1) + 1) B) else (if mk_ob (nI (i + 1)) 13 then none else ((f_X6_times (nI r) (B 71 (nI (i + 1)).toNatClampNeg) B).bind (fun r_14 => (if mk_ob (nI (i + 1)) 13 then none else (f_X6_bound_95 K n (nI (P k)) l3 (nI r) (nI (s0 + S) + (r_14 * (B 74 (nI (i + 1)).toNatClampNeg))) (nI (i + 1) + 1) B))))))))))) = _
    rw [if_neg (show ¬ (13 : Int32) ≤ nI (i + 1) from nI_ge (a := i + 1) (b := 13) (by omega) (by decide)), if_neg ho]
    simp only [if_neg ho, ec, nI_1]
    by_cases c1 : B 92 (i + 1) = 0
    · rw [if_pos c1, if_neg (show ¬ (¬ B 92 (i + 1) = 0 ∧ i + 1 ≠ P k) from fun z => z.1 c1), show S + 0 = S from Nat.add_zero S]
    · by_cases c2 : i + 1 = P k
      · rw [if_neg c1, if_pos (show nI (i + 1) = nI (P k) by rw [c2]), if_neg (show ¬ (¬ B 92 (i + 1) = 0 ∧ i + 1 ≠ P k) from fun z => z.2 c2), show S + 0 = S from Nat.add_zero S]
      · obtain ⟨m, m1, m2⟩ := (h.2.2.2 (i + 1) (by omega) (by omega)).mp ⟨c1, c2⟩
        obtain ⟨-, v1, v2⟩ := h.2.1 m (by omega)
        rw [m2] at v1 v2
        have v74 := v2.2.2.2
        rw [if_neg c1, if_neg (show ¬ nI (i + 1) = nI (P k) from fun z => c2 (nI_inj (by omega) (by omega) z)), if_pos (show ¬ B 92 (i + 1) = 0 ∧ i + 1 ≠ P k from ⟨c1, c2⟩), v1.2.2.2]
        rcases Nat.eq_zero_or_pos (pu_v B 74 (i + 1)) with z | z
        · rw [z, if_pos (show nI 0 ≤ 0 by decide), Nat.mul_zero, show S + 0 = S from Nat.add_zero S]
        · rw [if_neg (nle0 z (by omega)), v1.1, ti_n B (by omega) v2.1.1 v2.1.2, Option.bind_some, pk_mul, nI_add, Nat.add_assoc]
theorem fx_b {B : mk_M} {P : Nat → Nat} {k r : Nat} (h : pu_rk B P k) (hr : r ≤ 1000) : pu_fx B P k r ≤ 200 + k * 100000 := by
  unfold pu_fx
  have := (h.2.1 k (Nat.le_refl _)).2.2.2.2.2
  have : pu_sum (fun i => if pu_v B 74 (P i) = 0 then pu_ce r (pu_v B 71 (P i)) * pu_v B 73 (P i) else 0) k ≤ k * 100000 := pu_sum_le (fun j hj => by
    obtain ⟨-, -, q4⟩ := h.2.1 j (by omega)
    have h1 := ce_le (r := r) q4.1.1
    show (if _ then _ else _) ≤ _
    split
    · exact Nat.le_trans (Nat.mul_le_mul (Nat.le_trans h1 hr) q4.2.2.1.2) (by decide)
    · exact Nat.zero_le _)
  omega
theorem hi_b {B : mk_M} {P : Nat → Nat} {k r b : Nat} (h : pu_rk B P k) (hr : r ≤ 1000) (hb : b ≤ 1000) : pu_hi B P k r b < 2 ^ 31 := by
  unfold pu_hi
  have hk := h.1
  have h1 := fx_b h hr
  have : pu_sum (fun i => pu_ce b (pu_v B 71 (P i)) * pu_v B 74 (P i)) k ≤ k * 200000 := pu_sum_le (fun j hj => by
    obtain ⟨-, -, q4⟩ := h.2.1 j (by omega)
    have h1 := ce_le (r := b) q4.1.1
    exact Nat.le_trans (Nat.mul_le_mul (Nat.le_trans h1 hb) q4.2.2.2) (by decide))
  omega
theorem b78_lp {B : mk_M} {P : Nat → Nat} {k r : Nat} (h : pu_rk B P k) (hr : r ≤ 1000) : ∀ d b n : Nat, b + d = pu_v B 72 (P k) + 1 → d < n → 1 ≤ b → (∀ q, 1 ≤ q → q < b → q < pu_hi B P k r q) →
    (∃ b', pu_bd B P k r b' ∧ f_X6_bound_78 n (nI (P k)) (nI (pu_fx B P k r)) (nI b) B = some (nI b')) ∨ ((∀ q, 1 ≤ q → q ≤ pu_v B 72 (P k) → q < pu_hi B P k r q) ∧ f_X6_bound_78 n (nI (P k)) (nI (pu_fx B P k r)) (nI b) B = some 0) := by
  obtain ⟨hPk, v1, v2⟩ := h.2.1 k (Nat.le_refl _)
  have ho : ¬ mk_ob (nI (P k)) 13 := ob_n (by omega) (by decide)
  have ec : (nI (P k)).toNatClampNeg = P k := cl_n (by omega)
  have hdl := v2.2.1.2
  intro d
  induction d with
  | zero =>
    intro b n hb hn h1 h2
    obtain ⟨n, rfl⟩ : ∃ m, n = m + 1 := ⟨n - 1, by omega⟩
    right
    refine ⟨fun q q1 q2 => h2 q q1 (by omega), ?_⟩
    show (if mk_ob (nI (P k)) 13 then none else (if (B 72 (nI (P k)).toNatClampNeg) < nI b then some 0 else _)) = _
    rw [if_neg ho]
    simp only [ec]
    rw [v1.2.1, if_pos (nI_lt (by omega) (by omega))]
  | succ d ih =>
    intro b n hb hn h1 h2
    obtain ⟨n, rfl⟩ : ∃ m, n = m + 1 := ⟨n - 1, by omega⟩
    have key := b95_lp (r := b) (s0 := pu_fx B P k r) (l3 := nI (pu_fx B P k r)) h (by omega) (K := f_X6_bound_78 n) 12 0 mk_F (by omega) (mk_F_lt (by omega))
    rw [rk_sum h (fun j => pu_ce b (pu_v B 71 j) * pu_v B 74 j)] at key
    have e : f_X6_bound_78 (n + 1) (nI (P k)) (nI (pu_fx B P k r)) (nI b) B = if nI b < nI (pu_hi B P k r b) then f_X6_bound_78 n (nI (P k)) (nI (pu_fx B P k r)) (nI (b + 1)) B else some (nI b) := by
      rw [show pu_hi B P k r b = pu_fx B P k r + pu_sum (fun i => pu_ce b (pu_v B 71 (P i)) * pu_v B 74 (P i)) k from rfl, ← key]
      show (if mk_ob (nI (P k)) 13 then none else (if (B 72 (nI (P k)).toNatClampNeg) < nI b then some 0 else (f_X6_bound_95 (f_X6_bound_78 n) mk_F (nI (P k)) (nI (pu_fx B P k r)) (nI b) (nI (pu_fx B P k r)) 1 B))) = _
      rw [if_neg ho]
      simp only [ec]
      rw [v1.2.1, if_neg (nI_nlt (by omega) (by omega))]
      rfl
    rw [e]
    rcases Nat.lt_or_ge b (pu_hi B P k r b) with c | c
    · rw [if_pos (nI_lt c (hi_b h hr (by omega)))]
      refine ih (b + 1) n (by omega) (by omega) (by omega) (fun q q1 q2 => ?_)
      by_cases z : q = b
      · rw [z]; exact c
      · exact h2 q q1 (by omega)
    · left
      exact ⟨b, ⟨h1, by omega, c, h2⟩, by rw [if_neg (nI_nlt c (by omega))]⟩
theorem b_n {B : mk_M} {P : Nat → Nat} {k r : Nat} (h : pu_rk B P k) (hr : r ≤ 1000) : (∃ b', pu_bd B P k r b' ∧ f_X6_bound (nI (P k)) (nI r) B = some (nI b')) ∨ ((∀ q, 1 ≤ q → q ≤ pu_v B 72 (P k) → q < pu_hi B P k r q) ∧ f_X6_bound (nI (P k)) (nI r) B = some 0) := by
  obtain ⟨hPk, v1, v2⟩ := h.2.1 k (Nat.le_refl _)
  have ho : ¬ mk_ob (nI (P k)) 13 := ob_n (by omega) (by decide)
  have ec : (nI (P k)).toNatClampNeg = P k := cl_n (by omega)
  have key := b10_lp (r := r) (s0 := pu_v B 74 (P k)) h hr 12 0 mk_F (by omega) (mk_F_lt (by omega))
  rw [rk_sum h (fun j => if pu_v B 74 j = 0 then pu_ce r (pu_v B 71 j) * pu_v B 73 j else 0)] at key
  have e : f_X6_bound (nI (P k)) (nI r) B = f_X6_bound_78 mk_F (nI (P k)) (nI (pu_fx B P k r)) (nI 1) B := by
    refine Eq.trans ?_ key
    unfold f_X6_bound
    rw [if_neg ho]
    simp only [ec]
    rw [v1.2.2.2]
    rfl
  rw [e]
  exact b78_lp h hr (pu_v B 72 (P k)) 1 mk_F (by omega) (mk_F_lt (by have := v2.2.1.2; omega)) (by omega) (fun q q1 q2 => by omega)
/-! marking -/
theorem mh2_lp {B : mk_M} {P : Nat → Nat} {k : Nat} (hk : k ≤ 12) (h75 : ∀ i, i < k → B 75 i = nI (P i) ∧ P i ≤ 12) : ∀ d i n : Nat, ∀ R : Nat → Int32, i + d = k → d < n → (∀ j, 1 ≤ j → j ≤ 12 → (¬ R j = 0 ↔ pu_kn P i j)) →
    ∃ R' : Nat → Int32, f_X6_markAhead_23 n (nI k) (nI i) (mk_sr B 92 R) = some (mk_sr B 92 R') ∧ ∀ j, 1 ≤ j → j ≤ 12 → (¬ R' j = 0 ↔ pu_kn P k j) := by
  intro d
  induction d with
  | zero =>
    intro i n R hi hn h
    obtain ⟨n, rfl⟩ : ∃ m, n = m + 1 := ⟨n - 1, by omega⟩
    have e : i = k := by omega
    subst e
    refine ⟨R, ?_, h⟩
    show (if nI i ≤ nI i then some (mk_sr B 92 R) else _) = _
    rw [if_pos (nI_le (Nat.le_refl _) (by omega))]
  | succ d ih =>
    intro i n R hi hn h
    obtain ⟨n, rfl⟩ : ∃ m, n = m + 1 := ⟨n - 1, by omega⟩
    obtain ⟨q1, q2⟩ := h75 i (by omega)
    obtain ⟨R', e1, e2⟩ := ih (i + 1) n (fun j => if j = P i then 1 else R j) (by omega) (by omega) (fun j j1 j2 => by
      show (¬ (if j = P i then (1 : Int32) else R j) = 0 ↔ _)
      by_cases z : j = P i
      · rw [if_pos z]
        exact ⟨fun _ => ⟨i, by omega, z.symm⟩, fun _ => n1_0⟩
      · rw [if_neg z, h j j1 j2]
        constructor
        · intro ⟨m, m1, m2⟩; exact ⟨m, by omega, m2⟩
        · intro ⟨m, m1, m2⟩
          refine ⟨m, ?_, m2⟩
          by_cases y : m = i
          · rw [y] at m2; exact absurd m2.symm z
          · omega)
    refine ⟨R', ?_, e2⟩
    rw [← e1]
    show (if nI k ≤ nI i then _ else (if mk_ob (nI i) 13 then none else (if mk_ob (mk_sr B 92 R 75 (nI i).toNatClampNeg) 13 then none else (f_X6_markAhead_23 n (nI k) (nI i + 1) (mk_st (mk_sr B 92 R) 92 (mk_sr B 92 R 75 (nI i).toNatClampNeg).toNatClampNeg (vp_nar .boolean 1)))))) = _
    rw [if_neg (nI_ge (by omega) (by omega)), if_neg (ob_n (show i < 13 by omega) (by decide))]
    simp (disch := omega) only [cl_n (show i < 2 ^ 31 by omega), mk_sr_off, q1]
    rw [if_neg (ob_n (by omega) (by decide)), cl_n (by omega), vb1, mk_sr_st, nI_1]
theorem mh1_lp {B : mk_M} {l : Int32} : ∀ d i n : Nat, ∀ R : Nat → Int32, i + d = 12 → d < n → (∀ j, 1 ≤ j → j ≤ i → R j = 0) →
    ∃ R' : Nat → Int32, f_X6_markAhead_2 n l (nI (i + 1)) (mk_sr B 92 R) = f_X6_markAhead_23 mk_F l 0 (mk_sr B 92 R') ∧ ∀ j, 1 ≤ j → j ≤ 12 → R' j = 0 := by
  intro d
  induction d with
  | zero =>
    intro i n R hi hn h
    obtain ⟨n, rfl⟩ : ∃ m, n = m + 1 := ⟨n - 1, by omega⟩
    have e : i = 12 := by omega
    subst e
    refine ⟨R, ?_, h⟩
    show (if (13 : Int32) ≤ nI 13 then f_X6_markAhead_23 mk_F l 0 (mk_sr B 92 R) else _) = _
    rw [if_pos (by decide)]
  | succ d ih =>
    intro i n R hi hn h
    obtain ⟨n, rfl⟩ : ∃ m, n = m + 1 := ⟨n - 1, by omega⟩
    obtain ⟨R', e1, e2⟩ := ih (i + 1) n (fun j => if j = i + 1 then 0 else R j) (by omega) (by omega) (fun j j1 j2 => by
      show (if j = i + 1 then (0 : Int32) else R j) = 0
      by_cases z : j = i + 1
      · rw [if_pos z]
      · rw [if_neg z]; exact h j j1 (by omega))
    refine ⟨R', ?_, e2⟩
    rw [← e1]
    show (if (13 : Int32) ≤ nI (i + 1) then _ else (if mk_ob (nI (i + 1)) 13 then none else (f_X6_markAhead_2 n l (nI (i + 1) + 1) (mk_st (mk_sr B 92 R) 92 (nI (i + 1)).toNatClampNeg (vp_nar .boolean 0))))) = _
    rw [if_neg (show ¬ (13 : Int32) ≤ nI (i + 1) from nI_ge (a := i + 1) (b := 13) (by omega) (by decide)), if_neg (ob_n (by omega) (by decide)), cl_n (by omega), vb0, mk_sr_st, nI_1]
theorem mh_n {B : mk_M} {P : Nat → Nat} {k : Nat} (hk : k ≤ 12) (h75 : ∀ i, i < k → B 75 i = nI (P i) ∧ P i ≤ 12) : ∃ R : Nat → Int32, f_X6_markAhead (nI k) B = some (mk_sr B 92 R) ∧ ∀ j, 1 ≤ j → j ≤ 12 → (¬ R j = 0 ↔ pu_kn P k j) := by
  obtain ⟨R1, e1, e2⟩ := mh1_lp (B := B) (l := nI k) 12 0 mk_F (B 92) (by omega) (mk_F_lt (by omega)) (fun j j1 j2 => by omega)
  obtain ⟨R2, f1, f2⟩ := mh2_lp (B := B) (P := P) hk h75 k 0 mk_F R1 (by omega) (mk_F_lt (by omega)) (fun j j1 j2 => ⟨fun z => absurd (e2 j j1 j2) z, fun ⟨m, m1, _⟩ => by omega⟩)
  refine ⟨R2, ?_, f2⟩
  rw [mk_sr_id] at e1
  unfold f_X6_markAhead
  rw [show (1 : Int32) = nI (0 + 1) from rfl, e1]
  exact f1
