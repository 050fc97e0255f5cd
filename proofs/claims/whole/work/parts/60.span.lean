/-! responses and bounds: the class's -/
def pu_vl (V : mk_M) (id : Nat) : Prop := (1 ≤ pu_v V 71 id ∧ pu_v V 71 id ≤ 1000) ∧ (1 ≤ pu_v V 72 id ∧ pu_v V 72 id ≤ 1000) ∧ (1 ≤ pu_v V 73 id ∧ pu_v V 73 id ≤ 100) ∧ pu_v V 74 id ≤ 200
def pu_cv (M V : mk_M) (id : Nat) : Prop := M (16 + 4 * id) 0 = nI (pu_v V 71 id) ∧ M (16 + 4 * id) 1 = nI (pu_v V 72 id) ∧ M (16 + 4 * id) 2 = nI (pu_v V 73 id) ∧ M (16 + 4 * id) 3 = nI (pu_v V 74 id)
theorem ce_le {r p : Nat} (hp : 1 ≤ p) : pu_ce r p ≤ r := by
  unfold pu_ce
  rw [Nat.div_le_iff_le_mul_add_pred (by omega)]
  have : r ≤ p * r := Nat.le_mul_of_pos_left r hp
  omega
theorem ti_n (M : mk_M) {r p : Nat} (hr : r < 1000000) (hp : 1 ≤ p) (hp2 : p ≤ 1000) : f_X6_times (nI r) (nI p) M = some (nI (pu_ce r p)) := by
  unfold f_X6_times
  rw [if_neg (nI_ne0 hp (by omega)), nI_add, show (1 : Int32) = nI 1 from rfl, pk_sub (by omega), pk_div (by omega) hp (by omega)]
  rfl
theorem rw_n (M : mk_M) {r p : Nat} (hr : r < 1000000) (hp : 1 ≤ p) (hp2 : p ≤ 1000) : f_X5_releasesWithin (nI r) (nI p) M = some (nI (pu_ce r p)) := by
  unfold f_X5_releasesWithin
  rw [if_pos (show (1 : Int32) ≤ nI p from nI_le (a := 1) (b := p) hp (by omega)), if_neg (nI_ne0 hp (by omega)), nI_add, show (1 : Int32) = nI 1 from rfl, pk_sub (by omega), pk_div (by omega) hp (by omega)]
  rfl
theorem wa_lp {M V : mk_M} {x k r : Nat} {P bu : Nat → Nat} {b : Int32} (hk : k < 12) (hr : r < 1000000) (hP : ∀ i, i < k → M (x + 1) i = nI (P i) ∧ P i ≤ 12 ∧ pu_cv M V (P i) ∧ pu_vl V (P i) ∧ f_X3_budgetAmong (16 + 4 * P i) b M = some (nI (bu (P i)))) :
    ∀ d i n : Nat, i + d = k → d + 1 < n → f_X4_workAhead_6 x n (nI k) (nI k) (nI r) b (nI (pu_sum (fun i => pu_ce r (pu_v V 71 (P i)) * bu (P i)) i)) (nI i) M = some (nI (pu_sum (fun i => pu_ce r (pu_v V 71 (P i)) * bu (P i)) k)) := by
  intro d
  induction d with
  | zero =>
    intro i n hi hn
    obtain ⟨n, rfl⟩ : ∃ m, n = m + 2 := ⟨n - 2, by omega⟩
    have e : i = k := by omega
    subst e
    show (if nI i < nI i then _ else (if nI i = nI i then (f_X4_workAhead_6 x (n + 1) (nI i) (nI i) (nI r) b _ (nI i + 1) M) else _)) = _
    rw [if_neg (nI_nlt (Nat.le_refl _) (by omega)), if_pos rfl, nI_1]
    show (if nI i < nI (i + 1) then some _ else _) = _
    rw [if_pos (nI_lt (by omega) (by omega))]
  | succ d ih =>
    intro i n hi hn
    obtain ⟨n, rfl⟩ : ∃ m, n = m + 1 := ⟨n - 1, by omega⟩
    obtain ⟨p1, p2, p3, p4, p5⟩ := hP i (by omega)
    rw [← ih (i + 1) n (by omega) (by omega)]
    show (if nI k < nI i then _ else (if nI i = nI k then _ else (if mk_ob (nI i) 12 then none else (if mk_ob (M (x+1) (nI i).toNatClampNeg) 13 then none else ((f_X5_releasesWithin (nI r) (M (16 + 4 * (M (x+1) (nI i).toNatClampNeg).toNatClampNeg) 0) M).bind (fun r_8 => ((f_X3_budgetAmong (16 + 4 * (M (x+1) (nI i).toNatClampNeg).toNatClampNeg) b M).bind (fun r_10 => (f_X4_workAhead_6 x n (nI k) (nI k) (nI r) b (_ + (r_8 * r_10)) (nI i + 1) M))))))))) = _
    rw [if_neg (nI_nlt (by omega) (by omega)), if_neg (fun z => by have := nI_inj (by omega) (by omega) z; omega), if_neg (ob_n (show i < 12 by omega) (by decide))]
    simp only [cl_n (show i < 2 ^ 31 by omega), p1]
    rw [if_neg (ob_n (by omega) (by decide)), cl_n (by omega), p3.1, rw_n M hr p4.1.1 p4.1.2, Option.bind_some, p5, Option.bind_some, pk_mul, nI_add, nI_1]
    rfl
theorem wa_n {M V : mk_M} {x k r : Nat} {P bu : Nat → Nat} {b : Int32} (hk : k < 12) (hr : r < 1000000) (hP : ∀ i, i < k → M (x + 1) i = nI (P i) ∧ P i ≤ 12 ∧ pu_cv M V (P i) ∧ pu_vl V (P i) ∧ f_X3_budgetAmong (16 + 4 * P i) b M = some (nI (bu (P i)))) : f_X4_workAhead x (nI k) (nI k) (nI r) b M = some (nI (pu_sum (fun i => pu_ce r (pu_v V 71 (P i)) * bu (P i)) k)) :=
  wa_lp hk hr hP k 0 mk_F (by omega) (mk_F_lt (by omega))
theorem ls_lp {M : mk_M} {x : Nat} {kk b : Int32} {F : Nat → Nat} {own dl : Nat} (hdl : dl ≤ 1000) (hF : ∀ r r', r ≤ r' → F r ≤ F r') (hW : ∀ r, r ≤ 1000 → ∃ W, f_X4_workAhead x kk kk (nI r) b M = some (nI W) ∧ own + W = F r) (hF2 : ∀ r, r ≤ 1000 → F r < 2 ^ 31) :
    ∀ d span step n : Nat, step + d = dl + 1 → d < n → step + 1 ≤ span → span < 2 ^ 31 → (∀ q, 1 ≤ q → q < span → q < F q) → span ≤ F span →
    (∃ r, 1 ≤ r ∧ r ≤ dl ∧ F r ≤ r ∧ (∀ q, 1 ≤ q → q < r → q < F q) ∧ f_X4_leastSpan_23 x n kk kk (nI own) b (nI dl) (nI span) (nI step) M = some (nI r)) ∨ ((∀ q, 1 ≤ q → q ≤ dl → q < F q) ∧ f_X4_leastSpan_23 x n kk kk (nI own) b (nI dl) (nI span) (nI step) M = some 1001) := by
  intro d
  induction d with
  | zero =>
    intro span step n h1 hn h2 h3 h4 h5
    obtain ⟨n, rfl⟩ : ∃ m, n = m + 1 := ⟨n - 1, by omega⟩
    right
    refine ⟨fun q q1 q2 => h4 q q1 (by omega), ?_⟩
    show (if nI dl < nI step then some 1001 else _) = _
    rw [if_pos (nI_lt (by omega) (by omega))]
  | succ d ih =>
    intro span step n h1 hn h2 h3 h4 h5
    obtain ⟨n, rfl⟩ : ∃ m, n = m + 1 := ⟨n - 1, by omega⟩
    rcases Nat.lt_or_ge dl span with c | c
    · right
      refine ⟨fun q q1 q2 => h4 q q1 (by omega), ?_⟩
      show (if nI dl < nI step then some 1001 else (if nI dl < nI span then some 1001 else _)) = _
      rw [if_pos (nI_lt c h3), ite_self]
    · obtain ⟨W, w1, w2⟩ := hW span (by omega)
      have e : f_X4_leastSpan_23 x (n + 1) kk kk (nI own) b (nI dl) (nI span) (nI step) M = if nI (F span) = nI span then some (nI span) else f_X4_leastSpan_23 x n kk kk (nI own) b (nI dl) (nI (F span)) (nI (step + 1)) M := by
        show (if nI dl < nI step then some 1001 else (if nI dl < nI span then some 1001 else ((f_X4_workAhead x kk kk (nI span) b M).bind (fun r_8 => (if (nI own + r_8) = nI span then (some (nI span)) else (f_X4_leastSpan_23 x n kk kk (nI own) b (nI dl) (nI own + r_8) (nI step + 1) M)))))) = _
        rw [if_neg (nI_nlt (by omega) (by omega)), if_neg (nI_nlt c (by omega)), w1, Option.bind_some, nI_add, w2, nI_1]
      rw [e]
      by_cases c2 : F span = span
      · left
        exact ⟨span, by omega, c, by omega, h4, by rw [if_pos (by rw [c2])]⟩
      · rw [if_neg (fun z => c2 (nI_inj (hF2 span (by omega)) h3 z))]
        refine ih (F span) (step + 1) n (by omega) (by omega) (by omega) (hF2 span (by omega)) (fun q q1 q2 => ?_) (hF _ _ h5)
        rcases Nat.lt_or_ge q span with z | z
        · exact h4 q q1 z
        · have := hF span q z; omega
/-- the class's low response -/
theorem lr_n {M V : mk_M} {x k : Nat} {P : Nat → Nat} (hk : k < 12) (hP : ∀ i, i ≤ k → M (x + 1) i = nI (P i) ∧ P i ≤ 12 ∧ pu_cv M V (P i) ∧ pu_vl V (P i)) :
    (∃ r, pu_lr V P k r ∧ f_X4_leastSpan x (nI k) (nI k) (nI (pu_v V 73 (P k))) 0 M = some (nI r)) ∨ ((∀ q, 1 ≤ q → q ≤ pu_v V 72 (P k) → q < pu_lo V P k q) ∧ f_X4_leastSpan x (nI k) (nI k) (nI (pu_v V 73 (P k))) 0 M = some 1001) := by
  obtain ⟨p1, p2, p3, p4⟩ := hP k (Nat.le_refl _)
  have hW : ∀ r, r ≤ 1000 → ∃ W, f_X4_workAhead x (nI k) (nI k) (nI r) 0 M = some (nI W) ∧ pu_v V 73 (P k) + W = pu_lo V P k r := fun r hr => by
    refine ⟨_, wa_n (V := V) (P := P) (bu := fun id => pu_v V 73 id) hk (by omega) (fun i hi => ?_), rfl⟩
    obtain ⟨q1, q2, q3, q4⟩ := hP i (by omega)
    refine ⟨q1, q2, q3, q4, ?_⟩
    unfold f_X3_budgetAmong
    rw [if_neg (by decide), if_neg (by decide), q3.2.2.1]
  have hF2 : ∀ r, r ≤ 1000 → pu_lo V P k r < 2 ^ 31 := fun r hr => by
    unfold pu_lo
    have : pu_sum (fun i => pu_ce r (pu_v V 71 (P i)) * pu_v V 73 (P i)) k ≤ k * 100000 := pu_sum_le (fun j hj => by
      obtain ⟨-, -, -, q4⟩ := hP j (by omega)
      have h1 := ce_le (r := r) q4.1.1
      exact Nat.le_trans (Nat.mul_le_mul (Nat.le_trans h1 hr) q4.2.2.1.2) (by decide))
    have := p4.2.2.1.2
    omega
  have e : f_X4_leastSpan x (nI k) (nI k) (nI (pu_v V 73 (P k))) 0 M = f_X4_leastSpan_23 x mk_F (nI k) (nI k) (nI (pu_v V 73 (P k))) 0 (nI (pu_v V 72 (P k))) (nI (pu_v V 73 (P k))) (nI 0) M := by
    unfold f_X4_leastSpan
    rw [if_neg (ob_n (show k < 12 by omega) (by decide))]
    simp only [cl_n (show k < 2 ^ 31 by omega), p1]
    rw [if_neg (ob_n (by omega) (by decide)), cl_n (by omega), p3.2.1]
    rfl
  rw [e]
  have mono : ∀ r r', r ≤ r' → pu_lo V P k r ≤ pu_lo V P k r' := fun r r' h => pu_lo_mono h
  have low : ∀ q, pu_v V 73 (P k) ≤ pu_lo V P k q := fun q => by unfold pu_lo; omega
  have q7 := p4.2.2.1
  rcases ls_lp (F := pu_lo V P k) (own := pu_v V 73 (P k)) (dl := pu_v V 72 (P k)) p4.2.1.2 mono hW hF2 (pu_v V 72 (P k) + 1) (pu_v V 73 (P k)) 0 mk_F (by omega) (mk_F_lt (by have := p4.2.1.2; omega)) (by omega) (by omega) (fun q q1 q2 => by have := low q; omega) (low _) with ⟨r, r1, r2, r3, r4, r5⟩ | ⟨r1, r2⟩
  · exact Or.inl ⟨r, ⟨r1, r2, r3, r4⟩, r5⟩
  · exact Or.inr ⟨r1, r2⟩
theorem lr_u {V : mk_M} {P : Nat → Nat} {k r r' : Nat} (h : pu_lr V P k r) (h' : pu_lr V P k r') : r = r' := by
  obtain ⟨a1, a2, a3, a4⟩ := h
  obtain ⟨b1, b2, b3, b4⟩ := h'
  rcases Nat.lt_trichotomy r r' with q | q | q
  · have := b4 r a1 q; omega
  · exact q
  · have := a4 r' b1 q; omega
theorem bd_u {V : mk_M} {P : Nat → Nat} {k r b b' : Nat} (h : pu_bd V P k r b) (h' : pu_bd V P k r b') : b = b' := by
  obtain ⟨a1, a2, a3, a4⟩ := h
  obtain ⟨b1, b2, b3, b4⟩ := h'
  rcases Nat.lt_trichotomy b b' with q | q | q
  · have := b4 b a1 q; omega
  · exact q
  · have := a4 b' b1 q; omega
/-- the class's bound, where there is a low response -/
theorem bd_n {M V : mk_M} {x k r : Nat} {P : Nat → Nat} (hk : k < 12) (hP : ∀ i, i ≤ k → M (x + 1) i = nI (P i) ∧ P i ≤ 12 ∧ pu_cv M V (P i) ∧ pu_vl V (P i)) (hr : pu_lr V P k r) (hh : 0 < pu_v V 74 (P k)) :
    (∃ b, pu_bd V P k r b ∧ f_X4_bound x (nI k) (nI k) M = some (nI b)) ∨ ((∀ q, 1 ≤ q → q ≤ pu_v V 72 (P k) → q < pu_hi V P k r q) ∧ f_X4_bound x (nI k) (nI k) M = some 1001) := by
  obtain ⟨p1, p2, p3, p4⟩ := hP k (Nat.le_refl _)
  have hlr : f_X4_leastSpan x (nI k) (nI k) (nI (pu_v V 73 (P k))) 0 M = some (nI r) := by
    rcases lr_n hk hP with ⟨r', h1, h2⟩ | ⟨h1, -⟩
    · rw [lr_u hr h1]; exact h2
    · have := h1 r hr.1 hr.2.1; have := hr.2.2.1; omega
  have hr1000 : r ≤ 1000 := Nat.le_trans hr.2.1 p4.2.1.2
  have h74 : pu_v V 74 (P k) ≤ 200 := p4.2.2.2
  have w1 := wa_n (M := M) (V := V) (x := x) (r := r) (P := P) (bu := fun id => if pu_v V 74 id = 0 then pu_v V 73 id else 0) (b := 1) hk (by omega) (fun i hi => by
    obtain ⟨q1, q2, q3, q4⟩ := hP i (by omega)
    refine ⟨q1, q2, q3, q4, ?_⟩
    unfold f_X3_budgetAmong
    rw [if_neg (by decide), if_pos rfl, q3.2.2.2, q3.2.2.1]
    have := q4.2.2.2
    rcases Nat.eq_zero_or_pos (pu_v V 74 (P i)) with z | z
    · rw [z, if_pos (by decide), if_pos rfl]
    · rw [if_neg (nle0 z (by omega)), if_neg (by omega)]; rfl)
  have efx : pu_v V 74 (P k) + pu_sum (fun i => pu_ce r (pu_v V 71 (P i)) * (if pu_v V 74 (P i) = 0 then pu_v V 73 (P i) else 0)) k = pu_fx V P k r := by
    unfold pu_fx
    rw [pu_sum_congr (g := fun i => if pu_v V 74 (P i) = 0 then pu_ce r (pu_v V 71 (P i)) * pu_v V 73 (P i) else 0) (fun j hj => by
      show pu_ce r (pu_v V 71 (P j)) * (if _ then _ else _) = if _ then _ else _
      split
      · rfl
      · rfl)]
  have fxb : pu_fx V P k r ≤ 200 + k * 100000 := by
    unfold pu_fx
    have : pu_sum (fun i => if pu_v V 74 (P i) = 0 then pu_ce r (pu_v V 71 (P i)) * pu_v V 73 (P i) else 0) k ≤ k * 100000 := pu_sum_le (fun j hj => by
      obtain ⟨-, -, -, q4⟩ := hP j (by omega)
      have h1 := ce_le (r := r) q4.1.1
      show (if _ then _ else _) ≤ _
      split
      · exact Nat.le_trans (Nat.mul_le_mul (Nat.le_trans h1 hr1000) q4.2.2.1.2) (by decide)
      · exact Nat.zero_le _)
    omega
  have hW : ∀ b, b ≤ 1000 → ∃ W, f_X4_workAhead x (nI k) (nI k) (nI b) 2 M = some (nI W) ∧ pu_fx V P k r + W = pu_hi V P k r b := fun b hb => by
    refine ⟨_, wa_n (V := V) (P := P) (bu := fun id => pu_v V 74 id) hk (by omega) (fun i hi => ?_), rfl⟩
    obtain ⟨q1, q2, q3, q4⟩ := hP i (by omega)
    refine ⟨q1, q2, q3, q4, ?_⟩
    unfold f_X3_budgetAmong
    rw [if_pos rfl, q3.2.2.2]
  have hF2 : ∀ b, b ≤ 1000 → pu_hi V P k r b < 2 ^ 31 := fun b hb => by
    unfold pu_hi
    have : pu_sum (fun i => pu_ce b (pu_v V 71 (P i)) * pu_v V 74 (P i)) k ≤ k * 200000 := pu_sum_le (fun j hj => by
      obtain ⟨-, -, -, q4⟩ := hP j (by omega)
      have h1 := ce_le (r := b) q4.1.1
      exact Nat.le_trans (Nat.mul_le_mul (Nat.le_trans h1 hb) q4.2.2.2) (by decide))
    omega
  have e : f_X4_bound x (nI k) (nI k) M = f_X4_leastSpan_23 x mk_F (nI k) (nI k) (nI (pu_fx V P k r)) 2 (nI (pu_v V 72 (P k))) (nI (pu_fx V P k r)) (nI 0) M := by
    unfold f_X4_bound
    rw [if_neg (ob_n (show k < 12 by omega) (by decide))]
    simp only [cl_n (show k < 2 ^ 31 by omega), p1]
    rw [if_neg (ob_n (by omega) (by decide))]
    simp only [cl_n (show P k < 2 ^ 31 by omega)]
    unfold f_X3_isHigh
    rw [p3.2.2.2, if_neg (nle0 hh (by omega)), Option.bind_some, if_neg n1_0, p3.2.2.1, hlr, Option.bind_some, w1, Option.bind_some, nI_add, efx, ob_id]
    unfold f_X4_leastSpan
    rw [if_neg (ob_n (show k < 12 by omega) (by decide))]
    simp only [cl_n (show k < 2 ^ 31 by omega), p1]
    rw [if_neg (ob_n (by omega) (by decide)), cl_n (by omega), p3.2.1]
    rfl
  rw [e]
  have low : ∀ q, pu_fx V P k r ≤ pu_hi V P k r q := fun q => by unfold pu_hi; omega
  have hfx1 : 1 ≤ pu_fx V P k r := by unfold pu_fx; omega
  rcases ls_lp (F := pu_hi V P k r) (own := pu_fx V P k r) (dl := pu_v V 72 (P k)) p4.2.1.2 (fun b b' h => pu_hi_mono h) hW hF2 (pu_v V 72 (P k) + 1) (pu_fx V P k r) 0 mk_F (by omega) (mk_F_lt (by have := p4.2.1.2; omega)) (by omega) (by omega) (fun q q1 q2 => by have := low q; omega) (low _) with ⟨b, r1, r2, r3, r4, r5⟩ | ⟨r1, r2⟩
  · exact Or.inl ⟨b, ⟨r1, r2, r3, r4⟩, r5⟩
  · exact Or.inr ⟨r1, r2⟩
theorem lw_n {M V : mk_M} {x k : Nat} {P : Nat → Nat} (hk : k < 12) (hP : ∀ i, i ≤ k → M (x + 1) i = nI (P i) ∧ P i ≤ 12 ∧ pu_cv M V (P i) ∧ pu_vl V (P i)) : f_X4_lowResponse x (nI k) (nI k) M = f_X4_leastSpan x (nI k) (nI k) (nI (pu_v V 73 (P k))) 0 M := by
  obtain ⟨p1, p2, p3, p4⟩ := hP k (Nat.le_refl _)
  unfold f_X4_lowResponse
  rw [if_neg (ob_n (show k < 12 by omega) (by decide))]
  simp only [cl_n (show k < 2 ^ 31 by omega), p1]
  rw [if_neg (ob_n (by omega) (by decide)), cl_n (by omega), p3.2.2.1, ob_id]
theorem bl_n {M V : mk_M} {x k : Nat} {P : Nat → Nat} (hk : k < 12) (hP : ∀ i, i ≤ k → M (x + 1) i = nI (P i) ∧ P i ≤ 12 ∧ pu_cv M V (P i) ∧ pu_vl V (P i)) (hh : pu_v V 74 (P k) = 0) : f_X4_bound x (nI k) (nI k) M = some (-1) := by
  obtain ⟨p1, p2, p3, p4⟩ := hP k (Nat.le_refl _)
  unfold f_X4_bound
  rw [if_neg (ob_n (show k < 12 by omega) (by decide))]
  simp only [cl_n (show k < 2 ^ 31 by omega), p1]
  rw [if_neg (ob_n (by omega) (by decide))]
  simp only [cl_n (show P k < 2 ^ 31 by omega)]
  unfold f_X3_isHigh
  rw [p3.2.2.2, hh, if_pos (by decide), Option.bind_some, if_pos rfl]
