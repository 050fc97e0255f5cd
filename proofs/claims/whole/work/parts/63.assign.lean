/-! assign: a plan that fits is left as it is -/
theorem m1lt : ((-1 : Int32) < 0) := by decide
theorem m1eq : nI 0 + (-1) = (-1 : Int32) := by decide
theorem as_c {M V : mk_M} {np : Nat} {P : Nat → Nat} (hnp : np ≤ 12) (hP : ∀ i, i < np → M 8 i = nI (P i) ∧ P i ≤ 12 ∧ pu_cv M V (P i) ∧ pu_vl V (P i)) (hok : ∀ k, k < np → pu_ok V P k) : ∀ p n : Nat, p ≤ np → p < n → f_X5_assign_21 n (nI p + (-1)) M = ((f_X1_become 3 7 M).bind (fun r_5 => (some (1, r_5)))) := by
  intro p
  induction p with
  | zero =>
    intro n _ hn
    obtain ⟨n, rfl⟩ : ∃ m, n = m + 1 := ⟨n - 1, by omega⟩
    show (if nI 0 + (-1) < (0 : Int32) then _ else _) = _
    rw [if_pos (by rw [m1eq]; exact m1lt)]
  | succ p ih =>
    intro n hp hn
    obtain ⟨n, rfl⟩ : ∃ m, n = m + 1 := ⟨n - 1, by omega⟩
    obtain ⟨q1, q2, q3, q4⟩ := hP p (by omega)
    obtain ⟨r, c1, c2, c3⟩ := ok_c (M := M) (V := V) (x := 7) (k := p) (P := P) (by omega) (fun i hi => hP i (by omega)) (hok p (by omega))
    have hdl := q4.2.1.2
    have lt : f_X4_lastThatPasses 7 (nI p) M = some (nI p) := by
      unfold f_X4_lastThatPasses
      rw [show mk_F = 4999 + 1 from rfl]
      show (if nI p < 0 then _ else (if mk_ob (nI p) 12 then none else (if mk_ob (M (7+1) (nI p).toNatClampNeg) 13 then none else ((f_X4_lowResponse 7 (nI p) (nI p) M).bind (fun r_7 => (if (M (16 + 4 * (M (7+1) (nI p).toNatClampNeg).toNatClampNeg) 1) < r_7 then (f_X4_lastThatPasses_2 7 4999 (nI p) (nI p + (-1)) M) else ((f_X4_bound 7 (nI p) (nI p) M).bind (fun r_10 => (if (M (16 + 4 * (M (7+1) (nI p).toNatClampNeg).toNatClampNeg) 1) < r_10 then (f_X4_lastThatPasses_2 7 4999 (nI p) (nI p + (-1)) M) else (some (nI p)))))))))))= _
      rw [if_neg (nI_pos (by omega)), if_neg (ob_n (show p < 12 by omega) (by decide))]
      simp only [cl_n (show p < 2 ^ 31 by omega), show M (7 + 1) p = nI (P p) from q1]
      rw [if_neg (ob_n (by omega) (by decide))]
      simp only [cl_n (show P p < 2 ^ 31 by omega), q3.2.1]
      have h1 := c1.2.1
      rw [c2, Option.bind_some, if_neg (nI_nlt h1 (by omega))]
      rcases c3 with ⟨z1, z2⟩ | ⟨z1, b, z2, z3⟩
      · rw [z2, Option.bind_some, if_neg]
        rw [Int32.lt_iff_toInt_lt, nI_toInt (by omega)]
        have e : (-1 : Int32).toInt = -1 := by decide
        omega
      · have h2 := z2.2.1
        rw [z3, Option.bind_some, if_neg (nI_nlt h2 (by omega))]
    have mb : f_X1_moveBack 7 (nI p) (nI p) M = some M := by
      unfold f_X1_moveBack
      rw [if_neg (ob_n (show p < 12 by omega) (by decide)), cl_n (by omega), show mk_F = 4999 + 1 from rfl]
      show (if nI p ≤ nI p then (if mk_ob (nI p) 12 then none else (some (mk_st M (7+1) (nI p).toNatClampNeg (M (7 + 1) p)))) else _) = _
      rw [if_pos (nI_le (Nat.le_refl _) (by omega)), if_neg (ob_n (show p < 12 by omega) (by decide)), cl_n (by omega), mk_st_id _ _ _ rfl]
    rw [← ih n (by omega) (by omega), pk_m1]
    show (if nI p < 0 then _ else ((f_X4_lastThatPasses 7 (nI p) M).bind (fun r_7 => (if r_7 = (-1) then (some (0, M)) else ((f_X1_moveBack 7 r_7 (nI p) M).bind (fun r_10 => (f_X5_assign_21 n (nI p + (-1)) r_10))))))) = _
    rw [if_neg (nI_pos (by omega)), lt, Option.bind_some, if_neg (nn1 (by omega)), mb, Option.bind_some]
/-- a placed task passes or not; the last of the placed ones does -/
theorem ps_n {B : mk_M} {P : Nat → Nat} {to k : Nat} (hto : to < 12) (hk : k ≤ to) (hR : ∀ i, i ≤ to → (1 ≤ P i ∧ P i ≤ 12) ∧ pu_rv B (P i) ∧ pu_vl B (P i)) (hi : ∀ i j, i ≤ to → j ≤ to → P i = P j → i = j) (hm : ∀ j, 1 ≤ j → j ≤ 12 → (¬ B 92 j = 0 ↔ pu_kn P (to + 1) j)) (hok : pu_ok B P to) :
    ∃ v, f_X6_passes (nI (P k)) B = some v ∧ (k = to → v = 1) := by
  have ho : ¬ mk_ob (nI (P k)) 13 := ob_n (by have := (hR k hk).1; omega) (by omega)
  have ec : (nI (P k)).toNatClampNeg = P k := cl_n (by have := (hR k hk).1; omega)
  by_cases c : k = to
  · subst c
    have hrk : pu_rk B P k := ⟨hto, hR, hi, fun j j1 j2 => by
      rw [hm j j1 j2]
      constructor
      · intro ⟨⟨i, i1, i2⟩, z⟩
        refine ⟨i, ?_, i2⟩
        by_cases y : i = k
        · rw [y] at i2; exact absurd i2.symm z
        · omega
      · intro ⟨i, i1, i2⟩
        exact ⟨⟨i, by omega, i2⟩, fun z => by have := hi i k (by omega) (by omega) (by rw [i2, z]); omega⟩⟩
    obtain ⟨r, d1, d2, d3⟩ := ok_r hrk hok
    refine ⟨1, ?_, fun _ => rfl⟩
    have hv := hR k (Nat.le_refl _)
    have h1000 := hv.2.2.2.1.2
    have r1 := d1.1
    have r2 := d1.2.1
    unfold f_X6_passes
    rw [d2, Option.bind_some, if_neg (nle0 r1 (by omega)), if_neg ho]
    simp only [ec]
    rw [hv.2.1.2.2.2]
    rcases Nat.eq_zero_or_pos (pu_v B 74 (P k)) with z | z
    · rw [z, if_pos nI_0]
    · have h200 := hv.2.2.2.2.2
      obtain ⟨b, b1, b2⟩ := d3 z
      have b3 := b1.2.1
      rw [if_neg (nI_ne0 z (by omega)), b2, Option.bind_some, if_neg (nle0 b1.1 (by omega))]
  · -- another one: it is looked at as if it stood last
    have ij : pu_ij (to + 1, P) := fun i j h1 h2 e => by dsimp only at h1 h2; exact hi i j (by omega) (by omega) e
    have kn : pu_kn (to + 1, P).2 (to + 1, P).1 (P k) := ⟨k, by show k < to + 1; omega, rfl⟩
    have e1 : (pu_dr (P k) (to + 1, P)).1 = to := by rw [dr_yes kn]; rfl
    have dk := dr_kn (id := P k) ij
    have din : ∀ i, i < to → ∃ m, m ≤ to ∧ (pu_dr (P k) (to + 1, P)).2 i = P m := fun i hi' => by
      obtain ⟨⟨m, m1, m2⟩, -⟩ := (dk ((pu_dr (P k) (to + 1, P)).2 i)).mp ⟨i, by rw [e1]; exact hi', rfl⟩
      exact ⟨m, by dsimp only at m1; omega, m2.symm⟩
    have dij := dr_ij (id := P k) ij
    obtain ⟨Q, hQ1, hQ2⟩ : ∃ Q : Nat → Nat, (∀ i, i < to → Q i = (pu_dr (P k) (to + 1, P)).2 i) ∧ Q to = P k := ⟨fun i => if i < to then (pu_dr (P k) (to + 1, P)).2 i else P k, fun i h => by show (if i < to then _ else _) = _; rw [if_pos h], by show (if to < to then _ else _) = _; rw [if_neg (by omega)]⟩
    have hnk : ∀ i, i < to → Q i ≠ P k := fun i hi' z => by
      rw [hQ1 i hi'] at z
      exact ((dk ((pu_dr (P k) (to + 1, P)).2 i)).mp ⟨i, by rw [e1]; exact hi', rfl⟩).2 z
    have hrk : pu_rk B Q to := by
      refine ⟨hto, fun i hi' => ?_, fun i j hi' hj e => ?_, fun j j1 j2 => ?_⟩
      · by_cases z : i = to
        · rw [z, hQ2]; exact hR k hk
        · obtain ⟨m, m1, m2⟩ := din i (by omega)
          rw [hQ1 i (by omega), m2]; exact hR m m1
      · by_cases z : i = to
        · by_cases y : j = to
          · omega
          · rw [z, hQ2] at e
            exact absurd e.symm (hnk j (by omega))
        · by_cases y : j = to
          · rw [y, hQ2] at e
            exact absurd e (hnk i (by omega))
          · rw [hQ1 i (by omega), hQ1 j (by omega)] at e
            exact dij i j (by rw [e1]; omega) (by rw [e1]; omega) e
      · rw [hm j j1 j2, hQ2, ← show pu_kn (to + 1, P).2 (to + 1, P).1 j ↔ pu_kn P (to + 1) j from Iff.rfl, ← dk j, e1]
        constructor
        · intro ⟨i, i1, i2⟩; exact ⟨i, i1, by rw [hQ1 i i1]; exact i2⟩
        · intro ⟨i, i1, i2⟩; exact ⟨i, i1, by rw [← hQ1 i i1]; exact i2⟩
    have hv := hR k hk
    have h1000 := hv.2.2.2.1.2
    unfold f_X6_passes
    have lq := l_n hrk
    rw [hQ2] at lq
    rcases lq with ⟨r, d1, d2⟩ | ⟨-, d2⟩
    · have r1 := d1.1
      have r2 := d1.2.1
      rw [hQ2] at r2
      rw [d2, Option.bind_some, if_neg (nle0 r1 (by omega)), if_neg ho]
      simp only [ec]
      rw [hv.2.1.2.2.2]
      rcases Nat.eq_zero_or_pos (pu_v B 74 (P k)) with z | z
      · exact ⟨1, by rw [z, if_pos nI_0], fun y => absurd y c⟩
      · have h200 := hv.2.2.2.2.2
        have bq := b_n hrk (r := r) (by omega)
        rw [hQ2] at bq
        rw [if_neg (nI_ne0 z (by omega))]
        rcases bq with ⟨b, -, b2⟩ | ⟨-, b2⟩
        · rw [b2, Option.bind_some]
          by_cases y : nI b ≤ 0
          · exact ⟨0, by rw [if_pos y], fun y => absurd y c⟩
          · exact ⟨1, by rw [if_neg y], fun y => absurd y c⟩
        · rw [b2, Option.bind_some]
          exact ⟨0, by rw [if_pos (by decide)], fun y => absurd y c⟩
    · rw [d2, Option.bind_some]
      exact ⟨0, by rw [if_pos (by decide)], fun y => absurd y c⟩
theorem ai_lp {B : mk_M} {P : Nat → Nat} {np to : Nat} {K : Int32 → mk_M → Option (Int32 × mk_M)} (hnp : np ≤ 12) (hto : to < np) (h7 : B 68 7 = nI np) (h75 : ∀ i, i < np → B 75 i = nI (P i)) (hR : ∀ i, i < np → (1 ≤ P i ∧ P i ≤ 12) ∧ pu_rv B (P i) ∧ pu_vl B (P i)) (hi : ∀ i j, i < np → j < np → P i = P j → i = j) (hm : ∀ j, 1 ≤ j → j ≤ 12 → (¬ B 92 j = 0 ↔ pu_kn P (to + 1) j)) (hok : pu_ok B P to) :
    ∀ d i n : Nat, ∀ l : Int32, i + d = np → d < n → (to < i → l = nI (P to)) → f_X6_assign_46 K n (nI to) l (nI i) B = K (nI to + (-1)) (mk_st (mk_st B 91 to (nI (P to))) 92 (P to) 0) := by
  intro d
  have hPt := (hR to hto).1
  induction d with
  | zero =>
    intro i n l hi' hn hl
    obtain ⟨n, rfl⟩ : ∃ m, n = m + 1 := ⟨n - 1, by omega⟩
    have e : i = np := by omega
    subst e
    rw [hl hto]
    show (if (B 68 7) ≤ nI i then (if nI (P to) = 0 then (some (0, B)) else (if mk_ob (nI to) 13 then none else (if mk_ob (nI (P to)) 13 then none else (K (nI to + (-1)) (mk_st (mk_st B 91 (nI to).toNatClampNeg (nI (P to))) 92 (nI (P to)).toNatClampNeg (vp_nar .boolean 0)))))) else _) = _
    rw [h7, if_pos (nI_le (Nat.le_refl _) (by omega)), if_neg (nI_ne0 hPt.1 (by omega)), if_neg (ob_n (show to < 13 by omega) (by decide)), if_neg (ob_n (show P to < 13 by omega) (by decide)), cl_n (show to < 2 ^ 31 by omega), cl_n (show P to < 2 ^ 31 by omega), vb0]
  | succ d ih =>
    intro i n l hi' hn hl
    obtain ⟨n, rfl⟩ : ∃ m, n = m + 1 := ⟨n - 1, by omega⟩
    have hPi := (hR i (by omega)).1
    have e : f_X6_assign_46 K (n + 1) (nI to) l (nI i) B = (if (B 92 (P i)) = 0 then (f_X6_assign_46 K n (nI to) l (nI (i + 1)) B) else ((f_X6_passes (nI (P i)) B).bind (fun r_15 => (if r_15 = 0 then (f_X6_assign_46 K n (nI to) l (nI (i + 1)) B) else (f_X6_assign_46 K n (nI to) (nI (P i)) (nI (i + 1)) B))))) := by
      show (if (B 68 7) ≤ nI i then _ else (if mk_ob (nI i) 13 then none else (if mk_ob (B 75 (nI i).toNatClampNeg) 13 then none else (if (B 92 (B 75 (nI i).toNatClampNeg).toNatClampNeg) = 0 then (f_X6_assign_46 K n (nI to) l (nI i + 1) B) else (if mk_ob (nI i) 13 then none else ((f_X6_passes (B 75 (nI i).toNatClampNeg) B).bind (fun r_15 => (if r_15 = 0 then (f_X6_assign_46 K n (nI to) l (nI i + 1) B) else (if mk_ob (nI i) 13 then none else (f_X6_assign_46 K n (nI to) (B 75 (nI i).toNatClampNeg) (nI i + 1) B)))))))))) = _
      have ho := ob_n (show i < 13 by omega) (by decide)
      rw [h7, if_neg (nI_ge (by omega) (by omega)), if_neg ho]
      simp only [if_neg ho, cl_n (show i < 2 ^ 31 by omega), h75 i (by omega), nI_1]
      rw [if_neg (ob_n (show P i < 13 by omega) (by decide)), cl_n (by omega)]
    rw [e]
    rcases Nat.lt_or_ge to i with c | c
    · have z : B 92 (P i) = 0 := Classical.byContradiction (fun z => by
        obtain ⟨m, m1, m2⟩ := (hm (P i) hPi.1 hPi.2).mp z
        have := hi m i (by omega) (by omega) m2
        omega)
      rw [if_pos z]
      exact ih (i + 1) n l (by omega) (by omega) (fun _ => hl c)
    · have z : ¬ B 92 (P i) = 0 := (hm (P i) hPi.1 hPi.2).mpr ⟨i, by omega, rfl⟩
      obtain ⟨v, v1, v2⟩ := ps_n (B := B) (P := P) (to := to) (k := i) (by omega) c (fun j hj => hR j (by omega)) (fun a b ha hb => hi a b (by omega) (by omega)) hm hok
      rw [if_neg z, v1, Option.bind_some]
      by_cases y : i = to
      · rw [v2 y, if_neg n1_0, y]
        exact ih (to + 1) n _ (by omega) (by omega) (fun _ => rfl)
      · by_cases x : v = 0
        · rw [if_pos x]
          exact ih (i + 1) n l (by omega) (by omega) (fun h => by omega)
        · rw [if_neg x]
          exact ih (i + 1) n _ (by omega) (by omega) (fun h => by omega)
theorem a126_lp {B : mk_M} {np : Nat} (hnp : np ≤ 12) (h7 : B 68 7 = nI np) (h : ∀ i, i < np → B 75 i = B 91 i) : ∀ d i n : Nat, i + d = np → d < n → f_X6_assign_126 n (nI i) B = some (1, B) := by
  intro d
  induction d with
  | zero =>
    intro i n hi hn
    obtain ⟨n, rfl⟩ : ∃ m, n = m + 1 := ⟨n - 1, by omega⟩
    have e : i = np := by omega
    subst e
    show (if B 68 7 ≤ nI i then some (1, B) else _) = _
    rw [h7, if_pos (nI_le (Nat.le_refl _) (by omega))]
  | succ d ih =>
    intro i n hi hn
    obtain ⟨n, rfl⟩ : ∃ m, n = m + 1 := ⟨n - 1, by omega⟩
    show (if B 68 7 ≤ nI i then some (1, B) else (if mk_ob (nI i) 13 then none else (if mk_ob (nI i) 13 then none else (f_X6_assign_126 n (nI i + 1) (mk_st B 75 (nI i).toNatClampNeg (B 91 (nI i).toNatClampNeg)))))) = _
    rw [h7, if_neg (nI_ge (by omega) (by omega)), if_neg (ob_n (show i < 13 by omega) (by decide)), if_neg (ob_n (show i < 13 by omega) (by decide)), cl_n (by omega), mk_st_id _ _ _ (h i (by omega)), nI_1]
    exact ih (i + 1) n (by omega) (by omega)
theorem ao_lp {B : mk_M} {P : Nat → Nat} {np : Nat} (hnp : np ≤ 12) (h7 : B 68 7 = nI np) (h75 : ∀ i, i < np → B 75 i = nI (P i)) (hR : ∀ i, i < np → (1 ≤ P i ∧ P i ≤ 12) ∧ pu_rv B (P i) ∧ pu_vl B (P i)) (hi : ∀ i j, i < np → j < np → P i = P j → i = j) (hok : ∀ k, k < np → pu_ok B P k) :
    ∀ p n : Nat, ∀ B' : mk_M, p ≤ np → p < n → (∀ y, y ≠ 91 → y ≠ 92 → B' y = B y) → (∀ i, p ≤ i → i < np → B' 91 i = nI (P i)) → (∀ j, 1 ≤ j → j ≤ 12 → (¬ B' 92 j = 0 ↔ pu_kn P p j)) →
    ∃ B2 : mk_M, f_X6_assign_38 n (nI p + (-1)) B' = some (1, B2) ∧ ∀ y, y ≠ 91 → y ≠ 92 → B2 y = B y := by
  intro p
  induction p with
  | zero =>
    intro n B' _ hn h1 h2 h3
    obtain ⟨n, rfl⟩ : ∃ m, n = m + 1 := ⟨n - 1, by omega⟩
    refine ⟨B', ?_, h1⟩
    show (if nI 0 + (-1) < (0 : Int32) then f_X6_assign_126 mk_F 0 B' else _) = _
    rw [if_pos (by rw [m1eq]; exact m1lt)]
    exact a126_lp hnp (by rw [h1 68 (by decide) (by decide)]; exact h7) (fun i hi' => by rw [h1 75 (by decide) (by decide), h75 i hi', h2 i (by omega) hi']) np 0 mk_F (by omega) (mk_F_lt (by omega))
  | succ p ih =>
    intro n B' hp hn h1 h2 h3
    obtain ⟨n, rfl⟩ : ∃ m, n = m + 1 := ⟨n - 1, by omega⟩
    have b71 := h1 71 (by decide) (by decide)
    have b72 := h1 72 (by decide) (by decide)
    have b73 := h1 73 (by decide) (by decide)
    have b74 := h1 74 (by decide) (by decide)
    have key := ai_lp (B := B') (P := P) (np := np) (to := p) (K := f_X6_assign_38 n) hnp (by omega) (by rw [h1 68 (by decide) (by decide)]; exact h7) (fun i hi' => by rw [h1 75 (by decide) (by decide)]; exact h75 i hi') (fun i hi' => ⟨(hR i hi').1, rv_cg b71 b72 b73 b74 (hR i hi').2.1, vl_cg b71 b72 b73 b74 (hR i hi').2.2⟩) hi h3 (pu_ok_same b71 b72 b73 b74 (hok p (by omega))) np 0 mk_F 0 (by omega) (mk_F_lt (by omega)) (fun h => by omega)
    obtain ⟨B2, e1, e2⟩ := ih n (mk_st (mk_st B' 91 p (nI (P p))) 92 (P p) 0) (by omega) (by omega) (fun y y1 y2 => by simp (disch := omega) only [mk_st_off]; exact h1 y y1 y2) (fun i i1 i2 => by
      simp (disch := omega) only [mk_st_off]
      by_cases z : i = p
      · rw [z, mk_st_same]
      · rw [mk_st_ne _ _ _ _ (by omega)]; exact h2 i (by omega) i2) (fun j j1 j2 => by
      by_cases z : j = P p
      · rw [z, mk_st_same]
        refine ⟨fun y => absurd rfl y, fun ⟨m, m1, m2⟩ => ?_⟩
        have := hi m p (by omega) (by omega) m2
        omega
      · rw [mk_st_ne _ _ _ _ (by omega), mk_st_off _ _ _ _ (by decide), h3 j j1 j2]
        constructor
        · intro ⟨m, m1, m2⟩
          refine ⟨m, ?_, m2⟩
          by_cases y : m = p
          · rw [y] at m2; exact absurd m2.symm z
          · omega
        · intro ⟨m, m1, m2⟩; exact ⟨m, by omega, m2⟩)
    refine ⟨B2, ?_, e2⟩
    rw [← e1, ← key, pk_m1]
    show (if nI p < 0 then _ else f_X6_assign_46 (f_X6_assign_38 n) mk_F (nI p) 0 0 B') = _
    rw [if_neg (nI_pos (by omega))]
    rfl
theorem a7_lp {B : mk_M} (h69 : ∀ j, 1 ≤ j → j ≤ 12 → B 69 j = 0 ∨ B 69 j = 1) : ∀ d i n : Nat, ∀ R : Nat → Int32, i + d = 12 → d < n → (∀ j, 1 ≤ j → j ≤ i → R j = B 69 j) →
    ∃ R' : Nat → Int32, f_X6_assign_7 n (nI (i + 1)) (mk_sr B 92 R) = f_X6_assign_38 mk_F ((B 68 7) - 1) (mk_sr B 92 R') ∧ ∀ j, 1 ≤ j → j ≤ 12 → R' j = B 69 j := by
  intro d
  induction d with
  | zero =>
    intro i n R hi hn h
    obtain ⟨n, rfl⟩ : ∃ m, n = m + 1 := ⟨n - 1, by omega⟩
    have e : i = 12 := by omega
    subst e
    refine ⟨R, ?_, h⟩
    show (if (13 : Int32) ≤ nI 13 then f_X6_assign_38 mk_F ((mk_sr B 92 R 68 7) - 1) (mk_sr B 92 R) else _) = _
    rw [if_pos (by decide), mk_sr_off _ _ _ (by decide)]
  | succ d ih =>
    intro i n R hi hn h
    obtain ⟨n, rfl⟩ : ∃ m, n = m + 1 := ⟨n - 1, by omega⟩
    obtain ⟨R', e1, e2⟩ := ih (i + 1) n (fun j => if j = i + 1 then B 69 (i + 1) else R j) (by omega) (by omega) (fun j j1 j2 => by
      show (if j = i + 1 then B 69 (i + 1) else R j) = _
      by_cases z : j = i + 1
      · rw [if_pos z, z]
      · rw [if_neg z]; exact h j j1 (by omega))
    refine ⟨R', ?_, e2⟩
    rw [← e1]
    have vn : vp_nar .boolean (B 69 (i + 1)) = B 69 (i + 1) := by
      rcases h69 (i + 1) (by omega) (by omega) with z | z
      · rw [z]; exact vb0
      · rw [z]; exact vb1
    show (if (13 : Int32) ≤ nI (i + 1) then _ else (if mk_ob (nI (i + 1)) 13 then none else (if mk_ob (nI (i + 1)) 13 then none else (f_X6_assign_7 n (nI (i + 1) + 1) (mk_st (mk_sr B 92 R) 92 (nI (i + 1)).toNatClampNeg (vp_nar .boolean (mk_sr B 92 R 69 (nI (i + 1)).toNatClampNeg))))))) = _
    rw [if_neg (show ¬ (13 : Int32) ≤ nI (i + 1) from nI_ge (a := i + 1) (b := 13) (by omega) (by decide)), if_neg (ob_n (show i + 1 < 13 by omega) (by decide)), if_neg (ob_n (show i + 1 < 13 by omega) (by decide)), cl_n (by omega), mk_sr_off B 92 R (show (69 : Nat) ≠ 92 by decide), vn, mk_sr_st, nI_1]
theorem pu_s5 : mk_S5 pu_I := by
  intro n M hn hI
  have hI' := hI
  obtain ⟨t, np, no, ch, w, wd, P, O, hJ⟩ := hI'
  have hJ' := hJ
  obtain ⟨a1', a2', a3, a4, a5, a6, a7, a8, a9, a10, a11, a12⟩ := hJ'
  -- the class
  obtain ⟨Mt, hMt⟩ : ∃ Mt, Mt = mk_st (mk_sr M 8 (va_cpy (M 4) (M 8) 0 0 12)) 7 1 (M 3 1) := ⟨_, rfl⟩
  have fMt : ∀ y, y ≠ 7 → y ≠ 8 → Mt y = M y := fun y h1 h2 => by rw [hMt]; simp (disch := omega) only [mk_st_off, mk_sr_off]
  have t8 : ∀ i, i < 12 → Mt 8 i = M 4 i := fun i hi => by
    rw [hMt]
    simp (disch := omega) only [mk_st_off, mk_sr_row]
    unfold va_cpy
    rw [if_pos (by omega), show 0 + (i - 0) = i by omega]
  have t7 : Mt 7 1 = nI np := by rw [hMt, mk_st_same]; exact a6.1
  have b1 : f_X1_become 7 3 M = some Mt := by
    unfold f_X1_become
    rw [hMt]
    simp (disch := omega) only [mk_sr_off]
  have cvs : ∀ i, i < np → Mt 8 i = nI (P i) ∧ P i ≤ 12 ∧ pu_cv Mt M (P i) ∧ pu_vl M (P i) := fun i hi => by
    have r := (a6.2.2.2 i hi).2.2
    have v := (hJ.val hi).1
    refine ⟨by rw [t8 i (by omega)]; exact (a6.2.2.2 i hi).1, r.2, ?_, (hJ.val hi).2.2⟩
    unfold pu_cv at v ⊢
    rw [fMt _ (by omega) (by omega)]
    exact v
  have ac := as_c (M := Mt) (V := M) (np := np) (P := P) a6.2.2.1 cvs a12 np mk_F (Nat.le_refl _) (mk_F_lt (by omega))
  obtain ⟨M1, hM1⟩ : ∃ M1, M1 = mk_st (mk_sr Mt 4 (va_cpy (Mt 8) (Mt 4) 0 0 12)) 3 1 (Mt 7 1) := ⟨_, rfl⟩
  have b2 : f_X1_become 3 7 Mt = some M1 := by
    unfold f_X1_become
    rw [hM1]
    simp (disch := omega) only [mk_sr_off]
  have e5 : f_X5_assign M = some (1, M1) := by
    unfold f_X5_assign
    rw [b1, Option.bind_some, t7, Int32.sub_eq_add_neg, ac, b2]
    rfl
  have f1 : ∀ y, y ≠ 7 → y ≠ 8 → M1 y = M y := fun y h1 h2 => by
    rw [hM1]
    by_cases z3 : y = 3
    · rw [z3, t7, ← a6.1, mk_st_id]
      · rw [mk_sr_off _ _ _ (by decide)]; exact fMt 3 (by decide) (by decide)
      · rw [mk_sr_off _ _ _ (by decide), fMt 3 (by decide) (by decide)]
    · rw [mk_st_off _ _ _ _ z3]
      by_cases z4 : y = 4
      · rw [z4, mk_sr_row]
        funext k
        unfold va_cpy
        by_cases z : 0 ≤ k ∧ k < 0 + 12
        · rw [if_pos z, show 0 + (k - 0) = k by omega, t8 k (by omega)]
        · rw [if_neg z, fMt 4 (by decide) (by decide)]
      · rw [mk_sr_off _ _ _ z4]; exact fMt y h1 h2
  -- the reference
  have fB : ∀ y, y ≠ 7 → y ≠ 8 → y ≠ 68 → (mk_st M1 68 0 0) y = M y := fun y h1 h2 h3 => by rw [mk_st_off _ _ _ _ h3]; exact f1 y h1 h2
  have fB68 : ∀ k, k ≠ 0 → (mk_st M1 68 0 0) 68 k = M 68 k := fun k hk => by rw [mk_st_ne _ _ _ _ (fun z => hk z.2), f1 68 (by decide) (by decide)]
  obtain ⟨R, g1, g2⟩ := a7_lp (B := mk_st M1 68 0 0) (fun j j1 j2 => by
    rw [fB 69 (by decide) (by decide) (by decide)]
    by_cases hk : pu_kn P np j
    · exact Or.inr ((a10 j j1 j2).1 hk).1
    · exact Or.inl ((a10 j j1 j2).2 hk).1) 12 0 mk_F ((mk_st M1 68 0 0) 92) (by omega) (mk_F_lt (by omega)) (fun j j1 j2 => by omega)
  rw [mk_sr_id] at g1
  have b71 := fB 71 (by decide) (by decide) (by decide)
  have b72 := fB 72 (by decide) (by decide) (by decide)
  have b73 := fB 73 (by decide) (by decide) (by decide)
  have b74 := fB 74 (by decide) (by decide) (by decide)
  obtain ⟨B2, k1, k2⟩ := ao_lp (B := mk_st M1 68 0 0) (P := P) (np := np) a6.2.2.1 (by rw [fB68 7 (by decide)]; exact a6.2.1) (fun i hi => by rw [fB 75 (by decide) (by decide) (by decide)]; exact (a6.2.2.2 i hi).2.1) (fun i hi => ⟨(a6.2.2.2 i hi).2.2, rv_cg b71 b72 b73 b74 (hJ.val hi).2.1, vl_cg b71 b72 b73 b74 (hJ.val hi).2.2⟩) a7 (fun k hk => pu_ok_same b71 b72 b73 b74 (a12 k hk)) np mk_F (mk_sr (mk_st M1 68 0 0) 92 R) (Nat.le_refl _) (mk_F_lt (by omega)) (fun y y1 y2 => by rw [mk_sr_off _ _ _ y2]) (fun i i1 i2 => by omega) (fun j j1 j2 => by
    rw [mk_sr_row, g2 j j1 j2, fB 69 (by decide) (by decide) (by decide)]
    by_cases hk : pu_kn P np j
    · rw [((a10 j j1 j2).1 hk).1]; exact ⟨fun _ => hk, fun _ => n1_0⟩
    · rw [((a10 j j1 j2).2 hk).1]; exact ⟨fun z => absurd rfl z, fun z => absurd z hk⟩)
  have e6 : f_X6_assign M1 = some (1, B2) := by
    unfold f_X6_assign
    rw [show (1 : Int32) = nI (0 + 1) from rfl, g1, fB68 7 (by decide), a6.2.1, Int32.sub_eq_add_neg]
    exact k1
  refine ⟨(1, M1), (1, B2), e5, e6, rfl, hI.up (Nat.le_succ n) hn ⟨fun x x7 x8 x68 _ x91 x92 => ?_, fun k hk => ?_⟩⟩
  · show B2 x = M x
    rw [k2 x x91 x92]; exact fB x x7 x8 x68
  · show B2 68 k = M 68 k
    rw [k2 68 (by decide) (by decide)]; exact fB68 k hk
