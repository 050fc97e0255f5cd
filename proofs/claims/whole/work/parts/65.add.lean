/-! add: the first task that doesn't fit -/
theorem pu_first (p : Nat → Prop) : ∀ s : Nat, ∃ k, k ≤ s ∧ (∀ j, j < k → p j) ∧ (k < s → ¬ p k) := by
  intro s
  induction s with
  | zero => exact ⟨0, Nat.le_refl _, fun j h => absurd h (by omega), fun h => absurd h (by omega)⟩
  | succ s ih =>
    obtain ⟨k, h1, h2, h3⟩ := ih
    by_cases c : k < s
    · exact ⟨k, by omega, h2, fun _ => h3 c⟩
    · have e : k = s := by omega
      subst e
      by_cases c2 : p k
      · exact ⟨k + 1, Nat.le_refl _, fun j hj => by
          rcases Nat.lt_or_ge j k with q | q
          · exact h2 j q
          · rw [show j = k by omega]; exact c2, fun h => absurd h (by omega)⟩
      · exact ⟨k, by omega, h2, fun _ => c2⟩
theorem n1001 {d : Nat} (h : d ≤ 1000) : ¬ (1001 : Int32) ≤ nI d := show ¬ nI 1001 ≤ nI d from nI_ge (by omega) (by decide)
theorem m1_le {d : Nat} (h : d ≤ 1000) : (-1 : Int32) ≤ nI d := by
  rw [Int32.le_iff_toInt_le, nI_toInt (by omega)]
  have e : (-1 : Int32).toInt = -1 := by decide
  omega
theorem fl_lp {M V : mk_M} {s k : Nat} {Q : Nat → Nat} (hs : s ≤ 12) (h7 : M 7 1 = nI s) (hQ : ∀ i, i < s → M 8 i = nI (Q i) ∧ Q i ≤ 12 ∧ pu_cv M V (Q i) ∧ pu_vl V (Q i)) (hk : k ≤ s) (hl : ∀ j, j < k → ∃ r, pu_lr V Q j r) (hf : k < s → ¬ ∃ r, pu_lr V Q k r) : ∀ d i n : Nat, i + d = k → d < n → f_X4_firstLowResponseThatFails_2 7 n (nI i) M = some (if k < s then nI k else -1) := by
  have st : ∀ i n : Nat, i < s → f_X4_firstLowResponseThatFails_2 7 (n + 1) (nI i) M = ((f_X4_leastSpan 7 (nI i) (nI i) (nI (pu_v V 73 (Q i))) 0 M).bind (fun r => if r ≤ nI (pu_v V 72 (Q i)) then f_X4_firstLowResponseThatFails_2 7 n (nI (i + 1)) M else some (nI i))) := fun i n hi => by
    obtain ⟨p1, p2, p3, p4⟩ := hQ i hi
    show (if (M 7 1) ≤ nI i then (some (-1)) else ((f_X4_lowResponse 7 (nI i) (nI i) M).bind (fun r_3 => (if mk_ob (nI i) 12 then none else (if mk_ob (M (7+1) (nI i).toNatClampNeg) 13 then none else (if r_3 ≤ (M (16 + 4 * (M (7+1) (nI i).toNatClampNeg).toNatClampNeg) 1) then (f_X4_firstLowResponseThatFails_2 7 n (nI i + 1) M) else (some (nI i)))))))) = _
    rw [h7, if_neg (nI_ge hi (by omega)), lw_n (V := V) (P := Q) (by omega) (fun j hj => hQ j (by omega))]
    have ho := ob_n (show i < 12 by omega) (by decide)
    have hp : M (7 + 1) i = nI (Q i) := p1
    simp only [if_neg ho, cl_n (show i < 2 ^ 31 by omega), hp, if_neg (ob_n (show Q i < 13 by omega) (by decide)), cl_n (show Q i < 2 ^ 31 by omega), p3.2.1, nI_1]
  intro d
  induction d with
  | zero =>
    intro i n hi hn
    obtain ⟨n, rfl⟩ : ∃ m, n = m + 1 := ⟨n - 1, by omega⟩
    have e : i = k := by omega
    subst e
    by_cases c : i < s
    · have p4 := (hQ i c).2.2.2
      rw [st i n c, if_pos c]
      rcases lr_n (M := M) (V := V) (x := 7) (k := i) (P := Q) (by omega) (fun j hj => hQ j (by omega)) with ⟨r, r1, -⟩ | ⟨-, r2⟩
      · exact absurd ⟨r, r1⟩ (hf c)
      · rw [r2, Option.bind_some, if_neg (n1001 p4.2.1.2)]
    · rw [if_neg c]
      show (if (M 7 1) ≤ nI i then (some (-1)) else _) = _
      rw [h7, if_pos (nI_le (by omega) (by omega))]
  | succ d ih =>
    intro i n hi hn
    obtain ⟨n, rfl⟩ : ∃ m, n = m + 1 := ⟨n - 1, by omega⟩
    have c : i < s := by omega
    have p4 := (hQ i c).2.2.2
    rw [st i n c]
    obtain ⟨r, hr⟩ := hl i (by omega)
    rcases lr_n (M := M) (V := V) (x := 7) (k := i) (P := Q) (by omega) (fun j hj => hQ j (by omega)) with ⟨r', r1, r2⟩ | ⟨r1, -⟩
    · have b := r1.2.1
      have b2 := p4.2.1.2
      rw [r2, Option.bind_some, if_pos (nI_le b (by omega))]
      exact ih (i + 1) n (by omega) (by omega)
    · have := r1 r hr.1 hr.2.1
      have := hr.2.2.1
      omega
theorem fb_lp {M V : mk_M} {s k : Nat} {Q : Nat → Nat} (hs : s ≤ 12) (h7 : M 7 1 = nI s) (hQ : ∀ i, i < s → M 8 i = nI (Q i) ∧ Q i ≤ 12 ∧ pu_cv M V (Q i) ∧ pu_vl V (Q i)) (hk : k ≤ s) (ha : ∀ j, j < s → ∃ r, pu_lr V Q j r) (hl : ∀ j, j < k → pu_ok V Q j) (hf : k < s → ¬ pu_ok V Q k) : ∀ d i n : Nat, i + d = k → d < n → f_X4_firstBoundThatFails_2 7 n (nI i) M = some (if k < s then nI k else -1) := by
  have st : ∀ i n : Nat, i < s → f_X4_firstBoundThatFails_2 7 (n + 1) (nI i) M = ((f_X4_bound 7 (nI i) (nI i) M).bind (fun r => if r ≤ nI (pu_v V 72 (Q i)) then f_X4_firstBoundThatFails_2 7 n (nI (i + 1)) M else some (nI i))) := fun i n hi => by
    obtain ⟨p1, p2, p3, p4⟩ := hQ i hi
    show (if (M 7 1) ≤ nI i then (some (-1)) else ((f_X4_bound 7 (nI i) (nI i) M).bind (fun r_3 => (if mk_ob (nI i) 12 then none else (if mk_ob (M (7+1) (nI i).toNatClampNeg) 13 then none else (if r_3 ≤ (M (16 + 4 * (M (7+1) (nI i).toNatClampNeg).toNatClampNeg) 1) then (f_X4_firstBoundThatFails_2 7 n (nI i + 1) M) else (some (nI i)))))))) = _
    rw [h7, if_neg (nI_ge hi (by omega))]
    have ho := ob_n (show i < 12 by omega) (by decide)
    have hp : M (7 + 1) i = nI (Q i) := p1
    simp only [if_neg ho, cl_n (show i < 2 ^ 31 by omega), hp, if_neg (ob_n (show Q i < 13 by omega) (by decide)), cl_n (show Q i < 2 ^ 31 by omega), p3.2.1, nI_1]
  intro d
  induction d with
  | zero =>
    intro i n hi hn
    obtain ⟨n, rfl⟩ : ∃ m, n = m + 1 := ⟨n - 1, by omega⟩
    have e : i = k := by omega
    subst e
    by_cases c : i < s
    · have p4 := (hQ i c).2.2.2
      obtain ⟨r, hr⟩ := ha i c
      rw [st i n c, if_pos c]
      rcases Nat.eq_zero_or_pos (pu_v V 74 (Q i)) with z | z
      · exact absurd ⟨r, hr, fun h => by omega⟩ (hf c)
      · rcases bd_n (M := M) (V := V) (x := 7) (k := i) (P := Q) (by omega) (fun j hj => hQ j (by omega)) hr z with ⟨b, r1, -⟩ | ⟨-, r2⟩
        · exact absurd ⟨r, hr, fun _ => ⟨b, r1⟩⟩ (hf c)
        · rw [r2, Option.bind_some, if_neg (n1001 p4.2.1.2)]
    · rw [if_neg c]
      show (if (M 7 1) ≤ nI i then (some (-1)) else _) = _
      rw [h7, if_pos (nI_le (by omega) (by omega))]
  | succ d ih =>
    intro i n hi hn
    obtain ⟨n, rfl⟩ : ∃ m, n = m + 1 := ⟨n - 1, by omega⟩
    have c : i < s := by omega
    have p4 := (hQ i c).2.2.2
    have b2 := p4.2.1.2
    rw [st i n c]
    obtain ⟨r, -, -, c3⟩ := ok_c (M := M) (V := V) (x := 7) (k := i) (P := Q) (by omega) (fun j hj => hQ j (by omega)) (hl i (by omega))
    rcases c3 with ⟨-, c4⟩ | ⟨-, b, b1, c4⟩
    · rw [c4, Option.bind_some, if_pos (m1_le b2)]
      exact ih (i + 1) n (by omega) (by omega)
    · rw [c4, Option.bind_some, if_pos (nI_le b1.2.1 (by omega))]
      exact ih (i + 1) n (by omega) (by omega)
/-! the reference's look -/
theorem rk_mk {B B' : mk_M} {Q : Nat → Nat} {s i : Nat} {R : Nat → Int32} (hs : s ≤ 12) (hi : i < s) (hR : ∀ i, i < s → (1 ≤ Q i ∧ Q i ≤ 12) ∧ pu_rv B (Q i) ∧ pu_vl B (Q i)) (hj : ∀ i j, i < s → j < s → Q i = Q j → i = j) (h71 : B' 71 = B 71) (h72 : B' 72 = B 72) (h73 : B' 73 = B 73) (h74 : B' 74 = B 74) (hm : ∀ j, 1 ≤ j → j ≤ 12 → (¬ R j = 0 ↔ pu_kn Q i j)) : pu_rk (mk_sr B' 92 R) Q i := by
  have e71 : (mk_sr B' 92 R) 71 = B 71 := by rw [mk_sr_off _ _ _ (by decide)]; exact h71
  have e72 : (mk_sr B' 92 R) 72 = B 72 := by rw [mk_sr_off _ _ _ (by decide)]; exact h72
  have e73 : (mk_sr B' 92 R) 73 = B 73 := by rw [mk_sr_off _ _ _ (by decide)]; exact h73
  have e74 : (mk_sr B' 92 R) 74 = B 74 := by rw [mk_sr_off _ _ _ (by decide)]; exact h74
  refine ⟨by omega, fun j hj' => ⟨(hR j (by omega)).1, rv_cg e71 e72 e73 e74 (hR j (by omega)).2.1, vl_cg e71 e72 e73 e74 (hR j (by omega)).2.2⟩, fun a b ha hb => hj a b (by omega) (by omega), fun j j1 j2 => ?_⟩
  rw [mk_sr_row]
  constructor
  · intro h; exact (hm j j1 j2).mp h.1
  · intro h
    refine ⟨(hm j j1 j2).mpr h, fun z => ?_⟩
    obtain ⟨m, m1, m2⟩ := h
    have := hj m i (by omega) hi (by rw [m2, z])
    omega
theorem uf_lp {B : mk_M} {s k : Nat} {Q : Nat → Nat} (hs : s ≤ 12) (h7 : B 68 7 = nI s) (h75 : ∀ i, i < s → B 75 i = nI (Q i)) (hR : ∀ i, i < s → (1 ≤ Q i ∧ Q i ≤ 12) ∧ pu_rv B (Q i) ∧ pu_vl B (Q i)) (hj : ∀ i j, i < s → j < s → Q i = Q j → i = j) (hk : k ≤ s) (hl : ∀ j, j < k → ∃ r, pu_lr B Q j r) (hf : k < s → ¬ ∃ r, pu_lr B Q k r) :
    ∀ d i n : Nat, ∀ B' : mk_M, i + d = k → d < n → (∀ y, y ≠ 77 → y ≠ 92 → B' y = B y) → (∀ j, j < i → ∃ r, pu_lr B Q j r ∧ B' 77 (Q j) = nI r) →
    ∃ B2 : mk_M, (∀ y, y ≠ 77 → y ≠ 92 → B2 y = B y) ∧ (∀ j, j < k → ∃ r, pu_lr B Q j r ∧ B2 77 (Q j) = nI r) ∧ f_X6_unfit_2 n (nI i) B' = if k < s then some (nI (Q k), B2) else f_X6_unfit_65 mk_F 0 B2 := by
  have st : ∀ (i n : Nat) (B' : mk_M), i < s → (∀ y, y ≠ 77 → y ≠ 92 → B' y = B y) → ∃ R : Nat → Int32, pu_rk (mk_sr B' 92 R) Q i ∧ f_X6_unfit_2 (n + 1) (nI i) B' = ((f_X6_lowResponse (nI (Q i)) (mk_sr B' 92 R)).bind (fun v => if v = 0 then some (nI (Q i), mk_st (mk_sr B' 92 R) 77 (Q i) v) else f_X6_unfit_2 n (nI (i + 1)) (mk_st (mk_sr B' 92 R) 77 (Q i) v))) := fun i n B' hi h1 => by
    have e75 := h1 75 (by decide) (by decide)
    have e68 := h1 68 (by decide) (by decide)
    obtain ⟨R, m1, m2⟩ := mh_n (B := B') (P := Q) (k := i) (by omega) (fun j hj' => by rw [e75]; exact ⟨h75 j (by omega), (hR j (by omega)).1.2⟩)
    refine ⟨R, rk_mk hs hi hR hj (h1 71 (by decide) (by decide)) (h1 72 (by decide) (by decide)) (h1 73 (by decide) (by decide)) (h1 74 (by decide) (by decide)) m2, ?_⟩
    have hq := (hR i hi).1
    have ho := ob_n (show i < 13 by omega) (by decide)
    have hoq := ob_n (show Q i < 13 by omega) (by decide)
    have c75 : (mk_sr B' 92 R) 75 i = nI (Q i) := by rw [mk_sr_off _ _ _ (by decide), e75]; exact h75 i hi
    have d75 : ∀ v : Int32, (mk_st (mk_sr B' 92 R) 77 (Q i) v) 75 i = nI (Q i) := fun v => by rw [mk_st_off _ _ _ _ (by decide)]; exact c75
    show (if (B' 68 7) ≤ nI i then (f_X6_unfit_65 mk_F 0 B') else ((f_X6_markAhead (nI i) B').bind (fun r_17 => (if mk_ob (nI i) 13 then none else (if mk_ob (nI i) 13 then none else ((f_X6_lowResponse (r_17 75 (nI i).toNatClampNeg) r_17).bind (fun r_21 => (if mk_ob (r_17 75 (nI i).toNatClampNeg) 13 then none else (if mk_ob (nI i) 13 then none else (if mk_ob ((mk_st r_17 77 (r_17 75 (nI i).toNatClampNeg).toNatClampNeg r_21) 75 (nI i).toNatClampNeg) 13 then none else (if ((mk_st r_17 77 (r_17 75 (nI i).toNatClampNeg).toNatClampNeg r_21) 77 ((mk_st r_17 77 (r_17 75 (nI i).toNatClampNeg).toNatClampNeg r_21) 75 (nI i).toNatClampNeg).toNatClampNeg) = 0 then (if mk_ob (nI i) 13 then none else (some ((mk_st r_17 77 (r_17 75 (nI i).toNatClampNeg).toNatClampNeg r_21) 75 (nI i).toNatClampNeg, mk_st r_17 77 (r_17 75 (nI i).toNatClampNeg).toNatClampNeg r_21))) else (f_X6_unfit_2 n (nI i + 1) (mk_st r_17 77 (r_17 75 (nI i).toNatClampNeg).toNatClampNeg r_21)))))))))))))  = _
    rw [e68, h7, if_neg (nI_ge hi (by omega)), m1, Option.bind_some, if_neg ho, if_neg ho]
    simp only [cl_n (show i < 2 ^ 31 by omega), c75, cl_n (show Q i < 2 ^ 31 by omega), d75, mk_st_same, if_neg ho, if_neg hoq, nI_1]
  intro d
  induction d with
  | zero =>
    intro i n B' hi hn h1 h2
    obtain ⟨n, rfl⟩ : ∃ m, n = m + 1 := ⟨n - 1, by omega⟩
    have e : i = k := by omega
    subst e
    by_cases c : i < s
    · obtain ⟨R, k1, k2⟩ := st i n B' c h1
      have hP := (hR i c).1
      refine ⟨mk_st (mk_sr B' 92 R) 77 (Q i) 0, fun y y1 y2 => by rw [mk_st_off _ _ _ _ y1, mk_sr_off _ _ _ y2]; exact h1 y y1 y2, fun j hj' => ?_, ?_⟩
      · obtain ⟨r, r1, r2⟩ := h2 j hj'
        refine ⟨r, r1, ?_⟩
        have hne : Q j ≠ Q i := fun z => by have := hj j i (by omega) c z; omega
        rw [mk_st_ne _ _ _ _ (fun z => hne z.2), mk_sr_off _ _ _ (by decide)]; exact r2
      · rw [k2, if_pos c]
        rcases l_n k1 with ⟨r, r1, -⟩ | ⟨-, r2⟩
        · refine absurd ⟨r, ?_⟩ (hf c)
          exact (lr_cg (by rw [mk_sr_off _ _ _ (by decide)]; exact h1 71 (by decide) (by decide)) (by rw [mk_sr_off _ _ _ (by decide)]; exact h1 72 (by decide) (by decide)) (by rw [mk_sr_off _ _ _ (by decide)]; exact h1 73 (by decide) (by decide))).mp r1
        · rw [r2, Option.bind_some, if_pos rfl]
    · refine ⟨B', h1, h2, ?_⟩
      rw [if_neg c]
      show (if (B' 68 7) ≤ nI i then (f_X6_unfit_65 mk_F 0 B') else _) = _
      rw [h1 68 (by decide) (by decide), h7, if_pos (nI_le (by omega) (by omega))]
  | succ d ih =>
    intro i n B' hi hn h1 h2
    obtain ⟨n, rfl⟩ : ∃ m, n = m + 1 := ⟨n - 1, by omega⟩
    have c : i < s := by omega
    obtain ⟨R, k1, k2⟩ := st i n B' c h1
    have hP := (hR i c).1
    have h1000 := (hR i c).2.2.2.1.2
    have hcg : ∀ r, pu_lr (mk_sr B' 92 R) Q i r ↔ pu_lr B Q i r := fun r => lr_cg (by rw [mk_sr_off _ _ _ (by decide)]; exact h1 71 (by decide) (by decide)) (by rw [mk_sr_off _ _ _ (by decide)]; exact h1 72 (by decide) (by decide)) (by rw [mk_sr_off _ _ _ (by decide)]; exact h1 73 (by decide) (by decide))
    obtain ⟨r, hr⟩ := hl i (by omega)
    rcases l_n k1 with ⟨r', r1, r2⟩ | ⟨r1, -⟩
    · have g := (hcg r').mp r1
      have b1 := g.1
      have b2 := g.2.1
      obtain ⟨B2, e1, e2, e3⟩ := ih (i + 1) n (mk_st (mk_sr B' 92 R) 77 (Q i) (nI r')) (by omega) (by omega) (fun y y1 y2 => by rw [mk_st_off _ _ _ _ y1, mk_sr_off _ _ _ y2]; exact h1 y y1 y2) (fun j hj' => by
        by_cases z : j = i
        · subst z
          exact ⟨r', g, mk_st_same _ _ _ _⟩
        · obtain ⟨q, q1, q2⟩ := h2 j (by omega)
          refine ⟨q, q1, ?_⟩
          have hne : Q j ≠ Q i := fun z' => z (hj j i (by omega) c z')
          rw [mk_st_ne _ _ _ _ (fun z' => hne z'.2), mk_sr_off _ _ _ (by decide)]; exact q2)
      refine ⟨B2, e1, e2, ?_⟩
      rw [k2, r2, Option.bind_some, if_neg (nI_ne0 b1 (by omega))]
      exact e3
    · have h := (hcg r).mpr hr
      have := r1 r h.1 h.2.1
      have := h.2.2.1
      omega
theorem ub_lp {B : mk_M} {s k : Nat} {Q : Nat → Nat} (hs : s ≤ 12) (h7 : B 68 7 = nI s) (h75 : ∀ i, i < s → B 75 i = nI (Q i)) (hR : ∀ i, i < s → (1 ≤ Q i ∧ Q i ≤ 12) ∧ pu_rv B (Q i) ∧ pu_vl B (Q i)) (hj : ∀ i j, i < s → j < s → Q i = Q j → i = j) (hk : k ≤ s) (ha : ∀ j, j < s → ∃ r, pu_lr B Q j r ∧ B 77 (Q j) = nI r) (hl : ∀ j, j < k → pu_ok B Q j) (hf : k < s → ¬ pu_ok B Q k) :
    ∀ d i n : Nat, ∀ B' : mk_M, i + d = k → d < n → (∀ y, y ≠ 92 → B' y = B y) →
    ∃ B2 : mk_M, (∀ y, y ≠ 92 → B2 y = B y) ∧ f_X6_unfit_65 n (nI i) B' = some (if k < s then 0 - nI (Q k) else 0, B2) := by
  have st : ∀ (i n : Nat) (B' : mk_M) (r : Nat), i < s → (∀ y, y ≠ 92 → B' y = B y) → B 77 (Q i) = nI r → ∃ R : Nat → Int32, pu_rk (mk_sr B' 92 R) Q i ∧ f_X6_unfit_65 (n + 1) (nI i) B' = if pu_v B 74 (Q i) = 0 then f_X6_unfit_65 n (nI (i + 1)) (mk_sr B' 92 R) else ((f_X6_bound (nI (Q i)) (nI r) (mk_sr B' 92 R)).bind (fun v => if v = 0 then some (0 - nI (Q i), mk_sr B' 92 R) else f_X6_unfit_65 n (nI (i + 1)) (mk_sr B' 92 R))) := fun i n B' r hi h1 hr => by
    have e75 := h1 75 (by decide)
    have e68 := h1 68 (by decide)
    obtain ⟨R, m1, m2⟩ := mh_n (B := B') (P := Q) (k := i) (by omega) (fun j hj' => by rw [e75]; exact ⟨h75 j (by omega), (hR j (by omega)).1.2⟩)
    refine ⟨R, rk_mk hs hi hR hj (h1 71 (by decide)) (h1 72 (by decide)) (h1 73 (by decide)) (h1 74 (by decide)) m2, ?_⟩
    have hq := (hR i hi).1
    have h200 := (hR i hi).2.2.2.2.2
    have ho := ob_n (show i < 13 by omega) (by decide)
    have hoq := ob_n (show Q i < 13 by omega) (by decide)
    have c75 : (mk_sr B' 92 R) 75 i = nI (Q i) := by rw [mk_sr_off _ _ _ (by decide), e75]; exact h75 i hi
    have c74 : (mk_sr B' 92 R) 74 (Q i) = nI (pu_v B 74 (Q i)) := by rw [mk_sr_off _ _ _ (by decide), h1 74 (by decide)]; exact (hR i hi).2.1.2.2.2
    have c77 : (mk_sr B' 92 R) 77 (Q i) = nI r := by rw [mk_sr_off _ _ _ (by decide), h1 77 (by decide)]; exact hr
    show (if (B' 68 7) ≤ nI i then (some (0, B')) else ((f_X6_markAhead (nI i) B').bind (fun r_4 => (if mk_ob (nI i) 13 then none else (if mk_ob (r_4 75 (nI i).toNatClampNeg) 13 then none else (if (r_4 74 (r_4 75 (nI i).toNatClampNeg).toNatClampNeg) ≤ 0 then (f_X6_unfit_65 n (nI i + 1) r_4) else (if mk_ob (nI i) 13 then none else (if mk_ob (nI i) 13 then none else (if mk_ob (r_4 75 (nI i).toNatClampNeg) 13 then none else ((f_X6_bound (r_4 75 (nI i).toNatClampNeg) (r_4 77 (r_4 75 (nI i).toNatClampNeg).toNatClampNeg) r_4).bind (fun r_12 => (if r_12 = 0 then (if mk_ob (nI i) 13 then none else (some (0 - (r_4 75 (nI i).toNatClampNeg), r_4))) else (f_X6_unfit_65 n (nI i + 1) r_4))))))))))))) = _
    rw [e68, h7, if_neg (nI_ge hi (by omega)), m1, Option.bind_some, if_neg ho]
    simp only [cl_n (show i < 2 ^ 31 by omega), c75, cl_n (show Q i < 2 ^ 31 by omega), c74, c77, if_neg ho, if_neg hoq, nI_1]
    rcases Nat.eq_zero_or_pos (pu_v B 74 (Q i)) with z | z
    · rw [if_pos z, z, if_pos (by decide)]
    · rw [if_neg (nle0 z (by omega)), if_neg (show ¬ pu_v B 74 (Q i) = 0 by omega)]
  intro d
  induction d with
  | zero =>
    intro i n B' hi hn h1
    obtain ⟨n, rfl⟩ : ∃ m, n = m + 1 := ⟨n - 1, by omega⟩
    have e : i = k := by omega
    subst e
    by_cases c : i < s
    · obtain ⟨r, hr, hr2⟩ := ha i c
      obtain ⟨R, k1, k2⟩ := st i n B' r c h1 hr2
      have h1000 := (hR i c).2.2.2.1.2
      have b2 := hr.2.1
      refine ⟨mk_sr B' 92 R, fun y y2 => by rw [mk_sr_off _ _ _ y2]; exact h1 y y2, ?_⟩
      rw [k2, if_pos c]
      by_cases z : pu_v B 74 (Q i) = 0
      · exact absurd ⟨r, hr, fun h => by omega⟩ (hf c)
      · rw [if_neg z]
        rcases b_n k1 (r := r) (by omega) with ⟨b, r1, -⟩ | ⟨-, r2⟩
        · refine absurd ⟨r, hr, fun _ => ⟨b, ?_⟩⟩ (hf c)
          exact (bd_cg (by rw [mk_sr_off _ _ _ (by decide)]; exact h1 71 (by decide)) (by rw [mk_sr_off _ _ _ (by decide)]; exact h1 72 (by decide)) (by rw [mk_sr_off _ _ _ (by decide)]; exact h1 73 (by decide)) (by rw [mk_sr_off _ _ _ (by decide)]; exact h1 74 (by decide))).mp r1
        · rw [r2, Option.bind_some, if_pos rfl]
    · refine ⟨B', h1, ?_⟩
      rw [if_neg c]
      show (if (B' 68 7) ≤ nI i then (some (0, B')) else _) = _
      rw [h1 68 (by decide), h7, if_pos (nI_le (by omega) (by omega))]
  | succ d ih =>
    intro i n B' hi hn h1
    obtain ⟨n, rfl⟩ : ∃ m, n = m + 1 := ⟨n - 1, by omega⟩
    have c : i < s := by omega
    obtain ⟨r, hr, hr2⟩ := ha i c
    obtain ⟨R, k1, k2⟩ := st i n B' r c h1 hr2
    have h1000 := (hR i c).2.2.2.1.2
    have b2 := hr.2.1
    obtain ⟨B2, e1, e2⟩ := ih (i + 1) n (mk_sr B' 92 R) (by omega) (by omega) (fun y y2 => by rw [mk_sr_off _ _ _ y2]; exact h1 y y2)
    refine ⟨B2, e1, ?_⟩
    rw [k2]
    by_cases z : pu_v B 74 (Q i) = 0
    · rw [if_pos z]; exact e2
    · rw [if_neg z]
      have hcg : ∀ b, pu_bd (mk_sr B' 92 R) Q i r b ↔ pu_bd B Q i r b := fun b => bd_cg (by rw [mk_sr_off _ _ _ (by decide)]; exact h1 71 (by decide)) (by rw [mk_sr_off _ _ _ (by decide)]; exact h1 72 (by decide)) (by rw [mk_sr_off _ _ _ (by decide)]; exact h1 73 (by decide)) (by rw [mk_sr_off _ _ _ (by decide)]; exact h1 74 (by decide))
      rcases b_n k1 (r := r) (by omega) with ⟨b, r1, r2⟩ | ⟨r1, -⟩
      · have g := (hcg b).mp r1
        have g1 := g.1
        have g2 := g.2.1
        rw [r2, Option.bind_some, if_neg (nI_ne0 g1 (by omega))]
        exact e2
      · obtain ⟨r', hr', hb⟩ := hl i (by omega)
        obtain ⟨b, hb⟩ := hb (by omega)
        rw [← lr_u hr hr'] at hb
        have h := (hcg b).mpr hb
        have := r1 b h.1 h.2.1
        have := h.2.2.1
        omega
