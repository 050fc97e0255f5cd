/-! searching a line; who is known; how many jobs are pending -/
theorem mk_F_lt {n : Nat} (h : n < 5000) : n < mk_F := h
theorem sr_pl {M : mk_M} {x s : Nat} {P : Nat → Nat} (hs : M x 1 = nI s) (h12 : s ≤ 12) (hP : ∀ i, i < s → M (x + 1) i = nI (P i)) (a1 : Int32) : ∀ d i n : Nat, i + d = s → d < n → (∀ k, k < i → nI (P k) ≠ a1) →
    (∃ k, k < s ∧ nI (P k) = a1 ∧ (∀ k', k' < k → nI (P k') ≠ a1) ∧ f_X1_placeOf_2 x n a1 (nI i) M = some (nI k)) ∨ ((∀ k, k < s → nI (P k) ≠ a1) ∧ f_X1_placeOf_2 x n a1 (nI i) M = some (-1)) := by
  intro d
  induction d with
  | zero =>
    intro i n hi hn hk
    obtain ⟨n, rfl⟩ : ∃ m, n = m + 1 := ⟨n - 1, by omega⟩
    have hi : i = s := by omega
    subst hi
    right
    refine ⟨hk, ?_⟩
    show (if M x 1 ≤ nI i then some (-1) else _) = _
    rw [hs, if_pos (nI_le (Nat.le_refl _) (by omega))]
  | succ d ih =>
    intro i n hi hn hk
    obtain ⟨n, rfl⟩ : ∃ m, n = m + 1 := ⟨n - 1, by omega⟩
    have his : i < s := by omega
    have e : f_X1_placeOf_2 x (n + 1) a1 (nI i) M = if nI (P i) = a1 then some (nI i) else f_X1_placeOf_2 x n a1 (nI (i + 1)) M := by
      show (if M x 1 ≤ nI i then some (-1) else (if mk_ob (nI i) 12 then none else (if M (x + 1) (nI i).toNatClampNeg = a1 then some (nI i) else f_X1_placeOf_2 x n a1 (nI i + 1) M))) = _
      rw [hs, if_neg (nI_ge his (by omega)), if_neg (ob_n (by omega) (by omega)), cl_n (by omega), hP i his, nI_1]
    rw [e]
    by_cases h : nI (P i) = a1
    · left
      exact ⟨i, his, h, hk, by rw [if_pos h]⟩
    · rw [if_neg h]
      exact ih (i + 1) n (by omega) (by omega) (fun k hk' => by
        rcases Nat.lt_or_ge k i with q | q
        · exact hk k q
        · rw [show k = i by omega]; exact h)
theorem sr_od {M : mk_M} {s : Nat} {P : Nat → Nat} (hs : M 68 9 = nI s) (h12 : s ≤ 12) (hP : ∀ i, i < s → M 76 i = nI (P i)) (a1 : Int32) : ∀ d i n : Nat, i + d = s → d < n → (∀ k, k < i → nI (P k) ≠ a1) →
    (∃ k, k < s ∧ nI (P k) = a1 ∧ (∀ k', k' < k → nI (P k') ≠ a1) ∧ f_X6_place_2 n a1 (nI i) M = some (nI k)) ∨ ((∀ k, k < s → nI (P k) ≠ a1) ∧ f_X6_place_2 n a1 (nI i) M = some (-1)) := by
  intro d
  induction d with
  | zero =>
    intro i n hi hn hk
    obtain ⟨n, rfl⟩ : ∃ m, n = m + 1 := ⟨n - 1, by omega⟩
    have hi : i = s := by omega
    subst hi
    right
    refine ⟨hk, ?_⟩
    show (if M 68 9 ≤ nI i then some (-1) else _) = _
    rw [hs, if_pos (nI_le (Nat.le_refl _) (by omega))]
  | succ d ih =>
    intro i n hi hn hk
    obtain ⟨n, rfl⟩ : ∃ m, n = m + 1 := ⟨n - 1, by omega⟩
    have his : i < s := by omega
    have e : f_X6_place_2 (n + 1) a1 (nI i) M = if nI (P i) = a1 then some (nI i) else f_X6_place_2 n a1 (nI (i + 1)) M := by
      show (if M 68 9 ≤ nI i then some (-1) else (if mk_ob (nI i) 13 then none else (if M 76 (nI i).toNatClampNeg = a1 then some (nI i) else f_X6_place_2 n a1 (nI i + 1) M))) = _
      rw [hs, if_neg (nI_ge his (by omega)), if_neg (ob_n (by omega) (by omega)), cl_n (by omega), hP i his, nI_1]
    rw [e]
    by_cases h : nI (P i) = a1
    · left
      exact ⟨i, his, h, hk, by rw [if_pos h]⟩
    · rw [if_neg h]
      exact ih (i + 1) n (by omega) (by omega) (fun k hk' => by
        rcases Nat.lt_or_ge k i with q | q
        · exact hk k q
        · rw [show k = i by omega]; exact h)
/-- the reference's place in the plan: there is one -/
theorem sr_pp {M : mk_M} {s : Nat} {P : Nat → Nat} (h12 : s ≤ 12) (hP : ∀ i, i < s → M 75 i = nI (P i)) (a1 : Int32) {k : Nat} (hk : k < s) (h1 : nI (P k) = a1) (h2 : ∀ k', k' < k → nI (P k') ≠ a1) : ∀ d i n : Nat, i + d = k → d < n → f_X6_planPlace_2 n a1 (nI i) M = some (nI k) := by
  intro d
  induction d with
  | zero =>
    intro i n hi hn
    obtain ⟨n, rfl⟩ : ∃ m, n = m + 1 := ⟨n - 1, by omega⟩
    have hi : i = k := by omega
    subst hi
    show (if mk_ob (nI i) 13 then none else (if M 75 (nI i).toNatClampNeg = a1 then some (nI i) else f_X6_planPlace_2 n a1 (nI i + 1) M)) = _
    rw [if_neg (ob_n (by omega) (by omega)), cl_n (by omega), hP i hk, if_pos h1]
  | succ d ih =>
    intro i n hi hn
    obtain ⟨n, rfl⟩ : ∃ m, n = m + 1 := ⟨n - 1, by omega⟩
    show (if mk_ob (nI i) 13 then none else (if M 75 (nI i).toNatClampNeg = a1 then some (nI i) else f_X6_planPlace_2 n a1 (nI i + 1) M)) = _
    rw [if_neg (ob_n (by omega) (by omega)), cl_n (by omega), hP i (by omega), if_neg (h2 i (by omega)), nI_1]
    exact ih (i + 1) n (by omega) (by omega)
theorem nI_inj {a b : Nat} (ha : a < 2 ^ 31) (hb : b < 2 ^ 31) (h : nI a = nI b) : a = b := (nI_eq ha hb).mp h
/-- the line with n places: where a task stands in it -/
theorem pl_of {M : mk_M} {x s : Nat} {P : Nat → Nat} (hs : M x 1 = nI s) (h12 : s ≤ 12) (hP : ∀ i, i < s → M (x + 1) i = nI (P i)) (hr : ∀ i, i < s → 1 ≤ P i ∧ P i ≤ 12) (hi : ∀ i j, i < s → j < s → P i = P j → i = j) (a1 : Int32) :
    (∃ k, k < s ∧ a1 = nI (P k) ∧ f_X1_placeOf x a1 M = some (nI k)) ∨ ((∀ k, k < s → a1 ≠ nI (P k)) ∧ f_X1_placeOf x a1 M = some (-1)) := by
  rcases sr_pl hs h12 hP a1 s 0 mk_F (by omega) (mk_F_lt (by omega)) (fun k h => absurd h (by omega)) with ⟨k, h1, h2, -, h4⟩ | ⟨h1, h2⟩
  · exact Or.inl ⟨k, h1, h2.symm, h4⟩
  · exact Or.inr ⟨fun k hk h => h1 k hk h.symm, h2⟩
/-- known or not, for the class and for the reference -/
theorem kn_of {M : mk_M} {np : Nat} {P : Nat → Nat} (h3 : M 3 1 = nI np) (h12 : np ≤ 12) (hP : ∀ i, i < np → M 4 i = nI (P i) ∧ M 75 i = nI (P i) ∧ 1 ≤ P i ∧ P i ≤ 12) (hi : ∀ i j, i < np → j < np → P i = P j → i = j) (hk : ∀ id, 1 ≤ id → id ≤ 12 → (pu_kn P np id → M 69 id = 1) ∧ (¬ pu_kn P np id → M 69 id = 0)) (a1 : Int32) :
    (∃ id k, 1 ≤ id ∧ id ≤ 12 ∧ a1 = nI id ∧ k < np ∧ P k = id ∧ f_X5_isKnown a1 M = some 1 ∧ f_X6_isKnown a1 M = some 1) ∨ ((∀ k, k < np → a1 ≠ nI (P k)) ∧ f_X5_isKnown a1 M = some 0 ∧ f_X6_isKnown a1 M = some 0) := by
  rcases pl_of (x := 3) h3 h12 (fun i h => (hP i h).1) (fun i h => (hP i h).2.2) hi a1 with ⟨k, h1, h2, h4⟩ | ⟨h1, h2⟩
  · left
    obtain ⟨-, -, r1, r2⟩ := hP k h1
    refine ⟨P k, k, r1, r2, h2, h1, rfl, ?_, ?_⟩
    · unfold f_X5_isKnown
      rw [h4, Option.bind_some, if_neg]
      intro h
      have := congrArg Int32.toInt h
      rw [nI_toInt (by omega)] at this
      have e : (-1 : Int32).toInt = -1 := by decide
      omega
    · unfold f_X6_isKnown
      rw [h2, if_neg (show ¬ nI (P k) < (1 : Int32) from nI_nlt r1 (by omega)), if_neg (show ¬ (12 : Int32) < nI (P k) from nI_nlt (a := 12) (b := P k) r2 (by decide)), if_neg (ob_n (by omega) (by omega)), cl_n (by omega), (hk (P k) r1 r2).1 ⟨k, h1, rfl⟩, if_neg (by decide)]
  · right
    refine ⟨h1, by unfold f_X5_isKnown; rw [h2, Option.bind_some, if_pos rfl], ?_⟩
    unfold f_X6_isKnown
    by_cases c1 : a1 < 1
    · rw [if_pos c1]
    by_cases c2 : 12 < a1
    · rw [if_neg c1, if_pos c2]
    have c0 : ¬ a1 < 0 := by
      intro h
      apply c1
      rw [Int32.lt_iff_toInt_lt] at h ⊢
      rw [Int32.toInt_zero] at h
      have e : (1 : Int32).toInt = 1 := by decide
      omega
    obtain ⟨id, hid, rfl⟩ := nI_of c0
    have i1 : 1 ≤ id := by
      rcases Nat.lt_or_ge id 1 with q | q
      · exact absurd (show nI id < nI 1 from nI_lt q (by omega)) c1
      · exact q
    have i2 : id ≤ 12 := by
      rcases Nat.lt_or_ge 12 id with q | q
      · exact absurd (show nI 12 < nI id from nI_lt q (by omega)) c2
      · exact q
    rw [if_neg c1, if_neg c2, if_neg (ob_n (by omega) (by omega)), cl_n (by omega), (hk id i1 i2).2 (fun ⟨k, hk1, hk2⟩ => h1 k hk1 (by rw [hk2])), if_pos rfl]
/-- the reference's row of a job -/
theorem at_n (M : mk_M) {id j : Nat} (hid : id ≤ 12) (hj : j < 2 ^ 31) : f_X6_at (nI id) (nI j) M = some (nI (8 * id + j % 8)) := by
  unfold f_X6_at
  rw [show (8 : Int32) = nI 8 from rfl, pk_rem hj (by decide) (by decide), pk_mul, nI_add]
/-- what is told of a task's jobs: jb of them, the last pe pending -/
def pu_jb (M : mk_M) (id jb pe : Nat) : Prop := M 78 id = nI jb ∧ jb ≤ 512 ∧ pe ≤ jb ∧ pe ≤ 8 ∧ ∀ j, 1 ≤ j → j ≤ jb → jb < j + 8 → (M 86 (8 * id + j % 8) = -1 ↔ jb < j + pe)
theorem ip_n {M : mk_M} {id jb pe : Nat} (hid : id ≤ 12) (h : pu_jb M id jb pe) {j : Nat} (h1 : 1 ≤ j) (h2 : j ≤ jb) (h3 : jb < j + 8) : f_X6_isPending (nI id) (nI j) M = some (if jb < j + pe then 1 else 0) := by
  obtain ⟨a1, a2, a3, -, a4⟩ := h
  unfold f_X6_isPending
  have e8 : ¬ nI j ≤ nI jb - 8 := by
    rw [Int32.le_iff_toInt_le, nI_toInt (by omega), show (8 : Int32) = nI 8 from rfl, pk_sub_toInt (by omega) (by omega)]
    omega
  have ho : ¬ mk_ob (nI id) 13 := ob_n (by omega) (by omega)
  rw [if_neg (show ¬ nI j < (1 : Int32) from nI_nlt h1 (by omega)), if_neg ho, if_neg ho]
  simp only [cl_n (show id < 2 ^ 31 by omega), a1]
  rw [if_neg (nI_nlt h2 (by omega)), if_neg e8, at_n M hid (by omega), Option.bind_some, if_neg (ob_n (by omega) (by omega)), cl_n (by omega)]
  by_cases c : jb < j + pe
  · rw [if_pos ((a4 j h1 h2 h3).mpr c), if_pos c]
  · rw [if_neg (fun q => c ((a4 j h1 h2 h3).mp q)), if_neg c]
theorem ip_0 {M : mk_M} {a1 a2 : Int32} (h : a2 < 1) : f_X6_isPending a1 a2 M = some 0 := by unfold f_X6_isPending; rw [if_pos h]
/-- the reference's count of the pending jobs -/
theorem pe_lp {M : mk_M} {id jb pe : Nat} (hid : id ≤ 12) (h : pu_jb M id jb pe) : ∀ d i n : Nat, i + d = 8 → d < n → f_X6_pending_12 n (nI id) (nI (i + pe - 8)) (nI jb - 7 + nI i) M = some (nI pe) := by
  intro d
  have h' := h
  obtain ⟨a1, a2, a3, a5, a4⟩ := h'
  induction d with
  | zero =>
    intro i n hi hn
    obtain ⟨n, rfl⟩ : ∃ m, n = m + 1 := ⟨n - 1, by omega⟩
    have hi : i = 8 := by omega
    subst hi
    have e : nI jb - 7 + nI 8 = nI (jb + 1) := by
      have e1 : (-7 : Int32) + nI 8 = 1 := by decide
      rw [Int32.sub_eq_add_neg, Int32.add_assoc, e1]
      exact nI_1 jb
    show (if mk_ob (nI id) 13 then none else (if M 78 (nI id).toNatClampNeg < nI jb - 7 + nI 8 then some (nI (8 + pe - 8)) else _)) = _
    rw [if_neg (ob_n (by omega) (by omega)), cl_n (by omega), a1, e, if_pos (nI_lt (by omega) (by omega)), show 8 + pe - 8 = pe by omega]
  | succ d ih =>
    intro i n hi hn
    obtain ⟨n, rfl⟩ : ∃ m, n = m + 1 := ⟨n - 1, by omega⟩
    have hi8 : i < 8 := by omega
    have en : nI jb - 7 + nI i + 1 = nI jb - 7 + nI (i + 1) := by rw [← nI_1, Int32.add_assoc]
    have tI : (nI jb - 7 + nI i).toInt = (jb : Int) - 7 + i := by
      rcases Nat.lt_or_ge (jb + i) 7 with q | q
      · have e1 : nI jb - 7 + nI i = nI (jb + i) - nI 7 := by
          rw [← nI_add, Int32.sub_eq_add_neg, Int32.sub_eq_add_neg, Int32.add_assoc, Int32.add_assoc, Int32.add_comm (-7)]
          rfl
        rw [e1, pk_sub_toInt (by omega) (by omega)]; omega
      · have e1 : nI jb - 7 + nI i = nI (jb + i - 7) := by
          rw [← pk_sub (show 7 ≤ jb + i by omega), ← nI_add, Int32.sub_eq_add_neg, Int32.sub_eq_add_neg, Int32.add_assoc, Int32.add_assoc, Int32.add_comm (-7)]
          rfl
        rw [e1, nI_toInt (by omega)]; omega
    have hlt : ¬ nI jb < nI jb - 7 + nI i := by
      rw [Int32.lt_iff_toInt_lt, tI, nI_toInt (by omega)]; omega
    show (if mk_ob (nI id) 13 then none else (if M 78 (nI id).toNatClampNeg < nI jb - 7 + nI i then some (nI (i + pe - 8)) else ((f_X6_isPending (nI id) (nI jb - 7 + nI i) M).bind (fun r => (if r = 0 then (f_X6_pending_12 n (nI id) (nI (i + pe - 8)) (nI jb - 7 + nI i + 1) M) else (f_X6_pending_12 n (nI id) (nI (i + pe - 8) + 1) (nI jb - 7 + nI i + 1) M)))))) = _
    rw [if_neg (ob_n (by omega) (by omega)), cl_n (by omega), a1, if_neg hlt, en]
    rcases Nat.lt_or_ge (jb + i) 8 with q | q
    · have hp : f_X6_isPending (nI id) (nI jb - 7 + nI i) M = some 0 := by
        apply ip_0
        rw [Int32.lt_iff_toInt_lt, tI]
        have e : (1 : Int32).toInt = 1 := by decide
        omega
      rw [hp, Option.bind_some, if_pos rfl, show i + pe - 8 = i + 1 + pe - 8 by omega]
      exact ih (i + 1) n (by omega) (by omega)
    · have ej : nI jb - 7 + nI i = nI (jb + i - 7) := by
        apply Int32.toInt_inj.mp
        rw [tI, nI_toInt (by omega)]; omega
      rw [ej, ip_n hid h (by omega) (by omega) (by omega), Option.bind_some]
      by_cases c : jb < jb + i - 7 + pe
      · rw [if_pos c, if_neg (by decide), nI_1, show i + pe - 8 + 1 = i + 1 + pe - 8 by omega]
        exact ih (i + 1) n (by omega) (by omega)
      · rw [if_neg c, if_pos rfl, show i + pe - 8 = i + 1 + pe - 8 by omega]
        exact ih (i + 1) n (by omega) (by omega)
theorem pe_n {M : mk_M} {id jb pe : Nat} (hid : id ≤ 12) (h : pu_jb M id jb pe) : f_X6_pending (nI id) M = some (nI pe) := by
  unfold f_X6_pending
  rw [if_neg (ob_n (by omega) (by omega)), cl_n (by omega), h.1]
  have e := pe_lp hid h 8 0 mk_F (by omega) (mk_F_lt (by omega))
  rw [show 0 + pe - 8 = 0 by have := h.2.2.2.1; omega, nI_0, Int32.add_zero] at e
  exact e
