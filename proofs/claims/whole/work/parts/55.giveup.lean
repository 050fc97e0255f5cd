/-! the reference gives up -/
theorem ip_1 {B : mk_M} {id jb j : Nat} (hid : id ≤ 12) (h78 : B 78 id = nI jb) (hjb : jb ≤ 512) (h1 : 1 ≤ j) (h2 : j ≤ jb) (h3 : jb < j + 8) : f_X6_isPending (nI id) (nI j) B = some (if B 86 (8 * id + j % 8) = -1 then 1 else 0) := by
  unfold f_X6_isPending
  have e8 : ¬ nI j ≤ nI jb - 8 := by
    rw [Int32.le_iff_toInt_le, nI_toInt (by omega), show (8 : Int32) = nI 8 from rfl, pk_sub_toInt (by omega) (by omega)]
    omega
  have ho : ¬ mk_ob (nI id) 13 := ob_n (by omega) (by omega)
  rw [if_neg (show ¬ nI j < (1 : Int32) from nI_nlt h1 (by omega)), if_neg ho, if_neg ho]
  simp only [cl_n (show id < 2 ^ 31 by omega), h78]
  rw [if_neg (nI_nlt h2 (by omega)), if_neg e8, at_n B hid (by omega), Option.bind_some, if_neg (ob_n (by omega) (by omega)), cl_n (by omega)]
  by_cases c : B 86 (8 * id + j % 8) = -1
  · rw [if_pos c, if_pos c]
  · rw [if_neg c, if_neg c]
theorem st_nf (B : mk_M) (R : Nat → Int32) (v u z : Int32) (r : Nat) : mk_st (mk_st (mk_st (mk_sr B 86 R) 68 26 v) 86 r u) 68 26 z = mk_st (mk_sr B 86 (fun j => if j = r then u else R j)) 68 26 z := by
  funext a b
  by_cases h : a = 86
  · subst h
    simp (disch := omega) only [mk_st_off, mk_sr_row]
    by_cases q : b = r
    · subst q
      rw [mk_st_same, if_pos rfl]
    · rw [mk_st_ne _ _ _ _ (by omega), if_neg q, mk_st_off _ _ _ _ (by decide), mk_sr_row]
  · by_cases q : a = 68 ∧ b = 26
    · obtain ⟨rfl, rfl⟩ := q
      rw [mk_st_same, mk_st_same]
    · rw [mk_st_ne _ _ _ _ q, mk_st_ne _ _ _ _ (by omega), mk_st_ne _ _ _ _ q, mk_st_ne _ _ _ _ q, mk_sr_off _ _ _ h, mk_sr_off _ _ _ h]
/-- one task's pending jobs are given up -/
theorem gi_lp {B : mk_M} {id jb pe : Nat} {K : Int32 → mk_M → Option mk_M} (hid : id ≤ 12) (h : pu_jb B id jb pe) (h69 : ¬ B 69 id = 0) (h74 : B 74 id = 0) : ∀ d i n : Nat, ∀ R : Nat → Int32, i + d = 8 → d < n → (∀ j, 1 ≤ j → j ≤ jb → jb < j + 8 → R (8 * id + j % 8) = if jb < j + pe ∧ j + 7 < jb + i then -2 else B 86 (8 * id + j % 8)) → (∀ q, q < 8 * id ∨ 8 * id + 8 ≤ q → R q = B 86 q) →
    ∃ R' : Nat → Int32, f_X6_giveUp_18 K n (nI id) (nI jb - 7 + nI i) (mk_st (mk_sr B 86 R) 68 26 (B 68 26 + nI (i + pe - 8))) = K (nI (id + 1)) (mk_st (mk_sr B 86 R') 68 26 (B 68 26 + nI pe)) ∧ (∀ j, 1 ≤ j → j ≤ jb → jb < j + 8 → R' (8 * id + j % 8) = if jb < j + pe then -2 else B 86 (8 * id + j % 8)) ∧ (∀ q, q < 8 * id ∨ 8 * id + 8 ≤ q → R' q = B 86 q) := by
  intro d
  have h' := h
  obtain ⟨a1, a2, a3, a5, a4⟩ := h'
  have ho : ¬ mk_ob (nI id) 13 := ob_n (by omega) (by omega)
  have ec : (nI id).toNatClampNeg = id := cl_n (by omega)
  induction d with
  | zero =>
    intro i n R hi hn h1 h2
    obtain ⟨n, rfl⟩ : ∃ m, n = m + 1 := ⟨n - 1, by omega⟩
    have hi : i = 8 := by omega
    subst hi
    refine ⟨R, ?_, fun j j1 j2 j3 => ?_, h2⟩
    · show (if mk_ob (nI id) 13 then none else (if (mk_st (mk_sr B 86 R) 68 26 (B 68 26 + nI (8 + pe - 8))) 78 (nI id).toNatClampNeg < nI jb - 7 + nI 8 then K (nI id + 1) _ else _)) = _
      rw [if_neg ho]
      simp (disch := omega) only [ec, mk_st_ne, mk_sr_off, a1]
      rw [if_pos, nI_1, show 8 + pe - 8 = pe by omega]
      rw [Int32.lt_iff_toInt_lt, jj_n (by omega) (by omega), nI_toInt (by omega)]
      omega
    · rw [h1 j j1 j2 j3]
      by_cases c : jb < j + pe
      · rw [if_pos ⟨c, by omega⟩, if_pos c]
      · rw [if_neg (fun z => c z.1), if_neg c]
  | succ d ih =>
    intro i n R hi hn h1 h2
    obtain ⟨n, rfl⟩ : ∃ m, n = m + 1 := ⟨n - 1, by omega⟩
    have en : nI jb - 7 + nI i + 1 = nI jb - 7 + nI (i + 1) := by rw [← nI_1, Int32.add_assoc]
    have tI := jj_n (jb := jb) (i := i) (by omega) (by omega)
    have hlt : ¬ nI jb < nI jb - 7 + nI i := by
      rw [Int32.lt_iff_toInt_lt, tI, nI_toInt (by omega)]; omega
    generalize hB' : mk_st (mk_sr B 86 R) 68 26 (B 68 26 + nI (i + pe - 8)) = B'
    have b78 : B' 78 id = nI jb := by rw [← hB']; simp (disch := omega) only [mk_st_ne, mk_sr_off]; exact a1
    have b69 : ¬ B' 69 id = 0 := by rw [← hB']; simp (disch := omega) only [mk_st_ne, mk_sr_off]; exact h69
    have b74 : B' 74 id = 0 := by rw [← hB']; simp (disch := omega) only [mk_st_ne, mk_sr_off]; exact h74
    have b86 : ∀ q, B' 86 q = R q := fun q => by rw [← hB']; simp (disch := omega) only [mk_st_ne, mk_sr_row]
    have b26 : B' 68 26 = B 68 26 + nI (i + pe - 8) := by rw [← hB', mk_st_same]
    have e1 : f_X6_giveUp_18 K (n + 1) (nI id) (nI jb - 7 + nI i) B' = ((f_X6_isPending (nI id) (nI jb - 7 + nI i) B').bind (fun r_15 => (if r_15 = 0 then (f_X6_giveUp_18 K n (nI id) (nI jb - 7 + nI (i + 1)) B') else ((f_X6_at (nI id) (nI jb - 7 + nI i) B').bind (fun r_18 => (if mk_ob r_18 104 then none else (f_X6_giveUp_18 K n (nI id) (nI jb - 7 + nI (i + 1)) (mk_st (mk_st B' 86 (r_18).toNatClampNeg (-2)) 68 26 (((mk_st B' 86 (r_18).toNatClampNeg (-2)) 68 26) + 1)))))))) ) := by
      show (if mk_ob (nI id) 13 then none else (if B' 78 (nI id).toNatClampNeg < nI jb - 7 + nI i then _ else (if mk_ob (nI id) 13 then none else (if (B' 69 (nI id).toNatClampNeg) = 0 then _ else (if mk_ob (nI id) 13 then none else (if (B' 74 (nI id).toNatClampNeg) = 0 then ((f_X6_isPending (nI id) (nI jb - 7 + nI i) B').bind (fun r_15 => (if r_15 = 0 then (f_X6_giveUp_18 K n (nI id) (nI jb - 7 + nI i + 1) B') else ((f_X6_at (nI id) (nI jb - 7 + nI i) B').bind (fun r_18 => (if mk_ob r_18 104 then none else (f_X6_giveUp_18 K n (nI id) (nI jb - 7 + nI i + 1) (mk_st (mk_st B' 86 (r_18).toNatClampNeg (-2)) 68 26 (((mk_st B' 86 (r_18).toNatClampNeg (-2)) 68 26) + 1))))))))) else _)))))) = _
      rw [if_neg ho]
      simp only [if_neg ho, ec, b78, en]
      rw [if_neg hlt, if_neg b69, if_pos b74]
    rw [e1]
    rcases Nat.lt_or_ge (jb + i) 8 with q | q
    · have hp : f_X6_isPending (nI id) (nI jb - 7 + nI i) B' = some 0 := by
        apply ip_0
        rw [Int32.lt_iff_toInt_lt, tI]
        have e : (1 : Int32).toInt = 1 := by decide
        omega
      rw [hp, Option.bind_some, if_pos rfl, ← hB', show i + pe - 8 = i + 1 + pe - 8 by omega]
      exact ih (i + 1) n R (by omega) (by omega) (fun j j1 j2 j3 => by
        rw [h1 j j1 j2 j3]
        by_cases c : jb < j + pe ∧ j + 7 < jb + i
        · rw [if_pos c, if_pos ⟨c.1, by omega⟩]
        · rw [if_neg c, if_neg (fun z => c ⟨z.1, by omega⟩)]) h2
    · have ej : nI jb - 7 + nI i = nI (jb + i - 7) := by
        apply Int32.toInt_inj.mp
        rw [tI, nI_toInt (by omega)]; omega
      have v : B' 86 (8 * id + (jb + i - 7) % 8) = B 86 (8 * id + (jb + i - 7) % 8) := by
        rw [b86, h1 (jb + i - 7) (by omega) (by omega) (by omega), if_neg (by omega)]
      rw [ej, ip_1 hid b78 a2 (by omega) (by omega) (by omega), Option.bind_some, v]
      by_cases c : jb < jb + i - 7 + pe
      · rw [if_pos ((a4 (jb + i - 7) (by omega) (by omega) (by omega)).mpr c), if_neg n1_0, at_n B' hid (by omega), Option.bind_some, if_neg (ob_n (by omega) (by decide)), cl_n (by omega), mk_st_ne _ _ _ _ (show ¬ (68 = 86 ∧ 26 = 8 * id + (jb + i - 7) % 8) by omega), b26, ← hB', st_nf, Int32.add_assoc, nI_1, show i + pe - 8 + 1 = i + 1 + pe - 8 by omega]
        refine ih (i + 1) n _ (by omega) (by omega) (fun j j1 j2 j3 => ?_) (fun q' hq' => ?_)
        · show (if 8 * id + j % 8 = 8 * id + (jb + i - 7) % 8 then -2 else R (8 * id + j % 8)) = _
          by_cases z : j = jb + i - 7
          · rw [if_pos (by rw [z]), if_pos ⟨by omega, by omega⟩]
          · rw [if_neg (by omega), h1 j j1 j2 j3]
            by_cases c2 : jb < j + pe ∧ j + 7 < jb + i
            · rw [if_pos c2, if_pos ⟨c2.1, by omega⟩]
            · rw [if_neg c2, if_neg (fun y => c2 ⟨y.1, by omega⟩)]
        · show (if q' = 8 * id + (jb + i - 7) % 8 then -2 else R q') = _
          rw [if_neg (by omega)]
          exact h2 q' hq'
      · rw [if_neg (fun z => c ((a4 (jb + i - 7) (by omega) (by omega) (by omega)).mp z)), if_pos rfl, ← hB', show i + pe - 8 = i + 1 + pe - 8 by omega]
        exact ih (i + 1) n R (by omega) (by omega) (fun j j1 j2 j3 => by
          rw [h1 j j1 j2 j3]
          by_cases c2 : jb < j + pe ∧ j + 7 < jb + i
          · rw [if_pos c2, if_pos ⟨c2.1, by omega⟩]
          · rw [if_neg c2, if_neg (fun z => c2 ⟨z.1, by omega⟩)]) h2
theorem gi_no {B : mk_M} {id : Nat} {K : Int32 → mk_M → Option mk_M} (hid : id ≤ 12) (h : B 69 id = 0 ∨ ¬ B 74 id = 0) {n : Nat} (hn : 0 < n) (l : Int32) : f_X6_giveUp_18 K n (nI id) l B = K (nI (id + 1)) B := by
  obtain ⟨n, rfl⟩ : ∃ m, n = m + 1 := ⟨n - 1, by omega⟩
  have ho : ¬ mk_ob (nI id) 13 := ob_n (by omega) (by omega)
  have ec : (nI id).toNatClampNeg = id := cl_n (by omega)
  show (if mk_ob (nI id) 13 then none else (if B 78 (nI id).toNatClampNeg < l then K (nI id + 1) B else (if mk_ob (nI id) 13 then none else (if (B 69 (nI id).toNatClampNeg) = 0 then K (nI id + 1) B else (if mk_ob (nI id) 13 then none else (if (B 74 (nI id).toNatClampNeg) = 0 then _ else K (nI id + 1) B)))))) = _
  rw [if_neg ho]
  simp only [if_neg ho, ec, nI_1]
  by_cases c : B 69 id = 0
  · simp only [if_pos c, ite_self]
  · rcases h with h | h
    · exact absurd h c
    · simp only [if_neg c, if_neg h, ite_self]
/-- what its first loop has done after task i -/
def pu_ri (B B' : mk_M) (jv pv : Nat → Nat) (i : Nat) : Prop :=
  (∀ y, y ≠ 68 → y ≠ 86 → B' y = B y) ∧ (∀ k, k ≠ 26 → B' 68 k = B 68 k) ∧ B' 68 26 = B 68 26 + nI (pu_sum (fun j => if ¬ B 69 (j + 1) = 0 ∧ B 74 (j + 1) = 0 then pv (j + 1) else 0) i) ∧
  (∀ id, 1 ≤ id → id ≤ 12 → (i < id ∨ ¬ (¬ B 69 id = 0 ∧ B 74 id = 0)) → ∀ q, q < 8 → B' 86 (8 * id + q) = B 86 (8 * id + q)) ∧
  (∀ id, 1 ≤ id → id ≤ i → ¬ B 69 id = 0 ∧ B 74 id = 0 → ∀ j, 1 ≤ j → j ≤ jv id → jv id < j + 8 → B' 86 (8 * id + j % 8) = if jv id < j + pv id then -2 else B 86 (8 * id + j % 8))
theorem gi_al {B : mk_M} {jv pv : Nat → Nat} (hB : ∀ id, 1 ≤ id → id ≤ 12 → ¬ B 69 id = 0 → pu_jb B id (jv id) (pv id)) :
    ∀ d i n : Nat, ∀ B' : mk_M, i + d = 12 → d < n → pu_ri B B' jv pv i → ∃ B2 : mk_M, f_X6_giveUp_2 n (nI (i + 1)) B' = f_X6_giveUp_91 mk_F 1 B2 ∧ pu_ri B B2 jv pv 12 := by
  intro d
  induction d with
  | zero =>
    intro i n B' hi hn h
    obtain ⟨n, rfl⟩ : ∃ m, n = m + 1 := ⟨n - 1, by omega⟩
    have e : i = 12 := by omega
    subst e
    refine ⟨B', ?_, h⟩
    show (if (13 : Int32) ≤ nI 13 then f_X6_giveUp_91 mk_F 1 B' else _) = _
    rw [if_pos (by decide)]
  | succ d ih =>
    intro i n B' hi hn h
    obtain ⟨n, rfl⟩ : ∃ m, n = m + 1 := ⟨n - 1, by omega⟩
    obtain ⟨h1, h2, h3, h4, h5⟩ := h
    have ho : ¬ mk_ob (nI (i + 1)) 13 := ob_n (by omega) (by omega)
    have ec : (nI (i + 1)).toNatClampNeg = i + 1 := cl_n (by omega)
    have e : f_X6_giveUp_2 (n + 1) (nI (i + 1)) B' = f_X6_giveUp_18 (f_X6_giveUp_2 n) mk_F (nI (i + 1)) ((B' 78 (i + 1)) - 7) B' := by
      show (if (13 : Int32) ≤ nI (i + 1) then _ else (if mk_ob (nI (i + 1)) 13 then none else (f_X6_giveUp_18 (f_X6_giveUp_2 n) mk_F (nI (i + 1)) ((B' 78 (nI (i + 1)).toNatClampNeg) - 7) B'))) = _
      rw [if_neg (show ¬ (13 : Int32) ≤ nI (i + 1) from nI_ge (a := i + 1) (b := 13) (by omega) (by decide)), if_neg ho]
      simp only [ec]
    rw [e]
    by_cases c : ¬ B 69 (i + 1) = 0 ∧ B 74 (i + 1) = 0
    · have hj := hB (i + 1) (by omega) (by omega) c.1
      have hj' : pu_jb B' (i + 1) (jv (i + 1)) (pv (i + 1)) := ⟨by rw [h1 78 (by decide) (by decide)]; exact hj.1, hj.2.1, hj.2.2.1, hj.2.2.2.1, fun j j1 j2 j3 => by
        rw [h4 (i + 1) (by omega) (by omega) (Or.inl (by omega)) (j % 8) (Nat.mod_lt _ (by decide))]; exact hj.2.2.2.2 j j1 j2 j3⟩
      obtain ⟨R, g1, g2, g3⟩ := gi_lp (B := B') (id := i + 1) (K := f_X6_giveUp_2 n) (by omega) hj' (by rw [h1 69 (by decide) (by decide)]; exact c.1) (by rw [h1 74 (by decide) (by decide)]; exact c.2) 8 0 mk_F (B' 86) (by omega) (mk_F_lt (by omega)) (fun j _ _ _ => by rw [if_neg (by omega)]) (fun q _ => rfl)
      rw [mk_sr_id, show 0 + pv (i + 1) - 8 = 0 by have := hj.2.2.2.1; omega, nI_0, Int32.add_zero, Int32.add_zero, mk_st_id _ _ _ rfl, ← hj'.1] at g1
      rw [g1]
      refine ih (i + 1) n _ (by omega) (by omega) ⟨?_, ?_, ?_, ?_, ?_⟩
      · intro y y1 y2
        simp (disch := omega) only [mk_st_off, mk_sr_off]; exact h1 y y1 y2
      · intro k hk
        simp (disch := omega) only [mk_st_ne, mk_sr_off]; exact h2 k hk
      · rw [mk_st_same, h3]
        show _ = B 68 26 + nI (pu_sum _ i + if ¬ B 69 (i + 1) = 0 ∧ B 74 (i + 1) = 0 then pv (i + 1) else 0)
        rw [if_pos c, ← nI_add, Int32.add_assoc]
      · intro id j1 j2 j3 q hq
        have hne : id ≠ i + 1 := by
          intro z
          rcases j3 with j3 | j3
          · omega
          · rw [z] at j3; exact j3 c
        simp (disch := omega) only [mk_st_off, mk_sr_row]
        rw [g3 _ (by omega)]
        exact h4 id j1 j2 (by rcases j3 with j3 | j3; exact Or.inl (by omega); exact Or.inr j3) q hq
      · intro id j1 j2 j3 j z1 z2 z3
        simp (disch := omega) only [mk_st_off, mk_sr_row]
        by_cases z : id = i + 1
        · subst z
          rw [g2 j z1 z2 z3, h4 (i + 1) (by omega) (by omega) (Or.inl (by omega)) (j % 8) (Nat.mod_lt _ (by decide))]
        · have hm : j % 8 < 8 := Nat.mod_lt _ (by decide)
          rw [g3 _ (by omega)]
          exact h5 id j1 (by omega) j3 j z1 z2 z3
    · rw [gi_no (by omega) (by
        rw [h1 69 (by decide) (by decide), h1 74 (by decide) (by decide)]
        by_cases z : B 69 (i + 1) = 0
        · exact Or.inl z
        · exact Or.inr (fun y => c ⟨z, y⟩)) (mk_F_lt (by omega))]
      refine ih (i + 1) n B' (by omega) (by omega) ⟨h1, h2, ?_, ?_, ?_⟩
      · rw [h3]
        show _ = B 68 26 + nI (pu_sum _ i + if ¬ B 69 (i + 1) = 0 ∧ B 74 (i + 1) = 0 then pv (i + 1) else 0)
        rw [if_neg c, Nat.add_zero]
      · intro id j1 j2 j3
        exact h4 id j1 j2 (by rcases j3 with j3 | j3; exact Or.inl (by omega); exact Or.inr j3)
      · intro id j1 j2 j3
        by_cases z : id = i + 1
        · rw [z] at j3; exact absurd j3 c
        · exact h5 id j1 (by omega) j3
/-- what its second loop has done after task i -/
def pu_rj (B B' : mk_M) (c : Nat → Bool) (LP LO : Nat × (Nat → Nat)) (i : Nat) : Prop :=
  (∀ y, y ≠ 68 → y ≠ 69 → y ≠ 75 → y ≠ 76 → B' y = B y) ∧ (∀ k, k ≠ 7 → k ≠ 9 → B' 68 k = B 68 k) ∧
  (B' 68 7 = nI (pu_it c LP i).1 ∧ ∀ j, j < (pu_it c LP i).1 → B' 75 j = nI ((pu_it c LP i).2 j)) ∧
  (B' 68 9 = nI (pu_it c LO i).1 ∧ ∀ j, j < (pu_it c LO i).1 → B' 76 j = nI ((pu_it c LO i).2 j)) ∧
  (∀ id, 1 ≤ id → id ≤ 12 → B' 69 id = if id ≤ i ∧ c id = true then 0 else B 69 id)
theorem gj_al {B : mk_M} {c : Nat → Bool} {LP LO : Nat × (Nat → Nat)} (i3 : pu_ij LP) (i5 : pu_ij LO) (p1 : LP.1 ≤ 12) (o1 : LO.1 ≤ 12) (p2 : ∀ i, i < LP.1 → 1 ≤ LP.2 i ∧ LP.2 i ≤ 12) (o2 : ∀ i, i < LO.1 → 1 ≤ LO.2 i ∧ LO.2 i ≤ 12) (hc : ∀ id, 1 ≤ id → id ≤ 12 → (c id = true ↔ ¬ B 69 id = 0 ∧ B 74 id = 0 ∧ ¬ B 70 id = 0))
    (hp : ∀ id, 1 ≤ id → id ≤ 12 → ¬ B 69 id = 0 → B 74 id = 0 → ∃ jb, pu_jb B id jb 0) :
    ∀ d i n : Nat, ∀ B' : mk_M, i + d = 12 → d < n → pu_rj B B' c LP LO i → ∃ B2 : mk_M, f_X6_giveUp_91 n (nI (i + 1)) B' = some B2 ∧ pu_rj B B2 c LP LO 12 := by
  intro d
  induction d with
  | zero =>
    intro i n B' hi hn h
    obtain ⟨n, rfl⟩ : ∃ m, n = m + 1 := ⟨n - 1, by omega⟩
    have e : i = 12 := by omega
    subst e
    refine ⟨B', ?_, h⟩
    show (if (13 : Int32) ≤ nI 13 then some B' else _) = _
    rw [if_pos (by decide)]
  | succ d ih =>
    intro i n B' hi hn h
    obtain ⟨n, rfl⟩ : ∃ m, n = m + 1 := ⟨n - 1, by omega⟩
    obtain ⟨h1, h2, h3, h4, h5⟩ := h
    have ho : ¬ mk_ob (nI (i + 1)) 13 := ob_n (by omega) (by omega)
    have ec : (nI (i + 1)).toNatClampNeg = i + 1 := cl_n (by omega)
    have e : f_X6_giveUp_91 (n + 1) (nI (i + 1)) B' = (if B 74 (i + 1) = 0 then ((f_X6_leave (nI (i + 1)) B').bind (fun r_6 => (f_X6_giveUp_91 n (nI (i + 2)) r_6))) else (f_X6_giveUp_91 n (nI (i + 2)) B')) := by
      show (if (13 : Int32) ≤ nI (i + 1) then _ else (if mk_ob (nI (i + 1)) 13 then none else (if (B' 74 (nI (i + 1)).toNatClampNeg) = 0 then ((f_X6_leave (nI (i + 1)) B').bind (fun r_6 => (f_X6_giveUp_91 n (nI (i + 1) + 1) r_6))) else (f_X6_giveUp_91 n (nI (i + 1) + 1) B')))) = _
      rw [if_neg (show ¬ (13 : Int32) ≤ nI (i + 1) from nI_ge (a := i + 1) (b := 13) (by omega) (by decide)), if_neg ho]
      simp only [ec, nI_1]
      rw [h1 74 (by decide) (by decide) (by decide) (by decide)]
    rw [e]
    have e69 : B' 69 (i + 1) = B 69 (i + 1) := by rw [h5 (i + 1) (by omega) (by omega), if_neg (by omega)]
    have e70 : B' 70 (i + 1) = B 70 (i + 1) := by rw [h1 70 (by decide) (by decide) (by decide) (by decide)]
    by_cases cc : c (i + 1) = true
    · obtain ⟨c1, c2, c3⟩ := (hc (i + 1) (by omega) (by omega)).mp cc
      rw [if_pos c2]
      obtain ⟨jb, hj⟩ := hp (i + 1) (by omega) (by omega) c1 c2
      have hpe : f_X6_pending (nI (i + 1)) B' = some (nI 0) := pe_n (by omega) ⟨by rw [h1 78 (by decide) (by decide) (by decide) (by decide)]; exact hj.1, hj.2.1, hj.2.2.1, hj.2.2.2.1, by rw [h1 86 (by decide) (by decide) (by decide) (by decide)]; exact hj.2.2.2.2⟩
      obtain ⟨S3, S5, g1, g2, g3⟩ := lv_n (M := B') (id := i + 1) (LP := pu_it c LP i) (LO := pu_it c LO i) (by omega) (by rw [e69]; exact c1) (by rw [e70]; exact c3) hpe h3.1 h4.1 (Nat.le_trans (it_le i) p1) (Nat.le_trans (it_le i) o1) (fun j hj => ⟨h3.2 j hj, (it_in p2 i j hj).2⟩) (fun j hj => ⟨h4.2 j hj, (it_in o2 i j hj).2⟩) (it_ij i3 i) (it_ij i5 i)
      rw [g1, Option.bind_some]
      refine ih (i + 1) n _ (by omega) (by omega) ⟨?_, ?_, ?_, ?_, ?_⟩
      · intro y y1 y2 y3 y4
        simp (disch := omega) only [mk_st_off, mk_sr_off]; exact h1 y y1 y2 y3 y4
      · intro k k1 k2
        simp (disch := omega) only [mk_st_ne, mk_sr_off]; exact h2 k k1 k2
      · have ei : pu_it c LP (i + 1) = pu_dr (i + 1) (pu_it c LP i) := by
          show (if c (i + 1) = true then _ else _) = _
          rw [if_pos cc]
        rw [ei]
        exact ⟨by simp (disch := omega) only [mk_st_same, mk_st_ne, mk_sr_off], fun j hj => by simp (disch := omega) only [mk_st_off, mk_sr_off, mk_sr_row]; exact g2 j hj⟩
      · have ei : pu_it c LO (i + 1) = pu_dr (i + 1) (pu_it c LO i) := by
          show (if c (i + 1) = true then _ else _) = _
          rw [if_pos cc]
        rw [ei]
        exact ⟨by simp (disch := omega) only [mk_st_same, mk_st_ne, mk_sr_off], fun j hj => by simp (disch := omega) only [mk_st_off, mk_sr_off, mk_sr_row]; exact g3 j hj⟩
      · intro id j1 j2
        by_cases z : id = i + 1
        · subst z
          simp (disch := omega) only [mk_st_off, mk_sr_off, mk_st_same]
          rw [if_pos ⟨Nat.le_refl _, cc⟩]
        · simp (disch := omega) only [mk_st_ne, mk_sr_off]
          rw [h5 id j1 j2]
          by_cases y : id ≤ i ∧ c id = true
          · rw [if_pos y, if_pos ⟨by omega, y.2⟩]
          · rw [if_neg y, if_neg (fun x => y ⟨by omega, x.2⟩)]
    · have lv : f_X6_leave (nI (i + 1)) B' = some B' ∨ ¬ B 74 (i + 1) = 0 := by
        by_cases c2 : B 74 (i + 1) = 0
        · left
          unfold f_X6_leave
          rw [if_neg ho]
          simp only [if_neg ho, ec]
          rw [e69, e70]
          by_cases c1 : B 69 (i + 1) = 0
          · rw [if_pos c1]
          · rw [if_neg c1, if_pos]
            exact Classical.byContradiction (fun z => cc ((hc (i + 1) (by omega) (by omega)).mpr ⟨c1, c2, z⟩))
        · exact Or.inr c2
      have st : (if B 74 (i + 1) = 0 then ((f_X6_leave (nI (i + 1)) B').bind (fun r_6 => (f_X6_giveUp_91 n (nI (i + 2)) r_6))) else (f_X6_giveUp_91 n (nI (i + 2)) B')) = f_X6_giveUp_91 n (nI (i + 2)) B' := by
        by_cases c2 : B 74 (i + 1) = 0
        · rw [if_pos c2]
          rcases lv with z | z
          · rw [z]; rfl
          · exact absurd c2 z
        · rw [if_neg c2]
      rw [st]
      refine ih (i + 1) n B' (by omega) (by omega) ⟨h1, h2, ?_, ?_, ?_⟩
      · have ei : pu_it c LP (i + 1) = pu_it c LP i := by
          show (if c (i + 1) = true then _ else _) = _
          rw [if_neg cc]
        rw [ei]; exact h3
      · have ei : pu_it c LO (i + 1) = pu_it c LO i := by
          show (if c (i + 1) = true then _ else _) = _
          rw [if_neg cc]
        rw [ei]; exact h4
      · intro id j1 j2
        rw [h5 id j1 j2]
        by_cases y : id ≤ i ∧ c id = true
        · rw [if_pos y, if_pos ⟨by omega, y.2⟩]
        · rw [if_neg y, if_neg (fun x => y ⟨by
            rcases Nat.lt_or_ge i id with q | q
            · have : id = i + 1 := by omega
              rw [this] at x; exact absurd x.2 cc
            · exact q, x.2⟩)]
