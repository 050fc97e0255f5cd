/-! giving up -/
def pu_it (c : Nat → Bool) (L : Nat × (Nat → Nat)) : Nat → Nat × (Nat → Nat)
  | 0 => L
  | i + 1 => if c (i + 1) = true then pu_dr (i + 1) (pu_it c L i) else pu_it c L i
theorem it_ij {c : Nat → Bool} {L : Nat × (Nat → Nat)} (h : pu_ij L) : ∀ i, pu_ij (pu_it c L i)
  | 0 => h
  | i + 1 => by
    unfold pu_it
    split
    · exact dr_ij (it_ij h i)
    · exact it_ij h i
theorem it_le {c : Nat → Bool} {L : Nat × (Nat → Nat)} : ∀ i, (pu_it c L i).1 ≤ L.1
  | 0 => Nat.le_refl _
  | i + 1 => by
    unfold pu_it
    split
    · exact Nat.le_trans (dr_le _ _) (it_le i)
    · exact it_le i
theorem it_in {c : Nat → Bool} {L : Nat × (Nat → Nat)} (h : ∀ i, i < L.1 → 1 ≤ L.2 i ∧ L.2 i ≤ 12) : ∀ m, ∀ i, i < (pu_it c L m).1 → 1 ≤ (pu_it c L m).2 i ∧ (pu_it c L m).2 i ≤ 12
  | 0 => h
  | m + 1 => by
    unfold pu_it
    split
    · exact dr_in (it_in h m)
    · exact it_in h m
theorem it_kn {c : Nat → Bool} {L : Nat × (Nat → Nat)} (h : pu_ij L) (j : Nat) : ∀ i, pu_kn (pu_it c L i).2 (pu_it c L i).1 j ↔ pu_kn L.2 L.1 j ∧ ¬ (1 ≤ j ∧ j ≤ i ∧ c j = true)
  | 0 => ⟨fun q => ⟨q, fun z => by omega⟩, fun q => q.1⟩
  | i + 1 => by
    unfold pu_it
    split
    · rename_i e
      rw [dr_kn (it_ij h i), it_kn h j i]
      constructor
      · intro ⟨⟨q1, q2⟩, q3⟩
        exact ⟨q1, fun ⟨z1, z2, z3⟩ => q2 ⟨z1, by omega, z3⟩⟩
      · intro ⟨q1, q2⟩
        exact ⟨⟨q1, fun ⟨z1, z2, z3⟩ => q2 ⟨z1, by omega, z3⟩⟩, fun z => q2 ⟨by omega, by omega, by rw [z]; exact e⟩⟩
    · rename_i e
      rw [it_kn h j i]
      constructor
      · intro ⟨q1, q2⟩
        exact ⟨q1, fun ⟨z1, z2, z3⟩ => q2 ⟨z1, by
          rcases Nat.lt_or_ge i j with y | y
          · have : j = i + 1 := by omega
            rw [this] at z3; exact absurd z3 e
          · exact y, z3⟩⟩
      · intro ⟨q1, q2⟩
        exact ⟨q1, fun ⟨z1, z2, z3⟩ => q2 ⟨z1, by omega, z3⟩⟩
theorem it_ok {M : mk_M} {c : Nat → Bool} {L : Nat × (Nat → Nat)} (h : ∀ k, k < L.1 → pu_ok M L.2 k) : ∀ i, ∀ k, k < (pu_it c L i).1 → pu_ok M (pu_it c L i).2 k
  | 0 => h
  | i + 1 => by
    unfold pu_it
    split
    · exact pu_ok_dr (it_ok h i)
    · exact it_ok h i
theorem gu_lp {A : mk_M} {x jb pe : Nat} (h5 : 0 < pe → A x 5 = nI jb ∧ pe ≤ jb ∧ jb ≤ 512) (hp8 : pe ≤ 8) : ∀ d k n : Nat, ∀ R : Nat → Int32, k + d = pe → d < n → (∀ j, 1 ≤ j → j ≤ jb → jb < j + 8 → R (j % 8) = if jb < j + k then -2 else A (x + 3) (j % 8)) →
    ∃ R' : Nat → Int32, f_X3_giveUpPending_7 x n (nI pe) (nI k) (mk_sr A (x + 3) R) = some (nI pe, mk_st (mk_st (mk_sr A (x + 3) R') x 9 0) x 10 0) ∧ ∀ j, 1 ≤ j → j ≤ jb → jb < j + 8 → R' (j % 8) = if jb < j + pe then -2 else A (x + 3) (j % 8) := by
  intro d
  induction d with
  | zero =>
    intro k n R hk hn h
    obtain ⟨n, rfl⟩ : ∃ m, n = m + 1 := ⟨n - 1, by omega⟩
    have e : k = pe := by omega
    subst e
    refine ⟨R, ?_, h⟩
    show (if nI k ≤ nI k then some (nI k, _) else _) = _
    rw [if_pos (nI_le (Nat.le_refl _) (by omega))]
  | succ d ih =>
    intro k n R hk hn h
    obtain ⟨n, rfl⟩ : ∃ m, n = m + 1 := ⟨n - 1, by omega⟩
    obtain ⟨q1, q2, q3⟩ := h5 (by omega)
    have hm : (jb - k) % 8 < 8 := Nat.mod_lt _ (by decide)
    obtain ⟨R', e1, e2⟩ := ih (k + 1) n (fun j => if j = (jb - k) % 8 then -2 else R j) (by omega) (by omega) (fun j j1 j2 j3 => by
      show (if j % 8 = (jb - k) % 8 then -2 else R (j % 8)) = _
      by_cases c : j = jb - k
      · rw [if_pos (by rw [c]), if_pos (by omega)]
      · rw [if_neg (by omega), h j j1 j2 j3]
        by_cases c2 : jb < j + k
        · rw [if_pos c2, if_pos (by omega)]
        · rw [if_neg c2, if_neg (by omega)])
    refine ⟨R', ?_, e2⟩
    rw [← e1]
    show (if nI pe ≤ nI k then _ else ((f_X5_slotOf ((mk_sr A (x + 3) R x 5) - nI k) (mk_sr A (x + 3) R)).bind (fun r_3 => (if mk_ob r_3 8 then none else (f_X3_giveUpPending_7 x n (nI pe) (nI k + 1) (mk_st (mk_sr A (x + 3) R) (x + 3) (r_3).toNatClampNeg (-2))))))) = _
    rw [if_neg (nI_ge (by omega) (by omega)), mk_sr_off _ _ _ (by omega), q1, pk_sub (by omega), sl_n _ (by omega), Option.bind_some, if_neg (ob_n hm (by decide)), cl_n (by omega), mk_sr_st, nI_1]
theorem gu_n {A : mk_M} {x jb pe : Nat} (h9 : A x 9 = nI pe) (h5 : 0 < pe → A x 5 = nI jb ∧ pe ≤ jb ∧ jb ≤ 512) (hp8 : pe ≤ 8) : ∃ R' : Nat → Int32, f_X3_giveUpPending x A = some (nI pe, mk_st (mk_st (mk_sr A (x + 3) R') x 9 0) x 10 0) ∧ ∀ j, 1 ≤ j → j ≤ jb → jb < j + 8 → R' (j % 8) = if jb < j + pe then -2 else A (x + 3) (j % 8) := by
  obtain ⟨R', e1, e2⟩ := gu_lp (A := A) (x := x) (jb := jb) (pe := pe) h5 hp8 pe 0 mk_F (A (x + 3)) (by omega) (mk_F_lt (by omega)) (fun j _ _ _ => by rw [if_neg (by omega)])
  rw [mk_sr_id] at e1
  refine ⟨R', ?_, e2⟩
  unfold f_X3_giveUpPending
  rw [h9]; exact e1
/-- the class gives a task's jobs up -/
theorem bh_one {A : mk_M} {id jb pe : Nat} {LP LO : Nat × (Nat → Nat)} (i1 : 1 ≤ id) (i2 : id ≤ 12) (h9 : A (16 + 4 * id) 9 = nI pe) (h5 : 0 < pe → A (16 + 4 * id) 5 = nI jb ∧ pe ≤ jb ∧ jb ≤ 512) (hp8 : pe ≤ 8) (l3 : pu_ln A 3 LP) (l5 : pu_ln A 5 LO) :
    ∃ A' : mk_M, ((f_X3_giveUpPending (16 + 4 * id) A).bind (fun r_14 => f_X5_forgetIfLeft (nI id) (mk_st r_14.2 0 12 ((A 0 12) + r_14.1)))) = some A' ∧ (∀ y, y ≠ 0 → y ≠ 3 → y ≠ 4 → y ≠ 5 → y ≠ 6 → y ≠ 16 + 4 * id → y ≠ 16 + 4 * id + 3 → A' y = A y) ∧ (∀ k, k ≠ 12 → A' 0 k = A 0 k) ∧ A' 0 12 = A 0 12 + nI pe ∧ (∀ k, k ≠ 9 → k ≠ 10 → A' (16 + 4 * id) k = A (16 + 4 * id) k) ∧ A' (16 + 4 * id) 9 = 0 ∧ A' (16 + 4 * id) 10 = 0 ∧ (∀ j, 1 ≤ j → j ≤ jb → jb < j + 8 → A' (16 + 4 * id + 3) (j % 8) = if jb < j + pe then -2 else A (16 + 4 * id + 3) (j % 8)) ∧ pu_ln A' 3 (if A (16 + 4 * id) 4 = 0 then LP else pu_dr id LP) ∧ pu_ln A' 5 (if A (16 + 4 * id) 4 = 0 then LO else pu_dr id LO) := by
  have ho : ¬ mk_ob (nI id) 13 := ob_n (by omega) (by omega)
  have ec : (nI id).toNatClampNeg = id := cl_n (by omega)
  obtain ⟨R, g1, g2⟩ := gu_n h9 h5 hp8
  rw [g1, Option.bind_some]
  dsimp only
  by_cases c : A (16 + 4 * id) 4 = 0
  · rw [if_pos c, if_pos c]
    refine ⟨mk_st (mk_st (mk_st (mk_sr A (16 + 4 * id + 3) R) (16 + 4 * id) 9 0) (16 + 4 * id) 10 0) 0 12 (A 0 12 + nI pe), ?_, ?_, ?_, ?_, ?_, ?_, ?_, ?_, ?_, ?_⟩
    · unfold f_X5_forgetIfLeft
      rw [if_neg ho]
      simp only [if_neg ho, ec]
      rw [if_pos (by simp (disch := omega) only [mk_st_ne, mk_sr_off]; exact c)]
    · intro y h0 h3 h4 h5 h6 hx hx3
      simp (disch := omega) only [mk_st_off, mk_sr_off]
    · intro k hk
      simp (disch := omega) only [mk_st_ne, mk_sr_off]
    · simp (disch := omega) only [mk_st_same]
    · intro k k9 k10
      simp (disch := omega) only [mk_st_ne, mk_sr_off]
    · simp (disch := omega) only [mk_st_same, mk_st_ne]
    · simp (disch := omega) only [mk_st_same, mk_st_ne]
    · intro j j1 j2 j3
      simp (disch := omega) only [mk_st_off, mk_sr_row]
      exact g2 j j1 j2 j3
    · exact ⟨by simp (disch := omega) only [mk_st_ne, mk_sr_off]; exact l3.1, l3.2.1, fun i hi => by simp (disch := omega) only [mk_st_off, mk_sr_off]; exact l3.2.2 i hi⟩
    · exact ⟨by simp (disch := omega) only [mk_st_ne, mk_sr_off]; exact l5.1, l5.2.1, fun i hi => by simp (disch := omega) only [mk_st_off, mk_sr_off]; exact l5.2.2 i hi⟩
  · rw [if_neg c, if_neg c]
    obtain ⟨R3, R5, f1, f2, f3⟩ := fg_n (M := mk_st (mk_st (mk_st (mk_sr A (16 + 4 * id + 3) R) (16 + 4 * id) 9 0) (16 + 4 * id) 10 0) 0 12 (A 0 12 + nI pe)) (id := id) (LP := LP) (LO := LO) i2 (by simp (disch := omega) only [mk_st_ne, mk_sr_off]; exact c) (by simp (disch := omega) only [mk_st_same, mk_st_ne])
      ⟨by simp (disch := omega) only [mk_st_ne, mk_sr_off]; exact l3.1, l3.2.1, fun i hi => by simp (disch := omega) only [mk_st_off, mk_sr_off]; exact l3.2.2 i hi⟩
      ⟨by simp (disch := omega) only [mk_st_ne, mk_sr_off]; exact l5.1, l5.2.1, fun i hi => by simp (disch := omega) only [mk_st_off, mk_sr_off]; exact l5.2.2 i hi⟩
    refine ⟨_, f1, ?_, ?_, ?_, ?_, ?_, ?_, ?_, ?_, ?_⟩
    · intro y h0 h3 h4 h5 h6 hx hx3
      simp (disch := omega) only [mk_st_off, mk_sr_off]
    · intro k hk
      simp (disch := omega) only [mk_st_ne, mk_st_off, mk_sr_off]
    · simp (disch := omega) only [mk_st_same, mk_st_ne, mk_st_off, mk_sr_off]
    · intro k k9 k10
      simp (disch := omega) only [mk_st_ne, mk_sr_off]
    · simp (disch := omega) only [mk_st_same, mk_st_ne, mk_sr_off]
    · simp (disch := omega) only [mk_st_same, mk_st_ne, mk_sr_off]
    · intro j j1 j2 j3
      simp (disch := omega) only [mk_st_off, mk_sr_row, mk_sr_off]
      exact g2 j j1 j2 j3
    · exact ⟨by simp (disch := omega) only [mk_st_same, mk_st_ne, mk_sr_off], Nat.le_trans (dr_le _ _) l3.2.1, fun i hi => by simp (disch := omega) only [mk_st_off, mk_sr_off, mk_sr_row]; exact ⟨f2 i hi, dr_in (fun i hi => (l3.2.2 i hi).2) i hi⟩⟩
    · exact ⟨by simp (disch := omega) only [mk_st_same, mk_st_ne, mk_sr_off], Nat.le_trans (dr_le _ _) l5.2.1, fun i hi => by simp (disch := omega) only [mk_st_off, mk_sr_off, mk_sr_row]; exact ⟨f3 i hi, dr_in (fun i hi => (l5.2.2 i hi).2) i hi⟩⟩
/-- what the class's loop has done after task i -/
def pu_ci (A A' : mk_M) (jv pv : Nat → Nat) (c : Nat → Bool) (LP LO : Nat × (Nat → Nat)) (i : Nat) : Prop :=
  (∀ y, y ≠ 0 → y ≠ 3 → y ≠ 4 → y ≠ 5 → y ≠ 6 → y < 16 ∨ 68 ≤ y → A' y = A y) ∧
  (∀ k, k ≠ 12 → A' 0 k = A 0 k) ∧ A' 0 12 = A 0 12 + nI (pu_sum (fun j => if A (16 + 4 * (j + 1)) 3 ≤ 0 then pv (j + 1) else 0) i) ∧
  pu_ln A' 3 (pu_it c LP i) ∧ pu_ln A' 5 (pu_it c LO i) ∧
  (∀ id, 1 ≤ id → id ≤ 12 → (i < id ∨ ¬ A (16 + 4 * id) 3 ≤ 0) → A' (16 + 4 * id) = A (16 + 4 * id) ∧ A' (16 + 4 * id + 1) = A (16 + 4 * id + 1) ∧ A' (16 + 4 * id + 2) = A (16 + 4 * id + 2) ∧ A' (16 + 4 * id + 3) = A (16 + 4 * id + 3)) ∧
  (∀ id, 1 ≤ id → id ≤ i → A (16 + 4 * id) 3 ≤ 0 → (∀ k, k ≠ 9 → k ≠ 10 → A' (16 + 4 * id) k = A (16 + 4 * id) k) ∧ A' (16 + 4 * id) 9 = 0 ∧ A' (16 + 4 * id) 10 = 0 ∧ A' (16 + 4 * id + 1) = A (16 + 4 * id + 1) ∧ A' (16 + 4 * id + 2) = A (16 + 4 * id + 2) ∧ ∀ j, 1 ≤ j → j ≤ jv id → jv id < j + 8 → A' (16 + 4 * id + 3) (j % 8) = if jv id < j + pv id then -2 else A (16 + 4 * id + 3) (j % 8))
theorem bh_lp {A : mk_M} {jv pv : Nat → Nat} {c : Nat → Bool} {LP LO : Nat × (Nat → Nat)} (i3 : pu_ij LP) (i5 : pu_ij LO) (hA : ∀ id, 1 ≤ id → id ≤ 12 → A (16 + 4 * id) 9 = nI (pv id) ∧ pv id ≤ 8 ∧ (0 < pv id → A (16 + 4 * id) 5 = nI (jv id) ∧ pv id ≤ jv id ∧ jv id ≤ 512))
    (hc1 : ∀ id, 1 ≤ id → id ≤ 12 → A (16 + 4 * id) 3 ≤ 0 → ¬ A (16 + 4 * id) 4 = 0 → c id = true ∨ (¬ pu_kn LP.2 LP.1 id ∧ ¬ pu_kn LO.2 LO.1 id)) (hc2 : ∀ id, 1 ≤ id → id ≤ 12 → c id = true → A (16 + 4 * id) 3 ≤ 0 ∧ ¬ A (16 + 4 * id) 4 = 0) :
    ∀ d i n : Nat, ∀ A' : mk_M, i + d = 12 → d < n → pu_ci A A' jv pv c LP LO i → ∃ A2 : mk_M, f_X5_becomeHigh_18 n (nI (i + 1)) A' = some A2 ∧ pu_ci A A2 jv pv c LP LO 12 := by
  intro d
  induction d with
  | zero =>
    intro i n A' hi hn h
    obtain ⟨n, rfl⟩ : ∃ m, n = m + 1 := ⟨n - 1, by omega⟩
    have e : i = 12 := by omega
    subst e
    refine ⟨A', ?_, h⟩
    show (if (12 : Int32) < nI 13 then some A' else _) = _
    rw [if_pos (by decide)]
  | succ d ih =>
    intro i n A' hi hn h
    obtain ⟨n, rfl⟩ : ∃ m, n = m + 1 := ⟨n - 1, by omega⟩
    obtain ⟨h1, h2, h3, h4, h5, h6, h7⟩ := h
    have ho : ¬ mk_ob (nI (i + 1)) 13 := ob_n (by omega) (by omega)
    have ec : (nI (i + 1)).toNatClampNeg = i + 1 := cl_n (by omega)
    obtain ⟨r0, r1, r2, r3⟩ := h6 (i + 1) (by omega) (by omega) (Or.inl (by omega))
    obtain ⟨p1, p2, p3⟩ := hA (i + 1) (by omega) (by omega)
    have e : f_X5_becomeHigh_18 (n + 1) (nI (i + 1)) A' = (if A (16 + 4 * (i + 1)) 3 ≤ 0 then ((f_X3_giveUpPending (16 + 4 * (i + 1)) A').bind (fun r_14 => ((f_X5_forgetIfLeft (nI (i + 1)) (mk_st r_14.2 0 12 ((A' 0 12) + r_14.1))).bind (fun r_16 => (f_X5_becomeHigh_18 n (nI (i + 2)) r_16))))) else (f_X5_becomeHigh_18 n (nI (i + 2)) A')) := by
      show (if (12 : Int32) < nI (i + 1) then _ else (if mk_ob (nI (i + 1)) 13 then none else ((f_X3_isHigh (16 + 4 * (nI (i + 1)).toNatClampNeg) A').bind (fun r_8 => (if r_8 = 0 then (if mk_ob (nI (i + 1)) 13 then none else ((f_X3_giveUpPending (16 + 4 * (nI (i + 1)).toNatClampNeg) A').bind (fun r_14 => ((f_X5_forgetIfLeft (nI (i + 1)) (mk_st r_14.2 0 12 ((A' 0 12) + r_14.1))).bind (fun r_16 => (f_X5_becomeHigh_18 n (nI (i + 1) + 1) r_16)))))) else (f_X5_becomeHigh_18 n (nI (i + 1) + 1) A')))))) = _
      rw [if_neg (show ¬ (12 : Int32) < nI (i + 1) from nI_nlt (a := 12) (b := i + 1) (by omega) (by decide)), if_neg ho]
      simp only [if_neg ho, ec, nI_1]
      unfold f_X3_isHigh
      rw [r0]
      by_cases q : A (16 + 4 * (i + 1)) 3 ≤ 0
      · rw [if_pos q, if_pos q, Option.bind_some, if_pos rfl]
      · rw [if_neg q, if_neg q, Option.bind_some, if_neg n1_0]
    rw [e]
    by_cases q : A (16 + 4 * (i + 1)) 3 ≤ 0
    · rw [if_pos q]
      obtain ⟨A2, g0, g1, g2, g3, g4, g5, g6, g7, g8, g9⟩ := bh_one (A := A') (id := i + 1) (jb := jv (i + 1)) (pe := pv (i + 1)) (by omega) (by omega) (by rw [r0]; exact p1) (by rw [r0]; exact p3) p2 h4 h5
      have hb : ∀ (o : Option (Int32 × mk_M)) (F : Int32 × mk_M → Option mk_M) (K : mk_M → Option mk_M), (o.bind (fun r => (F r).bind K)) = (o.bind F).bind K := by
        intro o F K
        cases o <;> rfl
      rw [hb _ (fun r_14 => f_X5_forgetIfLeft (nI (i + 1)) (mk_st r_14.2 0 12 ((A' 0 12) + r_14.1))), g0, Option.bind_some]
      refine ih (i + 1) n A2 (by omega) (by omega) ⟨?_, ?_, ?_, ?_, ?_, ?_, ?_⟩
      · intro y y0 y3 y4 y5 y6 hy
        rw [g1 y y0 y3 y4 y5 y6 (by omega) (by omega), h1 y y0 y3 y4 y5 y6 hy]
      · intro k hk
        rw [g2 k hk, h2 k hk]
      · rw [g3, h3]
        show _ = A 0 12 + nI (pu_sum _ i + if A (16 + 4 * (i + 1)) 3 ≤ 0 then pv (i + 1) else 0)
        rw [if_pos q, ← nI_add, Int32.add_assoc]
      · show pu_ln A2 3 (if c (i + 1) = true then pu_dr (i + 1) (pu_it c LP i) else pu_it c LP i)
        rw [r0] at g8
        by_cases l : A (16 + 4 * (i + 1)) 4 = 0
        · rw [if_pos l] at g8
          rw [if_neg (fun z => (hc2 (i + 1) (by omega) (by omega) z).2 l)]
          exact g8
        · rw [if_neg l] at g8
          rcases hc1 (i + 1) (by omega) (by omega) q l with z | z
          · rw [if_pos z]; exact g8
          · rw [dr_no (fun y => z.1 ((it_kn i3 (i + 1) i).mp y).1)] at g8
            split
            · rw [dr_no (fun y => z.1 ((it_kn i3 (i + 1) i).mp y).1)]; exact g8
            · exact g8
      · show pu_ln A2 5 (if c (i + 1) = true then pu_dr (i + 1) (pu_it c LO i) else pu_it c LO i)
        rw [r0] at g9
        by_cases l : A (16 + 4 * (i + 1)) 4 = 0
        · rw [if_pos l] at g9
          rw [if_neg (fun z => (hc2 (i + 1) (by omega) (by omega) z).2 l)]
          exact g9
        · rw [if_neg l] at g9
          rcases hc1 (i + 1) (by omega) (by omega) q l with z | z
          · rw [if_pos z]; exact g9
          · rw [dr_no (fun y => z.2 ((it_kn i5 (i + 1) i).mp y).1)] at g9
            split
            · rw [dr_no (fun y => z.2 ((it_kn i5 (i + 1) i).mp y).1)]; exact g9
            · exact g9
      · intro id j1 j2 j3
        have hne : id ≠ i + 1 := by
          intro z
          rcases j3 with j3 | j3
          · omega
          · rw [z] at j3; exact j3 q
        obtain ⟨s0, s1, s2, s3⟩ := h6 id j1 j2 (by rcases j3 with j3 | j3; exact Or.inl (by omega); exact Or.inr j3)
        refine ⟨?_, ?_, ?_, ?_⟩
        · rw [g1 _ (by omega) (by omega) (by omega) (by omega) (by omega) (by omega) (by omega)]; exact s0
        · rw [g1 _ (by omega) (by omega) (by omega) (by omega) (by omega) (by omega) (by omega)]; exact s1
        · rw [g1 _ (by omega) (by omega) (by omega) (by omega) (by omega) (by omega) (by omega)]; exact s2
        · rw [g1 _ (by omega) (by omega) (by omega) (by omega) (by omega) (by omega) (by omega)]; exact s3
      · intro id j1 j2 j3
        by_cases z : id = i + 1
        · subst z
          refine ⟨fun k k9 k10 => by rw [g4 k k9 k10, r0], g5, g6, ?_, ?_, fun j z1 z2 z3 => by rw [g7 j z1 z2 z3, r3]⟩
          · rw [g1 _ (by omega) (by omega) (by omega) (by omega) (by omega) (by omega) (by omega)]; exact r1
          · rw [g1 _ (by omega) (by omega) (by omega) (by omega) (by omega) (by omega) (by omega)]; exact r2
        · obtain ⟨s0, s1, s2, s3, s4, s5⟩ := h7 id j1 (by omega) j3
          refine ⟨?_, ?_, ?_, ?_, ?_, ?_⟩
          · intro k k9 k10
            rw [g1 _ (by omega) (by omega) (by omega) (by omega) (by omega) (by omega) (by omega)]; exact s0 k k9 k10
          · rw [g1 _ (by omega) (by omega) (by omega) (by omega) (by omega) (by omega) (by omega)]; exact s1
          · rw [g1 _ (by omega) (by omega) (by omega) (by omega) (by omega) (by omega) (by omega)]; exact s2
          · rw [g1 _ (by omega) (by omega) (by omega) (by omega) (by omega) (by omega) (by omega)]; exact s3
          · rw [g1 _ (by omega) (by omega) (by omega) (by omega) (by omega) (by omega) (by omega)]; exact s4
          · intro j z1 z2 z3
            rw [g1 _ (by omega) (by omega) (by omega) (by omega) (by omega) (by omega) (by omega)]; exact s5 j z1 z2 z3
    · rw [if_neg q]
      have cf : ¬ c (i + 1) = true := fun z => q (hc2 (i + 1) (by omega) (by omega) z).1
      refine ih (i + 1) n A' (by omega) (by omega) ⟨h1, h2, ?_, ?_, ?_, ?_, ?_⟩
      · rw [h3]
        show _ = A 0 12 + nI (pu_sum _ i + if A (16 + 4 * (i + 1)) 3 ≤ 0 then pv (i + 1) else 0)
        rw [if_neg q, Nat.add_zero]
      · show pu_ln A' 3 (if c (i + 1) = true then pu_dr (i + 1) (pu_it c LP i) else pu_it c LP i)
        rw [if_neg cf]; exact h4
      · show pu_ln A' 5 (if c (i + 1) = true then pu_dr (i + 1) (pu_it c LO i) else pu_it c LO i)
        rw [if_neg cf]; exact h5
      · intro id j1 j2 j3
        exact h6 id j1 j2 (by rcases j3 with j3 | j3; exact Or.inl (by omega); exact Or.inr j3)
      · intro id j1 j2 j3
        by_cases z : id = i + 1
        · rw [z] at j3; exact absurd j3 q
        · exact h7 id j1 (by omega) j3
