/-! add: the place, and the line with one more -/
def pu_pc (dl : Nat) (D : Nat → Nat) : Nat → Nat
  | 0 => 0
  | s + 1 => if D s ≤ dl then s + 1 else pu_pc dl D s
theorem pc_le (dl : Nat) (D : Nat → Nat) : ∀ s, pu_pc dl D s ≤ s := by
  intro s
  induction s with
  | zero => exact Nat.le_refl _
  | succ s ih =>
    show (if D s ≤ dl then s + 1 else pu_pc dl D s) ≤ s + 1
    by_cases c : D s ≤ dl
    · rw [if_pos c]; exact Nat.le_refl _
    · rw [if_neg c]; omega
def pu_in (P : Nat → Nat) (c id i : Nat) : Nat := if i < c then P i else if i = c then id else P (i - 1)
theorem pf_lp {M : mk_M} {np dl : Nat} {P D : Nat → Nat} (hnp : np ≤ 12) (hdl : dl ≤ 1000) (hP : ∀ i, i < np → M 4 i = nI (P i) ∧ P i ≤ 12 ∧ M (16 + 4 * P i) 1 = nI (D i) ∧ D i ≤ 1000) : ∀ s n : Nat, s ≤ np → s < n → f_X5_placeFor_10 n (nI dl) (nI s + (-1)) M = some (nI (pu_pc dl D s)) := by
  intro s
  induction s with
  | zero =>
    intro n _ hn
    obtain ⟨n, rfl⟩ : ∃ m, n = m + 1 := ⟨n - 1, by omega⟩
    show (if nI 0 + (-1) < (0 : Int32) then some 0 else _) = _
    rw [if_pos (by rw [m1eq]; exact m1lt)]
    rfl
  | succ s ih =>
    intro n hs hn
    obtain ⟨n, rfl⟩ : ∃ m, n = m + 1 := ⟨n - 1, by omega⟩
    obtain ⟨q1, q2, q3, q4⟩ := hP s (by omega)
    rw [pk_m1]
    show (if nI s < 0 then (some 0) else (if mk_ob (nI s) 12 then none else (if mk_ob (M 4 (nI s).toNatClampNeg) 13 then none else (if nI dl < (M (16 + 4 * (M 4 (nI s).toNatClampNeg).toNatClampNeg) 1) then (f_X5_placeFor_10 n (nI dl) (nI s + (-1)) M) else (some (nI s + 1)))))) = some (nI (if D s ≤ dl then s + 1 else pu_pc dl D s))
    rw [if_neg (nI_pos (by omega)), if_neg (ob_n (show s < 12 by omega) (by decide))]
    simp only [cl_n (show s < 2 ^ 31 by omega), q1]
    rw [if_neg (ob_n (show P s < 13 by omega) (by decide)), cl_n (by omega), q3]
    by_cases c : D s ≤ dl
    · rw [if_neg (nI_nlt c (by omega)), if_pos c, nI_1]
    · rw [if_pos (nI_lt (by omega) (by omega)), if_neg c]
      exact ih n (by omega) (by omega)
theorem rp_lp {B : mk_M} {np dl : Nat} {P D : Nat → Nat} {a1 a2 a4 a5 : Int32} (hnp : np ≤ 12) (hdl : dl ≤ 1000) (h7 : B 68 7 = nI np) (hP : ∀ i, i < np → B 75 i = nI (P i) ∧ P i ≤ 12 ∧ B 72 (P i) = nI (D i) ∧ D i ≤ 1000) : ∀ d i n : Nat, i + d = np → d < n → f_X6_add_97 n a1 a2 (nI dl) a4 a5 (nI (pu_pc dl D i)) (nI i) B = f_X6_add_145 mk_F a1 a2 (nI dl) a4 a5 (nI (pu_pc dl D np)) (nI np) B := by
  intro d
  induction d with
  | zero =>
    intro i n hi hn
    obtain ⟨n, rfl⟩ : ∃ m, n = m + 1 := ⟨n - 1, by omega⟩
    have e : i = np := by omega
    subst e
    show (if (B 68 7) ≤ nI i then (f_X6_add_145 mk_F a1 a2 (nI dl) a4 a5 (nI (pu_pc dl D i)) (B 68 7) B) else _) = _
    rw [h7, if_pos (nI_le (Nat.le_refl _) (by omega))]
  | succ d ih =>
    intro i n hi hn
    obtain ⟨n, rfl⟩ : ∃ m, n = m + 1 := ⟨n - 1, by omega⟩
    obtain ⟨q1, q2, q3, q4⟩ := hP i (by omega)
    rw [← ih (i + 1) n (by omega) (by omega)]
    show (if (B 68 7) ≤ nI i then _ else (if mk_ob (nI i) 13 then none else (if mk_ob (B 75 (nI i).toNatClampNeg) 13 then none else (if nI dl < (B 72 (B 75 (nI i).toNatClampNeg).toNatClampNeg) then (f_X6_add_97 n a1 a2 (nI dl) a4 a5 (nI (pu_pc dl D i)) (nI i + 1) B) else (f_X6_add_97 n a1 a2 (nI dl) a4 a5 (nI i + 1) (nI i + 1) B))))) = f_X6_add_97 n a1 a2 (nI dl) a4 a5 (nI (if D i ≤ dl then i + 1 else pu_pc dl D i)) (nI (i + 1)) B
    rw [h7, if_neg (nI_ge (by omega) (by omega)), if_neg (ob_n (show i < 13 by omega) (by decide))]
    simp only [cl_n (show i < 2 ^ 31 by omega), q1]
    rw [if_neg (ob_n (show P i < 13 by omega) (by decide)), cl_n (by omega), q3, nI_1]
    by_cases c : D i ≤ dl
    · rw [if_neg (nI_nlt c (by omega)), if_pos c]
    · rw [if_pos (nI_lt (by omega) (by omega)), if_neg c]
/-- the row when all is moved up -/
theorem in_end {P : Nat → Nat} {np c id : Nat} {R : Nat → Int32} (h1 : ∀ j, j < c → R j = nI (P j)) (h2 : ∀ j, c < j → j ≤ np → R j = nI (P (j - 1))) : ∀ j, j ≤ np → (fun j => if j = c then nI id else R j) j = nI (pu_in P c id j) := by
  intro j hj
  show (if j = c then nI id else R j) = nI (if j < c then P j else if j = c then id else P (j - 1))
  by_cases e : j = c
  · rw [if_pos e, if_neg (by omega), if_pos e]
  · rw [if_neg e]
    by_cases l : j < c
    · rw [if_pos l]; exact h1 j l
    · rw [if_neg l, if_neg e]; exact h2 j (by omega) hj
theorem in_step {P : Nat → Nat} {np s : Nat} {R : Nat → Int32} (h1 : ∀ j, j < s + 1 → R j = nI (P j)) (h2 : ∀ j, s + 1 < j → j ≤ np → R j = nI (P (j - 1))) : (∀ j, j < s → (fun j => if j = s + 1 then R s else R j) j = nI (P j)) ∧ (∀ j, s < j → j ≤ np → (fun j => if j = s + 1 then R s else R j) j = nI (P (j - 1))) := by
  refine ⟨fun j hj => ?_, fun j hj hn => ?_⟩
  · show (if j = s + 1 then R s else R j) = _
    rw [if_neg (by omega)]; exact h1 j (by omega)
  · show (if j = s + 1 then R s else R j) = _
    by_cases e : j = s + 1
    · rw [if_pos e, e, show s + 1 - 1 = s by omega]; exact h1 s (by omega)
    · rw [if_neg e]; exact h2 j (by omega) hn
theorem is_lp {M : mk_M} {x np c id : Nat} {P : Nat → Nat} (hnp : np < 12) (hx : M x 1 = nI np) : ∀ d s n : Nat, ∀ R : Nat → Int32, c + d = s → s ≤ np → d < n → (∀ j, j < s → R j = nI (P j)) → (∀ j, s < j → j ≤ np → R j = nI (P (j - 1))) →
    ∃ R' : Nat → Int32, f_X1_insert_27 x n (nI c) (nI id) (nI s) (mk_sr M (x + 1) R) = some (mk_st (mk_sr M (x + 1) R') x 1 (nI (np + 1))) ∧ ∀ j, j ≤ np → R' j = nI (pu_in P c id j) := by
  intro d
  induction d with
  | zero =>
    intro s n R hs hs2 hn h1 h2
    obtain ⟨n, rfl⟩ : ∃ m, n = m + 1 := ⟨n - 1, by omega⟩
    have e : c = s := by omega
    subst e
    refine ⟨fun j => if j = c then nI id else R j, ?_, in_end h1 h2⟩
    show (if nI c ≤ nI c then (if mk_ob (nI c) 12 then none else (some (mk_st (mk_st (mk_sr M (x + 1) R) (x+1) (nI c).toNatClampNeg (nI id)) x 1 (((mk_st (mk_sr M (x + 1) R) (x+1) (nI c).toNatClampNeg (nI id)) x 1) + 1)))) else _) = _
    rw [if_pos (nI_le (Nat.le_refl _) (by omega)), if_neg (ob_n (show c < 12 by omega) (by decide)), cl_n (by omega), mk_sr_st, mk_sr_off _ _ _ (show x ≠ x + 1 by omega), hx, nI_1]
  | succ d ih =>
    intro s n R hs hs2 hn h1 h2
    obtain ⟨n, rfl⟩ : ∃ m, n = m + 1 := ⟨n - 1, by omega⟩
    obtain ⟨s, rfl⟩ : ∃ m, s = m + 1 := ⟨s - 1, by omega⟩
    obtain ⟨g1, g2⟩ := in_step h1 h2
    obtain ⟨R', e1, e2⟩ := ih s n (fun j => if j = s + 1 then R s else R j) (by omega) (by omega) (by omega) g1 g2
    refine ⟨R', ?_, e2⟩
    rw [← e1]
    show (if nI (s + 1) ≤ nI c then _ else (if mk_ob (nI (s + 1) - 1) 12 then none else (if mk_ob (nI (s + 1)) 12 then none else (f_X1_insert_27 x n (nI c) (nI id) (nI (s + 1) + (-1)) (mk_st (mk_sr M (x + 1) R) (x+1) (nI (s + 1)).toNatClampNeg ((mk_sr M (x + 1) R) (x+1) (nI (s + 1) - 1).toNatClampNeg)))))) = _
    have em : nI (s + 1) - 1 = nI s := by rw [show (1 : Int32) = nI 1 from rfl, pk_sub (by omega)]; rfl
    rw [if_neg (nI_ge (by omega) (by omega)), em, if_neg (ob_n (show s < 12 by omega) (by decide)), if_neg (ob_n (show s + 1 < 12 by omega) (by decide)), pk_m1, cl_n (by omega), cl_n (by omega), mk_sr_row, mk_sr_st]
/-- what the reference does behind its look at the plan -/
def ad_t (l1 : Int32) (r_18 : Int32 × mk_M) : Option (Int32 × mk_M) := (if r_18.1 = 0 then (if mk_ob l1 13 then none else (if mk_ob l1 13 then none else (if mk_ob l1 13 then none else (if mk_ob l1 13 then none else (if mk_ob l1 13 then none else (if mk_ob l1 13 then none else (if mk_ob l1 13 then none else (some (0, mk_st (mk_st (mk_st (mk_st (mk_st (mk_st (mk_st r_18.2 69 (l1).toNatClampNeg (vp_nar .boolean 1)) 70 (l1).toNatClampNeg (vp_nar .boolean 0)) 78 (l1).toNatClampNeg 0) 79 (l1).toNatClampNeg 0) 80 (l1).toNatClampNeg 0) 81 (l1).toNatClampNeg 0) 82 (l1).toNatClampNeg 0))))))))) else (if r_18.1 ≤ 0 then ((f_X6_takeOut l1 r_18.2).bind (fun r_29 => (some (r_18.1, r_29)))) else ((f_X6_noteWitness r_18.1 r_18.2).bind (fun r_31 => ((f_X6_takeOut l1 r_31).bind (fun r_33 => (some (r_18.1, r_33))))))))
theorem rs_lp {B : mk_M} {np c id : Nat} {P : Nat → Nat} {a2 a3 a4 a5 : Int32} (hnp : np < 12) (hid : id ≤ 12) (h7 : B 68 7 = nI np) : ∀ d s n : Nat, ∀ R : Nat → Int32, c + d = s → s ≤ np → d < n → (∀ j, j < s → R j = nI (P j)) → (∀ j, s < j → j ≤ np → R j = nI (P (j - 1))) →
    ∃ R' : Nat → Int32, f_X6_add_145 n (nI id) a2 a3 a4 a5 (nI c) (nI s) (mk_sr B 75 R) = (f_X6_unfit (mk_st (mk_st (mk_st (mk_st (mk_st (mk_sr B 75 R') 68 7 (nI (np + 1))) 71 id a2) 72 id a3) 73 id a4) 74 id a5)).bind (ad_t (nI id)) ∧ ∀ j, j ≤ np → R' j = nI (pu_in P c id j) := by
  intro d
  induction d with
  | zero =>
    intro s n R hs hs2 hn h1 h2
    obtain ⟨n, rfl⟩ : ∃ m, n = m + 1 := ⟨n - 1, by omega⟩
    have e : c = s := by omega
    subst e
    refine ⟨fun j => if j = c then nI id else R j, ?_, in_end h1 h2⟩
    have ho := ob_n (show id < 13 by omega) (by decide)
    show (if nI c ≤ nI c then (if mk_ob (nI c) 13 then none else (if mk_ob (nI id) 13 then none else (if mk_ob (nI id) 13 then none else (if mk_ob (nI id) 13 then none else (if mk_ob (nI id) 13 then none else ((f_X6_unfit (mk_st (mk_st (mk_st (mk_st (mk_st (mk_st (mk_sr B 75 R) 75 (nI c).toNatClampNeg (nI id)) 68 7 (((mk_st (mk_sr B 75 R) 75 (nI c).toNatClampNeg (nI id)) 68 7) + 1)) 71 (nI id).toNatClampNeg a2) 72 (nI id).toNatClampNeg a3) 73 (nI id).toNatClampNeg a4) 74 (nI id).toNatClampNeg a5)).bind (ad_t (nI id)))))))) else _) = _
    rw [if_pos (nI_le (Nat.le_refl _) (by omega)), if_neg (ob_n (show c < 13 by omega) (by decide)), if_neg ho, if_neg ho, if_neg ho, if_neg ho, cl_n (show c < 2 ^ 31 by omega), cl_n (show id < 2 ^ 31 by omega), mk_sr_st, mk_sr_off _ _ _ (show (68 : Nat) ≠ 75 by decide), h7, nI_1]
  | succ d ih =>
    intro s n R hs hs2 hn h1 h2
    obtain ⟨n, rfl⟩ : ∃ m, n = m + 1 := ⟨n - 1, by omega⟩
    obtain ⟨s, rfl⟩ : ∃ m, s = m + 1 := ⟨s - 1, by omega⟩
    obtain ⟨g1, g2⟩ := in_step h1 h2
    obtain ⟨R', e1, e2⟩ := ih s n (fun j => if j = s + 1 then R s else R j) (by omega) (by omega) (by omega) g1 g2
    refine ⟨R', ?_, e2⟩
    rw [← e1]
    show (if nI (s + 1) ≤ nI c then _ else (if mk_ob (nI (s + 1) - 1) 13 then none else (if mk_ob (nI (s + 1)) 13 then none else (f_X6_add_145 n (nI id) a2 a3 a4 a5 (nI c) (nI (s + 1) + (-1)) (mk_st (mk_sr B 75 R) 75 (nI (s + 1)).toNatClampNeg ((mk_sr B 75 R) 75 (nI (s + 1) - 1).toNatClampNeg)))))) = _
    have em : nI (s + 1) - 1 = nI s := by rw [show (1 : Int32) = nI 1 from rfl, pk_sub (by omega)]; rfl
    rw [if_neg (nI_ge (by omega) (by omega)), em, if_neg (ob_n (show s < 13 by omega) (by decide)), if_neg (ob_n (show s + 1 < 13 by omega) (by decide)), pk_m1, cl_n (by omega), cl_n (by omega), mk_sr_row, mk_sr_st]
