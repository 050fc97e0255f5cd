/-! THE PURE PART: the invariant. The class's places (0 to 67) and the reference's (68 to 92) tell the same. -/
def pu_kn (P : Nat → Nat) (np id : Nat) : Prop := ∃ i, i < np ∧ P i = id
def pu_sum (f : Nat → Nat) : Nat → Nat
  | 0 => 0
  | k + 1 => pu_sum f k + f k
def pu_ce (r p : Nat) : Nat := (r + p - 1) / p
def pu_v (M : mk_M) (x id : Nat) : Nat := (M x id).toNatClampNeg
/-- what a task at place k of the plan needs of r ticks, its own low budget and all ahead of it -/
def pu_lo (M : mk_M) (P : Nat → Nat) (k r : Nat) : Nat := pu_v M 73 (P k) + pu_sum (fun i => pu_ce r (pu_v M 71 (P i)) * pu_v M 73 (P i)) k
/-- what is fixed of its bound, by its low response r -/
def pu_fx (M : mk_M) (P : Nat → Nat) (k r : Nat) : Nat := pu_v M 74 (P k) + pu_sum (fun i => if pu_v M 74 (P i) = 0 then pu_ce r (pu_v M 71 (P i)) * pu_v M 73 (P i) else 0) k
def pu_hi (M : mk_M) (P : Nat → Nat) (k r b : Nat) : Nat := pu_fx M P k r + pu_sum (fun i => pu_ce b (pu_v M 71 (P i)) * pu_v M 74 (P i)) k
/-- the low response of the task at place k is r -/
def pu_lr (M : mk_M) (P : Nat → Nat) (k r : Nat) : Prop := 1 ≤ r ∧ r ≤ pu_v M 72 (P k) ∧ pu_lo M P k r ≤ r ∧ ∀ q, 1 ≤ q → q < r → q < pu_lo M P k q
/-- its bound is b -/
def pu_bd (M : mk_M) (P : Nat → Nat) (k r b : Nat) : Prop := 1 ≤ b ∧ b ≤ pu_v M 72 (P k) ∧ pu_hi M P k r b ≤ b ∧ ∀ q, 1 ≤ q → q < b → q < pu_hi M P k r q
def pu_ok (M : mk_M) (P : Nat → Nat) (k : Nat) : Prop := ∃ r, pu_lr M P k r ∧ (0 < pu_v M 74 (P k) → ∃ b, pu_bd M P k r b)
/-- a known task -/
def pu_tk (n : Nat) (M : mk_M) (id : Nat) : Prop := ∃ per dl lo hi jb pe : Nat,
  (M (16 + 4 * id) 0 = nI per ∧ M 71 id = nI per ∧ 1 ≤ per ∧ per ≤ 1000) ∧
  (M (16 + 4 * id) 1 = nI dl ∧ M 72 id = nI dl ∧ 1 ≤ dl ∧ dl ≤ per) ∧
  (M (16 + 4 * id) 2 = nI lo ∧ M 73 id = nI lo ∧ 1 ≤ lo ∧ lo ≤ 100) ∧
  (M (16 + 4 * id) 3 = nI hi ∧ M 74 id = nI hi ∧ (hi = 0 ∨ (lo ≤ hi ∧ hi ≤ 200))) ∧
  (M (16 + 4 * id) 4 = M 70 id ∧ (M 70 id = 0 ∨ M 70 id = 1)) ∧
  (M (16 + 4 * id) 5 = nI jb ∧ M 78 id = nI jb ∧ jb ≤ n) ∧
  (M (16 + 4 * id) 6 = M 79 id ∧ M (16 + 4 * id) 7 = M 80 id ∧ M (16 + 4 * id) 8 = M 81 id) ∧
  (M (16 + 4 * id) 9 = nI pe ∧ pe ≤ 4 ∧ pe ≤ jb) ∧
  (∀ j, 1 ≤ j → j ≤ jb → jb < j + 8 → M (16 + 4 * id + 1) (j % 8) = M 84 (8 * id + j % 8) ∧ M (16 + 4 * id + 2) (j % 8) = M 83 (8 * id + j % 8) ∧ M (16 + 4 * id + 3) (j % 8) = M 86 (8 * id + j % 8) ∧ (M 86 (8 * id + j % 8) = -1 ↔ jb < j + pe) ∧ ∃ dm, M 84 (8 * id + j % 8) = nI dm ∧ 1 ≤ dm ∧ dm ≤ 200) ∧
  (pe = 0 → M (16 + 4 * id) 10 = 0) ∧
  (0 < pe → ∃ cg dm, M (16 + 4 * id) 10 = nI cg ∧ M 85 (8 * id + (jb + 1 - pe) % 8) = nI cg ∧ M 84 (8 * id + (jb + 1 - pe) % 8) = nI dm ∧ cg < dm ∧ dm ≤ 200) ∧
  (∀ j, j ≤ jb → jb + 1 < j + pe → M 85 (8 * id + j % 8) = 0) ∧
  M 82 id = (if jb = 0 then 0 else M 83 (8 * id + jb % 8) + M 71 id)
def pu_J (n : Nat) (M : mk_M) (t np no ch w wd : Nat) (P O : Nat → Nat) : Prop :=
  (M 0 9 = nI t ∧ M 68 21 = nI t ∧ t ≤ 1000 * n ∧ n ≤ 512) ∧
  (M 12 1 = nI t ∧ ∀ i, i < 256 → M 13 i = M 88 i) ∧
  (M 0 8 = M 68 24 ∧ (M 68 24 = 0 ∨ M 68 24 = 1)) ∧
  (M 0 10 = M 68 22 ∧ M 0 11 = M 68 23 ∧ M 0 12 = M 68 26) ∧
  (M 14 1 = nI ch ∧ M 68 25 = nI ch ∧ ch ≤ t ∧ ∀ i, i < 8 → M 15 i = M 87 i) ∧
  (M 3 1 = nI np ∧ M 68 7 = nI np ∧ np ≤ 12 ∧ ∀ i, i < np → M 4 i = nI (P i) ∧ M 75 i = nI (P i) ∧ 1 ≤ P i ∧ P i ≤ 12) ∧
  (∀ i j, i < np → j < np → P i = P j → i = j) ∧
  (M 5 1 = nI no ∧ M 68 9 = nI no ∧ no ≤ 12 ∧ ∀ i, i < no → M 6 i = nI (O i) ∧ M 76 i = nI (O i) ∧ pu_kn P np (O i)) ∧
  (∀ i j, i < no → j < no → O i = O j → i = j) ∧
  (∀ id, 1 ≤ id → id ≤ 12 → (pu_kn P np id → M 69 id = 1 ∧ pu_tk n M id) ∧ (¬ pu_kn P np id → M 69 id = 0 ∧ M (16 + 4 * id) 9 = 0)) ∧
  (M 9 2 = nI w ∧ M 68 29 = nI w ∧ w ≤ 12 ∧ M 9 3 = nI wd ∧ M 68 32 = nI wd ∧ wd ≤ 1000 ∧ ∀ i, i < w → M 10 i = M 89 i ∧ ∃ per, M 11 i = nI per ∧ M 90 i = nI per ∧ 1 ≤ per ∧ per ≤ 1000) ∧
  (∀ k, k < np → pu_ok M P k)
def pu_I (n : Nat) (M : mk_M) : Prop := ∃ (t np no ch w wd : Nat) (P O : Nat → Nat), pu_J n M t np no ch w wd P O
/-- M' tells what M tells, but in what only one call uses -/
def pu_ag (M M' : mk_M) : Prop := (∀ x, x ≠ 7 → x ≠ 8 → x ≠ 68 → x ≠ 77 → x ≠ 91 → x ≠ 92 → M' x = M x) ∧ ∀ k, k ≠ 0 → M' 68 k = M 68 k
theorem pu_ag.rf (M : mk_M) : pu_ag M M := ⟨fun _ _ _ _ _ _ _ => rfl, fun _ _ => rfl⟩
theorem pu_ag.tr {M M1 M2 : mk_M} (h : pu_ag M M1) (h2 : pu_ag M1 M2) : pu_ag M M2 := ⟨fun x a b c d e f => (h2.1 x a b c d e f).trans (h.1 x a b c d e f), fun k hk => (h2.2 k hk).trans (h.2 k hk)⟩
theorem pu_ag.th (M : mk_M) (v : Int32) : pu_ag M (mk_st M 68 0 v) := ⟨fun x _ _ h _ _ _ => mk_st_off M 68 0 v h, fun k hk => mk_st_ne M 68 0 v (fun h => hk h.2)⟩
theorem pu_tk_up {n n' : Nat} {M M' : mk_M} {id : Nat} (hn : n ≤ n') (h0 : M' (16 + 4 * id) = M (16 + 4 * id)) (h1 : M' (16 + 4 * id + 1) = M (16 + 4 * id + 1)) (h2 : M' (16 + 4 * id + 2) = M (16 + 4 * id + 2)) (h3 : M' (16 + 4 * id + 3) = M (16 + 4 * id + 3))
    (h70 : M' 70 = M 70) (h71 : M' 71 = M 71) (h72 : M' 72 = M 72) (h73 : M' 73 = M 73) (h74 : M' 74 = M 74) (h78 : M' 78 = M 78) (h79 : M' 79 = M 79) (h80 : M' 80 = M 80) (h81 : M' 81 = M 81) (h82 : M' 82 = M 82) (h83 : M' 83 = M 83) (h84 : M' 84 = M 84) (h85 : M' 85 = M 85) (h86 : M' 86 = M 86) (h : pu_tk n M id) : pu_tk n' M' id := by
  obtain ⟨per, dl, lo, hi, jb, pe, a1, a2, a3, a4, a5, a6, a7, a8, a9, a10, a11, a12, a13⟩ := h
  unfold pu_tk
  simp only [h0, h1, h2, h3, h70, h71, h72, h73, h74, h78, h79, h80, h81, h82, h83, h84, h85, h86]
  exact ⟨per, dl, lo, hi, jb, pe, a1, a2, a3, a4, a5, ⟨a6.1, a6.2.1, Nat.le_trans a6.2.2 hn⟩, a7, a8, a9, a10, a11, a12, a13⟩
theorem pu_ok_same {M M' : mk_M} {P : Nat → Nat} {k : Nat} (h71 : M' 71 = M 71) (h72 : M' 72 = M 72) (h73 : M' 73 = M 73) (h74 : M' 74 = M 74) (h : pu_ok M P k) : pu_ok M' P k := by
  unfold pu_ok pu_lr pu_bd pu_hi pu_fx pu_lo pu_v at h ⊢
  simp only [h71, h72, h73, h74]
  exact h
theorem pu_J.up {n n' : Nat} {M M' : mk_M} {t np no ch w wd : Nat} {P O : Nat → Nat} (hn : n ≤ n') (hn5 : n' ≤ 512) (ha : pu_ag M M') (h : pu_J n M t np no ch w wd P O) : pu_J n' M' t np no ch w wd P O := by
  obtain ⟨a1, a2, a3, a4, a5, a6, a7, a8, a9, a10, a11, a12⟩ := h
  have r : ∀ x, x ≠ 7 → x ≠ 8 → x ≠ 68 → x ≠ 77 → x ≠ 91 → x ≠ 92 → M' x = M x := ha.1
  have s := ha.2
  unfold pu_J
  simp only [r 0 (by decide) (by decide) (by decide) (by decide) (by decide) (by decide), r 12 (by decide) (by decide) (by decide) (by decide) (by decide) (by decide), r 13 (by decide) (by decide) (by decide) (by decide) (by decide) (by decide), r 88 (by decide) (by decide) (by decide) (by decide) (by decide) (by decide), r 14 (by decide) (by decide) (by decide) (by decide) (by decide) (by decide), r 15 (by decide) (by decide) (by decide) (by decide) (by decide) (by decide), r 87 (by decide) (by decide) (by decide) (by decide) (by decide) (by decide), r 3 (by decide) (by decide) (by decide) (by decide) (by decide) (by decide), r 4 (by decide) (by decide) (by decide) (by decide) (by decide) (by decide), r 75 (by decide) (by decide) (by decide) (by decide) (by decide) (by decide), r 5 (by decide) (by decide) (by decide) (by decide) (by decide) (by decide), r 6 (by decide) (by decide) (by decide) (by decide) (by decide) (by decide), r 76 (by decide) (by decide) (by decide) (by decide) (by decide) (by decide), r 69 (by decide) (by decide) (by decide) (by decide) (by decide) (by decide), r 9 (by decide) (by decide) (by decide) (by decide) (by decide) (by decide), r 10 (by decide) (by decide) (by decide) (by decide) (by decide) (by decide), r 11 (by decide) (by decide) (by decide) (by decide) (by decide) (by decide), r 89 (by decide) (by decide) (by decide) (by decide) (by decide) (by decide), r 90 (by decide) (by decide) (by decide) (by decide) (by decide) (by decide), s 21 (by decide), s 24 (by decide), s 22 (by decide), s 23 (by decide), s 26 (by decide), s 25 (by decide), s 7 (by decide), s 9 (by decide), s 29 (by decide), s 32 (by decide)]
  refine ⟨⟨a1.1, a1.2.1, Nat.le_trans a1.2.2.1 (Nat.mul_le_mul_left 1000 hn), hn5⟩, a2, a3, a4, a5, a6, a7, a8, a9, ?_, a11, ?_⟩
  · intro id h1 h2
    have h := a10 id h1 h2
    refine ⟨fun hk => ⟨(h.1 hk).1, ?_⟩, fun hk => ⟨(h.2 hk).1, ?_⟩⟩
    · exact pu_tk_up hn (r _ (by omega) (by omega) (by omega) (by omega) (by omega) (by omega)) (r _ (by omega) (by omega) (by omega) (by omega) (by omega) (by omega)) (r _ (by omega) (by omega) (by omega) (by omega) (by omega) (by omega)) (r _ (by omega) (by omega) (by omega) (by omega) (by omega) (by omega)) (r _ (by decide) (by decide) (by decide) (by decide) (by decide) (by decide)) (r _ (by decide) (by decide) (by decide) (by decide) (by decide) (by decide)) (r _ (by decide) (by decide) (by decide) (by decide) (by decide) (by decide)) (r _ (by decide) (by decide) (by decide) (by decide) (by decide) (by decide)) (r _ (by decide) (by decide) (by decide) (by decide) (by decide) (by decide)) (r _ (by decide) (by decide) (by decide) (by decide) (by decide) (by decide)) (r _ (by decide) (by decide) (by decide) (by decide) (by decide) (by decide)) (r _ (by decide) (by decide) (by decide) (by decide) (by decide) (by decide)) (r _ (by decide) (by decide) (by decide) (by decide) (by decide) (by decide)) (r _ (by decide) (by decide) (by decide) (by decide) (by decide) (by decide)) (r _ (by decide) (by decide) (by decide) (by decide) (by decide) (by decide)) (r _ (by decide) (by decide) (by decide) (by decide) (by decide) (by decide)) (r _ (by decide) (by decide) (by decide) (by decide) (by decide) (by decide)) (r _ (by decide) (by decide) (by decide) (by decide) (by decide) (by decide)) (h.1 hk).2
    · rw [r (16 + 4 * id) (by omega) (by omega) (by omega) (by omega) (by omega) (by omega)]; exact (h.2 hk).2
  · intro k hk
    exact pu_ok_same (r _ (by decide) (by decide) (by decide) (by decide) (by decide) (by decide)) (r _ (by decide) (by decide) (by decide) (by decide) (by decide) (by decide)) (r _ (by decide) (by decide) (by decide) (by decide) (by decide) (by decide)) (r _ (by decide) (by decide) (by decide) (by decide) (by decide) (by decide)) (a12 k hk)
theorem pu_I.up {n n' : Nat} {M M' : mk_M} (hn : n ≤ n') (hn5 : n' ≤ 512) (ha : pu_ag M M') (h : pu_I n M) : pu_I n' M' := by
  obtain ⟨t, np, no, ch, w, wd, P, O, h⟩ := h
  exact ⟨t, np, no, ch, w, wd, P, O, h.up hn hn5 ha⟩
theorem pu_start : pu_I 0 mk_M0 := by
  refine ⟨0, 0, 0, 0, 0, 0, fun _ => 0, fun _ => 0, ⟨rfl, rfl, by decide, by decide⟩, ⟨rfl, fun _ _ => rfl⟩, ⟨rfl, Or.inl rfl⟩, ⟨rfl, rfl, rfl⟩, ⟨rfl, rfl, by decide, fun _ _ => rfl⟩, ⟨rfl, rfl, by decide, fun i h => absurd h (by omega)⟩, fun i j h => absurd h (by omega), ⟨rfl, rfl, by decide, fun i h => absurd h (by omega)⟩, fun i j h => absurd h (by omega), fun id h1 h2 => ⟨fun hk => ?_, fun _ => ⟨rfl, ?_⟩⟩, ⟨rfl, rfl, by decide, rfl, rfl, by decide, fun i h => absurd h (by omega)⟩, fun k h => absurd h (by omega)⟩
  · obtain ⟨i, hi, -⟩ := hk
    omega
  · have e : (16 + 4 * id) % 4 = 0 ∧ 16 ≤ 16 + 4 * id ∧ 16 + 4 * id < 68 := by omega
    simp only [mk_M0, if_pos e]
    rfl
/-! small rows on numbers -/
theorem ob_n {i n : Nat} (h : i < n) (hn : n < 2 ^ 31) : ¬ mk_ob (nI i) n := nI_in h hn
theorem cl_n {i : Nat} (h : i < 2 ^ 31) : (nI i).toNatClampNeg = i := nI_clamp h
theorem fm_n (M : mk_M) {a d : Nat} (ha : a < 2 ^ 31) (h0 : 0 < d) (hd : d < 2 ^ 31) : f_J9_floorMod_7cf53 (nI a) (nI d) M = some (nI (a % d)) := by
  unfold f_J9_floorMod_7cf53
  rw [if_neg (nI_ne0 h0 hd)]
  have hx : 0 ≤ (nI a ^^^ nI d) := by
    rw [Int32.le_iff_toInt_le, Int32.toInt_zero]
    have h3 : a ^^^ d < 2 ^ 31 := Nat.xor_lt_two_pow ha hd
    have h2 : (nI a ^^^ nI d).toInt = (nI (a ^^^ d)).toInt := by
      show (BitVec.ofNat 32 a ^^^ BitVec.ofNat 32 d).toInt = (BitVec.ofNat 32 (a ^^^ d)).toInt
      rw [BitVec.ofNat_xor]
    rw [h2, nI_toInt h3]
    omega
  rw [if_pos hx, pk_rem ha h0 hd]
theorem go_t (M : mk_M) (a3 : Int32) {a1 a2 : Int32} : f_X6_goes a1 a2 a3 M = some (if a1 = 0 then (0, mk_st M 68 0 1) else if a2 = 0 then (0, mk_st M 68 0 2) else if a3 = 0 then (0, mk_st M 68 0 3) else (1, mk_st M 68 0 0)) := by
  unfold f_X6_goes
  simp only [mk_st_same]
  by_cases h1 : a1 = 0
  · rw [if_pos h1, if_pos h1]; rfl
  · rw [if_neg h1, if_neg h1]
    by_cases h2 : a2 = 0
    · rw [if_pos h2, if_pos h2]; rfl
    · rw [if_neg h2, if_neg h2]
      by_cases h3 : a3 = 0
      · rw [if_pos h3, if_pos h3]; rfl
      · rw [if_neg h3, if_neg h3]; rfl
