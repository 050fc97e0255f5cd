/-! lines: taking one out, in the class and in the reference -/
theorem mk_st_sr (M : mk_M) (y k : Nat) (v : Int32) : mk_st M y k v = mk_sr M y (fun j => if j = k then v else M y j) := by
  funext a b
  by_cases h : a = y
  · subst h
    rw [mk_sr_row]
    by_cases q : b = k
    · subst q; rw [mk_st_same, if_pos rfl]
    · rw [mk_st_ne _ _ _ _ (fun c => q c.2), if_neg q]
  · rw [mk_sr_off _ _ _ h, mk_st_off _ _ _ _ h]
theorem mk_sr_sr (M : mk_M) (y : Nat) (f g : Nat → Int32) : mk_sr (mk_sr M y f) y g = mk_sr M y g := by
  funext a
  by_cases h : a = y
  · subst h; rw [mk_sr_row, mk_sr_row]
  · rw [mk_sr_off _ _ _ h, mk_sr_off _ _ _ h, mk_sr_off _ _ _ h]
theorem mk_sr_id (M : mk_M) (y : Nat) : mk_sr M y (M y) = M := by
  funext a
  by_cases h : a = y
  · subst h; rw [mk_sr_row]
  · rw [mk_sr_off _ _ _ h]
theorem mk_st_id (M : mk_M) (y k : Nat) {v : Int32} (h : M y k = v) : mk_st M y k v = M := by
  funext a b
  by_cases q : a = y ∧ b = k
  · obtain ⟨rfl, rfl⟩ := q
    rw [mk_st_same, h]
  · rw [mk_st_ne _ _ _ _ q]
theorem mk_sr_st (M : mk_M) (y k : Nat) (v : Int32) (f : Nat → Int32) : mk_st (mk_sr M y f) y k v = mk_sr M y (fun j => if j = k then v else f j) := by
  rw [mk_st_sr, mk_sr_sr]
  simp only [mk_sr_row]
def pu_rm (Q : Nat → Nat) (k i : Nat) : Nat := if i < k then Q i else Q (i + 1)
/-- the first place of a task, or the size -/
def pu_fi (Q : Nat → Nat) (id : Nat) : Nat → Nat
  | 0 => 0
  | s + 1 => if pu_fi Q id s < s then pu_fi Q id s else if Q s = id then s else s + 1
theorem fi_le (Q : Nat → Nat) (id s : Nat) : pu_fi Q id s ≤ s := by
  induction s with
  | zero => exact Nat.le_refl _
  | succ s ih =>
    unfold pu_fi
    split
    · omega
    · split <;> omega
theorem fi_ne (Q : Nat → Nat) (id s : Nat) : ∀ j, j < pu_fi Q id s → Q j ≠ id := by
  induction s with
  | zero => intro j hj; exact absurd hj (by unfold pu_fi; omega)
  | succ s ih =>
    have := fi_le Q id s
    intro j hj
    unfold pu_fi at hj
    split at hj
    · exact ih j hj
    · split at hj
      · exact ih j (by omega)
      · by_cases q : j = s
        · subst q; assumption
        · exact ih j (by omega)
theorem fi_eq (Q : Nat → Nat) (id s : Nat) (h : pu_fi Q id s < s) : Q (pu_fi Q id s) = id := by
  induction s with
  | zero => omega
  | succ s ih =>
    unfold pu_fi at h ⊢
    split at h
    · rename_i q; rw [if_pos q]; exact ih q
    · rename_i q
      rw [if_neg q]
      split at h
      · rename_i c; rw [if_pos c]; exact c
      · omega
theorem fi_kn {Q : Nat → Nat} {id s : Nat} : pu_kn Q s id ↔ pu_fi Q id s < s := by
  constructor
  · intro ⟨i, h1, h2⟩
    rcases Nat.lt_or_ge (pu_fi Q id s) s with q | q
    · exact q
    · exact absurd h2 (fi_ne Q id s i (by omega))
  · intro h
    exact ⟨_, h, fi_eq Q id s h⟩
/-- taking one out -/
def pu_dr (id : Nat) (L : Nat × (Nat → Nat)) : Nat × (Nat → Nat) := if pu_fi L.2 id L.1 < L.1 then (L.1 - 1, pu_rm L.2 (pu_fi L.2 id L.1)) else L
theorem dr_no {id : Nat} {L : Nat × (Nat → Nat)} (h : ¬ pu_kn L.2 L.1 id) : pu_dr id L = L := by
  unfold pu_dr
  rw [if_neg (fun q => h (fi_kn.mpr q))]
theorem dr_yes {id : Nat} {L : Nat × (Nat → Nat)} (h : pu_kn L.2 L.1 id) : pu_dr id L = (L.1 - 1, pu_rm L.2 (pu_fi L.2 id L.1)) := by
  unfold pu_dr
  rw [if_pos (fi_kn.mp h)]
theorem dr_le (id : Nat) (L : Nat × (Nat → Nat)) : (pu_dr id L).1 ≤ L.1 := by
  unfold pu_dr
  split
  · exact Nat.sub_le _ _
  · exact Nat.le_refl _
def pu_ij (L : Nat × (Nat → Nat)) : Prop := ∀ i j, i < L.1 → j < L.1 → L.2 i = L.2 j → i = j
theorem dr_ij {id : Nat} {L : Nat × (Nat → Nat)} (h : pu_ij L) : pu_ij (pu_dr id L) := by
  unfold pu_dr
  split
  · rename_i q
    intro i j hi hj e
    dsimp only at hi hj
    change pu_rm L.2 _ i = pu_rm L.2 _ j at e
    unfold pu_rm at e
    split at e
    · split at e
      · exact h i j (by omega) (by omega) e
      · have := h i (j + 1) (by omega) (by omega) e; omega
    · split at e
      · have := h (i + 1) j (by omega) (by omega) e; omega
      · have := h (i + 1) (j + 1) (by omega) (by omega) e; omega
  · exact h
theorem dr_kn {id : Nat} {L : Nat × (Nat → Nat)} (h : pu_ij L) (j : Nat) : pu_kn (pu_dr id L).2 (pu_dr id L).1 j ↔ pu_kn L.2 L.1 j ∧ j ≠ id := by
  by_cases q : pu_kn L.2 L.1 id
  · have q' := fi_kn.mp q
    have e := fi_eq L.2 id L.1 q'
    rw [dr_yes q]
    constructor
    · intro ⟨i, h1, h2⟩
      dsimp only at h1
      change pu_rm L.2 _ i = j at h2
      unfold pu_rm at h2
      split at h2
      · rename_i c
        exact ⟨⟨i, by omega, h2⟩, fun c2 => fi_ne L.2 id L.1 i c (by rw [h2, c2])⟩
      · rename_i c
        refine ⟨⟨i + 1, by omega, h2⟩, fun c2 => ?_⟩
        have := h (i + 1) (pu_fi L.2 id L.1) (by omega) q' (by rw [h2, c2, e])
        omega
    · intro ⟨⟨i, h1, h2⟩, h3⟩
      have hne : i ≠ pu_fi L.2 id L.1 := fun c => h3 (by rw [← h2, c, e])
      rcases Nat.lt_or_ge i (pu_fi L.2 id L.1) with c | c
      · refine ⟨i, ?_, ?_⟩
        · show i < L.1 - 1; omega
        · show pu_rm L.2 _ i = j; unfold pu_rm; rw [if_pos c]; exact h2
      · refine ⟨i - 1, ?_, ?_⟩
        · show i - 1 < L.1 - 1; omega
        · show pu_rm L.2 _ (i - 1) = j; unfold pu_rm; rw [if_neg (by omega), show i - 1 + 1 = i by omega]; exact h2
  · rw [dr_no q]
    exact ⟨fun c => ⟨c, fun e => q (by rw [← e]; exact c)⟩, fun c => c.1⟩
/-- the class's line -/
def pu_ln (M : mk_M) (x : Nat) (L : Nat × (Nat → Nat)) : Prop := M x 1 = nI L.1 ∧ L.1 ≤ 12 ∧ ∀ i, i < L.1 → M (x + 1) i = nI (L.2 i) ∧ 1 ≤ L.2 i ∧ L.2 i ≤ 12
theorem dr_in {id : Nat} {L : Nat × (Nat → Nat)} (h : ∀ i, i < L.1 → 1 ≤ L.2 i ∧ L.2 i ≤ 12) : ∀ i, i < (pu_dr id L).1 → 1 ≤ (pu_dr id L).2 i ∧ (pu_dr id L).2 i ≤ 12 := by
  unfold pu_dr
  split
  · intro i hi
    dsimp only at hi
    show 1 ≤ pu_rm L.2 _ i ∧ pu_rm L.2 _ i ≤ 12
    unfold pu_rm
    split
    · exact h i (by omega)
    · exact h (i + 1) (by omega)
  · exact h
theorem mb_lp {M : mk_M} {x s k : Nat} {Q : Nat → Nat} (v : Int32) (hs : s ≤ 12) : ∀ d i n : Nat, ∀ R : Nat → Int32, i + d + 1 = s → k ≤ i → d < n → (∀ j, j < i → R j = nI (pu_rm Q k j)) → (∀ j, i ≤ j → j < s → R j = nI (Q j)) →
    ∃ R' : Nat → Int32, f_X1_moveBack_10 x n (nI (s - 1)) v (nI i) (mk_sr M (x + 1) R) = some (mk_sr M (x + 1) R') ∧ ∀ j, j < s - 1 → R' j = nI (pu_rm Q k j) := by
  intro d
  induction d with
  | zero =>
    intro i n R hi hk hn h1 h2
    obtain ⟨n, rfl⟩ : ∃ m, n = m + 1 := ⟨n - 1, by omega⟩
    have e : s - 1 = i := by omega
    refine ⟨fun j => if j = i then v else R j, ?_, fun j hj => ?_⟩
    · show (if nI (s - 1) ≤ nI i then (if mk_ob (nI (s - 1)) 12 then none else some (mk_st (mk_sr M (x + 1) R) (x + 1) (nI (s - 1)).toNatClampNeg v)) else _) = _
      rw [e, if_pos (nI_le (Nat.le_refl _) (by omega)), if_neg (ob_n (by omega) (by omega)), cl_n (by omega), mk_sr_st]
    · show (if j = i then v else R j) = _
      rw [if_neg (by omega)]; exact h1 j (by omega)
  | succ d ih =>
    intro i n R hi hk hn h1 h2
    obtain ⟨n, rfl⟩ : ∃ m, n = m + 1 := ⟨n - 1, by omega⟩
    obtain ⟨R', e1, e2⟩ := ih (i + 1) n (fun j => if j = i then R (i + 1) else R j) (by omega) (by omega) (by omega) (fun j hj => by
      show (if j = i then R (i + 1) else R j) = _
      by_cases q : j = i
      · rw [if_pos q, h2 (i + 1) (by omega) (by omega), q]; unfold pu_rm; rw [if_neg (by omega)]
      · rw [if_neg q]; exact h1 j (by omega)) (fun j hj1 hj2 => by
      show (if j = i then R (i + 1) else R j) = _
      rw [if_neg (by omega)]; exact h2 j (by omega) hj2)
    refine ⟨R', ?_, e2⟩
    rw [← e1]
    show (if nI (s - 1) ≤ nI i then _ else (if mk_ob (nI i + 1) 12 then none else (if mk_ob (nI i) 12 then none else (f_X1_moveBack_10 x n (nI (s - 1)) v (nI i + 1) (mk_st (mk_sr M (x + 1) R) (x + 1) (nI i).toNatClampNeg (mk_sr M (x + 1) R (x + 1) (nI i + 1).toNatClampNeg)))))) = _
    rw [if_neg (nI_ge (by omega) (by omega)), nI_1, if_neg (ob_n (by omega) (by omega)), if_neg (ob_n (by omega) (by omega)), cl_n (by omega), cl_n (by omega), mk_sr_st, mk_sr_row]
/-- the class takes one out of a line -/
theorem drop_n {M : mk_M} {x id : Nat} {L : Nat × (Nat → Nat)} (h : pu_ln M x L) (hid : id < 2 ^ 31) : ∃ R : Nat → Int32, f_X1_drop x (nI id) M = some (mk_st (mk_sr M (x + 1) R) x 1 (nI (pu_dr id L).1)) ∧ (∀ i, i < (pu_dr id L).1 → R i = nI ((pu_dr id L).2 i)) := by
  obtain ⟨h1, h2, h3⟩ := h
  unfold f_X1_drop f_X1_placeOf
  rcases sr_pl h1 h2 (fun i hi => (h3 i hi).1) (nI id) L.1 0 mk_F (by omega) (mk_F_lt (by omega)) (fun k h => absurd h (by omega)) with ⟨k, k1, k2, k3, k4⟩ | ⟨k1, k2⟩
  · have hk2 : L.2 k = id := nI_inj (by have := h3 k k1; omega) hid k2
    have kn : pu_kn L.2 L.1 id := ⟨k, k1, hk2⟩
    have ek : pu_fi L.2 id L.1 = k := by
      have q := fi_kn.mp kn
      have e := fi_eq L.2 id L.1 q
      rcases Nat.lt_trichotomy (pu_fi L.2 id L.1) k with c | c | c
      · exact absurd (by rw [e]) (k3 _ c)
      · exact c
      · exact absurd hk2 (fi_ne L.2 id L.1 k c)
    rw [dr_yes kn, ek]
    rw [show (0 : Int32) = nI 0 from rfl, k4, Option.bind_some, if_neg]
    · obtain ⟨R, e1, e2⟩ := mb_lp (M := M) (x := x) (s := L.1) (k := k) (Q := L.2) (nI id) h2 (L.1 - 1 - k) k mk_F (M (x + 1)) (by omega) (Nat.le_refl _) (mk_F_lt (by omega)) (fun j hj => by
        rw [(h3 j (by omega)).1]; unfold pu_rm; rw [if_pos hj]) (fun j hj1 hj2 => (h3 j hj2).1)
      rw [mk_sr_id] at e1
      refine ⟨R, ?_, e2⟩
      unfold f_X1_moveBack
      rw [if_neg (ob_n (by omega) (by omega)), cl_n (by omega), (h3 k k1).1, hk2, h1, show (1 : Int32) = nI 1 from rfl, pk_sub (by omega), e1, Option.bind_some]
      rw [mk_sr_off _ _ _ (by omega), h1, pk_sub (by omega)]
    · intro q
      have := congrArg Int32.toInt q
      rw [nI_toInt (by omega)] at this
      have e : (-1 : Int32).toInt = -1 := by decide
      omega
  · have kn : ¬ pu_kn L.2 L.1 id := fun ⟨i, c1, c2⟩ => k1 i c1 (by rw [c2])
    rw [dr_no kn]
    rw [show (0 : Int32) = nI 0 from rfl, k2, Option.bind_some, if_pos rfl]
    refine ⟨M (x + 1), ?_, fun i hi => (h3 i hi).1⟩
    rw [mk_sr_id, mk_st_id _ _ _ h1]
/-- the reference takes one out of its plan -/
theorem to_lp {M : mk_M} {s k id : Nat} {Q : Nat → Nat} (hs : s ≤ 12) (hid : id < 2 ^ 31) (hQ : ∀ j, j < s → Q j ≤ 12) (hk : k ≤ s) (hk1 : k < s → Q k = id) (hk2 : ∀ j, j < s → j ≠ k → Q j ≠ id) (h7 : M 68 7 = nI s) : ∀ d i n : Nat, ∀ R : Nat → Int32, i + d = s → d < n → (∀ j, j < (if i ≤ k then i else i - 1) → R j = nI (pu_rm Q k j)) → (∀ j, i ≤ j → j < s → R j = nI (Q j)) →
    ∃ R' : Nat → Int32, f_X6_takeOut_4 n (nI id) (nI (if i ≤ k then i else i - 1)) (nI i) (mk_sr M 75 R) = some (mk_st (mk_sr M 75 R') 68 7 (nI (if k < s then s - 1 else s))) ∧ ∀ j, j < (if k < s then s - 1 else s) → R' j = nI (pu_rm Q k j) := by
  intro d
  induction d with
  | zero =>
    intro i n R hi hn h1 h2
    obtain ⟨n, rfl⟩ : ∃ m, n = m + 1 := ⟨n - 1, by omega⟩
    have e : i = s := by omega
    subst e
    have e2 : (if i ≤ k then i else i - 1) = if k < i then i - 1 else i := by
      split <;> split <;> omega
    rw [e2] at h1 ⊢
    refine ⟨R, ?_, h1⟩
    show (if mk_sr M 75 R 68 7 ≤ nI i then some (mk_st (mk_sr M 75 R) 68 7 (nI (if k < i then i - 1 else i))) else _) = _
    rw [mk_sr_off _ _ _ (by decide), h7, if_pos (nI_le (Nat.le_refl _) (by omega))]
  | succ d ih =>
    intro i n R hi hn h1 h2
    obtain ⟨n, rfl⟩ : ∃ m, n = m + 1 := ⟨n - 1, by omega⟩
    generalize hto : (if i ≤ k then i else i - 1) = to at h1 ⊢
    have hto1 : to ≤ i := by rw [← hto]; split <;> omega
    have hQi := hQ i (by omega)
    have key : f_X6_takeOut_4 (n + 1) (nI id) (nI to) (nI i) (mk_sr M 75 R) = (if nI (Q i) = nI id then f_X6_takeOut_4 n (nI id) (nI to) (nI (i + 1)) (mk_sr M 75 (fun j => if j = to then R i else R j)) else f_X6_takeOut_4 n (nI id) (nI (to + 1)) (nI (i + 1)) (mk_sr M 75 (fun j => if j = to then R i else R j))) := by
      show (if mk_sr M 75 R 68 7 ≤ nI i then _ else (if mk_ob (nI i) 13 then none else (if mk_ob (nI to) 13 then none else (if mk_ob (nI i) 13 then none else (if (mk_st (mk_sr M 75 R) 75 (nI to).toNatClampNeg (mk_sr M 75 R 75 (nI i).toNatClampNeg)) 75 (nI i).toNatClampNeg = nI id then f_X6_takeOut_4 n (nI id) (nI to) (nI i + 1) (mk_st (mk_sr M 75 R) 75 (nI to).toNatClampNeg (mk_sr M 75 R 75 (nI i).toNatClampNeg)) else f_X6_takeOut_4 n (nI id) (nI to + 1) (nI i + 1) (mk_st (mk_sr M 75 R) 75 (nI to).toNatClampNeg (mk_sr M 75 R 75 (nI i).toNatClampNeg))))))) = _
      rw [mk_sr_off _ _ _ (by decide), h7, if_neg (nI_ge (by omega) (by omega)), if_neg (ob_n (by omega) (by omega)), if_neg (ob_n (by omega) (by omega)), if_neg (ob_n (by omega) (by omega))]
      simp only [cl_n (show i < 2 ^ 31 by omega), cl_n (show to < 2 ^ 31 by omega), mk_sr_st, mk_sr_row, nI_1]
      have e : (if i = to then R i else R i) = nI (Q i) := by rw [ite_self, h2 i (Nat.le_refl _) (by omega)]
      rw [e]
    rw [key]
    have g2 : ∀ j, i + 1 ≤ j → j < s → (if j = to then R i else R j) = nI (Q j) := fun j hj1 hj2 => by
      rw [if_neg (by omega)]; exact h2 j (by omega) hj2
    by_cases c : i = k
    · rw [if_pos (by rw [c, hk1 (by omega)])]
      have hto2 : to = i := by rw [← hto, if_pos (by omega)]
      have := ih (i + 1) n (fun j => if j = to then R i else R j) (by omega) (by omega) (fun j hj => by
        rw [if_neg (by omega)] at hj
        show (if j = to then R i else R j) = _
        rw [if_neg (by omega)]; exact h1 j (by omega)) g2
      rw [show (if i + 1 ≤ k then i + 1 else i + 1 - 1) = to by rw [if_neg (by omega)]; omega] at this
      exact this
    · rw [if_neg (fun q => hk2 i (by omega) c (nI_inj (by omega) hid q))]
      have hto2 : (if i + 1 ≤ k then i + 1 else i + 1 - 1) = to + 1 := by
        rw [← hto]; split <;> split <;> omega
      have := ih (i + 1) n (fun j => if j = to then R i else R j) (by omega) (by omega) (fun j hj => by
        rw [hto2] at hj
        show (if j = to then R i else R j) = _
        by_cases q : j = to
        · rw [if_pos q, h2 i (Nat.le_refl _) (by omega), q, ← hto]
          unfold pu_rm
          by_cases c2 : i ≤ k
          · rw [if_pos c2, if_pos (by omega)]
          · rw [if_neg c2, if_neg (by omega), show i - 1 + 1 = i by omega]
        · rw [if_neg q]; exact h1 j (by omega)) g2
      rw [hto2] at this
      exact this
/-- the reference takes one out of its order -/
theorem lv_lp {M : mk_M} {s k id : Nat} {Q : Nat → Nat} (hs : s ≤ 12) (hid : id < 2 ^ 31) (hQ : ∀ j, j < s → Q j ≤ 12) (hk : k ≤ s) (hk1 : k < s → Q k = id) (hk2 : ∀ j, j < s → j ≠ k → Q j ≠ id) (h9 : M 68 9 = nI s) : ∀ d i n : Nat, ∀ R : Nat → Int32, i + d = s → d < n → (∀ j, j < (if i ≤ k then i else i - 1) → R j = nI (pu_rm Q k j)) → (∀ j, i ≤ j → j < s → R j = nI (Q j)) →
    ∃ R' : Nat → Int32, f_X6_leave_43 n (nI id) (nI (if i ≤ k then i else i - 1)) (nI i) (mk_sr M 76 R) = some (mk_st (mk_sr M 76 R') 68 9 (nI (if k < s then s - 1 else s))) ∧ ∀ j, j < (if k < s then s - 1 else s) → R' j = nI (pu_rm Q k j) := by
  intro d
  induction d with
  | zero =>
    intro i n R hi hn h1 h2
    obtain ⟨n, rfl⟩ : ∃ m, n = m + 1 := ⟨n - 1, by omega⟩
    have e : i = s := by omega
    subst e
    have e2 : (if i ≤ k then i else i - 1) = if k < i then i - 1 else i := by
      split <;> split <;> omega
    rw [e2] at h1 ⊢
    refine ⟨R, ?_, h1⟩
    show (if mk_sr M 76 R 68 9 ≤ nI i then some (mk_st (mk_sr M 76 R) 68 9 (nI (if k < i then i - 1 else i))) else _) = _
    rw [mk_sr_off _ _ _ (by decide), h9, if_pos (nI_le (Nat.le_refl _) (by omega))]
  | succ d ih =>
    intro i n R hi hn h1 h2
    obtain ⟨n, rfl⟩ : ∃ m, n = m + 1 := ⟨n - 1, by omega⟩
    generalize hto : (if i ≤ k then i else i - 1) = to at h1 ⊢
    have hto1 : to ≤ i := by rw [← hto]; split <;> omega
    have hQi := hQ i (by omega)
    have key : f_X6_leave_43 (n + 1) (nI id) (nI to) (nI i) (mk_sr M 76 R) = (if nI (Q i) = nI id then f_X6_leave_43 n (nI id) (nI to) (nI (i + 1)) (mk_sr M 76 (fun j => if j = to then R i else R j)) else f_X6_leave_43 n (nI id) (nI (to + 1)) (nI (i + 1)) (mk_sr M 76 (fun j => if j = to then R i else R j))) := by
      show (if mk_sr M 76 R 68 9 ≤ nI i then _ else (if mk_ob (nI i) 13 then none else (if mk_ob (nI to) 13 then none else (if mk_ob (nI i) 13 then none else (if (mk_st (mk_sr M 76 R) 76 (nI to).toNatClampNeg (mk_sr M 76 R 76 (nI i).toNatClampNeg)) 76 (nI i).toNatClampNeg = nI id then f_X6_leave_43 n (nI id) (nI to) (nI i + 1) (mk_st (mk_sr M 76 R) 76 (nI to).toNatClampNeg (mk_sr M 76 R 76 (nI i).toNatClampNeg)) else f_X6_leave_43 n (nI id) (nI to + 1) (nI i + 1) (mk_st (mk_sr M 76 R) 76 (nI to).toNatClampNeg (mk_sr M 76 R 76 (nI i).toNatClampNeg))))))) = _
      rw [mk_sr_off _ _ _ (by decide), h9, if_neg (nI_ge (by omega) (by omega)), if_neg (ob_n (by omega) (by omega)), if_neg (ob_n (by omega) (by omega)), if_neg (ob_n (by omega) (by omega))]
      simp only [cl_n (show i < 2 ^ 31 by omega), cl_n (show to < 2 ^ 31 by omega), mk_sr_st, mk_sr_row, nI_1]
      have e : (if i = to then R i else R i) = nI (Q i) := by rw [ite_self, h2 i (Nat.le_refl _) (by omega)]
      rw [e]
    rw [key]
    have g2 : ∀ j, i + 1 ≤ j → j < s → (if j = to then R i else R j) = nI (Q j) := fun j hj1 hj2 => by
      rw [if_neg (by omega)]; exact h2 j (by omega) hj2
    by_cases c : i = k
    · rw [if_pos (by rw [c, hk1 (by omega)])]
      have hto2 : to = i := by rw [← hto, if_pos (by omega)]
      have := ih (i + 1) n (fun j => if j = to then R i else R j) (by omega) (by omega) (fun j hj => by
        rw [if_neg (by omega)] at hj
        show (if j = to then R i else R j) = _
        rw [if_neg (by omega)]; exact h1 j (by omega)) g2
      rw [show (if i + 1 ≤ k then i + 1 else i + 1 - 1) = to by rw [if_neg (by omega)]; omega] at this
      exact this
    · rw [if_neg (fun q => hk2 i (by omega) c (nI_inj (by omega) hid q))]
      have hto2 : (if i + 1 ≤ k then i + 1 else i + 1 - 1) = to + 1 := by
        rw [← hto]; split <;> split <;> omega
      have := ih (i + 1) n (fun j => if j = to then R i else R j) (by omega) (by omega) (fun j hj => by
        rw [hto2] at hj
        show (if j = to then R i else R j) = _
        by_cases q : j = to
        · rw [if_pos q, h2 i (Nat.le_refl _) (by omega), q, ← hto]
          unfold pu_rm
          by_cases c2 : i ≤ k
          · rw [if_pos c2, if_pos (by omega)]
          · rw [if_neg c2, if_neg (by omega), show i - 1 + 1 = i by omega]
        · rw [if_neg q]; exact h1 j (by omega)) g2
      rw [hto2] at this
      exact this
theorem take_n {M : mk_M} {id : Nat} {L : Nat × (Nat → Nat)} (hs : L.1 ≤ 12) (hid : id < 2 ^ 31) (hQ : ∀ j, j < L.1 → L.2 j ≤ 12) (hi : pu_ij L) (h7 : M 68 7 = nI L.1) (h : ∀ j, j < L.1 → M 75 j = nI (L.2 j)) : ∃ R : Nat → Int32, f_X6_takeOut (nI id) M = some (mk_st (mk_sr M 75 R) 68 7 (nI (pu_dr id L).1)) ∧ ∀ j, j < (pu_dr id L).1 → R j = nI ((pu_dr id L).2 j) := by
  have := to_lp (M := M) (s := L.1) (k := pu_fi L.2 id L.1) (id := id) (Q := L.2) hs hid hQ (fi_le _ _ _) (fi_eq L.2 id L.1) (fun j hj hne c => by
    have q : pu_kn L.2 L.1 id := ⟨j, hj, c⟩
    have q2 := fi_kn.mp q
    exact hne (hi j _ hj q2 (by rw [c, fi_eq L.2 id L.1 q2]))) h7 L.1 0 mk_F (M 75) (by omega) (mk_F_lt (by omega)) (fun j hj => by rw [if_pos (Nat.zero_le _)] at hj; omega) (fun j _ hj => h j hj)
  rw [if_pos (Nat.zero_le _), mk_sr_id] at this
  obtain ⟨R, e1, e2⟩ := this
  by_cases c : pu_kn L.2 L.1 id
  · rw [dr_yes c]
    rw [if_pos (fi_kn.mp c)] at e1 e2
    exact ⟨R, e1, e2⟩
  · rw [dr_no c]
    have c' : ¬ pu_fi L.2 id L.1 < L.1 := fun q => c (fi_kn.mpr q)
    rw [if_neg c'] at e1 e2
    refine ⟨R, e1, fun j hj => ?_⟩
    rw [e2 j hj]
    unfold pu_rm
    rw [if_pos (by omega)]
theorem lv43_n {M : mk_M} {id : Nat} {L : Nat × (Nat → Nat)} (hs : L.1 ≤ 12) (hid : id < 2 ^ 31) (hQ : ∀ j, j < L.1 → L.2 j ≤ 12) (hi : pu_ij L) (h7 : M 68 9 = nI L.1) (h : ∀ j, j < L.1 → M 76 j = nI (L.2 j)) : ∃ R : Nat → Int32, f_X6_leave_43 mk_F (nI id) 0 0 M = some (mk_st (mk_sr M 76 R) 68 9 (nI (pu_dr id L).1)) ∧ ∀ j, j < (pu_dr id L).1 → R j = nI ((pu_dr id L).2 j) := by
  have := lv_lp (M := M) (s := L.1) (k := pu_fi L.2 id L.1) (id := id) (Q := L.2) hs hid hQ (fi_le _ _ _) (fi_eq L.2 id L.1) (fun j hj hne c => by
    have q : pu_kn L.2 L.1 id := ⟨j, hj, c⟩
    have q2 := fi_kn.mp q
    exact hne (hi j _ hj q2 (by rw [c, fi_eq L.2 id L.1 q2]))) h7 L.1 0 mk_F (M 76) (by omega) (mk_F_lt (by omega)) (fun j hj => by rw [if_pos (Nat.zero_le _)] at hj; omega) (fun j _ hj => h j hj)
  rw [if_pos (Nat.zero_le _), mk_sr_id] at this
  obtain ⟨R, e1, e2⟩ := this
  by_cases c : pu_kn L.2 L.1 id
  · rw [dr_yes c]
    rw [if_pos (fi_kn.mp c)] at e1 e2
    exact ⟨R, e1, e2⟩
  · rw [dr_no c]
    have c' : ¬ pu_fi L.2 id L.1 < L.1 := fun q => c (fi_kn.mpr q)
    rw [if_neg c'] at e1 e2
    refine ⟨R, e1, fun j hj => ?_⟩
    rw [e2 j hj]
    unfold pu_rm
    rw [if_pos (by omega)]
