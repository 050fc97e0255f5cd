/-! fitting is kept when one is taken out -/
theorem pu_sum_mono {f g : Nat → Nat} {n : Nat} (h : ∀ j, j < n → f j ≤ g j) : pu_sum f n ≤ pu_sum g n := by
  induction n with
  | zero => exact Nat.le_refl _
  | succ n ih => exact Nat.add_le_add (ih (fun j hj => h j (by omega))) (h n (by omega))
theorem pu_sum_rm (f : Nat → Nat) (P : Nat → Nat) (k0 : Nat) : ∀ k, k0 ≤ k → pu_sum (fun i => f (pu_rm P k0 i)) k + f (P k0) = pu_sum (fun i => f (P i)) (k + 1) := by
  intro k
  induction k with
  | zero =>
    intro h
    have e : k0 = 0 := by omega
    subst e; rfl
  | succ k ih =>
    intro h
    rcases Nat.lt_or_ge k k0 with q | q
    · have e : k0 = k + 1 := by omega
      subst e
      show pu_sum (fun i => f (pu_rm P (k + 1) i)) (k + 1) + f (P (k + 1)) = pu_sum (fun i => f (P i)) (k + 1) + f (P (k + 1))
      rw [pu_sum_congr (g := fun i => f (P i)) (fun j hj => by show f (pu_rm P (k + 1) j) = _; unfold pu_rm; rw [if_pos hj])]
    · have := ih q
      show pu_sum (fun i => f (pu_rm P k0 i)) k + f (pu_rm P k0 k) + f (P k0) = pu_sum (fun i => f (P i)) (k + 1) + f (P (k + 1))
      have e : pu_rm P k0 k = P (k + 1) := by unfold pu_rm; rw [if_neg (by omega)]
      rw [e]; omega
theorem pu_sum_rm_le (f : Nat → Nat) (P : Nat → Nat) {k0 k : Nat} (h : k0 ≤ k) : pu_sum (fun i => f (pu_rm P k0 i)) k ≤ pu_sum (fun i => f (P i)) (k + 1) := by
  have := pu_sum_rm f P k0 k h
  omega
theorem pu_ce_mono {r r' p : Nat} (h : r ≤ r') : pu_ce r p ≤ pu_ce r' p := by
  unfold pu_ce
  exact Nat.div_le_div_right (by omega)
theorem pu_lo_mono {M : mk_M} {P : Nat → Nat} {k r r' : Nat} (h : r ≤ r') : pu_lo M P k r ≤ pu_lo M P k r' :=
  Nat.add_le_add_left (pu_sum_mono (fun j _ => Nat.mul_le_mul_right _ (pu_ce_mono h))) _
theorem pu_fx_mono {M : mk_M} {P : Nat → Nat} {k r r' : Nat} (h : r ≤ r') : pu_fx M P k r ≤ pu_fx M P k r' := by
  refine Nat.add_le_add_left (pu_sum_mono (fun j _ => ?_)) _
  show (if _ then _ else _) ≤ (if _ then _ else _)
  split
  · exact Nat.mul_le_mul_right _ (pu_ce_mono h)
  · exact Nat.le_refl _
theorem pu_hi_mono {M : mk_M} {P : Nat → Nat} {k r b b' : Nat} (h : b ≤ b') : pu_hi M P k r b ≤ pu_hi M P k r b' :=
  Nat.add_le_add_left (pu_sum_mono (fun j _ => Nat.mul_le_mul_right _ (pu_ce_mono h))) _
theorem pu_least {F : Nat → Nat} : ∀ r, 1 ≤ r → F r ≤ r → ∃ r', 1 ≤ r' ∧ r' ≤ r ∧ F r' ≤ r' ∧ ∀ q, 1 ≤ q → q < r' → q < F q := by
  intro r
  induction r using Nat.strongRecOn with
  | ind r ih =>
    intro h1 h2
    by_cases c : ∃ q, 1 ≤ q ∧ q < r ∧ F q ≤ q
    · obtain ⟨q, q1, q2, q3⟩ := c
      obtain ⟨r', a, b, c, d⟩ := ih q q2 q1 q3
      exact ⟨r', a, by omega, c, d⟩
    · refine ⟨r, h1, Nat.le_refl _, h2, fun q q1 q2 => ?_⟩
      rcases Nat.lt_or_ge q (F q) with c' | c'
      · exact c'
      · exact absurd ⟨q, q1, q2, c'⟩ c
/-- a task fits where another one's numbers bound its own -/
theorem pu_ok_le {M : mk_M} {P P' : Nat → Nat} {k k' : Nat} (e : P' k' = P k) (h1 : ∀ r, pu_lo M P' k' r ≤ pu_lo M P k r) (h2 : ∀ r, pu_fx M P' k' r ≤ pu_fx M P k r) (h3 : ∀ r b, pu_hi M P' k' r b ≤ pu_hi M P k r b) (h : pu_ok M P k) : pu_ok M P' k' := by
  obtain ⟨r, ⟨l1, l2, l3, l4⟩, hb⟩ := h
  obtain ⟨r', a, b, c, d⟩ := pu_least (F := pu_lo M P' k') r l1 (Nat.le_trans (h1 r) l3)
  refine ⟨r', ⟨a, by rw [e]; omega, c, d⟩, fun hh => ?_⟩
  rw [e] at hh
  obtain ⟨bb, m1, m2, m3, m4⟩ := hb hh
  have le : pu_hi M P' k' r' bb ≤ bb := by
    have q1 : pu_hi M P' k' r' bb ≤ pu_hi M P' k' r bb := by
      unfold pu_hi
      exact Nat.add_le_add_right (pu_fx_mono b) _
    exact Nat.le_trans q1 (Nat.le_trans (h3 r bb) m3)
  obtain ⟨b', a', b1, c', d'⟩ := pu_least (F := pu_hi M P' k' r') bb m1 le
  exact ⟨b', a', by rw [e]; omega, c', d'⟩
theorem pu_ok_rm {M : mk_M} {P : Nat → Nat} {np k0 : Nat} (hk0 : k0 < np) (h : ∀ k, k < np → pu_ok M P k) : ∀ k, k < np - 1 → pu_ok M (pu_rm P k0) k := by
  intro k hk
  rcases Nat.lt_or_ge k k0 with q | q
  · have e : ∀ i, i ≤ k → pu_rm P k0 i = P i := fun i hi => by unfold pu_rm; rw [if_pos (by omega)]
    have es : ∀ f : Nat → Nat, pu_sum (fun i => f (pu_rm P k0 i)) k = pu_sum (fun i => f (P i)) k := fun f => pu_sum_congr (fun j hj => by rw [e j (by omega)])
    refine pu_ok_le (e k (Nat.le_refl _)) (fun r => ?_) (fun r => ?_) (fun r b => ?_) (h k (by omega))
    · unfold pu_lo
      rw [e k (Nat.le_refl _), es (fun x => pu_ce r (pu_v M 71 x) * pu_v M 73 x)]
      exact Nat.le_refl _
    · unfold pu_fx
      rw [e k (Nat.le_refl _), es (fun x => if pu_v M 74 x = 0 then pu_ce r (pu_v M 71 x) * pu_v M 73 x else 0)]
      exact Nat.le_refl _
    · unfold pu_hi pu_fx
      rw [e k (Nat.le_refl _), es (fun x => if pu_v M 74 x = 0 then pu_ce r (pu_v M 71 x) * pu_v M 73 x else 0), es (fun x => pu_ce b (pu_v M 71 x) * pu_v M 74 x)]
      exact Nat.le_refl _
  · have e : pu_rm P k0 k = P (k + 1) := by unfold pu_rm; rw [if_neg (by omega)]
    have f1 : ∀ r, pu_lo M (pu_rm P k0) k r ≤ pu_lo M P (k + 1) r := fun r => by
      unfold pu_lo
      rw [e]
      exact Nat.add_le_add_left (pu_sum_rm_le (fun x => pu_ce r (pu_v M 71 x) * pu_v M 73 x) P q) _
    have f2 : ∀ r, pu_fx M (pu_rm P k0) k r ≤ pu_fx M P (k + 1) r := fun r => by
      unfold pu_fx
      rw [e]
      exact Nat.add_le_add_left (pu_sum_rm_le (fun x => if pu_v M 74 x = 0 then pu_ce r (pu_v M 71 x) * pu_v M 73 x else 0) P q) _
    refine pu_ok_le e f1 f2 (fun r b => ?_) (h (k + 1) (by omega))
    unfold pu_hi
    exact Nat.add_le_add (f2 r) (pu_sum_rm_le (fun x => pu_ce b (pu_v M 71 x) * pu_v M 74 x) P q)
theorem pu_ok_dr {M : mk_M} {id : Nat} {L : Nat × (Nat → Nat)} (h : ∀ k, k < L.1 → pu_ok M L.2 k) : ∀ k, k < (pu_dr id L).1 → pu_ok M (pu_dr id L).2 k := by
  by_cases q : pu_kn L.2 L.1 id
  · rw [dr_yes q]
    exact pu_ok_rm (fi_kn.mp q) h
  · rw [dr_no q]
    exact h
