/-! add: what a call that adds, or refuses, leaves -/
theorem in_cs {P : Nat → Nat} {np c id i : Nat} (hc : c ≤ np) (hi : i < np + 1) : pu_in P c id i = id ∨ ∃ j, j < np ∧ pu_in P c id i = P j := by
  unfold pu_in
  by_cases l : i < c
  · rw [if_pos l]; exact Or.inr ⟨i, by omega, rfl⟩
  · rw [if_neg l]
    by_cases e : i = c
    · rw [if_pos e]; exact Or.inl rfl
    · rw [if_neg e]; exact Or.inr ⟨i - 1, by omega, rfl⟩
theorem in_c {P : Nat → Nat} {c id : Nat} : pu_in P c id c = id := by
  unfold pu_in
  rw [if_neg (by omega), if_pos rfl]
theorem in_up {P : Nat → Nat} {np c id : Nat} (hc : c ≤ np) {j : Nat} (h : pu_kn P np j) : pu_kn (pu_in P c id) (np + 1) j := by
  obtain ⟨i, i1, i2⟩ := h
  by_cases l : i < c
  · exact ⟨i, by omega, by unfold pu_in; rw [if_pos l]; exact i2⟩
  · exact ⟨i + 1, by omega, by unfold pu_in; rw [if_neg (by omega), if_neg (by omega), show i + 1 - 1 = i by omega]; exact i2⟩
theorem in_dn {P : Nat → Nat} {np c id : Nat} (hc : c ≤ np) {j : Nat} (hj : j ≠ id) (h : pu_kn (pu_in P c id) (np + 1) j) : pu_kn P np j := by
  obtain ⟨i, i1, i2⟩ := h
  rcases in_cs (P := P) (id := id) hc i1 with e | ⟨m, m1, m2⟩
  · exact absurd (i2.symm.trans e) hj
  · exact ⟨m, m1, m2.symm.trans i2⟩
theorem in_ij {P : Nat → Nat} {np c id : Nat} (hP : ∀ i j, i < np → j < np → P i = P j → i = j) (hk : ¬ pu_kn P np id) : ∀ i j, i < np + 1 → j < np + 1 → c ≤ np → pu_in P c id i = pu_in P c id j → i = j := by
  intro i j hi hj hc h
  have no : ∀ m, m < np → P m ≠ id := fun m hm z => hk ⟨m, hm, z⟩
  unfold pu_in at h
  by_cases l : i < c
  · rw [if_pos l] at h
    by_cases l2 : j < c
    · rw [if_pos l2] at h; exact hP i j (by omega) (by omega) h
    · rw [if_neg l2] at h
      by_cases e : j = c
      · rw [if_pos e] at h; exact absurd h (no i (by omega))
      · rw [if_neg e] at h; have := hP i (j - 1) (by omega) (by omega) h; omega
  · rw [if_neg l] at h
    by_cases e : i = c
    · rw [if_pos e] at h
      by_cases l2 : j < c
      · rw [if_pos l2] at h; exact absurd h.symm (no j (by omega))
      · rw [if_neg l2] at h
        by_cases e2 : j = c
        · omega
        · rw [if_neg e2] at h; exact absurd h.symm (no (j - 1) (by omega))
    · rw [if_neg e] at h
      by_cases l2 : j < c
      · rw [if_pos l2] at h; have := hP (i - 1) j (by omega) (by omega) h; omega
      · rw [if_neg l2] at h
        by_cases e2 : j = c
        · rw [if_pos e2] at h; exact absurd h (no (i - 1) (by omega))
        · rw [if_neg e2] at h; have := hP (i - 1) (j - 1) (by omega) (by omega) h; omega
theorem in_dr {P : Nat → Nat} {np c id : Nat} (hP : ∀ i j, i < np → j < np → P i = P j → i = j) (hk : ¬ pu_kn P np id) (hc : c ≤ np) : (pu_dr id (np + 1, pu_in P c id)).1 = np ∧ ∀ j, j < np → (pu_dr id (np + 1, pu_in P c id)).2 j = P j := by
  have kn : pu_kn (pu_in P c id) (np + 1) id := ⟨c, by omega, in_c⟩
  have f1 : pu_fi (pu_in P c id) id (np + 1) < np + 1 := fi_kn.mp kn
  have f2 := fi_eq (pu_in P c id) id (np + 1) f1
  have f3 : pu_fi (pu_in P c id) id (np + 1) = c := in_ij (c := c) hP hk _ _ f1 (by omega) hc (by rw [f2, in_c])
  have e := dr_yes (L := (np + 1, pu_in P c id)) kn
  rw [e]
  dsimp only
  rw [f3]
  refine ⟨by omega, fun j hj => ?_⟩
  unfold pu_rm pu_in
  by_cases l : j < c
  · rw [if_pos l, if_pos l]
  · rw [if_neg l, if_neg (by omega), if_neg (by omega), show j + 1 - 1 = j by omega]
theorem in_12 {P : Nat → Nat} {np id : Nat} (hr : ∀ i, i < np → 1 ≤ P i ∧ P i ≤ 12) (i1 : 1 ≤ id) (i2 : id ≤ 12) (hP : ∀ i j, i < np → j < np → P i = P j → i = j) (hk : ¬ pu_kn P np id) : np < 12 := by
  have hin : ∀ i, i < np + 1 → 1 ≤ pu_in P 0 id i ∧ pu_in P 0 id i ≤ 12 := fun i hi => by
    rcases in_cs (P := P) (id := id) (Nat.zero_le np) hi with e | ⟨m, m1, m2⟩
    · rw [e]; exact ⟨i1, i2⟩
    · rw [m2]; exact hr m m1
  have e := pu_perm (fun _ => 1) (pu_in P 0 id) (np + 1) hin (fun i j hi hj h => in_ij hP hk i j hi hj (Nat.zero_le np) h) (fun j => if pu_fi (pu_in P 0 id) j (np + 1) < np + 1 then 1 else 0) (fun j j1 j2 => ⟨fun h => if_pos (fi_kn.mp h), fun h => if_neg (fun z => h (fi_kn.mpr z))⟩)
  have s1 : ∀ m, pu_sum (fun _ => 1) m = m := fun m => by
    induction m with
    | zero => rfl
    | succ m ih => show pu_sum (fun _ => 1) m + 1 = m + 1; rw [ih]
  have e2 : pu_sum (fun i => (fun _ => 1) (pu_in P 0 id i)) (np + 1) = np + 1 := s1 (np + 1)
  have le : pu_sum (fun j => if pu_fi (pu_in P 0 id) (j + 1) (np + 1) < np + 1 then 1 else 0) 12 ≤ 12 * 1 := pu_sum_le (fun j _ => by
    show (if pu_fi (pu_in P 0 id) (j + 1) (np + 1) < np + 1 then 1 else 0) ≤ 1
    by_cases h : pu_fi (pu_in P 0 id) (j + 1) (np + 1) < np + 1
    · rw [if_pos h]; exact Nat.le_refl _
    · rw [if_neg h]; exact Nat.zero_le _)
  have e3 := e.trans e2
  have e4 : np + 1 ≤ 12 * 1 := Nat.le_trans (Nat.le_of_eq e3.symm) le
  omega
/-- what fits goes on to fit, where the numbers of those tasks stay -/
theorem ok_pt {M M' : mk_M} {P : Nat → Nat} {k : Nat} (h : ∀ i, i ≤ k → ∀ y, 71 ≤ y → y ≤ 74 → M' y (P i) = M y (P i)) (hok : pu_ok M P k) : pu_ok M' P k := by
  have v : ∀ i, i ≤ k → ∀ y, 71 ≤ y → y ≤ 74 → pu_v M' y (P i) = pu_v M y (P i) := fun i hi y y1 y2 => by unfold pu_v; rw [h i hi y y1 y2]
  have elo : ∀ q, pu_lo M' P k q = pu_lo M P k q := fun q => by
    unfold pu_lo
    rw [v k (Nat.le_refl _) 73 (by decide) (by decide), pu_sum_congr (fun j hj => by rw [v j (by omega) 71 (by decide) (by decide), v j (by omega) 73 (by decide) (by decide)])]
  have efx : ∀ q, pu_fx M' P k q = pu_fx M P k q := fun q => by
    unfold pu_fx
    rw [v k (Nat.le_refl _) 74 (by decide) (by decide), pu_sum_congr (fun j hj => by rw [v j (by omega) 71 (by decide) (by decide), v j (by omega) 73 (by decide) (by decide), v j (by omega) 74 (by decide) (by decide)])]
  have ehi : ∀ q b, pu_hi M' P k q b = pu_hi M P k q b := fun q b => by
    unfold pu_hi
    rw [efx q, pu_sum_congr (fun j hj => by rw [v j (by omega) 71 (by decide) (by decide), v j (by omega) 74 (by decide) (by decide)])]
  unfold pu_ok pu_lr pu_bd at hok ⊢
  rw [v k (Nat.le_refl _) 72 (by decide) (by decide), v k (Nat.le_refl _) 74 (by decide) (by decide)]
  simp only [elo, ehi]
  exact hok
theorem ch_J {n : Nat} {M M' : mk_M} {t np no ch w wd id np' w' wd' : Nat} {P O P' : Nat → Nat} (hn : n < 512) (hJ : pu_J n M t np no ch w wd P O) (i2 : id ≤ 12)
    (h0 : ∀ y, y < 68 → y ≠ 3 → y ≠ 4 → y ≠ 7 → y ≠ 8 → y ≠ 9 → y ≠ 10 → y ≠ 11 → y ≠ 16 + 4 * id → M' y = M y) (h1 : ∀ y, y = 76 ∨ (83 ≤ y ∧ y ≤ 88) → M' y = M y) (h2 : ∀ k, k ≠ 0 → k ≠ 7 → k ≠ 29 → k ≠ 32 → M' 68 k = M 68 k) (h3 : ∀ y, (69 ≤ y ∧ y ≤ 74) ∨ (78 ≤ y ∧ y ≤ 82) → ∀ j, j ≠ id → M' y j = M y j)
    (b6 : M' 3 1 = nI np' ∧ M' 68 7 = nI np' ∧ np' ≤ 12 ∧ ∀ i, i < np' → M' 4 i = nI (P' i) ∧ M' 75 i = nI (P' i) ∧ 1 ≤ P' i ∧ P' i ≤ 12) (b7 : ∀ i j, i < np' → j < np' → P' i = P' j → i = j) (kn1 : ∀ j, pu_kn P np j → pu_kn P' np' j) (kn2 : ∀ j, j ≠ id → pu_kn P' np' j → pu_kn P np j)
    (b10 : (pu_kn P' np' id → M' 69 id = 1 ∧ pu_tk (n + 1) M' id) ∧ (¬ pu_kn P' np' id → M' 69 id = 0 ∧ M' (16 + 4 * id) 9 = 0)) (b11 : M' 9 2 = nI w' ∧ M' 68 29 = nI w' ∧ w' ≤ 12 ∧ M' 9 3 = nI wd' ∧ M' 68 32 = nI wd' ∧ wd' ≤ 1000 ∧ ∀ i, i < w' → M' 10 i = M' 89 i ∧ ∃ per, M' 11 i = nI per ∧ M' 90 i = nI per ∧ 1 ≤ per ∧ per ≤ 1000) (b12 : ∀ k, k < np' → pu_ok M' P' k) : pu_J (n + 1) M' t np' no ch w' wd' P' O := by
  obtain ⟨a1, a2, a3, a4, a5, a6, a7, a8, a9, a10, a11, a12⟩ := hJ
  have r0 := h0 0 (by decide) (by decide) (by decide) (by decide) (by decide) (by decide) (by decide) (by decide) (by omega)
  have r5 := h0 5 (by decide) (by decide) (by decide) (by decide) (by decide) (by decide) (by decide) (by decide) (by omega)
  have r6 := h0 6 (by decide) (by decide) (by decide) (by decide) (by decide) (by decide) (by decide) (by decide) (by omega)
  have r12 := h0 12 (by decide) (by decide) (by decide) (by decide) (by decide) (by decide) (by decide) (by decide) (by omega)
  have r13 := h0 13 (by decide) (by decide) (by decide) (by decide) (by decide) (by decide) (by decide) (by decide) (by omega)
  have r14 := h0 14 (by decide) (by decide) (by decide) (by decide) (by decide) (by decide) (by decide) (by decide) (by omega)
  have r15 := h0 15 (by decide) (by decide) (by decide) (by decide) (by decide) (by decide) (by decide) (by decide) (by omega)
  refine ⟨?_, ?_, ?_, ?_, ?_, b6, b7, ?_, a9, ?_, b11, b12⟩
  · rw [r0, h2 21 (by decide) (by decide) (by decide) (by decide)]
    exact ⟨a1.1, a1.2.1, by omega, by omega⟩
  · rw [r12, r13, h1 88 (by decide)]; exact a2
  · rw [r0, h2 24 (by decide) (by decide) (by decide) (by decide)]; exact a3
  · rw [r0, h2 22 (by decide) (by decide) (by decide) (by decide), h2 23 (by decide) (by decide) (by decide) (by decide), h2 26 (by decide) (by decide) (by decide) (by decide)]; exact a4
  · rw [r14, r15, h2 25 (by decide) (by decide) (by decide) (by decide), h1 87 (by decide)]; exact a5
  · rw [r5, r6, h2 9 (by decide) (by decide) (by decide) (by decide), h1 76 (by decide)]
    exact ⟨a8.1, a8.2.1, a8.2.2.1, fun i hi => ⟨(a8.2.2.2 i hi).1, (a8.2.2.2 i hi).2.1, kn1 _ (a8.2.2.2 i hi).2.2⟩⟩
  · intro j j1 j2
    by_cases e : j = id
    · rw [e]; exact b10
    · have ad : pu_ad M M' j := ⟨⟨h0 _ (by omega) (by omega) (by omega) (by omega) (by omega) (by omega) (by omega) (by omega) (by omega), h0 _ (by omega) (by omega) (by omega) (by omega) (by omega) (by omega) (by omega) (by omega) (by omega), h0 _ (by omega) (by omega) (by omega) (by omega) (by omega) (by omega) (by omega) (by omega) (by omega), h0 _ (by omega) (by omega) (by omega) (by omega) (by omega) (by omega) (by omega) (by omega) (by omega)⟩, fun y hy => h3 y hy j e, fun y k y1 y2 _ => by rw [h1 y (by omega)]⟩
      have h69 := h3 69 (by decide) j e
      obtain ⟨c1, c2⟩ := a10 j j1 j2
      refine ⟨fun h => ?_, fun h => ?_⟩
      · have c := c1 (kn2 j e h)
        exact ⟨by rw [h69]; exact c.1, pu_tk_ad (Nat.le_succ n) ad c.2⟩
      · have c := c2 (fun z => h (kn1 j z))
        exact ⟨by rw [h69]; exact c.1, by rw [ad.1.1]; exact c.2⟩
