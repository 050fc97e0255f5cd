/-! a tick -/
theorem pu_T.ad {n n' : Nat} {M M' : mk_M} {P : Nat → Nat} {np : Nat} (hn : n ≤ n') (h : pu_T n M P np) (ha : ∀ j, 1 ≤ j → j ≤ 12 → pu_ad M M' j) : pu_T n' M' P np := by
  intro j j1 j2
  have a := ha j j1 j2
  obtain ⟨c1, c2⟩ := h j j1 j2
  refine ⟨fun c => ⟨by rw [a.2.1 69 (by decide)]; exact (c1 c).1, pu_tk_ad hn a (c1 c).2⟩, fun c => ⟨by rw [a.2.1 69 (by decide)]; exact (c2 c).1, by rw [a.1.1]; exact (c2 c).2⟩⟩
theorem tm_J {n : Nat} {A B : mk_M} {t np no ch w wd : Nat} {P O : Nat → Nat} (hJ : pu_J n (pu_ov A B) t np no ch w wd P O) (ht : t < 1000 * n) (v : Int32) :
    pu_J n (pu_ov (mk_st (mk_st (mk_st A 0 9 (nI (t + 1))) 13 (t % 256) v) 12 1 (nI (t + 1))) (mk_st (mk_st B 88 (t % 256) v) 68 21 (nI (t + 1)))) (t + 1) np no ch w wd P O := by
  obtain ⟨a1', a2', a3, a4, a5, a6, a7, a8, a9, a10, a11, a12⟩ := hJ
  simp (disch := omega) only [ov_lo, ov_hi] at a1' a2' a3 a4 a5 a6 a8 a11
  refine ⟨?_, ?_, ?_, ?_, ?_, ?_, a7, ?_, a9, ?_, ?_, ?_⟩
  · simp (disch := omega) only [ov_lo, ov_hi, mk_st_same, mk_st_ne]
    exact ⟨trivial, trivial, by omega, a1'.2.2.2⟩
  · simp (disch := omega) only [ov_lo, ov_hi, mk_st_same, mk_st_ne, mk_st_off]
    refine ⟨trivial, fun i hi => ?_⟩
    by_cases c : i = t % 256
    · subst c
      rw [mk_st_same, mk_st_same]
    · rw [mk_st_ne _ _ _ _ (fun z => c z.2), mk_st_ne _ _ _ _ (fun z => c z.2), mk_st_off _ _ _ _ (by decide)]
      exact a2'.2 i hi
  · simp (disch := omega) only [ov_lo, ov_hi, mk_st_same, mk_st_ne]; exact a3
  · simp (disch := omega) only [ov_lo, ov_hi, mk_st_same, mk_st_ne]; exact a4
  · simp (disch := omega) only [ov_lo, ov_hi, mk_st_same, mk_st_ne, mk_st_off]; exact ⟨a5.1, a5.2.1, by omega, a5.2.2.2⟩
  · simp (disch := omega) only [ov_lo, ov_hi, mk_st_same, mk_st_ne, mk_st_off]; exact a6
  · simp (disch := omega) only [ov_lo, ov_hi, mk_st_same, mk_st_ne, mk_st_off]; exact a8
  · refine pu_T.ad (M := pu_ov A B) (Nat.le_refl _) a10 (fun j j1 j2 => ⟨⟨?_, ?_, ?_, ?_⟩, fun y hy => ?_, fun y k y1 y2 hk => ?_⟩)
    · simp (disch := omega) only [ov_lo, mk_st_off]
    · simp (disch := omega) only [ov_lo, mk_st_off]
    · simp (disch := omega) only [ov_lo, mk_st_off]
    · simp (disch := omega) only [ov_lo, mk_st_off]
    · simp (disch := omega) only [ov_hi, mk_st_off]
    · simp (disch := omega) only [ov_hi, mk_st_off]
  · simp (disch := omega) only [ov_lo, ov_hi, mk_st_same, mk_st_ne, mk_st_off]; exact a11
  · intro k hk
    refine pu_ok_same (M := pu_ov A B) ?_ ?_ ?_ ?_ (a12 k hk)
    · simp (disch := omega) only [ov_hi, mk_st_off]
    · simp (disch := omega) only [ov_hi, mk_st_off]
    · simp (disch := omega) only [ov_hi, mk_st_off]
    · simp (disch := omega) only [ov_hi, mk_st_off]
theorem cm_J {n : Nat} {A B : mk_M} {t np no ch w wd : Nat} {P O : Nat → Nat} (hJ : pu_J n (pu_ov A B) t np no ch w wd P O) (hch : ch < t) :
    pu_J n (pu_ov (mk_st (mk_st (mk_st A 0 8 1) 15 (ch % 8) (nI t)) 14 1 (nI (ch + 1))) (mk_st (mk_st (mk_st B 68 24 1) 87 (ch % 8) (nI t)) 68 25 (nI (ch + 1)))) t np no (ch + 1) w wd P O := by
  obtain ⟨a1', a2', a3, a4, a5, a6, a7, a8, a9, a10, a11, a12⟩ := hJ
  simp (disch := omega) only [ov_lo, ov_hi] at a1' a2' a3 a4 a5 a6 a8 a11
  refine ⟨?_, ?_, ?_, ?_, ?_, ?_, a7, ?_, a9, ?_, ?_, ?_⟩
  · simp (disch := omega) only [ov_lo, ov_hi, mk_st_same, mk_st_ne]; exact a1'
  · simp (disch := omega) only [ov_lo, ov_hi, mk_st_same, mk_st_ne, mk_st_off]; exact a2'
  · simp (disch := omega) only [ov_lo, ov_hi, mk_st_same, mk_st_ne]; exact ⟨trivial, Or.inr trivial⟩
  · simp (disch := omega) only [ov_lo, ov_hi, mk_st_same, mk_st_ne]; exact a4
  · simp (disch := omega) only [ov_lo, ov_hi, mk_st_same, mk_st_ne, mk_st_off]
    refine ⟨trivial, trivial, by omega, fun i hi => ?_⟩
    by_cases c : i = ch % 8
    · subst c
      rw [mk_st_same, mk_st_same]
    · rw [mk_st_ne _ _ _ _ (fun z => c z.2), mk_st_ne _ _ _ _ (fun z => c z.2), mk_st_off _ _ _ _ (by decide), mk_st_off _ _ _ _ (by decide)]
      exact a5.2.2.2 i hi
  · simp (disch := omega) only [ov_lo, ov_hi, mk_st_same, mk_st_ne, mk_st_off]; exact a6
  · simp (disch := omega) only [ov_lo, ov_hi, mk_st_same, mk_st_ne, mk_st_off]; exact a8
  · refine pu_T.ad (M := pu_ov A B) (Nat.le_refl _) a10 (fun j j1 j2 => ⟨⟨?_, ?_, ?_, ?_⟩, fun y hy => ?_, fun y k y1 y2 hk => ?_⟩)
    · simp (disch := omega) only [ov_lo, mk_st_off]
    · simp (disch := omega) only [ov_lo, mk_st_off]
    · simp (disch := omega) only [ov_lo, mk_st_off]
    · simp (disch := omega) only [ov_lo, mk_st_off]
    · simp (disch := omega) only [ov_hi, mk_st_off]
    · simp (disch := omega) only [ov_hi, mk_st_off]
  · simp (disch := omega) only [ov_lo, ov_hi, mk_st_same, mk_st_ne, mk_st_off]; exact a11
  · intro k hk
    refine pu_ok_same (M := pu_ov A B) ?_ ?_ ?_ ?_ (a12 k hk)
    · simp (disch := omega) only [ov_hi, mk_st_off]
    · simp (disch := omega) only [ov_hi, mk_st_off]
    · simp (disch := omega) only [ov_hi, mk_st_off]
    · simp (disch := omega) only [ov_hi, mk_st_off]
theorem cp_lp {B : mk_M} {np : Nat} (h7 : B 68 7 = nI np) (hnp : np ≤ 12) : ∀ d i n : Nat, ∀ R : Nat → Int32, i + d = np → d < n → (∀ j, j < i → R j = B 75 j) → ∃ R' : Nat → Int32, f_X6_oneTick_114 n (nI i) (mk_sr B 76 R) = some (0, mk_sr B 76 R') ∧ ∀ j, j < np → R' j = B 75 j := by
  intro d
  induction d with
  | zero =>
    intro i n R hi hn h
    obtain ⟨n, rfl⟩ : ∃ m, n = m + 1 := ⟨n - 1, by omega⟩
    have e : i = np := by omega
    subst e
    refine ⟨R, ?_, h⟩
    show (if mk_sr B 76 R 68 7 ≤ nI i then some (0, mk_sr B 76 R) else _) = _
    rw [mk_sr_off _ _ _ (by decide), h7, if_pos (nI_le (Nat.le_refl _) (by omega))]
  | succ d ih =>
    intro i n R hi hn h
    obtain ⟨n, rfl⟩ : ∃ m, n = m + 1 := ⟨n - 1, by omega⟩
    obtain ⟨R', e1, e2⟩ := ih (i + 1) n (fun j => if j = i then B 75 i else R j) (by omega) (by omega) (fun j hj => by
      show (if j = i then B 75 i else R j) = _
      by_cases c : j = i
      · rw [if_pos c, c]
      · rw [if_neg c]; exact h j (by omega))
    refine ⟨R', ?_, e2⟩
    rw [← e1]
    show (if mk_sr B 76 R 68 7 ≤ nI i then _ else (if mk_ob (nI i) 13 then none else (if mk_ob (nI i) 13 then none else (f_X6_oneTick_114 n (nI i + 1) (mk_st (mk_sr B 76 R) 76 (nI i).toNatClampNeg (mk_sr B 76 R 75 (nI i).toNatClampNeg)))))) = _
    rw [mk_sr_off _ _ _ (by decide), h7, if_neg (nI_ge (by omega) (by omega)), if_neg (ob_n (by omega) (by omega)), if_neg (ob_n (by omega) (by omega)), cl_n (by omega), mk_sr_off B 76 R (show (75 : Nat) ≠ 76 by decide), mk_sr_st, nI_1]
/-- an idle tick's end -/
theorem id_J {n : Nat} {A B : mk_M} {t np no ch w wd : Nat} {P O : Nat → Nat} (hJ : pu_J n (pu_ov A B) t np no ch w wd P O) :
    ∃ (A' B' : mk_M), f_X5_settle A = some A' ∧ f_X6_oneTick_114 mk_F 0 (mk_st (mk_st (mk_st (mk_st B 68 22 (B 68 22 + 1)) 68 23 (B 68 21)) 68 24 0) 68 9 (B 68 7)) = some (0, B') ∧ (∀ x, 68 ≤ x → A' x = A x) ∧ ((∀ x, x < 68 → B' x = B x) ∧ B' 68 0 = B 68 0) ∧ pu_J n (pu_ov A' B') t np np ch w wd P P := by
  obtain ⟨a1', a2', a3, a4, a5, a6, a7, a8, a9, a10, a11, a12⟩ := hJ
  simp (disch := omega) only [ov_lo, ov_hi] at a1' a2' a3 a4 a5 a6 a8 a11
  obtain ⟨R, e1, e2⟩ := cp_lp (B := mk_st (mk_st (mk_st (mk_st B 68 22 (B 68 22 + 1)) 68 23 (B 68 21)) 68 24 0) 68 9 (B 68 7)) (np := np) (by simp (disch := omega) only [mk_st_ne]; exact a6.2.1) a6.2.2.1 np 0 mk_F (B 76) (by omega) (mk_F_lt (by omega)) (fun j hj => by omega)
  have e0 : mk_sr (mk_st (mk_st (mk_st (mk_st B 68 22 (B 68 22 + 1)) 68 23 (B 68 21)) 68 24 0) 68 9 (B 68 7)) 76 (B 76) = mk_st (mk_st (mk_st (mk_st B 68 22 (B 68 22 + 1)) 68 23 (B 68 21)) 68 24 0) 68 9 (B 68 7) := by
    have := mk_sr_id (mk_st (mk_st (mk_st (mk_st B 68 22 (B 68 22 + 1)) 68 23 (B 68 21)) 68 24 0) 68 9 (B 68 7)) 76
    simp (disch := omega) only [mk_st_off] at this
    exact this
  rw [e0] at e1
  refine ⟨_, _, rfl, e1, ?_, ?_, ?_, ?_, ?_, ?_, ?_, ?_, a7, ?_, a7, ?_, ?_, ?_⟩
  · intro x hx
    simp (disch := omega) only [mk_st_off, mk_sr_off]
  · refine ⟨fun x hx => ?_, ?_⟩
    · simp (disch := omega) only [mk_st_off, mk_sr_off]
    · simp (disch := omega) only [mk_st_ne, mk_sr_off]
  · simp (disch := omega) only [ov_lo, ov_hi, mk_st_same, mk_st_ne, mk_sr_off]; exact a1'
  · simp (disch := omega) only [ov_lo, ov_hi, mk_st_same, mk_st_ne, mk_sr_off, mk_st_off]; exact a2'
  · simp (disch := omega) only [ov_lo, ov_hi, mk_st_same, mk_st_ne, mk_sr_off, mk_st_off]; exact ⟨trivial, Or.inl trivial⟩
  · simp (disch := omega) only [ov_lo, ov_hi, mk_st_same, mk_st_ne, mk_sr_off]; exact ⟨by rw [a4.1], by rw [a1'.1, a1'.2.1], a4.2.2⟩
  · simp (disch := omega) only [ov_lo, ov_hi, mk_st_same, mk_st_ne, mk_sr_off, mk_st_off]; exact a5
  · simp (disch := omega) only [ov_lo, ov_hi, mk_st_same, mk_st_ne, mk_sr_off, mk_st_off]; exact a6
  · simp (disch := omega) only [ov_lo, ov_hi, mk_st_same, mk_st_ne, mk_sr_off, mk_st_off, mk_sr_row]
    refine ⟨a6.1, a6.2.1, a6.2.2.1, fun i hi => ⟨?_, ?_, ⟨i, hi, rfl⟩⟩⟩
    · unfold va_cpy
      rw [if_pos (by omega), show 0 + (i - 0) = i by omega]
      exact (a6.2.2.2 i hi).1
    · have := e2 i hi
      simp (disch := omega) only [mk_st_off] at this
      rw [this]
      exact (a6.2.2.2 i hi).2.1
  · refine pu_T.ad (M := pu_ov A B) (Nat.le_refl _) a10 (fun j j1 j2 => ⟨⟨?_, ?_, ?_, ?_⟩, fun y hy => ?_, fun y k y1 y2 hk => ?_⟩)
    · simp (disch := omega) only [ov_lo, mk_st_off, mk_sr_off]
    · simp (disch := omega) only [ov_lo, mk_st_off, mk_sr_off]
    · simp (disch := omega) only [ov_lo, mk_st_off, mk_sr_off]
    · simp (disch := omega) only [ov_lo, mk_st_off, mk_sr_off]
    · simp (disch := omega) only [ov_hi, mk_st_off, mk_sr_off]
    · simp (disch := omega) only [ov_hi, mk_st_off, mk_sr_off]
  · simp (disch := omega) only [ov_lo, ov_hi, mk_st_same, mk_st_ne, mk_sr_off, mk_st_off]; exact a11
  · intro k hk
    refine pu_ok_same (M := pu_ov A B) ?_ ?_ ?_ ?_ (a12 k hk)
    · simp (disch := omega) only [ov_hi, mk_st_off, mk_sr_off]
    · simp (disch := omega) only [ov_hi, mk_st_off, mk_sr_off]
    · simp (disch := omega) only [ov_hi, mk_st_off, mk_sr_off]
    · simp (disch := omega) only [ov_hi, mk_st_off, mk_sr_off]
theorem fg_no {A : mk_M} {id : Nat} (i2 : id ≤ 12) (h : A (16 + 4 * id) 4 = 0 ∨ ¬ A (16 + 4 * id) 9 = 0) : f_X5_forgetIfLeft (nI id) A = some A := by
  have ho : ¬ mk_ob (nI id) 13 := ob_n (by omega) (by omega)
  have ec : (nI id).toNatClampNeg = id := cl_n (by omega)
  unfold f_X5_forgetIfLeft
  rw [if_neg ho]
  simp only [if_neg ho, ec]
  by_cases c : A (16 + 4 * id) 4 = 0
  · rw [if_pos c]
  · rcases h with h | h
    · exact absurd h c
    · rw [if_neg c, if_neg h]
theorem lv_no {B : mk_M} {id pe : Nat} (i2 : id ≤ 12) (hp : f_X6_pending (nI id) B = some (nI pe)) (hpe : pe ≤ 8) (h : B 70 id = 0 ∨ 0 < pe) : f_X6_leave (nI id) B = some B := by
  have ho : ¬ mk_ob (nI id) 13 := ob_n (by omega) (by omega)
  have ec : (nI id).toNatClampNeg = id := cl_n (by omega)
  unfold f_X6_leave
  rw [if_neg ho]
  simp only [if_neg ho, ec]
  by_cases c1 : B 69 id = 0
  · rw [if_pos c1]
  · by_cases c : B 70 id = 0
    · rw [if_neg c1, if_pos c]
    · rcases h with h | h
      · exact absurd h c
      · rw [if_neg c1, if_neg c, hp, Option.bind_some, if_neg (nle0 h (by omega))]
