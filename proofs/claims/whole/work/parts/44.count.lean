/-! sums over the tasks by their numbers, and by their places; count -/
theorem pu_sum_congr {f g : Nat → Nat} {n : Nat} (h : ∀ j, j < n → f j = g j) : pu_sum f n = pu_sum g n := by
  induction n with
  | zero => rfl
  | succ n ih => rw [pu_sum, pu_sum, ih (fun j hj => h j (by omega)), h n (by omega)]
theorem pu_sum_one {g f : Nat → Nat} {n a v : Nat} (ha : a < n) (h1 : f a = g a + v) (h2 : ∀ j, j < n → j ≠ a → f j = g j) : pu_sum f n = pu_sum g n + v := by
  induction n with
  | zero => omega
  | succ n ih =>
    rw [pu_sum, pu_sum]
    by_cases h : a = n
    · subst h
      rw [h1, pu_sum_congr (g := g) (fun j hj => h2 j (by omega) (by omega))]
      omega
    · rw [ih (by omega) (fun j hj hn => h2 j (by omega) hn), h2 n (by omega) (fun q => h q.symm)]
      omega
/-- a sum over the numbers 1 to 12 of those that stand at the first k places is the sum over these places -/
theorem pu_perm (f : Nat → Nat) (P : Nat → Nat) : ∀ (k : Nat), (∀ i, i < k → 1 ≤ P i ∧ P i ≤ 12) → (∀ i j, i < k → j < k → P i = P j → i = j) → ∀ (g : Nat → Nat), (∀ id, 1 ≤ id → id ≤ 12 → (pu_kn P k id → g id = f id) ∧ (¬ pu_kn P k id → g id = 0)) → pu_sum (fun j => g (j + 1)) 12 = pu_sum (fun i => f (P i)) k := by
  intro k
  induction k with
  | zero =>
    intro _ _ g hg
    have e : pu_sum (fun j => g (j + 1)) 12 = pu_sum (fun _ => 0) 12 := pu_sum_congr (fun j hj => (hg (j + 1) (by omega) (by omega)).2 (fun ⟨i, hi, _⟩ => by omega))
    rw [e]; rfl
  | succ k ih =>
    intro hr hi g hg
    obtain ⟨r1, r2⟩ := hr k (by omega)
    have hnk : ¬ pu_kn P k (P k) := fun ⟨i, h1, h2⟩ => by have := hi i k (by omega) (by omega) h2; omega
    have e := ih (fun i h => hr i (by omega)) (fun i j h1 h2 h3 => hi i j (by omega) (by omega) h3) (fun id => if id = P k then 0 else g id) (fun id h1 h2 => by
      refine ⟨fun hk => ?_, fun hk => ?_⟩
      · have hne : id ≠ P k := fun q => hnk (by rw [← q]; exact hk)
        rw [if_neg hne]
        obtain ⟨i, a, b⟩ := hk
        exact (hg id h1 h2).1 ⟨i, by omega, b⟩
      · by_cases q : id = P k
        · rw [if_pos q]
        · rw [if_neg q]
          refine (hg id h1 h2).2 (fun ⟨i, a, b⟩ => ?_)
          by_cases c : i = k
          · subst c; exact q b.symm
          · exact hk ⟨i, by omega, b⟩)
    show _ = pu_sum (fun i => f (P i)) k + f (P k)
    rw [← e]
    refine pu_sum_one (a := P k - 1) (by omega) ?_ (fun j hj hne => ?_)
    · show g (P k - 1 + 1) = (if P k - 1 + 1 = P k then 0 else _) + _
      rw [show P k - 1 + 1 = P k by omega, if_pos rfl, (hg (P k) r1 r2).1 ⟨k, by omega, rfl⟩]
      omega
    · show g (j + 1) = if j + 1 = P k then 0 else g (j + 1)
      rw [if_neg (by omega)]
theorem pu_sum_le {g : Nat → Nat} {n b : Nat} (h : ∀ j, j < n → g j ≤ b) : pu_sum g n ≤ n * b := by
  induction n with
  | zero => exact Nat.zero_le _
  | succ n ih =>
    rw [pu_sum, Nat.succ_mul]
    exact Nat.add_le_add (ih (fun j hj => h j (by omega))) (h n (by omega))
theorem pj_lp {M : mk_M} {pe : Nat → Nat} (h : ∀ id, 1 ≤ id → id ≤ 12 → M (16 + 4 * id) 9 = nI (pe id) ∧ pe id ≤ 8) : ∀ d i n : Nat, i + d = 12 → d < n → f_X5_pendingJobs_4 n (nI (pu_sum (fun j => pe (j + 1)) i)) (nI (i + 1)) M = some (nI (pu_sum (fun j => pe (j + 1)) 12)) := by
  intro d
  induction d with
  | zero =>
    intro i n hi hn
    obtain ⟨n, rfl⟩ : ∃ m, n = m + 1 := ⟨n - 1, by omega⟩
    have hi : i = 12 := by omega
    subst hi
    show (if (12 : Int32) < nI 13 then some _ else _) = _
    rw [if_pos (by decide)]
  | succ d ih =>
    intro i n hi hn
    obtain ⟨n, rfl⟩ : ∃ m, n = m + 1 := ⟨n - 1, by omega⟩
    have ho : ¬ mk_ob (nI (i + 1)) 13 := ob_n (by omega) (by decide)
    show (if (12 : Int32) < nI (i + 1) then some (nI (pu_sum (fun j => pe (j + 1)) i)) else (if mk_ob (nI (i + 1)) 13 then none else (f_X5_pendingJobs_4 n (nI (pu_sum (fun j => pe (j + 1)) i) + M (16 + 4 * (nI (i + 1)).toNatClampNeg) 9) (nI (i + 1) + 1) M))) = _
    rw [if_neg (show ¬ (12 : Int32) < nI (i + 1) from nI_nlt (a := 12) (b := i + 1) (by omega) (by decide)), if_neg ho, cl_n (by omega), (h (i + 1) (by omega) (by omega)).1, nI_add, nI_1]
    exact ih (i + 1) n (by omega) (by omega)
/-- the reference's sum: 4 how many are known, 6 the pending jobs -/
theorem sm_lp {M : mk_M} {what : Int32} {g : Nat → Nat} (hw : what = 4 ∨ what = 6) (h0 : ∀ id, 1 ≤ id → id ≤ 12 → M 69 id = 0 → g id = 0) (h4 : ∀ id, 1 ≤ id → id ≤ 12 → ¬ M 69 id = 0 → what = 4 → g id = 1) (h6 : ∀ id, 1 ≤ id → id ≤ 12 → ¬ M 69 id = 0 → what = 6 → f_X6_pending (nI id) M = some (nI (g id))) : ∀ d i n : Nat, i + d = 12 → d < n → f_X6_sum_4 n what (nI (pu_sum (fun j => g (j + 1)) i)) (nI (i + 1)) M = some (nI (pu_sum (fun j => g (j + 1)) 12)) := by
  intro d
  induction d with
  | zero =>
    intro i n hi hn
    obtain ⟨n, rfl⟩ : ∃ m, n = m + 1 := ⟨n - 1, by omega⟩
    have hi : i = 12 := by omega
    subst hi
    show (if (13 : Int32) ≤ nI 13 then some _ else _) = _
    rw [if_pos (by decide)]
  | succ d ih =>
    intro i n hi hn
    obtain ⟨n, rfl⟩ : ∃ m, n = m + 1 := ⟨n - 1, by omega⟩
    have ho : ¬ mk_ob (nI (i + 1)) 13 := ob_n (by omega) (by decide)
    have ec : (nI (i + 1)).toNatClampNeg = i + 1 := cl_n (by omega)
    have key := ih (i + 1) n (by omega) (by omega)
    have e1 : f_X6_sum_4 (n + 1) what (nI (pu_sum (fun j => g (j + 1)) i)) (nI (i + 1)) M = (if M 69 (i + 1) = 0 then f_X6_sum_30 (f_X6_sum_4 n) what (nI (pu_sum (fun j => g (j + 1)) i)) (nI (i + 1)) M else if what = 4 then f_X6_sum_31 (f_X6_sum_4 n) what (nI (i + 1)) (nI (pu_sum (fun j => g (j + 1)) i) + 1) M else f_X6_sum_30 (f_X6_sum_4 n) what (nI (pu_sum (fun j => g (j + 1)) i)) (nI (i + 1)) M) := by
      show (if (13 : Int32) ≤ nI (i + 1) then _ else (if mk_ob (nI (i + 1)) 13 then none else _)) = _
      rw [if_neg (show ¬ (13 : Int32) ≤ nI (i + 1) from nI_ge (a := i + 1) (b := 13) (by omega) (by decide)), if_neg ho]
      simp only [ec]
    have e2 : ∀ z : Int32, f_X6_sum_31 (f_X6_sum_4 n) what (nI (i + 1)) z M = (if M 69 (i + 1) = 0 then f_X6_sum_4 n what z (nI (i + 1) + 1) M else if what = 6 then (f_X6_pending (nI (i + 1)) M).bind (fun r => f_X6_sum_4 n what (z + r) (nI (i + 1) + 1) M) else f_X6_sum_4 n what z (nI (i + 1) + 1) M) := by
      intro z
      unfold f_X6_sum_31
      rw [if_neg ho]
      simp only [ec]
    rw [e1]
    unfold f_X6_sum_30
    rw [e2, e2]
    have es : pu_sum (fun j => g (j + 1)) (i + 1) = pu_sum (fun j => g (j + 1)) i + g (i + 1) := rfl
    by_cases c : M 69 (i + 1) = 0
    · simp only [if_pos c]
      rw [nI_1]
      rw [es, h0 (i + 1) (by omega) (by omega) c, Nat.add_zero] at key
      exact key
    · simp only [if_neg c]
      rcases hw with rfl | rfl
      · rw [if_pos rfl, if_neg (by decide), nI_1, nI_1]
        rw [es, h4 (i + 1) (by omega) (by omega) c rfl] at key
        exact key
      · rw [if_neg (by decide), if_pos rfl, h6 (i + 1) (by omega) (by omega) c rfl, Option.bind_some, nI_1, nI_add]
        rw [es] at key
        exact key
theorem wi_n (M : mk_M) (a lo hi : Int32) : f_X6_within a lo hi M = some (if a < lo then 0 else if hi < a then 0 else 1) := by
  unfold f_X6_within
  by_cases h1 : a < lo
  · rw [if_pos h1, if_pos h1]
  · by_cases h2 : hi < a
    · rw [if_neg h1, if_pos h2, if_neg h1, if_pos h2]
    · rw [if_neg h1, if_neg h2, if_neg h1, if_neg h2]
theorem pu_J.pend {n : Nat} {M : mk_M} {t np no ch w wd : Nat} {P O : Nat → Nat} (h : pu_J n M t np no ch w wd P O) {id : Nat} (h1 : 1 ≤ id) (h2 : id ≤ 12) : M (16 + 4 * id) 9 = nI (pu_v M (16 + 4 * id) 9) ∧ pu_v M (16 + 4 * id) 9 ≤ 8 ∧ (M 69 id = 0 → pu_v M (16 + 4 * id) 9 = 0) ∧ (¬ M 69 id = 0 → f_X6_pending (nI id) M = some (nI (pu_v M (16 + 4 * id) 9))) ∧ (¬ M 69 id = 0 ↔ pu_kn P np id) := by
  have hn5 : n ≤ 512 := h.1.2.2.2
  obtain ⟨-, -, -, -, -, -, -, -, -, a10, -⟩ := h
  obtain ⟨b1, b2⟩ := a10 id h1 h2
  unfold pu_v
  by_cases hk : pu_kn P np id
  · obtain ⟨c1, c2⟩ := b1 hk
    obtain ⟨jb, pe, d1, d2, d3, d4⟩ := c2.jb hn5
    rw [d3, cl_n (by omega)]
    exact ⟨rfl, by omega, fun q => by rw [c1] at q; exact absurd q n1_0, fun _ => pe_n h2 d1, fun _ => hk, fun _ => by rw [c1]; exact n1_0⟩
  · obtain ⟨c1, c2⟩ := b2 hk
    rw [c2]
    exact ⟨rfl, by decide, fun _ => rfl, fun q => absurd c1 q, fun q => absurd c1 q, fun q => absurd q hk⟩
theorem pu_ag.pending {M M' : mk_M} (h : pu_ag M M') : True := trivial
theorem pu_s12 : mk_S12 pu_I := by
  intro n M a1 hn hI
  have hI' := hI
  obtain ⟨t, np, no, ch, w, wd, P, O, hJ⟩ := hI'
  have hJ0 : pu_J (n + 1) (mk_st M 68 0 0) t np no ch w wd P O := hJ.up (Nat.le_succ n) hn (pu_ag.th M 0)
  have hJ' := hJ
  obtain ⟨a1', a2, a3, a4, a5, a6, a7, a8, a9, a10, a11, a12⟩ := hJ'
  have s0 : ∀ k, k ≠ 0 → mk_st M 68 0 0 68 k = M 68 k := fun k hk => mk_st_ne M 68 0 0 (fun h => hk h.2)
  by_cases hr : a1 < 0 ∨ 8 < a1
  · refine ⟨((1, 0), M), (0, mk_st M 68 0 1), ?_, Or.inr rfl, ?_, by show mk_st M 68 0 1 68 0 = 1; rw [mk_st_same], fun h => absurd h n1_0, hI.up (Nat.le_succ n) hn (pu_ag.th M 1)⟩
    · have hne : ∀ k : Nat, k ≤ 8 → ¬ a1 = nI k := by
        intro k hk q
        rcases hr with h | h
        · rw [q] at h; exact nI_pos (by omega) h
        · rw [q] at h; exact (show ¬ nI 8 < nI k from nI_nlt hk (by decide)) h
      unfold f_X5_count
      rw [if_neg (show ¬ a1 = (0 : Int32) from hne 0 (by decide)), if_neg (show ¬ a1 = (1 : Int32) from hne 1 (by decide)), if_neg (show ¬ a1 = (2 : Int32) from hne 2 (by decide)), if_neg (show ¬ a1 = (3 : Int32) from hne 3 (by decide)), if_neg (show ¬ a1 = (4 : Int32) from hne 4 (by decide)), if_neg (show ¬ a1 = (5 : Int32) from hne 5 (by decide)), if_neg (show ¬ a1 = (6 : Int32) from hne 6 (by decide)), if_neg (show ¬ a1 = (7 : Int32) from hne 7 (by decide)), if_neg (show ¬ a1 = (8 : Int32) from hne 8 (by decide))]
    · show f_X6_count a1 M = _
      unfold f_X6_count
      have e : f_X6_within a1 0 8 M = some 0 := by
        rw [wi_n]
        rcases hr with h | h
        · rw [if_pos h]
        · by_cases q : a1 < 0
          · rw [if_pos q]
          · rw [if_neg q, if_pos h]
      rw [e, Option.bind_some, go_0]
      rfl
  · have h0 : ¬ a1 < 0 := fun h => hr (Or.inl h)
    have h8 : ¬ 8 < a1 := fun h => hr (Or.inr h)
    obtain ⟨k, hk31, rfl⟩ := nI_of h0
    have hk8 : k ≤ 8 := by
      rcases Nat.lt_or_ge 8 k with q | q
      · exact absurd (show nI 8 < nI k from nI_lt q hk31) h8
      · exact q
    have e : f_X6_within (nI k) 0 8 M = some 1 := by rw [wi_n, if_neg h0, if_neg h8]
    have pick : ∀ v : Int32, f_X5_count (nI k) M = some ((0, v), M) → f_X6_count (nI k) M = some (v, mk_st M 68 0 0) → ∃ (q : (Nat × Int32) × mk_M) (r : Int32 × mk_M), f_X5_count (nI k) M = some q ∧ (q.1.1 = 0 ∨ q.1.1 = 1) ∧ f_X6_count (nI k) q.2 = some r ∧ r.2 68 0 = fc_L_count q ∧ (fc_L_count q = 0 → q.1.2 = r.1) ∧ pu_I (n + 1) r.2 :=
      fun v h1 h2 => ⟨_, _, h1, Or.inl rfl, h2, by show mk_st M 68 0 0 68 0 = 0; rw [mk_st_same], fun _ => rfl, hI.up (Nat.le_succ n) hn (pu_ag.th M 0)⟩
    have hk : k = 0 ∨ k = 1 ∨ k = 2 ∨ k = 3 ∨ k = 4 ∨ k = 5 ∨ k = 6 ∨ k = 7 ∨ k = 8 := by omega
    have e6 : f_X6_count (nI k) M = ((some (1, mk_st M 68 0 0) : Option (Int32 × mk_M)).bind (fun r_4 => (if r_4.1 = 0 then (some (0, r_4.2)) else (if nI k = 0 then (some (r_4.2 68 21, r_4.2)) else (if nI k = 1 then (some (r_4.2 68 22, r_4.2)) else (if nI k = 2 then (some (r_4.2 68 24, r_4.2)) else (if nI k = 3 then (some (r_4.2 68 25, r_4.2)) else (if nI k = 4 then ((f_X6_sum (nI k) r_4.2).bind (fun r_12 => (some (r_12, r_4.2)))) else (if nI k = 5 then (some (r_4.2 68 9, r_4.2)) else (if nI k = 6 then ((f_X6_sum (nI k) r_4.2).bind (fun r_17 => (some (r_17, r_4.2)))) else (if nI k = 7 then (some (r_4.2 68 26, r_4.2)) else (if nI k = 8 then (some ((r_4.2 68 21) - (r_4.2 68 23), r_4.2)) else ((f_X6_sum (nI k) r_4.2).bind (fun r_22 => (some (r_22, r_4.2)))))))))))))))) := by
      unfold f_X6_count
      rw [e, Option.bind_some, go_111]
    rcases hk with rfl | rfl | rfl | rfl | rfl | rfl | rfl | rfl | rfl
    · exact pick (M 0 9) rfl (by rw [e6]; show some (mk_st M 68 0 0 68 21, mk_st M 68 0 0) = _; rw [s0 21 (by decide), a1'.2.1, a1'.1])
    · exact pick (M 0 10) rfl (by rw [e6]; show some (mk_st M 68 0 0 68 22, mk_st M 68 0 0) = _; rw [s0 22 (by decide), a4.1])
    · refine pick (M 0 8) ?_ (by rw [e6]; show some (mk_st M 68 0 0 68 24, mk_st M 68 0 0) = _; rw [s0 24 (by decide), a3.1])
      show (if M 0 8 = 0 then some ((0, 0), M) else some ((0, 1), M)) = _
      rcases a3.2 with q | q
      · rw [a3.1, q, if_pos rfl]
      · rw [a3.1, q, if_neg n1_0]
    · exact pick (M 14 1) rfl (by rw [e6]; show some (mk_st M 68 0 0 68 25, mk_st M 68 0 0) = _; rw [s0 25 (by decide), a5.1, a5.2.1])
    · refine pick (M 3 1) rfl ?_
      rw [e6]
      show ((f_X6_sum 4 (mk_st M 68 0 0)).bind fun r => some (r, mk_st M 68 0 0)) = _
      have es := sm_lp (M := mk_st M 68 0 0) (what := 4) (g := fun id => if mk_st M 68 0 0 69 id = 0 then 0 else 1) (Or.inl rfl) (fun id _ _ q => by simp only [q, if_pos]) (fun id _ _ q _ => by simp only [q, if_false]) (fun id _ _ _ q => absurd q (by decide)) 12 0 mk_F (by omega) (mk_F_lt (by omega))
      have ep := pu_perm (fun _ => 1) P np (fun i hi => (a6.2.2.2 i hi).2.2) a7 (fun id => if mk_st M 68 0 0 69 id = 0 then 0 else 1) (fun id h1 h2 => by
        have hp := hJ0.pend h1 h2
        refine ⟨fun hk => by simp only [hp.2.2.2.2.mpr hk, if_false], fun hk => ?_⟩
        have q : mk_st M 68 0 0 69 id = 0 := Classical.byContradiction fun q => hk (hp.2.2.2.2.mp q)
        simp only [q, if_pos])
      have e1 : ∀ k : Nat, pu_sum (fun _ => 1) k = k := by
        intro k
        induction k with
        | zero => rfl
        | succ k ih => rw [pu_sum, ih]
      rw [ep, e1] at es
      have es' : f_X6_sum 4 (mk_st M 68 0 0) = some (nI np) := es
      rw [es', Option.bind_some, a6.1]
    · exact pick (M 5 1) rfl (by rw [e6]; show some (mk_st M 68 0 0 68 9, mk_st M 68 0 0) = _; rw [s0 9 (by decide), a8.1, a8.2.1])
    · have e5 : f_X5_pendingJobs M = some (nI (pu_sum (fun j => pu_v M (16 + 4 * (j + 1)) 9) 12)) := pj_lp (M := M) (pe := fun id => pu_v M (16 + 4 * id) 9) (fun id h1 h2 => ⟨(hJ.pend h1 h2).1, (hJ.pend h1 h2).2.1⟩) 12 0 mk_F (by omega) (mk_F_lt (by omega))
      refine pick (nI (pu_sum (fun j => pu_v M (16 + 4 * (j + 1)) 9) 12)) ?_ ?_
      · show ((f_X5_pendingJobs M).bind fun r => some ((0, r), M)) = _
        rw [e5]; rfl
      · rw [e6]
        show ((f_X6_sum 6 (mk_st M 68 0 0)).bind fun r => some (r, mk_st M 68 0 0)) = _
        have es : f_X6_sum 6 (mk_st M 68 0 0) = some (nI (pu_sum (fun j => pu_v (mk_st M 68 0 0) (16 + 4 * (j + 1)) 9) 12)) := sm_lp (M := mk_st M 68 0 0) (what := 6) (g := fun id => pu_v (mk_st M 68 0 0) (16 + 4 * id) 9) (Or.inr rfl) (fun id h1 h2 q => (hJ0.pend h1 h2).2.2.1 q) (fun id _ _ _ q => absurd q (by decide)) (fun id h1 h2 q _ => (hJ0.pend h1 h2).2.2.2.1 q) 12 0 mk_F (by omega) (mk_F_lt (by omega))
        have ec : pu_sum (fun j => pu_v (mk_st M 68 0 0) (16 + 4 * (j + 1)) 9) 12 = pu_sum (fun j => pu_v M (16 + 4 * (j + 1)) 9) 12 := pu_sum_congr (fun j hj => by unfold pu_v; rw [mk_st_off M 68 0 0 (by omega)])
        rw [es, ec]; rfl
    · exact pick (M 0 12) rfl (by rw [e6]; show some (mk_st M 68 0 0 68 26, mk_st M 68 0 0) = _; rw [s0 26 (by decide), a4.2.2])
    · exact pick (M 0 9 - M 0 11) rfl (by rw [e6]; show some (mk_st M 68 0 0 68 21 - mk_st M 68 0 0 68 23, mk_st M 68 0 0) = _; rw [s0 21 (by decide), s0 23 (by decide), a1'.2.1, a1'.1, a4.2.1])
