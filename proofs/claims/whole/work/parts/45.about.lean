/-! about -/
theorem jj_n {jb i : Nat} (h1 : jb ≤ 1000) (h2 : i ≤ 8) : (nI jb - 7 + nI i).toInt = (jb : Int) - 7 + i := by
  rcases Nat.lt_or_ge (jb + i) 7 with q | q
  · have e1 : nI jb - 7 + nI i = nI (jb + i) - nI 7 := by
      rw [← nI_add, Int32.sub_eq_add_neg, Int32.sub_eq_add_neg, Int32.add_assoc, Int32.add_assoc, Int32.add_comm (-7)]
      rfl
    rw [e1, pk_sub_toInt (by omega) (by omega)]; omega
  · have e1 : nI jb - 7 + nI i = nI (jb + i - 7) := by
      rw [← pk_sub (show 7 ≤ jb + i by omega), ← nI_add, Int32.sub_eq_add_neg, Int32.sub_eq_add_neg, Int32.add_assoc, Int32.add_assoc, Int32.add_comm (-7)]
      rfl
    rw [e1, nI_toInt (by omega)]; omega
theorem pu_sum_front (f : Nat → Nat) (n : Nat) : pu_sum f (n + 1) = f 0 + pu_sum (fun i => f (i + 1)) n := by
  induction n with
  | zero => show 0 + f 0 = f 0 + 0; omega
  | succ n ih =>
    show pu_sum f (n + 1) + f (n + 1) = f 0 + (pu_sum (fun i => f (i + 1)) n + f (n + 1))
    rw [ih]; omega
theorem pu_sum_rev (f : Nat → Nat) (n : Nat) : pu_sum (fun i => f (n - 1 - i)) n = pu_sum f n := by
  induction n with
  | zero => rfl
  | succ n ih =>
    rw [pu_sum_front]
    show f (n + 1 - 1 - 0) + pu_sum (fun i => f (n + 1 - 1 - (i + 1))) n = pu_sum f n + f n
    rw [show n + 1 - 1 - 0 = n by omega, ← ih, pu_sum_congr (g := fun i => f (n - 1 - i)) (fun j hj => by rw [show n + 1 - 1 - (j + 1) = n - 1 - j by omega])]
    omega
theorem pu_sum_zero {f : Nat → Nat} {n : Nat} (h : ∀ j, j < n → f j = 0) : pu_sum f n = 0 := by
  induction n with
  | zero => rfl
  | succ n ih => rw [pu_sum, ih (fun j hj => h j (by omega)), h n (by omega)]
theorem pu_sum_tail {f : Nat → Nat} {a : Nat} (h : ∀ j, j < a → f j = 0) : ∀ n : Nat, pu_sum f (a + n) = pu_sum (fun i => f (a + i)) n := by
  intro n
  induction n with
  | zero => exact pu_sum_zero h
  | succ n ih =>
    show pu_sum f (a + n) + f (a + n) = _
    rw [ih]; rfl
/-- late: by the reference's rows -/
def pu_lt (M : mk_M) (id j : Nat) : Nat := if M 68 21 ≤ M 83 (8 * id + j % 8) + M 72 id then 0 else 1
theorem la_lp {M : mk_M} {id jb pe : Nat} (b : Int32) (hid : id ≤ 12) (h : pu_jb M id jb pe) : ∀ d i n : Nat, i + d = 8 → d < n → f_X6_late_17 n (nI id) (b + nI (pu_sum (fun i => if 8 ≤ i + pe then pu_lt M id (jb + i - 7) else 0) i)) (nI jb - 7 + nI i) M = some (b + nI (pu_sum (fun i => if 8 ≤ i + pe then pu_lt M id (jb + i - 7) else 0) 8)) := by
  intro d
  have h' := h
  obtain ⟨a1, a2, a3, a5, a4⟩ := h'
  have ho : ¬ mk_ob (nI id) 13 := ob_n (by omega) (by omega)
  have ec : (nI id).toNatClampNeg = id := cl_n (by omega)
  induction d with
  | zero =>
    intro i n hi hn
    obtain ⟨n, rfl⟩ : ∃ m, n = m + 1 := ⟨n - 1, by omega⟩
    have hi : i = 8 := by omega
    subst hi
    show (if mk_ob (nI id) 13 then none else (if M 78 (nI id).toNatClampNeg < nI jb - 7 + nI 8 then some _ else _)) = _
    rw [if_neg ho]
    simp only [ec, a1]
    rw [if_pos]
    rw [Int32.lt_iff_toInt_lt, jj_n (by omega) (by omega), nI_toInt (by omega)]
    omega
  | succ d ih =>
    intro i n hi hn
    obtain ⟨n, rfl⟩ : ∃ m, n = m + 1 := ⟨n - 1, by omega⟩
    have key := ih (i + 1) n (by omega) (by omega)
    have en : nI jb - 7 + nI i + 1 = nI jb - 7 + nI (i + 1) := by rw [← nI_1, Int32.add_assoc]
    have tI := jj_n (jb := jb) (i := i) (by omega) (by omega)
    have hlt : ¬ nI jb < nI jb - 7 + nI i := by
      rw [Int32.lt_iff_toInt_lt, tI, nI_toInt (by omega)]; omega
    generalize hS : pu_sum (fun i => if 8 ≤ i + pe then pu_lt M id (jb + i - 7) else 0) i = S
    have es : pu_sum (fun i => if 8 ≤ i + pe then pu_lt M id (jb + i - 7) else 0) (i + 1) = S + (if 8 ≤ i + pe then pu_lt M id (jb + i - 7) else 0) := by rw [← hS]; rfl
    rw [es] at key
    have e1 : f_X6_late_17 (n + 1) (nI id) (b + nI S) (nI jb - 7 + nI i) M = ((f_X6_isPending (nI id) (nI jb - 7 + nI i) M).bind (fun r_6 => (if r_6 = 0 then (f_X6_late_17 n (nI id) (b + nI S) (nI jb - 7 + nI (i + 1)) M) else ((f_X6_at (nI id) (nI jb - 7 + nI i) M).bind (fun r_9 => (if mk_ob r_9 104 then none else (if (M 68 21) ≤ ((M 83 (r_9).toNatClampNeg) + (M 72 id)) then (f_X6_late_17 n (nI id) (b + nI S) (nI jb - 7 + nI (i + 1)) M) else (f_X6_late_17 n (nI id) (b + nI S + 1) (nI jb - 7 + nI (i + 1)) M)))))))) := by
      show (if mk_ob (nI id) 13 then none else (if M 78 (nI id).toNatClampNeg < nI jb - 7 + nI i then some _ else ((f_X6_isPending (nI id) (nI jb - 7 + nI i) M).bind (fun r_6 => (if r_6 = 0 then (f_X6_late_17 n (nI id) (b + nI S) (nI jb - 7 + nI i + 1) M) else ((f_X6_at (nI id) (nI jb - 7 + nI i) M).bind (fun r_9 => (if mk_ob r_9 104 then none else (if mk_ob (nI id) 13 then none else (if (M 68 21) ≤ ((M 83 (r_9).toNatClampNeg) + (M 72 (nI id).toNatClampNeg)) then (f_X6_late_17 n (nI id) (b + nI S) (nI jb - 7 + nI i + 1) M) else (f_X6_late_17 n (nI id) (b + nI S + 1) (nI jb - 7 + nI i + 1) M))))))))))) = _
      rw [if_neg ho]
      simp only [if_neg ho, ec, a1, en]
      rw [if_neg hlt]
    rw [e1]
    rcases Nat.lt_or_ge (jb + i) 8 with q | q
    · have hp : f_X6_isPending (nI id) (nI jb - 7 + nI i) M = some 0 := by
        apply ip_0
        rw [Int32.lt_iff_toInt_lt, tI]
        have e : (1 : Int32).toInt = 1 := by decide
        omega
      rw [hp, Option.bind_some, if_pos rfl]
      rw [if_neg (by omega), Nat.add_zero] at key
      exact key
    · have ej : nI jb - 7 + nI i = nI (jb + i - 7) := by
        apply Int32.toInt_inj.mp
        rw [tI, nI_toInt (by omega)]; omega
      rw [ej, ip_n hid h (by omega) (by omega) (by omega), Option.bind_some]
      by_cases c : 8 ≤ i + pe
      · rw [if_pos (show jb < jb + i - 7 + pe by omega), if_neg n1_0, at_n M hid (by omega), Option.bind_some, if_neg (ob_n (by omega) (by decide)), cl_n (by omega)]
        rw [if_pos c] at key
        unfold pu_lt at key
        by_cases cl : M 68 21 ≤ M 83 (8 * id + (jb + i - 7) % 8) + M 72 id
        · rw [if_pos cl]
          rw [if_pos cl, Nat.add_zero] at key
          exact key
        · rw [if_neg cl]
          rw [if_neg cl, ← nI_1, ← Int32.add_assoc] at key
          exact key
      · rw [if_neg (show ¬ jb < jb + i - 7 + pe by omega), if_pos rfl]
        rw [if_neg c, Nat.add_zero] at key
        exact key
/-- late: the class's count, from the latest job back -/
theorem lc_lp {M : mk_M} {x jb pe : Nat} {L : Nat → Nat} {now : Int32} (b : Int32) (h5 : M x 5 = nI jb) (h9 : M x 9 = nI pe) (hjb : jb ≤ 512) (hpe : pe ≤ jb) (hL : ∀ k, k < pe → f_X3_isLate x (nI ((jb - k) % 8)) now M = some (nI (L k)) ∧ L k ≤ 1) : ∀ d i n : Nat, i + d = pe → d < n → f_X3_lateJobs_7 x n now (b + nI (pu_sum L i)) (nI i) M = some (b + nI (pu_sum L pe)) := by
  intro d
  induction d with
  | zero =>
    intro i n hi hn
    obtain ⟨n, rfl⟩ : ∃ m, n = m + 1 := ⟨n - 1, by omega⟩
    have hi : i = pe := by omega
    subst hi
    show (if M x 9 ≤ nI i then some _ else _) = _
    rw [h9, if_pos (nI_le (Nat.le_refl _) (by omega))]
  | succ d ih =>
    intro i n hi hn
    obtain ⟨n, rfl⟩ : ∃ m, n = m + 1 := ⟨n - 1, by omega⟩
    have key := ih (i + 1) n (by omega) (by omega)
    obtain ⟨l1, l2⟩ := hL i (by omega)
    show (if M x 9 ≤ nI i then some _ else ((f_X5_slotOf (M x 5 - nI i) M).bind (fun r_3 => ((f_X3_isLate x r_3 now M).bind (fun r_5 => (if r_5 = 0 then (f_X3_lateJobs_7 x n now (b + nI (pu_sum L i)) (nI i + 1) M) else (f_X3_lateJobs_7 x n now (b + nI (pu_sum L i) + 1) (nI i + 1) M))))))) = _
    rw [h9, if_neg (nI_ge (by omega) (by omega)), h5, pk_sub (by omega), sl_n M (by omega), Option.bind_some, l1, Option.bind_some, nI_1]
    have es : pu_sum L (i + 1) = pu_sum L i + L i := rfl
    rw [es] at key
    rcases Nat.lt_or_ge (L i) 1 with q | q
    · have e0 : L i = 0 := by omega
      rw [e0, Nat.add_zero] at key
      rw [e0, nI_0, if_pos rfl]
      exact key
    · have e0 : L i = 1 := by omega
      rw [e0, ← nI_1, ← Int32.add_assoc] at key
      rw [e0, if_neg (show ¬ nI 1 = 0 by decide)]
      exact key
theorem pu_s8 : mk_S8 pu_I := by
  intro n M a1 a2 hn hI
  have hI' := hI
  obtain ⟨t, np, no, ch, w, wd, P, O, hJ⟩ := hI'
  have hJ0 : pu_J (n + 1) (mk_st M 68 0 0) t np no ch w wd P O := hJ.up (Nat.le_succ n) hn (pu_ag.th M 0)
  have s0 : ∀ k, k ≠ 0 → mk_st M 68 0 0 68 k = M 68 k := fun k hk => mk_st_ne M 68 0 0 (fun h => hk h.2)
  have sr : ∀ x, x ≠ 68 → mk_st M 68 0 0 x = M x := fun x hx => mk_st_off M 68 0 0 hx
  have hJ' := hJ
  obtain ⟨a1', a2', a3, a4, a5, a6, a7, a8, a9, a10, a11, a12⟩ := hJ'
  rcases hJ.kn a1 with ⟨id, k, i1, i2, rfl, hk, hP, k1, k2⟩ | ⟨-, k1, k2⟩
  · obtain ⟨per, dl, lo, hi, jb, pe, b1, b2, b3, b4, b5, b6, b7, b8, b9, b10, b11, b12, b13⟩ := hJ.tk i1 i2 hk hP
    have ho : ¬ mk_ob (nI id) 13 := ob_n (by omega) (by omega)
    have ec : (nI id).toNatClampNeg = id := cl_n (by omega)
    have hjb0 : pu_jb (mk_st M 68 0 0) id jb pe := by
      refine ⟨by rw [sr 78 (by decide)]; exact b6.2.1, by omega, b8.2.2, by omega, fun j h1 h2 h3 => ?_⟩
      rw [sr 86 (by decide)]; exact (b9 j h1 h2 h3).2.2.2.1
    by_cases hr : a2 < 0 ∨ 8 < a2
    · have hne : ∀ k : Nat, k ≤ 8 → ¬ a2 = nI k := by
        intro k hk q
        rcases hr with h | h
        · rw [q] at h; exact nI_pos (by omega) h
        · rw [q] at h; exact (show ¬ nI 8 < nI k from nI_nlt hk (by decide)) h
      refine ⟨((1, 0), M), (0, mk_st M 68 0 2), ?_, Or.inr (Or.inr rfl), ?_, by show mk_st M 68 0 2 68 0 = 2; rw [mk_st_same], fun h => absurd h (show ¬ (2 : Int32) = 0 by decide), hI.up (Nat.le_succ n) hn (pu_ag.th M 2)⟩
      · unfold f_X5_about
        rw [k1, Option.bind_some, if_neg n1_0, if_neg ho, if_neg (show ¬ a2 = (0 : Int32) from hne 0 (by decide)), if_neg (show ¬ a2 = (1 : Int32) from hne 1 (by decide)), if_neg (show ¬ a2 = (2 : Int32) from hne 2 (by decide)), if_neg (show ¬ a2 = (3 : Int32) from hne 3 (by decide)), if_neg (show ¬ a2 = (4 : Int32) from hne 4 (by decide)), if_neg (show ¬ a2 = (5 : Int32) from hne 5 (by decide)), if_neg (show ¬ a2 = (6 : Int32) from hne 6 (by decide)), if_neg (show ¬ a2 = (7 : Int32) from hne 7 (by decide)), if_neg (show ¬ a2 = (8 : Int32) from hne 8 (by decide))]
      · show f_X6_about (nI id) a2 M = _
        unfold f_X6_about
        have e : f_X6_within a2 0 8 M = some 0 := by
          rw [wi_n]
          rcases hr with h | h
          · rw [if_pos h]
          · by_cases q : a2 < 0
            · rw [if_pos q]
            · rw [if_neg q, if_pos h]
        rw [k2, Option.bind_some, e, Option.bind_some, go_10]
        rfl
    · have h0 : ¬ a2 < 0 := fun h => hr (Or.inl h)
      have h8 : ¬ 8 < a2 := fun h => hr (Or.inr h)
      obtain ⟨wh, hw31, rfl⟩ := nI_of h0
      have hw8 : wh ≤ 8 := by
        rcases Nat.lt_or_ge 8 wh with q | q
        · exact absurd (show nI 8 < nI wh from nI_lt q hw31) h8
        · exact q
      have e : f_X6_within (nI wh) 0 8 M = some 1 := by rw [wi_n, if_neg h0, if_neg h8]
      have pick : ∀ v : Int32, f_X5_about (nI id) (nI wh) M = some ((0, v), M) → f_X6_about (nI id) (nI wh) M = some (v, mk_st M 68 0 0) → ∃ (q : (Nat × Int32) × mk_M) (r : Int32 × mk_M), f_X5_about (nI id) (nI wh) M = some q ∧ (q.1.1 = 0 ∨ q.1.1 = 3 ∨ q.1.1 = 1) ∧ f_X6_about (nI id) (nI wh) q.2 = some r ∧ r.2 68 0 = fc_L_about q ∧ (fc_L_about q = 0 → q.1.2 = r.1) ∧ pu_I (n + 1) r.2 :=
        fun v h1 h2 => ⟨_, _, h1, Or.inl rfl, h2, by show mk_st M 68 0 0 68 0 = 0; rw [mk_st_same], fun _ => rfl, hI.up (Nat.le_succ n) hn (pu_ag.th M 0)⟩
      have e5 : f_X5_about (nI id) (nI wh) M = (if nI wh = 0 then ((f_X1_placeOf 5 (nI id) M).bind (fun r_9 => (some ((0, r_9), M)))) else (if nI wh = 1 then ((f_X1_placeOf 3 (nI id) M).bind (fun r_13 => (some ((0, r_13), M)))) else (if nI wh = 2 then (some ((0, M (16 + 4 * id) 9), M)) else (if nI wh = 3 then (some ((0, M (16 + 4 * id) 5), M)) else (if nI wh = 4 then (some ((0, M (16 + 4 * id) 6), M)) else (if nI wh = 5 then (some ((0, M (16 + 4 * id) 7), M)) else (if nI wh = 6 then ((f_X3_nextRelease (16 + 4 * id) M).bind (fun r_21 => (some ((0, r_21), M)))) else (if nI wh = 7 then (if (M (16 + 4 * id) 4) = 0 then (some ((0, 0), M)) else (some ((0, 1), M))) else (if nI wh = 8 then ((f_X3_lateJobs (16 + 4 * id) (M 0 9) M).bind (fun r_27 => (some ((0, r_27), M)))) else (some ((1, 0), M))))))))))) := by
        unfold f_X5_about
        rw [k1, Option.bind_some, if_neg n1_0, if_neg ho]
        simp only [ec]
      have e6 : f_X6_about (nI id) (nI wh) M = (if nI wh = 0 then ((f_X6_place (nI id) (mk_st M 68 0 0)).bind (fun r_10 => (some (r_10, mk_st M 68 0 0)))) else (if nI wh = 1 then ((f_X6_planPlace (nI id) (mk_st M 68 0 0)).bind (fun r_14 => (some (r_14, mk_st M 68 0 0)))) else (if nI wh = 2 then ((f_X6_pending (nI id) (mk_st M 68 0 0)).bind (fun r_18 => (some (r_18, mk_st M 68 0 0)))) else (if nI wh = 3 then (some (mk_st M 68 0 0 78 id, mk_st M 68 0 0)) else (if nI wh = 4 then (some (mk_st M 68 0 0 79 id, mk_st M 68 0 0)) else (if nI wh = 5 then (some (mk_st M 68 0 0 80 id, mk_st M 68 0 0)) else (if nI wh = 6 then (some (mk_st M 68 0 0 82 id, mk_st M 68 0 0)) else (if nI wh = 7 then (if (mk_st M 68 0 0 70 id) = 0 then (some (0, mk_st M 68 0 0)) else (some (1, mk_st M 68 0 0))) else ((f_X6_late (nI id) (mk_st M 68 0 0)).bind (fun r_32 => (some (r_32, mk_st M 68 0 0)))))))))))) := by
        unfold f_X6_about
        rw [k2, Option.bind_some, e, Option.bind_some, go_111, Option.bind_some, if_neg n1_0]
        simp only [if_neg ho, ec]
      have hw : wh = 0 ∨ wh = 1 ∨ wh = 2 ∨ wh = 3 ∨ wh = 4 ∨ wh = 5 ∨ wh = 6 ∨ wh = 7 ∨ wh = 8 := by omega
      rcases hw with rfl | rfl | rfl | rfl | rfl | rfl | rfl | rfl | rfl
      · have c5 := sr_pl (x := 5) a8.1 a8.2.2.1 (fun i h => (a8.2.2.2 i h).1) (nI id) no 0 mk_F (by omega) (mk_F_lt (by omega)) (fun k h => absurd h (by omega))
        have c6 := sr_od (M := mk_st M 68 0 0) (P := O) (s := no) (by rw [s0 9 (by decide)]; exact a8.2.1) a8.2.2.1 (fun i h => by rw [sr 76 (by decide)]; exact (a8.2.2.2 i h).2.1) (nI id) no 0 mk_F (by omega) (mk_F_lt (by omega)) (fun k h => absurd h (by omega))
        rcases c5 with ⟨p, p1, p2, p3, p4⟩ | ⟨p1, p2⟩
        · rcases c6 with ⟨r, r1, r2, r3, r4⟩ | ⟨r1, -⟩
          · have epr : p = r := by
              rcases Nat.lt_trichotomy p r with q | q | q
              · exact absurd p2 (r3 p q)
              · exact q
              · exact absurd r2 (p3 r q)
            subst epr
            refine pick (nI p) ?_ ?_
            · rw [e5, if_pos (show nI 0 = 0 from rfl)]; show ((f_X1_placeOf_2 5 mk_F (nI id) (nI 0) M).bind _) = _; rw [p4]; rfl
            · rw [e6, if_pos (show nI 0 = 0 from rfl)]; show ((f_X6_place_2 mk_F (nI id) (nI 0) (mk_st M 68 0 0)).bind _) = _; rw [r4]; rfl
          · exact absurd p2 (r1 p p1)
        · rcases c6 with ⟨r, r1, r2, r3, r4⟩ | ⟨r1, r2⟩
          · exact absurd r2 (p1 r r1)
          · refine pick (-1) ?_ ?_
            · rw [e5, if_pos (show nI 0 = 0 from rfl)]; show ((f_X1_placeOf_2 5 mk_F (nI id) (nI 0) M).bind _) = _; rw [p2]; rfl
            · rw [e6, if_pos (show nI 0 = 0 from rfl)]; show ((f_X6_place_2 mk_F (nI id) (nI 0) (mk_st M 68 0 0)).bind _) = _; rw [r2]; rfl
      · rcases sr_pl (x := 3) a6.1 a6.2.2.1 (fun i h => (a6.2.2.2 i h).1) (nI id) np 0 mk_F (by omega) (mk_F_lt (by omega)) (fun k h => absurd h (by omega)) with ⟨p, p1, p2, p3, p4⟩ | ⟨p1, p2⟩
        · have c6 := sr_pp (M := mk_st M 68 0 0) (P := P) (s := np) a6.2.2.1 (fun i h => by rw [sr 75 (by decide)]; exact (a6.2.2.2 i h).2.1) (nI id) p1 p2 p3 p 0 mk_F (by omega) (mk_F_lt (by omega))
          refine pick (nI p) ?_ ?_
          · rw [e5, if_neg (show ¬ nI 1 = 0 by decide), if_pos (show nI 1 = 1 from rfl)]; show ((f_X1_placeOf_2 3 mk_F (nI id) (nI 0) M).bind _) = _; rw [p4]; rfl
          · rw [e6, if_neg (show ¬ nI 1 = 0 by decide), if_pos (show nI 1 = 1 from rfl)]; show ((f_X6_planPlace_2 mk_F (nI id) (nI 0) (mk_st M 68 0 0)).bind _) = _; rw [c6]; rfl
        · exact absurd (by rw [hP]) (p1 k hk)
      · refine pick (M (16 + 4 * id) 9) (by rw [e5]; rfl) ?_
        rw [e6]; show ((f_X6_pending (nI id) (mk_st M 68 0 0)).bind _) = _
        rw [pe_n i2 hjb0, b8.1]; rfl
      · refine pick (M (16 + 4 * id) 5) (by rw [e5]; rfl) ?_
        rw [e6]; show some (mk_st M 68 0 0 78 id, mk_st M 68 0 0) = _
        rw [sr 78 (by decide), b6.1, b6.2.1]
      · refine pick (M (16 + 4 * id) 6) (by rw [e5]; rfl) ?_
        rw [e6]; show some (mk_st M 68 0 0 79 id, mk_st M 68 0 0) = _
        rw [sr 79 (by decide), b7.1]
      · refine pick (M (16 + 4 * id) 7) (by rw [e5]; rfl) ?_
        rw [e6]; show some (mk_st M 68 0 0 80 id, mk_st M 68 0 0) = _
        rw [sr 80 (by decide), b7.2.1]
      · refine pick (M 82 id) ?_ ?_
        · rw [e5]; show ((f_X3_nextRelease (16 + 4 * id) M).bind _) = _
          unfold f_X3_nextRelease
          rw [b6.1, b13]
          rcases Nat.eq_zero_or_pos jb with q | q
          · subst q; rfl
          · have hm : jb % 8 < 8 := Nat.mod_lt _ (by decide)
            rw [if_neg (nI_ne0 q (by omega)), sl_n M (by omega), Option.bind_some, if_neg (ob_n hm (by decide)), cl_n (by omega), if_neg (by omega), (b9 jb q (Nat.le_refl _) (by omega)).2.1, b1.1, b1.2.1]; rfl
        · rw [e6]; show some (mk_st M 68 0 0 82 id, mk_st M 68 0 0) = _
          rw [sr 82 (by decide)]
      · rcases b5.2 with q | q
        · refine pick 0 ?_ ?_
          · rw [e5]; show (if M (16 + 4 * id) 4 = 0 then _ else _) = _; rw [b5.1, q, if_pos rfl]
          · rw [e6]; show (if mk_st M 68 0 0 70 id = 0 then _ else _) = _; rw [sr 70 (by decide), q, if_pos rfl]
        · refine pick 1 ?_ ?_
          · rw [e5]; show (if M (16 + 4 * id) 4 = 0 then _ else _) = _; rw [b5.1, q, if_neg n1_0]
          · rw [e6]; show (if mk_st M 68 0 0 70 id = 0 then _ else _) = _; rw [sr 70 (by decide), q, if_neg n1_0]
      · have hlt : ∀ j, pu_lt (mk_st M 68 0 0) id j = pu_lt M id j := fun j => by unfold pu_lt; rw [s0 21 (by decide), sr 83 (by decide), sr 72 (by decide)]
        have l6 := la_lp (mk_st M 68 0 0 81 id) i2 hjb0 8 0 mk_F (by omega) (mk_F_lt (by omega))
        have l5 := lc_lp (M := M) (x := 16 + 4 * id) (jb := jb) (pe := pe) (L := fun k => pu_lt M id (jb - k)) (now := M 0 9) (M (16 + 4 * id) 8) b6.1 b8.1 (by omega) b8.2.2 (fun k hk => by
          have hm : (jb - k) % 8 < 8 := Nat.mod_lt _ (by decide)
          have r83 := (b9 (jb - k) (by omega) (by omega) (by omega)).2.1
          constructor
          · unfold f_X3_isLate
            rw [if_neg (ob_n hm (by decide)), cl_n (by omega), r83, b2.1, a1'.1, ← a1'.2.1]
            show _ = some (nI (pu_lt M id (jb - k)))
            unfold pu_lt
            rw [b2.2.1]
            by_cases c : M 68 21 ≤ M 83 (8 * id + (jb - k) % 8) + nI dl
            · rw [if_pos c, if_pos c]; rfl
            · rw [if_neg c, if_neg c]; rfl
          · show pu_lt M id (jb - k) ≤ 1
            unfold pu_lt; split <;> decide) pe 0 mk_F (by omega) (mk_F_lt (by omega))
        have es : pu_sum (fun i => if 8 ≤ i + pe then pu_lt (mk_st M 68 0 0) id (jb + i - 7) else 0) 8 = pu_sum (fun k => pu_lt M id (jb - k)) pe := by
          have e1 := pu_sum_tail (f := fun i => if 8 ≤ i + pe then pu_lt (mk_st M 68 0 0) id (jb + i - 7) else 0) (a := 8 - pe) (fun j hj => by show (if 8 ≤ j + pe then _ else 0) = 0; rw [if_neg (by omega)]) pe
          rw [show 8 - pe + pe = 8 by omega] at e1
          rw [e1, ← pu_sum_rev (fun k => pu_lt M id (jb - k)) pe]
          refine pu_sum_congr (fun j hj => ?_)
          show (if 8 ≤ 8 - pe + j + pe then _ else 0) = _
          rw [if_pos (by omega), hlt, show jb + (8 - pe + j) - 7 = jb - (pe - 1 - j) by omega]
        rw [es] at l6
        refine pick (M (16 + 4 * id) 8 + nI (pu_sum (fun k => pu_lt M id (jb - k)) pe)) ?_ ?_
        · rw [e5]; show ((f_X3_lateJobs (16 + 4 * id) (M 0 9) M).bind _) = _
          have l5' : f_X3_lateJobs (16 + 4 * id) (M 0 9) M = some (M (16 + 4 * id) 8 + nI (pu_sum (fun k => pu_lt M id (jb - k)) pe)) := by
            rw [← l5]; unfold f_X3_lateJobs
            show _ = f_X3_lateJobs_7 (16 + 4 * id) mk_F (M 0 9) (M (16 + 4 * id) 8 + 0) 0 M
            rw [Int32.add_zero]
          rw [l5']; rfl
        · rw [e6]; show ((f_X6_late (nI id) (mk_st M 68 0 0)).bind _) = _
          have l6' : f_X6_late (nI id) (mk_st M 68 0 0) = some (M (16 + 4 * id) 8 + nI (pu_sum (fun k => pu_lt M id (jb - k)) pe)) := by
            rw [b7.2.2, ← sr 81 (by decide), ← l6]; unfold f_X6_late
            rw [if_neg ho, if_neg ho]
            simp only [ec]
            rw [hjb0.1]
            show _ = f_X6_late_17 mk_F (nI id) (mk_st M 68 0 0 81 id + 0) (nI jb - 7 + 0) (mk_st M 68 0 0)
            rw [Int32.add_zero, Int32.add_zero]
          rw [l6']; rfl
  · refine ⟨((3, 0), M), (0, mk_st M 68 0 1), ?_, Or.inr (Or.inl rfl), ?_, by show mk_st M 68 0 1 68 0 = 1; rw [mk_st_same], fun h => absurd h n1_0, hI.up (Nat.le_succ n) hn (pu_ag.th M 1)⟩
    · unfold f_X5_about; rw [k1, Option.bind_some, if_pos rfl]
    · show f_X6_about a1 a2 M = _
      unfold f_X6_about
      rw [k2, Option.bind_some, wi_n, Option.bind_some, go_0]
      rfl
