theorem nle0 {a : Nat} (h : 0 < a) (h31 : a < 2 ^ 31) : ¬ nI a ≤ (0 : Int32) := show ¬ nI a ≤ nI 0 from nI_ge h h31
theorem nj_n {M : mk_M} {x jb pe : Nat} (a t : Int32) (h5 : M x 5 = nI jb) (h9 : M x 9 = nI pe) (hj : jb < 1000) : f_X3_newJob x a t M = some (nI (jb + 1), mk_st (mk_st (mk_st (mk_st (mk_st M x 5 (nI (jb + 1))) x 9 (nI (pe + 1))) (x + 1) ((jb + 1) % 8) a) (x + 2) ((jb + 1) % 8) t) (x + 3) ((jb + 1) % 8) (-1)) := by
  have hm : (jb + 1) % 8 < 8 := Nat.mod_lt _ (by decide)
  unfold f_X3_newJob
  simp (disch := omega) only [mk_st_same, mk_st_ne, h5, h9, nI_1]
  rw [sl_n _ (by omega), Option.bind_some]
  simp only [if_neg (ob_n hm (by decide)), cl_n (show (jb + 1) % 8 < 2 ^ 31 by omega)]
theorem r147_n {M : mk_M} {id jb : Nat} (a t : Int32) (hid : id ≤ 12) (h78 : M 78 id = nI jb) (h21 : M 68 21 = t) (hj : jb < 1000) : f_X6_release_147 (nI id) a M = some (nI (jb + 1), mk_st (mk_st (mk_st (mk_st (mk_st (mk_st M 78 id (nI (jb + 1))) 83 (8 * id + (jb + 1) % 8) t) 84 (8 * id + (jb + 1) % 8) a) 85 (8 * id + (jb + 1) % 8) 0) 86 (8 * id + (jb + 1) % 8) (-1)) 82 id (t + M 71 id)) := by
  have hm : (jb + 1) % 8 < 8 := Nat.mod_lt _ (by decide)
  have ho : ¬ mk_ob (nI id) 13 := ob_n (by omega) (by omega)
  have ec : (nI id).toNatClampNeg = id := cl_n (by omega)
  unfold f_X6_release_147
  simp (disch := omega) only [if_neg ho, ec, mk_st_same, mk_st_ne, h78, h21, nI_1]
  rw [at_n _ hid (by omega), Option.bind_some]
  simp (disch := omega) only [if_neg (ob_n (show 8 * id + (jb + 1) % 8 < 104 by omega) (by decide)), cl_n (show 8 * id + (jb + 1) % 8 < 2 ^ 31 by omega), mk_st_same, mk_st_ne, h21]
/-- the reference's release, where it goes -/
theorem rl_n {M : mk_M} {id p pe lo hi t dm : Nat} (i2 : id ≤ 12) (k2 : f_X6_isKnown (nI id) M = some 1) (k3 : f_X6_place (nI id) M = some (nI p)) (hp : p < 13) (hpe : f_X6_pending (nI id) M = some (nI pe)) (hpe4 : pe < 4) (h74 : M 74 id = nI hi) (h73 : M 73 id = nI lo) (hhi : hi ≤ 200) (hlo : lo ≤ 200) (h21 : M 68 21 = nI t) (h70 : M 70 id = 0) (h82 : ¬ nI t < M 82 id) (d1 : 1 ≤ dm) (d2 : dm ≤ if hi = 0 then lo else hi) :
    f_X6_release (nI id) (nI dm) M = if M 68 24 = 1 ∧ hi = 0 then some (0, mk_st (mk_st M 68 0 0) 79 id (M 79 id + 1)) else f_X6_release_147 (nI id) (nI dm) (mk_st M 68 0 0) := by
  have ho : ¬ mk_ob (nI id) 13 := ob_n (by omega) (by omega)
  have ec : (nI id).toNatClampNeg = id := cl_n (by omega)
  obtain ⟨bud, hb, hb2, hb4⟩ : ∃ bud : Nat, dm ≤ bud ∧ bud ≤ 200 ∧ f_X6_release_22 (nI id) (nI dm) 1 M = f_X6_release_53 (nI id) (nI dm) 1 (nI bud) 1 (nI dm) M := by
    rcases Nat.eq_zero_or_pos hi with q | q
    · refine ⟨lo, by rw [if_pos q] at d2; exact d2, hlo, ?_⟩
      unfold f_X6_release_22
      rw [if_neg n1_0, if_neg ho]
      simp only [if_neg ho, ec, h74, q]
      rw [if_pos (by decide), h73]
    · have hne : ¬ nI hi ≤ 0 := show ¬ nI hi ≤ nI 0 from nI_ge q (by omega)
      refine ⟨hi, by rw [if_neg (by omega)] at d2; exact d2, hhi, ?_⟩
      unfold f_X6_release_22
      rw [if_neg n1_0, if_neg ho]
      simp only [if_neg ho, ec, h74]
      rw [if_neg hne]
  unfold f_X6_release
  rw [k2, Option.bind_some, if_neg n1_0, k3, Option.bind_some, if_neg, hb4]
  · unfold f_X6_release_53
    rw [wi_n, Option.bind_some, if_neg (show ¬ nI dm < (1 : Int32) from nI_nlt (a := dm) (b := 1) d1 (by omega)), if_neg (nI_nlt hb (by omega)), if_neg n1_0]
    unfold f_X6_release_64
    rw [if_neg n1_0, if_neg ho]
    simp only [if_neg ho, ec, h21, hpe, Option.bind_some, h70]
    rw [if_pos trivial, if_neg h82, if_neg (show ¬ (4 : Int32) ≤ nI pe from nI_ge (a := pe) (b := 4) (by omega) (by omega))]
    unfold f_X6_release_110
    rw [go_111, Option.bind_some, if_neg n1_0]
    simp (disch := omega) only [if_neg ho, ec, mk_st_ne, h74]
    by_cases c1 : M 68 24 = 1
    · rw [if_pos c1]
      rcases Nat.eq_zero_or_pos hi with q | q
      · rw [if_pos (show M 68 24 = 1 ∧ hi = 0 from ⟨c1, q⟩), q, if_pos nI_0]
      · rw [if_neg (nI_ne0 q (by omega)), if_neg (show ¬ (M 68 24 = 1 ∧ hi = 0) from fun c => by omega)]
    · rw [if_neg c1, if_neg (show ¬ (M 68 24 = 1 ∧ hi = 0) from fun c => c1 c.1)]
  · intro q
    have := congrArg Int32.toInt q
    rw [nI_toInt (by omega)] at this
    have e : (-1 : Int32).toInt = -1 := by decide
    omega
theorem pu_s2 : mk_S2 pu_I := by
  intro n M a1 a2 hn hI
  have hI' := hI
  obtain ⟨t, np, no, ch, w, wd, P, O, hJ⟩ := hI'
  have hJ' := hJ
  obtain ⟨a1', a2', a3, a4, a5, a6, a7, a8, a9, a10, a11, a12⟩ := hJ'
  have throw : ∀ (k : Nat) (v : Int32), (k = 3 ∧ v = 1 ∨ k = 1 ∧ v = 2 ∨ k = 2 ∧ v = 3) → f_X5_release a1 a2 M = some ((k, 0), M) → f_X6_release a1 a2 M = some (0, mk_st M 68 0 v) → ∃ (q : (Nat × Int32) × mk_M) (r : Int32 × mk_M), f_X5_release a1 a2 M = some q ∧ (q.1.1 = 0 ∨ q.1.1 = 3 ∨ q.1.1 = 1 ∨ q.1.1 = 2) ∧ f_X6_release a1 a2 q.2 = some r ∧ r.2 68 0 = fc_L_release q ∧ (fc_L_release q = 0 → q.1.2 = r.1) ∧ pu_I (n + 1) r.2 := by
    intro k v hkv h1 h2
    refine ⟨_, _, h1, ?_, h2, ?_, ?_, hI.up (Nat.le_succ n) hn (pu_ag.th M v)⟩
    · rcases hkv with ⟨rfl, rfl⟩ | ⟨rfl, rfl⟩ | ⟨rfl, rfl⟩
      · exact Or.inr (Or.inl rfl)
      · exact Or.inr (Or.inr (Or.inl rfl))
      · exact Or.inr (Or.inr (Or.inr rfl))
    · show mk_st M 68 0 v 68 0 = _
      rw [mk_st_same]
      rcases hkv with ⟨rfl, rfl⟩ | ⟨rfl, rfl⟩ | ⟨rfl, rfl⟩ <;> rfl
    · intro _
      rfl
  rcases hJ.inf a1 with ⟨id, k, p, i1, i2, rfl, hk, hP, hp, hO, k1, k2, k3⟩ | ⟨k1, k2⟩
  · have hkn : pu_kn P np id := ⟨k, hk, hP⟩
    obtain ⟨per, dl, lo, hi, jb, pe, b1, b2, b3, b4, b5, b6, b7, b8, b9, b10, b11, b12, b13⟩ := hJ.tk i1 i2 hk hP
    have ho : ¬ mk_ob (nI id) 13 := ob_n (by omega) (by omega)
    have ec : (nI id).toNatClampNeg = id := cl_n (by omega)
    -- the budget
    obtain ⟨bud, hb1, hb2, hb3, hb4⟩ : ∃ bud : Nat, 1 ≤ bud ∧ bud ≤ 200 ∧ f_X3_greatestBudget (16 + 4 * id) M = some (nI bud) ∧ f_X6_release_22 (nI id) a2 1 M = f_X6_release_53 (nI id) a2 1 (nI bud) 1 a2 M := by
      rcases Nat.eq_zero_or_pos hi with q | q
      · refine ⟨lo, by omega, by omega, ?_, ?_⟩
        · unfold f_X3_greatestBudget f_X3_isHigh
          rw [b4.1, q, if_pos (by decide), Option.bind_some, if_pos rfl, b3.1]
        · unfold f_X6_release_22
          rw [if_neg n1_0, if_neg ho]
          simp only [if_neg ho, ec, b4.2.1, q]
          rw [if_pos (by decide), b3.2.1]
      · have hne : ¬ nI hi ≤ 0 := show ¬ nI hi ≤ nI 0 from nI_ge q (by omega)
        refine ⟨hi, by omega, by omega, ?_, ?_⟩
        · unfold f_X3_greatestBudget f_X3_isHigh
          rw [b4.1, if_neg hne, Option.bind_some, if_neg n1_0]
        · unfold f_X6_release_22
          rw [if_neg n1_0, if_neg ho]
          simp only [if_neg ho, ec, b4.2.1]
          rw [if_neg hne]
    have e5 : f_X5_release (nI id) a2 M = (if a2 < 1 then (some ((1, 0), M)) else (if a2 ≤ nI bud then (if (M (16 + 4 * id) 4) = 0 then ((f_X3_nextRelease (16 + 4 * id) M).bind (fun r_13 => (if (M 0 9) < r_13 then (some ((2, 0), M)) else (if (M (16 + 4 * id) 9) < 4 then (if (M 0 8) = 0 then ((f_X3_newJob (16 + 4 * id) a2 (M 0 9) M).bind (fun r_18 => (some ((0, r_18.1), r_18.2)))) else ((f_X3_isHigh (16 + 4 * id) M).bind (fun r_21 => (if r_21 = 0 then (some ((0, 0), mk_st M (16 + 4 * id) 6 ((M (16 + 4 * id) 6) + 1))) else ((f_X3_newJob (16 + 4 * id) a2 (M 0 9) M).bind (fun r_24 => (some ((0, r_24.1), r_24.2)))))))) else (some ((2, 0), M)))))) else (some ((2, 0), M))) else (some ((1, 0), M)))) := by
      unfold f_X5_release
      rw [k1, Option.bind_some, if_neg n1_0, if_neg ho]
      simp only [ec, hb3, Option.bind_some]
    have e6 : f_X6_release (nI id) a2 M = (if a2 < 1 then f_X6_release_63 (nI id) a2 1 M else if nI bud < a2 then f_X6_release_63 (nI id) a2 1 M else f_X6_release_64 (nI id) a2 1 1 M) := by
      unfold f_X6_release
      rw [k2, Option.bind_some, if_neg n1_0, k3, Option.bind_some, if_neg, hb4]
      · unfold f_X6_release_53
        rw [wi_n, Option.bind_some]
        by_cases c1 : a2 < 1
        · rw [if_pos c1, if_pos c1, if_pos rfl]
        · rw [if_neg c1, if_neg c1]
          by_cases c2 : nI bud < a2
          · rw [if_pos c2, if_pos c2, if_pos rfl]
          · rw [if_neg c2, if_neg c2, if_neg n1_0]
      · intro q
        have := congrArg Int32.toInt q
        rw [nI_toInt (by omega)] at this
        have e : (-1 : Int32).toInt = -1 := by decide
        omega
    have e64 : ∀ s : Int32, f_X6_release_64 (nI id) a2 1 s M = (if M 70 id = 0 then (if nI t < M 82 id then f_X6_release_110 (nI id) a2 0 s 1 M else if (4 : Int32) ≤ nI pe then f_X6_release_110 (nI id) a2 0 s 1 M else f_X6_release_110 (nI id) a2 1 s 1 M) else f_X6_release_110 (nI id) a2 0 s 1 M) := by
      intro s
      unfold f_X6_release_64
      have hpe := pe_n (M := M) (id := id) (jb := jb) (pe := pe) i2 ⟨b6.2.1, by omega, b8.2.2, by omega, fun j h1 h2 h3 => (b9 j h1 h2 h3).2.2.2.1⟩
      rw [if_neg n1_0, if_neg ho]
      simp only [if_neg ho, ec, a1'.2.1, hpe, Option.bind_some]
      rfl
    have e63 : f_X6_release_63 (nI id) a2 1 M = some (0, mk_st M 68 0 2) := by
      unfold f_X6_release_63
      rw [e64]
      have g : ∀ b : Int32, f_X6_release_110 (nI id) a2 b 0 1 M = some (0, mk_st M 68 0 2) := by
        intro b
        unfold f_X6_release_110
        rw [go_10]; rfl
      simp only [g, ite_self]
    have e3 : f_X6_release_110 (nI id) a2 0 1 1 M = some (0, mk_st M 68 0 3) := by
      unfold f_X6_release_110
      rw [go_110]; rfl
    by_cases c1 : a2 < 1
    · exact throw 1 2 (Or.inr (Or.inl ⟨rfl, rfl⟩)) (by rw [e5, if_pos c1]) (by rw [e6, if_pos c1]; exact e63)
    by_cases c2 : nI bud < a2
    · exact throw 1 2 (Or.inr (Or.inl ⟨rfl, rfl⟩)) (by rw [e5, if_neg c1, if_neg (fun q => by rw [Int32.le_iff_toInt_le] at q; rw [Int32.lt_iff_toInt_lt] at c2; omega)]) (by rw [e6, if_neg c1, if_pos c2]; exact e63)
    have c2' : a2 ≤ nI bud := by rw [Int32.le_iff_toInt_le]; rw [Int32.lt_iff_toInt_lt] at c2; omega
    have c0 : ¬ a2 < 0 := by
      intro h
      apply c1
      rw [Int32.lt_iff_toInt_lt] at h ⊢
      rw [Int32.toInt_zero] at h
      have e : (1 : Int32).toInt = 1 := by decide
      omega
    obtain ⟨dm, hdm, rfl⟩ := nI_of c0
    have d1 : 1 ≤ dm := by
      rcases Nat.lt_or_ge dm 1 with q | q
      · exact absurd (show nI dm < nI 1 from nI_lt q (by omega)) c1
      · exact q
    have d2 : dm ≤ bud := by
      rcases Nat.lt_or_ge bud dm with q | q
      · exact absurd (nI_lt q hdm) c2
      · exact q
    rw [if_neg c1, if_neg c2] at e6
    rw [if_neg c1, if_pos c2'] at e5
    rw [e64] at e6
    by_cases c3 : M 70 id = 0
    · rw [b5.1, if_pos c3] at e5
      rw [if_pos c3] at e6
      have nx : f_X3_nextRelease (16 + 4 * id) M = some (M 82 id) := by
        unfold f_X3_nextRelease
        rw [b6.1, b13]
        rcases Nat.eq_zero_or_pos jb with q | q
        · subst q; rfl
        · have hm : jb % 8 < 8 := Nat.mod_lt _ (by decide)
          rw [if_neg (nI_ne0 q (by omega)), sl_n M (by omega), Option.bind_some, if_neg (ob_n hm (by decide)), cl_n (by omega), if_neg (by omega), (b9 jb q (Nat.le_refl _) (by omega)).2.1, b1.1, b1.2.1]
      rw [nx, Option.bind_some, a1'.1, b8.1] at e5
      by_cases c4 : nI t < M 82 id
      · rw [if_pos c4] at e5 e6
        exact throw 2 3 (Or.inr (Or.inr ⟨rfl, rfl⟩)) e5 (by rw [e6]; exact e3)
      rw [if_neg c4] at e5 e6
      by_cases c5 : 4 ≤ pe
      · rw [if_neg (show ¬ nI pe < (4 : Int32) from nI_nlt (a := pe) (b := 4) c5 (by omega))] at e5
        rw [if_pos (show (4 : Int32) ≤ nI pe from nI_le (a := 4) (b := pe) c5 (by omega))] at e6
        exact throw 2 3 (Or.inr (Or.inr ⟨rfl, rfl⟩)) e5 (by rw [e6]; exact e3)
      rw [if_pos (show nI pe < (4 : Int32) from nI_lt (a := pe) (b := 4) (by omega) (by omega))] at e5
      rw [if_neg (show ¬ (4 : Int32) ≤ nI pe from nI_ge (a := pe) (b := 4) (by omega) (by omega))] at e6
      have d2' : dm ≤ if hi = 0 then lo else hi := by
        have e : f_X3_greatestBudget (16 + 4 * id) M = some (nI (if hi = 0 then lo else hi)) := by
          unfold f_X3_greatestBudget f_X3_isHigh
          rcases Nat.eq_zero_or_pos hi with q | q
          · rw [b4.1, q, if_pos (by decide), Option.bind_some, if_pos rfl, b3.1, if_pos rfl]
          · rw [b4.1, if_neg (nle0 q (by omega)), Option.bind_some, if_neg n1_0, if_neg (by omega)]
        rw [hb3] at e
        have e2 : bud = if hi = 0 then lo else hi := by
          refine nI_inj (by omega) (by split <;> omega) ?_
          exact Option.some.inj e
        rw [← e2]; exact d2
      have hpe := pe_n (M := M) (id := id) (jb := jb) (pe := pe) i2 ⟨b6.2.1, by omega, b8.2.2, by omega, fun j h1 h2 h3 => (b9 j h1 h2 h3).2.2.2.1⟩
      have ref : ∀ M1 : mk_M, (∀ x, 68 ≤ x → M1 x = M x) → f_X6_release (nI id) (nI dm) M1 = if M 68 24 = 1 ∧ hi = 0 then some (0, mk_st (mk_st M1 68 0 0) 79 id (M1 79 id + 1)) else f_X6_release_147 (nI id) (nI dm) (mk_st M1 68 0 0) := by
        intro M1 hr
        rw [← hr 68 (by decide)]
        exact rl_n i2 (by rw [cg_kn hr]; exact k2) (by rw [cg_pl hr]; exact k3) (by omega) (by rw [cg_pe hr]; exact hpe) (by omega) (by rw [hr 74 (by decide)]; exact b4.2.1) (by rw [hr 73 (by decide)]; exact b3.2.1) (by omega) (by omega) (by rw [hr 68 (by decide)]; exact a1'.2.1) (by rw [hr 70 (by decide)]; exact c3) (by rw [hr 82 (by decide)]; exact c4) d1 d2'
      have tail : ∀ M2 : mk_M, (∀ x, x < 7 ∨ (9 ≤ x ∧ x ≤ 15) → M2 x = M x) → (∀ k, k ≠ 0 → M2 68 k = M 68 k) → (∀ x, 69 ≤ x → x ≤ 76 ∨ 87 ≤ x → M2 x = M x) → pu_T (n + 1) M2 P np → pu_I (n + 1) M2 := by
        intro M2 r1 r2 r3 hT
        refine ⟨t, np, no, ch, w, wd, P, O, ?_, ?_, ?_, ?_, ?_, ?_, a7, ?_, a9, hT, ?_, ?_⟩
        · rw [r1 0 (by decide), r2 21 (by decide)]; exact ⟨a1'.1, a1'.2.1, by omega, by omega⟩
        · rw [r1 12 (by decide), r1 13 (by decide), r3 88 (by decide) (by decide)]; exact a2'
        · rw [r1 0 (by decide), r2 24 (by decide)]; exact a3
        · rw [r1 0 (by decide), r2 22 (by decide), r2 23 (by decide), r2 26 (by decide)]; exact a4
        · rw [r1 14 (by decide), r1 15 (by decide), r2 25 (by decide), r3 87 (by decide) (by decide)]; exact a5
        · rw [r1 3 (by decide), r1 4 (by decide), r2 7 (by decide), r3 75 (by decide) (by decide)]; exact a6
        · rw [r1 5 (by decide), r1 6 (by decide), r2 9 (by decide), r3 76 (by decide) (by decide)]; exact a8
        · rw [r1 9 (by decide), r1 10 (by decide), r1 11 (by decide), r2 29 (by decide), r2 32 (by decide), r3 89 (by decide) (by decide), r3 90 (by decide) (by decide)]; exact a11
        · exact fun k hk => pu_ok_same (r3 71 (by decide) (by decide)) (r3 72 (by decide) (by decide)) (r3 73 (by decide) (by decide)) (r3 74 (by decide) (by decide)) (a12 k hk)
      by_cases c6 : M 68 24 = 1 ∧ hi = 0
      · have cc : ¬ M 0 8 = 0 := by rw [a3.1, c6.1]; exact n1_0
        rw [if_neg cc] at e5
        have eh : f_X3_isHigh (16 + 4 * id) M = some 0 := by
          unfold f_X3_isHigh
          rw [b4.1, c6.2, if_pos (by decide)]
        rw [eh, Option.bind_some, if_pos rfl] at e5
        have e6' := ref (mk_st M (16 + 4 * id) 6 ((M (16 + 4 * id) 6) + 1)) (fun x hx => mk_st_off _ _ _ _ (by omega))
        rw [if_pos c6] at e6'
        refine ⟨_, _, e5, Or.inl rfl, e6', ?_, fun _ => rfl, tail _ ?_ ?_ ?_ ?_⟩
        · refine Eq.trans ?_ (show (0 : Int32) = fc_L_release _ from rfl)
          dsimp only
          simp (disch := omega) only [mk_st_same, mk_st_ne]
        · intro x hx
          dsimp only
          simp (disch := omega) only [mk_st_off]
        · intro x hx
          dsimp only
          simp (disch := omega) only [mk_st_ne]
        · intro x hx1 hx2
          dsimp only
          simp (disch := omega) only [mk_st_off]
        · show pu_T (n + 1) (mk_st (mk_st (mk_st M (16 + 4 * id) 6 (M (16 + 4 * id) 6 + 1)) 68 0 0) 79 id (mk_st M (16 + 4 * id) 6 (M (16 + 4 * id) 6 + 1) 79 id + 1)) P np
          refine pu_T.one (Nat.le_succ n) a10 hkn ?_ ⟨per, dl, lo, hi, jb, pe, ?_⟩ ?_
          · simp (disch := omega) only [mk_st_same, mk_st_ne]; exact ((a10 id i1 i2).1 hkn).1
          · simp (disch := omega) only [mk_st_same, mk_st_ne, mk_st_off]
            exact ⟨b1, b2, b3, b4, b5, ⟨b6.1, b6.2.1, by omega⟩, ⟨by rw [b7.1], b7.2.1, b7.2.2⟩, b8, b9, b10, b11, b12, b13⟩
          · intro j j1 j2 j3
            refine ⟨⟨?_, ?_, ?_, ?_⟩, fun y hy => ?_, fun y k y1 y2 hk => ?_⟩
            · simp (disch := omega) only [mk_st_off]
            · simp (disch := omega) only [mk_st_off]
            · simp (disch := omega) only [mk_st_off]
            · simp (disch := omega) only [mk_st_off]
            · simp (disch := omega) only [mk_st_ne]
            · simp (disch := omega) only [mk_st_ne]
      · have nj := nj_n (M := M) (x := 16 + 4 * id) (nI dm) (nI t) b6.1 b8.1 (by omega)
        have e5' : f_X5_release (nI id) (nI dm) M = some ((0, nI (jb + 1)), mk_st (mk_st (mk_st (mk_st (mk_st M (16 + 4 * id) 5 (nI (jb + 1))) (16 + 4 * id) 9 (nI (pe + 1))) (16 + 4 * id + 1) ((jb + 1) % 8) (nI dm)) (16 + 4 * id + 2) ((jb + 1) % 8) (nI t)) (16 + 4 * id + 3) ((jb + 1) % 8) (-1)) := by
          rw [e5, nj]
          by_cases c7 : M 0 8 = 0
          · rw [if_pos c7]; rfl
          · have c8 : M 68 24 = 1 := by
              rw [a3.1] at c7
              rcases a3.2 with q | q
              · exact absurd q c7
              · exact q
            have c9 : ¬ hi = 0 := fun q => c6 ⟨c8, q⟩
            have eh : f_X3_isHigh (16 + 4 * id) M = some 1 := by
              unfold f_X3_isHigh
              rw [b4.1, if_neg (nle0 (by omega) (by omega))]
            rw [if_neg c7, eh, Option.bind_some, if_neg n1_0]; rfl
        have e6' := ref (mk_st (mk_st (mk_st (mk_st (mk_st M (16 + 4 * id) 5 (nI (jb + 1))) (16 + 4 * id) 9 (nI (pe + 1))) (16 + 4 * id + 1) ((jb + 1) % 8) (nI dm)) (16 + 4 * id + 2) ((jb + 1) % 8) (nI t)) (16 + 4 * id + 3) ((jb + 1) % 8) (-1)) (fun x hx => by simp (disch := omega) only [mk_st_off])
        rw [if_neg c6, r147_n (jb := jb) (nI dm) (nI t) i2 (by simp (disch := omega) only [mk_st_ne]; exact b6.2.1) (by simp (disch := omega) only [mk_st_ne]; exact a1'.2.1) (by omega)] at e6'
        refine ⟨_, _, e5', Or.inl rfl, e6', ?_, fun _ => rfl, tail _ ?_ ?_ ?_ ?_⟩
        · refine Eq.trans ?_ (show (0 : Int32) = fc_L_release _ from rfl)
          dsimp only
          simp (disch := omega) only [mk_st_same, mk_st_ne]
        · intro x hx
          dsimp only
          simp (disch := omega) only [mk_st_off]
        · intro x hx
          dsimp only
          simp (disch := omega) only [mk_st_ne]
        · intro x hx1 hx2
          dsimp only
          simp (disch := omega) only [mk_st_off]
        · exact pu_new hn i1 i2 a10 hkn b6.1 b8.1 (by omega) (by omega) d1 (by omega) (by simp (disch := omega) only [mk_st_ne])
    · rw [b5.1, if_neg c3] at e5
      rw [if_neg c3] at e6
      exact throw 2 3 (Or.inr (Or.inr ⟨rfl, rfl⟩)) e5 (by rw [e6]; exact e3)
  · refine throw 3 1 (Or.inl ⟨rfl, rfl⟩) ?_ ?_
    · unfold f_X5_release
      rw [k1, Option.bind_some, if_pos rfl]
    · have bad : f_X6_release_21 a1 a2 M = some (0, mk_st M 68 0 1) := by
        unfold f_X6_release_21 f_X6_release_22
        rw [if_pos rfl]
        unfold f_X6_release_63 f_X6_release_64
        rw [if_pos rfl]
        unfold f_X6_release_109 f_X6_release_110
        rw [go_0]; rfl
      unfold f_X6_release
      rcases k2 with q | ⟨q1, q2⟩
      · rw [q, Option.bind_some, if_pos rfl]; exact bad
      · rw [q1, Option.bind_some, if_neg n1_0, q2, Option.bind_some, if_pos rfl]; exact bad
