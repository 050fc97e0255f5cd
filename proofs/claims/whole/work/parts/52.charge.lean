/-! charging the first pending job -/
theorem ob_id {α : Type} (o : Option α) : o.bind (fun r => some r) = o := by cases o <;> rfl
theorem cf_n {A : mk_M} {x jb pe cg dm : Nat} (now : Int32) (h5 : A x 5 = nI jb) (h9 : A x 9 = nI pe) (hp : 0 < pe) (hpj : pe ≤ jb) (hj : jb ≤ 512) (h10 : A x 10 = nI cg) (hd : A (x + 1) ((jb + 1 - pe) % 8) = nI dm) (hcd : cg < dm) (hdm : dm ≤ 200) :
    (cg + 1 < dm → f_X3_chargeFirst x now A = some (0, mk_st (mk_st A x 7 (A x 7 + 1)) x 10 (nI (cg + 1)))) ∧
    (cg + 1 = dm → f_X3_chargeFirst x now A = some (1, mk_st (mk_st (mk_st (mk_st (mk_st (mk_st A x 7 (A x 7 + 1)) x 10 (nI (cg + 1))) (x + 3) ((jb + 1 - pe) % 8) now) x 8 (if now ≤ A (x + 2) ((jb + 1 - pe) % 8) + A x 1 then A x 8 else A x 8 + 1)) x 9 (nI (pe - 1))) x 10 0)) := by
  have hm : (jb + 1 - pe) % 8 < 8 := Nat.mod_lt _ (by decide)
  have es : nI jb - nI pe + 1 = nI (jb + 1 - pe) := by rw [pk_sub (by omega), nI_1, show jb - pe + 1 = jb + 1 - pe by omega]
  have hob := ob_n hm (by decide)
  have hcl := cl_n (show (jb + 1 - pe) % 8 < 2 ^ 31 by omega)
  have e9 : nI pe - 1 = nI (pe - 1) := by rw [show (1 : Int32) = nI 1 from rfl, pk_sub (by omega)]
  have base : f_X3_chargeFirst x now A = (if nI dm ≤ nI (cg + 1) then ((f_X3_isLate x (nI ((jb + 1 - pe) % 8)) now (mk_st (mk_st (mk_st A x 7 (A x 7 + 1)) x 10 (nI (cg + 1))) (x + 3) ((jb + 1 - pe) % 8) now)).bind (fun r_7 => (if r_7 = 0 then (some (1, mk_st (mk_st (mk_st (mk_st (mk_st A x 7 (A x 7 + 1)) x 10 (nI (cg + 1))) (x + 3) ((jb + 1 - pe) % 8) now) x 9 (nI (pe - 1))) x 10 0)) else (some (1, mk_st (mk_st (mk_st (mk_st (mk_st (mk_st A x 7 (A x 7 + 1)) x 10 (nI (cg + 1))) (x + 3) ((jb + 1 - pe) % 8) now) x 8 (A x 8 + 1)) x 9 (nI (pe - 1))) x 10 0))))) else some (0, mk_st (mk_st A x 7 (A x 7 + 1)) x 10 (nI (cg + 1)))) := by
    unfold f_X3_chargeFirst
    rw [h5, h9, es, sl_n A (by omega), Option.bind_some]
    simp only [if_neg hob, hcl]
    simp (disch := omega) only [mk_st_same, mk_st_ne, h10, hd, h9, nI_1, e9]
  constructor
  · intro c
    rw [base, if_neg (nI_ge c (by omega))]
  · intro c
    rw [base, if_pos (by rw [c]; exact nI_le (Nat.le_refl _) (by omega))]
    unfold f_X3_isLate
    rw [if_neg hob, hcl]
    simp (disch := omega) only [mk_st_ne]
    by_cases l : now ≤ A (x + 2) ((jb + 1 - pe) % 8) + A x 1
    · rw [if_pos l, if_pos l, Option.bind_some, if_pos rfl]
      rw [mk_st_id (mk_st (mk_st (mk_st A x 7 (A x 7 + 1)) x 10 (nI (cg + 1))) (x + 3) ((jb + 1 - pe) % 8) now) x 8 (by simp (disch := omega) only [mk_st_ne])]
    · rw [if_neg l, if_neg l, Option.bind_some, if_neg n1_0]
theorem fj_lp {B : mk_M} {id jb pe : Nat} (hid : id ≤ 12) (h : pu_jb B id jb pe) (hp : 0 < pe) : ∀ d i n : Nat, i + d = jb + 1 - pe → d < n → 1 ≤ i → jb < i + 8 → f_X6_firstJob_25 n (nI id) (nI i) B = some (nI (jb + 1 - pe)) := by
  intro d
  have h' := h
  obtain ⟨a1, a2, a3, a5, a4⟩ := h'
  induction d with
  | zero =>
    intro i n hi hn h1 h2
    obtain ⟨n, rfl⟩ : ∃ m, n = m + 1 := ⟨n - 1, by omega⟩
    show ((f_X6_isPending (nI id) (nI i) B).bind (fun r_5 => (if r_5 = 0 then (f_X6_firstJob_25 n (nI id) (nI i + 1) B) else (some (nI i))))) = _
    rw [ip_n hid h h1 (by omega) h2, if_pos (by omega), Option.bind_some, if_neg n1_0, show i = jb + 1 - pe by omega]
  | succ d ih =>
    intro i n hi hn h1 h2
    obtain ⟨n, rfl⟩ : ∃ m, n = m + 1 := ⟨n - 1, by omega⟩
    show ((f_X6_isPending (nI id) (nI i) B).bind (fun r_5 => (if r_5 = 0 then (f_X6_firstJob_25 n (nI id) (nI i + 1) B) else (some (nI i))))) = _
    rw [ip_n hid h h1 (by omega) h2, if_neg (by omega), Option.bind_some, if_pos rfl, nI_1]
    exact ih (i + 1) n (by omega) (by omega) (by omega) (by omega)
theorem fj_n {B : mk_M} {id jb pe : Nat} (hid : id ≤ 12) (h : pu_jb B id jb pe) (hp : 0 < pe) : f_X6_firstJob (nI id) B = some (nI (jb + 1 - pe)) := by
  have ho : ¬ mk_ob (nI id) 13 := ob_n (by omega) (by omega)
  have ec : (nI id).toNatClampNeg = id := cl_n (by omega)
  have h' := h
  obtain ⟨a1, a2, a3, a5, a4⟩ := h'
  unfold f_X6_firstJob
  rw [if_neg ho]
  simp only [if_neg ho, ec, a1]
  rcases Nat.lt_or_ge jb 8 with c | c
  · rw [if_neg (show ¬ (8 : Int32) ≤ nI jb from nI_ge (a := jb) (b := 8) c (by decide))]
    exact fj_lp hid h hp (jb - pe) 1 mk_F (by omega) (mk_F_lt (by omega)) (by omega) (by omega)
  · rw [if_pos (show (8 : Int32) ≤ nI jb from nI_le (a := 8) (b := jb) c (by omega)), show (7 : Int32) = nI 7 from rfl, pk_sub (by omega)]
    exact fj_lp hid h hp (8 - pe) (jb - 7) mk_F (by omega) (mk_F_lt (by omega)) (by omega) (by omega)
theorem ch_n {B : mk_M} {id jb pe cg dm hi lo ch : Nat} (hid : id ≤ 12) (h : pu_jb B id jb pe) (hp : 0 < pe) (h85 : B 85 (8 * id + (jb + 1 - pe) % 8) = nI cg) (h84 : B 84 (8 * id + (jb + 1 - pe) % 8) = nI dm) (hdm : dm ≤ 200) (hcg : cg < dm) (h74 : B 74 id = nI hi) (h73 : B 73 id = nI lo) (hhi : hi ≤ 200) (hlo : lo ≤ 200) (h25 : B 68 25 = nI ch) (hch : ch < 2 ^ 31) :
    (cg + 1 = dm → f_X6_charge (nI id) B = f_X6_leave (nI id) (mk_st (mk_st (mk_st (mk_st B 85 (8 * id + (jb + 1 - pe) % 8) (nI (cg + 1))) 80 id (B 80 id + 1)) 86 (8 * id + (jb + 1 - pe) % 8) (B 68 21)) 81 id (if B 68 21 ≤ B 83 (8 * id + (jb + 1 - pe) % 8) + B 72 id then B 81 id else B 81 id + 1))) ∧
    (cg + 1 < dm → ¬ (B 68 24 = 0 ∧ 0 < hi ∧ cg + 1 = lo) → f_X6_charge (nI id) B = some (mk_st (mk_st B 85 (8 * id + (jb + 1 - pe) % 8) (nI (cg + 1))) 80 id (B 80 id + 1))) ∧
    (cg + 1 < dm → (B 68 24 = 0 ∧ 0 < hi ∧ cg + 1 = lo) → f_X6_charge (nI id) B = f_X6_giveUp (mk_st (mk_st (mk_st (mk_st (mk_st B 85 (8 * id + (jb + 1 - pe) % 8) (nI (cg + 1))) 80 id (B 80 id + 1)) 68 24 1) 87 (ch % 8) (B 68 21)) 68 25 (nI (ch + 1)))) := by
  have ho : ¬ mk_ob (nI id) 13 := ob_n (by omega) (by omega)
  have ec : (nI id).toNatClampNeg = id := cl_n (by omega)
  have hjb := h.2.1
  have hm : (jb + 1 - pe) % 8 < 8 := Nat.mod_lt _ (by decide)
  have hm8 : ch % 8 < 8 := Nat.mod_lt _ (by decide)
  have ho2 := ob_n (show 8 * id + (jb + 1 - pe) % 8 < 104 by omega) (by decide)
  have ec2 := cl_n (show 8 * id + (jb + 1 - pe) % 8 < 2 ^ 31 by omega)
  have er : nI ch - nI ch / 8 * 8 = nI (ch % 8) := by rw [show (8 : Int32) = nI 8 from rfl, pk_rem hch (by decide) (by decide)]
  have start : ∀ Z, f_X6_charge (nI id) B = Z ↔ ((f_X6_firstJob (nI id) B).bind (fun r_2 => ((f_X6_at (nI id) r_2 B).bind (fun r_4 => some r_4)))) = some (nI (8 * id + (jb + 1 - pe) % 8)) ∧ f_X6_charge (nI id) B = Z := by
    intro Z
    rw [fj_n hid h hp, Option.bind_some, at_n B hid (by omega)]
    exact ⟨fun q => ⟨rfl, q⟩, fun q => q.2⟩
  refine ⟨fun c => ?_, fun c c2 => ?_, fun c c2 => ?_⟩
  · unfold f_X6_charge
    rw [fj_n hid h hp, Option.bind_some, at_n B hid (by omega), Option.bind_some]
    simp only [if_neg ho, ec, if_neg ho2, ec2]
    simp (disch := omega) only [mk_st_same, mk_st_ne, h85, h84, nI_1]
    rw [if_pos (by rw [c])]
    by_cases l : B 68 21 ≤ B 83 (8 * id + (jb + 1 - pe) % 8) + B 72 id
    · rw [if_pos l, if_pos l, ob_id]
    · rw [if_neg l, if_neg l, ob_id]
  · unfold f_X6_charge
    rw [fj_n hid h hp, Option.bind_some, at_n B hid (by omega), Option.bind_some]
    simp only [if_neg ho, ec, if_neg ho2, ec2]
    simp (disch := omega) only [mk_st_same, mk_st_ne, h85, h84, nI_1, h74, h73]
    rw [if_neg (fun q => by have := nI_inj (by omega) (by omega) q; omega)]
    by_cases d1 : B 68 24 = 0
    · rw [if_pos d1]
      rcases Nat.eq_zero_or_pos hi with d2 | d2
      · rw [if_pos (by rw [d2]; decide)]
      · rw [if_neg (nle0 d2 (by omega)), if_neg (fun q => c2 ⟨d1, d2, nI_inj (by omega) (by omega) q⟩)]
    · rw [if_neg d1]
  · unfold f_X6_charge
    rw [fj_n hid h hp, Option.bind_some, at_n B hid (by omega), Option.bind_some]
    simp only [if_neg ho, ec, if_neg ho2, ec2]
    simp (disch := omega) only [mk_st_same, mk_st_ne, h85, h84, nI_1, h74, h73, h25, er]
    rw [if_neg (fun q => by have := nI_inj (by omega) (by omega) q; omega), if_pos c2.1, if_neg (nle0 c2.2.1 (by omega)), if_pos (by rw [c2.2.2]), if_neg (ob_n hm8 (by decide)), cl_n (by omega), ob_id]
