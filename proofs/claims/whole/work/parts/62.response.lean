/-! response -/
theorem pu_J.val {n : Nat} {M : mk_M} {t np no ch w wd : Nat} {P O : Nat → Nat} (h : pu_J n M t np no ch w wd P O) {i : Nat} (hi : i < np) : pu_cv M M (P i) ∧ pu_rv M (P i) ∧ pu_vl M (P i) := by
  have h' := h
  obtain ⟨-, -, -, -, -, a6, -, -, -, -, -, -⟩ := h'
  obtain ⟨-, -, r1, r2⟩ := a6.2.2.2 i hi
  obtain ⟨per, dl, lo, hi', jb, pe, b1, b2, b3, b4, -⟩ := h.tk r1 r2 hi rfl
  have hh : hi' ≤ 200 := by omega
  have e1 : pu_v M 71 (P i) = per := by unfold pu_v; rw [b1.2.1, cl_n (by omega)]
  have e2 : pu_v M 72 (P i) = dl := by unfold pu_v; rw [b2.2.1, cl_n (by omega)]
  have e3 : pu_v M 73 (P i) = lo := by unfold pu_v; rw [b3.2.1, cl_n (by omega)]
  have e4 : pu_v M 74 (P i) = hi' := by unfold pu_v; rw [b4.2.1, cl_n (by omega)]
  unfold pu_cv pu_rv pu_vl
  rw [e1, e2, e3, e4]
  exact ⟨⟨b1.1, b2.1, b3.1, b4.1⟩, ⟨b1.2.1, b2.2.1, b3.2.1, b4.2.1⟩, ⟨b1.2.2.1, b1.2.2.2⟩, ⟨b2.2.2.1, by omega⟩, ⟨b3.2.2.1, b3.2.2.2⟩, hh⟩
theorem lr_cg {M M' : mk_M} {P : Nat → Nat} {k r : Nat} (h71 : M' 71 = M 71) (h72 : M' 72 = M 72) (h73 : M' 73 = M 73) : pu_lr M' P k r ↔ pu_lr M P k r := by
  unfold pu_lr pu_lo pu_v
  simp only [h71, h72, h73]
theorem bd_cg {M M' : mk_M} {P : Nat → Nat} {k r b : Nat} (h71 : M' 71 = M 71) (h72 : M' 72 = M 72) (h73 : M' 73 = M 73) (h74 : M' 74 = M 74) : pu_bd M' P k r b ↔ pu_bd M P k r b := by
  unfold pu_bd pu_hi pu_fx pu_v
  simp only [h71, h72, h73, h74]
theorem vl_cg {M M' : mk_M} {id : Nat} (h71 : M' 71 = M 71) (h72 : M' 72 = M 72) (h73 : M' 73 = M 73) (h74 : M' 74 = M 74) (h : pu_vl M id) : pu_vl M' id := by
  unfold pu_vl pu_v at h ⊢
  simp only [h71, h72, h73, h74]
  exact h
theorem rv_cg {M M' : mk_M} {id : Nat} (h71 : M' 71 = M 71) (h72 : M' 72 = M 72) (h73 : M' 73 = M 73) (h74 : M' 74 = M 74) (h : pu_rv M id) : pu_rv M' id := by
  unfold pu_rv pu_v at h ⊢
  simp only [h71, h72, h73, h74]
  exact h
/-- what the class answers for a task that fits -/
theorem ok_c {M V : mk_M} {x k : Nat} {P : Nat → Nat} (hk : k < 12) (hP : ∀ i, i ≤ k → M (x + 1) i = nI (P i) ∧ P i ≤ 12 ∧ pu_cv M V (P i) ∧ pu_vl V (P i)) (hok : pu_ok V P k) :
    ∃ r, pu_lr V P k r ∧ f_X4_lowResponse x (nI k) (nI k) M = some (nI r) ∧ ((pu_v V 74 (P k) = 0 ∧ f_X4_bound x (nI k) (nI k) M = some (-1)) ∨ (0 < pu_v V 74 (P k) ∧ ∃ b, pu_bd V P k r b ∧ f_X4_bound x (nI k) (nI k) M = some (nI b))) := by
  obtain ⟨r, hr, hb⟩ := hok
  have e : f_X4_lowResponse x (nI k) (nI k) M = some (nI r) := by
    rw [lw_n hk hP]
    rcases lr_n hk hP with ⟨r', h1, h2⟩ | ⟨h1, -⟩
    · rw [lr_u hr h1]; exact h2
    · have := h1 r hr.1 hr.2.1; have := hr.2.2.1; omega
  refine ⟨r, hr, e, ?_⟩
  rcases Nat.eq_zero_or_pos (pu_v V 74 (P k)) with z | z
  · exact Or.inl ⟨z, bl_n hk hP z⟩
  · right
    refine ⟨z, ?_⟩
    obtain ⟨b, hb⟩ := hb z
    rcases bd_n hk hP hr z with ⟨b', h1, h2⟩ | ⟨h1, -⟩
    · exact ⟨b', h1, h2⟩
    · have := h1 b hb.1 hb.2.1; have := hb.2.2.1; omega
/-- and the reference -/
theorem ok_r {B : mk_M} {P : Nat → Nat} {k : Nat} (h : pu_rk B P k) (hok : pu_ok B P k) :
    ∃ r, pu_lr B P k r ∧ f_X6_lowResponse (nI (P k)) B = some (nI r) ∧ (0 < pu_v B 74 (P k) → ∃ b, pu_bd B P k r b ∧ f_X6_bound (nI (P k)) (nI r) B = some (nI b)) := by
  obtain ⟨r, hr, hb⟩ := hok
  have e : f_X6_lowResponse (nI (P k)) B = some (nI r) := by
    rcases l_n h with ⟨r', h1, h2⟩ | ⟨h1, -⟩
    · rw [lr_u hr h1]; exact h2
    · have := h1 r hr.1 hr.2.1; have := hr.2.2.1; omega
  have hr1000 : r ≤ 1000 := Nat.le_trans hr.2.1 (h.2.1 k (Nat.le_refl _)).2.2.2.1.2
  refine ⟨r, hr, e, fun z => ?_⟩
  obtain ⟨b, hb⟩ := hb z
  rcases b_n h hr1000 with ⟨b', h1, h2⟩ | ⟨h1, -⟩
  · exact ⟨b', h1, h2⟩
  · have := h1 b hb.1 hb.2.1; have := hb.2.2.1; omega
theorem pu_s6 : mk_S6 pu_I := by
  intro n M a1 a2 hn hI
  have hI' := hI
  obtain ⟨t, np, no, ch, w, wd, P, O, hJ⟩ := hI'
  have hJ' := hJ
  obtain ⟨a1', a2', a3, a4, a5, a6, a7, a8, a9, a10, a11, a12⟩ := hJ'
  have throw : ∀ (k : Nat) (v : Int32), (k = 3 ∧ v = 1 ∨ k = 1 ∧ v = 2) → f_X5_response a1 a2 M = some ((k, 0), M) → f_X6_response a1 a2 M = some (0, mk_st M 68 0 v) → ∃ (q : (Nat × Int32) × mk_M) (r : Int32 × mk_M), f_X5_response a1 a2 M = some q ∧ (q.1.1 = 0 ∨ q.1.1 = 3 ∨ q.1.1 = 1) ∧ f_X6_response a1 a2 q.2 = some r ∧ r.2 68 0 = fc_L_response q ∧ (fc_L_response q = 0 → q.1.2 = r.1) ∧ pu_I (n + 1) r.2 := by
    intro k v hkv h1 h2
    refine ⟨_, _, h1, ?_, h2, ?_, fun _ => rfl, hI.up (Nat.le_succ n) hn (pu_ag.th M v)⟩
    · rcases hkv with ⟨rfl, rfl⟩ | ⟨rfl, rfl⟩
      · exact Or.inr (Or.inl rfl)
      · exact Or.inr (Or.inr rfl)
    · show mk_st M 68 0 v 68 0 = _
      rw [mk_st_same]
      rcases hkv with ⟨rfl, rfl⟩ | ⟨rfl, rfl⟩ <;> rfl
  rcases pl_of (x := 3) a6.1 a6.2.2.1 (fun i h => (a6.2.2.2 i h).1) (fun i h => (a6.2.2.2 i h).2.2) a7 a1 with ⟨k, hk, rfl, k4⟩ | ⟨k1, k4⟩
  · obtain ⟨-, -, r1, r2⟩ := a6.2.2.2 k hk
    have k2 : f_X6_isKnown (nI (P k)) M = some 1 := by
      rcases hJ.kn (nI (P k)) with ⟨-, -, -, -, -, -, -, -, z⟩ | ⟨z, -, -⟩
      · exact z
      · exact absurd rfl (z k hk)
    have e5 : f_X5_response (nI (P k)) a2 M = (if a2 = 0 then ((f_X4_lowResponse 3 (nI k) (nI k) M).bind (fun r_10 => (some ((0, r_10), M)))) else (if a2 = 1 then ((f_X4_bound 3 (nI k) (nI k) M).bind (fun r_7 => (some ((0, r_7), M)))) else (some ((1, 0), M)))) := by
      unfold f_X5_response
      rw [k4, Option.bind_some, if_neg (nn1 (by omega))]
    by_cases hw : a2 = 0 ∨ a2 = 1
    · have hP : ∀ i, i ≤ k → M (3 + 1) i = nI (P i) ∧ P i ≤ 12 ∧ pu_cv M M (P i) ∧ pu_vl M (P i) := fun i hi => ⟨(a6.2.2.2 i (by omega)).1, (a6.2.2.2 i (by omega)).2.2.2, (hJ.val (by omega)).1, (hJ.val (by omega)).2.2⟩
      obtain ⟨r, c1, c2, c3⟩ := ok_c (x := 3) (by omega) hP (a12 k hk)
      obtain ⟨R, m1, m2⟩ := mh_n (B := mk_st M 68 0 0) (P := P) (k := k) (by omega) (fun i hi => by simp (disch := omega) only [mk_st_off]; exact ⟨(a6.2.2.2 i (by omega)).2.1, (a6.2.2.2 i (by omega)).2.2.2⟩)
      generalize hB : mk_sr (mk_st M 68 0 0) 92 R = B at m1
      have fB : ∀ y, y ≠ 68 → y ≠ 92 → B y = M y := fun y h1 h2 => by rw [← hB]; simp (disch := omega) only [mk_st_off, mk_sr_off]
      have b71 := fB 71 (by decide) (by decide)
      have b72 := fB 72 (by decide) (by decide)
      have b73 := fB 73 (by decide) (by decide)
      have b74 := fB 74 (by decide) (by decide)
      have hrk : pu_rk B P k := by
        refine ⟨by omega, fun i hi => ⟨(a6.2.2.2 i (by omega)).2.2, rv_cg b71 b72 b73 b74 (hJ.val (by omega)).2.1, vl_cg b71 b72 b73 b74 (hJ.val (by omega)).2.2⟩, fun i j hi hj => a7 i j (by omega) (by omega), fun j j1 j2 => ?_⟩
        rw [← hB, mk_sr_row, m2 j j1 j2]
        refine ⟨fun z => z.1, fun z => ⟨z, fun y => ?_⟩⟩
        obtain ⟨i, i1, i2⟩ := z
        have := a7 i k (by omega) hk (by rw [i2, y])
        omega
      obtain ⟨r', d1, d2, d3⟩ := ok_r hrk (pu_ok_same b71 b72 b73 b74 (a12 k hk))
      have er : r' = r := lr_u ((lr_cg b71 b72 b73).mp d1) c1
      subst er
      have pp : f_X6_planPlace (nI (P k)) (mk_st M 68 0 0) = some (nI k) := sr_pp (P := P) (s := np) a6.2.2.1 (fun i hi => by simp (disch := omega) only [mk_st_off]; exact (a6.2.2.2 i hi).2.1) (nI (P k)) hk rfl (fun k' hk' z => by
        have r' := (a6.2.2.2 k' (by omega)).2.2
        have := a7 k' k (by omega) hk (nI_inj (by omega) (by omega) z)
        omega) k 0 mk_F (by omega) (mk_F_lt (by omega))
      have ho : ¬ mk_ob (nI (P k)) 13 := ob_n (by omega) (by omega)
      have ec : (nI (P k)).toNatClampNeg = P k := cl_n (by omega)
      have e6 : f_X6_response (nI (P k)) a2 M = (if a2 = 0 then (some (nI r', B)) else (if (M 74 (P k)) = 0 then (some ((-1), B)) else ((f_X6_bound (nI (P k)) (nI r') B).bind (fun r_18 => (some (r_18, B)))))) := by
        unfold f_X6_response
        have hw2 : f_X6_within a2 0 1 M = some 1 := by
          rw [wi_n]
          rcases hw with z | z
          · rw [z]; rfl
          · rw [z]; rfl
        rw [k2, Option.bind_some, hw2, Option.bind_some, go_111, Option.bind_some, if_neg n1_0, pp, Option.bind_some, m1, Option.bind_some, d2, Option.bind_some, if_neg ho]
        simp only [ec, b74]
      have fin : ∀ v : Int32, f_X5_response (nI (P k)) a2 M = some ((0, v), M) → f_X6_response (nI (P k)) a2 M = some (v, B) → ∃ (q : (Nat × Int32) × mk_M) (r : Int32 × mk_M), f_X5_response (nI (P k)) a2 M = some q ∧ (q.1.1 = 0 ∨ q.1.1 = 3 ∨ q.1.1 = 1) ∧ f_X6_response (nI (P k)) a2 q.2 = some r ∧ r.2 68 0 = fc_L_response q ∧ (fc_L_response q = 0 → q.1.2 = r.1) ∧ pu_I (n + 1) r.2 := by
        intro v h1 h2
        refine ⟨_, _, h1, Or.inl rfl, h2, ?_, fun _ => rfl, hI.up (Nat.le_succ n) hn ⟨fun x _ _ x68 _ _ x92 => fB x x68 x92, fun k hk => ?_⟩⟩
        · show B 68 0 = 0
          rw [← hB, mk_sr_off _ _ _ (by decide), mk_st_same]
        · show B 68 k = M 68 k
          rw [← hB, mk_sr_off _ _ _ (by decide), mk_st_ne _ _ _ _ (fun z => hk z.2)]
      rcases hw with rfl | rfl
      · exact fin (nI r') (by rw [e5, if_pos rfl, c2]; rfl) (by rw [e6, if_pos rfl])
      · have v74 := (hJ.val hk).2.1.2.2.2
        rcases c3 with ⟨z1, z2⟩ | ⟨z1, b, z2, z3⟩
        · refine fin (-1) (by rw [e5, if_neg n1_0, if_pos rfl, z2]; rfl) ?_
          rw [e6, if_neg n1_0, v74, z1, if_pos nI_0]
        · have z1' : 0 < pu_v B 74 (P k) := by unfold pu_v; rw [b74]; exact z1
          obtain ⟨b', y1, y2⟩ := d3 z1'
          have eb : b' = b := bd_u ((bd_cg b71 b72 b73 b74).mp y1) z2
          subst eb
          have h200 := (hJ.val hk).2.2.2.2.2
          refine fin (nI b') (by rw [e5, if_neg n1_0, if_pos rfl, z3]; rfl) ?_
          rw [e6, if_neg n1_0, v74, if_neg (nI_ne0 z1 (by omega)), y2]; rfl
    · refine throw 1 2 (Or.inr ⟨rfl, rfl⟩) ?_ ?_
      · rw [e5, if_neg (fun z => hw (Or.inl z)), if_neg (fun z => hw (Or.inr z))]
      · unfold f_X6_response
        have hw2 : f_X6_within a2 0 1 M = some 0 := by
          rw [wi_n]
          by_cases z : a2 < 0
          · rw [if_pos z]
          · rw [if_neg z]
            by_cases y : 1 < a2
            · rw [if_pos y]
            · exfalso
              obtain ⟨j, hj, rfl⟩ := nI_of z
              have : j ≤ 1 := by
                rcases Nat.lt_or_ge 1 j with q | q
                · exact absurd (show nI 1 < nI j from nI_lt q hj) y
                · exact q
              have h01 : j = 0 ∨ j = 1 := by omega
              rcases h01 with rfl | rfl
              · exact hw (Or.inl rfl)
              · exact hw (Or.inr rfl)
        rw [k2, Option.bind_some, hw2, Option.bind_some, go_10]; rfl
  · refine throw 3 1 (Or.inl ⟨rfl, rfl⟩) ?_ ?_
    · unfold f_X5_response
      rw [k4, Option.bind_some, if_pos rfl]
    · have k2 : f_X6_isKnown a1 M = some 0 := by
        rcases hJ.kn a1 with ⟨id, k, -, -, z1, z2, z3, -, -⟩ | ⟨-, -, z⟩
        · exact absurd (by rw [z1, z3]) (k1 k z2)
        · exact z
      unfold f_X6_response
      rw [k2, Option.bind_some, wi_n, Option.bind_some, go_0]; rfl
