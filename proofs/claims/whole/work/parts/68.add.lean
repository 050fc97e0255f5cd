/-! add: the reference up to its answer -/
theorem st_row {A B : mk_M} {y k : Nat} {v : Int32} (h : A y = B y) : mk_st A y k v y = mk_st B y k v y := by
  rw [mk_st_sr A, mk_st_sr B, mk_sr_row, mk_sr_row, h]
def pu_V (M : mk_M) (id per dl lo hi : Nat) : mk_M := mk_st (mk_st (mk_st (mk_st M 71 id (nI per)) 72 id (nI dl)) 73 id (nI lo)) 74 id (nI hi)
theorem V_ne {M : mk_M} {id per dl lo hi y j : Nat} (h : j ≠ id) : pu_V M id per dl lo hi y j = M y j := by
  unfold pu_V
  simp (disch := omega) only [mk_st_ne]
theorem V_id {M : mk_M} {id per dl lo hi : Nat} : pu_V M id per dl lo hi 71 id = nI per ∧ pu_V M id per dl lo hi 72 id = nI dl ∧ pu_V M id per dl lo hi 73 id = nI lo ∧ pu_V M id per dl lo hi 74 id = nI hi := by
  unfold pu_V
  simp (disch := omega) only [mk_st_ne, mk_st_same]
  exact ⟨trivial, trivial, trivial, trivial⟩
theorem V_val {n : Nat} {M : mk_M} {t np no ch w wd : Nat} {P O : Nat → Nat} (hJ : pu_J n M t np no ch w wd P O) {id per dl lo hi c : Nat} (i1 : 1 ≤ id) (i2 : id ≤ 12) (p1 : 1 ≤ per) (p2 : per ≤ 1000) (d1 : 1 ≤ dl) (d2 : dl ≤ per) (l1 : 1 ≤ lo) (l2 : lo ≤ 100) (h2 : hi ≤ 200) (hk : ¬ pu_kn P np id) (hc : c ≤ np) :
    ∀ i, i < np + 1 → (1 ≤ pu_in P c id i ∧ pu_in P c id i ≤ 12) ∧ pu_rv (pu_V M id per dl lo hi) (pu_in P c id i) ∧ pu_vl (pu_V M id per dl lo hi) (pu_in P c id i) := by
  intro i hi'
  have hJ' := hJ
  obtain ⟨-, -, -, -, -, a6, -⟩ := hJ'
  rcases in_cs (P := P) (id := id) hc hi' with e | ⟨j, j1, j2⟩
  · rw [e]
    obtain ⟨v1, v2, v3, v4⟩ := V_id (M := M) (id := id) (per := per) (dl := dl) (lo := lo) (hi := hi)
    have w1 : pu_v (pu_V M id per dl lo hi) 71 id = per := by unfold pu_v; rw [v1]; exact cl_n (by omega)
    have w2 : pu_v (pu_V M id per dl lo hi) 72 id = dl := by unfold pu_v; rw [v2]; exact cl_n (by omega)
    have w3 : pu_v (pu_V M id per dl lo hi) 73 id = lo := by unfold pu_v; rw [v3]; exact cl_n (by omega)
    have w4 : pu_v (pu_V M id per dl lo hi) 74 id = hi := by unfold pu_v; rw [v4]; exact cl_n (by omega)
    unfold pu_rv pu_vl
    rw [w1, w2, w3, w4]
    exact ⟨⟨i1, i2⟩, ⟨v1, v2, v3, v4⟩, ⟨p1, p2⟩, ⟨d1, by omega⟩, ⟨l1, l2⟩, h2⟩
  · rw [j2]
    have ne : P j ≠ id := fun z => hk ⟨j, j1, z⟩
    obtain ⟨-, v2, v3⟩ := hJ.val j1
    refine ⟨(a6.2.2.2 j j1).2.2, ?_, ?_⟩
    · unfold pu_rv pu_v at v2 ⊢
      rw [V_ne ne, V_ne ne, V_ne ne, V_ne ne]; exact v2
    · unfold pu_vl pu_v at v3 ⊢
      rw [V_ne ne, V_ne ne, V_ne ne, V_ne ne]; exact v3
theorem ad_ref {n : Nat} {M B0 : mk_M} {t np no ch w wd : Nat} {P O : Nat → Nat} (hJ : pu_J n M t np no ch w wd P O) {id per dl lo hi c k1 k2 : Nat} (i1 : 1 ≤ id) (i2 : id ≤ 12) (p1 : 1 ≤ per) (p2 : per ≤ 1000) (d1 : 1 ≤ dl) (d2 : dl ≤ per) (l1 : 1 ≤ lo) (l2 : lo ≤ 100) (h2 : hi ≤ 200) (hk : ¬ pu_kn P np id) (hc : c = pu_pc dl (fun i => pu_v M 72 (P i)) np)
    (h69 : ∀ y, 69 ≤ y → B0 y = M y) (h68 : ∀ k, k ≠ 0 → B0 68 k = M 68 k) (hk1 : k1 ≤ np + 1) (f1 : ∀ j, j < k1 → ∃ r, pu_lr (pu_V M id per dl lo hi) (pu_in P c id) j r) (g1 : k1 < np + 1 → ¬ ∃ r, pu_lr (pu_V M id per dl lo hi) (pu_in P c id) k1 r) (hk2 : k2 ≤ np + 1) (f2 : ∀ j, j < k2 → pu_ok (pu_V M id per dl lo hi) (pu_in P c id) j) (g2 : k2 < np + 1 → ¬ pu_ok (pu_V M id per dl lo hi) (pu_in P c id) k2) :
    ∃ B3 : mk_M, (∀ y, y ≠ 68 → y ≠ 71 → y ≠ 72 → y ≠ 73 → y ≠ 74 → y ≠ 75 → y ≠ 77 → y ≠ 92 → B3 y = B0 y) ∧ (∀ q, q ≠ 7 → B3 68 q = B0 68 q) ∧ B3 68 7 = nI (np + 1) ∧ (∀ j, j < np + 1 → B3 75 j = nI (pu_in P c id j)) ∧ (∀ y, 71 ≤ y → y ≤ 74 → B3 y = pu_V M id per dl lo hi y) ∧
      f_X6_add_97 mk_F (nI id) (nI per) (nI dl) (nI lo) (nI hi) 0 0 B0 = ad_t (nI id) (if k1 < np + 1 then nI (pu_in P c id k1) else if k2 < np + 1 then 0 - nI (pu_in P c id k2) else 0, B3) := by
  have hJ' := hJ
  obtain ⟨-, -, -, -, -, a6, a7, -⟩ := hJ'
  have hcn : c ≤ np := by rw [hc]; exact pc_le _ _ _
  have hnp := in_12 (fun i hi => (a6.2.2.2 i hi).2.2) i1 i2 a7 hk
  have val := V_val hJ (c := c) i1 i2 p1 p2 d1 d2 l1 l2 h2 hk hcn
  have h7 : B0 68 7 = nI np := by rw [h68 7 (by decide)]; exact a6.2.1
  have e1 := rp_lp (B := B0) (np := np) (dl := dl) (P := P) (D := fun i => pu_v M 72 (P i)) (a1 := nI id) (a2 := nI per) (a4 := nI lo) (a5 := nI hi) (by omega) (by omega) h7 (fun i hi' => by
    obtain ⟨-, v2, v3⟩ := hJ.val hi'
    rw [h69 75 (by decide), h69 72 (by decide)]
    exact ⟨(a6.2.2.2 i hi').2.1, (a6.2.2.2 i hi').2.2.2, v2.2.1, v3.2.1.2⟩) np 0 mk_F (by omega) (mk_F_lt (by omega))
  rw [← hc] at e1
  obtain ⟨R, e2, e3⟩ := rs_lp (B := B0) (np := np) (c := c) (id := id) (P := P) (a2 := nI per) (a3 := nI dl) (a4 := nI lo) (a5 := nI hi) hnp i2 h7 (np - c) np mk_F (B0 75) (by omega) (Nat.le_refl _) (mk_F_lt (by omega)) (fun j hj => by rw [h69 75 (by decide)]; exact (a6.2.2.2 j hj).2.1) (fun j j1 j2 => by omega)
  rw [mk_sr_id] at e2
  generalize hBu : mk_st (mk_st (mk_st (mk_st (mk_st (mk_sr B0 75 R) 68 7 (nI (np + 1))) 71 id (nI per)) 72 id (nI dl)) 73 id (nI lo)) 74 id (nI hi) = Bu at e2
  have u0 : ∀ y, y ≠ 68 → y ≠ 71 → y ≠ 72 → y ≠ 73 → y ≠ 74 → y ≠ 75 → Bu y = B0 y := fun y y1 y2 y3 y4 y5 y6 => by rw [← hBu]; simp (disch := omega) only [mk_st_off, mk_sr_off]
  have u68 : ∀ q, q ≠ 7 → Bu 68 q = B0 68 q := fun q hq => by rw [← hBu]; simp (disch := omega) only [mk_st_off, mk_st_ne, mk_sr_off]
  have u7 : Bu 68 7 = nI (np + 1) := by rw [← hBu]; simp (disch := omega) only [mk_st_off, mk_st_same]
  have u75 : ∀ j, j < np + 1 → Bu 75 j = nI (pu_in P c id j) := fun j hj => by rw [← hBu]; simp (disch := omega) only [mk_st_off, mk_sr_row]; exact e3 j (by omega)
  have u71 : Bu 71 = pu_V M id per dl lo hi 71 := by
    rw [← hBu]; unfold pu_V
    simp (disch := omega) only [mk_st_off]
    exact st_row (by simp (disch := omega) only [mk_st_off, mk_sr_off]; exact h69 71 (by decide))
  have u72 : Bu 72 = pu_V M id per dl lo hi 72 := by
    rw [← hBu]; unfold pu_V
    simp (disch := omega) only [mk_st_off]
    exact st_row (by simp (disch := omega) only [mk_st_off, mk_sr_off]; exact h69 72 (by decide))
  have u73 : Bu 73 = pu_V M id per dl lo hi 73 := by
    rw [← hBu]; unfold pu_V
    simp (disch := omega) only [mk_st_off]
    exact st_row (by simp (disch := omega) only [mk_st_off, mk_sr_off]; exact h69 73 (by decide))
  have u74 : Bu 74 = pu_V M id per dl lo hi 74 := by
    rw [← hBu]; unfold pu_V
    exact st_row (by simp (disch := omega) only [mk_st_off, mk_sr_off]; exact h69 74 (by decide))
  have uval : ∀ i, i < np + 1 → (1 ≤ pu_in P c id i ∧ pu_in P c id i ≤ 12) ∧ pu_rv Bu (pu_in P c id i) ∧ pu_vl Bu (pu_in P c id i) := fun i hi' => ⟨(val i hi').1, rv_cg u71 u72 u73 u74 (val i hi').2.1, vl_cg u71 u72 u73 u74 (val i hi').2.2⟩
  have inj : ∀ i j, i < np + 1 → j < np + 1 → pu_in P c id i = pu_in P c id j → i = j := fun i j hi hj h => in_ij a7 hk i j hi hj hcn h
  have lcg : ∀ j r, pu_lr Bu (pu_in P c id) j r ↔ pu_lr (pu_V M id per dl lo hi) (pu_in P c id) j r := fun j r => lr_cg u71 u72 u73
  obtain ⟨B2, m1, m2, m3⟩ := uf_lp (B := Bu) (s := np + 1) (k := k1) (Q := pu_in P c id) (by omega) u7 u75 uval inj hk1 (fun j hj => by obtain ⟨r, hr⟩ := f1 j hj; exact ⟨r, (lcg j r).mpr hr⟩) (fun h z => by obtain ⟨r, hr⟩ := z; exact g1 h ⟨r, (lcg k1 r).mp hr⟩) k1 0 mk_F Bu (by omega) (mk_F_lt (by omega)) (fun _ _ _ => rfl) (fun j hj => absurd hj (by omega))
  have em : f_X6_unfit Bu = if k1 < np + 1 then some (nI (pu_in P c id k1), B2) else f_X6_unfit_65 mk_F 0 B2 := m3
  have e0 : f_X6_add_97 mk_F (nI id) (nI per) (nI dl) (nI lo) (nI hi) 0 0 B0 = (f_X6_unfit Bu).bind (ad_t (nI id)) := by rw [← e2, ← e1]; rfl
  by_cases c1 : k1 < np + 1
  · refine ⟨B2, fun y y1 y2 y3 y4 y5 y6 y7 y8 => by rw [m1 y y7 y8]; exact u0 y y1 y2 y3 y4 y5 y6, fun q hq => by rw [m1 68 (by decide) (by decide)]; exact u68 q hq, by rw [m1 68 (by decide) (by decide)]; exact u7, fun j hj => by rw [m1 75 (by decide) (by decide)]; exact u75 j hj, fun y y1 y2 => ?_, ?_⟩
    · rw [m1 y (by omega) (by omega)]
      rcases (show y = 71 ∨ y = 72 ∨ y = 73 ∨ y = 74 by omega) with e | e | e | e
      · rw [e]; exact u71
      · rw [e]; exact u72
      · rw [e]; exact u73
      · rw [e]; exact u74
    · rw [e0, em, if_pos c1, if_pos c1]; rfl
  · have ek : k1 = np + 1 := by omega
    have b71 : B2 71 = Bu 71 := m1 71 (by decide) (by decide)
    have b72 : B2 72 = Bu 72 := m1 72 (by decide) (by decide)
    have b73 : B2 73 = Bu 73 := m1 73 (by decide) (by decide)
    have b74 : B2 74 = Bu 74 := m1 74 (by decide) (by decide)
    obtain ⟨B3, q1, q2⟩ := ub_lp (B := B2) (s := np + 1) (k := k2) (Q := pu_in P c id) (by omega) (by rw [m1 68 (by decide) (by decide)]; exact u7) (fun i hi' => by rw [m1 75 (by decide) (by decide)]; exact u75 i hi') (fun i hi' => ⟨(val i hi').1, rv_cg b71 b72 b73 b74 (uval i hi').2.1, vl_cg b71 b72 b73 b74 (uval i hi').2.2⟩) inj hk2 (fun j hj => by
      obtain ⟨r, r1, r2⟩ := m2 j (by omega)
      exact ⟨r, (lr_cg b71 b72 b73).mpr r1, r2⟩) (fun j hj => pu_ok_same (b71.trans u71) (b72.trans u72) (b73.trans u73) (b74.trans u74) (f2 j hj)) (fun h z => g2 h (pu_ok_same (b71.trans u71).symm (b72.trans u72).symm (b73.trans u73).symm (b74.trans u74).symm z)) k2 0 mk_F B2 (by omega) (mk_F_lt (by omega)) (fun _ _ => rfl)
    have q3 : f_X6_unfit_65 mk_F 0 B2 = some (if k2 < np + 1 then 0 - nI (pu_in P c id k2) else 0, B3) := q2
    refine ⟨B3, fun y y1 y2 y3 y4 y5 y6 y7 y8 => by rw [q1 y y8, m1 y y7 y8]; exact u0 y y1 y2 y3 y4 y5 y6, fun q hq => by rw [q1 68 (by decide), m1 68 (by decide) (by decide)]; exact u68 q hq, by rw [q1 68 (by decide), m1 68 (by decide) (by decide)]; exact u7, fun j hj => by rw [q1 75 (by decide), m1 75 (by decide) (by decide)]; exact u75 j hj, fun y y1 y2 => ?_, ?_⟩
    · rw [q1 y (by omega), m1 y (by omega) (by omega)]
      rcases (show y = 71 ∨ y = 72 ∨ y = 73 ∨ y = 74 by omega) with e | e | e | e
      · rw [e]; exact u71
      · rw [e]; exact u72
      · rw [e]; exact u73
      · rw [e]; exact u74
    · rw [e0, em, if_neg c1, if_neg c1, q3]; rfl
