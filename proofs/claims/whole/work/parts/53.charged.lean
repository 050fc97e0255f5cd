theorem cg_N {n : Nat} {A B : mk_M} {t np no ch w wd : Nat} {P O : Nat → Nat} (hJ : pu_J n (pu_ov A B) t np no ch w wd P O) {id jb pe cg dm : Nat} (i1 : 1 ≤ id) (i2 : id ≤ 12) (hkn : pu_kn P np id) (h5 : A (16 + 4 * id) 5 = nI jb) (h9 : A (16 + 4 * id) 9 = nI pe) (hjb : jb ≤ 512) (hpe : pe ≤ 4) (hp : 0 < pe) (hcg : cg < 300) (h84 : B 84 (8 * id + (jb + 1 - pe) % 8) = nI dm) (hdm : dm ≤ 200) (hc : cg + 1 < dm) :
    pu_J n (pu_ov (mk_st (mk_st A (16 + 4 * id) 7 (A (16 + 4 * id) 7 + 1)) (16 + 4 * id) 10 (nI (cg + 1))) (mk_st (mk_st B 85 (8 * id + (jb + 1 - pe) % 8) (nI (cg + 1))) 80 id (B 80 id + 1))) t np no ch w wd P O := by
  have hm : (jb + 1 - pe) % 8 < 8 := Nat.mod_lt _ (by decide)
  have hn5 := hJ.1.2.2.2
  have hT : pu_T n (pu_ov A B) P np := by obtain ⟨-, -, -, -, -, -, -, -, -, a10, -⟩ := hJ; exact a10
  obtain ⟨q69, htk⟩ := (hT id i1 i2).1 hkn
  unfold pu_tk at htk
  simp (disch := omega) only [ov_lo, ov_hi] at htk q69
  obtain ⟨per, dl, lo, hi, jb', pe', a1, a2, a3, a4, a5, a6, a7, a8, a9, a10, a11, a12, a13⟩ := htk
  have ejb : jb' = jb := nI_inj (by omega) (by omega) (by rw [← a6.1, h5])
  have epe : pe' = pe := nI_inj (by omega) (by omega) (by rw [← a8.1, h9])
  subst ejb
  subst epe
  refine hJ.tsk (Nat.le_refl _) hn5 ?_ ?_ ?_ (pu_T.one (Nat.le_refl _) hT hkn ?_ ⟨per, dl, lo, hi, jb', pe', ?_, ?_, ?_, ?_, ?_, ?_, ?_, ?_, ?_, ?_, ?_, ?_, ?_⟩ ?_)
  · intro x hx
    simp (disch := omega) only [ov_lo, mk_st_off]
  · intro k hk
    simp (disch := omega) only [ov_hi, mk_st_off]
  · intro x h1 h2 h3 h4
    simp (disch := omega) only [ov_hi, mk_st_off]
  · simp (disch := omega) only [ov_lo, ov_hi, mk_st_same, mk_st_ne]; exact q69
  · simp (disch := omega) only [ov_lo, ov_hi, mk_st_same, mk_st_ne]; exact a1
  · simp (disch := omega) only [ov_lo, ov_hi, mk_st_same, mk_st_ne]; exact a2
  · simp (disch := omega) only [ov_lo, ov_hi, mk_st_same, mk_st_ne]; exact a3
  · simp (disch := omega) only [ov_lo, ov_hi, mk_st_same, mk_st_ne]; exact a4
  · simp (disch := omega) only [ov_lo, ov_hi, mk_st_same, mk_st_ne]; exact a5
  · simp (disch := omega) only [ov_lo, ov_hi, mk_st_same, mk_st_ne]; exact a6
  · simp (disch := omega) only [ov_lo, ov_hi, mk_st_same, mk_st_ne]; exact ⟨a7.1, by rw [a7.2.1], a7.2.2⟩
  · simp (disch := omega) only [ov_lo, ov_hi, mk_st_same, mk_st_ne]; exact a8
  · intro j j1 j2 j3
    simp (disch := omega) only [ov_lo, ov_hi, mk_st_same, mk_st_ne]
    exact a9 j j1 j2 j3
  · intro c; omega
  · intro _
    simp (disch := omega) only [ov_lo, ov_hi, mk_st_same, mk_st_ne]
    exact ⟨cg + 1, dm, rfl, rfl, h84, hc, hdm⟩
  · intro j j1 j2
    have hne : j % 8 ≠ (jb' + 1 - pe') % 8 := by omega
    simp (disch := omega) only [ov_lo, ov_hi, mk_st_same, mk_st_ne]
    exact a12 j j1 j2
  · simp (disch := omega) only [ov_lo, ov_hi, mk_st_same, mk_st_ne]
    exact a13
  · intro j j1 j2 j3
    refine ⟨⟨?_, ?_, ?_, ?_⟩, fun y hy => ?_, fun y k y1 y2 hk => ?_⟩
    · simp (disch := omega) only [ov_lo, mk_st_off]
    · simp (disch := omega) only [ov_lo, mk_st_off]
    · simp (disch := omega) only [ov_lo, mk_st_off]
    · simp (disch := omega) only [ov_lo, mk_st_off]
    · simp (disch := omega) only [ov_hi, mk_st_ne]
    · simp (disch := omega) only [ov_hi, mk_st_ne]
theorem cg_E {n : Nat} {A B : mk_M} {t np no ch w wd : Nat} {P O : Nat → Nat} (hJ : pu_J n (pu_ov A B) t np no ch w wd P O) {id jb pe : Nat} (i1 : 1 ≤ id) (i2 : id ≤ 12) (hkn : pu_kn P np id) (h5 : A (16 + 4 * id) 5 = nI jb) (h9 : A (16 + 4 * id) 9 = nI pe) (hjb : jb ≤ 512) (hpe : pe ≤ 4) (hp : 0 < pe) (v10 v85 v8 v81 : Int32) (hv : v8 = v81) {now : Nat} (hnow : now < 2 ^ 31) :
    pu_J n (pu_ov (mk_st (mk_st (mk_st (mk_st (mk_st (mk_st A (16 + 4 * id) 7 (A (16 + 4 * id) 7 + 1)) (16 + 4 * id) 10 v10) (16 + 4 * id + 3) ((jb + 1 - pe) % 8) (nI now)) (16 + 4 * id) 8 v8) (16 + 4 * id) 9 (nI (pe - 1))) (16 + 4 * id) 10 0) (mk_st (mk_st (mk_st (mk_st B 85 (8 * id + (jb + 1 - pe) % 8) v85) 80 id (B 80 id + 1)) 86 (8 * id + (jb + 1 - pe) % 8) (nI now)) 81 id v81)) t np no ch w wd P O := by
  have hm : (jb + 1 - pe) % 8 < 8 := Nat.mod_lt _ (by decide)
  have hn5 := hJ.1.2.2.2
  have hT : pu_T n (pu_ov A B) P np := by obtain ⟨-, -, -, -, -, -, -, -, -, a10, -⟩ := hJ; exact a10
  obtain ⟨q69, htk⟩ := (hT id i1 i2).1 hkn
  unfold pu_tk at htk
  simp (disch := omega) only [ov_lo, ov_hi] at htk q69
  obtain ⟨per, dl, lo, hi, jb', pe', a1, a2, a3, a4, a5, a6, a7, a8, a9, a10, a11, a12, a13⟩ := htk
  have ejb : jb' = jb := nI_inj (by omega) (by omega) (by rw [← a6.1, h5])
  have epe : pe' = pe := nI_inj (by omega) (by omega) (by rw [← a8.1, h9])
  subst ejb
  subst epe
  refine hJ.tsk (Nat.le_refl _) hn5 ?_ ?_ ?_ (pu_T.one (Nat.le_refl _) hT hkn ?_ ⟨per, dl, lo, hi, jb', pe' - 1, ?_, ?_, ?_, ?_, ?_, ?_, ?_, ?_, ?_, ?_, ?_, ?_, ?_⟩ ?_)
  · intro x hx
    simp (disch := omega) only [ov_lo, mk_st_off]
  · intro k hk
    simp (disch := omega) only [ov_hi, mk_st_off]
  · intro x h1 h2 h3 h4
    simp (disch := omega) only [ov_hi, mk_st_off]
  · simp (disch := omega) only [ov_lo, ov_hi, mk_st_same, mk_st_ne]; exact q69
  · simp (disch := omega) only [ov_lo, ov_hi, mk_st_same, mk_st_ne]; exact a1
  · simp (disch := omega) only [ov_lo, ov_hi, mk_st_same, mk_st_ne]; exact a2
  · simp (disch := omega) only [ov_lo, ov_hi, mk_st_same, mk_st_ne]; exact a3
  · simp (disch := omega) only [ov_lo, ov_hi, mk_st_same, mk_st_ne]; exact a4
  · simp (disch := omega) only [ov_lo, ov_hi, mk_st_same, mk_st_ne]; exact a5
  · simp (disch := omega) only [ov_lo, ov_hi, mk_st_same, mk_st_ne]; exact a6
  · simp (disch := omega) only [ov_lo, ov_hi, mk_st_same, mk_st_ne]; exact ⟨a7.1, by rw [a7.2.1], hv⟩
  · simp (disch := omega) only [ov_lo, ov_hi, mk_st_same, mk_st_ne]; exact ⟨trivial, by omega, by omega⟩
  · intro j j1 j2 j3
    have q := a9 j j1 j2 j3
    by_cases e : j = jb' + 1 - pe'
    · subst e
      simp (disch := omega) only [ov_lo, ov_hi, mk_st_same, mk_st_ne]
      exact ⟨q.1, q.2.1, trivial, ⟨fun c => absurd c (nn1 hnow), fun c => by omega⟩, q.2.2.2.2⟩
    · have hne : j % 8 ≠ (jb' + 1 - pe') % 8 := by omega
      simp (disch := omega) only [ov_lo, ov_hi, mk_st_same, mk_st_ne]
      refine ⟨q.1, q.2.1, q.2.2.1, ⟨fun c => ?_, fun c => ?_⟩, q.2.2.2.2⟩
      · have := q.2.2.2.1.mp c; omega
      · exact q.2.2.2.1.mpr (by omega)
  · intro _
    simp (disch := omega) only [ov_lo, ov_hi, mk_st_same, mk_st_ne]
  · intro c
    have hne : (jb' + 1 - (pe' - 1)) % 8 ≠ (jb' + 1 - pe') % 8 := by omega
    obtain ⟨dm, d1, d2, d3⟩ := (a9 (jb' + 1 - (pe' - 1)) (by omega) (by omega) (by omega)).2.2.2.2
    simp (disch := omega) only [ov_lo, ov_hi, mk_st_same, mk_st_ne]
    exact ⟨0, dm, rfl, a12 _ (by omega) (by omega), d1, by omega, d3⟩
  · intro j j1 j2
    have hne : j % 8 ≠ (jb' + 1 - pe') % 8 := by omega
    simp (disch := omega) only [ov_lo, ov_hi, mk_st_same, mk_st_ne]
    exact a12 j j1 (by omega)
  · simp (disch := omega) only [ov_lo, ov_hi, mk_st_same, mk_st_ne]
    exact a13
  · intro j j1 j2 j3
    refine ⟨⟨?_, ?_, ?_, ?_⟩, fun y hy => ?_, fun y k y1 y2 hk => ?_⟩
    · simp (disch := omega) only [ov_lo, mk_st_off]
    · simp (disch := omega) only [ov_lo, mk_st_off]
    · simp (disch := omega) only [ov_lo, mk_st_off]
    · simp (disch := omega) only [ov_lo, mk_st_off]
    · simp (disch := omega) only [ov_hi, mk_st_ne]
    · simp (disch := omega) only [ov_hi, mk_st_ne]
/-- a task that is leaving with no job pending goes, on both sides -/
theorem lv_J {n : Nat} {A B : mk_M} {t np no ch w wd : Nat} {P O : Nat → Nat} (hJ : pu_J n (pu_ov A B) t np no ch w wd P O) {id : Nat} (i1 : 1 ≤ id) (i2 : id ≤ 12) (hkn : pu_kn P np id) (h9 : A (16 + 4 * id) 9 = 0) (h4 : ¬ A (16 + 4 * id) 4 = 0) :
    ∃ (A' B' : mk_M) (np' no' : Nat) (P' O' : Nat → Nat), f_X5_forgetIfLeft (nI id) A = some A' ∧ f_X6_leave (nI id) B = some B' ∧ (∀ x, 68 ≤ x → A' x = A x) ∧ ((∀ x, x < 68 → B' x = B x) ∧ B' 68 0 = B 68 0) ∧ pu_J n (pu_ov A' B') t np' no' ch w wd P' O' := by
  have hJo := hJ.ord
  have hJ' := hJ
  obtain ⟨a1', a2', a3, a4, a5, a6, a7, a8, a9, a10, a11, a12⟩ := hJ'
  obtain ⟨q69, per, dl, lo, hi, jb, pe, b1, b2, b3, b4, b5, b6, b7, b8, b9, b10, b11, b12, b13⟩ := (a10 id i1 i2).1 hkn
  simp (disch := omega) only [ov_lo, ov_hi] at a1' a2' a3 a4 a5 a6 a8 a11 b1 b2 b3 b4 b5 b6 b7 b8 b9 q69
  have ij3 : pu_ij (np, P) := a7
  have ij5 : pu_ij (no, O) := a9
  have epe : pe = 0 := nI_inj (by omega) (by omega) (by rw [← b8.1, h9]; rfl)
  subst epe
  have l3 : pu_ln A 3 (np, P) := ⟨a6.1, a6.2.2.1, fun i hi => ⟨(a6.2.2.2 i hi).1, (a6.2.2.2 i hi).2.2⟩⟩
  have l5 : pu_ln A 5 (no, O) := ⟨a8.1, a8.2.2.1, fun i hi => ⟨(a8.2.2.2 i hi).1, hJo i hi⟩⟩
  obtain ⟨R3, R5, f1, f2, f3⟩ := fg_n (M := A) (id := id) i2 h4 h9 l3 l5
  have hpe : f_X6_pending (nI id) B = some (nI 0) := pe_n i2 ⟨b6.2.1, by omega, b8.2.2, by omega, fun j h1 h2 h3 => (b9 j h1 h2 h3).2.2.2.1⟩
  obtain ⟨S3, S5, g1, g2, g3⟩ := lv_n (M := B) (id := id) (LP := (np, P)) (LO := (no, O)) i2 (by rw [q69]; exact n1_0) (by rw [← b5.1]; exact h4) hpe a6.2.1 a8.2.1 a6.2.2.1 a8.2.2.1 (fun i hi => ⟨(a6.2.2.2 i hi).2.1, (a6.2.2.2 i hi).2.2.2⟩) (fun i hi => ⟨(a8.2.2.2 i hi).2.1, (hJo i hi).2⟩) ij3 ij5
  refine ⟨_, _, (pu_dr id (np, P)).1, (pu_dr id (no, O)).1, (pu_dr id (np, P)).2, (pu_dr id (no, O)).2, f1, g1, ?_, ?_, ?_, ?_, ?_, ?_, ?_, ?_, dr_ij ij3, ?_, dr_ij ij5, ?_, ?_, ?_⟩
  · intro x hx
    simp (disch := omega) only [mk_st_off, mk_sr_off]
  · refine ⟨fun x hx => ?_, ?_⟩
    · simp (disch := omega) only [mk_st_off, mk_sr_off]
    · simp (disch := omega) only [mk_st_ne, mk_sr_off]
  · simp (disch := omega) only [ov_lo, ov_hi, mk_st_same, mk_st_ne, mk_sr_off, mk_st_off]
    exact a1'
  · simp (disch := omega) only [ov_lo, ov_hi, mk_st_same, mk_st_ne, mk_sr_off, mk_st_off]
    exact a2'
  · simp (disch := omega) only [ov_lo, ov_hi, mk_st_same, mk_st_ne, mk_sr_off, mk_st_off]
    exact a3
  · simp (disch := omega) only [ov_lo, ov_hi, mk_st_same, mk_st_ne, mk_sr_off, mk_st_off]
    exact a4
  · simp (disch := omega) only [ov_lo, ov_hi, mk_st_same, mk_st_ne, mk_sr_off, mk_st_off]
    exact a5
  · simp (disch := omega) only [ov_lo, ov_hi, mk_st_same, mk_st_ne, mk_sr_off, mk_st_off, mk_sr_row]
    exact ⟨trivial, trivial, Nat.le_trans (dr_le _ _) a6.2.2.1, fun i hi => ⟨f2 i hi, g2 i hi, dr_in (id := id) (L := (np, P)) (fun i hi => (a6.2.2.2 i hi).2.2) i hi⟩⟩
  · simp (disch := omega) only [ov_lo, ov_hi, mk_st_same, mk_st_ne, mk_sr_off, mk_st_off, mk_sr_row]
    refine ⟨trivial, trivial, Nat.le_trans (dr_le _ _) a8.2.2.1, fun i hi => ⟨f3 i hi, g3 i hi, ?_⟩⟩
    obtain ⟨⟨i', h1, h2⟩, h3⟩ := (dr_kn ij5 ((pu_dr id (no, O)).2 i)).mp ⟨i, hi, rfl⟩
    refine (dr_kn ij3 _).mpr ⟨?_, h3⟩
    dsimp only at h1 h2 ⊢
    rw [← h2]; exact (a8.2.2.2 i' h1).2.2
  · refine pu_T.out (M := pu_ov A B) (L := (np, P)) (Nat.le_refl n) ij3 a10 ?_ ?_ ?_
    · simp (disch := omega) only [ov_lo, ov_hi, mk_st_same, mk_st_ne, mk_sr_off, mk_st_off, mk_sr_row]
    · simp (disch := omega) only [ov_lo, ov_hi, mk_st_same, mk_st_ne, mk_sr_off, mk_st_off, mk_sr_row]
      exact b8.1
    · intro j j1 j2 j3
      refine ⟨⟨?_, ?_, ?_, ?_⟩, fun y hy => ?_, fun y k y1 y2 hk => ?_⟩
      · simp (disch := omega) only [ov_lo, mk_st_off, mk_sr_off]
      · simp (disch := omega) only [ov_lo, mk_st_off, mk_sr_off]
      · simp (disch := omega) only [ov_lo, mk_st_off, mk_sr_off]
      · simp (disch := omega) only [ov_lo, mk_st_off, mk_sr_off]
      · simp (disch := omega) only [ov_hi, mk_st_ne, mk_sr_off]
      · simp (disch := omega) only [ov_hi, mk_st_ne, mk_sr_off]
  · simp (disch := omega) only [ov_lo, ov_hi, mk_st_same, mk_st_ne, mk_sr_off, mk_st_off, mk_sr_row]
    exact a11
  · intro k hk
    refine pu_ok_same (M := pu_ov A B) ?_ ?_ ?_ ?_ (pu_ok_dr (L := (np, P)) a12 k hk)
    · simp (disch := omega) only [ov_hi, mk_sr_off, mk_st_off]
    · simp (disch := omega) only [ov_hi, mk_sr_off, mk_st_off]
    · simp (disch := omega) only [ov_hi, mk_sr_off, mk_st_off]
    · simp (disch := omega) only [ov_hi, mk_sr_off, mk_st_off]
