/-! release; and what a change of one task's data leaves -/
def pu_ad (M M' : mk_M) (id : Nat) : Prop := (M' (16 + 4 * id) = M (16 + 4 * id) ∧ M' (16 + 4 * id + 1) = M (16 + 4 * id + 1) ∧ M' (16 + 4 * id + 2) = M (16 + 4 * id + 2) ∧ M' (16 + 4 * id + 3) = M (16 + 4 * id + 3)) ∧ (∀ y, (69 ≤ y ∧ y ≤ 74) ∨ (78 ≤ y ∧ y ≤ 82) → M' y id = M y id) ∧ ∀ y j, 83 ≤ y → y ≤ 86 → j < 8 → M' y (8 * id + j) = M y (8 * id + j)
theorem pu_tk_ad {n n' : Nat} {M M' : mk_M} {id : Nat} (hn : n ≤ n') (ha : pu_ad M M' id) (h : pu_tk n M id) : pu_tk n' M' id := by
  obtain ⟨per, dl, lo, hi, jb, pe, a1, a2, a3, a4, a5, a6, a7, a8, a9, a10, a11, a12, a13⟩ := h
  obtain ⟨⟨h0, h1, h2, h3⟩, hy, hz⟩ := ha
  have z : ∀ y j, 83 ≤ y → y ≤ 86 → M' y (8 * id + j % 8) = M y (8 * id + j % 8) := fun y j q1 q2 => hz y (j % 8) q1 q2 (Nat.mod_lt _ (by decide))
  have z83 : ∀ j, M' 83 (8 * id + j % 8) = M 83 (8 * id + j % 8) := fun j => z 83 j (by decide) (by decide)
  have z84 : ∀ j, M' 84 (8 * id + j % 8) = M 84 (8 * id + j % 8) := fun j => z 84 j (by decide) (by decide)
  have z85 : ∀ j, M' 85 (8 * id + j % 8) = M 85 (8 * id + j % 8) := fun j => z 85 j (by decide) (by decide)
  have z86 : ∀ j, M' 86 (8 * id + j % 8) = M 86 (8 * id + j % 8) := fun j => z 86 j (by decide) (by decide)
  unfold pu_tk
  simp only [h0, h1, h2, h3, hy 70 (by decide), hy 71 (by decide), hy 72 (by decide), hy 73 (by decide), hy 74 (by decide), hy 78 (by decide), hy 79 (by decide), hy 80 (by decide), hy 81 (by decide), hy 82 (by decide), z83, z84, z85, z86]
  exact ⟨per, dl, lo, hi, jb, pe, a1, a2, a3, a4, a5, ⟨a6.1, a6.2.1, Nat.le_trans a6.2.2 hn⟩, a7, a8, a9, a10, a11, a12, a13⟩
def pu_T (n : Nat) (M : mk_M) (P : Nat → Nat) (np : Nat) : Prop := ∀ id, 1 ≤ id → id ≤ 12 → (pu_kn P np id → M 69 id = 1 ∧ pu_tk n M id) ∧ (¬ pu_kn P np id → M 69 id = 0 ∧ M (16 + 4 * id) 9 = 0)
theorem pu_T.one {n n' : Nat} {M M' : mk_M} {P : Nat → Nat} {np id : Nat} (hn : n ≤ n') (h : pu_T n M P np) (hk : pu_kn P np id) (h69 : M' 69 id = 1) (ht : pu_tk n' M' id) (ha : ∀ j, 1 ≤ j → j ≤ 12 → j ≠ id → pu_ad M M' j) : pu_T n' M' P np := by
  intro j j1 j2
  by_cases q : j = id
  · subst q
    exact ⟨fun _ => ⟨h69, ht⟩, fun c => absurd hk c⟩
  · have a := ha j j1 j2 q
    obtain ⟨c1, c2⟩ := h j j1 j2
    refine ⟨fun c => ⟨by rw [a.2.1 69 (by decide)]; exact (c1 c).1, pu_tk_ad hn a (c1 c).2⟩, fun c => ⟨by rw [a.2.1 69 (by decide)]; exact (c2 c).1, by rw [a.1.1]; exact (c2 c).2⟩⟩
theorem pu_J.ord {n : Nat} {M : mk_M} {t np no ch w wd : Nat} {P O : Nat → Nat} (h : pu_J n M t np no ch w wd P O) : ∀ i, i < no → 1 ≤ O i ∧ O i ≤ 12 := by
  obtain ⟨-, -, -, -, -, a6, -, a8, -⟩ := h
  intro i hi
  obtain ⟨-, -, k, hk, e⟩ := a8.2.2.2 i hi
  have := (a6.2.2.2 k hk).2.2
  omega
/-- in force or not, for the class and for the reference -/
theorem pu_J.inf {n : Nat} {M : mk_M} {t np no ch w wd : Nat} {P O : Nat → Nat} (h : pu_J n M t np no ch w wd P O) (a1 : Int32) :
    (∃ id k p, 1 ≤ id ∧ id ≤ 12 ∧ a1 = nI id ∧ k < np ∧ P k = id ∧ p < no ∧ O p = id ∧ f_X5_isInForce a1 M = some 1 ∧ f_X6_isKnown a1 M = some 1 ∧ f_X6_place a1 M = some (nI p)) ∨ (f_X5_isInForce a1 M = some 0 ∧ (f_X6_isKnown a1 M = some 0 ∨ (f_X6_isKnown a1 M = some 1 ∧ f_X6_place a1 M = some (-1)))) := by
  have ho := h.ord
  have h' := h
  obtain ⟨-, -, -, -, -, a6, a7, a8, a9, -⟩ := h'
  rcases sr_pl (x := 5) a8.1 a8.2.2.1 (fun i h => (a8.2.2.2 i h).1) a1 no 0 mk_F (by omega) (mk_F_lt (by omega)) (fun k h => absurd h (by omega)) with ⟨p, p1, p2, p3, p4⟩ | ⟨p1, p2⟩
  · left
    obtain ⟨-, -, k, hk, e⟩ := a8.2.2.2 p p1
    have r := ho p p1
    rcases h.kn a1 with ⟨id, k', i1, i2, i3, hk', hP, k1, k2⟩ | ⟨k0, -, -⟩
    · have eid : O p = id := nI_inj (by omega) (by omega) (by rw [p2, i3])
      refine ⟨id, k', p, i1, i2, i3, hk', hP, p1, eid, ?_, k2, ?_⟩
      · unfold f_X5_isInForce f_X1_placeOf
        rw [show (0 : Int32) = nI 0 from rfl, p4, Option.bind_some, if_neg]
        intro q
        have := congrArg Int32.toInt q
        rw [nI_toInt (by omega)] at this
        have e : (-1 : Int32).toInt = -1 := by decide
        omega
      · rcases sr_od a8.2.1 a8.2.2.1 (fun i h => (a8.2.2.2 i h).2.1) a1 no 0 mk_F (by omega) (mk_F_lt (by omega)) (fun k h => absurd h (by omega)) with ⟨q, q1, q2, q3, q4⟩ | ⟨q1, q2⟩
        · have epq : q = p := a9 q p q1 p1 (nI_inj (by have := ho q q1; omega) (by omega) (by rw [q2, p2]))
          rw [← epq]; exact q4
        · exact absurd p2 (q1 p p1)
    · exact absurd (by rw [← p2, e]) (k0 k hk)
  · right
    refine ⟨by unfold f_X5_isInForce f_X1_placeOf; rw [show (0 : Int32) = nI 0 from rfl, p2, Option.bind_some, if_pos rfl], ?_⟩
    rcases h.kn a1 with ⟨id, k', i1, i2, i3, hk', hP, k1, k2⟩ | ⟨k0, -, k2⟩
    · right
      refine ⟨k2, ?_⟩
      rcases sr_od a8.2.1 a8.2.2.1 (fun i h => (a8.2.2.2 i h).2.1) a1 no 0 mk_F (by omega) (mk_F_lt (by omega)) (fun k h => absurd h (by omega)) with ⟨q, q1, q2, q3, q4⟩ | ⟨q1, q2⟩
      · exact absurd q2 (p1 q q1)
      · exact q2
    · exact Or.inl k2
theorem pu_new {n : Nat} {M : mk_M} {id t dm np : Nat} {P : Nat → Nat} (hn : n < 512) (h1 : 1 ≤ id) (h2 : id ≤ 12) (hT : pu_T n M P np) (hk : pu_kn P np id) {jb pe : Nat} (h5 : M (16 + 4 * id) 5 = nI jb) (h9 : M (16 + 4 * id) 9 = nI pe) (hp4 : pe < 4) (hjn : jb ≤ n) (hd1 : 1 ≤ dm) (hd2 : dm ≤ 200) {v82 : Int32} (hv : v82 = nI t + M 71 id) :
    pu_T (n + 1) (mk_st (mk_st (mk_st (mk_st (mk_st (mk_st (mk_st (mk_st (mk_st (mk_st (mk_st (mk_st M (16 + 4 * id) 5 (nI (jb + 1))) (16 + 4 * id) 9 (nI (pe + 1))) (16 + 4 * id + 1) ((jb + 1) % 8) (nI dm)) (16 + 4 * id + 2) ((jb + 1) % 8) (nI t)) (16 + 4 * id + 3) ((jb + 1) % 8) (-1)) 68 0 0) 78 id (nI (jb + 1))) 83 (8 * id + (jb + 1) % 8) (nI t)) 84 (8 * id + (jb + 1) % 8) (nI dm)) 85 (8 * id + (jb + 1) % 8) 0) 86 (8 * id + (jb + 1) % 8) (-1)) 82 id v82) P np := by
  have hm : (jb + 1) % 8 < 8 := Nat.mod_lt _ (by decide)
  obtain ⟨q69, per, dl, lo, hi, jb', pe', a1, a2, a3, a4, a5, a6, a7, a8, a9, a10, a11, a12, a13⟩ := (hT id h1 h2).1 hk
  have ejb : jb' = jb := nI_inj (by omega) (by omega) (by rw [← a6.1, h5])
  have epe : pe' = pe := nI_inj (by omega) (by omega) (by rw [← a8.1, h9])
  subst ejb
  subst epe
  refine pu_T.one (Nat.le_succ n) hT hk ?_ ⟨per, dl, lo, hi, jb' + 1, pe' + 1, ?_, ?_, ?_, ?_, ?_, ?_, ?_, ?_, ?_, ?_, ?_, ?_, ?_⟩ ?_
  · simp (disch := omega) only [mk_st_same, mk_st_ne]; exact q69
  · simp (disch := omega) only [mk_st_same, mk_st_ne]; exact a1
  · simp (disch := omega) only [mk_st_same, mk_st_ne]; exact a2
  · simp (disch := omega) only [mk_st_same, mk_st_ne]; exact a3
  · simp (disch := omega) only [mk_st_same, mk_st_ne]; exact a4
  · simp (disch := omega) only [mk_st_same, mk_st_ne]; exact a5
  · simp (disch := omega) only [mk_st_same, mk_st_ne]; exact ⟨trivial, trivial, by omega⟩
  · simp (disch := omega) only [mk_st_same, mk_st_ne]; exact a7
  · simp (disch := omega) only [mk_st_same, mk_st_ne]; exact ⟨trivial, by omega, by omega⟩
  · intro j j1 j2 j3
    by_cases e : j = jb' + 1
    · subst e
      simp (disch := omega) only [mk_st_same, mk_st_ne]
      exact ⟨trivial, trivial, trivial, ⟨fun _ => by omega, fun _ => trivial⟩, dm, rfl, hd1, hd2⟩
    · have hne : j % 8 ≠ (jb' + 1) % 8 := by omega
      have q := a9 j j1 (by omega) (by omega)
      simp (disch := omega) only [mk_st_same, mk_st_ne]
      refine ⟨q.1, q.2.1, q.2.2.1, ⟨fun c => ?_, fun c => ?_⟩, q.2.2.2.2⟩
      · have := q.2.2.2.1.mp c; omega
      · exact q.2.2.2.1.mpr (by omega)
  · intro c; omega
  · intro _
    rcases Nat.eq_zero_or_pos pe' with e | e
    · subst e
      rw [show jb' + 1 + 1 - (0 + 1) = jb' + 1 by omega]
      simp (disch := omega) only [mk_st_same, mk_st_ne]
      exact ⟨0, dm, a10 rfl, rfl, rfl, by omega, hd2⟩
    · rw [show jb' + 1 + 1 - (pe' + 1) = jb' + 1 - pe' by omega]
      have hne : (jb' + 1 - pe') % 8 ≠ (jb' + 1) % 8 := by omega
      simp (disch := omega) only [mk_st_same, mk_st_ne]
      exact a11 e
  · intro j j1 j2
    by_cases e : j = jb' + 1
    · subst e
      simp (disch := omega) only [mk_st_same, mk_st_ne]
    · have hne : j % 8 ≠ (jb' + 1) % 8 := by omega
      simp (disch := omega) only [mk_st_same, mk_st_ne]
      exact a12 j (by omega) (by omega)
  · rw [if_neg (by omega)]
    simp (disch := omega) only [mk_st_same, mk_st_ne]
    exact hv
  · intro j j1 j2 j3
    refine ⟨⟨?_, ?_, ?_, ?_⟩, fun y hy => ?_, fun y k y1 y2 hk => ?_⟩
    · simp (disch := omega) only [mk_st_off]
    · simp (disch := omega) only [mk_st_off]
    · simp (disch := omega) only [mk_st_off]
    · simp (disch := omega) only [mk_st_off]
    · simp (disch := omega) only [mk_st_ne]
    · simp (disch := omega) only [mk_st_ne]
/-! the reference's own searches look at its rows alone -/
theorem cg_kn {M M1 : mk_M} (h : ∀ x, 68 ≤ x → M1 x = M x) (a : Int32) : f_X6_isKnown a M1 = f_X6_isKnown a M := by
  unfold f_X6_isKnown
  simp only [h 69 (by decide)]
theorem cg_pl {M M1 : mk_M} (h : ∀ x, 68 ≤ x → M1 x = M x) (a : Int32) : f_X6_place a M1 = f_X6_place a M := by
  have e : ∀ (n : Nat) (i : Int32), f_X6_place_2 n a i M1 = f_X6_place_2 n a i M := by
    intro n
    induction n with
    | zero => intro i; rfl
    | succ n ih => intro i; simp only [f_X6_place_2, h 68 (by decide), h 76 (by decide), ih]
  exact e _ _
theorem cg_ip {M M1 : mk_M} (h : ∀ x, 68 ≤ x → M1 x = M x) (a b : Int32) : f_X6_isPending a b M1 = f_X6_isPending a b M := by
  unfold f_X6_isPending f_X6_at
  simp only [h 78 (by decide), h 86 (by decide)]
theorem cg_pe {M M1 : mk_M} (h : ∀ x, 68 ≤ x → M1 x = M x) (a : Int32) : f_X6_pending a M1 = f_X6_pending a M := by
  have e : ∀ (n : Nat) (i j : Int32), f_X6_pending_12 n a i j M1 = f_X6_pending_12 n a i j M := by
    intro n
    induction n with
    | zero => intro i j; rfl
    | succ n ih => intro i j; simp only [f_X6_pending_12, h 78 (by decide), cg_ip h, ih]
  unfold f_X6_pending
  simp only [h 78 (by decide), e]
