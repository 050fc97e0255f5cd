/-! witness: the reference; then both -/
def wt_R (M : mk_M) (w wd : Nat) (pr : Nat → Nat) : Prop := M 68 29 = nI w ∧ w ≤ 12 ∧ M 68 32 = nI wd ∧ wd ≤ 1000 ∧ ∀ i, i < w → M 90 i = nI (pr i) ∧ 1 ≤ pr i ∧ pr i ≤ 1000
theorem wi_s {M : mk_M} {w wd t k x : Nat} {pr : Nat → Nat} (h : wt_R M w wd pr) (ht : t ≤ 1000) (hx : x < 2 ^ 31) (hk : k < w) {K : Int32 → Int32 → Int32 → Int32 → Int32 → Int32 → mk_M → Option (Int32 × mk_M)} {a1 a2 l4 l5 : Int32} (n : Nat) :
    f_X6_witness_27 K (n + 1) a1 a2 (nI x) l4 l5 (nI t) (nI k) M = if t % pr k = 0 then f_X6_witness_27 K n a1 a2 (nI x - 1) (nI t) (M 89 k) (nI t) (nI (k + 1)) M else f_X6_witness_27 K n a1 a2 (nI x) (nI t) (M 89 k) (nI t) (nI (k + 1)) M := by
  obtain ⟨g1, g2, g3, g4, g5⟩ := h
  obtain ⟨q1, q2, q3⟩ := g5 k hk
  have ho := ob_n (show k < 13 by omega) (by decide)
  show (if (M 68 29) ≤ nI k then _ else (if nI x < 0 then _ else (if mk_ob (nI k) 13 then none else (if M 90 (nI k).toNatClampNeg = 0 then none else (if (nI t - nI t / (M 90 (nI k).toNatClampNeg) * (M 90 (nI k).toNatClampNeg)) = 0 then (if mk_ob (nI k) 13 then none else (f_X6_witness_27 K n a1 a2 (nI x - 1) (nI t) (M 89 (nI k).toNatClampNeg) (nI t) (nI k + 1) M)) else (if mk_ob (nI k) 13 then none else (f_X6_witness_27 K n a1 a2 (nI x) (nI t) (M 89 (nI k).toNatClampNeg) (nI t) (nI k + 1) M))))))) = _
  rw [g1, if_neg (nI_ge hk (by omega)), if_neg (nI_pos hx), if_neg ho]
  simp only [if_neg ho, cl_n (show k < 2 ^ 31 by omega), q1, nI_1]
  rw [if_neg (nI_ne0 q2 (by omega)), pk_rem (by omega) (by omega) (by omega)]
  by_cases c : t % pr k = 0
  · rw [if_pos c, c, if_pos nI_0]
  · have := Nat.mod_lt t (show 0 < pr k by omega)
    rw [if_neg c, if_neg (nI_ne0 (by omega) (by omega))]
theorem wi_a {M : mk_M} {w wd t L : Nat} {pr : Nat → Nat} (h : wt_R M w wd pr) (ht : t ≤ 1000) (hL : L < 2 ^ 31) (hn : wt_n pr t w ≤ L) {K : Int32 → Int32 → Int32 → Int32 → Int32 → Int32 → mk_M → Option (Int32 × mk_M)} {a1 a2 : Int32} :
    ∀ d k n : Nat, ∀ l4 l5 : Int32, k + d = w → d < n → ∃ l4' l5', f_X6_witness_27 K n a1 a2 (nI (L - wt_n pr t k)) l4 l5 (nI t) (nI k) M = K a1 a2 (nI (L - wt_n pr t w)) l4' l5' (nI (t + 1)) M := by
  intro d
  induction d with
  | zero =>
    intro k n l4 l5 hk hn'
    obtain ⟨n, rfl⟩ : ∃ m, n = m + 1 := ⟨n - 1, by omega⟩
    have e : k = w := by omega
    subst e
    have hw := h.2.1
    refine ⟨l4, l5, ?_⟩
    show (if (M 68 29) ≤ nI k then (K a1 a2 (nI (L - wt_n pr t k)) l4 l5 (nI t + 1) M) else _) = _
    rw [h.1, if_pos (nI_le (Nat.le_refl _) (by omega)), nI_1]
  | succ d ih =>
    intro k n l4 l5 hk hn'
    obtain ⟨n, rfl⟩ : ∃ m, n = m + 1 := ⟨n - 1, by omega⟩
    have e : wt_n pr t (k + 1) = wt_n pr t k + (if t % pr k = 0 then 1 else 0) := rfl
    have m := wn_m (pr := pr) (T := t) (show k + 1 ≤ w by omega)
    obtain ⟨l4', l5', r⟩ := ih (k + 1) n (nI t) (M 89 k) (by omega) (by omega)
    refine ⟨l4', l5', ?_⟩
    rw [← r, wi_s h ht (by omega) (by omega)]
    by_cases c : t % pr k = 0
    · rw [if_pos c] at e ⊢
      rw [show (1 : Int32) = nI 1 from rfl, pk_sub (by omega), show L - wt_n pr t k - 1 = L - wt_n pr t (k + 1) by omega]
    · rw [if_neg c] at e ⊢
      rw [show wt_n pr t (k + 1) = wt_n pr t k by omega]
theorem wi_b {M : mk_M} {w wd t L k0 : Nat} {pr : Nat → Nat} (h : wt_R M w wd pr) (ht : t ≤ 1000) (hL : L < 2 ^ 31) (hk0 : k0 < w) (hd : t % pr k0 = 0) (hn : wt_n pr t k0 = L) {K : Int32 → Int32 → Int32 → Int32 → Int32 → Int32 → mk_M → Option (Int32 × mk_M)} {a1 a2 : Int32} :
    ∀ d k n : Nat, ∀ l4 l5 : Int32, k + d = k0 → d + 1 < n → f_X6_witness_27 K n a1 a2 (nI (L - wt_n pr t k)) l4 l5 (nI t) (nI k) M = K a1 a2 (-1) (nI t) (M 89 k0) (nI (t + 1)) M := by
  intro d
  induction d with
  | zero =>
    intro k n l4 l5 hk hn'
    obtain ⟨n, rfl⟩ : ∃ m, n = m + 2 := ⟨n - 2, by omega⟩
    have e : k = k0 := by omega
    subst e
    rw [wi_s h ht (by omega) hk0, if_pos hd, hn, Nat.sub_self, show nI 0 - 1 = (-1 : Int32) from by decide]
    show (if (M 68 29) ≤ nI (k + 1) then (K a1 a2 (-1) (nI t) (M 89 k) (nI t + 1) M) else (if (-1 : Int32) < 0 then (K a1 a2 (-1) (nI t) (M 89 k) (nI t + 1) M) else _)) = _
    rw [if_pos m1lt, ite_self, nI_1]
  | succ d ih =>
    intro k n l4 l5 hk hn'
    obtain ⟨n, rfl⟩ : ∃ m, n = m + 1 := ⟨n - 1, by omega⟩
    have e : wt_n pr t (k + 1) = wt_n pr t k + (if t % pr k = 0 then 1 else 0) := rfl
    have m := wn_m (pr := pr) (T := t) (show k + 1 ≤ k0 by omega)
    rw [← ih (k + 1) n (nI t) (M 89 k) (by omega) (by omega), wi_s h ht (by omega) (by omega)]
    by_cases c : t % pr k = 0
    · rw [if_pos c] at e ⊢
      rw [show (1 : Int32) = nI 1 from rfl, pk_sub (by omega), show L - wt_n pr t k - 1 = L - wt_n pr t (k + 1) by omega]
    · rw [if_neg c] at e ⊢
      rw [show wt_n pr t (k + 1) = wt_n pr t k by omega]
theorem wo_a {M : mk_M} {w wd a : Nat} {pr : Nat → Nat} (h : wt_R M w wd pr) (ha : a < 2 ^ 31) (hC : wt_C w pr wd ≤ a) {a2 : Int32} :
    ∀ d t n : Nat, ∀ l4 l5 : Int32, t + d = wd → d < n → ∃ l4' l5', f_X6_witness_11 n (nI a) a2 (nI (a - wt_C w pr t)) l4 l5 (nI t) M = f_X6_witness_86 (nI a) a2 (nI (a - wt_C w pr wd)) l4' l5' M := by
  have h' := h
  obtain ⟨g1, g2, g3, g4, g5⟩ := h'
  intro d
  induction d with
  | zero =>
    intro t n l4 l5 ht hn
    obtain ⟨n, rfl⟩ : ∃ m, n = m + 1 := ⟨n - 1, by omega⟩
    have e : t = wd := by omega
    subst e
    refine ⟨l4, l5, ?_⟩
    show (if (M 68 32) ≤ nI t then (f_X6_witness_86 (nI a) a2 (nI (a - wt_C w pr t)) l4 l5 M) else _) = _
    rw [g3, if_pos (nI_le (Nat.le_refl _) (by omega))]
  | succ d ih =>
    intro t n l4 l5 ht hn
    obtain ⟨n, rfl⟩ : ∃ m, n = m + 1 := ⟨n - 1, by omega⟩
    have cs := C_s (w := w) (t := t) (pr := pr) (fun i hi => (g5 i hi).2.1)
    have cm := C_m (w := w) (pr := pr) (show t + 1 ≤ wd by omega)
    obtain ⟨m4, m5, r1⟩ := wi_a h (t := t) (L := a - wt_C w pr t) (by omega) (by omega) (by omega) (K := f_X6_witness_11 n) (a1 := nI a) (a2 := a2) w 0 mk_F l4 l5 (by omega) (mk_F_lt (by omega))
    obtain ⟨l4', l5', r2⟩ := ih (t + 1) n m4 m5 (by omega) (by omega)
    refine ⟨l4', l5', ?_⟩
    rw [← r2, show a - wt_C w pr (t + 1) = a - wt_C w pr t - wt_n pr t w by omega, ← r1]
    show (if (M 68 32) ≤ nI t then _ else (if nI (a - wt_C w pr t) < 0 then _ else (f_X6_witness_27 (f_X6_witness_11 n) mk_F (nI a) a2 (nI (a - wt_C w pr t)) l4 l5 (nI t) 0 M))) = _
    rw [g3, if_neg (nI_ge (by omega) (by omega)), if_neg (nI_pos (by omega))]
    rfl
theorem wo_b {M : mk_M} {w wd a T k0 : Nat} {pr : Nat → Nat} (h : wt_R M w wd pr) (ha : a < 2 ^ 31) (hT : T < wd) (hT1 : wt_C w pr T ≤ a) (hk0 : k0 < w) (hd : T % pr k0 = 0) (hL : wt_n pr T k0 = a - wt_C w pr T) {a2 : Int32} :
    ∀ d t n : Nat, ∀ l4 l5 : Int32, t + d = T → d + 1 < n → f_X6_witness_11 n (nI a) a2 (nI (a - wt_C w pr t)) l4 l5 (nI t) M = f_X6_witness_86 (nI a) a2 (-1) (nI T) (M 89 k0) M := by
  have h' := h
  obtain ⟨g1, g2, g3, g4, g5⟩ := h'
  intro d
  induction d with
  | zero =>
    intro t n l4 l5 ht hn
    obtain ⟨n, rfl⟩ : ∃ m, n = m + 2 := ⟨n - 2, by omega⟩
    have e : t = T := by omega
    subst e
    have r1 := wi_b h (t := t) (L := a - wt_C w pr t) (by omega) (by omega) hk0 hd hL (K := f_X6_witness_11 (n + 1)) (a1 := nI a) (a2 := a2) k0 0 mk_F l4 l5 (by omega) (mk_F_lt (by omega))
    have r2 : f_X6_witness_11 (n + 1) (nI a) a2 (-1) (nI t) (M 89 k0) (nI (t + 1)) M = f_X6_witness_86 (nI a) a2 (-1) (nI t) (M 89 k0) M := by
      show (if (M 68 32) ≤ nI (t + 1) then (f_X6_witness_86 (nI a) a2 (-1) (nI t) (M 89 k0) M) else (if (-1 : Int32) < 0 then (f_X6_witness_86 (nI a) a2 (-1) (nI t) (M 89 k0) M) else _)) = _
      rw [if_pos m1lt, ite_self]
    rw [← r2, ← r1]
    show (if (M 68 32) ≤ nI t then _ else (if nI (a - wt_C w pr t) < 0 then _ else (f_X6_witness_27 (f_X6_witness_11 (n + 1)) mk_F (nI a) a2 (nI (a - wt_C w pr t)) l4 l5 (nI t) 0 M))) = _
    rw [g3, if_neg (nI_ge (by omega) (by omega)), if_neg (nI_pos (by omega))]
    rfl
  | succ d ih =>
    intro t n l4 l5 ht hn
    obtain ⟨n, rfl⟩ : ∃ m, n = m + 1 := ⟨n - 1, by omega⟩
    have cs := C_s (w := w) (t := t) (pr := pr) (fun i hi => (g5 i hi).2.1)
    have cm := C_m (w := w) (pr := pr) (show t + 1 ≤ T by omega)
    obtain ⟨m4, m5, r1⟩ := wi_a h (t := t) (L := a - wt_C w pr t) (by omega) (by omega) (by omega) (K := f_X6_witness_11 n) (a1 := nI a) (a2 := a2) w 0 mk_F l4 l5 (by omega) (mk_F_lt (by omega))
    rw [← ih (t + 1) n m4 m5 (by omega) (by omega), show a - wt_C w pr (t + 1) = a - wt_C w pr t - wt_n pr t w by omega, ← r1]
    show (if (M 68 32) ≤ nI t then _ else (if nI (a - wt_C w pr t) < 0 then _ else (f_X6_witness_27 (f_X6_witness_11 n) mk_F (nI a) a2 (nI (a - wt_C w pr t)) l4 l5 (nI t) 0 M))) = _
    rw [g3, if_neg (nI_ge (by omega) (by omega)), if_neg (nI_pos (by omega))]
    rfl
theorem pu_s9 : mk_S9 pu_I := by
  intro n M a1 a2 hn hI
  have hI' := hI
  obtain ⟨t, np, no, ch, w, wd, P, O, hJ⟩ := hI'
  obtain ⟨-, -, -, -, -, -, -, -, -, -, a11, -⟩ := hJ
  obtain ⟨b1, b2, b3, b4, b5, b6, b7⟩ := a11
  have pv : ∀ i, i < w → M 11 i = nI (pu_v M 11 i) ∧ M 90 i = nI (pu_v M 11 i) ∧ 1 ≤ pu_v M 11 i ∧ pu_v M 11 i ≤ 1000 := fun i hi => by
    obtain ⟨-, per, c1, c2, c3, c4⟩ := b7 i hi
    have e : pu_v M 11 i = per := by unfold pu_v; rw [c1]; exact cl_n (by omega)
    rw [e]; exact ⟨c1, c2, c3, c4⟩
  have hJ' : wt_J M w wd (fun i => pu_v M 11 i) := ⟨b1, b3, b4, b6, fun i hi => ⟨(pv i hi).1, (pv i hi).2.2⟩⟩
  have hR : wt_R M w wd (fun i => pu_v M 11 i) := ⟨b2, b3, b5, b6, fun i hi => ⟨(pv i hi).2.1, (pv i hi).2.2⟩⟩
  have h1p : ∀ i, i < w → 1 ≤ (fun i => pu_v M 11 i) i := fun i hi => (pv i hi).2.2.1
  have bad : ∀ l4 l5, f_X6_witness_98 a2 l4 l5 M = some (0, mk_st M 68 0 1) := fun l4 l5 => by
    unfold f_X6_witness_98 f_X6_witness_99
    rw [wi_n, Option.bind_some, go_0]; rfl
  have fin : ∀ (h1 : f_X5_witness a1 a2 M = some ((3, 0), M)) (h2 : f_X6_witness a1 a2 M = some (0, mk_st M 68 0 1)), ∃ (q : (Nat × Int32) × mk_M) (r : Int32 × mk_M), f_X5_witness a1 a2 M = some q ∧ (q.1.1 = 0 ∨ q.1.1 = 3 ∨ q.1.1 = 1) ∧ f_X6_witness a1 a2 q.2 = some r ∧ r.2 68 0 = fc_L_witness q ∧ (fc_L_witness q = 0 → q.1.2 = r.1) ∧ pu_I (n + 1) r.2 :=
    fun h1 h2 => ⟨_, _, h1, Or.inr (Or.inl rfl), h2, (mk_st_same M 68 0 1).trans rfl, fun h => absurd h (show ¬ fc_L_witness ((3, 0), M) = 0 from n1_0), hI.up (Nat.le_succ n) hn (pu_ag.th M 1)⟩
  by_cases c0 : a1 < 0
  · refine fin ?_ ?_
    · unfold f_X5_witness; rw [if_pos c0]
    · show (if (M 68 32) ≤ 0 then (f_X6_witness_86 a1 a2 a1 (-1) 0 M) else (if a1 < 0 then (f_X6_witness_86 a1 a2 a1 (-1) 0 M) else _)) = _
      rw [if_pos c0, ite_self]
      unfold f_X6_witness_86
      rw [if_pos c0]; exact bad _ _
  obtain ⟨a, ha, rfl⟩ := nI_of c0
  have er : f_X2_releases M = some (nI (wt_C w (fun i => pu_v M 11 i) wd)) := by
    unfold f_X2_releases
    rw [b4, rb_n hJ' (by omega)]; rfl
  have hb := C_b (t := wd) (pr := fun i => pu_v M 11 i) b3 (by omega) h1p
  have z0 := C_0 (w := w) (pr := fun i => pu_v M 11 i) h1p
  have e6 : f_X6_witness (nI a) a2 M = f_X6_witness_11 mk_F (nI a) a2 (nI (a - wt_C w (fun i => pu_v M 11 i) 0)) (-1) 0 (nI 0) M := by rw [z0]; rfl
  by_cases c1 : a < wt_C w (fun i => pu_v M 11 i) wd
  · obtain ⟨T, t1, t2, t3⟩ := wt_at (F := wt_C w (fun i => pu_v M 11 i)) (a := a) wd (by rw [z0]; exact Nat.zero_le _) c1
    have cs := C_s (w := w) (t := T) (pr := fun i => pu_v M 11 i) h1p
    obtain ⟨k0, k1, k2, k3⟩ := wt_k (pr := fun i => pu_v M 11 i) (T := T) (L := a - wt_C w (fun i => pu_v M 11 i) T) (w := w) (by omega)
    have r := wo_b hR ha t1 t2 k1 k2 k3 (a2 := a2) T 0 mk_F (-1) 0 (by omega) (mk_F_lt (by omega))
    have e6' : f_X6_witness (nI a) a2 M = f_X6_witness_99 a2 (nI T) (M 89 k0) 1 M := by
      rw [e6, r]
      unfold f_X6_witness_86
      rw [if_neg (nI_pos ha), if_neg (show ¬ (0 : Int32) ≤ -1 from by decide)]
    have e5 : f_X5_witness (nI a) a2 M = (if a2 = 0 then (some ((0, nI T), M)) else (if a2 = 1 then (some ((0, M 10 k0), M)) else (some ((1, 0), M)))) := by
      unfold f_X5_witness
      rw [if_neg (nI_pos ha), er, Option.bind_some, if_pos (nI_lt c1 (by omega)), to_n hJ' ha t1 t2 t3, Option.bind_some, tf_n hJ' ha t1 t2 t3 k1 k2 k3, Option.bind_some]
    by_cases d0 : a2 = 0
    · have h1 : f_X5_witness (nI a) a2 M = some ((0, nI T), M) := by rw [e5, if_pos d0]
      have h2 : f_X6_witness (nI a) a2 M = some (nI T, mk_st M 68 0 0) := by
        rw [e6', d0]
        unfold f_X6_witness_99
        rw [wi_n, if_neg (show ¬ (0 : Int32) < 0 by decide), if_neg (show ¬ (1 : Int32) < 0 by decide), Option.bind_some, go_111]; rfl
      exact ⟨((0, nI T), M), (nI T, mk_st M 68 0 0), h1, Or.inl rfl, h2, (mk_st_same M 68 0 0).trans rfl, fun _ => rfl, hI.up (Nat.le_succ n) hn (pu_ag.th M 0)⟩
    by_cases d1 : a2 = 1
    · have h1 : f_X5_witness (nI a) a2 M = some ((0, M 10 k0), M) := by rw [e5, if_neg d0, if_pos d1]
      have h2 : f_X6_witness (nI a) a2 M = some (M 89 k0, mk_st M 68 0 0) := by
        rw [e6', d1]
        unfold f_X6_witness_99
        rw [wi_n, if_neg (show ¬ (1 : Int32) < 0 by decide), if_neg (show ¬ (1 : Int32) < 1 by decide), Option.bind_some, go_111]; rfl
      exact ⟨((0, M 10 k0), M), (M 89 k0, mk_st M 68 0 0), h1, Or.inl rfl, h2, (mk_st_same M 68 0 0).trans rfl, fun _ => (b7 k0 k1).1, hI.up (Nat.le_succ n) hn (pu_ag.th M 0)⟩
    · have h1 : f_X5_witness (nI a) a2 M = some ((1, 0), M) := by rw [e5, if_neg d0, if_neg d1]
      have w0 : (if a2 < 0 then (0 : Int32) else if 1 < a2 then 0 else 1) = 0 := by
        by_cases x : a2 < 0
        · rw [if_pos x]
        · rw [if_neg x]
          by_cases y : 1 < a2
          · rw [if_pos y]
          · exfalso
            obtain ⟨v, v1, v2, v3⟩ := nb_of (lo := 0) (hi := 1) (by decide) (by decide) x y
            rcases (show v = 0 ∨ v = 1 by omega) with e | e
            · rw [e] at v3; exact d0 (v3.trans nI_0)
            · rw [e] at v3; exact d1 v3
      have h2 : f_X6_witness (nI a) a2 M = some (0, mk_st M 68 0 2) := by
        rw [e6']
        unfold f_X6_witness_99
        rw [wi_n, w0, Option.bind_some, go_10]; rfl
      exact ⟨((1, 0), M), (0, mk_st M 68 0 2), h1, Or.inr (Or.inr rfl), h2, (mk_st_same M 68 0 2).trans rfl, fun h => absurd h (show ¬ fc_L_witness ((1, 0), M) = 0 from n2_0), hI.up (Nat.le_succ n) hn (pu_ag.th M 2)⟩
  · obtain ⟨l4, l5, r⟩ := wo_a hR ha (by omega) (a2 := a2) wd 0 mk_F (-1) 0 (by omega) (mk_F_lt (by omega))
    refine fin ?_ ?_
    · unfold f_X5_witness
      rw [if_neg (nI_pos ha), er, Option.bind_some, if_neg (nI_nlt (by omega) ha)]
    · rw [e6, r]
      unfold f_X6_witness_86
      rw [if_neg (nI_pos ha), if_pos (nI_pos' (by omega))]; exact bad _ _
