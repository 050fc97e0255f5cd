/-! witness: the releases before a time -/
def wt_C (w : Nat) (pr : Nat → Nat) (t : Nat) : Nat := pu_sum (fun i => pu_ce t (pr i)) w
def wt_n (pr : Nat → Nat) (t k : Nat) : Nat := pu_sum (fun i => if t % pr i = 0 then 1 else 0) k
theorem ce_s {t p : Nat} (hp : 1 ≤ p) : pu_ce (t + 1) p = pu_ce t p + (if t % p = 0 then 1 else 0) := by
  unfold pu_ce
  have e := Nat.div_add_mod t p
  have hr := Nat.mod_lt t (show 0 < p by omega)
  have e1 : t + 1 + p - 1 = t + p := by omega
  have e2 : (t + p) / p = t / p + 1 := Nat.add_div_right t (by omega)
  rw [e1, e2]
  by_cases c : t % p = 0
  · rw [if_pos c]
    have e3 : t + p - 1 = (p - 1) + p * (t / p) := by omega
    rw [e3, Nat.add_mul_div_left _ _ (by omega), Nat.div_eq_of_lt (show p - 1 < p by omega)]
    have e4 : (p - 1 + p * (t / p)) / p = t / p := by
      rw [Nat.add_mul_div_left _ _ (by omega), Nat.div_eq_of_lt (show p - 1 < p by omega)]; omega
    omega
  · rw [if_neg c]
    have e3 : t + p - 1 = (t % p - 1) + p * (t / p + 1) := by rw [Nat.mul_add]; omega
    rw [e3, Nat.add_mul_div_left _ _ (by omega), Nat.div_eq_of_lt (show t % p - 1 < p by omega)]
    omega
theorem pu_sum_add (f g : Nat → Nat) (n : Nat) : pu_sum (fun i => f i + g i) n = pu_sum f n + pu_sum g n := by
  induction n with
  | zero => rfl
  | succ n ih =>
    show pu_sum (fun i => f i + g i) n + (f n + g n) = (pu_sum f n + f n) + (pu_sum g n + g n)
    rw [ih]; omega
theorem C_s {w t : Nat} {pr : Nat → Nat} (hp : ∀ i, i < w → 1 ≤ pr i) : wt_C w pr (t + 1) = wt_C w pr t + wt_n pr t w := by
  unfold wt_C wt_n
  rw [← pu_sum_add, pu_sum_congr (fun j hj => ce_s (hp j hj))]
theorem C_0 {w : Nat} {pr : Nat → Nat} (hp : ∀ i, i < w → 1 ≤ pr i) : wt_C w pr 0 = 0 := pu_sum_zero (fun j hj => by
  have h := ce_le (r := 0) (hp j hj)
  exact Nat.le_zero.mp h)
theorem C_m {w t t' : Nat} {pr : Nat → Nat} (h : t ≤ t') : wt_C w pr t ≤ wt_C w pr t' := pu_sum_mono (fun _ _ => pu_ce_mono h)
theorem C_b {w t : Nat} {pr : Nat → Nat} (hw : w ≤ 12) (ht : t ≤ 100000) (hp : ∀ i, i < w → 1 ≤ pr i) : wt_C w pr t ≤ 1200000 := by
  have h : wt_C w pr t ≤ w * 100000 := pu_sum_le (fun j hj => Nat.le_trans (ce_le (hp j hj)) ht)
  omega
/-- where a count passes -/
theorem wt_at {F : Nat → Nat} {a : Nat} : ∀ s, F 0 ≤ a → a < F s → ∃ T, T < s ∧ F T ≤ a ∧ a < F (T + 1) := by
  intro s
  induction s with
  | zero => intro h1 h2; omega
  | succ s ih =>
    intro h1 h2
    by_cases c : a < F s
    · obtain ⟨T, t1, t2⟩ := ih h1 c
      exact ⟨T, by omega, t2⟩
    · exact ⟨s, by omega, by omega, h2⟩
theorem wt_k {pr : Nat → Nat} {T L w : Nat} (h : L < wt_n pr T w) : ∃ k, k < w ∧ T % pr k = 0 ∧ wt_n pr T k = L := by
  obtain ⟨k, k1, k2, k3⟩ := wt_at (F := wt_n pr T) (a := L) w (Nat.zero_le _) h
  have e : wt_n pr T (k + 1) = wt_n pr T k + (if T % pr k = 0 then 1 else 0) := rfl
  by_cases c : T % pr k = 0
  · rw [if_pos c] at e
    exact ⟨k, k1, c, by omega⟩
  · rw [if_neg c] at e
    omega
theorem wn_m {pr : Nat → Nat} {T k k' : Nat} (h : k ≤ k') : wt_n pr T k ≤ wt_n pr T k' := by
  induction k' with
  | zero => rw [show k = 0 by omega]; exact Nat.le_refl _
  | succ k' ih =>
    have e : wt_n pr T (k' + 1) = wt_n pr T k' + (if T % pr k' = 0 then 1 else 0) := rfl
    by_cases c : k = k' + 1
    · rw [c]; exact Nat.le_refl _
    · have := ih (by omega)
      omega
/-! the class -/
def wt_J (M : mk_M) (w wd : Nat) (pr : Nat → Nat) : Prop := M 9 2 = nI w ∧ w ≤ 12 ∧ M 9 3 = nI wd ∧ wd ≤ 1000 ∧ ∀ i, i < w → M 11 i = nI (pr i) ∧ 1 ≤ pr i ∧ pr i ≤ 1000
theorem rb_lp {M : mk_M} {w wd t : Nat} {pr : Nat → Nat} (h : wt_J M w wd pr) (ht : t ≤ 100000) : ∀ d i n : Nat, i + d = w → d < n → f_X2_releasesBefore_4 n (nI t) (nI (wt_C i pr t)) (nI i) M = some (nI (wt_C w pr t)) := by
  intro d
  obtain ⟨h1, h2, h3, h4, h5⟩ := h
  induction d with
  | zero =>
    intro i n hi hn
    obtain ⟨n, rfl⟩ : ∃ m, n = m + 1 := ⟨n - 1, by omega⟩
    have e : i = w := by omega
    subst e
    show (if (M 9 2) ≤ nI i then (some (nI (wt_C i pr t))) else _) = _
    rw [h1, if_pos (nI_le (Nat.le_refl _) (by omega))]
  | succ d ih =>
    intro i n hi hn
    obtain ⟨n, rfl⟩ : ∃ m, n = m + 1 := ⟨n - 1, by omega⟩
    obtain ⟨q1, q2, q3⟩ := h5 i (by omega)
    rw [← ih (i + 1) n (by omega) (by omega)]
    show (if (M 9 2) ≤ nI i then _ else (if mk_ob (nI i) 12 then none else ((f_X5_releasesWithin (nI t) (M 11 (nI i).toNatClampNeg) M).bind (fun r_4 => (f_X2_releasesBefore_4 n (nI t) (nI (wt_C i pr t) + r_4) (nI i + 1) M))))) = _
    rw [h1, if_neg (nI_ge (by omega) (by omega)), if_neg (ob_n (show i < 12 by omega) (by decide)), cl_n (by omega), q1, rw_n M (by omega) q2 q3, Option.bind_some, nI_add, nI_1]
    rfl
theorem rb_n {M : mk_M} {w wd t : Nat} {pr : Nat → Nat} (h : wt_J M w wd pr) (ht : t ≤ 100000) : f_X2_releasesBefore (nI t) M = some (nI (wt_C w pr t)) := by
  have h2 := h.2.1
  exact rb_lp h ht w 0 mk_F (by omega) (mk_F_lt (by omega))
theorem to_s {M : mk_M} {w wd a T lo s n : Nat} {pr : Nat → Nat} (h : wt_J M w wd pr) (ha : a < 2 ^ 31) (hT : T < wd) (hT1 : wt_C w pr T ≤ a) (hT2 : a < wt_C w pr (T + 1)) (hs : 1 ≤ s) (hs2 : s ≤ 512) (h1 : lo ≤ T) (h2 : T < lo + 2 * s) :
    ∃ lo', lo' ≤ T ∧ T < lo' + s ∧ f_X2_timeOf_6 (n + 1) (nI a) (nI lo) (nI s) M = f_X2_timeOf_6 n (nI a) (nI lo') (nI (s / 2)) M := by
  have h' := h
  obtain ⟨g1, g2, g3, g4, g5⟩ := h'
  have b := C_b (t := lo + s) (pr := pr) g2 (by omega) (fun i hi => (g5 i hi).2.1)
  have e : f_X2_timeOf_6 (n + 1) (nI a) (nI lo) (nI s) M = (if nI wd ≤ nI (lo + s) then (f_X2_timeOf_6 n (nI a) (nI lo) (nI (s / 2)) M) else (if nI a < nI (wt_C w pr (lo + s)) then (f_X2_timeOf_6 n (nI a) (nI lo) (nI (s / 2)) M) else (f_X2_timeOf_6 n (nI a) (nI (lo + s)) (nI (s / 2)) M))) := by
    show (if nI s ≤ 0 then (some (nI lo)) else (if (M 9 3) ≤ (nI lo + nI s) then (f_X2_timeOf_6 n (nI a) (nI lo) (nI s / 2) M) else ((f_X2_releasesBefore (nI lo + nI s) M).bind (fun r_4 => (if nI a < r_4 then (f_X2_timeOf_6 n (nI a) (nI lo) (nI s / 2) M) else (f_X2_timeOf_6 n (nI a) (nI lo + nI s) (nI s / 2) M)))))) = _
    rw [if_neg (nle0 hs (by omega)), g3, nI_add, show (2 : Int32) = nI 2 from rfl, pk_div (by omega) (by decide) (by decide), rb_n h (by omega), Option.bind_some]
  rw [e]
  by_cases c : wd ≤ lo + s
  · rw [if_pos (nI_le c (by omega))]
    exact ⟨lo, h1, by omega, rfl⟩
  · rw [if_neg (nI_ge (by omega) (by omega))]
    by_cases c2 : a < wt_C w pr (lo + s)
    · rw [if_pos (nI_lt c2 (by omega))]
      refine ⟨lo, h1, ?_, rfl⟩
      rcases Nat.lt_or_ge T (lo + s) with q | q
      · exact q
      · have := C_m (w := w) (pr := pr) q; omega
    · rw [if_neg (nI_nlt (by omega) ha)]
      refine ⟨lo + s, ?_, by omega, rfl⟩
      rcases Nat.lt_or_ge T (lo + s) with q | q
      · have := C_m (w := w) (pr := pr) (show T + 1 ≤ lo + s from q); omega
      · exact q
theorem to_n {M : mk_M} {w wd a T : Nat} {pr : Nat → Nat} (h : wt_J M w wd pr) (ha : a < 2 ^ 31) (hT : T < wd) (hT1 : wt_C w pr T ≤ a) (hT2 : a < wt_C w pr (T + 1)) : f_X2_timeOf (nI a) M = some (nI T) := by
  have hwd := h.2.2.2.1
  have e0 : f_X2_timeOf (nI a) M = f_X2_timeOf_6 (4989 + 1 + 1 + 1 + 1 + 1 + 1 + 1 + 1 + 1 + 1 + 1) (nI a) (nI 0) (nI 512) M := rfl
  obtain ⟨o1, p1, q1, e1⟩ := to_s (n := 4989 + 1 + 1 + 1 + 1 + 1 + 1 + 1 + 1 + 1 + 1) (s := 512) (lo := 0) h ha hT hT1 hT2 (by decide) (by decide) (by omega) (by omega)
  obtain ⟨o2, p2, q2, e2⟩ := to_s (n := 4989 + 1 + 1 + 1 + 1 + 1 + 1 + 1 + 1 + 1) (s := 256) (lo := o1) h ha hT hT1 hT2 (by decide) (by decide) p1 q1
  obtain ⟨o3, p3, q3, e3⟩ := to_s (n := 4989 + 1 + 1 + 1 + 1 + 1 + 1 + 1 + 1) (s := 128) (lo := o2) h ha hT hT1 hT2 (by decide) (by decide) p2 q2
  obtain ⟨o4, p4, q4, e4⟩ := to_s (n := 4989 + 1 + 1 + 1 + 1 + 1 + 1 + 1) (s := 64) (lo := o3) h ha hT hT1 hT2 (by decide) (by decide) p3 q3
  obtain ⟨o5, p5, q5, e5⟩ := to_s (n := 4989 + 1 + 1 + 1 + 1 + 1 + 1) (s := 32) (lo := o4) h ha hT hT1 hT2 (by decide) (by decide) p4 q4
  obtain ⟨o6, p6, q6, e6⟩ := to_s (n := 4989 + 1 + 1 + 1 + 1 + 1) (s := 16) (lo := o5) h ha hT hT1 hT2 (by decide) (by decide) p5 q5
  obtain ⟨o7, p7, q7, e7⟩ := to_s (n := 4989 + 1 + 1 + 1 + 1) (s := 8) (lo := o6) h ha hT hT1 hT2 (by decide) (by decide) p6 q6
  obtain ⟨o8, p8, q8, e8⟩ := to_s (n := 4989 + 1 + 1 + 1) (s := 4) (lo := o7) h ha hT hT1 hT2 (by decide) (by decide) p7 q7
  obtain ⟨o9, p9, q9, e9⟩ := to_s (n := 4989 + 1 + 1) (s := 2) (lo := o8) h ha hT hT1 hT2 (by decide) (by decide) p8 q8
  obtain ⟨oA, pA, qA, eA⟩ := to_s (n := 4989 + 1) (s := 1) (lo := o9) h ha hT hT1 hT2 (by decide) (by decide) p9 q9
  rw [e0, e1, show 512 / 2 = 256 from rfl, e2, show 256 / 2 = 128 from rfl, e3, show 128 / 2 = 64 from rfl, e4, show 64 / 2 = 32 from rfl, e5, show 32 / 2 = 16 from rfl, e6, show 16 / 2 = 8 from rfl, e7, show 8 / 2 = 4 from rfl, e8, show 4 / 2 = 2 from rfl, e9, show 2 / 2 = 1 from rfl, eA]
  have : oA = T := by omega
  subst this
  show (if nI (1 / 2) ≤ 0 then some (nI oA) else _) = _
  rw [if_pos (by decide)]
theorem ir_n (M : mk_M) {t p : Nat} (ht : t < 2 ^ 31) (hp : 1 ≤ p) (hp2 : p ≤ 1000) : f_X2_isReleaseTime (nI t) (nI p) M = some (if t % p = 0 then 1 else 0) := by
  unfold f_X2_isReleaseTime
  rw [if_neg (show ¬ nI p < (1 : Int32) from nI_nlt hp (by omega)), if_neg (nI_ne0 hp (by omega)), pk_rem ht (by omega) (by omega)]
  by_cases c : t % p = 0
  · rw [if_pos c, c, if_pos nI_0]
  · have := Nat.mod_lt t (show 0 < p by omega)
    rw [if_neg c, if_neg (nI_ne0 (by omega) (by omega))]
theorem tf_lp {M : mk_M} {w wd T L k0 : Nat} {pr : Nat → Nat} (h : wt_J M w wd pr) (hT : T ≤ 1000) (hk : k0 < w) (hd : T % pr k0 = 0) (hL : wt_n pr T k0 = L) : ∀ d k n : Nat, k + d = k0 → d < n → f_X2_taskOf_17 n (nI T) (nI (L - wt_n pr T k)) (nI k) M = some (M 10 k0) := by
  intro d
  have h' := h
  obtain ⟨g1, g2, g3, g4, g5⟩ := h'
  have lb : L ≤ 12 := by
    have : wt_n pr T k0 ≤ k0 * 1 := pu_sum_le (fun j _ => by
      show (if T % pr j = 0 then 1 else 0) ≤ 1
      split <;> omega)
    omega
  have st : ∀ k n l, k < w → f_X2_taskOf_17 (n + 1) (nI T) l (nI k) M = (if T % pr k = 0 then (if l = 0 then some (M 10 k) else f_X2_taskOf_17 n (nI T) (l + (-1)) (nI (k + 1)) M) else f_X2_taskOf_17 n (nI T) l (nI (k + 1)) M) := fun k n l hk' => by
    obtain ⟨q1, q2, q3⟩ := g5 k hk'
    have ho := ob_n (show k < 12 by omega) (by decide)
    show (if (M 9 2) ≤ nI k then (some (-1)) else (if mk_ob (nI k) 12 then none else ((f_X2_isReleaseTime (nI T) (M 11 (nI k).toNatClampNeg) M).bind (fun r_8 => (if r_8 = 0 then (f_X2_taskOf_17 n (nI T) l (nI k + 1) M) else (if l = 0 then (if mk_ob (nI k) 12 then none else (some (M 10 (nI k).toNatClampNeg))) else (f_X2_taskOf_17 n (nI T) (l + (-1)) (nI k + 1) M))))))) = _
    rw [g1, if_neg (nI_ge hk' (by omega)), if_neg ho]
    simp only [if_neg ho, cl_n (show k < 2 ^ 31 by omega), q1, nI_1]
    rw [ir_n M (by omega) q2 q3, Option.bind_some]
    by_cases c : T % pr k = 0
    · rw [if_pos c, if_pos c, if_neg n1_0]
    · rw [if_neg c, if_neg c, if_pos rfl]
  induction d with
  | zero =>
    intro k n hi hn
    obtain ⟨n, rfl⟩ : ∃ m, n = m + 1 := ⟨n - 1, by omega⟩
    have e : k = k0 := by omega
    subst e
    rw [st k n _ hk, if_pos hd, hL, Nat.sub_self, if_pos nI_0]
  | succ d ih =>
    intro k n hi hn
    obtain ⟨n, rfl⟩ : ∃ m, n = m + 1 := ⟨n - 1, by omega⟩
    have e : wt_n pr T (k + 1) = wt_n pr T k + (if T % pr k = 0 then 1 else 0) := rfl
    have m := wn_m (pr := pr) (T := T) (show k + 1 ≤ k0 by omega)
    rw [st k n _ (by omega), ← ih (k + 1) n (by omega) (by omega)]
    by_cases c : T % pr k = 0
    · rw [if_pos c] at e ⊢
      rw [if_neg (nI_ne0 (by omega) (by omega)), show L - wt_n pr T k = (L - wt_n pr T (k + 1)) + 1 by omega, pk_m1]
    · rw [if_neg c] at e ⊢
      rw [show wt_n pr T (k + 1) = wt_n pr T k by omega]
theorem tf_n {M : mk_M} {w wd a T k0 : Nat} {pr : Nat → Nat} (h : wt_J M w wd pr) (ha : a < 2 ^ 31) (hT : T < wd) (hT1 : wt_C w pr T ≤ a) (hT2 : a < wt_C w pr (T + 1)) (hk : k0 < w) (hd : T % pr k0 = 0) (hL : wt_n pr T k0 = a - wt_C w pr T) : f_X2_taskOf (nI a) M = some (M 10 k0) := by
  have hwd := h.2.2.2.1
  have hw := h.2.1
  unfold f_X2_taskOf
  rw [to_n h ha hT hT1 hT2, Option.bind_some, rb_n h (by omega), Option.bind_some, pk_sub hT1]
  have e := tf_lp h (by omega) hk hd hL k0 0 mk_F (by omega) (mk_F_lt (by omega))
  exact e
