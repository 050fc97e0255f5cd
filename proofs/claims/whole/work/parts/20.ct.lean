/-! THE CONSTRUCTORS' WORLD: all cells from the address b on, in the order in which they were made; g says what each holds -/
def ct_w (b n : Nat) (g : Nat → va_E) : va_W := (List.range n).map (fun x => (b + x, g x))
def ct_A (b : Nat) : Nat → Prop := fun q => b ≤ q
theorem ct_get {b n : Nat} {g : Nat → va_E} {x : Nat} (h : x < n) : (ct_w b n g)[x]? = some (b + x, g x) := by simp [ct_w, h]
theorem ct_none {b n : Nat} {g : Nat → va_E} {x : Nat} (h : ¬ x < n) : (ct_w b n g)[x]? = none := List.getElem?_eq_none (by simpa [ct_w] using h)
theorem ct_set {b n : Nat} {g : Nat → va_E} {x : Nat} {e : va_E} (h : x < n) : (ct_w b n g).set x (b + x, e) = ct_w b n (va_up g x e) := by
  apply List.ext_getElem?
  intro j
  by_cases hj : j = x
  · subst hj
    rw [List.getElem?_set_self (by simpa [ct_w] using h), ct_get h, va_up_self]
  · rw [List.getElem?_set_ne (Ne.symm hj)]
    by_cases hl : j < n
    · rw [ct_get hl, ct_get hl, va_up_ne _ _ hj]
    · rw [ct_none hl, ct_none hl]
theorem ct_D (b n : Nat) (g : Nat → va_E) : va_D (ct_A b) (ct_w b n g) := by
  have key : ∀ (k : Nat) (q : Nat × va_E), (ct_w b n g)[k]? = some q → q.1 = b + k := by
    intro k q hk
    by_cases hl : k < n
    · rw [ct_get hl] at hk; cases hk; rfl
    · rw [ct_none hl] at hk; cases hk
  refine ⟨fun i j x y hi hj hxy => ?_, fun k q hk => ?_⟩
  · have h1 := key i x hi
    have h2 := key j y hj
    omega
  · rw [key k q hk]; exact Nat.le_add_right _ _
theorem ct_push {D : va_G} {b n : Nat} {g : Nat → va_E} {e : va_E} {H H1 : Heap} (hP : va_P D vwCl (ct_w b n g) H) (ho : ∀ q : Nat, q < b + n → H1[q]? = H[q]?) (he : va_at D vwCl (b + n, e) H1) : va_P D vwCl (ct_w b (n + 1) (va_up g n e)) H1 := by
  intro k q hk
  by_cases hl : k < n + 1
  · rw [ct_get hl] at hk
    cases hk
    by_cases hn : k = n
    · subst hn
      rw [va_up_self]; exact he
    · rw [va_up_ne _ _ hn]
      have hlt : k < n := by omega
      exact (hP k _ (ct_get hlt)).kept (ho _ (by show b + k < b + n; omega))
  · rw [ct_none hl] at hk; cases hk
section CTR
variable {p : Program} {l : Launch} {e : Env} {R : Room} {s : State} {m : MethodId} {args : Array Value} {below : List Frame} {meth : Method} {c : Code} {H : Heap} {locs : List Loc} {cells slots : Nat} {Q : State → Prop}
variable {cc : ByteArray} {pc : Nat} {ls : Array Slot} {rest : List Value} {D : va_G} {E : mk_E} {H0 : Heap} {own : String} {index b n : Nat} {g : Nat → va_E}
theorem ct_newp {atype : ArrayType} {ty : FieldType} {cA : ClassId} {t0 N' : Nat} {a0 : vp_A} (hx : p.tables.exec = Jvm.exec) (hb : c.code = cc) (harr : (Cond.arrayClass (newarray.typeOf atype)).before args s = true) (hty : newarray.typeOf atype = ty) (hK : va_K D vwCl (mk_tys E) s) (ht : (mk_tys E)[t0]? = some (cA, ty)) (hnm : va_RA s cA ty → s.vm.findClass ("[" ++ ty.toString) = some cA)
    (hP : va_P D vwCl (ct_w b n g) H) (hz : H.size = b + n) (hS : va_S (ct_A b) H0 H locs) (ha : vp_cell cA a0 = arrV cA N' (fun _ => defaultValue ty)) {v : Int32} (hn : ¬ v < 0) (hN : v.toNatClampNeg = N') (hby : N' * componentBytes ty ≤ 536870912) (hc : cells + 1 ≤ R.cells) (hs : slots + N' ≤ R.slots) (hdg : decode cc pc = .ok (.newarray atype, 2))
    (kk : ∀ H1 : Heap, va_P D vwCl (ct_w b (n + 1) (va_up g n (.inl (cA, a0)))) H1 → H1.size = b + (n + 1) → va_S (ct_A b) H0 H1 locs → W p l e R s m args below meth c H1 locs (cells + 1) (slots + N') Q (F0 m (pc + 2) ls (.ref (b + n) :: rest))) : W p l e R s m args below meth c H locs cells slots Q (F0 m pc ls (.int v :: rest)) := by
  subst hty
  refine va_newaK hx hb harr rfl hdg rfl hn hN hby hc hs hz fun H1 cA' e1 z1 o1 hAr hNm => ?_
  have hcA : cA' = cA := Option.some.inj (hNm.symm.trans (hnm (hK.2 t0 _ ht).2))
  subst hcA
  refine kk H1 (ct_push hP o1 ?_) (by omega) ⟨Nat.le_trans hS.1 (by omega), fun q h1 h2 => (o1 q (by have := hS.1; omega)).trans (hS.2.1 q h1 h2), hS.2.2⟩
  show H1[b + n]? = some (vp_cell _ _)
  rw [ha]
  exact e1
theorem ct_newI (hx : p.tables.exec = Jvm.exec) (hb : c.code = cc) (harr : (Cond.arrayClass .int).before args s = true) (hK : va_K D vwCl (mk_tys E) s) (hP : va_P D vwCl (ct_w b n g) H) (hz : H.size = b + n) (hS : va_S (ct_A b) H0 H locs) {N' : Nat} {v : Int32} (hn : ¬ v < 0) (hN : v.toNatClampNeg = N') (hby : N' * componentBytes .int ≤ 536870912) (hc : cells + 1 ≤ R.cells) (hs : slots + N' ≤ R.slots) (hdg : decode cc pc = .ok (.newarray .int, 2))
    (kk : ∀ H1 : Heap, va_P D vwCl (ct_w b (n + 1) (va_up g n (.inl (E.2.1, N', .inl (fun _ => 0))))) H1 → H1.size = b + (n + 1) → va_S (ct_A b) H0 H1 locs → W p l e R s m args below meth c H1 locs (cells + 1) (slots + N') Q (F0 m (pc + 2) ls (.ref (b + n) :: rest))) : W p l e R s m args below meth c H locs cells slots Q (F0 m pc ls (.int v :: rest)) :=
  ct_newp (t0 := 0) (atype := .int) (ty := .int) (cA := E.2.1) (N' := N') (a0 := (N', .inl (fun _ => 0))) hx hb harr rfl hK rfl (fun h => h) hP hz hS rfl hn hN hby hc hs hdg kk
theorem ct_newZ (hx : p.tables.exec = Jvm.exec) (hb : c.code = cc) (harr : (Cond.arrayClass .boolean).before args s = true) (hK : va_K D vwCl (mk_tys E) s) (hP : va_P D vwCl (ct_w b n g) H) (hz : H.size = b + n) (hS : va_S (ct_A b) H0 H locs) {N' : Nat} {v : Int32} (hn : ¬ v < 0) (hN : v.toNatClampNeg = N') (hby : N' * componentBytes .boolean ≤ 536870912) (hc : cells + 1 ≤ R.cells) (hs : slots + N' ≤ R.slots) (hdg : decode cc pc = .ok (.newarray .boolean, 2))
    (kk : ∀ H1 : Heap, va_P D vwCl (ct_w b (n + 1) (va_up g n (.inl (E.2.2.1, N', .inl (fun _ => 0))))) H1 → H1.size = b + (n + 1) → va_S (ct_A b) H0 H1 locs → W p l e R s m args below meth c H1 locs (cells + 1) (slots + N') Q (F0 m (pc + 2) ls (.ref (b + n) :: rest))) : W p l e R s m args below meth c H locs cells slots Q (F0 m pc ls (.int v :: rest)) :=
  ct_newp (t0 := 1) (atype := .boolean) (ty := .boolean) (cA := E.2.2.1) (N' := N') (a0 := (N', .inl (fun _ => 0))) hx hb harr rfl hK rfl (fun h => h) hP hz hS rfl hn hN hby hc hs hdg kk
theorem ct_newJ (hx : p.tables.exec = Jvm.exec) (hb : c.code = cc) (harr : (Cond.arrayClass .long).before args s = true) (hK : va_K D vwCl (mk_tys E) s) (hP : va_P D vwCl (ct_w b n g) H) (hz : H.size = b + n) (hS : va_S (ct_A b) H0 H locs) {N' : Nat} {v : Int32} (hn : ¬ v < 0) (hN : v.toNatClampNeg = N') (hby : N' * componentBytes .long ≤ 536870912) (hc : cells + 1 ≤ R.cells) (hs : slots + N' ≤ R.slots) (hdg : decode cc pc = .ok (.newarray .long, 2))
    (kk : ∀ H1 : Heap, va_P D vwCl (ct_w b (n + 1) (va_up g n (.inl (E.2.2.2.2, N', .inr (.inl (fun _ => 0)))))) H1 → H1.size = b + (n + 1) → va_S (ct_A b) H0 H1 locs → W p l e R s m args below meth c H1 locs (cells + 1) (slots + N') Q (F0 m (pc + 2) ls (.ref (b + n) :: rest))) : W p l e R s m args below meth c H locs cells slots Q (F0 m pc ls (.int v :: rest)) :=
  ct_newp (t0 := 3) (atype := .long) (ty := .long) (cA := E.2.2.2.2) (N' := N') (a0 := (N', .inr (.inl (fun _ => 0)))) hx hb harr rfl hK rfl (fun h => h) hP hz hS rfl hn hN hby hc hs hdg kk
theorem ct_newT (hx : p.tables.exec = Jvm.exec) (hb : c.code = cc) (hown : s.vm.findClass own = some m.cls) (hcl : (Cond.classLink own index "MixedKernel$Task").before args s = true) (hover : va_AO "MixedKernel$Task" s) (hK : va_K D vwCl (mk_tys E) s) (hP : va_P D vwCl (ct_w b n g) H) (hz : H.size = b + n) (hS : va_S (ct_A b) H0 H locs) {v : Int32} (hn : ¬ v < 0) (hN : v.toNatClampNeg = 13) (hc : cells + 1 ≤ R.cells) (hs : slots + 13 ≤ R.slots) (hdg : decode cc pc = .ok (.anewarray index, 3))
    (kk : ∀ H1 : Heap, va_P D vwCl (ct_w b (n + 1) (va_up g n (.inl (E.2.2.2.1, 13, .inr (.inr (.inr (.inr (fun _ => none)))))))) H1 → H1.size = b + (n + 1) → va_S (ct_A b) H0 H1 locs → W p l e R s m args below meth c H1 locs (cells + 1) (slots + 13) Q (F0 m (pc + 3) ls (.ref (b + n) :: rest))) : W p l e R s m args below meth c H locs cells slots Q (F0 m pc ls (.int v :: rest)) := by
  refine W.anew hx hb hown hcl (va_AO.use hover) rfl hdg rfl hn (by rw [hN]; decide) hc (by rw [hN]; exact hs) fun cA kA comp f1 f2 f3 f4 => ?_
  rw [hN]
  generalize hH1 : H.push ({ cls := cA, slots := Array.replicate 13 .null, vm := .none } : Cell) = H1
  have z1 : H1.size = H.size + 1 := by rw [← hH1, Array.size_push]
  have e1 : H1[H.size]? = some (arrV cA 13 (fun _ => .null)) := by rw [← hH1, Array.getElem?_push_size, ← arrV_new]
  have o1 : ∀ q : Nat, q < H.size → H1[q]? = H[q]? := fun q hq => by rw [← hH1, Array.getElem?_push, if_neg (Nat.ne_of_lt hq)]
  obtain ⟨kA2, comp2, r1, r2, r3, r4⟩ := (hK.2 2 _ rfl).2
  have hcA : cA = E.2.2.2.1 := Option.some.inj (f1.symm.trans r4)
  subst hcA
  rw [hz] at e1 o1 z1 ⊢
  exact kk H1 (ct_push hP o1 e1) (by omega) ⟨Nat.le_trans hS.1 (by omega), fun q h1 h2 => (o1 q (by have := hS.1; omega)).trans (hS.2.1 q h1 h2), hS.2.2⟩
theorem ct_new {C : String} {T : u_T} {N ci : Nat} {Ts : List Cond} (hx : p.tables.exec = Jvm.exec) (hb : c.code = cc) (hts : ∀ w ∈ Ts, w.before args s = true) (hin : ∀ w ∈ u_ws C T N, w ∈ Ts) (ty : Nat → FieldType) (hty : ∀ k, k < N → parseFieldDescriptor (T k).2.2.1 = some (ty k)) (hown : s.vm.findClass own = some m.cls) (hcl : (Cond.classLink own index C).before args s = true) (hinst : (Cond.instantiable C N).before args s = true) (hini : (Cond.initialized C).before args s = true)
    (hK : va_K D vwCl (mk_tys E) s) (hP : va_P D vwCl (ct_w b n g) H) (hz : H.size = b + n) (hS : va_S (ct_A b) H0 H locs) (hc : vwCl[ci]? = some (C, T, N)) {fs : List Value} (hfs : ∀ j, j < N → defaultValue (ty j) = vp_V fs j) (hcells : cells + 1 ≤ R.cells) (hslots : slots + N ≤ R.slots) (hdg : decode cc pc = .ok (.new index, 3))
    (kk : ∀ H1 : Heap, va_P D vwCl (ct_w b (n + 1) (va_up g n (.inr (ci, fs)))) H1 → H1.size = b + (n + 1) → va_S (ct_A b) H0 H1 locs → W p l e R s m args below meth c H1 locs (cells + 1) (slots + N) Q (F0 m (pc + 3) ls (.ref (b + n) :: rest))) : W p l e R s m args below meth c H locs cells slots Q (F0 m pc ls rest) := by
  have hKn := hK.1 ci _ hc
  refine W.newcK hx hb hown hcl hinst hini rfl hdg hcells hslots hKn.2.1 hz fun H1 kC hkC e1 z1 o1 => ?_
  exact kk H1 (ct_push hP o1 ⟨_, hc, (u_born ty hts hin hKn hkC e1 hty).to hfs⟩) (by omega) ⟨Nat.le_trans hS.1 (by omega), fun q h1 h2 => (o1 q (by have := hS.1; omega)).trans (hS.2.1 q h1 h2), hS.2.2⟩
theorem ct_put {C : String} {T : u_T} {N ci : Nat} {Ts : List Cond} (hx : p.tables.exec = Jvm.exec) (hb : c.code = cc) (hts : ∀ w ∈ Ts, w.before args s = true) (hin : ∀ w ∈ u_ws C T N, w ∈ Ts) (ty0 : Nat → FieldType) (hty : ∀ k, k < N → parseFieldDescriptor (T k).2.2.1 = some (ty0 k)) (hnm : ∀ a, a < N → ∀ b, b < N → a ≠ b → (T a).2.1 ≠ (T b).2.1) (hown : s.vm.findClass own = some m.cls)
    (hK : va_K D vwCl (mk_tys E) s) (hP : va_P D vwCl (ct_w b n g) H) (hz : H.size = b + n) (hS : va_S (ct_A b) H0 H locs) {k : Nat} (hk : k < n) {fs : List Value} (he : g k = .inr (ci, fs)) (hc : vwCl[ci]? = some (C, T, N)) (j : Nat) (hj : j < N) (hlink : (Cond.fieldLink own index (T j).1 (T j).2.1 (T j).2.2.1).before args s = true) (hfin : (T j).2.2.2 = false) {ty : FieldType} {v : Value} (hd : parseFieldDescriptor (T j).2.2.1 = some ty) (hn : narrow ty v = v) (hfit : fits ty v = true) (hl : j < fs.length) (hdg : decode cc pc = .ok (.putfield index, 3))
    (kk : ∀ (H1 : Heap) (locs1 : List Loc), va_P D vwCl (ct_w b n (va_up g k (.inr (ci, fs.set j v)))) H1 → H1.size = b + n → va_S (ct_A b) H0 H1 locs1 → W p l e R s m args below meth c H1 locs1 cells slots Q (F0 m (pc + 3) ls rest)) : W p l e R s m args below meth c H locs cells slots Q (F0 m pc ls (v :: .ref (b + k) :: rest)) := by
  have hap := va_apart (own := own) hts hin ty0 hty hnm hK hc
  have he' : (ct_w b n g)[k]? = some (b + k, .inr (ci, fs)) := by rw [ct_get hk, he]
  obtain ⟨r, h1, cell, q1, q2, q3, q4⟩ := hP k _ he'
  have hr : r = (C, T, N) := Option.some.inj (h1.symm.trans hc)
  subst hr
  obtain ⟨hSl, hfc, kC, hkC, hkind⟩ := hK.1 ci _ hc
  obtain ⟨cf, kf, fi, f, hi, hsl⟩ := hSl j hj
  have hlay := hts _ (hin _ (u_in_lay hj))
  unfold u_lay at hlay
  rw [if_neg (by rw [hfin]; decide)] at hlay
  have hst := (u_facts hfc hkC (u_lays hts hin hj) hi).1
  have h6 := u_store hfc hkC hkind hlay hi hd hn hfit
  refine W.putK hx hb (f := f) ⟨hown, hlink, ⟨_, _, _, hi⟩, hst⟩ (by rw [q2]; exact h6) q1 q3 (by rw [hsl]; exact k2_hasslot (q4 j hj)) rfl rfl hdg fun H' e1 e2 e3 => ?_
  rw [hsl] at e1 ⊢
  have hP1 := hP.set (ct_D b n g) he' (e := .inr (ci, fs.set j v)) ⟨_, hc, t_OB.to (V := updV (vp_V fs) j v) ⟨_, e1, q2, q3, t_set q4 hap hj v⟩ (fun i _ => vp_updV_set hl v i)⟩ e3
  rw [ct_set hk] at hP1
  exact kk H' _ hP1 (by rw [e2]; exact hz) (hS.put e2 e3 (Nat.le_add_right _ _))
theorem ct_putF {C : String} {T : u_T} {N ci : Nat} {Ts : List Cond} (hx : p.tables.exec = Jvm.exec) (hb : c.code = cc) (hts : ∀ w ∈ Ts, w.before args s = true) (hin : ∀ w ∈ u_ws C T N, w ∈ Ts) (ty0 : Nat → FieldType) (hty : ∀ k, k < N → parseFieldDescriptor (T k).2.2.1 = some (ty0 k)) (hnm : ∀ a, a < N → ∀ b, b < N → a ≠ b → (T a).2.1 ≠ (T b).2.1) (hown : s.vm.findClass own = some m.cls)
    (hK : va_K D vwCl (mk_tys E) s) (hP : va_P D vwCl (ct_w b n g) H) (hz : H.size = b + n) (hS : va_S (ct_A b) H0 H locs) {k : Nat} (hk : k < n) {fs : List Value} (he : g k = .inr (ci, fs)) (hc : vwCl[ci]? = some (C, T, N)) (j : Nat) (hj : j < N) (hlink : (Cond.fieldLink own index (T j).1 (T j).2.1 (T j).2.2.1).before args s = true) (hfin : (T j).2.2.2 = true) (hin2 : meth.name = "<init>") (hdecl : (T j).1 = own) {ty : FieldType} {v : Value} (hd : parseFieldDescriptor (T j).2.2.1 = some ty) (hn : narrow ty v = v) (hfit : fits ty v = true) (hl : j < fs.length) (hdg : decode cc pc = .ok (.putfield index, 3))
    (kk : ∀ (H1 : Heap) (locs1 : List Loc), va_P D vwCl (ct_w b n (va_up g k (.inr (ci, fs.set j v)))) H1 → H1.size = b + n → va_S (ct_A b) H0 H1 locs1 → W p l e R s m args below meth c H1 locs1 cells slots Q (F0 m (pc + 3) ls rest)) : W p l e R s m args below meth c H locs cells slots Q (F0 m pc ls (v :: .ref (b + k) :: rest)) := by
  have he' : (ct_w b n g)[k]? = some (b + k, .inr (ci, fs)) := by rw [ct_get hk, he]
  have hap := va_apart (own := own) hts hin ty0 hty hnm hK hc
  obtain ⟨r, h1, cell, q1, q2, q3, q4⟩ := hP k _ he'
  have hr : r = (C, T, N) := Option.some.inj (h1.symm.trans hc)
  subst hr
  obtain ⟨hSl, hfc, kC, hkC, hkind⟩ := hK.1 ci _ hc
  obtain ⟨cf, kf, fi, f, hi, hsl⟩ := hSl j hj
  have hlay := hts _ (hin _ (u_in_lay hj))
  unfold u_lay at hlay
  rw [if_pos hfin] at hlay
  have hst := (u_facts hfc hkC (u_lays hts hin hj) hi).1
  have hcf : m.cls = cf := by
    obtain ⟨_, _, c', _, _, _, -, -, hf', -, -, -, hown2, -⟩ := Cond.laysFinal_spec hlay
    have e1 : c' = cf := by have := hi.symm.trans hf'; simp at this; exact this.1.symm
    rw [hdecl] at hown2
    rw [← e1]; exact Option.some.inj (hown.symm.trans hown2)
  have h6 := u_fits hfc hkC hkind (Or.inr hlay) hi hd hn hfit
  refine W.putFinK hx hb hown hlink hi hst hcf hin2 (by rw [q2]; exact h6) q1 q3 (by rw [hsl]; exact k2_hasslot (q4 j hj)) rfl rfl hdg fun H' e1 e2 e3 => ?_
  rw [hsl] at e1 ⊢
  have hP1 := hP.set (ct_D b n g) he' (e := .inr (ci, fs.set j v)) ⟨_, hc, t_OB.to (V := updV (vp_V fs) j v) ⟨_, e1, q2, q3, t_set q4 hap hj v⟩ (fun i _ => vp_updV_set hl v i)⟩ e3
  rw [ct_set hk] at hP1
  exact kk H' _ hP1 (by rw [e2]; exact hz) (hS.put e2 e3 (Nat.le_add_right _ _))
end CTR
theorem ct_self {α : Type} (g : Nat → α) (k : Nat) {e : α} (h : g k = e) : va_up g k e = g := by
  funext x
  by_cases hx : x = k
  · subst hx; rw [va_up_self, h]
  · rw [va_up_ne _ _ hx]
theorem ct_comm {α : Type} (A : Nat → α) {k i : Nat} (e a : α) (h : k ≠ i) : va_up (va_up A k e) i a = va_up (va_up A i a) k e := by
  funext x
  by_cases h1 : x = i
  · subst h1
    rw [va_up_self, va_up_ne _ _ (Ne.symm h), va_up_self]
  · rw [va_up_ne _ _ h1]
    by_cases h2 : x = k
    · subst h2; rw [va_up_self, va_up_self]
    · rw [va_up_ne _ _ h2, va_up_ne _ _ h2, va_up_ne _ _ h1]
