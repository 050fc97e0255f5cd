/-! small rows that every walk uses -/
abbrev mk_ob (i : Int32) (n : Nat) : Prop := i < 0 ∨ n ≤ i.toNatClampNeg
def mk_F : Nat := 5000
theorem mk_ifn {α : Type} {c : Prop} [Decidable c] {b : Option α} {q : α} (h : (if c then none else b) = some q) : ¬ c ∧ b = some q := by
  by_cases hc : c
  · rw [if_pos hc] at h; cases h
  · rw [if_neg hc] at h; exact ⟨hc, h⟩
theorem mk_bind {α β : Type} {o : Option α} {f : α → Option β} {q : β} (h : o.bind f = some q) : ∃ r, o = some r ∧ f r = some q := by
  cases o with
  | none => cases h
  | some r => exact ⟨r, rfl, h⟩
theorem mk_s1 {x : Nat} (h : mk_kd x = 1) : x + 1 < 94 ∧ mk_kd (x + 1) = 7 ∧ mk_ln (x + 1) = 12 := by
  have hx : x = 3 ∨ x = 5 ∨ x = 7 := by
    unfold mk_kd at h
    split at h
    · split at h <;> first | omega | cases h
    · split at h
      · split at h <;> cases h
      · split at h
        · cases h
        · split at h
          · cases h
          · split at h <;> cases h
  rcases hx with rfl | rfl | rfl <;> decide
theorem mk_s0 {x : Nat} (h : mk_kd x = 0) : x + 1 < 94 ∧ mk_kd (x + 1) = 7 := by
  have hx : x = 12 ∨ x = 14 := by
    unfold mk_kd at h
    split at h
    · split at h <;> first | omega | cases h
    · split at h
      · split at h <;> cases h
      · split at h
        · cases h
        · split at h
          · cases h
          · split at h <;> cases h
  rcases hx with rfl | rfl <;> decide
theorem mk_kdt {x : Nat} (h1 : 16 ≤ x) (h2 : x < 68) (h3 : x % 4 ≠ 0) : mk_kd x = 7 ∧ mk_ln x = 8 := by
  constructor
  · unfold mk_kd
    rw [if_neg (by omega), if_pos h2, if_neg h3]
  · unfold mk_ln
    rw [if_neg (by omega), if_neg (by omega), if_pos h2]
theorem mk_s3 {x : Nat} (h : mk_kd x = 3) : (x + 1 < 94 ∧ mk_kd (x + 1) = 7 ∧ mk_ln (x + 1) = 8) ∧ (x + 2 < 94 ∧ mk_kd (x + 2) = 7 ∧ mk_ln (x + 2) = 8) ∧ (x + 3 < 94 ∧ mk_kd (x + 3) = 7 ∧ mk_ln (x + 3) = 8) := by
  obtain ⟨h1, h2, h3⟩ := mk_kd3 h
  exact ⟨⟨by omega, mk_kdt (by omega) (by omega) (by omega)⟩, ⟨by omega, mk_kdt (by omega) (by omega) (by omega)⟩, ⟨by omega, mk_kdt (by omega) (by omega) (by omega)⟩⟩
def mk_C (p : Program) (s : State) (m : MethodId) (args : Array Value) (meth : Method) (c : Code) (cc : ByteArray) (nL : Nat) (Ts : List Cond) (own : String) (ret : Option FieldType) (D : va_G) (E : mk_E) : Prop :=
  p.tables.exec = Jvm.exec ∧ c.code = cc ∧ c.maxLocals = nL ∧ s.vm.findClass own = some m.cls ∧ (∀ w ∈ Ts, w.before args s = true) ∧ meth.sig.returnType = ret ∧ meth.locks = false ∧ va_K D vwCl (mk_tys E) s ∧ (∀ (M : mk_M) (L : Nat → Int64), va_D (mk_A E) (mk_wl E M L)) ∧ mk_Nst s
abbrev mk_Qi (D : va_G) (E : mk_E) (L : Nat → Int64) (r : Int32) (M : mk_M) : Array Value → State → Outcome → State → Prop := va_Qi (S := Unit) (fun r' _ => r' = r) (fun _ t => va_P D vwCl (mk_wl E M L) t.heap) (mk_A E)
abbrev mk_Qv (D : va_G) (E : mk_E) (L : Nat → Int64) (M : mk_M) : Array Value → State → Outcome → State → Prop := va_Qv (S := Unit) (fun _ => True) (fun _ t => va_P D vwCl (mk_wl E M L) t.heap) (mk_A E)
theorem mk_rc0 {s : State} {H : Heap} {D : va_G} {E : mk_E} {M : mk_M} {L : Nat → Int64} {x : Nat} (hK : va_K D vwCl (mk_tys E) s) (hP : va_P D vwCl (mk_wl E M L) H) (hxx : x < 94) (hk : mk_kd x = 0) : ∃ cell : Cell, H[E.1 x]? = some cell ∧ cell.vm.isStatics = false ∧ s.vm.findClass RX0 = some cell.cls := va_recv hK hP (ci := 0) (q0 := x) rfl (by rw [mk_get E M L hxx, mk_rep_0 hk])
theorem mk_rc1 {s : State} {H : Heap} {D : va_G} {E : mk_E} {M : mk_M} {L : Nat → Int64} {x : Nat} (hK : va_K D vwCl (mk_tys E) s) (hP : va_P D vwCl (mk_wl E M L) H) (hxx : x < 94) (hk : mk_kd x = 1) : ∃ cell : Cell, H[E.1 x]? = some cell ∧ cell.vm.isStatics = false ∧ s.vm.findClass RX1 = some cell.cls := va_recv hK hP (ci := 1) (q0 := x) rfl (by rw [mk_get E M L hxx, mk_rep_1 hk])
theorem mk_rc2 {s : State} {H : Heap} {D : va_G} {E : mk_E} {M : mk_M} {L : Nat → Int64} {x : Nat} (hK : va_K D vwCl (mk_tys E) s) (hP : va_P D vwCl (mk_wl E M L) H) (hxx : x < 94) (hk : mk_kd x = 2) : ∃ cell : Cell, H[E.1 x]? = some cell ∧ cell.vm.isStatics = false ∧ s.vm.findClass RX2 = some cell.cls := va_recv hK hP (ci := 2) (q0 := x) rfl (by rw [mk_get E M L hxx, mk_rep_2 hk])
theorem mk_rc3 {s : State} {H : Heap} {D : va_G} {E : mk_E} {M : mk_M} {L : Nat → Int64} {x : Nat} (hK : va_K D vwCl (mk_tys E) s) (hP : va_P D vwCl (mk_wl E M L) H) (hxx : x < 94) (hk : mk_kd x = 3) : ∃ cell : Cell, H[E.1 x]? = some cell ∧ cell.vm.isStatics = false ∧ s.vm.findClass RX3 = some cell.cls := va_recv hK hP (ci := 3) (q0 := x) rfl (by rw [mk_get E M L hxx, mk_rep_3 hk])
theorem mk_rc4 {s : State} {H : Heap} {D : va_G} {E : mk_E} {M : mk_M} {L : Nat → Int64} {x : Nat} (hK : va_K D vwCl (mk_tys E) s) (hP : va_P D vwCl (mk_wl E M L) H) (hxx : x < 94) (hk : mk_kd x = 4) : ∃ cell : Cell, H[E.1 x]? = some cell ∧ cell.vm.isStatics = false ∧ s.vm.findClass RX4 = some cell.cls := va_recv hK hP (ci := 4) (q0 := x) rfl (by rw [mk_get E M L hxx, mk_rep_4 hk])
theorem mk_rc5 {s : State} {H : Heap} {D : va_G} {E : mk_E} {M : mk_M} {L : Nat → Int64} {x : Nat} (hK : va_K D vwCl (mk_tys E) s) (hP : va_P D vwCl (mk_wl E M L) H) (hxx : x < 94) (hk : mk_kd x = 5) : ∃ cell : Cell, H[E.1 x]? = some cell ∧ cell.vm.isStatics = false ∧ s.vm.findClass RX5 = some cell.cls := va_recv hK hP (ci := 5) (q0 := x) rfl (by rw [mk_get E M L hxx, mk_rep_5 hk])
theorem mk_rc6 {s : State} {H : Heap} {D : va_G} {E : mk_E} {M : mk_M} {L : Nat → Int64} {x : Nat} (hK : va_K D vwCl (mk_tys E) s) (hP : va_P D vwCl (mk_wl E M L) H) (hxx : x < 94) (hk : mk_kd x = 6) : ∃ cell : Cell, H[E.1 x]? = some cell ∧ cell.vm.isStatics = false ∧ s.vm.findClass RX6 = some cell.cls := va_recv hK hP (ci := 6) (q0 := x) rfl (by rw [mk_get E M L hxx, mk_rep_6 hk])
section MKC
variable {p : Program} {l : Launch} {e : Env} {R : Room} {s : State} {m : MethodId} {args : Array Value} {below : List Frame} {meth : Method} {c : Code} {H : Heap} {locs : List Loc} {cells slots : Nat} {Q : State → Prop}
variable {cc : ByteArray} {pc : Nat} {ls : Array Slot} {rest : List Value} {D : va_G} {E : mk_E} {M : mk_M} {L : Nat → Int64} {H0 : Heap} {own : String} {index : Nat} {x y : Nat}
theorem mk_cp (hx : p.tables.exec = Jvm.exec) (hb : c.code = cc) (hml : c.maxLocals = ls.size) (hown : s.vm.findClass own = some m.cls) (hlink : (Cond.methodLink own index arraycopyName).before args s = true) (hnat : (Cond.native arraycopyName).before args s = true) (hstat : (Cond.static arraycopyName).before args s = true) (hini : (Cond.initialized "java/lang/System").before args s = true)
    (hK : va_K D vwCl (mk_tys E) s) (hP : va_P D vwCl (mk_wl E M L) H) (hD : va_D (mk_A E) (mk_wl E M L)) (hS : va_S (mk_A E) H0 H locs) (hxx : x < 94) (hkx : mk_kd x = 7) (hlx : mk_ln x = 12) (hyy : y < 94) (hky : mk_kd y = 7) (hly : mk_ln y = 12)
    (hframes : 1 ≤ R.frames) (hlocals : (rest.map fun v => v.category).sum + (nativeFrameWords "java/lang/System" "arraycopy" 5 + 11) ≤ R.locals) (hdg : decode cc pc = .ok (.invokestatic index, 3))
    (kk : ∀ (H1 : Heap) (locs1 : List Loc), va_P D vwCl (mk_wl E (mk_sr M y (va_cpy (M x) (M y) 0 0 12)) L) H1 → va_S (mk_A E) H0 H1 locs1 → W p l e R s m args below meth c H1 locs1 cells slots Q (F0 m (pc + 3) ls rest)) : W p l e R s m args below meth c H locs cells slots Q (F0 m pc ls (.int 12 :: .int 0 :: .ref (E.1 y) :: .int 0 :: .ref (E.1 x) :: rest)) := by
  refine va_copyi (ty := .int) hx hb hml hown hlink hnat hstat hini hK hP hD hS x y 0 0 (by rw [mk_get E M L hxx, mk_rep_7 hkx]) (by rw [mk_get E M L hyy, mk_rep_7 hky]) rfl rfl rfl (by decide) (by decide) (by decide) (by rw [hlx]; decide) (by rw [hly]; decide) (fun i hi => rfl) hframes hlocals hdg (fun H1 locs1 hP1 _ hS1 => kk H1 locs1 ?_ hS1)
  rw [← mk_set (M := M) (M2 := mk_sr M y (va_cpy (M x) (M y) 0 0 12)) (L := L) (L2 := L) hyy (by rw [mk_rep_7 hky, mk_sr_row]) (fun z hz => mk_rep_congr E L (mk_sr_off M y _ hz))]
  exact hP1
end MKC
