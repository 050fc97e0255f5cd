/-! rows for the law's own methods: the long, the statics, the classes that aren't each other's -/
def mk_NC (U : State) : Prop := va_Nc (mk_ex 1) (mk_ex 2) U ∧ va_Nc (mk_ex 1) (mk_ex 3) U ∧ va_Nc (mk_ex 2) (mk_ex 1) U ∧ va_Nc (mk_ex 2) (mk_ex 3) U ∧ va_Nc (mk_ex 3) (mk_ex 1) U ∧ va_Nc (mk_ex 3) (mk_ex 2) U
theorem mk_NC.moved {u U : State} (hvm : u.vm.Alike U.vm) (h : mk_NC u) : mk_NC U := ⟨h.1.moved hvm, h.2.1.moved hvm, h.2.2.1.moved hvm, h.2.2.2.1.moved hvm, h.2.2.2.2.1.moved hvm, h.2.2.2.2.2.moved hvm⟩
theorem mk_bad_warm {s U : State} (hW : s.WarmedH U.vm) (h : ∀ (w : Cond), w ∈ mk_bad → ∀ (a : Array Value), w.before a s = true) : ∀ (w : Cond), w ∈ mk_bad → ∀ (a : Array Value), w.before a U = true := by
  intro w hw a
  have h0 : va_Nw w s := h w hw #[]
  simp only [mk_bad, List.mem_cons, List.not_mem_nil, or_false] at hw
  rcases hw with rfl | rfl | rfl | rfl | rfl | rfl
  · exact va_Nw.use rfl (va_Nw.warmC hW h0)
  · exact va_Nw.use rfl (va_Nw.warmC hW h0)
  · exact va_Nw.use rfl (va_Nw.warmC hW h0)
  · exact va_Nw.use rfl (va_Nw.warmD hW h0)
  · exact va_Nw.use rfl (va_Nw.warmD hW h0)
  · exact va_Nw.use rfl (va_Nw.warmD hW h0)
theorem mk_bad_same {s U : State} (hvm : s.vm = U.vm) (h : ∀ (w : Cond), w ∈ mk_bad → ∀ (a : Array Value), w.before a s = true) : ∀ (w : Cond), w ∈ mk_bad → ∀ (a : Array Value), w.before a U = true := by
  intro w hw a
  have h0 : va_Nw w s := h w hw #[]
  simp only [mk_bad, List.mem_cons, List.not_mem_nil, or_false] at hw
  rcases hw with rfl | rfl | rfl | rfl | rfl | rfl <;> exact va_Nw.use rfl (va_Nw.same rfl hvm h0)
theorem mk_T.at {E : mk_E} {s U : State} {H : Heap} {locs : List Loc} (hT : mk_T E s) (hS : va_S (mk_A E) s.heap H locs) (hU : U.heap = H) (hW : s.WarmedH U.vm) : mk_T E U :=
  ⟨by rw [hU]; exact vx_Zq.moved hW.alike (hT.1.kept hS.2.1), by rw [hU]; exact vx_Zq.moved hW.alike (hT.2.1.kept hS.2.1), mk_bad_warm hW hT.2.2⟩
theorem mk_WT.blind {D : va_G} {E : mk_E} {M : mk_M} {L : Nat → Int64} {as : List Value} : FrameBlind (va_Pc as (mk_WT D E M L)) := by
  intro a U g mk h
  have h1 := mk_W.blind (D := D) (E := E) (M := M) (L := L) (as := as) a U g mk ⟨h.1, h.2.1⟩
  exact ⟨h.1, h1.2, vx_Zq.moved (u := U) (U := U.calling g mk a) (Vm.Alike.refl U.vm) h.2.2.1, vx_Zq.moved (u := U) (U := U.calling g mk a) (Vm.Alike.refl U.vm) h.2.2.2.1, mk_bad_same (s := U) (U := U.calling g mk a) rfl h.2.2.2.2⟩
def mk_WC (D : va_G) (E : mk_E) (M : mk_M) (L : Nat → Int64) (U : State) : Prop := mk_WT D E M L U ∧ mk_NC U
theorem mk_WC.blind {D : va_G} {E : mk_E} {M : mk_M} {L : Nat → Int64} {as : List Value} : FrameBlind (va_Pc as (mk_WC D E M L)) := by
  intro a U g mk h
  have h1 := mk_WT.blind (D := D) (E := E) (M := M) (L := L) (as := as) a U g mk ⟨h.1, h.2.1⟩
  exact ⟨h.1, h1.2, mk_NC.moved (u := U) (U := U.calling g mk a) (Vm.Alike.refl U.vm) h.2.2⟩
/-- what a method of the law with a table says: its code, the memory, the long -/
abbrev mk_Qw (D : va_G) (E : mk_E) (r : Int32) (M : mk_M) (L : Nat → Int64) : Array Value → State → Outcome → State → Prop := va_Qi (S := Unit) (fun r' _ => r' = r) (fun _ t => va_P D vwCl (mk_wl E M L) t.heap) (mk_A E)
section MKL
variable {p : Program} {l : Launch} {e : Env} {R : Room} {s : State} {m : MethodId} {args : Array Value} {below : List Frame} {meth : Method} {c : Code} {H : Heap} {locs : List Loc} {cells slots : Nat} {Q : State → Prop}
variable {cc : ByteArray} {pc : Nat} {ls : Array Slot} {rest : List Value} {D : va_G} {E : mk_E} {M : mk_M} {L : Nat → Int64} {H0 : Heap}
theorem mk_ls (hx : p.tables.exec = Jvm.exec) (hb : c.code = cc) (hK : va_K D vwCl (mk_tys E) s) (hP : va_P D vwCl (mk_wl E M L) H) (hD : va_D (mk_A E) (mk_wl E M L)) (hS : va_S (mk_A E) H0 H locs) {v : Int64} (hdg : decode cc pc = .ok (.lastore, 1))
    (kk : ∀ (H1 : Heap) (locs1 : List Loc), va_P D vwCl (mk_wl E M (vp_updL L 0 v)) H1 → va_S (mk_A E) H0 H1 locs1 → W p l e R s m args below meth c H1 locs1 cells slots Q (F0 m (pc + 1) ls rest)) : W p l e R s m args below meth c H locs cells slots Q (F0 m pc ls (.long v :: .int 0 :: .ref (E.1 93) :: rest)) := by
  refine va_last hx hb hK hP hD hS 93 3 (by rw [mk_get E M L (by decide), mk_rep_10 rfl]) rfl (show vp_in 0 1 by unfold vp_in; decide) hdg (fun H1 locs1 hP1 _ hS1 => kk H1 locs1 ?_ hS1)
  rw [← mk_set (M := M) (M2 := M) (L := L) (L2 := vp_updL L 0 v) (x := 93) (by decide) (by rw [mk_rep_10 rfl]) (fun y hy => (mk_rep_L E M _ _ hy))]
  exact hP1
theorem mk_ll (hx : p.tables.exec = Jvm.exec) (hb : c.code = cc) (hK : va_K D vwCl (mk_tys E) s) (hP : va_P D vwCl (mk_wl E M L) H) (hdg : decode cc pc = .ok (.laload, 1))
    (kk : W p l e R s m args below meth c H locs cells slots Q (F0 m (pc + 1) ls (.long (L 0) :: rest))) : W p l e R s m args below meth c H locs cells slots Q (F0 m pc ls (.int 0 :: .ref (E.1 93) :: rest)) :=
  va_lald hx hb hK hP 93 3 (by rw [mk_get E M L (by decide), mk_rep_10 rfl]) rfl (show vp_in 0 1 by unfold vp_in; decide) hdg kk
end MKL
