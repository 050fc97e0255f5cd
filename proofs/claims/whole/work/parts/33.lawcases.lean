/-! the cases of the law's switch -/
theorem lg_self (x : Int64) : lg_cmp x x = 0 := by simp [lg_cmp, Int64.lt_irrefl]
theorem fx_L_add {q : (Nat × Int32) × mk_M} {L : Nat → Int64} (hq : q.1.1 = 0 ∨ q.1.1 = 1 ∨ q.1.1 = 2) (h : fc_L_add q = 0) : q.1.1 = 0 := by
  rcases hq with hq | hq | hq
  · exact hq
  · simp [fc_L_add, hq] at h
  · simp [fc_L_add, hq] at h
set_option maxHeartbeats 8000000 in
set_option maxRecDepth 100000 in
theorem lc_0 {p : Program} {l : Launch} {e : Env} {s : State} {m : MethodId} {below : List Frame} {meth : Method} {c : Code} {Q : State → Prop} {b Ln : Nat} {xs : Nat → Int32} (hx : p.tables.exec = Jvm.exec) (hb : c.code = cL_law) (hml : c.maxLocals = 7) (hown : s.vm.findClass RL = some m.cls) (hts : ∀ w ∈ wsL_law, w.before #[Value.ref b] s = true) (hst : l.stackTraces = false) (hX : va_X b Ln xs s s.heap) (hbl : b < s.heap.size) {D : va_G} {E : mk_E} (hbA : ¬ mk_A E b) (hK : va_K D vwCl (mk_tys E) s) (hD : ∀ (M : mk_M) (L : Nat → Int64), va_D (mk_A E) (mk_wl E M L)) (hN : mk_Nst s) (hT : mk_T E s) (hC : mk_NC s) {cells slots : Nat} (hcl : cells + 1 ≤ 601024) (hsl : slots + 6 ≤ 7293034) {x4 : Int32} (hi1 : vp_in (x4 + 1) Ln) (hi2 : vp_in (x4 + 2) Ln) (hi3 : vp_in (x4 + 3) Ln) (hi4 : vp_in (x4 + 4) Ln) (hi5 : vp_in (x4 + 5) Ln) {M : mk_M} {L : Nat → Int64} {q : (Nat × Int32) × mk_M} {r : Int32 × mk_M} (h1 : f_X5_add (xs (x4 + 1).toNatClampNeg) (xs (x4 + 2).toNatClampNeg) (xs (x4 + 3).toNatClampNeg) (xs (x4 + 4).toNatClampNeg) (xs (x4 + 5).toNatClampNeg) M = some q) (hq : q.1.1 = 0 ∨ q.1.1 = 1 ∨ q.1.1 = 2) (h2 : f_X6_add (xs (x4 + 1).toNatClampNeg) (xs (x4 + 2).toNatClampNeg) (xs (x4 + 3).toNatClampNeg) (xs (x4 + 4).toNatClampNeg) (xs (x4 + 5).toNatClampNeg) q.2 = some r) (h3 : r.2 68 0 = fc_L_add q) (h4 : fc_L_add q = 0 → q.1.2 = r.1) {H : Heap} {locs : List Loc} {ls : Array Slot} (hP : va_P D vwCl (mk_wl E M L) H) (hS : va_S (mk_A E) s.heap H locs) (hl : lv_has ls 7 [(0, .ref b), (1, .ref (E.1 0)), (2, .ref (E.1 68)), (3, .ref (E.1 93)), (4, .int x4)]) (kk : ∀ (H : Heap) (locs : List Loc) (ls : Array Slot), va_P D vwCl (mk_wl E r.2 (fl_L_add q L)) H → va_S (mk_A E) s.heap H locs → lv_has ls 7 [(0, .ref b), (1, .ref (E.1 0)), (2, .ref (E.1 68)), (3, .ref (E.1 93)), (4, .int x4)] → W p l e room_1 s m #[Value.ref b] below meth c H locs (cells + 1) (slots + 6) Q (F0 m 865 ls [])) : W p l e room_1 s m #[Value.ref b] below meth c H locs cells slots Q (F0 m 108 ls []) := by
  refine lv_aload_n hx hb dL_law_108 rfl (lv_at hl 1 rfl) ?_
  refine lv_aload_n hx hb dL_law_109 rfl (lv_at hl 0 rfl) ?_
  refine lv_iload hx hb dL_law_110 (lv_at hl 4 rfl) ?_
  refine lv_iconst (v := 1) hx hb dL_law_112 (by decide) ?_
  refine lv_iadd hx hb dL_law_113 ?_
  refine va_sld hx hb hX hbl hbA hS hi1 dL_law_114 ?_
  refine lv_aload_n hx hb dL_law_115 rfl (lv_at hl 0 rfl) ?_
  refine lv_iload hx hb dL_law_116 (lv_at hl 4 rfl) ?_
  refine lv_iconst (v := 2) hx hb dL_law_118 (by decide) ?_
  refine lv_iadd hx hb dL_law_119 ?_
  refine va_sld hx hb hX hbl hbA hS hi2 dL_law_120 ?_
  refine lv_aload_n hx hb dL_law_121 rfl (lv_at hl 0 rfl) ?_
  refine lv_iload hx hb dL_law_122 (lv_at hl 4 rfl) ?_
  refine lv_iconst (v := 3) hx hb dL_law_124 (by decide) ?_
  refine lv_iadd hx hb dL_law_125 ?_
  refine va_sld hx hb hX hbl hbA hS hi3 dL_law_126 ?_
  refine lv_aload_n hx hb dL_law_127 rfl (lv_at hl 0 rfl) ?_
  refine lv_iload hx hb dL_law_128 (lv_at hl 4 rfl) ?_
  refine lv_iconst (v := 4) hx hb dL_law_130 (by decide) ?_
  refine lv_iadd hx hb dL_law_131 ?_
  refine va_sld hx hb hX hbl hbA hS hi4 dL_law_132 ?_
  refine lv_aload_n hx hb dL_law_133 rfl (lv_at hl 0 rfl) ?_
  refine lv_iload hx hb dL_law_134 (lv_at hl 4 rfl) ?_
  refine lv_iconst (v := 5) hx hb dL_law_136 (by decide) ?_
  refine lv_iadd hx hb dL_law_137 ?_
  refine va_sld hx hb hX hbl hbA hS hi5 dL_law_138 ?_
  refine lv_aload_n hx hb dL_law_139 rfl (lv_at hl 3 rfl) ?_
  refine va_calli (vx_runSW (As := [.ref (E.1 0), .int (xs (x4 + 1).toNatClampNeg), .int (xs (x4 + 2).toNatClampNeg), .int (xs (x4 + 3).toNatClampNeg), .int (xs (x4 + 4).toNatClampNeg), .int (xs (x4 + 5).toNatClampNeg), .ref (E.1 93)]) (rest := []) ⟨hx, hb, hml, hown, hts⟩ (c_L_add l hst D E L (xs (x4 + 1).toNatClampNeg) (xs (x4 + 2).toNatClampNeg) (xs (x4 + 3).toNatClampNeg) (xs (x4 + 4).toNatClampNeg) (xs (x4 + 5).toNatClampNeg) M h1 hq) (vx_cwSW 7 hts gL_law_L_add rfl rfl rfl (by decide +kernel) ⟨Nat.le_of_ble_eq_true rfl, Nat.le_of_ble_eq_true rfl⟩) ⟨mk_WC.blind, fun U hU hW => ⟨rfl, ⟨mk_W.at hU hW hP hK (hD _ _) hN, hT.at hS hU hW⟩, hC.moved hW.alike⟩⟩ rfl rfl hl.1 rfl (lv_room (Nat.le_of_ble_eq_true rfl)) dL_law_140 ⟨hcl, hsl⟩) hS (fun q _ h => h) (fun q h => h) (fun v1 u t H1 locs ht hvm hw hB hz1 hk1 hS => ?_)
  subst v1
  rw [ht] at hB
  replace hP := hB
  clear hB hz1 hk1 hvm ht
  generalize H1 = H at hP hS ⊢
  refine lv_istore (lv' := [(5, .int (fc_L_add q)), (0, .ref b), (1, .ref (E.1 0)), (2, .ref (E.1 68)), (3, .ref (E.1 93)), (4, .int x4)]) hx hb dL_law_143 hl (by decide) rfl (fun ls hl => ?_)
  refine lv_aload_n hx hb dL_law_145 rfl (lv_at hl 3 rfl) ?_
  refine lv_aload_n hx hb dL_law_146 rfl (lv_at hl 1 rfl) ?_
  refine lv_iload hx hb dL_law_147 (lv_at hl 5 rfl) ?_
  refine lv_iconst (v := 1) hx hb dL_law_149 (by decide) ?_
  refine lv_iadd hx hb dL_law_150 ?_
  refine va_sld hx hb hX hbl hbA hS hi1 dL_law_151 ?_
  refine lv_aload_n hx hb dL_law_152 rfl (lv_at hl 1 rfl) ?_
  refine lv_iload hx hb dL_law_153 (lv_at hl 5 rfl) ?_
  refine lv_iconst (v := 2) hx hb dL_law_155 (by decide) ?_
  refine lv_iadd hx hb dL_law_156 ?_
  refine va_sld hx hb hX hbl hbA hS hi2 dL_law_157 ?_
  refine lv_aload_n hx hb dL_law_158 rfl (lv_at hl 1 rfl) ?_
  refine lv_iload hx hb dL_law_159 (lv_at hl 5 rfl) ?_
  refine lv_iconst (v := 3) hx hb dL_law_161 (by decide) ?_
  refine lv_iadd hx hb dL_law_162 ?_
  refine va_sld hx hb hX hbl hbA hS hi3 dL_law_163 ?_
  refine lv_aload_n hx hb dL_law_164 rfl (lv_at hl 1 rfl) ?_
  refine lv_iload hx hb dL_law_165 (lv_at hl 5 rfl) ?_
  refine lv_iconst (v := 4) hx hb dL_law_167 (by decide) ?_
  refine lv_iadd hx hb dL_law_168 ?_
  refine va_sld hx hb hX hbl hbA hS hi4 dL_law_169 ?_
  refine lv_aload_n hx hb dL_law_170 rfl (lv_at hl 1 rfl) ?_
  refine lv_iload hx hb dL_law_171 (lv_at hl 5 rfl) ?_
  refine lv_iconst (v := 5) hx hb dL_law_173 (by decide) ?_
  refine lv_iadd hx hb dL_law_174 ?_
  refine va_sld hx hb hX hbl hbA hS hi5 dL_law_175 ?_
  refine va_calli (va_runV (As := [.int (xs (x4 + 1).toNatClampNeg), .int (xs (x4 + 2).toNatClampNeg), .int (xs (x4 + 3).toNatClampNeg), .int (xs (x4 + 4).toNatClampNeg), .int (xs (x4 + 5).toNatClampNeg)]) (rest := []) ⟨hx, hb, hml, hown, hts⟩ (c_X6_add l D E (fl_L_add q L) (xs (x4 + 1).toNatClampNeg) (xs (x4 + 2).toNatClampNeg) (xs (x4 + 3).toNatClampNeg) (xs (x4 + 4).toNatClampNeg) (xs (x4 + 5).toNatClampNeg) q.2 h2) (cwV 5 hts gL_law_X6_add rfl rfl rfl (by decide +kernel) ⟨Nat.le_of_ble_eq_true rfl, Nat.le_of_ble_eq_true rfl⟩) ⟨mk_W.blind, mk_rc6 hK hP (by decide) rfl, fun U hU hW => ⟨rfl, mk_W.at hU hW hP hK (hD _ _) hN⟩⟩ rfl rfl hl.1 rfl (lv_room (Nat.le_of_ble_eq_true rfl)) dL_law_176 ⟨by show cells + 1 + 0 ≤ 601024; omega, by show slots + 6 + 0 ≤ 7293034; omega⟩) hS (fun q _ h => h) (fun q h => h) (fun v2 u t H1 locs ht hvm hw hB hz1 hk1 hS => ?_)
  subst v2
  rw [ht] at hB
  replace hP := hB
  clear hB hz1 hk1 hvm ht
  generalize H1 = H at hP hS ⊢
  refine lv_istore (lv' := [(6, .int r.1), (5, .int (fc_L_add q)), (0, .ref b), (1, .ref (E.1 0)), (2, .ref (E.1 68)), (3, .ref (E.1 93)), (4, .int x4)]) hx hb dL_law_179 hl (by decide) rfl (fun ls hl => ?_)
  refine lv_aload_n hx hb dL_law_181 rfl (lv_at hl 4 rfl) ?_
  refine va_calli (va_runV (As := []) (rest := []) ⟨hx, hb, hml, hown, hts⟩ (c_X6_thrown l D E (fl_L_add q L) r.2 (q := r.2 68 0) rfl) (cwV 0 hts gL_law_X6_thrown rfl rfl rfl (by decide +kernel) ⟨Nat.le_of_ble_eq_true rfl, Nat.le_of_ble_eq_true rfl⟩) ⟨mk_W.blind, mk_rc6 hK hP (by decide) rfl, fun U hU hW => ⟨rfl, mk_W.at hU hW hP hK (hD _ _) hN⟩⟩ rfl rfl hl.1 rfl (lv_room (Nat.le_of_ble_eq_true rfl)) dL_law_182 ⟨by show cells + 1 + 0 + 0 ≤ 601024; exact hcl, by show slots + 6 + 0 + 0 ≤ 7293034; exact hsl⟩) hS (fun q _ h => h) (fun q h => h) (fun v3 u t H1 locs ht hvm hw hB hz1 hk1 hS => ?_)
  subst v3
  rw [ht] at hB
  replace hP := hB
  clear hB hz1 hk1 hvm ht
  generalize H1 = H at hP hS ⊢
  refine lv_iload hx hb dL_law_185 (lv_at hl 1 rfl) ?_
  refine lv_icmp_eq (tgt := 192) hx hb dL_law_187 (by decide) (fun _ => ?_) (fun h => absurd h3 h)
  refine lv_iload hx hb dL_law_192 (lv_at hl 1 rfl) ?_
  refine lv_if_ne (tgt := 209) hx hb dL_law_194 (by decide) (fun _ => ?_) (fun c0 => ?_)
  · refine lv_goto (tgt := 865) hx hb dL_law_209 (by decide) ?_
    exact kk _ _ _ hP hS (lv_sub hl [2, 3, 4, 5, 6] rfl)
  · have e0 := fx_L_add (L := L) hq c0
    refine lv_aload_n hx hb dL_law_197 rfl (lv_at hl 5 rfl) ?_
    refine lv_iconst (v := 0) hx hb dL_law_198 (by decide) ?_
    refine mk_ll hx hb hK hP dL_law_199 ?_
    refine lv_iload hx hb dL_law_200 (lv_at hl 0 rfl) ?_
    refine lv_i2l hx hb dL_law_202 rfl ?_
    have el : fl_L_add q L 0 = (r.1).toInt64 := by rw [← h4 c0]; simp [fl_L_add, e0, vp_updL]
    rw [el]
    refine W.lcmp hx hb dL_law_203 ?_
    rw [lg_self]
    refine lv_if_eq (tgt := 209) hx hb dL_law_204 (by decide) (fun _ => ?_) (fun h => absurd rfl h)
    refine lv_goto (tgt := 865) hx hb dL_law_209 (by decide) ?_
    exact kk _ _ _ hP hS (lv_sub hl [2, 3, 4, 5, 6] rfl)
theorem fx_L_remove {q : (Nat × Int32) × mk_M} {L : Nat → Int64} (hq : q.1.1 = 0 ∨ q.1.1 = 3 ∨ q.1.1 = 2) (h : fc_L_remove q = 0) : q.1.1 = 0 := by
  rcases hq with hq | hq | hq
  · exact hq
  · simp [fc_L_remove, hq] at h
  · simp [fc_L_remove, hq] at h
set_option maxHeartbeats 8000000 in
set_option maxRecDepth 100000 in
theorem lc_1 {p : Program} {l : Launch} {e : Env} {s : State} {m : MethodId} {below : List Frame} {meth : Method} {c : Code} {Q : State → Prop} {b Ln : Nat} {xs : Nat → Int32} (hx : p.tables.exec = Jvm.exec) (hb : c.code = cL_law) (hml : c.maxLocals = 7) (hown : s.vm.findClass RL = some m.cls) (hts : ∀ w ∈ wsL_law, w.before #[Value.ref b] s = true) (hst : l.stackTraces = false) (hX : va_X b Ln xs s s.heap) (hbl : b < s.heap.size) {D : va_G} {E : mk_E} (hbA : ¬ mk_A E b) (hK : va_K D vwCl (mk_tys E) s) (hD : ∀ (M : mk_M) (L : Nat → Int64), va_D (mk_A E) (mk_wl E M L)) (hN : mk_Nst s) (hT : mk_T E s) (hC : mk_NC s) {cells slots : Nat} (hcl : cells + 1 ≤ 601024) (hsl : slots + 6 ≤ 7293034) {x4 : Int32} (hi1 : vp_in (x4 + 1) Ln) {M : mk_M} {L : Nat → Int64} {q : (Nat × Int32) × mk_M} {r : Int32 × mk_M} (h1 : f_X5_remove (xs (x4 + 1).toNatClampNeg) M = some q) (hq : q.1.1 = 0 ∨ q.1.1 = 3 ∨ q.1.1 = 2) (h2 : f_X6_remove (xs (x4 + 1).toNatClampNeg) q.2 = some r) (h3 : r.2 68 0 = fc_L_remove q) (h4 : fc_L_remove q = 0 → (q.1.2 = 0 ↔ r.1 = 0)) {H : Heap} {locs : List Loc} {ls : Array Slot} (hP : va_P D vwCl (mk_wl E M L) H) (hS : va_S (mk_A E) s.heap H locs) (hl : lv_has ls 7 [(0, .ref b), (1, .ref (E.1 0)), (2, .ref (E.1 68)), (3, .ref (E.1 93)), (4, .int x4)]) (kk : ∀ (H : Heap) (locs : List Loc) (ls : Array Slot), va_P D vwCl (mk_wl E r.2 (fl_L_remove q L)) H → va_S (mk_A E) s.heap H locs → lv_has ls 7 [(0, .ref b), (1, .ref (E.1 0)), (2, .ref (E.1 68)), (3, .ref (E.1 93)), (4, .int x4)] → W p l e room_1 s m #[Value.ref b] below meth c H locs (cells + 1) (slots + 6) Q (F0 m 865 ls [])) : W p l e room_1 s m #[Value.ref b] below meth c H locs cells slots Q (F0 m 212 ls []) := by
  refine lv_aload_n hx hb dL_law_212 rfl (lv_at hl 1 rfl) ?_
  refine lv_aload_n hx hb dL_law_213 rfl (lv_at hl 0 rfl) ?_
  refine lv_iload hx hb dL_law_214 (lv_at hl 4 rfl) ?_
  refine lv_iconst (v := 1) hx hb dL_law_216 (by decide) ?_
  refine lv_iadd hx hb dL_law_217 ?_
  refine va_sld hx hb hX hbl hbA hS hi1 dL_law_218 ?_
  refine lv_aload_n hx hb dL_law_219 rfl (lv_at hl 3 rfl) ?_
  refine va_calli (vx_runSW (As := [.ref (E.1 0), .int (xs (x4 + 1).toNatClampNeg), .ref (E.1 93)]) (rest := []) ⟨hx, hb, hml, hown, hts⟩ (c_L_remove l hst D E L (xs (x4 + 1).toNatClampNeg) M h1 hq) (vx_cwSW 3 hts gL_law_L_remove rfl rfl rfl (by decide +kernel) ⟨Nat.le_of_ble_eq_true rfl, Nat.le_of_ble_eq_true rfl⟩) ⟨mk_WC.blind, fun U hU hW => ⟨rfl, ⟨mk_W.at hU hW hP hK (hD _ _) hN, hT.at hS hU hW⟩, hC.moved hW.alike⟩⟩ rfl rfl hl.1 rfl (lv_room (Nat.le_of_ble_eq_true rfl)) dL_law_220 ⟨hcl, hsl⟩) hS (fun q _ h => h) (fun q h => h) (fun v1 u t H1 locs ht hvm hw hB hz1 hk1 hS => ?_)
  subst v1
  rw [ht] at hB
  replace hP := hB
  clear hB hz1 hk1 hvm ht
  generalize H1 = H at hP hS ⊢
  refine lv_istore (lv' := [(5, .int (fc_L_remove q)), (0, .ref b), (1, .ref (E.1 0)), (2, .ref (E.1 68)), (3, .ref (E.1 93)), (4, .int x4)]) hx hb dL_law_223 hl (by decide) rfl (fun ls hl => ?_)
  refine lv_aload_n hx hb dL_law_225 rfl (lv_at hl 3 rfl) ?_
  refine lv_aload_n hx hb dL_law_226 rfl (lv_at hl 1 rfl) ?_
  refine lv_iload hx hb dL_law_227 (lv_at hl 5 rfl) ?_
  refine lv_iconst (v := 1) hx hb dL_law_229 (by decide) ?_
  refine lv_iadd hx hb dL_law_230 ?_
  refine va_sld hx hb hX hbl hbA hS hi1 dL_law_231 ?_
  refine va_calli (va_runV (As := [.int (xs (x4 + 1).toNatClampNeg)]) (rest := []) ⟨hx, hb, hml, hown, hts⟩ (c_X6_remove l D E (fl_L_remove q L) (xs (x4 + 1).toNatClampNeg) q.2 h2) (cwV 1 hts gL_law_X6_remove rfl rfl rfl (by decide +kernel) ⟨Nat.le_of_ble_eq_true rfl, Nat.le_of_ble_eq_true rfl⟩) ⟨mk_W.blind, mk_rc6 hK hP (by decide) rfl, fun U hU hW => ⟨rfl, mk_W.at hU hW hP hK (hD _ _) hN⟩⟩ rfl rfl hl.1 rfl (lv_room (Nat.le_of_ble_eq_true rfl)) dL_law_232 ⟨by show cells + 1 + 0 ≤ 601024; omega, by show slots + 6 + 0 ≤ 7293034; omega⟩) hS (fun q _ h => h) (fun q h => h) (fun v2 u t H1 locs ht hvm hw hB hz1 hk1 hS => ?_)
  subst v2
  rw [ht] at hB
  replace hP := hB
  clear hB hz1 hk1 hvm ht
  generalize H1 = H at hP hS ⊢
  refine lv_istore (lv' := [(6, .int r.1), (5, .int (fc_L_remove q)), (0, .ref b), (1, .ref (E.1 0)), (2, .ref (E.1 68)), (3, .ref (E.1 93)), (4, .int x4)]) hx hb dL_law_235 hl (by decide) rfl (fun ls hl => ?_)
  refine lv_aload_n hx hb dL_law_237 rfl (lv_at hl 4 rfl) ?_
  refine va_calli (va_runV (As := []) (rest := []) ⟨hx, hb, hml, hown, hts⟩ (c_X6_thrown l D E (fl_L_remove q L) r.2 (q := r.2 68 0) rfl) (cwV 0 hts gL_law_X6_thrown rfl rfl rfl (by decide +kernel) ⟨Nat.le_of_ble_eq_true rfl, Nat.le_of_ble_eq_true rfl⟩) ⟨mk_W.blind, mk_rc6 hK hP (by decide) rfl, fun U hU hW => ⟨rfl, mk_W.at hU hW hP hK (hD _ _) hN⟩⟩ rfl rfl hl.1 rfl (lv_room (Nat.le_of_ble_eq_true rfl)) dL_law_238 ⟨by show cells + 1 + 0 + 0 ≤ 601024; exact hcl, by show slots + 6 + 0 + 0 ≤ 7293034; exact hsl⟩) hS (fun q _ h => h) (fun q h => h) (fun v3 u t H1 locs ht hvm hw hB hz1 hk1 hS => ?_)
  subst v3
  rw [ht] at hB
  replace hP := hB
  clear hB hz1 hk1 hvm ht
  generalize H1 = H at hP hS ⊢
  refine lv_iload hx hb dL_law_241 (lv_at hl 1 rfl) ?_
  refine lv_icmp_eq (tgt := 248) hx hb dL_law_243 (by decide) (fun _ => ?_) (fun h => absurd h3 h)
  refine lv_iload hx hb dL_law_248 (lv_at hl 1 rfl) ?_
  refine lv_if_ne (tgt := 272) hx hb dL_law_250 (by decide) (fun _ => ?_) (fun c0 => ?_)
  · refine lv_goto (tgt := 865) hx hb dL_law_272 (by decide) ?_
    exact kk _ _ _ hP hS (lv_sub hl [2, 3, 4, 5, 6] rfl)
  · have e0 := fx_L_remove (L := L) hq c0
    refine lv_aload_n hx hb dL_law_253 rfl (lv_at hl 5 rfl) ?_
    refine lv_iconst (v := 0) hx hb dL_law_254 (by decide) ?_
    refine mk_ll hx hb hK hP dL_law_255 ?_
    refine lv_iload hx hb dL_law_256 (lv_at hl 0 rfl) ?_
    refine lv_if_eq (tgt := 265) hx hb dL_law_258 (by decide) (fun c5 => ?_) (fun c5 => ?_)
    · have el : fl_L_remove q L 0 = 0 := by simp [fl_L_remove, e0, vp_updL, (h4 c0).mpr c5]
      rw [el]
      refine lv_lconst (v := 0) hx hb dL_law_265 (by decide) ?_
      refine W.lcmp hx hb dL_law_266 ?_
      rw [lg_self]
      refine lv_if_eq (tgt := 272) hx hb dL_law_267 (by decide) (fun _ => ?_) (fun h => absurd rfl h)
      refine lv_goto (tgt := 865) hx hb dL_law_272 (by decide) ?_
      exact kk _ _ _ hP hS (lv_sub hl [2, 3, 4, 5, 6] rfl)
    · have el : fl_L_remove q L 0 = 1 := by have hn9 : ¬ q.1.2 = 0 := fun h9 => c5 ((h4 c0).mp h9); simp [fl_L_remove, e0, vp_updL, hn9]
      rw [el]
      refine lv_lconst (v := 1) hx hb dL_law_261 (by decide) ?_
      refine lv_goto (tgt := 266) hx hb dL_law_262 (by decide) ?_
      refine W.lcmp hx hb dL_law_266 ?_
      rw [lg_self]
      refine lv_if_eq (tgt := 272) hx hb dL_law_267 (by decide) (fun _ => ?_) (fun h => absurd rfl h)
      refine lv_goto (tgt := 865) hx hb dL_law_272 (by decide) ?_
      exact kk _ _ _ hP hS (lv_sub hl [2, 3, 4, 5, 6] rfl)
theorem fx_L_release {q : (Nat × Int32) × mk_M} {L : Nat → Int64} (hq : q.1.1 = 0 ∨ q.1.1 = 3 ∨ q.1.1 = 1 ∨ q.1.1 = 2) (h : fc_L_release q = 0) : q.1.1 = 0 := by
  rcases hq with hq | hq | hq | hq
  · exact hq
  · simp [fc_L_release, hq] at h
  · simp [fc_L_release, hq] at h
  · simp [fc_L_release, hq] at h
set_option maxHeartbeats 8000000 in
set_option maxRecDepth 100000 in
theorem lc_2 {p : Program} {l : Launch} {e : Env} {s : State} {m : MethodId} {below : List Frame} {meth : Method} {c : Code} {Q : State → Prop} {b Ln : Nat} {xs : Nat → Int32} (hx : p.tables.exec = Jvm.exec) (hb : c.code = cL_law) (hml : c.maxLocals = 7) (hown : s.vm.findClass RL = some m.cls) (hts : ∀ w ∈ wsL_law, w.before #[Value.ref b] s = true) (hst : l.stackTraces = false) (hX : va_X b Ln xs s s.heap) (hbl : b < s.heap.size) {D : va_G} {E : mk_E} (hbA : ¬ mk_A E b) (hK : va_K D vwCl (mk_tys E) s) (hD : ∀ (M : mk_M) (L : Nat → Int64), va_D (mk_A E) (mk_wl E M L)) (hN : mk_Nst s) (hT : mk_T E s) (hC : mk_NC s) {cells slots : Nat} (hcl : cells + 1 ≤ 601024) (hsl : slots + 6 ≤ 7293034) {x4 : Int32} (hi1 : vp_in (x4 + 1) Ln) (hi2 : vp_in (x4 + 2) Ln) {M : mk_M} {L : Nat → Int64} {q : (Nat × Int32) × mk_M} {r : Int32 × mk_M} (h1 : f_X5_release (xs (x4 + 1).toNatClampNeg) (xs (x4 + 2).toNatClampNeg) M = some q) (hq : q.1.1 = 0 ∨ q.1.1 = 3 ∨ q.1.1 = 1 ∨ q.1.1 = 2) (h2 : f_X6_release (xs (x4 + 1).toNatClampNeg) (xs (x4 + 2).toNatClampNeg) q.2 = some r) (h3 : r.2 68 0 = fc_L_release q) (h4 : fc_L_release q = 0 → q.1.2 = r.1) {H : Heap} {locs : List Loc} {ls : Array Slot} (hP : va_P D vwCl (mk_wl E M L) H) (hS : va_S (mk_A E) s.heap H locs) (hl : lv_has ls 7 [(0, .ref b), (1, .ref (E.1 0)), (2, .ref (E.1 68)), (3, .ref (E.1 93)), (4, .int x4)]) (kk : ∀ (H : Heap) (locs : List Loc) (ls : Array Slot), va_P D vwCl (mk_wl E r.2 (fl_L_release q L)) H → va_S (mk_A E) s.heap H locs → lv_has ls 7 [(0, .ref b), (1, .ref (E.1 0)), (2, .ref (E.1 68)), (3, .ref (E.1 93)), (4, .int x4)] → W p l e room_1 s m #[Value.ref b] below meth c H locs (cells + 1) (slots + 6) Q (F0 m 865 ls [])) : W p l e room_1 s m #[Value.ref b] below meth c H locs cells slots Q (F0 m 275 ls []) := by
  refine lv_aload_n hx hb dL_law_275 rfl (lv_at hl 1 rfl) ?_
  refine lv_aload_n hx hb dL_law_276 rfl (lv_at hl 0 rfl) ?_
  refine lv_iload hx hb dL_law_277 (lv_at hl 4 rfl) ?_
  refine lv_iconst (v := 1) hx hb dL_law_279 (by decide) ?_
  refine lv_iadd hx hb dL_law_280 ?_
  refine va_sld hx hb hX hbl hbA hS hi1 dL_law_281 ?_
  refine lv_aload_n hx hb dL_law_282 rfl (lv_at hl 0 rfl) ?_
  refine lv_iload hx hb dL_law_283 (lv_at hl 4 rfl) ?_
  refine lv_iconst (v := 2) hx hb dL_law_285 (by decide) ?_
  refine lv_iadd hx hb dL_law_286 ?_
  refine va_sld hx hb hX hbl hbA hS hi2 dL_law_287 ?_
  refine lv_aload_n hx hb dL_law_288 rfl (lv_at hl 3 rfl) ?_
  refine va_calli (vx_runSW (As := [.ref (E.1 0), .int (xs (x4 + 1).toNatClampNeg), .int (xs (x4 + 2).toNatClampNeg), .ref (E.1 93)]) (rest := []) ⟨hx, hb, hml, hown, hts⟩ (c_L_release l hst D E L (xs (x4 + 1).toNatClampNeg) (xs (x4 + 2).toNatClampNeg) M h1 hq) (vx_cwSW 4 hts gL_law_L_release rfl rfl rfl (by decide +kernel) ⟨Nat.le_of_ble_eq_true rfl, Nat.le_of_ble_eq_true rfl⟩) ⟨mk_WC.blind, fun U hU hW => ⟨rfl, ⟨mk_W.at hU hW hP hK (hD _ _) hN, hT.at hS hU hW⟩, hC.moved hW.alike⟩⟩ rfl rfl hl.1 rfl (lv_room (Nat.le_of_ble_eq_true rfl)) dL_law_289 ⟨hcl, hsl⟩) hS (fun q _ h => h) (fun q h => h) (fun v1 u t H1 locs ht hvm hw hB hz1 hk1 hS => ?_)
  subst v1
  rw [ht] at hB
  replace hP := hB
  clear hB hz1 hk1 hvm ht
  generalize H1 = H at hP hS ⊢
  refine lv_istore (lv' := [(5, .int (fc_L_release q)), (0, .ref b), (1, .ref (E.1 0)), (2, .ref (E.1 68)), (3, .ref (E.1 93)), (4, .int x4)]) hx hb dL_law_292 hl (by decide) rfl (fun ls hl => ?_)
  refine lv_aload_n hx hb dL_law_294 rfl (lv_at hl 3 rfl) ?_
  refine lv_aload_n hx hb dL_law_295 rfl (lv_at hl 1 rfl) ?_
  refine lv_iload hx hb dL_law_296 (lv_at hl 5 rfl) ?_
  refine lv_iconst (v := 1) hx hb dL_law_298 (by decide) ?_
  refine lv_iadd hx hb dL_law_299 ?_
  refine va_sld hx hb hX hbl hbA hS hi1 dL_law_300 ?_
  refine lv_aload_n hx hb dL_law_301 rfl (lv_at hl 1 rfl) ?_
  refine lv_iload hx hb dL_law_302 (lv_at hl 5 rfl) ?_
  refine lv_iconst (v := 2) hx hb dL_law_304 (by decide) ?_
  refine lv_iadd hx hb dL_law_305 ?_
  refine va_sld hx hb hX hbl hbA hS hi2 dL_law_306 ?_
  refine va_calli (va_runV (As := [.int (xs (x4 + 1).toNatClampNeg), .int (xs (x4 + 2).toNatClampNeg)]) (rest := []) ⟨hx, hb, hml, hown, hts⟩ (c_X6_release l D E (fl_L_release q L) (xs (x4 + 1).toNatClampNeg) (xs (x4 + 2).toNatClampNeg) q.2 h2) (cwV 2 hts gL_law_X6_release rfl rfl rfl (by decide +kernel) ⟨Nat.le_of_ble_eq_true rfl, Nat.le_of_ble_eq_true rfl⟩) ⟨mk_W.blind, mk_rc6 hK hP (by decide) rfl, fun U hU hW => ⟨rfl, mk_W.at hU hW hP hK (hD _ _) hN⟩⟩ rfl rfl hl.1 rfl (lv_room (Nat.le_of_ble_eq_true rfl)) dL_law_307 ⟨by show cells + 1 + 0 ≤ 601024; omega, by show slots + 6 + 0 ≤ 7293034; omega⟩) hS (fun q _ h => h) (fun q h => h) (fun v2 u t H1 locs ht hvm hw hB hz1 hk1 hS => ?_)
  subst v2
  rw [ht] at hB
  replace hP := hB
  clear hB hz1 hk1 hvm ht
  generalize H1 = H at hP hS ⊢
  refine lv_istore (lv' := [(6, .int r.1), (5, .int (fc_L_release q)), (0, .ref b), (1, .ref (E.1 0)), (2, .ref (E.1 68)), (3, .ref (E.1 93)), (4, .int x4)]) hx hb dL_law_310 hl (by decide) rfl (fun ls hl => ?_)
  refine lv_aload_n hx hb dL_law_312 rfl (lv_at hl 4 rfl) ?_
  refine va_calli (va_runV (As := []) (rest := []) ⟨hx, hb, hml, hown, hts⟩ (c_X6_thrown l D E (fl_L_release q L) r.2 (q := r.2 68 0) rfl) (cwV 0 hts gL_law_X6_thrown rfl rfl rfl (by decide +kernel) ⟨Nat.le_of_ble_eq_true rfl, Nat.le_of_ble_eq_true rfl⟩) ⟨mk_W.blind, mk_rc6 hK hP (by decide) rfl, fun U hU hW => ⟨rfl, mk_W.at hU hW hP hK (hD _ _) hN⟩⟩ rfl rfl hl.1 rfl (lv_room (Nat.le_of_ble_eq_true rfl)) dL_law_313 ⟨by show cells + 1 + 0 + 0 ≤ 601024; exact hcl, by show slots + 6 + 0 + 0 ≤ 7293034; exact hsl⟩) hS (fun q _ h => h) (fun q h => h) (fun v3 u t H1 locs ht hvm hw hB hz1 hk1 hS => ?_)
  subst v3
  rw [ht] at hB
  replace hP := hB
  clear hB hz1 hk1 hvm ht
  generalize H1 = H at hP hS ⊢
  refine lv_iload hx hb dL_law_316 (lv_at hl 1 rfl) ?_
  refine lv_icmp_eq (tgt := 323) hx hb dL_law_318 (by decide) (fun _ => ?_) (fun h => absurd h3 h)
  refine lv_iload hx hb dL_law_323 (lv_at hl 1 rfl) ?_
  refine lv_if_ne (tgt := 340) hx hb dL_law_325 (by decide) (fun _ => ?_) (fun c0 => ?_)
  · refine lv_goto (tgt := 865) hx hb dL_law_340 (by decide) ?_
    exact kk _ _ _ hP hS (lv_sub hl [2, 3, 4, 5, 6] rfl)
  · have e0 := fx_L_release (L := L) hq c0
    refine lv_aload_n hx hb dL_law_328 rfl (lv_at hl 5 rfl) ?_
    refine lv_iconst (v := 0) hx hb dL_law_329 (by decide) ?_
    refine mk_ll hx hb hK hP dL_law_330 ?_
    refine lv_iload hx hb dL_law_331 (lv_at hl 0 rfl) ?_
    refine lv_i2l hx hb dL_law_333 rfl ?_
    have el : fl_L_release q L 0 = (r.1).toInt64 := by rw [← h4 c0]; simp [fl_L_release, e0, vp_updL]
    rw [el]
    refine W.lcmp hx hb dL_law_334 ?_
    rw [lg_self]
    refine lv_if_eq (tgt := 340) hx hb dL_law_335 (by decide) (fun _ => ?_) (fun h => absurd rfl h)
    refine lv_goto (tgt := 865) hx hb dL_law_340 (by decide) ?_
    exact kk _ _ _ hP hS (lv_sub hl [2, 3, 4, 5, 6] rfl)
set_option maxHeartbeats 8000000 in
set_option maxRecDepth 100000 in
theorem lc_3 {p : Program} {l : Launch} {e : Env} {s : State} {m : MethodId} {below : List Frame} {meth : Method} {c : Code} {Q : State → Prop} {b Ln : Nat} {xs : Nat → Int32} (hx : p.tables.exec = Jvm.exec) (hb : c.code = cL_law) (hml : c.maxLocals = 7) (hown : s.vm.findClass RL = some m.cls) (hts : ∀ w ∈ wsL_law, w.before #[Value.ref b] s = true) (hst : l.stackTraces = false) (hX : va_X b Ln xs s s.heap) (hbl : b < s.heap.size) {D : va_G} {E : mk_E} (hbA : ¬ mk_A E b) (hK : va_K D vwCl (mk_tys E) s) (hD : ∀ (M : mk_M) (L : Nat → Int64), va_D (mk_A E) (mk_wl E M L)) (hN : mk_Nst s) (hT : mk_T E s) (hC : mk_NC s) {cells slots : Nat} (hcl : cells + 1 ≤ 601024) (hsl : slots + 6 ≤ 7293034) {x4 : Int32} {M : mk_M} {L : Nat → Int64} {q r : Int32 × mk_M} (h1 : f_X5_tick M = some q) (h2 : f_X6_tick q.2 = some r) (h3 : q.1 = r.1) {H : Heap} {locs : List Loc} {ls : Array Slot} (hP : va_P D vwCl (mk_wl E M L) H) (hS : va_S (mk_A E) s.heap H locs) (hl : lv_has ls 7 [(0, .ref b), (1, .ref (E.1 0)), (2, .ref (E.1 68)), (3, .ref (E.1 93)), (4, .int x4)]) (kk : ∀ (H : Heap) (locs : List Loc) (ls : Array Slot), va_P D vwCl (mk_wl E r.2 L) H → va_S (mk_A E) s.heap H locs → lv_has ls 7 [(0, .ref b), (1, .ref (E.1 0)), (2, .ref (E.1 68)), (3, .ref (E.1 93)), (4, .int x4)] → W p l e room_1 s m #[Value.ref b] below meth c H locs (cells + 1) (slots + 6) Q (F0 m 865 ls [])) : W p l e room_1 s m #[Value.ref b] below meth c H locs cells slots Q (F0 m 343 ls []) := by
  refine lv_aload_n hx hb dL_law_343 rfl (lv_at hl 1 rfl) ?_
  refine va_calli (va_runV (As := []) (rest := []) ⟨hx, hb, hml, hown, hts⟩ (c_X5_tick l D E L  M h1) (cwV 0 hts gL_law_X5_tick rfl rfl rfl (by decide +kernel) ⟨Nat.le_of_ble_eq_true rfl, Nat.le_of_ble_eq_true rfl⟩) ⟨mk_W.blind, mk_rc5 hK hP (by decide) rfl, fun U hU hW => ⟨rfl, mk_W.at hU hW hP hK (hD _ _) hN⟩⟩ rfl rfl hl.1 rfl (lv_room (Nat.le_of_ble_eq_true rfl)) dL_law_344 ⟨by show cells + 0 ≤ 601024; omega, by show slots + 0 ≤ 7293034; omega⟩) hS (fun q _ h => h) (fun q h => h) (fun v2 u t H1 locs ht hvm hw hB hz1 hk1 hS => ?_)
  subst v2
  rw [ht] at hB
  replace hP := hB
  clear hB hz1 hk1 hvm ht
  generalize H1 = H at hP hS ⊢
  refine lv_aload_n hx hb dL_law_347 rfl (lv_at hl 2 rfl) ?_
  refine va_calli (va_runV (As := []) (rest := [.int q.1]) ⟨hx, hb, hml, hown, hts⟩ (c_X6_tick l D E L  q.2 h2) (cwV 0 hts gL_law_X6_tick rfl rfl rfl (by decide +kernel) ⟨Nat.le_of_ble_eq_true rfl, Nat.le_of_ble_eq_true rfl⟩) ⟨mk_W.blind, mk_rc6 hK hP (by decide) rfl, fun U hU hW => ⟨rfl, mk_W.at hU hW hP hK (hD _ _) hN⟩⟩ rfl rfl hl.1 rfl (lv_room (Nat.le_of_ble_eq_true rfl)) dL_law_348 ⟨by show cells + 0 + 0 ≤ 601024; omega, by show slots + 0 + 0 ≤ 7293034; omega⟩) hS (fun q _ h => h) (fun q h => h) (fun v2 u t H1 locs ht hvm hw hB hz1 hk1 hS => ?_)
  subst v2
  rw [ht] at hB
  replace hP := hB
  clear hB hz1 hk1 hvm ht
  generalize H1 = H at hP hS ⊢
  refine lv_icmp_eq (tgt := 865) hx hb dL_law_351 (by decide) (fun _ => ?_) (fun h => absurd h3 h)
  refine W.widen (k := cells + 1) (n := slots + 6) (by omega) (by omega) ?_
  exact kk _ _ _ hP hS hl
theorem fx_L_run {q : (Nat × Int32) × mk_M} {L : Nat → Int64} (hq : q.1.1 = 0 ∨ q.1.1 = 1) (h : fc_L_run q = 0) : q.1.1 = 0 := by
  rcases hq with hq | hq
  · exact hq
  · simp [fc_L_run, hq] at h
set_option maxHeartbeats 8000000 in
set_option maxRecDepth 100000 in
theorem lc_4 {p : Program} {l : Launch} {e : Env} {s : State} {m : MethodId} {below : List Frame} {meth : Method} {c : Code} {Q : State → Prop} {b Ln : Nat} {xs : Nat → Int32} (hx : p.tables.exec = Jvm.exec) (hb : c.code = cL_law) (hml : c.maxLocals = 7) (hown : s.vm.findClass RL = some m.cls) (hts : ∀ w ∈ wsL_law, w.before #[Value.ref b] s = true) (hst : l.stackTraces = false) (hX : va_X b Ln xs s s.heap) (hbl : b < s.heap.size) {D : va_G} {E : mk_E} (hbA : ¬ mk_A E b) (hK : va_K D vwCl (mk_tys E) s) (hD : ∀ (M : mk_M) (L : Nat → Int64), va_D (mk_A E) (mk_wl E M L)) (hN : mk_Nst s) (hT : mk_T E s) (hC : mk_NC s) {cells slots : Nat} (hcl : cells + 1 ≤ 601024) (hsl : slots + 6 ≤ 7293034) {x4 : Int32} (hi1 : vp_in (x4 + 1) Ln) {M : mk_M} {L : Nat → Int64} {q : (Nat × Int32) × mk_M} {r : Int32 × mk_M} (h1 : f_X5_run (xs (x4 + 1).toNatClampNeg) M = some q) (hq : q.1.1 = 0 ∨ q.1.1 = 1) (h2 : f_X6_run (xs (x4 + 1).toNatClampNeg) q.2 = some r) (h3 : r.2 68 0 = fc_L_run q) (h4 : fc_L_run q = 0 → q.1.2 = r.1) {H : Heap} {locs : List Loc} {ls : Array Slot} (hP : va_P D vwCl (mk_wl E M L) H) (hS : va_S (mk_A E) s.heap H locs) (hl : lv_has ls 7 [(0, .ref b), (1, .ref (E.1 0)), (2, .ref (E.1 68)), (3, .ref (E.1 93)), (4, .int x4)]) (kk : ∀ (H : Heap) (locs : List Loc) (ls : Array Slot), va_P D vwCl (mk_wl E r.2 (fl_L_run q L)) H → va_S (mk_A E) s.heap H locs → lv_has ls 7 [(0, .ref b), (1, .ref (E.1 0)), (2, .ref (E.1 68)), (3, .ref (E.1 93)), (4, .int x4)] → W p l e room_1 s m #[Value.ref b] below meth c H locs (cells + 1) (slots + 6) Q (F0 m 865 ls [])) : W p l e room_1 s m #[Value.ref b] below meth c H locs cells slots Q (F0 m 356 ls []) := by
  refine lv_aload_n hx hb dL_law_356 rfl (lv_at hl 1 rfl) ?_
  refine lv_aload_n hx hb dL_law_357 rfl (lv_at hl 0 rfl) ?_
  refine lv_iload hx hb dL_law_358 (lv_at hl 4 rfl) ?_
  refine lv_iconst (v := 1) hx hb dL_law_360 (by decide) ?_
  refine lv_iadd hx hb dL_law_361 ?_
  refine va_sld hx hb hX hbl hbA hS hi1 dL_law_362 ?_
  refine lv_aload_n hx hb dL_law_363 rfl (lv_at hl 3 rfl) ?_
  refine va_calli (vx_runSW (As := [.ref (E.1 0), .int (xs (x4 + 1).toNatClampNeg), .ref (E.1 93)]) (rest := []) ⟨hx, hb, hml, hown, hts⟩ (c_L_run l hst D E L (xs (x4 + 1).toNatClampNeg) M h1 hq) (vx_cwSW 3 hts gL_law_L_run rfl rfl rfl (by decide +kernel) ⟨Nat.le_of_ble_eq_true rfl, Nat.le_of_ble_eq_true rfl⟩) ⟨mk_WC.blind, fun U hU hW => ⟨rfl, ⟨mk_W.at hU hW hP hK (hD _ _) hN, hT.at hS hU hW⟩, hC.moved hW.alike⟩⟩ rfl rfl hl.1 rfl (lv_room (Nat.le_of_ble_eq_true rfl)) dL_law_364 ⟨hcl, hsl⟩) hS (fun q _ h => h) (fun q h => h) (fun v1 u t H1 locs ht hvm hw hB hz1 hk1 hS => ?_)
  subst v1
  rw [ht] at hB
  replace hP := hB
  clear hB hz1 hk1 hvm ht
  generalize H1 = H at hP hS ⊢
  refine lv_istore (lv' := [(5, .int (fc_L_run q)), (0, .ref b), (1, .ref (E.1 0)), (2, .ref (E.1 68)), (3, .ref (E.1 93)), (4, .int x4)]) hx hb dL_law_367 hl (by decide) rfl (fun ls hl => ?_)
  refine lv_aload_n hx hb dL_law_369 rfl (lv_at hl 3 rfl) ?_
  refine lv_aload_n hx hb dL_law_370 rfl (lv_at hl 1 rfl) ?_
  refine lv_iload hx hb dL_law_371 (lv_at hl 5 rfl) ?_
  refine lv_iconst (v := 1) hx hb dL_law_373 (by decide) ?_
  refine lv_iadd hx hb dL_law_374 ?_
  refine va_sld hx hb hX hbl hbA hS hi1 dL_law_375 ?_
  refine va_calli (va_runV (As := [.int (xs (x4 + 1).toNatClampNeg)]) (rest := []) ⟨hx, hb, hml, hown, hts⟩ (c_X6_run l D E (fl_L_run q L) (xs (x4 + 1).toNatClampNeg) q.2 h2) (cwV 1 hts gL_law_X6_run rfl rfl rfl (by decide +kernel) ⟨Nat.le_of_ble_eq_true rfl, Nat.le_of_ble_eq_true rfl⟩) ⟨mk_W.blind, mk_rc6 hK hP (by decide) rfl, fun U hU hW => ⟨rfl, mk_W.at hU hW hP hK (hD _ _) hN⟩⟩ rfl rfl hl.1 rfl (lv_room (Nat.le_of_ble_eq_true rfl)) dL_law_376 ⟨by show cells + 1 + 0 ≤ 601024; omega, by show slots + 6 + 0 ≤ 7293034; omega⟩) hS (fun q _ h => h) (fun q h => h) (fun v2 u t H1 locs ht hvm hw hB hz1 hk1 hS => ?_)
  subst v2
  rw [ht] at hB
  replace hP := hB
  clear hB hz1 hk1 hvm ht
  generalize H1 = H at hP hS ⊢
  refine lv_istore (lv' := [(6, .int r.1), (5, .int (fc_L_run q)), (0, .ref b), (1, .ref (E.1 0)), (2, .ref (E.1 68)), (3, .ref (E.1 93)), (4, .int x4)]) hx hb dL_law_379 hl (by decide) rfl (fun ls hl => ?_)
  refine lv_aload_n hx hb dL_law_381 rfl (lv_at hl 4 rfl) ?_
  refine va_calli (va_runV (As := []) (rest := []) ⟨hx, hb, hml, hown, hts⟩ (c_X6_thrown l D E (fl_L_run q L) r.2 (q := r.2 68 0) rfl) (cwV 0 hts gL_law_X6_thrown rfl rfl rfl (by decide +kernel) ⟨Nat.le_of_ble_eq_true rfl, Nat.le_of_ble_eq_true rfl⟩) ⟨mk_W.blind, mk_rc6 hK hP (by decide) rfl, fun U hU hW => ⟨rfl, mk_W.at hU hW hP hK (hD _ _) hN⟩⟩ rfl rfl hl.1 rfl (lv_room (Nat.le_of_ble_eq_true rfl)) dL_law_382 ⟨by show cells + 1 + 0 + 0 ≤ 601024; exact hcl, by show slots + 6 + 0 + 0 ≤ 7293034; exact hsl⟩) hS (fun q _ h => h) (fun q h => h) (fun v3 u t H1 locs ht hvm hw hB hz1 hk1 hS => ?_)
  subst v3
  rw [ht] at hB
  replace hP := hB
  clear hB hz1 hk1 hvm ht
  generalize H1 = H at hP hS ⊢
  refine lv_iload hx hb dL_law_385 (lv_at hl 1 rfl) ?_
  refine lv_icmp_eq (tgt := 392) hx hb dL_law_387 (by decide) (fun _ => ?_) (fun h => absurd h3 h)
  refine lv_iload hx hb dL_law_392 (lv_at hl 1 rfl) ?_
  refine lv_if_ne (tgt := 409) hx hb dL_law_394 (by decide) (fun _ => ?_) (fun c0 => ?_)
  · refine lv_goto (tgt := 865) hx hb dL_law_409 (by decide) ?_
    exact kk _ _ _ hP hS (lv_sub hl [2, 3, 4, 5, 6] rfl)
  · have e0 := fx_L_run (L := L) hq c0
    refine lv_aload_n hx hb dL_law_397 rfl (lv_at hl 5 rfl) ?_
    refine lv_iconst (v := 0) hx hb dL_law_398 (by decide) ?_
    refine mk_ll hx hb hK hP dL_law_399 ?_
    refine lv_iload hx hb dL_law_400 (lv_at hl 0 rfl) ?_
    refine lv_i2l hx hb dL_law_402 rfl ?_
    have el : fl_L_run q L 0 = (r.1).toInt64 := by rw [← h4 c0]; simp [fl_L_run, e0, vp_updL]
    rw [el]
    refine W.lcmp hx hb dL_law_403 ?_
    rw [lg_self]
    refine lv_if_eq (tgt := 409) hx hb dL_law_404 (by decide) (fun _ => ?_) (fun h => absurd rfl h)
    refine lv_goto (tgt := 865) hx hb dL_law_409 (by decide) ?_
    exact kk _ _ _ hP hS (lv_sub hl [2, 3, 4, 5, 6] rfl)
set_option maxHeartbeats 8000000 in
set_option maxRecDepth 100000 in
theorem lc_5 {p : Program} {l : Launch} {e : Env} {s : State} {m : MethodId} {below : List Frame} {meth : Method} {c : Code} {Q : State → Prop} {b Ln : Nat} {xs : Nat → Int32} (hx : p.tables.exec = Jvm.exec) (hb : c.code = cL_law) (hml : c.maxLocals = 7) (hown : s.vm.findClass RL = some m.cls) (hts : ∀ w ∈ wsL_law, w.before #[Value.ref b] s = true) (hst : l.stackTraces = false) (hX : va_X b Ln xs s s.heap) (hbl : b < s.heap.size) {D : va_G} {E : mk_E} (hbA : ¬ mk_A E b) (hK : va_K D vwCl (mk_tys E) s) (hD : ∀ (M : mk_M) (L : Nat → Int64), va_D (mk_A E) (mk_wl E M L)) (hN : mk_Nst s) (hT : mk_T E s) (hC : mk_NC s) {cells slots : Nat} (hcl : cells + 1 ≤ 601024) (hsl : slots + 6 ≤ 7293034) {x4 : Int32} {M : mk_M} {L : Nat → Int64} {q r : Int32 × mk_M} (h1 : f_X5_assign M = some q) (h2 : f_X6_assign q.2 = some r) (h3 : q.1 = r.1) {H : Heap} {locs : List Loc} {ls : Array Slot} (hP : va_P D vwCl (mk_wl E M L) H) (hS : va_S (mk_A E) s.heap H locs) (hl : lv_has ls 7 [(0, .ref b), (1, .ref (E.1 0)), (2, .ref (E.1 68)), (3, .ref (E.1 93)), (4, .int x4)]) (kk : ∀ (H : Heap) (locs : List Loc) (ls : Array Slot), va_P D vwCl (mk_wl E r.2 L) H → va_S (mk_A E) s.heap H locs → lv_has ls 7 [(0, .ref b), (1, .ref (E.1 0)), (2, .ref (E.1 68)), (3, .ref (E.1 93)), (4, .int x4)] → W p l e room_1 s m #[Value.ref b] below meth c H locs (cells + 1) (slots + 6) Q (F0 m 865 ls [])) : W p l e room_1 s m #[Value.ref b] below meth c H locs cells slots Q (F0 m 412 ls []) := by
  refine lv_aload_n hx hb dL_law_412 rfl (lv_at hl 1 rfl) ?_
  refine va_calli (va_runV (As := []) (rest := []) ⟨hx, hb, hml, hown, hts⟩ (c_X5_assign l D E L  M h1) (cwV 0 hts gL_law_X5_assign rfl rfl rfl (by decide +kernel) ⟨Nat.le_of_ble_eq_true rfl, Nat.le_of_ble_eq_true rfl⟩) ⟨mk_W.blind, mk_rc5 hK hP (by decide) rfl, fun U hU hW => ⟨rfl, mk_W.at hU hW hP hK (hD _ _) hN⟩⟩ rfl rfl hl.1 rfl (lv_room (Nat.le_of_ble_eq_true rfl)) dL_law_413 ⟨by show cells + 0 ≤ 601024; omega, by show slots + 0 ≤ 7293034; omega⟩) hS (fun q _ h => h) (fun q h => h) (fun v2 u t H1 locs ht hvm hw hB hz1 hk1 hS => ?_)
  subst v2
  rw [ht] at hB
  replace hP := hB
  clear hB hz1 hk1 hvm ht
  generalize H1 = H at hP hS ⊢
  refine lv_aload_n hx hb dL_law_416 rfl (lv_at hl 2 rfl) ?_
  refine va_calli (va_runV (As := []) (rest := [.int q.1]) ⟨hx, hb, hml, hown, hts⟩ (c_X6_assign l D E L  q.2 h2) (cwV 0 hts gL_law_X6_assign rfl rfl rfl (by decide +kernel) ⟨Nat.le_of_ble_eq_true rfl, Nat.le_of_ble_eq_true rfl⟩) ⟨mk_W.blind, mk_rc6 hK hP (by decide) rfl, fun U hU hW => ⟨rfl, mk_W.at hU hW hP hK (hD _ _) hN⟩⟩ rfl rfl hl.1 rfl (lv_room (Nat.le_of_ble_eq_true rfl)) dL_law_417 ⟨by show cells + 0 + 0 ≤ 601024; omega, by show slots + 0 + 0 ≤ 7293034; omega⟩) hS (fun q _ h => h) (fun q h => h) (fun v2 u t H1 locs ht hvm hw hB hz1 hk1 hS => ?_)
  subst v2
  rw [ht] at hB
  replace hP := hB
  clear hB hz1 hk1 hvm ht
  generalize H1 = H at hP hS ⊢
  refine lv_icmp_eq (tgt := 865) hx hb dL_law_420 (by decide) (fun _ => ?_) (fun h => absurd h3 h)
  refine W.widen (k := cells + 1) (n := slots + 6) (by omega) (by omega) ?_
  exact kk _ _ _ hP hS hl
theorem fx_L_response {q : (Nat × Int32) × mk_M} {L : Nat → Int64} (hq : q.1.1 = 0 ∨ q.1.1 = 3 ∨ q.1.1 = 1) (h : fc_L_response q = 0) : q.1.1 = 0 := by
  rcases hq with hq | hq | hq
  · exact hq
  · simp [fc_L_response, hq] at h
  · simp [fc_L_response, hq] at h
set_option maxHeartbeats 8000000 in
set_option maxRecDepth 100000 in
theorem lc_6 {p : Program} {l : Launch} {e : Env} {s : State} {m : MethodId} {below : List Frame} {meth : Method} {c : Code} {Q : State → Prop} {b Ln : Nat} {xs : Nat → Int32} (hx : p.tables.exec = Jvm.exec) (hb : c.code = cL_law) (hml : c.maxLocals = 7) (hown : s.vm.findClass RL = some m.cls) (hts : ∀ w ∈ wsL_law, w.before #[Value.ref b] s = true) (hst : l.stackTraces = false) (hX : va_X b Ln xs s s.heap) (hbl : b < s.heap.size) {D : va_G} {E : mk_E} (hbA : ¬ mk_A E b) (hK : va_K D vwCl (mk_tys E) s) (hD : ∀ (M : mk_M) (L : Nat → Int64), va_D (mk_A E) (mk_wl E M L)) (hN : mk_Nst s) (hT : mk_T E s) (hC : mk_NC s) {cells slots : Nat} (hcl : cells + 1 ≤ 601024) (hsl : slots + 6 ≤ 7293034) {x4 : Int32} (hi1 : vp_in (x4 + 1) Ln) (hi2 : vp_in (x4 + 2) Ln) {M : mk_M} {L : Nat → Int64} {q : (Nat × Int32) × mk_M} {r : Int32 × mk_M} (h1 : f_X5_response (xs (x4 + 1).toNatClampNeg) (xs (x4 + 2).toNatClampNeg) M = some q) (hq : q.1.1 = 0 ∨ q.1.1 = 3 ∨ q.1.1 = 1) (h2 : f_X6_response (xs (x4 + 1).toNatClampNeg) (xs (x4 + 2).toNatClampNeg) q.2 = some r) (h3 : r.2 68 0 = fc_L_response q) (h4 : fc_L_response q = 0 → q.1.2 = r.1) {H : Heap} {locs : List Loc} {ls : Array Slot} (hP : va_P D vwCl (mk_wl E M L) H) (hS : va_S (mk_A E) s.heap H locs) (hl : lv_has ls 7 [(0, .ref b), (1, .ref (E.1 0)), (2, .ref (E.1 68)), (3, .ref (E.1 93)), (4, .int x4)]) (kk : ∀ (H : Heap) (locs : List Loc) (ls : Array Slot), va_P D vwCl (mk_wl E r.2 (fl_L_response q L)) H → va_S (mk_A E) s.heap H locs → lv_has ls 7 [(0, .ref b), (1, .ref (E.1 0)), (2, .ref (E.1 68)), (3, .ref (E.1 93)), (4, .int x4)] → W p l e room_1 s m #[Value.ref b] below meth c H locs (cells + 1) (slots + 6) Q (F0 m 865 ls [])) : W p l e room_1 s m #[Value.ref b] below meth c H locs cells slots Q (F0 m 425 ls []) := by
  refine lv_aload_n hx hb dL_law_425 rfl (lv_at hl 1 rfl) ?_
  refine lv_aload_n hx hb dL_law_426 rfl (lv_at hl 0 rfl) ?_
  refine lv_iload hx hb dL_law_427 (lv_at hl 4 rfl) ?_
  refine lv_iconst (v := 1) hx hb dL_law_429 (by decide) ?_
  refine lv_iadd hx hb dL_law_430 ?_
  refine va_sld hx hb hX hbl hbA hS hi1 dL_law_431 ?_
  refine lv_aload_n hx hb dL_law_432 rfl (lv_at hl 0 rfl) ?_
  refine lv_iload hx hb dL_law_433 (lv_at hl 4 rfl) ?_
  refine lv_iconst (v := 2) hx hb dL_law_435 (by decide) ?_
  refine lv_iadd hx hb dL_law_436 ?_
  refine va_sld hx hb hX hbl hbA hS hi2 dL_law_437 ?_
  refine lv_aload_n hx hb dL_law_438 rfl (lv_at hl 3 rfl) ?_
  refine va_calli (vx_runSW (As := [.ref (E.1 0), .int (xs (x4 + 1).toNatClampNeg), .int (xs (x4 + 2).toNatClampNeg), .ref (E.1 93)]) (rest := []) ⟨hx, hb, hml, hown, hts⟩ (c_L_response l hst D E L (xs (x4 + 1).toNatClampNeg) (xs (x4 + 2).toNatClampNeg) M h1 hq) (vx_cwSW 4 hts gL_law_L_response rfl rfl rfl (by decide +kernel) ⟨Nat.le_of_ble_eq_true rfl, Nat.le_of_ble_eq_true rfl⟩) ⟨mk_WC.blind, fun U hU hW => ⟨rfl, ⟨mk_W.at hU hW hP hK (hD _ _) hN, hT.at hS hU hW⟩, hC.moved hW.alike⟩⟩ rfl rfl hl.1 rfl (lv_room (Nat.le_of_ble_eq_true rfl)) dL_law_439 ⟨hcl, hsl⟩) hS (fun q _ h => h) (fun q h => h) (fun v1 u t H1 locs ht hvm hw hB hz1 hk1 hS => ?_)
  subst v1
  rw [ht] at hB
  replace hP := hB
  clear hB hz1 hk1 hvm ht
  generalize H1 = H at hP hS ⊢
  refine lv_istore (lv' := [(5, .int (fc_L_response q)), (0, .ref b), (1, .ref (E.1 0)), (2, .ref (E.1 68)), (3, .ref (E.1 93)), (4, .int x4)]) hx hb dL_law_442 hl (by decide) rfl (fun ls hl => ?_)
  refine lv_aload_n hx hb dL_law_444 rfl (lv_at hl 3 rfl) ?_
  refine lv_aload_n hx hb dL_law_445 rfl (lv_at hl 1 rfl) ?_
  refine lv_iload hx hb dL_law_446 (lv_at hl 5 rfl) ?_
  refine lv_iconst (v := 1) hx hb dL_law_448 (by decide) ?_
  refine lv_iadd hx hb dL_law_449 ?_
  refine va_sld hx hb hX hbl hbA hS hi1 dL_law_450 ?_
  refine lv_aload_n hx hb dL_law_451 rfl (lv_at hl 1 rfl) ?_
  refine lv_iload hx hb dL_law_452 (lv_at hl 5 rfl) ?_
  refine lv_iconst (v := 2) hx hb dL_law_454 (by decide) ?_
  refine lv_iadd hx hb dL_law_455 ?_
  refine va_sld hx hb hX hbl hbA hS hi2 dL_law_456 ?_
  refine va_calli (va_runV (As := [.int (xs (x4 + 1).toNatClampNeg), .int (xs (x4 + 2).toNatClampNeg)]) (rest := []) ⟨hx, hb, hml, hown, hts⟩ (c_X6_response l D E (fl_L_response q L) (xs (x4 + 1).toNatClampNeg) (xs (x4 + 2).toNatClampNeg) q.2 h2) (cwV 2 hts gL_law_X6_response rfl rfl rfl (by decide +kernel) ⟨Nat.le_of_ble_eq_true rfl, Nat.le_of_ble_eq_true rfl⟩) ⟨mk_W.blind, mk_rc6 hK hP (by decide) rfl, fun U hU hW => ⟨rfl, mk_W.at hU hW hP hK (hD _ _) hN⟩⟩ rfl rfl hl.1 rfl (lv_room (Nat.le_of_ble_eq_true rfl)) dL_law_457 ⟨by show cells + 1 + 0 ≤ 601024; omega, by show slots + 6 + 0 ≤ 7293034; omega⟩) hS (fun q _ h => h) (fun q h => h) (fun v2 u t H1 locs ht hvm hw hB hz1 hk1 hS => ?_)
  subst v2
  rw [ht] at hB
  replace hP := hB
  clear hB hz1 hk1 hvm ht
  generalize H1 = H at hP hS ⊢
  refine lv_istore (lv' := [(6, .int r.1), (5, .int (fc_L_response q)), (0, .ref b), (1, .ref (E.1 0)), (2, .ref (E.1 68)), (3, .ref (E.1 93)), (4, .int x4)]) hx hb dL_law_460 hl (by decide) rfl (fun ls hl => ?_)
  refine lv_aload_n hx hb dL_law_462 rfl (lv_at hl 4 rfl) ?_
  refine va_calli (va_runV (As := []) (rest := []) ⟨hx, hb, hml, hown, hts⟩ (c_X6_thrown l D E (fl_L_response q L) r.2 (q := r.2 68 0) rfl) (cwV 0 hts gL_law_X6_thrown rfl rfl rfl (by decide +kernel) ⟨Nat.le_of_ble_eq_true rfl, Nat.le_of_ble_eq_true rfl⟩) ⟨mk_W.blind, mk_rc6 hK hP (by decide) rfl, fun U hU hW => ⟨rfl, mk_W.at hU hW hP hK (hD _ _) hN⟩⟩ rfl rfl hl.1 rfl (lv_room (Nat.le_of_ble_eq_true rfl)) dL_law_463 ⟨by show cells + 1 + 0 + 0 ≤ 601024; exact hcl, by show slots + 6 + 0 + 0 ≤ 7293034; exact hsl⟩) hS (fun q _ h => h) (fun q h => h) (fun v3 u t H1 locs ht hvm hw hB hz1 hk1 hS => ?_)
  subst v3
  rw [ht] at hB
  replace hP := hB
  clear hB hz1 hk1 hvm ht
  generalize H1 = H at hP hS ⊢
  refine lv_iload hx hb dL_law_466 (lv_at hl 1 rfl) ?_
  refine lv_icmp_eq (tgt := 473) hx hb dL_law_468 (by decide) (fun _ => ?_) (fun h => absurd h3 h)
  refine lv_iload hx hb dL_law_473 (lv_at hl 1 rfl) ?_
  refine lv_if_ne (tgt := 490) hx hb dL_law_475 (by decide) (fun _ => ?_) (fun c0 => ?_)
  · refine lv_goto (tgt := 865) hx hb dL_law_490 (by decide) ?_
    exact kk _ _ _ hP hS (lv_sub hl [2, 3, 4, 5, 6] rfl)
  · have e0 := fx_L_response (L := L) hq c0
    refine lv_aload_n hx hb dL_law_478 rfl (lv_at hl 5 rfl) ?_
    refine lv_iconst (v := 0) hx hb dL_law_479 (by decide) ?_
    refine mk_ll hx hb hK hP dL_law_480 ?_
    refine lv_iload hx hb dL_law_481 (lv_at hl 0 rfl) ?_
    refine lv_i2l hx hb dL_law_483 rfl ?_
    have el : fl_L_response q L 0 = (r.1).toInt64 := by rw [← h4 c0]; simp [fl_L_response, e0, vp_updL]
    rw [el]
    refine W.lcmp hx hb dL_law_484 ?_
    rw [lg_self]
    refine lv_if_eq (tgt := 490) hx hb dL_law_485 (by decide) (fun _ => ?_) (fun h => absurd rfl h)
    refine lv_goto (tgt := 865) hx hb dL_law_490 (by decide) ?_
    exact kk _ _ _ hP hS (lv_sub hl [2, 3, 4, 5, 6] rfl)
theorem fx_L_ended {q : (Nat × Int32) × mk_M} {L : Nat → Int64} (hq : q.1.1 = 0 ∨ q.1.1 = 3) (h : fc_L_ended q = 0) : q.1.1 = 0 := by
  rcases hq with hq | hq
  · exact hq
  · simp [fc_L_ended, hq] at h
set_option maxHeartbeats 8000000 in
set_option maxRecDepth 100000 in
theorem lc_7 {p : Program} {l : Launch} {e : Env} {s : State} {m : MethodId} {below : List Frame} {meth : Method} {c : Code} {Q : State → Prop} {b Ln : Nat} {xs : Nat → Int32} (hx : p.tables.exec = Jvm.exec) (hb : c.code = cL_law) (hml : c.maxLocals = 7) (hown : s.vm.findClass RL = some m.cls) (hts : ∀ w ∈ wsL_law, w.before #[Value.ref b] s = true) (hst : l.stackTraces = false) (hX : va_X b Ln xs s s.heap) (hbl : b < s.heap.size) {D : va_G} {E : mk_E} (hbA : ¬ mk_A E b) (hK : va_K D vwCl (mk_tys E) s) (hD : ∀ (M : mk_M) (L : Nat → Int64), va_D (mk_A E) (mk_wl E M L)) (hN : mk_Nst s) (hT : mk_T E s) (hC : mk_NC s) {cells slots : Nat} (hcl : cells + 1 ≤ 601024) (hsl : slots + 6 ≤ 7293034) {x4 : Int32} (hi1 : vp_in (x4 + 1) Ln) (hi2 : vp_in (x4 + 2) Ln) {M : mk_M} {L : Nat → Int64} {q : (Nat × Int32) × mk_M} {r : Int32 × mk_M} (h1 : f_X5_ended (xs (x4 + 1).toNatClampNeg) (xs (x4 + 2).toNatClampNeg) M = some q) (hq : q.1.1 = 0 ∨ q.1.1 = 3) (h2 : f_X6_ended (xs (x4 + 1).toNatClampNeg) (xs (x4 + 2).toNatClampNeg) q.2 = some r) (h3 : r.2 68 0 = fc_L_ended q) (h4 : fc_L_ended q = 0 → q.1.2 = r.1) {H : Heap} {locs : List Loc} {ls : Array Slot} (hP : va_P D vwCl (mk_wl E M L) H) (hS : va_S (mk_A E) s.heap H locs) (hl : lv_has ls 7 [(0, .ref b), (1, .ref (E.1 0)), (2, .ref (E.1 68)), (3, .ref (E.1 93)), (4, .int x4)]) (kk : ∀ (H : Heap) (locs : List Loc) (ls : Array Slot), va_P D vwCl (mk_wl E r.2 (fl_L_ended q L)) H → va_S (mk_A E) s.heap H locs → lv_has ls 7 [(0, .ref b), (1, .ref (E.1 0)), (2, .ref (E.1 68)), (3, .ref (E.1 93)), (4, .int x4)] → W p l e room_1 s m #[Value.ref b] below meth c H locs (cells + 1) (slots + 6) Q (F0 m 865 ls [])) : W p l e room_1 s m #[Value.ref b] below meth c H locs cells slots Q (F0 m 493 ls []) := by
  refine lv_aload_n hx hb dL_law_493 rfl (lv_at hl 1 rfl) ?_
  refine lv_aload_n hx hb dL_law_494 rfl (lv_at hl 0 rfl) ?_
  refine lv_iload hx hb dL_law_495 (lv_at hl 4 rfl) ?_
  refine lv_iconst (v := 1) hx hb dL_law_497 (by decide) ?_
  refine lv_iadd hx hb dL_law_498 ?_
  refine va_sld hx hb hX hbl hbA hS hi1 dL_law_499 ?_
  refine lv_aload_n hx hb dL_law_500 rfl (lv_at hl 0 rfl) ?_
  refine lv_iload hx hb dL_law_501 (lv_at hl 4 rfl) ?_
  refine lv_iconst (v := 2) hx hb dL_law_503 (by decide) ?_
  refine lv_iadd hx hb dL_law_504 ?_
  refine va_sld hx hb hX hbl hbA hS hi2 dL_law_505 ?_
  refine lv_aload_n hx hb dL_law_506 rfl (lv_at hl 3 rfl) ?_
  refine va_calli (vx_runSW (As := [.ref (E.1 0), .int (xs (x4 + 1).toNatClampNeg), .int (xs (x4 + 2).toNatClampNeg), .ref (E.1 93)]) (rest := []) ⟨hx, hb, hml, hown, hts⟩ (c_L_ended l hst D E L (xs (x4 + 1).toNatClampNeg) (xs (x4 + 2).toNatClampNeg) M h1 hq) (vx_cwSW 4 hts gL_law_L_ended rfl rfl rfl (by decide +kernel) ⟨Nat.le_of_ble_eq_true rfl, Nat.le_of_ble_eq_true rfl⟩) ⟨mk_WC.blind, fun U hU hW => ⟨rfl, ⟨mk_W.at hU hW hP hK (hD _ _) hN, hT.at hS hU hW⟩, hC.moved hW.alike⟩⟩ rfl rfl hl.1 rfl (lv_room (Nat.le_of_ble_eq_true rfl)) dL_law_507 ⟨hcl, hsl⟩) hS (fun q _ h => h) (fun q h => h) (fun v1 u t H1 locs ht hvm hw hB hz1 hk1 hS => ?_)
  subst v1
  rw [ht] at hB
  replace hP := hB
  clear hB hz1 hk1 hvm ht
  generalize H1 = H at hP hS ⊢
  refine lv_istore (lv' := [(5, .int (fc_L_ended q)), (0, .ref b), (1, .ref (E.1 0)), (2, .ref (E.1 68)), (3, .ref (E.1 93)), (4, .int x4)]) hx hb dL_law_510 hl (by decide) rfl (fun ls hl => ?_)
  refine lv_aload_n hx hb dL_law_512 rfl (lv_at hl 3 rfl) ?_
  refine lv_aload_n hx hb dL_law_513 rfl (lv_at hl 1 rfl) ?_
  refine lv_iload hx hb dL_law_514 (lv_at hl 5 rfl) ?_
  refine lv_iconst (v := 1) hx hb dL_law_516 (by decide) ?_
  refine lv_iadd hx hb dL_law_517 ?_
  refine va_sld hx hb hX hbl hbA hS hi1 dL_law_518 ?_
  refine lv_aload_n hx hb dL_law_519 rfl (lv_at hl 1 rfl) ?_
  refine lv_iload hx hb dL_law_520 (lv_at hl 5 rfl) ?_
  refine lv_iconst (v := 2) hx hb dL_law_522 (by decide) ?_
  refine lv_iadd hx hb dL_law_523 ?_
  refine va_sld hx hb hX hbl hbA hS hi2 dL_law_524 ?_
  refine va_calli (va_runV (As := [.int (xs (x4 + 1).toNatClampNeg), .int (xs (x4 + 2).toNatClampNeg)]) (rest := []) ⟨hx, hb, hml, hown, hts⟩ (c_X6_ended l D E (fl_L_ended q L) (xs (x4 + 1).toNatClampNeg) (xs (x4 + 2).toNatClampNeg) q.2 h2) (cwV 2 hts gL_law_X6_ended rfl rfl rfl (by decide +kernel) ⟨Nat.le_of_ble_eq_true rfl, Nat.le_of_ble_eq_true rfl⟩) ⟨mk_W.blind, mk_rc6 hK hP (by decide) rfl, fun U hU hW => ⟨rfl, mk_W.at hU hW hP hK (hD _ _) hN⟩⟩ rfl rfl hl.1 rfl (lv_room (Nat.le_of_ble_eq_true rfl)) dL_law_525 ⟨by show cells + 1 + 0 ≤ 601024; omega, by show slots + 6 + 0 ≤ 7293034; omega⟩) hS (fun q _ h => h) (fun q h => h) (fun v2 u t H1 locs ht hvm hw hB hz1 hk1 hS => ?_)
  subst v2
  rw [ht] at hB
  replace hP := hB
  clear hB hz1 hk1 hvm ht
  generalize H1 = H at hP hS ⊢
  refine lv_istore (lv' := [(6, .int r.1), (5, .int (fc_L_ended q)), (0, .ref b), (1, .ref (E.1 0)), (2, .ref (E.1 68)), (3, .ref (E.1 93)), (4, .int x4)]) hx hb dL_law_528 hl (by decide) rfl (fun ls hl => ?_)
  refine lv_aload_n hx hb dL_law_530 rfl (lv_at hl 4 rfl) ?_
  refine va_calli (va_runV (As := []) (rest := []) ⟨hx, hb, hml, hown, hts⟩ (c_X6_thrown l D E (fl_L_ended q L) r.2 (q := r.2 68 0) rfl) (cwV 0 hts gL_law_X6_thrown rfl rfl rfl (by decide +kernel) ⟨Nat.le_of_ble_eq_true rfl, Nat.le_of_ble_eq_true rfl⟩) ⟨mk_W.blind, mk_rc6 hK hP (by decide) rfl, fun U hU hW => ⟨rfl, mk_W.at hU hW hP hK (hD _ _) hN⟩⟩ rfl rfl hl.1 rfl (lv_room (Nat.le_of_ble_eq_true rfl)) dL_law_531 ⟨by show cells + 1 + 0 + 0 ≤ 601024; exact hcl, by show slots + 6 + 0 + 0 ≤ 7293034; exact hsl⟩) hS (fun q _ h => h) (fun q h => h) (fun v3 u t H1 locs ht hvm hw hB hz1 hk1 hS => ?_)
  subst v3
  rw [ht] at hB
  replace hP := hB
  clear hB hz1 hk1 hvm ht
  generalize H1 = H at hP hS ⊢
  refine lv_iload hx hb dL_law_534 (lv_at hl 1 rfl) ?_
  refine lv_icmp_eq (tgt := 541) hx hb dL_law_536 (by decide) (fun _ => ?_) (fun h => absurd h3 h)
  refine lv_iload hx hb dL_law_541 (lv_at hl 1 rfl) ?_
  refine lv_if_ne (tgt := 558) hx hb dL_law_543 (by decide) (fun _ => ?_) (fun c0 => ?_)
  · refine lv_goto (tgt := 865) hx hb dL_law_558 (by decide) ?_
    exact kk _ _ _ hP hS (lv_sub hl [2, 3, 4, 5, 6] rfl)
  · have e0 := fx_L_ended (L := L) hq c0
    refine lv_aload_n hx hb dL_law_546 rfl (lv_at hl 5 rfl) ?_
    refine lv_iconst (v := 0) hx hb dL_law_547 (by decide) ?_
    refine mk_ll hx hb hK hP dL_law_548 ?_
    refine lv_iload hx hb dL_law_549 (lv_at hl 0 rfl) ?_
    refine lv_i2l hx hb dL_law_551 rfl ?_
    have el : fl_L_ended q L 0 = (r.1).toInt64 := by rw [← h4 c0]; simp [fl_L_ended, e0, vp_updL]
    rw [el]
    refine W.lcmp hx hb dL_law_552 ?_
    rw [lg_self]
    refine lv_if_eq (tgt := 558) hx hb dL_law_553 (by decide) (fun _ => ?_) (fun h => absurd rfl h)
    refine lv_goto (tgt := 865) hx hb dL_law_558 (by decide) ?_
    exact kk _ _ _ hP hS (lv_sub hl [2, 3, 4, 5, 6] rfl)
theorem fx_L_about {q : (Nat × Int32) × mk_M} {L : Nat → Int64} (hq : q.1.1 = 0 ∨ q.1.1 = 3 ∨ q.1.1 = 1) (h : fc_L_about q = 0) : q.1.1 = 0 := by
  rcases hq with hq | hq | hq
  · exact hq
  · simp [fc_L_about, hq] at h
  · simp [fc_L_about, hq] at h
set_option maxHeartbeats 8000000 in
set_option maxRecDepth 100000 in
theorem lc_8 {p : Program} {l : Launch} {e : Env} {s : State} {m : MethodId} {below : List Frame} {meth : Method} {c : Code} {Q : State → Prop} {b Ln : Nat} {xs : Nat → Int32} (hx : p.tables.exec = Jvm.exec) (hb : c.code = cL_law) (hml : c.maxLocals = 7) (hown : s.vm.findClass RL = some m.cls) (hts : ∀ w ∈ wsL_law, w.before #[Value.ref b] s = true) (hst : l.stackTraces = false) (hX : va_X b Ln xs s s.heap) (hbl : b < s.heap.size) {D : va_G} {E : mk_E} (hbA : ¬ mk_A E b) (hK : va_K D vwCl (mk_tys E) s) (hD : ∀ (M : mk_M) (L : Nat → Int64), va_D (mk_A E) (mk_wl E M L)) (hN : mk_Nst s) (hT : mk_T E s) (hC : mk_NC s) {cells slots : Nat} (hcl : cells + 1 ≤ 601024) (hsl : slots + 6 ≤ 7293034) {x4 : Int32} (hi1 : vp_in (x4 + 1) Ln) (hi2 : vp_in (x4 + 2) Ln) {M : mk_M} {L : Nat → Int64} {q : (Nat × Int32) × mk_M} {r : Int32 × mk_M} (h1 : f_X5_about (xs (x4 + 1).toNatClampNeg) (xs (x4 + 2).toNatClampNeg) M = some q) (hq : q.1.1 = 0 ∨ q.1.1 = 3 ∨ q.1.1 = 1) (h2 : f_X6_about (xs (x4 + 1).toNatClampNeg) (xs (x4 + 2).toNatClampNeg) q.2 = some r) (h3 : r.2 68 0 = fc_L_about q) (h4 : fc_L_about q = 0 → q.1.2 = r.1) {H : Heap} {locs : List Loc} {ls : Array Slot} (hP : va_P D vwCl (mk_wl E M L) H) (hS : va_S (mk_A E) s.heap H locs) (hl : lv_has ls 7 [(0, .ref b), (1, .ref (E.1 0)), (2, .ref (E.1 68)), (3, .ref (E.1 93)), (4, .int x4)]) (kk : ∀ (H : Heap) (locs : List Loc) (ls : Array Slot), va_P D vwCl (mk_wl E r.2 (fl_L_about q L)) H → va_S (mk_A E) s.heap H locs → lv_has ls 7 [(0, .ref b), (1, .ref (E.1 0)), (2, .ref (E.1 68)), (3, .ref (E.1 93)), (4, .int x4)] → W p l e room_1 s m #[Value.ref b] below meth c H locs (cells + 1) (slots + 6) Q (F0 m 865 ls [])) : W p l e room_1 s m #[Value.ref b] below meth c H locs cells slots Q (F0 m 561 ls []) := by
  refine lv_aload_n hx hb dL_law_561 rfl (lv_at hl 1 rfl) ?_
  refine lv_aload_n hx hb dL_law_562 rfl (lv_at hl 0 rfl) ?_
  refine lv_iload hx hb dL_law_563 (lv_at hl 4 rfl) ?_
  refine lv_iconst (v := 1) hx hb dL_law_565 (by decide) ?_
  refine lv_iadd hx hb dL_law_566 ?_
  refine va_sld hx hb hX hbl hbA hS hi1 dL_law_567 ?_
  refine lv_aload_n hx hb dL_law_568 rfl (lv_at hl 0 rfl) ?_
  refine lv_iload hx hb dL_law_569 (lv_at hl 4 rfl) ?_
  refine lv_iconst (v := 2) hx hb dL_law_571 (by decide) ?_
  refine lv_iadd hx hb dL_law_572 ?_
  refine va_sld hx hb hX hbl hbA hS hi2 dL_law_573 ?_
  refine lv_aload_n hx hb dL_law_574 rfl (lv_at hl 3 rfl) ?_
  refine va_calli (vx_runSW (As := [.ref (E.1 0), .int (xs (x4 + 1).toNatClampNeg), .int (xs (x4 + 2).toNatClampNeg), .ref (E.1 93)]) (rest := []) ⟨hx, hb, hml, hown, hts⟩ (c_L_about l hst D E L (xs (x4 + 1).toNatClampNeg) (xs (x4 + 2).toNatClampNeg) M h1 hq) (vx_cwSW 4 hts gL_law_L_about rfl rfl rfl (by decide +kernel) ⟨Nat.le_of_ble_eq_true rfl, Nat.le_of_ble_eq_true rfl⟩) ⟨mk_WC.blind, fun U hU hW => ⟨rfl, ⟨mk_W.at hU hW hP hK (hD _ _) hN, hT.at hS hU hW⟩, hC.moved hW.alike⟩⟩ rfl rfl hl.1 rfl (lv_room (Nat.le_of_ble_eq_true rfl)) dL_law_575 ⟨hcl, hsl⟩) hS (fun q _ h => h) (fun q h => h) (fun v1 u t H1 locs ht hvm hw hB hz1 hk1 hS => ?_)
  subst v1
  rw [ht] at hB
  replace hP := hB
  clear hB hz1 hk1 hvm ht
  generalize H1 = H at hP hS ⊢
  refine lv_istore (lv' := [(5, .int (fc_L_about q)), (0, .ref b), (1, .ref (E.1 0)), (2, .ref (E.1 68)), (3, .ref (E.1 93)), (4, .int x4)]) hx hb dL_law_578 hl (by decide) rfl (fun ls hl => ?_)
  refine lv_aload_n hx hb dL_law_580 rfl (lv_at hl 3 rfl) ?_
  refine lv_aload_n hx hb dL_law_581 rfl (lv_at hl 1 rfl) ?_
  refine lv_iload hx hb dL_law_582 (lv_at hl 5 rfl) ?_
  refine lv_iconst (v := 1) hx hb dL_law_584 (by decide) ?_
  refine lv_iadd hx hb dL_law_585 ?_
  refine va_sld hx hb hX hbl hbA hS hi1 dL_law_586 ?_
  refine lv_aload_n hx hb dL_law_587 rfl (lv_at hl 1 rfl) ?_
  refine lv_iload hx hb dL_law_588 (lv_at hl 5 rfl) ?_
  refine lv_iconst (v := 2) hx hb dL_law_590 (by decide) ?_
  refine lv_iadd hx hb dL_law_591 ?_
  refine va_sld hx hb hX hbl hbA hS hi2 dL_law_592 ?_
  refine va_calli (va_runV (As := [.int (xs (x4 + 1).toNatClampNeg), .int (xs (x4 + 2).toNatClampNeg)]) (rest := []) ⟨hx, hb, hml, hown, hts⟩ (c_X6_about l D E (fl_L_about q L) (xs (x4 + 1).toNatClampNeg) (xs (x4 + 2).toNatClampNeg) q.2 h2) (cwV 2 hts gL_law_X6_about rfl rfl rfl (by decide +kernel) ⟨Nat.le_of_ble_eq_true rfl, Nat.le_of_ble_eq_true rfl⟩) ⟨mk_W.blind, mk_rc6 hK hP (by decide) rfl, fun U hU hW => ⟨rfl, mk_W.at hU hW hP hK (hD _ _) hN⟩⟩ rfl rfl hl.1 rfl (lv_room (Nat.le_of_ble_eq_true rfl)) dL_law_593 ⟨by show cells + 1 + 0 ≤ 601024; omega, by show slots + 6 + 0 ≤ 7293034; omega⟩) hS (fun q _ h => h) (fun q h => h) (fun v2 u t H1 locs ht hvm hw hB hz1 hk1 hS => ?_)
  subst v2
  rw [ht] at hB
  replace hP := hB
  clear hB hz1 hk1 hvm ht
  generalize H1 = H at hP hS ⊢
  refine lv_istore (lv' := [(6, .int r.1), (5, .int (fc_L_about q)), (0, .ref b), (1, .ref (E.1 0)), (2, .ref (E.1 68)), (3, .ref (E.1 93)), (4, .int x4)]) hx hb dL_law_596 hl (by decide) rfl (fun ls hl => ?_)
  refine lv_aload_n hx hb dL_law_598 rfl (lv_at hl 4 rfl) ?_
  refine va_calli (va_runV (As := []) (rest := []) ⟨hx, hb, hml, hown, hts⟩ (c_X6_thrown l D E (fl_L_about q L) r.2 (q := r.2 68 0) rfl) (cwV 0 hts gL_law_X6_thrown rfl rfl rfl (by decide +kernel) ⟨Nat.le_of_ble_eq_true rfl, Nat.le_of_ble_eq_true rfl⟩) ⟨mk_W.blind, mk_rc6 hK hP (by decide) rfl, fun U hU hW => ⟨rfl, mk_W.at hU hW hP hK (hD _ _) hN⟩⟩ rfl rfl hl.1 rfl (lv_room (Nat.le_of_ble_eq_true rfl)) dL_law_599 ⟨by show cells + 1 + 0 + 0 ≤ 601024; exact hcl, by show slots + 6 + 0 + 0 ≤ 7293034; exact hsl⟩) hS (fun q _ h => h) (fun q h => h) (fun v3 u t H1 locs ht hvm hw hB hz1 hk1 hS => ?_)
  subst v3
  rw [ht] at hB
  replace hP := hB
  clear hB hz1 hk1 hvm ht
  generalize H1 = H at hP hS ⊢
  refine lv_iload hx hb dL_law_602 (lv_at hl 1 rfl) ?_
  refine lv_icmp_eq (tgt := 609) hx hb dL_law_604 (by decide) (fun _ => ?_) (fun h => absurd h3 h)
  refine lv_iload hx hb dL_law_609 (lv_at hl 1 rfl) ?_
  refine lv_if_ne (tgt := 626) hx hb dL_law_611 (by decide) (fun _ => ?_) (fun c0 => ?_)
  · refine lv_goto (tgt := 865) hx hb dL_law_626 (by decide) ?_
    exact kk _ _ _ hP hS (lv_sub hl [2, 3, 4, 5, 6] rfl)
  · have e0 := fx_L_about (L := L) hq c0
    refine lv_aload_n hx hb dL_law_614 rfl (lv_at hl 5 rfl) ?_
    refine lv_iconst (v := 0) hx hb dL_law_615 (by decide) ?_
    refine mk_ll hx hb hK hP dL_law_616 ?_
    refine lv_iload hx hb dL_law_617 (lv_at hl 0 rfl) ?_
    refine lv_i2l hx hb dL_law_619 rfl ?_
    have el : fl_L_about q L 0 = (r.1).toInt64 := by rw [← h4 c0]; simp [fl_L_about, e0, vp_updL]
    rw [el]
    refine W.lcmp hx hb dL_law_620 ?_
    rw [lg_self]
    refine lv_if_eq (tgt := 626) hx hb dL_law_621 (by decide) (fun _ => ?_) (fun h => absurd rfl h)
    refine lv_goto (tgt := 865) hx hb dL_law_626 (by decide) ?_
    exact kk _ _ _ hP hS (lv_sub hl [2, 3, 4, 5, 6] rfl)
theorem fx_L_witness {q : (Nat × Int32) × mk_M} {L : Nat → Int64} (hq : q.1.1 = 0 ∨ q.1.1 = 3 ∨ q.1.1 = 1) (h : fc_L_witness q = 0) : q.1.1 = 0 := by
  rcases hq with hq | hq | hq
  · exact hq
  · simp [fc_L_witness, hq] at h
  · simp [fc_L_witness, hq] at h
set_option maxHeartbeats 8000000 in
set_option maxRecDepth 100000 in
theorem lc_9 {p : Program} {l : Launch} {e : Env} {s : State} {m : MethodId} {below : List Frame} {meth : Method} {c : Code} {Q : State → Prop} {b Ln : Nat} {xs : Nat → Int32} (hx : p.tables.exec = Jvm.exec) (hb : c.code = cL_law) (hml : c.maxLocals = 7) (hown : s.vm.findClass RL = some m.cls) (hts : ∀ w ∈ wsL_law, w.before #[Value.ref b] s = true) (hst : l.stackTraces = false) (hX : va_X b Ln xs s s.heap) (hbl : b < s.heap.size) {D : va_G} {E : mk_E} (hbA : ¬ mk_A E b) (hK : va_K D vwCl (mk_tys E) s) (hD : ∀ (M : mk_M) (L : Nat → Int64), va_D (mk_A E) (mk_wl E M L)) (hN : mk_Nst s) (hT : mk_T E s) (hC : mk_NC s) {cells slots : Nat} (hcl : cells + 1 ≤ 601024) (hsl : slots + 6 ≤ 7293034) {x4 : Int32} (hi1 : vp_in (x4 + 1) Ln) (hi2 : vp_in (x4 + 2) Ln) {M : mk_M} {L : Nat → Int64} {q : (Nat × Int32) × mk_M} {r : Int32 × mk_M} (h1 : f_X5_witness (xs (x4 + 1).toNatClampNeg) (xs (x4 + 2).toNatClampNeg) M = some q) (hq : q.1.1 = 0 ∨ q.1.1 = 3 ∨ q.1.1 = 1) (h2 : f_X6_witness (xs (x4 + 1).toNatClampNeg) (xs (x4 + 2).toNatClampNeg) q.2 = some r) (h3 : r.2 68 0 = fc_L_witness q) (h4 : fc_L_witness q = 0 → q.1.2 = r.1) {H : Heap} {locs : List Loc} {ls : Array Slot} (hP : va_P D vwCl (mk_wl E M L) H) (hS : va_S (mk_A E) s.heap H locs) (hl : lv_has ls 7 [(0, .ref b), (1, .ref (E.1 0)), (2, .ref (E.1 68)), (3, .ref (E.1 93)), (4, .int x4)]) (kk : ∀ (H : Heap) (locs : List Loc) (ls : Array Slot), va_P D vwCl (mk_wl E r.2 (fl_L_witness q L)) H → va_S (mk_A E) s.heap H locs → lv_has ls 7 [(0, .ref b), (1, .ref (E.1 0)), (2, .ref (E.1 68)), (3, .ref (E.1 93)), (4, .int x4)] → W p l e room_1 s m #[Value.ref b] below meth c H locs (cells + 1) (slots + 6) Q (F0 m 865 ls [])) : W p l e room_1 s m #[Value.ref b] below meth c H locs cells slots Q (F0 m 629 ls []) := by
  refine lv_aload_n hx hb dL_law_629 rfl (lv_at hl 1 rfl) ?_
  refine lv_aload_n hx hb dL_law_630 rfl (lv_at hl 0 rfl) ?_
  refine lv_iload hx hb dL_law_631 (lv_at hl 4 rfl) ?_
  refine lv_iconst (v := 1) hx hb dL_law_633 (by decide) ?_
  refine lv_iadd hx hb dL_law_634 ?_
  refine va_sld hx hb hX hbl hbA hS hi1 dL_law_635 ?_
  refine lv_aload_n hx hb dL_law_636 rfl (lv_at hl 0 rfl) ?_
  refine lv_iload hx hb dL_law_637 (lv_at hl 4 rfl) ?_
  refine lv_iconst (v := 2) hx hb dL_law_639 (by decide) ?_
  refine lv_iadd hx hb dL_law_640 ?_
  refine va_sld hx hb hX hbl hbA hS hi2 dL_law_641 ?_
  refine lv_aload_n hx hb dL_law_642 rfl (lv_at hl 3 rfl) ?_
  refine va_calli (vx_runSW (As := [.ref (E.1 0), .int (xs (x4 + 1).toNatClampNeg), .int (xs (x4 + 2).toNatClampNeg), .ref (E.1 93)]) (rest := []) ⟨hx, hb, hml, hown, hts⟩ (c_L_witness l hst D E L (xs (x4 + 1).toNatClampNeg) (xs (x4 + 2).toNatClampNeg) M h1 hq) (vx_cwSW 4 hts gL_law_L_witness rfl rfl rfl (by decide +kernel) ⟨Nat.le_of_ble_eq_true rfl, Nat.le_of_ble_eq_true rfl⟩) ⟨mk_WC.blind, fun U hU hW => ⟨rfl, ⟨mk_W.at hU hW hP hK (hD _ _) hN, hT.at hS hU hW⟩, hC.moved hW.alike⟩⟩ rfl rfl hl.1 rfl (lv_room (Nat.le_of_ble_eq_true rfl)) dL_law_643 ⟨hcl, hsl⟩) hS (fun q _ h => h) (fun q h => h) (fun v1 u t H1 locs ht hvm hw hB hz1 hk1 hS => ?_)
  subst v1
  rw [ht] at hB
  replace hP := hB
  clear hB hz1 hk1 hvm ht
  generalize H1 = H at hP hS ⊢
  refine lv_istore (lv' := [(5, .int (fc_L_witness q)), (0, .ref b), (1, .ref (E.1 0)), (2, .ref (E.1 68)), (3, .ref (E.1 93)), (4, .int x4)]) hx hb dL_law_646 hl (by decide) rfl (fun ls hl => ?_)
  refine lv_aload_n hx hb dL_law_648 rfl (lv_at hl 3 rfl) ?_
  refine lv_aload_n hx hb dL_law_649 rfl (lv_at hl 1 rfl) ?_
  refine lv_iload hx hb dL_law_650 (lv_at hl 5 rfl) ?_
  refine lv_iconst (v := 1) hx hb dL_law_652 (by decide) ?_
  refine lv_iadd hx hb dL_law_653 ?_
  refine va_sld hx hb hX hbl hbA hS hi1 dL_law_654 ?_
  refine lv_aload_n hx hb dL_law_655 rfl (lv_at hl 1 rfl) ?_
  refine lv_iload hx hb dL_law_656 (lv_at hl 5 rfl) ?_
  refine lv_iconst (v := 2) hx hb dL_law_658 (by decide) ?_
  refine lv_iadd hx hb dL_law_659 ?_
  refine va_sld hx hb hX hbl hbA hS hi2 dL_law_660 ?_
  refine va_calli (va_runV (As := [.int (xs (x4 + 1).toNatClampNeg), .int (xs (x4 + 2).toNatClampNeg)]) (rest := []) ⟨hx, hb, hml, hown, hts⟩ (c_X6_witness l D E (fl_L_witness q L) (xs (x4 + 1).toNatClampNeg) (xs (x4 + 2).toNatClampNeg) q.2 h2) (cwV 2 hts gL_law_X6_witness rfl rfl rfl (by decide +kernel) ⟨Nat.le_of_ble_eq_true rfl, Nat.le_of_ble_eq_true rfl⟩) ⟨mk_W.blind, mk_rc6 hK hP (by decide) rfl, fun U hU hW => ⟨rfl, mk_W.at hU hW hP hK (hD _ _) hN⟩⟩ rfl rfl hl.1 rfl (lv_room (Nat.le_of_ble_eq_true rfl)) dL_law_661 ⟨by show cells + 1 + 0 ≤ 601024; omega, by show slots + 6 + 0 ≤ 7293034; omega⟩) hS (fun q _ h => h) (fun q h => h) (fun v2 u t H1 locs ht hvm hw hB hz1 hk1 hS => ?_)
  subst v2
  rw [ht] at hB
  replace hP := hB
  clear hB hz1 hk1 hvm ht
  generalize H1 = H at hP hS ⊢
  refine lv_istore (lv' := [(6, .int r.1), (5, .int (fc_L_witness q)), (0, .ref b), (1, .ref (E.1 0)), (2, .ref (E.1 68)), (3, .ref (E.1 93)), (4, .int x4)]) hx hb dL_law_664 hl (by decide) rfl (fun ls hl => ?_)
  refine lv_aload_n hx hb dL_law_666 rfl (lv_at hl 4 rfl) ?_
  refine va_calli (va_runV (As := []) (rest := []) ⟨hx, hb, hml, hown, hts⟩ (c_X6_thrown l D E (fl_L_witness q L) r.2 (q := r.2 68 0) rfl) (cwV 0 hts gL_law_X6_thrown rfl rfl rfl (by decide +kernel) ⟨Nat.le_of_ble_eq_true rfl, Nat.le_of_ble_eq_true rfl⟩) ⟨mk_W.blind, mk_rc6 hK hP (by decide) rfl, fun U hU hW => ⟨rfl, mk_W.at hU hW hP hK (hD _ _) hN⟩⟩ rfl rfl hl.1 rfl (lv_room (Nat.le_of_ble_eq_true rfl)) dL_law_667 ⟨by show cells + 1 + 0 + 0 ≤ 601024; exact hcl, by show slots + 6 + 0 + 0 ≤ 7293034; exact hsl⟩) hS (fun q _ h => h) (fun q h => h) (fun v3 u t H1 locs ht hvm hw hB hz1 hk1 hS => ?_)
  subst v3
  rw [ht] at hB
  replace hP := hB
  clear hB hz1 hk1 hvm ht
  generalize H1 = H at hP hS ⊢
  refine lv_iload hx hb dL_law_670 (lv_at hl 1 rfl) ?_
  refine lv_icmp_eq (tgt := 677) hx hb dL_law_672 (by decide) (fun _ => ?_) (fun h => absurd h3 h)
  refine lv_iload hx hb dL_law_677 (lv_at hl 1 rfl) ?_
  refine lv_if_ne (tgt := 694) hx hb dL_law_679 (by decide) (fun _ => ?_) (fun c0 => ?_)
  · refine lv_goto (tgt := 865) hx hb dL_law_694 (by decide) ?_
    exact kk _ _ _ hP hS (lv_sub hl [2, 3, 4, 5, 6] rfl)
  · have e0 := fx_L_witness (L := L) hq c0
    refine lv_aload_n hx hb dL_law_682 rfl (lv_at hl 5 rfl) ?_
    refine lv_iconst (v := 0) hx hb dL_law_683 (by decide) ?_
    refine mk_ll hx hb hK hP dL_law_684 ?_
    refine lv_iload hx hb dL_law_685 (lv_at hl 0 rfl) ?_
    refine lv_i2l hx hb dL_law_687 rfl ?_
    have el : fl_L_witness q L 0 = (r.1).toInt64 := by rw [← h4 c0]; simp [fl_L_witness, e0, vp_updL]
    rw [el]
    refine W.lcmp hx hb dL_law_688 ?_
    rw [lg_self]
    refine lv_if_eq (tgt := 694) hx hb dL_law_689 (by decide) (fun _ => ?_) (fun h => absurd rfl h)
    refine lv_goto (tgt := 865) hx hb dL_law_694 (by decide) ?_
    exact kk _ _ _ hP hS (lv_sub hl [2, 3, 4, 5, 6] rfl)
theorem fx_L_trace {q : (Nat × Int32) × mk_M} {L : Nat → Int64} (hq : q.1.1 = 0 ∨ q.1.1 = 3) (h : fc_L_trace q = 0) : q.1.1 = 0 := by
  rcases hq with hq | hq
  · exact hq
  · simp [fc_L_trace, hq] at h
set_option maxHeartbeats 8000000 in
set_option maxRecDepth 100000 in
theorem lc_10 {p : Program} {l : Launch} {e : Env} {s : State} {m : MethodId} {below : List Frame} {meth : Method} {c : Code} {Q : State → Prop} {b Ln : Nat} {xs : Nat → Int32} (hx : p.tables.exec = Jvm.exec) (hb : c.code = cL_law) (hml : c.maxLocals = 7) (hown : s.vm.findClass RL = some m.cls) (hts : ∀ w ∈ wsL_law, w.before #[Value.ref b] s = true) (hst : l.stackTraces = false) (hX : va_X b Ln xs s s.heap) (hbl : b < s.heap.size) {D : va_G} {E : mk_E} (hbA : ¬ mk_A E b) (hK : va_K D vwCl (mk_tys E) s) (hD : ∀ (M : mk_M) (L : Nat → Int64), va_D (mk_A E) (mk_wl E M L)) (hN : mk_Nst s) (hT : mk_T E s) (hC : mk_NC s) {cells slots : Nat} (hcl : cells + 1 ≤ 601024) (hsl : slots + 6 ≤ 7293034) {x4 : Int32} (hi1 : vp_in (x4 + 1) Ln) {M : mk_M} {L : Nat → Int64} {q : (Nat × Int32) × mk_M} {r : Int32 × mk_M} (h1 : f_X5_trace (xs (x4 + 1).toNatClampNeg) M = some q) (hq : q.1.1 = 0 ∨ q.1.1 = 3) (h2 : f_X6_trace (xs (x4 + 1).toNatClampNeg) q.2 = some r) (h3 : r.2 68 0 = fc_L_trace q) (h4 : fc_L_trace q = 0 → q.1.2 = r.1) {H : Heap} {locs : List Loc} {ls : Array Slot} (hP : va_P D vwCl (mk_wl E M L) H) (hS : va_S (mk_A E) s.heap H locs) (hl : lv_has ls 7 [(0, .ref b), (1, .ref (E.1 0)), (2, .ref (E.1 68)), (3, .ref (E.1 93)), (4, .int x4)]) (kk : ∀ (H : Heap) (locs : List Loc) (ls : Array Slot), va_P D vwCl (mk_wl E r.2 (fl_L_trace q L)) H → va_S (mk_A E) s.heap H locs → lv_has ls 7 [(0, .ref b), (1, .ref (E.1 0)), (2, .ref (E.1 68)), (3, .ref (E.1 93)), (4, .int x4)] → W p l e room_1 s m #[Value.ref b] below meth c H locs (cells + 1) (slots + 6) Q (F0 m 865 ls [])) : W p l e room_1 s m #[Value.ref b] below meth c H locs cells slots Q (F0 m 697 ls []) := by
  refine lv_aload_n hx hb dL_law_697 rfl (lv_at hl 1 rfl) ?_
  refine lv_aload_n hx hb dL_law_698 rfl (lv_at hl 0 rfl) ?_
  refine lv_iload hx hb dL_law_699 (lv_at hl 4 rfl) ?_
  refine lv_iconst (v := 1) hx hb dL_law_701 (by decide) ?_
  refine lv_iadd hx hb dL_law_702 ?_
  refine va_sld hx hb hX hbl hbA hS hi1 dL_law_703 ?_
  refine lv_aload_n hx hb dL_law_704 rfl (lv_at hl 3 rfl) ?_
  refine va_calli (vx_runSW (As := [.ref (E.1 0), .int (xs (x4 + 1).toNatClampNeg), .ref (E.1 93)]) (rest := []) ⟨hx, hb, hml, hown, hts⟩ (c_L_trace l hst D E L (xs (x4 + 1).toNatClampNeg) M h1 hq) (vx_cwSW 3 hts gL_law_L_trace rfl rfl rfl (by decide +kernel) ⟨Nat.le_of_ble_eq_true rfl, Nat.le_of_ble_eq_true rfl⟩) ⟨mk_WC.blind, fun U hU hW => ⟨rfl, ⟨mk_W.at hU hW hP hK (hD _ _) hN, hT.at hS hU hW⟩, hC.moved hW.alike⟩⟩ rfl rfl hl.1 rfl (lv_room (Nat.le_of_ble_eq_true rfl)) dL_law_705 ⟨hcl, hsl⟩) hS (fun q _ h => h) (fun q h => h) (fun v1 u t H1 locs ht hvm hw hB hz1 hk1 hS => ?_)
  subst v1
  rw [ht] at hB
  replace hP := hB
  clear hB hz1 hk1 hvm ht
  generalize H1 = H at hP hS ⊢
  refine lv_istore (lv' := [(5, .int (fc_L_trace q)), (0, .ref b), (1, .ref (E.1 0)), (2, .ref (E.1 68)), (3, .ref (E.1 93)), (4, .int x4)]) hx hb dL_law_708 hl (by decide) rfl (fun ls hl => ?_)
  refine lv_aload_n hx hb dL_law_710 rfl (lv_at hl 3 rfl) ?_
  refine lv_aload_n hx hb dL_law_711 rfl (lv_at hl 1 rfl) ?_
  refine lv_iload hx hb dL_law_712 (lv_at hl 5 rfl) ?_
  refine lv_iconst (v := 1) hx hb dL_law_714 (by decide) ?_
  refine lv_iadd hx hb dL_law_715 ?_
  refine va_sld hx hb hX hbl hbA hS hi1 dL_law_716 ?_
  refine va_calli (va_runV (As := [.int (xs (x4 + 1).toNatClampNeg)]) (rest := []) ⟨hx, hb, hml, hown, hts⟩ (c_X6_trace l D E (fl_L_trace q L) (xs (x4 + 1).toNatClampNeg) q.2 h2) (cwV 1 hts gL_law_X6_trace rfl rfl rfl (by decide +kernel) ⟨Nat.le_of_ble_eq_true rfl, Nat.le_of_ble_eq_true rfl⟩) ⟨mk_W.blind, mk_rc6 hK hP (by decide) rfl, fun U hU hW => ⟨rfl, mk_W.at hU hW hP hK (hD _ _) hN⟩⟩ rfl rfl hl.1 rfl (lv_room (Nat.le_of_ble_eq_true rfl)) dL_law_717 ⟨by show cells + 1 + 0 ≤ 601024; omega, by show slots + 6 + 0 ≤ 7293034; omega⟩) hS (fun q _ h => h) (fun q h => h) (fun v2 u t H1 locs ht hvm hw hB hz1 hk1 hS => ?_)
  subst v2
  rw [ht] at hB
  replace hP := hB
  clear hB hz1 hk1 hvm ht
  generalize H1 = H at hP hS ⊢
  refine lv_istore (lv' := [(6, .int r.1), (5, .int (fc_L_trace q)), (0, .ref b), (1, .ref (E.1 0)), (2, .ref (E.1 68)), (3, .ref (E.1 93)), (4, .int x4)]) hx hb dL_law_720 hl (by decide) rfl (fun ls hl => ?_)
  refine lv_aload_n hx hb dL_law_722 rfl (lv_at hl 4 rfl) ?_
  refine va_calli (va_runV (As := []) (rest := []) ⟨hx, hb, hml, hown, hts⟩ (c_X6_thrown l D E (fl_L_trace q L) r.2 (q := r.2 68 0) rfl) (cwV 0 hts gL_law_X6_thrown rfl rfl rfl (by decide +kernel) ⟨Nat.le_of_ble_eq_true rfl, Nat.le_of_ble_eq_true rfl⟩) ⟨mk_W.blind, mk_rc6 hK hP (by decide) rfl, fun U hU hW => ⟨rfl, mk_W.at hU hW hP hK (hD _ _) hN⟩⟩ rfl rfl hl.1 rfl (lv_room (Nat.le_of_ble_eq_true rfl)) dL_law_723 ⟨by show cells + 1 + 0 + 0 ≤ 601024; exact hcl, by show slots + 6 + 0 + 0 ≤ 7293034; exact hsl⟩) hS (fun q _ h => h) (fun q h => h) (fun v3 u t H1 locs ht hvm hw hB hz1 hk1 hS => ?_)
  subst v3
  rw [ht] at hB
  replace hP := hB
  clear hB hz1 hk1 hvm ht
  generalize H1 = H at hP hS ⊢
  refine lv_iload hx hb dL_law_726 (lv_at hl 1 rfl) ?_
  refine lv_icmp_eq (tgt := 733) hx hb dL_law_728 (by decide) (fun _ => ?_) (fun h => absurd h3 h)
  refine lv_iload hx hb dL_law_733 (lv_at hl 1 rfl) ?_
  refine lv_if_ne (tgt := 750) hx hb dL_law_735 (by decide) (fun _ => ?_) (fun c0 => ?_)
  · refine lv_goto (tgt := 865) hx hb dL_law_750 (by decide) ?_
    exact kk _ _ _ hP hS (lv_sub hl [2, 3, 4, 5, 6] rfl)
  · have e0 := fx_L_trace (L := L) hq c0
    refine lv_aload_n hx hb dL_law_738 rfl (lv_at hl 5 rfl) ?_
    refine lv_iconst (v := 0) hx hb dL_law_739 (by decide) ?_
    refine mk_ll hx hb hK hP dL_law_740 ?_
    refine lv_iload hx hb dL_law_741 (lv_at hl 0 rfl) ?_
    refine lv_i2l hx hb dL_law_743 rfl ?_
    have el : fl_L_trace q L 0 = (r.1).toInt64 := by rw [← h4 c0]; simp [fl_L_trace, e0, vp_updL]
    rw [el]
    refine W.lcmp hx hb dL_law_744 ?_
    rw [lg_self]
    refine lv_if_eq (tgt := 750) hx hb dL_law_745 (by decide) (fun _ => ?_) (fun h => absurd rfl h)
    refine lv_goto (tgt := 865) hx hb dL_law_750 (by decide) ?_
    exact kk _ _ _ hP hS (lv_sub hl [2, 3, 4, 5, 6] rfl)
theorem fx_L_changed {q : (Nat × Int32) × mk_M} {L : Nat → Int64} (hq : q.1.1 = 0 ∨ q.1.1 = 3) (h : fc_L_changed q = 0) : q.1.1 = 0 := by
  rcases hq with hq | hq
  · exact hq
  · simp [fc_L_changed, hq] at h
set_option maxHeartbeats 8000000 in
set_option maxRecDepth 100000 in
theorem lc_11 {p : Program} {l : Launch} {e : Env} {s : State} {m : MethodId} {below : List Frame} {meth : Method} {c : Code} {Q : State → Prop} {b Ln : Nat} {xs : Nat → Int32} (hx : p.tables.exec = Jvm.exec) (hb : c.code = cL_law) (hml : c.maxLocals = 7) (hown : s.vm.findClass RL = some m.cls) (hts : ∀ w ∈ wsL_law, w.before #[Value.ref b] s = true) (hst : l.stackTraces = false) (hX : va_X b Ln xs s s.heap) (hbl : b < s.heap.size) {D : va_G} {E : mk_E} (hbA : ¬ mk_A E b) (hK : va_K D vwCl (mk_tys E) s) (hD : ∀ (M : mk_M) (L : Nat → Int64), va_D (mk_A E) (mk_wl E M L)) (hN : mk_Nst s) (hT : mk_T E s) (hC : mk_NC s) {cells slots : Nat} (hcl : cells + 1 ≤ 601024) (hsl : slots + 6 ≤ 7293034) {x4 : Int32} (hi1 : vp_in (x4 + 1) Ln) {M : mk_M} {L : Nat → Int64} {q : (Nat × Int32) × mk_M} {r : Int32 × mk_M} (h1 : f_X5_changed (xs (x4 + 1).toNatClampNeg) M = some q) (hq : q.1.1 = 0 ∨ q.1.1 = 3) (h2 : f_X6_changed (xs (x4 + 1).toNatClampNeg) q.2 = some r) (h3 : r.2 68 0 = fc_L_changed q) (h4 : fc_L_changed q = 0 → q.1.2 = r.1) {H : Heap} {locs : List Loc} {ls : Array Slot} (hP : va_P D vwCl (mk_wl E M L) H) (hS : va_S (mk_A E) s.heap H locs) (hl : lv_has ls 7 [(0, .ref b), (1, .ref (E.1 0)), (2, .ref (E.1 68)), (3, .ref (E.1 93)), (4, .int x4)]) (kk : ∀ (H : Heap) (locs : List Loc) (ls : Array Slot), va_P D vwCl (mk_wl E r.2 (fl_L_changed q L)) H → va_S (mk_A E) s.heap H locs → lv_has ls 7 [(0, .ref b), (1, .ref (E.1 0)), (2, .ref (E.1 68)), (3, .ref (E.1 93)), (4, .int x4)] → W p l e room_1 s m #[Value.ref b] below meth c H locs (cells + 1) (slots + 6) Q (F0 m 865 ls [])) : W p l e room_1 s m #[Value.ref b] below meth c H locs cells slots Q (F0 m 753 ls []) := by
  refine lv_aload_n hx hb dL_law_753 rfl (lv_at hl 1 rfl) ?_
  refine lv_aload_n hx hb dL_law_754 rfl (lv_at hl 0 rfl) ?_
  refine lv_iload hx hb dL_law_755 (lv_at hl 4 rfl) ?_
  refine lv_iconst (v := 1) hx hb dL_law_757 (by decide) ?_
  refine lv_iadd hx hb dL_law_758 ?_
  refine va_sld hx hb hX hbl hbA hS hi1 dL_law_759 ?_
  refine lv_aload_n hx hb dL_law_760 rfl (lv_at hl 3 rfl) ?_
  refine va_calli (vx_runSW (As := [.ref (E.1 0), .int (xs (x4 + 1).toNatClampNeg), .ref (E.1 93)]) (rest := []) ⟨hx, hb, hml, hown, hts⟩ (c_L_changed l hst D E L (xs (x4 + 1).toNatClampNeg) M h1 hq) (vx_cwSW 3 hts gL_law_L_changed rfl rfl rfl (by decide +kernel) ⟨Nat.le_of_ble_eq_true rfl, Nat.le_of_ble_eq_true rfl⟩) ⟨mk_WC.blind, fun U hU hW => ⟨rfl, ⟨mk_W.at hU hW hP hK (hD _ _) hN, hT.at hS hU hW⟩, hC.moved hW.alike⟩⟩ rfl rfl hl.1 rfl (lv_room (Nat.le_of_ble_eq_true rfl)) dL_law_761 ⟨hcl, hsl⟩) hS (fun q _ h => h) (fun q h => h) (fun v1 u t H1 locs ht hvm hw hB hz1 hk1 hS => ?_)
  subst v1
  rw [ht] at hB
  replace hP := hB
  clear hB hz1 hk1 hvm ht
  generalize H1 = H at hP hS ⊢
  refine lv_istore (lv' := [(5, .int (fc_L_changed q)), (0, .ref b), (1, .ref (E.1 0)), (2, .ref (E.1 68)), (3, .ref (E.1 93)), (4, .int x4)]) hx hb dL_law_764 hl (by decide) rfl (fun ls hl => ?_)
  refine lv_aload_n hx hb dL_law_766 rfl (lv_at hl 3 rfl) ?_
  refine lv_aload_n hx hb dL_law_767 rfl (lv_at hl 1 rfl) ?_
  refine lv_iload hx hb dL_law_768 (lv_at hl 5 rfl) ?_
  refine lv_iconst (v := 1) hx hb dL_law_770 (by decide) ?_
  refine lv_iadd hx hb dL_law_771 ?_
  refine va_sld hx hb hX hbl hbA hS hi1 dL_law_772 ?_
  refine va_calli (va_runV (As := [.int (xs (x4 + 1).toNatClampNeg)]) (rest := []) ⟨hx, hb, hml, hown, hts⟩ (c_X6_changed l D E (fl_L_changed q L) (xs (x4 + 1).toNatClampNeg) q.2 h2) (cwV 1 hts gL_law_X6_changed rfl rfl rfl (by decide +kernel) ⟨Nat.le_of_ble_eq_true rfl, Nat.le_of_ble_eq_true rfl⟩) ⟨mk_W.blind, mk_rc6 hK hP (by decide) rfl, fun U hU hW => ⟨rfl, mk_W.at hU hW hP hK (hD _ _) hN⟩⟩ rfl rfl hl.1 rfl (lv_room (Nat.le_of_ble_eq_true rfl)) dL_law_773 ⟨by show cells + 1 + 0 ≤ 601024; omega, by show slots + 6 + 0 ≤ 7293034; omega⟩) hS (fun q _ h => h) (fun q h => h) (fun v2 u t H1 locs ht hvm hw hB hz1 hk1 hS => ?_)
  subst v2
  rw [ht] at hB
  replace hP := hB
  clear hB hz1 hk1 hvm ht
  generalize H1 = H at hP hS ⊢
  refine lv_istore (lv' := [(6, .int r.1), (5, .int (fc_L_changed q)), (0, .ref b), (1, .ref (E.1 0)), (2, .ref (E.1 68)), (3, .ref (E.1 93)), (4, .int x4)]) hx hb dL_law_776 hl (by decide) rfl (fun ls hl => ?_)
  refine lv_aload_n hx hb dL_law_778 rfl (lv_at hl 4 rfl) ?_
  refine va_calli (va_runV (As := []) (rest := []) ⟨hx, hb, hml, hown, hts⟩ (c_X6_thrown l D E (fl_L_changed q L) r.2 (q := r.2 68 0) rfl) (cwV 0 hts gL_law_X6_thrown rfl rfl rfl (by decide +kernel) ⟨Nat.le_of_ble_eq_true rfl, Nat.le_of_ble_eq_true rfl⟩) ⟨mk_W.blind, mk_rc6 hK hP (by decide) rfl, fun U hU hW => ⟨rfl, mk_W.at hU hW hP hK (hD _ _) hN⟩⟩ rfl rfl hl.1 rfl (lv_room (Nat.le_of_ble_eq_true rfl)) dL_law_779 ⟨by show cells + 1 + 0 + 0 ≤ 601024; exact hcl, by show slots + 6 + 0 + 0 ≤ 7293034; exact hsl⟩) hS (fun q _ h => h) (fun q h => h) (fun v3 u t H1 locs ht hvm hw hB hz1 hk1 hS => ?_)
  subst v3
  rw [ht] at hB
  replace hP := hB
  clear hB hz1 hk1 hvm ht
  generalize H1 = H at hP hS ⊢
  refine lv_iload hx hb dL_law_782 (lv_at hl 1 rfl) ?_
  refine lv_icmp_eq (tgt := 789) hx hb dL_law_784 (by decide) (fun _ => ?_) (fun h => absurd h3 h)
  refine lv_iload hx hb dL_law_789 (lv_at hl 1 rfl) ?_
  refine lv_if_ne (tgt := 806) hx hb dL_law_791 (by decide) (fun _ => ?_) (fun c0 => ?_)
  · refine lv_goto (tgt := 865) hx hb dL_law_806 (by decide) ?_
    exact kk _ _ _ hP hS (lv_sub hl [2, 3, 4, 5, 6] rfl)
  · have e0 := fx_L_changed (L := L) hq c0
    refine lv_aload_n hx hb dL_law_794 rfl (lv_at hl 5 rfl) ?_
    refine lv_iconst (v := 0) hx hb dL_law_795 (by decide) ?_
    refine mk_ll hx hb hK hP dL_law_796 ?_
    refine lv_iload hx hb dL_law_797 (lv_at hl 0 rfl) ?_
    refine lv_i2l hx hb dL_law_799 rfl ?_
    have el : fl_L_changed q L 0 = (r.1).toInt64 := by rw [← h4 c0]; simp [fl_L_changed, e0, vp_updL]
    rw [el]
    refine W.lcmp hx hb dL_law_800 ?_
    rw [lg_self]
    refine lv_if_eq (tgt := 806) hx hb dL_law_801 (by decide) (fun _ => ?_) (fun h => absurd rfl h)
    refine lv_goto (tgt := 865) hx hb dL_law_806 (by decide) ?_
    exact kk _ _ _ hP hS (lv_sub hl [2, 3, 4, 5, 6] rfl)
theorem fx_L_count {q : (Nat × Int32) × mk_M} {L : Nat → Int64} (hq : q.1.1 = 0 ∨ q.1.1 = 1) (h : fc_L_count q = 0) : q.1.1 = 0 := by
  rcases hq with hq | hq
  · exact hq
  · simp [fc_L_count, hq] at h
set_option maxHeartbeats 8000000 in
set_option maxRecDepth 100000 in
theorem lc_12 {p : Program} {l : Launch} {e : Env} {s : State} {m : MethodId} {below : List Frame} {meth : Method} {c : Code} {Q : State → Prop} {b Ln : Nat} {xs : Nat → Int32} (hx : p.tables.exec = Jvm.exec) (hb : c.code = cL_law) (hml : c.maxLocals = 7) (hown : s.vm.findClass RL = some m.cls) (hts : ∀ w ∈ wsL_law, w.before #[Value.ref b] s = true) (hst : l.stackTraces = false) (hX : va_X b Ln xs s s.heap) (hbl : b < s.heap.size) {D : va_G} {E : mk_E} (hbA : ¬ mk_A E b) (hK : va_K D vwCl (mk_tys E) s) (hD : ∀ (M : mk_M) (L : Nat → Int64), va_D (mk_A E) (mk_wl E M L)) (hN : mk_Nst s) (hT : mk_T E s) (hC : mk_NC s) {cells slots : Nat} (hcl : cells + 1 ≤ 601024) (hsl : slots + 6 ≤ 7293034) {x4 : Int32} (hi1 : vp_in (x4 + 1) Ln) {M : mk_M} {L : Nat → Int64} {q : (Nat × Int32) × mk_M} {r : Int32 × mk_M} (h1 : f_X5_count (xs (x4 + 1).toNatClampNeg) M = some q) (hq : q.1.1 = 0 ∨ q.1.1 = 1) (h2 : f_X6_count (xs (x4 + 1).toNatClampNeg) q.2 = some r) (h3 : r.2 68 0 = fc_L_count q) (h4 : fc_L_count q = 0 → q.1.2 = r.1) {H : Heap} {locs : List Loc} {ls : Array Slot} (hP : va_P D vwCl (mk_wl E M L) H) (hS : va_S (mk_A E) s.heap H locs) (hl : lv_has ls 7 [(0, .ref b), (1, .ref (E.1 0)), (2, .ref (E.1 68)), (3, .ref (E.1 93)), (4, .int x4)]) (kk : ∀ (H : Heap) (locs : List Loc) (ls : Array Slot), va_P D vwCl (mk_wl E r.2 (fl_L_count q L)) H → va_S (mk_A E) s.heap H locs → lv_has ls 7 [(0, .ref b), (1, .ref (E.1 0)), (2, .ref (E.1 68)), (3, .ref (E.1 93)), (4, .int x4)] → W p l e room_1 s m #[Value.ref b] below meth c H locs (cells + 1) (slots + 6) Q (F0 m 865 ls [])) : W p l e room_1 s m #[Value.ref b] below meth c H locs cells slots Q (F0 m 809 ls []) := by
  refine lv_aload_n hx hb dL_law_809 rfl (lv_at hl 1 rfl) ?_
  refine lv_aload_n hx hb dL_law_810 rfl (lv_at hl 0 rfl) ?_
  refine lv_iload hx hb dL_law_811 (lv_at hl 4 rfl) ?_
  refine lv_iconst (v := 1) hx hb dL_law_813 (by decide) ?_
  refine lv_iadd hx hb dL_law_814 ?_
  refine va_sld hx hb hX hbl hbA hS hi1 dL_law_815 ?_
  refine lv_aload_n hx hb dL_law_816 rfl (lv_at hl 3 rfl) ?_
  refine va_calli (vx_runSW (As := [.ref (E.1 0), .int (xs (x4 + 1).toNatClampNeg), .ref (E.1 93)]) (rest := []) ⟨hx, hb, hml, hown, hts⟩ (c_L_count l hst D E L (xs (x4 + 1).toNatClampNeg) M h1 hq) (vx_cwSW 3 hts gL_law_L_count rfl rfl rfl (by decide +kernel) ⟨Nat.le_of_ble_eq_true rfl, Nat.le_of_ble_eq_true rfl⟩) ⟨mk_WC.blind, fun U hU hW => ⟨rfl, ⟨mk_W.at hU hW hP hK (hD _ _) hN, hT.at hS hU hW⟩, hC.moved hW.alike⟩⟩ rfl rfl hl.1 rfl (lv_room (Nat.le_of_ble_eq_true rfl)) dL_law_817 ⟨hcl, hsl⟩) hS (fun q _ h => h) (fun q h => h) (fun v1 u t H1 locs ht hvm hw hB hz1 hk1 hS => ?_)
  subst v1
  rw [ht] at hB
  replace hP := hB
  clear hB hz1 hk1 hvm ht
  generalize H1 = H at hP hS ⊢
  refine lv_istore (lv' := [(5, .int (fc_L_count q)), (0, .ref b), (1, .ref (E.1 0)), (2, .ref (E.1 68)), (3, .ref (E.1 93)), (4, .int x4)]) hx hb dL_law_820 hl (by decide) rfl (fun ls hl => ?_)
  refine lv_aload_n hx hb dL_law_822 rfl (lv_at hl 3 rfl) ?_
  refine lv_aload_n hx hb dL_law_823 rfl (lv_at hl 1 rfl) ?_
  refine lv_iload hx hb dL_law_824 (lv_at hl 5 rfl) ?_
  refine lv_iconst (v := 1) hx hb dL_law_826 (by decide) ?_
  refine lv_iadd hx hb dL_law_827 ?_
  refine va_sld hx hb hX hbl hbA hS hi1 dL_law_828 ?_
  refine va_calli (va_runV (As := [.int (xs (x4 + 1).toNatClampNeg)]) (rest := []) ⟨hx, hb, hml, hown, hts⟩ (c_X6_count l D E (fl_L_count q L) (xs (x4 + 1).toNatClampNeg) q.2 h2) (cwV 1 hts gL_law_X6_count rfl rfl rfl (by decide +kernel) ⟨Nat.le_of_ble_eq_true rfl, Nat.le_of_ble_eq_true rfl⟩) ⟨mk_W.blind, mk_rc6 hK hP (by decide) rfl, fun U hU hW => ⟨rfl, mk_W.at hU hW hP hK (hD _ _) hN⟩⟩ rfl rfl hl.1 rfl (lv_room (Nat.le_of_ble_eq_true rfl)) dL_law_829 ⟨by show cells + 1 + 0 ≤ 601024; omega, by show slots + 6 + 0 ≤ 7293034; omega⟩) hS (fun q _ h => h) (fun q h => h) (fun v2 u t H1 locs ht hvm hw hB hz1 hk1 hS => ?_)
  subst v2
  rw [ht] at hB
  replace hP := hB
  clear hB hz1 hk1 hvm ht
  generalize H1 = H at hP hS ⊢
  refine lv_istore (lv' := [(6, .int r.1), (5, .int (fc_L_count q)), (0, .ref b), (1, .ref (E.1 0)), (2, .ref (E.1 68)), (3, .ref (E.1 93)), (4, .int x4)]) hx hb dL_law_832 hl (by decide) rfl (fun ls hl => ?_)
  refine lv_aload_n hx hb dL_law_834 rfl (lv_at hl 4 rfl) ?_
  refine va_calli (va_runV (As := []) (rest := []) ⟨hx, hb, hml, hown, hts⟩ (c_X6_thrown l D E (fl_L_count q L) r.2 (q := r.2 68 0) rfl) (cwV 0 hts gL_law_X6_thrown rfl rfl rfl (by decide +kernel) ⟨Nat.le_of_ble_eq_true rfl, Nat.le_of_ble_eq_true rfl⟩) ⟨mk_W.blind, mk_rc6 hK hP (by decide) rfl, fun U hU hW => ⟨rfl, mk_W.at hU hW hP hK (hD _ _) hN⟩⟩ rfl rfl hl.1 rfl (lv_room (Nat.le_of_ble_eq_true rfl)) dL_law_835 ⟨by show cells + 1 + 0 + 0 ≤ 601024; exact hcl, by show slots + 6 + 0 + 0 ≤ 7293034; exact hsl⟩) hS (fun q _ h => h) (fun q h => h) (fun v3 u t H1 locs ht hvm hw hB hz1 hk1 hS => ?_)
  subst v3
  rw [ht] at hB
  replace hP := hB
  clear hB hz1 hk1 hvm ht
  generalize H1 = H at hP hS ⊢
  refine lv_iload hx hb dL_law_838 (lv_at hl 1 rfl) ?_
  refine lv_icmp_eq (tgt := 845) hx hb dL_law_840 (by decide) (fun _ => ?_) (fun h => absurd h3 h)
  refine lv_iload hx hb dL_law_845 (lv_at hl 1 rfl) ?_
  refine lv_if_ne (tgt := 862) hx hb dL_law_847 (by decide) (fun _ => ?_) (fun c0 => ?_)
  · refine lv_goto (tgt := 865) hx hb dL_law_862 (by decide) ?_
    exact kk _ _ _ hP hS (lv_sub hl [2, 3, 4, 5, 6] rfl)
  · have e0 := fx_L_count (L := L) hq c0
    refine lv_aload_n hx hb dL_law_850 rfl (lv_at hl 5 rfl) ?_
    refine lv_iconst (v := 0) hx hb dL_law_851 (by decide) ?_
    refine mk_ll hx hb hK hP dL_law_852 ?_
    refine lv_iload hx hb dL_law_853 (lv_at hl 0 rfl) ?_
    refine lv_i2l hx hb dL_law_855 rfl ?_
    have el : fl_L_count q L 0 = (r.1).toInt64 := by rw [← h4 c0]; simp [fl_L_count, e0, vp_updL]
    rw [el]
    refine W.lcmp hx hb dL_law_856 ?_
    rw [lg_self]
    refine lv_if_eq (tgt := 862) hx hb dL_law_857 (by decide) (fun _ => ?_) (fun h => absurd rfl h)
    refine lv_goto (tgt := 865) hx hb dL_law_862 (by decide) ?_
    exact kk _ _ _ hP hS (lv_sub hl [2, 3, 4, 5, 6] rfl)
