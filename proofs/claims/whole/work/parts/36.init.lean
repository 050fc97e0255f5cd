/-! the world behind the three makings is the world of the memory at its start -/
def mk_pm (x : Nat) : Nat := if x < 3 then x else if x < 16 then x + 52 else if x < 68 then x - 13 else x
def mk_M0 : mk_M := fun x => if x % 4 = 0 ∧ 16 ≤ x ∧ x < 68 then (fun k => if k < 3 then 1 else 0) else (fun _ => 0)
def mk_E0 (bs : Nat) (cI cZ cT cL : ClassId) : mk_E := (fun x => bs + mk_pm x, cI, cZ, cT, cL)
def mk_g0 : Nat → va_E := fun _ => .inr (0, [])
def mk_gK (E : mk_E) (bs : Nat) : Nat → va_E := gg_X5_init E bs 1 0 (va_up mk_g0 0 (.inr (5, [.null, .null, .null, .null, .null, .null, .null, .null, .int 0, .int 0, .int 0, .int 0, .int 0])))
def mk_gM (E : mk_E) (bs : Nat) : Nat → va_E := gg_X6_init E bs 69 68 (va_up (mk_gK E bs) 68 (.inr (6, [.int 0, .null, .null, .null, .null, .null, .null, .int 0, .null, .int 0, .null, .null, .null, .null, .null, .null, .null, .null, .null, .null, .null, .int 0, .int 0, .int 0, .int 0, .int 0, .int 0, .null, .null, .int 0, .null, .null, .int 0, .null, .null])))
def mk_gF (E : mk_E) (bs : Nat) : Nat → va_E := va_up (mk_gM E bs) 93 (.inl (E.2.2.2.2, 1, .inr (.inl (fun _ => 0))))
set_option maxRecDepth 100000 in
theorem iw_0 (bs : Nat) (cI cZ cT cL : ClassId) : mk_gF (mk_E0 bs cI cZ cT cL) bs 0 = mk_rep (mk_E0 bs cI cZ cT cL) mk_M0 (fun _ => 0) 0 := by rfl
set_option maxRecDepth 100000 in
theorem iw_1 (bs : Nat) (cI cZ cT cL : ClassId) : mk_gF (mk_E0 bs cI cZ cT cL) bs 1 = mk_rep (mk_E0 bs cI cZ cT cL) mk_M0 (fun _ => 0) 1 := by rfl
set_option maxRecDepth 100000 in
theorem iw_3 (bs : Nat) (cI cZ cT cL : ClassId) : mk_gF (mk_E0 bs cI cZ cT cL) bs 55 = mk_rep (mk_E0 bs cI cZ cT cL) mk_M0 (fun _ => 0) 3 := by rfl
set_option maxRecDepth 100000 in
theorem iw_4 (bs : Nat) (cI cZ cT cL : ClassId) : mk_gF (mk_E0 bs cI cZ cT cL) bs 56 = mk_rep (mk_E0 bs cI cZ cT cL) mk_M0 (fun _ => 0) 4 := by rfl
set_option maxRecDepth 100000 in
theorem iw_5 (bs : Nat) (cI cZ cT cL : ClassId) : mk_gF (mk_E0 bs cI cZ cT cL) bs 57 = mk_rep (mk_E0 bs cI cZ cT cL) mk_M0 (fun _ => 0) 5 := by rfl
set_option maxRecDepth 100000 in
theorem iw_6 (bs : Nat) (cI cZ cT cL : ClassId) : mk_gF (mk_E0 bs cI cZ cT cL) bs 58 = mk_rep (mk_E0 bs cI cZ cT cL) mk_M0 (fun _ => 0) 6 := by rfl
set_option maxRecDepth 100000 in
theorem iw_7 (bs : Nat) (cI cZ cT cL : ClassId) : mk_gF (mk_E0 bs cI cZ cT cL) bs 59 = mk_rep (mk_E0 bs cI cZ cT cL) mk_M0 (fun _ => 0) 7 := by rfl
set_option maxRecDepth 100000 in
theorem iw_8 (bs : Nat) (cI cZ cT cL : ClassId) : mk_gF (mk_E0 bs cI cZ cT cL) bs 60 = mk_rep (mk_E0 bs cI cZ cT cL) mk_M0 (fun _ => 0) 8 := by rfl
set_option maxRecDepth 100000 in
theorem iw_9 (bs : Nat) (cI cZ cT cL : ClassId) : mk_gF (mk_E0 bs cI cZ cT cL) bs 61 = mk_rep (mk_E0 bs cI cZ cT cL) mk_M0 (fun _ => 0) 9 := by rfl
set_option maxRecDepth 100000 in
theorem iw_10 (bs : Nat) (cI cZ cT cL : ClassId) : mk_gF (mk_E0 bs cI cZ cT cL) bs 62 = mk_rep (mk_E0 bs cI cZ cT cL) mk_M0 (fun _ => 0) 10 := by rfl
set_option maxRecDepth 100000 in
theorem iw_11 (bs : Nat) (cI cZ cT cL : ClassId) : mk_gF (mk_E0 bs cI cZ cT cL) bs 63 = mk_rep (mk_E0 bs cI cZ cT cL) mk_M0 (fun _ => 0) 11 := by rfl
set_option maxRecDepth 100000 in
theorem iw_12 (bs : Nat) (cI cZ cT cL : ClassId) : mk_gF (mk_E0 bs cI cZ cT cL) bs 64 = mk_rep (mk_E0 bs cI cZ cT cL) mk_M0 (fun _ => 0) 12 := by rfl
set_option maxRecDepth 100000 in
theorem iw_13 (bs : Nat) (cI cZ cT cL : ClassId) : mk_gF (mk_E0 bs cI cZ cT cL) bs 65 = mk_rep (mk_E0 bs cI cZ cT cL) mk_M0 (fun _ => 0) 13 := by rfl
set_option maxRecDepth 100000 in
theorem iw_14 (bs : Nat) (cI cZ cT cL : ClassId) : mk_gF (mk_E0 bs cI cZ cT cL) bs 66 = mk_rep (mk_E0 bs cI cZ cT cL) mk_M0 (fun _ => 0) 14 := by rfl
set_option maxRecDepth 100000 in
theorem iw_15 (bs : Nat) (cI cZ cT cL : ClassId) : mk_gF (mk_E0 bs cI cZ cT cL) bs 67 = mk_rep (mk_E0 bs cI cZ cT cL) mk_M0 (fun _ => 0) 15 := by rfl
set_option maxRecDepth 100000 in
theorem iw_16 (bs : Nat) (cI cZ cT cL : ClassId) : mk_gF (mk_E0 bs cI cZ cT cL) bs 3 = mk_rep (mk_E0 bs cI cZ cT cL) mk_M0 (fun _ => 0) 16 := by rfl
set_option maxRecDepth 100000 in
theorem iw_17 (bs : Nat) (cI cZ cT cL : ClassId) : mk_gF (mk_E0 bs cI cZ cT cL) bs 4 = mk_rep (mk_E0 bs cI cZ cT cL) mk_M0 (fun _ => 0) 17 := by rfl
set_option maxRecDepth 100000 in
theorem iw_18 (bs : Nat) (cI cZ cT cL : ClassId) : mk_gF (mk_E0 bs cI cZ cT cL) bs 5 = mk_rep (mk_E0 bs cI cZ cT cL) mk_M0 (fun _ => 0) 18 := by rfl
set_option maxRecDepth 100000 in
theorem iw_19 (bs : Nat) (cI cZ cT cL : ClassId) : mk_gF (mk_E0 bs cI cZ cT cL) bs 6 = mk_rep (mk_E0 bs cI cZ cT cL) mk_M0 (fun _ => 0) 19 := by rfl
set_option maxRecDepth 100000 in
theorem iw_20 (bs : Nat) (cI cZ cT cL : ClassId) : mk_gF (mk_E0 bs cI cZ cT cL) bs 7 = mk_rep (mk_E0 bs cI cZ cT cL) mk_M0 (fun _ => 0) 20 := by rfl
set_option maxRecDepth 100000 in
theorem iw_21 (bs : Nat) (cI cZ cT cL : ClassId) : mk_gF (mk_E0 bs cI cZ cT cL) bs 8 = mk_rep (mk_E0 bs cI cZ cT cL) mk_M0 (fun _ => 0) 21 := by rfl
set_option maxRecDepth 100000 in
theorem iw_22 (bs : Nat) (cI cZ cT cL : ClassId) : mk_gF (mk_E0 bs cI cZ cT cL) bs 9 = mk_rep (mk_E0 bs cI cZ cT cL) mk_M0 (fun _ => 0) 22 := by rfl
set_option maxRecDepth 100000 in
theorem iw_23 (bs : Nat) (cI cZ cT cL : ClassId) : mk_gF (mk_E0 bs cI cZ cT cL) bs 10 = mk_rep (mk_E0 bs cI cZ cT cL) mk_M0 (fun _ => 0) 23 := by rfl
set_option maxRecDepth 100000 in
theorem iw_24 (bs : Nat) (cI cZ cT cL : ClassId) : mk_gF (mk_E0 bs cI cZ cT cL) bs 11 = mk_rep (mk_E0 bs cI cZ cT cL) mk_M0 (fun _ => 0) 24 := by rfl
set_option maxRecDepth 100000 in
theorem iw_25 (bs : Nat) (cI cZ cT cL : ClassId) : mk_gF (mk_E0 bs cI cZ cT cL) bs 12 = mk_rep (mk_E0 bs cI cZ cT cL) mk_M0 (fun _ => 0) 25 := by rfl
set_option maxRecDepth 100000 in
theorem iw_26 (bs : Nat) (cI cZ cT cL : ClassId) : mk_gF (mk_E0 bs cI cZ cT cL) bs 13 = mk_rep (mk_E0 bs cI cZ cT cL) mk_M0 (fun _ => 0) 26 := by rfl
set_option maxRecDepth 100000 in
theorem iw_27 (bs : Nat) (cI cZ cT cL : ClassId) : mk_gF (mk_E0 bs cI cZ cT cL) bs 14 = mk_rep (mk_E0 bs cI cZ cT cL) mk_M0 (fun _ => 0) 27 := by rfl
set_option maxRecDepth 100000 in
theorem iw_28 (bs : Nat) (cI cZ cT cL : ClassId) : mk_gF (mk_E0 bs cI cZ cT cL) bs 15 = mk_rep (mk_E0 bs cI cZ cT cL) mk_M0 (fun _ => 0) 28 := by rfl
set_option maxRecDepth 100000 in
theorem iw_29 (bs : Nat) (cI cZ cT cL : ClassId) : mk_gF (mk_E0 bs cI cZ cT cL) bs 16 = mk_rep (mk_E0 bs cI cZ cT cL) mk_M0 (fun _ => 0) 29 := by rfl
set_option maxRecDepth 100000 in
theorem iw_30 (bs : Nat) (cI cZ cT cL : ClassId) : mk_gF (mk_E0 bs cI cZ cT cL) bs 17 = mk_rep (mk_E0 bs cI cZ cT cL) mk_M0 (fun _ => 0) 30 := by rfl
set_option maxRecDepth 100000 in
theorem iw_31 (bs : Nat) (cI cZ cT cL : ClassId) : mk_gF (mk_E0 bs cI cZ cT cL) bs 18 = mk_rep (mk_E0 bs cI cZ cT cL) mk_M0 (fun _ => 0) 31 := by rfl
set_option maxRecDepth 100000 in
theorem iw_32 (bs : Nat) (cI cZ cT cL : ClassId) : mk_gF (mk_E0 bs cI cZ cT cL) bs 19 = mk_rep (mk_E0 bs cI cZ cT cL) mk_M0 (fun _ => 0) 32 := by rfl
set_option maxRecDepth 100000 in
theorem iw_33 (bs : Nat) (cI cZ cT cL : ClassId) : mk_gF (mk_E0 bs cI cZ cT cL) bs 20 = mk_rep (mk_E0 bs cI cZ cT cL) mk_M0 (fun _ => 0) 33 := by rfl
set_option maxRecDepth 100000 in
theorem iw_34 (bs : Nat) (cI cZ cT cL : ClassId) : mk_gF (mk_E0 bs cI cZ cT cL) bs 21 = mk_rep (mk_E0 bs cI cZ cT cL) mk_M0 (fun _ => 0) 34 := by rfl
set_option maxRecDepth 100000 in
theorem iw_35 (bs : Nat) (cI cZ cT cL : ClassId) : mk_gF (mk_E0 bs cI cZ cT cL) bs 22 = mk_rep (mk_E0 bs cI cZ cT cL) mk_M0 (fun _ => 0) 35 := by rfl
set_option maxRecDepth 100000 in
theorem iw_36 (bs : Nat) (cI cZ cT cL : ClassId) : mk_gF (mk_E0 bs cI cZ cT cL) bs 23 = mk_rep (mk_E0 bs cI cZ cT cL) mk_M0 (fun _ => 0) 36 := by rfl
set_option maxRecDepth 100000 in
theorem iw_37 (bs : Nat) (cI cZ cT cL : ClassId) : mk_gF (mk_E0 bs cI cZ cT cL) bs 24 = mk_rep (mk_E0 bs cI cZ cT cL) mk_M0 (fun _ => 0) 37 := by rfl
set_option maxRecDepth 100000 in
theorem iw_38 (bs : Nat) (cI cZ cT cL : ClassId) : mk_gF (mk_E0 bs cI cZ cT cL) bs 25 = mk_rep (mk_E0 bs cI cZ cT cL) mk_M0 (fun _ => 0) 38 := by rfl
set_option maxRecDepth 100000 in
theorem iw_39 (bs : Nat) (cI cZ cT cL : ClassId) : mk_gF (mk_E0 bs cI cZ cT cL) bs 26 = mk_rep (mk_E0 bs cI cZ cT cL) mk_M0 (fun _ => 0) 39 := by rfl
set_option maxRecDepth 100000 in
theorem iw_40 (bs : Nat) (cI cZ cT cL : ClassId) : mk_gF (mk_E0 bs cI cZ cT cL) bs 27 = mk_rep (mk_E0 bs cI cZ cT cL) mk_M0 (fun _ => 0) 40 := by rfl
set_option maxRecDepth 100000 in
theorem iw_41 (bs : Nat) (cI cZ cT cL : ClassId) : mk_gF (mk_E0 bs cI cZ cT cL) bs 28 = mk_rep (mk_E0 bs cI cZ cT cL) mk_M0 (fun _ => 0) 41 := by rfl
set_option maxRecDepth 100000 in
theorem iw_42 (bs : Nat) (cI cZ cT cL : ClassId) : mk_gF (mk_E0 bs cI cZ cT cL) bs 29 = mk_rep (mk_E0 bs cI cZ cT cL) mk_M0 (fun _ => 0) 42 := by rfl
set_option maxRecDepth 100000 in
theorem iw_43 (bs : Nat) (cI cZ cT cL : ClassId) : mk_gF (mk_E0 bs cI cZ cT cL) bs 30 = mk_rep (mk_E0 bs cI cZ cT cL) mk_M0 (fun _ => 0) 43 := by rfl
set_option maxRecDepth 100000 in
theorem iw_44 (bs : Nat) (cI cZ cT cL : ClassId) : mk_gF (mk_E0 bs cI cZ cT cL) bs 31 = mk_rep (mk_E0 bs cI cZ cT cL) mk_M0 (fun _ => 0) 44 := by rfl
set_option maxRecDepth 100000 in
theorem iw_45 (bs : Nat) (cI cZ cT cL : ClassId) : mk_gF (mk_E0 bs cI cZ cT cL) bs 32 = mk_rep (mk_E0 bs cI cZ cT cL) mk_M0 (fun _ => 0) 45 := by rfl
set_option maxRecDepth 100000 in
theorem iw_46 (bs : Nat) (cI cZ cT cL : ClassId) : mk_gF (mk_E0 bs cI cZ cT cL) bs 33 = mk_rep (mk_E0 bs cI cZ cT cL) mk_M0 (fun _ => 0) 46 := by rfl
set_option maxRecDepth 100000 in
theorem iw_47 (bs : Nat) (cI cZ cT cL : ClassId) : mk_gF (mk_E0 bs cI cZ cT cL) bs 34 = mk_rep (mk_E0 bs cI cZ cT cL) mk_M0 (fun _ => 0) 47 := by rfl
set_option maxRecDepth 100000 in
theorem iw_48 (bs : Nat) (cI cZ cT cL : ClassId) : mk_gF (mk_E0 bs cI cZ cT cL) bs 35 = mk_rep (mk_E0 bs cI cZ cT cL) mk_M0 (fun _ => 0) 48 := by rfl
set_option maxRecDepth 100000 in
theorem iw_49 (bs : Nat) (cI cZ cT cL : ClassId) : mk_gF (mk_E0 bs cI cZ cT cL) bs 36 = mk_rep (mk_E0 bs cI cZ cT cL) mk_M0 (fun _ => 0) 49 := by rfl
set_option maxRecDepth 100000 in
theorem iw_50 (bs : Nat) (cI cZ cT cL : ClassId) : mk_gF (mk_E0 bs cI cZ cT cL) bs 37 = mk_rep (mk_E0 bs cI cZ cT cL) mk_M0 (fun _ => 0) 50 := by rfl
set_option maxRecDepth 100000 in
theorem iw_51 (bs : Nat) (cI cZ cT cL : ClassId) : mk_gF (mk_E0 bs cI cZ cT cL) bs 38 = mk_rep (mk_E0 bs cI cZ cT cL) mk_M0 (fun _ => 0) 51 := by rfl
set_option maxRecDepth 100000 in
theorem iw_52 (bs : Nat) (cI cZ cT cL : ClassId) : mk_gF (mk_E0 bs cI cZ cT cL) bs 39 = mk_rep (mk_E0 bs cI cZ cT cL) mk_M0 (fun _ => 0) 52 := by rfl
set_option maxRecDepth 100000 in
theorem iw_53 (bs : Nat) (cI cZ cT cL : ClassId) : mk_gF (mk_E0 bs cI cZ cT cL) bs 40 = mk_rep (mk_E0 bs cI cZ cT cL) mk_M0 (fun _ => 0) 53 := by rfl
set_option maxRecDepth 100000 in
theorem iw_54 (bs : Nat) (cI cZ cT cL : ClassId) : mk_gF (mk_E0 bs cI cZ cT cL) bs 41 = mk_rep (mk_E0 bs cI cZ cT cL) mk_M0 (fun _ => 0) 54 := by rfl
set_option maxRecDepth 100000 in
theorem iw_55 (bs : Nat) (cI cZ cT cL : ClassId) : mk_gF (mk_E0 bs cI cZ cT cL) bs 42 = mk_rep (mk_E0 bs cI cZ cT cL) mk_M0 (fun _ => 0) 55 := by rfl
set_option maxRecDepth 100000 in
theorem iw_56 (bs : Nat) (cI cZ cT cL : ClassId) : mk_gF (mk_E0 bs cI cZ cT cL) bs 43 = mk_rep (mk_E0 bs cI cZ cT cL) mk_M0 (fun _ => 0) 56 := by rfl
set_option maxRecDepth 100000 in
theorem iw_57 (bs : Nat) (cI cZ cT cL : ClassId) : mk_gF (mk_E0 bs cI cZ cT cL) bs 44 = mk_rep (mk_E0 bs cI cZ cT cL) mk_M0 (fun _ => 0) 57 := by rfl
set_option maxRecDepth 100000 in
theorem iw_58 (bs : Nat) (cI cZ cT cL : ClassId) : mk_gF (mk_E0 bs cI cZ cT cL) bs 45 = mk_rep (mk_E0 bs cI cZ cT cL) mk_M0 (fun _ => 0) 58 := by rfl
set_option maxRecDepth 100000 in
theorem iw_59 (bs : Nat) (cI cZ cT cL : ClassId) : mk_gF (mk_E0 bs cI cZ cT cL) bs 46 = mk_rep (mk_E0 bs cI cZ cT cL) mk_M0 (fun _ => 0) 59 := by rfl
set_option maxRecDepth 100000 in
theorem iw_60 (bs : Nat) (cI cZ cT cL : ClassId) : mk_gF (mk_E0 bs cI cZ cT cL) bs 47 = mk_rep (mk_E0 bs cI cZ cT cL) mk_M0 (fun _ => 0) 60 := by rfl
set_option maxRecDepth 100000 in
theorem iw_61 (bs : Nat) (cI cZ cT cL : ClassId) : mk_gF (mk_E0 bs cI cZ cT cL) bs 48 = mk_rep (mk_E0 bs cI cZ cT cL) mk_M0 (fun _ => 0) 61 := by rfl
set_option maxRecDepth 100000 in
theorem iw_62 (bs : Nat) (cI cZ cT cL : ClassId) : mk_gF (mk_E0 bs cI cZ cT cL) bs 49 = mk_rep (mk_E0 bs cI cZ cT cL) mk_M0 (fun _ => 0) 62 := by rfl
set_option maxRecDepth 100000 in
theorem iw_63 (bs : Nat) (cI cZ cT cL : ClassId) : mk_gF (mk_E0 bs cI cZ cT cL) bs 50 = mk_rep (mk_E0 bs cI cZ cT cL) mk_M0 (fun _ => 0) 63 := by rfl
set_option maxRecDepth 100000 in
theorem iw_64 (bs : Nat) (cI cZ cT cL : ClassId) : mk_gF (mk_E0 bs cI cZ cT cL) bs 51 = mk_rep (mk_E0 bs cI cZ cT cL) mk_M0 (fun _ => 0) 64 := by rfl
set_option maxRecDepth 100000 in
theorem iw_65 (bs : Nat) (cI cZ cT cL : ClassId) : mk_gF (mk_E0 bs cI cZ cT cL) bs 52 = mk_rep (mk_E0 bs cI cZ cT cL) mk_M0 (fun _ => 0) 65 := by rfl
set_option maxRecDepth 100000 in
theorem iw_66 (bs : Nat) (cI cZ cT cL : ClassId) : mk_gF (mk_E0 bs cI cZ cT cL) bs 53 = mk_rep (mk_E0 bs cI cZ cT cL) mk_M0 (fun _ => 0) 66 := by rfl
set_option maxRecDepth 100000 in
theorem iw_67 (bs : Nat) (cI cZ cT cL : ClassId) : mk_gF (mk_E0 bs cI cZ cT cL) bs 54 = mk_rep (mk_E0 bs cI cZ cT cL) mk_M0 (fun _ => 0) 67 := by rfl
set_option maxRecDepth 100000 in
theorem iw_68 (bs : Nat) (cI cZ cT cL : ClassId) : mk_gF (mk_E0 bs cI cZ cT cL) bs 68 = mk_rep (mk_E0 bs cI cZ cT cL) mk_M0 (fun _ => 0) 68 := by rfl
set_option maxRecDepth 100000 in
theorem iw_69 (bs : Nat) (cI cZ cT cL : ClassId) : mk_gF (mk_E0 bs cI cZ cT cL) bs 69 = mk_rep (mk_E0 bs cI cZ cT cL) mk_M0 (fun _ => 0) 69 := by rfl
set_option maxRecDepth 100000 in
theorem iw_70 (bs : Nat) (cI cZ cT cL : ClassId) : mk_gF (mk_E0 bs cI cZ cT cL) bs 70 = mk_rep (mk_E0 bs cI cZ cT cL) mk_M0 (fun _ => 0) 70 := by rfl
set_option maxRecDepth 100000 in
theorem iw_71 (bs : Nat) (cI cZ cT cL : ClassId) : mk_gF (mk_E0 bs cI cZ cT cL) bs 71 = mk_rep (mk_E0 bs cI cZ cT cL) mk_M0 (fun _ => 0) 71 := by rfl
set_option maxRecDepth 100000 in
theorem iw_72 (bs : Nat) (cI cZ cT cL : ClassId) : mk_gF (mk_E0 bs cI cZ cT cL) bs 72 = mk_rep (mk_E0 bs cI cZ cT cL) mk_M0 (fun _ => 0) 72 := by rfl
set_option maxRecDepth 100000 in
theorem iw_73 (bs : Nat) (cI cZ cT cL : ClassId) : mk_gF (mk_E0 bs cI cZ cT cL) bs 73 = mk_rep (mk_E0 bs cI cZ cT cL) mk_M0 (fun _ => 0) 73 := by rfl
set_option maxRecDepth 100000 in
theorem iw_74 (bs : Nat) (cI cZ cT cL : ClassId) : mk_gF (mk_E0 bs cI cZ cT cL) bs 74 = mk_rep (mk_E0 bs cI cZ cT cL) mk_M0 (fun _ => 0) 74 := by rfl
set_option maxRecDepth 100000 in
theorem iw_75 (bs : Nat) (cI cZ cT cL : ClassId) : mk_gF (mk_E0 bs cI cZ cT cL) bs 75 = mk_rep (mk_E0 bs cI cZ cT cL) mk_M0 (fun _ => 0) 75 := by rfl
set_option maxRecDepth 100000 in
theorem iw_76 (bs : Nat) (cI cZ cT cL : ClassId) : mk_gF (mk_E0 bs cI cZ cT cL) bs 76 = mk_rep (mk_E0 bs cI cZ cT cL) mk_M0 (fun _ => 0) 76 := by rfl
set_option maxRecDepth 100000 in
theorem iw_77 (bs : Nat) (cI cZ cT cL : ClassId) : mk_gF (mk_E0 bs cI cZ cT cL) bs 77 = mk_rep (mk_E0 bs cI cZ cT cL) mk_M0 (fun _ => 0) 77 := by rfl
set_option maxRecDepth 100000 in
theorem iw_78 (bs : Nat) (cI cZ cT cL : ClassId) : mk_gF (mk_E0 bs cI cZ cT cL) bs 78 = mk_rep (mk_E0 bs cI cZ cT cL) mk_M0 (fun _ => 0) 78 := by rfl
set_option maxRecDepth 100000 in
theorem iw_79 (bs : Nat) (cI cZ cT cL : ClassId) : mk_gF (mk_E0 bs cI cZ cT cL) bs 79 = mk_rep (mk_E0 bs cI cZ cT cL) mk_M0 (fun _ => 0) 79 := by rfl
set_option maxRecDepth 100000 in
theorem iw_80 (bs : Nat) (cI cZ cT cL : ClassId) : mk_gF (mk_E0 bs cI cZ cT cL) bs 80 = mk_rep (mk_E0 bs cI cZ cT cL) mk_M0 (fun _ => 0) 80 := by rfl
set_option maxRecDepth 100000 in
theorem iw_81 (bs : Nat) (cI cZ cT cL : ClassId) : mk_gF (mk_E0 bs cI cZ cT cL) bs 81 = mk_rep (mk_E0 bs cI cZ cT cL) mk_M0 (fun _ => 0) 81 := by rfl
set_option maxRecDepth 100000 in
theorem iw_82 (bs : Nat) (cI cZ cT cL : ClassId) : mk_gF (mk_E0 bs cI cZ cT cL) bs 82 = mk_rep (mk_E0 bs cI cZ cT cL) mk_M0 (fun _ => 0) 82 := by rfl
set_option maxRecDepth 100000 in
theorem iw_83 (bs : Nat) (cI cZ cT cL : ClassId) : mk_gF (mk_E0 bs cI cZ cT cL) bs 83 = mk_rep (mk_E0 bs cI cZ cT cL) mk_M0 (fun _ => 0) 83 := by rfl
set_option maxRecDepth 100000 in
theorem iw_84 (bs : Nat) (cI cZ cT cL : ClassId) : mk_gF (mk_E0 bs cI cZ cT cL) bs 84 = mk_rep (mk_E0 bs cI cZ cT cL) mk_M0 (fun _ => 0) 84 := by rfl
set_option maxRecDepth 100000 in
theorem iw_85 (bs : Nat) (cI cZ cT cL : ClassId) : mk_gF (mk_E0 bs cI cZ cT cL) bs 85 = mk_rep (mk_E0 bs cI cZ cT cL) mk_M0 (fun _ => 0) 85 := by rfl
set_option maxRecDepth 100000 in
theorem iw_86 (bs : Nat) (cI cZ cT cL : ClassId) : mk_gF (mk_E0 bs cI cZ cT cL) bs 86 = mk_rep (mk_E0 bs cI cZ cT cL) mk_M0 (fun _ => 0) 86 := by rfl
set_option maxRecDepth 100000 in
theorem iw_87 (bs : Nat) (cI cZ cT cL : ClassId) : mk_gF (mk_E0 bs cI cZ cT cL) bs 87 = mk_rep (mk_E0 bs cI cZ cT cL) mk_M0 (fun _ => 0) 87 := by rfl
set_option maxRecDepth 100000 in
theorem iw_88 (bs : Nat) (cI cZ cT cL : ClassId) : mk_gF (mk_E0 bs cI cZ cT cL) bs 88 = mk_rep (mk_E0 bs cI cZ cT cL) mk_M0 (fun _ => 0) 88 := by rfl
set_option maxRecDepth 100000 in
theorem iw_89 (bs : Nat) (cI cZ cT cL : ClassId) : mk_gF (mk_E0 bs cI cZ cT cL) bs 89 = mk_rep (mk_E0 bs cI cZ cT cL) mk_M0 (fun _ => 0) 89 := by rfl
set_option maxRecDepth 100000 in
theorem iw_90 (bs : Nat) (cI cZ cT cL : ClassId) : mk_gF (mk_E0 bs cI cZ cT cL) bs 90 = mk_rep (mk_E0 bs cI cZ cT cL) mk_M0 (fun _ => 0) 90 := by rfl
set_option maxRecDepth 100000 in
theorem iw_91 (bs : Nat) (cI cZ cT cL : ClassId) : mk_gF (mk_E0 bs cI cZ cT cL) bs 91 = mk_rep (mk_E0 bs cI cZ cT cL) mk_M0 (fun _ => 0) 91 := by rfl
set_option maxRecDepth 100000 in
theorem iw_92 (bs : Nat) (cI cZ cT cL : ClassId) : mk_gF (mk_E0 bs cI cZ cT cL) bs 92 = mk_rep (mk_E0 bs cI cZ cT cL) mk_M0 (fun _ => 0) 92 := by rfl
set_option maxRecDepth 100000 in
theorem iw_93 (bs : Nat) (cI cZ cT cL : ClassId) : mk_gF (mk_E0 bs cI cZ cT cL) bs 93 = mk_rep (mk_E0 bs cI cZ cT cL) mk_M0 (fun _ => 0) 93 := by rfl
set_option maxRecDepth 100000 in
theorem iw_2 (bs : Nat) (cI cZ cT cL : ClassId) : mk_gF (mk_E0 bs cI cZ cT cL) bs 2 = .inl (cT, 13, .inr (.inr (.inr (.inr (ct_row bs 2 13))))) := by rfl
theorem iw_cell {cA : ClassId} {n : Nat} {f g : Nat → Option Nat} (h : ∀ j, j < n → f j = g j) : vp_cell cA (n, .inr (.inr (.inr (.inr f)))) = vp_cell cA (n, .inr (.inr (.inr (.inr g)))) := by
  rw [vp_cell_q, vp_cell_q]
  simp only [arrV]
  congr 1
  apply Array.ext
  · simp
  · intro i h1 h2
    simp at h1
    simp [h i h1]
theorem iw_all (bs : Nat) (cI cZ cT cL : ClassId) : ∀ k, k < 94 → k ≠ 2 → mk_gF (mk_E0 bs cI cZ cT cL) bs (mk_pm k) = mk_rep (mk_E0 bs cI cZ cT cL) mk_M0 (fun _ => 0) k
  | 0, _, _ => iw_0 bs cI cZ cT cL
  | 1, _, _ => iw_1 bs cI cZ cT cL
  | 3, _, _ => iw_3 bs cI cZ cT cL
  | 4, _, _ => iw_4 bs cI cZ cT cL
  | 5, _, _ => iw_5 bs cI cZ cT cL
  | 6, _, _ => iw_6 bs cI cZ cT cL
  | 7, _, _ => iw_7 bs cI cZ cT cL
  | 8, _, _ => iw_8 bs cI cZ cT cL
  | 9, _, _ => iw_9 bs cI cZ cT cL
  | 10, _, _ => iw_10 bs cI cZ cT cL
  | 11, _, _ => iw_11 bs cI cZ cT cL
  | 12, _, _ => iw_12 bs cI cZ cT cL
  | 13, _, _ => iw_13 bs cI cZ cT cL
  | 14, _, _ => iw_14 bs cI cZ cT cL
  | 15, _, _ => iw_15 bs cI cZ cT cL
  | 16, _, _ => iw_16 bs cI cZ cT cL
  | 17, _, _ => iw_17 bs cI cZ cT cL
  | 18, _, _ => iw_18 bs cI cZ cT cL
  | 19, _, _ => iw_19 bs cI cZ cT cL
  | 20, _, _ => iw_20 bs cI cZ cT cL
  | 21, _, _ => iw_21 bs cI cZ cT cL
  | 22, _, _ => iw_22 bs cI cZ cT cL
  | 23, _, _ => iw_23 bs cI cZ cT cL
  | 24, _, _ => iw_24 bs cI cZ cT cL
  | 25, _, _ => iw_25 bs cI cZ cT cL
  | 26, _, _ => iw_26 bs cI cZ cT cL
  | 27, _, _ => iw_27 bs cI cZ cT cL
  | 28, _, _ => iw_28 bs cI cZ cT cL
  | 29, _, _ => iw_29 bs cI cZ cT cL
  | 30, _, _ => iw_30 bs cI cZ cT cL
  | 31, _, _ => iw_31 bs cI cZ cT cL
  | 32, _, _ => iw_32 bs cI cZ cT cL
  | 33, _, _ => iw_33 bs cI cZ cT cL
  | 34, _, _ => iw_34 bs cI cZ cT cL
  | 35, _, _ => iw_35 bs cI cZ cT cL
  | 36, _, _ => iw_36 bs cI cZ cT cL
  | 37, _, _ => iw_37 bs cI cZ cT cL
  | 38, _, _ => iw_38 bs cI cZ cT cL
  | 39, _, _ => iw_39 bs cI cZ cT cL
  | 40, _, _ => iw_40 bs cI cZ cT cL
  | 41, _, _ => iw_41 bs cI cZ cT cL
  | 42, _, _ => iw_42 bs cI cZ cT cL
  | 43, _, _ => iw_43 bs cI cZ cT cL
  | 44, _, _ => iw_44 bs cI cZ cT cL
  | 45, _, _ => iw_45 bs cI cZ cT cL
  | 46, _, _ => iw_46 bs cI cZ cT cL
  | 47, _, _ => iw_47 bs cI cZ cT cL
  | 48, _, _ => iw_48 bs cI cZ cT cL
  | 49, _, _ => iw_49 bs cI cZ cT cL
  | 50, _, _ => iw_50 bs cI cZ cT cL
  | 51, _, _ => iw_51 bs cI cZ cT cL
  | 52, _, _ => iw_52 bs cI cZ cT cL
  | 53, _, _ => iw_53 bs cI cZ cT cL
  | 54, _, _ => iw_54 bs cI cZ cT cL
  | 55, _, _ => iw_55 bs cI cZ cT cL
  | 56, _, _ => iw_56 bs cI cZ cT cL
  | 57, _, _ => iw_57 bs cI cZ cT cL
  | 58, _, _ => iw_58 bs cI cZ cT cL
  | 59, _, _ => iw_59 bs cI cZ cT cL
  | 60, _, _ => iw_60 bs cI cZ cT cL
  | 61, _, _ => iw_61 bs cI cZ cT cL
  | 62, _, _ => iw_62 bs cI cZ cT cL
  | 63, _, _ => iw_63 bs cI cZ cT cL
  | 64, _, _ => iw_64 bs cI cZ cT cL
  | 65, _, _ => iw_65 bs cI cZ cT cL
  | 66, _, _ => iw_66 bs cI cZ cT cL
  | 67, _, _ => iw_67 bs cI cZ cT cL
  | 68, _, _ => iw_68 bs cI cZ cT cL
  | 69, _, _ => iw_69 bs cI cZ cT cL
  | 70, _, _ => iw_70 bs cI cZ cT cL
  | 71, _, _ => iw_71 bs cI cZ cT cL
  | 72, _, _ => iw_72 bs cI cZ cT cL
  | 73, _, _ => iw_73 bs cI cZ cT cL
  | 74, _, _ => iw_74 bs cI cZ cT cL
  | 75, _, _ => iw_75 bs cI cZ cT cL
  | 76, _, _ => iw_76 bs cI cZ cT cL
  | 77, _, _ => iw_77 bs cI cZ cT cL
  | 78, _, _ => iw_78 bs cI cZ cT cL
  | 79, _, _ => iw_79 bs cI cZ cT cL
  | 80, _, _ => iw_80 bs cI cZ cT cL
  | 81, _, _ => iw_81 bs cI cZ cT cL
  | 82, _, _ => iw_82 bs cI cZ cT cL
  | 83, _, _ => iw_83 bs cI cZ cT cL
  | 84, _, _ => iw_84 bs cI cZ cT cL
  | 85, _, _ => iw_85 bs cI cZ cT cL
  | 86, _, _ => iw_86 bs cI cZ cT cL
  | 87, _, _ => iw_87 bs cI cZ cT cL
  | 88, _, _ => iw_88 bs cI cZ cT cL
  | 89, _, _ => iw_89 bs cI cZ cT cL
  | 90, _, _ => iw_90 bs cI cZ cT cL
  | 91, _, _ => iw_91 bs cI cZ cT cL
  | 92, _, _ => iw_92 bs cI cZ cT cL
  | 93, _, _ => iw_93 bs cI cZ cT cL
  | 2, _, h => absurd rfl h
  | k + 94, h, _ => absurd h (by omega)
theorem mk_pm_lt {x : Nat} (h : x < 94) : mk_pm x < 94 := by unfold mk_pm; split <;> first | omega | (split <;> first | omega | (split <;> omega))
theorem mk_pm_inj {x y : Nat} (hx : x < 94) (hy : y < 94) (h : mk_pm x = mk_pm y) : x = y := by
  unfold mk_pm at h
  split at h <;> split at h <;> (try split at h) <;> (try split at h) <;> (try split at h) <;> (try split at h) <;> omega
theorem iw_P {D : va_G} {bs : Nat} {cI cZ cT cL : ClassId} {H : Heap} (hP : va_P D vwCl (ct_w bs 94 (mk_gF (mk_E0 bs cI cZ cT cL) bs)) H) : va_P D vwCl (mk_wl (mk_E0 bs cI cZ cT cL) mk_M0 (fun _ => 0)) H := by
  intro k q hk
  by_cases hl : k < 94
  · rw [mk_get _ _ _ hl] at hk
    cases hk
    have h1 := hP (mk_pm k) _ (ct_get (mk_pm_lt hl))
    by_cases h2 : k = 2
    · subst h2
      have h3 : H[bs + 2]? = some (vp_cell cT (13, .inr (.inr (.inr (.inr (ct_row bs 2 13)))))) := by
        have h4 : va_at D vwCl (bs + 2, mk_gF (mk_E0 bs cI cZ cT cL) bs 2) H := h1
        rw [iw_2] at h4
        exact h4
      show H[bs + 2]? = some (vp_cell cT (13, .inr (.inr (.inr (.inr (fun i => some (bs + mk_pm (16 + 4 * i))))))))
      rw [h3]
      exact congrArg some (iw_cell (fun j hj => by
        have e1 : mk_pm (16 + 4 * j) = 2 + 1 + 4 * j := by unfold mk_pm; rw [if_neg (by omega), if_neg (by omega), if_pos (by omega)]; omega
        rw [e1]; simp [ct_row, hj]))
    · rw [iw_all bs cI cZ cT cL k hl h2] at h1
      exact h1
  · rw [List.getElem?_eq_none (by simpa [mk_wl] using hl)] at hk
    cases hk
theorem iw_D (bs : Nat) (cI cZ cT cL : ClassId) (M : mk_M) (L : Nat → Int64) : va_D (mk_A (mk_E0 bs cI cZ cT cL)) (mk_wl (mk_E0 bs cI cZ cT cL) M L) := by
  have key : ∀ (k : Nat) (q : Nat × va_E), (mk_wl (mk_E0 bs cI cZ cT cL) M L)[k]? = some q → k < 94 ∧ q.1 = bs + mk_pm k := by
    intro k q hk
    by_cases hl : k < 94
    · rw [mk_get _ _ _ hl] at hk; cases hk; exact ⟨hl, rfl⟩
    · rw [List.getElem?_eq_none (by simpa [mk_wl] using hl)] at hk; cases hk
  refine ⟨fun i j x y hi hj hxy => ?_, fun k q hk => ?_⟩
  · obtain ⟨l1, e1⟩ := key i x hi
    obtain ⟨l2, e2⟩ := key j y hj
    exact mk_pm_inj l1 l2 (by omega)
  · obtain ⟨l1, e1⟩ := key k q hk
    exact ⟨k, l1, e1.symm⟩
