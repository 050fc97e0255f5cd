theorem pu_step : mk_Step pu_I := ⟨fun n M hn h => h.up (Nat.le_succ n) hn (pu_ag.rf M), pu_s0, pu_s1, pu_s2, pu_s3, pu_s4, pu_s5, pu_s6, pu_s7, pu_s8, pu_s9, pu_s10, pu_s11, pu_s12⟩
