theorem pu_step : mk_Step pu_I := sorry
