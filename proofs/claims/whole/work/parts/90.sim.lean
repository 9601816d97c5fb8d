def RelX (sc sm : PS) : Prop := sc 0 0 = sm 0 0
theorem sim_all : Sim RelX := sorry
theorem rel_start : RelX stC0 stM0 := sorry
