theorem sim_main : ∃ I : St → SM → Prop, Sim I ∧ I sX0 sM0 := sorry
