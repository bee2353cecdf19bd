theorem pure_main : ∃ RR : GX → GM → Prop, AllEqv RR ∧ ∃ (x1 : GX) (μ1 : GM), f_X4_init xZ = some ((), x1) ∧ f_X5_init mZ = some ((), μ1) ∧ RR x1 μ1 := sorry
