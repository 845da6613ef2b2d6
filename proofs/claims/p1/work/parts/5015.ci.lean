section
theorem eJ0_ci {g : ax_G} {Ret : Option Value → ax_H → Prop} {x0 x1 : Int32} {h : ax_H} (v : (x0 < 0 → False) ∧ (¬ (x0 < 0) → ((x0 < x1 → Ret none h) ∧ (¬ (x0 < x1) → False)))) : ax_M g 2 0 0 yJ0_checkIndex_df160 cJ0_checkIndex_df160 2 none [.int x0, .int x1] h Ret := sorry
end
