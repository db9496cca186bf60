theorem op_order : lw_o16 Rl := by sorry
