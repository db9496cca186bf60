theorem op_board : lw_o10 Rl := by sorry
theorem op_order : lw_o16 Rl := by sorry
