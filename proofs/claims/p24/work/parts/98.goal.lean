theorem cr_goal_holds : cr_goal := sorry
