/-! THE CLAIM -/
theorem i_vc : Claimed_1_1 ∧ Claimed_1_2 := i_vc_of ⟨pr_feed, pr_realm, pr_fault, pr_where, pr_owes, pr_wins, pr_judge, pr_sure, pr_force, pr_chain, pr_ring, pr_way, pr_stop, pr_length, pr_partner, pr_saves, pr_coin, pr_worth, pr_hangs, pr_moves, pr_brings, pr_part, pr_lose, pr_find, pr_date, pr_grant, pr_cart, pr_led, pr_size, pr_trouble⟩ inv_ok inv_start
