/-! the end: the relation is kept by all sixteen operations -/
theorem my_sim : ll_Sim rr_Rel := ⟨rr_init, rs_seal, rs_feed, rs_feedByte, rs_fault, rs_isProtected, rs_register, rs_lookup, rs_module, rs_count, rs_at, rs_poke, rs_symbol, rs_unload, rs_load, rs_call, rs_peek⟩
theorem i_vc : Claimed_1_1 ∧ Claimed_1_2 := lw_all my_sim
