/-! every call answers alike and keeps the relation -/
theorem sim_all : SIM Rel := ⟨sim_feed, sim_end, sim_text, sim_fault, sim_hand, sim_day, sim_of, sim_sign, sim_word, sim_as, sim_prove, sim_step, sim_undo, sim_proof, sim_show, sim_stepOf, sim_leans, sim_change, sim_seek, sim_take, sim_holds, sim_worlds, sim_denied, sim_like, sim_find, sim_teach, sim_sheet, sim_lay, sim_read, sim_count⟩
