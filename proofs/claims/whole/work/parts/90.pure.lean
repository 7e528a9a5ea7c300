/-! ===== all verbs ===== -/
theorem lb_thing : law_b_thing ovInv := fun σ h a b => by
  have q := v_thing h.1 a b
  rw [h.eq] at q
  exact q
theorem lb_toss : law_b_toss ovInv := fun σ h a b => by
  have q := v_toss h.1 a b
  rw [h.eq] at q
  exact q
theorem lb_told : law_b_told ovInv := fun σ h a b => by
  have q := v_told h.1 a b
  rw [h.eq] at q
  exact q
theorem lb_as : law_b_as ovInv := fun σ h a b => by
  have q := v_as h.1 a b
  rw [h.eq] at q
  exact q
theorem lb_turns : law_b_turns ovInv := fun σ h a b => by
  have q := v_turns h.1 a b
  rw [h.eq] at q
  exact q
theorem lb_set : law_b_set ovInv := fun σ h a b c => by
  have q := v_set h.1 a b c
  rw [h.eq] at q
  exact q
theorem lb_deal : law_b_deal ovInv := fun σ h a => by
  have q := v_deal h.1 a
  rw [h.eq] at q
  exact q
theorem lb_seed : law_b_seed ovInv := fun σ h a => by
  have q := v_seed h.1 a
  rw [h.eq] at q
  exact q
theorem lb_pot : law_b_pot ovInv := fun σ h a b => by
  have q := v_pot h.1 a b
  rw [h.eq] at q
  exact q
theorem lb_days : law_b_days ovInv := fun σ h a => by
  have q := v_days h.1 a
  rw [h.eq] at q
  exact q
theorem lb_taste : law_b_taste ovInv := fun σ h => by
  have q := v_taste h.1
  rw [h.eq] at q
  exact q
theorem lb_grams : law_b_grams ovInv := fun σ h a => by
  have q := v_grams h.1 a
  rw [h.eq] at q
  exact q
theorem lb_lot : law_b_lot ovInv := fun σ h => by
  have q := v_lot h.1
  rw [h.eq] at q
  exact q
theorem lb_behind : law_b_behind ovInv := fun σ h a b c => by
  have q := v_behind h.1 a b c
  rw [h.eq] at q
  exact q
theorem lb_tasted : law_b_tasted ovInv := fun σ h a => by
  have q := v_tasted h.1 a
  rw [h.eq] at q
  exact q
theorem lb_steer : law_b_steer ovInv := fun σ h a b c => by
  have q := v_steer h.1 a b c
  rw [h.eq] at q
  exact q
theorem lb_leastPot : law_b_leastPot ovInv := fun σ h a b c => by
  have q := v_leastPot h.1 a b c
  rw [h.eq] at q
  exact q
theorem lb_nearest : law_b_nearest ovInv := fun σ h a => by
  have q := v_nearest h.1 a
  rw [h.eq] at q
  exact q
theorem lb_thrown : law_b_thrown ovInv := fun σ h a b => v_thrown h a b
theorem lb_halved : law_b_halved ovInv := fun σ h => v_halved h
theorem lb_differs : law_b_differs ovInv := fun σ h => v_differs h
theorem lb_feed : law_b_feed ovInv := fun σ h a b c => v_feed h a b c
theorem lb_trim : law_b_trim ovInv := fun σ h a => v_trim h a
theorem lb_text : law_b_text ovInv := fun σ h => v_text h
theorem lb_textTold : law_b_textTold ovInv := fun σ h a b => v_textTold h a b
theorem lb_why : law_b_why ovInv := fun σ h a => v_why h a
theorem lb_sheet : law_b_sheet ovInv := fun σ h a b c => v_sheet h a b c
theorem lb_mark : law_b_mark ovInv := fun σ h a b c => v_mark h a b c
theorem lb_pour : law_b_pour ovInv := fun σ h a => v_pour h a
theorem lb_reads : law_b_reads ovInv := fun σ h a => v_reads h a
theorem lb_copy : law_b_copy ovInv := fun σ h a b c d e => v_copy h a b c d e
theorem lb_lay : law_b_lay ovInv := fun σ h a b c => v_lay h a b c
theorem lb_ask : law_b_ask ovInv := fun σ h a b => v_ask h a b
theorem lb_item : law_b_item ovInv := fun σ h a b => v_item h a b
theorem lb_rest : law_b_rest ovInv := fun σ h a b => v_rest h a b
theorem lb_tell : law_b_tell ovInv := fun σ h a => v_tell h a
theorem lb_check : law_b_check ovInv := fun σ h a => v_check h a
theorem lb_keep : law_b_keep ovInv := fun σ h => v_keep h
theorem lb_back : law_b_back ovInv := fun σ h => v_back h
theorem lb_count : law_b_count ovInv := fun σ h a => v_count h a
theorem ov_pureB : law_B ovInv := ⟨lb_thing, lb_toss, lb_told, lb_as, lb_turns, lb_set, lb_deal, lb_seed, lb_pot, lb_days, lb_taste, lb_grams, lb_lot, lb_behind, lb_tasted, lb_steer, lb_leastPot, lb_nearest, lb_thrown, lb_halved, lb_differs, lb_feed, lb_trim, lb_text, lb_textTold, lb_why, lb_sheet, lb_mark, lb_pour, lb_reads, lb_copy, lb_lay, lb_ask, lb_item, lb_rest, lb_tell, lb_check, lb_keep, lb_back, lb_count⟩
