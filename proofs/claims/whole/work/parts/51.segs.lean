/-! EVALUATION: a row a segment -/
theorem ev_N_init_0 (v0 : Nat) (v1 : Int32) (v2 : Int32) (w : hy_W) : hy_fx nx_N_init (0, [.ref v0, .int v1, .int v2], w) = hy_k nx_N_init (sg_N_init_0 v0 v1 v2 w) := hy_fx_eq _ _
theorem ev_D_init_0 (v0 : Nat) (w : hy_W) : hy_fx nx_D_init (0, [.ref v0], w) = hy_k nx_D_init (sg_D_init_0 v0 w) := hy_fx_eq _ _
theorem ev_G_init_0 (v0 : Nat) (w : hy_W) : hy_fx nx_G_init (0, [.ref v0], w) = hy_k nx_G_init (sg_G_init_0 v0 w) := hy_fx_eq _ _
theorem ev_J_AC_init_0 (v0 : Nat) (w : hy_W) : hy_fx nx_J_AC_init (0, [.ref v0], w) = hy_k nx_J_AC_init (sg_J_AC_init_0 v0 w) := hy_fx_eq _ _
theorem ev_J_AL_init_0 (v0 : Nat) (w : hy_W) : hy_fx nx_J_AL_init (0, [.ref v0], w) = hy_k nx_J_AL_init (sg_J_AL_init_0 v0 w) := hy_fx_eq _ _
theorem ev_A_init_0 (v0 : Nat) (w : hy_W) : hy_fx nx_A_init (0, [.ref v0], w) = hy_k nx_A_init (sg_A_init_0 v0 w) := hy_fx_eq _ _
theorem ev_L_init_0 (v0 : Nat) (w : hy_W) : hy_fx nx_L_init (0, [.ref v0], w) = hy_k nx_L_init (sg_L_init_0 v0 w) := hy_fx_eq _ _
theorem ev_H_init_0 (v0 : Nat) (w : hy_W) : hy_fx nx_H_init (0, [.ref v0], w) = hy_k nx_H_init (sg_H_init_0 v0 w) := hy_fx_eq _ _
theorem ev_H_init_71 (v0 : Nat) (v1 : Int32) (w : hy_W) : hy_fx nx_H_init (71, [.ref v0, .int v1], w) = hy_k nx_H_init (sg_H_init_71 v0 v1 w) := hy_fx_eq _ _
theorem ev_N_empty_0 (v0 : Nat) (w : hy_W) : hy_fx nx_N_empty (0, [.ref v0], w) = hy_k nx_N_empty (sg_N_empty_0 v0 w) := hy_fx_eq _ _
theorem ev_H_drop_0 (v0 : Nat) (w : hy_W) : hy_fx nx_H_drop (0, [.ref v0], w) = hy_k nx_H_drop (sg_H_drop_0 v0 w) := hy_fx_eq _ _
theorem ev_A_size_0 (v0 : Nat) (w : hy_W) : hy_fx nx_A_size (0, [.ref v0], w) = hy_k nx_A_size (sg_A_size_0 v0 w) := hy_fx_eq _ _
theorem ev_A_clear_0 (v0 : Nat) (w : hy_W) : hy_fx nx_A_clear (0, [.ref v0], w) = hy_k nx_A_clear (sg_A_clear_0 v0 w) := hy_fx_eq _ _
theorem ev_A_clear_27 (v1 : Nat) (v2 : Int32) (v3 : Int32) (w : hy_W) : hy_fx nx_A_clear (27, [.ref v1, .int v2, .int v3], w) = hy_k nx_A_clear (sg_A_clear_27 v1 v2 v3 w) := hy_fx_eq _ _
theorem ev_H_forget_0 (v0 : Nat) (w : hy_W) : hy_fx nx_H_forget (0, [.ref v0], w) = hy_k nx_H_forget (sg_H_forget_0 v0 w) := hy_fx_eq _ _
theorem ev_H_clear_0 (v0 : Nat) (w : hy_W) : hy_fx nx_H_clear (0, [.ref v0], w) = hy_k nx_H_clear (sg_H_clear_0 v0 w) := hy_fx_eq _ _
theorem ev_L_letterOf_0 (v0 : Nat) (v1 : Int32) (w : hy_W) : hy_fx nx_L_letterOf (0, [.ref v0, .int v1], w) = hy_k nx_L_letterOf (sg_L_letterOf_0 v0 v1 w) := hy_fx_eq _ _
theorem ev_L_letterOf_7 (v0 : Nat) (v1 : Int32) (v2 : Int32) (w : hy_W) : hy_fx nx_L_letterOf (7, [.ref v0, .int v1, .int v2], w) = hy_k nx_L_letterOf (sg_L_letterOf_7 v0 v1 v2 w) := hy_fx_eq _ _
theorem ev_L_letterOf_60 (v0 : Nat) (v1 : Int32) (v2 : Int32) (w : hy_W) : hy_fx nx_L_letterOf (60, [.ref v0, .int v1, .int v2], w) = hy_k nx_L_letterOf (sg_L_letterOf_60 v0 v1 v2 w) := hy_fx_eq _ _
theorem ev_H_isLetterAt_0 (v0 : Nat) (v1 : Int32) (w : hy_W) : hy_fx nx_H_isLetterAt (0, [.ref v0, .int v1], w) = hy_k nx_H_isLetterAt (sg_H_isLetterAt_0 v0 v1 w) := hy_fx_eq _ _
theorem ev_H_isLetterAt_43  (w : hy_W) : hy_fx nx_H_isLetterAt (43, [], w) = hy_k nx_H_isLetterAt (sg_H_isLetterAt_43  w) := hy_fx_eq _ _
theorem ev_H_startsWord_0 (v0 : Nat) (v1 : Int32) (w : hy_W) : hy_fx nx_H_startsWord (0, [.ref v0, .int v1], w) = hy_k nx_H_startsWord (sg_H_startsWord_0 v0 v1 w) := hy_fx_eq _ _
theorem ev_H_startsWord_22  (w : hy_W) : hy_fx nx_H_startsWord (22, [], w) = hy_k nx_H_startsWord (sg_H_startsWord_22  w) := hy_fx_eq _ _
theorem ev_H_wordEnd_0 (v0 : Nat) (v1 : Int32) (w : hy_W) : hy_fx nx_H_wordEnd (0, [.ref v0, .int v1], w) = hy_k nx_H_wordEnd (sg_H_wordEnd_0 v0 v1 w) := hy_fx_eq _ _
theorem ev_H_wordEnd_2 (v0 : Nat) (v2 : Int32) (w : hy_W) : hy_fx nx_H_wordEnd (2, [.ref v0, .int v2], w) = hy_k nx_H_wordEnd (sg_H_wordEnd_2 v0 v2 w) := hy_fx_eq _ _
theorem ev_H_word_0 (v0 : Nat) (v1 : Int32) (v2 : Int32) (w : hy_W) : hy_fx nx_H_word (0, [.ref v0, .int v1, .int v2], w) = hy_k nx_H_word (sg_H_word_0 v0 v1 v2 w) := hy_fx_eq _ _
theorem ev_H_word_5 (v0 : Nat) (v1 : Int32) (v2 : Int32) (v3 : Int32) (v4 : Int32) (w : hy_W) : hy_fx nx_H_word (5, [.ref v0, .int v1, .int v2, .int v3, .int v4], w) = hy_k nx_H_word (sg_H_word_5 v0 v1 v2 v3 v4 w) := hy_fx_eq _ _
theorem ev_H_word_50 (v0 : Nat) (v1 : Int32) (v2 : Int32) (v3 : Int32) (v4 : Int32) (w : hy_W) : hy_fx nx_H_word (50, [.ref v0, .int v1, .int v2, .int v3, .int v4], w) = hy_k nx_H_word (sg_H_word_50 v0 v1 v2 v3 v4 w) := hy_fx_eq _ _
theorem ev_H_countWords_0 (v0 : Nat) (w : hy_W) : hy_fx nx_H_countWords (0, [.ref v0], w) = hy_k nx_H_countWords (sg_H_countWords_0 v0 w) := hy_fx_eq _ _
theorem ev_H_countWords_4 (v0 : Nat) (v1 : Int32) (v2 : Int32) (w : hy_W) : hy_fx nx_H_countWords (4, [.ref v0, .int v1, .int v2], w) = hy_k nx_H_countWords (sg_H_countWords_4 v0 v1 v2 w) := hy_fx_eq _ _
theorem ev_H_countWords_26 (v0 : Nat) (v1 : Int32) (v2 : Int32) (w : hy_W) : hy_fx nx_H_countWords (26, [.ref v0, .int v1, .int v2], w) = hy_k nx_H_countWords (sg_H_countWords_26 v0 v1 v2 w) := hy_fx_eq _ _
theorem ev_G_spell_0 (v0 : Nat) (v1 : Nat) (v2 : Int32) (v3 : Int32) (v4 : Nat) (w : hy_W) : hy_fx nx_G_spell (0, [.ref v0, .ref v1, .int v2, .int v3, .ref v4], w) = hy_k nx_G_spell (sg_G_spell_0 v0 v1 v2 v3 v4 w) := hy_fx_eq _ _
theorem ev_G_spell_22 (v0 : Nat) (v1 : Nat) (v2 : Int32) (v4 : Nat) (v5 : Int32) (w : hy_W) : hy_fx nx_G_spell (22, [.ref v0, .ref v1, .int v2, .ref v4, .int v5], w) = hy_k nx_G_spell (sg_G_spell_22 v0 v1 v2 v4 v5 w) := hy_fx_eq _ _
theorem ev_J_fill_0 (v0 : Nat) (v1 : Int32) (w : hy_W) : hy_fx nx_J_fill (0, [.ref v0, .int v1], w) = hy_k nx_J_fill (sg_J_fill_0 v0 v1 w) := hy_fx_eq _ _
theorem ev_J_fill_5 (v0 : Nat) (v1 : Int32) (v2 : Int32) (v3 : Int32) (w : hy_W) : hy_fx nx_J_fill (5, [.ref v0, .int v1, .int v2, .int v3], w) = hy_k nx_J_fill (sg_J_fill_5 v0 v1 v2 v3 w) := hy_fx_eq _ _
theorem ev_J_check3_0 (v0 : Int32) (v1 : Int32) (w : hy_W) : hy_fx nx_J_check3 (0, [.int v0, .int v1, .null], w) = hy_k nx_J_check3 (sg_J_check3_0 v0 v1 w) := hy_fx_eq _ _
theorem ev_J_check3_9 (v0 : Int32) (v1 : Int32) (w : hy_W) : hy_fx nx_J_check3 (9, [.int v0, .int v1, .null], w) = hy_k nx_J_check3 (sg_J_check3_9 v0 v1 w) := hy_fx_eq _ _
theorem ev_J_check2_0 (v0 : Int32) (v1 : Int32) (w : hy_W) : hy_fx nx_J_check2 (0, [.int v0, .int v1], w) = hy_k nx_J_check2 (sg_J_check2_0 v0 v1 w) := hy_fx_eq _ _
theorem ev_A_elementData_0 (v0 : Nat) (v1 : Int32) (w : hy_W) : hy_fx nx_A_elementData (0, [.ref v0, .int v1], w) = hy_k nx_A_elementData (sg_A_elementData_0 v0 v1 w) := hy_fx_eq _ _
theorem ev_A_get_0 (v0 : Nat) (v1 : Int32) (w : hy_W) : hy_fx nx_A_get (0, [.ref v0, .int v1], w) = hy_k nx_A_get (sg_A_get_0 v0 v1 w) := hy_fx_eq _ _
theorem ev_U_standsAt_0 (v0 : Nat) (v1 : Nat) (v2 : Int32) (w : hy_W) : hy_fx nx_U_standsAt (0, [.ref v0, .ref v1, .int v2], w) = hy_k nx_U_standsAt (sg_U_standsAt_0 v0 v1 v2 w) := hy_fx_eq _ _
theorem ev_U_standsAt_20 (v0 : Nat) (v1 : Nat) (v2 : Int32) (v3 : Int32) (w : hy_W) : hy_fx nx_U_standsAt (20, [.ref v0, .ref v1, .int v2, .int v3], w) = hy_k nx_U_standsAt (sg_U_standsAt_20 v0 v1 v2 v3 w) := hy_fx_eq _ _
theorem ev_H_indexOfRule_0 (v0 : Nat) (v1 : Nat) (v2 : Int32) (v3 : Int32) (w : hy_W) : hy_fx nx_H_indexOfRule (0, [.ref v0, .ref v1, .int v2, .int v3], w) = hy_k nx_H_indexOfRule (sg_H_indexOfRule_0 v0 v1 v2 v3 w) := hy_fx_eq _ _
theorem ev_H_indexOfRule_3 (v0 : Nat) (v1 : Nat) (v2 : Int32) (v3 : Int32) (v4 : Int32) (w : hy_W) : hy_fx nx_H_indexOfRule (3, [.ref v0, .ref v1, .int v2, .int v3, .int v4], w) = hy_k nx_H_indexOfRule (sg_H_indexOfRule_3 v0 v1 v2 v3 v4 w) := hy_fx_eq _ _
theorem ev_H_indexOfRule_46 (v0 : Nat) (v1 : Nat) (v2 : Int32) (v3 : Int32) (v4 : Int32) (w : hy_W) : hy_fx nx_H_indexOfRule (46, [.ref v0, .ref v1, .int v2, .int v3, .int v4], w) = hy_k nx_H_indexOfRule (sg_H_indexOfRule_46 v0 v1 v2 v3 v4 w) := hy_fx_eq _ _
theorem ev_G_lay_0 (v0 : Nat) (v1 : Nat) (v2 : Int32) (w : hy_W) : hy_fx nx_G_lay (0, [.ref v0, .ref v1, .int v2], w) = hy_k nx_G_lay (sg_G_lay_0 v0 v1 v2 w) := hy_fx_eq _ _
theorem ev_G_lay_2 (v0 : Nat) (v1 : Nat) (v2 : Int32) (v3 : Int32) (w : hy_W) : hy_fx nx_G_lay (2, [.ref v0, .ref v1, .int v2, .int v3], w) = hy_k nx_G_lay (sg_G_lay_2 v0 v1 v2 v3 w) := hy_fx_eq _ _
theorem ev_G_layEverywhere_0 (v0 : Nat) (v1 : Nat) (w : hy_W) : hy_fx nx_G_layEverywhere (0, [.ref v0, .ref v1], w) = hy_k nx_G_layEverywhere (sg_G_layEverywhere_0 v0 v1 w) := hy_fx_eq _ _
theorem ev_G_layEverywhere_15 (v0 : Nat) (v1 : Nat) (v2 : Int32) (v3 : Int32) (w : hy_W) : hy_fx nx_G_layEverywhere (15, [.ref v0, .ref v1, .int v2, .int v3], w) = hy_k nx_G_layEverywhere (sg_G_layEverywhere_15 v0 v1 v2 v3 w) := hy_fx_eq _ _
theorem ev_G_layEverywhere_48 (v0 : Nat) (v1 : Nat) (v2 : Int32) (v3 : Int32) (w : hy_W) : hy_fx nx_G_layEverywhere (48, [.ref v0, .ref v1, .int v2, .int v3], w) = hy_k nx_G_layEverywhere (sg_G_layEverywhere_48 v0 v1 v2 v3 w) := hy_fx_eq _ _
theorem ev_G_weigh_0 (v0 : Nat) (v1 : Nat) (w : hy_W) : hy_fx nx_G_weigh (0, [.ref v0, .ref v1], w) = hy_k nx_G_weigh (sg_G_weigh_0 v0 v1 w) := hy_fx_eq _ _
theorem ev_G_weigh_54 (v0 : Nat) (v1 : Nat) (v3 : Int32) (w : hy_W) : hy_fx nx_G_weigh (54, [.ref v0, .ref v1, .int v3], w) = hy_k nx_G_weigh (sg_G_weigh_54 v0 v1 v3 w) := hy_fx_eq _ _
theorem ev_H_readWord_0 (v0 : Nat) (v1 : Int32) (w : hy_W) : hy_fx nx_H_readWord (0, [.ref v0, .int v1], w) = hy_k nx_H_readWord (sg_H_readWord_0 v0 v1 w) := hy_fx_eq _ _
theorem ev_G_weightAt_0 (v0 : Nat) (v1 : Int32) (w : hy_W) : hy_fx nx_G_weightAt (0, [.ref v0, .int v1], w) = hy_k nx_G_weightAt (sg_G_weightAt_0 v0 v1 w) := hy_fx_eq _ _
theorem ev_G_weightAt_30  (w : hy_W) : hy_fx nx_G_weightAt (30, [], w) = hy_k nx_G_weightAt (sg_G_weightAt_30  w) := hy_fx_eq _ _
theorem ev_G_canBreakAt_0 (v0 : Nat) (v1 : Int32) (v2 : Nat) (w : hy_W) : hy_fx nx_G_canBreakAt (0, [.ref v0, .int v1, .ref v2], w) = hy_k nx_G_canBreakAt (sg_G_canBreakAt_0 v0 v1 v2 w) := hy_fx_eq _ _
theorem ev_G_canBreakAt_43  (w : hy_W) : hy_fx nx_G_canBreakAt (43, [], w) = hy_k nx_G_canBreakAt (sg_G_canBreakAt_43  w) := hy_fx_eq _ _
theorem ev_G_breakCount_0 (v0 : Nat) (v1 : Nat) (w : hy_W) : hy_fx nx_G_breakCount (0, [.ref v0, .ref v1], w) = hy_k nx_G_breakCount (sg_G_breakCount_0 v0 v1 w) := hy_fx_eq _ _
theorem ev_G_breakCount_4 (v0 : Nat) (v1 : Nat) (v2 : Int32) (v3 : Int32) (w : hy_W) : hy_fx nx_G_breakCount (4, [.ref v0, .ref v1, .int v2, .int v3], w) = hy_k nx_G_breakCount (sg_G_breakCount_4 v0 v1 v2 v3 w) := hy_fx_eq _ _
theorem ev_G_breakCount_29 (v0 : Nat) (v1 : Nat) (v2 : Int32) (v3 : Int32) (w : hy_W) : hy_fx nx_G_breakCount (29, [.ref v0, .ref v1, .int v2, .int v3], w) = hy_k nx_G_breakCount (sg_G_breakCount_29 v0 v1 v2 v3 w) := hy_fx_eq _ _
theorem ev_H_countBreaks_0 (v0 : Nat) (w : hy_W) : hy_fx nx_H_countBreaks (0, [.ref v0], w) = hy_k nx_H_countBreaks (sg_H_countBreaks_0 v0 w) := hy_fx_eq _ _
theorem ev_H_countBreaks_4 (v0 : Nat) (v1 : Int32) (v2 : Int32) (w : hy_W) : hy_fx nx_H_countBreaks (4, [.ref v0, .int v1, .int v2], w) = hy_k nx_H_countBreaks (sg_H_countBreaks_4 v0 v1 v2 w) := hy_fx_eq _ _
theorem ev_H_countBreaks_47 (v0 : Nat) (v1 : Int32) (v2 : Int32) (w : hy_W) : hy_fx nx_H_countBreaks (47, [.ref v0, .int v1, .int v2], w) = hy_k nx_H_countBreaks (sg_H_countBreaks_47 v0 v1 v2 w) := hy_fx_eq _ _
theorem ev_H_countMatches_0 (v0 : Nat) (w : hy_W) : hy_fx nx_H_countMatches (0, [.ref v0], w) = hy_k nx_H_countMatches (sg_H_countMatches_0 v0 w) := hy_fx_eq _ _
theorem ev_H_countMatches_4 (v0 : Nat) (v1 : Int32) (v2 : Int32) (w : hy_W) : hy_fx nx_H_countMatches (4, [.ref v0, .int v1, .int v2], w) = hy_k nx_H_countMatches (sg_H_countMatches_4 v0 v1 v2 w) := hy_fx_eq _ _
theorem ev_H_countMatches_38 (v0 : Nat) (v1 : Int32) (v2 : Int32) (w : hy_W) : hy_fx nx_H_countMatches (38, [.ref v0, .int v1, .int v2], w) = hy_k nx_H_countMatches (sg_H_countMatches_38 v0 v1 v2 w) := hy_fx_eq _ _
theorem ev_H_count_0 (v0 : Nat) (v1 : Int32) (w : hy_W) : hy_fx nx_H_count (0, [.ref v0, .int v1], w) = hy_k nx_H_count (sg_H_count_0 v0 v1 w) := hy_fx_eq _ _
theorem ev_H_choose_0 (v0 : Nat) (v1 : Int32) (w : hy_W) : hy_fx nx_H_choose (0, [.ref v0, .int v1], w) = hy_k nx_H_choose (sg_H_choose_0 v0 v1 w) := hy_fx_eq _ _
theorem ev_X_choose_0 (v0 : Nat) (v1 : Int32) (v2 : Nat) (w : hy_W) : hy_fx nx_X_choose (0, [.ref v0, .int v1, .ref v2], w) = hy_k nx_X_choose (sg_X_choose_0 v0 v1 v2 w) := hy_fx_eq _ _
theorem ev_H_isCharacter_0 (v0 : Int32) (w : hy_W) : hy_fx nx_H_isCharacter (0, [.int v0], w) = hy_k nx_H_isCharacter (sg_H_isCharacter_0 v0 w) := hy_fx_eq _ _
theorem ev_H_isCharacter_15  (w : hy_W) : hy_fx nx_H_isCharacter (15, [], w) = hy_k nx_H_isCharacter (sg_H_isCharacter_15  w) := hy_fx_eq _ _
theorem ev_L_addRange_0 (v0 : Nat) (v1 : Int32) (v2 : Int32) (v3 : Int32) (w : hy_W) : hy_fx nx_L_addRange (0, [.ref v0, .int v1, .int v2, .int v3], w) = hy_k nx_L_addRange (sg_L_addRange_0 v0 v1 v2 v3 w) := hy_fx_eq _ _
theorem ev_H_letters_0 (v0 : Nat) (v1 : Int32) (v2 : Int32) (v3 : Int32) (w : hy_W) : hy_fx nx_H_letters (0, [.ref v0, .int v1, .int v2, .int v3], w) = hy_k nx_H_letters (sg_H_letters_0 v0 v1 v2 v3 w) := hy_fx_eq _ _
theorem ev_X_letters_0 (v0 : Nat) (v1 : Int32) (v2 : Int32) (v3 : Int32) (w : hy_W) : hy_fx nx_X_letters (0, [.ref v0, .int v1, .int v2, .int v3], w) = hy_k nx_X_letters (sg_X_letters_0 v0 v1 v2 v3 w) := hy_fx_eq _ _
theorem ev_H_least_0 (v0 : Nat) (v1 : Int32) (v2 : Int32) (w : hy_W) : hy_fx nx_H_least (0, [.ref v0, .int v1, .int v2], w) = hy_k nx_H_least (sg_H_least_0 v0 v1 v2 w) := hy_fx_eq _ _
theorem ev_X_least_0 (v0 : Nat) (v1 : Int32) (v2 : Int32) (w : hy_W) : hy_fx nx_X_least (0, [.ref v0, .int v1, .int v2], w) = hy_k nx_X_least (sg_X_least_0 v0 v1 v2 w) := hy_fx_eq _ _
theorem ev_N_offer_0 (v0 : Nat) (v1 : Int32) (v2 : Int32) (v3 : Int32) (v4 : Int32) (v5 : Int32) (w : hy_W) : hy_fx nx_N_offer (0, [.ref v0, .int v1, .int v2, .int v3, .int v4, .int v5], w) = hy_k nx_N_offer (sg_N_offer_0 v0 v1 v2 v3 v4 v5 w) := hy_fx_eq _ _
theorem ev_N_offer_40 (v0 : Nat) (v6 : Int32) (w : hy_W) : hy_fx nx_N_offer (40, [.ref v0, .int v6], w) = hy_k nx_N_offer (sg_N_offer_40 v0 v6 w) := hy_fx_eq _ _
theorem ev_N_append_0 (v0 : Nat) (v1 : Int32) (v2 : Int32) (v3 : Int32) (v4 : Int32) (v5 : Int32) (w : hy_W) : hy_fx nx_N_append (0, [.ref v0, .int v1, .int v2, .int v3, .int v4, .int v5], w) = hy_k nx_N_append (sg_N_append_0 v0 v1 v2 v3 v4 v5 w) := hy_fx_eq _ _
theorem ev_N_append_16 (v0 : Nat) (v6 : Int32) (v7 : Int32) (w : hy_W) : hy_fx nx_N_append (16, [.ref v0, .int v6, .int v7], w) = hy_k nx_N_append (sg_N_append_16 v0 v6 v7 w) := hy_fx_eq _ _
theorem ev_H_tell_0 (v0 : Nat) (v1 : Int32) (v2 : Int32) (v3 : Int32) (v4 : Int32) (v5 : Int32) (w : hy_W) : hy_fx nx_H_tell (0, [.ref v0, .int v1, .int v2, .int v3, .int v4, .int v5], w) = hy_k nx_H_tell (sg_H_tell_0 v0 v1 v2 v3 v4 v5 w) := hy_fx_eq _ _
theorem ev_X_tell_0 (v0 : Nat) (v1 : Int32) (v2 : Int32) (v3 : Int32) (v4 : Int32) (v5 : Int32) (v6 : Nat) (w : hy_W) : hy_fx nx_X_tell (0, [.ref v0, .int v1, .int v2, .int v3, .int v4, .int v5, .ref v6], w) = hy_k nx_X_tell (sg_X_tell_0 v0 v1 v2 v3 v4 v5 v6 w) := hy_fx_eq _ _
theorem ev_D_start_0 (v0 : Nat) (w : hy_W) : hy_fx nx_D_start (0, [.ref v0], w) = hy_k nx_D_start (sg_D_start_0 v0 w) := hy_fx_eq _ _
theorem ev_D_takeLetter_0 (v0 : Nat) (v1 : Int32) (w : hy_W) : hy_fx nx_D_takeLetter (0, [.ref v0, .int v1], w) = hy_k nx_D_takeLetter (sg_D_takeLetter_0 v0 v1 w) := hy_fx_eq _ _
theorem ev_D_takeValue_0 (v0 : Nat) (v1 : Int32) (w : hy_W) : hy_fx nx_D_takeValue (0, [.ref v0, .int v1], w) = hy_k nx_D_takeValue (sg_D_takeValue_0 v0 v1 w) := hy_fx_eq _ _
theorem ev_D_hasLetter_0 (v0 : Nat) (w : hy_W) : hy_fx nx_D_hasLetter (0, [.ref v0], w) = hy_k nx_D_hasLetter (sg_D_hasLetter_0 v0 w) := hy_fx_eq _ _
theorem ev_D_hasLetter_2 (v0 : Nat) (v1 : Int32) (w : hy_W) : hy_fx nx_D_hasLetter (2, [.ref v0, .int v1], w) = hy_k nx_D_hasLetter (sg_D_hasLetter_2 v0 v1 w) := hy_fx_eq _ _
theorem ev_D_hasEdgeWithin_0 (v0 : Nat) (w : hy_W) : hy_fx nx_D_hasEdgeWithin (0, [.ref v0], w) = hy_k nx_D_hasEdgeWithin (sg_D_hasEdgeWithin_0 v0 w) := hy_fx_eq _ _
theorem ev_D_hasEdgeWithin_2 (v0 : Nat) (v1 : Int32) (w : hy_W) : hy_fx nx_D_hasEdgeWithin (2, [.ref v0, .int v1], w) = hy_k nx_D_hasEdgeWithin (sg_D_hasEdgeWithin_2 v0 v1 w) := hy_fx_eq _ _
theorem ev_D_readPattern_0 (v0 : Nat) (v1 : Nat) (w : hy_W) : hy_fx nx_D_readPattern (0, [.ref v0, .ref v1], w) = hy_k nx_D_readPattern (sg_D_readPattern_0 v0 v1 w) := hy_fx_eq _ _
theorem ev_D_readPattern_6 (v0 : Nat) (v1 : Nat) (v2 : Int32) (w : hy_W) : hy_fx nx_D_readPattern (6, [.ref v0, .ref v1, .int v2], w) = hy_k nx_D_readPattern (sg_D_readPattern_6 v0 v1 v2 w) := hy_fx_eq _ _
theorem ev_D_readPattern_52 (v0 : Nat) (v1 : Nat) (v2 : Int32) (w : hy_W) : hy_fx nx_D_readPattern (52, [.ref v0, .ref v1, .int v2], w) = hy_k nx_D_readPattern (sg_D_readPattern_52 v0 v1 v2 w) := hy_fx_eq _ _
theorem ev_D_readPattern_53 (v0 : Nat) (v1 : Nat) (v2 : Int32) (s0 : Int32) (w : hy_W) : hy_fx nx_D_readPattern (53, [.ref v0, .ref v1, .int v2, .int s0], w) = hy_k nx_D_readPattern (sg_D_readPattern_53 v0 v1 v2 s0 w) := hy_fx_eq _ _
theorem ev_D_readPattern_95  (w : hy_W) : hy_fx nx_D_readPattern (95, [], w) = hy_k nx_D_readPattern (sg_D_readPattern_95  w) := hy_fx_eq _ _
theorem ev_H_patternsInAll_0 (v0 : Nat) (w : hy_W) : hy_fx nx_H_patternsInAll (0, [.ref v0], w) = hy_k nx_H_patternsInAll (sg_H_patternsInAll_0 v0 w) := hy_fx_eq _ _
theorem ev_H_patternsInAll_4 (v0 : Nat) (v1 : Int32) (v2 : Int32) (w : hy_W) : hy_fx nx_H_patternsInAll (4, [.ref v0, .int v1, .int v2], w) = hy_k nx_H_patternsInAll (sg_H_patternsInAll_4 v0 v1 v2 w) := hy_fx_eq _ _
theorem ev_J_copyI_0 (v0 : Nat) (v1 : Int32) (w : hy_W) : hy_fx nx_J_copyI (0, [.ref v0, .int v1], w) = hy_k nx_J_copyI (sg_J_copyI_0 v0 v1 w) := hy_fx_eq _ _
theorem ev_U_init_0 (v0 : Nat) (v1 : Nat) (v2 : Nat) (w : hy_W) : hy_fx nx_U_init (0, [.ref v0, .ref v1, .ref v2], w) = hy_k nx_U_init (sg_U_init_0 v0 v1 v2 w) := hy_fx_eq _ _
theorem ev_D_toRule_0 (v0 : Nat) (w : hy_W) : hy_fx nx_D_toRule (0, [.ref v0], w) = hy_k nx_D_toRule (sg_D_toRule_0 v0 w) := hy_fx_eq _ _
theorem ev_J_newLength_0 (v0 : Int32) (v1 : Int32) (v2 : Int32) (w : hy_W) : hy_fx nx_J_newLength (0, [.int v0, .int v1, .int v2], w) = hy_k nx_J_newLength (sg_J_newLength_0 v0 v1 v2 w) := hy_fx_eq _ _
theorem ev_J_newLength_21 (v0 : Int32) (v1 : Int32) (w : hy_W) : hy_fx nx_J_newLength (21, [.int v0, .int v1], w) = hy_k nx_J_newLength (sg_J_newLength_21 v0 v1 w) := hy_fx_eq _ _
theorem ev_J_copyO3_0 (v0 : Nat) (v1 : Int32) (v2 : Nat) (w : hy_W) : hy_fx nx_J_copyO3 (0, [.ref v0, .int v1, .ref v2], w) = hy_k nx_J_copyO3 (sg_J_copyO3_0 v0 v1 v2 w) := hy_fx_eq _ _
theorem ev_J_copyO3_24 (v0 : Nat) (v1 : Int32) (s0 : Nat) (w : hy_W) : hy_fx nx_J_copyO3 (24, [.ref v0, .int v1, .ref s0], w) = hy_k nx_J_copyO3 (sg_J_copyO3_24 v0 v1 s0 w) := hy_fx_eq _ _
theorem ev_J_copyO2_0 (v0 : Nat) (v1 : Int32) (w : hy_W) : hy_fx nx_J_copyO2 (0, [.ref v0, .int v1], w) = hy_k nx_J_copyO2 (sg_J_copyO2_0 v0 v1 w) := hy_fx_eq _ _
theorem ev_A_grow1_0 (v0 : Nat) (v1 : Int32) (w : hy_W) : hy_fx nx_A_grow1 (0, [.ref v0, .int v1], w) = hy_k nx_A_grow1 (sg_A_grow1_0 v0 v1 w) := hy_fx_eq _ _
theorem ev_A_grow1_20 (v0 : Nat) (v1 : Int32) (v2 : Int32) (w : hy_W) : hy_fx nx_A_grow1 (20, [.ref v0, .int v1, .int v2], w) = hy_k nx_A_grow1 (sg_A_grow1_20 v0 v1 v2 w) := hy_fx_eq _ _
theorem ev_A_grow0_0 (v0 : Nat) (w : hy_W) : hy_fx nx_A_grow0 (0, [.ref v0], w) = hy_k nx_A_grow0 (sg_A_grow0_0 v0 w) := hy_fx_eq _ _
theorem ev_A_add3_0 (v0 : Nat) (v1 : Nat) (v2 : Nat) (v3 : Int32) (w : hy_W) : hy_fx nx_A_add3 (0, [.ref v0, .ref v1, .ref v2, .int v3], w) = hy_k nx_A_add3 (sg_A_add3_0 v0 v1 v2 v3 w) := hy_fx_eq _ _
theorem ev_A_add3_11 (v0 : Nat) (v1 : Nat) (v2 : Nat) (v3 : Int32) (w : hy_W) : hy_fx nx_A_add3 (11, [.ref v0, .ref v1, .ref v2, .int v3], w) = hy_k nx_A_add3 (sg_A_add3_11 v0 v1 v2 v3 w) := hy_fx_eq _ _
theorem ev_A_add1_0 (v0 : Nat) (v1 : Nat) (w : hy_W) : hy_fx nx_A_add1 (0, [.ref v0, .ref v1], w) = hy_k nx_A_add1 (sg_A_add1_0 v0 v1 w) := hy_fx_eq _ _
theorem ev_A_set_0 (v0 : Nat) (v1 : Int32) (v2 : Nat) (w : hy_W) : hy_fx nx_A_set (0, [.ref v0, .int v1, .ref v2], w) = hy_k nx_A_set (sg_A_set_0 v0 v1 v2 w) := hy_fx_eq _ _
theorem ev_H_keepDraft_0 (v0 : Nat) (v1 : Nat) (v2 : Int32) (w : hy_W) : hy_fx nx_H_keepDraft (0, [.ref v0, .ref v1, .int v2], w) = hy_k nx_H_keepDraft (sg_H_keepDraft_0 v0 v1 v2 w) := hy_fx_eq _ _
theorem ev_H_keepDraft_39 (v0 : Nat) (v1 : Nat) (v3 : Int32) (w : hy_W) : hy_fx nx_H_keepDraft (39, [.ref v0, .ref v1, .int v3], w) = hy_k nx_H_keepDraft (sg_H_keepDraft_39 v0 v1 v3 w) := hy_fx_eq _ _
theorem ev_H_keepDraft_72 (v0 : Nat) (w : hy_W) : hy_fx nx_H_keepDraft (72, [.ref v0], w) = hy_k nx_H_keepDraft (sg_H_keepDraft_72 v0 w) := hy_fx_eq _ _
theorem ev_H_pattern_0 (v0 : Nat) (w : hy_W) : hy_fx nx_H_pattern (0, [.ref v0], w) = hy_k nx_H_pattern (sg_H_pattern_0 v0 w) := hy_fx_eq _ _
theorem ev_H_pattern_52 (s0 : Int32) (s1 : Nat) (s2 : Nat) (w : hy_W) : hy_fx nx_H_pattern (52, [.int s0, .ref s1, .ref s2], w) = hy_k nx_H_pattern (sg_H_pattern_52 s0 s1 s2 w) := hy_fx_eq _ _
theorem ev_X_pattern_0 (v0 : Nat) (v1 : Nat) (w : hy_W) : hy_fx nx_X_pattern (0, [.ref v0, .ref v1], w) = hy_k nx_X_pattern (sg_X_pattern_0 v0 v1 w) := hy_fx_eq _ _
theorem ev_D_readException_0 (v0 : Nat) (v1 : Nat) (w : hy_W) : hy_fx nx_D_readException (0, [.ref v0, .ref v1], w) = hy_k nx_D_readException (sg_D_readException_0 v0 v1 w) := hy_fx_eq _ _
theorem ev_D_readException_6 (v0 : Nat) (v1 : Nat) (v2 : Int32) (w : hy_W) : hy_fx nx_D_readException (6, [.ref v0, .ref v1, .int v2], w) = hy_k nx_D_readException (sg_D_readException_6 v0 v1 v2 w) := hy_fx_eq _ _
theorem ev_D_readException_51 (v0 : Nat) (v1 : Nat) (v2 : Int32) (w : hy_W) : hy_fx nx_D_readException (51, [.ref v0, .ref v1, .int v2], w) = hy_k nx_D_readException (sg_D_readException_51 v0 v1 v2 w) := hy_fx_eq _ _
theorem ev_D_readException_52 (v0 : Nat) (v1 : Nat) (v2 : Int32) (s0 : Int32) (w : hy_W) : hy_fx nx_D_readException (52, [.ref v0, .ref v1, .int v2, .int s0], w) = hy_k nx_D_readException (sg_D_readException_52 v0 v1 v2 s0 w) := hy_fx_eq _ _
theorem ev_D_readException_87  (w : hy_W) : hy_fx nx_D_readException (87, [], w) = hy_k nx_D_readException (sg_D_readException_87  w) := hy_fx_eq _ _
theorem ev_H_exceptionsInAll_0 (v0 : Nat) (w : hy_W) : hy_fx nx_H_exceptionsInAll (0, [.ref v0], w) = hy_k nx_H_exceptionsInAll (sg_H_exceptionsInAll_0 v0 w) := hy_fx_eq _ _
theorem ev_H_exceptionsInAll_4 (v0 : Nat) (v1 : Int32) (v2 : Int32) (w : hy_W) : hy_fx nx_H_exceptionsInAll (4, [.ref v0, .int v1, .int v2], w) = hy_k nx_H_exceptionsInAll (sg_H_exceptionsInAll_4 v0 v1 v2 w) := hy_fx_eq _ _
theorem ev_H_exception_0 (v0 : Nat) (w : hy_W) : hy_fx nx_H_exception (0, [.ref v0], w) = hy_k nx_H_exception (sg_H_exception_0 v0 w) := hy_fx_eq _ _
theorem ev_H_exception_51 (s0 : Int32) (s1 : Nat) (s2 : Nat) (w : hy_W) : hy_fx nx_H_exception (51, [.int s0, .ref s1, .ref s2], w) = hy_k nx_H_exception (sg_H_exception_51 s0 s1 s2 w) := hy_fx_eq _ _
theorem ev_X_exception_0 (v0 : Nat) (v1 : Nat) (w : hy_W) : hy_fx nx_X_exception (0, [.ref v0, .ref v1], w) = hy_k nx_X_exception (sg_X_exception_0 v0 v1 w) := hy_fx_eq _ _
theorem ev_H_add_0 (v0 : Nat) (v1 : Int32) (v2 : Int32) (v3 : Int32) (v4 : Int32) (v5 : Int32) (w : hy_W) : hy_fx nx_H_add (0, [.ref v0, .int v1, .int v2, .int v3, .int v4, .int v5], w) = hy_k nx_H_add (sg_H_add_0 v0 v1 v2 v3 v4 v5 w) := hy_fx_eq _ _
theorem ev_X_add_0 (v0 : Nat) (v1 : Int32) (v2 : Int32) (v3 : Int32) (v4 : Int32) (v5 : Int32) (v6 : Nat) (w : hy_W) : hy_fx nx_X_add (0, [.ref v0, .int v1, .int v2, .int v3, .int v4, .int v5, .ref v6], w) = hy_k nx_X_add (sg_X_add_0 v0 v1 v2 v3 v4 v5 v6 w) := hy_fx_eq _ _
theorem ev_H_isWithinWord_0 (v0 : Nat) (v1 : Int32) (w : hy_W) : hy_fx nx_H_isWithinWord (0, [.ref v0, .int v1], w) = hy_k nx_H_isWithinWord (sg_H_isWithinWord_0 v0 v1 w) := hy_fx_eq _ _
theorem ev_H_isWithinWord_22  (w : hy_W) : hy_fx nx_H_isWithinWord (22, [], w) = hy_k nx_H_isWithinWord (sg_H_isWithinWord_22  w) := hy_fx_eq _ _
theorem ev_H_wordStart_0 (v0 : Nat) (v1 : Int32) (w : hy_W) : hy_fx nx_H_wordStart (0, [.ref v0, .int v1], w) = hy_k nx_H_wordStart (sg_H_wordStart_0 v0 v1 w) := hy_fx_eq _ _
theorem ev_H_wordStart_2 (v0 : Nat) (v2 : Int32) (w : hy_W) : hy_fx nx_H_wordStart (2, [.ref v0, .int v2], w) = hy_k nx_H_wordStart (sg_H_wordStart_2 v0 v2 w) := hy_fx_eq _ _
theorem ev_H_value_0 (v0 : Nat) (v1 : Int32) (w : hy_W) : hy_fx nx_H_value (0, [.ref v0, .int v1], w) = hy_k nx_H_value (sg_H_value_0 v0 v1 w) := hy_fx_eq _ _
theorem ev_X_value_0 (v0 : Nat) (v1 : Int32) (v2 : Nat) (w : hy_W) : hy_fx nx_X_value (0, [.ref v0, .int v1, .ref v2], w) = hy_k nx_X_value (sg_X_value_0 v0 v1 v2 w) := hy_fx_eq _ _
theorem ev_H_breaks_0 (v0 : Nat) (v1 : Int32) (w : hy_W) : hy_fx nx_H_breaks (0, [.ref v0, .int v1], w) = hy_k nx_H_breaks (sg_H_breaks_0 v0 v1 w) := hy_fx_eq _ _
theorem ev_X_breaks_0 (v0 : Nat) (v1 : Int32) (v2 : Nat) (w : hy_W) : hy_fx nx_X_breaks (0, [.ref v0, .int v1, .ref v2], w) = hy_k nx_X_breaks (sg_X_breaks_0 v0 v1 v2 w) := hy_fx_eq _ _
theorem ev_X_breaks_15 (s0 : Int64) (s1 : Int32) (s2 : Nat) (w : hy_W) : hy_fx nx_X_breaks (15, [.long s0, .int s1, .ref s2], w) = hy_k nx_X_breaks (sg_X_breaks_15 s0 s1 s2 w) := hy_fx_eq _ _
theorem ev_M_init_0 (v0 : Nat) (w : hy_W) : hy_fx nx_M_init (0, [.ref v0], w) = hy_k nx_M_init (sg_M_init_0 v0 w) := hy_fx_eq _ _
theorem ev_M_init_161 (v0 : Nat) (v1 : Int32) (w : hy_W) : hy_fx nx_M_init (161, [.ref v0, .int v1], w) = hy_k nx_M_init (sg_M_init_161 v0 v1 w) := hy_fx_eq _ _
theorem ev_M_thrown_0 (v0 : Nat) (w : hy_W) : hy_fx nx_M_thrown (0, [.ref v0], w) = hy_k nx_M_thrown (sg_M_thrown_0 v0 w) := hy_fx_eq _ _
theorem ev_M_refused_0 (v0 : Nat) (v1 : Int32) (w : hy_W) : hy_fx nx_M_refused (0, [.ref v0, .int v1], w) = hy_k nx_M_refused (sg_M_refused_0 v0 v1 w) := hy_fx_eq _ _
theorem ev_M_choose_0 (v0 : Nat) (v1 : Int32) (w : hy_W) : hy_fx nx_M_choose (0, [.ref v0, .int v1], w) = hy_k nx_M_choose (sg_M_choose_0 v0 v1 w) := hy_fx_eq _ _
theorem ev_M_choose_10 (v0 : Nat) (v1 : Int32) (s0 : Nat) (w : hy_W) : hy_fx nx_M_choose (10, [.ref v0, .int v1, .ref s0], w) = hy_k nx_M_choose (sg_M_choose_10 v0 v1 s0 w) := hy_fx_eq _ _
theorem ev_M_choose_15 (v0 : Nat) (v1 : Int32) (s0 : Int32) (s1 : Nat) (w : hy_W) : hy_fx nx_M_choose (15, [.ref v0, .int v1, .int s0, .ref s1], w) = hy_k nx_M_choose (sg_M_choose_15 v0 v1 s0 s1 w) := hy_fx_eq _ _
theorem ev_M_isChar_0 (v0 : Int32) (w : hy_W) : hy_fx nx_M_isChar (0, [.int v0], w) = hy_k nx_M_isChar (sg_M_isChar_0 v0 w) := hy_fx_eq _ _
theorem ev_M_isChar_15  (w : hy_W) : hy_fx nx_M_isChar (15, [], w) = hy_k nx_M_isChar (sg_M_isChar_15  w) := hy_fx_eq _ _
theorem ev_M_letters_0 (v0 : Nat) (v1 : Int32) (v2 : Int32) (v3 : Int32) (w : hy_W) : hy_fx nx_M_letters (0, [.ref v0, .int v1, .int v2, .int v3], w) = hy_k nx_M_letters (sg_M_letters_0 v0 v1 v2 v3 w) := hy_fx_eq _ _
theorem ev_M_letters_27 (v0 : Nat) (v1 : Int32) (v2 : Int32) (v3 : Int32) (w : hy_W) : hy_fx nx_M_letters (27, [.ref v0, .int v1, .int v2, .int v3], w) = hy_k nx_M_letters (sg_M_letters_27 v0 v1 v2 v3 w) := hy_fx_eq _ _
theorem ev_M_letters_28 (v0 : Nat) (v1 : Int32) (v2 : Int32) (v3 : Int32) (s0 : Int32) (w : hy_W) : hy_fx nx_M_letters (28, [.ref v0, .int v1, .int v2, .int v3, .int s0], w) = hy_k nx_M_letters (sg_M_letters_28 v0 v1 v2 v3 s0 w) := hy_fx_eq _ _
theorem ev_M_letters_54 (v0 : Nat) (v1 : Int32) (v2 : Int32) (v3 : Int32) (w : hy_W) : hy_fx nx_M_letters (54, [.ref v0, .int v1, .int v2, .int v3], w) = hy_k nx_M_letters (sg_M_letters_54 v0 v1 v2 v3 w) := hy_fx_eq _ _
theorem ev_M_letters_55 (v0 : Nat) (v1 : Int32) (v2 : Int32) (v3 : Int32) (s0 : Int32) (w : hy_W) : hy_fx nx_M_letters (55, [.ref v0, .int v1, .int v2, .int v3, .int s0], w) = hy_k nx_M_letters (sg_M_letters_55 v0 v1 v2 v3 s0 w) := hy_fx_eq _ _
theorem ev_M_letters_86 (v0 : Nat) (v1 : Int32) (v2 : Int32) (v3 : Int32) (s0 : Int32) (s1 : Nat) (w : hy_W) : hy_fx nx_M_letters (86, [.ref v0, .int v1, .int v2, .int v3, .int s0, .ref s1], w) = hy_k nx_M_letters (sg_M_letters_86 v0 v1 v2 v3 s0 s1 w) := hy_fx_eq _ _
theorem ev_M_least_0 (v0 : Nat) (v1 : Int32) (v2 : Int32) (w : hy_W) : hy_fx nx_M_least (0, [.ref v0, .int v1, .int v2], w) = hy_k nx_M_least (sg_M_least_0 v0 v1 v2 w) := hy_fx_eq _ _
theorem ev_M_least_26 (v0 : Nat) (v1 : Int32) (v2 : Int32) (w : hy_W) : hy_fx nx_M_least (26, [.ref v0, .int v1, .int v2], w) = hy_k nx_M_least (sg_M_least_26 v0 v1 v2 w) := hy_fx_eq _ _
theorem ev_M_least_27 (v0 : Nat) (v1 : Int32) (v2 : Int32) (s0 : Int32) (w : hy_W) : hy_fx nx_M_least (27, [.ref v0, .int v1, .int v2, .int s0], w) = hy_k nx_M_least (sg_M_least_27 v0 v1 v2 s0 w) := hy_fx_eq _ _
theorem ev_M_least_38 (v0 : Nat) (v1 : Int32) (v2 : Int32) (s0 : Int32) (s1 : Nat) (w : hy_W) : hy_fx nx_M_least (38, [.ref v0, .int v1, .int v2, .int s0, .ref s1], w) = hy_k nx_M_least (sg_M_least_38 v0 v1 v2 s0 s1 w) := hy_fx_eq _ _
theorem ev_M_keep_0 (v0 : Nat) (v1 : Int32) (v2 : Int32) (v3 : Int32) (v4 : Int32) (v5 : Int32) (w : hy_W) : hy_fx nx_M_keep (0, [.ref v0, .int v1, .int v2, .int v3, .int v4, .int v5], w) = hy_k nx_M_keep (sg_M_keep_0 v0 v1 v2 v3 v4 v5 w) := hy_fx_eq _ _
theorem ev_M_given_0 (v0 : Nat) (w : hy_W) : hy_fx nx_M_given (0, [.ref v0], w) = hy_k nx_M_given (sg_M_given_0 v0 w) := hy_fx_eq _ _
theorem ev_M_given_2 (v0 : Nat) (v1 : Int32) (w : hy_W) : hy_fx nx_M_given (2, [.ref v0, .int v1], w) = hy_k nx_M_given (sg_M_given_2 v0 v1 w) := hy_fx_eq _ _
theorem ev_M_isSound_0 (v0 : Nat) (v1 : Int32) (v2 : Int32) (w : hy_W) : hy_fx nx_M_isSound (0, [.ref v0, .int v1, .int v2], w) = hy_k nx_M_isSound (sg_M_isSound_0 v0 v1 v2 w) := hy_fx_eq _ _
theorem ev_M_isSound_5 (v0 : Nat) (v1 : Int32) (v2 : Int32) (v3 : Int32) (v4 : Int32) (w : hy_W) : hy_fx nx_M_isSound (5, [.ref v0, .int v1, .int v2, .int v3, .int v4], w) = hy_k nx_M_isSound (sg_M_isSound_5 v0 v1 v2 v3 v4 w) := hy_fx_eq _ _
theorem ev_M_isSound_42 (v0 : Nat) (v1 : Int32) (v2 : Int32) (v4 : Int32) (w : hy_W) : hy_fx nx_M_isSound (42, [.ref v0, .int v1, .int v2, .int v4], w) = hy_k nx_M_isSound (sg_M_isSound_42 v0 v1 v2 v4 w) := hy_fx_eq _ _
theorem ev_M_isSound_43 (v0 : Nat) (v1 : Int32) (v2 : Int32) (v4 : Int32) (s0 : Int32) (w : hy_W) : hy_fx nx_M_isSound (43, [.ref v0, .int v1, .int v2, .int v4, .int s0], w) = hy_k nx_M_isSound (sg_M_isSound_43 v0 v1 v2 v4 s0 w) := hy_fx_eq _ _
theorem ev_M_tell_0 (v0 : Nat) (v1 : Int32) (v2 : Int32) (v3 : Int32) (v4 : Int32) (v5 : Int32) (w : hy_W) : hy_fx nx_M_tell (0, [.ref v0, .int v1, .int v2, .int v3, .int v4, .int v5], w) = hy_k nx_M_tell (sg_M_tell_0 v0 v1 v2 v3 v4 v5 w) := hy_fx_eq _ _
theorem ev_M_tell_50 (v0 : Nat) (v6 : Int32) (s0 : Int32) (s1 : Nat) (w : hy_W) : hy_fx nx_M_tell (50, [.ref v0, .int v6, .int s0, .ref s1], w) = hy_k nx_M_tell (sg_M_tell_50 v0 v6 s0 s1 w) := hy_fx_eq _ _
theorem ev_M_tell_61 (v0 : Nat) (v6 : Int32) (v7 : Int32) (w : hy_W) : hy_fx nx_M_tell (61, [.ref v0, .int v6, .int v7], w) = hy_k nx_M_tell (sg_M_tell_61 v0 v6 v7 w) := hy_fx_eq _ _
theorem ev_M_drop_0 (v0 : Nat) (w : hy_W) : hy_fx nx_M_drop (0, [.ref v0], w) = hy_k nx_M_drop (sg_M_drop_0 v0 w) := hy_fx_eq _ _
theorem ev_M_readRow_0 (v0 : Nat) (w : hy_W) : hy_fx nx_M_readRow (0, [.ref v0], w) = hy_k nx_M_readRow (sg_M_readRow_0 v0 w) := hy_fx_eq _ _
theorem ev_M_readRow_16 (v0 : Nat) (v1 : Int32) (v2 : Int32) (w : hy_W) : hy_fx nx_M_readRow (16, [.ref v0, .int v1, .int v2], w) = hy_k nx_M_readRow (sg_M_readRow_16 v0 v1 v2 w) := hy_fx_eq _ _
theorem ev_M_readRow_91 (v0 : Nat) (v2 : Int32) (w : hy_W) : hy_fx nx_M_readRow (91, [.ref v0, .int v2], w) = hy_k nx_M_readRow (sg_M_readRow_91 v0 v2 w) := hy_fx_eq _ _
theorem ev_M_readRow_92 (v0 : Nat) (v2 : Int32) (s0 : Int32) (w : hy_W) : hy_fx nx_M_readRow (92, [.ref v0, .int v2, .int s0], w) = hy_k nx_M_readRow (sg_M_readRow_92 v0 v2 s0 w) := hy_fx_eq _ _
theorem ev_M_readRow_109 (v0 : Nat) (v1 : Int32) (v2 : Int32) (w : hy_W) : hy_fx nx_M_readRow (109, [.ref v0, .int v1, .int v2], w) = hy_k nx_M_readRow (sg_M_readRow_109 v0 v1 v2 w) := hy_fx_eq _ _
theorem ev_M_readRow_130  (w : hy_W) : hy_fx nx_M_readRow (130, [], w) = hy_k nx_M_readRow (sg_M_readRow_130  w) := hy_fx_eq _ _
theorem ev_M_isPattern_0 (v0 : Nat) (w : hy_W) : hy_fx nx_M_isPattern (0, [.ref v0], w) = hy_k nx_M_isPattern (sg_M_isPattern_0 v0 w) := hy_fx_eq _ _
theorem ev_M_isPattern_20 (v0 : Nat) (w : hy_W) : hy_fx nx_M_isPattern (20, [.ref v0], w) = hy_k nx_M_isPattern (sg_M_isPattern_20 v0 w) := hy_fx_eq _ _
theorem ev_M_isPattern_21 (v0 : Nat) (s0 : Int32) (w : hy_W) : hy_fx nx_M_isPattern (21, [.ref v0, .int s0], w) = hy_k nx_M_isPattern (sg_M_isPattern_21 v0 s0 w) := hy_fx_eq _ _
theorem ev_M_isPattern_26 (v0 : Nat) (v1 : Int32) (v2 : Int32) (v3 : Int32) (w : hy_W) : hy_fx nx_M_isPattern (26, [.ref v0, .int v1, .int v2, .int v3], w) = hy_k nx_M_isPattern (sg_M_isPattern_26 v0 v1 v2 v3 w) := hy_fx_eq _ _
theorem ev_M_isPattern_47 (v0 : Nat) (v1 : Int32) (v3 : Int32) (w : hy_W) : hy_fx nx_M_isPattern (47, [.ref v0, .int v1, .int v3], w) = hy_k nx_M_isPattern (sg_M_isPattern_47 v0 v1 v3 w) := hy_fx_eq _ _
theorem ev_M_isPattern_52 (v0 : Nat) (v1 : Int32) (v3 : Int32) (s0 : Int32) (w : hy_W) : hy_fx nx_M_isPattern (52, [.ref v0, .int v1, .int v3, .int s0], w) = hy_k nx_M_isPattern (sg_M_isPattern_52 v0 v1 v3 s0 w) := hy_fx_eq _ _
theorem ev_M_isPattern_80 (v0 : Nat) (v2 : Int32) (v3 : Int32) (w : hy_W) : hy_fx nx_M_isPattern (80, [.ref v0, .int v2, .int v3], w) = hy_k nx_M_isPattern (sg_M_isPattern_80 v0 v2 v3 w) := hy_fx_eq _ _
theorem ev_M_isPattern_84 (v0 : Nat) (v2 : Int32) (v3 : Int32) (w : hy_W) : hy_fx nx_M_isPattern (84, [.ref v0, .int v2, .int v3], w) = hy_k nx_M_isPattern (sg_M_isPattern_84 v0 v2 v3 w) := hy_fx_eq _ _
theorem ev_M_isPattern_85 (v0 : Nat) (v2 : Int32) (v3 : Int32) (s0 : Int32) (w : hy_W) : hy_fx nx_M_isPattern (85, [.ref v0, .int v2, .int v3, .int s0], w) = hy_k nx_M_isPattern (sg_M_isPattern_85 v0 v2 v3 s0 w) := hy_fx_eq _ _
theorem ev_M_isPattern_94 (v0 : Nat) (v1 : Int32) (v2 : Int32) (v3 : Int32) (w : hy_W) : hy_fx nx_M_isPattern (94, [.ref v0, .int v1, .int v2, .int v3], w) = hy_k nx_M_isPattern (sg_M_isPattern_94 v0 v1 v2 v3 w) := hy_fx_eq _ _
theorem ev_M_isPattern_121 (v0 : Nat) (v2 : Int32) (v3 : Int32) (w : hy_W) : hy_fx nx_M_isPattern (121, [.ref v0, .int v2, .int v3], w) = hy_k nx_M_isPattern (sg_M_isPattern_121 v0 v2 v3 w) := hy_fx_eq _ _
theorem ev_M_isPattern_122 (v0 : Nat) (v2 : Int32) (v3 : Int32) (s0 : Int32) (w : hy_W) : hy_fx nx_M_isPattern (122, [.ref v0, .int v2, .int v3, .int s0], w) = hy_k nx_M_isPattern (sg_M_isPattern_122 v0 v2 v3 s0 w) := hy_fx_eq _ _
theorem ev_M_isPattern_141  (w : hy_W) : hy_fx nx_M_isPattern (141, [], w) = hy_k nx_M_isPattern (sg_M_isPattern_141  w) := hy_fx_eq _ _
theorem ev_M_findPattern_0 (v0 : Nat) (w : hy_W) : hy_fx nx_M_findPattern (0, [.ref v0], w) = hy_k nx_M_findPattern (sg_M_findPattern_0 v0 w) := hy_fx_eq _ _
theorem ev_M_findPattern_4 (v0 : Nat) (v1 : Int32) (v2 : Int32) (w : hy_W) : hy_fx nx_M_findPattern (4, [.ref v0, .int v1, .int v2], w) = hy_k nx_M_findPattern (sg_M_findPattern_4 v0 v1 v2 w) := hy_fx_eq _ _
theorem ev_M_findPattern_42 (v0 : Nat) (v1 : Int32) (v2 : Int32) (w : hy_W) : hy_fx nx_M_findPattern (42, [.ref v0, .int v1, .int v2], w) = hy_k nx_M_findPattern (sg_M_findPattern_42 v0 v1 v2 w) := hy_fx_eq _ _
theorem ev_M_findPattern_43 (v0 : Nat) (v1 : Int32) (v2 : Int32) (s0 : Int32) (w : hy_W) : hy_fx nx_M_findPattern (43, [.ref v0, .int v1, .int v2, .int s0], w) = hy_k nx_M_findPattern (sg_M_findPattern_43 v0 v1 v2 s0 w) := hy_fx_eq _ _
theorem ev_M_findPattern_47 (v0 : Nat) (v1 : Int32) (v2 : Int32) (v3 : Int32) (v4 : Int32) (w : hy_W) : hy_fx nx_M_findPattern (47, [.ref v0, .int v1, .int v2, .int v3, .int v4], w) = hy_k nx_M_findPattern (sg_M_findPattern_47 v0 v1 v2 v3 v4 w) := hy_fx_eq _ _
theorem ev_M_findPattern_87 (v0 : Nat) (v1 : Int32) (v2 : Int32) (v4 : Int32) (s0 : Int32) (w : hy_W) : hy_fx nx_M_findPattern (87, [.ref v0, .int v1, .int v2, .int v4, .int s0], w) = hy_k nx_M_findPattern (sg_M_findPattern_87 v0 v1 v2 v4 s0 w) := hy_fx_eq _ _
theorem ev_M_findPattern_94 (v0 : Nat) (v1 : Int32) (v2 : Int32) (v3 : Int32) (w : hy_W) : hy_fx nx_M_findPattern (94, [.ref v0, .int v1, .int v2, .int v3], w) = hy_k nx_M_findPattern (sg_M_findPattern_94 v0 v1 v2 v3 w) := hy_fx_eq _ _
theorem ev_M_findPattern_103 (v0 : Nat) (v2 : Int32) (s0 : Int32) (w : hy_W) : hy_fx nx_M_findPattern (103, [.ref v0, .int v2, .int s0], w) = hy_k nx_M_findPattern (sg_M_findPattern_103 v0 v2 s0 w) := hy_fx_eq _ _
theorem ev_M_pattern_0 (v0 : Nat) (w : hy_W) : hy_fx nx_M_pattern (0, [.ref v0], w) = hy_k nx_M_pattern (sg_M_pattern_0 v0 w) := hy_fx_eq _ _
theorem ev_M_pattern_17 (v0 : Nat) (v1 : Int32) (s0 : Int32) (w : hy_W) : hy_fx nx_M_pattern (17, [.ref v0, .int v1, .int s0], w) = hy_k nx_M_pattern (sg_M_pattern_17 v0 v1 s0 w) := hy_fx_eq _ _
theorem ev_M_pattern_45 (v0 : Nat) (v2 : Int32) (s0 : Nat) (w : hy_W) : hy_fx nx_M_pattern (45, [.ref v0, .int v2, .ref s0], w) = hy_k nx_M_pattern (sg_M_pattern_45 v0 v2 s0 w) := hy_fx_eq _ _
theorem ev_M_pattern_46 (v0 : Nat) (v2 : Int32) (s0 : Int32) (s1 : Nat) (w : hy_W) : hy_fx nx_M_pattern (46, [.ref v0, .int v2, .int s0, .ref s1], w) = hy_k nx_M_pattern (sg_M_pattern_46 v0 v2 s0 s1 w) := hy_fx_eq _ _
theorem ev_M_pattern_73 (v0 : Nat) (v2 : Int32) (w : hy_W) : hy_fx nx_M_pattern (73, [.ref v0, .int v2], w) = hy_k nx_M_pattern (sg_M_pattern_73 v0 v2 w) := hy_fx_eq _ _
theorem ev_M_pattern_95 (v0 : Nat) (v2 : Int32) (v3 : Int32) (w : hy_W) : hy_fx nx_M_pattern (95, [.ref v0, .int v2, .int v3], w) = hy_k nx_M_pattern (sg_M_pattern_95 v0 v2 v3 w) := hy_fx_eq _ _
theorem ev_M_pattern_128 (v0 : Nat) (v2 : Int32) (v3 : Int32) (w : hy_W) : hy_fx nx_M_pattern (128, [.ref v0, .int v2, .int v3], w) = hy_k nx_M_pattern (sg_M_pattern_128 v0 v2 v3 w) := hy_fx_eq _ _
theorem ev_M_isException_0 (v0 : Nat) (w : hy_W) : hy_fx nx_M_isException (0, [.ref v0], w) = hy_k nx_M_isException (sg_M_isException_0 v0 w) := hy_fx_eq _ _
theorem ev_M_isException_7 (v0 : Nat) (v1 : Int32) (v2 : Int32) (w : hy_W) : hy_fx nx_M_isException (7, [.ref v0, .int v1, .int v2], w) = hy_k nx_M_isException (sg_M_isException_7 v0 v1 v2 w) := hy_fx_eq _ _
theorem ev_M_isException_32 (v0 : Nat) (v2 : Int32) (w : hy_W) : hy_fx nx_M_isException (32, [.ref v0, .int v2], w) = hy_k nx_M_isException (sg_M_isException_32 v0 v2 w) := hy_fx_eq _ _
theorem ev_M_isException_33 (v0 : Nat) (v2 : Int32) (s0 : Int32) (w : hy_W) : hy_fx nx_M_isException (33, [.ref v0, .int v2, .int s0], w) = hy_k nx_M_isException (sg_M_isException_33 v0 v2 s0 w) := hy_fx_eq _ _
theorem ev_M_isException_42 (v0 : Nat) (v1 : Int32) (v2 : Int32) (w : hy_W) : hy_fx nx_M_isException (42, [.ref v0, .int v1, .int v2], w) = hy_k nx_M_isException (sg_M_isException_42 v0 v1 v2 w) := hy_fx_eq _ _
theorem ev_M_isException_74 (v0 : Nat) (v2 : Int32) (w : hy_W) : hy_fx nx_M_isException (74, [.ref v0, .int v2], w) = hy_k nx_M_isException (sg_M_isException_74 v0 v2 w) := hy_fx_eq _ _
theorem ev_M_isException_78 (v0 : Nat) (v2 : Int32) (w : hy_W) : hy_fx nx_M_isException (78, [.ref v0, .int v2], w) = hy_k nx_M_isException (sg_M_isException_78 v0 v2 w) := hy_fx_eq _ _
theorem ev_M_isException_79 (v0 : Nat) (v2 : Int32) (s0 : Int32) (w : hy_W) : hy_fx nx_M_isException (79, [.ref v0, .int v2, .int s0], w) = hy_k nx_M_isException (sg_M_isException_79 v0 v2 s0 w) := hy_fx_eq _ _
theorem ev_M_findException_0 (v0 : Nat) (w : hy_W) : hy_fx nx_M_findException (0, [.ref v0], w) = hy_k nx_M_findException (sg_M_findException_0 v0 w) := hy_fx_eq _ _
theorem ev_M_findException_4 (v0 : Nat) (v1 : Int32) (v2 : Int32) (w : hy_W) : hy_fx nx_M_findException (4, [.ref v0, .int v1, .int v2], w) = hy_k nx_M_findException (sg_M_findException_4 v0 v1 v2 w) := hy_fx_eq _ _
theorem ev_M_findException_42 (v0 : Nat) (v1 : Int32) (v2 : Int32) (w : hy_W) : hy_fx nx_M_findException (42, [.ref v0, .int v1, .int v2], w) = hy_k nx_M_findException (sg_M_findException_42 v0 v1 v2 w) := hy_fx_eq _ _
theorem ev_M_findException_43 (v0 : Nat) (v1 : Int32) (v2 : Int32) (s0 : Int32) (w : hy_W) : hy_fx nx_M_findException (43, [.ref v0, .int v1, .int v2, .int s0], w) = hy_k nx_M_findException (sg_M_findException_43 v0 v1 v2 s0 w) := hy_fx_eq _ _
theorem ev_M_findException_47 (v0 : Nat) (v1 : Int32) (v2 : Int32) (v3 : Int32) (v4 : Int32) (w : hy_W) : hy_fx nx_M_findException (47, [.ref v0, .int v1, .int v2, .int v3, .int v4], w) = hy_k nx_M_findException (sg_M_findException_47 v0 v1 v2 v3 v4 w) := hy_fx_eq _ _
theorem ev_M_findException_87 (v0 : Nat) (v1 : Int32) (v2 : Int32) (v4 : Int32) (s0 : Int32) (w : hy_W) : hy_fx nx_M_findException (87, [.ref v0, .int v1, .int v2, .int v4, .int s0], w) = hy_k nx_M_findException (sg_M_findException_87 v0 v1 v2 v4 s0 w) := hy_fx_eq _ _
theorem ev_M_findException_94 (v0 : Nat) (v1 : Int32) (v2 : Int32) (v3 : Int32) (w : hy_W) : hy_fx nx_M_findException (94, [.ref v0, .int v1, .int v2, .int v3], w) = hy_k nx_M_findException (sg_M_findException_94 v0 v1 v2 v3 w) := hy_fx_eq _ _
theorem ev_M_findException_103 (v0 : Nat) (v2 : Int32) (s0 : Int32) (w : hy_W) : hy_fx nx_M_findException (103, [.ref v0, .int v2, .int s0], w) = hy_k nx_M_findException (sg_M_findException_103 v0 v2 s0 w) := hy_fx_eq _ _
theorem ev_M_exception_0 (v0 : Nat) (w : hy_W) : hy_fx nx_M_exception (0, [.ref v0], w) = hy_k nx_M_exception (sg_M_exception_0 v0 w) := hy_fx_eq _ _
theorem ev_M_exception_17 (v0 : Nat) (v1 : Int32) (s0 : Int32) (w : hy_W) : hy_fx nx_M_exception (17, [.ref v0, .int v1, .int s0], w) = hy_k nx_M_exception (sg_M_exception_17 v0 v1 s0 w) := hy_fx_eq _ _
theorem ev_M_exception_44 (v0 : Nat) (v2 : Int32) (s0 : Nat) (w : hy_W) : hy_fx nx_M_exception (44, [.ref v0, .int v2, .ref s0], w) = hy_k nx_M_exception (sg_M_exception_44 v0 v2 s0 w) := hy_fx_eq _ _
theorem ev_M_exception_45 (v0 : Nat) (v2 : Int32) (s0 : Int32) (s1 : Nat) (w : hy_W) : hy_fx nx_M_exception (45, [.ref v0, .int v2, .int s0, .ref s1], w) = hy_k nx_M_exception (sg_M_exception_45 v0 v2 s0 s1 w) := hy_fx_eq _ _
theorem ev_M_exception_72 (v0 : Nat) (v2 : Int32) (w : hy_W) : hy_fx nx_M_exception (72, [.ref v0, .int v2], w) = hy_k nx_M_exception (sg_M_exception_72 v0 v2 w) := hy_fx_eq _ _
theorem ev_M_exception_94 (v0 : Nat) (v2 : Int32) (v3 : Int32) (w : hy_W) : hy_fx nx_M_exception (94, [.ref v0, .int v2, .int v3], w) = hy_k nx_M_exception (sg_M_exception_94 v0 v2 v3 w) := hy_fx_eq _ _
theorem ev_M_exception_127 (v0 : Nat) (v2 : Int32) (v3 : Int32) (w : hy_W) : hy_fx nx_M_exception (127, [.ref v0, .int v2, .int v3], w) = hy_k nx_M_exception (sg_M_exception_127 v0 v2 v3 w) := hy_fx_eq _ _
theorem ev_M_exception_161 (v0 : Nat) (v2 : Int32) (v3 : Int32) (s0 : Int32) (s1 : Int32) (s2 : Nat) (w : hy_W) : hy_fx nx_M_exception (161, [.ref v0, .int v2, .int v3, .int s0, .int s1, .ref s2], w) = hy_k nx_M_exception (sg_M_exception_161 v0 v2 v3 s0 s1 s2 w) := hy_fx_eq _ _
theorem ev_M_movePattern_0 (v0 : Nat) (v1 : Int32) (v2 : Int32) (w : hy_W) : hy_fx nx_M_movePattern (0, [.ref v0, .int v1, .int v2], w) = hy_k nx_M_movePattern (sg_M_movePattern_0 v0 v1 v2 w) := hy_fx_eq _ _
theorem ev_M_movePattern_26 (v0 : Nat) (v1 : Int32) (v2 : Int32) (v3 : Int32) (w : hy_W) : hy_fx nx_M_movePattern (26, [.ref v0, .int v1, .int v2, .int v3], w) = hy_k nx_M_movePattern (sg_M_movePattern_26 v0 v1 v2 v3 w) := hy_fx_eq _ _
theorem ev_M_movePattern_62 (v0 : Nat) (v1 : Int32) (v2 : Int32) (v3 : Int32) (w : hy_W) : hy_fx nx_M_movePattern (62, [.ref v0, .int v1, .int v2, .int v3], w) = hy_k nx_M_movePattern (sg_M_movePattern_62 v0 v1 v2 v3 w) := hy_fx_eq _ _
theorem ev_M_moveException_0 (v0 : Nat) (v1 : Int32) (v2 : Int32) (w : hy_W) : hy_fx nx_M_moveException (0, [.ref v0, .int v1, .int v2], w) = hy_k nx_M_moveException (sg_M_moveException_0 v0 v1 v2 w) := hy_fx_eq _ _
theorem ev_M_moveException_26 (v0 : Nat) (v1 : Int32) (v2 : Int32) (v3 : Int32) (w : hy_W) : hy_fx nx_M_moveException (26, [.ref v0, .int v1, .int v2, .int v3], w) = hy_k nx_M_moveException (sg_M_moveException_26 v0 v1 v2 v3 w) := hy_fx_eq _ _
theorem ev_M_moveException_62 (v0 : Nat) (v1 : Int32) (v2 : Int32) (v3 : Int32) (w : hy_W) : hy_fx nx_M_moveException (62, [.ref v0, .int v1, .int v2, .int v3], w) = hy_k nx_M_moveException (sg_M_moveException_62 v0 v1 v2 v3 w) := hy_fx_eq _ _
theorem ev_M_forget_0 (v0 : Nat) (w : hy_W) : hy_fx nx_M_forget (0, [.ref v0], w) = hy_k nx_M_forget (sg_M_forget_0 v0 w) := hy_fx_eq _ _
theorem ev_M_forget_9 (v0 : Nat) (v1 : Int32) (v2 : Int32) (w : hy_W) : hy_fx nx_M_forget (9, [.ref v0, .int v1, .int v2], w) = hy_k nx_M_forget (sg_M_forget_9 v0 v1 v2 w) := hy_fx_eq _ _
theorem ev_M_forget_39 (v0 : Nat) (v1 : Int32) (v2 : Int32) (w : hy_W) : hy_fx nx_M_forget (39, [.ref v0, .int v1, .int v2], w) = hy_k nx_M_forget (sg_M_forget_39 v0 v1 v2 w) := hy_fx_eq _ _
theorem ev_M_forget_61 (v0 : Nat) (v1 : Int32) (v2 : Int32) (v3 : Int32) (w : hy_W) : hy_fx nx_M_forget (61, [.ref v0, .int v1, .int v2, .int v3], w) = hy_k nx_M_forget (sg_M_forget_61 v0 v1 v2 v3 w) := hy_fx_eq _ _
theorem ev_M_forget_91 (v0 : Nat) (v1 : Int32) (v2 : Int32) (v3 : Int32) (w : hy_W) : hy_fx nx_M_forget (91, [.ref v0, .int v1, .int v2, .int v3], w) = hy_k nx_M_forget (sg_M_forget_91 v0 v1 v2 v3 w) := hy_fx_eq _ _
theorem ev_M_add_0 (v0 : Nat) (v1 : Int32) (v2 : Int32) (v3 : Int32) (v4 : Int32) (v5 : Int32) (w : hy_W) : hy_fx nx_M_add (0, [.ref v0, .int v1, .int v2, .int v3, .int v4, .int v5], w) = hy_k nx_M_add (sg_M_add_0 v0 v1 v2 v3 v4 v5 w) := hy_fx_eq _ _
theorem ev_M_add_50 (v0 : Nat) (v6 : Int32) (s0 : Int32) (s1 : Nat) (w : hy_W) : hy_fx nx_M_add (50, [.ref v0, .int v6, .int s0, .ref s1], w) = hy_k nx_M_add (sg_M_add_50 v0 v6 s0 s1 w) := hy_fx_eq _ _
theorem ev_M_add_61 (v0 : Nat) (v6 : Int32) (v7 : Int32) (w : hy_W) : hy_fx nx_M_add (61, [.ref v0, .int v6, .int v7], w) = hy_k nx_M_add (sg_M_add_61 v0 v6 v7 w) := hy_fx_eq _ _
theorem ev_M_clear_0 (v0 : Nat) (w : hy_W) : hy_fx nx_M_clear (0, [.ref v0], w) = hy_k nx_M_clear (sg_M_clear_0 v0 w) := hy_fx_eq _ _
theorem ev_M_isPlace_0 (v0 : Nat) (v1 : Int32) (w : hy_W) : hy_fx nx_M_isPlace (0, [.ref v0, .int v1], w) = hy_k nx_M_isPlace (sg_M_isPlace_0 v0 v1 w) := hy_fx_eq _ _
theorem ev_M_isPlace_16  (w : hy_W) : hy_fx nx_M_isPlace (16, [], w) = hy_k nx_M_isPlace (sg_M_isPlace_16  w) := hy_fx_eq _ _
theorem ev_M_letterOf_0 (v0 : Nat) (v1 : Int32) (w : hy_W) : hy_fx nx_M_letterOf (0, [.ref v0, .int v1], w) = hy_k nx_M_letterOf (sg_M_letterOf_0 v0 v1 w) := hy_fx_eq _ _
theorem ev_M_letterOf_10 (v0 : Nat) (v1 : Int32) (v2 : Int32) (v3 : Int32) (w : hy_W) : hy_fx nx_M_letterOf (10, [.ref v0, .int v1, .int v2, .int v3], w) = hy_k nx_M_letterOf (sg_M_letterOf_10 v0 v1 v2 v3 w) := hy_fx_eq _ _
theorem ev_M_letterOf_55 (v0 : Nat) (v1 : Int32) (v2 : Int32) (v3 : Int32) (w : hy_W) : hy_fx nx_M_letterOf (55, [.ref v0, .int v1, .int v2, .int v3], w) = hy_k nx_M_letterOf (sg_M_letterOf_55 v0 v1 v2 v3 w) := hy_fx_eq _ _
theorem ev_M_letterOf_56 (v0 : Nat) (v1 : Int32) (v2 : Int32) (v3 : Int32) (s0 : Int32) (w : hy_W) : hy_fx nx_M_letterOf (56, [.ref v0, .int v1, .int v2, .int v3, .int s0], w) = hy_k nx_M_letterOf (sg_M_letterOf_56 v0 v1 v2 v3 s0 w) := hy_fx_eq _ _
theorem ev_M_letterOf_95 (v0 : Nat) (v1 : Int32) (v3 : Int32) (s0 : Int32) (w : hy_W) : hy_fx nx_M_letterOf (95, [.ref v0, .int v1, .int v3, .int s0], w) = hy_k nx_M_letterOf (sg_M_letterOf_95 v0 v1 v3 s0 w) := hy_fx_eq _ _
theorem ev_M_isLetter_0 (v0 : Nat) (v1 : Int32) (w : hy_W) : hy_fx nx_M_isLetter (0, [.ref v0, .int v1], w) = hy_k nx_M_isLetter (sg_M_isLetter_0 v0 v1 w) := hy_fx_eq _ _
theorem ev_M_isLetter_29  (w : hy_W) : hy_fx nx_M_isLetter (29, [], w) = hy_k nx_M_isLetter (sg_M_isLetter_29  w) := hy_fx_eq _ _
theorem ev_M_isWithin_0 (v0 : Nat) (v1 : Int32) (w : hy_W) : hy_fx nx_M_isWithin (0, [.ref v0, .int v1], w) = hy_k nx_M_isWithin (sg_M_isWithin_0 v0 v1 w) := hy_fx_eq _ _
theorem ev_M_isWithin_22  (w : hy_W) : hy_fx nx_M_isWithin (22, [], w) = hy_k nx_M_isWithin (sg_M_isWithin_22  w) := hy_fx_eq _ _
theorem ev_M_begin_0 (v0 : Nat) (v1 : Int32) (w : hy_W) : hy_fx nx_M_begin (0, [.ref v0, .int v1], w) = hy_k nx_M_begin (sg_M_begin_0 v0 v1 w) := hy_fx_eq _ _
theorem ev_M_begin_2 (v0 : Nat) (v2 : Int32) (w : hy_W) : hy_fx nx_M_begin (2, [.ref v0, .int v2], w) = hy_k nx_M_begin (sg_M_begin_2 v0 v2 w) := hy_fx_eq _ _
theorem ev_M_end_0 (v0 : Nat) (v1 : Int32) (w : hy_W) : hy_fx nx_M_end (0, [.ref v0, .int v1], w) = hy_k nx_M_end (sg_M_end_0 v0 v1 w) := hy_fx_eq _ _
theorem ev_M_end_2 (v0 : Nat) (v2 : Int32) (w : hy_W) : hy_fx nx_M_end (2, [.ref v0, .int v2], w) = hy_k nx_M_end (sg_M_end_2 v0 v2 w) := hy_fx_eq _ _
theorem ev_M_letterAt_0 (v0 : Nat) (v1 : Int32) (w : hy_W) : hy_fx nx_M_letterAt (0, [.ref v0, .int v1], w) = hy_k nx_M_letterAt (sg_M_letterAt_0 v0 v1 w) := hy_fx_eq _ _
theorem ev_M_letterAt_25  (w : hy_W) : hy_fx nx_M_letterAt (25, [], w) = hy_k nx_M_letterAt (sg_M_letterAt_25  w) := hy_fx_eq _ _
theorem ev_M_exceptionFor_0 (v0 : Nat) (v1 : Int32) (v2 : Int32) (w : hy_W) : hy_fx nx_M_exceptionFor (0, [.ref v0, .int v1, .int v2], w) = hy_k nx_M_exceptionFor (sg_M_exceptionFor_0 v0 v1 v2 w) := hy_fx_eq _ _
theorem ev_M_exceptionFor_5 (v0 : Nat) (v1 : Int32) (v2 : Int32) (v3 : Int32) (v4 : Int32) (w : hy_W) : hy_fx nx_M_exceptionFor (5, [.ref v0, .int v1, .int v2, .int v3, .int v4], w) = hy_k nx_M_exceptionFor (sg_M_exceptionFor_5 v0 v1 v2 v3 v4 w) := hy_fx_eq _ _
theorem ev_M_exceptionFor_45 (v0 : Nat) (v1 : Int32) (v2 : Int32) (v3 : Int32) (v4 : Int32) (w : hy_W) : hy_fx nx_M_exceptionFor (45, [.ref v0, .int v1, .int v2, .int v3, .int v4], w) = hy_k nx_M_exceptionFor (sg_M_exceptionFor_45 v0 v1 v2 v3 v4 w) := hy_fx_eq _ _
theorem ev_M_exceptionFor_46 (v0 : Nat) (v1 : Int32) (v2 : Int32) (v3 : Int32) (v4 : Int32) (s0 : Int32) (w : hy_W) : hy_fx nx_M_exceptionFor (46, [.ref v0, .int v1, .int v2, .int v3, .int v4, .int s0], w) = hy_k nx_M_exceptionFor (sg_M_exceptionFor_46 v0 v1 v2 v3 v4 s0 w) := hy_fx_eq _ _
theorem ev_M_exceptionFor_51 (v0 : Nat) (v1 : Int32) (v2 : Int32) (v3 : Int32) (v4 : Int32) (v5 : Int32) (v6 : Int32) (w : hy_W) : hy_fx nx_M_exceptionFor (51, [.ref v0, .int v1, .int v2, .int v3, .int v4, .int v5, .int v6], w) = hy_k nx_M_exceptionFor (sg_M_exceptionFor_51 v0 v1 v2 v3 v4 v5 v6 w) := hy_fx_eq _ _
theorem ev_M_exceptionFor_91 (v0 : Nat) (v1 : Int32) (v2 : Int32) (v3 : Int32) (v4 : Int32) (v6 : Int32) (s0 : Int32) (w : hy_W) : hy_fx nx_M_exceptionFor (91, [.ref v0, .int v1, .int v2, .int v3, .int v4, .int v6, .int s0], w) = hy_k nx_M_exceptionFor (sg_M_exceptionFor_91 v0 v1 v2 v3 v4 v6 s0 w) := hy_fx_eq _ _
theorem ev_M_exceptionFor_99 (v0 : Nat) (v1 : Int32) (v2 : Int32) (v3 : Int32) (v4 : Int32) (v5 : Int32) (w : hy_W) : hy_fx nx_M_exceptionFor (99, [.ref v0, .int v1, .int v2, .int v3, .int v4, .int v5], w) = hy_k nx_M_exceptionFor (sg_M_exceptionFor_99 v0 v1 v2 v3 v4 v5 w) := hy_fx_eq _ _
theorem ev_M_exceptionFor_110 (v0 : Nat) (v1 : Int32) (v2 : Int32) (v4 : Int32) (s0 : Int32) (w : hy_W) : hy_fx nx_M_exceptionFor (110, [.ref v0, .int v1, .int v2, .int v4, .int s0], w) = hy_k nx_M_exceptionFor (sg_M_exceptionFor_110 v0 v1 v2 v4 s0 w) := hy_fx_eq _ _
theorem ev_M_isAt_0 (v0 : Nat) (v1 : Int32) (v2 : Int32) (v3 : Int32) (v4 : Int32) (w : hy_W) : hy_fx nx_M_isAt (0, [.ref v0, .int v1, .int v2, .int v3, .int v4], w) = hy_k nx_M_isAt (sg_M_isAt_0 v0 v1 v2 v3 v4 w) := hy_fx_eq _ _
theorem ev_M_isAt_32 (v0 : Nat) (v1 : Int32) (v2 : Int32) (v3 : Int32) (v4 : Int32) (w : hy_W) : hy_fx nx_M_isAt (32, [.ref v0, .int v1, .int v2, .int v3, .int v4], w) = hy_k nx_M_isAt (sg_M_isAt_32 v0 v1 v2 v3 v4 w) := hy_fx_eq _ _
theorem ev_M_isAt_33 (v0 : Nat) (v1 : Int32) (v2 : Int32) (v3 : Int32) (v4 : Int32) (s0 : Int32) (w : hy_W) : hy_fx nx_M_isAt (33, [.ref v0, .int v1, .int v2, .int v3, .int v4, .int s0], w) = hy_k nx_M_isAt (sg_M_isAt_33 v0 v1 v2 v3 v4 s0 w) := hy_fx_eq _ _
theorem ev_M_isAt_38 (v0 : Nat) (v1 : Int32) (v2 : Int32) (v3 : Int32) (v4 : Int32) (v5 : Int32) (v6 : Int32) (w : hy_W) : hy_fx nx_M_isAt (38, [.ref v0, .int v1, .int v2, .int v3, .int v4, .int v5, .int v6], w) = hy_k nx_M_isAt (sg_M_isAt_38 v0 v1 v2 v3 v4 v5 v6 w) := hy_fx_eq _ _
theorem ev_M_isAt_73 (v0 : Nat) (v1 : Int32) (v2 : Int32) (v3 : Int32) (v4 : Int32) (v6 : Int32) (w : hy_W) : hy_fx nx_M_isAt (73, [.ref v0, .int v1, .int v2, .int v3, .int v4, .int v6], w) = hy_k nx_M_isAt (sg_M_isAt_73 v0 v1 v2 v3 v4 v6 w) := hy_fx_eq _ _
theorem ev_M_isAt_83 (v0 : Nat) (v1 : Int32) (v2 : Int32) (v3 : Int32) (v4 : Int32) (v6 : Int32) (s0 : Int32) (w : hy_W) : hy_fx nx_M_isAt (83, [.ref v0, .int v1, .int v2, .int v3, .int v4, .int v6, .int s0], w) = hy_k nx_M_isAt (sg_M_isAt_83 v0 v1 v2 v3 v4 v6 s0 w) := hy_fx_eq _ _
theorem ev_M_isAt_107 (v0 : Nat) (v1 : Int32) (v2 : Int32) (v3 : Int32) (v4 : Int32) (v6 : Int32) (s0 : Int32) (w : hy_W) : hy_fx nx_M_isAt (107, [.ref v0, .int v1, .int v2, .int v3, .int v4, .int v6, .int s0], w) = hy_k nx_M_isAt (sg_M_isAt_107 v0 v1 v2 v3 v4 v6 s0 w) := hy_fx_eq _ _
theorem ev_M_wordValue_0 (v0 : Nat) (v1 : Int32) (v2 : Int32) (v3 : Int32) (w : hy_W) : hy_fx nx_M_wordValue (0, [.ref v0, .int v1, .int v2, .int v3], w) = hy_k nx_M_wordValue (sg_M_wordValue_0 v0 v1 v2 v3 w) := hy_fx_eq _ _
theorem ev_M_wordValue_34 (v0 : Nat) (v1 : Int32) (v2 : Int32) (v3 : Int32) (v5 : Int32) (v6 : Int32) (w : hy_W) : hy_fx nx_M_wordValue (34, [.ref v0, .int v1, .int v2, .int v3, .int v5, .int v6], w) = hy_k nx_M_wordValue (sg_M_wordValue_34 v0 v1 v2 v3 v5 v6 w) := hy_fx_eq _ _
theorem ev_M_wordValue_48 (v0 : Nat) (v1 : Int32) (v2 : Int32) (v3 : Int32) (v5 : Int32) (v6 : Int32) (v7 : Int32) (w : hy_W) : hy_fx nx_M_wordValue (48, [.ref v0, .int v1, .int v2, .int v3, .int v5, .int v6, .int v7], w) = hy_k nx_M_wordValue (sg_M_wordValue_48 v0 v1 v2 v3 v5 v6 v7 w) := hy_fx_eq _ _
theorem ev_M_wordValue_119 (v0 : Nat) (v1 : Int32) (v2 : Int32) (v3 : Int32) (v6 : Int32) (v7 : Int32) (s0 : Int32) (w : hy_W) : hy_fx nx_M_wordValue (119, [.ref v0, .int v1, .int v2, .int v3, .int v6, .int v7, .int s0], w) = hy_k nx_M_wordValue (sg_M_wordValue_119 v0 v1 v2 v3 v6 v7 s0 w) := hy_fx_eq _ _
theorem ev_M_wordValue_121 (v0 : Nat) (v1 : Int32) (v2 : Int32) (v3 : Int32) (v5 : Int32) (v6 : Int32) (v7 : Int32) (w : hy_W) : hy_fx nx_M_wordValue (121, [.ref v0, .int v1, .int v2, .int v3, .int v5, .int v6, .int v7], w) = hy_k nx_M_wordValue (sg_M_wordValue_121 v0 v1 v2 v3 v5 v6 v7 w) := hy_fx_eq _ _
theorem ev_M_valueOf_0 (v0 : Nat) (v1 : Int32) (w : hy_W) : hy_fx nx_M_valueOf (0, [.ref v0, .int v1], w) = hy_k nx_M_valueOf (sg_M_valueOf_0 v0 v1 w) := hy_fx_eq _ _
theorem ev_M_value_0 (v0 : Nat) (v1 : Int32) (w : hy_W) : hy_fx nx_M_value (0, [.ref v0, .int v1], w) = hy_k nx_M_value (sg_M_value_0 v0 v1 w) := hy_fx_eq _ _
theorem ev_M_value_14 (v0 : Nat) (v1 : Int32) (s0 : Int32) (s1 : Nat) (w : hy_W) : hy_fx nx_M_value (14, [.ref v0, .int v1, .int s0, .ref s1], w) = hy_k nx_M_value (sg_M_value_14 v0 v1 s0 s1 w) := hy_fx_eq _ _
theorem ev_M_isBroken_0 (v0 : Nat) (v1 : Int32) (w : hy_W) : hy_fx nx_M_isBroken (0, [.ref v0, .int v1], w) = hy_k nx_M_isBroken (sg_M_isBroken_0 v0 v1 w) := hy_fx_eq _ _
theorem ev_M_isBroken_62  (w : hy_W) : hy_fx nx_M_isBroken (62, [], w) = hy_k nx_M_isBroken (sg_M_isBroken_62  w) := hy_fx_eq _ _
theorem ev_M_breaks_0 (v0 : Nat) (v1 : Int32) (w : hy_W) : hy_fx nx_M_breaks (0, [.ref v0, .int v1], w) = hy_k nx_M_breaks (sg_M_breaks_0 v0 v1 w) := hy_fx_eq _ _
theorem ev_M_breaks_14 (v0 : Nat) (v1 : Int32) (s0 : Int32) (s1 : Nat) (w : hy_W) : hy_fx nx_M_breaks (14, [.ref v0, .int v1, .int s0, .ref s1], w) = hy_k nx_M_breaks (sg_M_breaks_14 v0 v1 s0 s1 w) := hy_fx_eq _ _
theorem ev_M_breaks_32  (w : hy_W) : hy_fx nx_M_breaks (32, [], w) = hy_k nx_M_breaks (sg_M_breaks_32  w) := hy_fx_eq _ _
theorem ev_M_word_0 (v0 : Nat) (v1 : Int32) (v2 : Int32) (w : hy_W) : hy_fx nx_M_word (0, [.ref v0, .int v1, .int v2], w) = hy_k nx_M_word (sg_M_word_0 v0 v1 v2 w) := hy_fx_eq _ _
theorem ev_M_word_10 (v0 : Nat) (v1 : Int32) (v2 : Int32) (v3 : Int32) (v4 : Int32) (w : hy_W) : hy_fx nx_M_word (10, [.ref v0, .int v1, .int v2, .int v3, .int v4], w) = hy_k nx_M_word (sg_M_word_10 v0 v1 v2 v3 v4 w) := hy_fx_eq _ _
theorem ev_M_word_45 (v0 : Nat) (v1 : Int32) (v2 : Int32) (v3 : Int32) (v4 : Int32) (w : hy_W) : hy_fx nx_M_word (45, [.ref v0, .int v1, .int v2, .int v3, .int v4], w) = hy_k nx_M_word (sg_M_word_45 v0 v1 v2 v3 v4 w) := hy_fx_eq _ _
theorem ev_M_word_46 (v0 : Nat) (v1 : Int32) (v2 : Int32) (v4 : Int32) (s0 : Int32) (w : hy_W) : hy_fx nx_M_word (46, [.ref v0, .int v1, .int v2, .int v4, .int s0], w) = hy_k nx_M_word (sg_M_word_46 v0 v1 v2 v4 s0 w) := hy_fx_eq _ _
theorem ev_M_word_88 (v0 : Nat) (v1 : Int32) (v2 : Int32) (v3 : Int32) (v4 : Int32) (w : hy_W) : hy_fx nx_M_word (88, [.ref v0, .int v1, .int v2, .int v3, .int v4], w) = hy_k nx_M_word (sg_M_word_88 v0 v1 v2 v3 v4 w) := hy_fx_eq _ _
theorem ev_M_words_0 (v0 : Nat) (w : hy_W) : hy_fx nx_M_words (0, [.ref v0], w) = hy_k nx_M_words (sg_M_words_0 v0 w) := hy_fx_eq _ _
theorem ev_M_words_4 (v0 : Nat) (v1 : Int32) (v2 : Int32) (w : hy_W) : hy_fx nx_M_words (4, [.ref v0, .int v1, .int v2], w) = hy_k nx_M_words (sg_M_words_4 v0 v1 v2 w) := hy_fx_eq _ _
theorem ev_M_words_36 (v0 : Nat) (v1 : Int32) (v2 : Int32) (w : hy_W) : hy_fx nx_M_words (36, [.ref v0, .int v1, .int v2], w) = hy_k nx_M_words (sg_M_words_36 v0 v1 v2 w) := hy_fx_eq _ _
theorem ev_M_words_37 (v0 : Nat) (v2 : Int32) (s0 : Int32) (w : hy_W) : hy_fx nx_M_words (37, [.ref v0, .int v2, .int s0], w) = hy_k nx_M_words (sg_M_words_37 v0 v2 s0 w) := hy_fx_eq _ _
theorem ev_M_brokenPlaces_0 (v0 : Nat) (w : hy_W) : hy_fx nx_M_brokenPlaces (0, [.ref v0], w) = hy_k nx_M_brokenPlaces (sg_M_brokenPlaces_0 v0 w) := hy_fx_eq _ _
theorem ev_M_brokenPlaces_4 (v0 : Nat) (v1 : Int32) (v2 : Int32) (w : hy_W) : hy_fx nx_M_brokenPlaces (4, [.ref v0, .int v1, .int v2], w) = hy_k nx_M_brokenPlaces (sg_M_brokenPlaces_4 v0 v1 v2 w) := hy_fx_eq _ _
theorem ev_M_brokenPlaces_27 (v0 : Nat) (v2 : Int32) (s0 : Int32) (w : hy_W) : hy_fx nx_M_brokenPlaces (27, [.ref v0, .int v2, .int s0], w) = hy_k nx_M_brokenPlaces (sg_M_brokenPlaces_27 v0 v2 s0 w) := hy_fx_eq _ _
theorem ev_M_timesIn_0 (v0 : Nat) (v1 : Int32) (v2 : Int32) (w : hy_W) : hy_fx nx_M_timesIn (0, [.ref v0, .int v1, .int v2], w) = hy_k nx_M_timesIn (sg_M_timesIn_0 v0 v1 v2 w) := hy_fx_eq _ _
theorem ev_M_timesIn_5 (v0 : Nat) (v1 : Int32) (v2 : Int32) (v3 : Int32) (v4 : Int32) (w : hy_W) : hy_fx nx_M_timesIn (5, [.ref v0, .int v1, .int v2, .int v3, .int v4], w) = hy_k nx_M_timesIn (sg_M_timesIn_5 v0 v1 v2 v3 v4 w) := hy_fx_eq _ _
theorem ev_M_timesIn_19 (v0 : Nat) (v1 : Int32) (v2 : Int32) (v3 : Int32) (v4 : Int32) (v5 : Int32) (w : hy_W) : hy_fx nx_M_timesIn (19, [.ref v0, .int v1, .int v2, .int v3, .int v4, .int v5], w) = hy_k nx_M_timesIn (sg_M_timesIn_19 v0 v1 v2 v3 v4 v5 w) := hy_fx_eq _ _
theorem ev_M_timesIn_45 (v0 : Nat) (v1 : Int32) (v2 : Int32) (v4 : Int32) (v5 : Int32) (s0 : Int32) (w : hy_W) : hy_fx nx_M_timesIn (45, [.ref v0, .int v1, .int v2, .int v4, .int v5, .int s0], w) = hy_k nx_M_timesIn (sg_M_timesIn_45 v0 v1 v2 v4 v5 s0 w) := hy_fx_eq _ _
theorem ev_M_times_0 (v0 : Nat) (w : hy_W) : hy_fx nx_M_times (0, [.ref v0], w) = hy_k nx_M_times (sg_M_times_0 v0 w) := hy_fx_eq _ _
theorem ev_M_times_4 (v0 : Nat) (v1 : Int32) (v2 : Int32) (w : hy_W) : hy_fx nx_M_times (4, [.ref v0, .int v1, .int v2], w) = hy_k nx_M_times (sg_M_times_4 v0 v1 v2 w) := hy_fx_eq _ _
theorem ev_M_times_56 (v0 : Nat) (v1 : Int32) (v2 : Int32) (w : hy_W) : hy_fx nx_M_times (56, [.ref v0, .int v1, .int v2], w) = hy_k nx_M_times (sg_M_times_56 v0 v1 v2 w) := hy_fx_eq _ _
theorem ev_M_rowsOf_0 (v0 : Nat) (v1 : Int32) (w : hy_W) : hy_fx nx_M_rowsOf (0, [.ref v0, .int v1], w) = hy_k nx_M_rowsOf (sg_M_rowsOf_0 v0 v1 w) := hy_fx_eq _ _
theorem ev_M_rowsOf_4 (v0 : Nat) (v1 : Int32) (v2 : Int32) (v3 : Int32) (w : hy_W) : hy_fx nx_M_rowsOf (4, [.ref v0, .int v1, .int v2, .int v3], w) = hy_k nx_M_rowsOf (sg_M_rowsOf_4 v0 v1 v2 v3 w) := hy_fx_eq _ _
theorem ev_M_rowsOf_20 (v0 : Nat) (v1 : Int32) (v2 : Int32) (v3 : Int32) (s0 : Int32) (s1 : Int32) (w : hy_W) : hy_fx nx_M_rowsOf (20, [.ref v0, .int v1, .int v2, .int v3, .int s0, .int s1], w) = hy_k nx_M_rowsOf (sg_M_rowsOf_20 v0 v1 v2 v3 s0 s1 w) := hy_fx_eq _ _
theorem ev_M_rowsOf_42 (v0 : Nat) (v1 : Int32) (v2 : Int32) (v3 : Int32) (s0 : Int32) (w : hy_W) : hy_fx nx_M_rowsOf (42, [.ref v0, .int v1, .int v2, .int v3, .int s0], w) = hy_k nx_M_rowsOf (sg_M_rowsOf_42 v0 v1 v2 v3 s0 w) := hy_fx_eq _ _
theorem ev_M_rowsOf_56 (v0 : Nat) (v1 : Int32) (v3 : Int32) (s0 : Int32) (w : hy_W) : hy_fx nx_M_rowsOf (56, [.ref v0, .int v1, .int v3, .int s0], w) = hy_k nx_M_rowsOf (sg_M_rowsOf_56 v0 v1 v3 s0 w) := hy_fx_eq _ _
theorem ev_M_count_0 (v0 : Nat) (v1 : Int32) (w : hy_W) : hy_fx nx_M_count (0, [.ref v0, .int v1], w) = hy_k nx_M_count (sg_M_count_0 v0 v1 w) := hy_fx_eq _ _
theorem ev_X_law_0 (L : Nat) (xs : Nat → Int32)  (w : hy_W) : hy_fx (nx_X_law L xs) (0, [], w) = hy_k (nx_X_law L xs) (sg_X_law_0 L xs  w) := hy_fx_eq _ _
theorem ev_X_law_23 (L : Nat) (xs : Nat → Int32) (v1 : Nat) (v2 : Nat) (v3 : Nat) (v4 : Int32) (w : hy_W) : hy_fx (nx_X_law L xs) (23, [.ref v1, .ref v2, .ref v3, .int v4], w) = hy_k (nx_X_law L xs) (sg_X_law_23 L xs v1 v2 v3 v4 w) := hy_fx_eq _ _
theorem ev_X_law_112 (L : Nat) (xs : Nat → Int32) (v1 : Nat) (v2 : Nat) (v3 : Nat) (v4 : Int32) (w : hy_W) : hy_fx (nx_X_law L xs) (112, [.ref v1, .ref v2, .ref v3, .int v4], w) = hy_k (nx_X_law L xs) (sg_X_law_112 L xs v1 v2 v3 v4 w) := hy_fx_eq _ _
theorem ev_X_law_165 (L : Nat) (xs : Nat → Int32) (v1 : Nat) (v2 : Nat) (v3 : Nat) (v4 : Int32) (w : hy_W) : hy_fx (nx_X_law L xs) (165, [.ref v1, .ref v2, .ref v3, .int v4], w) = hy_k (nx_X_law L xs) (sg_X_law_165 L xs v1 v2 v3 v4 w) := hy_fx_eq _ _
theorem ev_X_law_168 (L : Nat) (xs : Nat → Int32) (v1 : Nat) (v2 : Nat) (v3 : Nat) (v4 : Int32) (w : hy_W) : hy_fx (nx_X_law L xs) (168, [.ref v1, .ref v2, .ref v3, .int v4], w) = hy_k (nx_X_law L xs) (sg_X_law_168 L xs v1 v2 v3 v4 w) := hy_fx_eq _ _
theorem ev_X_law_228 (L : Nat) (xs : Nat → Int32) (v1 : Nat) (v2 : Nat) (v3 : Nat) (v4 : Int32) (w : hy_W) : hy_fx (nx_X_law L xs) (228, [.ref v1, .ref v2, .ref v3, .int v4], w) = hy_k (nx_X_law L xs) (sg_X_law_228 L xs v1 v2 v3 v4 w) := hy_fx_eq _ _
theorem ev_X_law_276 (L : Nat) (xs : Nat → Int32) (v1 : Nat) (v2 : Nat) (v3 : Nat) (v4 : Int32) (w : hy_W) : hy_fx (nx_X_law L xs) (276, [.ref v1, .ref v2, .ref v3, .int v4], w) = hy_k (nx_X_law L xs) (sg_X_law_276 L xs v1 v2 v3 v4 w) := hy_fx_eq _ _
theorem ev_X_law_377 (L : Nat) (xs : Nat → Int32) (v1 : Nat) (v2 : Nat) (v3 : Nat) (v4 : Int32) (w : hy_W) : hy_fx (nx_X_law L xs) (377, [.ref v1, .ref v2, .ref v3, .int v4], w) = hy_k (nx_X_law L xs) (sg_X_law_377 L xs v1 v2 v3 v4 w) := hy_fx_eq _ _
theorem ev_X_law_380 (L : Nat) (xs : Nat → Int32) (v1 : Nat) (v2 : Nat) (v3 : Nat) (v4 : Int32) (w : hy_W) : hy_fx (nx_X_law L xs) (380, [.ref v1, .ref v2, .ref v3, .int v4], w) = hy_k (nx_X_law L xs) (sg_X_law_380 L xs v1 v2 v3 v4 w) := hy_fx_eq _ _
theorem ev_X_law_393 (L : Nat) (xs : Nat → Int32) (v1 : Nat) (v2 : Nat) (v3 : Nat) (v4 : Int32) (w : hy_W) : hy_fx (nx_X_law L xs) (393, [.ref v1, .ref v2, .ref v3, .int v4], w) = hy_k (nx_X_law L xs) (sg_X_law_393 L xs v1 v2 v3 v4 w) := hy_fx_eq _ _
theorem ev_X_law_434 (L : Nat) (xs : Nat → Int32) (v1 : Nat) (v2 : Nat) (v3 : Nat) (v4 : Int32) (w : hy_W) : hy_fx (nx_X_law L xs) (434, [.ref v1, .ref v2, .ref v3, .int v4], w) = hy_k (nx_X_law L xs) (sg_X_law_434 L xs v1 v2 v3 v4 w) := hy_fx_eq _ _
theorem ev_X_law_437 (L : Nat) (xs : Nat → Int32) (v1 : Nat) (v2 : Nat) (v3 : Nat) (v4 : Int32) (w : hy_W) : hy_fx (nx_X_law L xs) (437, [.ref v1, .ref v2, .ref v3, .int v4], w) = hy_k (nx_X_law L xs) (sg_X_law_437 L xs v1 v2 v3 v4 w) := hy_fx_eq _ _
theorem ev_X_law_478 (L : Nat) (xs : Nat → Int32) (v1 : Nat) (v2 : Nat) (v3 : Nat) (v4 : Int32) (w : hy_W) : hy_fx (nx_X_law L xs) (478, [.ref v1, .ref v2, .ref v3, .int v4], w) = hy_k (nx_X_law L xs) (sg_X_law_478 L xs v1 v2 v3 v4 w) := hy_fx_eq _ _
theorem ev_X_law_481 (L : Nat) (xs : Nat → Int32) (v1 : Nat) (v2 : Nat) (v3 : Nat) (v4 : Int32) (w : hy_W) : hy_fx (nx_X_law L xs) (481, [.ref v1, .ref v2, .ref v3, .int v4], w) = hy_k (nx_X_law L xs) (sg_X_law_481 L xs v1 v2 v3 v4 w) := hy_fx_eq _ _
theorem ev_X_law_494 (L : Nat) (xs : Nat → Int32) (v1 : Nat) (v2 : Nat) (v3 : Nat) (v4 : Int32) (w : hy_W) : hy_fx (nx_X_law L xs) (494, [.ref v1, .ref v2, .ref v3, .int v4], w) = hy_k (nx_X_law L xs) (sg_X_law_494 L xs v1 v2 v3 v4 w) := hy_fx_eq _ _
theorem ev_X_law_595 (L : Nat) (xs : Nat → Int32) (v1 : Nat) (v2 : Nat) (v3 : Nat) (v4 : Int32) (w : hy_W) : hy_fx (nx_X_law L xs) (595, [.ref v1, .ref v2, .ref v3, .int v4], w) = hy_k (nx_X_law L xs) (sg_X_law_595 L xs v1 v2 v3 v4 w) := hy_fx_eq _ _
theorem ev_X_law_598 (L : Nat) (xs : Nat → Int32) (v1 : Nat) (v2 : Nat) (v3 : Nat) (v4 : Int32) (w : hy_W) : hy_fx (nx_X_law L xs) (598, [.ref v1, .ref v2, .ref v3, .int v4], w) = hy_k (nx_X_law L xs) (sg_X_law_598 L xs v1 v2 v3 v4 w) := hy_fx_eq _ _
theorem ev_X_law_611 (L : Nat) (xs : Nat → Int32) (v1 : Nat) (v2 : Nat) (v3 : Nat) (v4 : Int32) (w : hy_W) : hy_fx (nx_X_law L xs) (611, [.ref v1, .ref v2, .ref v3, .int v4], w) = hy_k (nx_X_law L xs) (sg_X_law_611 L xs v1 v2 v3 v4 w) := hy_fx_eq _ _
theorem ev_X_law_664 (L : Nat) (xs : Nat → Int32) (v1 : Nat) (v2 : Nat) (v3 : Nat) (v4 : Int32) (w : hy_W) : hy_fx (nx_X_law L xs) (664, [.ref v1, .ref v2, .ref v3, .int v4], w) = hy_k (nx_X_law L xs) (sg_X_law_664 L xs v1 v2 v3 v4 w) := hy_fx_eq _ _
theorem ev_X_law_667 (L : Nat) (xs : Nat → Int32) (v1 : Nat) (v2 : Nat) (v3 : Nat) (v4 : Int32) (w : hy_W) : hy_fx (nx_X_law L xs) (667, [.ref v1, .ref v2, .ref v3, .int v4], w) = hy_k (nx_X_law L xs) (sg_X_law_667 L xs v1 v2 v3 v4 w) := hy_fx_eq _ _
theorem ev_X_law_721 (L : Nat) (xs : Nat → Int32) (v1 : Nat) (v2 : Nat) (v3 : Nat) (v4 : Int32) (s0 : Int64) (s1 : Int64) (w : hy_W) : hy_fx (nx_X_law L xs) (721, [.ref v1, .ref v2, .ref v3, .int v4, .long s0, .long s1], w) = hy_k (nx_X_law L xs) (sg_X_law_721 L xs v1 v2 v3 v4 s0 s1 w) := hy_fx_eq _ _
theorem ev_X_law_727 (L : Nat) (xs : Nat → Int32) (v1 : Nat) (v2 : Nat) (v3 : Nat) (v4 : Int32) (w : hy_W) : hy_fx (nx_X_law L xs) (727, [.ref v1, .ref v2, .ref v3, .int v4], w) = hy_k (nx_X_law L xs) (sg_X_law_727 L xs v1 v2 v3 v4 w) := hy_fx_eq _ _
theorem ev_X_law_730 (L : Nat) (xs : Nat → Int32) (v1 : Nat) (v2 : Nat) (v3 : Nat) (v4 : Int32) (w : hy_W) : hy_fx (nx_X_law L xs) (730, [.ref v1, .ref v2, .ref v3, .int v4], w) = hy_k (nx_X_law L xs) (sg_X_law_730 L xs v1 v2 v3 v4 w) := hy_fx_eq _ _
theorem ev_X_law_751 (L : Nat) (xs : Nat → Int32) (v1 : Nat) (v2 : Nat) (v3 : Nat) (v4 : Int32) (s0 : Int32) (s1 : Int32) (s2 : Nat) (w : hy_W) : hy_fx (nx_X_law L xs) (751, [.ref v1, .ref v2, .ref v3, .int v4, .int s0, .int s1, .ref s2], w) = hy_k (nx_X_law L xs) (sg_X_law_751 L xs v1 v2 v3 v4 s0 s1 s2 w) := hy_fx_eq _ _
theorem ev_X_law_775 (L : Nat) (xs : Nat → Int32) (v1 : Nat) (v2 : Nat) (v3 : Nat) (v4 : Int32) (s0 : Int32) (s1 : Int32) (s2 : Nat) (s3 : Int32) (w : hy_W) : hy_fx (nx_X_law L xs) (775, [.ref v1, .ref v2, .ref v3, .int v4, .int s0, .int s1, .ref s2, .int s3], w) = hy_k (nx_X_law L xs) (sg_X_law_775 L xs v1 v2 v3 v4 s0 s1 s2 s3 w) := hy_fx_eq _ _
theorem ev_X_law_783 (L : Nat) (xs : Nat → Int32) (v1 : Nat) (v2 : Nat) (v3 : Nat) (v4 : Int32) (w : hy_W) : hy_fx (nx_X_law L xs) (783, [.ref v1, .ref v2, .ref v3, .int v4], w) = hy_k (nx_X_law L xs) (sg_X_law_783 L xs v1 v2 v3 v4 w) := hy_fx_eq _ _
theorem ev_X_law_808 (L : Nat) (xs : Nat → Int32) (v1 : Nat) (v2 : Nat) (v3 : Nat) (v4 : Int32) (w : hy_W) : hy_fx (nx_X_law L xs) (808, [.ref v1, .ref v2, .ref v3, .int v4], w) = hy_k (nx_X_law L xs) (sg_X_law_808 L xs v1 v2 v3 v4 w) := hy_fx_eq _ _
