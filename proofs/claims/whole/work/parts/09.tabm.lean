abbrev k_X5_in : List (Nat × mm_T) := [(0, o_lld 0 1), (1, o_lld 2 2), (2, o_lcmp 3), (3, o_if_lt 17 6), (6, o_lld 0 7), (7, o_lld 4 9), (9, o_lcmp 10), (10, o_if_gt 17 13), (13, o_ic 1 14), (14, o_goto 18), (17, o_ic 0 18), (18, o_zret)]
def m_X5_in : Nat → mm_T := mm_look k_X5_in
set_option maxRecDepth 20000 in
theorem sp_X5_in : mm_Sp yX5_in cX5_in 6 (some .boolean) { frames := 0, cells := 0, slots := 0, locals := 0 } m_X5_in := by
  refine mm_sound (own := RX5) (code := k_X5_in) (by decide) rfl ?_
  refine List.forall_mem_cons.mpr ⟨ok_lload_n (pc := 0) dX5_in_0 rfl, ?_⟩
  refine List.forall_mem_cons.mpr ⟨ok_lload_n (pc := 1) dX5_in_1 rfl, ?_⟩
  refine List.forall_mem_cons.mpr ⟨ok_lcmp (pc := 2) dX5_in_2, ?_⟩
  refine List.forall_mem_cons.mpr ⟨ok_if_lt (pc := 3) (tgt := 17) dX5_in_3 (by decide), ?_⟩
  refine List.forall_mem_cons.mpr ⟨ok_lload_n (pc := 6) dX5_in_6 rfl, ?_⟩
  refine List.forall_mem_cons.mpr ⟨ok_lload (pc := 7) dX5_in_7, ?_⟩
  refine List.forall_mem_cons.mpr ⟨ok_lcmp (pc := 9) dX5_in_9, ?_⟩
  refine List.forall_mem_cons.mpr ⟨ok_if_gt (pc := 10) (tgt := 17) dX5_in_10 (by decide), ?_⟩
  refine List.forall_mem_cons.mpr ⟨ok_iconst (pc := 13) dX5_in_13 (by decide), ?_⟩
  refine List.forall_mem_cons.mpr ⟨ok_goto (pc := 14) (tgt := 18) dX5_in_14 (by decide), ?_⟩
  refine List.forall_mem_cons.mpr ⟨ok_iconst (pc := 17) dX5_in_17 (by decide), ?_⟩
  refine List.forall_mem_cons.mpr ⟨ok_zret (pc := 18) dX5_in_18, ?_⟩
  exact fun _ h => absurd h List.not_mem_nil
abbrev k_X5_copy : List (Nat × mm_T) := [(0, o_ic 0 1), (1, o_ist 2 2), (2, o_ild 2 3), (3, o_ald 0 4), (4, o_alen 5), (5, o_ic_ge 20 8), (8, o_ald 1 9), (9, o_ild 2 10), (10, o_ald 0 11), (11, o_ild 2 12), (12, o_iald 13), (13, o_iast 14), (14, o_iinc 2 1 17), (17, o_goto 2), (20, o_vret)]
def m_X5_copy : Nat → mm_T := mm_look k_X5_copy
set_option maxRecDepth 20000 in
theorem sp_X5_copy : mm_Sp yX5_copy cX5_copy 3 none { frames := 0, cells := 0, slots := 0, locals := 0 } m_X5_copy := by
  refine mm_sound (own := RX5) (code := k_X5_copy) (by decide) rfl ?_
  refine List.forall_mem_cons.mpr ⟨ok_iconst (pc := 0) dX5_copy_0 (by decide), ?_⟩
  refine List.forall_mem_cons.mpr ⟨ok_istore_n (pc := 1) dX5_copy_1 rfl, ?_⟩
  refine List.forall_mem_cons.mpr ⟨ok_iload_n (pc := 2) dX5_copy_2 rfl, ?_⟩
  refine List.forall_mem_cons.mpr ⟨ok_aload_n (pc := 3) dX5_copy_3 rfl, ?_⟩
  refine List.forall_mem_cons.mpr ⟨ok_alen (pc := 4) dX5_copy_4, ?_⟩
  refine List.forall_mem_cons.mpr ⟨ok_icmp_ge (pc := 5) (tgt := 20) dX5_copy_5 (by decide), ?_⟩
  refine List.forall_mem_cons.mpr ⟨ok_aload_n (pc := 8) dX5_copy_8 rfl, ?_⟩
  refine List.forall_mem_cons.mpr ⟨ok_iload_n (pc := 9) dX5_copy_9 rfl, ?_⟩
  refine List.forall_mem_cons.mpr ⟨ok_aload_n (pc := 10) dX5_copy_10 rfl, ?_⟩
  refine List.forall_mem_cons.mpr ⟨ok_iload_n (pc := 11) dX5_copy_11 rfl, ?_⟩
  refine List.forall_mem_cons.mpr ⟨ok_iald (pc := 12) dX5_copy_12, ?_⟩
  refine List.forall_mem_cons.mpr ⟨ok_iast (pc := 13) dX5_copy_13, ?_⟩
  refine List.forall_mem_cons.mpr ⟨ok_iinc (pc := 14) dX5_copy_14 (by decide), ?_⟩
  refine List.forall_mem_cons.mpr ⟨ok_goto (pc := 17) (tgt := 2) dX5_copy_17 (by decide), ?_⟩
  refine List.forall_mem_cons.mpr ⟨ok_vret (pc := 20) dX5_copy_20, ?_⟩
  exact fun _ h => absurd h List.not_mem_nil
abbrev k_X5_ones : List (Nat × mm_T) := [(0, o_ic 0 1), (1, o_ist 1 2), (2, o_ic 0 3), (3, o_ist 2 4), (4, o_ild 2 5), (5, o_ic 10 7), (7, o_ic_ge 24 10), (10, o_ild 1 11), (11, o_ild 0 12), (12, o_ild 2 13), (13, o_ishr 14), (14, o_ic 1 15), (15, o_iand 16), (16, o_iadd 17), (17, o_ist 1 18), (18, o_iinc 2 1 21), (21, o_goto 4), (24, o_ild 1 25), (25, o_iret)]
def m_X5_ones : Nat → mm_T := mm_look k_X5_ones
set_option maxRecDepth 20000 in
theorem sp_X5_ones : mm_Sp yX5_ones cX5_ones 3 (some .int) { frames := 0, cells := 0, slots := 0, locals := 0 } m_X5_ones := by
  refine mm_sound (own := RX5) (code := k_X5_ones) (by decide) rfl ?_
  refine List.forall_mem_cons.mpr ⟨ok_iconst (pc := 0) dX5_ones_0 (by decide), ?_⟩
  refine List.forall_mem_cons.mpr ⟨ok_istore_n (pc := 1) dX5_ones_1 rfl, ?_⟩
  refine List.forall_mem_cons.mpr ⟨ok_iconst (pc := 2) dX5_ones_2 (by decide), ?_⟩
  refine List.forall_mem_cons.mpr ⟨ok_istore_n (pc := 3) dX5_ones_3 rfl, ?_⟩
  refine List.forall_mem_cons.mpr ⟨ok_iload_n (pc := 4) dX5_ones_4 rfl, ?_⟩
  refine List.forall_mem_cons.mpr ⟨ok_bipush (pc := 5) dX5_ones_5 (by decide), ?_⟩
  refine List.forall_mem_cons.mpr ⟨ok_icmp_ge (pc := 7) (tgt := 24) dX5_ones_7 (by decide), ?_⟩
  refine List.forall_mem_cons.mpr ⟨ok_iload_n (pc := 10) dX5_ones_10 rfl, ?_⟩
  refine List.forall_mem_cons.mpr ⟨ok_iload_n (pc := 11) dX5_ones_11 rfl, ?_⟩
  refine List.forall_mem_cons.mpr ⟨ok_iload_n (pc := 12) dX5_ones_12 rfl, ?_⟩
  refine List.forall_mem_cons.mpr ⟨ok_ishr (pc := 13) dX5_ones_13, ?_⟩
  refine List.forall_mem_cons.mpr ⟨ok_iconst (pc := 14) dX5_ones_14 (by decide), ?_⟩
  refine List.forall_mem_cons.mpr ⟨ok_iand (pc := 15) dX5_ones_15, ?_⟩
  refine List.forall_mem_cons.mpr ⟨ok_iadd (pc := 16) dX5_ones_16, ?_⟩
  refine List.forall_mem_cons.mpr ⟨ok_istore_n (pc := 17) dX5_ones_17 rfl, ?_⟩
  refine List.forall_mem_cons.mpr ⟨ok_iinc (pc := 18) dX5_ones_18 (by decide), ?_⟩
  refine List.forall_mem_cons.mpr ⟨ok_goto (pc := 21) (tgt := 4) dX5_ones_21 (by decide), ?_⟩
  refine List.forall_mem_cons.mpr ⟨ok_iload_n (pc := 24) dX5_ones_24 rfl, ?_⟩
  refine List.forall_mem_cons.mpr ⟨ok_iret (pc := 25) dX5_ones_25, ?_⟩
  exact fun _ h => absurd h List.not_mem_nil
abbrev k_X5_letter : List (Nat × mm_T) := [(0, o_ild 1 1), (1, o_i2l 2), (2, o_lc 1 3), (3, o_lc 126 6), (6, o_callS m_X5_in 6 3 9), (9, o_if_ne 15 12), (12, o_ic (-102) 14), (14, o_iret), (15, o_ald 0 16), (16, o_getf 5 1 19), (19, o_ic 20 21), (21, o_ic_ne 27 24), (24, o_ic (-104) 26), (26, o_iret), (27, o_ald 0 28), (28, o_getf 5 0 31), (31, o_ald 0 32), (32, o_getf 5 1 35), (35, o_ild 1 36), (36, o_iast 37), (37, o_ald 0 38), (38, o_dup 39), (39, o_getf 5 1 42), (42, o_ic 1 43), (43, o_iadd 44), (44, o_putf 5 1 47), (47, o_ald 0 48), (48, o_getf 5 1 51), (51, o_iret)]
def m_X5_letter : Nat → mm_T := mm_look k_X5_letter
set_option maxRecDepth 20000 in
theorem sp_X5_letter : mm_Sp yX5_letter cX5_letter 2 (some .int) { frames := 1, cells := 0, slots := 0, locals := 25 } m_X5_letter := by
  refine mm_sound (own := RX5) (code := k_X5_letter) (by decide) rfl ?_
  refine List.forall_mem_cons.mpr ⟨ok_iload_n (pc := 0) dX5_letter_0 rfl, ?_⟩
  refine List.forall_mem_cons.mpr ⟨ok_i2l (pc := 1) dX5_letter_1, ?_⟩
  refine List.forall_mem_cons.mpr ⟨ok_lconst (pc := 2) dX5_letter_2 (by decide), ?_⟩
  refine List.forall_mem_cons.mpr ⟨ok_ldc2 (pc := 3) bw_100 dX5_letter_3, ?_⟩
  refine List.forall_mem_cons.mpr ⟨ok_callS (pc := 6) sp_X5_in ⟨bw_101, bs_X5_in⟩ (by decide) ⟨rfl, rfl, Nat.le_of_ble_eq_true rfl, Nat.le_of_ble_eq_true rfl⟩ dX5_letter_6, ?_⟩
  refine List.forall_mem_cons.mpr ⟨ok_if_ne (pc := 9) (tgt := 15) dX5_letter_9 (by decide), ?_⟩
  refine List.forall_mem_cons.mpr ⟨ok_bipush (pc := 12) dX5_letter_12 (by decide), ?_⟩
  refine List.forall_mem_cons.mpr ⟨ok_iret (pc := 14) dX5_letter_14, ?_⟩
  refine List.forall_mem_cons.mpr ⟨ok_aload_n (pc := 15) dX5_letter_15 rfl, ?_⟩
  refine List.forall_mem_cons.mpr ⟨ok_getf (pc := 16) (k := 1) (C := RX5) (T := TX5) (N := 24) rfl (by decide) hin_X5 (by decide) hsz_X5 bw_102 dX5_letter_16, ?_⟩
  refine List.forall_mem_cons.mpr ⟨ok_bipush (pc := 19) dX5_letter_19 (by decide), ?_⟩
  refine List.forall_mem_cons.mpr ⟨ok_icmp_ne (pc := 21) (tgt := 27) dX5_letter_21 (by decide), ?_⟩
  refine List.forall_mem_cons.mpr ⟨ok_bipush (pc := 24) dX5_letter_24 (by decide), ?_⟩
  refine List.forall_mem_cons.mpr ⟨ok_iret (pc := 26) dX5_letter_26, ?_⟩
  refine List.forall_mem_cons.mpr ⟨ok_aload_n (pc := 27) dX5_letter_27 rfl, ?_⟩
  refine List.forall_mem_cons.mpr ⟨ok_getf (pc := 28) (k := 0) (C := RX5) (T := TX5) (N := 24) rfl (by decide) hin_X5 (by decide) hsz_X5 bw_103 dX5_letter_28, ?_⟩
  refine List.forall_mem_cons.mpr ⟨ok_aload_n (pc := 31) dX5_letter_31 rfl, ?_⟩
  refine List.forall_mem_cons.mpr ⟨ok_getf (pc := 32) (k := 1) (C := RX5) (T := TX5) (N := 24) rfl (by decide) hin_X5 (by decide) hsz_X5 bw_102 dX5_letter_32, ?_⟩
  refine List.forall_mem_cons.mpr ⟨ok_iload_n (pc := 35) dX5_letter_35 rfl, ?_⟩
  refine List.forall_mem_cons.mpr ⟨ok_iast (pc := 36) dX5_letter_36, ?_⟩
  refine List.forall_mem_cons.mpr ⟨ok_aload_n (pc := 37) dX5_letter_37 rfl, ?_⟩
  refine List.forall_mem_cons.mpr ⟨ok_dup (pc := 38) dX5_letter_38, ?_⟩
  refine List.forall_mem_cons.mpr ⟨ok_getf (pc := 39) (k := 1) (C := RX5) (T := TX5) (N := 24) rfl (by decide) hin_X5 (by decide) hsz_X5 bw_102 dX5_letter_39, ?_⟩
  refine List.forall_mem_cons.mpr ⟨ok_iconst (pc := 42) dX5_letter_42 (by decide), ?_⟩
  refine List.forall_mem_cons.mpr ⟨ok_iadd (pc := 43) dX5_letter_43, ?_⟩
  refine List.forall_mem_cons.mpr ⟨ok_putf (pc := 44) (k := 1) (C := RX5) (T := TX5) (N := 24) tyX5 tyX5_ok nmX5 rfl (by decide) hin_X5 (by decide) hsz_X5 hkt_X5_1 rfl bw_102 dX5_letter_44, ?_⟩
  refine List.forall_mem_cons.mpr ⟨ok_aload_n (pc := 47) dX5_letter_47 rfl, ?_⟩
  refine List.forall_mem_cons.mpr ⟨ok_getf (pc := 48) (k := 1) (C := RX5) (T := TX5) (N := 24) rfl (by decide) hin_X5 (by decide) hsz_X5 bw_102 dX5_letter_48, ?_⟩
  refine List.forall_mem_cons.mpr ⟨ok_iret (pc := 51) dX5_letter_51, ?_⟩
  exact fun _ h => absurd h List.not_mem_nil
abbrev k_X5_blank : List (Nat × mm_T) := [(0, o_ald 0 1), (1, o_getf 5 1 4), (4, o_ist 1 5), (5, o_ald 0 6), (6, o_ic 0 7), (7, o_putf 5 1 10), (10, o_ild 1 11), (11, o_iret)]
def m_X5_blank : Nat → mm_T := mm_look k_X5_blank
set_option maxRecDepth 20000 in
theorem sp_X5_blank : mm_Sp yX5_blank cX5_blank 2 (some .int) { frames := 0, cells := 0, slots := 0, locals := 0 } m_X5_blank := by
  refine mm_sound (own := RX5) (code := k_X5_blank) (by decide) rfl ?_
  refine List.forall_mem_cons.mpr ⟨ok_aload_n (pc := 0) dX5_blank_0 rfl, ?_⟩
  refine List.forall_mem_cons.mpr ⟨ok_getf (pc := 1) (k := 1) (C := RX5) (T := TX5) (N := 24) rfl (by decide) hin_X5 (by decide) hsz_X5 bw_102 dX5_blank_1, ?_⟩
  refine List.forall_mem_cons.mpr ⟨ok_istore_n (pc := 4) dX5_blank_4 rfl, ?_⟩
  refine List.forall_mem_cons.mpr ⟨ok_aload_n (pc := 5) dX5_blank_5 rfl, ?_⟩
  refine List.forall_mem_cons.mpr ⟨ok_iconst (pc := 6) dX5_blank_6 (by decide), ?_⟩
  refine List.forall_mem_cons.mpr ⟨ok_putf (pc := 7) (k := 1) (C := RX5) (T := TX5) (N := 24) tyX5 tyX5_ok nmX5 rfl (by decide) hin_X5 (by decide) hsz_X5 hkt_X5_1 rfl bw_102 dX5_blank_7, ?_⟩
  refine List.forall_mem_cons.mpr ⟨ok_iload_n (pc := 10) dX5_blank_10 rfl, ?_⟩
  refine List.forall_mem_cons.mpr ⟨ok_iret (pc := 11) dX5_blank_11, ?_⟩
  exact fun _ h => absurd h List.not_mem_nil
abbrev k_X5_isGood : List (Nat × mm_T) := [(0, o_ild 0 1), (1, o_ic 8 3), (3, o_ic_ge 20 6), (6, o_ild 1 7), (7, o_i2l 8), (8, o_lc 97 11), (11, o_lc 104 14), (14, o_callS m_X5_in 6 3 17), (17, o_goto 65), (20, o_ild 0 21), (21, o_ic 8 23), (23, o_ic_ne 40 26), (26, o_ild 1 27), (27, o_ic 59 29), (29, o_ic_ne 36 32), (32, o_ic 1 33), (33, o_goto 65), (36, o_ic 0 37), (37, o_goto 65), (40, o_ild 0 41), (41, o_ic 17 43), (43, o_ic_ge 64 46), (46, o_ild 1 47), (47, o_i2l 48), (48, o_lc 48 51), (51, o_lc 57 54), (54, o_callS m_X5_in 6 3 57), (57, o_if_eq 64 60), (60, o_ic 1 61), (61, o_goto 65), (64, o_ic 0 65), (65, o_zret)]
def m_X5_isGood : Nat → mm_T := mm_look k_X5_isGood
set_option maxRecDepth 20000 in
theorem sp_X5_isGood : mm_Sp yX5_isGood cX5_isGood 2 (some .boolean) { frames := 1, cells := 0, slots := 0, locals := 25 } m_X5_isGood := by
  refine mm_sound (own := RX5) (code := k_X5_isGood) (by decide) rfl ?_
  refine List.forall_mem_cons.mpr ⟨ok_iload_n (pc := 0) dX5_isGood_0 rfl, ?_⟩
  refine List.forall_mem_cons.mpr ⟨ok_bipush (pc := 1) dX5_isGood_1 (by decide), ?_⟩
  refine List.forall_mem_cons.mpr ⟨ok_icmp_ge (pc := 3) (tgt := 20) dX5_isGood_3 (by decide), ?_⟩
  refine List.forall_mem_cons.mpr ⟨ok_iload_n (pc := 6) dX5_isGood_6 rfl, ?_⟩
  refine List.forall_mem_cons.mpr ⟨ok_i2l (pc := 7) dX5_isGood_7, ?_⟩
  refine List.forall_mem_cons.mpr ⟨ok_ldc2 (pc := 8) bw_104 dX5_isGood_8, ?_⟩
  refine List.forall_mem_cons.mpr ⟨ok_ldc2 (pc := 11) bw_105 dX5_isGood_11, ?_⟩
  refine List.forall_mem_cons.mpr ⟨ok_callS (pc := 14) sp_X5_in ⟨bw_101, bs_X5_in⟩ (by decide) ⟨rfl, rfl, Nat.le_of_ble_eq_true rfl, Nat.le_of_ble_eq_true rfl⟩ dX5_isGood_14, ?_⟩
  refine List.forall_mem_cons.mpr ⟨ok_goto (pc := 17) (tgt := 65) dX5_isGood_17 (by decide), ?_⟩
  refine List.forall_mem_cons.mpr ⟨ok_iload_n (pc := 20) dX5_isGood_20 rfl, ?_⟩
  refine List.forall_mem_cons.mpr ⟨ok_bipush (pc := 21) dX5_isGood_21 (by decide), ?_⟩
  refine List.forall_mem_cons.mpr ⟨ok_icmp_ne (pc := 23) (tgt := 40) dX5_isGood_23 (by decide), ?_⟩
  refine List.forall_mem_cons.mpr ⟨ok_iload_n (pc := 26) dX5_isGood_26 rfl, ?_⟩
  refine List.forall_mem_cons.mpr ⟨ok_bipush (pc := 27) dX5_isGood_27 (by decide), ?_⟩
  refine List.forall_mem_cons.mpr ⟨ok_icmp_ne (pc := 29) (tgt := 36) dX5_isGood_29 (by decide), ?_⟩
  refine List.forall_mem_cons.mpr ⟨ok_iconst (pc := 32) dX5_isGood_32 (by decide), ?_⟩
  refine List.forall_mem_cons.mpr ⟨ok_goto (pc := 33) (tgt := 65) dX5_isGood_33 (by decide), ?_⟩
  refine List.forall_mem_cons.mpr ⟨ok_iconst (pc := 36) dX5_isGood_36 (by decide), ?_⟩
  refine List.forall_mem_cons.mpr ⟨ok_goto (pc := 37) (tgt := 65) dX5_isGood_37 (by decide), ?_⟩
  refine List.forall_mem_cons.mpr ⟨ok_iload_n (pc := 40) dX5_isGood_40 rfl, ?_⟩
  refine List.forall_mem_cons.mpr ⟨ok_bipush (pc := 41) dX5_isGood_41 (by decide), ?_⟩
  refine List.forall_mem_cons.mpr ⟨ok_icmp_ge (pc := 43) (tgt := 64) dX5_isGood_43 (by decide), ?_⟩
  refine List.forall_mem_cons.mpr ⟨ok_iload_n (pc := 46) dX5_isGood_46 rfl, ?_⟩
  refine List.forall_mem_cons.mpr ⟨ok_i2l (pc := 47) dX5_isGood_47, ?_⟩
  refine List.forall_mem_cons.mpr ⟨ok_ldc2 (pc := 48) bw_106 dX5_isGood_48, ?_⟩
  refine List.forall_mem_cons.mpr ⟨ok_ldc2 (pc := 51) bw_107 dX5_isGood_51, ?_⟩
  refine List.forall_mem_cons.mpr ⟨ok_callS (pc := 54) sp_X5_in ⟨bw_101, bs_X5_in⟩ (by decide) ⟨rfl, rfl, Nat.le_of_ble_eq_true rfl, Nat.le_of_ble_eq_true rfl⟩ dX5_isGood_54, ?_⟩
  refine List.forall_mem_cons.mpr ⟨ok_if_eq (pc := 57) (tgt := 64) dX5_isGood_57 (by decide), ?_⟩
  refine List.forall_mem_cons.mpr ⟨ok_iconst (pc := 60) dX5_isGood_60 (by decide), ?_⟩
  refine List.forall_mem_cons.mpr ⟨ok_goto (pc := 61) (tgt := 65) dX5_isGood_61 (by decide), ?_⟩
  refine List.forall_mem_cons.mpr ⟨ok_iconst (pc := 64) dX5_isGood_64 (by decide), ?_⟩
  refine List.forall_mem_cons.mpr ⟨ok_zret (pc := 65) dX5_isGood_65, ?_⟩
  exact fun _ h => absurd h List.not_mem_nil
abbrev k_X5_faultOf : List (Nat × mm_T) := [(0, o_ic 0 1), (1, o_ist 1 2), (2, o_ild 1 3), (3, o_ald 0 4), (4, o_getf 5 1 7), (7, o_ic_ge 29 10), (10, o_ild 1 11), (11, o_ald 0 12), (12, o_getf 5 0 15), (15, o_ild 1 16), (16, o_iald 17), (17, o_callS m_X5_isGood 2 2 20), (20, o_if_eq 29 23), (23, o_iinc 1 1 26), (26, o_goto 2), (29, o_ild 1 30), (30, o_iret)]
def m_X5_faultOf : Nat → mm_T := mm_look k_X5_faultOf
set_option maxRecDepth 20000 in
theorem sp_X5_faultOf : mm_Sp yX5_faultOf cX5_faultOf 2 (some .int) { frames := 2, cells := 0, slots := 0, locals := 46 } m_X5_faultOf := by
  refine mm_sound (own := RX5) (code := k_X5_faultOf) (by decide) rfl ?_
  refine List.forall_mem_cons.mpr ⟨ok_iconst (pc := 0) dX5_faultOf_0 (by decide), ?_⟩
  refine List.forall_mem_cons.mpr ⟨ok_istore_n (pc := 1) dX5_faultOf_1 rfl, ?_⟩
  refine List.forall_mem_cons.mpr ⟨ok_iload_n (pc := 2) dX5_faultOf_2 rfl, ?_⟩
  refine List.forall_mem_cons.mpr ⟨ok_aload_n (pc := 3) dX5_faultOf_3 rfl, ?_⟩
  refine List.forall_mem_cons.mpr ⟨ok_getf (pc := 4) (k := 1) (C := RX5) (T := TX5) (N := 24) rfl (by decide) hin_X5 (by decide) hsz_X5 bw_102 dX5_faultOf_4, ?_⟩
  refine List.forall_mem_cons.mpr ⟨ok_icmp_ge (pc := 7) (tgt := 29) dX5_faultOf_7 (by decide), ?_⟩
  refine List.forall_mem_cons.mpr ⟨ok_iload_n (pc := 10) dX5_faultOf_10 rfl, ?_⟩
  refine List.forall_mem_cons.mpr ⟨ok_aload_n (pc := 11) dX5_faultOf_11 rfl, ?_⟩
  refine List.forall_mem_cons.mpr ⟨ok_getf (pc := 12) (k := 0) (C := RX5) (T := TX5) (N := 24) rfl (by decide) hin_X5 (by decide) hsz_X5 bw_103 dX5_faultOf_12, ?_⟩
  refine List.forall_mem_cons.mpr ⟨ok_iload_n (pc := 15) dX5_faultOf_15 rfl, ?_⟩
  refine List.forall_mem_cons.mpr ⟨ok_iald (pc := 16) dX5_faultOf_16, ?_⟩
  refine List.forall_mem_cons.mpr ⟨ok_callS (pc := 17) sp_X5_isGood ⟨bw_108, bs_X5_isGood⟩ (by decide) ⟨rfl, rfl, Nat.le_of_ble_eq_true rfl, Nat.le_of_ble_eq_true rfl⟩ dX5_faultOf_17, ?_⟩
  refine List.forall_mem_cons.mpr ⟨ok_if_eq (pc := 20) (tgt := 29) dX5_faultOf_20 (by decide), ?_⟩
  refine List.forall_mem_cons.mpr ⟨ok_iinc (pc := 23) dX5_faultOf_23 (by decide), ?_⟩
  refine List.forall_mem_cons.mpr ⟨ok_goto (pc := 26) (tgt := 2) dX5_faultOf_26 (by decide), ?_⟩
  refine List.forall_mem_cons.mpr ⟨ok_iload_n (pc := 29) dX5_faultOf_29 rfl, ?_⟩
  refine List.forall_mem_cons.mpr ⟨ok_iret (pc := 30) dX5_faultOf_30, ?_⟩
  exact fun _ h => absurd h List.not_mem_nil
abbrev k_X5_fault : List (Nat × mm_T) := [(0, o_ald 0 1), (1, o_callV 5 m_X5_faultOf 2 0 4), (4, o_iret)]
def m_X5_fault : Nat → mm_T := mm_look k_X5_fault
set_option maxRecDepth 20000 in
theorem sp_X5_fault : mm_Sp yX5_fault cX5_fault 1 (some .int) { frames := 3, cells := 0, slots := 0, locals := 67 } m_X5_fault := by
  refine mm_sound (own := RX5) (code := k_X5_fault) (by decide) rfl ?_
  refine List.forall_mem_cons.mpr ⟨ok_aload_n (pc := 0) dX5_fault_0 rfl, ?_⟩
  refine List.forall_mem_cons.mpr ⟨ok_callV (pc := 1) sp_X5_faultOf (ci := 5) (C := RX5) rfl (by decide) ⟨bw_109, bm_X5_faultOf⟩ (by decide) ⟨rfl, rfl, Nat.le_of_ble_eq_true rfl, Nat.le_of_ble_eq_true rfl⟩ dX5_fault_1, ?_⟩
  refine List.forall_mem_cons.mpr ⟨ok_iret (pc := 4) dX5_fault_4, ?_⟩
  exact fun _ h => absurd h List.not_mem_nil
abbrev k_X5_dome : List (Nat × mm_T) := [(0, o_ald 0 1), (1, o_getf 5 1 4), (4, o_ic 17 6), (6, o_ic_ne 18 9), (9, o_ald 0 10), (10, o_callV 5 m_X5_faultOf 2 0 13), (13, o_ic 17 15), (15, o_ic_ge 21 18), (18, o_ic (-103) 20), (20, o_iret), (21, o_ic 0 22), (22, o_ist 1 23), (23, o_ic 0 24), (24, o_ist 2 25), (25, o_ild 2 26), (26, o_ic 8 28), (28, o_ic_ge 88 31), (31, o_ald 0 32), (32, o_getf 5 6 35), (35, o_ild 2 36), (36, o_ald 0 37), (37, o_getf 5 0 40), (40, o_ild 2 41), (41, o_iald 42), (42, o_ic 97 44), (44, o_isub 45), (45, o_iast 46), (46, o_ald 0 47), (47, o_getf 5 7 50), (50, o_ild 2 51), (51, o_ald 0 52), (52, o_getf 5 0 55), (55, o_ic 9 57), (57, o_ild 2 58), (58, o_iadd 59), (59, o_iald 60), (60, o_ic 48 62), (62, o_isub 63), (63, o_iast 64), (64, o_ild 1 65), (65, o_ald 0 66), (66, o_getf 5 6 69), (69, o_ild 2 70), (70, o_iald 71), (71, o_ild 2 72), (72, o_ic_ne 79 75), (75, o_ic 0 76), (76, o_goto 80), (79, o_ic 1 80), (80, o_iadd 81), (81, o_ist 1 82), (82, o_iinc 2 1 85), (85, o_goto 25), (88, o_ald 0 89), (89, o_ic 1 90), (90, o_putf 5 2 93), (93, o_ald 0 94), (94, o_ic 0 95), (95, o_putf 5 3 98), (98, o_ald 0 99), (99, o_ic 0 100), (100, o_putf 5 4 103), (103, o_ald 0 104), (104, o_ic 0 105), (105, o_putf 5 8 108), (108, o_ald 0 109), (109, o_ic 0 110), (110, o_putf 5 12 113), (113, o_ald 0 114), (114, o_dup 115), (115, o_getf 5 5 118), (118, o_ic 1 119), (119, o_iadd 120), (120, o_putf 5 5 123), (123, o_ald 0 124), (124, o_ic 0 125), (125, o_putf 5 1 128), (128, o_ild 1 129), (129, o_iret)]
def m_X5_dome : Nat → mm_T := mm_look k_X5_dome
set_option maxRecDepth 20000 in
theorem sp_X5_dome : mm_Sp yX5_dome cX5_dome 3 (some .int) { frames := 3, cells := 0, slots := 0, locals := 67 } m_X5_dome := by
  refine mm_sound (own := RX5) (code := k_X5_dome) (by decide) rfl ?_
  refine List.forall_mem_cons.mpr ⟨ok_aload_n (pc := 0) dX5_dome_0 rfl, ?_⟩
  refine List.forall_mem_cons.mpr ⟨ok_getf (pc := 1) (k := 1) (C := RX5) (T := TX5) (N := 24) rfl (by decide) hin_X5 (by decide) hsz_X5 bw_102 dX5_dome_1, ?_⟩
  refine List.forall_mem_cons.mpr ⟨ok_bipush (pc := 4) dX5_dome_4 (by decide), ?_⟩
  refine List.forall_mem_cons.mpr ⟨ok_icmp_ne (pc := 6) (tgt := 18) dX5_dome_6 (by decide), ?_⟩
  refine List.forall_mem_cons.mpr ⟨ok_aload_n (pc := 9) dX5_dome_9 rfl, ?_⟩
  refine List.forall_mem_cons.mpr ⟨ok_callV (pc := 10) sp_X5_faultOf (ci := 5) (C := RX5) rfl (by decide) ⟨bw_109, bm_X5_faultOf⟩ (by decide) ⟨rfl, rfl, Nat.le_of_ble_eq_true rfl, Nat.le_of_ble_eq_true rfl⟩ dX5_dome_10, ?_⟩
  refine List.forall_mem_cons.mpr ⟨ok_bipush (pc := 13) dX5_dome_13 (by decide), ?_⟩
  refine List.forall_mem_cons.mpr ⟨ok_icmp_ge (pc := 15) (tgt := 21) dX5_dome_15 (by decide), ?_⟩
  refine List.forall_mem_cons.mpr ⟨ok_bipush (pc := 18) dX5_dome_18 (by decide), ?_⟩
  refine List.forall_mem_cons.mpr ⟨ok_iret (pc := 20) dX5_dome_20, ?_⟩
  refine List.forall_mem_cons.mpr ⟨ok_iconst (pc := 21) dX5_dome_21 (by decide), ?_⟩
  refine List.forall_mem_cons.mpr ⟨ok_istore_n (pc := 22) dX5_dome_22 rfl, ?_⟩
  refine List.forall_mem_cons.mpr ⟨ok_iconst (pc := 23) dX5_dome_23 (by decide), ?_⟩
  refine List.forall_mem_cons.mpr ⟨ok_istore_n (pc := 24) dX5_dome_24 rfl, ?_⟩
  refine List.forall_mem_cons.mpr ⟨ok_iload_n (pc := 25) dX5_dome_25 rfl, ?_⟩
  refine List.forall_mem_cons.mpr ⟨ok_bipush (pc := 26) dX5_dome_26 (by decide), ?_⟩
  refine List.forall_mem_cons.mpr ⟨ok_icmp_ge (pc := 28) (tgt := 88) dX5_dome_28 (by decide), ?_⟩
  refine List.forall_mem_cons.mpr ⟨ok_aload_n (pc := 31) dX5_dome_31 rfl, ?_⟩
  refine List.forall_mem_cons.mpr ⟨ok_getf (pc := 32) (k := 6) (C := RX5) (T := TX5) (N := 24) rfl (by decide) hin_X5 (by decide) hsz_X5 bw_110 dX5_dome_32, ?_⟩
  refine List.forall_mem_cons.mpr ⟨ok_iload_n (pc := 35) dX5_dome_35 rfl, ?_⟩
  refine List.forall_mem_cons.mpr ⟨ok_aload_n (pc := 36) dX5_dome_36 rfl, ?_⟩
  refine List.forall_mem_cons.mpr ⟨ok_getf (pc := 37) (k := 0) (C := RX5) (T := TX5) (N := 24) rfl (by decide) hin_X5 (by decide) hsz_X5 bw_103 dX5_dome_37, ?_⟩
  refine List.forall_mem_cons.mpr ⟨ok_iload_n (pc := 40) dX5_dome_40 rfl, ?_⟩
  refine List.forall_mem_cons.mpr ⟨ok_iald (pc := 41) dX5_dome_41, ?_⟩
  refine List.forall_mem_cons.mpr ⟨ok_bipush (pc := 42) dX5_dome_42 (by decide), ?_⟩
  refine List.forall_mem_cons.mpr ⟨ok_isub (pc := 44) dX5_dome_44, ?_⟩
  refine List.forall_mem_cons.mpr ⟨ok_iast (pc := 45) dX5_dome_45, ?_⟩
  refine List.forall_mem_cons.mpr ⟨ok_aload_n (pc := 46) dX5_dome_46 rfl, ?_⟩
  refine List.forall_mem_cons.mpr ⟨ok_getf (pc := 47) (k := 7) (C := RX5) (T := TX5) (N := 24) rfl (by decide) hin_X5 (by decide) hsz_X5 bw_111 dX5_dome_47, ?_⟩
  refine List.forall_mem_cons.mpr ⟨ok_iload_n (pc := 50) dX5_dome_50 rfl, ?_⟩
  refine List.forall_mem_cons.mpr ⟨ok_aload_n (pc := 51) dX5_dome_51 rfl, ?_⟩
  refine List.forall_mem_cons.mpr ⟨ok_getf (pc := 52) (k := 0) (C := RX5) (T := TX5) (N := 24) rfl (by decide) hin_X5 (by decide) hsz_X5 bw_103 dX5_dome_52, ?_⟩
  refine List.forall_mem_cons.mpr ⟨ok_bipush (pc := 55) dX5_dome_55 (by decide), ?_⟩
  refine List.forall_mem_cons.mpr ⟨ok_iload_n (pc := 57) dX5_dome_57 rfl, ?_⟩
  refine List.forall_mem_cons.mpr ⟨ok_iadd (pc := 58) dX5_dome_58, ?_⟩
  refine List.forall_mem_cons.mpr ⟨ok_iald (pc := 59) dX5_dome_59, ?_⟩
  refine List.forall_mem_cons.mpr ⟨ok_bipush (pc := 60) dX5_dome_60 (by decide), ?_⟩
  refine List.forall_mem_cons.mpr ⟨ok_isub (pc := 62) dX5_dome_62, ?_⟩
  refine List.forall_mem_cons.mpr ⟨ok_iast (pc := 63) dX5_dome_63, ?_⟩
  refine List.forall_mem_cons.mpr ⟨ok_iload_n (pc := 64) dX5_dome_64 rfl, ?_⟩
  refine List.forall_mem_cons.mpr ⟨ok_aload_n (pc := 65) dX5_dome_65 rfl, ?_⟩
  refine List.forall_mem_cons.mpr ⟨ok_getf (pc := 66) (k := 6) (C := RX5) (T := TX5) (N := 24) rfl (by decide) hin_X5 (by decide) hsz_X5 bw_110 dX5_dome_66, ?_⟩
  refine List.forall_mem_cons.mpr ⟨ok_iload_n (pc := 69) dX5_dome_69 rfl, ?_⟩
  refine List.forall_mem_cons.mpr ⟨ok_iald (pc := 70) dX5_dome_70, ?_⟩
  refine List.forall_mem_cons.mpr ⟨ok_iload_n (pc := 71) dX5_dome_71 rfl, ?_⟩
  refine List.forall_mem_cons.mpr ⟨ok_icmp_ne (pc := 72) (tgt := 79) dX5_dome_72 (by decide), ?_⟩
  refine List.forall_mem_cons.mpr ⟨ok_iconst (pc := 75) dX5_dome_75 (by decide), ?_⟩
  refine List.forall_mem_cons.mpr ⟨ok_goto (pc := 76) (tgt := 80) dX5_dome_76 (by decide), ?_⟩
  refine List.forall_mem_cons.mpr ⟨ok_iconst (pc := 79) dX5_dome_79 (by decide), ?_⟩
  refine List.forall_mem_cons.mpr ⟨ok_iadd (pc := 80) dX5_dome_80, ?_⟩
  refine List.forall_mem_cons.mpr ⟨ok_istore_n (pc := 81) dX5_dome_81 rfl, ?_⟩
  refine List.forall_mem_cons.mpr ⟨ok_iinc (pc := 82) dX5_dome_82 (by decide), ?_⟩
  refine List.forall_mem_cons.mpr ⟨ok_goto (pc := 85) (tgt := 25) dX5_dome_85 (by decide), ?_⟩
  refine List.forall_mem_cons.mpr ⟨ok_aload_n (pc := 88) dX5_dome_88 rfl, ?_⟩
  refine List.forall_mem_cons.mpr ⟨ok_iconst (pc := 89) dX5_dome_89 (by decide), ?_⟩
  refine List.forall_mem_cons.mpr ⟨ok_putf (pc := 90) (k := 2) (C := RX5) (T := TX5) (N := 24) tyX5 tyX5_ok nmX5 rfl (by decide) hin_X5 (by decide) hsz_X5 hkt_X5_2 rfl bw_112 dX5_dome_90, ?_⟩
  refine List.forall_mem_cons.mpr ⟨ok_aload_n (pc := 93) dX5_dome_93 rfl, ?_⟩
  refine List.forall_mem_cons.mpr ⟨ok_iconst (pc := 94) dX5_dome_94 (by decide), ?_⟩
  refine List.forall_mem_cons.mpr ⟨ok_putf (pc := 95) (k := 3) (C := RX5) (T := TX5) (N := 24) tyX5 tyX5_ok nmX5 rfl (by decide) hin_X5 (by decide) hsz_X5 hkt_X5_3 rfl bw_113 dX5_dome_95, ?_⟩
  refine List.forall_mem_cons.mpr ⟨ok_aload_n (pc := 98) dX5_dome_98 rfl, ?_⟩
  refine List.forall_mem_cons.mpr ⟨ok_iconst (pc := 99) dX5_dome_99 (by decide), ?_⟩
  refine List.forall_mem_cons.mpr ⟨ok_putf (pc := 100) (k := 4) (C := RX5) (T := TX5) (N := 24) tyX5 tyX5_ok nmX5 rfl (by decide) hin_X5 (by decide) hsz_X5 hkt_X5_4 rfl bw_114 dX5_dome_100, ?_⟩
  refine List.forall_mem_cons.mpr ⟨ok_aload_n (pc := 103) dX5_dome_103 rfl, ?_⟩
  refine List.forall_mem_cons.mpr ⟨ok_iconst (pc := 104) dX5_dome_104 (by decide), ?_⟩
  refine List.forall_mem_cons.mpr ⟨ok_putf (pc := 105) (k := 8) (C := RX5) (T := TX5) (N := 24) tyX5 tyX5_ok nmX5 rfl (by decide) hin_X5 (by decide) hsz_X5 hkt_X5_8 rfl bw_115 dX5_dome_105, ?_⟩
  refine List.forall_mem_cons.mpr ⟨ok_aload_n (pc := 108) dX5_dome_108 rfl, ?_⟩
  refine List.forall_mem_cons.mpr ⟨ok_iconst (pc := 109) dX5_dome_109 (by decide), ?_⟩
  refine List.forall_mem_cons.mpr ⟨ok_putf (pc := 110) (k := 12) (C := RX5) (T := TX5) (N := 24) tyX5 tyX5_ok nmX5 rfl (by decide) hin_X5 (by decide) hsz_X5 hkt_X5_12 rfl bw_116 dX5_dome_110, ?_⟩
  refine List.forall_mem_cons.mpr ⟨ok_aload_n (pc := 113) dX5_dome_113 rfl, ?_⟩
  refine List.forall_mem_cons.mpr ⟨ok_dup (pc := 114) dX5_dome_114, ?_⟩
  refine List.forall_mem_cons.mpr ⟨ok_getf (pc := 115) (k := 5) (C := RX5) (T := TX5) (N := 24) rfl (by decide) hin_X5 (by decide) hsz_X5 bw_117 dX5_dome_115, ?_⟩
  refine List.forall_mem_cons.mpr ⟨ok_iconst (pc := 118) dX5_dome_118 (by decide), ?_⟩
  refine List.forall_mem_cons.mpr ⟨ok_iadd (pc := 119) dX5_dome_119, ?_⟩
  refine List.forall_mem_cons.mpr ⟨ok_putf (pc := 120) (k := 5) (C := RX5) (T := TX5) (N := 24) tyX5 tyX5_ok nmX5 rfl (by decide) hin_X5 (by decide) hsz_X5 hkt_X5_5 rfl bw_117 dX5_dome_120, ?_⟩
  refine List.forall_mem_cons.mpr ⟨ok_aload_n (pc := 123) dX5_dome_123 rfl, ?_⟩
  refine List.forall_mem_cons.mpr ⟨ok_iconst (pc := 124) dX5_dome_124 (by decide), ?_⟩
  refine List.forall_mem_cons.mpr ⟨ok_putf (pc := 125) (k := 1) (C := RX5) (T := TX5) (N := 24) tyX5 tyX5_ok nmX5 rfl (by decide) hin_X5 (by decide) hsz_X5 hkt_X5_1 rfl bw_102 dX5_dome_125, ?_⟩
  refine List.forall_mem_cons.mpr ⟨ok_iload_n (pc := 128) dX5_dome_128 rfl, ?_⟩
  refine List.forall_mem_cons.mpr ⟨ok_iret (pc := 129) dX5_dome_129, ?_⟩
  exact fun _ h => absurd h List.not_mem_nil
abbrev k_X5_isPlace : List (Nat × mm_T) := [(0, o_ald 0 1), (1, o_getf 5 2 4), (4, o_if_eq 23 7), (7, o_ild 1 8), (8, o_i2l 9), (9, o_lc 0 10), (10, o_lc 7 13), (13, o_callS m_X5_in 6 3 16), (16, o_if_eq 23 19), (19, o_ic 1 20), (20, o_goto 24), (23, o_ic 0 24), (24, o_zret)]
def m_X5_isPlace : Nat → mm_T := mm_look k_X5_isPlace
set_option maxRecDepth 20000 in
theorem sp_X5_isPlace : mm_Sp yX5_isPlace cX5_isPlace 2 (some .boolean) { frames := 1, cells := 0, slots := 0, locals := 25 } m_X5_isPlace := by
  refine mm_sound (own := RX5) (code := k_X5_isPlace) (by decide) rfl ?_
  refine List.forall_mem_cons.mpr ⟨ok_aload_n (pc := 0) dX5_isPlace_0 rfl, ?_⟩
  refine List.forall_mem_cons.mpr ⟨ok_getf (pc := 1) (k := 2) (C := RX5) (T := TX5) (N := 24) rfl (by decide) hin_X5 (by decide) hsz_X5 bw_112 dX5_isPlace_1, ?_⟩
  refine List.forall_mem_cons.mpr ⟨ok_if_eq (pc := 4) (tgt := 23) dX5_isPlace_4 (by decide), ?_⟩
  refine List.forall_mem_cons.mpr ⟨ok_iload_n (pc := 7) dX5_isPlace_7 rfl, ?_⟩
  refine List.forall_mem_cons.mpr ⟨ok_i2l (pc := 8) dX5_isPlace_8, ?_⟩
  refine List.forall_mem_cons.mpr ⟨ok_lconst (pc := 9) dX5_isPlace_9 (by decide), ?_⟩
  refine List.forall_mem_cons.mpr ⟨ok_ldc2 (pc := 10) bw_118 dX5_isPlace_10, ?_⟩
  refine List.forall_mem_cons.mpr ⟨ok_callS (pc := 13) sp_X5_in ⟨bw_101, bs_X5_in⟩ (by decide) ⟨rfl, rfl, Nat.le_of_ble_eq_true rfl, Nat.le_of_ble_eq_true rfl⟩ dX5_isPlace_13, ?_⟩
  refine List.forall_mem_cons.mpr ⟨ok_if_eq (pc := 16) (tgt := 23) dX5_isPlace_16 (by decide), ?_⟩
  refine List.forall_mem_cons.mpr ⟨ok_iconst (pc := 19) dX5_isPlace_19 (by decide), ?_⟩
  refine List.forall_mem_cons.mpr ⟨ok_goto (pc := 20) (tgt := 24) dX5_isPlace_20 (by decide), ?_⟩
  refine List.forall_mem_cons.mpr ⟨ok_iconst (pc := 23) dX5_isPlace_23 (by decide), ?_⟩
  refine List.forall_mem_cons.mpr ⟨ok_zret (pc := 24) dX5_isPlace_24, ?_⟩
  exact fun _ h => absurd h List.not_mem_nil
abbrev k_X5_isPerson : List (Nat × mm_T) := [(0, o_ild 1 1), (1, o_i2l 2), (2, o_lc 0 3), (3, o_ald 0 4), (4, o_getf 5 8 7), (7, o_ic 1 8), (8, o_isub 9), (9, o_i2l 10), (10, o_callS m_X5_in 6 3 13), (13, o_zret)]
def m_X5_isPerson : Nat → mm_T := mm_look k_X5_isPerson
set_option maxRecDepth 20000 in
theorem sp_X5_isPerson : mm_Sp yX5_isPerson cX5_isPerson 2 (some .boolean) { frames := 1, cells := 0, slots := 0, locals := 25 } m_X5_isPerson := by
  refine mm_sound (own := RX5) (code := k_X5_isPerson) (by decide) rfl ?_
  refine List.forall_mem_cons.mpr ⟨ok_iload_n (pc := 0) dX5_isPerson_0 rfl, ?_⟩
  refine List.forall_mem_cons.mpr ⟨ok_i2l (pc := 1) dX5_isPerson_1, ?_⟩
  refine List.forall_mem_cons.mpr ⟨ok_lconst (pc := 2) dX5_isPerson_2 (by decide), ?_⟩
  refine List.forall_mem_cons.mpr ⟨ok_aload_n (pc := 3) dX5_isPerson_3 rfl, ?_⟩
  refine List.forall_mem_cons.mpr ⟨ok_getf (pc := 4) (k := 8) (C := RX5) (T := TX5) (N := 24) rfl (by decide) hin_X5 (by decide) hsz_X5 bw_115 dX5_isPerson_4, ?_⟩
  refine List.forall_mem_cons.mpr ⟨ok_iconst (pc := 7) dX5_isPerson_7 (by decide), ?_⟩
  refine List.forall_mem_cons.mpr ⟨ok_isub (pc := 8) dX5_isPerson_8, ?_⟩
  refine List.forall_mem_cons.mpr ⟨ok_i2l (pc := 9) dX5_isPerson_9, ?_⟩
  refine List.forall_mem_cons.mpr ⟨ok_callS (pc := 10) sp_X5_in ⟨bw_101, bs_X5_in⟩ (by decide) ⟨rfl, rfl, Nat.le_of_ble_eq_true rfl, Nat.le_of_ble_eq_true rfl⟩ dX5_isPerson_10, ?_⟩
  refine List.forall_mem_cons.mpr ⟨ok_zret (pc := 13) dX5_isPerson_13, ?_⟩
  exact fun _ h => absurd h List.not_mem_nil
abbrev k_X5_whoIsAt : List (Nat × mm_T) := [(0, o_ic 0 1), (1, o_ist 2 2), (2, o_ic 0 3), (3, o_ist 3 4), (4, o_ild 3 5), (5, o_ald 0 6), (6, o_getf 5 8 9), (9, o_ic_ge 42 12), (12, o_ild 2 13), (13, o_ald 0 14), (14, o_getf 5 9 17), (17, o_ic 3 18), (18, o_ild 3 19), (19, o_imul 20), (20, o_ic 1 21), (21, o_iadd 22), (22, o_iald 23), (23, o_ild 1 24), (24, o_ic_ne 33 27), (27, o_ic 1 28), (28, o_ild 3 29), (29, o_ishl 30), (30, o_goto 34), (33, o_ic 0 34), (34, o_ior 35), (35, o_ist 2 36), (36, o_iinc 3 1 39), (39, o_goto 4), (42, o_ild 2 43), (43, o_iret)]
def m_X5_whoIsAt : Nat → mm_T := mm_look k_X5_whoIsAt
set_option maxRecDepth 20000 in
theorem sp_X5_whoIsAt : mm_Sp yX5_whoIsAt cX5_whoIsAt 4 (some .int) { frames := 0, cells := 0, slots := 0, locals := 0 } m_X5_whoIsAt := by
  refine mm_sound (own := RX5) (code := k_X5_whoIsAt) (by decide) rfl ?_
  refine List.forall_mem_cons.mpr ⟨ok_iconst (pc := 0) dX5_whoIsAt_0 (by decide), ?_⟩
  refine List.forall_mem_cons.mpr ⟨ok_istore_n (pc := 1) dX5_whoIsAt_1 rfl, ?_⟩
  refine List.forall_mem_cons.mpr ⟨ok_iconst (pc := 2) dX5_whoIsAt_2 (by decide), ?_⟩
  refine List.forall_mem_cons.mpr ⟨ok_istore_n (pc := 3) dX5_whoIsAt_3 rfl, ?_⟩
  refine List.forall_mem_cons.mpr ⟨ok_iload_n (pc := 4) dX5_whoIsAt_4 rfl, ?_⟩
  refine List.forall_mem_cons.mpr ⟨ok_aload_n (pc := 5) dX5_whoIsAt_5 rfl, ?_⟩
  refine List.forall_mem_cons.mpr ⟨ok_getf (pc := 6) (k := 8) (C := RX5) (T := TX5) (N := 24) rfl (by decide) hin_X5 (by decide) hsz_X5 bw_115 dX5_whoIsAt_6, ?_⟩
  refine List.forall_mem_cons.mpr ⟨ok_icmp_ge (pc := 9) (tgt := 42) dX5_whoIsAt_9 (by decide), ?_⟩
  refine List.forall_mem_cons.mpr ⟨ok_iload_n (pc := 12) dX5_whoIsAt_12 rfl, ?_⟩
  refine List.forall_mem_cons.mpr ⟨ok_aload_n (pc := 13) dX5_whoIsAt_13 rfl, ?_⟩
  refine List.forall_mem_cons.mpr ⟨ok_getf (pc := 14) (k := 9) (C := RX5) (T := TX5) (N := 24) rfl (by decide) hin_X5 (by decide) hsz_X5 bw_119 dX5_whoIsAt_14, ?_⟩
  refine List.forall_mem_cons.mpr ⟨ok_iconst (pc := 17) dX5_whoIsAt_17 (by decide), ?_⟩
  refine List.forall_mem_cons.mpr ⟨ok_iload_n (pc := 18) dX5_whoIsAt_18 rfl, ?_⟩
  refine List.forall_mem_cons.mpr ⟨ok_imul (pc := 19) dX5_whoIsAt_19, ?_⟩
  refine List.forall_mem_cons.mpr ⟨ok_iconst (pc := 20) dX5_whoIsAt_20 (by decide), ?_⟩
  refine List.forall_mem_cons.mpr ⟨ok_iadd (pc := 21) dX5_whoIsAt_21, ?_⟩
  refine List.forall_mem_cons.mpr ⟨ok_iald (pc := 22) dX5_whoIsAt_22, ?_⟩
  refine List.forall_mem_cons.mpr ⟨ok_iload_n (pc := 23) dX5_whoIsAt_23 rfl, ?_⟩
  refine List.forall_mem_cons.mpr ⟨ok_icmp_ne (pc := 24) (tgt := 33) dX5_whoIsAt_24 (by decide), ?_⟩
  refine List.forall_mem_cons.mpr ⟨ok_iconst (pc := 27) dX5_whoIsAt_27 (by decide), ?_⟩
  refine List.forall_mem_cons.mpr ⟨ok_iload_n (pc := 28) dX5_whoIsAt_28 rfl, ?_⟩
  refine List.forall_mem_cons.mpr ⟨ok_ishl (pc := 29) dX5_whoIsAt_29, ?_⟩
  refine List.forall_mem_cons.mpr ⟨ok_goto (pc := 30) (tgt := 34) dX5_whoIsAt_30 (by decide), ?_⟩
  refine List.forall_mem_cons.mpr ⟨ok_iconst (pc := 33) dX5_whoIsAt_33 (by decide), ?_⟩
  refine List.forall_mem_cons.mpr ⟨ok_ior (pc := 34) dX5_whoIsAt_34, ?_⟩
  refine List.forall_mem_cons.mpr ⟨ok_istore_n (pc := 35) dX5_whoIsAt_35 rfl, ?_⟩
  refine List.forall_mem_cons.mpr ⟨ok_iinc (pc := 36) dX5_whoIsAt_36 (by decide), ?_⟩
  refine List.forall_mem_cons.mpr ⟨ok_goto (pc := 39) (tgt := 4) dX5_whoIsAt_39 (by decide), ?_⟩
  refine List.forall_mem_cons.mpr ⟨ok_iload_n (pc := 42) dX5_whoIsAt_42 rfl, ?_⟩
  refine List.forall_mem_cons.mpr ⟨ok_iret (pc := 43) dX5_whoIsAt_43, ?_⟩
  exact fun _ h => absurd h List.not_mem_nil
abbrev k_X5_heardAt : List (Nat × mm_T) := [(0, o_ic 0 1), (1, o_ist 2 2), (2, o_ic 0 3), (3, o_ist 3 4), (4, o_ild 3 5), (5, o_ic 8 7), (7, o_ic_ge 36 10), (10, o_ild 2 11), (11, o_ald 0 12), (12, o_getf 5 6 15), (15, o_ild 3 16), (16, o_iald 17), (17, o_ild 1 18), (18, o_ic_ne 27 21), (21, o_ic 1 22), (22, o_ild 3 23), (23, o_ishl 24), (24, o_goto 28), (27, o_ic 0 28), (28, o_ior 29), (29, o_ist 2 30), (30, o_iinc 3 1 33), (33, o_goto 4), (36, o_ild 2 37), (37, o_iret)]
def m_X5_heardAt : Nat → mm_T := mm_look k_X5_heardAt
set_option maxRecDepth 20000 in
theorem sp_X5_heardAt : mm_Sp yX5_heardAt cX5_heardAt 4 (some .int) { frames := 0, cells := 0, slots := 0, locals := 0 } m_X5_heardAt := by
  refine mm_sound (own := RX5) (code := k_X5_heardAt) (by decide) rfl ?_
  refine List.forall_mem_cons.mpr ⟨ok_iconst (pc := 0) dX5_heardAt_0 (by decide), ?_⟩
  refine List.forall_mem_cons.mpr ⟨ok_istore_n (pc := 1) dX5_heardAt_1 rfl, ?_⟩
  refine List.forall_mem_cons.mpr ⟨ok_iconst (pc := 2) dX5_heardAt_2 (by decide), ?_⟩
  refine List.forall_mem_cons.mpr ⟨ok_istore_n (pc := 3) dX5_heardAt_3 rfl, ?_⟩
  refine List.forall_mem_cons.mpr ⟨ok_iload_n (pc := 4) dX5_heardAt_4 rfl, ?_⟩
  refine List.forall_mem_cons.mpr ⟨ok_bipush (pc := 5) dX5_heardAt_5 (by decide), ?_⟩
  refine List.forall_mem_cons.mpr ⟨ok_icmp_ge (pc := 7) (tgt := 36) dX5_heardAt_7 (by decide), ?_⟩
  refine List.forall_mem_cons.mpr ⟨ok_iload_n (pc := 10) dX5_heardAt_10 rfl, ?_⟩
  refine List.forall_mem_cons.mpr ⟨ok_aload_n (pc := 11) dX5_heardAt_11 rfl, ?_⟩
  refine List.forall_mem_cons.mpr ⟨ok_getf (pc := 12) (k := 6) (C := RX5) (T := TX5) (N := 24) rfl (by decide) hin_X5 (by decide) hsz_X5 bw_110 dX5_heardAt_12, ?_⟩
  refine List.forall_mem_cons.mpr ⟨ok_iload_n (pc := 15) dX5_heardAt_15 rfl, ?_⟩
  refine List.forall_mem_cons.mpr ⟨ok_iald (pc := 16) dX5_heardAt_16, ?_⟩
  refine List.forall_mem_cons.mpr ⟨ok_iload_n (pc := 17) dX5_heardAt_17 rfl, ?_⟩
  refine List.forall_mem_cons.mpr ⟨ok_icmp_ne (pc := 18) (tgt := 27) dX5_heardAt_18 (by decide), ?_⟩
  refine List.forall_mem_cons.mpr ⟨ok_iconst (pc := 21) dX5_heardAt_21 (by decide), ?_⟩
  refine List.forall_mem_cons.mpr ⟨ok_iload_n (pc := 22) dX5_heardAt_22 rfl, ?_⟩
  refine List.forall_mem_cons.mpr ⟨ok_ishl (pc := 23) dX5_heardAt_23, ?_⟩
  refine List.forall_mem_cons.mpr ⟨ok_goto (pc := 24) (tgt := 28) dX5_heardAt_24 (by decide), ?_⟩
  refine List.forall_mem_cons.mpr ⟨ok_iconst (pc := 27) dX5_heardAt_27 (by decide), ?_⟩
  refine List.forall_mem_cons.mpr ⟨ok_ior (pc := 28) dX5_heardAt_28, ?_⟩
  refine List.forall_mem_cons.mpr ⟨ok_istore_n (pc := 29) dX5_heardAt_29 rfl, ?_⟩
  refine List.forall_mem_cons.mpr ⟨ok_iinc (pc := 30) dX5_heardAt_30 (by decide), ?_⟩
  refine List.forall_mem_cons.mpr ⟨ok_goto (pc := 33) (tgt := 4) dX5_heardAt_33 (by decide), ?_⟩
  refine List.forall_mem_cons.mpr ⟨ok_iload_n (pc := 36) dX5_heardAt_36 rfl, ?_⟩
  refine List.forall_mem_cons.mpr ⟨ok_iret (pc := 37) dX5_heardAt_37, ?_⟩
  exact fun _ h => absurd h List.not_mem_nil
abbrev k_X5_rentOf : List (Nat × mm_T) := [(0, o_ald 0 1), (1, o_ild 1 2), (2, o_callV 5 m_X5_heardAt 4 1 5), (5, o_callS m_X5_ones 3 1 8), (8, o_ald 0 9), (9, o_getf 5 6 12), (12, o_ild 1 13), (13, o_iald 14), (14, o_ild 1 15), (15, o_ic_ne 22 18), (18, o_ic 2 19), (19, o_goto 23), (22, o_ic 1 23), (23, o_imul 24), (24, o_iret)]
def m_X5_rentOf : Nat → mm_T := mm_look k_X5_rentOf
set_option maxRecDepth 20000 in
theorem sp_X5_rentOf : mm_Sp yX5_rentOf cX5_rentOf 2 (some .int) { frames := 1, cells := 0, slots := 0, locals := 23 } m_X5_rentOf := by
  refine mm_sound (own := RX5) (code := k_X5_rentOf) (by decide) rfl ?_
  refine List.forall_mem_cons.mpr ⟨ok_aload_n (pc := 0) dX5_rentOf_0 rfl, ?_⟩
  refine List.forall_mem_cons.mpr ⟨ok_iload_n (pc := 1) dX5_rentOf_1 rfl, ?_⟩
  refine List.forall_mem_cons.mpr ⟨ok_callV (pc := 2) sp_X5_heardAt (ci := 5) (C := RX5) rfl (by decide) ⟨bw_120, bm_X5_heardAt⟩ (by decide) ⟨rfl, rfl, Nat.le_of_ble_eq_true rfl, Nat.le_of_ble_eq_true rfl⟩ dX5_rentOf_2, ?_⟩
  refine List.forall_mem_cons.mpr ⟨ok_callS (pc := 5) sp_X5_ones ⟨bw_121, bs_X5_ones⟩ (by decide) ⟨rfl, rfl, Nat.le_of_ble_eq_true rfl, Nat.le_of_ble_eq_true rfl⟩ dX5_rentOf_5, ?_⟩
  refine List.forall_mem_cons.mpr ⟨ok_aload_n (pc := 8) dX5_rentOf_8 rfl, ?_⟩
  refine List.forall_mem_cons.mpr ⟨ok_getf (pc := 9) (k := 6) (C := RX5) (T := TX5) (N := 24) rfl (by decide) hin_X5 (by decide) hsz_X5 bw_110 dX5_rentOf_9, ?_⟩
  refine List.forall_mem_cons.mpr ⟨ok_iload_n (pc := 12) dX5_rentOf_12 rfl, ?_⟩
  refine List.forall_mem_cons.mpr ⟨ok_iald (pc := 13) dX5_rentOf_13, ?_⟩
  refine List.forall_mem_cons.mpr ⟨ok_iload_n (pc := 14) dX5_rentOf_14 rfl, ?_⟩
  refine List.forall_mem_cons.mpr ⟨ok_icmp_ne (pc := 15) (tgt := 22) dX5_rentOf_15 (by decide), ?_⟩
  refine List.forall_mem_cons.mpr ⟨ok_iconst (pc := 18) dX5_rentOf_18 (by decide), ?_⟩
  refine List.forall_mem_cons.mpr ⟨ok_goto (pc := 19) (tgt := 23) dX5_rentOf_19 (by decide), ?_⟩
  refine List.forall_mem_cons.mpr ⟨ok_iconst (pc := 22) dX5_rentOf_22 (by decide), ?_⟩
  refine List.forall_mem_cons.mpr ⟨ok_imul (pc := 23) dX5_rentOf_23, ?_⟩
  refine List.forall_mem_cons.mpr ⟨ok_iret (pc := 24) dX5_rentOf_24, ?_⟩
  exact fun _ h => absurd h List.not_mem_nil
abbrev k_X5_tellPlace : List (Nat × mm_T) := [(0, o_ild 2 1), (1, o_tsw [40, 47, 54, 63, 69, 75] 81), (40, o_ald 0 41), (41, o_getf 5 6 44), (44, o_ild 1 45), (45, o_iald 46), (46, o_iret), (47, o_ald 0 48), (48, o_getf 5 7 51), (51, o_ild 1 52), (52, o_iald 53), (53, o_iret), (54, o_ald 0 55), (55, o_getf 5 3 58), (58, o_ild 1 59), (59, o_ishr 60), (60, o_ic 1 61), (61, o_iand 62), (62, o_iret), (63, o_ald 0 64), (64, o_ild 1 65), (65, o_callV 5 m_X5_whoIsAt 4 1 68), (68, o_iret), (69, o_ald 0 70), (70, o_ild 1 71), (71, o_callV 5 m_X5_rentOf 2 1 74), (74, o_iret), (75, o_ald 0 76), (76, o_ild 1 77), (77, o_callV 5 m_X5_heardAt 4 1 80), (80, o_iret), (81, o_ic (-102) 83), (83, o_iret)]
def m_X5_tellPlace : Nat → mm_T := mm_look k_X5_tellPlace
set_option maxRecDepth 20000 in
theorem sp_X5_tellPlace : mm_Sp yX5_tellPlace cX5_tellPlace 3 (some .int) { frames := 2, cells := 0, slots := 0, locals := 44 } m_X5_tellPlace := by
  refine mm_sound (own := RX5) (code := k_X5_tellPlace) (by decide) rfl ?_
  refine List.forall_mem_cons.mpr ⟨ok_iload_n (pc := 0) dX5_tellPlace_0 rfl, ?_⟩
  refine List.forall_mem_cons.mpr ⟨ok_tsw (pc := 1) (ts := [40, 47, 54, 63, 69, 75]) (dflt := 81) dX5_tellPlace_1 (by decide) (by decide) (by decide) (by decide), ?_⟩
  refine List.forall_mem_cons.mpr ⟨ok_aload_n (pc := 40) dX5_tellPlace_40 rfl, ?_⟩
  refine List.forall_mem_cons.mpr ⟨ok_getf (pc := 41) (k := 6) (C := RX5) (T := TX5) (N := 24) rfl (by decide) hin_X5 (by decide) hsz_X5 bw_110 dX5_tellPlace_41, ?_⟩
  refine List.forall_mem_cons.mpr ⟨ok_iload_n (pc := 44) dX5_tellPlace_44 rfl, ?_⟩
  refine List.forall_mem_cons.mpr ⟨ok_iald (pc := 45) dX5_tellPlace_45, ?_⟩
  refine List.forall_mem_cons.mpr ⟨ok_iret (pc := 46) dX5_tellPlace_46, ?_⟩
  refine List.forall_mem_cons.mpr ⟨ok_aload_n (pc := 47) dX5_tellPlace_47 rfl, ?_⟩
  refine List.forall_mem_cons.mpr ⟨ok_getf (pc := 48) (k := 7) (C := RX5) (T := TX5) (N := 24) rfl (by decide) hin_X5 (by decide) hsz_X5 bw_111 dX5_tellPlace_48, ?_⟩
  refine List.forall_mem_cons.mpr ⟨ok_iload_n (pc := 51) dX5_tellPlace_51 rfl, ?_⟩
  refine List.forall_mem_cons.mpr ⟨ok_iald (pc := 52) dX5_tellPlace_52, ?_⟩
  refine List.forall_mem_cons.mpr ⟨ok_iret (pc := 53) dX5_tellPlace_53, ?_⟩
  refine List.forall_mem_cons.mpr ⟨ok_aload_n (pc := 54) dX5_tellPlace_54 rfl, ?_⟩
  refine List.forall_mem_cons.mpr ⟨ok_getf (pc := 55) (k := 3) (C := RX5) (T := TX5) (N := 24) rfl (by decide) hin_X5 (by decide) hsz_X5 bw_113 dX5_tellPlace_55, ?_⟩
  refine List.forall_mem_cons.mpr ⟨ok_iload_n (pc := 58) dX5_tellPlace_58 rfl, ?_⟩
  refine List.forall_mem_cons.mpr ⟨ok_ishr (pc := 59) dX5_tellPlace_59, ?_⟩
  refine List.forall_mem_cons.mpr ⟨ok_iconst (pc := 60) dX5_tellPlace_60 (by decide), ?_⟩
  refine List.forall_mem_cons.mpr ⟨ok_iand (pc := 61) dX5_tellPlace_61, ?_⟩
  refine List.forall_mem_cons.mpr ⟨ok_iret (pc := 62) dX5_tellPlace_62, ?_⟩
  refine List.forall_mem_cons.mpr ⟨ok_aload_n (pc := 63) dX5_tellPlace_63 rfl, ?_⟩
  refine List.forall_mem_cons.mpr ⟨ok_iload_n (pc := 64) dX5_tellPlace_64 rfl, ?_⟩
  refine List.forall_mem_cons.mpr ⟨ok_callV (pc := 65) sp_X5_whoIsAt (ci := 5) (C := RX5) rfl (by decide) ⟨bw_122, bm_X5_whoIsAt⟩ (by decide) ⟨rfl, rfl, Nat.le_of_ble_eq_true rfl, Nat.le_of_ble_eq_true rfl⟩ dX5_tellPlace_65, ?_⟩
  refine List.forall_mem_cons.mpr ⟨ok_iret (pc := 68) dX5_tellPlace_68, ?_⟩
  refine List.forall_mem_cons.mpr ⟨ok_aload_n (pc := 69) dX5_tellPlace_69 rfl, ?_⟩
  refine List.forall_mem_cons.mpr ⟨ok_iload_n (pc := 70) dX5_tellPlace_70 rfl, ?_⟩
  refine List.forall_mem_cons.mpr ⟨ok_callV (pc := 71) sp_X5_rentOf (ci := 5) (C := RX5) rfl (by decide) ⟨bw_123, bm_X5_rentOf⟩ (by decide) ⟨rfl, rfl, Nat.le_of_ble_eq_true rfl, Nat.le_of_ble_eq_true rfl⟩ dX5_tellPlace_71, ?_⟩
  refine List.forall_mem_cons.mpr ⟨ok_iret (pc := 74) dX5_tellPlace_74, ?_⟩
  refine List.forall_mem_cons.mpr ⟨ok_aload_n (pc := 75) dX5_tellPlace_75 rfl, ?_⟩
  refine List.forall_mem_cons.mpr ⟨ok_iload_n (pc := 76) dX5_tellPlace_76 rfl, ?_⟩
  refine List.forall_mem_cons.mpr ⟨ok_callV (pc := 77) sp_X5_heardAt (ci := 5) (C := RX5) rfl (by decide) ⟨bw_120, bm_X5_heardAt⟩ (by decide) ⟨rfl, rfl, Nat.le_of_ble_eq_true rfl, Nat.le_of_ble_eq_true rfl⟩ dX5_tellPlace_77, ?_⟩
  refine List.forall_mem_cons.mpr ⟨ok_iret (pc := 80) dX5_tellPlace_80, ?_⟩
  refine List.forall_mem_cons.mpr ⟨ok_bipush (pc := 81) dX5_tellPlace_81 (by decide), ?_⟩
  refine List.forall_mem_cons.mpr ⟨ok_iret (pc := 83) dX5_tellPlace_83, ?_⟩
  exact fun _ h => absurd h List.not_mem_nil
abbrev k_X5_place : List (Nat × mm_T) := [(0, o_ald 0 1), (1, o_ild 1 2), (2, o_callV 5 m_X5_isPlace 2 1 5), (5, o_if_eq 17 8), (8, o_ald 0 9), (9, o_ild 1 10), (10, o_ild 2 11), (11, o_callV 5 m_X5_tellPlace 3 2 14), (14, o_goto 19), (17, o_ic (-101) 19), (19, o_iret)]
def m_X5_place : Nat → mm_T := mm_look k_X5_place
set_option maxRecDepth 20000 in
theorem sp_X5_place : mm_Sp yX5_place cX5_place 3 (some .int) { frames := 3, cells := 0, slots := 0, locals := 66 } m_X5_place := by
  refine mm_sound (own := RX5) (code := k_X5_place) (by decide) rfl ?_
  refine List.forall_mem_cons.mpr ⟨ok_aload_n (pc := 0) dX5_place_0 rfl, ?_⟩
  refine List.forall_mem_cons.mpr ⟨ok_iload_n (pc := 1) dX5_place_1 rfl, ?_⟩
  refine List.forall_mem_cons.mpr ⟨ok_callV (pc := 2) sp_X5_isPlace (ci := 5) (C := RX5) rfl (by decide) ⟨bw_124, bm_X5_isPlace⟩ (by decide) ⟨rfl, rfl, Nat.le_of_ble_eq_true rfl, Nat.le_of_ble_eq_true rfl⟩ dX5_place_2, ?_⟩
  refine List.forall_mem_cons.mpr ⟨ok_if_eq (pc := 5) (tgt := 17) dX5_place_5 (by decide), ?_⟩
  refine List.forall_mem_cons.mpr ⟨ok_aload_n (pc := 8) dX5_place_8 rfl, ?_⟩
  refine List.forall_mem_cons.mpr ⟨ok_iload_n (pc := 9) dX5_place_9 rfl, ?_⟩
  refine List.forall_mem_cons.mpr ⟨ok_iload_n (pc := 10) dX5_place_10 rfl, ?_⟩
  refine List.forall_mem_cons.mpr ⟨ok_callV (pc := 11) sp_X5_tellPlace (ci := 5) (C := RX5) rfl (by decide) ⟨bw_125, bm_X5_tellPlace⟩ (by decide) ⟨rfl, rfl, Nat.le_of_ble_eq_true rfl, Nat.le_of_ble_eq_true rfl⟩ dX5_place_11, ?_⟩
  refine List.forall_mem_cons.mpr ⟨ok_goto (pc := 14) (tgt := 19) dX5_place_14 (by decide), ?_⟩
  refine List.forall_mem_cons.mpr ⟨ok_bipush (pc := 17) dX5_place_17 (by decide), ?_⟩
  refine List.forall_mem_cons.mpr ⟨ok_iret (pc := 19) dX5_place_19, ?_⟩
  exact fun _ h => absurd h List.not_mem_nil
abbrev k_X5_cloth : List (Nat × mm_T) := [(0, o_ald 0 1), (1, o_ild 1 2), (2, o_callV 5 m_X5_isPlace 2 1 5), (5, o_if_ne 11 8), (8, o_ic (-101) 10), (10, o_iret), (11, o_ald 0 12), (12, o_getf 5 3 15), (15, o_ild 1 16), (16, o_ishr 17), (17, o_ic 1 18), (18, o_iand 19), (19, o_ist 3 20), (20, o_ald 0 21), (21, o_ild 2 22), (22, o_if_eq 36 25), (25, o_ald 0 26), (26, o_getf 5 3 29), (29, o_ic 1 30), (30, o_ild 1 31), (31, o_ishl 32), (32, o_ior 33), (33, o_goto 46), (36, o_ald 0 37), (37, o_getf 5 3 40), (40, o_ic 1 41), (41, o_ild 1 42), (42, o_ishl 43), (43, o_ic (-1) 44), (44, o_ixor 45), (45, o_iand 46), (46, o_putf 5 3 49), (49, o_ild 3 50), (50, o_iret)]
def m_X5_cloth : Nat → mm_T := mm_look k_X5_cloth
set_option maxRecDepth 20000 in
theorem sp_X5_cloth : mm_Sp yX5_cloth cX5_cloth 4 (some .int) { frames := 2, cells := 0, slots := 0, locals := 46 } m_X5_cloth := by
  refine mm_sound (own := RX5) (code := k_X5_cloth) (by decide) rfl ?_
  refine List.forall_mem_cons.mpr ⟨ok_aload_n (pc := 0) dX5_cloth_0 rfl, ?_⟩
  refine List.forall_mem_cons.mpr ⟨ok_iload_n (pc := 1) dX5_cloth_1 rfl, ?_⟩
  refine List.forall_mem_cons.mpr ⟨ok_callV (pc := 2) sp_X5_isPlace (ci := 5) (C := RX5) rfl (by decide) ⟨bw_124, bm_X5_isPlace⟩ (by decide) ⟨rfl, rfl, Nat.le_of_ble_eq_true rfl, Nat.le_of_ble_eq_true rfl⟩ dX5_cloth_2, ?_⟩
  refine List.forall_mem_cons.mpr ⟨ok_if_ne (pc := 5) (tgt := 11) dX5_cloth_5 (by decide), ?_⟩
  refine List.forall_mem_cons.mpr ⟨ok_bipush (pc := 8) dX5_cloth_8 (by decide), ?_⟩
  refine List.forall_mem_cons.mpr ⟨ok_iret (pc := 10) dX5_cloth_10, ?_⟩
  refine List.forall_mem_cons.mpr ⟨ok_aload_n (pc := 11) dX5_cloth_11 rfl, ?_⟩
  refine List.forall_mem_cons.mpr ⟨ok_getf (pc := 12) (k := 3) (C := RX5) (T := TX5) (N := 24) rfl (by decide) hin_X5 (by decide) hsz_X5 bw_113 dX5_cloth_12, ?_⟩
  refine List.forall_mem_cons.mpr ⟨ok_iload_n (pc := 15) dX5_cloth_15 rfl, ?_⟩
  refine List.forall_mem_cons.mpr ⟨ok_ishr (pc := 16) dX5_cloth_16, ?_⟩
  refine List.forall_mem_cons.mpr ⟨ok_iconst (pc := 17) dX5_cloth_17 (by decide), ?_⟩
  refine List.forall_mem_cons.mpr ⟨ok_iand (pc := 18) dX5_cloth_18, ?_⟩
  refine List.forall_mem_cons.mpr ⟨ok_istore_n (pc := 19) dX5_cloth_19 rfl, ?_⟩
  refine List.forall_mem_cons.mpr ⟨ok_aload_n (pc := 20) dX5_cloth_20 rfl, ?_⟩
  refine List.forall_mem_cons.mpr ⟨ok_iload_n (pc := 21) dX5_cloth_21 rfl, ?_⟩
  refine List.forall_mem_cons.mpr ⟨ok_if_eq (pc := 22) (tgt := 36) dX5_cloth_22 (by decide), ?_⟩
  refine List.forall_mem_cons.mpr ⟨ok_aload_n (pc := 25) dX5_cloth_25 rfl, ?_⟩
  refine List.forall_mem_cons.mpr ⟨ok_getf (pc := 26) (k := 3) (C := RX5) (T := TX5) (N := 24) rfl (by decide) hin_X5 (by decide) hsz_X5 bw_113 dX5_cloth_26, ?_⟩
  refine List.forall_mem_cons.mpr ⟨ok_iconst (pc := 29) dX5_cloth_29 (by decide), ?_⟩
  refine List.forall_mem_cons.mpr ⟨ok_iload_n (pc := 30) dX5_cloth_30 rfl, ?_⟩
  refine List.forall_mem_cons.mpr ⟨ok_ishl (pc := 31) dX5_cloth_31, ?_⟩
  refine List.forall_mem_cons.mpr ⟨ok_ior (pc := 32) dX5_cloth_32, ?_⟩
  refine List.forall_mem_cons.mpr ⟨ok_goto (pc := 33) (tgt := 46) dX5_cloth_33 (by decide), ?_⟩
  refine List.forall_mem_cons.mpr ⟨ok_aload_n (pc := 36) dX5_cloth_36 rfl, ?_⟩
  refine List.forall_mem_cons.mpr ⟨ok_getf (pc := 37) (k := 3) (C := RX5) (T := TX5) (N := 24) rfl (by decide) hin_X5 (by decide) hsz_X5 bw_113 dX5_cloth_37, ?_⟩
  refine List.forall_mem_cons.mpr ⟨ok_iconst (pc := 40) dX5_cloth_40 (by decide), ?_⟩
  refine List.forall_mem_cons.mpr ⟨ok_iload_n (pc := 41) dX5_cloth_41 rfl, ?_⟩
  refine List.forall_mem_cons.mpr ⟨ok_ishl (pc := 42) dX5_cloth_42, ?_⟩
  refine List.forall_mem_cons.mpr ⟨ok_iconst (pc := 43) dX5_cloth_43 (by decide), ?_⟩
  refine List.forall_mem_cons.mpr ⟨ok_ixor (pc := 44) dX5_cloth_44, ?_⟩
  refine List.forall_mem_cons.mpr ⟨ok_iand (pc := 45) dX5_cloth_45, ?_⟩
  refine List.forall_mem_cons.mpr ⟨ok_putf (pc := 46) (k := 3) (C := RX5) (T := TX5) (N := 24) tyX5 tyX5_ok nmX5 rfl (by decide) hin_X5 (by decide) hsz_X5 hkt_X5_3 rfl bw_113 dX5_cloth_46, ?_⟩
  refine List.forall_mem_cons.mpr ⟨ok_iload_n (pc := 49) dX5_cloth_49 rfl, ?_⟩
  refine List.forall_mem_cons.mpr ⟨ok_iret (pc := 50) dX5_cloth_50, ?_⟩
  exact fun _ h => absurd h List.not_mem_nil
abbrev k_X5_person : List (Nat × mm_T) := [(0, o_ild 1 1), (1, o_i2l 2), (2, o_lc 0 3), (3, o_lc 4 6), (6, o_callS m_X5_in 6 3 9), (9, o_if_ne 15 12), (12, o_ic (-102) 14), (14, o_iret), (15, o_ald 0 16), (16, o_ild 2 17), (17, o_callV 5 m_X5_isPlace 2 1 20), (20, o_if_ne 26 23), (23, o_ic (-101) 25), (25, o_iret), (26, o_ald 0 27), (27, o_getf 5 8 30), (30, o_ic 6 32), (32, o_ic_ne 38 35), (35, o_ic (-104) 37), (37, o_iret), (38, o_ald 0 39), (39, o_getf 5 9 42), (42, o_ic 3 43), (43, o_ald 0 44), (44, o_getf 5 8 47), (47, o_imul 48), (48, o_ild 1 49), (49, o_iast 50), (50, o_ald 0 51), (51, o_getf 5 9 54), (54, o_ic 3 55), (55, o_ald 0 56), (56, o_getf 5 8 59), (59, o_imul 60), (60, o_ic 1 61), (61, o_iadd 62), (62, o_ild 2 63), (63, o_iast 64), (64, o_ald 0 65), (65, o_getf 5 9 68), (68, o_ic 3 69), (69, o_ald 0 70), (70, o_getf 5 8 73), (73, o_imul 74), (74, o_ic 2 75), (75, o_iadd 76), (76, o_ic 0 77), (77, o_iast 78), (78, o_ald 0 79), (79, o_dup 80), (80, o_getf 5 8 83), (83, o_ic 1 84), (84, o_iadd 85), (85, o_putf 5 8 88), (88, o_ald 0 89), (89, o_getf 5 8 92), (92, o_ic 1 93), (93, o_isub 94), (94, o_iret)]
def m_X5_person : Nat → mm_T := mm_look k_X5_person
set_option maxRecDepth 20000 in
theorem sp_X5_person : mm_Sp yX5_person cX5_person 3 (some .int) { frames := 2, cells := 0, slots := 0, locals := 46 } m_X5_person := by
  refine mm_sound (own := RX5) (code := k_X5_person) (by decide) rfl ?_
  refine List.forall_mem_cons.mpr ⟨ok_iload_n (pc := 0) dX5_person_0 rfl, ?_⟩
  refine List.forall_mem_cons.mpr ⟨ok_i2l (pc := 1) dX5_person_1, ?_⟩
  refine List.forall_mem_cons.mpr ⟨ok_lconst (pc := 2) dX5_person_2 (by decide), ?_⟩
  refine List.forall_mem_cons.mpr ⟨ok_ldc2 (pc := 3) bw_126 dX5_person_3, ?_⟩
  refine List.forall_mem_cons.mpr ⟨ok_callS (pc := 6) sp_X5_in ⟨bw_101, bs_X5_in⟩ (by decide) ⟨rfl, rfl, Nat.le_of_ble_eq_true rfl, Nat.le_of_ble_eq_true rfl⟩ dX5_person_6, ?_⟩
  refine List.forall_mem_cons.mpr ⟨ok_if_ne (pc := 9) (tgt := 15) dX5_person_9 (by decide), ?_⟩
  refine List.forall_mem_cons.mpr ⟨ok_bipush (pc := 12) dX5_person_12 (by decide), ?_⟩
  refine List.forall_mem_cons.mpr ⟨ok_iret (pc := 14) dX5_person_14, ?_⟩
  refine List.forall_mem_cons.mpr ⟨ok_aload_n (pc := 15) dX5_person_15 rfl, ?_⟩
  refine List.forall_mem_cons.mpr ⟨ok_iload_n (pc := 16) dX5_person_16 rfl, ?_⟩
  refine List.forall_mem_cons.mpr ⟨ok_callV (pc := 17) sp_X5_isPlace (ci := 5) (C := RX5) rfl (by decide) ⟨bw_124, bm_X5_isPlace⟩ (by decide) ⟨rfl, rfl, Nat.le_of_ble_eq_true rfl, Nat.le_of_ble_eq_true rfl⟩ dX5_person_17, ?_⟩
  refine List.forall_mem_cons.mpr ⟨ok_if_ne (pc := 20) (tgt := 26) dX5_person_20 (by decide), ?_⟩
  refine List.forall_mem_cons.mpr ⟨ok_bipush (pc := 23) dX5_person_23 (by decide), ?_⟩
  refine List.forall_mem_cons.mpr ⟨ok_iret (pc := 25) dX5_person_25, ?_⟩
  refine List.forall_mem_cons.mpr ⟨ok_aload_n (pc := 26) dX5_person_26 rfl, ?_⟩
  refine List.forall_mem_cons.mpr ⟨ok_getf (pc := 27) (k := 8) (C := RX5) (T := TX5) (N := 24) rfl (by decide) hin_X5 (by decide) hsz_X5 bw_115 dX5_person_27, ?_⟩
  refine List.forall_mem_cons.mpr ⟨ok_bipush (pc := 30) dX5_person_30 (by decide), ?_⟩
  refine List.forall_mem_cons.mpr ⟨ok_icmp_ne (pc := 32) (tgt := 38) dX5_person_32 (by decide), ?_⟩
  refine List.forall_mem_cons.mpr ⟨ok_bipush (pc := 35) dX5_person_35 (by decide), ?_⟩
  refine List.forall_mem_cons.mpr ⟨ok_iret (pc := 37) dX5_person_37, ?_⟩
  refine List.forall_mem_cons.mpr ⟨ok_aload_n (pc := 38) dX5_person_38 rfl, ?_⟩
  refine List.forall_mem_cons.mpr ⟨ok_getf (pc := 39) (k := 9) (C := RX5) (T := TX5) (N := 24) rfl (by decide) hin_X5 (by decide) hsz_X5 bw_119 dX5_person_39, ?_⟩
  refine List.forall_mem_cons.mpr ⟨ok_iconst (pc := 42) dX5_person_42 (by decide), ?_⟩
  refine List.forall_mem_cons.mpr ⟨ok_aload_n (pc := 43) dX5_person_43 rfl, ?_⟩
  refine List.forall_mem_cons.mpr ⟨ok_getf (pc := 44) (k := 8) (C := RX5) (T := TX5) (N := 24) rfl (by decide) hin_X5 (by decide) hsz_X5 bw_115 dX5_person_44, ?_⟩
  refine List.forall_mem_cons.mpr ⟨ok_imul (pc := 47) dX5_person_47, ?_⟩
  refine List.forall_mem_cons.mpr ⟨ok_iload_n (pc := 48) dX5_person_48 rfl, ?_⟩
  refine List.forall_mem_cons.mpr ⟨ok_iast (pc := 49) dX5_person_49, ?_⟩
  refine List.forall_mem_cons.mpr ⟨ok_aload_n (pc := 50) dX5_person_50 rfl, ?_⟩
  refine List.forall_mem_cons.mpr ⟨ok_getf (pc := 51) (k := 9) (C := RX5) (T := TX5) (N := 24) rfl (by decide) hin_X5 (by decide) hsz_X5 bw_119 dX5_person_51, ?_⟩
  refine List.forall_mem_cons.mpr ⟨ok_iconst (pc := 54) dX5_person_54 (by decide), ?_⟩
  refine List.forall_mem_cons.mpr ⟨ok_aload_n (pc := 55) dX5_person_55 rfl, ?_⟩
  refine List.forall_mem_cons.mpr ⟨ok_getf (pc := 56) (k := 8) (C := RX5) (T := TX5) (N := 24) rfl (by decide) hin_X5 (by decide) hsz_X5 bw_115 dX5_person_56, ?_⟩
  refine List.forall_mem_cons.mpr ⟨ok_imul (pc := 59) dX5_person_59, ?_⟩
  refine List.forall_mem_cons.mpr ⟨ok_iconst (pc := 60) dX5_person_60 (by decide), ?_⟩
  refine List.forall_mem_cons.mpr ⟨ok_iadd (pc := 61) dX5_person_61, ?_⟩
  refine List.forall_mem_cons.mpr ⟨ok_iload_n (pc := 62) dX5_person_62 rfl, ?_⟩
  refine List.forall_mem_cons.mpr ⟨ok_iast (pc := 63) dX5_person_63, ?_⟩
  refine List.forall_mem_cons.mpr ⟨ok_aload_n (pc := 64) dX5_person_64 rfl, ?_⟩
  refine List.forall_mem_cons.mpr ⟨ok_getf (pc := 65) (k := 9) (C := RX5) (T := TX5) (N := 24) rfl (by decide) hin_X5 (by decide) hsz_X5 bw_119 dX5_person_65, ?_⟩
  refine List.forall_mem_cons.mpr ⟨ok_iconst (pc := 68) dX5_person_68 (by decide), ?_⟩
  refine List.forall_mem_cons.mpr ⟨ok_aload_n (pc := 69) dX5_person_69 rfl, ?_⟩
  refine List.forall_mem_cons.mpr ⟨ok_getf (pc := 70) (k := 8) (C := RX5) (T := TX5) (N := 24) rfl (by decide) hin_X5 (by decide) hsz_X5 bw_115 dX5_person_70, ?_⟩
  refine List.forall_mem_cons.mpr ⟨ok_imul (pc := 73) dX5_person_73, ?_⟩
  refine List.forall_mem_cons.mpr ⟨ok_iconst (pc := 74) dX5_person_74 (by decide), ?_⟩
  refine List.forall_mem_cons.mpr ⟨ok_iadd (pc := 75) dX5_person_75, ?_⟩
  refine List.forall_mem_cons.mpr ⟨ok_iconst (pc := 76) dX5_person_76 (by decide), ?_⟩
  refine List.forall_mem_cons.mpr ⟨ok_iast (pc := 77) dX5_person_77, ?_⟩
  refine List.forall_mem_cons.mpr ⟨ok_aload_n (pc := 78) dX5_person_78 rfl, ?_⟩
  refine List.forall_mem_cons.mpr ⟨ok_dup (pc := 79) dX5_person_79, ?_⟩
  refine List.forall_mem_cons.mpr ⟨ok_getf (pc := 80) (k := 8) (C := RX5) (T := TX5) (N := 24) rfl (by decide) hin_X5 (by decide) hsz_X5 bw_115 dX5_person_80, ?_⟩
  refine List.forall_mem_cons.mpr ⟨ok_iconst (pc := 83) dX5_person_83 (by decide), ?_⟩
  refine List.forall_mem_cons.mpr ⟨ok_iadd (pc := 84) dX5_person_84, ?_⟩
  refine List.forall_mem_cons.mpr ⟨ok_putf (pc := 85) (k := 8) (C := RX5) (T := TX5) (N := 24) tyX5 tyX5_ok nmX5 rfl (by decide) hin_X5 (by decide) hsz_X5 hkt_X5_8 rfl bw_115 dX5_person_85, ?_⟩
  refine List.forall_mem_cons.mpr ⟨ok_aload_n (pc := 88) dX5_person_88 rfl, ?_⟩
  refine List.forall_mem_cons.mpr ⟨ok_getf (pc := 89) (k := 8) (C := RX5) (T := TX5) (N := 24) rfl (by decide) hin_X5 (by decide) hsz_X5 bw_115 dX5_person_89, ?_⟩
  refine List.forall_mem_cons.mpr ⟨ok_iconst (pc := 92) dX5_person_92 (by decide), ?_⟩
  refine List.forall_mem_cons.mpr ⟨ok_isub (pc := 93) dX5_person_93, ?_⟩
  refine List.forall_mem_cons.mpr ⟨ok_iret (pc := 94) dX5_person_94, ?_⟩
  exact fun _ h => absurd h List.not_mem_nil
abbrev k_X5_laterBy : List (Nat × mm_T) := [(0, o_ald 0 1), (1, o_getf 5 9 4), (4, o_ic 3 5), (5, o_ild 1 6), (6, o_imul 7), (7, o_ic 1 8), (8, o_iadd 9), (9, o_iald 10), (10, o_ist 4 12), (12, o_ald 0 13), (13, o_getf 5 9 16), (16, o_ic 3 17), (17, o_ild 2 18), (18, o_imul 19), (19, o_ic 1 20), (20, o_iadd 21), (21, o_iald 22), (22, o_ist 5 24), (24, o_ald 0 25), (25, o_getf 5 9 28), (28, o_ic 3 29), (29, o_ild 1 30), (30, o_imul 31), (31, o_iald 32), (32, o_ist 6 34), (34, o_ald 0 35), (35, o_getf 5 9 38), (38, o_ic 3 39), (39, o_ild 2 40), (40, o_imul 41), (41, o_iald 42), (42, o_ic 1 43), (43, o_ic_ne 50 46), (46, o_ic 9999 49), (49, o_iret), (50, o_ild 4 52), (52, o_ild 5 54), (54, o_ic_ne 59 57), (57, o_ic 0 58), (58, o_iret), (59, o_ild 3 60), (60, o_ild 5 62), (62, o_ishr 63), (63, o_ic 1 64), (64, o_iand 65), (65, o_if_eq 74 68), (68, o_ild 6 70), (70, o_ic 4 71), (71, o_ic_ne 78 74), (74, o_ic 1 75), (75, o_goto 79), (78, o_ic 0 79), (79, o_ist 7 81), (81, o_ald 0 82), (82, o_getf 5 6 85), (85, o_ild 4 87), (87, o_iald 88), (88, o_ild 5 90), (90, o_ic_ne 108 93), (93, o_ild 7 95), (95, o_if_eq 108 98), (98, o_ald 0 99), (99, o_getf 5 7 102), (102, o_ild 4 104), (104, o_iald 105), (105, o_goto 111), (108, o_ic 9999 111), (111, o_iret)]
def m_X5_laterBy : Nat → mm_T := mm_look k_X5_laterBy
set_option maxRecDepth 20000 in
theorem sp_X5_laterBy : mm_Sp yX5_laterBy cX5_laterBy 8 (some .int) { frames := 0, cells := 0, slots := 0, locals := 0 } m_X5_laterBy := by
  refine mm_sound (own := RX5) (code := k_X5_laterBy) (by decide) rfl ?_
  refine List.forall_mem_cons.mpr ⟨ok_aload_n (pc := 0) dX5_laterBy_0 rfl, ?_⟩
  refine List.forall_mem_cons.mpr ⟨ok_getf (pc := 1) (k := 9) (C := RX5) (T := TX5) (N := 24) rfl (by decide) hin_X5 (by decide) hsz_X5 bw_119 dX5_laterBy_1, ?_⟩
  refine List.forall_mem_cons.mpr ⟨ok_iconst (pc := 4) dX5_laterBy_4 (by decide), ?_⟩
  refine List.forall_mem_cons.mpr ⟨ok_iload_n (pc := 5) dX5_laterBy_5 rfl, ?_⟩
  refine List.forall_mem_cons.mpr ⟨ok_imul (pc := 6) dX5_laterBy_6, ?_⟩
  refine List.forall_mem_cons.mpr ⟨ok_iconst (pc := 7) dX5_laterBy_7 (by decide), ?_⟩
  refine List.forall_mem_cons.mpr ⟨ok_iadd (pc := 8) dX5_laterBy_8, ?_⟩
  refine List.forall_mem_cons.mpr ⟨ok_iald (pc := 9) dX5_laterBy_9, ?_⟩
  refine List.forall_mem_cons.mpr ⟨ok_istore (pc := 10) dX5_laterBy_10, ?_⟩
  refine List.forall_mem_cons.mpr ⟨ok_aload_n (pc := 12) dX5_laterBy_12 rfl, ?_⟩
  refine List.forall_mem_cons.mpr ⟨ok_getf (pc := 13) (k := 9) (C := RX5) (T := TX5) (N := 24) rfl (by decide) hin_X5 (by decide) hsz_X5 bw_119 dX5_laterBy_13, ?_⟩
  refine List.forall_mem_cons.mpr ⟨ok_iconst (pc := 16) dX5_laterBy_16 (by decide), ?_⟩
  refine List.forall_mem_cons.mpr ⟨ok_iload_n (pc := 17) dX5_laterBy_17 rfl, ?_⟩
  refine List.forall_mem_cons.mpr ⟨ok_imul (pc := 18) dX5_laterBy_18, ?_⟩
  refine List.forall_mem_cons.mpr ⟨ok_iconst (pc := 19) dX5_laterBy_19 (by decide), ?_⟩
  refine List.forall_mem_cons.mpr ⟨ok_iadd (pc := 20) dX5_laterBy_20, ?_⟩
  refine List.forall_mem_cons.mpr ⟨ok_iald (pc := 21) dX5_laterBy_21, ?_⟩
  refine List.forall_mem_cons.mpr ⟨ok_istore (pc := 22) dX5_laterBy_22, ?_⟩
  refine List.forall_mem_cons.mpr ⟨ok_aload_n (pc := 24) dX5_laterBy_24 rfl, ?_⟩
  refine List.forall_mem_cons.mpr ⟨ok_getf (pc := 25) (k := 9) (C := RX5) (T := TX5) (N := 24) rfl (by decide) hin_X5 (by decide) hsz_X5 bw_119 dX5_laterBy_25, ?_⟩
  refine List.forall_mem_cons.mpr ⟨ok_iconst (pc := 28) dX5_laterBy_28 (by decide), ?_⟩
  refine List.forall_mem_cons.mpr ⟨ok_iload_n (pc := 29) dX5_laterBy_29 rfl, ?_⟩
  refine List.forall_mem_cons.mpr ⟨ok_imul (pc := 30) dX5_laterBy_30, ?_⟩
  refine List.forall_mem_cons.mpr ⟨ok_iald (pc := 31) dX5_laterBy_31, ?_⟩
  refine List.forall_mem_cons.mpr ⟨ok_istore (pc := 32) dX5_laterBy_32, ?_⟩
  refine List.forall_mem_cons.mpr ⟨ok_aload_n (pc := 34) dX5_laterBy_34 rfl, ?_⟩
  refine List.forall_mem_cons.mpr ⟨ok_getf (pc := 35) (k := 9) (C := RX5) (T := TX5) (N := 24) rfl (by decide) hin_X5 (by decide) hsz_X5 bw_119 dX5_laterBy_35, ?_⟩
  refine List.forall_mem_cons.mpr ⟨ok_iconst (pc := 38) dX5_laterBy_38 (by decide), ?_⟩
  refine List.forall_mem_cons.mpr ⟨ok_iload_n (pc := 39) dX5_laterBy_39 rfl, ?_⟩
  refine List.forall_mem_cons.mpr ⟨ok_imul (pc := 40) dX5_laterBy_40, ?_⟩
  refine List.forall_mem_cons.mpr ⟨ok_iald (pc := 41) dX5_laterBy_41, ?_⟩
  refine List.forall_mem_cons.mpr ⟨ok_iconst (pc := 42) dX5_laterBy_42 (by decide), ?_⟩
  refine List.forall_mem_cons.mpr ⟨ok_icmp_ne (pc := 43) (tgt := 50) dX5_laterBy_43 (by decide), ?_⟩
  refine List.forall_mem_cons.mpr ⟨ok_sipush (pc := 46) dX5_laterBy_46 (by decide), ?_⟩
  refine List.forall_mem_cons.mpr ⟨ok_iret (pc := 49) dX5_laterBy_49, ?_⟩
  refine List.forall_mem_cons.mpr ⟨ok_iload (pc := 50) dX5_laterBy_50, ?_⟩
  refine List.forall_mem_cons.mpr ⟨ok_iload (pc := 52) dX5_laterBy_52, ?_⟩
  refine List.forall_mem_cons.mpr ⟨ok_icmp_ne (pc := 54) (tgt := 59) dX5_laterBy_54 (by decide), ?_⟩
  refine List.forall_mem_cons.mpr ⟨ok_iconst (pc := 57) dX5_laterBy_57 (by decide), ?_⟩
  refine List.forall_mem_cons.mpr ⟨ok_iret (pc := 58) dX5_laterBy_58, ?_⟩
  refine List.forall_mem_cons.mpr ⟨ok_iload_n (pc := 59) dX5_laterBy_59 rfl, ?_⟩
  refine List.forall_mem_cons.mpr ⟨ok_iload (pc := 60) dX5_laterBy_60, ?_⟩
  refine List.forall_mem_cons.mpr ⟨ok_ishr (pc := 62) dX5_laterBy_62, ?_⟩
  refine List.forall_mem_cons.mpr ⟨ok_iconst (pc := 63) dX5_laterBy_63 (by decide), ?_⟩
  refine List.forall_mem_cons.mpr ⟨ok_iand (pc := 64) dX5_laterBy_64, ?_⟩
  refine List.forall_mem_cons.mpr ⟨ok_if_eq (pc := 65) (tgt := 74) dX5_laterBy_65 (by decide), ?_⟩
  refine List.forall_mem_cons.mpr ⟨ok_iload (pc := 68) dX5_laterBy_68, ?_⟩
  refine List.forall_mem_cons.mpr ⟨ok_iconst (pc := 70) dX5_laterBy_70 (by decide), ?_⟩
  refine List.forall_mem_cons.mpr ⟨ok_icmp_ne (pc := 71) (tgt := 78) dX5_laterBy_71 (by decide), ?_⟩
  refine List.forall_mem_cons.mpr ⟨ok_iconst (pc := 74) dX5_laterBy_74 (by decide), ?_⟩
  refine List.forall_mem_cons.mpr ⟨ok_goto (pc := 75) (tgt := 79) dX5_laterBy_75 (by decide), ?_⟩
  refine List.forall_mem_cons.mpr ⟨ok_iconst (pc := 78) dX5_laterBy_78 (by decide), ?_⟩
  refine List.forall_mem_cons.mpr ⟨ok_istore (pc := 79) dX5_laterBy_79, ?_⟩
  refine List.forall_mem_cons.mpr ⟨ok_aload_n (pc := 81) dX5_laterBy_81 rfl, ?_⟩
  refine List.forall_mem_cons.mpr ⟨ok_getf (pc := 82) (k := 6) (C := RX5) (T := TX5) (N := 24) rfl (by decide) hin_X5 (by decide) hsz_X5 bw_110 dX5_laterBy_82, ?_⟩
  refine List.forall_mem_cons.mpr ⟨ok_iload (pc := 85) dX5_laterBy_85, ?_⟩
  refine List.forall_mem_cons.mpr ⟨ok_iald (pc := 87) dX5_laterBy_87, ?_⟩
  refine List.forall_mem_cons.mpr ⟨ok_iload (pc := 88) dX5_laterBy_88, ?_⟩
  refine List.forall_mem_cons.mpr ⟨ok_icmp_ne (pc := 90) (tgt := 108) dX5_laterBy_90 (by decide), ?_⟩
  refine List.forall_mem_cons.mpr ⟨ok_iload (pc := 93) dX5_laterBy_93, ?_⟩
  refine List.forall_mem_cons.mpr ⟨ok_if_eq (pc := 95) (tgt := 108) dX5_laterBy_95 (by decide), ?_⟩
  refine List.forall_mem_cons.mpr ⟨ok_aload_n (pc := 98) dX5_laterBy_98 rfl, ?_⟩
  refine List.forall_mem_cons.mpr ⟨ok_getf (pc := 99) (k := 7) (C := RX5) (T := TX5) (N := 24) rfl (by decide) hin_X5 (by decide) hsz_X5 bw_111 dX5_laterBy_99, ?_⟩
  refine List.forall_mem_cons.mpr ⟨ok_iload (pc := 102) dX5_laterBy_102, ?_⟩
  refine List.forall_mem_cons.mpr ⟨ok_iald (pc := 104) dX5_laterBy_104, ?_⟩
  refine List.forall_mem_cons.mpr ⟨ok_goto (pc := 105) (tgt := 111) dX5_laterBy_105 (by decide), ?_⟩
  refine List.forall_mem_cons.mpr ⟨ok_sipush (pc := 108) dX5_laterBy_108 (by decide), ?_⟩
  refine List.forall_mem_cons.mpr ⟨ok_iret (pc := 111) dX5_laterBy_111, ?_⟩
  exact fun _ h => absurd h List.not_mem_nil
abbrev k_X5_layHears : List (Nat × mm_T) := [(0, o_ic 0 1), (1, o_ist 3 2), (2, o_ild 3 3), (3, o_ald 0 4), (4, o_getf 5 8 7), (7, o_ic_ge 25 10), (10, o_ald 0 11), (11, o_getf 5 10 14), (14, o_ild 3 15), (15, o_ic 9999 18), (18, o_iast 19), (19, o_iinc 3 1 22), (22, o_goto 2), (25, o_ald 0 26), (26, o_getf 5 9 29), (29, o_ic 3 30), (30, o_ild 1 31), (31, o_imul 32), (32, o_iald 33), (33, o_ic 3 34), (34, o_ic_ne 38 37), (37, o_vret), (38, o_ald 0 39), (39, o_getf 5 10 42), (42, o_ild 1 43), (43, o_ic 0 44), (44, o_iast 45), (45, o_ic 1 46), (46, o_ist 3 47), (47, o_ild 3 48), (48, o_if_eq 239 51), (51, o_ic 0 52), (52, o_ist 3 53), (53, o_ic 0 54), (54, o_ist 4 56), (56, o_ild 4 58), (58, o_ic 36 60), (60, o_ic_ge 236 63), (63, o_ild 4 65), (65, o_ic 6 67), (67, o_idiv 68), (68, o_ist 5 70), (70, o_ild 4 72), (72, o_ic 6 74), (74, o_irem 75), (75, o_ist 6 77), (77, o_ald 0 78), (78, o_ild 5 80), (80, o_callV 5 m_X5_isPerson 2 1 83), (83, o_if_eq 230 86), (86, o_ald 0 87), (87, o_ild 6 89), (89, o_callV 5 m_X5_isPerson 2 1 92), (92, o_if_eq 230 95), (95, o_ald 0 96), (96, o_getf 5 10 99), (99, o_ild 5 101), (101, o_iald 102), (102, o_ic 9999 105), (105, o_ic_ge 230 108), (108, o_ild 5 110), (110, o_ild 1 111), (111, o_ic_eq 140 114), (114, o_ald 0 115), (115, o_getf 5 9 118), (118, o_ic 3 119), (119, o_ild 5 121), (121, o_imul 122), (122, o_iald 123), (123, o_ic 2 124), (124, o_ic_eq 140 127), (127, o_ald 0 128), (128, o_getf 5 9 131), (131, o_ic 3 132), (132, o_ild 5 134), (134, o_imul 135), (135, o_iald 136), (136, o_ic 4 137), (137, o_ic_ne 144 140), (140, o_ic 1 141), (141, o_goto 145), (144, o_ic 0 145), (145, o_ist 7 147), (147, o_ild 7 149), (149, o_if_eq 172 152), (152, o_ald 0 153), (153, o_getf 5 10 156), (156, o_ild 5 158), (158, o_iald 159), (159, o_ald 0 160), (160, o_ild 5 162), (162, o_ild 6 164), (164, o_ild 2 165), (165, o_callV 5 m_X5_laterBy 8 3 168), (168, o_iadd 169), (169, o_goto 175), (172, o_ic 9999 175), (175, o_ist 8 177), (177, o_ild 3 178), (178, o_if_ne 193 181), (181, o_ild 8 183), (183, o_ald 0 184), (184, o_getf 5 10 187), (187, o_ild 6 189), (189, o_iald 190), (190, o_ic_ge 197 193), (193, o_ic 1 194), (194, o_goto 198), (197, o_ic 0 198), (198, o_ist 3 199), (199, o_ald 0 200), (200, o_getf 5 10 203), (203, o_ild 6 205), (205, o_ild 8 207), (207, o_ald 0 208), (208, o_getf 5 10 211), (211, o_ild 6 213), (213, o_iald 214), (214, o_ic_ge 222 217), (217, o_ild 8 219), (219, o_goto 229), (222, o_ald 0 223), (223, o_getf 5 10 226), (226, o_ild 6 228), (228, o_iald 229), (229, o_iast 230), (230, o_iinc 4 1 233), (233, o_goto 56), (236, o_goto 47), (239, o_vret)]
def m_X5_layHears : Nat → mm_T := mm_look k_X5_layHears
set_option maxRecDepth 20000 in
theorem sp_X5_layHears : mm_Sp yX5_layHears cX5_layHears 9 none { frames := 2, cells := 0, slots := 0, locals := 46 } m_X5_layHears := by
  refine mm_sound (own := RX5) (code := k_X5_layHears) (by decide) rfl ?_
  refine List.forall_mem_cons.mpr ⟨ok_iconst (pc := 0) dX5_layHears_0 (by decide), ?_⟩
  refine List.forall_mem_cons.mpr ⟨ok_istore_n (pc := 1) dX5_layHears_1 rfl, ?_⟩
  refine List.forall_mem_cons.mpr ⟨ok_iload_n (pc := 2) dX5_layHears_2 rfl, ?_⟩
  refine List.forall_mem_cons.mpr ⟨ok_aload_n (pc := 3) dX5_layHears_3 rfl, ?_⟩
  refine List.forall_mem_cons.mpr ⟨ok_getf (pc := 4) (k := 8) (C := RX5) (T := TX5) (N := 24) rfl (by decide) hin_X5 (by decide) hsz_X5 bw_115 dX5_layHears_4, ?_⟩
  refine List.forall_mem_cons.mpr ⟨ok_icmp_ge (pc := 7) (tgt := 25) dX5_layHears_7 (by decide), ?_⟩
  refine List.forall_mem_cons.mpr ⟨ok_aload_n (pc := 10) dX5_layHears_10 rfl, ?_⟩
  refine List.forall_mem_cons.mpr ⟨ok_getf (pc := 11) (k := 10) (C := RX5) (T := TX5) (N := 24) rfl (by decide) hin_X5 (by decide) hsz_X5 bw_127 dX5_layHears_11, ?_⟩
  refine List.forall_mem_cons.mpr ⟨ok_iload_n (pc := 14) dX5_layHears_14 rfl, ?_⟩
  refine List.forall_mem_cons.mpr ⟨ok_sipush (pc := 15) dX5_layHears_15 (by decide), ?_⟩
  refine List.forall_mem_cons.mpr ⟨ok_iast (pc := 18) dX5_layHears_18, ?_⟩
  refine List.forall_mem_cons.mpr ⟨ok_iinc (pc := 19) dX5_layHears_19 (by decide), ?_⟩
  refine List.forall_mem_cons.mpr ⟨ok_goto (pc := 22) (tgt := 2) dX5_layHears_22 (by decide), ?_⟩
  refine List.forall_mem_cons.mpr ⟨ok_aload_n (pc := 25) dX5_layHears_25 rfl, ?_⟩
  refine List.forall_mem_cons.mpr ⟨ok_getf (pc := 26) (k := 9) (C := RX5) (T := TX5) (N := 24) rfl (by decide) hin_X5 (by decide) hsz_X5 bw_119 dX5_layHears_26, ?_⟩
  refine List.forall_mem_cons.mpr ⟨ok_iconst (pc := 29) dX5_layHears_29 (by decide), ?_⟩
  refine List.forall_mem_cons.mpr ⟨ok_iload_n (pc := 30) dX5_layHears_30 rfl, ?_⟩
  refine List.forall_mem_cons.mpr ⟨ok_imul (pc := 31) dX5_layHears_31, ?_⟩
  refine List.forall_mem_cons.mpr ⟨ok_iald (pc := 32) dX5_layHears_32, ?_⟩
  refine List.forall_mem_cons.mpr ⟨ok_iconst (pc := 33) dX5_layHears_33 (by decide), ?_⟩
  refine List.forall_mem_cons.mpr ⟨ok_icmp_ne (pc := 34) (tgt := 38) dX5_layHears_34 (by decide), ?_⟩
  refine List.forall_mem_cons.mpr ⟨ok_vret (pc := 37) dX5_layHears_37, ?_⟩
  refine List.forall_mem_cons.mpr ⟨ok_aload_n (pc := 38) dX5_layHears_38 rfl, ?_⟩
  refine List.forall_mem_cons.mpr ⟨ok_getf (pc := 39) (k := 10) (C := RX5) (T := TX5) (N := 24) rfl (by decide) hin_X5 (by decide) hsz_X5 bw_127 dX5_layHears_39, ?_⟩
  refine List.forall_mem_cons.mpr ⟨ok_iload_n (pc := 42) dX5_layHears_42 rfl, ?_⟩
  refine List.forall_mem_cons.mpr ⟨ok_iconst (pc := 43) dX5_layHears_43 (by decide), ?_⟩
  refine List.forall_mem_cons.mpr ⟨ok_iast (pc := 44) dX5_layHears_44, ?_⟩
  refine List.forall_mem_cons.mpr ⟨ok_iconst (pc := 45) dX5_layHears_45 (by decide), ?_⟩
  refine List.forall_mem_cons.mpr ⟨ok_istore_n (pc := 46) dX5_layHears_46 rfl, ?_⟩
  refine List.forall_mem_cons.mpr ⟨ok_iload_n (pc := 47) dX5_layHears_47 rfl, ?_⟩
  refine List.forall_mem_cons.mpr ⟨ok_if_eq (pc := 48) (tgt := 239) dX5_layHears_48 (by decide), ?_⟩
  refine List.forall_mem_cons.mpr ⟨ok_iconst (pc := 51) dX5_layHears_51 (by decide), ?_⟩
  refine List.forall_mem_cons.mpr ⟨ok_istore_n (pc := 52) dX5_layHears_52 rfl, ?_⟩
  refine List.forall_mem_cons.mpr ⟨ok_iconst (pc := 53) dX5_layHears_53 (by decide), ?_⟩
  refine List.forall_mem_cons.mpr ⟨ok_istore (pc := 54) dX5_layHears_54, ?_⟩
  refine List.forall_mem_cons.mpr ⟨ok_iload (pc := 56) dX5_layHears_56, ?_⟩
  refine List.forall_mem_cons.mpr ⟨ok_bipush (pc := 58) dX5_layHears_58 (by decide), ?_⟩
  refine List.forall_mem_cons.mpr ⟨ok_icmp_ge (pc := 60) (tgt := 236) dX5_layHears_60 (by decide), ?_⟩
  refine List.forall_mem_cons.mpr ⟨ok_iload (pc := 63) dX5_layHears_63, ?_⟩
  refine List.forall_mem_cons.mpr ⟨ok_bipush (pc := 65) dX5_layHears_65 (by decide), ?_⟩
  refine List.forall_mem_cons.mpr ⟨ok_idiv (pc := 67) dX5_layHears_67, ?_⟩
  refine List.forall_mem_cons.mpr ⟨ok_istore (pc := 68) dX5_layHears_68, ?_⟩
  refine List.forall_mem_cons.mpr ⟨ok_iload (pc := 70) dX5_layHears_70, ?_⟩
  refine List.forall_mem_cons.mpr ⟨ok_bipush (pc := 72) dX5_layHears_72 (by decide), ?_⟩
  refine List.forall_mem_cons.mpr ⟨ok_irem (pc := 74) dX5_layHears_74, ?_⟩
  refine List.forall_mem_cons.mpr ⟨ok_istore (pc := 75) dX5_layHears_75, ?_⟩
  refine List.forall_mem_cons.mpr ⟨ok_aload_n (pc := 77) dX5_layHears_77 rfl, ?_⟩
  refine List.forall_mem_cons.mpr ⟨ok_iload (pc := 78) dX5_layHears_78, ?_⟩
  refine List.forall_mem_cons.mpr ⟨ok_callV (pc := 80) sp_X5_isPerson (ci := 5) (C := RX5) rfl (by decide) ⟨bw_128, bm_X5_isPerson⟩ (by decide) ⟨rfl, rfl, Nat.le_of_ble_eq_true rfl, Nat.le_of_ble_eq_true rfl⟩ dX5_layHears_80, ?_⟩
  refine List.forall_mem_cons.mpr ⟨ok_if_eq (pc := 83) (tgt := 230) dX5_layHears_83 (by decide), ?_⟩
  refine List.forall_mem_cons.mpr ⟨ok_aload_n (pc := 86) dX5_layHears_86 rfl, ?_⟩
  refine List.forall_mem_cons.mpr ⟨ok_iload (pc := 87) dX5_layHears_87, ?_⟩
  refine List.forall_mem_cons.mpr ⟨ok_callV (pc := 89) sp_X5_isPerson (ci := 5) (C := RX5) rfl (by decide) ⟨bw_128, bm_X5_isPerson⟩ (by decide) ⟨rfl, rfl, Nat.le_of_ble_eq_true rfl, Nat.le_of_ble_eq_true rfl⟩ dX5_layHears_89, ?_⟩
  refine List.forall_mem_cons.mpr ⟨ok_if_eq (pc := 92) (tgt := 230) dX5_layHears_92 (by decide), ?_⟩
  refine List.forall_mem_cons.mpr ⟨ok_aload_n (pc := 95) dX5_layHears_95 rfl, ?_⟩
  refine List.forall_mem_cons.mpr ⟨ok_getf (pc := 96) (k := 10) (C := RX5) (T := TX5) (N := 24) rfl (by decide) hin_X5 (by decide) hsz_X5 bw_127 dX5_layHears_96, ?_⟩
  refine List.forall_mem_cons.mpr ⟨ok_iload (pc := 99) dX5_layHears_99, ?_⟩
  refine List.forall_mem_cons.mpr ⟨ok_iald (pc := 101) dX5_layHears_101, ?_⟩
  refine List.forall_mem_cons.mpr ⟨ok_sipush (pc := 102) dX5_layHears_102 (by decide), ?_⟩
  refine List.forall_mem_cons.mpr ⟨ok_icmp_ge (pc := 105) (tgt := 230) dX5_layHears_105 (by decide), ?_⟩
  refine List.forall_mem_cons.mpr ⟨ok_iload (pc := 108) dX5_layHears_108, ?_⟩
  refine List.forall_mem_cons.mpr ⟨ok_iload_n (pc := 110) dX5_layHears_110 rfl, ?_⟩
  refine List.forall_mem_cons.mpr ⟨ok_icmp_eq (pc := 111) (tgt := 140) dX5_layHears_111 (by decide), ?_⟩
  refine List.forall_mem_cons.mpr ⟨ok_aload_n (pc := 114) dX5_layHears_114 rfl, ?_⟩
  refine List.forall_mem_cons.mpr ⟨ok_getf (pc := 115) (k := 9) (C := RX5) (T := TX5) (N := 24) rfl (by decide) hin_X5 (by decide) hsz_X5 bw_119 dX5_layHears_115, ?_⟩
  refine List.forall_mem_cons.mpr ⟨ok_iconst (pc := 118) dX5_layHears_118 (by decide), ?_⟩
  refine List.forall_mem_cons.mpr ⟨ok_iload (pc := 119) dX5_layHears_119, ?_⟩
  refine List.forall_mem_cons.mpr ⟨ok_imul (pc := 121) dX5_layHears_121, ?_⟩
  refine List.forall_mem_cons.mpr ⟨ok_iald (pc := 122) dX5_layHears_122, ?_⟩
  refine List.forall_mem_cons.mpr ⟨ok_iconst (pc := 123) dX5_layHears_123 (by decide), ?_⟩
  refine List.forall_mem_cons.mpr ⟨ok_icmp_eq (pc := 124) (tgt := 140) dX5_layHears_124 (by decide), ?_⟩
  refine List.forall_mem_cons.mpr ⟨ok_aload_n (pc := 127) dX5_layHears_127 rfl, ?_⟩
  refine List.forall_mem_cons.mpr ⟨ok_getf (pc := 128) (k := 9) (C := RX5) (T := TX5) (N := 24) rfl (by decide) hin_X5 (by decide) hsz_X5 bw_119 dX5_layHears_128, ?_⟩
  refine List.forall_mem_cons.mpr ⟨ok_iconst (pc := 131) dX5_layHears_131 (by decide), ?_⟩
  refine List.forall_mem_cons.mpr ⟨ok_iload (pc := 132) dX5_layHears_132, ?_⟩
  refine List.forall_mem_cons.mpr ⟨ok_imul (pc := 134) dX5_layHears_134, ?_⟩
  refine List.forall_mem_cons.mpr ⟨ok_iald (pc := 135) dX5_layHears_135, ?_⟩
  refine List.forall_mem_cons.mpr ⟨ok_iconst (pc := 136) dX5_layHears_136 (by decide), ?_⟩
  refine List.forall_mem_cons.mpr ⟨ok_icmp_ne (pc := 137) (tgt := 144) dX5_layHears_137 (by decide), ?_⟩
  refine List.forall_mem_cons.mpr ⟨ok_iconst (pc := 140) dX5_layHears_140 (by decide), ?_⟩
  refine List.forall_mem_cons.mpr ⟨ok_goto (pc := 141) (tgt := 145) dX5_layHears_141 (by decide), ?_⟩
  refine List.forall_mem_cons.mpr ⟨ok_iconst (pc := 144) dX5_layHears_144 (by decide), ?_⟩
  refine List.forall_mem_cons.mpr ⟨ok_istore (pc := 145) dX5_layHears_145, ?_⟩
  refine List.forall_mem_cons.mpr ⟨ok_iload (pc := 147) dX5_layHears_147, ?_⟩
  refine List.forall_mem_cons.mpr ⟨ok_if_eq (pc := 149) (tgt := 172) dX5_layHears_149 (by decide), ?_⟩
  refine List.forall_mem_cons.mpr ⟨ok_aload_n (pc := 152) dX5_layHears_152 rfl, ?_⟩
  refine List.forall_mem_cons.mpr ⟨ok_getf (pc := 153) (k := 10) (C := RX5) (T := TX5) (N := 24) rfl (by decide) hin_X5 (by decide) hsz_X5 bw_127 dX5_layHears_153, ?_⟩
  refine List.forall_mem_cons.mpr ⟨ok_iload (pc := 156) dX5_layHears_156, ?_⟩
  refine List.forall_mem_cons.mpr ⟨ok_iald (pc := 158) dX5_layHears_158, ?_⟩
  refine List.forall_mem_cons.mpr ⟨ok_aload_n (pc := 159) dX5_layHears_159 rfl, ?_⟩
  refine List.forall_mem_cons.mpr ⟨ok_iload (pc := 160) dX5_layHears_160, ?_⟩
  refine List.forall_mem_cons.mpr ⟨ok_iload (pc := 162) dX5_layHears_162, ?_⟩
  refine List.forall_mem_cons.mpr ⟨ok_iload_n (pc := 164) dX5_layHears_164 rfl, ?_⟩
  refine List.forall_mem_cons.mpr ⟨ok_callV (pc := 165) sp_X5_laterBy (ci := 5) (C := RX5) rfl (by decide) ⟨bw_129, bm_X5_laterBy⟩ (by decide) ⟨rfl, rfl, Nat.le_of_ble_eq_true rfl, Nat.le_of_ble_eq_true rfl⟩ dX5_layHears_165, ?_⟩
  refine List.forall_mem_cons.mpr ⟨ok_iadd (pc := 168) dX5_layHears_168, ?_⟩
  refine List.forall_mem_cons.mpr ⟨ok_goto (pc := 169) (tgt := 175) dX5_layHears_169 (by decide), ?_⟩
  refine List.forall_mem_cons.mpr ⟨ok_sipush (pc := 172) dX5_layHears_172 (by decide), ?_⟩
  refine List.forall_mem_cons.mpr ⟨ok_istore (pc := 175) dX5_layHears_175, ?_⟩
  refine List.forall_mem_cons.mpr ⟨ok_iload_n (pc := 177) dX5_layHears_177 rfl, ?_⟩
  refine List.forall_mem_cons.mpr ⟨ok_if_ne (pc := 178) (tgt := 193) dX5_layHears_178 (by decide), ?_⟩
  refine List.forall_mem_cons.mpr ⟨ok_iload (pc := 181) dX5_layHears_181, ?_⟩
  refine List.forall_mem_cons.mpr ⟨ok_aload_n (pc := 183) dX5_layHears_183 rfl, ?_⟩
  refine List.forall_mem_cons.mpr ⟨ok_getf (pc := 184) (k := 10) (C := RX5) (T := TX5) (N := 24) rfl (by decide) hin_X5 (by decide) hsz_X5 bw_127 dX5_layHears_184, ?_⟩
  refine List.forall_mem_cons.mpr ⟨ok_iload (pc := 187) dX5_layHears_187, ?_⟩
  refine List.forall_mem_cons.mpr ⟨ok_iald (pc := 189) dX5_layHears_189, ?_⟩
  refine List.forall_mem_cons.mpr ⟨ok_icmp_ge (pc := 190) (tgt := 197) dX5_layHears_190 (by decide), ?_⟩
  refine List.forall_mem_cons.mpr ⟨ok_iconst (pc := 193) dX5_layHears_193 (by decide), ?_⟩
  refine List.forall_mem_cons.mpr ⟨ok_goto (pc := 194) (tgt := 198) dX5_layHears_194 (by decide), ?_⟩
  refine List.forall_mem_cons.mpr ⟨ok_iconst (pc := 197) dX5_layHears_197 (by decide), ?_⟩
  refine List.forall_mem_cons.mpr ⟨ok_istore_n (pc := 198) dX5_layHears_198 rfl, ?_⟩
  refine List.forall_mem_cons.mpr ⟨ok_aload_n (pc := 199) dX5_layHears_199 rfl, ?_⟩
  refine List.forall_mem_cons.mpr ⟨ok_getf (pc := 200) (k := 10) (C := RX5) (T := TX5) (N := 24) rfl (by decide) hin_X5 (by decide) hsz_X5 bw_127 dX5_layHears_200, ?_⟩
  refine List.forall_mem_cons.mpr ⟨ok_iload (pc := 203) dX5_layHears_203, ?_⟩
  refine List.forall_mem_cons.mpr ⟨ok_iload (pc := 205) dX5_layHears_205, ?_⟩
  refine List.forall_mem_cons.mpr ⟨ok_aload_n (pc := 207) dX5_layHears_207 rfl, ?_⟩
  refine List.forall_mem_cons.mpr ⟨ok_getf (pc := 208) (k := 10) (C := RX5) (T := TX5) (N := 24) rfl (by decide) hin_X5 (by decide) hsz_X5 bw_127 dX5_layHears_208, ?_⟩
  refine List.forall_mem_cons.mpr ⟨ok_iload (pc := 211) dX5_layHears_211, ?_⟩
  refine List.forall_mem_cons.mpr ⟨ok_iald (pc := 213) dX5_layHears_213, ?_⟩
  refine List.forall_mem_cons.mpr ⟨ok_icmp_ge (pc := 214) (tgt := 222) dX5_layHears_214 (by decide), ?_⟩
  refine List.forall_mem_cons.mpr ⟨ok_iload (pc := 217) dX5_layHears_217, ?_⟩
  refine List.forall_mem_cons.mpr ⟨ok_goto (pc := 219) (tgt := 229) dX5_layHears_219 (by decide), ?_⟩
  refine List.forall_mem_cons.mpr ⟨ok_aload_n (pc := 222) dX5_layHears_222 rfl, ?_⟩
  refine List.forall_mem_cons.mpr ⟨ok_getf (pc := 223) (k := 10) (C := RX5) (T := TX5) (N := 24) rfl (by decide) hin_X5 (by decide) hsz_X5 bw_127 dX5_layHears_223, ?_⟩
  refine List.forall_mem_cons.mpr ⟨ok_iload (pc := 226) dX5_layHears_226, ?_⟩
  refine List.forall_mem_cons.mpr ⟨ok_iald (pc := 228) dX5_layHears_228, ?_⟩
  refine List.forall_mem_cons.mpr ⟨ok_iast (pc := 229) dX5_layHears_229, ?_⟩
  refine List.forall_mem_cons.mpr ⟨ok_iinc (pc := 230) dX5_layHears_230 (by decide), ?_⟩
  refine List.forall_mem_cons.mpr ⟨ok_goto (pc := 233) (tgt := 56) dX5_layHears_233 (by decide), ?_⟩
  refine List.forall_mem_cons.mpr ⟨ok_goto (pc := 236) (tgt := 47) dX5_layHears_236 (by decide), ?_⟩
  refine List.forall_mem_cons.mpr ⟨ok_vret (pc := 239) dX5_layHears_239, ?_⟩
  exact fun _ h => absurd h List.not_mem_nil
abbrev k_X5_hearers : List (Nat × mm_T) := [(0, o_ald 0 1), (1, o_ild 1 2), (2, o_ild 2 3), (3, o_callV 5 m_X5_layHears 9 2 6), (6, o_ic 0 7), (7, o_ist 3 8), (8, o_ic 0 9), (9, o_ist 4 11), (11, o_ild 4 13), (13, o_ald 0 14), (14, o_getf 5 8 17), (17, o_ic_ge 50 20), (20, o_ild 3 21), (21, o_ald 0 22), (22, o_getf 5 10 25), (25, o_ild 4 27), (27, o_iald 28), (28, o_ic 9999 31), (31, o_ic_ge 41 34), (34, o_ic 1 35), (35, o_ild 4 37), (37, o_ishl 38), (38, o_goto 42), (41, o_ic 0 42), (42, o_ior 43), (43, o_ist 3 44), (44, o_iinc 4 1 47), (47, o_goto 11), (50, o_ild 3 51), (51, o_iret)]
def m_X5_hearers : Nat → mm_T := mm_look k_X5_hearers
set_option maxRecDepth 20000 in
theorem sp_X5_hearers : mm_Sp yX5_hearers cX5_hearers 5 (some .int) { frames := 3, cells := 0, slots := 0, locals := 74 } m_X5_hearers := by
  refine mm_sound (own := RX5) (code := k_X5_hearers) (by decide) rfl ?_
  refine List.forall_mem_cons.mpr ⟨ok_aload_n (pc := 0) dX5_hearers_0 rfl, ?_⟩
  refine List.forall_mem_cons.mpr ⟨ok_iload_n (pc := 1) dX5_hearers_1 rfl, ?_⟩
  refine List.forall_mem_cons.mpr ⟨ok_iload_n (pc := 2) dX5_hearers_2 rfl, ?_⟩
  refine List.forall_mem_cons.mpr ⟨ok_callV (pc := 3) sp_X5_layHears (ci := 5) (C := RX5) rfl (by decide) ⟨bw_130, bm_X5_layHears⟩ (by decide) ⟨rfl, rfl, Nat.le_of_ble_eq_true rfl, Nat.le_of_ble_eq_true rfl⟩ dX5_hearers_3, ?_⟩
  refine List.forall_mem_cons.mpr ⟨ok_iconst (pc := 6) dX5_hearers_6 (by decide), ?_⟩
  refine List.forall_mem_cons.mpr ⟨ok_istore_n (pc := 7) dX5_hearers_7 rfl, ?_⟩
  refine List.forall_mem_cons.mpr ⟨ok_iconst (pc := 8) dX5_hearers_8 (by decide), ?_⟩
  refine List.forall_mem_cons.mpr ⟨ok_istore (pc := 9) dX5_hearers_9, ?_⟩
  refine List.forall_mem_cons.mpr ⟨ok_iload (pc := 11) dX5_hearers_11, ?_⟩
  refine List.forall_mem_cons.mpr ⟨ok_aload_n (pc := 13) dX5_hearers_13 rfl, ?_⟩
  refine List.forall_mem_cons.mpr ⟨ok_getf (pc := 14) (k := 8) (C := RX5) (T := TX5) (N := 24) rfl (by decide) hin_X5 (by decide) hsz_X5 bw_115 dX5_hearers_14, ?_⟩
  refine List.forall_mem_cons.mpr ⟨ok_icmp_ge (pc := 17) (tgt := 50) dX5_hearers_17 (by decide), ?_⟩
  refine List.forall_mem_cons.mpr ⟨ok_iload_n (pc := 20) dX5_hearers_20 rfl, ?_⟩
  refine List.forall_mem_cons.mpr ⟨ok_aload_n (pc := 21) dX5_hearers_21 rfl, ?_⟩
  refine List.forall_mem_cons.mpr ⟨ok_getf (pc := 22) (k := 10) (C := RX5) (T := TX5) (N := 24) rfl (by decide) hin_X5 (by decide) hsz_X5 bw_127 dX5_hearers_22, ?_⟩
  refine List.forall_mem_cons.mpr ⟨ok_iload (pc := 25) dX5_hearers_25, ?_⟩
  refine List.forall_mem_cons.mpr ⟨ok_iald (pc := 27) dX5_hearers_27, ?_⟩
  refine List.forall_mem_cons.mpr ⟨ok_sipush (pc := 28) dX5_hearers_28 (by decide), ?_⟩
  refine List.forall_mem_cons.mpr ⟨ok_icmp_ge (pc := 31) (tgt := 41) dX5_hearers_31 (by decide), ?_⟩
  refine List.forall_mem_cons.mpr ⟨ok_iconst (pc := 34) dX5_hearers_34 (by decide), ?_⟩
  refine List.forall_mem_cons.mpr ⟨ok_iload (pc := 35) dX5_hearers_35, ?_⟩
  refine List.forall_mem_cons.mpr ⟨ok_ishl (pc := 37) dX5_hearers_37, ?_⟩
  refine List.forall_mem_cons.mpr ⟨ok_goto (pc := 38) (tgt := 42) dX5_hearers_38 (by decide), ?_⟩
  refine List.forall_mem_cons.mpr ⟨ok_iconst (pc := 41) dX5_hearers_41 (by decide), ?_⟩
  refine List.forall_mem_cons.mpr ⟨ok_ior (pc := 42) dX5_hearers_42, ?_⟩
  refine List.forall_mem_cons.mpr ⟨ok_istore_n (pc := 43) dX5_hearers_43 rfl, ?_⟩
  refine List.forall_mem_cons.mpr ⟨ok_iinc (pc := 44) dX5_hearers_44 (by decide), ?_⟩
  refine List.forall_mem_cons.mpr ⟨ok_goto (pc := 47) (tgt := 11) dX5_hearers_47 (by decide), ?_⟩
  refine List.forall_mem_cons.mpr ⟨ok_iload_n (pc := 50) dX5_hearers_50 rfl, ?_⟩
  refine List.forall_mem_cons.mpr ⟨ok_iret (pc := 51) dX5_hearers_51, ?_⟩
  exact fun _ h => absurd h List.not_mem_nil
abbrev k_X5_tell : List (Nat × mm_T) := [(0, o_ild 2 1), (1, o_tsw [32, 32, 32, 43] 53), (32, o_ald 0 33), (33, o_getf 5 9 36), (36, o_ic 3 37), (37, o_ild 1 38), (38, o_imul 39), (39, o_ild 2 40), (40, o_iadd 41), (41, o_iald 42), (42, o_iret), (43, o_ald 0 44), (44, o_ild 1 45), (45, o_ald 0 46), (46, o_getf 5 3 49), (49, o_callV 5 m_X5_hearers 5 2 52), (52, o_iret), (53, o_ic (-102) 55), (55, o_iret)]
def m_X5_tell : Nat → mm_T := mm_look k_X5_tell
set_option maxRecDepth 20000 in
theorem sp_X5_tell : mm_Sp yX5_tell cX5_tell 3 (some .int) { frames := 4, cells := 0, slots := 0, locals := 98 } m_X5_tell := by
  refine mm_sound (own := RX5) (code := k_X5_tell) (by decide) rfl ?_
  refine List.forall_mem_cons.mpr ⟨ok_iload_n (pc := 0) dX5_tell_0 rfl, ?_⟩
  refine List.forall_mem_cons.mpr ⟨ok_tsw (pc := 1) (ts := [32, 32, 32, 43]) (dflt := 53) dX5_tell_1 (by decide) (by decide) (by decide) (by decide), ?_⟩
  refine List.forall_mem_cons.mpr ⟨ok_aload_n (pc := 32) dX5_tell_32 rfl, ?_⟩
  refine List.forall_mem_cons.mpr ⟨ok_getf (pc := 33) (k := 9) (C := RX5) (T := TX5) (N := 24) rfl (by decide) hin_X5 (by decide) hsz_X5 bw_119 dX5_tell_33, ?_⟩
  refine List.forall_mem_cons.mpr ⟨ok_iconst (pc := 36) dX5_tell_36 (by decide), ?_⟩
  refine List.forall_mem_cons.mpr ⟨ok_iload_n (pc := 37) dX5_tell_37 rfl, ?_⟩
  refine List.forall_mem_cons.mpr ⟨ok_imul (pc := 38) dX5_tell_38, ?_⟩
  refine List.forall_mem_cons.mpr ⟨ok_iload_n (pc := 39) dX5_tell_39 rfl, ?_⟩
  refine List.forall_mem_cons.mpr ⟨ok_iadd (pc := 40) dX5_tell_40, ?_⟩
  refine List.forall_mem_cons.mpr ⟨ok_iald (pc := 41) dX5_tell_41, ?_⟩
  refine List.forall_mem_cons.mpr ⟨ok_iret (pc := 42) dX5_tell_42, ?_⟩
  refine List.forall_mem_cons.mpr ⟨ok_aload_n (pc := 43) dX5_tell_43 rfl, ?_⟩
  refine List.forall_mem_cons.mpr ⟨ok_iload_n (pc := 44) dX5_tell_44 rfl, ?_⟩
  refine List.forall_mem_cons.mpr ⟨ok_aload_n (pc := 45) dX5_tell_45 rfl, ?_⟩
  refine List.forall_mem_cons.mpr ⟨ok_getf (pc := 46) (k := 3) (C := RX5) (T := TX5) (N := 24) rfl (by decide) hin_X5 (by decide) hsz_X5 bw_113 dX5_tell_46, ?_⟩
  refine List.forall_mem_cons.mpr ⟨ok_callV (pc := 49) sp_X5_hearers (ci := 5) (C := RX5) rfl (by decide) ⟨bw_131, bm_X5_hearers⟩ (by decide) ⟨rfl, rfl, Nat.le_of_ble_eq_true rfl, Nat.le_of_ble_eq_true rfl⟩ dX5_tell_49, ?_⟩
  refine List.forall_mem_cons.mpr ⟨ok_iret (pc := 52) dX5_tell_52, ?_⟩
  refine List.forall_mem_cons.mpr ⟨ok_bipush (pc := 53) dX5_tell_53 (by decide), ?_⟩
  refine List.forall_mem_cons.mpr ⟨ok_iret (pc := 55) dX5_tell_55, ?_⟩
  exact fun _ h => absurd h List.not_mem_nil
abbrev k_X5_about : List (Nat × mm_T) := [(0, o_ald 0 1), (1, o_ild 1 2), (2, o_callV 5 m_X5_isPerson 2 1 5), (5, o_if_eq 17 8), (8, o_ald 0 9), (9, o_ild 1 10), (10, o_ild 2 11), (11, o_callV 5 m_X5_tell 3 2 14), (14, o_goto 19), (17, o_ic (-101) 19), (19, o_iret)]
def m_X5_about : Nat → mm_T := mm_look k_X5_about
set_option maxRecDepth 20000 in
theorem sp_X5_about : mm_Sp yX5_about cX5_about 3 (some .int) { frames := 5, cells := 0, slots := 0, locals := 120 } m_X5_about := by
  refine mm_sound (own := RX5) (code := k_X5_about) (by decide) rfl ?_
  refine List.forall_mem_cons.mpr ⟨ok_aload_n (pc := 0) dX5_about_0 rfl, ?_⟩
  refine List.forall_mem_cons.mpr ⟨ok_iload_n (pc := 1) dX5_about_1 rfl, ?_⟩
  refine List.forall_mem_cons.mpr ⟨ok_callV (pc := 2) sp_X5_isPerson (ci := 5) (C := RX5) rfl (by decide) ⟨bw_128, bm_X5_isPerson⟩ (by decide) ⟨rfl, rfl, Nat.le_of_ble_eq_true rfl, Nat.le_of_ble_eq_true rfl⟩ dX5_about_2, ?_⟩
  refine List.forall_mem_cons.mpr ⟨ok_if_eq (pc := 5) (tgt := 17) dX5_about_5 (by decide), ?_⟩
  refine List.forall_mem_cons.mpr ⟨ok_aload_n (pc := 8) dX5_about_8 rfl, ?_⟩
  refine List.forall_mem_cons.mpr ⟨ok_iload_n (pc := 9) dX5_about_9 rfl, ?_⟩
  refine List.forall_mem_cons.mpr ⟨ok_iload_n (pc := 10) dX5_about_10 rfl, ?_⟩
  refine List.forall_mem_cons.mpr ⟨ok_callV (pc := 11) sp_X5_tell (ci := 5) (C := RX5) rfl (by decide) ⟨bw_132, bm_X5_tell⟩ (by decide) ⟨rfl, rfl, Nat.le_of_ble_eq_true rfl, Nat.le_of_ble_eq_true rfl⟩ dX5_about_11, ?_⟩
  refine List.forall_mem_cons.mpr ⟨ok_goto (pc := 14) (tgt := 19) dX5_about_14 (by decide), ?_⟩
  refine List.forall_mem_cons.mpr ⟨ok_bipush (pc := 17) dX5_about_17 (by decide), ?_⟩
  refine List.forall_mem_cons.mpr ⟨ok_iret (pc := 19) dX5_about_19, ?_⟩
  exact fun _ h => absurd h List.not_mem_nil
abbrev k_X5_as : List (Nat × mm_T) := [(0, o_ald 0 1), (1, o_ild 1 2), (2, o_callV 5 m_X5_isPerson 2 1 5), (5, o_if_ne 11 8), (8, o_ic (-101) 10), (10, o_iret), (11, o_ild 2 12), (12, o_i2l 13), (13, o_lc 0 14), (14, o_lc 4 17), (17, o_callS m_X5_in 6 3 20), (20, o_if_ne 26 23), (23, o_ic (-102) 25), (25, o_iret), (26, o_ald 0 27), (27, o_getf 5 9 30), (30, o_ic 3 31), (31, o_ild 1 32), (32, o_imul 33), (33, o_iald 34), (34, o_ist 3 35), (35, o_ild 2 36), (36, o_if_eq 54 39), (39, o_ild 2 40), (40, o_ild 3 41), (41, o_ic_eq 54 44), (44, o_ild 2 45), (45, o_ic 2 46), (46, o_ic_ne 58 49), (49, o_ild 3 50), (50, o_ic 4 51), (51, o_ic_ne 58 54), (54, o_ic 1 55), (55, o_goto 59), (58, o_ic 0 59), (59, o_ist 4 61), (61, o_ild 4 63), (63, o_if_eq 70 66), (66, o_ild 1 67), (67, o_goto 71), (70, o_ic (-1) 71), (71, o_iret)]
def m_X5_as : Nat → mm_T := mm_look k_X5_as
set_option maxRecDepth 20000 in
theorem sp_X5_as : mm_Sp yX5_as cX5_as 5 (some .int) { frames := 2, cells := 0, slots := 0, locals := 46 } m_X5_as := by
  refine mm_sound (own := RX5) (code := k_X5_as) (by decide) rfl ?_
  refine List.forall_mem_cons.mpr ⟨ok_aload_n (pc := 0) dX5_as_0 rfl, ?_⟩
  refine List.forall_mem_cons.mpr ⟨ok_iload_n (pc := 1) dX5_as_1 rfl, ?_⟩
  refine List.forall_mem_cons.mpr ⟨ok_callV (pc := 2) sp_X5_isPerson (ci := 5) (C := RX5) rfl (by decide) ⟨bw_128, bm_X5_isPerson⟩ (by decide) ⟨rfl, rfl, Nat.le_of_ble_eq_true rfl, Nat.le_of_ble_eq_true rfl⟩ dX5_as_2, ?_⟩
  refine List.forall_mem_cons.mpr ⟨ok_if_ne (pc := 5) (tgt := 11) dX5_as_5 (by decide), ?_⟩
  refine List.forall_mem_cons.mpr ⟨ok_bipush (pc := 8) dX5_as_8 (by decide), ?_⟩
  refine List.forall_mem_cons.mpr ⟨ok_iret (pc := 10) dX5_as_10, ?_⟩
  refine List.forall_mem_cons.mpr ⟨ok_iload_n (pc := 11) dX5_as_11 rfl, ?_⟩
  refine List.forall_mem_cons.mpr ⟨ok_i2l (pc := 12) dX5_as_12, ?_⟩
  refine List.forall_mem_cons.mpr ⟨ok_lconst (pc := 13) dX5_as_13 (by decide), ?_⟩
  refine List.forall_mem_cons.mpr ⟨ok_ldc2 (pc := 14) bw_126 dX5_as_14, ?_⟩
  refine List.forall_mem_cons.mpr ⟨ok_callS (pc := 17) sp_X5_in ⟨bw_101, bs_X5_in⟩ (by decide) ⟨rfl, rfl, Nat.le_of_ble_eq_true rfl, Nat.le_of_ble_eq_true rfl⟩ dX5_as_17, ?_⟩
  refine List.forall_mem_cons.mpr ⟨ok_if_ne (pc := 20) (tgt := 26) dX5_as_20 (by decide), ?_⟩
  refine List.forall_mem_cons.mpr ⟨ok_bipush (pc := 23) dX5_as_23 (by decide), ?_⟩
  refine List.forall_mem_cons.mpr ⟨ok_iret (pc := 25) dX5_as_25, ?_⟩
  refine List.forall_mem_cons.mpr ⟨ok_aload_n (pc := 26) dX5_as_26 rfl, ?_⟩
  refine List.forall_mem_cons.mpr ⟨ok_getf (pc := 27) (k := 9) (C := RX5) (T := TX5) (N := 24) rfl (by decide) hin_X5 (by decide) hsz_X5 bw_119 dX5_as_27, ?_⟩
  refine List.forall_mem_cons.mpr ⟨ok_iconst (pc := 30) dX5_as_30 (by decide), ?_⟩
  refine List.forall_mem_cons.mpr ⟨ok_iload_n (pc := 31) dX5_as_31 rfl, ?_⟩
  refine List.forall_mem_cons.mpr ⟨ok_imul (pc := 32) dX5_as_32, ?_⟩
  refine List.forall_mem_cons.mpr ⟨ok_iald (pc := 33) dX5_as_33, ?_⟩
  refine List.forall_mem_cons.mpr ⟨ok_istore_n (pc := 34) dX5_as_34 rfl, ?_⟩
  refine List.forall_mem_cons.mpr ⟨ok_iload_n (pc := 35) dX5_as_35 rfl, ?_⟩
  refine List.forall_mem_cons.mpr ⟨ok_if_eq (pc := 36) (tgt := 54) dX5_as_36 (by decide), ?_⟩
  refine List.forall_mem_cons.mpr ⟨ok_iload_n (pc := 39) dX5_as_39 rfl, ?_⟩
  refine List.forall_mem_cons.mpr ⟨ok_iload_n (pc := 40) dX5_as_40 rfl, ?_⟩
  refine List.forall_mem_cons.mpr ⟨ok_icmp_eq (pc := 41) (tgt := 54) dX5_as_41 (by decide), ?_⟩
  refine List.forall_mem_cons.mpr ⟨ok_iload_n (pc := 44) dX5_as_44 rfl, ?_⟩
  refine List.forall_mem_cons.mpr ⟨ok_iconst (pc := 45) dX5_as_45 (by decide), ?_⟩
  refine List.forall_mem_cons.mpr ⟨ok_icmp_ne (pc := 46) (tgt := 58) dX5_as_46 (by decide), ?_⟩
  refine List.forall_mem_cons.mpr ⟨ok_iload_n (pc := 49) dX5_as_49 rfl, ?_⟩
  refine List.forall_mem_cons.mpr ⟨ok_iconst (pc := 50) dX5_as_50 (by decide), ?_⟩
  refine List.forall_mem_cons.mpr ⟨ok_icmp_ne (pc := 51) (tgt := 58) dX5_as_51 (by decide), ?_⟩
  refine List.forall_mem_cons.mpr ⟨ok_iconst (pc := 54) dX5_as_54 (by decide), ?_⟩
  refine List.forall_mem_cons.mpr ⟨ok_goto (pc := 55) (tgt := 59) dX5_as_55 (by decide), ?_⟩
  refine List.forall_mem_cons.mpr ⟨ok_iconst (pc := 58) dX5_as_58 (by decide), ?_⟩
  refine List.forall_mem_cons.mpr ⟨ok_istore (pc := 59) dX5_as_59, ?_⟩
  refine List.forall_mem_cons.mpr ⟨ok_iload (pc := 61) dX5_as_61, ?_⟩
  refine List.forall_mem_cons.mpr ⟨ok_if_eq (pc := 63) (tgt := 70) dX5_as_63 (by decide), ?_⟩
  refine List.forall_mem_cons.mpr ⟨ok_iload_n (pc := 66) dX5_as_66 rfl, ?_⟩
  refine List.forall_mem_cons.mpr ⟨ok_goto (pc := 67) (tgt := 71) dX5_as_67 (by decide), ?_⟩
  refine List.forall_mem_cons.mpr ⟨ok_iconst (pc := 70) dX5_as_70 (by decide), ?_⟩
  refine List.forall_mem_cons.mpr ⟨ok_iret (pc := 71) dX5_as_71, ?_⟩
  exact fun _ h => absurd h List.not_mem_nil
abbrev k_X5_move : List (Nat × mm_T) := [(0, o_ald 0 1), (1, o_ild 1 2), (2, o_callV 5 m_X5_isPerson 2 1 5), (5, o_if_eq 16 8), (8, o_ald 0 9), (9, o_ild 2 10), (10, o_callV 5 m_X5_isPlace 2 1 13), (13, o_if_ne 19 16), (16, o_ic (-101) 18), (18, o_iret), (19, o_ald 0 20), (20, o_getf 5 9 23), (23, o_ic 3 24), (24, o_ild 1 25), (25, o_imul 26), (26, o_ic 1 27), (27, o_iadd 28), (28, o_iald 29), (29, o_ist 3 30), (30, o_ald 0 31), (31, o_getf 5 9 34), (34, o_ic 3 35), (35, o_ild 1 36), (36, o_imul 37), (37, o_ic 1 38), (38, o_iadd 39), (39, o_ild 2 40), (40, o_iast 41), (41, o_ild 3 42), (42, o_iret)]
def m_X5_move : Nat → mm_T := mm_look k_X5_move
set_option maxRecDepth 20000 in
theorem sp_X5_move : mm_Sp yX5_move cX5_move 4 (some .int) { frames := 2, cells := 0, slots := 0, locals := 46 } m_X5_move := by
  refine mm_sound (own := RX5) (code := k_X5_move) (by decide) rfl ?_
  refine List.forall_mem_cons.mpr ⟨ok_aload_n (pc := 0) dX5_move_0 rfl, ?_⟩
  refine List.forall_mem_cons.mpr ⟨ok_iload_n (pc := 1) dX5_move_1 rfl, ?_⟩
  refine List.forall_mem_cons.mpr ⟨ok_callV (pc := 2) sp_X5_isPerson (ci := 5) (C := RX5) rfl (by decide) ⟨bw_128, bm_X5_isPerson⟩ (by decide) ⟨rfl, rfl, Nat.le_of_ble_eq_true rfl, Nat.le_of_ble_eq_true rfl⟩ dX5_move_2, ?_⟩
  refine List.forall_mem_cons.mpr ⟨ok_if_eq (pc := 5) (tgt := 16) dX5_move_5 (by decide), ?_⟩
  refine List.forall_mem_cons.mpr ⟨ok_aload_n (pc := 8) dX5_move_8 rfl, ?_⟩
  refine List.forall_mem_cons.mpr ⟨ok_iload_n (pc := 9) dX5_move_9 rfl, ?_⟩
  refine List.forall_mem_cons.mpr ⟨ok_callV (pc := 10) sp_X5_isPlace (ci := 5) (C := RX5) rfl (by decide) ⟨bw_124, bm_X5_isPlace⟩ (by decide) ⟨rfl, rfl, Nat.le_of_ble_eq_true rfl, Nat.le_of_ble_eq_true rfl⟩ dX5_move_10, ?_⟩
  refine List.forall_mem_cons.mpr ⟨ok_if_ne (pc := 13) (tgt := 19) dX5_move_13 (by decide), ?_⟩
  refine List.forall_mem_cons.mpr ⟨ok_bipush (pc := 16) dX5_move_16 (by decide), ?_⟩
  refine List.forall_mem_cons.mpr ⟨ok_iret (pc := 18) dX5_move_18, ?_⟩
  refine List.forall_mem_cons.mpr ⟨ok_aload_n (pc := 19) dX5_move_19 rfl, ?_⟩
  refine List.forall_mem_cons.mpr ⟨ok_getf (pc := 20) (k := 9) (C := RX5) (T := TX5) (N := 24) rfl (by decide) hin_X5 (by decide) hsz_X5 bw_119 dX5_move_20, ?_⟩
  refine List.forall_mem_cons.mpr ⟨ok_iconst (pc := 23) dX5_move_23 (by decide), ?_⟩
  refine List.forall_mem_cons.mpr ⟨ok_iload_n (pc := 24) dX5_move_24 rfl, ?_⟩
  refine List.forall_mem_cons.mpr ⟨ok_imul (pc := 25) dX5_move_25, ?_⟩
  refine List.forall_mem_cons.mpr ⟨ok_iconst (pc := 26) dX5_move_26 (by decide), ?_⟩
  refine List.forall_mem_cons.mpr ⟨ok_iadd (pc := 27) dX5_move_27, ?_⟩
  refine List.forall_mem_cons.mpr ⟨ok_iald (pc := 28) dX5_move_28, ?_⟩
  refine List.forall_mem_cons.mpr ⟨ok_istore_n (pc := 29) dX5_move_29 rfl, ?_⟩
  refine List.forall_mem_cons.mpr ⟨ok_aload_n (pc := 30) dX5_move_30 rfl, ?_⟩
  refine List.forall_mem_cons.mpr ⟨ok_getf (pc := 31) (k := 9) (C := RX5) (T := TX5) (N := 24) rfl (by decide) hin_X5 (by decide) hsz_X5 bw_119 dX5_move_31, ?_⟩
  refine List.forall_mem_cons.mpr ⟨ok_iconst (pc := 34) dX5_move_34 (by decide), ?_⟩
  refine List.forall_mem_cons.mpr ⟨ok_iload_n (pc := 35) dX5_move_35 rfl, ?_⟩
  refine List.forall_mem_cons.mpr ⟨ok_imul (pc := 36) dX5_move_36, ?_⟩
  refine List.forall_mem_cons.mpr ⟨ok_iconst (pc := 37) dX5_move_37 (by decide), ?_⟩
  refine List.forall_mem_cons.mpr ⟨ok_iadd (pc := 38) dX5_move_38, ?_⟩
  refine List.forall_mem_cons.mpr ⟨ok_iload_n (pc := 39) dX5_move_39 rfl, ?_⟩
  refine List.forall_mem_cons.mpr ⟨ok_iast (pc := 40) dX5_move_40, ?_⟩
  refine List.forall_mem_cons.mpr ⟨ok_iload_n (pc := 41) dX5_move_41 rfl, ?_⟩
  refine List.forall_mem_cons.mpr ⟨ok_iret (pc := 42) dX5_move_42, ?_⟩
  exact fun _ h => absurd h List.not_mem_nil
abbrev k_X5_says : List (Nat × mm_T) := [(0, o_ald 0 1), (1, o_ild 1 2), (2, o_ald 0 3), (3, o_getf 5 3 6), (6, o_callV 5 m_X5_hearers 5 2 9), (9, o_ist 3 10), (10, o_ic 0 11), (11, o_ist 4 13), (13, o_ic 0 14), (14, o_ist 5 16), (16, o_ild 5 18), (18, o_ald 0 19), (19, o_getf 5 8 22), (22, o_ic_ge 107 25), (25, o_ild 3 26), (26, o_ild 5 28), (28, o_ishr 29), (29, o_ic 1 30), (30, o_iand 31), (31, o_ic 1 32), (32, o_ic_ne 57 35), (35, o_ald 0 36), (36, o_getf 5 9 39), (39, o_ic 3 40), (40, o_ild 5 42), (42, o_imul 43), (43, o_ic 2 44), (44, o_iadd 45), (45, o_iald 46), (46, o_ild 2 47), (47, o_ishr 48), (48, o_ic 1 49), (49, o_iand 50), (50, o_if_ne 57 53), (53, o_ic 1 54), (54, o_goto 58), (57, o_ic 0 58), (58, o_ist 6 60), (60, o_ald 0 61), (61, o_getf 5 9 64), (64, o_ic 3 65), (65, o_ild 5 67), (67, o_imul 68), (68, o_ic 2 69), (69, o_iadd 70), (70, o_dup2 71), (71, o_iald 72), (72, o_ild 6 74), (74, o_if_eq 83 77), (77, o_ic 1 78), (78, o_ild 2 79), (79, o_ishl 80), (80, o_goto 84), (83, o_ic 0 84), (84, o_ior 85), (85, o_iast 86), (86, o_ild 4 88), (88, o_ild 6 90), (90, o_if_eq 97 93), (93, o_ic 1 94), (94, o_goto 98), (97, o_ic 0 98), (98, o_iadd 99), (99, o_ist 4 101), (101, o_iinc 5 1 104), (104, o_goto 16), (107, o_ild 4 109), (109, o_iret)]
def m_X5_says : Nat → mm_T := mm_look k_X5_says
set_option maxRecDepth 20000 in
theorem sp_X5_says : mm_Sp yX5_says cX5_says 7 (some .int) { frames := 4, cells := 0, slots := 0, locals := 98 } m_X5_says := by
  refine mm_sound (own := RX5) (code := k_X5_says) (by decide) rfl ?_
  refine List.forall_mem_cons.mpr ⟨ok_aload_n (pc := 0) dX5_says_0 rfl, ?_⟩
  refine List.forall_mem_cons.mpr ⟨ok_iload_n (pc := 1) dX5_says_1 rfl, ?_⟩
  refine List.forall_mem_cons.mpr ⟨ok_aload_n (pc := 2) dX5_says_2 rfl, ?_⟩
  refine List.forall_mem_cons.mpr ⟨ok_getf (pc := 3) (k := 3) (C := RX5) (T := TX5) (N := 24) rfl (by decide) hin_X5 (by decide) hsz_X5 bw_113 dX5_says_3, ?_⟩
  refine List.forall_mem_cons.mpr ⟨ok_callV (pc := 6) sp_X5_hearers (ci := 5) (C := RX5) rfl (by decide) ⟨bw_131, bm_X5_hearers⟩ (by decide) ⟨rfl, rfl, Nat.le_of_ble_eq_true rfl, Nat.le_of_ble_eq_true rfl⟩ dX5_says_6, ?_⟩
  refine List.forall_mem_cons.mpr ⟨ok_istore_n (pc := 9) dX5_says_9 rfl, ?_⟩
  refine List.forall_mem_cons.mpr ⟨ok_iconst (pc := 10) dX5_says_10 (by decide), ?_⟩
  refine List.forall_mem_cons.mpr ⟨ok_istore (pc := 11) dX5_says_11, ?_⟩
  refine List.forall_mem_cons.mpr ⟨ok_iconst (pc := 13) dX5_says_13 (by decide), ?_⟩
  refine List.forall_mem_cons.mpr ⟨ok_istore (pc := 14) dX5_says_14, ?_⟩
  refine List.forall_mem_cons.mpr ⟨ok_iload (pc := 16) dX5_says_16, ?_⟩
  refine List.forall_mem_cons.mpr ⟨ok_aload_n (pc := 18) dX5_says_18 rfl, ?_⟩
  refine List.forall_mem_cons.mpr ⟨ok_getf (pc := 19) (k := 8) (C := RX5) (T := TX5) (N := 24) rfl (by decide) hin_X5 (by decide) hsz_X5 bw_115 dX5_says_19, ?_⟩
  refine List.forall_mem_cons.mpr ⟨ok_icmp_ge (pc := 22) (tgt := 107) dX5_says_22 (by decide), ?_⟩
  refine List.forall_mem_cons.mpr ⟨ok_iload_n (pc := 25) dX5_says_25 rfl, ?_⟩
  refine List.forall_mem_cons.mpr ⟨ok_iload (pc := 26) dX5_says_26, ?_⟩
  refine List.forall_mem_cons.mpr ⟨ok_ishr (pc := 28) dX5_says_28, ?_⟩
  refine List.forall_mem_cons.mpr ⟨ok_iconst (pc := 29) dX5_says_29 (by decide), ?_⟩
  refine List.forall_mem_cons.mpr ⟨ok_iand (pc := 30) dX5_says_30, ?_⟩
  refine List.forall_mem_cons.mpr ⟨ok_iconst (pc := 31) dX5_says_31 (by decide), ?_⟩
  refine List.forall_mem_cons.mpr ⟨ok_icmp_ne (pc := 32) (tgt := 57) dX5_says_32 (by decide), ?_⟩
  refine List.forall_mem_cons.mpr ⟨ok_aload_n (pc := 35) dX5_says_35 rfl, ?_⟩
  refine List.forall_mem_cons.mpr ⟨ok_getf (pc := 36) (k := 9) (C := RX5) (T := TX5) (N := 24) rfl (by decide) hin_X5 (by decide) hsz_X5 bw_119 dX5_says_36, ?_⟩
  refine List.forall_mem_cons.mpr ⟨ok_iconst (pc := 39) dX5_says_39 (by decide), ?_⟩
  refine List.forall_mem_cons.mpr ⟨ok_iload (pc := 40) dX5_says_40, ?_⟩
  refine List.forall_mem_cons.mpr ⟨ok_imul (pc := 42) dX5_says_42, ?_⟩
  refine List.forall_mem_cons.mpr ⟨ok_iconst (pc := 43) dX5_says_43 (by decide), ?_⟩
  refine List.forall_mem_cons.mpr ⟨ok_iadd (pc := 44) dX5_says_44, ?_⟩
  refine List.forall_mem_cons.mpr ⟨ok_iald (pc := 45) dX5_says_45, ?_⟩
  refine List.forall_mem_cons.mpr ⟨ok_iload_n (pc := 46) dX5_says_46 rfl, ?_⟩
  refine List.forall_mem_cons.mpr ⟨ok_ishr (pc := 47) dX5_says_47, ?_⟩
  refine List.forall_mem_cons.mpr ⟨ok_iconst (pc := 48) dX5_says_48 (by decide), ?_⟩
  refine List.forall_mem_cons.mpr ⟨ok_iand (pc := 49) dX5_says_49, ?_⟩
  refine List.forall_mem_cons.mpr ⟨ok_if_ne (pc := 50) (tgt := 57) dX5_says_50 (by decide), ?_⟩
  refine List.forall_mem_cons.mpr ⟨ok_iconst (pc := 53) dX5_says_53 (by decide), ?_⟩
  refine List.forall_mem_cons.mpr ⟨ok_goto (pc := 54) (tgt := 58) dX5_says_54 (by decide), ?_⟩
  refine List.forall_mem_cons.mpr ⟨ok_iconst (pc := 57) dX5_says_57 (by decide), ?_⟩
  refine List.forall_mem_cons.mpr ⟨ok_istore (pc := 58) dX5_says_58, ?_⟩
  refine List.forall_mem_cons.mpr ⟨ok_aload_n (pc := 60) dX5_says_60 rfl, ?_⟩
  refine List.forall_mem_cons.mpr ⟨ok_getf (pc := 61) (k := 9) (C := RX5) (T := TX5) (N := 24) rfl (by decide) hin_X5 (by decide) hsz_X5 bw_119 dX5_says_61, ?_⟩
  refine List.forall_mem_cons.mpr ⟨ok_iconst (pc := 64) dX5_says_64 (by decide), ?_⟩
  refine List.forall_mem_cons.mpr ⟨ok_iload (pc := 65) dX5_says_65, ?_⟩
  refine List.forall_mem_cons.mpr ⟨ok_imul (pc := 67) dX5_says_67, ?_⟩
  refine List.forall_mem_cons.mpr ⟨ok_iconst (pc := 68) dX5_says_68 (by decide), ?_⟩
  refine List.forall_mem_cons.mpr ⟨ok_iadd (pc := 69) dX5_says_69, ?_⟩
  refine List.forall_mem_cons.mpr ⟨ok_dup2 (pc := 70) dX5_says_70, ?_⟩
  refine List.forall_mem_cons.mpr ⟨ok_iald (pc := 71) dX5_says_71, ?_⟩
  refine List.forall_mem_cons.mpr ⟨ok_iload (pc := 72) dX5_says_72, ?_⟩
  refine List.forall_mem_cons.mpr ⟨ok_if_eq (pc := 74) (tgt := 83) dX5_says_74 (by decide), ?_⟩
  refine List.forall_mem_cons.mpr ⟨ok_iconst (pc := 77) dX5_says_77 (by decide), ?_⟩
  refine List.forall_mem_cons.mpr ⟨ok_iload_n (pc := 78) dX5_says_78 rfl, ?_⟩
  refine List.forall_mem_cons.mpr ⟨ok_ishl (pc := 79) dX5_says_79, ?_⟩
  refine List.forall_mem_cons.mpr ⟨ok_goto (pc := 80) (tgt := 84) dX5_says_80 (by decide), ?_⟩
  refine List.forall_mem_cons.mpr ⟨ok_iconst (pc := 83) dX5_says_83 (by decide), ?_⟩
  refine List.forall_mem_cons.mpr ⟨ok_ior (pc := 84) dX5_says_84, ?_⟩
  refine List.forall_mem_cons.mpr ⟨ok_iast (pc := 85) dX5_says_85, ?_⟩
  refine List.forall_mem_cons.mpr ⟨ok_iload (pc := 86) dX5_says_86, ?_⟩
  refine List.forall_mem_cons.mpr ⟨ok_iload (pc := 88) dX5_says_88, ?_⟩
  refine List.forall_mem_cons.mpr ⟨ok_if_eq (pc := 90) (tgt := 97) dX5_says_90 (by decide), ?_⟩
  refine List.forall_mem_cons.mpr ⟨ok_iconst (pc := 93) dX5_says_93 (by decide), ?_⟩
  refine List.forall_mem_cons.mpr ⟨ok_goto (pc := 94) (tgt := 98) dX5_says_94 (by decide), ?_⟩
  refine List.forall_mem_cons.mpr ⟨ok_iconst (pc := 97) dX5_says_97 (by decide), ?_⟩
  refine List.forall_mem_cons.mpr ⟨ok_iadd (pc := 98) dX5_says_98, ?_⟩
  refine List.forall_mem_cons.mpr ⟨ok_istore (pc := 99) dX5_says_99, ?_⟩
  refine List.forall_mem_cons.mpr ⟨ok_iinc (pc := 101) dX5_says_101 (by decide), ?_⟩
  refine List.forall_mem_cons.mpr ⟨ok_goto (pc := 104) (tgt := 16) dX5_says_104 (by decide), ?_⟩
  refine List.forall_mem_cons.mpr ⟨ok_iload (pc := 107) dX5_says_107, ?_⟩
  refine List.forall_mem_cons.mpr ⟨ok_iret (pc := 109) dX5_says_109, ?_⟩
  exact fun _ h => absurd h List.not_mem_nil
abbrev k_X5_say : List (Nat × mm_T) := [(0, o_ald 0 1), (1, o_ild 1 2), (2, o_callV 5 m_X5_isPerson 2 1 5), (5, o_if_ne 11 8), (8, o_ic (-101) 10), (10, o_iret), (11, o_ild 2 12), (12, o_i2l 13), (13, o_lc 0 14), (14, o_lc 9 17), (17, o_callS m_X5_in 6 3 20), (20, o_if_ne 26 23), (23, o_ic (-102) 25), (25, o_iret), (26, o_ald 0 27), (27, o_getf 5 9 30), (30, o_ic 3 31), (31, o_ild 1 32), (32, o_imul 33), (33, o_iald 34), (34, o_ic 3 35), (35, o_ic_ne 41 38), (38, o_ic (-103) 40), (40, o_iret), (41, o_ald 0 42), (42, o_dup 43), (43, o_getf 5 4 46), (46, o_ic 1 47), (47, o_iadd 48), (48, o_putf 5 4 51), (51, o_ald 0 52), (52, o_ild 1 53), (53, o_ild 2 54), (54, o_callV 5 m_X5_says 7 2 57), (57, o_iret)]
def m_X5_say : Nat → mm_T := mm_look k_X5_say
set_option maxRecDepth 20000 in
theorem sp_X5_say : mm_Sp yX5_say cX5_say 3 (some .int) { frames := 5, cells := 0, slots := 0, locals := 124 } m_X5_say := by
  refine mm_sound (own := RX5) (code := k_X5_say) (by decide) rfl ?_
  refine List.forall_mem_cons.mpr ⟨ok_aload_n (pc := 0) dX5_say_0 rfl, ?_⟩
  refine List.forall_mem_cons.mpr ⟨ok_iload_n (pc := 1) dX5_say_1 rfl, ?_⟩
  refine List.forall_mem_cons.mpr ⟨ok_callV (pc := 2) sp_X5_isPerson (ci := 5) (C := RX5) rfl (by decide) ⟨bw_128, bm_X5_isPerson⟩ (by decide) ⟨rfl, rfl, Nat.le_of_ble_eq_true rfl, Nat.le_of_ble_eq_true rfl⟩ dX5_say_2, ?_⟩
  refine List.forall_mem_cons.mpr ⟨ok_if_ne (pc := 5) (tgt := 11) dX5_say_5 (by decide), ?_⟩
  refine List.forall_mem_cons.mpr ⟨ok_bipush (pc := 8) dX5_say_8 (by decide), ?_⟩
  refine List.forall_mem_cons.mpr ⟨ok_iret (pc := 10) dX5_say_10, ?_⟩
  refine List.forall_mem_cons.mpr ⟨ok_iload_n (pc := 11) dX5_say_11 rfl, ?_⟩
  refine List.forall_mem_cons.mpr ⟨ok_i2l (pc := 12) dX5_say_12, ?_⟩
  refine List.forall_mem_cons.mpr ⟨ok_lconst (pc := 13) dX5_say_13 (by decide), ?_⟩
  refine List.forall_mem_cons.mpr ⟨ok_ldc2 (pc := 14) bw_133 dX5_say_14, ?_⟩
  refine List.forall_mem_cons.mpr ⟨ok_callS (pc := 17) sp_X5_in ⟨bw_101, bs_X5_in⟩ (by decide) ⟨rfl, rfl, Nat.le_of_ble_eq_true rfl, Nat.le_of_ble_eq_true rfl⟩ dX5_say_17, ?_⟩
  refine List.forall_mem_cons.mpr ⟨ok_if_ne (pc := 20) (tgt := 26) dX5_say_20 (by decide), ?_⟩
  refine List.forall_mem_cons.mpr ⟨ok_bipush (pc := 23) dX5_say_23 (by decide), ?_⟩
  refine List.forall_mem_cons.mpr ⟨ok_iret (pc := 25) dX5_say_25, ?_⟩
  refine List.forall_mem_cons.mpr ⟨ok_aload_n (pc := 26) dX5_say_26 rfl, ?_⟩
  refine List.forall_mem_cons.mpr ⟨ok_getf (pc := 27) (k := 9) (C := RX5) (T := TX5) (N := 24) rfl (by decide) hin_X5 (by decide) hsz_X5 bw_119 dX5_say_27, ?_⟩
  refine List.forall_mem_cons.mpr ⟨ok_iconst (pc := 30) dX5_say_30 (by decide), ?_⟩
  refine List.forall_mem_cons.mpr ⟨ok_iload_n (pc := 31) dX5_say_31 rfl, ?_⟩
  refine List.forall_mem_cons.mpr ⟨ok_imul (pc := 32) dX5_say_32, ?_⟩
  refine List.forall_mem_cons.mpr ⟨ok_iald (pc := 33) dX5_say_33, ?_⟩
  refine List.forall_mem_cons.mpr ⟨ok_iconst (pc := 34) dX5_say_34 (by decide), ?_⟩
  refine List.forall_mem_cons.mpr ⟨ok_icmp_ne (pc := 35) (tgt := 41) dX5_say_35 (by decide), ?_⟩
  refine List.forall_mem_cons.mpr ⟨ok_bipush (pc := 38) dX5_say_38 (by decide), ?_⟩
  refine List.forall_mem_cons.mpr ⟨ok_iret (pc := 40) dX5_say_40, ?_⟩
  refine List.forall_mem_cons.mpr ⟨ok_aload_n (pc := 41) dX5_say_41 rfl, ?_⟩
  refine List.forall_mem_cons.mpr ⟨ok_dup (pc := 42) dX5_say_42, ?_⟩
  refine List.forall_mem_cons.mpr ⟨ok_getf (pc := 43) (k := 4) (C := RX5) (T := TX5) (N := 24) rfl (by decide) hin_X5 (by decide) hsz_X5 bw_114 dX5_say_43, ?_⟩
  refine List.forall_mem_cons.mpr ⟨ok_iconst (pc := 46) dX5_say_46 (by decide), ?_⟩
  refine List.forall_mem_cons.mpr ⟨ok_iadd (pc := 47) dX5_say_47, ?_⟩
  refine List.forall_mem_cons.mpr ⟨ok_putf (pc := 48) (k := 4) (C := RX5) (T := TX5) (N := 24) tyX5 tyX5_ok nmX5 rfl (by decide) hin_X5 (by decide) hsz_X5 hkt_X5_4 rfl bw_114 dX5_say_48, ?_⟩
  refine List.forall_mem_cons.mpr ⟨ok_aload_n (pc := 51) dX5_say_51 rfl, ?_⟩
  refine List.forall_mem_cons.mpr ⟨ok_iload_n (pc := 52) dX5_say_52 rfl, ?_⟩
  refine List.forall_mem_cons.mpr ⟨ok_iload_n (pc := 53) dX5_say_53 rfl, ?_⟩
  refine List.forall_mem_cons.mpr ⟨ok_callV (pc := 54) sp_X5_says (ci := 5) (C := RX5) rfl (by decide) ⟨bw_134, bm_X5_says⟩ (by decide) ⟨rfl, rfl, Nat.le_of_ble_eq_true rfl, Nat.le_of_ble_eq_true rfl⟩ dX5_say_54, ?_⟩
  refine List.forall_mem_cons.mpr ⟨ok_iret (pc := 57) dX5_say_57, ?_⟩
  exact fun _ h => absurd h List.not_mem_nil
abbrev k_X5_hearsOf : List (Nat × mm_T) := [(0, o_ald 0 1), (1, o_ild 1 2), (2, o_ald 0 3), (3, o_getf 5 3 6), (6, o_callV 5 m_X5_layHears 9 2 9), (9, o_ald 0 10), (10, o_getf 5 10 13), (13, o_ild 2 14), (14, o_iald 15), (15, o_ic 9999 18), (18, o_ic_ge 30 21), (21, o_ald 0 22), (22, o_getf 5 10 25), (25, o_ild 2 26), (26, o_iald 27), (27, o_goto 31), (30, o_ic (-1) 31), (31, o_iret)]
def m_X5_hearsOf : Nat → mm_T := mm_look k_X5_hearsOf
set_option maxRecDepth 20000 in
theorem sp_X5_hearsOf : mm_Sp yX5_hearsOf cX5_hearsOf 3 (some .int) { frames := 3, cells := 0, slots := 0, locals := 74 } m_X5_hearsOf := by
  refine mm_sound (own := RX5) (code := k_X5_hearsOf) (by decide) rfl ?_
  refine List.forall_mem_cons.mpr ⟨ok_aload_n (pc := 0) dX5_hearsOf_0 rfl, ?_⟩
  refine List.forall_mem_cons.mpr ⟨ok_iload_n (pc := 1) dX5_hearsOf_1 rfl, ?_⟩
  refine List.forall_mem_cons.mpr ⟨ok_aload_n (pc := 2) dX5_hearsOf_2 rfl, ?_⟩
  refine List.forall_mem_cons.mpr ⟨ok_getf (pc := 3) (k := 3) (C := RX5) (T := TX5) (N := 24) rfl (by decide) hin_X5 (by decide) hsz_X5 bw_113 dX5_hearsOf_3, ?_⟩
  refine List.forall_mem_cons.mpr ⟨ok_callV (pc := 6) sp_X5_layHears (ci := 5) (C := RX5) rfl (by decide) ⟨bw_130, bm_X5_layHears⟩ (by decide) ⟨rfl, rfl, Nat.le_of_ble_eq_true rfl, Nat.le_of_ble_eq_true rfl⟩ dX5_hearsOf_6, ?_⟩
  refine List.forall_mem_cons.mpr ⟨ok_aload_n (pc := 9) dX5_hearsOf_9 rfl, ?_⟩
  refine List.forall_mem_cons.mpr ⟨ok_getf (pc := 10) (k := 10) (C := RX5) (T := TX5) (N := 24) rfl (by decide) hin_X5 (by decide) hsz_X5 bw_127 dX5_hearsOf_10, ?_⟩
  refine List.forall_mem_cons.mpr ⟨ok_iload_n (pc := 13) dX5_hearsOf_13 rfl, ?_⟩
  refine List.forall_mem_cons.mpr ⟨ok_iald (pc := 14) dX5_hearsOf_14, ?_⟩
  refine List.forall_mem_cons.mpr ⟨ok_sipush (pc := 15) dX5_hearsOf_15 (by decide), ?_⟩
  refine List.forall_mem_cons.mpr ⟨ok_icmp_ge (pc := 18) (tgt := 30) dX5_hearsOf_18 (by decide), ?_⟩
  refine List.forall_mem_cons.mpr ⟨ok_aload_n (pc := 21) dX5_hearsOf_21 rfl, ?_⟩
  refine List.forall_mem_cons.mpr ⟨ok_getf (pc := 22) (k := 10) (C := RX5) (T := TX5) (N := 24) rfl (by decide) hin_X5 (by decide) hsz_X5 bw_127 dX5_hearsOf_22, ?_⟩
  refine List.forall_mem_cons.mpr ⟨ok_iload_n (pc := 25) dX5_hearsOf_25 rfl, ?_⟩
  refine List.forall_mem_cons.mpr ⟨ok_iald (pc := 26) dX5_hearsOf_26, ?_⟩
  refine List.forall_mem_cons.mpr ⟨ok_goto (pc := 27) (tgt := 31) dX5_hearsOf_27 (by decide), ?_⟩
  refine List.forall_mem_cons.mpr ⟨ok_iconst (pc := 30) dX5_hearsOf_30 (by decide), ?_⟩
  refine List.forall_mem_cons.mpr ⟨ok_iret (pc := 31) dX5_hearsOf_31, ?_⟩
  exact fun _ h => absurd h List.not_mem_nil
abbrev k_X5_hears : List (Nat × mm_T) := [(0, o_ald 0 1), (1, o_ild 1 2), (2, o_callV 5 m_X5_isPerson 2 1 5), (5, o_if_eq 25 8), (8, o_ald 0 9), (9, o_ild 2 10), (10, o_callV 5 m_X5_isPerson 2 1 13), (13, o_if_eq 25 16), (16, o_ald 0 17), (17, o_ild 1 18), (18, o_ild 2 19), (19, o_callV 5 m_X5_hearsOf 3 2 22), (22, o_goto 27), (25, o_ic (-101) 27), (27, o_iret)]
def m_X5_hears : Nat → mm_T := mm_look k_X5_hears
set_option maxRecDepth 20000 in
theorem sp_X5_hears : mm_Sp yX5_hears cX5_hears 3 (some .int) { frames := 4, cells := 0, slots := 0, locals := 96 } m_X5_hears := by
  refine mm_sound (own := RX5) (code := k_X5_hears) (by decide) rfl ?_
  refine List.forall_mem_cons.mpr ⟨ok_aload_n (pc := 0) dX5_hears_0 rfl, ?_⟩
  refine List.forall_mem_cons.mpr ⟨ok_iload_n (pc := 1) dX5_hears_1 rfl, ?_⟩
  refine List.forall_mem_cons.mpr ⟨ok_callV (pc := 2) sp_X5_isPerson (ci := 5) (C := RX5) rfl (by decide) ⟨bw_128, bm_X5_isPerson⟩ (by decide) ⟨rfl, rfl, Nat.le_of_ble_eq_true rfl, Nat.le_of_ble_eq_true rfl⟩ dX5_hears_2, ?_⟩
  refine List.forall_mem_cons.mpr ⟨ok_if_eq (pc := 5) (tgt := 25) dX5_hears_5 (by decide), ?_⟩
  refine List.forall_mem_cons.mpr ⟨ok_aload_n (pc := 8) dX5_hears_8 rfl, ?_⟩
  refine List.forall_mem_cons.mpr ⟨ok_iload_n (pc := 9) dX5_hears_9 rfl, ?_⟩
  refine List.forall_mem_cons.mpr ⟨ok_callV (pc := 10) sp_X5_isPerson (ci := 5) (C := RX5) rfl (by decide) ⟨bw_128, bm_X5_isPerson⟩ (by decide) ⟨rfl, rfl, Nat.le_of_ble_eq_true rfl, Nat.le_of_ble_eq_true rfl⟩ dX5_hears_10, ?_⟩
  refine List.forall_mem_cons.mpr ⟨ok_if_eq (pc := 13) (tgt := 25) dX5_hears_13 (by decide), ?_⟩
  refine List.forall_mem_cons.mpr ⟨ok_aload_n (pc := 16) dX5_hears_16 rfl, ?_⟩
  refine List.forall_mem_cons.mpr ⟨ok_iload_n (pc := 17) dX5_hears_17 rfl, ?_⟩
  refine List.forall_mem_cons.mpr ⟨ok_iload_n (pc := 18) dX5_hears_18 rfl, ?_⟩
  refine List.forall_mem_cons.mpr ⟨ok_callV (pc := 19) sp_X5_hearsOf (ci := 5) (C := RX5) rfl (by decide) ⟨bw_135, bm_X5_hearsOf⟩ (by decide) ⟨rfl, rfl, Nat.le_of_ble_eq_true rfl, Nat.le_of_ble_eq_true rfl⟩ dX5_hears_19, ?_⟩
  refine List.forall_mem_cons.mpr ⟨ok_goto (pc := 22) (tgt := 27) dX5_hears_22 (by decide), ?_⟩
  refine List.forall_mem_cons.mpr ⟨ok_bipush (pc := 25) dX5_hears_25 (by decide), ?_⟩
  refine List.forall_mem_cons.mpr ⟨ok_iret (pc := 27) dX5_hears_27, ?_⟩
  exact fun _ h => absurd h List.not_mem_nil
abbrev k_X5_screensOf : List (Nat × mm_T) := [(0, o_ic (-1) 1), (1, o_ist 3 2), (2, o_ic 0 3), (3, o_ist 4 5), (5, o_ild 4 7), (7, o_ic 256 10), (10, o_ic_ge 84 13), (13, o_ild 4 15), (15, o_ald 0 16), (16, o_getf 5 3 19), (19, o_iand 20), (20, o_if_ne 44 23), (23, o_ild 3 24), (24, o_ic (-1) 25), (25, o_ic_eq 40 28), (28, o_ild 4 30), (30, o_callS m_X5_ones 3 1 33), (33, o_ild 3 34), (34, o_callS m_X5_ones 3 1 37), (37, o_ic_ge 44 40), (40, o_ic 1 41), (41, o_goto 45), (44, o_ic 0 45), (45, o_ist 5 47), (47, o_ild 5 49), (49, o_if_eq 76 52), (52, o_ald 0 53), (53, o_ild 1 54), (54, o_ald 0 55), (55, o_getf 5 3 58), (58, o_ild 4 60), (60, o_ior 61), (61, o_callV 5 m_X5_hearers 5 2 64), (64, o_ild 2 65), (65, o_ishr 66), (66, o_ic 1 67), (67, o_iand 68), (68, o_if_ne 76 71), (71, o_ild 4 73), (73, o_goto 77), (76, o_ild 3 77), (77, o_ist 3 78), (78, o_iinc 4 1 81), (81, o_goto 5), (84, o_ild 3 85), (85, o_iret)]
def m_X5_screensOf : Nat → mm_T := mm_look k_X5_screensOf
set_option maxRecDepth 20000 in
theorem sp_X5_screensOf : mm_Sp yX5_screensOf cX5_screensOf 6 (some .int) { frames := 4, cells := 0, slots := 0, locals := 98 } m_X5_screensOf := by
  refine mm_sound (own := RX5) (code := k_X5_screensOf) (by decide) rfl ?_
  refine List.forall_mem_cons.mpr ⟨ok_iconst (pc := 0) dX5_screensOf_0 (by decide), ?_⟩
  refine List.forall_mem_cons.mpr ⟨ok_istore_n (pc := 1) dX5_screensOf_1 rfl, ?_⟩
  refine List.forall_mem_cons.mpr ⟨ok_iconst (pc := 2) dX5_screensOf_2 (by decide), ?_⟩
  refine List.forall_mem_cons.mpr ⟨ok_istore (pc := 3) dX5_screensOf_3, ?_⟩
  refine List.forall_mem_cons.mpr ⟨ok_iload (pc := 5) dX5_screensOf_5, ?_⟩
  refine List.forall_mem_cons.mpr ⟨ok_sipush (pc := 7) dX5_screensOf_7 (by decide), ?_⟩
  refine List.forall_mem_cons.mpr ⟨ok_icmp_ge (pc := 10) (tgt := 84) dX5_screensOf_10 (by decide), ?_⟩
  refine List.forall_mem_cons.mpr ⟨ok_iload (pc := 13) dX5_screensOf_13, ?_⟩
  refine List.forall_mem_cons.mpr ⟨ok_aload_n (pc := 15) dX5_screensOf_15 rfl, ?_⟩
  refine List.forall_mem_cons.mpr ⟨ok_getf (pc := 16) (k := 3) (C := RX5) (T := TX5) (N := 24) rfl (by decide) hin_X5 (by decide) hsz_X5 bw_113 dX5_screensOf_16, ?_⟩
  refine List.forall_mem_cons.mpr ⟨ok_iand (pc := 19) dX5_screensOf_19, ?_⟩
  refine List.forall_mem_cons.mpr ⟨ok_if_ne (pc := 20) (tgt := 44) dX5_screensOf_20 (by decide), ?_⟩
  refine List.forall_mem_cons.mpr ⟨ok_iload_n (pc := 23) dX5_screensOf_23 rfl, ?_⟩
  refine List.forall_mem_cons.mpr ⟨ok_iconst (pc := 24) dX5_screensOf_24 (by decide), ?_⟩
  refine List.forall_mem_cons.mpr ⟨ok_icmp_eq (pc := 25) (tgt := 40) dX5_screensOf_25 (by decide), ?_⟩
  refine List.forall_mem_cons.mpr ⟨ok_iload (pc := 28) dX5_screensOf_28, ?_⟩
  refine List.forall_mem_cons.mpr ⟨ok_callS (pc := 30) sp_X5_ones ⟨bw_121, bs_X5_ones⟩ (by decide) ⟨rfl, rfl, Nat.le_of_ble_eq_true rfl, Nat.le_of_ble_eq_true rfl⟩ dX5_screensOf_30, ?_⟩
  refine List.forall_mem_cons.mpr ⟨ok_iload_n (pc := 33) dX5_screensOf_33 rfl, ?_⟩
  refine List.forall_mem_cons.mpr ⟨ok_callS (pc := 34) sp_X5_ones ⟨bw_121, bs_X5_ones⟩ (by decide) ⟨rfl, rfl, Nat.le_of_ble_eq_true rfl, Nat.le_of_ble_eq_true rfl⟩ dX5_screensOf_34, ?_⟩
  refine List.forall_mem_cons.mpr ⟨ok_icmp_ge (pc := 37) (tgt := 44) dX5_screensOf_37 (by decide), ?_⟩
  refine List.forall_mem_cons.mpr ⟨ok_iconst (pc := 40) dX5_screensOf_40 (by decide), ?_⟩
  refine List.forall_mem_cons.mpr ⟨ok_goto (pc := 41) (tgt := 45) dX5_screensOf_41 (by decide), ?_⟩
  refine List.forall_mem_cons.mpr ⟨ok_iconst (pc := 44) dX5_screensOf_44 (by decide), ?_⟩
  refine List.forall_mem_cons.mpr ⟨ok_istore (pc := 45) dX5_screensOf_45, ?_⟩
  refine List.forall_mem_cons.mpr ⟨ok_iload (pc := 47) dX5_screensOf_47, ?_⟩
  refine List.forall_mem_cons.mpr ⟨ok_if_eq (pc := 49) (tgt := 76) dX5_screensOf_49 (by decide), ?_⟩
  refine List.forall_mem_cons.mpr ⟨ok_aload_n (pc := 52) dX5_screensOf_52 rfl, ?_⟩
  refine List.forall_mem_cons.mpr ⟨ok_iload_n (pc := 53) dX5_screensOf_53 rfl, ?_⟩
  refine List.forall_mem_cons.mpr ⟨ok_aload_n (pc := 54) dX5_screensOf_54 rfl, ?_⟩
  refine List.forall_mem_cons.mpr ⟨ok_getf (pc := 55) (k := 3) (C := RX5) (T := TX5) (N := 24) rfl (by decide) hin_X5 (by decide) hsz_X5 bw_113 dX5_screensOf_55, ?_⟩
  refine List.forall_mem_cons.mpr ⟨ok_iload (pc := 58) dX5_screensOf_58, ?_⟩
  refine List.forall_mem_cons.mpr ⟨ok_ior (pc := 60) dX5_screensOf_60, ?_⟩
  refine List.forall_mem_cons.mpr ⟨ok_callV (pc := 61) sp_X5_hearers (ci := 5) (C := RX5) rfl (by decide) ⟨bw_131, bm_X5_hearers⟩ (by decide) ⟨rfl, rfl, Nat.le_of_ble_eq_true rfl, Nat.le_of_ble_eq_true rfl⟩ dX5_screensOf_61, ?_⟩
  refine List.forall_mem_cons.mpr ⟨ok_iload_n (pc := 64) dX5_screensOf_64 rfl, ?_⟩
  refine List.forall_mem_cons.mpr ⟨ok_ishr (pc := 65) dX5_screensOf_65, ?_⟩
  refine List.forall_mem_cons.mpr ⟨ok_iconst (pc := 66) dX5_screensOf_66 (by decide), ?_⟩
  refine List.forall_mem_cons.mpr ⟨ok_iand (pc := 67) dX5_screensOf_67, ?_⟩
  refine List.forall_mem_cons.mpr ⟨ok_if_ne (pc := 68) (tgt := 76) dX5_screensOf_68 (by decide), ?_⟩
  refine List.forall_mem_cons.mpr ⟨ok_iload (pc := 71) dX5_screensOf_71, ?_⟩
  refine List.forall_mem_cons.mpr ⟨ok_goto (pc := 73) (tgt := 77) dX5_screensOf_73 (by decide), ?_⟩
  refine List.forall_mem_cons.mpr ⟨ok_iload_n (pc := 76) dX5_screensOf_76 rfl, ?_⟩
  refine List.forall_mem_cons.mpr ⟨ok_istore_n (pc := 77) dX5_screensOf_77 rfl, ?_⟩
  refine List.forall_mem_cons.mpr ⟨ok_iinc (pc := 78) dX5_screensOf_78 (by decide), ?_⟩
  refine List.forall_mem_cons.mpr ⟨ok_goto (pc := 81) (tgt := 5) dX5_screensOf_81 (by decide), ?_⟩
  refine List.forall_mem_cons.mpr ⟨ok_iload_n (pc := 84) dX5_screensOf_84 rfl, ?_⟩
  refine List.forall_mem_cons.mpr ⟨ok_iret (pc := 85) dX5_screensOf_85, ?_⟩
  exact fun _ h => absurd h List.not_mem_nil
abbrev k_X5_screens : List (Nat × mm_T) := [(0, o_ald 0 1), (1, o_ild 1 2), (2, o_callV 5 m_X5_isPerson 2 1 5), (5, o_if_eq 21 8), (8, o_ald 0 9), (9, o_ild 2 10), (10, o_callV 5 m_X5_isPerson 2 1 13), (13, o_if_eq 21 16), (16, o_ild 1 17), (17, o_ild 2 18), (18, o_ic_ne 24 21), (21, o_ic (-101) 23), (23, o_iret), (24, o_ild 3 25), (25, o_i2l 26), (26, o_lc 0 27), (27, o_lc 1 28), (28, o_callS m_X5_in 6 3 31), (31, o_if_ne 37 34), (34, o_ic (-102) 36), (36, o_iret), (37, o_ald 0 38), (38, o_getf 5 11 41), (41, o_ic 20 43), (43, o_ic_ne 49 46), (46, o_ic (-103) 48), (48, o_iret), (49, o_ald 0 50), (50, o_dup 51), (51, o_getf 5 11 54), (54, o_ic 1 55), (55, o_iadd 56), (56, o_putf 5 11 59), (59, o_ald 0 60), (60, o_ild 1 61), (61, o_ild 2 62), (62, o_callV 5 m_X5_screensOf 6 2 65), (65, o_ist 4 67), (67, o_ild 4 69), (69, o_ic (-1) 70), (70, o_ic_eq 78 73), (73, o_ild 3 74), (74, o_ic 1 75), (75, o_ic_ne 83 78), (78, o_ild 4 80), (80, o_goto 88), (83, o_ild 4 85), (85, o_callS m_X5_ones 3 1 88), (88, o_iret)]
def m_X5_screens : Nat → mm_T := mm_look k_X5_screens
set_option maxRecDepth 20000 in
theorem sp_X5_screens : mm_Sp yX5_screens cX5_screens 5 (some .int) { frames := 5, cells := 0, slots := 0, locals := 123 } m_X5_screens := by
  refine mm_sound (own := RX5) (code := k_X5_screens) (by decide) rfl ?_
  refine List.forall_mem_cons.mpr ⟨ok_aload_n (pc := 0) dX5_screens_0 rfl, ?_⟩
  refine List.forall_mem_cons.mpr ⟨ok_iload_n (pc := 1) dX5_screens_1 rfl, ?_⟩
  refine List.forall_mem_cons.mpr ⟨ok_callV (pc := 2) sp_X5_isPerson (ci := 5) (C := RX5) rfl (by decide) ⟨bw_128, bm_X5_isPerson⟩ (by decide) ⟨rfl, rfl, Nat.le_of_ble_eq_true rfl, Nat.le_of_ble_eq_true rfl⟩ dX5_screens_2, ?_⟩
  refine List.forall_mem_cons.mpr ⟨ok_if_eq (pc := 5) (tgt := 21) dX5_screens_5 (by decide), ?_⟩
  refine List.forall_mem_cons.mpr ⟨ok_aload_n (pc := 8) dX5_screens_8 rfl, ?_⟩
  refine List.forall_mem_cons.mpr ⟨ok_iload_n (pc := 9) dX5_screens_9 rfl, ?_⟩
  refine List.forall_mem_cons.mpr ⟨ok_callV (pc := 10) sp_X5_isPerson (ci := 5) (C := RX5) rfl (by decide) ⟨bw_128, bm_X5_isPerson⟩ (by decide) ⟨rfl, rfl, Nat.le_of_ble_eq_true rfl, Nat.le_of_ble_eq_true rfl⟩ dX5_screens_10, ?_⟩
  refine List.forall_mem_cons.mpr ⟨ok_if_eq (pc := 13) (tgt := 21) dX5_screens_13 (by decide), ?_⟩
  refine List.forall_mem_cons.mpr ⟨ok_iload_n (pc := 16) dX5_screens_16 rfl, ?_⟩
  refine List.forall_mem_cons.mpr ⟨ok_iload_n (pc := 17) dX5_screens_17 rfl, ?_⟩
  refine List.forall_mem_cons.mpr ⟨ok_icmp_ne (pc := 18) (tgt := 24) dX5_screens_18 (by decide), ?_⟩
  refine List.forall_mem_cons.mpr ⟨ok_bipush (pc := 21) dX5_screens_21 (by decide), ?_⟩
  refine List.forall_mem_cons.mpr ⟨ok_iret (pc := 23) dX5_screens_23, ?_⟩
  refine List.forall_mem_cons.mpr ⟨ok_iload_n (pc := 24) dX5_screens_24 rfl, ?_⟩
  refine List.forall_mem_cons.mpr ⟨ok_i2l (pc := 25) dX5_screens_25, ?_⟩
  refine List.forall_mem_cons.mpr ⟨ok_lconst (pc := 26) dX5_screens_26 (by decide), ?_⟩
  refine List.forall_mem_cons.mpr ⟨ok_lconst (pc := 27) dX5_screens_27 (by decide), ?_⟩
  refine List.forall_mem_cons.mpr ⟨ok_callS (pc := 28) sp_X5_in ⟨bw_101, bs_X5_in⟩ (by decide) ⟨rfl, rfl, Nat.le_of_ble_eq_true rfl, Nat.le_of_ble_eq_true rfl⟩ dX5_screens_28, ?_⟩
  refine List.forall_mem_cons.mpr ⟨ok_if_ne (pc := 31) (tgt := 37) dX5_screens_31 (by decide), ?_⟩
  refine List.forall_mem_cons.mpr ⟨ok_bipush (pc := 34) dX5_screens_34 (by decide), ?_⟩
  refine List.forall_mem_cons.mpr ⟨ok_iret (pc := 36) dX5_screens_36, ?_⟩
  refine List.forall_mem_cons.mpr ⟨ok_aload_n (pc := 37) dX5_screens_37 rfl, ?_⟩
  refine List.forall_mem_cons.mpr ⟨ok_getf (pc := 38) (k := 11) (C := RX5) (T := TX5) (N := 24) rfl (by decide) hin_X5 (by decide) hsz_X5 bw_136 dX5_screens_38, ?_⟩
  refine List.forall_mem_cons.mpr ⟨ok_bipush (pc := 41) dX5_screens_41 (by decide), ?_⟩
  refine List.forall_mem_cons.mpr ⟨ok_icmp_ne (pc := 43) (tgt := 49) dX5_screens_43 (by decide), ?_⟩
  refine List.forall_mem_cons.mpr ⟨ok_bipush (pc := 46) dX5_screens_46 (by decide), ?_⟩
  refine List.forall_mem_cons.mpr ⟨ok_iret (pc := 48) dX5_screens_48, ?_⟩
  refine List.forall_mem_cons.mpr ⟨ok_aload_n (pc := 49) dX5_screens_49 rfl, ?_⟩
  refine List.forall_mem_cons.mpr ⟨ok_dup (pc := 50) dX5_screens_50, ?_⟩
  refine List.forall_mem_cons.mpr ⟨ok_getf (pc := 51) (k := 11) (C := RX5) (T := TX5) (N := 24) rfl (by decide) hin_X5 (by decide) hsz_X5 bw_136 dX5_screens_51, ?_⟩
  refine List.forall_mem_cons.mpr ⟨ok_iconst (pc := 54) dX5_screens_54 (by decide), ?_⟩
  refine List.forall_mem_cons.mpr ⟨ok_iadd (pc := 55) dX5_screens_55, ?_⟩
  refine List.forall_mem_cons.mpr ⟨ok_putf (pc := 56) (k := 11) (C := RX5) (T := TX5) (N := 24) tyX5 tyX5_ok nmX5 rfl (by decide) hin_X5 (by decide) hsz_X5 hkt_X5_11 rfl bw_136 dX5_screens_56, ?_⟩
  refine List.forall_mem_cons.mpr ⟨ok_aload_n (pc := 59) dX5_screens_59 rfl, ?_⟩
  refine List.forall_mem_cons.mpr ⟨ok_iload_n (pc := 60) dX5_screens_60 rfl, ?_⟩
  refine List.forall_mem_cons.mpr ⟨ok_iload_n (pc := 61) dX5_screens_61 rfl, ?_⟩
  refine List.forall_mem_cons.mpr ⟨ok_callV (pc := 62) sp_X5_screensOf (ci := 5) (C := RX5) rfl (by decide) ⟨bw_137, bm_X5_screensOf⟩ (by decide) ⟨rfl, rfl, Nat.le_of_ble_eq_true rfl, Nat.le_of_ble_eq_true rfl⟩ dX5_screens_62, ?_⟩
  refine List.forall_mem_cons.mpr ⟨ok_istore (pc := 65) dX5_screens_65, ?_⟩
  refine List.forall_mem_cons.mpr ⟨ok_iload (pc := 67) dX5_screens_67, ?_⟩
  refine List.forall_mem_cons.mpr ⟨ok_iconst (pc := 69) dX5_screens_69 (by decide), ?_⟩
  refine List.forall_mem_cons.mpr ⟨ok_icmp_eq (pc := 70) (tgt := 78) dX5_screens_70 (by decide), ?_⟩
  refine List.forall_mem_cons.mpr ⟨ok_iload_n (pc := 73) dX5_screens_73 rfl, ?_⟩
  refine List.forall_mem_cons.mpr ⟨ok_iconst (pc := 74) dX5_screens_74 (by decide), ?_⟩
  refine List.forall_mem_cons.mpr ⟨ok_icmp_ne (pc := 75) (tgt := 83) dX5_screens_75 (by decide), ?_⟩
  refine List.forall_mem_cons.mpr ⟨ok_iload (pc := 78) dX5_screens_78, ?_⟩
  refine List.forall_mem_cons.mpr ⟨ok_goto (pc := 80) (tgt := 88) dX5_screens_80 (by decide), ?_⟩
  refine List.forall_mem_cons.mpr ⟨ok_iload (pc := 83) dX5_screens_83, ?_⟩
  refine List.forall_mem_cons.mpr ⟨ok_callS (pc := 85) sp_X5_ones ⟨bw_121, bs_X5_ones⟩ (by decide) ⟨rfl, rfl, Nat.le_of_ble_eq_true rfl, Nat.le_of_ble_eq_true rfl⟩ dX5_screens_85, ?_⟩
  refine List.forall_mem_cons.mpr ⟨ok_iret (pc := 88) dX5_screens_88, ?_⟩
  exact fun _ h => absurd h List.not_mem_nil
abbrev k_X5_standOf : List (Nat × mm_T) := [(0, o_ald 0 1), (1, o_getf 5 9 4), (4, o_ic 3 5), (5, o_ild 1 6), (6, o_imul 7), (7, o_ic 1 8), (8, o_iadd 9), (9, o_iald 10), (10, o_ist 3 11), (11, o_ald 0 12), (12, o_getf 5 9 15), (15, o_ic 3 16), (16, o_ild 2 17), (17, o_imul 18), (18, o_ic 1 19), (19, o_iadd 20), (20, o_iald 21), (21, o_ist 4 23), (23, o_ic (-1) 24), (24, o_ist 5 26), (26, o_ic 1 27), (27, o_ild 1 28), (28, o_ishl 29), (29, o_ic 1 30), (30, o_ild 2 31), (31, o_ishl 32), (32, o_ior 33), (33, o_ist 6 35), (35, o_ic 63 37), (37, o_ist 7 39), (39, o_ild 7 41), (41, o_if_lt 129 44), (44, o_ald 0 45), (45, o_getf 5 9 48), (48, o_ic 3 49), (49, o_ild 1 50), (50, o_imul 51), (51, o_ic 1 52), (52, o_iadd 53), (53, o_ild 7 55), (55, o_ic 8 57), (57, o_idiv 58), (58, o_iast 59), (59, o_ald 0 60), (60, o_getf 5 9 63), (63, o_ic 3 64), (64, o_ild 2 65), (65, o_imul 66), (66, o_ic 1 67), (67, o_iadd 68), (68, o_ild 7 70), (70, o_ic 8 72), (72, o_irem 73), (73, o_iast 74), (74, o_ald 0 75), (75, o_ild 1 76), (76, o_ald 0 77), (77, o_getf 5 3 80), (80, o_callV 5 m_X5_hearers 5 2 83), (83, o_ild 6 85), (85, o_ic_ne 106 88), (88, o_ald 0 89), (89, o_ild 2 90), (90, o_ald 0 91), (91, o_getf 5 3 94), (94, o_callV 5 m_X5_hearers 5 2 97), (97, o_ild 6 99), (99, o_ic_ne 106 102), (102, o_ic 1 103), (103, o_goto 107), (106, o_ic 0 107), (107, o_ist 8 109), (109, o_ild 8 111), (111, o_if_eq 119 114), (114, o_ild 7 116), (116, o_goto 121), (119, o_ild 5 121), (121, o_ist 5 123), (123, o_iinc 7 (-1) 126), (126, o_goto 39), (129, o_ald 0 130), (130, o_getf 5 9 133), (133, o_ic 3 134), (134, o_ild 1 135), (135, o_imul 136), (136, o_ic 1 137), (137, o_iadd 138), (138, o_ild 3 139), (139, o_iast 140), (140, o_ald 0 141), (141, o_getf 5 9 144), (144, o_ic 3 145), (145, o_ild 2 146), (146, o_imul 147), (147, o_ic 1 148), (148, o_iadd 149), (149, o_ild 4 151), (151, o_iast 152), (152, o_ild 5 154), (154, o_iret)]
def m_X5_standOf : Nat → mm_T := mm_look k_X5_standOf
set_option maxRecDepth 20000 in
theorem sp_X5_standOf : mm_Sp yX5_standOf cX5_standOf 9 (some .int) { frames := 4, cells := 0, slots := 0, locals := 98 } m_X5_standOf := by
  refine mm_sound (own := RX5) (code := k_X5_standOf) (by decide) rfl ?_
  refine List.forall_mem_cons.mpr ⟨ok_aload_n (pc := 0) dX5_standOf_0 rfl, ?_⟩
  refine List.forall_mem_cons.mpr ⟨ok_getf (pc := 1) (k := 9) (C := RX5) (T := TX5) (N := 24) rfl (by decide) hin_X5 (by decide) hsz_X5 bw_119 dX5_standOf_1, ?_⟩
  refine List.forall_mem_cons.mpr ⟨ok_iconst (pc := 4) dX5_standOf_4 (by decide), ?_⟩
  refine List.forall_mem_cons.mpr ⟨ok_iload_n (pc := 5) dX5_standOf_5 rfl, ?_⟩
  refine List.forall_mem_cons.mpr ⟨ok_imul (pc := 6) dX5_standOf_6, ?_⟩
  refine List.forall_mem_cons.mpr ⟨ok_iconst (pc := 7) dX5_standOf_7 (by decide), ?_⟩
  refine List.forall_mem_cons.mpr ⟨ok_iadd (pc := 8) dX5_standOf_8, ?_⟩
  refine List.forall_mem_cons.mpr ⟨ok_iald (pc := 9) dX5_standOf_9, ?_⟩
  refine List.forall_mem_cons.mpr ⟨ok_istore_n (pc := 10) dX5_standOf_10 rfl, ?_⟩
  refine List.forall_mem_cons.mpr ⟨ok_aload_n (pc := 11) dX5_standOf_11 rfl, ?_⟩
  refine List.forall_mem_cons.mpr ⟨ok_getf (pc := 12) (k := 9) (C := RX5) (T := TX5) (N := 24) rfl (by decide) hin_X5 (by decide) hsz_X5 bw_119 dX5_standOf_12, ?_⟩
  refine List.forall_mem_cons.mpr ⟨ok_iconst (pc := 15) dX5_standOf_15 (by decide), ?_⟩
  refine List.forall_mem_cons.mpr ⟨ok_iload_n (pc := 16) dX5_standOf_16 rfl, ?_⟩
  refine List.forall_mem_cons.mpr ⟨ok_imul (pc := 17) dX5_standOf_17, ?_⟩
  refine List.forall_mem_cons.mpr ⟨ok_iconst (pc := 18) dX5_standOf_18 (by decide), ?_⟩
  refine List.forall_mem_cons.mpr ⟨ok_iadd (pc := 19) dX5_standOf_19, ?_⟩
  refine List.forall_mem_cons.mpr ⟨ok_iald (pc := 20) dX5_standOf_20, ?_⟩
  refine List.forall_mem_cons.mpr ⟨ok_istore (pc := 21) dX5_standOf_21, ?_⟩
  refine List.forall_mem_cons.mpr ⟨ok_iconst (pc := 23) dX5_standOf_23 (by decide), ?_⟩
  refine List.forall_mem_cons.mpr ⟨ok_istore (pc := 24) dX5_standOf_24, ?_⟩
  refine List.forall_mem_cons.mpr ⟨ok_iconst (pc := 26) dX5_standOf_26 (by decide), ?_⟩
  refine List.forall_mem_cons.mpr ⟨ok_iload_n (pc := 27) dX5_standOf_27 rfl, ?_⟩
  refine List.forall_mem_cons.mpr ⟨ok_ishl (pc := 28) dX5_standOf_28, ?_⟩
  refine List.forall_mem_cons.mpr ⟨ok_iconst (pc := 29) dX5_standOf_29 (by decide), ?_⟩
  refine List.forall_mem_cons.mpr ⟨ok_iload_n (pc := 30) dX5_standOf_30 rfl, ?_⟩
  refine List.forall_mem_cons.mpr ⟨ok_ishl (pc := 31) dX5_standOf_31, ?_⟩
  refine List.forall_mem_cons.mpr ⟨ok_ior (pc := 32) dX5_standOf_32, ?_⟩
  refine List.forall_mem_cons.mpr ⟨ok_istore (pc := 33) dX5_standOf_33, ?_⟩
  refine List.forall_mem_cons.mpr ⟨ok_bipush (pc := 35) dX5_standOf_35 (by decide), ?_⟩
  refine List.forall_mem_cons.mpr ⟨ok_istore (pc := 37) dX5_standOf_37, ?_⟩
  refine List.forall_mem_cons.mpr ⟨ok_iload (pc := 39) dX5_standOf_39, ?_⟩
  refine List.forall_mem_cons.mpr ⟨ok_if_lt (pc := 41) (tgt := 129) dX5_standOf_41 (by decide), ?_⟩
  refine List.forall_mem_cons.mpr ⟨ok_aload_n (pc := 44) dX5_standOf_44 rfl, ?_⟩
  refine List.forall_mem_cons.mpr ⟨ok_getf (pc := 45) (k := 9) (C := RX5) (T := TX5) (N := 24) rfl (by decide) hin_X5 (by decide) hsz_X5 bw_119 dX5_standOf_45, ?_⟩
  refine List.forall_mem_cons.mpr ⟨ok_iconst (pc := 48) dX5_standOf_48 (by decide), ?_⟩
  refine List.forall_mem_cons.mpr ⟨ok_iload_n (pc := 49) dX5_standOf_49 rfl, ?_⟩
  refine List.forall_mem_cons.mpr ⟨ok_imul (pc := 50) dX5_standOf_50, ?_⟩
  refine List.forall_mem_cons.mpr ⟨ok_iconst (pc := 51) dX5_standOf_51 (by decide), ?_⟩
  refine List.forall_mem_cons.mpr ⟨ok_iadd (pc := 52) dX5_standOf_52, ?_⟩
  refine List.forall_mem_cons.mpr ⟨ok_iload (pc := 53) dX5_standOf_53, ?_⟩
  refine List.forall_mem_cons.mpr ⟨ok_bipush (pc := 55) dX5_standOf_55 (by decide), ?_⟩
  refine List.forall_mem_cons.mpr ⟨ok_idiv (pc := 57) dX5_standOf_57, ?_⟩
  refine List.forall_mem_cons.mpr ⟨ok_iast (pc := 58) dX5_standOf_58, ?_⟩
  refine List.forall_mem_cons.mpr ⟨ok_aload_n (pc := 59) dX5_standOf_59 rfl, ?_⟩
  refine List.forall_mem_cons.mpr ⟨ok_getf (pc := 60) (k := 9) (C := RX5) (T := TX5) (N := 24) rfl (by decide) hin_X5 (by decide) hsz_X5 bw_119 dX5_standOf_60, ?_⟩
  refine List.forall_mem_cons.mpr ⟨ok_iconst (pc := 63) dX5_standOf_63 (by decide), ?_⟩
  refine List.forall_mem_cons.mpr ⟨ok_iload_n (pc := 64) dX5_standOf_64 rfl, ?_⟩
  refine List.forall_mem_cons.mpr ⟨ok_imul (pc := 65) dX5_standOf_65, ?_⟩
  refine List.forall_mem_cons.mpr ⟨ok_iconst (pc := 66) dX5_standOf_66 (by decide), ?_⟩
  refine List.forall_mem_cons.mpr ⟨ok_iadd (pc := 67) dX5_standOf_67, ?_⟩
  refine List.forall_mem_cons.mpr ⟨ok_iload (pc := 68) dX5_standOf_68, ?_⟩
  refine List.forall_mem_cons.mpr ⟨ok_bipush (pc := 70) dX5_standOf_70 (by decide), ?_⟩
  refine List.forall_mem_cons.mpr ⟨ok_irem (pc := 72) dX5_standOf_72, ?_⟩
  refine List.forall_mem_cons.mpr ⟨ok_iast (pc := 73) dX5_standOf_73, ?_⟩
  refine List.forall_mem_cons.mpr ⟨ok_aload_n (pc := 74) dX5_standOf_74 rfl, ?_⟩
  refine List.forall_mem_cons.mpr ⟨ok_iload_n (pc := 75) dX5_standOf_75 rfl, ?_⟩
  refine List.forall_mem_cons.mpr ⟨ok_aload_n (pc := 76) dX5_standOf_76 rfl, ?_⟩
  refine List.forall_mem_cons.mpr ⟨ok_getf (pc := 77) (k := 3) (C := RX5) (T := TX5) (N := 24) rfl (by decide) hin_X5 (by decide) hsz_X5 bw_113 dX5_standOf_77, ?_⟩
  refine List.forall_mem_cons.mpr ⟨ok_callV (pc := 80) sp_X5_hearers (ci := 5) (C := RX5) rfl (by decide) ⟨bw_131, bm_X5_hearers⟩ (by decide) ⟨rfl, rfl, Nat.le_of_ble_eq_true rfl, Nat.le_of_ble_eq_true rfl⟩ dX5_standOf_80, ?_⟩
  refine List.forall_mem_cons.mpr ⟨ok_iload (pc := 83) dX5_standOf_83, ?_⟩
  refine List.forall_mem_cons.mpr ⟨ok_icmp_ne (pc := 85) (tgt := 106) dX5_standOf_85 (by decide), ?_⟩
  refine List.forall_mem_cons.mpr ⟨ok_aload_n (pc := 88) dX5_standOf_88 rfl, ?_⟩
  refine List.forall_mem_cons.mpr ⟨ok_iload_n (pc := 89) dX5_standOf_89 rfl, ?_⟩
  refine List.forall_mem_cons.mpr ⟨ok_aload_n (pc := 90) dX5_standOf_90 rfl, ?_⟩
  refine List.forall_mem_cons.mpr ⟨ok_getf (pc := 91) (k := 3) (C := RX5) (T := TX5) (N := 24) rfl (by decide) hin_X5 (by decide) hsz_X5 bw_113 dX5_standOf_91, ?_⟩
  refine List.forall_mem_cons.mpr ⟨ok_callV (pc := 94) sp_X5_hearers (ci := 5) (C := RX5) rfl (by decide) ⟨bw_131, bm_X5_hearers⟩ (by decide) ⟨rfl, rfl, Nat.le_of_ble_eq_true rfl, Nat.le_of_ble_eq_true rfl⟩ dX5_standOf_94, ?_⟩
  refine List.forall_mem_cons.mpr ⟨ok_iload (pc := 97) dX5_standOf_97, ?_⟩
  refine List.forall_mem_cons.mpr ⟨ok_icmp_ne (pc := 99) (tgt := 106) dX5_standOf_99 (by decide), ?_⟩
  refine List.forall_mem_cons.mpr ⟨ok_iconst (pc := 102) dX5_standOf_102 (by decide), ?_⟩
  refine List.forall_mem_cons.mpr ⟨ok_goto (pc := 103) (tgt := 107) dX5_standOf_103 (by decide), ?_⟩
  refine List.forall_mem_cons.mpr ⟨ok_iconst (pc := 106) dX5_standOf_106 (by decide), ?_⟩
  refine List.forall_mem_cons.mpr ⟨ok_istore (pc := 107) dX5_standOf_107, ?_⟩
  refine List.forall_mem_cons.mpr ⟨ok_iload (pc := 109) dX5_standOf_109, ?_⟩
  refine List.forall_mem_cons.mpr ⟨ok_if_eq (pc := 111) (tgt := 119) dX5_standOf_111 (by decide), ?_⟩
  refine List.forall_mem_cons.mpr ⟨ok_iload (pc := 114) dX5_standOf_114, ?_⟩
  refine List.forall_mem_cons.mpr ⟨ok_goto (pc := 116) (tgt := 121) dX5_standOf_116 (by decide), ?_⟩
  refine List.forall_mem_cons.mpr ⟨ok_iload (pc := 119) dX5_standOf_119, ?_⟩
  refine List.forall_mem_cons.mpr ⟨ok_istore (pc := 121) dX5_standOf_121, ?_⟩
  refine List.forall_mem_cons.mpr ⟨ok_iinc (pc := 123) dX5_standOf_123 (by decide), ?_⟩
  refine List.forall_mem_cons.mpr ⟨ok_goto (pc := 126) (tgt := 39) dX5_standOf_126 (by decide), ?_⟩
  refine List.forall_mem_cons.mpr ⟨ok_aload_n (pc := 129) dX5_standOf_129 rfl, ?_⟩
  refine List.forall_mem_cons.mpr ⟨ok_getf (pc := 130) (k := 9) (C := RX5) (T := TX5) (N := 24) rfl (by decide) hin_X5 (by decide) hsz_X5 bw_119 dX5_standOf_130, ?_⟩
  refine List.forall_mem_cons.mpr ⟨ok_iconst (pc := 133) dX5_standOf_133 (by decide), ?_⟩
  refine List.forall_mem_cons.mpr ⟨ok_iload_n (pc := 134) dX5_standOf_134 rfl, ?_⟩
  refine List.forall_mem_cons.mpr ⟨ok_imul (pc := 135) dX5_standOf_135, ?_⟩
  refine List.forall_mem_cons.mpr ⟨ok_iconst (pc := 136) dX5_standOf_136 (by decide), ?_⟩
  refine List.forall_mem_cons.mpr ⟨ok_iadd (pc := 137) dX5_standOf_137, ?_⟩
  refine List.forall_mem_cons.mpr ⟨ok_iload_n (pc := 138) dX5_standOf_138 rfl, ?_⟩
  refine List.forall_mem_cons.mpr ⟨ok_iast (pc := 139) dX5_standOf_139, ?_⟩
  refine List.forall_mem_cons.mpr ⟨ok_aload_n (pc := 140) dX5_standOf_140 rfl, ?_⟩
  refine List.forall_mem_cons.mpr ⟨ok_getf (pc := 141) (k := 9) (C := RX5) (T := TX5) (N := 24) rfl (by decide) hin_X5 (by decide) hsz_X5 bw_119 dX5_standOf_141, ?_⟩
  refine List.forall_mem_cons.mpr ⟨ok_iconst (pc := 144) dX5_standOf_144 (by decide), ?_⟩
  refine List.forall_mem_cons.mpr ⟨ok_iload_n (pc := 145) dX5_standOf_145 rfl, ?_⟩
  refine List.forall_mem_cons.mpr ⟨ok_imul (pc := 146) dX5_standOf_146, ?_⟩
  refine List.forall_mem_cons.mpr ⟨ok_iconst (pc := 147) dX5_standOf_147 (by decide), ?_⟩
  refine List.forall_mem_cons.mpr ⟨ok_iadd (pc := 148) dX5_standOf_148, ?_⟩
  refine List.forall_mem_cons.mpr ⟨ok_iload (pc := 149) dX5_standOf_149, ?_⟩
  refine List.forall_mem_cons.mpr ⟨ok_iast (pc := 151) dX5_standOf_151, ?_⟩
  refine List.forall_mem_cons.mpr ⟨ok_iload (pc := 152) dX5_standOf_152, ?_⟩
  refine List.forall_mem_cons.mpr ⟨ok_iret (pc := 154) dX5_standOf_154, ?_⟩
  exact fun _ h => absurd h List.not_mem_nil
abbrev k_X5_stand : List (Nat × mm_T) := [(0, o_ald 0 1), (1, o_ild 1 2), (2, o_callV 5 m_X5_isPerson 2 1 5), (5, o_if_eq 30 8), (8, o_ald 0 9), (9, o_ild 2 10), (10, o_callV 5 m_X5_isPerson 2 1 13), (13, o_if_eq 30 16), (16, o_ild 1 17), (17, o_ild 2 18), (18, o_ic_eq 30 21), (21, o_ald 0 22), (22, o_ild 1 23), (23, o_ild 2 24), (24, o_callV 5 m_X5_standOf 9 2 27), (27, o_goto 32), (30, o_ic (-101) 32), (32, o_iret)]
def m_X5_stand : Nat → mm_T := mm_look k_X5_stand
set_option maxRecDepth 20000 in
theorem sp_X5_stand : mm_Sp yX5_stand cX5_stand 3 (some .int) { frames := 5, cells := 0, slots := 0, locals := 126 } m_X5_stand := by
  refine mm_sound (own := RX5) (code := k_X5_stand) (by decide) rfl ?_
  refine List.forall_mem_cons.mpr ⟨ok_aload_n (pc := 0) dX5_stand_0 rfl, ?_⟩
  refine List.forall_mem_cons.mpr ⟨ok_iload_n (pc := 1) dX5_stand_1 rfl, ?_⟩
  refine List.forall_mem_cons.mpr ⟨ok_callV (pc := 2) sp_X5_isPerson (ci := 5) (C := RX5) rfl (by decide) ⟨bw_128, bm_X5_isPerson⟩ (by decide) ⟨rfl, rfl, Nat.le_of_ble_eq_true rfl, Nat.le_of_ble_eq_true rfl⟩ dX5_stand_2, ?_⟩
  refine List.forall_mem_cons.mpr ⟨ok_if_eq (pc := 5) (tgt := 30) dX5_stand_5 (by decide), ?_⟩
  refine List.forall_mem_cons.mpr ⟨ok_aload_n (pc := 8) dX5_stand_8 rfl, ?_⟩
  refine List.forall_mem_cons.mpr ⟨ok_iload_n (pc := 9) dX5_stand_9 rfl, ?_⟩
  refine List.forall_mem_cons.mpr ⟨ok_callV (pc := 10) sp_X5_isPerson (ci := 5) (C := RX5) rfl (by decide) ⟨bw_128, bm_X5_isPerson⟩ (by decide) ⟨rfl, rfl, Nat.le_of_ble_eq_true rfl, Nat.le_of_ble_eq_true rfl⟩ dX5_stand_10, ?_⟩
  refine List.forall_mem_cons.mpr ⟨ok_if_eq (pc := 13) (tgt := 30) dX5_stand_13 (by decide), ?_⟩
  refine List.forall_mem_cons.mpr ⟨ok_iload_n (pc := 16) dX5_stand_16 rfl, ?_⟩
  refine List.forall_mem_cons.mpr ⟨ok_iload_n (pc := 17) dX5_stand_17 rfl, ?_⟩
  refine List.forall_mem_cons.mpr ⟨ok_icmp_eq (pc := 18) (tgt := 30) dX5_stand_18 (by decide), ?_⟩
  refine List.forall_mem_cons.mpr ⟨ok_aload_n (pc := 21) dX5_stand_21 rfl, ?_⟩
  refine List.forall_mem_cons.mpr ⟨ok_iload_n (pc := 22) dX5_stand_22 rfl, ?_⟩
  refine List.forall_mem_cons.mpr ⟨ok_iload_n (pc := 23) dX5_stand_23 rfl, ?_⟩
  refine List.forall_mem_cons.mpr ⟨ok_callV (pc := 24) sp_X5_standOf (ci := 5) (C := RX5) rfl (by decide) ⟨bw_138, bm_X5_standOf⟩ (by decide) ⟨rfl, rfl, Nat.le_of_ble_eq_true rfl, Nat.le_of_ble_eq_true rfl⟩ dX5_stand_24, ?_⟩
  refine List.forall_mem_cons.mpr ⟨ok_goto (pc := 27) (tgt := 32) dX5_stand_27 (by decide), ?_⟩
  refine List.forall_mem_cons.mpr ⟨ok_bipush (pc := 30) dX5_stand_30 (by decide), ?_⟩
  refine List.forall_mem_cons.mpr ⟨ok_iret (pc := 32) dX5_stand_32, ?_⟩
  exact fun _ h => absurd h List.not_mem_nil
abbrev k_X5_trial : List (Nat × mm_T) := [(0, o_ald 0 1), (1, o_ild 1 2), (2, o_callV 5 m_X5_isPerson 2 1 5), (5, o_if_ne 11 8), (8, o_ic (-101) 10), (10, o_iret), (11, o_ald 0 12), (12, o_getf 5 12 15), (15, o_ic 8 17), (17, o_ic_ne 23 20), (20, o_ic (-104) 22), (22, o_iret), (23, o_ald 0 24), (24, o_getf 5 13 27), (27, o_ic 2 28), (28, o_ald 0 29), (29, o_getf 5 12 32), (32, o_imul 33), (33, o_ild 1 34), (34, o_iast 35), (35, o_ald 0 36), (36, o_getf 5 13 39), (39, o_ic 2 40), (40, o_ald 0 41), (41, o_getf 5 12 44), (44, o_imul 45), (45, o_ic 1 46), (46, o_iadd 47), (47, o_ild 2 48), (48, o_if_eq 55 51), (51, o_ic 1 52), (52, o_goto 56), (55, o_ic 0 56), (56, o_iast 57), (57, o_ald 0 58), (58, o_dup 59), (59, o_getf 5 12 62), (62, o_ic 1 63), (63, o_iadd 64), (64, o_putf 5 12 67), (67, o_ald 0 68), (68, o_getf 5 12 71), (71, o_iret)]
def m_X5_trial : Nat → mm_T := mm_look k_X5_trial
set_option maxRecDepth 20000 in
theorem sp_X5_trial : mm_Sp yX5_trial cX5_trial 3 (some .int) { frames := 2, cells := 0, slots := 0, locals := 46 } m_X5_trial := by
  refine mm_sound (own := RX5) (code := k_X5_trial) (by decide) rfl ?_
  refine List.forall_mem_cons.mpr ⟨ok_aload_n (pc := 0) dX5_trial_0 rfl, ?_⟩
  refine List.forall_mem_cons.mpr ⟨ok_iload_n (pc := 1) dX5_trial_1 rfl, ?_⟩
  refine List.forall_mem_cons.mpr ⟨ok_callV (pc := 2) sp_X5_isPerson (ci := 5) (C := RX5) rfl (by decide) ⟨bw_128, bm_X5_isPerson⟩ (by decide) ⟨rfl, rfl, Nat.le_of_ble_eq_true rfl, Nat.le_of_ble_eq_true rfl⟩ dX5_trial_2, ?_⟩
  refine List.forall_mem_cons.mpr ⟨ok_if_ne (pc := 5) (tgt := 11) dX5_trial_5 (by decide), ?_⟩
  refine List.forall_mem_cons.mpr ⟨ok_bipush (pc := 8) dX5_trial_8 (by decide), ?_⟩
  refine List.forall_mem_cons.mpr ⟨ok_iret (pc := 10) dX5_trial_10, ?_⟩
  refine List.forall_mem_cons.mpr ⟨ok_aload_n (pc := 11) dX5_trial_11 rfl, ?_⟩
  refine List.forall_mem_cons.mpr ⟨ok_getf (pc := 12) (k := 12) (C := RX5) (T := TX5) (N := 24) rfl (by decide) hin_X5 (by decide) hsz_X5 bw_116 dX5_trial_12, ?_⟩
  refine List.forall_mem_cons.mpr ⟨ok_bipush (pc := 15) dX5_trial_15 (by decide), ?_⟩
  refine List.forall_mem_cons.mpr ⟨ok_icmp_ne (pc := 17) (tgt := 23) dX5_trial_17 (by decide), ?_⟩
  refine List.forall_mem_cons.mpr ⟨ok_bipush (pc := 20) dX5_trial_20 (by decide), ?_⟩
  refine List.forall_mem_cons.mpr ⟨ok_iret (pc := 22) dX5_trial_22, ?_⟩
  refine List.forall_mem_cons.mpr ⟨ok_aload_n (pc := 23) dX5_trial_23 rfl, ?_⟩
  refine List.forall_mem_cons.mpr ⟨ok_getf (pc := 24) (k := 13) (C := RX5) (T := TX5) (N := 24) rfl (by decide) hin_X5 (by decide) hsz_X5 bw_139 dX5_trial_24, ?_⟩
  refine List.forall_mem_cons.mpr ⟨ok_iconst (pc := 27) dX5_trial_27 (by decide), ?_⟩
  refine List.forall_mem_cons.mpr ⟨ok_aload_n (pc := 28) dX5_trial_28 rfl, ?_⟩
  refine List.forall_mem_cons.mpr ⟨ok_getf (pc := 29) (k := 12) (C := RX5) (T := TX5) (N := 24) rfl (by decide) hin_X5 (by decide) hsz_X5 bw_116 dX5_trial_29, ?_⟩
  refine List.forall_mem_cons.mpr ⟨ok_imul (pc := 32) dX5_trial_32, ?_⟩
  refine List.forall_mem_cons.mpr ⟨ok_iload_n (pc := 33) dX5_trial_33 rfl, ?_⟩
  refine List.forall_mem_cons.mpr ⟨ok_iast (pc := 34) dX5_trial_34, ?_⟩
  refine List.forall_mem_cons.mpr ⟨ok_aload_n (pc := 35) dX5_trial_35 rfl, ?_⟩
  refine List.forall_mem_cons.mpr ⟨ok_getf (pc := 36) (k := 13) (C := RX5) (T := TX5) (N := 24) rfl (by decide) hin_X5 (by decide) hsz_X5 bw_139 dX5_trial_36, ?_⟩
  refine List.forall_mem_cons.mpr ⟨ok_iconst (pc := 39) dX5_trial_39 (by decide), ?_⟩
  refine List.forall_mem_cons.mpr ⟨ok_aload_n (pc := 40) dX5_trial_40 rfl, ?_⟩
  refine List.forall_mem_cons.mpr ⟨ok_getf (pc := 41) (k := 12) (C := RX5) (T := TX5) (N := 24) rfl (by decide) hin_X5 (by decide) hsz_X5 bw_116 dX5_trial_41, ?_⟩
  refine List.forall_mem_cons.mpr ⟨ok_imul (pc := 44) dX5_trial_44, ?_⟩
  refine List.forall_mem_cons.mpr ⟨ok_iconst (pc := 45) dX5_trial_45 (by decide), ?_⟩
  refine List.forall_mem_cons.mpr ⟨ok_iadd (pc := 46) dX5_trial_46, ?_⟩
  refine List.forall_mem_cons.mpr ⟨ok_iload_n (pc := 47) dX5_trial_47 rfl, ?_⟩
  refine List.forall_mem_cons.mpr ⟨ok_if_eq (pc := 48) (tgt := 55) dX5_trial_48 (by decide), ?_⟩
  refine List.forall_mem_cons.mpr ⟨ok_iconst (pc := 51) dX5_trial_51 (by decide), ?_⟩
  refine List.forall_mem_cons.mpr ⟨ok_goto (pc := 52) (tgt := 56) dX5_trial_52 (by decide), ?_⟩
  refine List.forall_mem_cons.mpr ⟨ok_iconst (pc := 55) dX5_trial_55 (by decide), ?_⟩
  refine List.forall_mem_cons.mpr ⟨ok_iast (pc := 56) dX5_trial_56, ?_⟩
  refine List.forall_mem_cons.mpr ⟨ok_aload_n (pc := 57) dX5_trial_57 rfl, ?_⟩
  refine List.forall_mem_cons.mpr ⟨ok_dup (pc := 58) dX5_trial_58, ?_⟩
  refine List.forall_mem_cons.mpr ⟨ok_getf (pc := 59) (k := 12) (C := RX5) (T := TX5) (N := 24) rfl (by decide) hin_X5 (by decide) hsz_X5 bw_116 dX5_trial_59, ?_⟩
  refine List.forall_mem_cons.mpr ⟨ok_iconst (pc := 62) dX5_trial_62 (by decide), ?_⟩
  refine List.forall_mem_cons.mpr ⟨ok_iadd (pc := 63) dX5_trial_63, ?_⟩
  refine List.forall_mem_cons.mpr ⟨ok_putf (pc := 64) (k := 12) (C := RX5) (T := TX5) (N := 24) tyX5 tyX5_ok nmX5 rfl (by decide) hin_X5 (by decide) hsz_X5 hkt_X5_12 rfl bw_116 dX5_trial_64, ?_⟩
  refine List.forall_mem_cons.mpr ⟨ok_aload_n (pc := 67) dX5_trial_67 rfl, ?_⟩
  refine List.forall_mem_cons.mpr ⟨ok_getf (pc := 68) (k := 12) (C := RX5) (T := TX5) (N := 24) rfl (by decide) hin_X5 (by decide) hsz_X5 bw_116 dX5_trial_68, ?_⟩
  refine List.forall_mem_cons.mpr ⟨ok_iret (pc := 71) dX5_trial_71, ?_⟩
  exact fun _ h => absurd h List.not_mem_nil
abbrev k_X5_forget : List (Nat × mm_T) := [(0, o_ald 0 1), (1, o_getf 5 12 4), (4, o_ist 1 5), (5, o_ald 0 6), (6, o_ic 0 7), (7, o_putf 5 12 10), (10, o_ild 1 11), (11, o_iret)]
def m_X5_forget : Nat → mm_T := mm_look k_X5_forget
set_option maxRecDepth 20000 in
theorem sp_X5_forget : mm_Sp yX5_forget cX5_forget 2 (some .int) { frames := 0, cells := 0, slots := 0, locals := 0 } m_X5_forget := by
  refine mm_sound (own := RX5) (code := k_X5_forget) (by decide) rfl ?_
  refine List.forall_mem_cons.mpr ⟨ok_aload_n (pc := 0) dX5_forget_0 rfl, ?_⟩
  refine List.forall_mem_cons.mpr ⟨ok_getf (pc := 1) (k := 12) (C := RX5) (T := TX5) (N := 24) rfl (by decide) hin_X5 (by decide) hsz_X5 bw_116 dX5_forget_1, ?_⟩
  refine List.forall_mem_cons.mpr ⟨ok_istore_n (pc := 4) dX5_forget_4 rfl, ?_⟩
  refine List.forall_mem_cons.mpr ⟨ok_aload_n (pc := 5) dX5_forget_5 rfl, ?_⟩
  refine List.forall_mem_cons.mpr ⟨ok_iconst (pc := 6) dX5_forget_6 (by decide), ?_⟩
  refine List.forall_mem_cons.mpr ⟨ok_putf (pc := 7) (k := 12) (C := RX5) (T := TX5) (N := 24) tyX5 tyX5_ok nmX5 rfl (by decide) hin_X5 (by decide) hsz_X5 hkt_X5_12 rfl bw_116 dX5_forget_7, ?_⟩
  refine List.forall_mem_cons.mpr ⟨ok_iload_n (pc := 10) dX5_forget_10 rfl, ?_⟩
  refine List.forall_mem_cons.mpr ⟨ok_iret (pc := 11) dX5_forget_11, ?_⟩
  exact fun _ h => absurd h List.not_mem_nil
abbrev k_X5_whoBits : List (Nat × mm_T) := [(0, o_ic 0 1), (1, o_ist 1 2), (2, o_ic 0 3), (3, o_ist 2 4), (4, o_ild 2 5), (5, o_ald 0 6), (6, o_getf 5 8 9), (9, o_ic_ge 119 12), (12, o_ald 0 13), (13, o_ild 2 14), (14, o_ald 0 15), (15, o_getf 5 3 18), (18, o_callV 5 m_X5_hearers 5 2 21), (21, o_ist 3 22), (22, o_ald 0 23), (23, o_getf 5 9 26), (26, o_ic 3 27), (27, o_ild 2 28), (28, o_imul 29), (29, o_iald 30), (30, o_ic 3 31), (31, o_ic_eq 38 34), (34, o_ic 1 35), (35, o_goto 39), (38, o_ic 0 39), (39, o_ist 4 41), (41, o_ic 0 42), (42, o_ist 5 44), (44, o_ild 5 46), (46, o_ald 0 47), (47, o_getf 5 12 50), (50, o_ic_ge 98 53), (53, o_ild 4 55), (55, o_if_eq 89 58), (58, o_ild 3 59), (59, o_ald 0 60), (60, o_getf 5 13 63), (63, o_ic 2 64), (64, o_ild 5 66), (66, o_imul 67), (67, o_iald 68), (68, o_ishr 69), (69, o_ic 1 70), (70, o_iand 71), (71, o_ald 0 72), (72, o_getf 5 13 75), (75, o_ic 2 76), (76, o_ild 5 78), (78, o_imul 79), (79, o_ic 1 80), (80, o_iadd 81), (81, o_iald 82), (82, o_ic_ne 89 85), (85, o_ic 1 86), (86, o_goto 90), (89, o_ic 0 90), (90, o_ist 4 92), (92, o_iinc 5 1 95), (95, o_goto 44), (98, o_ild 1 99), (99, o_ild 4 101), (101, o_if_eq 110 104), (104, o_ic 1 105), (105, o_ild 2 106), (106, o_ishl 107), (107, o_goto 111), (110, o_ic 0 111), (111, o_ior 112), (112, o_ist 1 113), (113, o_iinc 2 1 116), (116, o_goto 4), (119, o_ild 1 120), (120, o_iret)]
def m_X5_whoBits : Nat → mm_T := mm_look k_X5_whoBits
set_option maxRecDepth 20000 in
theorem sp_X5_whoBits : mm_Sp yX5_whoBits cX5_whoBits 6 (some .int) { frames := 4, cells := 0, slots := 0, locals := 98 } m_X5_whoBits := by
  refine mm_sound (own := RX5) (code := k_X5_whoBits) (by decide) rfl ?_
  refine List.forall_mem_cons.mpr ⟨ok_iconst (pc := 0) dX5_whoBits_0 (by decide), ?_⟩
  refine List.forall_mem_cons.mpr ⟨ok_istore_n (pc := 1) dX5_whoBits_1 rfl, ?_⟩
  refine List.forall_mem_cons.mpr ⟨ok_iconst (pc := 2) dX5_whoBits_2 (by decide), ?_⟩
  refine List.forall_mem_cons.mpr ⟨ok_istore_n (pc := 3) dX5_whoBits_3 rfl, ?_⟩
  refine List.forall_mem_cons.mpr ⟨ok_iload_n (pc := 4) dX5_whoBits_4 rfl, ?_⟩
  refine List.forall_mem_cons.mpr ⟨ok_aload_n (pc := 5) dX5_whoBits_5 rfl, ?_⟩
  refine List.forall_mem_cons.mpr ⟨ok_getf (pc := 6) (k := 8) (C := RX5) (T := TX5) (N := 24) rfl (by decide) hin_X5 (by decide) hsz_X5 bw_115 dX5_whoBits_6, ?_⟩
  refine List.forall_mem_cons.mpr ⟨ok_icmp_ge (pc := 9) (tgt := 119) dX5_whoBits_9 (by decide), ?_⟩
  refine List.forall_mem_cons.mpr ⟨ok_aload_n (pc := 12) dX5_whoBits_12 rfl, ?_⟩
  refine List.forall_mem_cons.mpr ⟨ok_iload_n (pc := 13) dX5_whoBits_13 rfl, ?_⟩
  refine List.forall_mem_cons.mpr ⟨ok_aload_n (pc := 14) dX5_whoBits_14 rfl, ?_⟩
  refine List.forall_mem_cons.mpr ⟨ok_getf (pc := 15) (k := 3) (C := RX5) (T := TX5) (N := 24) rfl (by decide) hin_X5 (by decide) hsz_X5 bw_113 dX5_whoBits_15, ?_⟩
  refine List.forall_mem_cons.mpr ⟨ok_callV (pc := 18) sp_X5_hearers (ci := 5) (C := RX5) rfl (by decide) ⟨bw_131, bm_X5_hearers⟩ (by decide) ⟨rfl, rfl, Nat.le_of_ble_eq_true rfl, Nat.le_of_ble_eq_true rfl⟩ dX5_whoBits_18, ?_⟩
  refine List.forall_mem_cons.mpr ⟨ok_istore_n (pc := 21) dX5_whoBits_21 rfl, ?_⟩
  refine List.forall_mem_cons.mpr ⟨ok_aload_n (pc := 22) dX5_whoBits_22 rfl, ?_⟩
  refine List.forall_mem_cons.mpr ⟨ok_getf (pc := 23) (k := 9) (C := RX5) (T := TX5) (N := 24) rfl (by decide) hin_X5 (by decide) hsz_X5 bw_119 dX5_whoBits_23, ?_⟩
  refine List.forall_mem_cons.mpr ⟨ok_iconst (pc := 26) dX5_whoBits_26 (by decide), ?_⟩
  refine List.forall_mem_cons.mpr ⟨ok_iload_n (pc := 27) dX5_whoBits_27 rfl, ?_⟩
  refine List.forall_mem_cons.mpr ⟨ok_imul (pc := 28) dX5_whoBits_28, ?_⟩
  refine List.forall_mem_cons.mpr ⟨ok_iald (pc := 29) dX5_whoBits_29, ?_⟩
  refine List.forall_mem_cons.mpr ⟨ok_iconst (pc := 30) dX5_whoBits_30 (by decide), ?_⟩
  refine List.forall_mem_cons.mpr ⟨ok_icmp_eq (pc := 31) (tgt := 38) dX5_whoBits_31 (by decide), ?_⟩
  refine List.forall_mem_cons.mpr ⟨ok_iconst (pc := 34) dX5_whoBits_34 (by decide), ?_⟩
  refine List.forall_mem_cons.mpr ⟨ok_goto (pc := 35) (tgt := 39) dX5_whoBits_35 (by decide), ?_⟩
  refine List.forall_mem_cons.mpr ⟨ok_iconst (pc := 38) dX5_whoBits_38 (by decide), ?_⟩
  refine List.forall_mem_cons.mpr ⟨ok_istore (pc := 39) dX5_whoBits_39, ?_⟩
  refine List.forall_mem_cons.mpr ⟨ok_iconst (pc := 41) dX5_whoBits_41 (by decide), ?_⟩
  refine List.forall_mem_cons.mpr ⟨ok_istore (pc := 42) dX5_whoBits_42, ?_⟩
  refine List.forall_mem_cons.mpr ⟨ok_iload (pc := 44) dX5_whoBits_44, ?_⟩
  refine List.forall_mem_cons.mpr ⟨ok_aload_n (pc := 46) dX5_whoBits_46 rfl, ?_⟩
  refine List.forall_mem_cons.mpr ⟨ok_getf (pc := 47) (k := 12) (C := RX5) (T := TX5) (N := 24) rfl (by decide) hin_X5 (by decide) hsz_X5 bw_116 dX5_whoBits_47, ?_⟩
  refine List.forall_mem_cons.mpr ⟨ok_icmp_ge (pc := 50) (tgt := 98) dX5_whoBits_50 (by decide), ?_⟩
  refine List.forall_mem_cons.mpr ⟨ok_iload (pc := 53) dX5_whoBits_53, ?_⟩
  refine List.forall_mem_cons.mpr ⟨ok_if_eq (pc := 55) (tgt := 89) dX5_whoBits_55 (by decide), ?_⟩
  refine List.forall_mem_cons.mpr ⟨ok_iload_n (pc := 58) dX5_whoBits_58 rfl, ?_⟩
  refine List.forall_mem_cons.mpr ⟨ok_aload_n (pc := 59) dX5_whoBits_59 rfl, ?_⟩
  refine List.forall_mem_cons.mpr ⟨ok_getf (pc := 60) (k := 13) (C := RX5) (T := TX5) (N := 24) rfl (by decide) hin_X5 (by decide) hsz_X5 bw_139 dX5_whoBits_60, ?_⟩
  refine List.forall_mem_cons.mpr ⟨ok_iconst (pc := 63) dX5_whoBits_63 (by decide), ?_⟩
  refine List.forall_mem_cons.mpr ⟨ok_iload (pc := 64) dX5_whoBits_64, ?_⟩
  refine List.forall_mem_cons.mpr ⟨ok_imul (pc := 66) dX5_whoBits_66, ?_⟩
  refine List.forall_mem_cons.mpr ⟨ok_iald (pc := 67) dX5_whoBits_67, ?_⟩
  refine List.forall_mem_cons.mpr ⟨ok_ishr (pc := 68) dX5_whoBits_68, ?_⟩
  refine List.forall_mem_cons.mpr ⟨ok_iconst (pc := 69) dX5_whoBits_69 (by decide), ?_⟩
  refine List.forall_mem_cons.mpr ⟨ok_iand (pc := 70) dX5_whoBits_70, ?_⟩
  refine List.forall_mem_cons.mpr ⟨ok_aload_n (pc := 71) dX5_whoBits_71 rfl, ?_⟩
  refine List.forall_mem_cons.mpr ⟨ok_getf (pc := 72) (k := 13) (C := RX5) (T := TX5) (N := 24) rfl (by decide) hin_X5 (by decide) hsz_X5 bw_139 dX5_whoBits_72, ?_⟩
  refine List.forall_mem_cons.mpr ⟨ok_iconst (pc := 75) dX5_whoBits_75 (by decide), ?_⟩
  refine List.forall_mem_cons.mpr ⟨ok_iload (pc := 76) dX5_whoBits_76, ?_⟩
  refine List.forall_mem_cons.mpr ⟨ok_imul (pc := 78) dX5_whoBits_78, ?_⟩
  refine List.forall_mem_cons.mpr ⟨ok_iconst (pc := 79) dX5_whoBits_79 (by decide), ?_⟩
  refine List.forall_mem_cons.mpr ⟨ok_iadd (pc := 80) dX5_whoBits_80, ?_⟩
  refine List.forall_mem_cons.mpr ⟨ok_iald (pc := 81) dX5_whoBits_81, ?_⟩
  refine List.forall_mem_cons.mpr ⟨ok_icmp_ne (pc := 82) (tgt := 89) dX5_whoBits_82 (by decide), ?_⟩
  refine List.forall_mem_cons.mpr ⟨ok_iconst (pc := 85) dX5_whoBits_85 (by decide), ?_⟩
  refine List.forall_mem_cons.mpr ⟨ok_goto (pc := 86) (tgt := 90) dX5_whoBits_86 (by decide), ?_⟩
  refine List.forall_mem_cons.mpr ⟨ok_iconst (pc := 89) dX5_whoBits_89 (by decide), ?_⟩
  refine List.forall_mem_cons.mpr ⟨ok_istore (pc := 90) dX5_whoBits_90, ?_⟩
  refine List.forall_mem_cons.mpr ⟨ok_iinc (pc := 92) dX5_whoBits_92 (by decide), ?_⟩
  refine List.forall_mem_cons.mpr ⟨ok_goto (pc := 95) (tgt := 44) dX5_whoBits_95 (by decide), ?_⟩
  refine List.forall_mem_cons.mpr ⟨ok_iload_n (pc := 98) dX5_whoBits_98 rfl, ?_⟩
  refine List.forall_mem_cons.mpr ⟨ok_iload (pc := 99) dX5_whoBits_99, ?_⟩
  refine List.forall_mem_cons.mpr ⟨ok_if_eq (pc := 101) (tgt := 110) dX5_whoBits_101 (by decide), ?_⟩
  refine List.forall_mem_cons.mpr ⟨ok_iconst (pc := 104) dX5_whoBits_104 (by decide), ?_⟩
  refine List.forall_mem_cons.mpr ⟨ok_iload_n (pc := 105) dX5_whoBits_105 rfl, ?_⟩
  refine List.forall_mem_cons.mpr ⟨ok_ishl (pc := 106) dX5_whoBits_106, ?_⟩
  refine List.forall_mem_cons.mpr ⟨ok_goto (pc := 107) (tgt := 111) dX5_whoBits_107 (by decide), ?_⟩
  refine List.forall_mem_cons.mpr ⟨ok_iconst (pc := 110) dX5_whoBits_110 (by decide), ?_⟩
  refine List.forall_mem_cons.mpr ⟨ok_ior (pc := 111) dX5_whoBits_111, ?_⟩
  refine List.forall_mem_cons.mpr ⟨ok_istore_n (pc := 112) dX5_whoBits_112 rfl, ?_⟩
  refine List.forall_mem_cons.mpr ⟨ok_iinc (pc := 113) dX5_whoBits_113 (by decide), ?_⟩
  refine List.forall_mem_cons.mpr ⟨ok_goto (pc := 116) (tgt := 4) dX5_whoBits_116 (by decide), ?_⟩
  refine List.forall_mem_cons.mpr ⟨ok_iload_n (pc := 119) dX5_whoBits_119 rfl, ?_⟩
  refine List.forall_mem_cons.mpr ⟨ok_iret (pc := 120) dX5_whoBits_120, ?_⟩
  exact fun _ h => absurd h List.not_mem_nil
abbrev k_X5_who : List (Nat × mm_T) := [(0, o_ald 0 1), (1, o_getf 5 2 4), (4, o_if_eq 14 7), (7, o_ald 0 8), (8, o_callV 5 m_X5_whoBits 6 0 11), (11, o_goto 16), (14, o_ic (-103) 16), (16, o_iret)]
def m_X5_who : Nat → mm_T := mm_look k_X5_who
set_option maxRecDepth 20000 in
theorem sp_X5_who : mm_Sp yX5_who cX5_who 1 (some .int) { frames := 5, cells := 0, slots := 0, locals := 123 } m_X5_who := by
  refine mm_sound (own := RX5) (code := k_X5_who) (by decide) rfl ?_
  refine List.forall_mem_cons.mpr ⟨ok_aload_n (pc := 0) dX5_who_0 rfl, ?_⟩
  refine List.forall_mem_cons.mpr ⟨ok_getf (pc := 1) (k := 2) (C := RX5) (T := TX5) (N := 24) rfl (by decide) hin_X5 (by decide) hsz_X5 bw_112 dX5_who_1, ?_⟩
  refine List.forall_mem_cons.mpr ⟨ok_if_eq (pc := 4) (tgt := 14) dX5_who_4 (by decide), ?_⟩
  refine List.forall_mem_cons.mpr ⟨ok_aload_n (pc := 7) dX5_who_7 rfl, ?_⟩
  refine List.forall_mem_cons.mpr ⟨ok_callV (pc := 8) sp_X5_whoBits (ci := 5) (C := RX5) rfl (by decide) ⟨bw_140, bm_X5_whoBits⟩ (by decide) ⟨rfl, rfl, Nat.le_of_ble_eq_true rfl, Nat.le_of_ble_eq_true rfl⟩ dX5_who_8, ?_⟩
  refine List.forall_mem_cons.mpr ⟨ok_goto (pc := 11) (tgt := 16) dX5_who_11 (by decide), ?_⟩
  refine List.forall_mem_cons.mpr ⟨ok_bipush (pc := 14) dX5_who_14 (by decide), ?_⟩
  refine List.forall_mem_cons.mpr ⟨ok_iret (pc := 16) dX5_who_16, ?_⟩
  exact fun _ h => absurd h List.not_mem_nil
abbrev k_X5_askOf : List (Nat × mm_T) := [(0, o_ald 0 1), (1, o_callV 5 m_X5_whoBits 6 0 4), (4, o_ist 1 5), (5, o_ic (-1) 6), (6, o_ist 2 7), (7, o_ic 7 9), (9, o_ist 3 10), (10, o_ic 0 11), (11, o_ist 4 13), (13, o_ild 4 15), (15, o_ald 0 16), (16, o_getf 5 8 19), (19, o_ic_ge 155 22), (22, o_ild 1 23), (23, o_if_eq 155 26), (26, o_ic 0 27), (27, o_ist 5 29), (29, o_ic 0 30), (30, o_ist 6 32), (32, o_ild 6 34), (34, o_ald 0 35), (35, o_getf 5 8 38), (38, o_ic_ge 98 41), (41, o_ald 0 42), (42, o_ild 6 44), (44, o_ald 0 45), (45, o_getf 5 3 48), (48, o_callV 5 m_X5_hearers 5 2 51), (51, o_ild 4 53), (53, o_ishr 54), (54, o_ic 1 55), (55, o_iand 56), (56, o_ic 1 57), (57, o_ic_ne 64 60), (60, o_ic 1 61), (61, o_goto 65), (64, o_ic 0 65), (65, o_ist 7 67), (67, o_ild 5 69), (69, o_ild 1 70), (70, o_ild 6 72), (72, o_ishr 73), (73, o_ic 1 74), (74, o_iand 75), (75, o_ic 1 76), (76, o_ic_ne 88 79), (79, o_ild 7 81), (81, o_if_eq 88 84), (84, o_ic 1 85), (85, o_goto 89), (88, o_ic 0 89), (89, o_iadd 90), (90, o_ist 5 92), (92, o_iinc 6 1 95), (95, o_goto 32), (98, o_ild 1 99), (99, o_callS m_X5_ones 3 1 102), (102, o_ild 5 104), (104, o_isub 105), (105, o_ist 6 107), (107, o_ild 5 109), (109, o_ild 6 111), (111, o_ic_le 119 114), (114, o_ild 5 116), (116, o_goto 121), (119, o_ild 6 121), (121, o_ist 7 123), (123, o_ild 7 125), (125, o_ild 3 126), (126, o_ic_ge 134 129), (129, o_ild 4 131), (131, o_goto 135), (134, o_ild 2 135), (135, o_ist 2 136), (136, o_ild 7 138), (138, o_ild 3 139), (139, o_ic_ge 147 142), (142, o_ild 7 144), (144, o_goto 148), (147, o_ild 3 148), (148, o_ist 3 149), (149, o_iinc 4 1 152), (152, o_goto 13), (155, o_ild 2 156), (156, o_iret)]
def m_X5_askOf : Nat → mm_T := mm_look k_X5_askOf
set_option maxRecDepth 20000 in
theorem sp_X5_askOf : mm_Sp yX5_askOf cX5_askOf 8 (some .int) { frames := 5, cells := 0, slots := 0, locals := 123 } m_X5_askOf := by
  refine mm_sound (own := RX5) (code := k_X5_askOf) (by decide) rfl ?_
  refine List.forall_mem_cons.mpr ⟨ok_aload_n (pc := 0) dX5_askOf_0 rfl, ?_⟩
  refine List.forall_mem_cons.mpr ⟨ok_callV (pc := 1) sp_X5_whoBits (ci := 5) (C := RX5) rfl (by decide) ⟨bw_140, bm_X5_whoBits⟩ (by decide) ⟨rfl, rfl, Nat.le_of_ble_eq_true rfl, Nat.le_of_ble_eq_true rfl⟩ dX5_askOf_1, ?_⟩
  refine List.forall_mem_cons.mpr ⟨ok_istore_n (pc := 4) dX5_askOf_4 rfl, ?_⟩
  refine List.forall_mem_cons.mpr ⟨ok_iconst (pc := 5) dX5_askOf_5 (by decide), ?_⟩
  refine List.forall_mem_cons.mpr ⟨ok_istore_n (pc := 6) dX5_askOf_6 rfl, ?_⟩
  refine List.forall_mem_cons.mpr ⟨ok_bipush (pc := 7) dX5_askOf_7 (by decide), ?_⟩
  refine List.forall_mem_cons.mpr ⟨ok_istore_n (pc := 9) dX5_askOf_9 rfl, ?_⟩
  refine List.forall_mem_cons.mpr ⟨ok_iconst (pc := 10) dX5_askOf_10 (by decide), ?_⟩
  refine List.forall_mem_cons.mpr ⟨ok_istore (pc := 11) dX5_askOf_11, ?_⟩
  refine List.forall_mem_cons.mpr ⟨ok_iload (pc := 13) dX5_askOf_13, ?_⟩
  refine List.forall_mem_cons.mpr ⟨ok_aload_n (pc := 15) dX5_askOf_15 rfl, ?_⟩
  refine List.forall_mem_cons.mpr ⟨ok_getf (pc := 16) (k := 8) (C := RX5) (T := TX5) (N := 24) rfl (by decide) hin_X5 (by decide) hsz_X5 bw_115 dX5_askOf_16, ?_⟩
  refine List.forall_mem_cons.mpr ⟨ok_icmp_ge (pc := 19) (tgt := 155) dX5_askOf_19 (by decide), ?_⟩
  refine List.forall_mem_cons.mpr ⟨ok_iload_n (pc := 22) dX5_askOf_22 rfl, ?_⟩
  refine List.forall_mem_cons.mpr ⟨ok_if_eq (pc := 23) (tgt := 155) dX5_askOf_23 (by decide), ?_⟩
  refine List.forall_mem_cons.mpr ⟨ok_iconst (pc := 26) dX5_askOf_26 (by decide), ?_⟩
  refine List.forall_mem_cons.mpr ⟨ok_istore (pc := 27) dX5_askOf_27, ?_⟩
  refine List.forall_mem_cons.mpr ⟨ok_iconst (pc := 29) dX5_askOf_29 (by decide), ?_⟩
  refine List.forall_mem_cons.mpr ⟨ok_istore (pc := 30) dX5_askOf_30, ?_⟩
  refine List.forall_mem_cons.mpr ⟨ok_iload (pc := 32) dX5_askOf_32, ?_⟩
  refine List.forall_mem_cons.mpr ⟨ok_aload_n (pc := 34) dX5_askOf_34 rfl, ?_⟩
  refine List.forall_mem_cons.mpr ⟨ok_getf (pc := 35) (k := 8) (C := RX5) (T := TX5) (N := 24) rfl (by decide) hin_X5 (by decide) hsz_X5 bw_115 dX5_askOf_35, ?_⟩
  refine List.forall_mem_cons.mpr ⟨ok_icmp_ge (pc := 38) (tgt := 98) dX5_askOf_38 (by decide), ?_⟩
  refine List.forall_mem_cons.mpr ⟨ok_aload_n (pc := 41) dX5_askOf_41 rfl, ?_⟩
  refine List.forall_mem_cons.mpr ⟨ok_iload (pc := 42) dX5_askOf_42, ?_⟩
  refine List.forall_mem_cons.mpr ⟨ok_aload_n (pc := 44) dX5_askOf_44 rfl, ?_⟩
  refine List.forall_mem_cons.mpr ⟨ok_getf (pc := 45) (k := 3) (C := RX5) (T := TX5) (N := 24) rfl (by decide) hin_X5 (by decide) hsz_X5 bw_113 dX5_askOf_45, ?_⟩
  refine List.forall_mem_cons.mpr ⟨ok_callV (pc := 48) sp_X5_hearers (ci := 5) (C := RX5) rfl (by decide) ⟨bw_131, bm_X5_hearers⟩ (by decide) ⟨rfl, rfl, Nat.le_of_ble_eq_true rfl, Nat.le_of_ble_eq_true rfl⟩ dX5_askOf_48, ?_⟩
  refine List.forall_mem_cons.mpr ⟨ok_iload (pc := 51) dX5_askOf_51, ?_⟩
  refine List.forall_mem_cons.mpr ⟨ok_ishr (pc := 53) dX5_askOf_53, ?_⟩
  refine List.forall_mem_cons.mpr ⟨ok_iconst (pc := 54) dX5_askOf_54 (by decide), ?_⟩
  refine List.forall_mem_cons.mpr ⟨ok_iand (pc := 55) dX5_askOf_55, ?_⟩
  refine List.forall_mem_cons.mpr ⟨ok_iconst (pc := 56) dX5_askOf_56 (by decide), ?_⟩
  refine List.forall_mem_cons.mpr ⟨ok_icmp_ne (pc := 57) (tgt := 64) dX5_askOf_57 (by decide), ?_⟩
  refine List.forall_mem_cons.mpr ⟨ok_iconst (pc := 60) dX5_askOf_60 (by decide), ?_⟩
  refine List.forall_mem_cons.mpr ⟨ok_goto (pc := 61) (tgt := 65) dX5_askOf_61 (by decide), ?_⟩
  refine List.forall_mem_cons.mpr ⟨ok_iconst (pc := 64) dX5_askOf_64 (by decide), ?_⟩
  refine List.forall_mem_cons.mpr ⟨ok_istore (pc := 65) dX5_askOf_65, ?_⟩
  refine List.forall_mem_cons.mpr ⟨ok_iload (pc := 67) dX5_askOf_67, ?_⟩
  refine List.forall_mem_cons.mpr ⟨ok_iload_n (pc := 69) dX5_askOf_69 rfl, ?_⟩
  refine List.forall_mem_cons.mpr ⟨ok_iload (pc := 70) dX5_askOf_70, ?_⟩
  refine List.forall_mem_cons.mpr ⟨ok_ishr (pc := 72) dX5_askOf_72, ?_⟩
  refine List.forall_mem_cons.mpr ⟨ok_iconst (pc := 73) dX5_askOf_73 (by decide), ?_⟩
  refine List.forall_mem_cons.mpr ⟨ok_iand (pc := 74) dX5_askOf_74, ?_⟩
  refine List.forall_mem_cons.mpr ⟨ok_iconst (pc := 75) dX5_askOf_75 (by decide), ?_⟩
  refine List.forall_mem_cons.mpr ⟨ok_icmp_ne (pc := 76) (tgt := 88) dX5_askOf_76 (by decide), ?_⟩
  refine List.forall_mem_cons.mpr ⟨ok_iload (pc := 79) dX5_askOf_79, ?_⟩
  refine List.forall_mem_cons.mpr ⟨ok_if_eq (pc := 81) (tgt := 88) dX5_askOf_81 (by decide), ?_⟩
  refine List.forall_mem_cons.mpr ⟨ok_iconst (pc := 84) dX5_askOf_84 (by decide), ?_⟩
  refine List.forall_mem_cons.mpr ⟨ok_goto (pc := 85) (tgt := 89) dX5_askOf_85 (by decide), ?_⟩
  refine List.forall_mem_cons.mpr ⟨ok_iconst (pc := 88) dX5_askOf_88 (by decide), ?_⟩
  refine List.forall_mem_cons.mpr ⟨ok_iadd (pc := 89) dX5_askOf_89, ?_⟩
  refine List.forall_mem_cons.mpr ⟨ok_istore (pc := 90) dX5_askOf_90, ?_⟩
  refine List.forall_mem_cons.mpr ⟨ok_iinc (pc := 92) dX5_askOf_92 (by decide), ?_⟩
  refine List.forall_mem_cons.mpr ⟨ok_goto (pc := 95) (tgt := 32) dX5_askOf_95 (by decide), ?_⟩
  refine List.forall_mem_cons.mpr ⟨ok_iload_n (pc := 98) dX5_askOf_98 rfl, ?_⟩
  refine List.forall_mem_cons.mpr ⟨ok_callS (pc := 99) sp_X5_ones ⟨bw_121, bs_X5_ones⟩ (by decide) ⟨rfl, rfl, Nat.le_of_ble_eq_true rfl, Nat.le_of_ble_eq_true rfl⟩ dX5_askOf_99, ?_⟩
  refine List.forall_mem_cons.mpr ⟨ok_iload (pc := 102) dX5_askOf_102, ?_⟩
  refine List.forall_mem_cons.mpr ⟨ok_isub (pc := 104) dX5_askOf_104, ?_⟩
  refine List.forall_mem_cons.mpr ⟨ok_istore (pc := 105) dX5_askOf_105, ?_⟩
  refine List.forall_mem_cons.mpr ⟨ok_iload (pc := 107) dX5_askOf_107, ?_⟩
  refine List.forall_mem_cons.mpr ⟨ok_iload (pc := 109) dX5_askOf_109, ?_⟩
  refine List.forall_mem_cons.mpr ⟨ok_icmp_le (pc := 111) (tgt := 119) dX5_askOf_111 (by decide), ?_⟩
  refine List.forall_mem_cons.mpr ⟨ok_iload (pc := 114) dX5_askOf_114, ?_⟩
  refine List.forall_mem_cons.mpr ⟨ok_goto (pc := 116) (tgt := 121) dX5_askOf_116 (by decide), ?_⟩
  refine List.forall_mem_cons.mpr ⟨ok_iload (pc := 119) dX5_askOf_119, ?_⟩
  refine List.forall_mem_cons.mpr ⟨ok_istore (pc := 121) dX5_askOf_121, ?_⟩
  refine List.forall_mem_cons.mpr ⟨ok_iload (pc := 123) dX5_askOf_123, ?_⟩
  refine List.forall_mem_cons.mpr ⟨ok_iload_n (pc := 125) dX5_askOf_125 rfl, ?_⟩
  refine List.forall_mem_cons.mpr ⟨ok_icmp_ge (pc := 126) (tgt := 134) dX5_askOf_126 (by decide), ?_⟩
  refine List.forall_mem_cons.mpr ⟨ok_iload (pc := 129) dX5_askOf_129, ?_⟩
  refine List.forall_mem_cons.mpr ⟨ok_goto (pc := 131) (tgt := 135) dX5_askOf_131 (by decide), ?_⟩
  refine List.forall_mem_cons.mpr ⟨ok_iload_n (pc := 134) dX5_askOf_134 rfl, ?_⟩
  refine List.forall_mem_cons.mpr ⟨ok_istore_n (pc := 135) dX5_askOf_135 rfl, ?_⟩
  refine List.forall_mem_cons.mpr ⟨ok_iload (pc := 136) dX5_askOf_136, ?_⟩
  refine List.forall_mem_cons.mpr ⟨ok_iload_n (pc := 138) dX5_askOf_138 rfl, ?_⟩
  refine List.forall_mem_cons.mpr ⟨ok_icmp_ge (pc := 139) (tgt := 147) dX5_askOf_139 (by decide), ?_⟩
  refine List.forall_mem_cons.mpr ⟨ok_iload (pc := 142) dX5_askOf_142, ?_⟩
  refine List.forall_mem_cons.mpr ⟨ok_goto (pc := 144) (tgt := 148) dX5_askOf_144 (by decide), ?_⟩
  refine List.forall_mem_cons.mpr ⟨ok_iload_n (pc := 147) dX5_askOf_147 rfl, ?_⟩
  refine List.forall_mem_cons.mpr ⟨ok_istore_n (pc := 148) dX5_askOf_148 rfl, ?_⟩
  refine List.forall_mem_cons.mpr ⟨ok_iinc (pc := 149) dX5_askOf_149 (by decide), ?_⟩
  refine List.forall_mem_cons.mpr ⟨ok_goto (pc := 152) (tgt := 13) dX5_askOf_152 (by decide), ?_⟩
  refine List.forall_mem_cons.mpr ⟨ok_iload_n (pc := 155) dX5_askOf_155 rfl, ?_⟩
  refine List.forall_mem_cons.mpr ⟨ok_iret (pc := 156) dX5_askOf_156, ?_⟩
  exact fun _ h => absurd h List.not_mem_nil
abbrev k_X5_ask : List (Nat × mm_T) := [(0, o_ald 0 1), (1, o_getf 5 2 4), (4, o_if_eq 14 7), (7, o_ald 0 8), (8, o_callV 5 m_X5_askOf 8 0 11), (11, o_goto 16), (14, o_ic (-103) 16), (16, o_iret)]
def m_X5_ask : Nat → mm_T := mm_look k_X5_ask
set_option maxRecDepth 20000 in
theorem sp_X5_ask : mm_Sp yX5_ask cX5_ask 1 (some .int) { frames := 6, cells := 0, slots := 0, locals := 150 } m_X5_ask := by
  refine mm_sound (own := RX5) (code := k_X5_ask) (by decide) rfl ?_
  refine List.forall_mem_cons.mpr ⟨ok_aload_n (pc := 0) dX5_ask_0 rfl, ?_⟩
  refine List.forall_mem_cons.mpr ⟨ok_getf (pc := 1) (k := 2) (C := RX5) (T := TX5) (N := 24) rfl (by decide) hin_X5 (by decide) hsz_X5 bw_112 dX5_ask_1, ?_⟩
  refine List.forall_mem_cons.mpr ⟨ok_if_eq (pc := 4) (tgt := 14) dX5_ask_4 (by decide), ?_⟩
  refine List.forall_mem_cons.mpr ⟨ok_aload_n (pc := 7) dX5_ask_7 rfl, ?_⟩
  refine List.forall_mem_cons.mpr ⟨ok_callV (pc := 8) sp_X5_askOf (ci := 5) (C := RX5) rfl (by decide) ⟨bw_141, bm_X5_askOf⟩ (by decide) ⟨rfl, rfl, Nat.le_of_ble_eq_true rfl, Nat.le_of_ble_eq_true rfl⟩ dX5_ask_8, ?_⟩
  refine List.forall_mem_cons.mpr ⟨ok_goto (pc := 11) (tgt := 16) dX5_ask_11 (by decide), ?_⟩
  refine List.forall_mem_cons.mpr ⟨ok_bipush (pc := 14) dX5_ask_14 (by decide), ?_⟩
  refine List.forall_mem_cons.mpr ⟨ok_iret (pc := 16) dX5_ask_16, ?_⟩
  exact fun _ h => absurd h List.not_mem_nil
abbrev k_X5_draw : List (Nat × mm_T) := [(0, o_ald 0 1), (1, o_lc 1103515245 4), (4, o_ald 0 5), (5, o_getf 5 14 8), (8, o_i2l 9), (9, o_lmul 10), (10, o_lc 12345 13), (13, o_ladd 14), (14, o_lc 2147483647 17), (17, o_land 18), (18, o_l2i 19), (19, o_putf 5 14 22), (22, o_ald 0 23), (23, o_getf 5 14 26), (26, o_ic 65536 28), (28, o_idiv 29), (29, o_ild 1 30), (30, o_irem 31), (31, o_iret)]
def m_X5_draw : Nat → mm_T := mm_look k_X5_draw
set_option maxRecDepth 20000 in
theorem sp_X5_draw : mm_Sp yX5_draw cX5_draw 2 (some .int) { frames := 0, cells := 0, slots := 0, locals := 0 } m_X5_draw := by
  refine mm_sound (own := RX5) (code := k_X5_draw) (by decide) rfl ?_
  refine List.forall_mem_cons.mpr ⟨ok_aload_n (pc := 0) dX5_draw_0 rfl, ?_⟩
  refine List.forall_mem_cons.mpr ⟨ok_ldc2 (pc := 1) bw_142 dX5_draw_1, ?_⟩
  refine List.forall_mem_cons.mpr ⟨ok_aload_n (pc := 4) dX5_draw_4 rfl, ?_⟩
  refine List.forall_mem_cons.mpr ⟨ok_getf (pc := 5) (k := 14) (C := RX5) (T := TX5) (N := 24) rfl (by decide) hin_X5 (by decide) hsz_X5 bw_143 dX5_draw_5, ?_⟩
  refine List.forall_mem_cons.mpr ⟨ok_i2l (pc := 8) dX5_draw_8, ?_⟩
  refine List.forall_mem_cons.mpr ⟨ok_lmul (pc := 9) dX5_draw_9, ?_⟩
  refine List.forall_mem_cons.mpr ⟨ok_ldc2 (pc := 10) bw_144 dX5_draw_10, ?_⟩
  refine List.forall_mem_cons.mpr ⟨ok_ladd (pc := 13) dX5_draw_13, ?_⟩
  refine List.forall_mem_cons.mpr ⟨ok_ldc2 (pc := 14) bw_145 dX5_draw_14, ?_⟩
  refine List.forall_mem_cons.mpr ⟨ok_land (pc := 17) dX5_draw_17, ?_⟩
  refine List.forall_mem_cons.mpr ⟨ok_l2i (pc := 18) dX5_draw_18, ?_⟩
  refine List.forall_mem_cons.mpr ⟨ok_putf (pc := 19) (k := 14) (C := RX5) (T := TX5) (N := 24) tyX5 tyX5_ok nmX5 rfl (by decide) hin_X5 (by decide) hsz_X5 hkt_X5_14 rfl bw_143 dX5_draw_19, ?_⟩
  refine List.forall_mem_cons.mpr ⟨ok_aload_n (pc := 22) dX5_draw_22 rfl, ?_⟩
  refine List.forall_mem_cons.mpr ⟨ok_getf (pc := 23) (k := 14) (C := RX5) (T := TX5) (N := 24) rfl (by decide) hin_X5 (by decide) hsz_X5 bw_143 dX5_draw_23, ?_⟩
  refine List.forall_mem_cons.mpr ⟨ok_ldc (pc := 26) bw_146 dX5_draw_26, ?_⟩
  refine List.forall_mem_cons.mpr ⟨ok_idiv (pc := 28) dX5_draw_28, ?_⟩
  refine List.forall_mem_cons.mpr ⟨ok_iload_n (pc := 29) dX5_draw_29 rfl, ?_⟩
  refine List.forall_mem_cons.mpr ⟨ok_irem (pc := 30) dX5_draw_30, ?_⟩
  refine List.forall_mem_cons.mpr ⟨ok_iret (pc := 31) dX5_draw_31, ?_⟩
  exact fun _ h => absurd h List.not_mem_nil
abbrev k_X5_knownAll : List (Nat × mm_T) := [(0, o_ic 0 1), (1, o_ist 1 2), (2, o_ic 0 3), (3, o_ist 2 4), (4, o_ild 2 5), (5, o_ald 0 6), (6, o_getf 5 8 9), (9, o_ic_ge 34 12), (12, o_ild 1 13), (13, o_ald 0 14), (14, o_getf 5 9 17), (17, o_ic 3 18), (18, o_ild 2 19), (19, o_imul 20), (20, o_ic 2 21), (21, o_iadd 22), (22, o_iald 23), (23, o_callS m_X5_ones 3 1 26), (26, o_iadd 27), (27, o_ist 1 28), (28, o_iinc 2 1 31), (31, o_goto 4), (34, o_ild 1 35), (35, o_iret)]
def m_X5_knownAll : Nat → mm_T := mm_look k_X5_knownAll
set_option maxRecDepth 20000 in
theorem sp_X5_knownAll : mm_Sp yX5_knownAll cX5_knownAll 3 (some .int) { frames := 1, cells := 0, slots := 0, locals := 22 } m_X5_knownAll := by
  refine mm_sound (own := RX5) (code := k_X5_knownAll) (by decide) rfl ?_
  refine List.forall_mem_cons.mpr ⟨ok_iconst (pc := 0) dX5_knownAll_0 (by decide), ?_⟩
  refine List.forall_mem_cons.mpr ⟨ok_istore_n (pc := 1) dX5_knownAll_1 rfl, ?_⟩
  refine List.forall_mem_cons.mpr ⟨ok_iconst (pc := 2) dX5_knownAll_2 (by decide), ?_⟩
  refine List.forall_mem_cons.mpr ⟨ok_istore_n (pc := 3) dX5_knownAll_3 rfl, ?_⟩
  refine List.forall_mem_cons.mpr ⟨ok_iload_n (pc := 4) dX5_knownAll_4 rfl, ?_⟩
  refine List.forall_mem_cons.mpr ⟨ok_aload_n (pc := 5) dX5_knownAll_5 rfl, ?_⟩
  refine List.forall_mem_cons.mpr ⟨ok_getf (pc := 6) (k := 8) (C := RX5) (T := TX5) (N := 24) rfl (by decide) hin_X5 (by decide) hsz_X5 bw_115 dX5_knownAll_6, ?_⟩
  refine List.forall_mem_cons.mpr ⟨ok_icmp_ge (pc := 9) (tgt := 34) dX5_knownAll_9 (by decide), ?_⟩
  refine List.forall_mem_cons.mpr ⟨ok_iload_n (pc := 12) dX5_knownAll_12 rfl, ?_⟩
  refine List.forall_mem_cons.mpr ⟨ok_aload_n (pc := 13) dX5_knownAll_13 rfl, ?_⟩
  refine List.forall_mem_cons.mpr ⟨ok_getf (pc := 14) (k := 9) (C := RX5) (T := TX5) (N := 24) rfl (by decide) hin_X5 (by decide) hsz_X5 bw_119 dX5_knownAll_14, ?_⟩
  refine List.forall_mem_cons.mpr ⟨ok_iconst (pc := 17) dX5_knownAll_17 (by decide), ?_⟩
  refine List.forall_mem_cons.mpr ⟨ok_iload_n (pc := 18) dX5_knownAll_18 rfl, ?_⟩
  refine List.forall_mem_cons.mpr ⟨ok_imul (pc := 19) dX5_knownAll_19, ?_⟩
  refine List.forall_mem_cons.mpr ⟨ok_iconst (pc := 20) dX5_knownAll_20 (by decide), ?_⟩
  refine List.forall_mem_cons.mpr ⟨ok_iadd (pc := 21) dX5_knownAll_21, ?_⟩
  refine List.forall_mem_cons.mpr ⟨ok_iald (pc := 22) dX5_knownAll_22, ?_⟩
  refine List.forall_mem_cons.mpr ⟨ok_callS (pc := 23) sp_X5_ones ⟨bw_121, bs_X5_ones⟩ (by decide) ⟨rfl, rfl, Nat.le_of_ble_eq_true rfl, Nat.le_of_ble_eq_true rfl⟩ dX5_knownAll_23, ?_⟩
  refine List.forall_mem_cons.mpr ⟨ok_iadd (pc := 26) dX5_knownAll_26, ?_⟩
  refine List.forall_mem_cons.mpr ⟨ok_istore_n (pc := 27) dX5_knownAll_27 rfl, ?_⟩
  refine List.forall_mem_cons.mpr ⟨ok_iinc (pc := 28) dX5_knownAll_28 (by decide), ?_⟩
  refine List.forall_mem_cons.mpr ⟨ok_goto (pc := 31) (tgt := 4) dX5_knownAll_31 (by decide), ?_⟩
  refine List.forall_mem_cons.mpr ⟨ok_iload_n (pc := 34) dX5_knownAll_34 rfl, ?_⟩
  refine List.forall_mem_cons.mpr ⟨ok_iret (pc := 35) dX5_knownAll_35, ?_⟩
  exact fun _ h => absurd h List.not_mem_nil
abbrev k_X5_days : List (Nat × mm_T) := [(0, o_ild 1 1), (1, o_i2l 2), (2, o_lc 1 3), (3, o_lc 60 6), (6, o_callS m_X5_in 6 3 9), (9, o_if_eq 28 12), (12, o_ild 2 13), (13, o_if_lt 28 16), (16, o_ild 3 17), (17, o_i2l 18), (18, o_lc 0 19), (19, o_lc 2 22), (22, o_callS m_X5_in 6 3 25), (25, o_if_ne 31 28), (28, o_ic (-102) 30), (30, o_iret), (31, o_ald 0 32), (32, o_getf 5 8 35), (35, o_if_ne 41 38), (38, o_ic (-103) 40), (40, o_iret), (41, o_ald 0 42), (42, o_getf 5 9 45), (45, o_ald 0 46), (46, o_getf 5 15 49), (49, o_callS m_X5_copy 3 2 52), (52, o_ald 0 53), (53, o_ild 2 54), (54, o_putf 5 14 57), (57, o_ic 0 58), (58, o_ist 4 60), (60, o_ic 0 61), (61, o_ist 5 63), (63, o_ild 5 65), (65, o_ild 1 66), (66, o_ic_ge 150 69), (69, o_ald 0 70), (70, o_ald 0 71), (71, o_getf 5 8 74), (74, o_callV 5 m_X5_draw 2 1 77), (77, o_ist 6 79), (79, o_ald 0 80), (80, o_getf 5 9 83), (83, o_ic 3 84), (84, o_ild 6 86), (86, o_imul 87), (87, o_ic 1 88), (88, o_iadd 89), (89, o_ald 0 90), (90, o_ic 8 92), (92, o_callV 5 m_X5_draw 2 1 95), (95, o_iast 96), (96, o_ald 0 97), (97, o_ald 0 98), (98, o_getf 5 8 101), (101, o_callV 5 m_X5_draw 2 1 104), (104, o_ist 7 106), (106, o_ald 0 107), (107, o_ic 10 109), (109, o_callV 5 m_X5_draw 2 1 112), (112, o_ist 8 114), (114, o_ild 4 116), (116, o_ald 0 117), (117, o_getf 5 9 120), (120, o_ic 3 121), (121, o_ild 7 123), (123, o_imul 124), (124, o_iald 125), (125, o_ic 3 126), (126, o_ic_ne 133 129), (129, o_ic 0 130), (130, o_goto 141), (133, o_ald 0 134), (134, o_ild 7 136), (136, o_ild 8 138), (138, o_callV 5 m_X5_says 7 2 141), (141, o_iadd 142), (142, o_ist 4 144), (144, o_iinc 5 1 147), (147, o_goto 63), (150, o_ald 0 151), (151, o_callV 5 m_X5_knownAll 3 0 154), (154, o_ist 5 156), (156, o_ald 0 157), (157, o_getf 5 15 160), (160, o_ald 0 161), (161, o_getf 5 9 164), (164, o_callS m_X5_copy 3 2 167), (167, o_ild 3 168), (168, o_if_ne 176 171), (171, o_ild 4 173), (173, o_goto 190), (176, o_ild 3 177), (177, o_ic 1 178), (178, o_ic_ne 186 181), (181, o_ild 5 183), (183, o_goto 190), (186, o_ald 0 187), (187, o_getf 5 14 190), (190, o_iret)]
def m_X5_days : Nat → mm_T := mm_look k_X5_days
set_option maxRecDepth 20000 in
theorem sp_X5_days : mm_Sp yX5_days cX5_days 9 (some .int) { frames := 5, cells := 0, slots := 0, locals := 124 } m_X5_days := by
  refine mm_sound (own := RX5) (code := k_X5_days) (by decide) rfl ?_
  refine List.forall_mem_cons.mpr ⟨ok_iload_n (pc := 0) dX5_days_0 rfl, ?_⟩
  refine List.forall_mem_cons.mpr ⟨ok_i2l (pc := 1) dX5_days_1, ?_⟩
  refine List.forall_mem_cons.mpr ⟨ok_lconst (pc := 2) dX5_days_2 (by decide), ?_⟩
  refine List.forall_mem_cons.mpr ⟨ok_ldc2 (pc := 3) bw_147 dX5_days_3, ?_⟩
  refine List.forall_mem_cons.mpr ⟨ok_callS (pc := 6) sp_X5_in ⟨bw_101, bs_X5_in⟩ (by decide) ⟨rfl, rfl, Nat.le_of_ble_eq_true rfl, Nat.le_of_ble_eq_true rfl⟩ dX5_days_6, ?_⟩
  refine List.forall_mem_cons.mpr ⟨ok_if_eq (pc := 9) (tgt := 28) dX5_days_9 (by decide), ?_⟩
  refine List.forall_mem_cons.mpr ⟨ok_iload_n (pc := 12) dX5_days_12 rfl, ?_⟩
  refine List.forall_mem_cons.mpr ⟨ok_if_lt (pc := 13) (tgt := 28) dX5_days_13 (by decide), ?_⟩
  refine List.forall_mem_cons.mpr ⟨ok_iload_n (pc := 16) dX5_days_16 rfl, ?_⟩
  refine List.forall_mem_cons.mpr ⟨ok_i2l (pc := 17) dX5_days_17, ?_⟩
  refine List.forall_mem_cons.mpr ⟨ok_lconst (pc := 18) dX5_days_18 (by decide), ?_⟩
  refine List.forall_mem_cons.mpr ⟨ok_ldc2 (pc := 19) bw_148 dX5_days_19, ?_⟩
  refine List.forall_mem_cons.mpr ⟨ok_callS (pc := 22) sp_X5_in ⟨bw_101, bs_X5_in⟩ (by decide) ⟨rfl, rfl, Nat.le_of_ble_eq_true rfl, Nat.le_of_ble_eq_true rfl⟩ dX5_days_22, ?_⟩
  refine List.forall_mem_cons.mpr ⟨ok_if_ne (pc := 25) (tgt := 31) dX5_days_25 (by decide), ?_⟩
  refine List.forall_mem_cons.mpr ⟨ok_bipush (pc := 28) dX5_days_28 (by decide), ?_⟩
  refine List.forall_mem_cons.mpr ⟨ok_iret (pc := 30) dX5_days_30, ?_⟩
  refine List.forall_mem_cons.mpr ⟨ok_aload_n (pc := 31) dX5_days_31 rfl, ?_⟩
  refine List.forall_mem_cons.mpr ⟨ok_getf (pc := 32) (k := 8) (C := RX5) (T := TX5) (N := 24) rfl (by decide) hin_X5 (by decide) hsz_X5 bw_115 dX5_days_32, ?_⟩
  refine List.forall_mem_cons.mpr ⟨ok_if_ne (pc := 35) (tgt := 41) dX5_days_35 (by decide), ?_⟩
  refine List.forall_mem_cons.mpr ⟨ok_bipush (pc := 38) dX5_days_38 (by decide), ?_⟩
  refine List.forall_mem_cons.mpr ⟨ok_iret (pc := 40) dX5_days_40, ?_⟩
  refine List.forall_mem_cons.mpr ⟨ok_aload_n (pc := 41) dX5_days_41 rfl, ?_⟩
  refine List.forall_mem_cons.mpr ⟨ok_getf (pc := 42) (k := 9) (C := RX5) (T := TX5) (N := 24) rfl (by decide) hin_X5 (by decide) hsz_X5 bw_119 dX5_days_42, ?_⟩
  refine List.forall_mem_cons.mpr ⟨ok_aload_n (pc := 45) dX5_days_45 rfl, ?_⟩
  refine List.forall_mem_cons.mpr ⟨ok_getf (pc := 46) (k := 15) (C := RX5) (T := TX5) (N := 24) rfl (by decide) hin_X5 (by decide) hsz_X5 bw_149 dX5_days_46, ?_⟩
  refine List.forall_mem_cons.mpr ⟨ok_callS (pc := 49) sp_X5_copy ⟨bw_150, bs_X5_copy⟩ (by decide) ⟨rfl, rfl, Nat.le_of_ble_eq_true rfl, Nat.le_of_ble_eq_true rfl⟩ dX5_days_49, ?_⟩
  refine List.forall_mem_cons.mpr ⟨ok_aload_n (pc := 52) dX5_days_52 rfl, ?_⟩
  refine List.forall_mem_cons.mpr ⟨ok_iload_n (pc := 53) dX5_days_53 rfl, ?_⟩
  refine List.forall_mem_cons.mpr ⟨ok_putf (pc := 54) (k := 14) (C := RX5) (T := TX5) (N := 24) tyX5 tyX5_ok nmX5 rfl (by decide) hin_X5 (by decide) hsz_X5 hkt_X5_14 rfl bw_143 dX5_days_54, ?_⟩
  refine List.forall_mem_cons.mpr ⟨ok_iconst (pc := 57) dX5_days_57 (by decide), ?_⟩
  refine List.forall_mem_cons.mpr ⟨ok_istore (pc := 58) dX5_days_58, ?_⟩
  refine List.forall_mem_cons.mpr ⟨ok_iconst (pc := 60) dX5_days_60 (by decide), ?_⟩
  refine List.forall_mem_cons.mpr ⟨ok_istore (pc := 61) dX5_days_61, ?_⟩
  refine List.forall_mem_cons.mpr ⟨ok_iload (pc := 63) dX5_days_63, ?_⟩
  refine List.forall_mem_cons.mpr ⟨ok_iload_n (pc := 65) dX5_days_65 rfl, ?_⟩
  refine List.forall_mem_cons.mpr ⟨ok_icmp_ge (pc := 66) (tgt := 150) dX5_days_66 (by decide), ?_⟩
  refine List.forall_mem_cons.mpr ⟨ok_aload_n (pc := 69) dX5_days_69 rfl, ?_⟩
  refine List.forall_mem_cons.mpr ⟨ok_aload_n (pc := 70) dX5_days_70 rfl, ?_⟩
  refine List.forall_mem_cons.mpr ⟨ok_getf (pc := 71) (k := 8) (C := RX5) (T := TX5) (N := 24) rfl (by decide) hin_X5 (by decide) hsz_X5 bw_115 dX5_days_71, ?_⟩
  refine List.forall_mem_cons.mpr ⟨ok_callV (pc := 74) sp_X5_draw (ci := 5) (C := RX5) rfl (by decide) ⟨bw_151, bm_X5_draw⟩ (by decide) ⟨rfl, rfl, Nat.le_of_ble_eq_true rfl, Nat.le_of_ble_eq_true rfl⟩ dX5_days_74, ?_⟩
  refine List.forall_mem_cons.mpr ⟨ok_istore (pc := 77) dX5_days_77, ?_⟩
  refine List.forall_mem_cons.mpr ⟨ok_aload_n (pc := 79) dX5_days_79 rfl, ?_⟩
  refine List.forall_mem_cons.mpr ⟨ok_getf (pc := 80) (k := 9) (C := RX5) (T := TX5) (N := 24) rfl (by decide) hin_X5 (by decide) hsz_X5 bw_119 dX5_days_80, ?_⟩
  refine List.forall_mem_cons.mpr ⟨ok_iconst (pc := 83) dX5_days_83 (by decide), ?_⟩
  refine List.forall_mem_cons.mpr ⟨ok_iload (pc := 84) dX5_days_84, ?_⟩
  refine List.forall_mem_cons.mpr ⟨ok_imul (pc := 86) dX5_days_86, ?_⟩
  refine List.forall_mem_cons.mpr ⟨ok_iconst (pc := 87) dX5_days_87 (by decide), ?_⟩
  refine List.forall_mem_cons.mpr ⟨ok_iadd (pc := 88) dX5_days_88, ?_⟩
  refine List.forall_mem_cons.mpr ⟨ok_aload_n (pc := 89) dX5_days_89 rfl, ?_⟩
  refine List.forall_mem_cons.mpr ⟨ok_bipush (pc := 90) dX5_days_90 (by decide), ?_⟩
  refine List.forall_mem_cons.mpr ⟨ok_callV (pc := 92) sp_X5_draw (ci := 5) (C := RX5) rfl (by decide) ⟨bw_151, bm_X5_draw⟩ (by decide) ⟨rfl, rfl, Nat.le_of_ble_eq_true rfl, Nat.le_of_ble_eq_true rfl⟩ dX5_days_92, ?_⟩
  refine List.forall_mem_cons.mpr ⟨ok_iast (pc := 95) dX5_days_95, ?_⟩
  refine List.forall_mem_cons.mpr ⟨ok_aload_n (pc := 96) dX5_days_96 rfl, ?_⟩
  refine List.forall_mem_cons.mpr ⟨ok_aload_n (pc := 97) dX5_days_97 rfl, ?_⟩
  refine List.forall_mem_cons.mpr ⟨ok_getf (pc := 98) (k := 8) (C := RX5) (T := TX5) (N := 24) rfl (by decide) hin_X5 (by decide) hsz_X5 bw_115 dX5_days_98, ?_⟩
  refine List.forall_mem_cons.mpr ⟨ok_callV (pc := 101) sp_X5_draw (ci := 5) (C := RX5) rfl (by decide) ⟨bw_151, bm_X5_draw⟩ (by decide) ⟨rfl, rfl, Nat.le_of_ble_eq_true rfl, Nat.le_of_ble_eq_true rfl⟩ dX5_days_101, ?_⟩
  refine List.forall_mem_cons.mpr ⟨ok_istore (pc := 104) dX5_days_104, ?_⟩
  refine List.forall_mem_cons.mpr ⟨ok_aload_n (pc := 106) dX5_days_106 rfl, ?_⟩
  refine List.forall_mem_cons.mpr ⟨ok_bipush (pc := 107) dX5_days_107 (by decide), ?_⟩
  refine List.forall_mem_cons.mpr ⟨ok_callV (pc := 109) sp_X5_draw (ci := 5) (C := RX5) rfl (by decide) ⟨bw_151, bm_X5_draw⟩ (by decide) ⟨rfl, rfl, Nat.le_of_ble_eq_true rfl, Nat.le_of_ble_eq_true rfl⟩ dX5_days_109, ?_⟩
  refine List.forall_mem_cons.mpr ⟨ok_istore (pc := 112) dX5_days_112, ?_⟩
  refine List.forall_mem_cons.mpr ⟨ok_iload (pc := 114) dX5_days_114, ?_⟩
  refine List.forall_mem_cons.mpr ⟨ok_aload_n (pc := 116) dX5_days_116 rfl, ?_⟩
  refine List.forall_mem_cons.mpr ⟨ok_getf (pc := 117) (k := 9) (C := RX5) (T := TX5) (N := 24) rfl (by decide) hin_X5 (by decide) hsz_X5 bw_119 dX5_days_117, ?_⟩
  refine List.forall_mem_cons.mpr ⟨ok_iconst (pc := 120) dX5_days_120 (by decide), ?_⟩
  refine List.forall_mem_cons.mpr ⟨ok_iload (pc := 121) dX5_days_121, ?_⟩
  refine List.forall_mem_cons.mpr ⟨ok_imul (pc := 123) dX5_days_123, ?_⟩
  refine List.forall_mem_cons.mpr ⟨ok_iald (pc := 124) dX5_days_124, ?_⟩
  refine List.forall_mem_cons.mpr ⟨ok_iconst (pc := 125) dX5_days_125 (by decide), ?_⟩
  refine List.forall_mem_cons.mpr ⟨ok_icmp_ne (pc := 126) (tgt := 133) dX5_days_126 (by decide), ?_⟩
  refine List.forall_mem_cons.mpr ⟨ok_iconst (pc := 129) dX5_days_129 (by decide), ?_⟩
  refine List.forall_mem_cons.mpr ⟨ok_goto (pc := 130) (tgt := 141) dX5_days_130 (by decide), ?_⟩
  refine List.forall_mem_cons.mpr ⟨ok_aload_n (pc := 133) dX5_days_133 rfl, ?_⟩
  refine List.forall_mem_cons.mpr ⟨ok_iload (pc := 134) dX5_days_134, ?_⟩
  refine List.forall_mem_cons.mpr ⟨ok_iload (pc := 136) dX5_days_136, ?_⟩
  refine List.forall_mem_cons.mpr ⟨ok_callV (pc := 138) sp_X5_says (ci := 5) (C := RX5) rfl (by decide) ⟨bw_134, bm_X5_says⟩ (by decide) ⟨rfl, rfl, Nat.le_of_ble_eq_true rfl, Nat.le_of_ble_eq_true rfl⟩ dX5_days_138, ?_⟩
  refine List.forall_mem_cons.mpr ⟨ok_iadd (pc := 141) dX5_days_141, ?_⟩
  refine List.forall_mem_cons.mpr ⟨ok_istore (pc := 142) dX5_days_142, ?_⟩
  refine List.forall_mem_cons.mpr ⟨ok_iinc (pc := 144) dX5_days_144 (by decide), ?_⟩
  refine List.forall_mem_cons.mpr ⟨ok_goto (pc := 147) (tgt := 63) dX5_days_147 (by decide), ?_⟩
  refine List.forall_mem_cons.mpr ⟨ok_aload_n (pc := 150) dX5_days_150 rfl, ?_⟩
  refine List.forall_mem_cons.mpr ⟨ok_callV (pc := 151) sp_X5_knownAll (ci := 5) (C := RX5) rfl (by decide) ⟨bw_152, bm_X5_knownAll⟩ (by decide) ⟨rfl, rfl, Nat.le_of_ble_eq_true rfl, Nat.le_of_ble_eq_true rfl⟩ dX5_days_151, ?_⟩
  refine List.forall_mem_cons.mpr ⟨ok_istore (pc := 154) dX5_days_154, ?_⟩
  refine List.forall_mem_cons.mpr ⟨ok_aload_n (pc := 156) dX5_days_156 rfl, ?_⟩
  refine List.forall_mem_cons.mpr ⟨ok_getf (pc := 157) (k := 15) (C := RX5) (T := TX5) (N := 24) rfl (by decide) hin_X5 (by decide) hsz_X5 bw_149 dX5_days_157, ?_⟩
  refine List.forall_mem_cons.mpr ⟨ok_aload_n (pc := 160) dX5_days_160 rfl, ?_⟩
  refine List.forall_mem_cons.mpr ⟨ok_getf (pc := 161) (k := 9) (C := RX5) (T := TX5) (N := 24) rfl (by decide) hin_X5 (by decide) hsz_X5 bw_119 dX5_days_161, ?_⟩
  refine List.forall_mem_cons.mpr ⟨ok_callS (pc := 164) sp_X5_copy ⟨bw_150, bs_X5_copy⟩ (by decide) ⟨rfl, rfl, Nat.le_of_ble_eq_true rfl, Nat.le_of_ble_eq_true rfl⟩ dX5_days_164, ?_⟩
  refine List.forall_mem_cons.mpr ⟨ok_iload_n (pc := 167) dX5_days_167 rfl, ?_⟩
  refine List.forall_mem_cons.mpr ⟨ok_if_ne (pc := 168) (tgt := 176) dX5_days_168 (by decide), ?_⟩
  refine List.forall_mem_cons.mpr ⟨ok_iload (pc := 171) dX5_days_171, ?_⟩
  refine List.forall_mem_cons.mpr ⟨ok_goto (pc := 173) (tgt := 190) dX5_days_173 (by decide), ?_⟩
  refine List.forall_mem_cons.mpr ⟨ok_iload_n (pc := 176) dX5_days_176 rfl, ?_⟩
  refine List.forall_mem_cons.mpr ⟨ok_iconst (pc := 177) dX5_days_177 (by decide), ?_⟩
  refine List.forall_mem_cons.mpr ⟨ok_icmp_ne (pc := 178) (tgt := 186) dX5_days_178 (by decide), ?_⟩
  refine List.forall_mem_cons.mpr ⟨ok_iload (pc := 181) dX5_days_181, ?_⟩
  refine List.forall_mem_cons.mpr ⟨ok_goto (pc := 183) (tgt := 190) dX5_days_183 (by decide), ?_⟩
  refine List.forall_mem_cons.mpr ⟨ok_aload_n (pc := 186) dX5_days_186 rfl, ?_⟩
  refine List.forall_mem_cons.mpr ⟨ok_getf (pc := 187) (k := 14) (C := RX5) (T := TX5) (N := 24) rfl (by decide) hin_X5 (by decide) hsz_X5 bw_143 dX5_days_187, ?_⟩
  refine List.forall_mem_cons.mpr ⟨ok_iret (pc := 190) dX5_days_190, ?_⟩
  exact fun _ h => absurd h List.not_mem_nil
abbrev k_X5_image : List (Nat × mm_T) := [(0, o_ald 0 1), (1, o_getf 5 2 4), (4, o_if_ne 10 7), (7, o_ic (-103) 9), (9, o_iret), (10, o_ald 0 11), (11, o_getf 5 9 14), (14, o_ald 0 15), (15, o_getf 5 21 18), (18, o_callS m_X5_copy 3 2 21), (21, o_ald 0 22), (22, o_getf 5 13 25), (25, o_ald 0 26), (26, o_getf 5 22 29), (29, o_callS m_X5_copy 3 2 32), (32, o_ald 0 33), (33, o_ald 0 34), (34, o_getf 5 8 37), (37, o_putf 5 17 40), (40, o_ald 0 41), (41, o_ald 0 42), (42, o_getf 5 3 45), (45, o_putf 5 18 48), (48, o_ald 0 49), (49, o_ald 0 50), (50, o_getf 5 4 53), (53, o_putf 5 19 56), (56, o_ald 0 57), (57, o_ald 0 58), (58, o_getf 5 12 61), (61, o_putf 5 20 64), (64, o_ald 0 65), (65, o_ald 0 66), (66, o_getf 5 5 69), (69, o_putf 5 16 72), (72, o_ald 0 73), (73, o_getf 5 8 76), (76, o_iret)]
def m_X5_image : Nat → mm_T := mm_look k_X5_image
set_option maxRecDepth 20000 in
theorem sp_X5_image : mm_Sp yX5_image cX5_image 1 (some .int) { frames := 1, cells := 0, slots := 0, locals := 22 } m_X5_image := by
  refine mm_sound (own := RX5) (code := k_X5_image) (by decide) rfl ?_
  refine List.forall_mem_cons.mpr ⟨ok_aload_n (pc := 0) dX5_image_0 rfl, ?_⟩
  refine List.forall_mem_cons.mpr ⟨ok_getf (pc := 1) (k := 2) (C := RX5) (T := TX5) (N := 24) rfl (by decide) hin_X5 (by decide) hsz_X5 bw_112 dX5_image_1, ?_⟩
  refine List.forall_mem_cons.mpr ⟨ok_if_ne (pc := 4) (tgt := 10) dX5_image_4 (by decide), ?_⟩
  refine List.forall_mem_cons.mpr ⟨ok_bipush (pc := 7) dX5_image_7 (by decide), ?_⟩
  refine List.forall_mem_cons.mpr ⟨ok_iret (pc := 9) dX5_image_9, ?_⟩
  refine List.forall_mem_cons.mpr ⟨ok_aload_n (pc := 10) dX5_image_10 rfl, ?_⟩
  refine List.forall_mem_cons.mpr ⟨ok_getf (pc := 11) (k := 9) (C := RX5) (T := TX5) (N := 24) rfl (by decide) hin_X5 (by decide) hsz_X5 bw_119 dX5_image_11, ?_⟩
  refine List.forall_mem_cons.mpr ⟨ok_aload_n (pc := 14) dX5_image_14 rfl, ?_⟩
  refine List.forall_mem_cons.mpr ⟨ok_getf (pc := 15) (k := 21) (C := RX5) (T := TX5) (N := 24) rfl (by decide) hin_X5 (by decide) hsz_X5 bw_153 dX5_image_15, ?_⟩
  refine List.forall_mem_cons.mpr ⟨ok_callS (pc := 18) sp_X5_copy ⟨bw_150, bs_X5_copy⟩ (by decide) ⟨rfl, rfl, Nat.le_of_ble_eq_true rfl, Nat.le_of_ble_eq_true rfl⟩ dX5_image_18, ?_⟩
  refine List.forall_mem_cons.mpr ⟨ok_aload_n (pc := 21) dX5_image_21 rfl, ?_⟩
  refine List.forall_mem_cons.mpr ⟨ok_getf (pc := 22) (k := 13) (C := RX5) (T := TX5) (N := 24) rfl (by decide) hin_X5 (by decide) hsz_X5 bw_139 dX5_image_22, ?_⟩
  refine List.forall_mem_cons.mpr ⟨ok_aload_n (pc := 25) dX5_image_25 rfl, ?_⟩
  refine List.forall_mem_cons.mpr ⟨ok_getf (pc := 26) (k := 22) (C := RX5) (T := TX5) (N := 24) rfl (by decide) hin_X5 (by decide) hsz_X5 bw_154 dX5_image_26, ?_⟩
  refine List.forall_mem_cons.mpr ⟨ok_callS (pc := 29) sp_X5_copy ⟨bw_150, bs_X5_copy⟩ (by decide) ⟨rfl, rfl, Nat.le_of_ble_eq_true rfl, Nat.le_of_ble_eq_true rfl⟩ dX5_image_29, ?_⟩
  refine List.forall_mem_cons.mpr ⟨ok_aload_n (pc := 32) dX5_image_32 rfl, ?_⟩
  refine List.forall_mem_cons.mpr ⟨ok_aload_n (pc := 33) dX5_image_33 rfl, ?_⟩
  refine List.forall_mem_cons.mpr ⟨ok_getf (pc := 34) (k := 8) (C := RX5) (T := TX5) (N := 24) rfl (by decide) hin_X5 (by decide) hsz_X5 bw_115 dX5_image_34, ?_⟩
  refine List.forall_mem_cons.mpr ⟨ok_putf (pc := 37) (k := 17) (C := RX5) (T := TX5) (N := 24) tyX5 tyX5_ok nmX5 rfl (by decide) hin_X5 (by decide) hsz_X5 hkt_X5_17 rfl bw_155 dX5_image_37, ?_⟩
  refine List.forall_mem_cons.mpr ⟨ok_aload_n (pc := 40) dX5_image_40 rfl, ?_⟩
  refine List.forall_mem_cons.mpr ⟨ok_aload_n (pc := 41) dX5_image_41 rfl, ?_⟩
  refine List.forall_mem_cons.mpr ⟨ok_getf (pc := 42) (k := 3) (C := RX5) (T := TX5) (N := 24) rfl (by decide) hin_X5 (by decide) hsz_X5 bw_113 dX5_image_42, ?_⟩
  refine List.forall_mem_cons.mpr ⟨ok_putf (pc := 45) (k := 18) (C := RX5) (T := TX5) (N := 24) tyX5 tyX5_ok nmX5 rfl (by decide) hin_X5 (by decide) hsz_X5 hkt_X5_18 rfl bw_156 dX5_image_45, ?_⟩
  refine List.forall_mem_cons.mpr ⟨ok_aload_n (pc := 48) dX5_image_48 rfl, ?_⟩
  refine List.forall_mem_cons.mpr ⟨ok_aload_n (pc := 49) dX5_image_49 rfl, ?_⟩
  refine List.forall_mem_cons.mpr ⟨ok_getf (pc := 50) (k := 4) (C := RX5) (T := TX5) (N := 24) rfl (by decide) hin_X5 (by decide) hsz_X5 bw_114 dX5_image_50, ?_⟩
  refine List.forall_mem_cons.mpr ⟨ok_putf (pc := 53) (k := 19) (C := RX5) (T := TX5) (N := 24) tyX5 tyX5_ok nmX5 rfl (by decide) hin_X5 (by decide) hsz_X5 hkt_X5_19 rfl bw_157 dX5_image_53, ?_⟩
  refine List.forall_mem_cons.mpr ⟨ok_aload_n (pc := 56) dX5_image_56 rfl, ?_⟩
  refine List.forall_mem_cons.mpr ⟨ok_aload_n (pc := 57) dX5_image_57 rfl, ?_⟩
  refine List.forall_mem_cons.mpr ⟨ok_getf (pc := 58) (k := 12) (C := RX5) (T := TX5) (N := 24) rfl (by decide) hin_X5 (by decide) hsz_X5 bw_116 dX5_image_58, ?_⟩
  refine List.forall_mem_cons.mpr ⟨ok_putf (pc := 61) (k := 20) (C := RX5) (T := TX5) (N := 24) tyX5 tyX5_ok nmX5 rfl (by decide) hin_X5 (by decide) hsz_X5 hkt_X5_20 rfl bw_158 dX5_image_61, ?_⟩
  refine List.forall_mem_cons.mpr ⟨ok_aload_n (pc := 64) dX5_image_64 rfl, ?_⟩
  refine List.forall_mem_cons.mpr ⟨ok_aload_n (pc := 65) dX5_image_65 rfl, ?_⟩
  refine List.forall_mem_cons.mpr ⟨ok_getf (pc := 66) (k := 5) (C := RX5) (T := TX5) (N := 24) rfl (by decide) hin_X5 (by decide) hsz_X5 bw_117 dX5_image_66, ?_⟩
  refine List.forall_mem_cons.mpr ⟨ok_putf (pc := 69) (k := 16) (C := RX5) (T := TX5) (N := 24) tyX5 tyX5_ok nmX5 rfl (by decide) hin_X5 (by decide) hsz_X5 hkt_X5_16 rfl bw_159 dX5_image_69, ?_⟩
  refine List.forall_mem_cons.mpr ⟨ok_aload_n (pc := 72) dX5_image_72 rfl, ?_⟩
  refine List.forall_mem_cons.mpr ⟨ok_getf (pc := 73) (k := 8) (C := RX5) (T := TX5) (N := 24) rfl (by decide) hin_X5 (by decide) hsz_X5 bw_115 dX5_image_73, ?_⟩
  refine List.forall_mem_cons.mpr ⟨ok_iret (pc := 76) dX5_image_76, ?_⟩
  exact fun _ h => absurd h List.not_mem_nil
abbrev k_X5_restore : List (Nat × mm_T) := [(0, o_ald 0 1), (1, o_getf 5 16 4), (4, o_ald 0 5), (5, o_getf 5 5 8), (8, o_ic_eq 14 11), (11, o_ic (-103) 13), (13, o_iret), (14, o_ald 0 15), (15, o_getf 5 21 18), (18, o_ald 0 19), (19, o_getf 5 9 22), (22, o_callS m_X5_copy 3 2 25), (25, o_ald 0 26), (26, o_getf 5 22 29), (29, o_ald 0 30), (30, o_getf 5 13 33), (33, o_callS m_X5_copy 3 2 36), (36, o_ald 0 37), (37, o_ald 0 38), (38, o_getf 5 17 41), (41, o_putf 5 8 44), (44, o_ald 0 45), (45, o_ald 0 46), (46, o_getf 5 18 49), (49, o_putf 5 3 52), (52, o_ald 0 53), (53, o_ald 0 54), (54, o_getf 5 19 57), (57, o_putf 5 4 60), (60, o_ald 0 61), (61, o_ald 0 62), (62, o_getf 5 20 65), (65, o_putf 5 12 68), (68, o_ald 0 69), (69, o_getf 5 8 72), (72, o_iret)]
def m_X5_restore : Nat → mm_T := mm_look k_X5_restore
set_option maxRecDepth 20000 in
theorem sp_X5_restore : mm_Sp yX5_restore cX5_restore 1 (some .int) { frames := 1, cells := 0, slots := 0, locals := 22 } m_X5_restore := by
  refine mm_sound (own := RX5) (code := k_X5_restore) (by decide) rfl ?_
  refine List.forall_mem_cons.mpr ⟨ok_aload_n (pc := 0) dX5_restore_0 rfl, ?_⟩
  refine List.forall_mem_cons.mpr ⟨ok_getf (pc := 1) (k := 16) (C := RX5) (T := TX5) (N := 24) rfl (by decide) hin_X5 (by decide) hsz_X5 bw_159 dX5_restore_1, ?_⟩
  refine List.forall_mem_cons.mpr ⟨ok_aload_n (pc := 4) dX5_restore_4 rfl, ?_⟩
  refine List.forall_mem_cons.mpr ⟨ok_getf (pc := 5) (k := 5) (C := RX5) (T := TX5) (N := 24) rfl (by decide) hin_X5 (by decide) hsz_X5 bw_117 dX5_restore_5, ?_⟩
  refine List.forall_mem_cons.mpr ⟨ok_icmp_eq (pc := 8) (tgt := 14) dX5_restore_8 (by decide), ?_⟩
  refine List.forall_mem_cons.mpr ⟨ok_bipush (pc := 11) dX5_restore_11 (by decide), ?_⟩
  refine List.forall_mem_cons.mpr ⟨ok_iret (pc := 13) dX5_restore_13, ?_⟩
  refine List.forall_mem_cons.mpr ⟨ok_aload_n (pc := 14) dX5_restore_14 rfl, ?_⟩
  refine List.forall_mem_cons.mpr ⟨ok_getf (pc := 15) (k := 21) (C := RX5) (T := TX5) (N := 24) rfl (by decide) hin_X5 (by decide) hsz_X5 bw_153 dX5_restore_15, ?_⟩
  refine List.forall_mem_cons.mpr ⟨ok_aload_n (pc := 18) dX5_restore_18 rfl, ?_⟩
  refine List.forall_mem_cons.mpr ⟨ok_getf (pc := 19) (k := 9) (C := RX5) (T := TX5) (N := 24) rfl (by decide) hin_X5 (by decide) hsz_X5 bw_119 dX5_restore_19, ?_⟩
  refine List.forall_mem_cons.mpr ⟨ok_callS (pc := 22) sp_X5_copy ⟨bw_150, bs_X5_copy⟩ (by decide) ⟨rfl, rfl, Nat.le_of_ble_eq_true rfl, Nat.le_of_ble_eq_true rfl⟩ dX5_restore_22, ?_⟩
  refine List.forall_mem_cons.mpr ⟨ok_aload_n (pc := 25) dX5_restore_25 rfl, ?_⟩
  refine List.forall_mem_cons.mpr ⟨ok_getf (pc := 26) (k := 22) (C := RX5) (T := TX5) (N := 24) rfl (by decide) hin_X5 (by decide) hsz_X5 bw_154 dX5_restore_26, ?_⟩
  refine List.forall_mem_cons.mpr ⟨ok_aload_n (pc := 29) dX5_restore_29 rfl, ?_⟩
  refine List.forall_mem_cons.mpr ⟨ok_getf (pc := 30) (k := 13) (C := RX5) (T := TX5) (N := 24) rfl (by decide) hin_X5 (by decide) hsz_X5 bw_139 dX5_restore_30, ?_⟩
  refine List.forall_mem_cons.mpr ⟨ok_callS (pc := 33) sp_X5_copy ⟨bw_150, bs_X5_copy⟩ (by decide) ⟨rfl, rfl, Nat.le_of_ble_eq_true rfl, Nat.le_of_ble_eq_true rfl⟩ dX5_restore_33, ?_⟩
  refine List.forall_mem_cons.mpr ⟨ok_aload_n (pc := 36) dX5_restore_36 rfl, ?_⟩
  refine List.forall_mem_cons.mpr ⟨ok_aload_n (pc := 37) dX5_restore_37 rfl, ?_⟩
  refine List.forall_mem_cons.mpr ⟨ok_getf (pc := 38) (k := 17) (C := RX5) (T := TX5) (N := 24) rfl (by decide) hin_X5 (by decide) hsz_X5 bw_155 dX5_restore_38, ?_⟩
  refine List.forall_mem_cons.mpr ⟨ok_putf (pc := 41) (k := 8) (C := RX5) (T := TX5) (N := 24) tyX5 tyX5_ok nmX5 rfl (by decide) hin_X5 (by decide) hsz_X5 hkt_X5_8 rfl bw_115 dX5_restore_41, ?_⟩
  refine List.forall_mem_cons.mpr ⟨ok_aload_n (pc := 44) dX5_restore_44 rfl, ?_⟩
  refine List.forall_mem_cons.mpr ⟨ok_aload_n (pc := 45) dX5_restore_45 rfl, ?_⟩
  refine List.forall_mem_cons.mpr ⟨ok_getf (pc := 46) (k := 18) (C := RX5) (T := TX5) (N := 24) rfl (by decide) hin_X5 (by decide) hsz_X5 bw_156 dX5_restore_46, ?_⟩
  refine List.forall_mem_cons.mpr ⟨ok_putf (pc := 49) (k := 3) (C := RX5) (T := TX5) (N := 24) tyX5 tyX5_ok nmX5 rfl (by decide) hin_X5 (by decide) hsz_X5 hkt_X5_3 rfl bw_113 dX5_restore_49, ?_⟩
  refine List.forall_mem_cons.mpr ⟨ok_aload_n (pc := 52) dX5_restore_52 rfl, ?_⟩
  refine List.forall_mem_cons.mpr ⟨ok_aload_n (pc := 53) dX5_restore_53 rfl, ?_⟩
  refine List.forall_mem_cons.mpr ⟨ok_getf (pc := 54) (k := 19) (C := RX5) (T := TX5) (N := 24) rfl (by decide) hin_X5 (by decide) hsz_X5 bw_157 dX5_restore_54, ?_⟩
  refine List.forall_mem_cons.mpr ⟨ok_putf (pc := 57) (k := 4) (C := RX5) (T := TX5) (N := 24) tyX5 tyX5_ok nmX5 rfl (by decide) hin_X5 (by decide) hsz_X5 hkt_X5_4 rfl bw_114 dX5_restore_57, ?_⟩
  refine List.forall_mem_cons.mpr ⟨ok_aload_n (pc := 60) dX5_restore_60 rfl, ?_⟩
  refine List.forall_mem_cons.mpr ⟨ok_aload_n (pc := 61) dX5_restore_61 rfl, ?_⟩
  refine List.forall_mem_cons.mpr ⟨ok_getf (pc := 62) (k := 20) (C := RX5) (T := TX5) (N := 24) rfl (by decide) hin_X5 (by decide) hsz_X5 bw_158 dX5_restore_62, ?_⟩
  refine List.forall_mem_cons.mpr ⟨ok_putf (pc := 65) (k := 12) (C := RX5) (T := TX5) (N := 24) tyX5 tyX5_ok nmX5 rfl (by decide) hin_X5 (by decide) hsz_X5 hkt_X5_12 rfl bw_116 dX5_restore_65, ?_⟩
  refine List.forall_mem_cons.mpr ⟨ok_aload_n (pc := 68) dX5_restore_68 rfl, ?_⟩
  refine List.forall_mem_cons.mpr ⟨ok_getf (pc := 69) (k := 8) (C := RX5) (T := TX5) (N := 24) rfl (by decide) hin_X5 (by decide) hsz_X5 bw_115 dX5_restore_69, ?_⟩
  refine List.forall_mem_cons.mpr ⟨ok_iret (pc := 72) dX5_restore_72, ?_⟩
  exact fun _ h => absurd h List.not_mem_nil
abbrev k_X5_countOf : List (Nat × mm_T) := [(0, o_ild 1 1), (1, o_tsw [48, 53, 61, 66, 71, 76, 81, 86] 91), (48, o_ald 0 49), (49, o_getf 5 8 52), (52, o_iret), (53, o_ald 0 54), (54, o_getf 5 3 57), (57, o_callS m_X5_ones 3 1 60), (60, o_iret), (61, o_ald 0 62), (62, o_callV 5 m_X5_knownAll 3 0 65), (65, o_iret), (66, o_ald 0 67), (67, o_getf 5 4 70), (70, o_iret), (71, o_ald 0 72), (72, o_getf 5 12 75), (75, o_iret), (76, o_ald 0 77), (77, o_getf 5 1 80), (80, o_iret), (81, o_ald 0 82), (82, o_getf 5 5 85), (85, o_iret), (86, o_ald 0 87), (87, o_getf 5 11 90), (90, o_iret), (91, o_ic (-102) 93), (93, o_iret)]
def m_X5_countOf : Nat → mm_T := mm_look k_X5_countOf
set_option maxRecDepth 20000 in
theorem sp_X5_countOf : mm_Sp yX5_countOf cX5_countOf 2 (some .int) { frames := 2, cells := 0, slots := 0, locals := 44 } m_X5_countOf := by
  refine mm_sound (own := RX5) (code := k_X5_countOf) (by decide) rfl ?_
  refine List.forall_mem_cons.mpr ⟨ok_iload_n (pc := 0) dX5_countOf_0 rfl, ?_⟩
  refine List.forall_mem_cons.mpr ⟨ok_tsw (pc := 1) (ts := [48, 53, 61, 66, 71, 76, 81, 86]) (dflt := 91) dX5_countOf_1 (by decide) (by decide) (by decide) (by decide), ?_⟩
  refine List.forall_mem_cons.mpr ⟨ok_aload_n (pc := 48) dX5_countOf_48 rfl, ?_⟩
  refine List.forall_mem_cons.mpr ⟨ok_getf (pc := 49) (k := 8) (C := RX5) (T := TX5) (N := 24) rfl (by decide) hin_X5 (by decide) hsz_X5 bw_115 dX5_countOf_49, ?_⟩
  refine List.forall_mem_cons.mpr ⟨ok_iret (pc := 52) dX5_countOf_52, ?_⟩
  refine List.forall_mem_cons.mpr ⟨ok_aload_n (pc := 53) dX5_countOf_53 rfl, ?_⟩
  refine List.forall_mem_cons.mpr ⟨ok_getf (pc := 54) (k := 3) (C := RX5) (T := TX5) (N := 24) rfl (by decide) hin_X5 (by decide) hsz_X5 bw_113 dX5_countOf_54, ?_⟩
  refine List.forall_mem_cons.mpr ⟨ok_callS (pc := 57) sp_X5_ones ⟨bw_121, bs_X5_ones⟩ (by decide) ⟨rfl, rfl, Nat.le_of_ble_eq_true rfl, Nat.le_of_ble_eq_true rfl⟩ dX5_countOf_57, ?_⟩
  refine List.forall_mem_cons.mpr ⟨ok_iret (pc := 60) dX5_countOf_60, ?_⟩
  refine List.forall_mem_cons.mpr ⟨ok_aload_n (pc := 61) dX5_countOf_61 rfl, ?_⟩
  refine List.forall_mem_cons.mpr ⟨ok_callV (pc := 62) sp_X5_knownAll (ci := 5) (C := RX5) rfl (by decide) ⟨bw_152, bm_X5_knownAll⟩ (by decide) ⟨rfl, rfl, Nat.le_of_ble_eq_true rfl, Nat.le_of_ble_eq_true rfl⟩ dX5_countOf_62, ?_⟩
  refine List.forall_mem_cons.mpr ⟨ok_iret (pc := 65) dX5_countOf_65, ?_⟩
  refine List.forall_mem_cons.mpr ⟨ok_aload_n (pc := 66) dX5_countOf_66 rfl, ?_⟩
  refine List.forall_mem_cons.mpr ⟨ok_getf (pc := 67) (k := 4) (C := RX5) (T := TX5) (N := 24) rfl (by decide) hin_X5 (by decide) hsz_X5 bw_114 dX5_countOf_67, ?_⟩
  refine List.forall_mem_cons.mpr ⟨ok_iret (pc := 70) dX5_countOf_70, ?_⟩
  refine List.forall_mem_cons.mpr ⟨ok_aload_n (pc := 71) dX5_countOf_71 rfl, ?_⟩
  refine List.forall_mem_cons.mpr ⟨ok_getf (pc := 72) (k := 12) (C := RX5) (T := TX5) (N := 24) rfl (by decide) hin_X5 (by decide) hsz_X5 bw_116 dX5_countOf_72, ?_⟩
  refine List.forall_mem_cons.mpr ⟨ok_iret (pc := 75) dX5_countOf_75, ?_⟩
  refine List.forall_mem_cons.mpr ⟨ok_aload_n (pc := 76) dX5_countOf_76 rfl, ?_⟩
  refine List.forall_mem_cons.mpr ⟨ok_getf (pc := 77) (k := 1) (C := RX5) (T := TX5) (N := 24) rfl (by decide) hin_X5 (by decide) hsz_X5 bw_102 dX5_countOf_77, ?_⟩
  refine List.forall_mem_cons.mpr ⟨ok_iret (pc := 80) dX5_countOf_80, ?_⟩
  refine List.forall_mem_cons.mpr ⟨ok_aload_n (pc := 81) dX5_countOf_81 rfl, ?_⟩
  refine List.forall_mem_cons.mpr ⟨ok_getf (pc := 82) (k := 5) (C := RX5) (T := TX5) (N := 24) rfl (by decide) hin_X5 (by decide) hsz_X5 bw_117 dX5_countOf_82, ?_⟩
  refine List.forall_mem_cons.mpr ⟨ok_iret (pc := 85) dX5_countOf_85, ?_⟩
  refine List.forall_mem_cons.mpr ⟨ok_aload_n (pc := 86) dX5_countOf_86 rfl, ?_⟩
  refine List.forall_mem_cons.mpr ⟨ok_getf (pc := 87) (k := 11) (C := RX5) (T := TX5) (N := 24) rfl (by decide) hin_X5 (by decide) hsz_X5 bw_136 dX5_countOf_87, ?_⟩
  refine List.forall_mem_cons.mpr ⟨ok_iret (pc := 90) dX5_countOf_90, ?_⟩
  refine List.forall_mem_cons.mpr ⟨ok_bipush (pc := 91) dX5_countOf_91 (by decide), ?_⟩
  refine List.forall_mem_cons.mpr ⟨ok_iret (pc := 93) dX5_countOf_93, ?_⟩
  exact fun _ h => absurd h List.not_mem_nil
abbrev k_X5_count : List (Nat × mm_T) := [(0, o_ald 0 1), (1, o_ild 1 2), (2, o_callV 5 m_X5_countOf 2 1 5), (5, o_iret)]
def m_X5_count : Nat → mm_T := mm_look k_X5_count
set_option maxRecDepth 20000 in
theorem sp_X5_count : mm_Sp yX5_count cX5_count 2 (some .int) { frames := 3, cells := 0, slots := 0, locals := 65 } m_X5_count := by
  refine mm_sound (own := RX5) (code := k_X5_count) (by decide) rfl ?_
  refine List.forall_mem_cons.mpr ⟨ok_aload_n (pc := 0) dX5_count_0 rfl, ?_⟩
  refine List.forall_mem_cons.mpr ⟨ok_iload_n (pc := 1) dX5_count_1 rfl, ?_⟩
  refine List.forall_mem_cons.mpr ⟨ok_callV (pc := 2) sp_X5_countOf (ci := 5) (C := RX5) rfl (by decide) ⟨bw_160, bm_X5_countOf⟩ (by decide) ⟨rfl, rfl, Nat.le_of_ble_eq_true rfl, Nat.le_of_ble_eq_true rfl⟩ dX5_count_2, ?_⟩
  refine List.forall_mem_cons.mpr ⟨ok_iret (pc := 5) dX5_count_5, ?_⟩
  exact fun _ h => absurd h List.not_mem_nil
abbrev k_X5_note : List (Nat × mm_T) := [(0, o_ald 0 1), (1, o_lc 31 4), (4, o_ald 0 5), (5, o_getf 5 23 8), (8, o_lmul 9), (9, o_lld 1 10), (10, o_ladd 11), (11, o_putf 5 23 14), (14, o_vret)]
def m_X5_note : Nat → mm_T := mm_look k_X5_note
set_option maxRecDepth 20000 in
theorem sp_X5_note : mm_Sp yX5_note cX5_note 3 none { frames := 0, cells := 0, slots := 0, locals := 0 } m_X5_note := by
  refine mm_sound (own := RX5) (code := k_X5_note) (by decide) rfl ?_
  refine List.forall_mem_cons.mpr ⟨ok_aload_n (pc := 0) dX5_note_0 rfl, ?_⟩
  refine List.forall_mem_cons.mpr ⟨ok_ldc2 (pc := 1) bw_161 dX5_note_1, ?_⟩
  refine List.forall_mem_cons.mpr ⟨ok_aload_n (pc := 4) dX5_note_4 rfl, ?_⟩
  refine List.forall_mem_cons.mpr ⟨ok_getf (pc := 5) (k := 23) (C := RX5) (T := TX5) (N := 24) rfl (by decide) hin_X5 (by decide) hsz_X5 bw_162 dX5_note_5, ?_⟩
  refine List.forall_mem_cons.mpr ⟨ok_lmul (pc := 8) dX5_note_8, ?_⟩
  refine List.forall_mem_cons.mpr ⟨ok_lload_n (pc := 9) dX5_note_9 rfl, ?_⟩
  refine List.forall_mem_cons.mpr ⟨ok_ladd (pc := 10) dX5_note_10, ?_⟩
  refine List.forall_mem_cons.mpr ⟨ok_putf (pc := 11) (k := 23) (C := RX5) (T := TX5) (N := 24) tyX5 tyX5_ok nmX5 rfl (by decide) hin_X5 (by decide) hsz_X5 hkt_X5_23 rfl bw_162 dX5_note_11, ?_⟩
  refine List.forall_mem_cons.mpr ⟨ok_vret (pc := 14) dX5_note_14, ?_⟩
  exact fun _ h => absurd h List.not_mem_nil
abbrev k_X5_digest : List (Nat × mm_T) := [(0, o_ald 0 1), (1, o_lc 937 4), (4, o_putf 5 23 7), (7, o_ic 0 8), (8, o_ist 1 9), (9, o_ild 1 10), (10, o_ic 8 12), (12, o_ic_ge 53 15), (15, o_ald 0 16), (16, o_getf 5 2 19), (19, o_if_eq 53 22), (22, o_ic 0 23), (23, o_ist 2 24), (24, o_ild 2 25), (25, o_ic 6 27), (27, o_ic_ge 47 30), (30, o_ald 0 31), (31, o_ald 0 32), (32, o_ild 1 33), (33, o_ild 2 34), (34, o_callV 5 m_X5_tellPlace 3 2 37), (37, o_i2l 38), (38, o_callV 5 m_X5_note 3 1 41), (41, o_iinc 2 1 44), (44, o_goto 24), (47, o_iinc 1 1 50), (50, o_goto 9), (53, o_ic 0 54), (54, o_ist 1 55), (55, o_ild 1 56), (56, o_ald 0 57), (57, o_getf 5 8 60), (60, o_ic_ge 120 63), (63, o_ic 0 64), (64, o_ist 2 65), (65, o_ild 2 66), (66, o_ic 4 67), (67, o_ic_ge 87 70), (70, o_ald 0 71), (71, o_ald 0 72), (72, o_ild 1 73), (73, o_ild 2 74), (74, o_callV 5 m_X5_tell 3 2 77), (77, o_i2l 78), (78, o_callV 5 m_X5_note 3 1 81), (81, o_iinc 2 1 84), (84, o_goto 65), (87, o_ic 0 88), (88, o_ist 2 89), (89, o_ild 2 90), (90, o_ald 0 91), (91, o_getf 5 8 94), (94, o_ic_ge 114 97), (97, o_ald 0 98), (98, o_ald 0 99), (99, o_ild 1 100), (100, o_ild 2 101), (101, o_callV 5 m_X5_hearsOf 3 2 104), (104, o_i2l 105), (105, o_callV 5 m_X5_note 3 1 108), (108, o_iinc 2 1 111), (111, o_goto 89), (114, o_iinc 1 1 117), (117, o_goto 55), (120, o_ald 0 121), (121, o_getf 5 2 124), (124, o_if_eq 145 127), (127, o_ald 0 128), (128, o_ald 0 129), (129, o_callV 5 m_X5_whoBits 6 0 132), (132, o_i2l 133), (133, o_callV 5 m_X5_note 3 1 136), (136, o_ald 0 137), (137, o_ald 0 138), (138, o_callV 5 m_X5_askOf 8 0 141), (141, o_i2l 142), (142, o_callV 5 m_X5_note 3 1 145), (145, o_ic 0 146), (146, o_ist 1 147), (147, o_ild 1 148), (148, o_ald 0 149), (149, o_getf 5 1 152), (152, o_ic_ge 172 155), (155, o_ald 0 156), (156, o_ald 0 157), (157, o_getf 5 0 160), (160, o_ild 1 161), (161, o_iald 162), (162, o_i2l 163), (163, o_callV 5 m_X5_note 3 1 166), (166, o_iinc 1 1 169), (169, o_goto 147), (172, o_ic 0 173), (173, o_ist 1 174), (174, o_ild 1 175), (175, o_ic 8 177), (177, o_ic_ge 196 180), (180, o_ald 0 181), (181, o_ald 0 182), (182, o_ild 1 183), (183, o_callV 5 m_X5_countOf 2 1 186), (186, o_i2l 187), (187, o_callV 5 m_X5_note 3 1 190), (190, o_iinc 1 1 193), (193, o_goto 174), (196, o_ald 0 197), (197, o_getf 5 23 200), (200, o_lret)]
def m_X5_digest : Nat → mm_T := mm_look k_X5_digest
set_option maxRecDepth 20000 in
theorem sp_X5_digest : mm_Sp yX5_digest cX5_digest 3 (some .long) { frames := 6, cells := 0, slots := 0, locals := 150 } m_X5_digest := by
  refine mm_sound (own := RX5) (code := k_X5_digest) (by decide) rfl ?_
  refine List.forall_mem_cons.mpr ⟨ok_aload_n (pc := 0) dX5_digest_0 rfl, ?_⟩
  refine List.forall_mem_cons.mpr ⟨ok_ldc2 (pc := 1) bw_163 dX5_digest_1, ?_⟩
  refine List.forall_mem_cons.mpr ⟨ok_putf (pc := 4) (k := 23) (C := RX5) (T := TX5) (N := 24) tyX5 tyX5_ok nmX5 rfl (by decide) hin_X5 (by decide) hsz_X5 hkt_X5_23 rfl bw_162 dX5_digest_4, ?_⟩
  refine List.forall_mem_cons.mpr ⟨ok_iconst (pc := 7) dX5_digest_7 (by decide), ?_⟩
  refine List.forall_mem_cons.mpr ⟨ok_istore_n (pc := 8) dX5_digest_8 rfl, ?_⟩
  refine List.forall_mem_cons.mpr ⟨ok_iload_n (pc := 9) dX5_digest_9 rfl, ?_⟩
  refine List.forall_mem_cons.mpr ⟨ok_bipush (pc := 10) dX5_digest_10 (by decide), ?_⟩
  refine List.forall_mem_cons.mpr ⟨ok_icmp_ge (pc := 12) (tgt := 53) dX5_digest_12 (by decide), ?_⟩
  refine List.forall_mem_cons.mpr ⟨ok_aload_n (pc := 15) dX5_digest_15 rfl, ?_⟩
  refine List.forall_mem_cons.mpr ⟨ok_getf (pc := 16) (k := 2) (C := RX5) (T := TX5) (N := 24) rfl (by decide) hin_X5 (by decide) hsz_X5 bw_112 dX5_digest_16, ?_⟩
  refine List.forall_mem_cons.mpr ⟨ok_if_eq (pc := 19) (tgt := 53) dX5_digest_19 (by decide), ?_⟩
  refine List.forall_mem_cons.mpr ⟨ok_iconst (pc := 22) dX5_digest_22 (by decide), ?_⟩
  refine List.forall_mem_cons.mpr ⟨ok_istore_n (pc := 23) dX5_digest_23 rfl, ?_⟩
  refine List.forall_mem_cons.mpr ⟨ok_iload_n (pc := 24) dX5_digest_24 rfl, ?_⟩
  refine List.forall_mem_cons.mpr ⟨ok_bipush (pc := 25) dX5_digest_25 (by decide), ?_⟩
  refine List.forall_mem_cons.mpr ⟨ok_icmp_ge (pc := 27) (tgt := 47) dX5_digest_27 (by decide), ?_⟩
  refine List.forall_mem_cons.mpr ⟨ok_aload_n (pc := 30) dX5_digest_30 rfl, ?_⟩
  refine List.forall_mem_cons.mpr ⟨ok_aload_n (pc := 31) dX5_digest_31 rfl, ?_⟩
  refine List.forall_mem_cons.mpr ⟨ok_iload_n (pc := 32) dX5_digest_32 rfl, ?_⟩
  refine List.forall_mem_cons.mpr ⟨ok_iload_n (pc := 33) dX5_digest_33 rfl, ?_⟩
  refine List.forall_mem_cons.mpr ⟨ok_callV (pc := 34) sp_X5_tellPlace (ci := 5) (C := RX5) rfl (by decide) ⟨bw_125, bm_X5_tellPlace⟩ (by decide) ⟨rfl, rfl, Nat.le_of_ble_eq_true rfl, Nat.le_of_ble_eq_true rfl⟩ dX5_digest_34, ?_⟩
  refine List.forall_mem_cons.mpr ⟨ok_i2l (pc := 37) dX5_digest_37, ?_⟩
  refine List.forall_mem_cons.mpr ⟨ok_callV (pc := 38) sp_X5_note (ci := 5) (C := RX5) rfl (by decide) ⟨bw_164, bm_X5_note⟩ (by decide) ⟨rfl, rfl, Nat.le_of_ble_eq_true rfl, Nat.le_of_ble_eq_true rfl⟩ dX5_digest_38, ?_⟩
  refine List.forall_mem_cons.mpr ⟨ok_iinc (pc := 41) dX5_digest_41 (by decide), ?_⟩
  refine List.forall_mem_cons.mpr ⟨ok_goto (pc := 44) (tgt := 24) dX5_digest_44 (by decide), ?_⟩
  refine List.forall_mem_cons.mpr ⟨ok_iinc (pc := 47) dX5_digest_47 (by decide), ?_⟩
  refine List.forall_mem_cons.mpr ⟨ok_goto (pc := 50) (tgt := 9) dX5_digest_50 (by decide), ?_⟩
  refine List.forall_mem_cons.mpr ⟨ok_iconst (pc := 53) dX5_digest_53 (by decide), ?_⟩
  refine List.forall_mem_cons.mpr ⟨ok_istore_n (pc := 54) dX5_digest_54 rfl, ?_⟩
  refine List.forall_mem_cons.mpr ⟨ok_iload_n (pc := 55) dX5_digest_55 rfl, ?_⟩
  refine List.forall_mem_cons.mpr ⟨ok_aload_n (pc := 56) dX5_digest_56 rfl, ?_⟩
  refine List.forall_mem_cons.mpr ⟨ok_getf (pc := 57) (k := 8) (C := RX5) (T := TX5) (N := 24) rfl (by decide) hin_X5 (by decide) hsz_X5 bw_115 dX5_digest_57, ?_⟩
  refine List.forall_mem_cons.mpr ⟨ok_icmp_ge (pc := 60) (tgt := 120) dX5_digest_60 (by decide), ?_⟩
  refine List.forall_mem_cons.mpr ⟨ok_iconst (pc := 63) dX5_digest_63 (by decide), ?_⟩
  refine List.forall_mem_cons.mpr ⟨ok_istore_n (pc := 64) dX5_digest_64 rfl, ?_⟩
  refine List.forall_mem_cons.mpr ⟨ok_iload_n (pc := 65) dX5_digest_65 rfl, ?_⟩
  refine List.forall_mem_cons.mpr ⟨ok_iconst (pc := 66) dX5_digest_66 (by decide), ?_⟩
  refine List.forall_mem_cons.mpr ⟨ok_icmp_ge (pc := 67) (tgt := 87) dX5_digest_67 (by decide), ?_⟩
  refine List.forall_mem_cons.mpr ⟨ok_aload_n (pc := 70) dX5_digest_70 rfl, ?_⟩
  refine List.forall_mem_cons.mpr ⟨ok_aload_n (pc := 71) dX5_digest_71 rfl, ?_⟩
  refine List.forall_mem_cons.mpr ⟨ok_iload_n (pc := 72) dX5_digest_72 rfl, ?_⟩
  refine List.forall_mem_cons.mpr ⟨ok_iload_n (pc := 73) dX5_digest_73 rfl, ?_⟩
  refine List.forall_mem_cons.mpr ⟨ok_callV (pc := 74) sp_X5_tell (ci := 5) (C := RX5) rfl (by decide) ⟨bw_132, bm_X5_tell⟩ (by decide) ⟨rfl, rfl, Nat.le_of_ble_eq_true rfl, Nat.le_of_ble_eq_true rfl⟩ dX5_digest_74, ?_⟩
  refine List.forall_mem_cons.mpr ⟨ok_i2l (pc := 77) dX5_digest_77, ?_⟩
  refine List.forall_mem_cons.mpr ⟨ok_callV (pc := 78) sp_X5_note (ci := 5) (C := RX5) rfl (by decide) ⟨bw_164, bm_X5_note⟩ (by decide) ⟨rfl, rfl, Nat.le_of_ble_eq_true rfl, Nat.le_of_ble_eq_true rfl⟩ dX5_digest_78, ?_⟩
  refine List.forall_mem_cons.mpr ⟨ok_iinc (pc := 81) dX5_digest_81 (by decide), ?_⟩
  refine List.forall_mem_cons.mpr ⟨ok_goto (pc := 84) (tgt := 65) dX5_digest_84 (by decide), ?_⟩
  refine List.forall_mem_cons.mpr ⟨ok_iconst (pc := 87) dX5_digest_87 (by decide), ?_⟩
  refine List.forall_mem_cons.mpr ⟨ok_istore_n (pc := 88) dX5_digest_88 rfl, ?_⟩
  refine List.forall_mem_cons.mpr ⟨ok_iload_n (pc := 89) dX5_digest_89 rfl, ?_⟩
  refine List.forall_mem_cons.mpr ⟨ok_aload_n (pc := 90) dX5_digest_90 rfl, ?_⟩
  refine List.forall_mem_cons.mpr ⟨ok_getf (pc := 91) (k := 8) (C := RX5) (T := TX5) (N := 24) rfl (by decide) hin_X5 (by decide) hsz_X5 bw_115 dX5_digest_91, ?_⟩
  refine List.forall_mem_cons.mpr ⟨ok_icmp_ge (pc := 94) (tgt := 114) dX5_digest_94 (by decide), ?_⟩
  refine List.forall_mem_cons.mpr ⟨ok_aload_n (pc := 97) dX5_digest_97 rfl, ?_⟩
  refine List.forall_mem_cons.mpr ⟨ok_aload_n (pc := 98) dX5_digest_98 rfl, ?_⟩
  refine List.forall_mem_cons.mpr ⟨ok_iload_n (pc := 99) dX5_digest_99 rfl, ?_⟩
  refine List.forall_mem_cons.mpr ⟨ok_iload_n (pc := 100) dX5_digest_100 rfl, ?_⟩
  refine List.forall_mem_cons.mpr ⟨ok_callV (pc := 101) sp_X5_hearsOf (ci := 5) (C := RX5) rfl (by decide) ⟨bw_135, bm_X5_hearsOf⟩ (by decide) ⟨rfl, rfl, Nat.le_of_ble_eq_true rfl, Nat.le_of_ble_eq_true rfl⟩ dX5_digest_101, ?_⟩
  refine List.forall_mem_cons.mpr ⟨ok_i2l (pc := 104) dX5_digest_104, ?_⟩
  refine List.forall_mem_cons.mpr ⟨ok_callV (pc := 105) sp_X5_note (ci := 5) (C := RX5) rfl (by decide) ⟨bw_164, bm_X5_note⟩ (by decide) ⟨rfl, rfl, Nat.le_of_ble_eq_true rfl, Nat.le_of_ble_eq_true rfl⟩ dX5_digest_105, ?_⟩
  refine List.forall_mem_cons.mpr ⟨ok_iinc (pc := 108) dX5_digest_108 (by decide), ?_⟩
  refine List.forall_mem_cons.mpr ⟨ok_goto (pc := 111) (tgt := 89) dX5_digest_111 (by decide), ?_⟩
  refine List.forall_mem_cons.mpr ⟨ok_iinc (pc := 114) dX5_digest_114 (by decide), ?_⟩
  refine List.forall_mem_cons.mpr ⟨ok_goto (pc := 117) (tgt := 55) dX5_digest_117 (by decide), ?_⟩
  refine List.forall_mem_cons.mpr ⟨ok_aload_n (pc := 120) dX5_digest_120 rfl, ?_⟩
  refine List.forall_mem_cons.mpr ⟨ok_getf (pc := 121) (k := 2) (C := RX5) (T := TX5) (N := 24) rfl (by decide) hin_X5 (by decide) hsz_X5 bw_112 dX5_digest_121, ?_⟩
  refine List.forall_mem_cons.mpr ⟨ok_if_eq (pc := 124) (tgt := 145) dX5_digest_124 (by decide), ?_⟩
  refine List.forall_mem_cons.mpr ⟨ok_aload_n (pc := 127) dX5_digest_127 rfl, ?_⟩
  refine List.forall_mem_cons.mpr ⟨ok_aload_n (pc := 128) dX5_digest_128 rfl, ?_⟩
  refine List.forall_mem_cons.mpr ⟨ok_callV (pc := 129) sp_X5_whoBits (ci := 5) (C := RX5) rfl (by decide) ⟨bw_140, bm_X5_whoBits⟩ (by decide) ⟨rfl, rfl, Nat.le_of_ble_eq_true rfl, Nat.le_of_ble_eq_true rfl⟩ dX5_digest_129, ?_⟩
  refine List.forall_mem_cons.mpr ⟨ok_i2l (pc := 132) dX5_digest_132, ?_⟩
  refine List.forall_mem_cons.mpr ⟨ok_callV (pc := 133) sp_X5_note (ci := 5) (C := RX5) rfl (by decide) ⟨bw_164, bm_X5_note⟩ (by decide) ⟨rfl, rfl, Nat.le_of_ble_eq_true rfl, Nat.le_of_ble_eq_true rfl⟩ dX5_digest_133, ?_⟩
  refine List.forall_mem_cons.mpr ⟨ok_aload_n (pc := 136) dX5_digest_136 rfl, ?_⟩
  refine List.forall_mem_cons.mpr ⟨ok_aload_n (pc := 137) dX5_digest_137 rfl, ?_⟩
  refine List.forall_mem_cons.mpr ⟨ok_callV (pc := 138) sp_X5_askOf (ci := 5) (C := RX5) rfl (by decide) ⟨bw_141, bm_X5_askOf⟩ (by decide) ⟨rfl, rfl, Nat.le_of_ble_eq_true rfl, Nat.le_of_ble_eq_true rfl⟩ dX5_digest_138, ?_⟩
  refine List.forall_mem_cons.mpr ⟨ok_i2l (pc := 141) dX5_digest_141, ?_⟩
  refine List.forall_mem_cons.mpr ⟨ok_callV (pc := 142) sp_X5_note (ci := 5) (C := RX5) rfl (by decide) ⟨bw_164, bm_X5_note⟩ (by decide) ⟨rfl, rfl, Nat.le_of_ble_eq_true rfl, Nat.le_of_ble_eq_true rfl⟩ dX5_digest_142, ?_⟩
  refine List.forall_mem_cons.mpr ⟨ok_iconst (pc := 145) dX5_digest_145 (by decide), ?_⟩
  refine List.forall_mem_cons.mpr ⟨ok_istore_n (pc := 146) dX5_digest_146 rfl, ?_⟩
  refine List.forall_mem_cons.mpr ⟨ok_iload_n (pc := 147) dX5_digest_147 rfl, ?_⟩
  refine List.forall_mem_cons.mpr ⟨ok_aload_n (pc := 148) dX5_digest_148 rfl, ?_⟩
  refine List.forall_mem_cons.mpr ⟨ok_getf (pc := 149) (k := 1) (C := RX5) (T := TX5) (N := 24) rfl (by decide) hin_X5 (by decide) hsz_X5 bw_102 dX5_digest_149, ?_⟩
  refine List.forall_mem_cons.mpr ⟨ok_icmp_ge (pc := 152) (tgt := 172) dX5_digest_152 (by decide), ?_⟩
  refine List.forall_mem_cons.mpr ⟨ok_aload_n (pc := 155) dX5_digest_155 rfl, ?_⟩
  refine List.forall_mem_cons.mpr ⟨ok_aload_n (pc := 156) dX5_digest_156 rfl, ?_⟩
  refine List.forall_mem_cons.mpr ⟨ok_getf (pc := 157) (k := 0) (C := RX5) (T := TX5) (N := 24) rfl (by decide) hin_X5 (by decide) hsz_X5 bw_103 dX5_digest_157, ?_⟩
  refine List.forall_mem_cons.mpr ⟨ok_iload_n (pc := 160) dX5_digest_160 rfl, ?_⟩
  refine List.forall_mem_cons.mpr ⟨ok_iald (pc := 161) dX5_digest_161, ?_⟩
  refine List.forall_mem_cons.mpr ⟨ok_i2l (pc := 162) dX5_digest_162, ?_⟩
  refine List.forall_mem_cons.mpr ⟨ok_callV (pc := 163) sp_X5_note (ci := 5) (C := RX5) rfl (by decide) ⟨bw_164, bm_X5_note⟩ (by decide) ⟨rfl, rfl, Nat.le_of_ble_eq_true rfl, Nat.le_of_ble_eq_true rfl⟩ dX5_digest_163, ?_⟩
  refine List.forall_mem_cons.mpr ⟨ok_iinc (pc := 166) dX5_digest_166 (by decide), ?_⟩
  refine List.forall_mem_cons.mpr ⟨ok_goto (pc := 169) (tgt := 147) dX5_digest_169 (by decide), ?_⟩
  refine List.forall_mem_cons.mpr ⟨ok_iconst (pc := 172) dX5_digest_172 (by decide), ?_⟩
  refine List.forall_mem_cons.mpr ⟨ok_istore_n (pc := 173) dX5_digest_173 rfl, ?_⟩
  refine List.forall_mem_cons.mpr ⟨ok_iload_n (pc := 174) dX5_digest_174 rfl, ?_⟩
  refine List.forall_mem_cons.mpr ⟨ok_bipush (pc := 175) dX5_digest_175 (by decide), ?_⟩
  refine List.forall_mem_cons.mpr ⟨ok_icmp_ge (pc := 177) (tgt := 196) dX5_digest_177 (by decide), ?_⟩
  refine List.forall_mem_cons.mpr ⟨ok_aload_n (pc := 180) dX5_digest_180 rfl, ?_⟩
  refine List.forall_mem_cons.mpr ⟨ok_aload_n (pc := 181) dX5_digest_181 rfl, ?_⟩
  refine List.forall_mem_cons.mpr ⟨ok_iload_n (pc := 182) dX5_digest_182 rfl, ?_⟩
  refine List.forall_mem_cons.mpr ⟨ok_callV (pc := 183) sp_X5_countOf (ci := 5) (C := RX5) rfl (by decide) ⟨bw_160, bm_X5_countOf⟩ (by decide) ⟨rfl, rfl, Nat.le_of_ble_eq_true rfl, Nat.le_of_ble_eq_true rfl⟩ dX5_digest_183, ?_⟩
  refine List.forall_mem_cons.mpr ⟨ok_i2l (pc := 186) dX5_digest_186, ?_⟩
  refine List.forall_mem_cons.mpr ⟨ok_callV (pc := 187) sp_X5_note (ci := 5) (C := RX5) rfl (by decide) ⟨bw_164, bm_X5_note⟩ (by decide) ⟨rfl, rfl, Nat.le_of_ble_eq_true rfl, Nat.le_of_ble_eq_true rfl⟩ dX5_digest_187, ?_⟩
  refine List.forall_mem_cons.mpr ⟨ok_iinc (pc := 190) dX5_digest_190 (by decide), ?_⟩
  refine List.forall_mem_cons.mpr ⟨ok_goto (pc := 193) (tgt := 174) dX5_digest_193 (by decide), ?_⟩
  refine List.forall_mem_cons.mpr ⟨ok_aload_n (pc := 196) dX5_digest_196 rfl, ?_⟩
  refine List.forall_mem_cons.mpr ⟨ok_getf (pc := 197) (k := 23) (C := RX5) (T := TX5) (N := 24) rfl (by decide) hin_X5 (by decide) hsz_X5 bw_162 dX5_digest_197, ?_⟩
  refine List.forall_mem_cons.mpr ⟨ok_lret (pc := 200) dX5_digest_200, ?_⟩
  exact fun _ h => absurd h List.not_mem_nil
