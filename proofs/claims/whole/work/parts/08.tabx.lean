def o_mmax (nx : Nat) : mm_T := fun lc st μ K _ _ => match st with
  | [.int y, .int x] => K nx lc [.int (if x < y then y else x)] μ
  | _ => False
theorem ok_mmax {own : String} {cc : ByteArray} {nL : Nat} {ret : Option FieldType} {R : Room} {pc index : Nat} (hw : Cond.methodLink own index Lib.Math.max.name ∈ mm_big) (hw2 : (.static Lib.Math.max.name ∈ mm_big ∧ .initialized "java/lang/Math" ∈ mm_big ∧ .code Lib.Math.max.name Lib.Math.max.code 2 (some .int) ∈ mm_big)) (hR : 1 ≤ R.frames ∧ 13 ≤ R.locals) (hd : decode cc pc = .ok (.invokestatic index, 3)) : mm_ok own cc nL ret R pc (o_mmax (pc + 3)) := by
  intro l σ dC dI cI hi p e s m args below meth c hC Qr K hK lc st μ h H locs ls hP hS hL
  unfold o_mmax at h
  have hts := hC.2.2.2.2.2.2.1
  split at h
  · exact va_mmax (rest := []) hC.1 hC.2.1 (hC.2.2.1.trans hL.1.symm) hC.2.2.2.2.2.1 (hts _ hw) (hts _ hw2.1) (hts _ hw2.2.1) (hts _ hw2.2.2) hR.1 (by simpa using hR.2) (Nat.zero_le _) (Nat.zero_le _) hd (hK _ _ _ _ h H locs ls hP hS hL)
  · exact h.elim
abbrev k_X0_next : List (Nat × mm_T) := [(0, o_ald 0 1), (1, o_lc 1103515245 4), (4, o_ald 0 5), (5, o_getf 0 0 8), (8, o_lmul 9), (9, o_lc 12345 12), (12, o_ladd 13), (13, o_lc 2147483648 16), (16, o_lrem 17), (17, o_putf 0 0 20), (20, o_ild 1 21), (21, o_if_le 39 24), (24, o_ald 0 25), (25, o_getf 0 0 28), (28, o_lc 65536 31), (31, o_ldiv 32), (32, o_ild 1 33), (33, o_i2l 34), (34, o_lrem 35), (35, o_l2i 36), (36, o_goto 40), (39, o_ic 0 40), (40, o_iret)]
def m_X0_next : Nat → mm_T := mm_look k_X0_next
set_option maxRecDepth 20000 in
theorem sp_X0_next : mm_Sp yX0_next cX0_next 2 (some .int) { frames := 0, cells := 0, slots := 0, locals := 0 } m_X0_next := by
  refine mm_sound (own := RX0) (code := k_X0_next) (by decide) rfl ?_
  refine List.forall_mem_cons.mpr ⟨ok_aload_n (pc := 0) dX0_next_0 rfl, ?_⟩
  refine List.forall_mem_cons.mpr ⟨ok_ldc2 (pc := 1) bw_0 dX0_next_1, ?_⟩
  refine List.forall_mem_cons.mpr ⟨ok_aload_n (pc := 4) dX0_next_4 rfl, ?_⟩
  refine List.forall_mem_cons.mpr ⟨ok_getf (pc := 5) (k := 0) (C := RX0) (T := TX0) (N := 1) rfl (by decide) hin_X0 (by decide) hsz_X0 bw_1 dX0_next_5, ?_⟩
  refine List.forall_mem_cons.mpr ⟨ok_lmul (pc := 8) dX0_next_8, ?_⟩
  refine List.forall_mem_cons.mpr ⟨ok_ldc2 (pc := 9) bw_2 dX0_next_9, ?_⟩
  refine List.forall_mem_cons.mpr ⟨ok_ladd (pc := 12) dX0_next_12, ?_⟩
  refine List.forall_mem_cons.mpr ⟨ok_ldc2 (pc := 13) bw_3 dX0_next_13, ?_⟩
  refine List.forall_mem_cons.mpr ⟨ok_lrem (pc := 16) dX0_next_16, ?_⟩
  refine List.forall_mem_cons.mpr ⟨ok_putf (pc := 17) (k := 0) (C := RX0) (T := TX0) (N := 1) tyX0 tyX0_ok nmX0 rfl (by decide) hin_X0 (by decide) hsz_X0 hkt_X0_0 rfl bw_1 dX0_next_17, ?_⟩
  refine List.forall_mem_cons.mpr ⟨ok_iload_n (pc := 20) dX0_next_20 rfl, ?_⟩
  refine List.forall_mem_cons.mpr ⟨ok_if_le (pc := 21) (tgt := 39) dX0_next_21 (by decide), ?_⟩
  refine List.forall_mem_cons.mpr ⟨ok_aload_n (pc := 24) dX0_next_24 rfl, ?_⟩
  refine List.forall_mem_cons.mpr ⟨ok_getf (pc := 25) (k := 0) (C := RX0) (T := TX0) (N := 1) rfl (by decide) hin_X0 (by decide) hsz_X0 bw_1 dX0_next_25, ?_⟩
  refine List.forall_mem_cons.mpr ⟨ok_ldc2 (pc := 28) bw_4 dX0_next_28, ?_⟩
  refine List.forall_mem_cons.mpr ⟨ok_ldiv (pc := 31) dX0_next_31, ?_⟩
  refine List.forall_mem_cons.mpr ⟨ok_iload_n (pc := 32) dX0_next_32 rfl, ?_⟩
  refine List.forall_mem_cons.mpr ⟨ok_i2l (pc := 33) dX0_next_33, ?_⟩
  refine List.forall_mem_cons.mpr ⟨ok_lrem (pc := 34) dX0_next_34, ?_⟩
  refine List.forall_mem_cons.mpr ⟨ok_l2i (pc := 35) dX0_next_35, ?_⟩
  refine List.forall_mem_cons.mpr ⟨ok_goto (pc := 36) (tgt := 40) dX0_next_36 (by decide), ?_⟩
  refine List.forall_mem_cons.mpr ⟨ok_iconst (pc := 39) dX0_next_39 (by decide), ?_⟩
  refine List.forall_mem_cons.mpr ⟨ok_iret (pc := 40) dX0_next_40, ?_⟩
  exact fun _ h => absurd h List.not_mem_nil
abbrev k_J7_fill_53178 : List (Nat × mm_T) := [(0, o_ic 0 1), (1, o_ist 2 2), (2, o_ald 0 3), (3, o_alen 4), (4, o_ist 3 5), (5, o_ild 2 6), (6, o_ild 3 7), (7, o_ic_ge 20 10), (10, o_ald 0 11), (11, o_ild 2 12), (12, o_ild 1 13), (13, o_iast 14), (14, o_iinc 2 1 17), (17, o_goto 5), (20, o_vret)]
def m_J7_fill_53178 : Nat → mm_T := mm_look k_J7_fill_53178
set_option maxRecDepth 20000 in
theorem sp_J7_fill_53178 : mm_Sp yJ7_fill_53178 cJ7_fill_53178 4 none { frames := 0, cells := 0, slots := 0, locals := 0 } m_J7_fill_53178 := by
  refine mm_sound (own := RJ7) (code := k_J7_fill_53178) (by decide) rfl ?_
  refine List.forall_mem_cons.mpr ⟨ok_iconst (pc := 0) dJ7_fill_53178_0 (by decide), ?_⟩
  refine List.forall_mem_cons.mpr ⟨ok_istore_n (pc := 1) dJ7_fill_53178_1 rfl, ?_⟩
  refine List.forall_mem_cons.mpr ⟨ok_aload_n (pc := 2) dJ7_fill_53178_2 rfl, ?_⟩
  refine List.forall_mem_cons.mpr ⟨ok_alen (pc := 3) dJ7_fill_53178_3, ?_⟩
  refine List.forall_mem_cons.mpr ⟨ok_istore_n (pc := 4) dJ7_fill_53178_4 rfl, ?_⟩
  refine List.forall_mem_cons.mpr ⟨ok_iload_n (pc := 5) dJ7_fill_53178_5 rfl, ?_⟩
  refine List.forall_mem_cons.mpr ⟨ok_iload_n (pc := 6) dJ7_fill_53178_6 rfl, ?_⟩
  refine List.forall_mem_cons.mpr ⟨ok_icmp_ge (pc := 7) (tgt := 20) dJ7_fill_53178_7 (by decide), ?_⟩
  refine List.forall_mem_cons.mpr ⟨ok_aload_n (pc := 10) dJ7_fill_53178_10 rfl, ?_⟩
  refine List.forall_mem_cons.mpr ⟨ok_iload_n (pc := 11) dJ7_fill_53178_11 rfl, ?_⟩
  refine List.forall_mem_cons.mpr ⟨ok_iload_n (pc := 12) dJ7_fill_53178_12 rfl, ?_⟩
  refine List.forall_mem_cons.mpr ⟨ok_iast (pc := 13) dJ7_fill_53178_13, ?_⟩
  refine List.forall_mem_cons.mpr ⟨ok_iinc (pc := 14) dJ7_fill_53178_14 (by decide), ?_⟩
  refine List.forall_mem_cons.mpr ⟨ok_goto (pc := 17) (tgt := 5) dJ7_fill_53178_17 (by decide), ?_⟩
  refine List.forall_mem_cons.mpr ⟨ok_vret (pc := 20) dJ7_fill_53178_20, ?_⟩
  exact fun _ h => absurd h List.not_mem_nil
abbrev k_X4_hasBit : List (Nat × mm_T) := [(0, o_ild 0 1), (1, o_ild 1 2), (2, o_ishr 3), (3, o_ic 1 4), (4, o_iand 5), (5, o_ic 1 6), (6, o_ic_ne 13 9), (9, o_ic 1 10), (10, o_goto 14), (13, o_ic 0 14), (14, o_zret)]
def m_X4_hasBit : Nat → mm_T := mm_look k_X4_hasBit
set_option maxRecDepth 20000 in
theorem sp_X4_hasBit : mm_Sp yX4_hasBit cX4_hasBit 2 (some .boolean) { frames := 0, cells := 0, slots := 0, locals := 0 } m_X4_hasBit := by
  refine mm_sound (own := RX4) (code := k_X4_hasBit) (by decide) rfl ?_
  refine List.forall_mem_cons.mpr ⟨ok_iload_n (pc := 0) dX4_hasBit_0 rfl, ?_⟩
  refine List.forall_mem_cons.mpr ⟨ok_iload_n (pc := 1) dX4_hasBit_1 rfl, ?_⟩
  refine List.forall_mem_cons.mpr ⟨ok_ishr (pc := 2) dX4_hasBit_2, ?_⟩
  refine List.forall_mem_cons.mpr ⟨ok_iconst (pc := 3) dX4_hasBit_3 (by decide), ?_⟩
  refine List.forall_mem_cons.mpr ⟨ok_iand (pc := 4) dX4_hasBit_4, ?_⟩
  refine List.forall_mem_cons.mpr ⟨ok_iconst (pc := 5) dX4_hasBit_5 (by decide), ?_⟩
  refine List.forall_mem_cons.mpr ⟨ok_icmp_ne (pc := 6) (tgt := 13) dX4_hasBit_6 (by decide), ?_⟩
  refine List.forall_mem_cons.mpr ⟨ok_iconst (pc := 9) dX4_hasBit_9 (by decide), ?_⟩
  refine List.forall_mem_cons.mpr ⟨ok_goto (pc := 10) (tgt := 14) dX4_hasBit_10 (by decide), ?_⟩
  refine List.forall_mem_cons.mpr ⟨ok_iconst (pc := 13) dX4_hasBit_13 (by decide), ?_⟩
  refine List.forall_mem_cons.mpr ⟨ok_zret (pc := 14) dX4_hasBit_14, ?_⟩
  exact fun _ h => absurd h List.not_mem_nil
abbrev k_X1_earliestWaiting : List (Nat × mm_T) := [(0, o_ic 0 1), (1, o_ist 2 2), (2, o_ic 0 3), (3, o_ist 3 4), (4, o_ic 0 5), (5, o_ist 4 7), (7, o_ild 4 9), (9, o_ild 1 10), (10, o_ic_ge 56 13), (13, o_ald 0 14), (14, o_getf 1 2 17), (17, o_ild 4 19), (19, o_callS m_X4_hasBit 2 2 22), (22, o_if_eq 50 25), (25, o_ild 3 26), (26, o_if_eq 45 29), (29, o_ald 0 30), (30, o_getf 1 0 33), (33, o_ild 4 35), (35, o_iald 36), (36, o_ald 0 37), (37, o_getf 1 0 40), (40, o_ild 2 41), (41, o_iald 42), (42, o_ic_ge 50 45), (45, o_ild 4 47), (47, o_ist 2 48), (48, o_ic 1 49), (49, o_ist 3 50), (50, o_iinc 4 1 53), (53, o_goto 7), (56, o_ild 2 57), (57, o_iret)]
def m_X1_earliestWaiting : Nat → mm_T := mm_look k_X1_earliestWaiting
set_option maxRecDepth 20000 in
theorem sp_X1_earliestWaiting : mm_Sp yX1_earliestWaiting cX1_earliestWaiting 5 (some .int) { frames := 1, cells := 0, slots := 0, locals := 21 } m_X1_earliestWaiting := by
  refine mm_sound (own := RX1) (code := k_X1_earliestWaiting) (by decide) rfl ?_
  refine List.forall_mem_cons.mpr ⟨ok_iconst (pc := 0) dX1_earliestWaiting_0 (by decide), ?_⟩
  refine List.forall_mem_cons.mpr ⟨ok_istore_n (pc := 1) dX1_earliestWaiting_1 rfl, ?_⟩
  refine List.forall_mem_cons.mpr ⟨ok_iconst (pc := 2) dX1_earliestWaiting_2 (by decide), ?_⟩
  refine List.forall_mem_cons.mpr ⟨ok_istore_n (pc := 3) dX1_earliestWaiting_3 rfl, ?_⟩
  refine List.forall_mem_cons.mpr ⟨ok_iconst (pc := 4) dX1_earliestWaiting_4 (by decide), ?_⟩
  refine List.forall_mem_cons.mpr ⟨ok_istore (pc := 5) dX1_earliestWaiting_5, ?_⟩
  refine List.forall_mem_cons.mpr ⟨ok_iload (pc := 7) dX1_earliestWaiting_7, ?_⟩
  refine List.forall_mem_cons.mpr ⟨ok_iload_n (pc := 9) dX1_earliestWaiting_9 rfl, ?_⟩
  refine List.forall_mem_cons.mpr ⟨ok_icmp_ge (pc := 10) (tgt := 56) dX1_earliestWaiting_10 (by decide), ?_⟩
  refine List.forall_mem_cons.mpr ⟨ok_aload_n (pc := 13) dX1_earliestWaiting_13 rfl, ?_⟩
  refine List.forall_mem_cons.mpr ⟨ok_getf (pc := 14) (k := 2) (C := RX1) (T := TX1) (N := 3) rfl (by decide) hin_X1 (by decide) hsz_X1 bw_5 dX1_earliestWaiting_14, ?_⟩
  refine List.forall_mem_cons.mpr ⟨ok_iload (pc := 17) dX1_earliestWaiting_17, ?_⟩
  refine List.forall_mem_cons.mpr ⟨ok_callSN (pc := 19) (host := RX4) sp_X4_hasBit ⟨by decide +kernel, bs_X4_hasBit⟩ (by decide) ⟨rfl, rfl, Nat.le_of_ble_eq_true rfl, Nat.le_of_ble_eq_true rfl⟩ dX1_earliestWaiting_19, ?_⟩
  refine List.forall_mem_cons.mpr ⟨ok_if_eq (pc := 22) (tgt := 50) dX1_earliestWaiting_22 (by decide), ?_⟩
  refine List.forall_mem_cons.mpr ⟨ok_iload_n (pc := 25) dX1_earliestWaiting_25 rfl, ?_⟩
  refine List.forall_mem_cons.mpr ⟨ok_if_eq (pc := 26) (tgt := 45) dX1_earliestWaiting_26 (by decide), ?_⟩
  refine List.forall_mem_cons.mpr ⟨ok_aload_n (pc := 29) dX1_earliestWaiting_29 rfl, ?_⟩
  refine List.forall_mem_cons.mpr ⟨ok_getf (pc := 30) (k := 0) (C := RX1) (T := TX1) (N := 3) rfl (by decide) hin_X1 (by decide) hsz_X1 bw_6 dX1_earliestWaiting_30, ?_⟩
  refine List.forall_mem_cons.mpr ⟨ok_iload (pc := 33) dX1_earliestWaiting_33, ?_⟩
  refine List.forall_mem_cons.mpr ⟨ok_iald (pc := 35) dX1_earliestWaiting_35, ?_⟩
  refine List.forall_mem_cons.mpr ⟨ok_aload_n (pc := 36) dX1_earliestWaiting_36 rfl, ?_⟩
  refine List.forall_mem_cons.mpr ⟨ok_getf (pc := 37) (k := 0) (C := RX1) (T := TX1) (N := 3) rfl (by decide) hin_X1 (by decide) hsz_X1 bw_6 dX1_earliestWaiting_37, ?_⟩
  refine List.forall_mem_cons.mpr ⟨ok_iload_n (pc := 40) dX1_earliestWaiting_40 rfl, ?_⟩
  refine List.forall_mem_cons.mpr ⟨ok_iald (pc := 41) dX1_earliestWaiting_41, ?_⟩
  refine List.forall_mem_cons.mpr ⟨ok_icmp_ge (pc := 42) (tgt := 50) dX1_earliestWaiting_42 (by decide), ?_⟩
  refine List.forall_mem_cons.mpr ⟨ok_iload (pc := 45) dX1_earliestWaiting_45, ?_⟩
  refine List.forall_mem_cons.mpr ⟨ok_istore_n (pc := 47) dX1_earliestWaiting_47 rfl, ?_⟩
  refine List.forall_mem_cons.mpr ⟨ok_iconst (pc := 48) dX1_earliestWaiting_48 (by decide), ?_⟩
  refine List.forall_mem_cons.mpr ⟨ok_istore_n (pc := 49) dX1_earliestWaiting_49 rfl, ?_⟩
  refine List.forall_mem_cons.mpr ⟨ok_iinc (pc := 50) dX1_earliestWaiting_50 (by decide), ?_⟩
  refine List.forall_mem_cons.mpr ⟨ok_goto (pc := 53) (tgt := 7) dX1_earliestWaiting_53 (by decide), ?_⟩
  refine List.forall_mem_cons.mpr ⟨ok_iload_n (pc := 56) dX1_earliestWaiting_56 rfl, ?_⟩
  refine List.forall_mem_cons.mpr ⟨ok_iret (pc := 57) dX1_earliestWaiting_57, ?_⟩
  exact fun _ h => absurd h List.not_mem_nil
abbrev k_X4_isOfKind : List (Nat × mm_T) := [(0, o_ild 1 1), (1, o_ild 0 2), (2, o_ic_eq 19 5), (5, o_ild 1 6), (6, o_if_eq 19 9), (9, o_ild 1 10), (10, o_ic 2 11), (11, o_ic_ne 23 14), (14, o_ild 0 15), (15, o_ic 4 16), (16, o_ic_ne 23 19), (19, o_ic 1 20), (20, o_goto 24), (23, o_ic 0 24), (24, o_zret)]
def m_X4_isOfKind : Nat → mm_T := mm_look k_X4_isOfKind
set_option maxRecDepth 20000 in
theorem sp_X4_isOfKind : mm_Sp yX4_isOfKind cX4_isOfKind 2 (some .boolean) { frames := 0, cells := 0, slots := 0, locals := 0 } m_X4_isOfKind := by
  refine mm_sound (own := RX4) (code := k_X4_isOfKind) (by decide) rfl ?_
  refine List.forall_mem_cons.mpr ⟨ok_iload_n (pc := 0) dX4_isOfKind_0 rfl, ?_⟩
  refine List.forall_mem_cons.mpr ⟨ok_iload_n (pc := 1) dX4_isOfKind_1 rfl, ?_⟩
  refine List.forall_mem_cons.mpr ⟨ok_icmp_eq (pc := 2) (tgt := 19) dX4_isOfKind_2 (by decide), ?_⟩
  refine List.forall_mem_cons.mpr ⟨ok_iload_n (pc := 5) dX4_isOfKind_5 rfl, ?_⟩
  refine List.forall_mem_cons.mpr ⟨ok_if_eq (pc := 6) (tgt := 19) dX4_isOfKind_6 (by decide), ?_⟩
  refine List.forall_mem_cons.mpr ⟨ok_iload_n (pc := 9) dX4_isOfKind_9 rfl, ?_⟩
  refine List.forall_mem_cons.mpr ⟨ok_iconst (pc := 10) dX4_isOfKind_10 (by decide), ?_⟩
  refine List.forall_mem_cons.mpr ⟨ok_icmp_ne (pc := 11) (tgt := 23) dX4_isOfKind_11 (by decide), ?_⟩
  refine List.forall_mem_cons.mpr ⟨ok_iload_n (pc := 14) dX4_isOfKind_14 rfl, ?_⟩
  refine List.forall_mem_cons.mpr ⟨ok_iconst (pc := 15) dX4_isOfKind_15 (by decide), ?_⟩
  refine List.forall_mem_cons.mpr ⟨ok_icmp_ne (pc := 16) (tgt := 23) dX4_isOfKind_16 (by decide), ?_⟩
  refine List.forall_mem_cons.mpr ⟨ok_iconst (pc := 19) dX4_isOfKind_19 (by decide), ?_⟩
  refine List.forall_mem_cons.mpr ⟨ok_goto (pc := 20) (tgt := 24) dX4_isOfKind_20 (by decide), ?_⟩
  refine List.forall_mem_cons.mpr ⟨ok_iconst (pc := 23) dX4_isOfKind_23 (by decide), ?_⟩
  refine List.forall_mem_cons.mpr ⟨ok_zret (pc := 24) dX4_isOfKind_24, ?_⟩
  exact fun _ h => absurd h List.not_mem_nil
abbrev k_X1_reach : List (Nat × mm_T) := [(0, o_ald 0 1), (1, o_getf 1 1 4), (4, o_ild 2 5), (5, o_callS m_X4_hasBit 2 2 8), (8, o_if_eq 22 11), (11, o_ald 0 12), (12, o_getf 1 0 15), (15, o_ild 2 16), (16, o_iald 17), (17, o_ild 3 18), (18, o_ic_gt 22 21), (21, o_vret), (22, o_ald 0 23), (23, o_getf 1 0 26), (26, o_ild 2 27), (27, o_ild 3 28), (28, o_iast 29), (29, o_ald 0 30), (30, o_dup 31), (31, o_getf 1 1 34), (34, o_ic 1 35), (35, o_ild 2 36), (36, o_ishl 37), (37, o_ior 38), (38, o_putf 1 1 41), (41, o_ald 1 42), (42, o_getf 3 1 45), (45, o_ild 2 46), (46, o_iald 47), (47, o_ic 2 48), (48, o_callS m_X4_isOfKind 2 2 51), (51, o_if_eq 66 54), (54, o_ald 0 55), (55, o_dup 56), (56, o_getf 1 2 59), (59, o_ic 1 60), (60, o_ild 2 61), (61, o_ishl 62), (62, o_ior 63), (63, o_putf 1 2 66), (66, o_vret)]
def m_X1_reach : Nat → mm_T := mm_look k_X1_reach
set_option maxRecDepth 20000 in
theorem sp_X1_reach : mm_Sp yX1_reach cX1_reach 4 none { frames := 1, cells := 0, slots := 0, locals := 21 } m_X1_reach := by
  refine mm_sound (own := RX1) (code := k_X1_reach) (by decide) rfl ?_
  refine List.forall_mem_cons.mpr ⟨ok_aload_n (pc := 0) dX1_reach_0 rfl, ?_⟩
  refine List.forall_mem_cons.mpr ⟨ok_getf (pc := 1) (k := 1) (C := RX1) (T := TX1) (N := 3) rfl (by decide) hin_X1 (by decide) hsz_X1 bw_7 dX1_reach_1, ?_⟩
  refine List.forall_mem_cons.mpr ⟨ok_iload_n (pc := 4) dX1_reach_4 rfl, ?_⟩
  refine List.forall_mem_cons.mpr ⟨ok_callSN (pc := 5) (host := RX4) sp_X4_hasBit ⟨by decide +kernel, bs_X4_hasBit⟩ (by decide) ⟨rfl, rfl, Nat.le_of_ble_eq_true rfl, Nat.le_of_ble_eq_true rfl⟩ dX1_reach_5, ?_⟩
  refine List.forall_mem_cons.mpr ⟨ok_if_eq (pc := 8) (tgt := 22) dX1_reach_8 (by decide), ?_⟩
  refine List.forall_mem_cons.mpr ⟨ok_aload_n (pc := 11) dX1_reach_11 rfl, ?_⟩
  refine List.forall_mem_cons.mpr ⟨ok_getf (pc := 12) (k := 0) (C := RX1) (T := TX1) (N := 3) rfl (by decide) hin_X1 (by decide) hsz_X1 bw_6 dX1_reach_12, ?_⟩
  refine List.forall_mem_cons.mpr ⟨ok_iload_n (pc := 15) dX1_reach_15 rfl, ?_⟩
  refine List.forall_mem_cons.mpr ⟨ok_iald (pc := 16) dX1_reach_16, ?_⟩
  refine List.forall_mem_cons.mpr ⟨ok_iload_n (pc := 17) dX1_reach_17 rfl, ?_⟩
  refine List.forall_mem_cons.mpr ⟨ok_icmp_gt (pc := 18) (tgt := 22) dX1_reach_18 (by decide), ?_⟩
  refine List.forall_mem_cons.mpr ⟨ok_vret (pc := 21) dX1_reach_21, ?_⟩
  refine List.forall_mem_cons.mpr ⟨ok_aload_n (pc := 22) dX1_reach_22 rfl, ?_⟩
  refine List.forall_mem_cons.mpr ⟨ok_getf (pc := 23) (k := 0) (C := RX1) (T := TX1) (N := 3) rfl (by decide) hin_X1 (by decide) hsz_X1 bw_6 dX1_reach_23, ?_⟩
  refine List.forall_mem_cons.mpr ⟨ok_iload_n (pc := 26) dX1_reach_26 rfl, ?_⟩
  refine List.forall_mem_cons.mpr ⟨ok_iload_n (pc := 27) dX1_reach_27 rfl, ?_⟩
  refine List.forall_mem_cons.mpr ⟨ok_iast (pc := 28) dX1_reach_28, ?_⟩
  refine List.forall_mem_cons.mpr ⟨ok_aload_n (pc := 29) dX1_reach_29 rfl, ?_⟩
  refine List.forall_mem_cons.mpr ⟨ok_dup (pc := 30) dX1_reach_30, ?_⟩
  refine List.forall_mem_cons.mpr ⟨ok_getf (pc := 31) (k := 1) (C := RX1) (T := TX1) (N := 3) rfl (by decide) hin_X1 (by decide) hsz_X1 bw_7 dX1_reach_31, ?_⟩
  refine List.forall_mem_cons.mpr ⟨ok_iconst (pc := 34) dX1_reach_34 (by decide), ?_⟩
  refine List.forall_mem_cons.mpr ⟨ok_iload_n (pc := 35) dX1_reach_35 rfl, ?_⟩
  refine List.forall_mem_cons.mpr ⟨ok_ishl (pc := 36) dX1_reach_36, ?_⟩
  refine List.forall_mem_cons.mpr ⟨ok_ior (pc := 37) dX1_reach_37, ?_⟩
  refine List.forall_mem_cons.mpr ⟨ok_putf (pc := 38) (k := 1) (C := RX1) (T := TX1) (N := 3) tyX1 tyX1_ok nmX1 rfl (by decide) hin_X1 (by decide) hsz_X1 hkt_X1_1 rfl bw_7 dX1_reach_38, ?_⟩
  refine List.forall_mem_cons.mpr ⟨ok_aload_n (pc := 41) dX1_reach_41 rfl, ?_⟩
  refine List.forall_mem_cons.mpr ⟨ok_getf (pc := 42) (k := 1) (C := RX3) (T := TX3) (N := 9) rfl (by decide) hin_X3 (by decide) hsz_X3 bw_8 dX1_reach_42, ?_⟩
  refine List.forall_mem_cons.mpr ⟨ok_iload_n (pc := 45) dX1_reach_45 rfl, ?_⟩
  refine List.forall_mem_cons.mpr ⟨ok_iald (pc := 46) dX1_reach_46, ?_⟩
  refine List.forall_mem_cons.mpr ⟨ok_iconst (pc := 47) dX1_reach_47 (by decide), ?_⟩
  refine List.forall_mem_cons.mpr ⟨ok_callSN (pc := 48) (host := RX4) sp_X4_isOfKind ⟨by decide +kernel, bs_X4_isOfKind⟩ (by decide) ⟨rfl, rfl, Nat.le_of_ble_eq_true rfl, Nat.le_of_ble_eq_true rfl⟩ dX1_reach_48, ?_⟩
  refine List.forall_mem_cons.mpr ⟨ok_if_eq (pc := 51) (tgt := 66) dX1_reach_51 (by decide), ?_⟩
  refine List.forall_mem_cons.mpr ⟨ok_aload_n (pc := 54) dX1_reach_54 rfl, ?_⟩
  refine List.forall_mem_cons.mpr ⟨ok_dup (pc := 55) dX1_reach_55, ?_⟩
  refine List.forall_mem_cons.mpr ⟨ok_getf (pc := 56) (k := 2) (C := RX1) (T := TX1) (N := 3) rfl (by decide) hin_X1 (by decide) hsz_X1 bw_5 dX1_reach_56, ?_⟩
  refine List.forall_mem_cons.mpr ⟨ok_iconst (pc := 59) dX1_reach_59 (by decide), ?_⟩
  refine List.forall_mem_cons.mpr ⟨ok_iload_n (pc := 60) dX1_reach_60 rfl, ?_⟩
  refine List.forall_mem_cons.mpr ⟨ok_ishl (pc := 61) dX1_reach_61, ?_⟩
  refine List.forall_mem_cons.mpr ⟨ok_ior (pc := 62) dX1_reach_62, ?_⟩
  refine List.forall_mem_cons.mpr ⟨ok_putf (pc := 63) (k := 2) (C := RX1) (T := TX1) (N := 3) tyX1 tyX1_ok nmX1 rfl (by decide) hin_X1 (by decide) hsz_X1 hkt_X1_2 rfl bw_5 dX1_reach_63, ?_⟩
  refine List.forall_mem_cons.mpr ⟨ok_vret (pc := 66) dX1_reach_66, ?_⟩
  exact fun _ h => absurd h List.not_mem_nil
abbrev k_X1_utter : List (Nat × mm_T) := [(0, o_ald 2 1), (1, o_getf 3 2 4), (4, o_ild 3 5), (5, o_iald 6), (6, o_ist 4 8), (8, o_ald 1 9), (9, o_getf 2 0 12), (12, o_ild 4 14), (14, o_iald 15), (15, o_ist 5 17), (17, o_ald 2 18), (18, o_getf 3 1 21), (21, o_ild 3 22), (22, o_iald 23), (23, o_ic 4 24), (24, o_ic_eq 39 27), (27, o_ald 2 28), (28, o_getf 3 4 31), (31, o_ild 5 33), (33, o_callS m_X4_hasBit 2 2 36), (36, o_if_ne 43 39), (39, o_ic 1 40), (40, o_goto 44), (43, o_ic 0 44), (44, o_ist 6 46), (46, o_ic 0 47), (47, o_ist 7 49), (49, o_ild 7 51), (51, o_ald 2 52), (52, o_getf 3 0 55), (55, o_ic_ge 144 58), (58, o_ald 2 59), (59, o_getf 3 1 62), (62, o_ild 7 64), (64, o_iald 65), (65, o_ic 1 66), (66, o_ic_ne 72 69), (69, o_goto 138), (72, o_ald 2 73), (73, o_getf 3 2 76), (76, o_ild 7 78), (78, o_iald 79), (79, o_ild 4 81), (81, o_ic_ne 100 84), (84, o_ald 0 85), (85, o_ald 2 86), (86, o_ild 7 88), (88, o_ald 0 89), (89, o_getf 1 0 92), (92, o_ild 3 93), (93, o_iald 94), (94, o_callV 1 m_X1_reach 4 3 97), (97, o_goto 138), (100, o_ild 6 102), (102, o_if_eq 138 105), (105, o_ald 2 106), (106, o_getf 3 2 109), (109, o_ild 7 111), (111, o_iald 112), (112, o_ild 5 114), (114, o_ic_ne 138 117), (117, o_ald 0 118), (118, o_ald 2 119), (119, o_ild 7 121), (121, o_ald 0 122), (122, o_getf 1 0 125), (125, o_ild 3 126), (126, o_iald 127), (127, o_ald 1 128), (128, o_getf 2 1 131), (131, o_ild 4 133), (133, o_iald 134), (134, o_iadd 135), (135, o_callV 1 m_X1_reach 4 3 138), (138, o_iinc 7 1 141), (141, o_goto 49), (144, o_vret)]
def m_X1_utter : Nat → mm_T := mm_look k_X1_utter
set_option maxRecDepth 20000 in
theorem sp_X1_utter : mm_Sp yX1_utter cX1_utter 8 none { frames := 2, cells := 0, slots := 0, locals := 44 } m_X1_utter := by
  refine mm_sound (own := RX1) (code := k_X1_utter) (by decide) rfl ?_
  refine List.forall_mem_cons.mpr ⟨ok_aload_n (pc := 0) dX1_utter_0 rfl, ?_⟩
  refine List.forall_mem_cons.mpr ⟨ok_getf (pc := 1) (k := 2) (C := RX3) (T := TX3) (N := 9) rfl (by decide) hin_X3 (by decide) hsz_X3 bw_9 dX1_utter_1, ?_⟩
  refine List.forall_mem_cons.mpr ⟨ok_iload_n (pc := 4) dX1_utter_4 rfl, ?_⟩
  refine List.forall_mem_cons.mpr ⟨ok_iald (pc := 5) dX1_utter_5, ?_⟩
  refine List.forall_mem_cons.mpr ⟨ok_istore (pc := 6) dX1_utter_6, ?_⟩
  refine List.forall_mem_cons.mpr ⟨ok_aload_n (pc := 8) dX1_utter_8 rfl, ?_⟩
  refine List.forall_mem_cons.mpr ⟨ok_getf (pc := 9) (k := 0) (C := RX2) (T := TX2) (N := 2) rfl (by decide) hin_X2 (by decide) hsz_X2 bw_10 dX1_utter_9, ?_⟩
  refine List.forall_mem_cons.mpr ⟨ok_iload (pc := 12) dX1_utter_12, ?_⟩
  refine List.forall_mem_cons.mpr ⟨ok_iald (pc := 14) dX1_utter_14, ?_⟩
  refine List.forall_mem_cons.mpr ⟨ok_istore (pc := 15) dX1_utter_15, ?_⟩
  refine List.forall_mem_cons.mpr ⟨ok_aload_n (pc := 17) dX1_utter_17 rfl, ?_⟩
  refine List.forall_mem_cons.mpr ⟨ok_getf (pc := 18) (k := 1) (C := RX3) (T := TX3) (N := 9) rfl (by decide) hin_X3 (by decide) hsz_X3 bw_8 dX1_utter_18, ?_⟩
  refine List.forall_mem_cons.mpr ⟨ok_iload_n (pc := 21) dX1_utter_21 rfl, ?_⟩
  refine List.forall_mem_cons.mpr ⟨ok_iald (pc := 22) dX1_utter_22, ?_⟩
  refine List.forall_mem_cons.mpr ⟨ok_iconst (pc := 23) dX1_utter_23 (by decide), ?_⟩
  refine List.forall_mem_cons.mpr ⟨ok_icmp_eq (pc := 24) (tgt := 39) dX1_utter_24 (by decide), ?_⟩
  refine List.forall_mem_cons.mpr ⟨ok_aload_n (pc := 27) dX1_utter_27 rfl, ?_⟩
  refine List.forall_mem_cons.mpr ⟨ok_getf (pc := 28) (k := 4) (C := RX3) (T := TX3) (N := 9) rfl (by decide) hin_X3 (by decide) hsz_X3 bw_11 dX1_utter_28, ?_⟩
  refine List.forall_mem_cons.mpr ⟨ok_iload (pc := 31) dX1_utter_31, ?_⟩
  refine List.forall_mem_cons.mpr ⟨ok_callSN (pc := 33) (host := RX4) sp_X4_hasBit ⟨by decide +kernel, bs_X4_hasBit⟩ (by decide) ⟨rfl, rfl, Nat.le_of_ble_eq_true rfl, Nat.le_of_ble_eq_true rfl⟩ dX1_utter_33, ?_⟩
  refine List.forall_mem_cons.mpr ⟨ok_if_ne (pc := 36) (tgt := 43) dX1_utter_36 (by decide), ?_⟩
  refine List.forall_mem_cons.mpr ⟨ok_iconst (pc := 39) dX1_utter_39 (by decide), ?_⟩
  refine List.forall_mem_cons.mpr ⟨ok_goto (pc := 40) (tgt := 44) dX1_utter_40 (by decide), ?_⟩
  refine List.forall_mem_cons.mpr ⟨ok_iconst (pc := 43) dX1_utter_43 (by decide), ?_⟩
  refine List.forall_mem_cons.mpr ⟨ok_istore (pc := 44) dX1_utter_44, ?_⟩
  refine List.forall_mem_cons.mpr ⟨ok_iconst (pc := 46) dX1_utter_46 (by decide), ?_⟩
  refine List.forall_mem_cons.mpr ⟨ok_istore (pc := 47) dX1_utter_47, ?_⟩
  refine List.forall_mem_cons.mpr ⟨ok_iload (pc := 49) dX1_utter_49, ?_⟩
  refine List.forall_mem_cons.mpr ⟨ok_aload_n (pc := 51) dX1_utter_51 rfl, ?_⟩
  refine List.forall_mem_cons.mpr ⟨ok_getf (pc := 52) (k := 0) (C := RX3) (T := TX3) (N := 9) rfl (by decide) hin_X3 (by decide) hsz_X3 bw_12 dX1_utter_52, ?_⟩
  refine List.forall_mem_cons.mpr ⟨ok_icmp_ge (pc := 55) (tgt := 144) dX1_utter_55 (by decide), ?_⟩
  refine List.forall_mem_cons.mpr ⟨ok_aload_n (pc := 58) dX1_utter_58 rfl, ?_⟩
  refine List.forall_mem_cons.mpr ⟨ok_getf (pc := 59) (k := 1) (C := RX3) (T := TX3) (N := 9) rfl (by decide) hin_X3 (by decide) hsz_X3 bw_8 dX1_utter_59, ?_⟩
  refine List.forall_mem_cons.mpr ⟨ok_iload (pc := 62) dX1_utter_62, ?_⟩
  refine List.forall_mem_cons.mpr ⟨ok_iald (pc := 64) dX1_utter_64, ?_⟩
  refine List.forall_mem_cons.mpr ⟨ok_iconst (pc := 65) dX1_utter_65 (by decide), ?_⟩
  refine List.forall_mem_cons.mpr ⟨ok_icmp_ne (pc := 66) (tgt := 72) dX1_utter_66 (by decide), ?_⟩
  refine List.forall_mem_cons.mpr ⟨ok_goto (pc := 69) (tgt := 138) dX1_utter_69 (by decide), ?_⟩
  refine List.forall_mem_cons.mpr ⟨ok_aload_n (pc := 72) dX1_utter_72 rfl, ?_⟩
  refine List.forall_mem_cons.mpr ⟨ok_getf (pc := 73) (k := 2) (C := RX3) (T := TX3) (N := 9) rfl (by decide) hin_X3 (by decide) hsz_X3 bw_9 dX1_utter_73, ?_⟩
  refine List.forall_mem_cons.mpr ⟨ok_iload (pc := 76) dX1_utter_76, ?_⟩
  refine List.forall_mem_cons.mpr ⟨ok_iald (pc := 78) dX1_utter_78, ?_⟩
  refine List.forall_mem_cons.mpr ⟨ok_iload (pc := 79) dX1_utter_79, ?_⟩
  refine List.forall_mem_cons.mpr ⟨ok_icmp_ne (pc := 81) (tgt := 100) dX1_utter_81 (by decide), ?_⟩
  refine List.forall_mem_cons.mpr ⟨ok_aload_n (pc := 84) dX1_utter_84 rfl, ?_⟩
  refine List.forall_mem_cons.mpr ⟨ok_aload_n (pc := 85) dX1_utter_85 rfl, ?_⟩
  refine List.forall_mem_cons.mpr ⟨ok_iload (pc := 86) dX1_utter_86, ?_⟩
  refine List.forall_mem_cons.mpr ⟨ok_aload_n (pc := 88) dX1_utter_88 rfl, ?_⟩
  refine List.forall_mem_cons.mpr ⟨ok_getf (pc := 89) (k := 0) (C := RX1) (T := TX1) (N := 3) rfl (by decide) hin_X1 (by decide) hsz_X1 bw_6 dX1_utter_89, ?_⟩
  refine List.forall_mem_cons.mpr ⟨ok_iload_n (pc := 92) dX1_utter_92 rfl, ?_⟩
  refine List.forall_mem_cons.mpr ⟨ok_iald (pc := 93) dX1_utter_93, ?_⟩
  refine List.forall_mem_cons.mpr ⟨ok_callV (pc := 94) sp_X1_reach (ci := 1) (C := RX1) rfl (by decide) ⟨bw_13, bm_X1_reach⟩ (by decide) ⟨rfl, rfl, Nat.le_of_ble_eq_true rfl, Nat.le_of_ble_eq_true rfl⟩ dX1_utter_94, ?_⟩
  refine List.forall_mem_cons.mpr ⟨ok_goto (pc := 97) (tgt := 138) dX1_utter_97 (by decide), ?_⟩
  refine List.forall_mem_cons.mpr ⟨ok_iload (pc := 100) dX1_utter_100, ?_⟩
  refine List.forall_mem_cons.mpr ⟨ok_if_eq (pc := 102) (tgt := 138) dX1_utter_102 (by decide), ?_⟩
  refine List.forall_mem_cons.mpr ⟨ok_aload_n (pc := 105) dX1_utter_105 rfl, ?_⟩
  refine List.forall_mem_cons.mpr ⟨ok_getf (pc := 106) (k := 2) (C := RX3) (T := TX3) (N := 9) rfl (by decide) hin_X3 (by decide) hsz_X3 bw_9 dX1_utter_106, ?_⟩
  refine List.forall_mem_cons.mpr ⟨ok_iload (pc := 109) dX1_utter_109, ?_⟩
  refine List.forall_mem_cons.mpr ⟨ok_iald (pc := 111) dX1_utter_111, ?_⟩
  refine List.forall_mem_cons.mpr ⟨ok_iload (pc := 112) dX1_utter_112, ?_⟩
  refine List.forall_mem_cons.mpr ⟨ok_icmp_ne (pc := 114) (tgt := 138) dX1_utter_114 (by decide), ?_⟩
  refine List.forall_mem_cons.mpr ⟨ok_aload_n (pc := 117) dX1_utter_117 rfl, ?_⟩
  refine List.forall_mem_cons.mpr ⟨ok_aload_n (pc := 118) dX1_utter_118 rfl, ?_⟩
  refine List.forall_mem_cons.mpr ⟨ok_iload (pc := 119) dX1_utter_119, ?_⟩
  refine List.forall_mem_cons.mpr ⟨ok_aload_n (pc := 121) dX1_utter_121 rfl, ?_⟩
  refine List.forall_mem_cons.mpr ⟨ok_getf (pc := 122) (k := 0) (C := RX1) (T := TX1) (N := 3) rfl (by decide) hin_X1 (by decide) hsz_X1 bw_6 dX1_utter_122, ?_⟩
  refine List.forall_mem_cons.mpr ⟨ok_iload_n (pc := 125) dX1_utter_125 rfl, ?_⟩
  refine List.forall_mem_cons.mpr ⟨ok_iald (pc := 126) dX1_utter_126, ?_⟩
  refine List.forall_mem_cons.mpr ⟨ok_aload_n (pc := 127) dX1_utter_127 rfl, ?_⟩
  refine List.forall_mem_cons.mpr ⟨ok_getf (pc := 128) (k := 1) (C := RX2) (T := TX2) (N := 2) rfl (by decide) hin_X2 (by decide) hsz_X2 bw_14 dX1_utter_128, ?_⟩
  refine List.forall_mem_cons.mpr ⟨ok_iload (pc := 131) dX1_utter_131, ?_⟩
  refine List.forall_mem_cons.mpr ⟨ok_iald (pc := 133) dX1_utter_133, ?_⟩
  refine List.forall_mem_cons.mpr ⟨ok_iadd (pc := 134) dX1_utter_134, ?_⟩
  refine List.forall_mem_cons.mpr ⟨ok_callV (pc := 135) sp_X1_reach (ci := 1) (C := RX1) rfl (by decide) ⟨bw_13, bm_X1_reach⟩ (by decide) ⟨rfl, rfl, Nat.le_of_ble_eq_true rfl, Nat.le_of_ble_eq_true rfl⟩ dX1_utter_135, ?_⟩
  refine List.forall_mem_cons.mpr ⟨ok_iinc (pc := 138) dX1_utter_138 (by decide), ?_⟩
  refine List.forall_mem_cons.mpr ⟨ok_goto (pc := 141) (tgt := 49) dX1_utter_141 (by decide), ?_⟩
  refine List.forall_mem_cons.mpr ⟨ok_vret (pc := 144) dX1_utter_144, ?_⟩
  exact fun _ h => absurd h List.not_mem_nil
abbrev k_X1_spread : List (Nat × mm_T) := [(0, o_ald 0 1), (1, o_getf 1 0 4), (4, o_ic (-1) 5), (5, o_callS m_J7_fill_53178 4 2 8), (8, o_ald 2 9), (9, o_getf 3 1 12), (12, o_ild 3 13), (13, o_iald 14), (14, o_ic 3 15), (15, o_ic_ne 20 18), (18, o_ic 0 19), (19, o_iret), (20, o_ald 0 21), (21, o_getf 1 0 24), (24, o_ild 3 25), (25, o_ic 0 26), (26, o_iast 27), (27, o_ald 0 28), (28, o_ic 1 29), (29, o_ild 3 30), (30, o_ishl 31), (31, o_putf 1 1 34), (34, o_ald 0 35), (35, o_ic 1 36), (36, o_ild 3 37), (37, o_ishl 38), (38, o_putf 1 2 41), (41, o_ic 0 42), (42, o_ist 4 44), (44, o_ild 4 46), (46, o_ald 2 47), (47, o_getf 3 0 50), (50, o_ic_ge 99 53), (53, o_ald 0 54), (54, o_getf 1 2 57), (57, o_if_eq 99 60), (60, o_ald 0 61), (61, o_ald 2 62), (62, o_getf 3 0 65), (65, o_callV 1 m_X1_earliestWaiting 5 1 68), (68, o_ist 5 70), (70, o_ald 0 71), (71, o_dup 72), (72, o_getf 1 2 75), (75, o_ic 1 76), (76, o_ild 5 78), (78, o_ishl 79), (79, o_ic (-1) 80), (80, o_ixor 81), (81, o_iand 82), (82, o_putf 1 2 85), (85, o_ald 0 86), (86, o_ald 1 87), (87, o_ald 2 88), (88, o_ild 5 90), (90, o_callV 1 m_X1_utter 8 3 93), (93, o_iinc 4 1 96), (96, o_goto 44), (99, o_ald 0 100), (100, o_getf 1 1 103), (103, o_iret)]
def m_X1_spread : Nat → mm_T := mm_look k_X1_spread
set_option maxRecDepth 20000 in
theorem sp_X1_spread : mm_Sp yX1_spread cX1_spread 6 (some .int) { frames := 3, cells := 0, slots := 0, locals := 71 } m_X1_spread := by
  refine mm_sound (own := RX1) (code := k_X1_spread) (by decide) rfl ?_
  refine List.forall_mem_cons.mpr ⟨ok_aload_n (pc := 0) dX1_spread_0 rfl, ?_⟩
  refine List.forall_mem_cons.mpr ⟨ok_getf (pc := 1) (k := 0) (C := RX1) (T := TX1) (N := 3) rfl (by decide) hin_X1 (by decide) hsz_X1 bw_6 dX1_spread_1, ?_⟩
  refine List.forall_mem_cons.mpr ⟨ok_iconst (pc := 4) dX1_spread_4 (by decide), ?_⟩
  refine List.forall_mem_cons.mpr ⟨ok_callS (pc := 5) sp_J7_fill_53178 ⟨bw_15, bs_J7_fill_53178⟩ (by decide) ⟨rfl, rfl, Nat.le_of_ble_eq_true rfl, Nat.le_of_ble_eq_true rfl⟩ dX1_spread_5, ?_⟩
  refine List.forall_mem_cons.mpr ⟨ok_aload_n (pc := 8) dX1_spread_8 rfl, ?_⟩
  refine List.forall_mem_cons.mpr ⟨ok_getf (pc := 9) (k := 1) (C := RX3) (T := TX3) (N := 9) rfl (by decide) hin_X3 (by decide) hsz_X3 bw_8 dX1_spread_9, ?_⟩
  refine List.forall_mem_cons.mpr ⟨ok_iload_n (pc := 12) dX1_spread_12 rfl, ?_⟩
  refine List.forall_mem_cons.mpr ⟨ok_iald (pc := 13) dX1_spread_13, ?_⟩
  refine List.forall_mem_cons.mpr ⟨ok_iconst (pc := 14) dX1_spread_14 (by decide), ?_⟩
  refine List.forall_mem_cons.mpr ⟨ok_icmp_ne (pc := 15) (tgt := 20) dX1_spread_15 (by decide), ?_⟩
  refine List.forall_mem_cons.mpr ⟨ok_iconst (pc := 18) dX1_spread_18 (by decide), ?_⟩
  refine List.forall_mem_cons.mpr ⟨ok_iret (pc := 19) dX1_spread_19, ?_⟩
  refine List.forall_mem_cons.mpr ⟨ok_aload_n (pc := 20) dX1_spread_20 rfl, ?_⟩
  refine List.forall_mem_cons.mpr ⟨ok_getf (pc := 21) (k := 0) (C := RX1) (T := TX1) (N := 3) rfl (by decide) hin_X1 (by decide) hsz_X1 bw_6 dX1_spread_21, ?_⟩
  refine List.forall_mem_cons.mpr ⟨ok_iload_n (pc := 24) dX1_spread_24 rfl, ?_⟩
  refine List.forall_mem_cons.mpr ⟨ok_iconst (pc := 25) dX1_spread_25 (by decide), ?_⟩
  refine List.forall_mem_cons.mpr ⟨ok_iast (pc := 26) dX1_spread_26, ?_⟩
  refine List.forall_mem_cons.mpr ⟨ok_aload_n (pc := 27) dX1_spread_27 rfl, ?_⟩
  refine List.forall_mem_cons.mpr ⟨ok_iconst (pc := 28) dX1_spread_28 (by decide), ?_⟩
  refine List.forall_mem_cons.mpr ⟨ok_iload_n (pc := 29) dX1_spread_29 rfl, ?_⟩
  refine List.forall_mem_cons.mpr ⟨ok_ishl (pc := 30) dX1_spread_30, ?_⟩
  refine List.forall_mem_cons.mpr ⟨ok_putf (pc := 31) (k := 1) (C := RX1) (T := TX1) (N := 3) tyX1 tyX1_ok nmX1 rfl (by decide) hin_X1 (by decide) hsz_X1 hkt_X1_1 rfl bw_7 dX1_spread_31, ?_⟩
  refine List.forall_mem_cons.mpr ⟨ok_aload_n (pc := 34) dX1_spread_34 rfl, ?_⟩
  refine List.forall_mem_cons.mpr ⟨ok_iconst (pc := 35) dX1_spread_35 (by decide), ?_⟩
  refine List.forall_mem_cons.mpr ⟨ok_iload_n (pc := 36) dX1_spread_36 rfl, ?_⟩
  refine List.forall_mem_cons.mpr ⟨ok_ishl (pc := 37) dX1_spread_37, ?_⟩
  refine List.forall_mem_cons.mpr ⟨ok_putf (pc := 38) (k := 2) (C := RX1) (T := TX1) (N := 3) tyX1 tyX1_ok nmX1 rfl (by decide) hin_X1 (by decide) hsz_X1 hkt_X1_2 rfl bw_5 dX1_spread_38, ?_⟩
  refine List.forall_mem_cons.mpr ⟨ok_iconst (pc := 41) dX1_spread_41 (by decide), ?_⟩
  refine List.forall_mem_cons.mpr ⟨ok_istore (pc := 42) dX1_spread_42, ?_⟩
  refine List.forall_mem_cons.mpr ⟨ok_iload (pc := 44) dX1_spread_44, ?_⟩
  refine List.forall_mem_cons.mpr ⟨ok_aload_n (pc := 46) dX1_spread_46 rfl, ?_⟩
  refine List.forall_mem_cons.mpr ⟨ok_getf (pc := 47) (k := 0) (C := RX3) (T := TX3) (N := 9) rfl (by decide) hin_X3 (by decide) hsz_X3 bw_12 dX1_spread_47, ?_⟩
  refine List.forall_mem_cons.mpr ⟨ok_icmp_ge (pc := 50) (tgt := 99) dX1_spread_50 (by decide), ?_⟩
  refine List.forall_mem_cons.mpr ⟨ok_aload_n (pc := 53) dX1_spread_53 rfl, ?_⟩
  refine List.forall_mem_cons.mpr ⟨ok_getf (pc := 54) (k := 2) (C := RX1) (T := TX1) (N := 3) rfl (by decide) hin_X1 (by decide) hsz_X1 bw_5 dX1_spread_54, ?_⟩
  refine List.forall_mem_cons.mpr ⟨ok_if_eq (pc := 57) (tgt := 99) dX1_spread_57 (by decide), ?_⟩
  refine List.forall_mem_cons.mpr ⟨ok_aload_n (pc := 60) dX1_spread_60 rfl, ?_⟩
  refine List.forall_mem_cons.mpr ⟨ok_aload_n (pc := 61) dX1_spread_61 rfl, ?_⟩
  refine List.forall_mem_cons.mpr ⟨ok_getf (pc := 62) (k := 0) (C := RX3) (T := TX3) (N := 9) rfl (by decide) hin_X3 (by decide) hsz_X3 bw_12 dX1_spread_62, ?_⟩
  refine List.forall_mem_cons.mpr ⟨ok_callV (pc := 65) sp_X1_earliestWaiting (ci := 1) (C := RX1) rfl (by decide) ⟨bw_16, bm_X1_earliestWaiting⟩ (by decide) ⟨rfl, rfl, Nat.le_of_ble_eq_true rfl, Nat.le_of_ble_eq_true rfl⟩ dX1_spread_65, ?_⟩
  refine List.forall_mem_cons.mpr ⟨ok_istore (pc := 68) dX1_spread_68, ?_⟩
  refine List.forall_mem_cons.mpr ⟨ok_aload_n (pc := 70) dX1_spread_70 rfl, ?_⟩
  refine List.forall_mem_cons.mpr ⟨ok_dup (pc := 71) dX1_spread_71, ?_⟩
  refine List.forall_mem_cons.mpr ⟨ok_getf (pc := 72) (k := 2) (C := RX1) (T := TX1) (N := 3) rfl (by decide) hin_X1 (by decide) hsz_X1 bw_5 dX1_spread_72, ?_⟩
  refine List.forall_mem_cons.mpr ⟨ok_iconst (pc := 75) dX1_spread_75 (by decide), ?_⟩
  refine List.forall_mem_cons.mpr ⟨ok_iload (pc := 76) dX1_spread_76, ?_⟩
  refine List.forall_mem_cons.mpr ⟨ok_ishl (pc := 78) dX1_spread_78, ?_⟩
  refine List.forall_mem_cons.mpr ⟨ok_iconst (pc := 79) dX1_spread_79 (by decide), ?_⟩
  refine List.forall_mem_cons.mpr ⟨ok_ixor (pc := 80) dX1_spread_80, ?_⟩
  refine List.forall_mem_cons.mpr ⟨ok_iand (pc := 81) dX1_spread_81, ?_⟩
  refine List.forall_mem_cons.mpr ⟨ok_putf (pc := 82) (k := 2) (C := RX1) (T := TX1) (N := 3) tyX1 tyX1_ok nmX1 rfl (by decide) hin_X1 (by decide) hsz_X1 hkt_X1_2 rfl bw_5 dX1_spread_82, ?_⟩
  refine List.forall_mem_cons.mpr ⟨ok_aload_n (pc := 85) dX1_spread_85 rfl, ?_⟩
  refine List.forall_mem_cons.mpr ⟨ok_aload_n (pc := 86) dX1_spread_86 rfl, ?_⟩
  refine List.forall_mem_cons.mpr ⟨ok_aload_n (pc := 87) dX1_spread_87 rfl, ?_⟩
  refine List.forall_mem_cons.mpr ⟨ok_iload (pc := 88) dX1_spread_88, ?_⟩
  refine List.forall_mem_cons.mpr ⟨ok_callV (pc := 90) sp_X1_utter (ci := 1) (C := RX1) rfl (by decide) ⟨bw_17, bm_X1_utter⟩ (by decide) ⟨rfl, rfl, Nat.le_of_ble_eq_true rfl, Nat.le_of_ble_eq_true rfl⟩ dX1_spread_90, ?_⟩
  refine List.forall_mem_cons.mpr ⟨ok_iinc (pc := 93) dX1_spread_93 (by decide), ?_⟩
  refine List.forall_mem_cons.mpr ⟨ok_goto (pc := 96) (tgt := 44) dX1_spread_96 (by decide), ?_⟩
  refine List.forall_mem_cons.mpr ⟨ok_aload_n (pc := 99) dX1_spread_99 rfl, ?_⟩
  refine List.forall_mem_cons.mpr ⟨ok_getf (pc := 100) (k := 1) (C := RX1) (T := TX1) (N := 3) rfl (by decide) hin_X1 (by decide) hsz_X1 bw_7 dX1_spread_100, ?_⟩
  refine List.forall_mem_cons.mpr ⟨ok_iret (pc := 103) dX1_spread_103, ?_⟩
  exact fun _ h => absurd h List.not_mem_nil
abbrev k_X2_read : List (Nat × mm_T) := [(0, o_ic 0 1), (1, o_ist 2 2), (2, o_ild 2 3), (3, o_ic 8 5), (5, o_ic_ge 50 8), (8, o_ic 9 10), (10, o_ild 2 11), (11, o_iadd 12), (12, o_ald 1 13), (13, o_alen 14), (14, o_ic_ge 50 17), (17, o_ald 0 18), (18, o_getf 2 0 21), (21, o_ild 2 22), (22, o_ald 1 23), (23, o_ild 2 24), (24, o_iald 25), (25, o_ic 97 27), (27, o_isub 28), (28, o_iast 29), (29, o_ald 0 30), (30, o_getf 2 1 33), (33, o_ild 2 34), (34, o_ald 1 35), (35, o_ic 9 37), (37, o_ild 2 38), (38, o_iadd 39), (39, o_iald 40), (40, o_ic 48 42), (42, o_isub 43), (43, o_iast 44), (44, o_iinc 2 1 47), (47, o_goto 2), (50, o_vret)]
def m_X2_read : Nat → mm_T := mm_look k_X2_read
set_option maxRecDepth 20000 in
theorem sp_X2_read : mm_Sp yX2_read cX2_read 3 none { frames := 0, cells := 0, slots := 0, locals := 0 } m_X2_read := by
  refine mm_sound (own := RX2) (code := k_X2_read) (by decide) rfl ?_
  refine List.forall_mem_cons.mpr ⟨ok_iconst (pc := 0) dX2_read_0 (by decide), ?_⟩
  refine List.forall_mem_cons.mpr ⟨ok_istore_n (pc := 1) dX2_read_1 rfl, ?_⟩
  refine List.forall_mem_cons.mpr ⟨ok_iload_n (pc := 2) dX2_read_2 rfl, ?_⟩
  refine List.forall_mem_cons.mpr ⟨ok_bipush (pc := 3) dX2_read_3 (by decide), ?_⟩
  refine List.forall_mem_cons.mpr ⟨ok_icmp_ge (pc := 5) (tgt := 50) dX2_read_5 (by decide), ?_⟩
  refine List.forall_mem_cons.mpr ⟨ok_bipush (pc := 8) dX2_read_8 (by decide), ?_⟩
  refine List.forall_mem_cons.mpr ⟨ok_iload_n (pc := 10) dX2_read_10 rfl, ?_⟩
  refine List.forall_mem_cons.mpr ⟨ok_iadd (pc := 11) dX2_read_11, ?_⟩
  refine List.forall_mem_cons.mpr ⟨ok_aload_n (pc := 12) dX2_read_12 rfl, ?_⟩
  refine List.forall_mem_cons.mpr ⟨ok_alen (pc := 13) dX2_read_13, ?_⟩
  refine List.forall_mem_cons.mpr ⟨ok_icmp_ge (pc := 14) (tgt := 50) dX2_read_14 (by decide), ?_⟩
  refine List.forall_mem_cons.mpr ⟨ok_aload_n (pc := 17) dX2_read_17 rfl, ?_⟩
  refine List.forall_mem_cons.mpr ⟨ok_getf (pc := 18) (k := 0) (C := RX2) (T := TX2) (N := 2) rfl (by decide) hin_X2 (by decide) hsz_X2 bw_18 dX2_read_18, ?_⟩
  refine List.forall_mem_cons.mpr ⟨ok_iload_n (pc := 21) dX2_read_21 rfl, ?_⟩
  refine List.forall_mem_cons.mpr ⟨ok_aload_n (pc := 22) dX2_read_22 rfl, ?_⟩
  refine List.forall_mem_cons.mpr ⟨ok_iload_n (pc := 23) dX2_read_23 rfl, ?_⟩
  refine List.forall_mem_cons.mpr ⟨ok_iald (pc := 24) dX2_read_24, ?_⟩
  refine List.forall_mem_cons.mpr ⟨ok_bipush (pc := 25) dX2_read_25 (by decide), ?_⟩
  refine List.forall_mem_cons.mpr ⟨ok_isub (pc := 27) dX2_read_27, ?_⟩
  refine List.forall_mem_cons.mpr ⟨ok_iast (pc := 28) dX2_read_28, ?_⟩
  refine List.forall_mem_cons.mpr ⟨ok_aload_n (pc := 29) dX2_read_29 rfl, ?_⟩
  refine List.forall_mem_cons.mpr ⟨ok_getf (pc := 30) (k := 1) (C := RX2) (T := TX2) (N := 2) rfl (by decide) hin_X2 (by decide) hsz_X2 bw_19 dX2_read_30, ?_⟩
  refine List.forall_mem_cons.mpr ⟨ok_iload_n (pc := 33) dX2_read_33 rfl, ?_⟩
  refine List.forall_mem_cons.mpr ⟨ok_aload_n (pc := 34) dX2_read_34 rfl, ?_⟩
  refine List.forall_mem_cons.mpr ⟨ok_bipush (pc := 35) dX2_read_35 (by decide), ?_⟩
  refine List.forall_mem_cons.mpr ⟨ok_iload_n (pc := 37) dX2_read_37 rfl, ?_⟩
  refine List.forall_mem_cons.mpr ⟨ok_iadd (pc := 38) dX2_read_38, ?_⟩
  refine List.forall_mem_cons.mpr ⟨ok_iald (pc := 39) dX2_read_39, ?_⟩
  refine List.forall_mem_cons.mpr ⟨ok_bipush (pc := 40) dX2_read_40 (by decide), ?_⟩
  refine List.forall_mem_cons.mpr ⟨ok_isub (pc := 42) dX2_read_42, ?_⟩
  refine List.forall_mem_cons.mpr ⟨ok_iast (pc := 43) dX2_read_43, ?_⟩
  refine List.forall_mem_cons.mpr ⟨ok_iinc (pc := 44) dX2_read_44 (by decide), ?_⟩
  refine List.forall_mem_cons.mpr ⟨ok_goto (pc := 47) (tgt := 2) dX2_read_47 (by decide), ?_⟩
  refine List.forall_mem_cons.mpr ⟨ok_vret (pc := 50) dX2_read_50, ?_⟩
  exact fun _ h => absurd h List.not_mem_nil
abbrev k_X2_heardElsewhere : List (Nat × mm_T) := [(0, o_ic 0 1), (1, o_ist 1 2), (2, o_ic 0 3), (3, o_ist 2 4), (4, o_ild 2 5), (5, o_ic 8 7), (7, o_ic_ge 29 10), (10, o_ald 0 11), (11, o_getf 2 0 14), (14, o_ild 2 15), (15, o_iald 16), (16, o_ild 2 17), (17, o_ic_eq 23 20), (20, o_iinc 1 1 23), (23, o_iinc 2 1 26), (26, o_goto 4), (29, o_ild 1 30), (30, o_iret)]
def m_X2_heardElsewhere : Nat → mm_T := mm_look k_X2_heardElsewhere
set_option maxRecDepth 20000 in
theorem sp_X2_heardElsewhere : mm_Sp yX2_heardElsewhere cX2_heardElsewhere 3 (some .int) { frames := 0, cells := 0, slots := 0, locals := 0 } m_X2_heardElsewhere := by
  refine mm_sound (own := RX2) (code := k_X2_heardElsewhere) (by decide) rfl ?_
  refine List.forall_mem_cons.mpr ⟨ok_iconst (pc := 0) dX2_heardElsewhere_0 (by decide), ?_⟩
  refine List.forall_mem_cons.mpr ⟨ok_istore_n (pc := 1) dX2_heardElsewhere_1 rfl, ?_⟩
  refine List.forall_mem_cons.mpr ⟨ok_iconst (pc := 2) dX2_heardElsewhere_2 (by decide), ?_⟩
  refine List.forall_mem_cons.mpr ⟨ok_istore_n (pc := 3) dX2_heardElsewhere_3 rfl, ?_⟩
  refine List.forall_mem_cons.mpr ⟨ok_iload_n (pc := 4) dX2_heardElsewhere_4 rfl, ?_⟩
  refine List.forall_mem_cons.mpr ⟨ok_bipush (pc := 5) dX2_heardElsewhere_5 (by decide), ?_⟩
  refine List.forall_mem_cons.mpr ⟨ok_icmp_ge (pc := 7) (tgt := 29) dX2_heardElsewhere_7 (by decide), ?_⟩
  refine List.forall_mem_cons.mpr ⟨ok_aload_n (pc := 10) dX2_heardElsewhere_10 rfl, ?_⟩
  refine List.forall_mem_cons.mpr ⟨ok_getf (pc := 11) (k := 0) (C := RX2) (T := TX2) (N := 2) rfl (by decide) hin_X2 (by decide) hsz_X2 bw_18 dX2_heardElsewhere_11, ?_⟩
  refine List.forall_mem_cons.mpr ⟨ok_iload_n (pc := 14) dX2_heardElsewhere_14 rfl, ?_⟩
  refine List.forall_mem_cons.mpr ⟨ok_iald (pc := 15) dX2_heardElsewhere_15, ?_⟩
  refine List.forall_mem_cons.mpr ⟨ok_iload_n (pc := 16) dX2_heardElsewhere_16 rfl, ?_⟩
  refine List.forall_mem_cons.mpr ⟨ok_icmp_eq (pc := 17) (tgt := 23) dX2_heardElsewhere_17 (by decide), ?_⟩
  refine List.forall_mem_cons.mpr ⟨ok_iinc (pc := 20) dX2_heardElsewhere_20 (by decide), ?_⟩
  refine List.forall_mem_cons.mpr ⟨ok_iinc (pc := 23) dX2_heardElsewhere_23 (by decide), ?_⟩
  refine List.forall_mem_cons.mpr ⟨ok_goto (pc := 26) (tgt := 4) dX2_heardElsewhere_26 (by decide), ?_⟩
  refine List.forall_mem_cons.mpr ⟨ok_iload_n (pc := 29) dX2_heardElsewhere_29 rfl, ?_⟩
  refine List.forall_mem_cons.mpr ⟨ok_iret (pc := 30) dX2_heardElsewhere_30, ?_⟩
  exact fun _ h => absurd h List.not_mem_nil
abbrev k_X2_sources : List (Nat × mm_T) := [(0, o_ic 0 1), (1, o_ist 2 2), (2, o_ic 0 3), (3, o_ist 3 4), (4, o_ild 3 5), (5, o_ic 8 7), (7, o_ic_ge 32 10), (10, o_ald 0 11), (11, o_getf 2 0 14), (14, o_ild 3 15), (15, o_iald 16), (16, o_ild 1 17), (17, o_ic_ne 26 20), (20, o_ild 2 21), (21, o_ic 1 22), (22, o_ild 3 23), (23, o_ishl 24), (24, o_ior 25), (25, o_ist 2 26), (26, o_iinc 3 1 29), (29, o_goto 4), (32, o_ild 2 33), (33, o_iret)]
def m_X2_sources : Nat → mm_T := mm_look k_X2_sources
set_option maxRecDepth 20000 in
theorem sp_X2_sources : mm_Sp yX2_sources cX2_sources 4 (some .int) { frames := 0, cells := 0, slots := 0, locals := 0 } m_X2_sources := by
  refine mm_sound (own := RX2) (code := k_X2_sources) (by decide) rfl ?_
  refine List.forall_mem_cons.mpr ⟨ok_iconst (pc := 0) dX2_sources_0 (by decide), ?_⟩
  refine List.forall_mem_cons.mpr ⟨ok_istore_n (pc := 1) dX2_sources_1 rfl, ?_⟩
  refine List.forall_mem_cons.mpr ⟨ok_iconst (pc := 2) dX2_sources_2 (by decide), ?_⟩
  refine List.forall_mem_cons.mpr ⟨ok_istore_n (pc := 3) dX2_sources_3 rfl, ?_⟩
  refine List.forall_mem_cons.mpr ⟨ok_iload_n (pc := 4) dX2_sources_4 rfl, ?_⟩
  refine List.forall_mem_cons.mpr ⟨ok_bipush (pc := 5) dX2_sources_5 (by decide), ?_⟩
  refine List.forall_mem_cons.mpr ⟨ok_icmp_ge (pc := 7) (tgt := 32) dX2_sources_7 (by decide), ?_⟩
  refine List.forall_mem_cons.mpr ⟨ok_aload_n (pc := 10) dX2_sources_10 rfl, ?_⟩
  refine List.forall_mem_cons.mpr ⟨ok_getf (pc := 11) (k := 0) (C := RX2) (T := TX2) (N := 2) rfl (by decide) hin_X2 (by decide) hsz_X2 bw_18 dX2_sources_11, ?_⟩
  refine List.forall_mem_cons.mpr ⟨ok_iload_n (pc := 14) dX2_sources_14 rfl, ?_⟩
  refine List.forall_mem_cons.mpr ⟨ok_iald (pc := 15) dX2_sources_15, ?_⟩
  refine List.forall_mem_cons.mpr ⟨ok_iload_n (pc := 16) dX2_sources_16 rfl, ?_⟩
  refine List.forall_mem_cons.mpr ⟨ok_icmp_ne (pc := 17) (tgt := 26) dX2_sources_17 (by decide), ?_⟩
  refine List.forall_mem_cons.mpr ⟨ok_iload_n (pc := 20) dX2_sources_20 rfl, ?_⟩
  refine List.forall_mem_cons.mpr ⟨ok_iconst (pc := 21) dX2_sources_21 (by decide), ?_⟩
  refine List.forall_mem_cons.mpr ⟨ok_iload_n (pc := 22) dX2_sources_22 rfl, ?_⟩
  refine List.forall_mem_cons.mpr ⟨ok_ishl (pc := 23) dX2_sources_23, ?_⟩
  refine List.forall_mem_cons.mpr ⟨ok_ior (pc := 24) dX2_sources_24, ?_⟩
  refine List.forall_mem_cons.mpr ⟨ok_istore_n (pc := 25) dX2_sources_25 rfl, ?_⟩
  refine List.forall_mem_cons.mpr ⟨ok_iinc (pc := 26) dX2_sources_26 (by decide), ?_⟩
  refine List.forall_mem_cons.mpr ⟨ok_goto (pc := 29) (tgt := 4) dX2_sources_29 (by decide), ?_⟩
  refine List.forall_mem_cons.mpr ⟨ok_iload_n (pc := 32) dX2_sources_32 rfl, ?_⟩
  refine List.forall_mem_cons.mpr ⟨ok_iret (pc := 33) dX2_sources_33, ?_⟩
  exact fun _ h => absurd h List.not_mem_nil
abbrev k_J6_bitCount_0f7a4 : List (Nat × mm_T) := [(0, o_ild 0 1), (1, o_ild 0 2), (2, o_ic 1 3), (3, o_iushr 4), (4, o_ic 1431655765 7), (7, o_iand 8), (8, o_isub 9), (9, o_ist 0 10), (10, o_ild 0 11), (11, o_ic 858993459 14), (14, o_iand 15), (15, o_ild 0 16), (16, o_ic 2 17), (17, o_iushr 18), (18, o_ic 858993459 21), (21, o_iand 22), (22, o_iadd 23), (23, o_ist 0 24), (24, o_ild 0 25), (25, o_ild 0 26), (26, o_ic 4 27), (27, o_iushr 28), (28, o_iadd 29), (29, o_ic 252645135 32), (32, o_iand 33), (33, o_ist 0 34), (34, o_ild 0 35), (35, o_ild 0 36), (36, o_ic 8 38), (38, o_iushr 39), (39, o_iadd 40), (40, o_ist 0 41), (41, o_ild 0 42), (42, o_ild 0 43), (43, o_ic 16 45), (45, o_iushr 46), (46, o_iadd 47), (47, o_ist 0 48), (48, o_ild 0 49), (49, o_ic 63 51), (51, o_iand 52), (52, o_iret)]
def m_J6_bitCount_0f7a4 : Nat → mm_T := mm_look k_J6_bitCount_0f7a4
set_option maxRecDepth 20000 in
theorem sp_J6_bitCount_0f7a4 : mm_Sp yJ6_bitCount_0f7a4 cJ6_bitCount_0f7a4 1 (some .int) { frames := 0, cells := 0, slots := 0, locals := 0 } m_J6_bitCount_0f7a4 := by
  refine mm_sound (own := RJ6) (code := k_J6_bitCount_0f7a4) (by decide) rfl ?_
  refine List.forall_mem_cons.mpr ⟨ok_iload_n (pc := 0) dJ6_bitCount_0f7a4_0 rfl, ?_⟩
  refine List.forall_mem_cons.mpr ⟨ok_iload_n (pc := 1) dJ6_bitCount_0f7a4_1 rfl, ?_⟩
  refine List.forall_mem_cons.mpr ⟨ok_iconst (pc := 2) dJ6_bitCount_0f7a4_2 (by decide), ?_⟩
  refine List.forall_mem_cons.mpr ⟨ok_iushr (pc := 3) dJ6_bitCount_0f7a4_3, ?_⟩
  refine List.forall_mem_cons.mpr ⟨ok_ldcw (pc := 4) bw_20 dJ6_bitCount_0f7a4_4, ?_⟩
  refine List.forall_mem_cons.mpr ⟨ok_iand (pc := 7) dJ6_bitCount_0f7a4_7, ?_⟩
  refine List.forall_mem_cons.mpr ⟨ok_isub (pc := 8) dJ6_bitCount_0f7a4_8, ?_⟩
  refine List.forall_mem_cons.mpr ⟨ok_istore_n (pc := 9) dJ6_bitCount_0f7a4_9 rfl, ?_⟩
  refine List.forall_mem_cons.mpr ⟨ok_iload_n (pc := 10) dJ6_bitCount_0f7a4_10 rfl, ?_⟩
  refine List.forall_mem_cons.mpr ⟨ok_ldcw (pc := 11) bw_21 dJ6_bitCount_0f7a4_11, ?_⟩
  refine List.forall_mem_cons.mpr ⟨ok_iand (pc := 14) dJ6_bitCount_0f7a4_14, ?_⟩
  refine List.forall_mem_cons.mpr ⟨ok_iload_n (pc := 15) dJ6_bitCount_0f7a4_15 rfl, ?_⟩
  refine List.forall_mem_cons.mpr ⟨ok_iconst (pc := 16) dJ6_bitCount_0f7a4_16 (by decide), ?_⟩
  refine List.forall_mem_cons.mpr ⟨ok_iushr (pc := 17) dJ6_bitCount_0f7a4_17, ?_⟩
  refine List.forall_mem_cons.mpr ⟨ok_ldcw (pc := 18) bw_21 dJ6_bitCount_0f7a4_18, ?_⟩
  refine List.forall_mem_cons.mpr ⟨ok_iand (pc := 21) dJ6_bitCount_0f7a4_21, ?_⟩
  refine List.forall_mem_cons.mpr ⟨ok_iadd (pc := 22) dJ6_bitCount_0f7a4_22, ?_⟩
  refine List.forall_mem_cons.mpr ⟨ok_istore_n (pc := 23) dJ6_bitCount_0f7a4_23 rfl, ?_⟩
  refine List.forall_mem_cons.mpr ⟨ok_iload_n (pc := 24) dJ6_bitCount_0f7a4_24 rfl, ?_⟩
  refine List.forall_mem_cons.mpr ⟨ok_iload_n (pc := 25) dJ6_bitCount_0f7a4_25 rfl, ?_⟩
  refine List.forall_mem_cons.mpr ⟨ok_iconst (pc := 26) dJ6_bitCount_0f7a4_26 (by decide), ?_⟩
  refine List.forall_mem_cons.mpr ⟨ok_iushr (pc := 27) dJ6_bitCount_0f7a4_27, ?_⟩
  refine List.forall_mem_cons.mpr ⟨ok_iadd (pc := 28) dJ6_bitCount_0f7a4_28, ?_⟩
  refine List.forall_mem_cons.mpr ⟨ok_ldcw (pc := 29) bw_22 dJ6_bitCount_0f7a4_29, ?_⟩
  refine List.forall_mem_cons.mpr ⟨ok_iand (pc := 32) dJ6_bitCount_0f7a4_32, ?_⟩
  refine List.forall_mem_cons.mpr ⟨ok_istore_n (pc := 33) dJ6_bitCount_0f7a4_33 rfl, ?_⟩
  refine List.forall_mem_cons.mpr ⟨ok_iload_n (pc := 34) dJ6_bitCount_0f7a4_34 rfl, ?_⟩
  refine List.forall_mem_cons.mpr ⟨ok_iload_n (pc := 35) dJ6_bitCount_0f7a4_35 rfl, ?_⟩
  refine List.forall_mem_cons.mpr ⟨ok_bipush (pc := 36) dJ6_bitCount_0f7a4_36 (by decide), ?_⟩
  refine List.forall_mem_cons.mpr ⟨ok_iushr (pc := 38) dJ6_bitCount_0f7a4_38, ?_⟩
  refine List.forall_mem_cons.mpr ⟨ok_iadd (pc := 39) dJ6_bitCount_0f7a4_39, ?_⟩
  refine List.forall_mem_cons.mpr ⟨ok_istore_n (pc := 40) dJ6_bitCount_0f7a4_40 rfl, ?_⟩
  refine List.forall_mem_cons.mpr ⟨ok_iload_n (pc := 41) dJ6_bitCount_0f7a4_41 rfl, ?_⟩
  refine List.forall_mem_cons.mpr ⟨ok_iload_n (pc := 42) dJ6_bitCount_0f7a4_42 rfl, ?_⟩
  refine List.forall_mem_cons.mpr ⟨ok_bipush (pc := 43) dJ6_bitCount_0f7a4_43 (by decide), ?_⟩
  refine List.forall_mem_cons.mpr ⟨ok_iushr (pc := 45) dJ6_bitCount_0f7a4_45, ?_⟩
  refine List.forall_mem_cons.mpr ⟨ok_iadd (pc := 46) dJ6_bitCount_0f7a4_46, ?_⟩
  refine List.forall_mem_cons.mpr ⟨ok_istore_n (pc := 47) dJ6_bitCount_0f7a4_47 rfl, ?_⟩
  refine List.forall_mem_cons.mpr ⟨ok_iload_n (pc := 48) dJ6_bitCount_0f7a4_48 rfl, ?_⟩
  refine List.forall_mem_cons.mpr ⟨ok_bipush (pc := 49) dJ6_bitCount_0f7a4_49 (by decide), ?_⟩
  refine List.forall_mem_cons.mpr ⟨ok_iand (pc := 51) dJ6_bitCount_0f7a4_51, ?_⟩
  refine List.forall_mem_cons.mpr ⟨ok_iret (pc := 52) dJ6_bitCount_0f7a4_52, ?_⟩
  exact fun _ h => absurd h List.not_mem_nil
abbrev k_X2_rent : List (Nat × mm_T) := [(0, o_ald 0 1), (1, o_ild 1 2), (2, o_callV 2 m_X2_sources 4 1 5), (5, o_ist 2 6), (6, o_ild 2 7), (7, o_callS m_J6_bitCount_0f7a4 1 1 10), (10, o_ist 3 11), (11, o_ild 2 12), (12, o_ild 1 13), (13, o_callS m_X4_hasBit 2 2 16), (16, o_if_eq 25 19), (19, o_ic 2 20), (20, o_ild 3 21), (21, o_imul 22), (22, o_goto 26), (25, o_ild 3 26), (26, o_iret)]
def m_X2_rent : Nat → mm_T := mm_look k_X2_rent
set_option maxRecDepth 20000 in
theorem sp_X2_rent : mm_Sp yX2_rent cX2_rent 4 (some .int) { frames := 1, cells := 0, slots := 0, locals := 23 } m_X2_rent := by
  refine mm_sound (own := RX2) (code := k_X2_rent) (by decide) rfl ?_
  refine List.forall_mem_cons.mpr ⟨ok_aload_n (pc := 0) dX2_rent_0 rfl, ?_⟩
  refine List.forall_mem_cons.mpr ⟨ok_iload_n (pc := 1) dX2_rent_1 rfl, ?_⟩
  refine List.forall_mem_cons.mpr ⟨ok_callV (pc := 2) sp_X2_sources (ci := 2) (C := RX2) rfl (by decide) ⟨bw_23, bm_X2_sources⟩ (by decide) ⟨rfl, rfl, Nat.le_of_ble_eq_true rfl, Nat.le_of_ble_eq_true rfl⟩ dX2_rent_2, ?_⟩
  refine List.forall_mem_cons.mpr ⟨ok_istore_n (pc := 5) dX2_rent_5 rfl, ?_⟩
  refine List.forall_mem_cons.mpr ⟨ok_iload_n (pc := 6) dX2_rent_6 rfl, ?_⟩
  refine List.forall_mem_cons.mpr ⟨ok_callS (pc := 7) sp_J6_bitCount_0f7a4 ⟨bw_24, bs_J6_bitCount_0f7a4⟩ (by decide) ⟨rfl, rfl, Nat.le_of_ble_eq_true rfl, Nat.le_of_ble_eq_true rfl⟩ dX2_rent_7, ?_⟩
  refine List.forall_mem_cons.mpr ⟨ok_istore_n (pc := 10) dX2_rent_10 rfl, ?_⟩
  refine List.forall_mem_cons.mpr ⟨ok_iload_n (pc := 11) dX2_rent_11 rfl, ?_⟩
  refine List.forall_mem_cons.mpr ⟨ok_iload_n (pc := 12) dX2_rent_12 rfl, ?_⟩
  refine List.forall_mem_cons.mpr ⟨ok_callSN (pc := 13) (host := RX4) sp_X4_hasBit ⟨by decide +kernel, bs_X4_hasBit⟩ (by decide) ⟨rfl, rfl, Nat.le_of_ble_eq_true rfl, Nat.le_of_ble_eq_true rfl⟩ dX2_rent_13, ?_⟩
  refine List.forall_mem_cons.mpr ⟨ok_if_eq (pc := 16) (tgt := 25) dX2_rent_16 (by decide), ?_⟩
  refine List.forall_mem_cons.mpr ⟨ok_iconst (pc := 19) dX2_rent_19 (by decide), ?_⟩
  refine List.forall_mem_cons.mpr ⟨ok_iload_n (pc := 20) dX2_rent_20 rfl, ?_⟩
  refine List.forall_mem_cons.mpr ⟨ok_imul (pc := 21) dX2_rent_21, ?_⟩
  refine List.forall_mem_cons.mpr ⟨ok_goto (pc := 22) (tgt := 26) dX2_rent_22 (by decide), ?_⟩
  refine List.forall_mem_cons.mpr ⟨ok_iload_n (pc := 25) dX2_rent_25 rfl, ?_⟩
  refine List.forall_mem_cons.mpr ⟨ok_iret (pc := 26) dX2_rent_26, ?_⟩
  exact fun _ h => absurd h List.not_mem_nil
abbrev k_X3_dropTrials : List (Nat × mm_T) := [(0, o_ald 0 1), (1, o_ic 0 2), (2, o_putf 3 6 5), (5, o_ald 0 6), (6, o_ic 0 7), (7, o_putf 3 7 10), (10, o_ald 0 11), (11, o_ic 0 12), (12, o_putf 3 8 15), (15, o_vret)]
def m_X3_dropTrials : Nat → mm_T := mm_look k_X3_dropTrials
set_option maxRecDepth 20000 in
theorem sp_X3_dropTrials : mm_Sp yX3_dropTrials cX3_dropTrials 1 none { frames := 0, cells := 0, slots := 0, locals := 0 } m_X3_dropTrials := by
  refine mm_sound (own := RX3) (code := k_X3_dropTrials) (by decide) rfl ?_
  refine List.forall_mem_cons.mpr ⟨ok_aload_n (pc := 0) dX3_dropTrials_0 rfl, ?_⟩
  refine List.forall_mem_cons.mpr ⟨ok_iconst (pc := 1) dX3_dropTrials_1 (by decide), ?_⟩
  refine List.forall_mem_cons.mpr ⟨ok_putf (pc := 2) (k := 6) (C := RX3) (T := TX3) (N := 9) tyX3 tyX3_ok nmX3 rfl (by decide) hin_X3 (by decide) hsz_X3 hkt_X3_6 rfl bw_25 dX3_dropTrials_2, ?_⟩
  refine List.forall_mem_cons.mpr ⟨ok_aload_n (pc := 5) dX3_dropTrials_5 rfl, ?_⟩
  refine List.forall_mem_cons.mpr ⟨ok_iconst (pc := 6) dX3_dropTrials_6 (by decide), ?_⟩
  refine List.forall_mem_cons.mpr ⟨ok_putf (pc := 7) (k := 7) (C := RX3) (T := TX3) (N := 9) tyX3 tyX3_ok nmX3 rfl (by decide) hin_X3 (by decide) hsz_X3 hkt_X3_7 rfl bw_26 dX3_dropTrials_7, ?_⟩
  refine List.forall_mem_cons.mpr ⟨ok_aload_n (pc := 10) dX3_dropTrials_10 rfl, ?_⟩
  refine List.forall_mem_cons.mpr ⟨ok_iconst (pc := 11) dX3_dropTrials_11 (by decide), ?_⟩
  refine List.forall_mem_cons.mpr ⟨ok_putf (pc := 12) (k := 8) (C := RX3) (T := TX3) (N := 9) tyX3 tyX3_ok nmX3 rfl (by decide) hin_X3 (by decide) hsz_X3 hkt_X3_8 rfl bw_27 dX3_dropTrials_12, ?_⟩
  refine List.forall_mem_cons.mpr ⟨ok_vret (pc := 15) dX3_dropTrials_15, ?_⟩
  exact fun _ h => absurd h List.not_mem_nil
abbrev k_X3_clear : List (Nat × mm_T) := [(0, o_ald 0 1), (1, o_ic 0 2), (2, o_putf 3 0 5), (5, o_ald 0 6), (6, o_ic 0 7), (7, o_putf 3 4 10), (10, o_ald 0 11), (11, o_ic 0 12), (12, o_putf 3 5 15), (15, o_ald 0 16), (16, o_callV 3 m_X3_dropTrials 1 0 19), (19, o_vret)]
def m_X3_clear : Nat → mm_T := mm_look k_X3_clear
set_option maxRecDepth 20000 in
theorem sp_X3_clear : mm_Sp yX3_clear cX3_clear 1 none { frames := 1, cells := 0, slots := 0, locals := 20 } m_X3_clear := by
  refine mm_sound (own := RX3) (code := k_X3_clear) (by decide) rfl ?_
  refine List.forall_mem_cons.mpr ⟨ok_aload_n (pc := 0) dX3_clear_0 rfl, ?_⟩
  refine List.forall_mem_cons.mpr ⟨ok_iconst (pc := 1) dX3_clear_1 (by decide), ?_⟩
  refine List.forall_mem_cons.mpr ⟨ok_putf (pc := 2) (k := 0) (C := RX3) (T := TX3) (N := 9) tyX3 tyX3_ok nmX3 rfl (by decide) hin_X3 (by decide) hsz_X3 hkt_X3_0 rfl bw_28 dX3_clear_2, ?_⟩
  refine List.forall_mem_cons.mpr ⟨ok_aload_n (pc := 5) dX3_clear_5 rfl, ?_⟩
  refine List.forall_mem_cons.mpr ⟨ok_iconst (pc := 6) dX3_clear_6 (by decide), ?_⟩
  refine List.forall_mem_cons.mpr ⟨ok_putf (pc := 7) (k := 4) (C := RX3) (T := TX3) (N := 9) tyX3 tyX3_ok nmX3 rfl (by decide) hin_X3 (by decide) hsz_X3 hkt_X3_4 rfl bw_29 dX3_clear_7, ?_⟩
  refine List.forall_mem_cons.mpr ⟨ok_aload_n (pc := 10) dX3_clear_10 rfl, ?_⟩
  refine List.forall_mem_cons.mpr ⟨ok_iconst (pc := 11) dX3_clear_11 (by decide), ?_⟩
  refine List.forall_mem_cons.mpr ⟨ok_putf (pc := 12) (k := 5) (C := RX3) (T := TX3) (N := 9) tyX3 tyX3_ok nmX3 rfl (by decide) hin_X3 (by decide) hsz_X3 hkt_X3_5 rfl bw_30 dX3_clear_12, ?_⟩
  refine List.forall_mem_cons.mpr ⟨ok_aload_n (pc := 15) dX3_clear_15 rfl, ?_⟩
  refine List.forall_mem_cons.mpr ⟨ok_callV (pc := 16) sp_X3_dropTrials (ci := 3) (C := RX3) rfl (by decide) ⟨bw_31, bm_X3_dropTrials⟩ (by decide) ⟨rfl, rfl, Nat.le_of_ble_eq_true rfl, Nat.le_of_ble_eq_true rfl⟩ dX3_clear_16, ?_⟩
  refine List.forall_mem_cons.mpr ⟨ok_vret (pc := 19) dX3_clear_19, ?_⟩
  exact fun _ h => absurd h List.not_mem_nil
abbrev k_X3_copyFrom : List (Nat × mm_T) := [(0, o_ald 0 1), (1, o_ald 1 2), (2, o_getf 3 0 5), (5, o_putf 3 0 8), (8, o_ic 0 9), (9, o_ist 2 10), (10, o_ild 2 11), (11, o_ald 1 12), (12, o_getf 3 0 15), (15, o_ic_ge 60 18), (18, o_ald 0 19), (19, o_getf 3 1 22), (22, o_ild 2 23), (23, o_ald 1 24), (24, o_getf 3 1 27), (27, o_ild 2 28), (28, o_iald 29), (29, o_iast 30), (30, o_ald 0 31), (31, o_getf 3 2 34), (34, o_ild 2 35), (35, o_ald 1 36), (36, o_getf 3 2 39), (39, o_ild 2 40), (40, o_iald 41), (41, o_iast 42), (42, o_ald 0 43), (43, o_getf 3 3 46), (46, o_ild 2 47), (47, o_ald 1 48), (48, o_getf 3 3 51), (51, o_ild 2 52), (52, o_iald 53), (53, o_iast 54), (54, o_iinc 2 1 57), (57, o_goto 10), (60, o_ald 0 61), (61, o_ald 1 62), (62, o_getf 3 4 65), (65, o_putf 3 4 68), (68, o_ald 0 69), (69, o_ald 1 70), (70, o_getf 3 5 73), (73, o_putf 3 5 76), (76, o_ald 0 77), (77, o_ald 1 78), (78, o_getf 3 6 81), (81, o_putf 3 6 84), (84, o_ald 0 85), (85, o_ald 1 86), (86, o_getf 3 7 89), (89, o_putf 3 7 92), (92, o_ald 0 93), (93, o_ald 1 94), (94, o_getf 3 8 97), (97, o_putf 3 8 100), (100, o_vret)]
def m_X3_copyFrom : Nat → mm_T := mm_look k_X3_copyFrom
set_option maxRecDepth 20000 in
theorem sp_X3_copyFrom : mm_Sp yX3_copyFrom cX3_copyFrom 3 none { frames := 0, cells := 0, slots := 0, locals := 0 } m_X3_copyFrom := by
  refine mm_sound (own := RX3) (code := k_X3_copyFrom) (by decide) rfl ?_
  refine List.forall_mem_cons.mpr ⟨ok_aload_n (pc := 0) dX3_copyFrom_0 rfl, ?_⟩
  refine List.forall_mem_cons.mpr ⟨ok_aload_n (pc := 1) dX3_copyFrom_1 rfl, ?_⟩
  refine List.forall_mem_cons.mpr ⟨ok_getf (pc := 2) (k := 0) (C := RX3) (T := TX3) (N := 9) rfl (by decide) hin_X3 (by decide) hsz_X3 bw_28 dX3_copyFrom_2, ?_⟩
  refine List.forall_mem_cons.mpr ⟨ok_putf (pc := 5) (k := 0) (C := RX3) (T := TX3) (N := 9) tyX3 tyX3_ok nmX3 rfl (by decide) hin_X3 (by decide) hsz_X3 hkt_X3_0 rfl bw_28 dX3_copyFrom_5, ?_⟩
  refine List.forall_mem_cons.mpr ⟨ok_iconst (pc := 8) dX3_copyFrom_8 (by decide), ?_⟩
  refine List.forall_mem_cons.mpr ⟨ok_istore_n (pc := 9) dX3_copyFrom_9 rfl, ?_⟩
  refine List.forall_mem_cons.mpr ⟨ok_iload_n (pc := 10) dX3_copyFrom_10 rfl, ?_⟩
  refine List.forall_mem_cons.mpr ⟨ok_aload_n (pc := 11) dX3_copyFrom_11 rfl, ?_⟩
  refine List.forall_mem_cons.mpr ⟨ok_getf (pc := 12) (k := 0) (C := RX3) (T := TX3) (N := 9) rfl (by decide) hin_X3 (by decide) hsz_X3 bw_28 dX3_copyFrom_12, ?_⟩
  refine List.forall_mem_cons.mpr ⟨ok_icmp_ge (pc := 15) (tgt := 60) dX3_copyFrom_15 (by decide), ?_⟩
  refine List.forall_mem_cons.mpr ⟨ok_aload_n (pc := 18) dX3_copyFrom_18 rfl, ?_⟩
  refine List.forall_mem_cons.mpr ⟨ok_getf (pc := 19) (k := 1) (C := RX3) (T := TX3) (N := 9) rfl (by decide) hin_X3 (by decide) hsz_X3 bw_32 dX3_copyFrom_19, ?_⟩
  refine List.forall_mem_cons.mpr ⟨ok_iload_n (pc := 22) dX3_copyFrom_22 rfl, ?_⟩
  refine List.forall_mem_cons.mpr ⟨ok_aload_n (pc := 23) dX3_copyFrom_23 rfl, ?_⟩
  refine List.forall_mem_cons.mpr ⟨ok_getf (pc := 24) (k := 1) (C := RX3) (T := TX3) (N := 9) rfl (by decide) hin_X3 (by decide) hsz_X3 bw_32 dX3_copyFrom_24, ?_⟩
  refine List.forall_mem_cons.mpr ⟨ok_iload_n (pc := 27) dX3_copyFrom_27 rfl, ?_⟩
  refine List.forall_mem_cons.mpr ⟨ok_iald (pc := 28) dX3_copyFrom_28, ?_⟩
  refine List.forall_mem_cons.mpr ⟨ok_iast (pc := 29) dX3_copyFrom_29, ?_⟩
  refine List.forall_mem_cons.mpr ⟨ok_aload_n (pc := 30) dX3_copyFrom_30 rfl, ?_⟩
  refine List.forall_mem_cons.mpr ⟨ok_getf (pc := 31) (k := 2) (C := RX3) (T := TX3) (N := 9) rfl (by decide) hin_X3 (by decide) hsz_X3 bw_33 dX3_copyFrom_31, ?_⟩
  refine List.forall_mem_cons.mpr ⟨ok_iload_n (pc := 34) dX3_copyFrom_34 rfl, ?_⟩
  refine List.forall_mem_cons.mpr ⟨ok_aload_n (pc := 35) dX3_copyFrom_35 rfl, ?_⟩
  refine List.forall_mem_cons.mpr ⟨ok_getf (pc := 36) (k := 2) (C := RX3) (T := TX3) (N := 9) rfl (by decide) hin_X3 (by decide) hsz_X3 bw_33 dX3_copyFrom_36, ?_⟩
  refine List.forall_mem_cons.mpr ⟨ok_iload_n (pc := 39) dX3_copyFrom_39 rfl, ?_⟩
  refine List.forall_mem_cons.mpr ⟨ok_iald (pc := 40) dX3_copyFrom_40, ?_⟩
  refine List.forall_mem_cons.mpr ⟨ok_iast (pc := 41) dX3_copyFrom_41, ?_⟩
  refine List.forall_mem_cons.mpr ⟨ok_aload_n (pc := 42) dX3_copyFrom_42 rfl, ?_⟩
  refine List.forall_mem_cons.mpr ⟨ok_getf (pc := 43) (k := 3) (C := RX3) (T := TX3) (N := 9) rfl (by decide) hin_X3 (by decide) hsz_X3 bw_34 dX3_copyFrom_43, ?_⟩
  refine List.forall_mem_cons.mpr ⟨ok_iload_n (pc := 46) dX3_copyFrom_46 rfl, ?_⟩
  refine List.forall_mem_cons.mpr ⟨ok_aload_n (pc := 47) dX3_copyFrom_47 rfl, ?_⟩
  refine List.forall_mem_cons.mpr ⟨ok_getf (pc := 48) (k := 3) (C := RX3) (T := TX3) (N := 9) rfl (by decide) hin_X3 (by decide) hsz_X3 bw_34 dX3_copyFrom_48, ?_⟩
  refine List.forall_mem_cons.mpr ⟨ok_iload_n (pc := 51) dX3_copyFrom_51 rfl, ?_⟩
  refine List.forall_mem_cons.mpr ⟨ok_iald (pc := 52) dX3_copyFrom_52, ?_⟩
  refine List.forall_mem_cons.mpr ⟨ok_iast (pc := 53) dX3_copyFrom_53, ?_⟩
  refine List.forall_mem_cons.mpr ⟨ok_iinc (pc := 54) dX3_copyFrom_54 (by decide), ?_⟩
  refine List.forall_mem_cons.mpr ⟨ok_goto (pc := 57) (tgt := 10) dX3_copyFrom_57 (by decide), ?_⟩
  refine List.forall_mem_cons.mpr ⟨ok_aload_n (pc := 60) dX3_copyFrom_60 rfl, ?_⟩
  refine List.forall_mem_cons.mpr ⟨ok_aload_n (pc := 61) dX3_copyFrom_61 rfl, ?_⟩
  refine List.forall_mem_cons.mpr ⟨ok_getf (pc := 62) (k := 4) (C := RX3) (T := TX3) (N := 9) rfl (by decide) hin_X3 (by decide) hsz_X3 bw_29 dX3_copyFrom_62, ?_⟩
  refine List.forall_mem_cons.mpr ⟨ok_putf (pc := 65) (k := 4) (C := RX3) (T := TX3) (N := 9) tyX3 tyX3_ok nmX3 rfl (by decide) hin_X3 (by decide) hsz_X3 hkt_X3_4 rfl bw_29 dX3_copyFrom_65, ?_⟩
  refine List.forall_mem_cons.mpr ⟨ok_aload_n (pc := 68) dX3_copyFrom_68 rfl, ?_⟩
  refine List.forall_mem_cons.mpr ⟨ok_aload_n (pc := 69) dX3_copyFrom_69 rfl, ?_⟩
  refine List.forall_mem_cons.mpr ⟨ok_getf (pc := 70) (k := 5) (C := RX3) (T := TX3) (N := 9) rfl (by decide) hin_X3 (by decide) hsz_X3 bw_30 dX3_copyFrom_70, ?_⟩
  refine List.forall_mem_cons.mpr ⟨ok_putf (pc := 73) (k := 5) (C := RX3) (T := TX3) (N := 9) tyX3 tyX3_ok nmX3 rfl (by decide) hin_X3 (by decide) hsz_X3 hkt_X3_5 rfl bw_30 dX3_copyFrom_73, ?_⟩
  refine List.forall_mem_cons.mpr ⟨ok_aload_n (pc := 76) dX3_copyFrom_76 rfl, ?_⟩
  refine List.forall_mem_cons.mpr ⟨ok_aload_n (pc := 77) dX3_copyFrom_77 rfl, ?_⟩
  refine List.forall_mem_cons.mpr ⟨ok_getf (pc := 78) (k := 6) (C := RX3) (T := TX3) (N := 9) rfl (by decide) hin_X3 (by decide) hsz_X3 bw_25 dX3_copyFrom_78, ?_⟩
  refine List.forall_mem_cons.mpr ⟨ok_putf (pc := 81) (k := 6) (C := RX3) (T := TX3) (N := 9) tyX3 tyX3_ok nmX3 rfl (by decide) hin_X3 (by decide) hsz_X3 hkt_X3_6 rfl bw_25 dX3_copyFrom_81, ?_⟩
  refine List.forall_mem_cons.mpr ⟨ok_aload_n (pc := 84) dX3_copyFrom_84 rfl, ?_⟩
  refine List.forall_mem_cons.mpr ⟨ok_aload_n (pc := 85) dX3_copyFrom_85 rfl, ?_⟩
  refine List.forall_mem_cons.mpr ⟨ok_getf (pc := 86) (k := 7) (C := RX3) (T := TX3) (N := 9) rfl (by decide) hin_X3 (by decide) hsz_X3 bw_26 dX3_copyFrom_86, ?_⟩
  refine List.forall_mem_cons.mpr ⟨ok_putf (pc := 89) (k := 7) (C := RX3) (T := TX3) (N := 9) tyX3 tyX3_ok nmX3 rfl (by decide) hin_X3 (by decide) hsz_X3 hkt_X3_7 rfl bw_26 dX3_copyFrom_89, ?_⟩
  refine List.forall_mem_cons.mpr ⟨ok_aload_n (pc := 92) dX3_copyFrom_92 rfl, ?_⟩
  refine List.forall_mem_cons.mpr ⟨ok_aload_n (pc := 93) dX3_copyFrom_93 rfl, ?_⟩
  refine List.forall_mem_cons.mpr ⟨ok_getf (pc := 94) (k := 8) (C := RX3) (T := TX3) (N := 9) rfl (by decide) hin_X3 (by decide) hsz_X3 bw_27 dX3_copyFrom_94, ?_⟩
  refine List.forall_mem_cons.mpr ⟨ok_putf (pc := 97) (k := 8) (C := RX3) (T := TX3) (N := 9) tyX3 tyX3_ok nmX3 rfl (by decide) hin_X3 (by decide) hsz_X3 hkt_X3_8 rfl bw_27 dX3_copyFrom_97, ?_⟩
  refine List.forall_mem_cons.mpr ⟨ok_vret (pc := 100) dX3_copyFrom_100, ?_⟩
  exact fun _ h => absurd h List.not_mem_nil
abbrev k_X3_enter : List (Nat × mm_T) := [(0, o_ald 0 1), (1, o_getf 3 0 4), (4, o_ist 3 5), (5, o_ald 0 6), (6, o_getf 3 1 9), (9, o_ild 3 10), (10, o_ild 1 11), (11, o_iast 12), (12, o_ald 0 13), (13, o_getf 3 2 16), (16, o_ild 3 17), (17, o_ild 2 18), (18, o_iast 19), (19, o_ald 0 20), (20, o_getf 3 3 23), (23, o_ild 3 24), (24, o_ic 0 25), (25, o_iast 26), (26, o_ald 0 27), (27, o_dup 28), (28, o_getf 3 0 31), (31, o_ic 1 32), (32, o_iadd 33), (33, o_putf 3 0 36), (36, o_ild 3 37), (37, o_iret)]
def m_X3_enter : Nat → mm_T := mm_look k_X3_enter
set_option maxRecDepth 20000 in
theorem sp_X3_enter : mm_Sp yX3_enter cX3_enter 4 (some .int) { frames := 0, cells := 0, slots := 0, locals := 0 } m_X3_enter := by
  refine mm_sound (own := RX3) (code := k_X3_enter) (by decide) rfl ?_
  refine List.forall_mem_cons.mpr ⟨ok_aload_n (pc := 0) dX3_enter_0 rfl, ?_⟩
  refine List.forall_mem_cons.mpr ⟨ok_getf (pc := 1) (k := 0) (C := RX3) (T := TX3) (N := 9) rfl (by decide) hin_X3 (by decide) hsz_X3 bw_28 dX3_enter_1, ?_⟩
  refine List.forall_mem_cons.mpr ⟨ok_istore_n (pc := 4) dX3_enter_4 rfl, ?_⟩
  refine List.forall_mem_cons.mpr ⟨ok_aload_n (pc := 5) dX3_enter_5 rfl, ?_⟩
  refine List.forall_mem_cons.mpr ⟨ok_getf (pc := 6) (k := 1) (C := RX3) (T := TX3) (N := 9) rfl (by decide) hin_X3 (by decide) hsz_X3 bw_32 dX3_enter_6, ?_⟩
  refine List.forall_mem_cons.mpr ⟨ok_iload_n (pc := 9) dX3_enter_9 rfl, ?_⟩
  refine List.forall_mem_cons.mpr ⟨ok_iload_n (pc := 10) dX3_enter_10 rfl, ?_⟩
  refine List.forall_mem_cons.mpr ⟨ok_iast (pc := 11) dX3_enter_11, ?_⟩
  refine List.forall_mem_cons.mpr ⟨ok_aload_n (pc := 12) dX3_enter_12 rfl, ?_⟩
  refine List.forall_mem_cons.mpr ⟨ok_getf (pc := 13) (k := 2) (C := RX3) (T := TX3) (N := 9) rfl (by decide) hin_X3 (by decide) hsz_X3 bw_33 dX3_enter_13, ?_⟩
  refine List.forall_mem_cons.mpr ⟨ok_iload_n (pc := 16) dX3_enter_16 rfl, ?_⟩
  refine List.forall_mem_cons.mpr ⟨ok_iload_n (pc := 17) dX3_enter_17 rfl, ?_⟩
  refine List.forall_mem_cons.mpr ⟨ok_iast (pc := 18) dX3_enter_18, ?_⟩
  refine List.forall_mem_cons.mpr ⟨ok_aload_n (pc := 19) dX3_enter_19 rfl, ?_⟩
  refine List.forall_mem_cons.mpr ⟨ok_getf (pc := 20) (k := 3) (C := RX3) (T := TX3) (N := 9) rfl (by decide) hin_X3 (by decide) hsz_X3 bw_34 dX3_enter_20, ?_⟩
  refine List.forall_mem_cons.mpr ⟨ok_iload_n (pc := 23) dX3_enter_23 rfl, ?_⟩
  refine List.forall_mem_cons.mpr ⟨ok_iconst (pc := 24) dX3_enter_24 (by decide), ?_⟩
  refine List.forall_mem_cons.mpr ⟨ok_iast (pc := 25) dX3_enter_25, ?_⟩
  refine List.forall_mem_cons.mpr ⟨ok_aload_n (pc := 26) dX3_enter_26 rfl, ?_⟩
  refine List.forall_mem_cons.mpr ⟨ok_dup (pc := 27) dX3_enter_27, ?_⟩
  refine List.forall_mem_cons.mpr ⟨ok_getf (pc := 28) (k := 0) (C := RX3) (T := TX3) (N := 9) rfl (by decide) hin_X3 (by decide) hsz_X3 bw_28 dX3_enter_28, ?_⟩
  refine List.forall_mem_cons.mpr ⟨ok_iconst (pc := 31) dX3_enter_31 (by decide), ?_⟩
  refine List.forall_mem_cons.mpr ⟨ok_iadd (pc := 32) dX3_enter_32, ?_⟩
  refine List.forall_mem_cons.mpr ⟨ok_putf (pc := 33) (k := 0) (C := RX3) (T := TX3) (N := 9) tyX3 tyX3_ok nmX3 rfl (by decide) hin_X3 (by decide) hsz_X3 hkt_X3_0 rfl bw_28 dX3_enter_33, ?_⟩
  refine List.forall_mem_cons.mpr ⟨ok_iload_n (pc := 36) dX3_enter_36 rfl, ?_⟩
  refine List.forall_mem_cons.mpr ⟨ok_iret (pc := 37) dX3_enter_37, ?_⟩
  exact fun _ h => absurd h List.not_mem_nil
abbrev k_X3_peopleAt : List (Nat × mm_T) := [(0, o_ic 0 1), (1, o_ist 2 2), (2, o_ic 0 3), (3, o_ist 3 4), (4, o_ild 3 5), (5, o_ald 0 6), (6, o_getf 3 0 9), (9, o_ic_ge 34 12), (12, o_ald 0 13), (13, o_getf 3 2 16), (16, o_ild 3 17), (17, o_iald 18), (18, o_ild 1 19), (19, o_ic_ne 28 22), (22, o_ild 2 23), (23, o_ic 1 24), (24, o_ild 3 25), (25, o_ishl 26), (26, o_ior 27), (27, o_ist 2 28), (28, o_iinc 3 1 31), (31, o_goto 4), (34, o_ild 2 35), (35, o_iret)]
def m_X3_peopleAt : Nat → mm_T := mm_look k_X3_peopleAt
set_option maxRecDepth 20000 in
theorem sp_X3_peopleAt : mm_Sp yX3_peopleAt cX3_peopleAt 4 (some .int) { frames := 0, cells := 0, slots := 0, locals := 0 } m_X3_peopleAt := by
  refine mm_sound (own := RX3) (code := k_X3_peopleAt) (by decide) rfl ?_
  refine List.forall_mem_cons.mpr ⟨ok_iconst (pc := 0) dX3_peopleAt_0 (by decide), ?_⟩
  refine List.forall_mem_cons.mpr ⟨ok_istore_n (pc := 1) dX3_peopleAt_1 rfl, ?_⟩
  refine List.forall_mem_cons.mpr ⟨ok_iconst (pc := 2) dX3_peopleAt_2 (by decide), ?_⟩
  refine List.forall_mem_cons.mpr ⟨ok_istore_n (pc := 3) dX3_peopleAt_3 rfl, ?_⟩
  refine List.forall_mem_cons.mpr ⟨ok_iload_n (pc := 4) dX3_peopleAt_4 rfl, ?_⟩
  refine List.forall_mem_cons.mpr ⟨ok_aload_n (pc := 5) dX3_peopleAt_5 rfl, ?_⟩
  refine List.forall_mem_cons.mpr ⟨ok_getf (pc := 6) (k := 0) (C := RX3) (T := TX3) (N := 9) rfl (by decide) hin_X3 (by decide) hsz_X3 bw_28 dX3_peopleAt_6, ?_⟩
  refine List.forall_mem_cons.mpr ⟨ok_icmp_ge (pc := 9) (tgt := 34) dX3_peopleAt_9 (by decide), ?_⟩
  refine List.forall_mem_cons.mpr ⟨ok_aload_n (pc := 12) dX3_peopleAt_12 rfl, ?_⟩
  refine List.forall_mem_cons.mpr ⟨ok_getf (pc := 13) (k := 2) (C := RX3) (T := TX3) (N := 9) rfl (by decide) hin_X3 (by decide) hsz_X3 bw_33 dX3_peopleAt_13, ?_⟩
  refine List.forall_mem_cons.mpr ⟨ok_iload_n (pc := 16) dX3_peopleAt_16 rfl, ?_⟩
  refine List.forall_mem_cons.mpr ⟨ok_iald (pc := 17) dX3_peopleAt_17, ?_⟩
  refine List.forall_mem_cons.mpr ⟨ok_iload_n (pc := 18) dX3_peopleAt_18 rfl, ?_⟩
  refine List.forall_mem_cons.mpr ⟨ok_icmp_ne (pc := 19) (tgt := 28) dX3_peopleAt_19 (by decide), ?_⟩
  refine List.forall_mem_cons.mpr ⟨ok_iload_n (pc := 22) dX3_peopleAt_22 rfl, ?_⟩
  refine List.forall_mem_cons.mpr ⟨ok_iconst (pc := 23) dX3_peopleAt_23 (by decide), ?_⟩
  refine List.forall_mem_cons.mpr ⟨ok_iload_n (pc := 24) dX3_peopleAt_24 rfl, ?_⟩
  refine List.forall_mem_cons.mpr ⟨ok_ishl (pc := 25) dX3_peopleAt_25, ?_⟩
  refine List.forall_mem_cons.mpr ⟨ok_ior (pc := 26) dX3_peopleAt_26, ?_⟩
  refine List.forall_mem_cons.mpr ⟨ok_istore_n (pc := 27) dX3_peopleAt_27 rfl, ?_⟩
  refine List.forall_mem_cons.mpr ⟨ok_iinc (pc := 28) dX3_peopleAt_28 (by decide), ?_⟩
  refine List.forall_mem_cons.mpr ⟨ok_goto (pc := 31) (tgt := 4) dX3_peopleAt_31 (by decide), ?_⟩
  refine List.forall_mem_cons.mpr ⟨ok_iload_n (pc := 34) dX3_peopleAt_34 rfl, ?_⟩
  refine List.forall_mem_cons.mpr ⟨ok_iret (pc := 35) dX3_peopleAt_35, ?_⟩
  exact fun _ h => absurd h List.not_mem_nil
abbrev k_X3_learn : List (Nat × mm_T) := [(0, o_ic 0 1), (1, o_ist 3 2), (2, o_ic 0 3), (3, o_ist 4 5), (5, o_ild 4 7), (7, o_ald 0 8), (8, o_getf 3 0 11), (11, o_ic_ge 59 14), (14, o_ild 1 15), (15, o_ild 4 17), (17, o_callS m_X4_hasBit 2 2 20), (20, o_if_eq 53 23), (23, o_ald 0 24), (24, o_getf 3 3 27), (27, o_ild 4 29), (29, o_iald 30), (30, o_ild 2 31), (31, o_callS m_X4_hasBit 2 2 34), (34, o_if_ne 53 37), (37, o_ald 0 38), (38, o_getf 3 3 41), (41, o_ild 4 43), (43, o_dup2 44), (44, o_iald 45), (45, o_ic 1 46), (46, o_ild 2 47), (47, o_ishl 48), (48, o_ior 49), (49, o_iast 50), (50, o_iinc 3 1 53), (53, o_iinc 4 1 56), (56, o_goto 5), (59, o_ild 3 60), (60, o_iret)]
def m_X3_learn : Nat → mm_T := mm_look k_X3_learn
set_option maxRecDepth 20000 in
theorem sp_X3_learn : mm_Sp yX3_learn cX3_learn 5 (some .int) { frames := 1, cells := 0, slots := 0, locals := 21 } m_X3_learn := by
  refine mm_sound (own := RX3) (code := k_X3_learn) (by decide) rfl ?_
  refine List.forall_mem_cons.mpr ⟨ok_iconst (pc := 0) dX3_learn_0 (by decide), ?_⟩
  refine List.forall_mem_cons.mpr ⟨ok_istore_n (pc := 1) dX3_learn_1 rfl, ?_⟩
  refine List.forall_mem_cons.mpr ⟨ok_iconst (pc := 2) dX3_learn_2 (by decide), ?_⟩
  refine List.forall_mem_cons.mpr ⟨ok_istore (pc := 3) dX3_learn_3, ?_⟩
  refine List.forall_mem_cons.mpr ⟨ok_iload (pc := 5) dX3_learn_5, ?_⟩
  refine List.forall_mem_cons.mpr ⟨ok_aload_n (pc := 7) dX3_learn_7 rfl, ?_⟩
  refine List.forall_mem_cons.mpr ⟨ok_getf (pc := 8) (k := 0) (C := RX3) (T := TX3) (N := 9) rfl (by decide) hin_X3 (by decide) hsz_X3 bw_28 dX3_learn_8, ?_⟩
  refine List.forall_mem_cons.mpr ⟨ok_icmp_ge (pc := 11) (tgt := 59) dX3_learn_11 (by decide), ?_⟩
  refine List.forall_mem_cons.mpr ⟨ok_iload_n (pc := 14) dX3_learn_14 rfl, ?_⟩
  refine List.forall_mem_cons.mpr ⟨ok_iload (pc := 15) dX3_learn_15, ?_⟩
  refine List.forall_mem_cons.mpr ⟨ok_callSN (pc := 17) (host := RX4) sp_X4_hasBit ⟨by decide +kernel, bs_X4_hasBit⟩ (by decide) ⟨rfl, rfl, Nat.le_of_ble_eq_true rfl, Nat.le_of_ble_eq_true rfl⟩ dX3_learn_17, ?_⟩
  refine List.forall_mem_cons.mpr ⟨ok_if_eq (pc := 20) (tgt := 53) dX3_learn_20 (by decide), ?_⟩
  refine List.forall_mem_cons.mpr ⟨ok_aload_n (pc := 23) dX3_learn_23 rfl, ?_⟩
  refine List.forall_mem_cons.mpr ⟨ok_getf (pc := 24) (k := 3) (C := RX3) (T := TX3) (N := 9) rfl (by decide) hin_X3 (by decide) hsz_X3 bw_34 dX3_learn_24, ?_⟩
  refine List.forall_mem_cons.mpr ⟨ok_iload (pc := 27) dX3_learn_27, ?_⟩
  refine List.forall_mem_cons.mpr ⟨ok_iald (pc := 29) dX3_learn_29, ?_⟩
  refine List.forall_mem_cons.mpr ⟨ok_iload_n (pc := 30) dX3_learn_30 rfl, ?_⟩
  refine List.forall_mem_cons.mpr ⟨ok_callSN (pc := 31) (host := RX4) sp_X4_hasBit ⟨by decide +kernel, bs_X4_hasBit⟩ (by decide) ⟨rfl, rfl, Nat.le_of_ble_eq_true rfl, Nat.le_of_ble_eq_true rfl⟩ dX3_learn_31, ?_⟩
  refine List.forall_mem_cons.mpr ⟨ok_if_ne (pc := 34) (tgt := 53) dX3_learn_34 (by decide), ?_⟩
  refine List.forall_mem_cons.mpr ⟨ok_aload_n (pc := 37) dX3_learn_37 rfl, ?_⟩
  refine List.forall_mem_cons.mpr ⟨ok_getf (pc := 38) (k := 3) (C := RX3) (T := TX3) (N := 9) rfl (by decide) hin_X3 (by decide) hsz_X3 bw_34 dX3_learn_38, ?_⟩
  refine List.forall_mem_cons.mpr ⟨ok_iload (pc := 41) dX3_learn_41, ?_⟩
  refine List.forall_mem_cons.mpr ⟨ok_dup2 (pc := 43) dX3_learn_43, ?_⟩
  refine List.forall_mem_cons.mpr ⟨ok_iald (pc := 44) dX3_learn_44, ?_⟩
  refine List.forall_mem_cons.mpr ⟨ok_iconst (pc := 45) dX3_learn_45 (by decide), ?_⟩
  refine List.forall_mem_cons.mpr ⟨ok_iload_n (pc := 46) dX3_learn_46 rfl, ?_⟩
  refine List.forall_mem_cons.mpr ⟨ok_ishl (pc := 47) dX3_learn_47, ?_⟩
  refine List.forall_mem_cons.mpr ⟨ok_ior (pc := 48) dX3_learn_48, ?_⟩
  refine List.forall_mem_cons.mpr ⟨ok_iast (pc := 49) dX3_learn_49, ?_⟩
  refine List.forall_mem_cons.mpr ⟨ok_iinc (pc := 50) dX3_learn_50 (by decide), ?_⟩
  refine List.forall_mem_cons.mpr ⟨ok_iinc (pc := 53) dX3_learn_53 (by decide), ?_⟩
  refine List.forall_mem_cons.mpr ⟨ok_goto (pc := 56) (tgt := 5) dX3_learn_56 (by decide), ?_⟩
  refine List.forall_mem_cons.mpr ⟨ok_iload_n (pc := 59) dX3_learn_59 rfl, ?_⟩
  refine List.forall_mem_cons.mpr ⟨ok_iret (pc := 60) dX3_learn_60, ?_⟩
  exact fun _ h => absurd h List.not_mem_nil
abbrev k_X3_wordsKnown : List (Nat × mm_T) := [(0, o_ic 0 1), (1, o_ist 1 2), (2, o_ic 0 3), (3, o_ist 2 4), (4, o_ild 2 5), (5, o_ald 0 6), (6, o_getf 3 0 9), (9, o_ic_ge 30 12), (12, o_ild 1 13), (13, o_ald 0 14), (14, o_getf 3 3 17), (17, o_ild 2 18), (18, o_iald 19), (19, o_callS m_J6_bitCount_0f7a4 1 1 22), (22, o_iadd 23), (23, o_ist 1 24), (24, o_iinc 2 1 27), (27, o_goto 4), (30, o_ild 1 31), (31, o_iret)]
def m_X3_wordsKnown : Nat → mm_T := mm_look k_X3_wordsKnown
set_option maxRecDepth 20000 in
theorem sp_X3_wordsKnown : mm_Sp yX3_wordsKnown cX3_wordsKnown 3 (some .int) { frames := 1, cells := 0, slots := 0, locals := 20 } m_X3_wordsKnown := by
  refine mm_sound (own := RX3) (code := k_X3_wordsKnown) (by decide) rfl ?_
  refine List.forall_mem_cons.mpr ⟨ok_iconst (pc := 0) dX3_wordsKnown_0 (by decide), ?_⟩
  refine List.forall_mem_cons.mpr ⟨ok_istore_n (pc := 1) dX3_wordsKnown_1 rfl, ?_⟩
  refine List.forall_mem_cons.mpr ⟨ok_iconst (pc := 2) dX3_wordsKnown_2 (by decide), ?_⟩
  refine List.forall_mem_cons.mpr ⟨ok_istore_n (pc := 3) dX3_wordsKnown_3 rfl, ?_⟩
  refine List.forall_mem_cons.mpr ⟨ok_iload_n (pc := 4) dX3_wordsKnown_4 rfl, ?_⟩
  refine List.forall_mem_cons.mpr ⟨ok_aload_n (pc := 5) dX3_wordsKnown_5 rfl, ?_⟩
  refine List.forall_mem_cons.mpr ⟨ok_getf (pc := 6) (k := 0) (C := RX3) (T := TX3) (N := 9) rfl (by decide) hin_X3 (by decide) hsz_X3 bw_28 dX3_wordsKnown_6, ?_⟩
  refine List.forall_mem_cons.mpr ⟨ok_icmp_ge (pc := 9) (tgt := 30) dX3_wordsKnown_9 (by decide), ?_⟩
  refine List.forall_mem_cons.mpr ⟨ok_iload_n (pc := 12) dX3_wordsKnown_12 rfl, ?_⟩
  refine List.forall_mem_cons.mpr ⟨ok_aload_n (pc := 13) dX3_wordsKnown_13 rfl, ?_⟩
  refine List.forall_mem_cons.mpr ⟨ok_getf (pc := 14) (k := 3) (C := RX3) (T := TX3) (N := 9) rfl (by decide) hin_X3 (by decide) hsz_X3 bw_34 dX3_wordsKnown_14, ?_⟩
  refine List.forall_mem_cons.mpr ⟨ok_iload_n (pc := 17) dX3_wordsKnown_17 rfl, ?_⟩
  refine List.forall_mem_cons.mpr ⟨ok_iald (pc := 18) dX3_wordsKnown_18, ?_⟩
  refine List.forall_mem_cons.mpr ⟨ok_callS (pc := 19) sp_J6_bitCount_0f7a4 ⟨bw_35, bs_J6_bitCount_0f7a4⟩ (by decide) ⟨rfl, rfl, Nat.le_of_ble_eq_true rfl, Nat.le_of_ble_eq_true rfl⟩ dX3_wordsKnown_19, ?_⟩
  refine List.forall_mem_cons.mpr ⟨ok_iadd (pc := 22) dX3_wordsKnown_22, ?_⟩
  refine List.forall_mem_cons.mpr ⟨ok_istore_n (pc := 23) dX3_wordsKnown_23 rfl, ?_⟩
  refine List.forall_mem_cons.mpr ⟨ok_iinc (pc := 24) dX3_wordsKnown_24 (by decide), ?_⟩
  refine List.forall_mem_cons.mpr ⟨ok_goto (pc := 27) (tgt := 4) dX3_wordsKnown_27 (by decide), ?_⟩
  refine List.forall_mem_cons.mpr ⟨ok_iload_n (pc := 30) dX3_wordsKnown_30 rfl, ?_⟩
  refine List.forall_mem_cons.mpr ⟨ok_iret (pc := 31) dX3_wordsKnown_31, ?_⟩
  exact fun _ h => absurd h List.not_mem_nil
abbrev k_X3_agrees : List (Nat × mm_T) := [(0, o_ild 1 1), (1, o_ald 0 2), (2, o_getf 3 7 5), (5, o_iand 6), (6, o_ald 0 7), (7, o_getf 3 7 10), (10, o_ic_ne 26 13), (13, o_ild 1 14), (14, o_ald 0 15), (15, o_getf 3 8 18), (18, o_iand 19), (19, o_if_ne 26 22), (22, o_ic 1 23), (23, o_goto 27), (26, o_ic 0 27), (27, o_zret)]
def m_X3_agrees : Nat → mm_T := mm_look k_X3_agrees
set_option maxRecDepth 20000 in
theorem sp_X3_agrees : mm_Sp yX3_agrees cX3_agrees 2 (some .boolean) { frames := 0, cells := 0, slots := 0, locals := 0 } m_X3_agrees := by
  refine mm_sound (own := RX3) (code := k_X3_agrees) (by decide) rfl ?_
  refine List.forall_mem_cons.mpr ⟨ok_iload_n (pc := 0) dX3_agrees_0 rfl, ?_⟩
  refine List.forall_mem_cons.mpr ⟨ok_aload_n (pc := 1) dX3_agrees_1 rfl, ?_⟩
  refine List.forall_mem_cons.mpr ⟨ok_getf (pc := 2) (k := 7) (C := RX3) (T := TX3) (N := 9) rfl (by decide) hin_X3 (by decide) hsz_X3 bw_26 dX3_agrees_2, ?_⟩
  refine List.forall_mem_cons.mpr ⟨ok_iand (pc := 5) dX3_agrees_5, ?_⟩
  refine List.forall_mem_cons.mpr ⟨ok_aload_n (pc := 6) dX3_agrees_6 rfl, ?_⟩
  refine List.forall_mem_cons.mpr ⟨ok_getf (pc := 7) (k := 7) (C := RX3) (T := TX3) (N := 9) rfl (by decide) hin_X3 (by decide) hsz_X3 bw_26 dX3_agrees_7, ?_⟩
  refine List.forall_mem_cons.mpr ⟨ok_icmp_ne (pc := 10) (tgt := 26) dX3_agrees_10 (by decide), ?_⟩
  refine List.forall_mem_cons.mpr ⟨ok_iload_n (pc := 13) dX3_agrees_13 rfl, ?_⟩
  refine List.forall_mem_cons.mpr ⟨ok_aload_n (pc := 14) dX3_agrees_14 rfl, ?_⟩
  refine List.forall_mem_cons.mpr ⟨ok_getf (pc := 15) (k := 8) (C := RX3) (T := TX3) (N := 9) rfl (by decide) hin_X3 (by decide) hsz_X3 bw_27 dX3_agrees_15, ?_⟩
  refine List.forall_mem_cons.mpr ⟨ok_iand (pc := 18) dX3_agrees_18, ?_⟩
  refine List.forall_mem_cons.mpr ⟨ok_if_ne (pc := 19) (tgt := 26) dX3_agrees_19 (by decide), ?_⟩
  refine List.forall_mem_cons.mpr ⟨ok_iconst (pc := 22) dX3_agrees_22 (by decide), ?_⟩
  refine List.forall_mem_cons.mpr ⟨ok_goto (pc := 23) (tgt := 27) dX3_agrees_23 (by decide), ?_⟩
  refine List.forall_mem_cons.mpr ⟨ok_iconst (pc := 26) dX3_agrees_26 (by decide), ?_⟩
  refine List.forall_mem_cons.mpr ⟨ok_zret (pc := 27) dX3_agrees_27, ?_⟩
  exact fun _ h => absurd h List.not_mem_nil
abbrev k_X4_letter : List (Nat × mm_T) := [(0, o_ild 1 1), (1, o_ic 1 2), (2, o_ic_lt 11 5), (5, o_ild 1 6), (6, o_ic 126 8), (8, o_ic_le 14 11), (11, o_ic (-102) 13), (13, o_iret), (14, o_ald 0 15), (15, o_getf 4 1 18), (18, o_ic 20 20), (20, o_ic_lt 26 23), (23, o_ic (-104) 25), (25, o_iret), (26, o_ald 0 27), (27, o_getf 4 0 30), (30, o_ald 0 31), (31, o_getf 4 1 34), (34, o_ild 1 35), (35, o_iast 36), (36, o_ald 0 37), (37, o_dup 38), (38, o_getf 4 1 41), (41, o_ic 1 42), (42, o_iadd 43), (43, o_putf 4 1 46), (46, o_ald 0 47), (47, o_getf 4 1 50), (50, o_iret)]
def m_X4_letter : Nat → mm_T := mm_look k_X4_letter
set_option maxRecDepth 20000 in
theorem sp_X4_letter : mm_Sp yX4_letter cX4_letter 2 (some .int) { frames := 0, cells := 0, slots := 0, locals := 0 } m_X4_letter := by
  refine mm_sound (own := RX4) (code := k_X4_letter) (by decide) rfl ?_
  refine List.forall_mem_cons.mpr ⟨ok_iload_n (pc := 0) dX4_letter_0 rfl, ?_⟩
  refine List.forall_mem_cons.mpr ⟨ok_iconst (pc := 1) dX4_letter_1 (by decide), ?_⟩
  refine List.forall_mem_cons.mpr ⟨ok_icmp_lt (pc := 2) (tgt := 11) dX4_letter_2 (by decide), ?_⟩
  refine List.forall_mem_cons.mpr ⟨ok_iload_n (pc := 5) dX4_letter_5 rfl, ?_⟩
  refine List.forall_mem_cons.mpr ⟨ok_bipush (pc := 6) dX4_letter_6 (by decide), ?_⟩
  refine List.forall_mem_cons.mpr ⟨ok_icmp_le (pc := 8) (tgt := 14) dX4_letter_8 (by decide), ?_⟩
  refine List.forall_mem_cons.mpr ⟨ok_bipush (pc := 11) dX4_letter_11 (by decide), ?_⟩
  refine List.forall_mem_cons.mpr ⟨ok_iret (pc := 13) dX4_letter_13, ?_⟩
  refine List.forall_mem_cons.mpr ⟨ok_aload_n (pc := 14) dX4_letter_14 rfl, ?_⟩
  refine List.forall_mem_cons.mpr ⟨ok_getf (pc := 15) (k := 1) (C := RX4) (T := TX4) (N := 12) rfl (by decide) hin_X4 (by decide) hsz_X4 bw_36 dX4_letter_15, ?_⟩
  refine List.forall_mem_cons.mpr ⟨ok_bipush (pc := 18) dX4_letter_18 (by decide), ?_⟩
  refine List.forall_mem_cons.mpr ⟨ok_icmp_lt (pc := 20) (tgt := 26) dX4_letter_20 (by decide), ?_⟩
  refine List.forall_mem_cons.mpr ⟨ok_bipush (pc := 23) dX4_letter_23 (by decide), ?_⟩
  refine List.forall_mem_cons.mpr ⟨ok_iret (pc := 25) dX4_letter_25, ?_⟩
  refine List.forall_mem_cons.mpr ⟨ok_aload_n (pc := 26) dX4_letter_26 rfl, ?_⟩
  refine List.forall_mem_cons.mpr ⟨ok_getf (pc := 27) (k := 0) (C := RX4) (T := TX4) (N := 12) rfl (by decide) hin_X4 (by decide) hsz_X4 bw_37 dX4_letter_27, ?_⟩
  refine List.forall_mem_cons.mpr ⟨ok_aload_n (pc := 30) dX4_letter_30 rfl, ?_⟩
  refine List.forall_mem_cons.mpr ⟨ok_getf (pc := 31) (k := 1) (C := RX4) (T := TX4) (N := 12) rfl (by decide) hin_X4 (by decide) hsz_X4 bw_36 dX4_letter_31, ?_⟩
  refine List.forall_mem_cons.mpr ⟨ok_iload_n (pc := 34) dX4_letter_34 rfl, ?_⟩
  refine List.forall_mem_cons.mpr ⟨ok_iast (pc := 35) dX4_letter_35, ?_⟩
  refine List.forall_mem_cons.mpr ⟨ok_aload_n (pc := 36) dX4_letter_36 rfl, ?_⟩
  refine List.forall_mem_cons.mpr ⟨ok_dup (pc := 37) dX4_letter_37, ?_⟩
  refine List.forall_mem_cons.mpr ⟨ok_getf (pc := 38) (k := 1) (C := RX4) (T := TX4) (N := 12) rfl (by decide) hin_X4 (by decide) hsz_X4 bw_36 dX4_letter_38, ?_⟩
  refine List.forall_mem_cons.mpr ⟨ok_iconst (pc := 41) dX4_letter_41 (by decide), ?_⟩
  refine List.forall_mem_cons.mpr ⟨ok_iadd (pc := 42) dX4_letter_42, ?_⟩
  refine List.forall_mem_cons.mpr ⟨ok_putf (pc := 43) (k := 1) (C := RX4) (T := TX4) (N := 12) tyX4 tyX4_ok nmX4 rfl (by decide) hin_X4 (by decide) hsz_X4 hkt_X4_1 rfl bw_36 dX4_letter_43, ?_⟩
  refine List.forall_mem_cons.mpr ⟨ok_aload_n (pc := 46) dX4_letter_46 rfl, ?_⟩
  refine List.forall_mem_cons.mpr ⟨ok_getf (pc := 47) (k := 1) (C := RX4) (T := TX4) (N := 12) rfl (by decide) hin_X4 (by decide) hsz_X4 bw_36 dX4_letter_47, ?_⟩
  refine List.forall_mem_cons.mpr ⟨ok_iret (pc := 50) dX4_letter_50, ?_⟩
  exact fun _ h => absurd h List.not_mem_nil
abbrev k_X4_blank : List (Nat × mm_T) := [(0, o_ald 0 1), (1, o_getf 4 1 4), (4, o_ist 1 5), (5, o_ald 0 6), (6, o_ic 0 7), (7, o_putf 4 1 10), (10, o_ild 1 11), (11, o_iret)]
def m_X4_blank : Nat → mm_T := mm_look k_X4_blank
set_option maxRecDepth 20000 in
theorem sp_X4_blank : mm_Sp yX4_blank cX4_blank 2 (some .int) { frames := 0, cells := 0, slots := 0, locals := 0 } m_X4_blank := by
  refine mm_sound (own := RX4) (code := k_X4_blank) (by decide) rfl ?_
  refine List.forall_mem_cons.mpr ⟨ok_aload_n (pc := 0) dX4_blank_0 rfl, ?_⟩
  refine List.forall_mem_cons.mpr ⟨ok_getf (pc := 1) (k := 1) (C := RX4) (T := TX4) (N := 12) rfl (by decide) hin_X4 (by decide) hsz_X4 bw_36 dX4_blank_1, ?_⟩
  refine List.forall_mem_cons.mpr ⟨ok_istore_n (pc := 4) dX4_blank_4 rfl, ?_⟩
  refine List.forall_mem_cons.mpr ⟨ok_aload_n (pc := 5) dX4_blank_5 rfl, ?_⟩
  refine List.forall_mem_cons.mpr ⟨ok_iconst (pc := 6) dX4_blank_6 (by decide), ?_⟩
  refine List.forall_mem_cons.mpr ⟨ok_putf (pc := 7) (k := 1) (C := RX4) (T := TX4) (N := 12) tyX4 tyX4_ok nmX4 rfl (by decide) hin_X4 (by decide) hsz_X4 hkt_X4_1 rfl bw_36 dX4_blank_7, ?_⟩
  refine List.forall_mem_cons.mpr ⟨ok_iload_n (pc := 10) dX4_blank_10 rfl, ?_⟩
  refine List.forall_mem_cons.mpr ⟨ok_iret (pc := 11) dX4_blank_11, ?_⟩
  exact fun _ h => absurd h List.not_mem_nil
abbrev k_X4_fitsDome : List (Nat × mm_T) := [(0, o_ild 0 1), (1, o_ic 8 3), (3, o_ic_ge 24 6), (6, o_ild 1 7), (7, o_ic 97 9), (9, o_ic_lt 22 12), (12, o_ild 1 13), (13, o_ic 104 15), (15, o_ic_gt 22 18), (18, o_ic 1 19), (19, o_goto 23), (22, o_ic 0 23), (23, o_zret), (24, o_ild 0 25), (25, o_ic 8 27), (27, o_ic_ne 42 30), (30, o_ild 1 31), (31, o_ic 59 33), (33, o_ic_ne 40 36), (36, o_ic 1 37), (37, o_goto 41), (40, o_ic 0 41), (41, o_zret), (42, o_ild 0 43), (43, o_ic 17 45), (45, o_ic_ge 64 48), (48, o_ild 1 49), (49, o_ic 48 51), (51, o_ic_lt 64 54), (54, o_ild 1 55), (55, o_ic 57 57), (57, o_ic_gt 64 60), (60, o_ic 1 61), (61, o_goto 65), (64, o_ic 0 65), (65, o_zret)]
def m_X4_fitsDome : Nat → mm_T := mm_look k_X4_fitsDome
set_option maxRecDepth 20000 in
theorem sp_X4_fitsDome : mm_Sp yX4_fitsDome cX4_fitsDome 2 (some .boolean) { frames := 0, cells := 0, slots := 0, locals := 0 } m_X4_fitsDome := by
  refine mm_sound (own := RX4) (code := k_X4_fitsDome) (by decide) rfl ?_
  refine List.forall_mem_cons.mpr ⟨ok_iload_n (pc := 0) dX4_fitsDome_0 rfl, ?_⟩
  refine List.forall_mem_cons.mpr ⟨ok_bipush (pc := 1) dX4_fitsDome_1 (by decide), ?_⟩
  refine List.forall_mem_cons.mpr ⟨ok_icmp_ge (pc := 3) (tgt := 24) dX4_fitsDome_3 (by decide), ?_⟩
  refine List.forall_mem_cons.mpr ⟨ok_iload_n (pc := 6) dX4_fitsDome_6 rfl, ?_⟩
  refine List.forall_mem_cons.mpr ⟨ok_bipush (pc := 7) dX4_fitsDome_7 (by decide), ?_⟩
  refine List.forall_mem_cons.mpr ⟨ok_icmp_lt (pc := 9) (tgt := 22) dX4_fitsDome_9 (by decide), ?_⟩
  refine List.forall_mem_cons.mpr ⟨ok_iload_n (pc := 12) dX4_fitsDome_12 rfl, ?_⟩
  refine List.forall_mem_cons.mpr ⟨ok_bipush (pc := 13) dX4_fitsDome_13 (by decide), ?_⟩
  refine List.forall_mem_cons.mpr ⟨ok_icmp_gt (pc := 15) (tgt := 22) dX4_fitsDome_15 (by decide), ?_⟩
  refine List.forall_mem_cons.mpr ⟨ok_iconst (pc := 18) dX4_fitsDome_18 (by decide), ?_⟩
  refine List.forall_mem_cons.mpr ⟨ok_goto (pc := 19) (tgt := 23) dX4_fitsDome_19 (by decide), ?_⟩
  refine List.forall_mem_cons.mpr ⟨ok_iconst (pc := 22) dX4_fitsDome_22 (by decide), ?_⟩
  refine List.forall_mem_cons.mpr ⟨ok_zret (pc := 23) dX4_fitsDome_23, ?_⟩
  refine List.forall_mem_cons.mpr ⟨ok_iload_n (pc := 24) dX4_fitsDome_24 rfl, ?_⟩
  refine List.forall_mem_cons.mpr ⟨ok_bipush (pc := 25) dX4_fitsDome_25 (by decide), ?_⟩
  refine List.forall_mem_cons.mpr ⟨ok_icmp_ne (pc := 27) (tgt := 42) dX4_fitsDome_27 (by decide), ?_⟩
  refine List.forall_mem_cons.mpr ⟨ok_iload_n (pc := 30) dX4_fitsDome_30 rfl, ?_⟩
  refine List.forall_mem_cons.mpr ⟨ok_bipush (pc := 31) dX4_fitsDome_31 (by decide), ?_⟩
  refine List.forall_mem_cons.mpr ⟨ok_icmp_ne (pc := 33) (tgt := 40) dX4_fitsDome_33 (by decide), ?_⟩
  refine List.forall_mem_cons.mpr ⟨ok_iconst (pc := 36) dX4_fitsDome_36 (by decide), ?_⟩
  refine List.forall_mem_cons.mpr ⟨ok_goto (pc := 37) (tgt := 41) dX4_fitsDome_37 (by decide), ?_⟩
  refine List.forall_mem_cons.mpr ⟨ok_iconst (pc := 40) dX4_fitsDome_40 (by decide), ?_⟩
  refine List.forall_mem_cons.mpr ⟨ok_zret (pc := 41) dX4_fitsDome_41, ?_⟩
  refine List.forall_mem_cons.mpr ⟨ok_iload_n (pc := 42) dX4_fitsDome_42 rfl, ?_⟩
  refine List.forall_mem_cons.mpr ⟨ok_bipush (pc := 43) dX4_fitsDome_43 (by decide), ?_⟩
  refine List.forall_mem_cons.mpr ⟨ok_icmp_ge (pc := 45) (tgt := 64) dX4_fitsDome_45 (by decide), ?_⟩
  refine List.forall_mem_cons.mpr ⟨ok_iload_n (pc := 48) dX4_fitsDome_48 rfl, ?_⟩
  refine List.forall_mem_cons.mpr ⟨ok_bipush (pc := 49) dX4_fitsDome_49 (by decide), ?_⟩
  refine List.forall_mem_cons.mpr ⟨ok_icmp_lt (pc := 51) (tgt := 64) dX4_fitsDome_51 (by decide), ?_⟩
  refine List.forall_mem_cons.mpr ⟨ok_iload_n (pc := 54) dX4_fitsDome_54 rfl, ?_⟩
  refine List.forall_mem_cons.mpr ⟨ok_bipush (pc := 55) dX4_fitsDome_55 (by decide), ?_⟩
  refine List.forall_mem_cons.mpr ⟨ok_icmp_gt (pc := 57) (tgt := 64) dX4_fitsDome_57 (by decide), ?_⟩
  refine List.forall_mem_cons.mpr ⟨ok_iconst (pc := 60) dX4_fitsDome_60 (by decide), ?_⟩
  refine List.forall_mem_cons.mpr ⟨ok_goto (pc := 61) (tgt := 65) dX4_fitsDome_61 (by decide), ?_⟩
  refine List.forall_mem_cons.mpr ⟨ok_iconst (pc := 64) dX4_fitsDome_64 (by decide), ?_⟩
  refine List.forall_mem_cons.mpr ⟨ok_zret (pc := 65) dX4_fitsDome_65, ?_⟩
  exact fun _ h => absurd h List.not_mem_nil
abbrev k_X4_fault : List (Nat × mm_T) := [(0, o_ic 0 1), (1, o_ist 1 2), (2, o_ild 1 3), (3, o_ald 0 4), (4, o_getf 4 1 7), (7, o_ic_ge 31 10), (10, o_ild 1 11), (11, o_ald 0 12), (12, o_getf 4 0 15), (15, o_ild 1 16), (16, o_iald 17), (17, o_callS m_X4_fitsDome 2 2 20), (20, o_if_ne 25 23), (23, o_ild 1 24), (24, o_iret), (25, o_iinc 1 1 28), (28, o_goto 2), (31, o_ald 0 32), (32, o_getf 4 1 35), (35, o_iret)]
def m_X4_fault : Nat → mm_T := mm_look k_X4_fault
set_option maxRecDepth 20000 in
theorem sp_X4_fault : mm_Sp yX4_fault cX4_fault 2 (some .int) { frames := 1, cells := 0, slots := 0, locals := 21 } m_X4_fault := by
  refine mm_sound (own := RX4) (code := k_X4_fault) (by decide) rfl ?_
  refine List.forall_mem_cons.mpr ⟨ok_iconst (pc := 0) dX4_fault_0 (by decide), ?_⟩
  refine List.forall_mem_cons.mpr ⟨ok_istore_n (pc := 1) dX4_fault_1 rfl, ?_⟩
  refine List.forall_mem_cons.mpr ⟨ok_iload_n (pc := 2) dX4_fault_2 rfl, ?_⟩
  refine List.forall_mem_cons.mpr ⟨ok_aload_n (pc := 3) dX4_fault_3 rfl, ?_⟩
  refine List.forall_mem_cons.mpr ⟨ok_getf (pc := 4) (k := 1) (C := RX4) (T := TX4) (N := 12) rfl (by decide) hin_X4 (by decide) hsz_X4 bw_36 dX4_fault_4, ?_⟩
  refine List.forall_mem_cons.mpr ⟨ok_icmp_ge (pc := 7) (tgt := 31) dX4_fault_7 (by decide), ?_⟩
  refine List.forall_mem_cons.mpr ⟨ok_iload_n (pc := 10) dX4_fault_10 rfl, ?_⟩
  refine List.forall_mem_cons.mpr ⟨ok_aload_n (pc := 11) dX4_fault_11 rfl, ?_⟩
  refine List.forall_mem_cons.mpr ⟨ok_getf (pc := 12) (k := 0) (C := RX4) (T := TX4) (N := 12) rfl (by decide) hin_X4 (by decide) hsz_X4 bw_37 dX4_fault_12, ?_⟩
  refine List.forall_mem_cons.mpr ⟨ok_iload_n (pc := 15) dX4_fault_15 rfl, ?_⟩
  refine List.forall_mem_cons.mpr ⟨ok_iald (pc := 16) dX4_fault_16, ?_⟩
  refine List.forall_mem_cons.mpr ⟨ok_callS (pc := 17) sp_X4_fitsDome ⟨bw_38, bs_X4_fitsDome⟩ (by decide) ⟨rfl, rfl, Nat.le_of_ble_eq_true rfl, Nat.le_of_ble_eq_true rfl⟩ dX4_fault_17, ?_⟩
  refine List.forall_mem_cons.mpr ⟨ok_if_ne (pc := 20) (tgt := 25) dX4_fault_20 (by decide), ?_⟩
  refine List.forall_mem_cons.mpr ⟨ok_iload_n (pc := 23) dX4_fault_23 rfl, ?_⟩
  refine List.forall_mem_cons.mpr ⟨ok_iret (pc := 24) dX4_fault_24, ?_⟩
  refine List.forall_mem_cons.mpr ⟨ok_iinc (pc := 25) dX4_fault_25 (by decide), ?_⟩
  refine List.forall_mem_cons.mpr ⟨ok_goto (pc := 28) (tgt := 2) dX4_fault_28 (by decide), ?_⟩
  refine List.forall_mem_cons.mpr ⟨ok_aload_n (pc := 31) dX4_fault_31 rfl, ?_⟩
  refine List.forall_mem_cons.mpr ⟨ok_getf (pc := 32) (k := 1) (C := RX4) (T := TX4) (N := 12) rfl (by decide) hin_X4 (by decide) hsz_X4 bw_36 dX4_fault_32, ?_⟩
  refine List.forall_mem_cons.mpr ⟨ok_iret (pc := 35) dX4_fault_35, ?_⟩
  exact fun _ h => absurd h List.not_mem_nil
abbrev k_X4_dome : List (Nat × mm_T) := [(0, o_ald 0 1), (1, o_getf 4 1 4), (4, o_ic 17 6), (6, o_ic_ne 18 9), (9, o_ald 0 10), (10, o_callV 4 m_X4_fault 2 0 13), (13, o_ic 17 15), (15, o_ic_eq 21 18), (18, o_ic (-103) 20), (20, o_iret), (21, o_ald 0 22), (22, o_getf 4 2 25), (25, o_ald 0 26), (26, o_getf 4 0 29), (29, o_callV 2 m_X2_read 3 1 32), (32, o_ald 0 33), (33, o_getf 4 3 36), (36, o_callV 3 m_X3_clear 1 0 39), (39, o_ald 0 40), (40, o_ic 0 41), (41, o_putf 4 9 44), (44, o_ald 0 45), (45, o_dup 46), (46, o_getf 4 10 49), (49, o_ic 1 50), (50, o_iadd 51), (51, o_putf 4 10 54), (54, o_ald 0 55), (55, o_ic 0 56), (56, o_putf 4 1 59), (59, o_ald 0 60), (60, o_getf 4 2 63), (63, o_callV 2 m_X2_heardElsewhere 3 0 66), (66, o_iret)]
def m_X4_dome : Nat → mm_T := mm_look k_X4_dome
set_option maxRecDepth 20000 in
theorem sp_X4_dome : mm_Sp yX4_dome cX4_dome 1 (some .int) { frames := 2, cells := 0, slots := 0, locals := 42 } m_X4_dome := by
  refine mm_sound (own := RX4) (code := k_X4_dome) (by decide) rfl ?_
  refine List.forall_mem_cons.mpr ⟨ok_aload_n (pc := 0) dX4_dome_0 rfl, ?_⟩
  refine List.forall_mem_cons.mpr ⟨ok_getf (pc := 1) (k := 1) (C := RX4) (T := TX4) (N := 12) rfl (by decide) hin_X4 (by decide) hsz_X4 bw_36 dX4_dome_1, ?_⟩
  refine List.forall_mem_cons.mpr ⟨ok_bipush (pc := 4) dX4_dome_4 (by decide), ?_⟩
  refine List.forall_mem_cons.mpr ⟨ok_icmp_ne (pc := 6) (tgt := 18) dX4_dome_6 (by decide), ?_⟩
  refine List.forall_mem_cons.mpr ⟨ok_aload_n (pc := 9) dX4_dome_9 rfl, ?_⟩
  refine List.forall_mem_cons.mpr ⟨ok_callV (pc := 10) sp_X4_fault (ci := 4) (C := RX4) rfl (by decide) ⟨bw_39, bm_X4_fault⟩ (by decide) ⟨rfl, rfl, Nat.le_of_ble_eq_true rfl, Nat.le_of_ble_eq_true rfl⟩ dX4_dome_10, ?_⟩
  refine List.forall_mem_cons.mpr ⟨ok_bipush (pc := 13) dX4_dome_13 (by decide), ?_⟩
  refine List.forall_mem_cons.mpr ⟨ok_icmp_eq (pc := 15) (tgt := 21) dX4_dome_15 (by decide), ?_⟩
  refine List.forall_mem_cons.mpr ⟨ok_bipush (pc := 18) dX4_dome_18 (by decide), ?_⟩
  refine List.forall_mem_cons.mpr ⟨ok_iret (pc := 20) dX4_dome_20, ?_⟩
  refine List.forall_mem_cons.mpr ⟨ok_aload_n (pc := 21) dX4_dome_21 rfl, ?_⟩
  refine List.forall_mem_cons.mpr ⟨ok_getf (pc := 22) (k := 2) (C := RX4) (T := TX4) (N := 12) rfl (by decide) hin_X4 (by decide) hsz_X4 bw_40 dX4_dome_22, ?_⟩
  refine List.forall_mem_cons.mpr ⟨ok_aload_n (pc := 25) dX4_dome_25 rfl, ?_⟩
  refine List.forall_mem_cons.mpr ⟨ok_getf (pc := 26) (k := 0) (C := RX4) (T := TX4) (N := 12) rfl (by decide) hin_X4 (by decide) hsz_X4 bw_37 dX4_dome_26, ?_⟩
  refine List.forall_mem_cons.mpr ⟨ok_callV (pc := 29) sp_X2_read (ci := 2) (C := RX2) rfl (by decide) ⟨bw_41, bm_X2_read⟩ (by decide) ⟨rfl, rfl, Nat.le_of_ble_eq_true rfl, Nat.le_of_ble_eq_true rfl⟩ dX4_dome_29, ?_⟩
  refine List.forall_mem_cons.mpr ⟨ok_aload_n (pc := 32) dX4_dome_32 rfl, ?_⟩
  refine List.forall_mem_cons.mpr ⟨ok_getf (pc := 33) (k := 3) (C := RX4) (T := TX4) (N := 12) rfl (by decide) hin_X4 (by decide) hsz_X4 bw_42 dX4_dome_33, ?_⟩
  refine List.forall_mem_cons.mpr ⟨ok_callV (pc := 36) sp_X3_clear (ci := 3) (C := RX3) rfl (by decide) ⟨bw_43, bm_X3_clear⟩ (by decide) ⟨rfl, rfl, Nat.le_of_ble_eq_true rfl, Nat.le_of_ble_eq_true rfl⟩ dX4_dome_36, ?_⟩
  refine List.forall_mem_cons.mpr ⟨ok_aload_n (pc := 39) dX4_dome_39 rfl, ?_⟩
  refine List.forall_mem_cons.mpr ⟨ok_iconst (pc := 40) dX4_dome_40 (by decide), ?_⟩
  refine List.forall_mem_cons.mpr ⟨ok_putf (pc := 41) (k := 9) (C := RX4) (T := TX4) (N := 12) tyX4 tyX4_ok nmX4 rfl (by decide) hin_X4 (by decide) hsz_X4 hkt_X4_9 rfl bw_44 dX4_dome_41, ?_⟩
  refine List.forall_mem_cons.mpr ⟨ok_aload_n (pc := 44) dX4_dome_44 rfl, ?_⟩
  refine List.forall_mem_cons.mpr ⟨ok_dup (pc := 45) dX4_dome_45, ?_⟩
  refine List.forall_mem_cons.mpr ⟨ok_getf (pc := 46) (k := 10) (C := RX4) (T := TX4) (N := 12) rfl (by decide) hin_X4 (by decide) hsz_X4 bw_45 dX4_dome_46, ?_⟩
  refine List.forall_mem_cons.mpr ⟨ok_iconst (pc := 49) dX4_dome_49 (by decide), ?_⟩
  refine List.forall_mem_cons.mpr ⟨ok_iadd (pc := 50) dX4_dome_50, ?_⟩
  refine List.forall_mem_cons.mpr ⟨ok_putf (pc := 51) (k := 10) (C := RX4) (T := TX4) (N := 12) tyX4 tyX4_ok nmX4 rfl (by decide) hin_X4 (by decide) hsz_X4 hkt_X4_10 rfl bw_45 dX4_dome_51, ?_⟩
  refine List.forall_mem_cons.mpr ⟨ok_aload_n (pc := 54) dX4_dome_54 rfl, ?_⟩
  refine List.forall_mem_cons.mpr ⟨ok_iconst (pc := 55) dX4_dome_55 (by decide), ?_⟩
  refine List.forall_mem_cons.mpr ⟨ok_putf (pc := 56) (k := 1) (C := RX4) (T := TX4) (N := 12) tyX4 tyX4_ok nmX4 rfl (by decide) hin_X4 (by decide) hsz_X4 hkt_X4_1 rfl bw_36 dX4_dome_56, ?_⟩
  refine List.forall_mem_cons.mpr ⟨ok_aload_n (pc := 59) dX4_dome_59 rfl, ?_⟩
  refine List.forall_mem_cons.mpr ⟨ok_getf (pc := 60) (k := 2) (C := RX4) (T := TX4) (N := 12) rfl (by decide) hin_X4 (by decide) hsz_X4 bw_40 dX4_dome_60, ?_⟩
  refine List.forall_mem_cons.mpr ⟨ok_callV (pc := 63) sp_X2_heardElsewhere (ci := 2) (C := RX2) rfl (by decide) ⟨bw_46, bm_X2_heardElsewhere⟩ (by decide) ⟨rfl, rfl, Nat.le_of_ble_eq_true rfl, Nat.le_of_ble_eq_true rfl⟩ dX4_dome_63, ?_⟩
  refine List.forall_mem_cons.mpr ⟨ok_iret (pc := 66) dX4_dome_66, ?_⟩
  exact fun _ h => absurd h List.not_mem_nil
abbrev k_X4_hasDome : List (Nat × mm_T) := [(0, o_ald 0 1), (1, o_getf 4 10 4), (4, o_if_le 11 7), (7, o_ic 1 8), (8, o_goto 12), (11, o_ic 0 12), (12, o_zret)]
def m_X4_hasDome : Nat → mm_T := mm_look k_X4_hasDome
set_option maxRecDepth 20000 in
theorem sp_X4_hasDome : mm_Sp yX4_hasDome cX4_hasDome 1 (some .boolean) { frames := 0, cells := 0, slots := 0, locals := 0 } m_X4_hasDome := by
  refine mm_sound (own := RX4) (code := k_X4_hasDome) (by decide) rfl ?_
  refine List.forall_mem_cons.mpr ⟨ok_aload_n (pc := 0) dX4_hasDome_0 rfl, ?_⟩
  refine List.forall_mem_cons.mpr ⟨ok_getf (pc := 1) (k := 10) (C := RX4) (T := TX4) (N := 12) rfl (by decide) hin_X4 (by decide) hsz_X4 bw_45 dX4_hasDome_1, ?_⟩
  refine List.forall_mem_cons.mpr ⟨ok_if_le (pc := 4) (tgt := 11) dX4_hasDome_4 (by decide), ?_⟩
  refine List.forall_mem_cons.mpr ⟨ok_iconst (pc := 7) dX4_hasDome_7 (by decide), ?_⟩
  refine List.forall_mem_cons.mpr ⟨ok_goto (pc := 8) (tgt := 12) dX4_hasDome_8 (by decide), ?_⟩
  refine List.forall_mem_cons.mpr ⟨ok_iconst (pc := 11) dX4_hasDome_11 (by decide), ?_⟩
  refine List.forall_mem_cons.mpr ⟨ok_zret (pc := 12) dX4_hasDome_12, ?_⟩
  exact fun _ h => absurd h List.not_mem_nil
abbrev k_X4_isPlace : List (Nat × mm_T) := [(0, o_ald 0 1), (1, o_callV 4 m_X4_hasDome 1 0 4), (4, o_if_eq 21 7), (7, o_ild 1 8), (8, o_if_lt 21 11), (11, o_ild 1 12), (12, o_ic 8 14), (14, o_ic_ge 21 17), (17, o_ic 1 18), (18, o_goto 22), (21, o_ic 0 22), (22, o_zret)]
def m_X4_isPlace : Nat → mm_T := mm_look k_X4_isPlace
set_option maxRecDepth 20000 in
theorem sp_X4_isPlace : mm_Sp yX4_isPlace cX4_isPlace 2 (some .boolean) { frames := 1, cells := 0, slots := 0, locals := 20 } m_X4_isPlace := by
  refine mm_sound (own := RX4) (code := k_X4_isPlace) (by decide) rfl ?_
  refine List.forall_mem_cons.mpr ⟨ok_aload_n (pc := 0) dX4_isPlace_0 rfl, ?_⟩
  refine List.forall_mem_cons.mpr ⟨ok_callV (pc := 1) sp_X4_hasDome (ci := 4) (C := RX4) rfl (by decide) ⟨bw_47, bm_X4_hasDome⟩ (by decide) ⟨rfl, rfl, Nat.le_of_ble_eq_true rfl, Nat.le_of_ble_eq_true rfl⟩ dX4_isPlace_1, ?_⟩
  refine List.forall_mem_cons.mpr ⟨ok_if_eq (pc := 4) (tgt := 21) dX4_isPlace_4 (by decide), ?_⟩
  refine List.forall_mem_cons.mpr ⟨ok_iload_n (pc := 7) dX4_isPlace_7 rfl, ?_⟩
  refine List.forall_mem_cons.mpr ⟨ok_if_lt (pc := 8) (tgt := 21) dX4_isPlace_8 (by decide), ?_⟩
  refine List.forall_mem_cons.mpr ⟨ok_iload_n (pc := 11) dX4_isPlace_11 rfl, ?_⟩
  refine List.forall_mem_cons.mpr ⟨ok_bipush (pc := 12) dX4_isPlace_12 (by decide), ?_⟩
  refine List.forall_mem_cons.mpr ⟨ok_icmp_ge (pc := 14) (tgt := 21) dX4_isPlace_14 (by decide), ?_⟩
  refine List.forall_mem_cons.mpr ⟨ok_iconst (pc := 17) dX4_isPlace_17 (by decide), ?_⟩
  refine List.forall_mem_cons.mpr ⟨ok_goto (pc := 18) (tgt := 22) dX4_isPlace_18 (by decide), ?_⟩
  refine List.forall_mem_cons.mpr ⟨ok_iconst (pc := 21) dX4_isPlace_21 (by decide), ?_⟩
  refine List.forall_mem_cons.mpr ⟨ok_zret (pc := 22) dX4_isPlace_22, ?_⟩
  exact fun _ h => absurd h List.not_mem_nil
abbrev k_X4_place : List (Nat × mm_T) := [(0, o_ald 0 1), (1, o_ild 1 2), (2, o_callV 4 m_X4_isPlace 2 1 5), (5, o_if_ne 11 8), (8, o_ic (-101) 10), (10, o_iret), (11, o_ild 2 12), (12, o_tsw [52, 62, 72, 92, 101, 110] 119), (52, o_ald 0 53), (53, o_getf 4 2 56), (56, o_getf 2 0 59), (59, o_ild 1 60), (60, o_iald 61), (61, o_iret), (62, o_ald 0 63), (63, o_getf 4 2 66), (66, o_getf 2 1 69), (69, o_ild 1 70), (70, o_iald 71), (71, o_iret), (72, o_ald 0 73), (73, o_getf 4 3 76), (76, o_getf 3 4 79), (79, o_ild 1 80), (80, o_callS m_X4_hasBit 2 2 83), (83, o_if_eq 90 86), (86, o_ic 1 87), (87, o_goto 91), (90, o_ic 0 91), (91, o_iret), (92, o_ald 0 93), (93, o_getf 4 3 96), (96, o_ild 1 97), (97, o_callV 3 m_X3_peopleAt 4 1 100), (100, o_iret), (101, o_ald 0 102), (102, o_getf 4 2 105), (105, o_ild 1 106), (106, o_callV 2 m_X2_rent 4 1 109), (109, o_iret), (110, o_ald 0 111), (111, o_getf 4 2 114), (114, o_ild 1 115), (115, o_callV 2 m_X2_sources 4 1 118), (118, o_iret), (119, o_ic (-102) 121), (121, o_iret)]
def m_X4_place : Nat → mm_T := mm_look k_X4_place
set_option maxRecDepth 20000 in
theorem sp_X4_place : mm_Sp yX4_place cX4_place 3 (some .int) { frames := 2, cells := 0, slots := 0, locals := 46 } m_X4_place := by
  refine mm_sound (own := RX4) (code := k_X4_place) (by decide) rfl ?_
  refine List.forall_mem_cons.mpr ⟨ok_aload_n (pc := 0) dX4_place_0 rfl, ?_⟩
  refine List.forall_mem_cons.mpr ⟨ok_iload_n (pc := 1) dX4_place_1 rfl, ?_⟩
  refine List.forall_mem_cons.mpr ⟨ok_callV (pc := 2) sp_X4_isPlace (ci := 4) (C := RX4) rfl (by decide) ⟨bw_48, bm_X4_isPlace⟩ (by decide) ⟨rfl, rfl, Nat.le_of_ble_eq_true rfl, Nat.le_of_ble_eq_true rfl⟩ dX4_place_2, ?_⟩
  refine List.forall_mem_cons.mpr ⟨ok_if_ne (pc := 5) (tgt := 11) dX4_place_5 (by decide), ?_⟩
  refine List.forall_mem_cons.mpr ⟨ok_bipush (pc := 8) dX4_place_8 (by decide), ?_⟩
  refine List.forall_mem_cons.mpr ⟨ok_iret (pc := 10) dX4_place_10, ?_⟩
  refine List.forall_mem_cons.mpr ⟨ok_iload_n (pc := 11) dX4_place_11 rfl, ?_⟩
  refine List.forall_mem_cons.mpr ⟨ok_tsw (pc := 12) (ts := [52, 62, 72, 92, 101, 110]) (dflt := 119) dX4_place_12 (by decide) (by decide) (by decide) (by decide), ?_⟩
  refine List.forall_mem_cons.mpr ⟨ok_aload_n (pc := 52) dX4_place_52 rfl, ?_⟩
  refine List.forall_mem_cons.mpr ⟨ok_getf (pc := 53) (k := 2) (C := RX4) (T := TX4) (N := 12) rfl (by decide) hin_X4 (by decide) hsz_X4 bw_40 dX4_place_53, ?_⟩
  refine List.forall_mem_cons.mpr ⟨ok_getf (pc := 56) (k := 0) (C := RX2) (T := TX2) (N := 2) rfl (by decide) hin_X2 (by decide) hsz_X2 bw_49 dX4_place_56, ?_⟩
  refine List.forall_mem_cons.mpr ⟨ok_iload_n (pc := 59) dX4_place_59 rfl, ?_⟩
  refine List.forall_mem_cons.mpr ⟨ok_iald (pc := 60) dX4_place_60, ?_⟩
  refine List.forall_mem_cons.mpr ⟨ok_iret (pc := 61) dX4_place_61, ?_⟩
  refine List.forall_mem_cons.mpr ⟨ok_aload_n (pc := 62) dX4_place_62 rfl, ?_⟩
  refine List.forall_mem_cons.mpr ⟨ok_getf (pc := 63) (k := 2) (C := RX4) (T := TX4) (N := 12) rfl (by decide) hin_X4 (by decide) hsz_X4 bw_40 dX4_place_63, ?_⟩
  refine List.forall_mem_cons.mpr ⟨ok_getf (pc := 66) (k := 1) (C := RX2) (T := TX2) (N := 2) rfl (by decide) hin_X2 (by decide) hsz_X2 bw_50 dX4_place_66, ?_⟩
  refine List.forall_mem_cons.mpr ⟨ok_iload_n (pc := 69) dX4_place_69 rfl, ?_⟩
  refine List.forall_mem_cons.mpr ⟨ok_iald (pc := 70) dX4_place_70, ?_⟩
  refine List.forall_mem_cons.mpr ⟨ok_iret (pc := 71) dX4_place_71, ?_⟩
  refine List.forall_mem_cons.mpr ⟨ok_aload_n (pc := 72) dX4_place_72 rfl, ?_⟩
  refine List.forall_mem_cons.mpr ⟨ok_getf (pc := 73) (k := 3) (C := RX4) (T := TX4) (N := 12) rfl (by decide) hin_X4 (by decide) hsz_X4 bw_42 dX4_place_73, ?_⟩
  refine List.forall_mem_cons.mpr ⟨ok_getf (pc := 76) (k := 4) (C := RX3) (T := TX3) (N := 9) rfl (by decide) hin_X3 (by decide) hsz_X3 bw_51 dX4_place_76, ?_⟩
  refine List.forall_mem_cons.mpr ⟨ok_iload_n (pc := 79) dX4_place_79 rfl, ?_⟩
  refine List.forall_mem_cons.mpr ⟨ok_callS (pc := 80) sp_X4_hasBit ⟨bw_52, bs_X4_hasBit⟩ (by decide) ⟨rfl, rfl, Nat.le_of_ble_eq_true rfl, Nat.le_of_ble_eq_true rfl⟩ dX4_place_80, ?_⟩
  refine List.forall_mem_cons.mpr ⟨ok_if_eq (pc := 83) (tgt := 90) dX4_place_83 (by decide), ?_⟩
  refine List.forall_mem_cons.mpr ⟨ok_iconst (pc := 86) dX4_place_86 (by decide), ?_⟩
  refine List.forall_mem_cons.mpr ⟨ok_goto (pc := 87) (tgt := 91) dX4_place_87 (by decide), ?_⟩
  refine List.forall_mem_cons.mpr ⟨ok_iconst (pc := 90) dX4_place_90 (by decide), ?_⟩
  refine List.forall_mem_cons.mpr ⟨ok_iret (pc := 91) dX4_place_91, ?_⟩
  refine List.forall_mem_cons.mpr ⟨ok_aload_n (pc := 92) dX4_place_92 rfl, ?_⟩
  refine List.forall_mem_cons.mpr ⟨ok_getf (pc := 93) (k := 3) (C := RX4) (T := TX4) (N := 12) rfl (by decide) hin_X4 (by decide) hsz_X4 bw_42 dX4_place_93, ?_⟩
  refine List.forall_mem_cons.mpr ⟨ok_iload_n (pc := 96) dX4_place_96 rfl, ?_⟩
  refine List.forall_mem_cons.mpr ⟨ok_callV (pc := 97) sp_X3_peopleAt (ci := 3) (C := RX3) rfl (by decide) ⟨bw_53, bm_X3_peopleAt⟩ (by decide) ⟨rfl, rfl, Nat.le_of_ble_eq_true rfl, Nat.le_of_ble_eq_true rfl⟩ dX4_place_97, ?_⟩
  refine List.forall_mem_cons.mpr ⟨ok_iret (pc := 100) dX4_place_100, ?_⟩
  refine List.forall_mem_cons.mpr ⟨ok_aload_n (pc := 101) dX4_place_101 rfl, ?_⟩
  refine List.forall_mem_cons.mpr ⟨ok_getf (pc := 102) (k := 2) (C := RX4) (T := TX4) (N := 12) rfl (by decide) hin_X4 (by decide) hsz_X4 bw_40 dX4_place_102, ?_⟩
  refine List.forall_mem_cons.mpr ⟨ok_iload_n (pc := 105) dX4_place_105 rfl, ?_⟩
  refine List.forall_mem_cons.mpr ⟨ok_callV (pc := 106) sp_X2_rent (ci := 2) (C := RX2) rfl (by decide) ⟨bw_54, bm_X2_rent⟩ (by decide) ⟨rfl, rfl, Nat.le_of_ble_eq_true rfl, Nat.le_of_ble_eq_true rfl⟩ dX4_place_106, ?_⟩
  refine List.forall_mem_cons.mpr ⟨ok_iret (pc := 109) dX4_place_109, ?_⟩
  refine List.forall_mem_cons.mpr ⟨ok_aload_n (pc := 110) dX4_place_110 rfl, ?_⟩
  refine List.forall_mem_cons.mpr ⟨ok_getf (pc := 111) (k := 2) (C := RX4) (T := TX4) (N := 12) rfl (by decide) hin_X4 (by decide) hsz_X4 bw_40 dX4_place_111, ?_⟩
  refine List.forall_mem_cons.mpr ⟨ok_iload_n (pc := 114) dX4_place_114 rfl, ?_⟩
  refine List.forall_mem_cons.mpr ⟨ok_callV (pc := 115) sp_X2_sources (ci := 2) (C := RX2) rfl (by decide) ⟨bw_55, bm_X2_sources⟩ (by decide) ⟨rfl, rfl, Nat.le_of_ble_eq_true rfl, Nat.le_of_ble_eq_true rfl⟩ dX4_place_115, ?_⟩
  refine List.forall_mem_cons.mpr ⟨ok_iret (pc := 118) dX4_place_118, ?_⟩
  refine List.forall_mem_cons.mpr ⟨ok_bipush (pc := 119) dX4_place_119 (by decide), ?_⟩
  refine List.forall_mem_cons.mpr ⟨ok_iret (pc := 121) dX4_place_121, ?_⟩
  exact fun _ h => absurd h List.not_mem_nil
abbrev k_X4_cloth : List (Nat × mm_T) := [(0, o_ald 0 1), (1, o_ild 1 2), (2, o_callV 4 m_X4_isPlace 2 1 5), (5, o_if_ne 11 8), (8, o_ic (-101) 10), (10, o_iret), (11, o_ald 0 12), (12, o_getf 4 3 15), (15, o_getf 3 4 18), (18, o_ild 1 19), (19, o_callS m_X4_hasBit 2 2 22), (22, o_if_eq 29 25), (25, o_ic 1 26), (26, o_goto 30), (29, o_ic 0 30), (30, o_ist 3 31), (31, o_ald 0 32), (32, o_getf 4 3 35), (35, o_ild 2 36), (36, o_if_eq 53 39), (39, o_ald 0 40), (40, o_getf 4 3 43), (43, o_getf 3 4 46), (46, o_ic 1 47), (47, o_ild 1 48), (48, o_ishl 49), (49, o_ior 50), (50, o_goto 66), (53, o_ald 0 54), (54, o_getf 4 3 57), (57, o_getf 3 4 60), (60, o_ic 1 61), (61, o_ild 1 62), (62, o_ishl 63), (63, o_ic (-1) 64), (64, o_ixor 65), (65, o_iand 66), (66, o_putf 3 4 69), (69, o_ild 3 70), (70, o_iret)]
def m_X4_cloth : Nat → mm_T := mm_look k_X4_cloth
set_option maxRecDepth 20000 in
theorem sp_X4_cloth : mm_Sp yX4_cloth cX4_cloth 4 (some .int) { frames := 2, cells := 0, slots := 0, locals := 41 } m_X4_cloth := by
  refine mm_sound (own := RX4) (code := k_X4_cloth) (by decide) rfl ?_
  refine List.forall_mem_cons.mpr ⟨ok_aload_n (pc := 0) dX4_cloth_0 rfl, ?_⟩
  refine List.forall_mem_cons.mpr ⟨ok_iload_n (pc := 1) dX4_cloth_1 rfl, ?_⟩
  refine List.forall_mem_cons.mpr ⟨ok_callV (pc := 2) sp_X4_isPlace (ci := 4) (C := RX4) rfl (by decide) ⟨bw_48, bm_X4_isPlace⟩ (by decide) ⟨rfl, rfl, Nat.le_of_ble_eq_true rfl, Nat.le_of_ble_eq_true rfl⟩ dX4_cloth_2, ?_⟩
  refine List.forall_mem_cons.mpr ⟨ok_if_ne (pc := 5) (tgt := 11) dX4_cloth_5 (by decide), ?_⟩
  refine List.forall_mem_cons.mpr ⟨ok_bipush (pc := 8) dX4_cloth_8 (by decide), ?_⟩
  refine List.forall_mem_cons.mpr ⟨ok_iret (pc := 10) dX4_cloth_10, ?_⟩
  refine List.forall_mem_cons.mpr ⟨ok_aload_n (pc := 11) dX4_cloth_11 rfl, ?_⟩
  refine List.forall_mem_cons.mpr ⟨ok_getf (pc := 12) (k := 3) (C := RX4) (T := TX4) (N := 12) rfl (by decide) hin_X4 (by decide) hsz_X4 bw_42 dX4_cloth_12, ?_⟩
  refine List.forall_mem_cons.mpr ⟨ok_getf (pc := 15) (k := 4) (C := RX3) (T := TX3) (N := 9) rfl (by decide) hin_X3 (by decide) hsz_X3 bw_51 dX4_cloth_15, ?_⟩
  refine List.forall_mem_cons.mpr ⟨ok_iload_n (pc := 18) dX4_cloth_18 rfl, ?_⟩
  refine List.forall_mem_cons.mpr ⟨ok_callS (pc := 19) sp_X4_hasBit ⟨bw_52, bs_X4_hasBit⟩ (by decide) ⟨rfl, rfl, Nat.le_of_ble_eq_true rfl, Nat.le_of_ble_eq_true rfl⟩ dX4_cloth_19, ?_⟩
  refine List.forall_mem_cons.mpr ⟨ok_if_eq (pc := 22) (tgt := 29) dX4_cloth_22 (by decide), ?_⟩
  refine List.forall_mem_cons.mpr ⟨ok_iconst (pc := 25) dX4_cloth_25 (by decide), ?_⟩
  refine List.forall_mem_cons.mpr ⟨ok_goto (pc := 26) (tgt := 30) dX4_cloth_26 (by decide), ?_⟩
  refine List.forall_mem_cons.mpr ⟨ok_iconst (pc := 29) dX4_cloth_29 (by decide), ?_⟩
  refine List.forall_mem_cons.mpr ⟨ok_istore_n (pc := 30) dX4_cloth_30 rfl, ?_⟩
  refine List.forall_mem_cons.mpr ⟨ok_aload_n (pc := 31) dX4_cloth_31 rfl, ?_⟩
  refine List.forall_mem_cons.mpr ⟨ok_getf (pc := 32) (k := 3) (C := RX4) (T := TX4) (N := 12) rfl (by decide) hin_X4 (by decide) hsz_X4 bw_42 dX4_cloth_32, ?_⟩
  refine List.forall_mem_cons.mpr ⟨ok_iload_n (pc := 35) dX4_cloth_35 rfl, ?_⟩
  refine List.forall_mem_cons.mpr ⟨ok_if_eq (pc := 36) (tgt := 53) dX4_cloth_36 (by decide), ?_⟩
  refine List.forall_mem_cons.mpr ⟨ok_aload_n (pc := 39) dX4_cloth_39 rfl, ?_⟩
  refine List.forall_mem_cons.mpr ⟨ok_getf (pc := 40) (k := 3) (C := RX4) (T := TX4) (N := 12) rfl (by decide) hin_X4 (by decide) hsz_X4 bw_42 dX4_cloth_40, ?_⟩
  refine List.forall_mem_cons.mpr ⟨ok_getf (pc := 43) (k := 4) (C := RX3) (T := TX3) (N := 9) rfl (by decide) hin_X3 (by decide) hsz_X3 bw_51 dX4_cloth_43, ?_⟩
  refine List.forall_mem_cons.mpr ⟨ok_iconst (pc := 46) dX4_cloth_46 (by decide), ?_⟩
  refine List.forall_mem_cons.mpr ⟨ok_iload_n (pc := 47) dX4_cloth_47 rfl, ?_⟩
  refine List.forall_mem_cons.mpr ⟨ok_ishl (pc := 48) dX4_cloth_48, ?_⟩
  refine List.forall_mem_cons.mpr ⟨ok_ior (pc := 49) dX4_cloth_49, ?_⟩
  refine List.forall_mem_cons.mpr ⟨ok_goto (pc := 50) (tgt := 66) dX4_cloth_50 (by decide), ?_⟩
  refine List.forall_mem_cons.mpr ⟨ok_aload_n (pc := 53) dX4_cloth_53 rfl, ?_⟩
  refine List.forall_mem_cons.mpr ⟨ok_getf (pc := 54) (k := 3) (C := RX4) (T := TX4) (N := 12) rfl (by decide) hin_X4 (by decide) hsz_X4 bw_42 dX4_cloth_54, ?_⟩
  refine List.forall_mem_cons.mpr ⟨ok_getf (pc := 57) (k := 4) (C := RX3) (T := TX3) (N := 9) rfl (by decide) hin_X3 (by decide) hsz_X3 bw_51 dX4_cloth_57, ?_⟩
  refine List.forall_mem_cons.mpr ⟨ok_iconst (pc := 60) dX4_cloth_60 (by decide), ?_⟩
  refine List.forall_mem_cons.mpr ⟨ok_iload_n (pc := 61) dX4_cloth_61 rfl, ?_⟩
  refine List.forall_mem_cons.mpr ⟨ok_ishl (pc := 62) dX4_cloth_62, ?_⟩
  refine List.forall_mem_cons.mpr ⟨ok_iconst (pc := 63) dX4_cloth_63 (by decide), ?_⟩
  refine List.forall_mem_cons.mpr ⟨ok_ixor (pc := 64) dX4_cloth_64, ?_⟩
  refine List.forall_mem_cons.mpr ⟨ok_iand (pc := 65) dX4_cloth_65, ?_⟩
  refine List.forall_mem_cons.mpr ⟨ok_putf (pc := 66) (k := 4) (C := RX3) (T := TX3) (N := 9) tyX3 tyX3_ok nmX3 rfl (by decide) hin_X3 (by decide) hsz_X3 hkt_X3_4 rfl bw_51 dX4_cloth_66, ?_⟩
  refine List.forall_mem_cons.mpr ⟨ok_iload_n (pc := 69) dX4_cloth_69 rfl, ?_⟩
  refine List.forall_mem_cons.mpr ⟨ok_iret (pc := 70) dX4_cloth_70, ?_⟩
  exact fun _ h => absurd h List.not_mem_nil
abbrev k_X4_isKind : List (Nat × mm_T) := [(0, o_ild 0 1), (1, o_if_lt 13 4), (4, o_ild 0 5), (5, o_ic 4 6), (6, o_ic_gt 13 9), (9, o_ic 1 10), (10, o_goto 14), (13, o_ic 0 14), (14, o_zret)]
def m_X4_isKind : Nat → mm_T := mm_look k_X4_isKind
set_option maxRecDepth 20000 in
theorem sp_X4_isKind : mm_Sp yX4_isKind cX4_isKind 1 (some .boolean) { frames := 0, cells := 0, slots := 0, locals := 0 } m_X4_isKind := by
  refine mm_sound (own := RX4) (code := k_X4_isKind) (by decide) rfl ?_
  refine List.forall_mem_cons.mpr ⟨ok_iload_n (pc := 0) dX4_isKind_0 rfl, ?_⟩
  refine List.forall_mem_cons.mpr ⟨ok_if_lt (pc := 1) (tgt := 13) dX4_isKind_1 (by decide), ?_⟩
  refine List.forall_mem_cons.mpr ⟨ok_iload_n (pc := 4) dX4_isKind_4 rfl, ?_⟩
  refine List.forall_mem_cons.mpr ⟨ok_iconst (pc := 5) dX4_isKind_5 (by decide), ?_⟩
  refine List.forall_mem_cons.mpr ⟨ok_icmp_gt (pc := 6) (tgt := 13) dX4_isKind_6 (by decide), ?_⟩
  refine List.forall_mem_cons.mpr ⟨ok_iconst (pc := 9) dX4_isKind_9 (by decide), ?_⟩
  refine List.forall_mem_cons.mpr ⟨ok_goto (pc := 10) (tgt := 14) dX4_isKind_10 (by decide), ?_⟩
  refine List.forall_mem_cons.mpr ⟨ok_iconst (pc := 13) dX4_isKind_13 (by decide), ?_⟩
  refine List.forall_mem_cons.mpr ⟨ok_zret (pc := 14) dX4_isKind_14, ?_⟩
  exact fun _ h => absurd h List.not_mem_nil
abbrev k_X4_person : List (Nat × mm_T) := [(0, o_ild 1 1), (1, o_callS m_X4_isKind 1 1 4), (4, o_if_ne 10 7), (7, o_ic (-102) 9), (9, o_iret), (10, o_ald 0 11), (11, o_ild 2 12), (12, o_callV 4 m_X4_isPlace 2 1 15), (15, o_if_ne 21 18), (18, o_ic (-101) 20), (20, o_iret), (21, o_ald 0 22), (22, o_getf 4 3 25), (25, o_getf 3 0 28), (28, o_ic 6 30), (30, o_ic_lt 36 33), (33, o_ic (-104) 35), (35, o_iret), (36, o_ald 0 37), (37, o_getf 4 3 40), (40, o_ild 1 41), (41, o_ild 2 42), (42, o_callV 3 m_X3_enter 4 2 45), (45, o_iret)]
def m_X4_person : Nat → mm_T := mm_look k_X4_person
set_option maxRecDepth 20000 in
theorem sp_X4_person : mm_Sp yX4_person cX4_person 3 (some .int) { frames := 2, cells := 0, slots := 0, locals := 41 } m_X4_person := by
  refine mm_sound (own := RX4) (code := k_X4_person) (by decide) rfl ?_
  refine List.forall_mem_cons.mpr ⟨ok_iload_n (pc := 0) dX4_person_0 rfl, ?_⟩
  refine List.forall_mem_cons.mpr ⟨ok_callS (pc := 1) sp_X4_isKind ⟨bw_56, bs_X4_isKind⟩ (by decide) ⟨rfl, rfl, Nat.le_of_ble_eq_true rfl, Nat.le_of_ble_eq_true rfl⟩ dX4_person_1, ?_⟩
  refine List.forall_mem_cons.mpr ⟨ok_if_ne (pc := 4) (tgt := 10) dX4_person_4 (by decide), ?_⟩
  refine List.forall_mem_cons.mpr ⟨ok_bipush (pc := 7) dX4_person_7 (by decide), ?_⟩
  refine List.forall_mem_cons.mpr ⟨ok_iret (pc := 9) dX4_person_9, ?_⟩
  refine List.forall_mem_cons.mpr ⟨ok_aload_n (pc := 10) dX4_person_10 rfl, ?_⟩
  refine List.forall_mem_cons.mpr ⟨ok_iload_n (pc := 11) dX4_person_11 rfl, ?_⟩
  refine List.forall_mem_cons.mpr ⟨ok_callV (pc := 12) sp_X4_isPlace (ci := 4) (C := RX4) rfl (by decide) ⟨bw_48, bm_X4_isPlace⟩ (by decide) ⟨rfl, rfl, Nat.le_of_ble_eq_true rfl, Nat.le_of_ble_eq_true rfl⟩ dX4_person_12, ?_⟩
  refine List.forall_mem_cons.mpr ⟨ok_if_ne (pc := 15) (tgt := 21) dX4_person_15 (by decide), ?_⟩
  refine List.forall_mem_cons.mpr ⟨ok_bipush (pc := 18) dX4_person_18 (by decide), ?_⟩
  refine List.forall_mem_cons.mpr ⟨ok_iret (pc := 20) dX4_person_20, ?_⟩
  refine List.forall_mem_cons.mpr ⟨ok_aload_n (pc := 21) dX4_person_21 rfl, ?_⟩
  refine List.forall_mem_cons.mpr ⟨ok_getf (pc := 22) (k := 3) (C := RX4) (T := TX4) (N := 12) rfl (by decide) hin_X4 (by decide) hsz_X4 bw_42 dX4_person_22, ?_⟩
  refine List.forall_mem_cons.mpr ⟨ok_getf (pc := 25) (k := 0) (C := RX3) (T := TX3) (N := 9) rfl (by decide) hin_X3 (by decide) hsz_X3 bw_57 dX4_person_25, ?_⟩
  refine List.forall_mem_cons.mpr ⟨ok_bipush (pc := 28) dX4_person_28 (by decide), ?_⟩
  refine List.forall_mem_cons.mpr ⟨ok_icmp_lt (pc := 30) (tgt := 36) dX4_person_30 (by decide), ?_⟩
  refine List.forall_mem_cons.mpr ⟨ok_bipush (pc := 33) dX4_person_33 (by decide), ?_⟩
  refine List.forall_mem_cons.mpr ⟨ok_iret (pc := 35) dX4_person_35, ?_⟩
  refine List.forall_mem_cons.mpr ⟨ok_aload_n (pc := 36) dX4_person_36 rfl, ?_⟩
  refine List.forall_mem_cons.mpr ⟨ok_getf (pc := 37) (k := 3) (C := RX4) (T := TX4) (N := 12) rfl (by decide) hin_X4 (by decide) hsz_X4 bw_42 dX4_person_37, ?_⟩
  refine List.forall_mem_cons.mpr ⟨ok_iload_n (pc := 40) dX4_person_40 rfl, ?_⟩
  refine List.forall_mem_cons.mpr ⟨ok_iload_n (pc := 41) dX4_person_41 rfl, ?_⟩
  refine List.forall_mem_cons.mpr ⟨ok_callV (pc := 42) sp_X3_enter (ci := 3) (C := RX3) rfl (by decide) ⟨bw_58, bm_X3_enter⟩ (by decide) ⟨rfl, rfl, Nat.le_of_ble_eq_true rfl, Nat.le_of_ble_eq_true rfl⟩ dX4_person_42, ?_⟩
  refine List.forall_mem_cons.mpr ⟨ok_iret (pc := 45) dX4_person_45, ?_⟩
  exact fun _ h => absurd h List.not_mem_nil
abbrev k_X4_isPerson : List (Nat × mm_T) := [(0, o_ild 1 1), (1, o_if_lt 19 4), (4, o_ild 1 5), (5, o_ald 0 6), (6, o_getf 4 3 9), (9, o_getf 3 0 12), (12, o_ic_ge 19 15), (15, o_ic 1 16), (16, o_goto 20), (19, o_ic 0 20), (20, o_zret)]
def m_X4_isPerson : Nat → mm_T := mm_look k_X4_isPerson
set_option maxRecDepth 20000 in
theorem sp_X4_isPerson : mm_Sp yX4_isPerson cX4_isPerson 2 (some .boolean) { frames := 0, cells := 0, slots := 0, locals := 0 } m_X4_isPerson := by
  refine mm_sound (own := RX4) (code := k_X4_isPerson) (by decide) rfl ?_
  refine List.forall_mem_cons.mpr ⟨ok_iload_n (pc := 0) dX4_isPerson_0 rfl, ?_⟩
  refine List.forall_mem_cons.mpr ⟨ok_if_lt (pc := 1) (tgt := 19) dX4_isPerson_1 (by decide), ?_⟩
  refine List.forall_mem_cons.mpr ⟨ok_iload_n (pc := 4) dX4_isPerson_4 rfl, ?_⟩
  refine List.forall_mem_cons.mpr ⟨ok_aload_n (pc := 5) dX4_isPerson_5 rfl, ?_⟩
  refine List.forall_mem_cons.mpr ⟨ok_getf (pc := 6) (k := 3) (C := RX4) (T := TX4) (N := 12) rfl (by decide) hin_X4 (by decide) hsz_X4 bw_42 dX4_isPerson_6, ?_⟩
  refine List.forall_mem_cons.mpr ⟨ok_getf (pc := 9) (k := 0) (C := RX3) (T := TX3) (N := 9) rfl (by decide) hin_X3 (by decide) hsz_X3 bw_57 dX4_isPerson_9, ?_⟩
  refine List.forall_mem_cons.mpr ⟨ok_icmp_ge (pc := 12) (tgt := 19) dX4_isPerson_12 (by decide), ?_⟩
  refine List.forall_mem_cons.mpr ⟨ok_iconst (pc := 15) dX4_isPerson_15 (by decide), ?_⟩
  refine List.forall_mem_cons.mpr ⟨ok_goto (pc := 16) (tgt := 20) dX4_isPerson_16 (by decide), ?_⟩
  refine List.forall_mem_cons.mpr ⟨ok_iconst (pc := 19) dX4_isPerson_19 (by decide), ?_⟩
  refine List.forall_mem_cons.mpr ⟨ok_zret (pc := 20) dX4_isPerson_20, ?_⟩
  exact fun _ h => absurd h List.not_mem_nil
abbrev k_X4_about : List (Nat × mm_T) := [(0, o_ald 0 1), (1, o_ild 1 2), (2, o_callV 4 m_X4_isPerson 2 1 5), (5, o_if_ne 11 8), (8, o_ic (-101) 10), (10, o_iret), (11, o_ild 2 12), (12, o_tsw [44, 54, 64, 74] 91), (44, o_ald 0 45), (45, o_getf 4 3 48), (48, o_getf 3 1 51), (51, o_ild 1 52), (52, o_iald 53), (53, o_iret), (54, o_ald 0 55), (55, o_getf 4 3 58), (58, o_getf 3 2 61), (61, o_ild 1 62), (62, o_iald 63), (63, o_iret), (64, o_ald 0 65), (65, o_getf 4 3 68), (68, o_getf 3 3 71), (71, o_ild 1 72), (72, o_iald 73), (73, o_iret), (74, o_ald 0 75), (75, o_getf 4 6 78), (78, o_ald 0 79), (79, o_getf 4 2 82), (82, o_ald 0 83), (83, o_getf 4 3 86), (86, o_ild 1 87), (87, o_callV 1 m_X1_spread 6 3 90), (90, o_iret), (91, o_ic (-102) 93), (93, o_iret)]
def m_X4_about : Nat → mm_T := mm_look k_X4_about
set_option maxRecDepth 20000 in
theorem sp_X4_about : mm_Sp yX4_about cX4_about 3 (some .int) { frames := 4, cells := 0, slots := 0, locals := 96 } m_X4_about := by
  refine mm_sound (own := RX4) (code := k_X4_about) (by decide) rfl ?_
  refine List.forall_mem_cons.mpr ⟨ok_aload_n (pc := 0) dX4_about_0 rfl, ?_⟩
  refine List.forall_mem_cons.mpr ⟨ok_iload_n (pc := 1) dX4_about_1 rfl, ?_⟩
  refine List.forall_mem_cons.mpr ⟨ok_callV (pc := 2) sp_X4_isPerson (ci := 4) (C := RX4) rfl (by decide) ⟨bw_59, bm_X4_isPerson⟩ (by decide) ⟨rfl, rfl, Nat.le_of_ble_eq_true rfl, Nat.le_of_ble_eq_true rfl⟩ dX4_about_2, ?_⟩
  refine List.forall_mem_cons.mpr ⟨ok_if_ne (pc := 5) (tgt := 11) dX4_about_5 (by decide), ?_⟩
  refine List.forall_mem_cons.mpr ⟨ok_bipush (pc := 8) dX4_about_8 (by decide), ?_⟩
  refine List.forall_mem_cons.mpr ⟨ok_iret (pc := 10) dX4_about_10, ?_⟩
  refine List.forall_mem_cons.mpr ⟨ok_iload_n (pc := 11) dX4_about_11 rfl, ?_⟩
  refine List.forall_mem_cons.mpr ⟨ok_tsw (pc := 12) (ts := [44, 54, 64, 74]) (dflt := 91) dX4_about_12 (by decide) (by decide) (by decide) (by decide), ?_⟩
  refine List.forall_mem_cons.mpr ⟨ok_aload_n (pc := 44) dX4_about_44 rfl, ?_⟩
  refine List.forall_mem_cons.mpr ⟨ok_getf (pc := 45) (k := 3) (C := RX4) (T := TX4) (N := 12) rfl (by decide) hin_X4 (by decide) hsz_X4 bw_42 dX4_about_45, ?_⟩
  refine List.forall_mem_cons.mpr ⟨ok_getf (pc := 48) (k := 1) (C := RX3) (T := TX3) (N := 9) rfl (by decide) hin_X3 (by decide) hsz_X3 bw_60 dX4_about_48, ?_⟩
  refine List.forall_mem_cons.mpr ⟨ok_iload_n (pc := 51) dX4_about_51 rfl, ?_⟩
  refine List.forall_mem_cons.mpr ⟨ok_iald (pc := 52) dX4_about_52, ?_⟩
  refine List.forall_mem_cons.mpr ⟨ok_iret (pc := 53) dX4_about_53, ?_⟩
  refine List.forall_mem_cons.mpr ⟨ok_aload_n (pc := 54) dX4_about_54 rfl, ?_⟩
  refine List.forall_mem_cons.mpr ⟨ok_getf (pc := 55) (k := 3) (C := RX4) (T := TX4) (N := 12) rfl (by decide) hin_X4 (by decide) hsz_X4 bw_42 dX4_about_55, ?_⟩
  refine List.forall_mem_cons.mpr ⟨ok_getf (pc := 58) (k := 2) (C := RX3) (T := TX3) (N := 9) rfl (by decide) hin_X3 (by decide) hsz_X3 bw_61 dX4_about_58, ?_⟩
  refine List.forall_mem_cons.mpr ⟨ok_iload_n (pc := 61) dX4_about_61 rfl, ?_⟩
  refine List.forall_mem_cons.mpr ⟨ok_iald (pc := 62) dX4_about_62, ?_⟩
  refine List.forall_mem_cons.mpr ⟨ok_iret (pc := 63) dX4_about_63, ?_⟩
  refine List.forall_mem_cons.mpr ⟨ok_aload_n (pc := 64) dX4_about_64 rfl, ?_⟩
  refine List.forall_mem_cons.mpr ⟨ok_getf (pc := 65) (k := 3) (C := RX4) (T := TX4) (N := 12) rfl (by decide) hin_X4 (by decide) hsz_X4 bw_42 dX4_about_65, ?_⟩
  refine List.forall_mem_cons.mpr ⟨ok_getf (pc := 68) (k := 3) (C := RX3) (T := TX3) (N := 9) rfl (by decide) hin_X3 (by decide) hsz_X3 bw_62 dX4_about_68, ?_⟩
  refine List.forall_mem_cons.mpr ⟨ok_iload_n (pc := 71) dX4_about_71 rfl, ?_⟩
  refine List.forall_mem_cons.mpr ⟨ok_iald (pc := 72) dX4_about_72, ?_⟩
  refine List.forall_mem_cons.mpr ⟨ok_iret (pc := 73) dX4_about_73, ?_⟩
  refine List.forall_mem_cons.mpr ⟨ok_aload_n (pc := 74) dX4_about_74 rfl, ?_⟩
  refine List.forall_mem_cons.mpr ⟨ok_getf (pc := 75) (k := 6) (C := RX4) (T := TX4) (N := 12) rfl (by decide) hin_X4 (by decide) hsz_X4 bw_63 dX4_about_75, ?_⟩
  refine List.forall_mem_cons.mpr ⟨ok_aload_n (pc := 78) dX4_about_78 rfl, ?_⟩
  refine List.forall_mem_cons.mpr ⟨ok_getf (pc := 79) (k := 2) (C := RX4) (T := TX4) (N := 12) rfl (by decide) hin_X4 (by decide) hsz_X4 bw_40 dX4_about_79, ?_⟩
  refine List.forall_mem_cons.mpr ⟨ok_aload_n (pc := 82) dX4_about_82 rfl, ?_⟩
  refine List.forall_mem_cons.mpr ⟨ok_getf (pc := 83) (k := 3) (C := RX4) (T := TX4) (N := 12) rfl (by decide) hin_X4 (by decide) hsz_X4 bw_42 dX4_about_83, ?_⟩
  refine List.forall_mem_cons.mpr ⟨ok_iload_n (pc := 86) dX4_about_86 rfl, ?_⟩
  refine List.forall_mem_cons.mpr ⟨ok_callV (pc := 87) sp_X1_spread (ci := 1) (C := RX1) rfl (by decide) ⟨bw_64, bm_X1_spread⟩ (by decide) ⟨rfl, rfl, Nat.le_of_ble_eq_true rfl, Nat.le_of_ble_eq_true rfl⟩ dX4_about_87, ?_⟩
  refine List.forall_mem_cons.mpr ⟨ok_iret (pc := 90) dX4_about_90, ?_⟩
  refine List.forall_mem_cons.mpr ⟨ok_bipush (pc := 91) dX4_about_91 (by decide), ?_⟩
  refine List.forall_mem_cons.mpr ⟨ok_iret (pc := 93) dX4_about_93, ?_⟩
  exact fun _ h => absurd h List.not_mem_nil
abbrev k_X4_as : List (Nat × mm_T) := [(0, o_ald 0 1), (1, o_ild 1 2), (2, o_callV 4 m_X4_isPerson 2 1 5), (5, o_if_ne 11 8), (8, o_ic (-101) 10), (10, o_iret), (11, o_ild 2 12), (12, o_callS m_X4_isKind 1 1 15), (15, o_if_ne 21 18), (18, o_ic (-102) 20), (20, o_iret), (21, o_ald 0 22), (22, o_getf 4 3 25), (25, o_getf 3 1 28), (28, o_ild 1 29), (29, o_iald 30), (30, o_ild 2 31), (31, o_callS m_X4_isOfKind 2 2 34), (34, o_if_eq 41 37), (37, o_ild 1 38), (38, o_goto 42), (41, o_ic (-1) 42), (42, o_iret)]
def m_X4_as : Nat → mm_T := mm_look k_X4_as
set_option maxRecDepth 20000 in
theorem sp_X4_as : mm_Sp yX4_as cX4_as 3 (some .int) { frames := 1, cells := 0, slots := 0, locals := 21 } m_X4_as := by
  refine mm_sound (own := RX4) (code := k_X4_as) (by decide) rfl ?_
  refine List.forall_mem_cons.mpr ⟨ok_aload_n (pc := 0) dX4_as_0 rfl, ?_⟩
  refine List.forall_mem_cons.mpr ⟨ok_iload_n (pc := 1) dX4_as_1 rfl, ?_⟩
  refine List.forall_mem_cons.mpr ⟨ok_callV (pc := 2) sp_X4_isPerson (ci := 4) (C := RX4) rfl (by decide) ⟨bw_59, bm_X4_isPerson⟩ (by decide) ⟨rfl, rfl, Nat.le_of_ble_eq_true rfl, Nat.le_of_ble_eq_true rfl⟩ dX4_as_2, ?_⟩
  refine List.forall_mem_cons.mpr ⟨ok_if_ne (pc := 5) (tgt := 11) dX4_as_5 (by decide), ?_⟩
  refine List.forall_mem_cons.mpr ⟨ok_bipush (pc := 8) dX4_as_8 (by decide), ?_⟩
  refine List.forall_mem_cons.mpr ⟨ok_iret (pc := 10) dX4_as_10, ?_⟩
  refine List.forall_mem_cons.mpr ⟨ok_iload_n (pc := 11) dX4_as_11 rfl, ?_⟩
  refine List.forall_mem_cons.mpr ⟨ok_callS (pc := 12) sp_X4_isKind ⟨bw_56, bs_X4_isKind⟩ (by decide) ⟨rfl, rfl, Nat.le_of_ble_eq_true rfl, Nat.le_of_ble_eq_true rfl⟩ dX4_as_12, ?_⟩
  refine List.forall_mem_cons.mpr ⟨ok_if_ne (pc := 15) (tgt := 21) dX4_as_15 (by decide), ?_⟩
  refine List.forall_mem_cons.mpr ⟨ok_bipush (pc := 18) dX4_as_18 (by decide), ?_⟩
  refine List.forall_mem_cons.mpr ⟨ok_iret (pc := 20) dX4_as_20, ?_⟩
  refine List.forall_mem_cons.mpr ⟨ok_aload_n (pc := 21) dX4_as_21 rfl, ?_⟩
  refine List.forall_mem_cons.mpr ⟨ok_getf (pc := 22) (k := 3) (C := RX4) (T := TX4) (N := 12) rfl (by decide) hin_X4 (by decide) hsz_X4 bw_42 dX4_as_22, ?_⟩
  refine List.forall_mem_cons.mpr ⟨ok_getf (pc := 25) (k := 1) (C := RX3) (T := TX3) (N := 9) rfl (by decide) hin_X3 (by decide) hsz_X3 bw_60 dX4_as_25, ?_⟩
  refine List.forall_mem_cons.mpr ⟨ok_iload_n (pc := 28) dX4_as_28 rfl, ?_⟩
  refine List.forall_mem_cons.mpr ⟨ok_iald (pc := 29) dX4_as_29, ?_⟩
  refine List.forall_mem_cons.mpr ⟨ok_iload_n (pc := 30) dX4_as_30 rfl, ?_⟩
  refine List.forall_mem_cons.mpr ⟨ok_callS (pc := 31) sp_X4_isOfKind ⟨bw_65, bs_X4_isOfKind⟩ (by decide) ⟨rfl, rfl, Nat.le_of_ble_eq_true rfl, Nat.le_of_ble_eq_true rfl⟩ dX4_as_31, ?_⟩
  refine List.forall_mem_cons.mpr ⟨ok_if_eq (pc := 34) (tgt := 41) dX4_as_34 (by decide), ?_⟩
  refine List.forall_mem_cons.mpr ⟨ok_iload_n (pc := 37) dX4_as_37 rfl, ?_⟩
  refine List.forall_mem_cons.mpr ⟨ok_goto (pc := 38) (tgt := 42) dX4_as_38 (by decide), ?_⟩
  refine List.forall_mem_cons.mpr ⟨ok_iconst (pc := 41) dX4_as_41 (by decide), ?_⟩
  refine List.forall_mem_cons.mpr ⟨ok_iret (pc := 42) dX4_as_42, ?_⟩
  exact fun _ h => absurd h List.not_mem_nil
abbrev k_X4_move : List (Nat × mm_T) := [(0, o_ald 0 1), (1, o_ild 1 2), (2, o_callV 4 m_X4_isPerson 2 1 5), (5, o_if_eq 16 8), (8, o_ald 0 9), (9, o_ild 2 10), (10, o_callV 4 m_X4_isPlace 2 1 13), (13, o_if_ne 19 16), (16, o_ic (-101) 18), (18, o_iret), (19, o_ald 0 20), (20, o_getf 4 3 23), (23, o_getf 3 2 26), (26, o_ild 1 27), (27, o_iald 28), (28, o_ist 3 29), (29, o_ald 0 30), (30, o_getf 4 3 33), (33, o_getf 3 2 36), (36, o_ild 1 37), (37, o_ild 2 38), (38, o_iast 39), (39, o_ild 3 40), (40, o_iret)]
def m_X4_move : Nat → mm_T := mm_look k_X4_move
set_option maxRecDepth 20000 in
theorem sp_X4_move : mm_Sp yX4_move cX4_move 4 (some .int) { frames := 2, cells := 0, slots := 0, locals := 41 } m_X4_move := by
  refine mm_sound (own := RX4) (code := k_X4_move) (by decide) rfl ?_
  refine List.forall_mem_cons.mpr ⟨ok_aload_n (pc := 0) dX4_move_0 rfl, ?_⟩
  refine List.forall_mem_cons.mpr ⟨ok_iload_n (pc := 1) dX4_move_1 rfl, ?_⟩
  refine List.forall_mem_cons.mpr ⟨ok_callV (pc := 2) sp_X4_isPerson (ci := 4) (C := RX4) rfl (by decide) ⟨bw_59, bm_X4_isPerson⟩ (by decide) ⟨rfl, rfl, Nat.le_of_ble_eq_true rfl, Nat.le_of_ble_eq_true rfl⟩ dX4_move_2, ?_⟩
  refine List.forall_mem_cons.mpr ⟨ok_if_eq (pc := 5) (tgt := 16) dX4_move_5 (by decide), ?_⟩
  refine List.forall_mem_cons.mpr ⟨ok_aload_n (pc := 8) dX4_move_8 rfl, ?_⟩
  refine List.forall_mem_cons.mpr ⟨ok_iload_n (pc := 9) dX4_move_9 rfl, ?_⟩
  refine List.forall_mem_cons.mpr ⟨ok_callV (pc := 10) sp_X4_isPlace (ci := 4) (C := RX4) rfl (by decide) ⟨bw_48, bm_X4_isPlace⟩ (by decide) ⟨rfl, rfl, Nat.le_of_ble_eq_true rfl, Nat.le_of_ble_eq_true rfl⟩ dX4_move_10, ?_⟩
  refine List.forall_mem_cons.mpr ⟨ok_if_ne (pc := 13) (tgt := 19) dX4_move_13 (by decide), ?_⟩
  refine List.forall_mem_cons.mpr ⟨ok_bipush (pc := 16) dX4_move_16 (by decide), ?_⟩
  refine List.forall_mem_cons.mpr ⟨ok_iret (pc := 18) dX4_move_18, ?_⟩
  refine List.forall_mem_cons.mpr ⟨ok_aload_n (pc := 19) dX4_move_19 rfl, ?_⟩
  refine List.forall_mem_cons.mpr ⟨ok_getf (pc := 20) (k := 3) (C := RX4) (T := TX4) (N := 12) rfl (by decide) hin_X4 (by decide) hsz_X4 bw_42 dX4_move_20, ?_⟩
  refine List.forall_mem_cons.mpr ⟨ok_getf (pc := 23) (k := 2) (C := RX3) (T := TX3) (N := 9) rfl (by decide) hin_X3 (by decide) hsz_X3 bw_61 dX4_move_23, ?_⟩
  refine List.forall_mem_cons.mpr ⟨ok_iload_n (pc := 26) dX4_move_26 rfl, ?_⟩
  refine List.forall_mem_cons.mpr ⟨ok_iald (pc := 27) dX4_move_27, ?_⟩
  refine List.forall_mem_cons.mpr ⟨ok_istore_n (pc := 28) dX4_move_28 rfl, ?_⟩
  refine List.forall_mem_cons.mpr ⟨ok_aload_n (pc := 29) dX4_move_29 rfl, ?_⟩
  refine List.forall_mem_cons.mpr ⟨ok_getf (pc := 30) (k := 3) (C := RX4) (T := TX4) (N := 12) rfl (by decide) hin_X4 (by decide) hsz_X4 bw_42 dX4_move_30, ?_⟩
  refine List.forall_mem_cons.mpr ⟨ok_getf (pc := 33) (k := 2) (C := RX3) (T := TX3) (N := 9) rfl (by decide) hin_X3 (by decide) hsz_X3 bw_61 dX4_move_33, ?_⟩
  refine List.forall_mem_cons.mpr ⟨ok_iload_n (pc := 36) dX4_move_36 rfl, ?_⟩
  refine List.forall_mem_cons.mpr ⟨ok_iload_n (pc := 37) dX4_move_37 rfl, ?_⟩
  refine List.forall_mem_cons.mpr ⟨ok_iast (pc := 38) dX4_move_38, ?_⟩
  refine List.forall_mem_cons.mpr ⟨ok_iload_n (pc := 39) dX4_move_39 rfl, ?_⟩
  refine List.forall_mem_cons.mpr ⟨ok_iret (pc := 40) dX4_move_40, ?_⟩
  exact fun _ h => absurd h List.not_mem_nil
abbrev k_X4_tell : List (Nat × mm_T) := [(0, o_ald 1 1), (1, o_ald 0 2), (2, o_getf 4 6 5), (5, o_ald 0 6), (6, o_getf 4 2 9), (9, o_ald 1 10), (10, o_ild 2 11), (11, o_callV 1 m_X1_spread 6 3 14), (14, o_ild 3 15), (15, o_callV 3 m_X3_learn 5 2 18), (18, o_iret)]
def m_X4_tell : Nat → mm_T := mm_look k_X4_tell
set_option maxRecDepth 20000 in
theorem sp_X4_tell : mm_Sp yX4_tell cX4_tell 4 (some .int) { frames := 4, cells := 0, slots := 0, locals := 96 } m_X4_tell := by
  refine mm_sound (own := RX4) (code := k_X4_tell) (by decide) rfl ?_
  refine List.forall_mem_cons.mpr ⟨ok_aload_n (pc := 0) dX4_tell_0 rfl, ?_⟩
  refine List.forall_mem_cons.mpr ⟨ok_aload_n (pc := 1) dX4_tell_1 rfl, ?_⟩
  refine List.forall_mem_cons.mpr ⟨ok_getf (pc := 2) (k := 6) (C := RX4) (T := TX4) (N := 12) rfl (by decide) hin_X4 (by decide) hsz_X4 bw_63 dX4_tell_2, ?_⟩
  refine List.forall_mem_cons.mpr ⟨ok_aload_n (pc := 5) dX4_tell_5 rfl, ?_⟩
  refine List.forall_mem_cons.mpr ⟨ok_getf (pc := 6) (k := 2) (C := RX4) (T := TX4) (N := 12) rfl (by decide) hin_X4 (by decide) hsz_X4 bw_40 dX4_tell_6, ?_⟩
  refine List.forall_mem_cons.mpr ⟨ok_aload_n (pc := 9) dX4_tell_9 rfl, ?_⟩
  refine List.forall_mem_cons.mpr ⟨ok_iload_n (pc := 10) dX4_tell_10 rfl, ?_⟩
  refine List.forall_mem_cons.mpr ⟨ok_callV (pc := 11) sp_X1_spread (ci := 1) (C := RX1) rfl (by decide) ⟨bw_64, bm_X1_spread⟩ (by decide) ⟨rfl, rfl, Nat.le_of_ble_eq_true rfl, Nat.le_of_ble_eq_true rfl⟩ dX4_tell_11, ?_⟩
  refine List.forall_mem_cons.mpr ⟨ok_iload_n (pc := 14) dX4_tell_14 rfl, ?_⟩
  refine List.forall_mem_cons.mpr ⟨ok_callV (pc := 15) sp_X3_learn (ci := 3) (C := RX3) rfl (by decide) ⟨bw_66, bm_X3_learn⟩ (by decide) ⟨rfl, rfl, Nat.le_of_ble_eq_true rfl, Nat.le_of_ble_eq_true rfl⟩ dX4_tell_15, ?_⟩
  refine List.forall_mem_cons.mpr ⟨ok_iret (pc := 18) dX4_tell_18, ?_⟩
  exact fun _ h => absurd h List.not_mem_nil
abbrev k_X4_say : List (Nat × mm_T) := [(0, o_ald 0 1), (1, o_ild 1 2), (2, o_callV 4 m_X4_isPerson 2 1 5), (5, o_if_ne 11 8), (8, o_ic (-101) 10), (10, o_iret), (11, o_ild 2 12), (12, o_if_lt 21 15), (15, o_ild 2 16), (16, o_ic 10 18), (18, o_ic_lt 24 21), (21, o_ic (-102) 23), (23, o_iret), (24, o_ald 0 25), (25, o_getf 4 3 28), (28, o_getf 3 1 31), (31, o_ild 1 32), (32, o_iald 33), (33, o_ic 3 34), (34, o_ic_ne 40 37), (37, o_ic (-103) 39), (39, o_iret), (40, o_ald 0 41), (41, o_getf 4 3 44), (44, o_dup 45), (45, o_getf 3 5 48), (48, o_ic 1 49), (49, o_iadd 50), (50, o_putf 3 5 53), (53, o_ald 0 54), (54, o_ald 0 55), (55, o_getf 4 3 58), (58, o_ild 1 59), (59, o_ild 2 60), (60, o_callV 4 m_X4_tell 4 3 63), (63, o_iret)]
def m_X4_say : Nat → mm_T := mm_look k_X4_say
set_option maxRecDepth 20000 in
theorem sp_X4_say : mm_Sp yX4_say cX4_say 3 (some .int) { frames := 5, cells := 0, slots := 0, locals := 119 } m_X4_say := by
  refine mm_sound (own := RX4) (code := k_X4_say) (by decide) rfl ?_
  refine List.forall_mem_cons.mpr ⟨ok_aload_n (pc := 0) dX4_say_0 rfl, ?_⟩
  refine List.forall_mem_cons.mpr ⟨ok_iload_n (pc := 1) dX4_say_1 rfl, ?_⟩
  refine List.forall_mem_cons.mpr ⟨ok_callV (pc := 2) sp_X4_isPerson (ci := 4) (C := RX4) rfl (by decide) ⟨bw_59, bm_X4_isPerson⟩ (by decide) ⟨rfl, rfl, Nat.le_of_ble_eq_true rfl, Nat.le_of_ble_eq_true rfl⟩ dX4_say_2, ?_⟩
  refine List.forall_mem_cons.mpr ⟨ok_if_ne (pc := 5) (tgt := 11) dX4_say_5 (by decide), ?_⟩
  refine List.forall_mem_cons.mpr ⟨ok_bipush (pc := 8) dX4_say_8 (by decide), ?_⟩
  refine List.forall_mem_cons.mpr ⟨ok_iret (pc := 10) dX4_say_10, ?_⟩
  refine List.forall_mem_cons.mpr ⟨ok_iload_n (pc := 11) dX4_say_11 rfl, ?_⟩
  refine List.forall_mem_cons.mpr ⟨ok_if_lt (pc := 12) (tgt := 21) dX4_say_12 (by decide), ?_⟩
  refine List.forall_mem_cons.mpr ⟨ok_iload_n (pc := 15) dX4_say_15 rfl, ?_⟩
  refine List.forall_mem_cons.mpr ⟨ok_bipush (pc := 16) dX4_say_16 (by decide), ?_⟩
  refine List.forall_mem_cons.mpr ⟨ok_icmp_lt (pc := 18) (tgt := 24) dX4_say_18 (by decide), ?_⟩
  refine List.forall_mem_cons.mpr ⟨ok_bipush (pc := 21) dX4_say_21 (by decide), ?_⟩
  refine List.forall_mem_cons.mpr ⟨ok_iret (pc := 23) dX4_say_23, ?_⟩
  refine List.forall_mem_cons.mpr ⟨ok_aload_n (pc := 24) dX4_say_24 rfl, ?_⟩
  refine List.forall_mem_cons.mpr ⟨ok_getf (pc := 25) (k := 3) (C := RX4) (T := TX4) (N := 12) rfl (by decide) hin_X4 (by decide) hsz_X4 bw_42 dX4_say_25, ?_⟩
  refine List.forall_mem_cons.mpr ⟨ok_getf (pc := 28) (k := 1) (C := RX3) (T := TX3) (N := 9) rfl (by decide) hin_X3 (by decide) hsz_X3 bw_60 dX4_say_28, ?_⟩
  refine List.forall_mem_cons.mpr ⟨ok_iload_n (pc := 31) dX4_say_31 rfl, ?_⟩
  refine List.forall_mem_cons.mpr ⟨ok_iald (pc := 32) dX4_say_32, ?_⟩
  refine List.forall_mem_cons.mpr ⟨ok_iconst (pc := 33) dX4_say_33 (by decide), ?_⟩
  refine List.forall_mem_cons.mpr ⟨ok_icmp_ne (pc := 34) (tgt := 40) dX4_say_34 (by decide), ?_⟩
  refine List.forall_mem_cons.mpr ⟨ok_bipush (pc := 37) dX4_say_37 (by decide), ?_⟩
  refine List.forall_mem_cons.mpr ⟨ok_iret (pc := 39) dX4_say_39, ?_⟩
  refine List.forall_mem_cons.mpr ⟨ok_aload_n (pc := 40) dX4_say_40 rfl, ?_⟩
  refine List.forall_mem_cons.mpr ⟨ok_getf (pc := 41) (k := 3) (C := RX4) (T := TX4) (N := 12) rfl (by decide) hin_X4 (by decide) hsz_X4 bw_42 dX4_say_41, ?_⟩
  refine List.forall_mem_cons.mpr ⟨ok_dup (pc := 44) dX4_say_44, ?_⟩
  refine List.forall_mem_cons.mpr ⟨ok_getf (pc := 45) (k := 5) (C := RX3) (T := TX3) (N := 9) rfl (by decide) hin_X3 (by decide) hsz_X3 bw_67 dX4_say_45, ?_⟩
  refine List.forall_mem_cons.mpr ⟨ok_iconst (pc := 48) dX4_say_48 (by decide), ?_⟩
  refine List.forall_mem_cons.mpr ⟨ok_iadd (pc := 49) dX4_say_49, ?_⟩
  refine List.forall_mem_cons.mpr ⟨ok_putf (pc := 50) (k := 5) (C := RX3) (T := TX3) (N := 9) tyX3 tyX3_ok nmX3 rfl (by decide) hin_X3 (by decide) hsz_X3 hkt_X3_5 rfl bw_67 dX4_say_50, ?_⟩
  refine List.forall_mem_cons.mpr ⟨ok_aload_n (pc := 53) dX4_say_53 rfl, ?_⟩
  refine List.forall_mem_cons.mpr ⟨ok_aload_n (pc := 54) dX4_say_54 rfl, ?_⟩
  refine List.forall_mem_cons.mpr ⟨ok_getf (pc := 55) (k := 3) (C := RX4) (T := TX4) (N := 12) rfl (by decide) hin_X4 (by decide) hsz_X4 bw_42 dX4_say_55, ?_⟩
  refine List.forall_mem_cons.mpr ⟨ok_iload_n (pc := 58) dX4_say_58 rfl, ?_⟩
  refine List.forall_mem_cons.mpr ⟨ok_iload_n (pc := 59) dX4_say_59 rfl, ?_⟩
  refine List.forall_mem_cons.mpr ⟨ok_callV (pc := 60) sp_X4_tell (ci := 4) (C := RX4) rfl (by decide) ⟨bw_68, bm_X4_tell⟩ (by decide) ⟨rfl, rfl, Nat.le_of_ble_eq_true rfl, Nat.le_of_ble_eq_true rfl⟩ dX4_say_60, ?_⟩
  refine List.forall_mem_cons.mpr ⟨ok_iret (pc := 63) dX4_say_63, ?_⟩
  exact fun _ h => absurd h List.not_mem_nil
abbrev k_X4_hears : List (Nat × mm_T) := [(0, o_ald 0 1), (1, o_ild 1 2), (2, o_callV 4 m_X4_isPerson 2 1 5), (5, o_if_eq 16 8), (8, o_ald 0 9), (9, o_ild 2 10), (10, o_callV 4 m_X4_isPerson 2 1 13), (13, o_if_ne 19 16), (16, o_ic (-101) 18), (18, o_iret), (19, o_ald 0 20), (20, o_getf 4 6 23), (23, o_ald 0 24), (24, o_getf 4 2 27), (27, o_ald 0 28), (28, o_getf 4 3 31), (31, o_ild 1 32), (32, o_callV 1 m_X1_spread 6 3 35), (35, o_pop 36), (36, o_ald 0 37), (37, o_getf 4 6 40), (40, o_getf 1 0 43), (43, o_ild 2 44), (44, o_iald 45), (45, o_iret)]
def m_X4_hears : Nat → mm_T := mm_look k_X4_hears
set_option maxRecDepth 20000 in
theorem sp_X4_hears : mm_Sp yX4_hears cX4_hears 3 (some .int) { frames := 4, cells := 0, slots := 0, locals := 96 } m_X4_hears := by
  refine mm_sound (own := RX4) (code := k_X4_hears) (by decide) rfl ?_
  refine List.forall_mem_cons.mpr ⟨ok_aload_n (pc := 0) dX4_hears_0 rfl, ?_⟩
  refine List.forall_mem_cons.mpr ⟨ok_iload_n (pc := 1) dX4_hears_1 rfl, ?_⟩
  refine List.forall_mem_cons.mpr ⟨ok_callV (pc := 2) sp_X4_isPerson (ci := 4) (C := RX4) rfl (by decide) ⟨bw_59, bm_X4_isPerson⟩ (by decide) ⟨rfl, rfl, Nat.le_of_ble_eq_true rfl, Nat.le_of_ble_eq_true rfl⟩ dX4_hears_2, ?_⟩
  refine List.forall_mem_cons.mpr ⟨ok_if_eq (pc := 5) (tgt := 16) dX4_hears_5 (by decide), ?_⟩
  refine List.forall_mem_cons.mpr ⟨ok_aload_n (pc := 8) dX4_hears_8 rfl, ?_⟩
  refine List.forall_mem_cons.mpr ⟨ok_iload_n (pc := 9) dX4_hears_9 rfl, ?_⟩
  refine List.forall_mem_cons.mpr ⟨ok_callV (pc := 10) sp_X4_isPerson (ci := 4) (C := RX4) rfl (by decide) ⟨bw_59, bm_X4_isPerson⟩ (by decide) ⟨rfl, rfl, Nat.le_of_ble_eq_true rfl, Nat.le_of_ble_eq_true rfl⟩ dX4_hears_10, ?_⟩
  refine List.forall_mem_cons.mpr ⟨ok_if_ne (pc := 13) (tgt := 19) dX4_hears_13 (by decide), ?_⟩
  refine List.forall_mem_cons.mpr ⟨ok_bipush (pc := 16) dX4_hears_16 (by decide), ?_⟩
  refine List.forall_mem_cons.mpr ⟨ok_iret (pc := 18) dX4_hears_18, ?_⟩
  refine List.forall_mem_cons.mpr ⟨ok_aload_n (pc := 19) dX4_hears_19 rfl, ?_⟩
  refine List.forall_mem_cons.mpr ⟨ok_getf (pc := 20) (k := 6) (C := RX4) (T := TX4) (N := 12) rfl (by decide) hin_X4 (by decide) hsz_X4 bw_63 dX4_hears_20, ?_⟩
  refine List.forall_mem_cons.mpr ⟨ok_aload_n (pc := 23) dX4_hears_23 rfl, ?_⟩
  refine List.forall_mem_cons.mpr ⟨ok_getf (pc := 24) (k := 2) (C := RX4) (T := TX4) (N := 12) rfl (by decide) hin_X4 (by decide) hsz_X4 bw_40 dX4_hears_24, ?_⟩
  refine List.forall_mem_cons.mpr ⟨ok_aload_n (pc := 27) dX4_hears_27 rfl, ?_⟩
  refine List.forall_mem_cons.mpr ⟨ok_getf (pc := 28) (k := 3) (C := RX4) (T := TX4) (N := 12) rfl (by decide) hin_X4 (by decide) hsz_X4 bw_42 dX4_hears_28, ?_⟩
  refine List.forall_mem_cons.mpr ⟨ok_iload_n (pc := 31) dX4_hears_31 rfl, ?_⟩
  refine List.forall_mem_cons.mpr ⟨ok_callV (pc := 32) sp_X1_spread (ci := 1) (C := RX1) rfl (by decide) ⟨bw_64, bm_X1_spread⟩ (by decide) ⟨rfl, rfl, Nat.le_of_ble_eq_true rfl, Nat.le_of_ble_eq_true rfl⟩ dX4_hears_32, ?_⟩
  refine List.forall_mem_cons.mpr ⟨ok_pop (pc := 35) dX4_hears_35, ?_⟩
  refine List.forall_mem_cons.mpr ⟨ok_aload_n (pc := 36) dX4_hears_36 rfl, ?_⟩
  refine List.forall_mem_cons.mpr ⟨ok_getf (pc := 37) (k := 6) (C := RX4) (T := TX4) (N := 12) rfl (by decide) hin_X4 (by decide) hsz_X4 bw_63 dX4_hears_37, ?_⟩
  refine List.forall_mem_cons.mpr ⟨ok_getf (pc := 40) (k := 0) (C := RX1) (T := TX1) (N := 3) rfl (by decide) hin_X1 (by decide) hsz_X1 bw_69 dX4_hears_40, ?_⟩
  refine List.forall_mem_cons.mpr ⟨ok_iload_n (pc := 43) dX4_hears_43 rfl, ?_⟩
  refine List.forall_mem_cons.mpr ⟨ok_iald (pc := 44) dX4_hears_44, ?_⟩
  refine List.forall_mem_cons.mpr ⟨ok_iret (pc := 45) dX4_hears_45, ?_⟩
  exact fun _ h => absurd h List.not_mem_nil
abbrev k_X4_isPair : List (Nat × mm_T) := [(0, o_ald 0 1), (1, o_ild 1 2), (2, o_callV 4 m_X4_isPerson 2 1 5), (5, o_if_eq 25 8), (8, o_ald 0 9), (9, o_ild 2 10), (10, o_callV 4 m_X4_isPerson 2 1 13), (13, o_if_eq 25 16), (16, o_ild 1 17), (17, o_ild 2 18), (18, o_ic_eq 25 21), (21, o_ic 1 22), (22, o_goto 26), (25, o_ic 0 26), (26, o_zret)]
def m_X4_isPair : Nat → mm_T := mm_look k_X4_isPair
set_option maxRecDepth 20000 in
theorem sp_X4_isPair : mm_Sp yX4_isPair cX4_isPair 3 (some .boolean) { frames := 1, cells := 0, slots := 0, locals := 21 } m_X4_isPair := by
  refine mm_sound (own := RX4) (code := k_X4_isPair) (by decide) rfl ?_
  refine List.forall_mem_cons.mpr ⟨ok_aload_n (pc := 0) dX4_isPair_0 rfl, ?_⟩
  refine List.forall_mem_cons.mpr ⟨ok_iload_n (pc := 1) dX4_isPair_1 rfl, ?_⟩
  refine List.forall_mem_cons.mpr ⟨ok_callV (pc := 2) sp_X4_isPerson (ci := 4) (C := RX4) rfl (by decide) ⟨bw_59, bm_X4_isPerson⟩ (by decide) ⟨rfl, rfl, Nat.le_of_ble_eq_true rfl, Nat.le_of_ble_eq_true rfl⟩ dX4_isPair_2, ?_⟩
  refine List.forall_mem_cons.mpr ⟨ok_if_eq (pc := 5) (tgt := 25) dX4_isPair_5 (by decide), ?_⟩
  refine List.forall_mem_cons.mpr ⟨ok_aload_n (pc := 8) dX4_isPair_8 rfl, ?_⟩
  refine List.forall_mem_cons.mpr ⟨ok_iload_n (pc := 9) dX4_isPair_9 rfl, ?_⟩
  refine List.forall_mem_cons.mpr ⟨ok_callV (pc := 10) sp_X4_isPerson (ci := 4) (C := RX4) rfl (by decide) ⟨bw_59, bm_X4_isPerson⟩ (by decide) ⟨rfl, rfl, Nat.le_of_ble_eq_true rfl, Nat.le_of_ble_eq_true rfl⟩ dX4_isPair_10, ?_⟩
  refine List.forall_mem_cons.mpr ⟨ok_if_eq (pc := 13) (tgt := 25) dX4_isPair_13 (by decide), ?_⟩
  refine List.forall_mem_cons.mpr ⟨ok_iload_n (pc := 16) dX4_isPair_16 rfl, ?_⟩
  refine List.forall_mem_cons.mpr ⟨ok_iload_n (pc := 17) dX4_isPair_17 rfl, ?_⟩
  refine List.forall_mem_cons.mpr ⟨ok_icmp_eq (pc := 18) (tgt := 25) dX4_isPair_18 (by decide), ?_⟩
  refine List.forall_mem_cons.mpr ⟨ok_iconst (pc := 21) dX4_isPair_21 (by decide), ?_⟩
  refine List.forall_mem_cons.mpr ⟨ok_goto (pc := 22) (tgt := 26) dX4_isPair_22 (by decide), ?_⟩
  refine List.forall_mem_cons.mpr ⟨ok_iconst (pc := 25) dX4_isPair_25 (by decide), ?_⟩
  refine List.forall_mem_cons.mpr ⟨ok_zret (pc := 26) dX4_isPair_26, ?_⟩
  exact fun _ h => absurd h List.not_mem_nil
abbrev k_X4_leastScreens : List (Nat × mm_T) := [(0, o_ic (-1) 1), (1, o_ist 3 2), (2, o_ic 9 4), (4, o_ist 4 6), (6, o_ald 0 7), (7, o_getf 4 5 10), (10, o_ald 0 11), (11, o_getf 4 3 14), (14, o_callV 3 m_X3_copyFrom 3 1 17), (17, o_ic 0 18), (18, o_ist 5 20), (20, o_ild 5 22), (22, o_ic 256 25), (25, o_ic_ge 111 28), (28, o_ild 5 30), (30, o_callS m_J6_bitCount_0f7a4 1 1 33), (33, o_ist 6 35), (35, o_ild 6 37), (37, o_ild 4 39), (39, o_ic_ge 105 42), (42, o_ild 5 44), (44, o_ald 0 45), (45, o_getf 4 3 48), (48, o_getf 3 4 51), (51, o_iand 52), (52, o_if_eq 58 55), (55, o_goto 105), (58, o_ald 0 59), (59, o_getf 4 5 62), (62, o_ald 0 63), (63, o_getf 4 3 66), (66, o_getf 3 4 69), (69, o_ild 5 71), (71, o_ior 72), (72, o_putf 3 4 75), (75, o_ald 0 76), (76, o_getf 4 6 79), (79, o_ald 0 80), (80, o_getf 4 2 83), (83, o_ald 0 84), (84, o_getf 4 5 87), (87, o_ild 1 88), (88, o_callV 1 m_X1_spread 6 3 91), (91, o_ild 2 92), (92, o_callS m_X4_hasBit 2 2 95), (95, o_if_ne 105 98), (98, o_ild 5 100), (100, o_ist 3 101), (101, o_ild 6 103), (103, o_ist 4 105), (105, o_iinc 5 1 108), (108, o_goto 20), (111, o_ild 3 112), (112, o_iret)]
def m_X4_leastScreens : Nat → mm_T := mm_look k_X4_leastScreens
set_option maxRecDepth 20000 in
theorem sp_X4_leastScreens : mm_Sp yX4_leastScreens cX4_leastScreens 7 (some .int) { frames := 4, cells := 0, slots := 0, locals := 96 } m_X4_leastScreens := by
  refine mm_sound (own := RX4) (code := k_X4_leastScreens) (by decide) rfl ?_
  refine List.forall_mem_cons.mpr ⟨ok_iconst (pc := 0) dX4_leastScreens_0 (by decide), ?_⟩
  refine List.forall_mem_cons.mpr ⟨ok_istore_n (pc := 1) dX4_leastScreens_1 rfl, ?_⟩
  refine List.forall_mem_cons.mpr ⟨ok_bipush (pc := 2) dX4_leastScreens_2 (by decide), ?_⟩
  refine List.forall_mem_cons.mpr ⟨ok_istore (pc := 4) dX4_leastScreens_4, ?_⟩
  refine List.forall_mem_cons.mpr ⟨ok_aload_n (pc := 6) dX4_leastScreens_6 rfl, ?_⟩
  refine List.forall_mem_cons.mpr ⟨ok_getf (pc := 7) (k := 5) (C := RX4) (T := TX4) (N := 12) rfl (by decide) hin_X4 (by decide) hsz_X4 bw_70 dX4_leastScreens_7, ?_⟩
  refine List.forall_mem_cons.mpr ⟨ok_aload_n (pc := 10) dX4_leastScreens_10 rfl, ?_⟩
  refine List.forall_mem_cons.mpr ⟨ok_getf (pc := 11) (k := 3) (C := RX4) (T := TX4) (N := 12) rfl (by decide) hin_X4 (by decide) hsz_X4 bw_42 dX4_leastScreens_11, ?_⟩
  refine List.forall_mem_cons.mpr ⟨ok_callV (pc := 14) sp_X3_copyFrom (ci := 3) (C := RX3) rfl (by decide) ⟨bw_71, bm_X3_copyFrom⟩ (by decide) ⟨rfl, rfl, Nat.le_of_ble_eq_true rfl, Nat.le_of_ble_eq_true rfl⟩ dX4_leastScreens_14, ?_⟩
  refine List.forall_mem_cons.mpr ⟨ok_iconst (pc := 17) dX4_leastScreens_17 (by decide), ?_⟩
  refine List.forall_mem_cons.mpr ⟨ok_istore (pc := 18) dX4_leastScreens_18, ?_⟩
  refine List.forall_mem_cons.mpr ⟨ok_iload (pc := 20) dX4_leastScreens_20, ?_⟩
  refine List.forall_mem_cons.mpr ⟨ok_sipush (pc := 22) dX4_leastScreens_22 (by decide), ?_⟩
  refine List.forall_mem_cons.mpr ⟨ok_icmp_ge (pc := 25) (tgt := 111) dX4_leastScreens_25 (by decide), ?_⟩
  refine List.forall_mem_cons.mpr ⟨ok_iload (pc := 28) dX4_leastScreens_28, ?_⟩
  refine List.forall_mem_cons.mpr ⟨ok_callS (pc := 30) sp_J6_bitCount_0f7a4 ⟨bw_72, bs_J6_bitCount_0f7a4⟩ (by decide) ⟨rfl, rfl, Nat.le_of_ble_eq_true rfl, Nat.le_of_ble_eq_true rfl⟩ dX4_leastScreens_30, ?_⟩
  refine List.forall_mem_cons.mpr ⟨ok_istore (pc := 33) dX4_leastScreens_33, ?_⟩
  refine List.forall_mem_cons.mpr ⟨ok_iload (pc := 35) dX4_leastScreens_35, ?_⟩
  refine List.forall_mem_cons.mpr ⟨ok_iload (pc := 37) dX4_leastScreens_37, ?_⟩
  refine List.forall_mem_cons.mpr ⟨ok_icmp_ge (pc := 39) (tgt := 105) dX4_leastScreens_39 (by decide), ?_⟩
  refine List.forall_mem_cons.mpr ⟨ok_iload (pc := 42) dX4_leastScreens_42, ?_⟩
  refine List.forall_mem_cons.mpr ⟨ok_aload_n (pc := 44) dX4_leastScreens_44 rfl, ?_⟩
  refine List.forall_mem_cons.mpr ⟨ok_getf (pc := 45) (k := 3) (C := RX4) (T := TX4) (N := 12) rfl (by decide) hin_X4 (by decide) hsz_X4 bw_42 dX4_leastScreens_45, ?_⟩
  refine List.forall_mem_cons.mpr ⟨ok_getf (pc := 48) (k := 4) (C := RX3) (T := TX3) (N := 9) rfl (by decide) hin_X3 (by decide) hsz_X3 bw_51 dX4_leastScreens_48, ?_⟩
  refine List.forall_mem_cons.mpr ⟨ok_iand (pc := 51) dX4_leastScreens_51, ?_⟩
  refine List.forall_mem_cons.mpr ⟨ok_if_eq (pc := 52) (tgt := 58) dX4_leastScreens_52 (by decide), ?_⟩
  refine List.forall_mem_cons.mpr ⟨ok_goto (pc := 55) (tgt := 105) dX4_leastScreens_55 (by decide), ?_⟩
  refine List.forall_mem_cons.mpr ⟨ok_aload_n (pc := 58) dX4_leastScreens_58 rfl, ?_⟩
  refine List.forall_mem_cons.mpr ⟨ok_getf (pc := 59) (k := 5) (C := RX4) (T := TX4) (N := 12) rfl (by decide) hin_X4 (by decide) hsz_X4 bw_70 dX4_leastScreens_59, ?_⟩
  refine List.forall_mem_cons.mpr ⟨ok_aload_n (pc := 62) dX4_leastScreens_62 rfl, ?_⟩
  refine List.forall_mem_cons.mpr ⟨ok_getf (pc := 63) (k := 3) (C := RX4) (T := TX4) (N := 12) rfl (by decide) hin_X4 (by decide) hsz_X4 bw_42 dX4_leastScreens_63, ?_⟩
  refine List.forall_mem_cons.mpr ⟨ok_getf (pc := 66) (k := 4) (C := RX3) (T := TX3) (N := 9) rfl (by decide) hin_X3 (by decide) hsz_X3 bw_51 dX4_leastScreens_66, ?_⟩
  refine List.forall_mem_cons.mpr ⟨ok_iload (pc := 69) dX4_leastScreens_69, ?_⟩
  refine List.forall_mem_cons.mpr ⟨ok_ior (pc := 71) dX4_leastScreens_71, ?_⟩
  refine List.forall_mem_cons.mpr ⟨ok_putf (pc := 72) (k := 4) (C := RX3) (T := TX3) (N := 9) tyX3 tyX3_ok nmX3 rfl (by decide) hin_X3 (by decide) hsz_X3 hkt_X3_4 rfl bw_51 dX4_leastScreens_72, ?_⟩
  refine List.forall_mem_cons.mpr ⟨ok_aload_n (pc := 75) dX4_leastScreens_75 rfl, ?_⟩
  refine List.forall_mem_cons.mpr ⟨ok_getf (pc := 76) (k := 6) (C := RX4) (T := TX4) (N := 12) rfl (by decide) hin_X4 (by decide) hsz_X4 bw_63 dX4_leastScreens_76, ?_⟩
  refine List.forall_mem_cons.mpr ⟨ok_aload_n (pc := 79) dX4_leastScreens_79 rfl, ?_⟩
  refine List.forall_mem_cons.mpr ⟨ok_getf (pc := 80) (k := 2) (C := RX4) (T := TX4) (N := 12) rfl (by decide) hin_X4 (by decide) hsz_X4 bw_40 dX4_leastScreens_80, ?_⟩
  refine List.forall_mem_cons.mpr ⟨ok_aload_n (pc := 83) dX4_leastScreens_83 rfl, ?_⟩
  refine List.forall_mem_cons.mpr ⟨ok_getf (pc := 84) (k := 5) (C := RX4) (T := TX4) (N := 12) rfl (by decide) hin_X4 (by decide) hsz_X4 bw_70 dX4_leastScreens_84, ?_⟩
  refine List.forall_mem_cons.mpr ⟨ok_iload_n (pc := 87) dX4_leastScreens_87 rfl, ?_⟩
  refine List.forall_mem_cons.mpr ⟨ok_callV (pc := 88) sp_X1_spread (ci := 1) (C := RX1) rfl (by decide) ⟨bw_64, bm_X1_spread⟩ (by decide) ⟨rfl, rfl, Nat.le_of_ble_eq_true rfl, Nat.le_of_ble_eq_true rfl⟩ dX4_leastScreens_88, ?_⟩
  refine List.forall_mem_cons.mpr ⟨ok_iload_n (pc := 91) dX4_leastScreens_91 rfl, ?_⟩
  refine List.forall_mem_cons.mpr ⟨ok_callS (pc := 92) sp_X4_hasBit ⟨bw_52, bs_X4_hasBit⟩ (by decide) ⟨rfl, rfl, Nat.le_of_ble_eq_true rfl, Nat.le_of_ble_eq_true rfl⟩ dX4_leastScreens_92, ?_⟩
  refine List.forall_mem_cons.mpr ⟨ok_if_ne (pc := 95) (tgt := 105) dX4_leastScreens_95 (by decide), ?_⟩
  refine List.forall_mem_cons.mpr ⟨ok_iload (pc := 98) dX4_leastScreens_98, ?_⟩
  refine List.forall_mem_cons.mpr ⟨ok_istore_n (pc := 100) dX4_leastScreens_100 rfl, ?_⟩
  refine List.forall_mem_cons.mpr ⟨ok_iload (pc := 101) dX4_leastScreens_101, ?_⟩
  refine List.forall_mem_cons.mpr ⟨ok_istore (pc := 103) dX4_leastScreens_103, ?_⟩
  refine List.forall_mem_cons.mpr ⟨ok_iinc (pc := 105) dX4_leastScreens_105 (by decide), ?_⟩
  refine List.forall_mem_cons.mpr ⟨ok_goto (pc := 108) (tgt := 20) dX4_leastScreens_108 (by decide), ?_⟩
  refine List.forall_mem_cons.mpr ⟨ok_iload_n (pc := 111) dX4_leastScreens_111 rfl, ?_⟩
  refine List.forall_mem_cons.mpr ⟨ok_iret (pc := 112) dX4_leastScreens_112, ?_⟩
  exact fun _ h => absurd h List.not_mem_nil
abbrev k_X4_screens : List (Nat × mm_T) := [(0, o_ald 0 1), (1, o_ild 1 2), (2, o_ild 2 3), (3, o_callV 4 m_X4_isPair 3 2 6), (6, o_if_ne 12 9), (9, o_ic (-101) 11), (11, o_iret), (12, o_ild 3 13), (13, o_if_lt 21 16), (16, o_ild 3 17), (17, o_ic 1 18), (18, o_ic_le 24 21), (21, o_ic (-102) 23), (23, o_iret), (24, o_ald 0 25), (25, o_getf 4 11 28), (28, o_ic 20 30), (30, o_ic_lt 36 33), (33, o_ic (-103) 35), (35, o_iret), (36, o_ald 0 37), (37, o_dup 38), (38, o_getf 4 11 41), (41, o_ic 1 42), (42, o_iadd 43), (43, o_putf 4 11 46), (46, o_ald 0 47), (47, o_ild 1 48), (48, o_ild 2 49), (49, o_callV 4 m_X4_leastScreens 7 2 52), (52, o_ist 4 54), (54, o_ild 4 56), (56, o_ic (-1) 57), (57, o_ic_eq 65 60), (60, o_ild 3 61), (61, o_ic 1 62), (62, o_ic_ne 70 65), (65, o_ild 4 67), (67, o_goto 75), (70, o_ild 4 72), (72, o_callS m_J6_bitCount_0f7a4 1 1 75), (75, o_iret)]
def m_X4_screens : Nat → mm_T := mm_look k_X4_screens
set_option maxRecDepth 20000 in
theorem sp_X4_screens : mm_Sp yX4_screens cX4_screens 5 (some .int) { frames := 5, cells := 0, slots := 0, locals := 122 } m_X4_screens := by
  refine mm_sound (own := RX4) (code := k_X4_screens) (by decide) rfl ?_
  refine List.forall_mem_cons.mpr ⟨ok_aload_n (pc := 0) dX4_screens_0 rfl, ?_⟩
  refine List.forall_mem_cons.mpr ⟨ok_iload_n (pc := 1) dX4_screens_1 rfl, ?_⟩
  refine List.forall_mem_cons.mpr ⟨ok_iload_n (pc := 2) dX4_screens_2 rfl, ?_⟩
  refine List.forall_mem_cons.mpr ⟨ok_callV (pc := 3) sp_X4_isPair (ci := 4) (C := RX4) rfl (by decide) ⟨bw_73, bm_X4_isPair⟩ (by decide) ⟨rfl, rfl, Nat.le_of_ble_eq_true rfl, Nat.le_of_ble_eq_true rfl⟩ dX4_screens_3, ?_⟩
  refine List.forall_mem_cons.mpr ⟨ok_if_ne (pc := 6) (tgt := 12) dX4_screens_6 (by decide), ?_⟩
  refine List.forall_mem_cons.mpr ⟨ok_bipush (pc := 9) dX4_screens_9 (by decide), ?_⟩
  refine List.forall_mem_cons.mpr ⟨ok_iret (pc := 11) dX4_screens_11, ?_⟩
  refine List.forall_mem_cons.mpr ⟨ok_iload_n (pc := 12) dX4_screens_12 rfl, ?_⟩
  refine List.forall_mem_cons.mpr ⟨ok_if_lt (pc := 13) (tgt := 21) dX4_screens_13 (by decide), ?_⟩
  refine List.forall_mem_cons.mpr ⟨ok_iload_n (pc := 16) dX4_screens_16 rfl, ?_⟩
  refine List.forall_mem_cons.mpr ⟨ok_iconst (pc := 17) dX4_screens_17 (by decide), ?_⟩
  refine List.forall_mem_cons.mpr ⟨ok_icmp_le (pc := 18) (tgt := 24) dX4_screens_18 (by decide), ?_⟩
  refine List.forall_mem_cons.mpr ⟨ok_bipush (pc := 21) dX4_screens_21 (by decide), ?_⟩
  refine List.forall_mem_cons.mpr ⟨ok_iret (pc := 23) dX4_screens_23, ?_⟩
  refine List.forall_mem_cons.mpr ⟨ok_aload_n (pc := 24) dX4_screens_24 rfl, ?_⟩
  refine List.forall_mem_cons.mpr ⟨ok_getf (pc := 25) (k := 11) (C := RX4) (T := TX4) (N := 12) rfl (by decide) hin_X4 (by decide) hsz_X4 bw_74 dX4_screens_25, ?_⟩
  refine List.forall_mem_cons.mpr ⟨ok_bipush (pc := 28) dX4_screens_28 (by decide), ?_⟩
  refine List.forall_mem_cons.mpr ⟨ok_icmp_lt (pc := 30) (tgt := 36) dX4_screens_30 (by decide), ?_⟩
  refine List.forall_mem_cons.mpr ⟨ok_bipush (pc := 33) dX4_screens_33 (by decide), ?_⟩
  refine List.forall_mem_cons.mpr ⟨ok_iret (pc := 35) dX4_screens_35, ?_⟩
  refine List.forall_mem_cons.mpr ⟨ok_aload_n (pc := 36) dX4_screens_36 rfl, ?_⟩
  refine List.forall_mem_cons.mpr ⟨ok_dup (pc := 37) dX4_screens_37, ?_⟩
  refine List.forall_mem_cons.mpr ⟨ok_getf (pc := 38) (k := 11) (C := RX4) (T := TX4) (N := 12) rfl (by decide) hin_X4 (by decide) hsz_X4 bw_74 dX4_screens_38, ?_⟩
  refine List.forall_mem_cons.mpr ⟨ok_iconst (pc := 41) dX4_screens_41 (by decide), ?_⟩
  refine List.forall_mem_cons.mpr ⟨ok_iadd (pc := 42) dX4_screens_42, ?_⟩
  refine List.forall_mem_cons.mpr ⟨ok_putf (pc := 43) (k := 11) (C := RX4) (T := TX4) (N := 12) tyX4 tyX4_ok nmX4 rfl (by decide) hin_X4 (by decide) hsz_X4 hkt_X4_11 rfl bw_74 dX4_screens_43, ?_⟩
  refine List.forall_mem_cons.mpr ⟨ok_aload_n (pc := 46) dX4_screens_46 rfl, ?_⟩
  refine List.forall_mem_cons.mpr ⟨ok_iload_n (pc := 47) dX4_screens_47 rfl, ?_⟩
  refine List.forall_mem_cons.mpr ⟨ok_iload_n (pc := 48) dX4_screens_48 rfl, ?_⟩
  refine List.forall_mem_cons.mpr ⟨ok_callV (pc := 49) sp_X4_leastScreens (ci := 4) (C := RX4) rfl (by decide) ⟨bw_75, bm_X4_leastScreens⟩ (by decide) ⟨rfl, rfl, Nat.le_of_ble_eq_true rfl, Nat.le_of_ble_eq_true rfl⟩ dX4_screens_49, ?_⟩
  refine List.forall_mem_cons.mpr ⟨ok_istore (pc := 52) dX4_screens_52, ?_⟩
  refine List.forall_mem_cons.mpr ⟨ok_iload (pc := 54) dX4_screens_54, ?_⟩
  refine List.forall_mem_cons.mpr ⟨ok_iconst (pc := 56) dX4_screens_56 (by decide), ?_⟩
  refine List.forall_mem_cons.mpr ⟨ok_icmp_eq (pc := 57) (tgt := 65) dX4_screens_57 (by decide), ?_⟩
  refine List.forall_mem_cons.mpr ⟨ok_iload_n (pc := 60) dX4_screens_60 rfl, ?_⟩
  refine List.forall_mem_cons.mpr ⟨ok_iconst (pc := 61) dX4_screens_61 (by decide), ?_⟩
  refine List.forall_mem_cons.mpr ⟨ok_icmp_ne (pc := 62) (tgt := 70) dX4_screens_62 (by decide), ?_⟩
  refine List.forall_mem_cons.mpr ⟨ok_iload (pc := 65) dX4_screens_65, ?_⟩
  refine List.forall_mem_cons.mpr ⟨ok_goto (pc := 67) (tgt := 75) dX4_screens_67 (by decide), ?_⟩
  refine List.forall_mem_cons.mpr ⟨ok_iload (pc := 70) dX4_screens_70, ?_⟩
  refine List.forall_mem_cons.mpr ⟨ok_callS (pc := 72) sp_J6_bitCount_0f7a4 ⟨bw_72, bs_J6_bitCount_0f7a4⟩ (by decide) ⟨rfl, rfl, Nat.le_of_ble_eq_true rfl, Nat.le_of_ble_eq_true rfl⟩ dX4_screens_72, ?_⟩
  refine List.forall_mem_cons.mpr ⟨ok_iret (pc := 75) dX4_screens_75, ?_⟩
  exact fun _ h => absurd h List.not_mem_nil
abbrev k_X4_areAlone : List (Nat × mm_T) := [(0, o_ic 1 1), (1, o_ild 2 2), (2, o_ishl 3), (3, o_ic 1 4), (4, o_ild 3 5), (5, o_ishl 6), (6, o_ior 7), (7, o_ist 4 9), (9, o_ald 0 10), (10, o_getf 4 6 13), (13, o_ald 0 14), (14, o_getf 4 2 17), (17, o_ald 1 18), (18, o_ild 2 19), (19, o_callV 1 m_X1_spread 6 3 22), (22, o_ild 4 24), (24, o_ic_ne 49 27), (27, o_ald 0 28), (28, o_getf 4 6 31), (31, o_ald 0 32), (32, o_getf 4 2 35), (35, o_ald 1 36), (36, o_ild 3 37), (37, o_callV 1 m_X1_spread 6 3 40), (40, o_ild 4 42), (42, o_ic_ne 49 45), (45, o_ic 1 46), (46, o_goto 50), (49, o_ic 0 50), (50, o_zret)]
def m_X4_areAlone : Nat → mm_T := mm_look k_X4_areAlone
set_option maxRecDepth 20000 in
theorem sp_X4_areAlone : mm_Sp yX4_areAlone cX4_areAlone 5 (some .boolean) { frames := 4, cells := 0, slots := 0, locals := 96 } m_X4_areAlone := by
  refine mm_sound (own := RX4) (code := k_X4_areAlone) (by decide) rfl ?_
  refine List.forall_mem_cons.mpr ⟨ok_iconst (pc := 0) dX4_areAlone_0 (by decide), ?_⟩
  refine List.forall_mem_cons.mpr ⟨ok_iload_n (pc := 1) dX4_areAlone_1 rfl, ?_⟩
  refine List.forall_mem_cons.mpr ⟨ok_ishl (pc := 2) dX4_areAlone_2, ?_⟩
  refine List.forall_mem_cons.mpr ⟨ok_iconst (pc := 3) dX4_areAlone_3 (by decide), ?_⟩
  refine List.forall_mem_cons.mpr ⟨ok_iload_n (pc := 4) dX4_areAlone_4 rfl, ?_⟩
  refine List.forall_mem_cons.mpr ⟨ok_ishl (pc := 5) dX4_areAlone_5, ?_⟩
  refine List.forall_mem_cons.mpr ⟨ok_ior (pc := 6) dX4_areAlone_6, ?_⟩
  refine List.forall_mem_cons.mpr ⟨ok_istore (pc := 7) dX4_areAlone_7, ?_⟩
  refine List.forall_mem_cons.mpr ⟨ok_aload_n (pc := 9) dX4_areAlone_9 rfl, ?_⟩
  refine List.forall_mem_cons.mpr ⟨ok_getf (pc := 10) (k := 6) (C := RX4) (T := TX4) (N := 12) rfl (by decide) hin_X4 (by decide) hsz_X4 bw_63 dX4_areAlone_10, ?_⟩
  refine List.forall_mem_cons.mpr ⟨ok_aload_n (pc := 13) dX4_areAlone_13 rfl, ?_⟩
  refine List.forall_mem_cons.mpr ⟨ok_getf (pc := 14) (k := 2) (C := RX4) (T := TX4) (N := 12) rfl (by decide) hin_X4 (by decide) hsz_X4 bw_40 dX4_areAlone_14, ?_⟩
  refine List.forall_mem_cons.mpr ⟨ok_aload_n (pc := 17) dX4_areAlone_17 rfl, ?_⟩
  refine List.forall_mem_cons.mpr ⟨ok_iload_n (pc := 18) dX4_areAlone_18 rfl, ?_⟩
  refine List.forall_mem_cons.mpr ⟨ok_callV (pc := 19) sp_X1_spread (ci := 1) (C := RX1) rfl (by decide) ⟨bw_64, bm_X1_spread⟩ (by decide) ⟨rfl, rfl, Nat.le_of_ble_eq_true rfl, Nat.le_of_ble_eq_true rfl⟩ dX4_areAlone_19, ?_⟩
  refine List.forall_mem_cons.mpr ⟨ok_iload (pc := 22) dX4_areAlone_22, ?_⟩
  refine List.forall_mem_cons.mpr ⟨ok_icmp_ne (pc := 24) (tgt := 49) dX4_areAlone_24 (by decide), ?_⟩
  refine List.forall_mem_cons.mpr ⟨ok_aload_n (pc := 27) dX4_areAlone_27 rfl, ?_⟩
  refine List.forall_mem_cons.mpr ⟨ok_getf (pc := 28) (k := 6) (C := RX4) (T := TX4) (N := 12) rfl (by decide) hin_X4 (by decide) hsz_X4 bw_63 dX4_areAlone_28, ?_⟩
  refine List.forall_mem_cons.mpr ⟨ok_aload_n (pc := 31) dX4_areAlone_31 rfl, ?_⟩
  refine List.forall_mem_cons.mpr ⟨ok_getf (pc := 32) (k := 2) (C := RX4) (T := TX4) (N := 12) rfl (by decide) hin_X4 (by decide) hsz_X4 bw_40 dX4_areAlone_32, ?_⟩
  refine List.forall_mem_cons.mpr ⟨ok_aload_n (pc := 35) dX4_areAlone_35 rfl, ?_⟩
  refine List.forall_mem_cons.mpr ⟨ok_iload_n (pc := 36) dX4_areAlone_36 rfl, ?_⟩
  refine List.forall_mem_cons.mpr ⟨ok_callV (pc := 37) sp_X1_spread (ci := 1) (C := RX1) rfl (by decide) ⟨bw_64, bm_X1_spread⟩ (by decide) ⟨rfl, rfl, Nat.le_of_ble_eq_true rfl, Nat.le_of_ble_eq_true rfl⟩ dX4_areAlone_37, ?_⟩
  refine List.forall_mem_cons.mpr ⟨ok_iload (pc := 40) dX4_areAlone_40, ?_⟩
  refine List.forall_mem_cons.mpr ⟨ok_icmp_ne (pc := 42) (tgt := 49) dX4_areAlone_42 (by decide), ?_⟩
  refine List.forall_mem_cons.mpr ⟨ok_iconst (pc := 45) dX4_areAlone_45 (by decide), ?_⟩
  refine List.forall_mem_cons.mpr ⟨ok_goto (pc := 46) (tgt := 50) dX4_areAlone_46 (by decide), ?_⟩
  refine List.forall_mem_cons.mpr ⟨ok_iconst (pc := 49) dX4_areAlone_49 (by decide), ?_⟩
  refine List.forall_mem_cons.mpr ⟨ok_zret (pc := 50) dX4_areAlone_50, ?_⟩
  exact fun _ h => absurd h List.not_mem_nil
abbrev k_X4_stand : List (Nat × mm_T) := [(0, o_ald 0 1), (1, o_ild 1 2), (2, o_ild 2 3), (3, o_callV 4 m_X4_isPair 3 2 6), (6, o_if_ne 12 9), (9, o_ic (-101) 11), (11, o_iret), (12, o_ald 0 13), (13, o_getf 4 5 16), (16, o_ald 0 17), (17, o_getf 4 3 20), (20, o_callV 3 m_X3_copyFrom 3 1 23), (23, o_ic 0 24), (24, o_ist 3 25), (25, o_ild 3 26), (26, o_ic 64 28), (28, o_ic_ge 78 31), (31, o_ald 0 32), (32, o_getf 4 5 35), (35, o_getf 3 2 38), (38, o_ild 1 39), (39, o_ild 3 40), (40, o_ic 8 42), (42, o_idiv 43), (43, o_iast 44), (44, o_ald 0 45), (45, o_getf 4 5 48), (48, o_getf 3 2 51), (51, o_ild 2 52), (52, o_ild 3 53), (53, o_ic 8 55), (55, o_irem 56), (56, o_iast 57), (57, o_ald 0 58), (58, o_ald 0 59), (59, o_getf 4 5 62), (62, o_ild 1 63), (63, o_ild 2 64), (64, o_callV 4 m_X4_areAlone 5 3 67), (67, o_if_eq 72 70), (70, o_ild 3 71), (71, o_iret), (72, o_iinc 3 1 75), (75, o_goto 25), (78, o_ic (-1) 79), (79, o_iret)]
def m_X4_stand : Nat → mm_T := mm_look k_X4_stand
set_option maxRecDepth 20000 in
theorem sp_X4_stand : mm_Sp yX4_stand cX4_stand 4 (some .int) { frames := 5, cells := 0, slots := 0, locals := 120 } m_X4_stand := by
  refine mm_sound (own := RX4) (code := k_X4_stand) (by decide) rfl ?_
  refine List.forall_mem_cons.mpr ⟨ok_aload_n (pc := 0) dX4_stand_0 rfl, ?_⟩
  refine List.forall_mem_cons.mpr ⟨ok_iload_n (pc := 1) dX4_stand_1 rfl, ?_⟩
  refine List.forall_mem_cons.mpr ⟨ok_iload_n (pc := 2) dX4_stand_2 rfl, ?_⟩
  refine List.forall_mem_cons.mpr ⟨ok_callV (pc := 3) sp_X4_isPair (ci := 4) (C := RX4) rfl (by decide) ⟨bw_73, bm_X4_isPair⟩ (by decide) ⟨rfl, rfl, Nat.le_of_ble_eq_true rfl, Nat.le_of_ble_eq_true rfl⟩ dX4_stand_3, ?_⟩
  refine List.forall_mem_cons.mpr ⟨ok_if_ne (pc := 6) (tgt := 12) dX4_stand_6 (by decide), ?_⟩
  refine List.forall_mem_cons.mpr ⟨ok_bipush (pc := 9) dX4_stand_9 (by decide), ?_⟩
  refine List.forall_mem_cons.mpr ⟨ok_iret (pc := 11) dX4_stand_11, ?_⟩
  refine List.forall_mem_cons.mpr ⟨ok_aload_n (pc := 12) dX4_stand_12 rfl, ?_⟩
  refine List.forall_mem_cons.mpr ⟨ok_getf (pc := 13) (k := 5) (C := RX4) (T := TX4) (N := 12) rfl (by decide) hin_X4 (by decide) hsz_X4 bw_70 dX4_stand_13, ?_⟩
  refine List.forall_mem_cons.mpr ⟨ok_aload_n (pc := 16) dX4_stand_16 rfl, ?_⟩
  refine List.forall_mem_cons.mpr ⟨ok_getf (pc := 17) (k := 3) (C := RX4) (T := TX4) (N := 12) rfl (by decide) hin_X4 (by decide) hsz_X4 bw_42 dX4_stand_17, ?_⟩
  refine List.forall_mem_cons.mpr ⟨ok_callV (pc := 20) sp_X3_copyFrom (ci := 3) (C := RX3) rfl (by decide) ⟨bw_71, bm_X3_copyFrom⟩ (by decide) ⟨rfl, rfl, Nat.le_of_ble_eq_true rfl, Nat.le_of_ble_eq_true rfl⟩ dX4_stand_20, ?_⟩
  refine List.forall_mem_cons.mpr ⟨ok_iconst (pc := 23) dX4_stand_23 (by decide), ?_⟩
  refine List.forall_mem_cons.mpr ⟨ok_istore_n (pc := 24) dX4_stand_24 rfl, ?_⟩
  refine List.forall_mem_cons.mpr ⟨ok_iload_n (pc := 25) dX4_stand_25 rfl, ?_⟩
  refine List.forall_mem_cons.mpr ⟨ok_bipush (pc := 26) dX4_stand_26 (by decide), ?_⟩
  refine List.forall_mem_cons.mpr ⟨ok_icmp_ge (pc := 28) (tgt := 78) dX4_stand_28 (by decide), ?_⟩
  refine List.forall_mem_cons.mpr ⟨ok_aload_n (pc := 31) dX4_stand_31 rfl, ?_⟩
  refine List.forall_mem_cons.mpr ⟨ok_getf (pc := 32) (k := 5) (C := RX4) (T := TX4) (N := 12) rfl (by decide) hin_X4 (by decide) hsz_X4 bw_70 dX4_stand_32, ?_⟩
  refine List.forall_mem_cons.mpr ⟨ok_getf (pc := 35) (k := 2) (C := RX3) (T := TX3) (N := 9) rfl (by decide) hin_X3 (by decide) hsz_X3 bw_61 dX4_stand_35, ?_⟩
  refine List.forall_mem_cons.mpr ⟨ok_iload_n (pc := 38) dX4_stand_38 rfl, ?_⟩
  refine List.forall_mem_cons.mpr ⟨ok_iload_n (pc := 39) dX4_stand_39 rfl, ?_⟩
  refine List.forall_mem_cons.mpr ⟨ok_bipush (pc := 40) dX4_stand_40 (by decide), ?_⟩
  refine List.forall_mem_cons.mpr ⟨ok_idiv (pc := 42) dX4_stand_42, ?_⟩
  refine List.forall_mem_cons.mpr ⟨ok_iast (pc := 43) dX4_stand_43, ?_⟩
  refine List.forall_mem_cons.mpr ⟨ok_aload_n (pc := 44) dX4_stand_44 rfl, ?_⟩
  refine List.forall_mem_cons.mpr ⟨ok_getf (pc := 45) (k := 5) (C := RX4) (T := TX4) (N := 12) rfl (by decide) hin_X4 (by decide) hsz_X4 bw_70 dX4_stand_45, ?_⟩
  refine List.forall_mem_cons.mpr ⟨ok_getf (pc := 48) (k := 2) (C := RX3) (T := TX3) (N := 9) rfl (by decide) hin_X3 (by decide) hsz_X3 bw_61 dX4_stand_48, ?_⟩
  refine List.forall_mem_cons.mpr ⟨ok_iload_n (pc := 51) dX4_stand_51 rfl, ?_⟩
  refine List.forall_mem_cons.mpr ⟨ok_iload_n (pc := 52) dX4_stand_52 rfl, ?_⟩
  refine List.forall_mem_cons.mpr ⟨ok_bipush (pc := 53) dX4_stand_53 (by decide), ?_⟩
  refine List.forall_mem_cons.mpr ⟨ok_irem (pc := 55) dX4_stand_55, ?_⟩
  refine List.forall_mem_cons.mpr ⟨ok_iast (pc := 56) dX4_stand_56, ?_⟩
  refine List.forall_mem_cons.mpr ⟨ok_aload_n (pc := 57) dX4_stand_57 rfl, ?_⟩
  refine List.forall_mem_cons.mpr ⟨ok_aload_n (pc := 58) dX4_stand_58 rfl, ?_⟩
  refine List.forall_mem_cons.mpr ⟨ok_getf (pc := 59) (k := 5) (C := RX4) (T := TX4) (N := 12) rfl (by decide) hin_X4 (by decide) hsz_X4 bw_70 dX4_stand_59, ?_⟩
  refine List.forall_mem_cons.mpr ⟨ok_iload_n (pc := 62) dX4_stand_62 rfl, ?_⟩
  refine List.forall_mem_cons.mpr ⟨ok_iload_n (pc := 63) dX4_stand_63 rfl, ?_⟩
  refine List.forall_mem_cons.mpr ⟨ok_callV (pc := 64) sp_X4_areAlone (ci := 4) (C := RX4) rfl (by decide) ⟨bw_76, bm_X4_areAlone⟩ (by decide) ⟨rfl, rfl, Nat.le_of_ble_eq_true rfl, Nat.le_of_ble_eq_true rfl⟩ dX4_stand_64, ?_⟩
  refine List.forall_mem_cons.mpr ⟨ok_if_eq (pc := 67) (tgt := 72) dX4_stand_67 (by decide), ?_⟩
  refine List.forall_mem_cons.mpr ⟨ok_iload_n (pc := 70) dX4_stand_70 rfl, ?_⟩
  refine List.forall_mem_cons.mpr ⟨ok_iret (pc := 71) dX4_stand_71, ?_⟩
  refine List.forall_mem_cons.mpr ⟨ok_iinc (pc := 72) dX4_stand_72 (by decide), ?_⟩
  refine List.forall_mem_cons.mpr ⟨ok_goto (pc := 75) (tgt := 25) dX4_stand_75 (by decide), ?_⟩
  refine List.forall_mem_cons.mpr ⟨ok_iconst (pc := 78) dX4_stand_78 (by decide), ?_⟩
  refine List.forall_mem_cons.mpr ⟨ok_iret (pc := 79) dX4_stand_79, ?_⟩
  exact fun _ h => absurd h List.not_mem_nil
abbrev k_X4_trial : List (Nat × mm_T) := [(0, o_ald 0 1), (1, o_ild 1 2), (2, o_callV 4 m_X4_isPerson 2 1 5), (5, o_if_ne 11 8), (8, o_ic (-101) 10), (10, o_iret), (11, o_ald 0 12), (12, o_getf 4 3 15), (15, o_getf 3 6 18), (18, o_ic 8 20), (20, o_ic_lt 26 23), (23, o_ic (-104) 25), (25, o_iret), (26, o_ild 2 27), (27, o_if_eq 48 30), (30, o_ald 0 31), (31, o_getf 4 3 34), (34, o_dup 35), (35, o_getf 3 7 38), (38, o_ic 1 39), (39, o_ild 1 40), (40, o_ishl 41), (41, o_ior 42), (42, o_putf 3 7 45), (45, o_goto 63), (48, o_ald 0 49), (49, o_getf 4 3 52), (52, o_dup 53), (53, o_getf 3 8 56), (56, o_ic 1 57), (57, o_ild 1 58), (58, o_ishl 59), (59, o_ior 60), (60, o_putf 3 8 63), (63, o_ald 0 64), (64, o_getf 4 3 67), (67, o_dup 68), (68, o_getf 3 6 71), (71, o_ic 1 72), (72, o_iadd 73), (73, o_putf 3 6 76), (76, o_ald 0 77), (77, o_getf 4 3 80), (80, o_getf 3 6 83), (83, o_iret)]
def m_X4_trial : Nat → mm_T := mm_look k_X4_trial
set_option maxRecDepth 20000 in
theorem sp_X4_trial : mm_Sp yX4_trial cX4_trial 3 (some .int) { frames := 1, cells := 0, slots := 0, locals := 21 } m_X4_trial := by
  refine mm_sound (own := RX4) (code := k_X4_trial) (by decide) rfl ?_
  refine List.forall_mem_cons.mpr ⟨ok_aload_n (pc := 0) dX4_trial_0 rfl, ?_⟩
  refine List.forall_mem_cons.mpr ⟨ok_iload_n (pc := 1) dX4_trial_1 rfl, ?_⟩
  refine List.forall_mem_cons.mpr ⟨ok_callV (pc := 2) sp_X4_isPerson (ci := 4) (C := RX4) rfl (by decide) ⟨bw_59, bm_X4_isPerson⟩ (by decide) ⟨rfl, rfl, Nat.le_of_ble_eq_true rfl, Nat.le_of_ble_eq_true rfl⟩ dX4_trial_2, ?_⟩
  refine List.forall_mem_cons.mpr ⟨ok_if_ne (pc := 5) (tgt := 11) dX4_trial_5 (by decide), ?_⟩
  refine List.forall_mem_cons.mpr ⟨ok_bipush (pc := 8) dX4_trial_8 (by decide), ?_⟩
  refine List.forall_mem_cons.mpr ⟨ok_iret (pc := 10) dX4_trial_10, ?_⟩
  refine List.forall_mem_cons.mpr ⟨ok_aload_n (pc := 11) dX4_trial_11 rfl, ?_⟩
  refine List.forall_mem_cons.mpr ⟨ok_getf (pc := 12) (k := 3) (C := RX4) (T := TX4) (N := 12) rfl (by decide) hin_X4 (by decide) hsz_X4 bw_42 dX4_trial_12, ?_⟩
  refine List.forall_mem_cons.mpr ⟨ok_getf (pc := 15) (k := 6) (C := RX3) (T := TX3) (N := 9) rfl (by decide) hin_X3 (by decide) hsz_X3 bw_77 dX4_trial_15, ?_⟩
  refine List.forall_mem_cons.mpr ⟨ok_bipush (pc := 18) dX4_trial_18 (by decide), ?_⟩
  refine List.forall_mem_cons.mpr ⟨ok_icmp_lt (pc := 20) (tgt := 26) dX4_trial_20 (by decide), ?_⟩
  refine List.forall_mem_cons.mpr ⟨ok_bipush (pc := 23) dX4_trial_23 (by decide), ?_⟩
  refine List.forall_mem_cons.mpr ⟨ok_iret (pc := 25) dX4_trial_25, ?_⟩
  refine List.forall_mem_cons.mpr ⟨ok_iload_n (pc := 26) dX4_trial_26 rfl, ?_⟩
  refine List.forall_mem_cons.mpr ⟨ok_if_eq (pc := 27) (tgt := 48) dX4_trial_27 (by decide), ?_⟩
  refine List.forall_mem_cons.mpr ⟨ok_aload_n (pc := 30) dX4_trial_30 rfl, ?_⟩
  refine List.forall_mem_cons.mpr ⟨ok_getf (pc := 31) (k := 3) (C := RX4) (T := TX4) (N := 12) rfl (by decide) hin_X4 (by decide) hsz_X4 bw_42 dX4_trial_31, ?_⟩
  refine List.forall_mem_cons.mpr ⟨ok_dup (pc := 34) dX4_trial_34, ?_⟩
  refine List.forall_mem_cons.mpr ⟨ok_getf (pc := 35) (k := 7) (C := RX3) (T := TX3) (N := 9) rfl (by decide) hin_X3 (by decide) hsz_X3 bw_78 dX4_trial_35, ?_⟩
  refine List.forall_mem_cons.mpr ⟨ok_iconst (pc := 38) dX4_trial_38 (by decide), ?_⟩
  refine List.forall_mem_cons.mpr ⟨ok_iload_n (pc := 39) dX4_trial_39 rfl, ?_⟩
  refine List.forall_mem_cons.mpr ⟨ok_ishl (pc := 40) dX4_trial_40, ?_⟩
  refine List.forall_mem_cons.mpr ⟨ok_ior (pc := 41) dX4_trial_41, ?_⟩
  refine List.forall_mem_cons.mpr ⟨ok_putf (pc := 42) (k := 7) (C := RX3) (T := TX3) (N := 9) tyX3 tyX3_ok nmX3 rfl (by decide) hin_X3 (by decide) hsz_X3 hkt_X3_7 rfl bw_78 dX4_trial_42, ?_⟩
  refine List.forall_mem_cons.mpr ⟨ok_goto (pc := 45) (tgt := 63) dX4_trial_45 (by decide), ?_⟩
  refine List.forall_mem_cons.mpr ⟨ok_aload_n (pc := 48) dX4_trial_48 rfl, ?_⟩
  refine List.forall_mem_cons.mpr ⟨ok_getf (pc := 49) (k := 3) (C := RX4) (T := TX4) (N := 12) rfl (by decide) hin_X4 (by decide) hsz_X4 bw_42 dX4_trial_49, ?_⟩
  refine List.forall_mem_cons.mpr ⟨ok_dup (pc := 52) dX4_trial_52, ?_⟩
  refine List.forall_mem_cons.mpr ⟨ok_getf (pc := 53) (k := 8) (C := RX3) (T := TX3) (N := 9) rfl (by decide) hin_X3 (by decide) hsz_X3 bw_79 dX4_trial_53, ?_⟩
  refine List.forall_mem_cons.mpr ⟨ok_iconst (pc := 56) dX4_trial_56 (by decide), ?_⟩
  refine List.forall_mem_cons.mpr ⟨ok_iload_n (pc := 57) dX4_trial_57 rfl, ?_⟩
  refine List.forall_mem_cons.mpr ⟨ok_ishl (pc := 58) dX4_trial_58, ?_⟩
  refine List.forall_mem_cons.mpr ⟨ok_ior (pc := 59) dX4_trial_59, ?_⟩
  refine List.forall_mem_cons.mpr ⟨ok_putf (pc := 60) (k := 8) (C := RX3) (T := TX3) (N := 9) tyX3 tyX3_ok nmX3 rfl (by decide) hin_X3 (by decide) hsz_X3 hkt_X3_8 rfl bw_79 dX4_trial_60, ?_⟩
  refine List.forall_mem_cons.mpr ⟨ok_aload_n (pc := 63) dX4_trial_63 rfl, ?_⟩
  refine List.forall_mem_cons.mpr ⟨ok_getf (pc := 64) (k := 3) (C := RX4) (T := TX4) (N := 12) rfl (by decide) hin_X4 (by decide) hsz_X4 bw_42 dX4_trial_64, ?_⟩
  refine List.forall_mem_cons.mpr ⟨ok_dup (pc := 67) dX4_trial_67, ?_⟩
  refine List.forall_mem_cons.mpr ⟨ok_getf (pc := 68) (k := 6) (C := RX3) (T := TX3) (N := 9) rfl (by decide) hin_X3 (by decide) hsz_X3 bw_77 dX4_trial_68, ?_⟩
  refine List.forall_mem_cons.mpr ⟨ok_iconst (pc := 71) dX4_trial_71 (by decide), ?_⟩
  refine List.forall_mem_cons.mpr ⟨ok_iadd (pc := 72) dX4_trial_72, ?_⟩
  refine List.forall_mem_cons.mpr ⟨ok_putf (pc := 73) (k := 6) (C := RX3) (T := TX3) (N := 9) tyX3 tyX3_ok nmX3 rfl (by decide) hin_X3 (by decide) hsz_X3 hkt_X3_6 rfl bw_77 dX4_trial_73, ?_⟩
  refine List.forall_mem_cons.mpr ⟨ok_aload_n (pc := 76) dX4_trial_76 rfl, ?_⟩
  refine List.forall_mem_cons.mpr ⟨ok_getf (pc := 77) (k := 3) (C := RX4) (T := TX4) (N := 12) rfl (by decide) hin_X4 (by decide) hsz_X4 bw_42 dX4_trial_77, ?_⟩
  refine List.forall_mem_cons.mpr ⟨ok_getf (pc := 80) (k := 6) (C := RX3) (T := TX3) (N := 9) rfl (by decide) hin_X3 (by decide) hsz_X3 bw_77 dX4_trial_80, ?_⟩
  refine List.forall_mem_cons.mpr ⟨ok_iret (pc := 83) dX4_trial_83, ?_⟩
  exact fun _ h => absurd h List.not_mem_nil
abbrev k_X4_forget : List (Nat × mm_T) := [(0, o_ald 0 1), (1, o_getf 4 3 4), (4, o_getf 3 6 7), (7, o_ist 1 8), (8, o_ald 0 9), (9, o_getf 4 3 12), (12, o_callV 3 m_X3_dropTrials 1 0 15), (15, o_ild 1 16), (16, o_iret)]
def m_X4_forget : Nat → mm_T := mm_look k_X4_forget
set_option maxRecDepth 20000 in
theorem sp_X4_forget : mm_Sp yX4_forget cX4_forget 2 (some .int) { frames := 1, cells := 0, slots := 0, locals := 20 } m_X4_forget := by
  refine mm_sound (own := RX4) (code := k_X4_forget) (by decide) rfl ?_
  refine List.forall_mem_cons.mpr ⟨ok_aload_n (pc := 0) dX4_forget_0 rfl, ?_⟩
  refine List.forall_mem_cons.mpr ⟨ok_getf (pc := 1) (k := 3) (C := RX4) (T := TX4) (N := 12) rfl (by decide) hin_X4 (by decide) hsz_X4 bw_42 dX4_forget_1, ?_⟩
  refine List.forall_mem_cons.mpr ⟨ok_getf (pc := 4) (k := 6) (C := RX3) (T := TX3) (N := 9) rfl (by decide) hin_X3 (by decide) hsz_X3 bw_77 dX4_forget_4, ?_⟩
  refine List.forall_mem_cons.mpr ⟨ok_istore_n (pc := 7) dX4_forget_7 rfl, ?_⟩
  refine List.forall_mem_cons.mpr ⟨ok_aload_n (pc := 8) dX4_forget_8 rfl, ?_⟩
  refine List.forall_mem_cons.mpr ⟨ok_getf (pc := 9) (k := 3) (C := RX4) (T := TX4) (N := 12) rfl (by decide) hin_X4 (by decide) hsz_X4 bw_42 dX4_forget_9, ?_⟩
  refine List.forall_mem_cons.mpr ⟨ok_callV (pc := 12) sp_X3_dropTrials (ci := 3) (C := RX3) rfl (by decide) ⟨bw_80, bm_X3_dropTrials⟩ (by decide) ⟨rfl, rfl, Nat.le_of_ble_eq_true rfl, Nat.le_of_ble_eq_true rfl⟩ dX4_forget_12, ?_⟩
  refine List.forall_mem_cons.mpr ⟨ok_iload_n (pc := 15) dX4_forget_15 rfl, ?_⟩
  refine List.forall_mem_cons.mpr ⟨ok_iret (pc := 16) dX4_forget_16, ?_⟩
  exact fun _ h => absurd h List.not_mem_nil
abbrev k_X4_suspects : List (Nat × mm_T) := [(0, o_ic 0 1), (1, o_ist 1 2), (2, o_ic 0 3), (3, o_ist 2 4), (4, o_ild 2 5), (5, o_ald 0 6), (6, o_getf 4 3 9), (9, o_getf 3 0 12), (12, o_ic_ge 78 15), (15, o_ald 0 16), (16, o_getf 4 8 19), (19, o_ild 2 20), (20, o_ald 0 21), (21, o_getf 4 6 24), (24, o_ald 0 25), (25, o_getf 4 2 28), (28, o_ald 0 29), (29, o_getf 4 3 32), (32, o_ild 2 33), (33, o_callV 1 m_X1_spread 6 3 36), (36, o_iast 37), (37, o_ald 0 38), (38, o_getf 4 3 41), (41, o_getf 3 1 44), (44, o_ild 2 45), (45, o_iald 46), (46, o_ic 3 47), (47, o_ic_eq 72 50), (50, o_ald 0 51), (51, o_getf 4 3 54), (54, o_ald 0 55), (55, o_getf 4 8 58), (58, o_ild 2 59), (59, o_iald 60), (60, o_callV 3 m_X3_agrees 2 1 63), (63, o_if_eq 72 66), (66, o_ild 1 67), (67, o_ic 1 68), (68, o_ild 2 69), (69, o_ishl 70), (70, o_ior 71), (71, o_ist 1 72), (72, o_iinc 2 1 75), (75, o_goto 4), (78, o_ild 1 79), (79, o_iret)]
def m_X4_suspects : Nat → mm_T := mm_look k_X4_suspects
set_option maxRecDepth 20000 in
theorem sp_X4_suspects : mm_Sp yX4_suspects cX4_suspects 3 (some .int) { frames := 4, cells := 0, slots := 0, locals := 96 } m_X4_suspects := by
  refine mm_sound (own := RX4) (code := k_X4_suspects) (by decide) rfl ?_
  refine List.forall_mem_cons.mpr ⟨ok_iconst (pc := 0) dX4_suspects_0 (by decide), ?_⟩
  refine List.forall_mem_cons.mpr ⟨ok_istore_n (pc := 1) dX4_suspects_1 rfl, ?_⟩
  refine List.forall_mem_cons.mpr ⟨ok_iconst (pc := 2) dX4_suspects_2 (by decide), ?_⟩
  refine List.forall_mem_cons.mpr ⟨ok_istore_n (pc := 3) dX4_suspects_3 rfl, ?_⟩
  refine List.forall_mem_cons.mpr ⟨ok_iload_n (pc := 4) dX4_suspects_4 rfl, ?_⟩
  refine List.forall_mem_cons.mpr ⟨ok_aload_n (pc := 5) dX4_suspects_5 rfl, ?_⟩
  refine List.forall_mem_cons.mpr ⟨ok_getf (pc := 6) (k := 3) (C := RX4) (T := TX4) (N := 12) rfl (by decide) hin_X4 (by decide) hsz_X4 bw_42 dX4_suspects_6, ?_⟩
  refine List.forall_mem_cons.mpr ⟨ok_getf (pc := 9) (k := 0) (C := RX3) (T := TX3) (N := 9) rfl (by decide) hin_X3 (by decide) hsz_X3 bw_57 dX4_suspects_9, ?_⟩
  refine List.forall_mem_cons.mpr ⟨ok_icmp_ge (pc := 12) (tgt := 78) dX4_suspects_12 (by decide), ?_⟩
  refine List.forall_mem_cons.mpr ⟨ok_aload_n (pc := 15) dX4_suspects_15 rfl, ?_⟩
  refine List.forall_mem_cons.mpr ⟨ok_getf (pc := 16) (k := 8) (C := RX4) (T := TX4) (N := 12) rfl (by decide) hin_X4 (by decide) hsz_X4 bw_81 dX4_suspects_16, ?_⟩
  refine List.forall_mem_cons.mpr ⟨ok_iload_n (pc := 19) dX4_suspects_19 rfl, ?_⟩
  refine List.forall_mem_cons.mpr ⟨ok_aload_n (pc := 20) dX4_suspects_20 rfl, ?_⟩
  refine List.forall_mem_cons.mpr ⟨ok_getf (pc := 21) (k := 6) (C := RX4) (T := TX4) (N := 12) rfl (by decide) hin_X4 (by decide) hsz_X4 bw_63 dX4_suspects_21, ?_⟩
  refine List.forall_mem_cons.mpr ⟨ok_aload_n (pc := 24) dX4_suspects_24 rfl, ?_⟩
  refine List.forall_mem_cons.mpr ⟨ok_getf (pc := 25) (k := 2) (C := RX4) (T := TX4) (N := 12) rfl (by decide) hin_X4 (by decide) hsz_X4 bw_40 dX4_suspects_25, ?_⟩
  refine List.forall_mem_cons.mpr ⟨ok_aload_n (pc := 28) dX4_suspects_28 rfl, ?_⟩
  refine List.forall_mem_cons.mpr ⟨ok_getf (pc := 29) (k := 3) (C := RX4) (T := TX4) (N := 12) rfl (by decide) hin_X4 (by decide) hsz_X4 bw_42 dX4_suspects_29, ?_⟩
  refine List.forall_mem_cons.mpr ⟨ok_iload_n (pc := 32) dX4_suspects_32 rfl, ?_⟩
  refine List.forall_mem_cons.mpr ⟨ok_callV (pc := 33) sp_X1_spread (ci := 1) (C := RX1) rfl (by decide) ⟨bw_64, bm_X1_spread⟩ (by decide) ⟨rfl, rfl, Nat.le_of_ble_eq_true rfl, Nat.le_of_ble_eq_true rfl⟩ dX4_suspects_33, ?_⟩
  refine List.forall_mem_cons.mpr ⟨ok_iast (pc := 36) dX4_suspects_36, ?_⟩
  refine List.forall_mem_cons.mpr ⟨ok_aload_n (pc := 37) dX4_suspects_37 rfl, ?_⟩
  refine List.forall_mem_cons.mpr ⟨ok_getf (pc := 38) (k := 3) (C := RX4) (T := TX4) (N := 12) rfl (by decide) hin_X4 (by decide) hsz_X4 bw_42 dX4_suspects_38, ?_⟩
  refine List.forall_mem_cons.mpr ⟨ok_getf (pc := 41) (k := 1) (C := RX3) (T := TX3) (N := 9) rfl (by decide) hin_X3 (by decide) hsz_X3 bw_60 dX4_suspects_41, ?_⟩
  refine List.forall_mem_cons.mpr ⟨ok_iload_n (pc := 44) dX4_suspects_44 rfl, ?_⟩
  refine List.forall_mem_cons.mpr ⟨ok_iald (pc := 45) dX4_suspects_45, ?_⟩
  refine List.forall_mem_cons.mpr ⟨ok_iconst (pc := 46) dX4_suspects_46 (by decide), ?_⟩
  refine List.forall_mem_cons.mpr ⟨ok_icmp_eq (pc := 47) (tgt := 72) dX4_suspects_47 (by decide), ?_⟩
  refine List.forall_mem_cons.mpr ⟨ok_aload_n (pc := 50) dX4_suspects_50 rfl, ?_⟩
  refine List.forall_mem_cons.mpr ⟨ok_getf (pc := 51) (k := 3) (C := RX4) (T := TX4) (N := 12) rfl (by decide) hin_X4 (by decide) hsz_X4 bw_42 dX4_suspects_51, ?_⟩
  refine List.forall_mem_cons.mpr ⟨ok_aload_n (pc := 54) dX4_suspects_54 rfl, ?_⟩
  refine List.forall_mem_cons.mpr ⟨ok_getf (pc := 55) (k := 8) (C := RX4) (T := TX4) (N := 12) rfl (by decide) hin_X4 (by decide) hsz_X4 bw_81 dX4_suspects_55, ?_⟩
  refine List.forall_mem_cons.mpr ⟨ok_iload_n (pc := 58) dX4_suspects_58 rfl, ?_⟩
  refine List.forall_mem_cons.mpr ⟨ok_iald (pc := 59) dX4_suspects_59, ?_⟩
  refine List.forall_mem_cons.mpr ⟨ok_callV (pc := 60) sp_X3_agrees (ci := 3) (C := RX3) rfl (by decide) ⟨bw_82, bm_X3_agrees⟩ (by decide) ⟨rfl, rfl, Nat.le_of_ble_eq_true rfl, Nat.le_of_ble_eq_true rfl⟩ dX4_suspects_60, ?_⟩
  refine List.forall_mem_cons.mpr ⟨ok_if_eq (pc := 63) (tgt := 72) dX4_suspects_63 (by decide), ?_⟩
  refine List.forall_mem_cons.mpr ⟨ok_iload_n (pc := 66) dX4_suspects_66 rfl, ?_⟩
  refine List.forall_mem_cons.mpr ⟨ok_iconst (pc := 67) dX4_suspects_67 (by decide), ?_⟩
  refine List.forall_mem_cons.mpr ⟨ok_iload_n (pc := 68) dX4_suspects_68 rfl, ?_⟩
  refine List.forall_mem_cons.mpr ⟨ok_ishl (pc := 69) dX4_suspects_69, ?_⟩
  refine List.forall_mem_cons.mpr ⟨ok_ior (pc := 70) dX4_suspects_70, ?_⟩
  refine List.forall_mem_cons.mpr ⟨ok_istore_n (pc := 71) dX4_suspects_71 rfl, ?_⟩
  refine List.forall_mem_cons.mpr ⟨ok_iinc (pc := 72) dX4_suspects_72 (by decide), ?_⟩
  refine List.forall_mem_cons.mpr ⟨ok_goto (pc := 75) (tgt := 4) dX4_suspects_75 (by decide), ?_⟩
  refine List.forall_mem_cons.mpr ⟨ok_iload_n (pc := 78) dX4_suspects_78 rfl, ?_⟩
  refine List.forall_mem_cons.mpr ⟨ok_iret (pc := 79) dX4_suspects_79, ?_⟩
  exact fun _ h => absurd h List.not_mem_nil
abbrev k_X4_who : List (Nat × mm_T) := [(0, o_ald 0 1), (1, o_callV 4 m_X4_hasDome 1 0 4), (4, o_if_eq 14 7), (7, o_ald 0 8), (8, o_callV 4 m_X4_suspects 3 0 11), (11, o_goto 16), (14, o_ic (-103) 16), (16, o_iret)]
def m_X4_who : Nat → mm_T := mm_look k_X4_who
set_option maxRecDepth 20000 in
theorem sp_X4_who : mm_Sp yX4_who cX4_who 1 (some .int) { frames := 5, cells := 0, slots := 0, locals := 118 } m_X4_who := by
  refine mm_sound (own := RX4) (code := k_X4_who) (by decide) rfl ?_
  refine List.forall_mem_cons.mpr ⟨ok_aload_n (pc := 0) dX4_who_0 rfl, ?_⟩
  refine List.forall_mem_cons.mpr ⟨ok_callV (pc := 1) sp_X4_hasDome (ci := 4) (C := RX4) rfl (by decide) ⟨bw_47, bm_X4_hasDome⟩ (by decide) ⟨rfl, rfl, Nat.le_of_ble_eq_true rfl, Nat.le_of_ble_eq_true rfl⟩ dX4_who_1, ?_⟩
  refine List.forall_mem_cons.mpr ⟨ok_if_eq (pc := 4) (tgt := 14) dX4_who_4 (by decide), ?_⟩
  refine List.forall_mem_cons.mpr ⟨ok_aload_n (pc := 7) dX4_who_7 rfl, ?_⟩
  refine List.forall_mem_cons.mpr ⟨ok_callV (pc := 8) sp_X4_suspects (ci := 4) (C := RX4) rfl (by decide) ⟨bw_83, bm_X4_suspects⟩ (by decide) ⟨rfl, rfl, Nat.le_of_ble_eq_true rfl, Nat.le_of_ble_eq_true rfl⟩ dX4_who_8, ?_⟩
  refine List.forall_mem_cons.mpr ⟨ok_goto (pc := 11) (tgt := 16) dX4_who_11 (by decide), ?_⟩
  refine List.forall_mem_cons.mpr ⟨ok_bipush (pc := 14) dX4_who_14 (by decide), ?_⟩
  refine List.forall_mem_cons.mpr ⟨ok_iret (pc := 16) dX4_who_16, ?_⟩
  exact fun _ h => absurd h List.not_mem_nil
abbrev k_X4_leftAtWorst : List (Nat × mm_T) := [(0, o_ic 0 1), (1, o_ist 3 2), (2, o_ic 0 3), (3, o_ist 4 5), (5, o_ild 4 7), (7, o_ald 0 8), (8, o_getf 4 3 11), (11, o_getf 3 0 14), (14, o_ic_ge 49 17), (17, o_ild 1 18), (18, o_ild 4 20), (20, o_callS m_X4_hasBit 2 2 23), (23, o_if_eq 43 26), (26, o_ald 0 27), (27, o_getf 4 8 30), (30, o_ild 4 32), (32, o_iald 33), (33, o_ild 2 34), (34, o_callS m_X4_hasBit 2 2 37), (37, o_if_eq 43 40), (40, o_iinc 3 1 43), (43, o_iinc 4 1 46), (46, o_goto 5), (49, o_ild 3 50), (50, o_ild 1 51), (51, o_callS m_J6_bitCount_0f7a4 1 1 54), (54, o_ild 3 55), (55, o_isub 56), (56, o_mmax 59), (59, o_iret)]
def m_X4_leftAtWorst : Nat → mm_T := mm_look k_X4_leftAtWorst
set_option maxRecDepth 20000 in
theorem sp_X4_leftAtWorst : mm_Sp yX4_leftAtWorst cX4_leftAtWorst 5 (some .int) { frames := 1, cells := 0, slots := 0, locals := 21 } m_X4_leftAtWorst := by
  refine mm_sound (own := RX4) (code := k_X4_leftAtWorst) (by decide) rfl ?_
  refine List.forall_mem_cons.mpr ⟨ok_iconst (pc := 0) dX4_leftAtWorst_0 (by decide), ?_⟩
  refine List.forall_mem_cons.mpr ⟨ok_istore_n (pc := 1) dX4_leftAtWorst_1 rfl, ?_⟩
  refine List.forall_mem_cons.mpr ⟨ok_iconst (pc := 2) dX4_leftAtWorst_2 (by decide), ?_⟩
  refine List.forall_mem_cons.mpr ⟨ok_istore (pc := 3) dX4_leftAtWorst_3, ?_⟩
  refine List.forall_mem_cons.mpr ⟨ok_iload (pc := 5) dX4_leftAtWorst_5, ?_⟩
  refine List.forall_mem_cons.mpr ⟨ok_aload_n (pc := 7) dX4_leftAtWorst_7 rfl, ?_⟩
  refine List.forall_mem_cons.mpr ⟨ok_getf (pc := 8) (k := 3) (C := RX4) (T := TX4) (N := 12) rfl (by decide) hin_X4 (by decide) hsz_X4 bw_42 dX4_leftAtWorst_8, ?_⟩
  refine List.forall_mem_cons.mpr ⟨ok_getf (pc := 11) (k := 0) (C := RX3) (T := TX3) (N := 9) rfl (by decide) hin_X3 (by decide) hsz_X3 bw_57 dX4_leftAtWorst_11, ?_⟩
  refine List.forall_mem_cons.mpr ⟨ok_icmp_ge (pc := 14) (tgt := 49) dX4_leftAtWorst_14 (by decide), ?_⟩
  refine List.forall_mem_cons.mpr ⟨ok_iload_n (pc := 17) dX4_leftAtWorst_17 rfl, ?_⟩
  refine List.forall_mem_cons.mpr ⟨ok_iload (pc := 18) dX4_leftAtWorst_18, ?_⟩
  refine List.forall_mem_cons.mpr ⟨ok_callS (pc := 20) sp_X4_hasBit ⟨bw_52, bs_X4_hasBit⟩ (by decide) ⟨rfl, rfl, Nat.le_of_ble_eq_true rfl, Nat.le_of_ble_eq_true rfl⟩ dX4_leftAtWorst_20, ?_⟩
  refine List.forall_mem_cons.mpr ⟨ok_if_eq (pc := 23) (tgt := 43) dX4_leftAtWorst_23 (by decide), ?_⟩
  refine List.forall_mem_cons.mpr ⟨ok_aload_n (pc := 26) dX4_leftAtWorst_26 rfl, ?_⟩
  refine List.forall_mem_cons.mpr ⟨ok_getf (pc := 27) (k := 8) (C := RX4) (T := TX4) (N := 12) rfl (by decide) hin_X4 (by decide) hsz_X4 bw_81 dX4_leftAtWorst_27, ?_⟩
  refine List.forall_mem_cons.mpr ⟨ok_iload (pc := 30) dX4_leftAtWorst_30, ?_⟩
  refine List.forall_mem_cons.mpr ⟨ok_iald (pc := 32) dX4_leftAtWorst_32, ?_⟩
  refine List.forall_mem_cons.mpr ⟨ok_iload_n (pc := 33) dX4_leftAtWorst_33 rfl, ?_⟩
  refine List.forall_mem_cons.mpr ⟨ok_callS (pc := 34) sp_X4_hasBit ⟨bw_52, bs_X4_hasBit⟩ (by decide) ⟨rfl, rfl, Nat.le_of_ble_eq_true rfl, Nat.le_of_ble_eq_true rfl⟩ dX4_leftAtWorst_34, ?_⟩
  refine List.forall_mem_cons.mpr ⟨ok_if_eq (pc := 37) (tgt := 43) dX4_leftAtWorst_37 (by decide), ?_⟩
  refine List.forall_mem_cons.mpr ⟨ok_iinc (pc := 40) dX4_leftAtWorst_40 (by decide), ?_⟩
  refine List.forall_mem_cons.mpr ⟨ok_iinc (pc := 43) dX4_leftAtWorst_43 (by decide), ?_⟩
  refine List.forall_mem_cons.mpr ⟨ok_goto (pc := 46) (tgt := 5) dX4_leftAtWorst_46 (by decide), ?_⟩
  refine List.forall_mem_cons.mpr ⟨ok_iload_n (pc := 49) dX4_leftAtWorst_49 rfl, ?_⟩
  refine List.forall_mem_cons.mpr ⟨ok_iload_n (pc := 50) dX4_leftAtWorst_50 rfl, ?_⟩
  refine List.forall_mem_cons.mpr ⟨ok_callS (pc := 51) sp_J6_bitCount_0f7a4 ⟨bw_72, bs_J6_bitCount_0f7a4⟩ (by decide) ⟨rfl, rfl, Nat.le_of_ble_eq_true rfl, Nat.le_of_ble_eq_true rfl⟩ dX4_leftAtWorst_51, ?_⟩
  refine List.forall_mem_cons.mpr ⟨ok_iload_n (pc := 54) dX4_leftAtWorst_54 rfl, ?_⟩
  refine List.forall_mem_cons.mpr ⟨ok_isub (pc := 55) dX4_leftAtWorst_55, ?_⟩
  refine List.forall_mem_cons.mpr ⟨ok_mmax (pc := 56) bw_84 bs_J9_max_7cf53 ⟨Nat.le_of_ble_eq_true rfl, Nat.le_of_ble_eq_true rfl⟩ dX4_leftAtWorst_56, ?_⟩
  refine List.forall_mem_cons.mpr ⟨ok_iret (pc := 59) dX4_leftAtWorst_59, ?_⟩
  exact fun _ h => absurd h List.not_mem_nil
abbrev k_X4_bestToAsk : List (Nat × mm_T) := [(0, o_ic (-1) 1), (1, o_ist 2 2), (2, o_ic 7 4), (4, o_ist 3 5), (5, o_ic 0 6), (6, o_ist 4 8), (8, o_ild 1 9), (9, o_if_eq 51 12), (12, o_ild 4 14), (14, o_ald 0 15), (15, o_getf 4 3 18), (18, o_getf 3 0 21), (21, o_ic_ge 51 24), (24, o_ald 0 25), (25, o_ild 1 26), (26, o_ild 4 28), (28, o_callV 4 m_X4_leftAtWorst 5 2 31), (31, o_ist 5 33), (33, o_ild 5 35), (35, o_ild 3 36), (36, o_ic_ge 45 39), (39, o_ild 4 41), (41, o_ist 2 42), (42, o_ild 5 44), (44, o_ist 3 45), (45, o_iinc 4 1 48), (48, o_goto 8), (51, o_ild 2 52), (52, o_iret)]
def m_X4_bestToAsk : Nat → mm_T := mm_look k_X4_bestToAsk
set_option maxRecDepth 20000 in
theorem sp_X4_bestToAsk : mm_Sp yX4_bestToAsk cX4_bestToAsk 6 (some .int) { frames := 2, cells := 0, slots := 0, locals := 45 } m_X4_bestToAsk := by
  refine mm_sound (own := RX4) (code := k_X4_bestToAsk) (by decide) rfl ?_
  refine List.forall_mem_cons.mpr ⟨ok_iconst (pc := 0) dX4_bestToAsk_0 (by decide), ?_⟩
  refine List.forall_mem_cons.mpr ⟨ok_istore_n (pc := 1) dX4_bestToAsk_1 rfl, ?_⟩
  refine List.forall_mem_cons.mpr ⟨ok_bipush (pc := 2) dX4_bestToAsk_2 (by decide), ?_⟩
  refine List.forall_mem_cons.mpr ⟨ok_istore_n (pc := 4) dX4_bestToAsk_4 rfl, ?_⟩
  refine List.forall_mem_cons.mpr ⟨ok_iconst (pc := 5) dX4_bestToAsk_5 (by decide), ?_⟩
  refine List.forall_mem_cons.mpr ⟨ok_istore (pc := 6) dX4_bestToAsk_6, ?_⟩
  refine List.forall_mem_cons.mpr ⟨ok_iload_n (pc := 8) dX4_bestToAsk_8 rfl, ?_⟩
  refine List.forall_mem_cons.mpr ⟨ok_if_eq (pc := 9) (tgt := 51) dX4_bestToAsk_9 (by decide), ?_⟩
  refine List.forall_mem_cons.mpr ⟨ok_iload (pc := 12) dX4_bestToAsk_12, ?_⟩
  refine List.forall_mem_cons.mpr ⟨ok_aload_n (pc := 14) dX4_bestToAsk_14 rfl, ?_⟩
  refine List.forall_mem_cons.mpr ⟨ok_getf (pc := 15) (k := 3) (C := RX4) (T := TX4) (N := 12) rfl (by decide) hin_X4 (by decide) hsz_X4 bw_42 dX4_bestToAsk_15, ?_⟩
  refine List.forall_mem_cons.mpr ⟨ok_getf (pc := 18) (k := 0) (C := RX3) (T := TX3) (N := 9) rfl (by decide) hin_X3 (by decide) hsz_X3 bw_57 dX4_bestToAsk_18, ?_⟩
  refine List.forall_mem_cons.mpr ⟨ok_icmp_ge (pc := 21) (tgt := 51) dX4_bestToAsk_21 (by decide), ?_⟩
  refine List.forall_mem_cons.mpr ⟨ok_aload_n (pc := 24) dX4_bestToAsk_24 rfl, ?_⟩
  refine List.forall_mem_cons.mpr ⟨ok_iload_n (pc := 25) dX4_bestToAsk_25 rfl, ?_⟩
  refine List.forall_mem_cons.mpr ⟨ok_iload (pc := 26) dX4_bestToAsk_26, ?_⟩
  refine List.forall_mem_cons.mpr ⟨ok_callV (pc := 28) sp_X4_leftAtWorst (ci := 4) (C := RX4) rfl (by decide) ⟨bw_85, bm_X4_leftAtWorst⟩ (by decide) ⟨rfl, rfl, Nat.le_of_ble_eq_true rfl, Nat.le_of_ble_eq_true rfl⟩ dX4_bestToAsk_28, ?_⟩
  refine List.forall_mem_cons.mpr ⟨ok_istore (pc := 31) dX4_bestToAsk_31, ?_⟩
  refine List.forall_mem_cons.mpr ⟨ok_iload (pc := 33) dX4_bestToAsk_33, ?_⟩
  refine List.forall_mem_cons.mpr ⟨ok_iload_n (pc := 35) dX4_bestToAsk_35 rfl, ?_⟩
  refine List.forall_mem_cons.mpr ⟨ok_icmp_ge (pc := 36) (tgt := 45) dX4_bestToAsk_36 (by decide), ?_⟩
  refine List.forall_mem_cons.mpr ⟨ok_iload (pc := 39) dX4_bestToAsk_39, ?_⟩
  refine List.forall_mem_cons.mpr ⟨ok_istore_n (pc := 41) dX4_bestToAsk_41 rfl, ?_⟩
  refine List.forall_mem_cons.mpr ⟨ok_iload (pc := 42) dX4_bestToAsk_42, ?_⟩
  refine List.forall_mem_cons.mpr ⟨ok_istore_n (pc := 44) dX4_bestToAsk_44 rfl, ?_⟩
  refine List.forall_mem_cons.mpr ⟨ok_iinc (pc := 45) dX4_bestToAsk_45 (by decide), ?_⟩
  refine List.forall_mem_cons.mpr ⟨ok_goto (pc := 48) (tgt := 8) dX4_bestToAsk_48 (by decide), ?_⟩
  refine List.forall_mem_cons.mpr ⟨ok_iload_n (pc := 51) dX4_bestToAsk_51 rfl, ?_⟩
  refine List.forall_mem_cons.mpr ⟨ok_iret (pc := 52) dX4_bestToAsk_52, ?_⟩
  exact fun _ h => absurd h List.not_mem_nil
abbrev k_X4_ask : List (Nat × mm_T) := [(0, o_ald 0 1), (1, o_callV 4 m_X4_hasDome 1 0 4), (4, o_if_eq 18 7), (7, o_ald 0 8), (8, o_ald 0 9), (9, o_callV 4 m_X4_suspects 3 0 12), (12, o_callV 4 m_X4_bestToAsk 6 1 15), (15, o_goto 20), (18, o_ic (-103) 20), (20, o_iret)]
def m_X4_ask : Nat → mm_T := mm_look k_X4_ask
set_option maxRecDepth 20000 in
theorem sp_X4_ask : mm_Sp yX4_ask cX4_ask 1 (some .int) { frames := 5, cells := 0, slots := 0, locals := 118 } m_X4_ask := by
  refine mm_sound (own := RX4) (code := k_X4_ask) (by decide) rfl ?_
  refine List.forall_mem_cons.mpr ⟨ok_aload_n (pc := 0) dX4_ask_0 rfl, ?_⟩
  refine List.forall_mem_cons.mpr ⟨ok_callV (pc := 1) sp_X4_hasDome (ci := 4) (C := RX4) rfl (by decide) ⟨bw_47, bm_X4_hasDome⟩ (by decide) ⟨rfl, rfl, Nat.le_of_ble_eq_true rfl, Nat.le_of_ble_eq_true rfl⟩ dX4_ask_1, ?_⟩
  refine List.forall_mem_cons.mpr ⟨ok_if_eq (pc := 4) (tgt := 18) dX4_ask_4 (by decide), ?_⟩
  refine List.forall_mem_cons.mpr ⟨ok_aload_n (pc := 7) dX4_ask_7 rfl, ?_⟩
  refine List.forall_mem_cons.mpr ⟨ok_aload_n (pc := 8) dX4_ask_8 rfl, ?_⟩
  refine List.forall_mem_cons.mpr ⟨ok_callV (pc := 9) sp_X4_suspects (ci := 4) (C := RX4) rfl (by decide) ⟨bw_83, bm_X4_suspects⟩ (by decide) ⟨rfl, rfl, Nat.le_of_ble_eq_true rfl, Nat.le_of_ble_eq_true rfl⟩ dX4_ask_9, ?_⟩
  refine List.forall_mem_cons.mpr ⟨ok_callV (pc := 12) sp_X4_bestToAsk (ci := 4) (C := RX4) rfl (by decide) ⟨bw_86, bm_X4_bestToAsk⟩ (by decide) ⟨rfl, rfl, Nat.le_of_ble_eq_true rfl, Nat.le_of_ble_eq_true rfl⟩ dX4_ask_12, ?_⟩
  refine List.forall_mem_cons.mpr ⟨ok_goto (pc := 15) (tgt := 20) dX4_ask_15 (by decide), ?_⟩
  refine List.forall_mem_cons.mpr ⟨ok_bipush (pc := 18) dX4_ask_18 (by decide), ?_⟩
  refine List.forall_mem_cons.mpr ⟨ok_iret (pc := 20) dX4_ask_20, ?_⟩
  exact fun _ h => absurd h List.not_mem_nil
abbrev k_X4_dreamDay : List (Nat × mm_T) := [(0, o_ald 0 1), (1, o_getf 4 7 4), (4, o_ald 0 5), (5, o_getf 4 5 8), (8, o_getf 3 0 11), (11, o_callV 0 m_X0_next 2 1 14), (14, o_ist 1 15), (15, o_ald 0 16), (16, o_getf 4 5 19), (19, o_getf 3 2 22), (22, o_ild 1 23), (23, o_ald 0 24), (24, o_getf 4 7 27), (27, o_ic 8 29), (29, o_callV 0 m_X0_next 2 1 32), (32, o_iast 33), (33, o_ald 0 34), (34, o_getf 4 7 37), (37, o_ald 0 38), (38, o_getf 4 5 41), (41, o_getf 3 0 44), (44, o_callV 0 m_X0_next 2 1 47), (47, o_ist 2 48), (48, o_ald 0 49), (49, o_getf 4 7 52), (52, o_ic 10 54), (54, o_callV 0 m_X0_next 2 1 57), (57, o_ist 3 58), (58, o_ald 0 59), (59, o_getf 4 5 62), (62, o_getf 3 1 65), (65, o_ild 2 66), (66, o_iald 67), (67, o_ic 3 68), (68, o_ic_ne 75 71), (71, o_ic 0 72), (72, o_goto 85), (75, o_ald 0 76), (76, o_ald 0 77), (77, o_getf 4 5 80), (80, o_ild 2 81), (81, o_ild 3 82), (82, o_callV 4 m_X4_tell 4 3 85), (85, o_iret)]
def m_X4_dreamDay : Nat → mm_T := mm_look k_X4_dreamDay
set_option maxRecDepth 20000 in
theorem sp_X4_dreamDay : mm_Sp yX4_dreamDay cX4_dreamDay 4 (some .int) { frames := 5, cells := 0, slots := 0, locals := 119 } m_X4_dreamDay := by
  refine mm_sound (own := RX4) (code := k_X4_dreamDay) (by decide) rfl ?_
  refine List.forall_mem_cons.mpr ⟨ok_aload_n (pc := 0) dX4_dreamDay_0 rfl, ?_⟩
  refine List.forall_mem_cons.mpr ⟨ok_getf (pc := 1) (k := 7) (C := RX4) (T := TX4) (N := 12) rfl (by decide) hin_X4 (by decide) hsz_X4 bw_87 dX4_dreamDay_1, ?_⟩
  refine List.forall_mem_cons.mpr ⟨ok_aload_n (pc := 4) dX4_dreamDay_4 rfl, ?_⟩
  refine List.forall_mem_cons.mpr ⟨ok_getf (pc := 5) (k := 5) (C := RX4) (T := TX4) (N := 12) rfl (by decide) hin_X4 (by decide) hsz_X4 bw_70 dX4_dreamDay_5, ?_⟩
  refine List.forall_mem_cons.mpr ⟨ok_getf (pc := 8) (k := 0) (C := RX3) (T := TX3) (N := 9) rfl (by decide) hin_X3 (by decide) hsz_X3 bw_57 dX4_dreamDay_8, ?_⟩
  refine List.forall_mem_cons.mpr ⟨ok_callV (pc := 11) sp_X0_next (ci := 0) (C := RX0) rfl (by decide) ⟨bw_88, bm_X0_next⟩ (by decide) ⟨rfl, rfl, Nat.le_of_ble_eq_true rfl, Nat.le_of_ble_eq_true rfl⟩ dX4_dreamDay_11, ?_⟩
  refine List.forall_mem_cons.mpr ⟨ok_istore_n (pc := 14) dX4_dreamDay_14 rfl, ?_⟩
  refine List.forall_mem_cons.mpr ⟨ok_aload_n (pc := 15) dX4_dreamDay_15 rfl, ?_⟩
  refine List.forall_mem_cons.mpr ⟨ok_getf (pc := 16) (k := 5) (C := RX4) (T := TX4) (N := 12) rfl (by decide) hin_X4 (by decide) hsz_X4 bw_70 dX4_dreamDay_16, ?_⟩
  refine List.forall_mem_cons.mpr ⟨ok_getf (pc := 19) (k := 2) (C := RX3) (T := TX3) (N := 9) rfl (by decide) hin_X3 (by decide) hsz_X3 bw_61 dX4_dreamDay_19, ?_⟩
  refine List.forall_mem_cons.mpr ⟨ok_iload_n (pc := 22) dX4_dreamDay_22 rfl, ?_⟩
  refine List.forall_mem_cons.mpr ⟨ok_aload_n (pc := 23) dX4_dreamDay_23 rfl, ?_⟩
  refine List.forall_mem_cons.mpr ⟨ok_getf (pc := 24) (k := 7) (C := RX4) (T := TX4) (N := 12) rfl (by decide) hin_X4 (by decide) hsz_X4 bw_87 dX4_dreamDay_24, ?_⟩
  refine List.forall_mem_cons.mpr ⟨ok_bipush (pc := 27) dX4_dreamDay_27 (by decide), ?_⟩
  refine List.forall_mem_cons.mpr ⟨ok_callV (pc := 29) sp_X0_next (ci := 0) (C := RX0) rfl (by decide) ⟨bw_88, bm_X0_next⟩ (by decide) ⟨rfl, rfl, Nat.le_of_ble_eq_true rfl, Nat.le_of_ble_eq_true rfl⟩ dX4_dreamDay_29, ?_⟩
  refine List.forall_mem_cons.mpr ⟨ok_iast (pc := 32) dX4_dreamDay_32, ?_⟩
  refine List.forall_mem_cons.mpr ⟨ok_aload_n (pc := 33) dX4_dreamDay_33 rfl, ?_⟩
  refine List.forall_mem_cons.mpr ⟨ok_getf (pc := 34) (k := 7) (C := RX4) (T := TX4) (N := 12) rfl (by decide) hin_X4 (by decide) hsz_X4 bw_87 dX4_dreamDay_34, ?_⟩
  refine List.forall_mem_cons.mpr ⟨ok_aload_n (pc := 37) dX4_dreamDay_37 rfl, ?_⟩
  refine List.forall_mem_cons.mpr ⟨ok_getf (pc := 38) (k := 5) (C := RX4) (T := TX4) (N := 12) rfl (by decide) hin_X4 (by decide) hsz_X4 bw_70 dX4_dreamDay_38, ?_⟩
  refine List.forall_mem_cons.mpr ⟨ok_getf (pc := 41) (k := 0) (C := RX3) (T := TX3) (N := 9) rfl (by decide) hin_X3 (by decide) hsz_X3 bw_57 dX4_dreamDay_41, ?_⟩
  refine List.forall_mem_cons.mpr ⟨ok_callV (pc := 44) sp_X0_next (ci := 0) (C := RX0) rfl (by decide) ⟨bw_88, bm_X0_next⟩ (by decide) ⟨rfl, rfl, Nat.le_of_ble_eq_true rfl, Nat.le_of_ble_eq_true rfl⟩ dX4_dreamDay_44, ?_⟩
  refine List.forall_mem_cons.mpr ⟨ok_istore_n (pc := 47) dX4_dreamDay_47 rfl, ?_⟩
  refine List.forall_mem_cons.mpr ⟨ok_aload_n (pc := 48) dX4_dreamDay_48 rfl, ?_⟩
  refine List.forall_mem_cons.mpr ⟨ok_getf (pc := 49) (k := 7) (C := RX4) (T := TX4) (N := 12) rfl (by decide) hin_X4 (by decide) hsz_X4 bw_87 dX4_dreamDay_49, ?_⟩
  refine List.forall_mem_cons.mpr ⟨ok_bipush (pc := 52) dX4_dreamDay_52 (by decide), ?_⟩
  refine List.forall_mem_cons.mpr ⟨ok_callV (pc := 54) sp_X0_next (ci := 0) (C := RX0) rfl (by decide) ⟨bw_88, bm_X0_next⟩ (by decide) ⟨rfl, rfl, Nat.le_of_ble_eq_true rfl, Nat.le_of_ble_eq_true rfl⟩ dX4_dreamDay_54, ?_⟩
  refine List.forall_mem_cons.mpr ⟨ok_istore_n (pc := 57) dX4_dreamDay_57 rfl, ?_⟩
  refine List.forall_mem_cons.mpr ⟨ok_aload_n (pc := 58) dX4_dreamDay_58 rfl, ?_⟩
  refine List.forall_mem_cons.mpr ⟨ok_getf (pc := 59) (k := 5) (C := RX4) (T := TX4) (N := 12) rfl (by decide) hin_X4 (by decide) hsz_X4 bw_70 dX4_dreamDay_59, ?_⟩
  refine List.forall_mem_cons.mpr ⟨ok_getf (pc := 62) (k := 1) (C := RX3) (T := TX3) (N := 9) rfl (by decide) hin_X3 (by decide) hsz_X3 bw_60 dX4_dreamDay_62, ?_⟩
  refine List.forall_mem_cons.mpr ⟨ok_iload_n (pc := 65) dX4_dreamDay_65 rfl, ?_⟩
  refine List.forall_mem_cons.mpr ⟨ok_iald (pc := 66) dX4_dreamDay_66, ?_⟩
  refine List.forall_mem_cons.mpr ⟨ok_iconst (pc := 67) dX4_dreamDay_67 (by decide), ?_⟩
  refine List.forall_mem_cons.mpr ⟨ok_icmp_ne (pc := 68) (tgt := 75) dX4_dreamDay_68 (by decide), ?_⟩
  refine List.forall_mem_cons.mpr ⟨ok_iconst (pc := 71) dX4_dreamDay_71 (by decide), ?_⟩
  refine List.forall_mem_cons.mpr ⟨ok_goto (pc := 72) (tgt := 85) dX4_dreamDay_72 (by decide), ?_⟩
  refine List.forall_mem_cons.mpr ⟨ok_aload_n (pc := 75) dX4_dreamDay_75 rfl, ?_⟩
  refine List.forall_mem_cons.mpr ⟨ok_aload_n (pc := 76) dX4_dreamDay_76 rfl, ?_⟩
  refine List.forall_mem_cons.mpr ⟨ok_getf (pc := 77) (k := 5) (C := RX4) (T := TX4) (N := 12) rfl (by decide) hin_X4 (by decide) hsz_X4 bw_70 dX4_dreamDay_77, ?_⟩
  refine List.forall_mem_cons.mpr ⟨ok_iload_n (pc := 80) dX4_dreamDay_80 rfl, ?_⟩
  refine List.forall_mem_cons.mpr ⟨ok_iload_n (pc := 81) dX4_dreamDay_81 rfl, ?_⟩
  refine List.forall_mem_cons.mpr ⟨ok_callV (pc := 82) sp_X4_tell (ci := 4) (C := RX4) rfl (by decide) ⟨bw_68, bm_X4_tell⟩ (by decide) ⟨rfl, rfl, Nat.le_of_ble_eq_true rfl, Nat.le_of_ble_eq_true rfl⟩ dX4_dreamDay_82, ?_⟩
  refine List.forall_mem_cons.mpr ⟨ok_iret (pc := 85) dX4_dreamDay_85, ?_⟩
  exact fun _ h => absurd h List.not_mem_nil
abbrev k_X4_days : List (Nat × mm_T) := [(0, o_ild 1 1), (1, o_ic 1 2), (2, o_ic_lt 24 5), (5, o_ild 1 6), (6, o_ic 60 8), (8, o_ic_gt 24 11), (11, o_ild 2 12), (12, o_if_lt 24 15), (15, o_ild 3 16), (16, o_if_lt 24 19), (19, o_ild 3 20), (20, o_ic 2 21), (21, o_ic_le 27 24), (24, o_ic (-102) 26), (26, o_iret), (27, o_ald 0 28), (28, o_getf 4 3 31), (31, o_getf 3 0 34), (34, o_if_ne 40 37), (37, o_ic (-103) 39), (39, o_iret), (40, o_ald 0 41), (41, o_getf 4 5 44), (44, o_ald 0 45), (45, o_getf 4 3 48), (48, o_callV 3 m_X3_copyFrom 3 1 51), (51, o_ald 0 52), (52, o_getf 4 7 55), (55, o_ild 2 56), (56, o_i2l 57), (57, o_putf 0 0 60), (60, o_ic 0 61), (61, o_ist 4 63), (63, o_ic 0 64), (64, o_ist 5 66), (66, o_ild 5 68), (68, o_ild 1 69), (69, o_ic_ge 87 72), (72, o_ild 4 74), (74, o_ald 0 75), (75, o_callV 4 m_X4_dreamDay 4 0 78), (78, o_iadd 79), (79, o_ist 4 81), (81, o_iinc 5 1 84), (84, o_goto 66), (87, o_ild 3 88), (88, o_if_ne 94 91), (91, o_ild 4 93), (93, o_iret), (94, o_ild 3 95), (95, o_ic 1 96), (96, o_ic_ne 109 99), (99, o_ald 0 100), (100, o_getf 4 5 103), (103, o_callV 3 m_X3_wordsKnown 3 0 106), (106, o_goto 117), (109, o_ald 0 110), (110, o_getf 4 7 113), (113, o_getf 0 0 116), (116, o_l2i 117), (117, o_iret)]
def m_X4_days : Nat → mm_T := mm_look k_X4_days
set_option maxRecDepth 20000 in
theorem sp_X4_days : mm_Sp yX4_days cX4_days 6 (some .int) { frames := 6, cells := 0, slots := 0, locals := 142 } m_X4_days := by
  refine mm_sound (own := RX4) (code := k_X4_days) (by decide) rfl ?_
  refine List.forall_mem_cons.mpr ⟨ok_iload_n (pc := 0) dX4_days_0 rfl, ?_⟩
  refine List.forall_mem_cons.mpr ⟨ok_iconst (pc := 1) dX4_days_1 (by decide), ?_⟩
  refine List.forall_mem_cons.mpr ⟨ok_icmp_lt (pc := 2) (tgt := 24) dX4_days_2 (by decide), ?_⟩
  refine List.forall_mem_cons.mpr ⟨ok_iload_n (pc := 5) dX4_days_5 rfl, ?_⟩
  refine List.forall_mem_cons.mpr ⟨ok_bipush (pc := 6) dX4_days_6 (by decide), ?_⟩
  refine List.forall_mem_cons.mpr ⟨ok_icmp_gt (pc := 8) (tgt := 24) dX4_days_8 (by decide), ?_⟩
  refine List.forall_mem_cons.mpr ⟨ok_iload_n (pc := 11) dX4_days_11 rfl, ?_⟩
  refine List.forall_mem_cons.mpr ⟨ok_if_lt (pc := 12) (tgt := 24) dX4_days_12 (by decide), ?_⟩
  refine List.forall_mem_cons.mpr ⟨ok_iload_n (pc := 15) dX4_days_15 rfl, ?_⟩
  refine List.forall_mem_cons.mpr ⟨ok_if_lt (pc := 16) (tgt := 24) dX4_days_16 (by decide), ?_⟩
  refine List.forall_mem_cons.mpr ⟨ok_iload_n (pc := 19) dX4_days_19 rfl, ?_⟩
  refine List.forall_mem_cons.mpr ⟨ok_iconst (pc := 20) dX4_days_20 (by decide), ?_⟩
  refine List.forall_mem_cons.mpr ⟨ok_icmp_le (pc := 21) (tgt := 27) dX4_days_21 (by decide), ?_⟩
  refine List.forall_mem_cons.mpr ⟨ok_bipush (pc := 24) dX4_days_24 (by decide), ?_⟩
  refine List.forall_mem_cons.mpr ⟨ok_iret (pc := 26) dX4_days_26, ?_⟩
  refine List.forall_mem_cons.mpr ⟨ok_aload_n (pc := 27) dX4_days_27 rfl, ?_⟩
  refine List.forall_mem_cons.mpr ⟨ok_getf (pc := 28) (k := 3) (C := RX4) (T := TX4) (N := 12) rfl (by decide) hin_X4 (by decide) hsz_X4 bw_42 dX4_days_28, ?_⟩
  refine List.forall_mem_cons.mpr ⟨ok_getf (pc := 31) (k := 0) (C := RX3) (T := TX3) (N := 9) rfl (by decide) hin_X3 (by decide) hsz_X3 bw_57 dX4_days_31, ?_⟩
  refine List.forall_mem_cons.mpr ⟨ok_if_ne (pc := 34) (tgt := 40) dX4_days_34 (by decide), ?_⟩
  refine List.forall_mem_cons.mpr ⟨ok_bipush (pc := 37) dX4_days_37 (by decide), ?_⟩
  refine List.forall_mem_cons.mpr ⟨ok_iret (pc := 39) dX4_days_39, ?_⟩
  refine List.forall_mem_cons.mpr ⟨ok_aload_n (pc := 40) dX4_days_40 rfl, ?_⟩
  refine List.forall_mem_cons.mpr ⟨ok_getf (pc := 41) (k := 5) (C := RX4) (T := TX4) (N := 12) rfl (by decide) hin_X4 (by decide) hsz_X4 bw_70 dX4_days_41, ?_⟩
  refine List.forall_mem_cons.mpr ⟨ok_aload_n (pc := 44) dX4_days_44 rfl, ?_⟩
  refine List.forall_mem_cons.mpr ⟨ok_getf (pc := 45) (k := 3) (C := RX4) (T := TX4) (N := 12) rfl (by decide) hin_X4 (by decide) hsz_X4 bw_42 dX4_days_45, ?_⟩
  refine List.forall_mem_cons.mpr ⟨ok_callV (pc := 48) sp_X3_copyFrom (ci := 3) (C := RX3) rfl (by decide) ⟨bw_71, bm_X3_copyFrom⟩ (by decide) ⟨rfl, rfl, Nat.le_of_ble_eq_true rfl, Nat.le_of_ble_eq_true rfl⟩ dX4_days_48, ?_⟩
  refine List.forall_mem_cons.mpr ⟨ok_aload_n (pc := 51) dX4_days_51 rfl, ?_⟩
  refine List.forall_mem_cons.mpr ⟨ok_getf (pc := 52) (k := 7) (C := RX4) (T := TX4) (N := 12) rfl (by decide) hin_X4 (by decide) hsz_X4 bw_87 dX4_days_52, ?_⟩
  refine List.forall_mem_cons.mpr ⟨ok_iload_n (pc := 55) dX4_days_55 rfl, ?_⟩
  refine List.forall_mem_cons.mpr ⟨ok_i2l (pc := 56) dX4_days_56, ?_⟩
  refine List.forall_mem_cons.mpr ⟨ok_putf (pc := 57) (k := 0) (C := RX0) (T := TX0) (N := 1) tyX0 tyX0_ok nmX0 rfl (by decide) hin_X0 (by decide) hsz_X0 hkt_X0_0 rfl bw_89 dX4_days_57, ?_⟩
  refine List.forall_mem_cons.mpr ⟨ok_iconst (pc := 60) dX4_days_60 (by decide), ?_⟩
  refine List.forall_mem_cons.mpr ⟨ok_istore (pc := 61) dX4_days_61, ?_⟩
  refine List.forall_mem_cons.mpr ⟨ok_iconst (pc := 63) dX4_days_63 (by decide), ?_⟩
  refine List.forall_mem_cons.mpr ⟨ok_istore (pc := 64) dX4_days_64, ?_⟩
  refine List.forall_mem_cons.mpr ⟨ok_iload (pc := 66) dX4_days_66, ?_⟩
  refine List.forall_mem_cons.mpr ⟨ok_iload_n (pc := 68) dX4_days_68 rfl, ?_⟩
  refine List.forall_mem_cons.mpr ⟨ok_icmp_ge (pc := 69) (tgt := 87) dX4_days_69 (by decide), ?_⟩
  refine List.forall_mem_cons.mpr ⟨ok_iload (pc := 72) dX4_days_72, ?_⟩
  refine List.forall_mem_cons.mpr ⟨ok_aload_n (pc := 74) dX4_days_74 rfl, ?_⟩
  refine List.forall_mem_cons.mpr ⟨ok_callV (pc := 75) sp_X4_dreamDay (ci := 4) (C := RX4) rfl (by decide) ⟨bw_90, bm_X4_dreamDay⟩ (by decide) ⟨rfl, rfl, Nat.le_of_ble_eq_true rfl, Nat.le_of_ble_eq_true rfl⟩ dX4_days_75, ?_⟩
  refine List.forall_mem_cons.mpr ⟨ok_iadd (pc := 78) dX4_days_78, ?_⟩
  refine List.forall_mem_cons.mpr ⟨ok_istore (pc := 79) dX4_days_79, ?_⟩
  refine List.forall_mem_cons.mpr ⟨ok_iinc (pc := 81) dX4_days_81 (by decide), ?_⟩
  refine List.forall_mem_cons.mpr ⟨ok_goto (pc := 84) (tgt := 66) dX4_days_84 (by decide), ?_⟩
  refine List.forall_mem_cons.mpr ⟨ok_iload_n (pc := 87) dX4_days_87 rfl, ?_⟩
  refine List.forall_mem_cons.mpr ⟨ok_if_ne (pc := 88) (tgt := 94) dX4_days_88 (by decide), ?_⟩
  refine List.forall_mem_cons.mpr ⟨ok_iload (pc := 91) dX4_days_91, ?_⟩
  refine List.forall_mem_cons.mpr ⟨ok_iret (pc := 93) dX4_days_93, ?_⟩
  refine List.forall_mem_cons.mpr ⟨ok_iload_n (pc := 94) dX4_days_94 rfl, ?_⟩
  refine List.forall_mem_cons.mpr ⟨ok_iconst (pc := 95) dX4_days_95 (by decide), ?_⟩
  refine List.forall_mem_cons.mpr ⟨ok_icmp_ne (pc := 96) (tgt := 109) dX4_days_96 (by decide), ?_⟩
  refine List.forall_mem_cons.mpr ⟨ok_aload_n (pc := 99) dX4_days_99 rfl, ?_⟩
  refine List.forall_mem_cons.mpr ⟨ok_getf (pc := 100) (k := 5) (C := RX4) (T := TX4) (N := 12) rfl (by decide) hin_X4 (by decide) hsz_X4 bw_70 dX4_days_100, ?_⟩
  refine List.forall_mem_cons.mpr ⟨ok_callV (pc := 103) sp_X3_wordsKnown (ci := 3) (C := RX3) rfl (by decide) ⟨bw_91, bm_X3_wordsKnown⟩ (by decide) ⟨rfl, rfl, Nat.le_of_ble_eq_true rfl, Nat.le_of_ble_eq_true rfl⟩ dX4_days_103, ?_⟩
  refine List.forall_mem_cons.mpr ⟨ok_goto (pc := 106) (tgt := 117) dX4_days_106 (by decide), ?_⟩
  refine List.forall_mem_cons.mpr ⟨ok_aload_n (pc := 109) dX4_days_109 rfl, ?_⟩
  refine List.forall_mem_cons.mpr ⟨ok_getf (pc := 110) (k := 7) (C := RX4) (T := TX4) (N := 12) rfl (by decide) hin_X4 (by decide) hsz_X4 bw_87 dX4_days_110, ?_⟩
  refine List.forall_mem_cons.mpr ⟨ok_getf (pc := 113) (k := 0) (C := RX0) (T := TX0) (N := 1) rfl (by decide) hin_X0 (by decide) hsz_X0 bw_89 dX4_days_113, ?_⟩
  refine List.forall_mem_cons.mpr ⟨ok_l2i (pc := 116) dX4_days_116, ?_⟩
  refine List.forall_mem_cons.mpr ⟨ok_iret (pc := 117) dX4_days_117, ?_⟩
  exact fun _ h => absurd h List.not_mem_nil
abbrev k_X4_image : List (Nat × mm_T) := [(0, o_ald 0 1), (1, o_callV 4 m_X4_hasDome 1 0 4), (4, o_if_ne 10 7), (7, o_ic (-103) 9), (9, o_iret), (10, o_ald 0 11), (11, o_getf 4 4 14), (14, o_ald 0 15), (15, o_getf 4 3 18), (18, o_callV 3 m_X3_copyFrom 3 1 21), (21, o_ald 0 22), (22, o_ic 1 23), (23, o_putf 4 9 26), (26, o_ald 0 27), (27, o_getf 4 3 30), (30, o_getf 3 0 33), (33, o_iret)]
def m_X4_image : Nat → mm_T := mm_look k_X4_image
set_option maxRecDepth 20000 in
theorem sp_X4_image : mm_Sp yX4_image cX4_image 1 (some .int) { frames := 1, cells := 0, slots := 0, locals := 22 } m_X4_image := by
  refine mm_sound (own := RX4) (code := k_X4_image) (by decide) rfl ?_
  refine List.forall_mem_cons.mpr ⟨ok_aload_n (pc := 0) dX4_image_0 rfl, ?_⟩
  refine List.forall_mem_cons.mpr ⟨ok_callV (pc := 1) sp_X4_hasDome (ci := 4) (C := RX4) rfl (by decide) ⟨bw_47, bm_X4_hasDome⟩ (by decide) ⟨rfl, rfl, Nat.le_of_ble_eq_true rfl, Nat.le_of_ble_eq_true rfl⟩ dX4_image_1, ?_⟩
  refine List.forall_mem_cons.mpr ⟨ok_if_ne (pc := 4) (tgt := 10) dX4_image_4 (by decide), ?_⟩
  refine List.forall_mem_cons.mpr ⟨ok_bipush (pc := 7) dX4_image_7 (by decide), ?_⟩
  refine List.forall_mem_cons.mpr ⟨ok_iret (pc := 9) dX4_image_9, ?_⟩
  refine List.forall_mem_cons.mpr ⟨ok_aload_n (pc := 10) dX4_image_10 rfl, ?_⟩
  refine List.forall_mem_cons.mpr ⟨ok_getf (pc := 11) (k := 4) (C := RX4) (T := TX4) (N := 12) rfl (by decide) hin_X4 (by decide) hsz_X4 bw_92 dX4_image_11, ?_⟩
  refine List.forall_mem_cons.mpr ⟨ok_aload_n (pc := 14) dX4_image_14 rfl, ?_⟩
  refine List.forall_mem_cons.mpr ⟨ok_getf (pc := 15) (k := 3) (C := RX4) (T := TX4) (N := 12) rfl (by decide) hin_X4 (by decide) hsz_X4 bw_42 dX4_image_15, ?_⟩
  refine List.forall_mem_cons.mpr ⟨ok_callV (pc := 18) sp_X3_copyFrom (ci := 3) (C := RX3) rfl (by decide) ⟨bw_71, bm_X3_copyFrom⟩ (by decide) ⟨rfl, rfl, Nat.le_of_ble_eq_true rfl, Nat.le_of_ble_eq_true rfl⟩ dX4_image_18, ?_⟩
  refine List.forall_mem_cons.mpr ⟨ok_aload_n (pc := 21) dX4_image_21 rfl, ?_⟩
  refine List.forall_mem_cons.mpr ⟨ok_iconst (pc := 22) dX4_image_22 (by decide), ?_⟩
  refine List.forall_mem_cons.mpr ⟨ok_putf (pc := 23) (k := 9) (C := RX4) (T := TX4) (N := 12) tyX4 tyX4_ok nmX4 rfl (by decide) hin_X4 (by decide) hsz_X4 hkt_X4_9 rfl bw_44 dX4_image_23, ?_⟩
  refine List.forall_mem_cons.mpr ⟨ok_aload_n (pc := 26) dX4_image_26 rfl, ?_⟩
  refine List.forall_mem_cons.mpr ⟨ok_getf (pc := 27) (k := 3) (C := RX4) (T := TX4) (N := 12) rfl (by decide) hin_X4 (by decide) hsz_X4 bw_42 dX4_image_27, ?_⟩
  refine List.forall_mem_cons.mpr ⟨ok_getf (pc := 30) (k := 0) (C := RX3) (T := TX3) (N := 9) rfl (by decide) hin_X3 (by decide) hsz_X3 bw_57 dX4_image_30, ?_⟩
  refine List.forall_mem_cons.mpr ⟨ok_iret (pc := 33) dX4_image_33, ?_⟩
  exact fun _ h => absurd h List.not_mem_nil
abbrev k_X4_restore : List (Nat × mm_T) := [(0, o_ald 0 1), (1, o_getf 4 9 4), (4, o_if_ne 10 7), (7, o_ic (-103) 9), (9, o_iret), (10, o_ald 0 11), (11, o_getf 4 3 14), (14, o_ald 0 15), (15, o_getf 4 4 18), (18, o_callV 3 m_X3_copyFrom 3 1 21), (21, o_ald 0 22), (22, o_getf 4 3 25), (25, o_getf 3 0 28), (28, o_iret)]
def m_X4_restore : Nat → mm_T := mm_look k_X4_restore
set_option maxRecDepth 20000 in
theorem sp_X4_restore : mm_Sp yX4_restore cX4_restore 1 (some .int) { frames := 1, cells := 0, slots := 0, locals := 22 } m_X4_restore := by
  refine mm_sound (own := RX4) (code := k_X4_restore) (by decide) rfl ?_
  refine List.forall_mem_cons.mpr ⟨ok_aload_n (pc := 0) dX4_restore_0 rfl, ?_⟩
  refine List.forall_mem_cons.mpr ⟨ok_getf (pc := 1) (k := 9) (C := RX4) (T := TX4) (N := 12) rfl (by decide) hin_X4 (by decide) hsz_X4 bw_44 dX4_restore_1, ?_⟩
  refine List.forall_mem_cons.mpr ⟨ok_if_ne (pc := 4) (tgt := 10) dX4_restore_4 (by decide), ?_⟩
  refine List.forall_mem_cons.mpr ⟨ok_bipush (pc := 7) dX4_restore_7 (by decide), ?_⟩
  refine List.forall_mem_cons.mpr ⟨ok_iret (pc := 9) dX4_restore_9, ?_⟩
  refine List.forall_mem_cons.mpr ⟨ok_aload_n (pc := 10) dX4_restore_10 rfl, ?_⟩
  refine List.forall_mem_cons.mpr ⟨ok_getf (pc := 11) (k := 3) (C := RX4) (T := TX4) (N := 12) rfl (by decide) hin_X4 (by decide) hsz_X4 bw_42 dX4_restore_11, ?_⟩
  refine List.forall_mem_cons.mpr ⟨ok_aload_n (pc := 14) dX4_restore_14 rfl, ?_⟩
  refine List.forall_mem_cons.mpr ⟨ok_getf (pc := 15) (k := 4) (C := RX4) (T := TX4) (N := 12) rfl (by decide) hin_X4 (by decide) hsz_X4 bw_92 dX4_restore_15, ?_⟩
  refine List.forall_mem_cons.mpr ⟨ok_callV (pc := 18) sp_X3_copyFrom (ci := 3) (C := RX3) rfl (by decide) ⟨bw_71, bm_X3_copyFrom⟩ (by decide) ⟨rfl, rfl, Nat.le_of_ble_eq_true rfl, Nat.le_of_ble_eq_true rfl⟩ dX4_restore_18, ?_⟩
  refine List.forall_mem_cons.mpr ⟨ok_aload_n (pc := 21) dX4_restore_21 rfl, ?_⟩
  refine List.forall_mem_cons.mpr ⟨ok_getf (pc := 22) (k := 3) (C := RX4) (T := TX4) (N := 12) rfl (by decide) hin_X4 (by decide) hsz_X4 bw_42 dX4_restore_22, ?_⟩
  refine List.forall_mem_cons.mpr ⟨ok_getf (pc := 25) (k := 0) (C := RX3) (T := TX3) (N := 9) rfl (by decide) hin_X3 (by decide) hsz_X3 bw_57 dX4_restore_25, ?_⟩
  refine List.forall_mem_cons.mpr ⟨ok_iret (pc := 28) dX4_restore_28, ?_⟩
  exact fun _ h => absurd h List.not_mem_nil
abbrev k_X4_count : List (Nat × mm_T) := [(0, o_ild 1 1), (1, o_tsw [48, 56, 67, 75, 83, 91, 96, 101] 106), (48, o_ald 0 49), (49, o_getf 4 3 52), (52, o_getf 3 0 55), (55, o_iret), (56, o_ald 0 57), (57, o_getf 4 3 60), (60, o_getf 3 4 63), (63, o_callS m_J6_bitCount_0f7a4 1 1 66), (66, o_iret), (67, o_ald 0 68), (68, o_getf 4 3 71), (71, o_callV 3 m_X3_wordsKnown 3 0 74), (74, o_iret), (75, o_ald 0 76), (76, o_getf 4 3 79), (79, o_getf 3 5 82), (82, o_iret), (83, o_ald 0 84), (84, o_getf 4 3 87), (87, o_getf 3 6 90), (90, o_iret), (91, o_ald 0 92), (92, o_getf 4 1 95), (95, o_iret), (96, o_ald 0 97), (97, o_getf 4 10 100), (100, o_iret), (101, o_ald 0 102), (102, o_getf 4 11 105), (105, o_iret), (106, o_ic (-102) 108), (108, o_iret)]
def m_X4_count : Nat → mm_T := mm_look k_X4_count
set_option maxRecDepth 20000 in
theorem sp_X4_count : mm_Sp yX4_count cX4_count 2 (some .int) { frames := 2, cells := 0, slots := 0, locals := 42 } m_X4_count := by
  refine mm_sound (own := RX4) (code := k_X4_count) (by decide) rfl ?_
  refine List.forall_mem_cons.mpr ⟨ok_iload_n (pc := 0) dX4_count_0 rfl, ?_⟩
  refine List.forall_mem_cons.mpr ⟨ok_tsw (pc := 1) (ts := [48, 56, 67, 75, 83, 91, 96, 101]) (dflt := 106) dX4_count_1 (by decide) (by decide) (by decide) (by decide), ?_⟩
  refine List.forall_mem_cons.mpr ⟨ok_aload_n (pc := 48) dX4_count_48 rfl, ?_⟩
  refine List.forall_mem_cons.mpr ⟨ok_getf (pc := 49) (k := 3) (C := RX4) (T := TX4) (N := 12) rfl (by decide) hin_X4 (by decide) hsz_X4 bw_42 dX4_count_49, ?_⟩
  refine List.forall_mem_cons.mpr ⟨ok_getf (pc := 52) (k := 0) (C := RX3) (T := TX3) (N := 9) rfl (by decide) hin_X3 (by decide) hsz_X3 bw_57 dX4_count_52, ?_⟩
  refine List.forall_mem_cons.mpr ⟨ok_iret (pc := 55) dX4_count_55, ?_⟩
  refine List.forall_mem_cons.mpr ⟨ok_aload_n (pc := 56) dX4_count_56 rfl, ?_⟩
  refine List.forall_mem_cons.mpr ⟨ok_getf (pc := 57) (k := 3) (C := RX4) (T := TX4) (N := 12) rfl (by decide) hin_X4 (by decide) hsz_X4 bw_42 dX4_count_57, ?_⟩
  refine List.forall_mem_cons.mpr ⟨ok_getf (pc := 60) (k := 4) (C := RX3) (T := TX3) (N := 9) rfl (by decide) hin_X3 (by decide) hsz_X3 bw_51 dX4_count_60, ?_⟩
  refine List.forall_mem_cons.mpr ⟨ok_callS (pc := 63) sp_J6_bitCount_0f7a4 ⟨bw_72, bs_J6_bitCount_0f7a4⟩ (by decide) ⟨rfl, rfl, Nat.le_of_ble_eq_true rfl, Nat.le_of_ble_eq_true rfl⟩ dX4_count_63, ?_⟩
  refine List.forall_mem_cons.mpr ⟨ok_iret (pc := 66) dX4_count_66, ?_⟩
  refine List.forall_mem_cons.mpr ⟨ok_aload_n (pc := 67) dX4_count_67 rfl, ?_⟩
  refine List.forall_mem_cons.mpr ⟨ok_getf (pc := 68) (k := 3) (C := RX4) (T := TX4) (N := 12) rfl (by decide) hin_X4 (by decide) hsz_X4 bw_42 dX4_count_68, ?_⟩
  refine List.forall_mem_cons.mpr ⟨ok_callV (pc := 71) sp_X3_wordsKnown (ci := 3) (C := RX3) rfl (by decide) ⟨bw_91, bm_X3_wordsKnown⟩ (by decide) ⟨rfl, rfl, Nat.le_of_ble_eq_true rfl, Nat.le_of_ble_eq_true rfl⟩ dX4_count_71, ?_⟩
  refine List.forall_mem_cons.mpr ⟨ok_iret (pc := 74) dX4_count_74, ?_⟩
  refine List.forall_mem_cons.mpr ⟨ok_aload_n (pc := 75) dX4_count_75 rfl, ?_⟩
  refine List.forall_mem_cons.mpr ⟨ok_getf (pc := 76) (k := 3) (C := RX4) (T := TX4) (N := 12) rfl (by decide) hin_X4 (by decide) hsz_X4 bw_42 dX4_count_76, ?_⟩
  refine List.forall_mem_cons.mpr ⟨ok_getf (pc := 79) (k := 5) (C := RX3) (T := TX3) (N := 9) rfl (by decide) hin_X3 (by decide) hsz_X3 bw_67 dX4_count_79, ?_⟩
  refine List.forall_mem_cons.mpr ⟨ok_iret (pc := 82) dX4_count_82, ?_⟩
  refine List.forall_mem_cons.mpr ⟨ok_aload_n (pc := 83) dX4_count_83 rfl, ?_⟩
  refine List.forall_mem_cons.mpr ⟨ok_getf (pc := 84) (k := 3) (C := RX4) (T := TX4) (N := 12) rfl (by decide) hin_X4 (by decide) hsz_X4 bw_42 dX4_count_84, ?_⟩
  refine List.forall_mem_cons.mpr ⟨ok_getf (pc := 87) (k := 6) (C := RX3) (T := TX3) (N := 9) rfl (by decide) hin_X3 (by decide) hsz_X3 bw_77 dX4_count_87, ?_⟩
  refine List.forall_mem_cons.mpr ⟨ok_iret (pc := 90) dX4_count_90, ?_⟩
  refine List.forall_mem_cons.mpr ⟨ok_aload_n (pc := 91) dX4_count_91 rfl, ?_⟩
  refine List.forall_mem_cons.mpr ⟨ok_getf (pc := 92) (k := 1) (C := RX4) (T := TX4) (N := 12) rfl (by decide) hin_X4 (by decide) hsz_X4 bw_36 dX4_count_92, ?_⟩
  refine List.forall_mem_cons.mpr ⟨ok_iret (pc := 95) dX4_count_95, ?_⟩
  refine List.forall_mem_cons.mpr ⟨ok_aload_n (pc := 96) dX4_count_96 rfl, ?_⟩
  refine List.forall_mem_cons.mpr ⟨ok_getf (pc := 97) (k := 10) (C := RX4) (T := TX4) (N := 12) rfl (by decide) hin_X4 (by decide) hsz_X4 bw_45 dX4_count_97, ?_⟩
  refine List.forall_mem_cons.mpr ⟨ok_iret (pc := 100) dX4_count_100, ?_⟩
  refine List.forall_mem_cons.mpr ⟨ok_aload_n (pc := 101) dX4_count_101 rfl, ?_⟩
  refine List.forall_mem_cons.mpr ⟨ok_getf (pc := 102) (k := 11) (C := RX4) (T := TX4) (N := 12) rfl (by decide) hin_X4 (by decide) hsz_X4 bw_74 dX4_count_102, ?_⟩
  refine List.forall_mem_cons.mpr ⟨ok_iret (pc := 105) dX4_count_105, ?_⟩
  refine List.forall_mem_cons.mpr ⟨ok_bipush (pc := 106) dX4_count_106 (by decide), ?_⟩
  refine List.forall_mem_cons.mpr ⟨ok_iret (pc := 108) dX4_count_108, ?_⟩
  exact fun _ h => absurd h List.not_mem_nil
abbrev k_X4_mix : List (Nat × mm_T) := [(0, o_lc 31 3), (3, o_lld 0 4), (4, o_lmul 5), (5, o_lld 2 6), (6, o_ladd 7), (7, o_lret)]
def m_X4_mix : Nat → mm_T := mm_look k_X4_mix
set_option maxRecDepth 20000 in
theorem sp_X4_mix : mm_Sp yX4_mix cX4_mix 4 (some .long) { frames := 0, cells := 0, slots := 0, locals := 0 } m_X4_mix := by
  refine mm_sound (own := RX4) (code := k_X4_mix) (by decide) rfl ?_
  refine List.forall_mem_cons.mpr ⟨ok_ldc2 (pc := 0) bw_93 dX4_mix_0, ?_⟩
  refine List.forall_mem_cons.mpr ⟨ok_lload_n (pc := 3) dX4_mix_3 rfl, ?_⟩
  refine List.forall_mem_cons.mpr ⟨ok_lmul (pc := 4) dX4_mix_4, ?_⟩
  refine List.forall_mem_cons.mpr ⟨ok_lload_n (pc := 5) dX4_mix_5 rfl, ?_⟩
  refine List.forall_mem_cons.mpr ⟨ok_ladd (pc := 6) dX4_mix_6, ?_⟩
  refine List.forall_mem_cons.mpr ⟨ok_lret (pc := 7) dX4_mix_7, ?_⟩
  exact fun _ h => absurd h List.not_mem_nil
abbrev k_X4_digestPlaces : List (Nat × mm_T) := [(0, o_lld 1 1), (1, o_lst 3 2), (2, o_ic 0 3), (3, o_ist 5 5), (5, o_ald 0 6), (6, o_callV 4 m_X4_hasDome 1 0 9), (9, o_if_eq 55 12), (12, o_ild 5 14), (14, o_ic 8 16), (16, o_ic_ge 55 19), (19, o_ic 0 20), (20, o_ist 6 22), (22, o_ild 6 24), (24, o_ic 6 26), (26, o_ic_ge 49 29), (29, o_lld 3 30), (30, o_ald 0 31), (31, o_ild 5 33), (33, o_ild 6 35), (35, o_callV 4 m_X4_place 3 2 38), (38, o_i2l 39), (39, o_callS m_X4_mix 4 2 42), (42, o_lst 3 43), (43, o_iinc 6 1 46), (46, o_goto 22), (49, o_iinc 5 1 52), (52, o_goto 5), (55, o_lld 3 56), (56, o_lret)]
def m_X4_digestPlaces : Nat → mm_T := mm_look k_X4_digestPlaces
set_option maxRecDepth 20000 in
theorem sp_X4_digestPlaces : mm_Sp yX4_digestPlaces cX4_digestPlaces 7 (some .long) { frames := 3, cells := 0, slots := 0, locals := 68 } m_X4_digestPlaces := by
  refine mm_sound (own := RX4) (code := k_X4_digestPlaces) (by decide) rfl ?_
  refine List.forall_mem_cons.mpr ⟨ok_lload_n (pc := 0) dX4_digestPlaces_0 rfl, ?_⟩
  refine List.forall_mem_cons.mpr ⟨ok_lstore_n (pc := 1) dX4_digestPlaces_1 rfl, ?_⟩
  refine List.forall_mem_cons.mpr ⟨ok_iconst (pc := 2) dX4_digestPlaces_2 (by decide), ?_⟩
  refine List.forall_mem_cons.mpr ⟨ok_istore (pc := 3) dX4_digestPlaces_3, ?_⟩
  refine List.forall_mem_cons.mpr ⟨ok_aload_n (pc := 5) dX4_digestPlaces_5 rfl, ?_⟩
  refine List.forall_mem_cons.mpr ⟨ok_callV (pc := 6) sp_X4_hasDome (ci := 4) (C := RX4) rfl (by decide) ⟨bw_47, bm_X4_hasDome⟩ (by decide) ⟨rfl, rfl, Nat.le_of_ble_eq_true rfl, Nat.le_of_ble_eq_true rfl⟩ dX4_digestPlaces_6, ?_⟩
  refine List.forall_mem_cons.mpr ⟨ok_if_eq (pc := 9) (tgt := 55) dX4_digestPlaces_9 (by decide), ?_⟩
  refine List.forall_mem_cons.mpr ⟨ok_iload (pc := 12) dX4_digestPlaces_12, ?_⟩
  refine List.forall_mem_cons.mpr ⟨ok_bipush (pc := 14) dX4_digestPlaces_14 (by decide), ?_⟩
  refine List.forall_mem_cons.mpr ⟨ok_icmp_ge (pc := 16) (tgt := 55) dX4_digestPlaces_16 (by decide), ?_⟩
  refine List.forall_mem_cons.mpr ⟨ok_iconst (pc := 19) dX4_digestPlaces_19 (by decide), ?_⟩
  refine List.forall_mem_cons.mpr ⟨ok_istore (pc := 20) dX4_digestPlaces_20, ?_⟩
  refine List.forall_mem_cons.mpr ⟨ok_iload (pc := 22) dX4_digestPlaces_22, ?_⟩
  refine List.forall_mem_cons.mpr ⟨ok_bipush (pc := 24) dX4_digestPlaces_24 (by decide), ?_⟩
  refine List.forall_mem_cons.mpr ⟨ok_icmp_ge (pc := 26) (tgt := 49) dX4_digestPlaces_26 (by decide), ?_⟩
  refine List.forall_mem_cons.mpr ⟨ok_lload_n (pc := 29) dX4_digestPlaces_29 rfl, ?_⟩
  refine List.forall_mem_cons.mpr ⟨ok_aload_n (pc := 30) dX4_digestPlaces_30 rfl, ?_⟩
  refine List.forall_mem_cons.mpr ⟨ok_iload (pc := 31) dX4_digestPlaces_31, ?_⟩
  refine List.forall_mem_cons.mpr ⟨ok_iload (pc := 33) dX4_digestPlaces_33, ?_⟩
  refine List.forall_mem_cons.mpr ⟨ok_callV (pc := 35) sp_X4_place (ci := 4) (C := RX4) rfl (by decide) ⟨bw_94, bm_X4_place⟩ (by decide) ⟨rfl, rfl, Nat.le_of_ble_eq_true rfl, Nat.le_of_ble_eq_true rfl⟩ dX4_digestPlaces_35, ?_⟩
  refine List.forall_mem_cons.mpr ⟨ok_i2l (pc := 38) dX4_digestPlaces_38, ?_⟩
  refine List.forall_mem_cons.mpr ⟨ok_callS (pc := 39) sp_X4_mix ⟨bw_95, bs_X4_mix⟩ (by decide) ⟨rfl, rfl, Nat.le_of_ble_eq_true rfl, Nat.le_of_ble_eq_true rfl⟩ dX4_digestPlaces_39, ?_⟩
  refine List.forall_mem_cons.mpr ⟨ok_lstore_n (pc := 42) dX4_digestPlaces_42 rfl, ?_⟩
  refine List.forall_mem_cons.mpr ⟨ok_iinc (pc := 43) dX4_digestPlaces_43 (by decide), ?_⟩
  refine List.forall_mem_cons.mpr ⟨ok_goto (pc := 46) (tgt := 22) dX4_digestPlaces_46 (by decide), ?_⟩
  refine List.forall_mem_cons.mpr ⟨ok_iinc (pc := 49) dX4_digestPlaces_49 (by decide), ?_⟩
  refine List.forall_mem_cons.mpr ⟨ok_goto (pc := 52) (tgt := 5) dX4_digestPlaces_52 (by decide), ?_⟩
  refine List.forall_mem_cons.mpr ⟨ok_lload_n (pc := 55) dX4_digestPlaces_55 rfl, ?_⟩
  refine List.forall_mem_cons.mpr ⟨ok_lret (pc := 56) dX4_digestPlaces_56, ?_⟩
  exact fun _ h => absurd h List.not_mem_nil
abbrev k_X4_digestPerson : List (Nat × mm_T) := [(0, o_lld 1 1), (1, o_ald 0 2), (2, o_getf 4 3 5), (5, o_getf 3 1 8), (8, o_ild 3 9), (9, o_iald 10), (10, o_i2l 11), (11, o_callS m_X4_mix 4 2 14), (14, o_lst 4 16), (16, o_lld 4 18), (18, o_ald 0 19), (19, o_getf 4 3 22), (22, o_getf 3 2 25), (25, o_ild 3 26), (26, o_iald 27), (27, o_i2l 28), (28, o_callS m_X4_mix 4 2 31), (31, o_lst 4 33), (33, o_lld 4 35), (35, o_ald 0 36), (36, o_getf 4 3 39), (39, o_getf 3 3 42), (42, o_ild 3 43), (43, o_iald 44), (44, o_i2l 45), (45, o_callS m_X4_mix 4 2 48), (48, o_lst 4 50), (50, o_lld 4 52), (52, o_ald 0 53), (53, o_getf 4 6 56), (56, o_ald 0 57), (57, o_getf 4 2 60), (60, o_ald 0 61), (61, o_getf 4 3 64), (64, o_ild 3 65), (65, o_callV 1 m_X1_spread 6 3 68), (68, o_i2l 69), (69, o_callS m_X4_mix 4 2 72), (72, o_lst 4 74), (74, o_ic 0 75), (75, o_ist 6 77), (77, o_ild 6 79), (79, o_ald 0 80), (80, o_getf 4 3 83), (83, o_getf 3 0 86), (86, o_ic_ge 113 89), (89, o_lld 4 91), (91, o_ald 0 92), (92, o_getf 4 6 95), (95, o_getf 1 0 98), (98, o_ild 6 100), (100, o_iald 101), (101, o_i2l 102), (102, o_callS m_X4_mix 4 2 105), (105, o_lst 4 107), (107, o_iinc 6 1 110), (110, o_goto 77), (113, o_lld 4 115), (115, o_lret)]
def m_X4_digestPerson : Nat → mm_T := mm_look k_X4_digestPerson
set_option maxRecDepth 20000 in
theorem sp_X4_digestPerson : mm_Sp yX4_digestPerson cX4_digestPerson 7 (some .long) { frames := 4, cells := 0, slots := 0, locals := 96 } m_X4_digestPerson := by
  refine mm_sound (own := RX4) (code := k_X4_digestPerson) (by decide) rfl ?_
  refine List.forall_mem_cons.mpr ⟨ok_lload_n (pc := 0) dX4_digestPerson_0 rfl, ?_⟩
  refine List.forall_mem_cons.mpr ⟨ok_aload_n (pc := 1) dX4_digestPerson_1 rfl, ?_⟩
  refine List.forall_mem_cons.mpr ⟨ok_getf (pc := 2) (k := 3) (C := RX4) (T := TX4) (N := 12) rfl (by decide) hin_X4 (by decide) hsz_X4 bw_42 dX4_digestPerson_2, ?_⟩
  refine List.forall_mem_cons.mpr ⟨ok_getf (pc := 5) (k := 1) (C := RX3) (T := TX3) (N := 9) rfl (by decide) hin_X3 (by decide) hsz_X3 bw_60 dX4_digestPerson_5, ?_⟩
  refine List.forall_mem_cons.mpr ⟨ok_iload_n (pc := 8) dX4_digestPerson_8 rfl, ?_⟩
  refine List.forall_mem_cons.mpr ⟨ok_iald (pc := 9) dX4_digestPerson_9, ?_⟩
  refine List.forall_mem_cons.mpr ⟨ok_i2l (pc := 10) dX4_digestPerson_10, ?_⟩
  refine List.forall_mem_cons.mpr ⟨ok_callS (pc := 11) sp_X4_mix ⟨bw_95, bs_X4_mix⟩ (by decide) ⟨rfl, rfl, Nat.le_of_ble_eq_true rfl, Nat.le_of_ble_eq_true rfl⟩ dX4_digestPerson_11, ?_⟩
  refine List.forall_mem_cons.mpr ⟨ok_lstore (pc := 14) dX4_digestPerson_14, ?_⟩
  refine List.forall_mem_cons.mpr ⟨ok_lload (pc := 16) dX4_digestPerson_16, ?_⟩
  refine List.forall_mem_cons.mpr ⟨ok_aload_n (pc := 18) dX4_digestPerson_18 rfl, ?_⟩
  refine List.forall_mem_cons.mpr ⟨ok_getf (pc := 19) (k := 3) (C := RX4) (T := TX4) (N := 12) rfl (by decide) hin_X4 (by decide) hsz_X4 bw_42 dX4_digestPerson_19, ?_⟩
  refine List.forall_mem_cons.mpr ⟨ok_getf (pc := 22) (k := 2) (C := RX3) (T := TX3) (N := 9) rfl (by decide) hin_X3 (by decide) hsz_X3 bw_61 dX4_digestPerson_22, ?_⟩
  refine List.forall_mem_cons.mpr ⟨ok_iload_n (pc := 25) dX4_digestPerson_25 rfl, ?_⟩
  refine List.forall_mem_cons.mpr ⟨ok_iald (pc := 26) dX4_digestPerson_26, ?_⟩
  refine List.forall_mem_cons.mpr ⟨ok_i2l (pc := 27) dX4_digestPerson_27, ?_⟩
  refine List.forall_mem_cons.mpr ⟨ok_callS (pc := 28) sp_X4_mix ⟨bw_95, bs_X4_mix⟩ (by decide) ⟨rfl, rfl, Nat.le_of_ble_eq_true rfl, Nat.le_of_ble_eq_true rfl⟩ dX4_digestPerson_28, ?_⟩
  refine List.forall_mem_cons.mpr ⟨ok_lstore (pc := 31) dX4_digestPerson_31, ?_⟩
  refine List.forall_mem_cons.mpr ⟨ok_lload (pc := 33) dX4_digestPerson_33, ?_⟩
  refine List.forall_mem_cons.mpr ⟨ok_aload_n (pc := 35) dX4_digestPerson_35 rfl, ?_⟩
  refine List.forall_mem_cons.mpr ⟨ok_getf (pc := 36) (k := 3) (C := RX4) (T := TX4) (N := 12) rfl (by decide) hin_X4 (by decide) hsz_X4 bw_42 dX4_digestPerson_36, ?_⟩
  refine List.forall_mem_cons.mpr ⟨ok_getf (pc := 39) (k := 3) (C := RX3) (T := TX3) (N := 9) rfl (by decide) hin_X3 (by decide) hsz_X3 bw_62 dX4_digestPerson_39, ?_⟩
  refine List.forall_mem_cons.mpr ⟨ok_iload_n (pc := 42) dX4_digestPerson_42 rfl, ?_⟩
  refine List.forall_mem_cons.mpr ⟨ok_iald (pc := 43) dX4_digestPerson_43, ?_⟩
  refine List.forall_mem_cons.mpr ⟨ok_i2l (pc := 44) dX4_digestPerson_44, ?_⟩
  refine List.forall_mem_cons.mpr ⟨ok_callS (pc := 45) sp_X4_mix ⟨bw_95, bs_X4_mix⟩ (by decide) ⟨rfl, rfl, Nat.le_of_ble_eq_true rfl, Nat.le_of_ble_eq_true rfl⟩ dX4_digestPerson_45, ?_⟩
  refine List.forall_mem_cons.mpr ⟨ok_lstore (pc := 48) dX4_digestPerson_48, ?_⟩
  refine List.forall_mem_cons.mpr ⟨ok_lload (pc := 50) dX4_digestPerson_50, ?_⟩
  refine List.forall_mem_cons.mpr ⟨ok_aload_n (pc := 52) dX4_digestPerson_52 rfl, ?_⟩
  refine List.forall_mem_cons.mpr ⟨ok_getf (pc := 53) (k := 6) (C := RX4) (T := TX4) (N := 12) rfl (by decide) hin_X4 (by decide) hsz_X4 bw_63 dX4_digestPerson_53, ?_⟩
  refine List.forall_mem_cons.mpr ⟨ok_aload_n (pc := 56) dX4_digestPerson_56 rfl, ?_⟩
  refine List.forall_mem_cons.mpr ⟨ok_getf (pc := 57) (k := 2) (C := RX4) (T := TX4) (N := 12) rfl (by decide) hin_X4 (by decide) hsz_X4 bw_40 dX4_digestPerson_57, ?_⟩
  refine List.forall_mem_cons.mpr ⟨ok_aload_n (pc := 60) dX4_digestPerson_60 rfl, ?_⟩
  refine List.forall_mem_cons.mpr ⟨ok_getf (pc := 61) (k := 3) (C := RX4) (T := TX4) (N := 12) rfl (by decide) hin_X4 (by decide) hsz_X4 bw_42 dX4_digestPerson_61, ?_⟩
  refine List.forall_mem_cons.mpr ⟨ok_iload_n (pc := 64) dX4_digestPerson_64 rfl, ?_⟩
  refine List.forall_mem_cons.mpr ⟨ok_callV (pc := 65) sp_X1_spread (ci := 1) (C := RX1) rfl (by decide) ⟨bw_64, bm_X1_spread⟩ (by decide) ⟨rfl, rfl, Nat.le_of_ble_eq_true rfl, Nat.le_of_ble_eq_true rfl⟩ dX4_digestPerson_65, ?_⟩
  refine List.forall_mem_cons.mpr ⟨ok_i2l (pc := 68) dX4_digestPerson_68, ?_⟩
  refine List.forall_mem_cons.mpr ⟨ok_callS (pc := 69) sp_X4_mix ⟨bw_95, bs_X4_mix⟩ (by decide) ⟨rfl, rfl, Nat.le_of_ble_eq_true rfl, Nat.le_of_ble_eq_true rfl⟩ dX4_digestPerson_69, ?_⟩
  refine List.forall_mem_cons.mpr ⟨ok_lstore (pc := 72) dX4_digestPerson_72, ?_⟩
  refine List.forall_mem_cons.mpr ⟨ok_iconst (pc := 74) dX4_digestPerson_74 (by decide), ?_⟩
  refine List.forall_mem_cons.mpr ⟨ok_istore (pc := 75) dX4_digestPerson_75, ?_⟩
  refine List.forall_mem_cons.mpr ⟨ok_iload (pc := 77) dX4_digestPerson_77, ?_⟩
  refine List.forall_mem_cons.mpr ⟨ok_aload_n (pc := 79) dX4_digestPerson_79 rfl, ?_⟩
  refine List.forall_mem_cons.mpr ⟨ok_getf (pc := 80) (k := 3) (C := RX4) (T := TX4) (N := 12) rfl (by decide) hin_X4 (by decide) hsz_X4 bw_42 dX4_digestPerson_80, ?_⟩
  refine List.forall_mem_cons.mpr ⟨ok_getf (pc := 83) (k := 0) (C := RX3) (T := TX3) (N := 9) rfl (by decide) hin_X3 (by decide) hsz_X3 bw_57 dX4_digestPerson_83, ?_⟩
  refine List.forall_mem_cons.mpr ⟨ok_icmp_ge (pc := 86) (tgt := 113) dX4_digestPerson_86 (by decide), ?_⟩
  refine List.forall_mem_cons.mpr ⟨ok_lload (pc := 89) dX4_digestPerson_89, ?_⟩
  refine List.forall_mem_cons.mpr ⟨ok_aload_n (pc := 91) dX4_digestPerson_91 rfl, ?_⟩
  refine List.forall_mem_cons.mpr ⟨ok_getf (pc := 92) (k := 6) (C := RX4) (T := TX4) (N := 12) rfl (by decide) hin_X4 (by decide) hsz_X4 bw_63 dX4_digestPerson_92, ?_⟩
  refine List.forall_mem_cons.mpr ⟨ok_getf (pc := 95) (k := 0) (C := RX1) (T := TX1) (N := 3) rfl (by decide) hin_X1 (by decide) hsz_X1 bw_69 dX4_digestPerson_95, ?_⟩
  refine List.forall_mem_cons.mpr ⟨ok_iload (pc := 98) dX4_digestPerson_98, ?_⟩
  refine List.forall_mem_cons.mpr ⟨ok_iald (pc := 100) dX4_digestPerson_100, ?_⟩
  refine List.forall_mem_cons.mpr ⟨ok_i2l (pc := 101) dX4_digestPerson_101, ?_⟩
  refine List.forall_mem_cons.mpr ⟨ok_callS (pc := 102) sp_X4_mix ⟨bw_95, bs_X4_mix⟩ (by decide) ⟨rfl, rfl, Nat.le_of_ble_eq_true rfl, Nat.le_of_ble_eq_true rfl⟩ dX4_digestPerson_102, ?_⟩
  refine List.forall_mem_cons.mpr ⟨ok_lstore (pc := 105) dX4_digestPerson_105, ?_⟩
  refine List.forall_mem_cons.mpr ⟨ok_iinc (pc := 107) dX4_digestPerson_107 (by decide), ?_⟩
  refine List.forall_mem_cons.mpr ⟨ok_goto (pc := 110) (tgt := 77) dX4_digestPerson_110 (by decide), ?_⟩
  refine List.forall_mem_cons.mpr ⟨ok_lload (pc := 113) dX4_digestPerson_113, ?_⟩
  refine List.forall_mem_cons.mpr ⟨ok_lret (pc := 115) dX4_digestPerson_115, ?_⟩
  exact fun _ h => absurd h List.not_mem_nil
abbrev k_X4_digest : List (Nat × mm_T) := [(0, o_ald 0 1), (1, o_lc 937 4), (4, o_callV 4 m_X4_digestPlaces 7 1 7), (7, o_lst 1 8), (8, o_ic 0 9), (9, o_ist 3 10), (10, o_ild 3 11), (11, o_ald 0 12), (12, o_getf 4 3 15), (15, o_getf 3 0 18), (18, o_ic_ge 34 21), (21, o_ald 0 22), (22, o_lld 1 23), (23, o_ild 3 24), (24, o_callV 4 m_X4_digestPerson 7 2 27), (27, o_lst 1 28), (28, o_iinc 3 1 31), (31, o_goto 10), (34, o_ald 0 35), (35, o_callV 4 m_X4_hasDome 1 0 38), (38, o_if_eq 64 41), (41, o_ald 0 42), (42, o_callV 4 m_X4_suspects 3 0 45), (45, o_ist 3 46), (46, o_lld 1 47), (47, o_ild 3 48), (48, o_i2l 49), (49, o_callS m_X4_mix 4 2 52), (52, o_lst 1 53), (53, o_lld 1 54), (54, o_ald 0 55), (55, o_ild 3 56), (56, o_callV 4 m_X4_bestToAsk 6 1 59), (59, o_i2l 60), (60, o_callS m_X4_mix 4 2 63), (63, o_lst 1 64), (64, o_ic 0 65), (65, o_ist 3 66), (66, o_ild 3 67), (67, o_ald 0 68), (68, o_getf 4 1 71), (71, o_ic_ge 92 74), (74, o_lld 1 75), (75, o_ald 0 76), (76, o_getf 4 0 79), (79, o_ild 3 80), (80, o_iald 81), (81, o_i2l 82), (82, o_callS m_X4_mix 4 2 85), (85, o_lst 1 86), (86, o_iinc 3 1 89), (89, o_goto 66), (92, o_ic 0 93), (93, o_ist 3 94), (94, o_ild 3 95), (95, o_ic 8 97), (97, o_ic_ge 117 100), (100, o_lld 1 101), (101, o_ald 0 102), (102, o_ild 3 103), (103, o_callV 4 m_X4_count 2 1 106), (106, o_i2l 107), (107, o_callS m_X4_mix 4 2 110), (110, o_lst 1 111), (111, o_iinc 3 1 114), (114, o_goto 94), (117, o_lld 1 118), (118, o_lret)]
def m_X4_digest : Nat → mm_T := mm_look k_X4_digest
set_option maxRecDepth 20000 in
theorem sp_X4_digest : mm_Sp yX4_digest cX4_digest 4 (some .long) { frames := 5, cells := 0, slots := 0, locals := 122 } m_X4_digest := by
  refine mm_sound (own := RX4) (code := k_X4_digest) (by decide) rfl ?_
  refine List.forall_mem_cons.mpr ⟨ok_aload_n (pc := 0) dX4_digest_0 rfl, ?_⟩
  refine List.forall_mem_cons.mpr ⟨ok_ldc2 (pc := 1) bw_96 dX4_digest_1, ?_⟩
  refine List.forall_mem_cons.mpr ⟨ok_callV (pc := 4) sp_X4_digestPlaces (ci := 4) (C := RX4) rfl (by decide) ⟨bw_97, bm_X4_digestPlaces⟩ (by decide) ⟨rfl, rfl, Nat.le_of_ble_eq_true rfl, Nat.le_of_ble_eq_true rfl⟩ dX4_digest_4, ?_⟩
  refine List.forall_mem_cons.mpr ⟨ok_lstore_n (pc := 7) dX4_digest_7 rfl, ?_⟩
  refine List.forall_mem_cons.mpr ⟨ok_iconst (pc := 8) dX4_digest_8 (by decide), ?_⟩
  refine List.forall_mem_cons.mpr ⟨ok_istore_n (pc := 9) dX4_digest_9 rfl, ?_⟩
  refine List.forall_mem_cons.mpr ⟨ok_iload_n (pc := 10) dX4_digest_10 rfl, ?_⟩
  refine List.forall_mem_cons.mpr ⟨ok_aload_n (pc := 11) dX4_digest_11 rfl, ?_⟩
  refine List.forall_mem_cons.mpr ⟨ok_getf (pc := 12) (k := 3) (C := RX4) (T := TX4) (N := 12) rfl (by decide) hin_X4 (by decide) hsz_X4 bw_42 dX4_digest_12, ?_⟩
  refine List.forall_mem_cons.mpr ⟨ok_getf (pc := 15) (k := 0) (C := RX3) (T := TX3) (N := 9) rfl (by decide) hin_X3 (by decide) hsz_X3 bw_57 dX4_digest_15, ?_⟩
  refine List.forall_mem_cons.mpr ⟨ok_icmp_ge (pc := 18) (tgt := 34) dX4_digest_18 (by decide), ?_⟩
  refine List.forall_mem_cons.mpr ⟨ok_aload_n (pc := 21) dX4_digest_21 rfl, ?_⟩
  refine List.forall_mem_cons.mpr ⟨ok_lload_n (pc := 22) dX4_digest_22 rfl, ?_⟩
  refine List.forall_mem_cons.mpr ⟨ok_iload_n (pc := 23) dX4_digest_23 rfl, ?_⟩
  refine List.forall_mem_cons.mpr ⟨ok_callV (pc := 24) sp_X4_digestPerson (ci := 4) (C := RX4) rfl (by decide) ⟨bw_98, bm_X4_digestPerson⟩ (by decide) ⟨rfl, rfl, Nat.le_of_ble_eq_true rfl, Nat.le_of_ble_eq_true rfl⟩ dX4_digest_24, ?_⟩
  refine List.forall_mem_cons.mpr ⟨ok_lstore_n (pc := 27) dX4_digest_27 rfl, ?_⟩
  refine List.forall_mem_cons.mpr ⟨ok_iinc (pc := 28) dX4_digest_28 (by decide), ?_⟩
  refine List.forall_mem_cons.mpr ⟨ok_goto (pc := 31) (tgt := 10) dX4_digest_31 (by decide), ?_⟩
  refine List.forall_mem_cons.mpr ⟨ok_aload_n (pc := 34) dX4_digest_34 rfl, ?_⟩
  refine List.forall_mem_cons.mpr ⟨ok_callV (pc := 35) sp_X4_hasDome (ci := 4) (C := RX4) rfl (by decide) ⟨bw_47, bm_X4_hasDome⟩ (by decide) ⟨rfl, rfl, Nat.le_of_ble_eq_true rfl, Nat.le_of_ble_eq_true rfl⟩ dX4_digest_35, ?_⟩
  refine List.forall_mem_cons.mpr ⟨ok_if_eq (pc := 38) (tgt := 64) dX4_digest_38 (by decide), ?_⟩
  refine List.forall_mem_cons.mpr ⟨ok_aload_n (pc := 41) dX4_digest_41 rfl, ?_⟩
  refine List.forall_mem_cons.mpr ⟨ok_callV (pc := 42) sp_X4_suspects (ci := 4) (C := RX4) rfl (by decide) ⟨bw_83, bm_X4_suspects⟩ (by decide) ⟨rfl, rfl, Nat.le_of_ble_eq_true rfl, Nat.le_of_ble_eq_true rfl⟩ dX4_digest_42, ?_⟩
  refine List.forall_mem_cons.mpr ⟨ok_istore_n (pc := 45) dX4_digest_45 rfl, ?_⟩
  refine List.forall_mem_cons.mpr ⟨ok_lload_n (pc := 46) dX4_digest_46 rfl, ?_⟩
  refine List.forall_mem_cons.mpr ⟨ok_iload_n (pc := 47) dX4_digest_47 rfl, ?_⟩
  refine List.forall_mem_cons.mpr ⟨ok_i2l (pc := 48) dX4_digest_48, ?_⟩
  refine List.forall_mem_cons.mpr ⟨ok_callS (pc := 49) sp_X4_mix ⟨bw_95, bs_X4_mix⟩ (by decide) ⟨rfl, rfl, Nat.le_of_ble_eq_true rfl, Nat.le_of_ble_eq_true rfl⟩ dX4_digest_49, ?_⟩
  refine List.forall_mem_cons.mpr ⟨ok_lstore_n (pc := 52) dX4_digest_52 rfl, ?_⟩
  refine List.forall_mem_cons.mpr ⟨ok_lload_n (pc := 53) dX4_digest_53 rfl, ?_⟩
  refine List.forall_mem_cons.mpr ⟨ok_aload_n (pc := 54) dX4_digest_54 rfl, ?_⟩
  refine List.forall_mem_cons.mpr ⟨ok_iload_n (pc := 55) dX4_digest_55 rfl, ?_⟩
  refine List.forall_mem_cons.mpr ⟨ok_callV (pc := 56) sp_X4_bestToAsk (ci := 4) (C := RX4) rfl (by decide) ⟨bw_86, bm_X4_bestToAsk⟩ (by decide) ⟨rfl, rfl, Nat.le_of_ble_eq_true rfl, Nat.le_of_ble_eq_true rfl⟩ dX4_digest_56, ?_⟩
  refine List.forall_mem_cons.mpr ⟨ok_i2l (pc := 59) dX4_digest_59, ?_⟩
  refine List.forall_mem_cons.mpr ⟨ok_callS (pc := 60) sp_X4_mix ⟨bw_95, bs_X4_mix⟩ (by decide) ⟨rfl, rfl, Nat.le_of_ble_eq_true rfl, Nat.le_of_ble_eq_true rfl⟩ dX4_digest_60, ?_⟩
  refine List.forall_mem_cons.mpr ⟨ok_lstore_n (pc := 63) dX4_digest_63 rfl, ?_⟩
  refine List.forall_mem_cons.mpr ⟨ok_iconst (pc := 64) dX4_digest_64 (by decide), ?_⟩
  refine List.forall_mem_cons.mpr ⟨ok_istore_n (pc := 65) dX4_digest_65 rfl, ?_⟩
  refine List.forall_mem_cons.mpr ⟨ok_iload_n (pc := 66) dX4_digest_66 rfl, ?_⟩
  refine List.forall_mem_cons.mpr ⟨ok_aload_n (pc := 67) dX4_digest_67 rfl, ?_⟩
  refine List.forall_mem_cons.mpr ⟨ok_getf (pc := 68) (k := 1) (C := RX4) (T := TX4) (N := 12) rfl (by decide) hin_X4 (by decide) hsz_X4 bw_36 dX4_digest_68, ?_⟩
  refine List.forall_mem_cons.mpr ⟨ok_icmp_ge (pc := 71) (tgt := 92) dX4_digest_71 (by decide), ?_⟩
  refine List.forall_mem_cons.mpr ⟨ok_lload_n (pc := 74) dX4_digest_74 rfl, ?_⟩
  refine List.forall_mem_cons.mpr ⟨ok_aload_n (pc := 75) dX4_digest_75 rfl, ?_⟩
  refine List.forall_mem_cons.mpr ⟨ok_getf (pc := 76) (k := 0) (C := RX4) (T := TX4) (N := 12) rfl (by decide) hin_X4 (by decide) hsz_X4 bw_37 dX4_digest_76, ?_⟩
  refine List.forall_mem_cons.mpr ⟨ok_iload_n (pc := 79) dX4_digest_79 rfl, ?_⟩
  refine List.forall_mem_cons.mpr ⟨ok_iald (pc := 80) dX4_digest_80, ?_⟩
  refine List.forall_mem_cons.mpr ⟨ok_i2l (pc := 81) dX4_digest_81, ?_⟩
  refine List.forall_mem_cons.mpr ⟨ok_callS (pc := 82) sp_X4_mix ⟨bw_95, bs_X4_mix⟩ (by decide) ⟨rfl, rfl, Nat.le_of_ble_eq_true rfl, Nat.le_of_ble_eq_true rfl⟩ dX4_digest_82, ?_⟩
  refine List.forall_mem_cons.mpr ⟨ok_lstore_n (pc := 85) dX4_digest_85 rfl, ?_⟩
  refine List.forall_mem_cons.mpr ⟨ok_iinc (pc := 86) dX4_digest_86 (by decide), ?_⟩
  refine List.forall_mem_cons.mpr ⟨ok_goto (pc := 89) (tgt := 66) dX4_digest_89 (by decide), ?_⟩
  refine List.forall_mem_cons.mpr ⟨ok_iconst (pc := 92) dX4_digest_92 (by decide), ?_⟩
  refine List.forall_mem_cons.mpr ⟨ok_istore_n (pc := 93) dX4_digest_93 rfl, ?_⟩
  refine List.forall_mem_cons.mpr ⟨ok_iload_n (pc := 94) dX4_digest_94 rfl, ?_⟩
  refine List.forall_mem_cons.mpr ⟨ok_bipush (pc := 95) dX4_digest_95 (by decide), ?_⟩
  refine List.forall_mem_cons.mpr ⟨ok_icmp_ge (pc := 97) (tgt := 117) dX4_digest_97 (by decide), ?_⟩
  refine List.forall_mem_cons.mpr ⟨ok_lload_n (pc := 100) dX4_digest_100 rfl, ?_⟩
  refine List.forall_mem_cons.mpr ⟨ok_aload_n (pc := 101) dX4_digest_101 rfl, ?_⟩
  refine List.forall_mem_cons.mpr ⟨ok_iload_n (pc := 102) dX4_digest_102 rfl, ?_⟩
  refine List.forall_mem_cons.mpr ⟨ok_callV (pc := 103) sp_X4_count (ci := 4) (C := RX4) rfl (by decide) ⟨bw_99, bm_X4_count⟩ (by decide) ⟨rfl, rfl, Nat.le_of_ble_eq_true rfl, Nat.le_of_ble_eq_true rfl⟩ dX4_digest_103, ?_⟩
  refine List.forall_mem_cons.mpr ⟨ok_i2l (pc := 106) dX4_digest_106, ?_⟩
  refine List.forall_mem_cons.mpr ⟨ok_callS (pc := 107) sp_X4_mix ⟨bw_95, bs_X4_mix⟩ (by decide) ⟨rfl, rfl, Nat.le_of_ble_eq_true rfl, Nat.le_of_ble_eq_true rfl⟩ dX4_digest_107, ?_⟩
  refine List.forall_mem_cons.mpr ⟨ok_lstore_n (pc := 110) dX4_digest_110 rfl, ?_⟩
  refine List.forall_mem_cons.mpr ⟨ok_iinc (pc := 111) dX4_digest_111 (by decide), ?_⟩
  refine List.forall_mem_cons.mpr ⟨ok_goto (pc := 114) (tgt := 94) dX4_digest_114 (by decide), ?_⟩
  refine List.forall_mem_cons.mpr ⟨ok_lload_n (pc := 117) dX4_digest_117 rfl, ?_⟩
  refine List.forall_mem_cons.mpr ⟨ok_lret (pc := 118) dX4_digest_118, ?_⟩
  exact fun _ h => absurd h List.not_mem_nil
