/-! the cases of the law (by gen_law.py) -/
theorem bl_13 : ((.methodLink RL 13 yX4_letter : Cond)) ∈ mm_big := mm_inb (by decide +kernel) rfl
theorem bl_17 : ((.methodLink RL 17 yX5_letter : Cond)) ∈ mm_big := mm_inb (by decide +kernel) rfl
theorem bl_18 : ((.methodLink RL 18 yX4_blank : Cond)) ∈ mm_big := mm_inb (by decide +kernel) rfl
theorem bl_22 : ((.methodLink RL 22 yX5_blank : Cond)) ∈ mm_big := mm_inb (by decide +kernel) rfl
theorem bl_23 : ((.methodLink RL 23 yX4_fault : Cond)) ∈ mm_big := mm_inb (by decide +kernel) rfl
theorem bl_26 : ((.methodLink RL 26 yX5_fault : Cond)) ∈ mm_big := mm_inb (by decide +kernel) rfl
theorem bl_27 : ((.methodLink RL 27 yX4_dome : Cond)) ∈ mm_big := mm_inb (by decide +kernel) rfl
theorem bl_30 : ((.methodLink RL 30 yX5_dome : Cond)) ∈ mm_big := mm_inb (by decide +kernel) rfl
theorem bl_31 : ((.methodLink RL 31 yX4_place : Cond)) ∈ mm_big := mm_inb (by decide +kernel) rfl
theorem bl_35 : ((.methodLink RL 35 yX5_place : Cond)) ∈ mm_big := mm_inb (by decide +kernel) rfl
theorem bl_36 : ((.methodLink RL 36 yX4_cloth : Cond)) ∈ mm_big := mm_inb (by decide +kernel) rfl
theorem bl_40 : ((.methodLink RL 40 yX5_cloth : Cond)) ∈ mm_big := mm_inb (by decide +kernel) rfl
theorem bl_41 : ((.methodLink RL 41 yX4_person : Cond)) ∈ mm_big := mm_inb (by decide +kernel) rfl
theorem bl_44 : ((.methodLink RL 44 yX5_person : Cond)) ∈ mm_big := mm_inb (by decide +kernel) rfl
theorem bl_45 : ((.methodLink RL 45 yX4_about : Cond)) ∈ mm_big := mm_inb (by decide +kernel) rfl
theorem bl_48 : ((.methodLink RL 48 yX5_about : Cond)) ∈ mm_big := mm_inb (by decide +kernel) rfl
theorem bl_49 : ((.methodLink RL 49 yX4_as : Cond)) ∈ mm_big := mm_inb (by decide +kernel) rfl
theorem bl_52 : ((.methodLink RL 52 yX5_as : Cond)) ∈ mm_big := mm_inb (by decide +kernel) rfl
theorem bl_53 : ((.methodLink RL 53 yX4_move : Cond)) ∈ mm_big := mm_inb (by decide +kernel) rfl
theorem bl_56 : ((.methodLink RL 56 yX5_move : Cond)) ∈ mm_big := mm_inb (by decide +kernel) rfl
theorem bl_57 : ((.methodLink RL 57 yX4_say : Cond)) ∈ mm_big := mm_inb (by decide +kernel) rfl
theorem bl_60 : ((.methodLink RL 60 yX5_say : Cond)) ∈ mm_big := mm_inb (by decide +kernel) rfl
theorem bl_61 : ((.methodLink RL 61 yX4_hears : Cond)) ∈ mm_big := mm_inb (by decide +kernel) rfl
theorem bl_64 : ((.methodLink RL 64 yX5_hears : Cond)) ∈ mm_big := mm_inb (by decide +kernel) rfl
theorem bl_65 : ((.methodLink RL 65 yX4_screens : Cond)) ∈ mm_big := mm_inb (by decide +kernel) rfl
theorem bl_69 : ((.methodLink RL 69 yX5_screens : Cond)) ∈ mm_big := mm_inb (by decide +kernel) rfl
theorem bl_70 : ((.methodLink RL 70 yX4_stand : Cond)) ∈ mm_big := mm_inb (by decide +kernel) rfl
theorem bl_73 : ((.methodLink RL 73 yX5_stand : Cond)) ∈ mm_big := mm_inb (by decide +kernel) rfl
theorem bl_74 : ((.methodLink RL 74 yX4_trial : Cond)) ∈ mm_big := mm_inb (by decide +kernel) rfl
theorem bl_77 : ((.methodLink RL 77 yX5_trial : Cond)) ∈ mm_big := mm_inb (by decide +kernel) rfl
theorem bl_78 : ((.methodLink RL 78 yX4_forget : Cond)) ∈ mm_big := mm_inb (by decide +kernel) rfl
theorem bl_81 : ((.methodLink RL 81 yX5_forget : Cond)) ∈ mm_big := mm_inb (by decide +kernel) rfl
theorem bl_82 : ((.methodLink RL 82 yX4_who : Cond)) ∈ mm_big := mm_inb (by decide +kernel) rfl
theorem bl_85 : ((.methodLink RL 85 yX5_who : Cond)) ∈ mm_big := mm_inb (by decide +kernel) rfl
theorem bl_86 : ((.methodLink RL 86 yX4_ask : Cond)) ∈ mm_big := mm_inb (by decide +kernel) rfl
theorem bl_89 : ((.methodLink RL 89 yX5_ask : Cond)) ∈ mm_big := mm_inb (by decide +kernel) rfl
theorem bl_90 : ((.methodLink RL 90 yX4_days : Cond)) ∈ mm_big := mm_inb (by decide +kernel) rfl
theorem bl_93 : ((.methodLink RL 93 yX5_days : Cond)) ∈ mm_big := mm_inb (by decide +kernel) rfl
theorem bl_94 : ((.methodLink RL 94 yX4_image : Cond)) ∈ mm_big := mm_inb (by decide +kernel) rfl
theorem bl_97 : ((.methodLink RL 97 yX5_image : Cond)) ∈ mm_big := mm_inb (by decide +kernel) rfl
theorem bl_98 : ((.methodLink RL 98 yX4_restore : Cond)) ∈ mm_big := mm_inb (by decide +kernel) rfl
theorem bl_101 : ((.methodLink RL 101 yX5_restore : Cond)) ∈ mm_big := mm_inb (by decide +kernel) rfl
theorem bl_102 : ((.methodLink RL 102 yX4_count : Cond)) ∈ mm_big := mm_inb (by decide +kernel) rfl
theorem bl_105 : ((.methodLink RL 105 yX5_count : Cond)) ∈ mm_big := mm_inb (by decide +kernel) rfl
theorem bl_106 : ((.methodLink RL 106 yX4_digest : Cond)) ∈ mm_big := mm_inb (by decide +kernel) rfl
theorem bl_110 : ((.methodLink RL 110 yX5_digest : Cond)) ∈ mm_big := mm_inb (by decide +kernel) rfl
def lz_C (p : Program) (s : State) (m : MethodId) (c : Code) (b L : Nat) (xs : Nat → Int32) (σ : Nat → Nat) (dC : Nat → ClassId) (dI : Nat → Nat → Nat) (cI : ClassId) : Prop :=
  p.tables.exec = Jvm.exec ∧ c.code = cL_law ∧ c.maxLocals = 4 ∧ s.vm.findClass RL = some m.cls ∧ (∀ w ∈ mm_big, w.before #[Value.ref b] s = true) ∧ va_K (dC, dI) vwCl [(cI, .int)] s ∧ (∀ w ∈ mm_nest, va_Nw w s) ∧ mm_inj σ ∧ (∀ q, mm_A σ q → s.heap.size ≤ q) ∧ va_X b L xs s s.heap ∧ b < s.heap.size
def lz_N (p : Program) (l : Launch) (e : Env) (s : State) (m : MethodId) (below : List Frame) (meth : Method) (c : Code) (b : Nat) (σ : Nat → Nat) (dC : Nat → ClassId) (dI : Nat → Nat → Nat) (cI : ClassId) (i : Int32) (n : Nat) : Prop :=
  ∀ (st : st_T) (μ : mm_M) (H : Heap) (locs : List Loc) (ls : Array Slot), AK n st → RX st μ → RM st μ → va_P (dC, dI) vwCl (mm_w σ cI μ) H → va_S (fun q => s.heap.size ≤ q) s.heap H locs → lv_has ls 4 [(3, .int i), (2, .ref (σ 21)), (1, .ref (σ 0)), (0, .ref b)] → W p l e room_1 s m #[Value.ref b] below meth c H locs 31 299 (lw_Z below #[Value.ref b] s) (F0 m 752 ls [])
theorem lz_arg {p : Program} {l : Launch} {e : Env} {s : State} {m : MethodId} {below : List Frame} {meth : Method} {c : Code} {b L : Nat} {xs : Nat → Int32} {σ : Nat → Nat} {dC : Nat → ClassId} {dI : Nat → Nat → Nat} {cI : ClassId} {H : Heap} {locs : List Loc} {ls : Array Slot} {i : Int32} {k j pc : Nat} {v : Int} {rest : List Value} {Q : State → Prop} (C : lz_C p s m c b L xs σ dC dI cI) (hL : L ≤ 256) (hi : i = nI k) (hk : k + 4 ≤ L) (hj : j < 4) (hS : va_S (fun q => s.heap.size ≤ q) s.heap H locs) (hl : lv_has ls 4 [(3, .int i), (2, .ref (σ 21)), (1, .ref (σ 0)), (0, .ref b)]) (hv : Int32.ofInt v = nI j) (d0 : decode cL_law pc = .ok (.aload_n 0, 1)) (d1 : decode cL_law (pc + 1) = .ok (.iload_n 3, 1)) (d2 : decode cL_law (pc + 2) = .ok (.iconst v, 1)) (d3 : decode cL_law (pc + 3) = .ok (.iadd, 1)) (d4 : decode cL_law (pc + 4) = .ok (.iaload, 1))
    (kk : W p l e room_1 s m #[Value.ref b] below meth c H locs 31 299 Q (F0 m (pc + 5) ls (.int (xs (k + j)) :: rest))) : W p l e room_1 s m #[Value.ref b] below meth c H locs 31 299 Q (F0 m pc ls rest) := by
  obtain ⟨hx, hb, hml, hown, hts, hK, hN, hinj, hA, hX, hbl⟩ := C
  refine lv_aload_n hx hb d0 rfl (lv_at hl 3 rfl) ?_
  refine lv_iload_n hx hb d1 rfl (lv_at hl 0 rfl) ?_
  refine lv_iconst (v := nI j) hx hb d2 hv ?_
  refine lv_iadd hx hb d3 ?_
  rw [hi, nI_add]
  refine va_sld (A := fun q => s.heap.size ≤ q) (i := nI (k + j)) hx hb hX hbl (Nat.not_le.mpr hbl) hS (ar_in (by omega) (by omega)) d4 ?_
  rw [ar_cl (by omega)]
  exact kk
set_option maxHeartbeats 4000000 in
set_option maxRecDepth 100000 in
theorem lz_letter {p : Program} {l : Launch} {e : Env} {s : State} {m : MethodId} {below : List Frame} {meth : Method} {c : Code} {b L : Nat} {xs : Nat → Int32} {σ : Nat → Nat} {dC : Nat → ClassId} {dI : Nat → Nat → Nat} {cI : ClassId} {H : Heap} {locs : List Loc} {ls : Array Slot} {i : Int32} {k n : Nat} {st : st_T} {μ : mm_M} (C : lz_C p s m c b L xs σ dC dI cI) (hL : L ≤ 256) (hi : i = nI k) (hk : k + 4 ≤ L) (hn : n < 900) (hk1 : AK n st) (hRX : RX st μ) (hRM : RM st μ) (hP : va_P (dC, dI) vwCl (mm_w σ cI μ) H) (hS : va_S (fun q => s.heap.size ≤ q) s.heap H locs) (hl : lv_has ls 4 [(3, .int i), (2, .ref (σ 21)), (1, .ref (σ 0)), (0, .ref b)]) (hnext : lz_N p l e s m below meth c b σ dC dI cI i (n + 1)) : W p l e room_1 s m #[Value.ref b] below meth c H locs 31 299 (lw_Z below #[Value.ref b] s) (F0 m 140 ls []) := by
  obtain ⟨hx, hb, hml, hown, hts, hK, hN, hinj, hA, hX, hbl⟩ := id C
  refine lv_aload_n hx hb dL_law_140 rfl (lv_at hl 2 rfl) ?_
  refine lz_arg (j := 1) C hL hi hk (by decide) hS hl (by decide) dL_law_141 dL_law_142 dL_law_143 dL_law_144 dL_law_145 ?_
  refine mm_after hA (mm_callV (n := 1) (r := 0) (ci := 4) (C := RX4) (as := [.int (xs (k + 1))]) (rest := []) (Qr := fun v μ' => v = some (.int ((F_letter st (xs (k + 1))).1)) ∧ fr XA μ μ' ∧ RX (F_letter st (xs (k + 1))).2 μ') hx hb hml hown hts hK hN hinj hl.1 sp_X4_letter rfl (by decide) ⟨bl_13, bm_X4_letter⟩ (by decide) ⟨rfl, rfl, Nat.le_of_ble_eq_true rfl, Nat.le_of_ble_eq_true rfl⟩ dL_law_146 hP rfl rfl (Nat.le_of_ble_eq_true rfl) (Nat.le_of_ble_eq_true rfl) (r_xletter hk1.1 hRX (fun μ' f R => ⟨rfl, f, R⟩)) ⟨Nat.le_of_ble_eq_true rfl, Nat.le_of_ble_eq_true rfl⟩) hS (fun v μ1 H1 locs1 hq hP hS _ => ?_)
  obtain ⟨rfl, f1, R1⟩ := hq
  refine W.eq (g2 := F0 m 149 ls [.int ((F_letter st (xs (k + 1))).1)]) rfl ?_
  refine lv_aload_n hx hb dL_law_149 rfl (lv_at hl 1 rfl) ?_
  refine lz_arg (j := 1) C hL hi hk (by decide) hS hl (by decide) dL_law_150 dL_law_151 dL_law_152 dL_law_153 dL_law_154 ?_
  refine mm_after hA (mm_callV (n := 1) (r := 21) (ci := 5) (C := RX5) (as := [.int (xs (k + 1))]) (rest := [.int ((F_letter st (xs (k + 1))).1)]) (Qr := fun v μ' => v = some (.int ((F_letter st (xs (k + 1))).1)) ∧ fr MA μ1 μ' ∧ RM (F_letter st (xs (k + 1))).2 μ') hx hb hml hown hts hK hN hinj hl.1 sp_X5_letter rfl (by decide) ⟨bl_17, bm_X5_letter⟩ (by decide) ⟨rfl, rfl, Nat.le_of_ble_eq_true rfl, Nat.le_of_ble_eq_true rfl⟩ dL_law_155 hP rfl rfl (Nat.le_of_ble_eq_true rfl) (Nat.le_of_ble_eq_true rfl) (r_mletter hk1.1 (RM_X hRM f1) (fun μ' f R => ⟨rfl, f, R⟩)) ⟨Nat.le_of_ble_eq_true rfl, Nat.le_of_ble_eq_true rfl⟩) hS (fun v μ2 H2 locs2 hq hP hS _ => ?_)
  obtain ⟨rfl, f2, R2⟩ := hq
  refine W.eq (g2 := F0 m 158 ls [.int ((F_letter st (xs (k + 1))).1), .int ((F_letter st (xs (k + 1))).1)]) rfl ?_
  refine lv_icmp_eq (tgt := 752) hx hb dL_law_158 (by decide) (fun _ => ?_) (fun z => absurd rfl z)
  exact hnext _ _ _ _ _ (k_letter hk1) (RX_M R1 f2) R2 hP hS hl
set_option maxHeartbeats 4000000 in
set_option maxRecDepth 100000 in
theorem lz_blank {p : Program} {l : Launch} {e : Env} {s : State} {m : MethodId} {below : List Frame} {meth : Method} {c : Code} {b L : Nat} {xs : Nat → Int32} {σ : Nat → Nat} {dC : Nat → ClassId} {dI : Nat → Nat → Nat} {cI : ClassId} {H : Heap} {locs : List Loc} {ls : Array Slot} {i : Int32} {k n : Nat} {st : st_T} {μ : mm_M} (C : lz_C p s m c b L xs σ dC dI cI) (hL : L ≤ 256) (hi : i = nI k) (hk : k + 4 ≤ L) (hn : n < 900) (hk1 : AK n st) (hRX : RX st μ) (hRM : RM st μ) (hP : va_P (dC, dI) vwCl (mm_w σ cI μ) H) (hS : va_S (fun q => s.heap.size ≤ q) s.heap H locs) (hl : lv_has ls 4 [(3, .int i), (2, .ref (σ 21)), (1, .ref (σ 0)), (0, .ref b)]) (hnext : lz_N p l e s m below meth c b σ dC dI cI i (n + 1)) : W p l e room_1 s m #[Value.ref b] below meth c H locs 31 299 (lw_Z below #[Value.ref b] s) (F0 m 163 ls []) := by
  obtain ⟨hx, hb, hml, hown, hts, hK, hN, hinj, hA, hX, hbl⟩ := id C
  refine lv_aload_n hx hb dL_law_163 rfl (lv_at hl 2 rfl) ?_
  refine mm_after hA (mm_callV (n := 0) (r := 0) (ci := 4) (C := RX4) (as := []) (rest := []) (Qr := fun v μ' => v = some (.int ((F_blank st ).1)) ∧ fr XA μ μ' ∧ RX (F_blank st ).2 μ') hx hb hml hown hts hK hN hinj hl.1 sp_X4_blank rfl (by decide) ⟨bl_18, bm_X4_blank⟩ (by decide) ⟨rfl, rfl, Nat.le_of_ble_eq_true rfl, Nat.le_of_ble_eq_true rfl⟩ dL_law_164 hP rfl rfl (Nat.le_of_ble_eq_true rfl) (Nat.le_of_ble_eq_true rfl) (r_xblank hRX (fun μ' f R => ⟨rfl, f, R⟩)) ⟨Nat.le_of_ble_eq_true rfl, Nat.le_of_ble_eq_true rfl⟩) hS (fun v μ1 H1 locs1 hq hP hS _ => ?_)
  obtain ⟨rfl, f1, R1⟩ := hq
  refine W.eq (g2 := F0 m 167 ls [.int ((F_blank st ).1)]) rfl ?_
  refine lv_aload_n hx hb dL_law_167 rfl (lv_at hl 1 rfl) ?_
  refine mm_after hA (mm_callV (n := 0) (r := 21) (ci := 5) (C := RX5) (as := []) (rest := [.int ((F_blank st ).1)]) (Qr := fun v μ' => v = some (.int ((F_blank st ).1)) ∧ fr MA μ1 μ' ∧ RM (F_blank st ).2 μ') hx hb hml hown hts hK hN hinj hl.1 sp_X5_blank rfl (by decide) ⟨bl_22, bm_X5_blank⟩ (by decide) ⟨rfl, rfl, Nat.le_of_ble_eq_true rfl, Nat.le_of_ble_eq_true rfl⟩ dL_law_168 hP rfl rfl (Nat.le_of_ble_eq_true rfl) (Nat.le_of_ble_eq_true rfl) (r_mblank (RM_X hRM f1) (fun μ' f R => ⟨rfl, f, R⟩)) ⟨Nat.le_of_ble_eq_true rfl, Nat.le_of_ble_eq_true rfl⟩) hS (fun v μ2 H2 locs2 hq hP hS _ => ?_)
  obtain ⟨rfl, f2, R2⟩ := hq
  refine W.eq (g2 := F0 m 171 ls [.int ((F_blank st ).1), .int ((F_blank st ).1)]) rfl ?_
  refine lv_icmp_eq (tgt := 752) hx hb dL_law_171 (by decide) (fun _ => ?_) (fun z => absurd rfl z)
  exact hnext _ _ _ _ _ (k_blank hk1) (RX_M R1 f2) R2 hP hS hl
set_option maxHeartbeats 4000000 in
set_option maxRecDepth 100000 in
theorem lz_fault {p : Program} {l : Launch} {e : Env} {s : State} {m : MethodId} {below : List Frame} {meth : Method} {c : Code} {b L : Nat} {xs : Nat → Int32} {σ : Nat → Nat} {dC : Nat → ClassId} {dI : Nat → Nat → Nat} {cI : ClassId} {H : Heap} {locs : List Loc} {ls : Array Slot} {i : Int32} {k n : Nat} {st : st_T} {μ : mm_M} (C : lz_C p s m c b L xs σ dC dI cI) (hL : L ≤ 256) (hi : i = nI k) (hk : k + 4 ≤ L) (hn : n < 900) (hk1 : AK n st) (hRX : RX st μ) (hRM : RM st μ) (hP : va_P (dC, dI) vwCl (mm_w σ cI μ) H) (hS : va_S (fun q => s.heap.size ≤ q) s.heap H locs) (hl : lv_has ls 4 [(3, .int i), (2, .ref (σ 21)), (1, .ref (σ 0)), (0, .ref b)]) (hnext : lz_N p l e s m below meth c b σ dC dI cI i (n + 1)) : W p l e room_1 s m #[Value.ref b] below meth c H locs 31 299 (lw_Z below #[Value.ref b] s) (F0 m 176 ls []) := by
  obtain ⟨hx, hb, hml, hown, hts, hK, hN, hinj, hA, hX, hbl⟩ := id C
  refine lv_aload_n hx hb dL_law_176 rfl (lv_at hl 2 rfl) ?_
  refine mm_after hA (mm_callV (n := 0) (r := 0) (ci := 4) (C := RX4) (as := []) (rest := []) (Qr := fun v μ' => v = some (.int (A_fault st )) ∧ fr XA μ μ' ∧ RX st μ') hx hb hml hown hts hK hN hinj hl.1 sp_X4_fault rfl (by decide) ⟨bl_23, bm_X4_fault⟩ (by decide) ⟨rfl, rfl, Nat.le_of_ble_eq_true rfl, Nat.le_of_ble_eq_true rfl⟩ dL_law_177 hP rfl rfl (Nat.le_of_ble_eq_true rfl) (Nat.le_of_ble_eq_true rfl) (r_xfault hk1.1 hRX ⟨rfl, fr_rf _ _, hRX⟩) ⟨Nat.le_of_ble_eq_true rfl, Nat.le_of_ble_eq_true rfl⟩) hS (fun v μ1 H1 locs1 hq hP hS _ => ?_)
  obtain ⟨rfl, f1, R1⟩ := hq
  refine W.eq (g2 := F0 m 180 ls [.int (A_fault st )]) rfl ?_
  refine lv_aload_n hx hb dL_law_180 rfl (lv_at hl 1 rfl) ?_
  refine mm_after hA (mm_callV (n := 0) (r := 21) (ci := 5) (C := RX5) (as := []) (rest := [.int (A_fault st )]) (Qr := fun v μ' => v = some (.int (A_fault st )) ∧ fr MA μ1 μ' ∧ RM st μ') hx hb hml hown hts hK hN hinj hl.1 sp_X5_fault rfl (by decide) ⟨bl_26, bm_X5_fault⟩ (by decide) ⟨rfl, rfl, Nat.le_of_ble_eq_true rfl, Nat.le_of_ble_eq_true rfl⟩ dL_law_181 hP rfl rfl (Nat.le_of_ble_eq_true rfl) (Nat.le_of_ble_eq_true rfl) (r_mfault hk1.1 (RM_X hRM f1) ⟨rfl, fr_rf _ _, (RM_X hRM f1)⟩) ⟨Nat.le_of_ble_eq_true rfl, Nat.le_of_ble_eq_true rfl⟩) hS (fun v μ2 H2 locs2 hq hP hS _ => ?_)
  obtain ⟨rfl, f2, R2⟩ := hq
  refine W.eq (g2 := F0 m 184 ls [.int (A_fault st ), .int (A_fault st )]) rfl ?_
  refine lv_icmp_eq (tgt := 752) hx hb dL_law_184 (by decide) (fun _ => ?_) (fun z => absurd rfl z)
  exact hnext _ _ _ _ _ (AK_u hk1) (RX_M R1 f2) R2 hP hS hl
set_option maxHeartbeats 4000000 in
set_option maxRecDepth 100000 in
theorem lz_dome {p : Program} {l : Launch} {e : Env} {s : State} {m : MethodId} {below : List Frame} {meth : Method} {c : Code} {b L : Nat} {xs : Nat → Int32} {σ : Nat → Nat} {dC : Nat → ClassId} {dI : Nat → Nat → Nat} {cI : ClassId} {H : Heap} {locs : List Loc} {ls : Array Slot} {i : Int32} {k n : Nat} {st : st_T} {μ : mm_M} (C : lz_C p s m c b L xs σ dC dI cI) (hL : L ≤ 256) (hi : i = nI k) (hk : k + 4 ≤ L) (hn : n < 900) (hk1 : AK n st) (hRX : RX st μ) (hRM : RM st μ) (hP : va_P (dC, dI) vwCl (mm_w σ cI μ) H) (hS : va_S (fun q => s.heap.size ≤ q) s.heap H locs) (hl : lv_has ls 4 [(3, .int i), (2, .ref (σ 21)), (1, .ref (σ 0)), (0, .ref b)]) (hnext : lz_N p l e s m below meth c b σ dC dI cI i (n + 1)) : W p l e room_1 s m #[Value.ref b] below meth c H locs 31 299 (lw_Z below #[Value.ref b] s) (F0 m 189 ls []) := by
  obtain ⟨hx, hb, hml, hown, hts, hK, hN, hinj, hA, hX, hbl⟩ := id C
  refine lv_aload_n hx hb dL_law_189 rfl (lv_at hl 2 rfl) ?_
  refine mm_after hA (mm_callV (n := 0) (r := 0) (ci := 4) (C := RX4) (as := []) (rest := []) (Qr := fun v μ' => v = some (.int ((F_dome st ).1)) ∧ fr XA μ μ' ∧ RX (F_dome st ).2 μ') hx hb hml hown hts hK hN hinj hl.1 sp_X4_dome rfl (by decide) ⟨bl_27, bm_X4_dome⟩ (by decide) ⟨rfl, rfl, Nat.le_of_ble_eq_true rfl, Nat.le_of_ble_eq_true rfl⟩ dL_law_190 hP rfl rfl (Nat.le_of_ble_eq_true rfl) (Nat.le_of_ble_eq_true rfl) (r_xdome hk1.1 hRX (fun μ' f R => ⟨rfl, f, R⟩)) ⟨Nat.le_of_ble_eq_true rfl, Nat.le_of_ble_eq_true rfl⟩) hS (fun v μ1 H1 locs1 hq hP hS _ => ?_)
  obtain ⟨rfl, f1, R1⟩ := hq
  refine W.eq (g2 := F0 m 193 ls [.int ((F_dome st ).1)]) rfl ?_
  refine lv_aload_n hx hb dL_law_193 rfl (lv_at hl 1 rfl) ?_
  refine mm_after hA (mm_callV (n := 0) (r := 21) (ci := 5) (C := RX5) (as := []) (rest := [.int ((F_dome st ).1)]) (Qr := fun v μ' => v = some (.int ((F_dome st ).1)) ∧ fr MA μ1 μ' ∧ RM (F_dome st ).2 μ') hx hb hml hown hts hK hN hinj hl.1 sp_X5_dome rfl (by decide) ⟨bl_30, bm_X5_dome⟩ (by decide) ⟨rfl, rfl, Nat.le_of_ble_eq_true rfl, Nat.le_of_ble_eq_true rfl⟩ dL_law_194 hP rfl rfl (Nat.le_of_ble_eq_true rfl) (Nat.le_of_ble_eq_true rfl) (r_mdome hk1.1 (RM_X hRM f1) (fun μ' f R => ⟨rfl, f, R⟩)) ⟨Nat.le_of_ble_eq_true rfl, Nat.le_of_ble_eq_true rfl⟩) hS (fun v μ2 H2 locs2 hq hP hS _ => ?_)
  obtain ⟨rfl, f2, R2⟩ := hq
  refine W.eq (g2 := F0 m 197 ls [.int ((F_dome st ).1), .int ((F_dome st ).1)]) rfl ?_
  refine lv_icmp_eq (tgt := 752) hx hb dL_law_197 (by decide) (fun _ => ?_) (fun z => absurd rfl z)
  exact hnext _ _ _ _ _ (k_dome (by omega) hk1) (RX_M R1 f2) R2 hP hS hl
set_option maxHeartbeats 4000000 in
set_option maxRecDepth 100000 in
theorem lz_place {p : Program} {l : Launch} {e : Env} {s : State} {m : MethodId} {below : List Frame} {meth : Method} {c : Code} {b L : Nat} {xs : Nat → Int32} {σ : Nat → Nat} {dC : Nat → ClassId} {dI : Nat → Nat → Nat} {cI : ClassId} {H : Heap} {locs : List Loc} {ls : Array Slot} {i : Int32} {k n : Nat} {st : st_T} {μ : mm_M} (C : lz_C p s m c b L xs σ dC dI cI) (hL : L ≤ 256) (hi : i = nI k) (hk : k + 4 ≤ L) (hn : n < 900) (hk1 : AK n st) (hRX : RX st μ) (hRM : RM st μ) (hP : va_P (dC, dI) vwCl (mm_w σ cI μ) H) (hS : va_S (fun q => s.heap.size ≤ q) s.heap H locs) (hl : lv_has ls 4 [(3, .int i), (2, .ref (σ 21)), (1, .ref (σ 0)), (0, .ref b)]) (hnext : lz_N p l e s m below meth c b σ dC dI cI i (n + 1)) : W p l e room_1 s m #[Value.ref b] below meth c H locs 31 299 (lw_Z below #[Value.ref b] s) (F0 m 202 ls []) := by
  obtain ⟨hx, hb, hml, hown, hts, hK, hN, hinj, hA, hX, hbl⟩ := id C
  refine lv_aload_n hx hb dL_law_202 rfl (lv_at hl 2 rfl) ?_
  refine lz_arg (j := 1) C hL hi hk (by decide) hS hl (by decide) dL_law_203 dL_law_204 dL_law_205 dL_law_206 dL_law_207 ?_
  refine lz_arg (j := 2) C hL hi hk (by decide) hS hl (by decide) dL_law_208 dL_law_209 dL_law_210 dL_law_211 dL_law_212 ?_
  refine mm_after hA (mm_callV (n := 2) (r := 0) (ci := 4) (C := RX4) (as := [.int (xs (k + 1)), .int (xs (k + 2))]) (rest := []) (Qr := fun v μ' => v = some (.int (A_place st (xs (k + 1)) (xs (k + 2)))) ∧ fr XA μ μ' ∧ RX st μ') hx hb hml hown hts hK hN hinj hl.1 sp_X4_place rfl (by decide) ⟨bl_31, bm_X4_place⟩ (by decide) ⟨rfl, rfl, Nat.le_of_ble_eq_true rfl, Nat.le_of_ble_eq_true rfl⟩ dL_law_213 hP rfl rfl (Nat.le_of_ble_eq_true rfl) (Nat.le_of_ble_eq_true rfl) (r_xplace hk1.1 hRX ⟨rfl, fr_rf _ _, hRX⟩) ⟨Nat.le_of_ble_eq_true rfl, Nat.le_of_ble_eq_true rfl⟩) hS (fun v μ1 H1 locs1 hq hP hS _ => ?_)
  obtain ⟨rfl, f1, R1⟩ := hq
  refine W.eq (g2 := F0 m 216 ls [.int (A_place st (xs (k + 1)) (xs (k + 2)))]) rfl ?_
  refine lv_aload_n hx hb dL_law_216 rfl (lv_at hl 1 rfl) ?_
  refine lz_arg (j := 1) C hL hi hk (by decide) hS hl (by decide) dL_law_217 dL_law_218 dL_law_219 dL_law_220 dL_law_221 ?_
  refine lz_arg (j := 2) C hL hi hk (by decide) hS hl (by decide) dL_law_222 dL_law_223 dL_law_224 dL_law_225 dL_law_226 ?_
  refine mm_after hA (mm_callV (n := 2) (r := 21) (ci := 5) (C := RX5) (as := [.int (xs (k + 1)), .int (xs (k + 2))]) (rest := [.int (A_place st (xs (k + 1)) (xs (k + 2)))]) (Qr := fun v μ' => v = some (.int (A_place st (xs (k + 1)) (xs (k + 2)))) ∧ fr MA μ1 μ' ∧ RM st μ') hx hb hml hown hts hK hN hinj hl.1 sp_X5_place rfl (by decide) ⟨bl_35, bm_X5_place⟩ (by decide) ⟨rfl, rfl, Nat.le_of_ble_eq_true rfl, Nat.le_of_ble_eq_true rfl⟩ dL_law_227 hP rfl rfl (Nat.le_of_ble_eq_true rfl) (Nat.le_of_ble_eq_true rfl) (r_mplace hk1.1 (RM_X hRM f1) ⟨rfl, fr_rf _ _, (RM_X hRM f1)⟩) ⟨Nat.le_of_ble_eq_true rfl, Nat.le_of_ble_eq_true rfl⟩) hS (fun v μ2 H2 locs2 hq hP hS _ => ?_)
  obtain ⟨rfl, f2, R2⟩ := hq
  refine W.eq (g2 := F0 m 230 ls [.int (A_place st (xs (k + 1)) (xs (k + 2))), .int (A_place st (xs (k + 1)) (xs (k + 2)))]) rfl ?_
  refine lv_icmp_eq (tgt := 752) hx hb dL_law_230 (by decide) (fun _ => ?_) (fun z => absurd rfl z)
  exact hnext _ _ _ _ _ (AK_u hk1) (RX_M R1 f2) R2 hP hS hl
set_option maxHeartbeats 4000000 in
set_option maxRecDepth 100000 in
theorem lz_cloth {p : Program} {l : Launch} {e : Env} {s : State} {m : MethodId} {below : List Frame} {meth : Method} {c : Code} {b L : Nat} {xs : Nat → Int32} {σ : Nat → Nat} {dC : Nat → ClassId} {dI : Nat → Nat → Nat} {cI : ClassId} {H : Heap} {locs : List Loc} {ls : Array Slot} {i : Int32} {k n : Nat} {st : st_T} {μ : mm_M} (C : lz_C p s m c b L xs σ dC dI cI) (hL : L ≤ 256) (hi : i = nI k) (hk : k + 4 ≤ L) (hn : n < 900) (hk1 : AK n st) (hRX : RX st μ) (hRM : RM st μ) (hP : va_P (dC, dI) vwCl (mm_w σ cI μ) H) (hS : va_S (fun q => s.heap.size ≤ q) s.heap H locs) (hl : lv_has ls 4 [(3, .int i), (2, .ref (σ 21)), (1, .ref (σ 0)), (0, .ref b)]) (hnext : lz_N p l e s m below meth c b σ dC dI cI i (n + 1)) : W p l e room_1 s m #[Value.ref b] below meth c H locs 31 299 (lw_Z below #[Value.ref b] s) (F0 m 235 ls []) := by
  obtain ⟨hx, hb, hml, hown, hts, hK, hN, hinj, hA, hX, hbl⟩ := id C
  by_cases zb : xs (k + 2) = 0
  · refine lv_aload_n hx hb dL_law_235 rfl (lv_at hl 2 rfl) ?_
    refine lz_arg (j := 1) C hL hi hk (by decide) hS hl (by decide) dL_law_236 dL_law_237 dL_law_238 dL_law_239 dL_law_240 ?_
    refine lz_arg (j := 2) C hL hi hk (by decide) hS hl (by decide) dL_law_241 dL_law_242 dL_law_243 dL_law_244 dL_law_245 ?_
    refine lv_if_eq (tgt := 253) hx hb dL_law_246 (by decide) (fun _ => ?_) (fun z => absurd zb z)
    refine lv_iconst (v := 0) hx hb dL_law_253 (by decide) ?_
    refine mm_after hA (mm_callV (n := 2) (r := 0) (ci := 4) (C := RX4) (as := [.int (xs (k + 1)), .int (0)]) (rest := []) (Qr := fun v μ' => v = some (.int ((F_cloth st (xs (k + 1)) (0)).1)) ∧ fr XA μ μ' ∧ RX (F_cloth st (xs (k + 1)) (0)).2 μ') hx hb hml hown hts hK hN hinj hl.1 sp_X4_cloth rfl (by decide) ⟨bl_36, bm_X4_cloth⟩ (by decide) ⟨rfl, rfl, Nat.le_of_ble_eq_true rfl, Nat.le_of_ble_eq_true rfl⟩ dL_law_254 hP rfl rfl (Nat.le_of_ble_eq_true rfl) (Nat.le_of_ble_eq_true rfl) (r_xcloth hk1.1 hRX (fun μ' f R => ⟨rfl, f, R⟩)) ⟨Nat.le_of_ble_eq_true rfl, Nat.le_of_ble_eq_true rfl⟩) hS (fun v μ1 H1 locs1 hq hP hS _ => ?_)
    obtain ⟨rfl, f1, R1⟩ := hq
    refine W.eq (g2 := F0 m 257 ls [.int ((F_cloth st (xs (k + 1)) (0)).1)]) rfl ?_
    refine lv_aload_n hx hb dL_law_257 rfl (lv_at hl 1 rfl) ?_
    refine lz_arg (j := 1) C hL hi hk (by decide) hS hl (by decide) dL_law_258 dL_law_259 dL_law_260 dL_law_261 dL_law_262 ?_
    refine lz_arg (j := 2) C hL hi hk (by decide) hS hl (by decide) dL_law_263 dL_law_264 dL_law_265 dL_law_266 dL_law_267 ?_
    refine lv_if_eq (tgt := 275) hx hb dL_law_268 (by decide) (fun _ => ?_) (fun z => absurd zb z)
    refine lv_iconst (v := 0) hx hb dL_law_275 (by decide) ?_
    refine mm_after hA (mm_callV (n := 2) (r := 21) (ci := 5) (C := RX5) (as := [.int (xs (k + 1)), .int (0)]) (rest := [.int ((F_cloth st (xs (k + 1)) (0)).1)]) (Qr := fun v μ' => v = some (.int ((F_cloth st (xs (k + 1)) (0)).1)) ∧ fr MA μ1 μ' ∧ RM (F_cloth st (xs (k + 1)) (0)).2 μ') hx hb hml hown hts hK hN hinj hl.1 sp_X5_cloth rfl (by decide) ⟨bl_40, bm_X5_cloth⟩ (by decide) ⟨rfl, rfl, Nat.le_of_ble_eq_true rfl, Nat.le_of_ble_eq_true rfl⟩ dL_law_276 hP rfl rfl (Nat.le_of_ble_eq_true rfl) (Nat.le_of_ble_eq_true rfl) (r_mcloth hk1.1 (RM_X hRM f1) (fun μ' f R => ⟨rfl, f, R⟩)) ⟨Nat.le_of_ble_eq_true rfl, Nat.le_of_ble_eq_true rfl⟩) hS (fun v μ2 H2 locs2 hq hP hS _ => ?_)
    obtain ⟨rfl, f2, R2⟩ := hq
    refine W.eq (g2 := F0 m 279 ls [.int ((F_cloth st (xs (k + 1)) (0)).1), .int ((F_cloth st (xs (k + 1)) (0)).1)]) rfl ?_
    refine lv_icmp_eq (tgt := 752) hx hb dL_law_279 (by decide) (fun _ => ?_) (fun z => absurd rfl z)
    exact hnext _ _ _ _ _ (k_cloth hk1) (RX_M R1 f2) R2 hP hS hl
  · refine lv_aload_n hx hb dL_law_235 rfl (lv_at hl 2 rfl) ?_
    refine lz_arg (j := 1) C hL hi hk (by decide) hS hl (by decide) dL_law_236 dL_law_237 dL_law_238 dL_law_239 dL_law_240 ?_
    refine lz_arg (j := 2) C hL hi hk (by decide) hS hl (by decide) dL_law_241 dL_law_242 dL_law_243 dL_law_244 dL_law_245 ?_
    refine lv_if_eq (tgt := 253) hx hb dL_law_246 (by decide) (fun z => absurd z zb) (fun _ => ?_)
    refine lv_iconst (v := 1) hx hb dL_law_249 (by decide) ?_
    refine lv_goto (tgt := 254) hx hb dL_law_250 (by decide) ?_
    refine mm_after hA (mm_callV (n := 2) (r := 0) (ci := 4) (C := RX4) (as := [.int (xs (k + 1)), .int (1)]) (rest := []) (Qr := fun v μ' => v = some (.int ((F_cloth st (xs (k + 1)) (1)).1)) ∧ fr XA μ μ' ∧ RX (F_cloth st (xs (k + 1)) (1)).2 μ') hx hb hml hown hts hK hN hinj hl.1 sp_X4_cloth rfl (by decide) ⟨bl_36, bm_X4_cloth⟩ (by decide) ⟨rfl, rfl, Nat.le_of_ble_eq_true rfl, Nat.le_of_ble_eq_true rfl⟩ dL_law_254 hP rfl rfl (Nat.le_of_ble_eq_true rfl) (Nat.le_of_ble_eq_true rfl) (r_xcloth hk1.1 hRX (fun μ' f R => ⟨rfl, f, R⟩)) ⟨Nat.le_of_ble_eq_true rfl, Nat.le_of_ble_eq_true rfl⟩) hS (fun v μ1 H1 locs1 hq hP hS _ => ?_)
    obtain ⟨rfl, f1, R1⟩ := hq
    refine W.eq (g2 := F0 m 257 ls [.int ((F_cloth st (xs (k + 1)) (1)).1)]) rfl ?_
    refine lv_aload_n hx hb dL_law_257 rfl (lv_at hl 1 rfl) ?_
    refine lz_arg (j := 1) C hL hi hk (by decide) hS hl (by decide) dL_law_258 dL_law_259 dL_law_260 dL_law_261 dL_law_262 ?_
    refine lz_arg (j := 2) C hL hi hk (by decide) hS hl (by decide) dL_law_263 dL_law_264 dL_law_265 dL_law_266 dL_law_267 ?_
    refine lv_if_eq (tgt := 275) hx hb dL_law_268 (by decide) (fun z => absurd z zb) (fun _ => ?_)
    refine lv_iconst (v := 1) hx hb dL_law_271 (by decide) ?_
    refine lv_goto (tgt := 276) hx hb dL_law_272 (by decide) ?_
    refine mm_after hA (mm_callV (n := 2) (r := 21) (ci := 5) (C := RX5) (as := [.int (xs (k + 1)), .int (1)]) (rest := [.int ((F_cloth st (xs (k + 1)) (1)).1)]) (Qr := fun v μ' => v = some (.int ((F_cloth st (xs (k + 1)) (1)).1)) ∧ fr MA μ1 μ' ∧ RM (F_cloth st (xs (k + 1)) (1)).2 μ') hx hb hml hown hts hK hN hinj hl.1 sp_X5_cloth rfl (by decide) ⟨bl_40, bm_X5_cloth⟩ (by decide) ⟨rfl, rfl, Nat.le_of_ble_eq_true rfl, Nat.le_of_ble_eq_true rfl⟩ dL_law_276 hP rfl rfl (Nat.le_of_ble_eq_true rfl) (Nat.le_of_ble_eq_true rfl) (r_mcloth hk1.1 (RM_X hRM f1) (fun μ' f R => ⟨rfl, f, R⟩)) ⟨Nat.le_of_ble_eq_true rfl, Nat.le_of_ble_eq_true rfl⟩) hS (fun v μ2 H2 locs2 hq hP hS _ => ?_)
    obtain ⟨rfl, f2, R2⟩ := hq
    refine W.eq (g2 := F0 m 279 ls [.int ((F_cloth st (xs (k + 1)) (1)).1), .int ((F_cloth st (xs (k + 1)) (1)).1)]) rfl ?_
    refine lv_icmp_eq (tgt := 752) hx hb dL_law_279 (by decide) (fun _ => ?_) (fun z => absurd rfl z)
    exact hnext _ _ _ _ _ (k_cloth hk1) (RX_M R1 f2) R2 hP hS hl
set_option maxHeartbeats 4000000 in
set_option maxRecDepth 100000 in
theorem lz_person {p : Program} {l : Launch} {e : Env} {s : State} {m : MethodId} {below : List Frame} {meth : Method} {c : Code} {b L : Nat} {xs : Nat → Int32} {σ : Nat → Nat} {dC : Nat → ClassId} {dI : Nat → Nat → Nat} {cI : ClassId} {H : Heap} {locs : List Loc} {ls : Array Slot} {i : Int32} {k n : Nat} {st : st_T} {μ : mm_M} (C : lz_C p s m c b L xs σ dC dI cI) (hL : L ≤ 256) (hi : i = nI k) (hk : k + 4 ≤ L) (hn : n < 900) (hk1 : AK n st) (hRX : RX st μ) (hRM : RM st μ) (hP : va_P (dC, dI) vwCl (mm_w σ cI μ) H) (hS : va_S (fun q => s.heap.size ≤ q) s.heap H locs) (hl : lv_has ls 4 [(3, .int i), (2, .ref (σ 21)), (1, .ref (σ 0)), (0, .ref b)]) (hnext : lz_N p l e s m below meth c b σ dC dI cI i (n + 1)) : W p l e room_1 s m #[Value.ref b] below meth c H locs 31 299 (lw_Z below #[Value.ref b] s) (F0 m 284 ls []) := by
  obtain ⟨hx, hb, hml, hown, hts, hK, hN, hinj, hA, hX, hbl⟩ := id C
  refine lv_aload_n hx hb dL_law_284 rfl (lv_at hl 2 rfl) ?_
  refine lz_arg (j := 1) C hL hi hk (by decide) hS hl (by decide) dL_law_285 dL_law_286 dL_law_287 dL_law_288 dL_law_289 ?_
  refine lz_arg (j := 2) C hL hi hk (by decide) hS hl (by decide) dL_law_290 dL_law_291 dL_law_292 dL_law_293 dL_law_294 ?_
  refine mm_after hA (mm_callV (n := 2) (r := 0) (ci := 4) (C := RX4) (as := [.int (xs (k + 1)), .int (xs (k + 2))]) (rest := []) (Qr := fun v μ' => v = some (.int ((F_person st (xs (k + 1)) (xs (k + 2))).1)) ∧ fr XA μ μ' ∧ RX (F_person st (xs (k + 1)) (xs (k + 2))).2 μ') hx hb hml hown hts hK hN hinj hl.1 sp_X4_person rfl (by decide) ⟨bl_41, bm_X4_person⟩ (by decide) ⟨rfl, rfl, Nat.le_of_ble_eq_true rfl, Nat.le_of_ble_eq_true rfl⟩ dL_law_295 hP rfl rfl (Nat.le_of_ble_eq_true rfl) (Nat.le_of_ble_eq_true rfl) (r_xperson hk1.1 hRX (fun μ' f R => ⟨rfl, f, R⟩)) ⟨Nat.le_of_ble_eq_true rfl, Nat.le_of_ble_eq_true rfl⟩) hS (fun v μ1 H1 locs1 hq hP hS _ => ?_)
  obtain ⟨rfl, f1, R1⟩ := hq
  refine W.eq (g2 := F0 m 298 ls [.int ((F_person st (xs (k + 1)) (xs (k + 2))).1)]) rfl ?_
  refine lv_aload_n hx hb dL_law_298 rfl (lv_at hl 1 rfl) ?_
  refine lz_arg (j := 1) C hL hi hk (by decide) hS hl (by decide) dL_law_299 dL_law_300 dL_law_301 dL_law_302 dL_law_303 ?_
  refine lz_arg (j := 2) C hL hi hk (by decide) hS hl (by decide) dL_law_304 dL_law_305 dL_law_306 dL_law_307 dL_law_308 ?_
  refine mm_after hA (mm_callV (n := 2) (r := 21) (ci := 5) (C := RX5) (as := [.int (xs (k + 1)), .int (xs (k + 2))]) (rest := [.int ((F_person st (xs (k + 1)) (xs (k + 2))).1)]) (Qr := fun v μ' => v = some (.int ((F_person st (xs (k + 1)) (xs (k + 2))).1)) ∧ fr MA μ1 μ' ∧ RM (F_person st (xs (k + 1)) (xs (k + 2))).2 μ') hx hb hml hown hts hK hN hinj hl.1 sp_X5_person rfl (by decide) ⟨bl_44, bm_X5_person⟩ (by decide) ⟨rfl, rfl, Nat.le_of_ble_eq_true rfl, Nat.le_of_ble_eq_true rfl⟩ dL_law_309 hP rfl rfl (Nat.le_of_ble_eq_true rfl) (Nat.le_of_ble_eq_true rfl) (r_mperson hk1.1 (RM_X hRM f1) (fun μ' f R => ⟨rfl, f, R⟩)) ⟨Nat.le_of_ble_eq_true rfl, Nat.le_of_ble_eq_true rfl⟩) hS (fun v μ2 H2 locs2 hq hP hS _ => ?_)
  obtain ⟨rfl, f2, R2⟩ := hq
  refine W.eq (g2 := F0 m 312 ls [.int ((F_person st (xs (k + 1)) (xs (k + 2))).1), .int ((F_person st (xs (k + 1)) (xs (k + 2))).1)]) rfl ?_
  refine lv_icmp_eq (tgt := 752) hx hb dL_law_312 (by decide) (fun _ => ?_) (fun z => absurd rfl z)
  exact hnext _ _ _ _ _ (k_person hk1) (RX_M R1 f2) R2 hP hS hl
set_option maxHeartbeats 4000000 in
set_option maxRecDepth 100000 in
theorem lz_about {p : Program} {l : Launch} {e : Env} {s : State} {m : MethodId} {below : List Frame} {meth : Method} {c : Code} {b L : Nat} {xs : Nat → Int32} {σ : Nat → Nat} {dC : Nat → ClassId} {dI : Nat → Nat → Nat} {cI : ClassId} {H : Heap} {locs : List Loc} {ls : Array Slot} {i : Int32} {k n : Nat} {st : st_T} {μ : mm_M} (C : lz_C p s m c b L xs σ dC dI cI) (hL : L ≤ 256) (hi : i = nI k) (hk : k + 4 ≤ L) (hn : n < 900) (hk1 : AK n st) (hRX : RX st μ) (hRM : RM st μ) (hP : va_P (dC, dI) vwCl (mm_w σ cI μ) H) (hS : va_S (fun q => s.heap.size ≤ q) s.heap H locs) (hl : lv_has ls 4 [(3, .int i), (2, .ref (σ 21)), (1, .ref (σ 0)), (0, .ref b)]) (hnext : lz_N p l e s m below meth c b σ dC dI cI i (n + 1)) : W p l e room_1 s m #[Value.ref b] below meth c H locs 31 299 (lw_Z below #[Value.ref b] s) (F0 m 317 ls []) := by
  obtain ⟨hx, hb, hml, hown, hts, hK, hN, hinj, hA, hX, hbl⟩ := id C
  refine lv_aload_n hx hb dL_law_317 rfl (lv_at hl 2 rfl) ?_
  refine lz_arg (j := 1) C hL hi hk (by decide) hS hl (by decide) dL_law_318 dL_law_319 dL_law_320 dL_law_321 dL_law_322 ?_
  refine lz_arg (j := 2) C hL hi hk (by decide) hS hl (by decide) dL_law_323 dL_law_324 dL_law_325 dL_law_326 dL_law_327 ?_
  refine mm_after hA (mm_callV (n := 2) (r := 0) (ci := 4) (C := RX4) (as := [.int (xs (k + 1)), .int (xs (k + 2))]) (rest := []) (Qr := fun v μ' => v = some (.int (A_about st (xs (k + 1)) (xs (k + 2)))) ∧ fr XA μ μ' ∧ RX st μ') hx hb hml hown hts hK hN hinj hl.1 sp_X4_about rfl (by decide) ⟨bl_45, bm_X4_about⟩ (by decide) ⟨rfl, rfl, Nat.le_of_ble_eq_true rfl, Nat.le_of_ble_eq_true rfl⟩ dL_law_328 hP rfl rfl (Nat.le_of_ble_eq_true rfl) (Nat.le_of_ble_eq_true rfl) (r_xabout hk1.1 hRX (fun μ' f R => ⟨rfl, f, R⟩)) ⟨Nat.le_of_ble_eq_true rfl, Nat.le_of_ble_eq_true rfl⟩) hS (fun v μ1 H1 locs1 hq hP hS _ => ?_)
  obtain ⟨rfl, f1, R1⟩ := hq
  refine W.eq (g2 := F0 m 331 ls [.int (A_about st (xs (k + 1)) (xs (k + 2)))]) rfl ?_
  refine lv_aload_n hx hb dL_law_331 rfl (lv_at hl 1 rfl) ?_
  refine lz_arg (j := 1) C hL hi hk (by decide) hS hl (by decide) dL_law_332 dL_law_333 dL_law_334 dL_law_335 dL_law_336 ?_
  refine lz_arg (j := 2) C hL hi hk (by decide) hS hl (by decide) dL_law_337 dL_law_338 dL_law_339 dL_law_340 dL_law_341 ?_
  refine mm_after hA (mm_callV (n := 2) (r := 21) (ci := 5) (C := RX5) (as := [.int (xs (k + 1)), .int (xs (k + 2))]) (rest := [.int (A_about st (xs (k + 1)) (xs (k + 2)))]) (Qr := fun v μ' => v = some (.int (A_about st (xs (k + 1)) (xs (k + 2)))) ∧ fr MA μ1 μ' ∧ RM st μ') hx hb hml hown hts hK hN hinj hl.1 sp_X5_about rfl (by decide) ⟨bl_48, bm_X5_about⟩ (by decide) ⟨rfl, rfl, Nat.le_of_ble_eq_true rfl, Nat.le_of_ble_eq_true rfl⟩ dL_law_342 hP rfl rfl (Nat.le_of_ble_eq_true rfl) (Nat.le_of_ble_eq_true rfl) (r_mabout hk1.1 (RM_X hRM f1) (fun μ' f R => ⟨rfl, f, R⟩)) ⟨Nat.le_of_ble_eq_true rfl, Nat.le_of_ble_eq_true rfl⟩) hS (fun v μ2 H2 locs2 hq hP hS _ => ?_)
  obtain ⟨rfl, f2, R2⟩ := hq
  refine W.eq (g2 := F0 m 345 ls [.int (A_about st (xs (k + 1)) (xs (k + 2))), .int (A_about st (xs (k + 1)) (xs (k + 2)))]) rfl ?_
  refine lv_icmp_eq (tgt := 752) hx hb dL_law_345 (by decide) (fun _ => ?_) (fun z => absurd rfl z)
  exact hnext _ _ _ _ _ (AK_u hk1) (RX_M R1 f2) R2 hP hS hl
set_option maxHeartbeats 4000000 in
set_option maxRecDepth 100000 in
theorem lz_as {p : Program} {l : Launch} {e : Env} {s : State} {m : MethodId} {below : List Frame} {meth : Method} {c : Code} {b L : Nat} {xs : Nat → Int32} {σ : Nat → Nat} {dC : Nat → ClassId} {dI : Nat → Nat → Nat} {cI : ClassId} {H : Heap} {locs : List Loc} {ls : Array Slot} {i : Int32} {k n : Nat} {st : st_T} {μ : mm_M} (C : lz_C p s m c b L xs σ dC dI cI) (hL : L ≤ 256) (hi : i = nI k) (hk : k + 4 ≤ L) (hn : n < 900) (hk1 : AK n st) (hRX : RX st μ) (hRM : RM st μ) (hP : va_P (dC, dI) vwCl (mm_w σ cI μ) H) (hS : va_S (fun q => s.heap.size ≤ q) s.heap H locs) (hl : lv_has ls 4 [(3, .int i), (2, .ref (σ 21)), (1, .ref (σ 0)), (0, .ref b)]) (hnext : lz_N p l e s m below meth c b σ dC dI cI i (n + 1)) : W p l e room_1 s m #[Value.ref b] below meth c H locs 31 299 (lw_Z below #[Value.ref b] s) (F0 m 350 ls []) := by
  obtain ⟨hx, hb, hml, hown, hts, hK, hN, hinj, hA, hX, hbl⟩ := id C
  refine lv_aload_n hx hb dL_law_350 rfl (lv_at hl 2 rfl) ?_
  refine lz_arg (j := 1) C hL hi hk (by decide) hS hl (by decide) dL_law_351 dL_law_352 dL_law_353 dL_law_354 dL_law_355 ?_
  refine lz_arg (j := 2) C hL hi hk (by decide) hS hl (by decide) dL_law_356 dL_law_357 dL_law_358 dL_law_359 dL_law_360 ?_
  refine mm_after hA (mm_callV (n := 2) (r := 0) (ci := 4) (C := RX4) (as := [.int (xs (k + 1)), .int (xs (k + 2))]) (rest := []) (Qr := fun v μ' => v = some (.int (A_as st (xs (k + 1)) (xs (k + 2)))) ∧ fr XA μ μ' ∧ RX st μ') hx hb hml hown hts hK hN hinj hl.1 sp_X4_as rfl (by decide) ⟨bl_49, bm_X4_as⟩ (by decide) ⟨rfl, rfl, Nat.le_of_ble_eq_true rfl, Nat.le_of_ble_eq_true rfl⟩ dL_law_361 hP rfl rfl (Nat.le_of_ble_eq_true rfl) (Nat.le_of_ble_eq_true rfl) (r_xas hk1.1 hRX ⟨rfl, fr_rf _ _, hRX⟩) ⟨Nat.le_of_ble_eq_true rfl, Nat.le_of_ble_eq_true rfl⟩) hS (fun v μ1 H1 locs1 hq hP hS _ => ?_)
  obtain ⟨rfl, f1, R1⟩ := hq
  refine W.eq (g2 := F0 m 364 ls [.int (A_as st (xs (k + 1)) (xs (k + 2)))]) rfl ?_
  refine lv_aload_n hx hb dL_law_364 rfl (lv_at hl 1 rfl) ?_
  refine lz_arg (j := 1) C hL hi hk (by decide) hS hl (by decide) dL_law_365 dL_law_366 dL_law_367 dL_law_368 dL_law_369 ?_
  refine lz_arg (j := 2) C hL hi hk (by decide) hS hl (by decide) dL_law_370 dL_law_371 dL_law_372 dL_law_373 dL_law_374 ?_
  refine mm_after hA (mm_callV (n := 2) (r := 21) (ci := 5) (C := RX5) (as := [.int (xs (k + 1)), .int (xs (k + 2))]) (rest := [.int (A_as st (xs (k + 1)) (xs (k + 2)))]) (Qr := fun v μ' => v = some (.int (A_as st (xs (k + 1)) (xs (k + 2)))) ∧ fr MA μ1 μ' ∧ RM st μ') hx hb hml hown hts hK hN hinj hl.1 sp_X5_as rfl (by decide) ⟨bl_52, bm_X5_as⟩ (by decide) ⟨rfl, rfl, Nat.le_of_ble_eq_true rfl, Nat.le_of_ble_eq_true rfl⟩ dL_law_375 hP rfl rfl (Nat.le_of_ble_eq_true rfl) (Nat.le_of_ble_eq_true rfl) (r_mas hk1.1 (RM_X hRM f1) ⟨rfl, fr_rf _ _, (RM_X hRM f1)⟩) ⟨Nat.le_of_ble_eq_true rfl, Nat.le_of_ble_eq_true rfl⟩) hS (fun v μ2 H2 locs2 hq hP hS _ => ?_)
  obtain ⟨rfl, f2, R2⟩ := hq
  refine W.eq (g2 := F0 m 378 ls [.int (A_as st (xs (k + 1)) (xs (k + 2))), .int (A_as st (xs (k + 1)) (xs (k + 2)))]) rfl ?_
  refine lv_icmp_eq (tgt := 752) hx hb dL_law_378 (by decide) (fun _ => ?_) (fun z => absurd rfl z)
  exact hnext _ _ _ _ _ (AK_u hk1) (RX_M R1 f2) R2 hP hS hl
set_option maxHeartbeats 4000000 in
set_option maxRecDepth 100000 in
theorem lz_move {p : Program} {l : Launch} {e : Env} {s : State} {m : MethodId} {below : List Frame} {meth : Method} {c : Code} {b L : Nat} {xs : Nat → Int32} {σ : Nat → Nat} {dC : Nat → ClassId} {dI : Nat → Nat → Nat} {cI : ClassId} {H : Heap} {locs : List Loc} {ls : Array Slot} {i : Int32} {k n : Nat} {st : st_T} {μ : mm_M} (C : lz_C p s m c b L xs σ dC dI cI) (hL : L ≤ 256) (hi : i = nI k) (hk : k + 4 ≤ L) (hn : n < 900) (hk1 : AK n st) (hRX : RX st μ) (hRM : RM st μ) (hP : va_P (dC, dI) vwCl (mm_w σ cI μ) H) (hS : va_S (fun q => s.heap.size ≤ q) s.heap H locs) (hl : lv_has ls 4 [(3, .int i), (2, .ref (σ 21)), (1, .ref (σ 0)), (0, .ref b)]) (hnext : lz_N p l e s m below meth c b σ dC dI cI i (n + 1)) : W p l e room_1 s m #[Value.ref b] below meth c H locs 31 299 (lw_Z below #[Value.ref b] s) (F0 m 383 ls []) := by
  obtain ⟨hx, hb, hml, hown, hts, hK, hN, hinj, hA, hX, hbl⟩ := id C
  refine lv_aload_n hx hb dL_law_383 rfl (lv_at hl 2 rfl) ?_
  refine lz_arg (j := 1) C hL hi hk (by decide) hS hl (by decide) dL_law_384 dL_law_385 dL_law_386 dL_law_387 dL_law_388 ?_
  refine lz_arg (j := 2) C hL hi hk (by decide) hS hl (by decide) dL_law_389 dL_law_390 dL_law_391 dL_law_392 dL_law_393 ?_
  refine mm_after hA (mm_callV (n := 2) (r := 0) (ci := 4) (C := RX4) (as := [.int (xs (k + 1)), .int (xs (k + 2))]) (rest := []) (Qr := fun v μ' => v = some (.int ((F_move st (xs (k + 1)) (xs (k + 2))).1)) ∧ fr XA μ μ' ∧ RX (F_move st (xs (k + 1)) (xs (k + 2))).2 μ') hx hb hml hown hts hK hN hinj hl.1 sp_X4_move rfl (by decide) ⟨bl_53, bm_X4_move⟩ (by decide) ⟨rfl, rfl, Nat.le_of_ble_eq_true rfl, Nat.le_of_ble_eq_true rfl⟩ dL_law_394 hP rfl rfl (Nat.le_of_ble_eq_true rfl) (Nat.le_of_ble_eq_true rfl) (r_xmove hk1.1 hRX (fun μ' f R => ⟨rfl, f, R⟩)) ⟨Nat.le_of_ble_eq_true rfl, Nat.le_of_ble_eq_true rfl⟩) hS (fun v μ1 H1 locs1 hq hP hS _ => ?_)
  obtain ⟨rfl, f1, R1⟩ := hq
  refine W.eq (g2 := F0 m 397 ls [.int ((F_move st (xs (k + 1)) (xs (k + 2))).1)]) rfl ?_
  refine lv_aload_n hx hb dL_law_397 rfl (lv_at hl 1 rfl) ?_
  refine lz_arg (j := 1) C hL hi hk (by decide) hS hl (by decide) dL_law_398 dL_law_399 dL_law_400 dL_law_401 dL_law_402 ?_
  refine lz_arg (j := 2) C hL hi hk (by decide) hS hl (by decide) dL_law_403 dL_law_404 dL_law_405 dL_law_406 dL_law_407 ?_
  refine mm_after hA (mm_callV (n := 2) (r := 21) (ci := 5) (C := RX5) (as := [.int (xs (k + 1)), .int (xs (k + 2))]) (rest := [.int ((F_move st (xs (k + 1)) (xs (k + 2))).1)]) (Qr := fun v μ' => v = some (.int ((F_move st (xs (k + 1)) (xs (k + 2))).1)) ∧ fr MA μ1 μ' ∧ RM (F_move st (xs (k + 1)) (xs (k + 2))).2 μ') hx hb hml hown hts hK hN hinj hl.1 sp_X5_move rfl (by decide) ⟨bl_56, bm_X5_move⟩ (by decide) ⟨rfl, rfl, Nat.le_of_ble_eq_true rfl, Nat.le_of_ble_eq_true rfl⟩ dL_law_408 hP rfl rfl (Nat.le_of_ble_eq_true rfl) (Nat.le_of_ble_eq_true rfl) (r_mmove hk1.1 (RM_X hRM f1) (fun μ' f R => ⟨rfl, f, R⟩)) ⟨Nat.le_of_ble_eq_true rfl, Nat.le_of_ble_eq_true rfl⟩) hS (fun v μ2 H2 locs2 hq hP hS _ => ?_)
  obtain ⟨rfl, f2, R2⟩ := hq
  refine W.eq (g2 := F0 m 411 ls [.int ((F_move st (xs (k + 1)) (xs (k + 2))).1), .int ((F_move st (xs (k + 1)) (xs (k + 2))).1)]) rfl ?_
  refine lv_icmp_eq (tgt := 752) hx hb dL_law_411 (by decide) (fun _ => ?_) (fun z => absurd rfl z)
  exact hnext _ _ _ _ _ (k_move hk1) (RX_M R1 f2) R2 hP hS hl
set_option maxHeartbeats 4000000 in
set_option maxRecDepth 100000 in
theorem lz_say {p : Program} {l : Launch} {e : Env} {s : State} {m : MethodId} {below : List Frame} {meth : Method} {c : Code} {b L : Nat} {xs : Nat → Int32} {σ : Nat → Nat} {dC : Nat → ClassId} {dI : Nat → Nat → Nat} {cI : ClassId} {H : Heap} {locs : List Loc} {ls : Array Slot} {i : Int32} {k n : Nat} {st : st_T} {μ : mm_M} (C : lz_C p s m c b L xs σ dC dI cI) (hL : L ≤ 256) (hi : i = nI k) (hk : k + 4 ≤ L) (hn : n < 900) (hk1 : AK n st) (hRX : RX st μ) (hRM : RM st μ) (hP : va_P (dC, dI) vwCl (mm_w σ cI μ) H) (hS : va_S (fun q => s.heap.size ≤ q) s.heap H locs) (hl : lv_has ls 4 [(3, .int i), (2, .ref (σ 21)), (1, .ref (σ 0)), (0, .ref b)]) (hnext : lz_N p l e s m below meth c b σ dC dI cI i (n + 1)) : W p l e room_1 s m #[Value.ref b] below meth c H locs 31 299 (lw_Z below #[Value.ref b] s) (F0 m 416 ls []) := by
  obtain ⟨hx, hb, hml, hown, hts, hK, hN, hinj, hA, hX, hbl⟩ := id C
  refine lv_aload_n hx hb dL_law_416 rfl (lv_at hl 2 rfl) ?_
  refine lz_arg (j := 1) C hL hi hk (by decide) hS hl (by decide) dL_law_417 dL_law_418 dL_law_419 dL_law_420 dL_law_421 ?_
  refine lz_arg (j := 2) C hL hi hk (by decide) hS hl (by decide) dL_law_422 dL_law_423 dL_law_424 dL_law_425 dL_law_426 ?_
  refine mm_after hA (mm_callV (n := 2) (r := 0) (ci := 4) (C := RX4) (as := [.int (xs (k + 1)), .int (xs (k + 2))]) (rest := []) (Qr := fun v μ' => v = some (.int ((F_say st (xs (k + 1)) (xs (k + 2))).1)) ∧ fr XA μ μ' ∧ RX (F_say st (xs (k + 1)) (xs (k + 2))).2 μ') hx hb hml hown hts hK hN hinj hl.1 sp_X4_say rfl (by decide) ⟨bl_57, bm_X4_say⟩ (by decide) ⟨rfl, rfl, Nat.le_of_ble_eq_true rfl, Nat.le_of_ble_eq_true rfl⟩ dL_law_427 hP rfl rfl (Nat.le_of_ble_eq_true rfl) (Nat.le_of_ble_eq_true rfl) (r_xsay hk1.1 hRX (fun μ' f R => ⟨rfl, f, R⟩)) ⟨Nat.le_of_ble_eq_true rfl, Nat.le_of_ble_eq_true rfl⟩) hS (fun v μ1 H1 locs1 hq hP hS _ => ?_)
  obtain ⟨rfl, f1, R1⟩ := hq
  refine W.eq (g2 := F0 m 430 ls [.int ((F_say st (xs (k + 1)) (xs (k + 2))).1)]) rfl ?_
  refine lv_aload_n hx hb dL_law_430 rfl (lv_at hl 1 rfl) ?_
  refine lz_arg (j := 1) C hL hi hk (by decide) hS hl (by decide) dL_law_431 dL_law_432 dL_law_433 dL_law_434 dL_law_435 ?_
  refine lz_arg (j := 2) C hL hi hk (by decide) hS hl (by decide) dL_law_436 dL_law_437 dL_law_438 dL_law_439 dL_law_440 ?_
  refine mm_after hA (mm_callV (n := 2) (r := 21) (ci := 5) (C := RX5) (as := [.int (xs (k + 1)), .int (xs (k + 2))]) (rest := [.int ((F_say st (xs (k + 1)) (xs (k + 2))).1)]) (Qr := fun v μ' => v = some (.int ((F_say st (xs (k + 1)) (xs (k + 2))).1)) ∧ fr MA μ1 μ' ∧ RM (F_say st (xs (k + 1)) (xs (k + 2))).2 μ') hx hb hml hown hts hK hN hinj hl.1 sp_X5_say rfl (by decide) ⟨bl_60, bm_X5_say⟩ (by decide) ⟨rfl, rfl, Nat.le_of_ble_eq_true rfl, Nat.le_of_ble_eq_true rfl⟩ dL_law_441 hP rfl rfl (Nat.le_of_ble_eq_true rfl) (Nat.le_of_ble_eq_true rfl) (r_msay hk1.1 (RM_X hRM f1) (fun μ' f R => ⟨rfl, f, R⟩)) ⟨Nat.le_of_ble_eq_true rfl, Nat.le_of_ble_eq_true rfl⟩) hS (fun v μ2 H2 locs2 hq hP hS _ => ?_)
  obtain ⟨rfl, f2, R2⟩ := hq
  refine W.eq (g2 := F0 m 444 ls [.int ((F_say st (xs (k + 1)) (xs (k + 2))).1), .int ((F_say st (xs (k + 1)) (xs (k + 2))).1)]) rfl ?_
  refine lv_icmp_eq (tgt := 752) hx hb dL_law_444 (by decide) (fun _ => ?_) (fun z => absurd rfl z)
  exact hnext _ _ _ _ _ (k_say hk1) (RX_M R1 f2) R2 hP hS hl
set_option maxHeartbeats 4000000 in
set_option maxRecDepth 100000 in
theorem lz_hears {p : Program} {l : Launch} {e : Env} {s : State} {m : MethodId} {below : List Frame} {meth : Method} {c : Code} {b L : Nat} {xs : Nat → Int32} {σ : Nat → Nat} {dC : Nat → ClassId} {dI : Nat → Nat → Nat} {cI : ClassId} {H : Heap} {locs : List Loc} {ls : Array Slot} {i : Int32} {k n : Nat} {st : st_T} {μ : mm_M} (C : lz_C p s m c b L xs σ dC dI cI) (hL : L ≤ 256) (hi : i = nI k) (hk : k + 4 ≤ L) (hn : n < 900) (hk1 : AK n st) (hRX : RX st μ) (hRM : RM st μ) (hP : va_P (dC, dI) vwCl (mm_w σ cI μ) H) (hS : va_S (fun q => s.heap.size ≤ q) s.heap H locs) (hl : lv_has ls 4 [(3, .int i), (2, .ref (σ 21)), (1, .ref (σ 0)), (0, .ref b)]) (hnext : lz_N p l e s m below meth c b σ dC dI cI i (n + 1)) : W p l e room_1 s m #[Value.ref b] below meth c H locs 31 299 (lw_Z below #[Value.ref b] s) (F0 m 449 ls []) := by
  obtain ⟨hx, hb, hml, hown, hts, hK, hN, hinj, hA, hX, hbl⟩ := id C
  refine lv_aload_n hx hb dL_law_449 rfl (lv_at hl 2 rfl) ?_
  refine lz_arg (j := 1) C hL hi hk (by decide) hS hl (by decide) dL_law_450 dL_law_451 dL_law_452 dL_law_453 dL_law_454 ?_
  refine lz_arg (j := 2) C hL hi hk (by decide) hS hl (by decide) dL_law_455 dL_law_456 dL_law_457 dL_law_458 dL_law_459 ?_
  refine mm_after hA (mm_callV (n := 2) (r := 0) (ci := 4) (C := RX4) (as := [.int (xs (k + 1)), .int (xs (k + 2))]) (rest := []) (Qr := fun v μ' => v = some (.int (A_hears st (xs (k + 1)) (xs (k + 2)))) ∧ fr XA μ μ' ∧ RX st μ') hx hb hml hown hts hK hN hinj hl.1 sp_X4_hears rfl (by decide) ⟨bl_61, bm_X4_hears⟩ (by decide) ⟨rfl, rfl, Nat.le_of_ble_eq_true rfl, Nat.le_of_ble_eq_true rfl⟩ dL_law_460 hP rfl rfl (Nat.le_of_ble_eq_true rfl) (Nat.le_of_ble_eq_true rfl) (r_xhears hk1.1 hRX (fun μ' f R => ⟨rfl, f, R⟩)) ⟨Nat.le_of_ble_eq_true rfl, Nat.le_of_ble_eq_true rfl⟩) hS (fun v μ1 H1 locs1 hq hP hS _ => ?_)
  obtain ⟨rfl, f1, R1⟩ := hq
  refine W.eq (g2 := F0 m 463 ls [.int (A_hears st (xs (k + 1)) (xs (k + 2)))]) rfl ?_
  refine lv_aload_n hx hb dL_law_463 rfl (lv_at hl 1 rfl) ?_
  refine lz_arg (j := 1) C hL hi hk (by decide) hS hl (by decide) dL_law_464 dL_law_465 dL_law_466 dL_law_467 dL_law_468 ?_
  refine lz_arg (j := 2) C hL hi hk (by decide) hS hl (by decide) dL_law_469 dL_law_470 dL_law_471 dL_law_472 dL_law_473 ?_
  refine mm_after hA (mm_callV (n := 2) (r := 21) (ci := 5) (C := RX5) (as := [.int (xs (k + 1)), .int (xs (k + 2))]) (rest := [.int (A_hears st (xs (k + 1)) (xs (k + 2)))]) (Qr := fun v μ' => v = some (.int (A_hears st (xs (k + 1)) (xs (k + 2)))) ∧ fr MA μ1 μ' ∧ RM st μ') hx hb hml hown hts hK hN hinj hl.1 sp_X5_hears rfl (by decide) ⟨bl_64, bm_X5_hears⟩ (by decide) ⟨rfl, rfl, Nat.le_of_ble_eq_true rfl, Nat.le_of_ble_eq_true rfl⟩ dL_law_474 hP rfl rfl (Nat.le_of_ble_eq_true rfl) (Nat.le_of_ble_eq_true rfl) (r_mhears hk1.1 (RM_X hRM f1) (fun μ' f R => ⟨rfl, f, R⟩)) ⟨Nat.le_of_ble_eq_true rfl, Nat.le_of_ble_eq_true rfl⟩) hS (fun v μ2 H2 locs2 hq hP hS _ => ?_)
  obtain ⟨rfl, f2, R2⟩ := hq
  refine W.eq (g2 := F0 m 477 ls [.int (A_hears st (xs (k + 1)) (xs (k + 2))), .int (A_hears st (xs (k + 1)) (xs (k + 2)))]) rfl ?_
  refine lv_icmp_eq (tgt := 752) hx hb dL_law_477 (by decide) (fun _ => ?_) (fun z => absurd rfl z)
  exact hnext _ _ _ _ _ (AK_u hk1) (RX_M R1 f2) R2 hP hS hl
set_option maxHeartbeats 4000000 in
set_option maxRecDepth 100000 in
theorem lz_screens {p : Program} {l : Launch} {e : Env} {s : State} {m : MethodId} {below : List Frame} {meth : Method} {c : Code} {b L : Nat} {xs : Nat → Int32} {σ : Nat → Nat} {dC : Nat → ClassId} {dI : Nat → Nat → Nat} {cI : ClassId} {H : Heap} {locs : List Loc} {ls : Array Slot} {i : Int32} {k n : Nat} {st : st_T} {μ : mm_M} (C : lz_C p s m c b L xs σ dC dI cI) (hL : L ≤ 256) (hi : i = nI k) (hk : k + 4 ≤ L) (hn : n < 900) (hk1 : AK n st) (hRX : RX st μ) (hRM : RM st μ) (hP : va_P (dC, dI) vwCl (mm_w σ cI μ) H) (hS : va_S (fun q => s.heap.size ≤ q) s.heap H locs) (hl : lv_has ls 4 [(3, .int i), (2, .ref (σ 21)), (1, .ref (σ 0)), (0, .ref b)]) (hnext : lz_N p l e s m below meth c b σ dC dI cI i (n + 1)) : W p l e room_1 s m #[Value.ref b] below meth c H locs 31 299 (lw_Z below #[Value.ref b] s) (F0 m 482 ls []) := by
  obtain ⟨hx, hb, hml, hown, hts, hK, hN, hinj, hA, hX, hbl⟩ := id C
  refine lv_aload_n hx hb dL_law_482 rfl (lv_at hl 2 rfl) ?_
  refine lz_arg (j := 1) C hL hi hk (by decide) hS hl (by decide) dL_law_483 dL_law_484 dL_law_485 dL_law_486 dL_law_487 ?_
  refine lz_arg (j := 2) C hL hi hk (by decide) hS hl (by decide) dL_law_488 dL_law_489 dL_law_490 dL_law_491 dL_law_492 ?_
  refine lz_arg (j := 3) C hL hi hk (by decide) hS hl (by decide) dL_law_493 dL_law_494 dL_law_495 dL_law_496 dL_law_497 ?_
  refine mm_after hA (mm_callV (n := 3) (r := 0) (ci := 4) (C := RX4) (as := [.int (xs (k + 1)), .int (xs (k + 2)), .int (xs (k + 3))]) (rest := []) (Qr := fun v μ' => v = some (.int ((F_screens st (xs (k + 1)) (xs (k + 2)) (xs (k + 3))).1)) ∧ fr XA μ μ' ∧ RX (F_screens st (xs (k + 1)) (xs (k + 2)) (xs (k + 3))).2 μ') hx hb hml hown hts hK hN hinj hl.1 sp_X4_screens rfl (by decide) ⟨bl_65, bm_X4_screens⟩ (by decide) ⟨rfl, rfl, Nat.le_of_ble_eq_true rfl, Nat.le_of_ble_eq_true rfl⟩ dL_law_498 hP rfl rfl (Nat.le_of_ble_eq_true rfl) (Nat.le_of_ble_eq_true rfl) (r_xscreens hk1.1 hRX (fun μ' f R => ⟨rfl, f, R⟩)) ⟨Nat.le_of_ble_eq_true rfl, Nat.le_of_ble_eq_true rfl⟩) hS (fun v μ1 H1 locs1 hq hP hS _ => ?_)
  obtain ⟨rfl, f1, R1⟩ := hq
  refine W.eq (g2 := F0 m 501 ls [.int ((F_screens st (xs (k + 1)) (xs (k + 2)) (xs (k + 3))).1)]) rfl ?_
  refine lv_aload_n hx hb dL_law_501 rfl (lv_at hl 1 rfl) ?_
  refine lz_arg (j := 1) C hL hi hk (by decide) hS hl (by decide) dL_law_502 dL_law_503 dL_law_504 dL_law_505 dL_law_506 ?_
  refine lz_arg (j := 2) C hL hi hk (by decide) hS hl (by decide) dL_law_507 dL_law_508 dL_law_509 dL_law_510 dL_law_511 ?_
  refine lz_arg (j := 3) C hL hi hk (by decide) hS hl (by decide) dL_law_512 dL_law_513 dL_law_514 dL_law_515 dL_law_516 ?_
  refine mm_after hA (mm_callV (n := 3) (r := 21) (ci := 5) (C := RX5) (as := [.int (xs (k + 1)), .int (xs (k + 2)), .int (xs (k + 3))]) (rest := [.int ((F_screens st (xs (k + 1)) (xs (k + 2)) (xs (k + 3))).1)]) (Qr := fun v μ' => v = some (.int ((F_screens st (xs (k + 1)) (xs (k + 2)) (xs (k + 3))).1)) ∧ fr MA μ1 μ' ∧ RM (F_screens st (xs (k + 1)) (xs (k + 2)) (xs (k + 3))).2 μ') hx hb hml hown hts hK hN hinj hl.1 sp_X5_screens rfl (by decide) ⟨bl_69, bm_X5_screens⟩ (by decide) ⟨rfl, rfl, Nat.le_of_ble_eq_true rfl, Nat.le_of_ble_eq_true rfl⟩ dL_law_517 hP rfl rfl (Nat.le_of_ble_eq_true rfl) (Nat.le_of_ble_eq_true rfl) (r_mscreens hk1.1 (RM_X hRM f1) (fun μ' f R => ⟨rfl, f, R⟩)) ⟨Nat.le_of_ble_eq_true rfl, Nat.le_of_ble_eq_true rfl⟩) hS (fun v μ2 H2 locs2 hq hP hS _ => ?_)
  obtain ⟨rfl, f2, R2⟩ := hq
  refine W.eq (g2 := F0 m 520 ls [.int ((F_screens st (xs (k + 1)) (xs (k + 2)) (xs (k + 3))).1), .int ((F_screens st (xs (k + 1)) (xs (k + 2)) (xs (k + 3))).1)]) rfl ?_
  refine lv_icmp_eq (tgt := 752) hx hb dL_law_520 (by decide) (fun _ => ?_) (fun z => absurd rfl z)
  exact hnext _ _ _ _ _ (k_screens hk1) (RX_M R1 f2) R2 hP hS hl
set_option maxHeartbeats 4000000 in
set_option maxRecDepth 100000 in
theorem lz_stand {p : Program} {l : Launch} {e : Env} {s : State} {m : MethodId} {below : List Frame} {meth : Method} {c : Code} {b L : Nat} {xs : Nat → Int32} {σ : Nat → Nat} {dC : Nat → ClassId} {dI : Nat → Nat → Nat} {cI : ClassId} {H : Heap} {locs : List Loc} {ls : Array Slot} {i : Int32} {k n : Nat} {st : st_T} {μ : mm_M} (C : lz_C p s m c b L xs σ dC dI cI) (hL : L ≤ 256) (hi : i = nI k) (hk : k + 4 ≤ L) (hn : n < 900) (hk1 : AK n st) (hRX : RX st μ) (hRM : RM st μ) (hP : va_P (dC, dI) vwCl (mm_w σ cI μ) H) (hS : va_S (fun q => s.heap.size ≤ q) s.heap H locs) (hl : lv_has ls 4 [(3, .int i), (2, .ref (σ 21)), (1, .ref (σ 0)), (0, .ref b)]) (hnext : lz_N p l e s m below meth c b σ dC dI cI i (n + 1)) : W p l e room_1 s m #[Value.ref b] below meth c H locs 31 299 (lw_Z below #[Value.ref b] s) (F0 m 525 ls []) := by
  obtain ⟨hx, hb, hml, hown, hts, hK, hN, hinj, hA, hX, hbl⟩ := id C
  refine lv_aload_n hx hb dL_law_525 rfl (lv_at hl 2 rfl) ?_
  refine lz_arg (j := 1) C hL hi hk (by decide) hS hl (by decide) dL_law_526 dL_law_527 dL_law_528 dL_law_529 dL_law_530 ?_
  refine lz_arg (j := 2) C hL hi hk (by decide) hS hl (by decide) dL_law_531 dL_law_532 dL_law_533 dL_law_534 dL_law_535 ?_
  refine mm_after hA (mm_callV (n := 2) (r := 0) (ci := 4) (C := RX4) (as := [.int (xs (k + 1)), .int (xs (k + 2))]) (rest := []) (Qr := fun v μ' => v = some (.int (A_stand st (xs (k + 1)) (xs (k + 2)))) ∧ fr XA μ μ' ∧ RX st μ') hx hb hml hown hts hK hN hinj hl.1 sp_X4_stand rfl (by decide) ⟨bl_70, bm_X4_stand⟩ (by decide) ⟨rfl, rfl, Nat.le_of_ble_eq_true rfl, Nat.le_of_ble_eq_true rfl⟩ dL_law_536 hP rfl rfl (Nat.le_of_ble_eq_true rfl) (Nat.le_of_ble_eq_true rfl) (r_xstand hk1.1 hRX (fun μ' f R => ⟨rfl, f, R⟩)) ⟨Nat.le_of_ble_eq_true rfl, Nat.le_of_ble_eq_true rfl⟩) hS (fun v μ1 H1 locs1 hq hP hS _ => ?_)
  obtain ⟨rfl, f1, R1⟩ := hq
  refine W.eq (g2 := F0 m 539 ls [.int (A_stand st (xs (k + 1)) (xs (k + 2)))]) rfl ?_
  refine lv_aload_n hx hb dL_law_539 rfl (lv_at hl 1 rfl) ?_
  refine lz_arg (j := 1) C hL hi hk (by decide) hS hl (by decide) dL_law_540 dL_law_541 dL_law_542 dL_law_543 dL_law_544 ?_
  refine lz_arg (j := 2) C hL hi hk (by decide) hS hl (by decide) dL_law_545 dL_law_546 dL_law_547 dL_law_548 dL_law_549 ?_
  refine mm_after hA (mm_callV (n := 2) (r := 21) (ci := 5) (C := RX5) (as := [.int (xs (k + 1)), .int (xs (k + 2))]) (rest := [.int (A_stand st (xs (k + 1)) (xs (k + 2)))]) (Qr := fun v μ' => v = some (.int (A_stand st (xs (k + 1)) (xs (k + 2)))) ∧ fr MA μ1 μ' ∧ RM st μ') hx hb hml hown hts hK hN hinj hl.1 sp_X5_stand rfl (by decide) ⟨bl_73, bm_X5_stand⟩ (by decide) ⟨rfl, rfl, Nat.le_of_ble_eq_true rfl, Nat.le_of_ble_eq_true rfl⟩ dL_law_550 hP rfl rfl (Nat.le_of_ble_eq_true rfl) (Nat.le_of_ble_eq_true rfl) (r_mstand hk1.1 (RM_X hRM f1) (fun μ' f R => ⟨rfl, f, R⟩)) ⟨Nat.le_of_ble_eq_true rfl, Nat.le_of_ble_eq_true rfl⟩) hS (fun v μ2 H2 locs2 hq hP hS _ => ?_)
  obtain ⟨rfl, f2, R2⟩ := hq
  refine W.eq (g2 := F0 m 553 ls [.int (A_stand st (xs (k + 1)) (xs (k + 2))), .int (A_stand st (xs (k + 1)) (xs (k + 2)))]) rfl ?_
  refine lv_icmp_eq (tgt := 752) hx hb dL_law_553 (by decide) (fun _ => ?_) (fun z => absurd rfl z)
  exact hnext _ _ _ _ _ (AK_u hk1) (RX_M R1 f2) R2 hP hS hl
set_option maxHeartbeats 4000000 in
set_option maxRecDepth 100000 in
theorem lz_trial {p : Program} {l : Launch} {e : Env} {s : State} {m : MethodId} {below : List Frame} {meth : Method} {c : Code} {b L : Nat} {xs : Nat → Int32} {σ : Nat → Nat} {dC : Nat → ClassId} {dI : Nat → Nat → Nat} {cI : ClassId} {H : Heap} {locs : List Loc} {ls : Array Slot} {i : Int32} {k n : Nat} {st : st_T} {μ : mm_M} (C : lz_C p s m c b L xs σ dC dI cI) (hL : L ≤ 256) (hi : i = nI k) (hk : k + 4 ≤ L) (hn : n < 900) (hk1 : AK n st) (hRX : RX st μ) (hRM : RM st μ) (hP : va_P (dC, dI) vwCl (mm_w σ cI μ) H) (hS : va_S (fun q => s.heap.size ≤ q) s.heap H locs) (hl : lv_has ls 4 [(3, .int i), (2, .ref (σ 21)), (1, .ref (σ 0)), (0, .ref b)]) (hnext : lz_N p l e s m below meth c b σ dC dI cI i (n + 1)) : W p l e room_1 s m #[Value.ref b] below meth c H locs 31 299 (lw_Z below #[Value.ref b] s) (F0 m 558 ls []) := by
  obtain ⟨hx, hb, hml, hown, hts, hK, hN, hinj, hA, hX, hbl⟩ := id C
  by_cases zb : xs (k + 2) = 0
  · refine lv_aload_n hx hb dL_law_558 rfl (lv_at hl 2 rfl) ?_
    refine lz_arg (j := 1) C hL hi hk (by decide) hS hl (by decide) dL_law_559 dL_law_560 dL_law_561 dL_law_562 dL_law_563 ?_
    refine lz_arg (j := 2) C hL hi hk (by decide) hS hl (by decide) dL_law_564 dL_law_565 dL_law_566 dL_law_567 dL_law_568 ?_
    refine lv_if_eq (tgt := 576) hx hb dL_law_569 (by decide) (fun _ => ?_) (fun z => absurd zb z)
    refine lv_iconst (v := 0) hx hb dL_law_576 (by decide) ?_
    refine mm_after hA (mm_callV (n := 2) (r := 0) (ci := 4) (C := RX4) (as := [.int (xs (k + 1)), .int (0)]) (rest := []) (Qr := fun v μ' => v = some (.int ((F_trial st (xs (k + 1)) (0)).1)) ∧ fr XA μ μ' ∧ RX (F_trial st (xs (k + 1)) (0)).2 μ') hx hb hml hown hts hK hN hinj hl.1 sp_X4_trial rfl (by decide) ⟨bl_74, bm_X4_trial⟩ (by decide) ⟨rfl, rfl, Nat.le_of_ble_eq_true rfl, Nat.le_of_ble_eq_true rfl⟩ dL_law_577 hP rfl rfl (Nat.le_of_ble_eq_true rfl) (Nat.le_of_ble_eq_true rfl) (r_xtrial hk1.1 hRX (fun μ' f R => ⟨rfl, f, R⟩)) ⟨Nat.le_of_ble_eq_true rfl, Nat.le_of_ble_eq_true rfl⟩) hS (fun v μ1 H1 locs1 hq hP hS _ => ?_)
    obtain ⟨rfl, f1, R1⟩ := hq
    refine W.eq (g2 := F0 m 580 ls [.int ((F_trial st (xs (k + 1)) (0)).1)]) rfl ?_
    refine lv_aload_n hx hb dL_law_580 rfl (lv_at hl 1 rfl) ?_
    refine lz_arg (j := 1) C hL hi hk (by decide) hS hl (by decide) dL_law_581 dL_law_582 dL_law_583 dL_law_584 dL_law_585 ?_
    refine lz_arg (j := 2) C hL hi hk (by decide) hS hl (by decide) dL_law_586 dL_law_587 dL_law_588 dL_law_589 dL_law_590 ?_
    refine lv_if_eq (tgt := 598) hx hb dL_law_591 (by decide) (fun _ => ?_) (fun z => absurd zb z)
    refine lv_iconst (v := 0) hx hb dL_law_598 (by decide) ?_
    refine mm_after hA (mm_callV (n := 2) (r := 21) (ci := 5) (C := RX5) (as := [.int (xs (k + 1)), .int (0)]) (rest := [.int ((F_trial st (xs (k + 1)) (0)).1)]) (Qr := fun v μ' => v = some (.int ((F_trial st (xs (k + 1)) (0)).1)) ∧ fr MA μ1 μ' ∧ RM (F_trial st (xs (k + 1)) (0)).2 μ') hx hb hml hown hts hK hN hinj hl.1 sp_X5_trial rfl (by decide) ⟨bl_77, bm_X5_trial⟩ (by decide) ⟨rfl, rfl, Nat.le_of_ble_eq_true rfl, Nat.le_of_ble_eq_true rfl⟩ dL_law_599 hP rfl rfl (Nat.le_of_ble_eq_true rfl) (Nat.le_of_ble_eq_true rfl) (r_mtrial hk1.1 (RM_X hRM f1) (fun μ' f R => ⟨rfl, f, R⟩)) ⟨Nat.le_of_ble_eq_true rfl, Nat.le_of_ble_eq_true rfl⟩) hS (fun v μ2 H2 locs2 hq hP hS _ => ?_)
    obtain ⟨rfl, f2, R2⟩ := hq
    refine W.eq (g2 := F0 m 602 ls [.int ((F_trial st (xs (k + 1)) (0)).1), .int ((F_trial st (xs (k + 1)) (0)).1)]) rfl ?_
    refine lv_icmp_eq (tgt := 752) hx hb dL_law_602 (by decide) (fun _ => ?_) (fun z => absurd rfl z)
    exact hnext _ _ _ _ _ (k_trial hk1) (RX_M R1 f2) R2 hP hS hl
  · refine lv_aload_n hx hb dL_law_558 rfl (lv_at hl 2 rfl) ?_
    refine lz_arg (j := 1) C hL hi hk (by decide) hS hl (by decide) dL_law_559 dL_law_560 dL_law_561 dL_law_562 dL_law_563 ?_
    refine lz_arg (j := 2) C hL hi hk (by decide) hS hl (by decide) dL_law_564 dL_law_565 dL_law_566 dL_law_567 dL_law_568 ?_
    refine lv_if_eq (tgt := 576) hx hb dL_law_569 (by decide) (fun z => absurd z zb) (fun _ => ?_)
    refine lv_iconst (v := 1) hx hb dL_law_572 (by decide) ?_
    refine lv_goto (tgt := 577) hx hb dL_law_573 (by decide) ?_
    refine mm_after hA (mm_callV (n := 2) (r := 0) (ci := 4) (C := RX4) (as := [.int (xs (k + 1)), .int (1)]) (rest := []) (Qr := fun v μ' => v = some (.int ((F_trial st (xs (k + 1)) (1)).1)) ∧ fr XA μ μ' ∧ RX (F_trial st (xs (k + 1)) (1)).2 μ') hx hb hml hown hts hK hN hinj hl.1 sp_X4_trial rfl (by decide) ⟨bl_74, bm_X4_trial⟩ (by decide) ⟨rfl, rfl, Nat.le_of_ble_eq_true rfl, Nat.le_of_ble_eq_true rfl⟩ dL_law_577 hP rfl rfl (Nat.le_of_ble_eq_true rfl) (Nat.le_of_ble_eq_true rfl) (r_xtrial hk1.1 hRX (fun μ' f R => ⟨rfl, f, R⟩)) ⟨Nat.le_of_ble_eq_true rfl, Nat.le_of_ble_eq_true rfl⟩) hS (fun v μ1 H1 locs1 hq hP hS _ => ?_)
    obtain ⟨rfl, f1, R1⟩ := hq
    refine W.eq (g2 := F0 m 580 ls [.int ((F_trial st (xs (k + 1)) (1)).1)]) rfl ?_
    refine lv_aload_n hx hb dL_law_580 rfl (lv_at hl 1 rfl) ?_
    refine lz_arg (j := 1) C hL hi hk (by decide) hS hl (by decide) dL_law_581 dL_law_582 dL_law_583 dL_law_584 dL_law_585 ?_
    refine lz_arg (j := 2) C hL hi hk (by decide) hS hl (by decide) dL_law_586 dL_law_587 dL_law_588 dL_law_589 dL_law_590 ?_
    refine lv_if_eq (tgt := 598) hx hb dL_law_591 (by decide) (fun z => absurd z zb) (fun _ => ?_)
    refine lv_iconst (v := 1) hx hb dL_law_594 (by decide) ?_
    refine lv_goto (tgt := 599) hx hb dL_law_595 (by decide) ?_
    refine mm_after hA (mm_callV (n := 2) (r := 21) (ci := 5) (C := RX5) (as := [.int (xs (k + 1)), .int (1)]) (rest := [.int ((F_trial st (xs (k + 1)) (1)).1)]) (Qr := fun v μ' => v = some (.int ((F_trial st (xs (k + 1)) (1)).1)) ∧ fr MA μ1 μ' ∧ RM (F_trial st (xs (k + 1)) (1)).2 μ') hx hb hml hown hts hK hN hinj hl.1 sp_X5_trial rfl (by decide) ⟨bl_77, bm_X5_trial⟩ (by decide) ⟨rfl, rfl, Nat.le_of_ble_eq_true rfl, Nat.le_of_ble_eq_true rfl⟩ dL_law_599 hP rfl rfl (Nat.le_of_ble_eq_true rfl) (Nat.le_of_ble_eq_true rfl) (r_mtrial hk1.1 (RM_X hRM f1) (fun μ' f R => ⟨rfl, f, R⟩)) ⟨Nat.le_of_ble_eq_true rfl, Nat.le_of_ble_eq_true rfl⟩) hS (fun v μ2 H2 locs2 hq hP hS _ => ?_)
    obtain ⟨rfl, f2, R2⟩ := hq
    refine W.eq (g2 := F0 m 602 ls [.int ((F_trial st (xs (k + 1)) (1)).1), .int ((F_trial st (xs (k + 1)) (1)).1)]) rfl ?_
    refine lv_icmp_eq (tgt := 752) hx hb dL_law_602 (by decide) (fun _ => ?_) (fun z => absurd rfl z)
    exact hnext _ _ _ _ _ (k_trial hk1) (RX_M R1 f2) R2 hP hS hl
set_option maxHeartbeats 4000000 in
set_option maxRecDepth 100000 in
theorem lz_forget {p : Program} {l : Launch} {e : Env} {s : State} {m : MethodId} {below : List Frame} {meth : Method} {c : Code} {b L : Nat} {xs : Nat → Int32} {σ : Nat → Nat} {dC : Nat → ClassId} {dI : Nat → Nat → Nat} {cI : ClassId} {H : Heap} {locs : List Loc} {ls : Array Slot} {i : Int32} {k n : Nat} {st : st_T} {μ : mm_M} (C : lz_C p s m c b L xs σ dC dI cI) (hL : L ≤ 256) (hi : i = nI k) (hk : k + 4 ≤ L) (hn : n < 900) (hk1 : AK n st) (hRX : RX st μ) (hRM : RM st μ) (hP : va_P (dC, dI) vwCl (mm_w σ cI μ) H) (hS : va_S (fun q => s.heap.size ≤ q) s.heap H locs) (hl : lv_has ls 4 [(3, .int i), (2, .ref (σ 21)), (1, .ref (σ 0)), (0, .ref b)]) (hnext : lz_N p l e s m below meth c b σ dC dI cI i (n + 1)) : W p l e room_1 s m #[Value.ref b] below meth c H locs 31 299 (lw_Z below #[Value.ref b] s) (F0 m 607 ls []) := by
  obtain ⟨hx, hb, hml, hown, hts, hK, hN, hinj, hA, hX, hbl⟩ := id C
  refine lv_aload_n hx hb dL_law_607 rfl (lv_at hl 2 rfl) ?_
  refine mm_after hA (mm_callV (n := 0) (r := 0) (ci := 4) (C := RX4) (as := []) (rest := []) (Qr := fun v μ' => v = some (.int ((F_forget st ).1)) ∧ fr XA μ μ' ∧ RX (F_forget st ).2 μ') hx hb hml hown hts hK hN hinj hl.1 sp_X4_forget rfl (by decide) ⟨bl_78, bm_X4_forget⟩ (by decide) ⟨rfl, rfl, Nat.le_of_ble_eq_true rfl, Nat.le_of_ble_eq_true rfl⟩ dL_law_608 hP rfl rfl (Nat.le_of_ble_eq_true rfl) (Nat.le_of_ble_eq_true rfl) (r_xforget hRX (fun μ' f R => ⟨rfl, f, R⟩)) ⟨Nat.le_of_ble_eq_true rfl, Nat.le_of_ble_eq_true rfl⟩) hS (fun v μ1 H1 locs1 hq hP hS _ => ?_)
  obtain ⟨rfl, f1, R1⟩ := hq
  refine W.eq (g2 := F0 m 611 ls [.int ((F_forget st ).1)]) rfl ?_
  refine lv_aload_n hx hb dL_law_611 rfl (lv_at hl 1 rfl) ?_
  refine mm_after hA (mm_callV (n := 0) (r := 21) (ci := 5) (C := RX5) (as := []) (rest := [.int ((F_forget st ).1)]) (Qr := fun v μ' => v = some (.int ((F_forget st ).1)) ∧ fr MA μ1 μ' ∧ RM (F_forget st ).2 μ') hx hb hml hown hts hK hN hinj hl.1 sp_X5_forget rfl (by decide) ⟨bl_81, bm_X5_forget⟩ (by decide) ⟨rfl, rfl, Nat.le_of_ble_eq_true rfl, Nat.le_of_ble_eq_true rfl⟩ dL_law_612 hP rfl rfl (Nat.le_of_ble_eq_true rfl) (Nat.le_of_ble_eq_true rfl) (r_mforget (RM_X hRM f1) (fun μ' f R => ⟨rfl, f, R⟩)) ⟨Nat.le_of_ble_eq_true rfl, Nat.le_of_ble_eq_true rfl⟩) hS (fun v μ2 H2 locs2 hq hP hS _ => ?_)
  obtain ⟨rfl, f2, R2⟩ := hq
  refine W.eq (g2 := F0 m 615 ls [.int ((F_forget st ).1), .int ((F_forget st ).1)]) rfl ?_
  refine lv_icmp_eq (tgt := 752) hx hb dL_law_615 (by decide) (fun _ => ?_) (fun z => absurd rfl z)
  exact hnext _ _ _ _ _ (k_forget hk1) (RX_M R1 f2) R2 hP hS hl
set_option maxHeartbeats 4000000 in
set_option maxRecDepth 100000 in
theorem lz_who {p : Program} {l : Launch} {e : Env} {s : State} {m : MethodId} {below : List Frame} {meth : Method} {c : Code} {b L : Nat} {xs : Nat → Int32} {σ : Nat → Nat} {dC : Nat → ClassId} {dI : Nat → Nat → Nat} {cI : ClassId} {H : Heap} {locs : List Loc} {ls : Array Slot} {i : Int32} {k n : Nat} {st : st_T} {μ : mm_M} (C : lz_C p s m c b L xs σ dC dI cI) (hL : L ≤ 256) (hi : i = nI k) (hk : k + 4 ≤ L) (hn : n < 900) (hk1 : AK n st) (hRX : RX st μ) (hRM : RM st μ) (hP : va_P (dC, dI) vwCl (mm_w σ cI μ) H) (hS : va_S (fun q => s.heap.size ≤ q) s.heap H locs) (hl : lv_has ls 4 [(3, .int i), (2, .ref (σ 21)), (1, .ref (σ 0)), (0, .ref b)]) (hnext : lz_N p l e s m below meth c b σ dC dI cI i (n + 1)) : W p l e room_1 s m #[Value.ref b] below meth c H locs 31 299 (lw_Z below #[Value.ref b] s) (F0 m 620 ls []) := by
  obtain ⟨hx, hb, hml, hown, hts, hK, hN, hinj, hA, hX, hbl⟩ := id C
  refine lv_aload_n hx hb dL_law_620 rfl (lv_at hl 2 rfl) ?_
  refine mm_after hA (mm_callV (n := 0) (r := 0) (ci := 4) (C := RX4) (as := []) (rest := []) (Qr := fun v μ' => v = some (.int (A_who st )) ∧ fr XA μ μ' ∧ RX st μ') hx hb hml hown hts hK hN hinj hl.1 sp_X4_who rfl (by decide) ⟨bl_82, bm_X4_who⟩ (by decide) ⟨rfl, rfl, Nat.le_of_ble_eq_true rfl, Nat.le_of_ble_eq_true rfl⟩ dL_law_621 hP rfl rfl (Nat.le_of_ble_eq_true rfl) (Nat.le_of_ble_eq_true rfl) (r_xwho hk1.1 hRX (fun μ' f R => ⟨rfl, f, R⟩)) ⟨Nat.le_of_ble_eq_true rfl, Nat.le_of_ble_eq_true rfl⟩) hS (fun v μ1 H1 locs1 hq hP hS _ => ?_)
  obtain ⟨rfl, f1, R1⟩ := hq
  refine W.eq (g2 := F0 m 624 ls [.int (A_who st )]) rfl ?_
  refine lv_aload_n hx hb dL_law_624 rfl (lv_at hl 1 rfl) ?_
  refine mm_after hA (mm_callV (n := 0) (r := 21) (ci := 5) (C := RX5) (as := []) (rest := [.int (A_who st )]) (Qr := fun v μ' => v = some (.int (A_who st )) ∧ fr MA μ1 μ' ∧ RM st μ') hx hb hml hown hts hK hN hinj hl.1 sp_X5_who rfl (by decide) ⟨bl_85, bm_X5_who⟩ (by decide) ⟨rfl, rfl, Nat.le_of_ble_eq_true rfl, Nat.le_of_ble_eq_true rfl⟩ dL_law_625 hP rfl rfl (Nat.le_of_ble_eq_true rfl) (Nat.le_of_ble_eq_true rfl) (r_mwho hk1.1 (RM_X hRM f1) (fun μ' f R => ⟨rfl, f, R⟩)) ⟨Nat.le_of_ble_eq_true rfl, Nat.le_of_ble_eq_true rfl⟩) hS (fun v μ2 H2 locs2 hq hP hS _ => ?_)
  obtain ⟨rfl, f2, R2⟩ := hq
  refine W.eq (g2 := F0 m 628 ls [.int (A_who st ), .int (A_who st )]) rfl ?_
  refine lv_icmp_eq (tgt := 752) hx hb dL_law_628 (by decide) (fun _ => ?_) (fun z => absurd rfl z)
  exact hnext _ _ _ _ _ (AK_u hk1) (RX_M R1 f2) R2 hP hS hl
set_option maxHeartbeats 4000000 in
set_option maxRecDepth 100000 in
theorem lz_ask {p : Program} {l : Launch} {e : Env} {s : State} {m : MethodId} {below : List Frame} {meth : Method} {c : Code} {b L : Nat} {xs : Nat → Int32} {σ : Nat → Nat} {dC : Nat → ClassId} {dI : Nat → Nat → Nat} {cI : ClassId} {H : Heap} {locs : List Loc} {ls : Array Slot} {i : Int32} {k n : Nat} {st : st_T} {μ : mm_M} (C : lz_C p s m c b L xs σ dC dI cI) (hL : L ≤ 256) (hi : i = nI k) (hk : k + 4 ≤ L) (hn : n < 900) (hk1 : AK n st) (hRX : RX st μ) (hRM : RM st μ) (hP : va_P (dC, dI) vwCl (mm_w σ cI μ) H) (hS : va_S (fun q => s.heap.size ≤ q) s.heap H locs) (hl : lv_has ls 4 [(3, .int i), (2, .ref (σ 21)), (1, .ref (σ 0)), (0, .ref b)]) (hnext : lz_N p l e s m below meth c b σ dC dI cI i (n + 1)) : W p l e room_1 s m #[Value.ref b] below meth c H locs 31 299 (lw_Z below #[Value.ref b] s) (F0 m 633 ls []) := by
  obtain ⟨hx, hb, hml, hown, hts, hK, hN, hinj, hA, hX, hbl⟩ := id C
  refine lv_aload_n hx hb dL_law_633 rfl (lv_at hl 2 rfl) ?_
  refine mm_after hA (mm_callV (n := 0) (r := 0) (ci := 4) (C := RX4) (as := []) (rest := []) (Qr := fun v μ' => v = some (.int (A_ask st )) ∧ fr XA μ μ' ∧ RX st μ') hx hb hml hown hts hK hN hinj hl.1 sp_X4_ask rfl (by decide) ⟨bl_86, bm_X4_ask⟩ (by decide) ⟨rfl, rfl, Nat.le_of_ble_eq_true rfl, Nat.le_of_ble_eq_true rfl⟩ dL_law_634 hP rfl rfl (Nat.le_of_ble_eq_true rfl) (Nat.le_of_ble_eq_true rfl) (r_xask hk1.1 hRX (fun μ' f R => ⟨rfl, f, R⟩)) ⟨Nat.le_of_ble_eq_true rfl, Nat.le_of_ble_eq_true rfl⟩) hS (fun v μ1 H1 locs1 hq hP hS _ => ?_)
  obtain ⟨rfl, f1, R1⟩ := hq
  refine W.eq (g2 := F0 m 637 ls [.int (A_ask st )]) rfl ?_
  refine lv_aload_n hx hb dL_law_637 rfl (lv_at hl 1 rfl) ?_
  refine mm_after hA (mm_callV (n := 0) (r := 21) (ci := 5) (C := RX5) (as := []) (rest := [.int (A_ask st )]) (Qr := fun v μ' => v = some (.int (A_ask st )) ∧ fr MA μ1 μ' ∧ RM st μ') hx hb hml hown hts hK hN hinj hl.1 sp_X5_ask rfl (by decide) ⟨bl_89, bm_X5_ask⟩ (by decide) ⟨rfl, rfl, Nat.le_of_ble_eq_true rfl, Nat.le_of_ble_eq_true rfl⟩ dL_law_638 hP rfl rfl (Nat.le_of_ble_eq_true rfl) (Nat.le_of_ble_eq_true rfl) (r_mask hk1.1 (RM_X hRM f1) (fun μ' f R => ⟨rfl, f, R⟩)) ⟨Nat.le_of_ble_eq_true rfl, Nat.le_of_ble_eq_true rfl⟩) hS (fun v μ2 H2 locs2 hq hP hS _ => ?_)
  obtain ⟨rfl, f2, R2⟩ := hq
  refine W.eq (g2 := F0 m 641 ls [.int (A_ask st ), .int (A_ask st )]) rfl ?_
  refine lv_icmp_eq (tgt := 752) hx hb dL_law_641 (by decide) (fun _ => ?_) (fun z => absurd rfl z)
  exact hnext _ _ _ _ _ (AK_u hk1) (RX_M R1 f2) R2 hP hS hl
set_option maxHeartbeats 4000000 in
set_option maxRecDepth 100000 in
theorem lz_days {p : Program} {l : Launch} {e : Env} {s : State} {m : MethodId} {below : List Frame} {meth : Method} {c : Code} {b L : Nat} {xs : Nat → Int32} {σ : Nat → Nat} {dC : Nat → ClassId} {dI : Nat → Nat → Nat} {cI : ClassId} {H : Heap} {locs : List Loc} {ls : Array Slot} {i : Int32} {k n : Nat} {st : st_T} {μ : mm_M} (C : lz_C p s m c b L xs σ dC dI cI) (hL : L ≤ 256) (hi : i = nI k) (hk : k + 4 ≤ L) (hn : n < 900) (hk1 : AK n st) (hRX : RX st μ) (hRM : RM st μ) (hP : va_P (dC, dI) vwCl (mm_w σ cI μ) H) (hS : va_S (fun q => s.heap.size ≤ q) s.heap H locs) (hl : lv_has ls 4 [(3, .int i), (2, .ref (σ 21)), (1, .ref (σ 0)), (0, .ref b)]) (hnext : lz_N p l e s m below meth c b σ dC dI cI i (n + 1)) : W p l e room_1 s m #[Value.ref b] below meth c H locs 31 299 (lw_Z below #[Value.ref b] s) (F0 m 646 ls []) := by
  obtain ⟨hx, hb, hml, hown, hts, hK, hN, hinj, hA, hX, hbl⟩ := id C
  refine lv_aload_n hx hb dL_law_646 rfl (lv_at hl 2 rfl) ?_
  refine lz_arg (j := 1) C hL hi hk (by decide) hS hl (by decide) dL_law_647 dL_law_648 dL_law_649 dL_law_650 dL_law_651 ?_
  refine lz_arg (j := 2) C hL hi hk (by decide) hS hl (by decide) dL_law_652 dL_law_653 dL_law_654 dL_law_655 dL_law_656 ?_
  refine lz_arg (j := 3) C hL hi hk (by decide) hS hl (by decide) dL_law_657 dL_law_658 dL_law_659 dL_law_660 dL_law_661 ?_
  refine mm_after hA (mm_callV (n := 3) (r := 0) (ci := 4) (C := RX4) (as := [.int (xs (k + 1)), .int (xs (k + 2)), .int (xs (k + 3))]) (rest := []) (Qr := fun v μ' => v = some (.int (A_days st (xs (k + 1)) (xs (k + 2)) (xs (k + 3)))) ∧ fr XA μ μ' ∧ RX st μ') hx hb hml hown hts hK hN hinj hl.1 sp_X4_days rfl (by decide) ⟨bl_90, bm_X4_days⟩ (by decide) ⟨rfl, rfl, Nat.le_of_ble_eq_true rfl, Nat.le_of_ble_eq_true rfl⟩ dL_law_662 hP rfl rfl (Nat.le_of_ble_eq_true rfl) (Nat.le_of_ble_eq_true rfl) (r_xdays hk1.1 hRX (fun μ' f R => ⟨rfl, f, R⟩)) ⟨Nat.le_of_ble_eq_true rfl, Nat.le_of_ble_eq_true rfl⟩) hS (fun v μ1 H1 locs1 hq hP hS _ => ?_)
  obtain ⟨rfl, f1, R1⟩ := hq
  refine W.eq (g2 := F0 m 665 ls [.int (A_days st (xs (k + 1)) (xs (k + 2)) (xs (k + 3)))]) rfl ?_
  refine lv_aload_n hx hb dL_law_665 rfl (lv_at hl 1 rfl) ?_
  refine lz_arg (j := 1) C hL hi hk (by decide) hS hl (by decide) dL_law_666 dL_law_667 dL_law_668 dL_law_669 dL_law_670 ?_
  refine lz_arg (j := 2) C hL hi hk (by decide) hS hl (by decide) dL_law_671 dL_law_672 dL_law_673 dL_law_674 dL_law_675 ?_
  refine lz_arg (j := 3) C hL hi hk (by decide) hS hl (by decide) dL_law_676 dL_law_677 dL_law_678 dL_law_679 dL_law_680 ?_
  refine mm_after hA (mm_callV (n := 3) (r := 21) (ci := 5) (C := RX5) (as := [.int (xs (k + 1)), .int (xs (k + 2)), .int (xs (k + 3))]) (rest := [.int (A_days st (xs (k + 1)) (xs (k + 2)) (xs (k + 3)))]) (Qr := fun v μ' => v = some (.int (A_days st (xs (k + 1)) (xs (k + 2)) (xs (k + 3)))) ∧ fr MA μ1 μ' ∧ RM st μ') hx hb hml hown hts hK hN hinj hl.1 sp_X5_days rfl (by decide) ⟨bl_93, bm_X5_days⟩ (by decide) ⟨rfl, rfl, Nat.le_of_ble_eq_true rfl, Nat.le_of_ble_eq_true rfl⟩ dL_law_681 hP rfl rfl (Nat.le_of_ble_eq_true rfl) (Nat.le_of_ble_eq_true rfl) (r_mdays hk1.1 (RM_X hRM f1) (fun μ' f R => ⟨rfl, f, R⟩)) ⟨Nat.le_of_ble_eq_true rfl, Nat.le_of_ble_eq_true rfl⟩) hS (fun v μ2 H2 locs2 hq hP hS _ => ?_)
  obtain ⟨rfl, f2, R2⟩ := hq
  refine W.eq (g2 := F0 m 684 ls [.int (A_days st (xs (k + 1)) (xs (k + 2)) (xs (k + 3))), .int (A_days st (xs (k + 1)) (xs (k + 2)) (xs (k + 3)))]) rfl ?_
  refine lv_icmp_eq (tgt := 752) hx hb dL_law_684 (by decide) (fun _ => ?_) (fun z => absurd rfl z)
  exact hnext _ _ _ _ _ (AK_u hk1) (RX_M R1 f2) R2 hP hS hl
set_option maxHeartbeats 4000000 in
set_option maxRecDepth 100000 in
theorem lz_image {p : Program} {l : Launch} {e : Env} {s : State} {m : MethodId} {below : List Frame} {meth : Method} {c : Code} {b L : Nat} {xs : Nat → Int32} {σ : Nat → Nat} {dC : Nat → ClassId} {dI : Nat → Nat → Nat} {cI : ClassId} {H : Heap} {locs : List Loc} {ls : Array Slot} {i : Int32} {k n : Nat} {st : st_T} {μ : mm_M} (C : lz_C p s m c b L xs σ dC dI cI) (hL : L ≤ 256) (hi : i = nI k) (hk : k + 4 ≤ L) (hn : n < 900) (hk1 : AK n st) (hRX : RX st μ) (hRM : RM st μ) (hP : va_P (dC, dI) vwCl (mm_w σ cI μ) H) (hS : va_S (fun q => s.heap.size ≤ q) s.heap H locs) (hl : lv_has ls 4 [(3, .int i), (2, .ref (σ 21)), (1, .ref (σ 0)), (0, .ref b)]) (hnext : lz_N p l e s m below meth c b σ dC dI cI i (n + 1)) : W p l e room_1 s m #[Value.ref b] below meth c H locs 31 299 (lw_Z below #[Value.ref b] s) (F0 m 689 ls []) := by
  obtain ⟨hx, hb, hml, hown, hts, hK, hN, hinj, hA, hX, hbl⟩ := id C
  refine lv_aload_n hx hb dL_law_689 rfl (lv_at hl 2 rfl) ?_
  refine mm_after hA (mm_callV (n := 0) (r := 0) (ci := 4) (C := RX4) (as := []) (rest := []) (Qr := fun v μ' => v = some (.int ((F_image st ).1)) ∧ fr XA μ μ' ∧ RX (F_image st ).2 μ') hx hb hml hown hts hK hN hinj hl.1 sp_X4_image rfl (by decide) ⟨bl_94, bm_X4_image⟩ (by decide) ⟨rfl, rfl, Nat.le_of_ble_eq_true rfl, Nat.le_of_ble_eq_true rfl⟩ dL_law_690 hP rfl rfl (Nat.le_of_ble_eq_true rfl) (Nat.le_of_ble_eq_true rfl) (r_ximage hk1.1 hRX (fun μ' f R => ⟨rfl, f, R⟩)) ⟨Nat.le_of_ble_eq_true rfl, Nat.le_of_ble_eq_true rfl⟩) hS (fun v μ1 H1 locs1 hq hP hS _ => ?_)
  obtain ⟨rfl, f1, R1⟩ := hq
  refine W.eq (g2 := F0 m 693 ls [.int ((F_image st ).1)]) rfl ?_
  refine lv_aload_n hx hb dL_law_693 rfl (lv_at hl 1 rfl) ?_
  refine mm_after hA (mm_callV (n := 0) (r := 21) (ci := 5) (C := RX5) (as := []) (rest := [.int ((F_image st ).1)]) (Qr := fun v μ' => v = some (.int ((F_image st ).1)) ∧ fr MA μ1 μ' ∧ RM (F_image st ).2 μ') hx hb hml hown hts hK hN hinj hl.1 sp_X5_image rfl (by decide) ⟨bl_97, bm_X5_image⟩ (by decide) ⟨rfl, rfl, Nat.le_of_ble_eq_true rfl, Nat.le_of_ble_eq_true rfl⟩ dL_law_694 hP rfl rfl (Nat.le_of_ble_eq_true rfl) (Nat.le_of_ble_eq_true rfl) (r_mimage hk1.1 (RM_X hRM f1) (fun μ' f R => ⟨rfl, f, R⟩)) ⟨Nat.le_of_ble_eq_true rfl, Nat.le_of_ble_eq_true rfl⟩) hS (fun v μ2 H2 locs2 hq hP hS _ => ?_)
  obtain ⟨rfl, f2, R2⟩ := hq
  refine W.eq (g2 := F0 m 697 ls [.int ((F_image st ).1), .int ((F_image st ).1)]) rfl ?_
  refine lv_icmp_eq (tgt := 752) hx hb dL_law_697 (by decide) (fun _ => ?_) (fun z => absurd rfl z)
  exact hnext _ _ _ _ _ (k_image hk1) (RX_M R1 f2) R2 hP hS hl
set_option maxHeartbeats 4000000 in
set_option maxRecDepth 100000 in
theorem lz_restore {p : Program} {l : Launch} {e : Env} {s : State} {m : MethodId} {below : List Frame} {meth : Method} {c : Code} {b L : Nat} {xs : Nat → Int32} {σ : Nat → Nat} {dC : Nat → ClassId} {dI : Nat → Nat → Nat} {cI : ClassId} {H : Heap} {locs : List Loc} {ls : Array Slot} {i : Int32} {k n : Nat} {st : st_T} {μ : mm_M} (C : lz_C p s m c b L xs σ dC dI cI) (hL : L ≤ 256) (hi : i = nI k) (hk : k + 4 ≤ L) (hn : n < 900) (hk1 : AK n st) (hRX : RX st μ) (hRM : RM st μ) (hP : va_P (dC, dI) vwCl (mm_w σ cI μ) H) (hS : va_S (fun q => s.heap.size ≤ q) s.heap H locs) (hl : lv_has ls 4 [(3, .int i), (2, .ref (σ 21)), (1, .ref (σ 0)), (0, .ref b)]) (hnext : lz_N p l e s m below meth c b σ dC dI cI i (n + 1)) : W p l e room_1 s m #[Value.ref b] below meth c H locs 31 299 (lw_Z below #[Value.ref b] s) (F0 m 702 ls []) := by
  obtain ⟨hx, hb, hml, hown, hts, hK, hN, hinj, hA, hX, hbl⟩ := id C
  refine lv_aload_n hx hb dL_law_702 rfl (lv_at hl 2 rfl) ?_
  refine mm_after hA (mm_callV (n := 0) (r := 0) (ci := 4) (C := RX4) (as := []) (rest := []) (Qr := fun v μ' => v = some (.int ((F_restore st ).1)) ∧ fr XA μ μ' ∧ RX (F_restore st ).2 μ') hx hb hml hown hts hK hN hinj hl.1 sp_X4_restore rfl (by decide) ⟨bl_98, bm_X4_restore⟩ (by decide) ⟨rfl, rfl, Nat.le_of_ble_eq_true rfl, Nat.le_of_ble_eq_true rfl⟩ dL_law_703 hP rfl rfl (Nat.le_of_ble_eq_true rfl) (Nat.le_of_ble_eq_true rfl) (r_xrestore hk1.1 hRX (fun μ' f R => ⟨rfl, f, R⟩)) ⟨Nat.le_of_ble_eq_true rfl, Nat.le_of_ble_eq_true rfl⟩) hS (fun v μ1 H1 locs1 hq hP hS _ => ?_)
  obtain ⟨rfl, f1, R1⟩ := hq
  refine W.eq (g2 := F0 m 706 ls [.int ((F_restore st ).1)]) rfl ?_
  refine lv_aload_n hx hb dL_law_706 rfl (lv_at hl 1 rfl) ?_
  refine mm_after hA (mm_callV (n := 0) (r := 21) (ci := 5) (C := RX5) (as := []) (rest := [.int ((F_restore st ).1)]) (Qr := fun v μ' => v = some (.int ((F_restore st ).1)) ∧ fr MA μ1 μ' ∧ RM (F_restore st ).2 μ') hx hb hml hown hts hK hN hinj hl.1 sp_X5_restore rfl (by decide) ⟨bl_101, bm_X5_restore⟩ (by decide) ⟨rfl, rfl, Nat.le_of_ble_eq_true rfl, Nat.le_of_ble_eq_true rfl⟩ dL_law_707 hP rfl rfl (Nat.le_of_ble_eq_true rfl) (Nat.le_of_ble_eq_true rfl) (r_mrestore hk1.1 (RM_X hRM f1) (fun μ' f R => ⟨rfl, f, R⟩)) ⟨Nat.le_of_ble_eq_true rfl, Nat.le_of_ble_eq_true rfl⟩) hS (fun v μ2 H2 locs2 hq hP hS _ => ?_)
  obtain ⟨rfl, f2, R2⟩ := hq
  refine W.eq (g2 := F0 m 710 ls [.int ((F_restore st ).1), .int ((F_restore st ).1)]) rfl ?_
  refine lv_icmp_eq (tgt := 752) hx hb dL_law_710 (by decide) (fun _ => ?_) (fun z => absurd rfl z)
  exact hnext _ _ _ _ _ (k_restore hk1) (RX_M R1 f2) R2 hP hS hl
set_option maxHeartbeats 4000000 in
set_option maxRecDepth 100000 in
theorem lz_count {p : Program} {l : Launch} {e : Env} {s : State} {m : MethodId} {below : List Frame} {meth : Method} {c : Code} {b L : Nat} {xs : Nat → Int32} {σ : Nat → Nat} {dC : Nat → ClassId} {dI : Nat → Nat → Nat} {cI : ClassId} {H : Heap} {locs : List Loc} {ls : Array Slot} {i : Int32} {k n : Nat} {st : st_T} {μ : mm_M} (C : lz_C p s m c b L xs σ dC dI cI) (hL : L ≤ 256) (hi : i = nI k) (hk : k + 4 ≤ L) (hn : n < 900) (hk1 : AK n st) (hRX : RX st μ) (hRM : RM st μ) (hP : va_P (dC, dI) vwCl (mm_w σ cI μ) H) (hS : va_S (fun q => s.heap.size ≤ q) s.heap H locs) (hl : lv_has ls 4 [(3, .int i), (2, .ref (σ 21)), (1, .ref (σ 0)), (0, .ref b)]) (hnext : lz_N p l e s m below meth c b σ dC dI cI i (n + 1)) : W p l e room_1 s m #[Value.ref b] below meth c H locs 31 299 (lw_Z below #[Value.ref b] s) (F0 m 715 ls []) := by
  obtain ⟨hx, hb, hml, hown, hts, hK, hN, hinj, hA, hX, hbl⟩ := id C
  refine lv_aload_n hx hb dL_law_715 rfl (lv_at hl 2 rfl) ?_
  refine lz_arg (j := 1) C hL hi hk (by decide) hS hl (by decide) dL_law_716 dL_law_717 dL_law_718 dL_law_719 dL_law_720 ?_
  refine mm_after hA (mm_callV (n := 1) (r := 0) (ci := 4) (C := RX4) (as := [.int (xs (k + 1))]) (rest := []) (Qr := fun v μ' => v = some (.int (A_count st (xs (k + 1)))) ∧ fr XA μ μ' ∧ RX st μ') hx hb hml hown hts hK hN hinj hl.1 sp_X4_count rfl (by decide) ⟨bl_102, bm_X4_count⟩ (by decide) ⟨rfl, rfl, Nat.le_of_ble_eq_true rfl, Nat.le_of_ble_eq_true rfl⟩ dL_law_721 hP rfl rfl (Nat.le_of_ble_eq_true rfl) (Nat.le_of_ble_eq_true rfl) (r_xcount hk1.1 hRX ⟨rfl, fr_rf _ _, hRX⟩) ⟨Nat.le_of_ble_eq_true rfl, Nat.le_of_ble_eq_true rfl⟩) hS (fun v μ1 H1 locs1 hq hP hS _ => ?_)
  obtain ⟨rfl, f1, R1⟩ := hq
  refine W.eq (g2 := F0 m 724 ls [.int (A_count st (xs (k + 1)))]) rfl ?_
  refine lv_aload_n hx hb dL_law_724 rfl (lv_at hl 1 rfl) ?_
  refine lz_arg (j := 1) C hL hi hk (by decide) hS hl (by decide) dL_law_725 dL_law_726 dL_law_727 dL_law_728 dL_law_729 ?_
  refine mm_after hA (mm_callV (n := 1) (r := 21) (ci := 5) (C := RX5) (as := [.int (xs (k + 1))]) (rest := [.int (A_count st (xs (k + 1)))]) (Qr := fun v μ' => v = some (.int (A_count st (xs (k + 1)))) ∧ fr MA μ1 μ' ∧ RM st μ') hx hb hml hown hts hK hN hinj hl.1 sp_X5_count rfl (by decide) ⟨bl_105, bm_X5_count⟩ (by decide) ⟨rfl, rfl, Nat.le_of_ble_eq_true rfl, Nat.le_of_ble_eq_true rfl⟩ dL_law_730 hP rfl rfl (Nat.le_of_ble_eq_true rfl) (Nat.le_of_ble_eq_true rfl) (r_mcount hk1.1 (RM_X hRM f1) ⟨rfl, fr_rf _ _, (RM_X hRM f1)⟩) ⟨Nat.le_of_ble_eq_true rfl, Nat.le_of_ble_eq_true rfl⟩) hS (fun v μ2 H2 locs2 hq hP hS _ => ?_)
  obtain ⟨rfl, f2, R2⟩ := hq
  refine W.eq (g2 := F0 m 733 ls [.int (A_count st (xs (k + 1))), .int (A_count st (xs (k + 1)))]) rfl ?_
  refine lv_icmp_eq (tgt := 752) hx hb dL_law_733 (by decide) (fun _ => ?_) (fun z => absurd rfl z)
  exact hnext _ _ _ _ _ (AK_u hk1) (RX_M R1 f2) R2 hP hS hl
set_option maxHeartbeats 4000000 in
set_option maxRecDepth 100000 in
theorem lz_digest {p : Program} {l : Launch} {e : Env} {s : State} {m : MethodId} {below : List Frame} {meth : Method} {c : Code} {b L : Nat} {xs : Nat → Int32} {σ : Nat → Nat} {dC : Nat → ClassId} {dI : Nat → Nat → Nat} {cI : ClassId} {H : Heap} {locs : List Loc} {ls : Array Slot} {i : Int32} {k n : Nat} {st : st_T} {μ : mm_M} (C : lz_C p s m c b L xs σ dC dI cI) (hL : L ≤ 256) (hi : i = nI k) (hk : k + 4 ≤ L) (hn : n < 900) (hk1 : AK n st) (hRX : RX st μ) (hRM : RM st μ) (hP : va_P (dC, dI) vwCl (mm_w σ cI μ) H) (hS : va_S (fun q => s.heap.size ≤ q) s.heap H locs) (hl : lv_has ls 4 [(3, .int i), (2, .ref (σ 21)), (1, .ref (σ 0)), (0, .ref b)]) (hnext : lz_N p l e s m below meth c b σ dC dI cI i (n + 1)) : W p l e room_1 s m #[Value.ref b] below meth c H locs 31 299 (lw_Z below #[Value.ref b] s) (F0 m 738 ls []) := by
  obtain ⟨hx, hb, hml, hown, hts, hK, hN, hinj, hA, hX, hbl⟩ := id C
  refine lv_aload_n hx hb dL_law_738 rfl (lv_at hl 2 rfl) ?_
  refine mm_after hA (mm_callV (n := 0) (r := 0) (ci := 4) (C := RX4) (as := []) (rest := []) (Qr := fun v μ' => v = some (.long (A_digest st )) ∧ fr XA μ μ' ∧ RX st μ') hx hb hml hown hts hK hN hinj hl.1 sp_X4_digest rfl (by decide) ⟨bl_106, bm_X4_digest⟩ (by decide) ⟨rfl, rfl, Nat.le_of_ble_eq_true rfl, Nat.le_of_ble_eq_true rfl⟩ dL_law_739 hP rfl rfl (Nat.le_of_ble_eq_true rfl) (Nat.le_of_ble_eq_true rfl) (r_xdigest hk1.1 hRX (fun μ' f R => ⟨rfl, f, R⟩)) ⟨Nat.le_of_ble_eq_true rfl, Nat.le_of_ble_eq_true rfl⟩) hS (fun v μ1 H1 locs1 hq hP hS _ => ?_)
  obtain ⟨rfl, f1, R1⟩ := hq
  refine W.eq (g2 := F0 m 742 ls [.long (A_digest st )]) rfl ?_
  refine lv_aload_n hx hb dL_law_742 rfl (lv_at hl 1 rfl) ?_
  refine mm_after hA (mm_callV (n := 0) (r := 21) (ci := 5) (C := RX5) (as := []) (rest := [.long (A_digest st )]) (Qr := fun v μ' => v = some (.long (A_digest st )) ∧ fr MA μ1 μ' ∧ RM st μ') hx hb hml hown hts hK hN hinj hl.1 sp_X5_digest rfl (by decide) ⟨bl_110, bm_X5_digest⟩ (by decide) ⟨rfl, rfl, Nat.le_of_ble_eq_true rfl, Nat.le_of_ble_eq_true rfl⟩ dL_law_743 hP rfl rfl (Nat.le_of_ble_eq_true rfl) (Nat.le_of_ble_eq_true rfl) (r_mdigest hk1.1 (RM_X hRM f1) (fun μ' f R => ⟨rfl, f, R⟩)) ⟨Nat.le_of_ble_eq_true rfl, Nat.le_of_ble_eq_true rfl⟩) hS (fun v μ2 H2 locs2 hq hP hS _ => ?_)
  obtain ⟨rfl, f2, R2⟩ := hq
  refine W.eq (g2 := F0 m 746 ls [.long (A_digest st ), .long (A_digest st )]) rfl ?_
  refine W.lcmp hx hb dL_law_746 ?_
  refine lv_if_eq (tgt := 752) hx hb dL_law_747 (by decide) (fun _ => ?_) (fun z => absurd (by simp [lg_cmp]) z)
  exact hnext _ _ _ _ _ (AK_u hk1) (RX_M R1 f2) R2 hP hS hl
