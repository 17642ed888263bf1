/-! the law: its loop, and its start (by gen_start.py) -/
theorem bs_0 : ((.classLink RL 7 RX4 : Cond)) ∈ mm_big := mm_inb (by decide +kernel) rfl
theorem bs_1 : ((.classLink RL 10 RX5 : Cond)) ∈ mm_big := mm_inb (by decide +kernel) rfl
theorem bs_2 : ((.methodLink RL 9 yX4_init : Cond)) ∈ mm_big := mm_inb (by decide +kernel) rfl
theorem bs_3 : ((.methodLink RL 12 yX5_init : Cond)) ∈ mm_big := mm_inb (by decide +kernel) rfl
def z_M : mm_M := (fun r => match r with
  | 21 => (fun k => match k with
    | 16 => -1
    | _ => 0)
  | _ => fun _ => 0, fun _ => 0)
def z_T : st_T := (0, fun _ => 0, 0, 0, (fun _ => 0, fun _ => 0), ((0, fun _ => 0, fun _ => 0, fun _ => 0, 0), 0, (0, fun _ => 0, fun _ => 0)), none)
theorem z_AK : AK 0 z_T := ⟨⟨by decide, by decide, by decide, fun j _ => ⟨Nat.zero_lt_succ 7, Nat.zero_le 9⟩, ⟨⟨by decide, fun q hq => absurd hq (Nat.not_lt_zero _), by decide⟩, by decide, fun q hq => absurd hq (Nat.not_lt_zero _)⟩, fun _ => rfl, fun g hg => nomatch hg⟩, Nat.le_refl _, fun _ => rfl⟩
theorem z_RX : RX z_T z_M := ⟨rfl, fun j hj => absurd hj (Nat.not_lt_zero _), rfl, rfl, fun j _ => ⟨rfl, rfl⟩, ⟨⟨rfl, fun q hq => absurd hq (Nat.not_lt_zero _), rfl⟩, rfl, rfl, rfl, rfl⟩, rfl⟩
theorem z_RM : RM z_T z_M := ⟨rfl, fun j hj => absurd hj (Nat.not_lt_zero _), rfl, rfl, rfl, fun j _ => ⟨rfl, rfl⟩, ⟨⟨rfl, fun q hq => absurd hq (Nat.not_lt_zero _), rfl⟩, rfl, rfl, fun q hq => absurd hq (Nat.not_lt_zero _)⟩, Or.inl rfl⟩
theorem z_inj {σ : Nat → Nat} {cI : ClassId} {μ : mm_M} {A : Nat → Prop} (hD : va_D A (mm_w σ cI μ)) : mm_inj σ := fun i j hi hj e => hD.1 i j _ _ (mm_w_get hi) (mm_w_get hj) e
theorem z_A {σ : Nat → Nat} {cI : ClassId} {μ : mm_M} {A : Nat → Prop} (hD : va_D A (mm_w σ cI μ)) : ∀ q, mm_A σ q → A q := by
  intro q h
  obtain ⟨r, hr, e⟩ := h
  have := hD.2 r _ (mm_w_get hr)
  rw [e]; exact this
theorem z_warm {w : Cond} (hw : w ∈ mm_nest4) {s U : State} (hW : s.WarmedH U.vm) (h : va_Nw w s) : va_Nw w U := by
  simp only [mm_nest4, List.mem_cons, List.not_mem_nil, or_false] at hw
  rcases hw with rfl | rfl | rfl | rfl <;> exact va_Nw.warmM hW h
theorem z_nest : ∀ w ∈ mm_nest, w ∈ lw_tbl ∧ w.onTables = true := by decide +kernel
theorem z_nest4 : ∀ w ∈ mm_nest4, w ∈ lw_tbl ∧ w.onTables = true := by decide +kernel
theorem z_out : ∀ j, j < 32 → 22 < j → (22 : Int) < (nI j).toInt := by decide +kernel
theorem z_sub {k L : Nat} (hL : L ≤ 256) (hk : k ≤ L) : nI L - 4 < nI k ↔ L < k + 4 := by
  have e : (nI L - nI 4).toInt = (L : Int) - 4 := pk_sub_toInt (by omega) (by omega)
  have e2 : (nI k).toInt = (k : Int) := nI_toInt (by omega)
  rw [show (4 : Int32) = nI 4 from rfl, ar_lt, e, e2]
  omega
set_option maxHeartbeats 4000000 in
set_option maxRecDepth 100000 in
theorem lz_loop {p : Program} {e : Env} {s : State} {m : MethodId} {below : List Frame} {meth : Method} {c : Code} (l : Launch) {b L : Nat} {xs : Nat → Int32} {σ : Nat → Nat} {dC : Nat → ClassId} {dI : Nat → Nat → Nat} {cI : ClassId} (hL : L ≤ 256) (hr : meth.sig.returnType = ret) (hlocks : meth.locks = false) (C : lz_C p s m c b L xs σ dC dI cI) : ∀ (F k n : Nat) (i : Int32), i = nI k → k ≤ L → L ≤ k + 4 * F + 3 → n + F ≤ 100 → ∀ (st : st_T) (μ : mm_M) (H : Heap) (locs : List Loc) (ls : Array Slot), AK n st → RX st μ → RM st μ → va_P (dC, dI) vwCl (mm_w σ cI μ) H → va_S (fun q => s.heap.size ≤ q) s.heap H locs → lv_has ls 4 [(3, .int i), (2, .ref (σ 21)), (1, .ref (σ 0)), (0, .ref b)] → W p l e room_1 s m #[Value.ref b] below meth c H locs 31 299 (lw_Z below #[Value.ref b] s) (F0 m 18 ls []) := by
  obtain ⟨hx, hb, hml, hown, hts, hK, hN, hinj, hA, hX, hbl⟩ := id C
  intro F
  induction F with
  | zero =>
    intro k n i hi hkL hF hn st μ H locs ls hk1 hRX hRM hP hS hl
    refine lv_iload_n hx hb dL_law_18 rfl (lv_at hl 0 rfl) ?_
    refine lv_aload_n hx hb dL_law_19 rfl (lv_at hl 3 rfl) ?_
    refine va_slen (A := fun q => s.heap.size ≤ q) hx hb hX hbl (Nat.not_le.mpr hbl) hS dL_law_20 ?_
    refine lv_iconst (v := 4) hx hb dL_law_21 (by decide) ?_
    refine lv_isub hx hb dL_law_22 ?_
    refine lv_icmp_gt (tgt := 758) hx hb dL_law_23 (by decide) (fun _ => ?_) (fun z => absurd (by rw [hi]; exact (z_sub hL hkL).mpr (by omega)) z)
    refine lv_iconst (v := 1) hx hb dL_law_758 (by decide) ?_
    exact va_forget hS.2.2 (lw_ret hx hb hr hlocks dL_law_759)
  | succ F ih =>
    intro k n i hi hkL hF hn st μ H locs ls hk1 hRX hRM hP hS hl
    refine lv_iload_n hx hb dL_law_18 rfl (lv_at hl 0 rfl) ?_
    refine lv_aload_n hx hb dL_law_19 rfl (lv_at hl 3 rfl) ?_
    refine va_slen (A := fun q => s.heap.size ≤ q) hx hb hX hbl (Nat.not_le.mpr hbl) hS dL_law_20 ?_
    refine lv_iconst (v := 4) hx hb dL_law_21 (by decide) ?_
    refine lv_isub hx hb dL_law_22 ?_
    refine lv_icmp_gt (tgt := 758) hx hb dL_law_23 (by decide) (fun _ => ?_) (fun z => ?_)
    · refine lv_iconst (v := 1) hx hb dL_law_758 (by decide) ?_
      exact va_forget hS.2.2 (lw_ret hx hb hr hlocks dL_law_759)
    · have hk : k + 4 ≤ L := by
        rw [hi] at z
        exact Nat.not_lt.mp (fun q => z ((z_sub hL hkL).mpr q))
      have hnext : lz_N p l e s m below meth c b σ dC dI cI i (n + 1) := by
        intro st μ H locs ls hk1 hRX hRM hP hS hl
        refine lv_iinc (v := nI (k + 4)) (lv' := [(3, .int (nI (k + 4))), (2, .ref (σ 21)), (1, .ref (σ 0)), (0, .ref b)]) hx hb dL_law_752 hl (k := 0) rfl (by rw [hi]; exact nI_add k 4) (by decide) rfl (fun ls hl => ?_)
        refine lv_goto (tgt := 18) hx hb dL_law_755 (by decide) ?_
        exact ih (k + 4) (n + 1) _ rfl hk (by omega) (by omega) st μ H locs ls hk1 hRX hRM hP hS hl
      refine lv_aload_n hx hb dL_law_26 rfl (lv_at hl 3 rfl) ?_
      refine lv_iload_n hx hb dL_law_27 rfl (lv_at hl 0 rfl) ?_
      rw [show (Value.int i) = Value.int (nI k) from by rw [hi]]
      refine va_sld (A := fun q => s.heap.size ≤ q) (i := nI k) hx hb hX hbl (Nat.not_le.mpr hbl) hS (ar_in (by omega) (by omega)) dL_law_28 ?_
      refine lv_bipush (v := 31) hx hb dL_law_29 (by decide) ?_
      refine lv_iand hx hb dL_law_31 ?_
      obtain ⟨j, hj, ej⟩ := pk_andE (xs (nI k).toNatClampNeg) (m := 31) 5 rfl
      rw [ej]
      have hn9 : n < 900 := by omega
      rcases (show j = 0 ∨ j = 1 ∨ j = 2 ∨ j = 3 ∨ j = 4 ∨ j = 5 ∨ j = 6 ∨ j = 7 ∨ j = 8 ∨ j = 9 ∨ j = 10 ∨ j = 11 ∨ j = 12 ∨ j = 13 ∨ j = 14 ∨ j = 15 ∨ j = 16 ∨ j = 17 ∨ j = 18 ∨ j = 19 ∨ j = 20 ∨ j = 21 ∨ j = 22 ∨ 22 < j by omega) with rfl | rfl | rfl | rfl | rfl | rfl | rfl | rfl | rfl | rfl | rfl | rfl | rfl | rfl | rfl | rfl | rfl | rfl | rfl | rfl | rfl | rfl | rfl | hj2
      · refine lv_tableIn (x := nI 0) (off := 108) (tgt := 140) hx hb dL_law_32 (by decide) (by decide) (by decide) (by decide) ?_
        exact lz_letter C hL hi hk hn9 hk1 hRX hRM hP hS hl hnext
      · refine lv_tableIn (x := nI 1) (off := 131) (tgt := 163) hx hb dL_law_32 (by decide) (by decide) (by decide) (by decide) ?_
        exact lz_blank C hL hi hk hn9 hk1 hRX hRM hP hS hl hnext
      · refine lv_tableIn (x := nI 2) (off := 144) (tgt := 176) hx hb dL_law_32 (by decide) (by decide) (by decide) (by decide) ?_
        exact lz_fault C hL hi hk hn9 hk1 hRX hRM hP hS hl hnext
      · refine lv_tableIn (x := nI 3) (off := 157) (tgt := 189) hx hb dL_law_32 (by decide) (by decide) (by decide) (by decide) ?_
        exact lz_dome C hL hi hk hn9 hk1 hRX hRM hP hS hl hnext
      · refine lv_tableIn (x := nI 4) (off := 170) (tgt := 202) hx hb dL_law_32 (by decide) (by decide) (by decide) (by decide) ?_
        exact lz_place C hL hi hk hn9 hk1 hRX hRM hP hS hl hnext
      · refine lv_tableIn (x := nI 5) (off := 203) (tgt := 235) hx hb dL_law_32 (by decide) (by decide) (by decide) (by decide) ?_
        exact lz_cloth C hL hi hk hn9 hk1 hRX hRM hP hS hl hnext
      · refine lv_tableIn (x := nI 6) (off := 252) (tgt := 284) hx hb dL_law_32 (by decide) (by decide) (by decide) (by decide) ?_
        exact lz_person C hL hi hk hn9 hk1 hRX hRM hP hS hl hnext
      · refine lv_tableIn (x := nI 7) (off := 285) (tgt := 317) hx hb dL_law_32 (by decide) (by decide) (by decide) (by decide) ?_
        exact lz_about C hL hi hk hn9 hk1 hRX hRM hP hS hl hnext
      · refine lv_tableIn (x := nI 8) (off := 318) (tgt := 350) hx hb dL_law_32 (by decide) (by decide) (by decide) (by decide) ?_
        exact lz_as C hL hi hk hn9 hk1 hRX hRM hP hS hl hnext
      · refine lv_tableIn (x := nI 9) (off := 351) (tgt := 383) hx hb dL_law_32 (by decide) (by decide) (by decide) (by decide) ?_
        exact lz_move C hL hi hk hn9 hk1 hRX hRM hP hS hl hnext
      · refine lv_tableIn (x := nI 10) (off := 384) (tgt := 416) hx hb dL_law_32 (by decide) (by decide) (by decide) (by decide) ?_
        exact lz_say C hL hi hk hn9 hk1 hRX hRM hP hS hl hnext
      · refine lv_tableIn (x := nI 11) (off := 417) (tgt := 449) hx hb dL_law_32 (by decide) (by decide) (by decide) (by decide) ?_
        exact lz_hears C hL hi hk hn9 hk1 hRX hRM hP hS hl hnext
      · refine lv_tableIn (x := nI 12) (off := 450) (tgt := 482) hx hb dL_law_32 (by decide) (by decide) (by decide) (by decide) ?_
        exact lz_screens C hL hi hk hn9 hk1 hRX hRM hP hS hl hnext
      · refine lv_tableIn (x := nI 13) (off := 493) (tgt := 525) hx hb dL_law_32 (by decide) (by decide) (by decide) (by decide) ?_
        exact lz_stand C hL hi hk hn9 hk1 hRX hRM hP hS hl hnext
      · refine lv_tableIn (x := nI 14) (off := 526) (tgt := 558) hx hb dL_law_32 (by decide) (by decide) (by decide) (by decide) ?_
        exact lz_trial C hL hi hk hn9 hk1 hRX hRM hP hS hl hnext
      · refine lv_tableIn (x := nI 15) (off := 575) (tgt := 607) hx hb dL_law_32 (by decide) (by decide) (by decide) (by decide) ?_
        exact lz_forget C hL hi hk hn9 hk1 hRX hRM hP hS hl hnext
      · refine lv_tableIn (x := nI 16) (off := 588) (tgt := 620) hx hb dL_law_32 (by decide) (by decide) (by decide) (by decide) ?_
        exact lz_who C hL hi hk hn9 hk1 hRX hRM hP hS hl hnext
      · refine lv_tableIn (x := nI 17) (off := 601) (tgt := 633) hx hb dL_law_32 (by decide) (by decide) (by decide) (by decide) ?_
        exact lz_ask C hL hi hk hn9 hk1 hRX hRM hP hS hl hnext
      · refine lv_tableIn (x := nI 18) (off := 614) (tgt := 646) hx hb dL_law_32 (by decide) (by decide) (by decide) (by decide) ?_
        exact lz_days C hL hi hk hn9 hk1 hRX hRM hP hS hl hnext
      · refine lv_tableIn (x := nI 19) (off := 657) (tgt := 689) hx hb dL_law_32 (by decide) (by decide) (by decide) (by decide) ?_
        exact lz_image C hL hi hk hn9 hk1 hRX hRM hP hS hl hnext
      · refine lv_tableIn (x := nI 20) (off := 670) (tgt := 702) hx hb dL_law_32 (by decide) (by decide) (by decide) (by decide) ?_
        exact lz_restore C hL hi hk hn9 hk1 hRX hRM hP hS hl hnext
      · refine lv_tableIn (x := nI 21) (off := 683) (tgt := 715) hx hb dL_law_32 (by decide) (by decide) (by decide) (by decide) ?_
        exact lz_count C hL hi hk hn9 hk1 hRX hRM hP hS hl hnext
      · refine lv_tableIn (x := nI 22) (off := 706) (tgt := 738) hx hb dL_law_32 (by decide) (by decide) (by decide) (by decide) ?_
        exact lz_digest C hL hi hk hn9 hk1 hRX hRM hP hS hl hnext
      · refine lv_tableOut (tgt := 752) hx hb dL_law_32 (Or.inr (z_out j hj hj2)) (by decide) ?_
        exact hnext st μ H locs ls (AK_u hk1) hRX hRM hP hS hl
set_option maxHeartbeats 8000000 in
set_option maxRecDepth 100000 in
theorem whole_start {p : Program} {e : Env} {s : State} {m : MethodId} {below : List Frame} {meth : Method} {c : Code} (l : Launch) {b L : Nat} {xs : Nat → Int32} (hL : L ≤ 256) (C0 : lw_At p s m meth c b L xs) : W p l e room_1 s m #[Value.ref b] below meth c s.heap [] 0 0 (lw_Z below #[Value.ref b] s) (entryFrame m ([Value.ref b] : List Value).toArray 4) := by
  obtain ⟨hx, hb, hr, hml, hown0, htsL, hX, hbl, hlocks, hgv⟩ := id C0
  have hown : s.vm.findClass RL = some m.cls := hown0
  have hts : ∀ w ∈ mm_big, w.before #[Value.ref b] s = true := fun w hw => htsL w (List.mem_filter.mp hw).1
  have hN : ∀ w ∈ mm_nest, va_Nw w s := fun w hw => va_Nw.of (z_nest w hw).2 (htsL w (z_nest w hw).1)
  have hN4 : ∀ w ∈ mm_nest4, va_Nw w s := fun w hw => va_Nw.of (z_nest4 w hw).2 (htsL w (z_nest4 w hw).1)
  have hA : ∀ q : Nat, s.heap.size ≤ q → (fun q : Nat => s.heap.size ≤ q) q := fun _ h => h
  have hbA : ¬ (fun q : Nat => s.heap.size ≤ q) b := Nat.not_le.mpr hbl
  obtain ⟨c0, iS0, hKn0⟩ := u_known (C := RX0) (T := TX0) (N := 1) (n := 1) hts hin_X0 (hts _ bi_46)
  obtain ⟨c1, iS1, hKn1⟩ := u_known (C := RX1) (T := TX1) (N := 3) (n := 3) hts hin_X1 (hts _ bi_40)
  obtain ⟨c2, iS2, hKn2⟩ := u_known (C := RX2) (T := TX2) (N := 2) (n := 2) hts hin_X2 (hts _ bi_26)
  obtain ⟨c3, iS3, hKn3⟩ := u_known (C := RX3) (T := TX3) (N := 9) (n := 9) hts hin_X3 (hts _ bi_32)
  obtain ⟨c4, iS4, hKn4⟩ := u_known (C := RX4) (T := TX4) (N := 12) (n := 12) hts hin_X4 (hts _ bi_69)
  obtain ⟨c5, iS5, hKn5⟩ := u_known (C := RX5) (T := TX5) (N := 24) (n := 24) hts hin_X5 (hts _ bi_73)
  obtain ⟨dC, dI, hKc⟩ : ∃ (dC : Nat → ClassId) (dI : Nat → Nat → Nat), ∀ (k : Nat) (q : vw_C), vwCl[k]? = some q → u_Kn s q.1 q.2.1 q.2.2 (dC k) (dI k) := by
    refine ⟨fun k => match k with | 0 => c0 | 1 => c1 | 2 => c2 | 3 => c3 | 4 => c4 | _ => c5, fun k => match k with | 0 => iS0 | 1 => iS1 | 2 => iS2 | 3 => iS3 | 4 => iS4 | _ => iS5, ?_⟩
    intro k q hq
    match k, hq with
    | 0, hq => cases hq; exact hKn0
    | 1, hq => cases hq; exact hKn1
    | 2, hq => cases hq; exact hKn2
    | 3, hq => cases hq; exact hKn3
    | 4, hq => cases hq; exact hKn4
    | 5, hq => cases hq; exact hKn5
    | k + 6, hq => simp [vwCl] at hq
  obtain ⟨cI, kA, comp, hfind, hkA, hkind⟩ := Cond.arrayClass_spec (hts _ bi_5)
  have hK : va_K (dC, dI) vwCl [(cI, .int)] s := by
    refine ⟨hKc, fun k q h => ?_⟩
    have hz : k < 1 := (List.getElem?_eq_some_iff.mp h).1
    rw [show k = 0 by omega] at h
    cases h
    exact ⟨fun n z => ⟨fun k h => (by cases h), kA, hkA, comp, hkind⟩, hfind⟩
  have hS : va_S (fun q : Nat => s.heap.size ≤ q) s.heap s.heap [] := va_S.rf
  have hP : va_P (dC, dI) vwCl [] s.heap := fun k q h => by simp at h
  have hD : va_D (fun q : Nat => s.heap.size ≤ q) [] := ⟨fun i j p q h => by simp at h, fun k q h => by simp at h⟩
  have hl := lv_entry ([.ref b]) (n := 4) (Nat.le_of_ble_eq_true rfl)
  rw [lg_entry_eq]
  generalize (lg_sl ([.ref b]) ++ List.replicate (4 - (lg_sl ([.ref b])).length) Slot.unset).toArray = ls at hl ⊢
  have hl : lv_has ls 4 [(0, .ref b)] := hl
  refine va_new (ci := 4) (fs := [.null, .int 0, .null, .null, .null, .null, .null, .null, .null, .int 0, .int 0, .int 0]) (C := RX4) (T := TX4) (N := 12) hx hb hts hin_X4 tyX4 tyX4_ok hown (hts _ bs_0) (hts _ bi_69) (hts _ bi_67) hK hP hD hS hA rfl zd_X4 (Nat.le_of_ble_eq_true rfl) (Nat.le_of_ble_eq_true rfl) dL_law_0 (fun x0 H hP hD hS => ?_)
  have hP : va_P (dC, dI) vwCl [(x0, .inr (4, [.null, .int 0, .null, .null, .null, .null, .null, .null, .null, .int 0, .int 0, .int 0]))] H := hP
  have hD : va_D (fun q : Nat => s.heap.size ≤ q) [(x0, .inr (4, [.null, .int 0, .null, .null, .null, .null, .null, .null, .null, .int 0, .int 0, .int 0]))] := hD
  refine W.widen (k := 1) (n := 12) (by omega) (by omega) ?_
  refine lv_dup hx hb dL_law_3 rfl ?_
  have hPc := hP.sub (ws' := [(x0, .inr (4, [.null, .int 0, .null, .null, .null, .null, .null, .null, .null, .int 0, .int 0, .int 0]))]) [0] rfl
  have hDc := hD.sub (ws' := [(x0, .inr (4, [.null, .int 0, .null, .null, .null, .null, .null, .null, .null, .int 0, .int 0, .int 0]))]) [0] (by decide) rfl
  have hFc := va_free (wc := [(x0, .inr (4, [.null, .int 0, .null, .null, .null, .null, .null, .null, .null, .int 0, .int 0, .int 0]))]) hD hS hA [0] rfl
  refine va_callv (va_runI (As := []) (rest := [.ref x0]) ⟨hx, hb, hml, hown, hts⟩ (c_X4_init l dC dI cI x0 H.size) (cwI 0 hts (zG bi_66) rfl rfl rfl (hts _ bi_67) (hts _ bs_2) (hts _ bi_68) rfl (by decide +kernel) ⟨Nat.le_of_ble_eq_true rfl, Nat.le_of_ble_eq_true rfl⟩) ⟨fun a U g mk q => by obtain ⟨q0, q1, qP, qK, qD, qN⟩ := q; exact ⟨q0, q1, qP, va_K.moved (u := U) (U := U.calling g mk a) (Vm.Alike.refl U.vm) qK, qD, fun w hw => va_Nw.same (u := U) (U := U.calling g mk a) (z_nest4 w hw).2 rfl (qN w hw)⟩, fun U hU hW => ⟨rfl, by rw [hU], by rw [hU]; exact hPc, va_K.moved hW.alike hK, hDc.weaken (fun _ _ _ _ => trivial), fun w hw => z_warm hw hW (hN4 w hw)⟩⟩ rfl rfl hl.1 rfl (lv_room (Nat.le_of_ble_eq_true rfl)) dL_law_4 ⟨Nat.le_of_ble_eq_true rfl, Nat.le_of_ble_eq_true rfl⟩) hS (fun q _ h => hFc q h) hFc (fun u t H1 locs ht hvm hw hB hz1 hk1 hS => ?_)
  obtain ⟨aq7, aq18, aq18_q7, aq18_q15, aq29, aq29_q12, aq29_q20, aq29_q28, aq40, aq40_q12, aq40_q20, aq40_q28, aq51, aq51_q12, aq51_q20, aq51_q28, aq62, aq62_q7, aq73, aq86, hP1, hK1, hD1⟩ := hB
  rw [ht] at hP1
  obtain ⟨hP, hD⟩ := va_join (wr := []) (w1 := [(x0, .inr (4, [.ref aq7, .int 0, .ref aq18, .ref aq29, .ref aq40, .ref aq51, .ref aq62, .ref aq73, .ref aq86, .int 0, .int 0, .int 0])), (aq7, .inl (cI, 20, .inl (fun _ => 0))), (aq18, .inr (2, [.ref aq18_q7, .ref aq18_q15])), (aq18_q7, .inl (cI, 8, .inl (fun _ => 0))), (aq18_q15, .inl (cI, 8, .inl (fun _ => 0))), (aq29, .inr (3, [.int 0, .ref aq29_q12, .ref aq29_q20, .ref aq29_q28, .int 0, .int 0, .int 0, .int 0, .int 0])), (aq29_q12, .inl (cI, 6, .inl (fun _ => 0))), (aq29_q20, .inl (cI, 6, .inl (fun _ => 0))), (aq29_q28, .inl (cI, 6, .inl (fun _ => 0))), (aq40, .inr (3, [.int 0, .ref aq40_q12, .ref aq40_q20, .ref aq40_q28, .int 0, .int 0, .int 0, .int 0, .int 0])), (aq40_q12, .inl (cI, 6, .inl (fun _ => 0))), (aq40_q20, .inl (cI, 6, .inl (fun _ => 0))), (aq40_q28, .inl (cI, 6, .inl (fun _ => 0))), (aq51, .inr (3, [.int 0, .ref aq51_q12, .ref aq51_q20, .ref aq51_q28, .int 0, .int 0, .int 0, .int 0, .int 0])), (aq51_q12, .inl (cI, 6, .inl (fun _ => 0))), (aq51_q20, .inl (cI, 6, .inl (fun _ => 0))), (aq51_q28, .inl (cI, 6, .inl (fun _ => 0))), (aq62, .inr (1, [.ref aq62_q7, .int 0, .int 0])), (aq62_q7, .inl (cI, 6, .inl (fun _ => 0))), (aq73, .inr (0, [.long 0])), (aq86, .inl (cI, 6, .inl (fun _ => 0)))]) hP hD [0] [] rfl rfl (by decide) (by decide) hk1 hFc hP1 hD1
  generalize H1 = H at hP hS ⊢
  have hP : va_P (dC, dI) vwCl [(x0, .inr (4, [.ref aq7, .int 0, .ref aq18, .ref aq29, .ref aq40, .ref aq51, .ref aq62, .ref aq73, .ref aq86, .int 0, .int 0, .int 0])), (aq7, .inl (cI, 20, .inl (fun _ => 0))), (aq18, .inr (2, [.ref aq18_q7, .ref aq18_q15])), (aq18_q7, .inl (cI, 8, .inl (fun _ => 0))), (aq18_q15, .inl (cI, 8, .inl (fun _ => 0))), (aq29, .inr (3, [.int 0, .ref aq29_q12, .ref aq29_q20, .ref aq29_q28, .int 0, .int 0, .int 0, .int 0, .int 0])), (aq29_q12, .inl (cI, 6, .inl (fun _ => 0))), (aq29_q20, .inl (cI, 6, .inl (fun _ => 0))), (aq29_q28, .inl (cI, 6, .inl (fun _ => 0))), (aq40, .inr (3, [.int 0, .ref aq40_q12, .ref aq40_q20, .ref aq40_q28, .int 0, .int 0, .int 0, .int 0, .int 0])), (aq40_q12, .inl (cI, 6, .inl (fun _ => 0))), (aq40_q20, .inl (cI, 6, .inl (fun _ => 0))), (aq40_q28, .inl (cI, 6, .inl (fun _ => 0))), (aq51, .inr (3, [.int 0, .ref aq51_q12, .ref aq51_q20, .ref aq51_q28, .int 0, .int 0, .int 0, .int 0, .int 0])), (aq51_q12, .inl (cI, 6, .inl (fun _ => 0))), (aq51_q20, .inl (cI, 6, .inl (fun _ => 0))), (aq51_q28, .inl (cI, 6, .inl (fun _ => 0))), (aq62, .inr (1, [.ref aq62_q7, .int 0, .int 0])), (aq62_q7, .inl (cI, 6, .inl (fun _ => 0))), (aq73, .inr (0, [.long 0])), (aq86, .inl (cI, 6, .inl (fun _ => 0)))] H := hP
  have hD : va_D (fun q : Nat => s.heap.size ≤ q) [(x0, .inr (4, [.ref aq7, .int 0, .ref aq18, .ref aq29, .ref aq40, .ref aq51, .ref aq62, .ref aq73, .ref aq86, .int 0, .int 0, .int 0])), (aq7, .inl (cI, 20, .inl (fun _ => 0))), (aq18, .inr (2, [.ref aq18_q7, .ref aq18_q15])), (aq18_q7, .inl (cI, 8, .inl (fun _ => 0))), (aq18_q15, .inl (cI, 8, .inl (fun _ => 0))), (aq29, .inr (3, [.int 0, .ref aq29_q12, .ref aq29_q20, .ref aq29_q28, .int 0, .int 0, .int 0, .int 0, .int 0])), (aq29_q12, .inl (cI, 6, .inl (fun _ => 0))), (aq29_q20, .inl (cI, 6, .inl (fun _ => 0))), (aq29_q28, .inl (cI, 6, .inl (fun _ => 0))), (aq40, .inr (3, [.int 0, .ref aq40_q12, .ref aq40_q20, .ref aq40_q28, .int 0, .int 0, .int 0, .int 0, .int 0])), (aq40_q12, .inl (cI, 6, .inl (fun _ => 0))), (aq40_q20, .inl (cI, 6, .inl (fun _ => 0))), (aq40_q28, .inl (cI, 6, .inl (fun _ => 0))), (aq51, .inr (3, [.int 0, .ref aq51_q12, .ref aq51_q20, .ref aq51_q28, .int 0, .int 0, .int 0, .int 0, .int 0])), (aq51_q12, .inl (cI, 6, .inl (fun _ => 0))), (aq51_q20, .inl (cI, 6, .inl (fun _ => 0))), (aq51_q28, .inl (cI, 6, .inl (fun _ => 0))), (aq62, .inr (1, [.ref aq62_q7, .int 0, .int 0])), (aq62_q7, .inl (cI, 6, .inl (fun _ => 0))), (aq73, .inr (0, [.long 0])), (aq86, .inl (cI, 6, .inl (fun _ => 0)))] := hD
  refine W.widen (k := 21) (n := 147) (by omega) (by omega) ?_
  refine lv_astore_n (lv' := [(1, .ref x0), (0, .ref b)]) hx hb dL_law_7 rfl hl (by decide) rfl (fun ls hl => ?_)
  refine va_new (ci := 5) (fs := [.null, .int 0, .int 0, .int 0, .int 0, .int 0, .null, .null, .int 0, .null, .null, .int 0, .int 0, .null, .int 0, .null, .int 0, .int 0, .int 0, .int 0, .int 0, .null, .null, .long 0]) (C := RX5) (T := TX5) (N := 24) hx hb hts hin_X5 tyX5 tyX5_ok hown (hts _ bs_1) (hts _ bi_73) (hts _ bi_71) hK hP hD hS hA rfl zd_X5 (Nat.le_of_ble_eq_true rfl) (Nat.le_of_ble_eq_true rfl) dL_law_8 (fun y0 H hP hD hS => ?_)
  have hP : va_P (dC, dI) vwCl [(x0, .inr (4, [.ref aq7, .int 0, .ref aq18, .ref aq29, .ref aq40, .ref aq51, .ref aq62, .ref aq73, .ref aq86, .int 0, .int 0, .int 0])), (aq7, .inl (cI, 20, .inl (fun _ => 0))), (aq18, .inr (2, [.ref aq18_q7, .ref aq18_q15])), (aq18_q7, .inl (cI, 8, .inl (fun _ => 0))), (aq18_q15, .inl (cI, 8, .inl (fun _ => 0))), (aq29, .inr (3, [.int 0, .ref aq29_q12, .ref aq29_q20, .ref aq29_q28, .int 0, .int 0, .int 0, .int 0, .int 0])), (aq29_q12, .inl (cI, 6, .inl (fun _ => 0))), (aq29_q20, .inl (cI, 6, .inl (fun _ => 0))), (aq29_q28, .inl (cI, 6, .inl (fun _ => 0))), (aq40, .inr (3, [.int 0, .ref aq40_q12, .ref aq40_q20, .ref aq40_q28, .int 0, .int 0, .int 0, .int 0, .int 0])), (aq40_q12, .inl (cI, 6, .inl (fun _ => 0))), (aq40_q20, .inl (cI, 6, .inl (fun _ => 0))), (aq40_q28, .inl (cI, 6, .inl (fun _ => 0))), (aq51, .inr (3, [.int 0, .ref aq51_q12, .ref aq51_q20, .ref aq51_q28, .int 0, .int 0, .int 0, .int 0, .int 0])), (aq51_q12, .inl (cI, 6, .inl (fun _ => 0))), (aq51_q20, .inl (cI, 6, .inl (fun _ => 0))), (aq51_q28, .inl (cI, 6, .inl (fun _ => 0))), (aq62, .inr (1, [.ref aq62_q7, .int 0, .int 0])), (aq62_q7, .inl (cI, 6, .inl (fun _ => 0))), (aq73, .inr (0, [.long 0])), (aq86, .inl (cI, 6, .inl (fun _ => 0))), (y0, .inr (5, [.null, .int 0, .int 0, .int 0, .int 0, .int 0, .null, .null, .int 0, .null, .null, .int 0, .int 0, .null, .int 0, .null, .int 0, .int 0, .int 0, .int 0, .int 0, .null, .null, .long 0]))] H := hP
  have hD : va_D (fun q : Nat => s.heap.size ≤ q) [(x0, .inr (4, [.ref aq7, .int 0, .ref aq18, .ref aq29, .ref aq40, .ref aq51, .ref aq62, .ref aq73, .ref aq86, .int 0, .int 0, .int 0])), (aq7, .inl (cI, 20, .inl (fun _ => 0))), (aq18, .inr (2, [.ref aq18_q7, .ref aq18_q15])), (aq18_q7, .inl (cI, 8, .inl (fun _ => 0))), (aq18_q15, .inl (cI, 8, .inl (fun _ => 0))), (aq29, .inr (3, [.int 0, .ref aq29_q12, .ref aq29_q20, .ref aq29_q28, .int 0, .int 0, .int 0, .int 0, .int 0])), (aq29_q12, .inl (cI, 6, .inl (fun _ => 0))), (aq29_q20, .inl (cI, 6, .inl (fun _ => 0))), (aq29_q28, .inl (cI, 6, .inl (fun _ => 0))), (aq40, .inr (3, [.int 0, .ref aq40_q12, .ref aq40_q20, .ref aq40_q28, .int 0, .int 0, .int 0, .int 0, .int 0])), (aq40_q12, .inl (cI, 6, .inl (fun _ => 0))), (aq40_q20, .inl (cI, 6, .inl (fun _ => 0))), (aq40_q28, .inl (cI, 6, .inl (fun _ => 0))), (aq51, .inr (3, [.int 0, .ref aq51_q12, .ref aq51_q20, .ref aq51_q28, .int 0, .int 0, .int 0, .int 0, .int 0])), (aq51_q12, .inl (cI, 6, .inl (fun _ => 0))), (aq51_q20, .inl (cI, 6, .inl (fun _ => 0))), (aq51_q28, .inl (cI, 6, .inl (fun _ => 0))), (aq62, .inr (1, [.ref aq62_q7, .int 0, .int 0])), (aq62_q7, .inl (cI, 6, .inl (fun _ => 0))), (aq73, .inr (0, [.long 0])), (aq86, .inl (cI, 6, .inl (fun _ => 0))), (y0, .inr (5, [.null, .int 0, .int 0, .int 0, .int 0, .int 0, .null, .null, .int 0, .null, .null, .int 0, .int 0, .null, .int 0, .null, .int 0, .int 0, .int 0, .int 0, .int 0, .null, .null, .long 0]))] := hD
  refine W.widen (k := 22) (n := 171) (by omega) (by omega) ?_
  refine lv_dup hx hb dL_law_11 rfl ?_
  have hPc := hP.sub (ws' := [(y0, .inr (5, [.null, .int 0, .int 0, .int 0, .int 0, .int 0, .null, .null, .int 0, .null, .null, .int 0, .int 0, .null, .int 0, .null, .int 0, .int 0, .int 0, .int 0, .int 0, .null, .null, .long 0]))]) [21] rfl
  have hDc := hD.sub (ws' := [(y0, .inr (5, [.null, .int 0, .int 0, .int 0, .int 0, .int 0, .null, .null, .int 0, .null, .null, .int 0, .int 0, .null, .int 0, .null, .int 0, .int 0, .int 0, .int 0, .int 0, .null, .null, .long 0]))]) [21] (by decide) rfl
  have hFc := va_free (wc := [(y0, .inr (5, [.null, .int 0, .int 0, .int 0, .int 0, .int 0, .null, .null, .int 0, .null, .null, .int 0, .int 0, .null, .int 0, .null, .int 0, .int 0, .int 0, .int 0, .int 0, .null, .null, .long 0]))]) hD hS hA [21] rfl
  refine va_callv (va_runI (As := []) (rest := [.ref y0]) ⟨hx, hb, hml, hown, hts⟩ (c_X5_init l dC dI cI y0 H.size) (cwI 0 hts (zG bi_70) rfl rfl rfl (hts _ bi_71) (hts _ bs_3) (hts _ bi_72) rfl (by decide +kernel) ⟨Nat.le_of_ble_eq_true rfl, Nat.le_of_ble_eq_true rfl⟩) ⟨fun a U g mk q => by obtain ⟨q0, q1, qP, qK, qD⟩ := q; exact ⟨q0, q1, qP, va_K.moved (u := U) (U := U.calling g mk a) (Vm.Alike.refl U.vm) qK, qD⟩, fun U hU hW => ⟨rfl, by rw [hU], by rw [hU]; exact hPc, va_K.moved hW.alike hK, hDc.weaken (fun _ _ _ _ => trivial)⟩⟩ rfl rfl hl.1 rfl (lv_room (Nat.le_of_ble_eq_true rfl)) dL_law_12 ⟨Nat.le_of_ble_eq_true rfl, Nat.le_of_ble_eq_true rfl⟩) hS (fun q _ h => hFc q h) hFc (fun u t H1 locs ht hvm hw hB hz1 hk1 hS => ?_)
  obtain ⟨bq7, bq15, bq23, bq31, bq39, bq47, bq55, bq63, bq71, hP1, hK1, hD1⟩ := hB
  rw [ht] at hP1
  obtain ⟨hP, hD⟩ := va_join (wr := [(x0, .inr (4, [.ref aq7, .int 0, .ref aq18, .ref aq29, .ref aq40, .ref aq51, .ref aq62, .ref aq73, .ref aq86, .int 0, .int 0, .int 0])), (aq7, .inl (cI, 20, .inl (fun _ => 0))), (aq18, .inr (2, [.ref aq18_q7, .ref aq18_q15])), (aq18_q7, .inl (cI, 8, .inl (fun _ => 0))), (aq18_q15, .inl (cI, 8, .inl (fun _ => 0))), (aq29, .inr (3, [.int 0, .ref aq29_q12, .ref aq29_q20, .ref aq29_q28, .int 0, .int 0, .int 0, .int 0, .int 0])), (aq29_q12, .inl (cI, 6, .inl (fun _ => 0))), (aq29_q20, .inl (cI, 6, .inl (fun _ => 0))), (aq29_q28, .inl (cI, 6, .inl (fun _ => 0))), (aq40, .inr (3, [.int 0, .ref aq40_q12, .ref aq40_q20, .ref aq40_q28, .int 0, .int 0, .int 0, .int 0, .int 0])), (aq40_q12, .inl (cI, 6, .inl (fun _ => 0))), (aq40_q20, .inl (cI, 6, .inl (fun _ => 0))), (aq40_q28, .inl (cI, 6, .inl (fun _ => 0))), (aq51, .inr (3, [.int 0, .ref aq51_q12, .ref aq51_q20, .ref aq51_q28, .int 0, .int 0, .int 0, .int 0, .int 0])), (aq51_q12, .inl (cI, 6, .inl (fun _ => 0))), (aq51_q20, .inl (cI, 6, .inl (fun _ => 0))), (aq51_q28, .inl (cI, 6, .inl (fun _ => 0))), (aq62, .inr (1, [.ref aq62_q7, .int 0, .int 0])), (aq62_q7, .inl (cI, 6, .inl (fun _ => 0))), (aq73, .inr (0, [.long 0])), (aq86, .inl (cI, 6, .inl (fun _ => 0)))]) (w1 := [(y0, .inr (5, [.ref bq7, .int 0, .int 0, .int 0, .int 0, .int 0, .ref bq15, .ref bq23, .int 0, .ref bq31, .ref bq39, .int 0, .int 0, .ref bq47, .int 0, .ref bq55, .int (-1), .int 0, .int 0, .int 0, .int 0, .ref bq63, .ref bq71, .long 0])), (bq7, .inl (cI, 20, .inl (fun _ => 0))), (bq15, .inl (cI, 8, .inl (fun _ => 0))), (bq23, .inl (cI, 8, .inl (fun _ => 0))), (bq31, .inl (cI, 18, .inl (fun _ => 0))), (bq39, .inl (cI, 6, .inl (fun _ => 0))), (bq47, .inl (cI, 16, .inl (fun _ => 0))), (bq55, .inl (cI, 18, .inl (fun _ => 0))), (bq63, .inl (cI, 18, .inl (fun _ => 0))), (bq71, .inl (cI, 16, .inl (fun _ => 0)))]) hP hD [21] [0, 1, 2, 3, 4, 5, 6, 7, 8, 9, 10, 11, 12, 13, 14, 15, 16, 17, 18, 19, 20] rfl rfl (by decide) (by decide) hk1 hFc hP1 hD1
  generalize H1 = H at hP hS ⊢
  have hP : va_P (dC, dI) vwCl [(x0, .inr (4, [.ref aq7, .int 0, .ref aq18, .ref aq29, .ref aq40, .ref aq51, .ref aq62, .ref aq73, .ref aq86, .int 0, .int 0, .int 0])), (aq7, .inl (cI, 20, .inl (fun _ => 0))), (aq18, .inr (2, [.ref aq18_q7, .ref aq18_q15])), (aq18_q7, .inl (cI, 8, .inl (fun _ => 0))), (aq18_q15, .inl (cI, 8, .inl (fun _ => 0))), (aq29, .inr (3, [.int 0, .ref aq29_q12, .ref aq29_q20, .ref aq29_q28, .int 0, .int 0, .int 0, .int 0, .int 0])), (aq29_q12, .inl (cI, 6, .inl (fun _ => 0))), (aq29_q20, .inl (cI, 6, .inl (fun _ => 0))), (aq29_q28, .inl (cI, 6, .inl (fun _ => 0))), (aq40, .inr (3, [.int 0, .ref aq40_q12, .ref aq40_q20, .ref aq40_q28, .int 0, .int 0, .int 0, .int 0, .int 0])), (aq40_q12, .inl (cI, 6, .inl (fun _ => 0))), (aq40_q20, .inl (cI, 6, .inl (fun _ => 0))), (aq40_q28, .inl (cI, 6, .inl (fun _ => 0))), (aq51, .inr (3, [.int 0, .ref aq51_q12, .ref aq51_q20, .ref aq51_q28, .int 0, .int 0, .int 0, .int 0, .int 0])), (aq51_q12, .inl (cI, 6, .inl (fun _ => 0))), (aq51_q20, .inl (cI, 6, .inl (fun _ => 0))), (aq51_q28, .inl (cI, 6, .inl (fun _ => 0))), (aq62, .inr (1, [.ref aq62_q7, .int 0, .int 0])), (aq62_q7, .inl (cI, 6, .inl (fun _ => 0))), (aq73, .inr (0, [.long 0])), (aq86, .inl (cI, 6, .inl (fun _ => 0))), (y0, .inr (5, [.ref bq7, .int 0, .int 0, .int 0, .int 0, .int 0, .ref bq15, .ref bq23, .int 0, .ref bq31, .ref bq39, .int 0, .int 0, .ref bq47, .int 0, .ref bq55, .int (-1), .int 0, .int 0, .int 0, .int 0, .ref bq63, .ref bq71, .long 0])), (bq7, .inl (cI, 20, .inl (fun _ => 0))), (bq15, .inl (cI, 8, .inl (fun _ => 0))), (bq23, .inl (cI, 8, .inl (fun _ => 0))), (bq31, .inl (cI, 18, .inl (fun _ => 0))), (bq39, .inl (cI, 6, .inl (fun _ => 0))), (bq47, .inl (cI, 16, .inl (fun _ => 0))), (bq55, .inl (cI, 18, .inl (fun _ => 0))), (bq63, .inl (cI, 18, .inl (fun _ => 0))), (bq71, .inl (cI, 16, .inl (fun _ => 0)))] H := hP
  have hD : va_D (fun q : Nat => s.heap.size ≤ q) [(x0, .inr (4, [.ref aq7, .int 0, .ref aq18, .ref aq29, .ref aq40, .ref aq51, .ref aq62, .ref aq73, .ref aq86, .int 0, .int 0, .int 0])), (aq7, .inl (cI, 20, .inl (fun _ => 0))), (aq18, .inr (2, [.ref aq18_q7, .ref aq18_q15])), (aq18_q7, .inl (cI, 8, .inl (fun _ => 0))), (aq18_q15, .inl (cI, 8, .inl (fun _ => 0))), (aq29, .inr (3, [.int 0, .ref aq29_q12, .ref aq29_q20, .ref aq29_q28, .int 0, .int 0, .int 0, .int 0, .int 0])), (aq29_q12, .inl (cI, 6, .inl (fun _ => 0))), (aq29_q20, .inl (cI, 6, .inl (fun _ => 0))), (aq29_q28, .inl (cI, 6, .inl (fun _ => 0))), (aq40, .inr (3, [.int 0, .ref aq40_q12, .ref aq40_q20, .ref aq40_q28, .int 0, .int 0, .int 0, .int 0, .int 0])), (aq40_q12, .inl (cI, 6, .inl (fun _ => 0))), (aq40_q20, .inl (cI, 6, .inl (fun _ => 0))), (aq40_q28, .inl (cI, 6, .inl (fun _ => 0))), (aq51, .inr (3, [.int 0, .ref aq51_q12, .ref aq51_q20, .ref aq51_q28, .int 0, .int 0, .int 0, .int 0, .int 0])), (aq51_q12, .inl (cI, 6, .inl (fun _ => 0))), (aq51_q20, .inl (cI, 6, .inl (fun _ => 0))), (aq51_q28, .inl (cI, 6, .inl (fun _ => 0))), (aq62, .inr (1, [.ref aq62_q7, .int 0, .int 0])), (aq62_q7, .inl (cI, 6, .inl (fun _ => 0))), (aq73, .inr (0, [.long 0])), (aq86, .inl (cI, 6, .inl (fun _ => 0))), (y0, .inr (5, [.ref bq7, .int 0, .int 0, .int 0, .int 0, .int 0, .ref bq15, .ref bq23, .int 0, .ref bq31, .ref bq39, .int 0, .int 0, .ref bq47, .int 0, .ref bq55, .int (-1), .int 0, .int 0, .int 0, .int 0, .ref bq63, .ref bq71, .long 0])), (bq7, .inl (cI, 20, .inl (fun _ => 0))), (bq15, .inl (cI, 8, .inl (fun _ => 0))), (bq23, .inl (cI, 8, .inl (fun _ => 0))), (bq31, .inl (cI, 18, .inl (fun _ => 0))), (bq39, .inl (cI, 6, .inl (fun _ => 0))), (bq47, .inl (cI, 16, .inl (fun _ => 0))), (bq55, .inl (cI, 18, .inl (fun _ => 0))), (bq63, .inl (cI, 18, .inl (fun _ => 0))), (bq71, .inl (cI, 16, .inl (fun _ => 0)))] := hD
  refine W.widen (k := 31) (n := 299) (by omega) (by omega) ?_
  refine lv_astore_n (lv' := [(2, .ref y0), (1, .ref x0), (0, .ref b)]) hx hb dL_law_15 rfl hl (by decide) rfl (fun ls hl => ?_)
  refine lv_iconst (v := 0) hx hb dL_law_16 (by decide) ?_
  refine lv_istore_n (lv' := [(3, .int 0), (2, .ref y0), (1, .ref x0), (0, .ref b)]) hx hb dL_law_17 rfl hl (by decide) rfl (fun ls hl => ?_)
  obtain ⟨σ, hσ⟩ : ∃ σ : Nat → Nat, σ = fun r => mm_nth [x0, aq7, aq18, aq18_q7, aq18_q15, aq29, aq29_q12, aq29_q20, aq29_q28, aq40, aq40_q12, aq40_q20, aq40_q28, aq51, aq51_q12, aq51_q20, aq51_q28, aq62, aq62_q7, aq73, aq86, y0, bq7, bq15, bq23, bq31, bq39, bq47, bq55, bq63, bq71] r 0 := ⟨_, rfl⟩
  have e1 : mm_w σ cI z_M = [(x0, .inr (4, [.ref aq7, .int 0, .ref aq18, .ref aq29, .ref aq40, .ref aq51, .ref aq62, .ref aq73, .ref aq86, .int 0, .int 0, .int 0])), (aq7, .inl (cI, 20, .inl (fun _ => 0))), (aq18, .inr (2, [.ref aq18_q7, .ref aq18_q15])), (aq18_q7, .inl (cI, 8, .inl (fun _ => 0))), (aq18_q15, .inl (cI, 8, .inl (fun _ => 0))), (aq29, .inr (3, [.int 0, .ref aq29_q12, .ref aq29_q20, .ref aq29_q28, .int 0, .int 0, .int 0, .int 0, .int 0])), (aq29_q12, .inl (cI, 6, .inl (fun _ => 0))), (aq29_q20, .inl (cI, 6, .inl (fun _ => 0))), (aq29_q28, .inl (cI, 6, .inl (fun _ => 0))), (aq40, .inr (3, [.int 0, .ref aq40_q12, .ref aq40_q20, .ref aq40_q28, .int 0, .int 0, .int 0, .int 0, .int 0])), (aq40_q12, .inl (cI, 6, .inl (fun _ => 0))), (aq40_q20, .inl (cI, 6, .inl (fun _ => 0))), (aq40_q28, .inl (cI, 6, .inl (fun _ => 0))), (aq51, .inr (3, [.int 0, .ref aq51_q12, .ref aq51_q20, .ref aq51_q28, .int 0, .int 0, .int 0, .int 0, .int 0])), (aq51_q12, .inl (cI, 6, .inl (fun _ => 0))), (aq51_q20, .inl (cI, 6, .inl (fun _ => 0))), (aq51_q28, .inl (cI, 6, .inl (fun _ => 0))), (aq62, .inr (1, [.ref aq62_q7, .int 0, .int 0])), (aq62_q7, .inl (cI, 6, .inl (fun _ => 0))), (aq73, .inr (0, [.long 0])), (aq86, .inl (cI, 6, .inl (fun _ => 0))), (y0, .inr (5, [.ref bq7, .int 0, .int 0, .int 0, .int 0, .int 0, .ref bq15, .ref bq23, .int 0, .ref bq31, .ref bq39, .int 0, .int 0, .ref bq47, .int 0, .ref bq55, .int (-1), .int 0, .int 0, .int 0, .int 0, .ref bq63, .ref bq71, .long 0])), (bq7, .inl (cI, 20, .inl (fun _ => 0))), (bq15, .inl (cI, 8, .inl (fun _ => 0))), (bq23, .inl (cI, 8, .inl (fun _ => 0))), (bq31, .inl (cI, 18, .inl (fun _ => 0))), (bq39, .inl (cI, 6, .inl (fun _ => 0))), (bq47, .inl (cI, 16, .inl (fun _ => 0))), (bq55, .inl (cI, 18, .inl (fun _ => 0))), (bq63, .inl (cI, 18, .inl (fun _ => 0))), (bq71, .inl (cI, 16, .inl (fun _ => 0)))] := by rw [hσ]; rfl
  rw [← e1] at hP hD
  have hl : lv_has ls 4 [(3, .int (nI 0)), (2, .ref (σ 21)), (1, .ref (σ 0)), (0, .ref b)] := by rw [hσ]; exact hl
  exact lz_loop l hL hr hlocks ⟨hx, hb, hml, hown, hts, hK, hN, z_inj hD, z_A hD, hX, hbl⟩ 64 0 0 (nI 0) rfl (Nat.zero_le _) (by omega) (by omega) z_T z_M H _ ls z_AK z_RX z_RM hP hS hl
