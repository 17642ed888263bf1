theorem eW_le {d : dm_T} {s : sc_T} {a b : Nat} (hd : dOK d) (hs : sOK s) (ha : a < s.1) (h : eW d s a b < 9999) : eW d s a b ≤ 9 := by
  unfold eW at h ⊢
  split
  · rename_i z; rw [if_pos z] at h; omega
  · rename_i z; rw [if_neg z] at h
    split
    · omega
    · rename_i z2; rw [if_neg z2] at h
      split
      · exact (hd _ (hs.2.1 a ha).2.1).2
      · rename_i z3; rw [if_neg z3] at h; omega
theorem ar_clr : ∀ wt, wt < 64 → ∀ a, a < 6 → nI wt &&& ((1 : Int32) <<< (nI a &&& 31) ^^^ (-1)) = nI (wt &&& (63 ^^^ 2 ^ a)) := by decide +kernel
theorem clr_bit {wt a b : Nat} (hwt : wt < 64) : (wt &&& (63 ^^^ 2 ^ a)).testBit b = true ↔ wt.testBit b = true ∧ b ≠ a := by
  rw [Nat.testBit_and, Nat.testBit_xor, show 63 = 2 ^ 6 - 1 from rfl, Nat.testBit_two_pow_sub_one, Nat.testBit_two_pow]
  by_cases hb : b < 6
  · by_cases e : a = b
    · subst e; simp [hb]
    · have e2 : b ≠ a := fun z => e z.symm
      simp [hb, e, e2]
  · have : wt.testBit b = false := Nat.testBit_lt_two_pow (Nat.lt_of_lt_of_le hwt (show 2 ^ 6 ≤ 2 ^ b from Nat.pow_le_pow_right (by omega) (by omega)))
    simp [this]
theorem clr_lt {wt a : Nat} (hwt : wt < 64) : wt &&& (63 ^^^ 2 ^ a) < 64 := Nat.lt_of_le_of_lt Nat.and_le_left hwt
theorem mk_hM {d : dm_T} {s : sc_T} {o : Nat} {D : Nat → Nat} (hs : s.1 ≤ 6) (h1 : ∀ b, b < s.1 → hT d s o b = D b) (h2 : ∀ b, s.1 ≤ b → D b = 9999) : mk (fun b => decide (D b < 9999)) 6 = hM d s o := by
  unfold hM
  apply mk_of
  intro b
  rw [mk_bit]
  unfold hP
  by_cases hb : b < s.1
  · rw [h1 b hb]; simp [hb]; intro; omega
  · have := h2 b (by omega)
    simp [hb, this]
theorem hM_mute {d : dm_T} {s : sc_T} {o : Nat} (hk : s.2.1 o = 3) : hM d s o = 0 := by
  unfold hM
  rw [mk_0]
  intro q hq
  unfold hP
  rw [hT_mute hk]
  decide
set_option maxRecDepth 20000 in
set_option maxHeartbeats 2000000 in
theorem r_spread5 {Q : mm_R} {μ : mm_M} {d : dm_T} {s : sc_T} {o : Nat} {ov : Int32} (hd : dOK d) (hs : sOK s) (hXD : XD d μ) (hX : XS 5 s μ) (ho : o < s.1) (hov : ov = nI o)
    (h : ∀ μ', fr [17, 18] μ μ' → (∀ b, b < s.1 → μ'.1 18 b = mv (hT d s o b)) → Q (some (.int (nI (hM d s o)))) μ') : mm_Runs m_X1_spread Q 0 [.ref 17, .ref 2, .ref 5, .int ov, .null, .null] [] μ := by
  subst hov
  have h6 := hs.1
  obtain ⟨ko, -, -⟩ := hs.2.1 o ho
  intro J hJ hF
  -- the end
  have fin : ∀ (D : Nat → Nat) (P : Nat → Bool) (t : Nat) μ', s.2.1 o ≠ 3 → fr [17, 18] μ μ' → HS D 0 μ' → DJ d s o D 0 P → (∀ b, s.1 ≤ b → D b = 9999) → J 99 [.ref 17, .ref 2, .ref 5, .int (nI o), .int (nI t), .null] [] μ' := by
    intro D P t μ' hk h1 h2 h3 h4
    have hR := hT_of ho hk (DJ_end h3)
    refine hJ 60 _ _ _ _ ?_
    show Q (some (.int (μ'.1 17 1))) μ'
    rw [h2.2.1, mk_hM h6 hR h4]
    refine h μ' h1 (fun b hb => ?_)
    rw [hR b hb]
    exact h2.1 b (by omega)
  have lp : s.2.1 o ≠ 3 → ∀ k t (D : Nat → Nat) (wt : Nat) (P : Nat → Bool) μ', k + t = s.1 → fr [17, 18] μ μ' → wt < 64 → HS D wt μ' → DJ d s o D wt P → ct P s.1 = t → (∀ b, s.1 ≤ b → D b = 9999) → (∀ b, b < s.1 → D b < 9999 → D b ≤ 9 * t) → J 44 [.ref 17, .ref 2, .ref 5, .int (nI o), .int (nI t), .null] [] μ' := by
    intro hk3 k
    induction k with
    | zero =>
      intro t D wt P μ' hk h1 h2 h3 h4 h5 h7 h8
      have en' : μ'.1 5 0 = nI s.1 := by rw [h1.1 5 (by decide)]; exact hX.1
      have e : s.1 = t := by omega
      have hall := ct_all (p := P) (n := s.1) (by omega)
      have hz : wt = 0 := by
        apply Nat.eq_of_testBit_eq
        intro b
        rw [Nat.zero_testBit]
        cases hq : wt.testBit b with
        | false => rfl
        | true =>
          obtain ⟨q1, -, q2, -⟩ := h4.2.2.2.2.1 b hq
          rw [hall b q1] at q2
          cases q2
      subst hz
      refine hJ 60 _ _ _ _ ?_
      refine And.intro (fun c => ?_) (fun c => ?_)
      · exact fin D P t μ' hk3 h1 h3 h4 h7
      · rw [en', nI_leI (by omega) (by omega)] at c; omega
    | succ k ih =>
      intro t D wt P μ' hk h1 h2 h3 h4 h5 h7 h8
      have en' : μ'.1 5 0 = nI s.1 := by rw [h1.1 5 (by decide)]; exact hX.1
      refine hJ 60 _ _ _ _ ?_
      refine And.intro (fun c => ?_) (fun c => ?_)
      · rw [en', nI_leI (by omega) (by omega)] at c; omega
      refine hJ 60 _ _ _ _ ?_
      refine And.intro (fun c1 => ?_) (fun c1 => ?_)
      · rw [h3.2.2, show (0 : Int32) = nI 0 from rfl, nI_eq (by omega) (by omega)] at c1
        subst c1
        exact fin D P t μ' hk3 h1 h3 h4 h7
      · rw [h3.2.2, show (0 : Int32) = nI 0 from rfl, nI_eq (by omega) (by omega)] at c1
        refine hJ 60 _ _ _ _ ?_
        refine r_earliest h6 en' h3 h2 c1 (fun b hb => ⟨(h4.2.2.2.2.1 b hb).1, (h4.2.2.2.2.1 b hb).2.1⟩) (fun a ha1 ha2 => ?_)
        obtain ⟨an, ad, aP, asp⟩ := h4.2.2.2.2.1 a ha1
        have a9 := h8 a an ad
        have a6 : a < 6 := by omega
        have hH2 : HS D (wt &&& (63 ^^^ 2 ^ a)) (mm_put μ' 17 2 (μ'.1 17 2 &&& ((1 : Int32) <<< (nI a &&& 31) ^^^ (-1)))) := by
          refine ⟨h3.1, h3.2.1, ?_⟩
          show (μ'.1 17 2 &&& ((1 : Int32) <<< (nI a &&& 31) ^^^ (-1))) = _
          rw [h3.2.2, ar_clr wt h2 a a6]
        have hf2 : fr [17, 18] μ (mm_put μ' 17 2 (μ'.1 17 2 &&& ((1 : Int32) <<< (nI a &&& 31) ^^^ (-1)))) := fr_put h1 (by simp)
        refine r_utter5 (d := d) (s := s) (D := D) (wt := wt &&& (63 ^^^ 2 ^ a)) hd hs (XD_fr hXD (hf2.1 3 (by decide)) (hf2.1 4 (by decide))) (XS_fr hX (hf2.1 5 (by decide)) (hf2.1 6 (by decide)) (hf2.1 7 (by decide)) (hf2.1 8 (by decide))) hH2 (clr_lt h2) an (by omega) rfl (fun μ'' wt' g1 g2 g3 => ?_)
        refine hF [5] _ _ _ _ ?_
        show J 44 [_, _, _, _, .int (nI t + 1), .null] [] μ''
        rw [nI_1]
        refine ih (t + 1) (fD d s D a s.1) wt' (fun b => if b = a then true else P b) μ'' (by omega) (fr_tr hf2 g1) g2.1 g3 (DJ_step h4 ha1 ha2 (fun b hb => by unfold fD; rw [if_pos hb]) (fun b => ?_)) (by rw [ct_up P aP an, h5]) (fun b hb => by unfold fD; rw [if_neg (by omega)]; exact h7 b hb) (fun b hb hq => ?_)
        · rw [g2.2 b, clr_bit h2]
          constructor
          · rintro (z | z)
            · exact Or.inl z
            · exact Or.inr ⟨z.2.1, by unfold fD; rw [if_pos z.2.1]; exact z.2.2.1, z.2.2.2⟩
          · rintro (z | z)
            · exact Or.inl z
            · refine Or.inr ⟨z.1, z.1, ?_, z.2.2⟩
              have := z.2.1
              unfold fD at this
              rw [if_pos z.1] at this
              exact this
        · unfold fD at hq ⊢
          rw [if_pos hb] at hq ⊢
          unfold uD at hq ⊢
          split
          · rename_i z
            have := eW_le hd hs an z.1
            omega
          · rename_i z
            rw [if_neg z] at hq
            have := h8 b hb hq
            omega
  refine hJ 60 _ _ _ _ ?_
  refine r_fill18 (fun μ' f1 f2 => ?_)
  have ek' : μ'.1 6 o = nI (s.2.1 o) := by rw [f1.1 6 (by decide)]; exact (hX.2.1 o ho).1
  refine And.intro (ar_in (by omega) (by omega)) ?_
  refine And.intro (fun c => ?_) (fun c => ?_)
  · rw [ar_cl (by omega), ek', show (3 : Int32) = nI 3 from rfl, nI_eq (by omega) (by omega)] at c
    refine hJ 17 _ _ _ _ ?_
    refine And.intro (ar_in (by omega) (by omega)) ?_
    show J 44 [_, _, _, _, .int (nI 0), _] [] (mm_put (mm_put (mm_put μ' 18 (nI o).toNatClampNeg 0) 17 1 ((1 : Int32) <<< (nI o &&& 31))) 17 2 ((1 : Int32) <<< (nI o &&& 31)))
    have hX' : XS 5 s μ' := XS_fr hX (f1.1 5 (by decide)) (f1.1 6 (by decide)) (f1.1 7 (by decide)) (f1.1 8 (by decide))
    refine lp c s.1 0 (fun b => if b = o then 0 else 9999) (2 ^ o) (fun _ => false) _ (by omega) (fr_put (fr_put (fr_put (fr_w f1 (by simp)) (by simp)) (by simp)) (by simp)) (show 2 ^ o < 2 ^ 6 from Nat.pow_lt_pow_right (by omega) (by omega)) ⟨fun b hb => ?_, ?_, ?_⟩ (DJ_0 ho) ?_ (fun b hb => ?_) (fun b hb hq => ?_)
    · show (mm_put μ' 18 (nI o).toNatClampNeg 0).1 18 b = _
      rw [mp_eq, ar_cl (by omega)]
      by_cases e : b = o
      · subst e; rw [up_eq]; simp [mv]; rfl
      · rw [up_ne _ _ e, f2 b hb]; simp [mv, e]
    · show ((1 : Int32) <<< (nI o &&& 31)) = _
      rw [ar_shl o (by omega)]
      congr 1
      apply mk_of
      intro b
      rw [Nat.testBit_two_pow]
      by_cases e : o = b
      · subst e; simp; omega
      · have e2 : ¬ b = o := fun z => e z.symm
        simp [e, e2]
    · show ((1 : Int32) <<< (nI o &&& 31)) = _
      rw [ar_shl o (by omega)]
    · have : ∀ n, ct (fun _ => false) n = 0 := by
        intro n
        induction n with
        | zero => rfl
        | succ n ih => simp [ct, ih]
      exact this _
    · rw [if_neg (by omega)]
    · split at hq
      · rename_i z; rw [if_pos z]; omega
      · omega
  · rw [ar_cl (by omega), ek', show (3 : Int32) = nI 3 from rfl, nI_eq (by omega) (by omega)] at c
    refine hJ 60 _ _ _ _ ?_
    show Q (some (.int 0)) μ'
    have := h μ' (fr_w f1 (by simp)) (fun b hb => by rw [hT_mute c, f2 b (by omega)]; rfl)
    rw [hM_mute c] at this
    exact this
set_option maxRecDepth 20000 in
set_option maxHeartbeats 2000000 in
theorem r_spread13 {Q : mm_R} {μ : mm_M} {d : dm_T} {s : sc_T} {o : Nat} {ov : Int32} (hd : dOK d) (hs : sOK s) (hXD : XD d μ) (hX : XS 13 s μ) (ho : o < s.1) (hov : ov = nI o)
    (h : ∀ μ', fr [17, 18] μ μ' → (∀ b, b < s.1 → μ'.1 18 b = mv (hT d s o b)) → Q (some (.int (nI (hM d s o)))) μ') : mm_Runs m_X1_spread Q 0 [.ref 17, .ref 2, .ref 13, .int ov, .null, .null] [] μ := by
  subst hov
  have h6 := hs.1
  obtain ⟨ko, -, -⟩ := hs.2.1 o ho
  intro J hJ hF
  -- the end
  have fin : ∀ (D : Nat → Nat) (P : Nat → Bool) (t : Nat) μ', s.2.1 o ≠ 3 → fr [17, 18] μ μ' → HS D 0 μ' → DJ d s o D 0 P → (∀ b, s.1 ≤ b → D b = 9999) → J 99 [.ref 17, .ref 2, .ref 13, .int (nI o), .int (nI t), .null] [] μ' := by
    intro D P t μ' hk h1 h2 h3 h4
    have hR := hT_of ho hk (DJ_end h3)
    refine hJ 60 _ _ _ _ ?_
    show Q (some (.int (μ'.1 17 1))) μ'
    rw [h2.2.1, mk_hM h6 hR h4]
    refine h μ' h1 (fun b hb => ?_)
    rw [hR b hb]
    exact h2.1 b (by omega)
  have lp : s.2.1 o ≠ 3 → ∀ k t (D : Nat → Nat) (wt : Nat) (P : Nat → Bool) μ', k + t = s.1 → fr [17, 18] μ μ' → wt < 64 → HS D wt μ' → DJ d s o D wt P → ct P s.1 = t → (∀ b, s.1 ≤ b → D b = 9999) → (∀ b, b < s.1 → D b < 9999 → D b ≤ 9 * t) → J 44 [.ref 17, .ref 2, .ref 13, .int (nI o), .int (nI t), .null] [] μ' := by
    intro hk3 k
    induction k with
    | zero =>
      intro t D wt P μ' hk h1 h2 h3 h4 h5 h7 h8
      have en' : μ'.1 13 0 = nI s.1 := by rw [h1.1 13 (by decide)]; exact hX.1
      have e : s.1 = t := by omega
      have hall := ct_all (p := P) (n := s.1) (by omega)
      have hz : wt = 0 := by
        apply Nat.eq_of_testBit_eq
        intro b
        rw [Nat.zero_testBit]
        cases hq : wt.testBit b with
        | false => rfl
        | true =>
          obtain ⟨q1, -, q2, -⟩ := h4.2.2.2.2.1 b hq
          rw [hall b q1] at q2
          cases q2
      subst hz
      refine hJ 60 _ _ _ _ ?_
      refine And.intro (fun c => ?_) (fun c => ?_)
      · exact fin D P t μ' hk3 h1 h3 h4 h7
      · rw [en', nI_leI (by omega) (by omega)] at c; omega
    | succ k ih =>
      intro t D wt P μ' hk h1 h2 h3 h4 h5 h7 h8
      have en' : μ'.1 13 0 = nI s.1 := by rw [h1.1 13 (by decide)]; exact hX.1
      refine hJ 60 _ _ _ _ ?_
      refine And.intro (fun c => ?_) (fun c => ?_)
      · rw [en', nI_leI (by omega) (by omega)] at c; omega
      refine hJ 60 _ _ _ _ ?_
      refine And.intro (fun c1 => ?_) (fun c1 => ?_)
      · rw [h3.2.2, show (0 : Int32) = nI 0 from rfl, nI_eq (by omega) (by omega)] at c1
        subst c1
        exact fin D P t μ' hk3 h1 h3 h4 h7
      · rw [h3.2.2, show (0 : Int32) = nI 0 from rfl, nI_eq (by omega) (by omega)] at c1
        refine hJ 60 _ _ _ _ ?_
        refine r_earliest h6 en' h3 h2 c1 (fun b hb => ⟨(h4.2.2.2.2.1 b hb).1, (h4.2.2.2.2.1 b hb).2.1⟩) (fun a ha1 ha2 => ?_)
        obtain ⟨an, ad, aP, asp⟩ := h4.2.2.2.2.1 a ha1
        have a9 := h8 a an ad
        have a6 : a < 6 := by omega
        have hH2 : HS D (wt &&& (63 ^^^ 2 ^ a)) (mm_put μ' 17 2 (μ'.1 17 2 &&& ((1 : Int32) <<< (nI a &&& 31) ^^^ (-1)))) := by
          refine ⟨h3.1, h3.2.1, ?_⟩
          show (μ'.1 17 2 &&& ((1 : Int32) <<< (nI a &&& 31) ^^^ (-1))) = _
          rw [h3.2.2, ar_clr wt h2 a a6]
        have hf2 : fr [17, 18] μ (mm_put μ' 17 2 (μ'.1 17 2 &&& ((1 : Int32) <<< (nI a &&& 31) ^^^ (-1)))) := fr_put h1 (by simp)
        refine r_utter13 (d := d) (s := s) (D := D) (wt := wt &&& (63 ^^^ 2 ^ a)) hd hs (XD_fr hXD (hf2.1 3 (by decide)) (hf2.1 4 (by decide))) (XS_fr hX (hf2.1 13 (by decide)) (hf2.1 14 (by decide)) (hf2.1 15 (by decide)) (hf2.1 16 (by decide))) hH2 (clr_lt h2) an (by omega) rfl (fun μ'' wt' g1 g2 g3 => ?_)
        refine hF [5] _ _ _ _ ?_
        show J 44 [_, _, _, _, .int (nI t + 1), .null] [] μ''
        rw [nI_1]
        refine ih (t + 1) (fD d s D a s.1) wt' (fun b => if b = a then true else P b) μ'' (by omega) (fr_tr hf2 g1) g2.1 g3 (DJ_step h4 ha1 ha2 (fun b hb => by unfold fD; rw [if_pos hb]) (fun b => ?_)) (by rw [ct_up P aP an, h5]) (fun b hb => by unfold fD; rw [if_neg (by omega)]; exact h7 b hb) (fun b hb hq => ?_)
        · rw [g2.2 b, clr_bit h2]
          constructor
          · rintro (z | z)
            · exact Or.inl z
            · exact Or.inr ⟨z.2.1, by unfold fD; rw [if_pos z.2.1]; exact z.2.2.1, z.2.2.2⟩
          · rintro (z | z)
            · exact Or.inl z
            · refine Or.inr ⟨z.1, z.1, ?_, z.2.2⟩
              have := z.2.1
              unfold fD at this
              rw [if_pos z.1] at this
              exact this
        · unfold fD at hq ⊢
          rw [if_pos hb] at hq ⊢
          unfold uD at hq ⊢
          split
          · rename_i z
            have := eW_le hd hs an z.1
            omega
          · rename_i z
            rw [if_neg z] at hq
            have := h8 b hb hq
            omega
  refine hJ 60 _ _ _ _ ?_
  refine r_fill18 (fun μ' f1 f2 => ?_)
  have ek' : μ'.1 14 o = nI (s.2.1 o) := by rw [f1.1 14 (by decide)]; exact (hX.2.1 o ho).1
  refine And.intro (ar_in (by omega) (by omega)) ?_
  refine And.intro (fun c => ?_) (fun c => ?_)
  · rw [ar_cl (by omega), ek', show (3 : Int32) = nI 3 from rfl, nI_eq (by omega) (by omega)] at c
    refine hJ 17 _ _ _ _ ?_
    refine And.intro (ar_in (by omega) (by omega)) ?_
    show J 44 [_, _, _, _, .int (nI 0), _] [] (mm_put (mm_put (mm_put μ' 18 (nI o).toNatClampNeg 0) 17 1 ((1 : Int32) <<< (nI o &&& 31))) 17 2 ((1 : Int32) <<< (nI o &&& 31)))
    have hX' : XS 13 s μ' := XS_fr hX (f1.1 13 (by decide)) (f1.1 14 (by decide)) (f1.1 15 (by decide)) (f1.1 16 (by decide))
    refine lp c s.1 0 (fun b => if b = o then 0 else 9999) (2 ^ o) (fun _ => false) _ (by omega) (fr_put (fr_put (fr_put (fr_w f1 (by simp)) (by simp)) (by simp)) (by simp)) (show 2 ^ o < 2 ^ 6 from Nat.pow_lt_pow_right (by omega) (by omega)) ⟨fun b hb => ?_, ?_, ?_⟩ (DJ_0 ho) ?_ (fun b hb => ?_) (fun b hb hq => ?_)
    · show (mm_put μ' 18 (nI o).toNatClampNeg 0).1 18 b = _
      rw [mp_eq, ar_cl (by omega)]
      by_cases e : b = o
      · subst e; rw [up_eq]; simp [mv]; rfl
      · rw [up_ne _ _ e, f2 b hb]; simp [mv, e]
    · show ((1 : Int32) <<< (nI o &&& 31)) = _
      rw [ar_shl o (by omega)]
      congr 1
      apply mk_of
      intro b
      rw [Nat.testBit_two_pow]
      by_cases e : o = b
      · subst e; simp; omega
      · have e2 : ¬ b = o := fun z => e z.symm
        simp [e, e2]
    · show ((1 : Int32) <<< (nI o &&& 31)) = _
      rw [ar_shl o (by omega)]
    · have : ∀ n, ct (fun _ => false) n = 0 := by
        intro n
        induction n with
        | zero => rfl
        | succ n ih => simp [ct, ih]
      exact this _
    · rw [if_neg (by omega)]
    · split at hq
      · rename_i z; rw [if_pos z]; omega
      · omega
  · rw [ar_cl (by omega), ek', show (3 : Int32) = nI 3 from rfl, nI_eq (by omega) (by omega)] at c
    refine hJ 60 _ _ _ _ ?_
    show Q (some (.int 0)) μ'
    have := h μ' (fr_w f1 (by simp)) (fun b hb => by rw [hT_mute c, f2 b (by omega)]; rfl)
    rw [hM_mute c] at this
    exact this
