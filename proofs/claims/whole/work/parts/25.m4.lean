/-! the reference: who, ask, days, image, count, digest -/
set_option maxRecDepth 20000 in
set_option maxHeartbeats 2000000 in
theorem r_whoBits {Q : mm_R} {μ : mm_M} {d : dm_T} {f : fs_T} (hd : dOK d) (hf : fOK f) (hMD : MD d μ) (hX : MF f μ) (h : ∀ μ', fr [26] μ μ' → Q (some (.int (nI (whoB d f.1 f.2.2)))) μ') : mm_Runs m_X5_whoBits Q 0 [.ref 21, .null, .null, .null, .null, .null] [] μ := by
  obtain ⟨hS, -, hT1, hT2⟩ := hX
  have h6 := hf.1.1
  have t8 := hf.2.1
  intro J hJ hF
  have lp : ∀ k i μ', k + i = f.1.1 → fr [26] μ μ' → J 4 [.ref 21, .int (nI (mk (whoP d f.1 f.2.2) i)), .int (nI i), .null, .null, .null] [] μ' := by
    intro k
    induction k with
    | zero =>
      intro i μ' hk f1
      have ep : μ'.1 21 8 = nI f.1.1 := by rw [f1.1 21 (by decide)]; exact hS.1
      have e : i = f.1.1 := by omega
      subst e
      refine hJ 60 _ _ _ _ ?_
      refine And.intro (fun _ => ?_) (fun c => by rw [ep, nI_leI (by omega) (by omega)] at c; omega)
      refine hJ 60 _ _ _ _ ?_
      exact h μ' f1
    | succ k ih =>
      intro i μ' hk f1
      have hi : i < f.1.1 := by omega
      have ep : μ'.1 21 8 = nI f.1.1 := by rw [f1.1 21 (by decide)]; exact hS.1
      obtain ⟨ki, -, -⟩ := hf.1.2.1 i hi
      have hml := hM_lt (d := d) (s := f.1) (o := i) h6
      refine hJ 60 _ _ _ _ ?_
      refine And.intro (fun c => by rw [ep, nI_leI (by omega) (by omega)] at c; omega) (fun _ => ?_)
      refine hJ 60 _ _ _ _ ?_
      refine r_mhearers (d := d) (s := f.1) hd hf.1 (MD_fr hMD (f1.1 23 (by decide)) (f1.1 24 (by decide))) (MR_fr (MS_R hS) (by rw [f1.1 21 (by decide)]) (f1.1 25 (by decide))) hi rfl (by rw [f1.1 21 (by decide)]; exact hS.2.2) (fun μ2 g1 => ?_)
      have f2 : fr [26] μ μ2 := fr_tr f1 g1
      have er : μ2.1 25 ((3 : Int32) * nI i).toNatClampNeg = nI (f.1.2.1 i) := by rw [ar_3, ar_cl (by omega), f2.1 25 (by decide)]; exact (hS.2.1 i hi).1
      have e12 : μ2.1 21 12 = nI f.2.2.1 := by rw [f2.1 21 (by decide)]; exact hT1
      refine And.intro (by rw [ar_3]; exact ar_in (by omega) (by omega)) ?_
      rw [er]
      have inn : ∀ j t (is : Int32), j + t = f.2.2.1 → (is = 0 ∨ is = 1) → (is = 1 ↔ (f.1.2.1 i ≠ 3 ∧ ∀ u, u < t → ((hM d f.1 i).testBit (f.2.2.2.1 u) = true ↔ f.2.2.2.2 u = 1))) → J 44 [.ref 21, .int (nI (mk (whoP d f.1 f.2.2) i)), .int (nI i), .int (nI (hM d f.1 i)), .int is, .int (nI t)] [] μ2 := by
        intro j
        induction j with
        | zero =>
          intro t is hj his hsp
          have e : t = f.2.2.1 := by omega
          subst e
          refine hJ 60 _ _ _ _ ?_
          refine And.intro (fun _ => ?_) (fun c => by rw [e12, nI_leI (by omega) (by omega)] at c; omega)
          have st : ∀ x, mk (whoP d f.1 f.2.2) i ||| x = mk (whoP d f.1 f.2.2) (i + 1) → J 111 [.ref 21, .int (nI (mk (whoP d f.1 f.2.2) i)), .int (nI i), .int (nI (hM d f.1 i)), .int is, .int (nI f.2.2.1)] [.int (nI x), .int (nI (mk (whoP d f.1 f.2.2) i))] μ2 := by
            intro x hx
            refine hJ 60 _ _ _ _ ?_
            refine hF [3, 4, 5] _ _ _ _ ?_
            show J 4 [_, .int (nI (mk (whoP d f.1 f.2.2) i) ||| nI x), .int (nI i + 1), .null, .null, .null] [] μ2
            rw [nI_1, ar_or, hx]
            exact ih (i + 1) μ2 (by omega) f2
          refine hJ 60 _ _ _ _ ?_
          refine And.intro (fun c => ?_) (fun c => ?_)
          · refine hJ 1 _ _ _ _ ?_
            refine st 0 ?_
            rw [Nat.or_zero, mk, if_neg]
            rw [whoP_f (fun z => by have := hsp.mpr ⟨z.1, fun u hu => z.2 u hu⟩; rw [c] at this; exact absurd this (by decide))]
            decide
          · refine hJ 60 _ _ _ _ ?_
            show J 111 _ [.int ((1 : Int32) <<< (nI i &&& 31)), _] μ2
            rw [ar_shl i (by omega)]
            refine st _ ?_
            have z := hsp.mp (his.resolve_left c)
            rw [mk, if_pos (whoP_t ⟨z.1, fun u hu => z.2 u hu⟩)]
        | succ j ihj =>
          intro t is hj his hsp
          have ht : t < f.2.2.1 := by omega
          obtain ⟨tq, tv⟩ := hf.2.2 t ht
          obtain ⟨r1, r2⟩ := hT2 t ht
          have eq1 : μ2.1 27 ((2 : Int32) * nI t).toNatClampNeg = nI (f.2.2.2.1 t) := by rw [ar_2, ar_cl (by omega), f2.1 27 (by decide)]; exact r1
          have eq2 : μ2.1 27 ((2 : Int32) * nI t + 1).toNatClampNeg = nI (f.2.2.2.2 t) := by rw [ar_21, ar_cl (by omega), f2.1 27 (by decide)]; exact r2
          refine hJ 60 _ _ _ _ ?_
          refine And.intro (fun c => by rw [e12, nI_leI (by omega) (by omega)] at c; omega) (fun _ => ?_)
          have st : ∀ (is' : Int32), (is' = 0 ∨ is' = 1) → (is' = 1 ↔ (f.1.2.1 i ≠ 3 ∧ ∀ u, u < t + 1 → ((hM d f.1 i).testBit (f.2.2.2.1 u) = true ↔ f.2.2.2.2 u = 1))) → J 90 [.ref 21, .int (nI (mk (whoP d f.1 f.2.2) i)), .int (nI i), .int (nI (hM d f.1 i)), .int is, .int (nI t)] [.int is'] μ2 := by
            intro is' z1 z2
            refine hJ 60 _ _ _ _ ?_
            show J 44 [_, _, _, _, _, .int (nI t + 1)] [] μ2
            rw [nI_1]
            exact ihj (t + 1) is' (by omega) z1 z2
          have no : ¬ (f.1.2.1 i ≠ 3 ∧ ∀ u, u < t + 1 → ((hM d f.1 i).testBit (f.2.2.2.1 u) = true ↔ f.2.2.2.2 u = 1)) → J 89 [.ref 21, .int (nI (mk (whoP d f.1 f.2.2) i)), .int (nI i), .int (nI (hM d f.1 i)), .int is, .int (nI t)] [] μ2 := by
            intro z
            refine hJ 1 _ _ _ _ ?_
            exact st 0 (Or.inl rfl) ⟨fun y => absurd y (by decide), fun y => absurd y z⟩
          refine hJ 60 _ _ _ _ ?_
          refine And.intro (fun c => ?_) (fun c => ?_)
          · refine no (fun z => ?_)
            have := hsp.mpr ⟨z.1, fun u hu => z.2 u (by omega)⟩
            rw [c] at this
            exact absurd this (by decide)
          · have z := hsp.mp (his.resolve_left c)
            refine hJ 60 _ _ _ _ ?_
            refine And.intro (by rw [ar_2]; exact ar_in (by omega) (by omega)) ?_
            rw [eq1]
            refine And.intro (by rw [ar_21]; exact ar_in (by omega) (by omega)) ?_
            rw [eq2]
            have hbe : nI (if (hM d f.1 i).testBit (f.2.2.2.1 t) then 1 else 0) = nI (f.2.2.2.2 t) ↔ ((hM d f.1 i).testBit (f.2.2.2.1 t) = true ↔ f.2.2.2.2 t = 1) := by
              rw [nI_eq (by split <;> omega) (by omega)]
              cases hq : (hM d f.1 i).testBit (f.2.2.2.1 t) with
              | true => simp; omega
              | false => simp; omega
            refine And.intro (fun c2 => ?_) (fun c2 => ?_)
            · rw [ar_bitv (by omega) (by omega), hbe] at c2
              exact no (fun y => c2 (y.2 t (by omega)))
            · rw [ar_bitv (by omega) (by omega), hbe] at c2
              refine hJ 60 _ _ _ _ ?_
              refine st 1 (Or.inr rfl) ⟨fun _ => ⟨z.1, fun u hu => ?_⟩, fun _ => rfl⟩
              by_cases e : u = t
              · subst e; exact c2
              · exact z.2 u (by omega)
      have st39 : ∀ (is : Int32), (is = 0 ∨ is = 1) → (is = 1 ↔ f.1.2.1 i ≠ 3) → J 39 [.ref 21, .int (nI (mk (whoP d f.1 f.2.2) i)), .int (nI i), .int (nI (hM d f.1 i)), .null, .null] [.int is] μ2 := by
        intro is z1 z2
        refine hJ 3 _ _ _ _ ?_
        exact inn f.2.2.1 0 is (by omega) z1 ⟨fun y => ⟨z2.mp y, fun u hu => absurd hu (Nat.not_lt_zero _)⟩, fun y => z2.mpr y.1⟩
      refine And.intro (fun c => ?_) (fun c => ?_)
      · rw [show (3 : Int32) = nI 3 from rfl, nI_eq (by omega) (by omega)] at c
        refine hJ 1 _ _ _ _ ?_
        exact st39 0 (Or.inl rfl) ⟨fun y => absurd y (by decide), fun y => absurd c y⟩
      · rw [show (3 : Int32) = nI 3 from rfl, nI_eq (by omega) (by omega)] at c
        refine hJ 60 _ _ _ _ ?_
        exact st39 1 (Or.inr rfl) ⟨fun _ => c, fun _ => rfl⟩
  refine hJ 4 _ _ _ _ ?_
  exact lp f.1.1 0 μ (by omega) (fr_rf _ _)
set_option maxRecDepth 20000 in
set_option maxHeartbeats 2000000 in
theorem r_mwho {Q : mm_R} {μ : mm_M} {st : st_T} (hA : AOK st) (hR : RM st μ) (h : ∀ μ', fr MA μ μ' → RM st μ' → Q (some (.int (A_who st))) μ') : mm_Runs m_X5_who Q 0 [.ref 21] [] μ := by
  obtain ⟨L, pg, D, S, d, f, im⟩ := st
  have hR0 := hR
  obtain ⟨hL, hDl, hS, hd, hf, hD0, him⟩ := hA
  obtain ⟨x1, x2, x3, x4, x5, x6, x7, x8⟩ := hR
  have tl := thr_le D
  intro J hJ hF
  refine hJ 60 _ _ _ _ ?_
  refine And.intro (fun c => ?_) (fun c => ?_)
  · rw [x3, show (0 : Int32) = nI 0 from rfl, nI_eq (by omega) (by omega)] at c
    have e : A_who (L, pg, D, S, d, f, im) = -103 := by simp only [A_who]; rw [if_neg (fun z => by have := thr_1.mpr z; omega)]
    rw [e] at h
    refine hJ 60 _ _ _ _ ?_
    exact h μ (fr_rf _ _) hR0
  · rw [x3, show (0 : Int32) = nI 0 from rfl, nI_eq (by omega) (by omega)] at c
    have e : A_who (L, pg, D, S, d, f, im) = nI (whoB d f.1 f.2.2) := by simp only [A_who]; rw [if_pos (thr_1.mp (by omega))]
    rw [e] at h
    refine hJ 60 _ _ _ _ ?_
    refine r_whoBits hd hf x6 x7 (fun μ' f1 => ?_)
    refine hJ 60 _ _ _ _ ?_
    exact h μ' (MA_26 f1) (RM_26 hR0 f1)
set_option maxRecDepth 20000 in
set_option maxHeartbeats 2000000 in
theorem r_askOf {Q : mm_R} {μ : mm_M} {d : dm_T} {f : fs_T} (hd : dOK d) (hf : fOK f) (hMD : MD d μ) (hX : MF f μ) (h : ∀ μ', fr [26] μ μ' → Q (some (.int (askV d f.1 f.2.2))) μ') : mm_Runs m_X5_askOf Q 0 [.ref 21, .null, .null, .null, .null, .null, .null, .null] [] μ := by
  have h6 := hf.1.1
  have hwl := whoB_lt (d := d) (s := f.1) (t := f.2.2) h6
  unfold askV at h
  intro J hJ hF
  refine hJ 9 _ _ _ _ ?_
  refine r_whoBits hd hf hMD hX (fun μ1 f1 => ?_)
  generalize hwho : whoB d f.1 f.2.2 = who at h hwl ⊢
  have lp : ∀ j i μ', j + i = f.1.1 → fr [26] μ μ' → (who = 0 → i = 0) → J 13 [.ref 21, .int (nI who), .int (askF d f.1 who i).1, .int (askF d f.1 who i).2, .int (nI i), .null, .null, .null] [] μ' := by
    intro j
    induction j with
    | zero =>
      intro i μ' hj f2 hw0
      have ep : μ'.1 21 8 = nI f.1.1 := by rw [f2.1 21 (by decide)]; exact hX.1.1
      have e : i = f.1.1 := by omega
      subst e
      refine hJ 60 _ _ _ _ ?_
      refine And.intro (fun _ => ?_) (fun c => by rw [ep, nI_leI (by omega) (by omega)] at c; omega)
      refine hJ 60 _ _ _ _ ?_
      have hQ := h μ' f2
      by_cases hw : who = 0
      · rw [if_pos hw] at hQ
        rw [hw0 hw]
        exact hQ
      · rw [if_neg hw] at hQ
        exact hQ
    | succ j ih =>
      intro i μ' hj f2 hw0
      have ep : μ'.1 21 8 = nI f.1.1 := by rw [f2.1 21 (by decide)]; exact hX.1.1
      refine hJ 60 _ _ _ _ ?_
      refine And.intro (fun c => by rw [ep, nI_leI (by omega) (by omega)] at c; omega) (fun _ => ?_)
      refine hJ 60 _ _ _ _ ?_
      refine And.intro (fun c => ?_) (fun c => ?_)
      · rw [show (0 : Int32) = nI 0 from rfl, nI_eq (by omega) (by omega)] at c
        refine hJ 60 _ _ _ _ ?_
        have hQ := h μ' f2
        rw [if_pos c] at hQ
        rw [hw0 c]
        exact hQ
      rw [show (0 : Int32) = nI 0 from rfl, nI_eq (by omega) (by omega)] at c
      -- how many would have heard
      have inn : ∀ v q μ'', v + q = f.1.1 → fr [26] μ μ'' → J 32 [.ref 21, .int (nI who), .int (askF d f.1 who i).1, .int (askF d f.1 who i).2, .int (nI i), .int (nI (yesN d f.1 who i q)), .int (nI q), .null] [] μ'' := by
        intro v
        induction v with
        | zero =>
          intro q μ'' hv g2
          have ep : μ''.1 21 8 = nI f.1.1 := by rw [g2.1 21 (by decide)]; exact hX.1.1
          have e : q = f.1.1 := by omega
          subst e
          refine hJ 60 _ _ _ _ ?_
          refine And.intro (fun _ => ?_) (fun c => by rw [ep, nI_leI (by omega) (by omega)] at c; omega)
          refine hJ 60 _ _ _ _ ?_
          refine r_ones who rfl (by omega) ?_
          have st : ∀ (wo no_ : Int32), wo = wst d f.1 who i → J 121 [.ref 21, .int (nI who), .int (askF d f.1 who i).1, .int (askF d f.1 who i).2, .int (nI i), .int (nI (yesN d f.1 who i f.1.1)), .int no_, .null] [.int wo] μ'' := by
            intro wo no_ hwo
            have st148 : ∀ (b l : Int32), b = (askF d f.1 who (i + 1)).1 → l = (askF d f.1 who (i + 1)).2 → J 148 [.ref 21, .int (nI who), .int b, .int (askF d f.1 who i).2, .int (nI i), .int (nI (yesN d f.1 who i f.1.1)), .int no_, .int wo] [.int l] μ'' := by
              intro b l hb hl
              refine hJ 60 _ _ _ _ ?_
              refine hF [5, 6, 7] _ _ _ _ ?_
              show J 13 [_, _, _, _, .int (nI i + 1), .null, .null, .null] [] μ''
              rw [nI_1, hb, hl]
              exact ih (i + 1) μ'' (by omega) g2 (fun z => absurd z c)
            refine hJ 60 _ _ _ _ ?_
            refine And.intro (fun c2 => ?_) (fun c2 => ?_)
            · have e : askF d f.1 who (i + 1) = askF d f.1 who i := by rw [askF, if_neg (by rw [← hwo, ar_lt]; rw [ar_le] at c2; omega)]
              refine hJ 5 _ _ _ _ ?_
              refine And.intro (fun c3 => ?_) (fun c3 => absurd c2 c3)
              refine hJ 1 _ _ _ _ ?_
              exact st148 _ _ (by rw [e]) (by rw [e])
            · have e : askF d f.1 who (i + 1) = (nI i, wst d f.1 who i) := by rw [askF, if_pos (by rw [← hwo, ar_lt]; rw [ar_le] at c2; omega)]
              refine hJ 60 _ _ _ _ ?_
              refine hJ 60 _ _ _ _ ?_
              refine And.intro (fun c3 => absurd c3 c2) (fun c3 => ?_)
              refine hJ 60 _ _ _ _ ?_
              exact st148 _ _ (by rw [e]) (by rw [e]; exact hwo)
          refine And.intro (fun c2 => ?_) (fun c2 => ?_)
          · refine hJ 1 _ _ _ _ ?_
            refine st _ _ ?_
            unfold wst
            by_cases z : nI (yesN d f.1 who i f.1.1) < nI (pcs who 10) - nI (yesN d f.1 who i f.1.1)
            · rw [if_pos z]
            · rw [if_neg z]
              rw [ar_eq]
              rw [ar_le] at c2
              rw [ar_lt] at z
              omega
          · refine hJ 60 _ _ _ _ ?_
            refine st _ _ ?_
            unfold wst
            rw [if_neg (fun z => c2 (by rw [ar_le]; rw [ar_lt] at z; omega))]
        | succ v ihv =>
          intro q μ'' hv g2
          have hq : q < f.1.1 := by omega
          have ep : μ''.1 21 8 = nI f.1.1 := by rw [g2.1 21 (by decide)]; exact hX.1.1
          have hml := hM_lt (d := d) (s := f.1) (o := q) h6
          refine hJ 60 _ _ _ _ ?_
          refine And.intro (fun c => by rw [ep, nI_leI (by omega) (by omega)] at c; omega) (fun _ => ?_)
          refine hJ 60 _ _ _ _ ?_
          refine r_mhearers (d := d) (s := f.1) hd hf.1 (MD_fr hMD (g2.1 23 (by decide)) (g2.1 24 (by decide))) (MR_fr (MS_R hX.1) (by rw [g2.1 21 (by decide)]) (g2.1 25 (by decide))) hq rfl (by rw [g2.1 21 (by decide)]; exact hX.1.2.2) (fun μ2 g3 => ?_)
          have g4 : fr [26] μ μ2 := fr_tr g2 g3
          have st89 : ∀ (hs : Int32) x, yesN d f.1 who i q + x = yesN d f.1 who i (q + 1) → J 89 [.ref 21, .int (nI who), .int (askF d f.1 who i).1, .int (askF d f.1 who i).2, .int (nI i), .int (nI (yesN d f.1 who i q)), .int (nI q), .int hs] [.int (nI x), .int (nI (yesN d f.1 who i q))] μ2 := by
            intro hs x hx
            refine hJ 60 _ _ _ _ ?_
            refine hF [7] _ _ _ _ ?_
            show J 32 [_, _, _, _, _, .int (nI (yesN d f.1 who i q) + nI x), .int (nI q + 1), .null] [] μ2
            rw [nI_1, nI_add, hx]
            exact ihv (q + 1) μ2 (by omega) g4
          have st65 : ∀ (hs : Int32), (hs = 0 ∨ hs = 1) → (hs = 1 ↔ (hM d f.1 q).testBit i = true) → J 65 [.ref 21, .int (nI who), .int (askF d f.1 who i).1, .int (askF d f.1 who i).2, .int (nI i), .int (nI (yesN d f.1 who i q)), .int (nI q), .null] [.int hs] μ2 := by
            intro hs z1 z2
            refine hJ 60 _ _ _ _ ?_
            refine And.intro (fun c2 => ?_) (fun c2 => ?_)
            · rw [ar_bit1 (by omega) (by omega)] at c2
              refine hJ 1 _ _ _ _ ?_
              exact st89 hs 0 (by unfold yesN; rw [ct, if_neg (by simp [c2])])
            · rw [ar_bit1 (by omega) (by omega)] at c2
              refine hJ 60 _ _ _ _ ?_
              refine And.intro (fun c3 => ?_) (fun c3 => ?_)
              · refine hJ 1 _ _ _ _ ?_
                refine st89 hs 0 ?_
                unfold yesN
                rw [ct, if_neg]
                intro z
                rw [Bool.and_eq_true] at z
                have := z2.mpr z.2
                rw [c3] at this
                exact absurd this (by decide)
              · refine hJ 60 _ _ _ _ ?_
                refine st89 hs 1 ?_
                unfold yesN
                rw [ct, if_pos]
                rw [Bool.and_eq_true]
                exact ⟨c2, z2.mp (z1.resolve_left c3)⟩
          refine And.intro (fun c2 => ?_) (fun c2 => ?_)
          · rw [ar_bit1 (by omega) (by omega)] at c2
            refine hJ 1 _ _ _ _ ?_
            exact st65 0 (Or.inl rfl) ⟨fun y => absurd y (by decide), fun y => absurd y c2⟩
          · rw [ar_bit1 (by omega) (by omega)] at c2
            refine hJ 60 _ _ _ _ ?_
            exact st65 1 (Or.inr rfl) ⟨fun _ => c2, fun _ => rfl⟩
      refine hJ 4 _ _ _ _ ?_
      exact inn f.1.1 0 μ' (by omega) f2
  exact lp f.1.1 0 μ1 (by omega) f1 (fun _ => rfl)
set_option maxRecDepth 20000 in
set_option maxHeartbeats 2000000 in
theorem r_mask {Q : mm_R} {μ : mm_M} {st : st_T} (hA : AOK st) (hR : RM st μ) (h : ∀ μ', fr MA μ μ' → RM st μ' → Q (some (.int (A_ask st))) μ') : mm_Runs m_X5_ask Q 0 [.ref 21] [] μ := by
  obtain ⟨L, pg, D, S, d, f, im⟩ := st
  have hR0 := hR
  obtain ⟨hL, hDl, hS, hd, hf, hD0, him⟩ := hA
  obtain ⟨x1, x2, x3, x4, x5, x6, x7, x8⟩ := hR
  have tl := thr_le D
  intro J hJ hF
  refine hJ 60 _ _ _ _ ?_
  refine And.intro (fun c => ?_) (fun c => ?_)
  · rw [x3, show (0 : Int32) = nI 0 from rfl, nI_eq (by omega) (by omega)] at c
    have e : A_ask (L, pg, D, S, d, f, im) = -103 := by simp only [A_ask]; rw [if_neg (fun z => by have := thr_1.mpr z; omega)]
    rw [e] at h
    refine hJ 60 _ _ _ _ ?_
    exact h μ (fr_rf _ _) hR0
  · rw [x3, show (0 : Int32) = nI 0 from rfl, nI_eq (by omega) (by omega)] at c
    have e : A_ask (L, pg, D, S, d, f, im) = askV d f.1 f.2.2 := by simp only [A_ask]; rw [if_pos (thr_1.mp (by omega))]
    rw [e] at h
    refine hJ 60 _ _ _ _ ?_
    refine r_askOf hd hf x6 x7 (fun μ' f1 => ?_)
    refine hJ 60 _ _ _ _ ?_
    exact h μ' (MA_26 f1) (RM_26 hR0 f1)
