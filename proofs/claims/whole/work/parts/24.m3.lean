/-! the reference: screens, stand, trials, who, ask -/
set_option maxRecDepth 20000 in
set_option maxHeartbeats 2000000 in
theorem r_screensOf {Q : mm_R} {μ : mm_M} {d : dm_T} {s : sc_T} {a b : Nat} {av bv : Int32} (hd : dOK d) (hs : sOK s) (hMD : MD d μ) (hX : MS s μ) (ha : a < s.1) (hb : b < s.1) (hav : av = nI a) (hbv : bv = nI b)
    (h : ∀ μ', fr [26] μ μ' → Q (some (.int (sV (scr d s a b 256)))) μ') : mm_Runs m_X5_screensOf Q 0 [.ref 21, .int av, .int bv, .null, .null, .null] [] μ := by
  subst hav; subst hbv
  have h6 := hs.1
  have hc := hs.2.2
  intro J hJ hF
  have lp : ∀ k m μ', k + m = 256 → fr [26] μ μ' → J 5 [.ref 21, .int (nI a), .int (nI b), .int (sV (scr d s a b m)), .int (nI m), .null] [] μ' := by
    intro k
    induction k with
    | zero =>
      intro m μ' hk f2
      have e : m = 256 := by omega
      subst e
      refine hJ 60 _ _ _ _ ?_
      refine And.intro (fun _ => ?_) (fun c => absurd (show (256 : Int32) ≤ nI 256 by decide) c)
      refine hJ 60 _ _ _ _ ?_
      exact h μ' f2
    | succ k ih =>
      intro m μ' hk f2
      have hm : m < 256 := by omega
      have hp8 := pcs8 m hm
      have ec : μ'.1 21 3 = nI s.2.2.2.2 := by rw [f2.1 21 (by decide)]; exact hX.2.2
      have hcm : s.2.2.2.2 ||| m < 256 := Nat.or_lt_two_pow (n := 8) hc hm
      have ham : m &&& s.2.2.2.2 ≤ m := Nat.and_le_left
      refine hJ 60 _ _ _ _ ?_
      refine And.intro (fun c => by rw [show (256 : Int32) = nI 256 from rfl, nI_leI (by omega) (by omega)] at c; omega) (fun _ => ?_)
      have st77 : ∀ (may best : Int32) μ'', fr [26] μ μ'' → best = sV (scr d s a b (m + 1)) → J 77 [.ref 21, .int (nI a), .int (nI b), .int (sV (scr d s a b m)), .int (nI m), .int may] [.int best] μ'' := by
        intro may best μ'' g1 g2
        refine hJ 60 _ _ _ _ ?_
        refine hF [5] _ _ _ _ ?_
        show J 5 [_, _, _, _, .int (nI m + 1), .null] [] μ''
        rw [nI_1, g2]
        exact ih (m + 1) μ'' (by omega) g1
      have skip : ∀ (may : Int32) μ'', ¬ (m &&& s.2.2.2.2 = 0 ∧ (∀ x, scr d s a b m = some x → pcs m 10 < pcs x 10) ∧ (hM d (sCl s (s.2.2.2.2 ||| m)) a).testBit b = false) → fr [26] μ μ'' → J 76 [.ref 21, .int (nI a), .int (nI b), .int (sV (scr d s a b m)), .int (nI m), .int may] [] μ'' := by
        intro may μ'' z g1
        refine hJ 1 _ _ _ _ ?_
        exact st77 may _ μ'' g1 (by rw [scr_no z])
      have st45n : ¬ (m &&& s.2.2.2.2 = 0 ∧ (∀ x, scr d s a b m = some x → pcs m 10 < pcs x 10)) → J 44 [.ref 21, .int (nI a), .int (nI b), .int (sV (scr d s a b m)), .int (nI m), .null] [] μ' := by
        intro z
        refine hJ 60 _ _ _ _ ?_
        refine And.intro (fun _ => ?_) (fun c => absurd rfl c)
        exact skip 0 μ' (fun y => z ⟨y.1, y.2.1⟩) f2
      have st40 : (m &&& s.2.2.2.2 = 0 ∧ (∀ x, scr d s a b m = some x → pcs m 10 < pcs x 10)) → J 40 [.ref 21, .int (nI a), .int (nI b), .int (sV (scr d s a b m)), .int (nI m), .null] [] μ' := by
        intro z
        refine hJ 60 _ _ _ _ ?_
        refine hJ 60 _ _ _ _ ?_
        refine And.intro (fun c => absurd c (by decide)) (fun _ => ?_)
        refine hJ 60 _ _ _ _ ?_
        have hml := hM_lt (d := d) (s := sCl s (s.2.2.2.2 ||| m)) (o := a) h6
        have hmr : MR s μ' := MR_fr (MS_R hX) (by rw [f2.1 21 (by decide)]) (f2.1 25 (by decide))
        refine r_mhearers (d := d) (s := sCl s (s.2.2.2.2 ||| m)) hd (sCl_ok hs hcm) (MD_fr hMD (f2.1 23 (by decide)) (f2.1 24 (by decide))) hmr ha rfl (by rw [ec, ar_or]; rfl) (fun μ2 f3 => ?_)
        refine And.intro (fun c => ?_) (fun c => ?_)
        · rw [ar_bitv (by omega) (by omega), show (0 : Int32) = nI 0 from rfl, nI_eq (by split <;> omega) (by omega)] at c
          refine skip 1 μ2 (fun y => ?_) (fr_tr f2 f3)
          rw [y.2.2] at c
          exact absurd rfl c
        · rw [ar_bitv (by omega) (by omega), show (0 : Int32) = nI 0 from rfl, nI_eq (by split <;> omega) (by omega)] at c
          have hb0 : (hM d (sCl s (s.2.2.2.2 ||| m)) a).testBit b = false := by
            cases hq : (hM d (sCl s (s.2.2.2.2 ||| m)) a).testBit b with
            | false => rfl
            | true => rw [hq] at c; exact absurd c (by decide)
          refine hJ 60 _ _ _ _ ?_
          exact st77 1 _ μ2 (fr_tr f2 f3) (by rw [scr_yes ⟨z.1, z.2, hb0⟩]; rfl)
      refine hJ 60 _ _ _ _ ?_
      refine And.intro (fun c => ?_) (fun c => ?_)
      · rw [ec, ar_and, show (0 : Int32) = nI 0 from rfl, nI_eq (by omega) (by omega)] at c
        exact st45n (fun z => c z.1)
      · rw [ec, ar_and, show (0 : Int32) = nI 0 from rfl, nI_eq (by omega) (by omega)] at c
        refine hJ 60 _ _ _ _ ?_
        cases hq : scr d s a b m with
        | none =>
          rw [hq] at st40
          refine And.intro (fun _ => ?_) (fun c2 => absurd rfl c2)
          exact st40 ⟨c, fun x hx => by cases hx⟩
        | some x =>
          have hx := scr_lt _ _ hq
          rw [hq] at st40 st45n
          refine And.intro (fun c2 => ?_) (fun _ => ?_)
          · exfalso
            have c2 : nI x = -1 := c2
            rw [ar_eq, nI_toInt (by omega)] at c2
            have e : (-1 : Int32).toInt = -1 := rfl
            omega
          · have hpx := pcs_le x 10
            have hpm := pcs_le m 10
            refine hJ 60 _ _ _ _ ?_
            refine r_ones m rfl (by omega) ?_
            refine r_ones x rfl (by omega) ?_
            refine And.intro (fun c3 => ?_) (fun c3 => ?_)
            · rw [nI_leI (by omega) (by omega)] at c3
              exact st45n (fun z => by have := z.2 x rfl; omega)
            · rw [nI_leI (by omega) (by omega)] at c3
              exact st40 ⟨c, fun y hy => by cases hy; omega⟩
  refine hJ 4 _ _ _ _ ?_
  exact lp 256 0 μ (by omega) (fr_rf _ _)
set_option maxRecDepth 20000 in
set_option maxHeartbeats 2000000 in
theorem r_mscreens {Q : mm_R} {μ : mm_M} {st : st_T} {a b w : Int32} (hA : AOK st) (hR : RM st μ) (h : ∀ μ', fr MA μ μ' → RM (F_screens st a b w).2 μ' → Q (some (.int (F_screens st a b w).1)) μ') : mm_Runs m_X5_screens Q 0 [.ref 21, .int a, .int b, .int w, .null] [] μ := by
  obtain ⟨L, pg, D, S, d, f, im⟩ := st
  have hR0 := hR
  obtain ⟨hL, hDl, hS, hd, hf, hD0, him⟩ := hA
  obtain ⟨x1, x2, x3, x4, x5, x6, x7, x8⟩ := hR
  have h6 := hf.1.1
  have ew := p64 (n := 2) (a := w) (c := 1) (by omega) rfl
  intro J hJ hF
  have no1 : ¬ (pIs f.1.1 a ∧ pIs f.1.1 b ∧ a ≠ b) → J 21 [.ref 21, .int a, .int b, .int w, .null] [] μ := by
    intro z
    have e : F_screens (L, pg, D, S, d, f, im) a b w = (-101, (L, pg, D, S, d, f, im)) := by simp only [F_screens]; rw [if_neg z]
    rw [e] at h
    refine hJ 60 _ _ _ _ ?_
    exact h μ (fr_rf _ _) hR0
  refine hJ 60 _ _ _ _ ?_
  refine r_misPerson h6 x7.1.1 (fun p1 => ?_) (fun p0 => ?_)
  · refine And.intro (fun c => absurd c (by decide)) (fun _ => ?_)
    refine hJ 60 _ _ _ _ ?_
    refine r_misPerson h6 x7.1.1 (fun p2 => ?_) (fun p0 => ?_)
    · refine And.intro (fun c => absurd c (by decide)) (fun _ => ?_)
      refine hJ 60 _ _ _ _ ?_
      refine And.intro (fun c => ?_) (fun c => no1 (fun z => z.2.2 c))
      have pp : pIs f.1.1 a ∧ pIs f.1.1 b ∧ a ≠ b := ⟨p1, p2, c⟩
      refine hJ 60 _ _ _ _ ?_
      refine r_in (fun w1 => ?_) (fun w0 => ?_)
      · have hw : pIs 2 w := ew.mpr w1
        refine And.intro (fun _ => ?_) (fun c => absurd c (by decide))
        refine hJ 60 _ _ _ _ ?_
        refine And.intro (fun c3 => ?_) (fun c3 => ?_)
        · rw [x5, show (20 : Int32) = nI 20 from rfl, nI_eq (by omega) (by omega)] at c3
          have e : F_screens (L, pg, D, S, d, f, im) a b w = (scV w (scr d f.1 a.toNatClampNeg b.toNatClampNeg 256), (L, pg, D, S + 1, d, f, im)) := by simp only [F_screens]; rw [if_pos pp, if_pos hw, if_neg c3]
          rw [e] at h
          obtain ⟨⟨i, hi, rfl⟩, ⟨j, hj, rfl⟩, hne⟩ := pp
          rw [ar_cl (by omega), ar_cl (by omega)] at h
          refine hJ 60 _ _ _ _ ?_
          refine r_screensOf (d := d) (s := f.1) hd hf.1 x6 x7.1 hi hj rfl rfl (fun μ1 f1 => ?_)
          have hRM : RM (L, pg, D, S + 1, d, f, im) μ1 := by
            refine RM_26 (μ := mm_put μ 21 11 (μ.1 21 11 + 1)) ⟨x1, x2, x3, x4, ?_, x6, x7, ?_⟩ f1
            · show μ.1 21 11 + 1 = _
              rw [x5, nI_1]
            · cases im with
              | none => exact x8
              | some g => exact x8
          have hfr : fr MA μ μ1 := fr_tr (fr_put (fr_rf _ _) (by simp)) (MA_26 f1)
          have hQ := h μ1 hfr hRM
          clear h
          cases hq : scr d f.1 i j 256 with
          | none =>
            rw [hq] at hQ
            refine And.intro (fun _ => ?_) (fun c => absurd rfl c)
            refine hJ 60 _ _ _ _ ?_
            refine hJ 60 _ _ _ _ ?_
            exact hQ
          | some x =>
            have hx := scr_lt _ _ hq
            rw [hq] at hQ
            simp only [scV] at hQ
            refine And.intro (fun c4 => ?_) (fun c4 => ?_)
            · exfalso
              have c4 : nI x = -1 := c4
              rw [ar_eq, nI_toInt (by omega)] at c4
              have e : (-1 : Int32).toInt = -1 := rfl
              omega
            · refine hJ 60 _ _ _ _ ?_
              refine And.intro (fun c5 => ?_) (fun c5 => ?_)
              · rw [if_neg c5] at hQ
                refine hJ 60 _ _ _ _ ?_
                refine r_ones x rfl (by omega) ?_
                exact hQ
              · rw [if_pos c5] at hQ
                refine hJ 60 _ _ _ _ ?_
                refine hJ 60 _ _ _ _ ?_
                exact hQ
        · rw [x5, show (20 : Int32) = nI 20 from rfl, nI_eq (by omega) (by omega)] at c3
          have e : F_screens (L, pg, D, S, d, f, im) a b w = (-103, (L, pg, D, S, d, f, im)) := by simp only [F_screens]; rw [if_pos pp, if_pos hw, if_pos c3]
          rw [e] at h
          refine hJ 60 _ _ _ _ ?_
          exact h μ (fr_rf _ _) hR0
      · have w0 : ¬ pIs 2 w := fun z => w0 (ew.mp z)
        have e : F_screens (L, pg, D, S, d, f, im) a b w = (-102, (L, pg, D, S, d, f, im)) := by simp only [F_screens]; rw [if_pos pp, if_neg w0]
        rw [e] at h
        refine And.intro (fun c => absurd rfl c) (fun _ => ?_)
        refine hJ 60 _ _ _ _ ?_
        exact h μ (fr_rf _ _) hR0
    · refine And.intro (fun _ => ?_) (fun c => absurd rfl c)
      exact no1 (fun z => p0 z.2.1)
  · refine And.intro (fun _ => ?_) (fun c => absurd rfl c)
    exact no1 (fun z => p0 z.1)
/-- the best so far, codes from k on looked at -/
def isB (d : dm_T) (s : sc_T) (a b k : Nat) (v : Int32) : Prop := (v = -1 ∧ ∀ x, k ≤ x → x < 64 → ¬ alone d s a b x) ∨ ∃ x, k ≤ x ∧ x < 64 ∧ v = nI x ∧ alone d s a b x ∧ ∀ j, k ≤ j → j < x → ¬ alone d s a b j
theorem isB_0 {d : dm_T} {s : sc_T} {a b : Nat} {v : Int32} (h : isB d s a b 0 v) : isSt d s a b v := by
  rcases h with ⟨h1, h2⟩ | ⟨x, h1, h2, h3, h4, h5⟩
  · exact Or.inl ⟨h1, fun m hm => h2 m (by omega) hm⟩
  · exact Or.inr ⟨x, h2, h3, h4, fun j hj => h5 j (by omega) hj⟩
theorem isB_y {d : dm_T} {s : sc_T} {a b k : Nat} (hk : k < 64) (h : alone d s a b k) : isB d s a b k (nI k) := Or.inr ⟨k, Nat.le_refl _, hk, rfl, h, fun j h1 h2 => by omega⟩
theorem isB_n {d : dm_T} {s : sc_T} {a b k : Nat} {v : Int32} (h : ¬ alone d s a b k) (g : isB d s a b (k + 1) v) : isB d s a b k v := by
  rcases g with ⟨h1, h2⟩ | ⟨x, h1, h2, h3, h4, h5⟩
  · refine Or.inl ⟨h1, fun y hy1 hy2 => ?_⟩
    by_cases e : y = k
    · subst e; exact h
    · exact h2 y (by omega) hy2
  · refine Or.inr ⟨x, by omega, h2, h3, h4, fun y hy1 hy2 => ?_⟩
    by_cases e : y = k
    · subst e; exact h
    · exact h5 y (by omega) hy2
theorem sMv_self {s : sc_T} {a b : Nat} : sMv (sMv s a (s.2.2.1 a)) b (s.2.2.1 b) = s := by
  obtain ⟨n, k, p, w, c⟩ := s
  unfold sMv
  simp only
  congr 3
  funext q
  unfold updN
  by_cases e1 : q = b
  · simp [e1]
  · by_cases e2 : q = a
    · subst e2; simp [e1]
    · simp [e1, e2]
set_option maxRecDepth 20000 in
set_option maxHeartbeats 2000000 in
theorem r_standOf {Q : mm_R} {μ : mm_M} {d : dm_T} {s : sc_T} {a b : Nat} {av bv : Int32} (hd : dOK d) (hs : sOK s) (hMD : MD d μ) (hX : MS s μ) (ha : a < s.1) (hb : b < s.1) (hab : a ≠ b) (hav : av = nI a) (hbv : bv = nI b)
    (h : ∀ μ', fr [25, 26] μ μ' → MR s μ' → Q (some (.int (std d s a b))) μ') : mm_Runs m_X5_standOf Q 0 [.ref 21, .int av, .int bv, .null, .null, .null, .null, .null, .null] [] μ := by
  subst hav; subst hbv
  have h6 := hs.1
  have ea : μ.1 25 ((3 : Int32) * nI a + 1).toNatClampNeg = nI (s.2.2.1 a) := by rw [ar_31, ar_cl (by omega)]; exact (hX.2.1 a ha).2.1
  have ebb : μ.1 25 ((3 : Int32) * nI b + 1).toNatClampNeg = nI (s.2.2.1 b) := by rw [ar_31, ar_cl (by omega)]; exact (hX.2.1 b hb).2.1
  have p2 : 2 ^ a ||| 2 ^ b < 64 := Nat.or_lt_two_pow (n := 6) (Nat.pow_lt_pow_right (by omega) (by omega)) (Nat.pow_lt_pow_right (by omega) (by omega))
  have eb : ((1 : Int32) <<< (nI a &&& 31)) ||| ((1 : Int32) <<< (nI b &&& 31)) = nI (2 ^ a ||| 2 ^ b) := by rw [ar_shl a (by omega), ar_shl b (by omega), ar_or]
  intro J hJ hF
  have lp : ∀ k s1 μ' (cd best : Int32), k ≤ 64 → cd = (if k = 0 then -1 else nI (k - 1)) → isB d s a b k best → fr [25, 26] μ μ' → MR s1 μ' → s1.1 = s.1 → (∀ p q, sMv (sMv s1 a p) b q = sMv (sMv s a p) b q) → J 39 [.ref 21, .int (nI a), .int (nI b), .int (nI (s.2.2.1 a)), .int (nI (s.2.2.1 b)), .int best, .int (nI (2 ^ a ||| 2 ^ b)), .int cd, .null] [] μ' := by
    intro k
    induction k with
    | zero =>
      intro s1 μ' cd best hk hcd hB f2 g2 n1 sm1
      rw [if_pos rfl] at hcd
      subst hcd
      refine hJ 60 _ _ _ _ ?_
      refine And.intro (fun _ => ?_) (fun c => absurd (by decide) c)
      refine hJ 60 _ _ _ _ ?_
      refine And.intro (by rw [ar_31]; exact ar_in (by omega) (by omega)) ?_
      refine And.intro (by rw [ar_31]; exact ar_in (by omega) (by omega)) ?_
      rw [ar_31, ar_31, ar_cl (by omega), ar_cl (by omega)]
      have g3 : MR (sMv (sMv s1 a (s.2.2.1 a)) b (s.2.2.1 b)) (mm_put (mm_put μ' 25 (3 * a + 1) (nI (s.2.2.1 a))) 25 (3 * b + 1) (nI (s.2.2.1 b))) := MR_mv (MR_mv (μ' := mm_put μ' 25 (3 * a + 1) (nI (s.2.2.1 a))) g2 rfl (mp_eq _ _ _ _)) rfl (mp_eq _ _ _ _)
      rw [sm1, sMv_self] at g3
      have hQ := h _ (fr_put (fr_put f2 (by simp)) (by simp)) g3
      rw [std_of (isB_0 hB)] at hQ
      exact hQ
    | succ m ih =>
      intro s1 μ' cd best hk hcd hB f2 g2 n1 sm1
      rw [if_neg (by omega), show m + 1 - 1 = m by omega] at hcd
      subst hcd
      have hm : m < 64 := by omega
      have ed : nI m / 8 = nI (m / 8) := pk_div (a := m) (d := 8) (by omega) (by omega) (by omega)
      have er : nI m - nI m / 8 * 8 = nI (m % 8) := pk_rem (a := m) (d := 8) (by omega) (by omega) (by omega)
      refine hJ 60 _ _ _ _ ?_
      refine And.intro (fun c => absurd c (nI_pos (by omega))) (fun _ => ?_)
      refine hJ 60 _ _ _ _ ?_
      refine And.intro (by decide) ?_
      rw [ed]
      refine And.intro (by rw [ar_31]; exact ar_in (by omega) (by omega)) ?_
      refine And.intro (by decide) ?_
      rw [er]
      refine And.intro (by rw [ar_31]; exact ar_in (by omega) (by omega)) ?_
      rw [ar_31, ar_31, ar_cl (by omega), ar_cl (by omega)]
      have g3 : MR (sMv (sMv s a (m / 8)) b (m % 8)) (mm_put (mm_put μ' 25 (3 * a + 1) (nI (m / 8))) 25 (3 * b + 1) (nI (m % 8))) := by
        rw [← sm1]
        exact MR_mv (MR_mv (μ' := mm_put μ' 25 (3 * a + 1) (nI (m / 8))) g2 rfl (mp_eq _ _ _ _)) rfl (mp_eq _ _ _ _)
      have f3 : fr [25, 26] μ (mm_put (mm_put μ' 25 (3 * a + 1) (nI (m / 8))) 25 (3 * b + 1) (nI (m % 8))) := fr_put (fr_put f2 (by simp)) (by simp)
      have ec3 : (mm_put (mm_put μ' 25 (3 * a + 1) (nI (m / 8))) 25 (3 * b + 1) (nI (m % 8))).1 21 3 = nI s.2.2.2.2 := by rw [f3.1 21 (by decide)]; exact hX.2.2
      generalize mm_put (mm_put μ' 25 (3 * a + 1) (nI (m / 8))) 25 (3 * b + 1) (nI (m % 8)) = μ3 at g3 f3 ec3 ⊢
      have hs3 : sOK (sMv (sMv s a (m / 8)) b (m % 8)) := sMv_ok (sMv_ok hs (by omega)) (by omega)
      have la := hM_lt (d := d) (s := sMv (sMv s a (m / 8)) b (m % 8)) (o := a) h6
      have lb := hM_lt (d := d) (s := sMv (sMv s a (m / 8)) b (m % 8)) (o := b) h6
      have st121 : ∀ (w8 : Value) (best' : Int32) μ'', isB d s a b m best' → fr [25, 26] μ μ'' → MR (sMv (sMv s a (m / 8)) b (m % 8)) μ'' → J 121 [.ref 21, .int (nI a), .int (nI b), .int (nI (s.2.2.1 a)), .int (nI (s.2.2.1 b)), .int best, .int (nI (2 ^ a ||| 2 ^ b)), .int (nI m), w8] [.int best'] μ'' := by
        intro w8 best' μ'' z1 z2 z3
        refine hJ 60 _ _ _ _ ?_
        refine hF [8] _ _ _ _ ?_
        show J 39 [_, _, _, _, _, _, _, .int (nI m + (-1)), .null] [] μ''
        refine ih (sMv (sMv s a (m / 8)) b (m % 8)) μ'' _ best' (by omega) ?_ z1 z2 z3 rfl (fun p q => sMv2 hab)
        cases m with
        | zero => rfl
        | succ n => rw [if_neg (by omega), pk_m1]; rfl
      have yes : alone d s a b m → ∀ μ'', fr [25, 26] μ μ'' → MR (sMv (sMv s a (m / 8)) b (m % 8)) μ'' → J 102 [.ref 21, .int (nI a), .int (nI b), .int (nI (s.2.2.1 a)), .int (nI (s.2.2.1 b)), .int best, .int (nI (2 ^ a ||| 2 ^ b)), .int (nI m), .null] [] μ'' := by
        intro al μ'' z2 z3
        refine hJ 60 _ _ _ _ ?_
        refine hJ 60 _ _ _ _ ?_
        refine And.intro (fun c => absurd c (by decide)) (fun _ => ?_)
        refine hJ 60 _ _ _ _ ?_
        exact st121 _ _ μ'' (isB_y hm al) z2 z3
      have non : ¬ alone d s a b m → ∀ μ'', fr [25, 26] μ μ'' → MR (sMv (sMv s a (m / 8)) b (m % 8)) μ'' → J 106 [.ref 21, .int (nI a), .int (nI b), .int (nI (s.2.2.1 a)), .int (nI (s.2.2.1 b)), .int best, .int (nI (2 ^ a ||| 2 ^ b)), .int (nI m), .null] [] μ'' := by
        intro al μ'' z2 z3
        refine hJ 60 _ _ _ _ ?_
        refine And.intro (fun _ => ?_) (fun c => absurd rfl c)
        refine hJ 1 _ _ _ _ ?_
        exact st121 _ _ μ'' (isB_n al hB) z2 z3
      refine r_mhearers (d := d) (s := sMv (sMv s a (m / 8)) b (m % 8)) hd hs3 (MD_fr hMD (f3.1 23 (by decide)) (f3.1 24 (by decide))) g3 ha rfl ec3 (fun μ4 f4 => ?_)
      have g4 : MR (sMv (sMv s a (m / 8)) b (m % 8)) μ4 := MR_fr g3 (by rw [f4.1 21 (by decide)]) (f4.1 25 (by decide))
      have f5 : fr [25, 26] μ μ4 := fr_tr f3 (fr_w f4 (by simp))
      refine And.intro (fun c => ?_) (fun c => ?_)
      · rw [nI_eq (by omega) (by omega)] at c
        exact non (fun z => c z.1) μ4 f5 g4
      · rw [nI_eq (by omega) (by omega)] at c
        refine hJ 60 _ _ _ _ ?_
        refine r_mhearers (d := d) (s := sMv (sMv s a (m / 8)) b (m % 8)) hd hs3 (MD_fr hMD (f5.1 23 (by decide)) (f5.1 24 (by decide))) g4 hb rfl (by rw [f4.1 21 (by decide)]; exact ec3) (fun μ5 f6 => ?_)
        have g6 : MR (sMv (sMv s a (m / 8)) b (m % 8)) μ5 := MR_fr g4 (by rw [f6.1 21 (by decide)]) (f6.1 25 (by decide))
        have f7 : fr [25, 26] μ μ5 := fr_tr f5 (fr_w f6 (by simp))
        refine And.intro (fun c2 => ?_) (fun c2 => ?_)
        · rw [nI_eq (by omega) (by omega)] at c2
          exact non (fun z => c2 z.2) μ5 f7 g6
        · rw [nI_eq (by omega) (by omega)] at c2
          exact yes ⟨c, c2⟩ μ5 f7 g6
  refine hJ 20 _ _ _ _ ?_
  refine And.intro (by rw [ar_31]; exact ar_in (by omega) (by omega)) ?_
  rw [ea]
  refine And.intro (by rw [ar_31]; exact ar_in (by omega) (by omega)) ?_
  rw [ebb]
  refine hJ 10 _ _ _ _ ?_
  show J 39 [_, _, _, _, _, _, .int (((1 : Int32) <<< (nI a &&& 31)) ||| ((1 : Int32) <<< (nI b &&& 31))), .int 63, _] [] μ
  rw [eb]
  exact lp 64 s μ 63 (-1) (by omega) rfl (Or.inl ⟨rfl, fun x h1 h2 => by omega⟩) (fr_rf _ _) (MS_R hX) rfl (fun p q => rfl)
set_option maxRecDepth 20000 in
set_option maxHeartbeats 2000000 in
theorem r_mstand {Q : mm_R} {μ : mm_M} {st : st_T} {a b : Int32} (hA : AOK st) (hR : RM st μ) (h : ∀ μ', fr MA μ μ' → RM st μ' → Q (some (.int (A_stand st a b))) μ') : mm_Runs m_X5_stand Q 0 [.ref 21, .int a, .int b] [] μ := by
  obtain ⟨L, pg, D, S, d, f, im⟩ := st
  have hR0 := hR
  obtain ⟨hL, hDl, hS, hd, hf, hD0, him⟩ := hA
  obtain ⟨x1, x2, x3, x4, x5, x6, x7, x8⟩ := hR
  have h6 := hf.1.1
  intro J hJ hF
  have no1 : ¬ (pIs f.1.1 a ∧ pIs f.1.1 b ∧ a ≠ b) → J 30 [.ref 21, .int a, .int b] [] μ := by
    intro z
    have e : A_stand (L, pg, D, S, d, f, im) a b = -101 := by simp only [A_stand]; rw [if_neg z]
    rw [e] at h
    refine hJ 60 _ _ _ _ ?_
    exact h μ (fr_rf _ _) hR0
  refine hJ 60 _ _ _ _ ?_
  refine r_misPerson h6 x7.1.1 (fun p1 => ?_) (fun p0 => ?_)
  · refine And.intro (fun c => absurd c (by decide)) (fun _ => ?_)
    refine hJ 60 _ _ _ _ ?_
    refine r_misPerson h6 x7.1.1 (fun p2 => ?_) (fun p0 => ?_)
    · refine And.intro (fun c => absurd c (by decide)) (fun _ => ?_)
      refine hJ 60 _ _ _ _ ?_
      refine And.intro (fun c => no1 (fun z => z.2.2 c)) (fun c => ?_)
      have pp : pIs f.1.1 a ∧ pIs f.1.1 b ∧ a ≠ b := ⟨p1, p2, c⟩
      have e : A_stand (L, pg, D, S, d, f, im) a b = std d f.1 a.toNatClampNeg b.toNatClampNeg := by simp only [A_stand]; rw [if_pos pp]
      rw [e] at h
      obtain ⟨⟨i, hi, rfl⟩, ⟨j, hj, rfl⟩, hne⟩ := pp
      rw [ar_cl (by omega), ar_cl (by omega)] at h
      refine hJ 60 _ _ _ _ ?_
      refine r_standOf (d := d) (s := f.1) hd hf.1 x6 x7.1 hi hj (fun z => hne (by rw [z])) rfl rfl (fun μ1 f1 g1 => ?_)
      refine hJ 60 _ _ _ _ ?_
      exact h μ1 (fr_w f1 (by simp)) (RM_g hR0 (fun k _ => by rw [f1.1 21 (by decide)]) (fun r h1 h2 h3 h4 => f1.1 r (by simp; omega)) g1.2)
    · refine And.intro (fun _ => ?_) (fun c => absurd rfl c)
      exact no1 (fun z => p0 z.2.1)
  · refine And.intro (fun _ => ?_) (fun c => absurd rfl c)
    exact no1 (fun z => p0 z.1)
theorem ar_2 (a : Nat) : (2 : Int32) * nI a = nI (2 * a) := pk_mul 2 a
theorem ar_21 (a : Nat) : (2 : Int32) * nI a + 1 = nI (2 * a + 1) := by rw [ar_2, nI_1]
set_option maxRecDepth 20000 in
set_option maxHeartbeats 2000000 in
theorem r_mtrial {Q : mm_R} {μ : mm_M} {st : st_T} {a b : Int32} (hA : AOK st) (hR : RM st μ) (h : ∀ μ', fr MA μ μ' → RM (F_trial st a b).2 μ' → Q (some (.int (F_trial st a b).1)) μ') : mm_Runs m_X5_trial Q 0 [.ref 21, .int a, .int b] [] μ := by
  obtain ⟨L, pg, D, S, d, f, im⟩ := st
  have hR0 := hR
  obtain ⟨hL, hDl, hS, hd, hf, hD0, him⟩ := hA
  obtain ⟨x1, x2, x3, x4, x5, x6, x7, x8⟩ := hR
  obtain ⟨y, y4, y5, y6⟩ := x7
  have h6 := hf.1.1
  have t8 := hf.2.1
  intro J hJ hF
  refine hJ 60 _ _ _ _ ?_
  refine r_misPerson h6 y.1 (fun p1 => ?_) (fun p0 => ?_)
  · refine And.intro (fun _ => ?_) (fun c => absurd c (by decide))
    refine hJ 60 _ _ _ _ ?_
    refine And.intro (fun c => ?_) (fun c => ?_)
    · rw [y5, show (8 : Int32) = nI 8 from rfl, nI_eq (by omega) (by omega)] at c
      have e : F_trial (L, pg, D, S, d, f, im) a b = (nI (f.2.2.1 + 1), (L, pg, D, S, d, (f.1, f.2.1, (f.2.2.1 + 1, updN f.2.2.2.1 f.2.2.1 a.toNatClampNeg, updN f.2.2.2.2 f.2.2.1 (if b = 0 then 0 else 1))), im)) := by simp only [F_trial]; rw [if_pos p1, if_neg c]
      rw [e] at h
      obtain ⟨j, hj, rfl⟩ := p1
      rw [ar_cl (by omega)] at h
      refine hJ 60 _ _ _ _ ?_
      refine And.intro (by rw [y5, ar_2]; exact ar_in (by omega) (by omega)) ?_
      have fin : ∀ v : Nat, v = (if b = 0 then 0 else 1) → J 56 [.ref 21, .int (nI j), .int b] [.int (nI v), .int ((2 : Int32) * μ.1 21 12 + 1), .ref 27] (mm_put μ 27 ((2 : Int32) * μ.1 21 12).toNatClampNeg (nI j)) := by
        intro v hv
        refine hJ 60 _ _ _ _ ?_
        refine And.intro (by rw [y5, ar_21]; exact ar_in (by omega) (by omega)) ?_
        show Q (some (.int (μ.1 21 12 + 1))) (mm_put (mm_put (mm_put μ 27 ((2 : Int32) * μ.1 21 12).toNatClampNeg (nI j)) 27 ((2 : Int32) * μ.1 21 12 + 1).toNatClampNeg (nI v)) 21 12 (μ.1 21 12 + 1))
        rw [y5, ar_21, ar_2, nI_1, ar_cl (by omega), ar_cl (by omega)]
        rw [← hv] at h
        refine h _ (fr_put (fr_put (fr_put (fr_rf _ _) (by simp)) (by simp)) (by simp)) ⟨x1, x2, x3, x4, x5, x6, ⟨y, y4, rfl, fun i hi => ?_⟩, ?_⟩
        · have hi : i < f.2.2.1 + 1 := hi
          show upd (upd (μ.1 27) (2 * f.2.2.1) (nI j)) (2 * f.2.2.1 + 1) (nI v) (2 * i) = nI (updN f.2.2.2.1 f.2.2.1 j i) ∧ upd (upd (μ.1 27) (2 * f.2.2.1) (nI j)) (2 * f.2.2.1 + 1) (nI v) (2 * i + 1) = nI (updN f.2.2.2.2 f.2.2.1 v i)
          by_cases e : i = f.2.2.1
          · rw [e, up_ne _ _ (by omega), up_eq, up_eq]; simp [updN]
          · rw [up_ne _ _ (by omega), up_ne _ _ (by omega), up_ne _ _ (by omega), up_ne _ _ (by omega)]
            simp only [updN, if_neg e]
            exact y6 i (by omega)
        · cases im with
          | none => exact x8
          | some g => exact x8
      refine And.intro (fun c2 => ?_) (fun c2 => ?_)
      · refine hJ 1 _ _ _ _ ?_
        exact fin 0 (by rw [if_pos c2])
      · refine hJ 60 _ _ _ _ ?_
        exact fin 1 (by rw [if_neg c2])
    · rw [y5, show (8 : Int32) = nI 8 from rfl, nI_eq (by omega) (by omega)] at c
      have e : F_trial (L, pg, D, S, d, f, im) a b = (-104, (L, pg, D, S, d, f, im)) := by simp only [F_trial]; rw [if_pos p1, if_pos c]
      rw [e] at h
      refine hJ 60 _ _ _ _ ?_
      exact h μ (fr_rf _ _) hR0
  · have e : F_trial (L, pg, D, S, d, f, im) a b = (-101, (L, pg, D, S, d, f, im)) := by simp only [F_trial]; rw [if_neg p0]
    rw [e] at h
    refine And.intro (fun c => absurd rfl c) (fun _ => ?_)
    refine hJ 60 _ _ _ _ ?_
    exact h μ (fr_rf _ _) hR0
set_option maxRecDepth 20000 in
set_option maxHeartbeats 2000000 in
theorem r_mforget {Q : mm_R} {μ : mm_M} {st : st_T} (hR : RM st μ) (h : ∀ μ', fr MA μ μ' → RM (F_forget st).2 μ' → Q (some (.int (F_forget st).1)) μ') : mm_Runs m_X5_forget Q 0 [.ref 21, .null] [] μ := by
  obtain ⟨L, pg, D, S, d, f, im⟩ := st
  obtain ⟨x1, x2, x3, x4, x5, x6, x7, x8⟩ := hR
  obtain ⟨y, y4, y5, y6⟩ := x7
  intro J hJ hF
  refine hJ 60 _ _ _ _ ?_
  show Q (some (.int (μ.1 21 12))) (mm_put μ 21 12 0)
  rw [y5]
  refine h _ (fr_put (fr_rf _ _) (by simp)) ⟨x1, x2, x3, x4, x5, x6, ⟨y, y4, rfl, fun i hi => absurd hi (Nat.not_lt_zero _)⟩, ?_⟩
  cases im with
  | none => exact x8
  | some g => exact x8
