/-! the class: screens, stand, trials -/
theorem pcs8 : ∀ m, m < 256 → pcs m 10 ≤ 8 := by decide +kernel
def sV (o : Option Nat) : Int32 := match o with
  | none => -1
  | some x => nI x
def sF (o : Option Nat) : Nat := match o with
  | none => 9
  | some x => pcs x 10
theorem sF_le (o : Option Nat) : sF o ≤ 10 := by
  cases o with
  | none => show 9 ≤ 10; omega
  | some x => exact pcs_le x 10
theorem sCl_ok {s : sc_T} {c : Nat} (hs : sOK s) (hc : c < 256) : sOK (sCl s c) := ⟨hs.1, hs.2.1, hc⟩
theorem scr_no {d : dm_T} {s : sc_T} {a b m : Nat} (h : ¬ (m &&& s.2.2.2.2 = 0 ∧ (∀ x, scr d s a b m = some x → pcs m 10 < pcs x 10) ∧ (hM d (sCl s (s.2.2.2.2 ||| m)) a).testBit b = false)) : scr d s a b (m + 1) = scr d s a b m := by
  rw [scr, if_neg h]
theorem scr_yes {d : dm_T} {s : sc_T} {a b m : Nat} (h : m &&& s.2.2.2.2 = 0 ∧ (∀ x, scr d s a b m = some x → pcs m 10 < pcs x 10) ∧ (hM d (sCl s (s.2.2.2.2 ||| m)) a).testBit b = false) : scr d s a b (m + 1) = some m := by
  rw [scr, if_pos h]
theorem scr_lt {d : dm_T} {s : sc_T} {a b : Nat} : ∀ m x, scr d s a b m = some x → x < m
  | 0, x, h => by cases h
  | m + 1, x, h => by
    rw [scr] at h
    split at h
    · cases h; omega
    · have := scr_lt m x h; omega
theorem scr_f {d : dm_T} {s : sc_T} {a b m : Nat} (hm : m < 256) : (∀ x, scr d s a b m = some x → pcs m 10 < pcs x 10) ↔ pcs m 10 < sF (scr d s a b m) := by
  cases hq : scr d s a b m with
  | none =>
    have := pcs8 m hm
    constructor
    · intro _; show _ < 9; omega
    · intro _ x h; cases h
  | some y =>
    constructor
    · intro h; exact h y rfl
    · intro h x hx; cases hx; exact h
abbrev XW : List Nat := [13, 14, 15, 16, 17, 18]
theorem XZ_W {μ μ' : mm_M} (h : fr XW μ μ') : fr XZ μ μ' := fr_w h (fun r hr => by simp at hr ⊢; omega)
set_option maxRecDepth 20000 in
set_option maxHeartbeats 2000000 in
theorem r_leastScreens {Q : mm_R} {μ : mm_M} {d : dm_T} {f : fs_T} {a b : Nat} {av bv : Int32} (hd : dOK d) (hf : fOK f) (hXD : XD d μ) (hX : XF 5 f μ) (ha : a < f.1.1) (hb : b < f.1.1) (hav : av = nI a) (hbv : bv = nI b)
    (h : ∀ μ', fr XW μ μ' → Q (some (.int (sV (scr d f.1 a b 256)))) μ') : mm_Runs m_X4_leastScreens Q 0 [.ref 0, .int av, .int bv, .null, .null, .null, .null] [] μ := by
  subst hav; subst hbv
  have h6 := hf.1.1
  have hc := hf.1.2.2
  intro J hJ hF
  refine hJ 11 _ _ _ _ ?_
  refine r_copy13_5 h6 hX (fun μ1 f1 g1 => ?_)
  have lp : ∀ k m c' μ', k + m = 256 → fr XW μ μ' → XS 13 (sCl f.1 c') μ' → J 20 [.ref 0, .int (nI a), .int (nI b), .int (sV (scr d f.1 a b m)), .int (nI (sF (scr d f.1 a b m))), .int (nI m), .null] [] μ' := by
    intro k
    induction k with
    | zero =>
      intro m c' μ' hk f2 g2
      have e : m = 256 := by omega
      subst e
      refine hJ 60 _ _ _ _ ?_
      refine And.intro (fun _ => ?_) (fun c => absurd (show (256 : Int32) ≤ nI 256 by decide) c)
      refine hJ 60 _ _ _ _ ?_
      exact h μ' f2
    | succ k ih =>
      intro m c' μ' hk f2 g2
      have hm : m < 256 := by omega
      have hp8 := pcs8 m hm
      have hsf := sF_le (scr d f.1 a b m)
      have ec : μ'.1 5 4 = nI f.1.2.2.2.2 := by rw [f2.1 5 (by decide)]; exact hX.1.2.2
      have hcm : f.1.2.2.2.2 ||| m < 256 := Nat.or_lt_two_pow (n := 8) hc hm
      have ham : m &&& f.1.2.2.2.2 ≤ m := Nat.and_le_left
      refine hJ 60 _ _ _ _ ?_
      refine And.intro (fun c => by rw [show (256 : Int32) = nI 256 from rfl, nI_leI (by omega) (by omega)] at c; omega) (fun _ => ?_)
      refine hJ 60 _ _ _ _ ?_
      refine r_bitCount m rfl (by omega) ?_
      have nxt : ∀ (w6 : Value) (best few : Int32) c'' μ'', best = sV (scr d f.1 a b (m + 1)) → few = nI (sF (scr d f.1 a b (m + 1))) → fr XW μ μ'' → XS 13 (sCl f.1 c'') μ'' → J 105 [.ref 0, .int (nI a), .int (nI b), .int best, .int few, .int (nI m), w6] [] μ'' := by
        intro w6 best few c'' μ'' e1 e2 e3 e4
        refine hJ 60 _ _ _ _ ?_
        refine hF [6] _ _ _ _ ?_
        show J 20 [_, _, _, _, _, .int (nI m + 1), .null] [] μ''
        rw [nI_1, e1, e2]
        exact ih (m + 1) c'' μ'' (by omega) e3 e4
      have skip : ∀ w6 c'' μ'', ¬ (m &&& f.1.2.2.2.2 = 0 ∧ (∀ x, scr d f.1 a b m = some x → pcs m 10 < pcs x 10) ∧ (hM d (sCl f.1 (f.1.2.2.2.2 ||| m)) a).testBit b = false) → fr XW μ μ'' → XS 13 (sCl f.1 c'') μ'' → J 105 [.ref 0, .int (nI a), .int (nI b), .int (sV (scr d f.1 a b m)), .int (nI (sF (scr d f.1 a b m))), .int (nI m), w6] [] μ'' := by
        intro w6 c'' μ'' z e3 e4
        exact nxt w6 _ _ c'' μ'' (by rw [scr_no z]) (by rw [scr_no z]) e3 e4
      refine And.intro (fun c => ?_) (fun c => ?_)
      · rw [nI_leI (by omega) (by omega)] at c
        exact skip _ c' μ' (fun z => by have := (scr_f hm).mp z.2.1; omega) f2 g2
      rw [nI_leI (by omega) (by omega)] at c
      refine hJ 60 _ _ _ _ ?_
      refine And.intro (fun c2 => ?_) (fun c2 => ?_)
      · rw [ec, ar_and, show (0 : Int32) = nI 0 from rfl, nI_eq (by omega) (by omega)] at c2
        refine hJ 60 _ _ _ _ ?_
        have f3 : ∀ v, fr XW μ (mm_put μ' 13 4 v) := fun v => fr_put f2 (by simp)
        have g3 : XS 13 (sCl f.1 (f.1.2.2.2.2 ||| m)) (mm_put μ' 13 4 (μ'.1 5 4 ||| nI m)) := by
          refine ⟨g2.1, g2.2.1, ?_⟩
          show μ'.1 5 4 ||| nI m = _
          rw [ec, ar_or]; rfl
        refine r_spread13 (d := d) (s := sCl f.1 (f.1.2.2.2.2 ||| m)) hd (sCl_ok hf.1 hcm) (XD_fr hXD ((f3 _).1 3 (by decide)) ((f3 _).1 4 (by decide))) g3 ha rfl (fun μ2 f4 _ => ?_)
        have f5 : fr XW μ μ2 := fr_tr (f3 _) (fr_w f4 (by simp))
        have g5 : XS 13 (sCl f.1 (f.1.2.2.2.2 ||| m)) μ2 := XS_fr g3 (f4.1 13 (by decide)) (f4.1 14 (by decide)) (f4.1 15 (by decide)) (f4.1 16 (by decide))
        have hml := hM_lt (d := d) (s := sCl f.1 (f.1.2.2.2.2 ||| m)) (o := a) h6
        refine r_hasBit _ b rfl rfl (by omega) (by omega) (fun b1 => ?_) (fun b0 => ?_)
        · refine And.intro (fun _ => ?_) (fun c => absurd c (by decide))
          exact skip _ _ μ2 (fun z => by rw [b1] at z; exact absurd z.2.2 (by decide)) f5 g5
        · refine And.intro (fun c => absurd rfl c) (fun _ => ?_)
          refine hJ 4 _ _ _ _ ?_
          have hy := scr_yes (d := d) (s := f.1) (a := a) (b := b) (m := m) ⟨c2, (scr_f hm).mpr (by omega), b0⟩
          exact nxt _ _ _ _ μ2 (by rw [hy]; rfl) (by rw [hy]; rfl) f5 g5
      · rw [ec, ar_and, show (0 : Int32) = nI 0 from rfl, nI_eq (by omega) (by omega)] at c2
        refine hJ 60 _ _ _ _ ?_
        exact skip _ c' μ' (fun z => c2 z.1) f2 g2
  refine lp 256 0 f.1.2.2.2.2 μ1 (by omega) (fr_w f1 (by simp)) ?_
  exact g1.1
set_option maxRecDepth 20000 in
set_option maxHeartbeats 2000000 in
theorem r_xscreens {Q : mm_R} {μ : mm_M} {st : st_T} {a b w : Int32} (hA : AOK st) (hR : RX st μ) (h : ∀ μ', fr XA μ μ' → RX (F_screens st a b w).2 μ' → Q (some (.int (F_screens st a b w).1)) μ') : mm_Runs m_X4_screens Q 0 [.ref 0, .int a, .int b, .int w, .null] [] μ := by
  obtain ⟨L, pg, D, S, d, f, im⟩ := st
  have hR0 := hR
  obtain ⟨hL, hDl, hS, hd, hf, hD0, him⟩ := hA
  obtain ⟨x1, x2, x3, x4, x5, x6, x7⟩ := hR
  have h6 := hf.1.1
  have ew := pIs_iff (n := 2) (a := w) (by omega)
  rw [ar_le, ar_lt, show (nI 2).toInt = 2 from rfl, show (0 : Int32).toInt = 0 from rfl] at ew
  intro J hJ hF
  refine hJ 60 _ _ _ _ ?_
  refine r_isPair x6.1.1 h6 (fun p1 => ?_) (fun p0 => ?_)
  · refine And.intro (fun _ => ?_) (fun c => absurd c (by decide))
    have no : ¬ pIs 2 w → J 21 [.ref 0, .int a, .int b, .int w, .null] [] μ := by
      intro z
      have e : F_screens (L, pg, D, S, d, f, im) a b w = (-102, (L, pg, D, S, d, f, im)) := by simp only [F_screens]; rw [if_pos p1, if_neg z]
      rw [e] at h
      refine hJ 60 _ _ _ _ ?_
      exact h μ (fr_rf _ _) hR0
    refine hJ 60 _ _ _ _ ?_
    refine And.intro (fun c => ?_) (fun c => ?_)
    · rw [ar_lt, show (0 : Int32).toInt = 0 from rfl] at c
      exact no (fun z => by have := ew.mp z; omega)
    rw [ar_lt, show (0 : Int32).toInt = 0 from rfl] at c
    refine hJ 60 _ _ _ _ ?_
    refine And.intro (fun c2 => ?_) (fun c2 => ?_)
    · rw [ar_le, show (1 : Int32).toInt = 1 from rfl] at c2
      have hw : pIs 2 w := ew.mpr (by omega)
      refine hJ 60 _ _ _ _ ?_
      refine And.intro (fun c3 => ?_) (fun c3 => ?_)
      · rw [x4, show (20 : Int32) = nI 20 from rfl, nI_ltI (by omega) (by omega)] at c3
        have e : F_screens (L, pg, D, S, d, f, im) a b w = (scV w (scr d f.1 a.toNatClampNeg b.toNatClampNeg 256), (L, pg, D, S + 1, d, f, im)) := by simp only [F_screens]; rw [if_pos p1, if_pos hw, if_neg (by omega)]
        rw [e] at h
        obtain ⟨⟨i, hi, rfl⟩, ⟨j, hj, rfl⟩, hne⟩ := p1
        rw [ar_cl (by omega), ar_cl (by omega)] at h
        refine hJ 60 _ _ _ _ ?_
        refine r_leastScreens (d := d) (f := f) hd hf x5 x6 hi hj rfl rfl (fun μ1 f1 => ?_)
        have hRX : RX (L, pg, D, S + 1, d, f, im) μ1 := by
          refine RX_fr (μ := mm_put μ 0 11 (μ.1 0 11 + 1)) ⟨x1, x2, x3, ?_, x5, x6, ?_⟩ (XZ_W f1)
          · show μ.1 0 11 + 1 = _
            rw [x4, nI_1]
          · cases im with
            | none => exact x7
            | some g => exact x7
        have hfr : fr XA μ μ1 := fr_tr (fr_put (fr_rf _ _) (by simp)) (XA_Z (XZ_W f1))
        have hQ := h μ1 hfr hRX
        clear h
        cases hq : scr d f.1 i j 256 with
        | none =>
          rw [hq] at hQ
          refine And.intro (fun _ => ?_) (fun c => absurd rfl c)
          refine hJ 60 _ _ _ _ ?_
          refine hJ 60 _ _ _ _ ?_
          exact hQ
        | some x =>
          have hx := scr_lt _ _ hq
          rw [hq] at hQ
          simp only [scV] at hQ
          refine And.intro (fun c4 => ?_) (fun c4 => ?_)
          · exfalso
            have c4 : nI x = -1 := c4
            rw [ar_eq, nI_toInt (by omega)] at c4
            have e : (-1 : Int32).toInt = -1 := rfl
            omega
          · refine hJ 60 _ _ _ _ ?_
            refine And.intro (fun c5 => ?_) (fun c5 => ?_)
            · rw [if_neg c5] at hQ
              refine hJ 60 _ _ _ _ ?_
              refine r_bitCount x rfl (by omega) ?_
              exact hQ
            · rw [if_pos c5] at hQ
              refine hJ 60 _ _ _ _ ?_
              refine hJ 60 _ _ _ _ ?_
              exact hQ
      · rw [x4, show (20 : Int32) = nI 20 from rfl, nI_ltI (by omega) (by omega)] at c3
        have e : F_screens (L, pg, D, S, d, f, im) a b w = (-103, (L, pg, D, S, d, f, im)) := by simp only [F_screens]; rw [if_pos p1, if_pos hw, if_pos (by omega)]
        rw [e] at h
        refine hJ 60 _ _ _ _ ?_
        exact h μ (fr_rf _ _) hR0
    · rw [ar_le, show (1 : Int32).toInt = 1 from rfl] at c2
      exact no (fun z => by have := ew.mp z; omega)
  · have e : F_screens (L, pg, D, S, d, f, im) a b w = (-101, (L, pg, D, S, d, f, im)) := by simp only [F_screens]; rw [if_neg p0]
    rw [e] at h
    refine And.intro (fun c => absurd rfl c) (fun _ => ?_)
    refine hJ 60 _ _ _ _ ?_
    exact h μ (fr_rf _ _) hR0
set_option maxRecDepth 20000 in
set_option maxHeartbeats 2000000 in
theorem r_areAlone {Q : mm_R} {μ : mm_M} {d : dm_T} {s : sc_T} {a b : Nat} {av bv : Int32} (hd : dOK d) (hs : sOK s) (hXD : XD d μ) (hX : XS 13 s μ) (ha : a < s.1) (hb : b < s.1) (hav : av = nI a) (hbv : bv = nI b)
    (h1 : hM d s a = 2 ^ a ||| 2 ^ b ∧ hM d s b = 2 ^ a ||| 2 ^ b → ∀ μ', fr [17, 18] μ μ' → Q (some (.int 1)) μ') (h0 : ¬ (hM d s a = 2 ^ a ||| 2 ^ b ∧ hM d s b = 2 ^ a ||| 2 ^ b) → ∀ μ', fr [17, 18] μ μ' → Q (some (.int 0)) μ') : mm_Runs m_X4_areAlone Q 0 [.ref 0, .ref 13, .int av, .int bv, .null] [] μ := by
  subst hav; subst hbv
  have h6 := hs.1
  have p2 : 2 ^ a ||| 2 ^ b < 64 := Nat.or_lt_two_pow (n := 6) (Nat.pow_lt_pow_right (by omega) (by omega)) (Nat.pow_lt_pow_right (by omega) (by omega))
  have la := hM_lt (d := d) (s := s) (o := a) h6
  have lb := hM_lt (d := d) (s := s) (o := b) h6
  have eb : ((1 : Int32) <<< (nI a &&& 31)) ||| ((1 : Int32) <<< (nI b &&& 31)) = nI (2 ^ a ||| 2 ^ b) := by rw [ar_shl a (by omega), ar_shl b (by omega), ar_or]
  intro J hJ hF
  refine hJ 8 _ _ _ _ ?_
  show J 9 [_, _, _, _, .int (((1 : Int32) <<< (nI a &&& 31)) ||| ((1 : Int32) <<< (nI b &&& 31)))] [] μ
  rw [eb]
  refine hJ 60 _ _ _ _ ?_
  refine r_spread13 hd hs hXD hX ha rfl (fun μ1 f1 _ => ?_)
  refine And.intro (fun c => ?_) (fun c => ?_)
  · rw [nI_eq (by omega) (by omega)] at c
    refine hJ 60 _ _ _ _ ?_
    exact And.intro (Or.inl rfl) (h0 (fun z => c z.1) μ1 f1)
  · rw [nI_eq (by omega) (by omega)] at c
    refine hJ 60 _ _ _ _ ?_
    refine r_spread13 hd hs (XD_fr hXD (f1.1 3 (by decide)) (f1.1 4 (by decide))) (XS_fr hX (f1.1 13 (by decide)) (f1.1 14 (by decide)) (f1.1 15 (by decide)) (f1.1 16 (by decide))) hb rfl (fun μ2 f2 _ => ?_)
    refine And.intro (fun c2 => ?_) (fun c2 => ?_)
    · rw [nI_eq (by omega) (by omega)] at c2
      refine hJ 60 _ _ _ _ ?_
      exact And.intro (Or.inl rfl) (h0 (fun z => c2 z.2) μ2 (fr_tr f1 f2))
    · rw [nI_eq (by omega) (by omega)] at c2
      refine hJ 60 _ _ _ _ ?_
      refine hJ 60 _ _ _ _ ?_
      exact And.intro (Or.inr rfl) (h1 ⟨c, c2⟩ μ2 (fr_tr f1 f2))
theorem sMv2 {s : sc_T} {a b x y x' y' : Nat} (h : a ≠ b) : sMv (sMv (sMv (sMv s a x) b y) a x') b y' = sMv (sMv s a x') b y' := by
  unfold sMv
  simp only
  congr 3
  funext q
  unfold updN
  by_cases e1 : q = b
  · simp [e1]
  · by_cases e2 : q = a
    · simp [e1, e2]
    · simp [e1, e2]
set_option maxRecDepth 20000 in
set_option maxHeartbeats 2000000 in
theorem r_xstand {Q : mm_R} {μ : mm_M} {st : st_T} {a b : Int32} (hA : AOK st) (hR : RX st μ) (h : ∀ μ', fr XA μ μ' → RX st μ' → Q (some (.int (A_stand st a b))) μ') : mm_Runs m_X4_stand Q 0 [.ref 0, .int a, .int b, .null] [] μ := by
  obtain ⟨L, pg, D, S, d, f, im⟩ := st
  have hR0 := hR
  obtain ⟨hL, hDl, hS, hd, hf, hD0, him⟩ := hA
  obtain ⟨x1, x2, x3, x4, x5, x6, x7⟩ := hR
  have h6 := hf.1.1
  intro J hJ hF
  refine hJ 60 _ _ _ _ ?_
  refine r_isPair x6.1.1 h6 (fun p1 => ?_) (fun p0 => ?_)
  · refine And.intro (fun _ => ?_) (fun c => absurd c (by decide))
    have e : A_stand (L, pg, D, S, d, f, im) a b = std d f.1 a.toNatClampNeg b.toNatClampNeg := by simp only [A_stand]; rw [if_pos p1]
    rw [e] at h
    obtain ⟨⟨i, hi, rfl⟩, ⟨j, hj, rfl⟩, hne⟩ := p1
    have hij : i ≠ j := fun z => hne (by rw [z])
    rw [ar_cl (by omega), ar_cl (by omega)] at h
    refine hJ 7 _ _ _ _ ?_
    refine r_copy13_5 h6 x6 (fun μ1 f1 g1 => ?_)
    have lp : ∀ k m s1 μ', k + m = 64 → fr XW μ μ' → XS 13 s1 μ' → s1.1 = f.1.1 → (∀ p q, sMv (sMv s1 i p) j q = sMv (sMv f.1 i p) j q) → (∀ x, x < m → ¬ alone d f.1 i j x) → J 25 [.ref 0, .int (nI i), .int (nI j), .int (nI m)] [] μ' := by
      intro k
      induction k with
      | zero =>
        intro m s1 μ' hk f2 g2 n1 sm1 al
        have e : m = 64 := by omega
        subst e
        refine hJ 60 _ _ _ _ ?_
        refine And.intro (fun _ => ?_) (fun c => absurd (show (64 : Int32) ≤ nI 64 by decide) c)
        refine hJ 60 _ _ _ _ ?_
        have hQ := h μ' (XA_Z (XZ_W f2)) (RX_fr hR0 (XZ_W f2))
        rw [std_of (v := -1) (Or.inl ⟨rfl, al⟩)] at hQ
        exact hQ
      | succ k ih =>
        intro m s1 μ' hk f2 g2 n1 sm1 al
        have hm : m < 64 := by omega
        have ed : nI m / 8 = nI (m / 8) := pk_div (a := m) (d := 8) (by omega) (by omega) (by omega)
        have er : nI m - nI m / 8 * 8 = nI (m % 8) := pk_rem (a := m) (d := 8) (by omega) (by omega) (by omega)
        refine hJ 60 _ _ _ _ ?_
        refine And.intro (fun c => by rw [show (64 : Int32) = nI 64 from rfl, nI_leI (by omega) (by omega)] at c; omega) (fun _ => ?_)
        refine hJ 60 _ _ _ _ ?_
        refine And.intro (by decide) ?_
        rw [ed]
        refine And.intro (ar_in (by omega) (by omega)) ?_
        refine And.intro (by decide) ?_
        rw [er]
        refine And.intro (ar_in (by omega) (by omega)) ?_
        rw [ar_cl (by omega), ar_cl (by omega)]
        have g3 : XS 13 (sMv (sMv f.1 i (m / 8)) j (m % 8)) (mm_put (mm_put μ' 15 i (nI (m / 8))) 15 j (nI (m % 8))) := by
          rw [← sm1]
          exact XS_mv (XS_mv (μ' := mm_put μ' 15 i (nI (m / 8))) g2 rfl rfl rfl rfl) rfl rfl rfl rfl
        have f3 : fr XW μ (mm_put (mm_put μ' 15 i (nI (m / 8))) 15 j (nI (m % 8))) := fr_put (fr_put f2 (by simp)) (by simp)
        refine r_areAlone (d := d) (s := sMv (sMv f.1 i (m / 8)) j (m % 8)) hd (sMv_ok (sMv_ok hf.1 (by omega)) (by omega)) (XD_fr x5 (f3.1 3 (by decide)) (f3.1 4 (by decide))) g3 hi hj rfl rfl (fun al1 μ2 f4 => ?_) (fun al0 μ2 f4 => ?_)
        · refine And.intro (fun c => absurd c (by decide)) (fun _ => ?_)
          refine hJ 60 _ _ _ _ ?_
          have f5 : fr XW μ μ2 := fr_tr f3 (fr_w f4 (by simp))
          have hQ := h μ2 (XA_Z (XZ_W f5)) (RX_fr hR0 (XZ_W f5))
          rw [std_of (v := nI m) (Or.inr ⟨m, hm, rfl, al1, al⟩)] at hQ
          exact hQ
        · refine And.intro (fun _ => ?_) (fun c => absurd rfl c)
          refine hJ 60 _ _ _ _ ?_
          show J 25 [_, _, _, .int (nI m + 1)] [] μ2
          rw [nI_1]
          refine ih (m + 1) (sMv (sMv f.1 i (m / 8)) j (m % 8)) μ2 (by omega) (fr_tr f3 (fr_w f4 (by simp))) (XS_fr g3 (f4.1 13 (by decide)) (f4.1 14 (by decide)) (f4.1 15 (by decide)) (f4.1 16 (by decide))) rfl (fun p q => sMv2 hij) (fun x hx => ?_)
          by_cases e : x = m
          · subst e; exact al0
          · exact al x (by omega)
    refine lp 64 0 f.1 μ1 (by omega) (fr_w f1 (by simp)) g1.1 rfl (fun p q => rfl) (fun x hx => absurd hx (Nat.not_lt_zero _))
  · have e : A_stand (L, pg, D, S, d, f, im) a b = -101 := by simp only [A_stand]; rw [if_neg p0]
    rw [e] at h
    refine And.intro (fun c => absurd rfl c) (fun _ => ?_)
    refine hJ 60 _ _ _ _ ?_
    exact h μ (fr_rf _ _) hR0
theorem tB_cong {q v q' v' : Nat → Nat} {w : Nat} : ∀ {T : Nat}, (∀ i, i < T → q i = q' i ∧ v i = v' i) → tBits q v w T = tBits q' v' w T
  | 0, _ => rfl
  | T + 1, h => by
    unfold tBits
    rw [tB_cong (fun i hi => h i (by omega)), (h T (by omega)).1, (h T (by omega)).2]
theorem tB_up (q v : Nat → Nat) (T j x w : Nat) : tBits (updN q T j) (updN v T x) w (T + 1) = if x = w then tBits q v w T ||| 2 ^ j else tBits q v w T := by
  rw [tBits, tB_cong (q' := q) (v' := v) (T := T) (fun i hi => ⟨by unfold updN; rw [if_neg (by omega)], by unfold updN; rw [if_neg (by omega)]⟩)]
  simp [updN]
set_option maxRecDepth 20000 in
set_option maxHeartbeats 2000000 in
theorem r_xtrial {Q : mm_R} {μ : mm_M} {st : st_T} {a b : Int32} (hA : AOK st) (hR : RX st μ) (h : ∀ μ', fr XA μ μ' → RX (F_trial st a b).2 μ' → Q (some (.int (F_trial st a b).1)) μ') : mm_Runs m_X4_trial Q 0 [.ref 0, .int a, .int b] [] μ := by
  obtain ⟨L, pg, D, S, d, f, im⟩ := st
  have hR0 := hR
  obtain ⟨hL, hDl, hS, hd, hf, hD0, him⟩ := hA
  obtain ⟨x1, x2, x3, x4, x5, x6, x7⟩ := hR
  have h6 := hf.1.1
  have t8 := hf.2.1
  obtain ⟨⟨y0, y1, y4⟩, y5, y6, y7, y8⟩ := x6
  intro J hJ hF
  refine hJ 60 _ _ _ _ ?_
  refine r_isPerson y0 h6 (fun p1 => ?_) (fun p0 => ?_)
  · refine And.intro (fun _ => ?_) (fun c => absurd c (by decide))
    refine hJ 60 _ _ _ _ ?_
    refine And.intro (fun c => ?_) (fun c => ?_)
    · rw [y6, show (8 : Int32) = nI 8 from rfl, nI_ltI (by omega) (by omega)] at c
      have e : F_trial (L, pg, D, S, d, f, im) a b = (nI (f.2.2.1 + 1), (L, pg, D, S, d, (f.1, f.2.1, (f.2.2.1 + 1, updN f.2.2.2.1 f.2.2.1 a.toNatClampNeg, updN f.2.2.2.2 f.2.2.1 (if b = 0 then 0 else 1))), im)) := by simp only [F_trial]; rw [if_pos p1, if_neg (by omega)]
      rw [e] at h
      obtain ⟨j, hj, rfl⟩ := p1
      rw [ar_cl (by omega)] at h
      have fin : ∀ μ', fr XA μ μ' → (∀ r, r ≠ 5 → μ'.1 r = μ.1 r) → (∀ k, k ≠ 7 → k ≠ 8 → μ'.1 5 k = μ.1 5 k) → μ'.1 5 7 = nI (tBits (updN f.2.2.2.1 f.2.2.1 j) (updN f.2.2.2.2 f.2.2.1 (if b = 0 then 0 else 1)) 1 (f.2.2.1 + 1)) → μ'.1 5 8 = nI (tBits (updN f.2.2.2.1 f.2.2.1 j) (updN f.2.2.2.2 f.2.2.1 (if b = 0 then 0 else 1)) 0 (f.2.2.1 + 1)) → J 63 [.ref 0, .int (nI j), .int b] [] μ' := by
        intro μ' g1 g2 g3 g4 g5
        refine hJ 60 _ _ _ _ ?_
        show Q (some (.int (μ'.1 5 6 + 1))) (mm_put μ' 5 6 (μ'.1 5 6 + 1))
        rw [g3 6 (by omega) (by omega), y6, nI_1]
        have k0 : μ'.1 5 0 = nI f.1.1 := by rw [g3 0 (by omega) (by omega)]; exact y0
        have k4 : μ'.1 5 4 = nI f.1.2.2.2.2 := by rw [g3 4 (by omega) (by omega)]; exact y4
        have k5 : μ'.1 5 5 = f.2.1 := by rw [g3 5 (by omega) (by omega)]; exact y5
        have k1 : ∀ q, q < f.1.1 → μ'.1 6 q = nI (f.1.2.1 q) ∧ μ'.1 7 q = nI (f.1.2.2.1 q) ∧ μ'.1 8 q = nI (f.1.2.2.2.1 q) := fun q hq => by
          rw [g2 6 (by omega), g2 7 (by omega), g2 8 (by omega)]; exact y1 q hq
        refine h _ (fr_put g1 (by simp)) ⟨?_, fun q hq => ?_, ?_, ?_, XD_fr x5 (g2 3 (by omega)) (g2 4 (by omega)), ⟨⟨k0, k1, k4⟩, k5, rfl, g4, g5⟩, ?_⟩
        · show μ'.1 0 1 = _; rw [g2 0 (by omega)]; exact x1
        · show μ'.1 1 q = _; rw [g2 1 (by omega)]; exact x2 q hq
        · show μ'.1 0 10 = _; rw [g2 0 (by omega)]; exact x3
        · show μ'.1 0 11 = _; rw [g2 0 (by omega)]; exact x4
        · cases im with
          | none => show μ'.1 0 9 = 0; rw [g2 0 (by omega)]; exact x7
          | some g => exact ⟨by show μ'.1 0 9 = 1; rw [g2 0 (by omega)]; exact x7.1, XF_fr x7.2 (g2 9 (by omega)) (g2 10 (by omega)) (g2 11 (by omega)) (g2 12 (by omega))⟩
      refine hJ 60 _ _ _ _ ?_
      refine And.intro (fun c2 => ?_) (fun c2 => ?_)
      · refine hJ 9 _ _ _ _ ?_
        show J 63 _ [] (mm_put μ 5 8 (μ.1 5 8 ||| ((1 : Int32) <<< (nI j &&& 31))))
        rw [y8, ar_shl j (by omega), ar_or]
        refine fin _ (fr_put (fr_rf _ _) (by simp)) (fun r hr => mp_ne _ _ _ hr) (fun k h1 h2 => by rw [mp_eq, up_ne _ _ h2]) ?_ ?_
        · rw [mp_eq, up_ne _ _ (by omega), tB_up, if_pos c2, if_neg (by omega)]; exact y7
        · rw [mp_eq, up_eq, tB_up, if_pos c2, if_pos rfl]
      · refine hJ 60 _ _ _ _ ?_
        show J 63 _ [] (mm_put μ 5 7 (μ.1 5 7 ||| ((1 : Int32) <<< (nI j &&& 31))))
        rw [y7, ar_shl j (by omega), ar_or]
        refine fin _ (fr_put (fr_rf _ _) (by simp)) (fun r hr => mp_ne _ _ _ hr) (fun k h1 h2 => by rw [mp_eq, up_ne _ _ h1]) ?_ ?_
        · rw [mp_eq, up_eq, tB_up, if_neg c2, if_pos rfl]
        · rw [mp_eq, up_ne _ _ (by omega), tB_up, if_neg c2, if_neg (by omega)]; exact y8
    · rw [y6, show (8 : Int32) = nI 8 from rfl, nI_ltI (by omega) (by omega)] at c
      have e : F_trial (L, pg, D, S, d, f, im) a b = (-104, (L, pg, D, S, d, f, im)) := by simp only [F_trial]; rw [if_pos p1, if_pos (by omega)]
      rw [e] at h
      refine hJ 60 _ _ _ _ ?_
      exact h μ (fr_rf _ _) hR0
  · have e : F_trial (L, pg, D, S, d, f, im) a b = (-101, (L, pg, D, S, d, f, im)) := by simp only [F_trial]; rw [if_neg p0]
    rw [e] at h
    refine And.intro (fun c => absurd rfl c) (fun _ => ?_)
    refine hJ 60 _ _ _ _ ?_
    exact h μ (fr_rf _ _) hR0
set_option maxRecDepth 20000 in
set_option maxHeartbeats 2000000 in
theorem r_xforget {Q : mm_R} {μ : mm_M} {st : st_T} (hR : RX st μ) (h : ∀ μ', fr XA μ μ' → RX (F_forget st).2 μ' → Q (some (.int (F_forget st).1)) μ') : mm_Runs m_X4_forget Q 0 [.ref 0, .null] [] μ := by
  obtain ⟨L, pg, D, S, d, f, im⟩ := st
  obtain ⟨x1, x2, x3, x4, x5, x6, x7⟩ := hR
  obtain ⟨y, y5, y6, y7, y8⟩ := x6
  intro J hJ hF
  refine hJ 60 _ _ _ _ ?_
  refine r_dropTrials5 ?_
  show Q (some (.int (μ.1 5 6))) (mm_put (mm_put (mm_put μ 5 6 0) 5 7 0) 5 8 0)
  rw [y6]
  refine h _ (fr_put (fr_put (fr_put (fr_rf _ _) (by simp)) (by simp)) (by simp)) ⟨x1, x2, x3, x4, x5, ⟨y, y5, rfl, rfl, rfl⟩, ?_⟩
  cases im with
  | none => exact x7
  | some g => exact x7
