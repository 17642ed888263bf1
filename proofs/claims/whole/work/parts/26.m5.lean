/-! the reference: copies, draws, days, image, count -/
set_option maxRecDepth 20000 in
set_option maxHeartbeats 2000000 in
theorem r_copy25_28 {Q : mm_R} {μ : mm_M} (h : ∀ μ', fr [28] μ μ' → (∀ j, j < 18 → μ'.1 28 j = μ.1 25 j) → Q none μ') : mm_Runs m_X5_copy Q 0 [.ref 25, .ref 28, .null] [] μ := by
  intro J hJ hF
  have lp : ∀ k i μ', k + i = 18 → fr [28] μ μ' → (∀ j, j < i → μ'.1 28 j = μ.1 25 j) → J 2 [.ref 25, .ref 28, .int (nI i)] [] μ' := by
    intro k
    induction k with
    | zero =>
      intro i μ' hk f1 f2
      have e : i = 18 := by omega
      subst e
      refine hJ 60 _ _ _ _ ?_
      refine And.intro (fun _ => ?_) (fun c => absurd (show Int32.ofNat 18 ≤ nI 18 by decide) c)
      refine hJ 60 _ _ _ _ ?_
      exact h μ' f1 f2
    | succ k ih =>
      intro i μ' hk f1 f2
      refine hJ 60 _ _ _ _ ?_
      refine And.intro (fun c => by rw [show Int32.ofNat 18 = nI 18 from rfl, nI_leI (by omega) (by omega)] at c; omega) (fun _ => ?_)
      refine hJ 60 _ _ _ _ ?_
      refine And.intro (ar_in (by omega) (by omega)) ?_
      refine And.intro (ar_in (by omega) (by omega)) ?_
      show J 2 [_, _, .int (nI i + 1)] [] (mm_put μ' 28 (nI i).toNatClampNeg (μ'.1 25 (nI i).toNatClampNeg))
      rw [nI_1, ar_cl (by omega), f1.1 25 (by decide)]
      refine ih (i + 1) _ (by omega) (fr_put f1 (by simp)) (fun j hj => ?_)
      rw [mp_eq]
      by_cases e : j = i
      · subst e; rw [up_eq]
      · rw [up_ne _ _ e]; exact f2 j (by omega)
  refine hJ 2 _ _ _ _ ?_
  exact lp 18 0 μ (by omega) (fr_rf _ _) (fun j hj => absurd hj (Nat.not_lt_zero _))
set_option maxRecDepth 20000 in
set_option maxHeartbeats 2000000 in
theorem r_copy28_25 {Q : mm_R} {μ : mm_M} (h : ∀ μ', fr [25] μ μ' → (∀ j, j < 18 → μ'.1 25 j = μ.1 28 j) → Q none μ') : mm_Runs m_X5_copy Q 0 [.ref 28, .ref 25, .null] [] μ := by
  intro J hJ hF
  have lp : ∀ k i μ', k + i = 18 → fr [25] μ μ' → (∀ j, j < i → μ'.1 25 j = μ.1 28 j) → J 2 [.ref 28, .ref 25, .int (nI i)] [] μ' := by
    intro k
    induction k with
    | zero =>
      intro i μ' hk f1 f2
      have e : i = 18 := by omega
      subst e
      refine hJ 60 _ _ _ _ ?_
      refine And.intro (fun _ => ?_) (fun c => absurd (show Int32.ofNat 18 ≤ nI 18 by decide) c)
      refine hJ 60 _ _ _ _ ?_
      exact h μ' f1 f2
    | succ k ih =>
      intro i μ' hk f1 f2
      refine hJ 60 _ _ _ _ ?_
      refine And.intro (fun c => by rw [show Int32.ofNat 18 = nI 18 from rfl, nI_leI (by omega) (by omega)] at c; omega) (fun _ => ?_)
      refine hJ 60 _ _ _ _ ?_
      refine And.intro (ar_in (by omega) (by omega)) ?_
      refine And.intro (ar_in (by omega) (by omega)) ?_
      show J 2 [_, _, .int (nI i + 1)] [] (mm_put μ' 25 (nI i).toNatClampNeg (μ'.1 28 (nI i).toNatClampNeg))
      rw [nI_1, ar_cl (by omega), f1.1 28 (by decide)]
      refine ih (i + 1) _ (by omega) (fr_put f1 (by simp)) (fun j hj => ?_)
      rw [mp_eq]
      by_cases e : j = i
      · subst e; rw [up_eq]
      · rw [up_ne _ _ e]; exact f2 j (by omega)
  refine hJ 2 _ _ _ _ ?_
  exact lp 18 0 μ (by omega) (fr_rf _ _) (fun j hj => absurd hj (Nat.not_lt_zero _))
set_option maxRecDepth 20000 in
set_option maxHeartbeats 2000000 in
theorem r_copy25_29 {Q : mm_R} {μ : mm_M} (h : ∀ μ', fr [29] μ μ' → (∀ j, j < 18 → μ'.1 29 j = μ.1 25 j) → Q none μ') : mm_Runs m_X5_copy Q 0 [.ref 25, .ref 29, .null] [] μ := by
  intro J hJ hF
  have lp : ∀ k i μ', k + i = 18 → fr [29] μ μ' → (∀ j, j < i → μ'.1 29 j = μ.1 25 j) → J 2 [.ref 25, .ref 29, .int (nI i)] [] μ' := by
    intro k
    induction k with
    | zero =>
      intro i μ' hk f1 f2
      have e : i = 18 := by omega
      subst e
      refine hJ 60 _ _ _ _ ?_
      refine And.intro (fun _ => ?_) (fun c => absurd (show Int32.ofNat 18 ≤ nI 18 by decide) c)
      refine hJ 60 _ _ _ _ ?_
      exact h μ' f1 f2
    | succ k ih =>
      intro i μ' hk f1 f2
      refine hJ 60 _ _ _ _ ?_
      refine And.intro (fun c => by rw [show Int32.ofNat 18 = nI 18 from rfl, nI_leI (by omega) (by omega)] at c; omega) (fun _ => ?_)
      refine hJ 60 _ _ _ _ ?_
      refine And.intro (ar_in (by omega) (by omega)) ?_
      refine And.intro (ar_in (by omega) (by omega)) ?_
      show J 2 [_, _, .int (nI i + 1)] [] (mm_put μ' 29 (nI i).toNatClampNeg (μ'.1 25 (nI i).toNatClampNeg))
      rw [nI_1, ar_cl (by omega), f1.1 25 (by decide)]
      refine ih (i + 1) _ (by omega) (fr_put f1 (by simp)) (fun j hj => ?_)
      rw [mp_eq]
      by_cases e : j = i
      · subst e; rw [up_eq]
      · rw [up_ne _ _ e]; exact f2 j (by omega)
  refine hJ 2 _ _ _ _ ?_
  exact lp 18 0 μ (by omega) (fr_rf _ _) (fun j hj => absurd hj (Nat.not_lt_zero _))
set_option maxRecDepth 20000 in
set_option maxHeartbeats 2000000 in
theorem r_copy29_25 {Q : mm_R} {μ : mm_M} (h : ∀ μ', fr [25] μ μ' → (∀ j, j < 18 → μ'.1 25 j = μ.1 29 j) → Q none μ') : mm_Runs m_X5_copy Q 0 [.ref 29, .ref 25, .null] [] μ := by
  intro J hJ hF
  have lp : ∀ k i μ', k + i = 18 → fr [25] μ μ' → (∀ j, j < i → μ'.1 25 j = μ.1 29 j) → J 2 [.ref 29, .ref 25, .int (nI i)] [] μ' := by
    intro k
    induction k with
    | zero =>
      intro i μ' hk f1 f2
      have e : i = 18 := by omega
      subst e
      refine hJ 60 _ _ _ _ ?_
      refine And.intro (fun _ => ?_) (fun c => absurd (show Int32.ofNat 18 ≤ nI 18 by decide) c)
      refine hJ 60 _ _ _ _ ?_
      exact h μ' f1 f2
    | succ k ih =>
      intro i μ' hk f1 f2
      refine hJ 60 _ _ _ _ ?_
      refine And.intro (fun c => by rw [show Int32.ofNat 18 = nI 18 from rfl, nI_leI (by omega) (by omega)] at c; omega) (fun _ => ?_)
      refine hJ 60 _ _ _ _ ?_
      refine And.intro (ar_in (by omega) (by omega)) ?_
      refine And.intro (ar_in (by omega) (by omega)) ?_
      show J 2 [_, _, .int (nI i + 1)] [] (mm_put μ' 25 (nI i).toNatClampNeg (μ'.1 29 (nI i).toNatClampNeg))
      rw [nI_1, ar_cl (by omega), f1.1 29 (by decide)]
      refine ih (i + 1) _ (by omega) (fr_put f1 (by simp)) (fun j hj => ?_)
      rw [mp_eq]
      by_cases e : j = i
      · subst e; rw [up_eq]
      · rw [up_ne _ _ e]; exact f2 j (by omega)
  refine hJ 2 _ _ _ _ ?_
  exact lp 18 0 μ (by omega) (fr_rf _ _) (fun j hj => absurd hj (Nat.not_lt_zero _))
set_option maxRecDepth 20000 in
set_option maxHeartbeats 2000000 in
theorem r_copy27_30 {Q : mm_R} {μ : mm_M} (h : ∀ μ', fr [30] μ μ' → (∀ j, j < 16 → μ'.1 30 j = μ.1 27 j) → Q none μ') : mm_Runs m_X5_copy Q 0 [.ref 27, .ref 30, .null] [] μ := by
  intro J hJ hF
  have lp : ∀ k i μ', k + i = 16 → fr [30] μ μ' → (∀ j, j < i → μ'.1 30 j = μ.1 27 j) → J 2 [.ref 27, .ref 30, .int (nI i)] [] μ' := by
    intro k
    induction k with
    | zero =>
      intro i μ' hk f1 f2
      have e : i = 16 := by omega
      subst e
      refine hJ 60 _ _ _ _ ?_
      refine And.intro (fun _ => ?_) (fun c => absurd (show Int32.ofNat 16 ≤ nI 16 by decide) c)
      refine hJ 60 _ _ _ _ ?_
      exact h μ' f1 f2
    | succ k ih =>
      intro i μ' hk f1 f2
      refine hJ 60 _ _ _ _ ?_
      refine And.intro (fun c => by rw [show Int32.ofNat 16 = nI 16 from rfl, nI_leI (by omega) (by omega)] at c; omega) (fun _ => ?_)
      refine hJ 60 _ _ _ _ ?_
      refine And.intro (ar_in (by omega) (by omega)) ?_
      refine And.intro (ar_in (by omega) (by omega)) ?_
      show J 2 [_, _, .int (nI i + 1)] [] (mm_put μ' 30 (nI i).toNatClampNeg (μ'.1 27 (nI i).toNatClampNeg))
      rw [nI_1, ar_cl (by omega), f1.1 27 (by decide)]
      refine ih (i + 1) _ (by omega) (fr_put f1 (by simp)) (fun j hj => ?_)
      rw [mp_eq]
      by_cases e : j = i
      · subst e; rw [up_eq]
      · rw [up_ne _ _ e]; exact f2 j (by omega)
  refine hJ 2 _ _ _ _ ?_
  exact lp 16 0 μ (by omega) (fr_rf _ _) (fun j hj => absurd hj (Nat.not_lt_zero _))
set_option maxRecDepth 20000 in
set_option maxHeartbeats 2000000 in
theorem r_copy30_27 {Q : mm_R} {μ : mm_M} (h : ∀ μ', fr [27] μ μ' → (∀ j, j < 16 → μ'.1 27 j = μ.1 30 j) → Q none μ') : mm_Runs m_X5_copy Q 0 [.ref 30, .ref 27, .null] [] μ := by
  intro J hJ hF
  have lp : ∀ k i μ', k + i = 16 → fr [27] μ μ' → (∀ j, j < i → μ'.1 27 j = μ.1 30 j) → J 2 [.ref 30, .ref 27, .int (nI i)] [] μ' := by
    intro k
    induction k with
    | zero =>
      intro i μ' hk f1 f2
      have e : i = 16 := by omega
      subst e
      refine hJ 60 _ _ _ _ ?_
      refine And.intro (fun _ => ?_) (fun c => absurd (show Int32.ofNat 16 ≤ nI 16 by decide) c)
      refine hJ 60 _ _ _ _ ?_
      exact h μ' f1 f2
    | succ k ih =>
      intro i μ' hk f1 f2
      refine hJ 60 _ _ _ _ ?_
      refine And.intro (fun c => by rw [show Int32.ofNat 16 = nI 16 from rfl, nI_leI (by omega) (by omega)] at c; omega) (fun _ => ?_)
      refine hJ 60 _ _ _ _ ?_
      refine And.intro (ar_in (by omega) (by omega)) ?_
      refine And.intro (ar_in (by omega) (by omega)) ?_
      show J 2 [_, _, .int (nI i + 1)] [] (mm_put μ' 27 (nI i).toNatClampNeg (μ'.1 30 (nI i).toNatClampNeg))
      rw [nI_1, ar_cl (by omega), f1.1 30 (by decide)]
      refine ih (i + 1) _ (by omega) (fr_put f1 (by simp)) (fun j hj => ?_)
      rw [mp_eq]
      by_cases e : j = i
      · subst e; rw [up_eq]
      · rw [up_ne _ _ e]; exact f2 j (by omega)
  refine hJ 2 _ _ _ _ ?_
  exact lp 16 0 μ (by omega) (fr_rf _ _) (fun j hj => absurd hj (Nat.not_lt_zero _))
theorem ar_landL (a b : Nat) : lN a &&& lN b = lN (a &&& b) := by
  apply Int64.toBitVec_inj.1
  show BitVec.ofNat 64 a &&& BitVec.ofNat 64 b = BitVec.ofNat 64 (a &&& b)
  apply BitVec.eq_of_getLsbD_eq
  intro i hi
  simp [hi]
set_option maxRecDepth 20000 in
set_option maxHeartbeats 2000000 in
theorem r_draw {Q : mm_R} {μ : mm_M} {sd m : Nat} {mv : Int32} (hs : μ.1 21 14 = nI sd) (hsd : sd < 2147483648) (hm : 0 < m) (hm2 : m ≤ 10) (hmv : mv = nI m) (h : Q (some (.int (nI (nxS sd / 65536 % m)))) (mm_put μ 21 14 (nI (nxS sd)))) : mm_Runs m_X5_draw Q 0 [.ref 21, .int mv] [] μ := by
  subst hmv
  have hlt := nxS_lt sd
  have e1 : ((1103515245 : Int64) * (μ.1 21 14).toInt64 + 12345 &&& 2147483647).toInt32 = nI (nxS sd) := by
    rw [hs, nI_l (by omega), show (1103515245 : Int64) = lN 1103515245 from rfl, lN_mul, show (12345 : Int64) = lN 12345 from rfl, lN_add, show (2147483647 : Int64) = lN (2 ^ 31 - 1) from rfl, ar_landL, Nat.and_two_pow_sub_one_eq_mod, lN_i]
    rfl
  intro J hJ hF
  refine hJ 60 _ _ _ _ ?_
  refine And.intro (by decide) ?_
  rw [e1]
  refine And.intro (fun z => ?_) ?_
  · rw [show (0 : Int32) = nI 0 from rfl, nI_eq (by omega) (by omega)] at z; omega
  show Q (some (.int (nI (nxS sd) / 65536 - nI (nxS sd) / 65536 / nI m * nI m))) (mm_put μ 21 14 (nI (nxS sd)))
  rw [show (65536 : Int32) = nI 65536 from rfl, pk_div (by omega) (by omega) (by omega), pk_rem (by omega) (by omega) (by omega)]
  exact h
set_option maxRecDepth 20000 in
set_option maxHeartbeats 2000000 in
theorem r_knownAll {Q : mm_R} {μ : mm_M} {s : sc_T} (hs : sOK s) (hX : MR s μ) (h : Q (some (.int (nI (kAll s)))) μ) : mm_Runs m_X5_knownAll Q 0 [.ref 21, .null, .null] [] μ := by
  have h6 := hs.1
  intro J hJ hF
  have ep := hX.1
  have lp : ∀ k i, k + i = s.1 → J 4 [.ref 21, .int (nI (sm (fun q => pcs (s.2.2.2.1 q) 10) i)), .int (nI i)] [] μ := by
    intro k
    induction k with
    | zero =>
      intro i hk
      have e : i = s.1 := by omega
      subst e
      refine hJ 60 _ _ _ _ ?_
      refine And.intro (fun _ => ?_) (fun c => by rw [ep, nI_leI (by omega) (by omega)] at c; omega)
      refine hJ 60 _ _ _ _ ?_
      exact h
    | succ k ih =>
      intro i hk
      obtain ⟨-, -, d1⟩ := hs.2.1 i (by omega)
      refine hJ 60 _ _ _ _ ?_
      refine And.intro (fun c => by rw [ep, nI_leI (by omega) (by omega)] at c; omega) (fun _ => ?_)
      refine hJ 60 _ _ _ _ ?_
      refine And.intro (by rw [ar_32]; exact ar_in (by omega) (by omega)) ?_
      refine r_ones (s.2.2.2.1 i) (by rw [ar_32, ar_cl (by omega)]; exact (hX.2 i (by omega)).2.2) (by omega) ?_
      show J 4 [_, .int (nI (sm (fun q => pcs (s.2.2.2.1 q) 10) i) + nI (pcs (s.2.2.2.1 i) 10)), .int (nI i + 1)] [] μ
      rw [nI_1, nI_add]
      exact ih (i + 1) (by omega)
  refine hJ 4 _ _ _ _ ?_
  exact lp s.1 0 (by omega)
/-- what days may change -/
def gD (μ μ' : mm_M) : Prop := (∀ k, k ≠ 14 → μ'.1 21 k = μ.1 21 k) ∧ (∀ r, r ≠ 21 → r ≠ 25 → r ≠ 26 → r ≠ 28 → μ'.1 r = μ.1 r) ∧ ∀ r, r ∉ MA → μ'.2 r = μ.2 r
theorem gD_tr {a b c : mm_M} (h1 : gD a b) (h2 : gD b c) : gD a c := ⟨fun k hk => (h2.1 k hk).trans (h1.1 k hk), fun r a1 a2 a3 a4 => (h2.2.1 r a1 a2 a3 a4).trans (h1.2.1 r a1 a2 a3 a4), fun r hr => (h2.2.2 r hr).trans (h1.2.2 r hr)⟩
theorem gD_fr {a b : mm_M} {rs : List Nat} (h : fr rs a b) (hs : ∀ r, r ∈ rs → r = 25 ∨ r = 26 ∨ r = 28) : gD a b := by
  refine ⟨fun k _ => by rw [h.1 21 (fun z => by have := hs 21 z; omega)], fun r h1 h2 h3 h4 => h.1 r (fun z => by have := hs r z; omega), fun r hr => h.2 r (fun z => hr ?_)⟩
  rcases hs r z with e | e | e <;> (rw [e]; decide)
theorem gD_25 {a b : mm_M} {k : Nat} {v : Int32} (h : gD a b) : gD a (mm_put b 25 k v) := gD_tr h (gD_fr (rs := [25]) (fr_put (fr_rf _ _) (by simp)) (fun r hr => by simp at hr; omega))
theorem gD_14 {a b : mm_M} {v : Int32} (h : gD a b) : gD a (mm_put b 21 14 v) := gD_tr h ⟨fun k hk => by rw [mp_eq, up_ne _ _ hk], fun r h1 _ _ _ => mp_ne _ _ _ h1, fun r _ => rfl⟩
theorem gD_MA {a b : mm_M} (h : gD a b) : fr MA a b := ⟨fun r hr => h.2.1 r (fun z => hr (by rw [z]; decide)) (fun z => hr (by rw [z]; decide)) (fun z => hr (by rw [z]; decide)) (fun z => hr (by rw [z]; decide)), h.2.2⟩
set_option maxRecDepth 20000 in
set_option maxHeartbeats 2000000 in
theorem r_mdays {Q : mm_R} {μ : mm_M} {st : st_T} {ti sd w : Int32} (hA : AOK st) (hR : RM st μ) (h : ∀ μ', fr MA μ μ' → RM st μ' → Q (some (.int (A_days st ti sd w))) μ') : mm_Runs m_X5_days Q 0 [.ref 21, .int ti, .int sd, .int w, .null, .null, .null, .null, .null] [] μ := by
  obtain ⟨L, pg, D, S, d, f, im⟩ := st
  have hR0 := hR
  obtain ⟨hL, hDl, hS, hd, hf, hD0, him⟩ := hA
  obtain ⟨x1, x2, x3, x4, x5, x6, x7, x8⟩ := hR
  have h6 := hf.1.1
  have y0 := x7.1.1
  have ew := p64 (n := 3) (a := w) (c := 2) (by omega) rfl
  intro J hJ hF
  have no : ¬ ((1 ≤ ti ∧ ti ≤ 60) ∧ 0 ≤ sd ∧ pIs 3 w) → J 28 [.ref 21, .int ti, .int sd, .int w, .null, .null, .null, .null, .null] [] μ := by
    intro z
    have e : A_days (L, pg, D, S, d, f, im) ti sd w = -102 := by simp only [A_days]; rw [if_neg z]
    rw [e] at h
    refine hJ 60 _ _ _ _ ?_
    exact h μ (fr_rf _ _) hR0
  refine hJ 60 _ _ _ _ ?_
  refine r_in (fun t1 => ?_) (fun t0 => ?_)
  · have ht : 1 ≤ ti ∧ ti ≤ 60 := (i64 (lo := 1) (hi := 60)).mp t1
    refine And.intro (fun c => absurd c (by decide)) (fun _ => ?_)
    refine hJ 60 _ _ _ _ ?_
    refine And.intro (fun c3 => no (fun z => by have := z.2.1; rw [ar_le] at this; rw [ar_lt] at c3; omega)) (fun c3 => ?_)
    have hsd : 0 ≤ sd := by rw [ar_le]; rw [ar_lt] at c3; omega
    refine hJ 60 _ _ _ _ ?_
    refine r_in (fun w1 => ?_) (fun w0 => ?_)
    · have hw : pIs 3 w := ew.mpr w1
      refine And.intro (fun _ => ?_) (fun c => absurd c (by decide))
      obtain ⟨tn, ht1, ht2⟩ := nI_of2 (x := ti) (M := 60) (n := 60) rfl (by rw [ar_lt]; have := ht.1; rw [ar_le] at this; have e : (1 : Int32).toInt = 1 := rfl; have e0 : (0 : Int32).toInt = 0 := rfl; omega) ht.2
      obtain ⟨sn, hs1, hs2⟩ := nI_of (x := sd) c3
      refine hJ 60 _ _ _ _ ?_
      refine And.intro (fun c6 => ?_) (fun c6 => ?_)
      · rw [y0, show (0 : Int32) = nI 0 from rfl, nI_eq (by omega) (by omega)] at c6
        have e : A_days (L, pg, D, S, d, f, im) ti sd w = if w = 0 then nI (dayN d (f.1, sd.toNatClampNeg, 0) ti.toNatClampNeg).2.2 else if w = 1 then nI (kAll (dayN d (f.1, sd.toNatClampNeg, 0) ti.toNatClampNeg).1) else nI (dayN d (f.1, sd.toNatClampNeg, 0) ti.toNatClampNeg).2.1 := by simp only [A_days]; rw [if_pos ⟨ht, hsd, hw⟩, if_neg c6]
        rw [e] at h
        subst ht2; subst hs2
        rw [ar_cl (by omega), ar_cl (by omega)] at h
        have hok := fun k => dayN_ok (d := d) (x := (f.1, sn, 0)) hf.1 (by show sn < 2147483648; omega) k
        refine hJ 12 _ _ _ _ ?_
        refine r_copy25_28 (fun μ1 f1 m1 => ?_)
        have lp : ∀ k i μ', k + i = tn → gD μ μ' → (∀ j, j < 18 → μ'.1 28 j = μ.1 25 j) → MR (dayN d (f.1, sn, 0) i).1 μ' → μ'.1 21 14 = nI (dayN d (f.1, sn, 0) i).2.1 → J 63 [.ref 21, .int (nI tn), .int (nI sn), .int w, .int (nI (dayN d (f.1, sn, 0) i).2.2), .int (nI i), .null, .null, .null] [] μ' := by
          intro k
          induction k with
          | zero =>
            intro i μ' hk f2 s2 g2 l2
            have e : i = tn := by omega
            subst e
            refine hJ 60 _ _ _ _ ?_
            refine And.intro (fun _ => ?_) (fun c => absurd (nI_le (by omega) (by omega)) c)
            refine hJ 60 _ _ _ _ ?_
            refine r_knownAll (hok i).1 g2 ?_
            refine r_copy28_25 (fun μ2 f3 m3 => ?_)
            have f4 : gD μ μ2 := gD_tr f2 (gD_fr f3 (fun r hr => by simp at hr; omega))
            have hRM : RM (L, pg, D, S, d, f, im) μ2 := RM_g hR0 f4.1 (fun r h1 h2 h3 h4 => f4.2.1 r (by omega) h2 h3 h4) (fun q hq => by
              rw [m3 _ (by omega), m3 _ (by omega), m3 _ (by omega), s2 _ (by omega), s2 _ (by omega), s2 _ (by omega)]
              exact x7.1.2.1 q hq)
            have l3 : μ2.1 21 14 = nI (dayN d (f.1, sn, 0) i).2.1 := by rw [f3.1 21 (by decide)]; exact l2
            have hQ := h μ2 (gD_MA f4) hRM
            clear h
            refine And.intro (fun w0 => ?_) (fun w0 => ?_)
            · rw [if_neg w0] at hQ
              refine hJ 60 _ _ _ _ ?_
              refine And.intro (fun w1 => ?_) (fun w1 => ?_)
              · rw [if_neg w1] at hQ
                refine hJ 60 _ _ _ _ ?_
                show Q (some (.int (μ2.1 21 14))) μ2
                rw [l3]
                exact hQ
              · rw [if_pos w1] at hQ
                refine hJ 60 _ _ _ _ ?_
                refine hJ 60 _ _ _ _ ?_
                exact hQ
            · rw [if_pos w0] at hQ
              refine hJ 60 _ _ _ _ ?_
              refine hJ 60 _ _ _ _ ?_
              exact hQ
          | succ k ih =>
            intro i μ' hk f2 s2 g2 l2
            obtain ⟨o1, o2, o3⟩ := hok i
            obtain ⟨e1, e2, e3⟩ := dayN_s (d := d) (x := (f.1, sn, 0)) (k := i)
            have ihn := ih (i + 1)
            rw [e1, e2, e3] at ihn
            generalize hx : (dayN d (f.1, sn, 0) i).1 = s at o1 o2 g2 ihn
            generalize hy : (dayN d (f.1, sn, 0) i).2.1 = sq at o3 l2 ihn
            generalize hz : (dayN d (f.1, sn, 0) i).2.2 = lq at ihn ⊢
            have hn : 0 < s.1 := by rw [o2]; show 0 < f.1.1; omega
            have h66 : s.1 ≤ 6 := o1.1
            have w1 : nxS sq / 65536 % s.1 < s.1 := Nat.mod_lt _ hn
            have w2 : nxS (nxS sq) / 65536 % 8 < 8 := Nat.mod_lt _ (by omega)
            have w3 : nxS (nxS (nxS sq)) / 65536 % s.1 < s.1 := Nat.mod_lt _ hn
            have w4 : nxS (nxS (nxS (nxS sq))) / 65536 % 10 < 10 := Nat.mod_lt _ (by omega)
            have n1 := nxS_lt sq
            have n2 := nxS_lt (nxS sq)
            have n3 := nxS_lt (nxS (nxS sq))
            have n4 := nxS_lt (nxS (nxS (nxS sq)))
            refine hJ 60 _ _ _ _ ?_
            refine And.intro (fun c => by rw [nI_leI (by omega) (by omega)] at c; omega) (fun _ => ?_)
            refine hJ 60 _ _ _ _ ?_
            refine r_draw (m := s.1) l2 o3 hn (by omega) g2.1 ?_
            refine r_draw (m := 8) (sd := nxS sq) rfl n1 (by omega) (by omega) rfl ?_
            refine And.intro (by rw [ar_31]; exact ar_in (by omega) (by omega)) ?_
            rw [ar_31, ar_cl (by omega)]
            refine r_draw (m := s.1) (sd := nxS (nxS sq)) rfl n2 hn (by omega) g2.1 ?_
            refine r_draw (m := 10) (sd := nxS (nxS (nxS sq))) rfl n3 (by omega) (by omega) rfl ?_
            have g3 : MR (sMv s (nxS sq / 65536 % s.1) (nxS (nxS sq) / 65536 % 8)) (mm_put (mm_put (mm_put (mm_put (mm_put μ' 21 14 (nI (nxS sq))) 21 14 (nI (nxS (nxS sq)))) 25 (3 * (nxS sq / 65536 % s.1) + 1) (nI (nxS (nxS sq) / 65536 % 8))) 21 14 (nI (nxS (nxS (nxS sq))))) 21 14 (nI (nxS (nxS (nxS (nxS sq)))))) := MR_mv g2 rfl (by rw [mp_ne _ _ _ (show (25 : Nat) ≠ 21 by decide), mp_ne _ _ _ (show (25 : Nat) ≠ 21 by decide), mp_eq, mp_ne _ _ _ (show (25 : Nat) ≠ 21 by decide), mp_ne _ _ _ (show (25 : Nat) ≠ 21 by decide)])
            have f3 : gD μ (mm_put (mm_put (mm_put (mm_put (mm_put μ' 21 14 (nI (nxS sq))) 21 14 (nI (nxS (nxS sq)))) 25 (3 * (nxS sq / 65536 % s.1) + 1) (nI (nxS (nxS sq) / 65536 % 8))) 21 14 (nI (nxS (nxS (nxS sq))))) 21 14 (nI (nxS (nxS (nxS (nxS sq)))))) := gD_14 (gD_14 (gD_25 (gD_14 (gD_14 f2))))
            have s3 : ∀ j, j < 18 → (mm_put (mm_put (mm_put (mm_put (mm_put μ' 21 14 (nI (nxS sq))) 21 14 (nI (nxS (nxS sq)))) 25 (3 * (nxS sq / 65536 % s.1) + 1) (nI (nxS (nxS sq) / 65536 % 8))) 21 14 (nI (nxS (nxS (nxS sq))))) 21 14 (nI (nxS (nxS (nxS (nxS sq)))))).1 28 j = μ.1 25 j := s2
            have l3 : (mm_put (mm_put (mm_put (mm_put (mm_put μ' 21 14 (nI (nxS sq))) 21 14 (nI (nxS (nxS sq)))) 25 (3 * (nxS sq / 65536 % s.1) + 1) (nI (nxS (nxS sq) / 65536 % 8))) 21 14 (nI (nxS (nxS (nxS sq))))) 21 14 (nI (nxS (nxS (nxS (nxS sq)))))).1 21 14 = nI (nxS (nxS (nxS (nxS sq)))) := rfl
            generalize mm_put (mm_put (mm_put (mm_put (mm_put μ' 21 14 (nI (nxS sq))) 21 14 (nI (nxS (nxS sq)))) 25 (3 * (nxS sq / 65536 % s.1) + 1) (nI (nxS (nxS sq) / 65536 % 8))) 21 14 (nI (nxS (nxS (nxS sq))))) 21 14 (nI (nxS (nxS (nxS (nxS sq))))) = μ3 at g3 f3 s3 l3 ⊢
            have kk := (o1.2.1 _ w3).1
            have ek : μ3.1 25 ((3 : Int32) * nI (nxS (nxS (nxS sq)) / 65536 % s.1)).toNatClampNeg = nI (s.2.1 (nxS (nxS (nxS sq)) / 65536 % s.1)) := by rw [ar_3, ar_cl (by omega)]; exact (g3.2 _ w3).1
            refine And.intro (by rw [ar_3]; exact ar_in (by omega) (by omega)) ?_
            rw [ek]
            unfold day1 at ihn
            simp only at ihn
            have st : ∀ x μ4, gD μ μ4 → (∀ j, j < 18 → μ4.1 28 j = μ.1 25 j) → J 63 [.ref 21, .int (nI tn), .int (nI sn), .int w, .int (nI (lq + x)), .int (nI (i + 1)), .null, .null, .null] [] μ4 → J 141 [.ref 21, .int (nI tn), .int (nI sn), .int w, .int (nI lq), .int (nI i), .int (nI (nxS sq / 65536 % s.1)), .int (nI (nxS (nxS (nxS sq)) / 65536 % s.1)), .int (nI (nxS (nxS (nxS (nxS sq))) / 65536 % 10))] [.int (nI x), .int (nI lq)] μ4 := by
              intro x μ4 z1 z2 z3
              refine hJ 60 _ _ _ _ ?_
              refine hF [6, 7, 8] _ _ _ _ ?_
              show J 63 [_, _, _, _, .int (nI lq + nI x), .int (nI i + 1), .null, .null, .null] [] μ4
              rw [nI_add, nI_1]
              exact z3
            refine And.intro (fun c => ?_) (fun c => ?_)
            · rw [show (3 : Int32) = nI 3 from rfl, nI_eq (by omega) (by omega)] at c
              rw [if_neg c] at ihn
              refine hJ 4 _ _ _ _ ?_
              have hms : MS (sMv s (nxS sq / 65536 % s.1) (nxS (nxS sq) / 65536 % 8)) μ3 := by
                refine ⟨g3.1, g3.2, ?_⟩
                rw [f3.1 3 (by omega), x7.1.2.2]
                have : s.2.2.2.2 = f.1.2.2.2.2 := by
                  rw [← hx]
                  have : ∀ k, (dayN d (f.1, sn, 0) k).1.2.2.2.2 = f.1.2.2.2.2 := by
                    intro k
                    induction k with
                    | zero => rfl
                    | succ k ihk =>
                      rw [← ihk]
                      show (day1 d (dayN d (f.1, sn, 0) k)).1.2.2.2.2 = _
                      unfold day1
                      split <;> rfl
                  exact this i
                show _ = nI s.2.2.2.2
                rw [this]
              refine r_says (d := d) (s := sMv s (nxS sq / 65536 % s.1) (nxS (nxS sq) / 65536 % 8)) hd (sMv_ok o1 w2) (MD_fr x6 (f3.2.1 23 (by omega) (by omega) (by omega) (by omega)) (f3.2.1 24 (by omega) (by omega) (by omega) (by omega))) hms w3 rfl w4 rfl (fun μ4 f4 g4 => ?_)
              have f5 : gD μ μ4 := gD_tr f3 (gD_fr f4 (fun r hr => by simp at hr; omega))
              have s4 : ∀ j, j < 18 → μ4.1 28 j = μ.1 25 j := fun j hj => by rw [f4.1 28 (by decide)]; exact s3 j hj
              refine st _ μ4 f5 s4 ?_
              simp only [Nat.zero_add] at ihn
              exact ihn μ4 (by omega) f5 s4 g4 (by rw [f4.1 21 (by decide)]; exact l3)
            · rw [show (3 : Int32) = nI 3 from rfl, nI_eq (by omega) (by omega)] at c
              rw [if_pos c] at ihn
              refine hJ 60 _ _ _ _ ?_
              refine st 0 μ3 f3 s3 ?_
              exact ihn μ3 (by omega) f3 s3 g3 l3
        refine lp tn 0 _ (by omega) (gD_14 (gD_fr f1 (fun r hr => by simp at hr; omega))) m1 ?_ rfl
        show MR f.1 _
        exact ⟨by show μ1.1 21 8 = _; rw [f1.1 21 (by decide)]; exact y0, fun q hq => by
          show μ1.1 25 _ = _ ∧ μ1.1 25 _ = _ ∧ μ1.1 25 _ = _
          rw [f1.1 25 (by decide)]; exact x7.1.2.1 q hq⟩
      · rw [y0, show (0 : Int32) = nI 0 from rfl, nI_eq (by omega) (by omega)] at c6
        have e : A_days (L, pg, D, S, d, f, im) ti sd w = -103 := by simp only [A_days]; rw [if_pos ⟨ht, hsd, hw⟩, if_pos c6]
        rw [e] at h
        refine hJ 60 _ _ _ _ ?_
        exact h μ (fr_rf _ _) hR0
    · refine And.intro (fun c => absurd rfl c) (fun _ => ?_)
      exact no (fun z => w0 (ew.mp z.2.2))
  · refine And.intro (fun _ => ?_) (fun c => absurd rfl c)
    exact no (fun z => t0 ((i64 (lo := 1) (hi := 60)).mpr z.1))
set_option maxRecDepth 20000 in
set_option maxHeartbeats 2000000 in
theorem r_mimage {Q : mm_R} {μ : mm_M} {st : st_T} (hA : AOK st) (hR : RM st μ) (h : ∀ μ', fr MA μ μ' → RM (F_image st).2 μ' → Q (some (.int (F_image st).1)) μ') : mm_Runs m_X5_image Q 0 [.ref 21] [] μ := by
  obtain ⟨L, pg, D, S, d, f, im⟩ := st
  have hR0 := hR
  obtain ⟨hL, hDl, hS, hd, hf, hD0, him⟩ := hA
  obtain ⟨x1, x2, x3, x4, x5, x6, x7, x8⟩ := hR
  have tl := thr_le D
  have h6 := hf.1.1
  have t8 := hf.2.1
  intro J hJ hF
  refine hJ 60 _ _ _ _ ?_
  refine And.intro (fun c => ?_) (fun c => ?_)
  · rw [x3, show (0 : Int32) = nI 0 from rfl, nI_eq (by omega) (by omega)] at c
    have e : F_image (L, pg, D, S, d, f, im) = (nI f.1.1, (L, pg, D, S, d, f, some f)) := by simp only [F_image]; rw [if_pos (thr_1.mp (by omega))]
    rw [e] at h
    refine hJ 60 _ _ _ _ ?_
    refine r_copy25_29 (fun μ1 f1 m1 => ?_)
    refine r_copy27_30 (fun μ2 f2 m2 => ?_)
    have f3 : fr [29, 30] μ μ2 := fr_tr (fr_w f1 (by simp)) (fr_w f2 (by simp))
    have e21 : μ2.1 21 = μ.1 21 := f3.1 21 (by decide)
    have k8 : μ2.1 21 8 = nI f.1.1 := by rw [e21]; exact x7.1.1
    have k3 : μ2.1 21 3 = nI f.1.2.2.2.2 := by rw [e21]; exact x7.1.2.2
    have k4 : μ2.1 21 4 = f.2.1 := by rw [e21]; exact x7.2.1
    have k12 : μ2.1 21 12 = nI f.2.2.1 := by rw [e21]; exact x7.2.2.1
    have k5 : μ2.1 21 5 = nI D := by rw [e21]; exact x4
    have k1 : μ2.1 21 1 = nI L := by rw [e21]; exact x1
    have k2 : μ2.1 21 2 = nI (thr D) := by rw [e21]; exact x3
    have k11 : μ2.1 21 11 = nI S := by rw [e21]; exact x5
    show Q (some (.int (μ2.1 21 8))) _
    rw [k8]
    refine h _ (fr_put (fr_put (fr_put (fr_put (fr_put (fr_w f3 (by simp)) (by simp)) (by simp)) (by simp)) (by simp)) (by simp)) ⟨k1, fun j hj => ?_, k2, k5, k11, MD_fr x6 (f3.1 23 (by decide)) (f3.1 24 (by decide)), ⟨⟨k8, fun q hq => ?_, k3⟩, k4, k12, fun i hi => ?_⟩, k5, rfl, k3, k4, k12, fun q hq => ?_, fun i hi => ?_⟩
    · show μ2.1 22 j = _; rw [f3.1 22 (by decide)]; exact x2 j hj
    · show μ2.1 25 _ = _ ∧ μ2.1 25 _ = _ ∧ μ2.1 25 _ = _
      rw [f3.1 25 (by decide)]; exact x7.1.2.1 q hq
    · show μ2.1 27 _ = _ ∧ μ2.1 27 _ = _
      rw [f3.1 27 (by decide)]; exact x7.2.2.2 i hi
    · show μ2.1 29 _ = _ ∧ μ2.1 29 _ = _ ∧ μ2.1 29 _ = _
      rw [f2.1 29 (by decide), m1 _ (by omega), m1 _ (by omega), m1 _ (by omega)]; exact x7.1.2.1 q hq
    · show μ2.1 30 _ = _ ∧ μ2.1 30 _ = _
      rw [m2 _ (by omega), m2 _ (by omega), f1.1 27 (by decide)]; exact x7.2.2.2 i hi
  · rw [x3, show (0 : Int32) = nI 0 from rfl, nI_eq (by omega) (by omega)] at c
    have e : F_image (L, pg, D, S, d, f, im) = (-103, (L, pg, D, S, d, f, im)) := by simp only [F_image]; rw [if_neg (fun z => by have := thr_1.mpr z; omega)]
    rw [e] at h
    refine hJ 60 _ _ _ _ ?_
    exact h μ (fr_rf _ _) hR0
set_option maxRecDepth 20000 in
set_option maxHeartbeats 2000000 in
theorem r_mrestore {Q : mm_R} {μ : mm_M} {st : st_T} (hA : AOK st) (hR : RM st μ) (h : ∀ μ', fr MA μ μ' → RM (F_restore st).2 μ' → Q (some (.int (F_restore st).1)) μ') : mm_Runs m_X5_restore Q 0 [.ref 21] [] μ := by
  obtain ⟨L, pg, D, S, d, f, im⟩ := st
  have hR0 := hR
  obtain ⟨hL, hDl, hS, hd, hf, hD0, him⟩ := hA
  obtain ⟨x1, x2, x3, x4, x5, x6, x7, x8⟩ := hR
  intro J hJ hF
  refine hJ 60 _ _ _ _ ?_
  cases im with
  | none =>
    refine And.intro (fun c => ?_) (fun _ => ?_)
    · exfalso
      rw [x4] at c
      rcases x8 with z | ⟨e, z1, z2⟩
      · rw [z] at c
        rw [ar_eq, nI_toInt (by omega)] at c
        have e : (-1 : Int32).toInt = -1 := rfl
        omega
      · rw [z2, nI_eq (by omega) (by omega)] at c
        omega
    · refine hJ 60 _ _ _ _ ?_
      exact h μ (fr_rf _ _) hR0
  | some g =>
    have hg := him g rfl
    have hg6 := hg.1.1
    have hg8 := hg.2.1
    obtain ⟨z0, z1, z2, z3, z4, z5, z6⟩ := x8
    refine And.intro (fun _ => ?_) (fun c => absurd (by rw [z0, x4]) c)
    refine hJ 60 _ _ _ _ ?_
    refine r_copy29_25 (fun μ1 f1 m1 => ?_)
    refine r_copy30_27 (fun μ2 f2 m2 => ?_)
    have f3 : fr [25, 27] μ μ2 := fr_tr (fr_w f1 (by simp)) (fr_w f2 (by simp))
    have e21 : μ2.1 21 = μ.1 21 := f3.1 21 (by decide)
    have k17 : μ2.1 21 17 = nI g.1.1 := by rw [e21]; exact z1
    have k18 : μ2.1 21 18 = nI g.1.2.2.2.2 := by rw [e21]; exact z2
    have k19 : μ2.1 21 19 = g.2.1 := by rw [e21]; exact z3
    have k20 : μ2.1 21 20 = nI g.2.2.1 := by rw [e21]; exact z4
    have k16 : μ2.1 21 16 = nI D := by rw [e21]; exact z0
    have k5 : μ2.1 21 5 = nI D := by rw [e21]; exact x4
    have k1 : μ2.1 21 1 = nI L := by rw [e21]; exact x1
    have k2 : μ2.1 21 2 = nI (thr D) := by rw [e21]; exact x3
    have k11 : μ2.1 21 11 = nI S := by rw [e21]; exact x5
    show Q (some (.int (μ2.1 21 17))) _
    rw [k17]
    refine h _ (fr_put (fr_put (fr_put (fr_put (fr_w f3 (by simp)) (by simp)) (by simp)) (by simp)) (by simp)) ⟨k1, fun j hj => ?_, k2, k5, k11, MD_fr x6 (f3.1 23 (by decide)) (f3.1 24 (by decide)), ⟨⟨rfl, fun q hq => ?_, k18⟩, k19, k20, fun i hi => ?_⟩, k16, k17, k18, k19, k20, fun q hq => ?_, fun i hi => ?_⟩
    · show μ2.1 22 j = _; rw [f3.1 22 (by decide)]; exact x2 j hj
    · have hq : q < g.1.1 := hq
      show μ2.1 25 _ = _ ∧ μ2.1 25 _ = _ ∧ μ2.1 25 _ = _
      rw [f2.1 25 (by decide), m1 _ (by omega), m1 _ (by omega), m1 _ (by omega)]; exact z5 q hq
    · have hi : i < g.2.2.1 := hi
      show μ2.1 27 _ = _ ∧ μ2.1 27 _ = _
      rw [m2 _ (by omega), m2 _ (by omega), f1.1 30 (by decide)]; exact z6 i hi
    · show μ2.1 29 _ = _ ∧ μ2.1 29 _ = _ ∧ μ2.1 29 _ = _
      rw [f3.1 29 (by decide)]; exact z5 q hq
    · show μ2.1 30 _ = _ ∧ μ2.1 30 _ = _
      rw [f3.1 30 (by decide)]; exact z6 i hi
set_option maxRecDepth 20000 in
set_option maxHeartbeats 2000000 in
theorem r_countOf {Q : mm_R} {μ : mm_M} {st : st_T} {w : Int32} (hA : AOK st) (hR : RM st μ) (h : Q (some (.int (A_count st w))) μ) : mm_Runs m_X5_countOf Q 0 [.ref 21, .int w] [] μ := by
  obtain ⟨L, pg, D, S, d, f, im⟩ := st
  obtain ⟨hL, hDl, hS, hd, hf, hD0, him⟩ := hA
  obtain ⟨x1, x2, x3, x4, x5, x6, x7, x8⟩ := hR
  have hc := hf.1.2.2
  simp only [A_count] at h
  intro J hJ hF
  refine hJ 60 _ _ _ _ ?_
  refine And.intro (fun w0 => ?_) (fun w0 => ?_)
  · rw [if_pos (show w = 0 from w0)] at h
    refine hJ 60 _ _ _ _ ?_
    show Q (some (.int (μ.1 21 8))) μ
    rw [x7.1.1]; exact h
  rw [if_neg (show ¬ w = 0 from w0)] at h
  refine And.intro (fun w1 => ?_) (fun w1 => ?_)
  · rw [if_pos (show w = 1 from w1)] at h
    refine hJ 60 _ _ _ _ ?_
    refine r_ones f.1.2.2.2.2 x7.1.2.2 (by omega) ?_
    exact h
  rw [if_neg (show ¬ w = 1 from w1)] at h
  refine And.intro (fun w2 => ?_) (fun w2 => ?_)
  · rw [if_pos (show w = 2 from w2)] at h
    refine hJ 60 _ _ _ _ ?_
    refine r_knownAll hf.1 (MS_R x7.1) ?_
    exact h
  rw [if_neg (show ¬ w = 2 from w2)] at h
  refine And.intro (fun w3 => ?_) (fun w3 => ?_)
  · rw [if_pos (show w = 3 from w3)] at h
    refine hJ 60 _ _ _ _ ?_
    show Q (some (.int (μ.1 21 4))) μ
    rw [x7.2.1]; exact h
  rw [if_neg (show ¬ w = 3 from w3)] at h
  refine And.intro (fun w4 => ?_) (fun w4 => ?_)
  · rw [if_pos (show w = 4 from w4)] at h
    refine hJ 60 _ _ _ _ ?_
    show Q (some (.int (μ.1 21 12))) μ
    rw [x7.2.2.1]; exact h
  rw [if_neg (show ¬ w = 4 from w4)] at h
  refine And.intro (fun w5 => ?_) (fun w5 => ?_)
  · rw [if_pos (show w = 5 from w5)] at h
    refine hJ 60 _ _ _ _ ?_
    show Q (some (.int (μ.1 21 1))) μ
    rw [x1]; exact h
  rw [if_neg (show ¬ w = 5 from w5)] at h
  refine And.intro (fun w6 => ?_) (fun w6 => ?_)
  · rw [if_pos (show w = 6 from w6)] at h
    refine hJ 60 _ _ _ _ ?_
    show Q (some (.int (μ.1 21 5))) μ
    rw [x4]; exact h
  rw [if_neg (show ¬ w = 6 from w6)] at h
  refine And.intro (fun w7 => ?_) (fun w7 => ?_)
  · rw [if_pos (show w = 7 from w7)] at h
    refine hJ 60 _ _ _ _ ?_
    show Q (some (.int (μ.1 21 11))) μ
    rw [x5]; exact h
  rw [if_neg (show ¬ w = 7 from w7)] at h
  refine hJ 60 _ _ _ _ ?_
  exact h
set_option maxRecDepth 20000 in
set_option maxHeartbeats 2000000 in
theorem r_mcount {Q : mm_R} {μ : mm_M} {st : st_T} {w : Int32} (hA : AOK st) (hR : RM st μ) (h : Q (some (.int (A_count st w))) μ) : mm_Runs m_X5_count Q 0 [.ref 21, .int w] [] μ := by
  intro J hJ hF
  refine hJ 60 _ _ _ _ ?_
  refine r_countOf hA hR ?_
  exact h
