/-! the reference: letters, dome, place, cloth, people -/
theorem p64 {n : Nat} {a : Int32} {c : Int64} (hn : n < 2 ^ 31) (hc : c.toInt = (n : Int) - 1) : pIs n a ↔ (0 : Int64) ≤ a.toInt64 ∧ a.toInt64 ≤ c := by
  rw [pIs_iff hn, Int64.le_iff_toInt_le, Int64.le_iff_toInt_le, Int32.toInt_toInt64, ar_le, ar_lt, nI_toInt hn, hc]
  show 0 ≤ a.toInt ∧ a.toInt < (n : Int) ↔ 0 ≤ a.toInt ∧ _
  constructor <;> intro z <;> omega
theorem i64 {a : Int32} {lo hi : Int32} : (lo.toInt64 ≤ a.toInt64 ∧ a.toInt64 ≤ hi.toInt64) ↔ lo ≤ a ∧ a ≤ hi := by
  rw [Int64.le_iff_toInt_le, Int64.le_iff_toInt_le, Int32.toInt_toInt64, Int32.toInt_toInt64, Int32.toInt_toInt64, ar_le, ar_le]
theorem RM_g {L : Nat} {pg : Nat → Int32} {D S : Nat} {d : dm_T} {f : fs_T} {im : Option fs_T} {μ μ' : mm_M} (h : RM (L, pg, D, S, d, f, im) μ) (h21 : ∀ k, k ≠ 14 → μ'.1 21 k = μ.1 21 k) (hr : ∀ r, 21 < r → r ≠ 25 → r ≠ 26 → r ≠ 28 → μ'.1 r = μ.1 r) (hm : ∀ q, q < f.1.1 → μ'.1 25 (3 * q) = nI (f.1.2.1 q) ∧ μ'.1 25 (3 * q + 1) = nI (f.1.2.2.1 q) ∧ μ'.1 25 (3 * q + 2) = nI (f.1.2.2.2.1 q)) : RM (L, pg, D, S, d, f, im) μ' := by
  obtain ⟨h1, h2, h3, h4, h5, h6, ⟨⟨s1, s2, s3⟩, m2, m3, m4⟩, h8⟩ := h
  have e27 := hr 27 (by omega) (by omega) (by omega) (by omega)
  refine ⟨by rw [h21 _ (by omega)]; exact h1, fun j hj => by rw [hr 22 (by omega) (by omega) (by omega) (by omega)]; exact h2 j hj, by rw [h21 _ (by omega)]; exact h3, by rw [h21 _ (by omega)]; exact h4, by rw [h21 _ (by omega)]; exact h5, MD_fr h6 (hr 23 (by omega) (by omega) (by omega) (by omega)) (hr 24 (by omega) (by omega) (by omega) (by omega)), ⟨⟨by rw [h21 _ (by omega)]; exact s1, hm, by rw [h21 _ (by omega)]; exact s3⟩, by rw [h21 _ (by omega)]; exact m2, by rw [h21 _ (by omega)]; exact m3, fun i hi => by rw [e27]; exact m4 i hi⟩, ?_⟩
  cases im with
  | none => show μ'.1 21 16 = -1 ∨ ∃ e, e < D ∧ μ'.1 21 16 = nI e; rw [h21 _ (by omega)]; exact h8
  | some g =>
    obtain ⟨k0, k1, k2, k3, k4, k5, k6⟩ := h8
    exact ⟨by rw [h21 _ (by omega)]; exact k0, by rw [h21 _ (by omega)]; exact k1, by rw [h21 _ (by omega)]; exact k2, by rw [h21 _ (by omega)]; exact k3, by rw [h21 _ (by omega)]; exact k4, fun q hq => by rw [hr 29 (by omega) (by omega) (by omega) (by omega)]; exact k5 q hq, fun i hi => by rw [hr 30 (by omega) (by omega) (by omega) (by omega)]; exact k6 i hi⟩
theorem RM_26 {st : st_T} {μ μ' : mm_M} (h : RM st μ) (hf : fr [26] μ μ') : RM st μ' := RM_fr h (fun r h1 h2 h3 => hf.1 r (by simp; omega))
theorem MA_26 {μ μ' : mm_M} (h : fr [26] μ μ') : fr MA μ μ' := fr_w h (fun r hr => by simp at hr ⊢; omega)
set_option maxRecDepth 20000 in
set_option maxHeartbeats 2000000 in
theorem r_ones {Q : mm_R} {μ : mm_M} {v : Int32} (x : Nat) (hv : v = nI x) (hx : x < 2 ^ 31) (h : Q (some (.int (nI (pcs x 10)))) μ) : mm_Runs m_X5_ones Q 0 [.int v, .null, .null] [] μ := by
  subst hv
  intro J hJ hF
  have lp : ∀ k i, k + i = 10 → J 4 [.int (nI x), .int (nI (pcs x i)), .int (nI i)] [] μ := by
    intro k
    induction k with
    | zero =>
      intro i hk
      have e : i = 10 := by omega
      subst e
      refine hJ 60 _ _ _ _ ?_
      refine And.intro (fun _ => ?_) (fun c => absurd (show (10 : Int32) ≤ nI 10 by decide) c)
      refine hJ 60 _ _ _ _ ?_
      exact h
    | succ k ih =>
      intro i hk
      refine hJ 60 _ _ _ _ ?_
      refine And.intro (fun c => by rw [show (10 : Int32) = nI 10 from rfl, nI_leI (by omega) (by omega)] at c; omega) (fun _ => ?_)
      refine hJ 60 _ _ _ _ ?_
      show J 4 [_, .int (nI (pcs x i) + (nI x >>> (nI i &&& 31) &&& 1)), .int (nI i + 1)] [] μ
      rw [ar_bit hx (by omega), nI_add, nI_1]
      exact ih (i + 1) (by omega)
  refine hJ 4 _ _ _ _ ?_
  exact lp 10 0 (by omega)
set_option maxRecDepth 20000 in
set_option maxHeartbeats 2000000 in
theorem r_mletter {Q : mm_R} {μ : mm_M} {st : st_T} {c : Int32} (hA : AOK st) (hR : RM st μ) (h : ∀ μ', fr MA μ μ' → RM (F_letter st c).2 μ' → Q (some (.int (F_letter st c).1)) μ') : mm_Runs m_X5_letter Q 0 [.ref 21, .int c] [] μ := by
  obtain ⟨L, pg, D, S, d, f, im⟩ := st
  have hR0 := hR
  obtain ⟨hL, -⟩ := hA
  obtain ⟨x1, x2, x3, x4, x5, x6, x7, x8⟩ := hR
  intro J hJ hF
  refine hJ 60 _ _ _ _ ?_
  refine r_in (fun c1 => ?_) (fun c1 => ?_)
  · have hc : 1 ≤ c ∧ c ≤ 126 := (i64 (lo := 1) (hi := 126)).mp c1
    refine And.intro (fun _ => ?_) (fun c => absurd c (by decide))
    refine hJ 60 _ _ _ _ ?_
    refine And.intro (fun c3 => ?_) (fun c3 => ?_)
    · rw [x1, show (20 : Int32) = nI 20 from rfl, nI_eq (by omega) (by omega)] at c3
      have e : F_letter (L, pg, D, S, d, f, im) c = (nI (L + 1), (L + 1, upd pg L c, D, S, d, f, im)) := by simp only [F_letter]; rw [if_pos hc, if_neg c3]
      rw [e] at h
      refine hJ 60 _ _ _ _ ?_
      refine And.intro (by rw [x1]; exact ar_in (by omega) (by omega)) ?_
      show Q (some (.int (μ.1 21 1 + 1))) (mm_put (mm_put μ 22 (μ.1 21 1).toNatClampNeg c) 21 1 (μ.1 21 1 + 1))
      rw [x1, nI_1, ar_cl (by omega)]
      refine h _ (fr_put (fr_put (fr_rf _ _) (by simp)) (by simp)) ⟨rfl, fun j hj => ?_, x3, x4, x5, x6, x7, ?_⟩
      · show upd (μ.1 22) L c j = upd pg L c j
        by_cases q : j = L
        · subst q; rw [up_eq, up_eq]
        · rw [up_ne _ _ q, up_ne _ _ q]; exact x2 j (by omega)
      · cases im with
        | none => exact x8
        | some g => exact x8
    · rw [x1, show (20 : Int32) = nI 20 from rfl, nI_eq (by omega) (by omega)] at c3
      have e : F_letter (L, pg, D, S, d, f, im) c = (-104, (L, pg, D, S, d, f, im)) := by simp only [F_letter]; rw [if_pos hc, if_pos c3]
      rw [e] at h
      refine hJ 60 _ _ _ _ ?_
      exact h μ (fr_rf _ _) hR0
  · have hc : ¬ (1 ≤ c ∧ c ≤ 126) := fun z => c1 ((i64 (lo := 1) (hi := 126)).mpr z)
    have e : F_letter (L, pg, D, S, d, f, im) c = (-102, (L, pg, D, S, d, f, im)) := by simp only [F_letter]; rw [if_neg hc]
    rw [e] at h
    refine And.intro (fun c => absurd rfl c) (fun _ => ?_)
    refine hJ 60 _ _ _ _ ?_
    exact h μ (fr_rf _ _) hR0
set_option maxRecDepth 20000 in
set_option maxHeartbeats 2000000 in
theorem r_mblank {Q : mm_R} {μ : mm_M} {st : st_T} (hR : RM st μ) (h : ∀ μ', fr MA μ μ' → RM (F_blank st).2 μ' → Q (some (.int (F_blank st).1)) μ') : mm_Runs m_X5_blank Q 0 [.ref 21, .null] [] μ := by
  obtain ⟨L, pg, D, S, d, f, im⟩ := st
  obtain ⟨x1, x2, x3, x4, x5, x6, x7, x8⟩ := hR
  intro J hJ hF
  refine hJ 60 _ _ _ _ ?_
  show Q (some (.int (μ.1 21 1))) (mm_put μ 21 1 0)
  rw [x1]
  refine h _ (fr_put (fr_rf _ _) (by simp)) ⟨rfl, fun j hj => absurd hj (Nat.not_lt_zero _), x3, x4, x5, x6, x7, ?_⟩
  cases im with
  | none => exact x8
  | some g => exact x8
set_option maxRecDepth 20000 in
set_option maxHeartbeats 2000000 in
theorem r_isGood {Q : mm_R} {μ : mm_M} {k : Nat} {kv c : Int32} (hk : k < 2 ^ 31) (hkv : kv = nI k) (h1 : gd k c → Q (some (.int 1)) μ) (h0 : ¬ gd k c → Q (some (.int 0)) μ) : mm_Runs m_X5_isGood Q 0 [.int kv, .int c] [] μ := by
  subst hkv
  unfold gd at h1 h0
  intro J hJ hF
  refine hJ 60 _ _ _ _ ?_
  refine And.intro (fun q => ?_) (fun q => ?_)
  · rw [show (8 : Int32) = nI 8 from rfl, nI_leI (by omega) (by omega)] at q
    rw [if_neg (by omega)] at h1 h0
    refine hJ 60 _ _ _ _ ?_
    refine And.intro (fun q2 => ?_) (fun q2 => ?_)
    · rw [show (8 : Int32) = nI 8 from rfl, nI_eq (by omega) (by omega)] at q2
      rw [if_neg q2] at h1 h0
      have no : ¬ (k < 17 ∧ 48 ≤ c ∧ c ≤ 57) → J 64 [.int (nI k), .int c] [] μ := by
        intro z
        refine hJ 60 _ _ _ _ ?_
        exact And.intro (Or.inl rfl) (h0 z)
      refine hJ 60 _ _ _ _ ?_
      refine And.intro (fun q3 => ?_) (fun q3 => ?_)
      · rw [show (17 : Int32) = nI 17 from rfl, nI_leI (by omega) (by omega)] at q3
        exact no (fun z => by omega)
      · rw [show (17 : Int32) = nI 17 from rfl, nI_leI (by omega) (by omega)] at q3
        refine hJ 60 _ _ _ _ ?_
        refine r_in (fun c1 => ?_) (fun c1 => ?_)
        · refine And.intro (fun c => absurd c (by decide)) (fun _ => ?_)
          refine hJ 60 _ _ _ _ ?_
          refine hJ 60 _ _ _ _ ?_
          exact And.intro (Or.inr rfl) (h1 ⟨by omega, (i64 (lo := 48) (hi := 57)).mp c1⟩)
        · refine And.intro (fun _ => ?_) (fun c => absurd rfl c)
          exact no (fun z => c1 ((i64 (lo := 48) (hi := 57)).mpr z.2))
    · rw [show (8 : Int32) = nI 8 from rfl, nI_eq (by omega) (by omega)] at q2
      rw [if_pos q2] at h1 h0
      refine hJ 60 _ _ _ _ ?_
      refine And.intro (fun q3 => ?_) (fun q3 => ?_)
      · refine hJ 60 _ _ _ _ ?_
        refine hJ 60 _ _ _ _ ?_
        exact And.intro (Or.inl rfl) (h0 q3)
      · refine hJ 60 _ _ _ _ ?_
        refine hJ 60 _ _ _ _ ?_
        exact And.intro (Or.inr rfl) (h1 q3)
  · rw [show (8 : Int32) = nI 8 from rfl, nI_leI (by omega) (by omega)] at q
    rw [if_pos (by omega)] at h1 h0
    refine hJ 60 _ _ _ _ ?_
    refine r_in (fun c1 => ?_) (fun c1 => ?_)
    · refine hJ 60 _ _ _ _ ?_
      exact And.intro (Or.inr rfl) (h1 ((i64 (lo := 97) (hi := 104)).mp c1))
    · refine hJ 60 _ _ _ _ ?_
      exact And.intro (Or.inl rfl) (h0 (fun z => c1 ((i64 (lo := 97) (hi := 104)).mpr z)))
set_option maxRecDepth 20000 in
set_option maxHeartbeats 2000000 in
theorem r_faultOf {Q : mm_R} {μ : mm_M} {L : Nat} {pg : Nat → Int32} (hL : L ≤ 20) (x1 : μ.1 21 1 = nI L) (x2 : ∀ j, j < L → μ.1 22 j = pg j) (h : Q (some (.int (nI (flt pg L)))) μ) : mm_Runs m_X5_faultOf Q 0 [.ref 21, .null] [] μ := by
  intro J hJ hF
  have lp : ∀ k i, k + i = L → (∀ j, j < i → gd j (pg j)) → J 2 [.ref 21, .int (nI i)] [] μ := by
    intro k
    induction k with
    | zero =>
      intro i hk hg
      have e : i = L := by omega
      subst e
      refine hJ 60 _ _ _ _ ?_
      refine And.intro (fun _ => ?_) (fun c => by rw [x1, nI_leI (by omega) (by omega)] at c; omega)
      refine hJ 60 _ _ _ _ ?_
      rw [flt_of (i := i) ⟨Nat.le_refl _, hg, fun z => absurd z (Nat.lt_irrefl _)⟩] at h
      exact h
    | succ k ih =>
      intro i hk hg
      refine hJ 60 _ _ _ _ ?_
      refine And.intro (fun c => by rw [x1, nI_leI (by omega) (by omega)] at c; omega) (fun _ => ?_)
      refine hJ 60 _ _ _ _ ?_
      refine And.intro (ar_in (by omega) (by omega)) ?_
      rw [ar_cl (by omega), x2 i (by omega)]
      refine r_isGood (k := i) (by omega) rfl (fun g1 => ?_) (fun g0 => ?_)
      · refine And.intro (fun c => absurd c (by decide)) (fun _ => ?_)
        refine hJ 60 _ _ _ _ ?_
        show J 2 [_, .int (nI i + 1)] [] μ
        rw [nI_1]
        refine ih (i + 1) (by omega) (fun j hj => ?_)
        by_cases q : j = i
        · subst q; exact g1
        · exact hg j (by omega)
      · refine And.intro (fun _ => ?_) (fun c => absurd rfl c)
        refine hJ 60 _ _ _ _ ?_
        rw [flt_of (i := i) ⟨by omega, hg, fun _ => g0⟩] at h
        exact h
  refine hJ 2 _ _ _ _ ?_
  exact lp L 0 (by omega) (fun j hj => absurd hj (Nat.not_lt_zero _))
set_option maxRecDepth 20000 in
set_option maxHeartbeats 2000000 in
theorem r_mfault {Q : mm_R} {μ : mm_M} {st : st_T} (hA : AOK st) (hR : RM st μ) (h : Q (some (.int (A_fault st))) μ) : mm_Runs m_X5_fault Q 0 [.ref 21] [] μ := by
  obtain ⟨L, pg, D, S, d, f, im⟩ := st
  intro J hJ hF
  refine hJ 60 _ _ _ _ ?_
  exact r_faultOf hA.1 hR.1 hR.2.1 h
set_option maxRecDepth 20000 in
set_option maxHeartbeats 2000000 in
theorem r_mdome {Q : mm_R} {μ : mm_M} {st : st_T} (hA : AOK st) (hR : RM st μ) (h : ∀ μ', fr MA μ μ' → RM (F_dome st).2 μ' → Q (some (.int (F_dome st).1)) μ') : mm_Runs m_X5_dome Q 0 [.ref 21, .null, .null] [] μ := by
  obtain ⟨L, pg, D, S, d, f, im⟩ := st
  have hR0 := hR
  obtain ⟨hL, hDl, -⟩ := hA
  obtain ⟨x1, x2, x3, x4, x5, x6, x7, x8⟩ := hR
  have hfl := flt_le pg L
  intro J hJ hF
  have no : ¬ (L = 17 ∧ flt pg L = 17) → J 18 [.ref 21, .null, .null] [] μ := by
    intro z
    have e : F_dome (L, pg, D, S, d, f, im) = (-103, (L, pg, D, S, d, f, im)) := by simp only [F_dome]; rw [if_neg z]
    rw [e] at h
    refine hJ 60 _ _ _ _ ?_
    exact h μ (fr_rf _ _) hR0
  refine hJ 60 _ _ _ _ ?_
  refine And.intro (fun c1 => ?_) (fun c1 => ?_)
  · rw [x1, show (17 : Int32) = nI 17 from rfl, nI_eq (by omega) (by omega)] at c1
    exact no (fun z => c1 z.1)
  rw [x1, show (17 : Int32) = nI 17 from rfl, nI_eq (by omega) (by omega)] at c1
  refine hJ 60 _ _ _ _ ?_
  refine r_faultOf hL x1 x2 ?_
  refine And.intro (fun c2 => ?_) (fun c2 => ?_)
  · rw [show (17 : Int32) = nI 17 from rfl, nI_leI (by omega) (by have := hfl.1; omega)] at c2
    have c2 : flt pg L = 17 := by have := hfl.1; omega
    have e : F_dome (L, pg, D, S, d, f, im) = (nI (elsw (dOf pg)), (0, pg, D + 1, S, dOf pg, ((0, f.1.2.1, f.1.2.2.1, f.1.2.2.2.1, 0), 0, (0, f.2.2.2)), none)) := by simp only [F_dome]; rw [if_pos ⟨c1, c2⟩]
    rw [e] at h
    rw [c2] at hfl
    obtain ⟨g1, g2⟩ := dOf_ok hfl.2.1
    have lp : ∀ k i μ', k + i = 8 → fr [23, 24] μ μ' → (∀ j, j < i → μ'.1 23 j = nI ((dOf pg).1 j) ∧ μ'.1 24 j = nI ((dOf pg).2 j)) → J 25 [.ref 21, .int (nI (ct (fun j => decide ((dOf pg).1 j ≠ j)) i)), .int (nI i)] [] μ' := by
      intro k
      induction k with
      | zero =>
        intro i μ' hk f1 f2
        have e : i = 8 := by omega
        subst e
        have e5 : μ'.1 21 5 = nI D := by rw [f1.1 21 (by decide)]; exact x4
        have e16 : μ'.1 21 16 = μ.1 21 16 := by rw [f1.1 21 (by decide)]
        have e11 : μ'.1 21 11 = nI S := by rw [f1.1 21 (by decide)]; exact x5
        refine hJ 60 _ _ _ _ ?_
        refine And.intro (fun _ => ?_) (fun c => absurd (show (8 : Int32) ≤ nI 8 by decide) c)
        refine hJ 60 _ _ _ _ ?_
        refine And.intro (Or.inr rfl) ?_
        refine h _ (fr_put (fr_put (fr_put (fr_put (fr_put (fr_put (fr_put (fr_w f1 (by simp)) (by simp)) (by simp)) (by simp)) (by simp)) (by simp)) (by simp)) (by simp)) ⟨rfl, fun j hj => absurd hj (Nat.not_lt_zero _), ?_, ?_, e11, f2, ⟨⟨rfl, fun q hq => absurd hq (Nat.not_lt_zero _), rfl⟩, rfl, rfl, fun i hi => absurd hi (Nat.not_lt_zero _)⟩, ?_⟩
        · show (1 : Int32) = nI (thr (D + 1)); unfold thr; rw [if_pos (by omega)]; rfl
        · show μ'.1 21 5 + 1 = _; rw [e5, nI_1]
        · show μ'.1 21 16 = -1 ∨ ∃ e, e < D + 1 ∧ μ'.1 21 16 = nI e
          rw [e16]
          cases im with
          | none =>
            rcases x8 with z | ⟨e, z1, z2⟩
            · exact Or.inl z
            · exact Or.inr ⟨e, by omega, z2⟩
          | some g => exact Or.inr ⟨D, by omega, x8.1⟩
      | succ k ih =>
        intro i μ' hk f1 f2
        have e9 : (9 : Int32) + nI i = nI (9 + i) := nI_add 9 i
        obtain ⟨p1, p2⟩ := g2 i (by omega)
        obtain ⟨d1, d2⟩ := g1 i (by omega)
        have p1 : μ'.1 22 i = nI (97 + (dOf pg).1 i) := by rw [f1.1 22 (by decide), x2 i (by omega)]; exact p1
        have p2 : μ'.1 22 (9 + i) = nI (48 + (dOf pg).2 i) := by rw [f1.1 22 (by decide), x2 (9 + i) (by omega)]; exact p2
        refine hJ 60 _ _ _ _ ?_
        refine And.intro (fun c => by rw [show (8 : Int32) = nI 8 from rfl, nI_leI (by omega) (by omega)] at c; omega) (fun _ => ?_)
        refine hJ 60 _ _ _ _ ?_
        refine And.intro (ar_in (by omega) (by omega)) ?_
        refine And.intro (ar_in (by omega) (by omega)) ?_
        refine And.intro (by rw [e9]; exact ar_in (by omega) (by omega)) ?_
        refine And.intro (ar_in (by omega) (by omega)) ?_
        refine And.intro (ar_in (by omega) (by omega)) ?_
        have em : mm_put (mm_put μ' 23 (nI i).toNatClampNeg (μ'.1 22 (nI i).toNatClampNeg - 97)) 24 (nI i).toNatClampNeg ((mm_put μ' 23 (nI i).toNatClampNeg (μ'.1 22 (nI i).toNatClampNeg - 97)).1 22 ((9 : Int32) + nI i).toNatClampNeg - 48) = mm_put (mm_put μ' 23 i (nI ((dOf pg).1 i))) 24 i (nI ((dOf pg).2 i)) := by
          rw [mp_ne _ _ _ (show (22 : Nat) ≠ 23 by decide), e9, ar_cl (by omega), ar_cl (by omega), p1, p2, show (97 : Int32) = nI 97 from rfl, show (48 : Int32) = nI 48 from rfl, pk_sub (by omega), pk_sub (by omega), show 97 + (dOf pg).1 i - 97 = (dOf pg).1 i by omega, show 48 + (dOf pg).2 i - 48 = (dOf pg).2 i by omega]
        rw [em]
        have f3 : fr [23, 24] μ (mm_put (mm_put μ' 23 i (nI ((dOf pg).1 i))) 24 i (nI ((dOf pg).2 i))) := fr_put (fr_put f1 (by simp)) (by simp)
        have m3 : ∀ j, j < i + 1 → (mm_put (mm_put μ' 23 i (nI ((dOf pg).1 i))) 24 i (nI ((dOf pg).2 i))).1 23 j = nI ((dOf pg).1 j) ∧ (mm_put (mm_put μ' 23 i (nI ((dOf pg).1 i))) 24 i (nI ((dOf pg).2 i))).1 24 j = nI ((dOf pg).2 j) := by
          intro j hj
          rw [mp_eq, mp_ne _ _ _ (show (23 : Nat) ≠ 24 by decide), mp_eq, mp_ne _ _ _ (show (24 : Nat) ≠ 23 by decide)]
          by_cases e : j = i
          · subst e; rw [up_eq, up_eq]; exact ⟨rfl, rfl⟩
          · rw [up_ne _ _ e, up_ne _ _ e]; exact f2 j (by omega)
        have ed : (mm_put (mm_put μ' 23 i (nI ((dOf pg).1 i))) 24 i (nI ((dOf pg).2 i))).1 23 (nI i).toNatClampNeg = nI ((dOf pg).1 i) := by rw [ar_cl (by omega)]; exact (m3 i (by omega)).1
        generalize mm_put (mm_put μ' 23 i (nI ((dOf pg).1 i))) 24 i (nI ((dOf pg).2 i)) = μ3 at f3 m3 ed ⊢
        have st : ∀ x, ct (fun j => decide ((dOf pg).1 j ≠ j)) i + x = ct (fun j => decide ((dOf pg).1 j ≠ j)) (i + 1) → J 80 [.ref 21, .int (nI (ct (fun j => decide ((dOf pg).1 j ≠ j)) i)), .int (nI i)] [.int (nI x), .int (nI (ct (fun j => decide ((dOf pg).1 j ≠ j)) i))] μ3 := by
          intro x hx
          refine hJ 60 _ _ _ _ ?_
          show J 25 [_, .int (nI (ct (fun j => decide ((dOf pg).1 j ≠ j)) i) + nI x), .int (nI i + 1)] [] μ3
          rw [nI_add, hx, nI_1]
          exact ih (i + 1) μ3 (by omega) f3 m3
        refine And.intro (fun c => ?_) (fun c => ?_)
        · rw [ed, nI_eq (by omega) (by omega)] at c
          refine hJ 1 _ _ _ _ ?_
          exact st 1 (by simp [ct, c])
        · rw [ed, nI_eq (by omega) (by omega)] at c
          refine hJ 60 _ _ _ _ ?_
          exact st 0 (by simp [ct, c])
    refine hJ 4 _ _ _ _ ?_
    exact lp 8 0 μ (by omega) (fr_rf _ _) (fun j hj => absurd hj (Nat.not_lt_zero _))
  · rw [show (17 : Int32) = nI 17 from rfl, nI_leI (by omega) (by have := hfl.1; omega)] at c2
    exact no (fun z => by omega)
set_option maxRecDepth 20000 in
set_option maxHeartbeats 2000000 in
theorem r_whoIsAt {Q : mm_R} {μ : mm_M} {s : sc_T} {p : Nat} {pv : Int32} (hs : sOK s) (hX : MR s μ) (hp : p < 8) (hpv : pv = nI p) (h : Q (some (.int (nI (pAt s p)))) μ) : mm_Runs m_X5_whoIsAt Q 0 [.ref 21, .int pv, .null, .null] [] μ := by
  subst hpv
  have h6 := hs.1
  have ep := hX.1
  intro J hJ hF
  have lp : ∀ k i, k + i = s.1 → J 4 [.ref 21, .int (nI p), .int (nI (mk (fun q => decide (s.2.2.1 q = p)) i)), .int (nI i)] [] μ := by
    intro k
    induction k with
    | zero =>
      intro i hk
      have e : i = s.1 := by omega
      subst e
      refine hJ 60 _ _ _ _ ?_
      refine And.intro (fun _ => ?_) (fun c => by rw [ep, nI_leI (by omega) (by omega)] at c; omega)
      refine hJ 60 _ _ _ _ ?_
      exact h
    | succ k ih =>
      intro i hk
      obtain ⟨-, d1, -⟩ := hs.2.1 i (by omega)
      have e2 : μ.1 25 ((3 : Int32) * nI i + 1).toNatClampNeg = nI (s.2.2.1 i) := by rw [ar_31, ar_cl (by omega)]; exact (hX.2 i (by omega)).2.1
      refine hJ 60 _ _ _ _ ?_
      refine And.intro (fun c => by rw [ep, nI_leI (by omega) (by omega)] at c; omega) (fun _ => ?_)
      refine hJ 60 _ _ _ _ ?_
      refine And.intro (by rw [ar_31]; exact ar_in (by omega) (by omega)) ?_
      have st : ∀ x, mk (fun q => decide (s.2.2.1 q = p)) i ||| x = mk (fun q => decide (s.2.2.1 q = p)) (i + 1) → J 34 [.ref 21, .int (nI p), .int (nI (mk (fun q => decide (s.2.2.1 q = p)) i)), .int (nI i)] [.int (nI x), .int (nI (mk (fun q => decide (s.2.2.1 q = p)) i))] μ := by
        intro x hx
        refine hJ 60 _ _ _ _ ?_
        show J 4 [_, _, .int (nI (mk (fun q => decide (s.2.2.1 q = p)) i) ||| nI x), .int (nI i + 1)] [] μ
        rw [nI_1, ar_or, hx]
        exact ih (i + 1) (by omega)
      refine And.intro (fun c => ?_) (fun c => ?_)
      · rw [e2, nI_eq (by omega) (by omega)] at c
        refine hJ 1 _ _ _ _ ?_
        exact st 0 (by simp [mk, c])
      · rw [e2, nI_eq (by omega) (by omega)] at c
        refine hJ 60 _ _ _ _ ?_
        show J 34 _ [.int ((1 : Int32) <<< (nI i &&& 31)), _] μ
        rw [ar_shl i (by omega)]
        exact st _ (by simp [mk, c])
  refine hJ 4 _ _ _ _ ?_
  exact lp s.1 0 (by omega)
set_option maxRecDepth 20000 in
set_option maxHeartbeats 2000000 in
theorem r_mheardAt {Q : mm_R} {μ : mm_M} {d : dm_T} {p : Nat} {pv : Int32} (hd : dOK d) (hX : MD d μ) (hp : p < 8) (hpv : pv = nI p) (h : Q (some (.int (nI (srcs d p)))) μ) : mm_Runs m_X5_heardAt Q 0 [.ref 21, .int pv, .null, .null] [] μ := by
  subst hpv
  intro J hJ hF
  have lp : ∀ k i, k + i = 8 → J 4 [.ref 21, .int (nI p), .int (nI (mk (fun j => decide (d.1 j = p)) i)), .int (nI i)] [] μ := by
    intro k
    induction k with
    | zero =>
      intro i hk
      have e : i = 8 := by omega
      subst e
      refine hJ 60 _ _ _ _ ?_
      refine And.intro (fun _ => ?_) (fun c => absurd (show (8 : Int32) ≤ nI 8 by decide) c)
      refine hJ 60 _ _ _ _ ?_
      exact h
    | succ k ih =>
      intro i hk
      obtain ⟨d1, d2⟩ := hd i (by omega)
      refine hJ 60 _ _ _ _ ?_
      refine And.intro (fun c => by rw [show (8 : Int32) = nI 8 from rfl, nI_leI (by omega) (by omega)] at c; omega) (fun _ => ?_)
      refine hJ 60 _ _ _ _ ?_
      refine And.intro (ar_in (by omega) (by omega)) ?_
      have st : ∀ x, mk (fun j => decide (d.1 j = p)) i ||| x = mk (fun j => decide (d.1 j = p)) (i + 1) → J 28 [.ref 21, .int (nI p), .int (nI (mk (fun j => decide (d.1 j = p)) i)), .int (nI i)] [.int (nI x), .int (nI (mk (fun j => decide (d.1 j = p)) i))] μ := by
        intro x hx
        refine hJ 60 _ _ _ _ ?_
        show J 4 [_, _, .int (nI (mk (fun j => decide (d.1 j = p)) i) ||| nI x), .int (nI i + 1)] [] μ
        rw [nI_1, ar_or, hx]
        exact ih (i + 1) (by omega)
      refine And.intro (fun c => ?_) (fun c => ?_)
      · rw [ar_cl (by omega), (hX i (by omega)).1, nI_eq (by omega) (by omega)] at c
        refine hJ 1 _ _ _ _ ?_
        exact st 0 (by simp [mk, c])
      · rw [ar_cl (by omega), (hX i (by omega)).1, nI_eq (by omega) (by omega)] at c
        refine hJ 60 _ _ _ _ ?_
        show J 28 _ [.int ((1 : Int32) <<< (nI i &&& 31)), _] μ
        rw [ar_shl i (by omega)]
        exact st _ (by simp [mk, c])
  refine hJ 4 _ _ _ _ ?_
  exact lp 8 0 (by omega)
set_option maxRecDepth 20000 in
set_option maxHeartbeats 2000000 in
theorem r_rentOf {Q : mm_R} {μ : mm_M} {d : dm_T} {p : Nat} {pv : Int32} (hd : dOK d) (hX : MD d μ) (hp : p < 8) (hpv : pv = nI p) (h : Q (some (.int (nI (rent d p)))) μ) : mm_Runs m_X5_rentOf Q 0 [.ref 21, .int pv] [] μ := by
  subst hpv
  have hlt := srcs_lt d p
  obtain ⟨d1, -⟩ := hd p hp
  unfold rent at h
  intro J hJ hF
  refine hJ 60 _ _ _ _ ?_
  refine r_mheardAt hd hX hp rfl ?_
  refine r_ones _ rfl (by omega) ?_
  refine And.intro (ar_in hp (by omega)) ?_
  refine And.intro (fun c => ?_) (fun c => ?_)
  · rw [ar_cl (by omega), (hX p hp).1, nI_eq (by omega) (by omega)] at c
    rw [if_neg c] at h
    refine hJ 60 _ _ _ _ ?_
    show Q (some (.int (nI (pcs (srcs d p) 10) * 1))) μ
    rw [show (1 : Int32) = nI 1 from rfl, pk_mul, Nat.mul_one]
    exact h
  · rw [ar_cl (by omega), (hX p hp).1, nI_eq (by omega) (by omega)] at c
    rw [if_pos c] at h
    refine hJ 60 _ _ _ _ ?_
    refine hJ 60 _ _ _ _ ?_
    show Q (some (.int (nI (pcs (srcs d p) 10) * 2))) μ
    rw [show (2 : Int32) = nI 2 from rfl, pk_mul, Nat.mul_comm]
    exact h
set_option maxRecDepth 20000 in
set_option maxHeartbeats 2000000 in
theorem r_tellPlace {Q : mm_R} {μ : mm_M} {d : dm_T} {s : sc_T} {j : Nat} {jv w : Int32} (hd : dOK d) (hs : sOK s) (hMD : MD d μ) (hX : MS s μ) (hj : j < 8) (hjv : jv = nI j) (h : Q (some (.int (tP d s j w))) μ) : mm_Runs m_X5_tellPlace Q 0 [.ref 21, .int jv, .int w] [] μ := by
  subst hjv
  obtain ⟨e1, e2⟩ := hMD j hj
  have hc := hs.2.2
  unfold tP at h
  intro J hJ hF
  refine hJ 60 _ _ _ _ ?_
  refine And.intro (fun w0 => ?_) (fun w0 => ?_)
  · rw [if_pos (show w = 0 from w0)] at h
    refine hJ 60 _ _ _ _ ?_
    refine And.intro (ar_in hj (by omega)) ?_
    show Q (some (.int (μ.1 23 (nI j).toNatClampNeg))) μ
    rw [ar_cl (by omega), e1]; exact h
  rw [if_neg (show ¬ w = 0 from w0)] at h
  refine And.intro (fun w1 => ?_) (fun w1 => ?_)
  · rw [if_pos (show w = 1 from w1)] at h
    refine hJ 60 _ _ _ _ ?_
    refine And.intro (ar_in hj (by omega)) ?_
    show Q (some (.int (μ.1 24 (nI j).toNatClampNeg))) μ
    rw [ar_cl (by omega), e2]; exact h
  rw [if_neg (show ¬ w = 1 from w1)] at h
  refine And.intro (fun w2 => ?_) (fun w2 => ?_)
  · rw [if_pos (show w = 2 from w2)] at h
    refine hJ 60 _ _ _ _ ?_
    show Q (some (.int (μ.1 21 3 >>> (nI j &&& 31) &&& 1))) μ
    rw [hX.2.2, ar_bitv (by omega) (by omega)]
    exact h
  rw [if_neg (show ¬ w = 2 from w2)] at h
  refine And.intro (fun w3 => ?_) (fun w3 => ?_)
  · rw [if_pos (show w = 3 from w3)] at h
    refine hJ 60 _ _ _ _ ?_
    refine r_whoIsAt hs (MS_R hX) hj rfl ?_
    exact h
  rw [if_neg (show ¬ w = 3 from w3)] at h
  refine And.intro (fun w4 => ?_) (fun w4 => ?_)
  · rw [if_pos (show w = 4 from w4)] at h
    refine hJ 60 _ _ _ _ ?_
    refine r_rentOf hd hMD hj rfl ?_
    exact h
  rw [if_neg (show ¬ w = 4 from w4)] at h
  refine And.intro (fun w5 => ?_) (fun w5 => ?_)
  · rw [if_pos (show w = 5 from w5)] at h
    refine hJ 60 _ _ _ _ ?_
    refine r_mheardAt hd hMD hj rfl ?_
    exact h
  rw [if_neg (show ¬ w = 5 from w5)] at h
  refine hJ 60 _ _ _ _ ?_
  exact h
theorem thr_le (D : Nat) : thr D ≤ 1 := by unfold thr; split <;> omega
theorem thr_1 {D : Nat} : thr D = 1 ↔ 0 < D := by unfold thr; split <;> omega
set_option maxRecDepth 20000 in
set_option maxHeartbeats 2000000 in
theorem r_misPlace2 {Q : mm_R} {μ : mm_M} {D : Nat} {a : Int32} (ht : μ.1 21 2 = nI (thr D)) (h1 : 0 < D ∧ pIs 8 a → Q (some (.int 1)) μ) (h0 : ¬ (0 < D ∧ pIs 8 a) → Q (some (.int 0)) μ) : mm_Runs m_X5_isPlace Q 0 [.ref 21, .int a] [] μ :=
  r_misPlace ht (thr_le D) (fun z1 z2 => h1 ⟨thr_1.mp z1, z2⟩) (fun z => h0 (fun y => z ⟨thr_1.mpr y.1, y.2⟩))
set_option maxRecDepth 20000 in
set_option maxHeartbeats 2000000 in
theorem r_mplace {Q : mm_R} {μ : mm_M} {st : st_T} {a w : Int32} (hA : AOK st) (hR : RM st μ) (h : Q (some (.int (A_place st a w))) μ) : mm_Runs m_X5_place Q 0 [.ref 21, .int a, .int w] [] μ := by
  obtain ⟨L, pg, D, S, d, f, im⟩ := st
  obtain ⟨hL, hDl, hS, hd, hf, hD0, him⟩ := hA
  obtain ⟨x1, x2, x3, x4, x5, x6, x7, x8⟩ := hR
  intro J hJ hF
  refine hJ 60 _ _ _ _ ?_
  refine r_misPlace2 x3 (fun hp => ?_) (fun hp => ?_)
  · have e : A_place (L, pg, D, S, d, f, im) a w = tP d f.1 a.toNatClampNeg w := by simp only [A_place]; rw [if_pos hp]
    rw [e] at h
    obtain ⟨j, hj, rfl⟩ := hp.2
    rw [ar_cl (by omega)] at h
    refine And.intro (fun c => absurd c (by decide)) (fun _ => ?_)
    refine hJ 60 _ _ _ _ ?_
    refine r_tellPlace hd hf.1 x6 x7.1 hj rfl ?_
    refine hJ 60 _ _ _ _ ?_
    exact h
  · have e : A_place (L, pg, D, S, d, f, im) a w = -101 := by simp only [A_place]; rw [if_neg hp]
    rw [e] at h
    refine And.intro (fun _ => ?_) (fun c => absurd rfl c)
    refine hJ 60 _ _ _ _ ?_
    exact h
set_option maxRecDepth 20000 in
set_option maxHeartbeats 2000000 in
theorem r_mcloth {Q : mm_R} {μ : mm_M} {st : st_T} {a b : Int32} (hA : AOK st) (hR : RM st μ) (h : ∀ μ', fr MA μ μ' → RM (F_cloth st a b).2 μ' → Q (some (.int (F_cloth st a b).1)) μ') : mm_Runs m_X5_cloth Q 0 [.ref 21, .int a, .int b, .null] [] μ := by
  obtain ⟨L, pg, D, S, d, f, im⟩ := st
  have hR0 := hR
  obtain ⟨hL, hDl, hS, hd, hf, hD0, him⟩ := hA
  obtain ⟨x1, x2, x3, x4, x5, x6, x7, x8⟩ := hR
  have hc := hf.1.2.2
  obtain ⟨⟨y0, y1, y3⟩, y4, y5, y6⟩ := x7
  intro J hJ hF
  refine hJ 60 _ _ _ _ ?_
  refine r_misPlace2 x3 (fun hp => ?_) (fun hp => ?_)
  · have e : F_cloth (L, pg, D, S, d, f, im) a b = (nI (bt1 f.1.2.2.2.2 a.toNatClampNeg), (L, pg, D, S, d, (sCl f.1 (if b = 0 then f.1.2.2.2.2 &&& (255 ^^^ 2 ^ a.toNatClampNeg) else f.1.2.2.2.2 ||| 2 ^ a.toNatClampNeg), f.2), im)) := by simp only [F_cloth]; rw [if_pos hp]
    rw [e] at h
    obtain ⟨j, hj, rfl⟩ := hp.2
    rw [ar_cl (by omega)] at h
    refine And.intro (fun _ => ?_) (fun c => absurd c (by decide))
    have ev : μ.1 21 3 >>> (nI j &&& 31) &&& 1 = nI (bt1 f.1.2.2.2.2 j) := by rw [y3, ar_bitv (by omega) (by omega)]; rfl
    have fin : ∀ (c' : Nat), c' = (if b = 0 then f.1.2.2.2.2 &&& (255 ^^^ 2 ^ j) else f.1.2.2.2.2 ||| 2 ^ j) → J 46 [.ref 21, .int (nI j), .int b, .int (μ.1 21 3 >>> (nI j &&& 31) &&& 1)] [.int (nI c'), .ref 21] μ := by
      intro c' hc'
      rw [ev]
      refine hJ 60 _ _ _ _ ?_
      rw [← hc'] at h
      refine h _ (fr_put (fr_rf _ _) (by simp)) ⟨x1, x2, x3, x4, x5, x6, ⟨⟨y0, y1, rfl⟩, y4, y5, y6⟩, ?_⟩
      cases im with
      | none => exact x8
      | some g => exact x8
    refine hJ 60 _ _ _ _ ?_
    refine And.intro (fun c => ?_) (fun c => ?_)
    · refine hJ 8 _ _ _ _ ?_
      show J 46 _ [.int (μ.1 21 3 &&& ((1 : Int32) <<< (nI j &&& 31) ^^^ (-1))), _] μ
      have e2 : μ.1 21 3 &&& ((1 : Int32) <<< (nI j &&& 31) ^^^ (-1)) = nI (f.1.2.2.2.2 &&& (255 ^^^ 2 ^ j)) := by rw [y3, ar_clr8 _ hc j hj]
      rw [e2]
      exact fin _ (by rw [if_pos c])
    · refine hJ 60 _ _ _ _ ?_
      show J 46 _ [.int (μ.1 21 3 ||| ((1 : Int32) <<< (nI j &&& 31))), _] μ
      have e2 : μ.1 21 3 ||| ((1 : Int32) <<< (nI j &&& 31)) = nI (f.1.2.2.2.2 ||| 2 ^ j) := by rw [y3, ar_shl j (by omega), ar_or]
      rw [e2]
      exact fin _ (by rw [if_neg c])
  · have e : F_cloth (L, pg, D, S, d, f, im) a b = (-101, (L, pg, D, S, d, f, im)) := by simp only [F_cloth]; rw [if_neg hp]
    rw [e] at h
    refine And.intro (fun c => absurd rfl c) (fun _ => ?_)
    refine hJ 60 _ _ _ _ ?_
    exact h μ (fr_rf _ _) hR0
set_option maxRecDepth 20000 in
set_option maxHeartbeats 2000000 in
theorem r_mperson {Q : mm_R} {μ : mm_M} {st : st_T} {k p : Int32} (hA : AOK st) (hR : RM st μ) (h : ∀ μ', fr MA μ μ' → RM (F_person st k p).2 μ' → Q (some (.int (F_person st k p).1)) μ') : mm_Runs m_X5_person Q 0 [.ref 21, .int k, .int p] [] μ := by
  obtain ⟨L, pg, D, S, d, f, im⟩ := st
  have hR0 := hR
  obtain ⟨hL, hDl, hS, hd, hf, hD0, him⟩ := hA
  obtain ⟨x1, x2, x3, x4, x5, x6, x7, x8⟩ := hR
  obtain ⟨⟨y0, y1, y3⟩, y4, y5, y6⟩ := x7
  have h6 := hf.1.1
  have ek := p64 (n := 5) (a := k) (c := 4) (by omega) rfl
  intro J hJ hF
  refine hJ 60 _ _ _ _ ?_
  refine r_in (fun k1 => ?_) (fun k0 => ?_)
  · have k1 : pIs 5 k := ek.mpr k1
    refine And.intro (fun _ => ?_) (fun c => absurd c (by decide))
    refine hJ 60 _ _ _ _ ?_
    refine r_misPlace2 x3 (fun hp => ?_) (fun hp => ?_)
    · refine And.intro (fun _ => ?_) (fun c => absurd c (by decide))
      refine hJ 60 _ _ _ _ ?_
      refine And.intro (fun c => ?_) (fun c => ?_)
      · rw [y0, show (6 : Int32) = nI 6 from rfl, nI_eq (by omega) (by omega)] at c
        have e : F_person (L, pg, D, S, d, f, im) k p = (nI f.1.1, (L, pg, D, S, d, (sEn f.1 k.toNatClampNeg p.toNatClampNeg, f.2), im)) := by simp only [F_person]; rw [if_pos k1, if_pos hp, if_neg c]
        rw [e] at h
        obtain ⟨kn, hk, rfl⟩ := k1
        obtain ⟨pn, hpn, rfl⟩ := hp.2
        rw [ar_cl (by omega), ar_cl (by omega)] at h
        refine hJ 60 _ _ _ _ ?_
        refine And.intro (by rw [y0, ar_3]; exact ar_in (by omega) (by omega)) ?_
        refine And.intro (by show vp_in ((3 : Int32) * μ.1 21 8 + 1) 18; rw [y0, ar_31]; exact ar_in (by omega) (by omega)) ?_
        refine And.intro (by show vp_in ((3 : Int32) * μ.1 21 8 + 2) 18; rw [y0, ar_32]; exact ar_in (by omega) (by omega)) ?_
        show Q (some (.int (μ.1 21 8 + 1 - 1))) (mm_put (mm_put (mm_put (mm_put μ 25 ((3 : Int32) * μ.1 21 8).toNatClampNeg (nI kn)) 25 ((3 : Int32) * μ.1 21 8 + 1).toNatClampNeg (nI pn)) 25 ((3 : Int32) * μ.1 21 8 + 2).toNatClampNeg 0) 21 8 (μ.1 21 8 + 1))
        rw [y0, ar_31, ar_32, ar_3, nI_1, ar_cl (by omega), ar_cl (by omega), ar_cl (by omega), nI_pred]
        refine h _ (fr_put (fr_put (fr_put (fr_put (fr_rf _ _) (by simp)) (by simp)) (by simp)) (by simp)) ⟨x1, x2, x3, x4, x5, x6, ⟨⟨rfl, fun q hq => ?_, y3⟩, y4, y5, y6⟩, ?_⟩
        · have hq : q < f.1.1 + 1 := hq
          have er : ∀ v1 v2 v3, (mm_put (mm_put (mm_put (mm_put μ 25 (3 * f.1.1) v1) 25 (3 * f.1.1 + 1) v2) 25 (3 * f.1.1 + 2) v3) 21 8 (nI (f.1.1 + 1))).1 25 = upd (upd (upd (μ.1 25) (3 * f.1.1) v1) (3 * f.1.1 + 1) v2) (3 * f.1.1 + 2) v3 := fun v1 v2 v3 => by
            rw [mp_ne _ _ _ (show (25 : Nat) ≠ 21 by decide), mp_eq, mp_eq, mp_eq]
          rw [er]
          show _ = nI (updN f.1.2.1 f.1.1 kn q) ∧ _ = nI (updN f.1.2.2.1 f.1.1 pn q) ∧ _ = nI (updN f.1.2.2.2.1 f.1.1 0 q)
          by_cases e : q = f.1.1
          · subst e
            rw [up_ne _ _ (by omega), up_ne _ _ (by omega), up_eq, up_ne _ _ (by omega), up_eq, up_eq]
            simp [updN]; rfl
          · rw [up_ne _ _ (by omega), up_ne _ _ (by omega), up_ne _ _ (by omega), up_ne _ _ (by omega), up_ne _ _ (by omega), up_ne _ _ (by omega), up_ne _ _ (by omega), up_ne _ _ (by omega), up_ne _ _ (by omega)]
            simp only [updN, if_neg e]
            exact y1 q (by omega)
        · cases im with
          | none => exact x8
          | some g => exact x8
      · rw [y0, show (6 : Int32) = nI 6 from rfl, nI_eq (by omega) (by omega)] at c
        have e : F_person (L, pg, D, S, d, f, im) k p = (-104, (L, pg, D, S, d, f, im)) := by simp only [F_person]; rw [if_pos k1, if_pos hp, if_pos c]
        rw [e] at h
        refine hJ 60 _ _ _ _ ?_
        exact h μ (fr_rf _ _) hR0
    · have e : F_person (L, pg, D, S, d, f, im) k p = (-101, (L, pg, D, S, d, f, im)) := by simp only [F_person]; rw [if_pos k1, if_neg hp]
      rw [e] at h
      refine And.intro (fun c => absurd rfl c) (fun _ => ?_)
      refine hJ 60 _ _ _ _ ?_
      exact h μ (fr_rf _ _) hR0
  · have k0 : ¬ pIs 5 k := fun z => k0 (ek.mp z)
    have e : F_person (L, pg, D, S, d, f, im) k p = (-102, (L, pg, D, S, d, f, im)) := by simp only [F_person]; rw [if_neg k0]
    rw [e] at h
    refine And.intro (fun c => absurd rfl c) (fun _ => ?_)
    refine hJ 60 _ _ _ _ ?_
    exact h μ (fr_rf _ _) hR0
