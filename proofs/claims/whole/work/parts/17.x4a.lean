/-! the class: what a number names, letters, dome, place, cloth, people -/
set_option maxRecDepth 20000 in
set_option maxHeartbeats 2000000 in
theorem r_hasDome {Q : mm_R} {μ : mm_M} {D : Nat} (hD : μ.1 0 10 = nI D) (hDl : D < 2 ^ 31) (h1 : 0 < D → Q (some (.int 1)) μ) (h0 : ¬ 0 < D → Q (some (.int 0)) μ) : mm_Runs m_X4_hasDome Q 0 [.ref 0] [] μ := by
  intro J hJ hF
  refine hJ 60 _ _ _ _ ?_
  refine And.intro (fun c => ?_) (fun c => ?_)
  · rw [hD, show (0 : Int32) = nI 0 from rfl, nI_leI (by omega) (by omega)] at c
    refine hJ 60 _ _ _ _ ?_
    exact And.intro (Or.inl rfl) (h0 (by omega))
  · rw [hD, show (0 : Int32) = nI 0 from rfl, nI_leI (by omega) (by omega)] at c
    refine hJ 60 _ _ _ _ ?_
    refine hJ 60 _ _ _ _ ?_
    exact And.intro (Or.inr rfl) (h1 (by omega))
set_option maxRecDepth 20000 in
set_option maxHeartbeats 2000000 in
theorem r_isPlace {Q : mm_R} {μ : mm_M} {D : Nat} {a : Int32} (hD : μ.1 0 10 = nI D) (hDl : D < 2 ^ 31) (h1 : 0 < D ∧ pIs 8 a → Q (some (.int 1)) μ) (h0 : ¬ (0 < D ∧ pIs 8 a) → Q (some (.int 0)) μ) : mm_Runs m_X4_isPlace Q 0 [.ref 0, .int a] [] μ := by
  have e := pIs_iff (n := 8) (a := a) (by omega)
  rw [ar_le, ar_lt, show (nI 8).toInt = 8 from rfl, show (0 : Int32).toInt = 0 from rfl] at e
  intro J hJ hF
  have no : ¬ (0 < D ∧ pIs 8 a) → J 21 [.ref 0, .int a] [] μ := by
    intro z
    refine hJ 60 _ _ _ _ ?_
    exact And.intro (Or.inl rfl) (h0 z)
  refine hJ 60 _ _ _ _ ?_
  refine r_hasDome hD hDl (fun d1 => ?_) (fun d0 => ?_)
  · refine And.intro (fun c => absurd c (by decide)) (fun _ => ?_)
    refine hJ 60 _ _ _ _ ?_
    refine And.intro (fun c => ?_) (fun c => ?_)
    · rw [ar_lt, show (0 : Int32).toInt = 0 from rfl] at c
      exact no (fun z => by have := e.mp z.2; omega)
    · rw [ar_lt, show (0 : Int32).toInt = 0 from rfl] at c
      refine hJ 60 _ _ _ _ ?_
      refine And.intro (fun c2 => ?_) (fun c2 => ?_)
      · rw [ar_le, show (8 : Int32).toInt = 8 from rfl] at c2
        exact no (fun z => by have := e.mp z.2; omega)
      · rw [ar_le, show (8 : Int32).toInt = 8 from rfl] at c2
        refine hJ 60 _ _ _ _ ?_
        refine hJ 60 _ _ _ _ ?_
        exact And.intro (Or.inr rfl) (h1 ⟨d1, e.mpr (by omega)⟩)
  · refine And.intro (fun _ => ?_) (fun c => absurd rfl c)
    exact no (fun z => d0 z.1)
set_option maxRecDepth 20000 in
set_option maxHeartbeats 2000000 in
theorem r_isPerson {Q : mm_R} {μ : mm_M} {n : Nat} {a : Int32} (hn : μ.1 5 0 = nI n) (h6 : n ≤ 6) (h1 : pIs n a → Q (some (.int 1)) μ) (h0 : ¬ pIs n a → Q (some (.int 0)) μ) : mm_Runs m_X4_isPerson Q 0 [.ref 0, .int a] [] μ := by
  have e := pIs_iff (n := n) (a := a) (by omega)
  rw [ar_le, show (0 : Int32).toInt = 0 from rfl] at e
  intro J hJ hF
  have no : ¬ pIs n a → J 19 [.ref 0, .int a] [] μ := by
    intro z
    refine hJ 60 _ _ _ _ ?_
    exact And.intro (Or.inl rfl) (h0 z)
  refine hJ 60 _ _ _ _ ?_
  refine And.intro (fun c => ?_) (fun c => ?_)
  · rw [ar_lt, show (0 : Int32).toInt = 0 from rfl] at c
    exact no (fun z => by have := e.mp z; omega)
  · rw [ar_lt, show (0 : Int32).toInt = 0 from rfl] at c
    refine hJ 60 _ _ _ _ ?_
    refine And.intro (fun c2 => ?_) (fun c2 => ?_)
    · rw [hn] at c2
      exact no (fun z => by have := (e.mp z).2; rw [ar_lt] at this; rw [ar_le] at c2; omega)
    · rw [hn] at c2
      refine hJ 60 _ _ _ _ ?_
      refine hJ 60 _ _ _ _ ?_
      refine And.intro (Or.inr rfl) (h1 (e.mpr ⟨by omega, ?_⟩))
      rw [ar_lt]; rw [ar_le] at c2; omega
set_option maxRecDepth 20000 in
set_option maxHeartbeats 2000000 in
theorem r_isPair {Q : mm_R} {μ : mm_M} {n : Nat} {a b : Int32} (hn : μ.1 5 0 = nI n) (h6 : n ≤ 6) (h1 : pIs n a ∧ pIs n b ∧ a ≠ b → Q (some (.int 1)) μ) (h0 : ¬ (pIs n a ∧ pIs n b ∧ a ≠ b) → Q (some (.int 0)) μ) : mm_Runs m_X4_isPair Q 0 [.ref 0, .int a, .int b] [] μ := by
  intro J hJ hF
  have no : ¬ (pIs n a ∧ pIs n b ∧ a ≠ b) → J 25 [.ref 0, .int a, .int b] [] μ := by
    intro z
    refine hJ 60 _ _ _ _ ?_
    exact And.intro (Or.inl rfl) (h0 z)
  refine hJ 60 _ _ _ _ ?_
  refine r_isPerson hn h6 (fun p1 => ?_) (fun p0 => ?_)
  · refine And.intro (fun c => absurd c (by decide)) (fun _ => ?_)
    refine hJ 60 _ _ _ _ ?_
    refine r_isPerson hn h6 (fun p2 => ?_) (fun p0 => ?_)
    · refine And.intro (fun c => absurd c (by decide)) (fun _ => ?_)
      refine hJ 60 _ _ _ _ ?_
      refine And.intro (fun c => ?_) (fun c => ?_)
      · exact no (fun z => z.2.2 c)
      · refine hJ 60 _ _ _ _ ?_
        refine hJ 60 _ _ _ _ ?_
        exact And.intro (Or.inr rfl) (h1 ⟨p1, p2, c⟩)
    · refine And.intro (fun _ => ?_) (fun c => absurd rfl c)
      exact no (fun z => p0 z.2.1)
  · refine And.intro (fun _ => ?_) (fun c => absurd rfl c)
    exact no (fun z => p0 z.1)
set_option maxRecDepth 20000 in
set_option maxHeartbeats 2000000 in
theorem r_fits {Q : mm_R} {μ : mm_M} {k : Nat} {kv c : Int32} (hk : k < 2 ^ 31) (hkv : kv = nI k) (h1 : gd k c → Q (some (.int 1)) μ) (h0 : ¬ gd k c → Q (some (.int 0)) μ) : mm_Runs m_X4_fitsDome Q 0 [.int kv, .int c] [] μ := by
  subst hkv
  unfold gd at h1 h0
  intro J hJ hF
  refine hJ 60 _ _ _ _ ?_
  refine And.intro (fun q => ?_) (fun q => ?_)
  · rw [show (8 : Int32) = nI 8 from rfl, nI_leI (by omega) (by omega)] at q
    rw [if_neg (by omega)] at h1 h0
    refine hJ 60 _ _ _ _ ?_
    refine And.intro (fun q2 => ?_) (fun q2 => ?_)
    · rw [show (8 : Int32) = nI 8 from rfl, nI_eq (by omega) (by omega)] at q2
      rw [if_neg q2] at h1 h0
      have no : ¬ (k < 17 ∧ 48 ≤ c ∧ c ≤ 57) → J 64 [.int (nI k), .int c] [] μ := by
        intro z
        refine hJ 60 _ _ _ _ ?_
        exact And.intro (Or.inl rfl) (h0 z)
      refine hJ 60 _ _ _ _ ?_
      refine And.intro (fun q3 => ?_) (fun q3 => ?_)
      · rw [show (17 : Int32) = nI 17 from rfl, nI_leI (by omega) (by omega)] at q3
        exact no (fun z => by omega)
      · rw [show (17 : Int32) = nI 17 from rfl, nI_leI (by omega) (by omega)] at q3
        refine hJ 60 _ _ _ _ ?_
        refine And.intro (fun q4 => ?_) (fun q4 => ?_)
        · exact no (fun z => by have := z.2.1; rw [ar_le] at this; rw [ar_lt] at q4; omega)
        · refine hJ 60 _ _ _ _ ?_
          refine And.intro (fun q5 => ?_) (fun q5 => ?_)
          · exact no (fun z => by have := z.2.2; rw [ar_le] at this; rw [ar_lt] at q5; omega)
          · refine hJ 60 _ _ _ _ ?_
            refine hJ 60 _ _ _ _ ?_
            exact And.intro (Or.inr rfl) (h1 ⟨by omega, by rw [ar_le]; rw [ar_lt] at q4; omega, by rw [ar_le]; rw [ar_lt] at q5; omega⟩)
    · rw [show (8 : Int32) = nI 8 from rfl, nI_eq (by omega) (by omega)] at q2
      rw [if_pos q2] at h1 h0
      refine hJ 60 _ _ _ _ ?_
      refine And.intro (fun q3 => ?_) (fun q3 => ?_)
      · refine hJ 60 _ _ _ _ ?_
        exact And.intro (Or.inl rfl) (h0 q3)
      · refine hJ 60 _ _ _ _ ?_
        refine hJ 60 _ _ _ _ ?_
        exact And.intro (Or.inr rfl) (h1 q3)
  · rw [show (8 : Int32) = nI 8 from rfl, nI_leI (by omega) (by omega)] at q
    rw [if_pos (by omega)] at h1 h0
    have no : ¬ (97 ≤ c ∧ c ≤ 104) → J 22 [.int (nI k), .int c] [] μ := by
      intro z
      refine hJ 60 _ _ _ _ ?_
      exact And.intro (Or.inl rfl) (h0 z)
    refine hJ 60 _ _ _ _ ?_
    refine And.intro (fun q4 => ?_) (fun q4 => ?_)
    · exact no (fun z => by have := z.1; rw [ar_le] at this; rw [ar_lt] at q4; omega)
    · refine hJ 60 _ _ _ _ ?_
      refine And.intro (fun q5 => ?_) (fun q5 => ?_)
      · exact no (fun z => by have := z.2; rw [ar_le] at this; rw [ar_lt] at q5; omega)
      · refine hJ 60 _ _ _ _ ?_
        refine hJ 60 _ _ _ _ ?_
        exact And.intro (Or.inr rfl) (h1 ⟨by rw [ar_le]; rw [ar_lt] at q4; omega, by rw [ar_le]; rw [ar_lt] at q5; omega⟩)
set_option maxRecDepth 20000 in
set_option maxHeartbeats 2000000 in
theorem r_xletter {Q : mm_R} {μ : mm_M} {st : st_T} {c : Int32} (hA : AOK st) (hR : RX st μ) (h : ∀ μ', fr XA μ μ' → RX (F_letter st c).2 μ' → Q (some (.int (F_letter st c).1)) μ') : mm_Runs m_X4_letter Q 0 [.ref 0, .int c] [] μ := by
  obtain ⟨L, pg, D, S, d, f, im⟩ := st
  have hR0 := hR
  obtain ⟨hL, -⟩ := hA
  obtain ⟨x1, x2, x3, x4, x5, x6, x7⟩ := hR
  intro J hJ hF
  have no : ¬ (1 ≤ c ∧ c ≤ 126) → J 11 [.ref 0, .int c] [] μ := by
    intro z
    have e : F_letter (L, pg, D, S, d, f, im) c = (-102, (L, pg, D, S, d, f, im)) := by simp only [F_letter]; rw [if_neg z]
    rw [e] at h
    refine hJ 60 _ _ _ _ ?_
    exact h μ (fr_rf _ _) hR0
  refine hJ 60 _ _ _ _ ?_
  refine And.intro (fun c1 => ?_) (fun c1 => ?_)
  · exact no (fun z => by have := z.1; rw [ar_le] at this; rw [ar_lt] at c1; omega)
  refine hJ 60 _ _ _ _ ?_
  refine And.intro (fun c2 => ?_) (fun c2 => ?_)
  · have hc : 1 ≤ c ∧ c ≤ 126 := ⟨by rw [ar_le]; rw [ar_lt] at c1; omega, c2⟩
    refine hJ 60 _ _ _ _ ?_
    refine And.intro (fun c3 => ?_) (fun c3 => ?_)
    · rw [x1, show (20 : Int32) = nI 20 from rfl, nI_ltI (by omega) (by omega)] at c3
      have e : F_letter (L, pg, D, S, d, f, im) c = (nI (L + 1), (L + 1, upd pg L c, D, S, d, f, im)) := by simp only [F_letter]; rw [if_pos hc, if_neg (by omega)]
      rw [e] at h
      refine hJ 60 _ _ _ _ ?_
      refine And.intro (by rw [x1]; exact ar_in (by omega) (by omega)) ?_
      show Q (some (.int (μ.1 0 1 + 1))) (mm_put (mm_put μ 1 (μ.1 0 1).toNatClampNeg c) 0 1 (μ.1 0 1 + 1))
      rw [x1, nI_1, ar_cl (by omega)]
      refine h _ (fr_put (fr_put (fr_rf _ _) (by simp)) (by simp)) ⟨rfl, fun j hj => ?_, x3, x4, x5, x6, ?_⟩
      · show upd (μ.1 1) L c j = upd pg L c j
        by_cases q : j = L
        · subst q; rw [up_eq, up_eq]
        · rw [up_ne _ _ q, up_ne _ _ q]; exact x2 j (by omega)
      · cases im with
        | none => exact x7
        | some g => exact x7
    · rw [x1, show (20 : Int32) = nI 20 from rfl, nI_ltI (by omega) (by omega)] at c3
      have e : F_letter (L, pg, D, S, d, f, im) c = (-104, (L, pg, D, S, d, f, im)) := by simp only [F_letter]; rw [if_pos hc, if_pos (by omega)]
      rw [e] at h
      refine hJ 60 _ _ _ _ ?_
      exact h μ (fr_rf _ _) hR0
  · exact no (fun z => c2 z.2)
set_option maxRecDepth 20000 in
set_option maxHeartbeats 2000000 in
theorem r_xblank {Q : mm_R} {μ : mm_M} {st : st_T} (hR : RX st μ) (h : ∀ μ', fr XA μ μ' → RX (F_blank st).2 μ' → Q (some (.int (F_blank st).1)) μ') : mm_Runs m_X4_blank Q 0 [.ref 0, .null] [] μ := by
  obtain ⟨L, pg, D, S, d, f, im⟩ := st
  obtain ⟨x1, x2, x3, x4, x5, x6, x7⟩ := hR
  intro J hJ hF
  refine hJ 60 _ _ _ _ ?_
  show Q (some (.int (μ.1 0 1))) (mm_put μ 0 1 0)
  rw [x1]
  refine h _ (fr_put (fr_rf _ _) (by simp)) ⟨rfl, fun j hj => absurd hj (Nat.not_lt_zero _), x3, x4, x5, x6, ?_⟩
  cases im with
  | none => exact x7
  | some g => exact x7
set_option maxRecDepth 20000 in
set_option maxHeartbeats 2000000 in
theorem r_fault0 {Q : mm_R} {μ : mm_M} {L : Nat} {pg : Nat → Int32} (hL : L ≤ 20) (x1 : μ.1 0 1 = nI L) (x2 : ∀ j, j < L → μ.1 1 j = pg j) (h : Q (some (.int (nI (flt pg L)))) μ) : mm_Runs m_X4_fault Q 0 [.ref 0, .null] [] μ := by
  intro J hJ hF
  have lp : ∀ k i, k + i = L → (∀ j, j < i → gd j (pg j)) → J 2 [.ref 0, .int (nI i)] [] μ := by
    intro k
    induction k with
    | zero =>
      intro i hk hg
      have e : i = L := by omega
      subst e
      refine hJ 60 _ _ _ _ ?_
      refine And.intro (fun _ => ?_) (fun c => by rw [x1, nI_leI (by omega) (by omega)] at c; omega)
      refine hJ 60 _ _ _ _ ?_
      show Q (some (.int (μ.1 0 1))) μ
      rw [flt_of (i := i) ⟨Nat.le_refl _, hg, fun z => absurd z (Nat.lt_irrefl _)⟩] at h
      rw [x1]; exact h
    | succ k ih =>
      intro i hk hg
      refine hJ 60 _ _ _ _ ?_
      refine And.intro (fun c => by rw [x1, nI_leI (by omega) (by omega)] at c; omega) (fun _ => ?_)
      refine hJ 60 _ _ _ _ ?_
      refine And.intro (ar_in (by omega) (by omega)) ?_
      rw [ar_cl (by omega), x2 i (by omega)]
      refine r_fits (k := i) (by omega) rfl (fun g1 => ?_) (fun g0 => ?_)
      · refine And.intro (fun _ => ?_) (fun c => absurd c (by decide))
        refine hJ 60 _ _ _ _ ?_
        show J 2 [_, .int (nI i + 1)] [] μ
        rw [nI_1]
        refine ih (i + 1) (by omega) (fun j hj => ?_)
        by_cases q : j = i
        · subst q; exact g1
        · exact hg j (by omega)
      · refine And.intro (fun c => absurd rfl c) (fun _ => ?_)
        refine hJ 60 _ _ _ _ ?_
        rw [flt_of (i := i) ⟨by omega, hg, fun _ => g0⟩] at h
        exact h
  refine hJ 2 _ _ _ _ ?_
  exact lp L 0 (by omega) (fun j hj => absurd hj (Nat.not_lt_zero _))
set_option maxRecDepth 20000 in
set_option maxHeartbeats 2000000 in
theorem r_xfault {Q : mm_R} {μ : mm_M} {st : st_T} (hA : AOK st) (hR : RX st μ) (h : Q (some (.int (A_fault st))) μ) : mm_Runs m_X4_fault Q 0 [.ref 0, .null] [] μ := by
  obtain ⟨L, pg, D, S, d, f, im⟩ := st
  exact r_fault0 hA.1 hR.1 hR.2.1 h
set_option maxRecDepth 20000 in
set_option maxHeartbeats 2000000 in
theorem r_xdome {Q : mm_R} {μ : mm_M} {st : st_T} (hA : AOK st) (hR : RX st μ) (h : ∀ μ', fr XA μ μ' → RX (F_dome st).2 μ' → Q (some (.int (F_dome st).1)) μ') : mm_Runs m_X4_dome Q 0 [.ref 0] [] μ := by
  obtain ⟨L, pg, D, S, d, f, im⟩ := st
  have hR0 := hR
  obtain ⟨hL, -⟩ := hA
  obtain ⟨x1, x2, x3, x4, x5, x6, x7⟩ := hR
  have hfl := flt_le pg L
  intro J hJ hF
  have no : ¬ (L = 17 ∧ flt pg L = 17) → J 18 [.ref 0] [] μ := by
    intro z
    have e : F_dome (L, pg, D, S, d, f, im) = (-103, (L, pg, D, S, d, f, im)) := by simp only [F_dome]; rw [if_neg z]
    rw [e] at h
    refine hJ 60 _ _ _ _ ?_
    exact h μ (fr_rf _ _) hR0
  refine hJ 60 _ _ _ _ ?_
  refine And.intro (fun c1 => ?_) (fun c1 => ?_)
  · rw [x1, show (17 : Int32) = nI 17 from rfl, nI_eq (by omega) (by omega)] at c1
    exact no (fun z => c1 z.1)
  rw [x1, show (17 : Int32) = nI 17 from rfl, nI_eq (by omega) (by omega)] at c1
  refine hJ 60 _ _ _ _ ?_
  refine r_fault0 hL x1 x2 ?_
  refine And.intro (fun c2 => ?_) (fun c2 => ?_)
  · rw [show (17 : Int32) = nI 17 from rfl, nI_eq (by have := hfl.1; omega) (by omega)] at c2
    have e : F_dome (L, pg, D, S, d, f, im) = (nI (elsw (dOf pg)), (0, pg, D + 1, S, dOf pg, ((0, f.1.2.1, f.1.2.2.1, f.1.2.2.2.1, 0), 0, (0, f.2.2.2)), none)) := by simp only [F_dome]; rw [if_pos ⟨c1, c2⟩]
    rw [e] at h
    rw [c2] at hfl
    obtain ⟨g1, g2⟩ := dOf_ok hfl.2.1
    refine hJ 60 _ _ _ _ ?_
    refine r_read g1 (fun j hj => ⟨by rw [x2 j (by omega)]; exact (g2 j hj).1, by rw [x2 (9 + j) (by omega)]; exact (g2 j hj).2⟩) (fun μ1 f1 f2 => ?_)
    refine r_clear5 ?_
    refine And.intro (Or.inl rfl) ?_
    have e10 : μ1.1 0 10 = nI D := by rw [f1.1 0 (by decide)]; exact x3
    have e11 : μ1.1 0 11 = nI S := by rw [f1.1 0 (by decide)]; exact x4
    refine r_elsewhere (d := dOf pg) g1 f2 ?_
    refine h _ (fr_put (fr_put (fr_put (fr_put (fr_put (fr_put (fr_put (fr_put (fr_put (fr_w f1 (by simp)) (by simp)) (by simp)) (by simp)) (by simp)) (by simp)) (by simp)) (by simp)) (by simp)) (by simp)) ⟨rfl, fun j hj => absurd hj (Nat.not_lt_zero _), ?_, e11, f2, ⟨⟨rfl, fun q hq => absurd hq (Nat.not_lt_zero _), rfl⟩, rfl, rfl, rfl, rfl⟩, rfl⟩
    show μ1.1 0 10 + 1 = _
    rw [e10, nI_1]
  · rw [show (17 : Int32) = nI 17 from rfl, nI_eq (by have := hfl.1; omega) (by omega)] at c2
    exact no (fun z => c2 z.2)
