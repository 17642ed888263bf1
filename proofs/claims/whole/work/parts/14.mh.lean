/-! the reference: isPerson, isPlace, laterBy, layHears, hearers, hearsOf -/
theorem ar_3 (a : Nat) : (3 : Int32) * nI a = nI (3 * a) := pk_mul 3 a
theorem ar_31 (a : Nat) : (3 : Int32) * nI a + 1 = nI (3 * a + 1) := by rw [ar_3, nI_1]
theorem ar_32 (a : Nat) : (3 : Int32) * nI a + 2 = nI (3 * a + 2) := by rw [ar_3, show (2 : Int32) = nI 2 from rfl, nI_add]
def MR (s : sc_T) (μ : mm_M) : Prop := μ.1 21 8 = nI s.1 ∧ ∀ q, q < s.1 → μ.1 25 (3 * q) = nI (s.2.1 q) ∧ μ.1 25 (3 * q + 1) = nI (s.2.2.1 q) ∧ μ.1 25 (3 * q + 2) = nI (s.2.2.2.1 q)
def wc (s : sc_T) (c : Nat) : sc_T := (s.1, s.2.1, s.2.2.1, s.2.2.2.1, c)
theorem MS_R {s : sc_T} {μ : mm_M} (h : MS s μ) : MR s μ := ⟨h.1, h.2.1⟩
theorem MR_fr {s : sc_T} {μ μ' : mm_M} (h : MR s μ) (h0 : μ'.1 21 8 = μ.1 21 8) (h2 : μ'.1 25 = μ.1 25) : MR s μ' := ⟨by rw [h0]; exact h.1, fun q hq => by rw [h2]; exact h.2 q hq⟩
set_option maxRecDepth 20000 in
set_option maxHeartbeats 2000000 in
theorem r_misPerson {Q : mm_R} {μ : mm_M} {n : Nat} {a : Int32} (hn : n ≤ 6) (hp : μ.1 21 8 = nI n) (h1 : pIs n a → Q (some (.int 1)) μ) (h0 : ¬ pIs n a → Q (some (.int 0)) μ) : mm_Runs m_X5_isPerson Q 0 [.ref 21, .int a] [] μ := by
  have e : pIs n a ↔ (0 : Int64) ≤ a.toInt64 ∧ a.toInt64 ≤ (μ.1 21 8 - 1).toInt64 := by
    rw [pIs_iff (by omega), hp, Int64.le_iff_toInt_le, Int64.le_iff_toInt_le, Int32.toInt_toInt64, Int32.toInt_toInt64, ar_le, ar_lt, nI_toInt (by omega)]
    have : (nI n - 1).toInt = (n : Int) - 1 := by
      have := pk_sub_toInt (a := n) (b := 1) (by omega) (by omega)
      exact this
    rw [this]
    show 0 ≤ a.toInt ∧ a.toInt < (n : Int) ↔ 0 ≤ a.toInt ∧ _
    constructor <;> intro z <;> omega
  intro J hJ hF
  refine hJ 60 _ _ _ _ ?_
  refine r_in (fun c => ?_) (fun c => ?_)
  · exact And.intro (Or.inr rfl) (h1 (e.mpr c))
  · exact And.intro (Or.inl rfl) (h0 (fun z => c (e.mp z)))
set_option maxRecDepth 20000 in
set_option maxHeartbeats 2000000 in
theorem r_misPlace {Q : mm_R} {μ : mm_M} {t : Nat} {a : Int32} (ht : μ.1 21 2 = nI t) (ht1 : t ≤ 1) (h1 : t = 1 → pIs 8 a → Q (some (.int 1)) μ) (h0 : ¬ (t = 1 ∧ pIs 8 a) → Q (some (.int 0)) μ) : mm_Runs m_X5_isPlace Q 0 [.ref 21, .int a] [] μ := by
  have e : pIs 8 a ↔ (0 : Int64) ≤ a.toInt64 ∧ a.toInt64 ≤ (7 : Int64) := by
    rw [pIs_iff (by omega), Int64.le_iff_toInt_le, Int64.le_iff_toInt_le, Int32.toInt_toInt64, ar_le, ar_lt]
    show 0 ≤ a.toInt ∧ a.toInt < 8 ↔ 0 ≤ a.toInt ∧ a.toInt ≤ 7
    constructor <;> intro z <;> omega
  intro J hJ hF
  refine hJ 60 _ _ _ _ ?_
  refine And.intro (fun c => ?_) (fun c => ?_)
  · rw [ht, show (0 : Int32) = nI 0 from rfl, nI_eq (by omega) (by omega)] at c
    refine hJ 60 _ _ _ _ ?_
    exact And.intro (Or.inl rfl) (h0 (fun z => by omega))
  · rw [ht, show (0 : Int32) = nI 0 from rfl, nI_eq (by omega) (by omega)] at c
    refine hJ 60 _ _ _ _ ?_
    refine r_in (fun c2 => ?_) (fun c2 => ?_)
    · refine And.intro (fun c => absurd c (by decide)) (fun _ => ?_)
      refine hJ 60 _ _ _ _ ?_
      refine hJ 60 _ _ _ _ ?_
      exact And.intro (Or.inr rfl) (h1 (by omega) (e.mpr c2))
    · refine And.intro (fun _ => ?_) (fun c => absurd rfl c)
      refine hJ 60 _ _ _ _ ?_
      exact And.intro (Or.inl rfl) (h0 (fun z => c2 (e.mp z.2)))
set_option maxRecDepth 20000 in
set_option maxHeartbeats 2000000 in
theorem r_laterBy {Q : mm_R} {μ : mm_M} {d : dm_T} {s : sc_T} {a b : Nat} {av bv cv : Int32} (hd : dOK d) (hs : sOK s) (hM : MD d μ) (hR : MR s μ) (ha : a < s.1) (hb : b < s.1) (hav : av = nI a) (hbv : bv = nI b) (hcv : cv = nI s.2.2.2.2) (h : Q (some (.int (nI (eW d s a b)))) μ) : mm_Runs m_X5_laterBy Q 0 [.ref 21, .int av, .int bv, .int cv, .null, .null, .null, .null] [] μ := by
  subst hav; subst hbv; subst hcv
  have h6 := hs.1
  have hc := hs.2.2
  obtain ⟨ka, pa, -⟩ := hs.2.1 a ha
  obtain ⟨kb, pb, -⟩ := hs.2.1 b hb
  obtain ⟨ga, ta⟩ := hd _ pa
  obtain ⟨r1, r2, -⟩ := hR.2 a ha
  obtain ⟨q1, q2, -⟩ := hR.2 b hb
  obtain ⟨g1, g2⟩ := hM _ pa
  have e1 : μ.1 25 ((3 : Int32) * nI a + 1).toNatClampNeg = nI (s.2.2.1 a) := by rw [ar_31, ar_cl (by omega)]; exact r2
  have e2 : μ.1 25 ((3 : Int32) * nI b + 1).toNatClampNeg = nI (s.2.2.1 b) := by rw [ar_31, ar_cl (by omega)]; exact q2
  have e3 : μ.1 25 ((3 : Int32) * nI a).toNatClampNeg = nI (s.2.1 a) := by rw [ar_3, ar_cl (by omega)]; exact r1
  have e4 : μ.1 25 ((3 : Int32) * nI b).toNatClampNeg = nI (s.2.1 b) := by rw [ar_3, ar_cl (by omega)]; exact q1
  intro J hJ hF
  refine hJ 60 _ _ _ _ ?_
  refine And.intro (by rw [ar_31]; exact ar_in (by omega) (by omega)) ?_
  rw [e1]
  refine And.intro (by rw [ar_31]; exact ar_in (by omega) (by omega)) ?_
  rw [e2]
  refine And.intro (by rw [ar_3]; exact ar_in (by omega) (by omega)) ?_
  rw [e3]
  refine And.intro (by rw [ar_3]; exact ar_in (by omega) (by omega)) ?_
  rw [e4]
  refine And.intro (fun c => ?_) (fun c => ?_)
  · rw [show (1 : Int32) = nI 1 from rfl, nI_eq (by omega) (by omega)] at c
    refine hJ 60 _ _ _ _ ?_
    refine And.intro (fun c2 => ?_) (fun c2 => ?_)
    · rw [nI_eq (by omega) (by omega)] at c2
      -- passes
      have st : ∀ (ps : Int32), (ps = 0 ∨ ps = 1) → (ps = 1 ↔ (s.2.2.2.2.testBit (s.2.2.1 b) = false ∨ s.2.1 a = 4)) → J 79 [.ref 21, .int (nI a), .int (nI b), .int (nI s.2.2.2.2), .int (nI (s.2.2.1 a)), .int (nI (s.2.2.1 b)), .int (nI (s.2.1 a)), .null] [.int ps] μ := by
        intro ps hps hps2
        have no : ¬ (d.1 (s.2.2.1 a) = s.2.2.1 b ∧ (s.2.2.2.2.testBit (s.2.2.1 b) = false ∨ s.2.1 a = 4)) → J 108 [.ref 21, .int (nI a), .int (nI b), .int (nI s.2.2.2.2), .int (nI (s.2.2.1 a)), .int (nI (s.2.2.1 b)), .int (nI (s.2.1 a)), .int ps] [] μ := by
          intro hn
          refine hJ 60 _ _ _ _ ?_
          unfold eW at h
          rw [if_neg c, if_neg c2, if_neg hn] at h
          exact h
        refine hJ 60 _ _ _ _ ?_
        refine And.intro (ar_in pa (by omega)) ?_
        refine And.intro (fun c3 => ?_) (fun c3 => ?_)
        · rw [ar_cl (by omega), g1, nI_eq (by omega) (by omega)] at c3
          exact no (fun z => c3 z.1)
        · rw [ar_cl (by omega), g1, nI_eq (by omega) (by omega)] at c3
          refine hJ 60 _ _ _ _ ?_
          refine And.intro (fun c4 => ?_) (fun c4 => ?_)
          · exact no (fun z => by have := hps2.mpr z.2; rw [c4] at this; exact absurd this (by decide))
          · refine hJ 60 _ _ _ _ ?_
            refine And.intro (ar_in pa (by omega)) ?_
            refine hJ 60 _ _ _ _ ?_
            unfold eW at h
            rw [if_neg c, if_neg c2, if_pos ⟨c3, hps2.mp (hps.resolve_left c4)⟩] at h
            show Q (some (.int (μ.1 24 (nI (s.2.2.1 a)).toNatClampNeg))) μ
            rw [ar_cl (by omega), g2]
            exact h
      refine hJ 60 _ _ _ _ ?_
      refine And.intro (fun c3 => ?_) (fun c3 => ?_)
      · rw [ar_bitv (by omega) (by omega), show (0 : Int32) = nI 0 from rfl, nI_eq (by split <;> omega) (by omega)] at c3
        have c3' : s.2.2.2.2.testBit (s.2.2.1 b) = false := by
          cases hq : s.2.2.2.2.testBit (s.2.2.1 b) with
          | false => rfl
          | true => rw [hq] at c3; simp at c3
        refine hJ 60 _ _ _ _ ?_
        exact st 1 (Or.inr rfl) ⟨fun _ => Or.inl c3', fun _ => rfl⟩
      · rw [ar_bitv (by omega) (by omega), show (0 : Int32) = nI 0 from rfl, nI_eq (by split <;> omega) (by omega)] at c3
        have c3' : ¬ s.2.2.2.2.testBit (s.2.2.1 b) = false := by
          intro hq; rw [hq] at c3; simp at c3
        refine hJ 60 _ _ _ _ ?_
        refine And.intro (fun c4 => ?_) (fun c4 => ?_)
        · rw [show (4 : Int32) = nI 4 from rfl, nI_eq (by omega) (by omega)] at c4
          refine hJ 1 _ _ _ _ ?_
          exact st 0 (Or.inl rfl) ⟨fun z => absurd z (by decide), fun z => by
            rcases z with z | z
            · exact absurd z c3'
            · exact absurd z c4⟩
        · rw [show (4 : Int32) = nI 4 from rfl, nI_eq (by omega) (by omega)] at c4
          refine hJ 60 _ _ _ _ ?_
          exact st 1 (Or.inr rfl) ⟨fun _ => Or.inr c4, fun _ => rfl⟩
    · rw [nI_eq (by omega) (by omega)] at c2
      refine hJ 60 _ _ _ _ ?_
      unfold eW at h
      rw [if_neg c, if_pos c2] at h
      exact h
  · rw [show (1 : Int32) = nI 1 from rfl, nI_eq (by omega) (by omega)] at c
    refine hJ 60 _ _ _ _ ?_
    unfold eW at h
    rw [if_pos c] at h
    exact h
def sm (D : Nat → Nat) : Nat → Nat
  | 0 => 0
  | n + 1 => sm D n + D n
theorem sm_cong {D E : Nat → Nat} : ∀ {n : Nat}, (∀ b, b < n → D b = E b) → sm D n = sm E n
  | 0, _ => rfl
  | n + 1, h => by rw [sm, sm, sm_cong (fun b hb => h b (by omega)), h n (by omega)]
theorem sm_up {D : Nat → Nat} {i v : Nat} : ∀ {n : Nat}, i < n → v < D i → sm (fun b => if b = i then v else D b) n < sm D n
  | 0, h, _ => absurd h (Nat.not_lt_zero _)
  | n + 1, h, hv => by
    rw [sm, sm]
    by_cases e : n = i
    · subst e
      have : sm (fun b => if b = n then v else D b) n = sm D n := sm_cong (fun b hb => if_neg (by omega))
      rw [this, if_pos rfl]; omega
    · have := sm_up (D := D) (v := v) (n := n) (i := i) (by omega) hv
      rw [if_neg e]; omega
/-- what always holds of the minutes while the reference lays them -/
def BF (d : dm_T) (s : sc_T) (o : Nat) (D : Nat → Nat) : Prop := (∀ b, b < s.1 → D b ≤ 9999) ∧ D o = 0 ∧ ∀ b, b < s.1 → D b < 9999 → ∃ m, Pt d s o m b (D b)
set_option maxRecDepth 20000 in
set_option maxHeartbeats 2000000 in
theorem r_layHears {Q : mm_R} {μ : mm_M} {d : dm_T} {s : sc_T} {o : Nat} {ov cv : Int32} (hd : dOK d) (hs : sOK s) (hM : MD d μ) (hR : MR s μ) (ho : o < s.1) (hov : ov = nI o) (hcv : cv = nI s.2.2.2.2)
    (h : ∀ μ', fr [26] μ μ' → (∀ b, b < s.1 → μ'.1 26 b = nI (hT d s o b) ∧ hT d s o b ≤ 9999) → Q none μ') : mm_Runs m_X5_layHears Q 0 [.ref 21, .int ov, .int cv, .null, .null, .null, .null, .null, .null] [] μ := by
  subst hov; subst hcv
  have h6 := hs.1
  obtain ⟨ko, -, -⟩ := hs.2.1 o ho
  intro J hJ hF
  have end47 : s.2.1 o ≠ 3 → ∀ (D : Nat → Nat) μ', fr [26] μ μ' → (∀ b, b < s.1 → μ'.1 26 b = nI (D b)) → HR d s o D → J 47 [.ref 21, .int (nI o), .int (nI s.2.2.2.2), .int 0, .null, .null, .null, .null, .null] [] μ' := by
    intro hk3 D μ' f1 m1 hHR
    refine hJ 60 _ _ _ _ ?_
    refine And.intro (fun c => ?_) (fun c => absurd rfl c)
    refine hJ 60 _ _ _ _ ?_
    exact h μ' f1 (fun b hb => by rw [hT_of ho hk3 hHR b hb]; exact ⟨m1 b hb, hHR.1 b hb⟩)
  have outer : s.2.1 o ≠ 3 → ∀ N (D : Nat → Nat) μ', sm D s.1 < N → fr [26] μ μ' → (∀ b, b < s.1 → μ'.1 26 b = nI (D b)) → BF d s o D → J 47 [.ref 21, .int (nI o), .int (nI s.2.2.2.2), .int 1, .null, .null, .null, .null, .null] [] μ' := by
    intro hk3 N
    induction N with
    | zero => intro D μ' hN; exact absurd hN (Nat.not_lt_zero _)
    | succ N ih =>
      intro D0 μ0 hN f0 m0 b0
      refine hJ 60 _ _ _ _ ?_
      refine And.intro (fun c => absurd c (by decide)) (fun _ => ?_)
      have inner : ∀ j k (D : Nat → Nat) μ' (g : Int32), j + k = 36 → fr [26] μ μ' → (∀ b, b < s.1 → μ'.1 26 b = nI (D b)) → BF d s o D → ((g = 0 ∧ D = D0 ∧ ∀ i, i < k → i / 6 < s.1 → i % 6 < s.1 → D0 (i / 6) < 9999 → spk s o (i / 6) → eW d s (i / 6) (i % 6) < 9999 → D0 (i % 6) ≤ D0 (i / 6) + eW d s (i / 6) (i % 6)) ∨ (g = 1 ∧ sm D s.1 < sm D0 s.1)) → J 56 [.ref 21, .int (nI o), .int (nI s.2.2.2.2), .int g, .int (nI k), .null, .null, .null, .null] [] μ' := by
        intro j
        induction j with
        | zero =>
          intro k D μ' g hk f1 m1 b1 hg1
          have e : k = 36 := by omega
          subst e
          refine hJ 60 _ _ _ _ ?_
          refine And.intro (fun c => ?_) (fun c => absurd (show (36 : Int32) ≤ nI 36 by decide) c)
          refine hJ 60 _ _ _ _ ?_
          refine hF [4] _ _ _ _ ?_
          rcases hg1 with ⟨rfl, rfl, z2⟩ | ⟨rfl, z⟩
          · refine end47 hk3 D μ' f1 m1 ⟨b1.1, b1.2.1, fun a b ha hb q1 q2 q3 => ?_, b1.2.2⟩
            have e1 : (6 * a + b) / 6 = a := by omega
            have e2 : (6 * a + b) % 6 = b := by omega
            have := z2 (6 * a + b) (by omega)
            rw [e1, e2] at this
            exact this ha hb q1 q2 q3
          · exact ih D μ' (by omega) f1 m1 b1
        | succ j ihj =>
          intro k D μ' g hk f1 m1 b1 hg1
          have hk36 : k < 36 := by omega
          have ed : nI k / 6 = nI (k / 6) := pk_div (a := k) (d := 6) (by omega) (by omega) (by omega)
          have er : nI k - nI k / 6 * 6 = nI (k % 6) := pk_rem (a := k) (d := 6) (by omega) (by omega) (by omega)
          have hg01 : g = 0 ∨ g = 1 := by rcases hg1 with z | z <;> simp [z.1]
          have hple : sm D s.1 ≤ sm D0 s.1 := by
            rcases hg1 with ⟨-, rfl, -⟩ | ⟨-, z⟩
            · exact Nat.le_refl _
            · omega
          have ep : μ'.1 21 8 = nI s.1 := by rw [f1.1 21 (by decide)]; exact hR.1
          have nxt : ∀ (w7 w8 : Value) (D' : Nat → Nat) μ'' (g' : Int32), fr [26] μ μ'' → (∀ b, b < s.1 → μ''.1 26 b = nI (D' b)) → BF d s o D' → ((g' = 0 ∧ D' = D0 ∧ ∀ i, i < k + 1 → i / 6 < s.1 → i % 6 < s.1 → D0 (i / 6) < 9999 → spk s o (i / 6) → eW d s (i / 6) (i % 6) < 9999 → D0 (i % 6) ≤ D0 (i / 6) + eW d s (i / 6) (i % 6)) ∨ (g' = 1 ∧ sm D' s.1 < sm D0 s.1)) → J 230 [.ref 21, .int (nI o), .int (nI s.2.2.2.2), .int g', .int (nI k), .int (nI (k / 6)), .int (nI (k % 6)), w7, w8] [] μ'' := by
            intro w7 w8 D' μ'' g' z1 z2 z3 z4
            refine hJ 60 _ _ _ _ ?_
            refine hF [5, 6, 7, 8] _ _ _ _ ?_
            show J 56 [_, _, _, _, .int (nI k + 1), .null, .null, .null, .null] [] μ''
            rw [nI_1]
            exact ihj (k + 1) D' μ'' g' (by omega) z1 z2 z3 z4
          have same : ∀ (w7 w8 : Value) μ'', (k / 6 < s.1 → k % 6 < s.1 → D (k / 6) < 9999 → spk s o (k / 6) → eW d s (k / 6) (k % 6) < 9999 → D (k % 6) ≤ D (k / 6) + eW d s (k / 6) (k % 6)) → fr [26] μ μ'' → (∀ b, b < s.1 → μ''.1 26 b = nI (D b)) → J 230 [.ref 21, .int (nI o), .int (nI s.2.2.2.2), .int g, .int (nI k), .int (nI (k / 6)), .int (nI (k % 6)), w7, w8] [] μ'' := by
            intro w7 w8 μ'' vac z1 z2
            refine nxt w7 w8 D μ'' g z1 z2 b1 ?_
            rcases hg1 with ⟨y1, y2, y3⟩ | y
            · refine Or.inl ⟨y1, y2, fun i hi => ?_⟩
              by_cases e : i = k
              · subst e; rw [← y2]; exact vac
              · exact y3 i (by omega)
            · exact Or.inr y
          refine hJ 60 _ _ _ _ ?_
          refine And.intro (fun c => ?_) (fun _ => ?_)
          · rw [show (36 : Int32) = nI 36 from rfl, nI_leI (by omega) (by omega)] at c; omega
          refine hJ 60 _ _ _ _ ?_
          refine And.intro (by decide) ?_
          rw [ed]
          refine And.intro (by decide) ?_
          rw [er]
          refine r_misPerson h6 ep (fun p1 => ?_) (fun p0 => ?_)
          · refine And.intro (fun c => absurd c (by decide)) (fun _ => ?_)
            have hka : k / 6 < s.1 := by
              obtain ⟨q, y1, y2⟩ := p1
              have := nI_inj (by omega) (by omega) y2
              omega
            refine hJ 60 _ _ _ _ ?_
            refine r_misPerson h6 ep (fun p1 => ?_) (fun p0 => ?_)
            · refine And.intro (fun c => absurd c (by decide)) (fun _ => ?_)
              have hkb : k % 6 < s.1 := by
                obtain ⟨q, y1, y2⟩ := p1
                have := nI_inj (by omega) (by omega) y2
                omega
              have Da := b1.1 _ hka
              have Db := b1.1 _ hkb
              have ma : μ'.1 26 (nI (k / 6)).toNatClampNeg = nI (D (k / 6)) := by rw [ar_cl (by omega)]; exact m1 _ hka
              have mb : μ'.1 26 (nI (k % 6)).toNatClampNeg = nI (D (k % 6)) := by rw [ar_cl (by omega)]; exact m1 _ hkb
              obtain ⟨kka, -, -⟩ := hs.2.1 _ hka
              have ra : μ'.1 25 ((3 : Int32) * nI (k / 6)).toNatClampNeg = nI (s.2.1 (k / 6)) := by rw [ar_3, ar_cl (by omega), f1.1 25 (by decide)]; exact (hR.2 _ hka).1
              have hWle : eW d s (k / 6) (k % 6) ≤ 9999 := by
                rcases Nat.lt_or_ge (eW d s (k / 6) (k % 6)) 9999 with y | y
                · omega
                · unfold eW at y ⊢
                  split
                  · omega
                  · split
                    · omega
                    · split
                      · have := (hd _ (hs.2.1 _ hka).2.1).2; omega
                      · omega
              refine hJ 60 _ _ _ _ ?_
              refine And.intro (ar_in (by omega) (by omega)) ?_
              refine And.intro (fun c => ?_) (fun c => ?_)
              · rw [ma, show (9999 : Int32) = nI 9999 from rfl, nI_leI (by omega) (by omega)] at c
                exact same _ _ μ' (fun _ _ y => by omega) f1 m1
              rw [ma, show (9999 : Int32) = nI 9999 from rfl, nI_leI (by omega) (by omega)] at c
              have st175 : ∀ (sy : Int32) (v : Nat), (v = 9999 ∧ ¬ spk s o (k / 6)) ∨ (v = D (k / 6) + eW d s (k / 6) (k % 6) ∧ spk s o (k / 6)) → J 175 [.ref 21, .int (nI o), .int (nI s.2.2.2.2), .int g, .int (nI k), .int (nI (k / 6)), .int (nI (k % 6)), .int sy, .null] [.int (nI v)] μ' := by
                intro sy v hv
                have hv2 : v < 20000 := by rcases hv with y | y <;> omega
                have stw : ∀ (g' : Int32) (x : Nat), (D (k % 6) ≤ v → x = D (k % 6) ∧ g' = g) → (v < D (k % 6) → x = v ∧ g' = 1) → J 229 [.ref 21, .int (nI o), .int (nI s.2.2.2.2), .int g', .int (nI k), .int (nI (k / 6)), .int (nI (k % 6)), .int sy, .int (nI v)] [.int (nI x), .int (nI (k % 6)), .ref 26] μ' := by
                  intro g' x x1 x2
                  refine hJ 1 _ _ _ _ ?_
                  refine And.intro (ar_in (by omega) (by omega)) ?_
                  rcases Nat.lt_or_ge v (D (k % 6)) with y | y
                  · obtain ⟨rfl, rfl⟩ := x2 y
                    rcases hv with ⟨w1, w2⟩ | ⟨w1, w2⟩
                    · omega
                    have hne : k % 6 ≠ o := fun e => by rw [e, b1.2.1] at y; omega
                    have he : eW d s (k / 6) (k % 6) < 9999 := by omega
                    refine nxt _ _ (fun b => if b = k % 6 then x else D b) _ 1 (fr_put f1 (by simp)) (fun b hb => ?_) ⟨fun b hb => ?_, ?_, fun b hb q => ?_⟩ (Or.inr ⟨rfl, ?_⟩)
                    · rw [mp_eq, ar_cl (by omega)]
                      by_cases e : b = k % 6
                      · subst e; rw [up_eq, if_pos rfl]
                      · rw [up_ne _ _ e, if_neg e]; exact m1 b hb
                    · have := b1.1 b hb
                      by_cases e : b = k % 6
                      · simp only [if_pos e]; omega
                      · simp only [if_neg e]; omega
                    · simp only [if_neg (fun e : o = k % 6 => hne e.symm)]; exact b1.2.1
                    · by_cases e : b = k % 6
                      · subst e
                        simp only [if_pos rfl]
                        obtain ⟨m, hm⟩ := b1.2.2 _ hka (by omega)
                        exact ⟨m + 1, k / 6, D (k / 6), hm, hka, hkb, w2, he, w1⟩
                      · simp only [if_neg e] at q ⊢
                        exact b1.2.2 b hb q
                    · exact Nat.lt_of_lt_of_le (sm_up hkb y) hple
                  · obtain ⟨rfl, rfl⟩ := x1 y
                    refine same _ _ _ (fun _ _ _ y4 y5 => ?_) (fr_put f1 (by simp)) (fun b hb => ?_)
                    · rcases hv with ⟨w1, w2⟩ | ⟨w1, w2⟩
                      · exact absurd y4 w2
                      · omega
                    · rw [mp_eq, ar_cl (by omega)]
                      by_cases e : b = k % 6
                      · subst e; rw [up_eq]
                      · rw [up_ne _ _ e]; exact m1 b hb
                have st198 : ∀ (g' : Int32), (D (k % 6) ≤ v → g' = g) → (v < D (k % 6) → g' = 1) → J 198 [.ref 21, .int (nI o), .int (nI s.2.2.2.2), .int g, .int (nI k), .int (nI (k / 6)), .int (nI (k % 6)), .int sy, .int (nI v)] [.int g'] μ' := by
                  intro g' x1 x2
                  refine hJ 60 _ _ _ _ ?_
                  refine And.intro (ar_in (by omega) (by omega)) ?_
                  refine And.intro (fun c2 => ?_) (fun c2 => ?_)
                  · rw [mb, nI_leI (by omega) (by omega)] at c2
                    refine hJ 4 _ _ _ _ ?_
                    refine And.intro (ar_in (by omega) (by omega)) ?_
                    rw [mb]
                    exact stw g' (D (k % 6)) (fun _ => ⟨rfl, x1 c2⟩) (fun y => by omega)
                  · rw [mb, nI_leI (by omega) (by omega)] at c2
                    refine hJ 60 _ _ _ _ ?_
                    exact stw g' v (fun y => by omega) (fun y => ⟨rfl, x2 y⟩)
                refine hJ 60 _ _ _ _ ?_
                have g193 : (D (k % 6) ≤ v → 1 = g) → J 193 [.ref 21, .int (nI o), .int (nI s.2.2.2.2), .int g, .int (nI k), .int (nI (k / 6)), .int (nI (k % 6)), .int sy, .int (nI v)] [] μ' := by
                  intro x1
                  refine hJ 60 _ _ _ _ ?_
                  exact st198 1 x1 (fun _ => rfl)
                refine And.intro (fun c2 => ?_) (fun c2 => ?_)
                · exact g193 (fun _ => (hg01.resolve_left c2).symm)
                · refine hJ 60 _ _ _ _ ?_
                  refine And.intro (ar_in (by omega) (by omega)) ?_
                  refine And.intro (fun c3 => ?_) (fun c3 => ?_)
                  · rw [mb, nI_leI (by omega) (by omega)] at c3
                    refine hJ 1 _ _ _ _ ?_
                    exact st198 0 (fun _ => c2.symm) (fun y => by omega)
                  · rw [mb, nI_leI (by omega) (by omega)] at c3
                    exact g193 (fun y => by omega)
              have st145 : ∀ (sy : Int32), (sy = 0 ∨ sy = 1) → (sy = 1 ↔ spk s o (k / 6)) → J 145 [.ref 21, .int (nI o), .int (nI s.2.2.2.2), .int g, .int (nI k), .int (nI (k / 6)), .int (nI (k % 6)), .null, .null] [.int sy] μ' := by
                intro sy hsy hsp
                refine hJ 60 _ _ _ _ ?_
                refine And.intro (fun c2 => ?_) (fun c2 => ?_)
                · refine hJ 1 _ _ _ _ ?_
                  exact st175 sy 9999 (Or.inl ⟨rfl, fun y => by have := hsp.mpr y; rw [c2] at this; exact absurd this (by decide)⟩)
                · refine hJ 60 _ _ _ _ ?_
                  refine And.intro (ar_in (by omega) (by omega)) ?_
                  rw [ma]
                  refine r_laterBy (d := d) (s := s) (a := k / 6) (b := k % 6) hd hs (MD_fr hM (f1.1 23 (by decide)) (f1.1 24 (by decide))) (MR_fr hR (by rw [f1.1 21 (by decide)]) (f1.1 25 (by decide))) hka hkb rfl rfl rfl ?_
                  show J 175 _ [.int (nI (D (k / 6)) + nI (eW d s (k / 6) (k % 6)))] μ'
                  rw [nI_add]
                  exact st175 sy _ (Or.inr ⟨rfl, hsp.mp (hsy.resolve_left c2)⟩)
              have s1 : spk s o (k / 6) → J 140 [.ref 21, .int (nI o), .int (nI s.2.2.2.2), .int g, .int (nI k), .int (nI (k / 6)), .int (nI (k % 6)), .null, .null] [] μ' := by
                intro y
                refine hJ 60 _ _ _ _ ?_
                exact st145 1 (Or.inr rfl) ⟨fun _ => y, fun _ => rfl⟩
              refine hJ 60 _ _ _ _ ?_
              refine And.intro (fun c2 => ?_) (fun c2 => ?_)
              · exact s1 (Or.inl (nI_inj (by omega) (by omega) c2))
              · refine hJ 60 _ _ _ _ ?_
                refine And.intro (by rw [ar_3]; exact ar_in (by omega) (by omega)) ?_
                rw [ra]
                refine And.intro (fun c3 => ?_) (fun c3 => ?_)
                · exact s1 (Or.inr (Or.inl (nI_inj (b := 2) (by omega) (by omega) c3)))
                · refine hJ 60 _ _ _ _ ?_
                  refine And.intro (by rw [ar_3]; exact ar_in (by omega) (by omega)) ?_
                  rw [ra]
                  refine And.intro (fun c4 => ?_) (fun c4 => ?_)
                  · refine hJ 1 _ _ _ _ ?_
                    refine st145 0 (Or.inl rfl) ⟨fun y => absurd y (by decide), fun y => ?_⟩
                    rcases y with y | y | y
                    · exact absurd (by rw [y]) c2
                    · exact absurd (by rw [y]; rfl) c3
                    · exact absurd (by rw [y]; rfl) c4
                  · exact s1 (Or.inr (Or.inr (nI_inj (b := 4) (by omega) (by omega) c4)))
            · refine And.intro (fun _ => ?_) (fun c => absurd rfl c)
              exact same _ _ μ' (fun _ y => absurd ⟨_, y, rfl⟩ p0) f1 m1
          · refine And.intro (fun _ => ?_) (fun c => absurd rfl c)
            exact same _ _ μ' (fun y => absurd ⟨_, y, rfl⟩ p0) f1 m1
      refine hJ 4 _ _ _ _ ?_
      exact inner 36 0 D0 μ0 0 (by omega) f0 m0 b0 (Or.inl ⟨rfl, rfl, fun i hi => absurd hi (Nat.not_lt_zero _)⟩)
  have first : ∀ k i μ', k + i = s.1 → fr [26] μ μ' → (∀ b, b < i → μ'.1 26 b = nI 9999) → J 2 [.ref 21, .int (nI o), .int (nI s.2.2.2.2), .int (nI i), .null, .null, .null, .null, .null] [] μ' := by
    intro k
    induction k with
    | zero =>
      intro i μ' hk f1 f2
      have ep : μ'.1 21 8 = nI s.1 := by rw [f1.1 21 (by decide)]; exact hR.1
      have ra : μ'.1 25 ((3 : Int32) * nI o).toNatClampNeg = nI (s.2.1 o) := by rw [ar_3, ar_cl (by omega), f1.1 25 (by decide)]; exact (hR.2 _ ho).1
      refine hJ 60 _ _ _ _ ?_
      refine And.intro (fun _ => ?_) (fun c => by rw [ep, nI_leI (by omega) (by omega)] at c; omega)
      refine hJ 60 _ _ _ _ ?_
      refine And.intro (by rw [ar_3]; exact ar_in (by omega) (by omega)) ?_
      rw [ra]
      refine And.intro (fun c => ?_) (fun c => ?_)
      · have hk3 : s.2.1 o ≠ 3 := fun e => c (by rw [e]; rfl)
        refine hJ 7 _ _ _ _ ?_
        refine And.intro (ar_in (by omega) (by omega)) ?_
        refine outer hk3 _ (fun b => if b = o then 0 else 9999) _ (Nat.lt_succ_self _) (fr_put f1 (by simp)) (fun b hb => ?_) ⟨fun b hb => ?_, if_pos rfl, fun b hb q => ?_⟩
        · rw [mp_eq, ar_cl (by omega)]
          by_cases e : b = o
          · subst e; rw [up_eq, if_pos rfl]; rfl
          · rw [up_ne _ _ e, if_neg e]; exact f2 b (by omega)
        · simp only; split <;> omega
        · by_cases e : b = o
          · subst e; exact ⟨0, rfl, by simp⟩
          · simp [e] at q
      · have hk3 : s.2.1 o = 3 := nI_inj (b := 3) (by omega) (by omega) c
        refine hJ 60 _ _ _ _ ?_
        exact h μ' f1 (fun b hb => by rw [hT_mute hk3]; exact ⟨f2 b (by omega), by omega⟩)
    | succ k ih =>
      intro i μ' hk f1 f2
      have ep : μ'.1 21 8 = nI s.1 := by rw [f1.1 21 (by decide)]; exact hR.1
      refine hJ 60 _ _ _ _ ?_
      refine And.intro (fun c => by rw [ep, nI_leI (by omega) (by omega)] at c; omega) (fun _ => ?_)
      refine hJ 60 _ _ _ _ ?_
      refine And.intro (ar_in (by omega) (by omega)) ?_
      show J 2 [_, _, _, .int (nI i + 1), _, _, _, _, _] [] (mm_put μ' 26 (nI i).toNatClampNeg 9999)
      rw [nI_1, ar_cl (by omega)]
      refine ih (i + 1) _ (by omega) (fr_put f1 (by simp)) (fun b hb => ?_)
      rw [mp_eq]
      by_cases e : b = i
      · subst e; rw [up_eq]; rfl
      · rw [up_ne _ _ e]; exact f2 b (by omega)
  refine hJ 2 _ _ _ _ ?_
  exact first s.1 0 μ (by omega) (fr_rf _ _) (fun b hb => absurd hb (Nat.not_lt_zero _))
set_option maxRecDepth 20000 in
set_option maxHeartbeats 2000000 in
theorem r_mhearers {Q : mm_R} {μ : mm_M} {d : dm_T} {s : sc_T} {o : Nat} {ov cv : Int32} (hd : dOK d) (hs : sOK s) (hMD : MD d μ) (hR : MR s μ) (ho : o < s.1) (hov : ov = nI o) (hcv : cv = nI s.2.2.2.2)
    (h : ∀ μ', fr [26] μ μ' → Q (some (.int (nI (hM d s o)))) μ') : mm_Runs m_X5_hearers Q 0 [.ref 21, .int ov, .int cv, .null, .null] [] μ := by
  subst hov; subst hcv
  have h6 := hs.1
  intro J hJ hF
  refine hJ 8 _ _ _ _ ?_
  refine r_layHears hd hs hMD hR ho rfl rfl (fun μ' f1 m1 => ?_)
  have ep : μ'.1 21 8 = nI s.1 := by rw [f1.1 21 (by decide)]; exact hR.1
  have lp : ∀ k i, k + i = s.1 → J 11 [.ref 21, .int (nI o), .int (nI s.2.2.2.2), .int (nI (mk (hP d s o) i)), .int (nI i)] [] μ' := by
    intro k
    induction k with
    | zero =>
      intro i hk
      refine hJ 60 _ _ _ _ ?_
      refine And.intro (fun _ => ?_) (fun c => by rw [ep, nI_leI (by omega) (by omega)] at c; omega)
      refine hJ 60 _ _ _ _ ?_
      have e : i = s.1 := by omega
      subst e
      exact h μ' f1
    | succ k ih =>
      intro i hk
      have hTle := (m1 i (by omega)).2
      refine hJ 60 _ _ _ _ ?_
      refine And.intro (fun c => by rw [ep, nI_leI (by omega) (by omega)] at c; omega) (fun _ => ?_)
      refine hJ 60 _ _ _ _ ?_
      refine And.intro (ar_in (by omega) (by omega)) ?_
      have st : ∀ x, mk (hP d s o) i ||| x = mk (hP d s o) (i + 1) → J 42 [.ref 21, .int (nI o), .int (nI s.2.2.2.2), .int (nI (mk (hP d s o) i)), .int (nI i)] [.int (nI x), .int (nI (mk (hP d s o) i))] μ' := by
        intro x hx
        refine hJ 60 _ _ _ _ ?_
        show J 11 [_, _, _, .int (nI (mk (hP d s o) i) ||| nI x), .int (nI i + 1)] [] μ'
        rw [ar_or, hx, nI_1]
        exact ih (i + 1) (by omega)
      refine And.intro (fun c => ?_) (fun c => ?_)
      · rw [ar_cl (by omega), (m1 i (by omega)).1, show (9999 : Int32) = nI 9999 from rfl, nI_leI (by omega) (by omega)] at c
        refine hJ 1 _ _ _ _ ?_
        refine st 0 ?_
        rw [Nat.or_zero]
        show _ = if hP d s o i then _ else _
        rw [if_neg]
        unfold hP; simp; omega
      · rw [ar_cl (by omega), (m1 i (by omega)).1, show (9999 : Int32) = nI 9999 from rfl, nI_leI (by omega) (by omega)] at c
        refine hJ 60 _ _ _ _ ?_
        show J 42 _ [.int ((1 : Int32) <<< (nI i &&& 31)), _] μ'
        rw [ar_shl i (by omega)]
        refine st _ ?_
        show _ = if hP d s o i then _ else _
        rw [if_pos]
        unfold hP; simp; omega
  exact lp s.1 0 (by omega)
set_option maxRecDepth 20000 in
set_option maxHeartbeats 2000000 in
theorem r_mhearsOf {Q : mm_R} {μ : mm_M} {d : dm_T} {s : sc_T} {o b : Nat} {ov bv : Int32} (hd : dOK d) (hs : sOK s) (hMD : MD d μ) (hR : MS s μ) (ho : o < s.1) (hov : ov = nI o) (hb : b < s.1) (hbv : bv = nI b)
    (h : ∀ μ', fr [26] μ μ' → Q (some (.int (mv (hT d s o b)))) μ') : mm_Runs m_X5_hearsOf Q 0 [.ref 21, .int ov, .int bv] [] μ := by
  subst hov; subst hbv
  have h6 := hs.1
  intro J hJ hF
  refine hJ 60 _ _ _ _ ?_
  refine r_layHears hd hs hMD (MS_R hR) ho rfl hR.2.2 (fun μ' f1 m1 => ?_)
  obtain ⟨m2, m3⟩ := m1 b hb
  refine And.intro (ar_in (by omega) (by omega)) ?_
  refine And.intro (fun c => ?_) (fun c => ?_)
  · rw [ar_cl (by omega), m2, show (9999 : Int32) = nI 9999 from rfl, nI_leI (by omega) (by omega)] at c
    refine hJ 60 _ _ _ _ ?_
    have := h μ' f1
    unfold mv at this
    rw [if_neg (by omega)] at this
    exact this
  · rw [ar_cl (by omega), m2, show (9999 : Int32) = nI 9999 from rfl, nI_leI (by omega) (by omega)] at c
    refine hJ 60 _ _ _ _ ?_
    refine And.intro (ar_in (by omega) (by omega)) ?_
    refine hJ 60 _ _ _ _ ?_
    show Q (some (.int (μ'.1 26 (nI b).toNatClampNeg))) μ'
    rw [ar_cl (by omega), m2]
    have := h μ' f1
    unfold mv at this
    rw [if_pos (by omega)] at this
    exact this
