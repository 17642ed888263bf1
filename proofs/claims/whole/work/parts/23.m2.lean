/-! the reference: people, screens, stand, trials -/
set_option maxRecDepth 20000 in
set_option maxHeartbeats 2000000 in
theorem r_mtell {Q : mm_R} {μ : mm_M} {d : dm_T} {s : sc_T} {j : Nat} {jv w : Int32} (hd : dOK d) (hs : sOK s) (hMD : MD d μ) (hX : MS s μ) (hj : j < s.1) (hjv : jv = nI j) (h : ∀ μ', fr [26] μ μ' → Q (some (.int (tA d s j w))) μ') : mm_Runs m_X5_tell Q 0 [.ref 21, .int jv, .int w] [] μ := by
  subst hjv
  have h6 := hs.1
  obtain ⟨e1, e2, e3⟩ := hX.2.1 j hj
  unfold tA at h
  intro J hJ hF
  have rd : ∀ i, i < 3 → w = nI i → (∀ μ', fr [26] μ μ' → Q (some (.int (μ.1 25 (3 * j + i)))) μ') → J 32 [.ref 21, .int (nI j), .int w] [] μ := by
    intro i hi hw hq
    have ei : (3 : Int32) * nI j + w = nI (3 * j + i) := by rw [hw, ar_3, nI_add]
    refine hJ 60 _ _ _ _ ?_
    refine And.intro (by rw [ei]; exact ar_in (by omega) (by omega)) ?_
    show Q (some (.int (μ.1 25 ((3 : Int32) * nI j + w).toNatClampNeg))) μ
    rw [ei, ar_cl (by omega)]
    exact hq μ (fr_rf _ _)
  refine hJ 60 _ _ _ _ ?_
  refine And.intro (fun w0 => ?_) (fun w0 => ?_)
  · rw [if_pos (show w = 0 from w0)] at h
    exact rd 0 (by omega) w0 (by rw [show 3 * j + 0 = 3 * j from rfl, e1]; exact h)
  rw [if_neg (show ¬ w = 0 from w0)] at h
  refine And.intro (fun w1 => ?_) (fun w1 => ?_)
  · rw [if_pos (show w = 1 from w1)] at h
    exact rd 1 (by omega) w1 (by rw [e2]; exact h)
  rw [if_neg (show ¬ w = 1 from w1)] at h
  refine And.intro (fun w2 => ?_) (fun w2 => ?_)
  · rw [if_pos (show w = 2 from w2)] at h
    exact rd 2 (by omega) w2 (by rw [e3]; exact h)
  rw [if_neg (show ¬ w = 2 from w2)] at h
  refine And.intro (fun w3 => ?_) (fun w3 => ?_)
  · rw [if_pos (show w = 3 from w3)] at h
    refine hJ 60 _ _ _ _ ?_
    refine r_mhearers hd hs hMD (MS_R hX) hj rfl hX.2.2 (fun μ' f1 => ?_)
    exact h μ' f1
  rw [if_neg (show ¬ w = 3 from w3)] at h
  refine hJ 60 _ _ _ _ ?_
  exact h μ (fr_rf _ _)
set_option maxRecDepth 20000 in
set_option maxHeartbeats 2000000 in
theorem r_mabout {Q : mm_R} {μ : mm_M} {st : st_T} {a w : Int32} (hA : AOK st) (hR : RM st μ) (h : ∀ μ', fr MA μ μ' → RM st μ' → Q (some (.int (A_about st a w))) μ') : mm_Runs m_X5_about Q 0 [.ref 21, .int a, .int w] [] μ := by
  obtain ⟨L, pg, D, S, d, f, im⟩ := st
  have hR0 := hR
  obtain ⟨hL, hDl, hS, hd, hf, hD0, him⟩ := hA
  obtain ⟨x1, x2, x3, x4, x5, x6, x7, x8⟩ := hR
  have h6 := hf.1.1
  intro J hJ hF
  refine hJ 60 _ _ _ _ ?_
  refine r_misPerson h6 x7.1.1 (fun p1 => ?_) (fun p0 => ?_)
  · have e : A_about (L, pg, D, S, d, f, im) a w = tA d f.1 a.toNatClampNeg w := by simp only [A_about]; rw [if_pos p1]
    rw [e] at h
    obtain ⟨j, hj, rfl⟩ := p1
    rw [ar_cl (by omega)] at h
    refine And.intro (fun c => absurd c (by decide)) (fun _ => ?_)
    refine hJ 60 _ _ _ _ ?_
    refine r_mtell hd hf.1 x6 x7.1 hj rfl (fun μ' f1 => ?_)
    refine hJ 60 _ _ _ _ ?_
    exact h μ' (MA_26 f1) (RM_26 hR0 f1)
  · have e : A_about (L, pg, D, S, d, f, im) a w = -101 := by simp only [A_about]; rw [if_neg p0]
    rw [e] at h
    refine And.intro (fun _ => ?_) (fun c => absurd rfl c)
    refine hJ 60 _ _ _ _ ?_
    exact h μ (fr_rf _ _) hR0
set_option maxRecDepth 20000 in
set_option maxHeartbeats 2000000 in
theorem r_mas {Q : mm_R} {μ : mm_M} {st : st_T} {a k : Int32} (hA : AOK st) (hR : RM st μ) (h : Q (some (.int (A_as st a k))) μ) : mm_Runs m_X5_as Q 0 [.ref 21, .int a, .int k, .null, .null] [] μ := by
  obtain ⟨L, pg, D, S, d, f, im⟩ := st
  obtain ⟨hL, hDl, hS, hd, hf, hD0, him⟩ := hA
  obtain ⟨x1, x2, x3, x4, x5, x6, x7, x8⟩ := hR
  have h6 := hf.1.1
  have ek := p64 (n := 5) (a := k) (c := 4) (by omega) rfl
  intro J hJ hF
  refine hJ 60 _ _ _ _ ?_
  refine r_misPerson h6 x7.1.1 (fun p1 => ?_) (fun p0 => ?_)
  · refine And.intro (fun _ => ?_) (fun c => absurd c (by decide))
    refine hJ 60 _ _ _ _ ?_
    refine r_in (fun k1 => ?_) (fun k0 => ?_)
    · have k1 : pIs 5 k := ek.mpr k1
      have e : A_as (L, pg, D, S, d, f, im) a k = if k = 0 ∨ k = nI (f.1.2.1 a.toNatClampNeg) ∨ (k = 2 ∧ f.1.2.1 a.toNatClampNeg = 4) then a else -1 := by simp only [A_as]; rw [if_pos p1, if_pos k1]
      rw [e] at h
      obtain ⟨j, hj, rfl⟩ := p1
      rw [ar_cl (by omega)] at h
      obtain ⟨kj, -, -⟩ := hf.1.2.1 j hj
      have er : μ.1 25 ((3 : Int32) * nI j).toNatClampNeg = nI (f.1.2.1 j) := by rw [ar_3, ar_cl (by omega)]; exact (x7.1.2.1 j hj).1
      refine And.intro (fun _ => ?_) (fun c => absurd c (by decide))
      refine hJ 60 _ _ _ _ ?_
      refine And.intro (by rw [ar_3]; exact ar_in (by omega) (by omega)) ?_
      rw [er]
      have y1 : (k = 0 ∨ k = nI (f.1.2.1 j) ∨ (k = 2 ∧ f.1.2.1 j = 4)) → J 54 [.ref 21, .int (nI j), .int k, .int (nI (f.1.2.1 j)), .null] [] μ := by
        intro z
        rw [if_pos z] at h
        refine hJ 60 _ _ _ _ ?_
        refine hJ 60 _ _ _ _ ?_
        refine And.intro (fun c => absurd c (by decide)) (fun _ => ?_)
        refine hJ 60 _ _ _ _ ?_
        refine hJ 60 _ _ _ _ ?_
        exact h
      have y0 : ¬ (k = 0 ∨ k = nI (f.1.2.1 j) ∨ (k = 2 ∧ f.1.2.1 j = 4)) → J 58 [.ref 21, .int (nI j), .int k, .int (nI (f.1.2.1 j)), .null] [] μ := by
        intro z
        rw [if_neg z] at h
        refine hJ 60 _ _ _ _ ?_
        refine And.intro (fun _ => ?_) (fun c => absurd rfl c)
        refine hJ 60 _ _ _ _ ?_
        exact h
      refine And.intro (fun c => y1 (Or.inl c)) (fun c => ?_)
      refine hJ 60 _ _ _ _ ?_
      refine And.intro (fun c2 => y1 (Or.inr (Or.inl c2))) (fun c2 => ?_)
      refine hJ 60 _ _ _ _ ?_
      refine And.intro (fun c3 => y0 (fun z => z.elim c (fun z => z.elim c2 (fun z => c3 z.1)))) (fun c3 => ?_)
      refine hJ 60 _ _ _ _ ?_
      refine And.intro (fun c4 => y0 (fun z => z.elim c (fun z => z.elim c2 (fun z => c4 (by rw [z.2]; rfl))))) (fun c4 => ?_)
      exact y1 (Or.inr (Or.inr ⟨c3, nI_inj (b := 4) (by omega) (by omega) c4⟩))
    · have k0 : ¬ pIs 5 k := fun z => k0 (ek.mp z)
      have e : A_as (L, pg, D, S, d, f, im) a k = -102 := by simp only [A_as]; rw [if_pos p1, if_neg k0]
      rw [e] at h
      refine And.intro (fun c => absurd rfl c) (fun _ => ?_)
      refine hJ 60 _ _ _ _ ?_
      exact h
  · have e : A_as (L, pg, D, S, d, f, im) a k = -101 := by simp only [A_as]; rw [if_neg p0]
    rw [e] at h
    refine And.intro (fun c => absurd rfl c) (fun _ => ?_)
    refine hJ 60 _ _ _ _ ?_
    exact h
theorem MR_mv {s : sc_T} {μ μ' : mm_M} {q p : Nat} (hX : MR s μ) (h0 : μ'.1 21 8 = μ.1 21 8) (h2 : μ'.1 25 = upd (μ.1 25) (3 * q + 1) (nI p)) : MR (sMv s q p) μ' := by
  refine ⟨by rw [h0]; exact hX.1, fun j hj => ?_⟩
  obtain ⟨e1, e2, e3⟩ := hX.2 j hj
  rw [h2]
  refine ⟨by rw [up_ne _ _ (by omega)]; exact e1, ?_, by rw [up_ne _ _ (by omega)]; exact e3⟩
  show upd (μ.1 25) (3 * q + 1) (nI p) (3 * j + 1) = nI (updN s.2.2.1 q p j)
  by_cases e : j = q
  · rw [e, up_eq]; simp [updN]
  · rw [up_ne _ _ (by omega)]; simp only [updN, if_neg e]; exact e2
set_option maxRecDepth 20000 in
set_option maxHeartbeats 2000000 in
theorem r_mmove {Q : mm_R} {μ : mm_M} {st : st_T} {a p : Int32} (hA : AOK st) (hR : RM st μ) (h : ∀ μ', fr MA μ μ' → RM (F_move st a p).2 μ' → Q (some (.int (F_move st a p).1)) μ') : mm_Runs m_X5_move Q 0 [.ref 21, .int a, .int p, .null] [] μ := by
  obtain ⟨L, pg, D, S, d, f, im⟩ := st
  have hR0 := hR
  obtain ⟨hL, hDl, hS, hd, hf, hD0, him⟩ := hA
  obtain ⟨x1, x2, x3, x4, x5, x6, x7, x8⟩ := hR
  have h6 := hf.1.1
  intro J hJ hF
  have no : ¬ (pIs f.1.1 a ∧ 0 < D ∧ pIs 8 p) → J 16 [.ref 21, .int a, .int p, .null] [] μ := by
    intro z
    have e : F_move (L, pg, D, S, d, f, im) a p = (-101, (L, pg, D, S, d, f, im)) := by simp only [F_move]; rw [if_neg z]
    rw [e] at h
    refine hJ 60 _ _ _ _ ?_
    exact h μ (fr_rf _ _) hR0
  refine hJ 60 _ _ _ _ ?_
  refine r_misPerson h6 x7.1.1 (fun p1 => ?_) (fun p0 => ?_)
  · refine And.intro (fun c => absurd c (by decide)) (fun _ => ?_)
    refine hJ 60 _ _ _ _ ?_
    refine r_misPlace2 x3 (fun hp => ?_) (fun hp => ?_)
    · refine And.intro (fun _ => ?_) (fun c => absurd c (by decide))
      have e : F_move (L, pg, D, S, d, f, im) a p = (nI (f.1.2.2.1 a.toNatClampNeg), (L, pg, D, S, d, (sMv f.1 a.toNatClampNeg p.toNatClampNeg, f.2), im)) := by simp only [F_move]; rw [if_pos ⟨p1, hp⟩]
      rw [e] at h
      obtain ⟨j, hj, rfl⟩ := p1
      obtain ⟨pn, hpn, rfl⟩ := hp.2
      rw [ar_cl (by omega), ar_cl (by omega)] at h
      refine hJ 60 _ _ _ _ ?_
      refine And.intro (by rw [ar_31]; exact ar_in (by omega) (by omega)) ?_
      refine And.intro (by rw [ar_31]; exact ar_in (by omega) (by omega)) ?_
      show Q (some (.int (μ.1 25 ((3 : Int32) * nI j + 1).toNatClampNeg))) (mm_put μ 25 ((3 : Int32) * nI j + 1).toNatClampNeg (nI pn))
      rw [ar_31, ar_cl (by omega), (x7.1.2.1 j hj).2.1]
      have hm := MR_mv (μ' := mm_put μ 25 (3 * j + 1) (nI pn)) (q := j) (p := pn) (MS_R x7.1) rfl (mp_eq _ _ _ _)
      refine h _ (fr_put (fr_rf _ _) (by simp)) ⟨x1, x2, x3, x4, x5, x6, ⟨⟨x7.1.1, hm.2, x7.1.2.2⟩, x7.2.1, x7.2.2.1, x7.2.2.2⟩, ?_⟩
      cases im with
      | none => exact x8
      | some g => exact x8
    · refine And.intro (fun c => absurd rfl c) (fun _ => ?_)
      exact no (fun z => hp z.2)
  · refine And.intro (fun _ => ?_) (fun c => absurd rfl c)
    exact no (fun z => p0 z.1)
set_option maxRecDepth 20000 in
set_option maxHeartbeats 2000000 in
theorem r_says {Q : mm_R} {μ : mm_M} {d : dm_T} {s : sc_T} {o w : Nat} {ov wv : Int32} (hd : dOK d) (hs : sOK s) (hMD : MD d μ) (hX : MS s μ) (ho : o < s.1) (hov : ov = nI o) (hw : w < 10) (hwv : wv = nI w)
    (h : ∀ μ', fr [25, 26] μ μ' → MR (lrn s (hM d s o) w) μ' → Q (some (.int (nI (lN_ s (hM d s o) w)))) μ') : mm_Runs m_X5_says Q 0 [.ref 21, .int ov, .int wv, .null, .null, .null, .null] [] μ := by
  subst hov; subst hwv
  have h6 := hs.1
  have hml := hM_lt (d := d) (s := s) (o := o) h6
  intro J hJ hF
  refine hJ 10 _ _ _ _ ?_
  refine r_mhearers hd hs hMD (MS_R hX) ho rfl hX.2.2 (fun μ1 f1 => ?_)
  have lp : ∀ k i μ', k + i = s.1 → fr [25, 26] μ μ' → (∀ q, q < s.1 → μ'.1 25 (3 * q) = nI (s.2.1 q) ∧ μ'.1 25 (3 * q + 1) = nI (s.2.2.1 q) ∧ μ'.1 25 (3 * q + 2) = nI (if q < i then (lrn s (hM d s o) w).2.2.2.1 q else s.2.2.2.1 q)) → J 16 [.ref 21, .int (nI o), .int (nI w), .int (nI (hM d s o)), .int (nI (ct (lB s (hM d s o) w) i)), .int (nI i), .null] [] μ' := by
    intro k
    induction k with
    | zero =>
      intro i μ' hk f2 m2
      have ep : μ'.1 21 8 = nI s.1 := by rw [f2.1 21 (by decide)]; exact hX.1
      have e : i = s.1 := by omega
      subst e
      refine hJ 60 _ _ _ _ ?_
      refine And.intro (fun _ => ?_) (fun c => by rw [ep, nI_leI (by omega) (by omega)] at c; omega)
      refine hJ 60 _ _ _ _ ?_
      refine h μ' f2 ⟨ep, fun q hq => ?_⟩
      have hq : q < s.1 := hq
      obtain ⟨z1, z2, z3⟩ := m2 q hq
      rw [if_pos hq] at z3
      exact ⟨z1, z2, z3⟩
    | succ k ih =>
      intro i μ' hk f2 m2
      have hi : i < s.1 := by omega
      have ep : μ'.1 21 8 = nI s.1 := by rw [f2.1 21 (by decide)]; exact hX.1
      obtain ⟨-, -, k3⟩ := hs.2.1 i hi
      have ek : μ'.1 25 (3 * i + 2) = nI (s.2.2.2.1 i) := by have := (m2 i hi).2.2; rw [if_neg (by omega)] at this; exact this
      have ek2 : μ'.1 25 ((3 : Int32) * nI i + 2).toNatClampNeg = nI (s.2.2.2.1 i) := by rw [ar_32, ar_cl (by omega)]; exact ek
      have hup : ∀ b, lB s (hM d s o) w i = b → (lrn s (hM d s o) w).2.2.2.1 i = if b then s.2.2.2.1 i ||| 2 ^ w else s.2.2.2.1 i := fun b hb => by rw [← hb]; rfl
      -- behind the write
      have st86 : ∀ (is : Int32) (b : Bool), lB s (hM d s o) w i = b → is = (if b then 1 else 0) → ∀ μ'', fr [25, 26] μ μ'' → (∀ q, q < s.1 → μ''.1 25 (3 * q) = nI (s.2.1 q) ∧ μ''.1 25 (3 * q + 1) = nI (s.2.2.1 q) ∧ μ''.1 25 (3 * q + 2) = nI (if q < i + 1 then (lrn s (hM d s o) w).2.2.2.1 q else s.2.2.2.1 q)) → J 86 [.ref 21, .int (nI o), .int (nI w), .int (nI (hM d s o)), .int (nI (ct (lB s (hM d s o) w) i)), .int (nI i), .int is] [] μ'' := by
        intro is b hb his μ'' g1 g2
        have st : ∀ x, ct (lB s (hM d s o) w) i + x = ct (lB s (hM d s o) w) (i + 1) → J 98 [.ref 21, .int (nI o), .int (nI w), .int (nI (hM d s o)), .int (nI (ct (lB s (hM d s o) w) i)), .int (nI i), .int is] [.int (nI x), .int (nI (ct (lB s (hM d s o) w) i))] μ'' := by
          intro x hx
          refine hJ 60 _ _ _ _ ?_
          refine hF [6] _ _ _ _ ?_
          show J 16 [_, _, _, _, .int (nI (ct (lB s (hM d s o) w) i) + nI x), .int (nI i + 1), .null] [] μ''
          rw [nI_add, hx, nI_1]
          exact ih (i + 1) μ'' (by omega) g1 g2
        refine hJ 60 _ _ _ _ ?_
        refine And.intro (fun c => ?_) (fun c => ?_)
        · refine hJ 1 _ _ _ _ ?_
          refine st 0 ?_
          cases b with
          | true => rw [his] at c; exact absurd c (by decide)
          | false => rw [ct, if_neg (by rw [hb]; decide)]
        · refine hJ 60 _ _ _ _ ?_
          refine st 1 ?_
          cases b with
          | true => rw [ct, if_pos hb]
          | false => rw [his] at c; exact absurd rfl c
      have st84 : ∀ (is : Int32) (b : Bool) (x : Nat), lB s (hM d s o) w i = b → is = (if b then 1 else 0) → s.2.2.2.1 i ||| x = (lrn s (hM d s o) w).2.2.2.1 i → J 84 [.ref 21, .int (nI o), .int (nI w), .int (nI (hM d s o)), .int (nI (ct (lB s (hM d s o) w) i)), .int (nI i), .int is] [.int (nI x), .int (nI (s.2.2.2.1 i)), .int ((3 : Int32) * nI i + 2), .ref 25] μ' := by
        intro is b x hb his hx
        refine hJ 2 _ _ _ _ ?_
        refine And.intro (by rw [ar_32]; exact ar_in (by omega) (by omega)) ?_
        refine st86 is b hb his _ (fr_put f2 (by simp)) (fun q hq => ?_)
        rw [mp_eq, ar_32, ar_cl (by omega), ar_or, hx]
        obtain ⟨z1, z2, z3⟩ := m2 q hq
        refine ⟨by rw [up_ne _ _ (by omega)]; exact z1, by rw [up_ne _ _ (by omega)]; exact z2, ?_⟩
        by_cases e : q = i
        · subst e; rw [up_eq, if_pos (by omega)]
        · rw [up_ne _ _ (by omega), z3]
          by_cases e2 : q < i
          · rw [if_pos e2, if_pos (by omega)]
          · rw [if_neg e2, if_neg (by omega)]
      have st58 : ∀ (is : Int32) (b : Bool), lB s (hM d s o) w i = b → is = (if b then 1 else 0) → J 58 [.ref 21, .int (nI o), .int (nI w), .int (nI (hM d s o)), .int (nI (ct (lB s (hM d s o) w) i)), .int (nI i), .null] [.int is] μ' := by
        intro is b hb his
        refine hJ 60 _ _ _ _ ?_
        refine And.intro (by rw [ar_32]; exact ar_in (by omega) (by omega)) ?_
        rw [ek2]
        refine And.intro (fun c => ?_) (fun c => ?_)
        · refine hJ 1 _ _ _ _ ?_
          refine st84 is b 0 hb his ?_
          cases b with
          | true => rw [his] at c; exact absurd c (by decide)
          | false => rw [hup _ hb, Nat.or_zero]; rfl
        · refine hJ 60 _ _ _ _ ?_
          show J 84 _ [.int ((1 : Int32) <<< (nI w &&& 31)), _, _, _] μ'
          rw [ar_shl w (by omega)]
          refine st84 is b (2 ^ w) hb his ?_
          cases b with
          | true => rw [hup _ hb]; rfl
          | false => rw [his] at c; exact absurd rfl c
      have no : lB s (hM d s o) w i = false → J 57 [.ref 21, .int (nI o), .int (nI w), .int (nI (hM d s o)), .int (nI (ct (lB s (hM d s o) w) i)), .int (nI i), .null] [] μ' := by
        intro hb
        refine hJ 1 _ _ _ _ ?_
        exact st58 0 false hb rfl
      refine hJ 60 _ _ _ _ ?_
      refine And.intro (fun c => by rw [ep, nI_leI (by omega) (by omega)] at c; omega) (fun _ => ?_)
      refine hJ 60 _ _ _ _ ?_
      refine And.intro (fun c => ?_) (fun c => ?_)
      · rw [ar_bit1 (by omega) (by omega)] at c
        refine no ?_
        unfold lB
        cases hq : (hM d s o).testBit i with
        | true => exact absurd hq c
        | false => rfl
      · rw [ar_bit1 (by omega) (by omega)] at c
        refine hJ 60 _ _ _ _ ?_
        refine And.intro (by rw [ar_32]; exact ar_in (by omega) (by omega)) ?_
        rw [ek2]
        refine And.intro (fun c2 => ?_) (fun c2 => ?_)
        · rw [ar_bitv (by omega) (by omega), show (0 : Int32) = nI 0 from rfl, nI_eq (by split <;> omega) (by omega)] at c2
          refine no ?_
          unfold lB
          cases hq : (s.2.2.2.1 i).testBit w with
          | true => simp
          | false => rw [hq] at c2; exact absurd rfl c2
        · rw [ar_bitv (by omega) (by omega), show (0 : Int32) = nI 0 from rfl, nI_eq (by split <;> omega) (by omega)] at c2
          refine hJ 60 _ _ _ _ ?_
          refine st58 1 true ?_ rfl
          unfold lB
          rw [c]
          cases hq : (s.2.2.2.1 i).testBit w with
          | true => rw [hq] at c2; exact absurd c2 (by decide)
          | false => rfl
  refine lp s.1 0 μ1 (by omega) (fr_w f1 (by simp)) (fun q hq => ?_)
  rw [f1.1 25 (by decide), if_neg (Nat.not_lt_zero _)]
  exact hX.2.1 q hq
set_option maxRecDepth 20000 in
set_option maxHeartbeats 2000000 in
theorem r_msay {Q : mm_R} {μ : mm_M} {st : st_T} {a w : Int32} (hA : AOK st) (hR : RM st μ) (h : ∀ μ', fr MA μ μ' → RM (F_say st a w).2 μ' → Q (some (.int (F_say st a w).1)) μ') : mm_Runs m_X5_say Q 0 [.ref 21, .int a, .int w] [] μ := by
  obtain ⟨L, pg, D, S, d, f, im⟩ := st
  have hR0 := hR
  obtain ⟨hL, hDl, hS, hd, hf, hD0, him⟩ := hA
  obtain ⟨x1, x2, x3, x4, x5, x6, x7, x8⟩ := hR
  have h6 := hf.1.1
  have ew := p64 (n := 10) (a := w) (c := 9) (by omega) rfl
  intro J hJ hF
  refine hJ 60 _ _ _ _ ?_
  refine r_misPerson h6 x7.1.1 (fun p1 => ?_) (fun p0 => ?_)
  · refine And.intro (fun _ => ?_) (fun c => absurd c (by decide))
    refine hJ 60 _ _ _ _ ?_
    refine r_in (fun w1 => ?_) (fun w0 => ?_)
    · have hw : pIs 10 w := ew.mpr w1
      refine And.intro (fun _ => ?_) (fun c => absurd c (by decide))
      obtain ⟨j, hj, rfl⟩ := p1
      obtain ⟨kj, -, -⟩ := hf.1.2.1 j hj
      have er : μ.1 25 ((3 : Int32) * nI j).toNatClampNeg = nI (f.1.2.1 j) := by rw [ar_3, ar_cl (by omega)]; exact (x7.1.2.1 j hj).1
      refine hJ 60 _ _ _ _ ?_
      refine And.intro (by rw [ar_3]; exact ar_in (by omega) (by omega)) ?_
      rw [er]
      refine And.intro (fun c3 => ?_) (fun c3 => ?_)
      · rw [show (3 : Int32) = nI 3 from rfl, nI_eq (by omega) (by omega)] at c3
        have e : F_say (L, pg, D, S, d, f, im) (nI j) w = (nI (lN_ f.1 (hM d f.1 j) w.toNatClampNeg), (L, pg, D, S, d, (lrn f.1 (hM d f.1 j) w.toNatClampNeg, f.2.1 + 1, f.2.2), im)) := by simp only [F_say]; rw [if_pos ⟨j, hj, rfl⟩, if_pos hw, ar_cl (by omega), if_neg c3]
        rw [e] at h
        obtain ⟨wn, hwn, rfl⟩ := hw
        rw [ar_cl (by omega)] at h
        refine hJ 60 _ _ _ _ ?_
        refine r_says (d := d) (s := f.1) hd hf.1 x6 x7.1 hj rfl hwn rfl (fun μ' f1 f2 => ?_)
        have e21 : μ'.1 21 = upd (μ.1 21) 4 (μ.1 21 4 + 1) := by rw [f1.1 21 (by decide)]; rfl
        have er : ∀ r, 21 < r → r ≠ 25 → r ≠ 26 → μ'.1 r = μ.1 r := by
          intro r h1 h2 h3
          rw [f1.1 r (by simp; omega), mp_ne _ _ _ (by omega)]
        have u : ∀ k, k ≠ 4 → μ'.1 21 k = μ.1 21 k := fun k hk => by rw [e21, up_ne _ _ hk]
        refine h μ' (fr_tr (fr_put (fr_rf _ _) (by simp)) (fr_w f1 (by simp))) ⟨by rw [u _ (by omega)]; exact x1, fun q hq => by rw [er 22 (by omega) (by omega) (by omega)]; exact x2 q hq, by rw [u _ (by omega)]; exact x3, by rw [u _ (by omega)]; exact x4, by rw [u _ (by omega)]; exact x5, MD_fr x6 (er 23 (by omega) (by omega) (by omega)) (er 24 (by omega) (by omega) (by omega)), ⟨⟨f2.1, f2.2, by rw [u _ (by omega)]; exact x7.1.2.2⟩, ?_, by rw [u _ (by omega)]; exact x7.2.2.1, fun i hi => by rw [er 27 (by omega) (by omega) (by omega)]; exact x7.2.2.2 i hi⟩, ?_⟩
        · rw [e21, up_eq, x7.2.1]
        · cases im with
          | none => show μ'.1 21 16 = -1 ∨ ∃ e, e < D ∧ μ'.1 21 16 = nI e; rw [u _ (by omega)]; exact x8
          | some g =>
            obtain ⟨k0, k1, k2, k3, k4, k5, k6⟩ := x8
            exact ⟨by rw [u _ (by omega)]; exact k0, by rw [u _ (by omega)]; exact k1, by rw [u _ (by omega)]; exact k2, by rw [u _ (by omega)]; exact k3, by rw [u _ (by omega)]; exact k4, fun q hq => by rw [er 29 (by omega) (by omega) (by omega)]; exact k5 q hq, fun i hi => by rw [er 30 (by omega) (by omega) (by omega)]; exact k6 i hi⟩
      · rw [show (3 : Int32) = nI 3 from rfl, nI_eq (by omega) (by omega)] at c3
        have e : F_say (L, pg, D, S, d, f, im) (nI j) w = (-103, (L, pg, D, S, d, f, im)) := by simp only [F_say]; rw [if_pos ⟨j, hj, rfl⟩, if_pos hw, ar_cl (by omega), if_pos c3]
        rw [e] at h
        refine hJ 60 _ _ _ _ ?_
        exact h μ (fr_rf _ _) hR0
    · have w0 : ¬ pIs 10 w := fun z => w0 (ew.mp z)
      have e : F_say (L, pg, D, S, d, f, im) a w = (-102, (L, pg, D, S, d, f, im)) := by simp only [F_say]; rw [if_pos p1, if_neg w0]
      rw [e] at h
      refine And.intro (fun c => absurd rfl c) (fun _ => ?_)
      refine hJ 60 _ _ _ _ ?_
      exact h μ (fr_rf _ _) hR0
  · have e : F_say (L, pg, D, S, d, f, im) a w = (-101, (L, pg, D, S, d, f, im)) := by simp only [F_say]; rw [if_neg p0]
    rw [e] at h
    refine And.intro (fun c => absurd rfl c) (fun _ => ?_)
    refine hJ 60 _ _ _ _ ?_
    exact h μ (fr_rf _ _) hR0
set_option maxRecDepth 20000 in
set_option maxHeartbeats 2000000 in
theorem r_mhears {Q : mm_R} {μ : mm_M} {st : st_T} {a b : Int32} (hA : AOK st) (hR : RM st μ) (h : ∀ μ', fr MA μ μ' → RM st μ' → Q (some (.int (A_hears st a b))) μ') : mm_Runs m_X5_hears Q 0 [.ref 21, .int a, .int b] [] μ := by
  obtain ⟨L, pg, D, S, d, f, im⟩ := st
  have hR0 := hR
  obtain ⟨hL, hDl, hS, hd, hf, hD0, him⟩ := hA
  obtain ⟨x1, x2, x3, x4, x5, x6, x7, x8⟩ := hR
  have h6 := hf.1.1
  intro J hJ hF
  have no : ¬ (pIs f.1.1 a ∧ pIs f.1.1 b) → J 25 [.ref 21, .int a, .int b] [] μ := by
    intro z
    have e : A_hears (L, pg, D, S, d, f, im) a b = -101 := by simp only [A_hears]; rw [if_neg z]
    rw [e] at h
    refine hJ 60 _ _ _ _ ?_
    exact h μ (fr_rf _ _) hR0
  refine hJ 60 _ _ _ _ ?_
  refine r_misPerson h6 x7.1.1 (fun p1 => ?_) (fun p0 => ?_)
  · refine And.intro (fun c => absurd c (by decide)) (fun _ => ?_)
    refine hJ 60 _ _ _ _ ?_
    refine r_misPerson h6 x7.1.1 (fun p2 => ?_) (fun p0 => ?_)
    · refine And.intro (fun c => absurd c (by decide)) (fun _ => ?_)
      have e : A_hears (L, pg, D, S, d, f, im) a b = mv (hT d f.1 a.toNatClampNeg b.toNatClampNeg) := by simp only [A_hears]; rw [if_pos ⟨p1, p2⟩]
      rw [e] at h
      obtain ⟨i, hi, rfl⟩ := p1
      obtain ⟨j, hj, rfl⟩ := p2
      rw [ar_cl (by omega), ar_cl (by omega)] at h
      refine hJ 60 _ _ _ _ ?_
      refine r_mhearsOf hd hf.1 x6 x7.1 hi rfl hj rfl (fun μ' f1 => ?_)
      refine hJ 60 _ _ _ _ ?_
      exact h μ' (MA_26 f1) (RM_26 hR0 f1)
    · refine And.intro (fun _ => ?_) (fun c => absurd rfl c)
      exact no (fun z => p0 z.2)
  · refine And.intro (fun _ => ?_) (fun c => absurd rfl c)
    exact no (fun z => p0 z.1)
