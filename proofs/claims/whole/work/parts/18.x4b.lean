theorem hM_lt {d : dm_T} {s : sc_T} {o : Nat} (hs : s.1 ≤ 6) : hM d s o < 64 := Nat.lt_of_lt_of_le (mk_lt _ _) (show 2 ^ s.1 ≤ 2 ^ 6 from Nat.pow_le_pow_right (by omega) hs)
set_option maxRecDepth 20000 in
set_option maxHeartbeats 2000000 in
theorem r_place0 {Q : mm_R} {μ : mm_M} {D : Nat} {d : dm_T} {s : sc_T} {j : Nat} {jv w : Int32} (hD : μ.1 0 10 = nI D) (hDl : D < 2 ^ 31) (hD0 : 0 < D) (hd : dOK d) (hs : sOK s) (hXD : XD d μ) (hX : XS 5 s μ) (hj : j < 8) (hjv : jv = nI j) (h : Q (some (.int (tP d s j w))) μ) : mm_Runs m_X4_place Q 0 [.ref 0, .int jv, .int w] [] μ := by
  subst hjv
  obtain ⟨e1, e2⟩ := hXD j hj
  intro J hJ hF
  refine hJ 60 _ _ _ _ ?_
  refine r_isPlace hD hDl (fun _ => ?_) (fun z => absurd ⟨hD0, ⟨j, hj, rfl⟩⟩ z)
  refine And.intro (fun _ => ?_) (fun c => absurd c (by decide))
  refine hJ 60 _ _ _ _ ?_
  unfold tP at h
  refine And.intro (fun w0 => ?_) (fun w0 => ?_)
  · have w0 : w = 0 := w0
    rw [if_pos w0] at h
    refine hJ 60 _ _ _ _ ?_
    refine And.intro (ar_in hj (by omega)) ?_
    show Q (some (.int (μ.1 3 (nI j).toNatClampNeg))) μ
    rw [ar_cl (by omega), e1]; exact h
  have w0 : ¬ w = 0 := w0
  rw [if_neg w0] at h
  refine And.intro (fun w1 => ?_) (fun w1 => ?_)
  · have w1 : w = 1 := w1
    rw [if_pos w1] at h
    refine hJ 60 _ _ _ _ ?_
    refine And.intro (ar_in hj (by omega)) ?_
    show Q (some (.int (μ.1 4 (nI j).toNatClampNeg))) μ
    rw [ar_cl (by omega), e2]; exact h
  have w1 : ¬ w = 1 := w1
  rw [if_neg w1] at h
  refine And.intro (fun w2 => ?_) (fun w2 => ?_)
  · have w2 : w = 2 := w2
    rw [if_pos w2] at h
    refine hJ 60 _ _ _ _ ?_
    have hc := hs.2.2
    unfold bt1 at h
    refine r_hasBit _ j hX.2.2 rfl (by omega) (by omega) (fun b1 => ?_) (fun b0 => ?_)
    · rw [if_pos b1] at h
      refine And.intro (fun c => absurd c (by decide)) (fun _ => ?_)
      refine hJ 60 _ _ _ _ ?_
      refine hJ 60 _ _ _ _ ?_
      exact h
    · rw [if_neg (by rw [b0]; decide)] at h
      refine And.intro (fun _ => ?_) (fun c => absurd rfl c)
      refine hJ 60 _ _ _ _ ?_
      exact h
  have w2 : ¬ w = 2 := w2
  rw [if_neg w2] at h
  refine And.intro (fun w3 => ?_) (fun w3 => ?_)
  · have w3 : w = 3 := w3
    rw [if_pos w3] at h
    refine hJ 60 _ _ _ _ ?_
    refine r_peopleAt hs hX hj rfl ?_
    exact h
  have w3 : ¬ w = 3 := w3
  rw [if_neg w3] at h
  refine And.intro (fun w4 => ?_) (fun w4 => ?_)
  · have w4 : w = 4 := w4
    rw [if_pos w4] at h
    refine hJ 60 _ _ _ _ ?_
    refine r_rent hd hXD hj rfl ?_
    exact h
  have w4 : ¬ w = 4 := w4
  rw [if_neg w4] at h
  refine And.intro (fun w5 => ?_) (fun w5 => ?_)
  · have w5 : w = 5 := w5
    rw [if_pos w5] at h
    refine hJ 60 _ _ _ _ ?_
    refine r_sources hd hXD hj rfl ?_
    exact h
  have w5 : ¬ w = 5 := w5
  rw [if_neg w5] at h
  refine hJ 60 _ _ _ _ ?_
  exact h
set_option maxRecDepth 20000 in
set_option maxHeartbeats 2000000 in
theorem r_xplace {Q : mm_R} {μ : mm_M} {st : st_T} {a w : Int32} (hA : AOK st) (hR : RX st μ) (h : Q (some (.int (A_place st a w))) μ) : mm_Runs m_X4_place Q 0 [.ref 0, .int a, .int w] [] μ := by
  obtain ⟨L, pg, D, S, d, f, im⟩ := st
  obtain ⟨hL, hDl, hS, hd, hf, hD0, him⟩ := hA
  obtain ⟨x1, x2, x3, x4, x5, x6, x7⟩ := hR
  by_cases hp : 0 < D ∧ pIs 8 a
  · have e : A_place (L, pg, D, S, d, f, im) a w = tP d f.1 a.toNatClampNeg w := by simp only [A_place]; rw [if_pos hp]
    rw [e] at h
    obtain ⟨j, hj, rfl⟩ := hp.2
    rw [ar_cl (by omega)] at h
    exact r_place0 x3 (by omega) hp.1 hd hf.1 x5 x6.1 hj rfl h
  · have e : A_place (L, pg, D, S, d, f, im) a w = -101 := by simp only [A_place]; rw [if_neg hp]
    rw [e] at h
    intro J hJ hF
    refine hJ 60 _ _ _ _ ?_
    refine r_isPlace x3 (by omega) (fun z => absurd z hp) (fun _ => ?_)
    refine And.intro (fun c => absurd rfl c) (fun _ => ?_)
    refine hJ 60 _ _ _ _ ?_
    exact h
theorem ar_clr8 : ∀ c, c < 256 → ∀ a, a < 8 → nI c &&& ((1 : Int32) <<< (nI a &&& 31) ^^^ (-1)) = nI (c &&& (255 ^^^ 2 ^ a)) := by decide +kernel
set_option maxRecDepth 20000 in
set_option maxHeartbeats 2000000 in
theorem r_xcloth {Q : mm_R} {μ : mm_M} {st : st_T} {a b : Int32} (hA : AOK st) (hR : RX st μ) (h : ∀ μ', fr XA μ μ' → RX (F_cloth st a b).2 μ' → Q (some (.int (F_cloth st a b).1)) μ') : mm_Runs m_X4_cloth Q 0 [.ref 0, .int a, .int b, .null] [] μ := by
  obtain ⟨L, pg, D, S, d, f, im⟩ := st
  have hR0 := hR
  obtain ⟨hL, hDl, hS, hd, hf, hD0, him⟩ := hA
  obtain ⟨x1, x2, x3, x4, x5, x6, x7⟩ := hR
  have hc := hf.1.2.2
  intro J hJ hF
  refine hJ 60 _ _ _ _ ?_
  refine r_isPlace x3 (by omega) (fun hp => ?_) (fun hp => ?_)
  · have e : F_cloth (L, pg, D, S, d, f, im) a b = (nI (bt1 f.1.2.2.2.2 a.toNatClampNeg), (L, pg, D, S, d, (sCl f.1 (if b = 0 then f.1.2.2.2.2 &&& (255 ^^^ 2 ^ a.toNatClampNeg) else f.1.2.2.2.2 ||| 2 ^ a.toNatClampNeg), f.2), im)) := by simp only [F_cloth]; rw [if_pos hp]
    rw [e] at h
    obtain ⟨j, hj, rfl⟩ := hp.2
    rw [ar_cl (by omega)] at h
    refine And.intro (fun _ => ?_) (fun c => absurd c (by decide))
    refine hJ 60 _ _ _ _ ?_
    obtain ⟨⟨y0, y1, y4⟩, y5, y6, y7, y8⟩ := x6
    have fin : ∀ (v : Nat) (c' : Nat), c' = (if b = 0 then f.1.2.2.2.2 &&& (255 ^^^ 2 ^ j) else f.1.2.2.2.2 ||| 2 ^ j) → v = bt1 f.1.2.2.2.2 j → J 66 [.ref 0, .int (nI j), .int b, .int (nI v)] [.int (nI c'), .ref 5] μ := by
      intro v c' hc' hv
      refine hJ 60 _ _ _ _ ?_
      rw [← hc', ← hv] at h
      refine h _ (fr_put (fr_rf _ _) (by simp)) ⟨x1, x2, x3, x4, x5, ⟨⟨y0, y1, rfl⟩, y5, y6, y7, y8⟩, ?_⟩
      cases im with
      | none => exact x7
      | some g => exact x7
    have st30 : ∀ v, v = bt1 f.1.2.2.2.2 j → J 30 [.ref 0, .int (nI j), .int b, .null] [.int (nI v)] μ := by
      intro v hv
      refine hJ 60 _ _ _ _ ?_
      refine And.intro (fun c => ?_) (fun c => ?_)
      · refine hJ 9 _ _ _ _ ?_
        show J 66 _ [.int (μ.1 5 4 &&& ((1 : Int32) <<< (nI j &&& 31) ^^^ (-1))), _] μ
        rw [y4, ar_clr8 _ hc j hj]
        exact fin v _ (by rw [if_pos c]) hv
      · refine hJ 60 _ _ _ _ ?_
        show J 66 _ [.int (μ.1 5 4 ||| ((1 : Int32) <<< (nI j &&& 31))), _] μ
        rw [y4, ar_shl j (by omega), ar_or]
        exact fin v _ (by rw [if_neg c]) hv
    refine r_hasBit _ j y4 rfl (by omega) (by omega) (fun b1 => ?_) (fun b0 => ?_)
    · refine And.intro (fun c => absurd c (by decide)) (fun _ => ?_)
      refine hJ 60 _ _ _ _ ?_
      exact st30 1 (by unfold bt1; rw [if_pos b1])
    · refine And.intro (fun _ => ?_) (fun c => absurd rfl c)
      refine hJ 1 _ _ _ _ ?_
      exact st30 0 (by unfold bt1; rw [if_neg (by rw [b0]; decide)])
  · have e : F_cloth (L, pg, D, S, d, f, im) a b = (-101, (L, pg, D, S, d, f, im)) := by simp only [F_cloth]; rw [if_neg hp]
    rw [e] at h
    refine And.intro (fun c => absurd rfl c) (fun _ => ?_)
    refine hJ 60 _ _ _ _ ?_
    exact h μ (fr_rf _ _) hR0
theorem XS_en {s : sc_T} {μ : mm_M} {k p : Nat} (hX : XS 5 s μ) : XS 5 (sEn s k p) (mm_put (mm_put (mm_put (mm_put μ 6 s.1 (nI k)) 7 s.1 (nI p)) 8 s.1 0) 5 0 (nI (s.1 + 1))) := by
  refine ⟨rfl, fun q hq => ?_, hX.2.2⟩
  have hq : q < s.1 + 1 := hq
  show upd (μ.1 6) s.1 (nI k) q = nI (updN s.2.1 s.1 k q) ∧ upd (μ.1 7) s.1 (nI p) q = nI (updN s.2.2.1 s.1 p q) ∧ upd (μ.1 8) s.1 0 q = nI (updN s.2.2.2.1 s.1 0 q)
  by_cases e : q = s.1
  · rw [e, up_eq, up_eq, up_eq]; simp [updN]; rfl
  · rw [up_ne _ _ e, up_ne _ _ e, up_ne _ _ e]; simp only [updN, if_neg e]
    exact hX.2.1 q (by omega)
set_option maxRecDepth 20000 in
set_option maxHeartbeats 2000000 in
theorem r_xperson {Q : mm_R} {μ : mm_M} {st : st_T} {k p : Int32} (hA : AOK st) (hR : RX st μ) (h : ∀ μ', fr XA μ μ' → RX (F_person st k p).2 μ' → Q (some (.int (F_person st k p).1)) μ') : mm_Runs m_X4_person Q 0 [.ref 0, .int k, .int p] [] μ := by
  obtain ⟨L, pg, D, S, d, f, im⟩ := st
  have hR0 := hR
  obtain ⟨hL, hDl, hS, hd, hf, hD0, him⟩ := hA
  obtain ⟨x1, x2, x3, x4, x5, x6, x7⟩ := hR
  have h6 := hf.1.1
  have y0 : μ.1 5 0 = nI f.1.1 := x6.1.1
  intro J hJ hF
  refine hJ 60 _ _ _ _ ?_
  refine r_isKind (fun k1 => ?_) (fun k0 => ?_)
  · refine And.intro (fun _ => ?_) (fun c => absurd c (by decide))
    refine hJ 60 _ _ _ _ ?_
    refine r_isPlace x3 (by omega) (fun hp => ?_) (fun hp => ?_)
    · refine And.intro (fun _ => ?_) (fun c => absurd c (by decide))
      refine hJ 60 _ _ _ _ ?_
      refine And.intro (fun c => ?_) (fun c => ?_)
      · rw [y0, show (6 : Int32) = nI 6 from rfl, nI_ltI (by omega) (by omega)] at c
        have e : F_person (L, pg, D, S, d, f, im) k p = (nI f.1.1, (L, pg, D, S, d, (sEn f.1 k.toNatClampNeg p.toNatClampNeg, f.2), im)) := by simp only [F_person]; rw [if_pos k1, if_pos hp, if_neg (by omega)]
        rw [e] at h
        obtain ⟨kn, hk, rfl⟩ := k1
        obtain ⟨pn, hpn, rfl⟩ := hp.2
        rw [ar_cl (by omega), ar_cl (by omega)] at h
        refine hJ 60 _ _ _ _ ?_
        refine r_enter c y0 ?_
        refine h _ (fr_put (fr_put (fr_put (fr_put (fr_rf _ _) (by simp)) (by simp)) (by simp)) (by simp)) ⟨x1, x2, x3, x4, x5, ⟨XS_en x6.1, x6.2.1, x6.2.2.1, x6.2.2.2.1, x6.2.2.2.2⟩, ?_⟩
        cases im with
        | none => exact x7
        | some g => exact x7
      · rw [y0, show (6 : Int32) = nI 6 from rfl, nI_ltI (by omega) (by omega)] at c
        have e : F_person (L, pg, D, S, d, f, im) k p = (-104, (L, pg, D, S, d, f, im)) := by simp only [F_person]; rw [if_pos k1, if_pos hp, if_pos (by omega)]
        rw [e] at h
        refine hJ 60 _ _ _ _ ?_
        exact h μ (fr_rf _ _) hR0
    · have e : F_person (L, pg, D, S, d, f, im) k p = (-101, (L, pg, D, S, d, f, im)) := by simp only [F_person]; rw [if_pos k1, if_neg hp]
      rw [e] at h
      refine And.intro (fun c => absurd rfl c) (fun _ => ?_)
      refine hJ 60 _ _ _ _ ?_
      exact h μ (fr_rf _ _) hR0
  · have e : F_person (L, pg, D, S, d, f, im) k p = (-102, (L, pg, D, S, d, f, im)) := by simp only [F_person]; rw [if_neg k0]
    rw [e] at h
    refine And.intro (fun c => absurd rfl c) (fun _ => ?_)
    refine hJ 60 _ _ _ _ ?_
    exact h μ (fr_rf _ _) hR0
theorem XZ_h {μ μ' : mm_M} (h : fr [17, 18] μ μ') : fr XZ μ μ' := fr_w h (fun r hr => by simp at hr ⊢; omega)
set_option maxRecDepth 20000 in
set_option maxHeartbeats 2000000 in
theorem r_xabout {Q : mm_R} {μ : mm_M} {st : st_T} {a w : Int32} (hA : AOK st) (hR : RX st μ) (h : ∀ μ', fr XA μ μ' → RX st μ' → Q (some (.int (A_about st a w))) μ') : mm_Runs m_X4_about Q 0 [.ref 0, .int a, .int w] [] μ := by
  obtain ⟨L, pg, D, S, d, f, im⟩ := st
  have hR0 := hR
  obtain ⟨hL, hDl, hS, hd, hf, hD0, him⟩ := hA
  obtain ⟨x1, x2, x3, x4, x5, x6, x7⟩ := hR
  have h6 := hf.1.1
  intro J hJ hF
  refine hJ 60 _ _ _ _ ?_
  refine r_isPerson x6.1.1 h6 (fun p1 => ?_) (fun p0 => ?_)
  · have e : A_about (L, pg, D, S, d, f, im) a w = tA d f.1 a.toNatClampNeg w := by simp only [A_about]; rw [if_pos p1]
    rw [e] at h
    obtain ⟨j, hj, rfl⟩ := p1
    rw [ar_cl (by omega)] at h
    unfold tA at h
    obtain ⟨e1, e2, e3⟩ := x6.1.2.1 j hj
    refine And.intro (fun _ => ?_) (fun c => absurd c (by decide))
    refine hJ 60 _ _ _ _ ?_
    refine And.intro (fun w0 => ?_) (fun w0 => ?_)
    · have w0 : w = 0 := w0
      rw [if_pos w0] at h
      refine hJ 60 _ _ _ _ ?_
      refine And.intro (ar_in (by omega) (by omega)) ?_
      show Q (some (.int (μ.1 6 (nI j).toNatClampNeg))) μ
      rw [ar_cl (by omega), show μ.1 6 j = nI (f.1.2.1 j) from e1]; exact h μ (fr_rf _ _) hR0
    have w0 : ¬ w = 0 := w0
    rw [if_neg w0] at h
    refine And.intro (fun w1 => ?_) (fun w1 => ?_)
    · have w1 : w = 1 := w1
      rw [if_pos w1] at h
      refine hJ 60 _ _ _ _ ?_
      refine And.intro (ar_in (by omega) (by omega)) ?_
      show Q (some (.int (μ.1 7 (nI j).toNatClampNeg))) μ
      rw [ar_cl (by omega), show μ.1 7 j = nI (f.1.2.2.1 j) from e2]; exact h μ (fr_rf _ _) hR0
    have w1 : ¬ w = 1 := w1
    rw [if_neg w1] at h
    refine And.intro (fun w2 => ?_) (fun w2 => ?_)
    · have w2 : w = 2 := w2
      rw [if_pos w2] at h
      refine hJ 60 _ _ _ _ ?_
      refine And.intro (ar_in (by omega) (by omega)) ?_
      show Q (some (.int (μ.1 8 (nI j).toNatClampNeg))) μ
      rw [ar_cl (by omega), show μ.1 8 j = nI (f.1.2.2.2.1 j) from e3]; exact h μ (fr_rf _ _) hR0
    have w2 : ¬ w = 2 := w2
    rw [if_neg w2] at h
    refine And.intro (fun w3 => ?_) (fun w3 => ?_)
    · have w3 : w = 3 := w3
      rw [if_pos w3] at h
      refine hJ 60 _ _ _ _ ?_
      refine r_spread5 hd hf.1 x5 x6.1 hj rfl (fun μ' f1 _ => ?_)
      exact h μ' (XA_Z (XZ_h f1)) (RX_fr hR0 (XZ_h f1))
    have w3 : ¬ w = 3 := w3
    rw [if_neg w3] at h
    refine hJ 60 _ _ _ _ ?_
    exact h μ (fr_rf _ _) hR0
  · have e : A_about (L, pg, D, S, d, f, im) a w = -101 := by simp only [A_about]; rw [if_neg p0]
    rw [e] at h
    refine And.intro (fun c => absurd rfl c) (fun _ => ?_)
    refine hJ 60 _ _ _ _ ?_
    exact h μ (fr_rf _ _) hR0
set_option maxRecDepth 20000 in
set_option maxHeartbeats 2000000 in
theorem r_isOfKind {Q : mm_R} {μ : mm_M} {a b : Int32} {k : Nat} (ha : a = nI k) (hk : k ≤ 4) (h1 : b = 0 ∨ b = nI k ∨ (b = 2 ∧ k = 4) → Q (some (.int 1)) μ) (h0 : ¬ (b = 0 ∨ b = nI k ∨ (b = 2 ∧ k = 4)) → Q (some (.int 0)) μ) : mm_Runs m_X4_isOfKind Q 0 [.int a, .int b] [] μ := by
  subst ha
  intro J hJ hF
  have y1 : (b = 0 ∨ b = nI k ∨ (b = 2 ∧ k = 4)) → J 19 [.int (nI k), .int b] [] μ := by
    intro hk
    refine hJ 60 _ _ _ _ ?_
    refine hJ 60 _ _ _ _ ?_
    exact And.intro (Or.inr rfl) (h1 hk)
  have y0 : ¬ (b = 0 ∨ b = nI k ∨ (b = 2 ∧ k = 4)) → J 23 [.int (nI k), .int b] [] μ := by
    intro hk
    refine hJ 60 _ _ _ _ ?_
    exact And.intro (Or.inl rfl) (h0 hk)
  refine hJ 60 _ _ _ _ ?_
  refine And.intro (fun c => y1 (Or.inr (Or.inl c))) (fun c => ?_)
  refine hJ 60 _ _ _ _ ?_
  refine And.intro (fun c2 => y1 (Or.inl c2)) (fun c2 => ?_)
  refine hJ 60 _ _ _ _ ?_
  refine And.intro (fun c3 => y0 (fun z => z.elim c2 (fun z => z.elim c (fun z => c3 z.1)))) (fun c3 => ?_)
  refine hJ 60 _ _ _ _ ?_
  refine And.intro (fun c4 => y0 (fun z => z.elim c2 (fun z => z.elim c (fun z => c4 (by rw [z.2]; rfl))))) (fun c4 => ?_)
  exact y1 (Or.inr (Or.inr ⟨c3, nI_inj (b := 4) (by omega) (by omega) c4⟩))
set_option maxRecDepth 20000 in
set_option maxHeartbeats 2000000 in
theorem r_xas {Q : mm_R} {μ : mm_M} {st : st_T} {a k : Int32} (hA : AOK st) (hR : RX st μ) (h : Q (some (.int (A_as st a k))) μ) : mm_Runs m_X4_as Q 0 [.ref 0, .int a, .int k] [] μ := by
  obtain ⟨L, pg, D, S, d, f, im⟩ := st
  obtain ⟨hL, hDl, hS, hd, hf, hD0, him⟩ := hA
  obtain ⟨x1, x2, x3, x4, x5, x6, x7⟩ := hR
  have h6 := hf.1.1
  intro J hJ hF
  refine hJ 60 _ _ _ _ ?_
  refine r_isPerson x6.1.1 h6 (fun p1 => ?_) (fun p0 => ?_)
  · refine And.intro (fun _ => ?_) (fun c => absurd c (by decide))
    refine hJ 60 _ _ _ _ ?_
    refine r_isKind (fun k1 => ?_) (fun k0 => ?_)
    · have e : A_as (L, pg, D, S, d, f, im) a k = if k = 0 ∨ k = nI (f.1.2.1 a.toNatClampNeg) ∨ (k = 2 ∧ f.1.2.1 a.toNatClampNeg = 4) then a else -1 := by simp only [A_as]; rw [if_pos p1, if_pos k1]
      rw [e] at h
      obtain ⟨j, hj, rfl⟩ := p1
      rw [ar_cl (by omega)] at h
      refine And.intro (fun _ => ?_) (fun c => absurd c (by decide))
      refine hJ 60 _ _ _ _ ?_
      refine And.intro (ar_in (by omega) (by omega)) ?_
      refine r_isOfKind (k := f.1.2.1 j) (by rw [ar_cl (by omega)]; exact (x6.1.2.1 j hj).1) (hf.1.2.1 j hj).1 (fun z1 => ?_) (fun z0 => ?_)
      · rw [if_pos z1] at h
        refine And.intro (fun c => absurd c (by decide)) (fun _ => ?_)
        refine hJ 60 _ _ _ _ ?_
        refine hJ 60 _ _ _ _ ?_
        exact h
      · rw [if_neg z0] at h
        refine And.intro (fun _ => ?_) (fun c => absurd rfl c)
        refine hJ 60 _ _ _ _ ?_
        exact h
    · have e : A_as (L, pg, D, S, d, f, im) a k = -102 := by simp only [A_as]; rw [if_pos p1, if_neg k0]
      rw [e] at h
      refine And.intro (fun c => absurd rfl c) (fun _ => ?_)
      refine hJ 60 _ _ _ _ ?_
      exact h
  · have e : A_as (L, pg, D, S, d, f, im) a k = -101 := by simp only [A_as]; rw [if_neg p0]
    rw [e] at h
    refine And.intro (fun c => absurd rfl c) (fun _ => ?_)
    refine hJ 60 _ _ _ _ ?_
    exact h
theorem XS_mv {r : Nat} {s : sc_T} {μ μ' : mm_M} {q p : Nat} (hX : XS r s μ) (h0 : μ'.1 r = μ.1 r) (h1 : μ'.1 (r + 1) = μ.1 (r + 1)) (h2 : μ'.1 (r + 2) = upd (μ.1 (r + 2)) q (nI p)) (h3 : μ'.1 (r + 3) = μ.1 (r + 3)) : XS r (sMv s q p) μ' := by
  refine ⟨by rw [h0]; exact hX.1, fun j hj => ?_, by rw [h0]; exact hX.2.2⟩
  obtain ⟨e1, e2, e3⟩ := hX.2.1 j hj
  refine ⟨by rw [h1]; exact e1, ?_, by rw [h3]; exact e3⟩
  rw [h2]
  show upd (μ.1 (r + 2)) q (nI p) j = nI (updN s.2.2.1 q p j)
  by_cases e : j = q
  · rw [e, up_eq]; simp [updN]
  · rw [up_ne _ _ e]; simp only [updN, if_neg e]; exact e2
theorem sMv_ok {s : sc_T} {q p : Nat} (hs : sOK s) (hp : p < 8) : sOK (sMv s q p) := by
  refine ⟨hs.1, fun j hj => ?_, hs.2.2⟩
  obtain ⟨a, b, c⟩ := hs.2.1 j hj
  refine ⟨a, ?_, c⟩
  show updN s.2.2.1 q p j < 8
  unfold updN; split <;> omega
set_option maxRecDepth 20000 in
set_option maxHeartbeats 2000000 in
theorem r_xmove {Q : mm_R} {μ : mm_M} {st : st_T} {a p : Int32} (hA : AOK st) (hR : RX st μ) (h : ∀ μ', fr XA μ μ' → RX (F_move st a p).2 μ' → Q (some (.int (F_move st a p).1)) μ') : mm_Runs m_X4_move Q 0 [.ref 0, .int a, .int p, .null] [] μ := by
  obtain ⟨L, pg, D, S, d, f, im⟩ := st
  have hR0 := hR
  obtain ⟨hL, hDl, hS, hd, hf, hD0, him⟩ := hA
  obtain ⟨x1, x2, x3, x4, x5, x6, x7⟩ := hR
  have h6 := hf.1.1
  intro J hJ hF
  have no : ¬ (pIs f.1.1 a ∧ 0 < D ∧ pIs 8 p) → J 16 [.ref 0, .int a, .int p, .null] [] μ := by
    intro z
    have e : F_move (L, pg, D, S, d, f, im) a p = (-101, (L, pg, D, S, d, f, im)) := by simp only [F_move]; rw [if_neg z]
    rw [e] at h
    refine hJ 60 _ _ _ _ ?_
    exact h μ (fr_rf _ _) hR0
  refine hJ 60 _ _ _ _ ?_
  refine r_isPerson x6.1.1 h6 (fun p1 => ?_) (fun p0 => ?_)
  · refine And.intro (fun c => absurd c (by decide)) (fun _ => ?_)
    refine hJ 60 _ _ _ _ ?_
    refine r_isPlace x3 (by omega) (fun hp => ?_) (fun hp => ?_)
    · refine And.intro (fun _ => ?_) (fun c => absurd c (by decide))
      have e : F_move (L, pg, D, S, d, f, im) a p = (nI (f.1.2.2.1 a.toNatClampNeg), (L, pg, D, S, d, (sMv f.1 a.toNatClampNeg p.toNatClampNeg, f.2), im)) := by simp only [F_move]; rw [if_pos ⟨p1, hp⟩]
      rw [e] at h
      obtain ⟨j, hj, rfl⟩ := p1
      obtain ⟨pn, hpn, rfl⟩ := hp.2
      rw [ar_cl (by omega), ar_cl (by omega)] at h
      refine hJ 60 _ _ _ _ ?_
      refine And.intro (ar_in (by omega) (by omega)) ?_
      refine And.intro (ar_in (by omega) (by omega)) ?_
      show Q (some (.int (μ.1 7 (nI j).toNatClampNeg))) (mm_put μ 7 (nI j).toNatClampNeg (nI pn))
      rw [ar_cl (by omega), show μ.1 7 j = nI (f.1.2.2.1 j) from (x6.1.2.1 j hj).2.1]
      refine h _ (fr_put (fr_rf _ _) (by simp)) ⟨x1, x2, x3, x4, x5, ⟨XS_mv x6.1 rfl rfl rfl rfl, x6.2.1, x6.2.2.1, x6.2.2.2.1, x6.2.2.2.2⟩, ?_⟩
      cases im with
      | none => exact x7
      | some g => exact x7
    · refine And.intro (fun c => absurd rfl c) (fun _ => ?_)
      exact no (fun z => hp z.2)
  · refine And.intro (fun _ => ?_) (fun c => absurd rfl c)
    exact no (fun z => p0 z.1)
set_option maxRecDepth 20000 in
set_option maxHeartbeats 2000000 in
theorem r_tell5 {Q : mm_R} {μ : mm_M} {d : dm_T} {s : sc_T} {o w : Nat} {ov wv : Int32} (hd : dOK d) (hs : sOK s) (hXD : XD d μ) (hX : XS 5 s μ) (ho : o < s.1) (hov : ov = nI o) (hw : w < 10) (hwv : wv = nI w)
    (h : ∀ μ', fr [17, 18, 8] μ μ' → XS 5 (lrn s (hM d s o) w) μ' → Q (some (.int (nI (lN_ s (hM d s o) w)))) μ') : mm_Runs m_X4_tell Q 0 [.ref 0, .ref 5, .int ov, .int wv] [] μ := by
  intro J hJ hF
  refine hJ 60 _ _ _ _ ?_
  refine r_spread5 hd hs hXD hX ho hov (fun μ' f1 _ => ?_)
  refine r_learn5 hs (XS_fr hX (f1.1 5 (by decide)) (f1.1 6 (by decide)) (f1.1 7 (by decide)) (f1.1 8 (by decide))) (hM_lt hs.1) hw rfl hwv (fun μ'' g1 g2 => ?_)
  exact h μ'' (fr_tr (fr_w f1 (by simp)) (fr_w g1 (by simp))) g2
set_option maxRecDepth 20000 in
set_option maxHeartbeats 2000000 in
theorem r_tell13 {Q : mm_R} {μ : mm_M} {d : dm_T} {s : sc_T} {o w : Nat} {ov wv : Int32} (hd : dOK d) (hs : sOK s) (hXD : XD d μ) (hX : XS 13 s μ) (ho : o < s.1) (hov : ov = nI o) (hw : w < 10) (hwv : wv = nI w)
    (h : ∀ μ', fr [17, 18, 16] μ μ' → XS 13 (lrn s (hM d s o) w) μ' → Q (some (.int (nI (lN_ s (hM d s o) w)))) μ') : mm_Runs m_X4_tell Q 0 [.ref 0, .ref 13, .int ov, .int wv] [] μ := by
  intro J hJ hF
  refine hJ 60 _ _ _ _ ?_
  refine r_spread13 hd hs hXD hX ho hov (fun μ' f1 _ => ?_)
  refine r_learn13 hs (XS_fr hX (f1.1 13 (by decide)) (f1.1 14 (by decide)) (f1.1 15 (by decide)) (f1.1 16 (by decide))) (hM_lt hs.1) hw rfl hwv (fun μ'' g1 g2 => ?_)
  exact h μ'' (fr_tr (fr_w f1 (by simp)) (fr_w g1 (by simp))) g2
set_option maxRecDepth 20000 in
set_option maxHeartbeats 2000000 in
theorem r_xsay {Q : mm_R} {μ : mm_M} {st : st_T} {a w : Int32} (hA : AOK st) (hR : RX st μ) (h : ∀ μ', fr XA μ μ' → RX (F_say st a w).2 μ' → Q (some (.int (F_say st a w).1)) μ') : mm_Runs m_X4_say Q 0 [.ref 0, .int a, .int w] [] μ := by
  obtain ⟨L, pg, D, S, d, f, im⟩ := st
  have hR0 := hR
  obtain ⟨hL, hDl, hS, hd, hf, hD0, him⟩ := hA
  obtain ⟨x1, x2, x3, x4, x5, x6, x7⟩ := hR
  have h6 := hf.1.1
  have ew := pIs_iff (n := 10) (a := w) (by omega)
  rw [ar_le, ar_lt, show (nI 10).toInt = 10 from rfl, show (0 : Int32).toInt = 0 from rfl] at ew
  intro J hJ hF
  refine hJ 60 _ _ _ _ ?_
  refine r_isPerson x6.1.1 h6 (fun p1 => ?_) (fun p0 => ?_)
  · refine And.intro (fun _ => ?_) (fun c => absurd c (by decide))
    have no : ¬ pIs 10 w → J 21 [.ref 0, .int a, .int w] [] μ := by
      intro z
      have e : F_say (L, pg, D, S, d, f, im) a w = (-102, (L, pg, D, S, d, f, im)) := by simp only [F_say]; rw [if_pos p1, if_neg z]
      rw [e] at h
      refine hJ 60 _ _ _ _ ?_
      exact h μ (fr_rf _ _) hR0
    refine hJ 60 _ _ _ _ ?_
    refine And.intro (fun c => ?_) (fun c => ?_)
    · rw [ar_lt, show (0 : Int32).toInt = 0 from rfl] at c
      exact no (fun z => by have := ew.mp z; omega)
    rw [ar_lt, show (0 : Int32).toInt = 0 from rfl] at c
    refine hJ 60 _ _ _ _ ?_
    refine And.intro (fun c2 => ?_) (fun c2 => ?_)
    · rw [ar_lt, show (10 : Int32).toInt = 10 from rfl] at c2
      have hw : pIs 10 w := ew.mpr (by omega)
      obtain ⟨j, hj, rfl⟩ := p1
      obtain ⟨kj, -, -⟩ := hf.1.2.1 j hj
      refine hJ 60 _ _ _ _ ?_
      refine And.intro (ar_in (by omega) (by omega)) ?_
      refine And.intro (fun c3 => ?_) (fun c3 => ?_)
      · rw [ar_cl (by omega), show μ.1 6 j = nI (f.1.2.1 j) from (x6.1.2.1 j hj).1, show (3 : Int32) = nI 3 from rfl, nI_eq (by omega) (by omega)] at c3
        have e : F_say (L, pg, D, S, d, f, im) (nI j) w = (nI (lN_ f.1 (hM d f.1 j) w.toNatClampNeg), (L, pg, D, S, d, (lrn f.1 (hM d f.1 j) w.toNatClampNeg, f.2.1 + 1, f.2.2), im)) := by simp only [F_say]; rw [if_pos ⟨j, hj, rfl⟩, if_pos hw, ar_cl (by omega), if_neg c3]
        rw [e] at h
        obtain ⟨wn, hwn, rfl⟩ := hw
        rw [ar_cl (by omega)] at h
        refine hJ 60 _ _ _ _ ?_
        refine r_tell5 (d := d) (s := f.1) hd hf.1 x5 x6.1 hj rfl hwn rfl (fun μ' f1 f2 => ?_)
        have e5 : μ'.1 5 = upd (μ.1 5) 5 (μ.1 5 5 + 1) := by rw [f1.1 5 (by decide)]; rfl
        have er : ∀ r, r < 13 → r ≠ 5 → r ≠ 8 → μ'.1 r = μ.1 r := by
          intro r h1 h2 h3
          rw [f1.1 r (by simp; omega), mp_ne _ _ _ h2]
        refine h μ' (fr_tr (fr_put (fr_rf _ _) (by simp)) (fr_w f1 (by simp))) ⟨by rw [er 0 (by omega) (by omega) (by omega)]; exact x1, fun q hq => by rw [er 1 (by omega) (by omega) (by omega)]; exact x2 q hq, by rw [er 0 (by omega) (by omega) (by omega)]; exact x3, by rw [er 0 (by omega) (by omega) (by omega)]; exact x4, XD_fr x5 (er 3 (by omega) (by omega) (by omega)) (er 4 (by omega) (by omega) (by omega)), ⟨f2, ?_, ?_, ?_, ?_⟩, ?_⟩
        · rw [e5]; show μ.1 5 5 + 1 = _; rw [x6.2.1]
        · rw [e5]; exact x6.2.2.1
        · rw [e5]; exact x6.2.2.2.1
        · rw [e5]; exact x6.2.2.2.2
        · cases im with
          | none => show μ'.1 0 9 = 0; rw [er 0 (by omega) (by omega) (by omega)]; exact x7
          | some g => exact ⟨by rw [er 0 (by omega) (by omega) (by omega)]; exact x7.1, XF_fr x7.2 (er 9 (by omega) (by omega) (by omega)) (er 10 (by omega) (by omega) (by omega)) (er 11 (by omega) (by omega) (by omega)) (er 12 (by omega) (by omega) (by omega))⟩
      · rw [ar_cl (by omega), show μ.1 6 j = nI (f.1.2.1 j) from (x6.1.2.1 j hj).1, show (3 : Int32) = nI 3 from rfl, nI_eq (by omega) (by omega)] at c3
        have e : F_say (L, pg, D, S, d, f, im) (nI j) w = (-103, (L, pg, D, S, d, f, im)) := by simp only [F_say]; rw [if_pos ⟨j, hj, rfl⟩, if_pos hw, ar_cl (by omega), if_pos c3]
        rw [e] at h
        refine hJ 60 _ _ _ _ ?_
        exact h μ (fr_rf _ _) hR0
    · rw [ar_lt, show (10 : Int32).toInt = 10 from rfl] at c2
      exact no (fun z => by have := ew.mp z; omega)
  · have e : F_say (L, pg, D, S, d, f, im) a w = (-101, (L, pg, D, S, d, f, im)) := by simp only [F_say]; rw [if_neg p0]
    rw [e] at h
    refine And.intro (fun c => absurd rfl c) (fun _ => ?_)
    refine hJ 60 _ _ _ _ ?_
    exact h μ (fr_rf _ _) hR0
set_option maxRecDepth 20000 in
set_option maxHeartbeats 2000000 in
theorem r_xhears {Q : mm_R} {μ : mm_M} {st : st_T} {a b : Int32} (hA : AOK st) (hR : RX st μ) (h : ∀ μ', fr XA μ μ' → RX st μ' → Q (some (.int (A_hears st a b))) μ') : mm_Runs m_X4_hears Q 0 [.ref 0, .int a, .int b] [] μ := by
  obtain ⟨L, pg, D, S, d, f, im⟩ := st
  have hR0 := hR
  obtain ⟨hL, hDl, hS, hd, hf, hD0, him⟩ := hA
  obtain ⟨x1, x2, x3, x4, x5, x6, x7⟩ := hR
  have h6 := hf.1.1
  intro J hJ hF
  have no : ¬ (pIs f.1.1 a ∧ pIs f.1.1 b) → J 16 [.ref 0, .int a, .int b] [] μ := by
    intro z
    have e : A_hears (L, pg, D, S, d, f, im) a b = -101 := by simp only [A_hears]; rw [if_neg z]
    rw [e] at h
    refine hJ 60 _ _ _ _ ?_
    exact h μ (fr_rf _ _) hR0
  refine hJ 60 _ _ _ _ ?_
  refine r_isPerson x6.1.1 h6 (fun p1 => ?_) (fun p0 => ?_)
  · refine And.intro (fun c => absurd c (by decide)) (fun _ => ?_)
    refine hJ 60 _ _ _ _ ?_
    refine r_isPerson x6.1.1 h6 (fun p2 => ?_) (fun p0 => ?_)
    · refine And.intro (fun _ => ?_) (fun c => absurd c (by decide))
      have e : A_hears (L, pg, D, S, d, f, im) a b = mv (hT d f.1 a.toNatClampNeg b.toNatClampNeg) := by simp only [A_hears]; rw [if_pos ⟨p1, p2⟩]
      rw [e] at h
      obtain ⟨i, hi, rfl⟩ := p1
      obtain ⟨j, hj, rfl⟩ := p2
      rw [ar_cl (by omega), ar_cl (by omega)] at h
      refine hJ 60 _ _ _ _ ?_
      refine r_spread5 hd hf.1 x5 x6.1 hi rfl (fun μ' f1 f2 => ?_)
      refine And.intro (ar_in (by omega) (by omega)) ?_
      show Q (some (.int (μ'.1 18 (nI j).toNatClampNeg))) μ'
      rw [ar_cl (by omega), f2 j hj]
      exact h μ' (XA_Z (XZ_h f1)) (RX_fr hR0 (XZ_h f1))
    · refine And.intro (fun c => absurd rfl c) (fun _ => ?_)
      exact no (fun z => p0 z.2)
  · refine And.intro (fun _ => ?_) (fun c => absurd rfl c)
    exact no (fun z => p0 z.1)
