/-! the class: digest -/
set_option maxRecDepth 20000 in
set_option maxHeartbeats 2000000 in
theorem r_mix {Q : mm_R} {μ : mm_M} {a b : Int64} (h : Q (some (.long (31 * a + b))) μ) : mm_Runs m_X4_mix Q 0 [.long a, .null, .long b, .null] [] μ := by
  intro J hJ hF
  refine hJ 60 _ _ _ _ ?_
  exact h
set_option maxRecDepth 20000 in
set_option maxHeartbeats 2000000 in
theorem r_digestPlaces {Q : mm_R} {μ : mm_M} {D : Nat} {d : dm_T} {s : sc_T} {a : Int64} (hD : μ.1 0 10 = nI D) (hDl : D < 2 ^ 31) (hd : dOK d) (hs : sOK s) (hXD : XD d μ) (hX : XS 5 s μ) (h : Q (some (.long (if 0 < D then dgP d s a else a))) μ) : mm_Runs m_X4_digestPlaces Q 0 [.ref 0, .long a, .null, .null, .null, .null, .null] [] μ := by
  intro J hJ hF
  by_cases hD0 : 0 < D
  · rw [if_pos hD0] at h
    have lp : ∀ k p, k + p = 8 → J 5 [.ref 0, .long a, .null, .long (fdN (fun p h => fdN (fun w h => mx h (tP d s p (nI w))) 6 h) p a), .null, .int (nI p), .null] [] μ := by
      intro k
      induction k with
      | zero =>
        intro p hk
        have e : p = 8 := by omega
        subst e
        refine hJ 60 _ _ _ _ ?_
        refine r_hasDome hD hDl (fun _ => ?_) (fun z => absurd hD0 z)
        refine And.intro (fun c => absurd c (by decide)) (fun _ => ?_)
        refine hJ 60 _ _ _ _ ?_
        refine And.intro (fun _ => ?_) (fun c => absurd (show (8 : Int32) ≤ nI 8 by decide) c)
        refine hJ 60 _ _ _ _ ?_
        exact h
      | succ k ih =>
        intro p hk
        have inn : ∀ j w, j + w = 6 → J 22 [.ref 0, .long a, .null, .long (fdN (fun w h => mx h (tP d s p (nI w))) w (fdN (fun p h => fdN (fun w h => mx h (tP d s p (nI w))) 6 h) p a)), .null, .int (nI p), .int (nI w)] [] μ := by
          intro j
          induction j with
          | zero =>
            intro w hw
            have e : w = 6 := by omega
            subst e
            refine hJ 60 _ _ _ _ ?_
            refine And.intro (fun _ => ?_) (fun c => absurd (show (6 : Int32) ≤ nI 6 by decide) c)
            refine hJ 60 _ _ _ _ ?_
            refine hF [6] _ _ _ _ ?_
            show J 5 [_, _, _, _, _, .int (nI p + 1), .null] [] μ
            rw [nI_1]
            exact ih (p + 1) (by omega)
          | succ j ihj =>
            intro w hw
            refine hJ 60 _ _ _ _ ?_
            refine And.intro (fun c => by rw [show (6 : Int32) = nI 6 from rfl, nI_leI (by omega) (by omega)] at c; omega) (fun _ => ?_)
            refine hJ 60 _ _ _ _ ?_
            refine r_place0 (j := p) (w := nI w) hD hDl hD0 hd hs hXD hX (by omega) rfl ?_
            refine r_mix ?_
            show J 22 [_, _, _, .long (mx (fdN (fun w h => mx h (tP d s p (nI w))) w (fdN (fun p h => fdN (fun w h => mx h (tP d s p (nI w))) 6 h) p a)) (tP d s p (nI w))), _, _, .int (nI w + 1)] [] μ
            rw [nI_1]
            exact ihj (w + 1) (by omega)
        refine hJ 60 _ _ _ _ ?_
        refine r_hasDome hD hDl (fun _ => ?_) (fun z => absurd hD0 z)
        refine And.intro (fun c => absurd c (by decide)) (fun _ => ?_)
        refine hJ 60 _ _ _ _ ?_
        refine And.intro (fun c => by rw [show (8 : Int32) = nI 8 from rfl, nI_leI (by omega) (by omega)] at c; omega) (fun _ => ?_)
        refine hJ 2 _ _ _ _ ?_
        exact inn 6 0 (by omega)
    refine hJ 4 _ _ _ _ ?_
    exact lp 8 0 (by omega)
  · rw [if_neg hD0] at h
    refine hJ 60 _ _ _ _ ?_
    refine r_hasDome hD hDl (fun z => absurd z hD0) (fun _ => ?_)
    refine And.intro (fun _ => ?_) (fun c => absurd rfl c)
    refine hJ 60 _ _ _ _ ?_
    exact h
set_option maxRecDepth 20000 in
set_option maxHeartbeats 2000000 in
theorem r_digestPerson {Q : mm_R} {μ : mm_M} {d : dm_T} {s : sc_T} {q : Nat} {qv : Int32} {a : Int64} (hd : dOK d) (hs : sOK s) (hXD : XD d μ) (hX : XS 5 s μ) (hq : q < s.1) (hqv : qv = nI q) (h : ∀ μ', fr [17, 18] μ μ' → Q (some (.long (dgQ d s q a))) μ') : mm_Runs m_X4_digestPerson Q 0 [.ref 0, .long a, .null, .int qv, .null, .null, .null] [] μ := by
  subst hqv
  have h6 := hs.1
  obtain ⟨e1, e2, e3⟩ := hX.2.1 q hq
  have e1 : μ.1 6 q = nI (s.2.1 q) := e1
  have e2 : μ.1 7 q = nI (s.2.2.1 q) := e2
  have e3 : μ.1 8 q = nI (s.2.2.2.1 q) := e3
  intro J hJ hF
  refine hJ 41 _ _ _ _ ?_
  refine And.intro (ar_in (by omega) (by omega)) ?_
  rw [ar_cl (by omega), e1]
  refine r_mix ?_
  refine And.intro (ar_in (by omega) (by omega)) ?_
  rw [ar_cl (by omega), e2]
  refine r_mix ?_
  refine And.intro (ar_in (by omega) (by omega)) ?_
  rw [ar_cl (by omega), e3]
  refine r_mix ?_
  refine r_spread5 hd hs hXD hX hq rfl (fun μ1 f1 f2 => ?_)
  refine r_mix ?_
  have en : μ1.1 5 0 = nI s.1 := by rw [f1.1 5 (by decide)]; exact hX.1
  have lp : ∀ k b, k + b = s.1 → J 77 [.ref 0, .long a, .null, .int (nI q), .long (fdN (fun b h => mx h (mv (hT d s q b))) b (mx (mx (mx (mx a (nI (s.2.1 q))) (nI (s.2.2.1 q))) (nI (s.2.2.2.1 q))) (nI (hM d s q)))), .null, .int (nI b)] [] μ1 := by
    intro k
    induction k with
    | zero =>
      intro b hk
      have e : b = s.1 := by omega
      subst e
      refine hJ 60 _ _ _ _ ?_
      refine And.intro (fun _ => ?_) (fun c => by rw [en, nI_leI (by omega) (by omega)] at c; omega)
      refine hJ 60 _ _ _ _ ?_
      exact h μ1 f1
    | succ k ih =>
      intro b hk
      refine hJ 60 _ _ _ _ ?_
      refine And.intro (fun c => by rw [en, nI_leI (by omega) (by omega)] at c; omega) (fun _ => ?_)
      refine hJ 60 _ _ _ _ ?_
      refine And.intro (ar_in (by omega) (by omega)) ?_
      rw [ar_cl (by omega), f2 b (by omega)]
      refine r_mix ?_
      show J 77 [_, _, _, _, .long (mx (fdN (fun b h => mx h (mv (hT d s q b))) b (mx (mx (mx (mx a (nI (s.2.1 q))) (nI (s.2.2.1 q))) (nI (s.2.2.2.1 q))) (nI (hM d s q)))) (mv (hT d s q b))), _, .int (nI b + 1)] [] μ1
      rw [nI_1]
      exact ih (b + 1) (by omega)
  exact lp s.1 0 (by omega)
set_option maxRecDepth 20000 in
set_option maxHeartbeats 2000000 in
theorem r_xdigest {Q : mm_R} {μ : mm_M} {st : st_T} (hA : AOK st) (hR : RX st μ) (h : ∀ μ', fr XA μ μ' → RX st μ' → Q (some (.long (A_digest st))) μ') : mm_Runs m_X4_digest Q 0 [.ref 0, .null, .null, .null] [] μ := by
  have hA0 := hA
  have hR0 := hR
  obtain ⟨L, pg, D, S, d, f, im⟩ := st
  obtain ⟨hL, hDl, hS, hd, hf, hD0, him⟩ := hA
  obtain ⟨x1, x2, x3, x4, x5, x6, x7⟩ := hR
  have h6 := hf.1.1
  intro J hJ hF
  have last : ∀ k w (a : Int64) μ', k + w = 8 → fr XV μ μ' → (∀ μ', fr XA μ μ' → RX (L, pg, D, S, d, f, im) μ' → Q (some (.long (fdN (fun w h => mx h (A_count (L, pg, D, S, d, f, im) (nI w))) 8 a))) μ') → J 94 [.ref 0, .long (fdN (fun w h => mx h (A_count (L, pg, D, S, d, f, im) (nI w))) w a), .null, .int (nI w)] [] μ' := by
    intro k
    induction k with
    | zero =>
      intro w a μ' hk f1 hq
      have e : w = 8 := by omega
      subst e
      refine hJ 60 _ _ _ _ ?_
      refine And.intro (fun _ => ?_) (fun c => absurd (show (8 : Int32) ≤ nI 8 by decide) c)
      refine hJ 60 _ _ _ _ ?_
      exact hq μ' (XA_Z (XZ_V f1)) (RX_fr hR0 (XZ_V f1))
    | succ k ih =>
      intro w a μ' hk f1 hq
      refine hJ 60 _ _ _ _ ?_
      refine And.intro (fun c => by rw [show (8 : Int32) = nI 8 from rfl, nI_leI (by omega) (by omega)] at c; omega) (fun _ => ?_)
      refine hJ 60 _ _ _ _ ?_
      refine r_xcount (st := (L, pg, D, S, d, f, im)) hA0 (RX_fr hR0 (XZ_V f1)) ?_
      refine r_mix ?_
      show J 94 [_, .long (mx (fdN (fun w h => mx h (A_count (L, pg, D, S, d, f, im) (nI w))) w a) (A_count (L, pg, D, S, d, f, im) (nI w))), _, .int (nI w + 1)] [] μ'
      rw [nI_1]
      exact ih (w + 1) a μ' (by omega) f1 hq
  have pages : ∀ k j (a : Int64) μ', k + j = L → fr XV μ μ' → (∀ μ', fr XA μ μ' → RX (L, pg, D, S, d, f, im) μ' → Q (some (.long (fdN (fun w h => mx h (A_count (L, pg, D, S, d, f, im) (nI w))) 8 (fdN (fun j h => mx h (pg j)) L a)))) μ') → J 66 [.ref 0, .long (fdN (fun j h => mx h (pg j)) j a), .null, .int (nI j)] [] μ' := by
    intro k
    induction k with
    | zero =>
      intro j a μ' hk f1 hq
      have e : j = L := by omega
      subst e
      have ex : μ'.1 0 1 = nI j := by rw [f1.1 0 (by decide)]; exact x1
      refine hJ 60 _ _ _ _ ?_
      refine And.intro (fun _ => ?_) (fun c => by rw [ex, nI_leI (by omega) (by omega)] at c; omega)
      refine hJ 2 _ _ _ _ ?_
      exact last 8 0 _ μ' (by omega) f1 hq
    | succ k ih =>
      intro j a μ' hk f1 hq
      have ex : μ'.1 0 1 = nI L := by rw [f1.1 0 (by decide)]; exact x1
      refine hJ 60 _ _ _ _ ?_
      refine And.intro (fun c => by rw [ex, nI_leI (by omega) (by omega)] at c; omega) (fun _ => ?_)
      refine hJ 60 _ _ _ _ ?_
      refine And.intro (ar_in (by omega) (by omega)) ?_
      rw [ar_cl (by omega), f1.1 1 (by decide), x2 j (by omega)]
      refine r_mix ?_
      show J 66 [_, .long (mx (fdN (fun j h => mx h (pg j)) j a) (pg j)), _, .int (nI j + 1)] [] μ'
      rw [nI_1]
      exact ih (j + 1) a μ' (by omega) f1 hq
  have ppl : ∀ k q (a : Int64) μ', k + q = f.1.1 → fr XV μ μ' → (∀ μ', fr XA μ μ' → RX (L, pg, D, S, d, f, im) μ' → Q (some (.long (fdN (fun w h => mx h (A_count (L, pg, D, S, d, f, im) (nI w))) 8 (fdN (fun j h => mx h (pg j)) L (if 0 < D then mx (mx (fdN (fun q h => dgQ d f.1 q h) f.1.1 a) (nI (whoB d f.1 f.2.2))) (askV d f.1 f.2.2) else fdN (fun q h => dgQ d f.1 q h) f.1.1 a))))) μ') → J 10 [.ref 0, .long (fdN (fun q h => dgQ d f.1 q h) q a), .null, .int (nI q)] [] μ' := by
    intro k
    induction k with
    | zero =>
      intro q a μ' hk f1 hq
      have e : q = f.1.1 := by omega
      subst e
      have en : μ'.1 5 0 = nI f.1.1 := by rw [f1.1 5 (by decide)]; exact x6.1.1
      have e10 : μ'.1 0 10 = nI D := by rw [f1.1 0 (by decide)]; exact x3
      have hX' : XF 5 f μ' := XF_fr x6 (f1.1 5 (by decide)) (f1.1 6 (by decide)) (f1.1 7 (by decide)) (f1.1 8 (by decide))
      refine hJ 60 _ _ _ _ ?_
      refine And.intro (fun _ => ?_) (fun c => by rw [en, nI_leI (by omega) (by omega)] at c; omega)
      refine hJ 60 _ _ _ _ ?_
      refine r_hasDome e10 (by omega) (fun d1 => ?_) (fun d0 => ?_)
      · simp only [if_pos d1] at hq
        refine And.intro (fun c => absurd c (by decide)) (fun _ => ?_)
        refine hJ 17 _ _ _ _ ?_
        refine r_suspects hd hf (XD_fr x5 (f1.1 3 (by decide)) (f1.1 4 (by decide))) hX' (fun μ2 f2 g2 => ?_)
        refine r_mix ?_
        refine r_bestToAsk (d := d) (s := f.1) h6 (by rw [f2.1 5 (by decide)]; exact en) g2 (whoB_lt h6) rfl ?_
        refine r_mix ?_
        exact pages L 0 _ μ2 (by omega) (fr_tr f1 f2) hq
      · simp only [if_neg d0] at hq
        refine And.intro (fun _ => ?_) (fun c => absurd rfl c)
        refine hJ 2 _ _ _ _ ?_
        exact pages L 0 _ μ' (by omega) f1 hq
    | succ k ih =>
      intro q a μ' hk f1 hq
      have en : μ'.1 5 0 = nI f.1.1 := by rw [f1.1 5 (by decide)]; exact x6.1.1
      refine hJ 60 _ _ _ _ ?_
      refine And.intro (fun c => by rw [en, nI_leI (by omega) (by omega)] at c; omega) (fun _ => ?_)
      refine hJ 60 _ _ _ _ ?_
      refine r_digestPerson (d := d) (s := f.1) (q := q) hd hf.1 (XD_fr x5 (f1.1 3 (by decide)) (f1.1 4 (by decide))) (XS_fr x6.1 (f1.1 5 (by decide)) (f1.1 6 (by decide)) (f1.1 7 (by decide)) (f1.1 8 (by decide))) (by omega) rfl (fun μ2 f2 => ?_)
      show J 10 [_, .long (dgQ d f.1 q (fdN (fun q h => dgQ d f.1 q h) q a)), _, .int (nI q + 1)] [] μ2
      rw [nI_1]
      exact ih (q + 1) a μ2 (by omega) (fr_tr f1 (fr_w f2 (by simp))) hq
  refine hJ 6 _ _ _ _ ?_
  refine r_digestPlaces (d := d) (s := f.1) x3 (by omega) hd hf.1 x5 x6.1 ?_
  refine ppl f.1.1 0 (if 0 < D then dgP d f.1 937 else 937) μ (by omega) (fr_rf _ _) ?_
  have e : A_digest (L, pg, D, S, d, f, im) = fdN (fun w h => mx h (A_count (L, pg, D, S, d, f, im) (nI w))) 8 (fdN (fun j h => mx h (pg j)) L (if 0 < D then mx (mx (fdN (fun q h => dgQ d f.1 q h) f.1.1 (if 0 < D then dgP d f.1 937 else 937)) (nI (whoB d f.1 f.2.2))) (askV d f.1 f.2.2) else fdN (fun q h => dgQ d f.1 q h) f.1.1 (if 0 < D then dgP d f.1 937 else 937))) := by
    by_cases d1 : 0 < D
    · rw [if_pos d1, if_pos d1]; unfold A_digest; simp only []; rw [if_pos d1]
    · rw [if_neg d1, if_neg d1]; unfold A_digest; simp only []; rw [if_neg d1]
  rw [← e]
  exact h
