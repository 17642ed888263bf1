/-! the reference's digest -/
def gN (a b : mm_M) (h : Int64) : Prop := (∀ r, r ≠ 26 → b.1 r = a.1 r) ∧ (∀ r, r ≠ 21 → r ≠ 26 → b.2 r = a.2 r) ∧ b.2 21 = h
theorem gN_26 {a b c : mm_M} {h : Int64} (g : gN a b h) (f : fr [26] b c) : gN a c h := ⟨fun r hr => (f.1 r (by simp [hr])).trans (g.1 r hr), fun r h1 h2 => (f.2 r (by simp [h2])).trans (g.2.1 r h1 h2), (f.2 21 (by decide)).trans g.2.2⟩
theorem gN_MA {a b : mm_M} {h : Int64} (g : gN a b h) : fr MA a b := ⟨fun r hr => g.1 r (fun z => hr (by rw [z]; decide)), fun r hr => g.2.1 r (fun z => hr (by rw [z]; decide)) (fun z => hr (by rw [z]; decide))⟩
theorem RM_N {st : st_T} {a b : mm_M} {h : Int64} (hx : RM st a) (g : gN a b h) : RM st b := RM_fr hx (fun r _ h2 _ => g.1 r h2)
set_option maxRecDepth 20000 in
set_option maxHeartbeats 2000000 in
theorem r_note {Q : mm_R} {a b : mm_M} {h : Int64} {v : Int32} (g : gN a b h) (k : ∀ b', gN a b' (mx h v) → Q none b') : mm_Runs m_X5_note Q 0 [.ref 21, .long v.toInt64, .null] [] b := by
  intro J hJ hF
  refine hJ 60 _ _ _ _ ?_
  refine k _ ⟨fun r hr => g.1 r hr, fun r h1 h2 => ?_, ?_⟩
  · show va_up b.2 21 _ r = _
    simp only [va_up, if_neg h1]
    exact g.2.1 r h1 h2
  · show va_up b.2 21 _ 21 = _
    simp only [va_up, if_true]
    rw [g.2.2]; rfl
set_option maxRecDepth 20000 in
set_option maxHeartbeats 2000000 in
theorem r_mdigest {Q : mm_R} {μ : mm_M} {st : st_T} (hA : AOK st) (hR : RM st μ) (h : ∀ μ', fr MA μ μ' → RM st μ' → Q (some (.long (A_digest st))) μ') : mm_Runs m_X5_digest Q 0 [.ref 21, .null, .null] [] μ := by
  have hA0 := hA
  have hR0 := hR
  obtain ⟨L, pg, D, S, d, f, im⟩ := st
  obtain ⟨hL, hDl, hS, hd, hf, hD0, him⟩ := hA
  have h6 := hf.1.1
  have ht1 := thr_le D
  intro J hJ hF
  have last : ∀ k w (a : Int64) μ', k + w = 8 → gN μ μ' (fdN (fun w h => mx h (A_count (L, pg, D, S, d, f, im) (nI w))) w a) → fdN (fun w h => mx h (A_count (L, pg, D, S, d, f, im) (nI w))) 8 a = A_digest (L, pg, D, S, d, f, im) → J 174 [.ref 21, .int (nI w), .null] [] μ' := by
    intro k
    induction k with
    | zero =>
      intro w a μ' hk g1 hq
      have e : w = 8 := by omega
      subst e
      refine hJ 60 _ _ _ _ ?_
      refine And.intro (fun _ => ?_) (fun c => absurd (show (8 : Int32) ≤ nI 8 by decide) c)
      refine hJ 60 _ _ _ _ ?_
      have z := h μ' (gN_MA g1) (RM_N hR0 g1)
      rw [← hq, ← g1.2.2] at z
      exact z
    | succ k ih =>
      intro w a μ' hk g1 hq
      refine hJ 60 _ _ _ _ ?_
      refine And.intro (fun c => by rw [show (8 : Int32) = nI 8 from rfl, nI_leI (by omega) (by omega)] at c; omega) (fun _ => ?_)
      refine hJ 60 _ _ _ _ ?_
      refine r_countOf (st := (L, pg, D, S, d, f, im)) hA0 (RM_N hR0 g1) ?_
      refine r_note g1 (fun μ2 g2 => ?_)
      show J 174 [_, .int (nI w + 1), _] [] μ2
      rw [nI_1]
      exact ih (w + 1) a μ2 (by omega) g2 hq
  have pages : ∀ k j (a : Int64) μ', k + j = L → gN μ μ' (fdN (fun j h => mx h (pg j)) j a) → fdN (fun w h => mx h (A_count (L, pg, D, S, d, f, im) (nI w))) 8 (fdN (fun j h => mx h (pg j)) L a) = A_digest (L, pg, D, S, d, f, im) → J 147 [.ref 21, .int (nI j), .null] [] μ' := by
    intro k
    induction k with
    | zero =>
      intro j a μ' hk g1 hq
      have e : j = L := by omega
      subst e
      have ex : μ'.1 21 1 = nI j := (RM_N hR0 g1).1
      refine hJ 60 _ _ _ _ ?_
      refine And.intro (fun _ => ?_) (fun c => by rw [ex, nI_leI (by omega) (by omega)] at c; omega)
      refine hJ 2 _ _ _ _ ?_
      exact last 8 0 _ μ' (by omega) g1 hq
    | succ k ih =>
      intro j a μ' hk g1 hq
      have ex : μ'.1 21 1 = nI L := (RM_N hR0 g1).1
      refine hJ 60 _ _ _ _ ?_
      refine And.intro (fun c => by rw [ex, nI_leI (by omega) (by omega)] at c; omega) (fun _ => ?_)
      refine hJ 60 _ _ _ _ ?_
      refine And.intro (ar_in (by omega) (by omega)) ?_
      rw [ar_cl (by omega), (RM_N hR0 g1).2.1 j (by omega)]
      refine r_note g1 (fun μ2 g2 => ?_)
      show J 147 [_, .int (nI j + 1), _] [] μ2
      rw [nI_1]
      exact ih (j + 1) a μ2 (by omega) g2 hq
  have tls : ∀ k b q (a : Int64) μ', k + b = f.1.1 → q < f.1.1 → gN μ μ' (fdN (fun b h => mx h (mv (hT d f.1 q b))) b a) → (∀ μ2, gN μ μ2 (fdN (fun b h => mx h (mv (hT d f.1 q b))) f.1.1 a) → J 55 [.ref 21, .int (nI (q + 1)), .null] [] μ2) → J 89 [.ref 21, .int (nI q), .int (nI b)] [] μ' := by
    intro k
    induction k with
    | zero =>
      intro b q a μ' hk hq g1 hz
      have e : b = f.1.1 := by omega
      subst e
      have ex : μ'.1 21 8 = nI f.1.1 := (RM_N hR0 g1).2.2.2.2.2.2.1.1.1
      refine hJ 60 _ _ _ _ ?_
      refine And.intro (fun _ => ?_) (fun c => by rw [ex, nI_leI (by omega) (by omega)] at c; omega)
      refine hJ 2 _ _ _ _ ?_
      refine hF [2] _ _ _ _ ?_
      show J 55 [_, .int (nI q + 1), _] [] μ'
      rw [nI_1]
      exact hz μ' g1
    | succ k ih =>
      intro b q a μ' hk hq g1 hz
      have ex : μ'.1 21 8 = nI f.1.1 := (RM_N hR0 g1).2.2.2.2.2.2.1.1.1
      refine hJ 60 _ _ _ _ ?_
      refine And.intro (fun c => by rw [ex, nI_leI (by omega) (by omega)] at c; omega) (fun _ => ?_)
      refine hJ 60 _ _ _ _ ?_
      refine r_mhearsOf (d := d) (s := f.1) (o := q) (b := b) hd hf.1 (RM_N hR0 g1).2.2.2.2.2.1 (RM_N hR0 g1).2.2.2.2.2.2.1.1 hq rfl (by omega) rfl (fun μ2 f2 => ?_)
      refine r_note (gN_26 g1 f2) (fun μ3 g3 => ?_)
      show J 89 [_, _, .int (nI b + 1)] [] μ3
      rw [nI_1]
      exact ih (b + 1) q a μ3 (by omega) hq g3 hz
  have abo : ∀ k w q (a : Int64) μ', k + w = 4 → q < f.1.1 → gN μ μ' (fdN (fun w h => mx h (tA d f.1 q (nI w))) w a) → (∀ μ2, gN μ μ2 (fdN (fun w h => mx h (tA d f.1 q (nI w))) 4 a) → J 89 [.ref 21, .int (nI q), .int (nI 0)] [] μ2) → J 65 [.ref 21, .int (nI q), .int (nI w)] [] μ' := by
    intro k
    induction k with
    | zero =>
      intro w q a μ' hk hq g1 hz
      have e : w = 4 := by omega
      subst e
      refine hJ 60 _ _ _ _ ?_
      refine And.intro (fun _ => ?_) (fun c => absurd (show (4 : Int32) ≤ nI 4 by decide) c)
      refine hJ 2 _ _ _ _ ?_
      exact hz μ' g1
    | succ k ih =>
      intro w q a μ' hk hq g1 hz
      refine hJ 60 _ _ _ _ ?_
      refine And.intro (fun c => by rw [show (4 : Int32) = nI 4 from rfl, nI_leI (by omega) (by omega)] at c; omega) (fun _ => ?_)
      refine hJ 60 _ _ _ _ ?_
      refine r_mtell (d := d) (s := f.1) (j := q) hd hf.1 (RM_N hR0 g1).2.2.2.2.2.1 (RM_N hR0 g1).2.2.2.2.2.2.1.1 hq rfl (fun μ2 f2 => ?_)
      refine r_note (gN_26 g1 f2) (fun μ3 g3 => ?_)
      show J 65 [_, _, .int (nI w + 1)] [] μ3
      rw [nI_1]
      exact ih (w + 1) q a μ3 (by omega) hq g3 hz
  have ppl : ∀ k q (a : Int64) μ', k + q = f.1.1 → gN μ μ' (fdN (fun q h => dgQ d f.1 q h) q a) → fdN (fun w h => mx h (A_count (L, pg, D, S, d, f, im) (nI w))) 8 (fdN (fun j h => mx h (pg j)) L (if 0 < D then mx (mx (fdN (fun q h => dgQ d f.1 q h) f.1.1 a) (nI (whoB d f.1 f.2.2))) (askV d f.1 f.2.2) else fdN (fun q h => dgQ d f.1 q h) f.1.1 a)) = A_digest (L, pg, D, S, d, f, im) → J 55 [.ref 21, .int (nI q), .null] [] μ' := by
    intro k
    induction k with
    | zero =>
      intro q a μ' hk g1 hq
      have e : q = f.1.1 := by omega
      subst e
      have ex : μ'.1 21 8 = nI f.1.1 := (RM_N hR0 g1).2.2.2.2.2.2.1.1.1
      have et : μ'.1 21 2 = nI (thr D) := (RM_N hR0 g1).2.2.1
      refine hJ 60 _ _ _ _ ?_
      refine And.intro (fun _ => ?_) (fun c => by rw [ex, nI_leI (by omega) (by omega)] at c; omega)
      refine hJ 60 _ _ _ _ ?_
      by_cases d1 : 0 < D
      · simp only [if_pos d1] at hq
        refine And.intro (fun c => by rw [et, thr_1.mpr d1] at c; exact absurd c (by decide)) (fun _ => ?_)
        refine hJ 12 _ _ _ _ ?_
        refine r_whoBits hd hf (RM_N hR0 g1).2.2.2.2.2.1 (RM_N hR0 g1).2.2.2.2.2.2.1 (fun μ2 f2 => ?_)
        have g2 := gN_26 g1 f2
        refine r_note g2 (fun μ3 g3 => ?_)
        refine r_askOf hd hf (RM_N hR0 g3).2.2.2.2.2.1 (RM_N hR0 g3).2.2.2.2.2.2.1 (fun μ4 f4 => ?_)
        refine r_note (gN_26 g3 f4) (fun μ5 g5 => ?_)
        exact pages L 0 _ μ5 (by omega) g5 hq
      · have e0 : thr D = 0 := by have := thr_1 (D := D); omega
        simp only [if_neg d1] at hq
        refine And.intro (fun _ => ?_) (fun c => absurd (by rw [et, e0]; rfl) c)
        refine hJ 2 _ _ _ _ ?_
        exact pages L 0 _ μ' (by omega) g1 hq
    | succ k ih =>
      intro q a μ' hk g1 hq
      have ex : μ'.1 21 8 = nI f.1.1 := (RM_N hR0 g1).2.2.2.2.2.2.1.1.1
      refine hJ 60 _ _ _ _ ?_
      refine And.intro (fun c => by rw [ex, nI_leI (by omega) (by omega)] at c; omega) (fun _ => ?_)
      refine hJ 2 _ _ _ _ ?_
      refine abo 4 0 q _ μ' (by omega) (by omega) g1 (fun μ2 g2 => ?_)
      refine tls f.1.1 0 q _ μ2 (by omega) (by omega) g2 (fun μ3 g3 => ?_)
      exact ih (q + 1) a μ3 (by omega) g3 hq
  have inn : ∀ k w p (a : Int64) μ', k + w = 6 → p < 8 → gN μ μ' (fdN (fun w h => mx h (tP d f.1 p (nI w))) w a) → (∀ μ2, gN μ μ2 (fdN (fun w h => mx h (tP d f.1 p (nI w))) 6 a) → J 9 [.ref 21, .int (nI (p + 1)), .null] [] μ2) → J 24 [.ref 21, .int (nI p), .int (nI w)] [] μ' := by
    intro k
    induction k with
    | zero =>
      intro w p a μ' hk hq g1 hz
      have e : w = 6 := by omega
      subst e
      refine hJ 60 _ _ _ _ ?_
      refine And.intro (fun _ => ?_) (fun c => absurd (show (6 : Int32) ≤ nI 6 by decide) c)
      refine hJ 2 _ _ _ _ ?_
      refine hF [2] _ _ _ _ ?_
      show J 9 [_, .int (nI p + 1), _] [] μ'
      rw [nI_1]
      exact hz μ' g1
    | succ k ih =>
      intro w p a μ' hk hq g1 hz
      refine hJ 60 _ _ _ _ ?_
      refine And.intro (fun c => by rw [show (6 : Int32) = nI 6 from rfl, nI_leI (by omega) (by omega)] at c; omega) (fun _ => ?_)
      refine hJ 60 _ _ _ _ ?_
      refine r_tellPlace (d := d) (s := f.1) (j := p) hd hf.1 (RM_N hR0 g1).2.2.2.2.2.1 (RM_N hR0 g1).2.2.2.2.2.2.1.1 hq rfl ?_
      refine r_note g1 (fun μ3 g3 => ?_)
      show J 24 [_, _, .int (nI w + 1)] [] μ3
      rw [nI_1]
      exact ih (w + 1) p a μ3 (by omega) hq g3 hz
  have plc : ∀ k p μ', k + p = 8 → 0 < D → gN μ μ' (fdN (fun p h => fdN (fun w h => mx h (tP d f.1 p (nI w))) 6 h) p 937) → (∀ μ2, gN μ μ2 (dgP d f.1 937) → J 55 [.ref 21, .int (nI 0), .null] [] μ2) → J 9 [.ref 21, .int (nI p), .null] [] μ' := by
    intro k
    induction k with
    | zero =>
      intro p μ' hk d1 g1 hz
      have e : p = 8 := by omega
      subst e
      refine hJ 60 _ _ _ _ ?_
      refine And.intro (fun _ => ?_) (fun c => absurd (show (8 : Int32) ≤ nI 8 by decide) c)
      refine hJ 2 _ _ _ _ ?_
      exact hz μ' g1
    | succ k ih =>
      intro p μ' hk d1 g1 hz
      have et : μ'.1 21 2 = nI (thr D) := (RM_N hR0 g1).2.2.1
      refine hJ 60 _ _ _ _ ?_
      refine And.intro (fun c => by rw [show (8 : Int32) = nI 8 from rfl, nI_leI (by omega) (by omega)] at c; omega) (fun _ => ?_)
      refine hJ 60 _ _ _ _ ?_
      refine And.intro (fun c => by rw [et, thr_1.mpr d1] at c; exact absurd c (by decide)) (fun _ => ?_)
      refine hJ 2 _ _ _ _ ?_
      refine inn 6 0 p _ μ' (by omega) (by omega) g1 (fun μ2 g2 => ?_)
      exact ih (p + 1) μ2 (by omega) d1 g2 hz
  have e : A_digest (L, pg, D, S, d, f, im) = fdN (fun w h => mx h (A_count (L, pg, D, S, d, f, im) (nI w))) 8 (fdN (fun j h => mx h (pg j)) L (if 0 < D then mx (mx (fdN (fun q h => dgQ d f.1 q h) f.1.1 (if 0 < D then dgP d f.1 937 else 937)) (nI (whoB d f.1 f.2.2))) (askV d f.1 f.2.2) else fdN (fun q h => dgQ d f.1 q h) f.1.1 (if 0 < D then dgP d f.1 937 else 937))) := by
    by_cases d1 : 0 < D
    · rw [if_pos d1, if_pos d1]; unfold A_digest; simp only []; rw [if_pos d1]
    · rw [if_neg d1, if_neg d1]; unfold A_digest; simp only []; rw [if_neg d1]
  have g0 : gN μ (mm_putl μ 21 937) 937 := by
    refine ⟨fun r hr => rfl, fun r h1 h2 => ?_, ?_⟩
    · show va_up μ.2 21 _ r = _
      simp only [va_up, if_neg h1]
    · show va_up μ.2 21 937 21 = 937
      simp [va_up]
  refine hJ 5 _ _ _ _ ?_
  show J 9 [.ref 21, .int (nI 0), .null] [] (mm_putl μ 21 937)
  by_cases d1 : 0 < D
  · refine plc 8 0 _ (by omega) d1 g0 (fun μ2 g2 => ?_)
    rw [if_pos d1] at e
    exact ppl f.1.1 0 (dgP d f.1 937) μ2 (by omega) g2 (by rw [if_pos d1]; rw [if_pos d1] at e; exact e.symm)
  · have et : (mm_putl μ 21 937).1 21 2 = nI (thr D) := (RM_N hR0 g0).2.2.1
    have e0 : thr D = 0 := by have := thr_1 (D := D); omega
    refine hJ 60 _ _ _ _ ?_
    refine And.intro (fun c => absurd c (by decide)) (fun _ => ?_)
    refine hJ 60 _ _ _ _ ?_
    refine And.intro (fun _ => ?_) (fun c => absurd (by rw [et, e0]; rfl) c)
    refine hJ 2 _ _ _ _ ?_
    rw [if_neg d1, if_neg d1] at e
    exact ppl f.1.1 0 937 _ (by omega) g0 (by rw [if_neg d1]; exact e.symm)
