/-! Hearing: fill, isOfKind, reach, earliestWaiting, utter, spread -/
set_option maxRecDepth 20000 in
set_option maxHeartbeats 2000000 in
theorem r_fill18 {Q : mm_R} {μ : mm_M} {v : Int32} (h : ∀ μ', fr [18] μ μ' → (∀ j, j < 6 → μ'.1 18 j = v) → Q none μ') : mm_Runs m_J7_fill_53178 Q 0 [.ref 18, .int v, .null, .null] [] μ := by
  intro J hJ hF
  have lp : ∀ k i μ', k + i = 6 → fr [18] μ μ' → (∀ j, j < i → μ'.1 18 j = v) → J 5 [.ref 18, .int v, .int (nI i), .int (nI 6)] [] μ' := by
    intro k
    induction k with
    | zero =>
      intro i μ' hk h1 h2
      refine hJ 60 _ _ _ _ ?_
      refine And.intro (fun c => ?_) (fun c => ?_)
      · refine hJ 60 _ _ _ _ ?_
        exact h μ' h1 (fun j hj => h2 j (by omega))
      · exact absurd (nI_le (by omega) (by omega)) c
    | succ k ih =>
      intro i μ' hk h1 h2
      refine hJ 60 _ _ _ _ ?_
      refine And.intro (fun c => ?_) (fun c => ?_)
      · rw [nI_leI (by omega) (by omega)] at c; omega
      · refine hJ 60 _ _ _ _ ?_
        refine And.intro (ar_in (by omega) (by omega)) ?_
        show J 5 [_, _, .int (nI i + 1), _] [] (mm_put μ' 18 (nI i).toNatClampNeg v)
        rw [nI_1, ar_cl (by omega)]
        refine ih (i + 1) _ (by omega) (fr_put h1 (by simp)) (fun j hj => ?_)
        rw [mp_eq]
        by_cases e : j = i
        · subst e; exact up_eq _ _ _
        · rw [up_ne _ _ e]; exact h2 j (by omega)
  refine hJ 5 _ _ _ _ ?_
  exact (lp 6 0 μ (by omega) (fr_rf _ _) (fun j hj => absurd hj (Nat.not_lt_zero _)))
set_option maxRecDepth 20000 in
set_option maxHeartbeats 2000000 in
theorem r_isGossip {Q : mm_R} {μ : mm_M} {a b : Int32} (k : Nat) (ha : a = nI k) (hk : k ≤ 4) (hb : b = 2) (h1 : k = 2 ∨ k = 4 → Q (some (.int 1)) μ) (h0 : ¬ (k = 2 ∨ k = 4) → Q (some (.int 0)) μ) : mm_Runs m_X4_isOfKind Q 0 [.int a, .int b] [] μ := by
  subst ha; subst hb
  have fin1 : ∀ J : mm_J, (∀ n pc lc st μ, mm_run m_X4_isOfKind Q J n pc lc st μ → J pc lc st μ) → (k = 2 ∨ k = 4) → J 19 [.int (nI k), .int 2] [] μ := by
    intro J hJ hk
    refine hJ 60 _ _ _ _ ?_
    refine hJ 60 _ _ _ _ ?_
    exact And.intro (Or.inr rfl) (h1 hk)
  have fin0 : ∀ J : mm_J, (∀ n pc lc st μ, mm_run m_X4_isOfKind Q J n pc lc st μ → J pc lc st μ) → ¬ (k = 2 ∨ k = 4) → J 23 [.int (nI k), .int 2] [] μ := by
    intro J hJ hk
    refine hJ 60 _ _ _ _ ?_
    exact And.intro (Or.inl rfl) (h0 hk)
  intro J hJ hF
  refine hJ 60 _ _ _ _ ?_
  refine And.intro (fun c => ?_) (fun c => ?_)
  · have : 2 = k := nI_inj (by omega) (by omega) c
    exact fin1 J hJ (by omega)
  · have c' : k ≠ 2 := fun e => c (by rw [e]; rfl)
    refine hJ 60 _ _ _ _ ?_
    refine And.intro (fun c2 => absurd c2 (by decide)) (fun _ => ?_)
    refine hJ 60 _ _ _ _ ?_
    refine And.intro (fun c2 => absurd rfl c2) (fun _ => ?_)
    refine hJ 60 _ _ _ _ ?_
    refine And.intro (fun c3 => ?_) (fun c3 => ?_)
    · exact fin0 J hJ (fun e => c3 (by rcases e with e | e; · exact absurd e c'
                                       · rw [e]; rfl))
    · have : k = 4 := nI_inj (by omega) (by omega) c3
      exact fin1 J hJ (by omega)
/-- minutes as the class keeps them -/
def mv (n : Nat) : Int32 := if n < 9999 then nI n else -1
def HS (D : Nat → Nat) (wt : Nat) (μ : mm_M) : Prop := (∀ b, b < 6 → μ.1 18 b = mv (D b)) ∧ μ.1 17 1 = nI (mk (fun b => decide (D b < 9999)) 6) ∧ μ.1 17 2 = nI wt
def rD (D : Nat → Nat) (p w : Nat) : Nat → Nat := fun b => if b = p ∧ w < D p then w else D b
def rW (s : sc_T) (D : Nat → Nat) (wt p w : Nat) : Nat := if w < D p ∧ (s.2.1 p = 2 ∨ s.2.1 p = 4) then wt ||| 2 ^ p else wt
theorem rD_no {D : Nat → Nat} {p w : Nat} (h : D p ≤ w) : rD D p w = D := by
  funext b; unfold rD; rw [if_neg (by omega)]
theorem HS_no {D : Nat → Nat} {wt p w : Nat} {s : sc_T} {μ : mm_M} (h : D p ≤ w) (hH : HS D wt μ) : HS (rD D p w) (rW s D wt p w) μ := by
  rw [rD_no h]; unfold rW; rw [if_neg (by omega)]; exact hH
theorem mk_set {D : Nat → Nat} {p w : Nat} (hp : p < 6) (hw : w < 9999) (h : w < D p) : mk (fun b => decide (D b < 9999)) 6 ||| 2 ^ p = mk (fun b => decide (rD D p w b < 9999)) 6 := by
  apply mk_of
  intro b
  rw [Nat.testBit_or, mk_bit, Nat.testBit_two_pow]
  by_cases e : p = b
  · subst e
    simp [rD, h, hw, hp]
  · have e2 : ¬ (b = p ∧ w < D p) := fun q => e q.1.symm
    simp [rD, e2, e]
set_option maxRecDepth 20000 in
set_option maxHeartbeats 2000000 in
theorem r_reach5 {Q : mm_R} {μ : mm_M} {s : sc_T} {D : Nat → Nat} {wt p w : Nat} {pv wv : Int32} (hs : sOK s) (hX : XS 5 s μ) (hH : HS D wt μ) (hwt : wt < 64) (hp : p < s.1) (hw : w < 9999) (hpv : pv = nI p) (hwv : wv = nI w)
    (h : ∀ μ', fr [17, 18] μ μ' → HS (rD D p w) (rW s D wt p w) μ' → Q none μ') : mm_Runs m_X1_reach Q 0 [.ref 17, .ref 5, .int pv, .int wv] [] μ := by
  subst hpv; subst hwv
  have hp6 : p < 6 := by have := hs.1; omega
  have hml := mk_lt (fun b => decide (D b < 9999)) 6
  have hmb := mk_bit (fun b => decide (D b < 9999)) 6 p
  have hk := hs.2.1 p hp
  have ek : μ.1 6 p = nI (s.2.1 p) := (hX.2.1 p hp).1
  intro J hJ hF
  have tail : w < D p → J 22 [.ref 17, .ref 5, .int (nI p), .int (nI w)] [] μ := by
    intro hlt
    refine hJ 60 _ _ _ _ ?_
    refine And.intro (ar_in hp6 (by omega)) ?_
    refine And.intro (ar_in hp6 (by omega)) ?_
    have hfr : ∀ v, fr [17, 18] μ (mm_put (mm_put μ 18 (nI p).toNatClampNeg (nI w)) 17 1 v) := fun v => fr_put (fr_put (fr_rf _ _) (by simp)) (by simp)
    have hH1 : ∀ v, v = μ.1 17 1 ||| ((1 : Int32) <<< (nI p &&& 31)) → HS (rD D p w) wt (mm_put (mm_put μ 18 (nI p).toNatClampNeg (nI w)) 17 1 v) := by
      intro v hv
      refine ⟨fun b hb => ?_, ?_, hH.2.2⟩
      · show (mm_put μ 18 (nI p).toNatClampNeg (nI w)).1 18 b = _
        rw [mp_eq, ar_cl (by omega)]
        by_cases e : b = p
        · subst e
          have z : rD D b w b = w := if_pos ⟨rfl, hlt⟩
          rw [up_eq, z]; unfold mv; rw [if_pos hw]
        · rw [up_ne _ _ e, hH.1 b hb]; unfold rD; rw [if_neg (fun q => e q.1)]
      · show upd ((mm_put μ 18 (nI p).toNatClampNeg (nI w)).1 17) 1 v 1 = _
        rw [up_eq, hv, hH.2.1, ar_shl p (by omega), ar_or, mk_set hp6 hw hlt]
    refine r_isGossip (s.2.1 p) (by rw [ar_cl (by omega)]; exact ek) hk.1 rfl (fun g1 => ?_) (fun g0 => ?_)
    · refine And.intro (fun c => absurd c (by decide)) (fun _ => ?_)
      refine hJ 60 _ _ _ _ ?_
      refine h _ (fr_put (hfr _) (by simp)) ?_
      obtain ⟨q1, q2, q3⟩ := hH1 _ rfl
      refine ⟨q1, q2, ?_⟩
      unfold rW
      rw [if_pos ⟨hlt, g1⟩]
      show (μ.1 17 2 ||| ((1 : Int32) <<< (nI p &&& 31))) = _
      rw [hH.2.2, ar_shl p (by omega), ar_or]
    · refine And.intro (fun _ => ?_) (fun c => absurd rfl c)
      refine hJ 60 _ _ _ _ ?_
      refine h _ (hfr _) ?_
      unfold rW
      rw [if_neg (fun z => g0 z.2)]
      exact hH1 _ rfl
  refine hJ 60 _ _ _ _ ?_
  refine r_hasBit _ p hH.2.1 rfl (by omega) (by omega) (fun b1 => ?_) (fun b0 => ?_)
  · rw [hmb] at b1
    simp [hp6] at b1
    refine And.intro (fun c => absurd c (by decide)) (fun _ => ?_)
    refine hJ 60 _ _ _ _ ?_
    refine And.intro (ar_in hp6 (by omega)) ?_
    refine And.intro (fun c => ?_) (fun c => ?_)
    · rw [ar_cl (by omega), hH.1 p hp6] at c
      unfold mv at c
      rw [if_pos b1, nI_ltI (by omega) (by omega)] at c
      exact tail c
    · rw [ar_cl (by omega), hH.1 p hp6] at c
      unfold mv at c
      rw [if_pos b1, nI_ltI (by omega) (by omega)] at c
      refine hJ 60 _ _ _ _ ?_
      exact h μ (fr_rf _ _) (HS_no (by omega) hH)
  · rw [hmb] at b0
    simp [hp6] at b0
    refine And.intro (fun _ => ?_) (fun c => absurd rfl c)
    exact tail (by omega)
set_option maxRecDepth 20000 in
set_option maxHeartbeats 2000000 in
theorem r_reach13 {Q : mm_R} {μ : mm_M} {s : sc_T} {D : Nat → Nat} {wt p w : Nat} {pv wv : Int32} (hs : sOK s) (hX : XS 13 s μ) (hH : HS D wt μ) (hwt : wt < 64) (hp : p < s.1) (hw : w < 9999) (hpv : pv = nI p) (hwv : wv = nI w)
    (h : ∀ μ', fr [17, 18] μ μ' → HS (rD D p w) (rW s D wt p w) μ' → Q none μ') : mm_Runs m_X1_reach Q 0 [.ref 17, .ref 13, .int pv, .int wv] [] μ := by
  subst hpv; subst hwv
  have hp6 : p < 6 := by have := hs.1; omega
  have hml := mk_lt (fun b => decide (D b < 9999)) 6
  have hmb := mk_bit (fun b => decide (D b < 9999)) 6 p
  have hk := hs.2.1 p hp
  have ek : μ.1 14 p = nI (s.2.1 p) := (hX.2.1 p hp).1
  intro J hJ hF
  have tail : w < D p → J 22 [.ref 17, .ref 13, .int (nI p), .int (nI w)] [] μ := by
    intro hlt
    refine hJ 60 _ _ _ _ ?_
    refine And.intro (ar_in hp6 (by omega)) ?_
    refine And.intro (ar_in hp6 (by omega)) ?_
    have hfr : ∀ v, fr [17, 18] μ (mm_put (mm_put μ 18 (nI p).toNatClampNeg (nI w)) 17 1 v) := fun v => fr_put (fr_put (fr_rf _ _) (by simp)) (by simp)
    have hH1 : ∀ v, v = μ.1 17 1 ||| ((1 : Int32) <<< (nI p &&& 31)) → HS (rD D p w) wt (mm_put (mm_put μ 18 (nI p).toNatClampNeg (nI w)) 17 1 v) := by
      intro v hv
      refine ⟨fun b hb => ?_, ?_, hH.2.2⟩
      · show (mm_put μ 18 (nI p).toNatClampNeg (nI w)).1 18 b = _
        rw [mp_eq, ar_cl (by omega)]
        by_cases e : b = p
        · subst e
          have z : rD D b w b = w := if_pos ⟨rfl, hlt⟩
          rw [up_eq, z]; unfold mv; rw [if_pos hw]
        · rw [up_ne _ _ e, hH.1 b hb]; unfold rD; rw [if_neg (fun q => e q.1)]
      · show upd ((mm_put μ 18 (nI p).toNatClampNeg (nI w)).1 17) 1 v 1 = _
        rw [up_eq, hv, hH.2.1, ar_shl p (by omega), ar_or, mk_set hp6 hw hlt]
    refine r_isGossip (s.2.1 p) (by rw [ar_cl (by omega)]; exact ek) hk.1 rfl (fun g1 => ?_) (fun g0 => ?_)
    · refine And.intro (fun c => absurd c (by decide)) (fun _ => ?_)
      refine hJ 60 _ _ _ _ ?_
      refine h _ (fr_put (hfr _) (by simp)) ?_
      obtain ⟨q1, q2, q3⟩ := hH1 _ rfl
      refine ⟨q1, q2, ?_⟩
      unfold rW
      rw [if_pos ⟨hlt, g1⟩]
      show (μ.1 17 2 ||| ((1 : Int32) <<< (nI p &&& 31))) = _
      rw [hH.2.2, ar_shl p (by omega), ar_or]
    · refine And.intro (fun _ => ?_) (fun c => absurd rfl c)
      refine hJ 60 _ _ _ _ ?_
      refine h _ (hfr _) ?_
      unfold rW
      rw [if_neg (fun z => g0 z.2)]
      exact hH1 _ rfl
  refine hJ 60 _ _ _ _ ?_
  refine r_hasBit _ p hH.2.1 rfl (by omega) (by omega) (fun b1 => ?_) (fun b0 => ?_)
  · rw [hmb] at b1
    simp [hp6] at b1
    refine And.intro (fun c => absurd c (by decide)) (fun _ => ?_)
    refine hJ 60 _ _ _ _ ?_
    refine And.intro (ar_in hp6 (by omega)) ?_
    refine And.intro (fun c => ?_) (fun c => ?_)
    · rw [ar_cl (by omega), hH.1 p hp6] at c
      unfold mv at c
      rw [if_pos b1, nI_ltI (by omega) (by omega)] at c
      exact tail c
    · rw [ar_cl (by omega), hH.1 p hp6] at c
      unfold mv at c
      rw [if_pos b1, nI_ltI (by omega) (by omega)] at c
      refine hJ 60 _ _ _ _ ?_
      exact h μ (fr_rf _ _) (HS_no (by omega) hH)
  · rw [hmb] at b0
    simp [hp6] at b0
    refine And.intro (fun _ => ?_) (fun c => absurd rfl c)
    exact tail (by omega)
set_option maxRecDepth 20000 in
set_option maxHeartbeats 2000000 in
theorem r_earliest {Q : mm_R} {μ : mm_M} {n wt : Nat} {D : Nat → Nat} {nv : Int32} (hn : n ≤ 6) (hnv : nv = nI n) (hH : HS D wt μ) (hwt : wt < 64) (hne : wt ≠ 0) (hin : ∀ b, wt.testBit b = true → b < n ∧ D b < 9999)
    (h : ∀ a, wt.testBit a = true → (∀ b, wt.testBit b = true → D a ≤ D b) → Q (some (.int (nI a))) μ) : mm_Runs m_X1_earliestWaiting Q 0 [.ref 17, .int nv, .null, .null, .null] [] μ := by
  subst hnv
  intro J hJ hF
  have lp : ∀ k i best (found : Int32), k + i = n → (found = 0 ∨ found = 1) → best < 6 → (found = 0 → ∀ b, b < i → wt.testBit b = false) → (found = 1 → wt.testBit best = true ∧ ∀ b, b < i → wt.testBit b = true → D best ≤ D b) → J 7 [.ref 17, .int (nI n), .int (nI best), .int found, .int (nI i)] [] μ := by
    intro k
    induction k with
    | zero =>
      intro i best found hk hf hb h0 h1
      refine hJ 60 _ _ _ _ ?_
      refine And.intro (fun c => ?_) (fun c => ?_)
      · refine hJ 60 _ _ _ _ ?_
        rcases hf with rfl | rfl
        · exfalso
          apply hne
          apply Nat.eq_of_testBit_eq
          intro b
          rw [Nat.zero_testBit]
          cases hq : wt.testBit b with
          | false => rfl
          | true => have := h0 rfl b (by have := (hin b hq).1; omega); rw [this] at hq; cases hq
        · exact h best (h1 rfl).1 (fun b hb => (h1 rfl).2 b (by have := (hin b hb).1; omega) hb)
      · exact absurd (nI_le (by omega) (by omega)) c
    | succ k ih =>
      intro i best found hk hf hb h0 h1
      refine hJ 60 _ _ _ _ ?_
      refine And.intro (fun c => ?_) (fun c => ?_)
      · rw [nI_leI (by omega) (by omega)] at c; omega
      · refine hJ 60 _ _ _ _ ?_
        have skip : (found = 0 → wt.testBit i = false) → (found = 1 → wt.testBit i = true → D best ≤ D i) → J 50 [.ref 17, .int (nI n), .int (nI best), .int found, .int (nI i)] [] μ := by
          intro s0 s1
          refine hJ 60 _ _ _ _ ?_
          show J 7 [_, _, _, _, .int (nI i + 1)] [] μ
          rw [nI_1]
          refine ih (i + 1) best found (by omega) hf hb (fun e b hb => ?_) (fun e => ⟨(h1 e).1, fun b hb hq => ?_⟩)
          · by_cases q : b = i
            · subst q; exact s0 e
            · exact h0 e b (by omega)
          · by_cases q : b = i
            · subst q; exact s1 e hq
            · exact (h1 e).2 b (by omega) hq
        have take : wt.testBit i = true → (found = 1 → D i ≤ D best) → J 45 [.ref 17, .int (nI n), .int (nI best), .int found, .int (nI i)] [] μ := by
          intro t1 t2
          refine hJ 60 _ _ _ _ ?_
          show J 7 [_, _, .int (nI i), .int 1, .int (nI i + 1)] [] μ
          rw [nI_1]
          refine ih (i + 1) i 1 (by omega) (Or.inr rfl) (by omega) (fun e => absurd e (by decide)) (fun _ => ⟨t1, fun b hb hq => ?_⟩)
          by_cases q : b = i
          · subst q; exact Nat.le_refl _
          · rcases hf with rfl | rfl
            · have := h0 rfl b (by omega); rw [this] at hq; cases hq
            · have := (h1 rfl).2 b (by omega) hq
              have := t2 rfl
              omega
        refine r_hasBit wt i hH.2.2 rfl (by omega) (by omega) (fun b1 => ?_) (fun b0 => ?_)
        · refine And.intro (fun c => absurd c (by decide)) (fun _ => ?_)
          refine hJ 60 _ _ _ _ ?_
          refine And.intro (fun c => ?_) (fun c => ?_)
          · exact take b1 (fun e => by rw [e] at c; exact absurd c (by decide))
          · have hf1 : found = 1 := hf.resolve_left c
            refine hJ 60 _ _ _ _ ?_
            refine And.intro (ar_in (by omega) (by omega)) ?_
            refine And.intro (ar_in hb (by omega)) ?_
            have hbt := (h1 hf1).1
            have e1 : μ.1 18 (nI i).toNatClampNeg = nI (D i) := by rw [ar_cl (by omega), hH.1 i (by omega)]; unfold mv; rw [if_pos (hin i b1).2]
            have e2 : μ.1 18 (nI best).toNatClampNeg = nI (D best) := by rw [ar_cl (by omega), hH.1 best hb]; unfold mv; rw [if_pos (hin best hbt).2]
            have z1 := (hin i b1).2
            have z2 := (hin best hbt).2
            refine And.intro (fun c2 => ?_) (fun c2 => ?_)
            · rw [e1, e2, nI_leI (by omega) (by omega)] at c2
              exact skip (fun e => by rw [e] at hf1; exact absurd hf1 (by decide)) (fun _ _ => c2)
            · rw [e1, e2, nI_leI (by omega) (by omega)] at c2
              exact take b1 (fun _ => by omega)
        · refine And.intro (fun _ => ?_) (fun c => absurd rfl c)
          exact skip (fun _ => b0) (fun _ q => by rw [b0] at q; cases q)
  refine hJ 6 _ _ _ _ ?_
  exact (lp n 0 0 0 (by omega) (Or.inl rfl) (by omega) (fun _ b hb => absurd hb (Nat.not_lt_zero _)) (fun e => absurd e (by decide)))
/-- the fold over the people behind a saying of a: the first i of them are reached -/
def fD (d : dm_T) (s : sc_T) (D : Nat → Nat) (a : Nat) (i : Nat) : Nat → Nat := fun b => if b < i then uD d s D a b else D b
theorem fD_a {d : dm_T} {s : sc_T} {D : Nat → Nat} {a i : Nat} : fD d s D a i a = D a := by
  unfold fD uD; split
  · rw [if_neg (by omega)]
  · rfl
theorem fD_s {d : dm_T} {s : sc_T} {D : Nat → Nat} {a i : Nat} (he : eW d s a i < 9999) : rD (fD d s D a i) i (D a + eW d s a i) = fD d s D a (i + 1) := by
  funext b
  unfold rD
  have e1 : fD d s D a i i = D i := by unfold fD; rw [if_neg (by omega)]
  rw [e1]
  by_cases e : b = i
  · subst e
    unfold fD uD
    rw [if_pos (show b < b + 1 by omega), if_neg (show ¬ b < b by omega)]
    by_cases q : D a + eW d s a b < D b
    · rw [if_pos ⟨rfl, q⟩, if_pos ⟨he, q⟩]
    · rw [if_neg (fun z => q z.2), if_neg (fun z => q z.2)]
  · rw [if_neg (fun z => e z.1)]
    unfold fD
    by_cases q : b < i
    · rw [if_pos q, if_pos (by omega)]
    · rw [if_neg q, if_neg (by omega)]
theorem fD_n {d : dm_T} {s : sc_T} {D : Nat → Nat} {a i : Nat} (he : ¬ eW d s a i < 9999) : fD d s D a i = fD d s D a (i + 1) := by
  funext b
  unfold fD
  by_cases e : b = i
  · subst e
    rw [if_neg (by omega), if_pos (by omega)]; unfold uD; rw [if_neg (fun z => he z.1)]
  · by_cases q : b < i
    · rw [if_pos q, if_pos (by omega)]
    · rw [if_neg q, if_neg (by omega)]
/-- who waits behind the first i of them -/
def wOK (d : dm_T) (s : sc_T) (D : Nat → Nat) (a wt i wt' : Nat) : Prop := wt' < 64 ∧ ∀ b, wt'.testBit b = true ↔ wt.testBit b = true ∨ (b < i ∧ b < s.1 ∧ uD d s D a b < D b ∧ gos s b)
theorem wOK_s {d : dm_T} {s : sc_T} {D : Nat → Nat} {a wt i wt' : Nat} (hi : i < s.1) (hs : s.1 ≤ 6) (he : eW d s a i < 9999) (h : wOK d s D a wt i wt') : wOK d s D a wt (i + 1) (rW s (fD d s D a i) wt' i (D a + eW d s a i)) := by
  have e1 : fD d s D a i i = D i := by unfold fD; rw [if_neg (by omega)]
  unfold rW
  rw [e1]
  have eu : uD d s D a i < D i ↔ D a + eW d s a i < D i := by
    unfold uD
    by_cases q : D a + eW d s a i < D i
    · rw [if_pos ⟨he, q⟩]
    · rw [if_neg (fun z => q z.2)]; omega
  by_cases q : D a + eW d s a i < D i ∧ (s.2.1 i = 2 ∨ s.2.1 i = 4)
  · rw [if_pos q]
    refine ⟨Nat.or_lt_two_pow (n := 6) h.1 (Nat.pow_lt_pow_right (by omega) (by omega)), fun b => ?_⟩
    rw [Nat.testBit_or, Nat.testBit_two_pow, Bool.or_eq_true, h.2 b, decide_eq_true_eq]
    constructor
    · rintro ((z | z) | z)
      · exact Or.inl z
      · exact Or.inr ⟨by omega, z.2⟩
      · subst z; exact Or.inr ⟨by omega, hi, eu.mpr q.1, q.2⟩
    · rintro (z | z)
      · exact Or.inl (Or.inl z)
      · by_cases e : b = i
        · exact Or.inr e.symm
        · exact Or.inl (Or.inr ⟨by omega, z.2⟩)
  · rw [if_neg q]
    refine ⟨h.1, fun b => ?_⟩
    rw [h.2 b]
    constructor
    · rintro (z | z)
      · exact Or.inl z
      · exact Or.inr ⟨by omega, z.2⟩
    · rintro (z | z)
      · exact Or.inl z
      · by_cases e : b = i
        · subst e; exact absurd ⟨eu.mp z.2.2.1, z.2.2.2⟩ q
        · exact Or.inr ⟨by omega, z.2⟩
theorem wOK_n {d : dm_T} {s : sc_T} {D : Nat → Nat} {a wt i wt' : Nat} (he : ¬ eW d s a i < 9999) (h : wOK d s D a wt i wt') : wOK d s D a wt (i + 1) wt' := by
  refine ⟨h.1, fun b => ?_⟩
  rw [h.2 b]
  constructor
  · rintro (z | z)
    · exact Or.inl z
    · exact Or.inr ⟨by omega, z.2⟩
  · rintro (z | z)
    · exact Or.inl z
    · by_cases e : b = i
      · subst e; have := z.2.2.1; unfold uD at this; rw [if_neg (fun y => he y.1)] at this; omega
      · exact Or.inr ⟨by omega, z.2⟩
set_option maxRecDepth 20000 in
set_option maxHeartbeats 2000000 in
theorem r_utter5 {Q : mm_R} {μ : mm_M} {d : dm_T} {s : sc_T} {D : Nat → Nat} {wt a : Nat} {av : Int32} (hd : dOK d) (hs : sOK s) (hXD : XD d μ) (hX : XS 5 s μ) (hH : HS D wt μ) (hwt : wt < 64) (ha : a < s.1) (hDa : D a ≤ 9000) (hav : av = nI a)
    (h : ∀ μ' wt', fr [17, 18] μ μ' → wOK d s D a wt s.1 wt' → HS (fD d s D a s.1) wt' μ' → Q none μ') : mm_Runs m_X1_utter Q 0 [.ref 17, .ref 2, .ref 5, .int av, .null, .null, .null, .null] [] μ := by
  subst hav
  have h6 := hs.1
  obtain ⟨ka, pa, -⟩ := hs.2.1 a ha
  obtain ⟨ga, ta⟩ := hd _ pa
  have hc := hs.2.2
  have ep : μ.1 7 a = nI (s.2.2.1 a) := (hX.2.1 a ha).2.1
  have ek : μ.1 6 a = nI (s.2.1 a) := (hX.2.1 a ha).1
  have eg : μ.1 3 (s.2.2.1 a) = nI (d.1 (s.2.2.1 a)) := (hXD _ pa).1
  have et : μ.1 4 (s.2.2.1 a) = nI (d.2 (s.2.2.1 a)) := (hXD _ pa).2
  have en : μ.1 5 0 = nI s.1 := hX.1
  have ec : μ.1 5 4 = nI s.2.2.2.2 := hX.2.2
  intro J hJ hF
  -- the loop over people
  have lp : ∀ (car : Int32), (car = 0 ∨ car = 1) → (car = 1 ↔ (s.2.2.2.2.testBit (d.1 (s.2.2.1 a)) = false ∨ s.2.1 a = 4)) → ∀ k i μ' wt', k + i = s.1 → fr [17, 18] μ μ' → wOK d s D a wt i wt' → HS (fD d s D a i) wt' μ' → J 49 [.ref 17, .ref 2, .ref 5, .int (nI a), .int (nI (s.2.2.1 a)), .int (nI (d.1 (s.2.2.1 a))), .int car, .int (nI i)] [] μ' := by
    intro car hcar hcar2 k
    induction k with
    | zero =>
      intro i μ' wt' hk h1 h2 h3
      have en' : μ'.1 5 0 = nI s.1 := by rw [h1.1 5 (by decide)]; exact en
      refine hJ 60 _ _ _ _ ?_
      refine And.intro (fun c => ?_) (fun c => ?_)
      · refine hJ 60 _ _ _ _ ?_
        have e : i = s.1 := by omega
        subst e
        exact h μ' wt' h1 h2 h3
      · rw [en', nI_leI (by omega) (by omega)] at c; omega
    | succ k ih =>
      intro i μ' wt' hk h1 h2 h3
      have hi : i < s.1 := by omega
      obtain ⟨ki, pi, -⟩ := hs.2.1 i hi
      have en' : μ'.1 5 0 = nI s.1 := by rw [h1.1 5 (by decide)]; exact en
      have eki : μ'.1 6 i = nI (s.2.1 i) := by rw [h1.1 6 (by decide)]; exact (hX.2.1 i hi).1
      have epi : μ'.1 7 i = nI (s.2.2.1 i) := by rw [h1.1 7 (by decide)]; exact (hX.2.1 i hi).2.1
      have et' : μ'.1 4 (s.2.2.1 a) = nI (d.2 (s.2.2.1 a)) := by rw [h1.1 4 (by decide)]; exact et
      have hX' : XS 5 s μ' := XS_fr hX (h1.1 5 (by decide)) (h1.1 6 (by decide)) (h1.1 7 (by decide)) (h1.1 8 (by decide))
      have em : μ'.1 18 a = nI (D a) := by rw [h3.1 a (by omega), fD_a]; unfold mv; rw [if_pos (by omega)]
      have nxt : ∀ μ'' wt'', fr [17, 18] μ μ'' → wOK d s D a wt (i + 1) wt'' → HS (fD d s D a (i + 1)) wt'' μ'' → J 138 [.ref 17, .ref 2, .ref 5, .int (nI a), .int (nI (s.2.2.1 a)), .int (nI (d.1 (s.2.2.1 a))), .int car, .int (nI i)] [] μ'' := by
        intro μ'' wt'' g1 g2 g3
        refine hJ 60 _ _ _ _ ?_
        show J 49 [_, _, _, _, _, _, _, .int (nI i + 1)] [] μ''
        rw [nI_1]
        exact ih (i + 1) μ'' wt'' (by omega) g1 g2 g3
      have non : ¬ eW d s a i < 9999 → J 138 [.ref 17, .ref 2, .ref 5, .int (nI a), .int (nI (s.2.2.1 a)), .int (nI (d.1 (s.2.2.1 a))), .int car, .int (nI i)] [] μ' := by
        intro he
        exact nxt μ' wt' h1 (wOK_n he h2) (by rw [← fD_n he]; exact h3)
      have som : ∀ μ'' , eW d s a i < 9999 → fr [17, 18] μ' μ'' → HS (rD (fD d s D a i) i (D a + eW d s a i)) (rW s (fD d s D a i) wt' i (D a + eW d s a i)) μ'' → J 138 [.ref 17, .ref 2, .ref 5, .int (nI a), .int (nI (s.2.2.1 a)), .int (nI (d.1 (s.2.2.1 a))), .int car, .int (nI i)] [] μ'' := by
        intro μ'' he g1 g2
        rw [fD_s he] at g2
        exact nxt μ'' _ (fr_tr h1 g1) (wOK_s hi h6 he h2) g2
      refine hJ 60 _ _ _ _ ?_
      refine And.intro (fun c => ?_) (fun c => ?_)
      · rw [en', nI_leI (by omega) (by omega)] at c; omega
      refine hJ 60 _ _ _ _ ?_
      refine And.intro (ar_in (by omega) (by omega)) ?_
      refine And.intro (fun c1 => ?_) (fun c1 => ?_)
      · rw [ar_cl (by omega), eki, show (1 : Int32) = nI 1 from rfl, nI_eq (by omega) (by omega)] at c1
        refine hJ 60 _ _ _ _ ?_
        refine And.intro (ar_in (by omega) (by omega)) ?_
        refine And.intro (fun c2 => ?_) (fun c2 => ?_)
        · rw [ar_cl (by omega), epi, nI_eq (by omega) (by omega)] at c2
          refine hJ 60 _ _ _ _ ?_
          refine And.intro (fun c3 => ?_) (fun c3 => ?_)
          · apply non
            unfold eW
            rw [if_neg c1, if_neg (fun z => c2 z.symm), if_neg]
            · omega
            · rintro ⟨z1, z2⟩
              rw [← z1] at z2
              have := hcar2.mpr z2
              rw [c3] at this
              exact absurd this (by decide)
          · have car1 : car = 1 := hcar.resolve_left c3
            refine hJ 60 _ _ _ _ ?_
            refine And.intro (ar_in (by omega) (by omega)) ?_
            refine And.intro (fun c4 => ?_) (fun c4 => ?_)
            · rw [ar_cl (by omega), epi, nI_eq (by omega) (by omega)] at c4
              apply non
              unfold eW
              rw [if_neg c1, if_neg (fun z => c2 z.symm), if_neg]
              · omega
              · rintro ⟨z1, z2⟩
                exact c4 z1.symm
            · rw [ar_cl (by omega), epi, nI_eq (by omega) (by omega)] at c4
              have he : eW d s a i = d.2 (s.2.2.1 a) := by
                unfold eW
                rw [if_neg c1, if_neg (fun z => c2 z.symm), if_pos ⟨c4.symm, by rw [c4]; exact hcar2.mp car1⟩]
              refine hJ 13 _ _ _ _ ?_
              refine And.intro (ar_in (by omega) (by omega)) ?_
              refine And.intro (ar_in pa (by omega)) ?_
              refine r_reach5 hs hX' h3 h2.1 hi (w := D a + eW d s a i) (by omega) rfl (by rw [ar_cl (by omega), ar_cl (by omega), em, et', nI_add, he]) (fun μ'' g1 g2 => ?_)
              exact som μ'' (by omega) g1 g2
        · rw [ar_cl (by omega), epi, nI_eq (by omega) (by omega)] at c2
          have he : eW d s a i = 0 := by
            unfold eW
            rw [if_neg c1, if_pos c2.symm]
          refine hJ 60 _ _ _ _ ?_
          refine And.intro (ar_in (by omega) (by omega)) ?_
          refine r_reach5 hs hX' h3 h2.1 hi (w := D a + eW d s a i) (by omega) rfl (by rw [ar_cl (by omega), em, he]; rfl) (fun μ'' g1 g2 => ?_)
          exact som μ'' (by omega) g1 g2
      · rw [ar_cl (by omega), eki, show (1 : Int32) = nI 1 from rfl, nI_eq (by omega) (by omega)] at c1
        refine hJ 60 _ _ _ _ ?_
        apply non
        unfold eW
        rw [if_pos c1]
        omega
  have w0 : wOK d s D a wt 0 wt := ⟨hwt, fun b => ⟨fun z => Or.inl z, fun z => z.elim id (fun y => absurd y.1 (Nat.not_lt_zero _))⟩⟩
  have f0 : fD d s D a 0 = D := by funext b; unfold fD; rw [if_neg (Nat.not_lt_zero _)]
  have st : ∀ (car : Int32), (car = 0 ∨ car = 1) → (car = 1 ↔ (s.2.2.2.2.testBit (d.1 (s.2.2.1 a)) = false ∨ s.2.1 a = 4)) → J 44 [.ref 17, .ref 2, .ref 5, .int (nI a), .int (nI (s.2.2.1 a)), .int (nI (d.1 (s.2.2.1 a))), .null, .null] [.int car] μ := by
    intro car h1 h2
    refine hJ 3 _ _ _ _ ?_
    exact lp car h1 h2 s.1 0 μ wt (by omega) (fr_rf _ _) w0 (by rw [f0]; exact hH)
  refine hJ 60 _ _ _ _ ?_
  refine And.intro (ar_in (by omega) (by omega)) ?_
  have e1 : μ.1 7 (nI a).toNatClampNeg = nI (s.2.2.1 a) := by rw [ar_cl (by omega)]; exact ep
  rw [e1]
  refine And.intro (ar_in pa (by omega)) ?_
  have e2 : μ.1 3 (nI (s.2.2.1 a)).toNatClampNeg = nI (d.1 (s.2.2.1 a)) := by rw [ar_cl (by omega)]; exact eg
  rw [e2]
  refine And.intro (ar_in (by omega) (by omega)) ?_
  refine And.intro (fun c => ?_) (fun c => ?_)
  · rw [ar_cl (by omega), ek, show (4 : Int32) = nI 4 from rfl, nI_eq (by omega) (by omega)] at c
    refine hJ 60 _ _ _ _ ?_
    exact st 1 (Or.inr rfl) ⟨fun _ => Or.inr c, fun _ => rfl⟩
  · rw [ar_cl (by omega), ek, show (4 : Int32) = nI 4 from rfl, nI_eq (by omega) (by omega)] at c
    refine hJ 60 _ _ _ _ ?_
    refine r_hasBit _ _ ec rfl (by omega) (by omega) (fun b1 => ?_) (fun b0 => ?_)
    · refine And.intro (fun _ => ?_) (fun c => absurd c (by decide))
      refine hJ 1 _ _ _ _ ?_
      exact st 0 (Or.inl rfl) ⟨fun z => absurd z (by decide), fun z => by
        rcases z with z | z
        · rw [b1] at z; cases z
        · exact absurd z c⟩
    · refine And.intro (fun c => absurd rfl c) (fun _ => ?_)
      refine hJ 60 _ _ _ _ ?_
      exact st 1 (Or.inr rfl) ⟨fun _ => Or.inl b0, fun _ => rfl⟩
set_option maxRecDepth 20000 in
set_option maxHeartbeats 2000000 in
theorem r_utter13 {Q : mm_R} {μ : mm_M} {d : dm_T} {s : sc_T} {D : Nat → Nat} {wt a : Nat} {av : Int32} (hd : dOK d) (hs : sOK s) (hXD : XD d μ) (hX : XS 13 s μ) (hH : HS D wt μ) (hwt : wt < 64) (ha : a < s.1) (hDa : D a ≤ 9000) (hav : av = nI a)
    (h : ∀ μ' wt', fr [17, 18] μ μ' → wOK d s D a wt s.1 wt' → HS (fD d s D a s.1) wt' μ' → Q none μ') : mm_Runs m_X1_utter Q 0 [.ref 17, .ref 2, .ref 13, .int av, .null, .null, .null, .null] [] μ := by
  subst hav
  have h6 := hs.1
  obtain ⟨ka, pa, -⟩ := hs.2.1 a ha
  obtain ⟨ga, ta⟩ := hd _ pa
  have hc := hs.2.2
  have ep : μ.1 15 a = nI (s.2.2.1 a) := (hX.2.1 a ha).2.1
  have ek : μ.1 14 a = nI (s.2.1 a) := (hX.2.1 a ha).1
  have eg : μ.1 3 (s.2.2.1 a) = nI (d.1 (s.2.2.1 a)) := (hXD _ pa).1
  have et : μ.1 4 (s.2.2.1 a) = nI (d.2 (s.2.2.1 a)) := (hXD _ pa).2
  have en : μ.1 13 0 = nI s.1 := hX.1
  have ec : μ.1 13 4 = nI s.2.2.2.2 := hX.2.2
  intro J hJ hF
  -- the loop over people
  have lp : ∀ (car : Int32), (car = 0 ∨ car = 1) → (car = 1 ↔ (s.2.2.2.2.testBit (d.1 (s.2.2.1 a)) = false ∨ s.2.1 a = 4)) → ∀ k i μ' wt', k + i = s.1 → fr [17, 18] μ μ' → wOK d s D a wt i wt' → HS (fD d s D a i) wt' μ' → J 49 [.ref 17, .ref 2, .ref 13, .int (nI a), .int (nI (s.2.2.1 a)), .int (nI (d.1 (s.2.2.1 a))), .int car, .int (nI i)] [] μ' := by
    intro car hcar hcar2 k
    induction k with
    | zero =>
      intro i μ' wt' hk h1 h2 h3
      have en' : μ'.1 13 0 = nI s.1 := by rw [h1.1 13 (by decide)]; exact en
      refine hJ 60 _ _ _ _ ?_
      refine And.intro (fun c => ?_) (fun c => ?_)
      · refine hJ 60 _ _ _ _ ?_
        have e : i = s.1 := by omega
        subst e
        exact h μ' wt' h1 h2 h3
      · rw [en', nI_leI (by omega) (by omega)] at c; omega
    | succ k ih =>
      intro i μ' wt' hk h1 h2 h3
      have hi : i < s.1 := by omega
      obtain ⟨ki, pi, -⟩ := hs.2.1 i hi
      have en' : μ'.1 13 0 = nI s.1 := by rw [h1.1 13 (by decide)]; exact en
      have eki : μ'.1 14 i = nI (s.2.1 i) := by rw [h1.1 14 (by decide)]; exact (hX.2.1 i hi).1
      have epi : μ'.1 15 i = nI (s.2.2.1 i) := by rw [h1.1 15 (by decide)]; exact (hX.2.1 i hi).2.1
      have et' : μ'.1 4 (s.2.2.1 a) = nI (d.2 (s.2.2.1 a)) := by rw [h1.1 4 (by decide)]; exact et
      have hX' : XS 13 s μ' := XS_fr hX (h1.1 13 (by decide)) (h1.1 14 (by decide)) (h1.1 15 (by decide)) (h1.1 16 (by decide))
      have em : μ'.1 18 a = nI (D a) := by rw [h3.1 a (by omega), fD_a]; unfold mv; rw [if_pos (by omega)]
      have nxt : ∀ μ'' wt'', fr [17, 18] μ μ'' → wOK d s D a wt (i + 1) wt'' → HS (fD d s D a (i + 1)) wt'' μ'' → J 138 [.ref 17, .ref 2, .ref 13, .int (nI a), .int (nI (s.2.2.1 a)), .int (nI (d.1 (s.2.2.1 a))), .int car, .int (nI i)] [] μ'' := by
        intro μ'' wt'' g1 g2 g3
        refine hJ 60 _ _ _ _ ?_
        show J 49 [_, _, _, _, _, _, _, .int (nI i + 1)] [] μ''
        rw [nI_1]
        exact ih (i + 1) μ'' wt'' (by omega) g1 g2 g3
      have non : ¬ eW d s a i < 9999 → J 138 [.ref 17, .ref 2, .ref 13, .int (nI a), .int (nI (s.2.2.1 a)), .int (nI (d.1 (s.2.2.1 a))), .int car, .int (nI i)] [] μ' := by
        intro he
        exact nxt μ' wt' h1 (wOK_n he h2) (by rw [← fD_n he]; exact h3)
      have som : ∀ μ'' , eW d s a i < 9999 → fr [17, 18] μ' μ'' → HS (rD (fD d s D a i) i (D a + eW d s a i)) (rW s (fD d s D a i) wt' i (D a + eW d s a i)) μ'' → J 138 [.ref 17, .ref 2, .ref 13, .int (nI a), .int (nI (s.2.2.1 a)), .int (nI (d.1 (s.2.2.1 a))), .int car, .int (nI i)] [] μ'' := by
        intro μ'' he g1 g2
        rw [fD_s he] at g2
        exact nxt μ'' _ (fr_tr h1 g1) (wOK_s hi h6 he h2) g2
      refine hJ 60 _ _ _ _ ?_
      refine And.intro (fun c => ?_) (fun c => ?_)
      · rw [en', nI_leI (by omega) (by omega)] at c; omega
      refine hJ 60 _ _ _ _ ?_
      refine And.intro (ar_in (by omega) (by omega)) ?_
      refine And.intro (fun c1 => ?_) (fun c1 => ?_)
      · rw [ar_cl (by omega), eki, show (1 : Int32) = nI 1 from rfl, nI_eq (by omega) (by omega)] at c1
        refine hJ 60 _ _ _ _ ?_
        refine And.intro (ar_in (by omega) (by omega)) ?_
        refine And.intro (fun c2 => ?_) (fun c2 => ?_)
        · rw [ar_cl (by omega), epi, nI_eq (by omega) (by omega)] at c2
          refine hJ 60 _ _ _ _ ?_
          refine And.intro (fun c3 => ?_) (fun c3 => ?_)
          · apply non
            unfold eW
            rw [if_neg c1, if_neg (fun z => c2 z.symm), if_neg]
            · omega
            · rintro ⟨z1, z2⟩
              rw [← z1] at z2
              have := hcar2.mpr z2
              rw [c3] at this
              exact absurd this (by decide)
          · have car1 : car = 1 := hcar.resolve_left c3
            refine hJ 60 _ _ _ _ ?_
            refine And.intro (ar_in (by omega) (by omega)) ?_
            refine And.intro (fun c4 => ?_) (fun c4 => ?_)
            · rw [ar_cl (by omega), epi, nI_eq (by omega) (by omega)] at c4
              apply non
              unfold eW
              rw [if_neg c1, if_neg (fun z => c2 z.symm), if_neg]
              · omega
              · rintro ⟨z1, z2⟩
                exact c4 z1.symm
            · rw [ar_cl (by omega), epi, nI_eq (by omega) (by omega)] at c4
              have he : eW d s a i = d.2 (s.2.2.1 a) := by
                unfold eW
                rw [if_neg c1, if_neg (fun z => c2 z.symm), if_pos ⟨c4.symm, by rw [c4]; exact hcar2.mp car1⟩]
              refine hJ 13 _ _ _ _ ?_
              refine And.intro (ar_in (by omega) (by omega)) ?_
              refine And.intro (ar_in pa (by omega)) ?_
              refine r_reach13 hs hX' h3 h2.1 hi (w := D a + eW d s a i) (by omega) rfl (by rw [ar_cl (by omega), ar_cl (by omega), em, et', nI_add, he]) (fun μ'' g1 g2 => ?_)
              exact som μ'' (by omega) g1 g2
        · rw [ar_cl (by omega), epi, nI_eq (by omega) (by omega)] at c2
          have he : eW d s a i = 0 := by
            unfold eW
            rw [if_neg c1, if_pos c2.symm]
          refine hJ 60 _ _ _ _ ?_
          refine And.intro (ar_in (by omega) (by omega)) ?_
          refine r_reach13 hs hX' h3 h2.1 hi (w := D a + eW d s a i) (by omega) rfl (by rw [ar_cl (by omega), em, he]; rfl) (fun μ'' g1 g2 => ?_)
          exact som μ'' (by omega) g1 g2
      · rw [ar_cl (by omega), eki, show (1 : Int32) = nI 1 from rfl, nI_eq (by omega) (by omega)] at c1
        refine hJ 60 _ _ _ _ ?_
        apply non
        unfold eW
        rw [if_pos c1]
        omega
  have w0 : wOK d s D a wt 0 wt := ⟨hwt, fun b => ⟨fun z => Or.inl z, fun z => z.elim id (fun y => absurd y.1 (Nat.not_lt_zero _))⟩⟩
  have f0 : fD d s D a 0 = D := by funext b; unfold fD; rw [if_neg (Nat.not_lt_zero _)]
  have st : ∀ (car : Int32), (car = 0 ∨ car = 1) → (car = 1 ↔ (s.2.2.2.2.testBit (d.1 (s.2.2.1 a)) = false ∨ s.2.1 a = 4)) → J 44 [.ref 17, .ref 2, .ref 13, .int (nI a), .int (nI (s.2.2.1 a)), .int (nI (d.1 (s.2.2.1 a))), .null, .null] [.int car] μ := by
    intro car h1 h2
    refine hJ 3 _ _ _ _ ?_
    exact lp car h1 h2 s.1 0 μ wt (by omega) (fr_rf _ _) w0 (by rw [f0]; exact hH)
  refine hJ 60 _ _ _ _ ?_
  refine And.intro (ar_in (by omega) (by omega)) ?_
  have e1 : μ.1 15 (nI a).toNatClampNeg = nI (s.2.2.1 a) := by rw [ar_cl (by omega)]; exact ep
  rw [e1]
  refine And.intro (ar_in pa (by omega)) ?_
  have e2 : μ.1 3 (nI (s.2.2.1 a)).toNatClampNeg = nI (d.1 (s.2.2.1 a)) := by rw [ar_cl (by omega)]; exact eg
  rw [e2]
  refine And.intro (ar_in (by omega) (by omega)) ?_
  refine And.intro (fun c => ?_) (fun c => ?_)
  · rw [ar_cl (by omega), ek, show (4 : Int32) = nI 4 from rfl, nI_eq (by omega) (by omega)] at c
    refine hJ 60 _ _ _ _ ?_
    exact st 1 (Or.inr rfl) ⟨fun _ => Or.inr c, fun _ => rfl⟩
  · rw [ar_cl (by omega), ek, show (4 : Int32) = nI 4 from rfl, nI_eq (by omega) (by omega)] at c
    refine hJ 60 _ _ _ _ ?_
    refine r_hasBit _ _ ec rfl (by omega) (by omega) (fun b1 => ?_) (fun b0 => ?_)
    · refine And.intro (fun _ => ?_) (fun c => absurd c (by decide))
      refine hJ 1 _ _ _ _ ?_
      exact st 0 (Or.inl rfl) ⟨fun z => absurd z (by decide), fun z => by
        rcases z with z | z
        · rw [b1] at z; cases z
        · exact absurd z c⟩
    · refine And.intro (fun c => absurd rfl c) (fun _ => ?_)
      refine hJ 60 _ _ _ _ ?_
      exact st 1 (Or.inr rfl) ⟨fun _ => Or.inl b0, fun _ => rfl⟩
