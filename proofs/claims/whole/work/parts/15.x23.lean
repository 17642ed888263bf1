/-! Plan, Scene, Draws, bitCount -/
def pcs (x : Nat) : Nat → Nat
  | 0 => 0
  | k + 1 => pcs x k + x / 2 ^ k % 2
theorem pcs_le (x : Nat) : ∀ k, pcs x k ≤ k
  | 0 => Nat.le_refl _
  | k + 1 => by have := pcs_le x k; unfold pcs; omega
def ush (a b : Int32) : Int32 := (a.toUInt32 >>> (b.toUInt32 &&& Int32.toUInt32 31)).toInt32
def bc1 (v : Int32) : Int32 := v - (ush v 1 &&& 1431655765)
def bc2 (v : Int32) : Int32 := (v &&& 858993459) + (ush v 2 &&& 858993459)
def bc3 (v : Int32) : Int32 := (v + ush v 4) &&& 252645135
def bc4 (v : Int32) : Int32 := v + ush v 8
def bc5 (v : Int32) : Int32 := v + ush v 16
def bcf (v : Int32) : Int32 := bc5 (bc4 (bc3 (bc2 (bc1 v)))) &&& 63
theorem bc_ok : ∀ x, x < 1024 → bcf (nI x) = nI (pcs x 10) := by decide +kernel
set_option maxRecDepth 20000 in
set_option maxHeartbeats 2000000 in
theorem r_bitCount {Q : mm_R} {μ : mm_M} {v : Int32} (x : Nat) (hv : v = nI x) (hx : x < 1024) (h : Q (some (.int (nI (pcs x 10)))) μ) : mm_Runs m_J6_bitCount_0f7a4 Q 0 [.int v] [] μ := by
  intro J hJ hF
  refine hJ 60 _ _ _ _ ?_
  show Q (some (.int (bcf v))) μ
  rw [hv, bc_ok x hx]
  exact h
def srcs (d : dm_T) (p : Nat) : Nat := mk (fun j => decide (d.1 j = p)) 8
theorem srcs_lt (d : dm_T) (p : Nat) : srcs d p < 256 := mk_lt _ 8
def rent (d : dm_T) (p : Nat) : Nat := if d.1 p = p then 2 * pcs (srcs d p) 10 else pcs (srcs d p) 10
set_option maxRecDepth 20000 in
set_option maxHeartbeats 2000000 in
theorem r_read {Q : mm_R} {μ : mm_M} {d : dm_T} (hd : dOK d) (hp : ∀ j, j < 8 → μ.1 1 j = nI (97 + d.1 j) ∧ μ.1 1 (9 + j) = nI (48 + d.2 j)) (h : ∀ μ', fr [3, 4] μ μ' → XD d μ' → Q none μ') : mm_Runs m_X2_read Q 0 [.ref 2, .ref 1, .null] [] μ := by
  intro J hJ hF
  have lp : ∀ k i μ', k + i = 8 → fr [3, 4] μ μ' → (∀ j, j < i → μ'.1 3 j = nI (d.1 j) ∧ μ'.1 4 j = nI (d.2 j)) → J 2 [.ref 2, .ref 1, .int (nI i)] [] μ' := by
    intro k
    induction k with
    | zero =>
      intro i μ' hk f1 f2
      refine hJ 60 _ _ _ _ ?_
      refine And.intro (fun _ => ?_) (fun c => absurd (show (8 : Int32) ≤ nI i by rw [show (8 : Int32) = nI 8 from rfl]; exact nI_le (by omega) (by omega)) c)
      refine hJ 60 _ _ _ _ ?_
      exact h μ' f1 (fun j hj => f2 j (by omega))
    | succ k ih =>
      intro i μ' hk f1 f2
      have e9 : (9 : Int32) + nI i = nI (9 + i) := nI_add 9 i
      obtain ⟨p1, p2⟩ := hp i (by omega)
      obtain ⟨d1, d2⟩ := hd i (by omega)
      refine hJ 60 _ _ _ _ ?_
      refine And.intro (fun c => by rw [show (8 : Int32) = nI 8 from rfl, nI_leI (by omega) (by omega)] at c; omega) (fun _ => ?_)
      refine hJ 60 _ _ _ _ ?_
      refine And.intro (fun c => ?_) (fun _ => ?_)
      · rw [e9, show Int32.ofNat 20 = nI 20 from rfl, nI_leI (by omega) (by omega)] at c; omega
      refine hJ 60 _ _ _ _ ?_
      refine And.intro (ar_in (by omega) (by omega)) ?_
      refine And.intro (ar_in (by omega) (by omega)) ?_
      refine And.intro (by rw [e9]; exact ar_in (by omega) (by omega)) ?_
      refine And.intro (ar_in (by omega) (by omega)) ?_
      show J 2 [_, _, .int (nI i + 1)] [] (mm_put (mm_put μ' 3 (nI i).toNatClampNeg (μ'.1 1 (nI i).toNatClampNeg - 97)) 4 (nI i).toNatClampNeg (μ'.1 1 ((9 : Int32) + nI i).toNatClampNeg - 48))
      rw [nI_1, e9, ar_cl (by omega), ar_cl (by omega), f1.1 1 (by decide), p1, p2, show (97 : Int32) = nI 97 from rfl, show (48 : Int32) = nI 48 from rfl, pk_sub (by omega), pk_sub (by omega), show 97 + d.1 i - 97 = d.1 i by omega, show 48 + d.2 i - 48 = d.2 i by omega]
      refine ih (i + 1) _ (by omega) (fr_put (fr_put f1 (by simp)) (by simp)) (fun j hj => ?_)
      rw [mp_eq, mp_ne _ _ _ (show (3 : Nat) ≠ 4 by decide), mp_eq, mp_ne _ _ _ (show (4 : Nat) ≠ 3 by decide)]
      by_cases e : j = i
      · subst e; rw [up_eq, up_eq]; exact ⟨rfl, rfl⟩
      · rw [up_ne _ _ e, up_ne _ _ e]; exact f2 j (by omega)
  refine hJ 2 _ _ _ _ ?_
  exact lp 8 0 μ (by omega) (fr_rf _ _) (fun j hj => absurd hj (Nat.not_lt_zero _))
def elsw (d : dm_T) : Nat := ct (fun j => decide (d.1 j ≠ j)) 8
set_option maxRecDepth 20000 in
set_option maxHeartbeats 2000000 in
theorem r_elsewhere {Q : mm_R} {μ : mm_M} {d : dm_T} (hd : dOK d) (hX : XD d μ) (h : Q (some (.int (nI (elsw d)))) μ) : mm_Runs m_X2_heardElsewhere Q 0 [.ref 2, .null, .null] [] μ := by
  intro J hJ hF
  have lp : ∀ k i, k + i = 8 → J 4 [.ref 2, .int (nI (ct (fun j => decide (d.1 j ≠ j)) i)), .int (nI i)] [] μ := by
    intro k
    induction k with
    | zero =>
      intro i hk
      have e : i = 8 := by omega
      subst e
      refine hJ 60 _ _ _ _ ?_
      refine And.intro (fun _ => ?_) (fun c => absurd (show (8 : Int32) ≤ nI 8 by decide) c)
      refine hJ 60 _ _ _ _ ?_
      exact h
    | succ k ih =>
      intro i hk
      obtain ⟨d1, d2⟩ := hd i (by omega)
      refine hJ 60 _ _ _ _ ?_
      refine And.intro (fun c => by rw [show (8 : Int32) = nI 8 from rfl, nI_leI (by omega) (by omega)] at c; omega) (fun _ => ?_)
      refine hJ 60 _ _ _ _ ?_
      refine And.intro (ar_in (by omega) (by omega)) ?_
      have st : ∀ x, x = ct (fun j => decide (d.1 j ≠ j)) (i + 1) → J 23 [.ref 2, .int (nI x), .int (nI i)] [] μ := by
        intro x hx
        refine hJ 60 _ _ _ _ ?_
        show J 4 [_, _, .int (nI i + 1)] [] μ
        rw [nI_1, hx]
        exact ih (i + 1) (by omega)
      refine And.intro (fun c => ?_) (fun c => ?_)
      · rw [ar_cl (by omega), (hX i (by omega)).1, nI_eq (by omega) (by omega)] at c
        refine st _ ?_
        simp [ct, c]
      · rw [ar_cl (by omega), (hX i (by omega)).1, nI_eq (by omega) (by omega)] at c
        refine hJ 1 _ _ _ _ ?_
        show J 23 [_, .int (nI (ct (fun j => decide (d.1 j ≠ j)) i) + 1), _] [] μ
        rw [nI_1]
        refine st _ ?_
        simp [ct, c]
  refine hJ 4 _ _ _ _ ?_
  exact lp 8 0 (by omega)
set_option maxRecDepth 20000 in
set_option maxHeartbeats 2000000 in
theorem r_sources {Q : mm_R} {μ : mm_M} {d : dm_T} {p : Nat} {pv : Int32} (hd : dOK d) (hX : XD d μ) (hp : p < 8) (hpv : pv = nI p) (h : Q (some (.int (nI (srcs d p)))) μ) : mm_Runs m_X2_sources Q 0 [.ref 2, .int pv, .null, .null] [] μ := by
  subst hpv
  intro J hJ hF
  have lp : ∀ k i, k + i = 8 → J 4 [.ref 2, .int (nI p), .int (nI (mk (fun j => decide (d.1 j = p)) i)), .int (nI i)] [] μ := by
    intro k
    induction k with
    | zero =>
      intro i hk
      have e : i = 8 := by omega
      subst e
      refine hJ 60 _ _ _ _ ?_
      refine And.intro (fun _ => ?_) (fun c => absurd (show (8 : Int32) ≤ nI 8 by decide) c)
      refine hJ 60 _ _ _ _ ?_
      exact h
    | succ k ih =>
      intro i hk
      obtain ⟨d1, d2⟩ := hd i (by omega)
      refine hJ 60 _ _ _ _ ?_
      refine And.intro (fun c => by rw [show (8 : Int32) = nI 8 from rfl, nI_leI (by omega) (by omega)] at c; omega) (fun _ => ?_)
      refine hJ 60 _ _ _ _ ?_
      refine And.intro (ar_in (by omega) (by omega)) ?_
      have st : ∀ x, x = mk (fun j => decide (d.1 j = p)) (i + 1) → J 26 [.ref 2, .int (nI p), .int (nI x), .int (nI i)] [] μ := by
        intro x hx
        refine hJ 60 _ _ _ _ ?_
        show J 4 [_, _, _, .int (nI i + 1)] [] μ
        rw [nI_1, hx]
        exact ih (i + 1) (by omega)
      refine And.intro (fun c => ?_) (fun c => ?_)
      · rw [ar_cl (by omega), (hX i (by omega)).1, nI_eq (by omega) (by omega)] at c
        refine st _ ?_
        simp [mk, c]
      · rw [ar_cl (by omega), (hX i (by omega)).1, nI_eq (by omega) (by omega)] at c
        refine hJ 6 _ _ _ _ ?_
        show J 26 [_, _, .int (nI (mk (fun j => decide (d.1 j = p)) i) ||| ((1 : Int32) <<< (nI i &&& 31))), _] [] μ
        rw [ar_shl i (by omega), ar_or]
        refine st _ ?_
        simp [mk, c]
  refine hJ 4 _ _ _ _ ?_
  exact lp 8 0 (by omega)
theorem srcs_bit {d : dm_T} {p : Nat} (hp : p < 8) : (srcs d p).testBit p = decide (d.1 p = p) := by
  unfold srcs; rw [mk_bit]; simp [hp]
set_option maxRecDepth 20000 in
set_option maxHeartbeats 2000000 in
theorem r_rent {Q : mm_R} {μ : mm_M} {d : dm_T} {p : Nat} {pv : Int32} (hd : dOK d) (hX : XD d μ) (hp : p < 8) (hpv : pv = nI p) (h : Q (some (.int (nI (rent d p)))) μ) : mm_Runs m_X2_rent Q 0 [.ref 2, .int pv, .null, .null] [] μ := by
  subst hpv
  have hlt := srcs_lt d p
  have hb := srcs_bit (d := d) hp
  intro J hJ hF
  refine hJ 60 _ _ _ _ ?_
  refine r_sources hd hX hp rfl ?_
  refine r_bitCount _ rfl (by omega) ?_
  refine r_hasBit _ p rfl rfl (by omega) (by omega) (fun b1 => ?_) (fun b0 => ?_)
  · rw [hb, decide_eq_true_eq] at b1
    refine And.intro (fun c => absurd c (by decide)) (fun _ => ?_)
    refine hJ 60 _ _ _ _ ?_
    refine hJ 60 _ _ _ _ ?_
    show Q (some (.int ((2 : Int32) * nI (pcs (srcs d p) 10)))) μ
    rw [show (2 : Int32) = nI 2 from rfl, pk_mul]
    unfold rent at h
    rw [if_pos b1] at h
    exact h
  · rw [hb, decide_eq_false_iff_not] at b0
    refine And.intro (fun _ => ?_) (fun c => absurd rfl c)
    refine hJ 60 _ _ _ _ ?_
    unfold rent at h
    rw [if_neg b0] at h
    exact h
/-! Scene -/
set_option maxRecDepth 20000 in
set_option maxHeartbeats 2000000 in
theorem r_dropTrials5 {Q : mm_R} {μ : mm_M} (h : Q none (mm_put (mm_put (mm_put μ 5 6 0) 5 7 0) 5 8 0)) : mm_Runs m_X3_dropTrials Q 0 [.ref 5] [] μ := by
  intro J hJ hF
  refine hJ 60 _ _ _ _ ?_
  exact h
set_option maxRecDepth 20000 in
set_option maxHeartbeats 2000000 in
theorem r_clear5 {Q : mm_R} {μ : mm_M} (h : Q none (mm_put (mm_put (mm_put (mm_put (mm_put (mm_put μ 5 0 0) 5 4 0) 5 5 0) 5 6 0) 5 7 0) 5 8 0)) : mm_Runs m_X3_clear Q 0 [.ref 5] [] μ := by
  intro J hJ hF
  refine hJ 60 _ _ _ _ ?_
  refine r_dropTrials5 ?_
  exact h
set_option maxRecDepth 20000 in
set_option maxHeartbeats 2000000 in
theorem r_copy13_5 {Q : mm_R} {μ : mm_M} {f : fs_T} (hs : f.1.1 ≤ 6) (hX : XF 5 f μ) (h : ∀ μ', fr [13, 14, 15, 16] μ μ' → XF 13 f μ' → Q none μ') : mm_Runs m_X3_copyFrom Q 0 [.ref 13, .ref 5, .null] [] μ := by
  obtain ⟨⟨x0, x1, x4⟩, x5, x6, x7, x8⟩ := hX
  intro J hJ hF
  have lp : ∀ k i μ', k + i = f.1.1 → fr [13, 14, 15, 16] μ μ' → μ'.1 13 0 = nI f.1.1 → (∀ q, q < i → μ'.1 14 q = nI (f.1.2.1 q) ∧ μ'.1 15 q = nI (f.1.2.2.1 q) ∧ μ'.1 16 q = nI (f.1.2.2.2.1 q)) → J 10 [.ref 13, .ref 5, .int (nI i)] [] μ' := by
    intro k
    induction k with
    | zero =>
      intro i μ' hk f1 f2 f3
      have ep : μ'.1 5 0 = nI f.1.1 := by rw [f1.1 5 (by decide)]; exact x0
      refine hJ 60 _ _ _ _ ?_
      refine And.intro (fun _ => ?_) (fun c => by rw [ep, nI_leI (by omega) (by omega)] at c; omega)
      refine hJ 60 _ _ _ _ ?_
      refine h _ (fr_put (fr_put (fr_put (fr_put (fr_put f1 (by simp)) (by simp)) (by simp)) (by simp)) (by simp)) ⟨⟨f2, fun q hq => f3 q (by omega), ?_⟩, ?_, ?_, ?_, ?_⟩
      · show μ'.1 5 4 = _; rw [f1.1 5 (by decide)]; exact x4
      · show μ'.1 5 5 = _; rw [f1.1 5 (by decide)]; exact x5
      · show μ'.1 5 6 = _; rw [f1.1 5 (by decide)]; exact x6
      · show μ'.1 5 7 = _; rw [f1.1 5 (by decide)]; exact x7
      · show μ'.1 5 8 = _; rw [f1.1 5 (by decide)]; exact x8
    | succ k ih =>
      intro i μ' hk f1 f2 f3
      have ep : μ'.1 5 0 = nI f.1.1 := by rw [f1.1 5 (by decide)]; exact x0
      obtain ⟨y1, y2, y3⟩ := x1 i (by omega)
      refine hJ 60 _ _ _ _ ?_
      refine And.intro (fun c => by rw [ep, nI_leI (by omega) (by omega)] at c; omega) (fun _ => ?_)
      refine hJ 60 _ _ _ _ ?_
      refine And.intro (ar_in (by omega) (by omega)) ?_
      refine And.intro (ar_in (by omega) (by omega)) ?_
      refine And.intro (ar_in (by omega) (by omega)) ?_
      refine And.intro (ar_in (by omega) (by omega)) ?_
      refine And.intro (ar_in (by omega) (by omega)) ?_
      refine And.intro (ar_in (by omega) (by omega)) ?_
      show J 10 [_, _, .int (nI i + 1)] [] (mm_put (mm_put (mm_put μ' 14 (nI i).toNatClampNeg (μ'.1 6 (nI i).toNatClampNeg)) 15 (nI i).toNatClampNeg (μ'.1 7 (nI i).toNatClampNeg)) 16 (nI i).toNatClampNeg (μ'.1 8 (nI i).toNatClampNeg))
      rw [nI_1, ar_cl (by omega), f1.1 6 (by decide), f1.1 7 (by decide), f1.1 8 (by decide), y1, y2, y3]
      refine ih (i + 1) _ (by omega) (fr_put (fr_put (fr_put f1 (by simp)) (by simp)) (by simp)) f2 (fun q hq => ?_)
      show upd (μ'.1 14) i (nI (f.1.2.1 i)) q = _ ∧ upd (μ'.1 15) i (nI (f.1.2.2.1 i)) q = _ ∧ upd (μ'.1 16) i (nI (f.1.2.2.2.1 i)) q = _
      by_cases e : q = i
      · subst e; rw [up_eq, up_eq, up_eq]; exact ⟨rfl, rfl, rfl⟩
      · rw [up_ne _ _ e, up_ne _ _ e, up_ne _ _ e]; exact f3 q (by omega)
  refine hJ 6 _ _ _ _ ?_
  refine lp f.1.1 0 _ (by omega) (fr_put (fr_rf _ _) (by simp)) ?_ (fun j hj => absurd hj (Nat.not_lt_zero _))
  exact x0
set_option maxRecDepth 20000 in
set_option maxHeartbeats 2000000 in
theorem r_copy9_5 {Q : mm_R} {μ : mm_M} {f : fs_T} (hs : f.1.1 ≤ 6) (hX : XF 5 f μ) (h : ∀ μ', fr [9, 10, 11, 12] μ μ' → XF 9 f μ' → Q none μ') : mm_Runs m_X3_copyFrom Q 0 [.ref 9, .ref 5, .null] [] μ := by
  obtain ⟨⟨x0, x1, x4⟩, x5, x6, x7, x8⟩ := hX
  intro J hJ hF
  have lp : ∀ k i μ', k + i = f.1.1 → fr [9, 10, 11, 12] μ μ' → μ'.1 9 0 = nI f.1.1 → (∀ q, q < i → μ'.1 10 q = nI (f.1.2.1 q) ∧ μ'.1 11 q = nI (f.1.2.2.1 q) ∧ μ'.1 12 q = nI (f.1.2.2.2.1 q)) → J 10 [.ref 9, .ref 5, .int (nI i)] [] μ' := by
    intro k
    induction k with
    | zero =>
      intro i μ' hk f1 f2 f3
      have ep : μ'.1 5 0 = nI f.1.1 := by rw [f1.1 5 (by decide)]; exact x0
      refine hJ 60 _ _ _ _ ?_
      refine And.intro (fun _ => ?_) (fun c => by rw [ep, nI_leI (by omega) (by omega)] at c; omega)
      refine hJ 60 _ _ _ _ ?_
      refine h _ (fr_put (fr_put (fr_put (fr_put (fr_put f1 (by simp)) (by simp)) (by simp)) (by simp)) (by simp)) ⟨⟨f2, fun q hq => f3 q (by omega), ?_⟩, ?_, ?_, ?_, ?_⟩
      · show μ'.1 5 4 = _; rw [f1.1 5 (by decide)]; exact x4
      · show μ'.1 5 5 = _; rw [f1.1 5 (by decide)]; exact x5
      · show μ'.1 5 6 = _; rw [f1.1 5 (by decide)]; exact x6
      · show μ'.1 5 7 = _; rw [f1.1 5 (by decide)]; exact x7
      · show μ'.1 5 8 = _; rw [f1.1 5 (by decide)]; exact x8
    | succ k ih =>
      intro i μ' hk f1 f2 f3
      have ep : μ'.1 5 0 = nI f.1.1 := by rw [f1.1 5 (by decide)]; exact x0
      obtain ⟨y1, y2, y3⟩ := x1 i (by omega)
      refine hJ 60 _ _ _ _ ?_
      refine And.intro (fun c => by rw [ep, nI_leI (by omega) (by omega)] at c; omega) (fun _ => ?_)
      refine hJ 60 _ _ _ _ ?_
      refine And.intro (ar_in (by omega) (by omega)) ?_
      refine And.intro (ar_in (by omega) (by omega)) ?_
      refine And.intro (ar_in (by omega) (by omega)) ?_
      refine And.intro (ar_in (by omega) (by omega)) ?_
      refine And.intro (ar_in (by omega) (by omega)) ?_
      refine And.intro (ar_in (by omega) (by omega)) ?_
      show J 10 [_, _, .int (nI i + 1)] [] (mm_put (mm_put (mm_put μ' 10 (nI i).toNatClampNeg (μ'.1 6 (nI i).toNatClampNeg)) 11 (nI i).toNatClampNeg (μ'.1 7 (nI i).toNatClampNeg)) 12 (nI i).toNatClampNeg (μ'.1 8 (nI i).toNatClampNeg))
      rw [nI_1, ar_cl (by omega), f1.1 6 (by decide), f1.1 7 (by decide), f1.1 8 (by decide), y1, y2, y3]
      refine ih (i + 1) _ (by omega) (fr_put (fr_put (fr_put f1 (by simp)) (by simp)) (by simp)) f2 (fun q hq => ?_)
      show upd (μ'.1 10) i (nI (f.1.2.1 i)) q = _ ∧ upd (μ'.1 11) i (nI (f.1.2.2.1 i)) q = _ ∧ upd (μ'.1 12) i (nI (f.1.2.2.2.1 i)) q = _
      by_cases e : q = i
      · subst e; rw [up_eq, up_eq, up_eq]; exact ⟨rfl, rfl, rfl⟩
      · rw [up_ne _ _ e, up_ne _ _ e, up_ne _ _ e]; exact f3 q (by omega)
  refine hJ 6 _ _ _ _ ?_
  refine lp f.1.1 0 _ (by omega) (fr_put (fr_rf _ _) (by simp)) ?_ (fun j hj => absurd hj (Nat.not_lt_zero _))
  exact x0
set_option maxRecDepth 20000 in
set_option maxHeartbeats 2000000 in
theorem r_copy5_9 {Q : mm_R} {μ : mm_M} {f : fs_T} (hs : f.1.1 ≤ 6) (hX : XF 9 f μ) (h : ∀ μ', fr [5, 6, 7, 8] μ μ' → XF 5 f μ' → Q none μ') : mm_Runs m_X3_copyFrom Q 0 [.ref 5, .ref 9, .null] [] μ := by
  obtain ⟨⟨x0, x1, x4⟩, x5, x6, x7, x8⟩ := hX
  intro J hJ hF
  have lp : ∀ k i μ', k + i = f.1.1 → fr [5, 6, 7, 8] μ μ' → μ'.1 5 0 = nI f.1.1 → (∀ q, q < i → μ'.1 6 q = nI (f.1.2.1 q) ∧ μ'.1 7 q = nI (f.1.2.2.1 q) ∧ μ'.1 8 q = nI (f.1.2.2.2.1 q)) → J 10 [.ref 5, .ref 9, .int (nI i)] [] μ' := by
    intro k
    induction k with
    | zero =>
      intro i μ' hk f1 f2 f3
      have ep : μ'.1 9 0 = nI f.1.1 := by rw [f1.1 9 (by decide)]; exact x0
      refine hJ 60 _ _ _ _ ?_
      refine And.intro (fun _ => ?_) (fun c => by rw [ep, nI_leI (by omega) (by omega)] at c; omega)
      refine hJ 60 _ _ _ _ ?_
      refine h _ (fr_put (fr_put (fr_put (fr_put (fr_put f1 (by simp)) (by simp)) (by simp)) (by simp)) (by simp)) ⟨⟨f2, fun q hq => f3 q (by omega), ?_⟩, ?_, ?_, ?_, ?_⟩
      · show μ'.1 9 4 = _; rw [f1.1 9 (by decide)]; exact x4
      · show μ'.1 9 5 = _; rw [f1.1 9 (by decide)]; exact x5
      · show μ'.1 9 6 = _; rw [f1.1 9 (by decide)]; exact x6
      · show μ'.1 9 7 = _; rw [f1.1 9 (by decide)]; exact x7
      · show μ'.1 9 8 = _; rw [f1.1 9 (by decide)]; exact x8
    | succ k ih =>
      intro i μ' hk f1 f2 f3
      have ep : μ'.1 9 0 = nI f.1.1 := by rw [f1.1 9 (by decide)]; exact x0
      obtain ⟨y1, y2, y3⟩ := x1 i (by omega)
      refine hJ 60 _ _ _ _ ?_
      refine And.intro (fun c => by rw [ep, nI_leI (by omega) (by omega)] at c; omega) (fun _ => ?_)
      refine hJ 60 _ _ _ _ ?_
      refine And.intro (ar_in (by omega) (by omega)) ?_
      refine And.intro (ar_in (by omega) (by omega)) ?_
      refine And.intro (ar_in (by omega) (by omega)) ?_
      refine And.intro (ar_in (by omega) (by omega)) ?_
      refine And.intro (ar_in (by omega) (by omega)) ?_
      refine And.intro (ar_in (by omega) (by omega)) ?_
      show J 10 [_, _, .int (nI i + 1)] [] (mm_put (mm_put (mm_put μ' 6 (nI i).toNatClampNeg (μ'.1 10 (nI i).toNatClampNeg)) 7 (nI i).toNatClampNeg (μ'.1 11 (nI i).toNatClampNeg)) 8 (nI i).toNatClampNeg (μ'.1 12 (nI i).toNatClampNeg))
      rw [nI_1, ar_cl (by omega), f1.1 10 (by decide), f1.1 11 (by decide), f1.1 12 (by decide), y1, y2, y3]
      refine ih (i + 1) _ (by omega) (fr_put (fr_put (fr_put f1 (by simp)) (by simp)) (by simp)) f2 (fun q hq => ?_)
      show upd (μ'.1 6) i (nI (f.1.2.1 i)) q = _ ∧ upd (μ'.1 7) i (nI (f.1.2.2.1 i)) q = _ ∧ upd (μ'.1 8) i (nI (f.1.2.2.2.1 i)) q = _
      by_cases e : q = i
      · subst e; rw [up_eq, up_eq, up_eq]; exact ⟨rfl, rfl, rfl⟩
      · rw [up_ne _ _ e, up_ne _ _ e, up_ne _ _ e]; exact f3 q (by omega)
  refine hJ 6 _ _ _ _ ?_
  refine lp f.1.1 0 _ (by omega) (fr_put (fr_rf _ _) (by simp)) ?_ (fun j hj => absurd hj (Nat.not_lt_zero _))
  exact x0
set_option maxRecDepth 20000 in
set_option maxHeartbeats 2000000 in
theorem r_enter {Q : mm_R} {μ : mm_M} {n : Nat} {kv pv : Int32} (hn : n < 6) (hX : μ.1 5 0 = nI n) (h : Q (some (.int (nI n))) (mm_put (mm_put (mm_put (mm_put μ 6 n kv) 7 n pv) 8 n 0) 5 0 (nI (n + 1)))) : mm_Runs m_X3_enter Q 0 [.ref 5, .int kv, .int pv, .null] [] μ := by
  intro J hJ hF
  refine hJ 60 _ _ _ _ ?_
  refine And.intro (by rw [hX]; exact ar_in (by omega) (by omega)) ?_
  refine And.intro (by rw [hX]; exact ar_in (by omega) (by omega)) ?_
  refine And.intro (by rw [hX]; exact ar_in (by omega) (by omega)) ?_
  show Q (some (.int (μ.1 5 0))) (mm_put (mm_put (mm_put (mm_put μ 6 (μ.1 5 0).toNatClampNeg kv) 7 (μ.1 5 0).toNatClampNeg pv) 8 (μ.1 5 0).toNatClampNeg 0) 5 0 (μ.1 5 0 + 1))
  rw [hX, nI_1, ar_cl (by omega)]
  exact h
def pAt (s : sc_T) (p : Nat) : Nat := mk (fun q => decide (s.2.2.1 q = p)) s.1
set_option maxRecDepth 20000 in
set_option maxHeartbeats 2000000 in
theorem r_peopleAt {Q : mm_R} {μ : mm_M} {s : sc_T} {p : Nat} {pv : Int32} (hs : sOK s) (hX : XS 5 s μ) (hp : p < 8) (hpv : pv = nI p) (h : Q (some (.int (nI (pAt s p)))) μ) : mm_Runs m_X3_peopleAt Q 0 [.ref 5, .int pv, .null, .null] [] μ := by
  subst hpv
  have h6 := hs.1
  intro J hJ hF
  have ep : μ.1 5 0 = nI s.1 := hX.1
  have lp : ∀ k i, k + i = s.1 → J 4 [.ref 5, .int (nI p), .int (nI (mk (fun q => decide (s.2.2.1 q = p)) i)), .int (nI i)] [] μ := by
    intro k
    induction k with
    | zero =>
      intro i hk
      have e : i = s.1 := by omega
      subst e
      refine hJ 60 _ _ _ _ ?_
      refine And.intro (fun _ => ?_) (fun c => by rw [ep, nI_leI (by omega) (by omega)] at c; omega)
      refine hJ 60 _ _ _ _ ?_
      exact h
    | succ k ih =>
      intro i hk
      obtain ⟨-, d1, -⟩ := hs.2.1 i (by omega)
      have e2 : μ.1 7 i = nI (s.2.2.1 i) := (hX.2.1 i (by omega)).2.1
      refine hJ 60 _ _ _ _ ?_
      refine And.intro (fun c => by rw [ep, nI_leI (by omega) (by omega)] at c; omega) (fun _ => ?_)
      refine hJ 60 _ _ _ _ ?_
      refine And.intro (ar_in (by omega) (by omega)) ?_
      have st : ∀ x, x = mk (fun q => decide (s.2.2.1 q = p)) (i + 1) → J 28 [.ref 5, .int (nI p), .int (nI x), .int (nI i)] [] μ := by
        intro x hx
        refine hJ 60 _ _ _ _ ?_
        show J 4 [_, _, _, .int (nI i + 1)] [] μ
        rw [nI_1, hx]
        exact ih (i + 1) (by omega)
      refine And.intro (fun c => ?_) (fun c => ?_)
      · rw [ar_cl (by omega), e2, nI_eq (by omega) (by omega)] at c
        refine st _ ?_
        simp [mk, c]
      · rw [ar_cl (by omega), e2, nI_eq (by omega) (by omega)] at c
        refine hJ 6 _ _ _ _ ?_
        show J 28 [_, _, .int (nI (mk (fun q => decide (s.2.2.1 q = p)) i) ||| ((1 : Int32) <<< (nI i &&& 31))), _] [] μ
        rw [ar_shl i (by omega), ar_or]
        refine st _ ?_
        simp [mk, c]
  refine hJ 4 _ _ _ _ ?_
  exact lp s.1 0 (by omega)
/-- who learns: those who hear (bits h) and didn't know the word w -/
def lB (s : sc_T) (h w : Nat) : Nat → Bool := fun q => h.testBit q && !(s.2.2.2.1 q).testBit w
def lrn (s : sc_T) (h w : Nat) : sc_T := (s.1, s.2.1, s.2.2.1, fun q => if lB s h w q then s.2.2.2.1 q ||| 2 ^ w else s.2.2.2.1 q, s.2.2.2.2)
def lN_ (s : sc_T) (h w : Nat) : Nat := ct (lB s h w) s.1
theorem lrn_ok {s : sc_T} {h w : Nat} (hs : sOK s) (hw : w < 10) : sOK (lrn s h w) := by
  refine ⟨hs.1, fun q hq => ?_, hs.2.2⟩
  obtain ⟨a, b, c⟩ := hs.2.1 q hq
  refine ⟨a, b, ?_⟩
  show (if lB s h w q then s.2.2.2.1 q ||| 2 ^ w else s.2.2.2.1 q) < 1024
  split
  · exact Nat.or_lt_two_pow (n := 10) c (Nat.pow_lt_pow_right (by omega) hw)
  · exact c
set_option maxRecDepth 20000 in
set_option maxHeartbeats 2000000 in
theorem r_learn5 {Q : mm_R} {μ : mm_M} {s : sc_T} {hr w : Nat} {hv wv : Int32} (hs : sOK s) (hX : XS 5 s μ) (hh : hr < 64) (hw : w < 10) (hhv : hv = nI hr) (hwv : wv = nI w) (h : ∀ μ', fr [8] μ μ' → XS 5 (lrn s hr w) μ' → Q (some (.int (nI (lN_ s hr w)))) μ') : mm_Runs m_X3_learn Q 0 [.ref 5, .int hv, .int wv, .null, .null] [] μ := by
  subst hhv; subst hwv
  have h6 := hs.1
  intro J hJ hF
  have lp : ∀ k i μ', k + i = s.1 → fr [8] μ μ' → (∀ q, q < s.1 → μ'.1 8 q = nI (if q < i then (lrn s hr w).2.2.2.1 q else s.2.2.2.1 q)) → J 5 [.ref 5, .int (nI hr), .int (nI w), .int (nI (ct (lB s hr w) i)), .int (nI i)] [] μ' := by
    intro k
    induction k with
    | zero =>
      intro i μ' hk f1 f2
      have ep : μ'.1 5 0 = nI s.1 := by rw [f1.1 5 (by decide)]; exact hX.1
      have e : i = s.1 := by omega
      subst e
      refine hJ 60 _ _ _ _ ?_
      refine And.intro (fun _ => ?_) (fun c => by rw [ep, nI_leI (by omega) (by omega)] at c; omega)
      refine hJ 60 _ _ _ _ ?_
      refine h μ' f1 ⟨ep, fun q hq => ?_, by rw [f1.1 5 (by decide)]; exact hX.2.2⟩
      have hq : q < s.1 := hq
      have := f2 q hq
      rw [if_pos hq] at this
      exact ⟨by rw [f1.1 6 (by decide)]; exact (hX.2.1 q hq).1, by rw [f1.1 7 (by decide)]; exact (hX.2.1 q hq).2.1, this⟩
    | succ k ih =>
      intro i μ' hk f1 f2
      have hi : i < s.1 := by omega
      have ep : μ'.1 5 0 = nI s.1 := by rw [f1.1 5 (by decide)]; exact hX.1
      obtain ⟨-, -, k3⟩ := hs.2.1 i hi
      have ek : μ'.1 8 i = nI (s.2.2.2.1 i) := by have := f2 i hi; rw [if_neg (by omega)] at this; exact this
      have hup : ∀ b, lB s hr w i = b → (lrn s hr w).2.2.2.1 i = if b then s.2.2.2.1 i ||| 2 ^ w else s.2.2.2.1 i := fun b hb => by rw [← hb]; rfl
      have st : ∀ μ'' x, x = ct (lB s hr w) (i + 1) → fr [8] μ μ'' → (∀ q, q < s.1 → μ''.1 8 q = nI (if q < i + 1 then (lrn s hr w).2.2.2.1 q else s.2.2.2.1 q)) → J 53 [.ref 5, .int (nI hr), .int (nI w), .int (nI x), .int (nI i)] [] μ'' := by
        intro μ'' x hx g1 g2
        refine hJ 60 _ _ _ _ ?_
        show J 5 [_, _, _, _, .int (nI i + 1)] [] μ''
        rw [nI_1, hx]
        exact ih (i + 1) μ'' (by omega) g1 g2
      have no : lB s hr w i = false → J 53 [.ref 5, .int (nI hr), .int (nI w), .int (nI (ct (lB s hr w) i)), .int (nI i)] [] μ' := by
        intro hb
        refine st μ' _ (by simp [ct, hb]) f1 (fun q hq => ?_)
        rw [f2 q hq]
        by_cases e : q = i
        · subst e; rw [if_neg (by omega), if_pos (by omega), hup _ hb]; rfl
        · by_cases e2 : q < i
          · rw [if_pos e2, if_pos (by omega)]
          · rw [if_neg e2, if_neg (by omega)]
      refine hJ 60 _ _ _ _ ?_
      refine And.intro (fun c => by rw [ep, nI_leI (by omega) (by omega)] at c; omega) (fun _ => ?_)
      refine hJ 60 _ _ _ _ ?_
      refine r_hasBit hr i rfl rfl (by omega) (by omega) (fun b1 => ?_) (fun b0 => ?_)
      · refine And.intro (fun c => absurd c (by decide)) (fun _ => ?_)
        refine hJ 60 _ _ _ _ ?_
        refine And.intro (ar_in (by omega) (by omega)) ?_
        refine r_hasBit (s.2.2.2.1 i) w (by rw [ar_cl (by omega)]; exact ek) rfl (by omega) (by omega) (fun d1 => ?_) (fun d0 => ?_)
        · refine And.intro (fun _ => ?_) (fun c => absurd c (by decide))
          exact no (by unfold lB; rw [d1]; simp)
        · refine And.intro (fun c => absurd rfl c) (fun _ => ?_)
          have hb : lB s hr w i = true := by unfold lB; rw [b1, d0]; rfl
          refine hJ 11 _ _ _ _ ?_
          refine And.intro (ar_in (by omega) (by omega)) ?_
          refine And.intro (ar_in (by omega) (by omega)) ?_
          show J 53 [_, _, _, .int (nI (ct (lB s hr w) i) + 1), _] [] (mm_put μ' 8 (nI i).toNatClampNeg (μ'.1 8 (nI i).toNatClampNeg ||| ((1 : Int32) <<< (nI w &&& 31))))
          rw [ar_cl (by omega), ek, ar_shl w (by omega), ar_or, nI_1]
          refine st _ _ (by simp [ct, hb]) (fr_put f1 (by simp)) (fun q hq => ?_)
          rw [mp_eq]
          by_cases e : q = i
          · subst e; rw [up_eq, if_pos (by omega), hup _ hb]; rfl
          · rw [up_ne _ _ e, f2 q hq]
            by_cases e2 : q < i
            · rw [if_pos e2, if_pos (by omega)]
            · rw [if_neg e2, if_neg (by omega)]
      · refine And.intro (fun _ => ?_) (fun c => absurd rfl c)
        exact no (by unfold lB; rw [b0]; rfl)
  refine hJ 4 _ _ _ _ ?_
  exact lp s.1 0 μ (by omega) (fr_rf _ _) (fun q hq => by rw [if_neg (Nat.not_lt_zero _)]; exact (hX.2.1 q hq).2.2)
set_option maxRecDepth 20000 in
set_option maxHeartbeats 2000000 in
theorem r_learn13 {Q : mm_R} {μ : mm_M} {s : sc_T} {hr w : Nat} {hv wv : Int32} (hs : sOK s) (hX : XS 13 s μ) (hh : hr < 64) (hw : w < 10) (hhv : hv = nI hr) (hwv : wv = nI w) (h : ∀ μ', fr [16] μ μ' → XS 13 (lrn s hr w) μ' → Q (some (.int (nI (lN_ s hr w)))) μ') : mm_Runs m_X3_learn Q 0 [.ref 13, .int hv, .int wv, .null, .null] [] μ := by
  subst hhv; subst hwv
  have h6 := hs.1
  intro J hJ hF
  have lp : ∀ k i μ', k + i = s.1 → fr [16] μ μ' → (∀ q, q < s.1 → μ'.1 16 q = nI (if q < i then (lrn s hr w).2.2.2.1 q else s.2.2.2.1 q)) → J 5 [.ref 13, .int (nI hr), .int (nI w), .int (nI (ct (lB s hr w) i)), .int (nI i)] [] μ' := by
    intro k
    induction k with
    | zero =>
      intro i μ' hk f1 f2
      have ep : μ'.1 13 0 = nI s.1 := by rw [f1.1 13 (by decide)]; exact hX.1
      have e : i = s.1 := by omega
      subst e
      refine hJ 60 _ _ _ _ ?_
      refine And.intro (fun _ => ?_) (fun c => by rw [ep, nI_leI (by omega) (by omega)] at c; omega)
      refine hJ 60 _ _ _ _ ?_
      refine h μ' f1 ⟨ep, fun q hq => ?_, by rw [f1.1 13 (by decide)]; exact hX.2.2⟩
      have hq : q < s.1 := hq
      have := f2 q hq
      rw [if_pos hq] at this
      exact ⟨by rw [f1.1 14 (by decide)]; exact (hX.2.1 q hq).1, by rw [f1.1 15 (by decide)]; exact (hX.2.1 q hq).2.1, this⟩
    | succ k ih =>
      intro i μ' hk f1 f2
      have hi : i < s.1 := by omega
      have ep : μ'.1 13 0 = nI s.1 := by rw [f1.1 13 (by decide)]; exact hX.1
      obtain ⟨-, -, k3⟩ := hs.2.1 i hi
      have ek : μ'.1 16 i = nI (s.2.2.2.1 i) := by have := f2 i hi; rw [if_neg (by omega)] at this; exact this
      have hup : ∀ b, lB s hr w i = b → (lrn s hr w).2.2.2.1 i = if b then s.2.2.2.1 i ||| 2 ^ w else s.2.2.2.1 i := fun b hb => by rw [← hb]; rfl
      have st : ∀ μ'' x, x = ct (lB s hr w) (i + 1) → fr [16] μ μ'' → (∀ q, q < s.1 → μ''.1 16 q = nI (if q < i + 1 then (lrn s hr w).2.2.2.1 q else s.2.2.2.1 q)) → J 53 [.ref 13, .int (nI hr), .int (nI w), .int (nI x), .int (nI i)] [] μ'' := by
        intro μ'' x hx g1 g2
        refine hJ 60 _ _ _ _ ?_
        show J 5 [_, _, _, _, .int (nI i + 1)] [] μ''
        rw [nI_1, hx]
        exact ih (i + 1) μ'' (by omega) g1 g2
      have no : lB s hr w i = false → J 53 [.ref 13, .int (nI hr), .int (nI w), .int (nI (ct (lB s hr w) i)), .int (nI i)] [] μ' := by
        intro hb
        refine st μ' _ (by simp [ct, hb]) f1 (fun q hq => ?_)
        rw [f2 q hq]
        by_cases e : q = i
        · subst e; rw [if_neg (by omega), if_pos (by omega), hup _ hb]; rfl
        · by_cases e2 : q < i
          · rw [if_pos e2, if_pos (by omega)]
          · rw [if_neg e2, if_neg (by omega)]
      refine hJ 60 _ _ _ _ ?_
      refine And.intro (fun c => by rw [ep, nI_leI (by omega) (by omega)] at c; omega) (fun _ => ?_)
      refine hJ 60 _ _ _ _ ?_
      refine r_hasBit hr i rfl rfl (by omega) (by omega) (fun b1 => ?_) (fun b0 => ?_)
      · refine And.intro (fun c => absurd c (by decide)) (fun _ => ?_)
        refine hJ 60 _ _ _ _ ?_
        refine And.intro (ar_in (by omega) (by omega)) ?_
        refine r_hasBit (s.2.2.2.1 i) w (by rw [ar_cl (by omega)]; exact ek) rfl (by omega) (by omega) (fun d1 => ?_) (fun d0 => ?_)
        · refine And.intro (fun _ => ?_) (fun c => absurd c (by decide))
          exact no (by unfold lB; rw [d1]; simp)
        · refine And.intro (fun c => absurd rfl c) (fun _ => ?_)
          have hb : lB s hr w i = true := by unfold lB; rw [b1, d0]; rfl
          refine hJ 11 _ _ _ _ ?_
          refine And.intro (ar_in (by omega) (by omega)) ?_
          refine And.intro (ar_in (by omega) (by omega)) ?_
          show J 53 [_, _, _, .int (nI (ct (lB s hr w) i) + 1), _] [] (mm_put μ' 16 (nI i).toNatClampNeg (μ'.1 16 (nI i).toNatClampNeg ||| ((1 : Int32) <<< (nI w &&& 31))))
          rw [ar_cl (by omega), ek, ar_shl w (by omega), ar_or, nI_1]
          refine st _ _ (by simp [ct, hb]) (fr_put f1 (by simp)) (fun q hq => ?_)
          rw [mp_eq]
          by_cases e : q = i
          · subst e; rw [up_eq, if_pos (by omega), hup _ hb]; rfl
          · rw [up_ne _ _ e, f2 q hq]
            by_cases e2 : q < i
            · rw [if_pos e2, if_pos (by omega)]
            · rw [if_neg e2, if_neg (by omega)]
      · refine And.intro (fun _ => ?_) (fun c => absurd rfl c)
        exact no (by unfold lB; rw [b0]; rfl)
  refine hJ 4 _ _ _ _ ?_
  exact lp s.1 0 μ (by omega) (fr_rf _ _) (fun q hq => by rw [if_neg (Nat.not_lt_zero _)]; exact (hX.2.1 q hq).2.2)
def kAll (s : sc_T) : Nat := sm (fun q => pcs (s.2.2.2.1 q) 10) s.1
set_option maxRecDepth 20000 in
set_option maxHeartbeats 2000000 in
theorem r_wordsKnown5 {Q : mm_R} {μ : mm_M} {s : sc_T} (hs : sOK s) (hX : XS 5 s μ) (h : Q (some (.int (nI (kAll s)))) μ) : mm_Runs m_X3_wordsKnown Q 0 [.ref 5, .null, .null] [] μ := by
  have h6 := hs.1
  intro J hJ hF
  have ep : μ.1 5 0 = nI s.1 := hX.1
  have lp : ∀ k i, k + i = s.1 → J 4 [.ref 5, .int (nI (sm (fun q => pcs (s.2.2.2.1 q) 10) i)), .int (nI i)] [] μ := by
    intro k
    induction k with
    | zero =>
      intro i hk
      have e : i = s.1 := by omega
      subst e
      refine hJ 60 _ _ _ _ ?_
      refine And.intro (fun _ => ?_) (fun c => by rw [ep, nI_leI (by omega) (by omega)] at c; omega)
      refine hJ 60 _ _ _ _ ?_
      exact h
    | succ k ih =>
      intro i hk
      obtain ⟨-, -, d1⟩ := hs.2.1 i (by omega)
      have e2 : μ.1 8 i = nI (s.2.2.2.1 i) := (hX.2.1 i (by omega)).2.2
      refine hJ 60 _ _ _ _ ?_
      refine And.intro (fun c => by rw [ep, nI_leI (by omega) (by omega)] at c; omega) (fun _ => ?_)
      refine hJ 60 _ _ _ _ ?_
      refine And.intro (ar_in (by omega) (by omega)) ?_
      refine r_bitCount (s.2.2.2.1 i) (by rw [ar_cl (by omega)]; exact e2) d1 ?_
      show J 4 [_, .int (nI (sm (fun q => pcs (s.2.2.2.1 q) 10) i) + nI (pcs (s.2.2.2.1 i) 10)), .int (nI i + 1)] [] μ
      rw [nI_1, nI_add]
      exact ih (i + 1) (by omega)
  refine hJ 4 _ _ _ _ ?_
  exact lp s.1 0 (by omega)
set_option maxRecDepth 20000 in
set_option maxHeartbeats 2000000 in
theorem r_wordsKnown13 {Q : mm_R} {μ : mm_M} {s : sc_T} (hs : sOK s) (hX : XS 13 s μ) (h : Q (some (.int (nI (kAll s)))) μ) : mm_Runs m_X3_wordsKnown Q 0 [.ref 13, .null, .null] [] μ := by
  have h6 := hs.1
  intro J hJ hF
  have ep : μ.1 13 0 = nI s.1 := hX.1
  have lp : ∀ k i, k + i = s.1 → J 4 [.ref 13, .int (nI (sm (fun q => pcs (s.2.2.2.1 q) 10) i)), .int (nI i)] [] μ := by
    intro k
    induction k with
    | zero =>
      intro i hk
      have e : i = s.1 := by omega
      subst e
      refine hJ 60 _ _ _ _ ?_
      refine And.intro (fun _ => ?_) (fun c => by rw [ep, nI_leI (by omega) (by omega)] at c; omega)
      refine hJ 60 _ _ _ _ ?_
      exact h
    | succ k ih =>
      intro i hk
      obtain ⟨-, -, d1⟩ := hs.2.1 i (by omega)
      have e2 : μ.1 16 i = nI (s.2.2.2.1 i) := (hX.2.1 i (by omega)).2.2
      refine hJ 60 _ _ _ _ ?_
      refine And.intro (fun c => by rw [ep, nI_leI (by omega) (by omega)] at c; omega) (fun _ => ?_)
      refine hJ 60 _ _ _ _ ?_
      refine And.intro (ar_in (by omega) (by omega)) ?_
      refine r_bitCount (s.2.2.2.1 i) (by rw [ar_cl (by omega)]; exact e2) d1 ?_
      show J 4 [_, .int (nI (sm (fun q => pcs (s.2.2.2.1 q) 10) i) + nI (pcs (s.2.2.2.1 i) 10)), .int (nI i + 1)] [] μ
      rw [nI_1, nI_add]
      exact ih (i + 1) (by omega)
  refine hJ 4 _ _ _ _ ?_
  exact lp s.1 0 (by omega)
/-- all trials would be so, had those of h heard it -/
def agr (t : tr_T) (h : Nat) : Prop := ∀ i, i < t.1 → (h.testBit (t.2.1 i) = true ↔ t.2.2 i = 1)
theorem tB_bit (q v : Nat → Nat) (w : Nat) : ∀ T b, (tBits q v w T).testBit b = true ↔ ∃ i, i < T ∧ v i = w ∧ q i = b
  | 0, b => by simp [tBits]
  | T + 1, b => by
    have ih := tB_bit q v w T b
    unfold tBits
    split
    · rename_i z
      rw [Nat.testBit_or, Bool.or_eq_true, ih, Nat.testBit_two_pow, decide_eq_true_eq]
      constructor
      · rintro (⟨i, h1, h2⟩ | h)
        · exact ⟨i, by omega, h2⟩
        · exact ⟨T, by omega, z, h⟩
      · rintro ⟨i, h1, h2, h3⟩
        by_cases e : i = T
        · subst e; exact Or.inr h3
        · exact Or.inl ⟨i, by omega, h2, h3⟩
    · rename_i z
      rw [ih]
      constructor
      · rintro ⟨i, h1, h2⟩
        exact ⟨i, by omega, h2⟩
      · rintro ⟨i, h1, h2, h3⟩
        by_cases e : i = T
        · subst e; exact absurd h2 z
        · exact ⟨i, by omega, h2, h3⟩
theorem tB_lt {q v : Nat → Nat} {w : Nat} : ∀ {T : Nat}, (∀ i, i < T → q i < 6) → tBits q v w T < 64
  | 0, _ => by simp [tBits]
  | T + 1, h => by
    have ih := tB_lt (q := q) (v := v) (w := w) (T := T) (fun i hi => h i (by omega))
    unfold tBits
    split
    · exact Nat.or_lt_two_pow (n := 6) ih (Nat.pow_lt_pow_right (by omega) (h T (by omega)))
    · exact ih
theorem agr_iff {t : tr_T} {h : Nat} (ht : tOK t) : agr t h ↔ (h &&& tBits t.2.1 t.2.2 1 t.1 = tBits t.2.1 t.2.2 1 t.1 ∧ h &&& tBits t.2.1 t.2.2 0 t.1 = 0) := by
  constructor
  · intro ha
    constructor
    · apply Nat.eq_of_testBit_eq
      intro b
      rw [Nat.testBit_and]
      cases hq : (tBits t.2.1 t.2.2 1 t.1).testBit b with
      | false => simp
      | true =>
        obtain ⟨i, h1, h2, h3⟩ := (tB_bit _ _ _ _ _).mp hq
        have := (ha i h1).mpr h2
        rw [h3] at this
        rw [this]; rfl
    · apply Nat.eq_of_testBit_eq
      intro b
      rw [Nat.testBit_and, Nat.zero_testBit]
      cases hq : (tBits t.2.1 t.2.2 0 t.1).testBit b with
      | false => simp
      | true =>
        obtain ⟨i, h1, h2, h3⟩ := (tB_bit _ _ _ _ _).mp hq
        cases hz : h.testBit b with
        | false => rfl
        | true =>
          rw [← h3] at hz
          have := (ha i h1).mp hz
          omega
  · rintro ⟨h1, h2⟩ i hi
    obtain ⟨q1, q2⟩ := ht.2 i hi
    constructor
    · intro hb
      rcases (show t.2.2 i = 0 ∨ t.2.2 i = 1 by omega) with z | z
      · have e1 : (tBits t.2.1 t.2.2 0 t.1).testBit (t.2.1 i) = true := (tB_bit _ _ _ _ _).mpr ⟨i, hi, z, rfl⟩
        have e2 : (h &&& tBits t.2.1 t.2.2 0 t.1).testBit (t.2.1 i) = true := by rw [Nat.testBit_and, hb, e1]; rfl
        rw [h2, Nat.zero_testBit] at e2
        cases e2
      · exact z
    · intro hv
      have e1 : (tBits t.2.1 t.2.2 1 t.1).testBit (t.2.1 i) = true := (tB_bit _ _ _ _ _).mpr ⟨i, hi, hv, rfl⟩
      rw [← h1, Nat.testBit_and, Bool.and_eq_true] at e1
      exact e1.1
set_option maxRecDepth 20000 in
set_option maxHeartbeats 2000000 in
theorem r_agrees {Q : mm_R} {μ : mm_M} {t : tr_T} {hr : Nat} {hv : Int32} (ht : tOK t) (h7 : μ.1 5 7 = nI (tBits t.2.1 t.2.2 1 t.1)) (h8 : μ.1 5 8 = nI (tBits t.2.1 t.2.2 0 t.1)) (hh : hr < 64) (hhv : hv = nI hr) (h1 : agr t hr → Q (some (.int 1)) μ) (h0 : ¬ agr t hr → Q (some (.int 0)) μ) : mm_Runs m_X3_agrees Q 0 [.ref 5, .int hv] [] μ := by
  subst hhv
  have l1 : tBits t.2.1 t.2.2 1 t.1 < 64 := tB_lt (fun i hi => (ht.2 i hi).1)
  have l0 : tBits t.2.1 t.2.2 0 t.1 < 64 := tB_lt (fun i hi => (ht.2 i hi).1)
  have a1 : hr &&& tBits t.2.1 t.2.2 1 t.1 ≤ tBits t.2.1 t.2.2 1 t.1 := Nat.and_le_right
  have a0 : hr &&& tBits t.2.1 t.2.2 0 t.1 ≤ tBits t.2.1 t.2.2 0 t.1 := Nat.and_le_right
  have e := agr_iff (h := hr) ht
  intro J hJ hF
  refine hJ 60 _ _ _ _ ?_
  refine And.intro (fun c => ?_) (fun c => ?_)
  · rw [h7, ar_and, nI_eq (by omega) (by omega)] at c
    refine hJ 60 _ _ _ _ ?_
    exact And.intro (Or.inl rfl) (h0 (fun z => c (e.mp z).1))
  · rw [h7, ar_and, nI_eq (by omega) (by omega)] at c
    refine hJ 60 _ _ _ _ ?_
    refine And.intro (fun c2 => ?_) (fun c2 => ?_)
    · rw [h8, ar_and, show (0 : Int32) = nI 0 from rfl, nI_eq (by omega) (by omega)] at c2
      refine hJ 60 _ _ _ _ ?_
      exact And.intro (Or.inl rfl) (h0 (fun z => c2 (e.mp z).2))
    · rw [h8, ar_and, show (0 : Int32) = nI 0 from rfl, nI_eq (by omega) (by omega)] at c2
      refine hJ 60 _ _ _ _ ?_
      refine hJ 60 _ _ _ _ ?_
      exact And.intro (Or.inr rfl) (h1 (e.mpr ⟨c, c2⟩))
/-- the next seed -/
def nxS (sd : Nat) : Nat := (1103515245 * sd + 12345) % 2147483648
theorem nxS_lt (sd : Nat) : nxS sd < 2147483648 := Nat.mod_lt _ (by omega)
set_option maxRecDepth 20000 in
set_option maxHeartbeats 2000000 in
theorem r_next {Q : mm_R} {μ : mm_M} {sd m : Nat} {mv : Int32} (hs : μ.2 19 = lN sd) (hsd : sd < 2147483648) (hm : 0 < m) (hm2 : m ≤ 10) (hmv : mv = nI m) (h : Q (some (.int (nI (nxS sd / 65536 % m)))) (mm_putl μ 19 (lN (nxS sd)))) : mm_Runs m_X0_next Q 0 [.ref 19, .int mv] [] μ := by
  subst hmv
  have hlt := nxS_lt sd
  have e1 : (1103515245 : Int64) * μ.2 19 + 12345 - ((1103515245 : Int64) * μ.2 19 + 12345) / 2147483648 * 2147483648 = lN (nxS sd) := by
    rw [hs, show (1103515245 : Int64) = lN 1103515245 from rfl, lN_mul, show (12345 : Int64) = lN 12345 from rfl, lN_add, show (2147483648 : Int64) = lN 2147483648 from rfl, pk_lRem (by omega) (by omega) (by omega)]
    rfl
  intro J hJ hF
  refine hJ 60 _ _ _ _ ?_
  refine And.intro (by decide) ?_
  rw [e1]
  refine And.intro (fun c => ?_) (fun c => ?_)
  · rw [show (0 : Int32) = nI 0 from rfl, nI_leI (by omega) (by omega)] at c; omega
  refine hJ 60 _ _ _ _ ?_
  refine And.intro (by decide) ?_
  refine And.intro (fun z => ?_) ?_
  · rw [nI_l (by omega), show (0 : Int64) = lN 0 from rfl, pk_lEQ (by omega) (by omega)] at z; omega
  refine hJ 60 _ _ _ _ ?_
  show Q (some (.int (lN (nxS sd) / 65536 - lN (nxS sd) / 65536 / (nI m).toInt64 * (nI m).toInt64).toInt32)) (mm_putl μ 19 (lN (nxS sd)))
  rw [nI_l (by omega), show (65536 : Int64) = lN 65536 from rfl, pk_lDiv (by omega) (by omega) (by omega), pk_lRem (by omega) (by omega) (by omega), lN_i]
  exact h
