/-! numbers and bits -/
theorem ar_lt (a b : Int32) : a < b ↔ a.toInt < b.toInt := Int32.lt_iff_toInt_lt
theorem ar_le (a b : Int32) : a ≤ b ↔ a.toInt ≤ b.toInt := Int32.le_iff_toInt_le
theorem ar_eq (a b : Int32) : a = b ↔ a.toInt = b.toInt := Int32.toInt_inj.symm
theorem ar_wlt (a b : Int32) : a.toInt64 < b.toInt64 ↔ a < b := by rw [Int64.lt_iff_toInt_lt, ar_lt, Int32.toInt_toInt64, Int32.toInt_toInt64]
theorem ar_and (a b : Nat) : nI a &&& nI b = nI (a &&& b) := by
  apply Int32.toBitVec_inj.1
  show BitVec.ofNat 32 a &&& BitVec.ofNat 32 b = BitVec.ofNat 32 (a &&& b)
  apply BitVec.eq_of_getLsbD_eq
  intro i hi
  simp [hi]
theorem ar_or (a b : Nat) : nI a ||| nI b = nI (a ||| b) := by
  apply Int32.toBitVec_inj.1
  show BitVec.ofNat 32 a ||| BitVec.ofNat 32 b = BitVec.ofNat 32 (a ||| b)
  apply BitVec.eq_of_getLsbD_eq
  intro i hi
  simp [hi]
theorem ar_sm : ∀ n, n < 32 → ((nI n &&& 31).toBitVec.smod 32).toNat = n := by decide +kernel
theorem ar_shr {h q : Nat} (hh : h < 2 ^ 31) (hq : q < 32) : nI h >>> (nI q &&& 31) = nI (h / 2 ^ q) := pk_shrN hh _ q (ar_sm q hq)
theorem ar_bit {h q : Nat} (hh : h < 2 ^ 31) (hq : q < 32) : nI h >>> (nI q &&& 31) &&& 1 = nI (h / 2 ^ q % 2) := by
  rw [ar_shr hh hq, show (1 : Int32) = nI 1 from rfl, ar_and, Nat.and_one_is_mod]
theorem ar_bit1 {h q : Nat} (hh : h < 2 ^ 31) (hq : q < 32) : nI h >>> (nI q &&& 31) &&& 1 = 1 ↔ h.testBit q = true := by
  rw [ar_bit hh hq, show (1 : Int32) = nI 1 from rfl, nI_eq (by omega) (by omega), Nat.testBit_eq_decide_div_mod_eq, decide_eq_true_eq]
theorem ar_bitv {h q : Nat} (hh : h < 2 ^ 31) (hq : q < 32) : nI h >>> (nI q &&& 31) &&& 1 = nI (if h.testBit q then 1 else 0) := by
  rw [ar_bit hh hq, Nat.testBit_eq_decide_div_mod_eq]
  congr 1
  by_cases e : h / 2 ^ q % 2 = 1
  · simp [e]
  · simp [e]; omega
theorem ar_shl : ∀ q, q < 31 → (1 : Int32) <<< (nI q &&& 31) = nI (2 ^ q) := by decide +kernel
/-- a person's number (a place's) among n -/
def pIs (n : Nat) (a : Int32) : Prop := ∃ q, q < n ∧ a = nI q
theorem pIs_iff {n : Nat} {a : Int32} (hn : n < 2 ^ 31) : pIs n a ↔ 0 ≤ a ∧ a < nI n := by
  constructor
  · rintro ⟨q, h1, rfl⟩
    exact ⟨nI_pos' (by omega), nI_lt h1 hn⟩
  · rintro ⟨h1, h2⟩
    obtain ⟨j, h3, h4⟩ := nI_of (x := a) (by rw [ar_lt]; rw [ar_le] at h1; omega)
    subst h4
    exact ⟨j, (nI_ltI h3 hn).mp h2, rfl⟩
theorem nI_inj {a b : Nat} (ha : a < 2 ^ 31) (hb : b < 2 ^ 31) (h : nI a = nI b) : a = b := (nI_eq ha hb).mp h
theorem ar_in {q n : Nat} (h : q < n) (hn : n < 2 ^ 31) : vp_in (nI q) n := vp_in_nI h hn
theorem ar_cl {q : Nat} (h : q < 2 ^ 31) : (nI q).toNatClampNeg = q := nI_clamp h
/-! memory -/
theorem mp_eq (μ : mm_M) (r k : Nat) (v : Int32) : (mm_put μ r k v).1 r = upd (μ.1 r) k v := by simp [mm_put, va_up]
theorem mp_ne (μ : mm_M) {r r' : Nat} (k : Nat) (v : Int32) (h : r' ≠ r) : (mm_put μ r k v).1 r' = μ.1 r' := by simp [mm_put, va_up, h]
theorem mp_l (μ : mm_M) (r k : Nat) (v : Int32) : (mm_put μ r k v).2 = μ.2 := rfl
theorem up_eq (f : Nat → Int32) (k : Nat) (v : Int32) : upd f k v k = v := by simp [upd]
theorem up_ne (f : Nat → Int32) {k j : Nat} (v : Int32) (h : j ≠ k) : upd f k v j = f j := by simp [upd, h]
/-- only these cells may differ -/
def fr (rs : List Nat) (μ μ' : mm_M) : Prop := (∀ r, r ∉ rs → μ'.1 r = μ.1 r) ∧ ∀ r, r ∉ rs → μ'.2 r = μ.2 r
theorem fr_rf (rs : List Nat) (μ : mm_M) : fr rs μ μ := ⟨fun _ _ => rfl, fun _ _ => rfl⟩
theorem fr_tr {rs : List Nat} {a b c : mm_M} (h1 : fr rs a b) (h2 : fr rs b c) : fr rs a c := ⟨fun r h => (h2.1 r h).trans (h1.1 r h), fun r h => (h2.2 r h).trans (h1.2 r h)⟩
theorem fr_w {rs rs' : List Nat} {a b : mm_M} (h : fr rs a b) (hs : ∀ r, r ∈ rs → r ∈ rs') : fr rs' a b := ⟨fun r q => h.1 r (fun z => q (hs r z)), fun r q => h.2 r (fun z => q (hs r z))⟩
theorem fr_put {rs : List Nat} {μ μ' : mm_M} {r k : Nat} {v : Int32} (h : fr rs μ μ') (hr : r ∈ rs) : fr rs μ (mm_put μ' r k v) :=
  ⟨fun q hq => by
    have e : q ≠ r := fun e => hq (e ▸ hr)
    rw [mp_ne _ _ _ e]; exact h.1 q hq, h.2⟩
theorem fr_putl {rs : List Nat} {μ μ' : mm_M} {r : Nat} {v : Int64} (h : fr rs μ μ') (hr : r ∈ rs) : fr rs μ (mm_putl μ' r v) :=
  ⟨h.1, fun q hq => by
    have : q ≠ r := fun e => hq (e ▸ hr)
    simp only [mm_putl, va_up, if_neg this]
    exact h.2 q hq⟩
/-! the mathematical state -/
/-- how many people, kinds, places, words (as bits), cloth (as bits) -/
abbrev sc_T : Type := Nat × (Nat → Nat) × (Nat → Nat) × (Nat → Nat) × Nat
/-- where heard, how much later -/
abbrev dm_T : Type := (Nat → Nat) × (Nat → Nat)
/-- trials: how many, who, heard (1) or not (0) -/
abbrev tr_T : Type := Nat × (Nat → Nat) × (Nat → Nat)
/-- a scene whole: people and cloth, how often said, trials -/
abbrev fs_T : Type := sc_T × Int32 × tr_T
def sOK (s : sc_T) : Prop := s.1 ≤ 6 ∧ (∀ q, q < s.1 → s.2.1 q ≤ 4 ∧ s.2.2.1 q < 8 ∧ s.2.2.2.1 q < 1024) ∧ s.2.2.2.2 < 256
def dOK (d : dm_T) : Prop := ∀ j, j < 8 → d.1 j < 8 ∧ d.2 j ≤ 9
def tOK (t : tr_T) : Prop := t.1 ≤ 8 ∧ ∀ i, i < t.1 → t.2.1 i < 6 ∧ t.2.2 i ≤ 1
/-- the trials' bits: of those with answer v -/
def tBits (q v : Nat → Nat) (w : Nat) : Nat → Nat
  | 0 => 0
  | i + 1 => if v i = w then tBits q v w i ||| 2 ^ q i else tBits q v w i
def XD (d : dm_T) (μ : mm_M) : Prop := ∀ j, j < 8 → μ.1 3 j = nI (d.1 j) ∧ μ.1 4 j = nI (d.2 j)
def MD (d : dm_T) (μ : mm_M) : Prop := ∀ j, j < 8 → μ.1 23 j = nI (d.1 j) ∧ μ.1 24 j = nI (d.2 j)
def XS (r : Nat) (s : sc_T) (μ : mm_M) : Prop := μ.1 r 0 = nI s.1 ∧ (∀ q, q < s.1 → μ.1 (r + 1) q = nI (s.2.1 q) ∧ μ.1 (r + 2) q = nI (s.2.2.1 q) ∧ μ.1 (r + 3) q = nI (s.2.2.2.1 q)) ∧ μ.1 r 4 = nI s.2.2.2.2
def XF (r : Nat) (f : fs_T) (μ : mm_M) : Prop := XS r f.1 μ ∧ μ.1 r 5 = f.2.1 ∧ μ.1 r 6 = nI f.2.2.1 ∧ μ.1 r 7 = nI (tBits f.2.2.2.1 f.2.2.2.2 1 f.2.2.1) ∧ μ.1 r 8 = nI (tBits f.2.2.2.1 f.2.2.2.2 0 f.2.2.1)
def MS (s : sc_T) (μ : mm_M) : Prop := μ.1 21 8 = nI s.1 ∧ (∀ q, q < s.1 → μ.1 25 (3 * q) = nI (s.2.1 q) ∧ μ.1 25 (3 * q + 1) = nI (s.2.2.1 q) ∧ μ.1 25 (3 * q + 2) = nI (s.2.2.2.1 q)) ∧ μ.1 21 3 = nI s.2.2.2.2
theorem XD_fr {d : dm_T} {μ μ' : mm_M} (h : XD d μ) (h3 : μ'.1 3 = μ.1 3) (h4 : μ'.1 4 = μ.1 4) : XD d μ' := by
  intro j hj; rw [h3, h4]; exact h j hj
theorem MD_fr {d : dm_T} {μ μ' : mm_M} (h : MD d μ) (h3 : μ'.1 23 = μ.1 23) (h4 : μ'.1 24 = μ.1 24) : MD d μ' := by
  intro j hj; rw [h3, h4]; exact h j hj
theorem XS_fr {r : Nat} {s : sc_T} {μ μ' : mm_M} (h : XS r s μ) (h0 : μ'.1 r = μ.1 r) (h1 : μ'.1 (r + 1) = μ.1 (r + 1)) (h2 : μ'.1 (r + 2) = μ.1 (r + 2)) (h3 : μ'.1 (r + 3) = μ.1 (r + 3)) : XS r s μ' := by
  refine ⟨by rw [h0]; exact h.1, fun q hq => ?_, by rw [h0]; exact h.2.2⟩
  rw [h1, h2, h3]; exact h.2.1 q hq
theorem XF_fr {r : Nat} {f : fs_T} {μ μ' : mm_M} (h : XF r f μ) (h0 : μ'.1 r = μ.1 r) (h1 : μ'.1 (r + 1) = μ.1 (r + 1)) (h2 : μ'.1 (r + 2) = μ.1 (r + 2)) (h3 : μ'.1 (r + 3) = μ.1 (r + 3)) : XF r f μ' :=
  ⟨XS_fr h.1 h0 h1 h2 h3, by rw [h0]; exact h.2.1, by rw [h0]; exact h.2.2.1, by rw [h0]; exact h.2.2.2.1, by rw [h0]; exact h.2.2.2.2⟩
theorem MS_fr {s : sc_T} {μ μ' : mm_M} (h : MS s μ) (h0 : μ'.1 21 8 = μ.1 21 8) (h1 : μ'.1 21 3 = μ.1 21 3) (h2 : μ'.1 25 = μ.1 25) : MS s μ' :=
  ⟨by rw [h0]; exact h.1, fun q hq => by rw [h2]; exact h.2.1 q hq, by rw [h1]; exact h.2.2⟩
/-! small static methods -/
theorem r_hasBit {Q : mm_R} {μ : mm_M} {b a : Int32} (h q : Nat) (hb : b = nI h) (ha : a = nI q) (hh : h < 2 ^ 31) (hq : q < 32) (h1 : h.testBit q = true → Q (some (.int 1)) μ) (h0 : h.testBit q = false → Q (some (.int 0)) μ) : mm_Runs m_X4_hasBit Q 0 [.int b, .int a] [] μ := by
  subst hb; subst ha
  intro J hJ hF
  refine hJ 60 _ _ _ _ ?_
  refine And.intro (fun c1 => ?_) (fun c1 => ?_)
  · rw [ar_bit1 hh hq] at c1
    refine hJ 60 _ _ _ _ ?_
    exact And.intro (Or.inl rfl) (h0 (by simpa using c1))
  · rw [ar_bit1 hh hq] at c1
    refine hJ 60 _ _ _ _ ?_
    refine hJ 60 _ _ _ _ ?_
    exact And.intro (Or.inr rfl) (h1 c1)
theorem r_in {Q : mm_R} {μ : mm_M} {v lo hi : Int64} (h1 : lo ≤ v ∧ v ≤ hi → Q (some (.int 1)) μ) (h0 : ¬ (lo ≤ v ∧ v ≤ hi) → Q (some (.int 0)) μ) : mm_Runs m_X5_in Q 0 [.long v, .null, .long lo, .null, .long hi, .null] [] μ := by
  intro J hJ hF
  refine hJ 60 _ _ _ _ ?_
  refine And.intro (fun c1 => ?_) (fun c1 => ?_)
  · refine hJ 60 _ _ _ _ ?_
    refine And.intro (Or.inl rfl) (h0 ?_)
    rw [lg_cmp_lt, Int64.lt_iff_toInt_lt] at c1
    rw [Int64.le_iff_toInt_le]
    omega
  · rw [lg_cmp_lt, Int64.lt_iff_toInt_lt] at c1
    refine hJ 60 _ _ _ _ ?_
    refine And.intro (fun c2 => ?_) (fun c2 => ?_)
    · refine hJ 60 _ _ _ _ ?_
      refine And.intro (Or.inl rfl) (h0 ?_)
      rw [lg_cmp_gt, Int64.lt_iff_toInt_lt] at c2
      rw [Int64.le_iff_toInt_le, Int64.le_iff_toInt_le]
      omega
    · rw [lg_cmp_gt, Int64.lt_iff_toInt_lt] at c2
      refine hJ 60 _ _ _ _ ?_
      refine hJ 60 _ _ _ _ ?_
      refine And.intro (Or.inr rfl) (h1 ?_)
      rw [Int64.le_iff_toInt_le, Int64.le_iff_toInt_le]
      omega
theorem r_isKind {Q : mm_R} {μ : mm_M} {a : Int32} (h1 : pIs 5 a → Q (some (.int 1)) μ) (h0 : ¬ pIs 5 a → Q (some (.int 0)) μ) : mm_Runs m_X4_isKind Q 0 [.int a] [] μ := by
  have e := pIs_iff (n := 5) (a := a) (by omega)
  rw [ar_le, ar_lt, show (nI 5).toInt = 5 from rfl, show (0 : Int32).toInt = 0 from rfl] at e
  intro J hJ hF
  refine hJ 60 _ _ _ _ ?_
  refine And.intro (fun c1 => ?_) (fun c1 => ?_)
  · rw [ar_lt, show (0 : Int32).toInt = 0 from rfl] at c1
    refine hJ 60 _ _ _ _ ?_
    exact And.intro (Or.inl rfl) (h0 (by rw [e]; omega))
  · rw [ar_lt, show (0 : Int32).toInt = 0 from rfl] at c1
    refine hJ 60 _ _ _ _ ?_
    refine And.intro (fun c2 => ?_) (fun c2 => ?_)
    · rw [ar_lt, show (4 : Int32).toInt = 4 from rfl] at c2
      refine hJ 60 _ _ _ _ ?_
      exact And.intro (Or.inl rfl) (h0 (by rw [e]; omega))
    · rw [ar_lt, show (4 : Int32).toInt = 4 from rfl] at c2
      refine hJ 60 _ _ _ _ ?_
      refine hJ 60 _ _ _ _ ?_
      exact And.intro (Or.inr rfl) (h1 (by rw [e]; omega))
