/-! who hears, how soon: the mathematics -/
/-- how much later b hears what a says; 9999: he doesn't -/
def eW (d : dm_T) (s : sc_T) (a b : Nat) : Nat := if s.2.1 b = 1 then 9999 else if s.2.2.1 a = s.2.2.1 b then 0 else if d.1 (s.2.2.1 a) = s.2.2.1 b ∧ (s.2.2.2.2.testBit (s.2.2.1 b) = false ∨ s.2.1 a = 4) then d.2 (s.2.2.1 a) else 9999
def spk (s : sc_T) (o a : Nat) : Prop := a = o ∨ s.2.1 a = 2 ∨ s.2.1 a = 4
def Pt (d : dm_T) (s : sc_T) (o : Nat) : Nat → Nat → Nat → Prop
  | 0, b, v => b = o ∧ v = 0
  | m + 1, b, v => ∃ a u, Pt d s o m a u ∧ a < s.1 ∧ b < s.1 ∧ spk s o a ∧ eW d s a b < 9999 ∧ v = u + eW d s a b
def HR (d : dm_T) (s : sc_T) (o : Nat) (D : Nat → Nat) : Prop :=
  (∀ b, b < s.1 → D b ≤ 9999) ∧ D o = 0 ∧ (∀ a b, a < s.1 → b < s.1 → D a < 9999 → spk s o a → eW d s a b < 9999 → D b ≤ D a + eW d s a b) ∧ ∀ b, b < s.1 → D b < 9999 → ∃ m, Pt d s o m b (D b)
theorem HR_le {d : dm_T} {s : sc_T} {o : Nat} {D : Nat → Nat} (ho : o < s.1) (h : HR d s o D) : ∀ m b v, Pt d s o m b v → D b ≤ v := by
  intro m
  induction m with
  | zero =>
    intro b v hp
    obtain ⟨rfl, rfl⟩ := hp
    rw [h.2.1]; exact Nat.le_refl _
  | succ m ih =>
    rintro b v ⟨a, u, h1, h2, h3, h4, h5, rfl⟩
    have hu := ih a u h1
    by_cases hd : D a < 9999
    · have := h.2.2.1 a b h2 h3 hd h4 h5
      omega
    · have := h.1 b h3
      omega
theorem HR_one {d : dm_T} {s : sc_T} {o : Nat} {D E : Nat → Nat} (ho : o < s.1) (h : HR d s o D) (g : HR d s o E) : ∀ b, b < s.1 → D b = E b := by
  intro b hb
  have h1 := h.1 b hb
  have g1 := g.1 b hb
  by_cases hd : D b < 9999
  · obtain ⟨m, hm⟩ := h.2.2.2 b hb hd
    have h2 := HR_le ho g m b _ hm
    obtain ⟨m2, hm2⟩ := g.2.2.2 b hb (by omega)
    have h3 := HR_le ho h m2 b _ hm2
    omega
  · by_cases he : E b < 9999
    · obtain ⟨m2, hm2⟩ := g.2.2.2 b hb he
      have h3 := HR_le ho h m2 b _ hm2
      omega
    · omega
/-- behind how many minutes b hears what o says; 9999: never -/
noncomputable def hT (d : dm_T) (s : sc_T) (o b : Nat) : Nat := if s.2.1 o = 3 then 9999 else Classical.epsilon (HR d s o) b
theorem hT_of {d : dm_T} {s : sc_T} {o : Nat} {D : Nat → Nat} (ho : o < s.1) (hk : s.2.1 o ≠ 3) (h : HR d s o D) : ∀ b, b < s.1 → hT d s o b = D b := by
  intro b hb
  unfold hT
  rw [if_neg hk]
  have := Classical.epsilon_spec (p := HR d s o) ⟨D, h⟩
  exact HR_one ho this h b hb
theorem hT_mute {d : dm_T} {s : sc_T} {o b : Nat} (hk : s.2.1 o = 3) : hT d s o b = 9999 := by unfold hT; rw [if_pos hk]
/-- bits of those below n -/
def mk (P : Nat → Bool) : Nat → Nat
  | 0 => 0
  | q + 1 => if P q then mk P q ||| 2 ^ q else mk P q
theorem mk_lt (P : Nat → Bool) : ∀ n, mk P n < 2 ^ n
  | 0 => by simp [mk]
  | n + 1 => by
    have ih := mk_lt P n
    have e : 2 ^ (n + 1) = 2 ^ n * 2 := Nat.pow_succ 2 n
    unfold mk
    split
    · exact Nat.or_lt_two_pow (by omega) (by omega)
    · omega
theorem mk_bit (P : Nat → Bool) : ∀ n b, (mk P n).testBit b = (decide (b < n) && P b)
  | 0, b => by simp [mk]
  | n + 1, b => by
    have ih := mk_bit P n b
    unfold mk
    by_cases h : P n = true
    · rw [if_pos h, Nat.testBit_or, ih, Nat.testBit_two_pow]
      by_cases e : n = b
      · subst e; simp [h]
      · have : decide (b < n + 1) = decide (b < n) := by
          apply decide_eq_decide.mpr; omega
        rw [this]; simp [e]
    · rw [if_neg h, ih]
      by_cases e : b = n
      · subst e; simp [h]
      · have : decide (b < n + 1) = decide (b < n) := by
          apply decide_eq_decide.mpr; omega
        rw [this]
theorem mk_cong {P R : Nat → Bool} : ∀ {n : Nat}, (∀ q, q < n → P q = R q) → mk P n = mk R n
  | 0, _ => rfl
  | n + 1, h => by
    unfold mk
    rw [mk_cong (fun q hq => h q (by omega)), h n (by omega)]
theorem mk_of {P : Nat → Bool} {n x : Nat} (h : ∀ b, x.testBit b = (decide (b < n) && P b)) : x = mk P n := by
  apply Nat.eq_of_testBit_eq
  intro i
  rw [h i, mk_bit]
theorem mk_lt31 (P : Nat → Bool) {n : Nat} (h : n ≤ 30) : mk P n < 2 ^ 31 := Nat.lt_of_lt_of_le (mk_lt P n) (Nat.pow_le_pow_right (by omega) (by omega))
theorem mk_0 {P : Nat → Bool} {n : Nat} : mk P n = 0 ↔ ∀ q, q < n → P q = false := by
  constructor
  · intro h q hq
    have := mk_bit P n q
    rw [h] at this
    simpa [hq] using this.symm
  · intro h
    apply Nat.eq_of_testBit_eq
    intro i
    rw [mk_bit]
    by_cases e : i < n
    · simp [h i e]
    · simp [e]
noncomputable def hP (d : dm_T) (s : sc_T) (o : Nat) : Nat → Bool := fun b => decide (hT d s o b < 9999)
/-- who hears what o says, as bits -/
noncomputable def hM (d : dm_T) (s : sc_T) (o : Nat) : Nat := mk (hP d s o) s.1
/-- counting -/
def ct (p : Nat → Bool) : Nat → Nat
  | 0 => 0
  | n + 1 => ct p n + (if p n then 1 else 0)
theorem ct_le (p : Nat → Bool) : ∀ n, ct p n ≤ n
  | 0 => Nat.le_refl _
  | n + 1 => by
    have h := ct_le p n
    unfold ct
    split <;> omega
theorem ct_cong {p q : Nat → Bool} : ∀ {n : Nat}, (∀ k, k < n → p k = q k) → ct p n = ct q n
  | 0, _ => rfl
  | n + 1, h => by rw [ct, ct, ct_cong (fun k hk => h k (by omega)), h n (by omega)]
theorem ct_up (p : Nat → Bool) {i : Nat} (hp : p i = false) : ∀ {n : Nat}, i < n → ct (fun k => if k = i then true else p k) n = ct p n + 1
  | 0, h => absurd h (Nat.not_lt_zero i)
  | n + 1, h => by
    rw [ct, ct]
    by_cases e : n = i
    · subst e
      have : ct (fun k => if k = n then true else p k) n = ct p n := ct_cong (fun k hk => if_neg (by omega))
      rw [this]
      simp [hp]
    · rw [ct_up p hp (n := n) (by omega)]
      simp only [if_neg e]
      omega
theorem ct_all {p : Nat → Bool} : ∀ {n : Nat}, ct p n = n → ∀ k, k < n → p k = true
  | 0, _, k, hk => absurd hk (Nat.not_lt_zero k)
  | n + 1, h, k, hk => by
    have h1 := ct_le p n
    rw [ct] at h
    by_cases hp : p n = true
    · rw [if_pos hp] at h
      by_cases e : k = n
      · subst e; exact hp
      · exact ct_all (n := n) (by omega) k (by omega)
    · rw [if_neg hp] at h
      omega
/-- the order in which it spreads: D so far, who waits (wt), who has said it (P) -/
def DJ (d : dm_T) (s : sc_T) (o : Nat) (D : Nat → Nat) (wt : Nat) (P : Nat → Bool) : Prop :=
  (∀ b, b < s.1 → D b ≤ 9999) ∧ D o = 0 ∧ (∀ b, b < s.1 → D b < 9999 → ∃ m, Pt d s o m b (D b)) ∧
  (∀ a b, a < s.1 → b < s.1 → P a = true → eW d s a b < 9999 → D b ≤ D a + eW d s a b) ∧
  (∀ a, wt.testBit a = true → a < s.1 ∧ D a < 9999 ∧ P a = false ∧ spk s o a) ∧
  (∀ a b, a < s.1 → P a = true → wt.testBit b = true → D a ≤ D b) ∧
  (∀ a, a < s.1 → P a = true → D a < 9999) ∧
  (∀ a, a < s.1 → D a < 9999 → spk s o a → P a = true ∨ wt.testBit a = true)
/-- what a saying of a makes of D and of who waits -/
def uD (d : dm_T) (s : sc_T) (D : Nat → Nat) (a b : Nat) : Nat := if eW d s a b < 9999 ∧ D a + eW d s a b < D b then D a + eW d s a b else D b
def gos (s : sc_T) (b : Nat) : Prop := s.2.1 b = 2 ∨ s.2.1 b = 4
theorem DJ_0 {d : dm_T} {s : sc_T} {o : Nat} (ho : o < s.1) : DJ d s o (fun b => if b = o then 0 else 9999) (2 ^ o) (fun _ => false) := by
  refine ⟨fun b hb => ?_, if_pos rfl, fun b hb h => ?_, fun a b _ _ h => absurd h (by simp), fun a h => ?_, fun a b _ h => absurd h (by simp), fun a _ h => absurd h (by simp), fun a ha h1 h2 => ?_⟩
  · simp only; split <;> omega
  · by_cases e : b = o
    · exact ⟨0, e, by simp [e]⟩
    · simp [e] at h
  · rw [Nat.testBit_two_pow, decide_eq_true_eq] at h
    subst h
    exact ⟨ho, by simp, rfl, Or.inl rfl⟩
  · by_cases e : a = o
    · right; rw [Nat.testBit_two_pow]; simp [e]
    · simp [e] at h1
theorem DJ_end {d : dm_T} {s : sc_T} {o : Nat} {D : Nat → Nat} {P : Nat → Bool} (h : DJ d s o D 0 P) : HR d s o D := by
  obtain ⟨h1, h2, h3, h4, h5, h6, h7, h8⟩ := h
  refine ⟨h1, h2, fun a b ha hb hd hs he => ?_, h3⟩
  rcases h8 a ha hd hs with q | q
  · exact h4 a b ha hb q he
  · simp at q
theorem DJ_step {d : dm_T} {s : sc_T} {o a wt wt' : Nat} {D D' : Nat → Nat} {P : Nat → Bool} (h : DJ d s o D wt P) (ha : wt.testBit a = true) (hm : ∀ b, wt.testBit b = true → D a ≤ D b)
    (hD : ∀ b, b < s.1 → D' b = uD d s D a b) (hw : ∀ b, wt'.testBit b = true ↔ (wt.testBit b = true ∧ b ≠ a) ∨ (b < s.1 ∧ D' b < D b ∧ gos s b)) : DJ d s o D' wt' (fun b => if b = a then true else P b) := by
  obtain ⟨h1, h2, h3, h4, h5, h6, h7, h8⟩ := h
  obtain ⟨a1, a2, a3, a4⟩ := h5 a ha
  have le : ∀ b, b < s.1 → D' b ≤ D b := fun b hb => by rw [hD b hb]; unfold uD; split <;> omega
  have ge : ∀ b, b < s.1 → D' b < D b → D' b = D a + eW d s a b ∧ eW d s a b < 9999 := fun b hb q => by
    rw [hD b hb] at q ⊢; unfold uD at q ⊢; split at q
    · rename_i z; rw [if_pos z]; exact ⟨rfl, z.1⟩
    · omega
  have gea : ∀ b, b < s.1 → D' b < D b → D a ≤ D' b := fun b hb q => by rw [(ge b hb q).1]; omega
  have low : ∀ b, b < s.1 → D b ≤ D a → D' b = D b := fun b hb q => by
    have := le b hb
    rcases Nat.lt_or_ge (D' b) (D b) with z | z
    · have := gea b hb z; omega
    · omega
  have sam : ∀ b, b < s.1 → P b = true → D' b = D b := fun b hb q => low b hb (h6 b a hb q ha)
  have saa : D' a = D a := low a a1 (Nat.le_refl _)
  have ho : o < s.1 ∨ D' o = 0 := by
    rcases Nat.lt_or_ge o s.1 with z | z
    · exact Or.inl z
    · exfalso
      rcases h3 a a1 a2 with ⟨m, hm⟩
      have : ∀ m b v, Pt d s o m b v → ∃ w, o < s.1 ∨ (b = o ∧ w = v) := by
        intro m
        induction m with
        | zero => intro b v q; exact ⟨v, Or.inr ⟨q.1, rfl⟩⟩
        | succ m ih =>
          rintro b v ⟨x, u, q1, q2, q3, q4, q5, q6⟩
          obtain ⟨w, q7 | q7⟩ := ih x u q1
          · exact ⟨w, Or.inl q7⟩
          · rw [q7.1] at q2; omega
      obtain ⟨w, q | q⟩ := this m a _ hm
      · omega
      · rw [q.1] at a1; omega
  have oz : D' o = 0 := by
    rcases ho with z | z
    · have := le o z; omega
    · exact z
  refine ⟨fun b hb => ?_, oz, fun b hb q => ?_, fun x b hx hb q e => ?_, fun x q => ?_, fun x b hx q1 q2 => ?_, fun x hx q => ?_, fun x hx q1 q2 => ?_⟩
  · have := le b hb; have := h1 b hb; omega
  · rcases Nat.lt_or_ge (D' b) (D b) with z | z
    · obtain ⟨e1, e2⟩ := ge b hb z
      obtain ⟨m, hm⟩ := h3 a a1 a2
      exact ⟨m + 1, a, D a, hm, a1, hb, a4, e2, e1⟩
    · have e := le b hb
      have e2 : D' b = D b := by omega
      rw [e2] at q ⊢
      exact h3 b hb q
  · simp only at q
    by_cases ex : x = a
    · subst ex
      rw [saa, hD b hb]; unfold uD; split
      · omega
      · rename_i z; rcases Nat.lt_or_ge (D x + eW d s x b) (D b) with y | y
        · exact absurd ⟨e, y⟩ z
        · exact y
    · rw [if_neg ex] at q
      rw [sam x hx q]
      have := le b hb
      have := h4 x b hx hb q e
      omega
  · rcases (hw x).mp q with ⟨q1, q2⟩ | ⟨q1, q2, q3⟩
    · obtain ⟨b1, b2, b3, b4⟩ := h5 x q1
      have := le x b1
      exact ⟨b1, by omega, by simp only; rw [if_neg q2]; exact b3, b4⟩
    · have hne : x ≠ a := fun e => by subst e; omega
      have hPx : P x = false := by
        cases hq : P x with
        | false => rfl
        | true => have := sam x q1 hq; omega
      have := h1 x q1
      refine ⟨q1, by omega, by simp only; rw [if_neg hne]; exact hPx, Or.inr q3⟩
  · simp only at q1
    have hb : b < s.1 := by
      rcases (hw b).mp q2 with ⟨z, -⟩ | ⟨z, -⟩
      · exact (h5 b z).1
      · exact z
    have hab : D a ≤ D' b := by
      rcases Nat.lt_or_ge (D' b) (D b) with z | z
      · exact gea b hb z
      · have := le b hb
        rcases (hw b).mp q2 with ⟨y, -⟩ | ⟨-, y, -⟩
        · have := hm b y; omega
        · omega
    by_cases ex : x = a
    · subst ex; rw [saa]; exact hab
    · rw [if_neg ex] at q1
      rw [sam x hx q1]
      have := h6 x a hx q1 ha
      omega
  · simp only at q
    by_cases ex : x = a
    · subst ex; rw [saa]; exact a2
    · rw [if_neg ex] at q
      rw [sam x hx q]; exact h7 x hx q
  · simp only
    by_cases ex : x = a
    · left; rw [if_pos ex]
    · rw [if_neg ex]
      rcases Nat.lt_or_ge (D' x) (D x) with z | z
      · have hxo : x ≠ o := fun e => by rw [e] at z; omega
        right
        exact (hw x).mpr (Or.inr ⟨hx, z, q2.resolve_left hxo⟩)
      · have := le x hx
        rcases h8 x hx (by omega) q2 with y | y
        · exact Or.inl y
        · exact Or.inr ((hw x).mpr (Or.inl ⟨y, ex⟩))
