/-! The mini machine: memory is a pair of functions, cells have the fixed numbers 0..30, an instruction is a predicate transformer -/
abbrev mm_M : Type := (Nat → Nat → Int32) × (Nat → Int64)
abbrev mm_J : Type := Nat → List Value → List Value → mm_M → Prop
abbrev mm_R : Type := Option Value → mm_M → Prop
abbrev mm_T : Type := List Value → List Value → mm_M → mm_J → mm_J → mm_R → Prop
def mm_c (σ : Nat → Nat) : Value → Value
  | .ref r => .ref (σ r)
  | .int x => .int x
  | .long x => .long x
  | v => v
/-- place n of a list, or d -/
def mm_nth {α : Type} : List α → Nat → α → α
  | [], _, d => d
  | x :: _, 0, _ => x
  | _ :: xs, n + 1, d => mm_nth xs n d
/-- the shape of each cell: the length of an array; or the class number and the kinds of the fields (0 int, 1 long, 2 boolean, n + 3 the cell n) -/
def mm_shp : List (Option Nat × Nat × List Nat) := [
  (none, 4, [4, 0, 5, 8, 12, 16, 20, 22, 23, 2, 0, 0]),
  (some 20, 99, []),
  (none, 2, [6, 7]), (some 8, 99, []), (some 8, 99, []),
  (none, 3, [0, 9, 10, 11, 0, 0, 0, 0, 0]), (some 6, 99, []), (some 6, 99, []), (some 6, 99, []),
  (none, 3, [0, 13, 14, 15, 0, 0, 0, 0, 0]), (some 6, 99, []), (some 6, 99, []), (some 6, 99, []),
  (none, 3, [0, 17, 18, 19, 0, 0, 0, 0, 0]), (some 6, 99, []), (some 6, 99, []), (some 6, 99, []),
  (none, 1, [21, 0, 0]), (some 6, 99, []),
  (none, 0, [1]),
  (some 6, 99, []),
  (none, 5, [25, 0, 2, 0, 0, 0, 26, 27, 0, 28, 29, 0, 0, 30, 0, 31, 0, 0, 0, 0, 0, 32, 33, 1]),
  (some 20, 99, []), (some 8, 99, []), (some 8, 99, []), (some 18, 99, []), (some 6, 99, []), (some 16, 99, []), (some 18, 99, []), (some 18, 99, []), (some 16, 99, [])]
def mm_sh (r : Nat) : Option Nat × Nat × List Nat := mm_nth mm_shp r (none, 98, [])
def mm_fv (σ : Nat → Nat) (μ : mm_M) (r k : Nat) (kd : Nat) : Value := match kd with
  | 0 => .int (μ.1 r k)
  | 1 => .long (μ.2 r)
  | 2 => .int (μ.1 r k)
  | n + 3 => .ref (σ n)
def mm_fs (σ : Nat → Nat) (μ : mm_M) (r : Nat) : Nat → List Nat → List Value
  | _, [] => []
  | k, kd :: l => mm_fv σ μ r k kd :: mm_fs σ μ r (k + 1) l
def mm_e (σ : Nat → Nat) (cI : ClassId) (μ : mm_M) (r : Nat) : va_E := match (mm_sh r).1 with
  | some n => .inl (cI, n, .inl (μ.1 r))
  | none => .inr ((mm_sh r).2.1, mm_fs σ μ r 0 (mm_sh r).2.2)
def mm_w (σ : Nat → Nat) (cI : ClassId) (μ : mm_M) : va_W := (List.range 31).map (fun r => (σ r, mm_e σ cI μ r))
def mm_inj (σ : Nat → Nat) : Prop := ∀ i j, i < 31 → j < 31 → σ i = σ j → i = j
def mm_A (σ : Nat → Nat) : Nat → Prop := fun q => ∃ r, r < 31 ∧ q = σ r
def mm_put (μ : mm_M) (r k : Nat) (v : Int32) : mm_M := (va_up μ.1 r (upd (μ.1 r) k v), μ.2)
def mm_putl (μ : mm_M) (r : Nat) (v : Int64) : mm_M := (μ.1, va_up μ.2 r v)
theorem mm_w_get {σ : Nat → Nat} {cI : ClassId} {μ : mm_M} {r : Nat} (h : r < 31) : (mm_w σ cI μ)[r]? = some (σ r, mm_e σ cI μ r) := by
  simp [mm_w, List.getElem?_map, List.getElem?_range h]
theorem mm_w_D {σ : Nat → Nat} {cI : ClassId} {μ : mm_M} (hi : mm_inj σ) : va_D (mm_A σ) (mm_w σ cI μ) := by
  have key : ∀ (k : Nat) (q : Nat × va_E), (mm_w σ cI μ)[k]? = some q → k < 31 ∧ q.1 = σ k := by
    intro k q hk
    have hl : k < (mm_w σ cI μ).length := (List.getElem?_eq_some_iff.mp hk).1
    have hl2 : k < 31 := by simpa [mm_w] using hl
    rw [mm_w_get hl2] at hk
    cases hk
    exact ⟨hl2, rfl⟩
  refine ⟨fun i j p q h1 h2 h3 => ?_, fun k q hk => ?_⟩
  · obtain ⟨a1, a2⟩ := key i p h1
    obtain ⟨b1, b2⟩ := key j q h2
    exact hi i j a1 b1 (a2.symm.trans (h3.trans b2))
  · obtain ⟨a1, a2⟩ := key k q hk
    exact ⟨k, a1, a2⟩
theorem mm_w_set {σ : Nat → Nat} {cI : ClassId} {μ μ' : mm_M} {r : Nat} (h : ∀ i, i ≠ r → mm_e σ cI μ' i = mm_e σ cI μ i) : (mm_w σ cI μ).set r (σ r, mm_e σ cI μ' r) = mm_w σ cI μ' := by
  apply List.ext_getElem?
  intro i
  by_cases hi : i < 31
  · by_cases hr : i = r
    · subst hr
      rw [List.getElem?_set_self (by simpa [mm_w] using hi), mm_w_get hi]
    · rw [List.getElem?_set_ne (Ne.symm hr), mm_w_get hi, mm_w_get hi, h i hr]
  · rw [List.getElem?_eq_none (by simpa [mm_w] using hi), List.getElem?_eq_none (by simpa [mm_w] using hi)]
theorem mm_e_put {σ : Nat → Nat} {cI : ClassId} {μ : mm_M} {r k : Nat} {v : Int32} (i : Nat) (hi : i ≠ r) : mm_e σ cI (mm_put μ r k v) i = mm_e σ cI μ i := by
  have h1 : (mm_put μ r k v).1 i = μ.1 i := by simp [mm_put, va_up, hi]
  have h2 : (mm_put μ r k v).2 = μ.2 := rfl
  have h3 : ∀ (l : List Nat) (j : Nat), mm_fs σ (mm_put μ r k v) i j l = mm_fs σ μ i j l := by
    intro l
    induction l with
    | nil => intro j; rfl
    | cons a l ih =>
      intro j
      have h4 : mm_fv σ (mm_put μ r k v) i j a = mm_fv σ μ i j a := by
        unfold mm_fv
        rw [h1, h2]
      simp only [mm_fs, ih, h4]
  unfold mm_e
  rw [h1, h3]
theorem mm_e_putl {σ : Nat → Nat} {cI : ClassId} {μ : mm_M} {r : Nat} {v : Int64} (i : Nat) (hi : i ≠ r) : mm_e σ cI (mm_putl μ r v) i = mm_e σ cI μ i := by
  have h2 : (mm_putl μ r v).2 i = μ.2 i := by simp [mm_putl, va_up, hi]
  have h1 : (mm_putl μ r v).1 = μ.1 := rfl
  have h3 : ∀ (l : List Nat) (j : Nat), mm_fs σ (mm_putl μ r v) i j l = mm_fs σ μ i j l := by
    intro l
    induction l with
    | nil => intro j; rfl
    | cons a l ih =>
      intro j
      have h4 : mm_fv σ (mm_putl μ r v) i j a = mm_fv σ μ i j a := by
        unfold mm_fv
        rw [h1, h2]
      simp only [mm_fs, ih, h4]
  unfold mm_e
  rw [h1, h3]
theorem mm_fs_get {σ : Nat → Nat} {μ : mm_M} {r : Nat} : ∀ (l : List Nat) (j k : Nat), k < l.length → (mm_fs σ μ r j l)[k]? = some (mm_fv σ μ r (j + k) (mm_nth l k 98))
  | [], _, _, h => absurd h (Nat.not_lt_zero _)
  | a :: l, j, 0, _ => rfl
  | a :: l, j, k + 1, h => by
    have ih := mm_fs_get (σ := σ) (μ := μ) (r := r) l (j + 1) k (by simpa using h)
    simp only [mm_fs, List.getElem?_cons_succ, mm_nth]
    rw [ih]
    have e : j + 1 + k = j + (k + 1) := by omega
    rw [e]
theorem mm_fs_len {σ : Nat → Nat} {μ : mm_M} {r : Nat} : ∀ (l : List Nat) (j : Nat), (mm_fs σ μ r j l).length = l.length
  | [], _ => rfl
  | a :: l, j => by simp only [mm_fs, List.length_cons, mm_fs_len l (j + 1)]
/-- a field is set -/
theorem mm_fs_set {σ : Nat → Nat} {μ μ' : mm_M} {r : Nat} {v : Value} {p : Nat} (hv : ∀ kd, mm_fv σ μ' r p kd = v ∨ mm_fv σ μ' r p kd = mm_fv σ μ r p kd) (ho : ∀ k kd, k ≠ p → mm_fv σ μ' r k kd = mm_fv σ μ r k kd ∨ kd = 1) : ∀ (l : List Nat) (j k : Nat), j + k = p → k < l.length → mm_fv σ μ' r p (mm_nth l k 98) = v → (∀ i, i ≠ k → mm_nth l i 98 ≠ 1) → (mm_fs σ μ r j l).set k v = mm_fs σ μ' r j l
  | [], _, _, _, h, _, _ => absurd h (Nat.not_lt_zero _)
  | a :: l, j, 0, hj, _, hk, hn => by
    have e : j = p := by omega
    subst e
    simp only [mm_nth] at hk
    simp only [mm_fs, List.set_cons_zero, hk]
    congr 1
    have : ∀ (l : List Nat) (i : Nat), j < i → (∀ q, mm_nth l q 98 ≠ 1) → mm_fs σ μ r i l = mm_fs σ μ' r i l := by
      intro l
      induction l with
      | nil => intro i _ _; rfl
      | cons b l ih =>
        intro i hi hq
        have h0 := hq 0
        simp only [mm_nth] at h0
        have h1 := (ho i b (by omega)).resolve_right h0
        simp only [mm_fs, h1, ih (i + 1) (by omega) (fun q => by have := hq (q + 1); simpa [mm_nth] using this)]
    exact this l (j + 1) (by omega) (fun q => by have := hn (q + 1) (by omega); simpa [mm_nth] using this)
  | a :: l, j, k + 1, hj, hl, hk, hn => by
    have ih := mm_fs_set (σ := σ) (μ := μ) (μ' := μ') (r := r) (v := v) (p := p) hv ho l (j + 1) k (by omega) (by simpa using hl) (by simpa [mm_nth] using hk) (fun i hi => by have := hn (i + 1) (by omega); simpa [mm_nth] using this)
    have h0 := hn 0 (by omega)
    simp only [mm_nth] at h0
    have h1 := (ho j a (by omega)).resolve_right h0
    simp only [mm_fs, List.set_cons_succ, ih, h1]
/-! the words -/
def mm_big : List Cond := lw_tbl.filter goodWord
def mm_nest : List Cond := [.methodLinkNest RX2 27 yX4_hasBit RX4, .methodLinkNest RX1 44 yX4_hasBit RX4, .methodLinkNest RX1 66 yX4_isOfKind RX4, .methodLinkNest RX3 43 yX4_hasBit RX4]
theorem mm_inb {w : Cond} (h : w ∈ lw_tbl) (hg : goodWord w = true) : w ∈ mm_big := List.mem_filter.mpr ⟨h, hg⟩
theorem mm_good {w : Cond} (h : w ∈ mm_big) : w ∈ mm_big ∧ ((w.onTables && w.keeps) = true ∨ ∃ ty, w = .arrayClass ty) := ⟨h, good_of_word (List.mem_filter.mp h).2⟩
/-! locals -/
def mm_st : List Value → Nat → Value → (List Value → Prop) → Prop
  | [], _, _, _ => False
  | _ :: xs, 0, v, k => k (v :: xs)
  | x :: xs, n + 1, v, k => mm_st xs n v (fun ys => k (x :: ys))
def mm_nl (lc : List Value) (i : Nat) : Bool := match i with
  | 0 => true
  | j + 1 => match mm_nth lc j .null with
    | .long _ => false
    | .double _ => false
    | _ => true
def mm_fg : List Nat → List Value → (List Value → Prop) → Prop
  | [], lc, k => k lc
  | i :: is, lc, k => mm_st lc i .null (fun lc' => mm_fg is lc' k)
def mm_ent : List Value → List Value
  | [] => []
  | v :: vs => bif Nat.beq v.category 2 then v :: .null :: mm_ent vs else v :: mm_ent vs
def mm_pad : Nat → List Value → List Value
  | 0, l => l
  | n + 1, [] => .null :: mm_pad n []
  | n + 1, v :: vs => v :: mm_pad n vs
def mm_tk : Nat → List Value → List Value → (List Value → List Value → Prop) → Prop
  | 0, st, as, k => k as st
  | _ + 1, [], _, _ => False
  | n + 1, v :: st, as, k => mm_tk n st (v :: as) k
def mm_ps (v : Option Value) (rest : List Value) (k : List Value → Prop) : Prop := match v with
  | none => k rest
  | some w => k (w :: rest)
def mm_run (m : Nat → mm_T) (Q : mm_R) (J : mm_J) : Nat → mm_J
  | 0 => J
  | n + 1 => fun pc lc st μ => m pc lc st μ (mm_run m Q J n) J Q
/-- from here the method comes to its end, with Q -/
def mm_Runs (m : Nat → mm_T) (Q : mm_R) (pc : Nat) (lc st : List Value) (μ : mm_M) : Prop :=
  ∀ J : mm_J, (∀ n pc lc st μ, mm_run m Q J n pc lc st μ → J pc lc st μ) → (∀ is pc lc st μ, mm_fg is lc (fun lc' => J pc lc' st μ) → J pc lc st μ) → J pc lc st μ
def mm_look : List (Nat × mm_T) → Nat → mm_T
  | [], _ => fun _ _ _ _ _ _ => False
  | (a, T) :: l, pc => bif Nat.beq pc a then T else mm_look l pc
theorem mm_st_ok : ∀ {lc : List Value} {i : Nat} {v : Value} {k : List Value → Prop}, mm_st lc i v k → ∃ lc', k lc' ∧ lc'.length = lc.length ∧ i < lc.length ∧ lc'[i]? = some v ∧ ∀ j, j ≠ i → lc'[j]? = lc[j]?
  | [], _, _, _, h => h.elim
  | x :: xs, 0, v, k, h => ⟨v :: xs, h, rfl, Nat.succ_pos _, rfl, fun j hj => by
      cases j with
      | zero => exact absurd rfl hj
      | succ j => rfl⟩
  | x :: xs, n + 1, v, k, h => by
    obtain ⟨ys, h1, h2, h3, h4, h5⟩ := mm_st_ok (lc := xs) (i := n) h
    refine ⟨x :: ys, h1, by simp [h2], by simpa using h3, by simpa using h4, fun j hj => ?_⟩
    cases j with
    | zero => rfl
    | succ j => simpa using h5 j (by omega)
theorem mm_nth_get : ∀ {lc : List Value} {i : Nat} {v : Value}, mm_nth lc i .null = v → v ≠ .null → lc[i]? = some v
  | [], _, _, h, hn => absurd h.symm hn
  | x :: xs, 0, v, h, _ => by simpa [mm_nth] using h
  | x :: xs, n + 1, v, h, hn => by
    have := mm_nth_get (lc := xs) (i := n) (v := v) h hn
    simpa using this
theorem mm_get_nth : ∀ {lc : List Value} {i : Nat} {v : Value}, lc[i]? = some v → mm_nth lc i .null = v
  | [], _, _, h => by simp at h
  | x :: xs, 0, v, h => by simpa [mm_nth] using h
  | x :: xs, n + 1, v, h => by
    have := mm_get_nth (lc := xs) (i := n) (v := v) (by simpa using h)
    simpa [mm_nth] using this
def mm_L (σ : Nat → Nat) (ls : Array Slot) (nL : Nat) (lc : List Value) : Prop := ls.size = nL ∧ lv_wf ls ∧ lc.length = nL ∧ ∀ (i : Nat) (v : Value), lc[i]? = some v → v ≠ Value.null → ls[i]? = some (Slot.val (mm_c σ v))
def mm_al (σ : Nat → Nat) (lc : List Value) : List (Nat × Value) := (List.range lc.length).flatMap (fun i : Nat => match (lc[i]? : Option Value) with
  | some Value.null => []
  | some v => [(i, mm_c σ v)]
  | none => [])
theorem mm_al_mem {σ : Nat → Nat} {lc : List Value} {i : Nat} {v : Value} (h : lc[i]? = some v) (hn : v ≠ .null) : (i, mm_c σ v) ∈ mm_al σ lc := by
  have hl := (List.getElem?_eq_some_iff.mp h).1
  refine List.mem_flatMap.mpr ⟨i, List.mem_range.mpr hl, ?_⟩
  rw [h]
  cases v <;> first | exact absurd rfl hn | exact List.mem_singleton.mpr rfl
theorem mm_al_has {σ : Nat → Nat} {ls : Array Slot} {nL : Nat} {lc : List Value} (h : mm_L σ ls nL lc) : lv_has ls nL (mm_al σ lc) := by
  refine ⟨h.1, h.2.1, fun q hq => ?_⟩
  obtain ⟨i, hi, hq⟩ := List.mem_flatMap.mp hq
  cases he : lc[i]? with
  | none => rw [he] at hq; cases hq
  | some v =>
    rw [he] at hq
    cases v <;> first | (cases hq; done) | (have e := List.mem_singleton.mp hq; subst e; exact h.2.2.2 i _ he (fun z => by cases z))
theorem mm_c_cat (σ : Nat → Nat) (v : Value) : (mm_c σ v).category = v.category := by cases v <;> rfl
theorem mm_L_of {σ : Nat → Nat} {ls ls' : Array Slot} {nL i : Nat} {lc lc' : List Value} {v : Value} {lv : List (Nat × Value)} (h : mm_L σ ls nL lc) (h' : lv_has ls' nL ((i, mm_c σ v) :: lv)) (hlen : lc'.length = lc.length) (hi : lc'[i]? = some v) (ho : ∀ j w, j ≠ i → lc'[j]? = some w → w ≠ .null → lc[j]? = some w ∧ (j, mm_c σ w) ∈ lv) : mm_L σ ls' nL lc' := by
  refine ⟨h'.1, h'.2.1, hlen.trans h.2.2.1, fun j w hj hw => ?_⟩
  by_cases hji : j = i
  · subst hji
    have e : w = v := Option.some.inj (hj.symm.trans hi)
    subst e
    exact h'.2.2 _ List.mem_cons_self
  · exact h'.2.2 (j, mm_c σ w) (List.mem_cons_of_mem _ (ho j w hji hj hw).2)
theorem mm_nl_ok {lc : List Value} {i j : Nat} {v : Value} (h : mm_nl lc i = true) (hj : j + 1 = i) (hv : lc[j]? = some v) : v.category ≠ 2 := by
  subst hj
  have e := mm_get_nth hv
  simp only [mm_nl] at h
  rw [e] at h
  cases v <;> first | (cases h; done) | (intro z; cases z)
theorem mm_fg_ok {σ : Nat → Nat} {ls : Array Slot} {nL : Nat} : ∀ {is : List Nat} {lc : List Value} {k : List Value → Prop}, mm_L σ ls nL lc → mm_fg is lc k → ∃ lc', mm_L σ ls nL lc' ∧ k lc'
  | [], lc, k, h, hk => ⟨lc, h, hk⟩
  | i :: is, lc, k, h, hk => by
    obtain ⟨lc1, h1, h2, h3, h4, h5⟩ := mm_st_ok hk
    refine mm_fg_ok (is := is) (lc := lc1) ⟨h.1, h.2.1, h2.trans h.2.2.1, fun j w hj hw => ?_⟩ h1
    by_cases e : j = i
    · subst e
      rw [h4] at hj
      cases hj
      exact absurd rfl hw
    · rw [h5 j e] at hj
      exact h.2.2.2 j w hj hw
theorem mm_tk_ok : ∀ {n : Nat} {st acc : List Value} {k : List Value → List Value → Prop}, mm_tk n st acc k → ∃ as rest, as.length = n ∧ st = as.reverse ++ rest ∧ k (as ++ acc) rest
  | 0, st, acc, k, h => ⟨[], st, rfl, rfl, h⟩
  | n + 1, [], _, _, h => h.elim
  | n + 1, v :: st, acc, k, h => by
    obtain ⟨as, rest, h1, h2, h3⟩ := mm_tk_ok (n := n) (st := st) (acc := v :: acc) h
    refine ⟨as ++ [v], rest, by simp [h1], by simp [h2], ?_⟩
    simpa using h3
theorem mm_ent_map (σ : Nat → Nat) : ∀ (as : List Value), (lg_sl (as.map (mm_c σ))).length = (mm_ent as).length
  | [] => rfl
  | v :: vs => by
    have ih := mm_ent_map σ vs
    have e : lg_sl ((v :: vs).map (mm_c σ)) = (if (mm_c σ v).category = 2 then [Slot.val (mm_c σ v), .second] else [.val (mm_c σ v)]) ++ lg_sl (vs.map (mm_c σ)) := by
      simp only [lg_sl, List.map_cons, List.flatMap_cons]
    rw [e, mm_c_cat]
    unfold mm_ent
    by_cases hc : v.category = 2
    · rw [hc]; simp [ih]
    · have hb : Nat.beq v.category 2 = false := by
        cases hq : Nat.beq v.category 2 with
        | false => rfl
        | true => exact absurd (Nat.eq_of_beq_eq_true hq) hc
      rw [hb, if_neg hc]; simp [ih]
theorem mm_ent_args (σ : Nat → Nat) : ∀ (as : List Value) (j i : Nat) (v : Value), (mm_ent as)[i]? = some v → v ≠ .null → (j + i, mm_c σ v) ∈ lv_args j (as.map (mm_c σ))
  | [], _, _, _, h, _ => by simp [mm_ent] at h
  | w :: vs, j, i, v, h, hn => by
    have e : lv_args j ((w :: vs).map (mm_c σ)) = (j, mm_c σ w) :: lv_args (if (mm_c σ w).category = 2 then j + 2 else j + 1) (vs.map (mm_c σ)) := rfl
    rw [e, mm_c_cat]
    unfold mm_ent at h
    by_cases hc : w.category = 2
    · rw [hc] at h
      rw [if_pos hc]
      simp only [Nat.beq, cond_true] at h
      match i, h with
      | 0, h => cases h; exact List.mem_cons_self
      | 1, h => cases h; exact absurd rfl hn
      | i + 2, h =>
        have := mm_ent_args σ vs (j + 2) i v (by simpa using h) hn
        have e2 : j + 2 + i = j + (i + 2) := by omega
        rw [e2] at this
        exact List.mem_cons_of_mem _ this
    · have hb : Nat.beq w.category 2 = false := by
        cases hq : Nat.beq w.category 2 with
        | false => rfl
        | true => exact absurd (Nat.eq_of_beq_eq_true hq) hc
      rw [hb] at h
      rw [if_neg hc]
      simp only [cond_false] at h
      match i, h with
      | 0, h => cases h; exact List.mem_cons_self
      | i + 1, h =>
        have := mm_ent_args σ vs (j + 1) i v (by simpa using h) hn
        have e2 : j + 1 + i = j + (i + 1) := by omega
        rw [e2] at this
        exact List.mem_cons_of_mem _ this
theorem mm_pad_len : ∀ (n : Nat) (l : List Value), l.length ≤ n → (mm_pad n l).length = n
  | 0, l, h => by
    have : l = [] := List.eq_nil_of_length_eq_zero (by omega)
    subst this; rfl
  | n + 1, [], _ => by simp [mm_pad, mm_pad_len n [] (by simp)]
  | n + 1, v :: vs, h => by simp [mm_pad, mm_pad_len n vs (by simpa using h)]
theorem mm_pad_get : ∀ (n : Nat) (l : List Value) (i : Nat) (v : Value), (mm_pad n l)[i]? = some v → v ≠ .null → l[i]? = some v
  | 0, l, i, v, h, _ => h
  | n + 1, [], 0, v, h, hn => by cases h; exact absurd rfl hn
  | n + 1, [], i + 1, v, h, hn => by
    have := mm_pad_get n [] i v (by simpa [mm_pad] using h) hn
    simp at this
  | n + 1, w :: vs, 0, v, h, hn => h
  | n + 1, w :: vs, i + 1, v, h, hn => by
    have := mm_pad_get n vs i v (by simpa [mm_pad] using h) hn
    simpa using this
/-! soundness -/
def mm_Qc (σ : Nat → Nat) (dC : Nat → ClassId) (dI : Nat → Nat → Nat) (cI : ClassId) (Qr : mm_R) : Array Value → State → Outcome → State → Prop := fun _ st o t =>
  (∃ (v : Option Value) (μ : mm_M), o = .returned (v.map (mm_c σ)) ∧ Qr v μ ∧ va_P (dC, dI) vwCl (mm_w σ cI μ) t.heap) ∧ va_F (mm_A σ) st t
def mm_Pc (σ : Nat → Nat) (dC : Nat → ClassId) (dI : Nat → Nat → Nat) (cI : ClassId) (as : List Value) (μ : mm_M) : Array Value → State → Prop :=
  va_Pc (as.map (mm_c σ)) (fun U => va_P (dC, dI) vwCl (mm_w σ cI μ) U.heap ∧ va_K (dC, dI) vwCl [(cI, .int)] U ∧ ∀ w ∈ mm_nest, va_Nw w U)
def mm_Cx (dC : Nat → ClassId) (dI : Nat → Nat → Nat) (cI : ClassId) (own : String) (cc : ByteArray) (nL : Nat) (ret : Option FieldType) (p : Program) (s : State) (m : MethodId) (args : Array Value) (meth : Method) (c : Code) : Prop :=
  p.tables.exec = Jvm.exec ∧ c.code = cc ∧ c.maxLocals = nL ∧ meth.sig.returnType = ret ∧ meth.locks = false ∧ s.vm.findClass own = some m.cls ∧ (∀ w ∈ mm_big, w.before args s = true) ∧ va_K (dC, dI) vwCl [(cI, .int)] s ∧ ∀ w ∈ mm_nest, va_Nw w s
def mm_WJ (p : Program) (l : Launch) (e : Env) (R : Room) (s : State) (m : MethodId) (args : Array Value) (below : List Frame) (meth : Method) (c : Code) (σ : Nat → Nat) (dC : Nat → ClassId) (dI : Nat → Nat → Nat) (cI : ClassId) (nL : Nat) (cells slots : Nat) (A : Nat → Prop) (Qm : State → Prop) : mm_J := fun pc lc st μ =>
  ∀ (H : Heap) (locs : List Loc) (ls : Array Slot), va_P (dC, dI) vwCl (mm_w σ cI μ) H → va_S A s.heap H locs → mm_L σ ls nL lc → W p l e R s m args below meth c H locs cells slots Qm (F0 m pc ls (st.map (mm_c σ)))
def mm_ok (own : String) (cc : ByteArray) (nL : Nat) (ret : Option FieldType) (R : Room) (pc : Nat) (T : mm_T) : Prop :=
  ∀ (l : Launch) (σ : Nat → Nat) (dC : Nat → ClassId) (dI : Nat → Nat → Nat) (cI : ClassId), mm_inj σ → ∀ (p : Program) (e : Env) (s : State) (m : MethodId) (args : Array Value) (below : List Frame) (meth : Method) (c : Code), mm_Cx dC dI cI own cc nL ret p s m args meth c →
    ∀ (Qr : mm_R) (K : mm_J), (∀ pc lc st μ, K pc lc st μ → mm_WJ p l e R s m args below meth c σ dC dI cI nL 0 0 (mm_A σ) (MQ below (mm_Qc σ dC dI cI Qr) args s 0 0 (mm_A σ)) pc lc st μ) →
    ∀ (lc st : List Value) (μ : mm_M), T lc st μ K (mm_WJ p l e R s m args below meth c σ dC dI cI nL 0 0 (mm_A σ) (MQ below (mm_Qc σ dC dI cI Qr) args s 0 0 (mm_A σ))) Qr →
      mm_WJ p l e R s m args below meth c σ dC dI cI nL 0 0 (mm_A σ) (MQ below (mm_Qc σ dC dI cI Qr) args s 0 0 (mm_A σ)) pc lc st μ
theorem mm_look_ok {own : String} {cc : ByteArray} {nL : Nat} {ret : Option FieldType} {R : Room} : ∀ (code : List (Nat × mm_T)), (∀ q ∈ code, mm_ok own cc nL ret R q.1 q.2) → ∀ pc, mm_ok own cc nL ret R pc (mm_look code pc)
  | [], _, pc => fun _ _ _ _ _ _ _ _ _ _ _ _ _ _ _ _ _ _ _ _ _ h => h.elim
  | (a, T) :: l, h, pc => by
    have ih := mm_look_ok l (fun q hq => h q (List.mem_cons_of_mem _ hq)) pc
    unfold mm_look
    cases hb : Nat.beq pc a with
    | true =>
      have e := Nat.eq_of_beq_eq_true hb
      subst e
      exact h (pc, T) List.mem_cons_self
    | false => exact ih

section MMOPS
def o_iadd (nx : Nat) : mm_T := fun lc st μ K _ _ => match st with
  | .int y :: .int x :: s => K nx lc (.int (x + y) :: s) μ
  | _ => False
theorem ok_iadd {own : String} {cc : ByteArray} {nL : Nat} {ret : Option FieldType} {R : Room} {pc : Nat} (hd : decode cc pc = .ok (.iadd, 1)) : mm_ok own cc nL ret R pc (o_iadd (pc + 1)) := by
  intro l σ dC dI cI hi p e s m args below meth c hC Qr K hK lc st μ h H locs ls hP hS hL
  unfold o_iadd at h
  split at h
  · exact lv_iadd hC.1 hC.2.1 hd (hK _ _ _ _ h H locs ls hP hS hL)
  · exact h.elim
def o_isub (nx : Nat) : mm_T := fun lc st μ K _ _ => match st with
  | .int y :: .int x :: s => K nx lc (.int (x - y) :: s) μ
  | _ => False
theorem ok_isub {own : String} {cc : ByteArray} {nL : Nat} {ret : Option FieldType} {R : Room} {pc : Nat} (hd : decode cc pc = .ok (.isub, 1)) : mm_ok own cc nL ret R pc (o_isub (pc + 1)) := by
  intro l σ dC dI cI hi p e s m args below meth c hC Qr K hK lc st μ h H locs ls hP hS hL
  unfold o_isub at h
  split at h
  · exact lv_isub hC.1 hC.2.1 hd (hK _ _ _ _ h H locs ls hP hS hL)
  · exact h.elim
def o_imul (nx : Nat) : mm_T := fun lc st μ K _ _ => match st with
  | .int y :: .int x :: s => K nx lc (.int (x * y) :: s) μ
  | _ => False
theorem ok_imul {own : String} {cc : ByteArray} {nL : Nat} {ret : Option FieldType} {R : Room} {pc : Nat} (hd : decode cc pc = .ok (.imul, 1)) : mm_ok own cc nL ret R pc (o_imul (pc + 1)) := by
  intro l σ dC dI cI hi p e s m args below meth c hC Qr K hK lc st μ h H locs ls hP hS hL
  unfold o_imul at h
  split at h
  · exact lv_imul hC.1 hC.2.1 hd (hK _ _ _ _ h H locs ls hP hS hL)
  · exact h.elim
def o_iand (nx : Nat) : mm_T := fun lc st μ K _ _ => match st with
  | .int y :: .int x :: s => K nx lc (.int (x &&& y) :: s) μ
  | _ => False
theorem ok_iand {own : String} {cc : ByteArray} {nL : Nat} {ret : Option FieldType} {R : Room} {pc : Nat} (hd : decode cc pc = .ok (.iand, 1)) : mm_ok own cc nL ret R pc (o_iand (pc + 1)) := by
  intro l σ dC dI cI hi p e s m args below meth c hC Qr K hK lc st μ h H locs ls hP hS hL
  unfold o_iand at h
  split at h
  · exact lv_iand hC.1 hC.2.1 hd (hK _ _ _ _ h H locs ls hP hS hL)
  · exact h.elim
def o_ior (nx : Nat) : mm_T := fun lc st μ K _ _ => match st with
  | .int y :: .int x :: s => K nx lc (.int (x ||| y) :: s) μ
  | _ => False
theorem ok_ior {own : String} {cc : ByteArray} {nL : Nat} {ret : Option FieldType} {R : Room} {pc : Nat} (hd : decode cc pc = .ok (.ior, 1)) : mm_ok own cc nL ret R pc (o_ior (pc + 1)) := by
  intro l σ dC dI cI hi p e s m args below meth c hC Qr K hK lc st μ h H locs ls hP hS hL
  unfold o_ior at h
  split at h
  · exact lv_ior hC.1 hC.2.1 hd (hK _ _ _ _ h H locs ls hP hS hL)
  · exact h.elim
def o_ixor (nx : Nat) : mm_T := fun lc st μ K _ _ => match st with
  | .int y :: .int x :: s => K nx lc (.int (x ^^^ y) :: s) μ
  | _ => False
theorem ok_ixor {own : String} {cc : ByteArray} {nL : Nat} {ret : Option FieldType} {R : Room} {pc : Nat} (hd : decode cc pc = .ok (.ixor, 1)) : mm_ok own cc nL ret R pc (o_ixor (pc + 1)) := by
  intro l σ dC dI cI hi p e s m args below meth c hC Qr K hK lc st μ h H locs ls hP hS hL
  unfold o_ixor at h
  split at h
  · exact lv_ixor hC.1 hC.2.1 hd (hK _ _ _ _ h H locs ls hP hS hL)
  · exact h.elim
def o_ishl (nx : Nat) : mm_T := fun lc st μ K _ _ => match st with
  | .int y :: .int x :: s => K nx lc (.int (x <<< (y &&& 31)) :: s) μ
  | _ => False
theorem ok_ishl {own : String} {cc : ByteArray} {nL : Nat} {ret : Option FieldType} {R : Room} {pc : Nat} (hd : decode cc pc = .ok (.ishl, 1)) : mm_ok own cc nL ret R pc (o_ishl (pc + 1)) := by
  intro l σ dC dI cI hi p e s m args below meth c hC Qr K hK lc st μ h H locs ls hP hS hL
  unfold o_ishl at h
  split at h
  · exact lv_ishl hC.1 hC.2.1 hd (hK _ _ _ _ h H locs ls hP hS hL)
  · exact h.elim
def o_ishr (nx : Nat) : mm_T := fun lc st μ K _ _ => match st with
  | .int y :: .int x :: s => K nx lc (.int (x >>> (y &&& 31)) :: s) μ
  | _ => False
theorem ok_ishr {own : String} {cc : ByteArray} {nL : Nat} {ret : Option FieldType} {R : Room} {pc : Nat} (hd : decode cc pc = .ok (.ishr, 1)) : mm_ok own cc nL ret R pc (o_ishr (pc + 1)) := by
  intro l σ dC dI cI hi p e s m args below meth c hC Qr K hK lc st μ h H locs ls hP hS hL
  unfold o_ishr at h
  split at h
  · exact lv_ishr hC.1 hC.2.1 hd (hK _ _ _ _ h H locs ls hP hS hL)
  · exact h.elim
def o_iushr (nx : Nat) : mm_T := fun lc st μ K _ _ => match st with
  | .int y :: .int x :: s => K nx lc (.int ((x.toUInt32 >>> (y.toUInt32 &&& Int32.toUInt32 31)).toInt32) :: s) μ
  | _ => False
theorem ok_iushr {own : String} {cc : ByteArray} {nL : Nat} {ret : Option FieldType} {R : Room} {pc : Nat} (hd : decode cc pc = .ok (.iushr, 1)) : mm_ok own cc nL ret R pc (o_iushr (pc + 1)) := by
  intro l σ dC dI cI hi p e s m args below meth c hC Qr K hK lc st μ h H locs ls hP hS hL
  unfold o_iushr at h
  split at h
  · exact lv_iushr hC.1 hC.2.1 hd rfl (hK _ _ _ _ h H locs ls hP hS hL)
  · exact h.elim
def o_idiv (nx : Nat) : mm_T := fun lc st μ K _ _ => match st with
  | .int y :: .int x :: s => (¬ y = 0) ∧ K nx lc (.int (x / y) :: s) μ
  | _ => False
theorem ok_idiv {own : String} {cc : ByteArray} {nL : Nat} {ret : Option FieldType} {R : Room} {pc : Nat} (hd : decode cc pc = .ok (.idiv, 1)) : mm_ok own cc nL ret R pc (o_idiv (pc + 1)) := by
  intro l σ dC dI cI hi p e s m args below meth c hC Qr K hK lc st μ h H locs ls hP hS hL
  unfold o_idiv at h
  split at h
  · exact lv_idiv hC.1 hC.2.1 hd h.1 (hK _ _ _ _ h.2 H locs ls hP hS hL)
  · exact h.elim
def o_irem (nx : Nat) : mm_T := fun lc st μ K _ _ => match st with
  | .int y :: .int x :: s => (¬ y = 0) ∧ K nx lc (.int (x - x / y * y) :: s) μ
  | _ => False
theorem ok_irem {own : String} {cc : ByteArray} {nL : Nat} {ret : Option FieldType} {R : Room} {pc : Nat} (hd : decode cc pc = .ok (.irem, 1)) : mm_ok own cc nL ret R pc (o_irem (pc + 1)) := by
  intro l σ dC dI cI hi p e s m args below meth c hC Qr K hK lc st μ h H locs ls hP hS hL
  unfold o_irem at h
  split at h
  · exact lv_irem hC.1 hC.2.1 hd h.1 (hK _ _ _ _ h.2 H locs ls hP hS hL)
  · exact h.elim
def o_ladd (nx : Nat) : mm_T := fun lc st μ K _ _ => match st with
  | .long y :: .long x :: s => K nx lc (.long (x + y) :: s) μ
  | _ => False
theorem ok_ladd {own : String} {cc : ByteArray} {nL : Nat} {ret : Option FieldType} {R : Room} {pc : Nat} (hd : decode cc pc = .ok (.ladd, 1)) : mm_ok own cc nL ret R pc (o_ladd (pc + 1)) := by
  intro l σ dC dI cI hi p e s m args below meth c hC Qr K hK lc st μ h H locs ls hP hS hL
  unfold o_ladd at h
  split at h
  · exact lv_ladd hC.1 hC.2.1 hd (hK _ _ _ _ h H locs ls hP hS hL)
  · exact h.elim
def o_lmul (nx : Nat) : mm_T := fun lc st μ K _ _ => match st with
  | .long y :: .long x :: s => K nx lc (.long (x * y) :: s) μ
  | _ => False
theorem ok_lmul {own : String} {cc : ByteArray} {nL : Nat} {ret : Option FieldType} {R : Room} {pc : Nat} (hd : decode cc pc = .ok (.lmul, 1)) : mm_ok own cc nL ret R pc (o_lmul (pc + 1)) := by
  intro l σ dC dI cI hi p e s m args below meth c hC Qr K hK lc st μ h H locs ls hP hS hL
  unfold o_lmul at h
  split at h
  · exact lv_lmul hC.1 hC.2.1 hd (hK _ _ _ _ h H locs ls hP hS hL)
  · exact h.elim
def o_land (nx : Nat) : mm_T := fun lc st μ K _ _ => match st with
  | .long y :: .long x :: s => K nx lc (.long (x &&& y) :: s) μ
  | _ => False
theorem ok_land {own : String} {cc : ByteArray} {nL : Nat} {ret : Option FieldType} {R : Room} {pc : Nat} (hd : decode cc pc = .ok (.land, 1)) : mm_ok own cc nL ret R pc (o_land (pc + 1)) := by
  intro l σ dC dI cI hi p e s m args below meth c hC Qr K hK lc st μ h H locs ls hP hS hL
  unfold o_land at h
  split at h
  · exact lv_land hC.1 hC.2.1 hd (hK _ _ _ _ h H locs ls hP hS hL)
  · exact h.elim
def o_ldiv (nx : Nat) : mm_T := fun lc st μ K _ _ => match st with
  | .long y :: .long x :: s => (¬ y = 0) ∧ K nx lc (.long (x / y) :: s) μ
  | _ => False
theorem ok_ldiv {own : String} {cc : ByteArray} {nL : Nat} {ret : Option FieldType} {R : Room} {pc : Nat} (hd : decode cc pc = .ok (.ldiv, 1)) : mm_ok own cc nL ret R pc (o_ldiv (pc + 1)) := by
  intro l σ dC dI cI hi p e s m args below meth c hC Qr K hK lc st μ h H locs ls hP hS hL
  unfold o_ldiv at h
  split at h
  · exact lv_ldiv hC.1 hC.2.1 hd h.1 (hK _ _ _ _ h.2 H locs ls hP hS hL)
  · exact h.elim
def o_lrem (nx : Nat) : mm_T := fun lc st μ K _ _ => match st with
  | .long y :: .long x :: s => (¬ y = 0) ∧ K nx lc (.long (x - x / y * y) :: s) μ
  | _ => False
theorem ok_lrem {own : String} {cc : ByteArray} {nL : Nat} {ret : Option FieldType} {R : Room} {pc : Nat} (hd : decode cc pc = .ok (.lrem, 1)) : mm_ok own cc nL ret R pc (o_lrem (pc + 1)) := by
  intro l σ dC dI cI hi p e s m args below meth c hC Qr K hK lc st μ h H locs ls hP hS hL
  unfold o_lrem at h
  split at h
  · exact lv_lrem hC.1 hC.2.1 hd h.1 (hK _ _ _ _ h.2 H locs ls hP hS hL)
  · exact h.elim
def o_lcmp (nx : Nat) : mm_T := fun lc st μ K _ _ => match st with
  | .long y :: .long x :: s => K nx lc (.int (lg_cmp x y) :: s) μ
  | _ => False
theorem ok_lcmp {own : String} {cc : ByteArray} {nL : Nat} {ret : Option FieldType} {R : Room} {pc : Nat} (hd : decode cc pc = .ok (.lcmp, 1)) : mm_ok own cc nL ret R pc (o_lcmp (pc + 1)) := by
  intro l σ dC dI cI hi p e s m args below meth c hC Qr K hK lc st μ h H locs ls hP hS hL
  unfold o_lcmp at h
  split at h
  · exact W.lcmp hC.1 hC.2.1 hd (hK _ _ _ _ h H locs ls hP hS hL)
  · exact h.elim
def o_i2l (nx : Nat) : mm_T := fun lc st μ K _ _ => match st with
  | .int x :: s => K nx lc (.long (x.toInt64) :: s) μ
  | _ => False
theorem ok_i2l {own : String} {cc : ByteArray} {nL : Nat} {ret : Option FieldType} {R : Room} {pc : Nat} (hd : decode cc pc = .ok (.i2l, 1)) : mm_ok own cc nL ret R pc (o_i2l (pc + 1)) := by
  intro l σ dC dI cI hi p e s m args below meth c hC Qr K hK lc st μ h H locs ls hP hS hL
  unfold o_i2l at h
  split at h
  · exact lv_i2l hC.1 hC.2.1 hd rfl (hK _ _ _ _ h H locs ls hP hS hL)
  · exact h.elim
def o_l2i (nx : Nat) : mm_T := fun lc st μ K _ _ => match st with
  | .long x :: s => K nx lc (.int (x.toInt32) :: s) μ
  | _ => False
theorem ok_l2i {own : String} {cc : ByteArray} {nL : Nat} {ret : Option FieldType} {R : Room} {pc : Nat} (hd : decode cc pc = .ok (.l2i, 1)) : mm_ok own cc nL ret R pc (o_l2i (pc + 1)) := by
  intro l σ dC dI cI hi p e s m args below meth c hC Qr K hK lc st μ h H locs ls hP hS hL
  unfold o_l2i at h
  split at h
  · exact lv_l2i hC.1 hC.2.1 hd rfl (hK _ _ _ _ h H locs ls hP hS hL)
  · exact h.elim
def o_dup (nx : Nat) : mm_T := fun lc st μ K _ _ => match st with
  | .int x :: s => K nx lc (.int x :: .int x :: s) μ
  | .ref x :: s => K nx lc (.ref x :: .ref x :: s) μ
  | _ => False
theorem ok_dup {own : String} {cc : ByteArray} {nL : Nat} {ret : Option FieldType} {R : Room} {pc : Nat} (hd : decode cc pc = .ok (.dup, 1)) : mm_ok own cc nL ret R pc (o_dup (pc + 1)) := by
  intro l σ dC dI cI hi p e s m args below meth c hC Qr K hK lc st μ h H locs ls hP hS hL
  unfold o_dup at h
  split at h
  · exact lv_dup hC.1 hC.2.1 hd rfl (hK _ _ _ _ h H locs ls hP hS hL)
  · exact lv_dup hC.1 hC.2.1 hd rfl (hK _ _ _ _ h H locs ls hP hS hL)
  · exact h.elim
def o_dup2 (nx : Nat) : mm_T := fun lc st μ K _ _ => match st with
  | .int x :: .ref r :: s => K nx lc (.int x :: .ref r :: .int x :: .ref r :: s) μ
  | _ => False
theorem ok_dup2 {own : String} {cc : ByteArray} {nL : Nat} {ret : Option FieldType} {R : Room} {pc : Nat} (hd : decode cc pc = .ok (.dup2, 1)) : mm_ok own cc nL ret R pc (o_dup2 (pc + 1)) := by
  intro l σ dC dI cI hi p e s m args below meth c hC Qr K hK lc st μ h H locs ls hP hS hL
  unfold o_dup2 at h
  split at h
  · exact lv_dup2_11 hC.1 hC.2.1 hd rfl rfl (hK _ _ _ _ h H locs ls hP hS hL)
  · exact h.elim
def o_pop (nx : Nat) : mm_T := fun lc st μ K _ _ => match st with
  | .int _ :: s => K nx lc s μ
  | _ => False
theorem ok_pop {own : String} {cc : ByteArray} {nL : Nat} {ret : Option FieldType} {R : Room} {pc : Nat} (hd : decode cc pc = .ok (.pop, 1)) : mm_ok own cc nL ret R pc (o_pop (pc + 1)) := by
  intro l σ dC dI cI hi p e s m args below meth c hC Qr K hK lc st μ h H locs ls hP hS hL
  unfold o_pop at h
  split at h
  · exact lv_pop hC.1 hC.2.1 hd rfl (hK _ _ _ _ h H locs ls hP hS hL)
  · exact h.elim
def o_ic (v : Int32) (nx : Nat) : mm_T := fun lc st μ K _ _ => K nx lc (.int v :: st) μ
def o_lc (v : Int64) (nx : Nat) : mm_T := fun lc st μ K _ _ => K nx lc (.long v :: st) μ
theorem ok_iconst {own : String} {cc : ByteArray} {nL : Nat} {ret : Option FieldType} {R : Room} {pc : Nat} {n : Int} {v : Int32} (hd : decode cc pc = .ok (.iconst n, 1)) (hv : Int32.ofInt n = v) : mm_ok own cc nL ret R pc (o_ic v (pc + 1)) := by
  intro l σ dC dI cI hi p e s m args below meth c hC Qr K hK lc st μ h H locs ls hP hS hL
  exact lv_iconst hC.1 hC.2.1 hd hv (hK _ _ _ _ h H locs ls hP hS hL)
theorem ok_bipush {own : String} {cc : ByteArray} {nL : Nat} {ret : Option FieldType} {R : Room} {pc : Nat} {n : Int} {v : Int32} (hd : decode cc pc = .ok (.bipush n, 2)) (hv : (Int8.ofInt n).toInt32 = v) : mm_ok own cc nL ret R pc (o_ic v (pc + 2)) := by
  intro l σ dC dI cI hi p e s m args below meth c hC Qr K hK lc st μ h H locs ls hP hS hL
  exact lv_bipush hC.1 hC.2.1 hd hv (hK _ _ _ _ h H locs ls hP hS hL)
theorem ok_sipush {own : String} {cc : ByteArray} {nL : Nat} {ret : Option FieldType} {R : Room} {pc : Nat} {n : Int} {v : Int32} (hd : decode cc pc = .ok (.sipush n, 3)) (hv : (Int16.ofInt n).toInt32 = v) : mm_ok own cc nL ret R pc (o_ic v (pc + 3)) := by
  intro l σ dC dI cI hi p e s m args below meth c hC Qr K hK lc st μ h H locs ls hP hS hL
  exact lv_sipush hC.1 hC.2.1 hd hv (hK _ _ _ _ h H locs ls hP hS hL)
theorem ok_lconst {own : String} {cc : ByteArray} {nL : Nat} {ret : Option FieldType} {R : Room} {pc : Nat} {n : Fin 2} {v : Int64} (hd : decode cc pc = .ok (.lconst n, 1)) (hv : Int64.ofNat (n : Nat) = v) : mm_ok own cc nL ret R pc (o_lc v (pc + 1)) := by
  intro l σ dC dI cI hi p e s m args below meth c hC Qr K hK lc st μ h H locs ls hP hS hL
  exact lv_lconst hC.1 hC.2.1 hd hv (hK _ _ _ _ h H locs ls hP hS hL)
theorem ok_ldc {own : String} {cc : ByteArray} {nL : Nat} {ret : Option FieldType} {R : Room} {pc : Nat} {index : Nat} {v : Int32} (hw : Cond.constant own index v ∈ mm_big) (hd : decode cc pc = .ok (.ldc index, 2)) : mm_ok own cc nL ret R pc (o_ic v (pc + 2)) := by
  intro l σ dC dI cI hi p e s m args below meth c hC Qr K hK lc st μ h H locs ls hP hS hL
  exact lv_ldc hC.1 hC.2.1 hC.2.2.2.2.2.1 (hC.2.2.2.2.2.2.1 _ hw) hd (hK _ _ _ _ h H locs ls hP hS hL)
theorem ok_ldcw {own : String} {cc : ByteArray} {nL : Nat} {ret : Option FieldType} {R : Room} {pc : Nat} {index : Nat} {v : Int32} (hw : Cond.constant own index v ∈ mm_big) (hd : decode cc pc = .ok (.ldc_w index, 3)) : mm_ok own cc nL ret R pc (o_ic v (pc + 3)) := by
  intro l σ dC dI cI hi p e s m args below meth c hC Qr K hK lc st μ h H locs ls hP hS hL
  exact lv_ldcw hC.1 hC.2.1 hC.2.2.2.2.2.1 (hC.2.2.2.2.2.2.1 _ hw) hd (hK _ _ _ _ h H locs ls hP hS hL)
theorem ok_ldc2 {own : String} {cc : ByteArray} {nL : Nat} {ret : Option FieldType} {R : Room} {pc : Nat} {index : Nat} {v : Int64} (hw : Cond.constantLong own index v ∈ mm_big) (hd : decode cc pc = .ok (.ldc2_w index, 3)) : mm_ok own cc nL ret R pc (o_lc v (pc + 3)) := by
  intro l σ dC dI cI hi p e s m args below meth c hC Qr K hK lc st μ h H locs ls hP hS hL
  exact lv_ldc2 hC.1 hC.2.1 hC.2.2.2.2.2.1 (hC.2.2.2.2.2.2.1 _ hw) hd (hK _ _ _ _ h H locs ls hP hS hL)
def o_ild (i nx : Nat) : mm_T := fun lc st μ K _ _ => match mm_nth lc i .null with
  | .int x => K nx lc (.int x :: st) μ
  | _ => False
theorem ok_iload_n {own : String} {cc : ByteArray} {nL : Nat} {ret : Option FieldType} {R : Room} {pc : Nat} {k : Fin 4} {i : Nat} (hd : decode cc pc = .ok (.iload_n k, 1)) (hk : (k : Nat) = i) : mm_ok own cc nL ret R pc (o_ild i (pc + 1)) := by
  intro l σ dC dI cI hi p e s m args below meth c hC Qr K hK lc st μ h H locs ls hP hS hL
  unfold o_ild at h
  split at h
  · rename_i x he
    exact lv_iload_n hC.1 hC.2.1 hd hk (hL.2.2.2 i _ (mm_nth_get he (fun z => by cases z)) (fun z => by cases z)) (hK _ _ _ _ h H locs ls hP hS hL)
  · exact h.elim
theorem ok_iload {own : String} {cc : ByteArray} {nL : Nat} {ret : Option FieldType} {R : Room} {pc : Nat} {i : Nat} (hd : decode cc pc = .ok (.iload i, 2)) : mm_ok own cc nL ret R pc (o_ild i (pc + 2)) := by
  intro l σ dC dI cI hi p e s m args below meth c hC Qr K hK lc st μ h H locs ls hP hS hL
  unfold o_ild at h
  split at h
  · rename_i x he
    exact lv_iload hC.1 hC.2.1 hd (hL.2.2.2 i _ (mm_nth_get he (fun z => by cases z)) (fun z => by cases z)) (hK _ _ _ _ h H locs ls hP hS hL)
  · exact h.elim
def o_lld (i nx : Nat) : mm_T := fun lc st μ K _ _ => match mm_nth lc i .null with
  | .long x => K nx lc (.long x :: st) μ
  | _ => False
theorem ok_lload_n {own : String} {cc : ByteArray} {nL : Nat} {ret : Option FieldType} {R : Room} {pc : Nat} {k : Fin 4} {i : Nat} (hd : decode cc pc = .ok (.lload_n k, 1)) (hk : (k : Nat) = i) : mm_ok own cc nL ret R pc (o_lld i (pc + 1)) := by
  intro l σ dC dI cI hi p e s m args below meth c hC Qr K hK lc st μ h H locs ls hP hS hL
  unfold o_lld at h
  split at h
  · rename_i x he
    exact lv_lload_n hC.1 hC.2.1 hd hk (hL.2.2.2 i _ (mm_nth_get he (fun z => by cases z)) (fun z => by cases z)) (hK _ _ _ _ h H locs ls hP hS hL)
  · exact h.elim
theorem ok_lload {own : String} {cc : ByteArray} {nL : Nat} {ret : Option FieldType} {R : Room} {pc : Nat} {i : Nat} (hd : decode cc pc = .ok (.lload i, 2)) : mm_ok own cc nL ret R pc (o_lld i (pc + 2)) := by
  intro l σ dC dI cI hi p e s m args below meth c hC Qr K hK lc st μ h H locs ls hP hS hL
  unfold o_lld at h
  split at h
  · rename_i x he
    exact lv_lload hC.1 hC.2.1 hd (hL.2.2.2 i _ (mm_nth_get he (fun z => by cases z)) (fun z => by cases z)) (hK _ _ _ _ h H locs ls hP hS hL)
  · exact h.elim
def o_ald (i nx : Nat) : mm_T := fun lc st μ K _ _ => match mm_nth lc i .null with
  | .ref x => K nx lc (.ref x :: st) μ
  | _ => False
theorem ok_aload_n {own : String} {cc : ByteArray} {nL : Nat} {ret : Option FieldType} {R : Room} {pc : Nat} {k : Fin 4} {i : Nat} (hd : decode cc pc = .ok (.aload_n k, 1)) (hk : (k : Nat) = i) : mm_ok own cc nL ret R pc (o_ald i (pc + 1)) := by
  intro l σ dC dI cI hi p e s m args below meth c hC Qr K hK lc st μ h H locs ls hP hS hL
  unfold o_ald at h
  split at h
  · rename_i x he
    exact lv_aload_n hC.1 hC.2.1 hd hk (hL.2.2.2 i _ (mm_nth_get he (fun z => by cases z)) (fun z => by cases z)) (hK _ _ _ _ h H locs ls hP hS hL)
  · exact h.elim
theorem ok_aload {own : String} {cc : ByteArray} {nL : Nat} {ret : Option FieldType} {R : Room} {pc : Nat} {i : Nat} (hd : decode cc pc = .ok (.aload i, 2)) : mm_ok own cc nL ret R pc (o_ald i (pc + 2)) := by
  intro l σ dC dI cI hi p e s m args below meth c hC Qr K hK lc st μ h H locs ls hP hS hL
  unfold o_ald at h
  split at h
  · rename_i x he
    exact lv_aload hC.1 hC.2.1 hd (hL.2.2.2 i _ (mm_nth_get he (fun z => by cases z)) (fun z => by cases z)) (hK _ _ _ _ h H locs ls hP hS hL)
  · exact h.elim
theorem mm_store1 {σ : Nat → Nat} {ls ls' : Array Slot} {nL i : Nat} {lc lc' : List Value} {v : Value} (hL : mm_L σ ls nL lc) (hn : mm_nl lc i = true) (h2 : lc'.length = lc.length) (h4 : lc'[i]? = some v) (h5 : ∀ j, j ≠ i → lc'[j]? = lc[j]?) (h : lv_has ls' nL ((i, mm_c σ v) :: (mm_al σ lc).filter (fun q => !(q.1 == i) && !(q.1 + 1 == i && q.2.category == 2)))) : mm_L σ ls' nL lc' := by
  refine mm_L_of hL h h2 h4 (fun j w hj hw hz => ?_)
  rw [h5 j hj] at hw
  refine ⟨hw, List.mem_filter.mpr ⟨mm_al_mem hw hz, ?_⟩⟩
  have e1 : (j == i) = false := by simpa using hj
  simp only [e1, Bool.not_false, Bool.true_and, mm_c_cat]
  by_cases e2 : j + 1 = i
  · have := mm_nl_ok hn e2 hw
    simp [this]
  · have e3 : (j + 1 == i) = false := by simpa using e2
    simp [e3]
theorem mm_store2 {σ : Nat → Nat} {ls ls' : Array Slot} {nL i : Nat} {lc lc' lc'' : List Value} {v : Value} (hL : mm_L σ ls nL lc) (hn : mm_nl lc i = true) (h2 : lc'.length = lc.length) (h4 : lc'[i]? = some v) (h5 : ∀ j, j ≠ i → lc'[j]? = lc[j]?) (g2 : lc''.length = lc'.length) (g4 : lc''[i + 1]? = some .null) (g5 : ∀ j, j ≠ i + 1 → lc''[j]? = lc'[j]?) (h : lv_has ls' nL ((i, mm_c σ v) :: (mm_al σ lc).filter (fun q => !(q.1 == i) && (!(q.1 == i + 1) && !(q.1 + 1 == i && q.2.category == 2))))) : mm_L σ ls' nL lc'' := by
  refine mm_L_of hL h (g2.trans h2) (by rw [g5 i (by omega)]; exact h4) (fun j w hj hw hz => ?_)
  by_cases e : j = i + 1
  · subst e
    rw [g4] at hw
    cases hw
    exact absurd rfl hz
  rw [g5 j e, h5 j hj] at hw
  refine ⟨hw, List.mem_filter.mpr ⟨mm_al_mem hw hz, ?_⟩⟩
  have e1 : (j == i) = false := by simpa using hj
  have e4 : (j == i + 1) = false := by simpa using e
  simp only [e1, e4, Bool.not_false, Bool.true_and, mm_c_cat]
  by_cases e2 : j + 1 = i
  · have := mm_nl_ok hn e2 hw
    simp [this]
  · have e3 : (j + 1 == i) = false := by simpa using e2
    simp [e3]
def o_ist (i nx : Nat) : mm_T := fun lc st μ K _ _ => match st with
  | .int x :: s => bif mm_nl lc i then mm_st lc i (.int x) (fun lc' => K nx lc' s μ) else False
  | _ => False
def o_lst (i nx : Nat) : mm_T := fun lc st μ K _ _ => match st with
  | .long x :: s => bif mm_nl lc i then mm_st lc i (.long x) (fun lc1 => mm_st lc1 (i + 1) .null (fun lc' => K nx lc' s μ)) else False
  | _ => False
def o_iinc (i : Nat) (d : Int32) (nx : Nat) : mm_T := fun lc st μ K _ _ => match mm_nth lc i .null with
  | .int x => bif mm_nl lc i then mm_st lc i (.int (x + d)) (fun lc' => K nx lc' st μ) else False
  | _ => False
theorem ok_istore_n {own : String} {cc : ByteArray} {nL : Nat} {ret : Option FieldType} {R : Room} {pc : Nat} {k : Fin 4} {i : Nat} (hd : decode cc pc = .ok (.istore_n k, 1)) (hk : (k : Nat) = i) : mm_ok own cc nL ret R pc (o_ist i (pc + 1)) := by
  intro l σ dC dI cI hi p e s m args below meth c hC Qr K hK lc st μ h H locs ls hP hS hL
  unfold o_ist at h
  split at h
  · cases hb : mm_nl lc i with
    | false => rw [hb] at h; exact h.elim
    | true =>
    rw [hb] at h
    simp only [cond_true] at h
    obtain ⟨lc1, h1, h2, h3, h4, h5⟩ := mm_st_ok h
    exact lv_istore_n hC.1 hC.2.1 hd hk (mm_al_has hL) (by rw [← hL.2.2.1]; exact h3) rfl (fun ls' hl' => hK _ _ _ _ h1 H locs ls' hP hS (mm_store1 hL hb h2 h4 h5 hl'))
  · exact h.elim
theorem ok_istore {own : String} {cc : ByteArray} {nL : Nat} {ret : Option FieldType} {R : Room} {pc : Nat} {i : Nat} (hd : decode cc pc = .ok (.istore i, 2)) : mm_ok own cc nL ret R pc (o_ist i (pc + 2)) := by
  intro l σ dC dI cI hi p e s m args below meth c hC Qr K hK lc st μ h H locs ls hP hS hL
  unfold o_ist at h
  split at h
  · cases hb : mm_nl lc i with
    | false => rw [hb] at h; exact h.elim
    | true =>
    rw [hb] at h
    simp only [cond_true] at h
    obtain ⟨lc1, h1, h2, h3, h4, h5⟩ := mm_st_ok h
    exact lv_istore hC.1 hC.2.1 hd (mm_al_has hL) (by rw [← hL.2.2.1]; exact h3) rfl (fun ls' hl' => hK _ _ _ _ h1 H locs ls' hP hS (mm_store1 hL hb h2 h4 h5 hl'))
  · exact h.elim
theorem ok_lstore_n {own : String} {cc : ByteArray} {nL : Nat} {ret : Option FieldType} {R : Room} {pc : Nat} {k : Fin 4} {i : Nat} (hd : decode cc pc = .ok (.lstore_n k, 1)) (hk : (k : Nat) = i) : mm_ok own cc nL ret R pc (o_lst i (pc + 1)) := by
  intro l σ dC dI cI hi p e s m args below meth c hC Qr K hK lc st μ h H locs ls hP hS hL
  unfold o_lst at h
  split at h
  · cases hb : mm_nl lc i with
    | false => rw [hb] at h; exact h.elim
    | true =>
    rw [hb] at h
    simp only [cond_true] at h
    obtain ⟨lc1, h1, h2, h3, h4, h5⟩ := mm_st_ok h
    obtain ⟨lc2, g1, g2, g3, g4, g5⟩ := mm_st_ok h1
    exact lv_lstore_n hC.1 hC.2.1 hd hk (mm_al_has hL) (by rw [← hL.2.2.1, ← h2]; exact g3) rfl (fun ls' hl' => hK _ _ _ _ g1 H locs ls' hP hS (mm_store2 hL hb h2 h4 h5 g2 g4 g5 hl'))
  · exact h.elim
theorem ok_lstore {own : String} {cc : ByteArray} {nL : Nat} {ret : Option FieldType} {R : Room} {pc : Nat} {i : Nat} (hd : decode cc pc = .ok (.lstore i, 2)) : mm_ok own cc nL ret R pc (o_lst i (pc + 2)) := by
  intro l σ dC dI cI hi p e s m args below meth c hC Qr K hK lc st μ h H locs ls hP hS hL
  unfold o_lst at h
  split at h
  · cases hb : mm_nl lc i with
    | false => rw [hb] at h; exact h.elim
    | true =>
    rw [hb] at h
    simp only [cond_true] at h
    obtain ⟨lc1, h1, h2, h3, h4, h5⟩ := mm_st_ok h
    obtain ⟨lc2, g1, g2, g3, g4, g5⟩ := mm_st_ok h1
    exact lv_lstore hC.1 hC.2.1 hd (mm_al_has hL) (by rw [← hL.2.2.1, ← h2]; exact g3) rfl (fun ls' hl' => hK _ _ _ _ g1 H locs ls' hP hS (mm_store2 hL hb h2 h4 h5 g2 g4 g5 hl'))
  · exact h.elim
theorem ok_iinc {own : String} {cc : ByteArray} {nL : Nat} {ret : Option FieldType} {R : Room} {pc : Nat} {i : Nat} {n : Int} {d : Int32} (hd : decode cc pc = .ok (.iinc i n, 3)) (hv : Int32.ofInt n = d) : mm_ok own cc nL ret R pc (o_iinc i d (pc + 3)) := by
  intro l σ dC dI cI hi p e s m args below meth c hC Qr K hK lc st μ h H locs ls hP hS hL
  unfold o_iinc at h
  split at h
  · rename_i x he
    cases hb : mm_nl lc i with
    | false => rw [hb] at h; exact h.elim
    | true =>
    rw [hb] at h
    simp only [cond_true] at h
    obtain ⟨lc1, h1, h2, h3, h4, h5⟩ := mm_st_ok h
    obtain ⟨q, hq⟩ := List.getElem?_of_mem (mm_al_mem (σ := σ) (mm_nth_get he (fun z => by cases z)) (fun z => by cases z))
    exact lv_iinc (x := x) hC.1 hC.2.1 hd (mm_al_has hL) hq (by rw [hv]) (by rw [← hL.2.2.1]; exact h3) rfl (fun ls' hl' => hK _ _ _ _ h1 H locs ls' hP hS (mm_store1 hL hb h2 h4 h5 hl'))
  · exact h.elim
def o_if_eq (tgt nx : Nat) : mm_T := fun lc st μ _ J _ => match st with
  | .int x :: s => (x = 0 → J tgt lc s μ) ∧ (¬ x = 0 → J nx lc s μ)
  | _ => False
theorem ok_if_eq {own : String} {cc : ByteArray} {nL : Nat} {ret : Option FieldType} {R : Room} {pc : Nat} {off : Int} {tgt : Nat} (hd : decode cc pc = .ok (.ifCond .eq off, 3)) (ht : (pc : Int) + off = (tgt : Int)) : mm_ok own cc nL ret R pc (o_if_eq tgt (pc + 3)) := by
  intro l σ dC dI cI hi p e s m args below meth c hC Qr K hK lc st μ h H locs ls hP hS hL
  unfold o_if_eq at h
  split at h
  · exact lv_if_eq hC.1 hC.2.1 hd ht (fun q => h.1 q H locs ls hP hS hL) (fun q => h.2 q H locs ls hP hS hL)
  · exact h.elim
def o_ic_eq (tgt nx : Nat) : mm_T := fun lc st μ _ J _ => match st with
  | .int y :: .int x :: s => (x = y → J tgt lc s μ) ∧ (¬ x = y → J nx lc s μ)
  | _ => False
theorem ok_icmp_eq {own : String} {cc : ByteArray} {nL : Nat} {ret : Option FieldType} {R : Room} {pc : Nat} {off : Int} {tgt : Nat} (hd : decode cc pc = .ok (.if_icmp .eq off, 3)) (ht : (pc : Int) + off = (tgt : Int)) : mm_ok own cc nL ret R pc (o_ic_eq tgt (pc + 3)) := by
  intro l σ dC dI cI hi p e s m args below meth c hC Qr K hK lc st μ h H locs ls hP hS hL
  unfold o_ic_eq at h
  split at h
  · exact lv_icmp_eq hC.1 hC.2.1 hd ht (fun q => h.1 q H locs ls hP hS hL) (fun q => h.2 q H locs ls hP hS hL)
  · exact h.elim
def o_if_ne (tgt nx : Nat) : mm_T := fun lc st μ _ J _ => match st with
  | .int x :: s => (¬ x = 0 → J tgt lc s μ) ∧ (x = 0 → J nx lc s μ)
  | _ => False
theorem ok_if_ne {own : String} {cc : ByteArray} {nL : Nat} {ret : Option FieldType} {R : Room} {pc : Nat} {off : Int} {tgt : Nat} (hd : decode cc pc = .ok (.ifCond .ne off, 3)) (ht : (pc : Int) + off = (tgt : Int)) : mm_ok own cc nL ret R pc (o_if_ne tgt (pc + 3)) := by
  intro l σ dC dI cI hi p e s m args below meth c hC Qr K hK lc st μ h H locs ls hP hS hL
  unfold o_if_ne at h
  split at h
  · exact lv_if_ne hC.1 hC.2.1 hd ht (fun q => h.1 q H locs ls hP hS hL) (fun q => h.2 q H locs ls hP hS hL)
  · exact h.elim
def o_ic_ne (tgt nx : Nat) : mm_T := fun lc st μ _ J _ => match st with
  | .int y :: .int x :: s => (¬ x = y → J tgt lc s μ) ∧ (x = y → J nx lc s μ)
  | _ => False
theorem ok_icmp_ne {own : String} {cc : ByteArray} {nL : Nat} {ret : Option FieldType} {R : Room} {pc : Nat} {off : Int} {tgt : Nat} (hd : decode cc pc = .ok (.if_icmp .ne off, 3)) (ht : (pc : Int) + off = (tgt : Int)) : mm_ok own cc nL ret R pc (o_ic_ne tgt (pc + 3)) := by
  intro l σ dC dI cI hi p e s m args below meth c hC Qr K hK lc st μ h H locs ls hP hS hL
  unfold o_ic_ne at h
  split at h
  · exact lv_icmp_ne hC.1 hC.2.1 hd ht (fun q => h.1 q H locs ls hP hS hL) (fun q => h.2 q H locs ls hP hS hL)
  · exact h.elim
def o_if_lt (tgt nx : Nat) : mm_T := fun lc st μ _ J _ => match st with
  | .int x :: s => (x < 0 → J tgt lc s μ) ∧ (¬ x < 0 → J nx lc s μ)
  | _ => False
theorem ok_if_lt {own : String} {cc : ByteArray} {nL : Nat} {ret : Option FieldType} {R : Room} {pc : Nat} {off : Int} {tgt : Nat} (hd : decode cc pc = .ok (.ifCond .lt off, 3)) (ht : (pc : Int) + off = (tgt : Int)) : mm_ok own cc nL ret R pc (o_if_lt tgt (pc + 3)) := by
  intro l σ dC dI cI hi p e s m args below meth c hC Qr K hK lc st μ h H locs ls hP hS hL
  unfold o_if_lt at h
  split at h
  · exact lv_if_lt hC.1 hC.2.1 hd ht (fun q => h.1 q H locs ls hP hS hL) (fun q => h.2 q H locs ls hP hS hL)
  · exact h.elim
def o_ic_lt (tgt nx : Nat) : mm_T := fun lc st μ _ J _ => match st with
  | .int y :: .int x :: s => (x < y → J tgt lc s μ) ∧ (¬ x < y → J nx lc s μ)
  | _ => False
theorem ok_icmp_lt {own : String} {cc : ByteArray} {nL : Nat} {ret : Option FieldType} {R : Room} {pc : Nat} {off : Int} {tgt : Nat} (hd : decode cc pc = .ok (.if_icmp .lt off, 3)) (ht : (pc : Int) + off = (tgt : Int)) : mm_ok own cc nL ret R pc (o_ic_lt tgt (pc + 3)) := by
  intro l σ dC dI cI hi p e s m args below meth c hC Qr K hK lc st μ h H locs ls hP hS hL
  unfold o_ic_lt at h
  split at h
  · exact lv_icmp_lt hC.1 hC.2.1 hd ht (fun q => h.1 q H locs ls hP hS hL) (fun q => h.2 q H locs ls hP hS hL)
  · exact h.elim
def o_if_ge (tgt nx : Nat) : mm_T := fun lc st μ _ J _ => match st with
  | .int x :: s => (0 ≤ x → J tgt lc s μ) ∧ (¬ 0 ≤ x → J nx lc s μ)
  | _ => False
theorem ok_if_ge {own : String} {cc : ByteArray} {nL : Nat} {ret : Option FieldType} {R : Room} {pc : Nat} {off : Int} {tgt : Nat} (hd : decode cc pc = .ok (.ifCond .ge off, 3)) (ht : (pc : Int) + off = (tgt : Int)) : mm_ok own cc nL ret R pc (o_if_ge tgt (pc + 3)) := by
  intro l σ dC dI cI hi p e s m args below meth c hC Qr K hK lc st μ h H locs ls hP hS hL
  unfold o_if_ge at h
  split at h
  · exact lv_if_ge hC.1 hC.2.1 hd ht (fun q => h.1 q H locs ls hP hS hL) (fun q => h.2 q H locs ls hP hS hL)
  · exact h.elim
def o_ic_ge (tgt nx : Nat) : mm_T := fun lc st μ _ J _ => match st with
  | .int y :: .int x :: s => (y ≤ x → J tgt lc s μ) ∧ (¬ y ≤ x → J nx lc s μ)
  | _ => False
theorem ok_icmp_ge {own : String} {cc : ByteArray} {nL : Nat} {ret : Option FieldType} {R : Room} {pc : Nat} {off : Int} {tgt : Nat} (hd : decode cc pc = .ok (.if_icmp .ge off, 3)) (ht : (pc : Int) + off = (tgt : Int)) : mm_ok own cc nL ret R pc (o_ic_ge tgt (pc + 3)) := by
  intro l σ dC dI cI hi p e s m args below meth c hC Qr K hK lc st μ h H locs ls hP hS hL
  unfold o_ic_ge at h
  split at h
  · exact lv_icmp_ge hC.1 hC.2.1 hd ht (fun q => h.1 q H locs ls hP hS hL) (fun q => h.2 q H locs ls hP hS hL)
  · exact h.elim
def o_if_gt (tgt nx : Nat) : mm_T := fun lc st μ _ J _ => match st with
  | .int x :: s => (0 < x → J tgt lc s μ) ∧ (¬ 0 < x → J nx lc s μ)
  | _ => False
theorem ok_if_gt {own : String} {cc : ByteArray} {nL : Nat} {ret : Option FieldType} {R : Room} {pc : Nat} {off : Int} {tgt : Nat} (hd : decode cc pc = .ok (.ifCond .gt off, 3)) (ht : (pc : Int) + off = (tgt : Int)) : mm_ok own cc nL ret R pc (o_if_gt tgt (pc + 3)) := by
  intro l σ dC dI cI hi p e s m args below meth c hC Qr K hK lc st μ h H locs ls hP hS hL
  unfold o_if_gt at h
  split at h
  · exact lv_if_gt hC.1 hC.2.1 hd ht (fun q => h.1 q H locs ls hP hS hL) (fun q => h.2 q H locs ls hP hS hL)
  · exact h.elim
def o_ic_gt (tgt nx : Nat) : mm_T := fun lc st μ _ J _ => match st with
  | .int y :: .int x :: s => (y < x → J tgt lc s μ) ∧ (¬ y < x → J nx lc s μ)
  | _ => False
theorem ok_icmp_gt {own : String} {cc : ByteArray} {nL : Nat} {ret : Option FieldType} {R : Room} {pc : Nat} {off : Int} {tgt : Nat} (hd : decode cc pc = .ok (.if_icmp .gt off, 3)) (ht : (pc : Int) + off = (tgt : Int)) : mm_ok own cc nL ret R pc (o_ic_gt tgt (pc + 3)) := by
  intro l σ dC dI cI hi p e s m args below meth c hC Qr K hK lc st μ h H locs ls hP hS hL
  unfold o_ic_gt at h
  split at h
  · exact lv_icmp_gt hC.1 hC.2.1 hd ht (fun q => h.1 q H locs ls hP hS hL) (fun q => h.2 q H locs ls hP hS hL)
  · exact h.elim
def o_if_le (tgt nx : Nat) : mm_T := fun lc st μ _ J _ => match st with
  | .int x :: s => (x ≤ 0 → J tgt lc s μ) ∧ (¬ x ≤ 0 → J nx lc s μ)
  | _ => False
theorem ok_if_le {own : String} {cc : ByteArray} {nL : Nat} {ret : Option FieldType} {R : Room} {pc : Nat} {off : Int} {tgt : Nat} (hd : decode cc pc = .ok (.ifCond .le off, 3)) (ht : (pc : Int) + off = (tgt : Int)) : mm_ok own cc nL ret R pc (o_if_le tgt (pc + 3)) := by
  intro l σ dC dI cI hi p e s m args below meth c hC Qr K hK lc st μ h H locs ls hP hS hL
  unfold o_if_le at h
  split at h
  · exact lv_if_le hC.1 hC.2.1 hd ht (fun q => h.1 q H locs ls hP hS hL) (fun q => h.2 q H locs ls hP hS hL)
  · exact h.elim
def o_ic_le (tgt nx : Nat) : mm_T := fun lc st μ _ J _ => match st with
  | .int y :: .int x :: s => (x ≤ y → J tgt lc s μ) ∧ (¬ x ≤ y → J nx lc s μ)
  | _ => False
theorem ok_icmp_le {own : String} {cc : ByteArray} {nL : Nat} {ret : Option FieldType} {R : Room} {pc : Nat} {off : Int} {tgt : Nat} (hd : decode cc pc = .ok (.if_icmp .le off, 3)) (ht : (pc : Int) + off = (tgt : Int)) : mm_ok own cc nL ret R pc (o_ic_le tgt (pc + 3)) := by
  intro l σ dC dI cI hi p e s m args below meth c hC Qr K hK lc st μ h H locs ls hP hS hL
  unfold o_ic_le at h
  split at h
  · exact lv_icmp_le hC.1 hC.2.1 hd ht (fun q => h.1 q H locs ls hP hS hL) (fun q => h.2 q H locs ls hP hS hL)
  · exact h.elim
def o_goto (tgt : Nat) : mm_T := fun lc st μ _ J _ => J tgt lc st μ
theorem ok_goto {own : String} {cc : ByteArray} {nL : Nat} {ret : Option FieldType} {R : Room} {pc : Nat} {off : Int} {tgt : Nat} (hd : decode cc pc = .ok (.goto off, 3)) (ht : (pc : Int) + off = (tgt : Int)) : mm_ok own cc nL ret R pc (o_goto tgt) := by
  intro l σ dC dI cI hi p e s m args below meth c hC Qr K hK lc st μ h H locs ls hP hS hL
  exact lv_goto hC.1 hC.2.1 hd ht (h H locs ls hP hS hL)
/-- a table of places, from 0 on -/
def mm_sw (x : Int32) (k : Nat → Prop) (dflt : Nat) : Nat → List Nat → Prop
  | _, [] => k dflt
  | i, t :: ts => (x = Int32.ofNat i → k t) ∧ (¬ x = Int32.ofNat i → mm_sw x k dflt (i + 1) ts)
def o_tsw (ts : List Nat) (dflt : Nat) : mm_T := fun lc st μ _ J _ => match st with
  | .int x :: s => mm_sw x (fun t => J t lc s μ) dflt 0 ts
  | _ => False
theorem mm_sw_ok {x : Int32} {k : Nat → Prop} {dflt : Nat} : ∀ (ts : List Nat) (i : Nat), i + ts.length < 2 ^ 31 → mm_sw x k dflt i ts → (∃ j t, ts[j]? = some t ∧ x.toInt = ((i + j : Nat) : Int) ∧ k t) ∨ ((∀ j, j < ts.length → x.toInt ≠ ((i + j : Nat) : Int)) ∧ k dflt)
  | [], i, _, h => Or.inr ⟨fun j hj => absurd hj (Nat.not_lt_zero _), h⟩
  | t :: ts, i, hi, h => by
    simp only [List.length_cons] at hi
    by_cases hx : x = Int32.ofNat i
    · refine Or.inl ⟨0, t, rfl, ?_, h.1 hx⟩
      rw [hx]
      exact nI_toInt (n := i) (by omega)
    · rcases mm_sw_ok ts (i + 1) (by omega) (h.2 hx) with ⟨j, u, h1, h2, h3⟩ | ⟨h1, h2⟩
      · exact Or.inl ⟨j + 1, u, by simpa using h1, by rw [h2]; congr 1; omega, h3⟩
      · refine Or.inr ⟨fun j hj => ?_, h2⟩
        cases j with
        | zero =>
          intro e
          apply hx
          apply Int32.toInt_inj.mp
          rw [e]
          exact (nI_toInt (n := i) (by omega)).symm
        | succ j =>
          have := h1 j (by simpa using hj)
          intro e
          apply this
          rw [e]; congr 1; omega
theorem ok_tsw {own : String} {cc : ByteArray} {nL : Nat} {ret : Option FieldType} {R : Room} {pc : Nat} {dfo hi : Int} {offs : Array Int} {len : Nat} {ts : List Nat} {dflt : Nat} (hd : decode cc pc = .ok (.tableswitch dfo 0 hi offs, len)) (hdf : (pc : Int) + dfo = (dflt : Int)) (hts : offs.toList.map (fun o => (pc : Int) + o) = ts.map (fun t : Nat => (t : Int))) (hhi : hi + 1 = (ts.length : Int)) (hsm : ts.length < 1000) : mm_ok own cc nL ret R pc (o_tsw ts dflt) := by
  intro l σ dC dI cI hinj p e s m args below meth c hC Qr K hK lc st μ h H locs ls hP hS hL
  unfold o_tsw at h
  split at h
  · rename_i x st'
    rcases mm_sw_ok ts 0 (by omega) h with ⟨j, t, h1, h2, h3⟩ | ⟨h1, h2⟩
    · have hj : j < ts.length := (List.getElem?_eq_some_iff.mp h1).1
      have ho : (offs.toList.map (fun o => (pc : Int) + o))[j]? = some (t : Int) := by rw [hts, List.getElem?_map, h1]; rfl
      rw [List.getElem?_map] at ho
      cases hq : offs.toList[j]? with
      | none => rw [hq] at ho; cases ho
      | some off =>
        rw [hq] at ho
        have e3 : (pc : Int) + off = (t : Int) := Option.some.inj ho
        exact lv_tableIn hC.1 hC.2.1 hd (by omega) (by omega) (off := off) (by rw [show (x.toInt - 0).toNat = j by omega, ← Array.getElem?_toList]; exact hq) e3 (h3 H locs ls hP hS hL)
    · refine lv_tableOut hC.1 hC.2.1 hd ?_ hdf (h2 H locs ls hP hS hL)
      by_cases q : x.toInt < 0
      · exact Or.inl q
      · refine Or.inr ?_
        by_cases q2 : hi < x.toInt
        · exact q2
        · exfalso
          exact h1 x.toInt.toNat (by omega) (by omega)
  · exact h.elim
def o_getf (ci k nx : Nat) : mm_T := fun lc st μ K _ _ => match st with
  | .ref r :: s => bif Nat.beq (mm_sh r).2.1 ci then (match mm_nth (mm_sh r).2.2 k 98 with
    | 0 => K nx lc (.int (μ.1 r k) :: s) μ
    | 1 => K nx lc (.long (μ.2 r) :: s) μ
    | 2 => K nx lc (.int (μ.1 r k) :: s) μ
    | n + 3 => K nx lc (.ref n :: s) μ) else False
  | _ => False
theorem mm_cls_lt {r ci : Nat} (h : (mm_sh r).2.1 = ci) (hc : ci < 90) : r < 31 ∧ (mm_sh r).1 = none := by
  by_cases hr : r < 31
  · refine ⟨hr, ?_⟩
    have key : ∀ r, r < 31 → (mm_sh r).2.1 < 90 → (mm_sh r).1 = none := by decide +kernel
    exact key r hr (by omega)
  · exfalso
    have : ∀ (l : List (Option Nat × Nat × List Nat)) (i : Nat), l.length ≤ i → mm_nth l i (none, 98, []) = (none, 98, []) := by
      intro l
      induction l with
      | nil => intro i _; rfl
      | cons a l ih =>
        intro i hi
        cases i with
        | zero => simp at hi
        | succ i => exact ih i (by simpa using hi)
    have e := this mm_shp r (by show 31 ≤ r; omega)
    unfold mm_sh at h
    rw [e] at h
    simp at h
    omega
theorem mm_obj_at {σ : Nat → Nat} {cI : ClassId} {μ : mm_M} {r ci : Nat} (h : (mm_sh r).2.1 = ci) (hc : ci < 90) : (mm_w σ cI μ)[r]? = some (σ r, .inr (ci, mm_fs σ μ r 0 (mm_sh r).2.2)) := by
  obtain ⟨h1, h2⟩ := mm_cls_lt h hc
  rw [mm_w_get h1]
  unfold mm_e
  rw [h2, h]
theorem mm_beq {a b : Nat} {P : Prop} (h : bif Nat.beq a b then P else False) : a = b ∧ P := by
  cases hb : Nat.beq a b with
  | true => rw [hb] at h; exact ⟨Nat.eq_of_beq_eq_true hb, h⟩
  | false => rw [hb] at h; exact h.elim
theorem mm_kd_len {l : List Nat} {k : Nat} (h : mm_nth l k 98 ≠ 98) : k < l.length := by
  induction l generalizing k with
  | nil => exact absurd rfl h
  | cons a l ih =>
    cases k with
    | zero => simp
    | succ k => simpa using ih (k := k) h
theorem ok_getf {own : String} {cc : ByteArray} {nL : Nat} {ret : Option FieldType} {R : Room} {pc : Nat} {index ci k N : Nat} {C : String} {T : u_T} (hc : vwCl[ci]? = some (C, T, N)) (hci : ci < 90) (hin : ∀ w ∈ u_ws C T N, w ∈ mm_big) (hk : k < N) (hsz : ∀ r, r < 31 → (mm_sh r).2.1 = ci → (mm_sh r).2.2.length = N) (hw : Cond.fieldLink own index (T k).1 (T k).2.1 (T k).2.2.1 ∈ mm_big) (hd : decode cc pc = .ok (.getfield index, 3)) : mm_ok own cc nL ret R pc (o_getf ci k (pc + 3)) := by
  intro l σ dC dI cI hi p e s m args below meth c hC Qr K hK lc st μ h H locs ls hP hS hL
  unfold o_getf at h
  split at h
  · rename_i r st'
    obtain ⟨hb, h⟩ := mm_beq h
    have hr := mm_cls_lt hb hci
    have hkl : k < (mm_sh r).2.2.length := by rw [hsz r hr.1 hb]; exact hk
    have hv := mm_fs_get (σ := σ) (μ := μ) (r := r) (mm_sh r).2.2 0 k hkl
    rw [Nat.zero_add] at hv
    have go : ∀ v : Value, mm_fv σ μ r k (mm_nth (mm_sh r).2.2 k 98) = v → W p l e R s m args below meth c H locs 0 0 (MQ below (mm_Qc σ dC dI cI Qr) args s 0 0 (mm_A σ)) (F0 m (pc + 3) ls (v :: st'.map (mm_c σ))) → W p l e R s m args below meth c H locs 0 0 (MQ below (mm_Qc σ dC dI cI Qr) args s 0 0 (mm_A σ)) (F0 m pc ls ((Value.ref r :: st').map (mm_c σ))) := fun v hv2 hz =>
      va_get (D := (dC, dI)) (ci := ci) hC.1 hC.2.1 hC.2.2.2.2.2.2.1 hin hC.2.2.2.2.2.1 hC.2.2.2.2.2.2.2.1 hP r (mm_obj_at hb hci) hc k hk (hC.2.2.2.2.2.2.1 _ hw) (fun _ h9 => h9) (hv.trans (congrArg some hv2)) hd hz
    split at h
    · rename_i hq
      exact go _ (by rw [hq]; rfl) (hK _ _ _ _ h H locs ls hP hS hL)
    · rename_i hq
      exact go _ (by rw [hq]; rfl) (hK _ _ _ _ h H locs ls hP hS hL)
    · rename_i hq
      exact go _ (by rw [hq]; rfl) (hK _ _ _ _ h H locs ls hP hS hL)
    · rename_i hq
      exact go _ (by rw [hq]; rfl) (hK _ _ _ _ h H locs ls hP hS hL)
  · exact h.elim
def o_putf (ci k nx : Nat) : mm_T := fun lc st μ K _ _ => match st with
  | v :: .ref r :: s => bif Nat.beq (mm_sh r).2.1 ci then (match mm_nth (mm_sh r).2.2 k 98, v with
    | 0, .int x => K nx lc s (mm_put μ r k x)
    | 1, .long x => K nx lc s (mm_putl μ r x)
    | 2, .int x => (x = 0 ∨ x = 1) ∧ K nx lc s (mm_put μ r k x)
    | _, _ => False) else False
  | _ => False
theorem mm_put_e {σ : Nat → Nat} {cI : ClassId} {μ : mm_M} {r ci k : Nat} {x : Int32} (hb : (mm_sh r).2.1 = ci) (hc : ci < 90) (hk : k < (mm_sh r).2.2.length) (hkd : mm_nth (mm_sh r).2.2 k 98 = 0 ∨ mm_nth (mm_sh r).2.2 k 98 = 2) : (mm_w σ cI μ).set r (σ r, .inr (ci, (mm_fs σ μ r 0 (mm_sh r).2.2).set k (.int x))) = mm_w σ cI (mm_put μ r k x) := by
  obtain ⟨h1, h2⟩ := mm_cls_lt hb hc
  rw [← mm_w_set (r := r) (μ := μ) (μ' := mm_put μ r k x) (fun i hi => mm_e_put i hi)]
  congr 1
  unfold mm_e
  rw [h2, hb]
  congr 4
  have e : ∀ i kd, mm_fv σ (mm_put μ r k x) r i kd = if i = k ∧ (kd = 0 ∨ kd = 2) then .int x else mm_fv σ μ r i kd := by
    intro i kd
    have hu : (mm_put μ r k x).1 r i = if i = k then x else μ.1 r i := by simp [mm_put, va_up, upd]
    match kd with
    | 0 => simp only [mm_fv, hu]; by_cases q : i = k <;> simp [q]
    | 1 => simp only [mm_fv]; by_cases q : i = k <;> simp [q, mm_put]
    | 2 => simp only [mm_fv, hu]; by_cases q : i = k <;> simp [q]
    | n + 3 => simp only [mm_fv]; by_cases q : i = k <;> simp [q]
  have gen : ∀ (l : List Nat) (j i : Nat), j + i = k → i < l.length → (mm_nth l i 98 = 0 ∨ mm_nth l i 98 = 2) → (mm_fs σ μ r j l).set i (.int x) = mm_fs σ (mm_put μ r k x) r j l := by
    have rest : ∀ (l : List Nat) (j : Nat), k < j → mm_fs σ μ r j l = mm_fs σ (mm_put μ r k x) r j l := by
      intro l
      induction l with
      | nil => intro j _; rfl
      | cons a l ih =>
        intro j hj
        simp only [mm_fs, e, ih (j + 1) (by omega)]
        rw [if_neg (fun q => by omega)]
    intro l
    induction l with
    | nil => intro j i _ h _; exact absurd h (Nat.not_lt_zero _)
    | cons a l ih =>
      intro j i hj hl hn
      cases i with
      | zero =>
        have : j = k := by omega
        subst this
        simp only [mm_nth] at hn
        simp only [mm_fs, List.set_cons_zero, e, rest l (j + 1) (by omega)]
        rw [if_pos ⟨trivial, hn⟩]
      | succ i =>
        simp only [mm_fs, List.set_cons_succ, e]
        rw [if_neg (fun q => by omega), ih (j + 1) i (by omega) (by simpa using hl) (by simpa [mm_nth] using hn)]
  exact gen (mm_sh r).2.2 0 k (by omega) hk hkd
theorem mm_putl_e {σ : Nat → Nat} {cI : ClassId} {μ : mm_M} {r ci k : Nat} {x : Int64} (hb : (mm_sh r).2.1 = ci) (hc : ci < 90) (hk : k < (mm_sh r).2.2.length) (hkd : mm_nth (mm_sh r).2.2 k 98 = 1) : (mm_w σ cI μ).set r (σ r, .inr (ci, (mm_fs σ μ r 0 (mm_sh r).2.2).set k (.long x))) = mm_w σ cI (mm_putl μ r x) := by
  obtain ⟨h1, h2⟩ := mm_cls_lt hb hc
  rw [← mm_w_set (r := r) (μ := μ) (μ' := mm_putl μ r x) (fun i hi => mm_e_putl i hi)]
  congr 1
  unfold mm_e
  rw [h2, hb]
  congr 4
  have uni1 : ∀ r, r < 31 → ∀ k, k < 30 → ((r = 19 ∧ k = 0) ∨ (r = 21 ∧ k = 23)) ∨ mm_nth (mm_sh r).2.2 k 98 ≠ 1 := by decide +kernel
  have len : ∀ r, r < 31 → (mm_sh r).2.2.length < 30 := by decide +kernel
  have e : ∀ i kd, mm_fv σ (mm_putl μ r x) r i kd = if kd = 1 then .long x else mm_fv σ μ r i kd := by
    intro i kd
    match kd with
    | 0 => rfl
    | 1 => simp [mm_fv, mm_putl, va_up]
    | 2 => rfl
    | n + 3 => simp [mm_fv]
  have gen : ∀ (l : List Nat) (j i : Nat), i < l.length → mm_nth l i 98 = 1 → (∀ q, q < l.length → q ≠ i → mm_nth l q 98 ≠ 1) → (mm_fs σ μ r j l).set i (.long x) = mm_fs σ (mm_putl μ r x) r j l := by
    have rest : ∀ (l : List Nat) (j : Nat), (∀ q, q < l.length → mm_nth l q 98 ≠ 1) → mm_fs σ μ r j l = mm_fs σ (mm_putl μ r x) r j l := by
      intro l
      induction l with
      | nil => intro j _; rfl
      | cons a l ih =>
        intro j hj
        have h0 := hj 0 (by simp)
        simp only [mm_nth] at h0
        simp only [mm_fs, e, ih (j + 1) (fun q hq => by have := hj (q + 1) (by simpa using hq); simpa [mm_nth] using this)]
        rw [if_neg h0]
    intro l
    induction l with
    | nil => intro j i h _ _; exact absurd h (Nat.not_lt_zero _)
    | cons a l ih =>
      intro j i hl hn ho
      cases i with
      | zero =>
        simp only [mm_nth] at hn
        simp only [mm_fs, List.set_cons_zero, e]
        rw [if_pos hn, rest l (j + 1) (fun q hq => by have := ho (q + 1) (by simpa using hq) (by omega); simpa [mm_nth] using this)]
      | succ i =>
        have h0 := ho 0 (by simp) (by omega)
        simp only [mm_nth] at h0
        simp only [mm_fs, List.set_cons_succ, e]
        rw [if_neg h0, ih (j + 1) i (by simpa using hl) (by simpa [mm_nth] using hn) (fun q hq hne => by have := ho (q + 1) (by simpa using hq) (by omega); simpa [mm_nth] using this)]
  have hl := len r h1
  exact gen (mm_sh r).2.2 0 k hk hkd (fun q hq hne => by
    rcases uni1 r h1 q (by omega) with z | z
    · rcases uni1 r h1 k (by omega) with z2 | z2
      · omega
      · exact absurd hkd z2
    · exact z)
theorem ok_putf {own : String} {cc : ByteArray} {nL : Nat} {ret : Option FieldType} {R : Room} {pc : Nat} {index ci k N : Nat} {C : String} {T : u_T} (ty : Nat → FieldType) (hty : ∀ k, k < N → parseFieldDescriptor (T k).2.2.1 = some (ty k)) (hnm : ∀ a, a < N → ∀ b, b < N → a ≠ b → (T a).2.1 ≠ (T b).2.1) (hc : vwCl[ci]? = some (C, T, N)) (hci : ci < 90) (hin : ∀ w ∈ u_ws C T N, w ∈ mm_big) (hk : k < N) (hsz : ∀ r, r < 31 → (mm_sh r).2.1 = ci → (mm_sh r).2.2.length = N) (hkt : ∀ r, r < 31 → (mm_sh r).2.1 = ci → (mm_nth (mm_sh r).2.2 k 98 = 0 → ty k = .int) ∧ (mm_nth (mm_sh r).2.2 k 98 = 1 → ty k = .long) ∧ (mm_nth (mm_sh r).2.2 k 98 = 2 → ty k = .boolean)) (hfin : (T k).2.2.2 = false) (hw : Cond.fieldLink own index (T k).1 (T k).2.1 (T k).2.2.1 ∈ mm_big) (hd : decode cc pc = .ok (.putfield index, 3)) : mm_ok own cc nL ret R pc (o_putf ci k (pc + 3)) := by
  intro l σ dC dI cI hi p e s m args below meth c hC Qr K hK lc st μ h H locs ls hP hS hL
  unfold o_putf at h
  split at h
  · rename_i v r st'
    obtain ⟨hb, h⟩ := mm_beq h
    have hr := mm_cls_lt hb hci
    have hkl : k < (mm_sh r).2.2.length := by rw [hsz r hr.1 hb]; exact hk
    obtain ⟨t0, t1, t2⟩ := hkt r hr.1 hb
    have go : ∀ (v2 : Value) (μ' : mm_M), mm_c σ v = v2 → narrow (ty k) v2 = v2 → fits (ty k) v2 = true → (mm_w σ cI μ).set r (σ r, .inr (ci, (mm_fs σ μ r 0 (mm_sh r).2.2).set k v2)) = mm_w σ cI μ' → K (pc + 3) lc st' μ' → W p l e R s m args below meth c H locs 0 0 (MQ below (mm_Qc σ dC dI cI Qr) args s 0 0 (mm_A σ)) (F0 m pc ls ((v :: Value.ref r :: st').map (mm_c σ))) := by
      intro v2 μ' hv2 hn hf hset hk2
      have := va_put (D := (dC, dI)) (ci := ci) (v := v2) (ty := ty k) (rest := st'.map (mm_c σ)) (ls := ls) (pc := pc) (Q := MQ below (mm_Qc σ dC dI cI Qr) args s 0 0 (mm_A σ)) (p := p) (l := l) (e := e) (R := R) (below := below) (meth := meth) hC.1 hC.2.1 hC.2.2.2.2.2.2.1 hin ty hty hnm hC.2.2.2.2.2.1 hC.2.2.2.2.2.2.2.1 hP (mm_w_D hi) hS r (mm_obj_at hb hci) hc k hk (hC.2.2.2.2.2.2.1 _ hw) (fun _ h9 => h9) hfin (hty k hk) hn hf (by rw [mm_fs_len]; exact hkl) hd (fun H1 locs1 q1 q2 q3 => by
        rw [hset] at q1
        exact hK _ _ _ _ hk2 H1 locs1 ls q1 q3 hL)
      rw [← hv2] at this
      exact this
    split at h
    · rename_i hq _
      exact go _ _ rfl (by rw [t0 hq]; rfl) (by rw [t0 hq]; rfl) (mm_put_e hb hci hkl (Or.inl hq)) h
    · rename_i hq _
      exact go _ _ rfl (by rw [t1 hq]; rfl) (by rw [t1 hq]; rfl) (mm_putl_e hb hci hkl hq) h
    · rename_i xv hq _
      have hz : narrow .boolean (.int xv) = .int xv := by rcases h.1 with rfl | rfl <;> rfl
      have hz2 : fits .boolean (.int xv) = true := by rcases h.1 with rfl | rfl <;> rfl
      exact go _ _ rfl (by rw [t2 hq]; exact hz) (by rw [t2 hq]; exact hz2) (mm_put_e hb hci hkl (Or.inr hq)) h.2
    · exact h.elim
  · exact h.elim
def o_iald (nx : Nat) : mm_T := fun lc st μ K _ _ => match st with
  | .int i :: .ref r :: s => (match (mm_sh r).1 with
    | some n => vp_in i n ∧ K nx lc (.int (μ.1 r i.toNatClampNeg) :: s) μ
    | none => False)
  | _ => False
def o_iast (nx : Nat) : mm_T := fun lc st μ K _ _ => match st with
  | .int x :: .int i :: .ref r :: s => (match (mm_sh r).1 with
    | some n => vp_in i n ∧ K nx lc s (mm_put μ r i.toNatClampNeg x)
    | none => False)
  | _ => False
def o_alen (nx : Nat) : mm_T := fun lc st μ K _ _ => match st with
  | .ref r :: s => (match (mm_sh r).1 with
    | some n => K nx lc (.int (Int32.ofNat n) :: s) μ
    | none => False)
  | _ => False
theorem mm_arr_lt {r n : Nat} (h : (mm_sh r).1 = some n) : r < 31 := by
  rcases Nat.lt_or_ge r 31 with q | q
  · exact q
  · exfalso
    have : ∀ (l : List (Option Nat × Nat × List Nat)) (i : Nat), l.length ≤ i → mm_nth l i (none, 98, []) = (none, 98, []) := by
      intro l
      induction l with
      | nil => intro i _; rfl
      | cons a l ih =>
        intro i hi
        cases i with
        | zero => simp at hi
        | succ i => exact ih i (by simpa using hi)
    have e := this mm_shp r (by show 31 ≤ r; omega)
    unfold mm_sh at h
    rw [e] at h
    cases h
theorem mm_arr_at {σ : Nat → Nat} {cI : ClassId} {μ : mm_M} {r n : Nat} (h : (mm_sh r).1 = some n) : (mm_w σ cI μ)[r]? = some (σ r, .inl (cI, n, .inl (μ.1 r))) := by
  rw [mm_w_get (mm_arr_lt h)]
  unfold mm_e
  rw [h]
theorem ok_iald {own : String} {cc : ByteArray} {nL : Nat} {ret : Option FieldType} {R : Room} {pc : Nat} (hd : decode cc pc = .ok (.iaload, 1)) : mm_ok own cc nL ret R pc (o_iald (pc + 1)) := by
  intro l σ dC dI cI hi p e s m args below meth c hC Qr K hK lc st μ h H locs ls hP hS hL
  unfold o_iald at h
  split at h
  · rename_i i r st'
    split at h
    · rename_i n hn
      exact va_iald hC.1 hC.2.1 hC.2.2.2.2.2.2.2.1 hP r 0 (mm_arr_at hn) rfl h.1 hd (hK _ _ _ _ h.2 H locs ls hP hS hL)
    · exact h.elim
  · exact h.elim
theorem ok_alen {own : String} {cc : ByteArray} {nL : Nat} {ret : Option FieldType} {R : Room} {pc : Nat} (hd : decode cc pc = .ok (.arraylength, 1)) : mm_ok own cc nL ret R pc (o_alen (pc + 1)) := by
  intro l σ dC dI cI hi p e s m args below meth c hC Qr K hK lc st μ h H locs ls hP hS hL
  unfold o_alen at h
  split at h
  · rename_i r st'
    split at h
    · rename_i n hn
      exact va_alen hC.1 hC.2.1 hC.2.2.2.2.2.2.2.1 hP r 0 (mm_arr_at hn) rfl rfl hd (hK _ _ _ _ h H locs ls hP hS hL)
    · exact h.elim
  · exact h.elim
theorem ok_iast {own : String} {cc : ByteArray} {nL : Nat} {ret : Option FieldType} {R : Room} {pc : Nat} (hd : decode cc pc = .ok (.iastore, 1)) : mm_ok own cc nL ret R pc (o_iast (pc + 1)) := by
  intro l σ dC dI cI hi p e s m args below meth c hC Qr K hK lc st μ h H locs ls hP hS hL
  unfold o_iast at h
  split at h
  · rename_i x i r st'
    split at h
    · rename_i n hn
      refine va_iast hC.1 hC.2.1 hC.2.2.2.2.2.2.2.1 hP (mm_w_D hi) hS r 0 (mm_arr_at hn) rfl h.1 hd (fun H1 locs1 q1 q2 q3 => ?_)
      have e : (mm_w σ cI μ).set r (σ r, .inl (cI, n, .inl (upd (μ.1 r) i.toNatClampNeg x))) = mm_w σ cI (mm_put μ r i.toNatClampNeg x) := by
        rw [← mm_w_set (r := r) (μ := μ) (μ' := mm_put μ r i.toNatClampNeg x) (fun i hi => mm_e_put i hi)]
        congr 1
        unfold mm_e
        rw [hn]
        simp [mm_put, va_up]
      rw [e] at q1
      exact hK _ _ _ _ h.2 H1 locs1 ls q1 q3 hL
    · exact h.elim
  · exact h.elim
/-! returns -/
def o_iret : mm_T := fun _ st μ _ _ Q => match st with
  | [.int v] => Q (some (.int v)) μ
  | _ => False
def o_zret : mm_T := fun _ st μ _ _ Q => match st with
  | [.int v] => (v = 0 ∨ v = 1) ∧ Q (some (.int v)) μ
  | _ => False
def o_lret : mm_T := fun _ st μ _ _ Q => match st with
  | [.long v] => Q (some (.long v)) μ
  | _ => False
def o_vret : mm_T := fun _ st μ _ _ Q => match st with
  | [] => Q none μ
  | _ => False
theorem ok_iret {own : String} {cc : ByteArray} {nL : Nat} {R : Room} {pc : Nat} (hd : decode cc pc = .ok (.ireturn, 1)) : mm_ok own cc nL (some .int) R pc o_iret := by
  intro l σ dC dI cI hi p e s m args below meth c hC Qr K hK lc st μ h H locs ls hP hS hL
  unfold o_iret at h
  split at h
  · exact W.iret hC.1 hC.2.1 hC.2.2.2.1 (fun t ht _ => ⟨⟨_, μ, rfl, h, by rw [ht]; exact hP⟩, hS.F ht⟩) hS.2.2 hd hC.2.2.2.2.1
  · exact h.elim
theorem ok_zret {own : String} {cc : ByteArray} {nL : Nat} {R : Room} {pc : Nat} (hd : decode cc pc = .ok (.ireturn, 1)) : mm_ok own cc nL (some .boolean) R pc o_zret := by
  intro l σ dC dI cI hi p e s m args below meth c hC Qr K hK lc st μ h H locs ls hP hS hL
  unfold o_zret at h
  split at h
  · rename_i v
    have hz : narrow .boolean (.int v) = .int v := by rcases h.1 with rfl | rfl <;> rfl
    exact W.zret hC.1 hC.2.1 hC.2.2.2.1 hz (fun t ht _ => ⟨⟨_, μ, rfl, h.2, by rw [ht]; exact hP⟩, hS.F ht⟩) hS.2.2 hd hC.2.2.2.2.1
  · exact h.elim
theorem ok_lret {own : String} {cc : ByteArray} {nL : Nat} {R : Room} {pc : Nat} (hd : decode cc pc = .ok (.lreturn, 1)) : mm_ok own cc nL (some .long) R pc o_lret := by
  intro l σ dC dI cI hi p e s m args below meth c hC Qr K hK lc st μ h H locs ls hP hS hL
  unfold o_lret at h
  split at h
  · exact W.lret hC.1 hC.2.1 hC.2.2.2.1 (fun t ht _ => ⟨⟨_, μ, rfl, h, by rw [ht]; exact hP⟩, hS.F ht⟩) hS.2.2 hd hC.2.2.2.2.1
  · exact h.elim
theorem ok_vret {own : String} {cc : ByteArray} {nL : Nat} {R : Room} {pc : Nat} (hd : decode cc pc = .ok (.return_, 1)) : mm_ok own cc nL none R pc o_vret := by
  intro l σ dC dI cI hi p e s m args below meth c hC Qr K hK lc st μ h H locs ls hP hS hL
  unfold o_vret at h
  split at h
  · exact W.vret hC.1 hC.2.1 hC.2.2.2.1 (fun t ht _ => ⟨⟨none, μ, rfl, h, by rw [ht]; exact hP⟩, hS.F ht⟩) hS.2.2 hd hC.2.2.2.2.1
  · exact h.elim
end MMOPS
/-! methods -/
def mm_Sp (y : MethodName) (cc : ByteArray) (nL : Nat) (ret : Option FieldType) (rm : Room) (m : Nat → mm_T) : Prop :=
  ∀ (l : Launch) (σ : Nat → Nat) (dC : Nat → ClassId) (dI : Nat → Nat → Nat) (cI : ClassId), mm_inj σ → ∀ (as : List Value) (μ : mm_M) (Qr : mm_R), (mm_ent as).length ≤ nL → mm_Runs m Qr 0 (mm_pad nL (mm_ent as)) [] μ →
    Met l y (Cond.code y cc nL ret :: mm_big) rm (mm_Pc σ dC dI cI as μ) (mm_Qc σ dC dI cI Qr) 0 0 (mm_A σ)
theorem mm_sound {y : MethodName} {own : String} {cc : ByteArray} {nL : Nat} {ret : Option FieldType} {rm : Room} {code : List (Nat × mm_T)} (hy : plainName y.cls = true) (hcls : y.cls = own) (hok : ∀ q ∈ code, mm_ok own cc nL ret rm q.1 q.2) : mm_Sp y cc nL ret rm (mm_look code) := by
  intro l σ dC dI cI hi as μ Qr hlen hr
  refine Met.ofW (cc := cc) (maxL := nL) (ret := ret) hy rfl ?_
  intro p e s m args below meth c s₁ B hml hv
  obtain ⟨rfl, hP, hK, hN⟩ := hv
  have hts := atoms_spec (ws := Cond.code y cc nL ret :: mm_big) B.pre
  have hown : s.vm.findClass own = some m.cls := by rw [← hcls]; exact findClass_of_methodNamed B.named
  have hC : mm_Cx dC dI cI own cc nL ret p s m (as.map (mm_c σ)).toArray meth c := ⟨B.exec, B.bytes, hml, B.returns, B.notSynchronized, hown, fun w hw => hts w (List.mem_cons_of_mem _ hw), hK, hN⟩
  have hl := lv_entry (as.map (mm_c σ)) (n := nL) (by rw [mm_ent_map]; exact hlen)
  rw [lg_entry_eq]
  have hL : mm_L σ ((lg_sl (as.map (mm_c σ)) ++ List.replicate (nL - (lg_sl (as.map (mm_c σ))).length) Slot.unset).toArray) nL (mm_pad nL (mm_ent as)) := by
    refine ⟨hl.1, hl.2.1, mm_pad_len _ _ hlen, fun i v hiv hn => ?_⟩
    have := mm_ent_args σ as 0 i v (mm_pad_get _ _ _ _ hiv hn) hn
    rw [Nat.zero_add] at this
    exact hl.2.2 _ this
  have key := hr (mm_WJ p l e rm s m (as.map (mm_c σ)).toArray below meth c σ dC dI cI nL 0 0 (mm_A σ) (MQ below (mm_Qc σ dC dI cI Qr) (as.map (mm_c σ)).toArray s 0 0 (mm_A σ))) ?_ ?_
  · exact key s.heap [] _ hP va_S.rf hL
  · intro n
    induction n with
    | zero => intro pc lc st μ h; exact h
    | succ n ih =>
      intro pc lc st μ h
      exact mm_look_ok code hok pc l σ dC dI cI hi p e s m _ below meth c hC Qr _ ih lc st μ h
  · intro is pc lc st μ h H locs ls hP hS hL
    obtain ⟨lc', hL', hW⟩ := mm_fg_ok hL h
    exact hW H locs ls hP hS hL'
theorem mm_blind {σ : Nat → Nat} {dC : Nat → ClassId} {dI : Nat → Nat → Nat} {cI : ClassId} {as : List Value} {μ : mm_M} : FrameBlind (mm_Pc σ dC dI cI as μ) := by
  intro a U g mk q
  obtain ⟨q1, q2, q3, q4⟩ := q
  exact ⟨q1, q2, va_K.moved (u := U) (U := U.calling g mk a) (Vm.Alike.refl U.vm) q3, fun w hw => va_Nw.same (u := U) (U := U.calling g mk a) (by
    have : ∀ w ∈ mm_nest, w.onTables = true := by decide +kernel
    exact this w hw) rfl (q4 w hw)⟩
theorem mm_warm {w : Cond} (hw : w ∈ mm_nest) {s U : State} (hW : s.WarmedH U.vm) (h : va_Nw w s) : va_Nw w U := by
  simp only [mm_nest, List.mem_cons, List.not_mem_nil, or_false] at hw
  rcases hw with rfl | rfl | rfl | rfl <;> exact va_Nw.warmM hW h
/-- behind a call, at the level of W -/
theorem mm_after {p : Program} {l : Launch} {e : Env} {R : Room} {s : State} {m : MethodId} {args : Array Value} {below : List Frame} {meth : Method} {c : Code} {H : Heap} {locs : List Loc} {cells slots : Nat} {Q : State → Prop} {pc : Nat} {ls : Array Slot} {st0 rest : List Value} {a : Array Value} {σ : Nat → Nat} {dC : Nat → ClassId} {dI : Nat → Nat → Nat} {cI : ClassId} {Qr : mm_R} {A : Nat → Prop} {H0 : Heap} (hA : ∀ q, mm_A σ q → A q)
    (hr : va_Run p l e R s m args below meth c H locs cells slots 0 0 (F0 m pc ls st0) rest (mm_Qc σ dC dI cI Qr a) (mm_A σ)) (hS : va_S A H0 H locs)
    (kk : ∀ (v : Option Value) (μ' : mm_M) (H1 : Heap) (locs1 : List Loc), Qr v μ' → va_P (dC, dI) vwCl (mm_w σ cI μ') H1 → va_S A H0 H1 locs1 → (∀ q : Nat, q < H.size → ¬ mm_A σ q → H1[q]? = H[q]?) → W p l e R s m args below meth c H1 locs1 cells slots Q (F0 m (pc + 3) ls ((v.map (mm_c σ)).toList ++ rest))) : W p l e R s m args below meth c H locs cells slots Q (F0 m pc ls st0) := by
  intro T hT X
  obtain ⟨v, st₀, t, T', L, h0, X', hL, e1, e2, ⟨⟨v', μ', hv, hp, hb⟩, hz, hk⟩, st⟩ := hr T hT X
  cases hv
  rw [h0] at hz hk
  obtain ⟨t2, a1, b1⟩ := kk v' μ' T'.heap (locs ++ L) hp (by rw [e1]; exact hb)
    ⟨Nat.le_trans hS.1 (by rw [e1]; exact hz), fun q h1 h2 => by rw [e1, hk q (Nat.lt_of_lt_of_le h1 hS.1) (fun z => h2 (hA q z))]; exact hS.2.1 q h1 h2, fun q hq => by
      rcases List.mem_append.mp hq with h | h
      · exact hS.2.2 q h
      · exact hA _ (hL q h)⟩ (fun q h1 h2 => by rw [e1]; exact hk q h1 h2) T' rfl X'
  exact ⟨t2, st t2 a1, b1⟩
theorem mm_cats (σ : Nat → Nat) (l : List Value) : ((l.map (mm_c σ)).map fun v => v.category).sum = (l.map fun v => v.category).sum := by
  rw [List.map_map]
  congr 1
  apply List.map_congr_left
  intro v _
  exact mm_c_cat σ v
def o_callV (ci : Nat) (m : Nat → mm_T) (nL n nx : Nat) : mm_T := fun lc st μ K _ _ => mm_tk n st [] (fun as rest => match rest with
  | .ref r :: rest' => bif Nat.beq (mm_sh r).2.1 ci && (Nat.ble (rest'.map fun v => v.category).sum 8 && Nat.ble (mm_ent (.ref r :: as)).length nL) then mm_Runs m (fun v μ' => mm_ps v rest' (fun st' => K nx lc st' μ')) 0 (mm_pad nL (mm_ent (.ref r :: as))) [] μ else False
  | _ => False)
def o_callS (m : Nat → mm_T) (nL n nx : Nat) : mm_T := fun lc st μ K _ _ => mm_tk n st [] (fun as rest => bif Nat.ble (rest.map fun v => v.category).sum 8 && Nat.ble (mm_ent as).length nL then mm_Runs m (fun v μ' => mm_ps v rest (fun st' => K nx lc st' μ')) 0 (mm_pad nL (mm_ent as)) [] μ else False)
theorem mm_bif2 {a b : Bool} {P : Prop} (h : bif a && b then P else False) : a = true ∧ b = true ∧ P := by
  cases a <;> cases b <;> first | exact h.elim | exact ⟨rfl, rfl, h⟩
theorem mm_rev (σ : Nat → Nat) (as rest : List Value) : (as.reverse ++ rest).map (mm_c σ) = (as.map (mm_c σ)).reverse ++ rest.map (mm_c σ) := by simp
theorem mm_ps_ok {σ : Nat → Nat} {v : Option Value} {rest : List Value} {k : List Value → Prop} (h : mm_ps v rest k) : ∃ st, k st ∧ st.map (mm_c σ) = (v.map (mm_c σ)).toList ++ rest.map (mm_c σ) := by
  cases v with
  | none => exact ⟨rest, h, rfl⟩
  | some w => exact ⟨w :: rest, h, rfl⟩
/-- a call of an instance method, at the level of W -/
theorem mm_callV {p : Program} {l : Launch} {e : Env} {R : Room} {s : State} {m : MethodId} {args : Array Value} {below : List Frame} {meth : Method} {c : Code} {H : Heap} {locs : List Loc} {cells slots : Nat} {σ : Nat → Nat} {dC : Nat → ClassId} {dI : Nat → Nat → Nat} {cI : ClassId} {own : String} {cc : ByteArray} {nL : Nat} {pc index ci n maxL : Nat} {y : MethodName} {bytes : ByteArray} {ret' : Option FieldType} {rm : Room} {mt : Nat → mm_T} {ls : Array Slot} {C : String} {T : u_T} {N : Nat}
    (hx : p.tables.exec = Jvm.exec) (hb : c.code = cc) (hml : c.maxLocals = nL) (hown : s.vm.findClass own = some m.cls) (hts : ∀ w ∈ mm_big, w.before args s = true) (hK : va_K (dC, dI) vwCl [(cI, .int)] s) (hN : ∀ w ∈ mm_nest, va_Nw w s) (hi : mm_inj σ) (hls : ls.size = nL)
    (hsp : mm_Sp y bytes maxL ret' rm mt) (hc : vwCl[ci]? = some (C, T, N)) (hci : ci < 90) (hw : (.methodLink own index y ∈ mm_big ∧ .instanceMethod y ∈ mm_big ∧ .selects C y y ∈ mm_big ∧ .initialized C ∈ mm_big ∧ .code y bytes maxL ret' ∈ mm_big)) (hdd : y.cls = C ∧ y.cls ≠ "java/lang/invoke/MethodHandle" ∧ y.cls ≠ "java/lang/invoke/VarHandle" ∧ (parseMethodDescriptor y.desc).map (fun d => d.parameters.length) = some n) (hrm : rm.cells = 0 ∧ rm.slots = 0 ∧ rm.frames + 1 ≤ R.frames ∧ 8 + (maxL + 11) + rm.locals ≤ R.locals) (hd : decode cc pc = .ok (.invokevirtual index, 3))
    {r : Nat} {as rest : List Value} {μ : mm_M} {Qr : mm_R} (hP : va_P (dC, dI) vwCl (mm_w σ cI μ) H) (hr : (mm_sh r).2.1 = ci) (hlen : as.length = n) (hcat : (rest.map fun v => v.category).sum ≤ 8) (hle : (mm_ent (.ref r :: as)).length ≤ maxL) (hrun : mm_Runs mt Qr 0 (mm_pad maxL (mm_ent (.ref r :: as))) [] μ) (hf : cells ≤ R.cells ∧ slots ≤ R.slots) :
    va_Run p l e R s m args below meth c H locs cells slots 0 0 (F0 m pc ls ((as.reverse ++ .ref r :: rest).map (mm_c σ))) (rest.map (mm_c σ)) (mm_Qc σ dC dI cI Qr ((.ref r :: as).map (mm_c σ)).toArray) (mm_A σ) := by
  obtain ⟨w1, w2, w3, w4, w5⟩ := hw
  have hG : GoodIn mm_big (wsV own index C y (Cond.code y bytes maxL ret' :: mm_big)) := by
    intro w hw
    simp only [wsV, List.mem_append, List.mem_cons, List.not_mem_nil, or_false] at hw
    rcases hw with (rfl | rfl | rfl | rfl) | rfl | hw
    · exact mm_good w1
    · exact mm_good w2
    · exact mm_good w3
    · exact mm_good w4
    · exact mm_good w5
    · exact mm_good hw
  have hM := hsp l σ dC dI cI hi (.ref r :: as) μ Qr hle hrun
  refine va_runV (C := C) (As := as.map (mm_c σ)) (b := σ r) (rest := rest.map (mm_c σ)) ⟨hx, hb, hml, hown, hts⟩ hM (cwV n hts hG rfl hrm.1 hrm.2.1 hdd ⟨hrm.2.2.1, hrm.2.2.2⟩) ⟨mm_blind, va_recv hK hP hc (mm_obj_at hr hci), fun U hU hW => ⟨rfl, by rw [hU]; exact hP, va_K.moved hW.alike hK, fun w hw => mm_warm hw hW (hN w hw)⟩⟩ rfl (by simpa using hlen) hls ?_ (lv_room (by rw [mm_cats]; exact hcat)) hd ⟨by omega, by omega⟩
  show (as.reverse ++ Value.ref r :: rest).map (mm_c σ) = _
  rw [mm_rev]; rfl
theorem ok_callV {own : String} {cc : ByteArray} {nL : Nat} {ret : Option FieldType} {R : Room} {pc index ci n maxL : Nat} {y : MethodName} {bytes : ByteArray} {ret' : Option FieldType} {rm : Room} {mt : Nat → mm_T} {C : String} {T : u_T} {N : Nat} (hsp : mm_Sp y bytes maxL ret' rm mt) (hc : vwCl[ci]? = some (C, T, N)) (hci : ci < 90) (hw : (.methodLink own index y ∈ mm_big ∧ .instanceMethod y ∈ mm_big ∧ .selects C y y ∈ mm_big ∧ .initialized C ∈ mm_big ∧ .code y bytes maxL ret' ∈ mm_big)) (hdd : y.cls = C ∧ y.cls ≠ "java/lang/invoke/MethodHandle" ∧ y.cls ≠ "java/lang/invoke/VarHandle" ∧ (parseMethodDescriptor y.desc).map (fun d => d.parameters.length) = some n) (hrm : rm.cells = 0 ∧ rm.slots = 0 ∧ rm.frames + 1 ≤ R.frames ∧ 8 + (maxL + 11) + rm.locals ≤ R.locals) (hd : decode cc pc = .ok (.invokevirtual index, 3)) : mm_ok own cc nL ret R pc (o_callV ci mt maxL n (pc + 3)) := by
  intro l σ dC dI cI hi p e s m args below meth c hC Qr K hK lc st μ h H locs ls hP hS hL
  obtain ⟨as, rest, h1, h2, h3⟩ := mm_tk_ok h
  rw [List.append_nil] at h3
  split at h3
  · rename_i r rest'
    obtain ⟨b1, b2, h3⟩ := mm_bif2 h3
    have b2' : Nat.ble (rest'.map fun v => v.category).sum 8 = true ∧ Nat.ble (mm_ent (.ref r :: as)).length maxL = true := by
      cases q1 : Nat.ble (rest'.map fun v => v.category).sum 8 <;> cases q2 : Nat.ble (mm_ent (.ref r :: as)).length maxL <;> first | exact ⟨rfl, rfl⟩ | (rw [q1, q2] at b2; cases b2)
    subst h2
    refine mm_after (fun q z => z) (mm_callV hC.1 hC.2.1 hC.2.2.1 hC.2.2.2.2.2.1 hC.2.2.2.2.2.2.1 hC.2.2.2.2.2.2.2.1 hC.2.2.2.2.2.2.2.2 hi hL.1 hsp hc hci hw hdd hrm hd hP (Nat.eq_of_beq_eq_true b1) h1 (Nat.le_of_ble_eq_true b2'.1) (Nat.le_of_ble_eq_true b2'.2) h3 ⟨Nat.zero_le _, Nat.zero_le _⟩) hS (fun v μ' H1 locs1 q1 q2 q3 _ => ?_)
    obtain ⟨st', q4, q5⟩ := mm_ps_ok (σ := σ) q1
    rw [← q5]
    exact hK _ _ _ _ q4 H1 locs1 ls q2 q3 hL
  · exact h3.elim
theorem ok_callS {own : String} {cc : ByteArray} {nL : Nat} {ret : Option FieldType} {R : Room} {pc index n maxL : Nat} {y : MethodName} {bytes : ByteArray} {ret' : Option FieldType} {rm : Room} {mt : Nat → mm_T} (hsp : mm_Sp y bytes maxL ret' rm mt) (hw : (.methodLink own index y ∈ mm_big ∧ .static y ∈ mm_big ∧ .initialized y.cls ∈ mm_big ∧ .code y bytes maxL ret' ∈ mm_big)) (hdd : y.cls ≠ "java/lang/invoke/MethodHandle" ∧ y.cls ≠ "java/lang/invoke/VarHandle" ∧ (parseMethodDescriptor y.desc).map (fun d => d.parameters.length) = some n) (hrm : rm.cells = 0 ∧ rm.slots = 0 ∧ rm.frames + 1 ≤ R.frames ∧ 8 + (maxL + 11) + rm.locals ≤ R.locals) (hd : decode cc pc = .ok (.invokestatic index, 3)) : mm_ok own cc nL ret R pc (o_callS mt maxL n (pc + 3)) := by
  intro l σ dC dI cI hi p e s m args below meth c hC Qr K hK lc st μ h H locs ls hP hS hL
  obtain ⟨as, rest, h1, h2, h3⟩ := mm_tk_ok h
  rw [List.append_nil] at h3
  obtain ⟨b1, b2, h3⟩ := mm_bif2 h3
  subst h2
  obtain ⟨w1, w2, w3, w4⟩ := hw
  have hG : GoodIn mm_big (va_wsS own index y (Cond.code y bytes maxL ret' :: mm_big)) := by
    intro w hw
    simp only [va_wsS, List.mem_append, List.mem_cons, List.not_mem_nil, or_false] at hw
    rcases hw with (rfl | rfl | rfl) | rfl | hw
    · exact mm_good w1
    · exact mm_good w2
    · exact mm_good w3
    · exact mm_good w4
    · exact mm_good hw
  have hM := hsp l σ dC dI cI hi as μ _ (Nat.le_of_ble_eq_true b2) h3
  have hrun := va_runS (p := p) (l := l) (e := e) (R := R) (s := s) (m := m) (args := args) (below := below) (meth := meth) (c := c) (H := H) (locs := locs) (cells := 0) (slots := 0) (g := F0 m pc ls ((as.reverse ++ rest).map (mm_c σ))) (As := as.map (mm_c σ)) (rest := rest.map (mm_c σ)) (own := own) (index := index) ⟨hC.1, hC.2.1, hC.2.2.1, hC.2.2.2.2.2.1, hC.2.2.2.2.2.2.1⟩ hM (va_cwS n hC.2.2.2.2.2.2.1 hG rfl hrm.1 hrm.2.1 hdd ⟨hrm.2.2.1, hrm.2.2.2⟩) ⟨mm_blind, fun U hU hW => ⟨rfl, by rw [hU]; exact hP, va_K.moved hW.alike hC.2.2.2.2.2.2.2.1, fun w hw => mm_warm hw hW (hC.2.2.2.2.2.2.2.2 w hw)⟩⟩ rfl (by simpa using h1) hL.1 (mm_rev σ as rest) (lv_room (by rw [mm_cats]; exact Nat.le_of_ble_eq_true b1)) hd ⟨Nat.zero_le _, Nat.zero_le _⟩
  refine mm_after (fun q z => z) hrun hS (fun v μ' H1 locs1 q1 q2 q3 _ => ?_)
  obtain ⟨st', q4, q5⟩ := mm_ps_ok (σ := σ) q1
  rw [← q5]
  exact hK _ _ _ _ q4 H1 locs1 ls q2 q3 hL
theorem ok_callSN {own host : String} {cc : ByteArray} {nL : Nat} {ret : Option FieldType} {R : Room} {pc index n maxL : Nat} {y : MethodName} {bytes : ByteArray} {ret' : Option FieldType} {rm : Room} {mt : Nat → mm_T} (hsp : mm_Sp y bytes maxL ret' rm mt) (hw : (.methodLinkNest own index y host ∈ mm_nest ∧ .static y ∈ mm_big ∧ .initialized y.cls ∈ mm_big ∧ .code y bytes maxL ret' ∈ mm_big)) (hdd : y.cls ≠ "java/lang/invoke/MethodHandle" ∧ y.cls ≠ "java/lang/invoke/VarHandle" ∧ (parseMethodDescriptor y.desc).map (fun d => d.parameters.length) = some n) (hrm : rm.cells = 0 ∧ rm.slots = 0 ∧ rm.frames + 1 ≤ R.frames ∧ 8 + (maxL + 11) + rm.locals ≤ R.locals) (hd : decode cc pc = .ok (.invokestatic index, 3)) : mm_ok own cc nL ret R pc (o_callS mt maxL n (pc + 3)) := by
  intro l σ dC dI cI hi p e s m args below meth c hC Qr K hK lc st μ h H locs ls hP hS hL
  obtain ⟨as, rest, h1, h2, h3⟩ := mm_tk_ok h
  rw [List.append_nil] at h3
  obtain ⟨b1, b2, h3⟩ := mm_bif2 h3
  subst h2
  obtain ⟨w1, w2, w3, w4⟩ := hw
  have hts := hC.2.2.2.2.2.2.1
  have hG : GoodIn mm_big (Cond.code y bytes maxL ret' :: mm_big) := by
    intro w hw
    rcases List.mem_cons.mp hw with rfl | hw
    · exact mm_good w4
    · exact mm_good hw
  have hM := hsp l σ dC dI cI hi as μ _ (Nat.le_of_ble_eq_true b2) h3
  have hrun := va_runSN (p := p) (l := l) (e := e) (R := R) (s := s) (m := m) (args := args) (below := below) (meth := meth) (c := c) (H := H) (locs := locs) (cells := 0) (slots := 0) (g := F0 m pc ls ((as.reverse ++ rest).map (mm_c σ))) (As := as.map (mm_c σ)) (rest := rest.map (mm_c σ)) (own := own) (host := host) (index := index) ⟨hC.1, hC.2.1, hC.2.2.1, hC.2.2.2.2.2.1, hts⟩ hM ⟨va_cnB n hts hG rfl hrm.1 hrm.2.1 (hC.2.2.2.2.2.2.2.2 _ w1) (hts _ w3) hdd ⟨hrm.2.2.1, hrm.2.2.2⟩, hts _ w2, trivial⟩ ⟨mm_blind, fun U hU hW => ⟨rfl, by rw [hU]; exact hP, va_K.moved hW.alike hC.2.2.2.2.2.2.2.1, fun w hw => mm_warm hw hW (hC.2.2.2.2.2.2.2.2 w hw)⟩⟩ rfl (by simpa using h1) hL.1 (mm_rev σ as rest) (lv_room (by rw [mm_cats]; exact Nat.le_of_ble_eq_true b1)) hd ⟨Nat.zero_le _, Nat.zero_le _⟩
  refine mm_after (fun q z => z) hrun hS (fun v μ' H1 locs1 q1 q2 q3 _ => ?_)
  obtain ⟨st', q4, q5⟩ := mm_ps_ok (σ := σ) q1
  rw [← q5]
  exact hK _ _ _ _ q4 H1 locs1 ls q2 q3 hL

