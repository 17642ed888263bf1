/-! what each call keeps of a dome's state -/
def AK (n : Nat) (st : st_T) : Prop := AOK st ∧ st.2.2.1 ≤ n ∧ (st.2.2.1 = 0 → st.2.2.2.2.2.2 = none)
theorem AK_u {n : Nat} {st : st_T} (h : AK n st) : AK (n + 1) st := ⟨h.1, Nat.le_succ_of_le h.2.1, h.2.2⟩
theorem pIs_v {n : Nat} {a : Int32} (hn : n ≤ 1000) (h : pIs n a) : a.toNatClampNeg < n := by
  obtain ⟨q, h1, rfl⟩ := h
  rw [ar_cl (by omega)]; exact h1
theorem k_letter {n : Nat} {st : st_T} {c : Int32} (h : AK n st) : AK (n + 1) (F_letter st c).2 := by
  have h0 := AK_u h
  obtain ⟨L, pg, D, S, d, f, im⟩ := st
  obtain ⟨⟨a1, a2, a3, a4, a5, a6, a7⟩, hn, a8⟩ := h
  simp only [F_letter]
  split
  · split
    · exact h0
    · exact ⟨⟨by omega, a2, a3, a4, a5, a6, a7⟩, Nat.le_succ_of_le hn, a8⟩
  · exact h0
theorem k_blank {n : Nat} {st : st_T} (h : AK n st) : AK (n + 1) (F_blank st).2 := by
  obtain ⟨L, pg, D, S, d, f, im⟩ := st
  obtain ⟨⟨a1, a2, a3, a4, a5, a6, a7⟩, hn, a8⟩ := h
  exact ⟨⟨Nat.zero_le _, a2, a3, a4, a5, a6, a7⟩, Nat.le_succ_of_le hn, a8⟩
theorem k_dome {n : Nat} {st : st_T} (hk : n < 900) (h : AK n st) : AK (n + 1) (F_dome st).2 := by
  have h0 := AK_u h
  obtain ⟨L, pg, D, S, d, f, im⟩ := st
  obtain ⟨⟨a1, a2, a3, a4, a5, a6, a7⟩, hn, a8⟩ := h
  have hn' : D ≤ n := hn
  simp only [F_dome]
  split
  · rename_i c
    have g := flt_le pg L
    rw [c.2] at g
    refine ⟨⟨Nat.zero_le _, by omega, a3, (dOf_ok g.2.1).1, ⟨⟨Nat.zero_le _, fun q hq => absurd hq (Nat.not_lt_zero _), Nat.zero_lt_succ 255⟩, Nat.zero_le _, fun i hi => absurd hi (Nat.not_lt_zero _)⟩, fun _ => rfl, fun g hg => (nomatch hg)⟩, ?_, fun _ => rfl⟩
    show D + 1 ≤ n + 1
    omega
  · exact h0
theorem and_lt8 {a b : Nat} (h : a < 256) : a &&& b < 256 := Nat.lt_of_le_of_lt Nat.and_le_left h
theorem or_lt8 {a j : Nat} (h : a < 256) (hj : j < 8) : a ||| 2 ^ j < 256 := Nat.or_lt_two_pow (n := 8) h (Nat.pow_lt_pow_right (by decide) hj)
theorem k_cloth {n : Nat} {st : st_T} {a b : Int32} (h : AK n st) : AK (n + 1) (F_cloth st a b).2 := by
  have h0 := AK_u h
  obtain ⟨L, pg, D, S, d, f, im⟩ := st
  obtain ⟨⟨a1, a2, a3, a4, a5, a6, a7⟩, hn, a8⟩ := h
  simp only [F_cloth]
  split
  · rename_i c
    refine ⟨⟨a1, a2, a3, a4, ⟨sCl_ok a5.1 ?_, a5.2⟩, a6, a7⟩, Nat.le_succ_of_le hn, a8⟩
    split
    · exact and_lt8 a5.1.2.2
    · exact or_lt8 a5.1.2.2 (pIs_v (by omega) c.2)
  · exact h0
theorem sEn_ok {s : sc_T} {k p : Nat} (hs : sOK s) (h6 : s.1 ≠ 6) (hk : k < 5) (hp : p < 8) : sOK (sEn s k p) := by
  have h1 := hs.1
  refine ⟨by show s.1 + 1 ≤ 6; omega, fun q hq => ?_, hs.2.2⟩
  have hq' : q < s.1 + 1 := hq
  by_cases e : q = s.1
  · subst e
    simp only [sEn, updN, if_true]
    exact ⟨by omega, hp, by decide⟩
  · simp only [sEn, updN, if_neg e]
    exact hs.2.1 q (by omega)
theorem k_person {n : Nat} {st : st_T} {a b : Int32} (h : AK n st) : AK (n + 1) (F_person st a b).2 := by
  have h0 := AK_u h
  obtain ⟨L, pg, D, S, d, f, im⟩ := st
  obtain ⟨⟨a1, a2, a3, a4, a5, a6, a7⟩, hn, a8⟩ := h
  simp only [F_person]
  split
  · rename_i c1
    split
    · rename_i c2
      split
      · exact h0
      · rename_i c3
        exact ⟨⟨a1, a2, a3, a4, ⟨sEn_ok a5.1 c3 (pIs_v (by omega) c1) (pIs_v (by omega) c2.2), a5.2⟩, fun z => by have := c2.1; omega, a7⟩, Nat.le_succ_of_le hn, a8⟩
    · exact h0
  · exact h0
theorem k_move {n : Nat} {st : st_T} {a b : Int32} (h : AK n st) : AK (n + 1) (F_move st a b).2 := by
  have h0 := AK_u h
  obtain ⟨L, pg, D, S, d, f, im⟩ := st
  obtain ⟨⟨a1, a2, a3, a4, a5, a6, a7⟩, hn, a8⟩ := h
  simp only [F_move]
  split
  · rename_i c
    exact ⟨⟨a1, a2, a3, a4, ⟨sMv_ok a5.1 (pIs_v (by omega) c.2.2), a5.2⟩, a6, a7⟩, Nat.le_succ_of_le hn, a8⟩
  · exact h0
theorem k_say {n : Nat} {st : st_T} {a b : Int32} (h : AK n st) : AK (n + 1) (F_say st a b).2 := by
  have h0 := AK_u h
  obtain ⟨L, pg, D, S, d, f, im⟩ := st
  obtain ⟨⟨a1, a2, a3, a4, a5, a6, a7⟩, hn, a8⟩ := h
  simp only [F_say]
  split
  · split
    · rename_i c2
      split
      · exact h0
      · exact ⟨⟨a1, a2, a3, a4, ⟨lrn_ok a5.1 (pIs_v (by omega) c2), a5.2⟩, a6, a7⟩, Nat.le_succ_of_le hn, a8⟩
    · exact h0
  · exact h0
theorem k_screens {n : Nat} {st : st_T} {a b w : Int32} (h : AK n st) : AK (n + 1) (F_screens st a b w).2 := by
  have h0 := AK_u h
  obtain ⟨L, pg, D, S, d, f, im⟩ := st
  obtain ⟨⟨a1, a2, a3, a4, a5, a6, a7⟩, hn, a8⟩ := h
  simp only [F_screens]
  split
  · split
    · split
      · exact h0
      · exact ⟨⟨a1, a2, by omega, a4, a5, a6, a7⟩, Nat.le_succ_of_le hn, a8⟩
    · exact h0
  · exact h0
theorem k_trial {n : Nat} {st : st_T} {a b : Int32} (h : AK n st) : AK (n + 1) (F_trial st a b).2 := by
  have h0 := AK_u h
  obtain ⟨L, pg, D, S, d, f, im⟩ := st
  obtain ⟨⟨a1, a2, a3, a4, a5, a6, a7⟩, hn, a8⟩ := h
  have h6 := a5.1.1
  simp only [F_trial]
  split
  · rename_i c1
    split
    · exact h0
    · rename_i c2
      have h8 := a5.2.1
      refine ⟨⟨a1, a2, a3, a4, ⟨a5.1, ?_, fun i hi => ?_⟩, a6, a7⟩, Nat.le_succ_of_le hn, a8⟩
      · show f.2.2.1 + 1 ≤ 8
        omega
      · have hi' : i < f.2.2.1 + 1 := hi
        by_cases e : i = f.2.2.1
        · subst e
          simp only [updN, if_true]
          have := pIs_v (by omega) c1
          exact ⟨by omega, by split <;> decide⟩
        · simp only [updN, if_neg e]
          exact a5.2.2 i (by omega)
  · exact h0
theorem k_forget {n : Nat} {st : st_T} (h : AK n st) : AK (n + 1) (F_forget st).2 := by
  obtain ⟨L, pg, D, S, d, f, im⟩ := st
  obtain ⟨⟨a1, a2, a3, a4, a5, a6, a7⟩, hn, a8⟩ := h
  exact ⟨⟨a1, a2, a3, a4, ⟨a5.1, Nat.zero_le _, fun i hi => absurd hi (Nat.not_lt_zero _)⟩, a6, a7⟩, Nat.le_succ_of_le hn, a8⟩
theorem k_image {n : Nat} {st : st_T} (h : AK n st) : AK (n + 1) (F_image st).2 := by
  have h0 := AK_u h
  obtain ⟨L, pg, D, S, d, f, im⟩ := st
  obtain ⟨⟨a1, a2, a3, a4, a5, a6, a7⟩, hn, a8⟩ := h
  simp only [F_image]
  split
  · rename_i c
    exact ⟨⟨a1, a2, a3, a4, a5, a6, fun g hg => by cases hg; exact a5⟩, Nat.le_succ_of_le hn, fun z => absurd z (Nat.pos_iff_ne_zero.mp c)⟩
  · exact h0
theorem k_restore {n : Nat} {st : st_T} (h : AK n st) : AK (n + 1) (F_restore st).2 := by
  have h0 := AK_u h
  obtain ⟨L, pg, D, S, d, f, im⟩ := st
  obtain ⟨⟨a1, a2, a3, a4, a5, a6, a7⟩, hn, a8⟩ := h
  cases im with
  | none => exact h0
  | some g => exact ⟨⟨a1, a2, a3, a4, a7 g rfl, fun z => (nomatch (a8 z)), a7⟩, Nat.le_succ_of_le hn, a8⟩
