/-! the state of a dome, and what each call makes of it -/
/-- letters of the page, the page, domes read, screens done, the dome, the scene, the image -/
abbrev st_T : Type := Nat × (Nat → Int32) × Nat × Nat × dm_T × fs_T × Option fs_T
def fOK (f : fs_T) : Prop := sOK f.1 ∧ tOK f.2.2
def AOK : st_T → Prop
  | (L, _, D, S, d, f, im) => L ≤ 20 ∧ D < 1000 ∧ S ≤ 20 ∧ dOK d ∧ fOK f ∧ (D = 0 → f.1.1 = 0) ∧ ∀ g, im = some g → fOK g
def RX : st_T → mm_M → Prop
  | (L, pg, D, S, d, f, im), μ => μ.1 0 1 = nI L ∧ (∀ j, j < L → μ.1 1 j = pg j) ∧ μ.1 0 10 = nI D ∧ μ.1 0 11 = nI S ∧ XD d μ ∧ XF 5 f μ ∧ (match im with
    | none => μ.1 0 9 = 0
    | some g => μ.1 0 9 = 1 ∧ XF 9 g μ)
def MF (f : fs_T) (μ : mm_M) : Prop := MS f.1 μ ∧ μ.1 21 4 = f.2.1 ∧ μ.1 21 12 = nI f.2.2.1 ∧ ∀ i, i < f.2.2.1 → μ.1 27 (2 * i) = nI (f.2.2.2.1 i) ∧ μ.1 27 (2 * i + 1) = nI (f.2.2.2.2 i)
def MK (f : fs_T) (μ : mm_M) : Prop := μ.1 21 17 = nI f.1.1 ∧ μ.1 21 18 = nI f.1.2.2.2.2 ∧ μ.1 21 19 = f.2.1 ∧ μ.1 21 20 = nI f.2.2.1 ∧ (∀ q, q < f.1.1 → μ.1 29 (3 * q) = nI (f.1.2.1 q) ∧ μ.1 29 (3 * q + 1) = nI (f.1.2.2.1 q) ∧ μ.1 29 (3 * q + 2) = nI (f.1.2.2.2.1 q)) ∧ ∀ i, i < f.2.2.1 → μ.1 30 (2 * i) = nI (f.2.2.2.1 i) ∧ μ.1 30 (2 * i + 1) = nI (f.2.2.2.2 i)
def thr (D : Nat) : Nat := if 0 < D then 1 else 0
def RM : st_T → mm_M → Prop
  | (L, pg, D, S, d, f, im), μ => μ.1 21 1 = nI L ∧ (∀ j, j < L → μ.1 22 j = pg j) ∧ μ.1 21 2 = nI (thr D) ∧ μ.1 21 5 = nI D ∧ μ.1 21 11 = nI S ∧ MD d μ ∧ MF f μ ∧ (match im with
    | none => μ.1 21 16 = -1 ∨ ∃ e, e < D ∧ μ.1 21 16 = nI e
    | some g => μ.1 21 16 = nI D ∧ MK g μ)
abbrev XA : List Nat := [0, 1, 2, 3, 4, 5, 6, 7, 8, 9, 10, 11, 12, 13, 14, 15, 16, 17, 18, 19, 20]
abbrev MA : List Nat := [21, 22, 23, 24, 25, 26, 27, 28, 29, 30]
/-- scratch cells of the class and of the reference -/
abbrev XZ : List Nat := [13, 14, 15, 16, 17, 18, 19, 20]
theorem RX_e {st : st_T} {μ μ' : mm_M} (h : RX st μ) (e : ∀ r, r < 13 → μ'.1 r = μ.1 r) : RX st μ' := by
  obtain ⟨L, pg, D, S, d, f, im⟩ := st
  obtain ⟨h1, h2, h3, h4, h5, h6, h7⟩ := h
  refine ⟨by rw [e 0 (by omega)]; exact h1, fun j hj => by rw [e 1 (by omega)]; exact h2 j hj, by rw [e 0 (by omega)]; exact h3, by rw [e 0 (by omega)]; exact h4, XD_fr h5 (e 3 (by omega)) (e 4 (by omega)), XF_fr h6 (e 5 (by omega)) (e 6 (by omega)) (e 7 (by omega)) (e 8 (by omega)), ?_⟩
  cases im with
  | none => show μ'.1 0 9 = 0; rw [e 0 (by omega)]; exact h7
  | some g => exact ⟨by rw [e 0 (by omega)]; exact h7.1, XF_fr h7.2 (e 9 (by omega)) (e 10 (by omega)) (e 11 (by omega)) (e 12 (by omega))⟩
theorem MF_fr {f : fs_T} {μ μ' : mm_M} (h : MF f μ) (h21 : μ'.1 21 = μ.1 21) (h25 : μ'.1 25 = μ.1 25) (h27 : μ'.1 27 = μ.1 27) : MF f μ' := by
  refine ⟨MS_fr h.1 (by rw [h21]) (by rw [h21]) h25, by rw [h21]; exact h.2.1, by rw [h21]; exact h.2.2.1, fun i hi => by rw [h27]; exact h.2.2.2 i hi⟩
theorem MK_fr {f : fs_T} {μ μ' : mm_M} (h : MK f μ) (h21 : μ'.1 21 = μ.1 21) (h29 : μ'.1 29 = μ.1 29) (h30 : μ'.1 30 = μ.1 30) : MK f μ' := by
  unfold MK; rw [h21, h29, h30]; exact h
/-- the reference's scratch: minutes and saved rows, and longs -/
theorem RM_fr {st : st_T} {μ μ' : mm_M} (h : RM st μ) (hf : ∀ r, 20 < r → r ≠ 26 → r ≠ 28 → μ'.1 r = μ.1 r) : RM st μ' := by
  obtain ⟨L, pg, D, S, d, f, im⟩ := st
  obtain ⟨h1, h2, h3, h4, h5, h6, h7, h8⟩ := h
  have e21 := hf 21 (by omega) (by omega) (by omega)
  refine ⟨by rw [e21]; exact h1, fun j hj => by rw [hf 22 (by omega) (by omega) (by omega)]; exact h2 j hj, by rw [e21]; exact h3, by rw [e21]; exact h4, by rw [e21]; exact h5, MD_fr h6 (hf 23 (by omega) (by omega) (by omega)) (hf 24 (by omega) (by omega) (by omega)), MF_fr h7 e21 (hf 25 (by omega) (by omega) (by omega)) (hf 27 (by omega) (by omega) (by omega)), ?_⟩
  cases im with
  | none => show μ'.1 21 16 = -1 ∨ ∃ e, e < D ∧ μ'.1 21 16 = nI e; rw [e21]; exact h8
  | some g => exact ⟨by rw [e21]; exact h8.1, MK_fr h8.2 e21 (hf 29 (by omega) (by omega) (by omega)) (hf 30 (by omega) (by omega) (by omega))⟩
theorem RM_X {st : st_T} {μ μ' : mm_M} (h : RM st μ) (hf : fr XA μ μ') : RM st μ' := RM_fr h (fun r hr _ _ => hf.1 r (by simp; omega))
theorem RX_fr {st : st_T} {μ μ' : mm_M} (h : RX st μ) (hf : fr XZ μ μ') : RX st μ' := RX_e h (fun r hr => hf.1 r (by simp; omega))
theorem RX_M {st : st_T} {μ μ' : mm_M} (h : RX st μ) (hf : fr MA μ μ') : RX st μ' := RX_e h (fun r hr => hf.1 r (by simp; omega))
theorem XA_Z {μ μ' : mm_M} (h : fr XZ μ μ') : fr XA μ μ' := fr_w h (fun r hr => by simp at hr ⊢; omega)
/-- letters -/
def gd (k : Nat) (c : Int32) : Prop := if k < 8 then 97 ≤ c ∧ c ≤ 104 else if k = 8 then c = 59 else k < 17 ∧ 48 ≤ c ∧ c ≤ 57
def isF (pg : Nat → Int32) (L i : Nat) : Prop := i ≤ L ∧ (∀ j, j < i → gd j (pg j)) ∧ (i < L → ¬ gd i (pg i))
noncomputable def flt (pg : Nat → Int32) (L : Nat) : Nat := Classical.epsilon (isF pg L)
theorem flt_of {pg : Nat → Int32} {L i : Nat} (h : isF pg L i) : flt pg L = i := by
  have g : isF pg L (flt pg L) := Classical.epsilon_spec (p := isF pg L) ⟨i, h⟩
  rcases Nat.lt_trichotomy (flt pg L) i with z | z | z
  · exact absurd (h.2.1 _ z) (g.2.2 (by have := h.1; omega))
  · exact z
  · exact absurd (g.2.1 _ z) (h.2.2 (by have := g.1; omega))
theorem isF_ex (pg : Nat → Int32) : ∀ L, ∃ i, isF pg L i
  | 0 => ⟨0, Nat.le_refl _, fun j hj => absurd hj (Nat.not_lt_zero _), fun h => absurd h (Nat.not_lt_zero _)⟩
  | L + 1 => by
    obtain ⟨i, h1, h2, h3⟩ := isF_ex pg L
    by_cases e : i < L
    · exact ⟨i, by omega, h2, fun _ => h3 e⟩
    · by_cases g : gd L (pg L)
      · refine ⟨L + 1, Nat.le_refl _, fun j hj => ?_, fun h => absurd h (Nat.lt_irrefl _)⟩
        by_cases e2 : j = L
        · subst e2; exact g
        · exact h2 j (by omega)
      · have e3 : i = L := by omega
        subst e3
        exact ⟨i, by omega, h2, fun _ => g⟩
theorem flt_le (pg : Nat → Int32) (L : Nat) : isF pg L (flt pg L) := by
  obtain ⟨i, h⟩ := isF_ex pg L
  rw [flt_of h]; exact h
def dOf (pg : Nat → Int32) : dm_T := (fun j => (pg j).toNatClampNeg - 97, fun j => (pg (9 + j)).toNatClampNeg - 48)
theorem dOf_ok {pg : Nat → Int32} (h : ∀ j, j < 17 → gd j (pg j)) : dOK (dOf pg) ∧ ∀ j, j < 8 → pg j = nI (97 + (dOf pg).1 j) ∧ pg (9 + j) = nI (48 + (dOf pg).2 j) := by
  have key : ∀ j, j < 8 → ((dOf pg).1 j < 8 ∧ (dOf pg).2 j ≤ 9) ∧ pg j = nI (97 + (dOf pg).1 j) ∧ pg (9 + j) = nI (48 + (dOf pg).2 j) := by
    intro j hj
    have h1 := h j (by omega)
    have h2 := h (9 + j) (by omega)
    unfold gd at h1 h2
    rw [if_pos hj] at h1
    rw [if_neg (by omega), if_neg (by omega)] at h2
    obtain ⟨a1, a2, a3⟩ := nI_of2 (x := pg j) (M := 104) (n := 104) rfl (by rw [ar_lt]; have := h1.1; rw [ar_le] at this; have e : (97 : Int32).toInt = 97 := rfl; have e0 : (0 : Int32).toInt = 0 := rfl; omega) h1.2
    obtain ⟨b1, b2, b3⟩ := nI_of2 (x := pg (9 + j)) (M := 57) (n := 57) rfl (by rw [ar_lt]; have := h2.2.1; rw [ar_le] at this; have e : (48 : Int32).toInt = 48 := rfl; have e0 : (0 : Int32).toInt = 0 := rfl; omega) h2.2.2
    have c1 : 97 ≤ a1 := by have := h1.1; rw [a3, show (97 : Int32) = nI 97 from rfl, nI_leI (by omega) (by omega)] at this; exact this
    have c2 : 48 ≤ b1 := by have := h2.2.1; rw [b3, show (48 : Int32) = nI 48 from rfl, nI_leI (by omega) (by omega)] at this; exact this
    have d1 : (dOf pg).1 j = a1 - 97 := by show (pg j).toNatClampNeg - 97 = _; rw [a3, ar_cl (by omega)]
    have d2 : (dOf pg).2 j = b1 - 48 := by show (pg (9 + j)).toNatClampNeg - 48 = _; rw [b3, ar_cl (by omega)]
    rw [d1, d2]
    exact ⟨⟨by omega, by omega⟩, by rw [a3]; congr 1; omega, by rw [b3]; congr 1; omega⟩
  exact ⟨fun j hj => (key j hj).1, fun j hj => (key j hj).2⟩
noncomputable def F_letter : st_T → Int32 → Int32 × st_T
  | (L, pg, r), c => by classical exact if 1 ≤ c ∧ c ≤ 126 then (if L = 20 then (-104, (L, pg, r)) else (nI (L + 1), (L + 1, upd pg L c, r))) else (-102, (L, pg, r))
def F_blank : st_T → Int32 × st_T
  | (L, r) => (nI L, (0, r))
noncomputable def A_fault : st_T → Int32
  | (L, pg, _) => nI (flt pg L)
noncomputable def F_dome : st_T → Int32 × st_T
  | (L, pg, D, S, d, f, im) => by classical exact if L = 17 ∧ flt pg L = 17 then (nI (elsw (dOf pg)), (0, pg, D + 1, S, dOf pg, ((0, f.1.2.1, f.1.2.2.1, f.1.2.2.2.1, 0), 0, (0, f.2.2.2)), none)) else (-103, (L, pg, D, S, d, f, im))
def bt1 (c j : Nat) : Nat := if c.testBit j then 1 else 0
def tP (d : dm_T) (s : sc_T) (j : Nat) (w : Int32) : Int32 := if w = 0 then nI (d.1 j) else if w = 1 then nI (d.2 j) else if w = 2 then nI (bt1 s.2.2.2.2 j) else if w = 3 then nI (pAt s j) else if w = 4 then nI (rent d j) else if w = 5 then nI (srcs d j) else -102
noncomputable def A_place : st_T → Int32 → Int32 → Int32
  | (_, _, D, _, d, f, _), p, w => by classical exact if 0 < D ∧ pIs 8 p then tP d f.1 p.toNatClampNeg w else -101
def sCl (s : sc_T) (c : Nat) : sc_T := (s.1, s.2.1, s.2.2.1, s.2.2.2.1, c)
noncomputable def F_cloth : st_T → Int32 → Int32 → Int32 × st_T
  | (L, pg, D, S, d, f, im), p, b => by classical exact if 0 < D ∧ pIs 8 p then (nI (bt1 f.1.2.2.2.2 p.toNatClampNeg), (L, pg, D, S, d, (sCl f.1 (if b = 0 then f.1.2.2.2.2 &&& (255 ^^^ 2 ^ p.toNatClampNeg) else f.1.2.2.2.2 ||| 2 ^ p.toNatClampNeg), f.2), im)) else (-101, (L, pg, D, S, d, f, im))
def updN (f : Nat → Nat) (k v : Nat) : Nat → Nat := fun j => if j = k then v else f j
def sEn (s : sc_T) (k p : Nat) : sc_T := (s.1 + 1, updN s.2.1 s.1 k, updN s.2.2.1 s.1 p, updN s.2.2.2.1 s.1 0, s.2.2.2.2)
noncomputable def F_person : st_T → Int32 → Int32 → Int32 × st_T
  | (L, pg, D, S, d, f, im), k, p => by classical exact if pIs 5 k then (if 0 < D ∧ pIs 8 p then (if f.1.1 = 6 then (-104, (L, pg, D, S, d, f, im)) else (nI f.1.1, (L, pg, D, S, d, (sEn f.1 k.toNatClampNeg p.toNatClampNeg, f.2), im))) else (-101, (L, pg, D, S, d, f, im))) else (-102, (L, pg, D, S, d, f, im))
noncomputable def tA (d : dm_T) (s : sc_T) (j : Nat) (w : Int32) : Int32 := if w = 0 then nI (s.2.1 j) else if w = 1 then nI (s.2.2.1 j) else if w = 2 then nI (s.2.2.2.1 j) else if w = 3 then nI (hM d s j) else -102
noncomputable def A_about : st_T → Int32 → Int32 → Int32
  | (_, _, _, _, d, f, _), a, w => by classical exact if pIs f.1.1 a then tA d f.1 a.toNatClampNeg w else -101
noncomputable def A_as : st_T → Int32 → Int32 → Int32
  | (_, _, _, _, _, f, _), a, k => by classical exact if pIs f.1.1 a then (if pIs 5 k then (if k = 0 ∨ k = nI (f.1.2.1 a.toNatClampNeg) ∨ (k = 2 ∧ f.1.2.1 a.toNatClampNeg = 4) then a else -1) else -102) else -101
def sMv (s : sc_T) (q p : Nat) : sc_T := (s.1, s.2.1, updN s.2.2.1 q p, s.2.2.2.1, s.2.2.2.2)
noncomputable def F_move : st_T → Int32 → Int32 → Int32 × st_T
  | (L, pg, D, S, d, f, im), a, p => by classical exact if pIs f.1.1 a ∧ 0 < D ∧ pIs 8 p then (nI (f.1.2.2.1 a.toNatClampNeg), (L, pg, D, S, d, (sMv f.1 a.toNatClampNeg p.toNatClampNeg, f.2), im)) else (-101, (L, pg, D, S, d, f, im))
noncomputable def F_say : st_T → Int32 → Int32 → Int32 × st_T
  | (L, pg, D, S, d, f, im), a, w => by classical exact if pIs f.1.1 a then (if pIs 10 w then (if f.1.2.1 a.toNatClampNeg = 3 then (-103, (L, pg, D, S, d, f, im)) else (nI (lN_ f.1 (hM d f.1 a.toNatClampNeg) w.toNatClampNeg), (L, pg, D, S, d, (lrn f.1 (hM d f.1 a.toNatClampNeg) w.toNatClampNeg, f.2.1 + 1, f.2.2), im))) else (-102, (L, pg, D, S, d, f, im))) else (-101, (L, pg, D, S, d, f, im))
noncomputable def A_hears : st_T → Int32 → Int32 → Int32
  | (_, _, _, _, d, f, _), a, b => by classical exact if pIs f.1.1 a ∧ pIs f.1.1 b then mv (hT d f.1 a.toNatClampNeg b.toNatClampNeg) else -101
/-- the fewest places, tried upward -/
noncomputable def scr (d : dm_T) (s : sc_T) (a b : Nat) : Nat → Option Nat
  | 0 => none
  | m + 1 => if m &&& s.2.2.2.2 = 0 ∧ (∀ x, scr d s a b m = some x → pcs m 10 < pcs x 10) ∧ (hM d (sCl s (s.2.2.2.2 ||| m)) a).testBit b = false then some m else scr d s a b m
def scV (w : Int32) (o : Option Nat) : Int32 := match o with
  | none => -1
  | some x => if w = 1 then nI x else nI (pcs x 10)
noncomputable def F_screens : st_T → Int32 → Int32 → Int32 → Int32 × st_T
  | (L, pg, D, S, d, f, im), a, b, w => by classical exact if pIs f.1.1 a ∧ pIs f.1.1 b ∧ a ≠ b then (if pIs 2 w then (if S = 20 then (-103, (L, pg, D, S, d, f, im)) else (scV w (scr d f.1 a.toNatClampNeg b.toNatClampNeg 256), (L, pg, D, S + 1, d, f, im))) else (-102, (L, pg, D, S, d, f, im))) else (-101, (L, pg, D, S, d, f, im))
def alone (d : dm_T) (s : sc_T) (a b m : Nat) : Prop := hM d (sMv (sMv s a (m / 8)) b (m % 8)) a = 2 ^ a ||| 2 ^ b ∧ hM d (sMv (sMv s a (m / 8)) b (m % 8)) b = 2 ^ a ||| 2 ^ b
def isSt (d : dm_T) (s : sc_T) (a b : Nat) (v : Int32) : Prop := (v = -1 ∧ ∀ m, m < 64 → ¬ alone d s a b m) ∨ ∃ m, m < 64 ∧ v = nI m ∧ alone d s a b m ∧ ∀ j, j < m → ¬ alone d s a b j
noncomputable def std (d : dm_T) (s : sc_T) (a b : Nat) : Int32 := Classical.epsilon (isSt d s a b)
theorem std_of {d : dm_T} {s : sc_T} {a b : Nat} {v : Int32} (h : isSt d s a b v) : std d s a b = v := by
  have g : isSt d s a b (std d s a b) := Classical.epsilon_spec (p := isSt d s a b) ⟨v, h⟩
  rcases g with ⟨g1, g2⟩ | ⟨m, g1, g2, g3, g4⟩
  · rcases h with ⟨h1, h2⟩ | ⟨k, h1, h2, h3, h4⟩
    · rw [g1, h1]
    · exact absurd h3 (g2 k h1)
  · rcases h with ⟨h1, h2⟩ | ⟨k, h1, h2, h3, h4⟩
    · exact absurd g3 (h2 m g1)
    · rcases Nat.lt_trichotomy m k with z | z | z
      · exact absurd g3 (h4 m z)
      · rw [g2, h2, z]
      · exact absurd h3 (g4 k z)
noncomputable def A_stand : st_T → Int32 → Int32 → Int32
  | (_, _, _, _, d, f, _), a, b => by classical exact if pIs f.1.1 a ∧ pIs f.1.1 b ∧ a ≠ b then std d f.1 a.toNatClampNeg b.toNatClampNeg else -101
noncomputable def F_trial : st_T → Int32 → Int32 → Int32 × st_T
  | (L, pg, D, S, d, f, im), a, h => by classical exact if pIs f.1.1 a then (if f.2.2.1 = 8 then (-104, (L, pg, D, S, d, f, im)) else (nI (f.2.2.1 + 1), (L, pg, D, S, d, (f.1, f.2.1, (f.2.2.1 + 1, updN f.2.2.2.1 f.2.2.1 a.toNatClampNeg, updN f.2.2.2.2 f.2.2.1 (if h = 0 then 0 else 1))), im))) else (-101, (L, pg, D, S, d, f, im))
def F_forget : st_T → Int32 × st_T
  | (L, pg, D, S, d, f, im) => (nI f.2.2.1, (L, pg, D, S, d, (f.1, f.2.1, (0, f.2.2.2)), im))
noncomputable def whoP (d : dm_T) (s : sc_T) (t : tr_T) : Nat → Bool := fun q => by classical exact decide (s.2.1 q ≠ 3 ∧ agr t (hM d s q))
noncomputable def whoB (d : dm_T) (s : sc_T) (t : tr_T) : Nat := mk (whoP d s t) s.1
noncomputable def A_who : st_T → Int32
  | (_, _, D, _, d, f, _) => if 0 < D then nI (whoB d f.1 f.2.2) else -103
/-- how many are left at worst -/
noncomputable def yesN (d : dm_T) (s : sc_T) (who k : Nat) : Nat → Nat := fun n => ct (fun q => who.testBit q && (hM d s q).testBit k) n
noncomputable def wst (d : dm_T) (s : sc_T) (who k : Nat) : Int32 := if nI (yesN d s who k s.1) < nI (pcs who 10) - nI (yesN d s who k s.1) then nI (pcs who 10) - nI (yesN d s who k s.1) else nI (yesN d s who k s.1)
noncomputable def askF (d : dm_T) (s : sc_T) (who : Nat) : Nat → Int32 × Int32
  | 0 => (-1, 7)
  | k + 1 => if wst d s who k < (askF d s who k).2 then (nI k, wst d s who k) else askF d s who k
noncomputable def askV (d : dm_T) (s : sc_T) (t : tr_T) : Int32 := if whoB d s t = 0 then -1 else (askF d s (whoB d s t) s.1).1
noncomputable def A_ask : st_T → Int32
  | (_, _, D, _, d, f, _) => if 0 < D then askV d f.1 f.2.2 else -103
/-- a day: scene, seed, how many learned -/
noncomputable def day1 (d : dm_T) (x : sc_T × Nat × Nat) : sc_T × Nat × Nat :=
  if x.1.2.1 (nxS (nxS (nxS x.2.1)) / 65536 % x.1.1) = 3 then (sMv x.1 (nxS x.2.1 / 65536 % x.1.1) (nxS (nxS x.2.1) / 65536 % 8), nxS (nxS (nxS (nxS x.2.1))), x.2.2)
  else (lrn (sMv x.1 (nxS x.2.1 / 65536 % x.1.1) (nxS (nxS x.2.1) / 65536 % 8)) (hM d (sMv x.1 (nxS x.2.1 / 65536 % x.1.1) (nxS (nxS x.2.1) / 65536 % 8)) (nxS (nxS (nxS x.2.1)) / 65536 % x.1.1)) (nxS (nxS (nxS (nxS x.2.1))) / 65536 % 10), nxS (nxS (nxS (nxS x.2.1))), x.2.2 + lN_ (sMv x.1 (nxS x.2.1 / 65536 % x.1.1) (nxS (nxS x.2.1) / 65536 % 8)) (hM d (sMv x.1 (nxS x.2.1 / 65536 % x.1.1) (nxS (nxS x.2.1) / 65536 % 8)) (nxS (nxS (nxS x.2.1)) / 65536 % x.1.1)) (nxS (nxS (nxS (nxS x.2.1))) / 65536 % 10))
noncomputable def dayN (d : dm_T) (x : sc_T × Nat × Nat) : Nat → sc_T × Nat × Nat
  | 0 => x
  | k + 1 => day1 d (dayN d x k)
noncomputable def A_days : st_T → Int32 → Int32 → Int32 → Int32
  | (_, _, _, _, d, f, _), ti, sd, w => by classical exact if (1 ≤ ti ∧ ti ≤ 60) ∧ 0 ≤ sd ∧ pIs 3 w then (if f.1.1 = 0 then -103 else if w = 0 then nI (dayN d (f.1, sd.toNatClampNeg, 0) ti.toNatClampNeg).2.2 else if w = 1 then nI (kAll (dayN d (f.1, sd.toNatClampNeg, 0) ti.toNatClampNeg).1) else nI (dayN d (f.1, sd.toNatClampNeg, 0) ti.toNatClampNeg).2.1) else -102
def F_image : st_T → Int32 × st_T
  | (L, pg, D, S, d, f, im) => if 0 < D then (nI f.1.1, (L, pg, D, S, d, f, some f)) else (-103, (L, pg, D, S, d, f, im))
def F_restore : st_T → Int32 × st_T
  | (L, pg, D, S, d, f, none) => (-103, (L, pg, D, S, d, f, none))
  | (L, pg, D, S, d, _, some g) => (nI g.1.1, (L, pg, D, S, d, g, some g))
def A_count : st_T → Int32 → Int32
  | (L, _, D, S, _, f, _), w => if w = 0 then nI f.1.1 else if w = 1 then nI (pcs f.1.2.2.2.2 10) else if w = 2 then nI (kAll f.1) else if w = 3 then f.2.1 else if w = 4 then nI f.2.2.1 else if w = 5 then nI L else if w = 6 then nI D else if w = 7 then nI S else -102
def fdN (g : Nat → Int64 → Int64) : Nat → Int64 → Int64
  | 0, h => h
  | k + 1, h => g k (fdN g k h)
def mx (h : Int64) (v : Int32) : Int64 := 31 * h + v.toInt64
def dgP (d : dm_T) (s : sc_T) (h : Int64) : Int64 := fdN (fun p h => fdN (fun w h => mx h (tP d s p (nI w))) 6 h) 8 h
noncomputable def dgQ (d : dm_T) (s : sc_T) (q : Nat) (h : Int64) : Int64 := fdN (fun b h => mx h (mv (hT d s q b))) s.1 (mx (mx (mx (mx h (nI (s.2.1 q))) (nI (s.2.2.1 q))) (nI (s.2.2.2.1 q))) (nI (hM d s q)))
noncomputable def A_digest : st_T → Int64
  | (L, pg, D, S, d, f, im) => fdN (fun w h => mx h (A_count (L, pg, D, S, d, f, im) (nI w))) 8 (fdN (fun j h => mx h (pg j)) L (if 0 < D then mx (mx (fdN (fun q h => dgQ d f.1 q h) f.1.1 (dgP d f.1 937)) (nI (whoB d f.1 f.2.2))) (askV d f.1 f.2.2) else fdN (fun q h => dgQ d f.1 q h) f.1.1 937))
