/-! the class: who, ask, days, image, count, digest -/
abbrev XV : List Nat := [17, 18, 20]
theorem XZ_V {μ μ' : mm_M} (h : fr XV μ μ') : fr XZ μ μ' := fr_w h (fun r hr => by simp at hr ⊢; omega)
theorem whoP_t {d : dm_T} {s : sc_T} {t : tr_T} {q : Nat} (h : s.2.1 q ≠ 3 ∧ agr t (hM d s q)) : whoP d s t q = true := by
  cases hq : whoP d s t q with
  | true => rfl
  | false => exact absurd h (by unfold whoP at hq; rw [decide_eq_false_iff_not] at hq; exact hq)
theorem whoP_f {d : dm_T} {s : sc_T} {t : tr_T} {q : Nat} (h : ¬ (s.2.1 q ≠ 3 ∧ agr t (hM d s q))) : whoP d s t q = false := by
  unfold whoP; rw [decide_eq_false_iff_not]; exact h
theorem whoB_lt {d : dm_T} {s : sc_T} {t : tr_T} (hs : s.1 ≤ 6) : whoB d s t < 64 := Nat.lt_of_lt_of_le (mk_lt _ _) (show 2 ^ s.1 ≤ 2 ^ 6 from Nat.pow_le_pow_right (by omega) hs)
set_option maxRecDepth 20000 in
set_option maxHeartbeats 2000000 in
theorem r_suspects {Q : mm_R} {μ : mm_M} {d : dm_T} {f : fs_T} (hd : dOK d) (hf : fOK f) (hXD : XD d μ) (hX : XF 5 f μ) (h : ∀ μ', fr XV μ μ' → (∀ q, q < f.1.1 → μ'.1 20 q = nI (hM d f.1 q)) → Q (some (.int (nI (whoB d f.1 f.2.2)))) μ') : mm_Runs m_X4_suspects Q 0 [.ref 0, .null, .null] [] μ := by
  have h6 := hf.1.1
  intro J hJ hF
  have lp : ∀ k i μ', k + i = f.1.1 → fr XV μ μ' → (∀ q, q < i → μ'.1 20 q = nI (hM d f.1 q)) → J 4 [.ref 0, .int (nI (mk (whoP d f.1 f.2.2) i)), .int (nI i)] [] μ' := by
    intro k
    induction k with
    | zero =>
      intro i μ' hk f1 f2
      have ep : μ'.1 5 0 = nI f.1.1 := by rw [f1.1 5 (by decide)]; exact hX.1.1
      have e : i = f.1.1 := by omega
      subst e
      refine hJ 60 _ _ _ _ ?_
      refine And.intro (fun _ => ?_) (fun c => by rw [ep, nI_leI (by omega) (by omega)] at c; omega)
      refine hJ 60 _ _ _ _ ?_
      exact h μ' f1 f2
    | succ k ih =>
      intro i μ' hk f1 f2
      have hi : i < f.1.1 := by omega
      have ep : μ'.1 5 0 = nI f.1.1 := by rw [f1.1 5 (by decide)]; exact hX.1.1
      obtain ⟨ki, -, -⟩ := hf.1.2.1 i hi
      refine hJ 60 _ _ _ _ ?_
      refine And.intro (fun c => by rw [ep, nI_leI (by omega) (by omega)] at c; omega) (fun _ => ?_)
      refine hJ 60 _ _ _ _ ?_
      refine r_spread5 (d := d) (s := f.1) hd hf.1 (XD_fr hXD (f1.1 3 (by decide)) (f1.1 4 (by decide))) (XS_fr hX.1 (f1.1 5 (by decide)) (f1.1 6 (by decide)) (f1.1 7 (by decide)) (f1.1 8 (by decide))) hi rfl (fun μ2 g1 _ => ?_)
      refine And.intro (ar_in (by omega) (by omega)) ?_
      refine And.intro (ar_in (by omega) (by omega)) ?_
      have f3 : fr XV μ (mm_put μ2 20 (nI i).toNatClampNeg (nI (hM d f.1 i))) := fr_put (fr_tr f1 (fr_w g1 (by simp))) (by simp)
      have m3 : ∀ q, q < i + 1 → (mm_put μ2 20 (nI i).toNatClampNeg (nI (hM d f.1 i))).1 20 q = nI (hM d f.1 q) := by
        intro q hq
        rw [mp_eq, ar_cl (by omega)]
        by_cases e : q = i
        · subst e; rw [up_eq]
        · rw [up_ne _ _ e, g1.1 20 (by decide)]; exact f2 q (by omega)
      have ek : (mm_put μ2 20 (nI i).toNatClampNeg (nI (hM d f.1 i))).1 6 (nI i).toNatClampNeg = nI (f.1.2.1 i) := by
        rw [f3.1 6 (by decide), ar_cl (by omega)]; exact (hX.1.2.1 i hi).1
      have eh : (mm_put μ2 20 (nI i).toNatClampNeg (nI (hM d f.1 i))).1 20 (nI i).toNatClampNeg = nI (hM d f.1 i) := by rw [ar_cl (by omega)]; have := m3 i (by omega); rw [ar_cl (by omega)] at this; exact this
      generalize mm_put μ2 20 (nI i).toNatClampNeg (nI (hM d f.1 i)) = μ3 at f3 m3 ek eh ⊢
      have st : ∀ x, x = mk (whoP d f.1 f.2.2) (i + 1) → J 72 [.ref 0, .int (nI x), .int (nI i)] [] μ3 := by
        intro x hx
        refine hJ 60 _ _ _ _ ?_
        show J 4 [_, _, .int (nI i + 1)] [] μ3
        rw [nI_1, hx]
        exact ih (i + 1) μ3 (by omega) f3 m3
      have no : ¬ (f.1.2.1 i ≠ 3 ∧ agr f.2.2 (hM d f.1 i)) → J 72 [.ref 0, .int (nI (mk (whoP d f.1 f.2.2) i)), .int (nI i)] [] μ3 := by
        intro z
        exact st _ (by rw [mk, if_neg (by rw [whoP_f z]; decide)])
      refine And.intro (fun c => ?_) (fun c => ?_)
      · rw [ek, show (3 : Int32) = nI 3 from rfl, nI_eq (by omega) (by omega)] at c
        exact no (fun z => z.1 c)
      · rw [ek, show (3 : Int32) = nI 3 from rfl, nI_eq (by omega) (by omega)] at c
        refine hJ 60 _ _ _ _ ?_
        refine And.intro (ar_in (by omega) (by omega)) ?_
        refine r_agrees (t := f.2.2) (hr := hM d f.1 i) hf.2 (by rw [f3.1 5 (by decide)]; exact hX.2.2.2.1) (by rw [f3.1 5 (by decide)]; exact hX.2.2.2.2) (hM_lt h6) eh (fun a1 => ?_) (fun a0 => ?_)
        · refine And.intro (fun c => absurd c (by decide)) (fun _ => ?_)
          refine hJ 6 _ _ _ _ ?_
          show J 72 [_, .int (nI (mk (whoP d f.1 f.2.2) i) ||| ((1 : Int32) <<< (nI i &&& 31))), _] [] μ3
          rw [ar_shl i (by omega), ar_or]
          exact st _ (by rw [mk, if_pos (whoP_t ⟨c, a1⟩)])
        · refine And.intro (fun _ => ?_) (fun c => absurd rfl c)
          exact no (fun z => a0 z.2)
  refine hJ 4 _ _ _ _ ?_
  exact lp f.1.1 0 μ (by omega) (fr_rf _ _) (fun q hq => absurd hq (Nat.not_lt_zero _))
set_option maxRecDepth 20000 in
set_option maxHeartbeats 2000000 in
theorem r_xwho {Q : mm_R} {μ : mm_M} {st : st_T} (hA : AOK st) (hR : RX st μ) (h : ∀ μ', fr XA μ μ' → RX st μ' → Q (some (.int (A_who st))) μ') : mm_Runs m_X4_who Q 0 [.ref 0] [] μ := by
  obtain ⟨L, pg, D, S, d, f, im⟩ := st
  have hR0 := hR
  obtain ⟨hL, hDl, hS, hd, hf, hD0, him⟩ := hA
  obtain ⟨x1, x2, x3, x4, x5, x6, x7⟩ := hR
  intro J hJ hF
  refine hJ 60 _ _ _ _ ?_
  refine r_hasDome x3 (by omega) (fun d1 => ?_) (fun d0 => ?_)
  · have e : A_who (L, pg, D, S, d, f, im) = nI (whoB d f.1 f.2.2) := by simp only [A_who]; rw [if_pos d1]
    rw [e] at h
    refine And.intro (fun c => absurd c (by decide)) (fun _ => ?_)
    refine hJ 60 _ _ _ _ ?_
    refine r_suspects hd hf x5 x6 (fun μ' f1 _ => ?_)
    refine hJ 60 _ _ _ _ ?_
    exact h μ' (XA_Z (XZ_V f1)) (RX_fr hR0 (XZ_V f1))
  · have e : A_who (L, pg, D, S, d, f, im) = -103 := by simp only [A_who]; rw [if_neg d0]
    rw [e] at h
    refine And.intro (fun _ => ?_) (fun c => absurd rfl c)
    refine hJ 60 _ _ _ _ ?_
    exact h μ (fr_rf _ _) hR0
set_option maxRecDepth 20000 in
set_option maxHeartbeats 2000000 in
theorem r_leftAtWorst {Q : mm_R} {μ : mm_M} {d : dm_T} {s : sc_T} {who k : Nat} {wv kv : Int32} (hs : s.1 ≤ 6) (hn : μ.1 5 0 = nI s.1) (hH : ∀ q, q < s.1 → μ.1 20 q = nI (hM d s q)) (hw : who < 64) (hwv : wv = nI who) (hk : k < 6) (hkv : kv = nI k) (h : Q (some (.int (wst d s who k))) μ) : mm_Runs m_X4_leftAtWorst Q 0 [.ref 0, .int wv, .int kv, .null, .null] [] μ := by
  subst hwv; subst hkv
  intro J hJ hF
  have lp : ∀ j i, j + i = s.1 → J 5 [.ref 0, .int (nI who), .int (nI k), .int (nI (yesN d s who k i)), .int (nI i)] [] μ := by
    intro j
    induction j with
    | zero =>
      intro i hj
      have e : i = s.1 := by omega
      subst e
      refine hJ 60 _ _ _ _ ?_
      refine And.intro (fun _ => ?_) (fun c => by rw [hn, nI_leI (by omega) (by omega)] at c; omega)
      refine hJ 60 _ _ _ _ ?_
      refine r_bitCount who rfl (by omega) ?_
      exact h
    | succ j ih =>
      intro i hj
      have hml := hM_lt (d := d) (s := s) (o := i) hs
      refine hJ 60 _ _ _ _ ?_
      refine And.intro (fun c => by rw [hn, nI_leI (by omega) (by omega)] at c; omega) (fun _ => ?_)
      have st : ∀ x, x = yesN d s who k (i + 1) → J 43 [.ref 0, .int (nI who), .int (nI k), .int (nI x), .int (nI i)] [] μ := by
        intro x hx
        refine hJ 60 _ _ _ _ ?_
        show J 5 [_, _, _, _, .int (nI i + 1)] [] μ
        rw [nI_1, hx]
        exact ih (i + 1) (by omega)
      refine hJ 60 _ _ _ _ ?_
      refine r_hasBit who i rfl rfl (by omega) (by omega) (fun b1 => ?_) (fun b0 => ?_)
      · refine And.intro (fun c => absurd c (by decide)) (fun _ => ?_)
        refine hJ 60 _ _ _ _ ?_
        refine And.intro (ar_in (by omega) (by omega)) ?_
        refine r_hasBit (hM d s i) k (by rw [ar_cl (by omega)]; exact hH i (by omega)) rfl (by omega) (by omega) (fun d1 => ?_) (fun d0 => ?_)
        · refine And.intro (fun c => absurd c (by decide)) (fun _ => ?_)
          refine hJ 1 _ _ _ _ ?_
          show J 43 [_, _, _, .int (nI (yesN d s who k i) + 1), _] [] μ
          rw [nI_1]
          exact st _ (by unfold yesN; rw [ct, if_pos (by rw [b1, d1]; rfl)])
        · refine And.intro (fun _ => ?_) (fun c => absurd rfl c)
          exact st _ (by unfold yesN; rw [ct, if_neg (by rw [b1, d0]; decide)]; rfl)
      · refine And.intro (fun _ => ?_) (fun c => absurd rfl c)
        exact st _ (by unfold yesN; rw [ct, if_neg (by rw [b0]; simp)]; rfl)
  refine hJ 4 _ _ _ _ ?_
  exact lp s.1 0 (by omega)
set_option maxRecDepth 20000 in
set_option maxHeartbeats 2000000 in
theorem r_bestToAsk {Q : mm_R} {μ : mm_M} {d : dm_T} {s : sc_T} {who : Nat} {wv : Int32} (hs : s.1 ≤ 6) (hn : μ.1 5 0 = nI s.1) (hH : ∀ q, q < s.1 → μ.1 20 q = nI (hM d s q)) (hw : who < 64) (hwv : wv = nI who) (h : Q (some (.int (if who = 0 then -1 else (askF d s who s.1).1))) μ) : mm_Runs m_X4_bestToAsk Q 0 [.ref 0, .int wv, .null, .null, .null, .null] [] μ := by
  subst hwv
  intro J hJ hF
  have lp : who ≠ 0 → ∀ j i, j + i = s.1 → J 8 [.ref 0, .int (nI who), .int (askF d s who i).1, .int (askF d s who i).2, .int (nI i), .null] [] μ := by
    intro hw0 j
    induction j with
    | zero =>
      intro i hj
      have e : i = s.1 := by omega
      subst e
      refine hJ 60 _ _ _ _ ?_
      refine And.intro (fun c => ?_) (fun _ => ?_)
      · rw [show (0 : Int32) = nI 0 from rfl, nI_eq (by omega) (by omega)] at c; exact absurd c hw0
      refine hJ 60 _ _ _ _ ?_
      refine And.intro (fun _ => ?_) (fun c => by rw [hn, nI_leI (by omega) (by omega)] at c; omega)
      refine hJ 60 _ _ _ _ ?_
      rw [if_neg hw0] at h
      exact h
    | succ j ih =>
      intro i hj
      refine hJ 60 _ _ _ _ ?_
      refine And.intro (fun c => ?_) (fun _ => ?_)
      · rw [show (0 : Int32) = nI 0 from rfl, nI_eq (by omega) (by omega)] at c; exact absurd c hw0
      refine hJ 60 _ _ _ _ ?_
      refine And.intro (fun c => by rw [hn, nI_leI (by omega) (by omega)] at c; omega) (fun _ => ?_)
      refine hJ 60 _ _ _ _ ?_
      refine r_leftAtWorst (d := d) (s := s) (k := i) hs hn hH hw rfl (by omega) rfl ?_
      have st : ∀ (x y : Int32) (w5 : Value), x = (askF d s who (i + 1)).1 → y = (askF d s who (i + 1)).2 → J 45 [.ref 0, .int (nI who), .int x, .int y, .int (nI i), w5] [] μ := by
        intro x y w5 hx hy
        refine hJ 60 _ _ _ _ ?_
        refine hF [5] _ _ _ _ ?_
        show J 8 [_, _, _, _, .int (nI i + 1), .null] [] μ
        rw [nI_1, hx, hy]
        exact ih (i + 1) (by omega)
      refine And.intro (fun c => ?_) (fun c => ?_)
      · have e : askF d s who (i + 1) = askF d s who i := by rw [askF, if_neg (by rw [ar_lt]; rw [ar_le] at c; omega)]
        exact st _ _ _ (by rw [e]) (by rw [e])
      · have e : askF d s who (i + 1) = (nI i, wst d s who i) := by rw [askF, if_pos (by rw [ar_lt]; rw [ar_le] at c; omega)]
        refine hJ 4 _ _ _ _ ?_
        exact st _ _ _ (by rw [e]) (by rw [e])
  by_cases hw0 : who = 0
  · rw [if_pos hw0] at h
    refine hJ 6 _ _ _ _ ?_
    refine hJ 60 _ _ _ _ ?_
    refine And.intro (fun _ => ?_) (fun c => absurd (by rw [hw0]; rfl) c)
    refine hJ 60 _ _ _ _ ?_
    exact h
  · refine hJ 6 _ _ _ _ ?_
    exact lp hw0 s.1 0 (by omega)
set_option maxRecDepth 20000 in
set_option maxHeartbeats 2000000 in
theorem r_xask {Q : mm_R} {μ : mm_M} {st : st_T} (hA : AOK st) (hR : RX st μ) (h : ∀ μ', fr XA μ μ' → RX st μ' → Q (some (.int (A_ask st))) μ') : mm_Runs m_X4_ask Q 0 [.ref 0] [] μ := by
  obtain ⟨L, pg, D, S, d, f, im⟩ := st
  have hR0 := hR
  obtain ⟨hL, hDl, hS, hd, hf, hD0, him⟩ := hA
  obtain ⟨x1, x2, x3, x4, x5, x6, x7⟩ := hR
  intro J hJ hF
  refine hJ 60 _ _ _ _ ?_
  refine r_hasDome x3 (by omega) (fun d1 => ?_) (fun d0 => ?_)
  · have e : A_ask (L, pg, D, S, d, f, im) = askV d f.1 f.2.2 := by simp only [A_ask]; rw [if_pos d1]
    rw [e] at h
    refine And.intro (fun c => absurd c (by decide)) (fun _ => ?_)
    refine hJ 60 _ _ _ _ ?_
    refine r_suspects hd hf x5 x6 (fun μ' f1 f2 => ?_)
    refine r_bestToAsk (d := d) (s := f.1) hf.1.1 (by rw [f1.1 5 (by decide)]; exact x6.1.1) f2 (whoB_lt hf.1.1) rfl ?_
    refine hJ 60 _ _ _ _ ?_
    exact h μ' (XA_Z (XZ_V f1)) (RX_fr hR0 (XZ_V f1))
  · have e : A_ask (L, pg, D, S, d, f, im) = -103 := by simp only [A_ask]; rw [if_neg d0]
    rw [e] at h
    refine And.intro (fun _ => ?_) (fun c => absurd rfl c)
    refine hJ 60 _ _ _ _ ?_
    exact h μ (fr_rf _ _) hR0
theorem day1_n {d : dm_T} {x : sc_T × Nat × Nat} : (day1 d x).1.1 = x.1.1 := by
  unfold day1; split <;> rfl
theorem day1_ok {d : dm_T} {x : sc_T × Nat × Nat} (hs : sOK x.1) : sOK (day1 d x).1 := by
  unfold day1
  have e8 : nxS (nxS x.2.1) / 65536 % 8 < 8 := Nat.mod_lt _ (by omega)
  have e10 : nxS (nxS (nxS (nxS x.2.1))) / 65536 % 10 < 10 := Nat.mod_lt _ (by omega)
  split
  · exact sMv_ok hs e8
  · exact lrn_ok (sMv_ok hs e8) e10
theorem day1_l {d : dm_T} {s : sc_T} {sd l : Nat} : (day1 d (s, sd, l)).1 = (day1 d (s, sd, 0)).1 ∧ (day1 d (s, sd, l)).2.1 = (day1 d (s, sd, 0)).2.1 ∧ (day1 d (s, sd, l)).2.2 = l + (day1 d (s, sd, 0)).2.2 := by
  unfold day1
  simp only
  split
  · exact ⟨rfl, rfl, (Nat.add_zero _).symm⟩
  · refine ⟨rfl, rfl, ?_⟩
    simp only [Nat.zero_add]
theorem day1_sd {d : dm_T} {x : sc_T × Nat × Nat} : (day1 d x).2.1 < 2147483648 := by
  unfold day1; split <;> exact nxS_lt _
abbrev XD9 : List Nat := [13, 14, 15, 16, 17, 18, 19]
theorem XZ_9 {μ μ' : mm_M} (h : fr XD9 μ μ') : fr XZ μ μ' := fr_w h (fun r hr => by simp at hr ⊢; omega)
set_option maxRecDepth 20000 in
set_option maxHeartbeats 2000000 in
theorem r_dreamDay {Q : mm_R} {μ : mm_M} {d : dm_T} {s : sc_T} {sd : Nat} (hd : dOK d) (hs : sOK s) (hn : 0 < s.1) (hXD : XD d μ) (hX : XS 13 s μ) (hsd : μ.2 19 = lN sd) (hl : sd < 2147483648)
    (h : ∀ μ', fr XD9 μ μ' → XS 13 (day1 d (s, sd, 0)).1 μ' → μ'.2 19 = lN (day1 d (s, sd, 0)).2.1 → Q (some (.int (nI (day1 d (s, sd, 0)).2.2))) μ') : mm_Runs m_X4_dreamDay Q 0 [.ref 0, .null, .null, .null] [] μ := by
  have h6 := hs.1
  have w1 : nxS sd / 65536 % s.1 < s.1 := Nat.mod_lt _ hn
  have w2 : nxS (nxS sd) / 65536 % 8 < 8 := Nat.mod_lt _ (by omega)
  have w3 : nxS (nxS (nxS sd)) / 65536 % s.1 < s.1 := Nat.mod_lt _ hn
  have w4 : nxS (nxS (nxS (nxS sd))) / 65536 % 10 < 10 := Nat.mod_lt _ (by omega)
  have n1 := nxS_lt sd
  have n2 := nxS_lt (nxS sd)
  have n3 := nxS_lt (nxS (nxS sd))
  have n4 := nxS_lt (nxS (nxS (nxS sd)))
  have pl : ∀ (ν : mm_M) (v : Int64), (mm_putl ν 19 v).2 19 = v := fun ν v => by simp [mm_putl, va_up]
  intro J hJ hF
  refine hJ 60 _ _ _ _ ?_
  refine r_next hsd hl hn (by omega) hX.1 ?_
  refine r_next (m := 8) (pl _ _) n1 (by omega) (by omega) rfl ?_
  refine And.intro (ar_in (by omega) (by omega)) ?_
  rw [ar_cl (by omega)]
  refine r_next (m := s.1) (sd := nxS (nxS sd)) (pl (mm_putl μ 19 (lN (nxS sd))) (lN (nxS (nxS sd)))) n2 hn (by omega) hX.1 ?_
  refine r_next (m := 10) (sd := nxS (nxS (nxS sd))) (pl _ _) n3 (by omega) (by omega) rfl ?_
  refine And.intro (ar_in (by omega) (by omega)) ?_
  have hX3 : XS 13 (sMv s (nxS sd / 65536 % s.1) (nxS (nxS sd) / 65536 % 8)) (mm_putl (mm_putl (mm_put (mm_putl (mm_putl μ 19 (lN (nxS sd))) 19 (lN (nxS (nxS sd)))) 15 (nxS sd / 65536 % s.1) (nI (nxS (nxS sd) / 65536 % 8))) 19 (lN (nxS (nxS (nxS sd))))) 19 (lN (nxS (nxS (nxS (nxS sd)))))) := XS_mv hX rfl rfl rfl rfl
  have f3 : fr XD9 μ (mm_putl (mm_putl (mm_put (mm_putl (mm_putl μ 19 (lN (nxS sd))) 19 (lN (nxS (nxS sd)))) 15 (nxS sd / 65536 % s.1) (nI (nxS (nxS sd) / 65536 % 8))) 19 (lN (nxS (nxS (nxS sd))))) 19 (lN (nxS (nxS (nxS (nxS sd)))))) := fr_putl (fr_putl (fr_put (fr_putl (fr_putl (fr_rf _ _) (by simp)) (by simp)) (by simp)) (by simp)) (by simp)
  have l3 := pl (mm_putl (mm_put (mm_putl (mm_putl μ 19 (lN (nxS sd))) 19 (lN (nxS (nxS sd)))) 15 (nxS sd / 65536 % s.1) (nI (nxS (nxS sd) / 65536 % 8))) 19 (lN (nxS (nxS (nxS sd))))) (lN (nxS (nxS (nxS (nxS sd)))))
  generalize mm_putl (mm_putl (mm_put (mm_putl (mm_putl μ 19 (lN (nxS sd))) 19 (lN (nxS (nxS sd)))) 15 (nxS sd / 65536 % s.1) (nI (nxS (nxS sd) / 65536 % 8))) 19 (lN (nxS (nxS (nxS sd))))) 19 (lN (nxS (nxS (nxS (nxS sd))))) = μ3 at hX3 f3 l3 ⊢
  have ek : μ3.1 14 (nI (nxS (nxS (nxS sd)) / 65536 % s.1)).toNatClampNeg = nI (s.2.1 (nxS (nxS (nxS sd)) / 65536 % s.1)) := by rw [ar_cl (by omega)]; exact (hX3.2.1 _ w3).1
  have kk := (hs.2.1 _ w3).1
  unfold day1 at h
  simp only at h
  refine And.intro (fun c => ?_) (fun c => ?_)
  · rw [ek, show (3 : Int32) = nI 3 from rfl, nI_eq (by omega) (by omega)] at c
    rw [if_neg c] at h
    refine hJ 60 _ _ _ _ ?_
    refine r_tell13 (d := d) (s := sMv s (nxS sd / 65536 % s.1) (nxS (nxS sd) / 65536 % 8)) hd (sMv_ok hs w2) (XD_fr hXD (f3.1 3 (by decide)) (f3.1 4 (by decide))) hX3 w3 rfl w4 rfl (fun μ' f4 g4 => ?_)
    have := h μ' (fr_tr f3 (fr_w f4 (by simp))) g4 (by rw [f4.2 19 (by decide)]; exact l3)
    simp only [Nat.zero_add] at this
    exact this
  · rw [ek, show (3 : Int32) = nI 3 from rfl, nI_eq (by omega) (by omega)] at c
    rw [if_pos c] at h
    refine hJ 60 _ _ _ _ ?_
    refine hJ 60 _ _ _ _ ?_
    exact h μ3 f3 hX3 l3
theorem dayN_ok {d : dm_T} {x : sc_T × Nat × Nat} (hs : sOK x.1) (hl : x.2.1 < 2147483648) : ∀ k, sOK (dayN d x k).1 ∧ (dayN d x k).1.1 = x.1.1 ∧ (dayN d x k).2.1 < 2147483648
  | 0 => ⟨hs, rfl, hl⟩
  | k + 1 => by
    obtain ⟨h1, h2, h3⟩ := dayN_ok (d := d) hs hl k
    exact ⟨day1_ok h1, day1_n.trans h2, day1_sd⟩
theorem dayN_s {d : dm_T} {x : sc_T × Nat × Nat} {k : Nat} : (dayN d x (k + 1)).1 = (day1 d ((dayN d x k).1, (dayN d x k).2.1, 0)).1 ∧ (dayN d x (k + 1)).2.1 = (day1 d ((dayN d x k).1, (dayN d x k).2.1, 0)).2.1 ∧ (dayN d x (k + 1)).2.2 = (dayN d x k).2.2 + (day1 d ((dayN d x k).1, (dayN d x k).2.1, 0)).2.2 := day1_l (d := d) (s := (dayN d x k).1) (sd := (dayN d x k).2.1) (l := (dayN d x k).2.2)
set_option maxRecDepth 20000 in
set_option maxHeartbeats 2000000 in
theorem r_xdays {Q : mm_R} {μ : mm_M} {st : st_T} {ti sd w : Int32} (hA : AOK st) (hR : RX st μ) (h : ∀ μ', fr XA μ μ' → RX st μ' → Q (some (.int (A_days st ti sd w))) μ') : mm_Runs m_X4_days Q 0 [.ref 0, .int ti, .int sd, .int w, .null, .null] [] μ := by
  obtain ⟨L, pg, D, S, d, f, im⟩ := st
  have hR0 := hR
  obtain ⟨hL, hDl, hS, hd, hf, hD0, him⟩ := hA
  obtain ⟨x1, x2, x3, x4, x5, x6, x7⟩ := hR
  have h6 := hf.1.1
  have y0 : μ.1 5 0 = nI f.1.1 := x6.1.1
  have ew := pIs_iff (n := 3) (a := w) (by omega)
  rw [ar_le, ar_lt, show (nI 3).toInt = 3 from rfl, show (0 : Int32).toInt = 0 from rfl] at ew
  intro J hJ hF
  have no : ¬ ((1 ≤ ti ∧ ti ≤ 60) ∧ 0 ≤ sd ∧ pIs 3 w) → J 24 [.ref 0, .int ti, .int sd, .int w, .null, .null] [] μ := by
    intro z
    have e : A_days (L, pg, D, S, d, f, im) ti sd w = -102 := by simp only [A_days]; rw [if_neg z]
    rw [e] at h
    refine hJ 60 _ _ _ _ ?_
    exact h μ (fr_rf _ _) hR0
  refine hJ 60 _ _ _ _ ?_
  refine And.intro (fun c1 => no (fun z => by have := z.1.1; rw [ar_le] at this; rw [ar_lt] at c1; omega)) (fun c1 => ?_)
  refine hJ 60 _ _ _ _ ?_
  refine And.intro (fun c2 => no (fun z => by have := z.1.2; rw [ar_le] at this; rw [ar_lt] at c2; omega)) (fun c2 => ?_)
  refine hJ 60 _ _ _ _ ?_
  refine And.intro (fun c3 => no (fun z => by have := z.2.1; rw [ar_le] at this; rw [ar_lt] at c3; omega)) (fun c3 => ?_)
  refine hJ 60 _ _ _ _ ?_
  refine And.intro (fun c4 => no (fun z => by have := ew.mp z.2.2; rw [ar_lt, show (0 : Int32).toInt = 0 from rfl] at c4; omega)) (fun c4 => ?_)
  refine hJ 60 _ _ _ _ ?_
  refine And.intro (fun c5 => ?_) (fun c5 => no (fun z => by have := ew.mp z.2.2; rw [ar_le, show (2 : Int32).toInt = 2 from rfl] at c5; omega))
  have hw : pIs 3 w := ew.mpr (by rw [ar_lt, show (0 : Int32).toInt = 0 from rfl] at c4; rw [ar_le, show (2 : Int32).toInt = 2 from rfl] at c5; omega)
  have ht : 1 ≤ ti ∧ ti ≤ 60 := ⟨by rw [ar_le]; rw [ar_lt] at c1; omega, by rw [ar_le]; rw [ar_lt] at c2; omega⟩
  have hsd : 0 ≤ sd := by rw [ar_le]; rw [ar_lt] at c3; omega
  obtain ⟨tn, ht1, ht2⟩ := nI_of2 (x := ti) (M := 60) (n := 60) rfl (by rw [ar_lt]; have := ht.1; rw [ar_le] at this; have e : (1 : Int32).toInt = 1 := rfl; have e0 : (0 : Int32).toInt = 0 := rfl; omega) ht.2
  obtain ⟨sn, hs1, hs2⟩ := nI_of (x := sd) c3
  refine hJ 60 _ _ _ _ ?_
  refine And.intro (fun c6 => ?_) (fun c6 => ?_)
  · rw [y0, show (0 : Int32) = nI 0 from rfl, nI_eq (by omega) (by omega)] at c6
    have e : A_days (L, pg, D, S, d, f, im) ti sd w = if w = 0 then nI (dayN d (f.1, sd.toNatClampNeg, 0) ti.toNatClampNeg).2.2 else if w = 1 then nI (kAll (dayN d (f.1, sd.toNatClampNeg, 0) ti.toNatClampNeg).1) else nI (dayN d (f.1, sd.toNatClampNeg, 0) ti.toNatClampNeg).2.1 := by simp only [A_days]; rw [if_pos ⟨ht, hsd, hw⟩, if_neg c6]
    rw [e] at h
    subst ht2; subst hs2
    rw [ar_cl (by omega), ar_cl (by omega)] at h
    refine hJ 14 _ _ _ _ ?_
    refine r_copy13_5 h6 x6 (fun μ1 f1 g1 => ?_)
    have hok := fun k => dayN_ok (d := d) (x := (f.1, sn, 0)) hf.1 (by show sn < 2147483648; omega) k
    have lp : ∀ k i μ', k + i = tn → fr XD9 μ μ' → XS 13 (dayN d (f.1, sn, 0) i).1 μ' → μ'.2 19 = lN (dayN d (f.1, sn, 0) i).2.1 → J 66 [.ref 0, .int (nI tn), .int (nI sn), .int w, .int (nI (dayN d (f.1, sn, 0) i).2.2), .int (nI i)] [] μ' := by
      intro k
      induction k with
      | zero =>
        intro i μ' hk f2 g2 l2
        have e : i = tn := by omega
        subst e
        have hQ := h μ' (XA_Z (XZ_9 f2)) (RX_fr hR0 (XZ_9 f2))
        clear h
        refine hJ 60 _ _ _ _ ?_
        refine And.intro (fun _ => ?_) (fun c => absurd (nI_le (by omega) (by omega)) c)
        refine hJ 60 _ _ _ _ ?_
        refine And.intro (fun w0 => ?_) (fun w0 => ?_)
        · rw [if_neg w0] at hQ
          refine hJ 60 _ _ _ _ ?_
          refine And.intro (fun w1 => ?_) (fun w1 => ?_)
          · rw [if_neg w1] at hQ
            refine hJ 60 _ _ _ _ ?_
            show Q (some (.int (μ'.2 19).toInt32)) μ'
            rw [l2, lN_i]
            exact hQ
          · rw [if_pos w1] at hQ
            refine hJ 60 _ _ _ _ ?_
            refine r_wordsKnown13 (hok i).1 g2 ?_
            refine hJ 60 _ _ _ _ ?_
            exact hQ
        · rw [if_pos w0] at hQ
          refine hJ 60 _ _ _ _ ?_
          exact hQ
      | succ k ih =>
        intro i μ' hk f2 g2 l2
        refine hJ 60 _ _ _ _ ?_
        refine And.intro (fun c => by rw [nI_leI (by omega) (by omega)] at c; omega) (fun _ => ?_)
        refine hJ 60 _ _ _ _ ?_
        refine r_dreamDay (d := d) (s := (dayN d (f.1, sn, 0) i).1) (sd := (dayN d (f.1, sn, 0) i).2.1) hd (hok i).1 (by rw [(hok i).2.1]; show 0 < f.1.1; omega) (XD_fr x5 (f2.1 3 (by decide)) (f2.1 4 (by decide))) g2 l2 (hok i).2.2 (fun μ2 f3 g3 l3 => ?_)
        obtain ⟨e1, e2, e3⟩ := dayN_s (d := d) (x := (f.1, sn, 0)) (k := i)
        show J 66 [_, _, _, _, .int (nI (dayN d (f.1, sn, 0) i).2.2 + nI (day1 d ((dayN d (f.1, sn, 0) i).1, (dayN d (f.1, sn, 0) i).2.1, 0)).2.2), .int (nI i + 1)] [] μ2
        rw [nI_add, ← e3, nI_1]
        exact ih (i + 1) μ2 (by omega) (fr_tr f2 f3) (by rw [e1]; exact g3) (by rw [e2]; exact l3)
    refine lp tn 0 _ (by omega) (fr_putl (fr_w f1 (by simp)) (by simp)) g1.1 ?_
    show (va_up μ1.2 19 (nI sn).toInt64) 19 = _
    rw [nI_l hs1]
    simp [va_up, dayN]
  · rw [y0, show (0 : Int32) = nI 0 from rfl, nI_eq (by omega) (by omega)] at c6
    have e : A_days (L, pg, D, S, d, f, im) ti sd w = -103 := by simp only [A_days]; rw [if_pos ⟨ht, hsd, hw⟩, if_pos c6]
    rw [e] at h
    refine hJ 60 _ _ _ _ ?_
    exact h μ (fr_rf _ _) hR0
set_option maxRecDepth 20000 in
set_option maxHeartbeats 2000000 in
theorem r_ximage {Q : mm_R} {μ : mm_M} {st : st_T} (hA : AOK st) (hR : RX st μ) (h : ∀ μ', fr XA μ μ' → RX (F_image st).2 μ' → Q (some (.int (F_image st).1)) μ') : mm_Runs m_X4_image Q 0 [.ref 0] [] μ := by
  obtain ⟨L, pg, D, S, d, f, im⟩ := st
  have hR0 := hR
  obtain ⟨hL, hDl, hS, hd, hf, hD0, him⟩ := hA
  obtain ⟨x1, x2, x3, x4, x5, x6, x7⟩ := hR
  intro J hJ hF
  refine hJ 60 _ _ _ _ ?_
  refine r_hasDome x3 (by omega) (fun d1 => ?_) (fun d0 => ?_)
  · have e : F_image (L, pg, D, S, d, f, im) = (nI f.1.1, (L, pg, D, S, d, f, some f)) := by simp only [F_image]; rw [if_pos d1]
    rw [e] at h
    refine And.intro (fun _ => ?_) (fun c => absurd c (by decide))
    refine hJ 60 _ _ _ _ ?_
    refine r_copy9_5 hf.1.1 x6 (fun μ1 f1 g1 => ?_)
    refine And.intro (Or.inr rfl) ?_
    have e5 : μ1.1 5 0 = nI f.1.1 := by rw [f1.1 5 (by decide)]; exact x6.1.1
    show Q (some (.int (μ1.1 5 0))) (mm_put μ1 0 9 1)
    rw [e5]
    refine h _ (fr_put (fr_w f1 (by simp)) (by simp)) ⟨?_, fun q hq => ?_, ?_, ?_, XD_fr x5 (f1.1 3 (by decide)) (f1.1 4 (by decide)), XF_fr x6 (f1.1 5 (by decide)) (f1.1 6 (by decide)) (f1.1 7 (by decide)) (f1.1 8 (by decide)), rfl, g1⟩
    · show μ1.1 0 1 = _; rw [f1.1 0 (by decide)]; exact x1
    · show μ1.1 1 q = _; rw [f1.1 1 (by decide)]; exact x2 q hq
    · show μ1.1 0 10 = _; rw [f1.1 0 (by decide)]; exact x3
    · show μ1.1 0 11 = _; rw [f1.1 0 (by decide)]; exact x4
  · have e : F_image (L, pg, D, S, d, f, im) = (-103, (L, pg, D, S, d, f, im)) := by simp only [F_image]; rw [if_neg d0]
    rw [e] at h
    refine And.intro (fun c => absurd rfl c) (fun _ => ?_)
    refine hJ 60 _ _ _ _ ?_
    exact h μ (fr_rf _ _) hR0
set_option maxRecDepth 20000 in
set_option maxHeartbeats 2000000 in
theorem r_xrestore {Q : mm_R} {μ : mm_M} {st : st_T} (hA : AOK st) (hR : RX st μ) (h : ∀ μ', fr XA μ μ' → RX (F_restore st).2 μ' → Q (some (.int (F_restore st).1)) μ') : mm_Runs m_X4_restore Q 0 [.ref 0] [] μ := by
  obtain ⟨L, pg, D, S, d, f, im⟩ := st
  have hR0 := hR
  obtain ⟨hL, hDl, hS, hd, hf, hD0, him⟩ := hA
  obtain ⟨x1, x2, x3, x4, x5, x6, x7⟩ := hR
  intro J hJ hF
  cases im with
  | none =>
    refine hJ 60 _ _ _ _ ?_
    refine And.intro (fun c => absurd x7 c) (fun _ => ?_)
    refine hJ 60 _ _ _ _ ?_
    exact h μ (fr_rf _ _) hR0
  | some g =>
    have hg := him g rfl
    refine hJ 60 _ _ _ _ ?_
    refine And.intro (fun _ => ?_) (fun c => by rw [x7.1] at c; exact absurd c (by decide))
    refine hJ 60 _ _ _ _ ?_
    refine r_copy5_9 hg.1.1 x7.2 (fun μ1 f1 g1 => ?_)
    show Q (some (.int (μ1.1 5 0))) μ1
    rw [g1.1.1]
    refine h μ1 (fr_w f1 (by simp)) ⟨by rw [f1.1 0 (by decide)]; exact x1, fun q hq => by rw [f1.1 1 (by decide)]; exact x2 q hq, by rw [f1.1 0 (by decide)]; exact x3, by rw [f1.1 0 (by decide)]; exact x4, XD_fr x5 (f1.1 3 (by decide)) (f1.1 4 (by decide)), g1, by rw [f1.1 0 (by decide)]; exact x7.1, XF_fr x7.2 (f1.1 9 (by decide)) (f1.1 10 (by decide)) (f1.1 11 (by decide)) (f1.1 12 (by decide))⟩
set_option maxRecDepth 20000 in
set_option maxHeartbeats 2000000 in
theorem r_xcount {Q : mm_R} {μ : mm_M} {st : st_T} {w : Int32} (hA : AOK st) (hR : RX st μ) (h : Q (some (.int (A_count st w))) μ) : mm_Runs m_X4_count Q 0 [.ref 0, .int w] [] μ := by
  obtain ⟨L, pg, D, S, d, f, im⟩ := st
  obtain ⟨hL, hDl, hS, hd, hf, hD0, him⟩ := hA
  obtain ⟨x1, x2, x3, x4, x5, x6, x7⟩ := hR
  have hc := hf.1.2.2
  simp only [A_count] at h
  intro J hJ hF
  refine hJ 60 _ _ _ _ ?_
  refine And.intro (fun w0 => ?_) (fun w0 => ?_)
  · rw [if_pos (show w = 0 from w0)] at h
    refine hJ 60 _ _ _ _ ?_
    show Q (some (.int (μ.1 5 0))) μ
    rw [x6.1.1]; exact h
  rw [if_neg (show ¬ w = 0 from w0)] at h
  refine And.intro (fun w1 => ?_) (fun w1 => ?_)
  · rw [if_pos (show w = 1 from w1)] at h
    refine hJ 60 _ _ _ _ ?_
    refine r_bitCount f.1.2.2.2.2 x6.1.2.2 (by omega) ?_
    exact h
  rw [if_neg (show ¬ w = 1 from w1)] at h
  refine And.intro (fun w2 => ?_) (fun w2 => ?_)
  · rw [if_pos (show w = 2 from w2)] at h
    refine hJ 60 _ _ _ _ ?_
    refine r_wordsKnown5 hf.1 x6.1 ?_
    exact h
  rw [if_neg (show ¬ w = 2 from w2)] at h
  refine And.intro (fun w3 => ?_) (fun w3 => ?_)
  · rw [if_pos (show w = 3 from w3)] at h
    refine hJ 60 _ _ _ _ ?_
    show Q (some (.int (μ.1 5 5))) μ
    rw [x6.2.1]; exact h
  rw [if_neg (show ¬ w = 3 from w3)] at h
  refine And.intro (fun w4 => ?_) (fun w4 => ?_)
  · rw [if_pos (show w = 4 from w4)] at h
    refine hJ 60 _ _ _ _ ?_
    show Q (some (.int (μ.1 5 6))) μ
    rw [x6.2.2.1]; exact h
  rw [if_neg (show ¬ w = 4 from w4)] at h
  refine And.intro (fun w5 => ?_) (fun w5 => ?_)
  · rw [if_pos (show w = 5 from w5)] at h
    refine hJ 60 _ _ _ _ ?_
    show Q (some (.int (μ.1 0 1))) μ
    rw [x1]; exact h
  rw [if_neg (show ¬ w = 5 from w5)] at h
  refine And.intro (fun w6 => ?_) (fun w6 => ?_)
  · rw [if_pos (show w = 6 from w6)] at h
    refine hJ 60 _ _ _ _ ?_
    show Q (some (.int (μ.1 0 10))) μ
    rw [x3]; exact h
  rw [if_neg (show ¬ w = 6 from w6)] at h
  refine And.intro (fun w7 => ?_) (fun w7 => ?_)
  · rw [if_pos (show w = 7 from w7)] at h
    refine hJ 60 _ _ _ _ ?_
    show Q (some (.int (μ.1 0 11))) μ
    rw [x4]; exact h
  rw [if_neg (show ¬ w = 7 from w7)] at h
  refine hJ 60 _ _ _ _ ?_
  exact h
