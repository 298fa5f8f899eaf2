/-! PURE: the reference's run -/
def rStt (u : Nat) (J : mh_I) (K M : Nat → Nat) (P N : Nat → Bool) (e o : Nat → Nat) : Prop := cK 1 J K ∧ bK K 6 ∧ cK 2 J M ∧ bK M 10 ∧ (∀ c, c < 48 → J 3 c = nI (qb P c)) ∧ (∀ c, c < 48 → J 4 c = nI (qb N c)) ∧ u < 6 ∧ J 0 9 = nI u ∧ tok e o ∧ renc u J e o
def jfr (J J' : mh_I) : Prop := ∀ b k, ¬ (b = 15 ∨ b = 16 ∨ b = 17 ∨ (b = 0 ∧ k = 29)) → J' b k = J b k
theorem jfr_r (J : mh_I) : jfr J J := fun _ _ _ => rfl
theorem jfr_t {J J' J'' : mh_I} (h : jfr J J') (h2 : jfr J' J'') : jfr J J'' := fun b k hb => (h2 b k hb).trans (h b k hb)
theorem jfr_16 {J J' : mh_I} (h : fr16 J J') : jfr J J' := fun b k hb => h b k (fun e => hb (.inl e)) (fun e => hb (.inr (.inl e)))
theorem jfr_17 {J J' : mh_I} (h : jfr J J') (k : Nat) (v : Int32) : jfr J (mh_u J' 17 k v) := fun b j hb => by rw [pu_a (fun e => hb (.inr (.inr (.inl e)))), h b j hb]
theorem jfr_29 {J J' : mh_I} (h : jfr J J') (v : Int32) : jfr J (mh_u J' 0 29 v) := fun b j hb => by
  by_cases e : b = 0
  · rw [pu_k (fun e2 => hb (.inr (.inr (.inr ⟨e, e2⟩)))), h b j hb]
  · rw [pu_a e, h b j hb]
theorem rStt_fr {u : Nat} {J J' : mh_I} {K M : Nat → Nat} {P N : Nat → Bool} {e o : Nat → Nat} (h : rStt u J K M P N e o) (hJ : jfr J J') : rStt u J' K M P N e o := by
  obtain ⟨h1, h2, h3, h4, h5, h6, h7, h8, h9, h10, h11⟩ := h
  exact ⟨fun c hc => (hJ 1 c (by omega)).trans (h1 c hc), h2, fun c hc => (hJ 2 c (by omega)).trans (h3 c hc), h4, fun c hc => (hJ 3 c (by omega)).trans (h5 c hc), fun c hc => (hJ 4 c (by omega)).trans (h6 c hc), h7, (hJ 0 9 (by omega)).trans h8, h9, fun j hj => (hJ _ _ (by omega)).trans (h10 j hj), fun q hq => (hJ _ _ (by omega)).trans (h11 q hq)⟩
theorem qgt_row {K : Nat → Nat} {y c : Nat} (h : qgt K y c = true) : y / 6 = c / 6 + 1 := by
  unfold qgt pnb at h
  simp only [Bool.and_eq_true, Bool.or_eq_true, decide_eq_true_eq] at h
  obtain ⟨h1, h2 | h2⟩ := h <;> omega
def mxg (K R : Nat → Nat) (c : Nat) : Nat → Nat
  | 0 => 0
  | x + 1 => if qgt K x c = true then max (mxg K R c x) (R x) else mxg K R c x
theorem mxf_st {K R : Nat → Nat} {c a : Nat} (h : ∀ y, a ≤ y → qgt K y c = false) : ∀ b, a ≤ b → mxf K R c b = mxf K R c a := by
  intro b
  induction b with
  | zero => intro h1; rw [show a = 0 by omega]
  | succ b ih =>
    intro h1
    by_cases e : a = b + 1
    · rw [e]
    · rw [mxf, h b (by omega), if_neg (by decide), ih (by omega)]
theorem mxg_f {K R : Nat → Nat} {c : Nat} (h : ∀ y, y < 48 → qgt K y c = true → 0 < R y) : ∀ x, (mxg K R c x = 0 ∧ ∀ y, y < x → qgt K y c = false) ∨ (mxg K R c x = mxf K R c x + 1 ∧ ∃ y, y < x ∧ qgt K y c = true) := by
  intro x
  induction x with
  | zero => exact .inl ⟨rfl, fun y hy => absurd hy (Nat.not_lt_zero y)⟩
  | succ x ih =>
    rw [mxg, mxf]
    cases hq : qgt K x c
    · rw [if_neg (by decide), if_neg (by decide)]
      rcases ih with ⟨h1, h2⟩ | ⟨h1, y, h2, h3⟩
      · refine .inl ⟨h1, fun y hy => ?_⟩
        by_cases e : y = x
        · rw [e]; exact hq
        · exact h2 y (by omega)
      · exact .inr ⟨h1, y, by omega, h3⟩
    · rw [if_pos rfl, if_pos rfl]
      have hx := h x (qgt_gt hq).2 hq
      refine .inr ⟨?_, x, by omega, hq⟩
      rcases ih with ⟨h1, h2⟩ | ⟨h1, -⟩
      · have h0 : mxf K R c x = 0 := by
          have : ∀ z, z ≤ x → mxf K R c z = 0 := by
            intro z
            induction z with
            | zero => intro _; rfl
            | succ z ihz => intro hz; rw [mxf, h2 z (by omega), if_neg (by decide), ihz (by omega)]
          exact this x (Nat.le_refl x)
        rw [h1, h0]; omega
      · rw [h1]; omega
theorem mxg_le {K R : Nat → Nat} {c n : Nat} (h : ∀ i, i < 48 → R i ≤ n) : ∀ x, mxg K R c x ≤ n := by
  intro x
  induction x with
  | zero => exact Nat.zero_le n
  | succ x ih =>
    rw [mxg]
    split
    · rename_i hq
      have := h x (qgt_gt hq).2
      omega
    · exact ih
theorem mxg_rA {K R : Nat → Nat} {c N : Nat} (hN : ∀ y, N ≤ y → qgt K y c = false) (h : ∀ y, y < 48 → qgt K y c = true → 0 < R y) : mxg K R c N = rA K R c := by
  rcases mxg_f h N with ⟨h1, h2⟩ | ⟨h1, y, h2, h3⟩
  · have : ¬ 0 < rA K R c := by
      intro hf
      obtain ⟨⟨y, hy, hq⟩, -⟩ := rA_free.mp hf
      rcases Nat.lt_or_ge y N with h4 | h4
      · rw [h2 y h4] at hq; cases hq
      · rw [hN y h4] at hq; cases hq
    omega
  · have hf : 0 < rA K R c := rA_free.mpr ⟨⟨y, (qgt_gt h3).2, h3⟩, h⟩
    have e := (mxf_rA hf).2
    have e1 : mxf K R c N = mxf K R c (min 48 (c + 8)) := by
      have o1 : ∀ y, min 48 (c + 8) ≤ y → qgt K y c = false := by
        intro y hy
        cases hq : qgt K y c
        · rfl
        · have h5 := qgt_gt hq
          rw [qgt_out (.inr (by omega))] at hq
          cases hq
      rcases Nat.le_total N (min 48 (c + 8)) with h4 | h4
      · exact (mxf_st hN _ h4).symm
      · exact mxf_st o1 _ h4
    omega
theorem cm_allGone {J : mh_I} {K R : Nat → Nat} (hK : cK 1 J K) (hb : bK K 6) {c : Nat} (hc : c < 48) (hR : ∀ i, i / 6 = c / 6 + 1 → i < 48 → J 17 i = dI (R i)) (hl : ∀ i, i < 48 → R i ≤ 100) : X6_allGone (nI c) J = some (dI (rA K R c)) := by
  obtain ⟨F, hF, eF⟩ := fuel_ex
  unfold X6_allGone
  rw [eF, pj_b]
  simp (disch := omega) only [pn_dv, pn_al, pn_mr]
  have hN : ∀ y, min 48 (6 * (c / 6) + 12) ≤ y → qgt K y c = false := by
    intro y hy
    cases hq : qgt K y c
    · rfl
    · have h1 := qgt_gt hq
      have h2 := qgt_row hq
      omega
  refine pl_up (fun f j s => X6_allGone_l13 (nI c) J f s j) (min 48 (6 * (c / 6) + 12)) (fun r => r = some (dI (rA K R c))) (fun j s => s = dI (mxg K R c j) ∧ ∀ y, y < j → qgt K y c = true → 0 < R y) ?_ ?_ F (6 * (c / 6) + 6) (-1 : Int32) (by omega) (by omega) ⟨?_, ?_⟩
  · rintro f s ⟨hs, hg⟩
    show X6_allGone_l13 (nI c) J (f + 1) s (nI _) = _
    rw [X6_allGone_l13]
    have hfin : s = dI (rA K R c) := by
      rw [hs, mxg_rA hN (fun y hy hq => by
        rcases Nat.lt_or_ge y (min 48 (6 * (c / 6) + 12)) with h | h
        · exact hg y h hq
        · rw [hN y h] at hq; cases hq)]
    simp (disch := omega) only [pn_dv, pn_al, pn_mr, pn_ll, pn_le]
    by_cases h : 48 ≤ min 48 (6 * (c / 6) + 12)
    · rw [if_pos h, hfin]
    · rw [if_neg h, if_pos (by omega), hfin]
  · rintro f j s hj ⟨hs, hg⟩
    have hj48 : j < 48 := by omega
    show (∃ s', (s' = dI (mxg K R c (j + 1)) ∧ ∀ y, y < j + 1 → qgt K y c = true → 0 < R y) ∧ X6_allGone_l13 (nI c) J (f + 1) s (nI j) = _) ∨ X6_allGone_l13 (nI c) J (f + 1) s (nI j) = _
    rw [X6_allGone_l13, cm_gt hK hb hj48 hc, po_b]
    simp (disch := omega) only [pn_dv, pn_al, pn_mr, pn_ll, pn_le, if_neg, pj_j, pj_b, qI0, px_ix]
    rw [mxg]
    cases hq : qgt K j c
    · left
      refine ⟨s, ⟨by rw [if_neg (by decide)]; exact hs, fun y hy h => ?_⟩, by rw [if_pos rfl]⟩
      by_cases e : y = j
      · subst e; rw [hq] at h; cases h
      · exact hg y (by omega) h
    · rw [hR j (qgt_row hq) hj48]
      have hle := hl j hj48
      cases hr : R j with
      | zero =>
        right
        rw [if_neg (by decide), if_pos (show dI 0 = (-1 : Int32) from rfl)]
        have : rA K R c = 0 := by
          rcases Nat.eq_zero_or_pos (rA K R c) with h | h
          · exact h
          · have := (rA_free.mp h).2 j hj48 hq; omega
        rw [this]; rfl
      | succ m =>
        left
        have hml := mxg_le (K := K) (c := c) hl j
        refine ⟨dI (max (mxg K R c j) (m + 1)), ⟨by rw [if_pos rfl], fun y hy h => ?_⟩, ?_⟩
        · by_cases e : y = j
          · subst e; omega
          · exact hg y (by omega) h
        · rw [if_neg (by decide), if_neg (by show ¬ nI m = -1; rw [pn_neg (by omega)]; exact id), hs]
          show (if nI m ≤ dI (mxg K R c j) then _ else _) = _
          cases hmx : mxg K R c j with
          | zero =>
            rw [if_neg (by
              show ¬ nI m ≤ -1
              intro h
              have := Int32.le_iff_toInt_le.mp h
              rw [nI_toInt (by omega), show (-1 : Int32).toInt = -1 by decide] at this
              omega), Nat.max_eq_right (by omega)]
          | succ w =>
            show (if nI m ≤ nI w then _ else _) = _
            by_cases h : m ≤ w
            · rw [if_pos (nI_le h (by omega)), Nat.max_eq_left (by omega)]
            · rw [if_neg (nI_ge (by omega) (by omega)), Nat.max_eq_right (by omega)]
  · have : ∀ x, x ≤ 6 * (c / 6) + 6 → mxg K R c x = 0 := by
      intro x
      induction x with
      | zero => intro _; rfl
      | succ x ih =>
        intro h
        rw [mxg]
        cases hq : qgt K x c
        · rw [if_neg (by decide), ih (by omega)]
        · have := qgt_row hq
          omega
    rw [this _ (Nat.le_refl _)]
    rfl
  · intro y hy hq
    have := qgt_row hq
    omega
theorem rbk_6 {k : Nat} (hk : k < 6) {s m : Nat} {J : mh_I} {c : Nat} (hc : c < 48) (hm : J 2 c = nI m) (hs : s ≤ 99) (hm9 : m < 10) : mh_j (fun (s6 : Int32) => (X6_within s6 (0 : Int32) (999 : Int32)).bind (fun q14 => some (q14, J))) (fun J7 => mh_j (mh_ix (nI c) 48 (fun k12 => (J7 (nI s + (J 2 k12))))) (fun J8 => if nI k = (1 : Int32) then J8 else if nI k = (5 : Int32) then J8 else if nI k = (3 : Int32) then (J7 ((2 : Int32) * nI s)) else (J7 (nI s)))) = some (nI (rbk k s m), J) := by
  have hw : ∀ x, x ≤ 999 → (X6_within (nI x) (0 : Int32) (999 : Int32)).bind (fun q14 => some (q14, J)) = some (nI x, J) := by
    intro x hx
    show (X6_within (nI x) (0 : Int32) (nI 999)).bind _ = _
    rw [clampN_6 _ _ (by decide), clampN_nI hx (by decide), po_b]
  simp (disch := omega) only [pj_j, px_ix, hm, pn_er, nI_add, pn_mr]
  unfold rbk
  rcases (show k = 0 ∨ k = 1 ∨ k = 2 ∨ k = 3 ∨ k = 4 ∨ k = 5 by omega) with rfl | rfl | rfl | rfl | rfl | rfl <;> simp (decide := true) only [if_true, if_false] <;> exact hw _ (by omega)
theorem cm_rubs {u c m : Nat} {J : mh_I} {K M : Nat → Nat} {P N : Nat → Bool} {e o : Nat → Nat} (hS : rStt u J K M P N e o) (hc : c < 48) : ∃ J', X6_rubs (nI c) (nI m) J = some (nI (rbf e o K M N c m), J') ∧ fr16 J J' := by
  obtain ⟨h1, h2, h3, h4, h5, h6, h7, h8, h9, h10⟩ := hS
  obtain ⟨J', g1, g2⟩ := cm_asks (q := 0) (m := m) h7 (by decide) hc h8 h9 h10 (h1 c hc) (h2 c hc) (h3 c hc) (h6 c hc)
  refine ⟨J', ?_, g2⟩
  unfold X6_rubs
  show (X6_asksOf (nI 0) (nI c) (nI m) J).bind _ = _
  rw [g1, po_b, pj_b, px_ix hc (by decide)]
  dsimp only
  rw [g2 1 c (by decide) (by decide), h1 c hc, pj_b]
  exact rbk_6 (h2 c hc) hc ((g2 2 c (by decide) (by decide)).trans (h3 c hc)) (sd_le e o K M N 0 c m) (h4 c hc)
theorem qbz {P : Nat → Bool} {c : Nat} : (nI (qb P c) = 0) = (P c = false) := by
  unfold qb
  cases P c <;> decide
theorem cm_leftOf {u c p : Nat} {J : mh_I} {K M R : Nat → Nat} {P N D : Nat → Bool} {e o : Nat → Nat} (hS : rStt u J K M P N e o) (hc : c < 48) (hR : ∀ i, i / 6 = c / 6 + 1 → i < 48 → J 17 i = dI (R i)) (hl : ∀ i, i < 48 → R i ≤ 100) : ∃ J', X6_leftOf (nI c) (nI (qb D c)) (nI p) J = some (dI (rSt K (qkp K P) D p (rbf e o K M N) R c), J') ∧ fr16 J J' := by
  unfold X6_leftOf
  rw [cm_keeps hS.1 hS.2.1 (hS.2.2.2.2.1 c hc) hc, po_b, cm_allGone hS.1 hS.2.1 hc hR hl, po_b]
  simp only [qI0, pj_j, qbz]
  unfold rSt
  cases hk : qkp K P c
  · cases hD : D c
    · rcases Nat.eq_zero_or_pos (rA K R c) with h | h
      · refine ⟨J, ?_, fun _ _ _ _ => rfl⟩
        simp only [if_true, Bool.false_eq_true, if_false, h]
        rw [if_pos (show dI 0 = (-1 : Int32) from rfl), if_pos (show dI 0 ≤ (0 : Int32) by decide), if_neg (by omega)]
        rfl
      · have hml : rA K R c ≤ 100 := rA_le (fun i _ hi => hl i hi)
        obtain ⟨J', g1, g2⟩ := cm_rubs (m := rA K R c - 1) hS hc
        refine ⟨J', ?_, g2⟩
        have hsl := sd_le e o K M N 0 c (rA K R c - 1)
        have hrl : rbf e o K M N c (rA K R c - 1) ≤ 999 := rbk_le hsl (hS.2.2.2.1 c hc)
        simp only [if_true, Bool.false_eq_true, if_false]
        rw [dI_pos h, if_neg (by rw [pn_neg (by omega)]; exact id), g1, po_b]
        simp (disch := omega) only [pn_le]
        by_cases h2 : rA K R c - 1 ≤ rbf e o K M N c (rA K R c - 1)
        · rw [if_pos h2, if_neg (by omega)]; rfl
        · rw [if_neg h2, if_pos (by omega), dI_pos (by omega), pk_sub (by omega)]
          rw [show rA K R c - 1 - rbf e o K M N c (rA K R c - 1) = rA K R c - rbf e o K M N c (rA K R c - 1) - 1 by omega]
    · refine ⟨J, ?_, fun _ _ _ _ => rfl⟩
      simp only [if_true, Bool.false_eq_true, if_false, Bool.true_eq_false]
      rfl
  · refine ⟨J, ?_, fun _ _ _ _ => rfl⟩
    simp only [if_true, if_false, Bool.true_eq_false]
    rfl
