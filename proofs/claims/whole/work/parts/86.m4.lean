/-! PURE: hands: slips, odds -/
def lotf (x : Int64) : Int64 := mh_reml (x * (48271 : Int64)) (2147483647 : Int64)
theorem p_missed {L' : mh_L} {I' J' : mh_I} {K R : Nat → Nat} {a : Nat} (hi : Int32) (ha : a < 1000000) (rX : ranX I' L' K R) (rM : ranM J' R) (hl : ∀ i, i < 48 → R i ≤ 100) : ∃ v, X5_missed (nI a) hi L' = some (nI v) ∧ X6_missed (nI a) hi J' = some (nI v) ∧ v ≤ 48 := by
  obtain ⟨F, hF, eF⟩ := fuel_ex
  unfold X5_missed X6_missed
  rw [eF, pj_b, pj_b]
  refine pl_2 (fun f j (x : Int64 × Nat) => X5_missed_l19 hi L' f x.1 (nI x.2) (nI j)) (fun f j (x : Int64 × Nat) => X6_missed_l11 hi J' f x.1 (nI x.2) (nI j)) 48 (fun p q => ∃ v, p = some (nI v) ∧ q = some (nI v) ∧ v ≤ 48) (fun j x y => x.1 = lotf y.1 ∧ x.2 = y.2 ∧ x.2 ≤ j) ?_ ?_ F 0 (mh_reml (((nI a + (1 : Int32)).toInt64) * (48271 : Int64)) (2147483647 : Int64), 0) ((nI a).toInt64 + (1 : Int64), 0) (by omega) (by omega) ⟨?_, rfl, Nat.le_refl 0⟩
  · rintro f ⟨x1, x2⟩ ⟨y1, y2⟩ ⟨h1, h2, h3⟩
    dsimp only at h1 h2 h3
    subst h2
    dsimp only
    rw [X5_missed_l19, X6_missed_l11, if_pos (show (48 : Int32) ≤ nI 48 by decide), if_pos (show (48 : Int32) ≤ nI 48 by decide)]
    exact ⟨x2, rfl, rfl, h3⟩
  · rintro f j ⟨x1, x2⟩ ⟨y1, y2⟩ hj ⟨h1, h2, h3⟩
    dsimp only at h1 h2 h3
    subst h2
    left
    have hle := hl j hj
    dsimp only
    rw [X5_missed_l19, X6_missed_l11, rX.2.1, qS_has _ hj]
    simp (disch := omega) only [pn_ll, if_neg, px_ix, po_b, pj_j, pj_b, qI0, rM.1, dIm, pn_al]
    by_cases hr : 0 < R j
    · rw [if_neg (by rw [decide_eq_true hr]; decide), if_neg (show ¬ R j = 0 by omega), h1]
      by_cases hc : 0 ≤ lg_cmp (mh_reml (lotf y1) (100 : Int64)) hi.toInt64
      · refine ⟨(lotf (lotf y1), x2), (lotf y1, x2), ⟨rfl, rfl, by omega⟩, ?_, ?_⟩
        · rw [if_pos hc]
          rfl
        · have hc' : 0 ≤ lg_cmp (mh_reml (mh_reml (y1 * (48271 : Int64)) (2147483647 : Int64)) (100 : Int64)) hi.toInt64 := hc
          rw [if_pos hc']
          simp only [pn_al]
          rfl
      · refine ⟨(lotf (lotf y1), x2 + 1), (lotf y1, x2 + 1), ?_, ?_, ?_⟩
        · exact ⟨rfl, rfl, Nat.succ_le_succ h3⟩
        · rw [if_neg hc]
          rfl
        · have hc' : ¬ 0 ≤ lg_cmp (mh_reml (mh_reml (y1 * (48271 : Int64)) (2147483647 : Int64)) (100 : Int64)) hi.toInt64 := hc
          rw [if_neg hc']
          rfl
    · rw [if_pos (by rw [decide_eq_false hr]), if_pos (show R j = 0 by omega)]
      exact ⟨(x1, x2), (y1, x2), ⟨h1, rfl, by omega⟩, rfl, rfl⟩
  · show mh_reml (((nI a + (1 : Int32)).toInt64) * (48271 : Int64)) (2147483647 : Int64) = lotf ((nI a).toInt64 + (1 : Int64))
    unfold lotf
    rw [nI_1, nI_l (by omega), nI_l (by omega), lN_1]
theorem pa_seed (v : Int32) : (X5_within v 0 99999 = some 0 ∧ X6_isSeed v = some 0) ∨ ∃ c, c < 100000 ∧ v = nI c ∧ X5_within v 0 99999 = some 1 ∧ X6_isSeed v = some 1 := by
  unfold X6_isSeed
  rcases pa_rng v 99999 (n := 99999) (by decide) with ⟨h1, h2, -⟩ | ⟨c, h1, h2, h3, h4⟩
  · exact .inl ⟨h1, by rw [h2]; rfl⟩
  · exact .inr ⟨c, by omega, h2, h3, by rw [h4]; rfl⟩
theorem r_slips : RS_slips Rel := by
  intro T I L J a1 a2 a3 a4 h
  unfold X5_slips X6_slips
  rcases pa_loop a2 with ⟨h5, h6⟩ | ⟨c, hc, rfl, h5, h6⟩
  · simp only [h5, h6, po_b, if_true]
    exact ⟨_, _, rfl, rfl, rfl, h⟩
  rcases pa_seed a1 with ⟨g5, g6⟩ | ⟨a, ha, rfl, g5, g6⟩
  · simp only [h5, h6, g5, g6, po_b, if_true, pz_10, if_false]
    exact ⟨_, _, rfl, rfl, rfl, h⟩
  rcases pa_pull a3 with ⟨k5, k6⟩ | ⟨p, hp, rfl, k5, k6⟩
  · simp only [h5, h6, g5, g6, k5, k6, po_b, if_true, pz_10, if_false]
    exact ⟨_, _, rfl, rfl, rfl, h⟩
  rcases pa_rng a4 100 (n := 100) (by decide) with ⟨m5, m6, -⟩ | ⟨w, hw, e4, m5, m6⟩
  · simp only [h5, h6, g5, g6, k5, k6, m5, m6, po_b, if_true, pz_10, if_false]
    exact ⟨_, _, rfl, rfl, rfl, h⟩
  obtain ⟨-, ⟨K, M, P, N, u, n, hc1, -⟩, -⟩ := id h
  obtain ⟨e, o, h2⟩ := R2_of hc1
  obtain ⟨I', L', d1, d2, d3, d4⟩ := pd_x h2 hc hp
  obtain ⟨J', e1, e2, e3⟩ := pd_m h2 hc hp
  obtain ⟨v, v1, v2, -⟩ := p_missed a4 (a := a) (by omega) d2 e2 (RR_le K P (rbf e o K M N) (c := c) hp)
  simp only [h5, h6, g5, g6, k5, k6, m5, m6, po_b, pz_10, if_false, d1, e1, v1, v2]
  exact ⟨_, _, rfl, rfl, rfl, Rel_fr h d3 d4 e3⟩
theorem p_gcd5 {a b : Nat} (ha : a ≤ 1000) (hb : b ≤ 1000) (hb0 : 0 < b) : X5_commonDivisor (nI a) (nI b) = some (nI (Nat.gcd a b)) := by
  obtain ⟨F, hF, eF⟩ := fuel_ex
  unfold X5_commonDivisor
  rw [eF]
  have key : ∀ f d, d < f → d ≤ b → (∀ d', d < d' → d' ≤ b → ¬ (d' ∣ a ∧ d' ∣ b)) → X5_commonDivisor_l2 (nI a) (nI b) f (nI d) = some (nI (Nat.gcd a b)) := by
    intro f
    induction f with
    | zero => intro d h; omega
    | succ f ih =>
      intro d hf hd hn
      have hg0 : 0 < Nat.gcd a b := Nat.gcd_pos_of_pos_right a hb0
      have hgb : Nat.gcd a b ≤ b := Nat.le_of_dvd hb0 (Nat.gcd_dvd_right a b)
      have hgd : Nat.gcd a b ≤ d := by
        rcases Nat.lt_or_ge d (Nat.gcd a b) with h | h
        · exact absurd ⟨Nat.gcd_dvd_left a b, Nat.gcd_dvd_right a b⟩ (hn _ h hgb)
        · exact h
      rw [X5_commonDivisor_l2]
      by_cases h1 : d ≤ 1
      · rw [if_pos (by show nI d ≤ nI 1; exact nI_le h1 (by omega)), show Nat.gcd a b = 1 by omega]
        rfl
      · have hd0 : 0 < d := by omega
        rw [if_neg (by show ¬ nI d ≤ nI 1; exact nI_ge (by omega) (by omega))]
        unfold mh_dv
        rw [if_neg (nI_ne0 hd0 (by omega)), pj_j, pj_b, show mh_rem (nI a) (nI d) = nI (a % d) from pk_rem (by omega) hd0 (by omega), show mh_rem (nI b) (nI d) = nI (b % d) from pk_rem (by omega) hd0 (by omega)]
        have hma : a % d < d := Nat.mod_lt _ hd0
        have hmb : b % d < d := Nat.mod_lt _ hd0
        have hrec : X5_commonDivisor_l2 (nI a) (nI b) f (nI d + (-1 : Int32)) = (if ¬ (a % d = 0 ∧ b % d = 0) then some (nI (Nat.gcd a b)) else X5_commonDivisor_l2 (nI a) (nI b) f (nI d + (-1 : Int32))) := by
          by_cases hh : ¬ (a % d = 0 ∧ b % d = 0)
          · rw [if_pos hh, sb_m1 hd0]
            refine ih (d - 1) (by omega) (by omega) (fun d' h3 h4 => ?_)
            by_cases e : d' = d
            · subst e
              exact fun h5 => hh ⟨Nat.mod_eq_zero_of_dvd h5.1, Nat.mod_eq_zero_of_dvd h5.2⟩
            · exact hn d' (by omega) h4
          · rw [if_neg hh]
        rw [hrec]
        simp (disch := omega) only [pn_er]
        by_cases c1 : a % d = 0
        · rw [if_pos c1, if_neg (show ¬ d = 0 by omega)]
          by_cases c2 : b % d = 0
          · rw [if_pos c2]
            have hdg : d ∣ Nat.gcd a b := Nat.dvd_gcd (Nat.dvd_of_mod_eq_zero c1) (Nat.dvd_of_mod_eq_zero c2)
            have := Nat.le_of_dvd hg0 hdg
            rw [show Nat.gcd a b = d by omega]
          · rw [if_neg c2, if_pos (fun h => c2 h.2)]
        · rw [if_neg c1, if_pos (fun h => c1 h.1)]
  exact key F b (by omega) (Nat.le_refl b) (fun d' h1 h2 => by omega)
theorem p_gcd6 {ρ : Type} (k : Int64 → Option Int64) : ∀ f a b, b < f → a < 2 ^ 31 → b < 2 ^ 31 → X6_lowest__l16 k f (lN a) (lN b) = k (lN (Nat.gcd a b)) := by
  intro f
  induction f with
  | zero => intro a b h; omega
  | succ f ih =>
    intro a b hf ha hb
    rw [X6_lowest__l16]
    have e0 : (lg_cmp (lN b) (0 : Int64) = 0) = (b = 0) := propext (by
      rw [lg_cmp_eq]
      exact lN_eq (b := 0) hb (by decide))
    simp only [e0]
    by_cases h0 : b = 0
    · rw [if_pos h0, h0, Nat.gcd_zero_right]
    · have hb0 : 0 < b := by omega
      have hm : a % b < b := Nat.mod_lt _ hb0
      rw [if_neg h0]
      unfold mh_dvl
      rw [if_neg (show ¬ lN b = (0 : Int64) from fun e => h0 ((lN_eq (b := 0) hb (by decide)).mp e)), pj_b, show mh_reml (lN a) (lN b) = lN (a % b) from pk_lRem (by omega) hb0 (by omega), ih b (a % b) (by omega) hb (by omega)]
      rw [Nat.gcd_comm b, ← Nat.gcd_rec, Nat.gcd_comm]
theorem p_low {m s w : Nat} (hm : m ≤ s) (hs : s ≤ 50) (hs0 : 0 < s) (hw : w ≤ 1) : ∃ v, (X5_commonDivisor (nI m) (nI s)).bind (fun q19 => if q19 ≤ (1 : Int32) then some ((if nI w = 0 then nI m else nI s).toInt64) else mh_dv q19 (some (((if nI w = 0 then nI m else nI s) / q19).toInt64))) = some v ∧ X6_lowest_ (lN m) ((nI s).toInt64) (nI w) = some v := by
  obtain ⟨F, hF, eF⟩ := fuel_ex
  rw [p_gcd5 (by omega) (by omega) hs0, po_b]
  unfold X6_lowest_
  rw [eF, nI_l (show s < 2 ^ 31 by omega), p_gcd6 (ρ := Int64) _ F m s (by omega) (by omega) (by omega)]
  have hg0 : 0 < Nat.gcd m s := Nat.gcd_pos_of_pos_right m hs0
  have hgb : Nat.gcd m s ≤ s := Nat.le_of_dvd hs0 (Nat.gcd_dvd_right m s)
  have e0 : (lg_cmp (lN m) (0 : Int64) = 0) = (m = 0) := propext (by
    rw [lg_cmp_eq]
    exact lN_eq (b := 0) (by omega) (by decide))
  have hdv : ∀ x, x ≤ 50 → (if nI (Nat.gcd m s) ≤ (1 : Int32) then some ((nI x).toInt64) else mh_dv (nI (Nat.gcd m s)) (some ((nI x / nI (Nat.gcd m s)).toInt64))) = some (lN (x / Nat.gcd m s)) := by
    intro x hx
    by_cases h1 : Nat.gcd m s ≤ 1
    · rw [if_pos (by show nI _ ≤ nI 1; exact nI_le h1 (by omega)), nI_l (by omega), show Nat.gcd m s = 1 by omega, Nat.div_one]
    · rw [if_neg (by show ¬ nI _ ≤ nI 1; exact nI_ge (by omega) (by omega))]
      unfold mh_dv
      rw [if_neg (nI_ne0 hg0 (by omega)), pk_div (by omega) hg0 (by omega), nI_l (Nat.lt_of_le_of_lt (Nat.div_le_self _ _) (by omega))]
  simp only [e0]
  rcases (show w = 0 ∨ w = 1 by omega) with rfl | rfl
  · simp only [show (nI 0 = 0) = True from eq_true rfl, if_true]
    rw [hdv m (by omega)]
    refine ⟨_, rfl, ?_⟩
    by_cases h : m = 0
    · rw [if_pos h, h, Nat.zero_div]; rfl
    · rw [if_neg h]
      unfold mh_dvl
      rw [if_neg (show ¬ lN (Nat.gcd m s) = (0 : Int64) from fun e => by have := (lN_eq (b := 0) (show Nat.gcd m s < 2 ^ 31 by omega) (by decide)).mp e; omega), pk_lDiv (by omega) hg0 (by omega)]
  · simp only [show (nI 1 = 0) = False by decide, if_false]
    rw [hdv s (by omega)]
    refine ⟨_, rfl, ?_⟩
    by_cases h : m = 0
    · rw [if_pos h, h, Nat.gcd_zero_left, Nat.div_self hs0]; rfl
    · rw [if_neg h]
      unfold mh_dvl
      rw [if_neg (show ¬ lN (Nat.gcd m s) = (0 : Int64) from fun e => by have := (lN_eq (b := 0) (show Nat.gcd m s < 2 ^ 31 by omega) (by decide)).mp e; omega), pk_lDiv (by omega) hg0 (by omega)]
theorem pa_1 (v b : Int32) {n : Nat} (hb : b.toInt = n) : (X5_within v 1 b = some 0 ∧ X6_in v 1 b = some 0) ∨ ∃ c, 0 < c ∧ c ≤ n ∧ v = nI c ∧ X5_within v 1 b = some 1 ∧ X6_in v 1 b = some 1 := by
  by_cases h : 1 ≤ v ∧ v ≤ b
  · have h0 : 0 ≤ v := Int32.le_trans (by decide) h.1
    obtain ⟨c, h1, h2⟩ := nI_of2 hb (Int32.not_lt.mpr h0) h.2
    refine .inr ⟨c, ?_, h1, h2, by rw [px_within, pI, if_pos h], by rw [pm_in, pI, if_pos h]⟩
    rcases Nat.eq_zero_or_pos c with h3 | h3
    · subst h3
      rw [h2] at h
      exact absurd h.1 (by decide)
    · exact h3
  · exact .inl ⟨by rw [px_within, pI, if_neg h], by rw [pm_in, pI, if_neg h]⟩
theorem r_odds : RS_odds Rel := by
  intro T I L J a1 a2 a3 a4 a5 a6 h
  obtain ⟨F, hF, eF⟩ := fuel_ex
  unfold X5_odds X6_odds
  rw [eF]
  rcases pa_seed a1 with ⟨g5, g6⟩ | ⟨a, ha, rfl, g5, g6⟩
  · simp only [g5, g6, po_b, if_true]
    exact ⟨_, _, rfl, rfl, rfl, h⟩
  rcases pa_1 a2 50 (n := 50) (by decide) with ⟨m5, m6⟩ | ⟨s, hs0, hs, rfl, m5, m6⟩
  · simp only [g5, g6, m5, m6, po_b, if_true, pz_10, if_false]
    exact ⟨_, _, rfl, rfl, rfl, h⟩
  rcases pa_loop a3 with ⟨h5, h6⟩ | ⟨c, hc, rfl, h5, h6⟩
  · simp only [g5, g6, m5, m6, h5, h6, po_b, if_true, pz_10, if_false]
    exact ⟨_, _, rfl, rfl, rfl, h⟩
  rcases pa_pull a4 with ⟨k5, k6⟩ | ⟨p, hp, rfl, k5, k6⟩
  · simp only [g5, g6, m5, m6, h5, h6, k5, k6, po_b, if_true, pz_10, if_false]
    exact ⟨_, _, rfl, rfl, rfl, h⟩
  rcases pa_rng a5 100 (n := 100) (by decide) with ⟨n5, n6, -⟩ | ⟨hh, hhw, e4, n5, n6⟩
  · simp only [g5, g6, m5, m6, h5, h6, k5, k6, n5, n6, po_b, if_true, pz_10, if_false]
    exact ⟨_, _, rfl, rfl, rfl, h⟩
  rcases pa_rng a6 1 (n := 1) (by decide) with ⟨o5, o6, -⟩ | ⟨w, hw, rfl, o5, o6⟩
  · simp only [g5, g6, m5, m6, h5, h6, k5, k6, n5, n6, o5, o6, po_b, if_true, pz_10, if_false]
    exact ⟨_, _, rfl, rfl, rfl, h⟩
  obtain ⟨-, ⟨K, M, P, N, u, n, hc1, -⟩, -⟩ := id h
  obtain ⟨e, o, h2⟩ := R2_of hc1
  obtain ⟨I', L', d1, d2, d3, d4⟩ := pd_x h2 hc hp
  obtain ⟨J', e1, e2, e3⟩ := pd_m h2 hc hp
  have hl := RR_le K P (rbf e o K M N) (c := c) hp
  rw [g5, po_b, if_neg (by decide), m5, po_b, if_neg (by decide), h5, po_b, if_neg (by decide), k5, po_b, if_neg (by decide), n5, po_b, if_neg (by decide), o5, po_b, if_neg (by decide), d1, po_b]
  rw [g6, po_b, if_neg (by decide), m6, po_b, if_neg (by decide), h6, po_b, if_neg (by decide), k6, po_b, if_neg (by decide), n6, po_b, if_neg (by decide), o6, po_b, if_neg (by decide), e1, po_b]
  refine pl_2 (fun f j (x : Nat) => X5_odds_l78 (nI a) (nI s) a5 L' _ f (nI x) (nI j)) (fun f j (x : Nat) => X6_odds_l70 (nI a) (nI s) a5 J' _ f (lN x) (nI j)) s (fun a b => ∃ q r, a = some q ∧ b = some r ∧ q.1 = r.1 ∧ Rel T q.2.1 q.2.2 r.2) (fun j x y => x = y ∧ x ≤ j) ?_ ?_ F 0 0 0 (by omega) (by omega) ⟨rfl, Nat.le_refl 0⟩
  · rintro f x y ⟨rfl, hx⟩
    dsimp only
    rw [X5_odds_l78, X6_odds_l70, if_pos (Int32.le_refl _), if_pos (Int32.le_refl _)]
    obtain ⟨v, v1, v2⟩ := p_low hx hs hs0 hw
    rw [v2, po_b, pj_j]
    refine ⟨(v, I', L'), _, ?_, rfl, rfl, Rel_fr h d3 d4 e3⟩
    have hg : ∀ z : Int32, (X5_commonDivisor (nI x) (nI s)).bind (fun q19 => if q19 ≤ (1 : Int32) then some ((z.toInt64), I', L') else mh_dv q19 (some (((z / q19).toInt64), I', L'))) = ((X5_commonDivisor (nI x) (nI s)).bind (fun q19 => if q19 ≤ (1 : Int32) then some (z.toInt64) else mh_dv q19 (some ((z / q19).toInt64)))).bind (fun v => some (v, I', L')) := by
      intro z
      rw [p_gcd5 (by omega) (by omega) hs0, po_b, po_b]
      unfold mh_dv
      split
      · rfl
      · split
        · rfl
        · rfl
    dsimp only
    by_cases h0 : nI w = 0
    · rw [if_pos h0, hg]
      rw [if_pos h0] at v1
      rw [v1, po_b]
    · rw [if_neg h0, hg]
      rw [if_neg h0] at v1
      rw [v1, po_b]
  · rintro f j x y hj ⟨rfl, hx⟩
    left
    obtain ⟨v, v1, v2, v3⟩ := p_missed a5 (a := a + j) (by omega) d2 e2 hl
    dsimp only
    rw [X5_odds_l78, X6_odds_l70, nI_add, v1, po_b, v2, po_b]
    simp (disch := omega) only [pn_le, if_neg, pj_j, pj_b, pn_al, pn_er]
    by_cases hv : v = 0
    · refine ⟨x + 1, x + 1, ⟨rfl, by omega⟩, ?_, ?_⟩
      · rw [if_pos hv]
      · rw [if_pos hv, lN_1]
    · refine ⟨x, x, ⟨rfl, by omega⟩, ?_, ?_⟩
      · rw [if_neg hv]
      · rw [if_neg hv, Int64.add_zero]
