/-! PURE: the script's loop over all loops -/
theorem la_ex {sc : mh_Sc} (hs : sc.1 ≤ 260) {k : Nat} (hk : k < 2 ^ 31) : ∃ x, L_at sc (nI k) = some x := by
  unfold L_at
  simp (disch := omega) only [pn_le]
  by_cases h : sc.1 ≤ k
  · exact ⟨0, by rw [if_pos h]⟩
  · exact ⟨sc.2 k, by rw [if_neg h, px_ix (by omega) (by omega)]⟩
theorem xx_mx {I I' : mh_I} (h : xx I I') : xx I (mh_mx 46 I' I) := by
  intro b k hb
  by_cases h46 : b < 46
  · rw [mh_mx_lo h46, h b k hb]
  · rw [mh_mx_hi h46]
theorem ll_mx {L L' : mh_L} (h : ll L L') : ll L (mh_mx 46 L' L) := by
  intro b k hb hb2
  by_cases h46 : b < 46
  · rw [mh_mx_lo h46, h b k hb hb2]
  · rw [mh_mx_hi h46]
def GS (hh : Nat) (H : Nat → Int64) (u : Nat) (I : mh_I) (L : mh_L) (K M : Nat → Nat) (P N : Nat → Bool) (e o : Nat → Nat) : Prop := XS u I L K M P N e o ∧ ∀ k, L hh k = H k
section LAW
variable {sc : mh_Sc} {hh u : Nat} {H : Nat → Int64} {I : mh_I} {L : mh_L} {K M : Nat → Nat} {P N : Nat → Bool} {e o : Nat → Nat}
theorem GS_mx (h46 : 46 ≤ hh) (h : GS hh H u I L K M P N e o) {I' : mh_I} {L' : mh_L} (hI : xx I I') (hL : ll L L') : GS hh H u (mh_mx 46 I' I) (mh_mx 46 L' L) K M P N e o :=
  ⟨XS_fr h.1 (xx_mx hI) (ll_mx hL), fun k => by rw [mh_mx_hi (by omega)]; exact h.2 k⟩
theorem mh_j2 {τ β : Type} (T : τ → β) (c : Prop) [Decidable c] (a b : τ) : mh_j T (fun J => if c then J a else J b) = T (if c then a else b) := by
  rw [pj_j]
  by_cases h : c
  · rw [if_pos h, if_pos h]
  · rw [if_neg h, if_neg h]
def isLowF (R : Nat → Nat) (j : Nat) (v : Int32) : Prop := (v = -1 ∧ ∀ i, j ≤ i → i < 48 → R i = 0) ∨ ∃ k, j ≤ k ∧ k < 48 ∧ v = nI (k / 6) ∧ 0 < R k ∧ ∀ i, j ≤ i → i < k → R i = 0
theorem sl_l104 (h46 : 46 ≤ hh) (hg : GS hh H u I L K M P N e o) (hS : SCK sc K M P) (hA : SCA sc K M N e o) {c p F : Nat} (hc : c < 48) (hp : p < 100) (hF : 100 < F) (hH : ∀ i, i < 48 → H i = dL (RR K P (rbf e o K M N) c p i)) (k221 : Int64 → Int64 → Int32 → Int32 → Int32 → mh_I → mh_L → Option Int32) : ∃ low I' L', L_law_l104 sc hh (nI p) (nI c) k221 F (0 : Int64) (0 : Int64) (-1 : Int32) (0 : Int32) (0 : Int32) (47 : Int32) I L = k221 (qS (fun i => decide (0 < RR K P (rbf e o K M N) c p i))) (qS (fun i => decide (RR K P (rbf e o K M N) c p i = 0) && decide (0 < rA K (RR K P (rbf e o K M N) c p) i))) low (nI (sG (fun j => sd e o K M N 1 j (RR K P (rbf e o K M N) c p j - 1)) (RR K P (rbf e o K M N) c p) 48)) (nI (sG (fun j => sd e o K M N 2 j (RR K P (rbf e o K M N) c p j - 1)) (RR K P (rbf e o K M N) c p) 48)) I' L' ∧ isLow (RR K P (rbf e o K M N) c p) low ∧ GS hh H u I' L' K M P N e o := by
  have hl := RR_le K P (rbf e o K M N) (c := c) hp
  have hleft : ∀ {I : mh_I} {L : mh_L}, XS u I L K M P N e o → ∀ {d : Nat}, d < 48 → ∃ I' L', X5_left (nI c) (nI p) (nI d) I L = some (dI (RR K P (rbf e o K M N) c p d), I', L') ∧ xx I I' ∧ ll L L' := fun hx d hd => v_left hx hc hp hd
  generalize RR K P (rbf e o K M N) c p = R at *
  refine pl_dn (fun f j (s : Int64 × Int64 × Int32 × Int32 × Int32 × mh_I × mh_L) => L_law_l104 sc hh (nI p) (nI c) k221 f s.1 s.2.1 s.2.2.1 s.2.2.2.1 s.2.2.2.2.1 j s.2.2.2.2.2.1 s.2.2.2.2.2.2) (fun r => ∃ low I' L', r = k221 (qS (fun i => decide (0 < R i))) (qS (fun i => decide (R i = 0) && decide (0 < rA K R i))) low (nI (sG (fun j => sd e o K M N 1 j (R j - 1)) R 48)) (nI (sG (fun j => sd e o K M N 2 j (R j - 1)) R 48)) I' L' ∧ isLow R low ∧ GS hh H u I' L' K M P N e o) (fun j s => j ≤ 48 ∧ s.1 = qS (fun i => decide (j ≤ i) && decide (0 < R i)) ∧ s.2.1 = qS (fun i => decide (j ≤ i) && (decide (R i = 0) && decide (0 < rA K R i))) ∧ isLowF R j s.2.2.1 ∧ (∃ a, s.2.2.2.1 = nI a ∧ a + sG (fun j => sd e o K M N 1 j (R j - 1)) R j = sG (fun j => sd e o K M N 1 j (R j - 1)) R 48) ∧ (∃ a, s.2.2.2.2.1 = nI a ∧ a + sG (fun j => sd e o K M N 2 j (R j - 1)) R j = sG (fun j => sd e o K M N 2 j (R j - 1)) R 48) ∧ GS hh H u s.2.2.2.2.2.1 s.2.2.2.2.2.2 K M P N e o) ?_ ?_ F 48 (0, 0, -1, 0, 0, I, L) (by omega) ⟨Nat.le_refl _, ?_, ?_, .inl ⟨rfl, fun i h1 h2 => by omega⟩, ⟨0, rfl, Nat.zero_add _⟩, ⟨0, rfl, Nat.zero_add _⟩, hg⟩
  · rintro f ⟨u7, u9, low, m1, m2, I1, L1⟩ ⟨-, g1, g2, g3, ⟨a1, g4, g4'⟩, ⟨a2, g5, g5'⟩, g6⟩
    dsimp only at g1 g2 g3 g4 g5 g6
    have z1 : ∀ f : Nat → Nat, sG f R 0 = 0 := fun _ => rfl
    rw [z1, Nat.add_zero] at g4' g5'
    refine ⟨low, I1, L1, ?_, ?_, g6⟩
    · show L_law_l104 sc hh (nI p) (nI c) k221 (f + 1) u7 u9 low m1 m2 (-1) I1 L1 = _
      rw [L_law_l104, if_pos (by decide), g1, g2, g4, g5, g4', g5']
      have e1 : qS (fun i => decide (0 ≤ i) && decide (0 < R i)) = qS (fun i => decide (0 < R i)) := qS_ext fun i _ => by rw [decide_eq_true (Nat.zero_le i), Bool.true_and]
      have e2 : qS (fun i => decide (0 ≤ i) && (decide (R i = 0) && decide (0 < rA K R i))) = qS (fun i => decide (R i = 0) && decide (0 < rA K R i)) := qS_ext fun i _ => by rw [decide_eq_true (Nat.zero_le i), Bool.true_and]
      rw [e1, e2]
    · rcases g3 with ⟨x1, x2⟩ | ⟨k, x0, x1, x2, x3, x4⟩
      · exact .inl ⟨x1, fun i hi => x2 i (Nat.zero_le i) hi⟩
      · exact .inr ⟨k, x1, x2, x3, fun i hi => x4 i (Nat.zero_le i) hi⟩
  · rintro f j ⟨u7, u9, low, m1, m2, I1, L1⟩ ⟨g0, g1, g2, g3, ⟨a1, g4, g4'⟩, ⟨a2, g5, g5'⟩, g6⟩
    dsimp only at g1 g2 g3 g4 g5 g6
    left
    have hj : j < 48 := by omega
    have hlj := hl j hj
    obtain ⟨I', L', d1, d2, d3⟩ := hleft g6.1 hj
    have g6' := GS_mx h46 g6 d2 d3
    have eh : ∀ k, mh_mx 46 L' L1 hh k = H k := g6'.2
    have hcome : L_come sc hh (nI j) (mh_mx 46 L' L1) = some (dL (rA K R j)) := sl_come hS hj (fun y hy _ => (eh y).trans (hH y hy)) hl
    have hal : rA K R j ≤ 100 := rA_le (fun i _ hi => hl i hi)
    have E : L_law_l104 sc hh (nI p) (nI c) k221 (f + 1) u7 u9 low m1 m2 (nI j) I1 L1 = if 0 < R j then L_law_l104 sc hh (nI p) (nI c) k221 f (u7 ||| qS (fun i => decide (i = j))) u9 (nI (j / 6)) (m1 + nI (sd e o K M N 1 j (R j - 1))) (m2 + nI (sd e o K M N 2 j (R j - 1))) (dI j) (mh_mx 46 I' I1) (mh_mx 46 L' L1) else if 0 < rA K R j then L_law_l104 sc hh (nI p) (nI c) k221 f u7 (u9 ||| qS (fun i => decide (i = j))) low m1 m2 (dI j) (mh_mx 46 I' I1) (mh_mx 46 L' L1) else L_law_l104 sc hh (nI p) (nI c) k221 f u7 u9 low m1 m2 (dI j) (mh_mx 46 I' I1) (mh_mx 46 L' L1) := by
      rw [L_law_l104, if_neg (nI_pos (by omega)), d1, po_b]
      dsimp only
      simp (disch := omega) only [px_ix, eh, hH, dI_l, lg_cmp_eq, if_true, pj_j, pj_b, dI_p, dL_ge, qS_sh, pn_dv, dL_i]
      by_cases hr : 0 < R j
      · have q1 : L_asks sc (1 : Int32) (nI j) (nI (R j - 1)) (0 : Int32) = some (nI (sd e o K M N 1 j (R j - 1))) := hA 1 j (R j - 1) (by decide) hj (by omega)
        have q2 : L_asks sc (2 : Int32) (nI j) (nI (R j - 1)) (0 : Int32) = some (nI (sd e o K M N 2 j (R j - 1))) := hA 2 j (R j - 1) (by decide) hj (by omega)
        rw [if_pos hr, if_pos hr, dI_pos hr, q1, po_b, q2, po_b]
      · rw [if_neg hr, if_neg hr, hcome, po_b]
        simp only [dL_lt (show rA K R j < 2 ^ 31 by omega)]
        by_cases ha : rA K R j = 0
        · rw [if_pos ha, if_neg (by omega)]
        · rw [if_neg ha, if_pos (by omega)]
    have s1 : sG (fun j => sd e o K M N 1 j (R j - 1)) R (j + 1) = sG (fun j => sd e o K M N 1 j (R j - 1)) R j + (if 0 < R j then sd e o K M N 1 j (R j - 1) else 0) := rfl
    have s2 : sG (fun j => sd e o K M N 2 j (R j - 1)) R (j + 1) = sG (fun j => sd e o K M N 2 j (R j - 1)) R j + (if 0 < R j then sd e o K M N 2 j (R j - 1) else 0) := rfl
    have oz : ∀ Q : Nat → Bool, Q j = true → qS (fun i => decide (j + 1 ≤ i) && Q i) ||| qS (fun i => decide (i = j)) = qS (fun i => decide (j ≤ i) && Q i) := fun Q hQ => by
      rw [qS_or]
      refine qS_ext fun i _ => ?_
      by_cases ei : i = j
      · subst ei; rw [hQ]; simp
      · by_cases e2 : j ≤ i
        · rw [decide_eq_true e2, decide_eq_true (show j + 1 ≤ i by omega), decide_eq_false ei, Bool.or_false]
        · rw [decide_eq_false e2, decide_eq_false (show ¬ j + 1 ≤ i by omega), decide_eq_false ei, Bool.or_false]
    have on : ∀ Q : Nat → Bool, Q j = false → qS (fun i => decide (j + 1 ≤ i) && Q i) = qS (fun i => decide (j ≤ i) && Q i) := fun Q hQ => by
      refine qS_ext fun i _ => ?_
      by_cases ei : i = j
      · subst ei; rw [hQ]; simp
      · by_cases e2 : j ≤ i
        · rw [decide_eq_true e2, decide_eq_true (show j + 1 ≤ i by omega)]
        · rw [decide_eq_false e2, decide_eq_false (show ¬ j + 1 ≤ i by omega)]
    by_cases hr : 0 < R j
    · rw [if_pos hr] at E s1 s2
      refine ⟨(u7 ||| qS (fun i => decide (i = j)), u9, nI (j / 6), m1 + nI (sd e o K M N 1 j (R j - 1)), m2 + nI (sd e o K M N 2 j (R j - 1)), mh_mx 46 I' I1, mh_mx 46 L' L1), ⟨by omega, ?_, ?_, ?_, ⟨a1 + sd e o K M N 1 j (R j - 1), ?_, by omega⟩, ⟨a2 + sd e o K M N 2 j (R j - 1), ?_, by omega⟩, g6'⟩, E⟩
      · show u7 ||| _ = _
        rw [g1]
        exact oz (fun i => decide (0 < R i)) (decide_eq_true hr)
      · show u9 = _
        rw [g2]
        exact on (fun i => decide (R i = 0) && decide (0 < rA K R i)) (by rw [decide_eq_false (show ¬ R j = 0 by omega), Bool.false_and])
      · exact .inr ⟨j, Nat.le_refl j, hj, rfl, hr, fun i h1 h2 => by omega⟩
      · show m1 + _ = _
        rw [g4, nI_add]
      · show m2 + _ = _
        rw [g5, nI_add]
    · rw [if_neg hr] at E s1 s2
      have hz : R j = 0 := by omega
      have glow : isLowF R j low := by
        rcases g3 with ⟨x1, x2⟩ | ⟨k, x0, x1, x2, x3, x4⟩
        · refine .inl ⟨x1, fun i h1 h2 => ?_⟩
          by_cases ei : i = j
          · subst ei; exact hz
          · exact x2 i (by omega) h2
        · refine .inr ⟨k, by omega, x1, x2, x3, fun i h1 h2 => ?_⟩
          by_cases ei : i = j
          · subst ei; exact hz
          · exact x4 i (by omega) h2
      have gg1 : u7 = qS (fun i => decide (j ≤ i) && decide (0 < R i)) := by
        rw [g1]; exact on (fun i => decide (0 < R i)) (decide_eq_false hr)
      by_cases ha : 0 < rA K R j
      · rw [if_pos ha] at E
        refine ⟨(u7, u9 ||| qS (fun i => decide (i = j)), low, m1, m2, mh_mx 46 I' I1, mh_mx 46 L' L1), ⟨by omega, gg1, ?_, glow, ⟨a1, g4, by omega⟩, ⟨a2, g5, by omega⟩, g6'⟩, E⟩
        show u9 ||| _ = _
        rw [g2]
        exact oz (fun i => decide (R i = 0) && decide (0 < rA K R i)) (by rw [decide_eq_true hz, decide_eq_true ha]; rfl)
      · rw [if_neg ha] at E
        refine ⟨(u7, u9, low, m1, m2, mh_mx 46 I' I1, mh_mx 46 L' L1), ⟨by omega, gg1, ?_, glow, ⟨a1, g4, by omega⟩, ⟨a2, g5, by omega⟩, g6'⟩, E⟩
        show u9 = _
        rw [g2]
        exact on (fun i => decide (R i = 0) && decide (0 < rA K R i)) (by rw [decide_eq_false ha, Bool.and_false])
  · show (0 : Int64) = _
    rw [qS_0]
    refine qS_ext fun i hi => ?_
    rw [decide_eq_false (show ¬ 48 ≤ i by omega), Bool.false_and]
  · show (0 : Int64) = _
    rw [qS_0]
    refine qS_ext fun i hi => ?_
    rw [decide_eq_false (show ¬ 48 ≤ i by omega), Bool.false_and]
end LAW
