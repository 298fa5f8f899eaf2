/-! PURE: the class's run -/
def cSt (u : Nat) (I : mh_I) (L : mh_L) (K M : Nat → Nat) (P N : Nat → Bool) (e o : Nat → Nat) : Prop := cK 2 I K ∧ bK K 6 ∧ cK 3 I M ∧ bK M 10 ∧ L 1 2 = qS P ∧ L 1 3 = qS N ∧ u < 6 ∧ tok e o ∧ cenc (14 + 4 * u) I e o
def xfr (u : Nat) (I I' : mh_I) : Prop := ∀ b k, ¬ (b = 11 ∨ b = 17 + 4 * u ∨ (b = 14 + 4 * u ∧ k = 4)) → I' b k = I b k
def lfr (L L' : mh_L) : Prop := ∀ b k, b ≠ 10 → L' b k = L b k
theorem xfr_r (u : Nat) (I : mh_I) : xfr u I I := fun _ _ _ => rfl
theorem xfr_t {u : Nat} {I I' I'' : mh_I} (h : xfr u I I') (h2 : xfr u I' I'') : xfr u I I'' := fun b k hb => (h2 b k hb).trans (h b k hb)
theorem xfr_s {u : Nat} {I I' : mh_I} (h : sfr (14 + 4 * u) I I') : xfr u I I' := fun b k hb => h b k (by omega)
theorem xfr_11 {u : Nat} {I I' : mh_I} (h : xfr u I I') (k : Nat) (v : Int32) : xfr u I (mh_u I' 11 k v) := fun b j hb => by rw [pu_a (fun e => hb (.inl e)), h b j hb]
theorem lfr_r (L : mh_L) : lfr L L := fun _ _ _ => rfl
theorem lfr_u {L L' : mh_L} (h : lfr L L') (k : Nat) (v : Int64) : lfr L (mh_ul L' 10 k v) := fun b j hb => by rw [pul_a hb, h b j hb]
theorem lfr_t {L L' L'' : mh_L} (h : lfr L L') (h2 : lfr L' L'') : lfr L L'' := fun b k hb => (h2 b k hb).trans (h b k hb)
theorem cSt_fr {u : Nat} {I I' : mh_I} {L L' : mh_L} {K M : Nat → Nat} {P N : Nat → Bool} {e o : Nat → Nat} (h : cSt u I L K M P N e o) (hI : xfr u I I') (hL : lfr L L') : cSt u I' L' K M P N e o := by
  obtain ⟨h1, h2, h3, h4, h5, h6, h7, h8, h9, h10⟩ := h
  exact ⟨fun c hc => (hI 2 c (by omega)).trans (h1 c hc), h2, fun c hc => (hI 3 c (by omega)).trans (h3 c hc), h4, (hL 1 2 (by decide)).trans h5, (hL 1 3 (by decide)).trans h6, h7, h8, fun j hj => (hI _ j (by omega)).trans (h9 j hj), fun q hq => (hI _ q (by omega)).trans (h10 q hq)⟩
theorem qgt_gt {K : Nat → Nat} {y c : Nat} (h : qgt K y c = true) : c < y ∧ y < 48 := by
  unfold qgt pnb at h
  simp only [Bool.and_eq_true, Bool.or_eq_true, decide_eq_true_eq] at h
  obtain ⟨h1, h2 | h2⟩ := h <;> omega
theorem cx_fr {ρ : Type} {I : mh_I} {L : mh_L} {K R : Nat → Nat} {c : Nat} {g : Nat → Bool} (hK : cK 2 I K) (hb : bK K 6) (hc : c < 48) (hg : L 10 1 = qS g) (hgR : ∀ i, c < i → i < 48 → g i = decide (0 < R i)) (hg0 : ∀ i, i ≤ c → g i = false) : ∃ s1, (0 < rA K R c → s1 = qS (fun y => qgt K y c)) ∧ ∀ B : Int64 → Int32 → Option ρ, mh_j (fun (s1 : Int64) => mh_j (fun (s5 : Int32) => B s1 s5) (fun J6 => mh_j ((J6 (0 : Int32))) (fun J7 => if (lg_cmp s1 (0 : Int64)) = 0 then J7 else if (lg_cmp (s1 &&& (L 10 1)) s1) = 0 then (J6 (1 : Int32)) else J7))) (fun J2 => if (lg_cmp (L 10 1) (0 : Int64)) = 0 then (J2 (0 : Int64)) else (X1_over 1 (nI c) I).bind (fun q3 => (J2 q3))) = B s1 (nI (if 0 < rA K R c then 1 else 0)) := by
  rw [hg, cx_over (o := 1) hK hb hc]
  simp only [pj_j, po_b, qS_z, qS_sub]
  by_cases hz : ∀ i, i < 48 → g i = false
  · have h0 : ¬ 0 < rA K R c := by
      intro h
      obtain ⟨⟨y, hy, hq⟩, h2⟩ := rA_free.mp h
      have hgt := qgt_gt hq
      have := hgR y hgt.1 hy
      rw [hz y hy, decide_eq_true (h2 y hy hq)] at this
      cases this
    refine ⟨0, fun h => absurd h h0, fun B => ?_⟩
    rw [if_pos hz, if_neg h0, if_pos (by rw [lg_cmp_eq])]
    rfl
  · refine ⟨_, fun _ => rfl, fun B => ?_⟩
    rw [if_neg hz]
    by_cases he : ∀ i, i < 48 → qgt K i c = false
    · have h0 : ¬ 0 < rA K R c := by
        intro h
        obtain ⟨⟨y, hy, hq⟩, h2⟩ := rA_free.mp h
        rw [he y hy] at hq
        cases hq
      rw [if_pos he, if_neg h0]
      rfl
    · rw [if_neg he]
      have hex : ∃ y, y < 48 ∧ qgt K y c = true := by
        refine Classical.byContradiction fun hn => he fun i hi => ?_
        cases hq : qgt K i c
        · rfl
        · exact absurd ⟨i, hi, hq⟩ hn
      by_cases hs : ∀ i, i < 48 → qgt K i c = true → g i = true
      · have h0 : 0 < rA K R c := rA_free.mpr ⟨hex, fun y hy hq => by
          have h1 := hs y hy hq
          rw [hgR y (qgt_gt hq).1 hy] at h1
          exact of_decide_eq_true h1⟩
        rw [if_pos hs, if_pos h0]
        rfl
      · have h0 : ¬ 0 < rA K R c := fun h => hs fun y hy hq => by
          rw [hgR y (qgt_gt hq).1 hy]
          exact decide_eq_true ((rA_free.mp h).2 y hy hq)
        rw [if_neg hs, if_neg h0]
        rfl
theorem mx_nI {a b : Nat} (ha : a < 2 ^ 31) (hb : b < 2 ^ 31) : mh_max (nI a) (nI b) = nI (max a b) := by
  unfold mh_max
  simp only [nI_ltI ha hb]
  by_cases h : a < b
  · rw [if_pos h, Nat.max_eq_right (Nat.le_of_lt h)]
  · rw [if_neg h, Nat.max_eq_left (by omega)]
theorem dI_pos {r : Nat} (h : 0 < r) : dI r = nI (r - 1) := by
  cases r with
  | zero => omega
  | succ r => rfl
theorem cx_rest {u : Nat} {I : mh_I} {L : mh_L} {K M R : Nat → Nat} {P N : Nat → Bool} {e o : Nat → Nat} {c : Nat} (hS : cSt u I L K M P N e o) (hc : c < 48) (hR : ∀ i, c < i → i < 48 → I 11 i = dI (R i)) (hl : ∀ i, i < 48 → R i ≤ 100) (hf : 0 < rA K R c) : ∃ I', X0_restOf 10 1 (14 + 4 * u) (nI c) (qS (fun y => qgt K y c)) I L = some (dI (if rbf e o K M N c (rA K R c - 1) < rA K R c - 1 then rA K R c - rbf e o K M N c (rA K R c - 1) else 0), I') ∧ sfr (14 + 4 * u) I I' := by
  obtain ⟨hK, hb, hM, hbM, hP, hN, hu, hT, hE⟩ := hS
  obtain ⟨h42, hmx⟩ := mxf_rA hf
  have hfree := (rA_free.mp hf).2
  obtain ⟨I', g1, g2⟩ := cx_says (m := rA K R c - 1) (q := 0) (by omega) hT hE hc (hK c hc) (hb c hc) (hM c hc) hN (by decide)
  refine ⟨I', ?_, g2⟩
  obtain ⟨F, hF, eF⟩ := fuel_ex
  unfold X0_restOf
  rw [eF, pj_b]
  simp (disch := omega) only [pn_al, pn_sl]
  rw [show c + 6 - 1 = c + 5 from rfl]
  refine pl_up (fun f j s => X0_restOf_l11 10 (nI c) (qS (fun y => qgt K y c)) I _ f s j) (min 48 (c + 8)) (fun r => r = _) (fun j s => s = nI (mxf K R c j)) ?_ ?_ F (c + 5) (0 : Int32) (by omega) (by omega) (by rw [mxf_low _ (Nat.le_refl _)]; rfl)
  · intro f s hs
    show X0_restOf_l11 10 (nI c) (qS (fun y => qgt K y c)) I _ (f + 1) s (nI _) = _
    have hsl := sd_le e o K M N 0 c (rA K R c - 1)
    have hrl := rbk_le hsl (hbM c hc) (k := K c)
    have hml : rA K R c ≤ 100 := rA_le (fun i _ hi => hl i hi)
    have hk : (fun (v12 : Int32) => (X4_says (14 + 4 * u) (0 : Int32) 1 (nI c) v12 I L).bind (fun q13 => mh_b q13.1 (fun b14 => mh_ix (nI c) 48 (fun k15 => mh_ix (nI c) 48 (fun k17 => (X5_rubOf (q13.2 (1 + 1) k15) b14 (q13.2 (1 + 2) k17)).bind (fun q19 => (X5_bounded q19 (999 : Int32)).bind (fun q20 => if v12 ≤ q20 then some ((-1 : Int32), q13.2) else some ((v12 - q20), q13.2)))))))) s = some (dI (if rbf e o K M N c (rA K R c - 1) < rA K R c - 1 then rA K R c - rbf e o K M N c (rA K R c - 1) else 0), I') := by
      rw [hs, hmx]
      show (X4_says (14 + 4 * u) (nI 0) 1 (nI c) (nI (rA K R c - 1)) I L).bind _ = _
      rw [g1, po_b, pj_b, px_ix hc (by decide), px_ix hc (by decide)]
      show (X5_rubOf (I' 2 c) _ (I' 3 c)).bind _ = _
      rw [g2 2 c (by omega), hK c hc, g2 3 c (by omega), hM c hc, rbk_5 (hb c hc), po_b]
      show (X5_bounded _ (nI 999)).bind _ = _
      rw [clampN_5 _ _ (by decide), clampN_nI hrl (by decide), po_b]
      unfold rbf
      simp (disch := omega) only [pn_le]
      by_cases h : rA K R c - 1 ≤ rbk (K c) (sd e o K M N 0 c (rA K R c - 1)) (M c)
      · rw [if_pos h, if_neg (by omega)]; rfl
      · rw [if_neg h, if_pos (by omega), dI_pos (by omega), pk_sub (by omega)]
        rw [show rA K R c - 1 - rbk (K c) (sd e o K M N 0 c (rA K R c - 1)) (M c) = rA K R c - rbk (K c) (sd e o K M N 0 c (rA K R c - 1)) (M c) - 1 by omega]
    rw [X0_restOf_l11]
    simp (disch := omega) only [pn_ll, pn_al, pn_lt]
    by_cases h : 48 ≤ min 48 (c + 8)
    · rw [if_pos h]; exact hk
    · rw [if_neg h, if_pos (by omega)]; exact hk
  · intro f j s hj hs
    left
    refine ⟨nI (mxf K R c (j + 1)), rfl, ?_⟩
    show X0_restOf_l11 10 (nI c) (qS (fun y => qgt K y c)) I _ (f + 1) s (nI j) = _
    rw [X0_restOf_l11, qS_has _ (show j < 48 by omega), po_b]
    simp (disch := omega) only [pn_ll, pn_al, pn_lt, if_neg, pj_j, pj_b, qI0, px_ix]
    rw [hs, mxf]
    cases hq : qgt K j c
    · rw [if_pos rfl, if_neg (by decide)]
    · rw [if_neg (by decide), if_pos rfl]
      have hgt := qgt_gt hq
      have hpos := hfree j hgt.2 hq
      have hle := hl j hgt.2
      show X0_restOf_l11 10 (nI c) (qS (fun y => qgt K y c)) I _ f (mh_max (nI (mxf K R c j)) (I 11 j)) _ = _
      rw [hR j hgt.1 hgt.2, dI_pos hpos, mx_nI (by have := mxf_le (K := K) (c := c) (R := R) (n := 99) (fun i hi => hl i hi) j; omega) (by omega)]
theorem cx_val {ρ : Type} {u : Nat} {I : mh_I} {L : mh_L} {K M R : Nat → Nat} {P N D H : Nat → Bool} {e o : Nat → Nat} {c p : Nat} {s1 : Int64} (hS : cSt u I L K M P N e o) (hc : c < 48) (hR : ∀ i, c < i → i < 48 → I 11 i = dI (R i)) (hl : ∀ i, i < 48 → R i ≤ 100) (hs1 : 0 < rA K R c → s1 = qS (fun y => qgt K y c)) : ∃ I', (∀ T : Int32 → mh_I → Option ρ, (X5_hasBit (qS H) (nI c)).bind (fun q10 => mh_j (fun (v11 : Int32) (I12 : mh_I) => T v11 I12) (fun J13 => if q10 = 0 then (X1_keeps 1 (nI c) I L).bind (fun q14 => if q14 = 0 then (X5_hasBit (qS D) (nI c)).bind (fun q15 => if q15 = 0 then if (nI (if 0 < rA K R c then 1 else 0)) = 0 then (J13 (-1 : Int32) I) else (X0_restOf 10 1 (14 + 4 * u) (nI c) s1 I L).bind (fun q16 => mh_b q16.1 (fun b17 => (J13 b17 q16.2))) else (J13 (nI p) I)) else (J13 (-1 : Int32) I)) else (J13 (-1 : Int32) I))) = T (dI (rSt K (fun c => H c || qkp K P c) D p (rbf e o K M N) R c)) I') ∧ sfr (14 + 4 * u) I I' := by
  have hS' := hS
  obtain ⟨hK, hb, hM, hbM, hP, hN, hu, hT, hE⟩ := hS
  rw [qS_has H hc, cx_keeps (o := 1) hK hb hP hc, qS_has D hc]
  simp only [po_b, pj_j, qI0]
  unfold rSt
  show ∃ I', (∀ T : Int32 → mh_I → Option ρ, _ = T (dI (if (H c || qkp K P c) = true then 0 else _)) I') ∧ _
  cases hH : H c
  · cases hkp : qkp K P c
    · cases hD : D c
      · by_cases hf : 0 < rA K R c
        · obtain ⟨I', g1, g2⟩ := cx_rest hS' hc hR hl hf
          refine ⟨I', fun T => ?_, g2⟩
          rw [hs1 hf, g1]
          simp only [hf, if_true, Bool.or_self, Bool.false_eq_true, if_false, po_b, pj_b]
          rw [if_neg (by decide)]
        · refine ⟨I, fun T => ?_, sfr_r _ _⟩
          simp only [hf, if_true, Bool.or_self, Bool.false_eq_true, if_false]
          rw [if_pos (by decide), if_neg (by omega)]
          rfl
      · refine ⟨I, fun T => ?_, sfr_r _ _⟩
        simp only [if_true, Bool.or_self, Bool.false_eq_true, if_false, Bool.true_eq_false]
        rfl
    · refine ⟨I, fun T => ?_, sfr_r _ _⟩
      simp only [if_true, Bool.false_or, Bool.false_eq_true, if_false, Bool.true_eq_false]
      rfl
  · refine ⟨I, fun T => ?_, sfr_r _ _⟩
    simp only [if_true, Bool.true_or, Bool.true_eq_false, if_false]
    rfl
