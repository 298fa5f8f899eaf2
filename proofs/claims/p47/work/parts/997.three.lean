/-! PURE: the three rounds of the law -/
theorem mj_54 {β : Type} (T : Int32 → β) (a b c d : Prop) [Decidable a] [Decidable b] [Decidable c] [Decidable d] : mh_j T (fun J54 => if a then J54 (-1 : Int32) else mh_j (if b then J54 (2 : Int32) else J54 (1 : Int32)) (fun J55 => if c then J55 else if d then J55 else J54 (0 : Int32))) = T (if a then -1 else if c then (if b then 2 else 1) else if d then (if b then 2 else 1) else 0) := by
  rw [pj_j]
  split
  · rfl
  · rw [pj_j]
    split
    · split
      · rfl
      · rfl
    · split
      · split
        · rfl
        · rfl
      · rfl
theorem mj_63 {β : Type} (T : Int32 → β) (a b c : Prop) [Decidable a] [Decidable b] [Decidable c] (x y z w : Int32) : mh_j T (fun J63 => if a then if b then J63 x else if c then J63 y else J63 z else J63 w) = T (if a then if b then x else if c then y else z else w) := by
  rw [pj_j]
  split
  · split
    · rfl
    · split
      · rfl
      · rfl
  · rfl
theorem mdg_low {R : Nat → Nat} {low : Int32} (h : isLow R low) : (gn R = 0 ∧ low = -1) ∨ ∃ l, l < 8 ∧ low = nI l ∧ gn R ≠ 0 := by
  rcases h with ⟨h1, h2⟩ | ⟨j, h1, h2, h3, h4⟩
  · exact .inl ⟨qC_0.mpr fun i hi => by rw [h2 i hi]; rfl, h1⟩
  · refine .inr ⟨j / 6, by omega, h2, fun h0 => ?_⟩
    have := of_decide_eq_false (qC_0.mp h0 j h1)
    omega
theorem mdg_s {n l s : Nat} (hn : n ≤ 48) (hn0 : n ≠ 0) (hl : l < 8) (hs : s ≤ 4752) : (if lg_cmp (lN n) (0 : Int64) = 0 then (-1 : Int32) else if nI (24 * (8 - l)) < nI s then (if 0 < lg_cmp ((nI (24 * (8 - l))).toInt64) ((50 : Int64) + lN n) then 2 else 1) else if 0 < lg_cmp ((nI s).toInt64) ((50 : Int64) + lN n) then (if 0 < lg_cmp ((nI (24 * (8 - l))).toInt64) ((50 : Int64) + lN n) then 2 else 1) else 0) = (if s ≤ 24 * (8 - l) then (if s ≤ 50 + n then 0 else 2) else (if 24 * (8 - l) ≤ 50 + n then 1 else 2)) := by
  have e1 : (50 : Int64) + lN n = lN (50 + n) := lN_add 50 n
  have c1 : (0 < lg_cmp ((nI (24 * (8 - l))).toInt64) ((50 : Int64) + lN n)) = (50 + n < 24 * (8 - l)) := by
    rw [e1, nI_l (by omega)]
    exact propext ((lg_cmp_gt _ _).trans (lN_lt (by omega) (by omega)))
  have c2 : (0 < lg_cmp ((nI s).toInt64) ((50 : Int64) + lN n)) = (50 + n < s) := by
    rw [e1, nI_l (by omega)]
    exact propext ((lg_cmp_gt _ _).trans (lN_lt (by omega) (by omega)))
  have c3 : (lg_cmp (lN n) (0 : Int64) = 0) = False := eq_false fun h => hn0 ((lN_eq (b := 0) (by omega) (by decide)).mp ((lg_cmp_eq _ _).mp h))
  simp (disch := omega) only [c1, c2, c3, if_false, pn_lt]
  by_cases h1 : 24 * (8 - l) < s
  · rw [if_pos h1, if_neg (show ¬ s ≤ 24 * (8 - l) by omega)]
    by_cases h2 : 50 + n < 24 * (8 - l)
    · rw [if_pos h2, if_neg (by omega)]
    · rw [if_neg h2, if_pos (by omega)]
  · rw [if_neg h1, if_pos (show s ≤ 24 * (8 - l) by omega)]
    by_cases h2 : 50 + n < s
    · rw [if_pos h2, if_pos (show 50 + n < 24 * (8 - l) by omega), if_neg (by omega)]
    · rw [if_neg h2, if_pos (by omega)]
theorem mdg_n {n l s : Nat} (hn : n ≤ 48) (hn0 : n ≠ 0) (hl : l < 8) (hs : s ≤ 4752) (w : Int32) : mdg (nI s) (nI l) n w = (if s ≤ 24 * (8 - l) then (if s ≤ 50 + n then (if w = 0 then 0 else nI s) else (if w = 0 then 2 else nI (50 + n))) else (if 24 * (8 - l) ≤ 50 + n then (if w = 0 then 1 else nI (24 * (8 - l))) else (if w = 0 then 2 else nI (50 + n)))) := by
  unfold mdg
  simp (disch := omega) only [pn_sr, pn_mr, pn_ar, pn_le, if_neg]
/-- both mendings are as the script tells them -/
theorem mdg_0 {R f : Nat → Nat} {low : Int32} (h : isLow R low) (hf : ∀ i, f i ≤ 99) : mdg (nI (sG f R 48)) low (gn R) 0 = (if lg_cmp (lN (gn R)) (0 : Int64) = 0 then (-1 : Int32) else if (if 0 ≤ low then (24 : Int32) * ((8 : Int32) - low) else 0) < nI (sG f R 48) then (if 0 < lg_cmp ((if 0 ≤ low then (24 : Int32) * ((8 : Int32) - low) else 0).toInt64) ((50 : Int64) + lN (gn R)) then 2 else 1) else if 0 < lg_cmp ((nI (sG f R 48)).toInt64) ((50 : Int64) + lN (gn R)) then (if 0 < lg_cmp ((if 0 ≤ low then (24 : Int32) * ((8 : Int32) - low) else 0).toInt64) ((50 : Int64) + lN (gn R)) then 2 else 1) else 0) := by
  have hn := gn_le R
  have hs := sG_le (R := R) hf 48
  rcases mdg_low h with ⟨h1, h2⟩ | ⟨l, h1, h2, h3⟩
  · rw [h1, if_pos (show lg_cmp (lN 0) (0 : Int64) = 0 from (lg_cmp_eq _ _).mpr rfl)]
    unfold mdg
    rw [if_pos rfl, if_pos rfl]
  · subst h2
    have e : (if (0 : Int32) ≤ nI l then (24 : Int32) * ((8 : Int32) - nI l) else 0) = nI (24 * (8 - l)) := by
      rw [if_pos (nI_pos' (by omega))]
      simp (disch := omega) only [pn_sr, pn_mr]
    rw [e, mdg_s hn h3 h1 (by omega), mdg_n hn h3 h1 (by omega)]
    simp only [if_true]
theorem mdg_1 {R f : Nat → Nat} {low : Int32} (h : isLow R low) (hf : ∀ i, f i ≤ 99) : mdg (nI (sG f R 48)) low (gn R) 1 = (if 0 ≤ mdg (nI (sG f R 48)) low (gn R) 0 then if mdg (nI (sG f R 48)) low (gn R) 0 = 0 then nI (sG f R 48) else if mdg (nI (sG f R 48)) low (gn R) 0 = 1 then (if 0 ≤ low then (24 : Int32) * ((8 : Int32) - low) else 0) else (50 : Int32) + (lN (gn R)).toInt32 else 0) := by
  have hn := gn_le R
  have hs := sG_le (R := R) hf 48
  rcases mdg_low h with ⟨h1, h2⟩ | ⟨l, h1, h2, h3⟩
  · have e : mdg (nI (sG f R 48)) low (gn R) 0 = -1 := by unfold mdg; rw [h1, if_pos rfl, if_pos rfl]
    rw [e, if_neg (by decide)]
    unfold mdg
    rw [h1, if_pos rfl, if_neg (by decide)]
  · subst h2
    have e : (if (0 : Int32) ≤ nI l then (24 : Int32) * ((8 : Int32) - nI l) else 0) = nI (24 * (8 - l)) := by
      rw [if_pos (nI_pos' (by omega))]
      simp (disch := omega) only [pn_sr, pn_mr]
    rw [e, lN_i, mdg_n hn h3 h1 (by omega), mdg_n hn h3 h1 (by omega)]
    simp only [if_true, pz_10, if_false, pn_ar]
    by_cases c1 : sG f R 48 ≤ 24 * (8 - l)
    · rw [if_pos c1, if_pos c1]
      by_cases c2 : sG f R 48 ≤ 50 + gn R
      · rw [if_pos c2, if_pos c2, if_pos (by decide), if_pos rfl]
      · rw [if_neg c2, if_neg c2, if_pos (by decide), if_neg (by decide), if_neg (by decide)]
    · rw [if_neg c1, if_neg c1]
      by_cases c2 : 24 * (8 - l) ≤ 50 + gn R
      · rw [if_pos c2, if_pos c2, if_pos (by decide), if_neg (by decide), if_pos rfl]
      · rw [if_neg c2, if_neg c2, if_pos (by decide), if_neg (by decide), if_neg (by decide)]
theorem lcmp0 {a b : Int64} (h : a = b) : lg_cmp a b = 0 := (lg_cmp_eq a b).mpr h
theorem mj_s5 {β : Type} (T : Int32 → β) {c0 j : Nat} (hc : c0 < 48) (hj : j < 3) : mh_j T (fun J6 => if nI j = 0 then J6 (nI c0) else J6 ((47 : Int32) - mh_rem (nI c0 + nI j * (7 : Int32)) (12 : Int32))) = T (nI (if j = 0 then c0 else 47 - (c0 + j * 7) % 12)) := by
  rw [pj_j]
  simp (disch := omega) only [pn_er, pn_ml, nI_add, pn_rm, pn_sr]
  by_cases h : j = 0
  · rw [if_pos h, if_pos h]
  · rw [if_neg h, if_neg h]
section LAW
variable {sc : mh_Sc} {hh u : Nat} {I : mh_I} {L : mh_L} {K M : Nat → Nat} {P N : Nat → Bool} {e o : Nat → Nat}
/-- h is none of the class's cells -/
theorem XS_h (h46 : 46 ≤ hh) (h : XS u I L K M P N e o) {L' : mh_L} (hL : ∀ b i, b ≠ hh → L' b i = L b i) : XS u I L' K M P N e o := by
  obtain ⟨⟨h1, h2, h3, h4, h5, h6, h7, h8, h9, h10⟩, k⟩ := h
  exact ⟨⟨h1, h2, h3, h4, (hL 1 2 (by omega)).trans h5, (hL 1 3 (by omega)).trans h6, h7, h8, h9, h10⟩, k⟩
theorem sl_l104' (h46 : 46 ≤ hh) {H : Nat → Int64} (hg : GS hh H u I L K M P N e o) (hS : SCK sc K M P) (hA : SCA sc K M N e o) {c p F : Nat} (hc : c < 48) (hp : p < 100) (hF : 100 < F) (hH : ∀ i, i < 48 → H i = dL (RR K P (rbf e o K M N) c p i)) {k221 : Int64 → Int64 → Int32 → Int32 → Int32 → mh_I → mh_L → Option Int32} {Q : Option Int32 → Prop} (hQ : ∀ low I' L', isLow (RR K P (rbf e o K M N) c p) low → GS hh H u I' L' K M P N e o → Q (k221 (qS (fun i => decide (0 < RR K P (rbf e o K M N) c p i))) (qS (fun i => decide (RR K P (rbf e o K M N) c p i = 0) && decide (0 < rA K (RR K P (rbf e o K M N) c p) i))) low (nI (sG (fun j => sd e o K M N 1 j (RR K P (rbf e o K M N) c p j - 1)) (RR K P (rbf e o K M N) c p) 48)) (nI (sG (fun j => sd e o K M N 2 j (RR K P (rbf e o K M N) c p j - 1)) (RR K P (rbf e o K M N) c p) 48)) I' L')) : Q (L_law_l104 sc hh (nI p) (nI c) k221 F (0 : Int64) (0 : Int64) (-1 : Int32) (0 : Int32) (0 : Int32) (47 : Int32) I L) := by
  obtain ⟨low, I', L', h1, h2, h3⟩ := sl_l104 h46 hg hS hA hc hp hF hH k221
  rw [h1]
  exact hQ low I' L' h2 h3
set_option maxHeartbeats 1000000 in
theorem sl_l43 (h46 : 46 ≤ hh) (hx : XS u I L K M P N e o) (hS : SCK sc K M P) (hA : SCA sc K M N e o) {c0 p F : Nat} (hc0 : c0 < 48) (hp : p < 100) (hF : 1000 < F) (eF : mh_fuel = F) (k465 : mh_I → mh_L → Option Int32) : ∃ I' L', L_law_l43 sc hh (nI c0) (nI p) k465 F (0 : Int32) I L = k465 I' L' ∧ XS u I' L' K M P N e o := by
  refine pl_up (fun f j (s : mh_I × mh_L) => L_law_l43 sc hh (nI c0) (nI p) k465 f j s.1 s.2) 3 (fun r => ∃ I' L', r = k465 I' L' ∧ XS u I' L' K M P N e o) (fun j s => XS u s.1 s.2 K M P N e o) ?_ ?_ F 0 (I, L) (by omega) (by omega) hx
  · rintro f ⟨I1, L1⟩ h1
    refine ⟨I1, L1, ?_, h1⟩
    show L_law_l43 sc hh (nI c0) (nI p) k465 (f + 1) (nI 3) I1 L1 = _
    rw [L_law_l43, if_pos (by decide)]
  · rintro f j ⟨I1, L1⟩ hj h1
    left
    dsimp only at h1
    show ∃ s' : mh_I × mh_L, XS u s'.1 s'.2 K M P N e o ∧ L_law_l43 sc hh (nI c0) (nI p) k465 (f + 1) (nI j) I1 L1 = _
    rw [L_law_l43, if_neg (show ¬ (3 : Int32) ≤ nI j from (nI_ge hj (by omega) : ¬ nI 3 ≤ nI j)), mj_s5 _ hc0 hj]
    have hc : (if j = 0 then c0 else 47 - (c0 + j * 7) % 12) < 48 := by split <;> omega
    generalize (if j = 0 then c0 else 47 - (c0 + j * 7) % 12) = c at *
    obtain ⟨L2, r1, r2, r3, r4⟩ := sl_run (hh := hh) (L := L1) hS hA hp (RR_run K P (rbf e o K M N) c p)
    rw [qS_sh hc, r1, po_b, eF]
    have h2 : XS u I1 L2 K M P N e o := XS_h h46 h1 r2
    refine sl_l104' (F := F) h46 (H := fun k => L2 hh k) (Q := fun r => ∃ s' : mh_I × mh_L, XS u s'.1 s'.2 K M P N e o ∧ r = L_law_l43 sc hh (nI c0) (nI p) k465 f (nI (j + 1)) s'.1 s'.2) ⟨h2, fun k => rfl⟩ hS hA hc hp (by omega) (fun i hi => r3 i hi) (fun low I3 L3 hlow g => ?_)
    have hgn := gn_le (RR K P (rbf e o K M N) c p)
    have key : ∀ {I : mh_I} {L : mh_L} {I' : mh_I} {L' : mh_L}, GS hh (fun k => L2 hh k) u I L K M P N e o → xx I I' → ll L L' → ∃ Ia La, Ia = mh_mx 46 I' I ∧ La = mh_mx 46 L' L ∧ GS hh (fun k => L2 hh k) u Ia La K M P N e o ∧ La hh 48 = lN (gn (RR K P (rbf e o K M N) c p)) := fun hg hI hL => ⟨_, _, rfl, rfl, GS_mx h46 hg hI hL, ((GS_mx h46 hg hI hL).2 48).trans r4⟩
    obtain ⟨Ia, La, a1, a2, a3⟩ := v_goes0 g.1 hc hp
    obtain ⟨I4, L4, b1, b2, g4, e4⟩ := key g a2 a3
    rw [a1, po_b]
    dsimp only
    rw [← b1, ← b2, if_pos (lcmp0 rfl)]
    clear b1 b2 a1 a2 a3 Ia La
    obtain ⟨Ia, La, a1, a2, a3⟩ := v_goes1 g4.1 hc hp
    obtain ⟨I5, L5, b1, b2, g5, e5⟩ := key g4 a2 a3
    rw [a1, po_b]
    dsimp only
    rw [← b1, ← b2, if_pos (lcmp0 rfl)]
    clear b1 b2 a1 a2 a3 Ia La
    obtain ⟨Ia, La, a1, a2, a3⟩ := v_run0 g5.1 hc hp
    obtain ⟨I6, L6, b1, b2, g6, e6⟩ := key g5 a2 a3
    rw [a1, po_b]
    dsimp only
    rw [← b1, ← b2, e6, if_pos (lcmp0 (nI_l (by omega)))]
    clear b1 b2 a1 a2 a3 Ia La
    obtain ⟨v7, Ia, La, a1, v7l, a2, a3⟩ := v_run1 g6.1 hc hp
    obtain ⟨I7, L7, b1, b2, g7, e7⟩ := key g6 a2 a3
    rw [a1, po_b]
    dsimp only
    rw [← b1, ← b2, if_pos (isLow_one v7l hlow)]
    clear b1 b2 a1 a2 a3 Ia La
    obtain ⟨Ia, La, a1, a2, a3⟩ := v_run2 (q := 1) g7.1 hc hp (.inl rfl)
    obtain ⟨I8, L8, b1, b2, g8, e8⟩ := key g7 a2 a3
    rw [show X5_run (nI c) (nI p) (2 : Int32) I7 L7 = _ from a1, po_b]
    dsimp only
    rw [← b1, ← b2, if_pos rfl]
    clear b1 b2 a1 a2 a3 Ia La
    obtain ⟨Ia, La, a1, a2, a3⟩ := v_run2 (q := 2) g8.1 hc hp (.inr rfl)
    obtain ⟨I9, L9, b1, b2, g9, e9⟩ := key g8 a2 a3
    rw [show X5_run (nI c) (nI p) (3 : Int32) I8 L8 = _ from a1, po_b]
    dsimp only
    rw [← b1, ← b2, if_pos rfl]
    clear b1 b2 a1 a2 a3 Ia La
    have hf : ∀ i, sd e o K M N 1 i (RR K P (rbf e o K M N) c p i - 1) ≤ 99 := fun i => sd_le _ _ _ _ _ _ _ _
    rw [mh_j2, e9, mj_54, ← mdg_0 hlow hf]
    obtain ⟨Ia, La, a1, a2, a3⟩ := v_mend g9.1 hc hp hlow (w := 0) (.inl rfl)
    obtain ⟨I10, L10, b1, b2, g10, e10⟩ := key g9 a2 a3
    rw [a1, po_b]
    dsimp only
    rw [← b1, ← b2, if_pos rfl]
    clear b1 b2 a1 a2 a3 Ia La
    obtain ⟨Ia, La, a1, a2, a3⟩ := v_mend g10.1 hc hp hlow (w := 1) (.inr rfl)
    obtain ⟨I11, L11, b1, b2, g11, e11⟩ := key g10 a2 a3
    rw [a1, po_b]
    dsimp only
    rw [← b1, ← b2, mj_63, e11, ← mdg_1 hlow hf, if_pos rfl, pj_b, nI_1]
    exact ⟨(I11, L11), g11.1, rfl⟩
end LAW
