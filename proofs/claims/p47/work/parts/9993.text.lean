/-! PURE: the script's text is written, fed and read -/
def bS (i j : Nat) : Int32 := (mh_byt.getD i []).getD j 0
def cH (x : Int32) : Int32 := ((x &&& 255).toUInt32 % 65536).toInt32
theorem cpy_in {f g : Nat → Int32} {sp dp n k : Nat} (h : dp ≤ k ∧ k < dp + n) : va_cpy f g sp dp n k = f (sp + (k - dp)) := if_pos h
theorem cpy_out {f g : Nat → Int32} {sp dp n k : Nat} (h : ¬ (dp ≤ k ∧ k < dp + n)) : va_cpy f g sp dp n k = g k := if_neg h
section SB
variable {d1 d2 : Nat} {I : mh_I}
theorem sb_2 {j : Nat} (h : j < 9) : sbI2 d1 d2 I 47 j = bS 2 j := by
  unfold sbI2
  simp (disch := decide) only [su_a, ct_s]
  rw [cpy_in (by omega), Nat.zero_add, Nat.sub_zero]
  rfl
theorem sb_3 {j : Nat} (h : j < 10) : sbI3 d1 d2 I 47 j = if j = 9 then vp_nar .byte (nI (48 + d1)) else bS 2 j := by
  unfold sbI3
  simp (disch := decide) only [su_a]
  by_cases h9 : j = 9
  · subst h9
    rw [su_s, if_pos rfl]
  · rw [su_k h9, if_neg h9, sb_2 (by omega)]
theorem sb_4 {j : Nat} (h : j < 60) : sbI4 d1 d2 I 48 j = if j = 9 then vp_nar .byte (nI (48 + d1)) else if j < 9 then bS 2 j else bS 3 (j - 10) := by
  unfold sbI4
  simp (disch := decide) only [su_a, ct_s, cy_s, zz_a, zz_s]
  by_cases h10 : j < 10
  · rw [cpy_out (by omega), cpy_in (by omega), Nat.zero_add, Nat.sub_zero, sb_3 h10]
    by_cases h9 : j = 9
    · rw [if_pos h9, if_pos h9]
    · rw [if_neg h9, if_neg h9, if_pos (by omega)]
  · rw [cpy_in (by omega), Nat.zero_add, if_neg (by omega), if_neg (by omega)]
    rfl
theorem sb_5 {j : Nat} (h : j < 61) : sbI5 d1 d2 I 49 j = if j = 60 then vp_nar .byte (nI (48 + d2)) else if j = 9 then vp_nar .byte (nI (48 + d1)) else if j < 9 then bS 2 j else bS 3 (j - 10) := by
  unfold sbI5
  simp (disch := decide) only [su_a, cy_s, zz_a, zz_s]
  by_cases h9 : j = 60
  · subst h9
    rw [su_s, if_pos rfl]
  · rw [su_k h9, if_neg h9]
    simp (disch := decide) only [cy_s, zz_a]
    rw [cpy_in (by omega), Nat.zero_add, Nat.sub_zero, sb_4 (by omega)]
theorem sb_6 {j : Nat} (h : j < 62) : sbI6 d1 d2 I 49 j = if j = 61 then bS 4 0 else if j = 60 then vp_nar .byte (nI (48 + d2)) else if j = 9 then vp_nar .byte (nI (48 + d1)) else if j < 9 then bS 2 j else bS 3 (j - 10) := by
  unfold sbI6
  simp (disch := decide) only [su_a, ct_s]
  by_cases h61 : j = 61
  · subst h61
    rw [cpy_in (by omega), if_pos rfl]
    rfl
  · rw [cpy_out (by omega), if_neg h61, sb_5 (by omega)]
theorem sb_7 {j : Nat} (h : j < 62) : sbI d1 d2 I 51 j = if j = 61 then bS 4 0 else if j = 60 then vp_nar .byte (nI (48 + d2)) else if j = 9 then vp_nar .byte (nI (48 + d1)) else if j < 9 then bS 2 j else bS 3 (j - 10) := by
  unfold sbI sbI7
  simp (disch := decide) only [su_a, cy_s, zz_a, zz_s]
  rw [cpy_in (by omega), Nat.zero_add, Nat.sub_zero, sb_6 h]
theorem sb_lo {a : Nat} (h : a < 46) : sbI d1 d2 I a = I a := by
  unfold sbI sbI7 sbI6 sbI5 sbI4 sbI3 sbI2 sbI1 sbI0
  simp (disch := omega) only [su_a, ct_a, cy_a, zz_a]
end SB
theorem zl_a {L : mh_L} {a b : Nat} (h : b ≠ a) : mh_zl L a b = L b := if_neg h
theorem sbL_lo {L : mh_L} {a : Nat} (h : a < 46) : sbL L a = L a := by
  unfold sbL
  simp (disch := omega) only [zl_a]
theorem cH_d : ∀ d, d < 8 → cH (vp_nar .byte (nI (48 + d))) = nI (48 + d) := by decide +kernel
theorem cH_c : ∀ j, j < 62 → j ≠ 9 → j ≠ 60 → cH (if j = 61 then bS 4 0 else if j < 9 then bS 2 j else bS 3 (j - 10)) = nI (lT.getD j 0) := by decide +kernel
theorem ch_sb {d1 d2 : Nat} (h1 : d1 < 8) (h2 : d2 < 8) {I J : mh_I} (hJ : ∀ i, J 51 i = sbI d1 d2 I 51 i) {j : Nat} (hj : j < 62) : chI J j = nI (tB d1 d2 j) := by
  show cH (J 51 j) = _
  rw [hJ, sb_7 hj]
  unfold tB
  by_cases h9 : j = 9
  · rw [if_neg (by omega), if_neg (by omega), if_pos h9, if_pos h9, cH_d d1 h1]
  · by_cases h60 : j = 60
    · rw [if_neg (by omega), if_pos h60, if_neg h9, if_pos h60, cH_d d2 h2]
    · rw [if_neg h60, if_neg h9, if_neg h9, if_neg h60, ← cH_c j hj h9 h60]
theorem lT_b : ∀ j, j < 62 → lT.getD j 0 < 256 := by decide +kernel
theorem tB_b {d1 d2 : Nat} (h1 : d1 < 8) (h2 : d2 < 8) : ∀ j, j < 62 → tB d1 d2 j < 256 := by
  intro j hj
  have := lT_b j hj
  unfold tB
  split
  · omega
  · split
    · omega
    · exact this
theorem ib_ok : ∀ b, b < 256 → X5_isByte (nI b) = some 1 := by decide +kernel
theorem feed1 {I : mh_I} {z b : Nat} (h : I 7 1 = nI z) (hz : z < 160) (hb : b < 256) : X5_feed (1 : Int32) (nI b) (0 : Int32) (0 : Int32) (0 : Int32) (0 : Int32) I = some (nI (z + 1), mh_u (mh_u I 7 1 (nI (z + 1))) 8 z (nI b)) := by
  unfold X5_feed
  have h0 : X5_isByte (0 : Int32) = some 1 := ib_ok 0 (by decide)
  have hw : X5_within (1 : Int32) (1 : Int32) (5 : Int32) = some 1 := by decide
  have ha : X3_add (nI b) I = some (mh_u (mh_u I 7 1 (nI (z + 1))) 8 z (nI b)) := X3_add_ok h hz (nI b)
  have hl : ((I 7 1) + (1 : Int32) ≤ (160 : Int32)) = True := by
    rw [h]
    simp (disch := omega) only [pn_al, pn_lr]
    exact eq_true (by omega)
  simp only [ib_ok b hb, h0, hw, ha, hl, po_b, pj_j, pz_10, if_false, if_true, show ((1 : Int32) ≤ 1) = True by decide, show ((1 : Int32) ≤ 2) = True by decide, show ((1 : Int32) ≤ 3) = True by decide, show ((1 : Int32) ≤ 4) = True by decide]
  rw [pu_a (by decide), pu_s]
theorem s_feed {d1 d2 : Nat} (h1 : d1 < 8) (h2 : d2 < 8) {I : mh_I} (h7 : I 7 1 = 0) : ∃ It, L_text (sbI d1 d2 I) = some It ∧ It 7 1 = nI 62 ∧ (∀ i, i < 62 → It 8 i = nI (tB d1 d2 i)) ∧ ∀ a i, a < 46 → a ≠ 8 → ¬ (a = 7 ∧ i = 1) → It a i = I a i := by
  obtain ⟨F, hF, eF⟩ := fuel_ex
  unfold L_text
  rw [eF]
  refine pl_up (fun f j s => L_text_l2 f j s) 62 (fun r => ∃ It, r = some It ∧ It 7 1 = nI 62 ∧ (∀ i, i < 62 → It 8 i = nI (tB d1 d2 i)) ∧ ∀ a i, a < 46 → a ≠ 8 → ¬ (a = 7 ∧ i = 1) → It a i = I a i) (fun j s => s 7 1 = nI j ∧ (∀ i, i < j → s 8 i = nI (tB d1 d2 i)) ∧ (∀ a i, a < 46 → a ≠ 8 → ¬ (a = 7 ∧ i = 1) → s a i = I a i) ∧ ∀ i, s 51 i = sbI d1 d2 I 51 i) ?_ ?_ F 0 (sbI d1 d2 I) (by omega) (by omega) ⟨by rw [sb_lo (by decide)]; exact h7, fun i hi => absurd hi (Nat.not_lt_zero i), fun a i ha _ _ => by rw [sb_lo ha], fun _ => rfl⟩
  · rintro f s ⟨g1, g2, g3, -⟩
    refine ⟨s, ?_, g1, g2, g3⟩
    show L_text_l2 (f + 1) (nI 62) s = _
    rw [L_text_l2, if_pos (by decide)]
  · rintro f j s hj ⟨g1, g2, g3, g4⟩
    left
    refine ⟨mh_mx 46 (mh_u (mh_u s 7 1 (nI (j + 1))) 8 j (nI (tB d1 d2 j))) s, ⟨?_, fun i hi => ?_, fun a i ha n1 n2 => ?_, fun i => ?_⟩, ?_⟩
    · rw [mh_mx_lo (by decide), pu_a (by decide), pu_s]
    · rw [mh_mx_lo (by decide)]
      by_cases ei : i = j
      · subst ei; rw [pu_s]
      · rw [pu_k ei, pu_a (by decide), g2 i (by omega)]
    · rw [mh_mx_lo ha, pu_a n1, show mh_u s 7 1 (nI (j + 1)) a i = s a i from if_neg n2, g3 a i ha n1 n2]
    · rw [mh_mx_hi (by decide)]; exact g4 i
    · show L_text_l2 (f + 1) (nI j) s = _
      rw [L_text_l2, if_neg (show ¬ (62 : Int32) ≤ nI j from (nI_ge hj (by omega) : ¬ nI 62 ≤ nI j)), px_ix hj (by decide), ch_sb h1 h2 g4 hj, feed1 g1 (by omega) (tB_b h1 h2 j hj), po_b, nI_1]
theorem s_text {d1 d2 : Nat} (h1 : d1 < 2) (h2 : d2 < 8) {It : mh_I} (a1 : It 7 1 = nI 62) (a2 : ∀ i, i < 62 → It 8 i = nI (tB d1 d2 i)) (h05 : It 0 5 = nI 1) : ∃ I' e o, X5_text It (some 14) = some (nI 1, I', some 18) ∧ CX 1 It I' ∧ I' 0 5 = nI 2 ∧ tok e o ∧ cenc 18 I' e o ∧ (∀ q, q < 4 → o q = oT.getD q 0) ∧ ∀ j, j < 17 → e j = (eT d1 d2).getD j 0 := by
  have hBI : BI (14 + 4 * 1) 62 (tB d1 d2) It := ⟨by omega, by omega, tB_b (by omega) h2, a1, a2⟩
  have hBS : BS 1 62 (tB d1 d2) (jT d1 d2) := ⟨by omega, by omega, tB_b (by omega) h2, rfl, fun i _ => rfl, fun k _ => rfl, rfl⟩
  obtain ⟨I', J', a, b1, b2, b3, b4, b5, b6, b7⟩ := t_text hBI hBS h05 (some 14)
  have hev := t_eo h1 h2
  unfold tEO at hev
  rw [b2] at hev
  have hev := Option.some.inj hev
  have ha : a = 1 := congrArg Prod.fst hev
  have f1 : (List.range 4).map (fun q => J' 7 (4 * 1 + q)) = oT.map nI := congrArg (fun x => x.2.1) hev
  have f2 : (List.range 17).map (fun j => J' 6 (200 * 1 + j)) = (eT d1 d2).map nI := congrArg (fun x => x.2.2) hev
  rcases b7 with ⟨w1, w2, s', w3, w4⟩ | ⟨w1, w2, w3, e, o, w4, w5, w6⟩
  · exfalso
    have hne : ∀ s, s < 161 → ¬ ((-100 : Int32) - nI s = 1) := by decide +kernel
    exact hne s' (by omega) (w4.symm.trans ha)
  · obtain ⟨g1, g2⟩ := eo_of (O := oT) (E := eT d1 d2) (n := 17) w4 w6 (fun q hq => rng_get f1 hq) (by decide) rfl (fun j hj => rng_get f2 hj) (fun x hx => by
      unfold eT at hx
      simp only [List.mem_cons, List.not_mem_nil, or_false] at hx
      omega)
    rw [ha] at b1
    exact ⟨I', e, o, b1, b3, w1, w4, w5, g1, g2⟩
theorem s_force {I : mh_I} (h : I 0 5 = nI 2) : X5_force (nI 1) I = some (I 1 4, mh_u I 1 4 (nI 1)) := by
  unfold X5_force
  rw [h, show X5_within (nI 1) (0 : Int32) (nI 2 - (1 : Int32)) = some 1 by decide, po_b, if_neg (by decide), pj_b]
