/-! PURE: the start, carried over from whole -/
def CX (n : Nat) (I I' : mh_I) : Prop := ∀ a i, ¬ (a = 7 ∧ 1 ≤ i ∧ i ≤ 5) → ¬ (a = 14 + 4 * n ∧ i = 1) → a ≠ 15 + 4 * n → a ≠ 16 + 4 * n → ¬ (a = 0 ∧ i = 5) → I' a i = I a i
theorem t_text {n z : Nat} {b : Nat → Nat} {I J : mh_I} (hBI : BI (14 + 4 * n) z b I) (hBS : BS n z b J) (h05 : I 0 5 = nI n) (T : Option Nat) : ∃ I' J' a, X5_text I T = some (a, I', some (14 + 4 * n)) ∧ X6_text J = some (a, J') ∧ CX n I I' ∧ JX n J J' ∧ I' 7 1 = 0 ∧ J' 0 5 = 0 ∧ ((I' 0 5 = nI n ∧ J' 0 8 = nI n ∧ ∃ s', s' ≤ 160 ∧ a = (-100 : Int32) - nI s') ∨ (I' 0 5 = nI (n + 1) ∧ J' 0 8 = nI (n + 1) ∧ a = nI n ∧ TXT I' J' n)) := by
  obtain ⟨F, hF, eF⟩ := fuel_ex
  obtain ⟨f, rfl⟩ : ∃ f, F = f + 5 := ⟨F - 5, by omega⟩
  have hn := hBS.1
  have hz := hBS.2.1
  have h8 := hBS.2.2.2.2.2.2
  obtain ⟨Is, hIs⟩ : ∃ Is, Is = mh_u (mh_u I (14 + 4 * n) 1 0) 7 2 0 := ⟨_, rfl⟩
  have fIs : ∀ a i, ¬ (a = 7 ∧ i = 2) → ¬ (a = 14 + 4 * n ∧ i = 1) → Is a i = I a i := fun a i g1 g2 => by
    rw [hIs, show mh_u (mh_u I (14 + 4 * n) 1 0) 7 2 0 a i = mh_u I (14 + 4 * n) 1 0 a i from if_neg (by omega), show mh_u I (14 + 4 * n) 1 0 a i = I a i from if_neg (by omega)]
  have hBIs : BI (14 + 4 * n) z b Is := ⟨hBI.1, hBI.2.1, hBI.2.2.1, (fIs 7 1 (by omega) (by omega)).trans hBI.2.2.2.1, fun i hi => (fIs 8 i (by omega) (by omega)).trans (hBI.2.2.2.2 i hi)⟩
  obtain ⟨I1, s, e, t, v, a1, a2⟩ := c_adv (O := []) (p := 0) hBIs (by rw [hIs, pu_s]; rfl) (by omega) ⟨by rw [hIs, pu_a (by omega), pu_s]; rfl, fun j hj => by simp at hj⟩ (fun _ _ _ _ _ => rfl)
  have hc1 : C2 (14 + 4 * n) Is I1 := fun a i g1 g2 g3 _ => a2.2.2.2.2.2.2 a i g1 g2 g3
  have a2' : CS (14 + 4 * n) z b I1 I1 0 s e t v [] := ⟨a2.1, a2.2.1, a2.2.2.1, a2.2.2.2.1, a2.2.2.2.2.1, a2.2.2.2.2.2.1, fun _ _ _ _ _ => rfl⟩
  obtain ⟨Js, hJs⟩ : ∃ Js, Js = mh_u (mh_u J 0 17 (0 : Int32)) 0 25 (0 : Int32) := ⟨_, rfl⟩
  have fJs : ∀ a i, ¬ (a = 0 ∧ (i = 17 ∨ i = 25)) → Js a i = J a i := fun a i g1 => by
    rw [hJs, show mh_u (mh_u J 0 17 (0 : Int32)) 0 25 (0 : Int32) a i = mh_u J 0 17 (0 : Int32) a i from if_neg (by omega), show mh_u J 0 17 (0 : Int32) a i = J a i from if_neg (by omega)]
  have hBSs : BS n z b Js := BS_fr hBS (fun a i g1 g2 g3 g4 => fJs a i (by omega))
  have hRs : RT n Js 0 [] := ⟨by rw [hJs, pu_k (by decide), pu_s]; rfl, by rw [hJs, pu_s]; rfl, fun j hj => by simp at hj, by simp⟩
  have eX6 : X6_text J = X6_text_l26 KT (f + 5) 1 (nI 0) Js := by
    rw [X6_text_KT, h8, if_neg (show ¬ nI n = (6 : Int32) from fun hh => by have := (nI_eq (by omega) (by decide)).mp (show nI n = nI 6 from hh); omega), eF, ← hJs]
    rfl
  have eX5 : X5_text I T = (X3_readInto_l23 (14 + 4 * n) (K9 (14 + 4 * n)) (f + 5) (nI 0) I1).bind (fun q3 => if q3.1 < 0 then some (((mh_u q3.2.1 7 1 (0 : Int32)) 0 5), (mh_u (mh_u q3.2.1 7 1 (0 : Int32)) 0 5 (((mh_u q3.2.1 7 1 (0 : Int32)) 0 5) + (1 : Int32))), q3.2.2) else some (((-100 : Int32) - q3.1), (mh_u q3.2.1 7 1 (0 : Int32)), q3.2.2)) := by
    unfold X5_text X5_readTape
    rw [h05, if_pos (show nI n < (6 : Int32) from (nI_lt hn (by decide) : nI n < nI 6)), px_ix hn (by decide), X3_readInto_K9]
    unfold X4_clear
    rw [po_b, ← hIs, a1, po_b, eF]
    simp only [pj_b]
    rw [show (0 : Int32) = nI 0 from rfl]
    cases X3_readInto_l23 (14 + 4 * n) (K9 (14 + 4 * n)) (f + 5) (nI 0) I1 with
    | none => rfl
    | some q =>
      rw [po_b]
      try rw [po_b]
      by_cases c : q.1 < nI 0
      · rw [if_pos c, po_b]
      · rw [if_neg c, po_b]
  have hcx : ∀ Ic, C2 (14 + 4 * n) I1 Ic → ∀ a i, ¬ (a = 7 ∧ 2 ≤ i ∧ i ≤ 5) → ¬ (a = 14 + 4 * n ∧ i = 1) → a ≠ 15 + 4 * n → a ≠ 16 + 4 * n → Ic a i = I a i := fun Ic h a i g1 g2 g3 g4 => by
    rw [h a i g1 g2 (by omega) (by omega), hc1 a i g1 g2 (by omega) (by omega), fIs a i (by omega) g2]
  rcases t_in (BI_fr hBIs hc1) hBSs a2' hRs f with ⟨s', Ic, Jc, b1, b2, b3, b4, b5, b6, b7⟩ | ⟨Ic, Jc, b1, b2, b3, b4, b5, b6, b7⟩
  · refine ⟨mh_u Ic 7 1 0, Jc, (-100 : Int32) - nI s', ?_, by rw [eX6, b3], fun a i g1 g2 g3 g4 g5 => ?_, fun a i g1 g2 g3 g4 => ?_, pu_s _ _ _ _, b6, .inl ⟨?_, b7, s', by omega, rfl⟩⟩
    · rw [eX5, b1, po_b, if_neg (show ¬ nI s' < (0 : Int32) from (nI_nlt (by omega) (by omega) : ¬ nI s' < nI 0))]
    · rw [show mh_u Ic 7 1 0 a i = Ic a i from if_neg (by omega)]
      exact hcx Ic b2 a i (by omega) g2 g3 g4
    · rw [b5 a i g1 g2 g3 g4, fJs a i (by omega)]
    · rw [pu_a (by decide), hcx Ic b2 0 5 (by omega) (by omega) (by omega) (by omega), h05]
  · have e5 : Ic 0 5 = nI n := by rw [hcx Ic b2 0 5 (by omega) (by omega) (by omega) (by omega), h05]
    refine ⟨mh_u (mh_u Ic 7 1 0) 0 5 (nI (n + 1)), Jc, nI n, ?_, by rw [eX6, b3], fun a i g1 g2 g3 g4 g5 => ?_, fun a i g1 g2 g3 g4 => ?_, ?_, b5, .inr ⟨pu_s _ _ _ _, b6, rfl, ?_⟩⟩
    · rw [eX5, b1, po_b, if_pos (by show (-1 : Int32) < 0; decide)]
      have e6 : (mh_u Ic 7 1 (0 : Int32)) 0 5 = nI n := by rw [pu_a (by decide), e5]
      simp only [e6, pn_al]
    · rw [show mh_u (mh_u Ic 7 1 0) 0 5 (nI (n + 1)) a i = mh_u Ic 7 1 0 a i from if_neg (by omega), show mh_u Ic 7 1 0 a i = Ic a i from if_neg (by omega)]
      exact hcx Ic b2 a i (by omega) g2 g3 g4
    · rw [b4 a i g1 g2 g3 g4, fJs a i (by omega)]
    · rw [pu_a (by decide), pu_s]
    · obtain ⟨e, o, c1, ⟨c2, c3⟩, c4⟩ := b7
      exact ⟨e, o, c1, ⟨fun j hj => by rw [pu_a (by omega), pu_a (by omega)]; exact c2 j hj, fun q hq => by rw [pu_a (by omega), pu_a (by omega)]; exact c3 q hq⟩, c4⟩
def fB : List Nat := [114, 117, 98, 32, 49, 48, 32, 43, 32, 109, 111, 114, 101, 32, 45, 32, 102, 97, 99, 101, 32, 42, 32, 51, 32, 59, 32, 109, 105, 110, 117, 116, 101, 115, 32, 50, 32, 43, 32, 109, 111, 114, 101, 32, 59, 32, 115, 101, 101, 110, 32, 49, 32, 43, 32, 102, 97, 99, 101, 32, 59]
def jF : mh_I := fun a i => if a = 0 then (if i = 5 then 61 else 0) else if a = 5 then nI (fB.getD i 0) else if a = 13 then wT.getD i 0 else 0
theorem f_ev : (X6_text jF).map Prod.fst = some 0 := by decide +kernel
def z5 : mh_I := cI_X5 (fun _ _ => 0)
def zL : mh_L := cL_X5 (fun _ _ => 0)
theorem i_len : J0_length_8abf5 0 = some (nI 61) := by decide +kernel
theorem i_at : ∀ u, u < 61 → J0_charAt_5068e 0 (nI u) = some (nI (fB.getD u 0)) := by decide +kernel
theorem i_b : ∀ u, u < 61 → fB.getD u 0 < 256 := by decide +kernel
theorem z5_23 : ∀ c, c < 48 → z5 2 c = 0 ∧ z5 3 c = 0 := by decide +kernel
theorem z5_0 : z5 1 4 = 0 ∧ z5 0 2 = 0 ∧ z5 0 5 = 0 ∧ z5 7 1 = 0 := by decide +kernel
theorem zL_0 : zL 1 2 = qS (fun _ => false) ∧ zL 1 3 = qS (fun _ => false) := by decide +kernel
theorem i_ne : ∀ s, s < 161 → ((-100 : Int32) - nI s = 0) = False := by decide +kernel
theorem X3_add_ok {I : mh_I} {z : Nat} (h : I 7 1 = nI z) (hz : z < 160) (v : Int32) : X3_add v I = some (mh_u (mh_u I 7 1 (nI (z + 1))) 8 z v) := by
  unfold X3_add
  rw [h]
  simp (disch := omega) only [pn_ll, if_neg, px_ix, pn_al]
theorem i_5 : ∃ I1, X5_init_l128 mh_fuel 0 z5 = some I1 ∧ I1 7 1 = nI 61 ∧ (∀ i, i < 61 → I1 8 i = nI (fB.getD i 0)) ∧ ∀ a i, a ≠ 8 → ¬ (a = 7 ∧ i = 1) → I1 a i = z5 a i := by
  obtain ⟨F, hF, eF⟩ := fuel_ex
  rw [eF]
  refine pl_up (fun f j I => X5_init_l128 f j I) 61 (fun r => ∃ I1, r = some I1 ∧ I1 7 1 = nI 61 ∧ (∀ i, i < 61 → I1 8 i = nI (fB.getD i 0)) ∧ ∀ a i, a ≠ 8 → ¬ (a = 7 ∧ i = 1) → I1 a i = z5 a i) (fun j I1 => I1 7 1 = nI j ∧ (∀ i, i < j → I1 8 i = nI (fB.getD i 0)) ∧ ∀ a i, a ≠ 8 → ¬ (a = 7 ∧ i = 1) → I1 a i = z5 a i) (fun f I1 h => ?_) (fun f j I1 hj h => ?_) F 0 z5 (by omega) (by omega) ⟨z5_0.2.2.2, fun i hi => by omega, fun _ _ _ _ => rfl⟩
  · refine ⟨I1, ?_, h⟩
    show X5_init_l128 (f + 1) (nI 61) I1 = some I1
    rw [X5_init_l128, i_len, po_b, if_pos (Int32.le_refl _)]
  · left
    obtain ⟨g1, g2, g3⟩ := h
    refine ⟨mh_u (mh_u I1 7 1 (nI (j + 1))) 8 j (nI (fB.getD j 0)), ⟨by rw [pu_a (by decide), pu_s], fun i hi => ?_, fun a i n1 n2 => ?_⟩, ?_⟩
    · by_cases c : i = j
      · subst c; rw [pu_s]
      · rw [pu_k c, pu_a (by decide), g2 i (by omega)]
    · rw [pu_a n1, show mh_u I1 7 1 (nI (j + 1)) a i = I1 a i from if_neg n2, g3 a i n1 n2]
    · show X5_init_l128 (f + 1) (nI j) I1 = X5_init_l128 f (nI (j + 1)) _
      rw [X5_init_l128, i_len, po_b, if_neg (nI_ge hj (by omega)), i_at j hj, po_b, X3_add_ok g1 (by omega), po_b, show nI j + (1 : Int32) = nI (j + 1) from nI_add j 1]
