/-! PURE: text -/
def CX (n : Nat) (I I' : mh_I) : Prop := ∀ a i, ¬ (a = 7 ∧ 1 ≤ i ∧ i ≤ 5) → ¬ (a = 14 + 4 * n ∧ i = 1) → a ≠ 15 + 4 * n → a ≠ 16 + 4 * n → ¬ (a = 0 ∧ i = 5) → I' a i = I a i
theorem t_text {n z : Nat} {b : Nat → Nat} {I J : mh_I} (hBI : BI (14 + 4 * n) z b I) (hBS : BS n z b J) (h05 : I 0 5 = nI n) (T : Option Nat) : ∃ I' J' a, X5_text I T = some (a, I', some (14 + 4 * n)) ∧ X6_text J = some (a, J') ∧ CX n I I' ∧ JX n J J' ∧ I' 7 1 = 0 ∧ J' 0 5 = 0 ∧ ((I' 0 5 = nI n ∧ J' 0 8 = nI n ∧ ∃ s', s' ≤ 160 ∧ a = (-100 : Int32) - nI s') ∨ (I' 0 5 = nI (n + 1) ∧ J' 0 8 = nI (n + 1) ∧ a = nI n ∧ TXT I' J' n)) := by
  obtain ⟨F, hF, eF⟩ := fuel_ex
  obtain ⟨f, rfl⟩ : ∃ f, F = f + 5 := ⟨F - 5, by omega⟩
  have hn := hBS.1
  have hz := hBS.2.1
  have h8 := hBS.2.2.2.2.2.2
  obtain ⟨Is, hIs⟩ : ∃ Is, Is = mh_u (mh_u I (14 + 4 * n) 1 0) 7 2 0 := ⟨_, rfl⟩
  have fIs : ∀ a i, ¬ (a = 7 ∧ i = 2) → ¬ (a = 14 + 4 * n ∧ i = 1) → Is a i = I a i := fun a i g1 g2 => by
    rw [hIs, show mh_u (mh_u I (14 + 4 * n) 1 0) 7 2 0 a i = mh_u I (14 + 4 * n) 1 0 a i from if_neg (by omega), show mh_u I (14 + 4 * n) 1 0 a i = I a i from if_neg (by omega)]
  have hBIs : BI (14 + 4 * n) z b Is := ⟨hBI.1, hBI.2.1, hBI.2.2.1, (fIs 7 1 (by omega) (by omega)).trans hBI.2.2.2.1, fun i hi => (fIs 8 i (by omega) (by omega)).trans (hBI.2.2.2.2 i hi)⟩
  obtain ⟨I1, s, e, t, v, a1, a2⟩ := c_adv (O := []) (p := 0) hBIs (by rw [hIs, pu_s]; rfl) (by omega) ⟨by rw [hIs, pu_a (by omega), pu_s]; rfl, fun j hj => by simp at hj⟩ (fun _ _ _ _ _ => rfl)
  have hc1 : C2 (14 + 4 * n) Is I1 := fun a i g1 g2 g3 _ => a2.2.2.2.2.2.2 a i g1 g2 g3
  have a2' : CS (14 + 4 * n) z b I1 I1 0 s e t v [] := ⟨a2.1, a2.2.1, a2.2.2.1, a2.2.2.2.1, a2.2.2.2.2.1, a2.2.2.2.2.2.1, fun _ _ _ _ _ => rfl⟩
  obtain ⟨Js, hJs⟩ : ∃ Js, Js = mh_u (mh_u J 0 17 (0 : Int32)) 0 25 (0 : Int32) := ⟨_, rfl⟩
  have fJs : ∀ a i, ¬ (a = 0 ∧ (i = 17 ∨ i = 25)) → Js a i = J a i := fun a i g1 => by
    rw [hJs, show mh_u (mh_u J 0 17 (0 : Int32)) 0 25 (0 : Int32) a i = mh_u J 0 17 (0 : Int32) a i from if_neg (by omega), show mh_u J 0 17 (0 : Int32) a i = J a i from if_neg (by omega)]
  have hBSs : BS n z b Js := BS_fr hBS (fun a i g1 g2 g3 g4 => fJs a i (by omega))
  have hRs : RT n Js 0 [] := ⟨by rw [hJs, pu_k (by decide), pu_s]; rfl, by rw [hJs, pu_s]; rfl, fun j hj => by simp at hj, by simp⟩
  have eX6 : X6_text J = X6_text_l26 KT (f + 5) 1 (nI 0) Js := by
    rw [X6_text_KT, h8, if_neg (show ¬ nI n = (6 : Int32) from fun hh => by have := (nI_eq (by omega) (by decide)).mp (show nI n = nI 6 from hh); omega), eF, ← hJs]
    rfl
  have eX5 : X5_text I T = (X3_readInto_l23 (14 + 4 * n) (K9 (14 + 4 * n)) (f + 5) (nI 0) I1).bind (fun q3 => if q3.1 < 0 then some (((mh_u q3.2.1 7 1 (0 : Int32)) 0 5), (mh_u (mh_u q3.2.1 7 1 (0 : Int32)) 0 5 (((mh_u q3.2.1 7 1 (0 : Int32)) 0 5) + (1 : Int32))), q3.2.2) else some (((-100 : Int32) - q3.1), (mh_u q3.2.1 7 1 (0 : Int32)), q3.2.2)) := by
    unfold X5_text X5_readTape
    rw [h05, if_pos (show nI n < (6 : Int32) from (nI_lt hn (by decide) : nI n < nI 6)), px_ix hn (by decide), X3_readInto_K9]
    unfold X4_clear
    rw [po_b, ← hIs, a1, po_b, eF]
    simp only [pj_b]
    rw [show (0 : Int32) = nI 0 from rfl]
    cases X3_readInto_l23 (14 + 4 * n) (K9 (14 + 4 * n)) (f + 5) (nI 0) I1 with
    | none => rfl
    | some q =>
      rw [po_b]
      try rw [po_b]
      by_cases c : q.1 < nI 0
      · rw [if_pos c, po_b]
      · rw [if_neg c, po_b]
  have hcx : ∀ Ic, C2 (14 + 4 * n) I1 Ic → ∀ a i, ¬ (a = 7 ∧ 2 ≤ i ∧ i ≤ 5) → ¬ (a = 14 + 4 * n ∧ i = 1) → a ≠ 15 + 4 * n → a ≠ 16 + 4 * n → Ic a i = I a i := fun Ic h a i g1 g2 g3 g4 => by
    rw [h a i g1 g2 (by omega) (by omega), hc1 a i g1 g2 (by omega) (by omega), fIs a i (by omega) g2]
  rcases t_in (BI_fr hBIs hc1) hBSs a2' hRs f with ⟨s', Ic, Jc, b1, b2, b3, b4, b5, b6, b7⟩ | ⟨Ic, Jc, b1, b2, b3, b4, b5, b6, b7⟩
  · refine ⟨mh_u Ic 7 1 0, Jc, (-100 : Int32) - nI s', ?_, by rw [eX6, b3], fun a i g1 g2 g3 g4 g5 => ?_, fun a i g1 g2 g3 g4 => ?_, pu_s _ _ _ _, b6, .inl ⟨?_, b7, s', by omega, rfl⟩⟩
    · rw [eX5, b1, po_b, if_neg (show ¬ nI s' < (0 : Int32) from (nI_nlt (by omega) (by omega) : ¬ nI s' < nI 0))]
    · rw [show mh_u Ic 7 1 0 a i = Ic a i from if_neg (by omega)]
      exact hcx Ic b2 a i (by omega) g2 g3 g4
    · rw [b5 a i g1 g2 g3 g4, fJs a i (by omega)]
    · rw [pu_a (by decide), hcx Ic b2 0 5 (by omega) (by omega) (by omega) (by omega), h05]
  · have e5 : Ic 0 5 = nI n := by rw [hcx Ic b2 0 5 (by omega) (by omega) (by omega) (by omega), h05]
    refine ⟨mh_u (mh_u Ic 7 1 0) 0 5 (nI (n + 1)), Jc, nI n, ?_, by rw [eX6, b3], fun a i g1 g2 g3 g4 g5 => ?_, fun a i g1 g2 g3 g4 => ?_, ?_, b5, .inr ⟨pu_s _ _ _ _, b6, rfl, ?_⟩⟩
    · rw [eX5, b1, po_b, if_pos (by show (-1 : Int32) < 0; decide)]
      have e6 : (mh_u Ic 7 1 (0 : Int32)) 0 5 = nI n := by rw [pu_a (by decide), e5]
      simp only [e6, pn_al]
    · rw [show mh_u (mh_u Ic 7 1 0) 0 5 (nI (n + 1)) a i = mh_u Ic 7 1 0 a i from if_neg (by omega), show mh_u Ic 7 1 0 a i = Ic a i from if_neg (by omega)]
      exact hcx Ic b2 a i (by omega) g2 g3 g4
    · rw [b4 a i g1 g2 g3 g4, fJs a i (by omega)]
    · rw [pu_a (by decide), pu_s]
    · obtain ⟨e, o, c1, ⟨c2, c3⟩, c4⟩ := b7
      exact ⟨e, o, c1, ⟨fun j hj => by rw [pu_a (by omega), pu_a (by omega)]; exact c2 j hj, fun q hq => by rw [pu_a (by omega), pu_a (by omega)]; exact c3 q hq⟩, c4⟩
theorem TXT_x {n v : Nat} {I I' J J' : mh_I} (hv : v < n) (hn : n < 6) (h : TXT I J v) (hI : CX n I I') (hJ : JX n J J') : TXT I' J' v := by
  obtain ⟨e, o, h1, ⟨h2, h3⟩, h4, h5⟩ := h
  have ho := h1.2.2.2.2.1
  exact ⟨e, o, h1, ⟨fun j hj => (hI _ _ (by omega) (by omega) (by omega) (by omega) (by omega)).trans (h2 j hj), fun q hq => (hI _ _ (by omega) (by omega) (by omega) (by omega) (by omega)).trans (h3 q hq)⟩, fun j hj => (hJ _ _ (by omega) (by omega) (by omega) (by omega)).trans (h4 j hj), fun q hq => (hJ _ _ (by omega) (by omega) (by omega) (by omega)).trans (h5 q hq)⟩
theorem r_text : RS_text Rel := by
  intro T I L J h
  have h0 := h
  obtain ⟨h1, ⟨K, M, P, N, u, n, ⟨⟨r1, r2, r3, r4, r5, r6, r7⟩, ⟨g1, g2, g3, g4, g5⟩, k1, k2, k3, k4, k5⟩, h3⟩, ⟨z, z1, z2, z3, z4⟩, h5, h6⟩ := h
  by_cases c : n = 6
  · refine ⟨(-4, I, T), (-4, J), ?_, ?_, rfl, h0⟩
    · unfold X5_text X5_readTape
      rw [k3, c, if_neg (by decide), po_b]
    · unfold X6_text
      rw [k4, c, if_pos (show nI 6 = (6 : Int32) from rfl)]
  · have hn : n < 6 := by omega
    obtain ⟨b, hb⟩ : ∃ b : Nat → Nat, ∀ i, i < z → b i < 256 ∧ I 8 i = nI (b i) ∧ J 5 i = nI (b i) := ⟨fun i => if hh : i < z then Classical.choose (z4 i hh) else 0, fun i hi => by
      simp only [hi, dite_true]
      exact Classical.choose_spec (z4 i hi)⟩
    obtain ⟨I', J', a, a1, a2, a3, a4, a5, a6, a7⟩ := t_text (n := n) (z := z) (b := b) ⟨by omega, z1, fun i hi => (hb i hi).1, z2, fun i hi => (hb i hi).2.1⟩ ⟨hn, z1, fun i hi => (hb i hi).1, z3, fun i hi => (hb i hi).2.2, h6, k4⟩ k3 T
    have x : ∀ c k, c < 7 → ¬ (c = 0 ∧ k = 5) → I' c k = I c k := fun c k w1 w2 => a3 c k (by omega) (by omega) (by omega) (by omega) w2
    have y : ∀ c k, 1 ≤ c → c < 6 → J' c k = J c k := fun c k w1 w2 => a4 c k (by omega) (by omega) (by omega) (by omega)
    have core : ∀ n', u < n' → n' ≤ 6 → I' 0 5 = nI n' → J' 0 8 = nI n' → (∀ v, v < n' → TXT I' J' v) → n ≤ n' → Rel (some (14 + 4 * n)) I' L J' := by
      intro n' w1 w2 w3 w4 w5 w6
      refine ⟨fun t ht => ?_, ⟨K, M, P, N, u, n', ⟨⟨fun c hc => (x 2 c (by omega) (by omega)).trans (r1 c hc), r2, fun c hc => (x 3 c (by omega) (by omega)).trans (r3 c hc), r4, r5, r6, (x 1 4 (by omega) (by omega)).trans r7⟩, ⟨fun c hc => (y 1 c (by omega) (by omega)).trans (g1 c hc), fun c hc => (y 2 c (by omega) (by omega)).trans (g2 c hc), fun c hc => (y 3 c (by omega) (by omega)).trans (g3 c hc), fun c hc => (y 4 c (by omega) (by omega)).trans (g4 c hc), (a4 0 9 (by omega) (by omega) (by omega) (by omega)).trans g5⟩, w1, w2, w3, w4, w5⟩, ?_⟩, ⟨0, by omega, a5, a6, fun i hi => by omega⟩, fun s hs => ?_, fun k hk => (a4 13 k (by omega) (by omega) (by omega) (by omega)).trans (h6 k hk)⟩
      · cases ht; omega
      · rcases h3 with ⟨i1, i2⟩ | ⟨i1, i2, K', M', P', N', u', ⟨j1, j2, j3, j4, j5, j6, j7⟩, m1, m2, m3⟩
        · exact .inl ⟨(x 0 2 (by omega) (by omega)).trans i1, (a4 0 10 (by omega) (by omega) (by omega) (by omega)).trans i2⟩
        · have y8 : ∀ k, J' 8 k = J 8 k := fun k => a4 8 k (by omega) (by omega) (by omega) (by omega)
          exact .inr ⟨(x 0 2 (by omega) (by omega)).trans i1, (a4 0 10 (by omega) (by omega) (by omega) (by omega)).trans i2, K', M', P', N', u', ⟨fun c hc => (x 5 c (by omega) (by omega)).trans (j1 c hc), j2, fun c hc => (x 6 c (by omega) (by omega)).trans (j3 c hc), j4, j5, j6, (x 4 4 (by omega) (by omega)).trans j7⟩, fun c hc => ⟨(y8 _).trans (m1 c hc).1, (y8 _).trans (m1 c hc).2.1, (y8 _).trans (m1 c hc).2.2.1, (y8 _).trans (m1 c hc).2.2.2⟩, (a4 0 11 (by omega) (by omega) (by omega) (by omega)).trans m2, by omega⟩
      · obtain ⟨s1, s2, ⟨y0, s3, s4, s5⟩, s6⟩ := h5 s hs
        have xs : ∀ k, I' (38 + 2 * s) k = I (38 + 2 * s) k := fun k => a3 _ k (by omega) (by omega) (by omega) (by omega) (by omega)
        have xs2 : ∀ k, I' (39 + 2 * s) k = I (39 + 2 * s) k := fun k => a3 _ k (by omega) (by omega) (by omega) (by omega) (by omega)
        have ys : ∀ c k, 9 ≤ c → c < 12 → J' c k = J c k := fun c k w1 w2 => a4 c k (by omega) (by omega) (by omega) (by omega)
        refine ⟨by rw [xs]; exact s1, by rw [xs, ys 9 s (by omega) (by omega)]; exact s2, ⟨y0, s3, by rw [xs]; exact s4, by rw [ys 10 s (by omega) (by omega)]; exact s5⟩, fun i hi => by rw [xs2, ys 11 _ (by omega) (by omega)]; exact s6 i hi⟩
    refine ⟨(a, I', some (14 + 4 * n)), (a, J'), a1, a2, rfl, ?_⟩
    rcases a7 with ⟨w1, w2, -⟩ | ⟨w1, w2, -, w3⟩
    · exact core n k1 k2 w1 w2 (fun v hv => TXT_x hv hn (k5 v hv) a3 a4) (Nat.le_refl _)
    · refine core (n + 1) (by omega) (by omega) w1 w2 (fun v hv => ?_) (by omega)
      by_cases hvn : v = n
      · subst hvn; exact w3
      · exact TXT_x (by omega) hn (k5 v (by omega)) a3 a4
