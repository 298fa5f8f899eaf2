/-! PURE: image, restore, sheet, cell, copy, knits -/
theorem cpy_a {I : mh_I} {a0 a1 b k : Nat} {x y z : Nat} (h : b ≠ a1) : mh_cpy I a0 a1 x y z b k = I b k := by
  unfold mh_cpy
  rw [if_neg h]
theorem cpy_i {I : mh_I} {a0 a1 k : Nat} (h : k < 48) : mh_cpy I a0 a1 (0 : Int32).toNatClampNeg (0 : Int32).toNatClampNeg (48 : Int32).toNatClampNeg a1 k = I a0 k := by
  unfold mh_cpy va_cpy
  rw [if_pos rfl, show (0 : Int32).toNatClampNeg = 0 by decide, show (48 : Int32).toNatClampNeg = 48 by decide, if_pos (by omega)]
  congr 1
  omega
theorem r_image : RS_image Rel := by
  intro T I L J h
  obtain ⟨F, hF, eF⟩ := fuel_ex
  obtain ⟨hT, ⟨K, M, P, N, u, n, hc1, -⟩, m3, m4, m5⟩ := id h
  obtain ⟨⟨h1, h2, h3, h4, h5, h6, h7⟩, ⟨g1, g2, g3, g4, g5⟩, k1, k2, k3, k4, k5⟩ := hc1
  unfold X5_image X6_image X1_takeFrom
  rw [eF, po_b]
  dsimp only
  have e12 : (mh_ul (mh_ul L 4 2 (L 1 2)) 4 3 ((mh_ul L 4 2 (L 1 2)) 1 3)) 1 2 = qS P := by
    rw [pul_a (by decide), pul_a (by decide), h5]
  rw [e12, qS_bitCount, po_b]
  generalize hI2 : (mh_u (mh_u (mh_cpy (mh_cpy I (1 + 1) (4 + 1) (0 : Int32).toNatClampNeg (0 : Int32).toNatClampNeg (48 : Int32).toNatClampNeg) (1 + 2) (4 + 2) (0 : Int32).toNatClampNeg (0 : Int32).toNatClampNeg (48 : Int32).toNatClampNeg) 4 4 ((mh_cpy (mh_cpy I (1 + 1) (4 + 1) (0 : Int32).toNatClampNeg (0 : Int32).toNatClampNeg (48 : Int32).toNatClampNeg) (1 + 2) (4 + 2) (0 : Int32).toNatClampNeg (0 : Int32).toNatClampNeg (48 : Int32).toNatClampNeg) 1 4)) 0 2 (1 : Int32)) = I2
  generalize hL2 : (mh_ul (mh_ul L 4 2 (L 1 2)) 4 3 ((mh_ul L 4 2 (L 1 2)) 1 3)) = L2
  have q5 : ∀ c, c < 48 → I2 5 c = I 2 c := fun c hc => by
    rw [← hI2, pu_a (by decide), pu_a (by decide), cpy_a (by decide)]
    exact cpy_i hc
  have q6 : ∀ c, c < 48 → I2 6 c = I 3 c := fun c hc => by
    rw [← hI2, pu_a (by decide), pu_a (by decide)]
    exact (cpy_i hc).trans (cpy_a (by decide))
  have q44 : I2 4 4 = I 1 4 := by
    rw [← hI2, pu_a (by decide), pu_s, cpy_a (by decide), cpy_a (by decide)]
  have q02 : I2 0 2 = 1 := by rw [← hI2, pu_s]
  have qo : ∀ b k, ¬ (b = 5 ∨ b = 6 ∨ (b = 4 ∧ k = 4) ∨ (b = 0 ∧ k = 2)) → I2 b k = I b k := fun b k hb => by
    rw [← hI2]
    have a1 : ∀ (A : mh_I) v, mh_u A 0 2 v b k = A b k := fun A v => if_neg (by omega)
    have a2 : ∀ (A : mh_I) v, mh_u A 4 4 v b k = A b k := fun A v => if_neg (by omega)
    rw [a1, a2, cpy_a (by omega), cpy_a (by omega)]
  have l42 : L2 4 2 = qS P := by rw [← hL2, pul_k (by decide), pul_s, h5]
  have l43 : L2 4 3 = qS N := by rw [← hL2, pul_s, pul_a (by decide), h6]
  have lo : ∀ b k, b ≠ 4 → L2 b k = L b k := fun b k hb => by rw [← hL2, pul_a hb, pul_a hb]
  have hl : ∀ (k : mh_I → Option (Int32 × mh_I)) (J0 : mh_I), ∃ y, X6_image_l15 k F (0 : Int32) J0 = k y ∧ (∀ b i, b ≠ 8 → y b i = J0 b i) ∧ (∀ c, c < 48 → y 8 c = J0 1 c ∧ y 8 (48 + c) = J0 2 c ∧ y 8 (96 + c) = J0 3 c ∧ y 8 (144 + c) = J0 4 c) := by
    intro k J0
    refine pl_up (fun f j s => X6_image_l15 k f j s) 48 (fun r => ∃ y, r = k y ∧ (∀ b i, b ≠ 8 → y b i = J0 b i) ∧ (∀ c, c < 48 → y 8 c = J0 1 c ∧ y 8 (48 + c) = J0 2 c ∧ y 8 (96 + c) = J0 3 c ∧ y 8 (144 + c) = J0 4 c)) (fun j y => (∀ b i, b ≠ 8 → y b i = J0 b i) ∧ (∀ c, c < j → y 8 c = J0 1 c ∧ y 8 (48 + c) = J0 2 c ∧ y 8 (96 + c) = J0 3 c ∧ y 8 (144 + c) = J0 4 c)) ?_ ?_ F 0 J0 (by omega) (by omega) ⟨fun _ _ _ => rfl, fun c hc => absurd hc (Nat.not_lt_zero c)⟩
    · rintro f y ⟨y1, y2⟩
      refine ⟨y, ?_, y1, y2⟩
      show X6_image_l15 k (f + 1) (nI 48) y = _
      rw [X6_image_l15, if_pos (by decide)]
    · rintro f j y hj ⟨y1, y2⟩
      left
      refine ⟨mh_u (mh_u (mh_u (mh_u y 8 j (J0 1 j)) 8 (48 + j) (J0 2 j)) 8 (96 + j) (J0 3 j)) 8 (144 + j) (J0 4 j), ⟨fun b i hb => by rw [pu_a hb, pu_a hb, pu_a hb, pu_a hb, y1 b i hb], fun c hc => ?_⟩, ?_⟩
      · by_cases ec : c = j
        · subst ec
          refine ⟨?_, ?_, ?_, ?_⟩
          · rw [pu_k (by omega), pu_k (by omega), pu_k (by omega), pu_s]
          · rw [pu_k (by omega), pu_k (by omega), pu_s]
          · rw [pu_k (by omega), pu_s]
          · rw [pu_s]
        · obtain ⟨w1, w2, w3, w4⟩ := y2 c (by omega)
          refine ⟨?_, ?_, ?_, ?_⟩
          · rw [pu_k (by omega), pu_k (by omega), pu_k (by omega), pu_k (by omega), w1]
          · rw [pu_k (by omega), pu_k (by omega), pu_k (by omega), pu_k (by omega), w2]
          · rw [pu_k (by omega), pu_k (by omega), pu_k (by omega), pu_k (by omega), w3]
          · rw [pu_k (by omega), pu_k (by omega), pu_k (by omega), pu_k (by omega), w4]
      · show X6_image_l15 k (f + 1) (nI j) y = _
        rw [X6_image_l15]
        simp (disch := omega) only [pn_ll, if_neg, px_ix, pn_ar, pj_b, pn_al]
        have e1 : y 1 j = J0 1 j := y1 1 j (by decide)
        have e2 : y 2 j = J0 2 j := y1 2 j (by decide)
        have e3 : y 3 j = J0 3 j := y1 3 j (by decide)
        have e4 : y 4 j = J0 4 j := y1 4 j (by decide)
        have p2 : ∀ (A : mh_I) (i : Nat) (v : Int32), mh_u A 8 i v 2 j = A 2 j := fun A i v => pu_a (by decide)
        have p3 : ∀ (A : mh_I) (i : Nat) (v : Int32), mh_u A 8 i v 3 j = A 3 j := fun A i v => pu_a (by decide)
        have p4 : ∀ (A : mh_I) (i : Nat) (v : Int32), mh_u A 8 i v 4 j = A 4 j := fun A i v => pu_a (by decide)
        simp only [p2, p3, p4, e1, e2, e3, e4]
  obtain ⟨y, y1, y2, y3⟩ := hl (fun (I19 : mh_I) => (X6_manyIn (0 : Int32) I19).bind (fun q20 => some (q20, I19))) (mh_u (mh_u J 0 10 (1 : Int32)) 0 11 ((mh_u J 0 10 (1 : Int32)) 0 9))
  have jo : ∀ b i, b ≠ 8 → ¬ (b = 0 ∧ (i = 10 ∨ i = 11)) → y b i = J b i := fun b i hb hb2 => by
    rw [y2 b i hb]
    have a1 : ∀ (A : mh_I) v, mh_u A 0 10 v b i = A b i := fun A v => if_neg (by omega)
    have a2 : ∀ (A : mh_I) v, mh_u A 0 11 v b i = A b i := fun A v => if_neg (by omega)
    rw [a2, a1]
  rw [y1, (p_many (P := P) (N := N) (fun c hc => (jo 3 c (by decide) (by omega)).trans (g3 c hc)) (fun c hc => (jo 4 c (by decide) (by omega)).trans (g4 c hc))).1, po_b]
  refine ⟨_, _, rfl, rfl, rfl, hT, ⟨K, M, P, N, u, n, ?_, ?_⟩, ?_, ?_, fun k hk => (jo 13 k (by decide) (by omega)).trans (m5 k hk)⟩
  · exact ⟨⟨fun c hc => (qo 2 c (by omega)).trans (h1 c hc), h2, fun c hc => (qo 3 c (by omega)).trans (h3 c hc), h4, (lo 1 2 (by decide)).trans h5, (lo 1 3 (by decide)).trans h6, (qo 1 4 (by omega)).trans h7⟩, ⟨fun c hc => (jo 1 c (by decide) (by omega)).trans (g1 c hc), fun c hc => (jo 2 c (by decide) (by omega)).trans (g2 c hc), fun c hc => (jo 3 c (by decide) (by omega)).trans (g3 c hc), fun c hc => (jo 4 c (by decide) (by omega)).trans (g4 c hc), (jo 0 9 (by decide) (by omega)).trans g5⟩, k1, k2, (qo 0 5 (by omega)).trans k3, (jo 0 8 (by decide) (by omega)).trans k4, fun v hv => by
      obtain ⟨e, o, t1, t2, t3⟩ := k5 v hv
      exact ⟨e, o, t1, ⟨fun j hj => (qo _ _ (by omega)).trans (t2.1 j hj), fun q hq => (qo _ _ (by omega)).trans (t2.2 q hq)⟩, ⟨fun j hj => (jo _ _ (by decide) (by omega)).trans (t3.1 j hj), fun q hq => (jo _ _ (by decide) (by omega)).trans (t3.2 q hq)⟩⟩⟩
  · have z : ∀ b i, ¬ b = 0 → (mh_u (mh_u J 0 10 (1 : Int32)) 0 11 ((mh_u J 0 10 (1 : Int32)) 0 9)) b i = J b i := fun b i hb => by rw [pu_a hb, pu_a hb]
    refine .inr ⟨q02, ?_, K, M, P, N, u, ⟨fun c hc => (q5 c hc).trans (h1 c hc), h2, fun c hc => (q6 c hc).trans (h3 c hc), h4, l42, l43, q44.trans h7⟩, fun c hc => ?_, ?_, k1⟩
    · show y 0 10 = 1
      rw [y2 0 10 (by decide), pu_k (by decide), pu_s]
    · obtain ⟨w1, w2, w3, w4⟩ := y3 c hc
      exact ⟨w1.trans ((z 1 c (by decide)).trans (g1 c hc)), w2.trans ((z 2 c (by decide)).trans (g2 c hc)), w3.trans ((z 3 c (by decide)).trans (g3 c hc)), w4.trans ((z 4 c (by decide)).trans (g4 c hc))⟩
    · show y 0 11 = nI u
      rw [y2 0 11 (by decide), pu_s, pu_k (by decide), g5]
  · obtain ⟨z, z1, z2, z3, z4⟩ := m3
    refine ⟨z, z1, (qo 7 1 (by omega)).trans z2, (jo 0 5 (by decide) (by omega)).trans z3, fun i hi => ?_⟩
    obtain ⟨b, w1, w2, w3⟩ := z4 i hi
    exact ⟨b, w1, (qo 8 i (by omega)).trans w2, (jo 5 i (by decide) (by omega)).trans w3⟩
  · intro s hs
    obtain ⟨z1, z2, ⟨z, z3, z4, z5⟩, z6⟩ := m4 s hs
    have w1 := qo (38 + 2 * s) 1 (by omega)
    exact ⟨by dsimp only; rw [w1]; exact z1, by dsimp only; rw [w1, jo 9 s (by decide) (by omega)]; exact z2, ⟨z, z3, (qo _ _ (by omega)).trans z4, (jo 10 s (by decide) (by omega)).trans z5⟩, fun i hi => by dsimp only; rw [jo 11 _ (by decide) (by omega), qo (39 + 2 * s) i (by omega)]; exact z6 i hi⟩
theorem r_restore : RS_restore Rel := by
  intro T I L J h
  obtain ⟨F, hF, eF⟩ := fuel_ex
  obtain ⟨hT, ⟨K0, M0, P0, N0, u0, n, hc1, hc2⟩, m3, m4, m5⟩ := id h
  obtain ⟨-, -, k1, k2, k3, k4, k5⟩ := hc1
  unfold X5_restore X6_restore X1_takeFrom
  rw [eF, po_b]
  rcases hc2 with ⟨h1, h2⟩ | ⟨h1, h2, K, M, P, N, u, ⟨a1, a2, a3, a4, a5, a6, a7⟩, b1, b2, b3⟩
  · rw [if_pos h1, if_pos h2]
    exact ⟨_, _, rfl, rfl, rfl, h⟩
  rw [if_neg (by rw [h1]; decide), if_neg (by rw [h2]; decide)]
  dsimp only
  have e12 : (mh_ul (mh_ul L 1 2 (L 4 2)) 1 3 ((mh_ul L 1 2 (L 4 2)) 4 3)) 1 2 = qS P := by
    rw [pul_k (by decide), pul_s, a5]
  rw [e12, qS_bitCount, po_b]
  generalize hI2 : (mh_u (mh_cpy (mh_cpy I (4 + 1) (1 + 1) (0 : Int32).toNatClampNeg (0 : Int32).toNatClampNeg (48 : Int32).toNatClampNeg) (4 + 2) (1 + 2) (0 : Int32).toNatClampNeg (0 : Int32).toNatClampNeg (48 : Int32).toNatClampNeg) 1 4 ((mh_cpy (mh_cpy I (4 + 1) (1 + 1) (0 : Int32).toNatClampNeg (0 : Int32).toNatClampNeg (48 : Int32).toNatClampNeg) (4 + 2) (1 + 2) (0 : Int32).toNatClampNeg (0 : Int32).toNatClampNeg (48 : Int32).toNatClampNeg) 4 4)) = I2
  have q2 : ∀ c, c < 48 → I2 2 c = I 5 c := fun c hc => by
    rw [← hI2, pu_a (by decide), cpy_a (by decide)]
    exact cpy_i hc
  have q3 : ∀ c, c < 48 → I2 3 c = I 6 c := fun c hc => by
    rw [← hI2, pu_a (by decide)]
    exact (cpy_i hc).trans (cpy_a (by decide))
  have q14 : I2 1 4 = I 4 4 := by
    rw [← hI2, pu_s, cpy_a (by decide), cpy_a (by decide)]
  have qo : ∀ b k, ¬ (b = 2 ∨ b = 3 ∨ (b = 1 ∧ k = 4)) → I2 b k = I b k := fun b k hb => by
    rw [← hI2]
    have w : ∀ (A : mh_I) v, mh_u A 1 4 v b k = A b k := fun A v => if_neg (by omega)
    rw [w, cpy_a (by omega), cpy_a (by omega)]
  have hl : ∀ (k : mh_I → Option (Int32 × mh_I)) (J0 : mh_I), ∃ y, X6_restore_l20 k F (0 : Int32) J0 = k y ∧ (∀ b i, ¬ (b = 1 ∨ b = 2 ∨ b = 3 ∨ b = 4) → y b i = J0 b i) ∧ (∀ c, c < 48 → y 1 c = J0 8 c ∧ y 2 c = J0 8 (48 + c) ∧ y 3 c = J0 8 (96 + c) ∧ y 4 c = J0 8 (144 + c)) := by
    intro k J0
    refine pl_up (fun f j s => X6_restore_l20 k f j s) 48 (fun r => ∃ y, r = k y ∧ (∀ b i, ¬ (b = 1 ∨ b = 2 ∨ b = 3 ∨ b = 4) → y b i = J0 b i) ∧ (∀ c, c < 48 → y 1 c = J0 8 c ∧ y 2 c = J0 8 (48 + c) ∧ y 3 c = J0 8 (96 + c) ∧ y 4 c = J0 8 (144 + c))) (fun j y => (∀ b i, ¬ (b = 1 ∨ b = 2 ∨ b = 3 ∨ b = 4) → y b i = J0 b i) ∧ (∀ c, c < j → y 1 c = J0 8 c ∧ y 2 c = J0 8 (48 + c) ∧ y 3 c = J0 8 (96 + c) ∧ y 4 c = J0 8 (144 + c))) ?_ ?_ F 0 J0 (by omega) (by omega) ⟨fun _ _ _ => rfl, fun c hc => absurd hc (Nat.not_lt_zero c)⟩
    · rintro f y ⟨y1, y2⟩
      refine ⟨y, ?_, y1, y2⟩
      show X6_restore_l20 k (f + 1) (nI 48) y = _
      rw [X6_restore_l20, if_pos (by decide)]
    · rintro f j y hj ⟨y1, y2⟩
      left
      refine ⟨mh_u (mh_u (mh_u (mh_u y 1 j (J0 8 j)) 2 j (J0 8 (48 + j))) 3 j (J0 8 (96 + j))) 4 j (J0 8 (144 + j)), ⟨fun b i hb => by rw [pu_a (by omega), pu_a (by omega), pu_a (by omega), pu_a (by omega), y1 b i hb], fun c hc => ?_⟩, ?_⟩
      · by_cases ec : c = j
        · subst ec
          refine ⟨?_, ?_, ?_, ?_⟩
          · rw [pu_a (by decide), pu_a (by decide), pu_a (by decide), pu_s]
          · rw [pu_a (by decide), pu_a (by decide), pu_s]
          · rw [pu_a (by decide), pu_s]
          · rw [pu_s]
        · obtain ⟨w1, w2, w3, w4⟩ := y2 c (by omega)
          refine ⟨?_, ?_, ?_, ?_⟩
          · rw [pu_k ec, pu_k ec, pu_k ec, pu_k ec, w1]
          · rw [pu_k ec, pu_k ec, pu_k ec, pu_k ec, w2]
          · rw [pu_k ec, pu_k ec, pu_k ec, pu_k ec, w3]
          · rw [pu_k ec, pu_k ec, pu_k ec, pu_k ec, w4]
      · show X6_restore_l20 k (f + 1) (nI j) y = _
        rw [X6_restore_l20]
        simp (disch := omega) only [pn_ll, if_neg, px_ix, pn_ar, pj_b, pn_al]
        have p8 : ∀ i, y 8 i = J0 8 i := fun i => y1 8 i (by decide)
        have w1 : ∀ (A : mh_I) (a i z : Nat) (v : Int32), a ≠ 8 → mh_u A a i v 8 z = A 8 z := fun A a i z v ha => pu_a (Ne.symm ha)
        rw [w1 _ 1 _ _ _ (by decide), w1 _ 2 _ _ _ (by decide), w1 _ 3 _ _ _ (by decide), w1 _ 2 _ _ _ (by decide), w1 _ 1 _ _ _ (by decide), w1 _ 1 _ _ _ (by decide)]
        simp only [p8]
  obtain ⟨y, y1, y2, y3⟩ := hl (fun (I19 : mh_I) => (X6_manyIn (0 : Int32) I19).bind (fun q20 => some (q20, I19))) (mh_u J 0 9 (J 0 11))
  have j8 : ∀ i, (mh_u J 0 9 (J 0 11)) 8 i = J 8 i := fun i => pu_a (by decide)
  have c6 : cK 1 y K ∧ cK 2 y M ∧ (∀ c, c < 48 → y 3 c = nI (qb P c)) ∧ (∀ c, c < 48 → y 4 c = nI (qb N c)) ∧ y 0 9 = nI u := by
    refine ⟨fun c hc => ?_, fun c hc => ?_, fun c hc => ?_, fun c hc => ?_, ?_⟩
    · exact (y3 c hc).1.trans ((j8 _).trans (b1 c hc).1)
    · exact (y3 c hc).2.1.trans ((j8 _).trans (b1 c hc).2.1)
    · exact (y3 c hc).2.2.1.trans ((j8 _).trans (b1 c hc).2.2.1)
    · exact (y3 c hc).2.2.2.trans ((j8 _).trans (b1 c hc).2.2.2)
    · rw [y2 0 9 (by decide), pu_s, b2]
  rw [y1, (p_many c6.2.2.1 c6.2.2.2.1).1, po_b]
  refine ⟨_, _, rfl, rfl, rfl, Rel_core (K' := K) (M' := M) (P' := P) (N' := N) (u' := u) h qo (fun b k hb => by dsimp only; rw [pul_a hb, pul_a hb]) (fun b k hb => ?_) (fun n' hn' he => ?_) ⟨fun c hc => (q2 c hc).trans (a1 c hc), a2, fun c hc => (q3 c hc).trans (a3 c hc), a4, e12, by dsimp only; rw [pul_s, pul_a (by decide), a6], q14.trans a7⟩ c6⟩
  · dsimp only
    rw [y2 b k (by omega)]
    exact if_neg (by omega)
  · have := (nI_eq (by omega) (by omega)).mp (k3.symm.trans he)
    omega
