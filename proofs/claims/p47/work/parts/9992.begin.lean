/-! PURE: the start, the script's kinds, what it asks -/
theorem rng_get {f : Nat → Int32} {l : List Nat} {n : Nat} (h : (List.range n).map f = l.map nI) {q : Nat} (hq : q < n) : f q = nI (l.getD q 0) := by
  have e := congrArg (fun x => x[q]?) h
  simp only [List.getElem?_map, List.getElem?_range hq, Option.map_some] at e
  rw [List.getD_eq_getElem?_getD]
  cases hl : l[q]? with
  | none => rw [hl] at e; cases e
  | some x => rw [hl] at e; exact Option.some.inj e
theorem s_init : ∃ I5 e o, X5_init Z0 ZL = some (I5, zL, some 14) ∧ I5 1 4 = 0 ∧ I5 0 5 = nI 1 ∧ I5 7 1 = 0 ∧ tok e o ∧ cenc 14 I5 e o ∧ (∀ q, q < 4 → o q = oF.getD q 0) ∧ ∀ j, j < 13 → e j = eF.getD j 0 := by
  obtain ⟨I1, a1, a2, a3, a4⟩ := i_5
  have hBI : BI (14 + 4 * 0) 61 (fun i => fB.getD i 0) I1 := ⟨by omega, by omega, i_b, a2, a3⟩
  have hBF : BS 0 61 (fun i => fB.getD i 0) jF := ⟨by omega, by omega, i_b, rfl, fun i _ => rfl, fun k _ => rfl, rfl⟩
  have h05 : I1 0 5 = nI 0 := by rw [a4 0 5 (by decide) (by decide), z5_0.2.2.1]; rfl
  obtain ⟨I', J', a, d1, d2, d3, d4, d5, d6, d7⟩ := t_text hBI hBF h05 none
  have haw : a = 0 := by
    have := f_ev
    rw [d2] at this
    exact Option.some.inj this
  have hrt : X5_readTape I1 none = some (a, I', some (14 + 4 * 0)) := by
    unfold X5_text at d1
    cases hq : X5_readTape I1 none with
    | none => rw [hq] at d1; cases d1
    | some q =>
      rw [hq, po_b] at d1
      exact d1
  rcases d7 with ⟨w1, w2, s', w3, w4⟩ | ⟨w1, w2, w3, e, o, w4, w5, w6⟩
  · exact absurd (w4.symm.trans haw) (fun hh => by rw [i_ne s' (by omega)] at hh; exact hh)
  · have feo := f_eo
    rw [d2] at feo
    have feo := Option.some.inj feo
    have f1 : (List.range 4).map (fun q => J' 7 (4 * 0 + q)) = oF.map nI := congrArg Prod.fst feo
    have f2 : (List.range 13).map (fun j => J' 6 (200 * 0 + j)) = eF.map nI := congrArg Prod.snd feo
    obtain ⟨g1, g2⟩ := eo_of (O := oF) (E := eF) (n := 13) w4 w6 (fun q hq => rng_get f1 hq) (by decide) rfl (fun j hj => rng_get f2 hj) (by decide)
    refine ⟨I', e, o, ?_, ?_, w1, d5, w4, w5, g1, g2⟩
    · unfold X5_init
      show (X5_init_l128 mh_fuel 0 z5).bind _ = _
      rw [a1, po_b, hrt, po_b]
      rfl
    · rw [d3 1 4 (by omega) (by omega) (by omega) (by omega) (by omega), a4 1 4 (by decide) (by decide)]
      exact z5_0.1
theorem ch_ex {α : Type} [Inhabited α] {p : Nat → α → Prop} (n : Nat) (h : ∀ c, c < n → ∃ x, p c x) : ∃ f : Nat → α, ∀ c, c < n → p c (f c) := by
  refine ⟨fun c => @dite _ (c < n) (Classical.propDecidable _) (fun hc => (h c hc).choose) (fun _ => default), fun c hc => ?_⟩
  dsimp only
  rw [dif_pos hc]
  exact (h c hc).choose_spec
theorem k_ex {sc : mh_Sc} (hs : sc.1 ≤ 260) : ∀ c, c < 48 → ∃ k : Nat, k < 6 ∧ L_kind sc (nI c) = some (nI k) := by
  intro c hc
  obtain ⟨x, hx⟩ := la_ex hs (show 1 + c / 12 < 2 ^ 31 by omega)
  obtain ⟨y, hy⟩ := la_ex hs (show 5 + c % 4 < 2 ^ 31 by omega)
  obtain ⟨j, hj, ej⟩ := an_ex (x >>> (nI (2 * (c % 12)) &&& 31)) (m := 3) (by decide)
  have ej : (x >>> (nI (2 * (c % 12)) &&& 31)) &&& (3 : Int32) = nI j := ej
  obtain ⟨i, hi, ei⟩ := an_ex (y >>> (nI (c / 4) &&& 31)) (m := 7) (by decide)
  have ei : (y >>> (nI (c / 4) &&& 31)) &&& (7 : Int32) = nI i := ei
  unfold L_kind
  simp (disch := omega) only [pn_dv, pn_ar, pn_rm, pn_mr, hx, hy, po_b, pj_b, ej, ei]
  by_cases h0 : nI j = 0
  · exact ⟨1, by decide, by rw [if_pos h0]; rfl⟩
  · by_cases h3 : nI j = 3
    · exact ⟨i % 6, Nat.mod_lt _ (by decide), by rw [if_neg h0, if_pos h3]⟩
    · exact ⟨0, by decide, by rw [if_neg h0, if_neg h3]; rfl⟩
theorem m_ex {sc : mh_Sc} (hs : sc.1 ≤ 260) : ∀ c, c < 48 → ∃ k : Nat, k < 10 ∧ L_more sc (nI c) = some (nI k) := by
  intro c hc
  obtain ⟨y, hy⟩ := la_ex hs (show 5 + (c + 1) % 4 < 2 ^ 31 by omega)
  obtain ⟨i, hi, ei⟩ := an_ex (y >>> (nI (c / 3) &&& 31)) (m := 15) (by decide)
  have ei : (y >>> (nI (c / 3) &&& 31)) &&& (15 : Int32) = nI i := ei
  unfold L_more
  simp (disch := omega) only [pn_dv, pn_al, pn_ar, pn_rm, hy, po_b, ei]
  exact ⟨i % 10, Nat.mod_lt _ (by decide), rfl⟩
theorem p_ex {sc : mh_Sc} (hs : sc.1 ≤ 260) : ∀ c, c < 48 → ∃ b : Bool, L_pinned sc (nI c) = some (nI (if b = true then 1 else 0)) := by
  intro c hc
  obtain ⟨x, hx⟩ := la_ex hs (show 0 < 2 ^ 31 by omega)
  have hx : L_at sc (0 : Int32) = some x := hx
  unfold L_pinned
  simp only [hx, po_b]
  by_cases h0 : ((x >>> ((6 : Int32) &&& 31)) &&& (63 : Int32)) = nI c
  · exact ⟨true, by rw [if_pos h0]; rfl⟩
  · by_cases h1 : ((x >>> ((12 : Int32) &&& 31)) &&& (63 : Int32)) = nI c
    · exact ⟨true, by rw [if_neg h0, if_pos h1]; rfl⟩
    · exact ⟨false, by rw [if_neg h0, if_neg h1]; rfl⟩
theorem sck_ex {sc : mh_Sc} (hs : sc.1 ≤ 260) : ∃ K M P, SCK sc K M P := by
  obtain ⟨K, hK⟩ := ch_ex 48 (k_ex hs)
  obtain ⟨M, hM⟩ := ch_ex 48 (m_ex hs)
  obtain ⟨P, hP⟩ := ch_ex 48 (p_ex hs)
  exact ⟨K, M, P, fun c hc => (hK c hc).1, fun c hc => (hM c hc).1, fun c hc => (hK c hc).2, fun c hc => (hM c hc).2, hP⟩
theorem pl_ex {sc : mh_Sc} (hs : sc.1 ≤ 260) : L_plain sc = some 1 ∨ L_plain sc = some 0 := by
  obtain ⟨x, hx⟩ := la_ex hs (show 0 < 2 ^ 31 by omega)
  have hx : L_at sc (0 : Int32) = some x := hx
  unfold L_plain
  simp only [hx, po_b]
  by_cases h : ((x >>> ((1 : Int32) &&& 31)) &&& (3 : Int32)) = (3 : Int32)
  · exact .inr (by rw [if_pos h])
  · exact .inl (by rw [if_neg h])
theorem sl_face {sc : mh_Sc} {K M : Nat → Nat} {P : Nat → Bool} (h : SCK sc K M P) {c : Nat} (hc : c < 48) : L_face sc (nI c) = some (nI (if K c = 1 then 1 else 0)) := by
  have hk := h.1 c hc
  unfold L_face
  rw [h.2.2.1 c hc, po_b]
  simp (disch := omega) only [pn_er]
  by_cases e : K c = 1
  · rw [if_pos e, if_pos e]; rfl
  · rw [if_neg e, if_neg e]; rfl
theorem sl_held (sc : mh_Sc) (s : Int32) : L_held sc s (99 : Int32) = some (nI (clampN 99 s)) := clampN_5 99 s (by decide)
theorem a_first {sc : mh_Sc} {K M : Nat → Nat} {P : Nat → Bool} {e o : Nat → Nat} (h : SCK sc K M P) (hp : L_plain sc = some 1) (ho : ∀ q, q < 4 → o q = oF.getD q 0) (he : ∀ j, j < 13 → e j = eF.getD j 0) : SCA sc K M (fun _ => false) e o := by
  have o0 : o 0 = 0 := ho 0 (by decide)
  have o1 : o 1 = 7 := ho 1 (by decide)
  have o2 : o 2 = 10 := ho 2 (by decide)
  have o3 : o 3 = 13 := ho 3 (by decide)
  intro q c m hq hc hm
  unfold L_asks sd
  rw [hp, po_b, pj_j, if_neg (by decide)]
  rcases (show q = 0 ∨ q = 1 ∨ q = 2 by omega) with rfl | rfl | rfl
  · rw [if_pos (by decide), h.2.2.2.1 c hc, po_b, sl_face h hc, po_b]
    show (L_held sc _ (99 : Int32)).bind _ = _
    rw [sl_held, po_b, o0, o1, ex_f0 he]
    rfl
  · rw [if_neg (by decide), if_pos (by decide), h.2.2.2.1 c hc, po_b]
    show (L_held sc _ (99 : Int32)).bind _ = _
    rw [sl_held, po_b, o1, o2, ex_f1 he]
    rfl
  · rw [if_neg (by decide), if_neg (by decide), sl_face h hc, po_b]
    show (L_held sc _ (99 : Int32)).bind _ = _
    rw [sl_held, po_b, o2, o3, ex_f2 he]
    rfl
theorem a_second {sc : mh_Sc} {K M : Nat → Nat} {P : Nat → Bool} {e o : Nat → Nat} {a0 : Int32} {d1 d2 : Nat} (h : SCK sc K M P) (hp : L_plain sc = some 0) (ha : L_at sc (0 : Int32) = some a0) (e1 : a0 &&& (1 : Int32) = nI d1) (e2 : (a0 >>> ((3 : Int32) &&& 31)) &&& (7 : Int32) = nI d2) (ho : ∀ q, q < 4 → o q = oT.getD q 0) (he : ∀ j, j < 17 → e j = (eT d1 d2).getD j 0) : SCA sc K M (fun _ => false) e o := by
  have o0 : o 0 = 0 := ho 0 (by decide)
  have o1 : o 1 = 7 := ho 1 (by decide)
  have o2 : o 2 = 10 := ho 2 (by decide)
  have o3 : o 3 = 17 := ho 3 (by decide)
  intro q c m hq hc hm
  unfold L_asks sd
  rw [hp, po_b, pj_j, if_pos rfl]
  rcases (show q = 0 ∨ q = 1 ∨ q = 2 by omega) with rfl | rfl | rfl
  · rw [if_pos (by decide), ha, po_b, h.2.2.2.1 c hc, po_b, e1]
    show (L_held sc _ (99 : Int32)).bind _ = _
    rw [sl_held, po_b, o0, o1, ex_t0 he, show nI c / (6 : Int32) = nI (c / 6) from pn_dv (by omega) (by decide) (by decide)]
    rfl
  · rw [if_neg (by decide), if_pos (by decide)]
    show (L_held sc _ (99 : Int32)).bind _ = _
    rw [sl_held, po_b, o1, o2, ex_t1 he]
    rfl
  · rw [if_neg (by decide), if_neg (by decide), sl_face h hc, po_b, ha, po_b, e2]
    show (L_held sc _ (99 : Int32)).bind _ = _
    rw [sl_held, po_b, o2, o3, ex_t2 he, show nI c / (6 : Int32) = nI (c / 6) from pn_dv (by omega) (by decide) (by decide), show mh_rem (nI c) (6 : Int32) = nI (c % 6) from pn_rm (by omega) (by decide) (by decide)]
    rfl
theorem ikn_ok : ∀ k, k < 6 → ∀ m, m < 10 → X5_isKnit (nI k) (nI m) = some 1 := by decide +kernel
/-- the script builds the piece -/
theorem s_build {sc : mh_Sc} {K M : Nat → Nat} {P : Nat → Bool} (h : SCK sc K M P) (I5 : mh_I) : ∃ I L, L_build_l10 sc (fun I L => some (I, L)) mh_fuel (0 : Int32) I5 zL = some (I, L) ∧ cK 2 I K ∧ cK 3 I M ∧ (∀ a i, a ≠ 2 → a ≠ 3 → I a i = I5 a i) ∧ L 1 2 = qS P ∧ L 1 3 = qS (fun _ => false) := by
  obtain ⟨F, hF, eF⟩ := fuel_ex
  rw [eF]
  refine pl_up (fun f j (s : mh_I × mh_L) => L_build_l10 sc (fun I L => some (I, L)) f j s.1 s.2) 48 (fun r => ∃ I L, r = some (I, L) ∧ cK 2 I K ∧ cK 3 I M ∧ (∀ a i, a ≠ 2 → a ≠ 3 → I a i = I5 a i) ∧ L 1 2 = qS P ∧ L 1 3 = qS (fun _ => false)) (fun j s => (∀ c, c < j → s.1 2 c = nI (K c)) ∧ (∀ c, c < j → s.1 3 c = nI (M c)) ∧ (∀ a i, a ≠ 2 → a ≠ 3 → s.1 a i = I5 a i) ∧ s.2 1 2 = qS (fun i => decide (i < j) && P i) ∧ s.2 1 3 = qS (fun _ => false)) ?_ ?_ F 0 (I5, zL) (by omega) (by omega) ⟨fun c hc => absurd hc (Nat.not_lt_zero c), fun c hc => absurd hc (Nat.not_lt_zero c), fun _ _ _ _ => rfl, ?_, zL_0.2⟩
  · rintro f ⟨I, L⟩ ⟨h1, h2, h3, h4, h5⟩
    refine ⟨I, L, ?_, h1, h2, h3, h4.trans qS_sE, h5⟩
    show L_build_l10 sc (fun I L => some (I, L)) (f + 1) (nI 48) I L = _
    rw [L_build_l10, if_pos (by decide)]
  · rintro f j ⟨I, L⟩ hj ⟨h1, h2, h3, h4, h5⟩
    dsimp only at h1 h2 h3 h4 h5
    left
    have hk : X5_knit (nI j) (nI (K j)) (nI (M j)) I = some (I 2 j, mh_u (mh_u I 2 j (nI (K j))) 3 j (nI (M j))) := by
      unfold X5_knit X1_become
      rw [il_ok j hj, po_b, if_neg (by decide), ikn_ok _ (h.1 j hj) _ (h.2.1 j hj), po_b, if_neg (by decide)]
      simp (disch := omega) only [px_ix, pj_b, po_b]
    obtain ⟨I2, hI2⟩ : ∃ I2, I2 = mh_mx 46 (mh_u (mh_u I 2 j (nI (K j))) 3 j (nI (M j))) I := ⟨_, rfl⟩
    have i2 : ∀ a i, I2 a i = mh_u (mh_u I 2 j (nI (K j))) 3 j (nI (M j)) a i := fun a i => by
      rw [hI2]
      by_cases h46 : a < 46
      · rw [mh_mx_lo h46]
      · rw [mh_mx_hi h46, pu_a (by omega), pu_a (by omega)]
    have E : L_build_l10 sc (fun I L => some (I, L)) (f + 1) (nI j) I L = if P j = true then (X5_pin (nI j) (nI 1) L).bind (fun q7 => L_build_l10 sc (fun I L => some (I, L)) f (nI (j + 1)) I2 (mh_mx 46 q7.2 L)) else L_build_l10 sc (fun I L => some (I, L)) f (nI (j + 1)) I2 L := by
      rw [L_build_l10, if_neg (show ¬ (48 : Int32) ≤ nI j from (nI_ge hj (by omega) : ¬ nI 48 ≤ nI j)), h.2.2.1 j hj, po_b, h.2.2.2.1 j hj, po_b, hk, po_b, h.2.2.2.2 j hj, po_b]
      dsimp only
      rw [← hI2]
      simp only [pj_j, pj_b, pn_al, sqb]
      cases P j
      · rw [if_pos rfl, if_neg (by decide)]
      · rw [if_neg (by decide), if_pos rfl]; rfl
    have g1 : ∀ c, c < j + 1 → I2 2 c = nI (K c) := fun c hc => by
      rw [i2, pu_a (by decide)]
      by_cases ec : c = j
      · subst ec; rw [pu_s]
      · rw [pu_k ec]; exact h1 c (by omega)
    have g2 : ∀ c, c < j + 1 → I2 3 c = nI (M c) := fun c hc => by
      rw [i2]
      by_cases ec : c = j
      · subst ec; rw [pu_s]
      · rw [pu_k ec, pu_a (by decide)]; exact h2 c (by omega)
    have g3 : ∀ a i, a ≠ 2 → a ≠ 3 → I2 a i = I5 a i := fun a i n1 n2 => by
      rw [i2, pu_a n2, pu_a n1]; exact h3 a i n1 n2
    cases hP : P j
    · rw [hP, if_neg (by decide)] at E
      exact ⟨(I2, L), ⟨g1, g2, g3, h4.trans (qS_s0 hP), h5⟩, E⟩
    · rw [hP, if_pos rfl, v_pin h4 hj (show 1 < 2 by decide), po_b] at E
      dsimp only at E
      refine ⟨(I2, mh_mx 46 (mh_ul L 1 2 (qS (fun i => if 1 = 1 then (decide (i < j) && P i) || decide (i = j) else (decide (i < j) && P i) && !decide (i = j)))) L), ⟨g1, g2, g3, ?_, ?_⟩, E⟩
      · dsimp only
        rw [mh_mx_lo (by decide), pul_s, ← qS_s1 hP, qS_or]
        exact qS_ext fun i _ => by rw [if_pos rfl]
      · dsimp only
        rw [mh_mx_lo (by decide), pul_k (by decide)]
        exact h5
  · show zL 1 2 = _
    rw [zL_0.1, ← qS_sI, qS_0]
