/-! PURE: a text, all three parts -/
def JX (n : Nat) (J J' : mh_I) : Prop := ∀ a i, ¬ (a = 0 ∧ (i = 5 ∨ i = 8 ∨ 17 ≤ i)) → a ≠ 14 → ¬ (a = 6 ∧ 200 * n ≤ i) → ¬ (a = 7 ∧ 4 * n ≤ i) → J' a i = J a i
def OUT (n z tx : Nat) (I1 Js : mh_I) (x : Option (Int32 × mh_I × (Option Nat))) (y : Option (Int32 × mh_I)) : Prop := (∃ s' Ic Jc, x = some (nI s', Ic, some tx) ∧ C2 tx I1 Ic ∧ y = some ((-100 : Int32) - nI s', Jc) ∧ s' ≤ z ∧ JX n Js Jc ∧ Jc 0 5 = 0 ∧ Jc 0 8 = nI n) ∨ (∃ Ic Jc, x = some (-1, Ic, some tx) ∧ C2 tx I1 Ic ∧ y = some (nI n, Jc) ∧ JX n Js Jc ∧ Jc 0 5 = 0 ∧ Jc 0 8 = nI (n + 1) ∧ TXT Ic Jc n)
theorem l26_0 (k : Int32 → mh_I → Option (Int32 × mh_I)) (g : Nat) (u : Int32) (J : mh_I) : X6_text_l26 k (g + 1) 0 u J = k 0 J := by
  rw [X6_text_l26]
  by_cases c : (3 : Int32) ≤ u
  · rw [if_pos c]
  · rw [if_neg c, if_pos rfl]
theorem jx_kt {n : Nat} {J J1 : mh_I} (h : TF n J J1) (x : Int32) : JX n J (mh_u (mh_u J1 7 (4 * n + 3) x) 0 5 0) := fun a i g1 g2 g3 g4 => by
  rw [show mh_u (mh_u J1 7 (4 * n + 3) x) 0 5 0 a i = mh_u J1 7 (4 * n + 3) x a i from if_neg (by omega), show mh_u J1 7 (4 * n + 3) x a i = J1 a i from if_neg (by omega)]
  exact h a i (by omega) g2 g3 g4
theorem out_fail {n z tx : Nat} {b : Nat → Nat} {I1 Js I' J' : mh_I} {s' g : Nat} {u : Int32} {x : Option (Int32 × mh_I × (Option Nat))} {y : Option (Int32 × mh_I)} (hBS : BS n z b Js) (h1 : x = some (nI s', I', some tx)) (h2 : C2 tx I1 I') (h3 : y = X6_text_l26 KT (g + 1) 0 u J') (h4 : J' 0 18 = nI s') (h5 : s' ≤ z) (h6 : TF n Js J') : OUT n z tx I1 Js x y := by
  have h8 : J' 0 8 = nI n := (BS_fr hBS h6).2.2.2.2.2.2
  refine .inl ⟨s', I', _, h1, h2, by rw [h3, l26_0, kt_fail hBS.1 h8 h4], h5, jx_kt h6 _, pu_s _ _ _ _, ?_⟩
  rw [pu_k (by decide), pu_a (by decide), h8]
theorem t_in {n z : Nat} {b : Nat → Nat} {I1 Js : mh_I} {p s e t v : Nat} (hBI : BI (14 + 4 * n) z b I1) (hBS : BS n z b Js) (hC : CS (14 + 4 * n) z b I1 I1 p s e t v []) (hR : RT n Js p []) (f : Nat) : OUT n z (14 + 4 * n) I1 Js (X3_readInto_l23 (14 + 4 * n) (K9 (14 + 4 * n)) (f + 5) (nI 0) I1) (X6_text_l26 KT (f + 5) 1 (nI 0) Js) := by
  have hn := hBS.1
  rcases t_part (q := 0) hBI hBS (by decide) hC hR (K9 (14 + 4 * n)) KT (f + 4) (f + 4) with ⟨I', s', J', a1, a2, a3, a4, a5, a6⟩ | ⟨I2, J2, p2, s2, e2, t2, v2, E0, a1, a2, a3, a4, a5, a6, a7, a8, a9, a10, a11⟩
  · exact out_fail hBS a1 a2 a3 a4 a5 a6
  rcases t_part (q := 1) (BI_fr hBI a3) (BS_fr hBS a8) (by decide) a2 a7 (K9 (14 + 4 * n)) KT (f + 3) (f + 3) with ⟨I', s', J', b1, b2, b3, b4, b5, b6⟩ | ⟨I3, J3, p3, s3, e3, t3, v3, E1, b1, b2, b3, b4, b5, b6, b7, b8, b9, b10, b11⟩
  · exact out_fail hBS (a1.trans b1) (C2_t a3 b2) (a6.trans b3) b4 b5 (TF_t a8 b6)
  have hB2 := BI_fr (BI_fr hBI a3) b3
  have hS2 := BS_fr (BS_fr hBS a8) b8
  rcases t_part (q := 2) hB2 hS2 (by decide) b2 b7 (K9 (14 + 4 * n)) KT (f + 2) (f + 2) with ⟨I', s', J', c1, c2, c3, c4, c5, c6⟩ | ⟨I4, J4, p4, s4, e4, t4, v4, E2, c1, c2, c3, c4, c5, c6, c7, c8, c9, c10, c11⟩
  · exact out_fail hBS (a1.trans (b1.trans c1)) (C2_t (C2_t a3 b3) c2) (a6.trans (b6.trans c3)) c4 c5 (TF_t (TF_t a8 b8) c6)
  have hS3 := BS_fr hS2 c8
  have hx := c2.2.2.2.2.1
  obtain ⟨l1, l2, l3, l4, l5, l6⟩ := lx_le hx
  have hC4 : C2 (14 + 4 * n) I1 I4 := C2_t (C2_t a3 b3) c3
  have hT4 : TF n Js J4 := TF_t (TF_t a8 b8) c8
  obtain ⟨J5, d1, d2, d3⟩ := kt_end hS3 c7.1 hx
  have hT5 : TF n Js J5 := TF_t hT4 (fun a i g1 g2 g3 g4 => d2 a i (by omega))
  have eC : X3_readInto_l23 (14 + 4 * n) (K9 (14 + 4 * n)) (f + 2) (nI (2 + 1)) I4 = K9 (14 + 4 * n) I4 := by
    rw [X3_readInto_l23, if_pos (by decide)]
  have eR : X6_text_l26 KT (f + 2) 1 (nI (2 + 1)) J4 = KT 1 J4 := by
    rw [X6_text_l26, if_pos (by decide)]
  have x1 := a1.trans (b1.trans (c1.trans eC))
  have y1 := a6.trans (b6.trans (c6.trans (eR.trans d3)))
  have k9 : K9 (14 + 4 * n) I4 = if t4 = 0 then some (-1, I4, some (14 + 4 * n)) else some (nI s4, I4, some (14 + 4 * n)) := by
    unfold K9
    have h4 := c2.2.2.1
    by_cases c : t4 = 0
    · rw [if_pos (show I4 7 4 = 0 by rw [h4, c]; rfl), if_pos c]
    · rw [if_neg (show ¬ I4 7 4 = 0 from fun hh => c ((nI_eq (by omega) (by decide)).mp (show nI t4 = nI 0 from h4 ▸ hh))), if_neg c, c2.2.1]
  rw [k9] at x1
  by_cases c : t4 = 0
  · rw [if_pos c] at x1 y1
    right
    refine ⟨I4, _, x1, hC4, y1, fun a i g1 g2 g3 g4 => ?_, ?_, pu_s _ _ _ _, ?_⟩
    · rw [show mh_u (mh_u (mh_u J5 7 (4 * n + 3) (J5 0 25)) 0 5 0) 0 8 (nI (n + 1)) a i = mh_u (mh_u J5 7 (4 * n + 3) (J5 0 25)) 0 5 0 a i from if_neg (by omega)]
      exact jx_kt hT5 _ a i g1 g2 g3 g4
    · rw [pu_k (by decide), pu_s]
    · have hlen : (([] ++ E0) ++ E1 ++ E2).length ≤ p4 := c7.2.2.2
      have s1 : ([] ++ E0).length = E0.length := by simp
      have s2 : ([] ++ E0 ++ E1).length = E0.length + E1.length := by simp
      have s3 : ([] ++ E0 ++ E1 ++ E2).length = E0.length + E1.length + E2.length := by simp; omega
      have hz := hBS.2.1
      obtain ⟨e, he⟩ : ∃ e : Nat → Nat, e = fun j => ([] ++ E0 ++ E1 ++ E2).getD j 0 := ⟨_, rfl⟩
      obtain ⟨o, ho⟩ : ∃ o : Nat → Nat, o = fun q => if q = 0 then 0 else if q = 1 then E0.length else if q = 2 then E0.length + E1.length else E0.length + E1.length + E2.length := ⟨_, rfl⟩
      have o0 : o 0 = 0 := by rw [ho]; rfl
      have o1 : o 1 = E0.length := by rw [ho]; rfl
      have o2 : o 2 = E0.length + E1.length := by rw [ho]; rfl
      have o3 : o 3 = E0.length + E1.length + E2.length := by rw [ho]; rfl
      have g0 : ∀ i, i < E0.length → e (0 + i) = E0.getD i 0 := fun i hi => by
        rw [he]
        simp only [List.nil_append, Nat.zero_add, List.getD_eq_getElem?_getD]
        rw [List.getElem?_append_left (by simp; omega), List.getElem?_append_left hi]
      have g1 : ∀ i, i < E1.length → e (E0.length + i) = E1.getD i 0 := fun i hi => by
        rw [he]
        simp only [List.nil_append, List.getD_eq_getElem?_getD]
        rw [List.getElem?_append_left (by simp; omega), List.getElem?_append_right (by omega)]
        congr 2
        omega
      have g2 : ∀ i, i < E2.length → e (E0.length + E1.length + i) = E2.getD i 0 := fun i hi => by
        rw [he]
        simp only [List.nil_append, List.getD_eq_getElem?_getD]
        rw [List.getElem?_append_right (by simp)]
        congr 2
        simp
      refine ⟨e, o, ⟨o0, by omega, by omega, by omega, by omega, fun q hq => ?_⟩, ⟨fun j hj => ?_, fun q hq => ?_⟩, fun j hj => ?_, fun q hq => ?_⟩
      · rcases (show q = 0 ∨ q = 1 ∨ q = 2 by omega) with rfl | rfl | rfl
        · rw [show 0 + 1 = 1 from rfl, o0, o1]
          exact wl_wfn a11 g0
        · rw [show 1 + 1 = 2 from rfl, o1, o2, Nat.add_sub_cancel_left]
          exact wl_wfn b11 g1
        · rw [show 2 + 1 = 3 from rfl, o2, o3, Nat.add_sub_cancel_left]
          exact wl_wfn c11 g2
      · have := c2.2.2.2.2.2.1.2 j (by omega)
        rw [this, he]
      · rcases (show q = 0 ∨ q = 1 ∨ q = 2 by omega) with rfl | rfl | rfl
        · rw [c5 0 (by decide), b5 0 (by decide), a4, show 0 + 1 = 1 from rfl, o1, s1]
        · rw [c5 1 (by decide), b4, show 1 + 1 = 2 from rfl, o2, s2]
        · rw [c4, show 2 + 1 = 3 from rfl, o3, s3]
      · rw [pu_a (by decide), pu_a (by decide), pu_a (by decide), d2 6 _ (by omega), he]
        exact c7.2.2.1 j (by omega)
      · rw [pu_a (by decide), pu_a (by decide)]
        rcases (show q = 0 ∨ q = 1 ∨ q = 2 ∨ q = 3 by omega) with rfl | rfl | rfl | rfl
        · rw [pu_k (by omega), d2 7 _ (by omega), c10 _ (by omega), b10 _ (by omega), a9, o0]; rfl
        · rw [pu_k (by omega), d2 7 _ (by omega), c10 _ (by omega), b9, o1, s1]
        · rw [pu_k (by omega), d2 7 _ (by omega), c9, o2, s2]
        · rw [pu_s, d2 0 25 (by omega), c7.2.1, o3, s3]
  · rw [if_neg c] at x1 y1
    left
    exact ⟨s4, I4, _, x1, hC4, y1, by omega, jx_kt hT5 _, pu_s _ _ _ _, by rw [pu_k (by decide), pu_a (by decide), d2 0 8 (by omega), hS3.2.2.2.2.2.2]⟩
