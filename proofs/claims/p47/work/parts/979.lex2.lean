/-! PURE: one token, both readers -/
def lxl (x : Nat) : Prop := 97 ≤ x ∧ x ≤ 122
def lxd (x : Nat) : Prop := 48 ≤ x ∧ x ≤ 57
def lxb (x : Nat) : Prop := x = 32 ∨ x = 10
def lxs (x : Nat) : Prop := x = 40 ∨ x = 41 ∨ x = 42 ∨ x = 43 ∨ x = 45 ∨ x = 59 ∨ x = 60 ∨ x = 61
def dv (b : Nat → Nat) (s : Nat) : Nat → Nat
  | 0 => 0
  | n + 1 => 10 * dv b s n + (b (s + n) - 48)
def LX (b : Nat → Nat) (z p s e t v : Nat) : Prop :=
  p ≤ s ∧ s ≤ e ∧ e ≤ z ∧ (∀ i, p ≤ i → i < s → lxb (b i)) ∧ (s < z → ¬ lxb (b s)) ∧
  ((s = z ∧ e = s ∧ t = 0 ∧ v = 0) ∨
   (s < e ∧ (∀ i, s ≤ i → i < e → lxl (b i)) ∧ (e < z → ¬ lxl (b e)) ∧ ((∃ k, k < 12 ∧ wsq b s (e - s) (wL.getD k []) ∧ t = 300 + k) ∨ ((∀ k, k < 12 → ¬ wsq b s (e - s) (wL.getD k [])) ∧ t = 1))) ∨
   (s < e ∧ (∀ i, s ≤ i → i < e → lxd (b i)) ∧ (e < z → ¬ lxd (b e)) ∧ ((e - s ≤ 4 ∧ t = 2 ∧ v = dv b s (e - s)) ∨ (4 < e - s ∧ t = 1))) ∨
   (e = s + 1 ∧ ¬ lxl (b s) ∧ ¬ lxd (b s) ∧ ((lxs (b s) ∧ t = b s) ∨ (¬ lxs (b s) ∧ t = 1))))
theorem lx_ex (b : Nat → Nat) {z p : Nat} (hp : p ≤ z) : ∃ s e t v, LX b z p s e t v := by
  obtain ⟨s, s1, s2, s3, s4⟩ := scan_ex (fun i => lxb (b i)) z (z - p) p (Nat.le_refl _) hp
  by_cases hz : s = z
  · exact ⟨s, s, 0, 0, s1, Nat.le_refl _, s2, s3, s4, .inl ⟨hz, rfl, rfl, rfl⟩⟩
  · have hsz : s < z := by omega
    by_cases hl : lxl (b s)
    · obtain ⟨e, e1, e2, e3, e4⟩ := scan_ex (fun i => lxl (b i)) z (z - s) s (Nat.le_refl _) s2
      have hse : s < e := by
        rcases Nat.lt_or_ge s e with h | h
        · exact h
        · have : e = s := by omega
          subst this
          exact absurd hl (e4 hsz)
      by_cases hk : ∃ k, k < 12 ∧ wsq b s (e - s) (wL.getD k [])
      · obtain ⟨k, k1, k2⟩ := hk
        exact ⟨s, e, 300 + k, 0, s1, by omega, e2, s3, s4, .inr (.inl ⟨hse, e3, e4, .inl ⟨k, k1, k2, rfl⟩⟩)⟩
      · exact ⟨s, e, 1, 0, s1, by omega, e2, s3, s4, .inr (.inl ⟨hse, e3, e4, .inr ⟨fun k h1 h2 => hk ⟨k, h1, h2⟩, rfl⟩⟩)⟩
    · by_cases hd : lxd (b s)
      · obtain ⟨e, e1, e2, e3, e4⟩ := scan_ex (fun i => lxd (b i)) z (z - s) s (Nat.le_refl _) s2
        have hse : s < e := by
          rcases Nat.lt_or_ge s e with h | h
          · exact h
          · have : e = s := by omega
            subst this
            exact absurd hd (e4 hsz)
        by_cases h4 : e - s ≤ 4
        · exact ⟨s, e, 2, dv b s (e - s), s1, by omega, e2, s3, s4, .inr (.inr (.inl ⟨hse, e3, e4, .inl ⟨h4, rfl, rfl⟩⟩))⟩
        · exact ⟨s, e, 1, 0, s1, by omega, e2, s3, s4, .inr (.inr (.inl ⟨hse, e3, e4, .inr ⟨by omega, rfl⟩⟩))⟩
      · by_cases hs : lxs (b s)
        · exact ⟨s, s + 1, b s, 0, s1, by omega, by omega, s3, s4, .inr (.inr (.inr ⟨rfl, hl, hd, .inl ⟨hs, rfl⟩⟩))⟩
        · exact ⟨s, s + 1, 1, 0, s1, by omega, by omega, s3, s4, .inr (.inr (.inr ⟨rfl, hl, hd, .inr ⟨hs, rfl⟩⟩))⟩
theorem dv_lt {b : Nat → Nat} {s : Nat} : ∀ n, (∀ i, i < n → lxd (b (s + i))) → dv b s n < 10 ^ n := by
  intro n
  induction n with
  | zero => intro _; exact Nat.one_pos
  | succ n ih =>
    intro h
    have h1 := ih (fun i hi => h i (by omega))
    have h2 := h n (by omega)
    unfold lxd at h2
    rw [dv, Nat.pow_succ]
    omega
theorem lx_isl (x : Nat) (hx : x < 256) : (lxl x ∧ X3_isLetter (nI x) = some 1 ∧ X6_in (nI x) 97 122 = some 1) ∨ (¬ lxl x ∧ X3_isLetter (nI x) = some 0 ∧ X6_in (nI x) 97 122 = some 0) := by
  unfold X3_isLetter X5_within X6_in lxl
  by_cases h1 : x < 97
  · have : nI x < (97 : Int32) := (nI_lt h1 (by omega) : nI x < nI 97)
    simp only [this, if_true, po_b]
    exact .inr ⟨by omega, trivial, trivial⟩
  · have h1' : ¬ nI x < (97 : Int32) := (nI_nlt (by omega) (by omega) : ¬ nI x < nI 97)
    by_cases h2 : 122 < x
    · have : (122 : Int32) < nI x := (nI_lt h2 (by omega) : nI 122 < nI x)
      simp only [h1', this, if_true, if_false, po_b]
      exact .inr ⟨by omega, trivial, trivial⟩
    · have : ¬ (122 : Int32) < nI x := (nI_nlt (by omega) (by omega) : ¬ nI 122 < nI x)
      simp only [h1', this, if_false, po_b]
      exact .inl ⟨by omega, trivial, trivial⟩
theorem lx_isd (x : Nat) (hx : x < 256) : (lxd x ∧ X3_isDigit (nI x) = some 1 ∧ X6_in (nI x) 48 57 = some 1) ∨ (¬ lxd x ∧ X3_isDigit (nI x) = some 0 ∧ X6_in (nI x) 48 57 = some 0) := by
  unfold X3_isDigit X5_within X6_in lxd
  by_cases h1 : x < 48
  · have : nI x < (48 : Int32) := (nI_lt h1 (by omega) : nI x < nI 48)
    simp only [this, if_true, po_b]
    exact .inr ⟨by omega, trivial, trivial⟩
  · have h1' : ¬ nI x < (48 : Int32) := (nI_nlt (by omega) (by omega) : ¬ nI x < nI 48)
    by_cases h2 : 57 < x
    · have : (57 : Int32) < nI x := (nI_lt h2 (by omega) : nI 57 < nI x)
      simp only [h1', this, if_true, if_false, po_b]
      exact .inr ⟨by omega, trivial, trivial⟩
    · have : ¬ (57 : Int32) < nI x := (nI_nlt (by omega) (by omega) : ¬ nI 57 < nI x)
      simp only [h1', this, if_false, po_b]
      exact .inl ⟨by omega, trivial, trivial⟩
theorem lx_iss : ∀ x, x < 256 → X3_isSign (nI x) = some (if x = 40 ∨ x = 41 ∨ x = 42 ∨ x = 43 ∨ x = 45 ∨ x = 59 ∨ x = 60 ∨ x = 61 then 1 else 0) := by decide +kernel
/-- the class's blanks -/
theorem lx_c5 {I : mh_I} {z : Nat} {b : Nat → Nat} {p s F : Nat} (hz : z ≤ 160) (hb : ∀ i, i < z → b i < 256) (h1 : I 7 1 = nI z) (h8 : ∀ i, i < z → I 8 i = nI (b i)) (hps : p ≤ s) (hsz : s ≤ z) (hbl : ∀ i, p ≤ i → i < s → lxb (b i)) (hn : s < z → ¬ lxb (b s)) (hF : 1000 < F) (k : Int32 → Option mh_I) : X3_advance_l5 I k F (nI p) = k (nI s) := by
  refine pl_up (fun f j (_ : Unit) => X3_advance_l5 I k f j) s (fun r => r = k (nI s)) (fun j _ => p ≤ j) (fun f _ h => ?_) (fun f j _ hj h => ?_) F p () hps (by omega) (Nat.le_refl _)
  · show X3_advance_l5 I k (f + 1) (nI s) = k (nI s)
    rw [X3_advance_l5, h1]
    by_cases c : s < z
    · have hnb := hn c
      unfold lxb at hnb
      have hbs := hb s c
      have e1 : ¬ nI (b s) = (32 : Int32) := fun hh => hnb (.inl ((nI_eq (by omega) (by decide)).mp (show nI _ = nI 32 from hh)))
      have e2 : ¬ nI (b s) = (10 : Int32) := fun hh => hnb (.inr ((nI_eq (by omega) (by decide)).mp (show nI _ = nI 10 from hh)))
      rw [if_neg (nI_ge c (by omega)), px_ix (show s < 160 by omega) (by decide), pj_j, h8 s c, if_neg e1, px_ix (show s < 160 by omega) (by decide), h8 s c, if_neg e2]
    · rw [if_pos (nI_le (by omega) (by omega))]
  · left
    refine ⟨(), by omega, ?_⟩
    show X3_advance_l5 I k (f + 1) (nI j) = X3_advance_l5 I k f (nI (j + 1))
    have e3 : nI j + (1 : Int32) = nI (j + 1) := nI_add j 1
    rw [X3_advance_l5, h1, if_neg (nI_ge (by omega) (by omega)), px_ix (show j < 160 by omega) (by decide), pj_j, h8 j (by omega), px_ix (show j < 160 by omega) (by decide)]
    simp only [pj_b, e3]
    rcases hbl j h hj with e | e
    · rw [e, if_pos (show nI 32 = (32 : Int32) from rfl)]
    · rw [e, if_neg (show ¬ nI 10 = (32 : Int32) by decide), h8 j (by omega), e, if_pos (show nI 10 = (10 : Int32) from rfl)]
/-- the class's letters -/
theorem lx_c74 {I : mh_I} {z : Nat} {b : Nat → Nat} {p s F : Nat} (hz : z ≤ 160) (hb : ∀ i, i < z → b i < 256) (h1 : I 7 1 = nI z) (h8 : ∀ i, i < z → I 8 i = nI (b i)) (hps : p ≤ s) (hsz : s ≤ z) (hbl : ∀ i, p ≤ i → i < s → lxl (b i)) (hn : s < z → ¬ lxl (b s)) (hF : 1000 < F) (k : Int32 → Option mh_I) : X3_advance_l74 I k F (nI p) = k (nI s) := by
  refine pl_up (fun f j (_ : Unit) => X3_advance_l74 I k f j) s (fun r => r = k (nI s)) (fun j _ => p ≤ j) (fun f _ h => ?_) (fun f j _ hj h => ?_) F p () hps (by omega) (Nat.le_refl _)
  · show X3_advance_l74 I k (f + 1) (nI s) = k (nI s)
    rw [X3_advance_l74, h1]
    by_cases c : s < z
    · rw [if_neg (nI_ge c (by omega)), px_ix (show s < 160 by omega) (by decide), h8 s c]
      rcases lx_isl (b s) (hb s c) with ⟨g, -⟩ | ⟨-, g, -⟩
      · exact absurd g (hn c)
      · rw [g, po_b, if_pos rfl]
    · rw [if_pos (nI_le (by omega) (by omega))]
  · left
    refine ⟨(), by omega, ?_⟩
    show X3_advance_l74 I k (f + 1) (nI j) = X3_advance_l74 I k f (nI (j + 1))
    have e3 : nI j + (1 : Int32) = nI (j + 1) := nI_add j 1
    rw [X3_advance_l74, h1, if_neg (nI_ge (by omega) (by omega)), px_ix (show j < 160 by omega) (by decide), h8 j (by omega)]
    rcases lx_isl (b j) (hb j (by omega)) with ⟨-, g, -⟩ | ⟨g, -⟩
    · rw [g, po_b, if_neg (by decide), pj_b, e3]
    · exact absurd (hbl j h hj) g
/-- the class's digits -/
theorem lx_c129 {I : mh_I} {z : Nat} {b : Nat → Nat} {s e F : Nat} (hz : z ≤ 160) (hb : ∀ i, i < z → b i < 256) (h1 : I 7 1 = nI z) (h8 : ∀ i, i < z → I 8 i = nI (b i)) (h75 : I 7 5 = 0) (hps : s ≤ e) (hsz : e ≤ z) (hbl : ∀ i, s ≤ i → i < e → lxd (b i)) (hn : e < z → ¬ lxd (b e)) (hF : 1000 < F) (k : Int32 → mh_I → Option mh_I) : ∃ I', X3_advance_l129 k F (nI s) I = k (nI e) I' ∧ (e - s ≤ 4 → I' 7 5 = nI (dv b s (e - s))) ∧ ∀ a i, ¬ (a = 7 ∧ i = 5) → I' a i = I a i := by
  refine pl_up (fun f j I => X3_advance_l129 k f j I) e (fun r => ∃ I', r = k (nI e) I' ∧ (e - s ≤ 4 → I' 7 5 = nI (dv b s (e - s))) ∧ ∀ a i, ¬ (a = 7 ∧ i = 5) → I' a i = I a i) (fun j I' => s ≤ j ∧ (j - s ≤ 4 → I' 7 5 = nI (dv b s (j - s))) ∧ ∀ a i, ¬ (a = 7 ∧ i = 5) → I' a i = I a i) (fun f I' h => ?_) (fun f j I' hj h => ?_) F s I hps (by omega) ⟨Nat.le_refl _, fun _ => by rw [h75, Nat.sub_self]; rfl, fun _ _ _ => rfl⟩
  · refine ⟨I', ?_, h.2.1, h.2.2⟩
    show X3_advance_l129 k (f + 1) (nI e) I' = k (nI e) I'
    rw [X3_advance_l129, h.2.2 7 1 (by omega), h1]
    by_cases c : e < z
    · rw [if_neg (nI_ge c (by omega)), px_ix (show e < 160 by omega) (by decide), h.2.2 8 e (by omega), h8 e c]
      rcases lx_isd (b e) (hb e c) with ⟨g, -⟩ | ⟨-, g, -⟩
      · exact absurd g (hn c)
      · rw [g, po_b, if_pos rfl]
    · rw [if_pos (nI_le (by omega) (by omega))]
  · left
    obtain ⟨g1, g2, g3⟩ := h
    have e3 : nI j + (1 : Int32) = nI (j + 1) := nI_add j 1
    refine ⟨mh_u I' 7 5 ((((I' 7 5) * (10 : Int32)) + (I' 8 j)) - (48 : Int32)), ⟨by omega, fun h4 => ?_, fun a i hai => ?_⟩, ?_⟩
    · have hd := hbl j g1 hj
      unfold lxd at hd
      rw [pu_s, g2 (by omega), g3 8 j (by omega), h8 j (by omega), pn_ml, nI_add, show j + 1 - s = (j - s) + 1 by omega, dv, show s + (j - s) = j by omega]
      rw [pn_sl (by omega)]
      congr 1
      omega
    · rw [show mh_u I' 7 5 _ a i = I' a i from if_neg hai]
      exact g3 a i hai
    · show X3_advance_l129 k (f + 1) (nI j) I' = X3_advance_l129 k f (nI (j + 1)) _
      rw [X3_advance_l129, g3 7 1 (by omega), h1, if_neg (nI_ge (by omega) (by omega)), px_ix (show j < 160 by omega) (by decide), px_ix (show j < 160 by omega) (by decide), g3 8 j (by omega), h8 j (by omega)]
      rcases lx_isd (b j) (hb j (by omega)) with ⟨-, g, -⟩ | ⟨g, -⟩
      · rw [g, po_b, if_neg (by decide), pj_b, e3]
      · exact absurd (hbl j g1 hj) g
theorem lx_cls {I : mh_I} {z : Nat} {b : Nat → Nat} {p s e t v : Nat} (hz : z ≤ 160) (hb : ∀ i, i < z → b i < 256) (h1 : I 7 1 = nI z) (h8 : ∀ i, i < z → I 8 i = nI (b i)) (h2 : I 7 2 = nI p) (h : LX b z p s e t v) : ∃ I', X3_advance I = some I' ∧ I' 7 2 = nI e ∧ I' 7 3 = nI s ∧ I' 7 4 = nI t ∧ (t = 2 → I' 7 5 = nI v) ∧ ∀ a i, ¬ (a = 7 ∧ 2 ≤ i ∧ i ≤ 5) → I' a i = I a i := by
  obtain ⟨F, hF, eF⟩ := fuel_ex
  obtain ⟨hps, hse, hez, hbl, hnb, hc⟩ := h
  unfold X3_advance
  rw [eF, h2, pj_b, lx_c5 hz hb h1 h8 hps (by omega) hbl hnb (by omega)]
  try dsimp only
  obtain ⟨I1, hI1⟩ : ∃ I1, I1 = mh_u I 7 3 (nI s) := ⟨_, rfl⟩
  rw [pj_j, ← hI1]
  have f3 : I1 7 3 = nI s := by rw [hI1, pu_s]
  have fr1 : ∀ a i, ¬ (a = 7 ∧ i = 3) → I1 a i = I a i := fun a i hai => by rw [hI1]; exact if_neg hai
  have f1 : I1 7 1 = nI z := by rw [fr1 7 1 (by omega), h1]
  have f8 : ∀ i, i < z → I1 8 i = nI (b i) := fun i hi => by rw [fr1 8 i (by omega), h8 i hi]
  have fin : ∀ (I2 : mh_I) (w : Int32), (∀ a i, ¬ (a = 7 ∧ i = 5) → I2 a i = I1 a i) → w = nI t → (t = 2 → I2 7 5 = nI v) → ∃ I', some (mh_u (mh_u I2 7 4 w) 7 2 (nI e)) = some I' ∧ I' 7 2 = nI e ∧ I' 7 3 = nI s ∧ I' 7 4 = nI t ∧ (t = 2 → I' 7 5 = nI v) ∧ ∀ a i, ¬ (a = 7 ∧ 2 ≤ i ∧ i ≤ 5) → I' a i = I a i := by
    intro I2 w g1 g2 g3
    refine ⟨_, rfl, pu_s _ _ _ _, ?_, ?_, fun h5 => ?_, fun a i hai => ?_⟩
    · rw [pu_k (by decide), pu_k (by decide), g1 7 3 (by omega), f3]
    · rw [pu_k (by decide), pu_s, g2]
    · rw [pu_k (by decide), pu_k (by decide), g3 h5]
    · rw [show mh_u (mh_u I2 7 4 w) 7 2 (nI e) a i = mh_u I2 7 4 w a i from if_neg (by omega), show mh_u I2 7 4 w a i = I2 a i from if_neg (by omega), g1 a i (by omega), fr1 a i (by omega)]
  rw [f1]
  rcases hc with ⟨c1, c2, c3, c4⟩ | ⟨c1, c2, c3, c4⟩ | ⟨c1, c2, c3, c4⟩ | ⟨c1, c2, c3, c4⟩
  · subst c2
    rw [if_neg (nI_nlt (by omega) (by omega))]
    exact fin I1 0 (fun _ _ _ => rfl) (by rw [c3]; rfl) (fun hh => by omega)
  · have hl := c2 s (Nat.le_refl _) c1
    rw [if_pos (nI_lt (by omega) (by omega)), px_ix (show s < 160 by omega) (by decide), f8 s (by omega)]
    rcases lx_isl (b s) (hb s (by omega)) with ⟨-, g, -⟩ | ⟨g, -⟩
    · rw [g, po_b, if_neg (by decide), lx_c74 hz hb f1 f8 hse hez c2 c3 (by omega)]
      try dsimp only
      rcases lx_wt hz hb f8 f3 hse hez (fun i h1 h2 => (c2 i h1 h2).1) with ⟨k, k1, k2, k3⟩ | ⟨k1, k2⟩
      · rw [k3, po_b]
        refine fin I1 _ (fun _ _ _ => rfl) ?_ (fun hh => ?_)
        · rcases c4 with ⟨k', l1, l2, l3⟩ | ⟨l1, l2⟩
          · rw [l3, ws_un k k1 k' l1 (k2.1.symm.trans l2.1) (fun i hi => (k2.2 i (by rw [k2.1]; exact hi)).symm.trans (l2.2 i (by rw [k2.1]; exact hi)))]
          · exact absurd k2 (l1 k k1)
        · rcases c4 with ⟨k', l1, l2, l3⟩ | ⟨l1, l2⟩ <;> omega
      · rw [k2, po_b]
        refine fin I1 _ (fun _ _ _ => rfl) ?_ (fun hh => ?_)
        · rcases c4 with ⟨k', l1, l2, l3⟩ | ⟨l1, l2⟩
          · exact absurd l2 (k1 k' l1)
          · rw [l2]; rfl
        · rcases c4 with ⟨k', l1, l2, l3⟩ | ⟨l1, l2⟩ <;> omega
    · exact absurd hl g
  · have hd := c2 s (Nat.le_refl _) c1
    rw [if_pos (nI_lt (by omega) (by omega)), px_ix (show s < 160 by omega) (by decide), f8 s (by omega)]
    rcases lx_isl (b s) (hb s (by omega)) with ⟨g, -⟩ | ⟨-, g, -⟩
    · unfold lxl at g
      unfold lxd at hd
      omega
    · rw [g, po_b, if_pos rfl, px_ix (show s < 160 by omega) (by decide), f8 s (by omega)]
      rcases lx_isd (b s) (hb s (by omega)) with ⟨-, g2, -⟩ | ⟨g2, -⟩
      · rw [g2, po_b, if_neg (by decide)]
        obtain ⟨I2, k1, k2, k3⟩ := lx_c129 (I := mh_u I1 7 5 0) (F := F) (s := s) (e := e) hz hb (by rw [pu_k (by decide), f1]) (fun i hi => by rw [pu_a (by decide), f8 i hi]) (pu_s _ _ _ _) hse hez c2 c3 (by omega) (fun (v38 : Int32) (I39 : mh_I) => mh_j (fun (s40 : Int32) => ((fun (v12 : Int32) (I13 : mh_I) => some (mh_u I13 7 2 v12)) v38 (mh_u I39 7 4 s40))) (fun J41 => if (v38 - (I39 7 3)) ≤ (4 : Int32) then (J41 (2 : Int32)) else (J41 (1 : Int32))))
        rw [k1]
        try dsimp only
        rw [pj_j, k3 7 3 (by omega), pu_k (by decide), f3, pk_sub hse]
        have fr2 : ∀ a i, ¬ (a = 7 ∧ i = 5) → I2 a i = I1 a i := fun a i hai => (k3 a i hai).trans (if_neg hai)
        rcases c4 with ⟨l1, l2, l3⟩ | ⟨l1, l2⟩
        · rw [if_pos (show nI (e - s) ≤ (4 : Int32) from (nI_le l1 (by decide) : nI (e - s) ≤ nI 4))]
          exact fin I2 2 fr2 (by rw [l2]; rfl) (fun _ => by rw [k2 l1, l3])
        · rw [if_neg (show ¬ nI (e - s) ≤ (4 : Int32) from (nI_ge l1 (by omega) : ¬ nI (e - s) ≤ nI 4))]
          exact fin I2 1 fr2 (by rw [l2]; rfl) (fun hh => by omega)
      · exact absurd hd g2
  · rw [if_pos (nI_lt (by omega) (by omega)), px_ix (show s < 160 by omega) (by decide), f8 s (by omega)]
    rcases lx_isl (b s) (hb s (by omega)) with ⟨g, -⟩ | ⟨-, g, -⟩
    · exact absurd g c2
    · rw [g, po_b, if_pos rfl, px_ix (show s < 160 by omega) (by decide), f8 s (by omega)]
      rcases lx_isd (b s) (hb s (by omega)) with ⟨g2, -⟩ | ⟨-, g2, -⟩
      · exact absurd g2 c3
      · rw [g2, po_b, if_pos rfl, px_ix (show s < 160 by omega) (by decide), f8 s (by omega), lx_iss _ (hb s (by omega)), po_b, pj_j, px_ix (show s < 160 by omega) (by decide), f8 s (by omega)]
        have e1 : nI s + (1 : Int32) = nI e := by rw [c1]; exact nI_add s 1
        simp only [pj_b, e1]
        unfold lxs at c4
        rcases c4 with ⟨l1, l2⟩ | ⟨l1, l2⟩
        · rw [if_pos l1, if_neg (by decide)]
          exact fin I1 _ (fun _ _ _ => rfl) (by rw [l2]) (fun hh => by omega)
        · rw [if_neg l1, if_pos rfl]
          exact fin I1 _ (fun _ _ _ => rfl) (by rw [l2]; rfl) (fun hh => by omega)
/-- the reference's blanks, letters, digits -/
theorem lx_r0 {J : mh_I} {z : Nat} {b : Nat → Nat} {p s F : Nat} (hz : z ≤ 160) (hb : ∀ i, i < z → b i < 256) (h1 : J 0 5 = nI z) (h8 : ∀ i, i < z → J 5 i = nI (b i)) (h17 : J 0 17 = nI p) (hps : p ≤ s) (hsz : s ≤ z) (hbl : ∀ i, p ≤ i → i < s → lxb (b i)) (hn : s < z → ¬ lxb (b s)) (hF : 1000 < F) (k : mh_I → Option mh_I) : ∃ J', X6_next_l0 k F J = k J' ∧ J' 0 17 = nI s ∧ ∀ a i, ¬ (a = 0 ∧ i = 17) → J' a i = J a i := by
  refine pl_up (fun f (_ : Int32) J => X6_next_l0 k f J) s (fun r => ∃ J', r = k J' ∧ J' 0 17 = nI s ∧ ∀ a i, ¬ (a = 0 ∧ i = 17) → J' a i = J a i) (fun j J' => p ≤ j ∧ J' 0 17 = nI j ∧ ∀ a i, ¬ (a = 0 ∧ i = 17) → J' a i = J a i) (fun f J' h => ?_) (fun f j J' hj h => ?_) F p J hps (by omega) ⟨Nat.le_refl _, h17, fun _ _ _ => rfl⟩
  · refine ⟨J', ?_, h.2.1, h.2.2⟩
    show X6_next_l0 k (f + 1) J' = k J'
    rw [X6_next_l0, h.2.2 0 5 (by omega), h1, h.2.1]
    by_cases c : s < z
    · have hnb := hn c
      unfold lxb at hnb
      have hbs := hb s c
      have e1 : ¬ nI (b s) = (32 : Int32) := fun hh => hnb (.inl ((nI_eq (by omega) (by decide)).mp (show nI _ = nI 32 from hh)))
      have e2 : ¬ nI (b s) = (10 : Int32) := fun hh => hnb (.inr ((nI_eq (by omega) (by decide)).mp (show nI _ = nI 10 from hh)))
      rw [if_neg (nI_ge c (by omega)), px_ix (show s < 160 by omega) (by decide), pj_j, h.2.2 5 s (by omega), h8 s c, if_neg e1, px_ix (show s < 160 by omega) (by decide), h.2.2 5 s (by omega), h8 s c, if_neg e2]
    · rw [if_pos (nI_le (by omega) (by omega))]
  · left
    obtain ⟨g1, g2, g3⟩ := h
    refine ⟨mh_u J' 0 17 (nI (j + 1)), ⟨by omega, pu_s _ _ _ _, fun a i hai => (if_neg hai).trans (g3 a i hai)⟩, ?_⟩
    show X6_next_l0 k (f + 1) J' = X6_next_l0 k f _
    have e3 : nI j + (1 : Int32) = nI (j + 1) := nI_add j 1
    rw [X6_next_l0, g3 0 5 (by omega), h1, g2, if_neg (nI_ge (by omega) (by omega)), px_ix (show j < 160 by omega) (by decide), pj_j, g3 5 j (by omega), h8 j (by omega), px_ix (show j < 160 by omega) (by decide), g3 5 j (by omega), h8 j (by omega), e3]
    rcases hbl j g1 hj with e | e
    · rw [e, if_pos (show nI 32 = (32 : Int32) from rfl)]
    · rw [e, if_neg (show ¬ nI 10 = (32 : Int32) by decide), if_pos (show nI 10 = (10 : Int32) from rfl)]
theorem lx_r103 {J : mh_I} {z : Nat} {b : Nat → Nat} {p s F : Nat} (hz : z ≤ 160) (hb : ∀ i, i < z → b i < 256) (h1 : J 0 5 = nI z) (h8 : ∀ i, i < z → J 5 i = nI (b i)) (h17 : J 0 17 = nI p) (hps : p ≤ s) (hsz : s ≤ z) (hbl : ∀ i, p ≤ i → i < s → lxl (b i)) (hn : s < z → ¬ lxl (b s)) (hF : 1000 < F) (k : mh_I → Option mh_I) : ∃ J', X6_next_l103 k F J = k J' ∧ J' 0 17 = nI s ∧ ∀ a i, ¬ (a = 0 ∧ i = 17) → J' a i = J a i := by
  refine pl_up (fun f (_ : Int32) J => X6_next_l103 k f J) s (fun r => ∃ J', r = k J' ∧ J' 0 17 = nI s ∧ ∀ a i, ¬ (a = 0 ∧ i = 17) → J' a i = J a i) (fun j J' => p ≤ j ∧ J' 0 17 = nI j ∧ ∀ a i, ¬ (a = 0 ∧ i = 17) → J' a i = J a i) (fun f J' h => ?_) (fun f j J' hj h => ?_) F p J hps (by omega) ⟨Nat.le_refl _, h17, fun _ _ _ => rfl⟩
  · refine ⟨J', ?_, h.2.1, h.2.2⟩
    show X6_next_l103 k (f + 1) J' = k J'
    rw [X6_next_l103, h.2.2 0 5 (by omega), h1, h.2.1]
    by_cases c : s < z
    · rw [if_neg (nI_ge c (by omega)), px_ix (show s < 160 by omega) (by decide), h.2.2 5 s (by omega), h8 s c]
      rcases lx_isl (b s) (hb s c) with ⟨g, -⟩ | ⟨-, -, g⟩
      · exact absurd g (hn c)
      · rw [g, po_b, if_pos rfl]
    · rw [if_pos (nI_le (by omega) (by omega))]
  · left
    obtain ⟨g1, g2, g3⟩ := h
    refine ⟨mh_u J' 0 17 (nI (j + 1)), ⟨by omega, pu_s _ _ _ _, fun a i hai => (if_neg hai).trans (g3 a i hai)⟩, ?_⟩
    show X6_next_l103 k (f + 1) J' = X6_next_l103 k f _
    have e3 : nI j + (1 : Int32) = nI (j + 1) := nI_add j 1
    rw [X6_next_l103, g3 0 5 (by omega), h1, g2, if_neg (nI_ge (by omega) (by omega)), px_ix (show j < 160 by omega) (by decide), g3 5 j (by omega), h8 j (by omega), e3]
    rcases lx_isl (b j) (hb j (by omega)) with ⟨-, -, g⟩ | ⟨g, -⟩
    · rw [g, po_b, if_neg (by decide)]
    · exact absurd (hbl j g1 hj) g
theorem lx_r230 {J : mh_I} {z : Nat} {b : Nat → Nat} {s e F : Nat} (hz : z ≤ 160) (hb : ∀ i, i < z → b i < 256) (h1 : J 0 5 = nI z) (h8 : ∀ i, i < z → J 5 i = nI (b i)) (h17 : J 0 17 = nI s) (h20 : J 0 20 = 0) (hps : s ≤ e) (hsz : e ≤ z) (hbl : ∀ i, s ≤ i → i < e → lxd (b i)) (hn : e < z → ¬ lxd (b e)) (hF : 1000 < F) (k : Int32 → mh_I → Option mh_I) : ∃ J', X6_next_l230 k F 0 J = k (nI (e - s)) J' ∧ J' 0 17 = nI e ∧ (e - s ≤ 4 → J' 0 20 = nI (dv b s (e - s))) ∧ ∀ a i, ¬ (a = 0 ∧ (i = 17 ∨ i = 20)) → J' a i = J a i := by
  refine pl_up (fun f j J => X6_next_l230 k f j J) (e - s) (fun r => ∃ J', r = k (nI (e - s)) J' ∧ J' 0 17 = nI e ∧ (e - s ≤ 4 → J' 0 20 = nI (dv b s (e - s))) ∧ ∀ a i, ¬ (a = 0 ∧ (i = 17 ∨ i = 20)) → J' a i = J a i) (fun j J' => J' 0 17 = nI (s + j) ∧ (j ≤ 4 → J' 0 20 = nI (dv b s j)) ∧ ∀ a i, ¬ (a = 0 ∧ (i = 17 ∨ i = 20)) → J' a i = J a i) (fun f J' h => ?_) (fun f j J' hj h => ?_) F 0 J (by omega) (by omega) ⟨h17, fun _ => h20, fun _ _ _ => rfl⟩
  · obtain ⟨g1, g2, g3⟩ := h
    rw [show s + (e - s) = e by omega] at g1
    refine ⟨J', ?_, g1, g2, g3⟩
    show X6_next_l230 k (f + 1) (nI (e - s)) J' = k (nI (e - s)) J'
    rw [X6_next_l230, g3 0 5 (by omega), h1, g1]
    by_cases c : e < z
    · rw [if_neg (nI_ge c (by omega)), px_ix (show e < 160 by omega) (by decide), g3 5 e (by omega), h8 e c]
      rcases lx_isd (b e) (hb e c) with ⟨g, -⟩ | ⟨-, -, g⟩
      · exact absurd g (hn c)
      · rw [g, po_b, if_pos rfl]
    · rw [if_pos (nI_le (by omega) (by omega))]
  · left
    obtain ⟨g1, g2, g3⟩ := h
    have hd := hbl (s + j) (by omega) (by omega)
    have e3 : nI (s + j) + (1 : Int32) = nI (s + (j + 1)) := nI_add (s + j) 1
    have e4 : nI j + (1 : Int32) = nI (j + 1) := nI_add j 1
    have fin : ∀ x : Int32, (j + 1 ≤ 4 → x = nI (dv b s (j + 1))) → ∃ s' : mh_I, (s' 0 17 = nI (s + (j + 1)) ∧ (j + 1 ≤ 4 → s' 0 20 = nI (dv b s (j + 1))) ∧ ∀ a i, ¬ (a = 0 ∧ (i = 17 ∨ i = 20)) → s' a i = J a i) ∧ X6_next_l230 k f (nI (j + 1)) (mh_u (mh_u J' 0 20 x) 0 17 (((mh_u J' 0 20 x) 0 17) + (1 : Int32))) = X6_next_l230 k f (nI (j + 1)) s' := by
      intro x hx
      refine ⟨_, ⟨?_, fun h4 => ?_, fun a i hai => ?_⟩, rfl⟩
      · rw [pu_s, pu_k (by decide), g1, e3]
      · rw [pu_k (by decide), pu_s, hx h4]
      · rw [show mh_u (mh_u J' 0 20 x) 0 17 _ a i = mh_u J' 0 20 x a i from if_neg (by omega), show mh_u J' 0 20 x a i = J' a i from if_neg (by omega), g3 a i hai]
    show ∃ s' : mh_I, _ ∧ X6_next_l230 k (f + 1) (nI j) J' = X6_next_l230 k f (nI (j + 1)) s'
    rw [X6_next_l230, g3 0 5 (by omega), h1, g1, if_neg (nI_ge (by omega) (by omega)), px_ix (show s + j < 160 by omega) (by decide), g3 5 _ (by omega), h8 _ (by omega)]
    rcases lx_isd (b (s + j)) (hb _ (by omega)) with ⟨-, -, g⟩ | ⟨g, -⟩
    · rw [g, po_b, if_neg (by decide), pj_j, px_ix (show s + j < 160 by omega) (by decide)]
      simp only [pj_b, e4]
      by_cases c : 4 ≤ j
      · rw [if_pos (show (4 : Int32) ≤ nI j from (nI_le c (by omega) : nI 4 ≤ nI j))]
        exact fin 0 (fun hh => by omega)
      · rw [if_neg (show ¬ (4 : Int32) ≤ nI j from (nI_ge (by omega) (by omega) : ¬ nI 4 ≤ nI j))]
        refine fin _ (fun hh => ?_)
        unfold lxd at hd
        rw [g2 (by omega), g3 5 _ (by omega), h8 _ (by omega), pn_mr, nI_add, dv]
        rw [pn_sl (by omega)]
        congr 1
        omega
    · exact absurd hd g
