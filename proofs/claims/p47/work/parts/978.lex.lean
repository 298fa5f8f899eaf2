/-! PURE: the reader's tokens -/
def wC : List Nat := [32, 114, 117, 98, 32, 109, 105, 110, 117, 116, 101, 115, 32, 115, 101, 101, 110, 32, 111, 114, 32, 97, 110, 100, 32, 110, 111, 116, 32, 114, 111, 119, 32, 112, 108, 97, 99, 101, 32, 109, 111, 114, 101, 32, 112, 117, 108, 108, 32, 102, 97, 99, 101, 32, 109, 101, 110, 100, 101, 100, 32]
def wL : List (List Nat) := [[114, 117, 98], [109, 105, 110, 117, 116, 101, 115], [115, 101, 101, 110], [111, 114], [97, 110, 100], [110, 111, 116], [114, 111, 119], [112, 108, 97, 99, 101], [109, 111, 114, 101], [112, 117, 108, 108], [102, 97, 99, 101], [109, 101, 110, 100, 101, 100]]
def wP : List Nat := [0, 1, 2, 6, 7, 8, 9, 10, 11, 3, 4, 5]
theorem wc_len : J0_length_8abf5 1 = some (nI 61) := by decide +kernel
theorem wc_at : ∀ u, u < 61 → J0_charAt_5068e 1 (nI u) = some (nI (wC.getD u 0)) := by decide +kernel
def wcn (j : Nat) : Nat := (wC.take j).count 32
theorem wc_t : ∀ j, j < 61 → wC.getD j 0 = 32 → (wcn j < 12 ∧ (wL.getD (wcn j) []).length ≤ 7 ∧ j + 1 + (wL.getD (wcn j) []).length < 61 ∧ wC.getD (j + 1 + (wL.getD (wcn j) []).length) 0 = 32 ∧ ∀ i, i < (wL.getD (wcn j) []).length → wC.getD (j + 1 + i) 0 = (wL.getD (wcn j) []).getD i 0 ∧ 97 ≤ (wL.getD (wcn j) []).getD i 0) ∨ wcn j = 12 ∧ j + 1 = 61 := by decide +kernel
theorem wc_s : ∀ j, j < 61 → wcn (j + 1) = wcn j + (if wC.getD j 0 = 32 then 1 else 0) := by decide +kernel
theorem wc_n : ∀ j, j < 62 → wcn j ≤ 13 := by decide +kernel
theorem wc_b : ∀ j, j < 61 → wC.getD j 0 < 256 := by decide +kernel
def wsq (b : Nat → Nat) (s n : Nat) (w : List Nat) : Prop := n = w.length ∧ ∀ i, i < n → b (s + i) = w.getD i 0
theorem ws_un : ∀ k, k < 12 → ∀ k', k' < 12 → (wL.getD k []).length = (wL.getD k' []).length → (∀ i, i < (wL.getD k []).length → (wL.getD k []).getD i 0 = (wL.getD k' []).getD i 0) → k = k' := by decide +kernel
theorem ws_r : ∀ u, u < 12 → wP.getD u 0 < 12 ∧ (wL.getD (wP.getD u 0) []).length ≤ 8 ∧ ∀ i, i < 8 → wT.getD (8 * u + i) 0 = if i < (wL.getD (wP.getD u 0) []).length then nI ((wL.getD (wP.getD u 0) []).getD i 0) else 32 := by decide +kernel
theorem ws_l : ∀ u, u < 12 → ∀ i, i < (wL.getD (wP.getD u 0) []).length → 97 ≤ (wL.getD (wP.getD u 0) []).getD i 0 ∧ (wL.getD (wP.getD u 0) []).getD i 0 < 123 := by decide +kernel
theorem ws_sur : ∀ k, k < 12 → ∃ u, u < 12 ∧ wP.getD u 0 = k := by decide +kernel
theorem scan_ex (P : Nat → Prop) (z : Nat) : ∀ d p, z - p ≤ d → p ≤ z → ∃ q, p ≤ q ∧ q ≤ z ∧ (∀ i, p ≤ i → i < q → P i) ∧ (q < z → ¬ P q) := by
  intro d
  induction d with
  | zero => intro p h1 h2; exact ⟨p, by omega, by omega, fun i a c => by omega, fun h => by omega⟩
  | succ d ih =>
    intro p h1 h2
    by_cases c : p < z ∧ P p
    · obtain ⟨q, q1, q2, q3, q4⟩ := ih (p + 1) (by omega) (by omega)
      refine ⟨q, by omega, q2, fun i a e => ?_, q4⟩
      by_cases hi : i = p
      · subst hi; exact c.2
      · exact q3 i (by omega) e
    · exact ⟨p, by omega, h2, fun i a e => by omega, fun h hp => c ⟨h, hp⟩⟩
theorem lx_st {I : mh_I} {z : Nat} {b : Nat → Nat} {s e p : Nat} (hz : z ≤ 160) (hb : ∀ i, i < z → b i < 256) (h8 : ∀ i, i < z → I 8 i = nI (b i)) (h3 : I 7 3 = nI s) (hse : s ≤ e) (hez : e ≤ z) (hp : p ≤ 62) : ((p + (e - s) < 61 ∧ wC.getD (p + (e - s)) 0 = 32 ∧ ∀ i, i < e - s → wC.getD (p + i) 0 = b (s + i)) ∧ X3_standsAt (nI p) (nI e) I = some 1) ∨ (¬ (p + (e - s) < 61 ∧ wC.getD (p + (e - s)) 0 = 32 ∧ ∀ i, i < e - s → wC.getD (p + i) 0 = b (s + i)) ∧ X3_standsAt (nI p) (nI e) I = some 0) := by
  obtain ⟨F, hF, eF⟩ := fuel_ex
  unfold X3_standsAt
  rw [eF, h3, pk_sub hse, pj_b, wc_len, po_b, nI_add]
  by_cases c1 : p + (e - s) < 61
  · rw [if_neg (nI_ge c1 (by omega)), wc_at _ c1, po_b]
    have hw := wc_b _ c1
    by_cases c2 : wC.getD (p + (e - s)) 0 = 32
    · rw [if_pos (show nI (wC.getD (p + (e - s)) 0) = (32 : Int32) by rw [c2]; rfl)]
      have key := pl_up (fun f j (_ : Unit) => X3_standsAt_l36 (nI p) (nI (e - s)) I f j) (e - s) (fun r => ((∀ i, i < e - s → wC.getD (p + i) 0 = b (s + i)) ∧ r = some 1) ∨ (¬ (∀ i, i < e - s → wC.getD (p + i) 0 = b (s + i)) ∧ r = some 0)) (fun t _ => ∀ i, i < t → wC.getD (p + i) 0 = b (s + i)) (fun f _ h => ?_) (fun f t _ ht h => ?_) F 0 () (by omega) (by omega) (fun i h => by omega)
      · rcases key with ⟨k1, k2⟩ | ⟨k1, k2⟩
        · exact .inl ⟨⟨c1, c2, k1⟩, k2⟩
        · exact .inr ⟨fun h => k1 h.2.2, k2⟩
      · left
        refine ⟨h, ?_⟩
        show X3_standsAt_l36 (nI p) (nI (e - s)) I (f + 1) (nI (e - s)) = _
        rw [X3_standsAt_l36, if_pos (Int32.le_refl _)]
      · show (∃ s', _ ∧ X3_standsAt_l36 (nI p) (nI (e - s)) I (f + 1) (nI t) = X3_standsAt_l36 (nI p) (nI (e - s)) I f (nI (t + 1))) ∨ _ ∧ X3_standsAt_l36 (nI p) (nI (e - s)) I (f + 1) (nI t) = _ ∨ _ ∧ X3_standsAt_l36 (nI p) (nI (e - s)) I (f + 1) (nI t) = _
        rw [X3_standsAt_l36, if_neg (nI_ge ht (by omega)), nI_add, wc_at _ (by omega), po_b, h3, nI_add, px_ix (show s + t < 160 by omega) (by decide)]
        have hw2 := wc_b (p + t) (by omega)
        have hb2 := hb (s + t) (by omega)
        rw [h8 _ (by omega)]
        by_cases c3 : wC.getD (p + t) 0 = b (s + t)
        · left
          refine ⟨(), fun i hi => ?_, ?_⟩
          · by_cases hit : i = t
            · subst hit; exact c3
            · exact h i (by omega)
          · rw [c3, if_pos rfl, pj_b, show nI t + (1 : Int32) = nI (t + 1) from nI_add t 1]
        · right; right
          refine ⟨fun hh => c3 (hh t ht), ?_⟩
          rw [if_neg (fun hh => c3 ((nI_eq (by omega) (by omega)).mp hh))]
    · right
      refine ⟨fun hh => c2 hh.2.1, ?_⟩
      rw [if_neg (show ¬ nI (wC.getD (p + (e - s)) 0) = (32 : Int32) from fun hh => c2 ((nI_eq (by omega) (by decide)).mp (show nI _ = nI 32 from hh)))]
  · right
    refine ⟨fun hh => c1 hh.1, ?_⟩
    rw [if_pos (nI_le (by omega) (by omega))]
theorem lx_wt {I : mh_I} {z : Nat} {b : Nat → Nat} {s e : Nat} (hz : z ≤ 160) (hb : ∀ i, i < z → b i < 256) (h8 : ∀ i, i < z → I 8 i = nI (b i)) (h3 : I 7 3 = nI s) (hse : s ≤ e) (hez : e ≤ z) (hl : ∀ i, s ≤ i → i < e → 97 ≤ b i) : (∃ k, k < 12 ∧ wsq b s (e - s) (wL.getD k []) ∧ X3_wordToken (nI e) I = some (nI (300 + k))) ∨ ((∀ k, k < 12 → ¬ wsq b s (e - s) (wL.getD k [])) ∧ X3_wordToken (nI e) I = some 1) := by
  obtain ⟨F, hF, eF⟩ := fuel_ex
  unfold X3_wordToken
  rw [eF]
  refine pl_up (fun f j s => X3_wordToken_l6 (nI e) I f s j) 61 (fun r => (∃ k, k < 12 ∧ wsq b s (e - s) (wL.getD k []) ∧ r = some (nI (300 + k))) ∨ ((∀ k, k < 12 → ¬ wsq b s (e - s) (wL.getD k [])) ∧ r = some 1)) (fun j u => u = nI (300 + wcn j) ∧ ∀ k, k < wcn j → k < 12 → ¬ wsq b s (e - s) (wL.getD k [])) (fun f u h => ?_) (fun f j u hj h => ?_) F 0 (300 : Int32) (by omega) (by omega) ⟨rfl, fun k h => by exact absurd h (by decide +revert)⟩
  · right
    refine ⟨fun k hk => h.2 k (by rw [show wcn 61 = 13 by decide +kernel]; omega) hk, ?_⟩
    show X3_wordToken_l6 (nI e) I (f + 1) u (nI 61) = _
    rw [X3_wordToken_l6, wc_len, po_b, if_pos (Int32.le_refl _)]
  · obtain ⟨rfl, h2⟩ := h
    have hn := wc_n j (by omega)
    show (∃ s', _ ∧ X3_wordToken_l6 (nI e) I (f + 1) (nI (300 + wcn j)) (nI j) = X3_wordToken_l6 (nI e) I f s' (nI (j + 1))) ∨ ((∃ k, _ ∧ _ ∧ X3_wordToken_l6 (nI e) I (f + 1) (nI (300 + wcn j)) (nI j) = _) ∨ (_ ∧ X3_wordToken_l6 (nI e) I (f + 1) (nI (300 + wcn j)) (nI j) = _))
    rw [X3_wordToken_l6, wc_len, po_b, if_neg (nI_ge hj (by omega)), wc_at _ hj, po_b, pj_j]
    have hb1 := wc_b j hj
    have hsn := wc_s j hj
    have e1 : nI j + (1 : Int32) = nI (j + 1) := nI_add j 1
    have e2 : nI (300 + wcn j) + (1 : Int32) = nI (300 + (wcn j + 1)) := nI_add (300 + wcn j) 1
    by_cases c : wC.getD j 0 = 32
    · rw [if_pos c] at hsn
      rw [if_pos (show nI (wC.getD j 0) = (32 : Int32) by rw [c]; rfl), e1]
      have tab := wc_t j hj c
      rcases lx_st (p := j + 1) hz hb h8 h3 hse hez (by omega) with ⟨⟨k1, k2, k3⟩, k4⟩ | ⟨k1, k4⟩
      · right; left
        rw [k4, po_b, if_neg (by decide)]
        rcases tab with ⟨t1, t2, t3, t4, t5⟩ | ⟨t1, t2⟩
        · refine ⟨wcn j, t1, ?_, rfl⟩
          have hlen : e - s = (wL.getD (wcn j) []).length := by
            rcases Nat.lt_trichotomy (e - s) (wL.getD (wcn j) []).length with q | q | q
            · have := t5 _ q
              omega
            · exact q
            · have := k3 _ q
              have := hl (s + (wL.getD (wcn j) []).length) (by omega) (by omega)
              omega
          refine ⟨hlen, fun i hi => ?_⟩
          have := k3 i hi
          have := t5 i (by omega)
          omega
        · omega
      · left
        rw [k4, po_b, if_pos rfl, pj_b]
        refine ⟨nI (300 + (wcn j + 1)), ⟨by rw [hsn], fun k hk hk2 hw => ?_⟩, ?_⟩
        · by_cases hkk : k = wcn j
          · subst hkk
            rcases tab with ⟨t1, t2, t3, t4, t5⟩ | ⟨t1, t2⟩
            · refine k1 ⟨by rw [hw.1]; exact t3, by rw [hw.1]; exact t4, fun i hi => ?_⟩
              rw [(t5 i (by rw [← hw.1]; exact hi)).1, hw.2 i hi]
            · omega
          · exact h2 k (by omega) hk2 hw
        · rw [e2]
          dsimp only
          rw [pj_b]
    · left
      rw [if_neg c] at hsn
      rw [if_neg (show ¬ nI (wC.getD j 0) = (32 : Int32) from fun hh => c ((nI_eq (by omega) (by decide)).mp (show nI _ = nI 32 from hh)))]
      dsimp only
      rw [pj_b, e1]
      exact ⟨_, ⟨by rw [hsn]; rfl, fun k hk hk2 => h2 k (by omega) hk2⟩, rfl⟩
theorem lx_wf {J : mh_I} {z : Nat} {b : Nat → Nat} {s e : Nat} (hz : z ≤ 160) (hb : ∀ i, i < z → b i < 256) (h5 : ∀ i, i < z → J 5 i = nI (b i)) (hw : Rwords J) (hse : s ≤ e) (hez : e ≤ z) (hl : ∀ i, s ≤ i → i < e → 97 ≤ b i) : (∃ u, u < 12 ∧ wsq b s (e - s) (wL.getD (wP.getD u 0) []) ∧ X6_wordFrom (nI s) (nI e) J = some (nI u)) ∨ ((∀ k, k < 12 → ¬ wsq b s (e - s) (wL.getD k [])) ∧ X6_wordFrom (nI s) (nI e) J = some 12) := by
  obtain ⟨F, hF, eF⟩ := fuel_ex
  unfold X6_wordFrom
  rw [eF]
  refine pl_up (fun f j (_ : Unit) => X6_wordFrom_l2 (nI s) (nI e) J f j) 12 (fun r => (∃ u, u < 12 ∧ wsq b s (e - s) (wL.getD (wP.getD u 0) []) ∧ r = some (nI u)) ∨ ((∀ k, k < 12 → ¬ wsq b s (e - s) (wL.getD k [])) ∧ r = some 12)) (fun j _ => ∀ u, u < j → u < 12 → ¬ wsq b s (e - s) (wL.getD (wP.getD u 0) [])) (fun f _ h => ?_) (fun f u _ hu h => ?_) F 0 () (by omega) (by omega) (fun u h => by omega)
  · right
    refine ⟨fun k hk => ?_, ?_⟩
    · obtain ⟨u, u1, rfl⟩ := ws_sur k hk
      exact h u u1 u1
    · show X6_wordFrom_l2 (nI s) (nI e) J (f + 1) (nI 12) = _
      rw [X6_wordFrom_l2, if_pos (show (12 : Int32) ≤ nI 12 by decide)]
  · obtain ⟨r1, r2, r3⟩ := ws_r u hu
    have r4 := ws_l u hu
    show (∃ s', _ ∧ X6_wordFrom_l2 (nI s) (nI e) J (f + 1) (nI u) = X6_wordFrom_l2 (nI s) (nI e) J f (nI (u + 1))) ∨ ((∃ k, _ ∧ _ ∧ X6_wordFrom_l2 (nI s) (nI e) J (f + 1) (nI u) = _) ∨ (_ ∧ X6_wordFrom_l2 (nI s) (nI e) J (f + 1) (nI u) = _))
    have e0 : X6_wordFrom_l2 (nI s) (nI e) J (f + 1) (nI u) = X6_wordFrom_l26 (nI s) (nI e) (nI u) J (fun (v17 : Int32) => if v17 = 0 then X6_wordFrom_l2 (nI s) (nI e) J f (nI (u + 1)) else some (nI u)) F (if 8 < e - s then 0 else 1) (nI 0) := by
      rw [X6_wordFrom_l2, if_neg (show ¬ (12 : Int32) ≤ nI u from (nI_ge hu (by omega) : ¬ nI 12 ≤ nI u)), pk_sub hse, pj_j, eF]
      dsimp only
      have e1 : nI u + (1 : Int32) = nI (u + 1) := nI_add u 1
      simp only [pj_b, e1]
      by_cases c : 8 < e - s
      · rw [if_pos (show (8 : Int32) < nI (e - s) from (nI_lt c (by omega) : nI 8 < nI (e - s))), if_pos c]; rfl
      · rw [if_neg (show ¬ (8 : Int32) < nI (e - s) from (nI_nlt (by omega) (by omega) : ¬ nI 8 < nI (e - s))), if_neg c]; rfl
    have hiff : wsq b s (e - s) (wL.getD (wP.getD u 0) []) ↔ (e - s ≤ 8 ∧ ∀ i, i < 8 → wT.getD (8 * u + i) 0 = if i < e - s then nI (b (s + i)) else 32) := by
      constructor
      · rintro ⟨w1, w2⟩
        refine ⟨by omega, fun i hi => ?_⟩
        rw [r3 i hi, ← w1]
        by_cases c : i < e - s
        · rw [if_pos c, if_pos c, w2 i c]
        · rw [if_neg c, if_neg c]
      · rintro ⟨w1, w2⟩
        have hlen : e - s = (wL.getD (wP.getD u 0) []).length := by
          rcases Nat.lt_trichotomy (e - s) (wL.getD (wP.getD u 0) []).length with q | q | q
          · have a1 := w2 (e - s) (by omega)
            rw [r3 _ (by omega), if_pos q, if_neg (Nat.lt_irrefl _)] at a1
            have a2 := r4 _ q
            have := (nI_eq (by omega) (by decide)).mp (show nI _ = nI 32 from a1)
            omega
          · exact q
          · have a1 := w2 (wL.getD (wP.getD u 0) []).length (by omega)
            rw [r3 _ (by omega), if_neg (Nat.lt_irrefl _), if_pos q] at a1
            have a2 := hl (s + (wL.getD (wP.getD u 0) []).length) (by omega) (by omega)
            have a3 := hb (s + (wL.getD (wP.getD u 0) []).length) (by omega)
            have := (nI_eq (by decide) (by omega)).mp (show nI 32 = nI _ from a1)
            omega
        refine ⟨hlen, fun i hi => ?_⟩
        have a1 := w2 i (by omega)
        rw [r3 _ (by omega), if_pos (by omega), if_pos hi] at a1
        have a2 := r4 i (by omega)
        have a3 := hb (s + i) (by omega)
        exact ((nI_eq (by omega) (by omega)).mp a1).symm
    have key : (wsq b s (e - s) (wL.getD (wP.getD u 0) []) ∧ X6_wordFrom_l2 (nI s) (nI e) J (f + 1) (nI u) = some (nI u)) ∨ (¬ wsq b s (e - s) (wL.getD (wP.getD u 0) []) ∧ X6_wordFrom_l2 (nI s) (nI e) J (f + 1) (nI u) = X6_wordFrom_l2 (nI s) (nI e) J f (nI (u + 1))) := by
      rw [e0]
      refine pl_up (fun g j v => X6_wordFrom_l26 (nI s) (nI e) (nI u) J (fun (v17 : Int32) => if v17 = 0 then X6_wordFrom_l2 (nI s) (nI e) J f (nI (u + 1)) else some (nI u)) g v j) 8 (fun r => (wsq b s (e - s) (wL.getD (wP.getD u 0) []) ∧ r = some (nI u)) ∨ (¬ wsq b s (e - s) (wL.getD (wP.getD u 0) []) ∧ r = X6_wordFrom_l2 (nI s) (nI e) J f (nI (u + 1)))) (fun t v => (v = 1 ∧ e - s ≤ 8 ∧ ∀ i, i < t → wT.getD (8 * u + i) 0 = if i < e - s then nI (b (s + i)) else 32) ∨ (v = 0 ∧ ¬ (e - s ≤ 8 ∧ ∀ i, i < 8 → wT.getD (8 * u + i) 0 = if i < e - s then nI (b (s + i)) else 32))) (fun g v hv => ?_) (fun g t v ht hv => ?_) F 0 _ (by omega) (by omega) ?_
      · show (_ ∧ X6_wordFrom_l26 (nI s) (nI e) (nI u) J _ (g + 1) v (nI 8) = _) ∨ (_ ∧ X6_wordFrom_l26 (nI s) (nI e) (nI u) J _ (g + 1) v (nI 8) = _)
        rw [X6_wordFrom_l26, if_pos (show (8 : Int32) ≤ nI 8 by decide)]
        rcases hv with ⟨rfl, v2, v3⟩ | ⟨rfl, v2⟩
        · exact .inl ⟨hiff.mpr ⟨v2, v3⟩, if_neg (by decide)⟩
        · exact .inr ⟨fun hh => v2 (hiff.mp hh), if_pos rfl⟩
      · show (∃ s', _ ∧ X6_wordFrom_l26 (nI s) (nI e) (nI u) J _ (g + 1) v (nI t) = X6_wordFrom_l26 (nI s) (nI e) (nI u) J _ g s' (nI (t + 1))) ∨ ((_ ∧ X6_wordFrom_l26 (nI s) (nI e) (nI u) J _ (g + 1) v (nI t) = _) ∨ (_ ∧ X6_wordFrom_l26 (nI s) (nI e) (nI u) J _ (g + 1) v (nI t) = _))
        rw [X6_wordFrom_l26, if_neg (show ¬ (8 : Int32) ≤ nI t from (nI_ge ht (by omega) : ¬ nI 8 ≤ nI t))]
        rcases hv with ⟨rfl, v2, v3⟩ | ⟨rfl, v2⟩
        · left
          rw [if_neg (by decide), pn_mr, nI_add, px_ix (show 8 * u + t < 96 by omega) (by decide), pj_j, nI_add]
          have hb2 : s + t < e → b (s + t) < 256 := fun h => hb _ (by omega)
          have e3 : nI t + (1 : Int32) = nI (t + 1) := nI_add t 1
          have step : ∀ x : Int32, (x = if t < e - s then nI (b (s + t)) else 32) → (∃ s', ((s' = 1 ∧ e - s ≤ 8 ∧ ∀ i, i < t + 1 → wT.getD (8 * u + i) 0 = if i < e - s then nI (b (s + i)) else 32) ∨ (s' = 0 ∧ ¬ (e - s ≤ 8 ∧ ∀ i, i < 8 → wT.getD (8 * u + i) 0 = if i < e - s then nI (b (s + i)) else 32))) ∧ (s' : Int32) = if J 13 (8 * u + t) = x then 1 else 0) := by
            intro x hx
            rw [hw _ (by omega)]
            by_cases c : wT.getD (8 * u + t) 0 = x
            · refine ⟨1, .inl ⟨rfl, v2, fun i hi => ?_⟩, (if_pos c).symm⟩
              by_cases hit : i = t
              · subst hit; rw [c, hx]
              · exact v3 i (by omega)
            · exact ⟨0, .inr ⟨rfl, fun hh => c (by rw [hx]; exact hh.2 t ht)⟩, (if_neg c).symm⟩
          by_cases c : t < e - s
          · rw [if_neg (nI_ge (show s + t < e by omega) (by omega)), px_ix (show s + t < 160 by omega) (by decide), h5 _ (by omega)]
            obtain ⟨s', k1, k2⟩ := step (nI (b (s + t))) (if_pos c).symm
            refine ⟨s', k1, ?_⟩
            dsimp only
            rw [pj_j]
            simp only [pj_b, e3]
            rw [k2]
            split <;> rfl
          · rw [if_pos (nI_le (show e ≤ s + t by omega) (by omega))]
            obtain ⟨s', k1, k2⟩ := step 32 (if_neg c).symm
            refine ⟨s', k1, ?_⟩
            dsimp only
            rw [pj_j]
            simp only [pj_b, e3]
            rw [k2]
            split <;> rfl
        · right; right
          refine ⟨fun hh => v2 (hiff.mp hh), ?_⟩
          rw [if_pos rfl]
          exact if_pos rfl
      · by_cases c : 8 < e - s
        · right
          exact ⟨if_pos c, fun hh => by omega⟩
        · left
          exact ⟨if_neg c, by omega, fun i h => by omega⟩
    rcases key with ⟨k1, k2⟩ | ⟨k1, k2⟩
    · exact .inr (.inl ⟨u, hu, k1, k2⟩)
    · left
      refine ⟨(), fun k hk hk2 => ?_, k2⟩
      by_cases hku : k = u
      · subst hku; exact k1
      · exact h k (by omega) hk2
