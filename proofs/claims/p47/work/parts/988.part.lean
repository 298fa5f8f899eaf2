/-! PURE: one part of a text -/
def RT (n : Nat) (J : mh_I) (p : Nat) (O : List Nat) : Prop := J 0 17 = nI p ∧ J 0 25 = nI O.length ∧ (∀ j, j < O.length → J 6 (200 * n + j) = nI (O.getD j 0)) ∧ O.length ≤ p
def TF (n : Nat) (J J' : mh_I) : Prop := ∀ a i, ¬ (a = 0 ∧ 17 ≤ i ∧ i ≤ 25) → a ≠ 14 → ¬ (a = 6 ∧ 200 * n ≤ i) → ¬ (a = 7 ∧ 4 * n ≤ i) → J' a i = J a i
def C2 (tx : Nat) (I I' : mh_I) : Prop := ∀ a i, ¬ (a = 7 ∧ 2 ≤ i ∧ i ≤ 5) → ¬ (a = tx ∧ i = 1) → a ≠ tx + 1 → a ≠ tx + 2 → I' a i = I a i
theorem BS_fr {n z : Nat} {b : Nat → Nat} {J J' : mh_I} (h : BS n z b J) (hf : TF n J J') : BS n z b J' := by
  obtain ⟨B1, B2, B3, B4, B5, B6, B7⟩ := h
  exact ⟨B1, B2, B3, (hf 0 5 (by omega) (by omega) (by omega) (by omega)).trans B4, fun i hi => (hf 5 i (by omega) (by omega) (by omega) (by omega)).trans (B5 i hi), fun k hk => (hf 13 k (by omega) (by omega) (by omega) (by omega)).trans (B6 k hk), (hf 0 8 (by omega) (by omega) (by omega) (by omega)).trans B7⟩
theorem BI_fr {tx z : Nat} {b : Nat → Nat} {I I' : mh_I} (h : BI tx z b I) (hf : C2 tx I I') : BI tx z b I' := by
  obtain ⟨B1, B2, B3, B4, B5⟩ := h
  exact ⟨B1, B2, B3, (hf 7 1 (by omega) (by omega) (by omega) (by omega)).trans B4, fun i hi => (hf 8 i (by omega) (by omega) (by omega) (by omega)).trans (B5 i hi)⟩
theorem TF_r (n : Nat) (J : mh_I) : TF n J J := fun _ _ _ _ _ _ => rfl
theorem TF_t {n : Nat} {J J' J'' : mh_I} (h : TF n J J') (h2 : TF n J' J'') : TF n J J'' := fun a i g1 g2 g3 g4 => (h2 a i g1 g2 g3 g4).trans (h a i g1 g2 g3 g4)
theorem C2_t {tx : Nat} {I I' I'' : mh_I} (h : C2 tx I I') (h2 : C2 tx I' I'') : C2 tx I I'' := fun a i g1 g2 g3 g4 => (h2 a i g1 g2 g3 g4).trans (h a i g1 g2 g3 g4)
theorem rt_3 {t q : Nat} (ht : t < 312) (h : t ≤ 2 ∨ 40 ≤ t ∧ t ≤ 61 ∨ 300 ≤ t) (hq : q < 3) {x : Int32} (hx : 300 ≤ t → t < 303 → x = nI (t - 300)) : (rtk t = 3 ∧ x = nI q) ↔ t = 300 + q := by
  have := rt_c t ht h
  constructor
  · rintro ⟨h1, h2⟩
    have h3 := this.mp h1
    rw [hx h3.1 h3.2] at h2
    have := (nI_eq (by omega) (by omega)).mp h2
    omega
  · intro hh
    refine ⟨this.mpr (by omega), ?_⟩
    rw [hx (by omega) (by omega)]
    exact congrArg nI (by omega)
theorem t_part {tx z n q : Nat} {b : Nat → Nat} {I J : mh_I} {p s e t v : Nat} {O : List Nat} (hBI : BI tx z b I) (hBS : BS n z b J) (hq : q < 3) (hC : CS tx z b I I p s e t v O) (hR : RT n J p O) (k90 : mh_I → Option (Int32 × mh_I × (Option Nat))) (k101 : Int32 → mh_I → Option (Int32 × mh_I)) (f g : Nat) : (∃ I' s' J', X3_readInto_l23 tx k90 (f + 1) (nI q) I = some (nI s', I', some tx) ∧ C2 tx I I' ∧ X6_text_l26 k101 (g + 1) 1 (nI q) J = X6_text_l26 k101 g 0 (nI (q + 1)) J' ∧ J' 0 18 = nI s' ∧ s' ≤ z ∧ TF n J J') ∨ (∃ I' J' p' s' e' t' v' E, X3_readInto_l23 tx k90 (f + 1) (nI q) I = X3_readInto_l23 tx k90 f (nI (q + 1)) I' ∧ CS tx z b I' I' p' s' e' t' v' (O ++ E) ∧ C2 tx I I' ∧ I' (tx + 2) q = nI (O ++ E).length ∧ (∀ i, i ≠ q → I' (tx + 2) i = I (tx + 2) i) ∧ X6_text_l26 k101 (g + 1) 1 (nI q) J = X6_text_l26 k101 g 1 (nI (q + 1)) J' ∧ RT n J' p' (O ++ E) ∧ TF n J J' ∧ J' 7 (4 * n + q) = nI O.length ∧ (∀ i, i ≠ 4 * n + q → J' 7 i = J 7 i) ∧ wl E 0 1) := by
  obtain ⟨F, hF, eF⟩ := fuel_ex
  have hx := hC.2.2.2.2.1
  obtain ⟨l1, l2, l3, l4, l5, l6⟩ := lx_le hx
  have hz := hBS.2.1
  have hn := hBS.1
  have htx := hBI.1
  obtain ⟨R1, R2, R3, R4⟩ := hR
  obtain ⟨J1, k1, k2, k3, k4, k5, k6, k7, k8⟩ := lx_ref (J := J) hBS.2.1 hBS.2.2.1 hBS.2.2.2.1 hBS.2.2.2.2.1 hBS.2.2.2.2.2.1 R1 hx
  have e1 : nI q + (1 : Int32) = nI (q + 1) := nI_add q 1
  have hsl : (4 : Int32) * (J1 0 8) + nI q = nI (4 * n + q) := by
    rw [k8 0 8 (by omega), hBS.2.2.2.2.2.2, pn_mr, nI_add]
  have h25 : J1 0 25 = nI O.length := (k8 0 25 (by omega)).trans R2
  obtain ⟨JA, hJA⟩ : ∃ JA, JA = mh_u J1 7 (4 * n + q) (nI O.length) := ⟨_, rfl⟩
  have hJA7 : JA 7 (4 * n + q) = nI O.length := by rw [hJA, pu_s]
  have hJAf : ∀ a i, ¬ (a = 0 ∧ 17 ≤ i ∧ i ≤ 20) → ¬ (a = 7 ∧ i = 4 * n + q) → JA a i = J a i := fun a i g1 g2 => by
    rw [hJA, show mh_u J1 7 (4 * n + q) (nI O.length) a i = J1 a i from if_neg g2, k8 a i g1]
  have hJA0 : ∀ i, JA 0 i = J1 0 i := fun i => by rw [hJA, pu_a (by decide)]
  have hTA : TF n J JA := fun a i g1 g2 g3 g4 => hJAf a i (by omega) (by omega)
  have baseR : X6_text_l26 k101 (g + 1) 1 (nI q) J = (if t = 300 + q then (X6_eRead JA).bind (fun q14 => if q14.1 = 0 then X6_text_l26 k101 g 0 (nI (q + 1)) q14.2 else X6_text_l26 k101 g 1 (nI (q + 1)) q14.2) else X6_text_l26 k101 g 0 (nI (q + 1)) JA) := by
    rw [X6_text_l26, if_neg (show ¬ (3 : Int32) ≤ nI q from (nI_ge hq (by omega) : ¬ nI 3 ≤ nI q)), if_neg (by decide), k1, po_b]
    simp only [pj_j, pj_b, e1]
    rw [hsl]
    have ix : ∀ fn : Nat → Option (Int32 × mh_I), mh_ix (nI (4 * n + q)) 24 fn = fn (4 * n + q) := fun fn => px_ix (by omega) (by decide) fn
    simp only [ix, h25, ← hJA]
    have hiff := rt_3 (q := q) (x := J1 0 20) (t := t) (by omega) (by omega) hq k6
    rw [k4]
    by_cases c : t = 300 + q
    · obtain ⟨y1, y2⟩ := hiff.mpr c
      rw [if_pos y1, if_pos y2, if_pos c, if_neg (by decide)]
    · rw [if_neg c]
      by_cases y1 : rtk t = 3
      · rw [if_pos y1, if_neg (fun y2 => c (hiff.mp ⟨y1, y2⟩)), if_pos trivial]
      · rw [if_neg y1, if_pos trivial]
  rw [baseR]
  have baseC : X3_readInto_l23 tx k90 (f + 1) (nI q) I = (if t = 300 + q then (X3_advance I).bind (fun q4 => (X3_grp tx 80 0 (0 : Int32) (0 : Int32) q4).bind (fun q5 => if q5.1 = 0 then some ((q5.2 7 3), q5.2, (some tx)) else if (q5.2 7 4) = (59 : Int32) then (X4_endPart tx (nI q) q5.2).bind (fun q6 => (X3_advance q6).bind (fun q7 => X3_readInto_l23 tx k90 f (nI (q + 1)) q7)) else some ((q5.2 7 3), q5.2, (some tx)))) else some (nI s, I, some tx)) := by
    rw [X3_readInto_l23, if_neg (show ¬ (3 : Int32) ≤ nI q from (nI_ge hq (by omega) : ¬ nI 3 ≤ nI q)), hC.2.2.1, pn_ar]
    simp only [pj_b, e1]
    by_cases c : t = 300 + q
    · rw [if_pos (by rw [c]), if_pos c]
    · rw [if_neg (fun hh => c ((nI_eq (by omega) (by omega)).mp hh)), if_neg c, hC.2.1]
  rw [baseC]
  by_cases c : t = 300 + q
  · rw [if_pos c, if_pos c]
    obtain ⟨I1, s1, e1', t1, v1, a1, a2⟩ := c_adv' hBI hC
    rw [a1, po_b]
    obtain ⟨JB, hJB⟩ : ∃ JB, JB = mh_u (mh_u JA 0 23 (0 : Int32)) 0 24 (0 : Int32) := ⟨_, rfl⟩
    have hJBf : ∀ a i, ¬ (a = 0 ∧ 23 ≤ i ∧ i ≤ 24) → JB a i = JA a i := fun a i g1 => by
      rw [hJB, show mh_u (mh_u JA 0 23 (0 : Int32)) 0 24 (0 : Int32) a i = mh_u JA 0 23 (0 : Int32) a i from if_neg (by omega), show mh_u JA 0 23 (0 : Int32) a i = JA a i from if_neg (by omega)]
    have hTB : TF n J JB := fun a i g1 g2 g3 g4 => (hJBf a i (by omega)).trans (hTA a i g1 g2 g3 g4)
    have hBB : BS n z b JB := BS_fr hBS hTB
    have l4' := l4 (by omega)
    have hRB : RS n JB JB e [] O := by
      refine ⟨?_, ⟨?_, ?_, ?_, fun j hj => ?_, trivial, fun _ _ _ _ _ => rfl⟩, by simp only [List.length_nil]; omega, by decide⟩
      · rw [hJBf 0 17 (by omega), hJA0, k2]
      · rw [hJB, pu_k (by decide), pu_s]; rfl
      · rw [hJB, pu_s]; rfl
      · rw [hJBf 0 25 (by omega), hJA0, h25]
      · rw [hJBf 6 _ (by omega), hJAf 6 _ (by omega) (by omega), R3 j hj]
    have eE : X6_eRead JA = X6_eRead_l14 KK F 1 1 JB := by
      unfold X6_eRead
      rw [eF, ← hJB]
      rfl
    have rfT : ∀ J', RF n JB J' → TF n J J' := fun J' h => TF_t hTB (fun a i g1 g2 g3 g4 => h a i g1 g2 g3)
    have rf7 : ∀ J', RF n JB J' → J' 7 (4 * n + q) = nI O.length ∧ ∀ i, i ≠ 4 * n + q → J' 7 i = J 7 i := fun J' h => ⟨by rw [h 7 _ (by omega) (by omega) (by omega), hJBf 7 _ (by omega), hJA7], fun i hi => by rw [h 7 _ (by omega) (by omega) (by omega), hJBf 7 _ (by omega), hJAf 7 i (by omega) (by omega)]⟩
    have c2I : ∀ I', CF tx I I' → C2 tx I I' := fun I' h a i g1 g2 g3 _ => h a i g1 g2 g3
    have failR : ∀ s' c, c ≤ z + 1 → Rf n JB JB 1 1 s' c → ∃ J', X6_eRead JA = some (0, J') ∧ J' 0 18 = nI s' ∧ TF n J J' := by
      rintro s' c hc ⟨J', y1, y2, y3⟩
      refine ⟨J', ?_, y2, rfT J' y3⟩
      rw [eE, show F = (F - c) + c by omega]
      exact y1 _
    rw [show (0 : Int32) = nI 0 from rfl]
    rcases (c_all (I0 := I) (J0 := JB) hBI hBB 80).1 0 0 I1 JB e s1 e1' t1 v1 O [] 1 (by omega) (by omega) (by omega) a2 hRB rfl (fun x T hh => by cases hh) (fun _ => ⟨fun _ => by decide, fun hh => by omega⟩) with ⟨I', s', d1, d2, d3, d3', c', d4, d5⟩ | ⟨I2, J2, p2, s2, e2, t2, v2, E, O2, pend, w3, c', d1, d2, d3, d4, d5, d6, d7, d8, d9⟩
    · left
      obtain ⟨J', y1, y2, y3⟩ := failR s' c' (by omega) d5
      refine ⟨I', s', J', ?_, c2I I' d2, ?_, y2, d3', y3⟩
      · rw [d1, po_b, if_pos (show (0 : Int32) = nI 0 from rfl)]
        try dsimp only
        rw [d3]
      · rw [y1, po_b, if_pos (show (0 : Int32) = nI 0 from rfl)]
    · have hb2 := lx_le d2.2.2.2.2.1
      rw [d1, po_b, if_neg (show ¬ (1 : Int32) = nI 0 by decide)]
      try dsimp only
      by_cases c59 : t2 = 59
      · right
        have hx2 := d2.2.2.2.2.1
        rw [c59] at hx2
        rw [List.append_nil] at d5
        obtain ⟨J3, f1, f2⟩ := s_end (u2 := w3) hBB d5 hx2 (fun x hxx => d7 x hxx)
        rw [← d6] at f2
        have hE : X6_eRead JA = some (1, J3) := by
          rw [eE, show F = (F - (c' + 1) + 1) + c' by omega, d3, f1]
        have hO2 := d2.2.2.2.2.2.1.1
        have hend : X4_endPart tx (nI q) I2 = some (mh_u I2 (tx + 2) q (nI (O ++ E).length)) := by
          unfold X4_endPart
          rw [px_ix hq (by decide), hO2]
        obtain ⟨I3, hI3⟩ : ∃ I3, I3 = mh_u I2 (tx + 2) q (nI (O ++ E).length) := ⟨_, rfl⟩
        have hI3f : ∀ a i, ¬ (a = tx + 2 ∧ i = q) → I3 a i = I2 a i := fun a i g1 => by rw [hI3]; exact if_neg g1
        have hc3 : C2 tx I I3 := fun a i g1 g2 g3 g4 => (hI3f a i (by omega)).trans (d2.2.2.2.2.2.2 a i g1 g2 g3)
        obtain ⟨I4, s4, e4, t4, v4, m1, m2⟩ := c_adv (I := I3) (I0 := I3) (p := e2) (O := O ++ E) (BI_fr hBI hc3) ((hI3f 7 2 (by omega)).trans d2.1) (by omega) ⟨(hI3f tx 1 (by omega)).trans d2.2.2.2.2.2.1.1, fun j hj => (hI3f (tx + 1) j (by omega)).trans (d2.2.2.2.2.2.1.2 j hj)⟩ (fun _ _ _ _ _ => rfl)
        have m7 := m2.2.2.2.2.2.2
        have rq := f2.2.1
        refine ⟨I4, J3, e2, s4, e4, t4, v4, E, ?_, ⟨m2.1, m2.2.1, m2.2.2.1, m2.2.2.2.1, m2.2.2.2.2.1, m2.2.2.2.2.2.1, fun _ _ _ _ _ => rfl⟩, C2_t hc3 (fun a i g1 g2 g3 _ => m7 a i g1 g2 g3), ?_, fun i hi => ?_, ?_, ⟨f2.1, rq.2.2.1, rq.2.2.2.1, by have := f2.2.2.1; simp only [List.length_nil] at this; omega⟩, rfT J3 rq.2.2.2.2.2, (rf7 J3 rq.2.2.2.2.2).1, (rf7 J3 rq.2.2.2.2.2).2, d9 0 (by decide)⟩
        · rw [if_pos (show I2 7 4 = (59 : Int32) by rw [d2.2.2.1, c59]; rfl), hend, po_b, ← hI3, m1, po_b]
        · rw [m7 (tx + 2) q (by omega) (by omega) (by omega), hI3, pu_s]
        · rw [m7 (tx + 2) i (by omega) (by omega) (by omega), hI3f _ _ (by omega), d2.2.2.2.2.2.2 (tx + 2) i (by omega) (by omega) (by omega)]
        · rw [hE, po_b, if_neg (show ¬ (1 : Int32) = nI 0 by decide)]
      · left
        have hstop : Rf n JB J2 0 w3 s2 1 := by
          by_cases c41 : t2 = 41
          · have hx2 := d2.2.2.2.2.1
            rw [c41] at hx2
            exact s_close0 hBB d5 hx2 (fun x hxx => d7 x (by rwa [List.append_nil] at hxx))
          · exact c_stop hBB d5 d2.2.2.2.2.1 d8 c41 c59
        obtain ⟨J', y1, y2, y3⟩ := failR s2 (1 + c') (by omega) (Rt_f d3 hstop)
        have h24 := d2.2.2.1
        refine ⟨I2, s2, J', ?_, c2I I2 d2.2.2.2.2.2.2, ?_, y2, by omega, y3⟩
        · rw [if_neg (show ¬ I2 7 4 = (59 : Int32) from fun hh => c59 ((nI_eq (by omega) (by decide)).mp (show nI t2 = nI 59 from h24 ▸ hh))), d2.2.1]
        · rw [y1, po_b, if_pos (show (0 : Int32) = nI 0 from rfl)]
  · left
    rw [if_neg c, if_neg c]
    exact ⟨I, s, JA, rfl, fun _ _ _ _ _ _ => rfl, rfl, by rw [hJA0, k3], by omega, hTA⟩
