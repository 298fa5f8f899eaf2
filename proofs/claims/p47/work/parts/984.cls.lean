/-! PURE: the class's reader: state, advance, add; the chain's loop -/
def BI (tx z : Nat) (b : Nat → Nat) (I0 : mh_I) : Prop := 14 ≤ tx ∧ z ≤ 160 ∧ (∀ i, i < z → b i < 256) ∧ I0 7 1 = nI z ∧ ∀ i, i < z → I0 8 i = nI (b i)
def CF (tx : Nat) (I0 I : mh_I) : Prop := ∀ a i, ¬ (a = 7 ∧ 2 ≤ i ∧ i ≤ 5) → ¬ (a = tx ∧ i = 1) → a ≠ tx + 1 → I a i = I0 a i
def CO (tx : Nat) (I : mh_I) (O : List Nat) : Prop := I tx 1 = nI O.length ∧ ∀ j, j < O.length → I (tx + 1) j = co (O.getD j 0)
def CS (tx z : Nat) (b : Nat → Nat) (I0 I : mh_I) (p s e t v : Nat) (O : List Nat) : Prop := I 7 2 = nI e ∧ I 7 3 = nI s ∧ I 7 4 = nI t ∧ (t = 2 → I 7 5 = nI v) ∧ LX b z p s e t v ∧ CO tx I O ∧ CF tx I0 I
theorem c_adv {tx z : Nat} {b : Nat → Nat} {I0 I : mh_I} {p : Nat} {O : List Nat} (hB : BI tx z b I0) (h2 : I 7 2 = nI p) (hp : p ≤ z) (hO : CO tx I O) (hF : CF tx I0 I) : ∃ I' s e t v, X3_advance I = some I' ∧ CS tx z b I0 I' p s e t v O := by
  obtain ⟨B1, B2, B3, B4, B5⟩ := hB
  obtain ⟨s, e, t, v, hx⟩ := lx_ex b hp
  obtain ⟨I', k1, k2, k3, k4, k5, k6⟩ := lx_cls (I := I) B2 B3 ((hF 7 1 (by omega) (by omega) (by omega)).trans B4) (fun i hi => (hF 8 i (by omega) (by omega) (by omega)).trans (B5 i hi)) h2 hx
  exact ⟨I', s, e, t, v, k1, k2, k3, k4, k5, hx, ⟨(k6 tx 1 (by omega)).trans hO.1, fun j hj => (k6 (tx + 1) j (by omega)).trans (hO.2 j hj)⟩, fun a i h1 h2 h3 => (k6 a i h1).trans (hF a i h1 h2 h3)⟩
theorem c_adv' {tx z : Nat} {b : Nat → Nat} {I0 I : mh_I} {p s e t v : Nat} {O : List Nat} (hB : BI tx z b I0) (h : CS tx z b I0 I p s e t v O) : ∃ I' s' e' t' v', X3_advance I = some I' ∧ CS tx z b I0 I' e s' e' t' v' O := by
  obtain ⟨h1, h2, h3, h4, h5, h6, h7⟩ := h
  exact c_adv hB h1 (lx_le h5).2.2.1 h6 h7
theorem c_add {tx z : Nat} {b : Nat → Nat} {I0 I : mh_I} {p s e t v : Nat} {O : List Nat} (hB : BI tx z b I0) (h : CS tx z b I0 I p s e t v O) (hl : O.length < 160) {w : Int32} {x : Nat} (hw : w = co x) : ∃ I', X4_add tx w I = some I' ∧ CS tx z b I0 I' p s e t v (O ++ [x]) := by
  obtain ⟨h1, h2, h3, h4, h5, ⟨h6, h6'⟩, h7⟩ := h
  have ht := hB.1
  unfold X4_add
  rw [h6, if_neg (show ¬ (160 : Int32) ≤ nI O.length from (nI_ge hl (by omega) : ¬ nI 160 ≤ nI O.length)), px_ix hl (by decide)]
  have fr : ∀ a i, a ≠ tx → a ≠ tx + 1 → mh_u (mh_u I tx 1 (nI O.length + 1)) (tx + 1) O.length w a i = I a i := fun a i g1 g2 => by
    rw [pu_a g2, pu_a g1]
  refine ⟨_, rfl, (fr 7 2 (by omega) (by omega)).trans h1, (fr 7 3 (by omega) (by omega)).trans h2, (fr 7 4 (by omega) (by omega)).trans h3, fun hh => (fr 7 5 (by omega) (by omega)).trans (h4 hh), h5, ⟨?_, fun j hj => ?_⟩, fun a i g1 g2 g3 => ?_⟩
  · rw [pu_a (by omega), pu_s, pn_al]
    exact congrArg nI (by simp)
  · rw [gd_app]
    simp only [List.length_append, List.length_singleton] at hj
    by_cases c : j < O.length
    · rw [if_pos c, pu_k (by omega), pu_a (by omega), h6' j c]
    · have : j = O.length := by omega
      subst this
      rw [if_neg (by omega), if_pos rfl, pu_s, hw]
  · rw [show mh_u (mh_u I tx 1 (nI O.length + 1)) (tx + 1) O.length w a i = mh_u I tx 1 (nI O.length + 1) a i from if_neg (by omega), show mh_u I tx 1 (nI O.length + 1) a i = I a i from if_neg (by omega), h7 a i g1 g2 g3]
def wl : List Nat → Nat → Nat → Prop
  | [], d, d' => d = d'
  | x :: E, d, d' => oOk x d ∧ wl E (oD x d) d'
theorem wl_app {E' : List Nat} : ∀ {E : List Nat} {d d1 d2 : Nat}, wl E d d1 → wl E' d1 d2 → wl (E ++ E') d d2 := by
  intro E
  induction E with
  | nil => intro d d1 d2 h h2; cases h; exact h2
  | cons x E ih => intro d d1 d2 h h2; exact ⟨h.1, ih h.2 h2⟩
theorem wl_bin {q d : Nat} (hq : 11 ≤ q ∧ q ≤ 18 ∧ q ≠ 13) (hd : 1 ≤ d) : wl [q] (d + 1) d := by
  refine ⟨?_, ?_⟩
  · unfold oOk; omega
  · show oD q (d + 1) = d
    unfold oD
    rw [if_neg (by omega), if_neg (by omega)]
    omega
theorem wl_un {q d : Nat} (hq : q = 13 ∨ q = 19) (hd : 1 ≤ d) : wl [q] d d := by
  refine ⟨?_, ?_⟩
  · unfold oOk; omega
  · show oD q d = d
    unfold oD
    rw [if_neg (by omega), if_pos hq]
theorem wl_leaf {t v d : Nat} (ht : (t = 2 ∧ v < 10000) ∨ (306 ≤ t ∧ t < 312)) (hd : d < 40) : wl [tc t v] d (d + 1) := by
  have : tc t v < 6 ∨ (100000 ≤ tc t v ∧ tc t v < 110000) := by
    unfold tc
    split <;> omega
  refine ⟨?_, ?_⟩
  · unfold oOk; omega
  · show oD (tc t v) d = d + 1
    unfold oD
    rw [if_pos (by omega)]
theorem co_tc {t v : Nat} (ht : (t = 2 ∧ v < 10000) ∨ (306 ≤ t ∧ t < 312)) : co (tc t v) = if t = 2 then nI v else -(nI t) := by
  unfold co tc
  by_cases c : t = 2
  · rw [if_pos c, if_pos c, if_neg (by omega), if_pos (by omega)]
    exact congrArg nI (by omega)
  · rw [if_neg c, if_neg c, if_pos (by omega)]
    exact congrArg (fun x => - nI x) (by omega)
theorem co_sg : ∀ t, t < 312 → sg t ≠ 0 → -(nI t) = co (sg t) := by decide +kernel
def rhoH (l : Nat) : Nat := if l = 0 then 1 else if l = 1 then 2 else l + 2
def rhoP (l : Nat) : Nat := if l = 0 then 1 else if l = 1 then 2 else if l = 2 then 3 else l + 2
theorem jn_x : ∀ l, l < 5 → ∀ t, t < 312 → (t ≤ 2 ∨ 40 ≤ t ∧ t ≤ 61 ∨ 300 ≤ t) → X3_joins (nI l) (nI t) = some (if sg t ≠ 0 ∧ rkn (sg t) = rhoH l then 1 else 0) := by decide +kernel
theorem sg_k : ∀ t, t < 312 → sg t ≠ 0 → (rkn (sg t) = 1 ∨ rkn (sg t) = 2 ∨ rkn (sg t) = 4 ∨ rkn (sg t) = 5 ∨ rkn (sg t) = 6) ∧ (12 < sg t ↔ 3 < rkn (sg t)) := by decide +kernel
def Cond (l : Nat) (pend : List Nat) (t : Nat) : Prop := sg t ≠ 0 → rhoH l ≤ rkn (sg t) → rkn (sg t) = 4 ∧ ∃ a c r, pend = a ++ c :: r ∧ (∀ x, x ∈ a → 5 ≤ rkn x) ∧ rkn c = 4
def dk (k : Nat) : Nat := 5 * (5 - k) + 1
/-- what a part of the reader does: it fails in both, at the same place -/
def FL (tx z n : Nat) (I0 J0 J : mh_I) (u1 u2 : Int32) (p : Nat) (r : Option (Int32 × mh_I)) : Prop := ∃ I' s', r = some (0, I') ∧ CF tx I0 I' ∧ I' 7 3 = nI s' ∧ s' ≤ z ∧ ∃ c, c + p ≤ z + 1 ∧ Rf n J0 J u1 u2 s' c
/-- .. or goes on in both -/
def SU (tx z n : Nat) (b : Nat → Nat) (I0 J0 J : mh_I) (u1 u2 : Int32) (p : Nat) (O H : List Nat) (l : Nat) (W : List Nat → Prop) (r : Option (Int32 × mh_I)) : Prop := ∃ I' J' p' s' e' t' v' E O' pend w2 c, r = some (1, I') ∧ CS tx z b I0 I' p' s' e' t' v' (O ++ E) ∧ Rt J u1 u2 J' 0 w2 c ∧ c + p ≤ p' ∧ RS n J0 J' p' (pend ++ H) O' ∧ O ++ E = O' ++ pend ∧ (∀ x, x ∈ pend → rhoP l ≤ rkn x) ∧ Cond l pend t' ∧ W E
def PC (tx z n : Nat) (b : Nat → Nat) (I0 J0 : mh_I) (f : Nat) : Prop := ∀ l k I J p s e t v O H u2, l ≤ 5 → k ≤ 5 → (6 - l) + 8 * (5 - k) + 1 ≤ f → CS tx z b I0 I p s e t v O → RS n J0 J p H O → opn H = k → (∀ x T, H = x :: T → rkn x < rhoH l) → (t = 305 → (l ≤ 2 → u2 ≠ 0) ∧ (3 ≤ l → u2 = 0)) → FL tx z n I0 J0 J 1 u2 p (X3_grp tx f 0 (nI l) (nI k) I) ∨ SU tx z n b I0 J0 J 1 u2 p O H l (fun E => ∀ d, d + (5 - l) + dk k ≤ 40 → wl E d (d + 1)) (X3_grp tx f 0 (nI l) (nI k) I)
def PO (tx z n : Nat) (b : Nat → Nat) (I0 J0 : mh_I) (f : Nat) : Prop := ∀ k j I J p s e t v O H H0 u2, k ≤ 5 → 8 * (5 - k) + 1 ≤ f → CS tx z b I0 I p s e t v O → RS n J0 J p H O → opn H = k → H = List.replicate j 19 ++ H0 → (∀ x T, H0 = x :: T → rkn x < 7) → (t = 305 → u2 = 0) → FL tx z n I0 J0 J 1 u2 p (X3_grp tx f 2 (nI k) 0 I) ∨ ∃ I' J' p' s' e' t' v' E w2 c, X3_grp tx f 2 (nI k) 0 I = some (1, I') ∧ CS tx z b I0 I' p' s' e' t' v' (O ++ E) ∧ Rt J 1 u2 J' 0 w2 c ∧ c + p ≤ p' ∧ RS n J0 J' p' H0 (O ++ E ++ List.replicate j 19) ∧ ∀ d, d + dk k ≤ 40 → wl E d (d + 1)
