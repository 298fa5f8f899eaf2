/-! PURE: a text -/
def KT : Int32 → mh_I → Option (Int32 × mh_I) := (fun (v20 : Int32) (I21 : mh_I) => mh_j (fun (v22 : Int32) (I23 : mh_I) => mh_ix (((4 : Int32) * (I23 0 8)) + (3 : Int32)) 24 (fun k30 => if v22 = 0 then some (((-100 : Int32) - ((mh_u (mh_u I23 7 k30 (I23 0 25)) 0 5 (0 : Int32)) 0 18)), (mh_u (mh_u I23 7 k30 (I23 0 25)) 0 5 (0 : Int32))) else some ((((mh_u (mh_u (mh_u I23 7 k30 (I23 0 25)) 0 5 (0 : Int32)) 0 8 (((mh_u (mh_u I23 7 k30 (I23 0 25)) 0 5 (0 : Int32)) 0 8) + (1 : Int32))) 0 8) - (1 : Int32)), (mh_u (mh_u (mh_u I23 7 k30 (I23 0 25)) 0 5 (0 : Int32)) 0 8 (((mh_u (mh_u I23 7 k30 (I23 0 25)) 0 5 (0 : Int32)) 0 8) + (1 : Int32)))))) (fun J24 => if v20 = 0 then (J24 v20 I21) else (X6_next I21).bind (fun q25 => mh_j (fun (s26 : Int32) => (J24 s26 q25)) (fun J27 => if (q25 0 19) = 0 then (J27 (1 : Int32)) else (J27 (0 : Int32))))))
def K9 (tx : Nat) : mh_I → Option (Int32 × mh_I × (Option Nat)) := fun (I13 : mh_I) => if (I13 7 4) = 0 then some ((-1 : Int32), I13, (some tx)) else some ((I13 7 3), I13, (some tx))
theorem X6_text_KT (I : mh_I) : X6_text I = if (I 0 8) = (6 : Int32) then some ((-4 : Int32), I) else X6_text_l26 KT mh_fuel (1 : Int32) (0 : Int32) (mh_u (mh_u I 0 17 (0 : Int32)) 0 25 (0 : Int32)) := by
  unfold X6_text KT
  exact Eq.refl _
theorem X3_readInto_K9 (p1 : Nat) (I : mh_I) (into : Option Nat) : X3_readInto p1 I into = (X4_clear p1 I).bind (fun q2 => (X3_advance (mh_u q2 7 2 (0 : Int32))).bind (fun q3 => X3_readInto_l23 p1 (K9 p1) mh_fuel (0 : Int32) q3)) := by
  unfold X3_readInto K9
  exact Eq.refl _
theorem wl_wfn {e : Nat → Nat} : ∀ {E : List Nat} {a d d' : Nat}, wl E d d' → (∀ i, i < E.length → e (a + i) = E.getD i 0) → wfn e E.length a d d' := by
  intro E
  induction E with
  | nil => intro a d d' h _; exact h
  | cons x E ih =>
    intro a d d' h he
    have h0 : e a = x := he 0 (by simp)
    refine ⟨by rw [h0]; exact h.1, ?_⟩
    rw [h0]
    refine ih h.2 (fun i hi => ?_)
    have := he (i + 1) (by simp; omega)
    rw [show a + 1 + i = a + (i + 1) by omega, this]
    simp
theorem kt_fail {n : Nat} {J : mh_I} {s : Nat} (hn : n < 6) (h8 : J 0 8 = nI n) (h18 : J 0 18 = nI s) : KT 0 J = some ((-100 : Int32) - nI s, mh_u (mh_u J 7 (4 * n + 3) (J 0 25)) 0 5 0) := by
  unfold KT
  simp only [pj_j]
  rw [if_pos trivial, h8, pn_mr, pn_al, px_ix (show 4 * n + 3 < 24 by omega) (by decide), if_pos trivial, pu_k (by decide), pu_a (by decide), h18]
theorem kt_end {n z : Nat} {b : Nat → Nat} {J : mh_I} {p s e t v : Nat} (hBS : BS n z b J) (h17 : J 0 17 = nI p) (hx : LX b z p s e t v) : ∃ J1, J1 0 18 = nI s ∧ (∀ a i, ¬ (a = 0 ∧ 17 ≤ i ∧ i ≤ 20) → J1 a i = J a i) ∧ KT 1 J = (if t = 0 then some (nI n, mh_u (mh_u (mh_u J1 7 (4 * n + 3) (J1 0 25)) 0 5 0) 0 8 (nI (n + 1))) else some ((-100 : Int32) - nI s, mh_u (mh_u J1 7 (4 * n + 3) (J1 0 25)) 0 5 0)) := by
  obtain ⟨l1, l2, l3, l4, l5, l6⟩ := lx_le hx
  have hn := hBS.1
  obtain ⟨J1, k1, k2, k3, k4, k5, k6, k7, k8⟩ := lx_ref (J := J) hBS.2.1 hBS.2.2.1 hBS.2.2.2.1 hBS.2.2.2.2.1 hBS.2.2.2.2.2.1 h17 hx
  refine ⟨J1, k3, k8, ?_⟩
  have h8 : J1 0 8 = nI n := (k8 0 8 (by omega)).trans hBS.2.2.2.2.2.2
  have r8 := (rt_b t (by omega) (by omega)).2.2.2
  unfold KT
  simp only [pj_j]
  rw [if_neg (by decide), k1, po_b, k4]
  by_cases c : t = 0
  · have a1 : ∀ y, (mh_u (mh_u J1 7 (4 * n + 3) y) 0 5 0) 0 8 = nI n := fun y => by rw [pu_k (by decide), pu_a (by decide), h8]
    have a2 : nI (n + 1) - (1 : Int32) = nI n := by rw [pn_sl (by omega)]; exact congrArg nI (by omega)
    rw [if_pos (r8.mpr c), if_pos c, h8, pn_mr, pn_al, px_ix (show 4 * n + 3 < 24 by omega) (by decide), if_neg (by decide)]
    simp only [a1, pu_s, pn_al, a2]
  · rw [if_neg (fun hh => c (r8.mp hh)), if_neg c, h8, pn_mr, pn_al, px_ix (show 4 * n + 3 < 24 by omega) (by decide), if_pos trivial, pu_k (by decide), pu_a (by decide), k3]
