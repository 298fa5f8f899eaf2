/-! PURE: the chain's loop -/
theorem rho_le {l : Nat} (hl : l < 5) : rhoP l ≤ rhoH l ∧ rhoH l < rhoH (l + 1) ∧ rhoP l ≤ rhoP (l + 1) ∧ (rhoH l = 4 ↔ l = 2) ∧ (3 < rhoH l ↔ 2 ≤ l) ∧ rhoP l ≤ rhoH l := by
  rcases (show l = 0 ∨ l = 1 ∨ l = 2 ∨ l = 3 ∨ l = 4 by omega) with rfl | rfl | rfl | rfl | rfl <;> decide
theorem Cond_dn {l t : Nat} {pend : List Nat} (hl : l < 5) (ht : t < 312) (h : Cond (l + 1) pend t) (hn : ¬ (sg t ≠ 0 ∧ rkn (sg t) = rhoH l)) : Cond l pend t := by
  intro h1 h2
  refine h h1 ?_
  obtain ⟨k1, k2⟩ := sg_k t ht h1
  have : rkn (sg t) ≠ rhoH l := fun hh => hn ⟨h1, hh⟩
  rcases (show l = 0 ∨ l = 1 ∨ l = 2 ∨ l = 3 ∨ l = 4 by omega) with rfl | rfl | rfl | rfl | rfl <;> simp only [rhoH] at * <;> simp at * <;> omega
theorem Cond_app {l t : Nat} {pend X : List Nat} (h : Cond l pend t) : Cond l (pend ++ X) t := by
  intro h1 h2
  obtain ⟨k1, a, c, r, k2, k3, k4⟩ := h h1 h2
  exact ⟨k1, a, c, r ++ X, by rw [k2]; simp, k3, k4⟩
theorem c_loop {tx z n : Nat} {b : Nat → Nat} {I0 J0 : mh_I} (hBI : BI tx z b I0) (hBS : BS n z b J0) {g : Nat} (ih : PC tx z n b I0 J0 g) {l k : Nat} (hl : l < 5) (hk : k ≤ 5) (hg : (5 - l) + 8 * (5 - k) + 1 ≤ g) {H : List Nat} (hop : opn H = k) (hH : ∀ x T, H = x :: T → rkn x < rhoH l) {u3 : Int32} (hu : u3 = nI (if l = 2 then 1 else 160)) : ∀ F i I J p s e t v Oc O' pend w2, CS tx z b I0 I p s e t v Oc → RS n J0 J p (pend ++ H) O' → Oc = O' ++ pend → (∀ x, x ∈ pend → rhoP l ≤ rkn x) → Cond (l + 1) pend t → i ≤ p → (l = 2 → (i = 0 ∧ ∀ x, x ∈ pend → 5 ≤ rkn x) ∨ (i = 1 ∧ ∃ a c r, pend = a ++ c :: r ∧ (∀ x, x ∈ a → 5 ≤ rkn x) ∧ rkn c = 4)) → z < F + p → FL tx z n I0 J0 J 0 w2 p (X3_chain_l61 (X3_grp tx g) tx (nI l) (nI k) u3 F (nI i) I) ∨ SU tx z n b I0 J0 J 0 w2 p Oc H l (fun E => ∀ d, d + (5 - l) + dk k ≤ 40 → wl E (d + 1) (d + 1)) (X3_chain_l61 (X3_grp tx g) tx (nI l) (nI k) u3 F (nI i) I) := by
  obtain ⟨ρ1, ρ2, ρ3, ρ4, ρ5, ρ6⟩ := rho_le hl
  have hz := hBS.2.1
  have q1 : l + 1 ≤ 5 := by omega
  have q2 : (6 - (l + 1)) + 8 * (5 - k) + 1 ≤ g := by omega
  have q3 : ∀ d, d + (5 - l) + dk k ≤ 40 → (d + 1) + (5 - (l + 1)) + dk k ≤ 40 := fun d hd => by omega
  have q4 : l + 1 ≤ 2 → ¬ 3 < rhoH l := fun hh hh2 => by have := ρ5.mp hh2; omega
  have q5 : 3 ≤ l + 1 → 3 < rhoH l := fun hh => ρ5.mpr (by omega)
  intro F
  induction F with
  | zero =>
    intro i I J p s e t v Oc O' pend w2 hC _ _ _ _ _ _ hF
    obtain ⟨l1, l2, l3, -⟩ := lx_le hC.2.2.2.2.1
    omega
  | succ f ihf =>
    intro i I J p s e t v Oc O' pend w2 hC hR hO hpd hco hi h2 hF
    obtain ⟨l1, l2, l3, l4, l5, l6⟩ := lx_le hC.2.2.2.2.1
    have h4 := hC.2.2.1
    have done : Cond l pend t → SU tx z n b I0 J0 J 0 w2 p Oc H l (fun E => ∀ d, d + (5 - l) + dk k ≤ 40 → wl E (d + 1) (d + 1)) (some (1, I)) := fun hc => ⟨I, J, p, s, e, t, v, [], O', pend, w2, 0, rfl, by rw [List.append_nil]; exact hC, fun _ => rfl, by omega, hR, by rw [List.append_nil]; exact hO, hpd, hc, fun _ _ => rfl⟩
    rw [X3_chain_l61, hu]
    by_cases hx : (if l = 2 then 1 else 160) ≤ i
    · rw [if_pos (nI_le hx (by omega))]
      refine .inr (done ?_)
      by_cases c2 : l = 2
      · subst c2
        rw [if_pos rfl] at hx
        rcases h2 rfl with ⟨g1, -⟩ | ⟨g1, g2⟩
        · omega
        · intro y1 y2
          by_cases y4 : rkn (sg t) = 4
          · exact ⟨y4, g2⟩
          · exact hco y1 (by simp only [rhoH] at *; simp at *; omega)
      · rw [if_neg c2] at hx
        intro y1
        have : t ≠ 0 := by rintro rfl; exact y1 (by decide)
        have := l4 this
        omega
    · rw [if_neg (nI_ge (by omega) (by split <;> omega)), h4, jn_x l hl t (by omega) (by omega), po_b]
      by_cases hj : sg t ≠ 0 ∧ rkn (sg t) = rhoH l
      · rw [if_pos hj, if_neg (by decide), pj_b]
        obtain ⟨j1, j2⟩ := hj
        have ht0 : t ≠ 0 := by rintro rfl; exact j1 (by decide)
        have l4' := l4 ht0
        obtain ⟨I1, s1, e1, t1, v1, a1, a2⟩ := c_adv' hBI hC
        have hq : 11 ≤ sg t ∧ sg t ≤ 18 ∧ sg t ≠ 13 := by
          rcases sg_r t with h | h
          · exact absurd h j1
          · exact h
        obtain ⟨m1, m2, m3, m4⟩ := lst_x (sg t) (by omega) hq.1
        obtain ⟨k1, k2⟩ := sg_k t (by omega) j1
        have hq5 : l = 2 → ∀ x, x ∈ pend → 5 ≤ rkn x := fun hh => by
          rcases h2 hh with ⟨g1, g2⟩ | ⟨g1, g2⟩
          · exact g2
          · rw [if_pos hh] at hx; omega
        have hp' : ∀ x, x ∈ pend → lst (sg t) ≤ rkn x := fun x hxx => by
          by_cases c4 : rkn (sg t) = 4
          · rw [m3 c4]; exact hq5 (ρ4.mp (j2 ▸ c4)) x hxx
          · have := hpd x hxx
            have hl2 : l ≠ 2 := fun hh => c4 (j2.trans (ρ4.mpr hh))
            rw [m4 c4, j2]
            have : rhoP l = rhoH l := by
              unfold rhoP rhoH
              rw [if_neg hl2]
            omega
        have hH' : ∀ x T, H = x :: T → rkn x < lst (sg t) := fun x T hh => by
          have := hH x T hh
          by_cases c4 : rkn (sg t) = 4
          · rw [m3 c4]; omega
          · rw [m4 c4]; omega
        rcases s_sign (u2 := w2) hBS hR hC.2.2.2.2.1 j1 rfl hp' hH' with ⟨⟨c1, x, T, c2, c3⟩, -⟩ | ⟨c1, J1, c2, c3⟩
        · have := hH x T c2
          omega
        · rw [a1, po_b, show nI l + (1 : Int32) = nI (l + 1) from nI_add l 1]
          have hopq : opn (sg t :: H) = k := by rw [opn, if_neg (by omega), hop, Nat.add_zero]
          rw [← hO] at c3
          rcases ih (l + 1) k I1 J1 e s1 e1 t1 v1 Oc (sg t :: H) (if 12 < sg t then 0 else 1) q1 hk q2 a2 c3 hopq (fun x T hh => by cases hh; rw [j2]; exact ρ2) (fun _ => ⟨fun hh => by rw [if_neg (fun hh2 => q4 hh (j2 ▸ k2.mp hh2))]; decide, fun hh => by rw [if_pos (k2.mpr (j2 ▸ q5 hh))]⟩) with ⟨I', s', d1, d2, d3, d3', c, d4, d5⟩ | ⟨I2, J2, p2, s2, e2, t2, v2, E1, O2, pend1, w3, c, d1, d2, d3, d4, d5, d6, d7, d8, d9⟩
          · left
            refine ⟨I', s', ?_, d2, d3, d3', c + 1, by omega, Rt_f c2 d5⟩
            rw [d1, po_b, if_pos rfl]
          · have hb2 := lx_le d2.2.2.2.2.1
            have hlen : (Oc ++ E1).length + (1 + H.length) ≤ p2 := by
              rw [d6]
              have := d5.2.2.1
              simp only [List.length_append, List.length_cons] at this ⊢
              omega
            obtain ⟨I3, f1, f2⟩ := c_add hBI d2 (by omega) (co_sg t (by omega) j1)
            rw [d1, po_b, if_neg (show ¬ (1 : Int32) = 0 by decide)]
            dsimp only
            rw [f1, po_b, pj_b, show nI i + (1 : Int32) = nI (i + 1) from nI_add i 1, ← hu]
            have hres := ihf (i + 1) I3 J2 p2 s2 e2 t2 v2 (Oc ++ E1 ++ [sg t]) O2 (pend1 ++ [sg t]) w3 f2 (by rw [List.append_assoc]; exact d5) (by rw [d6, List.append_assoc]) (fun x hxx => by
              rcases List.mem_append.mp hxx with hh | hh
              · have := d7 x hh; omega
              · rw [List.mem_singleton.mp hh]; omega) (Cond_app d8) (by omega) (fun hh => .inr ⟨by
                rcases h2 hh with ⟨g1, -⟩ | ⟨g1, -⟩
                · omega
                · rw [if_pos hh] at hx; omega, pend1, sg t, [], rfl, fun x hxx => by
                  have := d7 x hxx
                  subst hh
                  exact this, by rw [j2, hh]; decide⟩) (by omega)
            rcases hres with ⟨I', s', x1, x2, x3, x3', c', x4, x5⟩ | ⟨I4, J4, p4, s4, e4, t4, v4, E4, O4, pend4, w4, c4, x1, x2, x3, x4, x5, x6, x7, x8, x9⟩
            · left
              exact ⟨I', s', x1, x2, x3, x3', c' + (c + 1), by omega, Rt_f (Rt_t c2 d3) x5⟩
            · right
              refine ⟨I4, J4, p4, s4, e4, t4, v4, E1 ++ ([sg t] ++ E4), O4, pend4, w4, c4 + (c + 1), x1, ?_, Rt_t (Rt_t c2 d3) x3, by omega, x5, ?_, x7, x8, fun d hd => ?_⟩
              · rw [← List.append_assoc, ← List.append_assoc]; exact x2
              · rw [← List.append_assoc, ← List.append_assoc]; exact x6
              · exact wl_app (d9 (d + 1) (q3 d hd)) (wl_app (wl_bin hq (Nat.le_add_left 1 d)) (x9 d hd))
      · rw [if_neg hj, if_pos rfl]
        exact .inr (done (Cond_dn hl (by omega) hco hj))
