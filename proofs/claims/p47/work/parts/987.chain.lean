/-! PURE: the readers agree: a chain, and all -/
theorem c_chain {tx z n : Nat} {b : Nat → Nat} {I0 J0 : mh_I} (hBI : BI tx z b I0) (hBS : BS n z b J0) {f : Nat} (ih : ∀ g, g < f → PC tx z n b I0 J0 g ∧ PO tx z n b I0 J0 g) : PC tx z n b I0 J0 f := by
  intro l k I J p s e t v O H u2 hl hk hf hC hR hop hH h305
  obtain ⟨g, rfl⟩ : ∃ g, f = g + 1 := ⟨f - 1, by omega⟩
  have hx := hC.2.2.2.2.1
  obtain ⟨l1, l2, l3, l4, l5, l6⟩ := lx_le hx
  have hz := hBS.2.1
  have h74 := hC.2.2.1
  have e0 : X3_grp tx (g + 1) 0 (nI l) (nI k) I = X3_chain (X3_grp tx g) tx (nI l) (nI k) I := by
    rw [X3_grp, if_pos rfl]
  rw [e0]
  unfold X3_chain
  by_cases c5 : l = 5
  · subst c5
    rw [if_neg (show ¬ nI 5 < (5 : Int32) by decide)]
    rcases (ih g (by omega)).2 k 0 I J p s e t v O H H u2 hk (by omega) hC hR hop (by simp) (fun x T hh => hH x T hh) (fun hh => (h305 hh).2 (by omega)) with ⟨I', s', d1, d2, d3, d3', c, d4, d5⟩ | ⟨I2, J2, p2, s2, e2, t2, v2, E1, w3, c, d1, d2, d3, d4, d5, d6⟩
    · left
      exact ⟨I', s', by rw [d1, po_b], d2, d3, d3', c, d4, d5⟩
    · right
      rw [List.replicate_zero, List.append_nil] at d5
      have hb2 := lx_le d2.2.2.2.2.1
      refine ⟨I2, J2, p2, s2, e2, t2, v2, E1, O ++ E1, [], w3, c, by rw [d1, po_b], d2, d3, d4, d5, (List.append_nil _).symm, fun x hh => (by cases hh), fun y1 y2 => ?_, fun d hd => d6 d (by omega)⟩
      obtain ⟨k1, -⟩ := sg_k t2 (by omega) y1
      have : rhoH 5 = 7 := rfl
      omega
  · have hl5 : l < 5 := by omega
    obtain ⟨ρ1, ρ2, ρ3, ρ4, ρ5, ρ6⟩ := rho_le hl5
    rw [if_pos (show nI l < (5 : Int32) from (nI_lt hl5 (by decide) : nI l < nI 5)), pj_j]
    by_cases cn : l = 2 ∧ t = 305
    · obtain ⟨rfl, rfl⟩ := cn
      have hu2 := (h305 rfl).1 (by omega)
      rw [if_pos (show nI 2 = (2 : Int32) from rfl), if_pos (show I 7 4 = (305 : Int32) from h74)]
      obtain ⟨g', rfl⟩ : ∃ g', g = g' + 1 := ⟨g - 1, by omega⟩
      have e1 : X3_grp tx (g' + 1) 1 (nI k) 0 I = X3_negation (X3_grp tx g') tx (nI k) I := by
        rw [X3_grp, if_neg (by decide), if_pos rfl]
      rw [e1]
      unfold X3_negation
      have l4' := l4 (by omega)
      by_cases ck : k < 5
      · rw [if_pos (show nI k < (5 : Int32) from (nI_lt ck (by decide) : nI k < nI 5))]
        rcases s_open (u2 := u2) (x := 13) (w2 := u2) hBS hR hx (.inr (.inr ⟨rfl, rfl, hu2, rfl⟩)) with ⟨g, -⟩ | ⟨-, J1, b1, b2⟩
        · omega
        obtain ⟨I1, s1, e1', t1, v1, a1, a2⟩ := c_adv' hBI hC
        rw [a1, po_b, show nI k + (1 : Int32) = nI (k + 1) from nI_add k 1, show (2 : Int32) = nI 2 from rfl]
        rcases (ih g' (by omega)).1 2 (k + 1) I1 J1 e s1 e1' t1 v1 O (13 :: H) u2 (by omega) (by omega) (by omega) a2 b2 (by rw [opn, if_pos (.inr (.inl rfl)), hop]) (fun x T hh => by cases hh; decide) (fun _ => ⟨fun _ => hu2, fun hh => by omega⟩) with ⟨I', s', d1, d2, d3, d3', c, d4, d5⟩ | ⟨I2, J2, p2, s2, e2, t2, v2, E1, O2, pend, w3, c, d1, d2, d3, d4, d5, d6, d7, d8, d9⟩
        · left
          refine ⟨I', s', ?_, d2, d3, d3', c + 1, by omega, Rt_f b1 d5⟩
          rw [d1, po_b]
          try dsimp only
          rw [if_pos rfl, po_b]
        · right
          have hb2 := lx_le d2.2.2.2.2.1
          have hlen : (O ++ E1).length + (1 + H.length) ≤ p2 := by
            rw [d6]
            have := d5.2.2.1
            simp only [List.length_append, List.length_cons] at this ⊢
            omega
          obtain ⟨I3, f1, f2⟩ := c_add (x := 13) (w := -305) hBI d2 (by omega) (by decide)
          refine ⟨I3, J2, p2, s2, e2, t2, v2, E1 ++ [13], O2, pend ++ [13], w3, c + 1, ?_, by rw [← List.append_assoc]; exact f2, Rt_t b1 d3, by omega, by rw [List.append_assoc]; exact d5, by rw [← List.append_assoc, d6, List.append_assoc], fun x hxx => ?_, Cond_app d8, fun d hd => wl_app (d9 d (by unfold dk at *; omega)) (wl_un (.inl rfl) (by omega))⟩
          · rw [d1, po_b, if_neg (show ¬ (1 : Int32) = 0 by decide)]
            try dsimp only
            rw [f1, po_b, po_b]
          · rcases List.mem_append.mp hxx with hh | hh
            · exact d7 x hh
            · rw [List.mem_singleton.mp hh]; decide
      · left
        rw [if_neg (show ¬ nI k < (5 : Int32) from (nI_nlt (by omega) (by omega) : ¬ nI k < nI 5)), po_b]
        refine ⟨I, s, rfl, hC.2.2.2.2.2.2, hC.2.1, by omega, 1, by omega, ?_⟩
        rcases s_open (u2 := u2) (x := 13) (w2 := u2) hBS hR hx (.inr (.inr ⟨rfl, rfl, hu2, rfl⟩)) with ⟨-, g⟩ | ⟨g, -⟩
        · exact g
        · omega
    · have hY : ∀ X Y : Option (Int32 × mh_I), (if nI l = (2 : Int32) then (if I 7 4 = (305 : Int32) then X else Y) else Y) = Y := by
        intro X Y
        by_cases c2 : l = 2
        · rw [if_pos (show nI l = (2 : Int32) by rw [c2]; rfl), if_neg (show ¬ I 7 4 = (305 : Int32) from fun hh => cn ⟨c2, (nI_eq (by omega) (by decide)).mp (show nI t = nI 305 from h74 ▸ hh)⟩)]
        · rw [if_neg (show ¬ nI l = (2 : Int32) from fun hh => c2 ((nI_eq (by omega) (by decide)).mp (show nI l = nI 2 from hh)))]
      rw [hY, show nI l + (1 : Int32) = nI (l + 1) from nI_add l 1]
      obtain ⟨F, hF, eF⟩ := fuel_ex
      rw [eF]
      rcases (ih g (by omega)).1 (l + 1) k I J p s e t v O H u2 (by omega) hk (by omega) hC hR hop (fun x T hh => by have := hH x T hh; omega) (fun hh => ⟨fun h2 => (h305 hh).1 (by omega), fun h3 => by
        by_cases c2 : l = 2
        · exact absurd ⟨c2, hh⟩ cn
        · exact (h305 hh).2 (by omega)⟩) with ⟨I', s', d1, d2, d3, d3', c, d4, d5⟩ | ⟨I2, J2, p2, s2, e2, t2, v2, E1, O2, pend, w3, c, d1, d2, d3, d4, d5, d6, d7, d8, d9⟩
      · left
        refine ⟨I', s', ?_, d2, d3, d3', c, d4, d5⟩
        rw [d1, po_b, if_pos rfl]
      · rw [d1, po_b, if_neg (show ¬ (1 : Int32) = 0 by decide), pj_j]
        try dsimp only
        have hL : (if nI l = (2 : Int32) then X3_chain_l61 (X3_grp tx g) tx (nI l) (nI k) 1 F 0 I2 else X3_chain_l61 (X3_grp tx g) tx (nI l) (nI k) 160 F 0 I2) = X3_chain_l61 (X3_grp tx g) tx (nI l) (nI k) (nI (if l = 2 then 1 else 160)) F (nI 0) I2 := by
          by_cases c2 : l = 2
          · rw [if_pos (show nI l = (2 : Int32) by rw [c2]; rfl), if_pos c2]; rfl
          · rw [if_neg (show ¬ nI l = (2 : Int32) from fun hh => c2 ((nI_eq (by omega) (by decide)).mp (show nI l = nI 2 from hh))), if_neg c2]; rfl
        rw [hL]
        rcases c_loop hBI hBS (ih g (by omega)).1 hl5 hk (by omega) hop hH rfl F 0 I2 J2 p2 s2 e2 t2 v2 (O ++ E1) O2 pend w3 d2 d5 d6 (fun x hxx => by have := d7 x hxx; omega) d8 (by omega) (fun hh => .inl ⟨rfl, fun x hxx => by have := d7 x hxx; subst hh; exact this⟩) (by omega) with ⟨I', s', x1, x2, x3, x3', c', x4, x5⟩ | ⟨I4, J4, p4, s4, e4, t4, v4, E4, O4, pend4, w4, c4, x1, x2, x3, x4, x5, x6, x7, x8, x9⟩
        · exact .inl ⟨I', s', x1, x2, x3, x3', c' + c, by omega, Rt_f d3 x5⟩
        · exact .inr ⟨I4, J4, p4, s4, e4, t4, v4, E1 ++ E4, O4, pend4, w4, c4 + c, x1, by rw [← List.append_assoc]; exact x2, Rt_t d3 x3, by omega, x5, by rw [← List.append_assoc]; exact x6, x7, x8, fun d hd => wl_app (d9 d (by omega)) (x9 d hd)⟩
theorem c_all {tx z n : Nat} {b : Nat → Nat} {I0 J0 : mh_I} (hBI : BI tx z b I0) (hBS : BS n z b J0) : ∀ f, PC tx z n b I0 J0 f ∧ PO tx z n b I0 J0 f := by
  intro f
  induction f using Nat.strongRecOn with
  | _ f ih => exact ⟨c_chain hBI hBS ih, c_one hBI hBS ih⟩
