/-! PURE: every script -/
theorem SHX_E6 (T : Option Nat) : (SHX T ++ E6).length = 52 := by rw [List.length_append, SHX_len]; rfl
theorem XS_of {u : Nat} {I : mh_I} {L : mh_L} {K M : Nat → Nat} {P : Nat → Bool} {e o : Nat → Nat} {sc : mh_Sc} (h : SCK sc K M P) (hu : u < 6) (h1 : cK 2 I K) (h2 : cK 3 I M) (h3 : L 1 2 = qS P) (h4 : L 1 3 = qS (fun _ => false)) (h5 : tok e o) (h6 : cenc (14 + 4 * u) I e o) (h7 : I 1 4 = nI u) : XS u I L K M P (fun _ => false) e o := ⟨⟨h1, h.1, h2, h.2.1, h3, h4, hu, h5, h6⟩, h7⟩
theorem go_1 {sc : mh_Sc} (hs : sc.1 ≤ 260) (hp : L_plain sc = some 1) : mh_W RL code 16 (some .boolean) false room_1 0 600000 7302250 (mh_scr sc) (mh_ans 1) 0 [] Z0 ZL 0 [(0, .ref 1040)] [] := by
  obtain ⟨K, M, P, hS⟩ := sck_ex hs
  obtain ⟨I5, e, o, a1, a2, a3, a4, a5, a6, a7, a8⟩ := s_init
  obtain ⟨I, L, b1, b2, b3, b4, b5, b6⟩ := s_build hS I5
  have hT : ∀ t, (some 14 : Option Nat) = some t → t < 46 := fun t ht => by cases ht; decide
  have hB := t_L_build0 (sc := sc) (r5 := (I5, zL, some 14)) (q := (I, L)) a1 hT b1 hp
  have zI : ∀ a, a < 46 → mh_z I 46 a = I a := fun a ha => zz_a (by omega)
  have zL' : ∀ a, a < 46 → mh_zl L 46 a = L a := fun a ha => zl_a (by omega)
  have hx : XS 0 (mh_z I 46) (mh_zl L 46) K M P (fun _ => false) e o := XS_of hS (by decide) (fun c hc => by rw [zI 2 (by decide)]; exact b2 c hc) (fun c hc => by rw [zI 3 (by decide)]; exact b3 c hc) (by rw [zL' 1 (by decide)]; exact b5) (by rw [zL' 1 (by decide)]; exact b6) a5 ⟨fun j hj => by rw [zI _ (by decide), b4 _ _ (by decide) (by decide)]; exact a6.1 j hj, fun q hq => by rw [zI _ (by decide), b4 _ _ (by decide) (by decide)]; exact a6.2 q hq⟩ (by rw [zI 1 (by decide), b4 1 4 (by decide) (by decide), a2]; rfl)
  have hlaw := sl_law (hh := 46) (by decide) hx hs hS (a_first hS hp a7 a8)
  exact t_law_go (T := some 14) (ext := []) (c := 46) (s := 1939) (I := I) (L := L) hT hB (by rw [List.append_nil]; exact SHX_len _) (by decide) (by decide) hlaw
theorem go_0 {sc : mh_Sc} (hs : sc.1 ≤ 260) (hp : L_plain sc = some 0) : mh_W RL code 16 (some .boolean) false room_1 0 600000 7302250 (mh_scr sc) (mh_ans 1) 0 [] Z0 ZL 0 [(0, .ref 1040)] [] := by
  obtain ⟨K, M, P, hS⟩ := sck_ex hs
  obtain ⟨I5, e5, o5, a1, a2, a3, a4, -, -, -, -⟩ := s_init
  obtain ⟨I, L, b1, b2, b3, b4, b5, b6⟩ := s_build hS I5
  have hT : ∀ t, (some 14 : Option Nat) = some t → t < 46 := fun t ht => by cases ht; decide
  have hT2 : ∀ t, (some 18 : Option Nat) = some t → t < 46 := fun t ht => by cases ht; decide
  obtain ⟨a0, ha0⟩ := la_ex hs (show 0 < 2 ^ 31 by omega)
  have ha0 : L_at sc (0 : Int32) = some a0 := ha0
  obtain ⟨d1, hd1, e1⟩ := an_ex a0 (m := 1) (by decide)
  obtain ⟨d2, hd2, e2⟩ := an_ex (a0 >>> ((3 : Int32) &&& 31)) (m := 7) (by decide)
  have e1 : a0 &&& (1 : Int32) = nI d1 := e1
  have e2 : (a0 >>> ((3 : Int32) &&& 31)) &&& (7 : Int32) = nI d2 := e2
  have f71 : I 7 1 = 0 := (b4 7 1 (by decide) (by decide)).trans a4
  obtain ⟨It, c1, c2, c3, c4⟩ := s_feed (d1 := d1) (d2 := d2) (by omega) (by omega) f71
  have f05 : It 0 5 = nI 1 := ((c4 0 5 (by decide) (by decide) (by decide)).trans (b4 0 5 (by decide) (by decide))).trans a3
  obtain ⟨I', e, o, t1, t2, t3, t4, t5, t6, t7⟩ := s_text (d1 := d1) (d2 := d2) (by omega) (by omega) c2 c3 f05
  have m05 : mh_mx 46 I' It 0 5 = nI 2 := by rw [mh_mx_lo (by decide)]; exact t3
  have hf := s_force m05
  have hB := t_L_build1 (sc := sc) (r5 := (I5, zL, some 14)) (q := (I, L)) (It := It) (qt := (nI 1, I', some 18)) a1 hT b1 hp ha0 e1 (by omega) e2 (by omega) c1 t1 hT2 hf
  dsimp only at hB
  obtain ⟨Ie, hIe⟩ : ∃ Ie, Ie = mh_mx 46 (mh_u (mh_mx 46 I' It) 1 4 (nI 1)) (mh_mx 46 I' It) := ⟨_, rfl⟩
  rw [← hIe] at hB
  have ve : ∀ a i, a < 46 → ¬ (a = 1 ∧ i = 4) → Ie a i = I' a i := fun a i ha hn => by
    rw [hIe, mh_mx_lo ha, show mh_u (mh_mx 46 I' It) 1 4 (nI 1) a i = mh_mx 46 I' It a i from if_neg hn, mh_mx_lo ha]
  have vq : ∀ a i, (a = 2 ∨ a = 3) → Ie a i = I a i := fun a i ha => by
    rw [ve a i (by omega) (by omega), t2 a i (by omega) (by omega) (by omega) (by omega) (by omega), c4 a i (by omega) (by omega) (by omega)]
  have zI : ∀ a, a < 46 → mh_z Ie 52 a = Ie a := fun a ha => zz_a (by omega)
  have zL' : ∀ a, a < 46 → mh_zl (sbL L) 52 a = L a := fun a ha => by rw [zl_a (by omega), sbL_lo ha]
  have hx : XS 1 (mh_z Ie 52) (mh_zl (sbL L) 52) K M P (fun _ => false) e o := XS_of hS (by decide) (fun c hc => by rw [zI 2 (by decide), vq 2 c (.inl rfl)]; exact b2 c hc) (fun c hc => by rw [zI 3 (by decide), vq 3 c (.inr rfl)]; exact b3 c hc) (by rw [zL' 1 (by decide)]; exact b5) (by rw [zL' 1 (by decide)]; exact b6) t4 ⟨fun j hj => by rw [zI _ (by decide), ve _ _ (by decide) (by omega)]; exact t5.1 j hj, fun q hq => by rw [zI _ (by decide), ve _ _ (by decide) (by omega)]; exact t5.2 q hq⟩ (by rw [zI 1 (by decide), hIe, mh_mx_lo (by decide), pu_s])
  have hlaw := sl_law (hh := 52) (by decide) hx hs hS (a_second hS hp ha0 e1 e2 t6 t7)
  exact t_law_go (T := some 18) (ext := E6) (c := 52) (s := 2207) (I := Ie) (L := sbL L) hT2 hB (SHX_E6 _) (by decide) (by decide) hlaw
theorem go_true : go_all := by
  intro sc hs
  rcases pl_ex hs with h | h
  · exact go_1 hs h
  · exact go_0 hs h
