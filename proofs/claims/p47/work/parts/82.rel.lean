/-! PURE: the relation of the two states -/
def TXT (I J : mh_I) (v : Nat) : Prop := ∃ e o, tok e o ∧ cenc (14 + 4 * v) I e o ∧ renc v J e o
def Rcore (I : mh_I) (L : mh_L) (J : mh_I) (K M : Nat → Nat) (P N : Nat → Bool) (u n : Nat) : Prop := (cK 2 I K ∧ bK K 6 ∧ cK 3 I M ∧ bK M 10 ∧ L 1 2 = qS P ∧ L 1 3 = qS N ∧ I 1 4 = nI u) ∧ (cK 1 J K ∧ cK 2 J M ∧ (∀ c, c < 48 → J 3 c = nI (qb P c)) ∧ (∀ c, c < 48 → J 4 c = nI (qb N c)) ∧ J 0 9 = nI u) ∧ u < n ∧ n ≤ 6 ∧ I 0 5 = nI n ∧ J 0 8 = nI n ∧ ∀ v, v < n → TXT I J v
def Rimg (I : mh_I) (L : mh_L) (J : mh_I) (n : Nat) : Prop := (I 0 2 = 0 ∧ J 0 10 = 0) ∨ (I 0 2 = 1 ∧ J 0 10 = 1 ∧ ∃ K M P N u, (cK 5 I K ∧ bK K 6 ∧ cK 6 I M ∧ bK M 10 ∧ L 4 2 = qS P ∧ L 4 3 = qS N ∧ I 4 4 = nI u) ∧ (∀ c, c < 48 → J 8 c = nI (K c) ∧ J 8 (48 + c) = nI (M c) ∧ J 8 (96 + c) = nI (qb P c) ∧ J 8 (144 + c) = nI (qb N c)) ∧ J 0 11 = nI u ∧ u < n)
def Rtape (I J : mh_I) : Prop := ∃ z, z ≤ 160 ∧ I 7 1 = nI z ∧ J 0 5 = nI z ∧ ∀ i, i < z → ∃ b, b < 256 ∧ I 8 i = nI b ∧ J 5 i = nI b
def Rsheet (I J : mh_I) : Prop := ∀ s, s < 4 → (I (38 + 2 * s) 1 = -1 ∨ I (38 + 2 * s) 1 = 0 ∨ I (38 + 2 * s) 1 = 1 ∨ I (38 + 2 * s) 1 = 2) ∧ J 9 s = I (38 + 2 * s) 1 ∧ (∃ z, z ≤ 48 ∧ I (38 + 2 * s) 2 = nI z ∧ J 10 s = nI z) ∧ ∀ i, i < 48 → J 11 (48 * s + i) = I (39 + 2 * s) i
def wT : List Int32 := [114, 117, 98, 32, 32, 32, 32, 32, 109, 105, 110, 117, 116, 101, 115, 32, 115, 101, 101, 110, 32, 32, 32, 32, 114, 111, 119, 32, 32, 32, 32, 32, 112, 108, 97, 99, 101, 32, 32, 32, 109, 111, 114, 101, 32, 32, 32, 32, 112, 117, 108, 108, 32, 32, 32, 32, 102, 97, 99, 101, 32, 32, 32, 32, 109, 101, 110, 100, 101, 100, 32, 32, 111, 114, 32, 32, 32, 32, 32, 32, 97, 110, 100, 32, 32, 32, 32, 32, 110, 111, 116, 32, 32, 32, 32, 32]
def Rwords (J : mh_I) : Prop := ∀ k, k < 96 → J 13 k = wT.getD k 0
def Rel (T : Option Nat) (I : mh_I) (L : mh_L) (J : mh_I) : Prop := (∀ t, T = some t → t < 46) ∧ (∃ K M P N u n, Rcore I L J K M P N u n ∧ Rimg I L J n) ∧ Rtape I J ∧ Rsheet I J ∧ Rwords J
/-! what a call that is asked may change -/
def xx (I I' : mh_I) : Prop := ∀ b k, ¬ (b = 11 ∨ (14 ≤ b ∧ b < 38 ∧ (b % 4 = 1 ∨ (b % 4 = 2 ∧ k = 4))) ∨ (b = 7 ∧ 2 ≤ k)) → I' b k = I b k
def ll (L L' : mh_L) : Prop := ∀ b k, b ≠ 10 → b ≠ 13 → L' b k = L b k
def jj (J J' : mh_I) : Prop := ∀ b k, ¬ (14 ≤ b ∨ (b = 0 ∧ 17 ≤ k)) → J' b k = J b k
theorem xx_r (I : mh_I) : xx I I := fun _ _ _ => rfl
theorem ll_r (L : mh_L) : ll L L := fun _ _ _ _ => rfl
theorem jj_r (J : mh_I) : jj J J := fun _ _ _ => rfl
theorem xx_t {I I' I'' : mh_I} (h : xx I I') (h2 : xx I' I'') : xx I I'' := fun b k hb => (h2 b k hb).trans (h b k hb)
theorem ll_t {L L' L'' : mh_L} (h : ll L L') (h2 : ll L' L'') : ll L L'' := fun b k hb hb2 => (h2 b k hb hb2).trans (h b k hb hb2)
theorem jj_t {J J' J'' : mh_I} (h : jj J J') (h2 : jj J' J'') : jj J J'' := fun b k hb => (h2 b k hb).trans (h b k hb)
theorem xx_x {u : Nat} (hu : u < 6) {I I' : mh_I} (h : xfr u I I') : xx I I' := fun b k hb => h b k (by omega)
theorem ll_l {L L' : mh_L} (h : lfr L L') : ll L L' := fun b k hb _ => h b k hb
theorem jj_j {J J' : mh_I} (h : jfr J J') : jj J J' := fun b k hb => h b k (by omega)
theorem jj_16 {J J' : mh_I} (h : fr16 J J') : jj J J' := fun b k hb => h b k (by omega) (by omega)
theorem xx_s {u : Nat} (hu : u < 6) {I I' : mh_I} (h : sfr (14 + 4 * u) I I') : xx I I' := xx_x hu (xfr_s h)
theorem TXT_fr {I I' J J' : mh_I} {v : Nat} (hv : v < 6) (h : TXT I J v) (hI : xx I I') (hJ : jj J J') : TXT I' J' v := by
  obtain ⟨e, o, h1, h2, h3⟩ := h
  exact ⟨e, o, h1, ⟨fun j hj => (hI _ _ (by omega)).trans (h2.1 j hj), fun q hq => (hI _ _ (by omega)).trans (h2.2 q hq)⟩, ⟨fun j hj => (hJ _ _ (by omega)).trans (h3.1 j hj), fun q hq => (hJ _ _ (by omega)).trans (h3.2 q hq)⟩⟩
theorem Rcore_fr {I I' : mh_I} {L L' : mh_L} {J J' : mh_I} {K M : Nat → Nat} {P N : Nat → Bool} {u n : Nat} (h : Rcore I L J K M P N u n) (hI : xx I I') (hL : ll L L') (hJ : jj J J') : Rcore I' L' J' K M P N u n := by
  obtain ⟨⟨h1, h2, h3, h4, h5, h6, h7⟩, ⟨g1, g2, g3, g4, g5⟩, k1, k2, k3, k4, k5⟩ := h
  exact ⟨⟨fun c hc => (hI 2 c (by omega)).trans (h1 c hc), h2, fun c hc => (hI 3 c (by omega)).trans (h3 c hc), h4, (hL 1 2 (by decide) (by decide)).trans h5, (hL 1 3 (by decide) (by decide)).trans h6, (hI 1 4 (by omega)).trans h7⟩, ⟨fun c hc => (hJ 1 c (by omega)).trans (g1 c hc), fun c hc => (hJ 2 c (by omega)).trans (g2 c hc), fun c hc => (hJ 3 c (by omega)).trans (g3 c hc), fun c hc => (hJ 4 c (by omega)).trans (g4 c hc), (hJ 0 9 (by omega)).trans g5⟩, k1, k2, (hI 0 5 (by omega)).trans k3, (hJ 0 8 (by omega)).trans k4, fun v hv => TXT_fr (by omega) (k5 v hv) hI hJ⟩
theorem Rimg_fr {I I' : mh_I} {L L' : mh_L} {J J' : mh_I} {n : Nat} (h : Rimg I L J n) (hI : xx I I') (hL : ll L L') (hJ : jj J J') : Rimg I' L' J' n := by
  rcases h with ⟨h1, h2⟩ | ⟨h1, h2, K, M, P, N, u, ⟨a1, a2, a3, a4, a5, a6, a7⟩, b1, b2, b3⟩
  · exact .inl ⟨(hI 0 2 (by omega)).trans h1, (hJ 0 10 (by omega)).trans h2⟩
  · exact .inr ⟨(hI 0 2 (by omega)).trans h1, (hJ 0 10 (by omega)).trans h2, K, M, P, N, u, ⟨fun c hc => (hI 5 c (by omega)).trans (a1 c hc), a2, fun c hc => (hI 6 c (by omega)).trans (a3 c hc), a4, (hL 4 2 (by decide) (by decide)).trans a5, (hL 4 3 (by decide) (by decide)).trans a6, (hI 4 4 (by omega)).trans a7⟩, fun c hc => ⟨(hJ 8 _ (by omega)).trans (b1 c hc).1, (hJ 8 _ (by omega)).trans (b1 c hc).2.1, (hJ 8 _ (by omega)).trans (b1 c hc).2.2.1, (hJ 8 _ (by omega)).trans (b1 c hc).2.2.2⟩, (hJ 0 11 (by omega)).trans b2, b3⟩
theorem Rtape_fr {I I' J J' : mh_I} (h : Rtape I J) (hI : xx I I') (hJ : jj J J') : Rtape I' J' := by
  obtain ⟨z, h1, h2, h3, h4⟩ := h
  refine ⟨z, h1, (hI 7 1 (by omega)).trans h2, (hJ 0 5 (by omega)).trans h3, fun i hi => ?_⟩
  obtain ⟨b, g1, g2, g3⟩ := h4 i hi
  exact ⟨b, g1, (hI 8 i (by omega)).trans g2, (hJ 5 i (by omega)).trans g3⟩
theorem Rsheet_fr {I I' J J' : mh_I} (h : Rsheet I J) (hI : xx I I') (hJ : jj J J') : Rsheet I' J' := by
  intro s hs
  obtain ⟨h1, h2, ⟨z, h3, h4, h5⟩, h6⟩ := h s hs
  have e1 := hI (38 + 2 * s) 1 (by omega)
  have e2 := hI (38 + 2 * s) 2 (by omega)
  refine ⟨by rw [e1]; exact h1, by rw [e1, hJ 9 s (by omega)]; exact h2, ⟨z, h3, e2.trans h4, (hJ 10 s (by omega)).trans h5⟩, fun i hi => by rw [hJ 11 _ (by omega), hI (39 + 2 * s) i (by omega)]; exact h6 i hi⟩
theorem Rel_fr {T : Option Nat} {I I' : mh_I} {L L' : mh_L} {J J' : mh_I} (h : Rel T I L J) (hI : xx I I') (hL : ll L L') (hJ : jj J J') : Rel T I' L' J' := by
  obtain ⟨h1, ⟨K, M, P, N, u, n, h2, h3⟩, h4, h5, h6⟩ := h
  exact ⟨h1, ⟨K, M, P, N, u, n, Rcore_fr h2 hI hL hJ, Rimg_fr h3 hI hL hJ⟩, Rtape_fr h4 hI hJ, Rsheet_fr h5 hI hJ, fun k hk => (hJ 13 k (by omega)).trans (h6 k hk)⟩
/-! both sides at once -/
theorem pl_2 {σ τ ρ υ : Type} (F : Nat → Nat → σ → Option ρ) (G : Nat → Nat → τ → Option υ) (n : Nat) (Q : Option ρ → Option υ → Prop) (Inv : Nat → σ → τ → Prop) (hx : ∀ f s t, Inv n s t → Q (F (f + 1) n s) (G (f + 1) n t)) (hs : ∀ f j s t, j < n → Inv j s t → (∃ s' t', Inv (j + 1) s' t' ∧ F (f + 1) j s = F f (j + 1) s' ∧ G (f + 1) j t = G f (j + 1) t') ∨ Q (F (f + 1) j s) (G (f + 1) j t)) : ∀ f j s t, j ≤ n → n - j < f → Inv j s t → Q (F f j s) (G f j t) := by
  intro f
  induction f with
  | zero => intro j s t _ h; omega
  | succ f ih =>
    intro j s t hj hf hI
    by_cases h : j = n
    · subst h; exact hx f s t hI
    · rcases hs f j s t (by omega) hI with ⟨s', t', h1, h2, h3⟩ | h1
      · rw [h2, h3]; exact ih (j + 1) s' t' (by omega) (by omega) h1
      · exact h1
/-- what a run needs of both -/
def R2 (I : mh_I) (L : mh_L) (J : mh_I) (K M : Nat → Nat) (P N : Nat → Bool) (u : Nat) (e o : Nat → Nat) : Prop := cSt u I L K M P N e o ∧ rStt u J K M P N e o ∧ I 1 4 = nI u
theorem R2_of {I : mh_I} {L : mh_L} {J : mh_I} {K M : Nat → Nat} {P N : Nat → Bool} {u n : Nat} (h : Rcore I L J K M P N u n) : ∃ e o, R2 I L J K M P N u e o := by
  obtain ⟨⟨h1, h2, h3, h4, h5, h6, h7⟩, ⟨g1, g2, g3, g4, g5⟩, k1, k2, k3, k4, k5⟩ := h
  obtain ⟨e, o, m1, m2, m3⟩ := k5 u k1
  exact ⟨e, o, ⟨h1, h2, h3, h4, h5, h6, by omega, m1, m2⟩, ⟨g1, h2, g2, h4, g3, g4, by omega, g5, m1, m3⟩, h7⟩
theorem R2_fr {I I' : mh_I} {L L' : mh_L} {J J' : mh_I} {K M : Nat → Nat} {P N : Nat → Bool} {u : Nat} {e o : Nat → Nat} (h : R2 I L J K M P N u e o) (hI : xx I I') (hL : ll L L') (hJ : jj J J') : R2 I' L' J' K M P N u e o := by
  obtain ⟨⟨h1, h2, h3, h4, h5, h6, h7, h8, h9, h10⟩, ⟨g1, g2, g3, g4, g5, g6, g7, g8, g9, g10, g11⟩, k⟩ := h
  exact ⟨⟨fun c hc => (hI 2 c (by omega)).trans (h1 c hc), h2, fun c hc => (hI 3 c (by omega)).trans (h3 c hc), h4, (hL 1 2 (by decide) (by decide)).trans h5, (hL 1 3 (by decide) (by decide)).trans h6, h7, h8, fun j hj => (hI _ j (by omega)).trans (h9 j hj), fun q hq => (hI _ q (by omega)).trans (h10 q hq)⟩, ⟨fun c hc => (hJ 1 c (by omega)).trans (g1 c hc), g2, fun c hc => (hJ 2 c (by omega)).trans (g3 c hc), g4, fun c hc => (hJ 3 c (by omega)).trans (g5 c hc), fun c hc => (hJ 4 c (by omega)).trans (g6 c hc), g7, (hJ 0 9 (by omega)).trans g8, g9, fun j hj => (hJ _ _ (by omega)).trans (g10 j hj), fun q hq => (hJ _ _ (by omega)).trans (g11 q hq)⟩, (hI 1 4 (by omega)).trans k⟩
theorem isRun_0 {K : Nat → Nat} {P D : Nat → Bool} {p : Nat} {rb : Nat → Nat → Nat} {R : Nat → Nat} (h : isRun K (qkp K P) D p rb R) : isRun K (fun c => (fun _ => false) c || qkp K P c) D p rb R := h
/-- after a run: R tells both -/
def ranX (I' : mh_I) (L' : mh_L) (K R : Nat → Nat) : Prop := (∀ c, c < 48 → I' 11 c = dI (R c)) ∧ L' 10 1 = qS (fun c => decide (0 < R c)) ∧ L' 10 2 = qS (fun c => decide (R c = 0) && decide (0 < rA K R c))
def gn (R : Nat → Nat) : Nat := qC (fun c => decide (0 < R c)) 48
def ranM (J' : mh_I) (R : Nat → Nat) : Prop := (∀ c, c < 48 → J' 17 c = dI (R c)) ∧ J' 0 29 = nI (gn R)
theorem X5_law_ok {I : mh_I} {u : Nat} (h : I 1 4 = nI u) (hu : u < 6) : X5_law I = some (14 + 4 * u) := by
  unfold X5_law
  rw [h, px_ix hu (by decide)]
theorem pd_drop {I : mh_I} {L : mh_L} {J : mh_I} {K M : Nat → Nat} {P N : Nat → Bool} {u : Nat} {e o : Nat → Nat} (h : R2 I L J K M P N u e o) {c p : Nat} (hc : c < 48) (hp : p < 100) : ∃ R I' L' J', isRun K (qkp K P) (fun i => decide (i = c)) p (rbf e o K M N) R ∧ X5_drop (nI c) (nI p) I L = some (nI (gn R), I', L') ∧ X6_runsFrom (nI c) (nI p) J = some J' ∧ ranX I' L' K R ∧ ranM J' R ∧ xx I I' ∧ ll L L' ∧ jj J J' ∧ (∀ c, c < 48 → R c ≤ 100) := by
  obtain ⟨R, hr⟩ := isRun_ex K (qkp K P) (fun i => decide (i = c)) p (rbf e o K M N)
  obtain ⟨I', L', a1, a2, a3, a4, a5, a6⟩ := cx_run (H := fun _ => false) h.1 hp (isRun_0 hr)
  obtain ⟨J', b1, b2, b3, b4⟩ := cm_run h.2.1 hp hr
  have hu : u < 6 := h.1.2.2.2.2.2.2.1
  refine ⟨R, I', L', J', hr, ?_, ?_, ⟨a2, a3, a4⟩, ⟨b2, b3⟩, xx_x hu a5, ll_l a6, jj_j b4, fun i hi => by have := run_le hr i hi; omega⟩
  · unfold X5_drop
    rw [X5_law_ok h.2.2 hu, po_b, qS_bit hc, po_b, qS_0, a1]
    rfl
  · unfold X6_runsFrom
    rw [qS_sh hc, b1]
    rfl
theorem gn_le (R : Nat → Nat) : gn R ≤ 48 := qC_le _ 48
