/-! PURE: the script's own reading of a run -/
theorem an_ex (x : Int32) {m : Nat} (hm : m < 2 ^ 31) : ∃ j, j ≤ m ∧ x &&& nI m = nI j := by
  refine ⟨(x.toBitVec &&& BitVec.ofNat 32 m).toNat, ?_, ?_⟩
  · rw [BitVec.toNat_and, BitVec.toNat_ofNat, Nat.mod_eq_of_lt (show m < 2 ^ 32 by omega)]
    exact Nat.and_le_right
  · apply Int32.toBitVec_inj.mp
    rw [Int32.toBitVec_and]
    show _ = BitVec.ofNat 32 _
    rw [BitVec.ofNat_toNat, BitVec.setWidth_eq]
    rfl
def dL : Nat → Int64
  | 0 => -1
  | r + 1 => lN r
theorem dI_l {r : Nat} (h : r < 2 ^ 31) : (dI r).toInt64 = dL r := by
  cases r with
  | zero => rfl
  | succ r => exact nI_l (show r < 2 ^ 31 by omega)
theorem dL_i {r : Nat} : (dL r).toInt32 = dI r := by
  cases r with
  | zero => rfl
  | succ r => exact lN_i r
theorem dL_pos {r : Nat} (h : 0 < r) : dL r = lN (r - 1) := by
  cases r with
  | zero => omega
  | succ r => rfl
theorem dL_ge {r : Nat} (h : r < 2 ^ 31) : (0 ≤ lg_cmp (dL r) (0 : Int64)) = (0 < r) := by
  apply propext
  rw [lg_cmp_ge]
  cases r with
  | zero => exact ⟨fun hh => absurd hh (by decide), fun hh => by omega⟩
  | succ r => exact ⟨fun _ => Nat.succ_pos r, fun _ => (lN_le (a := 0) (by decide) (by omega)).mpr (Nat.zero_le r)⟩
theorem dL_lt {r : Nat} (h : r < 2 ^ 31) : (lg_cmp (dL r) (0 : Int64) < 0) = (r = 0) := by
  apply propext
  rw [lg_cmp_lt]
  cases r with
  | zero => exact ⟨fun _ => rfl, fun _ => by decide⟩
  | succ r => exact ⟨fun hh => absurd ((lN_lt (b := 0) (by omega) (by decide)).mp hh) (Nat.not_lt_zero r), fun hh => by omega⟩
theorem dL_max {a b : Nat} (ha : a ≤ 100) (hb : b ≤ 100) : mh_maxl (dL a) (dL b) = dL (max a b) := by
  unfold mh_maxl
  cases b with
  | zero =>
    rw [Nat.max_eq_left (Nat.zero_le a)]
    cases a with
    | zero => rfl
    | succ a => rw [if_pos]; exact Int64.lt_iff_toInt_lt.mpr (by show (-1 : Int64).toInt < (lN a).toInt; rw [lN_toInt (by omega)]; show (-1 : Int) < _; omega)
  | succ b =>
    cases a with
    | zero =>
      rw [Nat.max_eq_right (Nat.zero_le _), if_neg]
      intro hh
      have := Int64.lt_iff_toInt_lt.mp hh
      rw [show dL (b + 1) = lN b from rfl, lN_toInt (by omega)] at this
      have e : (dL 0).toInt = -1 := rfl
      omega
    | succ a =>
      show (if lN b < lN a then lN a else lN b) = _
      by_cases h : b < a
      · rw [if_pos ((lN_lt (by omega) (by omega)).mpr h), Nat.max_eq_left (by omega)]; rfl
      · rw [if_neg (fun hh => h ((lN_lt (by omega) (by omega)).mp hh)), Nat.max_eq_right (by omega)]; rfl
/-- what the script says of each loop -/
def SCK (sc : mh_Sc) (K M : Nat → Nat) (P : Nat → Bool) : Prop := bK K 6 ∧ bK M 10 ∧ (∀ c, c < 48 → L_kind sc (nI c) = some (nI (K c))) ∧ (∀ c, c < 48 → L_more sc (nI c) = some (nI (M c))) ∧ (∀ c, c < 48 → L_pinned sc (nI c) = some (nI (qb P c)))
def SCA (sc : mh_Sc) (K M : Nat → Nat) (N : Nat → Bool) (e o : Nat → Nat) : Prop := ∀ q c m, q < 3 → c < 48 → m < 100 → L_asks sc (nI q) (nI c) (nI m) (0 : Int32) = some (nI (sd e o K M N q c m))
theorem sl_keeps {sc : mh_Sc} {K M : Nat → Nat} {P : Nat → Bool} (h : SCK sc K M P) {c : Nat} (hc : c < 48) : L_keeps sc (nI c) = some (nI (qb (qkp K P) c)) := by
  obtain ⟨h1, h2, h3, h4, h5⟩ := h
  have hk := h1 c hc
  unfold L_keeps
  rw [h3 c hc, po_b, h5 c hc]
  unfold qb qkp
  simp (disch := omega) only [pn_er, po_b]
  by_cases e : K c = 5
  · rw [if_pos e, e]; rfl
  · rw [if_neg e, beq_eq_false_iff_ne.mpr e, Bool.false_or]
    cases P c <;> rfl
theorem tL_6 : ∀ k, k < 6 → ∀ p, p < 6 → (if nI (p % 2) = 0 then (if nI k = 2 then some (((1 : Int32) <<< (nI p &&& 31)) <<< ((1 : Int32) &&& 31)) else if nI k = 3 then some (((1 : Int32) <<< (nI p &&& 31)) ||| (((1 : Int32) <<< (nI p &&& 31)) <<< ((1 : Int32) &&& 31))) else if nI k = 4 then some (0 : Int32) else some ((1 : Int32) <<< (nI p &&& 31))) else (if nI k = 2 then some (((1 : Int32) <<< (nI p &&& 31)) >>> ((1 : Int32) &&& 31)) else if nI k = 3 then some (((1 : Int32) <<< (nI p &&& 31)) ||| (((1 : Int32) <<< (nI p &&& 31)) >>> ((1 : Int32) &&& 31))) else if nI k = 4 then some (0 : Int32) else some ((1 : Int32) <<< (nI p &&& 31)))) = some (nI (tN k p)) := by decide
theorem tN_b0 : ∀ k, k < 6 → ∀ p, p < 6 → ∀ q, q < 6 → (((nI (tN k p) >>> (nI q &&& 31)) &&& (1 : Int32)) = 0 ↔ ¬ ((q = p ∧ qO k = true) ∨ (q = pnb p ∧ qX k = true))) := by decide
theorem sl_through {sc : mh_Sc} {K M : Nat → Nat} {P : Nat → Bool} (h : SCK sc K M P) {c : Nat} (hc : c < 48) : L_through sc (nI c) = some (nI (tN (K c) (c % 6))) := by
  obtain ⟨h1, h2, h3, h4, h5⟩ := h
  unfold L_through
  simp (disch := omega) only [pj_b, pj_j, pn_rm, h3 c hc, po_b]
  rw [← tL_6 (K c) (h1 c hc) (c % 6) (Nat.mod_lt _ (by decide)), show c % 6 % 2 = c % 2 by omega]
theorem sl_gt {K : Nat → Nat} {c y : Nat} (hb : bK K 6) (hc : c < 48) (hy : y < 48) (hr : y / 6 = c / 6 + 1) : (((nI (tN (K y) (y % 6)) >>> (nI (c % 6) &&& 31)) &&& (1 : Int32)) = 0) = (qgt K y c = false) := by
  apply propext
  rw [tN_b0 (K y) (hb y hy) (y % 6) (Nat.mod_lt _ (by decide)) (c % 6) (Nat.mod_lt _ (by decide))]
  have e1 : (c % 6 = y % 6) ↔ (y = c + 6) := by omega
  have e2 : (c % 6 = pnb (y % 6)) ↔ (y = pnb c + 6) := by unfold pnb; omega
  rw [e1, e2, ← Bool.not_eq_true]
  unfold qgt
  simp only [decide_eq_true hy, Bool.true_and, Bool.or_eq_true, Bool.and_eq_true, decide_eq_true_eq]
def cmx (K R : Nat → Nat) (c : Nat) : Nat → Nat
  | 0 => 0
  | y + 1 => if qgt K y c = true then max (cmx K R c y) (R y) else cmx K R c y
theorem cmx_ch (K R : Nat → Nat) (c : Nat) : ∀ n, (∀ y, y < n → qgt K y c = true → R y ≤ cmx K R c n) ∧ (cmx K R c n = 0 ∨ ∃ y, y < n ∧ qgt K y c = true ∧ R y = cmx K R c n) := by
  intro n
  induction n with
  | zero => exact ⟨fun y hy => absurd hy (Nat.not_lt_zero y), .inl rfl⟩
  | succ n ih =>
    obtain ⟨h1, h2⟩ := ih
    rw [cmx]
    by_cases hq : qgt K n c = true
    · rw [if_pos hq]
      refine ⟨fun y hy hyq => ?_, ?_⟩
      · by_cases e : y = n
        · subst e; exact Nat.le_max_right _ _
        · exact Nat.le_trans (h1 y (by omega) hyq) (Nat.le_max_left _ _)
      · by_cases hle : cmx K R c n ≤ R n
        · rw [Nat.max_eq_right hle]
          exact .inr ⟨n, Nat.lt_succ_self n, hq, rfl⟩
        · rw [Nat.max_eq_left (by omega)]
          rcases h2 with h2 | ⟨y, g1, g2, g3⟩
          · exact .inl h2
          · exact .inr ⟨y, by omega, g2, g3⟩
    · rw [if_neg hq]
      refine ⟨fun y hy hyq => ?_, ?_⟩
      · by_cases e : y = n
        · subst e; exact absurd hyq hq
        · exact h1 y (by omega) hyq
      · rcases h2 with h2 | ⟨y, g1, g2, g3⟩
        · exact .inl h2
        · exact .inr ⟨y, by omega, g2, g3⟩
theorem rA_ch {K R : Nat → Nat} {c : Nat} (h : ∀ y, y < 48 → qgt K y c = true → 0 < R y) : (∀ y, y < 48 → qgt K y c = true → R y ≤ rA K R c) ∧ (rA K R c = 0 ∨ ∃ y, y < 48 ∧ qgt K y c = true ∧ R y = rA K R c) := by
  have hq : ∀ y, y < 48 → (qgt K y c = true ↔ (y = c + 6 ∧ qO (K (c + 6)) = true) ∨ (y = pnb c + 6 ∧ qX (K (pnb c + 6)) = true)) := by
    intro y hy
    unfold qgt
    simp only [decide_eq_true hy, Bool.true_and, Bool.or_eq_true, Bool.and_eq_true, decide_eq_true_eq]
    constructor
    · rintro (⟨h1, h2⟩ | ⟨h1, h2⟩)
      · subst h1; exact .inl ⟨rfl, h2⟩
      · subst h1; exact .inr ⟨rfl, h2⟩
    · rintro (⟨h1, h2⟩ | ⟨h1, h2⟩)
      · subst h1; exact .inl ⟨rfl, h2⟩
      · subst h1; exact .inr ⟨rfl, h2⟩
  by_cases hc : c < 42
  · have l1 : c + 6 < 48 := by omega
    have l2 : pnb c + 6 < 48 := by unfold pnb; omega
    have p1 : qO (K (c + 6)) = true → 0 < R (c + 6) := fun e => h _ l1 ((hq _ l1).mpr (.inl ⟨rfl, e⟩))
    have p2 : qX (K (pnb c + 6)) = true → 0 < R (pnb c + 6) := fun e => h _ l2 ((hq _ l2).mpr (.inr ⟨rfl, e⟩))
    have m1 : ∀ v, qO (K (c + 6)) = true → R (c + 6) = v → ∃ y, y < 48 ∧ qgt K y c = true ∧ R y = v := fun v e1 e2 => ⟨_, l1, (hq _ l1).mpr (.inl ⟨rfl, e1⟩), e2⟩
    have m2 : ∀ v, qX (K (pnb c + 6)) = true → R (pnb c + 6) = v → ∃ y, y < 48 ∧ qgt K y c = true ∧ R y = v := fun v e1 e2 => ⟨_, l2, (hq _ l2).mpr (.inr ⟨rfl, e1⟩), e2⟩
    have mm : (∀ y, y < 48 → qgt K y c = true → R y ≤ rA K R c) ↔ ((qO (K (c + 6)) = true → R (c + 6) ≤ rA K R c) ∧ (qX (K (pnb c + 6)) = true → R (pnb c + 6) ≤ rA K R c)) := by
      constructor
      · intro g
        exact ⟨fun e => g _ l1 ((hq _ l1).mpr (.inl ⟨rfl, e⟩)), fun e => g _ l2 ((hq _ l2).mpr (.inr ⟨rfl, e⟩))⟩
      · rintro ⟨g1, g2⟩ y hy hyq
        rcases (hq y hy).mp hyq with ⟨rfl, e⟩ | ⟨rfl, e⟩
        · exact g1 e
        · exact g2 e
    rw [mm]
    rw [rA, if_pos hc]
    clear mm hq h
    cases h1 : qO (K (c + 6)) <;> cases h2 : qX (K (pnb c + 6)) <;> simp only [Bool.false_eq_true, if_false, if_true, false_implies, true_implies, and_self, true_and, and_true]
    · exact .inl trivial
    · exact ⟨Nat.le_refl _, .inr (m2 _ h2 rfl)⟩
    · exact ⟨Nat.le_refl _, .inr (m1 _ h1 rfl)⟩
    · have p1 := p1 h1
      have p2 := p2 h2
      rw [if_neg (by omega)]
      refine ⟨⟨Nat.le_max_left _ _, Nat.le_max_right _ _⟩, .inr ?_⟩
      by_cases hle : R (c + 6) ≤ R (pnb c + 6)
      · exact m2 _ h2 (Nat.max_eq_right hle).symm
      · exact m1 _ h1 (Nat.max_eq_left (by omega)).symm
  · have h0 : rA K R c = 0 := by rw [rA, if_neg hc]
    refine ⟨fun y hy hyq => ?_, .inl h0⟩
    have := qgt_row hyq
    omega
theorem sl_come {sc : mh_Sc} {K M R : Nat → Nat} {P : Nat → Bool} (h : SCK sc K M P) {hh c : Nat} {L : mh_L} (hc : c < 48) (hL : ∀ y, y < 48 → y / 6 = c / 6 + 1 → L hh y = dL (R y)) (hl : ∀ y, y < 48 → R y ≤ 100) : L_come sc hh (nI c) L = some (dL (rA K R c)) := by
  obtain ⟨F, hF, eF⟩ := fuel_ex
  unfold L_come
  rw [eF]
  simp (disch := omega) only [pj_b, pn_dv, pn_ml, pn_al]
  have hcl : ∀ n, cmx K R c n ≤ 100 := by
    intro n
    rcases (cmx_ch K R c n).2 with e | ⟨y, g1, g2, g3⟩
    · omega
    · have := hl y (qgt_gt g2).2; omega
  refine pl_up (fun f j s => L_come_l16 sc hh (nI c) L f s j) (min 48 (c / 6 * 6 + 12)) (fun r => r = some (dL (rA K R c))) (fun j s => c / 6 * 6 + 6 ≤ j ∧ s = dL (cmx K R c j) ∧ ∀ y, y < j → qgt K y c = true → 0 < R y) ?_ ?_ F (c / 6 * 6 + 6) (-1 : Int64) (by omega) (by omega) ⟨Nat.le_refl _, ?_, fun y hy hq => by have := qgt_row hq; omega⟩
  · rintro f s ⟨-, hs, hp⟩
    have hpos : ∀ y, y < 48 → qgt K y c = true → 0 < R y := fun y hy hq => hp y (by have := qgt_row hq; omega) hq
    have e : cmx K R c (min 48 (c / 6 * 6 + 12)) = rA K R c := by
      obtain ⟨a1, a2⟩ := cmx_ch K R c (min 48 (c / 6 * 6 + 12))
      obtain ⟨b1, b2⟩ := rA_ch hpos
      have l1 : cmx K R c (min 48 (c / 6 * 6 + 12)) ≤ rA K R c := by
        rcases a2 with e | ⟨y, g1, g2, g3⟩
        · omega
        · have := b1 y (by omega) g2; omega
      have l2 : rA K R c ≤ cmx K R c (min 48 (c / 6 * 6 + 12)) := by
        rcases b2 with e | ⟨y, g1, g2, g3⟩
        · omega
        · have := a1 y (by have := qgt_row g2; omega) g2; omega
      omega
    show L_come_l16 sc hh (nI c) L (f + 1) s (nI (min 48 (c / 6 * 6 + 12))) = _
    rw [L_come_l16]
    simp (disch := omega) only [pn_dv, pn_ml, pn_al, pn_ll, pn_le]
    rw [hs, e]
    by_cases hx : 48 ≤ min 48 (c / 6 * 6 + 12)
    · rw [if_pos hx]
    · rw [if_neg hx, if_pos (by omega)]
  · rintro f j s hj ⟨h0, hs, hp⟩
    have hj48 : j < 48 := by omega
    have hjr : j / 6 = c / 6 + 1 := by omega
    have hle := hl j hj48
    show (∃ s', _ ∧ L_come_l16 sc hh (nI c) L (f + 1) s (nI j) = _) ∨ L_come_l16 sc hh (nI c) L (f + 1) s (nI j) = _
    rw [L_come_l16, sl_through h hj48]
    simp (disch := omega) only [pn_dv, pn_ml, pn_al, pn_ll, pn_le, pn_rm, po_b, pj_j, pj_b, sl_gt h.1 hc hj48 hjr, px_ix, hL j hj48 hjr, dL_ge, if_neg]
    cases hq : qgt K j c
    · left
      refine ⟨dL (cmx K R c (j + 1)), ⟨by omega, rfl, fun y hy hyq => ?_⟩, ?_⟩
      · by_cases ey : y = j
        · subst ey; rw [hq] at hyq; cases hyq
        · exact hp y (by omega) hyq
      · rw [if_pos rfl, hs, cmx, hq, if_neg (by decide)]
    · rw [if_neg (by decide)]
      by_cases hr : 0 < R j
      · left
        refine ⟨dL (cmx K R c (j + 1)), ⟨by omega, rfl, fun y hy hyq => ?_⟩, ?_⟩
        · by_cases ey : y = j
          · subst ey; exact hr
          · exact hp y (by omega) hyq
        · rw [if_pos hr, hs, dL_max (hcl j) hle, cmx, hq, if_pos rfl]
      · right
        rw [if_neg hr]
        have : rA K R c = 0 := by
          rcases Nat.eq_zero_or_pos (rA K R c) with h | h
          · exact h
          · have := (rA_free.mp h).2 j hj48 hq; omega
        rw [this]; rfl
  · have : ∀ n, n ≤ c / 6 * 6 + 6 → cmx K R c n = 0 := by
      intro n
      induction n with
      | zero => intro _; rfl
      | succ n ih =>
        intro hn
        rw [cmx]
        cases hq : qgt K n c
        · rw [if_neg (by decide), ih (by omega)]
        · have := qgt_row hq; omega
    rw [this _ (Nat.le_refl _)]
    rfl
