theorem mh_E.congr {A : Nat → Prop} {ad ad' : Nat → Nat} {U : State} (h : mh_E A ad U) (e : ∀ a, 1000 ≤ a → ad' a = ad a) : mh_E A ad' U := by
  have e1 : (fun i => ad' (1000 + i)) = fun i => ad (1000 + i) := funext fun i => e _ (Nat.le_add_right _ _)
  have e2 : (fun i => ad' (1010 + i)) = fun i => ad (1010 + i) := funext fun i => e _ (by omega)
  unfold mh_E at h ⊢
  rw [e1, e2, e 1000 (Nat.le_refl _), e 1001 (by omega), e 1020 (by omega)]
  exact h
theorem ml_run {L0 : Nat} {xs : Nat → Int32} {p : Program} {l : Launch} {e : Env} {s : State} {m : MethodId} {below : List Frame} {meth : Method} {c : Code} {b : Nat} {ad : Nat → Nat} {A : Nat → Prop} {D : va_G} {H : Heap} {locs : List Loc} {ls : Array Slot} {pc : Nat} {Q : State → Prop} {sh : List mh_C} {n : Nat} {I : mh_I} {L : mh_L} {ad1 : Nat → Nat} {cA : Nat → ClassId} {wb : va_W} {index k ci : Nat} {y : MethodName} {bytes : ByteArray} {maxL : Nat} {rty : Option FieldType} {dc : Nat} {fs : List mh_F} {TT : u_T} {N : Nat} {Φ : mh_P} {As stv : List Value}
    (K : ml_K L0 xs p s m meth c b ad A) (hP : va_P D vwCl (mh_ws ad1 cA sh I L ++ wb) H) (hD : va_D A (mh_ws ad1 cA sh I L ++ wb)) (hK0 : va_K D vwCl [] s) (hKA : ∀ (a t n : Nat) (r : Nat → Option Nat), sh[a]? = some (.inr (t, n, r)) → va_K D vwCl [(cA a, mh_ty t)] s) (hS : va_S A s.heap H locs) (hsz : ls.size = 4) (hn : sh.length = n) (hn2 : n < 1000) (h0 : 0 < n) (hok : ∀ c ∈ sh, ml_ok n c) (hs : sh[0]? = some (.inl (ci, fs))) (hci : vwCl[ci]? = some (y.cls, TT, N))
    (q : mh_cv RL index y k) (hlink : Cond.methodLink RL index y ∈ mh_TB) (hcode : Cond.code y bytes maxL rty ∈ mh_TB) (hd : decode code pc = .ok (.invokevirtual index, 3)) (hAs : As.length = k) (hint : ∀ f : Nat → Nat, As.map (mh_v f) = As)
    (hC : mh_CT y bytes maxL rty (mh_rm dc) sh I L (.ref 0 :: As) Φ) (hR : dc ≤ 2047 ∧ maxL ≤ 21) (hrest : (stv.map fun v => v.category).sum ≤ 8)
    (kk : ∀ (r : Option Value) (cA' : Nat → ClassId) (sh' : List mh_C) (I' : mh_I) (L' : mh_L) (H1 : Heap) (locs1 : List Loc), Φ r sh' I' L' → va_P D vwCl (mh_ws (ml_ad ad1 ad n H.size) cA' sh' I' L' ++ wb) H1 → va_D A (mh_ws (ml_ad ad1 ad n H.size) cA' sh' I' L' ++ wb) → (∀ (a t n : Nat) (r : Nat → Option Nat), sh'[a]? = some (.inr (t, n, r)) → va_K D vwCl [(cA' a, mh_ty t)] s) → va_S A s.heap H1 locs1 →
      W p l e room_1 s m #[Value.ref b] below meth c H1 locs1 600000 7302250 Q (F0 m (pc + 3) ls ((r.map (mh_v (ml_ad ad1 ad n H.size))).toList ++ stv))) :
    W p l e room_1 s m #[Value.ref b] below meth c H locs 600000 7302250 Q (F0 m pc ls (As.reverse ++ .ref (ad1 0) :: stv)) := by
  subst hn
  have hw : mh_ws (ml_ad ad1 ad sh.length H.size) cA sh I L = mh_ws ad1 cA sh I L := ml_ws rfl hok (fun a ha => if_pos ha) cA I L
  have had : ∀ a : Nat, sh.length ≤ a → a < 1000 → ml_ad ad1 ad sh.length H.size a = H.size + (a - sh.length) := fun a h1 h2 => by
    unfold ml_ad
    rw [if_neg (by omega), if_pos h2]
  have hlow : ∀ a : Nat, a < sh.length → ml_ad ad1 ad sh.length H.size a = ad1 a := fun a ha => if_pos ha
  have hhigh : ∀ a : Nat, 1000 ≤ a → ml_ad ad1 ad sh.length H.size a = ad a := fun a ha => by
    unfold ml_ad
    rw [if_neg (by omega), if_neg (by omega)]
  have hM := hC l D (ml_ad ad1 ad sh.length H.size) cA H.size hn2 had
  have at1 : ∀ a : Nat, a < sh.length → ∃ x, (mh_ws ad1 cA sh I L)[a]? = some (ad1 a, x) := fun a ha => by
    obtain ⟨x, hx⟩ : ∃ x, sh[a]? = some x := ⟨_, List.getElem?_eq_getElem ha⟩
    exact ⟨_, mh_ws_at hx⟩
  have hAA : ∀ q, mh_A (ml_ad ad1 ad sh.length H.size) sh.length H.size q → A q := by
    intro q hq
    rcases hq with ⟨a, h1, rfl⟩ | hq
    · obtain ⟨x, hx⟩ := at1 a h1
      rw [hlow a h1]
      exact (ml_Dl hD).2 a _ hx
    · exact (K.hA q).mpr (Nat.le_trans hS.1 hq)
  have hnA : ∀ (j : Nat) (x : Nat × va_E), wb[j]? = some x → ¬ mh_A (ml_ad ad1 ad sh.length H.size) sh.length H.size x.1 ∧ x.1 < H.size := by
    intro j x hx
    have hl := (ml_Pr hP j x hx).lt
    refine ⟨fun h => ?_, hl⟩
    rcases h with ⟨a, h1, h2⟩ | h
    · obtain ⟨z, hz⟩ := at1 a h1
      rw [hlow a h1] at h2
      exact ml_Dx hD a j _ x hz hx h2.symm
    · omega
  have hpre : ∀ U : State, U.heap = H → s.WarmedH U.vm → U.heap.size = H.size ∧ mh_B D (ml_ad ad1 ad sh.length H.size) cA (mh_A (ml_ad ad1 ad sh.length H.size) sh.length H.size) sh I L U.heap U ∧ mh_E (mh_A (ml_ad ad1 ad sh.length H.size) sh.length H.size) (ml_ad ad1 ad sh.length H.size) U := by
    intro U hU hW
    refine ⟨by rw [hU], ?_, ?_⟩
    · rw [hU]
      refine (mh_B.moved hW.alike (?_ : mh_B D (ml_ad ad1 ad sh.length H.size) cA (mh_A (ml_ad ad1 ad sh.length H.size) sh.length H.size) sh I L H s))
      refine ⟨by rw [hw]; exact ml_Pl hP, ?_, hK0, hKA⟩
      rw [hw]
      refine (ml_Dl hD).weaken (fun k q hk _ => ?_)
      have hk1 : k < sh.length := by
        have := (List.getElem?_eq_some_iff.mp hk).1
        rw [mh_ws_len] at this
        exact this
      obtain ⟨z, hz⟩ := at1 k hk1
      rw [hz] at hk
      cases hk
      exact Or.inl ⟨k, hk1, (hlow k hk1).symm⟩
    · exact (K.e.move hW (fun a h1 h2 => by rw [hU]; exact hS.2.1 a h1 h2) hAA).congr hhigh
  obtain ⟨⟨-, hini', hy, hdesc⟩, hinst, hsel⟩ := q
  have hPc : ((Value.ref 0 :: As).map (mh_v (ml_ad ad1 ad sh.length H.size))) = Value.ref (ad1 0) :: As := by
    rw [List.map_cons, hint]
    show Value.ref (ml_ad ad1 ad sh.length H.size 0) :: As = _
    rw [hlow 0 h0]
  rw [hPc] at hM
  have hpv : PreV s H y.cls (ad1 0) (va_Pc (Value.ref (ad1 0) :: As) (fun U => U.heap.size = H.size ∧ mh_B D (ml_ad ad1 ad sh.length H.size) cA (mh_A (ml_ad ad1 ad sh.length H.size) sh.length H.size) sh I L U.heap U ∧ mh_E (mh_A (ml_ad ad1 ad sh.length H.size) sh.length H.size) (ml_ad ad1 ad sh.length H.size) U)) As :=
    ⟨mh_blind, va_recv (ci := ci) (q := (y.cls, TT, N)) hK0 (ml_Pl hP) hci (mh_ws_at hs), fun U hU hW => ⟨rfl, hpre U hU hW⟩⟩
  have hrun := va_runV (l := l) (e := e) (R := room_1) (below := below) (meth := meth) (locs := locs) (cells := 600000) (slots := 7302250) (rest := stv) (g := F0 m pc ls (As.reverse ++ .ref (ad1 0) :: stv)) (nL := 4) (own := RL) (C := y.cls) (As := As) ⟨K.x, K.hb, K.ml, K.hown, K.tb⟩ hM ⟨callB_of k K.tb (mh_good hcode) rfl rfl rfl (K.tb _ hini') (K.tb _ hlink) ⟨hy.1, hy.2, hdesc⟩ ⟨by show dc + 1 ≤ 2048; omega, by show 8 + (maxL + 11) + 40 * dc ≤ 84000; omega⟩, K.tb _ hinst, K.tb _ hsel⟩ hpv rfl hAs hsz rfl (lv_room hrest) hd ⟨Nat.le_refl _, Nat.le_refl _⟩
  refine mh_on hrun hS hAA hAA (fun r cA' sh' I' L' H1 locs1 hφ hB _ _ hS1 hfr => ?_)
  refine kk r cA' sh' I' L' H1 locs1 hφ ?_ ?_ hB.2.2.2 hS1
  · exact hB.1.app (fun j x hx => (ml_Pr hP j x hx).kept (hfr.2 x.1 (hnA j x hx).2 (hnA j x hx).1))
  · exact (hB.2.1.weaken (fun _ q _ h => hAA q.1 h)).app (ml_Dr hD) (fun i j x z hx hz e => (hnA j z hz).1 (by rw [← e]; exact hB.2.1.2 i x hx))
section ML2
variable {L0 : Nat} {xs : Nat → Int32} {T : Option Nat} {I1 I2 : mh_I} {L1 L2 : mh_L} {pc : Nat} {lv : List (Nat × Value)} {st : List Value} {index k : Nat} {y : MethodName} {bytes : ByteArray} {maxL : Nat} {rty : Option FieldType} {dc : Nat} {v : Value}
/-- a call of the class -/
theorem ml_callX {T' : Option Nat} {J1 : mh_I} {K1 : mh_L} {Φ : mh_P} (q : mh_cv RL index y k) (hlink : Cond.methodLink RL index y ∈ mh_TB) (hyc : y.cls = RX5) (hcode : Cond.code y bytes maxL rty ∈ mh_TB) (hd : decode code pc = .ok (.invokevirtual index, 3)) (As stk : List Value) (hstk : stk = As.reverse ++ .ref 900 :: st) (hAs : As.length = k) (hint : ∀ f : Nat → Nat, As.map (mh_v f) = As) (hst : ∀ f : Nat → Nat, st.map (mh_v f) = st) (hv : ∀ f : Nat → Nat, mh_v f v = v)
    (hC : mh_CT y bytes maxL rty (mh_rm dc) (SHX T) I1 L1 (.ref 0 :: As) Φ) (hφ : ∀ r s I L, Φ r s I L → r = some v ∧ s = SHX T' ∧ I = J1 ∧ L = K1) (hT' : (∀ t, T = some t → t < 46) → ∀ t, T' = some t → t < 46) (hR : dc ≤ 2047 ∧ maxL ≤ 21) (hrest : (st.map fun v => v.category).sum ≤ 8)
    (kk : ml_W L0 xs T' J1 K1 I2 L2 (pc + 3) lv (v :: st)) : ml_W L0 xs T I1 L1 I2 L2 pc lv stk := by
  subst hstk
  intro p l e s m below meth c b D ad A H locs ls K S
  obtain ⟨⟨ad1, ad2, cA1, cA2, hP, hD, hK0, hKA1, hKA2, e1, e2⟩, hS, hlv, hT⟩ := S
  have hstk : (As.reverse ++ Value.ref 900 :: st).map (mh_v ad) = As.reverse ++ .ref (ad1 0) :: st := by
    rw [List.map_append, List.map_cons, hst, List.map_reverse, hint]
    show As.reverse ++ Value.ref (ad 900) :: st = _
    rw [e1]
  rw [hstk]
  refine ml_run (n := 46) (ci := 5) (TT := TX5) (N := 9) K hP hD hK0 hKA1 hS hlv.1 rfl (by decide) (by decide) (ml_okX hT) rfl (by rw [hyc]; rfl) q hlink hcode hd hAs hint hC hR hrest ?_
  intro r cA' sh' I' L' H1 locs1 hph hP1 hD1 hKA hS1
  obtain ⟨rfl, rfl, rfl, rfl⟩ := hφ r sh' I' L' hph
  have hk := kk p l e s m below meth c b D ad A H1 locs1 ls K ⟨⟨_, ad2, cA', cA2, hP1, hD1, hK0, hKA, hKA2, e1, e2⟩, hS1, hlv, hT' hT⟩
  rw [List.map_cons, hst, hv] at hk
  rw [show (some v).map (mh_v (ml_ad ad1 ad 46 H.size)) = some v from congrArg some (hv _)]
  exact hk
/-- a call of the reference -/
theorem ml_callM {J2 : mh_I} {K2 : mh_L} {Φ : mh_P} (q : mh_cv RL index y k) (hlink : Cond.methodLink RL index y ∈ mh_TB) (hyc : y.cls = RX6) (hcode : Cond.code y bytes maxL rty ∈ mh_TB) (hd : decode code pc = .ok (.invokevirtual index, 3)) (As stk : List Value) (hstk : stk = As.reverse ++ .ref 901 :: st) (hAs : As.length = k) (hint : ∀ f : Nat → Nat, As.map (mh_v f) = As) (hst : ∀ f : Nat → Nat, st.map (mh_v f) = st) (hv : ∀ f : Nat → Nat, mh_v f v = v)
    (hC : mh_CT y bytes maxL rty (mh_rm dc) SHM I2 L2 (.ref 0 :: As) Φ) (hφ : ∀ r s I L, Φ r s I L → r = some v ∧ s = SHM ∧ I = J2 ∧ L = K2) (hR : dc ≤ 2047 ∧ maxL ≤ 21) (hrest : (st.map fun v => v.category).sum ≤ 8)
    (kk : ml_W L0 xs T I1 L1 J2 K2 (pc + 3) lv (v :: st)) : ml_W L0 xs T I1 L1 I2 L2 pc lv stk := by
  subst hstk
  intro p l e s m below meth c b D ad A H locs ls K S
  obtain ⟨⟨ad1, ad2, cA1, cA2, hP, hD, hK0, hKA1, hKA2, e1, e2⟩, hS, hlv, hT⟩ := S
  have hstk : (As.reverse ++ Value.ref 901 :: st).map (mh_v ad) = As.reverse ++ .ref (ad2 0) :: st := by
    rw [List.map_append, List.map_cons, hst, List.map_reverse, hint]
    show As.reverse ++ Value.ref (ad 901) :: st = _
    rw [e2]
  rw [hstk]
  refine ml_run (n := 18) (ci := 6) (TT := TX6) (N := 30) K (ml_Pswap hP) (ml_Dswap hD) hK0 hKA2 hS hlv.1 rfl (by decide) (by decide) ml_okM rfl (by rw [hyc]; rfl) q hlink hcode hd hAs hint hC hR hrest ?_
  intro r cA' sh' I' L' H1 locs1 hph hP1 hD1 hKA hS1
  obtain ⟨rfl, rfl, rfl, rfl⟩ := hφ r sh' I' L' hph
  have hk := kk p l e s m below meth c b D ad A H1 locs1 ls K ⟨⟨ad1, _, cA1, cA', ml_Pswap hP1, ml_Dswap hD1, hK0, hKA1, hKA, e1, e2⟩, hS1, hlv, hT⟩
  rw [List.map_cons, hst, hv] at hk
  rw [show (some v).map (mh_v (ml_ad ad2 ad 18 H.size)) = some v from congrArg some (hv _)]
  exact hk
end ML2
