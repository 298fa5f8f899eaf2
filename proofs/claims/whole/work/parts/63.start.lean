theorem ml_runI {L0 : Nat} {xs : Nat → Int32} {p : Program} {l : Launch} {e : Env} {s : State} {m : MethodId} {below : List Frame} {meth : Method} {c : Code} {b : Nat} {ad : Nat → Nat} {A : Nat → Prop} {D : va_G} {H : Heap} {locs : List Loc} {ls : Array Slot} {pc : Nat} {Q : State → Prop} {sh : List mh_C} {n : Nat} {I : mh_I} {L : mh_L} {ad1 : Nat → Nat} {cA : Nat → ClassId} {wb : va_W} {index k : Nat} {y : MethodName} {bytes : ByteArray} {maxL : Nat} {Rc : Room} {cells slots : Nat} {Φ : mh_P} {As stv : List Value}
    (K : ml_K L0 xs p s m meth c b ad A) (hP : va_P D vwCl (mh_ws ad1 cA sh I L ++ wb) H) (hD : va_D A (mh_ws ad1 cA sh I L ++ wb)) (hK0 : va_K D vwCl [] s) (hKA : ∀ (a t n : Nat) (r : Nat → Option Nat), sh[a]? = some (.inr (t, n, r)) → va_K D vwCl [(cA a, mh_ty t)] s) (hS : va_S A s.heap H locs) (hsz : ls.size = 4) (hn : sh.length = n) (hn2 : n < 1000) (h0 : 0 < n) (hok : ∀ c ∈ sh, ml_ok n c)
    (q : mh_ci RL index y k) (hlink : Cond.methodLink RL index y ∈ mh_TB) (hcode : Cond.code y bytes maxL none ∈ mh_TB) (hd : decode code pc = .ok (.invokespecial index, 3)) (hAs : As.length = k) (hint : ∀ f : Nat → Nat, As.map (mh_v f) = As)
    (hC : mh_CT y bytes maxL none Rc sh I L (.ref 0 :: As) Φ) (hR : Rc.frames + 1 ≤ 2048 ∧ 8 + (maxL + 11) + Rc.locals ≤ 84000) (hcs : cells + Rc.cells ≤ 600000 ∧ slots + Rc.slots ≤ 7302250) (hrest : (stv.map fun v => v.category).sum ≤ 8)
    (kk : ∀ (r : Option Value) (cA' : Nat → ClassId) (sh' : List mh_C) (I' : mh_I) (L' : mh_L) (H1 : Heap) (locs1 : List Loc), Φ r sh' I' L' → va_P D vwCl (mh_ws (ml_ad ad1 ad n H.size) cA' sh' I' L' ++ wb) H1 → va_D A (mh_ws (ml_ad ad1 ad n H.size) cA' sh' I' L' ++ wb) → (∀ (a t n : Nat) (r : Nat → Option Nat), sh'[a]? = some (.inr (t, n, r)) → va_K D vwCl [(cA' a, mh_ty t)] s) → va_S A s.heap H1 locs1 →
      W p l e room_1 s m #[Value.ref b] below meth c H1 locs1 (cells + Rc.cells) (slots + Rc.slots) Q (F0 m (pc + 3) ls ((r.map (mh_v (ml_ad ad1 ad n H.size))).toList ++ stv))) :
    W p l e room_1 s m #[Value.ref b] below meth c H locs cells slots Q (F0 m pc ls (As.reverse ++ .ref (ad1 0) :: stv)) := by
  subst hn
  have hw : mh_ws (ml_ad ad1 ad sh.length H.size) cA sh I L = mh_ws ad1 cA sh I L := ml_ws rfl hok (fun a ha => if_pos ha) cA I L
  have had : ∀ a : Nat, sh.length ≤ a → a < 1000 → ml_ad ad1 ad sh.length H.size a = H.size + (a - sh.length) := fun a h1 h2 => by
    unfold ml_ad
    rw [if_neg (by omega), if_pos h2]
  have hlow : ∀ a : Nat, a < sh.length → ml_ad ad1 ad sh.length H.size a = ad1 a := fun a ha => if_pos ha
  have hhigh : ∀ a : Nat, 1000 ≤ a → ml_ad ad1 ad sh.length H.size a = ad a := fun a ha => by
    unfold ml_ad
    rw [if_neg (by omega), if_neg (by omega)]
  have hM := hC l D (ml_ad ad1 ad sh.length H.size) cA H.size hn2 had
  have at1 : ∀ a : Nat, a < sh.length → ∃ x, (mh_ws ad1 cA sh I L)[a]? = some (ad1 a, x) := fun a ha => by
    obtain ⟨x, hx⟩ : ∃ x, sh[a]? = some x := ⟨_, List.getElem?_eq_getElem ha⟩
    exact ⟨_, mh_ws_at hx⟩
  have hAA : ∀ q, mh_A (ml_ad ad1 ad sh.length H.size) sh.length H.size q → A q := by
    intro q hq
    rcases hq with ⟨a, h1, rfl⟩ | hq
    · obtain ⟨x, hx⟩ := at1 a h1
      rw [hlow a h1]
      exact (ml_Dl hD).2 a _ hx
    · exact (K.hA q).mpr (Nat.le_trans hS.1 hq)
  have hnA : ∀ (j : Nat) (x : Nat × va_E), wb[j]? = some x → ¬ mh_A (ml_ad ad1 ad sh.length H.size) sh.length H.size x.1 ∧ x.1 < H.size := by
    intro j x hx
    have hl := (ml_Pr hP j x hx).lt
    refine ⟨fun h => ?_, hl⟩
    rcases h with ⟨a, h1, h2⟩ | h
    · obtain ⟨z, hz⟩ := at1 a h1
      rw [hlow a h1] at h2
      exact ml_Dx hD a j _ x hz hx h2.symm
    · omega
  have hpre : ∀ U : State, U.heap = H → s.WarmedH U.vm → U.heap.size = H.size ∧ mh_B D (ml_ad ad1 ad sh.length H.size) cA (mh_A (ml_ad ad1 ad sh.length H.size) sh.length H.size) sh I L U.heap U ∧ mh_E (mh_A (ml_ad ad1 ad sh.length H.size) sh.length H.size) (ml_ad ad1 ad sh.length H.size) U := by
    intro U hU hW
    refine ⟨by rw [hU], ?_, ?_⟩
    · rw [hU]
      refine (mh_B.moved hW.alike (?_ : mh_B D (ml_ad ad1 ad sh.length H.size) cA (mh_A (ml_ad ad1 ad sh.length H.size) sh.length H.size) sh I L H s))
      refine ⟨by rw [hw]; exact ml_Pl hP, ?_, hK0, hKA⟩
      rw [hw]
      refine (ml_Dl hD).weaken (fun k q hk _ => ?_)
      have hk1 : k < sh.length := by
        have := (List.getElem?_eq_some_iff.mp hk).1
        rw [mh_ws_len] at this
        exact this
      obtain ⟨z, hz⟩ := at1 k hk1
      rw [hz] at hk
      cases hk
      exact Or.inl ⟨k, hk1, (hlow k hk1).symm⟩
    · exact (K.e.move hW (fun a h1 h2 => by rw [hU]; exact hS.2.1 a h1 h2) hAA).congr hhigh
  obtain ⟨⟨-, hini', hy, hdesc⟩, hinst, hnm⟩ := q
  have hPc : ((Value.ref 0 :: As).map (mh_v (ml_ad ad1 ad sh.length H.size))) = Value.ref (ad1 0) :: As := by
    rw [List.map_cons, hint]
    show Value.ref (ml_ad ad1 ad sh.length H.size 0) :: As = _
    rw [hlow 0 h0]
  rw [hPc] at hM
  have hpv : PreS s H (va_Pc (Value.ref (ad1 0) :: As) (fun U => U.heap.size = H.size ∧ mh_B D (ml_ad ad1 ad sh.length H.size) cA (mh_A (ml_ad ad1 ad sh.length H.size) sh.length H.size) sh I L U.heap U ∧ mh_E (mh_A (ml_ad ad1 ad sh.length H.size) sh.length H.size) (ml_ad ad1 ad sh.length H.size) U)) (.ref (ad1 0) :: As) :=
    ⟨mh_blind, fun U hU hW => ⟨rfl, hpre U hU hW⟩⟩
  have hrun := va_runI (l := l) (e := e) (R := room_1) (below := below) (meth := meth) (locs := locs) (cells := cells) (slots := slots) (rest := stv) (g := F0 m pc ls (As.reverse ++ .ref (ad1 0) :: stv)) (nL := 4) (own := RL) (As := As) ⟨K.x, K.hb, K.ml, K.hown, K.tb⟩ hM ⟨callB_of k K.tb (mh_good hcode) rfl rfl rfl (K.tb _ hini') (K.tb _ hlink) ⟨hy.1, hy.2, hdesc⟩ hR, hnm, K.tb _ hinst⟩ hpv rfl hAs hsz rfl (lv_room hrest) hd hcs
  refine mh_on hrun hS hAA hAA (fun r cA' sh' I' L' H1 locs1 hφ hB _ _ hS1 hfr => ?_)
  refine kk r cA' sh' I' L' H1 locs1 hφ ?_ ?_ hB.2.2.2 hS1
  · exact hB.1.app (fun j x hx => (ml_Pr hP j x hx).kept (hfr.2 x.1 (hnA j x hx).2 (hnA j x hx).1))
  · exact (hB.2.1.weaken (fun _ q _ h => hAA q.1 h)).app (ml_Dr hD) (fun i j x z hx hz e => (hnA j z hz).1 (by rw [← e]; exact hB.2.1.2 i x hx))

def cs_tm : Nat → Term := fun i => if i = 0 then .string RX5 51 else .string RX3 84
def cs_in (w : Cond) : Prop := w ∈ flatC (Jvm.Cond.and given_1 narrow_1)
theorem cs_isRef {t : Term} {args : Array Value} {s : State} (h : (Cond.isRef t).before args s = true) : t.eval args s none [] s = some .null ∨ ∃ a : Nat, t.eval args s none [] s = some (.ref a) := by
  cases hv : t.eval args s none [] s with
  | none => simp [Cond.before, Cond.holds, Cond.value, hv] at h
  | some w =>
    cases w with
    | ref a => exact Or.inr ⟨a, rfl⟩
    | null => exact Or.inl rfl
    | _ => simp [Cond.before, Cond.holds, Cond.value, hv] at h
theorem cs_els : ((List.range 2).all fun i => (List.range (mh_len.getD i 0)).all fun j => decide (Cond.eq (.elem (.field (cs_tm i) "java/lang/String" "value" "[B") (.int (Int32.ofNat j))) (.int ((mh_byt.getD i []).getD j 0)) ∈ flatC (Jvm.Cond.and given_1 narrow_1))) = true := by decide +kernel
theorem lt_2 {P : Nat → Prop} (h0 : P 0) (h1 : P 1) : ∀ i, i < 2 → P i := fun i hi => by
  rcases (show i = 0 ∨ i = 1 by omega) with rfl | rfl
  · exact h0
  · exact h1
set_option maxRecDepth 100000 in
set_option maxHeartbeats 4000000 in
theorem cs_E {b : Nat} {s : State} (hts : ∀ w ∈ lw_tbl, w.before #[Value.ref b] s = true) (hgv : (Jvm.Cond.and given_1 narrow_1).before #[Value.ref b] s = true) : ∃ ad : Nat → Nat, mh_E (fun q => s.heap.size ≤ q) ad s ∧ ad 1002 = b := by
  have hs := flat_of_before _ hgv
  have hA : ∀ a : Nat, a < s.heap.size → ¬ (fun q => s.heap.size ≤ q) a := fun a h => Nat.not_le.mpr h
  obtain ⟨adK, adV, hS, hK⟩ := vk_Sof (s := s) (args := #[Value.ref b]) (N := 2) (tm := cs_tm) (len := mh_len) (byt := mh_byt) (A := fun q => s.heap.size ≤ q)
    (lt_2 (by decide) (by decide)) (lt_2 (hs _ (by decide +kernel)) (hs _ (by decide +kernel))) (lt_2 (hs _ (by decide +kernel)) (hs _ (by decide +kernel))) (lt_2 (hs _ (by decide +kernel)) (hs _ (by decide +kernel))) (lt_2 (hs _ (by decide +kernel)) (hs _ (by decide +kernel)))
    (fun i hi j hj => hs _ (of_decide_eq_true (List.all_eq_true.mp (List.all_eq_true.mp cs_els i (List.mem_range.mpr hi)) j (List.mem_range.mpr hj))))
    (fun i j hi hj hij => by
      rcases (show (i = 0 ∧ j = 1) ∨ (i = 1 ∧ j = 0) by omega) with ⟨rfl, rfl⟩ | ⟨rfl, rfl⟩
      · first | exact Or.inl (hs _ (by decide +kernel)) | exact Or.inr (hs _ (by decide +kernel))
      · first | exact Or.inl (hs _ (by decide +kernel)) | exact Or.inr (hs _ (by decide +kernel))) hA
  obtain ⟨t, ht⟩ : ∃ t : Nat, (Term.static "jdk/internal/util/Preconditions" "SIOOBE_FORMATTER" "Ljava/util/function/BiFunction;").eval #[Value.ref b] s none [] s = some .null ∨ (Term.static "jdk/internal/util/Preconditions" "SIOOBE_FORMATTER" "Ljava/util/function/BiFunction;").eval #[Value.ref b] s none [] s = some (.ref t) := (cs_isRef (hs (Cond.isRef (.static "jdk/internal/util/Preconditions" "SIOOBE_FORMATTER" "Ljava/util/function/BiFunction;")) (by decide +kernel))).elim (fun h => ⟨0, Or.inl h⟩) (fun h => h.elim fun t h => ⟨t, Or.inr h⟩)
  have hc := va_eqt (hs (Cond.eq (.static "java/lang/String" "COMPACT_STRINGS" "Z") (.int 1)) (by decide +kernel))
  refine ⟨fun a => if a = 1002 then b else if a = 1020 then t else if 1010 ≤ a then adV (a - 1010) else adK (a - 1000), ⟨fun w hw => ?_, ⟨?_, ?_⟩, ?_, ?_, ?_, ?_, ?_⟩, rfl⟩
  · have hm := List.mem_filter.mp hw
    refine va_Nw.of ?_ (hts w (List.mem_append_right _ hm.1))
    have h1 := hm.2
    cases w with
    | fieldLinkNest a b c d e f => rfl
    | methodLinkNest a b c d => rfl
    | _ => cases h1
  · exact vk_R.of (hts (.stringRef RX5 51 (mh_tx.getD 0 "")) (List.mem_append_right _ (mh_t1 (List.mem_of_getElem? (i := 149) rfl)))) (hK 0 (by decide))
  · exact vk_R.of (hts (.stringRef RX3 84 (mh_tx.getD 1 "")) (List.mem_append_right _ (mh_t1 (List.mem_of_getElem? (i := 228) rfl)))) (hK 1 (by decide))
  · refine ⟨lt_2 (hS.1 0 (by decide)) (hS.1 1 (by decide)), fun i j hi hj h => ?_⟩
    rcases (show (i = 0 ∨ i = 1) ∧ (j = 0 ∨ j = 1) by omega) with ⟨rfl | rfl, rfl | rfl⟩
    · rfl
    · exact hS.2 0 1 hi hj h
    · exact hS.2 1 0 hi hj h
    · rfl
  · exact va_Zof (hts (.laysStatic "java/lang/String" "COMPACT_STRINGS" "Z") (List.mem_append_right _ (mh_t1 (List.mem_of_getElem? (i := 159) rfl)))) (hts (.initialized "java/lang/String") (List.mem_append_right _ (mh_t1 (List.mem_of_getElem? (i := 7) rfl)))) hc hA
  · rcases ht with ht | ht
    · exact Or.inl (va_Zof (hts (.laysStatic "jdk/internal/util/Preconditions" "SIOOBE_FORMATTER" "Ljava/util/function/BiFunction;") (List.mem_append_right _ (mh_t1 (List.mem_of_getElem? (i := 175) rfl)))) (hts (.initialized "jdk/internal/util/Preconditions") (List.mem_append_right _ (mh_t1 (List.mem_of_getElem? (i := 9) rfl)))) ht hA)
    · exact Or.inr (va_Zof (hts (.laysStatic "jdk/internal/util/Preconditions" "SIOOBE_FORMATTER" "Ljava/util/function/BiFunction;") (List.mem_append_right _ (mh_t1 (List.mem_of_getElem? (i := 175) rfl)))) (hts (.initialized "jdk/internal/util/Preconditions") (List.mem_append_right _ (mh_t1 (List.mem_of_getElem? (i := 9) rfl)))) ht hA)
  · exact va_AO.of (hts (.arrayOver (.object RX2)) (List.mem_append_right _ (mh_t1 (List.mem_of_getElem? (i := 108) rfl))))
  · exact va_AO.of (hts (.arrayOver (.object RX4)) (List.mem_append_right _ (mh_t1 (List.mem_of_getElem? (i := 87) rfl))))
def lw_At (p : Program) (s : State) (m : MethodId) (meth : Method) (c : Code) (b L : Nat) (xs : Nat → Int32) : Prop :=
  p.tables.exec = Jvm.exec ∧ c.code = code ∧ meth.sig.returnType = ret ∧ c.maxLocals = 4 ∧ s.vm.findClass R_law = some m.cls ∧ (∀ w ∈ lw_tbl, w.before #[Value.ref b] s = true) ∧ va_X b L xs s s.heap ∧ b < s.heap.size ∧ meth.locks = false ∧ (Jvm.Cond.and given_1 narrow_1).before #[Value.ref b] s = true
theorem cs_K {b : Nat} {s : State} (tb : ∀ w ∈ mh_TB, w.before #[Value.ref b] s = true) : ∃ D : va_G, va_K D vwCl [] s := by
  obtain ⟨c0, i0, k0⟩ := u_known (C := RX0) (T := TX0) (N := 3) (n := 3) tb in_X0 (tb (.instantiable RX0 3) wd_89)
  obtain ⟨c1, i1, k1⟩ := u_known (C := RX1) (T := TX1) (N := 5) (n := 5) tb in_X1 (tb (.instantiable RX1 5) wd_25)
  obtain ⟨c2, i2, k2⟩ := u_known (C := RX2) (T := TX2) (N := 3) (n := 3) tb in_X2 (tb (.instantiable RX2 3) wd_131)
  obtain ⟨c3, i3, k3⟩ := u_known (C := RX3) (T := TX3) (N := 7) (n := 7) tb in_X3 (tb (.instantiable RX3 7) wd_58)
  obtain ⟨c4, i4, k4⟩ := u_known (C := RX4) (T := TX4) (N := 5) (n := 5) tb in_X4 (tb (.instantiable RX4 5) wd_109)
  obtain ⟨c5, i5, k5⟩ := u_known (C := RX5) (T := TX5) (N := 9) (n := 9) tb in_X5 (tb (.instantiable RX5 9) wd_17)
  obtain ⟨c6, i6, k6⟩ := u_known (C := RX6) (T := TX6) (N := 30) (n := 30) tb in_X6 (tb (.instantiable RX6 30) wd_707)
  refine ⟨(fun k => match k with | 0 => c0 | 1 => c1 | 2 => c2 | 3 => c3 | 4 => c4 | 5 => c5 | _ => c6, fun k => match k with | 0 => i0 | 1 => i1 | 2 => i2 | 3 => i3 | 4 => i4 | 5 => i5 | _ => i6), fun k q hq => ?_, fun k q h => by simp at h⟩
  match k, hq with
  | 0, hq => cases hq; exact k0
  | 1, hq => cases hq; exact k1
  | 2, hq => cases hq; exact k2
  | 3, hq => cases hq; exact k3
  | 4, hq => cases hq; exact k4
  | 5, hq => cases hq; exact k5
  | 6, hq => cases hq; exact k6
  | k + 7, hq => simp [vwCl] at hq
theorem ml_cell0 {ad : Nat → Nat} {cA : Nat → ClassId} {a ci : Nat} {fs : List mh_F} (hf : ∀ f ∈ fs, f = .inl 0 ∨ f = .inl 1 ∨ f = .inr none) : mh_cell ad cA (fun _ _ => 0) (fun _ _ => 0) a (.inl (ci, fs)) = .inr (ci, fs.map mh_d) := by
  rw [mh_cell]
  refine congrArg (fun z => (Sum.inr (ci, z) : va_E)) ?_
  apply List.ext_getElem?
  intro j
  rw [List.getElem?_map, List.getElem?_mapIdx]
  cases h : fs[j]? with
  | none => rfl
  | some f =>
    simp only [Option.map_some]
    rcases hf f (List.mem_of_getElem? h) with rfl | rfl | rfl <;> rfl
set_option maxRecDepth 100000 in
set_option maxHeartbeats 400000 in
theorem ws_start (Rel : Option Nat → mh_I → mh_L → mh_I → Prop) (hT : ∀ T I1 L1 I2, Rel T I1 L1 I2 → ∀ t, T = some t → t < 46) (hall : RS_every Rel) {r5 : mh_I × mh_L × Option Nat} {r6 : mh_I} (h5 : X5_init (fun _ _ => 0) (fun _ _ => 0) = some r5) (h6 : X6_init (fun _ _ => 0) = some r6) (hrel : Rel r5.2.2 r5.1 r5.2.1 r6)
    {p : Program} {e : Env} {s : State} {m : MethodId} {below : List Frame} {meth : Method} {c : Code} (l : Launch) {b L : Nat} {xs : Nat → Int32} (hL : L ≤ 3584) (C0 : lw_At p s m meth c b L xs) : W p l e room_1 s m #[Value.ref b] below meth c s.heap [] 0 0 (lw_Z below #[Value.ref b] s) (entryFrame m ([Value.ref b] : List Value).toArray 4) := by
  obtain ⟨hx, hb, hr, hml, hown, hts, hX, hbl, hlocks, hgv⟩ := C0
  have tb : ∀ w ∈ mh_TB, w.before #[Value.ref b] s = true := fun w hw => hts w (List.mem_filter.mp hw).1
  obtain ⟨ad0, hE, hadb⟩ := cs_E hts hgv
  obtain ⟨D, hK⟩ := cs_K tb
  have hA : ∀ q : Nat, s.heap.size ≤ q → (fun q : Nat => s.heap.size ≤ q) q := fun _ h => h
  have K0 : ml_K L xs p s m meth c b ad0 (fun q => s.heap.size ≤ q) := ⟨hx, hb, hml, hr, hlocks, hown, tb, hE, fun _ => Iff.rfl, hX, hbl, hadb⟩
  have hS : va_S (fun q : Nat => s.heap.size ≤ q) s.heap s.heap [] := va_S.rf
  have hP : va_P D vwCl [] s.heap := fun k q h => by simp at h
  have hD : va_D (fun q : Nat => s.heap.size ≤ q) [] := ⟨fun i j p q h => by simp at h, fun k q h => by simp at h⟩
  have hl := lv_entry ([.ref b]) (n := 4) (Nat.le_of_ble_eq_true rfl)
  rw [lg_entry_eq]
  generalize (lg_sl ([.ref b]) ++ List.replicate (4 - (lg_sl ([.ref b])).length) Slot.unset).toArray = ls at hl ⊢
  have hl : lv_has ls 4 [(0, .ref b)] := hl
  refine va_new (ci := 5) (fs := fs0X5.map mh_d) (C := RX5) (T := TX5) (N := 9) hx hb tb in_X5 tyX5 tyX5_ok hown (tb (.classLink RL 7 RX5) wd_16) (tb (.instantiable RX5 9) wd_17) (tb (.initialized RX5) wd_1) hK hP hD hS hA rfl (fun j hj => by rcases (show j = 0 ∨ j = 1 ∨ j = 2 ∨ j = 3 ∨ j = 4 ∨ j = 5 ∨ j = 6 ∨ j = 7 ∨ j = 8 by omega) with rfl | rfl | rfl | rfl | rfl | rfl | rfl | rfl | rfl <;> rfl) (Nat.le_of_ble_eq_true rfl) (Nat.le_of_ble_eq_true rfl) dL_law_0 (fun q0 H hP hD hS => ?_)
  have e0 : mh_ws (fun _ => q0) (fun _ => 0) [.inl (5, fs0X5)] (fun _ _ => 0) (fun _ _ => 0) ++ [] = [] ++ [(q0, .inr (5, fs0X5.map mh_d))] := rfl
  rw [← e0] at hP hD
  refine lv_dup hx hb dL_law_3 rfl ?_
  refine ml_runI (n := 1) (cells := 0 + 1) (slots := 0 + 9) (As := []) K0 hP hD hK (fun a t n r h => ?_) hS hl.1 rfl (by decide) (by decide) (fun c hc => ?_) ci_L_9 wd_18 wd_20 dL_law_4 rfl (fun _ => rfl) (t_X5_init h5) ⟨(show 103 + 1 ≤ 2048 from Nat.le_of_ble_eq_true rfl), (show 8 + (2 + 11) + 40 * 103 ≤ 84000 from Nat.le_of_ble_eq_true rfl)⟩ ⟨(show 0 + 1 + 45 ≤ 600000 from Nat.le_of_ble_eq_true rfl), (show 0 + 9 + 1930 ≤ 7302250 from Nat.le_of_ble_eq_true rfl)⟩ (Nat.le_of_ble_eq_true rfl) ?_
  · match a, h with
    | 0, h => cases h
    | a + 1, h => cases h
  · rcases List.mem_singleton.mp hc with rfl
    exact ml_ok_obj (fun f hf x hx => by subst hx; simp at hf)
  intro r cA1 sh1 I1 L1 H1 locs1 hφ hP1 hD1 hKA1 hS1
  obtain ⟨rfl, rfl, rfl, rfl⟩ := hφ
  have hP1 := (List.append_nil (mh_ws (ml_ad (fun _ => q0) ad0 1 H.size) cA1 (SHX r5.2.2) r5.1 r5.2.1)) ▸ hP1
  have hD1 := (List.append_nil (mh_ws (ml_ad (fun _ => q0) ad0 1 H.size) cA1 (SHX r5.2.2) r5.1 r5.2.1)) ▸ hD1
  show W p l e room_1 s m #[Value.ref b] below meth c H1 locs1 _ _ (lw_Z below #[Value.ref b] s) (F0 m 7 ls [.ref q0])
  refine lv_astore_n (lv' := [(1, .ref q0), (0, .ref b)]) hx hb dL_law_7 rfl hl (by decide) rfl (fun ls hl => ?_)
  refine va_new (ci := 6) (fs := fs0X6.map mh_d) (C := RX6) (T := TX6) (N := 30) hx hb tb in_X6 tyX6 tyX6_ok hown (tb (.classLink RL 10 RX6) wd_706) (tb (.instantiable RX6 30) wd_707) (tb (.initialized RX6) wd_11) hK hP1 hD1 hS1 hA rfl (fun j hj => by rcases (show j = 0 ∨ j = 1 ∨ j = 2 ∨ j = 3 ∨ j = 4 ∨ j = 5 ∨ j = 6 ∨ j = 7 ∨ j = 8 ∨ j = 9 ∨ j = 10 ∨ j = 11 ∨ j = 12 ∨ j = 13 ∨ j = 14 ∨ j = 15 ∨ j = 16 ∨ j = 17 ∨ j = 18 ∨ j = 19 ∨ j = 20 ∨ j = 21 ∨ j = 22 ∨ j = 23 ∨ j = 24 ∨ j = 25 ∨ j = 26 ∨ j = 27 ∨ j = 28 ∨ j = 29 by omega) with rfl | rfl | rfl | rfl | rfl | rfl | rfl | rfl | rfl | rfl | rfl | rfl | rfl | rfl | rfl | rfl | rfl | rfl | rfl | rfl | rfl | rfl | rfl | rfl | rfl | rfl | rfl | rfl | rfl | rfl <;> rfl) (show 0 + 1 + 45 + 1 ≤ 600000 from Nat.le_of_ble_eq_true rfl) (show 0 + 9 + 1930 + 30 ≤ 7302250 from Nat.le_of_ble_eq_true rfl) dL_law_8 (fun q1 H2 hP2 hD2 hS2 => ?_)
  have e1 : mh_ws (fun _ => q1) (fun _ => 0) [.inl (6, fs0X6)] (fun _ _ => 0) (fun _ _ => 0) = [(q1, .inr (6, fs0X6.map mh_d))] := by
    rw [← ml_cell0 (ad := fun _ => q1) (cA := fun _ => 0) (a := 0) (ci := 6) (fs := fs0X6) (by decide)]
    rfl
  rw [← e1] at hP2 hD2
  refine lv_dup hx hb dL_law_11 rfl ?_
  refine ml_runI (n := 1) (As := []) K0 (ml_Pswap hP2) (ml_Dswap hD2) hK (fun a t n r h => ?_) hS2 hl.1 rfl (by decide) (by decide) (fun c hc => ?_) ci_L_12 wd_708 wd_710 dL_law_12 rfl (fun _ => rfl) (t_X6_init h6) ⟨(show 5 + 1 ≤ 2048 from Nat.le_of_ble_eq_true rfl), (show 8 + (2 + 11) + 40 * 5 ≤ 84000 from Nat.le_of_ble_eq_true rfl)⟩ ⟨(show 0 + 1 + 45 + 1 + 17 ≤ 600000 from Nat.le_of_ble_eq_true rfl), (show 0 + 9 + 1930 + 30 + 2579 ≤ 7302250 from Nat.le_of_ble_eq_true rfl)⟩ (Nat.le_of_ble_eq_true rfl) ?_
  · match a, h with
    | 0, h => cases h
    | a + 1, h => cases h
  · rcases List.mem_singleton.mp hc with rfl
    exact ml_ok_obj (fun f hf x hx => by subst hx; simp at hf)
  intro r cA2 sh2 I2 L2 H3 locs3 hφ hP3 hD3 hKA2 hS3
  obtain ⟨rfl, rfl, rfl, rfl⟩ := hφ
  show W p l e room_1 s m #[Value.ref b] below meth c H3 locs3 _ _ (lw_Z below #[Value.ref b] s) (F0 m 15 ls [.ref q1])
  refine W.widen (k := 600000) (n := 7302250) (show 0 + 1 + 45 + 1 + 17 ≤ 600000 from Nat.le_of_ble_eq_true rfl) (show 0 + 9 + 1930 + 30 + 2579 ≤ 7302250 from Nat.le_of_ble_eq_true rfl) ?_
  refine lv_astore_n (lv' := [(2, .ref q1), (1, .ref q0), (0, .ref b)]) hx hb dL_law_15 rfl hl (by decide) rfl (fun ls hl => ?_)
  refine lv_iconst (v := 0) hx hb dL_law_16 (by decide) ?_
  refine lv_istore_n (lv' := [(3, .int 0), (2, .ref q1), (1, .ref q0), (0, .ref b)]) hx hb dL_law_17 rfl hl (by decide) rfl (fun ls hl => ?_)
  have K1 : ml_K L xs p s m meth c b (fun a => if a = 900 then q0 else if a = 901 then q1 else ad0 a) (fun q => s.heap.size ≤ q) := ⟨hx, hb, hml, hr, hlocks, hown, tb, hE.congr (fun a ha => by rw [if_neg (by omega), if_neg (by omega)]), fun _ => Iff.rfl, hX, hbl, hadb⟩
  have hloop := lc_loop Rel hT hall (xs := xs) hL (L2 := cL_X6 (fun _ _ => 0)) (L + 7) 0 r5.2.2 r5.1 r5.2.1 I2 (by omega) (Nat.zero_le _) hrel
  refine hloop p l e s m below meth c b D (fun a => if a = 900 then q0 else if a = 901 then q1 else ad0 a) _ H3 locs3 ls K1 ⟨⟨_, _, cA1, cA2, ml_Pswap hP3, ml_Dswap hD3, hK, hKA1, hKA2, rfl, rfl⟩, hS3, ?_, hT _ _ _ _ hrel⟩
  have hl2 := lv_sub hl [3, 2, 1, 0] (l' := [(0, .ref b), (1, .ref q0), (2, .ref q1), (3, .int 0)]) rfl
  show lv_has ls 4 [(0, .ref (ad0 1002)), (1, .ref q0), (2, .ref q1), (3, .int (nI 0))]
  rw [hadb]
  exact hl2
