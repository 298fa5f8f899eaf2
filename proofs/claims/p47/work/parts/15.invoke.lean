section MH6
variable {own : String} {cc : ByteArray} {nL : Nat} {rt : Option FieldType} {ini : Bool} {R : Room} {n0 mc ms : Nat} {Ex : mh_X} {Φ : mh_P} {slots : Nat} {sh : List mh_C} {I : mh_I} {L : mh_L} {pc : Nat} {lv : List (Nat × Value)} {st : List Value}
/-- the start of a callee's world is the caller's -/
theorem mh_pre {nL' : Nat} {p : Program} {s : State} {m : MethodId} {args : Array Value} {meth : Method} {c : Code} {D : va_G} {ad : Nat → Nat} {A : Nat → Prop} {cA : Nat → ClassId} {H : Heap} {locs : List Loc} {ls : Array Slot} (K : mh_K own cc nL rt ini n0 Ex p s m args meth c ad A) (S : mh_S nL' n0 s D ad A cA sh I L lv H locs ls) (hz : H.size ≤ s.heap.size + (sh.length - n0)) :
    (∀ a : Nat, sh.length ≤ a → a < 1000 → ad a = H.size + (a - sh.length)) ∧ (∀ q, mh_A ad sh.length H.size q → A q) ∧ ∀ U : State, U.heap = H → s.WarmedH U.vm → U.heap.size = H.size ∧ mh_B D ad cA (mh_A ad sh.length H.size) sh I L U.heap U ∧ mh_E (mh_A ad sh.length H.size) ad U := by
  have hlow := mh_low S.P K.had S.hn0 S.big S.S.1
  have hAA : ∀ q, mh_A ad sh.length H.size q → A q := by
    intro q hq
    rcases hq with ⟨a, h1, rfl⟩ | hq
    · obtain ⟨x, hx⟩ : ∃ x, sh[a]? = some x := ⟨_, List.getElem?_eq_getElem h1⟩
      exact S.hD.2 _ _ (mh_ws_at hx)
    · exact K.new q (Nat.le_trans S.S.1 hq)
  refine ⟨fun a h1 h2 => ?_, hAA, fun U hU hW => ⟨by rw [hU], ?_, ?_⟩⟩
  · have h3 := S.hn0
    rw [K.had a (by omega) h2]
    omega
  · rw [hU]
    refine (mh_B.moved hW.alike (?_ : mh_B D ad cA (mh_A ad sh.length H.size) sh I L H s))
    refine ⟨S.P, S.hD.weaken (fun k q hk _ => ?_), S.1.2.2⟩
    have hk1 : k < sh.length := by
      have := (List.getElem?_eq_some_iff.mp hk).1
      rw [mh_ws_len] at this
      exact this
    obtain ⟨x, hx⟩ : ∃ x, sh[k]? = some x := ⟨_, List.getElem?_eq_getElem hk1⟩
    rw [mh_ws_at hx] at hk
    cases hk
    exact Or.inl ⟨k, hk1, rfl⟩
  · exact K.e.move hW (fun a h1 h2 => by rw [hU]; exact S.S.2.1 a h1 h2) hAA
/-- what comes back from a call is the caller's world again -/
theorem mh_back {nL' : Nat} {s : State} {D : va_G} {ad : Nat → Nat} {A A1 : Nat → Prop} {cA cA1 : Nat → ClassId} {H H1 : Heap} {locs locs1 : List Loc} {ls : Array Slot} {sh1 : List mh_C} {I1 : mh_I} {L1 : mh_L} (S : mh_S nL' n0 s D ad A cA sh I L lv H locs ls) (hAA : ∀ q, A1 q → A q) (hB : mh_B D ad cA1 A1 sh1 I1 L1 H1 s) (hbig : sh1.length < 1000) (hn : sh.length ≤ sh1.length) (hS : va_S A s.heap H1 locs1) : mh_S nL' n0 s D ad A cA1 sh1 I1 L1 lv H1 locs1 ls :=
  ⟨⟨hB.1, hB.2.1.weaken (fun _ q _ h => hAA q.1 h), hB.2.2⟩, hS, S.hlv, Nat.le_trans S.hn0 hn, hbig⟩
theorem mw_callV {index n ci : Nat} {y : MethodName} {bytes : ByteArray} {maxL : Nat} {ret : Option FieldType} {Rc : Room} {Φ' : mh_P} {b : Nat} {fs : List mh_F} {T : u_T} {N : Nat} (q : mh_cv own index y n) (hcode : Cond.code y bytes maxL ret ∈ mh_TB) (hd : decode cc pc = .ok (.invokevirtual index, 3)) (As : List Value) (stk : List Value) (hstk : stk = As.reverse ++ .ref b :: st) (hn : As.length = n) (hs : sh[b]? = some (.inl (ci, fs))) (hci : vwCl[ci]? = some (y.cls, T, N))
    (hC : mh_CT y bytes maxL ret Rc sh I L (.ref b :: As) Φ') (hR : Rc.frames + 1 ≤ R.frames ∧ 8 + (maxL + 11) + Rc.locals ≤ R.locals) (hrest : (st.map fun v => v.category).sum ≤ 8) (hcs : sh.length - n0 + Rc.cells ≤ R.cells ∧ slots + Rc.slots ≤ R.slots)
    (kk : ∀ r sh1 I1 L1, Φ' r sh1 I1 L1 → sh1.length = sh.length + Rc.cells ∧ mh_W own cc nL rt ini R n0 mc ms Ex Φ (slots + Rc.slots) sh1 I1 L1 (pc + 3) lv (r.toList ++ st)) : mh_W own cc nL rt ini R n0 mc ms Ex Φ slots sh I L pc lv stk := by
  subst hstk
  intro p l e s m args below meth c D ad A cA H locs ls K S
  refine W_szb (fun hz0 hz => ?_)
  obtain ⟨had, hAA, hpre⟩ := mh_pre K S hz
  have hM := hC l D ad cA H.size S.big had
  have hrun := fun (cw : (mh_cl own index y n)) => (?_ : va_Run p l e R s m args below meth c H locs (sh.length - n0) slots Rc.cells Rc.slots (F0 m pc ls ((As.reverse ++ .ref b :: st).map (mh_v ad))) (st.map (mh_v ad)) (mh_Q D ad (mh_A ad sh.length H.size) sh.length Φ' (Value.ref (ad b) :: As.map (mh_v ad)).toArray) (mh_A ad sh.length H.size))
  · refine mh_on (hrun q.1) S.S hAA hAA (fun r cA1 sh1 I1 L1 H1 locs1 hφ hB hbig hn1 hS1 _ => ?_)
    obtain ⟨hlen, hk⟩ := kk r sh1 I1 L1 hφ
    have hk1 := hk p l e s m args below meth c D ad A cA1 H1 locs1 ls K (mh_back S hAA hB hbig hn1 hS1)
    have h3 := S.hn0
    rw [show sh1.length - n0 = sh.length - n0 + Rc.cells by omega, List.map_append] at hk1
    have e1 : r.toList.map (mh_v ad) = (r.map (mh_v ad)).toList := by cases r <;> rfl
    rw [e1] at hk1
    exact hk1
  · have hstack : (As.reverse ++ Value.ref b :: st).map (mh_v ad) = (As.map (mh_v ad)).reverse ++ Value.ref (ad b) :: st.map (mh_v ad) := by
      rw [List.map_append, List.map_reverse, List.map_cons]; rfl
    have hsum : 2 * (F0 m pc ls ((As.reverse ++ Value.ref b :: st).map (mh_v ad))).monitorRoom + ((st.map (mh_v ad)).map fun v => v.category).sum ≤ 8 := lv_room (by rw [mh_cats]; exact hrest)
    obtain ⟨⟨hlink, hini', hy, hdesc⟩, hinst, hsel⟩ := q
    have hpv : PreV s H y.cls (ad b) (va_Pc ((Value.ref b :: As).map (mh_v ad)) (fun U => U.heap.size = H.size ∧ mh_B D ad cA (mh_A ad sh.length H.size) sh I L U.heap U ∧ mh_E (mh_A ad sh.length H.size) ad U)) (As.map (mh_v ad)) :=
      ⟨mh_blind, va_recv (ci := ci) (q := (y.cls, T, N)) S.K S.P hci (mh_ws_at hs), fun U hU hW => ⟨rfl, hpre U hU hW⟩⟩
    rcases hlink with hlink | ⟨host, hlink⟩
    · exact va_runV (nL := nL) (own := own) (C := y.cls) (As := As.map (mh_v ad)) ⟨K.x, K.b, K.ml, K.hown, K.tb⟩ hM ⟨callB_of n K.tb (mh_good hcode) rfl rfl rfl (K.tb _ hini') (K.tb _ hlink) ⟨hy.1, hy.2, hdesc⟩ hR, K.tb _ hinst, K.tb _ hsel⟩ hpv rfl (by rw [List.length_map]; exact hn) S.hlv.1 hstack hsum hd hcs
    · exact va_runVN (nL := nL) (own := own) (C := y.cls) (host := host) (As := As.map (mh_v ad)) ⟨K.x, K.b, K.ml, K.hown, K.tb⟩ hM ⟨va_cnB n K.tb (mh_good hcode) rfl rfl rfl (K.e.1 _ hlink) (K.tb _ hini') ⟨hy.1, hy.2, hdesc⟩ hR, K.tb _ hinst, K.tb _ hsel⟩ hpv rfl (by rw [List.length_map]; exact hn) S.hlv.1 hstack hsum hd hcs
theorem mw_callS {index n : Nat} {y : MethodName} {bytes : ByteArray} {maxL : Nat} {ret : Option FieldType} {Rc : Room} {Φ' : mh_P} (q : mh_cs own index y n) (hcode : Cond.code y bytes maxL ret ∈ mh_TB) (hd : decode cc pc = .ok (.invokestatic index, 3)) (As : List Value) (stk : List Value) (hstk : stk = As.reverse ++ st) (hn : As.length = n)
    (hC : mh_CT y bytes maxL ret Rc sh I L As Φ') (hR : Rc.frames + 1 ≤ R.frames ∧ 8 + (maxL + 11) + Rc.locals ≤ R.locals) (hrest : (st.map fun v => v.category).sum ≤ 8) (hcs : sh.length - n0 + Rc.cells ≤ R.cells ∧ slots + Rc.slots ≤ R.slots)
    (kk : ∀ r sh1 I1 L1, Φ' r sh1 I1 L1 → sh1.length = sh.length + Rc.cells ∧ mh_W own cc nL rt ini R n0 mc ms Ex Φ (slots + Rc.slots) sh1 I1 L1 (pc + 3) lv (r.toList ++ st)) : mh_W own cc nL rt ini R n0 mc ms Ex Φ slots sh I L pc lv stk := by
  subst hstk
  intro p l e s m args below meth c D ad A cA H locs ls K S
  refine W_szb (fun hz0 hz => ?_)
  obtain ⟨had, hAA, hpre⟩ := mh_pre K S hz
  have hM := hC l D ad cA H.size S.big had
  have hrun := fun (cw : (mh_cl own index y n)) => (?_ : va_Run p l e R s m args below meth c H locs (sh.length - n0) slots Rc.cells Rc.slots (F0 m pc ls ((As.reverse ++ st).map (mh_v ad))) (st.map (mh_v ad)) (mh_Q D ad (mh_A ad sh.length H.size) sh.length Φ' (As.map (mh_v ad)).toArray) (mh_A ad sh.length H.size))
  · refine mh_on (hrun q.1) S.S hAA hAA (fun r cA1 sh1 I1 L1 H1 locs1 hφ hB hbig hn1 hS1 _ => ?_)
    obtain ⟨hlen, hk⟩ := kk r sh1 I1 L1 hφ
    have hk1 := hk p l e s m args below meth c D ad A cA1 H1 locs1 ls K (mh_back S hAA hB hbig hn1 hS1)
    have h3 := S.hn0
    rw [show sh1.length - n0 = sh.length - n0 + Rc.cells by omega, List.map_append] at hk1
    have e1 : r.toList.map (mh_v ad) = (r.map (mh_v ad)).toList := by cases r <;> rfl
    rw [e1] at hk1
    exact hk1
  · have hstack : (As.reverse ++ st).map (mh_v ad) = (As.map (mh_v ad)).reverse ++ st.map (mh_v ad) := by
      rw [List.map_append, List.map_reverse]
    have hsum : 2 * (F0 m pc ls ((As.reverse ++ st).map (mh_v ad))).monitorRoom + ((st.map (mh_v ad)).map fun v => v.category).sum ≤ 8 := lv_room (by rw [mh_cats]; exact hrest)
    obtain ⟨⟨hlink, hini', hy, hdesc⟩, hstat⟩ := q
    have hpv : PreS s H (va_Pc (As.map (mh_v ad)) (fun U => U.heap.size = H.size ∧ mh_B D ad cA (mh_A ad sh.length H.size) sh I L U.heap U ∧ mh_E (mh_A ad sh.length H.size) ad U)) (As.map (mh_v ad)) :=
      ⟨mh_blind, fun U hU hW => ⟨rfl, hpre U hU hW⟩⟩
    rcases hlink with hlink | ⟨host, hlink⟩
    · exact va_runS (nL := nL) (own := own) (As := As.map (mh_v ad)) ⟨K.x, K.b, K.ml, K.hown, K.tb⟩ hM ⟨callB_of n K.tb (mh_good hcode) rfl rfl rfl (K.tb _ hini') (K.tb _ hlink) ⟨hy.1, hy.2, hdesc⟩ hR, K.tb _ hstat⟩ hpv rfl (by rw [List.length_map]; exact hn) S.hlv.1 hstack hsum hd hcs
    · exact va_runSN (nL := nL) (own := own) (host := host) (As := As.map (mh_v ad)) ⟨K.x, K.b, K.ml, K.hown, K.tb⟩ hM ⟨va_cnB n K.tb (mh_good hcode) rfl rfl rfl (K.e.1 _ hlink) (K.tb _ hini') ⟨hy.1, hy.2, hdesc⟩ hR, K.tb _ hstat, trivial⟩ hpv rfl (by rw [List.length_map]; exact hn) S.hlv.1 hstack hsum hd hcs
theorem mw_callI {index n : Nat} {y : MethodName} {bytes : ByteArray} {maxL : Nat} {Rc : Room} {Φ' : mh_P} {b : Nat} (q : mh_ci own index y n) (hcode : Cond.code y bytes maxL none ∈ mh_TB) (hd : decode cc pc = .ok (.invokespecial index, 3)) (As : List Value) (stk : List Value) (hstk : stk = As.reverse ++ .ref b :: st) (hn : As.length = n)
    (hC : mh_CT y bytes maxL none Rc sh I L (.ref b :: As) Φ') (hR : Rc.frames + 1 ≤ R.frames ∧ 8 + (maxL + 11) + Rc.locals ≤ R.locals) (hrest : (st.map fun v => v.category).sum ≤ 8) (hcs : sh.length - n0 + Rc.cells ≤ R.cells ∧ slots + Rc.slots ≤ R.slots)
    (kk : ∀ r sh1 I1 L1, Φ' r sh1 I1 L1 → sh1.length = sh.length + Rc.cells ∧ mh_W own cc nL rt ini R n0 mc ms Ex Φ (slots + Rc.slots) sh1 I1 L1 (pc + 3) lv (r.toList ++ st)) : mh_W own cc nL rt ini R n0 mc ms Ex Φ slots sh I L pc lv stk := by
  subst hstk
  intro p l e s m args below meth c D ad A cA H locs ls K S
  refine W_szb (fun hz0 hz => ?_)
  obtain ⟨had, hAA, hpre⟩ := mh_pre K S hz
  have hM := hC l D ad cA H.size S.big had
  have hrun := fun (cw : (mh_cl own index y n)) => (?_ : va_Run p l e R s m args below meth c H locs (sh.length - n0) slots Rc.cells Rc.slots (F0 m pc ls ((As.reverse ++ .ref b :: st).map (mh_v ad))) (st.map (mh_v ad)) (mh_Q D ad (mh_A ad sh.length H.size) sh.length Φ' (Value.ref (ad b) :: As.map (mh_v ad)).toArray) (mh_A ad sh.length H.size))
  · refine mh_on (hrun q.1) S.S hAA hAA (fun r cA1 sh1 I1 L1 H1 locs1 hφ hB hbig hn1 hS1 _ => ?_)
    obtain ⟨hlen, hk⟩ := kk r sh1 I1 L1 hφ
    have hk1 := hk p l e s m args below meth c D ad A cA1 H1 locs1 ls K (mh_back S hAA hB hbig hn1 hS1)
    have h3 := S.hn0
    rw [show sh1.length - n0 = sh.length - n0 + Rc.cells by omega, List.map_append] at hk1
    have e1 : r.toList.map (mh_v ad) = (r.map (mh_v ad)).toList := by cases r <;> rfl
    rw [e1] at hk1
    exact hk1
  · have hstack : (As.reverse ++ Value.ref b :: st).map (mh_v ad) = (As.map (mh_v ad)).reverse ++ Value.ref (ad b) :: st.map (mh_v ad) := by
      rw [List.map_append, List.map_reverse, List.map_cons]; rfl
    have hsum : 2 * (F0 m pc ls ((As.reverse ++ Value.ref b :: st).map (mh_v ad))).monitorRoom + ((st.map (mh_v ad)).map fun v => v.category).sum ≤ 8 := lv_room (by rw [mh_cats]; exact hrest)
    obtain ⟨⟨hlink, hini', hy, hdesc⟩, hinst, hnm⟩ := q
    have hpv : PreS s H (va_Pc ((Value.ref b :: As).map (mh_v ad)) (fun U => U.heap.size = H.size ∧ mh_B D ad cA (mh_A ad sh.length H.size) sh I L U.heap U ∧ mh_E (mh_A ad sh.length H.size) ad U)) (.ref (ad b) :: As.map (mh_v ad)) :=
      ⟨mh_blind, fun U hU hW => ⟨rfl, hpre U hU hW⟩⟩
    rcases hlink with hlink | ⟨host, hlink⟩
    · exact va_runI (nL := nL) (own := own) (As := As.map (mh_v ad)) ⟨K.x, K.b, K.ml, K.hown, K.tb⟩ hM ⟨callB_of n K.tb (mh_good hcode) rfl rfl rfl (K.tb _ hini') (K.tb _ hlink) ⟨hy.1, hy.2, hdesc⟩ hR, hnm, K.tb _ hinst⟩ hpv rfl (by rw [List.length_map]; exact hn) S.hlv.1 hstack hsum hd hcs
    · exact va_runIN (nL := nL) (own := own) (host := host) (As := As.map (mh_v ad)) ⟨K.x, K.b, K.ml, K.hown, K.tb⟩ hM ⟨va_cnB n K.tb (mh_good hcode) rfl rfl rfl (K.e.1 _ hlink) (K.tb _ hini') ⟨hy.1, hy.2, hdesc⟩ hR, hnm, K.tb _ hinst⟩ hpv rfl (by rw [List.length_map]; exact hn) S.hlv.1 hstack hsum hd hcs
end MH6
