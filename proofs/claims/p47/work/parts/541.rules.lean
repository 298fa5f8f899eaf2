/-! rules for the StringBuilder's methods -/
def mh_cvU (C own : String) (index : Nat) (x y : MethodName) (n : Nat) : Prop :=
  Cond.methodLink own index x ∈ mh_TB ∧ Cond.sameMethod x.cls x.cls x.name x.desc ∈ mh_TB ∧ Cond.instanceMethod ⟨x.cls, x.name, x.desc⟩ ∈ mh_TB ∧ Cond.selects C x y ∈ mh_TB ∧ Cond.instanceMethod y ∈ mh_TB ∧ Cond.initialized y.cls ∈ mh_TB ∧
  (∃ (b0 : ByteArray) (m0 : Nat) (r0 : Option FieldType), Cond.code ⟨x.cls, x.name, x.desc⟩ b0 m0 r0 ∈ mh_TB) ∧ x.cls ≠ "java/lang/invoke/MethodHandle" ∧ x.cls ≠ "java/lang/invoke/VarHandle" ∧ (parseMethodDescriptor x.desc).map (fun d => d.parameters.length) = some n
theorem mh_goodO {C own : String} {index n : Nat} {x y : MethodName} {cc : ByteArray} {maxL : Nat} {rt : Option FieldType} (q : mh_cvU C own index x y n) (h : Cond.code y cc maxL rt ∈ mh_TB) : GoodIn mh_TB (va_wsO own index C x.cls x y (.code y cc maxL rt :: mh_TB)) := by
  intro w hw
  unfold va_wsO at hw
  rcases List.mem_append.mp hw with hw | hw
  · have hm : w ∈ mh_TB := by
      simp only [List.mem_cons, List.not_mem_nil, or_false] at hw
      rcases hw with rfl | rfl | rfl | rfl | rfl | rfl
      · exact q.1
      · exact q.2.1
      · exact q.2.2.1
      · exact q.2.2.2.1
      · exact q.2.2.2.2.1
      · exact q.2.2.2.2.2.1
    exact ⟨hm, good_of_word (List.mem_filter.mp hm).2⟩
  · exact mh_good h w hw
def mh_cvS (own : String) (index : Nat) (y : MethodName) (n : Nat) : Prop :=
  Cond.methodLink own index y ∈ mh_TB ∧ Cond.sameMethod y.cls y.cls y.name y.desc ∈ mh_TB ∧ Cond.superclass own y.cls ∈ mh_TB ∧ Cond.instanceMethod y ∈ mh_TB ∧ Cond.initialized y.cls ∈ mh_TB ∧ y.name ≠ "<init>" ∧ (parseMethodDescriptor y.desc).map (fun d => d.parameters.length) = some n
theorem mh_goodSU {own : String} {index n : Nat} {y : MethodName} {cc : ByteArray} {maxL : Nat} {rt : Option FieldType} (q : mh_cvS own index y n) (h : Cond.code y cc maxL rt ∈ mh_TB) : GoodIn mh_TB (va_wsSU own index y (.code y cc maxL rt :: mh_TB)) := by
  intro w hw
  unfold va_wsSU at hw
  rcases List.mem_append.mp hw with hw | hw
  · have hm : w ∈ mh_TB := by
      simp only [List.mem_cons, List.not_mem_nil, or_false] at hw
      rcases hw with rfl | rfl | rfl | rfl | rfl
      · exact q.1
      · exact q.2.1
      · exact q.2.2.1
      · exact q.2.2.2.1
      · exact q.2.2.2.2.1
    exact ⟨hm, good_of_word (List.mem_filter.mp hm).2⟩
  · exact mh_good h w hw
section MX1
variable {own : String} {cc : ByteArray} {nL : Nat} {rt : Option FieldType} {ini : Bool} {R : Room} {n0 mc ms : Nat} {Ex : mh_X} {Φ : mh_P} {slots : Nat} {sh : List mh_C} {I : mh_I} {L : mh_L} {pc : Nat} {lv : List (Nat × Value)} {st : List Value}
theorem mw_null (hd : decode cc pc = .ok (.aconst_null, 1)) (k : mh_W own cc nL rt ini R n0 mc ms Ex Φ slots sh I L (pc + 1) lv (.null :: st)) : mh_W own cc nL rt ini R n0 mc ms Ex Φ slots sh I L pc lv st := by
  intro p l e s m args below meth c D ad A cA H locs ls K S
  exact lv_null K.x K.b hd (k p l e s m args below meth c D ad A cA H locs ls K S)
theorem mw_ifnn {a : Nat} {off : Int} {tgt : Nat} (hd : decode cc pc = .ok (.ifnonnull off, 3)) (ht : (pc : Int) + off = (tgt : Int)) (k : mh_W own cc nL rt ini R n0 mc ms Ex Φ slots sh I L tgt lv st) : mh_W own cc nL rt ini R n0 mc ms Ex Φ slots sh I L pc lv (.ref a :: st) := by
  intro p l e s m args below meth c D ad A cA H locs ls K S
  exact lv_ifnonnull K.x K.b hd ht (k p l e s m args below meth c D ad A cA H locs ls K S)
theorem mw_cI {I' : mh_I} (e : I = I') (k : mh_W own cc nL rt ini R n0 mc ms Ex Φ slots sh I' L pc lv st) : mh_W own cc nL rt ini R n0 mc ms Ex Φ slots sh I L pc lv st := by
  subst e; exact k
theorem mw_callVC {C : String} {index n ci : Nat} {y : MethodName} {bytes : ByteArray} {maxL : Nat} {ret : Option FieldType} {Rc : Room} {Φ' : mh_P} {b : Nat} {fs : List mh_F} {T : u_T} {N : Nat} (q : mh_cvC C own index y n) (hcode : Cond.code y bytes maxL ret ∈ mh_TB) (hd : decode cc pc = .ok (.invokevirtual index, 3)) (As : List Value) (stk : List Value) (hstk : stk = As.reverse ++ .ref b :: st) (hn : As.length = n) (hs : sh[b]? = some (.inl (ci, fs))) (hci : vwCl[ci]? = some (C, T, N))
    (hC : mh_CT y bytes maxL ret Rc sh I L (.ref b :: As) Φ') (hR : Rc.frames + 1 ≤ R.frames ∧ 8 + (maxL + 11) + Rc.locals ≤ R.locals) (hrest : (st.map fun v => v.category).sum ≤ 8) (hcs : sh.length - n0 + Rc.cells ≤ R.cells ∧ slots + Rc.slots ≤ R.slots)
    (kk : ∀ r sh1 I1 L1, Φ' r sh1 I1 L1 → sh1.length = sh.length + Rc.cells ∧ mh_W own cc nL rt ini R n0 mc ms Ex Φ (slots + Rc.slots) sh1 I1 L1 (pc + 3) lv (r.toList ++ st)) : mh_W own cc nL rt ini R n0 mc ms Ex Φ slots sh I L pc lv stk := by
  subst hstk
  intro p l e s m args below meth c D ad A cA H locs ls K S
  refine W_szb (fun hz0 hz => ?_)
  obtain ⟨had, hAA, hpre⟩ := mh_pre K S hz
  have hM := hC l D ad cA H.size S.big had
  have hrun := fun (cw : (mh_cl own index y n)) => (?_ : va_Run p l e R s m args below meth c H locs (sh.length - n0) slots Rc.cells Rc.slots (F0 m pc ls ((As.reverse ++ .ref b :: st).map (mh_v ad))) (st.map (mh_v ad)) (mh_Q D ad (mh_A ad sh.length H.size) sh.length Φ' (Value.ref (ad b) :: As.map (mh_v ad)).toArray) (mh_A ad sh.length H.size))
  · refine mh_on (hrun q.1) S.S hAA hAA (fun r cA1 sh1 I1 L1 H1 locs1 hφ hB hbig hn1 hS1 _ => ?_)
    obtain ⟨hlen, hk⟩ := kk r sh1 I1 L1 hφ
    have hk1 := hk p l e s m args below meth c D ad A cA1 H1 locs1 ls K (mh_back S hAA hB hbig hn1 hS1)
    have h3 := S.hn0
    rw [show sh1.length - n0 = sh.length - n0 + Rc.cells by omega, List.map_append] at hk1
    have e1 : r.toList.map (mh_v ad) = (r.map (mh_v ad)).toList := by cases r <;> rfl
    rw [e1] at hk1
    exact hk1
  · have hstack : (As.reverse ++ Value.ref b :: st).map (mh_v ad) = (As.map (mh_v ad)).reverse ++ Value.ref (ad b) :: st.map (mh_v ad) := by
      rw [List.map_append, List.map_reverse, List.map_cons]; rfl
    have hsum : 2 * (F0 m pc ls ((As.reverse ++ Value.ref b :: st).map (mh_v ad))).monitorRoom + ((st.map (mh_v ad)).map fun v => v.category).sum ≤ 8 := lv_room (by rw [mh_cats]; exact hrest)
    obtain ⟨⟨hlink, hini', hy, hdesc⟩, hinst, hsel⟩ := q
    have hpv : PreV s H C (ad b) (va_Pc ((Value.ref b :: As).map (mh_v ad)) (fun U => U.heap.size = H.size ∧ mh_B D ad cA (mh_A ad sh.length H.size) sh I L U.heap U ∧ mh_E (mh_A ad sh.length H.size) ad U)) (As.map (mh_v ad)) :=
      ⟨mh_blind, va_recv (ci := ci) (q := (C, T, N)) S.K S.P hci (mh_ws_at hs), fun U hU hW => ⟨rfl, hpre U hU hW⟩⟩
    rcases hlink with hlink | ⟨host, hlink⟩
    · exact va_runV (nL := nL) (own := own) (C := C) (As := As.map (mh_v ad)) ⟨K.x, K.b, K.ml, K.hown, K.tb⟩ hM ⟨callB_of n K.tb (mh_good hcode) rfl rfl rfl (K.tb _ hini') (K.tb _ hlink) ⟨hy.1, hy.2, hdesc⟩ hR, K.tb _ hinst, K.tb _ hsel⟩ hpv rfl (by rw [List.length_map]; exact hn) S.hlv.1 hstack hsum hd hcs
    · exact va_runVN (nL := nL) (own := own) (C := C) (host := host) (As := As.map (mh_v ad)) ⟨K.x, K.b, K.ml, K.hown, K.tb⟩ hM ⟨va_cnB n K.tb (mh_good hcode) rfl rfl rfl (K.e.1 _ hlink) (K.tb _ hini') ⟨hy.1, hy.2, hdesc⟩ hR, K.tb _ hinst, K.tb _ hsel⟩ hpv rfl (by rw [List.length_map]; exact hn) S.hlv.1 hstack hsum hd hcs
theorem mw_callVU {C : String} {x : MethodName} {index n ci : Nat} {y : MethodName} {bytes : ByteArray} {maxL : Nat} {ret : Option FieldType} {Rc : Room} {Φ' : mh_P} {b : Nat} {fs : List mh_F} {T : u_T} {N : Nat} (q : mh_cvU C own index x y n) (hcode : Cond.code y bytes maxL ret ∈ mh_TB) (hd : decode cc pc = .ok (.invokevirtual index, 3)) (As : List Value) (stk : List Value) (hstk : stk = As.reverse ++ .ref b :: st) (hn : As.length = n) (hs : sh[b]? = some (.inl (ci, fs))) (hci : vwCl[ci]? = some (C, T, N))
    (hC : mh_CT y bytes maxL ret Rc sh I L (.ref b :: As) Φ') (hR : Rc.frames + 1 ≤ R.frames ∧ 8 + (maxL + 11) + Rc.locals ≤ R.locals) (hrest : (st.map fun v => v.category).sum ≤ 8) (hcs : sh.length - n0 + Rc.cells ≤ R.cells ∧ slots + Rc.slots ≤ R.slots)
    (kk : ∀ r sh1 I1 L1, Φ' r sh1 I1 L1 → sh1.length = sh.length + Rc.cells ∧ mh_W own cc nL rt ini R n0 mc ms Ex Φ (slots + Rc.slots) sh1 I1 L1 (pc + 3) lv (r.toList ++ st)) : mh_W own cc nL rt ini R n0 mc ms Ex Φ slots sh I L pc lv stk := by
  subst hstk
  intro p l e s m args below meth c D ad A cA H locs ls K S
  refine W_szb (fun hz0 hz => ?_)
  obtain ⟨had, hAA, hpre⟩ := mh_pre K S hz
  have hM := hC l D ad cA H.size S.big had
  have hrun := fun (cw : (mh_cvU C own index x y n)) => (?_ : va_Run p l e R s m args below meth c H locs (sh.length - n0) slots Rc.cells Rc.slots (F0 m pc ls ((As.reverse ++ .ref b :: st).map (mh_v ad))) (st.map (mh_v ad)) (mh_Q D ad (mh_A ad sh.length H.size) sh.length Φ' (Value.ref (ad b) :: As.map (mh_v ad)).toArray) (mh_A ad sh.length H.size))
  · refine mh_on (hrun q) S.S hAA hAA (fun r cA1 sh1 I1 L1 H1 locs1 hφ hB hbig hn1 hS1 _ => ?_)
    obtain ⟨hlen, hk⟩ := kk r sh1 I1 L1 hφ
    have hk1 := hk p l e s m args below meth c D ad A cA1 H1 locs1 ls K (mh_back S hAA hB hbig hn1 hS1)
    have h3 := S.hn0
    rw [show sh1.length - n0 = sh.length - n0 + Rc.cells by omega, List.map_append] at hk1
    have e1 : r.toList.map (mh_v ad) = (r.map (mh_v ad)).toList := by cases r <;> rfl
    rw [e1] at hk1
    exact hk1
  · have hstack : (As.reverse ++ Value.ref b :: st).map (mh_v ad) = (As.map (mh_v ad)).reverse ++ Value.ref (ad b) :: st.map (mh_v ad) := by
      rw [List.map_append, List.map_reverse, List.map_cons]; rfl
    have hsum : 2 * (F0 m pc ls ((As.reverse ++ Value.ref b :: st).map (mh_v ad))).monitorRoom + ((st.map (mh_v ad)).map fun v => v.category).sum ≤ 8 := lv_room (by rw [mh_cats]; exact hrest)
    have hpv : PreV s H C (ad b) (va_Pc ((Value.ref b :: As).map (mh_v ad)) (fun U => U.heap.size = H.size ∧ mh_B D ad cA (mh_A ad sh.length H.size) sh I L U.heap U ∧ mh_E (mh_A ad sh.length H.size) ad U)) (As.map (mh_v ad)) :=
      ⟨mh_blind, va_recv (ci := ci) (q := (C, T, N)) S.K S.P hci (mh_ws_at hs), fun U hU hW => ⟨rfl, hpre U hU hW⟩⟩
    exact va_runU (nL := nL) (own := own) (C := C) (owner := x.cls) (x := x) (As := As.map (mh_v ad)) ⟨K.x, K.b, K.ml, K.hown, K.tb⟩ hM (va_cwO n K.tb (mh_goodO q hcode) rfl rfl rfl q.2.2.2.2.2.2.1.choose_spec.choose_spec.choose_spec ⟨q.2.2.2.2.2.2.2.1, q.2.2.2.2.2.2.2.2.1, q.2.2.2.2.2.2.2.2.2⟩ hR) hpv rfl (by rw [List.length_map]; exact hn) S.hlv.1 hstack hsum hd hcs
theorem mw_callSU {C : String} {index n ci : Nat} {y : MethodName} {bytes : ByteArray} {maxL : Nat} {ret : Option FieldType} {Rc : Room} {Φ' : mh_P} {b : Nat} {fs : List mh_F} {T : u_T} {N : Nat} (q : mh_cvS own index y n) (hcode : Cond.code y bytes maxL ret ∈ mh_TB) (hd : decode cc pc = .ok (.invokespecial index, 3)) (As : List Value) (stk : List Value) (hstk : stk = As.reverse ++ .ref b :: st) (hn : As.length = n) (hs : sh[b]? = some (.inl (ci, fs))) (hci : vwCl[ci]? = some (C, T, N))
    (hC : mh_CT y bytes maxL ret Rc sh I L (.ref b :: As) Φ') (hR : Rc.frames + 1 ≤ R.frames ∧ 8 + (maxL + 11) + Rc.locals ≤ R.locals) (hrest : (st.map fun v => v.category).sum ≤ 8) (hcs : sh.length - n0 + Rc.cells ≤ R.cells ∧ slots + Rc.slots ≤ R.slots)
    (kk : ∀ r sh1 I1 L1, Φ' r sh1 I1 L1 → sh1.length = sh.length + Rc.cells ∧ mh_W own cc nL rt ini R n0 mc ms Ex Φ (slots + Rc.slots) sh1 I1 L1 (pc + 3) lv (r.toList ++ st)) : mh_W own cc nL rt ini R n0 mc ms Ex Φ slots sh I L pc lv stk := by
  subst hstk
  intro p l e s m args below meth c D ad A cA H locs ls K S
  refine W_szb (fun hz0 hz => ?_)
  obtain ⟨had, hAA, hpre⟩ := mh_pre K S hz
  have hM := hC l D ad cA H.size S.big had
  have hrun := fun (cw : (mh_cvS own index y n)) => (?_ : va_Run p l e R s m args below meth c H locs (sh.length - n0) slots Rc.cells Rc.slots (F0 m pc ls ((As.reverse ++ .ref b :: st).map (mh_v ad))) (st.map (mh_v ad)) (mh_Q D ad (mh_A ad sh.length H.size) sh.length Φ' (Value.ref (ad b) :: As.map (mh_v ad)).toArray) (mh_A ad sh.length H.size))
  · refine mh_on (hrun q) S.S hAA hAA (fun r cA1 sh1 I1 L1 H1 locs1 hφ hB hbig hn1 hS1 _ => ?_)
    obtain ⟨hlen, hk⟩ := kk r sh1 I1 L1 hφ
    have hk1 := hk p l e s m args below meth c D ad A cA1 H1 locs1 ls K (mh_back S hAA hB hbig hn1 hS1)
    have h3 := S.hn0
    rw [show sh1.length - n0 = sh.length - n0 + Rc.cells by omega, List.map_append] at hk1
    have e1 : r.toList.map (mh_v ad) = (r.map (mh_v ad)).toList := by cases r <;> rfl
    rw [e1] at hk1
    exact hk1
  · have hstack : (As.reverse ++ Value.ref b :: st).map (mh_v ad) = (As.map (mh_v ad)).reverse ++ Value.ref (ad b) :: st.map (mh_v ad) := by
      rw [List.map_append, List.map_reverse, List.map_cons]; rfl
    have hsum : 2 * (F0 m pc ls ((As.reverse ++ Value.ref b :: st).map (mh_v ad))).monitorRoom + ((st.map (mh_v ad)).map fun v => v.category).sum ≤ 8 := lv_room (by rw [mh_cats]; exact hrest)
    have hpv : PreV s H C (ad b) (va_Pc ((Value.ref b :: As).map (mh_v ad)) (fun U => U.heap.size = H.size ∧ mh_B D ad cA (mh_A ad sh.length H.size) sh I L U.heap U ∧ mh_E (mh_A ad sh.length H.size) ad U)) (As.map (mh_v ad)) :=
      ⟨mh_blind, va_recv (ci := ci) (q := (C, T, N)) S.K S.P hci (mh_ws_at hs), fun U hU hW => ⟨rfl, hpre U hU hW⟩⟩
    obtain ⟨c0, hc0⟩ : ∃ c0, ClassAt s C c0 := ⟨_, (S.K.1 _ _ hci).2⟩
    exact va_runSU (nL := nL) (own := own) (C := C) hc0 (As := As.map (mh_v ad)) ⟨K.x, K.b, K.ml, K.hown, K.tb⟩ hM (va_cwSU n K.tb (mh_goodSU q hcode) rfl rfl rfl ⟨q.2.2.2.2.2.1, q.2.2.2.2.2.2⟩ hR) hpv rfl (by rw [List.length_map]; exact hn) S.hlv.1 hstack hsum hd hcs
end MX1
section MX2
variable {own : String} {cc : ByteArray} {nL : Nat} {rt : Option FieldType} {ini : Bool} {R : Room} {n0 mc ms : Nat} {Ex : mh_X} {Φ : mh_P} {slots : Nat} {sh : List mh_C} {I : mh_I} {L : mh_L} {pc : Nat} {lv : List (Nat × Value)} {st : List Value}
variable {index n ci b : Nat} {y : MethodName} {bytes : ByteArray} {maxL : Nat} {ret : Option FieldType} {fs : List mh_F} {T : u_T} {N : Nat} {Rc : Room} {r : Option Value} {sh1 : List mh_C} {I1 : mh_I} {L1 : mh_L}
theorem mwx_v (q : mh_cv own index y n) (hcode : Cond.code y bytes maxL ret ∈ mh_TB) (hd : decode cc pc = .ok (.invokevirtual index, 3)) (As : List Value) (stk : List Value) (hstk : stk = As.reverse ++ .ref b :: st) (hn : As.length = n) (hs : sh[b]? = some (.inl (ci, fs))) (hci : vwCl[ci]? = some (y.cls, T, N))
    (hC : mh_CT y bytes maxL ret Rc sh I L (.ref b :: As) (mh_ret r sh1 I1 L1)) (hR : Rc.frames + 1 ≤ R.frames ∧ 8 + (maxL + 11) + Rc.locals ≤ R.locals) (hrest : (st.map fun v => v.category).sum ≤ 8) (hcs : sh.length - n0 + Rc.cells ≤ R.cells ∧ slots + Rc.slots ≤ R.slots) (hlen : sh1.length = sh.length + Rc.cells) (kk : mh_W own cc nL rt ini R n0 mc ms Ex Φ (slots + Rc.slots) sh1 I1 L1 (pc + 3) lv (r.toList ++ st)) : mh_W own cc nL rt ini R n0 mc ms Ex Φ slots sh I L pc lv stk :=
  mw_callV q hcode hd As stk hstk hn hs hci hC hR hrest hcs (fun r' s1 J1 K1 hφ => by obtain ⟨rfl, rfl, rfl, rfl⟩ := hφ; exact ⟨hlen, kk⟩)
theorem mwx_vc {C : String} (q : mh_cvC C own index y n) (hcode : Cond.code y bytes maxL ret ∈ mh_TB) (hd : decode cc pc = .ok (.invokevirtual index, 3)) (As : List Value) (stk : List Value) (hstk : stk = As.reverse ++ .ref b :: st) (hn : As.length = n) (hs : sh[b]? = some (.inl (ci, fs))) (hci : vwCl[ci]? = some (C, T, N))
    (hC : mh_CT y bytes maxL ret Rc sh I L (.ref b :: As) (mh_ret r sh1 I1 L1)) (hR : Rc.frames + 1 ≤ R.frames ∧ 8 + (maxL + 11) + Rc.locals ≤ R.locals) (hrest : (st.map fun v => v.category).sum ≤ 8) (hcs : sh.length - n0 + Rc.cells ≤ R.cells ∧ slots + Rc.slots ≤ R.slots) (hlen : sh1.length = sh.length + Rc.cells) (kk : mh_W own cc nL rt ini R n0 mc ms Ex Φ (slots + Rc.slots) sh1 I1 L1 (pc + 3) lv (r.toList ++ st)) : mh_W own cc nL rt ini R n0 mc ms Ex Φ slots sh I L pc lv stk :=
  mw_callVC q hcode hd As stk hstk hn hs hci hC hR hrest hcs (fun r' s1 J1 K1 hφ => by obtain ⟨rfl, rfl, rfl, rfl⟩ := hφ; exact ⟨hlen, kk⟩)
theorem mwx_vu {C : String} {x : MethodName} (q : mh_cvU C own index x y n) (hcode : Cond.code y bytes maxL ret ∈ mh_TB) (hd : decode cc pc = .ok (.invokevirtual index, 3)) (As : List Value) (stk : List Value) (hstk : stk = As.reverse ++ .ref b :: st) (hn : As.length = n) (hs : sh[b]? = some (.inl (ci, fs))) (hci : vwCl[ci]? = some (C, T, N))
    (hC : mh_CT y bytes maxL ret Rc sh I L (.ref b :: As) (mh_ret r sh1 I1 L1)) (hR : Rc.frames + 1 ≤ R.frames ∧ 8 + (maxL + 11) + Rc.locals ≤ R.locals) (hrest : (st.map fun v => v.category).sum ≤ 8) (hcs : sh.length - n0 + Rc.cells ≤ R.cells ∧ slots + Rc.slots ≤ R.slots) (hlen : sh1.length = sh.length + Rc.cells) (kk : mh_W own cc nL rt ini R n0 mc ms Ex Φ (slots + Rc.slots) sh1 I1 L1 (pc + 3) lv (r.toList ++ st)) : mh_W own cc nL rt ini R n0 mc ms Ex Φ slots sh I L pc lv stk :=
  mw_callVU q hcode hd As stk hstk hn hs hci hC hR hrest hcs (fun r' s1 J1 K1 hφ => by obtain ⟨rfl, rfl, rfl, rfl⟩ := hφ; exact ⟨hlen, kk⟩)
theorem mwx_su {C : String} (q : mh_cvS own index y n) (hcode : Cond.code y bytes maxL ret ∈ mh_TB) (hd : decode cc pc = .ok (.invokespecial index, 3)) (As : List Value) (stk : List Value) (hstk : stk = As.reverse ++ .ref b :: st) (hn : As.length = n) (hs : sh[b]? = some (.inl (ci, fs))) (hci : vwCl[ci]? = some (C, T, N))
    (hC : mh_CT y bytes maxL ret Rc sh I L (.ref b :: As) (mh_ret r sh1 I1 L1)) (hR : Rc.frames + 1 ≤ R.frames ∧ 8 + (maxL + 11) + Rc.locals ≤ R.locals) (hrest : (st.map fun v => v.category).sum ≤ 8) (hcs : sh.length - n0 + Rc.cells ≤ R.cells ∧ slots + Rc.slots ≤ R.slots) (hlen : sh1.length = sh.length + Rc.cells) (kk : mh_W own cc nL rt ini R n0 mc ms Ex Φ (slots + Rc.slots) sh1 I1 L1 (pc + 3) lv (r.toList ++ st)) : mh_W own cc nL rt ini R n0 mc ms Ex Φ slots sh I L pc lv stk :=
  mw_callSU q hcode hd As stk hstk hn hs hci hC hR hrest hcs (fun r' s1 J1 K1 hφ => by obtain ⟨rfl, rfl, rfl, rfl⟩ := hφ; exact ⟨hlen, kk⟩)
theorem mwx_s (q : mh_cs own index y n) (hcode : Cond.code y bytes maxL ret ∈ mh_TB) (hd : decode cc pc = .ok (.invokestatic index, 3)) (As : List Value) (stk : List Value) (hstk : stk = As.reverse ++ st) (hn : As.length = n)
    (hC : mh_CT y bytes maxL ret Rc sh I L As (mh_ret r sh1 I1 L1)) (hR : Rc.frames + 1 ≤ R.frames ∧ 8 + (maxL + 11) + Rc.locals ≤ R.locals) (hrest : (st.map fun v => v.category).sum ≤ 8) (hcs : sh.length - n0 + Rc.cells ≤ R.cells ∧ slots + Rc.slots ≤ R.slots) (hlen : sh1.length = sh.length + Rc.cells) (kk : mh_W own cc nL rt ini R n0 mc ms Ex Φ (slots + Rc.slots) sh1 I1 L1 (pc + 3) lv (r.toList ++ st)) : mh_W own cc nL rt ini R n0 mc ms Ex Φ slots sh I L pc lv stk :=
  mw_callS q hcode hd As stk hstk hn hC hR hrest hcs (fun r' s1 J1 K1 hφ => by obtain ⟨rfl, rfl, rfl, rfl⟩ := hφ; exact ⟨hlen, kk⟩)
theorem mwx_t {i : Nat} (hi : i < 5) (q : mh_cv own index y n) (hcode : Cond.code y bytes maxL ret ∈ mh_TB) (hd : decode cc pc = .ok (.invokevirtual index, 3)) (As : List Value) (stk : List Value) (hstk : stk = As.reverse ++ .ref (1000 + i) :: st) (hn : As.length = n) (hyc : y.cls = "java/lang/String")
    (hC : mh_CT y bytes maxL ret Rc sh I L (.ref (1000 + i) :: As) (mh_ret r sh1 I1 L1)) (hR : Rc.frames + 1 ≤ R.frames ∧ 8 + (maxL + 11) + Rc.locals ≤ R.locals) (hrest : (st.map fun v => v.category).sum ≤ 8) (hcs : sh.length - n0 + Rc.cells ≤ R.cells ∧ slots + Rc.slots ≤ R.slots) (hlen : sh1.length = sh.length + Rc.cells) (kk : mh_W own cc nL rt ini R n0 mc ms Ex Φ (slots + Rc.slots) sh1 I1 L1 (pc + 3) lv (r.toList ++ st)) : mh_W own cc nL rt ini R n0 mc ms Ex Φ slots sh I L pc lv stk :=
  mw_callVS hi q hcode hd As stk hstk hn hyc hC hR hrest hcs (fun r' s1 J1 K1 hφ => by obtain ⟨rfl, rfl, rfl, rfl⟩ := hφ; exact ⟨hlen, kk⟩)
end MX2
