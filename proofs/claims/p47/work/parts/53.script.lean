/-! the law's script: a context that is read; contracts that read it -/
abbrev mh_Sc : Type := Nat × (Nat → Int32)
def mh_scr (sc : mh_Sc) : mh_X := fun ad A U => va_X (ad 1040) sc.1 sc.2 U U.heap ∧ ad 1040 < U.heap.size ∧ ¬ A (ad 1040)
theorem mh_scr.move {sc : mh_Sc} {ad : Nat → Nat} {A B : Nat → Prop} {s U : State} (h : mh_scr sc ad A s) (hW : s.WarmedH U.vm) (hk : ∀ a : Nat, a < s.heap.size → ¬ A a → U.heap[a]? = s.heap[a]?) (hz : s.heap.size ≤ U.heap.size) (hAB : ∀ q, B q → A q) : mh_scr sc ad B U := by
  obtain ⟨⟨scr, h1, h2, h3, h4, h5⟩, h6, h7⟩ := h
  exact ⟨⟨scr, by rw [hk _ h6 h7]; exact h1, State.isArrayOf_alike hW.alike h2, h3, h4, h5⟩, Nat.lt_of_lt_of_le h6 hz, fun z => h7 (hAB _ z)⟩
def mh_CTs (sc : mh_Sc) (y : MethodName) (cc : ByteArray) (maxL : Nat) (rt : Option FieldType) (Rc : Room) (sh : List mh_C) (I : mh_I) (L : mh_L) (av : List Value) (Φ : mh_P) : Prop :=
  ∀ (l : Launch) (D : va_G) (ad : Nat → Nat) (cA : Nat → ClassId) (sz : Nat), sh.length < 1000 → (∀ a : Nat, sh.length ≤ a → a < 1000 → ad a = sz + (a - sh.length)) →
    Met l y (.code y cc maxL rt :: mh_TB) Rc (va_Pc (av.map (mh_v ad)) (fun U => U.heap.size = sz ∧ mh_B D ad cA (mh_A ad sh.length sz) sh I L U.heap U ∧ mh_E (mh_A ad sh.length sz) ad U ∧ mh_scr sc ad (mh_A ad sh.length sz) U)) (mh_Q D ad (mh_A ad sh.length sz) sh.length Φ) Rc.cells Rc.slots (mh_A ad sh.length sz)
theorem mh_ofWs {sc : mh_Sc} {y : MethodName} {cc : ByteArray} {maxL : Nat} {rt : Option FieldType} {Rc : Room} {sh : List mh_C} {I : mh_I} {L : mh_L} {av : List Value} {Φ : mh_P} {ini : Bool} (own : String) (hown : own = y.cls) (hy : plainName y.cls = true) (hini : ini = true → y.name = "<init>") (hn : (lg_sl av).length ≤ maxL)
    (h : mh_W own cc maxL rt ini Rc sh.length Rc.cells Rc.slots (mh_scr sc) Φ 0 sh I L 0 (lv_args 0 av) []) : mh_CTs sc y cc maxL rt Rc sh I L av Φ := by
  subst hown
  intro l D ad cA sz hbig had
  refine Met.ofW (cc := cc) (maxL := maxL) (ret := rt) hy rfl ?_
  intro p e s m args below meth c s₁ B hml hv
  obtain ⟨rfl, hsz, hB, hE, hX⟩ := hv
  have hts := atoms_spec (ws := .code y cc maxL rt :: mh_TB) B.pre
  have hown : s.vm.findClass y.cls = some m.cls := findClass_of_methodNamed B.named
  subst hsz
  have hl := lv_entry (av.map (mh_v ad)) (n := maxL) (by rw [mh_lgsl]; exact hn)
  rw [lg_entry_eq]
  generalize (lg_sl (av.map (mh_v ad)) ++ List.replicate (maxL - (lg_sl (av.map (mh_v ad))).length) Slot.unset).toArray = ls at hl ⊢
  rw [mh_lvargs] at hl
  have hk := h p l e s m (av.map (mh_v ad)).toArray below meth c D ad (mh_A ad sh.length s.heap.size) cA s.heap [] ls
    ⟨B.exec, B.bytes, hml, B.returns, B.notSynchronized, fun hi => (name_of_methodNamed B.named B.method).1.trans (hini hi), hown, fun w hw => hts w (List.mem_cons_of_mem _ hw), hE, fun q => Iff.rfl, had, hX⟩
    ⟨hB, va_S.rf, hl, Nat.le_refl _, hbig⟩
  rw [Nat.sub_self] at hk
  exact hk
theorem mh_blindS {sc : mh_Sc} {D : va_G} {ad : Nat → Nat} {cA : Nat → ClassId} {A : Nat → Prop} {sh : List mh_C} {I : mh_I} {L : mh_L} {sz : Nat} {vs : List Value} : FrameBlind (va_Pc vs (fun U => U.heap.size = sz ∧ mh_B D ad cA A sh I L U.heap U ∧ mh_E A ad U ∧ mh_scr sc ad A U)) := by
  intro a U g mk h
  obtain ⟨h1, h2, h3, h4, h5⟩ := h
  exact ⟨h1, h2, h3.moved (u := U) (U := U.calling g mk a) (Vm.Alike.refl U.vm), h4.move (s := U) (U := U.calling g mk a) (State.WarmedH.refl U) (fun _ _ _ => rfl) (fun _ hq => hq), h5.move (s := U) (U := U.calling g mk a) (State.WarmedH.refl U) (fun _ _ _ => rfl) (Nat.le_refl _) (fun _ hq => hq)⟩
section MS1
variable {own : String} {cc : ByteArray} {nL : Nat} {rt : Option FieldType} {ini : Bool} {R : Room} {n0 mc ms : Nat} {Ex : mh_X} {Φ : mh_P} {slots : Nat} {sh : List mh_C} {I : mh_I} {L : mh_L} {pc : Nat} {lv : List (Nat × Value)} {st : List Value}
theorem mw_dup2 {v w : Value} (hd : decode cc pc = .ok (.dup2, 1)) (hv : v.category = 1) (hw : w.category = 1) (k : mh_W own cc nL rt ini R n0 mc ms Ex Φ slots sh I L (pc + 1) lv (v :: w :: v :: w :: st)) : mh_W own cc nL rt ini R n0 mc ms Ex Φ slots sh I L pc lv (v :: w :: st) := by
  intro p l e s m args below meth c D ad A cA H locs ls K S
  exact lv_dup2_11 K.x K.b hd ((mh_v_cat ad v).trans hv) ((mh_v_cat ad w).trans hw) (k p l e s m args below meth c D ad A cA H locs ls K S)
theorem mw_sld {sc : mh_Sc} {i : Int32} {kx : Nat} (hd : decode cc pc = .ok (.iaload, 1)) (hk : kx = i.toNatClampNeg) (hin : ¬ (i < 0 ∨ sc.1 ≤ i.toNatClampNeg)) (kk : mh_W own cc nL rt ini R n0 mc ms (mh_scr sc) Φ slots sh I L (pc + 1) lv (.int (sc.2 kx) :: st)) : mh_W own cc nL rt ini R n0 mc ms (mh_scr sc) Φ slots sh I L pc lv (.int i :: .ref 1040 :: st) := by
  subst hk
  intro p l e s m args below meth c D ad A cA H locs ls K S
  exact va_sld K.x K.b K.ex.1 K.ex.2.1 K.ex.2.2 S.S hin hd (kk p l e s m args below meth c D ad A cA H locs ls K S)
theorem mw_slen {sc : mh_Sc} (hd : decode cc pc = .ok (.arraylength, 1)) (kk : mh_W own cc nL rt ini R n0 mc ms (mh_scr sc) Φ slots sh I L (pc + 1) lv (.int (nI sc.1) :: st)) : mh_W own cc nL rt ini R n0 mc ms (mh_scr sc) Φ slots sh I L pc lv (.ref 1040 :: st) := by
  intro p l e s m args below meth c D ad A cA H locs ls K S
  exact va_slen K.x K.b K.ex.1 K.ex.2.1 K.ex.2.2 S.S hd (kk p l e s m args below meth c D ad A cA H locs ls K S)
theorem mw_callSs {sc : mh_Sc} {index n : Nat} {y : MethodName} {bytes : ByteArray} {maxL : Nat} {ret : Option FieldType} {Rc : Room} {Φ' : mh_P} (q : mh_cs own index y n) (hcode : Cond.code y bytes maxL ret ∈ mh_TB) (hd : decode cc pc = .ok (.invokestatic index, 3)) (As : List Value) (stk : List Value) (hstk : stk = As.reverse ++ st) (hn : As.length = n)
    (hC : mh_CTs sc y bytes maxL ret Rc sh I L As Φ') (hR : Rc.frames + 1 ≤ R.frames ∧ 8 + (maxL + 11) + Rc.locals ≤ R.locals) (hrest : (st.map fun v => v.category).sum ≤ 8) (hcs : sh.length - n0 + Rc.cells ≤ R.cells ∧ slots + Rc.slots ≤ R.slots)
    (kk : ∀ r sh1 I1 L1, Φ' r sh1 I1 L1 → sh1.length = sh.length + Rc.cells ∧ mh_W own cc nL rt ini R n0 mc ms (mh_scr sc) Φ (slots + Rc.slots) sh1 I1 L1 (pc + 3) lv (r.toList ++ st)) : mh_W own cc nL rt ini R n0 mc ms (mh_scr sc) Φ slots sh I L pc lv stk := by
  subst hstk
  intro p l e s m args below meth c D ad A cA H locs ls K S
  refine W_szb (fun hz0 hz => ?_)
  obtain ⟨had, hAA, hpre⟩ := mh_pre K S hz
  have hM := hC l D ad cA H.size S.big had
  have hrun := fun (cw : (mh_cl own index y n)) => (?_ : va_Run p l e R s m args below meth c H locs (sh.length - n0) slots Rc.cells Rc.slots (F0 m pc ls ((As.reverse ++ st).map (mh_v ad))) (st.map (mh_v ad)) (mh_Q D ad (mh_A ad sh.length H.size) sh.length Φ' (As.map (mh_v ad)).toArray) (mh_A ad sh.length H.size))
  · refine mh_on (hrun q.1) S.S hAA hAA (fun r cA1 sh1 I1 L1 H1 locs1 hφ hB hbig hn1 hS1 _ => ?_)
    obtain ⟨hlen, hk⟩ := kk r sh1 I1 L1 hφ
    have hk1 := hk p l e s m args below meth c D ad A cA1 H1 locs1 ls K (mh_back S hAA hB hbig hn1 hS1)
    have h3 := S.hn0
    rw [show sh1.length - n0 = sh.length - n0 + Rc.cells by omega, List.map_append] at hk1
    have e1 : r.toList.map (mh_v ad) = (r.map (mh_v ad)).toList := by cases r <;> rfl
    rw [e1] at hk1
    exact hk1
  · have hstack : (As.reverse ++ st).map (mh_v ad) = (As.map (mh_v ad)).reverse ++ st.map (mh_v ad) := by
      rw [List.map_append, List.map_reverse]
    have hsum : 2 * (F0 m pc ls ((As.reverse ++ st).map (mh_v ad))).monitorRoom + ((st.map (mh_v ad)).map fun v => v.category).sum ≤ 8 := lv_room (by rw [mh_cats]; exact hrest)
    obtain ⟨⟨hlink, hini', hy, hdesc⟩, hstat⟩ := q
    have hpv : PreS s H (va_Pc (As.map (mh_v ad)) (fun U => U.heap.size = H.size ∧ mh_B D ad cA (mh_A ad sh.length H.size) sh I L U.heap U ∧ mh_E (mh_A ad sh.length H.size) ad U ∧ mh_scr sc ad (mh_A ad sh.length H.size) U)) (As.map (mh_v ad)) :=
      ⟨mh_blindS, fun U hU hW => ⟨rfl, (hpre U hU hW).1, (hpre U hU hW).2.1, (hpre U hU hW).2.2, mh_scr.move K.ex hW (fun a h1 h2 => by rw [hU]; exact S.S.2.1 a h1 h2) (by rw [hU]; exact S.S.1) hAA⟩⟩
    rcases hlink with hlink | ⟨host, hlink⟩
    · exact va_runS (nL := nL) (own := own) (As := As.map (mh_v ad)) ⟨K.x, K.b, K.ml, K.hown, K.tb⟩ hM ⟨callB_of n K.tb (mh_good hcode) rfl rfl rfl (K.tb _ hini') (K.tb _ hlink) ⟨hy.1, hy.2, hdesc⟩ hR, K.tb _ hstat⟩ hpv rfl (by rw [List.length_map]; exact hn) S.hlv.1 hstack hsum hd hcs
    · exact va_runSN (nL := nL) (own := own) (host := host) (As := As.map (mh_v ad)) ⟨K.x, K.b, K.ml, K.hown, K.tb⟩ hM ⟨va_cnB n K.tb (mh_good hcode) rfl rfl rfl (K.e.1 _ hlink) (K.tb _ hini') ⟨hy.1, hy.2, hdesc⟩ hR, K.tb _ hstat, trivial⟩ hpv rfl (by rw [List.length_map]; exact hn) S.hlv.1 hstack hsum hd hcs

end MS1
def mh_maxl (x y : Int64) : Int64 := if y < x then x else y
section MS2
variable {own : String} {cc : ByteArray} {nL : Nat} {rt : Option FieldType} {ini : Bool} {R : Room} {n0 mc ms : Nat} {Ex : mh_X} {Φ : mh_P} {slots : Nat} {sh : List mh_C} {I : mh_I} {L : mh_L} {pc : Nat} {lv : List (Nat × Value)} {st : List Value}
theorem mw_mmaxl {index d : Nat} {x y : Int64} (hl : Cond.methodLink own index yJ9_max_f86c9 ∈ mh_TB) (hw : Cond.static yJ9_max_f86c9 ∈ mh_TB ∧ Cond.initialized RJ9 ∈ mh_TB ∧ Cond.code yJ9_max_f86c9 cJ9_max_f86c9 4 (some .long) ∈ mh_TB) (hd : decode cc pc = .ok (.invokestatic index, 3)) (h1 : 0 < d) (hrest : (st.map fun v => v.category).sum ≤ 8) (hcs : sh.length - n0 ≤ (mh_rm d).cells ∧ slots ≤ (mh_rm d).slots) (kk : mh_W own cc nL rt ini (mh_rm d) n0 mc ms Ex Φ slots sh I L (pc + 3) lv (.long (mh_maxl x y) :: st)) : mh_W own cc nL rt ini (mh_rm d) n0 mc ms Ex Φ slots sh I L pc lv (.long y :: .long x :: st) := by
  intro p l e s m args below meth c D ad A cA H locs ls K S
  exact va_mmax_long K.x K.b (K.ml.trans S.hlv.1.symm) K.hown (K.tb _ hl) (K.tb _ hw.1) (K.tb _ hw.2.1) (K.tb _ hw.2.2) (R := mh_rm d) (show 1 ≤ d from h1) (by rw [mh_cats]; show _ + 15 ≤ 40 * d; omega) hcs.1 hcs.2 hd (kk p l e s m args below meth c D ad A cA H locs ls K S)
variable {dc index n ci b : Nat} {y : MethodName} {bytes : ByteArray} {maxL : Nat} {ret : Option FieldType} {fs : List mh_F} {T : u_T} {N : Nat} {sh1 : List mh_C} {I1 : mh_I} {L1 : mh_L}
theorem mwg_vr {v : Value} (q : mh_cv own index y n) (hcode : Cond.code y bytes maxL ret ∈ mh_TB) (hd : decode cc pc = .ok (.invokevirtual index, 3)) (As : List Value) (stk : List Value) (hstk : stk = As.reverse ++ .ref b :: st) (hn : As.length = n) (hs : sh[b]? = some (.inl (ci, fs))) (hci : vwCl[ci]? = some (y.cls, T, N))
    (hC : mh_CT y bytes maxL ret (mh_rm dc) sh I L (.ref b :: As) (mh_ret (some v) sh1 I1 L1)) (hR : (mh_rm dc).frames + 1 ≤ R.frames ∧ 8 + (maxL + 11) + (mh_rm dc).locals ≤ R.locals) (hrest : (st.map fun v => v.category).sum ≤ 8) (hcs : sh.length - n0 ≤ R.cells ∧ slots ≤ R.slots) (hz : sh1.length = sh.length) (kk : mh_W own cc nL rt ini R n0 mc ms Ex Φ slots sh1 I1 L1 (pc + 3) lv (v :: st)) : mh_W own cc nL rt ini R n0 mc ms Ex Φ slots sh I L pc lv stk :=
  mw_callV q hcode hd As stk hstk hn hs hci hC hR hrest hcs (fun r s1 J1 K1 hφ => by obtain ⟨rfl, rfl, rfl, rfl⟩ := hφ; exact ⟨hz, kk⟩)
theorem mws_r {sc : mh_Sc} {v : Value} (q : mh_cs own index y n) (hcode : Cond.code y bytes maxL ret ∈ mh_TB) (hd : decode cc pc = .ok (.invokestatic index, 3)) (As : List Value) (stk : List Value) (hstk : stk = As.reverse ++ st) (hn : As.length = n)
    (hC : mh_CTs sc y bytes maxL ret (mh_rm dc) sh I L As (mh_ret (some v) sh1 I1 L1)) (hR : (mh_rm dc).frames + 1 ≤ R.frames ∧ 8 + (maxL + 11) + (mh_rm dc).locals ≤ R.locals) (hrest : (st.map fun v => v.category).sum ≤ 8) (hcs : sh.length - n0 ≤ R.cells ∧ slots ≤ R.slots) (hz : sh1.length = sh.length) (kk : mh_W own cc nL rt ini R n0 mc ms (mh_scr sc) Φ slots sh1 I1 L1 (pc + 3) lv (v :: st)) : mh_W own cc nL rt ini R n0 mc ms (mh_scr sc) Φ slots sh I L pc lv stk :=
  mw_callSs q hcode hd As stk hstk hn hC hR hrest hcs (fun r s1 J1 K1 hφ => by obtain ⟨rfl, rfl, rfl, rfl⟩ := hφ; exact ⟨hz, kk⟩)
theorem mws_v {sc : mh_Sc} (q : mh_cs own index y n) (hcode : Cond.code y bytes maxL ret ∈ mh_TB) (hd : decode cc pc = .ok (.invokestatic index, 3)) (As : List Value) (stk : List Value) (hstk : stk = As.reverse ++ st) (hn : As.length = n)
    (hC : mh_CTs sc y bytes maxL ret (mh_rm dc) sh I L As (mh_ret none sh1 I1 L1)) (hR : (mh_rm dc).frames + 1 ≤ R.frames ∧ 8 + (maxL + 11) + (mh_rm dc).locals ≤ R.locals) (hrest : (st.map fun v => v.category).sum ≤ 8) (hcs : sh.length - n0 ≤ R.cells ∧ slots ≤ R.slots) (hz : sh1.length = sh.length) (kk : mh_W own cc nL rt ini R n0 mc ms (mh_scr sc) Φ slots sh1 I1 L1 (pc + 3) lv st) : mh_W own cc nL rt ini R n0 mc ms (mh_scr sc) Φ slots sh I L pc lv stk :=
  mw_callSs q hcode hd As stk hstk hn hC hR hrest hcs (fun r s1 J1 K1 hφ => by obtain ⟨rfl, rfl, rfl, rfl⟩ := hφ; exact ⟨hz, kk⟩)
theorem mws_z {sc : mh_Sc} {v : Int32} (q : mh_cs own index y n) (hcode : Cond.code y bytes maxL ret ∈ mh_TB) (hd : decode cc pc = .ok (.invokestatic index, 3)) (As : List Value) (stk : List Value) (hstk : stk = As.reverse ++ st) (hn : As.length = n)
    (hC : mh_CTs sc y bytes maxL ret (mh_rm dc) sh I L As (mh_retz v sh1 I1 L1)) (hR : (mh_rm dc).frames + 1 ≤ R.frames ∧ 8 + (maxL + 11) + (mh_rm dc).locals ≤ R.locals) (hrest : (st.map fun v => v.category).sum ≤ 8) (hcs : sh.length - n0 ≤ R.cells ∧ slots ≤ R.slots) (hz : sh1.length = sh.length) (kk : (v = 0 ∨ v = 1) → mh_W own cc nL rt ini R n0 mc ms (mh_scr sc) Φ slots sh1 I1 L1 (pc + 3) lv (.int v :: st)) : mh_W own cc nL rt ini R n0 mc ms (mh_scr sc) Φ slots sh I L pc lv stk :=
  mw_callSs q hcode hd As stk hstk hn hC hR hrest hcs (fun r s1 J1 K1 hφ => by obtain ⟨⟨rfl, rfl, rfl, rfl⟩, hv⟩ := hφ; exact ⟨hz, kk hv⟩)
end MS2
/-! a contract over the first cells holds over more: the others stay as they are -/
theorem Met_imp {l : Launch} {y : MethodName} {ws : List Cond} {rm : Room} {Pc Pc' : Array Value → State → Prop} {Qc Qc' : Array Value → State → Outcome → State → Prop} {mc ms : Nat} {free free' : Addr → Prop} (hM : Met l y ws rm Pc Qc mc ms free) (hP : ∀ a s, Pc' a s → Pc a s) (hQ : ∀ a s o t, Pc' a s → s.WarmedH t.vm → Qc a s o t → Qc' a s o t) (hf : ∀ q, free q → free' q) : Met l y ws rm Pc' Qc' mc ms free' := by
  intro p e ha hc hk s m args below hfr happ hp hK
  obtain ⟨n, o, h1, h2, h3, h4, L, h5, h6⟩ := hM p e ha hc hk s m args below hfr happ (hP _ _ hp) hK
  exact ⟨n, o, h1, h2, h3, hQ _ _ _ _ hp h5.2.1 h4, L, h5, fun q hq => hf _ (h6 q hq)⟩
def mh_mx {α : Type} (n : Nat) (X Y : Nat → Nat → α) : Nat → Nat → α := fun a => if a < n then X a else Y a
theorem mh_mx_lo {α : Type} {n : Nat} {X Y : Nat → Nat → α} {a : Nat} (h : a < n) : mh_mx n X Y a = X a := if_pos h
theorem mh_mx_hi {α : Type} {n : Nat} {X Y : Nat → Nat → α} {a : Nat} (h : ¬ a < n) : mh_mx n X Y a = Y a := if_neg h
def mh_lo (n : Nat) : Value → Prop
  | .ref a => a < n ∨ 1000 ≤ a
  | _ => True
theorem mh_v_lo {n : Nat} {ad ad' : Nat → Nat} (h : ∀ a, a < n ∨ 1000 ≤ a → ad' a = ad a) {v : Value} (hv : mh_lo n v) : mh_v ad' v = mh_v ad v := by
  cases v with
  | ref a => exact congrArg Value.ref (h a hv)
  | _ => rfl
theorem ml_Pl {D : va_G} {cl : List vw_C} {w1 w2 : va_W} {H : Heap} (h : va_P D cl (w1 ++ w2) H) : va_P D cl w1 H := fun k q hk => h k q (by rw [List.getElem?_append_left (List.getElem?_eq_some_iff.mp hk).1]; exact hk)
theorem ml_Pr {D : va_G} {cl : List vw_C} {w1 w2 : va_W} {H : Heap} (h : va_P D cl (w1 ++ w2) H) : va_P D cl w2 H := fun k q hk => h (w1.length + k) q (by rw [List.getElem?_append_right (Nat.le_add_right _ _), Nat.add_sub_cancel_left]; exact hk)
theorem ml_Dl {A : Nat → Prop} {w1 w2 : va_W} (h : va_D A (w1 ++ w2)) : va_D A w1 := by
  have e : ∀ (k : Nat) (q : Nat × va_E), w1[k]? = some q → (w1 ++ w2)[k]? = some q := fun k q hk => by rw [List.getElem?_append_left (List.getElem?_eq_some_iff.mp hk).1]; exact hk
  exact ⟨fun i j x y hx hy hxy => h.1 i j x y (e i x hx) (e j y hy) hxy, fun k q hk => h.2 k q (e k q hk)⟩
theorem ml_Dr {A : Nat → Prop} {w1 w2 : va_W} (h : va_D A (w1 ++ w2)) : va_D A w2 := by
  have e : ∀ (k : Nat) (q : Nat × va_E), w2[k]? = some q → (w1 ++ w2)[w1.length + k]? = some q := fun k q hk => by rw [List.getElem?_append_right (Nat.le_add_right _ _), Nat.add_sub_cancel_left]; exact hk
  exact ⟨fun i j x y hx hy hxy => by have := h.1 _ _ x y (e i x hx) (e j y hy) hxy; omega, fun k q hk => h.2 _ q (e k q hk)⟩
theorem ml_Dx {A : Nat → Prop} {w1 w2 : va_W} (h : va_D A (w1 ++ w2)) (i j : Nat) (x y : Nat × va_E) (hx : w1[i]? = some x) (hy : w2[j]? = some y) : x.1 ≠ y.1 := by
  intro e
  have h1 := (List.getElem?_eq_some_iff.mp hx).1
  have := h.1 i (w1.length + j) x y (by rw [List.getElem?_append_left h1]; exact hx) (by rw [List.getElem?_append_right (Nat.le_add_right _ _), Nat.add_sub_cancel_left]; exact hy) e
  omega
theorem ml_Pswap {D : va_G} {cl : List vw_C} {w1 w2 : va_W} {H : Heap} (h : va_P D cl (w1 ++ w2) H) : va_P D cl (w2 ++ w1) H := (ml_Pr h).app (ml_Pl h)
theorem ml_Dswap {A : Nat → Prop} {w1 w2 : va_W} (h : va_D A (w1 ++ w2)) : va_D A (w2 ++ w1) := (ml_Dr h).app (ml_Dl h) (fun i j p q hp hq => Ne.symm (ml_Dx h j i q p hq hp))
/-- the numbering of a callee's cells: its own, what it makes, the Strings -/
def ml_ad (ad1 ad : Nat → Nat) (n z : Nat) : Nat → Nat := fun a => if a < n then ad1 a else if a < 1000 then z + (a - n) else ad a
def ml_ok (n : Nat) (c : mh_C) : Prop := ∀ (ad ad' : Nat → Nat), (∀ a, a < n → ad' a = ad a) → ∀ (cA : Nat → ClassId) (I : mh_I) (L : mh_L) (a : Nat), mh_cell ad' cA I L a c = mh_cell ad cA I L a c
theorem ml_ok_row {n k : Nat} {r : Nat → Option Nat} : ml_ok n (.inr (0, k, r)) := fun _ _ _ _ _ _ _ => rfl
theorem ml_ok_jrow {n k : Nat} {r : Nat → Option Nat} : ml_ok n (.inr (1, k, r)) := fun _ _ _ _ _ _ _ => rfl
theorem ml_ok_refs {n k t : Nat} {r : Nat → Option Nat} (h : ∀ j x, r j = some x → x < n) : ml_ok n (.inr (t + 3, k, r)) := by
  intro ad ad' ha cA I L a
  have e : (fun j => (r j).map ad') = fun j => (r j).map ad := by
    funext j
    cases hj : r j with
    | none => rfl
    | some x => exact congrArg some (ha x (h j x hj))
  rw [mh_cell, mh_cell, e]
theorem ml_ok_obj {n ci : Nat} {fs : List mh_F} (h : ∀ f ∈ fs, ∀ x, f = .inr (some x) → x < n) : ml_ok n (.inl (ci, fs)) := by
  intro ad ad' ha cA I L a
  rw [mh_cell, mh_cell]
  refine congrArg (fun z => (Sum.inr (ci, z) : va_E)) ?_
  apply List.ext_getElem?
  intro j
  rw [List.getElem?_mapIdx, List.getElem?_mapIdx]
  cases hf : fs[j]? with
  | none => rfl
  | some f =>
    simp only [Option.map_some]
    refine congrArg some ?_
    rcases f with v | r
    · cases v <;> rfl
    · cases r with
      | none => rfl
      | some x => exact congrArg Value.ref (ha x (h _ (List.mem_of_getElem? hf) x rfl))
theorem ml_ws {n : Nat} {sh : List mh_C} (hn : sh.length = n) (h : ∀ c ∈ sh, ml_ok n c) {ad ad' : Nat → Nat} (ha : ∀ a, a < n → ad' a = ad a) (cA : Nat → ClassId) (I : mh_I) (L : mh_L) : mh_ws ad' cA sh I L = mh_ws ad cA sh I L := by
  apply List.ext_getElem?
  intro j
  unfold mh_ws
  rw [List.getElem?_mapIdx, List.getElem?_mapIdx]
  cases hc : sh[j]? with
  | none => rfl
  | some c =>
    simp only [Option.map_some]
    rw [ha j (by rw [← hn]; exact (List.getElem?_eq_some_iff.mp hc).1), h c (List.mem_of_getElem? hc) ad ad' ha]
theorem ml_okX {T : Option Nat} (hT : ∀ t, T = some t → t < 46) : ∀ c ∈ SHX T, ml_ok 46 c := by
  have h2 : ∀ (ci : Nat) (fs : List mh_F), (fs.all fun f => match f with | .inr (some x) => decide (x < 46) | _ => true) = true → ml_ok 46 (.inl (ci, fs)) := fun ci fs hall => ml_ok_obj fun f hf x hx => by
    have := List.all_eq_true.mp hall f hf
    subst hx
    simpa using this
  have h3 : ml_ok 46 (.inl (3, fsX3 7 T)) := ml_ok_obj fun f hf x hx => by
    subst hx
    simp only [List.mem_cons, List.not_mem_nil, or_false, reduceCtorEq, false_or, Sum.inr.injEq, Option.some.injEq] at hf
    rcases hf with h | h
    · omega
    · exact hT x h.symm
  have h4 : ∀ j x, mh_rT j = some x → x < 46 := fun j x h => by
    unfold mh_rT at h
    by_cases hj : j < 6
    · rw [if_pos hj] at h; cases h; omega
    · rw [if_neg hj] at h; cases h
  have h5 : ∀ j x, mh_rS j = some x → x < 46 := fun j x h => by
    unfold mh_rS at h
    by_cases hj : j < 4
    · rw [if_pos hj] at h; cases h; omega
    · rw [if_neg hj] at h; cases h
  unfold SHX
  simp only [List.forall_mem_cons]
  refine ⟨?_, ?_, ?_, ?_, ?_, ?_, ?_, h3, ?_, ml_ok_refs h4, ?_, ?_, ml_ok_refs h5, ml_ok_jrow, ?_, ?_, ?_, ?_, ?_, ?_, ?_, ?_, ?_, ?_, ?_, ?_, ?_, ?_, ?_, ?_, ?_, ?_, ?_, ?_, ?_, ?_, ?_, ?_, ?_, ?_, ?_, ?_, ?_, ?_, ?_, ?_, fun c hc => by cases hc⟩ <;> first | exact ml_ok_row | exact h2 _ _ rfl
theorem mh_E.congr {A : Nat → Prop} {ad ad' : Nat → Nat} {U : State} (h : mh_E A ad U) (e : ∀ a, 1000 ≤ a → ad' a = ad a) : mh_E A ad' U := by
  have e1 : (fun i => ad' (1000 + i)) = fun i => ad (1000 + i) := funext fun i => e _ (Nat.le_add_right _ _)
  have e2 : (fun i => ad' (1010 + i)) = fun i => ad (1010 + i) := funext fun i => e _ (by omega)
  have e3 : ∀ i, ad' (1000 + i) = ad (1000 + i) := fun i => e _ (Nat.le_add_right _ _)
  unfold mh_E at h ⊢
  simp only [e1, e2, e3, e 1020 (by omega), e 1030 (by omega)]
  exact h
theorem mh_ws_app {ad : Nat → Nat} {cA : Nat → ClassId} {sh ext : List mh_C} {I : mh_I} {L : mh_L} : mh_ws ad cA (sh ++ ext) I L = mh_ws ad cA sh I L ++ ext.mapIdx (fun j c => (ad (sh.length + j), mh_cell ad cA I L (sh.length + j) c)) := by
  unfold mh_ws
  rw [List.mapIdx_append]
  congr 1
  apply List.ext_getElem?
  intro j
  rw [List.getElem?_mapIdx, List.getElem?_mapIdx, Nat.add_comm sh.length j]
theorem mh_ws_ext {ad : Nat → Nat} {cA cA' : Nat → ClassId} {sh : List mh_C} {I I' : mh_I} {L L' : mh_L} (h : ∀ a, a < sh.length → I' a = I a ∧ L' a = L a ∧ cA' a = cA a) : mh_ws ad cA' sh I' L' = mh_ws ad cA sh I L := by
  apply List.ext_getElem?
  intro j
  unfold mh_ws
  rw [List.getElem?_mapIdx, List.getElem?_mapIdx]
  cases hc : sh[j]? with
  | none => rfl
  | some c =>
    have hj := h j (List.getElem?_eq_some_iff.mp hc).1
    simp only [Option.map_some]
    rw [mh_cell_congr hj.1 hj.2.1 hj.2.2]
set_option maxHeartbeats 1000000 in
theorem mh_fr {n : Nat} {sh sh1 : List mh_C} {y : MethodName} {cc : ByteArray} {maxL : Nat} {rt : Option FieldType} {d : Nat} {I I1 : mh_I} {L L1 : mh_L} {av : List Value} {r : Option Value} (hn : sh.length = n) (hn1 : sh1.length = n) (hok : ∀ c ∈ sh, ml_ok n c) (hok1 : ∀ c ∈ sh1, ml_ok n c) (ext : List mh_C) (hav : ∀ v ∈ av, mh_lo n v) (hr : ∀ v, r = some v → mh_lo n v)
    (h : mh_CT y cc maxL rt (mh_rm d) sh I L av (mh_ret r sh1 I1 L1)) : mh_CT y cc maxL rt (mh_rm d) (sh ++ ext) I L av (mh_ret r (sh1 ++ ext) (mh_mx n I1 I) (mh_mx n L1 L)) := by
  intro l D ad cA sz hbig had
  subst hn
  have hN : (sh ++ ext).length = sh.length + ext.length := List.length_append
  have hlo : ∀ a, a < sh.length → ml_ad ad ad sh.length sz a = ad a := fun a ha => if_pos ha
  have hhi : ∀ a, 1000 ≤ a → ml_ad ad ad sh.length sz a = ad a := fun a ha => by
    unfold ml_ad
    rw [if_neg (by omega), if_neg (by omega)]
  have hlh : ∀ a, a < sh.length ∨ 1000 ≤ a → ml_ad ad ad sh.length sz a = ad a := fun a ha => ha.elim (hlo a) (hhi a)
  have hM := h l D (ml_ad ad ad sh.length sz) cA sz (by omega) (fun a h1 h2 => by unfold ml_ad; rw [if_neg (by omega), if_pos h2])
  have hargs : av.map (mh_v (ml_ad ad ad sh.length sz)) = av.map (mh_v ad) := List.map_congr_left fun v hv => mh_v_lo hlh (hav v hv)
  have hAA : ∀ q, mh_A (ml_ad ad ad sh.length sz) sh.length sz q → mh_A ad (sh ++ ext).length sz q := by
    rintro q (⟨a, h1, rfl⟩ | hq)
    · exact Or.inl ⟨a, by omega, hlo a h1⟩
    · exact Or.inr hq
  have hw : mh_ws (ml_ad ad ad sh.length sz) cA sh I L = mh_ws ad cA sh I L := ml_ws rfl hok (fun a ha => hlo a ha) cA I L
  rw [hargs] at hM
  refine Met_imp hM ?_ ?_ hAA
  · rintro a U ⟨ha, hz, hB, hE⟩
    refine ⟨ha, hz, ⟨?_, ?_, hB.2.2.1, fun a t n r hs => hB.2.2.2 a t n r (by rw [List.getElem?_append_left (List.getElem?_eq_some_iff.mp hs).1]; exact hs)⟩, (hE.move (State.WarmedH.refl U) (fun _ _ _ => rfl) hAA).congr hhi⟩
    · rw [hw]
      have := hB.1
      rw [mh_ws_app] at this
      exact ml_Pl this
    · rw [hw]
      have := hB.2.1
      rw [mh_ws_app] at this
      refine (ml_Dl this).weaken (fun k q hk _ => ?_)
      have hk1 : k < sh.length := by
        have h9 := (List.getElem?_eq_some_iff.mp hk).1
        rw [mh_ws_len] at h9
        exact h9
      obtain ⟨z, hz⟩ : ∃ z, sh[k]? = some z := ⟨_, List.getElem?_eq_getElem hk1⟩
      rw [mh_ws_at hz] at hk
      cases hk
      exact Or.inl ⟨k, hk1, (hlo k hk1).symm⟩
  · rintro a U o t ⟨ha, hz, hB, hE⟩ hW ⟨⟨r', cA1, sh', I', L', ho, hφ, hB1, hbig1, hle⟩, hF⟩
    obtain ⟨rfl, rfl, rfl, rfl⟩ := hφ
    have hw1 : mh_ws (ml_ad ad ad sh.length sz) cA1 sh' I' L' = mh_ws ad cA1 sh' I' L' := ml_ws hn1 hok1 (fun a ha => hlo a ha) cA1 I' L'
    have hP0 := hB.1
    have hD0 := hB.2.1
    rw [mh_ws_app] at hP0 hD0
    have e1 : mh_ws ad (fun a => if a < sh.length then cA1 a else cA a) (sh' ++ ext) (mh_mx sh.length I' I) (mh_mx sh.length L' L) = mh_ws ad cA1 sh' I' L' ++ ext.mapIdx (fun j c => (ad (sh.length + j), mh_cell ad cA I L (sh.length + j) c)) := by
      rw [mh_ws_app, hn1]
      congr 1
      · exact mh_ws_ext (fun a ha => ⟨mh_mx_lo (by omega), mh_mx_lo (by omega), if_pos (by omega)⟩)
      · apply List.ext_getElem?
        intro j
        rw [List.getElem?_mapIdx, List.getElem?_mapIdx]
        cases ext[j]? with
        | none => rfl
        | some c =>
          simp only [Option.map_some]
          rw [mh_cell_congr (mh_mx_hi (X := I') (Y := I) (by omega : ¬ sh.length + j < sh.length)) (mh_mx_hi (X := L') (Y := L) (by omega : ¬ sh.length + j < sh.length)) (if_neg (by omega))]
    have hP1 := hB1.1
    have hD1 := hB1.2.1
    rw [hw1] at hP1 hD1
    have hext : ∀ (j : Nat) (x : Nat × va_E), (ext.mapIdx (fun j c => (ad (sh.length + j), mh_cell ad cA I L (sh.length + j) c)))[j]? = some x → ¬ mh_A (ml_ad ad ad sh.length sz) sh.length sz x.1 ∧ x.1 < U.heap.size := by
      intro j x hx
      have hl := (ml_Pr hP0 j x hx).lt
      refine ⟨?_, hl⟩
      rintro (⟨b, hb, hb2⟩ | hq)
      · rw [hlo b hb] at hb2
        obtain ⟨z, hz2⟩ : ∃ z, sh[b]? = some z := ⟨_, List.getElem?_eq_getElem hb⟩
        exact ml_Dx hD0 b j _ x (mh_ws_at hz2) hx hb2.symm
      · omega
    refine ⟨⟨r', fun a => if a < sh.length then cA1 a else cA a, sh' ++ ext, mh_mx sh.length I' I, mh_mx sh.length L' L, ?_, ⟨rfl, rfl, rfl, rfl⟩, ⟨?_, ?_, hB1.2.2.1, ?_⟩, ?_, ?_⟩, hF.1, fun q h1 h2 => hF.2 q h1 (fun z => h2 (hAA q z))⟩
    · rw [ho]
      cases r' with
      | none => rfl
      | some v => exact congrArg Outcome.returned (congrArg some (mh_v_lo hlh (hr v rfl)))
    · rw [e1]
      refine hP1.app (fun k x hx => ?_)
      obtain ⟨g1, g2⟩ := hext k x hx
      exact va_at.kept (ml_Pr hP0 k x hx) (hF.2 _ g2 g1)
    · rw [e1]
      refine (hD1.weaken (fun _ q _ hq => hAA q.1 hq)).app (ml_Dr hD0) (fun i j x z hx hz2 e => ?_)
      obtain ⟨g1, g2⟩ := hext j z hz2
      exact g1 (e ▸ hD1.2 i x hx)
    · intro a t2 n2 r2 hs
      by_cases ha : a < sh.length
      · rw [List.getElem?_append_left (by omega)] at hs
        simp only [if_pos ha]
        exact hB1.2.2.2 a t2 n2 r2 hs
      · have hs' : (sh ++ ext)[a]? = some (.inr (t2, n2, r2)) := by
          rw [List.getElem?_append_right (by omega)] at hs ⊢
          rw [hn1] at hs
          exact hs
        simp only [if_neg ha]
        exact va_K.moved hW.alike (hB.2.2.2 a t2 n2 r2 hs')
    · rw [List.length_append]; omega
    · rw [List.length_append, List.length_append]; omega
theorem mh_frX {T T1 : Option Nat} {y : MethodName} {cc : ByteArray} {maxL : Nat} {rt : Option FieldType} {d : Nat} {I I1 : mh_I} {L L1 : mh_L} {av : List Value} {r : Option Value} (ext : List mh_C) (hT : ∀ t, T = some t → t < 46) (hT1 : ∀ t, T1 = some t → t < 46) (hav : ∀ v ∈ av, mh_lo 46 v) (hr : ∀ v, r = some v → mh_lo 46 v)
    (h : mh_CT y cc maxL rt (mh_rm d) (SHX T) I L av (mh_ret r (SHX T1) I1 L1)) : mh_CT y cc maxL rt (mh_rm d) (SHX T ++ ext) I L av (mh_ret r (SHX T1 ++ ext) (mh_mx 46 I1 I) (mh_mx 46 L1 L)) := mh_fr (SHX_len T) (SHX_len T1) (ml_okX hT) (ml_okX hT1) ext hav hr h
theorem mh_mx_self {α : Type} {n : Nat} (X : Nat → Nat → α) : mh_mx n X X = X := by
  funext a
  unfold mh_mx
  split <;> rfl
theorem mh_frXL {T T1 : Option Nat} {y : MethodName} {cc : ByteArray} {maxL : Nat} {rt : Option FieldType} {d : Nat} {I : mh_I} {L L1 : mh_L} {av : List Value} {r : Option Value} (ext : List mh_C) (hT : ∀ t, T = some t → t < 46) (hT1 : ∀ t, T1 = some t → t < 46) (hav : ∀ v ∈ av, mh_lo 46 v) (hr : ∀ v, r = some v → mh_lo 46 v)
    (h : mh_CT y cc maxL rt (mh_rm d) (SHX T) I L av (mh_ret r (SHX T1) I L1)) : mh_CT y cc maxL rt (mh_rm d) (SHX T ++ ext) I L av (mh_ret r (SHX T1 ++ ext) I (mh_mx 46 L1 L)) := by
  have := mh_frX ext hT hT1 hav hr h
  rwa [mh_mx_self] at this
theorem mh_frXI {T T1 : Option Nat} {y : MethodName} {cc : ByteArray} {maxL : Nat} {rt : Option FieldType} {d : Nat} {I I1 : mh_I} {L : mh_L} {av : List Value} {r : Option Value} (ext : List mh_C) (hT : ∀ t, T = some t → t < 46) (hT1 : ∀ t, T1 = some t → t < 46) (hav : ∀ v ∈ av, mh_lo 46 v) (hr : ∀ v, r = some v → mh_lo 46 v)
    (h : mh_CT y cc maxL rt (mh_rm d) (SHX T) I L av (mh_ret r (SHX T1) I1 L)) : mh_CT y cc maxL rt (mh_rm d) (SHX T ++ ext) I L av (mh_ret r (SHX T1 ++ ext) (mh_mx 46 I1 I) L) := by
  have := mh_frX ext hT hT1 hav hr h
  rwa [mh_mx_self L] at this
