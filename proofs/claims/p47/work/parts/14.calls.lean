/-! contracts in the words of the mini heap; a method's start, its end, its calls -/
def mh_CT (y : MethodName) (cc : ByteArray) (maxL : Nat) (rt : Option FieldType) (Rc : Room) (sh : List mh_C) (I : mh_I) (L : mh_L) (av : List Value) (Φ : mh_P) : Prop :=
  ∀ (l : Launch) (D : va_G) (ad : Nat → Nat) (cA : Nat → ClassId) (sz : Nat), sh.length < 1000 → (∀ a : Nat, sh.length ≤ a → a < 1000 → ad a = sz + (a - sh.length)) →
    Met l y (.code y cc maxL rt :: mh_TB) Rc (va_Pc (av.map (mh_v ad)) (fun U => U.heap.size = sz ∧ mh_B D ad cA (mh_A ad sh.length sz) sh I L U.heap U ∧ mh_E (mh_A ad sh.length sz) ad U)) (mh_Q D ad (mh_A ad sh.length sz) sh.length Φ) Rc.cells Rc.slots (mh_A ad sh.length sz)
theorem mh_lvargs (ad : Nat → Nat) : ∀ (av : List Value) (i : Nat), lv_args i (av.map (mh_v ad)) = (lv_args i av).map (fun q => (q.1, mh_v ad q.2))
  | [], _ => rfl
  | v :: vs, i => by
    rw [List.map_cons, lv_args, lv_args, List.map_cons, mh_v_cat, mh_lvargs ad vs]
theorem mh_lgsl (ad : Nat → Nat) : ∀ (av : List Value), (lg_sl (av.map (mh_v ad))).length = (lg_sl av).length
  | [] => rfl
  | v :: vs => by
    have h := mh_lgsl ad vs
    unfold lg_sl at h ⊢
    rw [List.map_cons, List.flatMap_cons, List.flatMap_cons, List.length_append, List.length_append, h, mh_v_cat]
    by_cases hc : v.category = 2 <;> simp [hc]
theorem mh_ofW {y : MethodName} {cc : ByteArray} {maxL : Nat} {rt : Option FieldType} {Rc : Room} {sh : List mh_C} {I : mh_I} {L : mh_L} {av : List Value} {Φ : mh_P} {ini : Bool} (own : String) (hown : own = y.cls) (hy : plainName y.cls = true) (hini : ini = true → y.name = "<init>") (hn : (lg_sl av).length ≤ maxL)
    (h : mh_W own cc maxL rt ini Rc sh.length Rc.cells Rc.slots mh_noX Φ 0 sh I L 0 (lv_args 0 av) []) : mh_CT y cc maxL rt Rc sh I L av Φ := by
  subst hown
  intro l D ad cA sz hbig had
  refine Met.ofW (cc := cc) (maxL := maxL) (ret := rt) hy rfl ?_
  intro p e s m args below meth c s₁ B hml hv
  obtain ⟨rfl, hsz, hB, hE⟩ := hv
  have hts := atoms_spec (ws := .code y cc maxL rt :: mh_TB) B.pre
  have hown : s.vm.findClass y.cls = some m.cls := findClass_of_methodNamed B.named
  subst hsz
  have hl := lv_entry (av.map (mh_v ad)) (n := maxL) (by rw [mh_lgsl]; exact hn)
  rw [lg_entry_eq]
  generalize (lg_sl (av.map (mh_v ad)) ++ List.replicate (maxL - (lg_sl (av.map (mh_v ad))).length) Slot.unset).toArray = ls at hl ⊢
  rw [mh_lvargs] at hl
  have hk := h p l e s m (av.map (mh_v ad)).toArray below meth c D ad (mh_A ad sh.length s.heap.size) cA s.heap [] ls
    ⟨B.exec, B.bytes, hml, B.returns, B.notSynchronized, fun hi => (name_of_methodNamed B.named B.method).1.trans (hini hi), hown, fun w hw => hts w (List.mem_cons_of_mem _ hw), hE, fun q => Iff.rfl, had, trivial⟩
    ⟨hB, va_S.rf, hl, Nat.le_refl _, hbig⟩
  rw [Nat.sub_self] at hk
  exact hk
theorem mh_B.moved {D : va_G} {ad : Nat → Nat} {cA : Nat → ClassId} {A : Nat → Prop} {sh : List mh_C} {I : mh_I} {L : mh_L} {H : Heap} {u U : State} (hvm : u.vm.Alike U.vm) (h : mh_B D ad cA A sh I L H u) : mh_B D ad cA A sh I L H U :=
  ⟨h.1, h.2.1, va_K.moved hvm h.2.2.1, fun a t n r hs => va_K.moved hvm (h.2.2.2 a t n r hs)⟩
section MH4
variable {own : String} {cc : ByteArray} {nL : Nat} {rt : Option FieldType} {ini : Bool} {R : Room} {n0 mc ms : Nat} {Ex : mh_X} {Φ : mh_P} {slots : Nat} {sh : List mh_C} {I : mh_I} {L : mh_L} {pc : Nat} {lv : List (Nat × Value)} {st : List Value}
theorem mh_Qof {nL' : Nat} {s : State} {D : va_G} {ad : Nat → Nat} {A : Nat → Prop} {cA : Nat → ClassId} {H : Heap} {locs : List Loc} {ls : Array Slot} (S : mh_S nL' n0 s D ad A cA sh I L lv H locs ls) {r : Option Value} (hq : Φ r sh I L) {args : Array Value} {t : State} (ht : t.heap = H) (hW : s.WarmedH t.vm) : mh_Q D ad A n0 Φ args s (.returned (r.map (mh_v ad))) t := by
  refine ⟨⟨r, cA, sh, I, L, rfl, hq, ?_, S.big, S.hn0⟩, S.S.F ht⟩
  rw [ht]
  exact S.1.moved hW.alike
theorem mw_iret {v : Int32} {ty : FieldType} (hd : decode cc pc = .ok (.ireturn, 1)) (hr : rt = some ty) (hn : narrow ty (.int v) = .int v) (hc : sh.length - n0 ≤ mc) (hsl : slots ≤ ms) (hq : Φ (some (.int v)) sh I L) : mh_W own cc nL rt ini R n0 mc ms Ex Φ slots sh I L pc lv [.int v] := by
  intro p l e s m args below meth c D ad A cA H locs ls K S
  refine W.widen hc hsl ?_
  exact W.zret K.x K.b (K.hrt.trans hr) hn (fun t ht hW => mh_Qof S hq ht hW) S.S.2.2 hd K.locks
theorem mw_lret {v : Int64} (hd : decode cc pc = .ok (.lreturn, 1)) (hr : rt = some .long) (hc : sh.length - n0 ≤ mc) (hsl : slots ≤ ms) (hq : Φ (some (.long v)) sh I L) : mh_W own cc nL rt ini R n0 mc ms Ex Φ slots sh I L pc lv [.long v] := by
  intro p l e s m args below meth c D ad A cA H locs ls K S
  refine W.widen hc hsl ?_
  exact W.lret K.x K.b (K.hrt.trans hr) (fun t ht hW => mh_Qof S hq ht hW) S.S.2.2 hd K.locks
theorem mw_aret {b : Nat} {ty : FieldType} (hd : decode cc pc = .ok (.areturn, 1)) (hr : rt = some ty) (hty : (∃ n, ty = .object n) ∨ ∃ t, ty = .array t) (hc : sh.length - n0 ≤ mc) (hsl : slots ≤ ms) (hq : Φ (some (.ref b)) sh I L) : mh_W own cc nL rt ini R n0 mc ms Ex Φ slots sh I L pc lv [.ref b] := by
  intro p l e s m args below meth c D ad A cA H locs ls K S
  refine W.widen hc hsl ?_
  exact W.aret K.x K.b (K.hrt.trans hr) hty (Or.inr ⟨_, rfl⟩) (fun t ht hW => mh_Qof S hq ht hW) S.S.2.2 hd K.locks
theorem mw_vret (hd : decode cc pc = .ok (.return_, 1)) (hr : rt = none) (hc : sh.length - n0 ≤ mc) (hsl : slots ≤ ms) (hq : Φ none sh I L) : mh_W own cc nL rt ini R n0 mc ms Ex Φ slots sh I L pc lv [] := by
  intro p l e s m args below meth c D ad A cA H locs ls K S
  refine W.widen hc hsl ?_
  exact W.vret K.x K.b (K.hrt.trans hr) (fun t ht hW => mh_Qof S hq ht hW) S.S.2.2 hd K.locks
end MH4
theorem mh_nw_warm {s U : State} (hW : s.WarmedH U.vm) {w : Cond} (hw : w ∈ mh_NW) (h : va_Nw w s) : va_Nw w U := by
  have h1 : mh_nest w = true := (List.mem_filter.mp hw).2
  cases w with
  | fieldLinkNest a b c d e f => exact va_Nw.warmF hW h
  | methodLinkNest a b c d => exact va_Nw.warmM hW h
  | _ => cases h1
theorem mh_E.move {A B : Nat → Prop} {ad : Nat → Nat} {s U : State} (h : mh_E A ad s) (hW : s.WarmedH U.vm) (hk : ∀ a : Nat, a < s.heap.size → ¬ A a → U.heap[a]? = s.heap[a]?) (hAB : ∀ q, B q → A q) : mh_E B ad U := by
  obtain ⟨h1, h2, h4, h5, h6, h7, h8, h9, h10⟩ := h
  exact ⟨fun w hw => mh_nw_warm hW hw (h1 w hw), fun q hq => vk_R.warm hW (h2 q hq), ((h4.kept hk).moved hW.alike).narrow hAB, ((h5.kept hk).moved hW.alike).narrow hAB, h6.elim (fun h6 => Or.inl (((h6.kept hk).moved hW.alike).narrow hAB)) (fun h6 => Or.inr (((h6.kept hk).moved hW.alike).narrow hAB)), va_AO.moved hW.alike h7, va_AO.moved hW.alike h8, ((h9.kept hk).moved hW.alike).narrow hAB, ((h10.kept hk).moved hW.alike).narrow hAB⟩
theorem mh_blind {D : va_G} {ad : Nat → Nat} {cA : Nat → ClassId} {A : Nat → Prop} {sh : List mh_C} {I : mh_I} {L : mh_L} {sz : Nat} {vs : List Value} : FrameBlind (va_Pc vs (fun U => U.heap.size = sz ∧ mh_B D ad cA A sh I L U.heap U ∧ mh_E A ad U)) := by
  intro a U g mk h
  obtain ⟨h1, h2, h3, h4⟩ := h
  exact ⟨h1, h2, h3.moved (u := U) (U := U.calling g mk a) (Vm.Alike.refl U.vm), h4.move (s := U) (U := U.calling g mk a) (State.WarmedH.refl U) (fun _ _ _ => rfl) (fun _ hq => hq)⟩
/-- what the tables say of a call -/
def mh_cl (own : String) (index : Nat) (y : MethodName) (n : Nat) : Prop :=
  (Cond.methodLink own index y ∈ mh_TB ∨ ∃ host : String, Cond.methodLinkNest own index y host ∈ mh_NW) ∧ Cond.initialized y.cls ∈ mh_TB ∧ (y.cls ≠ "java/lang/invoke/MethodHandle" ∧ y.cls ≠ "java/lang/invoke/VarHandle") ∧ (parseMethodDescriptor y.desc).map (fun d => d.parameters.length) = some n
def mh_cv (own : String) (index : Nat) (y : MethodName) (n : Nat) : Prop := mh_cl own index y n ∧ Cond.instanceMethod y ∈ mh_TB ∧ Cond.selects y.cls y y ∈ mh_TB
def mh_cvC (C own : String) (index : Nat) (y : MethodName) (n : Nat) : Prop := mh_cl own index y n ∧ Cond.instanceMethod y ∈ mh_TB ∧ Cond.selects C y y ∈ mh_TB
def mh_cs (own : String) (index : Nat) (y : MethodName) (n : Nat) : Prop := mh_cl own index y n ∧ Cond.static y ∈ mh_TB
def mh_ci (own : String) (index : Nat) (y : MethodName) (n : Nat) : Prop := mh_cl own index y n ∧ Cond.instanceMethod y ∈ mh_TB ∧ y.name = "<init>"
theorem mh_good {y : MethodName} {cc : ByteArray} {maxL : Nat} {rt : Option FieldType} (h : Cond.code y cc maxL rt ∈ mh_TB) : GoodIn mh_TB (.code y cc maxL rt :: mh_TB) := by
  intro w hw
  rcases List.mem_cons.mp hw with rfl | hw
  · exact ⟨h, good_of_word (List.mem_filter.mp h).2⟩
  · exact ⟨hw, good_of_word (List.mem_filter.mp hw).2⟩
section MH5
variable {p : Program} {l : Launch} {e : Env} {R : Room} {s : State} {m : MethodId} {args : Array Value} {below : List Frame} {meth : Method} {c : Code} {H : Heap} {locs : List Loc} {cells slots : Nat} {Q : State → Prop} {pc : Nat} {ls : Array Slot} {rest st0 : List Value} {a : Array Value} {mc ms : Nat} {free : Addr → Prop}
/-- behind a call -/
theorem mh_on {D : va_G} {ad : Nat → Nat} {A A1 : Nat → Prop} {n1 : Nat} {Φ : mh_P} (hr : va_Run p l e R s m args below meth c H locs cells slots mc ms (F0 m pc ls st0) rest (mh_Q D ad A1 n1 Φ a) free) (hS : va_S A s.heap H locs) (hA : ∀ q, A1 q → A q) (hf : ∀ q, free q → A q)
    (kk : ∀ (r : Option Value) (cA : Nat → ClassId) (sh : List mh_C) (I : mh_I) (L : mh_L) (H1 : Heap) (locs1 : List Loc), Φ r sh I L → mh_B D ad cA A1 sh I L H1 s → sh.length < 1000 → n1 ≤ sh.length → va_S A s.heap H1 locs1 → (H.size ≤ H1.size ∧ ∀ q : Nat, q < H.size → ¬ A1 q → H1[q]? = H[q]?) → W p l e R s m args below meth c H1 locs1 (cells + mc) (slots + ms) Q (F0 m (pc + 3) ls ((r.map (mh_v ad)).toList ++ rest))) : W p l e R s m args below meth c H locs cells slots Q (F0 m pc ls st0) := by
  intro T hT X
  obtain ⟨v, st₀, t, T', L0, h0, X', hL, e1, e2, ⟨⟨r, cA, sh, I, L, hv, hφ, hB, hbig, hn⟩, hz, hk⟩, st⟩ := hr T hT X
  cases hv
  rw [h0] at hz hk
  have hal : s.vm.Alike t.vm := by rw [← e2]; exact X'.warmed.alike
  obtain ⟨t2, a1, b1⟩ := kk r cA sh I L T'.heap (locs ++ L0) hφ (by rw [e1]; exact hB.moved hal.symm) hbig hn
    ⟨Nat.le_trans hS.1 (by rw [e1]; exact hz), fun q h1 h2 => by rw [e1, hk q (Nat.lt_of_lt_of_le h1 hS.1) (fun z => h2 (hA q z))]; exact hS.2.1 q h1 h2, fun q hq => by
      rcases List.mem_append.mp hq with h | h
      · exact hS.2.2 q h
      · exact hf _ (hL q h)⟩ ⟨by rw [e1]; exact hz, fun q h1 h2 => by rw [e1]; exact hk q h1 h2⟩ T' rfl X'
  exact ⟨t2, st t2 a1, b1⟩
end MH5
