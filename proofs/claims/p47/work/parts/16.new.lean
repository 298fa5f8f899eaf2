def mh_z (I : mh_I) (a : Nat) : mh_I := fun b => if b = a then fun _ => 0 else I b
def mh_zl (L : mh_L) (a : Nat) : mh_L := fun b => if b = a then fun _ => 0 else L b
def mh_d : mh_F → Value
  | .inl 0 => .int 0
  | .inl (_ + 1) => .long 0
  | .inr _ => .null
theorem mh_ws_push {ad : Nat → Nat} {cA cA' : Nat → ClassId} {sh : List mh_C} {I I' : mh_I} {L L' : mh_L} {c : mh_C} (hI : ∀ b, b < sh.length → I' b = I b) (hL : ∀ b, b < sh.length → L' b = L b) (hA : ∀ b, b < sh.length → cA' b = cA b) : mh_ws ad cA' (sh ++ [c]) I' L' = mh_ws ad cA sh I L ++ [(ad sh.length, mh_cell ad cA' I' L' sh.length c)] := by
  unfold mh_ws
  rw [List.mapIdx_append]
  congr 1
  · apply List.ext_getElem?
    intro j
    rw [List.getElem?_mapIdx, List.getElem?_mapIdx]
    cases h : sh[j]? with
    | none => rfl
    | some x =>
      have hj := (List.getElem?_eq_some_iff.mp h).1
      simp only [Option.map_some]
      rw [mh_cell_congr (hI j hj) (hL j hj) (hA j hj)]
  · simp
section MH7
variable {own : String} {cc : ByteArray} {nL : Nat} {rt : Option FieldType} {ini : Bool} {R : Room} {n0 mc ms : Nat} {Ex : mh_X} {Φ : mh_P} {slots : Nat} {sh : List mh_C} {I : mh_I} {L : mh_L} {pc : Nat} {lv : List (Nat × Value)} {st : List Value}
/-- a cell that is made lies just where the mini heap says -/
theorem mh_newq {s : State} {D : va_G} {ad : Nat → Nat} {A : Nat → Prop} {cA : Nat → ClassId} {H1 : Heap} {q : Nat} {x : va_E} (hA : ∀ q : Nat, A q ↔ mh_A ad n0 s.heap.size q) (had : ∀ a : Nat, n0 ≤ a → a < 1000 → ad a = s.heap.size + (a - n0)) (hn : n0 ≤ sh.length) (hb : sh.length < 1000) (hP : va_P D vwCl (mh_ws ad cA sh I L ++ [(q, x)]) H1) (hD : va_D A (mh_ws ad cA sh I L ++ [(q, x)])) (hz : H1.size ≤ s.heap.size + (sh.length - n0 + 1)) : q = ad sh.length := by
  have hlast : (mh_ws ad cA sh I L ++ [(q, x)])[sh.length]? = some (q, x) := by
    rw [List.getElem?_append_right (by rw [mh_ws_len]; exact Nat.le_refl _), mh_ws_len, Nat.sub_self]; rfl
  have hlt := (hP _ _ hlast).lt
  have hne : ∀ a, a < sh.length → q ≠ ad a := by
    intro a ha e
    obtain ⟨c, hc⟩ : ∃ c, sh[a]? = some c := ⟨_, List.getElem?_eq_getElem ha⟩
    have h1 : (mh_ws ad cA sh I L ++ [(q, x)])[a]? = some (ad a, mh_cell ad cA I L a c) := by
      rw [List.getElem?_append_left (by rw [mh_ws_len]; exact ha)]
      exact mh_ws_at hc
    have := hD.1 _ _ _ _ hlast h1 e
    omega
  rcases (hA q).mp (hD.2 _ _ hlast) with ⟨a, ha, e⟩ | hq
  · exact absurd e (hne a (by omega))
  · dsimp only at hlt
    by_cases hj : q - s.heap.size < sh.length - n0
    · have := hne (n0 + (q - s.heap.size)) (by omega)
      rw [had _ (by omega) (by omega)] at this
      omega
    · rw [had _ hn hb]
      omega
/-- the world with one cell more -/
theorem mh_grow {nL' : Nat} {p : Program} {s : State} {m : MethodId} {args : Array Value} {meth : Method} {c : Code} {D : va_G} {ad : Nat → Nat} {A : Nat → Prop} {cA cA' : Nat → ClassId} {H H1 : Heap} {locs : List Loc} {ls : Array Slot} {q : Nat} {x : va_E} {I' : mh_I} {L' : mh_L} {cn : mh_C} (K : mh_K own cc nL rt ini n0 Ex p s m args meth c ad A) (S : mh_S nL' n0 s D ad A cA sh I L lv H locs ls) (hP : va_P D vwCl (mh_ws ad cA sh I L ++ [(q, x)]) H1) (hD : va_D A (mh_ws ad cA sh I L ++ [(q, x)])) (hS : va_S A s.heap H1 locs) (hz : H1.size ≤ s.heap.size + (sh.length - n0 + 1)) (hbig : sh.length < 999)
    (hx : x = mh_cell ad cA' I' L' sh.length cn) (hI : ∀ b, b < sh.length → I' b = I b) (hL : ∀ b, b < sh.length → L' b = L b) (hA : ∀ b, b < sh.length → cA' b = cA b) (hk : ∀ (t n : Nat) (r : Nat → Option Nat), cn = .inr (t, n, r) → va_K D vwCl [(cA' sh.length, mh_ty t)] s) : mh_S nL' n0 s D ad A cA' (sh ++ [cn]) I' L' lv H1 locs ls := by
  have hq := mh_newq K.hA K.had S.hn0 S.big hP hD hz
  subst hq
  subst hx
  rw [← mh_ws_push hI hL hA] at hP hD
  refine ⟨⟨hP, hD, S.K, fun a t n r h => ?_⟩, hS, S.hlv, ?_, ?_⟩
  · by_cases ha : a < sh.length
    · rw [List.getElem?_append_left ha] at h
      have := S.KA h
      rw [hA a ha]
      exact this
    · have hl := (List.getElem?_eq_some_iff.mp h).1
      rw [List.length_append] at hl
      have ha2 : a = sh.length := by simp at hl; omega
      subst ha2
      rw [List.getElem?_append_right (Nat.le_refl _), Nat.sub_self] at h
      exact hk t n r (Option.some.inj h)
  · rw [List.length_append]; exact Nat.le_trans S.hn0 (Nat.le_add_right _ _)
  · rw [List.length_append]; simp; omega
def mh_nw (own : String) (index ci : Nat) (fs : List mh_F) : Prop :=
  ∃ (C : String) (T : u_T) (N : Nat) (ty0 : Nat → FieldType), vwCl[ci]? = some (C, T, N) ∧ (∀ w ∈ u_ws C T N, w ∈ mh_TB) ∧ (∀ k, k < N → parseFieldDescriptor (T k).2.2.1 = some (ty0 k)) ∧ Cond.classLink own index C ∈ mh_TB ∧ Cond.instantiable C N ∈ mh_TB ∧ Cond.initialized C ∈ mh_TB ∧ fs.length = N ∧ (∀ j, j < N → defaultValue (ty0 j) = vp_V (fs.map mh_d) j) ∧ ∀ f ∈ fs, f = .inl 0 ∨ f = .inl 1 ∨ f = .inr none
theorem mw_new {index ci : Nat} {fs : List mh_F} (q : mh_nw own index ci fs) (hd : decode cc pc = .ok (.new index, 3)) (hbig : sh.length < 999) (hcs : sh.length - n0 + 1 ≤ R.cells ∧ slots + fs.length ≤ R.slots)
    (kk : mh_W own cc nL rt ini R n0 mc ms Ex Φ (slots + fs.length) (sh ++ [.inl (ci, fs)]) (mh_z I sh.length) (mh_zl L sh.length) (pc + 3) lv (.ref sh.length :: st)) : mh_W own cc nL rt ini R n0 mc ms Ex Φ slots sh I L pc lv st := by
  intro p l e s m args below meth c D ad A cA H locs ls K S
  obtain ⟨C, T, N, ty0, hc, hin, hty, hcl, hinst, hini', hN, hdef, hf⟩ := q
  subst hN
  refine va_new (ci := ci) (fs := fs.map mh_d) (T := T) K.x K.b K.tb hin ty0 hty K.hown (K.tb _ hcl) (K.tb _ hinst) (K.tb _ hini') S.K S.P S.hD S.S K.new hc hdef hcs.1 hcs.2 hd (fun q H1 hP hD hS => ?_)
  refine W_szb (fun _ hz => ?_)
  have hcell : (Sum.inr (ci, fs.map mh_d) : va_E) = mh_cell ad cA (mh_z I sh.length) (mh_zl L sh.length) sh.length (.inl (ci, fs)) := by
    rw [mh_cell]
    refine congrArg (fun z => (Sum.inr (ci, z) : va_E)) ?_
    apply List.ext_getElem?
    intro j
    rw [List.getElem?_map, List.getElem?_mapIdx]
    cases h : fs[j]? with
    | none => rfl
    | some f =>
      simp only [Option.map_some]
      rcases hf f (List.mem_of_getElem? h) with rfl | rfl | rfl
      · simp [mh_d, mh_fv, mh_z]
      · simp [mh_d, mh_fv, mh_zl]
      · rfl
  have hq := mh_newq K.hA K.had S.hn0 S.big hP hD hz
  have hS1 := mh_grow (cn := .inl (ci, fs)) (cA' := cA) (I' := mh_z I sh.length) (L' := mh_zl L sh.length) K S hP hD hS hz hbig hcell (fun b hb => by simp [mh_z, Nat.ne_of_lt hb]) (fun b hb => by simp [mh_zl, Nat.ne_of_lt hb]) (fun _ _ => rfl) (fun t n r h => by cases h)
  have hk := kk p l e s m args below meth c D ad A cA H1 locs ls K hS1
  have h3 := S.hn0
  rw [List.length_append, show sh.length + [(Sum.inl (ci, fs) : mh_C)].length - n0 = sh.length - n0 + 1 by simp; omega] at hk
  rw [hq]
  exact hk
theorem mw_newa {t N : Nat} {n : Int32} {atype : ArrayType} (ht : t = 0 ∧ atype = .int ∨ t = 1 ∧ atype = .long ∨ t = 2 ∧ atype = .byte) (hw : Cond.arrayClass (newarray.typeOf atype) ∈ mh_TB) (hd : decode cc pc = .ok (.newarray atype, 2)) (hn : ¬ n < 0) (hN : n.toNatClampNeg = N) (hN2 : N ≤ 60000000) (hbig : sh.length < 999) (hcs : sh.length - n0 + 1 ≤ R.cells ∧ slots + N ≤ R.slots)
    (kk : mh_W own cc nL rt ini R n0 mc ms Ex Φ (slots + N) (sh ++ [.inr (t, N, fun _ => none)]) (mh_z I sh.length) (mh_zl L sh.length) (pc + 2) lv (.ref sh.length :: st)) : mh_W own cc nL rt ini R n0 mc ms Ex Φ slots sh I L pc lv (.int n :: st) := by
  intro p l e s m args below meth c D ad A cA H locs ls K S
  have h3 := S.hn0
  have fin : ∀ (q : Nat) (c' : ClassId) (H1 : Heap) (x : va_E), (∀ cA', cA' sh.length = c' → x = mh_cell ad cA' (mh_z I sh.length) (mh_zl L sh.length) sh.length (.inr (t, N, fun _ => none))) → va_K D vwCl [(c', mh_ty t)] s → va_P D vwCl (mh_ws ad cA sh I L ++ [(q, x)]) H1 → va_D A (mh_ws ad cA sh I L ++ [(q, x)]) → va_S A s.heap H1 locs →
      W p l e R s m args below meth c H1 locs (sh.length - n0 + 1) (slots + N) (MQ below (mh_Q D ad A n0 Φ) args s mc ms A) (F0 m (pc + 2) ls (.ref q :: st.map (mh_v ad))) := by
    intro q c' H1 x hx hKn hP hD hS
    refine W_szb (fun _ hz => ?_)
    have hq := mh_newq K.hA K.had S.hn0 S.big hP hD hz
    have hS1 := mh_grow (cn := .inr (t, N, fun _ => none)) (cA' := fun b => if b = sh.length then c' else cA b) (I' := mh_z I sh.length) (L' := mh_zl L sh.length) K S hP hD hS hz hbig (hx _ (by simp)) (fun b hb => by simp [mh_z, Nat.ne_of_lt hb]) (fun b hb => by simp [mh_zl, Nat.ne_of_lt hb]) (fun b hb => by simp [Nat.ne_of_lt hb]) (fun t2 n2 r2 h => by cases h; simp only [if_pos]; exact hKn)
    have hk := kk p l e s m args below meth c D ad A _ H1 locs ls K hS1
    rw [List.length_append, show sh.length + [(Sum.inr (t, N, fun _ => none) : mh_C)].length - n0 = sh.length - n0 + 1 by simp; omega] at hk
    rw [hq]
    exact hk
  rcases ht with ⟨rfl, rfl⟩ | ⟨rfl, rfl⟩ | ⟨rfl, rfl⟩
  · exact va_newa (atype := .int) (ty := .int) (a0 := (N, .inl (fun _ => 0))) K.x K.b (K.tb _ hw) rfl S.K S.P S.hD S.S K.new (fun _ => rfl) hn hN (by show N * 4 ≤ _; omega) hcs.1 hcs.2 hd (fun q c' H1 hKn hP hD hS => fin q c' H1 _ (fun cA' hc => by rw [mh_cell, hc]; simp [mh_z]) hKn hP hD hS)
  · exact va_newa (atype := .long) (ty := .long) (a0 := (N, .inr (.inl (fun _ => 0)))) K.x K.b (K.tb _ hw) rfl S.K S.P S.hD S.S K.new (fun _ => rfl) hn hN (by show N * 8 ≤ _; omega) hcs.1 hcs.2 hd (fun q c' H1 hKn hP hD hS => fin q c' H1 _ (fun cA' hc => by rw [mh_cell, hc]; simp [mh_zl]) hKn hP hD hS)
  · exact va_newa (atype := .byte) (ty := .byte) (a0 := (N, .inl (fun _ => 0))) K.x K.b (K.tb _ hw) rfl S.K S.P S.hD S.S K.new (fun _ => rfl) hn hN (by show N * 1 ≤ _; omega) hcs.1 hcs.2 hd (fun q c' H1 hKn hP hD hS => fin q c' H1 _ (fun cA' hc => by rw [mh_cell, hc]; simp [mh_z]) hKn hP hD hS)
theorem mw_anew {t N index : Nat} {n : Int32} {C : String} (hC : mh_ty (t + 3) = .object C) (hao : C = RX2 ∨ C = RX4) (hw : Cond.classLink own index C ∈ mh_TB) (hd : decode cc pc = .ok (.anewarray index, 3)) (hn : ¬ n < 0) (hN : n.toNatClampNeg = N) (hN2 : N ≤ 60000000) (hbig : sh.length < 999) (hcs : sh.length - n0 + 1 ≤ R.cells ∧ slots + N ≤ R.slots)
    (kk : mh_W own cc nL rt ini R n0 mc ms Ex Φ (slots + N) (sh ++ [.inr (t + 3, N, fun _ => none)]) I L (pc + 3) lv (.ref sh.length :: st)) : mh_W own cc nL rt ini R n0 mc ms Ex Φ slots sh I L pc lv (.int n :: st) := by
  intro p l e s m args below meth c D ad A cA H locs ls K S
  have h3 := S.hn0
  have hA0 : va_AO C s := by
    rcases hao with rfl | rfl
    · exact K.e.2.2.2.2.2.1
    · exact K.e.2.2.2.2.2.2.1
  refine va_newq (C := C) K.x K.b K.hown (K.tb _ hw) hA0 S.K S.P S.hD S.S K.new hn hN (by omega) hcs.1 hcs.2 hd (fun q c' H1 hKn hP hD hS => ?_)
  refine W_szb (fun _ hz => ?_)
  have hq := mh_newq K.hA K.had S.hn0 S.big hP hD hz
  have hS1 := mh_grow (cn := .inr (t + 3, N, fun _ => none)) (cA' := fun b => if b = sh.length then c' else cA b) (I' := I) (L' := L) K S hP hD hS hz hbig (by rw [mh_cell]; simp) (fun _ _ => rfl) (fun _ _ => rfl) (fun b hb => by simp [Nat.ne_of_lt hb]) (fun t2 n2 r2 h => by cases h; simp only [if_pos]; rw [hC]; exact hKn)
  have hk := kk p l e s m args below meth c D ad A _ H1 locs ls K hS1
  rw [List.length_append, show sh.length + [(Sum.inr (t + 3, N, fun _ => none) : mh_C)].length - n0 = sh.length - n0 + 1 by simp; omega] at hk
  rw [hq]
  exact hk
/-- Object's own constructor -/
theorem mw_oinit {index a : Nat} (hl : Cond.methodLink own index Lib.objectInit ∈ mh_TB ∧ Cond.instanceMethod Lib.objectInit ∈ mh_TB ∧ Cond.code Lib.objectInit ⟨#[0xb1]⟩ 1 none ∈ mh_TB) (hd : decode cc pc = .ok (.invokespecial index, 3)) (hR : 1 ≤ R.frames ∧ (st.map fun v => v.category).sum + 12 ≤ R.locals) (kk : mh_W own cc nL rt ini R n0 mc ms Ex Φ slots sh I L (pc + 3) lv st) : mh_W own cc nL rt ini R n0 mc ms Ex Φ slots sh I L pc lv (.ref a :: st) := by
  intro p l e s m args below meth c D ad A cA H locs ls K S
  refine W.objInit K.x K.b K.hown (K.tb _ hl.1) (K.tb _ hl.2.1) (K.tb _ hl.2.2) rfl (by rw [K.ml]; exact S.hlv.1) (rest := st.map (mh_v ad)) rfl hd hR.1 ?_ ?_
  · have := hR.2
    rw [mh_cats]
    show 2 * 0 + _ + 12 ≤ _
    omega
  · exact kk p l e s m args below meth c D ad A cA H locs ls K S
end MH7
