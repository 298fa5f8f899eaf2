/-! the mini heap's rows: its cells by their places, and what a write does -/
theorem mh_ws_at {ad : Nat → Nat} {cA : Nat → ClassId} {sh : List mh_C} {I : mh_I} {L : mh_L} {a : Nat} {c : mh_C} (h : sh[a]? = some c) : (mh_ws ad cA sh I L)[a]? = some (ad a, mh_cell ad cA I L a c) := by
  rw [mh_ws, List.getElem?_mapIdx, h]; rfl
theorem mh_ws_len {ad : Nat → Nat} {cA : Nat → ClassId} {sh : List mh_C} {I : mh_I} {L : mh_L} : (mh_ws ad cA sh I L).length = sh.length := by
  rw [mh_ws, List.length_mapIdx]
theorem mh_fs_at {ad : Nat → Nat} {I : mh_I} {L : mh_L} {a k : Nat} {fs : List mh_F} {f : mh_F} (h : fs[k]? = some f) : (fs.mapIdx (fun k f => mh_fv ad I L a k f))[k]? = some (mh_fv ad I L a k f) := by
  rw [List.getElem?_mapIdx, h]; rfl
theorem mh_fv_congr {ad : Nat → Nat} {I I' : mh_I} {L L' : mh_L} {a k : Nat} (hI : I' a k = I a k) (hL : L' a k = L a k) (f : mh_F) : mh_fv ad I' L' a k f = mh_fv ad I L a k f := by
  rcases f with n | r
  · cases n with
    | zero => exact congrArg Value.int hI
    | succ n => exact congrArg Value.long hL
  · rfl
theorem mh_cell_congr {ad : Nat → Nat} {cA cA' : Nat → ClassId} {I I' : mh_I} {L L' : mh_L} {a : Nat} (hI : I' a = I a) (hL : L' a = L a) (hA : cA' a = cA a) (c : mh_C) : mh_cell ad cA' I' L' a c = mh_cell ad cA I L a c := by
  rcases c with ⟨ci, fs⟩ | ⟨t, n, r⟩
  · simp only [mh_cell]
    refine congrArg (fun z => (Sum.inr (ci, z) : va_E)) ?_
    refine congrArg (fun f => fs.mapIdx f) ?_
    funext k f
    exact mh_fv_congr (congrFun hI k) (congrFun hL k) f
  · match t with
    | 0 => simp only [mh_cell, hI, hA]
    | 1 => simp only [mh_cell, hL, hA]
    | 2 => simp only [mh_cell, hI, hA]
    | t + 3 => simp only [mh_cell, hA]
/-- one cell written: the world that has it -/
theorem mh_ws_set {ad : Nat → Nat} {cA : Nat → ClassId} {sh : List mh_C} {I I' : mh_I} {L L' : mh_L} {a : Nat} {c' : mh_C} (ha : a < sh.length) (hI : ∀ b, b ≠ a → I' b = I b) (hL : ∀ b, b ≠ a → L' b = L b) : (mh_ws ad cA sh I L).set a (ad a, mh_cell ad cA I' L' a c') = mh_ws ad cA (sh.set a c') I' L' := by
  apply List.ext_getElem?
  intro j
  by_cases hj : j = a
  · subst hj
    rw [List.getElem?_set_self (by rw [mh_ws_len]; exact ha), mh_ws_at (c := c')]
    rw [List.getElem?_set_self ha]
  · rw [List.getElem?_set_ne (Ne.symm hj)]
    simp only [mh_ws, List.getElem?_mapIdx]
    rw [List.getElem?_set_ne (Ne.symm hj)]
    cases sh[j]? with
    | none => rfl
    | some c => simp only [Option.map_some]; rw [mh_cell_congr (hI j hj) (hL j hj) rfl]
theorem mh_set_same {sh : List mh_C} {a : Nat} {c : mh_C} (h : sh[a]? = some c) : sh.set a c = sh := by
  obtain ⟨h1, h2⟩ := List.getElem?_eq_some_iff.mp h
  rw [← h2]
  exact List.set_getElem_self h1
theorem mh_u_ne {I : mh_I} {a k : Nat} {x : Int32} : ∀ b, b ≠ a → mh_u I a k x b = I b := fun b hb => by funext j; simp [mh_u, hb]
theorem mh_ul_ne {L : mh_L} {a k : Nat} {x : Int64} : ∀ b, b ≠ a → mh_ul L a k x b = L b := fun b hb => by funext j; simp [mh_ul, hb]
theorem mh_u_row {I : mh_I} {a k : Nat} {x : Int32} : mh_u I a k x a = upd (I a) k x := by funext j; simp [mh_u, upd]
theorem mh_fs_seti {ad : Nat → Nat} {I : mh_I} {L : mh_L} {a k : Nat} {fs : List mh_F} {x : Int32} (h : fs[k]? = some (.inl 0)) : (fs.mapIdx (fun k f => mh_fv ad I L a k f)).set k (.int x) = fs.mapIdx (fun j f => mh_fv ad (mh_u I a k x) L a j f) := by
  apply List.ext_getElem?
  intro j
  by_cases hj : j = k
  · subst hj
    rw [List.getElem?_set_self (by rw [List.length_mapIdx]; exact (List.getElem?_eq_some_iff.mp h).1), List.getElem?_mapIdx, h]
    simp [mh_fv, mh_u]
  · rw [List.getElem?_set_ne (Ne.symm hj), List.getElem?_mapIdx, List.getElem?_mapIdx]
    cases fs[j]? with
    | none => rfl
    | some f => simp only [Option.map_some]; rw [mh_fv_congr (I := I) (I' := mh_u I a k x) (by simp [mh_u, hj]) rfl f]
theorem mh_fs_setl {ad : Nat → Nat} {I : mh_I} {L : mh_L} {a k n : Nat} {fs : List mh_F} {x : Int64} (h : fs[k]? = some (.inl (n + 1))) : (fs.mapIdx (fun k f => mh_fv ad I L a k f)).set k (.long x) = fs.mapIdx (fun j f => mh_fv ad I (mh_ul L a k x) a j f) := by
  apply List.ext_getElem?
  intro j
  by_cases hj : j = k
  · subst hj
    rw [List.getElem?_set_self (by rw [List.length_mapIdx]; exact (List.getElem?_eq_some_iff.mp h).1), List.getElem?_mapIdx, h]
    simp [mh_fv, mh_ul]
  · rw [List.getElem?_set_ne (Ne.symm hj), List.getElem?_mapIdx, List.getElem?_mapIdx]
    cases fs[j]? with
    | none => rfl
    | some f => simp only [Option.map_some]; rw [mh_fv_congr (L := L) (L' := mh_ul L a k x) rfl (by simp [mh_ul, hj]) f]
theorem mh_fs_setr {ad : Nat → Nat} {I : mh_I} {L : mh_L} {a k : Nat} {fs : List mh_F} {r : Option Nat} (h : k < fs.length) : (fs.mapIdx (fun k f => mh_fv ad I L a k f)).set k (va_rf (r.map ad)) = (fs.set k (.inr r)).mapIdx (fun j f => mh_fv ad I L a j f) := by
  apply List.ext_getElem?
  intro j
  by_cases hj : j = k
  · subst hj
    rw [List.getElem?_set_self (by rw [List.length_mapIdx]; exact h), List.getElem?_mapIdx, List.getElem?_set_self h]
    rfl
  · rw [List.getElem?_set_ne (Ne.symm hj), List.getElem?_mapIdx, List.getElem?_mapIdx, List.getElem?_set_ne (Ne.symm hj)]
theorem mh_B.set {D : va_G} {ad : Nat → Nat} {cA : Nat → ClassId} {A : Nat → Prop} {sh sh' : List mh_C} {I I' : mh_I} {L L' : mh_L} {H H1 : Heap} {U : State} (B : mh_B D ad cA A sh I L H U) (hP : va_P D vwCl (mh_ws ad cA sh' I' L') H1) (hD : va_D A (mh_ws ad cA sh' I' L')) (hs : ∀ (a t n : Nat) (r : Nat → Option Nat), sh'[a]? = some (.inr (t, n, r)) → ∃ r', sh[a]? = some (.inr (t, n, r'))) : mh_B D ad cA A sh' I' L' H1 U :=
  ⟨hP, hD, B.2.2.1, fun a t n r h => (hs a t n r h).elim fun r' h' => B.2.2.2 a t n r' h'⟩
/-- a field that is read: by the tables, of its own class or of a nest mate -/
def mh_fl (own : String) (index ci k : Nat) : Prop :=
  ∃ (C : String) (T : u_T) (N : Nat), vwCl[ci]? = some (C, T, N) ∧ (∀ w ∈ u_ws C T N, w ∈ mh_TB) ∧ k < N ∧ True ∧ (Cond.fieldLink own index (T k).1 (T k).2.1 (T k).2.2.1 ∈ mh_TB ∨ ∃ host : String, Cond.fieldLinkNest own index (T k).1 (T k).2.1 (T k).2.2.1 host ∈ mh_NW)
/-- a field that is written -/
def mh_fp (own : String) (index ci k : Nat) (ty : FieldType) (fin : Bool) : Prop :=
  ∃ (C : String) (T : u_T) (N : Nat) (ty0 : Nat → FieldType), vwCl[ci]? = some (C, T, N) ∧ (∀ w ∈ u_ws C T N, w ∈ mh_TB) ∧ k < N ∧ True ∧ (Cond.fieldLink own index (T k).1 (T k).2.1 (T k).2.2.1 ∈ mh_TB ∨ (fin = false ∧ ∃ host : String, Cond.fieldLinkNest own index (T k).1 (T k).2.1 (T k).2.2.1 host ∈ mh_NW)) ∧
    (∀ k, k < N → parseFieldDescriptor (T k).2.2.1 = some (ty0 k)) ∧ (∀ a, a < N → ∀ b, b < N → a ≠ b → (T a).2.1 ≠ (T b).2.1) ∧ (T k).2.2.2 = fin ∧ parseFieldDescriptor (T k).2.2.1 = some ty ∧ (fin = true → (T k).1 = own)
section MH2
variable {own : String} {cc : ByteArray} {nL : Nat} {rt : Option FieldType} {ini : Bool} {R : Room} {n0 mc ms : Nat} {Ex : mh_X} {Φ : mh_P} {slots : Nat} {sh : List mh_C} {I : mh_I} {L : mh_L} {pc : Nat} {lv : List (Nat × Value)} {st : List Value}
theorem mw_getv {index ci k a : Nat} {fs : List mh_F} {f : mh_F} {v : Value} (q : mh_fl own index ci k) (hd : decode cc pc = .ok (.getfield index, 3)) (hs : sh[a]? = some (.inl (ci, fs))) (hf : fs[k]? = some f) (hv : ∀ ad, mh_fv ad I L a k f = mh_v ad v) (kk : mh_W own cc nL rt ini R n0 mc ms Ex Φ slots sh I L (pc + 3) lv (v :: st)) : mh_W own cc nL rt ini R n0 mc ms Ex Φ slots sh I L pc lv (.ref a :: st) := by
  intro p l e s m args below meth c D ad A cA H locs ls K S
  obtain ⟨C, T, N, hc, hin, hk, hC, hl⟩ := q
  have h1 := mh_ws_at (ad := ad) (cA := cA) (I := I) (L := L) hs
  have h2 : (fs.mapIdx (fun k f => mh_fv ad I L a k f))[k]? = some (mh_v ad v) := (mh_fs_at hf).trans (by rw [hv])
  have hK := kk p l e s m args below meth c D ad A cA H locs ls K S
  rcases hl with hl | ⟨host, hl⟩
  · exact va_get (T := T) K.x K.b K.tb hin K.hown S.K S.P a h1 hc k hk (K.tb _ hl) (fun _ h => h) h2 hd hK
  · exact va_getN (T := T) (host := host) K.x K.b K.tb hin K.hown S.K S.P a h1 hc k hk (va_Nw.use rfl (K.e.1 _ hl)) (fun _ h => h) h2 hd hK
theorem mw_geti {index ci k a : Nat} {fs : List mh_F} (q : mh_fl own index ci k) (hd : decode cc pc = .ok (.getfield index, 3)) (hs : sh[a]? = some (.inl (ci, fs))) (hf : fs[k]? = some (.inl 0)) (kk : mh_W own cc nL rt ini R n0 mc ms Ex Φ slots sh I L (pc + 3) lv (.int (I a k) :: st)) : mh_W own cc nL rt ini R n0 mc ms Ex Φ slots sh I L pc lv (.ref a :: st) := mw_getv q hd hs hf (fun _ => rfl) kk
theorem mw_getl {index ci k a : Nat} {fs : List mh_F} (q : mh_fl own index ci k) (hd : decode cc pc = .ok (.getfield index, 3)) (hs : sh[a]? = some (.inl (ci, fs))) (hf : fs[k]? = some (.inl 1)) (kk : mh_W own cc nL rt ini R n0 mc ms Ex Φ slots sh I L (pc + 3) lv (.long (L a k) :: st)) : mh_W own cc nL rt ini R n0 mc ms Ex Φ slots sh I L pc lv (.ref a :: st) := mw_getv q hd hs hf (fun _ => rfl) kk
theorem mw_getr {index ci k a b : Nat} {fs : List mh_F} (q : mh_fl own index ci k) (hd : decode cc pc = .ok (.getfield index, 3)) (hs : sh[a]? = some (.inl (ci, fs))) (hf : fs[k]? = some (.inr (some b))) (kk : mh_W own cc nL rt ini R n0 mc ms Ex Φ slots sh I L (pc + 3) lv (.ref b :: st)) : mh_W own cc nL rt ini R n0 mc ms Ex Φ slots sh I L pc lv (.ref a :: st) := mw_getv q hd hs hf (fun _ => rfl) kk
/-- a write of a field, whatever it holds -/
theorem mw_putv {index ci k a : Nat} {fs fs' : List mh_F} {v : Value} {ty : FieldType} {fin : Bool} {I' : mh_I} {L' : mh_L} (q : mh_fp own index ci k ty fin) (hi : fin = true → ini = true) (hd : decode cc pc = .ok (.putfield index, 3)) (hs : sh[a]? = some (.inl (ci, fs))) (hkl : k < fs.length)
    (hn : ∀ ad, narrow ty (mh_v ad v) = mh_v ad v) (hfit : ∀ ad, fits ty (mh_v ad v) = true) (hI : ∀ b, b ≠ a → I' b = I b) (hL : ∀ b, b ≠ a → L' b = L b)
    (hset : ∀ ad : Nat → Nat, (fs.mapIdx (fun k f => mh_fv ad I L a k f)).set k (mh_v ad v) = fs'.mapIdx (fun k f => mh_fv ad I' L' a k f))
    (kk : mh_W own cc nL rt ini R n0 mc ms Ex Φ slots (sh.set a (.inl (ci, fs'))) I' L' (pc + 3) lv st) : mh_W own cc nL rt ini R n0 mc ms Ex Φ slots sh I L pc lv (v :: .ref a :: st) := by
  intro p l e s m args below meth c D ad A cA H locs ls K S
  obtain ⟨C, T, N, ty0, hc, hin, hk, hC, hl, hty, hnm, hfin, hpd, how⟩ := q
  have h1 := mh_ws_at (ad := ad) (cA := cA) (I := I) (L := L) hs
  have ha : a < sh.length := (List.getElem?_eq_some_iff.mp hs).1
  have hcont : ∀ (H1 : Heap) (locs1 : List Loc), va_P D vwCl ((mh_ws ad cA sh I L).set a (ad a, .inr (ci, (fs.mapIdx (fun k f => mh_fv ad I L a k f)).set k (mh_v ad v)))) H1 → va_D A ((mh_ws ad cA sh I L).set a (ad a, .inr (ci, (fs.mapIdx (fun k f => mh_fv ad I L a k f)).set k (mh_v ad v)))) → va_S A s.heap H1 locs1 →
      W p l e R s m args below meth c H1 locs1 (sh.length - n0) slots (MQ below (mh_Q D ad A n0 Φ) args s mc ms A) (F0 m (pc + 3) ls (st.map (mh_v ad))) := by
    intro H1 locs1 hP hD hS
    have hw : (mh_ws ad cA sh I L).set a (ad a, .inr (ci, (fs.mapIdx (fun k f => mh_fv ad I L a k f)).set k (mh_v ad v))) = mh_ws ad cA (sh.set a (.inl (ci, fs'))) I' L' := by
      rw [hset ad]
      exact mh_ws_set (c' := .inl (ci, fs')) ha hI hL
    rw [hw] at hP hD
    have hk := kk p l e s m args below meth c D ad A cA H1 locs1 ls K ⟨S.1.set hP hD (fun b t n r h => ?_), hS, S.hlv, by rw [List.length_set]; exact S.hn0, by rw [List.length_set]; exact S.big⟩
    · rw [List.length_set] at hk
      exact hk
    by_cases hb : b = a
    · subst hb
      rw [List.getElem?_set_self ha] at h
      cases h
    · rw [List.getElem?_set_ne (Ne.symm hb)] at h
      exact ⟨r, h⟩
  have hkf : k < (fs.mapIdx (fun k f => mh_fv ad I L a k f)).length := by rw [List.length_mapIdx]; exact hkl
  have hdecl : ∀ x, s.fieldFound? (T k).1 (T k).2.1 (T k).2.2.1 = some x → s.fieldFound? (T k).1 (T k).2.1 (T k).2.2.1 = some x := fun _ h => h
  rcases hl with hl | ⟨hf0, host, hl⟩
  · cases fin with
    | false => exact va_put (T := T) K.x K.b K.tb hin ty0 hty hnm K.hown S.K S.P S.hD S.S a h1 hc k hk (K.tb _ hl) hdecl hfin hpd (hn ad) (hfit ad) hkf hd hcont
    | true => exact va_putF (T := T) K.x K.b K.tb hin ty0 hty hnm K.hown S.K S.P S.hD S.S a h1 hc k hk (K.tb _ hl) hdecl hfin (K.hini (hi rfl)) (how rfl) hpd (hn ad) (hfit ad) hkf hd hcont
  · subst hf0
    exact va_putN (T := T) (host := host) K.x K.b K.tb hin ty0 hty hnm K.hown S.K S.P S.hD S.S a h1 hc k hk (va_Nw.use rfl (K.e.1 _ hl)) hdecl hfin hpd (hn ad) (hfit ad) hkf hd hcont
end MH2
