def X3_grp (tx : Nat) : Nat → Nat → Int32 → Int32 → mh_I → Option (Int32 × mh_I)
  | 0, _, _, _, _ => none
  | n + 1, sel, a, b, I => if sel = 0 then X3_chain (X3_grp tx n) tx a b I else if sel = 1 then X3_negation (X3_grp tx n) tx a I else if sel = 2 then X3_one (X3_grp tx n) tx a I else X3_opened (X3_grp tx n) tx a I
theorem t_X3_grp {tx : Nat} {L : mh_L} (hI : hs_X4 (SHX (some tx)) tx) : ∀ n : Nat, (∀ (a b : Int32) (I : mh_I) (q : Int32 × mh_I), X3_grp tx n 0 a b I = some q → mh_CT yX3_chain cX3_chain 6 (some .boolean) (mh_rm (20 + n)) (SHX (some tx)) I L [.ref 7, .int a, .int b] (mh_retz q.1 (SHX (some tx)) q.2 L)) ∧ (∀ (a : Int32) (I : mh_I) (q : Int32 × mh_I), X3_grp tx n 1 a 0 I = some q → mh_CT yX3_negation cX3_negation 2 (some .boolean) (mh_rm (20 + n)) (SHX (some tx)) I L [.ref 7, .int a] (mh_retz q.1 (SHX (some tx)) q.2 L)) ∧ (∀ (a : Int32) (I : mh_I) (q : Int32 × mh_I), X3_grp tx n 2 a 0 I = some q → mh_CT yX3_one cX3_one 2 (some .boolean) (mh_rm (20 + n)) (SHX (some tx)) I L [.ref 7, .int a] (mh_retz q.1 (SHX (some tx)) q.2 L)) ∧ (∀ (a : Int32) (I : mh_I) (q : Int32 × mh_I), X3_grp tx n 3 a 0 I = some q → mh_CT yX3_opened cX3_opened 3 (some .boolean) (mh_rm (20 + n)) (SHX (some tx)) I L [.ref 7, .int a] (mh_retz q.1 (SHX (some tx)) q.2 L)) := by
  intro n
  induction n with
  | zero =>
    refine ⟨fun a b I q h => ?_, fun a I q h => ?_, fun a I q h => ?_, fun a I q h => ?_⟩ <;> (rw [X3_grp] at h; cases h)
  | succ n ih =>
    obtain ⟨h0, h1, h2, h3⟩ := ih
    refine ⟨fun a b I q h => ?_, fun a I q h => ?_, fun a I q h => ?_, fun a I q h => ?_⟩
    · rw [X3_grp, if_pos rfl] at h
      exact t_X3_chain (dn := 20 + n) (by omega) h0 h1 h2 h3 hI h
    · rw [X3_grp, if_neg (by decide), if_pos rfl] at h
      exact t_X3_negation (dn := 20 + n) (by omega) h0 h1 h2 h3 hI h
    · rw [X3_grp, if_neg (by decide), if_neg (by decide), if_pos rfl] at h
      exact t_X3_one (dn := 20 + n) (by omega) h0 h1 h2 h3 hI h
    · rw [X3_grp, if_neg (by decide), if_neg (by decide), if_neg (by decide)] at h
      exact t_X3_opened (dn := 20 + n) (by omega) h0 h1 h2 h3 hI h
theorem t_X3_grp0 {tx : Nat} {L : mh_L} (hI : hs_X4 (SHX (some tx)) tx) {a b : Int32} {I : mh_I} {q : Int32 × mh_I} (h : X3_grp tx 80 0 a b I = some q) : mh_CT yX3_chain cX3_chain 6 (some .boolean) (mh_rm 100) (SHX (some tx)) I L [.ref 7, .int a, .int b] (mh_retz q.1 (SHX (some tx)) q.2 L) := (t_X3_grp hI 80).1 _ _ _ _ h
theorem t_X3_grp1 {tx : Nat} {L : mh_L} (hI : hs_X4 (SHX (some tx)) tx) {a : Int32} {I : mh_I} {q : Int32 × mh_I} (h : X3_grp tx 80 1 a 0 I = some q) : mh_CT yX3_negation cX3_negation 2 (some .boolean) (mh_rm 100) (SHX (some tx)) I L [.ref 7, .int a] (mh_retz q.1 (SHX (some tx)) q.2 L) := (t_X3_grp hI 80).2.1 _ _ _ h
theorem t_X3_grp2 {tx : Nat} {L : mh_L} (hI : hs_X4 (SHX (some tx)) tx) {a : Int32} {I : mh_I} {q : Int32 × mh_I} (h : X3_grp tx 80 2 a 0 I = some q) : mh_CT yX3_one cX3_one 2 (some .boolean) (mh_rm 100) (SHX (some tx)) I L [.ref 7, .int a] (mh_retz q.1 (SHX (some tx)) q.2 L) := (t_X3_grp hI 80).2.2.1 _ _ _ h
theorem t_X3_grp3 {tx : Nat} {L : mh_L} (hI : hs_X4 (SHX (some tx)) tx) {a : Int32} {I : mh_I} {q : Int32 × mh_I} (h : X3_grp tx 80 3 a 0 I = some q) : mh_CT yX3_opened cX3_opened 3 (some .boolean) (mh_rm 100) (SHX (some tx)) I L [.ref 7, .int a] (mh_retz q.1 (SHX (some tx)) q.2 L) := (t_X3_grp hI 80).2.2.2 _ _ _ h
