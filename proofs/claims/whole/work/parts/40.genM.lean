abbrev w_X6_pinsFor (sh : List mh_C) (Φ : mh_P) (I : mh_I) (L : mh_L) (pc : Nat) (lv : List (Nat × Value)) (st : List Value) : Prop := mh_W RX6 cX6_pinsFor 10 (some .int) false (mh_rm 8) 18 0 0 mh_noX Φ 0 sh I L pc lv st
def X6_pinsFor_l77 (u1 : Int32) (u2 : Int32) (u3 : Int32) (u4 : Int32) (u6 : Int32) (k163 : (Int32 → mh_I → Option (Int32 × mh_I))) : Nat → Int32 → Int32 → mh_I → Option (Int32 × mh_I)
  | 0, _, _, _ => none
  | n + 1, u5, u8, I => if (48 : Int32) ≤ u8 then (k163 u5 I) else if u6 = u1 then (k163 u5 I) else if u4 = 0 then (k163 u5 I) else if u5 = (-1 : Int32) then mh_ix u8 48 (fun k16 => mh_b (I 3 k16) (fun b18 => mh_ix u8 48 (fun k19 => mh_j (fun (s21 : Int32) (I22 : mh_I) => mh_ix u8 48 (fun k29 => mh_b (u8 + (1 : Int32)) (fun b31 => (X6_pinsFor_l77 u1 u2 u3 u4 u6 k163 n s21 b31 (mh_u I22 3 k29 b18))))) (fun J23 => mh_j (fun (I24 : mh_I) => (J23 (-1 : Int32) I24)) (fun J25 => if u8 = u1 then (J25 (mh_u I 3 k19 (1 : Int32))) else (X6_isHeld u1 u2 u3 (mh_u I 3 k19 (1 : Int32))).bind (fun q26 => if q26.1 = 0 then (J25 q26.2) else (J23 (((100 : Int32) * u6) + u8) q26.2))))))) else (k163 u5 I)
set_option maxHeartbeats 4000000 in
set_option maxRecDepth 100000 in
theorem t_X6_pinsFor_l77 {u1 : Int32} {u2 : Int32} {u3 : Int32} {u4 : Int32} {u6 : Int32} {u7 : Int32} {k163 : (Int32 → mh_I → Option (Int32 × mh_I))} {L : mh_L} {res : Int32 × mh_I} (n : Nat) (u5 : Int32) (u8 : Int32) (I : mh_I) (h : X6_pinsFor_l77 u1 u2 u3 u4 u6 k163 n u5 u8 I = some res) (hk163 : ∀ (u5 : Int32) (I : mh_I), k163 u5 I = some res → w_X6_pinsFor SHM (mh_ret (some (.int res.1)) SHM res.2 L) I L 163 [(0, .ref 0), (1, .int u1), (2, .int u2), (3, .int u3), (4, .int u4), (5, .int u5), (6, .int u6), (7, .int u7)] []) : w_X6_pinsFor SHM (mh_ret (some (.int res.1)) SHM res.2 L) I L 77 [(0, .ref 0), (1, .int u1), (2, .int u2), (3, .int u3), (4, .int u4), (5, .int u5), (6, .int u6), (7, .int u7), (8, .int u8)] [] := by
  induction n generalizing u5 u8 I with
  | zero => rw [X6_pinsFor_l77] at h; cases h
  | succ n ih =>
    rw [X6_pinsFor_l77] at h
    refine mw_iload dX6_pinsFor_77 8 rfl ?_
    refine mw_bipush (v := 48) dX6_pinsFor_79 (by decide) ?_
    refine mw_icmp_ge (tgt := 163) dX6_pinsFor_81 (by decide) (fun hc35 => ?_) (fun hc35 => ?_)
    · replace h := mh_ifp hc35 h
      refine mw_loc [0, 1, 2, 3, 4, 5, 6, 7] rfl ?_
      exact hk163 _ _ h
    · replace h := mh_ifn hc35 h
      refine mw_iload dX6_pinsFor_84 6 rfl ?_
      refine mw_iload_n dX6_pinsFor_86 1 rfl ?_
      refine mw_icmp_eq (tgt := 163) dX6_pinsFor_87 (by decide) (fun hc34 => ?_) (fun hc34 => ?_)
      · replace h := mh_ifp hc34 h
        refine mw_loc [0, 1, 2, 3, 4, 5, 6, 7] rfl ?_
        exact hk163 _ _ h
      · replace h := mh_ifn hc34 h
        refine mw_iload dX6_pinsFor_90 4 rfl ?_
        refine mw_if_eq (tgt := 163) dX6_pinsFor_92 (by decide) (fun hc33 => ?_) (fun hc33 => ?_)
        · replace h := mh_ifp hc33 h
          refine mw_loc [0, 1, 2, 3, 4, 5, 6, 7] rfl ?_
          exact hk163 _ _ h
        · replace h := mh_ifn hc33 h
          refine mw_iload dX6_pinsFor_95 5 rfl ?_
          refine mw_iconst (v := -1) dX6_pinsFor_97 (by decide) ?_
          refine mw_icmp_ne (tgt := 163) dX6_pinsFor_98 (by decide) (fun hc32 => ?_) (fun hc32 => ?_)
          · replace h := mh_ifn hc32 h
            refine mw_loc [0, 1, 2, 3, 4, 5, 6, 7] rfl ?_
            exact hk163 _ _ h
          · replace h := mh_ifp hc32 h
            refine mw_aload_n dX6_pinsFor_101 0 rfl ?_
            refine mw_getr (b := 3) (fs := fsX6) gf_X6_16 dX6_pinsFor_102 rfl rfl ?_
            refine mw_iload dX6_pinsFor_105 8 rfl ?_
            obtain ⟨k16, hk17, hk17n, hk17l, h⟩ := mh_ix_some h
            refine mw_xiald dX6_pinsFor_107 rfl hk17 hk17n ?_
            obtain ⟨b18, eb18, h⟩ := mh_b_some h
            refine mw_nmi eb18 ?_
            refine mw_istore dX6_pinsFor_108 (by decide) rfl ?_
            refine mw_aload_n dX6_pinsFor_110 1 rfl ?_
            refine mw_getr (b := 3) (fs := fsX6) gf_X6_16 dX6_pinsFor_111 rfl rfl ?_
            refine mw_iload dX6_pinsFor_114 9 rfl ?_
            refine mw_iconst (v := 1) dX6_pinsFor_116 (by decide) ?_
            obtain ⟨k19, hk20, hk20n, hk20l, h⟩ := mh_ix_some h
            refine mw_xiast dX6_pinsFor_117 rfl hk20 hk20n ?_
            refine mw_iload dX6_pinsFor_118 9 rfl ?_
            refine mw_iload_n dX6_pinsFor_120 2 rfl ?_
            refine mh_jw (fun J23 => ∀ (s21 : Int32) (I22 : mh_I), J23 s21 I22 = some res → w_X6_pinsFor SHM (mh_ret (some (.int res.1)) SHM res.2 L) I22 L 146 [(0, .ref 0), (1, .int u1), (2, .int u2), (3, .int u3), (4, .int u4), (6, .int u6), (7, .int u7), (8, .int u8), (9, .int b18)] [.int s21]) h (fun s21 I22 h => ?_) (fun J23 hJ23 h => ?_)
            · refine mw_istore dX6_pinsFor_146 (by decide) rfl ?_
              refine mw_aload_n dX6_pinsFor_148 1 rfl ?_
              refine mw_getr (b := 3) (fs := fsX6) gf_X6_16 dX6_pinsFor_149 rfl rfl ?_
              refine mw_iload dX6_pinsFor_152 8 rfl ?_
              refine mw_iload dX6_pinsFor_154 9 rfl ?_
              obtain ⟨k29, hk30, hk30n, hk30l, h⟩ := mh_ix_some h
              refine mw_xiast dX6_pinsFor_156 rfl hk30 hk30n ?_
              obtain ⟨b31, eb31, h⟩ := mh_b_some h
              refine mw_iinc (v := b31) dX6_pinsFor_157 8 rfl (by rw [← eb31]; rfl) (by decide) rfl ?_
              refine mw_goto (tgt := 77) dX6_pinsFor_160 (by decide) ?_
              refine mw_loc [2, 3, 4, 5, 6, 1, 7, 8, 0] rfl ?_
              exact ih _ _ _ h
            · refine mh_jw (fun J25 => ∀ (I24 : mh_I), J25 I24 = some res → w_X6_pinsFor SHM (mh_ret (some (.int res.1)) SHM res.2 L) I24 L 145 [(0, .ref 0), (1, .int u1), (2, .int u2), (3, .int u3), (4, .int u4), (6, .int u6), (7, .int u7), (8, .int u8), (9, .int b18)] []) h (fun I24 h => ?_) (fun J25 hJ25 h => ?_)
              · refine mw_iconst (v := -1) dX6_pinsFor_145 (by decide) ?_
                refine mw_loc [0, 1, 2, 3, 4, 5, 6, 7, 8] rfl ?_
                exact hJ23 _ _ h
              · refine mw_icmp_eq (tgt := 145) dX6_pinsFor_121 (by decide) (fun hc28 => ?_) (fun hc28 => ?_)
                · replace h := mh_ifp hc28 h
                  refine mw_loc [1, 2, 3, 4, 5, 7, 8, 9, 0] rfl ?_
                  exact hJ25 _ h
                · replace h := mh_ifn hc28 h
                  refine mw_aload_n dX6_pinsFor_124 1 rfl ?_
                  refine mw_iload_n dX6_pinsFor_125 2 rfl ?_
                  refine mw_iload_n dX6_pinsFor_126 3 rfl ?_
                  refine mw_iload_n dX6_pinsFor_127 4 rfl ?_
                  obtain ⟨q26, hq26, h⟩ := mh_bind h
                  refine mw_vz (dc := 7) (ci := 6) (fs := fsX6) (T := TX6) (N := 30) cv_X6_236 wd_1056 dX6_pinsFor_128 [.int u1, .int u2, .int u3] [.int u3, .int u2, .int u1, .ref 0] rfl rfl rfl rfl (t_X6_isHeld hq26) ⟨by decide, by decide⟩ (Nat.le_of_ble_eq_true rfl) ⟨rfl, rfl⟩ (fun zq26 => ?_)
                  refine mw_if_eq (tgt := 145) dX6_pinsFor_131 (by decide) (fun hc27 => ?_) (fun hc27 => ?_)
                  · replace h := mh_ifp hc27 h
                    refine mw_loc [1, 2, 3, 4, 5, 7, 8, 9, 0] rfl ?_
                    exact hJ25 _ h
                  · replace h := mh_ifn hc27 h
                    refine mw_bipush (v := 100) dX6_pinsFor_134 (by decide) ?_
                    refine mw_iload dX6_pinsFor_136 7 rfl ?_
                    refine mw_imul dX6_pinsFor_138 ?_
                    refine mw_iload dX6_pinsFor_139 9 rfl ?_
                    refine mw_iadd dX6_pinsFor_141 ?_
                    refine mw_goto (tgt := 146) dX6_pinsFor_142 (by decide) ?_
                    refine mw_loc [1, 2, 3, 4, 5, 7, 8, 9, 0] rfl ?_
                    exact hJ23 _ _ h
def X6_pinsFor_l6 (u1 : Int32) (u2 : Int32) (u3 : Int32) (u4 : Int32) : Nat → Int32 → Int32 → mh_I → Option (Int32 × mh_I)
  | 0, _, _, _ => none
  | n + 1, u5, u6, I => if (48 : Int32) ≤ u6 then some (u5, I) else if u5 = (-1 : Int32) then mh_ix u6 48 (fun k1 => mh_b (I 3 k1) (fun b3 => mh_ix u6 48 (fun k4 => mh_j (fun (v6 : Int32) (I7 : mh_I) => mh_b (u6 + (1 : Int32)) (fun b15 => X6_pinsFor_l77 u1 u2 u3 u4 u6 (fun (v36 : Int32) (I37 : mh_I) => mh_ix u6 48 (fun k38 => mh_b (u6 + (1 : Int32)) (fun b40 => (X6_pinsFor_l6 u1 u2 u3 u4 n v36 b40 (mh_u I37 3 k38 b3))))) mh_fuel v6 b15 I7)) (fun J8 => if u6 = u1 then (J8 u5 (mh_u I 3 k4 (1 : Int32))) else if u4 = 0 then (X6_isHeld u1 u2 u3 (mh_u I 3 k4 (1 : Int32))).bind (fun q9 => mh_j (fun (s10 : Int32) => (J8 s10 q9.2)) (fun J11 => if q9.1 = 0 then (J11 (-1 : Int32)) else (J11 (((100 : Int32) * u6) + (99 : Int32))))) else (J8 u5 (mh_u I 3 k4 (1 : Int32))))))) else some (u5, I)
set_option maxHeartbeats 4000000 in
set_option maxRecDepth 100000 in
theorem t_X6_pinsFor_l6 {u1 : Int32} {u2 : Int32} {u3 : Int32} {u4 : Int32} {L : mh_L} {res : Int32 × mh_I} (n : Nat) (u5 : Int32) (u6 : Int32) (I : mh_I) (h : X6_pinsFor_l6 u1 u2 u3 u4 n u5 u6 I = some res)  : w_X6_pinsFor SHM (mh_ret (some (.int res.1)) SHM res.2 L) I L 6 [(0, .ref 0), (1, .int u1), (2, .int u2), (3, .int u3), (4, .int u4), (5, .int u5), (6, .int u6)] [] := by
  induction n generalizing u5 u6 I with
  | zero => rw [X6_pinsFor_l6] at h; cases h
  | succ n ih =>
    rw [X6_pinsFor_l6] at h
    refine mw_iload dX6_pinsFor_6 6 rfl ?_
    refine mw_bipush (v := 48) dX6_pinsFor_8 (by decide) ?_
    refine mw_icmp_ge (tgt := 178) dX6_pinsFor_10 (by decide) (fun hc42 => ?_) (fun hc42 => ?_)
    · replace h := mh_ifp hc42 h
      refine mw_iload dX6_pinsFor_178 5 rfl ?_
      obtain rfl := Option.some.inj h
      exact mw_iret dX6_pinsFor_180 rfl rfl (Nat.le_of_ble_eq_true rfl) (Nat.le_refl 0) mh_ret_rfl
    · replace h := mh_ifn hc42 h
      refine mw_iload dX6_pinsFor_13 5 rfl ?_
      refine mw_iconst (v := -1) dX6_pinsFor_15 (by decide) ?_
      refine mw_icmp_ne (tgt := 178) dX6_pinsFor_16 (by decide) (fun hc41 => ?_) (fun hc41 => ?_)
      · replace h := mh_ifn hc41 h
        refine mw_iload dX6_pinsFor_178 5 rfl ?_
        obtain rfl := Option.some.inj h
        exact mw_iret dX6_pinsFor_180 rfl rfl (Nat.le_of_ble_eq_true rfl) (Nat.le_refl 0) mh_ret_rfl
      · replace h := mh_ifp hc41 h
        refine mw_aload_n dX6_pinsFor_19 0 rfl ?_
        refine mw_getr (b := 3) (fs := fsX6) gf_X6_16 dX6_pinsFor_20 rfl rfl ?_
        refine mw_iload dX6_pinsFor_23 6 rfl ?_
        obtain ⟨k1, hk2, hk2n, hk2l, h⟩ := mh_ix_some h
        refine mw_xiald dX6_pinsFor_25 rfl hk2 hk2n ?_
        obtain ⟨b3, eb3, h⟩ := mh_b_some h
        refine mw_nmi eb3 ?_
        refine mw_istore dX6_pinsFor_26 (by decide) rfl ?_
        refine mw_aload_n dX6_pinsFor_28 1 rfl ?_
        refine mw_getr (b := 3) (fs := fsX6) gf_X6_16 dX6_pinsFor_29 rfl rfl ?_
        refine mw_iload dX6_pinsFor_32 7 rfl ?_
        refine mw_iconst (v := 1) dX6_pinsFor_34 (by decide) ?_
        obtain ⟨k4, hk5, hk5n, hk5l, h⟩ := mh_ix_some h
        refine mw_xiast dX6_pinsFor_35 rfl hk5 hk5n ?_
        refine mw_iload dX6_pinsFor_36 7 rfl ?_
        refine mw_iload_n dX6_pinsFor_38 2 rfl ?_
        refine mh_jw (fun J8 => ∀ (v6 : Int32) (I7 : mh_I), J8 v6 I7 = some res → w_X6_pinsFor SHM (mh_ret (some (.int res.1)) SHM res.2 L) I7 L 71 [(0, .ref 0), (1, .int u1), (2, .int u2), (3, .int u3), (4, .int u4), (5, .int v6), (6, .int u6), (7, .int b3)] []) h (fun v6 I7 h => ?_) (fun J8 hJ8 h => ?_)
        · refine mw_iload dX6_pinsFor_71 6 rfl ?_
          refine mw_iconst (v := 1) dX6_pinsFor_73 (by decide) ?_
          refine mw_iadd dX6_pinsFor_74 ?_
          obtain ⟨b15, eb15, h⟩ := mh_b_some h
          refine mw_nmi eb15 ?_
          refine mw_istore dX6_pinsFor_75 (by decide) rfl ?_
          refine mw_loc [1, 2, 3, 4, 5, 6, 7, 8, 0] rfl ?_
          refine t_X6_pinsFor_l77  _ _ _ _ h (fun v36 I37 h => ?_)
          refine mw_aload_n dX6_pinsFor_163 0 rfl ?_
          refine mw_getr (b := 3) (fs := fsX6) gf_X6_16 dX6_pinsFor_164 rfl rfl ?_
          refine mw_iload dX6_pinsFor_167 6 rfl ?_
          refine mw_iload dX6_pinsFor_169 7 rfl ?_
          obtain ⟨k38, hk39, hk39n, hk39l, h⟩ := mh_ix_some h
          refine mw_xiast dX6_pinsFor_171 rfl hk39 hk39n ?_
          obtain ⟨b40, eb40, h⟩ := mh_b_some h
          refine mw_iinc (v := b40) dX6_pinsFor_172 6 rfl (by rw [← eb40]; rfl) (by decide) rfl ?_
          refine mw_goto (tgt := 6) dX6_pinsFor_175 (by decide) ?_
          refine mw_loc [1, 2, 3, 4, 5, 6, 0] rfl ?_
          exact ih _ _ _ h
        · refine mw_icmp_eq (tgt := 71) dX6_pinsFor_39 (by decide) (fun hc14 => ?_) (fun hc14 => ?_)
          · replace h := mh_ifp hc14 h
            refine mw_loc [1, 2, 3, 4, 5, 6, 7, 0] rfl ?_
            exact hJ8 _ _ h
          · replace h := mh_ifn hc14 h
            refine mw_iload dX6_pinsFor_42 5 rfl ?_
            refine mw_if_ne (tgt := 71) dX6_pinsFor_44 (by decide) (fun hc13 => ?_) (fun hc13 => ?_)
            · replace h := mh_ifn hc13 h
              refine mw_loc [1, 2, 3, 4, 5, 6, 7, 0] rfl ?_
              exact hJ8 _ _ h
            · replace h := mh_ifp hc13 h
              refine mw_aload_n dX6_pinsFor_47 1 rfl ?_
              refine mw_iload_n dX6_pinsFor_48 2 rfl ?_
              refine mw_iload_n dX6_pinsFor_49 3 rfl ?_
              refine mw_iload_n dX6_pinsFor_50 4 rfl ?_
              obtain ⟨q9, hq9, h⟩ := mh_bind h
              refine mw_vz (dc := 7) (ci := 6) (fs := fsX6) (T := TX6) (N := 30) cv_X6_236 wd_1056 dX6_pinsFor_51 [.int u1, .int u2, .int u3] [.int u3, .int u2, .int u1, .ref 0] rfl rfl rfl rfl (t_X6_isHeld hq9) ⟨by decide, by decide⟩ (Nat.le_of_ble_eq_true rfl) ⟨rfl, rfl⟩ (fun zq9 => ?_)
              refine mh_jw (fun J11 => ∀ (s10 : Int32), J11 s10 = some res → w_X6_pinsFor SHM (mh_ret (some (.int res.1)) SHM res.2 L) q9.2 L 69 [(0, .ref 0), (1, .int u1), (2, .int u2), (3, .int u3), (4, .int u4), (6, .int u6), (7, .int b3)] [.int s10]) h (fun s10 h => ?_) (fun J11 hJ11 h => ?_)
              · refine mw_istore dX6_pinsFor_69 (by decide) rfl ?_
                refine mw_loc [1, 2, 3, 4, 5, 0, 6, 7] rfl ?_
                exact hJ8 _ _ h
              · refine mw_if_eq (tgt := 68) dX6_pinsFor_54 (by decide) (fun hc12 => ?_) (fun hc12 => ?_)
                · replace h := mh_ifp hc12 h
                  refine mw_iconst (v := -1) dX6_pinsFor_68 (by decide) ?_
                  refine mw_loc [1, 2, 3, 4, 5, 7, 0] rfl ?_
                  exact hJ11 _ h
                · replace h := mh_ifn hc12 h
                  refine mw_bipush (v := 100) dX6_pinsFor_57 (by decide) ?_
                  refine mw_iload dX6_pinsFor_59 7 rfl ?_
                  refine mw_imul dX6_pinsFor_61 ?_
                  refine mw_bipush (v := 99) dX6_pinsFor_62 (by decide) ?_
                  refine mw_iadd dX6_pinsFor_64 ?_
                  refine mw_goto (tgt := 69) dX6_pinsFor_65 (by decide) ?_
                  refine mw_loc [1, 2, 3, 4, 5, 7, 0] rfl ?_
                  exact hJ11 _ h
def X6_pinsFor (p1 : Int32) (p2 : Int32) (p3 : Int32) (p4 : Int32) (I : mh_I) : Option (Int32 × mh_I) := X6_pinsFor_l6 p1 p2 p3 p4 mh_fuel (-1 : Int32) (0 : Int32) I
set_option maxHeartbeats 4000000 in
set_option maxRecDepth 100000 in
theorem t_X6_pinsFor {L : mh_L} {I : mh_I} {p1 : Int32} {p2 : Int32} {p3 : Int32} {p4 : Int32} {res : Int32 × mh_I} (h : X6_pinsFor p1 p2 p3 p4 I = some res) : mh_CT yX6_pinsFor cX6_pinsFor 10 (some .int) (mh_rm 8) SHM I L [.ref 0, .int p1, .int p2, .int p3, .int p4] (mh_ret (some (.int res.1)) SHM res.2 L) := by
  refine mh_ofW (ini := false) RX6 rfl (by decide) (fun h => by cases h) (Nat.le_of_ble_eq_true rfl) ?_
  show w_X6_pinsFor SHM (mh_ret (some (.int res.1)) SHM res.2 L) I L 0 [(0, .ref 0), (1, .int p1), (2, .int p2), (3, .int p3), (4, .int p4)] []
  unfold X6_pinsFor at h
  refine mw_iconst (v := -1) dX6_pinsFor_0 (by decide) ?_
  refine mw_istore dX6_pinsFor_1 (by decide) rfl ?_
  refine mw_iconst (v := 0) dX6_pinsFor_3 (by decide) ?_
  refine mw_istore dX6_pinsFor_4 (by decide) rfl ?_
  refine mw_loc [2, 3, 4, 5, 6, 1, 0] rfl ?_
  exact t_X6_pinsFor_l6  _ _ _ _ h 
abbrev w_X6_pinned (sh : List mh_C) (Φ : mh_P) (I : mh_I) (L : mh_L) (pc : Nat) (lv : List (Nat × Value)) (st : List Value) : Prop := mh_W RX6 cX6_pinned 7 (some .int) false (mh_rm 9) 18 0 0 mh_noX Φ 0 sh I L pc lv st
def X6_pinned (p1 : Int32) (p2 : Int32) (p3 : Int32) (p4 : Int32) (I : mh_I) : Option (Int32 × mh_I) := (X6_isLoop p1).bind (fun q1 => if q1 = 0 then some ((-5 : Int32), I) else (X6_isPull p2).bind (fun q2 => if q2 = 0 then some ((-7 : Int32), I) else (X6_in p3 (0 : Int32) (48 : Int32)).bind (fun q3 => if q3 = 0 then some ((-7 : Int32), I) else (X6_in p4 (0 : Int32) (2 : Int32)).bind (fun q4 => if q4 = 0 then some ((-7 : Int32), I) else (X6_isHeld p1 p2 p3 I).bind (fun q5 => if q5.1 = 0 then (X6_pinsFor p1 p2 p3 (0 : Int32) q5.2).bind (fun q6 => mh_b q6.1 (fun b7 => if b7 = (-1 : Int32) then (X6_pinsFor p1 p2 p3 (1 : Int32) q6.2).bind (fun q8 => mh_b q8.1 (fun b9 => if b9 = (-1 : Int32) then some ((-1 : Int32), q8.2) else if p4 = 0 then some ((2 : Int32), q8.2) else if p4 = (1 : Int32) then some ((b9 / (100 : Int32)), q8.2) else some ((mh_rem b9 (100 : Int32)), q8.2))) else if p4 = 0 then some ((1 : Int32), q6.2) else if p4 = (1 : Int32) then some ((b7 / (100 : Int32)), q6.2) else some ((-1 : Int32), q6.2))) else if p4 = 0 then some ((0 : Int32), q5.2) else some ((-1 : Int32), q5.2))))))
set_option maxHeartbeats 4000000 in
set_option maxRecDepth 100000 in
theorem t_X6_pinned {L : mh_L} {I : mh_I} {p1 : Int32} {p2 : Int32} {p3 : Int32} {p4 : Int32} {res : Int32 × mh_I} (h : X6_pinned p1 p2 p3 p4 I = some res) : mh_CT yX6_pinned cX6_pinned 7 (some .int) (mh_rm 9) SHM I L [.ref 0, .int p1, .int p2, .int p3, .int p4] (mh_ret (some (.int res.1)) SHM res.2 L) := by
  refine mh_ofW (ini := false) RX6 rfl (by decide) (fun h => by cases h) (Nat.le_of_ble_eq_true rfl) ?_
  show w_X6_pinned SHM (mh_ret (some (.int res.1)) SHM res.2 L) I L 0 [(0, .ref 0), (1, .int p1), (2, .int p2), (3, .int p3), (4, .int p4)] []
  unfold X6_pinned at h
  refine mw_iload_n dX6_pinned_0 1 rfl ?_
  obtain ⟨q1, hq1, h⟩ := mh_bind h
  refine mw_sz (dc := 1) cs_X6_155 wd_876 dX6_pinned_1 [.int p1] [.int p1] rfl rfl (t_X6_isLoop hq1) ⟨by decide, by decide⟩ (Nat.le_of_ble_eq_true rfl) ⟨rfl, rfl⟩ (fun zq1 => ?_)
  refine mw_if_ne (tgt := 10) dX6_pinned_4 (by decide) (fun hc21 => ?_) (fun hc21 => ?_)
  · replace h := mh_ifn hc21 h
    refine mw_iload_n dX6_pinned_10 2 rfl ?_
    obtain ⟨q2, hq2, h⟩ := mh_bind h
    refine mw_sz (dc := 1) cs_X6_158 wd_879 dX6_pinned_11 [.int p2] [.int p2] rfl rfl (t_X6_isPull hq2) ⟨by decide, by decide⟩ (Nat.le_of_ble_eq_true rfl) ⟨rfl, rfl⟩ (fun zq2 => ?_)
    refine mw_if_eq (tgt := 37) dX6_pinned_14 (by decide) (fun hc20 => ?_) (fun hc20 => ?_)
    · replace h := mh_ifp hc20 h
      refine mw_bipush (v := -7) dX6_pinned_37 (by decide) ?_
      obtain rfl := Option.some.inj h
      exact mw_iret dX6_pinned_39 rfl rfl (Nat.le_of_ble_eq_true rfl) (Nat.le_refl 0) mh_ret_rfl
    · replace h := mh_ifn hc20 h
      refine mw_iload_n dX6_pinned_17 3 rfl ?_
      refine mw_iconst (v := 0) dX6_pinned_18 (by decide) ?_
      refine mw_bipush (v := 48) dX6_pinned_19 (by decide) ?_
      obtain ⟨q3, hq3, h⟩ := mh_bind h
      refine mw_sz (dc := 0) cs_X6_69 wd_722 dX6_pinned_21 [.int p3, .int (0 : Int32), .int (48 : Int32)] [.int (48 : Int32), .int (0 : Int32), .int p3] rfl rfl (t_X6_in hq3) ⟨by decide, by decide⟩ (Nat.le_of_ble_eq_true rfl) ⟨rfl, rfl⟩ (fun zq3 => ?_)
      refine mw_if_eq (tgt := 37) dX6_pinned_24 (by decide) (fun hc19 => ?_) (fun hc19 => ?_)
      · replace h := mh_ifp hc19 h
        refine mw_bipush (v := -7) dX6_pinned_37 (by decide) ?_
        obtain rfl := Option.some.inj h
        exact mw_iret dX6_pinned_39 rfl rfl (Nat.le_of_ble_eq_true rfl) (Nat.le_refl 0) mh_ret_rfl
      · replace h := mh_ifn hc19 h
        refine mw_iload dX6_pinned_27 4 rfl ?_
        refine mw_iconst (v := 0) dX6_pinned_29 (by decide) ?_
        refine mw_iconst (v := 2) dX6_pinned_30 (by decide) ?_
        obtain ⟨q4, hq4, h⟩ := mh_bind h
        refine mw_sz (dc := 0) cs_X6_69 wd_722 dX6_pinned_31 [.int p4, .int (0 : Int32), .int (2 : Int32)] [.int (2 : Int32), .int (0 : Int32), .int p4] rfl rfl (t_X6_in hq4) ⟨by decide, by decide⟩ (Nat.le_of_ble_eq_true rfl) ⟨rfl, rfl⟩ (fun zq4 => ?_)
        refine mw_if_ne (tgt := 40) dX6_pinned_34 (by decide) (fun hc18 => ?_) (fun hc18 => ?_)
        · replace h := mh_ifn hc18 h
          refine mw_aload_n dX6_pinned_40 0 rfl ?_
          refine mw_iload_n dX6_pinned_41 1 rfl ?_
          refine mw_iload_n dX6_pinned_42 2 rfl ?_
          refine mw_iload_n dX6_pinned_43 3 rfl ?_
          obtain ⟨q5, hq5, h⟩ := mh_bind h
          refine mw_vz (dc := 7) (ci := 6) (fs := fsX6) (T := TX6) (N := 30) cv_X6_236 wd_1056 dX6_pinned_44 [.int p1, .int p2, .int p3] [.int p3, .int p2, .int p1, .ref 0] rfl rfl rfl rfl (t_X6_isHeld hq5) ⟨by decide, by decide⟩ (Nat.le_of_ble_eq_true rfl) ⟨rfl, rfl⟩ (fun zq5 => ?_)
          refine mw_if_eq (tgt := 61) dX6_pinned_47 (by decide) (fun hc17 => ?_) (fun hc17 => ?_)
          · replace h := mh_ifp hc17 h
            refine mw_aload_n dX6_pinned_61 0 rfl ?_
            refine mw_iload_n dX6_pinned_62 1 rfl ?_
            refine mw_iload_n dX6_pinned_63 2 rfl ?_
            refine mw_iload_n dX6_pinned_64 3 rfl ?_
            refine mw_iconst (v := 0) dX6_pinned_65 (by decide) ?_
            obtain ⟨q6, hq6, h⟩ := mh_bind h
            refine mw_vr (dc := 8) (ci := 6) (fs := fsX6) (T := TX6) (N := 30) cv_X6_239 wd_1060 dX6_pinned_66 [.int p1, .int p2, .int p3, .int (0 : Int32)] [.int (0 : Int32), .int p3, .int p2, .int p1, .ref 0] rfl rfl rfl rfl (t_X6_pinsFor hq6) ⟨by decide, by decide⟩ (Nat.le_of_ble_eq_true rfl) ⟨rfl, rfl⟩ ?_
            obtain ⟨b7, eb7, h⟩ := mh_b_some h
            refine mw_nmi eb7 ?_
            refine mw_istore dX6_pinned_69 (by decide) rfl ?_
            refine mw_iload dX6_pinned_71 0 rfl ?_
            refine mw_iconst (v := -1) dX6_pinned_73 (by decide) ?_
            refine mw_icmp_eq (tgt := 102) dX6_pinned_74 (by decide) (fun hc15 => ?_) (fun hc15 => ?_)
            · replace h := mh_ifp hc15 h
              refine mw_aload_n dX6_pinned_102 1 rfl ?_
              refine mw_iload_n dX6_pinned_103 2 rfl ?_
              refine mw_iload_n dX6_pinned_104 3 rfl ?_
              refine mw_iload_n dX6_pinned_105 4 rfl ?_
              refine mw_iconst (v := 1) dX6_pinned_106 (by decide) ?_
              obtain ⟨q8, hq8, h⟩ := mh_bind h
              refine mw_vr (dc := 8) (ci := 6) (fs := fsX6) (T := TX6) (N := 30) cv_X6_239 wd_1060 dX6_pinned_107 [.int p1, .int p2, .int p3, .int (1 : Int32)] [.int (1 : Int32), .int p3, .int p2, .int p1, .ref 0] rfl rfl rfl rfl (t_X6_pinsFor hq8) ⟨by decide, by decide⟩ (Nat.le_of_ble_eq_true rfl) ⟨rfl, rfl⟩ ?_
              obtain ⟨b9, eb9, h⟩ := mh_b_some h
              refine mw_nmi eb9 ?_
              refine mw_istore dX6_pinned_110 (by decide) rfl ?_
              refine mw_iload dX6_pinned_112 0 rfl ?_
              refine mw_iconst (v := -1) dX6_pinned_114 (by decide) ?_
              refine mw_icmp_ne (tgt := 122) dX6_pinned_115 (by decide) (fun hc12 => ?_) (fun hc12 => ?_)
              · replace h := mh_ifn hc12 h
                refine mw_iload dX6_pinned_122 6 rfl ?_
                refine mw_if_ne (tgt := 131) dX6_pinned_124 (by decide) (fun hc11 => ?_) (fun hc11 => ?_)
                · replace h := mh_ifn hc11 h
                  refine mw_iload dX6_pinned_131 6 rfl ?_
                  refine mw_iconst (v := 1) dX6_pinned_133 (by decide) ?_
                  refine mw_icmp_ne (tgt := 145) dX6_pinned_134 (by decide) (fun hc10 => ?_) (fun hc10 => ?_)
                  · replace h := mh_ifn hc10 h
                    refine mw_iload dX6_pinned_145 0 rfl ?_
                    refine mw_bipush (v := 100) dX6_pinned_147 (by decide) ?_
                    refine mw_irem dX6_pinned_149 (by decide) ?_
                    obtain rfl := Option.some.inj h
                    exact mw_iret dX6_pinned_150 rfl rfl (Nat.le_of_ble_eq_true rfl) (Nat.le_refl 0) mh_ret_rfl
                  · replace h := mh_ifp hc10 h
                    refine mw_iload dX6_pinned_137 0 rfl ?_
                    refine mw_bipush (v := 100) dX6_pinned_139 (by decide) ?_
                    refine mw_idiv dX6_pinned_141 (by decide) ?_
                    refine mw_goto (tgt := 150) dX6_pinned_142 (by decide) ?_
                    obtain rfl := Option.some.inj h
                    exact mw_iret dX6_pinned_150 rfl rfl (Nat.le_of_ble_eq_true rfl) (Nat.le_refl 0) mh_ret_rfl
                · replace h := mh_ifp hc11 h
                  refine mw_iconst (v := 2) dX6_pinned_127 (by decide) ?_
                  refine mw_goto (tgt := 150) dX6_pinned_128 (by decide) ?_
                  obtain rfl := Option.some.inj h
                  exact mw_iret dX6_pinned_150 rfl rfl (Nat.le_of_ble_eq_true rfl) (Nat.le_refl 0) mh_ret_rfl
              · replace h := mh_ifp hc12 h
                refine mw_iconst (v := -1) dX6_pinned_118 (by decide) ?_
                refine mw_goto (tgt := 150) dX6_pinned_119 (by decide) ?_
                obtain rfl := Option.some.inj h
                exact mw_iret dX6_pinned_150 rfl rfl (Nat.le_of_ble_eq_true rfl) (Nat.le_refl 0) mh_ret_rfl
            · replace h := mh_ifn hc15 h
              refine mw_iload dX6_pinned_77 5 rfl ?_
              refine mw_if_ne (tgt := 86) dX6_pinned_79 (by decide) (fun hc14 => ?_) (fun hc14 => ?_)
              · replace h := mh_ifn hc14 h
                refine mw_iload dX6_pinned_86 5 rfl ?_
                refine mw_iconst (v := 1) dX6_pinned_88 (by decide) ?_
                refine mw_icmp_ne (tgt := 100) dX6_pinned_89 (by decide) (fun hc13 => ?_) (fun hc13 => ?_)
                · replace h := mh_ifn hc13 h
                  refine mw_iconst (v := -1) dX6_pinned_100 (by decide) ?_
                  obtain rfl := Option.some.inj h
                  exact mw_iret dX6_pinned_101 rfl rfl (Nat.le_of_ble_eq_true rfl) (Nat.le_refl 0) mh_ret_rfl
                · replace h := mh_ifp hc13 h
                  refine mw_iload dX6_pinned_92 0 rfl ?_
                  refine mw_bipush (v := 100) dX6_pinned_94 (by decide) ?_
                  refine mw_idiv dX6_pinned_96 (by decide) ?_
                  refine mw_goto (tgt := 101) dX6_pinned_97 (by decide) ?_
                  obtain rfl := Option.some.inj h
                  exact mw_iret dX6_pinned_101 rfl rfl (Nat.le_of_ble_eq_true rfl) (Nat.le_refl 0) mh_ret_rfl
              · replace h := mh_ifp hc14 h
                refine mw_iconst (v := 1) dX6_pinned_82 (by decide) ?_
                refine mw_goto (tgt := 101) dX6_pinned_83 (by decide) ?_
                obtain rfl := Option.some.inj h
                exact mw_iret dX6_pinned_101 rfl rfl (Nat.le_of_ble_eq_true rfl) (Nat.le_refl 0) mh_ret_rfl
          · replace h := mh_ifn hc17 h
            refine mw_iload dX6_pinned_50 4 rfl ?_
            refine mw_if_ne (tgt := 59) dX6_pinned_52 (by decide) (fun hc16 => ?_) (fun hc16 => ?_)
            · replace h := mh_ifn hc16 h
              refine mw_iconst (v := -1) dX6_pinned_59 (by decide) ?_
              obtain rfl := Option.some.inj h
              exact mw_iret dX6_pinned_60 rfl rfl (Nat.le_of_ble_eq_true rfl) (Nat.le_refl 0) mh_ret_rfl
            · replace h := mh_ifp hc16 h
              refine mw_iconst (v := 0) dX6_pinned_55 (by decide) ?_
              refine mw_goto (tgt := 60) dX6_pinned_56 (by decide) ?_
              obtain rfl := Option.some.inj h
              exact mw_iret dX6_pinned_60 rfl rfl (Nat.le_of_ble_eq_true rfl) (Nat.le_refl 0) mh_ret_rfl
        · replace h := mh_ifp hc18 h
          refine mw_bipush (v := -7) dX6_pinned_37 (by decide) ?_
          obtain rfl := Option.some.inj h
          exact mw_iret dX6_pinned_39 rfl rfl (Nat.le_of_ble_eq_true rfl) (Nat.le_refl 0) mh_ret_rfl
  · replace h := mh_ifp hc21 h
    refine mw_bipush (v := -5) dX6_pinned_7 (by decide) ?_
    obtain rfl := Option.some.inj h
    exact mw_iret dX6_pinned_9 rfl rfl (Nat.le_of_ble_eq_true rfl) (Nat.le_refl 0) mh_ret_rfl
abbrev w_X6_mending (sh : List mh_C) (Φ : mh_P) (I : mh_I) (L : mh_L) (pc : Nat) (lv : List (Nat × Value)) (st : List Value) : Prop := mh_W RX6 cX6_mending 7 (some .int) false (mh_rm 7) 18 0 0 mh_noX Φ 0 sh I L pc lv st
def X6_mending (p1 : Int32) (p2 : Int32) (p3 : Int32) (I : mh_I) : Option (Int32 × mh_I) := (X6_isLoop p1).bind (fun q1 => if q1 = 0 then some ((-5 : Int32), I) else (X6_isPull p2).bind (fun q2 => if q2 = 0 then some ((-7 : Int32), I) else (X6_in p3 (0 : Int32) (1 : Int32)).bind (fun q3 => if q3 = 0 then some ((-7 : Int32), I) else (X6_runsFrom p1 p2 I).bind (fun q4 => if (q4 0 29) = 0 then if p3 = 0 then some ((-1 : Int32), q4) else some ((0 : Int32), q4) else (X6_sumOf (1 : Int32) q4).bind (fun q5 => mh_b q5.1 (fun b6 => (X6_lowest q5.2).bind (fun q7 => mh_b ((24 : Int32) * ((8 : Int32) - q7)) (fun b8 => mh_j (fun (s9 : Int32) => mh_j (fun (s12 : Int32) => mh_j (fun (s15 : Int32) => mh_j (fun (s18 : Int32) => if p3 = 0 then some (s15, q5.2) else some (s18, q5.2)) (fun J19 => if s12 ≤ ((50 : Int32) + (q5.2 0 29)) then (J19 s12) else (J19 ((50 : Int32) + (q5.2 0 29))))) (fun J16 => if s12 ≤ ((50 : Int32) + (q5.2 0 29)) then (J16 s9) else (J16 (2 : Int32)))) (fun J13 => if b6 ≤ b8 then (J13 b6) else (J13 b8))) (fun J10 => if b6 ≤ b8 then (J10 (0 : Int32)) else (J10 (1 : Int32)))))))))))
set_option maxHeartbeats 4000000 in
set_option maxRecDepth 100000 in
theorem t_X6_mending {L : mh_L} {I : mh_I} {p1 : Int32} {p2 : Int32} {p3 : Int32} {res : Int32 × mh_I} (h : X6_mending p1 p2 p3 I = some res) : mh_CT yX6_mending cX6_mending 7 (some .int) (mh_rm 7) SHM I L [.ref 0, .int p1, .int p2, .int p3] (mh_ret (some (.int res.1)) SHM res.2 L) := by
  refine mh_ofW (ini := false) RX6 rfl (by decide) (fun h => by cases h) (Nat.le_of_ble_eq_true rfl) ?_
  show w_X6_mending SHM (mh_ret (some (.int res.1)) SHM res.2 L) I L 0 [(0, .ref 0), (1, .int p1), (2, .int p2), (3, .int p3)] []
  unfold X6_mending at h
  refine mw_iload_n dX6_mending_0 1 rfl ?_
  obtain ⟨q1, hq1, h⟩ := mh_bind h
  refine mw_sz (dc := 1) cs_X6_155 wd_876 dX6_mending_1 [.int p1] [.int p1] rfl rfl (t_X6_isLoop hq1) ⟨by decide, by decide⟩ (Nat.le_of_ble_eq_true rfl) ⟨rfl, rfl⟩ (fun zq1 => ?_)
  refine mw_if_ne (tgt := 10) dX6_mending_4 (by decide) (fun hc26 => ?_) (fun hc26 => ?_)
  · replace h := mh_ifn hc26 h
    refine mw_iload_n dX6_mending_10 2 rfl ?_
    obtain ⟨q2, hq2, h⟩ := mh_bind h
    refine mw_sz (dc := 1) cs_X6_158 wd_879 dX6_mending_11 [.int p2] [.int p2] rfl rfl (t_X6_isPull hq2) ⟨by decide, by decide⟩ (Nat.le_of_ble_eq_true rfl) ⟨rfl, rfl⟩ (fun zq2 => ?_)
    refine mw_if_eq (tgt := 26) dX6_mending_14 (by decide) (fun hc25 => ?_) (fun hc25 => ?_)
    · replace h := mh_ifp hc25 h
      refine mw_bipush (v := -7) dX6_mending_26 (by decide) ?_
      obtain rfl := Option.some.inj h
      exact mw_iret dX6_mending_28 rfl rfl (Nat.le_of_ble_eq_true rfl) (Nat.le_refl 0) mh_ret_rfl
    · replace h := mh_ifn hc25 h
      refine mw_iload_n dX6_mending_17 3 rfl ?_
      refine mw_iconst (v := 0) dX6_mending_18 (by decide) ?_
      refine mw_iconst (v := 1) dX6_mending_19 (by decide) ?_
      obtain ⟨q3, hq3, h⟩ := mh_bind h
      refine mw_sz (dc := 0) cs_X6_69 wd_722 dX6_mending_20 [.int p3, .int (0 : Int32), .int (1 : Int32)] [.int (1 : Int32), .int (0 : Int32), .int p3] rfl rfl (t_X6_in hq3) ⟨by decide, by decide⟩ (Nat.le_of_ble_eq_true rfl) ⟨rfl, rfl⟩ (fun zq3 => ?_)
      refine mw_if_ne (tgt := 29) dX6_mending_23 (by decide) (fun hc24 => ?_) (fun hc24 => ?_)
      · replace h := mh_ifn hc24 h
        refine mw_aload_n dX6_mending_29 0 rfl ?_
        refine mw_iload_n dX6_mending_30 1 rfl ?_
        refine mw_iload_n dX6_mending_31 2 rfl ?_
        obtain ⟨q4, hq4, h⟩ := mh_bind h
        refine mw_vv (dc := 6) (ci := 6) (fs := fsX6) (T := TX6) (N := 30) cv_X6_213 wd_964 dX6_mending_32 [.int p1, .int p2] [.int p2, .int p1, .ref 0] rfl rfl rfl rfl (t_X6_runsFrom hq4) ⟨by decide, by decide⟩ (Nat.le_of_ble_eq_true rfl) ⟨rfl, rfl⟩ ?_
        refine mw_aload_n dX6_mending_35 0 rfl ?_
        refine mw_geti (fs := fsX6) gf_X6_202 dX6_mending_36 rfl rfl ?_
        refine mw_if_ne (tgt := 52) dX6_mending_39 (by decide) (fun hc23 => ?_) (fun hc23 => ?_)
        · replace h := mh_ifn hc23 h
          refine mw_aload_n dX6_mending_52 0 rfl ?_
          refine mw_iconst (v := 1) dX6_mending_53 (by decide) ?_
          obtain ⟨q5, hq5, h⟩ := mh_bind h
          refine mw_vr (dc := 3) (ci := 6) (fs := fsX6) (T := TX6) (N := 30) cv_X6_220 wd_988 dX6_mending_54 [.int (1 : Int32)] [.int (1 : Int32), .ref 0] rfl rfl rfl rfl (t_X6_sumOf hq5) ⟨by decide, by decide⟩ (Nat.le_of_ble_eq_true rfl) ⟨rfl, rfl⟩ ?_
          obtain ⟨b6, eb6, h⟩ := mh_b_some h
          refine mw_nmi eb6 ?_
          refine mw_istore dX6_mending_57 (by decide) rfl ?_
          refine mw_iconst (v := 0) dX6_mending_59 (by decide) ?_
          refine mw_istore dX6_mending_60 (by decide) rfl ?_
          refine mw_bipush (v := 24) dX6_mending_62 (by decide) ?_
          refine mw_bipush (v := 8) dX6_mending_64 (by decide) ?_
          refine mw_aload_n dX6_mending_66 2 rfl ?_
          obtain ⟨q7, hq7, h⟩ := mh_bind h
          refine mw_vr (dc := 0) (ci := 6) (fs := fsX6) (T := TX6) (N := 30) cv_X6_217 wd_984 dX6_mending_67 [] [.ref 0, .int (8 : Int32), .int (24 : Int32)] rfl rfl rfl rfl (t_X6_lowest hq7) ⟨by decide, by decide⟩ (Nat.le_of_ble_eq_true rfl) ⟨rfl, rfl⟩ ?_
          refine mw_isub dX6_mending_70 ?_
          refine mw_imul dX6_mending_71 ?_
          obtain ⟨b8, eb8, h⟩ := mh_b_some h
          refine mw_nmi eb8 ?_
          refine mw_istore dX6_mending_72 (by decide) rfl ?_
          refine mw_iload dX6_mending_74 0 rfl ?_
          refine mw_iload dX6_mending_76 2 rfl ?_
          refine mh_jw (fun J10 => ∀ (s9 : Int32), J10 s9 = some res → w_X6_mending SHM (mh_ret (some (.int res.1)) SHM res.2 L) q5.2 L 87 [(0, .ref 0), (3, .int p3), (4, .int b6), (6, .int b8)] [.int s9]) h (fun s9 h => ?_) (fun J10 hJ10 h => ?_)
          · refine mw_istore dX6_mending_87 (by decide) rfl ?_
            refine mw_iload dX6_mending_89 4 rfl ?_
            refine mw_iload dX6_mending_91 3 rfl ?_
            refine mh_jw (fun J13 => ∀ (s12 : Int32), J13 s12 = some res → w_X6_mending SHM (mh_ret (some (.int res.1)) SHM res.2 L) q5.2 L 103 [(0, .ref 0), (3, .int p3), (5, .int s9)] [.int s12]) h (fun s12 h => ?_) (fun J13 hJ13 h => ?_)
            · refine mw_istore dX6_mending_103 (by decide) rfl ?_
              refine mw_bipush (v := 50) dX6_mending_105 (by decide) ?_
              refine mw_aload_n dX6_mending_107 1 rfl ?_
              refine mw_geti (fs := fsX6) gf_X6_202 dX6_mending_108 rfl rfl ?_
              refine mw_iadd dX6_mending_111 ?_
              refine mw_iload dX6_mending_112 0 rfl ?_
              refine mh_jw (fun J16 => ∀ (s15 : Int32), J16 s15 = some res → w_X6_mending SHM (mh_ret (some (.int res.1)) SHM res.2 L) q5.2 L 123 [(0, .ref 0), (3, .int p3), (4, .int s12)] [.int s15]) h (fun s15 h => ?_) (fun J16 hJ16 h => ?_)
              · refine mw_istore dX6_mending_123 (by decide) rfl ?_
                refine mw_bipush (v := 50) dX6_mending_125 (by decide) ?_
                refine mw_aload_n dX6_mending_127 1 rfl ?_
                refine mw_geti (fs := fsX6) gf_X6_202 dX6_mending_128 rfl rfl ?_
                refine mw_iadd dX6_mending_131 ?_
                refine mw_iload dX6_mending_132 3 rfl ?_
                refine mh_jw (fun J19 => ∀ (s18 : Int32), J19 s18 = some res → w_X6_mending SHM (mh_ret (some (.int res.1)) SHM res.2 L) q5.2 L 149 [(3, .int p3), (5, .int s15)] [.int s18]) h (fun s18 h => ?_) (fun J19 hJ19 h => ?_)
                · refine mw_istore dX6_mending_149 (by decide) rfl ?_
                  refine mw_iload_n dX6_mending_151 1 rfl ?_
                  refine mw_if_ne (tgt := 160) dX6_mending_152 (by decide) (fun hc21 => ?_) (fun hc21 => ?_)
                  · replace h := mh_ifn hc21 h
                    refine mw_iload dX6_mending_160 0 rfl ?_
                    obtain rfl := Option.some.inj h
                    exact mw_iret dX6_mending_162 rfl rfl (Nat.le_of_ble_eq_true rfl) (Nat.le_refl 0) mh_ret_rfl
                  · replace h := mh_ifp hc21 h
                    refine mw_iload dX6_mending_155 2 rfl ?_
                    refine mw_goto (tgt := 162) dX6_mending_157 (by decide) ?_
                    obtain rfl := Option.some.inj h
                    exact mw_iret dX6_mending_162 rfl rfl (Nat.le_of_ble_eq_true rfl) (Nat.le_refl 0) mh_ret_rfl
                · refine mw_icmp_ge (tgt := 147) dX6_mending_134 (by decide) (fun hc20 => ?_) (fun hc20 => ?_)
                  · replace h := mh_ifp hc20 h
                    refine mw_iload dX6_mending_147 3 rfl ?_
                    refine mw_loc [2, 0] rfl ?_
                    exact hJ19 _ h
                  · replace h := mh_ifn hc20 h
                    refine mw_bipush (v := 50) dX6_mending_137 (by decide) ?_
                    refine mw_aload_n dX6_mending_139 1 rfl ?_
                    refine mw_geti (fs := fsX6) gf_X6_202 dX6_mending_140 rfl rfl ?_
                    refine mw_iadd dX6_mending_143 ?_
                    refine mw_goto (tgt := 149) dX6_mending_144 (by decide) ?_
                    refine mw_loc [2, 0] rfl ?_
                    exact hJ19 _ h
              · refine mw_icmp_ge (tgt := 121) dX6_mending_114 (by decide) (fun hc17 => ?_) (fun hc17 => ?_)
                · replace h := mh_ifp hc17 h
                  refine mw_iload dX6_mending_121 3 rfl ?_
                  refine mw_loc [1, 2, 0] rfl ?_
                  exact hJ16 _ h
                · replace h := mh_ifn hc17 h
                  refine mw_iconst (v := 2) dX6_mending_117 (by decide) ?_
                  refine mw_goto (tgt := 123) dX6_mending_118 (by decide) ?_
                  refine mw_loc [1, 2, 0] rfl ?_
                  exact hJ16 _ h
            · refine mw_icmp_ge (tgt := 101) dX6_mending_93 (by decide) (fun hc14 => ?_) (fun hc14 => ?_)
              · replace h := mh_ifp hc14 h
                refine mw_iload dX6_mending_101 3 rfl ?_
                refine mw_loc [1, 2, 0] rfl ?_
                exact hJ13 _ h
              · replace h := mh_ifn hc14 h
                refine mw_iload dX6_mending_96 4 rfl ?_
                refine mw_goto (tgt := 103) dX6_mending_98 (by decide) ?_
                refine mw_loc [1, 2, 0] rfl ?_
                exact hJ13 _ h
          · refine mw_icmp_ge (tgt := 85) dX6_mending_78 (by decide) (fun hc11 => ?_) (fun hc11 => ?_)
            · replace h := mh_ifp hc11 h
              refine mw_iload dX6_mending_85 1 rfl ?_
              refine mw_loc [3, 6, 2, 0] rfl ?_
              exact hJ10 _ h
            · replace h := mh_ifn hc11 h
              refine mw_iconst (v := 1) dX6_mending_81 (by decide) ?_
              refine mw_goto (tgt := 87) dX6_mending_82 (by decide) ?_
              refine mw_loc [3, 6, 2, 0] rfl ?_
              exact hJ10 _ h
        · replace h := mh_ifp hc23 h
          refine mw_iload_n dX6_mending_42 3 rfl ?_
          refine mw_if_ne (tgt := 50) dX6_mending_43 (by decide) (fun hc22 => ?_) (fun hc22 => ?_)
          · replace h := mh_ifn hc22 h
            refine mw_iconst (v := 0) dX6_mending_50 (by decide) ?_
            obtain rfl := Option.some.inj h
            exact mw_iret dX6_mending_51 rfl rfl (Nat.le_of_ble_eq_true rfl) (Nat.le_refl 0) mh_ret_rfl
          · replace h := mh_ifp hc22 h
            refine mw_iconst (v := -1) dX6_mending_46 (by decide) ?_
            refine mw_goto (tgt := 51) dX6_mending_47 (by decide) ?_
            obtain rfl := Option.some.inj h
            exact mw_iret dX6_mending_51 rfl rfl (Nat.le_of_ble_eq_true rfl) (Nat.le_refl 0) mh_ret_rfl
      · replace h := mh_ifp hc24 h
        refine mw_bipush (v := -7) dX6_mending_26 (by decide) ?_
        obtain rfl := Option.some.inj h
        exact mw_iret dX6_mending_28 rfl rfl (Nat.le_of_ble_eq_true rfl) (Nat.le_refl 0) mh_ret_rfl
  · replace h := mh_ifp hc26 h
    refine mw_bipush (v := -5) dX6_mending_7 (by decide) ?_
    obtain rfl := Option.some.inj h
    exact mw_iret dX6_mending_9 rfl rfl (Nat.le_of_ble_eq_true rfl) (Nat.le_refl 0) mh_ret_rfl
abbrev w_X6_mend (sh : List mh_C) (Φ : mh_P) (I : mh_I) (L : mh_L) (pc : Nat) (lv : List (Nat × Value)) (st : List Value) : Prop := mh_W RX6 cX6_mend 5 (some .int) false (mh_rm 7) 18 0 0 mh_noX Φ 0 sh I L pc lv st
def X6_mend_l31  : Nat → Int32 → Int32 → mh_I → Option (Int32 × mh_I)
  | 0, _, _, _ => none
  | n + 1, u3, u4, I => if (48 : Int32) ≤ u4 then some (u3, I) else mh_ix u4 48 (fun k4 => mh_j (fun (s6 : Int32) => mh_b (u3 + s6) (fun b13 => mh_ix u4 48 (fun k14 => mh_j (fun (s16 : Int32) => mh_ix u4 48 (fun k21 => mh_b (u4 + (1 : Int32)) (fun b23 => (X6_mend_l31  n b13 b23 (mh_u I 4 k21 s16))))) (fun J17 => if (I 17 k14) = (-1 : Int32) then mh_ix u4 48 (fun k18 => (J17 (I 4 k18))) else (J17 (1 : Int32)))))) (fun J7 => mh_j ((J7 (0 : Int32))) (fun J8 => if (I 17 k4) = (-1 : Int32) then J8 else mh_ix u4 48 (fun k9 => if (I 4 k9) = 0 then (J7 (1 : Int32)) else J8))))
set_option maxHeartbeats 4000000 in
set_option maxRecDepth 100000 in
theorem t_X6_mend_l31 {L : mh_L} {res : Int32 × mh_I} (n : Nat) (u3 : Int32) (u4 : Int32) (I : mh_I) (h : X6_mend_l31  n u3 u4 I = some res)  : w_X6_mend SHM (mh_ret (some (.int res.1)) SHM res.2 L) I L 31 [(0, .ref 0), (3, .int u3), (4, .int u4)] [] := by
  induction n generalizing u3 u4 I with
  | zero => rw [X6_mend_l31] at h; cases h
  | succ n ih =>
    rw [X6_mend_l31] at h
    refine mw_iload dX6_mend_31 2 rfl ?_
    refine mw_bipush (v := 48) dX6_mend_33 (by decide) ?_
    refine mw_icmp_ge (tgt := 102) dX6_mend_35 (by decide) (fun hc24 => ?_) (fun hc24 => ?_)
    · replace h := mh_ifp hc24 h
      refine mw_iload_n dX6_mend_102 1 rfl ?_
      obtain rfl := Option.some.inj h
      exact mw_iret dX6_mend_103 rfl rfl (Nat.le_of_ble_eq_true rfl) (Nat.le_refl 0) mh_ret_rfl
    · replace h := mh_ifn hc24 h
      refine mw_iload_n dX6_mend_38 1 rfl ?_
      refine mw_aload_n dX6_mend_39 0 rfl ?_
      refine mw_getr (b := 17) (fs := fsX6) gf_X6_58 dX6_mend_40 rfl rfl ?_
      refine mw_iload dX6_mend_43 2 rfl ?_
      obtain ⟨k4, hk5, hk5n, hk5l, h⟩ := mh_ix_some h
      refine mw_xiald dX6_mend_45 rfl hk5 hk5n ?_
      refine mw_iconst (v := -1) dX6_mend_46 (by decide) ?_
      refine mh_jw (fun J7 => ∀ (s6 : Int32), J7 s6 = some res → w_X6_mend SHM (mh_ret (some (.int res.1)) SHM res.2 L) I L 65 [(0, .ref 0), (4, .int u4)] [.int s6, .int u3]) h (fun s6 h => ?_) (fun J7 hJ7 h => ?_)
      · refine mw_iadd dX6_mend_65 ?_
        obtain ⟨b13, eb13, h⟩ := mh_b_some h
        refine mw_nmi eb13 ?_
        refine mw_istore_n dX6_mend_66 (by decide) rfl ?_
        refine mw_aload_n dX6_mend_67 1 rfl ?_
        refine mw_getr (b := 4) (fs := fsX6) gf_X6_19 dX6_mend_68 rfl rfl ?_
        refine mw_iload dX6_mend_71 2 rfl ?_
        refine mw_aload_n dX6_mend_73 1 rfl ?_
        refine mw_getr (b := 17) (fs := fsX6) gf_X6_58 dX6_mend_74 rfl rfl ?_
        refine mw_iload dX6_mend_77 2 rfl ?_
        obtain ⟨k14, hk15, hk15n, hk15l, h⟩ := mh_ix_some h
        refine mw_xiald dX6_mend_79 rfl hk15 hk15n ?_
        refine mw_iconst (v := -1) dX6_mend_80 (by decide) ?_
        refine mh_jw (fun J17 => ∀ (s16 : Int32), J17 s16 = some res → w_X6_mend SHM (mh_ret (some (.int res.1)) SHM res.2 L) I L 95 [(0, .ref 0), (3, .int b13), (4, .int u4)] [.int s16, .int u4, .ref 4]) h (fun s16 h => ?_) (fun J17 hJ17 h => ?_)
        · obtain ⟨k21, hk22, hk22n, hk22l, h⟩ := mh_ix_some h
          refine mw_xiast dX6_mend_95 rfl hk22 hk22n ?_
          obtain ⟨b23, eb23, h⟩ := mh_b_some h
          refine mw_iinc (v := b23) dX6_mend_96 2 rfl (by rw [← eb23]; rfl) (by decide) rfl ?_
          refine mw_goto (tgt := 31) dX6_mend_99 (by decide) ?_
          refine mw_loc [1, 2, 0] rfl ?_
          exact ih _ _ _ h
        · refine mw_icmp_eq (tgt := 88) dX6_mend_81 (by decide) (fun hc20 => ?_) (fun hc20 => ?_)
          · replace h := mh_ifp hc20 h
            refine mw_aload_n dX6_mend_88 1 rfl ?_
            refine mw_getr (b := 4) (fs := fsX6) gf_X6_19 dX6_mend_89 rfl rfl ?_
            refine mw_iload dX6_mend_92 2 rfl ?_
            obtain ⟨k18, hk19, hk19n, hk19l, h⟩ := mh_ix_some h
            refine mw_xiald dX6_mend_94 rfl hk19 hk19n ?_
            refine mw_loc [1, 0, 2] rfl ?_
            exact hJ17 _ h
          · replace h := mh_ifn hc20 h
            refine mw_iconst (v := 1) dX6_mend_84 (by decide) ?_
            refine mw_goto (tgt := 95) dX6_mend_85 (by decide) ?_
            refine mw_loc [1, 0, 2] rfl ?_
            exact hJ17 _ h
      · refine mh_jw (fun J8 => J8 = some res → w_X6_mend SHM (mh_ret (some (.int res.1)) SHM res.2 L) I L 64 [(0, .ref 0), (4, .int u4)] [.int u3]) h (fun h => ?_) (fun J8 hJ8 h => ?_)
        · refine mw_iconst (v := 0) dX6_mend_64 (by decide) ?_
          refine mw_loc [0, 1] rfl ?_
          exact hJ7 _ h
        · refine mw_icmp_eq (tgt := 64) dX6_mend_47 (by decide) (fun hc12 => ?_) (fun hc12 => ?_)
          · replace h := mh_ifp hc12 h
            refine mw_loc [0, 2] rfl ?_
            exact hJ8  h
          · replace h := mh_ifn hc12 h
            refine mw_aload_n dX6_mend_50 0 rfl ?_
            refine mw_getr (b := 4) (fs := fsX6) gf_X6_19 dX6_mend_51 rfl rfl ?_
            refine mw_iload dX6_mend_54 2 rfl ?_
            obtain ⟨k9, hk10, hk10n, hk10l, h⟩ := mh_ix_some h
            refine mw_xiald dX6_mend_56 rfl hk10 hk10n ?_
            refine mw_if_ne (tgt := 64) dX6_mend_57 (by decide) (fun hc11 => ?_) (fun hc11 => ?_)
            · replace h := mh_ifn hc11 h
              refine mw_loc [0, 2] rfl ?_
              exact hJ8  h
            · replace h := mh_ifp hc11 h
              refine mw_iconst (v := 1) dX6_mend_60 (by decide) ?_
              refine mw_goto (tgt := 65) dX6_mend_61 (by decide) ?_
              refine mw_loc [0, 2] rfl ?_
              exact hJ7 _ h
def X6_mend (p1 : Int32) (p2 : Int32) (I : mh_I) : Option (Int32 × mh_I) := (X6_isLoop p1).bind (fun q1 => if q1 = 0 then some ((-5 : Int32), I) else (X6_isPull p2).bind (fun q2 => if q2 = 0 then some ((-7 : Int32), I) else (X6_runsFrom p1 p2 I).bind (fun q3 => X6_mend_l31 mh_fuel (0 : Int32) (0 : Int32) q3)))
set_option maxHeartbeats 4000000 in
set_option maxRecDepth 100000 in
theorem t_X6_mend {L : mh_L} {I : mh_I} {p1 : Int32} {p2 : Int32} {res : Int32 × mh_I} (h : X6_mend p1 p2 I = some res) : mh_CT yX6_mend cX6_mend 5 (some .int) (mh_rm 7) SHM I L [.ref 0, .int p1, .int p2] (mh_ret (some (.int res.1)) SHM res.2 L) := by
  refine mh_ofW (ini := false) RX6 rfl (by decide) (fun h => by cases h) (Nat.le_of_ble_eq_true rfl) ?_
  show w_X6_mend SHM (mh_ret (some (.int res.1)) SHM res.2 L) I L 0 [(0, .ref 0), (1, .int p1), (2, .int p2)] []
  unfold X6_mend at h
  refine mw_iload_n dX6_mend_0 1 rfl ?_
  obtain ⟨q1, hq1, h⟩ := mh_bind h
  refine mw_sz (dc := 1) cs_X6_155 wd_876 dX6_mend_1 [.int p1] [.int p1] rfl rfl (t_X6_isLoop hq1) ⟨by decide, by decide⟩ (Nat.le_of_ble_eq_true rfl) ⟨rfl, rfl⟩ (fun zq1 => ?_)
  refine mw_if_ne (tgt := 10) dX6_mend_4 (by decide) (fun hc26 => ?_) (fun hc26 => ?_)
  · replace h := mh_ifn hc26 h
    refine mw_iload_n dX6_mend_10 2 rfl ?_
    obtain ⟨q2, hq2, h⟩ := mh_bind h
    refine mw_sz (dc := 1) cs_X6_158 wd_879 dX6_mend_11 [.int p2] [.int p2] rfl rfl (t_X6_isPull hq2) ⟨by decide, by decide⟩ (Nat.le_of_ble_eq_true rfl) ⟨rfl, rfl⟩ (fun zq2 => ?_)
    refine mw_if_ne (tgt := 20) dX6_mend_14 (by decide) (fun hc25 => ?_) (fun hc25 => ?_)
    · replace h := mh_ifn hc25 h
      refine mw_aload_n dX6_mend_20 0 rfl ?_
      refine mw_iload_n dX6_mend_21 1 rfl ?_
      refine mw_iload_n dX6_mend_22 2 rfl ?_
      obtain ⟨q3, hq3, h⟩ := mh_bind h
      refine mw_vv (dc := 6) (ci := 6) (fs := fsX6) (T := TX6) (N := 30) cv_X6_213 wd_964 dX6_mend_23 [.int p1, .int p2] [.int p2, .int p1, .ref 0] rfl rfl rfl rfl (t_X6_runsFrom hq3) ⟨by decide, by decide⟩ (Nat.le_of_ble_eq_true rfl) ⟨rfl, rfl⟩ ?_
      refine mw_iconst (v := 0) dX6_mend_26 (by decide) ?_
      refine mw_istore_n dX6_mend_27 (by decide) rfl ?_
      refine mw_iconst (v := 0) dX6_mend_28 (by decide) ?_
      refine mw_istore dX6_mend_29 (by decide) rfl ?_
      refine mw_loc [2, 1, 0] rfl ?_
      exact t_X6_mend_l31  _ _ _ _ h 
    · replace h := mh_ifp hc25 h
      refine mw_bipush (v := -7) dX6_mend_17 (by decide) ?_
      obtain rfl := Option.some.inj h
      exact mw_iret dX6_mend_19 rfl rfl (Nat.le_of_ble_eq_true rfl) (Nat.le_refl 0) mh_ret_rfl
  · replace h := mh_ifp hc26 h
    refine mw_bipush (v := -5) dX6_mend_7 (by decide) ?_
    obtain rfl := Option.some.inj h
    exact mw_iret dX6_mend_9 rfl rfl (Nat.le_of_ble_eq_true rfl) (Nat.le_refl 0) mh_ret_rfl
abbrev w_X6_block (sh : List mh_C) (Φ : mh_P) (I : mh_I) (L : mh_L) (pc : Nat) (lv : List (Nat × Value)) (st : List Value) : Prop := mh_W RX6 cX6_block 3 (some .int) false (mh_rm 1) 18 0 0 mh_noX Φ 0 sh I L pc lv st
def X6_block_l8 (u1 : Int32) : Nat → Int32 → mh_I → Option (Int32 × mh_I)
  | 0, _, _ => none
  | n + 1, u2, I => if (48 : Int32) ≤ u2 then some (u1, I) else mh_ix u2 48 (fun k2 => mh_b (u2 + (1 : Int32)) (fun b4 => (X6_block_l8 u1 n b4 (mh_u I 4 k2 (0 : Int32)))))
set_option maxHeartbeats 4000000 in
set_option maxRecDepth 100000 in
theorem t_X6_block_l8 {u1 : Int32} {L : mh_L} {res : Int32 × mh_I} (n : Nat) (u2 : Int32) (I : mh_I) (h : X6_block_l8 u1 n u2 I = some res)  : w_X6_block SHM (mh_ret (some (.int res.1)) SHM res.2 L) I L 8 [(0, .ref 0), (1, .int u1), (2, .int u2)] [] := by
  induction n generalizing u2 I with
  | zero => rw [X6_block_l8] at h; cases h
  | succ n ih =>
    rw [X6_block_l8] at h
    refine mw_iload_n dX6_block_8 2 rfl ?_
    refine mw_bipush (v := 48) dX6_block_9 (by decide) ?_
    refine mw_icmp_ge (tgt := 27) dX6_block_11 (by decide) (fun hc5 => ?_) (fun hc5 => ?_)
    · replace h := mh_ifp hc5 h
      refine mw_iload_n dX6_block_27 1 rfl ?_
      obtain rfl := Option.some.inj h
      exact mw_iret dX6_block_28 rfl rfl (Nat.le_of_ble_eq_true rfl) (Nat.le_refl 0) mh_ret_rfl
    · replace h := mh_ifn hc5 h
      refine mw_aload_n dX6_block_14 0 rfl ?_
      refine mw_getr (b := 4) (fs := fsX6) gf_X6_19 dX6_block_15 rfl rfl ?_
      refine mw_iload_n dX6_block_18 2 rfl ?_
      refine mw_iconst (v := 0) dX6_block_19 (by decide) ?_
      obtain ⟨k2, hk3, hk3n, hk3l, h⟩ := mh_ix_some h
      refine mw_xiast dX6_block_20 rfl hk3 hk3n ?_
      obtain ⟨b4, eb4, h⟩ := mh_b_some h
      refine mw_iinc (v := b4) dX6_block_21 2 rfl (by rw [← eb4]; rfl) (by decide) rfl ?_
      refine mw_goto (tgt := 8) dX6_block_24 (by decide) ?_
      refine mw_loc [1, 2, 0] rfl ?_
      exact ih _ _ h
def X6_block (I : mh_I) : Option (Int32 × mh_I) := (X6_manyIn (1 : Int32) I).bind (fun q1 => X6_block_l8 q1 mh_fuel (0 : Int32) I)
set_option maxHeartbeats 4000000 in
set_option maxRecDepth 100000 in
theorem t_X6_block {L : mh_L} {I : mh_I} {res : Int32 × mh_I} (h : X6_block I = some res) : mh_CT yX6_block cX6_block 3 (some .int) (mh_rm 1) SHM I L [.ref 0] (mh_ret (some (.int res.1)) SHM res.2 L) := by
  refine mh_ofW (ini := false) RX6 rfl (by decide) (fun h => by cases h) (Nat.le_of_ble_eq_true rfl) ?_
  show w_X6_block SHM (mh_ret (some (.int res.1)) SHM res.2 L) I L 0 [(0, .ref 0)] []
  unfold X6_block at h
  refine mw_aload_n dX6_block_0 0 rfl ?_
  refine mw_iconst (v := 1) dX6_block_1 (by decide) ?_
  obtain ⟨q1, hq1, h⟩ := mh_bind h
  refine mw_vr (dc := 0) (ci := 6) (fs := fsX6) (T := TX6) (N := 30) cv_X6_73 wd_857 dX6_block_2 [.int (1 : Int32)] [.int (1 : Int32), .ref 0] rfl rfl rfl rfl (t_X6_manyIn hq1) ⟨by decide, by decide⟩ (Nat.le_of_ble_eq_true rfl) ⟨rfl, rfl⟩ ?_
  refine mw_istore_n dX6_block_5 (by decide) rfl ?_
  refine mw_iconst (v := 0) dX6_block_6 (by decide) ?_
  refine mw_istore_n dX6_block_7 (by decide) rfl ?_
  refine mw_loc [2, 1, 0] rfl ?_
  exact t_X6_block_l8  _ _ _ h 
abbrev w_X6_seen (sh : List mh_C) (Φ : mh_P) (I : mh_I) (L : mh_L) (pc : Nat) (lv : List (Nat × Value)) (st : List Value) : Prop := mh_W RX6 cX6_seen 6 (some .long) false (mh_rm 1) 18 0 0 mh_noX Φ 0 sh I L pc lv st
def X6_seen_l4 (I : mh_I) : Nat → Int64 → Int32 → Option (Int64)
  | 0, _, _ => none
  | n + 1, u1, u3 => if (48 : Int32) ≤ u3 then some u1 else mh_j (fun (s1 : Int32) => mh_j (fun (s12 : Int32) => mh_ix u3 48 (fun k23 => mh_j (fun (s25 : Int64) => mh_b (u1 ||| s25) (fun b31 => mh_b (u3 + (1 : Int32)) (fun b32 => (X6_seen_l4 I n b31 b32)))) (fun J26 => mh_j ((J26 (0 : Int64))) (fun J27 => if (I 4 k23) = (1 : Int32) then if s1 = 0 then J27 else if s12 = 0 then J27 else (J26 ((1 : Int64) <<< (u3.toInt64 &&& 63))) else J27)))) (fun J13 => mh_j ((J13 (1 : Int32))) (fun J14 => if (mh_rem u3 (6 : Int32)) = (5 : Int32) then J14 else mh_ix (u3 + (1 : Int32)) 48 (fun k15 => (X6_faceOf (I 1 k15)).bind (fun q17 => mh_ix u3 48 (fun k18 => (X6_faceOf (I 1 k18)).bind (fun q20 => if q17 = q20 then (J13 (0 : Int32)) else J14))))))) (fun J2 => mh_j ((J2 (1 : Int32))) (fun J3 => if (mh_rem u3 (6 : Int32)) = 0 then J3 else mh_ix (u3 - (1 : Int32)) 48 (fun k4 => (X6_faceOf (I 1 k4)).bind (fun q6 => mh_ix u3 48 (fun k7 => (X6_faceOf (I 1 k7)).bind (fun q9 => if q6 = q9 then (J2 (0 : Int32)) else J3))))))
set_option maxHeartbeats 4000000 in
set_option maxRecDepth 100000 in
theorem t_X6_seen_l4 {I : mh_I} {L : mh_L} {res : Int64} (n : Nat) (u1 : Int64) (u3 : Int32) (h : X6_seen_l4 I n u1 u3 = some res)  : w_X6_seen SHM (mh_ret (some (.long res)) SHM I L) I L 4 [(0, .ref 0), (1, .long u1), (3, .int u3)] [] := by
  induction n generalizing u1 u3 with
  | zero => rw [X6_seen_l4] at h; cases h
  | succ n ih =>
    rw [X6_seen_l4] at h
    refine mw_iload_n dX6_seen_4 2 rfl ?_
    refine mw_bipush (v := 48) dX6_seen_5 (by decide) ?_
    refine mw_icmp_ge (tgt := 121) dX6_seen_7 (by decide) (fun hc33 => ?_) (fun hc33 => ?_)
    · replace h := mh_ifp hc33 h
      refine mw_lload_n dX6_seen_121 1 rfl ?_
      obtain rfl := Option.some.inj h
      exact mw_lret dX6_seen_122 rfl (Nat.le_of_ble_eq_true rfl) (Nat.le_refl 0) mh_ret_rfl
    · replace h := mh_ifn hc33 h
      refine mw_iload_n dX6_seen_10 2 rfl ?_
      refine mw_bipush (v := 6) dX6_seen_11 (by decide) ?_
      refine mw_irem dX6_seen_13 (by decide) ?_
      refine mh_jw (fun J2 => ∀ (s1 : Int32), J2 s1 = some res → w_X6_seen SHM (mh_ret (some (.long res)) SHM I L) I L 45 [(0, .ref 0), (1, .long u1), (3, .int u3)] [.int s1]) h (fun s1 h => ?_) (fun J2 hJ2 h => ?_)
      · refine mw_istore dX6_seen_45 (by decide) rfl ?_
        refine mw_iload_n dX6_seen_47 3 rfl ?_
        refine mw_bipush (v := 6) dX6_seen_48 (by decide) ?_
        refine mw_irem dX6_seen_50 (by decide) ?_
        refine mw_iconst (v := 5) dX6_seen_51 (by decide) ?_
        refine mh_jw (fun J13 => ∀ (s12 : Int32), J13 s12 = some res → w_X6_seen SHM (mh_ret (some (.long res)) SHM I L) I L 83 [(0, .ref 0), (1, .long u1), (3, .int u3), (4, .int s1)] [.int s12]) h (fun s12 h => ?_) (fun J13 hJ13 h => ?_)
        · refine mw_istore dX6_seen_83 (by decide) rfl ?_
          refine mw_lload_n dX6_seen_85 2 rfl ?_
          refine mw_aload_n dX6_seen_86 1 rfl ?_
          refine mw_getr (b := 4) (fs := fsX6) gf_X6_19 dX6_seen_87 rfl rfl ?_
          refine mw_iload_n dX6_seen_90 3 rfl ?_
          obtain ⟨k23, hk24, hk24n, hk24l, h⟩ := mh_ix_some h
          refine mw_xiald dX6_seen_91 rfl hk24 hk24n ?_
          refine mw_iconst (v := 1) dX6_seen_92 (by decide) ?_
          refine mh_jw (fun J26 => ∀ (s25 : Int64), J26 s25 = some res → w_X6_seen SHM (mh_ret (some (.long res)) SHM I L) I L 113 [(0, .ref 0), (3, .int u3)] [.long s25, .long u1]) h (fun s25 h => ?_) (fun J26 hJ26 h => ?_)
          · refine mw_lor dX6_seen_113 ?_
            obtain ⟨b31, eb31, h⟩ := mh_b_some h
            refine mw_nml eb31 ?_
            refine mw_lstore_n dX6_seen_114 (by decide) rfl ?_
            obtain ⟨b32, eb32, h⟩ := mh_b_some h
            refine mw_iinc (v := b32) dX6_seen_115 2 rfl (by rw [← eb32]; rfl) (by decide) rfl ?_
            refine mw_goto (tgt := 4) dX6_seen_118 (by decide) ?_
            refine mw_loc [2, 1, 0] rfl ?_
            exact ih _ _ h
          · refine mh_jw (fun J27 => J27 = some res → w_X6_seen SHM (mh_ret (some (.long res)) SHM I L) I L 112 [(0, .ref 0), (3, .int u3)] [.long u1]) h (fun h => ?_) (fun J27 hJ27 h => ?_)
            · refine mw_lconst (v := 0) dX6_seen_112 (by decide) ?_
              refine mw_loc [0, 1] rfl ?_
              exact hJ26 _ h
            · refine mw_icmp_ne (tgt := 112) dX6_seen_93 (by decide) (fun hc30 => ?_) (fun hc30 => ?_)
              · replace h := mh_ifn hc30 h
                refine mw_loc [1, 3] rfl ?_
                exact hJ27  h
              · replace h := mh_ifp hc30 h
                refine mw_iload dX6_seen_96 4 rfl ?_
                refine mw_if_eq (tgt := 112) dX6_seen_98 (by decide) (fun hc29 => ?_) (fun hc29 => ?_)
                · replace h := mh_ifp hc29 h
                  refine mw_loc [1, 3] rfl ?_
                  exact hJ27  h
                · replace h := mh_ifn hc29 h
                  refine mw_iload dX6_seen_101 0 rfl ?_
                  refine mw_if_eq (tgt := 112) dX6_seen_103 (by decide) (fun hc28 => ?_) (fun hc28 => ?_)
                  · replace h := mh_ifp hc28 h
                    refine mw_loc [1, 3] rfl ?_
                    exact hJ27  h
                  · replace h := mh_ifn hc28 h
                    refine mw_lconst (v := 1) dX6_seen_106 (by decide) ?_
                    refine mw_iload_n dX6_seen_107 3 rfl ?_
                    refine mw_lshl dX6_seen_108 ?_
                    refine mw_goto (tgt := 113) dX6_seen_109 (by decide) ?_
                    refine mw_loc [1, 3] rfl ?_
                    exact hJ26 _ h
        · refine mh_jw (fun J14 => J14 = some res → w_X6_seen SHM (mh_ret (some (.long res)) SHM I L) I L 78 [(0, .ref 0), (1, .long u1), (3, .int u3), (4, .int s1)] []) h (fun h => ?_) (fun J14 hJ14 h => ?_)
          · refine mw_iconst (v := 1) dX6_seen_78 (by decide) ?_
            refine mw_goto (tgt := 83) dX6_seen_79 (by decide) ?_
            refine mw_loc [0, 1, 2, 3] rfl ?_
            exact hJ13 _ h
          · refine mw_icmp_eq (tgt := 78) dX6_seen_52 (by decide) (fun hc22 => ?_) (fun hc22 => ?_)
            · replace h := mh_ifp hc22 h
              refine mw_loc [1, 2, 3, 0] rfl ?_
              exact hJ14  h
            · replace h := mh_ifn hc22 h
              refine mw_aload_n dX6_seen_55 1 rfl ?_
              refine mw_getr (b := 1) (fs := fsX6) gf_X6_7 dX6_seen_56 rfl rfl ?_
              refine mw_iload_n dX6_seen_59 3 rfl ?_
              refine mw_iconst (v := 1) dX6_seen_60 (by decide) ?_
              refine mw_iadd dX6_seen_61 ?_
              obtain ⟨k15, hk16, hk16n, hk16l, h⟩ := mh_ix_some h
              refine mw_xiald dX6_seen_62 rfl hk16 hk16n ?_
              obtain ⟨q17, hq17, h⟩ := mh_bind h
              refine mw_sr (dc := 0) cs_X6_146 wd_886 dX6_seen_63 [.int (I 1 k15)] [.int (I 1 k15)] rfl rfl (t_X6_faceOf hq17) ⟨by decide, by decide⟩ (Nat.le_of_ble_eq_true rfl) ⟨rfl, rfl⟩ ?_
              refine mw_aload_n dX6_seen_66 1 rfl ?_
              refine mw_getr (b := 1) (fs := fsX6) gf_X6_7 dX6_seen_67 rfl rfl ?_
              refine mw_iload_n dX6_seen_70 3 rfl ?_
              obtain ⟨k18, hk19, hk19n, hk19l, h⟩ := mh_ix_some h
              refine mw_xiald dX6_seen_71 rfl hk19 hk19n ?_
              obtain ⟨q20, hq20, h⟩ := mh_bind h
              refine mw_sr (dc := 0) cs_X6_146 wd_886 dX6_seen_72 [.int (I 1 k18)] [.int (I 1 k18), .int q17] rfl rfl (t_X6_faceOf hq20) ⟨by decide, by decide⟩ (Nat.le_of_ble_eq_true rfl) ⟨rfl, rfl⟩ ?_
              refine mw_icmp_eq (tgt := 82) dX6_seen_75 (by decide) (fun hc21 => ?_) (fun hc21 => ?_)
              · replace h := mh_ifp hc21 h
                refine mw_iconst (v := 0) dX6_seen_82 (by decide) ?_
                refine mw_loc [1, 2, 3, 0] rfl ?_
                exact hJ13 _ h
              · replace h := mh_ifn hc21 h
                refine mw_loc [1, 2, 3, 0] rfl ?_
                exact hJ14  h
      · refine mh_jw (fun J3 => J3 = some res → w_X6_seen SHM (mh_ret (some (.long res)) SHM I L) I L 40 [(0, .ref 0), (1, .long u1), (3, .int u3)] []) h (fun h => ?_) (fun J3 hJ3 h => ?_)
        · refine mw_iconst (v := 1) dX6_seen_40 (by decide) ?_
          refine mw_goto (tgt := 45) dX6_seen_41 (by decide) ?_
          refine mw_loc [0, 1, 2] rfl ?_
          exact hJ2 _ h
        · refine mw_if_eq (tgt := 40) dX6_seen_14 (by decide) (fun hc11 => ?_) (fun hc11 => ?_)
          · replace h := mh_ifp hc11 h
            refine mw_loc [0, 1, 2] rfl ?_
            exact hJ3  h
          · replace h := mh_ifn hc11 h
            refine mw_aload_n dX6_seen_17 0 rfl ?_
            refine mw_getr (b := 1) (fs := fsX6) gf_X6_7 dX6_seen_18 rfl rfl ?_
            refine mw_iload_n dX6_seen_21 2 rfl ?_
            refine mw_iconst (v := 1) dX6_seen_22 (by decide) ?_
            refine mw_isub dX6_seen_23 ?_
            obtain ⟨k4, hk5, hk5n, hk5l, h⟩ := mh_ix_some h
            refine mw_xiald dX6_seen_24 rfl hk5 hk5n ?_
            obtain ⟨q6, hq6, h⟩ := mh_bind h
            refine mw_sr (dc := 0) cs_X6_146 wd_886 dX6_seen_25 [.int (I 1 k4)] [.int (I 1 k4)] rfl rfl (t_X6_faceOf hq6) ⟨by decide, by decide⟩ (Nat.le_of_ble_eq_true rfl) ⟨rfl, rfl⟩ ?_
            refine mw_aload_n dX6_seen_28 0 rfl ?_
            refine mw_getr (b := 1) (fs := fsX6) gf_X6_7 dX6_seen_29 rfl rfl ?_
            refine mw_iload_n dX6_seen_32 2 rfl ?_
            obtain ⟨k7, hk8, hk8n, hk8l, h⟩ := mh_ix_some h
            refine mw_xiald dX6_seen_33 rfl hk8 hk8n ?_
            obtain ⟨q9, hq9, h⟩ := mh_bind h
            refine mw_sr (dc := 0) cs_X6_146 wd_886 dX6_seen_34 [.int (I 1 k7)] [.int (I 1 k7), .int q6] rfl rfl (t_X6_faceOf hq9) ⟨by decide, by decide⟩ (Nat.le_of_ble_eq_true rfl) ⟨rfl, rfl⟩ ?_
            refine mw_icmp_eq (tgt := 44) dX6_seen_37 (by decide) (fun hc10 => ?_) (fun hc10 => ?_)
            · replace h := mh_ifp hc10 h
              refine mw_iconst (v := 0) dX6_seen_44 (by decide) ?_
              refine mw_loc [0, 1, 2] rfl ?_
              exact hJ2 _ h
            · replace h := mh_ifn hc10 h
              refine mw_loc [0, 1, 2] rfl ?_
              exact hJ3  h
def X6_seen (I : mh_I) : Option (Int64) := X6_seen_l4 I mh_fuel (0 : Int64) (0 : Int32)
set_option maxHeartbeats 4000000 in
set_option maxRecDepth 100000 in
theorem t_X6_seen {L : mh_L} {I : mh_I} {res : Int64} (h : X6_seen I = some res) : mh_CT yX6_seen cX6_seen 6 (some .long) (mh_rm 1) SHM I L [.ref 0] (mh_ret (some (.long res)) SHM I L) := by
  refine mh_ofW (ini := false) RX6 rfl (by decide) (fun h => by cases h) (Nat.le_of_ble_eq_true rfl) ?_
  show w_X6_seen SHM (mh_ret (some (.long res)) SHM I L) I L 0 [(0, .ref 0)] []
  unfold X6_seen at h
  refine mw_lconst (v := 0) dX6_seen_0 (by decide) ?_
  refine mw_lstore_n dX6_seen_1 (by decide) rfl ?_
  refine mw_iconst (v := 0) dX6_seen_2 (by decide) ?_
  refine mw_istore_n dX6_seen_3 (by decide) rfl ?_
  refine mw_loc [2, 1, 0] rfl ?_
  exact t_X6_seen_l4  _ _ _ h 
abbrev w_X6_slack (sh : List mh_C) (Φ : mh_P) (I : mh_I) (L : mh_L) (pc : Nat) (lv : List (Nat × Value)) (st : List Value) : Prop := mh_W RX6 cX6_slack 6 (some .int) false (mh_rm 2) 18 0 0 mh_noX Φ 0 sh I L pc lv st
def X6_slack_l28 (u1 : Int32) (u2 : Int32) (I : mh_I) (k103 : (Int32 → Int32 → Option (Int32))) : Nat → Int32 → Int32 → Int32 → Option (Int32)
  | 0, _, _, _ => none
  | n + 1, u3, u4, u5 => if (6 : Int32) ≤ u5 then (k103 u3 u4) else if u2 ≤ u3 then (k103 u3 u4) else mh_j (fun (v3 : Int32) (v4 : Int32) => mh_j (fun (v11 : Int32) (v12 : Int32) => mh_b (u5 + (1 : Int32)) (fun b20 => (X6_slack_l28 u1 u2 I k103 n v11 v12 b20))) (fun J13 => if (6 : Int32) ≤ ((mh_rem u1 (6 : Int32)) + u5) then (J13 v3 v4) else if u2 ≤ v3 then (J13 v3 v4) else mh_ix (u1 + u5) 48 (fun k14 => mh_b (v3 + (I 2 k14)) (fun b16 => mh_b (v4 + (1 : Int32)) (fun b17 => (J13 b16 b17)))))) (fun J5 => if ((mh_rem u1 (6 : Int32)) - u5) < 0 then (J5 u3 u4) else mh_ix (u1 - u5) 48 (fun k6 => mh_b (u3 + (I 2 k6)) (fun b8 => mh_b (u4 + (1 : Int32)) (fun b9 => (J5 b8 b9)))))
set_option maxHeartbeats 4000000 in
set_option maxRecDepth 100000 in
theorem t_X6_slack_l28 {u1 : Int32} {u2 : Int32} {k103 : (Int32 → Int32 → Option (Int32))} {I : mh_I} {L : mh_L} {res : Int32} (n : Nat) (u3 : Int32) (u4 : Int32) (u5 : Int32) (h : X6_slack_l28 u1 u2 I k103 n u3 u4 u5 = some res) (hk103 : ∀ (u3 : Int32) (u4 : Int32), k103 u3 u4 = some res → w_X6_slack SHM (mh_ret (some (.int res)) SHM I L) I L 103 [(2, .int u2), (3, .int u3), (4, .int u4)] []) : w_X6_slack SHM (mh_ret (some (.int res)) SHM I L) I L 28 [(0, .ref 0), (1, .int u1), (2, .int u2), (3, .int u3), (4, .int u4), (5, .int u5)] [] := by
  induction n generalizing u3 u4 u5 with
  | zero => rw [X6_slack_l28] at h; cases h
  | succ n ih =>
    rw [X6_slack_l28] at h
    refine mw_iload dX6_slack_28 5 rfl ?_
    refine mw_bipush (v := 6) dX6_slack_30 (by decide) ?_
    refine mw_icmp_ge (tgt := 103) dX6_slack_32 (by decide) (fun hc22 => ?_) (fun hc22 => ?_)
    · replace h := mh_ifp hc22 h
      refine mw_loc [2, 3, 4] rfl ?_
      exact hk103 _ _ h
    · replace h := mh_ifn hc22 h
      refine mw_iload_n dX6_slack_35 3 rfl ?_
      refine mw_iload_n dX6_slack_36 2 rfl ?_
      refine mw_icmp_ge (tgt := 103) dX6_slack_37 (by decide) (fun hc21 => ?_) (fun hc21 => ?_)
      · replace h := mh_ifp hc21 h
        refine mw_loc [2, 3, 4] rfl ?_
        exact hk103 _ _ h
      · replace h := mh_ifn hc21 h
        refine mw_iload_n dX6_slack_40 1 rfl ?_
        refine mw_bipush (v := 6) dX6_slack_41 (by decide) ?_
        refine mw_irem dX6_slack_43 (by decide) ?_
        refine mw_iload dX6_slack_44 5 rfl ?_
        refine mw_isub dX6_slack_46 ?_
        refine mh_jw (fun J5 => ∀ (v3 : Int32) (v4 : Int32), J5 v3 v4 = some res → w_X6_slack SHM (mh_ret (some (.int res)) SHM I L) I L 65 [(0, .ref 0), (1, .int u1), (2, .int u2), (3, .int v3), (4, .int v4), (5, .int u5)] []) h (fun v3 v4 h => ?_) (fun J5 hJ5 h => ?_)
        · refine mw_iload_n dX6_slack_65 1 rfl ?_
          refine mw_bipush (v := 6) dX6_slack_66 (by decide) ?_
          refine mw_irem dX6_slack_68 (by decide) ?_
          refine mw_iload dX6_slack_69 5 rfl ?_
          refine mw_iadd dX6_slack_71 ?_
          refine mw_bipush (v := 6) dX6_slack_72 (by decide) ?_
          refine mh_jw (fun J13 => ∀ (v11 : Int32) (v12 : Int32), J13 v11 v12 = some res → w_X6_slack SHM (mh_ret (some (.int res)) SHM I L) I L 97 [(0, .ref 0), (1, .int u1), (2, .int u2), (3, .int v11), (4, .int v12), (5, .int u5)] []) h (fun v11 v12 h => ?_) (fun J13 hJ13 h => ?_)
          · obtain ⟨b20, eb20, h⟩ := mh_b_some h
            refine mw_iinc (v := b20) dX6_slack_97 5 rfl (by rw [← eb20]; rfl) (by decide) rfl ?_
            refine mw_goto (tgt := 28) dX6_slack_100 (by decide) ?_
            refine mw_loc [1, 2, 3, 4, 5, 0] rfl ?_
            exact ih _ _ _ h
          · refine mw_icmp_ge (tgt := 97) dX6_slack_74 (by decide) (fun hc19 => ?_) (fun hc19 => ?_)
            · replace h := mh_ifp hc19 h
              refine mw_loc [0, 1, 2, 3, 4, 5] rfl ?_
              exact hJ13 _ _ h
            · replace h := mh_ifn hc19 h
              refine mw_iload_n dX6_slack_77 3 rfl ?_
              refine mw_iload_n dX6_slack_78 2 rfl ?_
              refine mw_icmp_ge (tgt := 97) dX6_slack_79 (by decide) (fun hc18 => ?_) (fun hc18 => ?_)
              · replace h := mh_ifp hc18 h
                refine mw_loc [0, 1, 2, 3, 4, 5] rfl ?_
                exact hJ13 _ _ h
              · replace h := mh_ifn hc18 h
                refine mw_iload_n dX6_slack_82 3 rfl ?_
                refine mw_aload_n dX6_slack_83 0 rfl ?_
                refine mw_getr (b := 2) (fs := fsX6) gf_X6_13 dX6_slack_84 rfl rfl ?_
                refine mw_iload_n dX6_slack_87 1 rfl ?_
                refine mw_iload dX6_slack_88 5 rfl ?_
                refine mw_iadd dX6_slack_90 ?_
                obtain ⟨k14, hk15, hk15n, hk15l, h⟩ := mh_ix_some h
                refine mw_xiald dX6_slack_91 rfl hk15 hk15n ?_
                refine mw_iadd dX6_slack_92 ?_
                obtain ⟨b16, eb16, h⟩ := mh_b_some h
                refine mw_nmi eb16 ?_
                refine mw_istore_n dX6_slack_93 (by decide) rfl ?_
                obtain ⟨b17, eb17, h⟩ := mh_b_some h
                refine mw_iinc (v := b17) dX6_slack_94 4 rfl (by rw [← eb17]; rfl) (by decide) rfl ?_
                refine mw_loc [2, 3, 4, 1, 0, 5] rfl ?_
                exact hJ13 _ _ h
        · refine mw_if_lt (tgt := 65) dX6_slack_47 (by decide) (fun hc10 => ?_) (fun hc10 => ?_)
          · replace h := mh_ifp hc10 h
            refine mw_loc [0, 1, 2, 3, 4, 5] rfl ?_
            exact hJ5 _ _ h
          · replace h := mh_ifn hc10 h
            refine mw_iload_n dX6_slack_50 3 rfl ?_
            refine mw_aload_n dX6_slack_51 0 rfl ?_
            refine mw_getr (b := 2) (fs := fsX6) gf_X6_13 dX6_slack_52 rfl rfl ?_
            refine mw_iload_n dX6_slack_55 1 rfl ?_
            refine mw_iload dX6_slack_56 5 rfl ?_
            refine mw_isub dX6_slack_58 ?_
            obtain ⟨k6, hk7, hk7n, hk7l, h⟩ := mh_ix_some h
            refine mw_xiald dX6_slack_59 rfl hk7 hk7n ?_
            refine mw_iadd dX6_slack_60 ?_
            obtain ⟨b8, eb8, h⟩ := mh_b_some h
            refine mw_nmi eb8 ?_
            refine mw_istore_n dX6_slack_61 (by decide) rfl ?_
            obtain ⟨b9, eb9, h⟩ := mh_b_some h
            refine mw_iinc (v := b9) dX6_slack_62 4 rfl (by rw [← eb9]; rfl) (by decide) rfl ?_
            refine mw_loc [2, 3, 4, 1, 0, 5] rfl ?_
            exact hJ5 _ _ h
def X6_slack (p1 : Int32) (p2 : Int32) (I : mh_I) : Option (Int32) := (X6_isLoop p1).bind (fun q1 => if q1 = 0 then some (-5 : Int32) else (X6_isPull p2).bind (fun q2 => if q2 = 0 then some (-7 : Int32) else X6_slack_l28 p1 p2 I (fun (v23 : Int32) (v24 : Int32) => if v23 < p2 then some (-1 : Int32) else some v24) mh_fuel (0 : Int32) (0 : Int32) (1 : Int32)))
set_option maxHeartbeats 4000000 in
set_option maxRecDepth 100000 in
theorem t_X6_slack {L : mh_L} {I : mh_I} {p1 : Int32} {p2 : Int32} {res : Int32} (h : X6_slack p1 p2 I = some res) : mh_CT yX6_slack cX6_slack 6 (some .int) (mh_rm 2) SHM I L [.ref 0, .int p1, .int p2] (mh_ret (some (.int res)) SHM I L) := by
  refine mh_ofW (ini := false) RX6 rfl (by decide) (fun h => by cases h) (Nat.le_of_ble_eq_true rfl) ?_
  show w_X6_slack SHM (mh_ret (some (.int res)) SHM I L) I L 0 [(0, .ref 0), (1, .int p1), (2, .int p2)] []
  unfold X6_slack at h
  refine mw_iload_n dX6_slack_0 1 rfl ?_
  obtain ⟨q1, hq1, h⟩ := mh_bind h
  refine mw_sz (dc := 1) cs_X6_155 wd_876 dX6_slack_1 [.int p1] [.int p1] rfl rfl (t_X6_isLoop hq1) ⟨by decide, by decide⟩ (Nat.le_of_ble_eq_true rfl) ⟨rfl, rfl⟩ (fun zq1 => ?_)
  refine mw_if_ne (tgt := 10) dX6_slack_4 (by decide) (fun hc27 => ?_) (fun hc27 => ?_)
  · replace h := mh_ifn hc27 h
    refine mw_iload_n dX6_slack_10 2 rfl ?_
    obtain ⟨q2, hq2, h⟩ := mh_bind h
    refine mw_sz (dc := 1) cs_X6_158 wd_879 dX6_slack_11 [.int p2] [.int p2] rfl rfl (t_X6_isPull hq2) ⟨by decide, by decide⟩ (Nat.le_of_ble_eq_true rfl) ⟨rfl, rfl⟩ (fun zq2 => ?_)
    refine mw_if_ne (tgt := 20) dX6_slack_14 (by decide) (fun hc26 => ?_) (fun hc26 => ?_)
    · replace h := mh_ifn hc26 h
      refine mw_iconst (v := 0) dX6_slack_20 (by decide) ?_
      refine mw_istore_n dX6_slack_21 (by decide) rfl ?_
      refine mw_iconst (v := 0) dX6_slack_22 (by decide) ?_
      refine mw_istore dX6_slack_23 (by decide) rfl ?_
      refine mw_iconst (v := 1) dX6_slack_25 (by decide) ?_
      refine mw_istore dX6_slack_26 (by decide) rfl ?_
      refine mw_loc [3, 4, 5, 2, 1, 0] rfl ?_
      refine t_X6_slack_l28  _ _ _ _ h (fun v23 v24 h => ?_)
      refine mw_iload_n dX6_slack_103 1 rfl ?_
      refine mw_iload_n dX6_slack_104 0 rfl ?_
      refine mw_icmp_lt (tgt := 113) dX6_slack_105 (by decide) (fun hc25 => ?_) (fun hc25 => ?_)
      · replace h := mh_ifp hc25 h
        refine mw_iconst (v := -1) dX6_slack_113 (by decide) ?_
        obtain rfl := Option.some.inj h
        exact mw_iret dX6_slack_114 rfl rfl (Nat.le_of_ble_eq_true rfl) (Nat.le_refl 0) mh_ret_rfl
      · replace h := mh_ifn hc25 h
        refine mw_iload dX6_slack_108 2 rfl ?_
        refine mw_goto (tgt := 114) dX6_slack_110 (by decide) ?_
        obtain rfl := Option.some.inj h
        exact mw_iret dX6_slack_114 rfl rfl (Nat.le_of_ble_eq_true rfl) (Nat.le_refl 0) mh_ret_rfl
    · replace h := mh_ifp hc26 h
      refine mw_bipush (v := -7) dX6_slack_17 (by decide) ?_
      obtain rfl := Option.some.inj h
      exact mw_iret dX6_slack_19 rfl rfl (Nat.le_of_ble_eq_true rfl) (Nat.le_refl 0) mh_ret_rfl
  · replace h := mh_ifp hc27 h
    refine mw_bipush (v := -5) dX6_slack_7 (by decide) ?_
    obtain rfl := Option.some.inj h
    exact mw_iret dX6_slack_9 rfl rfl (Nat.le_of_ble_eq_true rfl) (Nat.le_refl 0) mh_ret_rfl
abbrev w_X6_unlike (sh : List mh_C) (Φ : mh_P) (I : mh_I) (L : mh_L) (pc : Nat) (lv : List (Nat × Value)) (st : List Value) : Prop := mh_W RX6 cX6_unlike 3 (some .int) false (mh_rm 0) 18 0 0 mh_noX Φ 0 sh I L pc lv st
def X6_unlike_l2 (u1 : Int32) (I : mh_I) : Nat → Int32 → Option (Int32)
  | 0, _ => none
  | n + 1, u2 => if (48 : Int32) ≤ u2 then some (-1 : Int32) else mh_ix (((48 : Int32) * u1) + u2) 192 (fun k1 => mh_ix u2 48 (fun k3 => mh_j (fun (s5 : Int32) => if (I 11 k1) = s5 then mh_b (u2 + (1 : Int32)) (fun b8 => (X6_unlike_l2 u1 I n b8)) else some u2) (fun J6 => if (I 17 k3) = (-1 : Int32) then (J6 (0 : Int32)) else (J6 (1 : Int32)))))
set_option maxHeartbeats 4000000 in
set_option maxRecDepth 100000 in
theorem t_X6_unlike_l2 {u1 : Int32} {I : mh_I} {L : mh_L} {res : Int32} (n : Nat) (u2 : Int32) (h : X6_unlike_l2 u1 I n u2 = some res)  : w_X6_unlike SHM (mh_ret (some (.int res)) SHM I L) I L 2 [(0, .ref 0), (1, .int u1), (2, .int u2)] [] := by
  induction n generalizing u2 with
  | zero => rw [X6_unlike_l2] at h; cases h
  | succ n ih =>
    rw [X6_unlike_l2] at h
    refine mw_iload_n dX6_unlike_2 2 rfl ?_
    refine mw_bipush (v := 48) dX6_unlike_3 (by decide) ?_
    refine mw_icmp_ge (tgt := 45) dX6_unlike_5 (by decide) (fun hc10 => ?_) (fun hc10 => ?_)
    · replace h := mh_ifp hc10 h
      refine mw_iconst (v := -1) dX6_unlike_45 (by decide) ?_
      obtain rfl := Option.some.inj h
      exact mw_iret dX6_unlike_46 rfl rfl (Nat.le_of_ble_eq_true rfl) (Nat.le_refl 0) mh_ret_rfl
    · replace h := mh_ifn hc10 h
      refine mw_aload_n dX6_unlike_8 0 rfl ?_
      refine mw_getr (b := 11) (fs := fsX6) gf_X6_40 dX6_unlike_9 rfl rfl ?_
      refine mw_bipush (v := 48) dX6_unlike_12 (by decide) ?_
      refine mw_iload_n dX6_unlike_14 1 rfl ?_
      refine mw_imul dX6_unlike_15 ?_
      refine mw_iload_n dX6_unlike_16 2 rfl ?_
      refine mw_iadd dX6_unlike_17 ?_
      obtain ⟨k1, hk2, hk2n, hk2l, h⟩ := mh_ix_some h
      refine mw_xiald dX6_unlike_18 rfl hk2 hk2n ?_
      refine mw_aload_n dX6_unlike_19 0 rfl ?_
      refine mw_getr (b := 17) (fs := fsX6) gf_X6_58 dX6_unlike_20 rfl rfl ?_
      refine mw_iload_n dX6_unlike_23 2 rfl ?_
      obtain ⟨k3, hk4, hk4n, hk4l, h⟩ := mh_ix_some h
      refine mw_xiald dX6_unlike_24 rfl hk4 hk4n ?_
      refine mw_iconst (v := -1) dX6_unlike_25 (by decide) ?_
      refine mh_jw (fun J6 => ∀ (s5 : Int32), J6 s5 = some res → w_X6_unlike SHM (mh_ret (some (.int res)) SHM I L) I L 34 [(0, .ref 0), (1, .int u1), (2, .int u2)] [.int s5, .int (I 11 k1)]) h (fun s5 h => ?_) (fun J6 hJ6 h => ?_)
      · refine mw_icmp_eq (tgt := 39) dX6_unlike_34 (by decide) (fun hc9 => ?_) (fun hc9 => ?_)
        · replace h := mh_ifp hc9 h
          obtain ⟨b8, eb8, h⟩ := mh_b_some h
          refine mw_iinc (v := b8) dX6_unlike_39 2 rfl (by rw [← eb8]; rfl) (by decide) rfl ?_
          refine mw_goto (tgt := 2) dX6_unlike_42 (by decide) ?_
          refine mw_loc [1, 2, 0] rfl ?_
          exact ih _ h
        · replace h := mh_ifn hc9 h
          refine mw_iload_n dX6_unlike_37 2 rfl ?_
          obtain rfl := Option.some.inj h
          exact mw_iret dX6_unlike_38 rfl rfl (Nat.le_of_ble_eq_true rfl) (Nat.le_refl 0) mh_ret_rfl
      · refine mw_icmp_ne (tgt := 33) dX6_unlike_26 (by decide) (fun hc7 => ?_) (fun hc7 => ?_)
        · replace h := mh_ifn hc7 h
          refine mw_iconst (v := 1) dX6_unlike_33 (by decide) ?_
          refine mw_loc [0, 1, 2] rfl ?_
          exact hJ6 _ h
        · replace h := mh_ifp hc7 h
          refine mw_iconst (v := 0) dX6_unlike_29 (by decide) ?_
          refine mw_goto (tgt := 34) dX6_unlike_30 (by decide) ?_
          refine mw_loc [0, 1, 2] rfl ?_
          exact hJ6 _ h
def X6_unlike (p1 : Int32) (I : mh_I) : Option (Int32) := X6_unlike_l2 p1 I mh_fuel (0 : Int32)
set_option maxHeartbeats 4000000 in
set_option maxRecDepth 100000 in
theorem t_X6_unlike {L : mh_L} {I : mh_I} {p1 : Int32} {res : Int32} (h : X6_unlike p1 I = some res) : mh_CT yX6_unlike cX6_unlike 3 (some .int) (mh_rm 0) SHM I L [.ref 0, .int p1] (mh_ret (some (.int res)) SHM I L) := by
  refine mh_ofW (ini := false) RX6 rfl (by decide) (fun h => by cases h) (Nat.le_of_ble_eq_true rfl) ?_
  show w_X6_unlike SHM (mh_ret (some (.int res)) SHM I L) I L 0 [(0, .ref 0), (1, .int p1)] []
  unfold X6_unlike at h
  refine mw_iconst (v := 0) dX6_unlike_0 (by decide) ?_
  refine mw_istore_n dX6_unlike_1 (by decide) rfl ?_
  refine mw_loc [1, 2, 0] rfl ?_
  exact t_X6_unlike_l2  _ _ h 
abbrev w_X6_ragWrong (sh : List mh_C) (Φ : mh_P) (I : mh_I) (L : mh_L) (pc : Nat) (lv : List (Nat × Value)) (st : List Value) : Prop := mh_W RX6 cX6_ragWrong 5 (some .int) false (mh_rm 2) 18 0 0 mh_noX Φ 0 sh I L pc lv st
def X6_ragWrong (p1 : Int32) (p2 : Int32) (p3 : Int32) (I : mh_I) : Option (Int32) := (X6_sheetWrong p1 (48 : Int32) I).bind (fun q1 => if q1 = 0 then (X6_isLoop p2).bind (fun q2 => if q2 = 0 then some (-5 : Int32) else (X6_isPull p3).bind (fun q3 => if q3 = 0 then some (-7 : Int32) else some (0 : Int32))) else some q1)
set_option maxHeartbeats 4000000 in
set_option maxRecDepth 100000 in
theorem t_X6_ragWrong {L : mh_L} {I : mh_I} {p1 : Int32} {p2 : Int32} {p3 : Int32} {res : Int32} (h : X6_ragWrong p1 p2 p3 I = some res) : mh_CT yX6_ragWrong cX6_ragWrong 5 (some .int) (mh_rm 2) SHM I L [.ref 0, .int p1, .int p2, .int p3] (mh_ret (some (.int res)) SHM I L) := by
  refine mh_ofW (ini := false) RX6 rfl (by decide) (fun h => by cases h) (Nat.le_of_ble_eq_true rfl) ?_
  show w_X6_ragWrong SHM (mh_ret (some (.int res)) SHM I L) I L 0 [(0, .ref 0), (1, .int p1), (2, .int p2), (3, .int p3)] []
  unfold X6_ragWrong at h
  refine mw_aload_n dX6_ragWrong_0 0 rfl ?_
  refine mw_iload_n dX6_ragWrong_1 1 rfl ?_
  refine mw_bipush (v := 48) dX6_ragWrong_2 (by decide) ?_
  obtain ⟨q1, hq1, h⟩ := mh_bind h
  refine mw_vr (dc := 1) (ci := 6) (fs := fsX6) (T := TX6) (N := 30) cv_X6_233 wd_1044 dX6_ragWrong_4 [.int p1, .int (48 : Int32)] [.int (48 : Int32), .int p1, .ref 0] rfl rfl rfl rfl (t_X6_sheetWrong hq1) ⟨by decide, by decide⟩ (Nat.le_of_ble_eq_true rfl) ⟨rfl, rfl⟩ ?_
  refine mw_istore dX6_ragWrong_7 (by decide) rfl ?_
  refine mw_iload dX6_ragWrong_9 0 rfl ?_
  refine mw_if_eq (tgt := 19) dX6_ragWrong_11 (by decide) (fun hc6 => ?_) (fun hc6 => ?_)
  · replace h := mh_ifp hc6 h
    refine mw_iload_n dX6_ragWrong_19 3 rfl ?_
    obtain ⟨q2, hq2, h⟩ := mh_bind h
    refine mw_sz (dc := 1) cs_X6_155 wd_876 dX6_ragWrong_20 [.int p2] [.int p2] rfl rfl (t_X6_isLoop hq2) ⟨by decide, by decide⟩ (Nat.le_of_ble_eq_true rfl) ⟨rfl, rfl⟩ (fun zq2 => ?_)
    refine mw_if_ne (tgt := 31) dX6_ragWrong_23 (by decide) (fun hc5 => ?_) (fun hc5 => ?_)
    · replace h := mh_ifn hc5 h
      refine mw_iload_n dX6_ragWrong_31 4 rfl ?_
      obtain ⟨q3, hq3, h⟩ := mh_bind h
      refine mw_sz (dc := 1) cs_X6_158 wd_879 dX6_ragWrong_32 [.int p3] [.int p3] rfl rfl (t_X6_isPull hq3) ⟨by decide, by decide⟩ (Nat.le_of_ble_eq_true rfl) ⟨rfl, rfl⟩ (fun zq3 => ?_)
      refine mw_if_eq (tgt := 42) dX6_ragWrong_35 (by decide) (fun hc4 => ?_) (fun hc4 => ?_)
      · replace h := mh_ifp hc4 h
        refine mw_bipush (v := -7) dX6_ragWrong_42 (by decide) ?_
        obtain rfl := Option.some.inj h
        exact mw_iret dX6_ragWrong_44 rfl rfl (Nat.le_of_ble_eq_true rfl) (Nat.le_refl 0) mh_ret_rfl
      · replace h := mh_ifn hc4 h
        refine mw_iconst (v := 0) dX6_ragWrong_38 (by decide) ?_
        refine mw_goto (tgt := 44) dX6_ragWrong_39 (by decide) ?_
        obtain rfl := Option.some.inj h
        exact mw_iret dX6_ragWrong_44 rfl rfl (Nat.le_of_ble_eq_true rfl) (Nat.le_refl 0) mh_ret_rfl
    · replace h := mh_ifp hc5 h
      refine mw_bipush (v := -5) dX6_ragWrong_26 (by decide) ?_
      refine mw_goto (tgt := 44) dX6_ragWrong_28 (by decide) ?_
      obtain rfl := Option.some.inj h
      exact mw_iret dX6_ragWrong_44 rfl rfl (Nat.le_of_ble_eq_true rfl) (Nat.le_refl 0) mh_ret_rfl
  · replace h := mh_ifn hc6 h
    refine mw_iload dX6_ragWrong_14 0 rfl ?_
    refine mw_goto (tgt := 44) dX6_ragWrong_16 (by decide) ?_
    obtain rfl := Option.some.inj h
    exact mw_iret dX6_ragWrong_44 rfl rfl (Nat.le_of_ble_eq_true rfl) (Nat.le_refl 0) mh_ret_rfl
abbrev w_X6_judge (sh : List mh_C) (Φ : mh_P) (I : mh_I) (L : mh_L) (pc : Nat) (lv : List (Nat × Value)) (st : List Value) : Prop := mh_W RX6 cX6_judge 5 (some .int) false (mh_rm 7) 18 0 0 mh_noX Φ 0 sh I L pc lv st
def X6_judge (p1 : Int32) (p2 : Int32) (p3 : Int32) (I : mh_I) : Option (Int32 × mh_I) := (X6_ragWrong p1 p2 p3 I).bind (fun q1 => if q1 = 0 then (X6_runsFrom p2 p3 I).bind (fun q2 => (X6_unlike p1 q2).bind (fun q3 => some (q3, q2))) else some (q1, I))
set_option maxHeartbeats 4000000 in
set_option maxRecDepth 100000 in
theorem t_X6_judge {L : mh_L} {I : mh_I} {p1 : Int32} {p2 : Int32} {p3 : Int32} {res : Int32 × mh_I} (h : X6_judge p1 p2 p3 I = some res) : mh_CT yX6_judge cX6_judge 5 (some .int) (mh_rm 7) SHM I L [.ref 0, .int p1, .int p2, .int p3] (mh_ret (some (.int res.1)) SHM res.2 L) := by
  refine mh_ofW (ini := false) RX6 rfl (by decide) (fun h => by cases h) (Nat.le_of_ble_eq_true rfl) ?_
  show w_X6_judge SHM (mh_ret (some (.int res.1)) SHM res.2 L) I L 0 [(0, .ref 0), (1, .int p1), (2, .int p2), (3, .int p3)] []
  unfold X6_judge at h
  refine mw_aload_n dX6_judge_0 0 rfl ?_
  refine mw_iload_n dX6_judge_1 1 rfl ?_
  refine mw_iload_n dX6_judge_2 2 rfl ?_
  refine mw_iload_n dX6_judge_3 3 rfl ?_
  obtain ⟨q1, hq1, h⟩ := mh_bind h
  refine mw_vr (dc := 2) (ci := 6) (fs := fsX6) (T := TX6) (N := 30) cv_X6_243 wd_1088 dX6_judge_4 [.int p1, .int p2, .int p3] [.int p3, .int p2, .int p1, .ref 0] rfl rfl rfl rfl (t_X6_ragWrong hq1) ⟨by decide, by decide⟩ (Nat.le_of_ble_eq_true rfl) ⟨rfl, rfl⟩ ?_
  refine mw_istore dX6_judge_7 (by decide) rfl ?_
  refine mw_iload dX6_judge_9 0 rfl ?_
  refine mw_if_eq (tgt := 17) dX6_judge_11 (by decide) (fun hc4 => ?_) (fun hc4 => ?_)
  · replace h := mh_ifp hc4 h
    refine mw_aload_n dX6_judge_17 1 rfl ?_
    refine mw_iload_n dX6_judge_18 3 rfl ?_
    refine mw_iload_n dX6_judge_19 4 rfl ?_
    obtain ⟨q2, hq2, h⟩ := mh_bind h
    refine mw_vv (dc := 6) (ci := 6) (fs := fsX6) (T := TX6) (N := 30) cv_X6_213 wd_964 dX6_judge_20 [.int p2, .int p3] [.int p3, .int p2, .ref 0] rfl rfl rfl rfl (t_X6_runsFrom hq2) ⟨by decide, by decide⟩ (Nat.le_of_ble_eq_true rfl) ⟨rfl, rfl⟩ ?_
    refine mw_aload_n dX6_judge_23 1 rfl ?_
    refine mw_iload_n dX6_judge_24 2 rfl ?_
    obtain ⟨q3, hq3, h⟩ := mh_bind h
    refine mw_vr (dc := 0) (ci := 6) (fs := fsX6) (T := TX6) (N := 30) cv_X6_246 wd_1092 dX6_judge_25 [.int p1] [.int p1, .ref 0] rfl rfl rfl rfl (t_X6_unlike hq3) ⟨by decide, by decide⟩ (Nat.le_of_ble_eq_true rfl) ⟨rfl, rfl⟩ ?_
    obtain rfl := Option.some.inj h
    exact mw_iret dX6_judge_28 rfl rfl (Nat.le_of_ble_eq_true rfl) (Nat.le_refl 0) mh_ret_rfl
  · replace h := mh_ifn hc4 h
    refine mw_iload dX6_judge_14 0 rfl ?_
    obtain rfl := Option.some.inj h
    exact mw_iret dX6_judge_16 rfl rfl (Nat.le_of_ble_eq_true rfl) (Nat.le_refl 0) mh_ret_rfl
abbrev w_X6_which (sh : List mh_C) (Φ : mh_P) (I : mh_I) (L : mh_L) (pc : Nat) (lv : List (Nat × Value)) (st : List Value) : Prop := mh_W RX6 cX6_which 6 (some .long) false (mh_rm 7) 18 0 0 mh_noX Φ 0 sh I L pc lv st
def X6_which_l19 (u1 : Int32) (u2 : Int32) : Nat → Int64 → Int32 → mh_I → Option (Int64 × mh_I)
  | 0, _, _, _ => none
  | n + 1, u3, u5, I => if (48 : Int32) ≤ u5 then some (u3, I) else (X6_runsFrom u5 u2 I).bind (fun q2 => (X6_unlike u1 q2).bind (fun q3 => mh_j (fun (s4 : Int64) => mh_b (u3 ||| s4) (fun b7 => mh_b (u5 + (1 : Int32)) (fun b8 => (X6_which_l19 u1 u2 n b7 b8 q2)))) (fun J5 => if q3 = (-1 : Int32) then (J5 ((1 : Int64) <<< (u5.toInt64 &&& 63))) else (J5 (0 : Int64)))))
set_option maxHeartbeats 4000000 in
set_option maxRecDepth 100000 in
theorem t_X6_which_l19 {u1 : Int32} {u2 : Int32} {L : mh_L} {res : Int64 × mh_I} (n : Nat) (u3 : Int64) (u5 : Int32) (I : mh_I) (h : X6_which_l19 u1 u2 n u3 u5 I = some res)  : w_X6_which SHM (mh_ret (some (.long res.1)) SHM res.2 L) I L 19 [(0, .ref 0), (1, .int u1), (2, .int u2), (3, .long u3), (5, .int u5)] [] := by
  induction n generalizing u3 u5 I with
  | zero => rw [X6_which_l19] at h; cases h
  | succ n ih =>
    rw [X6_which_l19] at h
    refine mw_iload dX6_which_19 4 rfl ?_
    refine mw_bipush (v := 48) dX6_which_21 (by decide) ?_
    refine mw_icmp_ge (tgt := 59) dX6_which_23 (by decide) (fun hc9 => ?_) (fun hc9 => ?_)
    · replace h := mh_ifp hc9 h
      refine mw_lload_n dX6_which_59 3 rfl ?_
      obtain rfl := Option.some.inj h
      exact mw_lret dX6_which_60 rfl (Nat.le_of_ble_eq_true rfl) (Nat.le_refl 0) mh_ret_rfl
    · replace h := mh_ifn hc9 h
      refine mw_aload_n dX6_which_26 0 rfl ?_
      refine mw_iload dX6_which_27 4 rfl ?_
      refine mw_iload_n dX6_which_29 2 rfl ?_
      obtain ⟨q2, hq2, h⟩ := mh_bind h
      refine mw_vv (dc := 6) (ci := 6) (fs := fsX6) (T := TX6) (N := 30) cv_X6_213 wd_964 dX6_which_30 [.int u5, .int u2] [.int u2, .int u5, .ref 0] rfl rfl rfl rfl (t_X6_runsFrom hq2) ⟨by decide, by decide⟩ (Nat.le_of_ble_eq_true rfl) ⟨rfl, rfl⟩ ?_
      refine mw_lload_n dX6_which_33 3 rfl ?_
      refine mw_aload_n dX6_which_34 0 rfl ?_
      refine mw_iload_n dX6_which_35 1 rfl ?_
      obtain ⟨q3, hq3, h⟩ := mh_bind h
      refine mw_vr (dc := 0) (ci := 6) (fs := fsX6) (T := TX6) (N := 30) cv_X6_246 wd_1092 dX6_which_36 [.int u1] [.int u1, .ref 0, .long u3] rfl rfl rfl rfl (t_X6_unlike hq3) ⟨by decide, by decide⟩ (Nat.le_of_ble_eq_true rfl) ⟨rfl, rfl⟩ ?_
      refine mw_iconst (v := -1) dX6_which_39 (by decide) ?_
      refine mh_jw (fun J5 => ∀ (s4 : Int64), J5 s4 = some res → w_X6_which SHM (mh_ret (some (.long res.1)) SHM res.2 L) q2 L 51 [(0, .ref 0), (1, .int u1), (2, .int u2), (5, .int u5)] [.long s4, .long u3]) h (fun s4 h => ?_) (fun J5 hJ5 h => ?_)
      · refine mw_lor dX6_which_51 ?_
        obtain ⟨b7, eb7, h⟩ := mh_b_some h
        refine mw_nml eb7 ?_
        refine mw_lstore_n dX6_which_52 (by decide) rfl ?_
        obtain ⟨b8, eb8, h⟩ := mh_b_some h
        refine mw_iinc (v := b8) dX6_which_53 4 rfl (by rw [← eb8]; rfl) (by decide) rfl ?_
        refine mw_goto (tgt := 19) dX6_which_56 (by decide) ?_
        refine mw_loc [2, 3, 4, 1, 0] rfl ?_
        exact ih _ _ _ h
      · refine mw_icmp_ne (tgt := 50) dX6_which_40 (by decide) (fun hc6 => ?_) (fun hc6 => ?_)
        · replace h := mh_ifn hc6 h
          refine mw_lconst (v := 0) dX6_which_50 (by decide) ?_
          refine mw_loc [0, 1, 2, 4] rfl ?_
          exact hJ5 _ h
        · replace h := mh_ifp hc6 h
          refine mw_lconst (v := 1) dX6_which_43 (by decide) ?_
          refine mw_iload dX6_which_44 4 rfl ?_
          refine mw_lshl dX6_which_46 ?_
          refine mw_goto (tgt := 51) dX6_which_47 (by decide) ?_
          refine mw_loc [0, 1, 2, 4] rfl ?_
          exact hJ5 _ h
def X6_which (p1 : Int32) (p2 : Int32) (I : mh_I) : Option (Int64 × mh_I) := (X6_ragWrong p1 (0 : Int32) p2 I).bind (fun q1 => if q1 = 0 then X6_which_l19 p1 p2 mh_fuel (0 : Int64) (0 : Int32) I else some ((-4611686018427387904 : Int64), I))
set_option maxHeartbeats 4000000 in
set_option maxRecDepth 100000 in
theorem t_X6_which {L : mh_L} {I : mh_I} {p1 : Int32} {p2 : Int32} {res : Int64 × mh_I} (h : X6_which p1 p2 I = some res) : mh_CT yX6_which cX6_which 6 (some .long) (mh_rm 7) SHM I L [.ref 0, .int p1, .int p2] (mh_ret (some (.long res.1)) SHM res.2 L) := by
  refine mh_ofW (ini := false) RX6 rfl (by decide) (fun h => by cases h) (Nat.le_of_ble_eq_true rfl) ?_
  show w_X6_which SHM (mh_ret (some (.long res.1)) SHM res.2 L) I L 0 [(0, .ref 0), (1, .int p1), (2, .int p2)] []
  unfold X6_which at h
  refine mw_aload_n dX6_which_0 0 rfl ?_
  refine mw_iload_n dX6_which_1 1 rfl ?_
  refine mw_iconst (v := 0) dX6_which_2 (by decide) ?_
  refine mw_iload_n dX6_which_3 2 rfl ?_
  obtain ⟨q1, hq1, h⟩ := mh_bind h
  refine mw_vr (dc := 2) (ci := 6) (fs := fsX6) (T := TX6) (N := 30) cv_X6_243 wd_1088 dX6_which_4 [.int p1, .int (0 : Int32), .int p2] [.int p2, .int (0 : Int32), .int p1, .ref 0] rfl rfl rfl rfl (t_X6_ragWrong hq1) ⟨by decide, by decide⟩ (Nat.le_of_ble_eq_true rfl) ⟨rfl, rfl⟩ ?_
  refine mw_if_eq (tgt := 14) dX6_which_7 (by decide) (fun hc10 => ?_) (fun hc10 => ?_)
  · replace h := mh_ifp hc10 h
    refine mw_lconst (v := 0) dX6_which_14 (by decide) ?_
    refine mw_lstore_n dX6_which_15 (by decide) rfl ?_
    refine mw_iconst (v := 0) dX6_which_16 (by decide) ?_
    refine mw_istore dX6_which_17 (by decide) rfl ?_
    refine mw_loc [2, 3, 4, 1, 0] rfl ?_
    exact t_X6_which_l19  _ _ _ _ h 
  · replace h := mh_ifn hc10 h
    refine mw_ldc2 dX6_which_10 wd_925 ?_
    obtain rfl := Option.some.inj h
    exact mw_lret dX6_which_13 rfl (Nat.le_of_ble_eq_true rfl) (Nat.le_refl 0) mh_ret_rfl
abbrev w_X6_span (sh : List mh_C) (Φ : mh_P) (I : mh_I) (L : mh_L) (pc : Nat) (lv : List (Nat × Value)) (st : List Value) : Prop := mh_W RX6 cX6_span 8 (some .int) false (mh_rm 7) 18 0 0 mh_noX Φ 0 sh I L pc lv st
def X6_span_l45 (u1 : Int32) (u2 : Int32) (k93 : (Int32 → Int32 → mh_I → Option (Int32 × mh_I))) : Nat → Int32 → Int32 → Int32 → mh_I → Option (Int32 × mh_I)
  | 0, _, _, _, _ => none
  | n + 1, u5, u6, u7, I => if (99 : Int32) < u7 then (k93 u5 u6 I) else (X6_runsFrom u2 u7 I).bind (fun q4 => (X6_unlike u1 q4).bind (fun q5 => mh_j (fun (v6 : Int32) (v7 : Int32) => mh_b (u7 + (1 : Int32)) (fun b13 => (X6_span_l45 u1 u2 k93 n v6 v7 b13 q4))) (fun J8 => if q5 = (-1 : Int32) then mh_j (fun (s9 : Int32) => (J8 s9 u7)) (fun J10 => if u5 = (-1 : Int32) then (J10 u7) else (J10 u5)) else (J8 u5 u6))))
set_option maxHeartbeats 4000000 in
set_option maxRecDepth 100000 in
theorem t_X6_span_l45 {u1 : Int32} {u2 : Int32} {u3 : Int32} {k93 : (Int32 → Int32 → mh_I → Option (Int32 × mh_I))} {L : mh_L} {res : Int32 × mh_I} (n : Nat) (u5 : Int32) (u6 : Int32) (u7 : Int32) (I : mh_I) (h : X6_span_l45 u1 u2 k93 n u5 u6 u7 I = some res) (hk93 : ∀ (u5 : Int32) (u6 : Int32) (I : mh_I), k93 u5 u6 I = some res → w_X6_span SHM (mh_ret (some (.int res.1)) SHM res.2 L) I L 93 [(3, .int u3), (5, .int u5), (6, .int u6)] []) : w_X6_span SHM (mh_ret (some (.int res.1)) SHM res.2 L) I L 45 [(0, .ref 0), (1, .int u1), (2, .int u2), (3, .int u3), (5, .int u5), (6, .int u6), (7, .int u7)] [] := by
  induction n generalizing u5 u6 u7 I with
  | zero => rw [X6_span_l45] at h; cases h
  | succ n ih =>
    rw [X6_span_l45] at h
    refine mw_iload dX6_span_45 6 rfl ?_
    refine mw_bipush (v := 99) dX6_span_47 (by decide) ?_
    refine mw_icmp_gt (tgt := 93) dX6_span_49 (by decide) (fun hc14 => ?_) (fun hc14 => ?_)
    · replace h := mh_ifp hc14 h
      refine mw_loc [3, 4, 5] rfl ?_
      exact hk93 _ _ _ h
    · replace h := mh_ifn hc14 h
      refine mw_aload_n dX6_span_52 0 rfl ?_
      refine mw_iload_n dX6_span_53 2 rfl ?_
      refine mw_iload dX6_span_54 6 rfl ?_
      obtain ⟨q4, hq4, h⟩ := mh_bind h
      refine mw_vv (dc := 6) (ci := 6) (fs := fsX6) (T := TX6) (N := 30) cv_X6_213 wd_964 dX6_span_56 [.int u2, .int u7] [.int u7, .int u2, .ref 0] rfl rfl rfl rfl (t_X6_runsFrom hq4) ⟨by decide, by decide⟩ (Nat.le_of_ble_eq_true rfl) ⟨rfl, rfl⟩ ?_
      refine mw_aload_n dX6_span_59 0 rfl ?_
      refine mw_iload_n dX6_span_60 1 rfl ?_
      obtain ⟨q5, hq5, h⟩ := mh_bind h
      refine mw_vr (dc := 0) (ci := 6) (fs := fsX6) (T := TX6) (N := 30) cv_X6_246 wd_1092 dX6_span_61 [.int u1] [.int u1, .ref 0] rfl rfl rfl rfl (t_X6_unlike hq5) ⟨by decide, by decide⟩ (Nat.le_of_ble_eq_true rfl) ⟨rfl, rfl⟩ ?_
      refine mw_iconst (v := -1) dX6_span_64 (by decide) ?_
      refine mh_jw (fun J8 => ∀ (v6 : Int32) (v7 : Int32), J8 v6 v7 = some res → w_X6_span SHM (mh_ret (some (.int res.1)) SHM res.2 L) q4 L 87 [(0, .ref 0), (1, .int u1), (2, .int u2), (3, .int u3), (5, .int v6), (6, .int v7), (7, .int u7)] []) h (fun v6 v7 h => ?_) (fun J8 hJ8 h => ?_)
      · obtain ⟨b13, eb13, h⟩ := mh_b_some h
        refine mw_iinc (v := b13) dX6_span_87 6 rfl (by rw [← eb13]; rfl) (by decide) rfl ?_
        refine mw_goto (tgt := 45) dX6_span_90 (by decide) ?_
        refine mw_loc [1, 2, 3, 4, 5, 6, 0] rfl ?_
        exact ih _ _ _ _ h
      · refine mw_icmp_ne (tgt := 87) dX6_span_65 (by decide) (fun hc12 => ?_) (fun hc12 => ?_)
        · replace h := mh_ifn hc12 h
          refine mw_loc [0, 1, 2, 3, 4, 5, 6] rfl ?_
          exact hJ8 _ _ h
        · replace h := mh_ifp hc12 h
          refine mw_iload dX6_span_68 4 rfl ?_
          refine mw_iconst (v := -1) dX6_span_70 (by decide) ?_
          refine mh_jw (fun J10 => ∀ (s9 : Int32), J10 s9 = some res → w_X6_span SHM (mh_ret (some (.int res.1)) SHM res.2 L) q4 L 81 [(0, .ref 0), (1, .int u1), (2, .int u2), (3, .int u3), (7, .int u7)] [.int s9]) h (fun s9 h => ?_) (fun J10 hJ10 h => ?_)
          · refine mw_istore dX6_span_81 (by decide) rfl ?_
            refine mw_iload dX6_span_83 5 rfl ?_
            refine mw_istore dX6_span_85 (by decide) rfl ?_
            refine mw_loc [2, 3, 4, 5, 1, 0, 6] rfl ?_
            exact hJ8 _ _ h
          · refine mw_icmp_ne (tgt := 79) dX6_span_71 (by decide) (fun hc11 => ?_) (fun hc11 => ?_)
            · replace h := mh_ifn hc11 h
              refine mw_iload dX6_span_79 4 rfl ?_
              refine mw_loc [0, 1, 2, 3, 6] rfl ?_
              exact hJ10 _ h
            · replace h := mh_ifp hc11 h
              refine mw_iload dX6_span_74 6 rfl ?_
              refine mw_goto (tgt := 81) dX6_span_76 (by decide) ?_
              refine mw_loc [0, 1, 2, 3, 6] rfl ?_
              exact hJ10 _ h
def X6_span (p1 : Int32) (p2 : Int32) (p3 : Int32) (I : mh_I) : Option (Int32 × mh_I) := (X6_ragWrong p1 p2 (0 : Int32) I).bind (fun q1 => mh_j (if q1 = 0 then some ((-7 : Int32), I) else some (q1, I)) (fun J2 => if q1 = 0 then (X6_in p3 (0 : Int32) (1 : Int32)).bind (fun q3 => if q3 = 0 then J2 else X6_span_l45 p1 p2 (fun (v15 : Int32) (v16 : Int32) (I17 : mh_I) => if p3 = 0 then some (v15, I17) else some (v16, I17)) mh_fuel (-1 : Int32) (-1 : Int32) (0 : Int32) I) else J2))
set_option maxHeartbeats 4000000 in
set_option maxRecDepth 100000 in
theorem t_X6_span {L : mh_L} {I : mh_I} {p1 : Int32} {p2 : Int32} {p3 : Int32} {res : Int32 × mh_I} (h : X6_span p1 p2 p3 I = some res) : mh_CT yX6_span cX6_span 8 (some .int) (mh_rm 7) SHM I L [.ref 0, .int p1, .int p2, .int p3] (mh_ret (some (.int res.1)) SHM res.2 L) := by
  refine mh_ofW (ini := false) RX6 rfl (by decide) (fun h => by cases h) (Nat.le_of_ble_eq_true rfl) ?_
  show w_X6_span SHM (mh_ret (some (.int res.1)) SHM res.2 L) I L 0 [(0, .ref 0), (1, .int p1), (2, .int p2), (3, .int p3)] []
  unfold X6_span at h
  refine mw_aload_n dX6_span_0 0 rfl ?_
  refine mw_iload_n dX6_span_1 1 rfl ?_
  refine mw_iload_n dX6_span_2 2 rfl ?_
  refine mw_iconst (v := 0) dX6_span_3 (by decide) ?_
  obtain ⟨q1, hq1, h⟩ := mh_bind h
  refine mw_vr (dc := 2) (ci := 6) (fs := fsX6) (T := TX6) (N := 30) cv_X6_243 wd_1088 dX6_span_4 [.int p1, .int p2, .int (0 : Int32)] [.int (0 : Int32), .int p2, .int p1, .ref 0] rfl rfl rfl rfl (t_X6_ragWrong hq1) ⟨by decide, by decide⟩ (Nat.le_of_ble_eq_true rfl) ⟨rfl, rfl⟩ ?_
  refine mw_istore dX6_span_7 (by decide) rfl ?_
  refine mw_iload dX6_span_9 0 rfl ?_
  refine mh_jw (fun J2 => J2 = some res → w_X6_span SHM (mh_ret (some (.int res.1)) SHM res.2 L) I L 23 [(4, .int q1)] []) h (fun h => ?_) (fun J2 hJ2 h => ?_)
  · refine mw_iload dX6_span_23 0 rfl ?_
    refine mw_if_eq (tgt := 33) dX6_span_25 (by decide) (fun hc21 => ?_) (fun hc21 => ?_)
    · replace h := mh_ifp hc21 h
      refine mw_bipush (v := -7) dX6_span_33 (by decide) ?_
      obtain rfl := Option.some.inj h
      exact mw_iret dX6_span_35 rfl rfl (Nat.le_of_ble_eq_true rfl) (Nat.le_refl 0) mh_ret_rfl
    · replace h := mh_ifn hc21 h
      refine mw_iload dX6_span_28 0 rfl ?_
      refine mw_goto (tgt := 35) dX6_span_30 (by decide) ?_
      obtain rfl := Option.some.inj h
      exact mw_iret dX6_span_35 rfl rfl (Nat.le_of_ble_eq_true rfl) (Nat.le_refl 0) mh_ret_rfl
  · refine mw_if_ne (tgt := 23) dX6_span_11 (by decide) (fun hc20 => ?_) (fun hc20 => ?_)
    · replace h := mh_ifn hc20 h
      refine mw_loc [0] rfl ?_
      exact hJ2  h
    · replace h := mh_ifp hc20 h
      refine mw_iload_n dX6_span_14 4 rfl ?_
      refine mw_iconst (v := 0) dX6_span_15 (by decide) ?_
      refine mw_iconst (v := 1) dX6_span_16 (by decide) ?_
      obtain ⟨q3, hq3, h⟩ := mh_bind h
      refine mw_sz (dc := 0) cs_X6_69 wd_722 dX6_span_17 [.int p3, .int (0 : Int32), .int (1 : Int32)] [.int (1 : Int32), .int (0 : Int32), .int p3] rfl rfl (t_X6_in hq3) ⟨by decide, by decide⟩ (Nat.le_of_ble_eq_true rfl) ⟨rfl, rfl⟩ (fun zq3 => ?_)
      refine mw_if_ne (tgt := 36) dX6_span_20 (by decide) (fun hc19 => ?_) (fun hc19 => ?_)
      · replace h := mh_ifn hc19 h
        refine mw_iconst (v := -1) dX6_span_36 (by decide) ?_
        refine mw_istore dX6_span_37 (by decide) rfl ?_
        refine mw_iconst (v := -1) dX6_span_39 (by decide) ?_
        refine mw_istore dX6_span_40 (by decide) rfl ?_
        refine mw_iconst (v := 0) dX6_span_42 (by decide) ?_
        refine mw_istore dX6_span_43 (by decide) rfl ?_
        refine mw_loc [4, 5, 6, 7, 2, 1, 0] rfl ?_
        refine t_X6_span_l45  _ _ _ _ _ h (fun v15 v16 I17 h => ?_)
        refine mw_iload_n dX6_span_93 0 rfl ?_
        refine mw_if_ne (tgt := 102) dX6_span_94 (by decide) (fun hc18 => ?_) (fun hc18 => ?_)
        · replace h := mh_ifn hc18 h
          refine mw_iload dX6_span_102 2 rfl ?_
          obtain rfl := Option.some.inj h
          exact mw_iret dX6_span_104 rfl rfl (Nat.le_of_ble_eq_true rfl) (Nat.le_refl 0) mh_ret_rfl
        · replace h := mh_ifp hc18 h
          refine mw_iload dX6_span_97 1 rfl ?_
          refine mw_goto (tgt := 104) dX6_span_99 (by decide) ?_
          obtain rfl := Option.some.inj h
          exact mw_iret dX6_span_104 rfl rfl (Nat.le_of_ble_eq_true rfl) (Nat.le_refl 0) mh_ret_rfl
      · replace h := mh_ifp hc19 h
        refine mw_loc [0] rfl ?_
        exact hJ2  h
abbrev w_X6_laws (sh : List mh_C) (Φ : mh_P) (I : mh_I) (L : mh_L) (pc : Nat) (lv : List (Nat × Value)) (st : List Value) : Prop := mh_W RX6 cX6_laws 8 (some .int) false (mh_rm 7) 18 0 0 mh_noX Φ 0 sh I L pc lv st
def X6_laws_l29 (u1 : Int32) (u2 : Int32) (u3 : Int32) (k78 : (Int32 → mh_I → Option (Int32 × mh_I))) : Nat → Int32 → Int32 → mh_I → Option (Int32 × mh_I)
  | 0, _, _, _ => none
  | n + 1, u6, u7, I => if (I 0 8) ≤ u7 then (k78 u6 I) else (X6_runsFrom u2 u3 (mh_u I 0 9 u7)).bind (fun q3 => (X6_unlike u1 q3).bind (fun q4 => mh_j (fun (s5 : Int32) => mh_b (u6 ||| s5) (fun b8 => mh_b (u7 + (1 : Int32)) (fun b9 => (X6_laws_l29 u1 u2 u3 k78 n b8 b9 q3)))) (fun J6 => if q4 = (-1 : Int32) then (J6 ((1 : Int32) <<< (u7 &&& 31))) else (J6 (0 : Int32)))))
set_option maxHeartbeats 4000000 in
set_option maxRecDepth 100000 in
theorem t_X6_laws_l29 {u1 : Int32} {u2 : Int32} {u3 : Int32} {u5 : Int32} {k78 : (Int32 → mh_I → Option (Int32 × mh_I))} {L : mh_L} {res : Int32 × mh_I} (n : Nat) (u6 : Int32) (u7 : Int32) (I : mh_I) (h : X6_laws_l29 u1 u2 u3 k78 n u6 u7 I = some res) (hk78 : ∀ (u6 : Int32) (I : mh_I), k78 u6 I = some res → w_X6_laws SHM (mh_ret (some (.int res.1)) SHM res.2 L) I L 78 [(0, .ref 0), (5, .int u5), (6, .int u6)] []) : w_X6_laws SHM (mh_ret (some (.int res.1)) SHM res.2 L) I L 29 [(0, .ref 0), (1, .int u1), (2, .int u2), (3, .int u3), (5, .int u5), (6, .int u6), (7, .int u7)] [] := by
  induction n generalizing u6 u7 I with
  | zero => rw [X6_laws_l29] at h; cases h
  | succ n ih =>
    rw [X6_laws_l29] at h
    refine mw_iload dX6_laws_29 6 rfl ?_
    refine mw_aload_n dX6_laws_31 0 rfl ?_
    refine mw_geti (fs := fsX6) gf_X6_77 dX6_laws_32 rfl rfl ?_
    refine mw_icmp_ge (tgt := 78) dX6_laws_35 (by decide) (fun hc10 => ?_) (fun hc10 => ?_)
    · replace h := mh_ifp hc10 h
      refine mw_loc [0, 4, 5] rfl ?_
      exact hk78 _ _ h
    · replace h := mh_ifn hc10 h
      refine mw_aload_n dX6_laws_38 0 rfl ?_
      refine mw_iload dX6_laws_39 6 rfl ?_
      refine mw_puti (fs := fsX6) pf_X6_80 (fun h => by cases h) rfl rfl dX6_laws_41 rfl rfl ?_
      refine mw_aload_n dX6_laws_44 0 rfl ?_
      refine mw_iload_n dX6_laws_45 2 rfl ?_
      refine mw_iload_n dX6_laws_46 3 rfl ?_
      obtain ⟨q3, hq3, h⟩ := mh_bind h
      refine mw_vv (dc := 6) (ci := 6) (fs := fsX6) (T := TX6) (N := 30) cv_X6_213 wd_964 dX6_laws_47 [.int u2, .int u3] [.int u3, .int u2, .ref 0] rfl rfl rfl rfl (t_X6_runsFrom hq3) ⟨by decide, by decide⟩ (Nat.le_of_ble_eq_true rfl) ⟨rfl, rfl⟩ ?_
      refine mw_iload dX6_laws_50 5 rfl ?_
      refine mw_aload_n dX6_laws_52 0 rfl ?_
      refine mw_iload_n dX6_laws_53 1 rfl ?_
      obtain ⟨q4, hq4, h⟩ := mh_bind h
      refine mw_vr (dc := 0) (ci := 6) (fs := fsX6) (T := TX6) (N := 30) cv_X6_246 wd_1092 dX6_laws_54 [.int u1] [.int u1, .ref 0, .int u6] rfl rfl rfl rfl (t_X6_unlike hq4) ⟨by decide, by decide⟩ (Nat.le_of_ble_eq_true rfl) ⟨rfl, rfl⟩ ?_
      refine mw_iconst (v := -1) dX6_laws_57 (by decide) ?_
      refine mh_jw (fun J6 => ∀ (s5 : Int32), J6 s5 = some res → w_X6_laws SHM (mh_ret (some (.int res.1)) SHM res.2 L) q3 L 69 [(0, .ref 0), (1, .int u1), (2, .int u2), (3, .int u3), (5, .int u5), (7, .int u7)] [.int s5, .int u6]) h (fun s5 h => ?_) (fun J6 hJ6 h => ?_)
      · refine mw_ior dX6_laws_69 ?_
        obtain ⟨b8, eb8, h⟩ := mh_b_some h
        refine mw_nmi eb8 ?_
        refine mw_istore dX6_laws_70 (by decide) rfl ?_
        obtain ⟨b9, eb9, h⟩ := mh_b_some h
        refine mw_iinc (v := b9) dX6_laws_72 6 rfl (by rw [← eb9]; rfl) (by decide) rfl ?_
        refine mw_goto (tgt := 29) dX6_laws_75 (by decide) ?_
        refine mw_loc [2, 3, 4, 5, 6, 1, 0] rfl ?_
        exact ih _ _ _ h
      · refine mw_icmp_ne (tgt := 68) dX6_laws_58 (by decide) (fun hc7 => ?_) (fun hc7 => ?_)
        · replace h := mh_ifn hc7 h
          refine mw_iconst (v := 0) dX6_laws_68 (by decide) ?_
          refine mw_loc [0, 1, 2, 3, 4, 6] rfl ?_
          exact hJ6 _ h
        · replace h := mh_ifp hc7 h
          refine mw_iconst (v := 1) dX6_laws_61 (by decide) ?_
          refine mw_iload dX6_laws_62 6 rfl ?_
          refine mw_ishl dX6_laws_64 ?_
          refine mw_goto (tgt := 69) dX6_laws_65 (by decide) ?_
          refine mw_loc [0, 1, 2, 3, 4, 6] rfl ?_
          exact hJ6 _ h
def X6_laws (p1 : Int32) (p2 : Int32) (p3 : Int32) (I : mh_I) : Option (Int32 × mh_I) := (X6_ragWrong p1 p2 p3 I).bind (fun q1 => if q1 = 0 then mh_b (I 0 9) (fun b2 => X6_laws_l29 p1 p2 p3 (fun (v11 : Int32) (I12 : mh_I) => some (v11, (mh_u I12 0 9 b2))) mh_fuel (0 : Int32) (0 : Int32) I) else some (q1, I))
set_option maxHeartbeats 4000000 in
set_option maxRecDepth 100000 in
theorem t_X6_laws {L : mh_L} {I : mh_I} {p1 : Int32} {p2 : Int32} {p3 : Int32} {res : Int32 × mh_I} (h : X6_laws p1 p2 p3 I = some res) : mh_CT yX6_laws cX6_laws 8 (some .int) (mh_rm 7) SHM I L [.ref 0, .int p1, .int p2, .int p3] (mh_ret (some (.int res.1)) SHM res.2 L) := by
  refine mh_ofW (ini := false) RX6 rfl (by decide) (fun h => by cases h) (Nat.le_of_ble_eq_true rfl) ?_
  show w_X6_laws SHM (mh_ret (some (.int res.1)) SHM res.2 L) I L 0 [(0, .ref 0), (1, .int p1), (2, .int p2), (3, .int p3)] []
  unfold X6_laws at h
  refine mw_aload_n dX6_laws_0 0 rfl ?_
  refine mw_iload_n dX6_laws_1 1 rfl ?_
  refine mw_iload_n dX6_laws_2 2 rfl ?_
  refine mw_iload_n dX6_laws_3 3 rfl ?_
  obtain ⟨q1, hq1, h⟩ := mh_bind h
  refine mw_vr (dc := 2) (ci := 6) (fs := fsX6) (T := TX6) (N := 30) cv_X6_243 wd_1088 dX6_laws_4 [.int p1, .int p2, .int p3] [.int p3, .int p2, .int p1, .ref 0] rfl rfl rfl rfl (t_X6_ragWrong hq1) ⟨by decide, by decide⟩ (Nat.le_of_ble_eq_true rfl) ⟨rfl, rfl⟩ ?_
  refine mw_istore dX6_laws_7 (by decide) rfl ?_
  refine mw_iload dX6_laws_9 0 rfl ?_
  refine mw_if_eq (tgt := 17) dX6_laws_11 (by decide) (fun hc13 => ?_) (fun hc13 => ?_)
  · replace h := mh_ifp hc13 h
    refine mw_aload_n dX6_laws_17 1 rfl ?_
    refine mw_geti (fs := fsX6) gf_X6_80 dX6_laws_18 rfl rfl ?_
    obtain ⟨b2, eb2, h⟩ := mh_b_some h
    refine mw_nmi eb2 ?_
    refine mw_istore dX6_laws_21 (by decide) rfl ?_
    refine mw_iconst (v := 0) dX6_laws_23 (by decide) ?_
    refine mw_istore dX6_laws_24 (by decide) rfl ?_
    refine mw_iconst (v := 0) dX6_laws_26 (by decide) ?_
    refine mw_istore dX6_laws_27 (by decide) rfl ?_
    refine mw_loc [4, 5, 6, 7, 2, 1, 0] rfl ?_
    refine t_X6_laws_l29  _ _ _ _ h (fun v11 I12 h => ?_)
    refine mw_aload_n dX6_laws_78 0 rfl ?_
    refine mw_iload dX6_laws_79 1 rfl ?_
    refine mw_puti (fs := fsX6) pf_X6_80 (fun h => by cases h) rfl rfl dX6_laws_81 rfl rfl ?_
    refine mw_iload dX6_laws_84 2 rfl ?_
    obtain rfl := Option.some.inj h
    exact mw_iret dX6_laws_86 rfl rfl (Nat.le_of_ble_eq_true rfl) (Nat.le_refl 0) mh_ret_rfl
  · replace h := mh_ifn hc13 h
    refine mw_iload dX6_laws_14 0 rfl ?_
    obtain rfl := Option.some.inj h
    exact mw_iret dX6_laws_16 rfl rfl (Nat.le_of_ble_eq_true rfl) (Nat.le_refl 0) mh_ret_rfl
abbrev w_X6_film (sh : List mh_C) (Φ : mh_P) (I : mh_I) (L : mh_L) (pc : Nat) (lv : List (Nat × Value)) (st : List Value) : Prop := mh_W RX6 cX6_film 5 (some .int) false (mh_rm 7) 18 0 0 mh_noX Φ 0 sh I L pc lv st
def X6_film_l56 (u1 : Int32) : Nat → Int32 → mh_I → Option (Int32 × mh_I)
  | 0, _, _ => none
  | n + 1, u4, I => if (48 : Int32) ≤ u4 then some ((48 : Int32), I) else mh_ix u4 48 (fun k9 => mh_j (fun (s11 : Int32) => mh_ix (((48 : Int32) * u1) + u4) 192 (fun k14 => mh_b (u4 + (1 : Int32)) (fun b16 => (X6_film_l56 u1 n b16 (mh_u I 11 k14 s11))))) (fun J12 => if (I 17 k9) = (-1 : Int32) then (J12 (0 : Int32)) else (J12 (1 : Int32))))
set_option maxHeartbeats 4000000 in
set_option maxRecDepth 100000 in
theorem t_X6_film_l56 {u1 : Int32} {L : mh_L} {res : Int32 × mh_I} (n : Nat) (u4 : Int32) (I : mh_I) (h : X6_film_l56 u1 n u4 I = some res)  : w_X6_film SHM (mh_ret (some (.int res.1)) SHM res.2 L) I L 56 [(0, .ref 0), (1, .int u1), (4, .int u4)] [] := by
  induction n generalizing u4 I with
  | zero => rw [X6_film_l56] at h; cases h
  | succ n ih =>
    rw [X6_film_l56] at h
    refine mw_iload dX6_film_56 2 rfl ?_
    refine mw_bipush (v := 48) dX6_film_58 (by decide) ?_
    refine mw_icmp_ge (tgt := 97) dX6_film_60 (by decide) (fun hc17 => ?_) (fun hc17 => ?_)
    · replace h := mh_ifp hc17 h
      refine mw_bipush (v := 48) dX6_film_97 (by decide) ?_
      obtain rfl := Option.some.inj h
      exact mw_iret dX6_film_99 rfl rfl (Nat.le_of_ble_eq_true rfl) (Nat.le_refl 0) mh_ret_rfl
    · replace h := mh_ifn hc17 h
      refine mw_aload_n dX6_film_63 0 rfl ?_
      refine mw_getr (b := 11) (fs := fsX6) gf_X6_40 dX6_film_64 rfl rfl ?_
      refine mw_bipush (v := 48) dX6_film_67 (by decide) ?_
      refine mw_iload_n dX6_film_69 1 rfl ?_
      refine mw_imul dX6_film_70 ?_
      refine mw_iload dX6_film_71 2 rfl ?_
      refine mw_iadd dX6_film_73 ?_
      refine mw_aload_n dX6_film_74 0 rfl ?_
      refine mw_getr (b := 17) (fs := fsX6) gf_X6_58 dX6_film_75 rfl rfl ?_
      refine mw_iload dX6_film_78 2 rfl ?_
      obtain ⟨k9, hk10, hk10n, hk10l, h⟩ := mh_ix_some h
      refine mw_xiald dX6_film_80 rfl hk10 hk10n ?_
      refine mw_iconst (v := -1) dX6_film_81 (by decide) ?_
      refine mh_jw (fun J12 => ∀ (s11 : Int32), J12 s11 = some res → w_X6_film SHM (mh_ret (some (.int res.1)) SHM res.2 L) I L 90 [(0, .ref 0), (1, .int u1), (4, .int u4)] [.int s11, .int (((48 : Int32) * u1) + u4), .ref 11]) h (fun s11 h => ?_) (fun J12 hJ12 h => ?_)
      · obtain ⟨k14, hk15, hk15n, hk15l, h⟩ := mh_ix_some h
        refine mw_xiast dX6_film_90 rfl hk15 hk15n ?_
        obtain ⟨b16, eb16, h⟩ := mh_b_some h
        refine mw_iinc (v := b16) dX6_film_91 2 rfl (by rw [← eb16]; rfl) (by decide) rfl ?_
        refine mw_goto (tgt := 56) dX6_film_94 (by decide) ?_
        refine mw_loc [1, 2, 0] rfl ?_
        exact ih _ _ h
      · refine mw_icmp_ne (tgt := 89) dX6_film_82 (by decide) (fun hc13 => ?_) (fun hc13 => ?_)
        · replace h := mh_ifn hc13 h
          refine mw_iconst (v := 1) dX6_film_89 (by decide) ?_
          refine mw_loc [0, 1, 2] rfl ?_
          exact hJ12 _ h
        · replace h := mh_ifp hc13 h
          refine mw_iconst (v := 0) dX6_film_85 (by decide) ?_
          refine mw_goto (tgt := 90) dX6_film_86 (by decide) ?_
          refine mw_loc [0, 1, 2] rfl ?_
          exact hJ12 _ h
def X6_film (p1 : Int32) (p2 : Int32) (p3 : Int32) (I : mh_I) : Option (Int32 × mh_I) := (X6_in p1 (0 : Int32) (3 : Int32)).bind (fun q1 => if q1 = 0 then some ((-2 : Int32), I) else (X6_isLoop p2).bind (fun q2 => if q2 = 0 then some ((-5 : Int32), I) else (X6_isPull p3).bind (fun q3 => if q3 = 0 then some ((-7 : Int32), I) else (X6_runsFrom p2 p3 I).bind (fun q4 => mh_ix p1 4 (fun k5 => mh_ix p1 4 (fun k7 => X6_film_l56 p1 mh_fuel (0 : Int32) (mh_u (mh_u q4 9 k5 (2 : Int32)) 10 k7 (48 : Int32))))))))
set_option maxHeartbeats 4000000 in
set_option maxRecDepth 100000 in
theorem t_X6_film {L : mh_L} {I : mh_I} {p1 : Int32} {p2 : Int32} {p3 : Int32} {res : Int32 × mh_I} (h : X6_film p1 p2 p3 I = some res) : mh_CT yX6_film cX6_film 5 (some .int) (mh_rm 7) SHM I L [.ref 0, .int p1, .int p2, .int p3] (mh_ret (some (.int res.1)) SHM res.2 L) := by
  refine mh_ofW (ini := false) RX6 rfl (by decide) (fun h => by cases h) (Nat.le_of_ble_eq_true rfl) ?_
  show w_X6_film SHM (mh_ret (some (.int res.1)) SHM res.2 L) I L 0 [(0, .ref 0), (1, .int p1), (2, .int p2), (3, .int p3)] []
  unfold X6_film at h
  refine mw_iload_n dX6_film_0 1 rfl ?_
  refine mw_iconst (v := 0) dX6_film_1 (by decide) ?_
  refine mw_iconst (v := 3) dX6_film_2 (by decide) ?_
  obtain ⟨q1, hq1, h⟩ := mh_bind h
  refine mw_sz (dc := 0) cs_X6_69 wd_722 dX6_film_3 [.int p1, .int (0 : Int32), .int (3 : Int32)] [.int (3 : Int32), .int (0 : Int32), .int p1] rfl rfl (t_X6_in hq1) ⟨by decide, by decide⟩ (Nat.le_of_ble_eq_true rfl) ⟨rfl, rfl⟩ (fun zq1 => ?_)
  refine mw_if_ne (tgt := 12) dX6_film_6 (by decide) (fun hc20 => ?_) (fun hc20 => ?_)
  · replace h := mh_ifn hc20 h
    refine mw_iload_n dX6_film_12 2 rfl ?_
    obtain ⟨q2, hq2, h⟩ := mh_bind h
    refine mw_sz (dc := 1) cs_X6_155 wd_876 dX6_film_13 [.int p2] [.int p2] rfl rfl (t_X6_isLoop hq2) ⟨by decide, by decide⟩ (Nat.le_of_ble_eq_true rfl) ⟨rfl, rfl⟩ (fun zq2 => ?_)
    refine mw_if_ne (tgt := 22) dX6_film_16 (by decide) (fun hc19 => ?_) (fun hc19 => ?_)
    · replace h := mh_ifn hc19 h
      refine mw_iload_n dX6_film_22 3 rfl ?_
      obtain ⟨q3, hq3, h⟩ := mh_bind h
      refine mw_sz (dc := 1) cs_X6_158 wd_879 dX6_film_23 [.int p3] [.int p3] rfl rfl (t_X6_isPull hq3) ⟨by decide, by decide⟩ (Nat.le_of_ble_eq_true rfl) ⟨rfl, rfl⟩ (fun zq3 => ?_)
      refine mw_if_ne (tgt := 32) dX6_film_26 (by decide) (fun hc18 => ?_) (fun hc18 => ?_)
      · replace h := mh_ifn hc18 h
        refine mw_aload_n dX6_film_32 0 rfl ?_
        refine mw_iload_n dX6_film_33 2 rfl ?_
        refine mw_iload_n dX6_film_34 3 rfl ?_
        obtain ⟨q4, hq4, h⟩ := mh_bind h
        refine mw_vv (dc := 6) (ci := 6) (fs := fsX6) (T := TX6) (N := 30) cv_X6_213 wd_964 dX6_film_35 [.int p2, .int p3] [.int p3, .int p2, .ref 0] rfl rfl rfl rfl (t_X6_runsFrom hq4) ⟨by decide, by decide⟩ (Nat.le_of_ble_eq_true rfl) ⟨rfl, rfl⟩ ?_
        refine mw_aload_n dX6_film_38 0 rfl ?_
        refine mw_getr (b := 9) (fs := fsX6) gf_X6_34 dX6_film_39 rfl rfl ?_
        refine mw_iload_n dX6_film_42 1 rfl ?_
        refine mw_iconst (v := 2) dX6_film_43 (by decide) ?_
        obtain ⟨k5, hk6, hk6n, hk6l, h⟩ := mh_ix_some h
        refine mw_xiast dX6_film_44 rfl hk6 hk6n ?_
        refine mw_aload_n dX6_film_45 0 rfl ?_
        refine mw_getr (b := 10) (fs := fsX6) gf_X6_37 dX6_film_46 rfl rfl ?_
        refine mw_iload_n dX6_film_49 1 rfl ?_
        refine mw_bipush (v := 48) dX6_film_50 (by decide) ?_
        obtain ⟨k7, hk8, hk8n, hk8l, h⟩ := mh_ix_some h
        refine mw_xiast dX6_film_52 rfl hk8 hk8n ?_
        refine mw_iconst (v := 0) dX6_film_53 (by decide) ?_
        refine mw_istore dX6_film_54 (by decide) rfl ?_
        refine mw_loc [1, 2, 0] rfl ?_
        exact t_X6_film_l56  _ _ _ h 
      · replace h := mh_ifp hc18 h
        refine mw_bipush (v := -7) dX6_film_29 (by decide) ?_
        obtain rfl := Option.some.inj h
        exact mw_iret dX6_film_31 rfl rfl (Nat.le_of_ble_eq_true rfl) (Nat.le_refl 0) mh_ret_rfl
    · replace h := mh_ifp hc19 h
      refine mw_bipush (v := -5) dX6_film_19 (by decide) ?_
      obtain rfl := Option.some.inj h
      exact mw_iret dX6_film_21 rfl rfl (Nat.le_of_ble_eq_true rfl) (Nat.le_refl 0) mh_ret_rfl
  · replace h := mh_ifp hc20 h
    refine mw_bipush (v := -2) dX6_film_9 (by decide) ?_
    obtain rfl := Option.some.inj h
    exact mw_iret dX6_film_11 rfl rfl (Nat.le_of_ble_eq_true rfl) (Nat.le_refl 0) mh_ret_rfl
abbrev w_X6_missed (sh : List mh_C) (Φ : mh_P) (I : mh_I) (L : mh_L) (pc : Nat) (lv : List (Nat × Value)) (st : List Value) : Prop := mh_W RX6 cX6_missed 7 (some .int) false (mh_rm 0) 18 0 0 mh_noX Φ 0 sh I L pc lv st
def X6_missed_l11 (u2 : Int32) (I : mh_I) : Nat → Int64 → Int32 → Int32 → Option (Int32)
  | 0, _, _, _ => none
  | n + 1, u3, u5, u6 => if (48 : Int32) ≤ u6 then some u5 else mh_ix u6 48 (fun k2 => mh_j (fun (v4 : Int64) (v5 : Int32) => mh_b (u6 + (1 : Int32)) (fun b13 => (X6_missed_l11 u2 I n v4 v5 b13))) (fun J6 => if (I 17 k2) = (-1 : Int32) then (J6 u3 u5) else mh_b (mh_reml (u3 * (48271 : Int64)) (2147483647 : Int64)) (fun b7 => mh_j (fun (s8 : Int32) => mh_b (u5 + s8) (fun b11 => (J6 b7 b11))) (fun J9 => if 0 ≤ (lg_cmp (mh_reml b7 (100 : Int64)) (u2.toInt64)) then (J9 (0 : Int32)) else (J9 (1 : Int32))))))
set_option maxHeartbeats 4000000 in
set_option maxRecDepth 100000 in
theorem t_X6_missed_l11 {u2 : Int32} {I : mh_I} {L : mh_L} {res : Int32} (n : Nat) (u3 : Int64) (u5 : Int32) (u6 : Int32) (h : X6_missed_l11 u2 I n u3 u5 u6 = some res)  : w_X6_missed SHM (mh_ret (some (.int res)) SHM I L) I L 11 [(0, .ref 0), (2, .int u2), (3, .long u3), (5, .int u5), (6, .int u6)] [] := by
  induction n generalizing u3 u5 u6 with
  | zero => rw [X6_missed_l11] at h; cases h
  | succ n ih =>
    rw [X6_missed_l11] at h
    refine mw_iload dX6_missed_11 4 rfl ?_
    refine mw_bipush (v := 48) dX6_missed_13 (by decide) ?_
    refine mw_icmp_ge (tgt := 66) dX6_missed_15 (by decide) (fun hc14 => ?_) (fun hc14 => ?_)
    · replace h := mh_ifp hc14 h
      refine mw_iload dX6_missed_66 3 rfl ?_
      obtain rfl := Option.some.inj h
      exact mw_iret dX6_missed_68 rfl rfl (Nat.le_of_ble_eq_true rfl) (Nat.le_refl 0) mh_ret_rfl
    · replace h := mh_ifn hc14 h
      refine mw_aload_n dX6_missed_18 0 rfl ?_
      refine mw_getr (b := 17) (fs := fsX6) gf_X6_58 dX6_missed_19 rfl rfl ?_
      refine mw_iload dX6_missed_22 4 rfl ?_
      obtain ⟨k2, hk3, hk3n, hk3l, h⟩ := mh_ix_some h
      refine mw_xiald dX6_missed_24 rfl hk3 hk3n ?_
      refine mw_iconst (v := -1) dX6_missed_25 (by decide) ?_
      refine mh_jw (fun J6 => ∀ (v4 : Int64) (v5 : Int32), J6 v4 v5 = some res → w_X6_missed SHM (mh_ret (some (.int res)) SHM I L) I L 60 [(0, .ref 0), (2, .int u2), (3, .long v4), (5, .int v5), (6, .int u6)] []) h (fun v4 v5 h => ?_) (fun J6 hJ6 h => ?_)
      · obtain ⟨b13, eb13, h⟩ := mh_b_some h
        refine mw_iinc (v := b13) dX6_missed_60 4 rfl (by rw [← eb13]; rfl) (by decide) rfl ?_
        refine mw_goto (tgt := 11) dX6_missed_63 (by decide) ?_
        refine mw_loc [1, 2, 3, 4, 0] rfl ?_
        exact ih _ _ _ h
      · refine mw_icmp_eq (tgt := 60) dX6_missed_26 (by decide) (fun hc12 => ?_) (fun hc12 => ?_)
        · replace h := mh_ifp hc12 h
          refine mw_loc [0, 1, 2, 3, 4] rfl ?_
          exact hJ6 _ _ h
        · replace h := mh_ifn hc12 h
          refine mw_lload_n dX6_missed_29 2 rfl ?_
          refine mw_ldc2 dX6_missed_30 wd_1121 ?_
          refine mw_lmul dX6_missed_33 ?_
          refine mw_ldc2 dX6_missed_34 wd_1122 ?_
          refine mw_lrem dX6_missed_37 (by decide) ?_
          obtain ⟨b7, eb7, h⟩ := mh_b_some h
          refine mw_nml eb7 ?_
          refine mw_lstore_n dX6_missed_38 (by decide) rfl ?_
          refine mw_iload dX6_missed_39 3 rfl ?_
          refine mw_lload_n dX6_missed_41 0 rfl ?_
          refine mw_ldc2 dX6_missed_42 wd_1123 ?_
          refine mw_lrem dX6_missed_45 (by decide) ?_
          refine mw_iload_n dX6_missed_46 2 rfl ?_
          refine mw_i2l dX6_missed_47 ?_
          refine mw_lcmp dX6_missed_48 ?_
          refine mh_jw (fun J9 => ∀ (s8 : Int32), J9 s8 = some res → w_X6_missed SHM (mh_ret (some (.int res)) SHM I L) I L 57 [(0, .ref 0), (2, .int u2), (3, .long b7), (6, .int u6)] [.int s8, .int u5]) h (fun s8 h => ?_) (fun J9 hJ9 h => ?_)
          · refine mw_iadd dX6_missed_57 ?_
            obtain ⟨b11, eb11, h⟩ := mh_b_some h
            refine mw_nmi eb11 ?_
            refine mw_istore dX6_missed_58 (by decide) rfl ?_
            refine mw_loc [1, 2, 3, 0, 4] rfl ?_
            exact hJ6 _ _ h
          · refine mw_if_ge (tgt := 56) dX6_missed_49 (by decide) (fun hc10 => ?_) (fun hc10 => ?_)
            · replace h := mh_ifp hc10 h
              refine mw_iconst (v := 0) dX6_missed_56 (by decide) ?_
              refine mw_loc [1, 2, 0, 4] rfl ?_
              exact hJ9 _ h
            · replace h := mh_ifn hc10 h
              refine mw_iconst (v := 1) dX6_missed_52 (by decide) ?_
              refine mw_goto (tgt := 57) dX6_missed_53 (by decide) ?_
              refine mw_loc [1, 2, 0, 4] rfl ?_
              exact hJ9 _ h
def X6_missed (p1 : Int32) (p2 : Int32) (I : mh_I) : Option (Int32) := mh_b ((p1.toInt64) + (1 : Int64)) (fun b1 => X6_missed_l11 p2 I mh_fuel b1 (0 : Int32) (0 : Int32))
set_option maxHeartbeats 4000000 in
set_option maxRecDepth 100000 in
theorem t_X6_missed {L : mh_L} {I : mh_I} {p1 : Int32} {p2 : Int32} {res : Int32} (h : X6_missed p1 p2 I = some res) : mh_CT yX6_missed cX6_missed 7 (some .int) (mh_rm 0) SHM I L [.ref 0, .int p1, .int p2] (mh_ret (some (.int res)) SHM I L) := by
  refine mh_ofW (ini := false) RX6 rfl (by decide) (fun h => by cases h) (Nat.le_of_ble_eq_true rfl) ?_
  show w_X6_missed SHM (mh_ret (some (.int res)) SHM I L) I L 0 [(0, .ref 0), (1, .int p1), (2, .int p2)] []
  unfold X6_missed at h
  refine mw_iload_n dX6_missed_0 1 rfl ?_
  refine mw_i2l dX6_missed_1 ?_
  refine mw_lconst (v := 1) dX6_missed_2 (by decide) ?_
  refine mw_ladd dX6_missed_3 ?_
  obtain ⟨b1, eb1, h⟩ := mh_b_some h
  refine mw_nml eb1 ?_
  refine mw_lstore_n dX6_missed_4 (by decide) rfl ?_
  refine mw_iconst (v := 0) dX6_missed_5 (by decide) ?_
  refine mw_istore dX6_missed_6 (by decide) rfl ?_
  refine mw_iconst (v := 0) dX6_missed_8 (by decide) ?_
  refine mw_istore dX6_missed_9 (by decide) rfl ?_
  refine mw_loc [3, 5, 2, 1, 0] rfl ?_
  exact t_X6_missed_l11  _ _ _ _ h 
abbrev w_X6_isSeed (sh : List mh_C) (Φ : mh_P) (I : mh_I) (L : mh_L) (pc : Nat) (lv : List (Nat × Value)) (st : List Value) : Prop := mh_W RX6 cX6_isSeed 1 (some .boolean) false (mh_rm 1) 18 0 0 mh_noX Φ 0 sh I L pc lv st
def X6_isSeed (p0 : Int32) : Option (Int32) := (X6_in p0 (0 : Int32) (99999 : Int32)).bind (fun q1 => some q1)
set_option maxHeartbeats 4000000 in
set_option maxRecDepth 100000 in
theorem t_X6_isSeed {L : mh_L} {I : mh_I} {p0 : Int32} {res : Int32} (h : X6_isSeed p0 = some res) : mh_CT yX6_isSeed cX6_isSeed 1 (some .boolean) (mh_rm 1) SHM I L [.int p0] (mh_retz res SHM I L) := by
  refine mh_ofW (ini := false) RX6 rfl (by decide) (fun h => by cases h) (Nat.le_of_ble_eq_true rfl) ?_
  show w_X6_isSeed SHM (mh_retz res SHM I L) I L 0 [(0, .int p0)] []
  unfold X6_isSeed at h
  refine mw_iload_n dX6_isSeed_0 0 rfl ?_
  refine mw_iconst (v := 0) dX6_isSeed_1 (by decide) ?_
  refine mw_ldc dX6_isSeed_2 wd_1116 ?_
  obtain ⟨q1, hq1, h⟩ := mh_bind h
  refine mw_sz (dc := 0) cs_X6_69 wd_722 dX6_isSeed_4 [.int p0, .int (0 : Int32), .int (99999 : Int32)] [.int (99999 : Int32), .int (0 : Int32), .int p0] rfl rfl (t_X6_in hq1) ⟨by decide, by decide⟩ (Nat.le_of_ble_eq_true rfl) ⟨rfl, rfl⟩ (fun zq1 => ?_)
  obtain rfl := Option.some.inj h
  exact mw_zret dX6_isSeed_7 rfl zq1 (Nat.le_of_ble_eq_true rfl) (Nat.le_refl 0) (mh_retz_rfl zq1)
